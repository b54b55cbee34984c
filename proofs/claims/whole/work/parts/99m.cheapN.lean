abbrev FmLP (A A' : FI) : Prop := FmO 31 [50, 51, 52, 53, 54, 64] [36] A A'
abbrev lpL (bs : Int32) (a b c x y z : Nat) (o8 o9 : Option AV) : List (Option AV) := [some (.inr (.inr (some (31, 0)))), some (.inl bs), some (.inl (maI a)), some (.inl (maI b)), some (.inl (maI c)), some (.inl (nI x)), some (.inl (nI y)), some (.inl (nI z)), o8, o9]
theorem mai_ne {m f : Nat} (hm : m ≤ 8) (hf : f < 8) : nI f = maI m ↔ f = m := by
  unfold maI
  by_cases h : m = 8
  · rw [if_pos h]
    exact ⟨fun e => absurd e (nI_n1 hf), fun e => by omega⟩
  · rw [if_neg h]
    exact ⟨fun e => nI_ij (by omega) (by omega) e, fun e => by rw [e]⟩
/-- the one that is tried -/
def tzF (q0 : Nat → Nat) (a b c x y z : Nat) : Nat → Nat := svF c (svF b (svF a q0 x) y) z
theorem tz_at {q0 : Nat → Nat} {a b c x y z f : Nat} (hf : f < 8) (hab : a < 8 → b ≠ a ∧ c ≠ a) (hbc : b < 8 → c ≠ b) : tzF q0 a b c x y z f = if f = a then x else if f = b then y else if f = c then z else q0 f := by
  unfold tzF svF
  by_cases ha : a < 8 <;> by_cases hb : b < 8 <;> by_cases hc : c < 8 <;> simp only [ha, hb, hc, if_true, if_false, stF]
  all_goals (repeat' split) <;> first | rfl | (exfalso; omega)
theorem l_who {q0 : Nat → Nat} {bs : Int32} {a b c x y z : Nat} (ha : a ≤ 8) (hb : b ≤ 8) (hc : c ≤ 8) (hab : a < 8 → b ≠ a ∧ c ≠ a) (hbc : b < 8 → c ≠ b) {A0 : FI} {B : FJ} (h63 : ∀ f, f < 8 → A0 63 0 f = nI (q0 f)) {Q : Option AV → AH → Prop} (kend : ∀ A, FmO 31 [52] [] A0 A → (∀ f, f < 8 → A 52 0 f = nI (tzF q0 a b c x y z f)) → ∀ o9, Rn 3 mtX12_leastPrice 143 (lpL bs a b c x y z (some (.inl (nI 8))) o9) [] (hp A B) Q) : ∀ (m k : Nat) (A : FI), k + m = 8 → FmO 31 [52] [] A0 A → (∀ f, f < k → A 52 0 f = nI (tzF q0 a b c x y z f)) → ∀ o9, Rn 3 mtX12_leastPrice 82 (lpL bs a b c x y z (some (.inl (nI k))) o9) [] (hp A B) Q := by
  intro m
  induction m with
  | zero =>
    intro k A hk hF h o9
    have : k = 8 := by omega
    subst this
    refine R_go 9999 rfl rfl trivial ?_
    refine R_br rfl rfl (fun _ => ?_) (fun h => absurd (by decide) h)
    exact kend A hF h o9
  | succ m ih =>
    intro k A hk hF h o9
    have tk := ti k (by omega)
    have ck : (nI k).toNatClampNeg = k := nI_clamp (by omega)
    have hvk : vp_in (nI k) 8 := vpN (n := 8) (by omega) rfl
    have hk8 : k < 8 := by omega
    have et := tz_at (q0 := q0) (x := x) (y := y) (z := z) hk8 hab hbc
    have fin : ∀ v : Nat, v = tzF q0 a b c x y z k → Rn 3 mtX12_leastPrice 136 (lpL bs a b c x y z (some (.inl (nI k))) o9) [.inl (nI v), .inl (nI k), .inr (.inr (some (52, 0)))] (hp A B) Q := fun v hv => by
      refine R_go 82 rfl rfl hvk ?_
      rw [ck, nI_1]
      refine ih (k + 1) _ (by omega) (FmO_tr hF (by first | exact FmO_rf | (repeat' (first | exact FmO_rf | (with_reducible assumption) | (refine FmO_up ?_ (by decide)) | (refine FmO_ug ?_ (by decide) (by decide)))))) (fun f hf => ?_) _
      by_cases e : f = k
      · subst e; rw [up3_self, hv]
      · rw [up3_s e]; exact h f (by omega)
    refine R_go 9999 rfl rfl trivial ?_
    refine R_br rfl rfl (fun h => absurd h (by (simp only [i_eq, i_lt, i_le, Int32.reduceToInt, true_and, and_true, false_and, and_false, or_false, false_or, or_true, true_or, ne_eq] at *; first | done | omega))) (fun _ => ?_)
    refine R_go 9999 rfl rfl trivial ?_
    by_cases e1 : k = a
    · rw [if_pos e1] at et
      refine R_br rfl rfl (fun _ => ?_) (fun h => absurd ((mai_ne ha hk8).mpr e1) h)
      refine R_go 136 rfl rfl trivial ?_
      exact fin x et.symm
    · rw [if_neg e1] at et
      refine R_br rfl rfl (fun h => absurd ((mai_ne ha hk8).mp h) e1) (fun _ => ?_)
      refine R_go 9999 rfl rfl trivial ?_
      by_cases e2 : k = b
      · rw [if_pos e2] at et
        refine R_br rfl rfl (fun _ => ?_) (fun h => absurd ((mai_ne hb hk8).mpr e2) h)
        refine R_go 136 rfl rfl trivial ?_
        exact fin y et.symm
      · rw [if_neg e2] at et
        refine R_br rfl rfl (fun h => absurd ((mai_ne hb hk8).mp h) e2) (fun _ => ?_)
        refine R_go 9999 rfl rfl trivial ?_
        by_cases e3 : k = c
        · rw [if_pos e3] at et
          refine R_br rfl rfl (fun _ => ?_) (fun h => absurd ((mai_ne hc hk8).mpr e3) h)
          refine R_go 136 rfl rfl trivial ?_
          exact fin z et.symm
        · rw [if_neg e3] at et
          refine R_br rfl rfl (fun h => absurd ((mai_ne hc hk8).mp h) e3) (fun _ => ?_)
          refine R_go 136 rfl rfl hvk ?_
          rw [ck, hF.1 63 (by decide) (by decide), h63 k hk8]
          exact fin (q0 k) et.symm
theorem l_sumQ {F : FS} (hW : WFF F) {q0 t : Nat → Nat} {bs : Int32} {a b c x y z : Nat} {A : FI} {B : FJ} (hM : RMF A F) (h63 : ∀ f, f < 8 → A 63 0 f = nI (q0 f) ∧ q0 f ≤ 20) (h52 : ∀ f, f < 8 → A 52 0 f = nI (t f) ∧ t f ≤ 20) {Q : Option AV → AH → Prop} (kend : Rn 3 mtX12_leastPrice 192 (lpL bs a b c x y z (some (.inl (nI (csN F q0 t 8)))) (some (.inl (nI 8)))) [] (hp A B) Q) : ∀ (m k : Nat), k + m = 8 → Rn 3 mtX12_leastPrice 149 (lpL bs a b c x y z (some (.inl (nI (csN F q0 t k)))) (some (.inl (nI k)))) [] (hp A B) Q := by
  intro m
  induction m with
  | zero =>
    intro k hk
    have : k = 8 := by omega
    subst this
    refine R_go 9999 rfl rfl trivial ?_
    refine R_br rfl rfl (fun _ => ?_) (fun h => absurd (by decide) h)
    exact kend
  | succ m ih =>
    intro k hk
    have tk := ti k (by omega)
    have ck : (nI k).toNatClampNeg = k := nI_clamp (by omega)
    have hvk : vp_in (nI k) 8 := vpN (n := 8) (by omega) rfl
    have hk8 : k < 8 := by omega
    have hWk := hW.1 k hk8
    have ihk := ih (k + 1) (by omega)
    rw [csN] at ihk
    refine R_go 9999 rfl rfl trivial ?_
    refine R_br rfl rfl (fun h => absurd h (by (simp only [i_eq, i_lt, i_le, Int32.reduceToInt, true_and, and_true, false_and, and_false, or_false, false_or, or_true, true_or, ne_eq] at *; first | done | omega))) (fun _ => ?_)
    refine R_go 9999 rfl rfl ⟨hvk, hvk, hvk⟩ ?_
    rw [ck, (h52 k hk8).1, (h63 k hk8).1, (hM k hk8).2.2.2]
    refine R_csr rfl (m_price (by have := (h52 k hk8).2; omega) (by have := (h63 k hk8).2; omega) (by omega) A B) rfl rfl rfl (Nat.le_of_ble_eq_true rfl) rfl ?_
    refine R_go 149 rfl rfl trivial ?_
    rw [nI_add, nI_1]
    exact ihk
def CmR (A : FI) (F : FS) (q0 : Nat → Nat) (bs : Int32) (o : Option (Nat → Nat)) : Prop := bs = prA F q0 o ∧ ∀ z, o = some z → ∀ f, f < 8 → A 64 0 f = nI (z f) ∧ z f ≤ 20
theorem l_bw {bs : Int32} {a b c x y z : Nat} {t : Nat → Nat} {A0 : FI} {B : FJ} {o8 : Int32} (h52 : ∀ f, f < 8 → A0 52 0 f = nI (t f)) {Q : Option AV → AH → Prop} (kend : ∀ A, FmO 31 [64] [] A0 A → (∀ f, f < 8 → A 64 0 f = nI (t f)) → Rn 3 mtX12_leastPrice 251 (lpL bs a b c x y z (some (.inl o8)) (some (.inl (nI 8)))) [] (hp A B) Q) : ∀ (m k : Nat) (A : FI), k + m = 8 → FmO 31 [64] [] A0 A → (∀ f, f < k → A 64 0 f = nI (t f)) → Rn 3 mtX12_leastPrice 224 (lpL bs a b c x y z (some (.inl o8)) (some (.inl (nI k)))) [] (hp A B) Q := by
  intro m
  induction m with
  | zero =>
    intro k A hk hF h
    have : k = 8 := by omega
    subst this
    refine R_go 9999 rfl rfl trivial ?_
    refine R_br rfl rfl (fun _ => ?_) (fun h => absurd (by decide) h)
    exact kend A hF h
  | succ m ih =>
    intro k A hk hF h
    have tk := ti k (by omega)
    have ck : (nI k).toNatClampNeg = k := nI_clamp (by omega)
    have hvk : vp_in (nI k) 8 := vpN (n := 8) (by omega) rfl
    refine R_go 9999 rfl rfl trivial ?_
    refine R_br rfl rfl (fun h => absurd h (by (simp only [i_eq, i_lt, i_le, Int32.reduceToInt, true_and, and_true, false_and, and_false, or_false, false_or, or_true, true_or, ne_eq] at *; first | done | omega))) (fun _ => ?_)
    refine R_go 224 rfl rfl ⟨hvk, hvk⟩ ?_
    rw [ck, nI_1, hF.1 52 (by decide) (by decide), h52 k (by omega)]
    refine ih (k + 1) _ (by omega) (FmO_tr hF (by first | exact FmO_rf | (repeat' (first | exact FmO_rf | (with_reducible assumption) | (refine FmO_up ?_ (by decide)) | (refine FmO_ug ?_ (by decide) (by decide)))))) (fun f hf => ?_)
    by_cases e : f = k
    · subst e; exact up3_self
    · rw [up3_s e]; exact h f (by omega)
/-- one who is tried: who, price, laws, run -/
theorem i_leaf {F : FS} {LS : List (List Tk)} {P : List (List Tk × Nat)} {q0 : Nat → Nat} (hW : WFF F) (hL : okL LS) (hP : okP P) {bs : Int32} {a b c x y z : Nat} (ha : a ≤ 8) (hb : b ≤ 8) (hc : c ≤ 8) (hab : a < 8 → b ≠ a ∧ c ≠ a) (hbc : b < 8 → c ≠ b) (hx : x ≤ 20) (hy : y ≤ 20) (hz : z ≤ 20) (hmay : ∀ f, f < 8 → F.1 f ≠ 3 → f ≠ a ∧ f ≠ b ∧ f ≠ c) (htz8 : ∀ f, 8 ≤ f → tzF q0 a b c x y z f = q0 f) {A : FI} {B : FJ} {o : Option (Nat → Nat)} (hR : RML A LS) (hM : RMF A F) (hG : RMG A P) (h63 : ∀ f, f < 8 → A 63 0 f = nI (q0 f) ∧ q0 f ≤ 20) (hC : CmR A F q0 bs o) (hB : isM (cndS F LS P q0) F q0 (LTf 8 (tzF q0 a b c x y z)) o) {Q : Option AV → AH → Prop} (kend : ∀ A' B' bs' o' o8 o9, FmLP A A' → FmJ [49] B B' → CmR A' F q0 bs' o' → isM (cndS F LS P q0) F q0 (fun q => LTf 8 (tzF q0 a b c x y z) q ∨ EQf 8 (tzF q0 a b c x y z) q) o' → Rn 3 mtX12_leastPrice 251 (lpL bs' a b c x y z o8 o9) [] (hp A' B') Q) (o9 : Option AV) : Rn 3 mtX12_leastPrice 82 (lpL bs a b c x y z (some (.inl (nI 0))) o9) [] (hp A B) Q := by
  generalize ht : tzF q0 a b c x y z = t at *
  have ht20 : ∀ f, f < 8 → t f ≤ 20 := fun f hf => by
    rw [← ht, tz_at hf hab hbc]
    have := (h63 f hf).2
    (repeat' split) <;> omega
  have htm : ∀ f, f < 8 → F.1 f ≠ 3 → t f = q0 f := fun f hf h3 => by
    obtain ⟨n1, n2, n3⟩ := hmay f hf h3
    rw [← ht, tz_at hf hab hbc, if_neg n1, if_neg n2, if_neg n3]
  have hcu : ∀ q, cndS F LS P q0 q → EQf 8 t q → cndS F LS P q0 t := fun q hq e => by
    have : q = t := funext (fun f => by
      by_cases hf : f < 8
      · exact e f hf
      · rw [hq.1 f (by omega), htz8 f (by omega)])
    rw [← this]; exact hq
  have hct : cndS F LS P q0 t ↔ ccS F LS t ∧ (rnS t 0 P).1 = 1 := ⟨fun z => ⟨⟨z.2.2.1, z.2.2.2.1⟩, z.2.2.2.2⟩, fun z => ⟨htz8, htm, z.1.1, z.1.2, z.2⟩⟩
  have hb8 := csN_b hW (q0 := q0) (q := t) 8 (Nat.le_refl _) (fun j hj => ⟨ht20 j hj, (h63 j hj).2⟩)
  have tcs := ti (csN F q0 t 8) (by omega)
  refine l_who ha hb hc hab hbc (fun f hf => (h63 f hf).1) (fun A1 hF1 h52 o9 => ?_) 8 0 A rfl FmO_rf (fun f hf => by omega) o9
  rw [ht] at h52
  have hF1' : FmLP A A1 := FmO_w hF1 (by decide) (by decide)
  have f52 : ∀ f, f < 8 → A1 52 0 f = nI (t f) ∧ t f ≤ 20 := fun f hf => ⟨h52 f hf, ht20 f hf⟩
  have f63 : ∀ f, f < 8 → A1 63 0 f = nI (q0 f) ∧ q0 f ≤ 20 := fun f hf => by rw [hF1.1 63 (by decide) (by decide)]; exact h63 f hf
  have hq : RPm A1 t := fun f hf => ⟨h52 f hf, Or.inl (ht20 f hf)⟩
  have hC1 : CmR A1 F q0 bs o := ⟨hC.1, fun z hz => by rw [hF1.1 64 (by decide) (by decide)]; exact hC.2 z hz⟩
  refine R_go 149 rfl rfl trivial ?_
  refine l_sumQ hW (RMF_fr hM hF1 (by decide)) f63 f52 ?_ 8 0 rfl
  have k251 : ∀ o8 o9, (∀ z, o = some z → csN F q0 z 8 ≤ csN F q0 t 8) → o ≠ none → Rn 3 mtX12_leastPrice 251 (lpL bs a b c x y z o8 o9) [] (hp A1 B) Q := fun o8 o9 h1 h2 => by
    cases o with
    | none => exact absurd rfl h2
    | some z' => exact kend A1 B bs (some z') o8 o9 hF1' FmJ_rf hC1 (isM_cut (Nat.le_refl _) hB (h1 z' rfl))
  have k203 : (∀ z, o = some z → csN F q0 t 8 < csN F q0 z 8) → Rn 3 mtX12_leastPrice 203 (lpL bs a b c x y z (some (.inl (nI (csN F q0 t 8)))) (some (.inl (nI 8)))) [] (hp A1 B) Q := fun hlt => by
    obtain ⟨ly, ln⟩ := isM_leaf hcu hB hlt
    refine R_go 9999 rfl rfl trivial ?_
    refine R_cv rfl (m_couldCome (B := B) hL hW (RML_fr hR hF1 (by decide) (by decide)) (RMF_fr hM hF1 (by decide)) hq) rfl rfl rfl rfl rfl (Nat.le_of_ble_eq_true rfl) rfl ?_
    rintro r h' ⟨A2, B2, rfl, rfl, hF2, hJ2⟩
    have hF02 : FmLP A A2 := FmO_tr hF1' (FmO_w hF2 (by decide) (by decide))
    have hC2 : CmR A2 F q0 bs o := ⟨hC.1, fun z hz => by rw [hF2.1 64 (by decide) (by decide)]; exact hC1.2 z hz⟩
    rcases Classical.em (ccS F LS t) with hcc | hcc
    · rw [b2_1 hcc]
      refine R_br rfl rfl (fun h => absurd h (by decide)) (fun _ => ?_)
      refine R_go 9999 rfl rfl trivial ?_
      refine R_cv rfl (m_runWho (B := B2) hP (RMG_fr hG hF02 (by decide) (by decide)) (RPm_fr hq hF2 (by decide))) rfl rfl rfl rfl rfl (Nat.le_of_ble_eq_true rfl) rfl ?_
      rintro r h' ⟨A3, B3, rfl, rfl, -, hF3, hJ3⟩
      have hF03 : FmLP A A3 := FmO_tr hF02 (FmO_w hF3 (by decide) (by decide))
      have hC3 : CmR A3 F q0 bs o := ⟨hC.1, fun z hz => by rw [hF3.1 64 (by decide) (by decide)]; exact hC2.2 z hz⟩
      have hrl := rnS_le hP t
      refine R_go 9999 rfl rfl trivial ?_
      by_cases h1 : (rnS t 0 P).1 = 1
      · rw [h1]
        refine R_br rfl rfl (fun _ => ?_) (fun h => absurd rfl h)
        refine R_go 224 rfl rfl trivial ?_
        have g52 : ∀ f, f < 8 → A3 52 0 f = nI (t f) := fun f hf => by rw [hF3.1 52 (by decide) (by decide), hF2.1 52 (by decide) (by decide)]; exact h52 f hf
        refine l_bw (t := t) g52 (fun A4 hF4 h64 => ?_) 8 0 A3 rfl FmO_rf (fun f hf => by omega)
        exact kend A4 B3 _ (some t) _ _ (FmO_tr hF03 (FmO_w hF4 (by decide) (by decide))) (FmJ_tr hJ2 hJ3) ⟨rfl, fun z hz => by cases hz; exact fun f hf => ⟨h64 f hf, ht20 f hf⟩⟩ (ly (hct.mpr ⟨hcc, h1⟩))
      · refine R_br rfl rfl (fun h => absurd (nI_ij (b := 1) (by omega) (by omega) h) h1) (fun _ => ?_)
        exact kend A3 B3 bs o _ _ hF03 (FmJ_tr hJ2 hJ3) hC3 (ln (fun z => h1 (hct.mp z).2))
    · rw [b2_0 hcc]
      refine R_br rfl rfl (fun _ => ?_) (fun h => absurd rfl h)
      exact kend A2 B2 bs o _ _ hF02 hJ2 hC2 (ln (fun z => hcc (hct.mp z).1))
  refine R_go 9999 rfl rfl trivial ?_
  have hbs := hC.1
  cases o with
  | none => exact R_br rfl rfl (fun _ => k203 (fun z hz => by cases hz)) (fun h => absurd hbs h)
  | some z' =>
    have hbz := csN_b hW (q0 := q0) (q := z') 8 (Nat.le_refl _) (fun j hj => ⟨(hC.2 z' rfl j hj).2, (h63 j hj).2⟩)
    have tz := ti (csN F q0 z' 8) (by omega)
    have hb1 : bs = nI (csN F q0 z' 8) := hbs
    refine R_br rfl rfl (fun h => absurd (hb1 ▸ h) (nI_nn (by omega))) (fun _ => ?_)
    refine R_go 9999 rfl rfl trivial ?_
    by_cases hlt : csN F q0 t 8 < csN F q0 z' 8
    · exact R_br rfl rfl (fun h => absurd h (by rw [hb1, i_le, tz, tcs]; omega)) (fun _ => k203 (fun z hz => by cases hz; exact hlt))
    · exact R_br rfl rfl (fun _ => k251 _ _ (fun z hz => by cases hz; omega) (by simp)) (fun h => absurd (by rw [hb1, i_le, tz, tcs]; omega) h)
