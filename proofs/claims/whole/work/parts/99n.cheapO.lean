def ok3 (F : FS) (a b c : Nat) : Prop := (a ≤ 8 ∧ b ≤ 8 ∧ c ≤ 8) ∧ ((a < 8 → F.1 a = 3) ∧ (b < 8 → F.1 b = 3) ∧ (c < 8 → F.1 c = 3)) ∧ noM F 0 a ∧ ((a < 8 ∧ a + 1 ≤ b ∧ noM F (a + 1) b) ∨ (a = 8 ∧ b = 8)) ∧ ((b < 8 ∧ b + 1 ≤ c ∧ noM F (b + 1) c) ∨ (b = 8 ∧ c = 8)) ∧ ((c < 8 ∧ c + 1 ≤ 8 ∧ noM F (c + 1) 8) ∨ (c = 8 ∧ 8 = 8))
theorem ok3_of {F : FS} (hW : WFF F) {a b c : Nat} (ha : mAt F 0 a) (hb : mAt F 1 b) (hc : mAt F 2 c) : ok3 F a b c := by
  obtain ⟨a1, a2, a3⟩ := ha
  obtain ⟨b1, b2', b3⟩ := hb
  obtain ⟨c1, c2, c3⟩ := hc
  have h8 := hW.2
  have m0 : mayN F 0 = 0 := rfl
  refine ⟨⟨a1, b1, c1⟩, ⟨fun h => (a2 h).1, fun h => (b2' h).1, fun h => (c2 h).1⟩, ?_, ?_, ?_, ?_⟩
  · refine noM_of ?_
    by_cases h : a = 8
    · have := a3 h; rw [h]; omega
    · have := (a2 (by omega)).2; omega
  · by_cases h : a = 8
    · right
      refine ⟨h, Classical.byContradiction (fun hn => ?_)⟩
      have h1 := (b2' (by omega)).2
      have h2 := mayN_mn F b1
      have := a3 h
      omega
    · left
      have h1 := a2 (by omega)
      have h2 := mayN_3 h1.1
      have hlt : a < b := Classical.byContradiction (fun hn => by
        have h3 := mayN_mn F (show b ≤ a by omega)
        by_cases hb8 : b = 8
        · omega
        · have := (b2' (by omega)).2; omega)
      refine ⟨by omega, hlt, noM_of ?_⟩
      by_cases hb8 : b = 8
      · have := b3 hb8; rw [hb8]; omega
      · have := (b2' (by omega)).2; omega
  · by_cases h : b = 8
    · right
      refine ⟨h, Classical.byContradiction (fun hn => ?_)⟩
      have h1 := (c2 (by omega)).2
      have h2 := mayN_mn F c1
      have := b3 h
      omega
    · left
      have h1 := b2' (by omega)
      have h2 := mayN_3 h1.1
      have hlt : b < c := Classical.byContradiction (fun hn => by
        have h3 := mayN_mn F (show c ≤ b by omega)
        by_cases hc8 : c = 8
        · omega
        · have := (c2 (by omega)).2; omega)
      refine ⟨by omega, hlt, noM_of ?_⟩
      by_cases hc8 : c = 8
      · have := c3 hc8; rw [hc8]; omega
      · have := (c2 (by omega)).2; omega
  · by_cases h : c = 8
    · exact Or.inr ⟨h, rfl⟩
    · left
      have h1 := c2 (by omega)
      have h2 := mayN_3 h1.1
      exact ⟨by omega, by omega, noM_of (by omega)⟩
theorem mai_1 {m : Nat} (hm : m ≤ 8) : maI m = -1 ↔ m = 8 := by
  unfold maI
  by_cases h : m = 8
  · rw [if_pos h]; exact ⟨fun _ => h, fun _ => rfl⟩
  · rw [if_neg h]; exact ⟨fun e => absurd e (nI_n1 (by omega)), fun e => absurd e h⟩
/-- what stays over the loops -/
def LpI (A : FI) (F : FS) (LS : List (List Tk)) (P : List (List Tk × Nat)) (q0 : Nat → Nat) : Prop := RML A LS ∧ RMF A F ∧ RMG A P ∧ ∀ f, f < 8 → A 63 0 f = nI (q0 f) ∧ q0 f ≤ 20
theorem LpI_fr {A A' : FI} {F : FS} {LS : List (List Tk)} {P : List (List Tk × Nat)} {q0 : Nat → Nat} (h : LpI A F LS P q0) (hF : FmLP A A') : LpI A' F LS P q0 := ⟨RML_fr h.1 hF (by decide) (by decide), RMF_fr h.2.1 hF (by decide), RMG_fr h.2.2.1 hF (by decide) (by decide), fun f hf => by rw [hF.1 63 (by decide) (by decide)]; exact h.2.2.2 f hf⟩
theorem l_lz {F : FS} {LS : List (List Tk)} {P : List (List Tk × Nat)} {q0 : Nat → Nat} (hW : WFF F) (hL : okL LS) (hP : okP P) {a b c x y : Nat} (h3 : ok3 F a b c) (hx : x ≤ 20) (hy : y ≤ 20) {A0 : FI} {B0 : FJ} {Q : Option AV → AH → Prop} (kend : ∀ A B bs o z o8 o9, FmLP A0 A → FmJ [49] B0 B → CmR A F q0 bs o → isM (cndS F LS P q0) F q0 (LvF c (svF b (svF a q0 x) y) (NvF c)) o → Rn 3 mtX12_leastPrice 257 (lpL bs a b c x y z o8 o9) [] (hp A B) Q) : ∀ (m z : Nat) (A : FI) (B : FJ) (bs : Int32) (o : Option (Nat → Nat)), z + m = NvF c → LpI A F LS P q0 → FmLP A0 A → FmJ [49] B0 B → CmR A F q0 bs o → isM (cndS F LS P q0) F q0 (LvF c (svF b (svF a q0 x) y) z) o → ∀ o8 o9, Rn 3 mtX12_leastPrice 62 (lpL bs a b c x y z o8 o9) [] (hp A B) Q := by
  obtain ⟨⟨ha, hb, hc⟩, ⟨a3, b3, c3⟩, g0, gab, gbc, gc8⟩ := h3
  have hNc : NvF c = if c < 8 then 21 else 1 := rfl
  have hN21 : NvF c ≤ 21 := by rw [hNc]; split <;> omega
  have tN := ti (NvF c) (by omega)
  have ht2 : ∀ g, c ≤ g → svF b (svF a q0 x) y g = q0 g := fun g hg => by
    unfold svF
    by_cases hb8 : b < 8 <;> by_cases ha8 : a < 8 <;> simp only [hb8, ha8, if_true, if_false]
    · rw [stF_n (by omega), stF_n (by omega)]
    · rw [stF_n (by omega)]
    · rw [stF_n (by omega)]
  have head : ∀ (z : Nat) (bs : Int32) (o8 o9 : Option AV) (A : FI) (B : FJ), z ≤ 21 → Rn 3 mtX12_leastPrice 76 (lpL bs a b c x y z o8 o9) [.inl (nI (NvF c)), .inl (nI z)] (hp A B) Q → Rn 3 mtX12_leastPrice 62 (lpL bs a b c x y z o8 o9) [] (hp A B) Q := fun z bs o8 o9 A B _ k => by
    refine R_go 9999 rfl rfl trivial ?_
    by_cases h8 : c = 8
    · rw [hNc, if_neg (by omega)] at k
      refine R_br rfl rfl (fun _ => ?_) (fun h => absurd ((mai_1 hc).mpr h8) h)
      refine R_go 76 rfl rfl trivial ?_
      exact k
    · rw [hNc, if_pos (by omega)] at k
      refine R_br rfl rfl (fun h => absurd ((mai_1 hc).mp h) h8) (fun _ => ?_)
      refine R_go 76 rfl rfl trivial ?_
      exact k
  intro m
  induction m with
  | zero =>
    intro z A B bs o hz hI hF hJ hC hM o8 o9
    have ez : z = NvF c := by omega
    subst ez
    refine head _ bs o8 o9 A B hN21 ?_
    refine R_br rfl rfl (fun _ => ?_) (fun h => absurd (Int32.le_refl _) h)
    exact kend A B bs o _ o8 o9 hF hJ hC hM
  | succ m ih =>
    intro z A B bs o hz hI hF hJ hC hM o8 o9
    have tz := ti z (by omega)
    have hzl : z < NvF c := by omega
    refine head z bs o8 o9 A B (by omega) ?_
    refine R_br rfl rfl (fun h => absurd h (by (simp only [i_eq, i_lt, i_le, Int32.reduceToInt, true_and, and_true, false_and, and_false, or_false, false_or, or_true, true_or, ne_eq] at *; first | done | omega))) (fun _ => ?_)
    refine R_go 82 rfl rfl trivial ?_
    have hs := fun q (hq : cndS F LS P q0 q) => Lv_s (m' := 8) hc (Nat.le_refl _) gc8 ht2 hzl hq
    have hB8 : isM (cndS F LS P q0) F q0 (LTf 8 (tzF q0 a b c x y z)) o := isM_c hM (fun q hq => (hs q hq).1.symm)
    refine i_leaf hW hL hP ha hb hc (by omega) (by omega) hx hy (by omega) (fun f hf hn => ⟨fun e => hn (by rw [e]; exact a3 (by omega)), fun e => hn (by rw [e]; exact b3 (by omega)), fun e => hn (by rw [e]; exact c3 (by omega))⟩) (fun f hf => ?_) hI.1 hI.2.1 hI.2.2.1 hI.2.2.2 hC hB8 (fun A' B' bs' o' p8 p9 hF' hJ' hC' hM' => ?_) o9
    · unfold tzF svF
      by_cases hb8 : b < 8 <;> by_cases ha8 : a < 8 <;> by_cases hc8 : c < 8 <;> simp only [hb8, ha8, hc8, if_true, if_false, stF] <;> (repeat' split) <;> first | rfl | (exfalso; omega)
    · refine R_go 62 rfl rfl trivial ?_
      rw [nI_1]
      exact ih (z + 1) A' B' bs' o' (by omega) (LpI_fr hI hF') (FmO_tr hF hF') (FmJ_tr hJ hJ') hC' (isM_c hM' (fun q hq => (hs q hq).2)) p8 p9
theorem l_ly {F : FS} {LS : List (List Tk)} {P : List (List Tk × Nat)} {q0 : Nat → Nat} (hW : WFF F) (hL : okL LS) (hP : okP P) {a b c x : Nat} (h3 : ok3 F a b c) (hx : x ≤ 20) {A0 : FI} {B0 : FJ} {Q : Option AV → AH → Prop} (kend : ∀ A B bs o y o7 o8 o9, FmLP A0 A → FmJ [49] B0 B → CmR A F q0 bs o → isM (cndS F LS P q0) F q0 (LvF b (svF a q0 x) (NvF b)) o → Rn 3 mtX12_leastPrice 263 [some (.inr (.inr (some (31, 0)))), some (.inl bs), some (.inl (maI a)), some (.inl (maI b)), some (.inl (maI c)), some (.inl (nI x)), some (.inl (nI y)), o7, o8, o9] [] (hp A B) Q) : ∀ (m y : Nat) (A : FI) (B : FJ) (bs : Int32) (o : Option (Nat → Nat)), y + m = NvF b → LpI A F LS P q0 → FmLP A0 A → FmJ [49] B0 B → CmR A F q0 bs o → isM (cndS F LS P q0) F q0 (LvF b (svF a q0 x) y) o → ∀ o7 o8 o9, Rn 3 mtX12_leastPrice 43 [some (.inr (.inr (some (31, 0)))), some (.inl bs), some (.inl (maI a)), some (.inl (maI b)), some (.inl (maI c)), some (.inl (nI x)), some (.inl (nI y)), o7, o8, o9] [] (hp A B) Q := by
  have h3' := h3
  obtain ⟨⟨ha, hb, hc⟩, ⟨a3, b3, c3⟩, g0, gab, gbc, gc8⟩ := h3
  have hNb : NvF b = if b < 8 then 21 else 1 := rfl
  have hN21 : NvF b ≤ 21 := by rw [hNb]; split <;> omega
  have tN := ti (NvF b) (by omega)
  have ht1 : ∀ g, b ≤ g → svF a q0 x g = q0 g := fun g hg => by
    unfold svF
    by_cases ha8 : a < 8 <;> simp only [ha8, if_true, if_false]
    rw [stF_n (by omega)]
  have head : ∀ (y : Nat) (bs : Int32) (o7 o8 o9 : Option AV) (A : FI) (B : FJ), y ≤ 21 → Rn 3 mtX12_leastPrice 56 [some (.inr (.inr (some (31, 0)))), some (.inl bs), some (.inl (maI a)), some (.inl (maI b)), some (.inl (maI c)), some (.inl (nI x)), some (.inl (nI y)), o7, o8, o9] [.inl (nI (NvF b)), .inl (nI y)] (hp A B) Q → Rn 3 mtX12_leastPrice 43 [some (.inr (.inr (some (31, 0)))), some (.inl bs), some (.inl (maI a)), some (.inl (maI b)), some (.inl (maI c)), some (.inl (nI x)), some (.inl (nI y)), o7, o8, o9] [] (hp A B) Q := fun y bs o7 o8 o9 A B _ k => by
    refine R_go 9999 rfl rfl trivial ?_
    by_cases h8 : b = 8
    · rw [hNb, if_neg (by omega)] at k
      refine R_br rfl rfl (fun _ => ?_) (fun h => absurd ((mai_1 hb).mpr h8) h)
      refine R_go 56 rfl rfl trivial ?_
      exact k
    · rw [hNb, if_pos (by omega)] at k
      refine R_br rfl rfl (fun h => absurd ((mai_1 hb).mp h) h8) (fun _ => ?_)
      refine R_go 56 rfl rfl trivial ?_
      exact k
  intro m
  induction m with
  | zero =>
    intro y A B bs o hy hI hF hJ hC hM o7 o8 o9
    have ey : y = NvF b := by omega
    subst ey
    refine head _ bs o7 o8 o9 A B hN21 ?_
    refine R_br rfl rfl (fun _ => ?_) (fun h => absurd (Int32.le_refl _) h)
    exact kend A B bs o _ o7 o8 o9 hF hJ hC hM
  | succ m ih =>
    intro y A B bs o hy hI hF hJ hC hM o7 o8 o9
    have ty := ti y (by omega)
    have hyl : y < NvF b := by omega
    refine head y bs o7 o8 o9 A B (by omega) ?_
    refine R_br rfl rfl (fun h => absurd h (by (simp only [i_eq, i_lt, i_le, Int32.reduceToInt, true_and, and_true, false_and, and_false, or_false, false_or, or_true, true_or, ne_eq] at *; first | done | omega))) (fun _ => ?_)
    refine R_go 62 rfl rfl trivial ?_
    have hs := fun q (hq : cndS F LS P q0 q) => Lv_s (m' := c) hb hc gbc ht1 hyl hq
    refine l_lz (A0 := A) (B0 := B) hW hL hP h3' hx (by omega) (fun A1 B1 bs1 o1 z p8 p9 hF1 hJ1 hC1 hM1 => ?_) (NvF c) 0 A B bs o (by omega) hI FmO_rf FmJ_rf hC (isM_c hM (fun q hq => by rw [Lv_0 hc, (hs q hq).1])) o8 o9
    refine R_go 43 rfl rfl trivial ?_
    rw [nI_1]
    exact ih (y + 1) A1 B1 bs1 o1 (by omega) (LpI_fr hI hF1) (FmO_tr hF hF1) (FmJ_tr hJ hJ1) hC1 (isM_c hM1 (fun q hq => by rw [Lv_N hW hc hq, (hs q hq).2])) _ _ _
theorem l_lx {F : FS} {LS : List (List Tk)} {P : List (List Tk × Nat)} {q0 : Nat → Nat} (hW : WFF F) (hL : okL LS) (hP : okP P) {a b c : Nat} (h3 : ok3 F a b c) {A0 : FI} {B0 : FJ} {Q : Option AV → AH → Prop} (kend : ∀ A B bs o, FmLP A0 A → FmJ [49] B0 B → CmR A F q0 bs o → isM (cndS F LS P q0) F q0 (fun _ => True) o → Q (some (.inl bs)) (hp A B)) : ∀ (m x : Nat) (A : FI) (B : FJ) (bs : Int32) (o : Option (Nat → Nat)), x + m = NvF a → LpI A F LS P q0 → FmLP A0 A → FmJ [49] B0 B → CmR A F q0 bs o → isM (cndS F LS P q0) F q0 (LvF a q0 x) o → ∀ o6 o7 o8 o9, Rn 3 mtX12_leastPrice 24 [some (.inr (.inr (some (31, 0)))), some (.inl bs), some (.inl (maI a)), some (.inl (maI b)), some (.inl (maI c)), some (.inl (nI x)), o6, o7, o8, o9] [] (hp A B) Q := by
  have h3' := h3
  obtain ⟨⟨ha, hb, hc⟩, ⟨a3, b3, c3⟩, g0, gab, gbc, gc8⟩ := h3
  have hNa : NvF a = if a < 8 then 21 else 1 := rfl
  have hN21 : NvF a ≤ 21 := by rw [hNa]; split <;> omega
  have tN := ti (NvF a) (by omega)
  have head : ∀ (x : Nat) (bs : Int32) (o6 o7 o8 o9 : Option AV) (A : FI) (B : FJ), x ≤ 21 → Rn 3 mtX12_leastPrice 37 [some (.inr (.inr (some (31, 0)))), some (.inl bs), some (.inl (maI a)), some (.inl (maI b)), some (.inl (maI c)), some (.inl (nI x)), o6, o7, o8, o9] [.inl (nI (NvF a)), .inl (nI x)] (hp A B) Q → Rn 3 mtX12_leastPrice 24 [some (.inr (.inr (some (31, 0)))), some (.inl bs), some (.inl (maI a)), some (.inl (maI b)), some (.inl (maI c)), some (.inl (nI x)), o6, o7, o8, o9] [] (hp A B) Q := fun x bs o6 o7 o8 o9 A B _ k => by
    refine R_go 9999 rfl rfl trivial ?_
    by_cases h8 : a = 8
    · rw [hNa, if_neg (by omega)] at k
      refine R_br rfl rfl (fun _ => ?_) (fun h => absurd ((mai_1 ha).mpr h8) h)
      refine R_go 37 rfl rfl trivial ?_
      exact k
    · rw [hNa, if_pos (by omega)] at k
      refine R_br rfl rfl (fun h => absurd ((mai_1 ha).mp h) h8) (fun _ => ?_)
      refine R_go 37 rfl rfl trivial ?_
      exact k
  intro m
  induction m with
  | zero =>
    intro x A B bs o hx hI hF hJ hC hM o6 o7 o8 o9
    have ex : x = NvF a := by omega
    subst ex
    refine head _ bs o6 o7 o8 o9 A B hN21 ?_
    refine R_br rfl rfl (fun _ => ?_) (fun h => absurd (Int32.le_refl _) h)
    refine R_go 9999 rfl rfl trivial ?_
    refine R_ri rfl rfl ?_
    refine kend A B bs o hF hJ hC (isM_c hM (fun q hq => ?_))
    rw [Lv_N hW ha hq]
    obtain ⟨e1, e2⟩ := LT_gap (Nat.zero_le a) ha g0 (fun _ _ => rfl) hq
    rw [e1, e2]
    exact ⟨fun _ => trivial, fun _ => Or.inr (fun j hj => by omega)⟩
  | succ m ih =>
    intro x A B bs o hx hI hF hJ hC hM o6 o7 o8 o9
    have tx := ti x (by omega)
    have hxl : x < NvF a := by omega
    refine head x bs o6 o7 o8 o9 A B (by omega) ?_
    refine R_br rfl rfl (fun h => absurd h (by (simp only [i_eq, i_lt, i_le, Int32.reduceToInt, true_and, and_true, false_and, and_false, or_false, false_or, or_true, true_or, ne_eq] at *; first | done | omega))) (fun _ => ?_)
    refine R_go 43 rfl rfl trivial ?_
    have hs := fun q (hq : cndS F LS P q0 q) => Lv_s (t := q0) (m' := b) ha hb gab (fun _ _ => rfl) hxl hq
    refine l_ly (A0 := A) (B0 := B) hW hL hP h3' (by omega) (fun A1 B1 bs1 o1 y p7 p8 p9 hF1 hJ1 hC1 hM1 => ?_) (NvF b) 0 A B bs o (by omega) hI FmO_rf FmJ_rf hC (isM_c hM (fun q hq => by rw [Lv_0 hb, (hs q hq).1])) o7 o8 o9
    refine R_go 24 rfl rfl trivial ?_
    rw [nI_1]
    exact ih (x + 1) A1 B1 bs1 o1 (by omega) (LpI_fr hI hF1) (FmO_tr hF hF1) (FmJ_tr hJ hJ1) hC1 (isM_c hM1 (fun q hq => by rw [Lv_N hW hb hq, (hs q hq).2])) _ _ _ _
def LPo (A : FI) (B : FJ) (F : FS) (LS : List (List Tk)) (P : List (List Tk × Nat)) (q0 : Nat → Nat) : Option AV → AH → Prop := fun r h' => ∃ A' B' bs o, h' = hp A' B' ∧ r = some (.inl bs) ∧ FmLP A A' ∧ FmJ [49] B B' ∧ CmR A' F q0 bs o ∧ isM (cndS F LS P q0) F q0 (fun _ => True) o
theorem m_leastPrice {F : FS} {LS : List (List Tk)} {P : List (List Tk × Nat)} {q0 : Nat → Nat} (hW : WFF F) (hL : okL LS) (hP : okP P) {A : FI} {B : FJ} (hI : LpI A F LS P q0) : MV 3 0 mtX12_leastPrice [.inr (.inr (some (31, 0)))] (hp A B) (LPo A B F LS P q0) := by
  refine MV_of caX12_leastPrice (L := [some (.inr (.inr (some (31, 0)))), none, none, none, none, none, none, none, none, none]) rfl rfl ?_
  refine R_go 9999 rfl rfl trivial ?_
  refine R_cv rfl (m_mayAt (k := 0) (B := B) hW hI.2.1 (by decide)) rfl rfl rfl rfl rfl (Nat.le_of_ble_eq_true rfl) rfl ?_
  rintro r h' ⟨rfl, a, ha, rfl⟩
  refine R_go 9999 rfl rfl trivial ?_
  refine R_cv rfl (m_mayAt (k := 1) (B := B) hW hI.2.1 (by decide)) rfl rfl rfl rfl rfl (Nat.le_of_ble_eq_true rfl) rfl ?_
  rintro r h' ⟨rfl, b, hb, rfl⟩
  refine R_go 9999 rfl rfl trivial ?_
  refine R_cv rfl (m_mayAt (k := 2) (B := B) hW hI.2.1 (by decide)) rfl rfl rfl rfl rfl (Nat.le_of_ble_eq_true rfl) rfl ?_
  rintro r h' ⟨rfl, c, hc, rfl⟩
  refine R_go 24 rfl rfl trivial ?_
  have h3 := ok3_of hW ha hb hc
  refine l_lx (A0 := A) (B0 := B) (q0 := q0) hW hL hP h3 (fun A' B' bs o hF hJ hC hM => ⟨A', B', bs, o, rfl, rfl, hF, hJ, hC, hM⟩) (NvF a) 0 A B (-1) none (by omega) hI FmO_rf FmJ_rf ⟨rfl, fun z hz => by cases hz⟩ ⟨fun _ q hv hq => ?_, fun z hz => by cases hz⟩ none none none none
  rw [Lv_0 h3.1.1] at hv
  obtain ⟨e1, -⟩ := LT_gap (t := q0) (Nat.zero_le a) h3.1.1 h3.2.2.1 (fun _ _ => rfl) hq
  obtain ⟨k, hk, -⟩ := e1.mp hv
  omega
