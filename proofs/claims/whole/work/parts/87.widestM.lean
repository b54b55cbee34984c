def wxM (b : Nat) : Int32 := if b = 16 then -1 else nI b
theorem hm2 : ∀ n, n < 16 → nI n - nI n / 2 * 2 = nI (n % 2) := by decide
theorem hd2 : ∀ n, n < 16 → nI n / 2 = nI (n / 2) := by decide
theorem l_widestM {sh : Nat → Prop} {bo : Bo} (hb : bOK sh bo) {A : FI} {B : FJ} (h : ∀ s, s ≤ 1 → SBm s A (bo s)) (hsh : ∀ f, f < 8 → A 57 0 f = b2 (sh f)) : ∀ (m k : Nat), k + m = 16 → ∀ o4 o5, Rn 0 mtX12_widest 6 [some (.inr (.inr (some (31, 0)))), some (.inl (wxM (wbS bo k).1)), some (.inl (nI ((wbS bo k).2.toNat + 1))), some (.inl (nI k)), o4, o5] [] (hp A B) (Ret (some (.inl (wxM (wbS bo 16).1))) (hp A B)) := by
  intro m
  induction m with
  | zero =>
    intro k hk o4 o5
    have : k = 16 := by omega
    subst this
    refine R_go 9999 rfl rfl trivial ?_
    refine R_br rfl rfl (fun _ => ?_) (fun h => absurd (by decide) h)
    repeat' (first
        | (refine R_br rfl rfl (fun hbr => absurd hbr (by first | decide | (with_reducible assumption))) (fun _ => ?_))
        | (refine R_br rfl rfl (fun _ => ?_) (fun hbr => absurd (by first | decide | (with_reducible assumption)) hbr))
        | (refine R_br rfl rfl (fun _ => ?_) (fun _ => ?_))
        | (refine R_ri rfl rfl ?_)
        | (refine R_rz rfl rfl (Or.inl rfl) ?_)
        | (refine R_rz rfl rfl (Or.inr rfl) ?_)
        | (refine R_rz rfl rfl (b2_01 _) ?_)
        | (refine R_rl rfl rfl ?_)
        | (refine R_rv rfl rfl ?_)
        | (refine R_sw _ rfl rfl rfl ?_)
        | (refine R_go 9999 rfl rfl trivial ?_)
        | (refine R_go 9999 rfl rfl (by first | (show _ ∨ _; decide) | (show (_ ∨ _) ∧ (_ ∨ _); decide) | (show (_ ∨ _) ∧ (_ ∨ _) ∧ (_ ∨ _); decide)) ?_)
        | (refine R_go 9999 rfl rfl ?_ ?_))
    exact ret_i rfl rfl
  | succ m ih =>
    intro k hk o4 o5
    have w20 := wb_20 hb (n := k) (by omega)
    have hwle := (wbS_ok hb k (by omega)).2
    have hbb := hb.1 (k % 2) (by omega) (k / 2) (by omega)
    have ew : wd bo k = (bo (k % 2) (k / 2)).2 - (bo (k % 2) (k / 2)).1 := rfl
    have e : wbS bo (k + 1) = if (wbS bo k).2 < wd bo k then (k, wd bo k) else wbS bo k := rfl
    have ih1 := ih (k + 1) (by omega)
    obtain ⟨x1, x2⟩ := h (k % 2) (by omega) (k / 2) (by omega)
    rw [show 4 * (k / 2) + 2 * (k % 2) = 2 * k by omega] at x1 x2
    have n1 := SB_n x1 (by omega) (by omega)
    have n2 := SB_n x2 (by omega) (by omega)
    have tk := ti k (by omega)
    have i1 : (2 : Int32) * nI k = nI (2 * k) := pk_mul 2 k
    have i2 : nI (2 * k) + 1 = nI (2 * k + 1) := nI_1 _
    have c1 : (nI (2 * k)).toNatClampNeg = 2 * k := nI_clamp (by omega)
    have c2 : (nI (2 * k + 1)).toNatClampNeg = 2 * k + 1 := nI_clamp (by omega)
    have c3 : (nI (k / 2)).toNatClampNeg = k / 2 := nI_clamp (by omega)
    have hv1 : vp_in (nI (2 * k)) 32 := vpN (n := 32) (by omega) rfl
    have hv2 : vp_in (nI (2 * k + 1)) 32 := vpN (n := 32) (by omega) rfl
    have hv3 : vp_in (nI (k / 2)) 8 := vpN (n := 8) (by omega) rfl
    have ed : nI (bo (k % 2) (k / 2)).2.toNat - nI (bo (k % 2) (k / 2)).1.toNat + 1 = nI ((wd bo k).toNat + 1) := by rw [nI_sub (by omega), nI_1]; congr 1; omega
    have hod : k % 2 = 1 → sh (k / 2) → wd bo k ≤ (wbS bo k).2 := fun h1 h2 => by
      have := hwle (k - 1) (by omega)
      have e3 : wd bo k = wd bo (k - 1) := by
        unfold wd
        rw [show (k - 1) % 2 = 0 by omega, show (k - 1) / 2 = k / 2 by omega, h1, hb.2 (k / 2) (by omega) h2]
      omega
    have hw0 : 0 ≤ wd bo k ∧ wd bo k ≤ 20 := by omega
    have tle := ti_le (a := (wd bo k).toNat + 1) (b := (wbS bo k).2.toNat + 1) (by omega) (by omega)
    have h59 : Rn 0 mtX12_widest 59 [some (.inr (.inr (some (31, 0)))), some (.inl (wxM (wbS bo k).1)), some (.inl (nI ((wbS bo k).2.toNat + 1))), some (.inl (nI k)), some (.inl (nI ((wd bo k).toNat + 1))), some (.inl 1)] [] (hp A B) (Ret (some (.inl (wxM (wbS bo 16).1))) (hp A B)) := by
      refine R_go 9999 rfl rfl trivial ?_
      refine R_br rfl rfl (fun h => absurd h (by decide)) (fun _ => ?_)
      refine R_go 9999 rfl rfl trivial ?_
      by_cases g : (wbS bo k).2 < wd bo k
      · rw [if_pos g] at e
        refine R_br rfl rfl (fun h => absurd (tle.mp h) (by omega)) (fun _ => ?_)
        refine R_go 6 rfl rfl trivial ?_
        rw [nI_1]
        rw [e] at ih1
        rw [show wxM (k, wd bo k).1 = nI k by unfold wxM; exact if_neg (by dsimp only; omega)] at ih1
        exact ih1 _ _
      · rw [if_neg g] at e
        refine R_br rfl rfl (fun _ => ?_) (fun h => absurd (tle.mpr (by omega)) h)
        refine R_go 6 rfl rfl trivial ?_
        rw [nI_1]
        rw [e] at ih1
        exact ih1 _ _
    refine R_go 9999 rfl rfl trivial ?_
    refine R_br rfl rfl (fun h => absurd h (by (simp only [i_eq, i_lt, i_le, Int32.reduceToInt, true_and, and_true, false_and, and_false, or_false, false_or, or_true, true_or, ne_eq] at *; first | done | omega))) (fun _ => ?_)
    refine R_go 9999 rfl rfl (by rw [i1, i2]; exact ⟨by decide, hv1, hv2⟩) ?_
    rw [i1, i2, c1, c2, n1, n2, ed, hm2 k (by omega)]
    by_cases g0 : k % 2 = 0
    · rw [g0]
      refine R_br rfl rfl (fun _ => ?_) (fun h => absurd rfl h)
      refine R_go 59 rfl rfl trivial ?_
      exact h59
    · have g1 : k % 2 = 1 := by omega
      rw [g1] at ew hod ⊢
      refine R_br rfl rfl (fun h => absurd h (by decide)) (fun _ => ?_)
      refine R_go 9999 rfl rfl (by rw [hd2 k (by omega)]; exact ⟨hv3, (by show ¬ (2 : Int32) = 0; decide)⟩) ?_
      rw [hd2 k (by omega), c3, hsh _ (by omega)]
      rcases Classical.em (sh (k / 2)) with gs | gs
      · rw [b2_1 gs]
        refine R_br rfl rfl (fun h => absurd h (by decide)) (fun _ => ?_)
        refine R_go 9999 rfl rfl trivial ?_
        refine R_br rfl rfl (fun _ => ?_) (fun h => absurd rfl h)
        refine R_go 6 rfl rfl trivial ?_
        rw [nI_1]
        rw [if_neg (by have := hod rfl gs; omega)] at e
        rw [e] at ih1
        exact ih1 _ _
      · rw [b2_0 gs]
        refine R_br rfl rfl (fun _ => ?_) (fun h => absurd rfl h)
        refine R_go 59 rfl rfl trivial ?_
        exact h59
theorem m_widest {sh : Nat → Prop} {bo : Bo} (hb : bOK sh bo) {A : FI} {B : FJ} (h : ∀ s, s ≤ 1 → SBm s A (bo s)) (hsh : ∀ f, f < 8 → A 57 0 f = b2 (sh f)) : MV 0 0 mtX12_widest [.inr (.inr (some (31, 0)))] (hp A B) (Ret (some (.inl (wxM (wbS bo 16).1))) (hp A B)) := by
  refine MV_of caX12_widest (L := [some (.inr (.inr (some (31, 0)))), none, none, none, none, none]) rfl rfl ?_
  refine R_go 6 rfl rfl trivial ?_
  exact l_widestM hb h hsh 16 0 rfl none none
/-- the box at the place t of the pile -/
def bxM (A : FI) (t : Nat) (bo : Bo) : Prop := ∀ s, s ≤ 1 → ∀ f, f < 8 → (A 56 0 (32 * t + 4 * f + 2 * s)).toInt = (bo s f).1 ∧ (A 56 0 (32 * t + 4 * f + 2 * s + 1)).toInt = (bo s f).2
def PUo (A : FI) (B : FJ) (sh : Nat → Prop) (bo : Bo) (n e t v : Nat) : Option AV → AH → Prop := fun r h' => ∃ A', r = none ∧ h' = hp A' B ∧ FmO 31 [56] [41] A A' ∧ A' 31 0 41 = nI (t + 1) ∧ (∀ z, z < 32 * t → A' 56 0 z = A 56 0 z) ∧ bxM A' t (psB sh bo n e v)
theorem l_push {t : Nat} (ht : t + 1 ≤ 100) {n e v : Nat} {A0 : FI} {B : FJ} {Q : Option AV → AH → Prop} (htop : A0 31 0 41 = nI t) (kend : ∀ A, FmO 31 [56] [41] A0 A → A 31 0 41 = nI t → (∀ z, z < 32 * t → A 56 0 z = A0 56 0 z) → (∀ i, i < 32 → A 56 0 (32 * t + i) = A0 55 0 i) → Rn 0 mtX12_push 38 [some (.inr (.inr (some (31, 0)))), some (.inl (nI n)), some (.inl (nI e)), some (.inl (nI v)), some (.inl (nI 32))] [] (hp A B) Q) : ∀ (m k : Nat) (A : FI), k + m = 32 → FmO 31 [56] [41] A0 A → A 31 0 41 = nI t → (∀ z, z < 32 * t → A 56 0 z = A0 56 0 z) → (∀ i, i < k → A 56 0 (32 * t + i) = A0 55 0 i) → Rn 0 mtX12_push 3 [some (.inr (.inr (some (31, 0)))), some (.inl (nI n)), some (.inl (nI e)), some (.inl (nI v)), some (.inl (nI k))] [] (hp A B) Q := by
  intro m
  induction m with
  | zero =>
    intro k A hk hF h41 hz hi
    have : k = 32 := by omega
    subst this
    refine R_go 9999 rfl rfl trivial ?_
    refine R_br rfl rfl (fun _ => ?_) (fun h => absurd (by decide) h)
    exact kend A hF h41 hz hi
  | succ m ih =>
    intro k A hk hF h41 hz hi
    have tk := ti k (by omega)
    have i1 : (32 : Int32) * nI t + nI k = nI (32 * t + k) := by rw [show (32 : Int32) * nI t = nI (32 * t) from pk_mul 32 t, nI_add]
    have c1 : (nI (32 * t + k)).toNatClampNeg = 32 * t + k := nI_clamp (by omega)
    have c2 : (nI k).toNatClampNeg = k := nI_clamp (by omega)
    have hv1 : vp_in (nI (32 * t + k)) 3200 := vpN (n := 3200) (by omega) rfl
    have hv2 : vp_in (nI k) 32 := vpN (n := 32) (by omega) rfl
    refine R_go 9999 rfl rfl trivial ?_
    refine R_br rfl rfl (fun h => absurd h (by (simp only [i_eq, i_lt, i_le, Int32.reduceToInt, true_and, and_true, false_and, and_false, or_false, false_or, or_true, true_or, ne_eq] at *; first | done | omega))) (fun _ => ?_)
    refine R_go 3 rfl rfl (by rw [h41, i1]; exact ⟨hv1, hv2⟩) ?_
    rw [h41, i1, c1, c2, nI_1, hF.1 55 (by decide) (by decide)]
    refine ih (k + 1) _ (by omega) (FmO_tr hF (by first | exact FmO_rf | (repeat' (first | exact FmO_rf | (with_reducible assumption) | (refine FmO_up ?_ (by decide)) | (refine FmO_ug ?_ (by decide) (by decide)))))) (by rw [up3_g (by decide)]; exact h41) (fun z h1 => by rw [up3_s (by omega)]; exact hz z h1) (fun i h1 => ?_)
    by_cases g : i = k
    · subst g; exact up3_self
    · rw [up3_s (by omega)]; exact hi i (by omega)
theorem m_push {sh : Nat → Prop} {bo : Bo} {n e t v : Nat} (ht : t + 1 ≤ 100) (hn : n < 16) (he : e ≤ 1) (hv20 : v ≤ 100) {A : FI} {B : FJ} (h : ∀ s, s ≤ 1 → SBm s A (bo s)) (htop : A 31 0 41 = nI t) (hsh : ∀ f, f < 8 → A 57 0 f = b2 (sh f)) : MV 0 3 mtX12_push [.inr (.inr (some (31, 0))), .inl (nI n), .inl (nI e), .inl (nI v)] (hp A B) (PUo A B sh bo n e t v) := by
  have tv := ti v (by omega)
  have i1 : (32 : Int32) * nI t + 2 * nI n + nI e = nI (32 * t + 2 * n + e) := by rw [show (32 : Int32) * nI t = nI (32 * t) from pk_mul 32 t, show (2 : Int32) * nI n = nI (2 * n) from pk_mul 2 n, nI_add, nI_add]
  have i2 : (32 : Int32) * nI t + 2 * (nI (n / 2) * 2 + 1) + nI e = nI (32 * t + 2 * (n / 2 * 2 + 1) + e) := by rw [show (32 : Int32) * nI t = nI (32 * t) from pk_mul 32 t, show nI (n / 2) * 2 = nI (n / 2 * 2) from pk_mul _ 2, nI_1, show (2 : Int32) * nI (n / 2 * 2 + 1) = nI (2 * (n / 2 * 2 + 1)) from pk_mul 2 _, nI_add, nI_add]
  have c1 : (nI (32 * t + 2 * n + e)).toNatClampNeg = 32 * t + 2 * n + e := nI_clamp (by omega)
  have c2 : (nI (32 * t + 2 * (n / 2 * 2 + 1) + e)).toNatClampNeg = 32 * t + 2 * (n / 2 * 2 + 1) + e := nI_clamp (by omega)
  have c3 : (nI (n / 2)).toNatClampNeg = n / 2 := nI_clamp (by omega)
  have hv1 : vp_in (nI (32 * t + 2 * n + e)) 3200 := vpN (n := 3200) (by omega) rfl
  have hv2 : vp_in (nI (32 * t + 2 * (n / 2 * 2 + 1) + e)) 3200 := vpN (n := 3200) (by omega) rfl
  have hv3 : vp_in (nI (n / 2)) 8 := vpN (n := 8) (by omega) rfl
  refine MV_of caX12_push (L := [some (.inr (.inr (some (31, 0)))), some (.inl (nI n)), some (.inl (nI e)), some (.inl (nI v)), none]) rfl rfl ?_
  refine R_go 3 rfl rfl trivial ?_
  refine l_push ht htop (fun A1 hF1 h41 hz hi => ?_) 32 0 A rfl FmO_rf htop (fun z _ => rfl) (fun i hi => by omega)
  have a57 : A1 57 = A 57 := hF1.1 57 (by decide) (by decide)
  have fin : ∀ A2 : FI, FmO 31 [56] [41] A1 A2 → A2 31 0 41 = nI (t + 1) → (∀ z, ((z = 32 * t + 2 * n + e ∨ (sh (n / 2) ∧ z = 32 * t + 2 * (n / 2 * 2 + 1) + e)) → A2 56 0 z = nI v) ∧ (¬ (z = 32 * t + 2 * n + e ∨ (sh (n / 2) ∧ z = 32 * t + 2 * (n / 2 * 2 + 1) + e)) → A2 56 0 z = A1 56 0 z)) → PUo A B sh bo n e t v none (hp A2 B) := fun A2 hF2 h2 hz2 => by
    refine ⟨A2, rfl, rfl, FmO_tr hF1 hF2, h2, fun z hz' => ?_, fun s hs f hf => ?_⟩
    · rw [(hz2 z).2 (fun q => by rcases q with q | ⟨-, q⟩ <;> omega)]; exact hz z hz'
    · obtain ⟨x1, x2⟩ := h s hs f hf
      have y1 := hi (4 * f + 2 * s) (by omega)
      have y2 := hi (4 * f + 2 * s + 1) (by omega)
      rw [← Nat.add_assoc] at y1
      rw [← Nat.add_assoc, ← Nat.add_assoc] at y2
      have hq : ∀ z, z = 32 * t + 4 * f + 2 * s + e → cuQ sh n s f → (z = 32 * t + 2 * n + e ∨ (sh (n / 2) ∧ z = 32 * t + 2 * (n / 2 * 2 + 1) + e)) := fun z hz0 hc => by
        obtain ⟨rfl, rfl | ⟨h4, rfl⟩⟩ := hc
        · exact Or.inl (by omega)
        · exact Or.inr ⟨h4, by omega⟩
      have hq2 : ∀ e', e' ≤ 1 → (32 * t + 4 * f + 2 * s + e' = 32 * t + 2 * n + e ∨ (sh (n / 2) ∧ 32 * t + 4 * f + 2 * s + e' = 32 * t + 2 * (n / 2 * 2 + 1) + e)) → e' = e ∧ cuQ sh n s f := fun e' he' q => by
        rcases q with q | ⟨q1, q⟩
        · exact ⟨by omega, by omega, Or.inl (by omega)⟩
        · have hf' : f = n / 2 := by omega
          exact ⟨by omega, hf', Or.inr ⟨by rw [hf']; exact q1, by omega⟩⟩
      rcases Classical.em (cuQ sh n s f) with g | g
      · rw [psB_y g]
        rcases (show e = 0 ∨ e = 1 by omega) with rfl | rfl
        · rw [if_pos rfl, (hz2 (32 * t + 4 * f + 2 * s)).1 (hq _ rfl g), (hz2 (32 * t + 4 * f + 2 * s + 1)).2 (fun q => by have := (hq2 1 (by omega) q).1; omega), y2]
          exact ⟨tv, x2⟩
        · rw [if_neg (by decide), (hz2 (32 * t + 4 * f + 2 * s + 1)).1 (hq _ rfl g), (hz2 (32 * t + 4 * f + 2 * s)).2 (fun q => by have := (hq2 0 (by omega) q).1; omega), y1]
          exact ⟨x1, tv⟩
      · rw [psB_n g, (hz2 (32 * t + 4 * f + 2 * s)).2 (fun q => g (hq2 0 (by omega) q).2), (hz2 (32 * t + 4 * f + 2 * s + 1)).2 (fun q => g (hq2 1 (by omega) q).2), y1, y2]
        exact ⟨x1, x2⟩
  refine R_go 9999 rfl rfl (by rw [h41, i1, hd2 n hn]; exact ⟨hv3, by decide, hv1⟩) ?_
  rw [h41, i1, hd2 n hn, c1, c3]
  rw [show up3 A1 56 0 (32 * t + 2 * n + e) (nI v) 57 = A 57 by rw [up3_g (by decide), a57], hsh _ (by omega)]
  rcases Classical.em (sh (n / 2)) with g | g
  · rw [b2_1 g]
    refine R_br rfl rfl (fun h => absurd h (by decide)) (fun _ => ?_)
    refine R_go 9999 rfl rfl ?_ ?_
    · rw [up3_g (by decide), h41, hd2 n hn, i2]; exact ⟨hv2, (by show ¬ (2 : Int32) = 0; decide)⟩
    rw [up3_g (by decide), h41, hd2 n hn, i2, c2]
    rw [show ∀ x, up3 (up3 A1 56 0 (32 * t + 2 * n + e) (nI v)) 56 0 (32 * t + 2 * (n / 2 * 2 + 1) + e) x 31 = A1 31 from fun x => by rw [up3_g (by decide), up3_g (by decide)], h41, nI_1]
    refine R_rv rfl rfl ?_
    refine fin _ (by first | exact FmO_rf | (repeat' (first | exact FmO_rf | (with_reducible assumption) | (refine FmO_up ?_ (by decide)) | (refine FmO_ug ?_ (by decide) (by decide))))) up3_self (fun z => ?_)
    rw [up3_g (by decide)]
    by_cases z2 : z = 32 * t + 2 * (n / 2 * 2 + 1) + e
    · subst z2
      exact ⟨fun _ => up3_self, fun q => absurd (Or.inr ⟨g, rfl⟩) q⟩
    · rw [up3_s z2]
      by_cases z1 : z = 32 * t + 2 * n + e
      · subst z1
        exact ⟨fun _ => up3_self, fun q => absurd (Or.inl rfl) q⟩
      · rw [up3_s z1]
        exact ⟨fun q => absurd q (fun q => by rcases q with q | ⟨-, q⟩; exact z1 q; exact z2 q), fun _ => rfl⟩
  · rw [b2_0 g]
    refine R_br rfl rfl (fun _ => ?_) (fun h => absurd rfl h)
    refine R_go 9999 rfl rfl trivial ?_
    rw [up3_g (by decide), h41, nI_1]
    refine R_rv rfl rfl ?_
    refine fin _ (by first | exact FmO_rf | (repeat' (first | exact FmO_rf | (with_reducible assumption) | (refine FmO_up ?_ (by decide)) | (refine FmO_ug ?_ (by decide) (by decide))))) up3_self (fun z => ?_)
    rw [up3_g (by decide)]
    by_cases z1 : z = 32 * t + 2 * n + e
    · subst z1
      exact ⟨fun _ => up3_self, fun q => absurd (Or.inl rfl) q⟩
    · rw [up3_s z1]
      exact ⟨fun q => absurd q (fun q => by rcases q with q | ⟨q, -⟩; exact z1 q; exact g q), fun _ => rfl⟩
