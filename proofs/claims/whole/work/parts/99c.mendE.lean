theorem itN_some {f : Nat → Option T3 → Option T3} (hf : ∀ n z, f n (some z) = some z) {a : Option T3} {z : T3} : ∀ (k m : Nat), itN f k a = some z → itN f (k + m) a = some z
  | k, 0, h => h
  | k, m + 1, h => by
    rw [show k + (m + 1) = (k + m) + 1 by omega, itN, itN_some hf k m h]
    exact hf _ _
theorem trO_s (ev : Nat → Nat → Prop) (z : T3) (i : Nat) (tx : Int) (y : Nat) : trO ev (some z) i tx y = some z := rfl
/-- by how much, over all numbers -/
noncomputable def mdI (ev : Nat → Nat → Prop) (was : Nat → Nat) (y : Nat) (i : Nat) (o : Option T3) : Option T3 := trO ev (trO ev o i ((was i : Int) - y) y) i ((was i : Int) + y) y
noncomputable def mdY (ev : Nat → Nat → Prop) (was : Nat → Nat) (n y : Nat) (o : Option T3) : Option T3 := itN (fun i o => mdI ev was y i o) n o
noncomputable def mdC (ev : Nat → Nat → Prop) (was : Nat → Nat) (n : Nat) : Option T3 := itN (fun k o => mdY ev was n (k + 1) o) 99 none
theorem mdY_s (ev : Nat → Nat → Prop) (was : Nat → Nat) (n y : Nat) (z : T3) : mdY ev was n y (some z) = some z := by
  have := itN_some (f := fun i o => mdI ev was y i o) (fun _ _ => rfl) 0 n (show itN (fun i o => mdI ev was y i o) 0 (some z) = some z from rfl)
  rw [Nat.zero_add] at this
  exact this
abbrev fiL (f v w : Nat) (x7 x8 : Option AV) : List (Option AV) := [some (.inr (.inr (some (26, 0)))), some (.inr (.inr (some (4, 6)))), some (.inr (.inr (some (10, 0)))), some (.inr (.inr (some (18, 0)))), some (.inl (nI f)), some (.inl (nI v)), some (.inl (nI w)), x7, x8]
theorem RCR_m {A A' : FI} {P0 : List (List Tk × Nat)} {R : List Rw} {ss : List Nat} (h : RCR A P0 R) (hF : FmO 26 [10] ss A A') : RCR A' P0 R := RCR_fr h (by rw [hF.1 18 (by decide) (by decide)]) (hF.1 20 (by decide) (by decide)) (hF.1 21 (by decide) (by decide)) (fun i _ => by rw [hF.1 25 (by decide) (by decide)])
theorem RS_m {A A' : FI} {P : List (List Tk × Nat)} {ss : List Nat} (h : RS 6 A P []) (hF : FmO 26 [10] ss A A') : RS 6 A' P [] := RS_fr h (by rw [hF.1 4 (by decide) (by decide)]) (by rw [hF.1 5 (by decide) (by decide)]) (by rw [hF.1 6 (by decide) (by decide)])
theorem MeR_m {A A' : FI} {R : List Rw} {f v w : Nat} (h : MeR A R f v w) (hF : FmO 26 [10] [3, 4, 5] A A') : MeR A' R f v w := ⟨⟨by rw [hF.2 1 (by decide)]; exact h.1.1, by rw [hF.1 27 (by decide) (by decide)]; exact h.1.2⟩, by rw [hF.2 2 (by decide)]; exact h.2⟩
abbrev wasN (P : List (List Tk × Nat)) (i : Nat) : Nat := (nms (flP P)).getD i 0
abbrev evX (P : List (List Tk × Nat)) (R : List Rw) (f v w : Nat) : Nat → Nat → Prop := fun i x => evN (suP P i x) R f v w
theorem l_fi1 {P P0 : List (List Tk × Nat)} {R : List Rw} {f v w y : Nat} (hne : v ≠ w) (hP : okP P) (hy : 1 ≤ y ∧ y ≤ 99) {A0 : FI} {B0 : FJ} {o : Option T3} (hR : RCR A0 P0 R) (hS : RS 6 A0 P []) (hM : MeR A0 R f v w) {Q : Option AV → AH → Prop} (kend : ∀ A B x8, FmO 26 [10] [3, 4, 5] A0 A → FmJ [11] B0 B → MdR A (mdY (evX P R f v w) (wasN P) (nms (flP P)).length y o) → Rn 5 mtX4_find 123 (fiL f v w (some (.inl (nI y))) x8) [] (hp A B) Q) : ∀ (m i : Nat) (A : FI) (B : FJ), i + m = (nms (flP P)).length → FmO 26 [10] [3, 4, 5] A0 A → FmJ [11] B0 B → MdR A (itN (fun i o => mdI (evX P R f v w) (wasN P) y i o) i o) → Rn 5 mtX4_find 77 (fiL f v w (some (.inl (nI y))) (some (.inl (nI i)))) [] (hp A B) Q := by
  have hz0 := (szk_cd hP.2).2
  have enm : nmO (P, [], []) = nms (flP P) := by
    unfold nmO
    dsimp only
    rw [nmL_fl, show nms [] = [] from rfl, List.append_nil]
  have s4 : A0 4 6 4 = nI (nms (flP P)).length := by have := hS.2.2.2.1; rw [enm] at this; exact this
  rw [enm] at hz0
  intro m
  induction m with
  | zero =>
    intro i A B hi hF hJ hD
    have ei : i = (nms (flP P)).length := by omega
    subst ei
    have e4 : A 4 6 4 = nI (nms (flP P)).length := by rw [hF.1 4 (by decide) (by decide)]; exact s4
    refine R_go 9999 rfl rfl trivial ?_
    refine R_cvr rfl (m_numbers e4) rfl rfl rfl rfl rfl (Nat.le_of_ble_eq_true rfl) rfl ?_
    refine R_br rfl rfl (fun _ => ?_) (fun h => absurd (Int32.le_refl _) h)
    exact kend A B _ hF hJ hD
  | succ m ih =>
    intro i A B hi hF hJ hD
    have e4 : A 4 6 4 = nI (nms (flP P)).length := by rw [hF.1 4 (by decide) (by decide)]; exact s4
    have hil : i < (nms (flP P)).length := by omega
    have t1 := ti i (by omega)
    have t2 := ti (nms (flP P)).length (by omega)
    have ty := ti y (by omega)
    have h99 : wasN P i ≤ 99 := okP_99 hP _ (gd_in hil)
    refine R_go 9999 rfl rfl trivial ?_
    refine R_cvr rfl (m_numbers e4) rfl rfl rfl rfl rfl (Nat.le_of_ble_eq_true rfl) rfl ?_
    refine R_br rfl rfl (fun h => absurd h (by (simp only [i_eq, i_lt, i_le, Int32.reduceToInt, true_and, and_true, false_and, and_false, or_false, false_or, or_true, true_or, ne_eq] at *; first | done | omega))) (fun _ => ?_)
    refine R_go 9999 rfl rfl trivial ?_
    try dsimp only [fgt, fpt]
    cases ho : itN (fun i o => mdI (evX P R f v w) (wasN P) y i o) i o with
    | some z =>
      rw [ho] at hD
      obtain ⟨d3, d4, d5, d6, d7⟩ := hD.2 z rfl
      rw [d5]
      refine R_br rfl rfl (fun h => absurd h (nI_nn (by omega))) (fun _ => ?_)
      refine kend A B _ hF hJ ?_
      have := itN_some (f := fun i o => mdI (evX P R f v w) (wasN P) y i o) (fun _ _ => rfl) i (m + 1) ho
      rw [hi] at this
      unfold mdY
      rw [this]
      exact hD
    | none =>
      rw [ho] at hD
      obtain ⟨d3, d4, d5⟩ := hD.1 rfl
      rw [d5]
      refine R_br rfl rfl (fun _ => ?_) (fun h => absurd rfl h)
      refine R_go 9999 rfl rfl trivial ?_
      have e1 : itN (fun i o => mdI (evX P R f v w) (wasN P) y i o) (i + 1) o = mdI (evX P R f v w) (wasN P) y i none := by rw [itN, ho]
      have ih1 := ih (i + 1)
      rw [e1] at ih1
      have hneg : (0 : Int32) - nI y = eI (-(y : Int)) := Int32.toInt_inj.mp (by
        rw [Int32.toInt_sub, ty, e_t (by omega) (by omega), (by decide : (0 : Int32).toInt = 0)]
        rw [Int.bmod_eq_of_le (by omega) (by omega)]; omega)
      have hm1 : nI (wasN P i) + eI (-(y : Int)) = eI ((wasN P i : Int) - y) := Int32.toInt_inj.mp (by
        rw [Int32.toInt_add, ti _ (by omega), e_t (by omega) (by omega), e_t (by omega) (by omega)]
        rw [Int.bmod_eq_of_le (by omega) (by omega)]; omega)
      have hm2 : nI (wasN P i) + nI y = eI ((wasN P i : Int) + y) := by rw [nI_add, e_n (by omega)]; congr 1
      have ha1 : (if 0 ≤ eI (-(y : Int)) then eI (-(y : Int)) else 0 - eI (-(y : Int))) = nI y := by
        rw [if_neg (by rw [i_le, e_t (by omega) (by omega), (by decide : (0 : Int32).toInt = 0)]; omega)]
        exact Int32.toInt_inj.mp (by
          rw [Int32.toInt_sub, ty, e_t (by omega) (by omega), (by decide : (0 : Int32).toInt = 0)]
          rw [Int.bmod_eq_of_le (by omega) (by omega)]; omega)
      have ha2 : (if 0 ≤ nI y then nI y else 0 - nI y) = nI y := if_pos (by rw [i_le, ty, (by decide : (0 : Int32).toInt = 0)]; omega)
      have h1 := m_tryNumber (B := B) (y := y) hne hP (RCR_m hR hF) (RS_m hS hF) (MeR_m hM hF) hD hil hy (tx := (wasN P i : Int) - y) (by omega) hm1 ha1
      rw [← hneg] at h1
      refine R_cv rfl h1 rfl rfl rfl rfl rfl (Nat.le_of_ble_eq_true rfl) rfl ?_
      rintro r h' ⟨A1, B1, rfl, rfl, hF1, hJ1, hD1⟩
      have hF01 := FmO_tr hF hF1
      have h2 := m_tryNumber (B := B1) (y := y) hne hP (RCR_m hR hF01) (RS_m hS hF01) (MeR_m hM hF01) hD1 hil hy (tx := (wasN P i : Int) + y) (by omega) hm2 ha2
      refine R_go 9999 rfl rfl trivial ?_
      refine R_cv rfl h2 rfl rfl rfl rfl rfl (Nat.le_of_ble_eq_true rfl) rfl ?_
      rintro r h' ⟨A2, B2, rfl, rfl, hF2, hJ2, hD2⟩
      refine R_go 77 rfl rfl trivial ?_
      rw [nI_1]
      exact ih1 A2 B2 (by omega) (FmO_tr hF01 hF2) (FmJ_tr hJ (FmJ_tr hJ1 hJ2)) hD2
theorem l_fi2 {P P0 : List (List Tk × Nat)} {R : List Rw} {f v w : Nat} (hne : v ≠ w) (hP : okP P) {A0 : FI} {B0 : FJ} (hR : RCR A0 P0 R) (hS : RS 6 A0 P []) (hM : MeR A0 R f v w) {Q : Option AV → AH → Prop} (kend : ∀ A B, FmO 26 [10] [3, 4, 5] A0 A → FmJ [11] B0 B → MdR A (mdC (evX P R f v w) (wasN P) (nms (flP P)).length) → Q none (hp A B)) : ∀ (m k : Nat) (A : FI) (B : FJ), k + m = 99 → FmO 26 [10] [3, 4, 5] A0 A → FmJ [11] B0 B → MdR A (itN (fun k o => mdY (evX P R f v w) (wasN P) (nms (flP P)).length (k + 1) o) k none) → ∀ x8, Rn 5 mtX4_find 59 (fiL f v w (some (.inl (nI (k + 1)))) x8) [] (hp A B) Q := by
  intro m
  induction m with
  | zero =>
    intro k A B hk hF hJ hD x8
    have ek : k = 99 := by omega
    subst ek
    refine R_go 9999 rfl rfl trivial ?_
    refine R_br rfl rfl (fun _ => ?_) (fun h => absurd (by decide) h)
    refine R_rv rfl rfl ?_
    exact kend A B hF hJ hD
  | succ m ih =>
    intro k A B hk hF hJ hD x8
    have t1 := ti (k + 1) (by omega)
    refine R_go 9999 rfl rfl trivial ?_
    refine R_br rfl rfl (fun h => absurd h (by (simp only [i_eq, i_lt, i_le, Int32.reduceToInt, true_and, and_true, false_and, and_false, or_false, false_or, or_true, true_or, ne_eq] at *; first | done | omega))) (fun _ => ?_)
    refine R_go 9999 rfl rfl trivial ?_
    try dsimp only [fgt, fpt]
    cases ho : itN (fun k o => mdY (evX P R f v w) (wasN P) (nms (flP P)).length (k + 1) o) k none with
    | some z =>
      rw [ho] at hD
      obtain ⟨d3, d4, d5, d6, d7⟩ := hD.2 z rfl
      rw [d5]
      refine R_br rfl rfl (fun h => absurd h (nI_nn (by omega))) (fun _ => ?_)
      refine R_rv rfl rfl ?_
      refine kend A B hF hJ ?_
      have := itN_some (f := fun k o => mdY (evX P R f v w) (wasN P) (nms (flP P)).length (k + 1) o) (fun _ _ => mdY_s _ _ _ _ _) k (m + 1) ho
      rw [hk] at this
      unfold mdC
      rw [this]
      exact hD
    | none =>
      have e1 : itN (fun k o => mdY (evX P R f v w) (wasN P) (nms (flP P)).length (k + 1) o) (k + 1) none = mdY (evX P R f v w) (wasN P) (nms (flP P)).length (k + 1) none := by rw [itN, ho]
      have ih1 := ih (k + 1)
      rw [e1] at ih1
      rw [ho] at hD
      obtain ⟨d3, d4, d5⟩ := hD.1 rfl
      rw [d5]
      refine R_br rfl rfl (fun _ => ?_) (fun h => absurd rfl h)
      refine R_go 77 rfl rfl trivial ?_
      refine l_fi1 (o := none) hne hP (by omega) (RCR_m hR hF) (RS_m hS hF) (MeR_m hM hF) (fun A1 B1 x8' hF1 hJ1 hD1 => ?_) (nms (flP P)).length 0 A B (by omega) FmO_rf FmJ_rf hD
      refine R_go 59 rfl rfl trivial ?_
      rw [nI_1]
      exact ih1 A1 B1 (by omega) (FmO_tr hF hF1) (FmJ_tr hJ hJ1) hD1 _
/-- what MEND finds -/
noncomputable def mdF (P : List (List Tk × Nat)) (R : List Rw) (f v w : Nat) : Int32 × Int32 × Int32 := @ite _ (evN P R f v w) (Classical.propDecidable _) (-1, 0, 0) (match mdC (evX P R f v w) (wasN P) (nms (flP P)).length with
  | none => (-1, -1, -1)
  | some z => (nI z.1, nI z.2.1, nI z.2.2))
theorem mdF_y {P : List (List Tk × Nat)} {R : List Rw} {f v w : Nat} (h : evN P R f v w) : mdF P R f v w = (-1, 0, 0) := @if_pos _ (Classical.propDecidable _) h _ _ _
theorem mdF_n {P : List (List Tk × Nat)} {R : List Rw} {f v w : Nat} (h : ¬ evN P R f v w) : mdF P R f v w = (match mdC (evX P R f v w) (wasN P) (nms (flP P)).length with
  | none => (-1, -1, -1)
  | some z => (nI z.1, nI z.2.1, nI z.2.2)) := @if_neg _ (Classical.propDecidable _) h _ _ _
def FIo (A : FI) (B : FJ) (x : Int32 × Int32 × Int32) : Option AV → AH → Prop := fun r h' => ∃ A' B', r = none ∧ h' = hp A' B' ∧ FmO 26 [10, 27] [1, 2, 3, 4, 5] A A' ∧ FmJ [11] B B' ∧ A' 26 0 3 = x.1 ∧ A' 26 0 4 = x.2.1 ∧ A' 26 0 5 = x.2.2
theorem m_find {P P0 : List (List Tk × Nat)} {R : List Rw} {f v w : Nat} (hf : f < 8) (hv : v ≤ 20) (hw : w ≤ 20) (hne : v ≠ w) (hP : okP P) {A : FI} {B : FJ} (hR : RCR A P0 R) (hS : RS 6 A P []) : MV 5 6 mtX4_find [.inr (.inr (some (26, 0))), .inr (.inr (some (4, 6))), .inr (.inr (some (10, 0))), .inr (.inr (some (18, 0))), .inl (nI f), .inl (nI v), .inl (nI w)] (hp A B) (FIo A B (mdF P R f v w)) := by
  have h24 := hR.2.1
  have hd := gl_dis (R := R) (f := f) hne R.length
  refine MV_of caX4_find (L := fiL f v w none none) rfl rfl ?_
  refine R_go 9999 rfl rfl trivial ?_
  generalize hA1 : up3 A 26 0 1 0 = A1
  have hF1 : FmO 26 [10, 27] [1, 2, 3, 4, 5] A A1 := by rw [← hA1]; exact (by first | exact FmO_rf | (repeat' (first | exact FmO_rf | (with_reducible assumption) | (refine FmO_up ?_ (by decide)) | (refine FmO_ug ?_ (by decide) (by decide)))))
  have hM1 : MrR A1 [] := ⟨by rw [← hA1]; exact up3_self, al_nil⟩
  clear hA1
  have rr : ∀ {A' : FI}, FmO 26 [10, 27] [1, 2, 3, 4, 5] A A' → RCR A' P0 R := fun hF => RCR_fr hR (by rw [hF.1 18 (by decide) (by decide)]) (hF.1 20 (by decide) (by decide)) (hF.1 21 (by decide) (by decide)) (fun i _ => by rw [hF.1 25 (by decide) (by decide)])
  have rs : ∀ {A' : FI}, FmO 26 [10, 27] [1, 2, 3, 4, 5] A A' → RS 6 A' P [] := fun hF => RS_fr hS (by rw [hF.1 4 (by decide) (by decide)]) (by rw [hF.1 5 (by decide) (by decide)]) (by rw [hF.1 6 (by decide) (by decide)])
  refine R_cv rfl (m_gather (L := []) hf hv (by simp only [List.length_nil]; omega) (rr hF1) hM1) rfl rfl rfl rfl rfl (Nat.le_of_ble_eq_true rfl) rfl ?_
  rintro r h' ⟨A2, rfl, rfl, hF2, hM2⟩
  rw [List.nil_append] at hM2
  have hF02 : FmO 26 [10, 27] [1, 2, 3, 4, 5] A A2 := FmO_tr hF1 (FmO_w hF2 (by decide) (by decide))
  refine R_go 9999 rfl rfl trivial ?_
  try dsimp only [fgt, fpt]
  rw [hM2.1]
  generalize hA3 : up3 A2 26 0 2 (nI (gl R f v R.length).length) = A3
  have hF3 : FmO 26 [10, 27] [1, 2, 3, 4, 5] A A3 := FmO_tr hF02 (by rw [← hA3]; exact (by first | exact FmO_rf | (repeat' (first | exact FmO_rf | (with_reducible assumption) | (refine FmO_up ?_ (by decide)) | (refine FmO_ug ?_ (by decide) (by decide))))))
  have hM3 : MrR A3 (gl R f v R.length) := ⟨by rw [← hA3, up3_s (by decide)]; exact hM2.1, by rw [← hA3, up3_g (by decide)]; exact hM2.2⟩
  have e32 : A3 26 0 2 = nI (gl R f v R.length).length := by rw [← hA3]; exact up3_self
  clear hA3
  refine R_cv rfl (m_gather (L := gl R f v R.length) hf hw (by omega) (rr hF3) hM3) rfl rfl rfl rfl rfl (Nat.le_of_ble_eq_true rfl) rfl ?_
  rintro r h' ⟨A4, rfl, rfl, hF4, hM4⟩
  have hF04 : FmO 26 [10, 27] [1, 2, 3, 4, 5] A A4 := FmO_tr hF3 (FmO_w hF4 (by decide) (by decide))
  have hMe : MeR A4 R f v w := ⟨hM4, by rw [hF4.2 2 (by decide)]; exact e32⟩
  refine R_go 9999 rfl rfl trivial ?_
  refine R_cv rfl (m_isEven (B := B) hne hP (rr hF04) (rs hF04) hMe) rfl rfl rfl rfl rfl (Nat.le_of_ble_eq_true rfl) rfl ?_
  rintro r h' ⟨A5, B5, rfl, rfl, hF5, hJ5⟩
  have hF05 : FmO 26 [10, 27] [1, 2, 3, 4, 5] A A5 := FmO_tr hF04 (FmO_o hF5 (by decide) (by decide))
  have hMe5 : MeR A5 R f v w := ⟨⟨by rw [hF5.1 26 (by decide) (by simp)]; exact hMe.1.1, by rw [hF5.1 27 (by decide) (by simp)]; exact hMe.1.2⟩, by rw [hF5.1 26 (by decide) (by simp)]; exact hMe.2⟩
  rcases Classical.em (evN P R f v w) with he | he
  · rw [b2_1 he, mdF_y he]
    refine R_br rfl rfl (fun h => absurd h (by decide)) (fun _ => ?_)
    refine R_go 9999 rfl rfl trivial ?_
    refine R_cvv rfl m_keepX rfl rfl rfl rfl rfl (Nat.le_of_ble_eq_true rfl) rfl ?_
    refine R_rv rfl rfl ?_
    exact ⟨_, B5, rfl, rfl, FmO_tr hF05 (by first | exact FmO_rf | (repeat' (first | exact FmO_rf | (with_reducible assumption) | (refine FmO_up ?_ (by decide)) | (refine FmO_ug ?_ (by decide) (by decide))))), hJ5, by rw [up3_s (by decide), up3_s (by decide)]; exact up3_self, by rw [up3_s (by decide)]; exact up3_self, up3_self⟩
  · rw [b2_0 he, mdF_n he]
    refine R_br rfl rfl (fun _ => ?_) (fun h => absurd rfl h)
    refine R_go 9999 rfl rfl trivial ?_
    refine R_cvv rfl m_keepX rfl rfl rfl rfl rfl (Nat.le_of_ble_eq_true rfl) rfl ?_
    generalize hA6 : up3 (up3 (up3 A5 26 0 3 (-1)) 26 0 4 (-1)) 26 0 5 (-1) = A6
    have hF56 : FmO 26 [] [3, 4, 5] A5 A6 := by rw [← hA6]; exact (by first | exact FmO_rf | (repeat' (first | exact FmO_rf | (with_reducible assumption) | (refine FmO_up ?_ (by decide)) | (refine FmO_ug ?_ (by decide) (by decide)))))
    have hF06 : FmO 26 [10, 27] [1, 2, 3, 4, 5] A A6 := FmO_tr hF05 (FmO_w hF56 (by decide) (by decide))
    have hMd : MdR A6 none := ⟨fun _ => ⟨by rw [← hA6, up3_s (by decide), up3_s (by decide)]; exact up3_self, by rw [← hA6, up3_s (by decide)]; exact up3_self, by rw [← hA6]; exact up3_self⟩, fun z hz => by cases hz⟩
    clear hA6
    refine R_go 59 rfl rfl trivial ?_
    refine l_fi2 (A0 := A6) (B0 := B5) hne hP (rr hF06) (rs hF06) (MeR_m hMe5 (FmO_w hF56 (by decide) (by decide))) (fun A7 B7 hF7 hJ7 hD7 => ?_) 99 0 A6 B5 (by omega) FmO_rf FmJ_rf hMd none
    refine ⟨A7, B7, rfl, rfl, FmO_tr hF06 (FmO_w hF7 (by decide) (by decide)), FmJ_tr hJ5 hJ7, ?_⟩
    cases hm : mdC (evX P R f v w) (wasN P) (nms (flP P)).length with
    | none =>
      rw [hm] at hD7
      exact hD7.1 rfl
    | some z =>
      rw [hm] at hD7
      obtain ⟨d3, d4, d5, -⟩ := hD7.2 z rfl
      exact ⟨d3, d4, d5⟩
theorem m_found {A : FI} {B : FJ} {x : Int32 × Int32 × Int32} (h : A 26 0 3 = x.1 ∧ A 26 0 4 = x.2.1 ∧ A 26 0 5 = x.2.2) (w : Int32) : MV 0 1 mtX4_found [.inr (.inr (some (26, 0))), .inl w] (hp A B) (Ret (some (.inl (if w = 0 then x.1 else if w = 1 then x.2.1 else x.2.2))) (hp A B)) := by
  refine MV_of caX4_found (L := [some (.inr (.inr (some (26, 0)))), some (.inl w)]) rfl rfl ?_
  by_cases h0 : w = 0
  · rw [if_pos h0, ← h.1]; subst h0
    repeat' (first
        | (refine R_br rfl rfl (fun hbr => absurd hbr (by first | decide | (with_reducible assumption))) (fun _ => ?_))
        | (refine R_br rfl rfl (fun _ => ?_) (fun hbr => absurd (by first | decide | (with_reducible assumption)) hbr))
        | (refine R_br rfl rfl (fun _ => ?_) (fun _ => ?_))
        | (refine R_ri rfl rfl ?_)
        | (refine R_rz rfl rfl (Or.inl rfl) ?_)
        | (refine R_rz rfl rfl (Or.inr rfl) ?_)
        | (refine R_rz rfl rfl (b2_01 _) ?_)
        | (refine R_rl rfl rfl ?_)
        | (refine R_rv rfl rfl ?_)
        | (refine R_sw _ rfl rfl rfl ?_)
        | (refine R_go 9999 rfl rfl trivial ?_)
        | (refine R_go 9999 rfl rfl (by first | (show _ ∨ _; decide) | (show (_ ∨ _) ∧ (_ ∨ _); decide) | (show (_ ∨ _) ∧ (_ ∨ _) ∧ (_ ∨ _); decide)) ?_)
        | (refine R_go 9999 rfl rfl ?_ ?_))
    exact ret_i rfl rfl
  · rw [if_neg h0]
    by_cases h1 : w = 1
    · rw [if_pos h1, ← h.2.1]; subst h1
      repeat' (first
          | (refine R_br rfl rfl (fun hbr => absurd hbr (by first | decide | (with_reducible assumption))) (fun _ => ?_))
          | (refine R_br rfl rfl (fun _ => ?_) (fun hbr => absurd (by first | decide | (with_reducible assumption)) hbr))
          | (refine R_br rfl rfl (fun _ => ?_) (fun _ => ?_))
          | (refine R_ri rfl rfl ?_)
          | (refine R_rz rfl rfl (Or.inl rfl) ?_)
          | (refine R_rz rfl rfl (Or.inr rfl) ?_)
          | (refine R_rz rfl rfl (b2_01 _) ?_)
          | (refine R_rl rfl rfl ?_)
          | (refine R_rv rfl rfl ?_)
          | (refine R_sw _ rfl rfl rfl ?_)
          | (refine R_go 9999 rfl rfl trivial ?_)
          | (refine R_go 9999 rfl rfl (by first | (show _ ∨ _; decide) | (show (_ ∨ _) ∧ (_ ∨ _); decide) | (show (_ ∨ _) ∧ (_ ∨ _) ∧ (_ ∨ _); decide)) ?_)
          | (refine R_go 9999 rfl rfl ?_ ?_))
      exact ret_i rfl rfl
    · rw [if_neg h1, ← h.2.2]
      repeat' (first
          | (refine R_br rfl rfl (fun hbr => absurd hbr (by first | decide | (with_reducible assumption))) (fun _ => ?_))
          | (refine R_br rfl rfl (fun _ => ?_) (fun hbr => absurd (by first | decide | (with_reducible assumption)) hbr))
          | (refine R_br rfl rfl (fun _ => ?_) (fun _ => ?_))
          | (refine R_ri rfl rfl ?_)
          | (refine R_rz rfl rfl (Or.inl rfl) ?_)
          | (refine R_rz rfl rfl (Or.inr rfl) ?_)
          | (refine R_rz rfl rfl (b2_01 _) ?_)
          | (refine R_rl rfl rfl ?_)
          | (refine R_rv rfl rfl ?_)
          | (refine R_sw _ rfl rfl rfl ?_)
          | (refine R_go 9999 rfl rfl trivial ?_)
          | (refine R_go 9999 rfl rfl (by first | (show _ ∨ _; decide) | (show (_ ∨ _) ∧ (_ ∨ _); decide) | (show (_ ∨ _) ∧ (_ ∨ _) ∧ (_ ∨ _); decide)) ?_)
          | (refine R_go 9999 rfl rfl ?_ ?_))
      exact ret_i rfl rfl
/-- MEND, its answer and how many were told -/
noncomputable def mdA (P : List (List Tk × Nat)) (R : List Rw) (n : Nat) (f v w k : Int32) : Int32 × Nat :=
  if rfA P R f v w (decide (0 ≤ k.toInt ∧ k.toInt ≤ 2)) ≠ 0 then (rfA P R f v w (decide (0 ≤ k.toInt ∧ k.toInt ≤ 2)), n)
  else if 20 ≤ n then (-103, n)
  else (if k = 0 then (mdF P R f.toNatClampNeg v.toNatClampNeg w.toNatClampNeg).1 else if k = 1 then (mdF P R f.toNatClampNeg v.toNatClampNeg w.toNatClampNeg).2.1 else (mdF P R f.toNatClampNeg v.toNatClampNeg w.toNatClampNeg).2.2, n + 1)
theorem m_mendC {P : List (List Tk × Nat)} {R : List Rw} {n : Nat} {A : FI} {B : FJ} (hP : okG P) (hS : RS 6 A P []) (hR : RCR A P R) (h14 : A 0 0 14 = nI n) (hn : n ≤ 20) (f v w k : Int32) : MV 6 4 mtX11_mend [.inr (.inr (some (0, 0))), .inl f, .inl v, .inl w, .inl k] (hp A B) (fun r h' => ∃ A' B', h' = hp A' B' ∧ r = some (.inl (mdA P R n f v w k).1) ∧ FmO 0 [10, 26, 27] [14] A A' ∧ FmJ [11] B B' ∧ A' 0 0 14 = nI (mdA P R n f v w k).2) := by
  have hr := m_refusal (B := B) hP hS hR f v w k 2 (by omega)
  rw [show ((2 : Nat) : Int) = 2 from rfl] at hr
  have tn := ti n (by omega)
  refine MV_of caX11_mend (L := [some (.inr (.inr (some (0, 0)))), some (.inl f), some (.inl v), some (.inl w), some (.inl k), none]) rfl rfl ?_
  unfold mdA
  refine R_go 9999 rfl rfl trivial ?_
  refine R_cvr rfl hr rfl rfl rfl rfl rfl (Nat.le_of_ble_eq_true rfl) rfl ?_
  refine R_go 9999 rfl rfl trivial ?_
  rcases rfA_c P R f v w (decide (0 ≤ k.toInt ∧ k.toInt ≤ 2)) with h | h | h | ⟨h, hgd, hPe, a, b, c, ha, hb, hcc, hne, rfl, rfl, rfl, h1, h2⟩
  · rw [h, if_pos (by decide)]
    refine R_br rfl rfl (fun h => absurd h (by decide)) (fun _ => ?_)
    repeat' (first
        | (refine R_br rfl rfl (fun hbr => absurd hbr (by first | decide | (with_reducible assumption))) (fun _ => ?_))
        | (refine R_br rfl rfl (fun _ => ?_) (fun hbr => absurd (by first | decide | (with_reducible assumption)) hbr))
        | (refine R_br rfl rfl (fun _ => ?_) (fun _ => ?_))
        | (refine R_ri rfl rfl ?_)
        | (refine R_rz rfl rfl (Or.inl rfl) ?_)
        | (refine R_rz rfl rfl (Or.inr rfl) ?_)
        | (refine R_rz rfl rfl (b2_01 _) ?_)
        | (refine R_rl rfl rfl ?_)
        | (refine R_rv rfl rfl ?_)
        | (refine R_sw _ rfl rfl rfl ?_)
        | (refine R_go 9999 rfl rfl trivial ?_)
        | (refine R_go 9999 rfl rfl (by first | (show _ ∨ _; decide) | (show (_ ∨ _) ∧ (_ ∨ _); decide) | (show (_ ∨ _) ∧ (_ ∨ _) ∧ (_ ∨ _); decide)) ?_)
        | (refine R_go 9999 rfl rfl ?_ ?_))
    exact ⟨A, B, rfl, rfl, FmO_rf, FmJ_rf, h14⟩
  · rw [h, if_pos (by decide)]
    refine R_br rfl rfl (fun h => absurd h (by decide)) (fun _ => ?_)
    repeat' (first
        | (refine R_br rfl rfl (fun hbr => absurd hbr (by first | decide | (with_reducible assumption))) (fun _ => ?_))
        | (refine R_br rfl rfl (fun _ => ?_) (fun hbr => absurd (by first | decide | (with_reducible assumption)) hbr))
        | (refine R_br rfl rfl (fun _ => ?_) (fun _ => ?_))
        | (refine R_ri rfl rfl ?_)
        | (refine R_rz rfl rfl (Or.inl rfl) ?_)
        | (refine R_rz rfl rfl (Or.inr rfl) ?_)
        | (refine R_rz rfl rfl (b2_01 _) ?_)
        | (refine R_rl rfl rfl ?_)
        | (refine R_rv rfl rfl ?_)
        | (refine R_sw _ rfl rfl rfl ?_)
        | (refine R_go 9999 rfl rfl trivial ?_)
        | (refine R_go 9999 rfl rfl (by first | (show _ ∨ _; decide) | (show (_ ∨ _) ∧ (_ ∨ _); decide) | (show (_ ∨ _) ∧ (_ ∨ _) ∧ (_ ∨ _); decide)) ?_)
        | (refine R_go 9999 rfl rfl ?_ ?_))
    exact ⟨A, B, rfl, rfl, FmO_rf, FmJ_rf, h14⟩
  · rw [h, if_pos (by decide)]
    refine R_br rfl rfl (fun h => absurd h (by decide)) (fun _ => ?_)
    repeat' (first
        | (refine R_br rfl rfl (fun hbr => absurd hbr (by first | decide | (with_reducible assumption))) (fun _ => ?_))
        | (refine R_br rfl rfl (fun _ => ?_) (fun hbr => absurd (by first | decide | (with_reducible assumption)) hbr))
        | (refine R_br rfl rfl (fun _ => ?_) (fun _ => ?_))
        | (refine R_ri rfl rfl ?_)
        | (refine R_rz rfl rfl (Or.inl rfl) ?_)
        | (refine R_rz rfl rfl (Or.inr rfl) ?_)
        | (refine R_rz rfl rfl (b2_01 _) ?_)
        | (refine R_rl rfl rfl ?_)
        | (refine R_rv rfl rfl ?_)
        | (refine R_sw _ rfl rfl rfl ?_)
        | (refine R_go 9999 rfl rfl trivial ?_)
        | (refine R_go 9999 rfl rfl (by first | (show _ ∨ _; decide) | (show (_ ∨ _) ∧ (_ ∨ _); decide) | (show (_ ∨ _) ∧ (_ ∨ _) ∧ (_ ∨ _); decide)) ?_)
        | (refine R_go 9999 rfl rfl ?_ ?_))
    exact ⟨A, B, rfl, rfl, FmO_rf, FmJ_rf, h14⟩
  · rw [h, if_neg (by simp)]
    rw [nI_clamp (show a < 2 ^ 31 by omega), nI_clamp (show b < 2 ^ 31 by omega), nI_clamp (show c < 2 ^ 31 by omega)]
    refine R_br rfl rfl (fun _ => ?_) (fun h => absurd rfl h)
    refine R_go 9999 rfl rfl trivial ?_
    try dsimp only [fgt, fpt]
    rw [h14]
    by_cases h20 : 20 ≤ n
    · rw [if_pos h20]
      refine R_br rfl rfl (fun h => absurd h (by (simp only [i_eq, i_lt, i_le, Int32.reduceToInt, true_and, and_true, false_and, and_false, or_false, false_or, or_true, true_or, ne_eq] at *; first | done | omega))) (fun _ => ?_)
      repeat' (first
          | (refine R_br rfl rfl (fun hbr => absurd hbr (by first | decide | (with_reducible assumption))) (fun _ => ?_))
          | (refine R_br rfl rfl (fun _ => ?_) (fun hbr => absurd (by first | decide | (with_reducible assumption)) hbr))
          | (refine R_br rfl rfl (fun _ => ?_) (fun _ => ?_))
          | (refine R_ri rfl rfl ?_)
          | (refine R_rz rfl rfl (Or.inl rfl) ?_)
          | (refine R_rz rfl rfl (Or.inr rfl) ?_)
          | (refine R_rz rfl rfl (b2_01 _) ?_)
          | (refine R_rl rfl rfl ?_)
          | (refine R_rv rfl rfl ?_)
          | (refine R_sw _ rfl rfl rfl ?_)
          | (refine R_go 9999 rfl rfl trivial ?_)
          | (refine R_go 9999 rfl rfl (by first | (show _ ∨ _; decide) | (show (_ ∨ _) ∧ (_ ∨ _); decide) | (show (_ ∨ _) ∧ (_ ∨ _) ∧ (_ ∨ _); decide)) ?_)
          | (refine R_go 9999 rfl rfl ?_ ?_))
      exact ⟨A, B, rfl, rfl, FmO_rf, FmJ_rf, h14⟩
    · rw [if_neg h20]
      refine R_br rfl rfl (fun _ => ?_) (fun h => absurd (by (simp only [i_eq, i_lt, i_le, Int32.reduceToInt, true_and, and_true, false_and, and_false, or_false, false_or, or_true, true_or, ne_eq] at *; first | done | omega)) h)
      refine R_go 9999 rfl rfl trivial ?_
      try dsimp only [fgt, fpt]
      rw [h14, nI_1]
      generalize hA1 : up3 A 0 0 14 (nI (n + 1)) = A1
      have hF1 : FmO 0 [10, 26, 27] [14] A A1 := by rw [← hA1]; exact (by first | exact FmO_rf | (repeat' (first | exact FmO_rf | (with_reducible assumption) | (refine FmO_up ?_ (by decide)) | (refine FmO_ug ?_ (by decide) (by decide)))))
      have e14 : A1 0 0 14 = nI (n + 1) := by rw [← hA1]; exact up3_self
      clear hA1
      refine R_cv rfl (m_find (B := B) ha hb hcc hne (okG_ne hP hPe) (RCR_fr hR (by rw [hF1.1 18 (by decide) (by decide)]) (hF1.1 20 (by decide) (by decide)) (hF1.1 21 (by decide) (by decide)) (fun i _ => by rw [hF1.1 25 (by decide) (by decide)])) (RS_fr hS (by rw [hF1.1 4 (by decide) (by decide)]) (by rw [hF1.1 5 (by decide) (by decide)]) (by rw [hF1.1 6 (by decide) (by decide)]))) rfl rfl rfl rfl rfl (Nat.le_of_ble_eq_true rfl) rfl ?_
      rintro r h' ⟨A2, B2, rfl, rfl, hF2, hJ2, hx⟩
      refine R_go 9999 rfl rfl trivial ?_
      refine R_cvr rfl (m_found hx k) rfl rfl rfl rfl rfl (Nat.le_of_ble_eq_true rfl) rfl ?_
      refine R_ri rfl rfl ?_
      exact ⟨A2, B2, rfl, rfl, FmO_tr hF1 (FmO_x hF2 (by decide) (by decide) (by decide) (by decide)), hJ2, by rw [hF2.1 0 (by decide) (by decide)]; exact e14⟩
