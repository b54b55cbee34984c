def jX (w : Nat) (a b : Int × Int) : Int × Int := if w < 12 then bar w a b else if w < 15 then tp (spn w a b) else if w = 16 then (min a.1 b.1, min a.2 b.2) else (max a.1 b.1, max a.2 b.2)
def q9 (a : Int × Int) : Prop := -1000000000 ≤ a.1 ∧ a.1 ≤ a.2 ∧ a.2 ≤ 1000000000
theorem q9_b {a : Int × Int} (h : q9 a) : bnd a.1 ∧ bnd a.2 := by
  unfold q9 at h
  unfold bnd
  omega
theorem q9_p {a b : Int} (ha : -1000000000 ≤ a ∧ a ≤ 1000000000) (hb : -1000000000 ≤ b ∧ b ≤ 1000000000) : bnd (a * b) := by
  have := prd (m := 1000000000) (n := 1000000000) (a := a) (b := b) (by omega) (by omega)
  unfold bnd
  omega
theorem bnd_mm {a b : Int} (ha : bnd a) (hb : bnd b) : bnd (min a b) ∧ bnd (max a b) := by
  unfold bnd at *
  omega
theorem up3_up {α : Type} {A : Nat → Nat → Nat → α} {g i s : Nat} {x y : α} : up3 (up3 A g i s x) g i s y = up3 A g i s y := by
  funext g' i' s'
  by_cases h : g' = g <;> by_cases h2 : i' = i <;> by_cases h3 : s' = s <;> simp [up3, h, h2, h3]
theorem m_pushX {A : FI} {B : FJ} {n : Nat} (hn : n < 80) (x y : Int64) (e : A 12 0 2 = nI n) : MV 0 2 mtX9_push [.inr (.inr (some (12, 0))), .inr (.inl x), .inr (.inl y)] (hp A B) (Ret none (hp (up3 A 12 0 2 (nI (n + 1))) (up3 (up3 B 13 0 n x) 14 0 n y))) := by
  have tn := ti n (by omega)
  have cl : (nI n).toNatClampNeg = n := nI_clamp (by omega)
  refine MV_of caX9_push (L := [some (.inr (.inr (some (12, 0)))), some (.inr (.inl x)), none, some (.inr (.inl y)), none]) rfl rfl ?_
  repeat' (first
      | (refine R_br rfl rfl (fun hbr => absurd hbr (by first | decide | (with_reducible assumption) | (simp only [e]; first | decide | (with_reducible assumption)) | (simp only [i_eq, i_lt, i_le, Int32.reduceToInt, ne_eq, up3_self, nI_1, e]; first | done | omega))) (fun _ => ?_))
      | (refine R_br rfl rfl (fun _ => ?_) (fun hbr => absurd (by first | decide | (with_reducible assumption) | (simp only [e]; first | decide | (with_reducible assumption)) | (simp only [i_eq, i_lt, i_le, Int32.reduceToInt, ne_eq, up3_self, nI_1, e]; first | done | omega)) hbr))
      | (refine R_br rfl rfl (fun _ => ?_) (fun _ => ?_))
      | (refine R_ri rfl rfl ?_)
      | (refine R_rz rfl rfl (Or.inl rfl) ?_)
      | (refine R_rz rfl rfl (Or.inr rfl) ?_)
      | (refine R_rz rfl rfl (b2_01 _) ?_)
      | (refine R_rl rfl rfl ?_)
      | (refine R_rv rfl rfl ?_)
      | (refine R_sw _ rfl rfl rfl ?_)
      | (refine R_go 9999 rfl rfl trivial ?_)
      | (refine R_go 9999 rfl rfl (by first | (show _ ∨ _; decide) | (show (_ ∨ _) ∧ (_ ∨ _); decide) | (show (_ ∨ _) ∧ (_ ∨ _) ∧ (_ ∨ _); decide)) ?_)
      | (refine R_go 9999 rfl rfl ?_ ?_))
  · rw [e]; exact ⟨vpN (n := 80) hn rfl, vpN (n := 80) hn rfl⟩
  · rw [e, cl, nI_1]; exact ret_v rfl
theorem m_turnX {A : FI} {B : FJ} {n : Nat} (hn : n < 80) (a : Int × Int) (e : A 12 0 2 = nI (n + 1)) (e1 : B 13 0 n = jI a.1) (e2 : B 14 0 n = jI a.2) : MV 0 0 mtX9_turn [.inr (.inr (some (12, 0)))] (hp A B) (Ret none (hp A (up3 (up3 B 13 0 n (jI (1 - a.2))) 14 0 n (jI (1 - a.1))))) := by
  have tn := ti n (by omega)
  have tn1 := ti (n + 1) (by omega)
  have cl : (nI n).toNatClampNeg = n := nI_clamp (by omega)
  have ep : A 12 0 2 - 1 = nI n := by rw [e, nI_pred]
  have hv : vp_in (nI n) 80 := vpN (n := 80) hn rfl
  have s1 : (1 : Int64) - jI a.2 = jI (1 - a.2) := jI_sub 1 a.2
  have s2 : (1 : Int64) - jI a.1 = jI (1 - a.1) := jI_sub 1 a.1
  refine MV_of caX9_turn (L := [some (.inr (.inr (some (12, 0)))), none, none]) rfl rfl ?_
  refine R_go 9999 rfl rfl trivial ?_
  refine R_br rfl rfl (fun h => absurd h (by rw [e]; (simp only [i_eq, i_lt, i_le, Int32.reduceToInt, true_and, and_true, false_and, and_false, or_false, false_or, or_true, true_or, ne_eq] at *; first | done | omega))) (fun _ => ?_)
  refine R_go 9999 rfl rfl trivial ?_
  refine R_br rfl rfl (fun h => absurd h (by rw [e]; (simp only [i_eq, i_lt, i_le, Int32.reduceToInt, true_and, and_true, false_and, and_false, or_false, false_or, or_true, true_or, ne_eq] at *; first | done | omega))) (fun _ => ?_)
  refine R_go 9999 rfl rfl ?_ ?_
  · rw [ep]; exact ⟨hv, hv, hv, hv⟩
  rw [ep, cl, e1, e2, s1, s2]
  repeat' (first
      | (refine R_br rfl rfl (fun hbr => absurd hbr (by first | decide | (with_reducible assumption))) (fun _ => ?_))
      | (refine R_br rfl rfl (fun _ => ?_) (fun hbr => absurd (by first | decide | (with_reducible assumption)) hbr))
      | (refine R_br rfl rfl (fun _ => ?_) (fun _ => ?_))
      | (refine R_ri rfl rfl ?_)
      | (refine R_rz rfl rfl (Or.inl rfl) ?_)
      | (refine R_rz rfl rfl (Or.inr rfl) ?_)
      | (refine R_rz rfl rfl (b2_01 _) ?_)
      | (refine R_rl rfl rfl ?_)
      | (refine R_rv rfl rfl ?_)
      | (refine R_sw _ rfl rfl rfl ?_)
      | (refine R_go 9999 rfl rfl trivial ?_)
      | (refine R_go 9999 rfl rfl (by first | (show _ ∨ _; decide) | (show (_ ∨ _) ∧ (_ ∨ _); decide) | (show (_ ∨ _) ∧ (_ ∨ _) ∧ (_ ∨ _); decide)) ?_)
      | (refine R_go 9999 rfl rfl ?_ ?_))
  exact ret_v rfl
theorem m_bitI (f : Nat) (hf : f ≤ 1) (A : FI) (B : FJ) : MS 0 1 mtX11_bit [.inl (nI f)] (hp A B) (Ret (some (.inl (nI f))) (hp A B)) :=
  m_bit (nI f) (by rcases (show f = 0 ∨ f = 1 by omega) with rfl | rfl; exact Or.inl rfl; exact Or.inr rfl) A B
theorem lc_ge {a b : Int} (ha : bnd a) (hb : bnd b) : 0 ≤ lg_cmp (jI a) (jI b) ↔ b ≤ a := by
  have h1 := lg_cmp_lt (jI a) (jI b)
  rw [jI_lt ha hb] at h1
  constructor
  · intro h
    rcases Int.lt_or_le a b with z | z
    · have := h1.mpr z
      simp only [i_lt, i_le, Int32.reduceToInt] at *
      omega
    · exact z
  · intro h
    rcases Int.lt_or_le (lg_cmp (jI a) (jI b)).toInt 0 with z | z
    · have := h1.mp (by simp only [i_lt, i_le, Int32.reduceToInt] at *; omega)
      omega
    · simp only [i_lt, i_le, Int32.reduceToInt] at *; omega
theorem lc_le {a b : Int} (ha : bnd a) (hb : bnd b) : lg_cmp (jI a) (jI b) ≤ 0 ↔ a ≤ b := by
  have h1 := lg_cmp_gt (jI a) (jI b)
  rw [jI_lt hb ha] at h1
  constructor
  · intro h
    rcases Int.lt_or_le b a with z | z
    · have := h1.mpr z
      simp only [i_lt, i_le, Int32.reduceToInt] at *
      omega
    · exact z
  · intro h
    rcases Int.lt_or_le 0 (lg_cmp (jI a) (jI b)).toInt with z | z
    · have := h1.mp (by simp only [i_lt, i_le, Int32.reduceToInt] at *; omega)
      omega
    · simp only [i_lt, i_le, Int32.reduceToInt] at *; omega
theorem lc_gt {a b : Int} (ha : bnd a) (hb : bnd b) : 0 < lg_cmp (jI a) (jI b) ↔ b < a := by rw [← jI_lt hb ha]; exact lg_cmp_gt _ _
theorem lc_lt {a b : Int} (ha : bnd a) (hb : bnd b) : lg_cmp (jI a) (jI b) < 0 ↔ a < b := by rw [← jI_lt ha hb]; exact lg_cmp_lt _ _
theorem lc_0 {a b : Int} (ha : bnd a) (hb : bnd b) : lg_cmp (jI a) (jI b) = 0 ↔ a = b := by rw [← jI_e ha hb]; exact lg_cmp_eq _ _
theorem jX_12 {a b : Int × Int} (ha : q9 a) (hb : q9 b) : jX 12 a b = (if a.2 < b.1 then 1 else 0, if a.1 < b.2 then 1 else 0) := by
  unfold q9 at ha hb
  show tp (spn 12 a b) = _
  unfold spn; rw [if_pos rfl]
  by_cases h1 : a.2 < b.1
  · rw [if_pos h1, if_pos h1, if_pos (show a.1 < b.2 by omega)]; rfl
  · rw [if_neg h1, if_neg h1]
    by_cases h2 : b.2 ≤ a.1
    · rw [if_pos h2, if_neg (show ¬ a.1 < b.2 by omega)]; rfl
    · rw [if_neg h2, if_pos (show a.1 < b.2 by omega)]; rfl
theorem jX_14 {a b : Int × Int} (ha : q9 a) (hb : q9 b) : jX 14 a b = (if b.2 < a.1 then 1 else 0, if b.1 < a.2 then 1 else 0) := by
  unfold q9 at ha hb
  show tp (spn 14 a b) = _
  unfold spn; rw [if_neg (by decide), if_pos rfl]
  by_cases h1 : b.2 < a.1
  · rw [if_pos h1, if_pos h1, if_pos (show b.1 < a.2 by omega)]; rfl
  · rw [if_neg h1, if_neg h1]
    by_cases h2 : a.2 ≤ b.1
    · rw [if_pos h2, if_neg (show ¬ b.1 < a.2 by omega)]; rfl
    · rw [if_neg h2, if_pos (show b.1 < a.2 by omega)]; rfl
theorem jX_13 {a b : Int × Int} (ha : q9 a) (hb : q9 b) : jX 13 a b = (if a.1 = a.2 ∧ b.1 = b.2 ∧ a.1 = b.1 then 1 else 0, if a.1 ≤ b.2 ∧ b.1 ≤ a.2 then 1 else 0) := by
  unfold q9 at ha hb
  show tp (spn 13 a b) = _
  unfold spn; rw [if_neg (by decide), if_neg (by decide)]
  by_cases h1 : a.2 < b.1 ∨ b.2 < a.1
  · rw [if_pos h1, if_neg (show ¬ (a.1 = a.2 ∧ b.1 = b.2 ∧ a.1 = b.1) by omega), if_neg (show ¬ (a.1 ≤ b.2 ∧ b.1 ≤ a.2) by omega)]; rfl
  · rw [if_neg h1, if_pos (show a.1 ≤ b.2 ∧ b.1 ≤ a.2 by omega)]
    by_cases h2 : a.1 = a.2 ∧ b.1 = b.2
    · rw [if_pos h2, if_pos (show a.1 = a.2 ∧ b.1 = b.2 ∧ a.1 = b.1 by omega)]; rfl
    · rw [if_neg h2, if_neg (show ¬ (a.1 = a.2 ∧ b.1 = b.2 ∧ a.1 = b.1) by omega)]; rfl
theorem m_joinX {A : FI} {B : FJ} {n : Nat} (hn : n + 2 ≤ 80) (w : Nat) (hw : 9 ≤ w ∧ w ≤ 17 ∧ w ≠ 15) (a b : Int × Int) (ha : q9 a) (hb : q9 b) (e : A 12 0 2 = nI (n + 2)) (ea : B 13 0 n = jI a.1) (ea2 : B 14 0 n = jI a.2) (eb : B 13 0 (n + 1) = jI b.1) (eb2 : B 14 0 (n + 1) = jI b.2) : MV 1 1 mtX9_join [.inr (.inr (some (12, 0))), .inl (nI (ltr w))] (hp A B) (Ret none (hp (up3 A 12 0 2 (nI (n + 1))) (up3 (up3 B 13 0 n (jI (jX w a b).1)) 14 0 n (jI (jX w a b).2)))) := by
  have tn := ti (n + 2) (by omega)
  have cl : (nI n).toNatClampNeg = n := nI_clamp (by omega)
  have cl1 : (nI (n + 1)).toNatClampNeg = n + 1 := nI_clamp (by omega)
  have e1 : A 12 0 2 - 2 = nI n := by
    rw [e]
    exact nI_sub (a := n + 2) (b := 2) (by omega)
  have hv : vp_in (nI n) 80 := vpN (n := 80) (by omega) rfl
  have hv1 : vp_in (nI (n + 1)) 80 := vpN (n := 80) (by omega) rfl
  have e3 : up3 A 12 0 2 (nI n) 12 0 2 = nI n := up3_self
  have en : nI n + 1 = nI (n + 1) := nI_1 n
  obtain ⟨ba1, ba2⟩ := q9_b ha
  obtain ⟨bb1, bb2⟩ := q9_b hb
  have hp1 := q9_p (a := a.1) (b := b.1) (by unfold q9 at *; omega) (by unfold q9 at *; omega)
  have hp2 := q9_p (a := a.1) (b := b.2) (by unfold q9 at *; omega) (by unfold q9 at *; omega)
  have hp3 := q9_p (a := a.2) (b := b.1) (by unfold q9 at *; omega) (by unfold q9 at *; omega)
  have hp4 := q9_p (a := a.2) (b := b.2) (by unfold q9 at *; omega) (by unfold q9 at *; omega)
  have pu := fun x y => m_pushX (A := up3 A 12 0 2 (nI n)) (B := B) (n := n) (by omega) x y e3
  simp only [up3_up] at pu
  refine MV_of caX9_join (L := [some (.inr (.inr (some (12, 0)))), some (.inl (nI (ltr w))), none, none, none, none, none, none, none, none]) rfl rfl ?_
  refine R_go 9999 rfl rfl trivial ?_
  refine R_br rfl rfl (fun h => absurd h (by rw [e]; (simp only [i_eq, i_lt, i_le, Int32.reduceToInt, true_and, and_true, false_and, and_false, or_false, false_or, or_true, true_or, ne_eq] at *; first | done | omega))) (fun _ => ?_)
  refine R_go 9999 rfl rfl trivial ?_
  refine R_br rfl rfl (fun _ => ?_) (fun h => absurd (by rw [e]; (simp only [i_eq, i_lt, i_le, Int32.reduceToInt, true_and, and_true, false_and, and_false, or_false, false_or, or_true, true_or, ne_eq] at *; first | done | omega)) h)
  refine R_go 9999 rfl rfl ?_ ?_
  · rw [e1, up3_self, en]; exact ⟨hv1, hv1, hv, hv⟩
  rw [e1, up3_self, en, cl, cl1, ea, eb, ea2, eb2]
  rcases (show w = 9 ∨ w = 10 ∨ w = 11 ∨ w = 12 ∨ w = 13 ∨ w = 14 ∨ w = 16 ∨ w = 17 by omega) with rfl | rfl | rfl | rfl | rfl | rfl | rfl | rfl
  all_goals refine R_sw _ rfl rfl rfl ?_
  ·
    refine R_go 9999 rfl rfl trivial ?_
    refine R_mminl rfl qm_X9_50 (Nat.le_of_ble_eq_true rfl) (Nat.le_refl _) (Nat.le_refl _) rfl ?_
    rw [jI_mul a.1 b.2, jI_mul a.1 b.1, jI_min hp1 hp2]
    refine R_go 9999 rfl rfl trivial ?_
    refine R_mminl rfl qm_X9_50 (Nat.le_of_ble_eq_true rfl) (Nat.le_refl _) (Nat.le_refl _) rfl ?_
    rw [jI_mul a.2 b.2, jI_mul a.2 b.1, jI_min hp3 hp4]
    refine R_mminl rfl qm_X9_50 (Nat.le_of_ble_eq_true rfl) (Nat.le_refl _) (Nat.le_refl _) rfl ?_
    rw [jI_min (bnd_mm hp1 hp2).1 (bnd_mm hp3 hp4).1]
    refine R_go 9999 rfl rfl trivial ?_
    refine R_mmaxl rfl qm_X9_56 (Nat.le_of_ble_eq_true rfl) (Nat.le_refl _) (Nat.le_refl _) rfl ?_
    rw [jI_mul a.1 b.2, jI_mul a.1 b.1, jI_max hp1 hp2]
    refine R_go 9999 rfl rfl trivial ?_
    refine R_mmaxl rfl qm_X9_56 (Nat.le_of_ble_eq_true rfl) (Nat.le_refl _) (Nat.le_refl _) rfl ?_
    rw [jI_mul a.2 b.2, jI_mul a.2 b.1, jI_max hp3 hp4]
    refine R_mmaxl rfl qm_X9_56 (Nat.le_of_ble_eq_true rfl) (Nat.le_refl _) (Nat.le_refl _) rfl ?_
    rw [jI_max (bnd_mm hp1 hp2).2 (bnd_mm hp3 hp4).2]
    refine R_cvv rfl (pu _ _) rfl rfl rfl rfl rfl (Nat.le_of_ble_eq_true rfl) rfl ?_
    repeat' (first
        | (refine R_br rfl rfl (fun hbr => absurd hbr (by first | decide | (with_reducible assumption))) (fun _ => ?_))
        | (refine R_br rfl rfl (fun _ => ?_) (fun hbr => absurd (by first | decide | (with_reducible assumption)) hbr))
        | (refine R_br rfl rfl (fun _ => ?_) (fun _ => ?_))
        | (refine R_ri rfl rfl ?_)
        | (refine R_rz rfl rfl (Or.inl rfl) ?_)
        | (refine R_rz rfl rfl (Or.inr rfl) ?_)
        | (refine R_rz rfl rfl (b2_01 _) ?_)
        | (refine R_rl rfl rfl ?_)
        | (refine R_rv rfl rfl ?_)
        | (refine R_sw _ rfl rfl rfl ?_)
        | (refine R_go 9999 rfl rfl trivial ?_)
        | (refine R_go 9999 rfl rfl (by first | (show _ ∨ _; decide) | (show (_ ∨ _) ∧ (_ ∨ _); decide) | (show (_ ∨ _) ∧ (_ ∨ _) ∧ (_ ∨ _); decide)) ?_)
        | (refine R_go 9999 rfl rfl ?_ ?_))
    exact ret_v rfl
  ·
    refine R_go 9999 rfl rfl trivial ?_
    rw [jI_add, jI_add]
    refine R_cvv rfl (pu _ _) rfl rfl rfl rfl rfl (Nat.le_of_ble_eq_true rfl) rfl ?_
    repeat' (first
        | (refine R_br rfl rfl (fun hbr => absurd hbr (by first | decide | (with_reducible assumption))) (fun _ => ?_))
        | (refine R_br rfl rfl (fun _ => ?_) (fun hbr => absurd (by first | decide | (with_reducible assumption)) hbr))
        | (refine R_br rfl rfl (fun _ => ?_) (fun _ => ?_))
        | (refine R_ri rfl rfl ?_)
        | (refine R_rz rfl rfl (Or.inl rfl) ?_)
        | (refine R_rz rfl rfl (Or.inr rfl) ?_)
        | (refine R_rz rfl rfl (b2_01 _) ?_)
        | (refine R_rl rfl rfl ?_)
        | (refine R_rv rfl rfl ?_)
        | (refine R_sw _ rfl rfl rfl ?_)
        | (refine R_go 9999 rfl rfl trivial ?_)
        | (refine R_go 9999 rfl rfl (by first | (show _ ∨ _; decide) | (show (_ ∨ _) ∧ (_ ∨ _); decide) | (show (_ ∨ _) ∧ (_ ∨ _) ∧ (_ ∨ _); decide)) ?_)
        | (refine R_go 9999 rfl rfl ?_ ?_))
    exact ret_v rfl
  ·
    refine R_go 9999 rfl rfl trivial ?_
    rw [jI_sub, jI_sub]
    refine R_cvv rfl (pu _ _) rfl rfl rfl rfl rfl (Nat.le_of_ble_eq_true rfl) rfl ?_
    repeat' (first
        | (refine R_br rfl rfl (fun hbr => absurd hbr (by first | decide | (with_reducible assumption))) (fun _ => ?_))
        | (refine R_br rfl rfl (fun _ => ?_) (fun hbr => absurd (by first | decide | (with_reducible assumption)) hbr))
        | (refine R_br rfl rfl (fun _ => ?_) (fun _ => ?_))
        | (refine R_ri rfl rfl ?_)
        | (refine R_rz rfl rfl (Or.inl rfl) ?_)
        | (refine R_rz rfl rfl (Or.inr rfl) ?_)
        | (refine R_rz rfl rfl (b2_01 _) ?_)
        | (refine R_rl rfl rfl ?_)
        | (refine R_rv rfl rfl ?_)
        | (refine R_sw _ rfl rfl rfl ?_)
        | (refine R_go 9999 rfl rfl trivial ?_)
        | (refine R_go 9999 rfl rfl (by first | (show _ ∨ _; decide) | (show (_ ∨ _) ∧ (_ ∨ _); decide) | (show (_ ∨ _) ∧ (_ ∨ _) ∧ (_ ∨ _); decide)) ?_)
        | (refine R_go 9999 rfl rfl ?_ ?_))
    exact ret_v rfl
  ·
    repeat' (first
        | (refine R_br rfl rfl (fun hbr => absurd hbr (by first | decide | (with_reducible assumption))) (fun _ => ?_))
        | (refine R_br rfl rfl (fun _ => ?_) (fun hbr => absurd (by first | decide | (with_reducible assumption)) hbr))
        | (refine R_br rfl rfl (fun _ => ?_) (fun _ => ?_))
        | (refine R_ri rfl rfl ?_)
        | (refine R_rz rfl rfl (Or.inl rfl) ?_)
        | (refine R_rz rfl rfl (Or.inr rfl) ?_)
        | (refine R_rz rfl rfl (b2_01 _) ?_)
        | (refine R_rl rfl rfl ?_)
        | (refine R_rv rfl rfl ?_)
        | (refine R_csr rfl (m_bit 1 (Or.inr rfl) _ _) rfl rfl rfl (Nat.le_of_ble_eq_true rfl) rfl ?_)
        | (refine R_csr rfl (m_bit 0 (Or.inl rfl) _ _) rfl rfl rfl (Nat.le_of_ble_eq_true rfl) rfl ?_)
        | (refine R_sw _ rfl rfl rfl ?_)
        | (refine R_go 9999 rfl rfl trivial ?_)
        | (refine R_go 9999 rfl rfl (by first | (show _ ∨ _; decide) | (show (_ ∨ _) ∧ (_ ∨ _); decide) | (show (_ ∨ _) ∧ (_ ∨ _) ∧ (_ ∨ _); decide)) ?_)
        | (refine R_go 9999 rfl rfl ?_ ?_))
    all_goals
      simp only [lc_ge ba2 bb1, lc_ge ba1 bb2, lc_le ba1 bb2, lc_le ba2 bb1, lc_le bb1 ba2, lc_gt ba1 bb2, lc_gt bb1 ba2, lc_0 ba1 ba2, lc_0 bb1 bb2, lc_0 ba1 bb1] at *
      refine R_cvv rfl (pu _ _) rfl rfl rfl rfl rfl (Nat.le_of_ble_eq_true rfl) rfl ?_
      repeat' (first
          | (refine R_br rfl rfl (fun hbr => absurd hbr (by first | decide | (with_reducible assumption))) (fun _ => ?_))
          | (refine R_br rfl rfl (fun _ => ?_) (fun hbr => absurd (by first | decide | (with_reducible assumption)) hbr))
          | (refine R_br rfl rfl (fun _ => ?_) (fun _ => ?_))
          | (refine R_ri rfl rfl ?_)
          | (refine R_rz rfl rfl (Or.inl rfl) ?_)
          | (refine R_rz rfl rfl (Or.inr rfl) ?_)
          | (refine R_rz rfl rfl (b2_01 _) ?_)
          | (refine R_rl rfl rfl ?_)
          | (refine R_rv rfl rfl ?_)
          | (refine R_sw _ rfl rfl rfl ?_)
          | (refine R_go 9999 rfl rfl trivial ?_)
          | (refine R_go 9999 rfl rfl (by first | (show _ ∨ _; decide) | (show (_ ∨ _) ∧ (_ ∨ _); decide) | (show (_ ∨ _) ∧ (_ ∨ _) ∧ (_ ∨ _); decide)) ?_)
          | (refine R_go 9999 rfl rfl ?_ ?_))
      rw [jX_12 ha hb]
      dsimp only
      first
        | (rw [if_pos (by omega), if_pos (by omega)]; exact ret_v rfl)
        | (rw [if_pos (by omega), if_neg (by omega)]; exact ret_v rfl)
        | (rw [if_neg (by omega), if_pos (by omega)]; exact ret_v rfl)
        | (rw [if_neg (by omega), if_neg (by omega)]; exact ret_v rfl)
        | (exfalso; unfold q9 at *; omega)
  ·
    repeat' (first
        | (refine R_br rfl rfl (fun hbr => absurd hbr (by first | decide | (with_reducible assumption))) (fun _ => ?_))
        | (refine R_br rfl rfl (fun _ => ?_) (fun hbr => absurd (by first | decide | (with_reducible assumption)) hbr))
        | (refine R_br rfl rfl (fun _ => ?_) (fun _ => ?_))
        | (refine R_ri rfl rfl ?_)
        | (refine R_rz rfl rfl (Or.inl rfl) ?_)
        | (refine R_rz rfl rfl (Or.inr rfl) ?_)
        | (refine R_rz rfl rfl (b2_01 _) ?_)
        | (refine R_rl rfl rfl ?_)
        | (refine R_rv rfl rfl ?_)
        | (refine R_csr rfl (m_bit 1 (Or.inr rfl) _ _) rfl rfl rfl (Nat.le_of_ble_eq_true rfl) rfl ?_)
        | (refine R_csr rfl (m_bit 0 (Or.inl rfl) _ _) rfl rfl rfl (Nat.le_of_ble_eq_true rfl) rfl ?_)
        | (refine R_sw _ rfl rfl rfl ?_)
        | (refine R_go 9999 rfl rfl trivial ?_)
        | (refine R_go 9999 rfl rfl (by first | (show _ ∨ _; decide) | (show (_ ∨ _) ∧ (_ ∨ _); decide) | (show (_ ∨ _) ∧ (_ ∨ _) ∧ (_ ∨ _); decide)) ?_)
        | (refine R_go 9999 rfl rfl ?_ ?_))
    all_goals
      simp only [lc_ge ba2 bb1, lc_ge ba1 bb2, lc_le ba1 bb2, lc_le ba2 bb1, lc_le bb1 ba2, lc_gt ba1 bb2, lc_gt bb1 ba2, lc_0 ba1 ba2, lc_0 bb1 bb2, lc_0 ba1 bb1] at *
      refine R_cvv rfl (pu _ _) rfl rfl rfl rfl rfl (Nat.le_of_ble_eq_true rfl) rfl ?_
      repeat' (first
          | (refine R_br rfl rfl (fun hbr => absurd hbr (by first | decide | (with_reducible assumption))) (fun _ => ?_))
          | (refine R_br rfl rfl (fun _ => ?_) (fun hbr => absurd (by first | decide | (with_reducible assumption)) hbr))
          | (refine R_br rfl rfl (fun _ => ?_) (fun _ => ?_))
          | (refine R_ri rfl rfl ?_)
          | (refine R_rz rfl rfl (Or.inl rfl) ?_)
          | (refine R_rz rfl rfl (Or.inr rfl) ?_)
          | (refine R_rz rfl rfl (b2_01 _) ?_)
          | (refine R_rl rfl rfl ?_)
          | (refine R_rv rfl rfl ?_)
          | (refine R_sw _ rfl rfl rfl ?_)
          | (refine R_go 9999 rfl rfl trivial ?_)
          | (refine R_go 9999 rfl rfl (by first | (show _ ∨ _; decide) | (show (_ ∨ _) ∧ (_ ∨ _); decide) | (show (_ ∨ _) ∧ (_ ∨ _) ∧ (_ ∨ _); decide)) ?_)
          | (refine R_go 9999 rfl rfl ?_ ?_))
      rw [jX_13 ha hb]
      dsimp only
      first
        | (rw [if_pos (by omega), if_pos (by omega)]; exact ret_v rfl)
        | (rw [if_pos (by omega), if_neg (by omega)]; exact ret_v rfl)
        | (rw [if_neg (by omega), if_pos (by omega)]; exact ret_v rfl)
        | (rw [if_neg (by omega), if_neg (by omega)]; exact ret_v rfl)
        | (exfalso; unfold q9 at *; omega)
  ·
    repeat' (first
        | (refine R_br rfl rfl (fun hbr => absurd hbr (by first | decide | (with_reducible assumption))) (fun _ => ?_))
        | (refine R_br rfl rfl (fun _ => ?_) (fun hbr => absurd (by first | decide | (with_reducible assumption)) hbr))
        | (refine R_br rfl rfl (fun _ => ?_) (fun _ => ?_))
        | (refine R_ri rfl rfl ?_)
        | (refine R_rz rfl rfl (Or.inl rfl) ?_)
        | (refine R_rz rfl rfl (Or.inr rfl) ?_)
        | (refine R_rz rfl rfl (b2_01 _) ?_)
        | (refine R_rl rfl rfl ?_)
        | (refine R_rv rfl rfl ?_)
        | (refine R_csr rfl (m_bit 1 (Or.inr rfl) _ _) rfl rfl rfl (Nat.le_of_ble_eq_true rfl) rfl ?_)
        | (refine R_csr rfl (m_bit 0 (Or.inl rfl) _ _) rfl rfl rfl (Nat.le_of_ble_eq_true rfl) rfl ?_)
        | (refine R_sw _ rfl rfl rfl ?_)
        | (refine R_go 9999 rfl rfl trivial ?_)
        | (refine R_go 9999 rfl rfl (by first | (show _ ∨ _; decide) | (show (_ ∨ _) ∧ (_ ∨ _); decide) | (show (_ ∨ _) ∧ (_ ∨ _) ∧ (_ ∨ _); decide)) ?_)
        | (refine R_go 9999 rfl rfl ?_ ?_))
    all_goals
      simp only [lc_ge ba2 bb1, lc_ge ba1 bb2, lc_le ba1 bb2, lc_le ba2 bb1, lc_le bb1 ba2, lc_gt ba1 bb2, lc_gt bb1 ba2, lc_0 ba1 ba2, lc_0 bb1 bb2, lc_0 ba1 bb1] at *
      refine R_cvv rfl (pu _ _) rfl rfl rfl rfl rfl (Nat.le_of_ble_eq_true rfl) rfl ?_
      repeat' (first
          | (refine R_br rfl rfl (fun hbr => absurd hbr (by first | decide | (with_reducible assumption))) (fun _ => ?_))
          | (refine R_br rfl rfl (fun _ => ?_) (fun hbr => absurd (by first | decide | (with_reducible assumption)) hbr))
          | (refine R_br rfl rfl (fun _ => ?_) (fun _ => ?_))
          | (refine R_ri rfl rfl ?_)
          | (refine R_rz rfl rfl (Or.inl rfl) ?_)
          | (refine R_rz rfl rfl (Or.inr rfl) ?_)
          | (refine R_rz rfl rfl (b2_01 _) ?_)
          | (refine R_rl rfl rfl ?_)
          | (refine R_rv rfl rfl ?_)
          | (refine R_sw _ rfl rfl rfl ?_)
          | (refine R_go 9999 rfl rfl trivial ?_)
          | (refine R_go 9999 rfl rfl (by first | (show _ ∨ _; decide) | (show (_ ∨ _) ∧ (_ ∨ _); decide) | (show (_ ∨ _) ∧ (_ ∨ _) ∧ (_ ∨ _); decide)) ?_)
          | (refine R_go 9999 rfl rfl ?_ ?_))
      rw [jX_14 ha hb]
      dsimp only
      first
        | (rw [if_pos (by omega), if_pos (by omega)]; exact ret_v rfl)
        | (rw [if_pos (by omega), if_neg (by omega)]; exact ret_v rfl)
        | (rw [if_neg (by omega), if_pos (by omega)]; exact ret_v rfl)
        | (rw [if_neg (by omega), if_neg (by omega)]; exact ret_v rfl)
        | (exfalso; unfold q9 at *; omega)
  ·
    refine R_go 9999 rfl rfl trivial ?_
    refine R_mminl rfl qm_X9_50 (Nat.le_of_ble_eq_true rfl) (Nat.le_refl _) (Nat.le_refl _) rfl ?_
    rw [jI_min ba1 bb1]
    refine R_go 9999 rfl rfl trivial ?_
    refine R_mminl rfl qm_X9_50 (Nat.le_of_ble_eq_true rfl) (Nat.le_refl _) (Nat.le_refl _) rfl ?_
    rw [jI_min ba2 bb2]
    refine R_cvv rfl (pu _ _) rfl rfl rfl rfl rfl (Nat.le_of_ble_eq_true rfl) rfl ?_
    repeat' (first
        | (refine R_br rfl rfl (fun hbr => absurd hbr (by first | decide | (with_reducible assumption))) (fun _ => ?_))
        | (refine R_br rfl rfl (fun _ => ?_) (fun hbr => absurd (by first | decide | (with_reducible assumption)) hbr))
        | (refine R_br rfl rfl (fun _ => ?_) (fun _ => ?_))
        | (refine R_ri rfl rfl ?_)
        | (refine R_rz rfl rfl (Or.inl rfl) ?_)
        | (refine R_rz rfl rfl (Or.inr rfl) ?_)
        | (refine R_rz rfl rfl (b2_01 _) ?_)
        | (refine R_rl rfl rfl ?_)
        | (refine R_rv rfl rfl ?_)
        | (refine R_sw _ rfl rfl rfl ?_)
        | (refine R_go 9999 rfl rfl trivial ?_)
        | (refine R_go 9999 rfl rfl (by first | (show _ ∨ _; decide) | (show (_ ∨ _) ∧ (_ ∨ _); decide) | (show (_ ∨ _) ∧ (_ ∨ _) ∧ (_ ∨ _); decide)) ?_)
        | (refine R_go 9999 rfl rfl ?_ ?_))
    exact ret_v rfl
  ·
    refine R_go 9999 rfl rfl trivial ?_
    refine R_mmaxl rfl qm_X9_56 (Nat.le_of_ble_eq_true rfl) (Nat.le_refl _) (Nat.le_refl _) rfl ?_
    rw [jI_max ba1 bb1]
    refine R_go 9999 rfl rfl trivial ?_
    refine R_mmaxl rfl qm_X9_56 (Nat.le_of_ble_eq_true rfl) (Nat.le_refl _) (Nat.le_refl _) rfl ?_
    rw [jI_max ba2 bb2]
    refine R_cvv rfl (pu _ _) rfl rfl rfl rfl rfl (Nat.le_of_ble_eq_true rfl) rfl ?_
    repeat' (first
        | (refine R_br rfl rfl (fun hbr => absurd hbr (by first | decide | (with_reducible assumption))) (fun _ => ?_))
        | (refine R_br rfl rfl (fun _ => ?_) (fun hbr => absurd (by first | decide | (with_reducible assumption)) hbr))
        | (refine R_br rfl rfl (fun _ => ?_) (fun _ => ?_))
        | (refine R_ri rfl rfl ?_)
        | (refine R_rz rfl rfl (Or.inl rfl) ?_)
        | (refine R_rz rfl rfl (Or.inr rfl) ?_)
        | (refine R_rz rfl rfl (b2_01 _) ?_)
        | (refine R_rl rfl rfl ?_)
        | (refine R_rv rfl rfl ?_)
        | (refine R_sw _ rfl rfl rfl ?_)
        | (refine R_go 9999 rfl rfl trivial ?_)
        | (refine R_go 9999 rfl rfl (by first | (show _ ∨ _; decide) | (show (_ ∨ _) ∧ (_ ∨ _); decide) | (show (_ ∨ _) ∧ (_ ∨ _) ∧ (_ ∨ _); decide)) ?_)
        | (refine R_go 9999 rfl rfl ?_ ?_))
    exact ret_v rfl
