theorem nI_cl (x : Int32) (h : 0 ≤ x.toInt) : x = nI x.toNatClampNeg := by
  obtain ⟨j, hj, e⟩ := nI_of (x := x) (by rw [i_lt]; simp only [Int32.reduceToInt]; omega)
  rw [e, nI_clamp hj]
theorem m_isFieldN (f : Int32) (hv : ¬ (0 ≤ f.toInt ∧ f.toInt < 8)) (A : FI) (B : FJ) : MS 0 1 mtX11_isField [.inl f] (hp A B) (Ret (some (.inl 0)) (hp A B)) := by
  have h := m_isField f A B
  have h1 : b2 (0 ≤ f ∧ f < 8) = 0 := b2_0 (by (simp only [i_eq, i_lt, i_le, Int32.reduceToInt, true_and, and_true, false_and, and_false, or_false, false_or, or_true, true_or, ne_eq] at * <;> omega))
  rwa [h1] at h
theorem fieldS_no {F : FS} {f w v : Int32} (h : ¬ (0 ≤ f.toInt ∧ f.toInt < 8 ∧ 0 ≤ w.toInt ∧ w.toInt ≤ 3)) : fieldS F f w v = (-101, F) := if_neg h
theorem fieldS_out {F : FS} {f w v : Int32} (h : 0 ≤ f.toInt ∧ f.toInt < 8 ∧ 0 ≤ w.toInt ∧ w.toInt ≤ 3) (h2 : ¬ fitS F f.toNatClampNeg w.toNatClampNeg v) : fieldS F f w v = (-102, F) := by
  unfold fieldS
  rw [if_pos h]
  exact @if_neg _ (Classical.propDecidable _) h2 _ _ _
theorem fieldS_in {F : FS} {f w v : Int32} (h : 0 ≤ f.toInt ∧ f.toInt < 8 ∧ 0 ≤ w.toInt ∧ w.toInt ≤ 3) (h2 : fitS F f.toNatClampNeg w.toNatClampNeg v) : fieldS F f w v = (if (w.toInt = 3 ∧ F.1 f.toNatClampNeg ≠ 3) ∨ (w.toInt = 0 ∧ v.toInt = 3 ∧ F.1 f.toNatClampNeg ≠ 3 ∧ mayN F 8 = 3) then (-103, F)
       else (nI ((if w.toInt = 0 then F.1 else if w.toInt = 1 then F.2.1 else if w.toInt = 2 then F.2.2.1 else F.2.2.2) f.toNatClampNeg),
         ((if w.toInt = 0 then va_up F.1 f.toNatClampNeg v.toNatClampNeg else F.1), (if w.toInt = 1 then va_up F.2.1 f.toNatClampNeg v.toNatClampNeg else F.2.1), (if w.toInt = 2 then va_up F.2.2.1 f.toNatClampNeg v.toNatClampNeg else F.2.2.1), (if w.toInt = 3 then va_up F.2.2.2 f.toNatClampNeg v.toNatClampNeg else F.2.2.2)))) := by
  unfold fieldS
  rw [if_pos h]
  exact @if_pos _ (Classical.propDecidable _) h2 _ _ _
theorem m_fieldC {A : FI} {B : FJ} {F : FS} (hR : RCF A F) (hW : WFF F) (f w v : Int32) : MV 5 3 mtX11_field [.inr (.inr (some (0, 0))), .inl f, .inl w, .inl v] (hp A B) (fun r h' => ∃ A', h' = hp A' B ∧ r = some (.inl (fieldS F f w v).1) ∧ RCF A' (fieldS F f w v).2 ∧ Fm [2] A A') := by
  refine MV_of caX11_field (L := [some (.inr (.inr (some (0, 0)))), some (.inl f), some (.inl w), some (.inl v), none]) rfl rfl ?_
  by_cases hv : 0 ≤ f.toInt ∧ f.toInt < 8 ∧ 0 ≤ w.toInt ∧ w.toInt ≤ 3
  · obtain ⟨a, ha, rfl⟩ := vp_in_of (x := f) (n := 8) (vp_of hv.1 (by omega)) (by decide)
    obtain ⟨b, hb, rfl⟩ := vp_in_of (x := w) (n := 4) (vp_of hv.2.2.1 (by omega)) (by decide)
    have ca : (nI a).toNatClampNeg = a := nI_clamp (by omega)
    have cb : (nI b).toNatClampNeg = b := nI_clamp (by omega)
    have tb := ti b (by omega)
    have h0 := hW.1 a ha
    repeat' (first
        | (refine R_br rfl rfl (fun h => absurd h (by first | decide | (with_reducible assumption))) (fun _ => ?_))
        | (refine R_br rfl rfl (fun _ => ?_) (fun h => absurd (by first | decide | (with_reducible assumption)) h))
        | (refine R_br rfl rfl (fun _ => ?_) (fun _ => ?_))
        | (refine R_ri rfl rfl ?_)
        | (refine R_rz rfl rfl (Or.inl rfl) ?_)
        | (refine R_rz rfl rfl (Or.inr rfl) ?_)
        | (refine R_rz rfl rfl (b2_01 _) ?_)
        | (refine R_rl rfl rfl ?_)
        | (refine R_rv rfl rfl ?_)
        | (refine R_csr rfl (m_isFieldT a ha _ _) rfl rfl rfl (Nat.le_of_ble_eq_true rfl) rfl ?_)
        | (refine R_cvr rfl (m_fits hR hW a b ha hb v) rfl rfl rfl rfl rfl (Nat.le_of_ble_eq_true rfl) rfl ?_)
        | (refine R_cvr rfl (m_allows hR hW a b ha hb v) rfl rfl rfl rfl rfl (Nat.le_of_ble_eq_true rfl) rfl ?_)
        | (refine R_cvr rfl (m_told a b ha hb _ _) rfl rfl rfl rfl rfl (Nat.le_of_ble_eq_true rfl) rfl ?_)
        | (refine R_cvv rfl (m_tell a b ha hb v _ _) rfl rfl rfl rfl rfl (Nat.le_of_ble_eq_true rfl) rfl ?_)
        | (refine R_sw _ rfl rfl rfl ?_)
        | (refine R_go 9999 rfl rfl trivial ?_)
        | (refine R_go 9999 rfl rfl ?_ ?_))
    · exfalso; (simp only [i_eq, i_lt, i_le, Int32.reduceToInt, true_and, and_true, false_and, and_false, or_false, false_or, or_true, true_or, ne_eq] at * <;> omega)
    · rename_i h
      have h := b2_n h
      rw [fieldS_out hv (by rw [ca, cb]; exact h)]
      exact ⟨A, rfl, rfl, hR, Fm_rf⟩
    · rename_i h2 h1
      have h2 := b2_y h2
      have h1 := b2_n h1
      rw [fieldS_in hv (by rw [ca, cb]; exact h2), ca, if_pos]
      · exact ⟨A, rfl, rfl, hR, Fm_rf⟩
      · rw [tb]
        have := othN_may F a 8
        by_cases h3 : F.1 a = 3
        · simp only [h3, ha, and_self, if_true, true_and] at this
          have h5 := hW.2
          exfalso; apply h1
          exact ⟨fun _ => h3, fun _ _ => by omega⟩
        · simp only [h3, and_false, if_false, Nat.add_zero] at this
          have h5 := hW.2
          by_cases hb3 : b = 3
          · exact Or.inl ⟨by omega, h3⟩
          · right
            by_cases hb0 : b = 0 ∧ v.toInt = 3
            · refine ⟨by omega, hb0.2, h3, ?_⟩
              rw [this]
              by_cases hlt : othN F a 8 < 3
              · exfalso; exact h1 ⟨fun z => absurd z hb3, fun _ _ => hlt⟩
              · omega
            · exfalso; exact h1 ⟨fun z => absurd z hb3, fun z1 z2 => absurd ⟨z1, z2⟩ hb0⟩
    · rename_i h2 h1
      have h2 := b2_y h2
      have h1 := b2_y h1
      have hvn : v = nI v.toNatClampNeg := nI_cl v (by unfold fitS at h2; omega)
      rw [fieldS_in hv (by rw [ca, cb]; exact h2), ca, if_neg, tb]
      · refine ⟨up3 A 2 0 (a * 4 + b) v, rfl, ?_, ?_, Fm_up (by simp)⟩
        · have hr := hR a ha
          rcases (show b = 0 ∨ b = 1 ∨ b = 2 ∨ b = 3 by omega) with rfl | rfl | rfl | rfl
          · simp [hr.1]
          · simp [hr.2.1]
          · simp [hr.2.2.1]
          · simp [hr.2.2.2]
        · have := RCF_put hR a b ha hb v hvn
          have e0 : ∀ n : Nat, ((b : Int) = (n : Int)) ↔ b = n := fun n => by omega
          have e00 : ((b : Int) = 0) ↔ b = 0 := by omega
          have e01 : ((b : Int) = 1) ↔ b = 1 := by omega
          have e02 : ((b : Int) = 2) ↔ b = 2 := by omega
          have e03 : ((b : Int) = 3) ↔ b = 3 := by omega
          simp only [e00, e01, e02, e03]
          exact this
      · rw [tb]
        have := othN_may F a 8
        rintro (⟨z1, z2⟩ | ⟨z1, z2, z3, z4⟩)
        · exact z2 (h1.1 (by omega))
        · have h7 := h1.2 (by omega) z2
          simp only [z3, and_false, if_false, Nat.add_zero] at this
          omega
    · exfalso; (simp only [i_eq, i_lt, i_le, Int32.reduceToInt, true_and, and_true, false_and, and_false, or_false, false_or, or_true, true_or, ne_eq] at * <;> omega)
  · rw [fieldS_no hv]
    repeat' (first
        | (refine R_br rfl rfl (fun h => absurd h (by first | decide | (with_reducible assumption))) (fun _ => ?_))
        | (refine R_br rfl rfl (fun _ => ?_) (fun h => absurd (by first | decide | (with_reducible assumption)) h))
        | (refine R_br rfl rfl (fun _ => ?_) (fun _ => ?_))
        | (refine R_ri rfl rfl ?_)
        | (refine R_rz rfl rfl (Or.inl rfl) ?_)
        | (refine R_rz rfl rfl (Or.inr rfl) ?_)
        | (refine R_rz rfl rfl (b2_01 _) ?_)
        | (refine R_rl rfl rfl ?_)
        | (refine R_rv rfl rfl ?_)
        | (refine R_csr rfl (m_isField f _ _) rfl rfl rfl (Nat.le_of_ble_eq_true rfl) rfl ?_)
        | (refine R_sw _ rfl rfl rfl ?_)
        | (refine R_go 9999 rfl rfl trivial ?_)
        | (refine R_go 9999 rfl rfl ?_ ?_))
    all_goals first | exact ⟨A, rfl, rfl, hR, Fm_rf⟩ | skip
    all_goals (exfalso; rename_i h1 h2 h3; have h1 := b2_y h1; (simp only [i_eq, i_lt, i_le, Int32.reduceToInt, true_and, and_true, false_and, and_false, or_false, false_or, or_true, true_or, ne_eq] at * <;> omega))
def asS (F : FS) (f k : Int32) : Int32 := if 0 ≤ f.toInt ∧ f.toInt < 8 then (if 0 ≤ k.toInt ∧ k.toInt ≤ 4 then (if k.toInt = 0 ∨ k.toInt = F.1 f.toNatClampNeg ∨ (k.toInt = 1 ∧ F.1 f.toNatClampNeg = 2) then f else -1) else -102) else -101
def asksS (F : FS) (f w : Int32) : Int32 := if 0 ≤ f.toInt ∧ f.toInt < 8 then (if 0 ≤ w.toInt ∧ w.toInt ≤ 1 then (if w.toInt = 0 then (if F.1 f.toNatClampNeg ≠ 1 ∧ F.1 f.toNatClampNeg ≠ 2 then 1 else 0) else (if F.1 f.toNatClampNeg = 3 then 1 else 0)) else -102) else -101
theorem m_asC {A : FI} {B : FJ} {F : FS} (hR : RCF A F) (hW : WFF F) (f k : Int32) : MV 3 2 mtX11_as [.inr (.inr (some (0, 0))), .inl f, .inl k] (hp A B) (Ret (some (.inl (asS F f k))) (hp A B)) := by
  refine MV_of caX11_as (L := [some (.inr (.inr (some (0, 0)))), some (.inl f), some (.inl k)]) rfl rfl ?_
  unfold asS
  by_cases hv : 0 ≤ f.toInt ∧ f.toInt < 8
  · obtain ⟨a, ha, rfl⟩ := vp_in_of (x := f) (n := 8) (vp_of hv.1 (by omega)) (by decide)
    have ca : (nI a).toNatClampNeg = a := nI_clamp (by omega)
    rw [if_pos hv, ca]
    by_cases hk : 0 ≤ k.toInt ∧ k.toInt ≤ 4
    · obtain ⟨b, hb, rfl⟩ := vp_in_of (x := k) (n := 5) (vp_of hk.1 (by omega)) (by decide)
      have tb := ti b (by omega)
      have h0 := hW.1 a ha
      rw [if_pos hk]
      repeat' (first
          | (refine R_br rfl rfl (fun h => absurd h (by first | decide | (with_reducible assumption))) (fun _ => ?_))
          | (refine R_br rfl rfl (fun _ => ?_) (fun h => absurd (by first | decide | (with_reducible assumption)) h))
          | (refine R_br rfl rfl (fun _ => ?_) (fun _ => ?_))
          | (refine R_ri rfl rfl ?_)
          | (refine R_rz rfl rfl (Or.inl rfl) ?_)
          | (refine R_rz rfl rfl (Or.inr rfl) ?_)
          | (refine R_rz rfl rfl (b2_01 _) ?_)
          | (refine R_rl rfl rfl ?_)
          | (refine R_rv rfl rfl ?_)
          | (refine R_csr rfl (m_isFieldT a ha _ _) rfl rfl rfl (Nat.le_of_ble_eq_true rfl) rfl ?_)
          | (refine R_cvr rfl (m_isOfKind hR hW a b ha (by omega)) rfl rfl rfl rfl rfl (Nat.le_of_ble_eq_true rfl) rfl ?_)
          | (refine R_sw _ rfl rfl rfl ?_)
          | (refine R_go 9999 rfl rfl trivial ?_)
          | (refine R_go 9999 rfl rfl ?_ ?_))
      · exfalso; (simp only [i_eq, i_lt, i_le, Int32.reduceToInt, true_and, and_true, false_and, and_false, or_false, false_or, or_true, true_or, ne_eq] at * <;> omega)
      · rename_i h; have h := b2_n h; exact ret_i (if_neg (by rw [tb]; omega)).symm rfl
      · rename_i h; have h := b2_y h; exact ret_i (if_pos (by rw [tb]; omega)).symm rfl
      · exfalso; (simp only [i_eq, i_lt, i_le, Int32.reduceToInt, true_and, and_true, false_and, and_false, or_false, false_or, or_true, true_or, ne_eq] at * <;> omega)
    · rw [if_neg hk]
      repeat' (first
          | (refine R_br rfl rfl (fun h => absurd h (by first | decide | (with_reducible assumption))) (fun _ => ?_))
          | (refine R_br rfl rfl (fun _ => ?_) (fun h => absurd (by first | decide | (with_reducible assumption)) h))
          | (refine R_br rfl rfl (fun _ => ?_) (fun _ => ?_))
          | (refine R_ri rfl rfl ?_)
          | (refine R_rz rfl rfl (Or.inl rfl) ?_)
          | (refine R_rz rfl rfl (Or.inr rfl) ?_)
          | (refine R_rz rfl rfl (b2_01 _) ?_)
          | (refine R_rl rfl rfl ?_)
          | (refine R_rv rfl rfl ?_)
          | (refine R_csr rfl (m_isFieldT a ha _ _) rfl rfl rfl (Nat.le_of_ble_eq_true rfl) rfl ?_)
          | (refine R_sw _ rfl rfl rfl ?_)
          | (refine R_go 9999 rfl rfl trivial ?_)
          | (refine R_go 9999 rfl rfl ?_ ?_))
      all_goals first | exact ret_i rfl rfl | (exfalso; (simp only [i_eq, i_lt, i_le, Int32.reduceToInt, true_and, and_true, false_and, and_false, or_false, false_or, or_true, true_or, ne_eq] at * <;> omega))
  · rw [if_neg hv]
    repeat' (first
        | (refine R_br rfl rfl (fun h => absurd h (by first | decide | (with_reducible assumption))) (fun _ => ?_))
        | (refine R_br rfl rfl (fun _ => ?_) (fun h => absurd (by first | decide | (with_reducible assumption)) h))
        | (refine R_br rfl rfl (fun _ => ?_) (fun _ => ?_))
        | (refine R_ri rfl rfl ?_)
        | (refine R_rz rfl rfl (Or.inl rfl) ?_)
        | (refine R_rz rfl rfl (Or.inr rfl) ?_)
        | (refine R_rz rfl rfl (b2_01 _) ?_)
        | (refine R_rl rfl rfl ?_)
        | (refine R_rv rfl rfl ?_)
        | (refine R_csr rfl (m_isFieldN f hv _ _) rfl rfl rfl (Nat.le_of_ble_eq_true rfl) rfl ?_)
        | (refine R_sw _ rfl rfl rfl ?_)
        | (refine R_go 9999 rfl rfl trivial ?_)
        | (refine R_go 9999 rfl rfl ?_ ?_))
    exact ret_i rfl rfl
theorem m_asksC {A : FI} {B : FJ} {F : FS} (hR : RCF A F) (hW : WFF F) (f w : Int32) : MV 4 2 mtX11_asks [.inr (.inr (some (0, 0))), .inl f, .inl w] (hp A B) (Ret (some (.inl (asksS F f w))) (hp A B)) := by
  refine MV_of caX11_asks (L := [some (.inr (.inr (some (0, 0)))), some (.inl f), some (.inl w)]) rfl rfl ?_
  unfold asksS
  by_cases hv : 0 ≤ f.toInt ∧ f.toInt < 8
  · obtain ⟨a, ha, rfl⟩ := vp_in_of (x := f) (n := 8) (vp_of hv.1 (by omega)) (by decide)
    have ca : (nI a).toNatClampNeg = a := nI_clamp (by omega)
    rw [if_pos hv, ca]
    by_cases hk : 0 ≤ w.toInt ∧ w.toInt ≤ 1
    · rw [if_pos hk]
      repeat' (first
          | (refine R_br rfl rfl (fun h => absurd h (by first | decide | (with_reducible assumption))) (fun _ => ?_))
          | (refine R_br rfl rfl (fun _ => ?_) (fun h => absurd (by first | decide | (with_reducible assumption)) h))
          | (refine R_br rfl rfl (fun _ => ?_) (fun _ => ?_))
          | (refine R_ri rfl rfl ?_)
          | (refine R_rz rfl rfl (Or.inl rfl) ?_)
          | (refine R_rz rfl rfl (Or.inr rfl) ?_)
          | (refine R_rz rfl rfl (b2_01 _) ?_)
          | (refine R_rl rfl rfl ?_)
          | (refine R_rv rfl rfl ?_)
          | (refine R_csr rfl (m_isFieldT a ha _ _) rfl rfl rfl (Nat.le_of_ble_eq_true rfl) rfl ?_)
          | (refine R_cvr rfl (m_counts hR hW a ha) rfl rfl rfl rfl rfl (Nat.le_of_ble_eq_true rfl) rfl ?_)
          | (refine R_cvr rfl (m_changes hR hW a ha) rfl rfl rfl rfl rfl (Nat.le_of_ble_eq_true rfl) rfl ?_)
          | (refine R_csr rfl (m_bit _ (b2_01 _) _ _) rfl rfl rfl (Nat.le_of_ble_eq_true rfl) rfl ?_)
          | (refine R_sw _ rfl rfl rfl ?_)
          | (refine R_go 9999 rfl rfl trivial ?_)
          | (refine R_go 9999 rfl rfl ?_ ?_))
      · exfalso; (simp only [i_eq, i_lt, i_le, Int32.reduceToInt, true_and, and_true, false_and, and_false, or_false, false_or, or_true, true_or, ne_eq] at * <;> omega)
      · rename_i h
        rw [if_pos (by (simp only [i_eq, i_lt, i_le, Int32.reduceToInt, true_and, and_true, false_and, and_false, or_false, false_or, or_true, true_or, ne_eq] at * <;> omega))]
        refine ret_i ?_ rfl
        by_cases z : F.1 a ≠ 1 ∧ F.1 a ≠ 2
        · rw [if_pos z, b2_1 z]
        · rw [if_neg z, b2_0 z]
      · rename_i h
        rw [if_neg (by (simp only [i_eq, i_lt, i_le, Int32.reduceToInt, true_and, and_true, false_and, and_false, or_false, false_or, or_true, true_or, ne_eq] at * <;> omega))]
        refine ret_i ?_ rfl
        by_cases z : F.1 a = 3
        · rw [if_pos z, b2_1 z]
        · rw [if_neg z, b2_0 z]
      · exfalso; (simp only [i_eq, i_lt, i_le, Int32.reduceToInt, true_and, and_true, false_and, and_false, or_false, false_or, or_true, true_or, ne_eq] at * <;> omega)
    · rw [if_neg hk]
      repeat' (first
          | (refine R_br rfl rfl (fun h => absurd h (by first | decide | (with_reducible assumption))) (fun _ => ?_))
          | (refine R_br rfl rfl (fun _ => ?_) (fun h => absurd (by first | decide | (with_reducible assumption)) h))
          | (refine R_br rfl rfl (fun _ => ?_) (fun _ => ?_))
          | (refine R_ri rfl rfl ?_)
          | (refine R_rz rfl rfl (Or.inl rfl) ?_)
          | (refine R_rz rfl rfl (Or.inr rfl) ?_)
          | (refine R_rz rfl rfl (b2_01 _) ?_)
          | (refine R_rl rfl rfl ?_)
          | (refine R_rv rfl rfl ?_)
          | (refine R_csr rfl (m_isFieldT a ha _ _) rfl rfl rfl (Nat.le_of_ble_eq_true rfl) rfl ?_)
          | (refine R_sw _ rfl rfl rfl ?_)
          | (refine R_go 9999 rfl rfl trivial ?_)
          | (refine R_go 9999 rfl rfl ?_ ?_))
      all_goals first | exact ret_i rfl rfl | (exfalso; (simp only [i_eq, i_lt, i_le, Int32.reduceToInt, true_and, and_true, false_and, and_false, or_false, false_or, or_true, true_or, ne_eq] at * <;> omega))
  · rw [if_neg hv]
    repeat' (first
        | (refine R_br rfl rfl (fun h => absurd h (by first | decide | (with_reducible assumption))) (fun _ => ?_))
        | (refine R_br rfl rfl (fun _ => ?_) (fun h => absurd (by first | decide | (with_reducible assumption)) h))
        | (refine R_br rfl rfl (fun _ => ?_) (fun _ => ?_))
        | (refine R_ri rfl rfl ?_)
        | (refine R_rz rfl rfl (Or.inl rfl) ?_)
        | (refine R_rz rfl rfl (Or.inr rfl) ?_)
        | (refine R_rz rfl rfl (b2_01 _) ?_)
        | (refine R_rl rfl rfl ?_)
        | (refine R_rv rfl rfl ?_)
        | (refine R_csr rfl (m_isFieldN f hv _ _) rfl rfl rfl (Nat.le_of_ble_eq_true rfl) rfl ?_)
        | (refine R_sw _ rfl rfl rfl ?_)
        | (refine R_go 9999 rfl rfl trivial ?_)
        | (refine R_go 9999 rfl rfl ?_ ?_))
    exact ret_i rfl rfl
