theorem m_asM {A : FI} {B : FJ} {F : FS} (hR : RMF A F) (hW : WFF F) (f k : Int32) : MV 2 2 mtX12_as [.inr (.inr (some (31, 0))), .inl f, .inl k] (hp A B) (Ret (some (.inl (asS F f k))) (hp A B)) := by
  refine MV_of caX12_as (L := [some (.inr (.inr (some (31, 0)))), some (.inl f), some (.inl k), none]) rfl rfl ?_
  unfold asS
  by_cases hv : 0 ≤ f.toInt ∧ f.toInt < 8
  · obtain ⟨a, ha, rfl⟩ := vp_in_of (x := f) (n := 8) (vp_of hv.1 (by omega)) (by decide)
    have ca : (nI a).toNatClampNeg = a := nI_clamp (by omega)
    have h0 := hW.1 a ha
    have e1 : A 32 0 (nI a).toNatClampNeg = nI (F.1 a) := by rw [ca]; exact (hR a ha).1
    have t0 := ti (F.1 a) (by omega)
    rw [if_pos hv, ca]
    by_cases hk : 0 ≤ k.toInt ∧ k.toInt ≤ 4
    · have hin : ∀ (A : FI) (B : FJ), MS 0 3 mtX12_in [.inr (.inl k.toInt64), .inr (.inl 0), .inr (.inl 4)] (hp A B) (Ret (some (.inl 1)) (hp A B)) := fun A B => by
        have h := m_inI k 0 4 A B
        rwa [b2_1 (by simp only [Int64.reduceToInt]; exact hk)] at h
      rw [if_pos hk]
      repeat' (first
          | (refine R_br rfl rfl (fun h => absurd h (by first | decide | (with_reducible assumption))) (fun _ => ?_))
          | (refine R_br rfl rfl (fun _ => ?_) (fun h => absurd (by first | decide | (with_reducible assumption)) h))
          | (refine R_br rfl rfl (fun _ => ?_) (fun _ => ?_))
          | (refine R_ri rfl rfl ?_)
          | (refine R_rz rfl rfl (Or.inl rfl) ?_)
          | (refine R_rz rfl rfl (Or.inr rfl) ?_)
          | (refine R_rz rfl rfl (b2_01 _) ?_)
          | (refine R_rl rfl rfl ?_)
          | (refine R_rv rfl rfl ?_)
          | (refine R_csr rfl (m_isFieldMT a ha _ _) rfl rfl rfl (Nat.le_of_ble_eq_true rfl) rfl ?_)
          | (refine R_csr rfl (hin _ _) rfl rfl rfl (Nat.le_of_ble_eq_true rfl) rfl ?_)
          | (refine R_sw _ rfl rfl rfl ?_)
          | (refine R_go 9999 rfl rfl trivial ?_)
          | (refine R_go 9999 rfl rfl ?_ ?_))
      all_goals first | exact vpN ha rfl | skip
      all_goals (simp only [e1] at *)
      all_goals first | exact ret_i (if_pos (by (simp only [i_eq, i_lt, i_le, Int32.reduceToInt, true_and, and_true, false_and, and_false, or_false, false_or, or_true, true_or, ne_eq] at * <;> omega))).symm rfl | exact ret_i (if_neg (by (simp only [i_eq, i_lt, i_le, Int32.reduceToInt, true_and, and_true, false_and, and_false, or_false, false_or, or_true, true_or, ne_eq] at * <;> omega))).symm rfl
    · have hin : ∀ (A : FI) (B : FJ), MS 0 3 mtX12_in [.inr (.inl k.toInt64), .inr (.inl 0), .inr (.inl 4)] (hp A B) (Ret (some (.inl 0)) (hp A B)) := fun A B => by
        have h := m_inI k 0 4 A B
        rwa [b2_0 (by simp only [Int64.reduceToInt]; exact hk)] at h
      rw [if_neg hk]
      repeat' (first
          | (refine R_br rfl rfl (fun h => absurd h (by first | decide | (with_reducible assumption))) (fun _ => ?_))
          | (refine R_br rfl rfl (fun _ => ?_) (fun h => absurd (by first | decide | (with_reducible assumption)) h))
          | (refine R_br rfl rfl (fun _ => ?_) (fun _ => ?_))
          | (refine R_ri rfl rfl ?_)
          | (refine R_rz rfl rfl (Or.inl rfl) ?_)
          | (refine R_rz rfl rfl (Or.inr rfl) ?_)
          | (refine R_rz rfl rfl (b2_01 _) ?_)
          | (refine R_rl rfl rfl ?_)
          | (refine R_rv rfl rfl ?_)
          | (refine R_csr rfl (m_isFieldMT a ha _ _) rfl rfl rfl (Nat.le_of_ble_eq_true rfl) rfl ?_)
          | (refine R_csr rfl (hin _ _) rfl rfl rfl (Nat.le_of_ble_eq_true rfl) rfl ?_)
          | (refine R_sw _ rfl rfl rfl ?_)
          | (refine R_go 9999 rfl rfl trivial ?_)
          | (refine R_go 9999 rfl rfl ?_ ?_))
      exact ret_i rfl rfl
  · rw [if_neg hv]
    repeat' (first
        | (refine R_br rfl rfl (fun h => absurd h (by first | decide | (with_reducible assumption))) (fun _ => ?_))
        | (refine R_br rfl rfl (fun _ => ?_) (fun h => absurd (by first | decide | (with_reducible assumption)) h))
        | (refine R_br rfl rfl (fun _ => ?_) (fun _ => ?_))
        | (refine R_ri rfl rfl ?_)
        | (refine R_rz rfl rfl (Or.inl rfl) ?_)
        | (refine R_rz rfl rfl (Or.inr rfl) ?_)
        | (refine R_rz rfl rfl (b2_01 _) ?_)
        | (refine R_rl rfl rfl ?_)
        | (refine R_rv rfl rfl ?_)
        | (refine R_csr rfl (m_isFieldMN f hv _ _) rfl rfl rfl (Nat.le_of_ble_eq_true rfl) rfl ?_)
        | (refine R_sw _ rfl rfl rfl ?_)
        | (refine R_go 9999 rfl rfl trivial ?_)
        | (refine R_go 9999 rfl rfl ?_ ?_))
    exact ret_i rfl rfl
theorem m_asksM {A : FI} {B : FJ} {F : FS} (hR : RMF A F) (hW : WFF F) (f w : Int32) : MV 2 2 mtX12_asks [.inr (.inr (some (31, 0))), .inl f, .inl w] (hp A B) (Ret (some (.inl (asksS F f w))) (hp A B)) := by
  refine MV_of caX12_asks (L := [some (.inr (.inr (some (31, 0)))), some (.inl f), some (.inl w)]) rfl rfl ?_
  unfold asksS
  by_cases hv : 0 ≤ f.toInt ∧ f.toInt < 8
  · obtain ⟨a, ha, rfl⟩ := vp_in_of (x := f) (n := 8) (vp_of hv.1 (by omega)) (by decide)
    have ca : (nI a).toNatClampNeg = a := nI_clamp (by omega)
    have h0 := hW.1 a ha
    have e1 : A 32 0 (nI a).toNatClampNeg = nI (F.1 a) := by rw [ca]; exact (hR a ha).1
    have k3 : nI (F.1 a) = 3 ↔ F.1 a = 3 := nI_eq (by omega) (by decide)
    rw [if_pos hv, ca]
    by_cases hk : 0 ≤ w.toInt ∧ w.toInt ≤ 1
    · have hin : ∀ (A : FI) (B : FJ), MS 0 3 mtX12_in [.inr (.inl w.toInt64), .inr (.inl 0), .inr (.inl 1)] (hp A B) (Ret (some (.inl 1)) (hp A B)) := fun A B => by
        have h := m_inI w 0 1 A B
        rwa [b2_1 (by simp only [Int64.reduceToInt]; exact hk)] at h
      rw [if_pos hk]
      repeat' (first
          | (refine R_br rfl rfl (fun h => absurd h (by first | decide | (with_reducible assumption))) (fun _ => ?_))
          | (refine R_br rfl rfl (fun _ => ?_) (fun h => absurd (by first | decide | (with_reducible assumption)) h))
          | (refine R_br rfl rfl (fun _ => ?_) (fun _ => ?_))
          | (refine R_ri rfl rfl ?_)
          | (refine R_rz rfl rfl (Or.inl rfl) ?_)
          | (refine R_rz rfl rfl (Or.inr rfl) ?_)
          | (refine R_rz rfl rfl (b2_01 _) ?_)
          | (refine R_rl rfl rfl ?_)
          | (refine R_rv rfl rfl ?_)
          | (refine R_csr rfl (m_isFieldMT a ha _ _) rfl rfl rfl (Nat.le_of_ble_eq_true rfl) rfl ?_)
          | (refine R_csr rfl (hin _ _) rfl rfl rfl (Nat.le_of_ble_eq_true rfl) rfl ?_)
          | (refine R_cvr rfl (m_countsM hR hW a ha) rfl rfl rfl rfl rfl (Nat.le_of_ble_eq_true rfl) rfl ?_)
          | (refine R_sw _ rfl rfl rfl ?_)
          | (refine R_go 9999 rfl rfl trivial ?_)
          | (refine R_go 9999 rfl rfl ?_ ?_))
      all_goals first | exact vpN ha rfl | skip
      · rename_i h1 h; have h := b2_n h
        exact ret_i (by rw [if_pos (by (simp only [i_eq, i_lt, i_le, Int32.reduceToInt, true_and, and_true, false_and, and_false, or_false, false_or, or_true, true_or, ne_eq] at * <;> omega)), if_neg h]) rfl
      · rename_i h1 h; have h := b2_y h
        exact ret_i (by rw [if_pos (by (simp only [i_eq, i_lt, i_le, Int32.reduceToInt, true_and, and_true, false_and, and_false, or_false, false_or, or_true, true_or, ne_eq] at * <;> omega)), if_pos h]) rfl
      · rename_i h1 h; rw [e1, k3] at h
        exact ret_i (by rw [if_neg (by (simp only [i_eq, i_lt, i_le, Int32.reduceToInt, true_and, and_true, false_and, and_false, or_false, false_or, or_true, true_or, ne_eq] at * <;> omega)), if_pos h]) rfl
      · rename_i h1 h; rw [e1, k3] at h
        exact ret_i (by rw [if_neg (by (simp only [i_eq, i_lt, i_le, Int32.reduceToInt, true_and, and_true, false_and, and_false, or_false, false_or, or_true, true_or, ne_eq] at * <;> omega)), if_neg h]) rfl
    · have hin : ∀ (A : FI) (B : FJ), MS 0 3 mtX12_in [.inr (.inl w.toInt64), .inr (.inl 0), .inr (.inl 1)] (hp A B) (Ret (some (.inl 0)) (hp A B)) := fun A B => by
        have h := m_inI w 0 1 A B
        rwa [b2_0 (by simp only [Int64.reduceToInt]; exact hk)] at h
      rw [if_neg hk]
      repeat' (first
          | (refine R_br rfl rfl (fun h => absurd h (by first | decide | (with_reducible assumption))) (fun _ => ?_))
          | (refine R_br rfl rfl (fun _ => ?_) (fun h => absurd (by first | decide | (with_reducible assumption)) h))
          | (refine R_br rfl rfl (fun _ => ?_) (fun _ => ?_))
          | (refine R_ri rfl rfl ?_)
          | (refine R_rz rfl rfl (Or.inl rfl) ?_)
          | (refine R_rz rfl rfl (Or.inr rfl) ?_)
          | (refine R_rz rfl rfl (b2_01 _) ?_)
          | (refine R_rl rfl rfl ?_)
          | (refine R_rv rfl rfl ?_)
          | (refine R_csr rfl (m_isFieldMT a ha _ _) rfl rfl rfl (Nat.le_of_ble_eq_true rfl) rfl ?_)
          | (refine R_csr rfl (hin _ _) rfl rfl rfl (Nat.le_of_ble_eq_true rfl) rfl ?_)
          | (refine R_sw _ rfl rfl rfl ?_)
          | (refine R_go 9999 rfl rfl trivial ?_)
          | (refine R_go 9999 rfl rfl ?_ ?_))
      exact ret_i rfl rfl
  · rw [if_neg hv]
    repeat' (first
        | (refine R_br rfl rfl (fun h => absurd h (by first | decide | (with_reducible assumption))) (fun _ => ?_))
        | (refine R_br rfl rfl (fun _ => ?_) (fun h => absurd (by first | decide | (with_reducible assumption)) h))
        | (refine R_br rfl rfl (fun _ => ?_) (fun _ => ?_))
        | (refine R_ri rfl rfl ?_)
        | (refine R_rz rfl rfl (Or.inl rfl) ?_)
        | (refine R_rz rfl rfl (Or.inr rfl) ?_)
        | (refine R_rz rfl rfl (b2_01 _) ?_)
        | (refine R_rl rfl rfl ?_)
        | (refine R_rv rfl rfl ?_)
        | (refine R_csr rfl (m_isFieldMN f hv _ _) rfl rfl rfl (Nat.le_of_ble_eq_true rfl) rfl ?_)
        | (refine R_sw _ rfl rfl rfl ?_)
        | (refine R_go 9999 rfl rfl trivial ?_)
        | (refine R_go 9999 rfl rfl ?_ ?_))
    exact ret_i rfl rfl
theorem mayN_up (F : FS) (a k : Nat) : ∀ n, mayN (va_up F.1 a k, F.2) n = othN F a n + (if a < n ∧ k = 3 then 1 else 0) := by
  intro n
  induction n with
  | zero => simp [mayN, othN]
  | succ n ih =>
    rw [mayN, othN, ih]
    by_cases hn : n = a
    · subst hn
      by_cases h3 : k = 3 <;> simp [h3, va_up]
    · have e : (a < n + 1 ∧ k = 3) ↔ (a < n ∧ k = 3) := by constructor <;> (intro z; exact ⟨by omega, z.2⟩)
      simp only [e, ne_eq, hn, not_false_eq_true, true_and, va_up, if_false]
      omega
theorem mayN_c {F F' : FS} (h : F.1 = F'.1) : ∀ n, mayN F n = mayN F' n := by
  intro n
  induction n with
  | zero => rfl
  | succ n ih => rw [mayN, mayN, ih, h]
theorem toNat_toInt {v : Int32} (h : 0 ≤ v.toInt) : (v.toNatClampNeg : Int) = v.toInt := by
  obtain ⟨j, hj, rfl⟩ := nI_of (x := v) (by rw [i_lt]; simp only [Int32.reduceToInt]; omega)
  rw [nI_clamp hj, ti _ (by omega)]
theorem fieldS_wf {F : FS} (hW : WFF F) (f w v : Int32) : WFF (fieldS F f w v).2 := by
  by_cases hv : 0 ≤ f.toInt ∧ f.toInt < 8 ∧ 0 ≤ w.toInt ∧ w.toInt ≤ 3
  · obtain ⟨a, ha, rfl⟩ := vp_in_of (x := f) (n := 8) (vp_of hv.1 (by omega)) (by decide)
    obtain ⟨b, hb, rfl⟩ := vp_in_of (x := w) (n := 4) (vp_of hv.2.2.1 (by omega)) (by decide)
    have ca : (nI a).toNatClampNeg = a := nI_clamp (by omega)
    have cb : (nI b).toNatClampNeg = b := nI_clamp (by omega)
    have tb := ti b (by omega)
    by_cases hf : fitS F a b v
    · have hfs := fieldS_in (v := v) hv (by rw [ca, cb]; exact hf)
      rw [ca, tb] at hfs
      rw [hfs]
      split
      · exact hW
      · rename_i hno
        have h0 : 0 ≤ v.toInt := by unfold fitS at hf; omega
        have hv2 := toNat_toInt h0
        have hot := othN_may F a 8
        refine ⟨fun g hg => ?_, ?_⟩
        · have h1 := hW.1 g hg
          have h2 := hW.1 a ha
          by_cases hga : g = a
          · subst hga
            unfold fitS at hf
            rcases (show b = 0 ∨ b = 1 ∨ b = 2 ∨ b = 3 by omega) with rfl | rfl | rfl | rfl <;> simp [va_up] at hf ⊢ <;> omega
          · rcases (show b = 0 ∨ b = 1 ∨ b = 2 ∨ b = 3 by omega) with rfl | rfl | rfl | rfl <;> simp [va_up, hga] <;> omega
        · rcases (show b = 0 ∨ b = 1 ∨ b = 2 ∨ b = 3 by omega) with rfl | rfl | rfl | rfl
          · rw [mayN_c (F' := (va_up F.1 a v.toNatClampNeg, F.2)) (by simp), mayN_up]
            have h5 := hW.2
            have h6 : ¬ (v.toInt = 3 ∧ F.1 a ≠ 3 ∧ mayN F 8 = 3) := fun z => hno (Or.inr ⟨rfl, z⟩)
            by_cases hk : F.1 a = 3
            · simp only [hk, ha, and_self, if_true] at hot
              split <;> omega
            · simp only [hk, and_false, if_false] at hot
              split <;> omega
          · exact Nat.le_trans (Nat.le_of_eq (mayN_c rfl 8)) hW.2
          · exact Nat.le_trans (Nat.le_of_eq (mayN_c rfl 8)) hW.2
          · exact Nat.le_trans (Nat.le_of_eq (mayN_c rfl 8)) hW.2
    · rw [fieldS_out hv (by rw [ca, cb]; exact hf)]; exact hW
  · rw [fieldS_no hv]; exact hW
