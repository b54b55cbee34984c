theorem j_lt {a b : Int64} : a < b ↔ a.toInt < b.toInt := Int64.lt_iff_toInt_lt
theorem j_le {a b : Int64} : a ≤ b ↔ a.toInt ≤ b.toInt := Int64.le_iff_toInt_le
theorem j_eq {a b : Int64} : a = b ↔ a.toInt = b.toInt := Int64.toInt_inj.symm
theorem m_in (x lo hi : Int64) (A : FI) (B : FJ) : MS 0 3 mtX12_in [.inr (.inl x), .inr (.inl lo), .inr (.inl hi)] (hp A B) (Ret (some (.inl (b2 (lo.toInt ≤ x.toInt ∧ x.toInt ≤ hi.toInt)))) (hp A B)) := by
  refine MS_of caX12_in (L := [some (.inr (.inl x)), none, some (.inr (.inl lo)), none, some (.inr (.inl hi)), none]) rfl rfl ?_
  repeat' (first
      | (refine R_br rfl rfl (fun h => absurd h (by first | decide | (with_reducible assumption))) (fun _ => ?_))
      | (refine R_br rfl rfl (fun _ => ?_) (fun h => absurd (by first | decide | (with_reducible assumption)) h))
      | (refine R_br rfl rfl (fun _ => ?_) (fun _ => ?_))
      | (refine R_ri rfl rfl ?_)
      | (refine R_rz rfl rfl (Or.inl rfl) ?_)
      | (refine R_rz rfl rfl (Or.inr rfl) ?_)
      | (refine R_rz rfl rfl (b2_01 _) ?_)
      | (refine R_rl rfl rfl ?_)
      | (refine R_rv rfl rfl ?_)
      | (refine R_sw _ rfl rfl rfl ?_)
      | (refine R_go 9999 rfl rfl trivial ?_)
      | (refine R_go 9999 rfl rfl ?_ ?_))
  · rename_i h; rw [lg_cmp_lt, j_lt] at h; exact ret_n (by omega) rfl
  · rename_i h; rw [lg_cmp_gt, j_lt] at h; exact ret_n (by omega) rfl
  · rename_i h1 h; rw [lg_cmp_lt, j_lt] at h1; rw [lg_cmp_gt, j_lt] at h; exact ret_y (by omega) rfl
theorem i_l (x : Int32) : x.toInt64.toInt = x.toInt := Int32.toInt_toInt64 x
theorem m_inI (x : Int32) (lo hi : Int64) (A : FI) (B : FJ) : MS 0 3 mtX12_in [.inr (.inl x.toInt64), .inr (.inl lo), .inr (.inl hi)] (hp A B) (Ret (some (.inl (b2 (lo.toInt ≤ x.toInt ∧ x.toInt ≤ hi.toInt)))) (hp A B)) := by
  have h := m_in x.toInt64 lo hi A B
  rwa [i_l] at h
theorem m_isFieldM (f : Int32) (A : FI) (B : FJ) : MS 1 1 mtX12_isField [.inl f] (hp A B) (Ret (some (.inl (b2 (0 ≤ f.toInt ∧ f.toInt < 8)))) (hp A B)) := by
  refine MS_of caX12_isField (L := [some (.inl f)]) rfl rfl ?_
  repeat' (first
      | (refine R_br rfl rfl (fun h => absurd h (by first | decide | (with_reducible assumption))) (fun _ => ?_))
      | (refine R_br rfl rfl (fun _ => ?_) (fun h => absurd (by first | decide | (with_reducible assumption)) h))
      | (refine R_br rfl rfl (fun _ => ?_) (fun _ => ?_))
      | (refine R_ri rfl rfl ?_)
      | (refine R_rz rfl rfl (Or.inl rfl) ?_)
      | (refine R_rz rfl rfl (Or.inr rfl) ?_)
      | (refine R_rz rfl rfl (b2_01 _) ?_)
      | (refine R_rl rfl rfl ?_)
      | (refine R_rv rfl rfl ?_)
      | (refine R_csr rfl (m_inI f _ _ _ _) rfl rfl rfl (Nat.le_of_ble_eq_true rfl) rfl ?_)
      | (refine R_sw _ rfl rfl rfl ?_)
      | (refine R_go 9999 rfl rfl trivial ?_)
      | (refine R_go 9999 rfl rfl ?_ ?_))
  refine ret_i (b2_c ?_) rfl
  simp only [Int64.reduceToInt]
  omega
theorem m_isFieldMT (a : Nat) (ha : a < 8) (A : FI) (B : FJ) : MS 1 1 mtX12_isField [.inl (nI a)] (hp A B) (Ret (some (.inl 1)) (hp A B)) := by
  have h := m_isFieldM (nI a) A B
  rwa [b2_1 (by rw [ti a (by omega)]; omega)] at h
theorem m_isFieldMN (f : Int32) (hv : ¬ (0 ≤ f.toInt ∧ f.toInt < 8)) (A : FI) (B : FJ) : MS 1 1 mtX12_isField [.inl f] (hp A B) (Ret (some (.inl 0)) (hp A B)) := by
  have h := m_isFieldM f A B
  rwa [b2_0 hv] at h
theorem vpN {a n : Nat} (h : a < n) (hn : Nat.ble n 2000000 = true) : vp_in (nI a) n := vp_in_nI h (by have := Nat.le_of_ble_eq_true hn; omega)
theorem m_countsM {A : FI} {B : FJ} {F : FS} (hR : RMF A F) (hW : WFF F) (a : Nat) (ha : a < 8) : MV 0 1 mtX12_counts [.inr (.inr (some (31, 0))), .inl (nI a)] (hp A B) (Ret (some (.inl (b2 (F.1 a ≠ 1 ∧ F.1 a ≠ 2)))) (hp A B)) := by
  have h0 := hW.1 a ha
  have e := (hR a ha).1
  have ca : (nI a).toNatClampNeg = a := nI_clamp (by omega)
  have t0 := ti (F.1 a) (by omega)
  refine MV_of caX12_counts (L := [some (.inr (.inr (some (31, 0)))), some (.inl (nI a))]) rfl rfl ?_
  repeat' (first
      | (refine R_br rfl rfl (fun h => absurd h (by first | decide | (with_reducible assumption))) (fun _ => ?_))
      | (refine R_br rfl rfl (fun _ => ?_) (fun h => absurd (by first | decide | (with_reducible assumption)) h))
      | (refine R_br rfl rfl (fun _ => ?_) (fun _ => ?_))
      | (refine R_ri rfl rfl ?_)
      | (refine R_rz rfl rfl (Or.inl rfl) ?_)
      | (refine R_rz rfl rfl (Or.inr rfl) ?_)
      | (refine R_rz rfl rfl (b2_01 _) ?_)
      | (refine R_rl rfl rfl ?_)
      | (refine R_rv rfl rfl ?_)
      | (refine R_sw _ rfl rfl rfl ?_)
      | (refine R_go 9999 rfl rfl trivial ?_)
      | (refine R_go 9999 rfl rfl ?_ ?_))
  all_goals first | exact vpN ha rfl | skip
  all_goals (rw [ca, e] at *)
  all_goals first | exact ret_y (by simp only [i_eq, i_lt, i_le, Int32.reduceToInt, true_and, and_true, false_and, and_false, or_false, false_or, or_true, true_or, ne_eq] at * <;> omega) rfl | exact ret_n (by simp only [i_eq, i_lt, i_le, Int32.reduceToInt, true_and, and_true, false_and, and_false, or_false, false_or, or_true, true_or, ne_eq] at * <;> omega) rfl
theorem m_toldM {A : FI} {B : FJ} {F : FS} (hR : RMF A F) (a w : Nat) (ha : a < 8) (hw : w < 4) : MV 0 2 mtX12_told [.inr (.inr (some (31, 0))), .inl (nI a), .inl (nI w)] (hp A B) (Ret (some (.inl (nI ((if w = 0 then F.1 else if w = 1 then F.2.1 else if w = 2 then F.2.2.1 else F.2.2.2) a)))) (hp A B)) := by
  have e := hR a ha
  have ca : (nI a).toNatClampNeg = a := nI_clamp (by omega)
  refine MV_of caX12_told (L := [some (.inr (.inr (some (31, 0)))), some (.inl (nI a)), some (.inl (nI w))]) rfl rfl ?_
  rcases (show w = 0 ∨ w = 1 ∨ w = 2 ∨ w = 3 by omega) with rfl | rfl | rfl | rfl
  all_goals (repeat' (first
    | (refine R_br rfl rfl (fun h => absurd h (by decide)) (fun _ => ?_))
    | (refine R_br rfl rfl (fun _ => ?_) (fun h => absurd (by decide) h))
    | (refine R_ri rfl rfl ?_)
    | (refine R_go 9999 rfl rfl trivial ?_)
    | (refine R_go 9999 rfl rfl ?_ ?_)))
  all_goals first | exact vpN ha rfl | skip
  · rw [ca]; exact ret_i e.1 rfl
  · rw [ca]; exact ret_i e.2.1 rfl
  · rw [ca]; exact ret_i e.2.2.1 rfl
  · rw [ca]; exact ret_i e.2.2.2 rfl
theorem mayN_le (F : FS) (n : Nat) : mayN F n ≤ n := by
  induction n with
  | zero => exact Nat.le_refl _
  | succ n ih => unfold mayN; split <;> omega
theorem l_mayMany {A : FI} {B : FJ} {F : FS} (hR : RMF A F) (hW : WFF F) : ∀ n k, k + n = 8 → Rn 0 mtX12_mayMany 4 [some (.inr (.inr (some (31, 0)))), some (.inl (nI (mayN F k))), some (.inl (nI k))] [] (hp A B) (Ret (some (.inl (nI (mayN F 8)))) (hp A B)) := by
  intro n
  induction n with
  | zero =>
    intro k hk
    have : k = 8 := by omega
    subst this
    repeat' (first
        | (refine R_br rfl rfl (fun h => absurd h (by first | decide | (with_reducible assumption))) (fun _ => ?_))
        | (refine R_br rfl rfl (fun _ => ?_) (fun h => absurd (by first | decide | (with_reducible assumption)) h))
        | (refine R_br rfl rfl (fun _ => ?_) (fun _ => ?_))
        | (refine R_ri rfl rfl ?_)
        | (refine R_rz rfl rfl (Or.inl rfl) ?_)
        | (refine R_rz rfl rfl (Or.inr rfl) ?_)
        | (refine R_rz rfl rfl (b2_01 _) ?_)
        | (refine R_rl rfl rfl ?_)
        | (refine R_rv rfl rfl ?_)
        | (refine R_sw _ rfl rfl rfl ?_)
        | (refine R_go 9999 rfl rfl trivial ?_)
        | (refine R_go 9999 rfl rfl ?_ ?_))
    exact ret_i rfl rfl
  | succ n ih =>
    intro k hk
    have hk8 : k < 8 := by omega
    have t0 := ti k (by omega)
    have h0 := hW.1 k hk8
    have ck : (nI k).toNatClampNeg = k := nI_clamp (by omega)
    have e := (hR k hk8).1
    refine R_go 9999 rfl rfl trivial ?_
    refine R_br rfl rfl (fun h => absurd h (by (simp only [i_eq, i_lt, i_le, Int32.reduceToInt, true_and, and_true, false_and, and_false, or_false, false_or, or_true, true_or, ne_eq] at * <;> omega))) (fun _ => ?_)
    repeat' (first
        | (refine R_stop 4 rfl rfl ?_)
        | (refine R_br rfl rfl (fun h => absurd h (by first | decide | (with_reducible assumption))) (fun _ => ?_))
        | (refine R_br rfl rfl (fun _ => ?_) (fun h => absurd (by first | decide | (with_reducible assumption)) h))
        | (refine R_br rfl rfl (fun _ => ?_) (fun _ => ?_))
        | (refine R_ri rfl rfl ?_)
        | (refine R_rz rfl rfl (Or.inl rfl) ?_)
        | (refine R_rz rfl rfl (Or.inr rfl) ?_)
        | (refine R_rz rfl rfl (b2_01 _) ?_)
        | (refine R_rl rfl rfl ?_)
        | (refine R_rv rfl rfl ?_)
        | (refine R_sw _ rfl rfl rfl ?_)
        | (refine R_go 4 rfl rfl trivial ?_)
        | (refine R_go 4 rfl rfl ?_ ?_))
    all_goals first | exact vpN hk8 rfl | skip
    all_goals (rw [ck, e] at *; refine ⟨?_, trivial⟩)
    · rename_i h
      have e2 : nI (mayN F k) + 1 = nI (mayN F (k + 1)) := by
        rw [mayN, if_pos ((nI_eq (by omega) (by decide)).mp h)]; exact nI_add _ 1
      rw [e2, nI_1]; exact ih (k + 1) (by omega)
    · rename_i h
      have e2 : nI (mayN F k) + 0 = nI (mayN F (k + 1)) := by
        rw [mayN, if_neg (fun z => h (by rw [z]; rfl))]; exact nI_add _ 0
      rw [e2, nI_1]; exact ih (k + 1) (by omega)
theorem m_mayMany {A : FI} {B : FJ} {F : FS} (hR : RMF A F) (hW : WFF F) : MV 0 0 mtX12_mayMany [.inr (.inr (some (31, 0)))] (hp A B) (Ret (some (.inl (nI (mayN F 8)))) (hp A B)) := by
  refine MV_of caX12_mayMany (L := [some (.inr (.inr (some (31, 0)))), none, none]) rfl rfl ?_
  refine R_go 4 rfl rfl trivial ?_
  exact l_mayMany hR hW 8 0 rfl
