theorem ret_y {p : Prop} {h h' : AH} (hp : p) (e : h = h') : Ret (some (.inl (b2 p))) h' (some (.inl 1)) h := ⟨by rw [b2_1 hp], e⟩
theorem ret_n {p : Prop} {h h' : AH} (hp : ¬ p) (e : h = h') : Ret (some (.inl (b2 p))) h' (some (.inl 0)) h := ⟨by rw [b2_0 hp], e⟩
theorem b2_c {p q : Prop} (h : p ↔ q) : b2 p = b2 q := by
  rcases Classical.em p with hp | hp
  · rw [b2_1 hp, b2_1 (h.mp hp)]
  · rw [b2_0 hp, b2_0 (fun z => hp (h.mpr z))]
theorem nI_01 {n k : Nat} (h : n < k) (hk : k < 2147483648) : 0 ≤ nI n ∧ nI n < nI k := ⟨nI_pos' (by omega), nI_lt h (by omega)⟩
theorem m_isFieldT (a : Nat) (ha : a < 8) (A : FI) (B : FJ) : MS 0 1 mtX11_isField [.inl (nI a)] (hp A B) (Ret (some (.inl 1)) (hp A B)) := by
  have h := m_isField (nI a) A B
  have h1 : b2 (0 ≤ nI a ∧ nI a < 8) = 1 := b2_1 (nI_01 ha (Nat.le_of_ble_eq_true rfl))
  rwa [h1] at h
theorem ti (n : Nat) (h : n < 2147483648) : (nI n).toInt = n := nI_toInt h
/-- what is told of a FIELD -/
theorem m_told (a w : Nat) (ha : a < 8) (hw : w < 4) (A : FI) (B : FJ) : MV 1 2 mtX3_told [.inr (.inr (some (1, 0))), .inl (nI a), .inl (nI w)] (hp A B) (Ret (some (.inl (A 2 0 (a * 4 + w)))) (hp A B)) := by
  have e1 : nI a * 4 + nI w = nI (a * 4 + w) := by rw [show (4 : Int32) = nI 4 from rfl, pk_mul, nI_add]
  have h1 : ¬ nI w < 0 := nI_pos (by omega)
  have h2 : ¬ (3 : Int32) < nI w := nI_nlt (a := 3) (by omega) (by omega)
  refine MV_of caX3_told (L := [some (.inr (.inr (some (1, 0)))), some (.inl (nI a)), some (.inl (nI w))]) rfl rfl ?_
  repeat' (first
      | (refine R_br rfl rfl (fun h => absurd h (by first | decide | (with_reducible assumption))) (fun _ => ?_))
      | (refine R_br rfl rfl (fun _ => ?_) (fun h => absurd (by first | decide | (with_reducible assumption)) h))
      | (refine R_br rfl rfl (fun _ => ?_) (fun _ => ?_))
      | (refine R_ri rfl rfl ?_)
      | (refine R_rz rfl rfl (Or.inl rfl) ?_)
      | (refine R_rz rfl rfl (Or.inr rfl) ?_)
      | (refine R_rz rfl rfl (b2_01 _) ?_)
      | (refine R_rl rfl rfl ?_)
      | (refine R_rv rfl rfl ?_)
      | (refine R_csr rfl (m_isFieldT a ha _ _) rfl rfl rfl (Nat.le_of_ble_eq_true rfl) rfl ?_)
      | (refine R_sw _ rfl rfl rfl ?_)
      | (refine R_go 9999 rfl rfl trivial ?_)
      | (refine R_go 9999 rfl rfl ?_ ?_))
  · rw [e1]; exact vp_in_nI (by show _ < 32; omega) (by decide)
  · rw [e1, nI_clamp (by omega)]; exact ret_i rfl rfl
theorem m_tell (a w : Nat) (ha : a < 8) (hw : w < 4) (x : Int32) (A : FI) (B : FJ) : MV 1 3 mtX3_tell [.inr (.inr (some (1, 0))), .inl (nI a), .inl (nI w), .inl x] (hp A B) (Ret none (hp (up3 A 2 0 (a * 4 + w) x) B)) := by
  have e1 : nI a * 4 + nI w = nI (a * 4 + w) := by rw [show (4 : Int32) = nI 4 from rfl, pk_mul, nI_add]
  have h1 : ¬ nI w < 0 := nI_pos (by omega)
  have h2 : ¬ (3 : Int32) < nI w := nI_nlt (a := 3) (by omega) (by omega)
  refine MV_of caX3_tell (L := [some (.inr (.inr (some (1, 0)))), some (.inl (nI a)), some (.inl (nI w)), some (.inl x)]) rfl rfl ?_
  repeat' (first
      | (refine R_br rfl rfl (fun h => absurd h (by first | decide | (with_reducible assumption))) (fun _ => ?_))
      | (refine R_br rfl rfl (fun _ => ?_) (fun h => absurd (by first | decide | (with_reducible assumption)) h))
      | (refine R_br rfl rfl (fun _ => ?_) (fun _ => ?_))
      | (refine R_ri rfl rfl ?_)
      | (refine R_rz rfl rfl (Or.inl rfl) ?_)
      | (refine R_rz rfl rfl (Or.inr rfl) ?_)
      | (refine R_rz rfl rfl (b2_01 _) ?_)
      | (refine R_rl rfl rfl ?_)
      | (refine R_rv rfl rfl ?_)
      | (refine R_csr rfl (m_isFieldT a ha _ _) rfl rfl rfl (Nat.le_of_ble_eq_true rfl) rfl ?_)
      | (refine R_sw _ rfl rfl rfl ?_)
      | (refine R_go 9999 rfl rfl trivial ?_)
      | (refine R_go 9999 rfl rfl ?_ ?_))
  · rw [e1]; exact vp_in_nI (by show _ < 32; omega) (by decide)
  · rw [e1, nI_clamp (by omega)]; exact ret_v rfl
/-- FIELDS as they are told: KIND, least, greatest, PRICE -/
abbrev FS : Type := (Nat → Nat) × (Nat → Nat) × (Nat → Nat) × (Nat → Nat)
def RCF (A : FI) (F : FS) : Prop := ∀ f, f < 8 → A 2 0 (f * 4) = nI (F.1 f) ∧ A 2 0 (f * 4 + 1) = nI (F.2.1 f) ∧ A 2 0 (f * 4 + 2) = nI (F.2.2.1 f) ∧ A 2 0 (f * 4 + 3) = nI (F.2.2.2 f)
def RMF (A : FI) (F : FS) : Prop := ∀ f, f < 8 → A 32 0 f = nI (F.1 f) ∧ A 33 0 f = nI (F.2.1 f) ∧ A 34 0 f = nI (F.2.2.1 f) ∧ A 35 0 f = nI (F.2.2.2 f)
def mayN (F : FS) : Nat → Nat
  | 0 => 0
  | n + 1 => mayN F n + (if F.1 n = 3 then 1 else 0)
def WFF (F : FS) : Prop := (∀ f, f < 8 → F.1 f ≤ 4 ∧ F.2.1 f ≤ F.2.2.1 f ∧ F.2.2.1 f ≤ 20 ∧ 1 ≤ F.2.2.2 f ∧ F.2.2.2 f ≤ 99) ∧ mayN F 8 ≤ 3
theorem m_changes {A : FI} {B : FJ} {F : FS} (hR : RCF A F) (hW : WFF F) (a : Nat) (ha : a < 8) : MV 2 1 mtX3_changes [.inr (.inr (some (1, 0))), .inl (nI a)] (hp A B) (Ret (some (.inl (b2 (F.1 a = 3)))) (hp A B)) := by
  have h0 := hW.1 a ha
  have e := (hR a ha).1
  have t0 := ti (F.1 a) (by omega)
  refine MV_of caX3_changes (L := [some (.inr (.inr (some (1, 0)))), some (.inl (nI a))]) rfl rfl ?_
  repeat' (first
      | (refine R_br rfl rfl (fun h => absurd h (by first | decide | (with_reducible assumption))) (fun _ => ?_))
      | (refine R_br rfl rfl (fun _ => ?_) (fun h => absurd (by first | decide | (with_reducible assumption)) h))
      | (refine R_br rfl rfl (fun _ => ?_) (fun _ => ?_))
      | (refine R_ri rfl rfl ?_)
      | (refine R_rz rfl rfl (Or.inl rfl) ?_)
      | (refine R_rz rfl rfl (Or.inr rfl) ?_)
      | (refine R_rz rfl rfl (b2_01 _) ?_)
      | (refine R_rl rfl rfl ?_)
      | (refine R_rv rfl rfl ?_)
      | (refine R_cvr rfl (m_told a 0 ha (by decide) _ _) rfl rfl rfl rfl rfl (Nat.le_of_ble_eq_true rfl) rfl ?_)
      | (refine R_sw _ rfl rfl rfl ?_)
      | (refine R_go 9999 rfl rfl trivial ?_)
      | (refine R_go 9999 rfl rfl ?_ ?_))
  all_goals (simp only [Nat.add_zero, e] at *)
  all_goals first | exact ret_y (by simp only [i_eq, i_lt, i_le, Int32.reduceToInt, true_and, and_true, false_and, and_false, or_false, false_or, or_true, true_or, ne_eq] at * <;> omega) rfl | exact ret_n (by simp only [i_eq, i_lt, i_le, Int32.reduceToInt, true_and, and_true, false_and, and_false, or_false, false_or, or_true, true_or, ne_eq] at * <;> omega) rfl
theorem m_isOfKind {A : FI} {B : FJ} {F : FS} (hR : RCF A F) (hW : WFF F) (a k : Nat) (ha : a < 8) (hk : k ≤ 4) : MV 2 2 mtX3_isOfKind [.inr (.inr (some (1, 0))), .inl (nI a), .inl (nI k)] (hp A B) (Ret (some (.inl (b2 (k = 0 ∨ k = F.1 a ∨ (k = 1 ∧ F.1 a = 2))))) (hp A B)) := by
  have h0 := hW.1 a ha
  have e := (hR a ha).1
  have t0 := ti (F.1 a) (by omega)
  have t1 := ti k (by omega)
  refine MV_of caX3_isOfKind (L := [some (.inr (.inr (some (1, 0)))), some (.inl (nI a)), some (.inl (nI k)), none]) rfl rfl ?_
  repeat' (first
      | (refine R_br rfl rfl (fun h => absurd h (by first | decide | (with_reducible assumption))) (fun _ => ?_))
      | (refine R_br rfl rfl (fun _ => ?_) (fun h => absurd (by first | decide | (with_reducible assumption)) h))
      | (refine R_br rfl rfl (fun _ => ?_) (fun _ => ?_))
      | (refine R_ri rfl rfl ?_)
      | (refine R_rz rfl rfl (Or.inl rfl) ?_)
      | (refine R_rz rfl rfl (Or.inr rfl) ?_)
      | (refine R_rz rfl rfl (b2_01 _) ?_)
      | (refine R_rl rfl rfl ?_)
      | (refine R_rv rfl rfl ?_)
      | (refine R_cvr rfl (m_told a 0 ha (by decide) _ _) rfl rfl rfl rfl rfl (Nat.le_of_ble_eq_true rfl) rfl ?_)
      | (refine R_sw _ rfl rfl rfl ?_)
      | (refine R_go 9999 rfl rfl trivial ?_)
      | (refine R_go 9999 rfl rfl ?_ ?_))
  all_goals (simp only [Nat.add_zero, e] at *)
  all_goals first | exact ret_y (by simp only [i_eq, i_lt, i_le, Int32.reduceToInt, true_and, and_true, false_and, and_false, or_false, false_or, or_true, true_or, ne_eq] at * <;> omega) rfl | exact ret_n (by simp only [i_eq, i_lt, i_le, Int32.reduceToInt, true_and, and_true, false_and, and_false, or_false, false_or, or_true, true_or, ne_eq] at * <;> omega) rfl
theorem m_counts {A : FI} {B : FJ} {F : FS} (hR : RCF A F) (hW : WFF F) (a : Nat) (ha : a < 8) : MV 3 1 mtX3_counts [.inr (.inr (some (1, 0))), .inl (nI a)] (hp A B) (Ret (some (.inl (b2 (F.1 a ≠ 1 ∧ F.1 a ≠ 2)))) (hp A B)) := by
  have h0 := hW.1 a ha
  refine MV_of caX3_counts (L := [some (.inr (.inr (some (1, 0)))), some (.inl (nI a))]) rfl rfl ?_
  repeat' (first
      | (refine R_br rfl rfl (fun h => absurd h (by first | decide | (with_reducible assumption))) (fun _ => ?_))
      | (refine R_br rfl rfl (fun _ => ?_) (fun h => absurd (by first | decide | (with_reducible assumption)) h))
      | (refine R_br rfl rfl (fun _ => ?_) (fun _ => ?_))
      | (refine R_ri rfl rfl ?_)
      | (refine R_rz rfl rfl (Or.inl rfl) ?_)
      | (refine R_rz rfl rfl (Or.inr rfl) ?_)
      | (refine R_rz rfl rfl (b2_01 _) ?_)
      | (refine R_rl rfl rfl ?_)
      | (refine R_rv rfl rfl ?_)
      | (refine R_cvr rfl (m_isOfKind hR hW a 1 ha (by decide)) rfl rfl rfl rfl rfl (Nat.le_of_ble_eq_true rfl) rfl ?_)
      | (refine R_sw _ rfl rfl rfl ?_)
      | (refine R_go 9999 rfl rfl trivial ?_)
      | (refine R_go 9999 rfl rfl ?_ ?_))
  · rename_i h; exact ret_y (by have := b2_n h; omega) rfl
  · rename_i h; exact ret_n (by have := b2_y h; omega) rfl
theorem m_isInSpan {A : FI} {B : FJ} {F : FS} (hR : RCF A F) (hW : WFF F) (a : Nat) (ha : a < 8) (v : Int32) : MV 2 2 mtX3_isInSpan [.inr (.inr (some (1, 0))), .inl (nI a), .inl v] (hp A B) (Ret (some (.inl (b2 ((F.2.1 a : Int) ≤ v.toInt ∧ v.toInt ≤ F.2.2.1 a)))) (hp A B)) := by
  have h0 := hW.1 a ha
  have e1 := (hR a ha).2.1
  have e2 := (hR a ha).2.2.1
  have t0 := ti (F.2.1 a) (by omega)
  have t1 := ti (F.2.2.1 a) (by omega)
  refine MV_of caX3_isInSpan (L := [some (.inr (.inr (some (1, 0)))), some (.inl (nI a)), some (.inl v)]) rfl rfl ?_
  repeat' (first
      | (refine R_br rfl rfl (fun h => absurd h (by first | decide | (with_reducible assumption))) (fun _ => ?_))
      | (refine R_br rfl rfl (fun _ => ?_) (fun h => absurd (by first | decide | (with_reducible assumption)) h))
      | (refine R_br rfl rfl (fun _ => ?_) (fun _ => ?_))
      | (refine R_ri rfl rfl ?_)
      | (refine R_rz rfl rfl (Or.inl rfl) ?_)
      | (refine R_rz rfl rfl (Or.inr rfl) ?_)
      | (refine R_rz rfl rfl (b2_01 _) ?_)
      | (refine R_rl rfl rfl ?_)
      | (refine R_rv rfl rfl ?_)
      | (refine R_cvr rfl (m_told a 1 ha (by decide) _ _) rfl rfl rfl rfl rfl (Nat.le_of_ble_eq_true rfl) rfl ?_)
      | (refine R_cvr rfl (m_told a 2 ha (by decide) _ _) rfl rfl rfl rfl rfl (Nat.le_of_ble_eq_true rfl) rfl ?_)
      | (refine R_sw _ rfl rfl rfl ?_)
      | (refine R_go 9999 rfl rfl trivial ?_)
      | (refine R_go 9999 rfl rfl ?_ ?_))
  all_goals (simp only [e1, e2] at *)
  all_goals first | exact ret_y (by simp only [i_eq, i_lt, i_le, Int32.reduceToInt, true_and, and_true, false_and, and_false, or_false, false_or, or_true, true_or, ne_eq] at * <;> omega) rfl | exact ret_n (by simp only [i_eq, i_lt, i_le, Int32.reduceToInt, true_and, and_true, false_and, and_false, or_false, false_or, or_true, true_or, ne_eq] at * <;> omega) rfl
def fitS (F : FS) (a w : Nat) (v : Int32) : Prop := (w = 0 ∧ 0 ≤ v.toInt ∧ v.toInt ≤ 4) ∨ (w = 1 ∧ 0 ≤ v.toInt ∧ v.toInt ≤ F.2.2.1 a) ∨ (w = 2 ∧ (F.2.1 a : Int) ≤ v.toInt ∧ v.toInt ≤ 20) ∨ (w = 3 ∧ 1 ≤ v.toInt ∧ v.toInt ≤ 99)
theorem m_fits {A : FI} {B : FJ} {F : FS} (hR : RCF A F) (hW : WFF F) (a w : Nat) (ha : a < 8) (hw : w < 4) (v : Int32) : MV 2 3 mtX3_fits [.inr (.inr (some (1, 0))), .inl (nI a), .inl (nI w), .inl v] (hp A B) (Ret (some (.inl (b2 (fitS F a w v)))) (hp A B)) := by
  have h0 := hW.1 a ha
  have e1 := (hR a ha).2.1
  have e2 := (hR a ha).2.2.1
  have t0 := ti (F.2.1 a) (by omega)
  have t1 := ti (F.2.2.1 a) (by omega)
  refine MV_of caX3_fits (L := [some (.inr (.inr (some (1, 0)))), some (.inl (nI a)), some (.inl (nI w)), some (.inl v)]) rfl rfl ?_
  rcases (show w = 0 ∨ w = 1 ∨ w = 2 ∨ w = 3 by omega) with rfl | rfl | rfl | rfl
  ·
    repeat' (first
        | (refine R_br rfl rfl (fun h => absurd h (by first | decide | (with_reducible assumption))) (fun _ => ?_))
        | (refine R_br rfl rfl (fun _ => ?_) (fun h => absurd (by first | decide | (with_reducible assumption)) h))
        | (refine R_br rfl rfl (fun _ => ?_) (fun _ => ?_))
        | (refine R_ri rfl rfl ?_)
        | (refine R_rz rfl rfl (Or.inl rfl) ?_)
        | (refine R_rz rfl rfl (Or.inr rfl) ?_)
        | (refine R_rz rfl rfl (b2_01 _) ?_)
        | (refine R_rl rfl rfl ?_)
        | (refine R_rv rfl rfl ?_)
        | (refine R_sw _ rfl rfl rfl ?_)
        | (refine R_go 9999 rfl rfl trivial ?_)
        | (refine R_go 9999 rfl rfl ?_ ?_))
    all_goals (unfold fitS)
    all_goals first | exact ret_y (by simp only [i_eq, i_lt, i_le, Int32.reduceToInt, true_and, and_true, false_and, and_false, or_false, false_or, or_true, true_or, ne_eq] at * <;> omega) rfl | exact ret_n (by simp only [i_eq, i_lt, i_le, Int32.reduceToInt, true_and, and_true, false_and, and_false, or_false, false_or, or_true, true_or, ne_eq] at * <;> omega) rfl
  ·
    repeat' (first
        | (refine R_br rfl rfl (fun h => absurd h (by first | decide | (with_reducible assumption))) (fun _ => ?_))
        | (refine R_br rfl rfl (fun _ => ?_) (fun h => absurd (by first | decide | (with_reducible assumption)) h))
        | (refine R_br rfl rfl (fun _ => ?_) (fun _ => ?_))
        | (refine R_ri rfl rfl ?_)
        | (refine R_rz rfl rfl (Or.inl rfl) ?_)
        | (refine R_rz rfl rfl (Or.inr rfl) ?_)
        | (refine R_rz rfl rfl (b2_01 _) ?_)
        | (refine R_rl rfl rfl ?_)
        | (refine R_rv rfl rfl ?_)
        | (refine R_cvr rfl (m_told a 2 ha (by decide) _ _) rfl rfl rfl rfl rfl (Nat.le_of_ble_eq_true rfl) rfl ?_)
        | (refine R_sw _ rfl rfl rfl ?_)
        | (refine R_go 9999 rfl rfl trivial ?_)
        | (refine R_go 9999 rfl rfl ?_ ?_))
    all_goals (simp only [e1, e2] at *; unfold fitS)
    all_goals first | exact ret_y (by simp only [i_eq, i_lt, i_le, Int32.reduceToInt, true_and, and_true, false_and, and_false, or_false, false_or, or_true, true_or, ne_eq] at * <;> omega) rfl | exact ret_n (by simp only [i_eq, i_lt, i_le, Int32.reduceToInt, true_and, and_true, false_and, and_false, or_false, false_or, or_true, true_or, ne_eq] at * <;> omega) rfl
  ·
    repeat' (first
        | (refine R_br rfl rfl (fun h => absurd h (by first | decide | (with_reducible assumption))) (fun _ => ?_))
        | (refine R_br rfl rfl (fun _ => ?_) (fun h => absurd (by first | decide | (with_reducible assumption)) h))
        | (refine R_br rfl rfl (fun _ => ?_) (fun _ => ?_))
        | (refine R_ri rfl rfl ?_)
        | (refine R_rz rfl rfl (Or.inl rfl) ?_)
        | (refine R_rz rfl rfl (Or.inr rfl) ?_)
        | (refine R_rz rfl rfl (b2_01 _) ?_)
        | (refine R_rl rfl rfl ?_)
        | (refine R_rv rfl rfl ?_)
        | (refine R_cvr rfl (m_told a 1 ha (by decide) _ _) rfl rfl rfl rfl rfl (Nat.le_of_ble_eq_true rfl) rfl ?_)
        | (refine R_sw _ rfl rfl rfl ?_)
        | (refine R_go 9999 rfl rfl trivial ?_)
        | (refine R_go 9999 rfl rfl ?_ ?_))
    all_goals (simp only [e1, e2] at *; unfold fitS)
    all_goals first | exact ret_y (by simp only [i_eq, i_lt, i_le, Int32.reduceToInt, true_and, and_true, false_and, and_false, or_false, false_or, or_true, true_or, ne_eq] at * <;> omega) rfl | exact ret_n (by simp only [i_eq, i_lt, i_le, Int32.reduceToInt, true_and, and_true, false_and, and_false, or_false, false_or, or_true, true_or, ne_eq] at * <;> omega) rfl
  ·
    repeat' (first
        | (refine R_br rfl rfl (fun h => absurd h (by first | decide | (with_reducible assumption))) (fun _ => ?_))
        | (refine R_br rfl rfl (fun _ => ?_) (fun h => absurd (by first | decide | (with_reducible assumption)) h))
        | (refine R_br rfl rfl (fun _ => ?_) (fun _ => ?_))
        | (refine R_ri rfl rfl ?_)
        | (refine R_rz rfl rfl (Or.inl rfl) ?_)
        | (refine R_rz rfl rfl (Or.inr rfl) ?_)
        | (refine R_rz rfl rfl (b2_01 _) ?_)
        | (refine R_rl rfl rfl ?_)
        | (refine R_rv rfl rfl ?_)
        | (refine R_sw _ rfl rfl rfl ?_)
        | (refine R_go 9999 rfl rfl trivial ?_)
        | (refine R_go 9999 rfl rfl ?_ ?_))
    all_goals (unfold fitS)
    all_goals first | exact ret_y (by simp only [i_eq, i_lt, i_le, Int32.reduceToInt, true_and, and_true, false_and, and_false, or_false, false_or, or_true, true_or, ne_eq] at * <;> omega) rfl | exact ret_n (by simp only [i_eq, i_lt, i_le, Int32.reduceToInt, true_and, and_true, false_and, and_false, or_false, false_or, or_true, true_or, ne_eq] at * <;> omega) rfl
def othN (F : FS) (b : Nat) : Nat → Nat
  | 0 => 0
  | n + 1 => othN F b n + (if n ≠ b ∧ F.1 n = 3 then 1 else 0)
theorem othN_le (F : FS) (b n : Nat) : othN F b n ≤ n := by
  induction n with
  | zero => exact Nat.le_refl _
  | succ n ih => unfold othN; split <;> omega
theorem l_otherMays {A : FI} {B : FJ} {F : FS} (hR : RCF A F) (hW : WFF F) (b : Nat) (hb : b < 8) : ∀ n k, k + n = 8 → Rn 3 mtX3_otherMays 4 [some (.inr (.inr (some (1, 0)))), some (.inl (nI b)), some (.inl (nI (othN F b k))), some (.inl (nI k))] [] (hp A B) (Ret (some (.inl (nI (othN F b 8)))) (hp A B)) := by
  intro n
  induction n with
  | zero =>
    intro k hk
    have : k = 8 := by omega
    subst this
    repeat' (first
        | (refine R_br rfl rfl (fun h => absurd h (by first | decide | (with_reducible assumption))) (fun _ => ?_))
        | (refine R_br rfl rfl (fun _ => ?_) (fun h => absurd (by first | decide | (with_reducible assumption)) h))
        | (refine R_br rfl rfl (fun _ => ?_) (fun _ => ?_))
        | (refine R_ri rfl rfl ?_)
        | (refine R_rz rfl rfl (Or.inl rfl) ?_)
        | (refine R_rz rfl rfl (Or.inr rfl) ?_)
        | (refine R_rz rfl rfl (b2_01 _) ?_)
        | (refine R_rl rfl rfl ?_)
        | (refine R_rv rfl rfl ?_)
        | (refine R_sw _ rfl rfl rfl ?_)
        | (refine R_go 9999 rfl rfl trivial ?_)
        | (refine R_go 9999 rfl rfl ?_ ?_))
    exact ret_i rfl rfl
  | succ n ih =>
    intro k hk
    have t0 := ti k (by omega)
    have t1 := ti b (by omega)
    have ol := othN_le F b k
    refine R_go 9999 rfl rfl trivial ?_
    refine R_br rfl rfl (fun h => absurd h (by (simp only [i_eq, i_lt, i_le, Int32.reduceToInt, true_and, and_true, false_and, and_false, or_false, false_or, or_true, true_or, ne_eq] at * <;> omega))) (fun _ => ?_)
    repeat' (first
        | (refine R_stop 4 rfl rfl ?_)
        | (refine R_br rfl rfl (fun h => absurd h (by first | decide | (with_reducible assumption))) (fun _ => ?_))
        | (refine R_br rfl rfl (fun _ => ?_) (fun h => absurd (by first | decide | (with_reducible assumption)) h))
        | (refine R_br rfl rfl (fun _ => ?_) (fun _ => ?_))
        | (refine R_ri rfl rfl ?_)
        | (refine R_rz rfl rfl (Or.inl rfl) ?_)
        | (refine R_rz rfl rfl (Or.inr rfl) ?_)
        | (refine R_rz rfl rfl (b2_01 _) ?_)
        | (refine R_rl rfl rfl ?_)
        | (refine R_rv rfl rfl ?_)
        | (refine R_cvr rfl (m_changes hR hW k (by omega)) rfl rfl rfl rfl rfl (Nat.le_of_ble_eq_true rfl) rfl ?_)
        | (refine R_csr rfl (m_bit 0 (Or.inl rfl) _ _) rfl rfl rfl (Nat.le_of_ble_eq_true rfl) rfl ?_)
        | (refine R_csr rfl (m_bit 1 (Or.inr rfl) _ _) rfl rfl rfl (Nat.le_of_ble_eq_true rfl) rfl ?_)
        | (refine R_sw _ rfl rfl rfl ?_)
        | (refine R_go 4 rfl rfl trivial ?_)
        | (refine R_go 4 rfl rfl ?_ ?_))
    all_goals (refine ⟨?_, trivial⟩)
    · rename_i h
      have e : nI (othN F b k) + 0 = nI (othN F b (k + 1)) := by
        have : ¬ (k ≠ b ∧ F.1 k = 3) := fun z => z.1 ((nI_eq (by omega) (by omega)).mp h)
        rw [othN, if_neg this]; exact nI_add _ 0
      rw [e, nI_1]; exact ih (k + 1) (by omega)
    · rename_i h
      have e : nI (othN F b k) + 0 = nI (othN F b (k + 1)) := by
        have : ¬ (k ≠ b ∧ F.1 k = 3) := fun z => b2_n h z.2
        rw [othN, if_neg this]; exact nI_add _ 0
      rw [e, nI_1]; exact ih (k + 1) (by omega)
    · rename_i h1 h2
      have e : nI (othN F b k) + 1 = nI (othN F b (k + 1)) := by
        have : (k ≠ b ∧ F.1 k = 3) := ⟨fun z => h1 (by rw [z]), b2_y h2⟩
        rw [othN, if_pos this]; exact nI_add _ 1
      rw [e, nI_1]; exact ih (k + 1) (by omega)
theorem m_otherMays {A : FI} {B : FJ} {F : FS} (hR : RCF A F) (hW : WFF F) (b : Nat) (hb : b < 8) : MV 3 1 mtX3_otherMays [.inr (.inr (some (1, 0))), .inl (nI b)] (hp A B) (Ret (some (.inl (nI (othN F b 8)))) (hp A B)) := by
  refine MV_of caX3_otherMays (L := [some (.inr (.inr (some (1, 0)))), some (.inl (nI b)), none, none]) rfl rfl ?_
  refine R_go 4 rfl rfl trivial ?_
  exact l_otherMays hR hW b hb 8 0 rfl
theorem othN_may (F : FS) (b : Nat) : ∀ n, mayN F n = othN F b n + (if b < n ∧ F.1 b = 3 then 1 else 0) := by
  intro n
  induction n with
  | zero => simp [mayN, othN]
  | succ n ih =>
    rw [mayN, othN, ih]
    by_cases hn : n = b
    · subst hn
      by_cases h3 : F.1 n = 3 <;> simp [h3]
    · have e : (b < n + 1 ∧ F.1 b = 3) ↔ (b < n ∧ F.1 b = 3) := by constructor <;> (intro z; exact ⟨by omega, z.2⟩)
      simp only [e, ne_eq, hn, not_false_eq_true, true_and]
      omega
theorem m_allows {A : FI} {B : FJ} {F : FS} (hR : RCF A F) (hW : WFF F) (a w : Nat) (ha : a < 8) (hw : w < 4) (v : Int32) : MV 4 3 mtX3_allows [.inr (.inr (some (1, 0))), .inl (nI a), .inl (nI w), .inl v] (hp A B) (Ret (some (.inl (b2 ((w = 3 → F.1 a = 3) ∧ (w = 0 → v.toInt = 3 → othN F a 8 < 3))))) (hp A B)) := by
  have t0 := ti (othN F a 8) (by have := othN_le F a 8; omega)
  have t1 := ti w (by omega)
  refine MV_of caX3_allows (L := [some (.inr (.inr (some (1, 0)))), some (.inl (nI a)), some (.inl (nI w)), some (.inl v)]) rfl rfl ?_
  repeat' (first
      | (refine R_br rfl rfl (fun h => absurd h (by first | decide | (with_reducible assumption))) (fun _ => ?_))
      | (refine R_br rfl rfl (fun _ => ?_) (fun h => absurd (by first | decide | (with_reducible assumption)) h))
      | (refine R_br rfl rfl (fun _ => ?_) (fun _ => ?_))
      | (refine R_ri rfl rfl ?_)
      | (refine R_rz rfl rfl (Or.inl rfl) ?_)
      | (refine R_rz rfl rfl (Or.inr rfl) ?_)
      | (refine R_rz rfl rfl (b2_01 _) ?_)
      | (refine R_rl rfl rfl ?_)
      | (refine R_rv rfl rfl ?_)
      | (refine R_cvr rfl (m_changes hR hW a ha) rfl rfl rfl rfl rfl (Nat.le_of_ble_eq_true rfl) rfl ?_)
      | (refine R_cvr rfl (m_otherMays hR hW a ha) rfl rfl rfl rfl rfl (Nat.le_of_ble_eq_true rfl) rfl ?_)
      | (refine R_sw _ rfl rfl rfl ?_)
      | (refine R_go 9999 rfl rfl trivial ?_)
      | (refine R_go 9999 rfl rfl ?_ ?_))
  · rename_i h
    refine ret_i (b2_c ?_) rfl
    (simp only [i_eq, i_lt, i_le, Int32.reduceToInt, true_and, and_true, false_and, and_false, or_false, false_or, or_true, true_or, ne_eq] at * <;> omega)
  all_goals first | exact ret_y (by simp only [i_eq, i_lt, i_le, Int32.reduceToInt, true_and, and_true, false_and, and_false, or_false, false_or, or_true, true_or, ne_eq] at * <;> omega) rfl | exact ret_n (by simp only [i_eq, i_lt, i_le, Int32.reduceToInt, true_and, and_true, false_and, and_false, or_false, false_or, or_true, true_or, ne_eq] at * <;> omega) rfl
noncomputable def fieldS (F : FS) (f w v : Int32) : Int32 × FS := 
  if 0 ≤ f.toInt ∧ f.toInt < 8 ∧ 0 ≤ w.toInt ∧ w.toInt ≤ 3 then
    @ite _ (fitS F f.toNatClampNeg w.toNatClampNeg v) (Classical.propDecidable _)
      (if (w.toInt = 3 ∧ F.1 f.toNatClampNeg ≠ 3) ∨ (w.toInt = 0 ∧ v.toInt = 3 ∧ F.1 f.toNatClampNeg ≠ 3 ∧ mayN F 8 = 3) then (-103, F)
       else (nI ((if w.toInt = 0 then F.1 else if w.toInt = 1 then F.2.1 else if w.toInt = 2 then F.2.2.1 else F.2.2.2) f.toNatClampNeg),
         ((if w.toInt = 0 then va_up F.1 f.toNatClampNeg v.toNatClampNeg else F.1), (if w.toInt = 1 then va_up F.2.1 f.toNatClampNeg v.toNatClampNeg else F.2.1), (if w.toInt = 2 then va_up F.2.2.1 f.toNatClampNeg v.toNatClampNeg else F.2.2.1), (if w.toInt = 3 then va_up F.2.2.2 f.toNatClampNeg v.toNatClampNeg else F.2.2.2)))) (-102, F)
  else (-101, F)
/-- nothing but these groups changed -/
def Fm {α : Type} (gs : List Nat) (A A' : Nat → α) : Prop := ∀ g, g ∉ gs → A' g = A g
theorem Fm_rf {α : Type} {gs : List Nat} {A : Nat → α} : Fm gs A A := fun _ _ => rfl
theorem Fm_up {α : Type} {gs : List Nat} {A : Nat → Nat → Nat → α} {g i s : Nat} {x : α} (h : g ∈ gs) : Fm gs A (up3 A g i s x) := fun g' hg => by
  have : g' ≠ g := fun e => hg (e ▸ h)
  simp [up3, this]
theorem up3_self {α : Type} {A : Nat → Nat → Nat → α} {g i s : Nat} {x : α} : up3 A g i s x g i s = x := by simp [up3]
theorem up3_s {α : Type} {A : Nat → Nat → Nat → α} {g i s s' : Nat} {x : α} (h : s' ≠ s) : up3 A g i s x g i s' = A g i s' := by simp [up3, h]
theorem RCF_put {A : FI} {F : FS} (hR : RCF A F) (a w : Nat) (ha : a < 8) (hw : w < 4) (v : Int32) (hv : v = nI v.toNatClampNeg) : RCF (up3 A 2 0 (a * 4 + w) v) ((if w = 0 then va_up F.1 a v.toNatClampNeg else F.1), (if w = 1 then va_up F.2.1 a v.toNatClampNeg else F.2.1), (if w = 2 then va_up F.2.2.1 a v.toNatClampNeg else F.2.2.1), (if w = 3 then va_up F.2.2.2 a v.toNatClampNeg else F.2.2.2)) := by
  intro f hf
  have h := hR f hf
  have key : ∀ s, s < 4 → up3 A 2 0 (a * 4 + w) v 2 0 (f * 4 + s) = if f = a ∧ s = w then v else A 2 0 (f * 4 + s) := by
    intro s hs
    by_cases e : f = a ∧ s = w
    · rw [if_pos e, e.1, e.2, up3_self]
    · rw [if_neg e, up3_s (by intro z; apply e; omega)]
  have k0 := key 0 (by decide)
  have k1 := key 1 (by decide)
  have k2 := key 2 (by decide)
  have k3 := key 3 (by decide)
  rw [Nat.add_zero] at k0
  rw [k0, k1, k2, k3]
  have hup : ∀ (g : Nat → Nat), va_up g a v.toNatClampNeg f = if f = a then v.toNatClampNeg else g f := fun g => rfl
  refine ⟨?_, ?_, ?_, ?_⟩
  all_goals (by_cases h1 : f = a <;> rcases (show w = 0 ∨ w = 1 ∨ w = 2 ∨ w = 3 by omega) with rfl | rfl | rfl | rfl <;> simp [h1, hup, ← hv, h.1, h.2.1, h.2.2.1, h.2.2.2, Nat.add_zero, va_up] <;> first | (rw [← h1]; first | exact h.1 | exact h.2.1 | exact h.2.2.1 | exact h.2.2.2) | skip)
