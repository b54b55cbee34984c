def jn (m : Nat) (a b : Int64) : Int64 := if m = 9 then a * b else if m = 10 then a + b else if m = 11 then a - b else if m = 12 then (if a < b then 1 else 0) else if m = 13 then (if a = b then 1 else 0) else if m = 14 then (if b < a then 1 else 0) else if m = 16 then (if a = 1 then b else a) else (if a = 0 then b else a)
theorem m_joinedW (w : Nat) (hw : 9 ≤ w ∧ w ≤ 17 ∧ w ≠ 15) (a b : Int64) (A : FI) (B : FJ) : MS 0 3 mtX10_joined [.inl (nI (ltr w)), .inr (.inl a), .inr (.inl b)] (hp A B) (Ret (some (.inr (.inl (jn w a b)))) (hp A B)) := by
  refine MS_of caX10_joined (L := [some (.inl (nI (ltr w))), some (.inr (.inl a)), none, some (.inr (.inl b)), none]) rfl rfl ?_
  refine R_go 9999 rfl rfl trivial ?_
  rcases (show w = 9 ∨ w = 10 ∨ w = 11 ∨ w = 12 ∨ w = 13 ∨ w = 14 ∨ w = 16 ∨ w = 17 by omega) with rfl | rfl | rfl | rfl | rfl | rfl | rfl | rfl
  all_goals refine R_sw _ rfl rfl rfl ?_
  ·
    repeat' (first
        | (refine R_br rfl rfl (fun hbr => absurd hbr (by first | decide | (with_reducible assumption))) (fun _ => ?_))
        | (refine R_br rfl rfl (fun _ => ?_) (fun hbr => absurd (by first | decide | (with_reducible assumption)) hbr))
        | (refine R_br rfl rfl (fun _ => ?_) (fun _ => ?_))
        | (refine R_ri rfl rfl ?_)
        | (refine R_rz rfl rfl (Or.inl rfl) ?_)
        | (refine R_rz rfl rfl (Or.inr rfl) ?_)
        | (refine R_rz rfl rfl (b2_01 _) ?_)
        | (refine R_rl rfl rfl ?_)
        | (refine R_rv rfl rfl ?_)
        | (refine R_sw _ rfl rfl rfl ?_)
        | (refine R_go 9999 rfl rfl trivial ?_)
        | (refine R_go 9999 rfl rfl (by first | (show _ ∨ _; decide) | (show (_ ∨ _) ∧ (_ ∨ _); decide) | (show (_ ∨ _) ∧ (_ ∨ _) ∧ (_ ∨ _); decide)) ?_)
        | (refine R_go 9999 rfl rfl ?_ ?_))
    exact ret_l rfl rfl
  ·
    repeat' (first
        | (refine R_br rfl rfl (fun hbr => absurd hbr (by first | decide | (with_reducible assumption))) (fun _ => ?_))
        | (refine R_br rfl rfl (fun _ => ?_) (fun hbr => absurd (by first | decide | (with_reducible assumption)) hbr))
        | (refine R_br rfl rfl (fun _ => ?_) (fun _ => ?_))
        | (refine R_ri rfl rfl ?_)
        | (refine R_rz rfl rfl (Or.inl rfl) ?_)
        | (refine R_rz rfl rfl (Or.inr rfl) ?_)
        | (refine R_rz rfl rfl (b2_01 _) ?_)
        | (refine R_rl rfl rfl ?_)
        | (refine R_rv rfl rfl ?_)
        | (refine R_sw _ rfl rfl rfl ?_)
        | (refine R_go 9999 rfl rfl trivial ?_)
        | (refine R_go 9999 rfl rfl (by first | (show _ ∨ _; decide) | (show (_ ∨ _) ∧ (_ ∨ _); decide) | (show (_ ∨ _) ∧ (_ ∨ _) ∧ (_ ∨ _); decide)) ?_)
        | (refine R_go 9999 rfl rfl ?_ ?_))
    exact ret_l rfl rfl
  ·
    repeat' (first
        | (refine R_br rfl rfl (fun hbr => absurd hbr (by first | decide | (with_reducible assumption))) (fun _ => ?_))
        | (refine R_br rfl rfl (fun _ => ?_) (fun hbr => absurd (by first | decide | (with_reducible assumption)) hbr))
        | (refine R_br rfl rfl (fun _ => ?_) (fun _ => ?_))
        | (refine R_ri rfl rfl ?_)
        | (refine R_rz rfl rfl (Or.inl rfl) ?_)
        | (refine R_rz rfl rfl (Or.inr rfl) ?_)
        | (refine R_rz rfl rfl (b2_01 _) ?_)
        | (refine R_rl rfl rfl ?_)
        | (refine R_rv rfl rfl ?_)
        | (refine R_sw _ rfl rfl rfl ?_)
        | (refine R_go 9999 rfl rfl trivial ?_)
        | (refine R_go 9999 rfl rfl (by first | (show _ ∨ _; decide) | (show (_ ∨ _) ∧ (_ ∨ _); decide) | (show (_ ∨ _) ∧ (_ ∨ _) ∧ (_ ∨ _); decide)) ?_)
        | (refine R_go 9999 rfl rfl ?_ ?_))
    exact ret_l rfl rfl
  ·
    repeat' (first
        | (refine R_br rfl rfl (fun hbr => absurd hbr (by first | decide | (with_reducible assumption))) (fun _ => ?_))
        | (refine R_br rfl rfl (fun _ => ?_) (fun hbr => absurd (by first | decide | (with_reducible assumption)) hbr))
        | (refine R_br rfl rfl (fun _ => ?_) (fun _ => ?_))
        | (refine R_ri rfl rfl ?_)
        | (refine R_rz rfl rfl (Or.inl rfl) ?_)
        | (refine R_rz rfl rfl (Or.inr rfl) ?_)
        | (refine R_rz rfl rfl (b2_01 _) ?_)
        | (refine R_rl rfl rfl ?_)
        | (refine R_rv rfl rfl ?_)
        | (refine R_sw _ rfl rfl rfl ?_)
        | (refine R_go 9999 rfl rfl trivial ?_)
        | (refine R_go 9999 rfl rfl (by first | (show _ ∨ _; decide) | (show (_ ∨ _) ∧ (_ ∨ _); decide) | (show (_ ∨ _) ∧ (_ ∨ _) ∧ (_ ∨ _); decide)) ?_)
        | (refine R_go 9999 rfl rfl ?_ ?_))
    · rename_i h; exact ret_l (by have : ¬ a < b := fun z => absurd ((lg_cmp_lt _ _).mpr z) (by simp only [i_lt, i_le, Int32.reduceToInt] at *; omega); simp [jn, this]) rfl
    · rename_i h; exact ret_l (by have : a < b := (lg_cmp_lt _ _).mp (by simp only [i_lt, i_le, Int32.reduceToInt] at *; omega); simp [jn, this]) rfl
  ·
    repeat' (first
        | (refine R_br rfl rfl (fun hbr => absurd hbr (by first | decide | (with_reducible assumption))) (fun _ => ?_))
        | (refine R_br rfl rfl (fun _ => ?_) (fun hbr => absurd (by first | decide | (with_reducible assumption)) hbr))
        | (refine R_br rfl rfl (fun _ => ?_) (fun _ => ?_))
        | (refine R_ri rfl rfl ?_)
        | (refine R_rz rfl rfl (Or.inl rfl) ?_)
        | (refine R_rz rfl rfl (Or.inr rfl) ?_)
        | (refine R_rz rfl rfl (b2_01 _) ?_)
        | (refine R_rl rfl rfl ?_)
        | (refine R_rv rfl rfl ?_)
        | (refine R_sw _ rfl rfl rfl ?_)
        | (refine R_go 9999 rfl rfl trivial ?_)
        | (refine R_go 9999 rfl rfl (by first | (show _ ∨ _; decide) | (show (_ ∨ _) ∧ (_ ∨ _); decide) | (show (_ ∨ _) ∧ (_ ∨ _) ∧ (_ ∨ _); decide)) ?_)
        | (refine R_go 9999 rfl rfl ?_ ?_))
    · rename_i h; exact ret_l (by have : a = b := (lg_cmp_eq _ _).mp h; simp [jn, this]) rfl
    · rename_i h; exact ret_l (by have : ¬ a = b := fun z => h ((lg_cmp_eq _ _).mpr z); simp [jn, this]) rfl
  ·
    repeat' (first
        | (refine R_br rfl rfl (fun hbr => absurd hbr (by first | decide | (with_reducible assumption))) (fun _ => ?_))
        | (refine R_br rfl rfl (fun _ => ?_) (fun hbr => absurd (by first | decide | (with_reducible assumption)) hbr))
        | (refine R_br rfl rfl (fun _ => ?_) (fun _ => ?_))
        | (refine R_ri rfl rfl ?_)
        | (refine R_rz rfl rfl (Or.inl rfl) ?_)
        | (refine R_rz rfl rfl (Or.inr rfl) ?_)
        | (refine R_rz rfl rfl (b2_01 _) ?_)
        | (refine R_rl rfl rfl ?_)
        | (refine R_rv rfl rfl ?_)
        | (refine R_sw _ rfl rfl rfl ?_)
        | (refine R_go 9999 rfl rfl trivial ?_)
        | (refine R_go 9999 rfl rfl (by first | (show _ ∨ _; decide) | (show (_ ∨ _) ∧ (_ ∨ _); decide) | (show (_ ∨ _) ∧ (_ ∨ _) ∧ (_ ∨ _); decide)) ?_)
        | (refine R_go 9999 rfl rfl ?_ ?_))
    · rename_i h; exact ret_l (by have : ¬ b < a := fun z => absurd ((lg_cmp_gt _ _).mpr z) (by simp only [i_lt, i_le, Int32.reduceToInt] at *; omega); simp [jn, this]) rfl
    · rename_i h; exact ret_l (by have : b < a := (lg_cmp_gt _ _).mp (by simp only [i_lt, i_le, Int32.reduceToInt] at *; omega); simp [jn, this]) rfl
  ·
    repeat' (first
        | (refine R_br rfl rfl (fun hbr => absurd hbr (by first | decide | (with_reducible assumption))) (fun _ => ?_))
        | (refine R_br rfl rfl (fun _ => ?_) (fun hbr => absurd (by first | decide | (with_reducible assumption)) hbr))
        | (refine R_br rfl rfl (fun _ => ?_) (fun _ => ?_))
        | (refine R_ri rfl rfl ?_)
        | (refine R_rz rfl rfl (Or.inl rfl) ?_)
        | (refine R_rz rfl rfl (Or.inr rfl) ?_)
        | (refine R_rz rfl rfl (b2_01 _) ?_)
        | (refine R_rl rfl rfl ?_)
        | (refine R_rv rfl rfl ?_)
        | (refine R_sw _ rfl rfl rfl ?_)
        | (refine R_go 9999 rfl rfl trivial ?_)
        | (refine R_go 9999 rfl rfl (by first | (show _ ∨ _; decide) | (show (_ ∨ _) ∧ (_ ∨ _); decide) | (show (_ ∨ _) ∧ (_ ∨ _) ∧ (_ ∨ _); decide)) ?_)
        | (refine R_go 9999 rfl rfl ?_ ?_))
    · rename_i h; exact ret_l (by have : a = 1 := (lg_cmp_eq _ _).mp h; simp [jn, this]) rfl
    · rename_i h; exact ret_l (by have : ¬ a = 1 := fun z => h ((lg_cmp_eq _ _).mpr z); simp [jn, this]) rfl
  ·
    repeat' (first
        | (refine R_br rfl rfl (fun hbr => absurd hbr (by first | decide | (with_reducible assumption))) (fun _ => ?_))
        | (refine R_br rfl rfl (fun _ => ?_) (fun hbr => absurd (by first | decide | (with_reducible assumption)) hbr))
        | (refine R_br rfl rfl (fun _ => ?_) (fun _ => ?_))
        | (refine R_ri rfl rfl ?_)
        | (refine R_rz rfl rfl (Or.inl rfl) ?_)
        | (refine R_rz rfl rfl (Or.inr rfl) ?_)
        | (refine R_rz rfl rfl (b2_01 _) ?_)
        | (refine R_rl rfl rfl ?_)
        | (refine R_rv rfl rfl ?_)
        | (refine R_sw _ rfl rfl rfl ?_)
        | (refine R_go 9999 rfl rfl trivial ?_)
        | (refine R_go 9999 rfl rfl (by first | (show _ ∨ _; decide) | (show (_ ∨ _) ∧ (_ ∨ _); decide) | (show (_ ∨ _) ∧ (_ ∨ _) ∧ (_ ∨ _); decide)) ?_)
        | (refine R_go 9999 rfl rfl ?_ ?_))
    · rename_i h; exact ret_l (by have : a = 0 := (lg_cmp_eq _ _).mp h; simp [jn, this]) rfl
    · rename_i h; exact ret_l (by have : ¬ a = 0 := fun z => h ((lg_cmp_eq _ _).mpr z); simp [jn, this]) rfl
/-- where nothing MISSING was read, or it's no comparison -/
theorem m_joinW {A : FI} {B : FJ} {n : Nat} (hn : n + 2 ≤ 80) (w : Nat) (hw : 9 ≤ w ∧ w ≤ 17 ∧ w ≠ 15) (a b : Int64) (e : A 10 0 1 = nI (n + 2)) (ea : B 11 0 n = a) (eb : B 11 0 (n + 1) = b) (g : Bool) (eg : A 10 0 2 = bI g) : MV 1 1 mtX10_join [.inr (.inr (some (10, 0))), .inl (nI (ltr w))] (hp A B) (Ret none (hp (if (g && decide (12 ≤ w ∧ w ≤ 14)) = true then up3 (up3 A 10 0 1 (nI (n + 1))) 10 0 2 0 else up3 A 10 0 1 (nI (n + 1))) (if (g && decide (12 ≤ w ∧ w ≤ 14)) = true then up3 (up3 B 11 0 n (jn w a b)) 11 0 n 2 else up3 B 11 0 n (jn w a b)))) := by
  have tn := ti (n + 2) (by omega)
  have cl : (nI n).toNatClampNeg = n := nI_clamp (by omega)
  have cl1 : (nI (n + 1)).toNatClampNeg = n + 1 := nI_clamp (by omega)
  have e1 : A 10 0 1 - 1 = nI (n + 1) := by rw [e]; exact nI_pred (n + 1)
  have hv : vp_in (nI n) 80 := vpN (n := 80) (by omega) rfl
  have hv1 : vp_in (nI (n + 1)) 80 := vpN (n := 80) (by omega) rfl
  have hj := m_joinedW w hw a b (up3 A 10 0 1 (nI (n + 1))) B
  have eg' : up3 A 10 0 1 (nI (n + 1)) 10 0 2 = bI g := by rw [up3_s (by decide)]; exact eg
  have hlw : ltr w ≤ 255 := by
    unfold ltr
    repeat' split
    all_goals omega
  refine MV_of caX10_join (L := [some (.inr (.inr (some (10, 0)))), some (.inl (nI (ltr w)))]) rfl rfl ?_
  refine R_go 9999 rfl rfl trivial ?_
  refine R_br rfl rfl (fun h => absurd h (by rw [e]; (simp only [i_eq, i_lt, i_le, Int32.reduceToInt, true_and, and_true, false_and, and_false, or_false, false_or, or_true, true_or, ne_eq] at *; first | done | omega))) (fun _ => ?_)
  refine R_go 9999 rfl rfl trivial ?_
  refine R_br rfl rfl (fun _ => ?_) (fun h => absurd (by rw [e]; (simp only [i_eq, i_lt, i_le, Int32.reduceToInt, true_and, and_true, false_and, and_false, or_false, false_or, or_true, true_or, ne_eq] at *; first | done | omega)) h)
  refine R_go 9999 rfl rfl ?_ ?_
  · rw [e1, up3_self, nI_pred]; exact ⟨hv1, hv⟩
  rw [e1, up3_self, nI_pred, cl, cl1, ea, eb]
  refine R_csr rfl hj rfl rfl rfl (Nat.le_of_ble_eq_true rfl) rfl ?_
  refine R_go 9999 rfl rfl hv ?_
  rw [cl]
  cases g with
  | false =>
    refine R_br rfl rfl (fun _ => ?_) (fun h => absurd eg' h)
    repeat' (first
        | (refine R_br rfl rfl (fun hbr => absurd hbr (by first | decide | (with_reducible assumption))) (fun _ => ?_))
        | (refine R_br rfl rfl (fun _ => ?_) (fun hbr => absurd (by first | decide | (with_reducible assumption)) hbr))
        | (refine R_br rfl rfl (fun _ => ?_) (fun _ => ?_))
        | (refine R_ri rfl rfl ?_)
        | (refine R_rz rfl rfl (Or.inl rfl) ?_)
        | (refine R_rz rfl rfl (Or.inr rfl) ?_)
        | (refine R_rz rfl rfl (b2_01 _) ?_)
        | (refine R_rl rfl rfl ?_)
        | (refine R_rv rfl rfl ?_)
        | (refine R_sw _ rfl rfl rfl ?_)
        | (refine R_go 9999 rfl rfl trivial ?_)
        | (refine R_go 9999 rfl rfl (by first | (show _ ∨ _; decide) | (show (_ ∨ _) ∧ (_ ∨ _); decide) | (show (_ ∨ _) ∧ (_ ∨ _) ∧ (_ ∨ _); decide)) ?_)
        | (refine R_go 9999 rfl rfl ?_ ?_))
    exact ret_v rfl
  | true =>
    have eg2 : ¬ up3 A 10 0 1 (nI (n + 1)) 10 0 2 = 0 := by rw [eg']; decide
    refine R_br rfl rfl (fun h => absurd h eg2) (fun _ => ?_)
    by_cases hc : 12 ≤ w ∧ w ≤ 14
    · have hlt : 60 ≤ ltr w ∧ ltr w ≤ 62 := by
        rcases (show w = 12 ∨ w = 13 ∨ w = 14 by omega) with rfl | rfl | rfl <;> decide
      rw [if_pos (by simp [hc]), if_pos (by simp [hc])]
      repeat' (first
          | (refine R_br rfl rfl (fun hbr => absurd hbr (by first | decide | (with_reducible assumption))) (fun _ => ?_))
          | (refine R_br rfl rfl (fun _ => ?_) (fun hbr => absurd (by first | decide | (with_reducible assumption)) hbr))
          | (refine R_br rfl rfl (fun _ => ?_) (fun _ => ?_))
          | (refine R_ri rfl rfl ?_)
          | (refine R_rz rfl rfl (Or.inl rfl) ?_)
          | (refine R_rz rfl rfl (Or.inr rfl) ?_)
          | (refine R_rz rfl rfl (b2_01 _) ?_)
          | (refine R_rl rfl rfl ?_)
          | (refine R_rv rfl rfl ?_)
          | (refine R_csr rfl (m_isComparisonT (ltr w) hlt _ _) rfl rfl rfl (Nat.le_of_ble_eq_true rfl) rfl ?_)
          | (refine R_sw _ rfl rfl rfl ?_)
          | (refine R_go 9999 rfl rfl trivial ?_)
          | (refine R_go 9999 rfl rfl (by first | (show _ ∨ _; decide) | (show (_ ∨ _) ∧ (_ ∨ _); decide) | (show (_ ∨ _) ∧ (_ ∨ _) ∧ (_ ∨ _); decide)) ?_)
          | (refine R_go 9999 rfl rfl ?_ ?_))
      · rw [up3_self, nI_pred]; exact ⟨Or.inl rfl, hv⟩
      · rw [up3_self, nI_pred, cl]; exact ret_v rfl
    · have hlt : ¬ (60 ≤ ltr w ∧ ltr w ≤ 62) := by
        rcases (show w = 9 ∨ w = 10 ∨ w = 11 ∨ w = 16 ∨ w = 17 by omega) with rfl | rfl | rfl | rfl | rfl <;> decide
      rw [if_neg (by simp; omega), if_neg (by simp; omega)]
      repeat' (first
          | (refine R_br rfl rfl (fun hbr => absurd hbr (by first | decide | (with_reducible assumption))) (fun _ => ?_))
          | (refine R_br rfl rfl (fun _ => ?_) (fun hbr => absurd (by first | decide | (with_reducible assumption)) hbr))
          | (refine R_br rfl rfl (fun _ => ?_) (fun _ => ?_))
          | (refine R_ri rfl rfl ?_)
          | (refine R_rz rfl rfl (Or.inl rfl) ?_)
          | (refine R_rz rfl rfl (Or.inr rfl) ?_)
          | (refine R_rz rfl rfl (b2_01 _) ?_)
          | (refine R_rl rfl rfl ?_)
          | (refine R_rv rfl rfl ?_)
          | (refine R_csr rfl (m_isComparisonF (ltr w) (by omega) hlt _ _) rfl rfl rfl (Nat.le_of_ble_eq_true rfl) rfl ?_)
          | (refine R_sw _ rfl rfl rfl ?_)
          | (refine R_go 9999 rfl rfl trivial ?_)
          | (refine R_go 9999 rfl rfl (by first | (show _ ∨ _; decide) | (show (_ ∨ _) ∧ (_ ∨ _); decide) | (show (_ ∨ _) ∧ (_ ∨ _) ∧ (_ ∨ _); decide)) ?_)
          | (refine R_go 9999 rfl rfl ?_ ?_))
      exact ret_v rfl
theorem any_c (b a : Int64 × Bool) (r : List (Int64 × Bool)) : (b :: a :: r).any (fun x => x.2) = ((a.2 || b.2) || r.any (fun x => x.2)) := by
  simp only [List.any_cons]
  cases a.2 <;> cases b.2 <;> rfl
theorem lN_2 : lN 2 = 2 := rfl
theorem ari_jn {m : Nat} (h1 : 9 ≤ m) (h2 : m < 12) (a b : Int64) : jn m a b = ari m a b := by
  rcases (show m = 9 ∨ m = 10 ∨ m = 11 by omega) with rfl | rfl | rfl <;> rfl
theorem cmt_jn {m : Nat} (h1 : 12 ≤ m) (h2 : m < 15) (a b : Int64) : jn m a b = lN (cmt m a b) := by
  rcases (show m = 12 ∨ m = 13 ∨ m = 14 by omega) with rfl | rfl | rfl
  · by_cases h : a < b <;> simp [jn, cmt, h] <;> rfl
  · by_cases h : a = b <;> simp [jn, cmt, h] <;> rfl
  · by_cases h : b < a <;> simp [jn, cmt, h] <;> rfl
theorem jnd_jn {m a b : Nat} (h1 : 16 ≤ m) (h2 : m ≤ 17) (ha : a ≤ 2) : jn m (lN a) (lN b) = lN (jnd m a b) := by
  rcases (show m = 16 ∨ m = 17 by omega) with rfl | rfl <;> rcases (show a = 0 ∨ a = 1 ∨ a = 2 by omega) with rfl | rfl | rfl <;> rfl
