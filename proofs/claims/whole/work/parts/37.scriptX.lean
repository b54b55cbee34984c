theorem rkd (least most : Nat) (h : ∀ v, v < 19 → 9 ≤ v → (least ≤ rk v ↔ v ≤ most)) : ∀ v, 9 ≤ v → v ≤ 18 → (least ≤ rk v ↔ v ≤ most) := fun v h1 h2 => h v (by omega) h1
theorem rk6 : ∀ v, 9 ≤ v → v ≤ 18 → (6 ≤ rk v ↔ v ≤ 9) := rkd 6 9 (by decide)
theorem rk5 : ∀ v, 9 ≤ v → v ≤ 18 → (5 ≤ rk v ↔ v ≤ 11) := rkd 5 11 (by decide)
theorem rk4 : ∀ v, 9 ≤ v → v ≤ 18 → (4 ≤ rk v ↔ v ≤ 14) := rkd 4 14 (by decide)
theorem rk2 : ∀ v, 9 ≤ v → v ≤ 18 → (2 ≤ rk v ↔ v ≤ 16) := rkd 2 16 (by decide)
theorem rk1 : ∀ v, 9 ≤ v → v ≤ 18 → (1 ≤ rk v ↔ v ≤ 17) := rkd 1 17 (by decide)
theorem RSO_tl {i : Nat} {A : FI} {o : Os} (h : RSO i A o) (hl : o.2.2.length ≤ 80) : RSO i (up3 A 4 i 7 (if 0 < A 4 i 7 - 1 then A 4 i 7 - 1 else 0)) (o.1, o.2.1, o.2.2.tail) := by
  obtain ⟨dn, cur, s⟩ := o
  have e := h.2.2.2.2.2.2.2.1
  cases s with
  | nil =>
    have e : A 4 i 7 = 0 := e
    rw [if_neg (by rw [e]; decide)]
    obtain ⟨a1, a2, a3, a4, a5, a6, a7, a8, a9⟩ := h
    refine ⟨?_, ?_, ?_, ?_, ?_, ?_, ?_, up3_self, a9⟩
    · rw [up3_g (by decide)]; exact a1
    · rw [up3_s (by decide)]; exact a2
    · rw [up3_g (by decide)]; exact a3
    · rw [up3_s (by decide)]; exact a4
    · rw [up3_s (by decide)]; exact a5
    · rw [up3_s (by decide)]; exact a6
    · rw [up3_g (by decide)]; exact a7
  | cons w s =>
    have e : A 4 i 7 = nI (s.length + 1) := e
    have ts := ti s.length (by simp at hl; omega)
    have hq : (if 0 < A 4 i 7 - 1 then A 4 i 7 - 1 else 0) = nI s.length := by
      rw [e, nI_pred]
      by_cases hz : s.length = 0
      · rw [hz]; rfl
      · exact if_pos (by (simp only [i_eq, i_lt, i_le, Int32.reduceToInt, true_and, and_true, false_and, and_false, or_false, false_or, or_true, true_or, ne_eq] at *; first | done | omega))
    rw [hq]
    exact RSO_pop h
theorem PS_tr {i : Nat} {A A1 : FI} {B : FJ} {o : Os} {r : Option AV} {h' : AH} (a : Fi gS i A A1) (k : PS i A1 B o r h') : PS i A B o r h' := by
  obtain ⟨A', b, c, d, e⟩ := k
  exact ⟨A', b, c, d, Fi_tr a e⟩
theorem m_takeK {i : Nat} {A : FI} {B : FJ} (c b : Nat) (o : Os) (hc : c ≤ 255) (hb : b ≤ 255) (hok : oky c) (h : RSO i A o) (hz : szO o + o.1.length < 80) (h8 : 48 ≤ c ∧ c ≤ 57 → 48 ≤ b ∧ b ≤ 57 → b ≠ 58 → ∃ cur' v, o.2.1 = cur' ++ [(8, v)]) : MV 3 2 mtX7_take [.inr (.inr (some (4, i))), .inl (nI c), .inl (nI b)] (hp A B) (PS i A B (eK c b o)) := by
  have tc := ti c (by omega)
  have hsz : o.2.2.length < 80 := by simp only [szO] at hz; omega
  have hcl := cdO_len o
  refine MV_of caX7_take (L := [some (.inr (.inr (some (4, i)))), some (.inl (nI c)), some (.inl (nI b))]) rfl rfl ?_
  unfold eK
  by_cases hd : 48 ≤ c ∧ c ≤ 57
  · rw [if_pos hd]
    have hm := m_takeDigit (i := i) (A := A) (B := B) (c - 48) b o (by omega) hb h hz (h8 hd)
    rw [show c - 48 + 48 = c by omega] at hm
    repeat' (first
        | (refine R_br rfl rfl (fun hbr => absurd hbr (by first | decide | (with_reducible assumption))) (fun _ => ?_))
        | (refine R_br rfl rfl (fun _ => ?_) (fun hbr => absurd (by first | decide | (with_reducible assumption)) hbr))
        | (refine R_br rfl rfl (fun _ => ?_) (fun _ => ?_))
        | (refine R_ri rfl rfl ?_)
        | (refine R_rz rfl rfl (Or.inl rfl) ?_)
        | (refine R_rz rfl rfl (Or.inr rfl) ?_)
        | (refine R_rz rfl rfl (b2_01 _) ?_)
        | (refine R_rl rfl rfl ?_)
        | (refine R_rv rfl rfl ?_)
        | (refine R_csr rfl (m_isDigitT c hd _ _) rfl rfl rfl (Nat.le_of_ble_eq_true rfl) rfl ?_)
        | (rw [show nI c - 48 = nI (c - 48) from nI_sub (b := 48) (by omega)])
        | (refine R_cv rfl (hm) rfl rfl rfl rfl rfl (Nat.le_of_ble_eq_true rfl) rfl ?_)
        | (refine R_sw _ rfl rfl rfl ?_)
        | (refine R_go 9999 rfl rfl trivial ?_)
        | (refine R_go 9999 rfl rfl (by first | (show _ ∨ _; decide) | (show (_ ∨ _) ∧ (_ ∨ _); decide) | (show (_ ∨ _) ∧ (_ ∨ _) ∧ (_ ∨ _); decide)) ?_)
        | (refine R_go 9999 rfl rfl ?_ ?_))
    rintro r h' ⟨A', rfl, rfl, a, b⟩
    repeat' (first
        | (refine R_br rfl rfl (fun hbr => absurd hbr (by first | decide | (with_reducible assumption))) (fun _ => ?_))
        | (refine R_br rfl rfl (fun _ => ?_) (fun hbr => absurd (by first | decide | (with_reducible assumption)) hbr))
        | (refine R_br rfl rfl (fun _ => ?_) (fun _ => ?_))
        | (refine R_ri rfl rfl ?_)
        | (refine R_rz rfl rfl (Or.inl rfl) ?_)
        | (refine R_rz rfl rfl (Or.inr rfl) ?_)
        | (refine R_rz rfl rfl (b2_01 _) ?_)
        | (refine R_rl rfl rfl ?_)
        | (refine R_rv rfl rfl ?_)
        | (refine R_sw _ rfl rfl rfl ?_)
        | (refine R_go 9999 rfl rfl trivial ?_)
        | (refine R_go 9999 rfl rfl (by first | (show _ ∨ _; decide) | (show (_ ∨ _) ∧ (_ ∨ _); decide) | (show (_ ∨ _) ∧ (_ ∨ _) ∧ (_ ∨ _); decide)) ?_)
        | (refine R_go 9999 rfl rfl ?_ ?_))
    exact ⟨A', rfl, rfl, a, b⟩
  rw [if_neg hd]
  by_cases hl : 97 ≤ c ∧ c ≤ 104
  · rw [if_pos hl]
    repeat' (first
        | (refine R_br rfl rfl (fun hbr => absurd hbr (by first | decide | (with_reducible assumption))) (fun _ => ?_))
        | (refine R_br rfl rfl (fun _ => ?_) (fun hbr => absurd (by first | decide | (with_reducible assumption)) hbr))
        | (refine R_br rfl rfl (fun _ => ?_) (fun _ => ?_))
        | (refine R_ri rfl rfl ?_)
        | (refine R_rz rfl rfl (Or.inl rfl) ?_)
        | (refine R_rz rfl rfl (Or.inr rfl) ?_)
        | (refine R_rz rfl rfl (b2_01 _) ?_)
        | (refine R_rl rfl rfl ?_)
        | (refine R_rv rfl rfl ?_)
        | (refine R_csr rfl (m_isDigitF c (by omega) hd _ _) rfl rfl rfl (Nat.le_of_ble_eq_true rfl) rfl ?_)
        | (refine R_csr rfl (m_isFieldLetterT c hl _ _) rfl rfl rfl (Nat.le_of_ble_eq_true rfl) rfl ?_)
        | (rw [show nI c - 97 = nI (c - 97) from nI_sub (b := 97) (by omega)])
        | (refine R_cvv rfl (m_addC (n := (cdO o).length) (by simp only [szO] at hz; omega) _ h.2.1) rfl rfl rfl rfl rfl (Nat.le_of_ble_eq_true rfl) rfl ?_)
        | (refine R_sw _ rfl rfl rfl ?_)
        | (refine R_go 9999 rfl rfl trivial ?_)
        | (refine R_go 9999 rfl rfl (by first | (show _ ∨ _; decide) | (show (_ ∨ _) ∧ (_ ∨ _); decide) | (show (_ ∨ _) ∧ (_ ∨ _) ∧ (_ ∨ _); decide)) ?_)
        | (refine R_go 9999 rfl rfl ?_ ?_))
    have hr := RSO_add (m := c - 97) h (by omega)
    rw [show cd1 (c - 97) = c - 97 from if_pos (by omega)] at hr
    exact ⟨_, rfl, rfl, hr, Fi_up (Fi_up Fi_rf (by decide)) (by decide)⟩
  rw [if_neg hl]
  by_cases h1 : c = 40
  · subst h1
    rw [if_pos rfl]
    repeat' (first
        | (refine R_br rfl rfl (fun hbr => absurd hbr (by first | decide | (with_reducible assumption))) (fun _ => ?_))
        | (refine R_br rfl rfl (fun _ => ?_) (fun hbr => absurd (by first | decide | (with_reducible assumption)) hbr))
        | (refine R_br rfl rfl (fun _ => ?_) (fun _ => ?_))
        | (refine R_ri rfl rfl ?_)
        | (refine R_rz rfl rfl (Or.inl rfl) ?_)
        | (refine R_rz rfl rfl (Or.inr rfl) ?_)
        | (refine R_rz rfl rfl (b2_01 _) ?_)
        | (refine R_rl rfl rfl ?_)
        | (refine R_rv rfl rfl ?_)
        | (refine R_csr rfl (m_isDigitF 40 (by omega) hd _ _) rfl rfl rfl (Nat.le_of_ble_eq_true rfl) rfl ?_)
        | (refine R_csr rfl (m_isFieldLetterF 40 (by omega) hl _ _) rfl rfl rfl (Nat.le_of_ble_eq_true rfl) rfl ?_)
        | (refine R_cvv rfl (m_holdC hsz (nI (ltr 18)) h.2.2.2.2.2.2.2.1) rfl rfl rfl rfl rfl (Nat.le_of_ble_eq_true rfl) rfl ?_)
        | (refine R_sw _ rfl rfl rfl ?_)
        | (refine R_go 9999 rfl rfl trivial ?_)
        | (refine R_go 9999 rfl rfl (by first | (show _ ∨ _; decide) | (show (_ ∨ _) ∧ (_ ∨ _); decide) | (show (_ ∨ _) ∧ (_ ∨ _) ∧ (_ ∨ _); decide)) ?_)
        | (refine R_go 9999 rfl rfl ?_ ?_))
    exact ⟨_, rfl, rfl, RSO_push h (by decide), Fi_up (Fi_up Fi_rf (by decide)) (by decide)⟩
  rw [if_neg h1]
  have n1 : ¬ nI c = 40 := by (simp only [i_eq, i_lt, i_le, Int32.reduceToInt, true_and, and_true, false_and, and_false, or_false, false_or, or_true, true_or, ne_eq] at *; first | done | omega)
  by_cases h2 : c = 33
  · subst h2
    rw [if_pos rfl]
    repeat' (first
        | (refine R_br rfl rfl (fun hbr => absurd hbr (by first | decide | (with_reducible assumption))) (fun _ => ?_))
        | (refine R_br rfl rfl (fun _ => ?_) (fun hbr => absurd (by first | decide | (with_reducible assumption)) hbr))
        | (refine R_br rfl rfl (fun _ => ?_) (fun _ => ?_))
        | (refine R_ri rfl rfl ?_)
        | (refine R_rz rfl rfl (Or.inl rfl) ?_)
        | (refine R_rz rfl rfl (Or.inr rfl) ?_)
        | (refine R_rz rfl rfl (b2_01 _) ?_)
        | (refine R_rl rfl rfl ?_)
        | (refine R_rv rfl rfl ?_)
        | (refine R_csr rfl (m_isDigitF 33 (by omega) hd _ _) rfl rfl rfl (Nat.le_of_ble_eq_true rfl) rfl ?_)
        | (refine R_csr rfl (m_isFieldLetterF 33 (by omega) hl _ _) rfl rfl rfl (Nat.le_of_ble_eq_true rfl) rfl ?_)
        | (refine R_cvv rfl (m_holdC hsz (nI (ltr 15)) h.2.2.2.2.2.2.2.1) rfl rfl rfl rfl rfl (Nat.le_of_ble_eq_true rfl) rfl ?_)
        | (refine R_sw _ rfl rfl rfl ?_)
        | (refine R_go 9999 rfl rfl trivial ?_)
        | (refine R_go 9999 rfl rfl (by first | (show _ ∨ _; decide) | (show (_ ∨ _) ∧ (_ ∨ _); decide) | (show (_ ∨ _) ∧ (_ ∨ _) ∧ (_ ∨ _); decide)) ?_)
        | (refine R_go 9999 rfl rfl ?_ ?_))
    exact ⟨_, rfl, rfl, RSO_push h (by decide), Fi_up (Fi_up Fi_rf (by decide)) (by decide)⟩
  rw [if_neg h2]
  have n2 : ¬ nI c = 33 := by (simp only [i_eq, i_lt, i_le, Int32.reduceToInt, true_and, and_true, false_and, and_false, or_false, false_or, or_true, true_or, ne_eq] at *; first | done | omega)
  have hm1 := m_release (i := i) (B := B) 1 17 (by decide) rk1 o h (by omega)
  have hl17 : (ldn 17 o).2.2.length ≤ 80 := by have := sz_ldn 17 o; simp only [szO] at this hz; omega
  by_cases h3 : c = 41
  · subst h3
    rw [if_pos rfl]
    repeat' (first
        | (refine R_br rfl rfl (fun hbr => absurd hbr (by first | decide | (with_reducible assumption))) (fun _ => ?_))
        | (refine R_br rfl rfl (fun _ => ?_) (fun hbr => absurd (by first | decide | (with_reducible assumption)) hbr))
        | (refine R_br rfl rfl (fun _ => ?_) (fun _ => ?_))
        | (refine R_ri rfl rfl ?_)
        | (refine R_rz rfl rfl (Or.inl rfl) ?_)
        | (refine R_rz rfl rfl (Or.inr rfl) ?_)
        | (refine R_rz rfl rfl (b2_01 _) ?_)
        | (refine R_rl rfl rfl ?_)
        | (refine R_rv rfl rfl ?_)
        | (refine R_csr rfl (m_isDigitF 41 (by omega) hd _ _) rfl rfl rfl (Nat.le_of_ble_eq_true rfl) rfl ?_)
        | (refine R_csr rfl (m_isFieldLetterF 41 (by omega) hl _ _) rfl rfl rfl (Nat.le_of_ble_eq_true rfl) rfl ?_)
        | (refine R_cv rfl (hm1) rfl rfl rfl rfl rfl (Nat.le_of_ble_eq_true rfl) rfl ?_)
        | (refine R_sw _ rfl rfl rfl ?_)
        | (refine R_go 9999 rfl rfl trivial ?_)
        | (refine R_go 9999 rfl rfl (by first | (show _ ∨ _; decide) | (show (_ ∨ _) ∧ (_ ∨ _); decide) | (show (_ ∨ _) ∧ (_ ∨ _) ∧ (_ ∨ _); decide)) ?_)
        | (refine R_go 9999 rfl rfl ?_ ?_))
    rintro r h' ⟨A', rfl, rfl, a, b⟩
    repeat' (first
        | (refine R_br rfl rfl (fun hbr => absurd hbr (by first | decide | (with_reducible assumption))) (fun _ => ?_))
        | (refine R_br rfl rfl (fun _ => ?_) (fun hbr => absurd (by first | decide | (with_reducible assumption)) hbr))
        | (refine R_br rfl rfl (fun _ => ?_) (fun _ => ?_))
        | (refine R_ri rfl rfl ?_)
        | (refine R_rz rfl rfl (Or.inl rfl) ?_)
        | (refine R_rz rfl rfl (Or.inr rfl) ?_)
        | (refine R_rz rfl rfl (b2_01 _) ?_)
        | (refine R_rl rfl rfl ?_)
        | (refine R_rv rfl rfl ?_)
        | (refine R_mmax rfl qm_X7_70 (Nat.le_of_ble_eq_true rfl) (Nat.le_refl _) (Nat.le_refl _) rfl ?_)
        | (refine R_sw _ rfl rfl rfl ?_)
        | (refine R_go 9999 rfl rfl trivial ?_)
        | (refine R_go 9999 rfl rfl (by first | (show _ ∨ _; decide) | (show (_ ∨ _) ∧ (_ ∨ _); decide) | (show (_ ∨ _) ∧ (_ ∨ _) ∧ (_ ∨ _); decide)) ?_)
        | (refine R_go 9999 rfl rfl ?_ ?_))
    have hq := RSO_tl a hl17
    exact ⟨_, rfl, rfl, hq, Fi_tr b (Fi_up Fi_rf (by decide))⟩
  rw [if_neg h3]
  have n3 : ¬ nI c = 41 := by (simp only [i_eq, i_lt, i_le, Int32.reduceToInt, true_and, and_true, false_and, and_false, or_false, false_or, or_true, true_or, ne_eq] at *; first | done | omega)
  by_cases h4 : c = 58
  · subst h4
    rw [if_pos rfl]
    repeat' (first
        | (refine R_br rfl rfl (fun hbr => absurd hbr (by first | decide | (with_reducible assumption))) (fun _ => ?_))
        | (refine R_br rfl rfl (fun _ => ?_) (fun hbr => absurd (by first | decide | (with_reducible assumption)) hbr))
        | (refine R_br rfl rfl (fun _ => ?_) (fun _ => ?_))
        | (refine R_ri rfl rfl ?_)
        | (refine R_rz rfl rfl (Or.inl rfl) ?_)
        | (refine R_rz rfl rfl (Or.inr rfl) ?_)
        | (refine R_rz rfl rfl (b2_01 _) ?_)
        | (refine R_rl rfl rfl ?_)
        | (refine R_rv rfl rfl ?_)
        | (refine R_csr rfl (m_isDigitF 58 (by omega) hd _ _) rfl rfl rfl (Nat.le_of_ble_eq_true rfl) rfl ?_)
        | (refine R_csr rfl (m_isFieldLetterF 58 (by omega) hl _ _) rfl rfl rfl (Nat.le_of_ble_eq_true rfl) rfl ?_)
        | (refine R_cv rfl (hm1) rfl rfl rfl rfl rfl (Nat.le_of_ble_eq_true rfl) rfl ?_)
        | (refine R_sw _ rfl rfl rfl ?_)
        | (refine R_go 9999 rfl rfl trivial ?_)
        | (refine R_go 9999 rfl rfl (by first | (show _ ∨ _; decide) | (show (_ ∨ _) ∧ (_ ∨ _); decide) | (show (_ ∨ _) ∧ (_ ∨ _) ∧ (_ ∨ _); decide)) ?_)
        | (refine R_go 9999 rfl rfl ?_ ?_))
    rintro r h' ⟨A', rfl, rfl, a, b⟩
    repeat' (first
        | (refine R_br rfl rfl (fun hbr => absurd hbr (by first | decide | (with_reducible assumption))) (fun _ => ?_))
        | (refine R_br rfl rfl (fun _ => ?_) (fun hbr => absurd (by first | decide | (with_reducible assumption)) hbr))
        | (refine R_br rfl rfl (fun _ => ?_) (fun _ => ?_))
        | (refine R_ri rfl rfl ?_)
        | (refine R_rz rfl rfl (Or.inl rfl) ?_)
        | (refine R_rz rfl rfl (Or.inr rfl) ?_)
        | (refine R_rz rfl rfl (b2_01 _) ?_)
        | (refine R_rl rfl rfl ?_)
        | (refine R_rv rfl rfl ?_)
        | (refine R_sw _ rfl rfl rfl ?_)
        | (refine R_go 9999 rfl rfl trivial ?_)
        | (refine R_go 9999 rfl rfl (by first | (show _ ∨ _; decide) | (show (_ ∨ _) ∧ (_ ∨ _); decide) | (show (_ ∨ _) ∧ (_ ∨ _) ∧ (_ ∨ _); decide)) ?_)
        | (refine R_go 9999 rfl rfl ?_ ?_))
    exact ⟨A', rfl, rfl, a, b⟩
  rw [if_neg h4]
  have n4 : ¬ nI c = 58 := by (simp only [i_eq, i_lt, i_le, Int32.reduceToInt, true_and, and_true, false_and, and_false, or_false, false_or, or_true, true_or, ne_eq] at *; first | done | omega)
  by_cases h5 : c = 59
  · subst h5
    rw [if_pos rfl]
    repeat' (first
        | (refine R_br rfl rfl (fun hbr => absurd hbr (by first | decide | (with_reducible assumption))) (fun _ => ?_))
        | (refine R_br rfl rfl (fun _ => ?_) (fun hbr => absurd (by first | decide | (with_reducible assumption)) hbr))
        | (refine R_br rfl rfl (fun _ => ?_) (fun _ => ?_))
        | (refine R_ri rfl rfl ?_)
        | (refine R_rz rfl rfl (Or.inl rfl) ?_)
        | (refine R_rz rfl rfl (Or.inr rfl) ?_)
        | (refine R_rz rfl rfl (b2_01 _) ?_)
        | (refine R_rl rfl rfl ?_)
        | (refine R_rv rfl rfl ?_)
        | (refine R_csr rfl (m_isDigitF 59 (by omega) hd _ _) rfl rfl rfl (Nat.le_of_ble_eq_true rfl) rfl ?_)
        | (refine R_csr rfl (m_isFieldLetterF 59 (by omega) hl _ _) rfl rfl rfl (Nat.le_of_ble_eq_true rfl) rfl ?_)
        | (refine R_sw _ rfl rfl rfl ?_)
        | (refine R_go 9999 rfl rfl trivial ?_)
        | (refine R_go 9999 rfl rfl (by first | (show _ ∨ _; decide) | (show (_ ∨ _) ∧ (_ ∨ _); decide) | (show (_ ∨ _) ∧ (_ ∨ _) ∧ (_ ∨ _); decide)) ?_)
        | (refine R_go 9999 rfl rfl ?_ ?_))
    exact ⟨A, rfl, rfl, h, Fi_rf⟩
  rw [if_neg h5]
  have n5 : ¬ nI c = 59 := by (simp only [i_eq, i_lt, i_le, Int32.reduceToInt, true_and, and_true, false_and, and_false, or_false, false_or, or_true, true_or, ne_eq] at *; first | done | omega)
  have hgo : ∀ w least most, c = ltr w → 9 ≤ w ∧ w ≤ 18 → rk w = least → least ≤ 7 → (∀ v, 9 ≤ v → v ≤ 18 → (least ≤ rk v ↔ v ≤ most)) → Rn 3 mtX7_take 0 [some (.inr (.inr (some (4, i)))), some (.inl (nI c)), some (.inl (nI b))] [] (hp A B) (PS i A B (awt most w o)) := by
    intro w least most e1 hw e2 h7 hlm
    have hrk := m_rk w hw A B
    rw [← e1, e2] at hrk
    repeat' (first
        | (refine R_br rfl rfl (fun hbr => absurd hbr (by first | decide | (with_reducible assumption))) (fun _ => ?_))
        | (refine R_br rfl rfl (fun _ => ?_) (fun hbr => absurd (by first | decide | (with_reducible assumption)) hbr))
        | (refine R_br rfl rfl (fun _ => ?_) (fun _ => ?_))
        | (refine R_ri rfl rfl ?_)
        | (refine R_rz rfl rfl (Or.inl rfl) ?_)
        | (refine R_rz rfl rfl (Or.inr rfl) ?_)
        | (refine R_rz rfl rfl (b2_01 _) ?_)
        | (refine R_rl rfl rfl ?_)
        | (refine R_rv rfl rfl ?_)
        | (refine R_csr rfl (m_isDigitF c (by omega) hd _ _) rfl rfl rfl (Nat.le_of_ble_eq_true rfl) rfl ?_)
        | (refine R_csr rfl (m_isFieldLetterF c (by omega) hl _ _) rfl rfl rfl (Nat.le_of_ble_eq_true rfl) rfl ?_)
        | (refine R_csr rfl (hrk) rfl rfl rfl (Nat.le_of_ble_eq_true rfl) rfl ?_)
        | (refine R_cv rfl (m_release least most h7 hlm o h (by omega)) rfl rfl rfl rfl rfl (Nat.le_of_ble_eq_true rfl) rfl ?_)
        | (refine R_sw _ rfl rfl rfl ?_)
        | (refine R_go 9999 rfl rfl trivial ?_)
        | (refine R_go 9999 rfl rfl (by first | (show _ ∨ _; decide) | (show (_ ∨ _) ∧ (_ ∨ _); decide) | (show (_ ∨ _) ∧ (_ ∨ _) ∧ (_ ∨ _); decide)) ?_)
        | (refine R_go 9999 rfl rfl ?_ ?_))
    rintro r h' ⟨A', rfl, rfl, a, b⟩
    have hsz2 := sz_ldn most o
    have hhw := m_holdC (i := i) (n := (ldn most o).2.2.length) (A := A') (B := B) (by simp only [szO] at hsz2 hz; omega) (nI (ltr w)) a.2.2.2.2.2.2.2.1
    rw [← e1] at hhw
    repeat' (first
        | (refine R_br rfl rfl (fun hbr => absurd hbr (by first | decide | (with_reducible assumption))) (fun _ => ?_))
        | (refine R_br rfl rfl (fun _ => ?_) (fun hbr => absurd (by first | decide | (with_reducible assumption)) hbr))
        | (refine R_br rfl rfl (fun _ => ?_) (fun _ => ?_))
        | (refine R_ri rfl rfl ?_)
        | (refine R_rz rfl rfl (Or.inl rfl) ?_)
        | (refine R_rz rfl rfl (Or.inr rfl) ?_)
        | (refine R_rz rfl rfl (b2_01 _) ?_)
        | (refine R_rl rfl rfl ?_)
        | (refine R_rv rfl rfl ?_)
        | (refine R_cvv rfl (hhw) rfl rfl rfl rfl rfl (Nat.le_of_ble_eq_true rfl) rfl ?_)
        | (refine R_sw _ rfl rfl rfl ?_)
        | (refine R_go 9999 rfl rfl trivial ?_)
        | (refine R_go 9999 rfl rfl (by first | (show _ ∨ _; decide) | (show (_ ∨ _) ∧ (_ ∨ _); decide) | (show (_ ∨ _) ∧ (_ ∨ _) ∧ (_ ∨ _); decide)) ?_)
        | (refine R_go 9999 rfl rfl ?_ ?_))
    rw [e1]
    exact ⟨_, rfl, rfl, RSO_push a hw, Fi_tr b (Fi_up (Fi_up Fi_rf (by decide)) (by decide))⟩
  unfold oky at hok
  by_cases h6 : c = 42
  · rw [if_pos h6]; exact hgo 9 6 9 h6 (by decide) rfl (by decide) rk6
  rw [if_neg h6]
  by_cases h7 : c = 43
  · rw [if_pos h7]; exact hgo 10 5 11 h7 (by decide) rfl (by decide) rk5
  rw [if_neg h7]
  by_cases h9 : c = 45
  · rw [if_pos h9]; exact hgo 11 5 11 h9 (by decide) rfl (by decide) rk5
  rw [if_neg h9]
  by_cases h10 : c = 38
  · rw [if_pos h10]; exact hgo 16 2 16 h10 (by decide) rfl (by decide) rk2
  rw [if_neg h10]
  by_cases h11 : c = 124
  · rw [if_pos h11]; exact hgo 17 1 17 h11 (by decide) rfl (by decide) rk1
  rw [if_neg h11]
  rcases (show c = 60 ∨ c = 61 ∨ c = 62 by omega) with z | z | z
  · have := hgo 12 4 14 z (by decide) rfl (by decide) rk4
    rw [z] at this ⊢; exact this
  · have := hgo 13 4 14 z (by decide) rfl (by decide) rk4
    rw [z] at this ⊢; exact this
  · have := hgo 14 4 14 z (by decide) rfl (by decide) rk4
    rw [z] at this ⊢; exact this
