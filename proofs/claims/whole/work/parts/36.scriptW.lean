theorem m_numC {i : Nat} {A : FI} {B : FJ} {l : List Nat} (h1 : al (A 6 i) l) (h2 : A 4 i 4 = nI l.length) (hl : l.length ≤ 80) (k : Nat) (hk : k < l.length) : MV 0 1 mtX7_number [.inr (.inr (some (4, i))), .inl (nI k)] (hp A B) (Ret (some (.inl (nI (l.getD k 0)))) (hp A B)) := by
  have tk := ti k (by omega)
  have tl := ti l.length (by omega)
  have cl : (nI k).toNatClampNeg = k := nI_clamp (by omega)
  refine MV_of caX7_number (L := [some (.inr (.inr (some (4, i)))), some (.inl (nI k))]) rfl rfl ?_
  repeat' (first
      | (refine R_br rfl rfl (fun hbr => absurd hbr (by first | decide | (with_reducible assumption) | (simp only [i_eq, i_lt, i_le, Int32.reduceToInt, ne_eq, up3_self, nI_1, h2]; first | done | omega))) (fun _ => ?_))
      | (refine R_br rfl rfl (fun _ => ?_) (fun hbr => absurd (by first | decide | (with_reducible assumption) | (simp only [i_eq, i_lt, i_le, Int32.reduceToInt, ne_eq, up3_self, nI_1, h2]; first | done | omega)) hbr))
      | (refine R_br rfl rfl (fun _ => ?_) (fun _ => ?_))
      | (refine R_ri rfl rfl ?_)
      | (refine R_rz rfl rfl (Or.inl rfl) ?_)
      | (refine R_rz rfl rfl (Or.inr rfl) ?_)
      | (refine R_rz rfl rfl (b2_01 _) ?_)
      | (refine R_rl rfl rfl ?_)
      | (refine R_rv rfl rfl ?_)
      | (refine R_sw _ rfl rfl rfl ?_)
      | (refine R_go 9999 rfl rfl trivial ?_)
      | (refine R_go 9999 rfl rfl (by first | (show _ ∨ _; decide) | (show (_ ∨ _) ∧ (_ ∨ _); decide) | (show (_ ∨ _) ∧ (_ ∨ _) ∧ (_ ∨ _); decide)) ?_)
      | (refine R_go 9999 rfl rfl ?_ ?_))
  · exact vpN (n := 80) (by omega) rfl
  · rw [cl, h1 k hk]; exact ret_i rfl rfl
theorem m_putNumC {i : Nat} {A : FI} {B : FJ} {n : Nat} (h2 : A 4 i 4 = nI n) (hl : n ≤ 80) (k : Nat) (hk : k < n) (x : Int32) : MV 0 2 mtX7_putNumber [.inr (.inr (some (4, i))), .inl (nI k), .inl x] (hp A B) (Ret none (hp (up3 A 6 i k x) B)) := by
  have tk := ti k (by omega)
  have tl := ti n (by omega)
  have cl : (nI k).toNatClampNeg = k := nI_clamp (by omega)
  refine MV_of caX7_putNumber (L := [some (.inr (.inr (some (4, i)))), some (.inl (nI k)), some (.inl x)]) rfl rfl ?_
  repeat' (first
      | (refine R_br rfl rfl (fun hbr => absurd hbr (by first | decide | (with_reducible assumption) | (simp only [i_eq, i_lt, i_le, Int32.reduceToInt, ne_eq, up3_self, nI_1, h2]; first | done | omega))) (fun _ => ?_))
      | (refine R_br rfl rfl (fun _ => ?_) (fun hbr => absurd (by first | decide | (with_reducible assumption) | (simp only [i_eq, i_lt, i_le, Int32.reduceToInt, ne_eq, up3_self, nI_1, h2]; first | done | omega)) hbr))
      | (refine R_br rfl rfl (fun _ => ?_) (fun _ => ?_))
      | (refine R_ri rfl rfl ?_)
      | (refine R_rz rfl rfl (Or.inl rfl) ?_)
      | (refine R_rz rfl rfl (Or.inr rfl) ?_)
      | (refine R_rz rfl rfl (b2_01 _) ?_)
      | (refine R_rl rfl rfl ?_)
      | (refine R_rv rfl rfl ?_)
      | (refine R_sw _ rfl rfl rfl ?_)
      | (refine R_go 9999 rfl rfl trivial ?_)
      | (refine R_go 9999 rfl rfl (by first | (show _ ∨ _; decide) | (show (_ ∨ _) ∧ (_ ∨ _); decide) | (show (_ ∨ _) ∧ (_ ∨ _) ∧ (_ ∨ _); decide)) ?_)
      | (refine R_go 9999 rfl rfl ?_ ?_))
  · exact vpN (n := 80) (by omega) rfl
  · rw [cl]; exact ret_v rfl
theorem RSO_end {i : Nat} {A : FI} {dn : List (List Tk × Nat)} {cur : List Tk} {s : List Nat} (h : RSO i A (dn, cur, s)) (d : Nat) : RSO i (up3 (up3 (up3 (up3 A 5 i (cdO (dn, cur, s)).length (nI ((if cur = [] then 18 else 16) + d))) 4 i 3 (nI ((cdO (dn, cur, s)).length + 1))) 4 i 6 (nI ((cdO (dn, cur, s)).length + 1))) 4 i 5 (nI (dn.length + 1))) (dn ++ [(cur, d)], [], s) := by
  obtain ⟨a1, a2, a3, a4, a5, a6, a7, a8, a9⟩ := h
  obtain ⟨c1, c2⟩ := cdO_end dn cur s d
  have c3 : encL 0 (dn ++ [(cur, d)]) = cdO (dn, cur, s) ++ [(if cur = [] then 18 else 16) + d] := by
    have : cdO (dn ++ [(cur, d)], [], s) = encL 0 (dn ++ [(cur, d)]) := by simp [cdO, enc]
    rw [← this, c1]
  refine ⟨?_, ?_, ?_, ?_, ?_, ?_, ?_, ?_, a9⟩
  · rw [c1, up3_g (by decide), up3_g (by decide), up3_g (by decide)]; exact al_up a1
  · rw [c1, up3_s (by decide), up3_s (by decide), up3_self]; simp
  · rw [c2, up3_g (by decide), up3_g (by decide), up3_g (by decide), up3_g (by decide)]; exact a3
  · rw [c2, up3_s (by decide), up3_s (by decide), up3_s (by decide), up3_g (by decide)]; exact a4
  · rw [up3_self]; simp
  · rw [c3, up3_s (by decide), up3_self]; simp
  · rw [up3_g (by decide), up3_g (by decide), up3_g (by decide), up3_g (by decide)]; exact a7
  · rw [up3_s (by decide), up3_s (by decide), up3_s (by decide), up3_g (by decide)]; exact a8
theorem RSO_num {i : Nat} {A : FI} {dn : List (List Tk × Nat)} {cur : List Tk} {s : List Nat} (h : RSO i A (dn, cur, s)) (v : Nat) : RSO i (up3 (up3 (up3 (up3 A 6 i (nmO (dn, cur, s)).length (nI v)) 5 i (cdO (dn, cur, s)).length (nI (128 + (nmO (dn, cur, s)).length))) 4 i 3 (nI ((cdO (dn, cur, s)).length + 1))) 4 i 4 (nI ((nmO (dn, cur, s)).length + 1))) (dn, cur ++ [(8, v)], s) := by
  obtain ⟨a1, a2, a3, a4, a5, a6, a7, a8, a9⟩ := h
  obtain ⟨c1, c2⟩ := cdO_nm dn cur s s v
  refine ⟨?_, ?_, ?_, ?_, ?_, ?_, ?_, ?_, a9⟩
  · rw [c1, up3_g (by decide), up3_g (by decide)]
    refine al_upn ?_ rfl
    rw [up3_g (by decide)]; exact a1
  · rw [c1, up3_s (by decide), up3_self]; simp
  · rw [c2, up3_g (by decide), up3_g (by decide), up3_g (by decide)]; exact al_up a3
  · rw [c2, up3_self]; simp
  · rw [up3_s (by decide), up3_s (by decide), up3_g (by decide), up3_g (by decide)]; exact a5
  · rw [up3_s (by decide), up3_s (by decide), up3_g (by decide), up3_g (by decide)]; exact a6
  · rw [up3_g (by decide), up3_g (by decide), up3_g (by decide), up3_g (by decide)]; exact a7
  · rw [up3_s (by decide), up3_s (by decide), up3_g (by decide), up3_g (by decide)]; exact a8
theorem RSO_setn {i : Nat} {A : FI} {dn : List (List Tk × Nat)} {cur : List Tk} {s : List Nat} {v : Nat} (h : RSO i A (dn, cur ++ [(8, v)], s)) (y : Nat) : RSO i (up3 A 6 i (nmO (dn, cur, s)).length (nI y)) (dn, cur ++ [(8, y)], s) := by
  obtain ⟨a1, a2, a3, a4, a5, a6, a7, a8, a9⟩ := h
  obtain ⟨c1, c2⟩ := cdO_nm dn cur s s v
  obtain ⟨d1, d2⟩ := cdO_nm dn cur s s y
  rw [c1] at a1 a2
  rw [c2] at a3 a4
  refine ⟨?_, ?_, ?_, ?_, ?_, ?_, ?_, ?_, a9⟩
  · rw [d1, up3_g (by decide)]; exact a1
  · rw [d1, up3_g (by decide)]; simpa using a2
  · rw [d2]; exact al_set a3 rfl
  · rw [d2, up3_g (by decide)]; simpa using a4
  · rw [up3_g (by decide)]; exact a5
  · rw [up3_g (by decide)]; exact a6
  · rw [up3_g (by decide)]; exact a7
  · rw [up3_g (by decide)]; exact a8
abbrev PS (i : Nat) (A : FI) (B : FJ) (o : Os) : Option AV → AH → Prop := fun r h' => ∃ A', r = none ∧ h' = hp A' B ∧ RSO i A' o ∧ Fi gS i A A'
theorem encL_ne {dn : List (List Tk × Nat)} {cur : List Tk} {s : List Nat} : (cdO (dn, cur, s)).length = (encL 0 dn).length ↔ cur = [] := by
  simp only [cdO, List.length_append, enc_len]
  constructor
  · intro h; exact List.eq_nil_of_length_eq_zero (by omega)
  · rintro rfl; rfl
theorem m_takeDigit {i : Nat} {A : FI} {B : FJ} (d b : Nat) (o : Os) (hd : d ≤ 9) (hb : b ≤ 255) (h : RSO i A o) (hz : szO o + o.1.length < 80) (h8 : 48 ≤ b ∧ b ≤ 57 → b ≠ 58 → ∃ cur' v, o.2.1 = cur' ++ [(8, v)]) : MV 2 2 mtX7_takeDigit [.inr (.inr (some (4, i))), .inl (nI d), .inl (nI b)] (hp A B) (PS i A B (if b = 58 then (o.1 ++ [(o.2.1, d)], [], o.2.2) else if 48 ≤ b ∧ b ≤ 57 then (o.1, setL (d + 48) o.2.1, o.2.2) else lyt o (8, d))) := by
  have tb := ti b (by omega)
  have hk := szK_le o
  have hno := nmO_le o
  have hcl := cdO_len o
  have e3 := h.2.1
  have e4 := h.2.2.2.1
  have e5 := h.2.2.2.2.1
  have e6 := h.2.2.2.2.2.1
  have tc := ti (cdO o).length (by omega)
  have tn := ti (nmO o).length (by omega)
  obtain ⟨dn, cur, s⟩ := o
  dsimp only at hz hk e5 e6 h8 ⊢
  have cll := encL_ne (dn := dn) (cur := cur) (s := s)
  have tl := ti (encL 0 dn).length (by rw [cdO] at tc; simp [cdO] at hk; omega)
  refine MV_of caX7_takeDigit (L := [some (.inr (.inr (some (4, i)))), some (.inl (nI d)), some (.inl (nI b))]) rfl rfl ?_
  by_cases h1 : b = 58
  · subst h1
    rw [if_pos rfl]
    have hre := RSO_end h d
    by_cases hc : cur = []
    · have n1 : A 4 i 3 = A 4 i 6 := by rw [e3, e6, cll.mpr hc]
      repeat' (first
          | (refine R_br rfl rfl (fun hbr => absurd hbr (by first | decide | (with_reducible assumption))) (fun _ => ?_))
          | (refine R_br rfl rfl (fun _ => ?_) (fun hbr => absurd (by first | decide | (with_reducible assumption)) hbr))
          | (refine R_br rfl rfl (fun _ => ?_) (fun _ => ?_))
          | (refine R_ri rfl rfl ?_)
          | (refine R_rz rfl rfl (Or.inl rfl) ?_)
          | (refine R_rz rfl rfl (Or.inr rfl) ?_)
          | (refine R_rz rfl rfl (b2_01 _) ?_)
          | (refine R_rl rfl rfl ?_)
          | (refine R_rv rfl rfl ?_)
          | (rw [show (18 : Int32) + nI d = nI (18 + d) from nI_add 18 d])
          | (refine R_cvv rfl (m_addC (n := (cdO (dn, cur, s)).length) (by omega) _ e3) rfl rfl rfl rfl rfl (Nat.le_of_ble_eq_true rfl) rfl ?_)
          | (refine R_sw _ rfl rfl rfl ?_)
          | (refine R_go 9999 rfl rfl trivial ?_)
          | (refine R_go 9999 rfl rfl (by first | (show _ ∨ _; decide) | (show (_ ∨ _) ∧ (_ ∨ _); decide) | (show (_ ∨ _) ∧ (_ ∨ _) ∧ (_ ∨ _); decide)) ?_)
          | (refine R_go 9999 rfl rfl ?_ ?_))
      rw [up3_self, show ∀ x, up3 (up3 (up3 A 5 i (cdO (dn, cur, s)).length (nI (18 + d))) 4 i 3 (nI ((cdO (dn, cur, s)).length + 1))) 4 i 6 x 4 i 5 = nI dn.length from fun x => by rw [up3_s (by decide), up3_s (by decide), up3_g (by decide)]; exact e5, nI_1]
      rw [if_pos hc] at hre
      exact ⟨_, rfl, rfl, hre, Fi_up (Fi_up (Fi_up (Fi_up Fi_rf (by decide)) (by decide)) (by decide)) (by decide)⟩
    · have n1 : ¬ A 4 i 3 = A 4 i 6 := by rw [e3, e6]; intro z; apply hc; apply cll.mp; (simp only [i_eq, i_lt, i_le, Int32.reduceToInt, true_and, and_true, false_and, and_false, or_false, false_or, or_true, true_or, ne_eq] at *; first | done | omega)
      repeat' (first
          | (refine R_br rfl rfl (fun hbr => absurd hbr (by first | decide | (with_reducible assumption))) (fun _ => ?_))
          | (refine R_br rfl rfl (fun _ => ?_) (fun hbr => absurd (by first | decide | (with_reducible assumption)) hbr))
          | (refine R_br rfl rfl (fun _ => ?_) (fun _ => ?_))
          | (refine R_ri rfl rfl ?_)
          | (refine R_rz rfl rfl (Or.inl rfl) ?_)
          | (refine R_rz rfl rfl (Or.inr rfl) ?_)
          | (refine R_rz rfl rfl (b2_01 _) ?_)
          | (refine R_rl rfl rfl ?_)
          | (refine R_rv rfl rfl ?_)
          | (rw [show (16 : Int32) + nI d = nI (16 + d) from nI_add 16 d])
          | (refine R_cvv rfl (m_addC (n := (cdO (dn, cur, s)).length) (by omega) _ e3) rfl rfl rfl rfl rfl (Nat.le_of_ble_eq_true rfl) rfl ?_)
          | (refine R_sw _ rfl rfl rfl ?_)
          | (refine R_go 9999 rfl rfl trivial ?_)
          | (refine R_go 9999 rfl rfl (by first | (show _ ∨ _; decide) | (show (_ ∨ _) ∧ (_ ∨ _); decide) | (show (_ ∨ _) ∧ (_ ∨ _) ∧ (_ ∨ _); decide)) ?_)
          | (refine R_go 9999 rfl rfl ?_ ?_))
      rw [up3_self, show ∀ x, up3 (up3 (up3 A 5 i (cdO (dn, cur, s)).length (nI (16 + d))) 4 i 3 (nI ((cdO (dn, cur, s)).length + 1))) 4 i 6 x 4 i 5 = nI dn.length from fun x => by rw [up3_s (by decide), up3_s (by decide), up3_g (by decide)]; exact e5, nI_1]
      rw [if_neg hc] at hre
      exact ⟨_, rfl, rfl, hre, Fi_up (Fi_up (Fi_up (Fi_up Fi_rf (by decide)) (by decide)) (by decide)) (by decide)⟩
  · rw [if_neg h1]
    have n1 : ¬ nI b = 58 := by (simp only [i_eq, i_lt, i_le, Int32.reduceToInt, true_and, and_true, false_and, and_false, or_false, false_or, or_true, true_or, ne_eq] at *; first | done | omega)
    by_cases h2 : 48 ≤ b ∧ b ≤ 57
    · rw [if_pos h2]
      obtain ⟨cur', v, e1⟩ := h8 h2 h1
      subst e1
      obtain ⟨c1, c2⟩ := cdO_nm dn cur' s s v
      have e4' : A 4 i 4 - 1 = nI (nmO (dn, cur', s)).length := by rw [e4, c2, List.length_append]; exact nI_pred _
      have hlt : (nmO (dn, cur', s)).length < (nmO (dn, cur' ++ [(8, v)], s)).length := by rw [c2]; simp
      have hgd : (nmO (dn, cur' ++ [(8, v)], s)).getD (nmO (dn, cur', s)).length 0 = v := by rw [c2]; exact gd_e
      have hnum := m_numC (B := B) h.2.2.1 e4 (by omega) (nmO (dn, cur', s)).length hlt
      rw [hgd] at hnum
      repeat' (first
          | (refine R_br rfl rfl (fun hbr => absurd hbr (by first | decide | (with_reducible assumption))) (fun _ => ?_))
          | (refine R_br rfl rfl (fun _ => ?_) (fun hbr => absurd (by first | decide | (with_reducible assumption)) hbr))
          | (refine R_br rfl rfl (fun _ => ?_) (fun _ => ?_))
          | (refine R_ri rfl rfl ?_)
          | (refine R_rz rfl rfl (Or.inl rfl) ?_)
          | (refine R_rz rfl rfl (Or.inr rfl) ?_)
          | (refine R_rz rfl rfl (b2_01 _) ?_)
          | (refine R_rl rfl rfl ?_)
          | (refine R_rv rfl rfl ?_)
          | (rw [e4'])
          | (refine R_csr rfl (m_isDigitT b h2 _ _) rfl rfl rfl (Nat.le_of_ble_eq_true rfl) rfl ?_)
          | (refine R_cvr rfl (hnum) rfl rfl rfl rfl rfl (Nat.le_of_ble_eq_true rfl) rfl ?_)
          | (rw [show (10 : Int32) * nI v = nI (10 * v) from pk_mul 10 v])
          | (rw [nI_add])
          | (refine R_cvv rfl (m_putNumC e4 (by omega) (nmO (dn, cur', s)).length hlt _) rfl rfl rfl rfl rfl (Nat.le_of_ble_eq_true rfl) rfl ?_)
          | (refine R_sw _ rfl rfl rfl ?_)
          | (refine R_go 9999 rfl rfl trivial ?_)
          | (refine R_go 9999 rfl rfl (by first | (show _ ∨ _; decide) | (show (_ ∨ _) ∧ (_ ∨ _); decide) | (show (_ ∨ _) ∧ (_ ∨ _) ∧ (_ ∨ _); decide)) ?_)
          | (refine R_go 9999 rfl rfl ?_ ?_))
      rw [setL_e]
      exact ⟨_, rfl, rfl, RSO_setn h _, Fi_up Fi_rf (by decide)⟩
    · rw [if_neg h2]
      have cl : (nI (nmO (dn, cur, s)).length).toNatClampNeg = (nmO (dn, cur, s)).length := nI_clamp (by omega)
      have f1 : ∀ x, up3 A 6 i (nmO (dn, cur, s)).length x 4 i 4 = nI (nmO (dn, cur, s)).length := fun x => by rw [up3_g (by decide)]; exact e4
      have f2 : ∀ x, up3 A 6 i (nmO (dn, cur, s)).length x 4 i 3 = nI (cdO (dn, cur, s)).length := fun x => by rw [up3_g (by decide)]; exact e3
      refine R_go 9999 rfl rfl trivial ?_
      refine R_br rfl rfl (fun h => absurd h n1) (fun _ => ?_)
      refine R_go 9999 rfl rfl trivial ?_
      refine R_csr rfl (m_isDigitF b (by omega) h2 _ _) rfl rfl rfl (Nat.le_of_ble_eq_true rfl) rfl ?_
      refine R_br rfl rfl (fun _ => ?_) (fun h => absurd rfl h)
      refine R_go 9999 rfl rfl trivial ?_
      refine R_br rfl rfl (fun h => absurd h (by rw [e4]; (simp only [i_eq, i_lt, i_le, Int32.reduceToInt, true_and, and_true, false_and, and_false, or_false, false_or, or_true, true_or, ne_eq] at *; first | done | omega))) (fun _ => ?_)
      refine R_go 9999 rfl rfl (by rw [e4]; exact vpN (n := 80) (by omega) rfl) ?_
      rw [e4, cl, f1, show (128 : Int32) + nI (nmO (dn, cur, s)).length = nI (128 + (nmO (dn, cur, s)).length) from nI_add 128 _]
      repeat' (first
          | (refine R_br rfl rfl (fun hbr => absurd hbr (by first | decide | (with_reducible assumption))) (fun _ => ?_))
          | (refine R_br rfl rfl (fun _ => ?_) (fun hbr => absurd (by first | decide | (with_reducible assumption)) hbr))
          | (refine R_br rfl rfl (fun _ => ?_) (fun _ => ?_))
          | (refine R_ri rfl rfl ?_)
          | (refine R_rz rfl rfl (Or.inl rfl) ?_)
          | (refine R_rz rfl rfl (Or.inr rfl) ?_)
          | (refine R_rz rfl rfl (b2_01 _) ?_)
          | (refine R_rl rfl rfl ?_)
          | (refine R_rv rfl rfl ?_)
          | (refine R_cvv rfl (m_addC (n := (cdO (dn, cur, s)).length) (by omega) _ (f2 _)) rfl rfl rfl rfl rfl (Nat.le_of_ble_eq_true rfl) rfl ?_)
          | (refine R_sw _ rfl rfl rfl ?_)
          | (refine R_go 9999 rfl rfl trivial ?_)
          | (refine R_go 9999 rfl rfl (by first | (show _ ∨ _; decide) | (show (_ ∨ _) ∧ (_ ∨ _); decide) | (show (_ ∨ _) ∧ (_ ∨ _) ∧ (_ ∨ _); decide)) ?_)
          | (refine R_go 9999 rfl rfl ?_ ?_))
      rw [show up3 (up3 (up3 A 6 i (nmO (dn, cur, s)).length (nI d)) 5 i (cdO (dn, cur, s)).length (nI (128 + (nmO (dn, cur, s)).length))) 4 i 3 (nI ((cdO (dn, cur, s)).length + 1)) 4 i 4 = nI (nmO (dn, cur, s)).length from by rw [up3_s (by decide), up3_g (by decide)]; exact f1 _, nI_1]
      exact ⟨_, rfl, rfl, RSO_num h d, Fi_up (Fi_up (Fi_up (Fi_up Fi_rf (by decide)) (by decide)) (by decide)) (by decide)⟩
