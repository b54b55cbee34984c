/-- of the object g0 nothing but these fields changed, of other groups nothing but these -/
def FmO (g0 : Nat) (gs ss : List Nat) (A A' : FI) : Prop := (∀ g, g ≠ g0 → g ∉ gs → A' g = A g) ∧ ∀ s, s ∉ ss → A' g0 0 s = A g0 0 s
theorem FmO_rf {g0 : Nat} {gs ss : List Nat} {A : FI} : FmO g0 gs ss A A := ⟨fun _ _ _ => rfl, fun _ _ => rfl⟩
theorem FmO_tr {g0 : Nat} {gs ss : List Nat} {A A1 A2 : FI} (a : FmO g0 gs ss A A1) (b : FmO g0 gs ss A1 A2) : FmO g0 gs ss A A2 := ⟨fun g h1 h2 => (b.1 g h1 h2).trans (a.1 g h1 h2), fun s h => (b.2 s h).trans (a.2 s h)⟩
theorem FmO_up {g0 : Nat} {gs ss : List Nat} {A A1 : FI} {s : Nat} {x : Int32} (a : FmO g0 gs ss A A1) (h : s ∈ ss) : FmO g0 gs ss A (up3 A1 g0 0 s x) := FmO_tr a ⟨fun g h1 _ => up3_g h1, fun s' hs => up3_s (fun e => hs (e ▸ h))⟩
theorem FmO_ug {g0 : Nat} {gs ss : List Nat} {A A1 : FI} {g i s : Nat} {x : Int32} (a : FmO g0 gs ss A A1) (h : g ∈ gs) (h0 : g ≠ g0) : FmO g0 gs ss A (up3 A1 g i s x) := FmO_tr a ⟨fun g' _ hg => up3_g (fun e => hg (e ▸ h)), fun s' _ => by rw [up3_g (fun e => h0 e.symm)]⟩
theorem m_isDigit (c : Nat) (hc : c ≤ 1000) (A : FI) (B : FJ) : MS 0 1 mtX11_isDigit [.inl (nI c)] (hp A B) (Ret (some (.inl (b2 (48 ≤ c ∧ c ≤ 57)))) (hp A B)) := by
  have t0 := ti c (by omega)
  refine MS_of caX11_isDigit (L := [some (.inl (nI c))]) rfl rfl ?_
  repeat' (first
      | (refine R_br rfl rfl (fun h => absurd h (by first | decide | (with_reducible assumption))) (fun _ => ?_))
      | (refine R_br rfl rfl (fun _ => ?_) (fun h => absurd (by first | decide | (with_reducible assumption)) h))
      | (refine R_br rfl rfl (fun _ => ?_) (fun _ => ?_))
      | (refine R_ri rfl rfl ?_)
      | (refine R_rz rfl rfl (Or.inl rfl) ?_)
      | (refine R_rz rfl rfl (Or.inr rfl) ?_)
      | (refine R_rz rfl rfl (b2_01 _) ?_)
      | (refine R_rl rfl rfl ?_)
      | (refine R_rv rfl rfl ?_)
      | (refine R_sw _ rfl rfl rfl ?_)
      | (refine R_go 9999 rfl rfl trivial ?_)
      | (refine R_go 9999 rfl rfl (by first | (show _ ∨ _; decide) | (show (_ ∨ _) ∧ (_ ∨ _); decide) | (show (_ ∨ _) ∧ (_ ∨ _) ∧ (_ ∨ _); decide)) ?_)
      | (refine R_go 9999 rfl rfl ?_ ?_))
  all_goals first | exact ret_y (by (simp only [i_eq, i_lt, i_le, Int32.reduceToInt, true_and, and_true, false_and, and_false, or_false, false_or, or_true, true_or, ne_eq] at *; first | done | omega)) rfl | exact ret_n (by (simp only [i_eq, i_lt, i_le, Int32.reduceToInt, true_and, and_true, false_and, and_false, or_false, false_or, or_true, true_or, ne_eq] at *; first | done | omega)) rfl
theorem m_isDigitT (c : Nat) (h : 48 ≤ c ∧ c ≤ 57) (A : FI) (B : FJ) : MS 0 1 mtX11_isDigit [.inl (nI c)] (hp A B) (Ret (some (.inl 1)) (hp A B)) := by
  have := m_isDigit c (by omega) A B
  rwa [b2_1 h] at this
theorem m_isDigitF (c : Nat) (hc : c ≤ 1000) (h : ¬ (48 ≤ c ∧ c ≤ 57)) (A : FI) (B : FJ) : MS 0 1 mtX11_isDigit [.inl (nI c)] (hp A B) (Ret (some (.inl 0)) (hp A B)) := by
  have := m_isDigit c hc A B
  rwa [b2_0 h] at this
theorem m_isFieldLetter (c : Nat) (hc : c ≤ 1000) (A : FI) (B : FJ) : MS 0 1 mtX11_isFieldLetter [.inl (nI c)] (hp A B) (Ret (some (.inl (b2 (97 ≤ c ∧ c ≤ 104)))) (hp A B)) := by
  have t0 := ti c (by omega)
  refine MS_of caX11_isFieldLetter (L := [some (.inl (nI c))]) rfl rfl ?_
  repeat' (first
      | (refine R_br rfl rfl (fun h => absurd h (by first | decide | (with_reducible assumption))) (fun _ => ?_))
      | (refine R_br rfl rfl (fun _ => ?_) (fun h => absurd (by first | decide | (with_reducible assumption)) h))
      | (refine R_br rfl rfl (fun _ => ?_) (fun _ => ?_))
      | (refine R_ri rfl rfl ?_)
      | (refine R_rz rfl rfl (Or.inl rfl) ?_)
      | (refine R_rz rfl rfl (Or.inr rfl) ?_)
      | (refine R_rz rfl rfl (b2_01 _) ?_)
      | (refine R_rl rfl rfl ?_)
      | (refine R_rv rfl rfl ?_)
      | (refine R_sw _ rfl rfl rfl ?_)
      | (refine R_go 9999 rfl rfl trivial ?_)
      | (refine R_go 9999 rfl rfl (by first | (show _ ∨ _; decide) | (show (_ ∨ _) ∧ (_ ∨ _); decide) | (show (_ ∨ _) ∧ (_ ∨ _) ∧ (_ ∨ _); decide)) ?_)
      | (refine R_go 9999 rfl rfl ?_ ?_))
  all_goals first | exact ret_y (by (simp only [i_eq, i_lt, i_le, Int32.reduceToInt, true_and, and_true, false_and, and_false, or_false, false_or, or_true, true_or, ne_eq] at *; first | done | omega)) rfl | exact ret_n (by (simp only [i_eq, i_lt, i_le, Int32.reduceToInt, true_and, and_true, false_and, and_false, or_false, false_or, or_true, true_or, ne_eq] at *; first | done | omega)) rfl
theorem m_isFieldLetterT (c : Nat) (h : 97 ≤ c ∧ c ≤ 104) (A : FI) (B : FJ) : MS 0 1 mtX11_isFieldLetter [.inl (nI c)] (hp A B) (Ret (some (.inl 1)) (hp A B)) := by
  have := m_isFieldLetter c (by omega) A B
  rwa [b2_1 h] at this
theorem m_isFieldLetterF (c : Nat) (hc : c ≤ 1000) (h : ¬ (97 ≤ c ∧ c ≤ 104)) (A : FI) (B : FJ) : MS 0 1 mtX11_isFieldLetter [.inl (nI c)] (hp A B) (Ret (some (.inl 0)) (hp A B)) := by
  have := m_isFieldLetter c hc A B
  rwa [b2_0 h] at this
theorem m_isComparison (c : Nat) (hc : c ≤ 1000) (A : FI) (B : FJ) : MS 0 1 mtX11_isComparison [.inl (nI c)] (hp A B) (Ret (some (.inl (b2 (60 ≤ c ∧ c ≤ 62)))) (hp A B)) := by
  have t0 := ti c (by omega)
  refine MS_of caX11_isComparison (L := [some (.inl (nI c))]) rfl rfl ?_
  repeat' (first
      | (refine R_br rfl rfl (fun h => absurd h (by first | decide | (with_reducible assumption))) (fun _ => ?_))
      | (refine R_br rfl rfl (fun _ => ?_) (fun h => absurd (by first | decide | (with_reducible assumption)) h))
      | (refine R_br rfl rfl (fun _ => ?_) (fun _ => ?_))
      | (refine R_ri rfl rfl ?_)
      | (refine R_rz rfl rfl (Or.inl rfl) ?_)
      | (refine R_rz rfl rfl (Or.inr rfl) ?_)
      | (refine R_rz rfl rfl (b2_01 _) ?_)
      | (refine R_rl rfl rfl ?_)
      | (refine R_rv rfl rfl ?_)
      | (refine R_sw _ rfl rfl rfl ?_)
      | (refine R_go 9999 rfl rfl trivial ?_)
      | (refine R_go 9999 rfl rfl (by first | (show _ ∨ _; decide) | (show (_ ∨ _) ∧ (_ ∨ _); decide) | (show (_ ∨ _) ∧ (_ ∨ _) ∧ (_ ∨ _); decide)) ?_)
      | (refine R_go 9999 rfl rfl ?_ ?_))
  all_goals first | exact ret_y (by (simp only [i_eq, i_lt, i_le, Int32.reduceToInt, true_and, and_true, false_and, and_false, or_false, false_or, or_true, true_or, ne_eq] at *; first | done | omega)) rfl | exact ret_n (by (simp only [i_eq, i_lt, i_le, Int32.reduceToInt, true_and, and_true, false_and, and_false, or_false, false_or, or_true, true_or, ne_eq] at *; first | done | omega)) rfl
theorem m_isComparisonT (c : Nat) (h : 60 ≤ c ∧ c ≤ 62) (A : FI) (B : FJ) : MS 0 1 mtX11_isComparison [.inl (nI c)] (hp A B) (Ret (some (.inl 1)) (hp A B)) := by
  have := m_isComparison c (by omega) A B
  rwa [b2_1 h] at this
theorem m_isComparisonF (c : Nat) (hc : c ≤ 1000) (h : ¬ (60 ≤ c ∧ c ≤ 62)) (A : FI) (B : FJ) : MS 0 1 mtX11_isComparison [.inl (nI c)] (hp A B) (Ret (some (.inl 0)) (hp A B)) := by
  have := m_isComparison c hc A B
  rwa [b2_0 h] at this
theorem m_goesOn (x : Int32) (A : FI) (B : FJ) : MV 0 1 mtX5_goesOn [.inr (.inr (some (8, 0))), .inl x] (hp A B) (Ret (some (.inl 1)) (hp (up3 A 8 0 3 x) B)) := by
  refine MV_of caX5_goesOn (L := [some (.inr (.inr (some (8, 0)))), some (.inl x)]) rfl rfl ?_
  repeat' (first
      | (refine R_br rfl rfl (fun h => absurd h (by first | decide | (with_reducible assumption))) (fun _ => ?_))
      | (refine R_br rfl rfl (fun _ => ?_) (fun h => absurd (by first | decide | (with_reducible assumption)) h))
      | (refine R_br rfl rfl (fun _ => ?_) (fun _ => ?_))
      | (refine R_ri rfl rfl ?_)
      | (refine R_rz rfl rfl (Or.inl rfl) ?_)
      | (refine R_rz rfl rfl (Or.inr rfl) ?_)
      | (refine R_rz rfl rfl (b2_01 _) ?_)
      | (refine R_rl rfl rfl ?_)
      | (refine R_rv rfl rfl ?_)
      | (refine R_sw _ rfl rfl rfl ?_)
      | (refine R_go 9999 rfl rfl trivial ?_)
      | (refine R_go 9999 rfl rfl (by first | (show _ ∨ _; decide) | (show (_ ∨ _) ∧ (_ ∨ _); decide) | (show (_ ∨ _) ∧ (_ ∨ _) ∧ (_ ∨ _); decide)) ?_)
      | (refine R_go 9999 rfl rfl ?_ ?_))
  exact ret_i rfl rfl
/-- how far the letters go, as the Page holds it -/
def RPC (A : FI) (sort : Nat) (k : Ct) : Prop := A 8 0 2 = nI sort ∧ A 8 0 3 = nI k.1 ∧ A 8 0 4 = nI k.2.1 ∧ A 8 0 5 = nI k.2.2.1 ∧ A 8 0 6 = bI k.2.2.2.1 ∧ A 8 0 7 = bI (decide (sort = 0) && !k.2.2.2.2.1) ∧ A 8 0 8 = bI k.2.2.2.2.2
def okC (sort : Nat) (k : Ct) : Prop := sort ≤ 1 ∧ k.1 ≤ 7 ∧ k.2.2.1 ≤ 3 ∧ (5 ≤ k.1 → sort = 0)
def PC (A : FI) (B : FJ) (sort : Nat) (o : Option Ct) : Option AV → AH → Prop := fun r h' => ∃ A', h' = hp A' B ∧ FmO 8 [] [2, 3, 4, 5, 6, 7, 8] A A' ∧ (match o with
  | none => r = some (.inl 0)
  | some k' => r = some (.inl 1) ∧ RPC A' sort k')
theorem PC_n {A A' : FI} {B : FJ} {sort : Nat} (h : FmO 8 [] [2, 3, 4, 5, 6, 7, 8] A A') : PC A B sort none (some (.inl 0)) (hp A' B) := ⟨A', rfl, h, rfl⟩
theorem PC_y {A A' : FI} {B : FJ} {sort : Nat} {k : Ct} (h : FmO 8 [] [2, 3, 4, 5, 6, 7, 8] A A') (h2 : RPC A' sort k) : PC A B sort (some k) (some (.inl 1)) (hp A' B) := ⟨A', rfl, h, rfl, h2⟩
theorem PC_tr {A A1 : FI} {B : FJ} {sort : Nat} {o : Option Ct} {r : Option AV} {h' : AH} (h : FmO 8 [] [2, 3, 4, 5, 6, 7, 8] A A1) (k : PC A1 B sort o r h') : PC A B sort o r h' := by
  obtain ⟨A', a, b, c⟩ := k
  exact ⟨A', a, FmO_tr h b, c⟩
/-- what a call answered, is answered -/
theorem R_tb {d : Nat} {mt : MI} {pc nx tg : Nat} {k0 : Int32} {L : List (Option AV)} {A1 : FI} {B : FJ} {sort : Nat} {o : Option Ct} {Q : Option AV → AH → Prop} (hp' : mt.2.2 pc = some (.ireturn, 1, nx, tg, k0)) (hr : mt.1.2.2.2 = some .boolean) (hq : ∀ r h', PC A1 B sort o r h' → Q r h') : ∀ r h', PC A1 B sort o r h' → Rn d mt pc L (r.toList ++ []) h' Q := by
  intro r h' hk
  have hk0 := hq r h' hk
  obtain ⟨A', a, b, c⟩ := hk
  cases o with
  | none => subst c; exact R_rz hp' hr (Or.inl rfl) hk0
  | some k' => obtain ⟨rfl, -⟩ := c; exact R_rz hp' hr (Or.inr rfl) hk0
theorem m_takesUnit {A : FI} {B : FJ} (sort c st dep un : Nat) (rt bg ls : Bool) (hc : c ≤ 255) (h : RPC A sort (st, dep, un, rt, bg, ls)) : MV 1 1 mtX5_takesUnit [.inr (.inr (some (8, 0))), .inl (nI c)] (hp A B) (PC A B sort (uC c dep un rt bg ls)) := by
  obtain ⟨e2, e3, e4, e5, e6, e7, e8⟩ := h
  dsimp only at e3 e4 e5 e6 e7 e8
  refine MV_of caX5_takesUnit (L := [some (.inr (.inr (some (8, 0)))), some (.inl (nI c))]) rfl rfl ?_
  unfold uC
  by_cases hd : 48 ≤ c ∧ c ≤ 57
  · rw [if_pos hd]
    repeat' (first
        | (refine R_br rfl rfl (fun h => absurd h (by first | decide | (with_reducible assumption))) (fun _ => ?_))
        | (refine R_br rfl rfl (fun _ => ?_) (fun h => absurd (by first | decide | (with_reducible assumption)) h))
        | (refine R_br rfl rfl (fun _ => ?_) (fun _ => ?_))
        | (refine R_ri rfl rfl ?_)
        | (refine R_rz rfl rfl (Or.inl rfl) ?_)
        | (refine R_rz rfl rfl (Or.inr rfl) ?_)
        | (refine R_rz rfl rfl (b2_01 _) ?_)
        | (refine R_rl rfl rfl ?_)
        | (refine R_rv rfl rfl ?_)
        | (refine R_csr rfl (m_isDigitT c hd _ _) rfl rfl rfl (Nat.le_of_ble_eq_true rfl) rfl ?_)
        | (refine R_cvr rfl (m_goesOn _ _ _) rfl rfl rfl rfl rfl (Nat.le_of_ble_eq_true rfl) rfl ?_)
        | (refine R_sw _ rfl rfl rfl ?_)
        | (refine R_go 9999 rfl rfl trivial ?_)
        | (refine R_go 9999 rfl rfl (by first | (show _ ∨ _; decide) | (show (_ ∨ _) ∧ (_ ∨ _); decide) | (show (_ ∨ _) ∧ (_ ∨ _) ∧ (_ ∨ _); decide)) ?_)
        | (refine R_go 9999 rfl rfl ?_ ?_))
    exact PC_y (by first | exact FmO_rf | (repeat' (first | exact FmO_rf | (with_reducible assumption) | (refine FmO_up ?_ (by decide)) | (refine FmO_ug ?_ (by decide) (by decide))))) ⟨by simp [up3, e2], by simp [up3]; rfl, by simp [up3, e4], by simp [up3, e5], by simp [up3, e6], by simp [up3, e7], by simp [up3, e8]⟩
  · rw [if_neg hd]
    by_cases hl : 97 ≤ c ∧ c ≤ 104
    · rw [if_pos hl]
      repeat' (first
          | (refine R_br rfl rfl (fun h => absurd h (by first | decide | (with_reducible assumption))) (fun _ => ?_))
          | (refine R_br rfl rfl (fun _ => ?_) (fun h => absurd (by first | decide | (with_reducible assumption)) h))
          | (refine R_br rfl rfl (fun _ => ?_) (fun _ => ?_))
          | (refine R_ri rfl rfl ?_)
          | (refine R_rz rfl rfl (Or.inl rfl) ?_)
          | (refine R_rz rfl rfl (Or.inr rfl) ?_)
          | (refine R_rz rfl rfl (b2_01 _) ?_)
          | (refine R_rl rfl rfl ?_)
          | (refine R_rv rfl rfl ?_)
          | (refine R_csr rfl (m_isDigitF c (by omega) hd _ _) rfl rfl rfl (Nat.le_of_ble_eq_true rfl) rfl ?_)
          | (refine R_csr rfl (m_isFieldLetterT c hl _ _) rfl rfl rfl (Nat.le_of_ble_eq_true rfl) rfl ?_)
          | (refine R_cvr rfl (m_goesOn _ _ _) rfl rfl rfl rfl rfl (Nat.le_of_ble_eq_true rfl) rfl ?_)
          | (refine R_sw _ rfl rfl rfl ?_)
          | (refine R_go 9999 rfl rfl trivial ?_)
          | (refine R_go 9999 rfl rfl (by first | (show _ ∨ _; decide) | (show (_ ∨ _) ∧ (_ ∨ _); decide) | (show (_ ∨ _) ∧ (_ ∨ _) ∧ (_ ∨ _); decide)) ?_)
          | (refine R_go 9999 rfl rfl ?_ ?_))
      exact PC_y (by first | exact FmO_rf | (repeat' (first | exact FmO_rf | (with_reducible assumption) | (refine FmO_up ?_ (by decide)) | (refine FmO_ug ?_ (by decide) (by decide))))) ⟨by simp [up3, e2], by simp [up3]; rfl, by simp [up3, e4], by simp [up3, e5], by simp [up3, e6], by simp [up3, e7], by simp [up3, e8]⟩
    · rw [if_neg hl]
      repeat' (first
          | (refine R_br rfl rfl (fun h => absurd h (by first | decide | (with_reducible assumption))) (fun _ => ?_))
          | (refine R_br rfl rfl (fun _ => ?_) (fun h => absurd (by first | decide | (with_reducible assumption)) h))
          | (refine R_br rfl rfl (fun _ => ?_) (fun _ => ?_))
          | (refine R_ri rfl rfl ?_)
          | (refine R_rz rfl rfl (Or.inl rfl) ?_)
          | (refine R_rz rfl rfl (Or.inr rfl) ?_)
          | (refine R_rz rfl rfl (b2_01 _) ?_)
          | (refine R_rl rfl rfl ?_)
          | (refine R_rv rfl rfl ?_)
          | (refine R_csr rfl (m_isDigitF c (by omega) hd _ _) rfl rfl rfl (Nat.le_of_ble_eq_true rfl) rfl ?_)
          | (refine R_csr rfl (m_isFieldLetterF c (by omega) hl _ _) rfl rfl rfl (Nat.le_of_ble_eq_true rfl) rfl ?_)
          | (refine R_sw _ rfl rfl rfl ?_)
          | (refine R_go 9999 rfl rfl trivial ?_)
          | (refine R_go 9999 rfl rfl (by first | (show _ ∨ _; decide) | (show (_ ∨ _) ∧ (_ ∨ _); decide) | (show (_ ∨ _) ∧ (_ ∨ _) ∧ (_ ∨ _); decide)) ?_)
          | (refine R_go 9999 rfl rfl ?_ ?_))
      exact PC_n (by first | exact FmO_rf | (repeat' (first | exact FmO_rf | (with_reducible assumption) | (refine FmO_up ?_ (by decide)) | (refine FmO_ug ?_ (by decide) (by decide)))))
theorem m_takesBehindFactor {A : FI} {B : FJ} (sort c st dep un : Nat) (rt bg ls : Bool) (hc : c ≤ 255) (hs : sort ≤ 1) (hd : dep ≤ 80) (h : RPC A sort (st, dep, un, rt, bg, ls)) : MV 1 1 mtX5_takesBehindFactor [.inr (.inr (some (8, 0))), .inl (nI c)] (hp A B) (PC A B sort (oC sort c dep un rt bg ls)) := by
  obtain ⟨e2, e3, e4, e5, e6, e7, e8⟩ := h
  dsimp only at e3 e4 e5 e6 e7 e8
  have tc := ti c (by omega)
  have td := ti dep (by omega)
  have ts := ti sort (by omega)
  refine MV_of caX5_takesBehindFactor (L := [some (.inr (.inr (some (8, 0)))), some (.inl (nI c))]) rfl rfl ?_
  unfold oC
  by_cases h1 : c = 38 ∨ c = 124
  · rw [if_pos h1]
    rcases h1 with rfl | rfl
    all_goals
      repeat' (first
          | (refine R_br rfl rfl (fun h => absurd h (by first | decide | (with_reducible assumption))) (fun _ => ?_))
          | (refine R_br rfl rfl (fun _ => ?_) (fun h => absurd (by first | decide | (with_reducible assumption)) h))
          | (refine R_br rfl rfl (fun _ => ?_) (fun _ => ?_))
          | (refine R_ri rfl rfl ?_)
          | (refine R_rz rfl rfl (Or.inl rfl) ?_)
          | (refine R_rz rfl rfl (Or.inr rfl) ?_)
          | (refine R_rz rfl rfl (b2_01 _) ?_)
          | (refine R_rl rfl rfl ?_)
          | (refine R_rv rfl rfl ?_)
          | (refine R_cvr rfl (m_goesOn _ _ _) rfl rfl rfl rfl rfl (Nat.le_of_ble_eq_true rfl) rfl ?_)
          | (refine R_sw _ rfl rfl rfl ?_)
          | (refine R_go 9999 rfl rfl trivial ?_)
          | (refine R_go 9999 rfl rfl (by first | (show _ ∨ _; decide) | (show (_ ∨ _) ∧ (_ ∨ _); decide) | (show (_ ∨ _) ∧ (_ ∨ _) ∧ (_ ∨ _); decide)) ?_)
          | (refine R_go 9999 rfl rfl ?_ ?_))
    all_goals exact PC_y (by first | exact FmO_rf | (repeat' (first | exact FmO_rf | (with_reducible assumption) | (refine FmO_up ?_ (by decide)) | (refine FmO_ug ?_ (by decide) (by decide))))) ⟨by simp [up3, e2], by simp [up3]; rfl, by simp [up3, e4], by simp [up3, e5], by simp [up3, e6], by simp [up3, e7], by simp [up3, e8]⟩
  · rw [if_neg h1]
    have n1 : ¬ nI c = 38 := by (simp only [i_eq, i_lt, i_le, Int32.reduceToInt, true_and, and_true, false_and, and_false, or_false, false_or, or_true, true_or, ne_eq] at *; first | done | omega)
    have n2 : ¬ nI c = 124 := by (simp only [i_eq, i_lt, i_le, Int32.reduceToInt, true_and, and_true, false_and, and_false, or_false, false_or, or_true, true_or, ne_eq] at *; first | done | omega)
    by_cases h2 : c = 41
    · subst h2
      rw [if_pos rfl]
      by_cases h3 : 0 < dep
      · rw [if_pos h3]
        obtain ⟨d', rfl⟩ : ∃ d', dep = d' + 1 := ⟨dep - 1, by omega⟩
        have td' := ti d' (by omega)
        have e4' : A 8 0 4 - 1 = nI d' := by rw [e4, nI_pred]
        repeat' (first
            | (refine R_br rfl rfl (fun h => absurd h (by first | decide | (with_reducible assumption) | (simp only [i_eq, i_lt, i_le, Int32.reduceToInt, ne_eq, up3_self, nI_1, e4']; first | done | omega))) (fun _ => ?_))
            | (refine R_br rfl rfl (fun _ => ?_) (fun h => absurd (by first | decide | (with_reducible assumption) | (simp only [i_eq, i_lt, i_le, Int32.reduceToInt, ne_eq, up3_self, nI_1, e4']; first | done | omega)) h))
            | (refine R_br rfl rfl (fun _ => ?_) (fun _ => ?_))
            | (refine R_ri rfl rfl ?_)
            | (refine R_rz rfl rfl (Or.inl rfl) ?_)
            | (refine R_rz rfl rfl (Or.inr rfl) ?_)
            | (refine R_rz rfl rfl (b2_01 _) ?_)
            | (refine R_rl rfl rfl ?_)
            | (refine R_rv rfl rfl ?_)
            | (refine R_cvr rfl (m_goesOn _ _ _) rfl rfl rfl rfl rfl (Nat.le_of_ble_eq_true rfl) rfl ?_)
            | (refine R_sw _ rfl rfl rfl ?_)
            | (refine R_go 9999 rfl rfl trivial ?_)
            | (refine R_go 9999 rfl rfl (by first | (show _ ∨ _; decide) | (show (_ ∨ _) ∧ (_ ∨ _); decide) | (show (_ ∨ _) ∧ (_ ∨ _) ∧ (_ ∨ _); decide)) ?_)
            | (refine R_go 9999 rfl rfl ?_ ?_))
        exact PC_y (by first | exact FmO_rf | (repeat' (first | exact FmO_rf | (with_reducible assumption) | (refine FmO_up ?_ (by decide)) | (refine FmO_ug ?_ (by decide) (by decide))))) ⟨by simp [up3, e2], by simp [up3]; rfl, by simp [up3, e4'], by simp [up3, e5], by simp [up3, e6], by simp [up3, e7], by simp [up3, e8]⟩
      · rw [if_neg h3]
        have : dep = 0 := by omega
        subst this
        have e4' : A 8 0 4 - 1 = -1 := by rw [e4]; rfl
        repeat' (first
            | (refine R_br rfl rfl (fun h => absurd h (by first | decide | (with_reducible assumption) | (simp only [i_eq, i_lt, i_le, Int32.reduceToInt, ne_eq, up3_self, nI_1, e4']; first | done | omega))) (fun _ => ?_))
            | (refine R_br rfl rfl (fun _ => ?_) (fun h => absurd (by first | decide | (with_reducible assumption) | (simp only [i_eq, i_lt, i_le, Int32.reduceToInt, ne_eq, up3_self, nI_1, e4']; first | done | omega)) h))
            | (refine R_br rfl rfl (fun _ => ?_) (fun _ => ?_))
            | (refine R_ri rfl rfl ?_)
            | (refine R_rz rfl rfl (Or.inl rfl) ?_)
            | (refine R_rz rfl rfl (Or.inr rfl) ?_)
            | (refine R_rz rfl rfl (b2_01 _) ?_)
            | (refine R_rl rfl rfl ?_)
            | (refine R_rv rfl rfl ?_)
            | (refine R_sw _ rfl rfl rfl ?_)
            | (refine R_go 9999 rfl rfl trivial ?_)
            | (refine R_go 9999 rfl rfl (by first | (show _ ∨ _; decide) | (show (_ ∨ _) ∧ (_ ∨ _); decide) | (show (_ ∨ _) ∧ (_ ∨ _) ∧ (_ ∨ _); decide)) ?_)
            | (refine R_go 9999 rfl rfl ?_ ?_))
        exact PC_n (by first | exact FmO_rf | (repeat' (first | exact FmO_rf | (with_reducible assumption) | (refine FmO_up ?_ (by decide)) | (refine FmO_ug ?_ (by decide) (by decide)))))
    · rw [if_neg h2]
      have n3 : ¬ nI c = 41 := by (simp only [i_eq, i_lt, i_le, Int32.reduceToInt, true_and, and_true, false_and, and_false, or_false, false_or, or_true, true_or, ne_eq] at *; first | done | omega)
      by_cases h3 : c = 58 ∧ sort = 0 ∧ dep = 0
      · rw [if_pos h3]
        obtain ⟨rfl, rfl, rfl⟩ := h3
        repeat' (first
            | (refine R_br rfl rfl (fun h => absurd h (by first | decide | (with_reducible assumption) | (simp only [i_eq, i_lt, i_le, Int32.reduceToInt, ne_eq, up3_self, nI_1, e2, e4]; first | done | omega))) (fun _ => ?_))
            | (refine R_br rfl rfl (fun _ => ?_) (fun h => absurd (by first | decide | (with_reducible assumption) | (simp only [i_eq, i_lt, i_le, Int32.reduceToInt, ne_eq, up3_self, nI_1, e2, e4]; first | done | omega)) h))
            | (refine R_br rfl rfl (fun _ => ?_) (fun _ => ?_))
            | (refine R_ri rfl rfl ?_)
            | (refine R_rz rfl rfl (Or.inl rfl) ?_)
            | (refine R_rz rfl rfl (Or.inr rfl) ?_)
            | (refine R_rz rfl rfl (b2_01 _) ?_)
            | (refine R_rl rfl rfl ?_)
            | (refine R_rv rfl rfl ?_)
            | (refine R_cvr rfl (m_goesOn _ _ _) rfl rfl rfl rfl rfl (Nat.le_of_ble_eq_true rfl) rfl ?_)
            | (refine R_sw _ rfl rfl rfl ?_)
            | (refine R_go 9999 rfl rfl trivial ?_)
            | (refine R_go 9999 rfl rfl (by first | (show _ ∨ _; decide) | (show (_ ∨ _) ∧ (_ ∨ _); decide) | (show (_ ∨ _) ∧ (_ ∨ _) ∧ (_ ∨ _); decide)) ?_)
            | (refine R_go 9999 rfl rfl ?_ ?_))
        exact PC_y (by first | exact FmO_rf | (repeat' (first | exact FmO_rf | (with_reducible assumption) | (refine FmO_up ?_ (by decide)) | (refine FmO_ug ?_ (by decide) (by decide))))) ⟨by simp [up3, e2], by simp [up3]; rfl, by simp [up3, e4], by simp [up3, e5], by simp [up3, e6], by simp [up3, e7], by simp [up3, e8]⟩
      · rw [if_neg h3]
        repeat' (first
            | (refine R_br rfl rfl (fun h => absurd h (by first | decide | (with_reducible assumption) | (simp only [i_eq, i_lt, i_le, Int32.reduceToInt, ne_eq, up3_self, nI_1, e2, e4]; first | done | omega))) (fun _ => ?_))
            | (refine R_br rfl rfl (fun _ => ?_) (fun h => absurd (by first | decide | (with_reducible assumption) | (simp only [i_eq, i_lt, i_le, Int32.reduceToInt, ne_eq, up3_self, nI_1, e2, e4]; first | done | omega)) h))
            | (refine R_br rfl rfl (fun _ => ?_) (fun _ => ?_))
            | (refine R_ri rfl rfl ?_)
            | (refine R_rz rfl rfl (Or.inl rfl) ?_)
            | (refine R_rz rfl rfl (Or.inr rfl) ?_)
            | (refine R_rz rfl rfl (b2_01 _) ?_)
            | (refine R_rl rfl rfl ?_)
            | (refine R_rv rfl rfl ?_)
            | (refine R_sw _ rfl rfl rfl ?_)
            | (refine R_go 9999 rfl rfl trivial ?_)
            | (refine R_go 9999 rfl rfl (by first | (show _ ∨ _; decide) | (show (_ ∨ _) ∧ (_ ∨ _); decide) | (show (_ ∨ _) ∧ (_ ∨ _) ∧ (_ ∨ _); decide)) ?_)
            | (refine R_go 9999 rfl rfl ?_ ?_))
        all_goals first | exact PC_n (by first | exact FmO_rf | (repeat' (first | exact FmO_rf | (with_reducible assumption) | (refine FmO_up ?_ (by decide)) | (refine FmO_ug ?_ (by decide) (by decide))))) | (exfalso; rw [e2] at *; rw [e4] at *; (simp only [i_eq, i_lt, i_le, Int32.reduceToInt, true_and, and_true, false_and, and_false, or_false, false_or, or_true, true_or, ne_eq] at *; first | done | omega))
theorem m_takesBehindUnit {A : FI} {B : FJ} (sort c st dep un : Nat) (rt bg ls : Bool) (hc : c ≤ 255) (hs : sort ≤ 1) (hd : dep ≤ 80) (hu : un ≤ 3) (h : RPC A sort (st, dep, un, rt, bg, ls)) : MV 2 1 mtX5_takesBehindUnit [.inr (.inr (some (8, 0))), .inl (nI c)] (hp A B) (PC A B sort (bC sort c dep un rt bg ls)) := by
  have h0 := h
  obtain ⟨e2, e3, e4, e5, e6, e7, e8⟩ := h
  dsimp only at e3 e4 e5 e6 e7 e8
  have tc := ti c (by omega)
  have tu := ti (un + 1) (by omega)
  refine MV_of caX5_takesBehindUnit (L := [some (.inr (.inr (some (8, 0)))), some (.inl (nI c))]) rfl rfl ?_
  unfold bC
  by_cases h1 : c = 42
  · subst h1
    rw [if_pos rfl]
    by_cases h2 : un < 3
    · rw [if_pos h2]
      repeat' (first
          | (refine R_br rfl rfl (fun h => absurd h (by first | decide | (with_reducible assumption) | (simp only [i_eq, i_lt, i_le, Int32.reduceToInt, ne_eq, up3_self, nI_1, e5]; first | done | omega))) (fun _ => ?_))
          | (refine R_br rfl rfl (fun _ => ?_) (fun h => absurd (by first | decide | (with_reducible assumption) | (simp only [i_eq, i_lt, i_le, Int32.reduceToInt, ne_eq, up3_self, nI_1, e5]; first | done | omega)) h))
          | (refine R_br rfl rfl (fun _ => ?_) (fun _ => ?_))
          | (refine R_ri rfl rfl ?_)
          | (refine R_rz rfl rfl (Or.inl rfl) ?_)
          | (refine R_rz rfl rfl (Or.inr rfl) ?_)
          | (refine R_rz rfl rfl (b2_01 _) ?_)
          | (refine R_rl rfl rfl ?_)
          | (refine R_rv rfl rfl ?_)
          | (refine R_cvr rfl (m_goesOn _ _ _) rfl rfl rfl rfl rfl (Nat.le_of_ble_eq_true rfl) rfl ?_)
          | (refine R_sw _ rfl rfl rfl ?_)
          | (refine R_go 9999 rfl rfl trivial ?_)
          | (refine R_go 9999 rfl rfl (by first | (show _ ∨ _; decide) | (show (_ ∨ _) ∧ (_ ∨ _); decide) | (show (_ ∨ _) ∧ (_ ∨ _) ∧ (_ ∨ _); decide)) ?_)
          | (refine R_go 9999 rfl rfl ?_ ?_))
      exact PC_y (by first | exact FmO_rf | (repeat' (first | exact FmO_rf | (with_reducible assumption) | (refine FmO_up ?_ (by decide)) | (refine FmO_ug ?_ (by decide) (by decide))))) ⟨by simp [up3, e2], by simp [up3]; rfl, by simp [up3, e4], by simp [up3, e5, nI_1], by simp [up3, e6], by simp [up3, e7], by simp [up3, e8]⟩
    · rw [if_neg h2]
      repeat' (first
          | (refine R_br rfl rfl (fun h => absurd h (by first | decide | (with_reducible assumption) | (simp only [i_eq, i_lt, i_le, Int32.reduceToInt, ne_eq, up3_self, nI_1, e5]; first | done | omega))) (fun _ => ?_))
          | (refine R_br rfl rfl (fun _ => ?_) (fun h => absurd (by first | decide | (with_reducible assumption) | (simp only [i_eq, i_lt, i_le, Int32.reduceToInt, ne_eq, up3_self, nI_1, e5]; first | done | omega)) h))
          | (refine R_br rfl rfl (fun _ => ?_) (fun _ => ?_))
          | (refine R_ri rfl rfl ?_)
          | (refine R_rz rfl rfl (Or.inl rfl) ?_)
          | (refine R_rz rfl rfl (Or.inr rfl) ?_)
          | (refine R_rz rfl rfl (b2_01 _) ?_)
          | (refine R_rl rfl rfl ?_)
          | (refine R_rv rfl rfl ?_)
          | (refine R_sw _ rfl rfl rfl ?_)
          | (refine R_go 9999 rfl rfl trivial ?_)
          | (refine R_go 9999 rfl rfl (by first | (show _ ∨ _; decide) | (show (_ ∨ _) ∧ (_ ∨ _); decide) | (show (_ ∨ _) ∧ (_ ∨ _) ∧ (_ ∨ _); decide)) ?_)
          | (refine R_go 9999 rfl rfl ?_ ?_))
      exact PC_n (by first | exact FmO_rf | (repeat' (first | exact FmO_rf | (with_reducible assumption) | (refine FmO_up ?_ (by decide)) | (refine FmO_ug ?_ (by decide) (by decide)))))
  · rw [if_neg h1]
    have n1 : ¬ nI c = 42 := by (simp only [i_eq, i_lt, i_le, Int32.reduceToInt, true_and, and_true, false_and, and_false, or_false, false_or, or_true, true_or, ne_eq] at *; first | done | omega)
    by_cases h2 : c = 43 ∨ c = 45
    · rw [if_pos h2]
      rcases h2 with rfl | rfl
      all_goals
        repeat' (first
            | (refine R_br rfl rfl (fun h => absurd h (by first | decide | (with_reducible assumption))) (fun _ => ?_))
            | (refine R_br rfl rfl (fun _ => ?_) (fun h => absurd (by first | decide | (with_reducible assumption)) h))
            | (refine R_br rfl rfl (fun _ => ?_) (fun _ => ?_))
            | (refine R_ri rfl rfl ?_)
            | (refine R_rz rfl rfl (Or.inl rfl) ?_)
            | (refine R_rz rfl rfl (Or.inr rfl) ?_)
            | (refine R_rz rfl rfl (b2_01 _) ?_)
            | (refine R_rl rfl rfl ?_)
            | (refine R_rv rfl rfl ?_)
            | (refine R_cvr rfl (m_goesOn _ _ _) rfl rfl rfl rfl rfl (Nat.le_of_ble_eq_true rfl) rfl ?_)
            | (refine R_sw _ rfl rfl rfl ?_)
            | (refine R_go 9999 rfl rfl trivial ?_)
            | (refine R_go 9999 rfl rfl (by first | (show _ ∨ _; decide) | (show (_ ∨ _) ∧ (_ ∨ _); decide) | (show (_ ∨ _) ∧ (_ ∨ _) ∧ (_ ∨ _); decide)) ?_)
            | (refine R_go 9999 rfl rfl ?_ ?_))
      all_goals exact PC_y (by first | exact FmO_rf | (repeat' (first | exact FmO_rf | (with_reducible assumption) | (refine FmO_up ?_ (by decide)) | (refine FmO_ug ?_ (by decide) (by decide))))) ⟨by simp [up3, e2], by simp [up3]; rfl, by simp [up3, e4], by simp [up3]; rfl, by simp [up3, e6], by simp [up3, e7], by simp [up3, e8]⟩
    · rw [if_neg h2]
      have n2 : ¬ nI c = 43 := by (simp only [i_eq, i_lt, i_le, Int32.reduceToInt, true_and, and_true, false_and, and_false, or_false, false_or, or_true, true_or, ne_eq] at *; first | done | omega)
      have n3 : ¬ nI c = 45 := by (simp only [i_eq, i_lt, i_le, Int32.reduceToInt, true_and, and_true, false_and, and_false, or_false, false_or, or_true, true_or, ne_eq] at *; first | done | omega)
      cases rt with
      | true =>
        rw [if_pos rfl]
        have hr : RPC (up3 A 8 0 5 1) sort (st, dep, 1, true, bg, ls) := ⟨by simp [up3, e2], by simp [up3, e3], by simp [up3, e4], by simp [up3]; rfl, by simp [up3, e6], by simp [up3, e7], by simp [up3, e8]⟩
        have n4 : ¬ up3 A 8 0 5 1 8 0 6 = 0 := by simp [up3, e6, bI]
        repeat' (first
            | (refine R_br rfl rfl (fun h => absurd h (by first | decide | (with_reducible assumption))) (fun _ => ?_))
            | (refine R_br rfl rfl (fun _ => ?_) (fun h => absurd (by first | decide | (with_reducible assumption)) h))
            | (refine R_br rfl rfl (fun _ => ?_) (fun _ => ?_))
            | (refine R_ri rfl rfl ?_)
            | (refine R_rz rfl rfl (Or.inl rfl) ?_)
            | (refine R_rz rfl rfl (Or.inr rfl) ?_)
            | (refine R_rz rfl rfl (b2_01 _) ?_)
            | (refine R_rl rfl rfl ?_)
            | (refine R_rv rfl rfl ?_)
            | (refine R_cv rfl (m_takesBehindFactor sort c st dep 1 true bg ls hc hs hd hr) rfl rfl rfl rfl rfl (Nat.le_of_ble_eq_true rfl) rfl ?_)
            | (refine R_sw _ rfl rfl rfl ?_)
            | (refine R_go 9999 rfl rfl trivial ?_)
            | (refine R_go 9999 rfl rfl (by first | (show _ ∨ _; decide) | (show (_ ∨ _) ∧ (_ ∨ _); decide) | (show (_ ∨ _) ∧ (_ ∨ _) ∧ (_ ∨ _); decide)) ?_)
            | (refine R_go 9999 rfl rfl ?_ ?_))
        exact R_tb rfl rfl (fun r h' k => PC_tr (by first | exact FmO_rf | (repeat' (first | exact FmO_rf | (with_reducible assumption) | (refine FmO_up ?_ (by decide)) | (refine FmO_ug ?_ (by decide) (by decide))))) k)
      | false =>
        rw [if_neg (by decide)]
        have n4 : up3 A 8 0 5 1 8 0 6 = 0 := by simp [up3, e6, bI]
        by_cases h3 : 60 ≤ c ∧ c ≤ 62
        · rw [if_pos h3]
          repeat' (first
              | (refine R_br rfl rfl (fun h => absurd h (by first | decide | (with_reducible assumption))) (fun _ => ?_))
              | (refine R_br rfl rfl (fun _ => ?_) (fun h => absurd (by first | decide | (with_reducible assumption)) h))
              | (refine R_br rfl rfl (fun _ => ?_) (fun _ => ?_))
              | (refine R_ri rfl rfl ?_)
              | (refine R_rz rfl rfl (Or.inl rfl) ?_)
              | (refine R_rz rfl rfl (Or.inr rfl) ?_)
              | (refine R_rz rfl rfl (b2_01 _) ?_)
              | (refine R_rl rfl rfl ?_)
              | (refine R_rv rfl rfl ?_)
              | (refine R_csr rfl (m_isComparisonT c h3 _ _) rfl rfl rfl (Nat.le_of_ble_eq_true rfl) rfl ?_)
              | (refine R_cvr rfl (m_goesOn _ _ _) rfl rfl rfl rfl rfl (Nat.le_of_ble_eq_true rfl) rfl ?_)
              | (refine R_sw _ rfl rfl rfl ?_)
              | (refine R_go 9999 rfl rfl trivial ?_)
              | (refine R_go 9999 rfl rfl (by first | (show _ ∨ _; decide) | (show (_ ∨ _) ∧ (_ ∨ _); decide) | (show (_ ∨ _) ∧ (_ ∨ _) ∧ (_ ∨ _); decide)) ?_)
              | (refine R_go 9999 rfl rfl ?_ ?_))
          exact PC_y (by first | exact FmO_rf | (repeat' (first | exact FmO_rf | (with_reducible assumption) | (refine FmO_up ?_ (by decide)) | (refine FmO_ug ?_ (by decide) (by decide))))) ⟨by simp [up3, e2], by simp [up3]; rfl, by simp [up3, e4], by simp [up3]; rfl, by simp [up3]; rfl, by simp [up3, e7], by simp [up3, e8]⟩
        · rw [if_neg h3]
          repeat' (first
              | (refine R_br rfl rfl (fun h => absurd h (by first | decide | (with_reducible assumption))) (fun _ => ?_))
              | (refine R_br rfl rfl (fun _ => ?_) (fun h => absurd (by first | decide | (with_reducible assumption)) h))
              | (refine R_br rfl rfl (fun _ => ?_) (fun _ => ?_))
              | (refine R_ri rfl rfl ?_)
              | (refine R_rz rfl rfl (Or.inl rfl) ?_)
              | (refine R_rz rfl rfl (Or.inr rfl) ?_)
              | (refine R_rz rfl rfl (b2_01 _) ?_)
              | (refine R_rl rfl rfl ?_)
              | (refine R_rv rfl rfl ?_)
              | (refine R_csr rfl (m_isComparisonF c (by omega) h3 _ _) rfl rfl rfl (Nat.le_of_ble_eq_true rfl) rfl ?_)
              | (refine R_sw _ rfl rfl rfl ?_)
              | (refine R_go 9999 rfl rfl trivial ?_)
              | (refine R_go 9999 rfl rfl (by first | (show _ ∨ _; decide) | (show (_ ∨ _) ∧ (_ ∨ _); decide) | (show (_ ∨ _) ∧ (_ ∨ _) ∧ (_ ∨ _); decide)) ?_)
              | (refine R_go 9999 rfl rfl ?_ ?_))
          exact PC_n (by first | exact FmO_rf | (repeat' (first | exact FmO_rf | (with_reducible assumption) | (refine FmO_up ?_ (by decide)) | (refine FmO_ug ?_ (by decide) (by decide)))))
theorem m_takesFactor {A : FI} {B : FJ} (sort c st dep un : Nat) (rt bg ls : Bool) (hc : c ≤ 255) (hs : sort ≤ 1) (h : RPC A sort (st, dep, un, rt, bg, ls)) (hst : st = 0) : MV 2 1 mtX5_takesFactor [.inr (.inr (some (8, 0))), .inl (nI c)] (hp A B) (PC A B sort (fC sort c dep un rt bg ls)) := by
  subst hst
  obtain ⟨e2, e3, e4, e5, e6, e7, e8⟩ := h
  dsimp only at e3 e4 e5 e6 e7 e8
  have tc := ti c (by omega)
  refine MV_of caX5_takesFactor (L := [some (.inr (.inr (some (8, 0)))), some (.inl (nI c))]) rfl rfl ?_
  unfold fC
  by_cases h1 : c = 58 ∧ sort = 0 ∧ bg = false
  · rw [if_pos h1]
    obtain ⟨rfl, rfl, rfl⟩ := h1
    have n4 : ¬ A 8 0 7 = 0 := by rw [e7]; decide
    repeat' (first
        | (refine R_br rfl rfl (fun h => absurd h (by first | decide | (with_reducible assumption))) (fun _ => ?_))
        | (refine R_br rfl rfl (fun _ => ?_) (fun h => absurd (by first | decide | (with_reducible assumption)) h))
        | (refine R_br rfl rfl (fun _ => ?_) (fun _ => ?_))
        | (refine R_ri rfl rfl ?_)
        | (refine R_rz rfl rfl (Or.inl rfl) ?_)
        | (refine R_rz rfl rfl (Or.inr rfl) ?_)
        | (refine R_rz rfl rfl (b2_01 _) ?_)
        | (refine R_rl rfl rfl ?_)
        | (refine R_rv rfl rfl ?_)
        | (refine R_cvr rfl (m_goesOn _ _ _) rfl rfl rfl rfl rfl (Nat.le_of_ble_eq_true rfl) rfl ?_)
        | (refine R_sw _ rfl rfl rfl ?_)
        | (refine R_go 9999 rfl rfl trivial ?_)
        | (refine R_go 9999 rfl rfl (by first | (show _ ∨ _; decide) | (show (_ ∨ _) ∧ (_ ∨ _); decide) | (show (_ ∨ _) ∧ (_ ∨ _) ∧ (_ ∨ _); decide)) ?_)
        | (refine R_go 9999 rfl rfl ?_ ?_))
    exact PC_y (by first | exact FmO_rf | (repeat' (first | exact FmO_rf | (with_reducible assumption) | (refine FmO_up ?_ (by decide)) | (refine FmO_ug ?_ (by decide) (by decide))))) ⟨by simp [up3, e2], by simp [up3]; rfl, by simp [up3, e4], by simp [up3, e5], by simp [up3, e6], by simp [up3, e7], by simp [up3]; rfl⟩
  · rw [if_neg h1]
    have hfin : Rn 2 mtX5_takesFactor 24 [some (.inr (.inr (some (8, 0)))), some (.inl (nI c))] [] (hp A B) (PC A B sort (if c = 40 then some (0, dep + 1, un, rt, true, ls) else if c = 33 then some (0, dep, 1, false, true, ls) else uC c dep 1 false true ls)) := by
      by_cases h2 : c = 40
      · subst h2
        rw [if_pos rfl]
        repeat' (first
            | (refine R_br rfl rfl (fun h => absurd h (by first | decide | (with_reducible assumption))) (fun _ => ?_))
            | (refine R_br rfl rfl (fun _ => ?_) (fun h => absurd (by first | decide | (with_reducible assumption)) h))
            | (refine R_br rfl rfl (fun _ => ?_) (fun _ => ?_))
            | (refine R_ri rfl rfl ?_)
            | (refine R_rz rfl rfl (Or.inl rfl) ?_)
            | (refine R_rz rfl rfl (Or.inr rfl) ?_)
            | (refine R_rz rfl rfl (b2_01 _) ?_)
            | (refine R_rl rfl rfl ?_)
            | (refine R_rv rfl rfl ?_)
            | (refine R_sw _ rfl rfl rfl ?_)
            | (refine R_go 9999 rfl rfl trivial ?_)
            | (refine R_go 9999 rfl rfl (by first | (show _ ∨ _; decide) | (show (_ ∨ _) ∧ (_ ∨ _); decide) | (show (_ ∨ _) ∧ (_ ∨ _) ∧ (_ ∨ _); decide)) ?_)
            | (refine R_go 9999 rfl rfl ?_ ?_))
        exact PC_y (by first | exact FmO_rf | (repeat' (first | exact FmO_rf | (with_reducible assumption) | (refine FmO_up ?_ (by decide)) | (refine FmO_ug ?_ (by decide) (by decide))))) ⟨by simp [up3, e2], by simp [up3, e3], by simp [up3, e4, nI_1], by simp [up3, e5], by simp [up3, e6], by simp [up3, bI], by simp [up3, e8]⟩
      · rw [if_neg h2]
        have n2 : ¬ nI c = 40 := by (simp only [i_eq, i_lt, i_le, Int32.reduceToInt, true_and, and_true, false_and, and_false, or_false, false_or, or_true, true_or, ne_eq] at *; first | done | omega)
        by_cases h3 : c = 33
        · subst h3
          rw [if_pos rfl]
          repeat' (first
              | (refine R_br rfl rfl (fun h => absurd h (by first | decide | (with_reducible assumption))) (fun _ => ?_))
              | (refine R_br rfl rfl (fun _ => ?_) (fun h => absurd (by first | decide | (with_reducible assumption)) h))
              | (refine R_br rfl rfl (fun _ => ?_) (fun _ => ?_))
              | (refine R_ri rfl rfl ?_)
              | (refine R_rz rfl rfl (Or.inl rfl) ?_)
              | (refine R_rz rfl rfl (Or.inr rfl) ?_)
              | (refine R_rz rfl rfl (b2_01 _) ?_)
              | (refine R_rl rfl rfl ?_)
              | (refine R_rv rfl rfl ?_)
              | (refine R_sw _ rfl rfl rfl ?_)
              | (refine R_go 9999 rfl rfl trivial ?_)
              | (refine R_go 9999 rfl rfl (by first | (show _ ∨ _; decide) | (show (_ ∨ _) ∧ (_ ∨ _); decide) | (show (_ ∨ _) ∧ (_ ∨ _) ∧ (_ ∨ _); decide)) ?_)
              | (refine R_go 9999 rfl rfl ?_ ?_))
          exact PC_y (by first | exact FmO_rf | (repeat' (first | exact FmO_rf | (with_reducible assumption) | (refine FmO_up ?_ (by decide)) | (refine FmO_ug ?_ (by decide) (by decide))))) ⟨by simp [up3, e2], by simp [up3, e3], by simp [up3, e4], by simp [up3]; rfl, by simp [up3, bI], by simp [up3, bI], by simp [up3, e8]⟩
        · rw [if_neg h3]
          have n3 : ¬ nI c = 33 := by (simp only [i_eq, i_lt, i_le, Int32.reduceToInt, true_and, and_true, false_and, and_false, or_false, false_or, or_true, true_or, ne_eq] at *; first | done | omega)
          have hr : RPC (up3 (up3 (up3 A 8 0 7 0) 8 0 5 1) 8 0 6 0) sort (0, dep, 1, false, true, ls) := ⟨by simp [up3, e2], by simp [up3, e3], by simp [up3, e4], by simp [up3]; rfl, by simp [up3, bI], by simp [up3, bI], by simp [up3, e8]⟩
          repeat' (first
              | (refine R_br rfl rfl (fun h => absurd h (by first | decide | (with_reducible assumption))) (fun _ => ?_))
              | (refine R_br rfl rfl (fun _ => ?_) (fun h => absurd (by first | decide | (with_reducible assumption)) h))
              | (refine R_br rfl rfl (fun _ => ?_) (fun _ => ?_))
              | (refine R_ri rfl rfl ?_)
              | (refine R_rz rfl rfl (Or.inl rfl) ?_)
              | (refine R_rz rfl rfl (Or.inr rfl) ?_)
              | (refine R_rz rfl rfl (b2_01 _) ?_)
              | (refine R_rl rfl rfl ?_)
              | (refine R_rv rfl rfl ?_)
              | (refine R_cv rfl (m_takesUnit sort c 0 dep 1 false true ls hc hr) rfl rfl rfl rfl rfl (Nat.le_of_ble_eq_true rfl) rfl ?_)
              | (refine R_sw _ rfl rfl rfl ?_)
              | (refine R_go 9999 rfl rfl trivial ?_)
              | (refine R_go 9999 rfl rfl (by first | (show _ ∨ _; decide) | (show (_ ∨ _) ∧ (_ ∨ _); decide) | (show (_ ∨ _) ∧ (_ ∨ _) ∧ (_ ∨ _); decide)) ?_)
              | (refine R_go 9999 rfl rfl ?_ ?_))
          rintro r h' ⟨A', rfl, hF, hm⟩
          have hF2 : FmO 8 [] [2, 3, 4, 5, 6, 7, 8] A A' := FmO_tr (by first | exact FmO_rf | (repeat' (first | exact FmO_rf | (with_reducible assumption) | (refine FmO_up ?_ (by decide)) | (refine FmO_ug ?_ (by decide) (by decide))))) hF
          cases ho : uC c dep 1 false true ls with
          | none =>
            rw [ho] at hm
            subst hm
            repeat' (first
                | (refine R_br rfl rfl (fun h => absurd h (by first | decide | (with_reducible assumption))) (fun _ => ?_))
                | (refine R_br rfl rfl (fun _ => ?_) (fun h => absurd (by first | decide | (with_reducible assumption)) h))
                | (refine R_br rfl rfl (fun _ => ?_) (fun _ => ?_))
                | (refine R_ri rfl rfl ?_)
                | (refine R_rz rfl rfl (Or.inl rfl) ?_)
                | (refine R_rz rfl rfl (Or.inr rfl) ?_)
                | (refine R_rz rfl rfl (b2_01 _) ?_)
                | (refine R_rl rfl rfl ?_)
                | (refine R_rv rfl rfl ?_)
                | (refine R_sw _ rfl rfl rfl ?_)
                | (refine R_go 9999 rfl rfl trivial ?_)
                | (refine R_go 9999 rfl rfl (by first | (show _ ∨ _; decide) | (show (_ ∨ _) ∧ (_ ∨ _); decide) | (show (_ ∨ _) ∧ (_ ∨ _) ∧ (_ ∨ _); decide)) ?_)
                | (refine R_go 9999 rfl rfl ?_ ?_))
            exact PC_n hF2
          | some k' =>
            rw [ho] at hm
            obtain ⟨rfl, hm⟩ := hm
            repeat' (first
                | (refine R_br rfl rfl (fun h => absurd h (by first | decide | (with_reducible assumption))) (fun _ => ?_))
                | (refine R_br rfl rfl (fun _ => ?_) (fun h => absurd (by first | decide | (with_reducible assumption)) h))
                | (refine R_br rfl rfl (fun _ => ?_) (fun _ => ?_))
                | (refine R_ri rfl rfl ?_)
                | (refine R_rz rfl rfl (Or.inl rfl) ?_)
                | (refine R_rz rfl rfl (Or.inr rfl) ?_)
                | (refine R_rz rfl rfl (b2_01 _) ?_)
                | (refine R_rl rfl rfl ?_)
                | (refine R_rv rfl rfl ?_)
                | (refine R_sw _ rfl rfl rfl ?_)
                | (refine R_go 9999 rfl rfl trivial ?_)
                | (refine R_go 9999 rfl rfl (by first | (show _ ∨ _; decide) | (show (_ ∨ _) ∧ (_ ∨ _); decide) | (show (_ ∨ _) ∧ (_ ∨ _) ∧ (_ ∨ _); decide)) ?_)
                | (refine R_go 9999 rfl rfl ?_ ?_))
            exact PC_y hF2 hm
    by_cases h2 : A 8 0 7 = 0
    ·
      refine R_go 9999 rfl rfl trivial ?_
      refine R_br rfl rfl (fun _ => hfin) (fun h => absurd h2 h)
    · have h3 : ¬ nI c = 58 := fun z => by
        have hc58 : c = 58 := by (simp only [i_eq, i_lt, i_le, Int32.reduceToInt, true_and, and_true, false_and, and_false, or_false, false_or, or_true, true_or, ne_eq] at *; first | done | omega)
        have : ¬ (decide (sort = 0) && !bg) = false := fun z => h2 (by rw [e7, z]; rfl)
        apply h1
        refine ⟨hc58, ?_, ?_⟩
        · by_cases hz : sort = 0
          · exact hz
          · simp [hz] at this
        · cases bg <;> simp at this ⊢
      refine R_go 9999 rfl rfl trivial ?_
      refine R_br rfl rfl (fun h => absurd h h2) (fun _ => ?_)
      refine R_go 9999 rfl rfl trivial ?_
      refine R_br rfl rfl (fun h => absurd h h3) (fun _ => hfin)
theorem m_takes {A : FI} {B : FJ} (sort c : Nat) (k : Ct) (hc : c ≤ 255) (hd : k.2.1 ≤ 80) (ho : okC sort k) (h : RPC A sort k) : MV 3 1 mtX5_takes [.inr (.inr (some (8, 0))), .inl (nI c)] (hp A B) (PC A B sort (cC sort c k)) := by
  obtain ⟨st, dep, un, rt, bg, ls⟩ := k
  obtain ⟨o1, o2, o3, o4⟩ := ho
  dsimp only at hd o2 o3 o4
  have h0 := h
  obtain ⟨e2, e3, e4, e5, e6, e7, e8⟩ := h
  dsimp only at e3 e4 e5 e6 e7 e8
  have tc := ti c (by omega)
  refine MV_of caX5_takes (L := [some (.inr (.inr (some (8, 0)))), some (.inl (nI c))]) rfl rfl ?_
  unfold cC
  dsimp only
  rcases (show st = 0 ∨ st = 1 ∨ st = 2 ∨ st = 3 ∨ st = 4 ∨ st = 5 ∨ st = 6 ∨ st = 7 by omega) with rfl | rfl | rfl | rfl | rfl | rfl | rfl | rfl
  · rw [if_pos rfl]
    refine R_go 9999 rfl rfl trivial ?_
    refine R_sw 0 (by rw [e3]; rfl) rfl rfl ?_
    repeat' (first
        | (refine R_br rfl rfl (fun h => absurd h (by first | decide | (with_reducible assumption))) (fun _ => ?_))
        | (refine R_br rfl rfl (fun _ => ?_) (fun h => absurd (by first | decide | (with_reducible assumption)) h))
        | (refine R_br rfl rfl (fun _ => ?_) (fun _ => ?_))
        | (refine R_ri rfl rfl ?_)
        | (refine R_rz rfl rfl (Or.inl rfl) ?_)
        | (refine R_rz rfl rfl (Or.inr rfl) ?_)
        | (refine R_rz rfl rfl (b2_01 _) ?_)
        | (refine R_rl rfl rfl ?_)
        | (refine R_rv rfl rfl ?_)
        | (refine R_cv rfl (m_takesFactor sort c 0 dep un rt bg ls hc o1 h0 rfl) rfl rfl rfl rfl rfl (Nat.le_of_ble_eq_true rfl) rfl ?_)
        | (refine R_sw _ rfl rfl rfl ?_)
        | (refine R_go 9999 rfl rfl trivial ?_)
        | (refine R_go 9999 rfl rfl (by first | (show _ ∨ _; decide) | (show (_ ∨ _) ∧ (_ ∨ _); decide) | (show (_ ∨ _) ∧ (_ ∨ _) ∧ (_ ∨ _); decide)) ?_)
        | (refine R_go 9999 rfl rfl ?_ ?_))
    exact R_tb rfl rfl (fun r h' k => k)
  · rw [if_neg (by decide), if_pos rfl]
    refine R_go 9999 rfl rfl trivial ?_
    refine R_sw 1 (by rw [e3]; rfl) rfl rfl ?_
    repeat' (first
        | (refine R_br rfl rfl (fun h => absurd h (by first | decide | (with_reducible assumption))) (fun _ => ?_))
        | (refine R_br rfl rfl (fun _ => ?_) (fun h => absurd (by first | decide | (with_reducible assumption)) h))
        | (refine R_br rfl rfl (fun _ => ?_) (fun _ => ?_))
        | (refine R_ri rfl rfl ?_)
        | (refine R_rz rfl rfl (Or.inl rfl) ?_)
        | (refine R_rz rfl rfl (Or.inr rfl) ?_)
        | (refine R_rz rfl rfl (b2_01 _) ?_)
        | (refine R_rl rfl rfl ?_)
        | (refine R_rv rfl rfl ?_)
        | (refine R_cv rfl (m_takesUnit sort c 1 dep un rt bg ls hc h0) rfl rfl rfl rfl rfl (Nat.le_of_ble_eq_true rfl) rfl ?_)
        | (refine R_sw _ rfl rfl rfl ?_)
        | (refine R_go 9999 rfl rfl trivial ?_)
        | (refine R_go 9999 rfl rfl (by first | (show _ ∨ _; decide) | (show (_ ∨ _) ∧ (_ ∨ _); decide) | (show (_ ∨ _) ∧ (_ ∨ _) ∧ (_ ∨ _); decide)) ?_)
        | (refine R_go 9999 rfl rfl ?_ ?_))
    exact R_tb rfl rfl (fun r h' k => k)
  · rw [if_neg (by decide), if_neg (by decide), if_pos rfl]
    refine R_go 9999 rfl rfl trivial ?_
    refine R_sw 2 (by rw [e3]; rfl) rfl rfl ?_
    by_cases hd : 48 ≤ c ∧ c ≤ 57
    · rw [if_pos hd]
      repeat' (first
          | (refine R_br rfl rfl (fun h => absurd h (by first | decide | (with_reducible assumption))) (fun _ => ?_))
          | (refine R_br rfl rfl (fun _ => ?_) (fun h => absurd (by first | decide | (with_reducible assumption)) h))
          | (refine R_br rfl rfl (fun _ => ?_) (fun _ => ?_))
          | (refine R_ri rfl rfl ?_)
          | (refine R_rz rfl rfl (Or.inl rfl) ?_)
          | (refine R_rz rfl rfl (Or.inr rfl) ?_)
          | (refine R_rz rfl rfl (b2_01 _) ?_)
          | (refine R_rl rfl rfl ?_)
          | (refine R_rv rfl rfl ?_)
          | (refine R_csr rfl (m_isDigitT c hd _ _) rfl rfl rfl (Nat.le_of_ble_eq_true rfl) rfl ?_)
          | (refine R_cvr rfl (m_goesOn _ _ _) rfl rfl rfl rfl rfl (Nat.le_of_ble_eq_true rfl) rfl ?_)
          | (refine R_sw _ rfl rfl rfl ?_)
          | (refine R_go 9999 rfl rfl trivial ?_)
          | (refine R_go 9999 rfl rfl (by first | (show _ ∨ _; decide) | (show (_ ∨ _) ∧ (_ ∨ _); decide) | (show (_ ∨ _) ∧ (_ ∨ _) ∧ (_ ∨ _); decide)) ?_)
          | (refine R_go 9999 rfl rfl ?_ ?_))
      exact PC_y (by first | exact FmO_rf | (repeat' (first | exact FmO_rf | (with_reducible assumption) | (refine FmO_up ?_ (by decide)) | (refine FmO_ug ?_ (by decide) (by decide))))) ⟨by simp [up3, e2], by simp [up3]; rfl, by simp [up3, e4], by simp [up3, e5], by simp [up3, e6], by simp [up3, e7], by simp [up3, e8]⟩
    · rw [if_neg hd]
      repeat' (first
          | (refine R_br rfl rfl (fun h => absurd h (by first | decide | (with_reducible assumption))) (fun _ => ?_))
          | (refine R_br rfl rfl (fun _ => ?_) (fun h => absurd (by first | decide | (with_reducible assumption)) h))
          | (refine R_br rfl rfl (fun _ => ?_) (fun _ => ?_))
          | (refine R_ri rfl rfl ?_)
          | (refine R_rz rfl rfl (Or.inl rfl) ?_)
          | (refine R_rz rfl rfl (Or.inr rfl) ?_)
          | (refine R_rz rfl rfl (b2_01 _) ?_)
          | (refine R_rl rfl rfl ?_)
          | (refine R_rv rfl rfl ?_)
          | (refine R_csr rfl (m_isDigitF c (by omega) hd _ _) rfl rfl rfl (Nat.le_of_ble_eq_true rfl) rfl ?_)
          | (refine R_cv rfl (m_takesBehindUnit sort c 2 dep un rt bg ls hc o1 (by assumption) o3 h0) rfl rfl rfl rfl rfl (Nat.le_of_ble_eq_true rfl) rfl ?_)
          | (refine R_sw _ rfl rfl rfl ?_)
          | (refine R_go 9999 rfl rfl trivial ?_)
          | (refine R_go 9999 rfl rfl (by first | (show _ ∨ _; decide) | (show (_ ∨ _) ∧ (_ ∨ _); decide) | (show (_ ∨ _) ∧ (_ ∨ _) ∧ (_ ∨ _); decide)) ?_)
          | (refine R_go 9999 rfl rfl ?_ ?_))
      exact R_tb rfl rfl (fun r h' k => k)
  · rw [if_neg (by decide), if_neg (by decide), if_neg (by decide), if_pos rfl]
    refine R_go 9999 rfl rfl trivial ?_
    refine R_sw 3 (by rw [e3]; rfl) rfl rfl ?_
    repeat' (first
        | (refine R_br rfl rfl (fun h => absurd h (by first | decide | (with_reducible assumption))) (fun _ => ?_))
        | (refine R_br rfl rfl (fun _ => ?_) (fun h => absurd (by first | decide | (with_reducible assumption)) h))
        | (refine R_br rfl rfl (fun _ => ?_) (fun _ => ?_))
        | (refine R_ri rfl rfl ?_)
        | (refine R_rz rfl rfl (Or.inl rfl) ?_)
        | (refine R_rz rfl rfl (Or.inr rfl) ?_)
        | (refine R_rz rfl rfl (b2_01 _) ?_)
        | (refine R_rl rfl rfl ?_)
        | (refine R_rv rfl rfl ?_)
        | (refine R_cv rfl (m_takesBehindUnit sort c 3 dep un rt bg ls hc o1 hd o3 h0) rfl rfl rfl rfl rfl (Nat.le_of_ble_eq_true rfl) rfl ?_)
        | (refine R_sw _ rfl rfl rfl ?_)
        | (refine R_go 9999 rfl rfl trivial ?_)
        | (refine R_go 9999 rfl rfl (by first | (show _ ∨ _; decide) | (show (_ ∨ _) ∧ (_ ∨ _); decide) | (show (_ ∨ _) ∧ (_ ∨ _) ∧ (_ ∨ _); decide)) ?_)
        | (refine R_go 9999 rfl rfl ?_ ?_))
    exact R_tb rfl rfl (fun r h' k => k)
  · rw [if_neg (by decide), if_neg (by decide), if_neg (by decide), if_neg (by decide), if_pos rfl]
    refine R_go 9999 rfl rfl trivial ?_
    refine R_sw 4 (by rw [e3]; rfl) rfl rfl ?_
    repeat' (first
        | (refine R_br rfl rfl (fun h => absurd h (by first | decide | (with_reducible assumption))) (fun _ => ?_))
        | (refine R_br rfl rfl (fun _ => ?_) (fun h => absurd (by first | decide | (with_reducible assumption)) h))
        | (refine R_br rfl rfl (fun _ => ?_) (fun _ => ?_))
        | (refine R_ri rfl rfl ?_)
        | (refine R_rz rfl rfl (Or.inl rfl) ?_)
        | (refine R_rz rfl rfl (Or.inr rfl) ?_)
        | (refine R_rz rfl rfl (b2_01 _) ?_)
        | (refine R_rl rfl rfl ?_)
        | (refine R_rv rfl rfl ?_)
        | (refine R_cv rfl (m_takesBehindFactor sort c 4 dep un rt bg ls hc o1 hd h0) rfl rfl rfl rfl rfl (Nat.le_of_ble_eq_true rfl) rfl ?_)
        | (refine R_sw _ rfl rfl rfl ?_)
        | (refine R_go 9999 rfl rfl trivial ?_)
        | (refine R_go 9999 rfl rfl (by first | (show _ ∨ _; decide) | (show (_ ∨ _) ∧ (_ ∨ _); decide) | (show (_ ∨ _) ∧ (_ ∨ _) ∧ (_ ∨ _); decide)) ?_)
        | (refine R_go 9999 rfl rfl ?_ ?_))
    exact R_tb rfl rfl (fun r h' k => k)
  · rw [if_neg (by decide), if_neg (by decide), if_neg (by decide), if_neg (by decide), if_neg (by decide), if_pos rfl]
    refine R_go 9999 rfl rfl trivial ?_
    refine R_sw 5 (by rw [e3]; rfl) rfl rfl ?_
    by_cases h1 : c = 48 ∨ c = 49
    · rw [if_pos h1]
      cases ls with
      | true =>
        have n4 : ¬ A 8 0 8 = 0 := by rw [e8]; decide
        rw [if_pos rfl]
        rcases h1 with rfl | rfl
        all_goals
          repeat' (first
              | (refine R_br rfl rfl (fun h => absurd h (by first | decide | (with_reducible assumption))) (fun _ => ?_))
              | (refine R_br rfl rfl (fun _ => ?_) (fun h => absurd (by first | decide | (with_reducible assumption)) h))
              | (refine R_br rfl rfl (fun _ => ?_) (fun _ => ?_))
              | (refine R_ri rfl rfl ?_)
              | (refine R_rz rfl rfl (Or.inl rfl) ?_)
              | (refine R_rz rfl rfl (Or.inr rfl) ?_)
              | (refine R_rz rfl rfl (b2_01 _) ?_)
              | (refine R_rl rfl rfl ?_)
              | (refine R_rv rfl rfl ?_)
              | (refine R_cvr rfl (m_goesOn _ _ _) rfl rfl rfl rfl rfl (Nat.le_of_ble_eq_true rfl) rfl ?_)
              | (refine R_sw _ rfl rfl rfl ?_)
              | (refine R_go 9999 rfl rfl trivial ?_)
              | (refine R_go 9999 rfl rfl (by first | (show _ ∨ _; decide) | (show (_ ∨ _) ∧ (_ ∨ _); decide) | (show (_ ∨ _) ∧ (_ ∨ _) ∧ (_ ∨ _); decide)) ?_)
              | (refine R_go 9999 rfl rfl ?_ ?_))
        all_goals exact PC_y (by first | exact FmO_rf | (repeat' (first | exact FmO_rf | (with_reducible assumption) | (refine FmO_up ?_ (by decide)) | (refine FmO_ug ?_ (by decide) (by decide))))) ⟨by simp [up3, e2], by simp [up3]; rfl, by simp [up3, e4], by simp [up3, e5], by simp [up3, e6], by simp [up3, e7], by simp [up3, e8]⟩
      | false =>
        have n4 : A 8 0 8 = 0 := by rw [e8]; decide
        rw [if_neg (by decide)]
        rcases h1 with rfl | rfl
        all_goals
          repeat' (first
              | (refine R_br rfl rfl (fun h => absurd h (by first | decide | (with_reducible assumption))) (fun _ => ?_))
              | (refine R_br rfl rfl (fun _ => ?_) (fun h => absurd (by first | decide | (with_reducible assumption)) h))
              | (refine R_br rfl rfl (fun _ => ?_) (fun _ => ?_))
              | (refine R_ri rfl rfl ?_)
              | (refine R_rz rfl rfl (Or.inl rfl) ?_)
              | (refine R_rz rfl rfl (Or.inr rfl) ?_)
              | (refine R_rz rfl rfl (b2_01 _) ?_)
              | (refine R_rl rfl rfl ?_)
              | (refine R_rv rfl rfl ?_)
              | (refine R_cvr rfl (m_goesOn _ _ _) rfl rfl rfl rfl rfl (Nat.le_of_ble_eq_true rfl) rfl ?_)
              | (refine R_sw _ rfl rfl rfl ?_)
              | (refine R_go 9999 rfl rfl trivial ?_)
              | (refine R_go 9999 rfl rfl (by first | (show _ ∨ _; decide) | (show (_ ∨ _) ∧ (_ ∨ _); decide) | (show (_ ∨ _) ∧ (_ ∨ _) ∧ (_ ∨ _); decide)) ?_)
              | (refine R_go 9999 rfl rfl ?_ ?_))
        all_goals exact PC_y (by first | exact FmO_rf | (repeat' (first | exact FmO_rf | (with_reducible assumption) | (refine FmO_up ?_ (by decide)) | (refine FmO_ug ?_ (by decide) (by decide))))) ⟨by simp [up3, e2], by simp [up3]; rfl, by simp [up3, e4], by simp [up3, e5], by simp [up3, e6], by simp [up3, e7], by simp [up3, e8]⟩
    · rw [if_neg h1]
      have n1 : ¬ nI c = 48 := by (simp only [i_eq, i_lt, i_le, Int32.reduceToInt, true_and, and_true, false_and, and_false, or_false, false_or, or_true, true_or, ne_eq] at *; first | done | omega)
      have n2 : ¬ nI c = 49 := by (simp only [i_eq, i_lt, i_le, Int32.reduceToInt, true_and, and_true, false_and, and_false, or_false, false_or, or_true, true_or, ne_eq] at *; first | done | omega)
      repeat' (first
          | (refine R_br rfl rfl (fun h => absurd h (by first | decide | (with_reducible assumption))) (fun _ => ?_))
          | (refine R_br rfl rfl (fun _ => ?_) (fun h => absurd (by first | decide | (with_reducible assumption)) h))
          | (refine R_br rfl rfl (fun _ => ?_) (fun _ => ?_))
          | (refine R_ri rfl rfl ?_)
          | (refine R_rz rfl rfl (Or.inl rfl) ?_)
          | (refine R_rz rfl rfl (Or.inr rfl) ?_)
          | (refine R_rz rfl rfl (b2_01 _) ?_)
          | (refine R_rl rfl rfl ?_)
          | (refine R_rv rfl rfl ?_)
          | (refine R_sw _ rfl rfl rfl ?_)
          | (refine R_go 9999 rfl rfl trivial ?_)
          | (refine R_go 9999 rfl rfl (by first | (show _ ∨ _; decide) | (show (_ ∨ _) ∧ (_ ∨ _); decide) | (show (_ ∨ _) ∧ (_ ∨ _) ∧ (_ ∨ _); decide)) ?_)
          | (refine R_go 9999 rfl rfl ?_ ?_))
      exact PC_n (by first | exact FmO_rf | (repeat' (first | exact FmO_rf | (with_reducible assumption) | (refine FmO_up ?_ (by decide)) | (refine FmO_ug ?_ (by decide) (by decide)))))
  · rw [if_neg (by decide), if_neg (by decide), if_neg (by decide), if_neg (by decide), if_neg (by decide), if_neg (by decide), if_pos rfl]
    refine R_go 9999 rfl rfl trivial ?_
    refine R_sw 6 (by rw [e3]; rfl) rfl rfl ?_
    have hz := o4 (by omega)
    subst hz
    by_cases h1 : c = 59
    · subst h1
      rw [if_pos rfl]
      repeat' (first
          | (refine R_br rfl rfl (fun h => absurd h (by first | decide | (with_reducible assumption))) (fun _ => ?_))
          | (refine R_br rfl rfl (fun _ => ?_) (fun h => absurd (by first | decide | (with_reducible assumption)) h))
          | (refine R_br rfl rfl (fun _ => ?_) (fun _ => ?_))
          | (refine R_ri rfl rfl ?_)
          | (refine R_rz rfl rfl (Or.inl rfl) ?_)
          | (refine R_rz rfl rfl (Or.inr rfl) ?_)
          | (refine R_rz rfl rfl (b2_01 _) ?_)
          | (refine R_rl rfl rfl ?_)
          | (refine R_rv rfl rfl ?_)
          | (refine R_cvr rfl (m_goesOn _ _ _) rfl rfl rfl rfl rfl (Nat.le_of_ble_eq_true rfl) rfl ?_)
          | (refine R_sw _ rfl rfl rfl ?_)
          | (refine R_go 9999 rfl rfl trivial ?_)
          | (refine R_go 9999 rfl rfl (by first | (show _ ∨ _; decide) | (show (_ ∨ _) ∧ (_ ∨ _); decide) | (show (_ ∨ _) ∧ (_ ∨ _) ∧ (_ ∨ _); decide)) ?_)
          | (refine R_go 9999 rfl rfl ?_ ?_))
      exact PC_y (by first | exact FmO_rf | (repeat' (first | exact FmO_rf | (with_reducible assumption) | (refine FmO_up ?_ (by decide)) | (refine FmO_ug ?_ (by decide) (by decide))))) ⟨by simp [up3, e2], by simp [up3]; rfl, by simp [up3, e4], by simp [up3, e5], by simp [up3, e6], by simp [up3, bI], by simp [up3, e8]⟩
    · rw [if_neg h1]
      have n1 : ¬ nI c = 59 := by (simp only [i_eq, i_lt, i_le, Int32.reduceToInt, true_and, and_true, false_and, and_false, or_false, false_or, or_true, true_or, ne_eq] at *; first | done | omega)
      repeat' (first
          | (refine R_br rfl rfl (fun h => absurd h (by first | decide | (with_reducible assumption))) (fun _ => ?_))
          | (refine R_br rfl rfl (fun _ => ?_) (fun h => absurd (by first | decide | (with_reducible assumption)) h))
          | (refine R_br rfl rfl (fun _ => ?_) (fun _ => ?_))
          | (refine R_ri rfl rfl ?_)
          | (refine R_rz rfl rfl (Or.inl rfl) ?_)
          | (refine R_rz rfl rfl (Or.inr rfl) ?_)
          | (refine R_rz rfl rfl (b2_01 _) ?_)
          | (refine R_rl rfl rfl ?_)
          | (refine R_rv rfl rfl ?_)
          | (refine R_sw _ rfl rfl rfl ?_)
          | (refine R_go 9999 rfl rfl trivial ?_)
          | (refine R_go 9999 rfl rfl (by first | (show _ ∨ _; decide) | (show (_ ∨ _) ∧ (_ ∨ _); decide) | (show (_ ∨ _) ∧ (_ ∨ _) ∧ (_ ∨ _); decide)) ?_)
          | (refine R_go 9999 rfl rfl ?_ ?_))
      exact PC_n (by first | exact FmO_rf | (repeat' (first | exact FmO_rf | (with_reducible assumption) | (refine FmO_up ?_ (by decide)) | (refine FmO_ug ?_ (by decide) (by decide)))))
  · rw [if_neg (by decide), if_neg (by decide), if_neg (by decide), if_neg (by decide), if_neg (by decide), if_neg (by decide), if_neg (by decide)]
    refine R_go 9999 rfl rfl trivial ?_
    refine R_sw 7 (by rw [e3]; rfl) rfl rfl ?_
    repeat' (first
        | (refine R_br rfl rfl (fun h => absurd h (by first | decide | (with_reducible assumption))) (fun _ => ?_))
        | (refine R_br rfl rfl (fun _ => ?_) (fun h => absurd (by first | decide | (with_reducible assumption)) h))
        | (refine R_br rfl rfl (fun _ => ?_) (fun _ => ?_))
        | (refine R_ri rfl rfl ?_)
        | (refine R_rz rfl rfl (Or.inl rfl) ?_)
        | (refine R_rz rfl rfl (Or.inr rfl) ?_)
        | (refine R_rz rfl rfl (b2_01 _) ?_)
        | (refine R_rl rfl rfl ?_)
        | (refine R_rv rfl rfl ?_)
        | (refine R_sw _ rfl rfl rfl ?_)
        | (refine R_go 9999 rfl rfl trivial ?_)
        | (refine R_go 9999 rfl rfl (by first | (show _ ∨ _; decide) | (show (_ ∨ _) ∧ (_ ∨ _); decide) | (show (_ ∨ _) ∧ (_ ∨ _) ∧ (_ ∨ _); decide)) ?_)
        | (refine R_go 9999 rfl rfl ?_ ?_))
    exact PC_n (by first | exact FmO_rf | (repeat' (first | exact FmO_rf | (with_reducible assumption) | (refine FmO_up ?_ (by decide)) | (refine FmO_ug ?_ (by decide) (by decide)))))
