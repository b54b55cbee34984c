def eU (c : Nat) (o : Os) : Os := if 97 ≤ c ∧ c ≤ 104 then lyt o (c - 97, 0) else lyt o (8, c - 48)
def eO (c : Nat) (o : Os) : Os := if c = 38 then awt 16 16 o else if c = 124 then awt 17 17 o else if c = 41 then ((ldn 17 o).1, (ldn 17 o).2.1, (ldn 17 o).2.2.tail) else ldn 17 o
def eB (c : Nat) (rt : Bool) (o : Os) : Os := if c = 42 then awt 9 9 o else if c = 43 then awt 11 10 o else if c = 45 then awt 11 11 o else if rt = true then eO c o else awt 11 (c - 48) o
def setL (c : Nat) (cur : List Tk) : List Tk := cur.dropLast ++ [((cur.getLastD (0, 0)).1, 10 * (cur.getLastD (0, 0)).2 + c - 48)]
theorem setL_e (c v : Nat) (cur : List Tk) : setL c (cur ++ [(8, v)]) = cur ++ [(8, 10 * v + c - 48)] := by simp [setL]
def eM (c : Nat) (k : Ct) (o : Os) : Os := if k.1 = 0 then (if c = 33 then (o.1, o.2.1, 15 :: o.2.2) else if c = 40 then (o.1, o.2.1, 18 :: o.2.2) else if c = 58 then o else eU c o) else if k.1 = 1 then eU c o else if k.1 = 2 then (if 48 ≤ c ∧ c ≤ 57 then (o.1, setL c o.2.1, o.2.2) else eB c k.2.2.2.1 o) else if k.1 = 3 then eB c k.2.2.2.1 o else if k.1 = 4 then eO c o else if k.1 = 5 then (o.1 ++ [(o.2.1, c - 48)], [], o.2.2) else o
def PM (A : FI) (B : FJ) (x : Option (Ct × Os)) : Option AV → AH → Prop := fun r h' => ∃ A', h' = hp A' B ∧ FmP A A' ∧ (match x with
  | none => r = some (.inl 0)
  | some z => r = some (.inl 1) ∧ RKM A' z.1 ∧ ROM A' z.2)
theorem PM_n {A A' : FI} {B : FJ} (h : FmP A A') : PM A B none (some (.inl 0)) (hp A' B) := ⟨A', rfl, h, rfl⟩
theorem PM_y {A A' : FI} {B : FJ} {k : Ct} {o : Os} (h : FmP A A') (h2 : RKM A' k) (h3 : ROM A' o) : PM A B (some (k, o)) (some (.inl 1)) (hp A' B) := ⟨A', rfl, h, rfl, h2, h3⟩
theorem PM_tr {A A1 : FI} {B : FJ} {o : Option (Ct × Os)} {r : Option AV} {h' : AH} (h : FmP A A1) (k : PM A1 B o r h') : PM A B o r h' := by
  obtain ⟨A', a, b, c⟩ := k
  exact ⟨A', a, FmO_tr h b, c⟩
theorem R_tm {d : Nat} {mt : MI} {pc nx tg : Nat} {k0 : Int32} {L : List (Option AV)} {A1 : FI} {B : FJ} {o : Option (Ct × Os)} {Q : Option AV → AH → Prop} (hp' : mt.2.2 pc = some (.ireturn, 1, nx, tg, k0)) (hr : mt.1.2.2.2 = some .boolean) (hq : ∀ r h', PM A1 B o r h' → Q r h') : ∀ r h', PM A1 B o r h' → Rn d mt pc L (r.toList ++ []) h' Q := by
  intro r h' hk
  have hk0 := hq r h' hk
  obtain ⟨A', a, b, c⟩ := hk
  cases o with
  | none => subst c; exact R_rz hp' hr (Or.inl rfl) hk0
  | some k' => obtain ⟨rfl, -⟩ := c; exact R_rz hp' hr (Or.inr rfl) hk0
theorem m_inT (x : Int32) (lo hi : Int64) (h : lo.toInt ≤ x.toInt ∧ x.toInt ≤ hi.toInt) (A : FI) (B : FJ) : MS 0 3 mtX12_in [.inr (.inl x.toInt64), .inr (.inl lo), .inr (.inl hi)] (hp A B) (Ret (some (.inl 1)) (hp A B)) := by
  have := m_inI x lo hi A B
  rwa [b2_1 h] at this
theorem m_inF (x : Int32) (lo hi : Int64) (h : ¬ (lo.toInt ≤ x.toInt ∧ x.toInt ≤ hi.toInt)) (A : FI) (B : FJ) : MS 0 3 mtX12_in [.inr (.inl x.toInt64), .inr (.inl lo), .inr (.inl hi)] (hp A B) (Ret (some (.inl 0)) (hp A B)) := by
  have := m_inI x lo hi A B
  rwa [b2_0 h] at this
theorem nI_sub {a b : Nat} (h : b ≤ a) : nI a - nI b = nI (a - b) := by
  have : nI a = nI (a - b) + nI b := by rw [nI_add]; congr 1; omega
  rw [this]; exact Int32.add_sub_cancel _ _
/-- control fields alone -/
theorem RKM_6 {A : FI} {st st' dep un : Nat} {rt bg ls : Bool} (h : RKM A (st, dep, un, rt, bg, ls)) : RKM (up3 A 31 0 6 (nI st')) (st', dep, un, rt, bg, ls) := by
  obtain ⟨a, b, c, d, e, f⟩ := h
  exact ⟨up3_self, by rw [up3_s (by decide)]; exact b, by rw [up3_s (by decide)]; exact c, by rw [up3_s (by decide)]; exact d, by rw [up3_s (by decide)]; exact e, by rw [up3_s (by decide)]; exact f⟩
theorem m_takeUnit {A : FI} {B : FJ} (c st dep un : Nat) (rt bg ls : Bool) (o : Os) (hc : c ≤ 255) (h : RKM A (st, dep, un, rt, bg, ls)) (ho : ROM A o) (hz : szO o < 80) : MV 1 1 mtX12_takeUnit [.inr (.inr (some (31, 0))), .inl (nI c)] (hp A B) (PM A B ((uC c dep un rt bg ls).map (fun k' => (k', eU c o)))) := by
  have tc := ti c (by omega)
  have hz' : (flat o).length < 80 := by simp only [szO] at hz; omega
  refine MV_of caX12_takeUnit (L := [some (.inr (.inr (some (31, 0)))), some (.inl (nI c))]) rfl rfl ?_
  unfold uC eU
  by_cases hl : 97 ≤ c ∧ c ≤ 104
  · rw [if_neg (show ¬ (48 ≤ c ∧ c ≤ 57) by omega), if_pos hl, if_pos hl]
    have e1 : nI c - 97 = nI (c - 97) := nI_sub (b := 97) (by omega)
    have h1 := RKM_L (A' := up3 (up3 (up3 A 37 0 (flat o).length (nI (c - 97))) 38 0 (flat o).length (nI 0)) 31 0 15 (nI ((flat o).length + 1))) h (by first | exact FmO_rf | (repeat' (first | exact FmO_rf | (with_reducible assumption) | (refine FmO_up ?_ (by decide)) | (refine FmO_ug ?_ (by decide) (by decide)))))
    repeat' (first
        | (refine R_br rfl rfl (fun h => absurd h (by first | decide | (with_reducible assumption))) (fun _ => ?_))
        | (refine R_br rfl rfl (fun _ => ?_) (fun h => absurd (by first | decide | (with_reducible assumption)) h))
        | (refine R_br rfl rfl (fun _ => ?_) (fun _ => ?_))
        | (refine R_ri rfl rfl ?_)
        | (refine R_rz rfl rfl (Or.inl rfl) ?_)
        | (refine R_rz rfl rfl (Or.inr rfl) ?_)
        | (refine R_rz rfl rfl (b2_01 _) ?_)
        | (refine R_rl rfl rfl ?_)
        | (refine R_rv rfl rfl ?_)
        | (refine R_csr rfl (m_inT (nI c) 97 104 (by simp only [Int64.reduceToInt, tc]; omega) _ _) rfl rfl rfl (Nat.le_of_ble_eq_true rfl) rfl ?_)
        | (refine R_cvv rfl (m_lay (flat o).length hz' _ _ ho.1) rfl rfl rfl rfl rfl (Nat.le_of_ble_eq_true rfl) rfl ?_)
        | (refine R_sw _ rfl rfl rfl ?_)
        | (refine R_go 9999 rfl rfl trivial ?_)
        | (refine R_go 9999 rfl rfl (by first | (show _ ∨ _; decide) | (show (_ ∨ _) ∧ (_ ∨ _); decide) | (show (_ ∨ _) ∧ (_ ∨ _) ∧ (_ ∨ _); decide)) ?_)
        | (refine R_go 9999 rfl rfl ?_ ?_))
    rw [e1]
    exact PM_y (by first | exact FmO_rf | (repeat' (first | exact FmO_rf | (with_reducible assumption) | (refine FmO_up ?_ (by decide)) | (refine FmO_ug ?_ (by decide) (by decide))))) (RKM_6 (st' := 3) h1) (ROM_c (ROM_lay ho (c - 97) 0) (by first | exact FmO_rf | (repeat' (first | exact FmO_rf | (with_reducible assumption) | (refine FmO_up ?_ (by decide)) | (refine FmO_ug ?_ (by decide) (by decide))))))
  · by_cases hd : 48 ≤ c ∧ c ≤ 57
    · rw [if_pos hd, if_neg hl]
      have e1 : nI c - 48 = nI (c - 48) := nI_sub (b := 48) (by omega)
      have h1 := RKM_L (A' := up3 (up3 (up3 A 37 0 (flat o).length (nI 8)) 38 0 (flat o).length (nI (c - 48))) 31 0 15 (nI ((flat o).length + 1))) h (by first | exact FmO_rf | (repeat' (first | exact FmO_rf | (with_reducible assumption) | (refine FmO_up ?_ (by decide)) | (refine FmO_ug ?_ (by decide) (by decide)))))
      repeat' (first
          | (refine R_br rfl rfl (fun h => absurd h (by first | decide | (with_reducible assumption))) (fun _ => ?_))
          | (refine R_br rfl rfl (fun _ => ?_) (fun h => absurd (by first | decide | (with_reducible assumption)) h))
          | (refine R_br rfl rfl (fun _ => ?_) (fun _ => ?_))
          | (refine R_ri rfl rfl ?_)
          | (refine R_rz rfl rfl (Or.inl rfl) ?_)
          | (refine R_rz rfl rfl (Or.inr rfl) ?_)
          | (refine R_rz rfl rfl (b2_01 _) ?_)
          | (refine R_rl rfl rfl ?_)
          | (refine R_rv rfl rfl ?_)
          | (refine R_csr rfl (m_inF (nI c) 97 104 (by simp only [Int64.reduceToInt, tc]; omega) _ _) rfl rfl rfl (Nat.le_of_ble_eq_true rfl) rfl ?_)
          | (refine R_cvv rfl (m_lay (flat o).length hz' _ _ ho.1) rfl rfl rfl rfl rfl (Nat.le_of_ble_eq_true rfl) rfl ?_)
          | (refine R_csr rfl (m_inT (nI c) 48 57 (by simp only [Int64.reduceToInt, tc]; omega) _ _) rfl rfl rfl (Nat.le_of_ble_eq_true rfl) rfl ?_)
          | (refine R_sw _ rfl rfl rfl ?_)
          | (refine R_go 9999 rfl rfl trivial ?_)
          | (refine R_go 9999 rfl rfl (by first | (show _ ∨ _; decide) | (show (_ ∨ _) ∧ (_ ∨ _); decide) | (show (_ ∨ _) ∧ (_ ∨ _) ∧ (_ ∨ _); decide)) ?_)
          | (refine R_go 9999 rfl rfl ?_ ?_))
      rw [e1]
      exact PM_y (by first | exact FmO_rf | (repeat' (first | exact FmO_rf | (with_reducible assumption) | (refine FmO_up ?_ (by decide)) | (refine FmO_ug ?_ (by decide) (by decide))))) (RKM_6 (st' := 2) h1) (ROM_c (ROM_lay ho 8 (c - 48)) (by first | exact FmO_rf | (repeat' (first | exact FmO_rf | (with_reducible assumption) | (refine FmO_up ?_ (by decide)) | (refine FmO_ug ?_ (by decide) (by decide))))))
    · rw [if_neg hd, if_neg hl, if_neg hl]
      repeat' (first
          | (refine R_br rfl rfl (fun h => absurd h (by first | decide | (with_reducible assumption))) (fun _ => ?_))
          | (refine R_br rfl rfl (fun _ => ?_) (fun h => absurd (by first | decide | (with_reducible assumption)) h))
          | (refine R_br rfl rfl (fun _ => ?_) (fun _ => ?_))
          | (refine R_ri rfl rfl ?_)
          | (refine R_rz rfl rfl (Or.inl rfl) ?_)
          | (refine R_rz rfl rfl (Or.inr rfl) ?_)
          | (refine R_rz rfl rfl (b2_01 _) ?_)
          | (refine R_rl rfl rfl ?_)
          | (refine R_rv rfl rfl ?_)
          | (refine R_csr rfl (m_inF (nI c) 97 104 (by simp only [Int64.reduceToInt, tc]; omega) _ _) rfl rfl rfl (Nat.le_of_ble_eq_true rfl) rfl ?_)
          | (refine R_cvv rfl (m_lay (flat o).length hz' _ _ ho.1) rfl rfl rfl rfl rfl (Nat.le_of_ble_eq_true rfl) rfl ?_)
          | (refine R_csr rfl (m_inF (nI c) 48 57 (by simp only [Int64.reduceToInt, tc]; omega) _ _) rfl rfl rfl (Nat.le_of_ble_eq_true rfl) rfl ?_)
          | (refine R_sw _ rfl rfl rfl ?_)
          | (refine R_go 9999 rfl rfl trivial ?_)
          | (refine R_go 9999 rfl rfl (by first | (show _ ∨ _; decide) | (show (_ ∨ _) ∧ (_ ∨ _); decide) | (show (_ ∨ _) ∧ (_ ∨ _) ∧ (_ ∨ _); decide)) ?_)
          | (refine R_go 9999 rfl rfl ?_ ?_))
      exact PM_n (by first | exact FmO_rf | (repeat' (first | exact FmO_rf | (with_reducible assumption) | (refine FmO_up ?_ (by decide)) | (refine FmO_ug ?_ (by decide) (by decide)))))
theorem m_goOn {A : FI} {B : FJ} (sort c st dep un : Nat) (rt bg ls : Bool) (o : Os) (hc : c ≤ 255) (hs : sort ≤ 1) (hd : dep ≤ 80) (h : RKM A (st, dep, un, rt, bg, ls)) (ho : ROM A o) (hz : szO o < 80) (h18 : 0 < dep → (ldn 17 o).2.2 ≠ []) : MV 3 2 mtX12_goOn [.inr (.inr (some (31, 0))), .inl (nI c), .inl (nI sort)] (hp A B) (PM A B ((oC sort c dep un rt bg ls).map (fun k' => (k', eO c o)))) := by
  have tc := ti c (by omega)
  have td := ti dep (by omega)
  have ts := ti sort (by omega)
  refine MV_of caX12_goOn (L := [some (.inr (.inr (some (31, 0)))), some (.inl (nI c)), some (.inl (nI sort))]) rfl rfl ?_
  unfold oC eO
  by_cases h1 : c = 38
  · subst h1
    rw [if_pos (Or.inl rfl), if_pos rfl]
    repeat' (first
        | (refine R_br rfl rfl (fun h => absurd h (by first | decide | (with_reducible assumption))) (fun _ => ?_))
        | (refine R_br rfl rfl (fun _ => ?_) (fun h => absurd (by first | decide | (with_reducible assumption)) h))
        | (refine R_br rfl rfl (fun _ => ?_) (fun _ => ?_))
        | (refine R_ri rfl rfl ?_)
        | (refine R_rz rfl rfl (Or.inl rfl) ?_)
        | (refine R_rz rfl rfl (Or.inr rfl) ?_)
        | (refine R_rz rfl rfl (b2_01 _) ?_)
        | (refine R_rl rfl rfl ?_)
        | (refine R_rv rfl rfl ?_)
        | (refine R_cv rfl (m_await 16 16 (by decide) (by decide) o ho hz) rfl rfl rfl rfl rfl (Nat.le_of_ble_eq_true rfl) rfl ?_)
        | (refine R_sw _ rfl rfl rfl ?_)
        | (refine R_go 9999 rfl rfl trivial ?_)
        | (refine R_go 9999 rfl rfl (by first | (show _ ∨ _; decide) | (show (_ ∨ _) ∧ (_ ∨ _); decide) | (show (_ ∨ _) ∧ (_ ∨ _) ∧ (_ ∨ _); decide)) ?_)
        | (refine R_go 9999 rfl rfl ?_ ?_))
    rintro r h' ⟨A', rfl, rfl, h2, hF⟩
    repeat' (first
        | (refine R_br rfl rfl (fun h => absurd h (by first | decide | (with_reducible assumption))) (fun _ => ?_))
        | (refine R_br rfl rfl (fun _ => ?_) (fun h => absurd (by first | decide | (with_reducible assumption)) h))
        | (refine R_br rfl rfl (fun _ => ?_) (fun _ => ?_))
        | (refine R_ri rfl rfl ?_)
        | (refine R_rz rfl rfl (Or.inl rfl) ?_)
        | (refine R_rz rfl rfl (Or.inr rfl) ?_)
        | (refine R_rz rfl rfl (b2_01 _) ?_)
        | (refine R_rl rfl rfl ?_)
        | (refine R_rv rfl rfl ?_)
        | (refine R_sw _ rfl rfl rfl ?_)
        | (refine R_go 9999 rfl rfl trivial ?_)
        | (refine R_go 9999 rfl rfl (by first | (show _ ∨ _; decide) | (show (_ ∨ _) ∧ (_ ∨ _); decide) | (show (_ ∨ _) ∧ (_ ∨ _) ∧ (_ ∨ _); decide)) ?_)
        | (refine R_go 9999 rfl rfl ?_ ?_))
    exact PM_y (FmO_tr (FmL_P hF) (by first | exact FmO_rf | (repeat' (first | exact FmO_rf | (with_reducible assumption) | (refine FmO_up ?_ (by decide)) | (refine FmO_ug ?_ (by decide) (by decide)))))) (RKM_6 (st' := 0) (RKM_L h hF)) (ROM_c h2 (by first | exact FmO_rf | (repeat' (first | exact FmO_rf | (with_reducible assumption) | (refine FmO_up ?_ (by decide)) | (refine FmO_ug ?_ (by decide) (by decide))))))
  · by_cases h2 : c = 124
    · subst h2
      rw [if_pos (Or.inr rfl), if_neg (by decide), if_pos rfl]
      repeat' (first
          | (refine R_br rfl rfl (fun h => absurd h (by first | decide | (with_reducible assumption))) (fun _ => ?_))
          | (refine R_br rfl rfl (fun _ => ?_) (fun h => absurd (by first | decide | (with_reducible assumption)) h))
          | (refine R_br rfl rfl (fun _ => ?_) (fun _ => ?_))
          | (refine R_ri rfl rfl ?_)
          | (refine R_rz rfl rfl (Or.inl rfl) ?_)
          | (refine R_rz rfl rfl (Or.inr rfl) ?_)
          | (refine R_rz rfl rfl (b2_01 _) ?_)
          | (refine R_rl rfl rfl ?_)
          | (refine R_rv rfl rfl ?_)
          | (refine R_cv rfl (m_await 17 17 (by decide) (by decide) o ho hz) rfl rfl rfl rfl rfl (Nat.le_of_ble_eq_true rfl) rfl ?_)
          | (refine R_sw _ rfl rfl rfl ?_)
          | (refine R_go 9999 rfl rfl trivial ?_)
          | (refine R_go 9999 rfl rfl (by first | (show _ ∨ _; decide) | (show (_ ∨ _) ∧ (_ ∨ _); decide) | (show (_ ∨ _) ∧ (_ ∨ _) ∧ (_ ∨ _); decide)) ?_)
          | (refine R_go 9999 rfl rfl ?_ ?_))
      rintro r h' ⟨A', rfl, rfl, h2, hF⟩
      repeat' (first
          | (refine R_br rfl rfl (fun h => absurd h (by first | decide | (with_reducible assumption))) (fun _ => ?_))
          | (refine R_br rfl rfl (fun _ => ?_) (fun h => absurd (by first | decide | (with_reducible assumption)) h))
          | (refine R_br rfl rfl (fun _ => ?_) (fun _ => ?_))
          | (refine R_ri rfl rfl ?_)
          | (refine R_rz rfl rfl (Or.inl rfl) ?_)
          | (refine R_rz rfl rfl (Or.inr rfl) ?_)
          | (refine R_rz rfl rfl (b2_01 _) ?_)
          | (refine R_rl rfl rfl ?_)
          | (refine R_rv rfl rfl ?_)
          | (refine R_sw _ rfl rfl rfl ?_)
          | (refine R_go 9999 rfl rfl trivial ?_)
          | (refine R_go 9999 rfl rfl (by first | (show _ ∨ _; decide) | (show (_ ∨ _) ∧ (_ ∨ _); decide) | (show (_ ∨ _) ∧ (_ ∨ _) ∧ (_ ∨ _); decide)) ?_)
          | (refine R_go 9999 rfl rfl ?_ ?_))
      exact PM_y (FmO_tr (FmL_P hF) (by first | exact FmO_rf | (repeat' (first | exact FmO_rf | (with_reducible assumption) | (refine FmO_up ?_ (by decide)) | (refine FmO_ug ?_ (by decide) (by decide)))))) (RKM_6 (st' := 0) (RKM_L h hF)) (ROM_c h2 (by first | exact FmO_rf | (repeat' (first | exact FmO_rf | (with_reducible assumption) | (refine FmO_up ?_ (by decide)) | (refine FmO_ug ?_ (by decide) (by decide))))))
    · rw [if_neg (show ¬ (c = 38 ∨ c = 124) by omega), if_neg h1, if_neg h2]
      have n1 : ¬ nI c = 38 := by (simp only [i_eq, i_lt, i_le, Int32.reduceToInt, true_and, and_true, false_and, and_false, or_false, false_or, or_true, true_or, ne_eq] at *; first | done | omega)
      have n2 : ¬ nI c = 124 := by (simp only [i_eq, i_lt, i_le, Int32.reduceToInt, true_and, and_true, false_and, and_false, or_false, false_or, or_true, true_or, ne_eq] at *; first | done | omega)
      have e7 := h.2.1
      dsimp only at e7
      by_cases h3 : c = 41 ∧ 0 < dep
      · obtain ⟨rfl, h4⟩ := h3
        rw [if_pos rfl, if_pos h4, if_pos rfl]
        obtain ⟨d', rfl⟩ : ∃ d', dep = d' + 1 := ⟨dep - 1, by omega⟩
        have n3 : ¬ A 31 0 7 ≤ 0 := by rw [e7]; (simp only [i_eq, i_lt, i_le, Int32.reduceToInt, true_and, and_true, false_and, and_false, or_false, false_or, or_true, true_or, ne_eq] at *; first | done | omega)
        repeat' (first
            | (refine R_br rfl rfl (fun h => absurd h (by first | decide | (with_reducible assumption))) (fun _ => ?_))
            | (refine R_br rfl rfl (fun _ => ?_) (fun h => absurd (by first | decide | (with_reducible assumption)) h))
            | (refine R_br rfl rfl (fun _ => ?_) (fun _ => ?_))
            | (refine R_ri rfl rfl ?_)
            | (refine R_rz rfl rfl (Or.inl rfl) ?_)
            | (refine R_rz rfl rfl (Or.inr rfl) ?_)
            | (refine R_rz rfl rfl (b2_01 _) ?_)
            | (refine R_rl rfl rfl ?_)
            | (refine R_rv rfl rfl ?_)
            | (refine R_cv rfl (m_layDown 17 (by decide) o ho (by omega)) rfl rfl rfl rfl rfl (Nat.le_of_ble_eq_true rfl) rfl ?_)
            | (refine R_sw _ rfl rfl rfl ?_)
            | (refine R_go 9999 rfl rfl trivial ?_)
            | (refine R_go 9999 rfl rfl (by first | (show _ ∨ _; decide) | (show (_ ∨ _) ∧ (_ ∨ _); decide) | (show (_ ∨ _) ∧ (_ ∨ _) ∧ (_ ∨ _); decide)) ?_)
            | (refine R_go 9999 rfl rfl ?_ ?_))
        rintro r h' ⟨A', rfl, rfl, h2, hF⟩
        have hne := h18 h4
        cases hl : (ldn 17 o).2.2 with
        | nil => exact absurd hl hne
        | cons w s =>
          have hld : ldn 17 o = ((ldn 17 o).1, (ldn 17 o).2.1, w :: s) := by rw [← hl]
          rw [hld] at h2
          have e20 : A' 31 0 20 = nI (s.length + 1) := h2.2.2.2.2.2.2.1
          have h3 := ROM_pop h2
          have hk := RKM_L h hF
          have e7' : A' 31 0 7 = nI (d' + 1) := hk.2.1
          repeat' (first
              | (refine R_br rfl rfl (fun h => absurd h (by first | decide | (with_reducible assumption))) (fun _ => ?_))
              | (refine R_br rfl rfl (fun _ => ?_) (fun h => absurd (by first | decide | (with_reducible assumption)) h))
              | (refine R_br rfl rfl (fun _ => ?_) (fun _ => ?_))
              | (refine R_ri rfl rfl ?_)
              | (refine R_rz rfl rfl (Or.inl rfl) ?_)
              | (refine R_rz rfl rfl (Or.inr rfl) ?_)
              | (refine R_rz rfl rfl (b2_01 _) ?_)
              | (refine R_rl rfl rfl ?_)
              | (refine R_rv rfl rfl ?_)
              | (refine R_sw _ rfl rfl rfl ?_)
              | (refine R_go 9999 rfl rfl trivial ?_)
              | (refine R_go 9999 rfl rfl (by first | (show _ ∨ _; decide) | (show (_ ∨ _) ∧ (_ ∨ _); decide) | (show (_ ∨ _) ∧ (_ ∨ _) ∧ (_ ∨ _); decide)) ?_)
              | (refine R_go 9999 rfl rfl ?_ ?_))
          rw [e20, nI_pred, show up3 A' 31 0 20 (nI s.length) 31 0 7 = nI (d' + 1) by rw [up3_s (by decide)]; exact e7', nI_pred]
          refine PM_y (FmO_tr (FmL_P hF) (by first | exact FmO_rf | (repeat' (first | exact FmO_rf | (with_reducible assumption) | (refine FmO_up ?_ (by decide)) | (refine FmO_ug ?_ (by decide) (by decide)))))) ?_ (ROM_c h3 (by first | exact FmO_rf | (repeat' (first | exact FmO_rf | (with_reducible assumption) | (refine FmO_up ?_ (by decide)) | (refine FmO_ug ?_ (by decide) (by decide))))))
          obtain ⟨a, b, c, d, e, f⟩ := hk
          exact ⟨by simp [up3]; rfl, by simp [up3], by simp [up3, c], by simp [up3, d], by simp [up3, e], by simp [up3, f]⟩
      · have hrej : (if c = 41 then (if 0 < dep then some ((4, dep - 1, un, rt, bg, ls) : Ct) else none) else if c = 58 ∧ sort = 0 ∧ dep = 0 then some (5, dep, un, rt, bg, ls) else none) = if c = 58 ∧ sort = 0 ∧ dep = 0 then some (5, dep, un, rt, bg, ls) else none := by
          by_cases h5 : c = 41
          · rw [if_pos h5, if_neg (by omega), if_neg (by omega)]
          · rw [if_neg h5]
        rw [hrej]
        have hgo : Rn 3 mtX12_goOn 95 [some (.inr (.inr (some (31, 0)))), some (.inl (nI c)), some (.inl (nI sort))] [] (hp A B) (PM A B (Option.map (fun k' => (k', if c = 41 then ((ldn 17 o).1, (ldn 17 o).2.1, (ldn 17 o).2.2.tail) else ldn 17 o)) (if c = 58 ∧ sort = 0 ∧ dep = 0 then some (5, dep, un, rt, bg, ls) else none))) := by
          repeat' (first
              | (refine R_br rfl rfl (fun h => absurd h (by first | decide | (with_reducible assumption))) (fun _ => ?_))
              | (refine R_br rfl rfl (fun _ => ?_) (fun h => absurd (by first | decide | (with_reducible assumption)) h))
              | (refine R_br rfl rfl (fun _ => ?_) (fun _ => ?_))
              | (refine R_ri rfl rfl ?_)
              | (refine R_rz rfl rfl (Or.inl rfl) ?_)
              | (refine R_rz rfl rfl (Or.inr rfl) ?_)
              | (refine R_rz rfl rfl (b2_01 _) ?_)
              | (refine R_rl rfl rfl ?_)
              | (refine R_rv rfl rfl ?_)
              | (refine R_cv rfl (m_layDown 17 (by decide) o ho (by omega)) rfl rfl rfl rfl rfl (Nat.le_of_ble_eq_true rfl) rfl ?_)
              | (refine R_sw _ rfl rfl rfl ?_)
              | (refine R_go 9999 rfl rfl trivial ?_)
              | (refine R_go 9999 rfl rfl (by first | (show _ ∨ _; decide) | (show (_ ∨ _) ∧ (_ ∨ _); decide) | (show (_ ∨ _) ∧ (_ ∨ _) ∧ (_ ∨ _); decide)) ?_)
              | (refine R_go 9999 rfl rfl ?_ ?_))
          rintro r h' ⟨A', rfl, rfl, hro, hF⟩
          have hk := RKM_L h hF
          have e7' : A' 31 0 7 = nI dep := hk.2.1
          have e7'' : ∀ x, up3 A' 31 0 6 x 31 0 7 = nI dep := fun x => by rw [up3_s (by decide)]; exact e7'
          by_cases h5 : c = 58 ∧ sort = 0 ∧ dep = 0
          · rw [if_pos h5]
            obtain ⟨rfl, rfl, rfl⟩ := h5
            repeat' (first
                | (refine R_br rfl rfl (fun h => absurd h (by first | decide | (with_reducible assumption) | (simp only [i_eq, i_lt, i_le, Int32.reduceToInt, ne_eq, up3_self, nI_1, e7'']; first | done | omega))) (fun _ => ?_))
                | (refine R_br rfl rfl (fun _ => ?_) (fun h => absurd (by first | decide | (with_reducible assumption) | (simp only [i_eq, i_lt, i_le, Int32.reduceToInt, ne_eq, up3_self, nI_1, e7'']; first | done | omega)) h))
                | (refine R_br rfl rfl (fun _ => ?_) (fun _ => ?_))
                | (refine R_ri rfl rfl ?_)
                | (refine R_rz rfl rfl (Or.inl rfl) ?_)
                | (refine R_rz rfl rfl (Or.inr rfl) ?_)
                | (refine R_rz rfl rfl (b2_01 _) ?_)
                | (refine R_rl rfl rfl ?_)
                | (refine R_rv rfl rfl ?_)
                | (refine R_sw _ rfl rfl rfl ?_)
                | (refine R_go 9999 rfl rfl trivial ?_)
                | (refine R_go 9999 rfl rfl (by first | (show _ ∨ _; decide) | (show (_ ∨ _) ∧ (_ ∨ _); decide) | (show (_ ∨ _) ∧ (_ ∨ _) ∧ (_ ∨ _); decide)) ?_)
                | (refine R_go 9999 rfl rfl ?_ ?_))
            exact PM_y (FmO_tr (FmL_P hF) (by first | exact FmO_rf | (repeat' (first | exact FmO_rf | (with_reducible assumption) | (refine FmO_up ?_ (by decide)) | (refine FmO_ug ?_ (by decide) (by decide)))))) (RKM_6 (st' := 5) hk) (ROM_c hro (by first | exact FmO_rf | (repeat' (first | exact FmO_rf | (with_reducible assumption) | (refine FmO_up ?_ (by decide)) | (refine FmO_ug ?_ (by decide) (by decide))))))
          · rw [if_neg h5]
            repeat' (first
                | (refine R_br rfl rfl (fun h => absurd h (by first | decide | (with_reducible assumption) | (simp only [i_eq, i_lt, i_le, Int32.reduceToInt, ne_eq, up3_self, nI_1, e7'']; first | done | omega))) (fun _ => ?_))
                | (refine R_br rfl rfl (fun _ => ?_) (fun h => absurd (by first | decide | (with_reducible assumption) | (simp only [i_eq, i_lt, i_le, Int32.reduceToInt, ne_eq, up3_self, nI_1, e7'']; first | done | omega)) h))
                | (refine R_br rfl rfl (fun _ => ?_) (fun _ => ?_))
                | (refine R_ri rfl rfl ?_)
                | (refine R_rz rfl rfl (Or.inl rfl) ?_)
                | (refine R_rz rfl rfl (Or.inr rfl) ?_)
                | (refine R_rz rfl rfl (b2_01 _) ?_)
                | (refine R_rl rfl rfl ?_)
                | (refine R_rv rfl rfl ?_)
                | (refine R_sw _ rfl rfl rfl ?_)
                | (refine R_go 9999 rfl rfl trivial ?_)
                | (refine R_go 9999 rfl rfl (by first | (show _ ∨ _; decide) | (show (_ ∨ _) ∧ (_ ∨ _); decide) | (show (_ ∨ _) ∧ (_ ∨ _) ∧ (_ ∨ _); decide)) ?_)
                | (refine R_go 9999 rfl rfl ?_ ?_))
            all_goals first | exact PM_n (FmO_tr (FmL_P hF) (by first | exact FmO_rf | (repeat' (first | exact FmO_rf | (with_reducible assumption) | (refine FmO_up ?_ (by decide)) | (refine FmO_ug ?_ (by decide) (by decide)))))) | (exfalso; rw [e7''] at *; (simp only [i_eq, i_lt, i_le, Int32.reduceToInt, true_and, and_true, false_and, and_false, or_false, false_or, or_true, true_or, ne_eq] at *; first | done | omega))
        by_cases h5 : c = 41
        · have : dep = 0 := by omega
          subst this
          subst h5
          have n3 : A 31 0 7 ≤ 0 := by rw [e7]; decide
          repeat' (first
              | (refine R_stop 95 rfl rfl ?_)
              | (refine R_br rfl rfl (fun h => absurd h (by first | decide | (with_reducible assumption))) (fun _ => ?_))
              | (refine R_br rfl rfl (fun _ => ?_) (fun h => absurd (by first | decide | (with_reducible assumption)) h))
              | (refine R_br rfl rfl (fun _ => ?_) (fun _ => ?_))
              | (refine R_ri rfl rfl ?_)
              | (refine R_rz rfl rfl (Or.inl rfl) ?_)
              | (refine R_rz rfl rfl (Or.inr rfl) ?_)
              | (refine R_rz rfl rfl (b2_01 _) ?_)
              | (refine R_rl rfl rfl ?_)
              | (refine R_rv rfl rfl ?_)
              | (refine R_sw _ rfl rfl rfl ?_)
              | (refine R_go 95 rfl rfl trivial ?_)
              | (refine R_go 95 rfl rfl (by first | (show _ ∨ _; decide) | (show (_ ∨ _) ∧ (_ ∨ _); decide) | (show (_ ∨ _) ∧ (_ ∨ _) ∧ (_ ∨ _); decide)) ?_)
              | (refine R_go 95 rfl rfl ?_ ?_))
          exact ⟨hgo, trivial⟩
        · have n3 : ¬ nI c = 41 := by (simp only [i_eq, i_lt, i_le, Int32.reduceToInt, true_and, and_true, false_and, and_false, or_false, false_or, or_true, true_or, ne_eq] at *; first | done | omega)
          repeat' (first
              | (refine R_stop 95 rfl rfl ?_)
              | (refine R_br rfl rfl (fun h => absurd h (by first | decide | (with_reducible assumption))) (fun _ => ?_))
              | (refine R_br rfl rfl (fun _ => ?_) (fun h => absurd (by first | decide | (with_reducible assumption)) h))
              | (refine R_br rfl rfl (fun _ => ?_) (fun _ => ?_))
              | (refine R_ri rfl rfl ?_)
              | (refine R_rz rfl rfl (Or.inl rfl) ?_)
              | (refine R_rz rfl rfl (Or.inr rfl) ?_)
              | (refine R_rz rfl rfl (b2_01 _) ?_)
              | (refine R_rl rfl rfl ?_)
              | (refine R_rv rfl rfl ?_)
              | (refine R_sw _ rfl rfl rfl ?_)
              | (refine R_go 95 rfl rfl trivial ?_)
              | (refine R_go 95 rfl rfl (by first | (show _ ∨ _; decide) | (show (_ ∨ _) ∧ (_ ∨ _); decide) | (show (_ ∨ _) ∧ (_ ∨ _) ∧ (_ ∨ _); decide)) ?_)
              | (refine R_go 95 rfl rfl ?_ ?_))
          exact ⟨hgo, trivial⟩
theorem m_goBehind {A : FI} {B : FJ} (sort c st dep un : Nat) (rt bg ls : Bool) (o : Os) (hc : c ≤ 255) (hs : sort ≤ 1) (hd : dep ≤ 80) (hu : un ≤ 3) (h : RKM A (st, dep, un, rt, bg, ls)) (ho : ROM A o) (hz : szO o < 80) (h18 : 0 < dep → (ldn 17 o).2.2 ≠ []) : MV 4 2 mtX12_goBehind [.inr (.inr (some (31, 0))), .inl (nI c), .inl (nI sort)] (hp A B) (PM A B ((bM sort c dep un rt bg ls).map (fun k' => (k', eB c rt o)))) := by
  have tc := ti c (by omega)
  have tu := ti un (by omega)
  have tu1 := ti (un + 1) (by omega)
  have h0 := h
  obtain ⟨e6, e7, e8, e9, e10, e11⟩ := h
  dsimp only at e6 e7 e8 e9 e10 e11
  refine MV_of caX12_goBehind (L := [some (.inr (.inr (some (31, 0)))), some (.inl (nI c)), some (.inl (nI sort))]) rfl rfl ?_
  have hk9 : ∀ x, RKM (up3 A 31 0 9 (nI x)) (st, dep, x, rt, bg, ls) := fun x => ⟨by simp [up3, e6], by simp [up3, e7], by simp [up3, e8], by simp [up3], by simp [up3, e10], by simp [up3, e11]⟩
  have ho9 : ∀ x, ROM (up3 A 31 0 9 x) o := fun x => ROM_c ho (by first | exact FmO_rf | (repeat' (first | exact FmO_rf | (with_reducible assumption) | (refine FmO_up ?_ (by decide)) | (refine FmO_ug ?_ (by decide) (by decide)))))
  unfold bM eB
  by_cases h1 : c = 42 ∧ un < 3
  · obtain ⟨rfl, h2⟩ := h1
    rw [if_pos (Or.inl ⟨rfl, h2⟩), if_pos rfl, if_pos rfl]
    have n1 : A 31 0 9 < 3 := by rw [e9]; (simp only [i_eq, i_lt, i_le, Int32.reduceToInt, true_and, and_true, false_and, and_false, or_false, false_or, or_true, true_or, ne_eq] at *; first | done | omega)
    have e9' : A 31 0 9 + 1 = nI (un + 1) := by rw [e9, nI_1]
    repeat' (first
        | (refine R_br rfl rfl (fun h => absurd h (by first | decide | (with_reducible assumption))) (fun _ => ?_))
        | (refine R_br rfl rfl (fun _ => ?_) (fun h => absurd (by first | decide | (with_reducible assumption)) h))
        | (refine R_br rfl rfl (fun _ => ?_) (fun _ => ?_))
        | (refine R_ri rfl rfl ?_)
        | (refine R_rz rfl rfl (Or.inl rfl) ?_)
        | (refine R_rz rfl rfl (Or.inr rfl) ?_)
        | (refine R_rz rfl rfl (b2_01 _) ?_)
        | (refine R_rl rfl rfl ?_)
        | (refine R_rv rfl rfl ?_)
        | (rw [e9'])
        | (refine R_cv rfl (m_await 9 9 (by decide) (by decide) o (ho9 _) hz) rfl rfl rfl rfl rfl (Nat.le_of_ble_eq_true rfl) rfl ?_)
        | (refine R_sw _ rfl rfl rfl ?_)
        | (refine R_go 9999 rfl rfl trivial ?_)
        | (refine R_go 9999 rfl rfl (by first | (show _ ∨ _; decide) | (show (_ ∨ _) ∧ (_ ∨ _); decide) | (show (_ ∨ _) ∧ (_ ∨ _) ∧ (_ ∨ _); decide)) ?_)
        | (refine R_go 9999 rfl rfl ?_ ?_))
    rintro r h' ⟨A', rfl, rfl, h2, hF⟩
    repeat' (first
        | (refine R_br rfl rfl (fun h => absurd h (by first | decide | (with_reducible assumption))) (fun _ => ?_))
        | (refine R_br rfl rfl (fun _ => ?_) (fun h => absurd (by first | decide | (with_reducible assumption)) h))
        | (refine R_br rfl rfl (fun _ => ?_) (fun _ => ?_))
        | (refine R_ri rfl rfl ?_)
        | (refine R_rz rfl rfl (Or.inl rfl) ?_)
        | (refine R_rz rfl rfl (Or.inr rfl) ?_)
        | (refine R_rz rfl rfl (b2_01 _) ?_)
        | (refine R_rl rfl rfl ?_)
        | (refine R_rv rfl rfl ?_)
        | (refine R_sw _ rfl rfl rfl ?_)
        | (refine R_go 9999 rfl rfl trivial ?_)
        | (refine R_go 9999 rfl rfl (by first | (show _ ∨ _; decide) | (show (_ ∨ _) ∧ (_ ∨ _); decide) | (show (_ ∨ _) ∧ (_ ∨ _) ∧ (_ ∨ _); decide)) ?_)
        | (refine R_go 9999 rfl rfl ?_ ?_))
    exact PM_y (FmO_tr (by first | exact FmO_rf | (repeat' (first | exact FmO_rf | (with_reducible assumption) | (refine FmO_up ?_ (by decide)) | (refine FmO_ug ?_ (by decide) (by decide))))) (FmO_tr (FmL_P hF) (by first | exact FmO_rf | (repeat' (first | exact FmO_rf | (with_reducible assumption) | (refine FmO_up ?_ (by decide)) | (refine FmO_ug ?_ (by decide) (by decide))))))) (RKM_6 (st' := 1) (RKM_L (hk9 (un + 1)) hF)) (ROM_c h2 (by first | exact FmO_rf | (repeat' (first | exact FmO_rf | (with_reducible assumption) | (refine FmO_up ?_ (by decide)) | (refine FmO_ug ?_ (by decide) (by decide))))))
  · by_cases h2 : c = 43
    · subst h2
      rw [if_pos (show (43 = 42 ∧ un < 3) ∨ 43 = 43 ∨ 43 = 45 from Or.inr (Or.inl rfl)), if_neg (show ¬ 43 = 42 by decide), if_neg (show ¬ 43 = 42 by decide), if_pos rfl]
      repeat' (first
          | (refine R_br rfl rfl (fun h => absurd h (by first | decide | (with_reducible assumption))) (fun _ => ?_))
          | (refine R_br rfl rfl (fun _ => ?_) (fun h => absurd (by first | decide | (with_reducible assumption)) h))
          | (refine R_br rfl rfl (fun _ => ?_) (fun _ => ?_))
          | (refine R_ri rfl rfl ?_)
          | (refine R_rz rfl rfl (Or.inl rfl) ?_)
          | (refine R_rz rfl rfl (Or.inr rfl) ?_)
          | (refine R_rz rfl rfl (b2_01 _) ?_)
          | (refine R_rl rfl rfl ?_)
          | (refine R_rv rfl rfl ?_)
          | (refine R_cv rfl (m_await 11 10 (by decide) (by decide) o (ho9 _) hz) rfl rfl rfl rfl rfl (Nat.le_of_ble_eq_true rfl) rfl ?_)
          | (refine R_sw _ rfl rfl rfl ?_)
          | (refine R_go 9999 rfl rfl trivial ?_)
          | (refine R_go 9999 rfl rfl (by first | (show _ ∨ _; decide) | (show (_ ∨ _) ∧ (_ ∨ _); decide) | (show (_ ∨ _) ∧ (_ ∨ _) ∧ (_ ∨ _); decide)) ?_)
          | (refine R_go 9999 rfl rfl ?_ ?_))
      rintro r h' ⟨A', rfl, rfl, h2, hF⟩
      repeat' (first
          | (refine R_br rfl rfl (fun h => absurd h (by first | decide | (with_reducible assumption))) (fun _ => ?_))
          | (refine R_br rfl rfl (fun _ => ?_) (fun h => absurd (by first | decide | (with_reducible assumption)) h))
          | (refine R_br rfl rfl (fun _ => ?_) (fun _ => ?_))
          | (refine R_ri rfl rfl ?_)
          | (refine R_rz rfl rfl (Or.inl rfl) ?_)
          | (refine R_rz rfl rfl (Or.inr rfl) ?_)
          | (refine R_rz rfl rfl (b2_01 _) ?_)
          | (refine R_rl rfl rfl ?_)
          | (refine R_rv rfl rfl ?_)
          | (refine R_sw _ rfl rfl rfl ?_)
          | (refine R_go 9999 rfl rfl trivial ?_)
          | (refine R_go 9999 rfl rfl (by first | (show _ ∨ _; decide) | (show (_ ∨ _) ∧ (_ ∨ _); decide) | (show (_ ∨ _) ∧ (_ ∨ _) ∧ (_ ∨ _); decide)) ?_)
          | (refine R_go 9999 rfl rfl ?_ ?_))
      exact PM_y (FmO_tr (by first | exact FmO_rf | (repeat' (first | exact FmO_rf | (with_reducible assumption) | (refine FmO_up ?_ (by decide)) | (refine FmO_ug ?_ (by decide) (by decide))))) (FmO_tr (FmL_P hF) (by first | exact FmO_rf | (repeat' (first | exact FmO_rf | (with_reducible assumption) | (refine FmO_up ?_ (by decide)) | (refine FmO_ug ?_ (by decide) (by decide))))))) (RKM_6 (st' := 1) (RKM_L (hk9 1) hF)) (ROM_c h2 (by first | exact FmO_rf | (repeat' (first | exact FmO_rf | (with_reducible assumption) | (refine FmO_up ?_ (by decide)) | (refine FmO_ug ?_ (by decide) (by decide))))))
    · by_cases h3 : c = 45
      · subst h3
        rw [if_pos (show (45 = 42 ∧ un < 3) ∨ 45 = 43 ∨ 45 = 45 from Or.inr (Or.inr rfl)), if_neg (show ¬ 45 = 42 by decide), if_neg (show ¬ 45 = 42 by decide), if_neg (show ¬ 45 = 43 by decide), if_pos rfl]
        repeat' (first
            | (refine R_br rfl rfl (fun h => absurd h (by first | decide | (with_reducible assumption))) (fun _ => ?_))
            | (refine R_br rfl rfl (fun _ => ?_) (fun h => absurd (by first | decide | (with_reducible assumption)) h))
            | (refine R_br rfl rfl (fun _ => ?_) (fun _ => ?_))
            | (refine R_ri rfl rfl ?_)
            | (refine R_rz rfl rfl (Or.inl rfl) ?_)
            | (refine R_rz rfl rfl (Or.inr rfl) ?_)
            | (refine R_rz rfl rfl (b2_01 _) ?_)
            | (refine R_rl rfl rfl ?_)
            | (refine R_rv rfl rfl ?_)
            | (refine R_cv rfl (m_await 11 11 (by decide) (by decide) o (ho9 _) hz) rfl rfl rfl rfl rfl (Nat.le_of_ble_eq_true rfl) rfl ?_)
            | (refine R_sw _ rfl rfl rfl ?_)
            | (refine R_go 9999 rfl rfl trivial ?_)
            | (refine R_go 9999 rfl rfl (by first | (show _ ∨ _; decide) | (show (_ ∨ _) ∧ (_ ∨ _); decide) | (show (_ ∨ _) ∧ (_ ∨ _) ∧ (_ ∨ _); decide)) ?_)
            | (refine R_go 9999 rfl rfl ?_ ?_))
        rintro r h' ⟨A', rfl, rfl, h2, hF⟩
        repeat' (first
            | (refine R_br rfl rfl (fun h => absurd h (by first | decide | (with_reducible assumption))) (fun _ => ?_))
            | (refine R_br rfl rfl (fun _ => ?_) (fun h => absurd (by first | decide | (with_reducible assumption)) h))
            | (refine R_br rfl rfl (fun _ => ?_) (fun _ => ?_))
            | (refine R_ri rfl rfl ?_)
            | (refine R_rz rfl rfl (Or.inl rfl) ?_)
            | (refine R_rz rfl rfl (Or.inr rfl) ?_)
            | (refine R_rz rfl rfl (b2_01 _) ?_)
            | (refine R_rl rfl rfl ?_)
            | (refine R_rv rfl rfl ?_)
            | (refine R_sw _ rfl rfl rfl ?_)
            | (refine R_go 9999 rfl rfl trivial ?_)
            | (refine R_go 9999 rfl rfl (by first | (show _ ∨ _; decide) | (show (_ ∨ _) ∧ (_ ∨ _); decide) | (show (_ ∨ _) ∧ (_ ∨ _) ∧ (_ ∨ _); decide)) ?_)
            | (refine R_go 9999 rfl rfl ?_ ?_))
        exact PM_y (FmO_tr (by first | exact FmO_rf | (repeat' (first | exact FmO_rf | (with_reducible assumption) | (refine FmO_up ?_ (by decide)) | (refine FmO_ug ?_ (by decide) (by decide))))) (FmO_tr (FmL_P hF) (by first | exact FmO_rf | (repeat' (first | exact FmO_rf | (with_reducible assumption) | (refine FmO_up ?_ (by decide)) | (refine FmO_ug ?_ (by decide) (by decide))))))) (RKM_6 (st' := 1) (RKM_L (hk9 1) hF)) (ROM_c h2 (by first | exact FmO_rf | (repeat' (first | exact FmO_rf | (with_reducible assumption) | (refine FmO_up ?_ (by decide)) | (refine FmO_ug ?_ (by decide) (by decide))))))
      · rw [if_neg (show ¬ ((c = 42 ∧ un < 3) ∨ c = 43 ∨ c = 45) by omega)]
        have n2 : ¬ nI c = 43 := by (simp only [i_eq, i_lt, i_le, Int32.reduceToInt, true_and, and_true, false_and, and_false, or_false, false_or, or_true, true_or, ne_eq] at *; first | done | omega)
        have n3 : ¬ nI c = 45 := by (simp only [i_eq, i_lt, i_le, Int32.reduceToInt, true_and, and_true, false_and, and_false, or_false, false_or, or_true, true_or, ne_eq] at *; first | done | omega)
        have hgo : Rn 4 mtX12_goBehind 94 [some (.inr (.inr (some (31, 0)))), some (.inl (nI c)), some (.inl (nI sort))] [] (hp A B) (PM A B (Option.map (fun k' => (k', if c = 42 then awt 9 9 o else if c = 43 then awt 11 10 o else if c = 45 then awt 11 11 o else if rt = true then eO c o else awt 11 (c - 48) o)) (if rt = true then oC sort c dep un rt bg ls else if 60 ≤ c ∧ c ≤ 62 then some (1, dep, 1, true, bg, ls) else none))) := by
          cases rt with
          | true =>
            have n4 : ¬ A 31 0 8 = 0 := by rw [e8]; decide
            rw [if_pos rfl, if_pos rfl]
            have hpo : PM A B (Option.map (fun k' => (k', eO c o)) (oC sort c dep un true bg ls)) = PM A B (Option.map (fun k' => (k', if c = 42 then awt 9 9 o else if c = 43 then awt 11 10 o else if c = 45 then awt 11 11 o else eO c o)) (oC sort c dep un true bg ls)) := by
              by_cases h5 : c = 42
              · subst h5; rfl
              · rw [if_neg h5, if_neg h2, if_neg h3]
            rw [← hpo]
            repeat' (first
                | (refine R_br rfl rfl (fun h => absurd h (by first | decide | (with_reducible assumption))) (fun _ => ?_))
                | (refine R_br rfl rfl (fun _ => ?_) (fun h => absurd (by first | decide | (with_reducible assumption)) h))
                | (refine R_br rfl rfl (fun _ => ?_) (fun _ => ?_))
                | (refine R_ri rfl rfl ?_)
                | (refine R_rz rfl rfl (Or.inl rfl) ?_)
                | (refine R_rz rfl rfl (Or.inr rfl) ?_)
                | (refine R_rz rfl rfl (b2_01 _) ?_)
                | (refine R_rl rfl rfl ?_)
                | (refine R_rv rfl rfl ?_)
                | (refine R_cv rfl (m_goOn sort c st dep un true bg ls o hc hs hd h0 ho hz h18) rfl rfl rfl rfl rfl (Nat.le_of_ble_eq_true rfl) rfl ?_)
                | (refine R_sw _ rfl rfl rfl ?_)
                | (refine R_go 9999 rfl rfl trivial ?_)
                | (refine R_go 9999 rfl rfl (by first | (show _ ∨ _; decide) | (show (_ ∨ _) ∧ (_ ∨ _); decide) | (show (_ ∨ _) ∧ (_ ∨ _) ∧ (_ ∨ _); decide)) ?_)
                | (refine R_go 9999 rfl rfl ?_ ?_))
            exact R_tm rfl rfl (fun r h' k => k)
          | false =>
            have n4 : A 31 0 8 = 0 := by rw [e8]; decide
            rw [if_neg (show ¬ false = true by decide)]
            by_cases h4 : 60 ≤ c ∧ c ≤ 62
            · rw [if_pos h4, if_neg (show ¬ c = 42 by omega), if_neg h2, if_neg h3, if_neg (show ¬ false = true by decide)]
              rcases (show c = 60 ∨ c = 61 ∨ c = 62 by omega) with rfl | rfl | rfl
              ·
                repeat' (first
                    | (refine R_br rfl rfl (fun h => absurd h (by first | decide | (with_reducible assumption))) (fun _ => ?_))
                    | (refine R_br rfl rfl (fun _ => ?_) (fun h => absurd (by first | decide | (with_reducible assumption)) h))
                    | (refine R_br rfl rfl (fun _ => ?_) (fun _ => ?_))
                    | (refine R_ri rfl rfl ?_)
                    | (refine R_rz rfl rfl (Or.inl rfl) ?_)
                    | (refine R_rz rfl rfl (Or.inr rfl) ?_)
                    | (refine R_rz rfl rfl (b2_01 _) ?_)
                    | (refine R_rl rfl rfl ?_)
                    | (refine R_rv rfl rfl ?_)
                    | (refine R_cv rfl (m_await 11 12 (by decide) (by decide) o (ho9 _) hz) rfl rfl rfl rfl rfl (Nat.le_of_ble_eq_true rfl) rfl ?_)
                    | (refine R_sw _ rfl rfl rfl ?_)
                    | (refine R_go 9999 rfl rfl trivial ?_)
                    | (refine R_go 9999 rfl rfl (by first | (show _ ∨ _; decide) | (show (_ ∨ _) ∧ (_ ∨ _); decide) | (show (_ ∨ _) ∧ (_ ∨ _) ∧ (_ ∨ _); decide)) ?_)
                    | (refine R_go 9999 rfl rfl ?_ ?_))
                rintro r h' ⟨A', rfl, rfl, h2, hF⟩
                have hk := RKM_L (hk9 1) hF
                repeat' (first
                    | (refine R_br rfl rfl (fun h => absurd h (by first | decide | (with_reducible assumption))) (fun _ => ?_))
                    | (refine R_br rfl rfl (fun _ => ?_) (fun h => absurd (by first | decide | (with_reducible assumption)) h))
                    | (refine R_br rfl rfl (fun _ => ?_) (fun _ => ?_))
                    | (refine R_ri rfl rfl ?_)
                    | (refine R_rz rfl rfl (Or.inl rfl) ?_)
                    | (refine R_rz rfl rfl (Or.inr rfl) ?_)
                    | (refine R_rz rfl rfl (b2_01 _) ?_)
                    | (refine R_rl rfl rfl ?_)
                    | (refine R_rv rfl rfl ?_)
                    | (refine R_sw _ rfl rfl rfl ?_)
                    | (refine R_go 9999 rfl rfl trivial ?_)
                    | (refine R_go 9999 rfl rfl (by first | (show _ ∨ _; decide) | (show (_ ∨ _) ∧ (_ ∨ _); decide) | (show (_ ∨ _) ∧ (_ ∨ _) ∧ (_ ∨ _); decide)) ?_)
                    | (refine R_go 9999 rfl rfl ?_ ?_))
                refine PM_y (FmO_tr (by first | exact FmO_rf | (repeat' (first | exact FmO_rf | (with_reducible assumption) | (refine FmO_up ?_ (by decide)) | (refine FmO_ug ?_ (by decide) (by decide))))) (FmO_tr (FmL_P hF) (by first | exact FmO_rf | (repeat' (first | exact FmO_rf | (with_reducible assumption) | (refine FmO_up ?_ (by decide)) | (refine FmO_ug ?_ (by decide) (by decide))))))) ?_ (ROM_c h2 (by first | exact FmO_rf | (repeat' (first | exact FmO_rf | (with_reducible assumption) | (refine FmO_up ?_ (by decide)) | (refine FmO_ug ?_ (by decide) (by decide))))))
                obtain ⟨a, b, c, d, e, f⟩ := hk
                exact ⟨by simp [up3]; rfl, by simp [up3, b], by simp [up3, bI], by simp [up3, d], by simp [up3, e], by simp [up3, f]⟩
              ·
                repeat' (first
                    | (refine R_br rfl rfl (fun h => absurd h (by first | decide | (with_reducible assumption))) (fun _ => ?_))
                    | (refine R_br rfl rfl (fun _ => ?_) (fun h => absurd (by first | decide | (with_reducible assumption)) h))
                    | (refine R_br rfl rfl (fun _ => ?_) (fun _ => ?_))
                    | (refine R_ri rfl rfl ?_)
                    | (refine R_rz rfl rfl (Or.inl rfl) ?_)
                    | (refine R_rz rfl rfl (Or.inr rfl) ?_)
                    | (refine R_rz rfl rfl (b2_01 _) ?_)
                    | (refine R_rl rfl rfl ?_)
                    | (refine R_rv rfl rfl ?_)
                    | (refine R_cv rfl (m_await 11 13 (by decide) (by decide) o (ho9 _) hz) rfl rfl rfl rfl rfl (Nat.le_of_ble_eq_true rfl) rfl ?_)
                    | (refine R_sw _ rfl rfl rfl ?_)
                    | (refine R_go 9999 rfl rfl trivial ?_)
                    | (refine R_go 9999 rfl rfl (by first | (show _ ∨ _; decide) | (show (_ ∨ _) ∧ (_ ∨ _); decide) | (show (_ ∨ _) ∧ (_ ∨ _) ∧ (_ ∨ _); decide)) ?_)
                    | (refine R_go 9999 rfl rfl ?_ ?_))
                rintro r h' ⟨A', rfl, rfl, h2, hF⟩
                have hk := RKM_L (hk9 1) hF
                repeat' (first
                    | (refine R_br rfl rfl (fun h => absurd h (by first | decide | (with_reducible assumption))) (fun _ => ?_))
                    | (refine R_br rfl rfl (fun _ => ?_) (fun h => absurd (by first | decide | (with_reducible assumption)) h))
                    | (refine R_br rfl rfl (fun _ => ?_) (fun _ => ?_))
                    | (refine R_ri rfl rfl ?_)
                    | (refine R_rz rfl rfl (Or.inl rfl) ?_)
                    | (refine R_rz rfl rfl (Or.inr rfl) ?_)
                    | (refine R_rz rfl rfl (b2_01 _) ?_)
                    | (refine R_rl rfl rfl ?_)
                    | (refine R_rv rfl rfl ?_)
                    | (refine R_sw _ rfl rfl rfl ?_)
                    | (refine R_go 9999 rfl rfl trivial ?_)
                    | (refine R_go 9999 rfl rfl (by first | (show _ ∨ _; decide) | (show (_ ∨ _) ∧ (_ ∨ _); decide) | (show (_ ∨ _) ∧ (_ ∨ _) ∧ (_ ∨ _); decide)) ?_)
                    | (refine R_go 9999 rfl rfl ?_ ?_))
                refine PM_y (FmO_tr (by first | exact FmO_rf | (repeat' (first | exact FmO_rf | (with_reducible assumption) | (refine FmO_up ?_ (by decide)) | (refine FmO_ug ?_ (by decide) (by decide))))) (FmO_tr (FmL_P hF) (by first | exact FmO_rf | (repeat' (first | exact FmO_rf | (with_reducible assumption) | (refine FmO_up ?_ (by decide)) | (refine FmO_ug ?_ (by decide) (by decide))))))) ?_ (ROM_c h2 (by first | exact FmO_rf | (repeat' (first | exact FmO_rf | (with_reducible assumption) | (refine FmO_up ?_ (by decide)) | (refine FmO_ug ?_ (by decide) (by decide))))))
                obtain ⟨a, b, c, d, e, f⟩ := hk
                exact ⟨by simp [up3]; rfl, by simp [up3, b], by simp [up3, bI], by simp [up3, d], by simp [up3, e], by simp [up3, f]⟩
              ·
                repeat' (first
                    | (refine R_br rfl rfl (fun h => absurd h (by first | decide | (with_reducible assumption))) (fun _ => ?_))
                    | (refine R_br rfl rfl (fun _ => ?_) (fun h => absurd (by first | decide | (with_reducible assumption)) h))
                    | (refine R_br rfl rfl (fun _ => ?_) (fun _ => ?_))
                    | (refine R_ri rfl rfl ?_)
                    | (refine R_rz rfl rfl (Or.inl rfl) ?_)
                    | (refine R_rz rfl rfl (Or.inr rfl) ?_)
                    | (refine R_rz rfl rfl (b2_01 _) ?_)
                    | (refine R_rl rfl rfl ?_)
                    | (refine R_rv rfl rfl ?_)
                    | (refine R_cv rfl (m_await 11 14 (by decide) (by decide) o (ho9 _) hz) rfl rfl rfl rfl rfl (Nat.le_of_ble_eq_true rfl) rfl ?_)
                    | (refine R_sw _ rfl rfl rfl ?_)
                    | (refine R_go 9999 rfl rfl trivial ?_)
                    | (refine R_go 9999 rfl rfl (by first | (show _ ∨ _; decide) | (show (_ ∨ _) ∧ (_ ∨ _); decide) | (show (_ ∨ _) ∧ (_ ∨ _) ∧ (_ ∨ _); decide)) ?_)
                    | (refine R_go 9999 rfl rfl ?_ ?_))
                rintro r h' ⟨A', rfl, rfl, h2, hF⟩
                have hk := RKM_L (hk9 1) hF
                repeat' (first
                    | (refine R_br rfl rfl (fun h => absurd h (by first | decide | (with_reducible assumption))) (fun _ => ?_))
                    | (refine R_br rfl rfl (fun _ => ?_) (fun h => absurd (by first | decide | (with_reducible assumption)) h))
                    | (refine R_br rfl rfl (fun _ => ?_) (fun _ => ?_))
                    | (refine R_ri rfl rfl ?_)
                    | (refine R_rz rfl rfl (Or.inl rfl) ?_)
                    | (refine R_rz rfl rfl (Or.inr rfl) ?_)
                    | (refine R_rz rfl rfl (b2_01 _) ?_)
                    | (refine R_rl rfl rfl ?_)
                    | (refine R_rv rfl rfl ?_)
                    | (refine R_sw _ rfl rfl rfl ?_)
                    | (refine R_go 9999 rfl rfl trivial ?_)
                    | (refine R_go 9999 rfl rfl (by first | (show _ ∨ _; decide) | (show (_ ∨ _) ∧ (_ ∨ _); decide) | (show (_ ∨ _) ∧ (_ ∨ _) ∧ (_ ∨ _); decide)) ?_)
                    | (refine R_go 9999 rfl rfl ?_ ?_))
                refine PM_y (FmO_tr (by first | exact FmO_rf | (repeat' (first | exact FmO_rf | (with_reducible assumption) | (refine FmO_up ?_ (by decide)) | (refine FmO_ug ?_ (by decide) (by decide))))) (FmO_tr (FmL_P hF) (by first | exact FmO_rf | (repeat' (first | exact FmO_rf | (with_reducible assumption) | (refine FmO_up ?_ (by decide)) | (refine FmO_ug ?_ (by decide) (by decide))))))) ?_ (ROM_c h2 (by first | exact FmO_rf | (repeat' (first | exact FmO_rf | (with_reducible assumption) | (refine FmO_up ?_ (by decide)) | (refine FmO_ug ?_ (by decide) (by decide))))))
                obtain ⟨a, b, c, d, e, f⟩ := hk
                exact ⟨by simp [up3]; rfl, by simp [up3, b], by simp [up3, bI], by simp [up3, d], by simp [up3, e], by simp [up3, f]⟩
            · rw [if_neg h4]
              have n5 : ¬ nI c = 60 := by (simp only [i_eq, i_lt, i_le, Int32.reduceToInt, true_and, and_true, false_and, and_false, or_false, false_or, or_true, true_or, ne_eq] at *; first | done | omega)
              have n6 : ¬ nI c = 61 := by (simp only [i_eq, i_lt, i_le, Int32.reduceToInt, true_and, and_true, false_and, and_false, or_false, false_or, or_true, true_or, ne_eq] at *; first | done | omega)
              have n7 : ¬ nI c = 62 := by (simp only [i_eq, i_lt, i_le, Int32.reduceToInt, true_and, and_true, false_and, and_false, or_false, false_or, or_true, true_or, ne_eq] at *; first | done | omega)
              repeat' (first
                  | (refine R_br rfl rfl (fun h => absurd h (by first | decide | (with_reducible assumption))) (fun _ => ?_))
                  | (refine R_br rfl rfl (fun _ => ?_) (fun h => absurd (by first | decide | (with_reducible assumption)) h))
                  | (refine R_br rfl rfl (fun _ => ?_) (fun _ => ?_))
                  | (refine R_ri rfl rfl ?_)
                  | (refine R_rz rfl rfl (Or.inl rfl) ?_)
                  | (refine R_rz rfl rfl (Or.inr rfl) ?_)
                  | (refine R_rz rfl rfl (b2_01 _) ?_)
                  | (refine R_rl rfl rfl ?_)
                  | (refine R_rv rfl rfl ?_)
                  | (refine R_cv rfl (m_await 11 14 (by decide) (by decide) o (ho9 _) hz) rfl rfl rfl rfl rfl (Nat.le_of_ble_eq_true rfl) rfl ?_)
                  | (refine R_sw _ rfl rfl rfl ?_)
                  | (refine R_go 9999 rfl rfl trivial ?_)
                  | (refine R_go 9999 rfl rfl (by first | (show _ ∨ _; decide) | (show (_ ∨ _) ∧ (_ ∨ _); decide) | (show (_ ∨ _) ∧ (_ ∨ _) ∧ (_ ∨ _); decide)) ?_)
                  | (refine R_go 9999 rfl rfl ?_ ?_))
              rintro r h' ⟨A', rfl, rfl, h2, hF⟩
              repeat' (first
                  | (refine R_br rfl rfl (fun h => absurd h (by first | decide | (with_reducible assumption))) (fun _ => ?_))
                  | (refine R_br rfl rfl (fun _ => ?_) (fun h => absurd (by first | decide | (with_reducible assumption)) h))
                  | (refine R_br rfl rfl (fun _ => ?_) (fun _ => ?_))
                  | (refine R_ri rfl rfl ?_)
                  | (refine R_rz rfl rfl (Or.inl rfl) ?_)
                  | (refine R_rz rfl rfl (Or.inr rfl) ?_)
                  | (refine R_rz rfl rfl (b2_01 _) ?_)
                  | (refine R_rl rfl rfl ?_)
                  | (refine R_rv rfl rfl ?_)
                  | (refine R_sw _ rfl rfl rfl ?_)
                  | (refine R_go 9999 rfl rfl trivial ?_)
                  | (refine R_go 9999 rfl rfl (by first | (show _ ∨ _; decide) | (show (_ ∨ _) ∧ (_ ∨ _); decide) | (show (_ ∨ _) ∧ (_ ∨ _) ∧ (_ ∨ _); decide)) ?_)
                  | (refine R_go 9999 rfl rfl ?_ ?_))
              exact PM_n (FmO_tr (by first | exact FmO_rf | (repeat' (first | exact FmO_rf | (with_reducible assumption) | (refine FmO_up ?_ (by decide)) | (refine FmO_ug ?_ (by decide) (by decide))))) (FmO_tr (FmL_P hF) (by first | exact FmO_rf | (repeat' (first | exact FmO_rf | (with_reducible assumption) | (refine FmO_up ?_ (by decide)) | (refine FmO_ug ?_ (by decide) (by decide)))))))
        by_cases h5 : c = 42
        · subst h5
          have n1 : ¬ A 31 0 9 < 3 := by rw [e9]; (simp only [i_eq, i_lt, i_le, Int32.reduceToInt, true_and, and_true, false_and, and_false, or_false, false_or, or_true, true_or, ne_eq] at *; first | done | omega)
          repeat' (first
              | (refine R_stop 94 rfl rfl ?_)
              | (refine R_br rfl rfl (fun h => absurd h (by first | decide | (with_reducible assumption))) (fun _ => ?_))
              | (refine R_br rfl rfl (fun _ => ?_) (fun h => absurd (by first | decide | (with_reducible assumption)) h))
              | (refine R_br rfl rfl (fun _ => ?_) (fun _ => ?_))
              | (refine R_ri rfl rfl ?_)
              | (refine R_rz rfl rfl (Or.inl rfl) ?_)
              | (refine R_rz rfl rfl (Or.inr rfl) ?_)
              | (refine R_rz rfl rfl (b2_01 _) ?_)
              | (refine R_rl rfl rfl ?_)
              | (refine R_rv rfl rfl ?_)
              | (refine R_sw _ rfl rfl rfl ?_)
              | (refine R_go 94 rfl rfl trivial ?_)
              | (refine R_go 94 rfl rfl (by first | (show _ ∨ _; decide) | (show (_ ∨ _) ∧ (_ ∨ _); decide) | (show (_ ∨ _) ∧ (_ ∨ _) ∧ (_ ∨ _); decide)) ?_)
              | (refine R_go 94 rfl rfl ?_ ?_))
          exact ⟨hgo, trivial⟩
        · have n1 : ¬ nI c = 42 := by (simp only [i_eq, i_lt, i_le, Int32.reduceToInt, true_and, and_true, false_and, and_false, or_false, false_or, or_true, true_or, ne_eq] at *; first | done | omega)
          repeat' (first
              | (refine R_stop 94 rfl rfl ?_)
              | (refine R_br rfl rfl (fun h => absurd h (by first | decide | (with_reducible assumption))) (fun _ => ?_))
              | (refine R_br rfl rfl (fun _ => ?_) (fun h => absurd (by first | decide | (with_reducible assumption)) h))
              | (refine R_br rfl rfl (fun _ => ?_) (fun _ => ?_))
              | (refine R_ri rfl rfl ?_)
              | (refine R_rz rfl rfl (Or.inl rfl) ?_)
              | (refine R_rz rfl rfl (Or.inr rfl) ?_)
              | (refine R_rz rfl rfl (b2_01 _) ?_)
              | (refine R_rl rfl rfl ?_)
              | (refine R_rv rfl rfl ?_)
              | (refine R_sw _ rfl rfl rfl ?_)
              | (refine R_go 94 rfl rfl trivial ?_)
              | (refine R_go 94 rfl rfl (by first | (show _ ∨ _; decide) | (show (_ ∨ _) ∧ (_ ∨ _); decide) | (show (_ ∨ _) ∧ (_ ∨ _) ∧ (_ ∨ _); decide)) ?_)
              | (refine R_go 94 rfl rfl ?_ ?_))
          exact ⟨hgo, trivial⟩
theorem m_goFactor {A : FI} {B : FJ} (sort c dep un : Nat) (rt bg ls : Bool) (o : Os) (hc : c ≤ 255) (hs : sort ≤ 1) (h : RKM A (0, dep, un, rt, bg, ls)) (ho : ROM A o) (hz : szO o < 80) : MV 2 2 mtX12_goFactor [.inr (.inr (some (31, 0))), .inl (nI c), .inl (nI sort)] (hp A B) (PM A B ((fM sort c dep un rt bg ls).map (fun k' => (k', if c = 33 then (o.1, o.2.1, 15 :: o.2.2) else if c = 40 then (o.1, o.2.1, 18 :: o.2.2) else if c = 58 then o else eU c o)))) := by
  have tc := ti c (by omega)
  have ts := ti sort (by omega)
  have h0 := h
  obtain ⟨e6, e7, e8, e9, e10, e11⟩ := h
  dsimp only at e6 e7 e8 e9 e10 e11
  have e20 := ho.2.2.2.2.2.2.1
  have hl : o.2.2.length < 80 := by simp only [szO] at hz; omega
  have cl : (nI o.2.2.length).toNatClampNeg = o.2.2.length := nI_clamp (by omega)
  have e20' : ∀ x, up3 A 41 0 o.2.2.length x 31 0 20 = nI o.2.2.length := fun x => by rw [up3_g (by decide)]; exact e20
  refine MV_of caX12_goFactor (L := [some (.inr (.inr (some (31, 0)))), some (.inl (nI c)), some (.inl (nI sort))]) rfl rfl ?_
  unfold fM
  by_cases h1 : c = 33
  · subst h1
    rw [if_pos (show 33 = 33 ∨ 33 = 40 from Or.inl rfl), if_neg (show ¬ 33 = 40 by decide), if_pos rfl]
    repeat' (first
        | (refine R_br rfl rfl (fun h => absurd h (by first | decide | (with_reducible assumption))) (fun _ => ?_))
        | (refine R_br rfl rfl (fun _ => ?_) (fun h => absurd (by first | decide | (with_reducible assumption)) h))
        | (refine R_br rfl rfl (fun _ => ?_) (fun _ => ?_))
        | (refine R_ri rfl rfl ?_)
        | (refine R_rz rfl rfl (Or.inl rfl) ?_)
        | (refine R_rz rfl rfl (Or.inr rfl) ?_)
        | (refine R_rz rfl rfl (b2_01 _) ?_)
        | (refine R_rl rfl rfl ?_)
        | (refine R_rv rfl rfl ?_)
        | (refine R_sw _ rfl rfl rfl ?_)
        | (refine R_go 9999 rfl rfl trivial ?_)
        | (refine R_go 9999 rfl rfl (by first | (show _ ∨ _; decide) | (show (_ ∨ _) ∧ (_ ∨ _); decide) | (show (_ ∨ _) ∧ (_ ∨ _) ∧ (_ ∨ _); decide)) ?_)
        | (refine R_go 9999 rfl rfl ?_ ?_))
    · rw [e20]; exact vpN (n := 80) hl rfl
    · rw [e20, cl, e20', nI_1, show ∀ x y, up3 (up3 A 41 0 o.2.2.length x) 31 0 20 y 31 0 7 + 0 = nI dep from fun x y => by rw [up3_s (by decide), up3_g (by decide), e7]; exact nI_add dep 0]
      exact PM_y (by first | exact FmO_rf | (repeat' (first | exact FmO_rf | (with_reducible assumption) | (refine FmO_up ?_ (by decide)) | (refine FmO_ug ?_ (by decide) (by decide))))) ⟨by simp [up3, e6], by simp [up3], by simp [up3, e8], by simp [up3, e9], by simp [up3, bI], by simp [up3, e11]⟩ (ROM_c (ROM_push ho (w := 15) (by decide)) (by first | exact FmO_rf | (repeat' (first | exact FmO_rf | (with_reducible assumption) | (refine FmO_up ?_ (by decide)) | (refine FmO_ug ?_ (by decide) (by decide))))))
  · have n1 : ¬ nI c = 33 := by (simp only [i_eq, i_lt, i_le, Int32.reduceToInt, true_and, and_true, false_and, and_false, or_false, false_or, or_true, true_or, ne_eq] at *; first | done | omega)
    by_cases h2 : c = 40
    · subst h2
      rw [if_pos (show 40 = 33 ∨ 40 = 40 from Or.inr rfl), if_pos (show 40 = 40 from rfl), if_neg (show ¬ 40 = 33 by decide), if_pos (show 40 = 40 from rfl)]
      repeat' (first
          | (refine R_br rfl rfl (fun h => absurd h (by first | decide | (with_reducible assumption))) (fun _ => ?_))
          | (refine R_br rfl rfl (fun _ => ?_) (fun h => absurd (by first | decide | (with_reducible assumption)) h))
          | (refine R_br rfl rfl (fun _ => ?_) (fun _ => ?_))
          | (refine R_ri rfl rfl ?_)
          | (refine R_rz rfl rfl (Or.inl rfl) ?_)
          | (refine R_rz rfl rfl (Or.inr rfl) ?_)
          | (refine R_rz rfl rfl (b2_01 _) ?_)
          | (refine R_rl rfl rfl ?_)
          | (refine R_rv rfl rfl ?_)
          | (refine R_sw _ rfl rfl rfl ?_)
          | (refine R_go 9999 rfl rfl trivial ?_)
          | (refine R_go 9999 rfl rfl (by first | (show _ ∨ _; decide) | (show (_ ∨ _) ∧ (_ ∨ _); decide) | (show (_ ∨ _) ∧ (_ ∨ _) ∧ (_ ∨ _); decide)) ?_)
          | (refine R_go 9999 rfl rfl ?_ ?_))
      · rw [e20]; exact vpN (n := 80) hl rfl
      · rw [e20, cl, e20', nI_1, show ∀ x y, up3 (up3 A 41 0 o.2.2.length x) 31 0 20 y 31 0 7 + 1 = nI (dep + 1) from fun x y => by rw [up3_s (by decide), up3_g (by decide), e7]; exact nI_add dep 1]
        exact PM_y (by first | exact FmO_rf | (repeat' (first | exact FmO_rf | (with_reducible assumption) | (refine FmO_up ?_ (by decide)) | (refine FmO_ug ?_ (by decide) (by decide))))) ⟨by simp [up3, e6], by simp [up3], by simp [up3, e8], by simp [up3, e9], by simp [up3, bI], by simp [up3, e11]⟩ (ROM_c (ROM_push ho (w := 18) (by decide)) (by first | exact FmO_rf | (repeat' (first | exact FmO_rf | (with_reducible assumption) | (refine FmO_up ?_ (by decide)) | (refine FmO_ug ?_ (by decide) (by decide))))))
    · have n2 : ¬ nI c = 40 := by (simp only [i_eq, i_lt, i_le, Int32.reduceToInt, true_and, and_true, false_and, and_false, or_false, false_or, or_true, true_or, ne_eq] at *; first | done | omega)
      rw [if_neg (show ¬ (c = 33 ∨ c = 40) by omega), if_neg h1, if_neg h2]
      have hfin : ¬ (c = 58 ∧ sort = 0 ∧ bg = false) → Rn 2 mtX12_goFactor 100 [some (.inr (.inr (some (31, 0)))), some (.inl (nI c)), some (.inl (nI sort))] [] (hp A B) (PM A B (Option.map (fun k' => (k', if c = 58 then o else eU c o)) (uC c dep 1 false true ls))) := by
        intro hno
        have hpo : PM A B (Option.map (fun k' => (k', eU c o)) (uC c dep 1 false true ls)) = PM A B (Option.map (fun k' => (k', if c = 58 then o else eU c o)) (uC c dep 1 false true ls)) := by
          by_cases h5 : c = 58
          · subst h5; rfl
          · rw [if_neg h5]
        rw [← hpo]
        have hr : RKM (up3 (up3 (up3 A 31 0 10 1) 31 0 8 0) 31 0 9 1) (0, dep, 1, false, true, ls) := ⟨by simp [up3, e6], by simp [up3, e7], by simp [up3, bI], by simp [up3]; rfl, by simp [up3, bI], by simp [up3, e11]⟩
        have ho' : ROM (up3 (up3 (up3 A 31 0 10 1) 31 0 8 0) 31 0 9 1) o := ROM_c ho (by first | exact FmO_rf | (repeat' (first | exact FmO_rf | (with_reducible assumption) | (refine FmO_up ?_ (by decide)) | (refine FmO_ug ?_ (by decide) (by decide)))))
        repeat' (first
            | (refine R_br rfl rfl (fun h => absurd h (by first | decide | (with_reducible assumption))) (fun _ => ?_))
            | (refine R_br rfl rfl (fun _ => ?_) (fun h => absurd (by first | decide | (with_reducible assumption)) h))
            | (refine R_br rfl rfl (fun _ => ?_) (fun _ => ?_))
            | (refine R_ri rfl rfl ?_)
            | (refine R_rz rfl rfl (Or.inl rfl) ?_)
            | (refine R_rz rfl rfl (Or.inr rfl) ?_)
            | (refine R_rz rfl rfl (b2_01 _) ?_)
            | (refine R_rl rfl rfl ?_)
            | (refine R_rv rfl rfl ?_)
            | (refine R_cv rfl (m_takeUnit c 0 dep 1 false true ls o hc hr ho' hz) rfl rfl rfl rfl rfl (Nat.le_of_ble_eq_true rfl) rfl ?_)
            | (refine R_sw _ rfl rfl rfl ?_)
            | (refine R_go 9999 rfl rfl trivial ?_)
            | (refine R_go 9999 rfl rfl (by first | (show _ ∨ _; decide) | (show (_ ∨ _) ∧ (_ ∨ _); decide) | (show (_ ∨ _) ∧ (_ ∨ _) ∧ (_ ∨ _); decide)) ?_)
            | (refine R_go 9999 rfl rfl ?_ ?_))
        exact R_tm rfl rfl (fun r h' k => PM_tr (by first | exact FmO_rf | (repeat' (first | exact FmO_rf | (with_reducible assumption) | (refine FmO_up ?_ (by decide)) | (refine FmO_ug ?_ (by decide) (by decide))))) k)
      by_cases h3 : c = 58 ∧ sort = 0 ∧ bg = false
      · rw [if_pos h3]
        obtain ⟨rfl, rfl, rfl⟩ := h3
        rw [if_pos rfl]
        have n4 : A 31 0 10 = 0 := by rw [e10]; decide
        repeat' (first
            | (refine R_br rfl rfl (fun h => absurd h (by first | decide | (with_reducible assumption))) (fun _ => ?_))
            | (refine R_br rfl rfl (fun _ => ?_) (fun h => absurd (by first | decide | (with_reducible assumption)) h))
            | (refine R_br rfl rfl (fun _ => ?_) (fun _ => ?_))
            | (refine R_ri rfl rfl ?_)
            | (refine R_rz rfl rfl (Or.inl rfl) ?_)
            | (refine R_rz rfl rfl (Or.inr rfl) ?_)
            | (refine R_rz rfl rfl (b2_01 _) ?_)
            | (refine R_rl rfl rfl ?_)
            | (refine R_rv rfl rfl ?_)
            | (refine R_sw _ rfl rfl rfl ?_)
            | (refine R_go 9999 rfl rfl trivial ?_)
            | (refine R_go 9999 rfl rfl (by first | (show _ ∨ _; decide) | (show (_ ∨ _) ∧ (_ ∨ _); decide) | (show (_ ∨ _) ∧ (_ ∨ _) ∧ (_ ∨ _); decide)) ?_)
            | (refine R_go 9999 rfl rfl ?_ ?_))
        exact PM_y (by first | exact FmO_rf | (repeat' (first | exact FmO_rf | (with_reducible assumption) | (refine FmO_up ?_ (by decide)) | (refine FmO_ug ?_ (by decide) (by decide))))) ⟨by simp [up3]; rfl, by simp [up3, e7], by simp [up3, e8], by simp [up3, e9], by simp [up3, e10], by simp [up3, bI]⟩ (ROM_c ho (by first | exact FmO_rf | (repeat' (first | exact FmO_rf | (with_reducible assumption) | (refine FmO_up ?_ (by decide)) | (refine FmO_ug ?_ (by decide) (by decide))))))
      · rw [if_neg h3]
        repeat' (first
            | (refine R_stop 100 rfl rfl ?_)
            | (refine R_br rfl rfl (fun h => absurd h (by first | decide | (with_reducible assumption))) (fun _ => ?_))
            | (refine R_br rfl rfl (fun _ => ?_) (fun h => absurd (by first | decide | (with_reducible assumption)) h))
            | (refine R_br rfl rfl (fun _ => ?_) (fun _ => ?_))
            | (refine R_ri rfl rfl ?_)
            | (refine R_rz rfl rfl (Or.inl rfl) ?_)
            | (refine R_rz rfl rfl (Or.inr rfl) ?_)
            | (refine R_rz rfl rfl (b2_01 _) ?_)
            | (refine R_rl rfl rfl ?_)
            | (refine R_rv rfl rfl ?_)
            | (refine R_sw _ rfl rfl rfl ?_)
            | (refine R_go 100 rfl rfl trivial ?_)
            | (refine R_go 100 rfl rfl (by first | (show _ ∨ _; decide) | (show (_ ∨ _) ∧ (_ ∨ _); decide) | (show (_ ∨ _) ∧ (_ ∨ _) ∧ (_ ∨ _); decide)) ?_)
            | (refine R_go 100 rfl rfl ?_ ?_))
        · exfalso
          rename_i a b c
          apply h3
          refine ⟨by (simp only [i_eq, i_lt, i_le, Int32.reduceToInt, true_and, and_true, false_and, and_false, or_false, false_or, or_true, true_or, ne_eq] at *; first | done | omega), by (simp only [i_eq, i_lt, i_le, Int32.reduceToInt, true_and, and_true, false_and, and_false, or_false, false_or, or_true, true_or, ne_eq] at *; first | done | omega), ?_⟩
          cases bg
          · rfl
          · rw [e10] at c; exact absurd c (by decide)
        all_goals exact ⟨hfin h3, trivial⟩
