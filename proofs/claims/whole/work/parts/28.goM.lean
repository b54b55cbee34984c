def flat (o : Os) : List Tk := (o.1.map Prod.fst).flatten ++ o.2.1
def cum : Nat → List (List Tk × Nat) → List Nat
  | _, [] => []
  | n, l :: t => (n + l.1.length) :: cum (n + l.1.length) t
def layD (most : Nat) : List Nat → List Tk → List Tk × List Nat
  | [], cur => (cur, [])
  | w :: s, cur => if w ≤ most then layD most s (cur ++ [(w, 0)]) else (cur, w :: s)
def ldn (most : Nat) (o : Os) : Os := (o.1, layD most o.2.2 o.2.1)
def awt (most m : Nat) (o : Os) : Os := (o.1, (layD most o.2.2 o.2.1).1, m :: (layD most o.2.2 o.2.1).2)
def lyt (o : Os) (t : Tk) : Os := (o.1, o.2.1 ++ [t], o.2.2)
def szO (o : Os) : Nat := (flat o).length + o.2.2.length
theorem flat_s (dn : List (List Tk × Nat)) (cur : List Tk) (t : Tk) (s s' : List Nat) : flat (dn, cur ++ [t], s) = flat (dn, cur, s') ++ [t] := by simp [flat]
theorem layD_le (most : Nat) : ∀ (s : List Nat) (cur : List Tk), (layD most s cur).1.length + (layD most s cur).2.length = cur.length + s.length := by
  intro s
  induction s with
  | nil => intro cur; rfl
  | cons w s ih =>
    intro cur
    unfold layD
    split
    · rw [ih]; simp; omega
    · rfl
theorem layD_in (most : Nat) : ∀ (s : List Nat) (cur : List Tk) (w : Nat), w ∈ (layD most s cur).2 → w ∈ s := by
  intro s
  induction s with
  | nil => intro cur w h; exact h
  | cons v s ih =>
    intro cur w h
    unfold layD at h
    split at h
    · exact List.mem_cons_of_mem _ (ih _ _ h)
    · exact h
theorem sz_ldn (most : Nat) (o : Os) : szO (ldn most o) = szO o := by
  have := layD_le most o.2.2 o.2.1
  simp only [szO, ldn, flat, List.length_append]
  omega
def RKM (A : FI) (k : Ct) : Prop := A 31 0 6 = nI k.1 ∧ A 31 0 7 = nI k.2.1 ∧ A 31 0 8 = bI k.2.2.2.1 ∧ A 31 0 9 = nI k.2.2.1 ∧ A 31 0 10 = bI k.2.2.2.2.1 ∧ A 31 0 11 = bI k.2.2.2.2.2
def ROM (A : FI) (o : Os) : Prop := A 31 0 15 = nI (flat o).length ∧ al (A 37 0) ((flat o).map Prod.fst) ∧ al (A 38 0) ((flat o).map Prod.snd) ∧ A 31 0 18 = nI o.1.length ∧ al (A 39 0) (cum 0 o.1) ∧ al (A 40 0) (o.1.map Prod.snd) ∧ A 31 0 20 = nI o.2.2.length ∧ al (A 41 0) o.2.2.reverse ∧ ∀ w ∈ o.2.2, w ≤ 18
abbrev FmP (A A' : FI) : Prop := FmO 31 [37, 38, 39, 40, 41] [6, 7, 8, 9, 10, 11, 15, 18, 20] A A'
abbrev FmL (A A' : FI) : Prop := FmO 31 [37, 38, 41] [15, 20] A A'
theorem FmO_w {g0 : Nat} {gs ss gs' ss' : List Nat} {A A' : FI} (h : FmO g0 gs ss A A') (h1 : ∀ x ∈ gs, x ∈ gs') (h2 : ∀ x ∈ ss, x ∈ ss') : FmO g0 gs' ss' A A' := ⟨fun g a b => h.1 g a (fun z => b (h1 g z)), fun s a => h.2 s (fun z => a (h2 s z))⟩
theorem FmL_P {A A' : FI} (h : FmL A A') : FmP A A' := FmO_w h (by decide) (by decide)
theorem RKM_L {A A' : FI} {k : Ct} (h : RKM A k) (hF : FmL A A') : RKM A' k := by
  obtain ⟨a, b, c, d, e, f⟩ := h
  exact ⟨by rw [hF.2 6 (by decide)]; exact a, by rw [hF.2 7 (by decide)]; exact b, by rw [hF.2 8 (by decide)]; exact c, by rw [hF.2 9 (by decide)]; exact d, by rw [hF.2 10 (by decide)]; exact e, by rw [hF.2 11 (by decide)]; exact f⟩
/-- fields of the control leave what was read as it is -/
theorem ROM_c {A A' : FI} {o : Os} (h : ROM A o) (hF : FmO 31 [] [6, 7, 8, 9, 10, 11] A A') : ROM A' o := by
  obtain ⟨a1, a2, a3, a4, a5, a6, a7, a8, a9⟩ := h
  exact ⟨by rw [hF.2 15 (by decide)]; exact a1, by rw [hF.1 37 (by decide) (by decide)]; exact a2, by rw [hF.1 38 (by decide) (by decide)]; exact a3, by rw [hF.2 18 (by decide)]; exact a4, by rw [hF.1 39 (by decide) (by decide)]; exact a5, by rw [hF.1 40 (by decide) (by decide)]; exact a6, by rw [hF.2 20 (by decide)]; exact a7, by rw [hF.1 41 (by decide) (by decide)]; exact a8, a9⟩
theorem m_lay {A : FI} {B : FJ} (n : Nat) (hn : n < 80) (x y : Int32) (h : A 31 0 15 = nI n) : MV 0 2 mtX12_lay [.inr (.inr (some (31, 0))), .inl x, .inl y] (hp A B) (Ret none (hp (up3 (up3 (up3 A 37 0 n x) 38 0 n y) 31 0 15 (nI (n + 1))) B)) := by
  refine MV_of caX12_lay (L := [some (.inr (.inr (some (31, 0)))), some (.inl x), some (.inl y)]) rfl rfl ?_
  have cl : (nI n).toNatClampNeg = n := nI_clamp (by omega)
  have h2 : up3 A 37 0 n x 31 0 15 = nI n := by simp [up3, h]
  have h3 : up3 (up3 A 37 0 n x) 38 0 n y 31 0 15 = nI n := by simp [up3, h]
  repeat' (first
      | (refine R_br rfl rfl (fun h => absurd h (by first | decide | (with_reducible assumption))) (fun _ => ?_))
      | (refine R_br rfl rfl (fun _ => ?_) (fun h => absurd (by first | decide | (with_reducible assumption)) h))
      | (refine R_br rfl rfl (fun _ => ?_) (fun _ => ?_))
      | (refine R_ri rfl rfl ?_)
      | (refine R_rz rfl rfl (Or.inl rfl) ?_)
      | (refine R_rz rfl rfl (Or.inr rfl) ?_)
      | (refine R_rz rfl rfl (b2_01 _) ?_)
      | (refine R_rl rfl rfl ?_)
      | (refine R_rv rfl rfl ?_)
      | (refine R_sw _ rfl rfl rfl ?_)
      | (refine R_go 9999 rfl rfl trivial ?_)
      | (refine R_go 9999 rfl rfl (by first | (show _ ∨ _; decide) | (show (_ ∨ _) ∧ (_ ∨ _); decide) | (show (_ ∨ _) ∧ (_ ∨ _) ∧ (_ ∨ _); decide)) ?_)
      | (refine R_go 9999 rfl rfl ?_ ?_))
  · rw [h, cl, h2]; exact ⟨vpN (n := 80) hn rfl, vpN (n := 80) hn rfl⟩
  · rw [h, cl, h2, cl, h3, nI_1]; exact ret_v rfl
theorem ROM_lay {A : FI} {o : Os} (h : ROM A o) (m v : Nat) : ROM (up3 (up3 (up3 A 37 0 (flat o).length (nI m)) 38 0 (flat o).length (nI v)) 31 0 15 (nI ((flat o).length + 1))) (lyt o (m, v)) := by
  obtain ⟨a1, a2, a3, a4, a5, a6, a7, a8, a9⟩ := h
  obtain ⟨dn, cur, s⟩ := o
  refine ⟨?_, ?_, ?_, ?_, ?_, ?_, ?_, ?_, a9⟩
  · simp [up3_self, lyt, flat_s dn cur (m, v) s s]
  · rw [show flat (lyt (dn, cur, s) (m, v)) = flat (dn, cur, s) ++ [(m, v)] from flat_s _ _ _ _ _, List.map_append, up3_g (by decide), up3_g (by decide)]
    exact al_upn a2 (by simp)
  · rw [show flat (lyt (dn, cur, s) (m, v)) = flat (dn, cur, s) ++ [(m, v)] from flat_s _ _ _ _ _, List.map_append, up3_g (by decide)]
    refine al_upn ?_ (by simp)
    rw [up3_g (by decide)]
    exact a3
  · simp only [up3_s (show 18 ≠ 15 by decide), up3_g (show 31 ≠ 37 by decide), up3_g (show 31 ≠ 38 by decide), lyt]; exact a4
  · simp only [up3_g (show 39 ≠ 37 by decide), up3_g (show 39 ≠ 38 by decide), up3_g (show 39 ≠ 31 by decide), lyt]; exact a5
  · simp only [up3_g (show 40 ≠ 37 by decide), up3_g (show 40 ≠ 38 by decide), up3_g (show 40 ≠ 31 by decide), lyt]; exact a6
  · simp only [up3_s (show 20 ≠ 15 by decide), up3_g (show 31 ≠ 37 by decide), up3_g (show 31 ≠ 38 by decide), lyt]; exact a7
  · simp only [up3_g (show 41 ≠ 37 by decide), up3_g (show 41 ≠ 38 by decide), up3_g (show 41 ≠ 31 by decide), lyt]; exact a8
theorem ROM_pop {A : FI} {dn : List (List Tk × Nat)} {cur : List Tk} {w : Nat} {s : List Nat} (h : ROM A (dn, cur, w :: s)) : ROM (up3 A 31 0 20 (nI s.length)) (dn, cur, s) := by
  obtain ⟨a1, a2, a3, a4, a5, a6, a7, a8, a9⟩ := h
  refine ⟨?_, ?_, ?_, ?_, ?_, ?_, up3_self, ?_, fun w hw => a9 w (List.mem_cons_of_mem _ hw)⟩
  · rw [up3_s (by decide)]; exact a1
  · rw [up3_g (by decide)]; exact a2
  · rw [up3_g (by decide)]; exact a3
  · rw [up3_s (by decide)]; exact a4
  · rw [up3_g (by decide)]; exact a5
  · rw [up3_g (by decide)]; exact a6
  · rw [up3_g (by decide)]
    have : al (A 41 0) (s.reverse ++ [w]) := by simpa using a8
    exact al_init this
theorem ROM_push {A : FI} {dn : List (List Tk × Nat)} {cur : List Tk} {w : Nat} {s : List Nat} (h : ROM A (dn, cur, s)) (hw : w ≤ 18) : ROM (up3 (up3 A 41 0 s.length (nI w)) 31 0 20 (nI (s.length + 1))) (dn, cur, w :: s) := by
  obtain ⟨a1, a2, a3, a4, a5, a6, a7, a8, a9⟩ := h
  refine ⟨?_, ?_, ?_, ?_, ?_, ?_, up3_self, ?_, fun v hv => ?_⟩
  · rw [up3_s (by decide), up3_g (by decide)]; exact a1
  · rw [up3_g (by decide), up3_g (by decide)]; exact a2
  · rw [up3_g (by decide), up3_g (by decide)]; exact a3
  · rw [up3_s (by decide), up3_g (by decide)]; exact a4
  · rw [up3_g (by decide), up3_g (by decide)]; exact a5
  · rw [up3_g (by decide), up3_g (by decide)]; exact a6
  · rw [up3_g (by decide), List.reverse_cons]
    exact al_upn a8 (by simp)
  · rcases List.mem_cons.mp hv with rfl | hv
    · exact hw
    · exact a9 v hv
theorem l_layDown (most : Nat) (hm : most ≤ 18) (B : FJ) (dn : List (List Tk × Nat)) : ∀ (s : List Nat) (cur : List Tk) (A : FI), ROM A (dn, cur, s) → szO (dn, cur, s) ≤ 80 → Rn 1 mtX12_layDown 0 [some (.inr (.inr (some (31, 0)))), some (.inl (nI most))] [] (hp A B) (fun r h' => ∃ A', r = none ∧ h' = hp A' B ∧ ROM A' (dn, layD most s cur) ∧ FmL A A') := by
  intro s
  induction s with
  | nil =>
    intro cur A h hz
    have e : A 31 0 20 = 0 := h.2.2.2.2.2.2.1
    repeat' (first
        | (refine R_br rfl rfl (fun h => absurd h (by first | decide | (with_reducible assumption) | (simp only [i_eq, i_lt, i_le, Int32.reduceToInt, ne_eq, up3_self, nI_1, e]; first | done | omega))) (fun _ => ?_))
        | (refine R_br rfl rfl (fun _ => ?_) (fun h => absurd (by first | decide | (with_reducible assumption) | (simp only [i_eq, i_lt, i_le, Int32.reduceToInt, ne_eq, up3_self, nI_1, e]; first | done | omega)) h))
        | (refine R_br rfl rfl (fun _ => ?_) (fun _ => ?_))
        | (refine R_ri rfl rfl ?_)
        | (refine R_rz rfl rfl (Or.inl rfl) ?_)
        | (refine R_rz rfl rfl (Or.inr rfl) ?_)
        | (refine R_rz rfl rfl (b2_01 _) ?_)
        | (refine R_rl rfl rfl ?_)
        | (refine R_rv rfl rfl ?_)
        | (refine R_sw _ rfl rfl rfl ?_)
        | (refine R_go 9999 rfl rfl trivial ?_)
        | (refine R_go 9999 rfl rfl (by first | (show _ ∨ _; decide) | (show (_ ∨ _) ∧ (_ ∨ _); decide) | (show (_ ∨ _) ∧ (_ ∨ _) ∧ (_ ∨ _); decide)) ?_)
        | (refine R_go 9999 rfl rfl ?_ ?_))
    exact ⟨A, rfl, rfl, h, FmO_rf⟩
  | cons w s ih =>
    intro cur A h hz
    have e := h.2.2.2.2.2.2.1
    have e15 := h.1
    have hw18 := h.2.2.2.2.2.2.2.2 w List.mem_cons_self
    have tm := ti most (by omega)
    have tw := ti w (by omega)
    simp only [szO, List.length_cons] at hz
    have ts := ti (s.length + 1) (by omega)
    have ts0 := ti s.length (by omega)
    have cl : (nI s.length).toNatClampNeg = s.length := nI_clamp (by omega)
    have e' : A 31 0 20 = nI (s.length + 1) := e
    have e2 : A 31 0 20 - 1 = nI s.length := by rw [e', nI_pred]
    have ew : A 41 0 s.length = nI w := by
      have h8 := h.2.2.2.2.2.2.2.1
      have : al (A 41 0) (s.reverse ++ [w]) := by simpa using h8
      have := al_last this
      simpa using this
    have hv : vp_in (A 31 0 20 - 1) 80 := by rw [e2]; exact vpN (n := 80) (by omega) rfl
    have hv2 : vp_in (nI s.length) 80 := vpN (n := 80) (by omega) rfl
    unfold layD
    refine R_go 9999 rfl rfl trivial ?_
    refine R_br rfl rfl (fun h => absurd h (by rw [e']; (simp only [i_eq, i_lt, i_le, Int32.reduceToInt, true_and, and_true, false_and, and_false, or_false, false_or, or_true, true_or, ne_eq] at *; first | done | omega))) (fun _ => ?_)
    refine R_go 9999 rfl rfl hv ?_
    rw [e2, cl, ew]
    by_cases hwm : w ≤ most
    · rw [if_pos hwm]
      refine R_br rfl rfl (fun h => absurd h (by (simp only [i_eq, i_lt, i_le, Int32.reduceToInt, true_and, and_true, false_and, and_false, or_false, false_or, or_true, true_or, ne_eq] at *; first | done | omega))) (fun _ => ?_)
      have hp1 := ROM_pop h
      have hf : (flat (dn, cur, s)).length = (flat (dn, cur, w :: s)).length := rfl
      refine R_go 9999 rfl rfl ?_ ?_
      · rw [e2, up3_self]; exact hv2
      rw [e2, up3_self, cl, show up3 A 31 0 20 (nI s.length) 41 0 s.length = nI w by rw [up3_g (by decide)]; exact ew]
      refine R_cvv rfl (m_lay (flat (dn, cur, s)).length (by omega) (nI w) 0 hp1.1) rfl rfl rfl rfl rfl (Nat.le_of_ble_eq_true rfl) rfl ?_
      refine R_go 0 rfl rfl trivial ?_
      refine R_mono ?_ (ih (cur ++ [(w, 0)]) _ (ROM_lay hp1 w 0) ?_)
      · rintro r h' ⟨A', a1, a2, a3, a4⟩
        exact ⟨A', a1, a2, a3, FmO_tr (by first | exact FmO_rf | (repeat' (first | exact FmO_rf | (with_reducible assumption) | (refine FmO_up ?_ (by decide)) | (refine FmO_ug ?_ (by decide) (by decide))))) a4⟩
      · simp only [szO, lyt, flat_s dn cur (w, 0) s (w :: s), List.length_append, List.length_singleton] at hz ⊢
        omega
    · rw [if_neg hwm]
      refine R_br rfl rfl (fun _ => ?_) (fun h => absurd (by (simp only [i_eq, i_lt, i_le, Int32.reduceToInt, true_and, and_true, false_and, and_false, or_false, false_or, or_true, true_or, ne_eq] at *; first | done | omega)) h)
      repeat' (first
          | (refine R_br rfl rfl (fun h => absurd h (by first | decide | (with_reducible assumption))) (fun _ => ?_))
          | (refine R_br rfl rfl (fun _ => ?_) (fun h => absurd (by first | decide | (with_reducible assumption)) h))
          | (refine R_br rfl rfl (fun _ => ?_) (fun _ => ?_))
          | (refine R_ri rfl rfl ?_)
          | (refine R_rz rfl rfl (Or.inl rfl) ?_)
          | (refine R_rz rfl rfl (Or.inr rfl) ?_)
          | (refine R_rz rfl rfl (b2_01 _) ?_)
          | (refine R_rl rfl rfl ?_)
          | (refine R_rv rfl rfl ?_)
          | (refine R_sw _ rfl rfl rfl ?_)
          | (refine R_go 9999 rfl rfl trivial ?_)
          | (refine R_go 9999 rfl rfl (by first | (show _ ∨ _; decide) | (show (_ ∨ _) ∧ (_ ∨ _); decide) | (show (_ ∨ _) ∧ (_ ∨ _) ∧ (_ ∨ _); decide)) ?_)
          | (refine R_go 9999 rfl rfl ?_ ?_))
      exact ⟨A, rfl, rfl, h, FmO_rf⟩
theorem m_layDown {A : FI} {B : FJ} (most : Nat) (hm : most ≤ 18) (o : Os) (h : ROM A o) (hz : szO o ≤ 80) : MV 1 1 mtX12_layDown [.inr (.inr (some (31, 0))), .inl (nI most)] (hp A B) (fun r h' => ∃ A', r = none ∧ h' = hp A' B ∧ ROM A' (ldn most o) ∧ FmL A A') := by
  refine MV_of caX12_layDown (L := [some (.inr (.inr (some (31, 0)))), some (.inl (nI most))]) rfl rfl ?_
  exact l_layDown most hm B o.1 o.2.2 o.2.1 A h hz
theorem m_await {A : FI} {B : FJ} (most m : Nat) (hm : most ≤ 18) (hm2 : m ≤ 18) (o : Os) (h : ROM A o) (hz : szO o < 80) : MV 2 2 mtX12_await [.inr (.inr (some (31, 0))), .inl (nI most), .inl (nI m)] (hp A B) (fun r h' => ∃ A', r = none ∧ h' = hp A' B ∧ ROM A' (awt most m o) ∧ FmL A A') := by
  refine MV_of caX12_await (L := [some (.inr (.inr (some (31, 0)))), some (.inl (nI most)), some (.inl (nI m))]) rfl rfl ?_
  repeat' (first
      | (refine R_br rfl rfl (fun h => absurd h (by first | decide | (with_reducible assumption))) (fun _ => ?_))
      | (refine R_br rfl rfl (fun _ => ?_) (fun h => absurd (by first | decide | (with_reducible assumption)) h))
      | (refine R_br rfl rfl (fun _ => ?_) (fun _ => ?_))
      | (refine R_ri rfl rfl ?_)
      | (refine R_rz rfl rfl (Or.inl rfl) ?_)
      | (refine R_rz rfl rfl (Or.inr rfl) ?_)
      | (refine R_rz rfl rfl (b2_01 _) ?_)
      | (refine R_rl rfl rfl ?_)
      | (refine R_rv rfl rfl ?_)
      | (refine R_cv rfl (m_layDown most hm o h (by omega)) rfl rfl rfl rfl rfl (Nat.le_of_ble_eq_true rfl) rfl ?_)
      | (refine R_sw _ rfl rfl rfl ?_)
      | (refine R_go 9999 rfl rfl trivial ?_)
      | (refine R_go 9999 rfl rfl (by first | (show _ ∨ _; decide) | (show (_ ∨ _) ∧ (_ ∨ _); decide) | (show (_ ∨ _) ∧ (_ ∨ _) ∧ (_ ∨ _); decide)) ?_)
      | (refine R_go 9999 rfl rfl ?_ ?_))
  rintro r h' ⟨A', rfl, rfl, h2, hF⟩
  have hz2 := sz_ldn most o
  have e := h2.2.2.2.2.2.2.1
  have hl : (ldn most o).2.2.length < 80 := by simp only [szO] at hz2 hz; omega
  have cl : (nI (ldn most o).2.2.length).toNatClampNeg = (ldn most o).2.2.length := nI_clamp (by omega)
  have e3 : ∀ x, up3 A' 41 0 (ldn most o).2.2.length x 31 0 20 = nI (ldn most o).2.2.length := fun x => by rw [up3_g (by decide)]; exact e
  repeat' (first
      | (refine R_br rfl rfl (fun h => absurd h (by first | decide | (with_reducible assumption))) (fun _ => ?_))
      | (refine R_br rfl rfl (fun _ => ?_) (fun h => absurd (by first | decide | (with_reducible assumption)) h))
      | (refine R_br rfl rfl (fun _ => ?_) (fun _ => ?_))
      | (refine R_ri rfl rfl ?_)
      | (refine R_rz rfl rfl (Or.inl rfl) ?_)
      | (refine R_rz rfl rfl (Or.inr rfl) ?_)
      | (refine R_rz rfl rfl (b2_01 _) ?_)
      | (refine R_rl rfl rfl ?_)
      | (refine R_rv rfl rfl ?_)
      | (refine R_sw _ rfl rfl rfl ?_)
      | (refine R_go 9999 rfl rfl trivial ?_)
      | (refine R_go 9999 rfl rfl (by first | (show _ ∨ _; decide) | (show (_ ∨ _) ∧ (_ ∨ _); decide) | (show (_ ∨ _) ∧ (_ ∨ _) ∧ (_ ∨ _); decide)) ?_)
      | (refine R_go 9999 rfl rfl ?_ ?_))
  · rw [e]; exact vpN (n := 80) hl rfl
  · rw [e, cl, e3, nI_1]
    exact ⟨_, rfl, rfl, ROM_push h2 hm2, FmO_tr hF (by first | exact FmO_rf | (repeat' (first | exact FmO_rf | (with_reducible assumption) | (refine FmO_up ?_ (by decide)) | (refine FmO_ug ?_ (by decide) (by decide)))))⟩
