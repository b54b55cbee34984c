def szk (o : Os) : Nat := szO o + ln1 o
theorem ln_eM5 (c : Nat) (k : Ct) (o : Os) (h : ¬ k.1 = 5) : ln1 (eM c k o) = ln1 o := by
  unfold eM
  rw [if_neg h]
  repeat' split
  all_goals first | rw [ln_eU] | rw [ln_eB] | rw [ln_eO] | rfl
theorem szk_eM (c : Nat) (k : Ct) (o : Os) : szk (eM c k o) ≤ szk o + 1 := by
  by_cases h : k.1 = 5
  · have : eM c k o = (o.1 ++ [(o.2.1, c - 48)], [], o.2.2) := by
      unfold eM
      rw [if_neg (by omega), if_neg (by omega), if_neg (by omega), if_neg (by omega), if_neg (by omega), if_pos h]
    rw [this]
    simp only [szk, ln1, szO, flat, List.length_append, List.length_cons, List.map_append, List.flatten_append, List.map_cons, List.map_nil, List.flatten_cons, List.flatten_nil, List.append_nil, List.length_nil]
    omega
  · have h1 := ln_eM5 c k o h
    have h2 := sz_eM c k o
    unfold szk
    omega
theorem szk_cur (o : Os) : o.2.1.length ≤ szk o := by simp only [szk, szO, flat, List.length_append]; omega
theorem mRn_PV (sort : Nat) : ∀ (t : List Nat) (k : Ct) (o : Os), PV k o → szk o + t.length ≤ 80 → PV (mRn sort t (k, o)).2.1 (mRn sort t (k, o)).2.2 ∧ szk (mRn sort t (k, o)).2.2 ≤ szk o + t.length := by
  intro t
  induction t with
  | nil => intro k o h hz; exact ⟨h, by simp [mRn]⟩
  | cons c t ih =>
    intro k o h hz
    rw [mRn]
    simp only [List.length_cons] at hz
    cases hc : cM sort c k with
    | none => simp only; exact ⟨h, by omega⟩
    | some k' =>
      have h1 := szk_eM c k o
      have h2 := szk_cur o
      have := ih k' (eM c k o) (PV_step (by omega) hc h) (by omega)
      simp only
      exact ⟨this.1, by have := this.2; simp only [List.length_cons]; omega⟩
def oF (sort : Nat) (p : List Nat) : Os := (mRn sort p (k0, o0)).2.2
theorem prog_ok {p : List Nat} (h : whC 0 p) (hl : p.length ≤ 80) : ∃ dn, oF 0 p = (dn, [], []) ∧ (∃ i d, dn = i ++ [([], d)] ∧ d ≤ 1 ∧ allW i) ∧ szk (oF 0 p) ≤ 80 := by
  obtain ⟨h1, h2⟩ := h
  have hk := (mRn_c 0 p k0 k0 o0 (krl_rf _)).2
  have hP := mRn_PV 0 p k0 o0 PV_0 (by simp [szk, ln1, szO, flat, o0]; omega)
  have h7 : (mRn 0 p (k0, o0)).2.1.1 = 7 := by rw [← hk.1]; omega
  have hz : szk (oF 0 p) ≤ 80 := Nat.le_trans hP.2 (by simp [szk, ln1, szO, flat, o0]; omega)
  obtain ⟨⟨hn, ⟨nt, bs, hw, hs⟩, hd⟩, -⟩ := hP
  unfold PVs at hs
  rw [h7] at hs
  have h3 : (mRn 0 p (k0, o0)).2.2.2.2 = [] ∧ (mRn 0 p (k0, o0)).2.2.2.1 = [] := by
    rcases hs with ⟨z, -⟩ | ⟨z, -⟩ | ⟨z, -⟩ | ⟨z, -⟩ | ⟨z, -⟩ | ⟨-, a, b, -⟩
    · omega
    · omega
    · omega
    · omega
    · omega
    · exact ⟨a, b⟩
  rcases hd with ⟨z, -⟩ | ⟨-, i, d, e, hd, hi⟩
  · exact absurd h7 z
  · refine ⟨(mRn 0 p (k0, o0)).2.2.1, ?_, ⟨i, d, e, hd, hi⟩, hz⟩
    show (mRn 0 p (k0, o0)).2.2 = _
    rw [← h3.1, ← h3.2]
theorem mRn_1 : ∀ (t : List Nat) (k : Ct) (o : Os), o.1 = [] → k.1 ≤ 4 → (mRn 1 t (k, o)).2.2.1 = [] ∧ (mRn 1 t (k, o)).2.1.1 ≤ 4 := by
  intro t
  induction t with
  | nil => intro k o h hk; exact ⟨h, hk⟩
  | cons c t ih =>
    intro k o h hk
    rw [mRn]
    cases hc : cM 1 c k with
    | none => simp only; exact ⟨h, hk⟩
    | some k' =>
      simp only
      refine ih k' (eM c k o) ?_ ?_
      · have h1 := ln_eM5 c k o (by omega)
        unfold ln1 at h1
        rw [h] at h1
        exact List.eq_nil_of_length_eq_zero h1
      · obtain ⟨st, dep, un, rt, bg, ls⟩ := k
        unfold cM fM bM uC oC at hc
        dsimp only at hc hk
        repeat' split at hc
        all_goals first | (cases hc; done) | (cases hc; dsimp only; omega)
theorem law_ok {p : List Nat} (h : whC 1 p) (hl : p.length ≤ 80) : ∃ l, ldn 17 (oF 1 p) = ([], l, []) ∧ wfs (0, []) l = some (1, []) ∧ l.length ≤ 80 ∧ (oF 1 p).1 = [] ∧ szk (oF 1 p) ≤ 80 := by
  obtain ⟨h1, h2⟩ := h
  have hk := (mRn_c 1 p k0 k0 o0 (krl_rf _)).2
  have hP := mRn_PV 1 p k0 o0 PV_0 (by simp [szk, ln1, szO, flat, o0]; omega)
  have hz : szk (oF 1 p) ≤ 80 := Nat.le_trans hP.2 (by simp [szk, ln1, szO, flat, o0]; omega)
  have h0 := (mRn_1 p k0 o0 rfl (by decide)).1
  have hs := sz_ldn 17 (oF 1 p)
  have hdn : (oF 1 p).1 = [] := h0
  have key : ONs (oF 1 p).2.1 (oF 1 p).2.2 ∧ n18 (oF 1 p).2.2 = 0 := by
    have hcur := szk_cur (oF 1 p)
    obtain ⟨⟨hn, ⟨nt, bs, hw, hs⟩, hd⟩, -⟩ := hP
    rcases h2 with ⟨z, -⟩ | ⟨-, hdep, hst⟩
    · exact absurd z (by decide)
    · refine ⟨?_, by rw [← hdep, hk.2.1]; exact hn⟩
      rw [hk.1] at hst
      rcases hs with ⟨z, -⟩ | ⟨z, -⟩ | ⟨hst2, ⟨x, r, b', e1, e2, e3, e4, e5, -⟩, -⟩ | ⟨z, e1, e2, e3, -⟩ | ⟨z, -⟩ | ⟨z, -⟩
      · omega
      · omega
      · have hrt : (mRn 1 p (k0, o0)).2.1.2.2.2.1 = true := by
          rw [← (hk.2.2.2 (by rw [hk.1]; omega) (by rw [hk.1]; omega)).2]
          rcases hst with ⟨-, z⟩ | z
          · exact z
          · omega
        rw [hrt] at e5
        show ONs (mRn 1 p (k0, o0)).2.2.2.1 (mRn 1 p (k0, o0)).2.2.2.2
        rw [e1]
        rw [e4] at hw
        exact ON_3 (by show (oF 1 p).2.1.length ≤ 80; omega) hw e2 e3 e5
      · rw [e1, e2] at hw
        exact ON_4 e3 hw
      · omega
      · omega
  obtain ⟨cur', r', a, b, w, d, e⟩ := key.1 17 (by decide) (by decide)
  have hr : r' = [] := by
    rcases e with e | ⟨v, r2, e, hv⟩
    · exact e
    · subst e
      have hv18 : v = 18 := by have := b v List.mem_cons_self; omega
      subst hv18
      rw [key.2] at d
      simp [n18] at d
  subst hr
  refine ⟨cur', ?_, w, ?_, h0, hz⟩
  · show ((oF 1 p).1, layD 17 (oF 1 p).2.2 (oF 1 p).2.1) = _
    rw [a, hdn]
  · simp only [szO, ldn, a, flat, List.length_append] at hs
    simp only [szk, szO, flat, List.length_append] at hz
    omega
theorem m_letterP {A : FI} {B : FJ} {p : List Nat} (hR : RCP A p) (k : Nat) (hk : k < p.length) : MV 0 1 mtX5_letter [.inr (.inr (some (8, 0))), .inl (nI k)] (hp A B) (Ret (some (.inl (nI (p.getD k 0)))) (hp A B)) := by
  have hl := hR.2.1
  have e1 := hR.1
  have tk := ti k (by omega)
  have tl := ti p.length (by omega)
  have cl : (nI k).toNatClampNeg = k := nI_clamp (by omega)
  refine MV_of caX5_letter (L := [some (.inr (.inr (some (8, 0)))), some (.inl (nI k))]) rfl rfl ?_
  repeat' (first
      | (refine R_br rfl rfl (fun hbr => absurd hbr (by first | decide | (with_reducible assumption) | (simp only [i_eq, i_lt, i_le, Int32.reduceToInt, ne_eq, up3_self, nI_1, e1]; first | done | omega))) (fun _ => ?_))
      | (refine R_br rfl rfl (fun _ => ?_) (fun hbr => absurd (by first | decide | (with_reducible assumption) | (simp only [i_eq, i_lt, i_le, Int32.reduceToInt, ne_eq, up3_self, nI_1, e1]; first | done | omega)) hbr))
      | (refine R_br rfl rfl (fun _ => ?_) (fun _ => ?_))
      | (refine R_ri rfl rfl ?_)
      | (refine R_rz rfl rfl (Or.inl rfl) ?_)
      | (refine R_rz rfl rfl (Or.inr rfl) ?_)
      | (refine R_rz rfl rfl (b2_01 _) ?_)
      | (refine R_rl rfl rfl ?_)
      | (refine R_rv rfl rfl ?_)
      | (refine R_sw _ rfl rfl rfl ?_)
      | (refine R_go 9999 rfl rfl trivial ?_)
      | (refine R_go 9999 rfl rfl (by first | (show _ ∨ _; decide) | (show (_ ∨ _) ∧ (_ ∨ _); decide) | (show (_ ∨ _) ∧ (_ ∨ _) ∧ (_ ∨ _); decide)) ?_)
      | (refine R_go 9999 rfl rfl ?_ ?_))
  · exact vpN (n := 80) (by omega) rfl
  · rw [cl, hR.2.2 k hk]; exact ret_i rfl rfl
theorem RCP_S {i : Nat} {A A' : FI} {p : List Nat} (h : RCP A p) (hF : Fi gS i A A') : RCP A' p := ⟨by rw [hF.1 8 (by decide)]; exact h.1, h.2.1, fun k hk => by rw [hF.1 9 (by decide)]; exact h.2.2 k hk⟩
theorem l_write {i : Nat} (B : FJ) (A0 : FI) (sort : Nat) (p : List Nat) (hw : ∀ x ∈ p, x ≤ 255) (hfull : (mRn sort p (k0, o0)).1 = p.length) : ∀ (t pre : List Nat) (k : Ct) (o : Os) (b : Nat) (A : FI), p = pre ++ t → RCP A p → Fi gS i A0 A → PV k o → bef k b → b ≤ 255 → szk o ≤ pre.length → RSO i A o → (mRn sort t (k, o)).1 = t.length → oF sort p = (mRn sort t (k, o)).2.2 → Rn 4 mtX7_write 29 [some (.inr (.inr (some (4, i)))), some (.inr (.inr (some (8, 0)))), some (.inl (nI b)), some (.inl (nI pre.length))] [] (hp A B) (PS i A0 B (ldn 17 (oF sort p))) := by
  intro t
  induction t with
  | nil =>
    intro pre k o b A hp1 hR hF hP hb hb2 hz hk hm ho
    have hlen : pre.length = p.length := by rw [hp1]; simp
    have hl := hR.2.1
    have tp := ti p.length (by omega)
    rw [mRn] at ho
    dsimp only at ho
    rw [ho, hlen]
    have n1 : nI p.length ≤ nI p.length := Int32.le_refl _
    repeat' (first
        | (refine R_br rfl rfl (fun hbr => absurd hbr (by first | decide | (with_reducible assumption))) (fun _ => ?_))
        | (refine R_br rfl rfl (fun _ => ?_) (fun hbr => absurd (by first | decide | (with_reducible assumption)) hbr))
        | (refine R_br rfl rfl (fun _ => ?_) (fun _ => ?_))
        | (refine R_ri rfl rfl ?_)
        | (refine R_rz rfl rfl (Or.inl rfl) ?_)
        | (refine R_rz rfl rfl (Or.inr rfl) ?_)
        | (refine R_rz rfl rfl (b2_01 _) ?_)
        | (refine R_rl rfl rfl ?_)
        | (refine R_rv rfl rfl ?_)
        | (refine R_cvr rfl (m_sizeC hR) rfl rfl rfl rfl rfl (Nat.le_of_ble_eq_true rfl) rfl ?_)
        | (refine R_cv rfl (m_release 1 17 (by decide) rk1 o hk (by unfold szk ln1 at hz; omega)) rfl rfl rfl rfl rfl (Nat.le_of_ble_eq_true rfl) rfl ?_)
        | (refine R_sw _ rfl rfl rfl ?_)
        | (refine R_go 9999 rfl rfl trivial ?_)
        | (refine R_go 9999 rfl rfl (by first | (show _ ∨ _; decide) | (show (_ ∨ _) ∧ (_ ∨ _); decide) | (show (_ ∨ _) ∧ (_ ∨ _) ∧ (_ ∨ _); decide)) ?_)
        | (refine R_go 9999 rfl rfl ?_ ?_))
    rintro r h' ⟨A', rfl, rfl, a, b⟩
    repeat' (first
        | (refine R_br rfl rfl (fun hbr => absurd hbr (by first | decide | (with_reducible assumption))) (fun _ => ?_))
        | (refine R_br rfl rfl (fun _ => ?_) (fun hbr => absurd (by first | decide | (with_reducible assumption)) hbr))
        | (refine R_br rfl rfl (fun _ => ?_) (fun _ => ?_))
        | (refine R_ri rfl rfl ?_)
        | (refine R_rz rfl rfl (Or.inl rfl) ?_)
        | (refine R_rz rfl rfl (Or.inr rfl) ?_)
        | (refine R_rz rfl rfl (b2_01 _) ?_)
        | (refine R_rl rfl rfl ?_)
        | (refine R_rv rfl rfl ?_)
        | (refine R_sw _ rfl rfl rfl ?_)
        | (refine R_go 9999 rfl rfl trivial ?_)
        | (refine R_go 9999 rfl rfl (by first | (show _ ∨ _; decide) | (show (_ ∨ _) ∧ (_ ∨ _); decide) | (show (_ ∨ _) ∧ (_ ∨ _) ∧ (_ ∨ _); decide)) ?_)
        | (refine R_go 9999 rfl rfl ?_ ?_))
    exact ⟨A', rfl, rfl, a, Fi_tr hF b⟩
  | cons c t ih =>
    intro pre k o b A hp1 hR hF hP hb hb2 hz hk hm ho
    have hl := hR.2.1
    have hlen : pre.length < p.length := by rw [hp1]; simp
    have tp := ti p.length (by omega)
    have tq := ti pre.length (by omega)
    have hgd : p.getD pre.length 0 = c := by
      rw [hp1]
      simp [List.getD_eq_getElem?_getD]
    have hc : c ≤ 255 := hw c (by rw [hp1]; simp)
    have hml : ∀ A, RCP A p → MV 0 1 mtX5_letter [.inr (.inr (some (8, 0))), .inl (nI pre.length)] (hp A B) (Ret (some (.inl (nI c))) (hp A B)) := fun A hR => by
      have := m_letterP (B := B) hR pre.length hlen
      rwa [hgd] at this
    have n1 : ¬ nI p.length ≤ nI pre.length := by (simp only [i_eq, i_lt, i_le, Int32.reduceToInt, true_and, and_true, false_and, and_false, or_false, false_or, or_true, true_or, ne_eq] at *; first | done | omega)
    rw [mRn] at hm ho
    cases hcc : cM sort c k with
    | none => simp only [hcc, List.length_cons] at hm; omega
    | some k' =>
      simp only [hcc, List.length_cons] at hm ho
      obtain ⟨q1, q2, q3, q4⟩ := eK_eM hcc hP hb
      have hsz := szk_eM c k o
      have hcu := szk_cur o
      have htk := m_takeK (i := i) (A := A) (B := B) c b o hc hb2 q2 hk (by unfold szk ln1 at hz; omega) q4
      rw [q1] at htk
      repeat' (first
          | (refine R_br rfl rfl (fun hbr => absurd hbr (by first | decide | (with_reducible assumption))) (fun _ => ?_))
          | (refine R_br rfl rfl (fun _ => ?_) (fun hbr => absurd (by first | decide | (with_reducible assumption)) hbr))
          | (refine R_br rfl rfl (fun _ => ?_) (fun _ => ?_))
          | (refine R_ri rfl rfl ?_)
          | (refine R_rz rfl rfl (Or.inl rfl) ?_)
          | (refine R_rz rfl rfl (Or.inr rfl) ?_)
          | (refine R_rz rfl rfl (b2_01 _) ?_)
          | (refine R_rl rfl rfl ?_)
          | (refine R_rv rfl rfl ?_)
          | (refine R_cvr rfl (m_sizeC hR) rfl rfl rfl rfl rfl (Nat.le_of_ble_eq_true rfl) rfl ?_)
          | (refine R_cvr rfl (hml A hR) rfl rfl rfl rfl rfl (Nat.le_of_ble_eq_true rfl) rfl ?_)
          | (refine R_cv rfl (htk) rfl rfl rfl rfl rfl (Nat.le_of_ble_eq_true rfl) rfl ?_)
          | (refine R_sw _ rfl rfl rfl ?_)
          | (refine R_go 9999 rfl rfl trivial ?_)
          | (refine R_go 9999 rfl rfl (by first | (show _ ∨ _; decide) | (show (_ ∨ _) ∧ (_ ∨ _); decide) | (show (_ ∨ _) ∧ (_ ∨ _) ∧ (_ ∨ _); decide)) ?_)
          | (refine R_go 9999 rfl rfl ?_ ?_))
      rintro r h' ⟨A', rfl, rfl, a, b⟩
      have hR' := RCP_S hR b
      repeat' (first
          | (refine R_stop 29 rfl rfl ?_)
          | (refine R_br rfl rfl (fun hbr => absurd hbr (by first | decide | (with_reducible assumption))) (fun _ => ?_))
          | (refine R_br rfl rfl (fun _ => ?_) (fun hbr => absurd (by first | decide | (with_reducible assumption)) hbr))
          | (refine R_br rfl rfl (fun _ => ?_) (fun _ => ?_))
          | (refine R_ri rfl rfl ?_)
          | (refine R_rz rfl rfl (Or.inl rfl) ?_)
          | (refine R_rz rfl rfl (Or.inr rfl) ?_)
          | (refine R_rz rfl rfl (b2_01 _) ?_)
          | (refine R_rl rfl rfl ?_)
          | (refine R_rv rfl rfl ?_)
          | (refine R_cvr rfl (hml A' hR') rfl rfl rfl rfl rfl (Nat.le_of_ble_eq_true rfl) rfl ?_)
          | (refine R_sw _ rfl rfl rfl ?_)
          | (refine R_go 29 rfl rfl trivial ?_)
          | (refine R_go 29 rfl rfl (by first | (show _ ∨ _; decide) | (show (_ ∨ _) ∧ (_ ∨ _); decide) | (show (_ ∨ _) ∧ (_ ∨ _) ∧ (_ ∨ _); decide)) ?_)
          | (refine R_go 29 rfl rfl ?_ ?_))
      refine ⟨?_, trivial⟩
      rw [nI_1, show pre.length + 1 = (pre ++ [c]).length by simp]
      exact ih (pre ++ [c]) k' (eM c k o) c A' (by rw [hp1]; simp) hR' (Fi_tr hF b) (PV_step (by omega) hcc hP) q3 hc (by simp; omega) a (by omega) ho
theorem m_write {i : Nat} {A : FI} {B : FJ} (sort : Nat) (p : List Nat) (hw : ∀ x ∈ p, x ≤ 255) (hfull : (mRn sort p (k0, o0)).1 = p.length) (hR : RCP A p) : MV 4 1 mtX7_write [.inr (.inr (some (4, i))), .inr (.inr (some (8, 0)))] (hp A B) (PS i A B (ldn 17 (oF sort p))) := by
  refine MV_of caX7_write (L := [some (.inr (.inr (some (4, i)))), some (.inr (.inr (some (8, 0)))), none, none]) rfl rfl ?_
  have hFi : Fi gS i A (up3 (up3 (up3 (up3 (up3 A 4 i 3 0) 4 i 4 0) 4 i 5 0) 4 i 6 0) 4 i 7 0) := Fi_up (Fi_up (Fi_up (Fi_up (Fi_up Fi_rf (by decide)) (by decide)) (by decide)) (by decide)) (by decide)
  repeat' (first
      | (refine R_stop 29 rfl rfl ?_)
      | (refine R_br rfl rfl (fun hbr => absurd hbr (by first | decide | (with_reducible assumption))) (fun _ => ?_))
      | (refine R_br rfl rfl (fun _ => ?_) (fun hbr => absurd (by first | decide | (with_reducible assumption)) hbr))
      | (refine R_br rfl rfl (fun _ => ?_) (fun _ => ?_))
      | (refine R_ri rfl rfl ?_)
      | (refine R_rz rfl rfl (Or.inl rfl) ?_)
      | (refine R_rz rfl rfl (Or.inr rfl) ?_)
      | (refine R_rz rfl rfl (b2_01 _) ?_)
      | (refine R_rl rfl rfl ?_)
      | (refine R_rv rfl rfl ?_)
      | (refine R_sw _ rfl rfl rfl ?_)
      | (refine R_go 29 rfl rfl trivial ?_)
      | (refine R_go 29 rfl rfl (by first | (show _ ∨ _; decide) | (show (_ ∨ _) ∧ (_ ∨ _); decide) | (show (_ ∨ _) ∧ (_ ∨ _) ∧ (_ ∨ _); decide)) ?_)
      | (refine R_go 29 rfl rfl ?_ ?_))
  refine ⟨R_weak (L' := [some (.inr (.inr (some (4, i)))), some (.inr (.inr (some (8, 0)))), some (.inl (nI 0)), some (.inl (nI 0))]) (by simp [lsub, nI_0]) ?_, trivial⟩
  exact l_write B A sort p hw hfull p [] k0 o0 0 _ rfl (RCP_S hR hFi) hFi PV_0 ⟨by simp [k0], by simp [k0], by simp⟩ (by decide) (by simp [szk, ln1, szO, flat, o0]) ⟨al_nil, by simp [up3]; rfl, al_nil, by simp [up3]; rfl, by simp [up3]; rfl, by simp [up3]; rfl, al_nil, by simp [up3]; rfl, fun w hw => by simp [o0] at hw⟩ hfull rfl
