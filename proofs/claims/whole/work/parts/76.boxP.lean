theorem ob_i {r d : Nat} (hr : r ≤ 3) (hd : d ≤ 1) : nI r ||| ((1 : Int32) <<< (nI d &&& 31)) = nI (ob r d) := by
  rcases (show r = 0 ∨ r = 1 ∨ r = 2 ∨ r = 3 by omega) with rfl | rfl | rfl | rfl <;> rcases (show d = 0 ∨ d = 1 by omega) with rfl | rfl <;> decide
theorem or_0 {r : Nat} (hr : r ≤ 3) : (nI r ||| 0 : Int32) = nI r := by
  rcases (show r = 0 ∨ r = 1 ∨ r = 2 ∨ r = 3 by omega) with rfl | rfl | rfl | rfl <;> decide
theorem OBo_tr {A A1 : FI} {B B1 : FJ} {x : Nat} {r : Option AV} {h' : AH} (a : FmBx A A1) (b : FmJ [58, 59] B B1) (k : OBo A1 B1 x r h') : OBo A B x r h' := by
  obtain ⟨A', B', k1, k2, k3, k4⟩ := k
  exact ⟨A', B', k1, k2, FmO_tr a k3, FmJ_tr b k4⟩
theorem l_endsOf {P : List (List Tk × Nat)} {bx : Nat → Int × Int} {sd : Nat} (hsd : sd ≤ 1) (h99 : b99 bx) (hsz : (flP P).length + P.length ≤ 80) : ∀ (dn : List (List Tk × Nat)) (d : Nat) (pre : List (List Tk × Nat)) (r : Nat) (A : FI) (B : FJ), P = pre ++ (dn ++ [([], d)]) → RMG A P → SBm sd A bx → allW dn → d ≤ 1 → r ≤ 3 → ∀ o, Rn 2 mtX12_endsOf 7 [some (.inr (.inr (some (31, 0)))), some (.inl (nI sd)), some (.inl (nI r)), some (.inl (nI (flP pre).length)), some (.inl (nI pre.length)), o] [] (hp A B) (OBo A B (enS bx r (dn ++ [([], d)]))) := by
  intro dn
  induction dn with
  | nil =>
    intro d pre r A B hP hR hq hW hd hr o
    obtain ⟨a1, a2, a3, a4, a5, a6, a7⟩ := hR
    have hlen : P.length = pre.length + 1 := by rw [hP]; simp
    have e27 : A 31 0 27 - 1 = nI pre.length := by rw [a7, hlen]; exact nI_pred _
    have cp : (nI pre.length).toNatClampNeg = pre.length := nI_clamp (by omega)
    have n1 : A 31 0 27 - 1 ≤ nI pre.length := by rw [e27]; exact Int32.le_refl _
    have hv : vp_in (nI pre.length) 80 := vpN (n := 80) (by omega) rfl
    have ed : A 45 0 pre.length = nI d := by
      rw [a6 pre.length (by simp; omega), gdm Prod.snd P pre.length ([], 0) (by omega), hP]
      simp [List.getD_eq_getElem?_getD]
    refine R_go 9999 rfl rfl trivial ?_
    refine R_br rfl rfl (fun _ => ?_) (fun h => absurd n1 h)
    refine R_go 9999 rfl rfl ?_ ?_
    · rw [e27]; exact hv
    rw [e27, cp, ed, ob_i hr hd]
    refine R_ri rfl rfl ?_
    exact ⟨_, _, rfl, rfl, FmO_rf, FmJ_rf⟩
  | cons l t ih =>
    intro d pre r A B hP hR hq hW hd hr o
    have hR0 := hR
    obtain ⟨a1, a2, a3, a4, a5, a6, a7⟩ := hR
    obtain ⟨w1, w2, w3⟩ := hW l List.mem_cons_self
    have hP' : P = pre ++ l :: (t ++ [([], d)]) := hP
    have hlen : P.length = pre.length + 1 + (t.length + 1) := by rw [hP']; simp; omega
    have hfl := flP_len l pre (t ++ [([], d)])
    rw [← hP'] at hfl
    have e27 : A 31 0 27 - 1 = nI (pre.length + 1 + t.length) := by rw [a7, hlen]; exact nI_pred _
    have tp := ti pre.length (by omega)
    have tq := ti (pre.length + 1 + t.length) (by omega)
    have cp : (nI pre.length).toNatClampNeg = pre.length := nI_clamp (by omega)
    have hv : vp_in (nI pre.length) 80 := vpN (n := 80) (by omega) rfl
    have e44 : A 44 0 pre.length = nI ((flP pre).length + l.1.length) := by
      rw [a5 pre.length (by rw [cum_len]; omega), hP', cum_get]; congr 1; omega
    have e45 : A 45 0 pre.length = nI l.2 := by
      rw [a6 pre.length (by simp; omega), gdm Prod.snd P pre.length ([], 0) (by omega), hP']
      simp [List.getD_eq_getElem?_getD]
    have hho := m_onBox (gr := 42) (go := 43) (fr := (flP pre).length) (to := (flP pre).length + l.1.length) (Or.inl ⟨rfl, rfl⟩) hsd (B := B) h99 l.1 (by omega) rfl (fun j hj => by
      rw [a2 _ (by simp; omega), a3 _ (by simp; omega), gdm Prod.fst (flP P) _ (0, 0) (by omega), gdm Prod.snd (flP P) _ (0, 0) (by omega), hP', flP_get _ _ _ _ hj]
      exact ⟨rfl, rfl⟩) hq w2
    have hrn : enS bx r ((l :: t) ++ [([], d)]) = if trB bx l.1 = 1 then ob r l.2 else enS bx (if trB bx l.1 = 0 then r else ob r l.2) (t ++ [([], d)]) := by
      cases t with
      | nil => rfl
      | cons m t' => rfl
    rw [hrn]
    refine R_go 9999 rfl rfl trivial ?_
    refine R_br rfl rfl (fun h => absurd h (by rw [e27]; (simp only [i_eq, i_lt, i_le, Int32.reduceToInt, true_and, and_true, false_and, and_false, or_false, false_or, or_true, true_or, ne_eq] at *; first | done | omega))) (fun _ => ?_)
    refine R_go 9999 rfl rfl hv ?_
    rw [cp, e44]
    refine R_cv rfl hho rfl rfl rfl rfl rfl (Nat.le_of_ble_eq_true rfl) rfl ?_
    rintro x h' ⟨A1, B1, rfl, rfl, hF, hJ⟩
    have f44 : A1 44 0 pre.length = nI ((flP pre).length + l.1.length) := by rw [hF.1 44 (by decide) (by decide)]; exact e44
    have f45 : A1 45 0 pre.length = nI l.2 := by rw [hF.1 45 (by decide) (by decide)]; exact e45
    have hh2 := trB_2 h99 w2
    have hih := fun r' hr' o => ih d (pre ++ [l]) r' A1 B1 (by rw [hP']; simp) (RMG_fr hR0 hF (by decide) (by decide)) (SBm_fr hq hF (by decide)) (fun x hx => hW x (List.mem_cons_of_mem _ hx)) hd hr' o
    rw [show (flP (pre ++ [l])).length = (flP pre).length + l.1.length by simp [flP], show (pre ++ [l]).length = pre.length + 1 by simp] at hih
    generalize trB bx l.1 = v at hh2
    rcases (show v = 0 ∨ v = 1 ∨ v = 2 by omega) with rfl | rfl | rfl
    · rw [if_neg (by decide), if_pos rfl]
      refine R_go 9999 rfl rfl trivial ?_
      refine R_br rfl rfl (fun _ => ?_) (fun h => absurd rfl h)
      refine R_go 9999 rfl rfl trivial ?_
      rw [or_0 hr]
      refine R_br rfl rfl (fun h => absurd h (by decide)) (fun _ => ?_)
      refine R_go 7 rfl rfl hv ?_
      rw [cp, f44, nI_1]
      exact R_mono (fun r h' z => OBo_tr hF hJ z) (hih r hr _)
    · rw [if_pos rfl]
      refine R_go 9999 rfl rfl trivial ?_
      refine R_br rfl rfl (fun h => absurd h (by decide)) (fun _ => ?_)
      refine R_go 9999 rfl rfl hv ?_
      rw [cp, f45, ob_i hr (by omega)]
      refine R_br rfl rfl (fun _ => ?_) (fun h => absurd rfl h)
      refine R_go 9999 rfl rfl trivial ?_
      refine R_ri rfl rfl ?_
      exact ⟨_, _, rfl, rfl, hF, hJ⟩
    · rw [if_neg (by decide), if_neg (by decide)]
      refine R_go 9999 rfl rfl trivial ?_
      refine R_br rfl rfl (fun h => absurd h (by decide)) (fun _ => ?_)
      refine R_go 9999 rfl rfl hv ?_
      rw [cp, f45, ob_i hr (by omega)]
      refine R_br rfl rfl (fun h => absurd h (by decide)) (fun _ => ?_)
      refine R_go 7 rfl rfl hv ?_
      rw [cp, f44, nI_1]
      exact R_mono (fun r h' z => OBo_tr hF hJ z) (hih _ (ob_le hr (by omega)) _)
theorem m_endsOf {A : FI} {B : FJ} {P : List (List Tk × Nat)} {bx : Nat → Int × Int} {sd : Nat} (hsd : sd ≤ 1) (h99 : b99 bx) (hP : okP P) (hR : RMG A P) (hq : SBm sd A bx) : MV 2 1 mtX12_endsOf [.inr (.inr (some (31, 0))), .inl (nI sd)] (hp A B) (OBo A B (enS bx 0 P)) := by
  obtain ⟨⟨dn, d, rfl, hd, hW⟩, hz⟩ := hP
  refine MV_of caX12_endsOf (L := [some (.inr (.inr (some (31, 0)))), some (.inl (nI sd)), none, none, none, none]) rfl rfl ?_
  refine R_go 7 rfl rfl trivial ?_
  exact l_endsOf hsd h99 (szk_P hz) dn d [] 0 A B rfl hR hq hW hd (by omega) none
