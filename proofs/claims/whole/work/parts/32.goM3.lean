theorem sz_setL {dn : List (List Tk × Nat)} {cur : List Tk} {s : List Nat} {c : Nat} : szO (dn, setL c cur, s) ≤ szO (dn, cur, s) + 1 := by
  simp only [szO, flat, setL, List.length_append, List.length_dropLast, List.length_singleton]
  omega
theorem sz_awt (most m : Nat) (o : Os) : szO (awt most m o) = szO o + 1 := by
  have := layD_le most o.2.2 o.2.1
  simp only [szO, awt, flat, List.length_append, List.length_cons]
  omega
theorem sz_eU (c : Nat) (o : Os) : szO (eU c o) = szO o + 1 := by
  unfold eU
  split <;> (simp only [szO, lyt, flat, List.length_append, List.length_singleton]; omega)
theorem sz_eO (c : Nat) (o : Os) : szO (eO c o) ≤ szO o + 1 := by
  unfold eO
  repeat' split
  · rw [sz_awt]; omega
  · rw [sz_awt]; omega
  · have := sz_ldn 17 o
    simp only [szO, flat, List.length_append, List.length_tail] at this ⊢
    omega
  · rw [sz_ldn]; omega
theorem sz_eB (c : Nat) (rt : Bool) (o : Os) : szO (eB c rt o) ≤ szO o + 1 := by
  unfold eB
  repeat' split
  all_goals first | (rw [sz_awt]; done) | exact Nat.le_of_eq (sz_awt _ _ _) | exact sz_eO c o
theorem sz_eM (c : Nat) (k : Ct) (o : Os) : szO (eM c k o) ≤ szO o + 1 := by
  unfold eM
  repeat' split
  all_goals first | exact Nat.le_of_eq (sz_eU _ _) | exact sz_eB _ _ _ | exact sz_eO _ _ | exact sz_setL | (simp only [szO, flat, List.length_append, List.length_cons, List.map_append, List.flatten_append, List.map_cons, List.map_nil, List.flatten_cons, List.flatten_nil, List.append_nil, List.length_nil]; omega) | omega
def ln1 (o : Os) : Nat := o.1.length
theorem ln_eU (c : Nat) (o : Os) : ln1 (eU c o) = ln1 o := by
  unfold eU
  split <;> rfl
theorem ln_eO (c : Nat) (o : Os) : ln1 (eO c o) = ln1 o := by
  unfold eO
  repeat' split
  all_goals rfl
theorem ln_eB (c : Nat) (rt : Bool) (o : Os) : ln1 (eB c rt o) = ln1 o := by
  unfold eB
  repeat' split
  all_goals first | rfl | exact ln_eO c o
theorem ln_eM1 (c : Nat) (k : Ct) (o : Os) : ln1 (eM c k o) ≤ ln1 o + 1 := by
  unfold eM
  repeat' split
  all_goals first | (rw [ln_eU]; omega) | (rw [ln_eB]; omega) | (rw [ln_eO]; omega) | (simp [ln1]; done) | omega
theorem ln_eM (c : Nat) (k : Ct) (o : Os) : (eM c k o).1.length ≤ o.1.length + 1 := ln_eM1 c k o
theorem cum_app (x : List Tk × Nat) : ∀ (n : Nat) (dn : List (List Tk × Nat)), cum n (dn ++ [x]) = cum n dn ++ [n + (dn.map Prod.fst).flatten.length + x.1.length] := by
  intro n dn
  induction dn generalizing n with
  | nil => simp [cum]
  | cons l t ih =>
    simp only [List.cons_append, cum, ih, List.map_cons, List.flatten_cons, List.length_append]
    congr 3
    omega
theorem cum_len : ∀ (n : Nat) (dn : List (List Tk × Nat)), (cum n dn).length = dn.length := by
  intro n dn
  induction dn generalizing n with
  | nil => rfl
  | cons l t ih => simp [cum, ih]
theorem ROM_set {A : FI} {dn : List (List Tk × Nat)} {cur : List Tk} {s : List Nat} {v y : Nat} (h : ROM A (dn, cur ++ [(8, v)], s)) : ROM (up3 A 38 0 (flat (dn, cur, s)).length (nI y)) (dn, cur ++ [(8, y)], s) := by
  obtain ⟨a1, a2, a3, a4, a5, a6, a7, a8, a9⟩ := h
  rw [flat_s dn cur (8, v) s s] at a1 a2 a3
  rw [List.map_append] at a2 a3
  rw [List.length_append] at a1
  refine ⟨?_, ?_, ?_, ?_, ?_, ?_, ?_, ?_, a9⟩
  · rw [flat_s dn cur (8, y) s s, up3_g (by decide), List.length_append]; exact a1
  · rw [flat_s dn cur (8, y) s s, up3_g (by decide), List.map_append]; exact a2
  · rw [flat_s dn cur (8, y) s s, List.map_append]
    exact al_set (y := y) a3 (by simp)
  · rw [up3_g (by decide)]; exact a4
  · rw [up3_g (by decide)]; exact a5
  · rw [up3_g (by decide)]; exact a6
  · rw [up3_g (by decide)]; exact a7
  · rw [up3_g (by decide)]; exact a8
theorem ROM_end {A : FI} {o : Os} {d : Nat} (h : ROM A o) : ROM (up3 (up3 (up3 A 39 0 o.1.length (nI (flat o).length)) 40 0 o.1.length (nI d)) 31 0 18 (nI (o.1.length + 1))) (o.1 ++ [(o.2.1, d)], [], o.2.2) := by
  obtain ⟨a1, a2, a3, a4, a5, a6, a7, a8, a9⟩ := h
  obtain ⟨dn, cur, s⟩ := o
  have hf : flat (dn ++ [(cur, d)], [], s) = flat (dn, cur, s) := by simp [flat]
  refine ⟨?_, ?_, ?_, ?_, ?_, ?_, ?_, ?_, a9⟩
  · rw [hf, up3_s (by decide), up3_g (by decide), up3_g (by decide)]; exact a1
  · rw [hf, up3_g (by decide), up3_g (by decide), up3_g (by decide)]; exact a2
  · rw [hf, up3_g (by decide), up3_g (by decide), up3_g (by decide)]; exact a3
  · rw [up3_self]; simp
  · rw [cum_app, up3_g (by decide), up3_g (by decide)]
    have e : 0 + (dn.map Prod.fst).flatten.length + cur.length = (flat (dn, cur, s)).length := by simp [flat]
    rw [e]
    exact al_upn a5 (by rw [cum_len])
  · rw [List.map_append, up3_g (by decide)]
    refine al_upn ?_ (by simp)
    rw [up3_g (by decide)]; exact a6
  · rw [up3_s (by decide), up3_g (by decide), up3_g (by decide)]; exact a7
  · rw [up3_g (by decide), up3_g (by decide), up3_g (by decide)]; exact a8
theorem m_go {A : FI} {B : FJ} (sort c : Nat) (k : Ct) (o : Os) (hc : c ≤ 255) (hs : sort ≤ 1) (hd : k.2.1 ≤ 80) (hu : 1 ≤ k.1 → k.1 ≤ 3 → k.2.2.1 ≤ 3) (h : RKM A k) (ho : ROM A o) (hz : szO o < 80) (hl : o.1.length < 80) (hP : PV k o) : MV 5 2 mtX12_go [.inr (.inr (some (31, 0))), .inl (nI c), .inl (nI sort)] (hp A B) (PM A B ((cM sort c k).map (fun k' => (k', eM c k o)))) := by
  obtain ⟨st, dep, un, rt, bg, ls⟩ := k
  obtain ⟨hn, ⟨nt, bs, hw, hs2⟩, hdv⟩ := hP
  dsimp only at hd hu hn hs2
  have h0 := h
  obtain ⟨e6, e7, e8, e9, e10, e11⟩ := h
  dsimp only at e6 e7 e8 e9 e10 e11
  have tc := ti c (by omega)
  have h18 : 0 < dep → (ldn 17 o).2.2 ≠ [] := fun z => n18_ne _ _ (by omega)
  refine MV_of caX12_go (L := [some (.inr (.inr (some (31, 0)))), some (.inl (nI c)), some (.inl (nI sort))]) rfl rfl ?_
  unfold cM eM
  dsimp only
  refine R_go 9999 rfl rfl trivial ?_
  rcases hs2 with ⟨rfl, -⟩ | ⟨rfl, -⟩ | ⟨hst, hx, h5⟩ | ⟨rfl, -⟩ | ⟨rfl, -⟩ | ⟨hst, -⟩
  · refine R_sw 0 (by rw [e6]; rfl) rfl rfl ?_
    rw [if_pos rfl, if_pos rfl]
    repeat' (first
        | (refine R_br rfl rfl (fun h => absurd h (by first | decide | (with_reducible assumption))) (fun _ => ?_))
        | (refine R_br rfl rfl (fun _ => ?_) (fun h => absurd (by first | decide | (with_reducible assumption)) h))
        | (refine R_br rfl rfl (fun _ => ?_) (fun _ => ?_))
        | (refine R_ri rfl rfl ?_)
        | (refine R_rz rfl rfl (Or.inl rfl) ?_)
        | (refine R_rz rfl rfl (Or.inr rfl) ?_)
        | (refine R_rz rfl rfl (b2_01 _) ?_)
        | (refine R_rl rfl rfl ?_)
        | (refine R_rv rfl rfl ?_)
        | (refine R_cv rfl (m_goFactor sort c dep un rt bg ls o hc hs h0 ho hz) rfl rfl rfl rfl rfl (Nat.le_of_ble_eq_true rfl) rfl ?_)
        | (refine R_sw _ rfl rfl rfl ?_)
        | (refine R_go 9999 rfl rfl trivial ?_)
        | (refine R_go 9999 rfl rfl (by first | (show _ ∨ _; decide) | (show (_ ∨ _) ∧ (_ ∨ _); decide) | (show (_ ∨ _) ∧ (_ ∨ _) ∧ (_ ∨ _); decide)) ?_)
        | (refine R_go 9999 rfl rfl ?_ ?_))
    exact R_tm rfl rfl (fun r h' k => k)
  · refine R_sw 1 (by rw [e6]; rfl) rfl rfl ?_
    rw [if_neg (show ¬ 1 = 0 by decide), if_neg (show ¬ 1 = 0 by decide), if_pos rfl, if_pos rfl]
    repeat' (first
        | (refine R_br rfl rfl (fun h => absurd h (by first | decide | (with_reducible assumption))) (fun _ => ?_))
        | (refine R_br rfl rfl (fun _ => ?_) (fun h => absurd (by first | decide | (with_reducible assumption)) h))
        | (refine R_br rfl rfl (fun _ => ?_) (fun _ => ?_))
        | (refine R_ri rfl rfl ?_)
        | (refine R_rz rfl rfl (Or.inl rfl) ?_)
        | (refine R_rz rfl rfl (Or.inr rfl) ?_)
        | (refine R_rz rfl rfl (b2_01 _) ?_)
        | (refine R_rl rfl rfl ?_)
        | (refine R_rv rfl rfl ?_)
        | (refine R_cv rfl (m_takeUnit c 1 dep un rt bg ls o hc h0 ho hz) rfl rfl rfl rfl rfl (Nat.le_of_ble_eq_true rfl) rfl ?_)
        | (refine R_sw _ rfl rfl rfl ?_)
        | (refine R_go 9999 rfl rfl trivial ?_)
        | (refine R_go 9999 rfl rfl (by first | (show _ ∨ _; decide) | (show (_ ∨ _) ∧ (_ ∨ _); decide) | (show (_ ∨ _) ∧ (_ ∨ _) ∧ (_ ∨ _); decide)) ?_)
        | (refine R_go 9999 rfl rfl ?_ ?_))
    exact R_tm rfl rfl (fun r h' k => k)
  · replace hu := hu (by omega) (by omega)
    rcases hst with rfl | rfl
    · refine R_sw 2 (by rw [e6]; rfl) rfl rfl ?_
      rw [if_neg (show ¬ 2 = 0 by decide), if_neg (show ¬ 2 = 0 by decide), if_neg (show ¬ 2 = 1 by decide), if_neg (show ¬ 2 = 1 by decide), if_pos (show 2 = 2 from rfl), if_pos (show 2 = 2 from rfl)]
      by_cases c1 : 48 ≤ c ∧ c ≤ 57
      · rw [if_pos c1, if_pos c1]
        obtain ⟨x, r, b', h1, h2, h3, -, h4, h6⟩ := hx
        obtain ⟨cur', v, e1, hv, -⟩ := h6 rfl
        obtain ⟨dn, cur, s⟩ := o
        dsimp only at e1 hl
        subst e1
        have e15 := ho.1
        have a3 := ho.2.2.1
        rw [flat_s dn cur' (8, v) s s] at e15 a3
        rw [List.map_append] at a3
        have a3 := al_last a3
        rw [List.length_append] at e15
        have hzz : (flat (dn, cur', s)).length < 80 := by
          simp only [szO, flat_s dn cur' (8, v) s s, List.length_append, List.length_singleton] at hz; omega
        have e15' : A 31 0 15 - 1 = nI (flat (dn, cur', s)).length := by rw [e15]; exact nI_pred _
        have cl : (nI (flat (dn, cur', s)).length).toNatClampNeg = (flat (dn, cur', s)).length := nI_clamp (by omega)
        have a3' : A 38 0 (flat (dn, cur', s)).length = nI v := by simpa using a3
        repeat' (first
            | (refine R_br rfl rfl (fun h => absurd h (by first | decide | (with_reducible assumption))) (fun _ => ?_))
            | (refine R_br rfl rfl (fun _ => ?_) (fun h => absurd (by first | decide | (with_reducible assumption)) h))
            | (refine R_br rfl rfl (fun _ => ?_) (fun _ => ?_))
            | (refine R_ri rfl rfl ?_)
            | (refine R_rz rfl rfl (Or.inl rfl) ?_)
            | (refine R_rz rfl rfl (Or.inr rfl) ?_)
            | (refine R_rz rfl rfl (b2_01 _) ?_)
            | (refine R_rl rfl rfl ?_)
            | (refine R_rv rfl rfl ?_)
            | (refine R_csr rfl (m_inT (nI c) 48 57 (by simp only [Int64.reduceToInt, tc]; omega) _ _) rfl rfl rfl (Nat.le_of_ble_eq_true rfl) rfl ?_)
            | (refine R_sw _ rfl rfl rfl ?_)
            | (refine R_go 9999 rfl rfl trivial ?_)
            | (refine R_go 9999 rfl rfl (by first | (show _ ∨ _; decide) | (show (_ ∨ _) ∧ (_ ∨ _); decide) | (show (_ ∨ _) ∧ (_ ∨ _) ∧ (_ ∨ _); decide)) ?_)
            | (refine R_go 9999 rfl rfl ?_ ?_))
        · rw [e15']; exact ⟨vpN (n := 80) hzz rfl, vpN (n := 80) hzz rfl⟩
        · rw [e15', cl, a3', show (10 : Int32) * nI v = nI (10 * v) from pk_mul 10 v, nI_add, show nI (10 * v + c) - 48 = nI (10 * v + c - 48) from nI_sub (b := 48) (by omega), setL_e]
          have hk := RKM_6 (st' := 3) h0
          refine PM_y (by first | exact FmO_rf | (repeat' (first | exact FmO_rf | (with_reducible assumption) | (refine FmO_up ?_ (by decide)) | (refine FmO_ug ?_ (by decide) (by decide))))) ?_ (ROM_c (ROM_set (y := 10 * v + c - 48) ho) (by first | exact FmO_rf | (repeat' (first | exact FmO_rf | (with_reducible assumption) | (refine FmO_up ?_ (by decide)) | (refine FmO_ug ?_ (by decide) (by decide))))))
          exact ⟨by simp [up3]; rfl, by simp [up3, e7], by simp [up3, e8], by simp [up3, e9], by simp [up3, e10], by simp [up3, e11]⟩
      · rw [if_neg c1, if_neg c1]
        repeat' (first
            | (refine R_br rfl rfl (fun h => absurd h (by first | decide | (with_reducible assumption))) (fun _ => ?_))
            | (refine R_br rfl rfl (fun _ => ?_) (fun h => absurd (by first | decide | (with_reducible assumption)) h))
            | (refine R_br rfl rfl (fun _ => ?_) (fun _ => ?_))
            | (refine R_ri rfl rfl ?_)
            | (refine R_rz rfl rfl (Or.inl rfl) ?_)
            | (refine R_rz rfl rfl (Or.inr rfl) ?_)
            | (refine R_rz rfl rfl (b2_01 _) ?_)
            | (refine R_rl rfl rfl ?_)
            | (refine R_rv rfl rfl ?_)
            | (refine R_csr rfl (m_inF (nI c) 48 57 (by simp only [Int64.reduceToInt, tc]; omega) _ _) rfl rfl rfl (Nat.le_of_ble_eq_true rfl) rfl ?_)
            | (refine R_cv rfl (m_goBehind sort c 2 dep un rt bg ls o hc hs hd hu h0 ho hz h18) rfl rfl rfl rfl rfl (Nat.le_of_ble_eq_true rfl) rfl ?_)
            | (refine R_sw _ rfl rfl rfl ?_)
            | (refine R_go 9999 rfl rfl trivial ?_)
            | (refine R_go 9999 rfl rfl (by first | (show _ ∨ _; decide) | (show (_ ∨ _) ∧ (_ ∨ _); decide) | (show (_ ∨ _) ∧ (_ ∨ _) ∧ (_ ∨ _); decide)) ?_)
            | (refine R_go 9999 rfl rfl ?_ ?_))
        exact R_tm rfl rfl (fun r h' k => k)
    · refine R_sw 3 (by rw [e6]; rfl) rfl rfl ?_
      rw [if_neg (show ¬ 3 = 0 by decide), if_neg (show ¬ 3 = 0 by decide), if_neg (show ¬ 3 = 1 by decide), if_neg (show ¬ 3 = 1 by decide), if_neg (show ¬ 3 = 2 by decide), if_neg (show ¬ 3 = 2 by decide), if_pos (show 3 = 3 from rfl), if_pos (show 3 = 3 from rfl)]
      repeat' (first
          | (refine R_br rfl rfl (fun h => absurd h (by first | decide | (with_reducible assumption))) (fun _ => ?_))
          | (refine R_br rfl rfl (fun _ => ?_) (fun h => absurd (by first | decide | (with_reducible assumption)) h))
          | (refine R_br rfl rfl (fun _ => ?_) (fun _ => ?_))
          | (refine R_ri rfl rfl ?_)
          | (refine R_rz rfl rfl (Or.inl rfl) ?_)
          | (refine R_rz rfl rfl (Or.inr rfl) ?_)
          | (refine R_rz rfl rfl (b2_01 _) ?_)
          | (refine R_rl rfl rfl ?_)
          | (refine R_rv rfl rfl ?_)
          | (refine R_cv rfl (m_goBehind sort c 3 dep un rt bg ls o hc hs hd hu h0 ho hz h18) rfl rfl rfl rfl rfl (Nat.le_of_ble_eq_true rfl) rfl ?_)
          | (refine R_sw _ rfl rfl rfl ?_)
          | (refine R_go 9999 rfl rfl trivial ?_)
          | (refine R_go 9999 rfl rfl (by first | (show _ ∨ _; decide) | (show (_ ∨ _) ∧ (_ ∨ _); decide) | (show (_ ∨ _) ∧ (_ ∨ _) ∧ (_ ∨ _); decide)) ?_)
          | (refine R_go 9999 rfl rfl ?_ ?_))
      exact R_tm rfl rfl (fun r h' k => k)
  · refine R_sw 4 (by rw [e6]; rfl) rfl rfl ?_
    rw [if_neg (show ¬ 4 = 0 by decide), if_neg (show ¬ 4 = 0 by decide), if_neg (show ¬ 4 = 1 by decide), if_neg (show ¬ 4 = 1 by decide), if_neg (show ¬ 4 = 2 by decide), if_neg (show ¬ 4 = 2 by decide), if_neg (show ¬ 4 = 3 by decide), if_neg (show ¬ 4 = 3 by decide), if_pos (show 4 = 4 from rfl), if_pos (show 4 = 4 from rfl)]
    repeat' (first
        | (refine R_br rfl rfl (fun h => absurd h (by first | decide | (with_reducible assumption))) (fun _ => ?_))
        | (refine R_br rfl rfl (fun _ => ?_) (fun h => absurd (by first | decide | (with_reducible assumption)) h))
        | (refine R_br rfl rfl (fun _ => ?_) (fun _ => ?_))
        | (refine R_ri rfl rfl ?_)
        | (refine R_rz rfl rfl (Or.inl rfl) ?_)
        | (refine R_rz rfl rfl (Or.inr rfl) ?_)
        | (refine R_rz rfl rfl (b2_01 _) ?_)
        | (refine R_rl rfl rfl ?_)
        | (refine R_rv rfl rfl ?_)
        | (refine R_cv rfl (m_goOn sort c 4 dep un rt bg ls o hc hs hd h0 ho hz h18) rfl rfl rfl rfl rfl (Nat.le_of_ble_eq_true rfl) rfl ?_)
        | (refine R_sw _ rfl rfl rfl ?_)
        | (refine R_go 9999 rfl rfl trivial ?_)
        | (refine R_go 9999 rfl rfl (by first | (show _ ∨ _; decide) | (show (_ ∨ _) ∧ (_ ∨ _); decide) | (show (_ ∨ _) ∧ (_ ∨ _) ∧ (_ ∨ _); decide)) ?_)
        | (refine R_go 9999 rfl rfl ?_ ?_))
    exact R_tm rfl rfl (fun r h' k => k)
  · refine R_sw 5 (by rw [e6]; rfl) rfl rfl ?_
    rw [if_neg (show ¬ 5 = 0 by decide), if_neg (show ¬ 5 = 0 by decide), if_neg (show ¬ 5 = 1 by decide), if_neg (show ¬ 5 = 1 by decide), if_neg (show ¬ 5 = 2 by decide), if_neg (show ¬ 5 = 2 by decide), if_neg (show ¬ 5 = 3 by decide), if_neg (show ¬ 5 = 3 by decide), if_neg (show ¬ 5 = 4 by decide), if_neg (show ¬ 5 = 4 by decide), if_pos (show 5 = 5 from rfl), if_pos (show 5 = 5 from rfl)]
    have e15 := ho.1
    have e18 := ho.2.2.2.1
    have cl : (nI o.1.length).toNatClampNeg = o.1.length := nI_clamp (by omega)
    have f1 : ∀ x, up3 A 39 0 o.1.length x 31 0 18 = nI o.1.length := fun x => by rw [up3_g (by decide)]; exact e18
    have f2 : ∀ x y, up3 (up3 A 39 0 o.1.length x) 40 0 o.1.length y 31 0 18 = nI o.1.length := fun x y => by rw [up3_g (by decide), up3_g (by decide)]; exact e18
    have hfin : ∀ q : Int32, q = (if ls = true then 7 else 6) → Rn 5 mtX12_go 187 [some (.inr (.inr (some (31, 0)))), some (.inl (nI c)), some (.inl (nI sort))] [] (hp (up3 (up3 (up3 (up3 A 39 0 o.1.length (nI (flat o).length)) 40 0 o.1.length (nI c - 48)) 31 0 18 (nI (o.1.length + 1))) 31 0 6 q) B) (PM A B (Option.map (fun k' => (k', (o.1 ++ [(o.2.1, c - 48)], ([] : List Tk), o.2.2))) (if c = 48 ∨ c = 49 then some (if ls = true then 7 else 6, dep, un, rt, bg, ls) else none))) := by
      intro q hq
      by_cases c1 : c = 48 ∨ c = 49
      · rw [if_pos c1]
        have hok : PM A B (some (((if ls = true then 7 else 6, dep, un, rt, bg, ls) : Ct), ((o.1 ++ [(o.2.1, c - 48)], [], o.2.2) : Os))) (some (.inl 1)) (hp (up3 (up3 (up3 (up3 A 39 0 o.1.length (nI (flat o).length)) 40 0 o.1.length (nI c - 48)) 31 0 18 (nI (o.1.length + 1))) 31 0 6 q) B) := by
          rw [show nI c - 48 = nI (c - 48) from nI_sub (b := 48) (by omega)]
          refine PM_y (by first | exact FmO_rf | (repeat' (first | exact FmO_rf | (with_reducible assumption) | (refine FmO_up ?_ (by decide)) | (refine FmO_ug ?_ (by decide) (by decide))))) ?_ (ROM_c (ROM_end (d := c - 48) ho) (by first | exact FmO_rf | (repeat' (first | exact FmO_rf | (with_reducible assumption) | (refine FmO_up ?_ (by decide)) | (refine FmO_ug ?_ (by decide) (by decide))))))
          exact ⟨by rw [up3_self, hq]; cases ls <;> rfl, by simp [up3, e7], by simp [up3, e8], by simp [up3, e9], by simp [up3, e10], by simp [up3, e11]⟩
        rcases c1 with rfl | rfl
        all_goals
          repeat' (first
              | (refine R_br rfl rfl (fun h => absurd h (by first | decide | (with_reducible assumption))) (fun _ => ?_))
              | (refine R_br rfl rfl (fun _ => ?_) (fun h => absurd (by first | decide | (with_reducible assumption)) h))
              | (refine R_br rfl rfl (fun _ => ?_) (fun _ => ?_))
              | (refine R_ri rfl rfl ?_)
              | (refine R_rz rfl rfl (Or.inl rfl) ?_)
              | (refine R_rz rfl rfl (Or.inr rfl) ?_)
              | (refine R_rz rfl rfl (b2_01 _) ?_)
              | (refine R_rl rfl rfl ?_)
              | (refine R_rv rfl rfl ?_)
              | (refine R_sw _ rfl rfl rfl ?_)
              | (refine R_go 9999 rfl rfl trivial ?_)
              | (refine R_go 9999 rfl rfl (by first | (show _ ∨ _; decide) | (show (_ ∨ _) ∧ (_ ∨ _); decide) | (show (_ ∨ _) ∧ (_ ∨ _) ∧ (_ ∨ _); decide)) ?_)
              | (refine R_go 9999 rfl rfl ?_ ?_))
        all_goals exact hok
      · rw [if_neg c1]
        have n1 : ¬ nI c = 48 := by (simp only [i_eq, i_lt, i_le, Int32.reduceToInt, true_and, and_true, false_and, and_false, or_false, false_or, or_true, true_or, ne_eq] at *; first | done | omega)
        have n2 : ¬ nI c = 49 := by (simp only [i_eq, i_lt, i_le, Int32.reduceToInt, true_and, and_true, false_and, and_false, or_false, false_or, or_true, true_or, ne_eq] at *; first | done | omega)
        repeat' (first
            | (refine R_br rfl rfl (fun h => absurd h (by first | decide | (with_reducible assumption))) (fun _ => ?_))
            | (refine R_br rfl rfl (fun _ => ?_) (fun h => absurd (by first | decide | (with_reducible assumption)) h))
            | (refine R_br rfl rfl (fun _ => ?_) (fun _ => ?_))
            | (refine R_ri rfl rfl ?_)
            | (refine R_rz rfl rfl (Or.inl rfl) ?_)
            | (refine R_rz rfl rfl (Or.inr rfl) ?_)
            | (refine R_rz rfl rfl (b2_01 _) ?_)
            | (refine R_rl rfl rfl ?_)
            | (refine R_rv rfl rfl ?_)
            | (refine R_sw _ rfl rfl rfl ?_)
            | (refine R_go 9999 rfl rfl trivial ?_)
            | (refine R_go 9999 rfl rfl (by first | (show _ ∨ _; decide) | (show (_ ∨ _) ∧ (_ ∨ _); decide) | (show (_ ∨ _) ∧ (_ ∨ _) ∧ (_ ∨ _); decide)) ?_)
            | (refine R_go 9999 rfl rfl ?_ ?_))
        exact PM_n (by first | exact FmO_rf | (repeat' (first | exact FmO_rf | (with_reducible assumption) | (refine FmO_up ?_ (by decide)) | (refine FmO_ug ?_ (by decide) (by decide)))))
    cases ls with
    | true =>
      have e11' : ∀ x y z, ¬ up3 (up3 (up3 A 39 0 o.1.length x) 40 0 o.1.length y) 31 0 18 z 31 0 11 = 0 := fun x y z => by simp [up3, e11, bI]
      refine R_go 9999 rfl rfl ?_ ?_
      · rw [e18, cl, f1]; exact ⟨vpN (n := 80) hl rfl, vpN (n := 80) hl rfl⟩
      rw [e18, cl, f1, cl, f2, nI_1, show up3 A 39 0 o.1.length (A 31 0 15) = up3 A 39 0 o.1.length (nI (flat o).length) by rw [e15]]
      refine R_br rfl rfl (fun h => absurd h (e11' _ _ _)) (fun _ => ?_)
      repeat' (first
          | (refine R_stop 187 rfl rfl ?_)
          | (refine R_br rfl rfl (fun h => absurd h (by first | decide | (with_reducible assumption))) (fun _ => ?_))
          | (refine R_br rfl rfl (fun _ => ?_) (fun h => absurd (by first | decide | (with_reducible assumption)) h))
          | (refine R_br rfl rfl (fun _ => ?_) (fun _ => ?_))
          | (refine R_ri rfl rfl ?_)
          | (refine R_rz rfl rfl (Or.inl rfl) ?_)
          | (refine R_rz rfl rfl (Or.inr rfl) ?_)
          | (refine R_rz rfl rfl (b2_01 _) ?_)
          | (refine R_rl rfl rfl ?_)
          | (refine R_rv rfl rfl ?_)
          | (refine R_sw _ rfl rfl rfl ?_)
          | (refine R_go 187 rfl rfl trivial ?_)
          | (refine R_go 187 rfl rfl (by first | (show _ ∨ _; decide) | (show (_ ∨ _) ∧ (_ ∨ _); decide) | (show (_ ∨ _) ∧ (_ ∨ _) ∧ (_ ∨ _); decide)) ?_)
          | (refine R_go 187 rfl rfl ?_ ?_))
      exact ⟨hfin _ rfl, trivial⟩
    | false =>
      have e11' : ∀ x y z, up3 (up3 (up3 A 39 0 o.1.length x) 40 0 o.1.length y) 31 0 18 z 31 0 11 = 0 := fun x y z => by simp [up3, e11, bI]
      refine R_go 9999 rfl rfl ?_ ?_
      · rw [e18, cl, f1]; exact ⟨vpN (n := 80) hl rfl, vpN (n := 80) hl rfl⟩
      rw [e18, cl, f1, cl, f2, nI_1, show up3 A 39 0 o.1.length (A 31 0 15) = up3 A 39 0 o.1.length (nI (flat o).length) by rw [e15]]
      refine R_br rfl rfl (fun _ => ?_) (fun h => absurd (e11' _ _ _) h)
      repeat' (first
          | (refine R_stop 187 rfl rfl ?_)
          | (refine R_br rfl rfl (fun h => absurd h (by first | decide | (with_reducible assumption))) (fun _ => ?_))
          | (refine R_br rfl rfl (fun _ => ?_) (fun h => absurd (by first | decide | (with_reducible assumption)) h))
          | (refine R_br rfl rfl (fun _ => ?_) (fun _ => ?_))
          | (refine R_ri rfl rfl ?_)
          | (refine R_rz rfl rfl (Or.inl rfl) ?_)
          | (refine R_rz rfl rfl (Or.inr rfl) ?_)
          | (refine R_rz rfl rfl (b2_01 _) ?_)
          | (refine R_rl rfl rfl ?_)
          | (refine R_rv rfl rfl ?_)
          | (refine R_sw _ rfl rfl rfl ?_)
          | (refine R_go 187 rfl rfl trivial ?_)
          | (refine R_go 187 rfl rfl (by first | (show _ ∨ _; decide) | (show (_ ∨ _) ∧ (_ ∨ _); decide) | (show (_ ∨ _) ∧ (_ ∨ _) ∧ (_ ∨ _); decide)) ?_)
          | (refine R_go 187 rfl rfl ?_ ?_))
      exact ⟨hfin _ rfl, trivial⟩
  · rcases hst with rfl | rfl
    · refine R_sw 6 (by rw [e6]; rfl) rfl rfl ?_
      rw [if_neg (show ¬ 6 = 0 by decide), if_neg (show ¬ 6 = 0 by decide), if_neg (show ¬ 6 = 1 by decide), if_neg (show ¬ 6 = 1 by decide), if_neg (show ¬ 6 = 2 by decide), if_neg (show ¬ 6 = 2 by decide), if_neg (show ¬ 6 = 3 by decide), if_neg (show ¬ 6 = 3 by decide), if_neg (show ¬ 6 = 4 by decide), if_neg (show ¬ 6 = 4 by decide), if_neg (show ¬ 6 = 5 by decide), if_neg (show ¬ 6 = 5 by decide), if_pos rfl]
      by_cases c1 : c = 59
      · subst c1
        rw [if_pos rfl]
        repeat' (first
            | (refine R_br rfl rfl (fun h => absurd h (by first | decide | (with_reducible assumption))) (fun _ => ?_))
            | (refine R_br rfl rfl (fun _ => ?_) (fun h => absurd (by first | decide | (with_reducible assumption)) h))
            | (refine R_br rfl rfl (fun _ => ?_) (fun _ => ?_))
            | (refine R_ri rfl rfl ?_)
            | (refine R_rz rfl rfl (Or.inl rfl) ?_)
            | (refine R_rz rfl rfl (Or.inr rfl) ?_)
            | (refine R_rz rfl rfl (b2_01 _) ?_)
            | (refine R_rl rfl rfl ?_)
            | (refine R_rv rfl rfl ?_)
            | (refine R_sw _ rfl rfl rfl ?_)
            | (refine R_go 9999 rfl rfl trivial ?_)
            | (refine R_go 9999 rfl rfl (by first | (show _ ∨ _; decide) | (show (_ ∨ _) ∧ (_ ∨ _); decide) | (show (_ ∨ _) ∧ (_ ∨ _) ∧ (_ ∨ _); decide)) ?_)
            | (refine R_go 9999 rfl rfl ?_ ?_))
        exact PM_y (by first | exact FmO_rf | (repeat' (first | exact FmO_rf | (with_reducible assumption) | (refine FmO_up ?_ (by decide)) | (refine FmO_ug ?_ (by decide) (by decide))))) ⟨by simp [up3]; rfl, by simp [up3, e7], by simp [up3, e8], by simp [up3, e9], by simp [up3, bI], by simp [up3, e11]⟩ (ROM_c ho (by first | exact FmO_rf | (repeat' (first | exact FmO_rf | (with_reducible assumption) | (refine FmO_up ?_ (by decide)) | (refine FmO_ug ?_ (by decide) (by decide))))))
      · rw [if_neg c1]
        have n1 : ¬ nI c = 59 := by (simp only [i_eq, i_lt, i_le, Int32.reduceToInt, true_and, and_true, false_and, and_false, or_false, false_or, or_true, true_or, ne_eq] at *; first | done | omega)
        repeat' (first
            | (refine R_br rfl rfl (fun h => absurd h (by first | decide | (with_reducible assumption))) (fun _ => ?_))
            | (refine R_br rfl rfl (fun _ => ?_) (fun h => absurd (by first | decide | (with_reducible assumption)) h))
            | (refine R_br rfl rfl (fun _ => ?_) (fun _ => ?_))
            | (refine R_ri rfl rfl ?_)
            | (refine R_rz rfl rfl (Or.inl rfl) ?_)
            | (refine R_rz rfl rfl (Or.inr rfl) ?_)
            | (refine R_rz rfl rfl (b2_01 _) ?_)
            | (refine R_rl rfl rfl ?_)
            | (refine R_rv rfl rfl ?_)
            | (refine R_sw _ rfl rfl rfl ?_)
            | (refine R_go 9999 rfl rfl trivial ?_)
            | (refine R_go 9999 rfl rfl (by first | (show _ ∨ _; decide) | (show (_ ∨ _) ∧ (_ ∨ _); decide) | (show (_ ∨ _) ∧ (_ ∨ _) ∧ (_ ∨ _); decide)) ?_)
            | (refine R_go 9999 rfl rfl ?_ ?_))
        exact PM_n (by first | exact FmO_rf | (repeat' (first | exact FmO_rf | (with_reducible assumption) | (refine FmO_up ?_ (by decide)) | (refine FmO_ug ?_ (by decide) (by decide)))))
    · refine R_sw 7 (by rw [e6]; rfl) rfl rfl ?_
      rw [if_neg (show ¬ 7 = 0 by decide), if_neg (show ¬ 7 = 1 by decide), if_neg (show ¬ 7 = 2 by decide), if_neg (show ¬ 7 = 3 by decide), if_neg (show ¬ 7 = 4 by decide), if_neg (show ¬ 7 = 5 by decide), if_neg (show ¬ 7 = 6 by decide)]
      repeat' (first
          | (refine R_br rfl rfl (fun h => absurd h (by first | decide | (with_reducible assumption))) (fun _ => ?_))
          | (refine R_br rfl rfl (fun _ => ?_) (fun h => absurd (by first | decide | (with_reducible assumption)) h))
          | (refine R_br rfl rfl (fun _ => ?_) (fun _ => ?_))
          | (refine R_ri rfl rfl ?_)
          | (refine R_rz rfl rfl (Or.inl rfl) ?_)
          | (refine R_rz rfl rfl (Or.inr rfl) ?_)
          | (refine R_rz rfl rfl (b2_01 _) ?_)
          | (refine R_rl rfl rfl ?_)
          | (refine R_rv rfl rfl ?_)
          | (refine R_sw _ rfl rfl rfl ?_)
          | (refine R_go 9999 rfl rfl trivial ?_)
          | (refine R_go 9999 rfl rfl (by first | (show _ ∨ _; decide) | (show (_ ∨ _) ∧ (_ ∨ _); decide) | (show (_ ∨ _) ∧ (_ ∨ _) ∧ (_ ∨ _); decide)) ?_)
          | (refine R_go 9999 rfl rfl ?_ ?_))
      exact PM_n (by first | exact FmO_rf | (repeat' (first | exact FmO_rf | (with_reducible assumption) | (refine FmO_up ?_ (by decide)) | (refine FmO_ug ?_ (by decide) (by decide)))))
