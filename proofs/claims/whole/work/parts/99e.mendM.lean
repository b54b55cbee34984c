theorem nms_t1 {t : Tk} : (nms [t]).length = if t.1 = 8 then 1 else 0 := by
  by_cases h : t.1 = 8
  · rw [nms_y h, if_pos h]; rfl
  · rw [nms_x h, if_neg h]; rfl
theorem nuC_s (l : List Tk) (k : Nat) (hk : k < l.length) : (nms (l.take (k + 1))).length = (nms (l.take k)).length + if (l.getD k (0, 0)).1 = 8 then 1 else 0 := by
  have : l.take (k + 1) = l.take k ++ [l.getD k (0, 0)] := by
    rw [List.take_succ, List.getElem?_eq_getElem hk, List.getD_eq_getElem?_getD, List.getElem?_eq_getElem hk]; rfl
  rw [this, nms_app, List.length_append, nms_t1]
theorem nms_lx (l : List Tk) : (nms l).length ≤ l.length := by
  induction l with
  | nil => exact Nat.le_refl _
  | cons t l ih =>
    by_cases h : t.1 = 8
    · rw [nms_y h]; simp only [List.length_cons]; omega
    · rw [nms_x h]; simp only [List.length_cons]; omega
theorem mk_at {A : FI} {P : List (List Tk × Nat)} (hG : RMG A P) {k : Nat} (hk : k < (flP P).length) : A 42 0 k = nI ((flP P).getD k (0, 0)).1 := by
  rw [hG.2.1 k (by simp; omega), gdm Prod.fst (flP P) k (0, 0) hk]
theorem nb_at {A : FI} {P : List (List Tk × Nat)} (hG : RMG A P) {k : Nat} (hk : k < (flP P).length) : A 43 0 k = nI ((flP P).getD k (0, 0)).2 := by
  rw [hG.2.2.1 k (by simp; omega), gdm Prod.snd (flP P) k (0, 0) hk]
theorem mk_17 {z z' : Nat × List Nat} : ∀ (l : List Tk), wfs z l = some z' → ∀ t ∈ l, t.1 ≤ 17 := by
  intro l
  induction l generalizing z with
  | nil => intro _ t ht; cases ht
  | cons t l ih =>
    intro h x hx
    unfold wfs at h
    cases hw : wst z t with
    | none => rw [hw] at h; cases h
    | some z1 =>
      rw [hw] at h
      rcases List.mem_cons.mp hx with rfl | hx
      · refine Classical.byContradiction (fun hn => ?_)
        unfold wst at hw
        rw [if_neg (by omega), if_neg (by omega), if_neg (by omega), if_neg (by omega), if_neg (by omega), if_neg (by omega), if_neg (by omega)] at hw
        cases hw
      · exact ih h x hx
theorem okP_17 {P : List (List Tk × Nat)} (h : okG P) : ∀ t ∈ flP P, t.1 ≤ 17 := by
  rcases h with rfl | ⟨⟨dn, d, rfl, hd, hW⟩, -⟩
  · intro t ht; cases ht
  · have key : ∀ (dn : List (List Tk × Nat)), allW dn → ∀ x ∈ flP (dn ++ [([], d)]), x.1 ≤ 17 := by
      intro dn
      induction dn with
      | nil => intro _ x hx; cases hx
      | cons l t ih =>
        intro hW x hx
        rw [List.cons_append, flP_c] at hx
        rcases List.mem_append.mp hx with hx | hx
        · exact mk_17 _ (hW l List.mem_cons_self).2.1 x hx
        · exact ih (fun y hy => hW y (List.mem_cons_of_mem _ hy)) x hx
    exact key dn hW
theorem okG_80 {P : List (List Tk × Nat)} (h : okG P) : (flP P).length ≤ 80 := by
  rcases h with rfl | h
  · exact Nat.zero_le _
  · have := szk_P h.2; omega
theorem gd_inT {l : List Tk} {i : Nat} (h : i < l.length) : l.getD i (0, 0) ∈ l := by
  rw [List.getD_eq_getElem?_getD, List.getElem?_eq_getElem h]
  exact List.getElem_mem h
theorem l_numberMany {P : List (List Tk × Nat)} (hP : okG P) {A : FI} {B : FJ} (hG : RMG A P) : ∀ (m k : Nat), k + m = (flP P).length → Rn 0 mtX12_numberMany 4 [some (.inr (.inr (some (31, 0)))), some (.inl (nI (nms ((flP P).take k)).length)), some (.inl (nI k))] [] (hp A B) (Ret (some (.inl (nI (nms (flP P)).length))) (hp A B)) := by
  intro m
  have h80 := okG_80 hP
  induction m with
  | zero =>
    intro k hk
    have ek : k = (flP P).length := by omega
    refine R_go 9999 rfl rfl trivial ?_
    try dsimp only [fgt, fpt]
    rw [hG.2.2.2.1, ek, List.take_length]
    refine R_br rfl rfl (fun _ => ?_) (fun h => absurd (Int32.le_refl _) h)
    repeat' (first
        | (refine R_br rfl rfl (fun hbr => absurd hbr (by first | decide | (with_reducible assumption))) (fun _ => ?_))
        | (refine R_br rfl rfl (fun _ => ?_) (fun hbr => absurd (by first | decide | (with_reducible assumption)) hbr))
        | (refine R_br rfl rfl (fun _ => ?_) (fun _ => ?_))
        | (refine R_ri rfl rfl ?_)
        | (refine R_rz rfl rfl (Or.inl rfl) ?_)
        | (refine R_rz rfl rfl (Or.inr rfl) ?_)
        | (refine R_rz rfl rfl (b2_01 _) ?_)
        | (refine R_rl rfl rfl ?_)
        | (refine R_rv rfl rfl ?_)
        | (refine R_sw _ rfl rfl rfl ?_)
        | (refine R_go 9999 rfl rfl trivial ?_)
        | (refine R_go 9999 rfl rfl (by first | (show _ ∨ _; decide) | (show (_ ∨ _) ∧ (_ ∨ _); decide) | (show (_ ∨ _) ∧ (_ ∨ _) ∧ (_ ∨ _); decide)) ?_)
        | (refine R_go 9999 rfl rfl ?_ ?_))
    exact ret_i rfl rfl
  | succ m ih =>
    intro k hk
    have tk := ti k (by omega)
    have tl := ti (flP P).length (by omega)
    have ck : (nI k).toNatClampNeg = k := nI_clamp (by omega)
    have hvk : vp_in (nI k) 80 := vpN (n := 80) (by omega) rfl
    have hkl : k < (flP P).length := by omega
    have h17 := okP_17 hP _ (gd_inT hkl)
    have es := nuC_s (flP P) k hkl
    have ihk := ih (k + 1) (by omega)
    refine R_go 9999 rfl rfl trivial ?_
    try dsimp only [fgt, fpt]
    rw [hG.2.2.2.1]
    refine R_br rfl rfl (fun h => absurd h (by (simp only [i_eq, i_lt, i_le, Int32.reduceToInt, true_and, and_true, false_and, and_false, or_false, false_or, or_true, true_or, ne_eq] at *; first | done | omega))) (fun _ => ?_)
    refine R_go 9999 rfl rfl hvk ?_
    rw [ck, mk_at hG hkl]
    by_cases h8 : ((flP P).getD k (0, 0)).1 = 8
    · rw [if_pos h8] at es
      rw [es] at ihk
      rw [h8]
      refine R_br rfl rfl (fun _ => ?_) (fun h => absurd rfl h)
      refine R_go 4 rfl rfl trivial ?_
      rw [nI_1, nI_1]
      exact ihk
    · rw [if_neg h8] at es
      rw [es] at ihk
      refine R_br rfl rfl (fun h => absurd (nI_ij (b := 8) (by omega) (by omega) h) h8) (fun _ => ?_)
      refine R_go 4 rfl rfl trivial ?_
      rw [nI_1, show nI (nms (List.take k (flP P))).length + 0 = nI ((nms (List.take k (flP P))).length + 0) from nI_add _ 0]
      exact ihk
theorem m_numberMany {P : List (List Tk × Nat)} (hP : okG P) {A : FI} {B : FJ} (hG : RMG A P) : MV 0 0 mtX12_numberMany [.inr (.inr (some (31, 0)))] (hp A B) (Ret (some (.inl (nI (nms (flP P)).length))) (hp A B)) := by
  refine MV_of caX12_numberMany (L := [some (.inr (.inr (some (31, 0)))), none, none]) rfl rfl ?_
  refine R_go 4 rfl rfl trivial ?_
  exact l_numberMany hP hG (flP P).length 0 (by omega)
theorem l_numberAt {P : List (List Tk × Nat)} (hP : okG P) {A : FI} {B : FJ} (hG : RMG A P) {i : Nat} : ∀ (l : List Tk) (k left : Nat), (flP P).drop k = l → k + l.length = (flP P).length → left < (nms l).length → npo (flP P) i = k + npo l left → Rn 0 mtX12_numberAt 4 [some (.inr (.inr (some (31, 0)))), some (.inl (nI i)), some (.inl (nI left)), some (.inl (nI k))] [] (hp A B) (Ret (some (.inl (nI (npo (flP P) i)))) (hp A B)) := by
  have h80 := okG_80 hP
  intro l
  induction l with
  | nil => intro k left _ _ h; exact absurd h (Nat.not_lt_zero _)
  | cons t l ih =>
    intro k left hd hl hlt hn
    rw [List.length_cons] at hl
    have hkl : k < (flP P).length := by omega
    have hg : (flP P).getD k (0, 0) = t := by
      rw [List.getD_eq_getElem?_getD, List.getElem?_eq_getElem hkl]
      have := List.drop_eq_getElem_cons hkl
      rw [hd] at this
      injection this with h1 _
      rw [h1]; rfl
    have hd' : (flP P).drop (k + 1) = l := by
      have := List.drop_eq_getElem_cons hkl
      rw [hd] at this
      injection this with _ h2
      exact h2.symm
    have ck : (nI k).toNatClampNeg = k := nI_clamp (by omega)
    have hvk : vp_in (nI k) 80 := vpN (n := 80) (by omega) rfl
    have h17 := okP_17 hP _ (gd_inT hkl)
    have hle := nms_lx (t :: l)
    rw [List.length_cons] at hle
    have tl := ti left (by omega)
    rw [hg] at h17
    refine R_go 9999 rfl rfl hvk ?_
    rw [ck, mk_at hG hkl, hg]
    by_cases h8 : t.1 = 8
    · rw [h8]
      rw [nms_y h8, List.length_cons] at hlt
      refine R_br rfl rfl (fun _ => ?_) (fun h => absurd rfl h)
      refine R_go 9999 rfl rfl trivial ?_
      cases left with
      | zero =>
        rw [npo_0 h8, Nat.add_zero] at hn
        refine R_br rfl rfl (fun _ => ?_) (fun h => absurd (by decide) h)
        rw [hn]
        repeat' (first
            | (refine R_br rfl rfl (fun hbr => absurd hbr (by first | decide | (with_reducible assumption))) (fun _ => ?_))
            | (refine R_br rfl rfl (fun _ => ?_) (fun hbr => absurd (by first | decide | (with_reducible assumption)) hbr))
            | (refine R_br rfl rfl (fun _ => ?_) (fun _ => ?_))
            | (refine R_ri rfl rfl ?_)
            | (refine R_rz rfl rfl (Or.inl rfl) ?_)
            | (refine R_rz rfl rfl (Or.inr rfl) ?_)
            | (refine R_rz rfl rfl (b2_01 _) ?_)
            | (refine R_rl rfl rfl ?_)
            | (refine R_rv rfl rfl ?_)
            | (refine R_sw _ rfl rfl rfl ?_)
            | (refine R_go 9999 rfl rfl trivial ?_)
            | (refine R_go 9999 rfl rfl (by first | (show _ ∨ _; decide) | (show (_ ∨ _) ∧ (_ ∨ _); decide) | (show (_ ∨ _) ∧ (_ ∨ _) ∧ (_ ∨ _); decide)) ?_)
            | (refine R_go 9999 rfl rfl ?_ ?_))
        exact ret_i rfl rfl
      | succ left =>
        rw [npo_1 h8] at hn
        refine R_br rfl rfl (fun h => absurd h (by (simp only [i_eq, i_lt, i_le, Int32.reduceToInt, true_and, and_true, false_and, and_false, or_false, false_or, or_true, true_or, ne_eq] at *; first | done | omega))) (fun _ => ?_)
        refine R_go 9999 rfl rfl hvk ?_
        rw [ck, mk_at hG hkl, hg, h8]
        refine R_br rfl rfl (fun _ => ?_) (fun h => absurd rfl h)
        refine R_go 4 rfl rfl trivial ?_
        rw [nI_pred, nI_1]
        exact ih (k + 1) left hd' (by omega) (by omega) (by omega)
    · rw [nms_x h8] at hlt
      rw [npo_n h8] at hn
      refine R_br rfl rfl (fun h => absurd (nI_ij (b := 8) (by omega) (by omega) h) h8) (fun _ => ?_)
      refine R_go 9999 rfl rfl hvk ?_
      rw [ck, mk_at hG hkl, hg]
      refine R_br rfl rfl (fun h => absurd (nI_ij (b := 8) (by omega) (by omega) h) h8) (fun _ => ?_)
      refine R_go 4 rfl rfl trivial ?_
      rw [nI_1, show nI left - 0 = nI left from nI_sub (b := 0) (by omega)]
      exact ih (k + 1) left hd' (by omega) hlt (by omega)
theorem m_numberAt {P : List (List Tk × Nat)} (hP : okG P) {A : FI} {B : FJ} (hG : RMG A P) {i : Nat} (hi : i < (nms (flP P)).length) : MV 0 1 mtX12_numberAt [.inr (.inr (some (31, 0))), .inl (nI i)] (hp A B) (Ret (some (.inl (nI (npo (flP P) i)))) (hp A B)) := by
  refine MV_of caX12_numberAt (L := [some (.inr (.inr (some (31, 0)))), some (.inl (nI i)), none, none]) rfl rfl ?_
  refine R_go 4 rfl rfl trivial ?_
  exact l_numberAt hP hG (flP P) 0 i rfl (by omega) hi (by omega)
theorem m_isNought {P : List (List Tk × Nat)} {R : List Rw} (hP : okP P) (f v w : Nat) (hf : f < 8) (hv : v ≤ 20) (hw : w ≤ 20) {A : FI} {B : FJ} (hG : RMG A P) (hR : RMR A R) : MV 5 3 mtX12_isNought [.inr (.inr (some (31, 0))), .inl (nI f), .inl (nI v), .inl (nI w)] (hp A B) (fun r h' => ∃ A' B', h' = hp A' B' ∧ r = some (.inl (b2 (evN P R f v w))) ∧ FmZ A A' ∧ FmJ [49] B B') := by
  have h24 := hR.2.1
  refine MV_of caX12_isNought (L := [some (.inr (.inr (some (31, 0)))), some (.inl (nI f)), some (.inl (nI v)), some (.inl (nI w))]) rfl rfl ?_
  refine R_go 9999 rfl rfl trivial ?_
  refine R_cv rfl (m_takeGroups hP f v w hf hv hw hG hR) rfl rfl rfl rfl rfl (Nat.le_of_ble_eq_true rfl) rfl ?_
  rintro r h' ⟨A1, B1, rfl, rfl, hF1, hJ1, t1, t2, t3, t4, -⟩
  have c1 := m24 (mb24 (P := P) h24 f v 1) (mb24 (P := P) h24 f w 0)
  have c2 := m24 (mb24 (P := P) h24 f w 1) (mb24 (P := P) h24 f v 0)
  have hgo := m_gapOf (mL P R f v) (mA P R f v) (mL P R f w) (mA P R f w) (by unfold mL mA; omega) (by unfold mL mA; omega) A1 B1
  have hev : evN P R f v w ↔ gpN (mL P R f v) (mA P R f v) (mL P R f w) (mA P R f w) = 0 := by unfold evN gpN; omega
  have hgb : gpN (mL P R f v) (mA P R f v) (mL P R f w) (mA P R f w) ≤ 2000 := by unfold gpN mL mA; omega
  refine R_go 9999 rfl rfl trivial ?_
  try dsimp only [fgt, fpt]
  rw [t1, t2, t3, t4]
  refine R_csr rfl hgo rfl rfl rfl (Nat.le_of_ble_eq_true rfl) rfl ?_
  by_cases h0 : gpN (mL P R f v) (mA P R f v) (mL P R f w) (mA P R f w) = 0
  · refine R_br rfl rfl (fun _ => ?_) (fun h => absurd (by rw [h0]; rfl) h)
    repeat' (first
        | (refine R_br rfl rfl (fun hbr => absurd hbr (by first | decide | (with_reducible assumption))) (fun _ => ?_))
        | (refine R_br rfl rfl (fun _ => ?_) (fun hbr => absurd (by first | decide | (with_reducible assumption)) hbr))
        | (refine R_br rfl rfl (fun _ => ?_) (fun _ => ?_))
        | (refine R_ri rfl rfl ?_)
        | (refine R_rz rfl rfl (Or.inl rfl) ?_)
        | (refine R_rz rfl rfl (Or.inr rfl) ?_)
        | (refine R_rz rfl rfl (b2_01 _) ?_)
        | (refine R_rl rfl rfl ?_)
        | (refine R_rv rfl rfl ?_)
        | (refine R_sw _ rfl rfl rfl ?_)
        | (refine R_go 9999 rfl rfl trivial ?_)
        | (refine R_go 9999 rfl rfl (by first | (show _ ∨ _; decide) | (show (_ ∨ _) ∧ (_ ∨ _); decide) | (show (_ ∨ _) ∧ (_ ∨ _) ∧ (_ ∨ _); decide)) ?_)
        | (refine R_go 9999 rfl rfl ?_ ?_))
    exact ⟨A1, B1, rfl, by rw [b2_1 (hev.mpr h0)], hF1, hJ1⟩
  · refine R_br rfl rfl (fun h => absurd (nI_ij (b := 0) (by omega) (by omega) h) h0) (fun _ => ?_)
    repeat' (first
        | (refine R_br rfl rfl (fun hbr => absurd hbr (by first | decide | (with_reducible assumption))) (fun _ => ?_))
        | (refine R_br rfl rfl (fun _ => ?_) (fun hbr => absurd (by first | decide | (with_reducible assumption)) hbr))
        | (refine R_br rfl rfl (fun _ => ?_) (fun _ => ?_))
        | (refine R_ri rfl rfl ?_)
        | (refine R_rz rfl rfl (Or.inl rfl) ?_)
        | (refine R_rz rfl rfl (Or.inr rfl) ?_)
        | (refine R_rz rfl rfl (b2_01 _) ?_)
        | (refine R_rl rfl rfl ?_)
        | (refine R_rv rfl rfl ?_)
        | (refine R_sw _ rfl rfl rfl ?_)
        | (refine R_go 9999 rfl rfl trivial ?_)
        | (refine R_go 9999 rfl rfl (by first | (show _ ∨ _; decide) | (show (_ ∨ _) ∧ (_ ∨ _); decide) | (show (_ ∨ _) ∧ (_ ∨ _) ∧ (_ ∨ _); decide)) ?_)
        | (refine R_go 9999 rfl rfl ?_ ?_))
    exact ⟨A1, B1, rfl, by rw [b2_0 (fun z => h0 (hev.mp z))], hF1, hJ1⟩
