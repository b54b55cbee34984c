theorem RPm_fr {A A' : FI} {q : Nat → Nat} {gs ss : List Nat} (h : RPm A q) (hF : FmO 31 gs ss A A') (hg : 52 ∉ gs) : RPm A' q := fun f hf => by rw [hF.1 52 (by decide) hg]; exact h f hf
theorem lp_holds {gr go fr to : Nat} (hg : (gr = 42 ∧ go = 43) ∨ (gr = 53 ∧ go = 54)) {q : Nat → Nat} {Q : Option AV → AH → Prop} (hto : to ≤ 80) : ∀ (l : List Tk) (i : Nat) (z : Ev) (y y' : Nat × List Nat) (A : FI) (B : FJ), i + l.length = to → (∀ k, k < l.length → A gr 0 (i + k) = nI (l.getD k (0, 0)).1 ∧ A go 0 (i + k) = nI (l.getD k (0, 0)).2) → RPm A q → wfs y l = some y' → typ z y → RM A B z → z.1.length + z.2.length + l.length ≤ 80 → (∀ A' B' o8 o9, RM A' B' (evl q z l) → typ (evl q z l) y' → FmH A A' → FmJ [49] B B' → Rn 1 mtX12_holds 9 (hdL gr go fr to (evl q z l) to o8 o9) [] (hp A' B') Q) → ∀ o8 o9, Rn 1 mtX12_holds 9 (hdL gr go fr to z i o8 o9) [] (hp A B) Q := by
  intro l
  induction l with
  | nil =>
    intro i z y y' A B hi hc hq hw hz hR hl kk o8 o9
    cases hw
    have : i = to := by simpa using hi
    subst this
    exact kk A B o8 o9 hR hz FmO_rf FmJ_rf
  | cons t l ih =>
    intro i z y y' A B hi hc hq hw hz hR hl kk o8 o9
    simp only [List.length_cons] at hl hi
    unfold wfs at hw
    cases hw1 : wst y t with
    | none => rw [hw1] at hw; cases hw
    | some y1 =>
      rw [hw1] at hw
      dsimp only at hw
      have h0 := hc 0 (by simp)
      refine st_holds hg t i z y y1 hto (by omega) (by simpa using h0.1) (by simpa using h0.2) hq hw1 hz hR (by omega) (fun A' B' p8 p9 hR' hF hJ => ?_) o8 o9
      have hlen := evs_len (q := q) z t
      have hgr : A' gr = A gr := by rcases hg with ⟨rfl, rfl⟩ | ⟨rfl, rfl⟩ <;> exact hF.1 _ (by decide) (by decide)
      have hgo : A' go = A go := by rcases hg with ⟨rfl, rfl⟩ | ⟨rfl, rfl⟩ <;> exact hF.1 _ (by decide) (by decide)
      refine ih (i + 1) (evs q z t) y1 y' A' B' (by omega) (fun k hk => ?_) (RPm_fr hq hF (by decide)) hw (evs_typ hz hw1) hR' (by omega) (fun A2 B2 p1 p2 a b c d => kk A2 B2 p1 p2 a b (FmO_tr hF c) (FmJ_tr hJ d)) p8 p9
      have := hc (k + 1) (by simpa using hk)
      rw [hgr, hgo, show i + 1 + k = i + (k + 1) by omega]
      simpa [List.getD_eq_getElem?_getD] using this
def HPo (A : FI) (B : FJ) (v : Nat) : Option AV → AH → Prop := fun r h' => ∃ A' B', h' = hp A' B' ∧ r = some (.inl (nI v)) ∧ FmH A A' ∧ FmJ [49] B B'
theorem m_holds {gr go fr to : Nat} (hg : (gr = 42 ∧ go = 43) ∨ (gr = 53 ∧ go = 54)) {A : FI} {B : FJ} {q : Nat → Nat} (l : List Tk) (hto : to ≤ 80) (hl : fr + l.length = to) (hc : ∀ k, k < l.length → A gr 0 (fr + k) = nI (l.getD k (0, 0)).1 ∧ A go 0 (fr + k) = nI (l.getD k (0, 0)).2) (hq : RPm A q) (hw : wfs (0, []) l = some (1, [])) : MV 1 4 mtX12_holds [.inr (.inr (some (31, 0))), .inr (.inr (some (gr, 0))), .inr (.inr (some (go, 0))), .inl (nI fr), .inl (nI to)] (hp A B) (HPo A B (hldS q l)) := by
  refine MV_of caX12_holds (L := [some (.inr (.inr (some (31, 0)))), some (.inr (.inr (some (gr, 0)))), some (.inr (.inr (some (go, 0)))), some (.inl (nI fr)), some (.inl (nI to)), none, none, none, none, none, none]) rfl rfl ?_
  refine R_go 9 rfl rfl trivial ?_
  refine lp_holds hg hto l fr ([], []) (0, []) (1, []) A B hl hc hq hw ⟨rfl, rfl, fun v hv => by simp at hv⟩ ⟨jl_nil, al_nil, al_nil⟩ (by simp; omega) (fun A1 B1 o8 o9 hR1 ht hF hJ => ?_) none none
  obtain ⟨v, hv, hv2⟩ := typ_1 ht
  have hhv : hldS q l = v := by unfold hldS; rw [hv]; rfl
  rw [hv] at hR1 ⊢
  have e1 : A1 51 0 (0 : Int32).toNatClampNeg = nI v := (RM_t1 hR1).1
  have n1 : nI to ≤ nI to := Int32.le_refl _
  repeat' (first
      | (refine R_br rfl rfl (fun hbr => absurd hbr (by first | decide | (with_reducible assumption))) (fun _ => ?_))
      | (refine R_br rfl rfl (fun _ => ?_) (fun hbr => absurd (by first | decide | (with_reducible assumption)) hbr))
      | (refine R_br rfl rfl (fun _ => ?_) (fun _ => ?_))
      | (refine R_ri rfl rfl ?_)
      | (refine R_rz rfl rfl (Or.inl rfl) ?_)
      | (refine R_rz rfl rfl (Or.inr rfl) ?_)
      | (refine R_rz rfl rfl (b2_01 _) ?_)
      | (refine R_rl rfl rfl ?_)
      | (refine R_rv rfl rfl ?_)
      | (refine R_sw _ rfl rfl rfl ?_)
      | (refine R_go 9999 rfl rfl trivial ?_)
      | (refine R_go 9999 rfl rfl (by first | (show _ ∨ _; decide) | (show (_ ∨ _) ∧ (_ ∨ _); decide) | (show (_ ∨ _) ∧ (_ ∨ _) ∧ (_ ∨ _); decide)) ?_)
      | (refine R_go 9999 rfl rfl ?_ ?_))
  · exact vpN (a := 0) (n := 81) (by decide) rfl
  · rw [e1, hhv]
    exact ⟨A1, B1, rfl, rfl, hF, hJ⟩
def flP (P : List (List Tk × Nat)) : List Tk := (P.map Prod.fst).flatten
/-- THE PROGRAM, as the reference holds it -/
def RMG (A : FI) (P : List (List Tk × Nat)) : Prop := A 31 0 21 = bI (!P.isEmpty) ∧ al (A 42 0) ((flP P).map Prod.fst) ∧ al (A 43 0) ((flP P).map Prod.snd) ∧ A 31 0 24 = nI (flP P).length ∧ al (A 44 0) (cum 0 P) ∧ al (A 45 0) (P.map Prod.snd) ∧ A 31 0 27 = nI P.length
theorem RMG_fr {A A' : FI} {P : List (List Tk × Nat)} {gs ss : List Nat} (h : RMG A P) (hF : FmO 31 gs ss A A') (h1 : 42 ∉ gs ∧ 43 ∉ gs ∧ 44 ∉ gs ∧ 45 ∉ gs) (h2 : 21 ∉ ss ∧ 24 ∉ ss ∧ 27 ∉ ss) : RMG A' P := by
  obtain ⟨a, b, c, d, e, f, g⟩ := h
  refine ⟨?_, ?_, ?_, ?_, ?_, ?_, ?_⟩
  · rw [hF.2 21 h2.1]; exact a
  · rw [hF.1 42 (by decide) h1.1]; exact b
  · rw [hF.1 43 (by decide) h1.2.1]; exact c
  · rw [hF.2 24 h2.2.1]; exact d
  · rw [hF.1 44 (by decide) h1.2.2.1]; exact e
  · rw [hF.1 45 (by decide) h1.2.2.2]; exact f
  · rw [hF.2 27 h2.2.2]; exact g
theorem cum_get (l : List Tk × Nat) (t : List (List Tk × Nat)) : ∀ (pre : List (List Tk × Nat)) (n : Nat), (cum n (pre ++ l :: t)).getD pre.length 0 = n + (flP pre).length + l.1.length := by
  intro pre
  induction pre with
  | nil => intro n; simp [cum, flP]
  | cons m pre ih =>
    intro n
    have := ih (n + m.1.length)
    simp only [List.cons_append, cum, List.length_cons, List.getD_cons_succ, this, flP, List.map_cons, List.flatten_cons, List.length_append]
    omega
theorem flP_get (l : List Tk × Nat) (pre t : List (List Tk × Nat)) (j : Nat) (hj : j < l.1.length) : (flP (pre ++ l :: t)).getD ((flP pre).length + j) (0, 0) = l.1.getD j (0, 0) := by
  have : flP (pre ++ l :: t) = flP pre ++ (l.1 ++ flP t) := by simp [flP]
  rw [this]
  simp [List.getD_eq_getElem?_getD, List.getElem?_append_right, List.getElem?_append_left hj]
theorem flP_len (l : List Tk × Nat) (pre t : List (List Tk × Nat)) : (flP (pre ++ l :: t)).length = (flP pre).length + l.1.length + (flP t).length := by simp [flP]; omega
theorem gdm {α : Type} (f : α → Nat) (l : List α) (k : Nat) (d : α) (hk : k < l.length) : (l.map f).getD k 0 = f (l.getD k d) := by
  simp [List.getD_eq_getElem?_getD, hk]
def RWo (A : FI) (B : FJ) (x : Nat × Int32) : Option AV → AH → Prop := fun r h' => ∃ A' B', h' = hp A' B' ∧ r = some (.inl (nI x.1)) ∧ A' 31 0 36 = x.2 ∧ FmO 31 [50, 51] [36] A A' ∧ FmJ [49] B B'
theorem RWo_tr {A A1 : FI} {B B1 : FJ} {x : Nat × Int32} {r : Option AV} {h' : AH} (a : FmO 31 [50, 51] [36] A A1) (b : FmJ [49] B B1) (k : RWo A1 B1 x r h') : RWo A B x r h' := by
  obtain ⟨A', B', k1, k2, k3, k4, k5⟩ := k
  exact ⟨A', B', k1, k2, k3, FmO_tr a k4, FmJ_tr b k5⟩
theorem szk_P {P : List (List Tk × Nat)} (h : szk (P, [], []) ≤ 80) : (flP P).length + P.length ≤ 80 := by
  simp only [szk, ln1, szO, flat, List.length_append, List.length_nil] at h
  simp only [flP]
  omega
theorem l_runWho {P : List (List Tk × Nat)} {q : Nat → Nat} (hsz : (flP P).length + P.length ≤ 80) : ∀ (dn : List (List Tk × Nat)) (d : Nat) (pre : List (List Tk × Nat)) (A : FI) (B : FJ), P = pre ++ (dn ++ [([], d)]) → RMG A P → RPm A q → allW dn → d ≤ 1 → ∀ o, Rn 2 mtX12_runWho 4 [some (.inr (.inr (some (31, 0)))), some (.inl (nI (flP pre).length)), some (.inl (nI pre.length)), o] [] (hp A B) (RWo A B (rnS q pre.length (dn ++ [([], d)]))) := by
  intro dn
  induction dn with
  | nil =>
    intro d pre A B hP hR hq hW hd o
    obtain ⟨a1, a2, a3, a4, a5, a6, a7⟩ := hR
    have hlen : P.length = pre.length + 1 := by rw [hP]; simp
    have e27 : A 31 0 27 - 1 = nI pre.length := by rw [a7, hlen]; exact nI_pred _
    have cp : (nI pre.length).toNatClampNeg = pre.length := nI_clamp (by omega)
    have n1 : A 31 0 27 - 1 ≤ nI pre.length := by rw [e27]; exact Int32.le_refl _
    have hv : vp_in (nI pre.length) 80 := vpN (n := 80) (by omega) rfl
    have ed : A 45 0 pre.length = nI d := by
      rw [a6 pre.length (by simp; omega), gdm Prod.snd P pre.length ([], 0) (by omega), hP]
      simp [List.getD_eq_getElem?_getD]
    refine R_go 9999 rfl rfl trivial ?_
    refine R_br rfl rfl (fun _ => ?_) (fun h => absurd n1 h)
    refine R_go 9999 rfl rfl ?_ ?_
    · rw [up3_s (by decide), e27]; exact hv
    rw [up3_s (show 27 ≠ 36 by decide), e27, up3_g (by decide), cp, ed]
    refine R_ri rfl rfl ?_
    exact ⟨_, _, rfl, rfl, up3_self, (by first | exact FmO_rf | (repeat' (first | exact FmO_rf | (with_reducible assumption) | (refine FmO_up ?_ (by decide)) | (refine FmO_ug ?_ (by decide) (by decide))))), FmJ_rf⟩
  | cons l t ih =>
    intro d pre A B hP hR hq hW hd o
    have hR0 := hR
    obtain ⟨a1, a2, a3, a4, a5, a6, a7⟩ := hR
    obtain ⟨w1, w2, w3⟩ := hW l List.mem_cons_self
    have hP' : P = pre ++ l :: (t ++ [([], d)]) := hP
    have hlen : P.length = pre.length + 1 + (t.length + 1) := by rw [hP']; simp; omega
    have hfl := flP_len l pre (t ++ [([], d)])
    rw [← hP'] at hfl
    have e27 : A 31 0 27 - 1 = nI (pre.length + 1 + t.length) := by rw [a7, hlen]; exact nI_pred _
    have tp := ti pre.length (by omega)
    have tq := ti (pre.length + 1 + t.length) (by omega)
    have cp : (nI pre.length).toNatClampNeg = pre.length := nI_clamp (by omega)
    have hv : vp_in (nI pre.length) 80 := vpN (n := 80) (by omega) rfl
    have e44 : A 44 0 pre.length = nI ((flP pre).length + l.1.length) := by
      rw [a5 pre.length (by rw [cum_len]; omega), hP', cum_get]; congr 1; omega
    have e45 : A 45 0 pre.length = nI l.2 := by
      rw [a6 pre.length (by simp; omega), gdm Prod.snd P pre.length ([], 0) (by omega), hP']
      simp [List.getD_eq_getElem?_getD]
    have hho := m_holds (gr := 42) (go := 43) (fr := (flP pre).length) (to := (flP pre).length + l.1.length) (Or.inl ⟨rfl, rfl⟩) (B := B) l.1 (by omega) rfl (fun j hj => by
      rw [a2 _ (by simp; omega), a3 _ (by simp; omega), gdm Prod.fst (flP P) _ (0, 0) (by omega), gdm Prod.snd (flP P) _ (0, 0) (by omega), hP', flP_get _ _ _ _ hj]
      exact ⟨rfl, rfl⟩) hq w2
    have hrn : rnS q pre.length ((l :: t) ++ [([], d)]) = if hldS q l.1 = 0 then rnS q (pre.length + 1) (t ++ [([], d)]) else if hldS q l.1 = 2 then (2, -1) else (l.2, nI pre.length) := by
      cases t with
      | nil => rfl
      | cons m t' => rfl
    rw [hrn]
    refine R_go 9999 rfl rfl trivial ?_
    refine R_br rfl rfl (fun h => absurd h (by rw [e27]; (simp only [i_eq, i_lt, i_le, Int32.reduceToInt, true_and, and_true, false_and, and_false, or_false, false_or, or_true, true_or, ne_eq] at *; first | done | omega))) (fun _ => ?_)
    refine R_go 9999 rfl rfl hv ?_
    rw [cp, e44]
    refine R_cv rfl hho rfl rfl rfl rfl rfl (Nat.le_of_ble_eq_true rfl) rfl ?_
    rintro r h' ⟨A1, B1, rfl, rfl, hF, hJ⟩
    have hF' : FmO 31 [50, 51] [36] A A1 := FmO_w hF (by decide) (by decide)
    have f44 : A1 44 0 pre.length = nI ((flP pre).length + l.1.length) := by rw [hF.1 44 (by decide) (by decide)]; exact e44
    have f45 : ∀ x, up3 A1 31 0 36 x 45 0 pre.length = nI l.2 := fun x => by rw [up3_g (by decide), hF.1 45 (by decide) (by decide)]; exact e45
    have hh2 : hldS q l.1 ≤ 2 := by
      have : ∀ (l : List Tk) (z : Ev) (y y' : Nat × List Nat), typ z y → wfs y l = some y' → typ (evl q z l) y' := by
        intro l
        induction l with
        | nil => intro z y y' h1 h2; cases h2; exact h1
        | cons t l ih =>
          intro z y y' h1 h2
          unfold wfs at h2
          cases hw1 : wst y t with
          | none => rw [hw1] at h2; cases h2
          | some y1 => rw [hw1] at h2; exact ih _ _ _ (evs_typ h1 hw1) h2
      obtain ⟨v, hv, hv2⟩ := typ_1 (this l.1 ([], []) (0, []) (1, []) ⟨rfl, rfl, fun v hv => by simp at hv⟩ w2)
      unfold hldS
      rw [hv]
      exact hv2
    generalize hldS q l.1 = v at hh2
    rcases (show v = 0 ∨ v = 1 ∨ v = 2 by omega) with rfl | rfl | rfl
    · rw [if_pos rfl]
      refine R_go 9999 rfl rfl trivial ?_
      refine R_br rfl rfl (fun _ => ?_) (fun h => absurd rfl h)
      refine R_go 4 rfl rfl hv ?_
      rw [cp, f44, nI_1]
      have := ih d (pre ++ [l]) A1 B1 (by rw [hP']; simp) (RMG_fr hR0 hF (by decide) (by decide)) (RPm_fr hq hF (by decide)) (fun x hx => hW x (List.mem_cons_of_mem _ hx)) hd (some (.inl (nI 0)))
      rw [show (flP (pre ++ [l])).length = (flP pre).length + l.1.length by simp [flP], show (pre ++ [l]).length = pre.length + 1 by simp] at this
      exact R_mono (fun r h' z => RWo_tr hF' hJ z) this
    · rw [if_neg (by decide), if_neg (by decide)]
      refine R_go 9999 rfl rfl trivial ?_
      refine R_br rfl rfl (fun h => absurd h (by decide)) (fun _ => ?_)
      refine R_go 9999 rfl rfl trivial ?_
      refine R_br rfl rfl (fun h => absurd h (by decide)) (fun _ => ?_)
      refine R_go 9999 rfl rfl trivial ?_
      refine R_br rfl rfl (fun h => absurd h (by decide)) (fun _ => ?_)
      refine R_go 9999 rfl rfl hv ?_
      rw [cp, f45]
      refine R_ri rfl rfl ?_
      exact ⟨_, _, rfl, rfl, up3_self, FmO_tr hF' (by first | exact FmO_rf | (repeat' (first | exact FmO_rf | (with_reducible assumption) | (refine FmO_up ?_ (by decide)) | (refine FmO_ug ?_ (by decide) (by decide))))), hJ⟩
    · rw [if_neg (by decide), if_pos rfl]
      refine R_go 9999 rfl rfl trivial ?_
      refine R_br rfl rfl (fun h => absurd h (by decide)) (fun _ => ?_)
      refine R_go 9999 rfl rfl trivial ?_
      refine R_br rfl rfl (fun _ => ?_) (fun h => absurd rfl h)
      refine R_go 9999 rfl rfl trivial ?_
      refine R_br rfl rfl (fun _ => ?_) (fun h => absurd rfl h)
      refine R_go 9999 rfl rfl trivial ?_
      refine R_ri rfl rfl ?_
      exact ⟨_, _, rfl, rfl, up3_self, FmO_tr hF' (by first | exact FmO_rf | (repeat' (first | exact FmO_rf | (with_reducible assumption) | (refine FmO_up ?_ (by decide)) | (refine FmO_ug ?_ (by decide) (by decide))))), hJ⟩
theorem m_runWho {A : FI} {B : FJ} {P : List (List Tk × Nat)} {q : Nat → Nat} (hP : okP P) (hR : RMG A P) (hq : RPm A q) : MV 2 0 mtX12_runWho [.inr (.inr (some (31, 0)))] (hp A B) (RWo A B (rnS q 0 P)) := by
  obtain ⟨⟨dn, d, rfl, hd, hW⟩, hz⟩ := hP
  refine MV_of caX12_runWho (L := [some (.inr (.inr (some (31, 0)))), none, none, none]) rfl rfl ?_
  refine R_go 4 rfl rfl trivial ?_
  exact l_runWho (szk_P hz) dn d [] A B rfl hR hq hW hd none
