/-- the number i of a text made x -/
def suL : List Tk → Nat → Nat → List Tk
  | [], _, _ => []
  | t :: l, i, x => if t.1 = 8 then (match i with
    | 0 => (t.1, x) :: l
    | i + 1 => t :: suL l i x) else t :: suL l i x
def npo : List Tk → Nat → Nat
  | [], _ => 0
  | t :: l, i => if t.1 = 8 then (match i with
    | 0 => 0
    | i + 1 => npo l i + 1) else npo l i + 1
def suP : List (List Tk × Nat) → Nat → Nat → List (List Tk × Nat)
  | [], _, _ => []
  | l :: P, i, x => if i < (nms l.1).length then (suL l.1 i x, l.2) :: P else l :: suP P (i - (nms l.1).length) x
theorem suL_0 {t : Tk} {l : List Tk} {x : Nat} (h : t.1 = 8) : suL (t :: l) 0 x = (t.1, x) :: l := by rw [suL, if_pos h]
theorem suL_1 {t : Tk} {l : List Tk} {i x : Nat} (h : t.1 = 8) : suL (t :: l) (i + 1) x = t :: suL l i x := by rw [suL, if_pos h]
theorem suL_n {t : Tk} {l : List Tk} {i x : Nat} (h : ¬ t.1 = 8) : suL (t :: l) i x = t :: suL l i x := by cases i <;> rw [suL, if_neg h]
theorem npo_0 {t : Tk} {l : List Tk} (h : t.1 = 8) : npo (t :: l) 0 = 0 := by rw [npo, if_pos h]
theorem npo_1 {t : Tk} {l : List Tk} {i : Nat} (h : t.1 = 8) : npo (t :: l) (i + 1) = npo l i + 1 := by rw [npo, if_pos h]
theorem npo_n {t : Tk} {l : List Tk} {i : Nat} (h : ¬ t.1 = 8) : npo (t :: l) i = npo l i + 1 := by cases i <;> rw [npo, if_neg h]
theorem nms_y {t : Tk} {l : List Tk} (h : t.1 = 8) : nms (t :: l) = t.2 :: nms l := by rw [nms, if_pos h]
theorem nms_x {t : Tk} {l : List Tk} (h : ¬ t.1 = 8) : nms (t :: l) = nms l := by rw [nms, if_neg h]
theorem suL_fst (x : Nat) : ∀ (l : List Tk) (i : Nat), (suL l i x).map Prod.fst = l.map Prod.fst := by
  intro l
  induction l with
  | nil => intro i; rfl
  | cons t l ih =>
    intro i
    by_cases h : t.1 = 8
    · cases i with
      | zero => rw [suL_0 h]; rfl
      | succ i => rw [suL_1 h, List.map_cons, List.map_cons, ih]
    · rw [suL_n h, List.map_cons, List.map_cons, ih]
theorem suL_len (x : Nat) (l : List Tk) (i : Nat) : (suL l i x).length = l.length := by
  have := congrArg List.length (suL_fst x l i)
  simpa using this
theorem npo_fst : ∀ (l l' : List Tk) (i : Nat), l.map Prod.fst = l'.map Prod.fst → npo l i = npo l' i := by
  intro l
  induction l with
  | nil => intro l' i h; cases l' with
    | nil => rfl
    | cons t' l' => cases h
  | cons t l ih =>
    intro l' i h
    cases l' with
    | nil => cases h
    | cons t' l' =>
      rw [List.map_cons, List.map_cons] at h
      injection h with h1 h2
      by_cases h8 : t.1 = 8
      · have h8' : t'.1 = 8 := by rw [← h1]; exact h8
        cases i with
        | zero => rw [npo_0 h8, npo_0 h8']
        | succ i => rw [npo_1 h8, npo_1 h8', ih l' i h2]
      · have h8' : ¬ t'.1 = 8 := by rw [← h1]; exact h8
        rw [npo_n h8, npo_n h8', ih l' i h2]
theorem npo_ok : ∀ (l : List Tk) (i : Nat), i < (nms l).length → npo l i < l.length ∧ (l.getD (npo l i) (0, 0)).1 = 8 ∧ (l.getD (npo l i) (0, 0)).2 = (nms l).getD i 0 := by
  intro l
  induction l with
  | nil => intro i h; exact absurd h (Nat.not_lt_zero i)
  | cons t l ih =>
    intro i h
    by_cases h8 : t.1 = 8
    · rw [nms_y h8] at h ⊢
      cases i with
      | zero => rw [npo_0 h8]; exact ⟨by simp, h8, rfl⟩
      | succ i =>
        rw [npo_1 h8]
        obtain ⟨a, b, c⟩ := ih i (by simpa using h)
        exact ⟨by simpa using a, b, c⟩
    · rw [nms_x h8] at h ⊢
      rw [npo_n h8]
      obtain ⟨a, b, c⟩ := ih i h
      exact ⟨by simpa using a, b, c⟩
theorem suL_snd (x : Nat) : ∀ (l : List Tk) (i : Nat), i < (nms l).length → (suL l i x).map Prod.snd = (l.map Prod.snd).set (npo l i) x := by
  intro l
  induction l with
  | nil => intro i h; exact absurd h (Nat.not_lt_zero i)
  | cons t l ih =>
    intro i h
    by_cases h8 : t.1 = 8
    · rw [nms_y h8] at h
      cases i with
      | zero => rw [suL_0 h8, npo_0 h8]; rfl
      | succ i => rw [suL_1 h8, npo_1 h8, List.map_cons, List.map_cons, List.set_cons_succ, ih i (by simpa using h)]
    · rw [nms_x h8] at h
      rw [suL_n h8, npo_n h8, List.map_cons, List.map_cons, List.set_cons_succ, ih i h]
theorem nms_suL (x : Nat) : ∀ (l : List Tk) (i : Nat), nms (suL l i x) = (nms l).set i x := by
  intro l
  induction l with
  | nil => intro i; rfl
  | cons t l ih =>
    intro i
    by_cases h8 : t.1 = 8
    · cases i with
      | zero => rw [suL_0 h8, nms_y h8, nms_y (t := (t.1, x)) h8]; rfl
      | succ i => rw [suL_1 h8, nms_y h8, nms_y h8, List.set_cons_succ, ih]
    · rw [suL_n h8, nms_x h8, nms_x h8, ih]
theorem suL_suL (x y : Nat) : ∀ (l : List Tk) (i : Nat), suL (suL l i y) i x = suL l i x := by
  intro l
  induction l with
  | nil => intro i; rfl
  | cons t l ih =>
    intro i
    by_cases h8 : t.1 = 8
    · cases i with
      | zero => rw [suL_0 h8, suL_0 h8, suL_0 (t := (t.1, y)) h8]
      | succ i => rw [suL_1 h8, suL_1 h8, suL_1 h8, ih]
    · rw [suL_n h8, suL_n h8, suL_n h8, ih]
theorem suL_was : ∀ (l : List Tk) (i : Nat), i < (nms l).length → suL l i ((nms l).getD i 0) = l := by
  intro l
  induction l with
  | nil => intro i h; rfl
  | cons t l ih =>
    intro i h
    by_cases h8 : t.1 = 8
    · rw [nms_y h8] at h ⊢
      cases i with
      | zero => rw [suL_0 h8]; rfl
      | succ i =>
        rw [suL_1 h8]
        have := ih i (by simpa using h)
        exact congrArg (t :: ·) this
    · rw [nms_x h8] at h ⊢
      rw [suL_n h8, ih i h]
theorem wfs_suL {x : Nat} (hx : x ≤ 99) : ∀ (l : List Tk) (i : Nat) (z z' : Nat × List Nat), wfs z l = some z' → wfs z (suL l i x) = some z' := by
  intro l
  induction l with
  | nil => intro i z z' h; exact h
  | cons t l ih =>
    intro i z z' h
    unfold wfs at h
    by_cases h8 : t.1 = 8
    · cases i with
      | zero =>
        rw [suL_0 h8]
        unfold wfs
        have e : wst z (t.1, x) = some (z.1, 99 :: z.2) := by
          unfold wst
          rw [if_neg (by rw [h8]; decide), if_pos h8, if_pos hx]
        cases hw : wst z t with
        | none => rw [hw] at h; cases h
        | some z1 =>
          rw [hw] at h
          have e2 := (wst_n hw h8).2
          rw [e]
          rw [e2] at h
          exact h
      | succ i =>
        rw [suL_1 h8]
        unfold wfs
        cases hw : wst z t with
        | none => rw [hw] at h; cases h
        | some z1 => rw [hw] at h; exact ih i z1 z' h
    · rw [suL_n h8]
      unfold wfs
      cases hw : wst z t with
      | none => rw [hw] at h; cases h
      | some z1 => rw [hw] at h; exact ih i z1 z' h
theorem enc_suL (x : Nat) : ∀ (l : List Tk) (i n : Nat), enc n (suL l i x) = enc n l := by
  intro l
  induction l with
  | nil => intro i n; rfl
  | cons t l ih =>
    intro i n
    by_cases h8 : t.1 = 8
    · cases i with
      | zero => rw [suL_0 h8]; simp [enc, h8]
      | succ i => rw [suL_1 h8]; simp [enc, h8, ih]
    · rw [suL_n h8]; simp [enc, h8, ih]
theorem suL_a1 (x : Nat) (b : List Tk) : ∀ (a : List Tk) (i : Nat), i < (nms a).length → suL (a ++ b) i x = suL a i x ++ b := by
  intro a
  induction a with
  | nil => intro i h; exact absurd h (Nat.not_lt_zero i)
  | cons t a ih =>
    intro i h
    rw [List.cons_append]
    by_cases h8 : t.1 = 8
    · rw [nms_y h8] at h
      cases i with
      | zero => rw [suL_0 h8, suL_0 h8]; rfl
      | succ i => rw [suL_1 h8, suL_1 h8, ih i (by simpa using h)]; rfl
    · rw [nms_x h8] at h
      rw [suL_n h8, suL_n h8, ih i h]; rfl
theorem suL_a2 (x : Nat) (b : List Tk) : ∀ (a : List Tk) (i : Nat), suL (a ++ b) ((nms a).length + i) x = a ++ suL b i x := by
  intro a
  induction a with
  | nil => intro i; rw [show (nms ([] : List Tk)).length + i = i by simp [nms]]; rfl
  | cons t a ih =>
    intro i
    rw [List.cons_append]
    by_cases h8 : t.1 = 8
    · rw [nms_y h8, List.length_cons, show (nms a).length + 1 + i = ((nms a).length + i) + 1 by omega, suL_1 h8, ih]; rfl
    · rw [nms_x h8, suL_n h8, ih]; rfl
theorem flP_c (l : List Tk × Nat) (P : List (List Tk × Nat)) : flP (l :: P) = l.1 ++ flP P := by simp [flP]
theorem nmL_fl (P : List (List Tk × Nat)) : nmL P = nms (flP P) := rfl
theorem suP_y {l : List Tk × Nat} {P : List (List Tk × Nat)} {i x : Nat} (h : i < (nms l.1).length) : suP (l :: P) i x = (suL l.1 i x, l.2) :: P := by rw [suP, if_pos h]
theorem suP_n {l : List Tk × Nat} {P : List (List Tk × Nat)} {i x : Nat} (h : ¬ i < (nms l.1).length) : suP (l :: P) i x = l :: suP P (i - (nms l.1).length) x := by rw [suP, if_neg h]
theorem suP_fl (x : Nat) : ∀ (P : List (List Tk × Nat)) (i : Nat), flP (suP P i x) = suL (flP P) i x := by
  intro P
  induction P with
  | nil => intro i; rfl
  | cons l P ih =>
    intro i
    by_cases h : i < (nms l.1).length
    · rw [suP_y h, flP_c, flP_c, suL_a1 _ _ _ _ h]
    · rw [suP_n h, flP_c, flP_c, ih]
      have := suL_a2 x (flP P) l.1 (i - (nms l.1).length)
      rw [show (nms l.1).length + (i - (nms l.1).length) = i by omega] at this
      exact this.symm
theorem suP_snd (x : Nat) : ∀ (P : List (List Tk × Nat)) (i : Nat), (suP P i x).map Prod.snd = P.map Prod.snd := by
  intro P
  induction P with
  | nil => intro i; rfl
  | cons l P ih =>
    intro i
    by_cases h : i < (nms l.1).length
    · rw [suP_y h]; rfl
    · rw [suP_n h, List.map_cons, List.map_cons, ih]
theorem suP_len (x : Nat) (P : List (List Tk × Nat)) (i : Nat) : (suP P i x).length = P.length := by
  have := congrArg List.length (suP_snd x P i)
  simpa using this
theorem suP_cum (x : Nat) : ∀ (P : List (List Tk × Nat)) (i n : Nat), cum n (suP P i x) = cum n P := by
  intro P
  induction P with
  | nil => intro i n; rfl
  | cons l P ih =>
    intro i n
    by_cases h : i < (nms l.1).length
    · rw [suP_y h, cum, cum, suL_len]
    · rw [suP_n h, cum, cum, ih]
theorem suL_ne {x i : Nat} {l : List Tk} : (suL l i x = []) ↔ l = [] := by
  constructor
  · intro h
    have := suL_len x l i
    rw [h] at this
    exact List.eq_nil_of_length_eq_zero this.symm
  · intro h; rw [h]; rfl
theorem suP_encL (x : Nat) : ∀ (P : List (List Tk × Nat)) (i n : Nat), encL n (suP P i x) = encL n P := by
  intro P
  induction P with
  | nil => intro i n; rfl
  | cons l P ih =>
    intro i n
    by_cases h : i < (nms l.1).length
    · rw [suP_y h, encL, encL, enc_suL, nms_suL, List.length_set]
      by_cases he : l.1 = []
      · rw [if_pos he, if_pos (suL_ne.mpr he)]
      · rw [if_neg he, if_neg (fun z => he (suL_ne.mp z))]
    · rw [suP_n h, encL, encL, ih]
theorem suP_suP (x y : Nat) : ∀ (P : List (List Tk × Nat)) (i : Nat), suP (suP P i y) i x = suP P i x := by
  intro P
  induction P with
  | nil => intro i; rfl
  | cons l P ih =>
    intro i
    by_cases h : i < (nms l.1).length
    · rw [suP_y h, suP_y h, suP_y (l := (suL l.1 i y, l.2)) (by rw [nms_suL, List.length_set]; exact h), suL_suL]
    · rw [suP_n h, suP_n h, suP_n h, ih]
theorem suP_was : ∀ (P : List (List Tk × Nat)) (i : Nat), i < (nms (flP P)).length → suP P i ((nms (flP P)).getD i 0) = P := by
  intro P
  induction P with
  | nil => intro i h; rfl
  | cons l P ih =>
    intro i h
    rw [flP_c, nms_app] at h ⊢
    by_cases h1 : i < (nms l.1).length
    · rw [suP_y h1, show (nms l.1 ++ nms (flP P)).getD i 0 = (nms l.1).getD i 0 by simp [List.getD_eq_getElem?_getD, List.getElem?_append_left h1], suL_was _ _ h1]
    · rw [suP_n h1, show (nms l.1 ++ nms (flP P)).getD i 0 = (nms (flP P)).getD (i - (nms l.1).length) 0 by simp [List.getD_eq_getElem?_getD, List.getElem?_append_right (Nat.le_of_not_lt h1)], ih _ (by rw [List.length_append] at h; omega)]
theorem suP_app (x d : Nat) (dn : List (List Tk × Nat)) : ∀ i, ∃ dn', suP (dn ++ [([], d)]) i x = dn' ++ [([], d)] ∧ ((∀ l ∈ dn, l.1 ≠ [] ∧ wfs (0, []) l.1 = some (1, []) ∧ l.2 ≤ 1) → x ≤ 99 → ∀ l ∈ dn', l.1 ≠ [] ∧ wfs (0, []) l.1 = some (1, []) ∧ l.2 ≤ 1) := by
  induction dn with
  | nil =>
    intro i
    refine ⟨[], ?_, fun _ _ l hl => by cases hl⟩
    rw [List.nil_append, suP_n (show ¬ i < (nms ([] : List Tk)).length from Nat.not_lt_zero i)]
    rfl
  | cons l dn ih =>
    intro i
    rw [List.cons_append]
    by_cases h : i < (nms l.1).length
    · refine ⟨(suL l.1 i x, l.2) :: dn, by rw [suP_y h]; rfl, fun H hx l' hl' => ?_⟩
      rcases List.mem_cons.mp hl' with rfl | hl'
      · have := H l List.mem_cons_self
        exact ⟨fun z => this.1 (suL_ne.mp z), wfs_suL hx _ _ _ _ this.2.1, this.2.2⟩
      · exact H l' (List.mem_cons_of_mem _ hl')
    · obtain ⟨dn', e, hd⟩ := ih (i - (nms l.1).length)
      refine ⟨l :: dn', by rw [suP_n h, e]; rfl, fun H hx l' hl' => ?_⟩
      rcases List.mem_cons.mp hl' with rfl | hl'
      · exact H l' List.mem_cons_self
      · exact hd (fun m hm => H m (List.mem_cons_of_mem _ hm)) hx l' hl'
theorem okP_su {P : List (List Tk × Nat)} {i x : Nat} (h : okP P) (hx : x ≤ 99) : okP (suP P i x) := by
  obtain ⟨⟨dn, d, rfl, hd, hW⟩, hz⟩ := h
  obtain ⟨dn', e, hd'⟩ := suP_app x d dn i
  refine ⟨⟨dn', d, e, hd, fun l hl => hd' hW hx l hl⟩, ?_⟩
  have e1 : szk (suP (dn ++ [([], d)]) i x, [], []) = szk (dn ++ [([], d)], [], []) := by
    unfold szk szO ln1 flat
    dsimp only
    rw [suP_len, List.append_nil, List.append_nil]
    have := suP_fl x (dn ++ [([], d)]) i
    unfold flP at this
    rw [this, suL_len]
  rw [e1]; exact hz
theorem al_st {f : Nat → Int32} {l : List Nat} {k x : Nat} (h : al f l) (hk : k < l.length) : al (fun z => if z = k then nI x else f z) (l.set k x) := by
  intro j hj
  rw [List.length_set] at hj
  dsimp only
  by_cases e : j = k
  · subst e
    rw [if_pos rfl]
    simp [List.getD_eq_getElem?_getD, hj]
  · rw [if_neg e, h j hj]
    simp [List.getD_eq_getElem?_getD, List.getElem?_set_ne (Ne.symm e)]
theorem RS_su {A : FI} {P : List (List Tk × Nat)} {i x : Nat} (h : RS 6 A P []) (hi : i < (nms (flP P)).length) : RS 6 (up3 A 6 6 i (nI x)) (suP P i x) [] := by
  obtain ⟨a1, a2, a3, a4, a5⟩ := h
  have e1 : cdO (suP P i x, [], []) = cdO (P, [], []) := by
    unfold cdO
    dsimp only
    rw [suP_encL, nmL_fl, nmL_fl, suP_fl, nms_suL, List.length_set]
  have e2 : nmO (suP P i x, [], []) = (nmO (P, [], [])).set i x := by
    unfold nmO
    dsimp only
    rw [nmL_fl, nmL_fl, suP_fl, nms_suL, show nms [] = [] from rfl, List.append_nil, List.append_nil]
  refine ⟨?_, ?_, ?_, ?_, ?_⟩
  · rw [e1, up3_g (by decide)]; exact a1
  · rw [e1, up3_g (by decide)]; exact a2
  · rw [e2, up3_at]
    refine al_st a3 ?_
    unfold nmO
    dsimp only
    rw [show nms [] = [] from rfl, List.append_nil]; exact hi
  · rw [e2, List.length_set, up3_g (by decide)]; exact a4
  · rw [up3_g (by decide), suP_len]; exact a5
theorem RMG_su {A : FI} {P : List (List Tk × Nat)} {i x : Nat} (h : RMG A P) (hi : i < (nms (flP P)).length) : RMG (up3 A 43 0 (npo (flP P) i) (nI x)) (suP P i x) := by
  obtain ⟨a1, a2, a3, a4, a5, a6, a7⟩ := h
  have hn := (npo_ok _ _ hi).1
  refine ⟨?_, ?_, ?_, ?_, ?_, ?_, ?_⟩
  · rw [up3_g (by decide), a1]
    cases P with
    | nil => rfl
    | cons l P =>
      by_cases h1 : i < (nms l.1).length
      · rw [suP_y h1]; rfl
      · rw [suP_n h1]; rfl
  · rw [up3_g (by decide), suP_fl, suL_fst]; exact a2
  · rw [suP_fl, suL_snd _ _ _ hi, up3_at]
    exact al_st a3 (by rw [List.length_map]; exact hn)
  · rw [up3_g (by decide), suP_fl, suL_len]; exact a4
  · rw [up3_g (by decide), suP_cum]; exact a5
  · rw [up3_g (by decide), suP_snd]; exact a6
  · rw [up3_g (by decide), suP_len]; exact a7
theorem RMG_su2 {A : FI} {P : List (List Tk × Nat)} {i x y : Nat} (h : RMG A (suP P i y)) (hi : i < (nms (flP P)).length) : RMG (up3 A 43 0 (npo (flP P) i) (nI x)) (suP P i x) := by
  have h1 := RMG_su (x := x) h (i := i) (by rw [suP_fl, nms_suL, List.length_set]; exact hi)
  rw [suP_suP, suP_fl, npo_fst _ (flP P) i (suL_fst y _ _)] at h1
  exact h1
