def ltr (w : Nat) : Nat := if w = 9 then 42 else if w = 10 then 43 else if w = 11 then 45 else if w = 12 then 60 else if w = 13 then 61 else if w = 14 then 62 else if w = 15 then 33 else if w = 16 then 38 else if w = 17 then 124 else 40
def rk (w : Nat) : Nat := if w = 9 then 6 else if w ≤ 11 then 5 else if w ≤ 14 then 4 else if w = 15 then 3 else if w = 16 then 2 else if w = 17 then 1 else 0
def cd1 (m : Nat) : Nat := if m < 8 then m else ltr m
/-- the class's codes of tokens, numbers counted from n on -/
def enc : Nat → List Tk → List Nat
  | _, [] => []
  | n, t :: l => if t.1 = 8 then (128 + n) :: enc (n + 1) l else cd1 t.1 :: enc n l
def nms : List Tk → List Nat
  | [] => []
  | t :: l => if t.1 = 8 then t.2 :: nms l else nms l
def encL : Nat → List (List Tk × Nat) → List Nat
  | _, [] => []
  | n, l :: t => enc n l.1 ++ (((if l.1 = [] then 18 else 16) + l.2) :: encL (n + (nms l.1).length) t)
theorem nms_app (a b : List Tk) : nms (a ++ b) = nms a ++ nms b := by
  induction a with
  | nil => rfl
  | cons t a ih =>
    by_cases h : t.1 = 8
    · simp [nms, h, ih]
    · simp [nms, h, ih]
theorem nms_le (a : List Tk) : (nms a).length ≤ a.length := by
  induction a with
  | nil => exact Nat.le_refl _
  | cons t a ih =>
    unfold nms
    split <;> (simp only [List.length_cons]; omega)
theorem enc_len : ∀ (a : List Tk) (n : Nat), (enc n a).length = a.length := by
  intro a
  induction a with
  | nil => intro n; rfl
  | cons t a ih =>
    intro n
    unfold enc
    split <;> simp [ih]
theorem enc_app : ∀ (a b : List Tk) (n : Nat), enc n (a ++ b) = enc n a ++ enc (n + (nms a).length) b := by
  intro a b
  induction a with
  | nil => intro n; rfl
  | cons t a ih =>
    intro n
    by_cases h : t.1 = 8
    · simp only [List.cons_append, enc, if_pos h, nms, ih, List.length_cons]
      rw [show n + 1 + (nms a).length = n + ((nms a).length + 1) by omega]
    · simp only [List.cons_append, enc, if_neg h, nms, ih]
def nmL (dn : List (List Tk × Nat)) : List Nat := nms (dn.map Prod.fst).flatten
theorem nmL_s (l : List Tk × Nat) (dn : List (List Tk × Nat)) : nmL (l :: dn) = nms l.1 ++ nmL dn := by simp [nmL, nms_app]
theorem encL_app (x : List Tk × Nat) : ∀ (dn : List (List Tk × Nat)) (n : Nat), encL n (dn ++ [x]) = encL n dn ++ (enc (n + (nmL dn).length) x.1 ++ [(if x.1 = [] then 18 else 16) + x.2]) := by
  intro dn
  induction dn with
  | nil => intro n; simp [encL, nmL, nms]
  | cons l t ih =>
    intro n
    simp only [List.cons_append, encL, ih, nmL_s, List.length_append, List.append_assoc]
    rw [show n + (nms l.1).length + (nmL t).length = n + ((nms l.1).length + (nmL t).length) by omega]
def cdO (o : Os) : List Nat := encL 0 o.1 ++ enc (nmL o.1).length o.2.1
def nmO (o : Os) : List Nat := nmL o.1 ++ nms o.2.1
theorem nmO_flat (o : Os) : nmO o = nms (flat o) := by simp [nmO, nmL, flat, nms_app]
theorem encL_len : ∀ (dn : List (List Tk × Nat)) (n : Nat), (encL n dn).length = (dn.map Prod.fst).flatten.length + dn.length := by
  intro dn
  induction dn with
  | nil => intro n; rfl
  | cons l t ih =>
    intro n
    simp only [encL, List.length_append, List.length_cons, ih, enc_len, List.map_cons, List.flatten_cons]
    omega
theorem cdO_len (o : Os) : (cdO o).length = (flat o).length + o.1.length := by
  simp only [cdO, List.length_append, encL_len, enc_len, flat]
  omega
theorem nmO_le (o : Os) : (nmO o).length ≤ (flat o).length := by rw [nmO_flat]; exact nms_le _
/-- what one more token makes of the codes -/
theorem cdO_op (dn : List (List Tk × Nat)) (cur : List Tk) (s s' : List Nat) (m v : Nat) (h : m ≠ 8) : cdO (dn, cur ++ [(m, v)], s) = cdO (dn, cur, s') ++ [cd1 m] ∧ nmO (dn, cur ++ [(m, v)], s) = nmO (dn, cur, s') := by
  constructor
  · simp only [cdO, enc_app, List.append_assoc]
    simp [enc, h]
  · simp [nmO, nms_app, nms, h]
theorem cdO_nm (dn : List (List Tk × Nat)) (cur : List Tk) (s s' : List Nat) (v : Nat) : cdO (dn, cur ++ [(8, v)], s) = cdO (dn, cur, s') ++ [128 + (nmO (dn, cur, s')).length] ∧ nmO (dn, cur ++ [(8, v)], s) = nmO (dn, cur, s') ++ [v] := by
  constructor
  · simp only [cdO, enc_app, List.append_assoc]
    simp [enc, nmO]
  · simp [nmO, nms_app, nms]
theorem cdO_end (dn : List (List Tk × Nat)) (cur : List Tk) (s : List Nat) (d : Nat) : cdO (dn ++ [(cur, d)], [], s) = cdO (dn, cur, s) ++ [(if cur = [] then 18 else 16) + d] ∧ nmO (dn ++ [(cur, d)], [], s) = nmO (dn, cur, s) := by
  constructor
  · simp [cdO, encL_app, enc]
  · simp [nmO, nmL, nms_app, nms]
/-- nothing but the i-th of these groups changed -/
def Fi (gs : List Nat) (i : Nat) (A A' : FI) : Prop := (∀ g, g ∉ gs → A' g = A g) ∧ ∀ g j, j ≠ i → A' g j = A g j
theorem Fi_rf {gs : List Nat} {i : Nat} {A : FI} : Fi gs i A A := ⟨fun _ _ => rfl, fun _ _ _ => rfl⟩
theorem Fi_tr {gs : List Nat} {i : Nat} {A A1 A2 : FI} (a : Fi gs i A A1) (b : Fi gs i A1 A2) : Fi gs i A A2 := ⟨fun g h => (b.1 g h).trans (a.1 g h), fun g j h => (b.2 g j h).trans (a.2 g j h)⟩
theorem up3_i {α : Type} {A : Nat → Nat → Nat → α} {g i s g' i' : Nat} {x : α} (h : i' ≠ i) : up3 A g i s x g' i' = A g' i' := by
  unfold up3
  split
  · rename_i e; subst e; exact if_neg h
  · rfl
theorem Fi_up {gs : List Nat} {i : Nat} {A A1 : FI} {g s : Nat} {x : Int32} (a : Fi gs i A A1) (h : g ∈ gs) : Fi gs i A (up3 A1 g i s x) := Fi_tr a ⟨fun g' hg => up3_g (fun e => hg (e ▸ h)), fun g' j hj => up3_i hj⟩
/-- a Script while it's written -/
def RSO (i : Nat) (A : FI) (o : Os) : Prop := al (A 5 i) (cdO o) ∧ A 4 i 3 = nI (cdO o).length ∧ al (A 6 i) (nmO o) ∧ A 4 i 4 = nI (nmO o).length ∧ A 4 i 5 = nI o.1.length ∧ A 4 i 6 = nI (encL 0 o.1).length ∧ al (A 7 i) (o.2.2.reverse.map ltr) ∧ A 4 i 7 = nI o.2.2.length ∧ ∀ w ∈ o.2.2, 9 ≤ w ∧ w ≤ 18
theorem m_rk (w : Nat) (h : 9 ≤ w ∧ w ≤ 18) (A : FI) (B : FJ) : MS 0 1 mtX7_rank [.inl (nI (ltr w))] (hp A B) (Ret (some (.inl (nI (rk w)))) (hp A B)) := by
  refine MS_of caX7_rank (L := [some (.inl (nI (ltr w)))]) rfl rfl ?_
  refine R_go 9999 rfl rfl trivial ?_
  rcases (show w = 9 ∨ w = 10 ∨ w = 11 ∨ w = 12 ∨ w = 13 ∨ w = 14 ∨ w = 15 ∨ w = 16 ∨ w = 17 ∨ w = 18 by omega) with rfl | rfl | rfl | rfl | rfl | rfl | rfl | rfl | rfl | rfl
  all_goals
    refine R_lk _ rfl rfl (by decide) rfl ?_
    repeat' (first
        | (refine R_br rfl rfl (fun hbr => absurd hbr (by first | decide | (with_reducible assumption))) (fun _ => ?_))
        | (refine R_br rfl rfl (fun _ => ?_) (fun hbr => absurd (by first | decide | (with_reducible assumption)) hbr))
        | (refine R_br rfl rfl (fun _ => ?_) (fun _ => ?_))
        | (refine R_ri rfl rfl ?_)
        | (refine R_rz rfl rfl (Or.inl rfl) ?_)
        | (refine R_rz rfl rfl (Or.inr rfl) ?_)
        | (refine R_rz rfl rfl (b2_01 _) ?_)
        | (refine R_rl rfl rfl ?_)
        | (refine R_rv rfl rfl ?_)
        | (refine R_sw _ rfl rfl rfl ?_)
        | (refine R_go 9999 rfl rfl trivial ?_)
        | (refine R_go 9999 rfl rfl (by first | (show _ ∨ _; decide) | (show (_ ∨ _) ∧ (_ ∨ _); decide) | (show (_ ∨ _) ∧ (_ ∨ _) ∧ (_ ∨ _); decide)) ?_)
        | (refine R_go 9999 rfl rfl ?_ ?_))
  all_goals exact ret_i rfl rfl
theorem m_addC {i n : Nat} {A : FI} {B : FJ} (hn : n < 80) (x : Int32) (h : A 4 i 3 = nI n) : MV 0 1 mtX7_add [.inr (.inr (some (4, i))), .inl x] (hp A B) (Ret none (hp (up3 (up3 A 5 i n x) 4 i 3 (nI (n + 1))) B)) := by
  have tn := ti n (by omega)
  have cl : (nI n).toNatClampNeg = n := nI_clamp (by omega)
  have h2 : up3 A 5 i n x 4 i 3 = nI n := by rw [up3_g (by decide)]; exact h
  refine MV_of caX7_add (L := [some (.inr (.inr (some (4, i)))), some (.inl x)]) rfl rfl ?_
  repeat' (first
      | (refine R_br rfl rfl (fun hbr => absurd hbr (by first | decide | (with_reducible assumption) | (simp only [i_eq, i_lt, i_le, Int32.reduceToInt, ne_eq, up3_self, nI_1, h]; first | done | omega))) (fun _ => ?_))
      | (refine R_br rfl rfl (fun _ => ?_) (fun hbr => absurd (by first | decide | (with_reducible assumption) | (simp only [i_eq, i_lt, i_le, Int32.reduceToInt, ne_eq, up3_self, nI_1, h]; first | done | omega)) hbr))
      | (refine R_br rfl rfl (fun _ => ?_) (fun _ => ?_))
      | (refine R_ri rfl rfl ?_)
      | (refine R_rz rfl rfl (Or.inl rfl) ?_)
      | (refine R_rz rfl rfl (Or.inr rfl) ?_)
      | (refine R_rz rfl rfl (b2_01 _) ?_)
      | (refine R_rl rfl rfl ?_)
      | (refine R_rv rfl rfl ?_)
      | (refine R_sw _ rfl rfl rfl ?_)
      | (refine R_go 9999 rfl rfl trivial ?_)
      | (refine R_go 9999 rfl rfl (by first | (show _ ∨ _; decide) | (show (_ ∨ _) ∧ (_ ∨ _); decide) | (show (_ ∨ _) ∧ (_ ∨ _) ∧ (_ ∨ _); decide)) ?_)
      | (refine R_go 9999 rfl rfl ?_ ?_))
  · rw [h]; exact vpN (n := 80) hn rfl
  · rw [h, cl, h2, nI_1]; exact ret_v rfl
theorem m_holdC {i n : Nat} {A : FI} {B : FJ} (hn : n < 80) (x : Int32) (h : A 4 i 7 = nI n) : MV 0 1 mtX7_hold [.inr (.inr (some (4, i))), .inl x] (hp A B) (Ret none (hp (up3 (up3 A 7 i n x) 4 i 7 (nI (n + 1))) B)) := by
  have tn := ti n (by omega)
  have cl : (nI n).toNatClampNeg = n := nI_clamp (by omega)
  have h2 : up3 A 7 i n x 4 i 7 = nI n := by rw [up3_g (by decide)]; exact h
  refine MV_of caX7_hold (L := [some (.inr (.inr (some (4, i)))), some (.inl x)]) rfl rfl ?_
  repeat' (first
      | (refine R_br rfl rfl (fun hbr => absurd hbr (by first | decide | (with_reducible assumption) | (simp only [i_eq, i_lt, i_le, Int32.reduceToInt, ne_eq, up3_self, nI_1, h]; first | done | omega))) (fun _ => ?_))
      | (refine R_br rfl rfl (fun _ => ?_) (fun hbr => absurd (by first | decide | (with_reducible assumption) | (simp only [i_eq, i_lt, i_le, Int32.reduceToInt, ne_eq, up3_self, nI_1, h]; first | done | omega)) hbr))
      | (refine R_br rfl rfl (fun _ => ?_) (fun _ => ?_))
      | (refine R_ri rfl rfl ?_)
      | (refine R_rz rfl rfl (Or.inl rfl) ?_)
      | (refine R_rz rfl rfl (Or.inr rfl) ?_)
      | (refine R_rz rfl rfl (b2_01 _) ?_)
      | (refine R_rl rfl rfl ?_)
      | (refine R_rv rfl rfl ?_)
      | (refine R_sw _ rfl rfl rfl ?_)
      | (refine R_go 9999 rfl rfl trivial ?_)
      | (refine R_go 9999 rfl rfl (by first | (show _ ∨ _; decide) | (show (_ ∨ _) ∧ (_ ∨ _); decide) | (show (_ ∨ _) ∧ (_ ∨ _) ∧ (_ ∨ _); decide)) ?_)
      | (refine R_go 9999 rfl rfl ?_ ?_))
  · rw [h]; exact vpN (n := 80) hn rfl
  · rw [h, cl, h2, nI_1]; exact ret_v rfl
theorem RSO_add {i : Nat} {A : FI} {dn : List (List Tk × Nat)} {cur : List Tk} {s : List Nat} (h : RSO i A (dn, cur, s)) {m : Nat} (hm : m ≠ 8) : RSO i (up3 (up3 A 5 i (cdO (dn, cur, s)).length (nI (cd1 m))) 4 i 3 (nI ((cdO (dn, cur, s)).length + 1))) (dn, cur ++ [(m, 0)], s) := by
  obtain ⟨a1, a2, a3, a4, a5, a6, a7, a8, a9⟩ := h
  obtain ⟨c1, c2⟩ := cdO_op dn cur s s m 0 hm
  refine ⟨?_, ?_, ?_, ?_, ?_, ?_, ?_, ?_, a9⟩
  · rw [c1, up3_g (by decide)]; exact al_up a1
  · rw [c1, up3_self]; simp
  · rw [c2, up3_g (by decide), up3_g (by decide)]; exact a3
  · rw [c2, up3_s (by decide), up3_g (by decide)]; exact a4
  · rw [up3_s (by decide), up3_g (by decide)]; exact a5
  · rw [up3_s (by decide), up3_g (by decide)]; exact a6
  · rw [up3_g (by decide), up3_g (by decide)]; exact a7
  · rw [up3_s (by decide), up3_g (by decide)]; exact a8
theorem RSO_push {i : Nat} {A : FI} {dn : List (List Tk × Nat)} {cur : List Tk} {s : List Nat} (h : RSO i A (dn, cur, s)) {w : Nat} (hw : 9 ≤ w ∧ w ≤ 18) : RSO i (up3 (up3 A 7 i s.length (nI (ltr w))) 4 i 7 (nI (s.length + 1))) (dn, cur, w :: s) := by
  obtain ⟨a1, a2, a3, a4, a5, a6, a7, a8, a9⟩ := h
  refine ⟨?_, ?_, ?_, ?_, ?_, ?_, ?_, ?_, fun v hv => ?_⟩
  · rw [up3_g (by decide), up3_g (by decide)]; exact a1
  · rw [up3_s (by decide), up3_g (by decide)]; exact a2
  · rw [up3_g (by decide), up3_g (by decide)]; exact a3
  · rw [up3_s (by decide), up3_g (by decide)]; exact a4
  · rw [up3_s (by decide), up3_g (by decide)]; exact a5
  · rw [up3_s (by decide), up3_g (by decide)]; exact a6
  · rw [up3_g (by decide), List.reverse_cons, List.map_append]
    exact al_upn a7 (by simp)
  · rw [up3_self]; rfl
  · rcases List.mem_cons.mp hv with rfl | hv
    · exact hw
    · exact a9 v hv
theorem RSO_pop {i : Nat} {A : FI} {dn : List (List Tk × Nat)} {cur : List Tk} {w : Nat} {s : List Nat} (h : RSO i A (dn, cur, w :: s)) : RSO i (up3 A 4 i 7 (nI s.length)) (dn, cur, s) := by
  obtain ⟨a1, a2, a3, a4, a5, a6, a7, a8, a9⟩ := h
  refine ⟨?_, ?_, ?_, ?_, ?_, ?_, ?_, up3_self, fun v hv => a9 v (List.mem_cons_of_mem _ hv)⟩
  · rw [up3_g (by decide)]; exact a1
  · rw [up3_s (by decide)]; exact a2
  · rw [up3_g (by decide)]; exact a3
  · rw [up3_s (by decide)]; exact a4
  · rw [up3_s (by decide)]; exact a5
  · rw [up3_s (by decide)]; exact a6
  · rw [up3_g (by decide)]
    have : al (A 7 i) (s.reverse.map ltr ++ [ltr w]) := by simpa using a7
    exact al_init this
abbrev gS : List Nat := [4, 5, 6, 7]
theorem szK_le (o : Os) : (cdO o).length + o.2.2.length = szO o + o.1.length := by rw [cdO_len]; simp only [szO]; omega
theorem l_release (i least most : Nat) (hl7 : least ≤ 7) (hlm : ∀ w, 9 ≤ w → w ≤ 18 → (least ≤ rk w ↔ w ≤ most)) (B : FJ) (dn : List (List Tk × Nat)) : ∀ (s : List Nat) (cur : List Tk) (A : FI), RSO i A (dn, cur, s) → szO (dn, cur, s) + dn.length ≤ 80 → Rn 1 mtX7_release 0 [some (.inr (.inr (some (4, i)))), some (.inl (nI least))] [] (hp A B) (fun r h' => ∃ A', r = none ∧ h' = hp A' B ∧ RSO i A' (dn, layD most s cur) ∧ Fi gS i A A') := by
  intro s
  induction s with
  | nil =>
    intro cur A h hz
    have e : A 4 i 7 = 0 := h.2.2.2.2.2.2.2.1
    repeat' (first
        | (refine R_br rfl rfl (fun hbr => absurd hbr (by first | decide | (with_reducible assumption) | (simp only [i_eq, i_lt, i_le, Int32.reduceToInt, ne_eq, up3_self, nI_1, e]; first | done | omega))) (fun _ => ?_))
        | (refine R_br rfl rfl (fun _ => ?_) (fun hbr => absurd (by first | decide | (with_reducible assumption) | (simp only [i_eq, i_lt, i_le, Int32.reduceToInt, ne_eq, up3_self, nI_1, e]; first | done | omega)) hbr))
        | (refine R_br rfl rfl (fun _ => ?_) (fun _ => ?_))
        | (refine R_ri rfl rfl ?_)
        | (refine R_rz rfl rfl (Or.inl rfl) ?_)
        | (refine R_rz rfl rfl (Or.inr rfl) ?_)
        | (refine R_rz rfl rfl (b2_01 _) ?_)
        | (refine R_rl rfl rfl ?_)
        | (refine R_rv rfl rfl ?_)
        | (refine R_sw _ rfl rfl rfl ?_)
        | (refine R_go 9999 rfl rfl trivial ?_)
        | (refine R_go 9999 rfl rfl (by first | (show _ ∨ _; decide) | (show (_ ∨ _) ∧ (_ ∨ _); decide) | (show (_ ∨ _) ∧ (_ ∨ _) ∧ (_ ∨ _); decide)) ?_)
        | (refine R_go 9999 rfl rfl ?_ ?_))
    exact ⟨A, rfl, rfl, h, Fi_rf⟩
  | cons w s ih =>
    intro cur A h hz
    have hk := szK_le (dn, cur, w :: s)
    dsimp only at hk
    simp only [List.length_cons] at hk
    have e : A 4 i 7 = nI (s.length + 1) := h.2.2.2.2.2.2.2.1
    have hw := h.2.2.2.2.2.2.2.2 w List.mem_cons_self
    have tm := ti least (by omega)
    have hrk : rk w ≤ 6 := by
      unfold rk
      repeat' split
      all_goals omega
    have tw := ti (rk w) (by omega)
    have ts := ti (s.length + 1) (by omega)
    have cl : (nI s.length).toNatClampNeg = s.length := nI_clamp (by omega)
    have e2 : A 4 i 7 - 1 = nI s.length := by rw [e, nI_pred]
    have ew : A 7 i s.length = nI (ltr w) := by
      have h8 := h.2.2.2.2.2.2.1
      have : al (A 7 i) (s.reverse.map ltr ++ [ltr w]) := by simpa using h8
      have := al_last this
      simpa using this
    have hv2 : vp_in (nI s.length) 80 := vpN (n := 80) (by omega) rfl
    unfold layD
    refine R_go 9999 rfl rfl trivial ?_
    refine R_br rfl rfl (fun h => absurd h (by rw [e]; (simp only [i_eq, i_lt, i_le, Int32.reduceToInt, true_and, and_true, false_and, and_false, or_false, false_or, or_true, true_or, ne_eq] at *; first | done | omega))) (fun _ => ?_)
    refine R_go 9999 rfl rfl trivial ?_
    refine R_br rfl rfl (fun h => absurd h (by rw [e]; (simp only [i_eq, i_lt, i_le, Int32.reduceToInt, true_and, and_true, false_and, and_false, or_false, false_or, or_true, true_or, ne_eq] at *; first | done | omega))) (fun _ => ?_)
    refine R_go 9999 rfl rfl (by rw [e2]; exact hv2) ?_
    rw [e2, cl, ew]
    refine R_csr rfl (m_rk w hw _ _) rfl rfl rfl (Nat.le_of_ble_eq_true rfl) rfl ?_
    refine R_go 9999 rfl rfl trivial ?_
    by_cases hwm : w ≤ most
    · rw [if_pos hwm]
      have := (hlm w hw.1 hw.2).mpr hwm
      refine R_br rfl rfl (fun h => absurd h (by (simp only [i_eq, i_lt, i_le, Int32.reduceToInt, true_and, and_true, false_and, and_false, or_false, false_or, or_true, true_or, ne_eq] at *; first | done | omega))) (fun _ => ?_)
      have hp1 := RSO_pop h
      refine R_go 9999 rfl rfl ?_ ?_
      · rw [e2, up3_self]; exact hv2
      rw [e2, up3_self, cl, show up3 A 4 i 7 (nI s.length) 7 i s.length = nI (ltr w) by rw [up3_g (by decide)]; exact ew]
      have hcl : (cdO (dn, cur, s)).length = (cdO (dn, cur, w :: s)).length := rfl
      have hcw : cd1 w = ltr w := by unfold cd1; rw [if_neg (by omega)]
      have hra := RSO_add hp1 (m := w) (by omega)
      rw [hcw] at hra
      refine R_cvv rfl (m_addC (n := (cdO (dn, cur, s)).length) (by omega) (nI (ltr w)) hp1.2.1) rfl rfl rfl rfl rfl (Nat.le_of_ble_eq_true rfl) rfl ?_
      refine R_go 0 rfl rfl trivial ?_
      refine R_mono ?_ (ih (cur ++ [(w, 0)]) _ hra ?_)
      · rintro r h' ⟨A', a1, a2, a3, a4⟩
        exact ⟨A', a1, a2, a3, Fi_tr (Fi_up (Fi_up (Fi_up Fi_rf (by decide)) (by decide)) (by decide)) a4⟩
      · simp only [szO, flat_s dn cur (w, 0) s (w :: s), List.length_append, List.length_cons, List.length_nil] at hz ⊢
        omega
    · rw [if_neg hwm]
      have : ¬ least ≤ rk w := fun z => hwm ((hlm w hw.1 hw.2).mp z)
      refine R_br rfl rfl (fun _ => ?_) (fun h => absurd (by (simp only [i_eq, i_lt, i_le, Int32.reduceToInt, true_and, and_true, false_and, and_false, or_false, false_or, or_true, true_or, ne_eq] at *; first | done | omega)) h)
      repeat' (first
          | (refine R_br rfl rfl (fun hbr => absurd hbr (by first | decide | (with_reducible assumption))) (fun _ => ?_))
          | (refine R_br rfl rfl (fun _ => ?_) (fun hbr => absurd (by first | decide | (with_reducible assumption)) hbr))
          | (refine R_br rfl rfl (fun _ => ?_) (fun _ => ?_))
          | (refine R_ri rfl rfl ?_)
          | (refine R_rz rfl rfl (Or.inl rfl) ?_)
          | (refine R_rz rfl rfl (Or.inr rfl) ?_)
          | (refine R_rz rfl rfl (b2_01 _) ?_)
          | (refine R_rl rfl rfl ?_)
          | (refine R_rv rfl rfl ?_)
          | (refine R_sw _ rfl rfl rfl ?_)
          | (refine R_go 9999 rfl rfl trivial ?_)
          | (refine R_go 9999 rfl rfl (by first | (show _ ∨ _; decide) | (show (_ ∨ _) ∧ (_ ∨ _); decide) | (show (_ ∨ _) ∧ (_ ∨ _) ∧ (_ ∨ _); decide)) ?_)
          | (refine R_go 9999 rfl rfl ?_ ?_))
      exact ⟨A, rfl, rfl, h, Fi_rf⟩
theorem m_release {i : Nat} {A : FI} {B : FJ} (least most : Nat) (hl7 : least ≤ 7) (hlm : ∀ w, 9 ≤ w → w ≤ 18 → (least ≤ rk w ↔ w ≤ most)) (o : Os) (h : RSO i A o) (hz : szO o + o.1.length ≤ 80) : MV 1 1 mtX7_release [.inr (.inr (some (4, i))), .inl (nI least)] (hp A B) (fun r h' => ∃ A', r = none ∧ h' = hp A' B ∧ RSO i A' (ldn most o) ∧ Fi gS i A A') := by
  refine MV_of caX7_release (L := [some (.inr (.inr (some (4, i)))), some (.inl (nI least))]) rfl rfl ?_
  exact l_release i least most hl7 hlm B o.1 o.2.2 o.2.1 A h hz
