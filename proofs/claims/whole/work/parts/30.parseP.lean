/-- what a token makes of so many truths and of bounds of sums -/
def wst (z : Nat × List Nat) (t : Tk) : Option (Nat × List Nat) :=
  if t.1 < 8 then some (z.1, 99 :: z.2)
  else if t.1 = 8 then (if t.2 ≤ 99 then some (z.1, 99 :: z.2) else none)
  else if t.1 = 9 then (match z.2 with
    | x :: y :: r => if y * x ≤ 1000000 then some (z.1, y * x :: r) else none
    | _ => none)
  else if t.1 ≤ 11 then (match z.2 with
    | x :: y :: r => if y + x ≤ 1000000000 then some (z.1, (y + x) :: r) else none
    | _ => none)
  else if t.1 ≤ 14 then (match z.2 with
    | [_, _] => some (z.1 + 1, [])
    | _ => none)
  else if t.1 = 15 then (if z.2 = [] ∧ 1 ≤ z.1 then some (z.1, []) else none)
  else if t.1 ≤ 17 then (if z.2 = [] ∧ 2 ≤ z.1 then some (z.1 - 1, []) else none)
  else none
def wfs : Nat × List Nat → List Tk → Option (Nat × List Nat)
  | z, [] => some z
  | z, t :: l => match wst z t with
    | none => none
    | some z' => wfs z' l
theorem wfs_app : ∀ (l : List Tk) (z z' : Nat × List Nat) (t : Tk), wfs z l = some z' → wfs z (l ++ [t]) = wst z' t := by
  intro l
  induction l with
  | nil =>
    intro z z' t h
    cases h
    show (match wst z t with | none => none | some z' => some z') = wst z t
    cases wst z t <;> rfl
  | cons a l ih =>
    intro z z' t h
    unfold wfs at h
    show (match wst z a with | none => none | some z' => wfs z' (l ++ [t])) = _
    split at h
    · cases h
    · rename_i z1 hz; exact ih _ _ _ h
def nb : List Nat → Nat
  | [] => 0
  | w :: s => (if w = 16 ∨ w = 17 then 1 else 0) + nb s
def n18 : List Nat → Nat
  | [] => 0
  | w :: s => (if w = 18 then 1 else 0) + n18 s
def hi (s : List Nat) : Prop := ∀ w ∈ s, 15 ≤ w ∧ w ≤ 18
theorem hi_tl {w : Nat} {s : List Nat} (h : hi (w :: s)) : hi s := fun v hv => h v (List.mem_cons_of_mem _ hv)
theorem hi_cs {w : Nat} {s : List Nat} (h : hi s) (hw : 15 ≤ w ∧ w ≤ 18) : hi (w :: s) := fun v hv => by
  rcases List.mem_cons.mp hv with rfl | hv
  · exact hw
  · exact h v hv
theorem n18_app (a b : List Nat) : n18 (a ++ b) = n18 a + n18 b := by
  induction a with
  | nil => simp [n18]
  | cons w a ih => simp [n18, ih]; omega
/-- the ops of sums that wait, and the bounds below the one on top -/
def Ari (un : Nat) (rt : Bool) (L : Nat) (x bs : List Nat) : Prop := ∃ m a c t1 t2, x = m ++ (a ++ c) ∧ ((m = [] ∧ un = 1 ∧ bs = t1) ∨ (m = [9] ∧ ∃ P, bs = P :: t1 ∧ ((un = 2 ∧ P ≤ 99) ∨ (un = 3 ∧ P ≤ 9801)))) ∧ ((a = [] ∧ t1 = t2) ∨ ((a = [10] ∨ a = [11]) ∧ ∃ S, t1 = S :: t2 ∧ S ≤ L)) ∧ ((c = [] ∧ t2 = [] ∧ rt = false) ∨ ((c = [12] ∨ c = [13] ∨ c = [14]) ∧ rt = true ∧ ∃ S, t2 = [S] ∧ S ≤ L))
theorem Ari_mono {un : Nat} {rt : Bool} {L L' : Nat} {x bs : List Nat} (h : Ari un rt L x bs) (hl : L ≤ L') : Ari un rt L' x bs := by
  obtain ⟨m, a, c, t1, t2, h0, h1, h2, h3⟩ := h
  refine ⟨m, a, c, t1, t2, h0, h1, ?_, ?_⟩
  · rcases h2 with h2 | ⟨h2, S, h4, h5⟩
    · exact Or.inl h2
    · exact Or.inr ⟨h2, S, h4, Nat.le_trans h5 hl⟩
  · rcases h3 with h3 | ⟨h3, h6, S, h4, h5⟩
    · exact Or.inl h3
    · exact Or.inr ⟨h3, h6, S, h4, Nat.le_trans h5 hl⟩
theorem Ari_18 {un : Nat} {rt : Bool} {L : Nat} {x bs : List Nat} (h : Ari un rt L x bs) : n18 x = 0 := by
  obtain ⟨m, a, c, t1, t2, rfl, h1, h2, h3⟩ := h
  rcases h1 with ⟨rfl, -⟩ | ⟨rfl, -⟩ <;> rcases h2 with ⟨rfl, -⟩ | ⟨rfl | rfl, -⟩ <;> rcases h3 with ⟨rfl, -⟩ | ⟨rfl | rfl | rfl, -⟩ <;> rfl
theorem layD_stop {most w : Nat} {s : List Nat} {cur : List Tk} (h : most < w) : layD most (w :: s) cur = (cur, w :: s) := by
  rw [layD, if_neg (by omega)]
theorem layD_hi {most : Nat} {s : List Nat} {cur : List Tk} (h : hi s) (hm : most < 15) : layD most s cur = (cur, s) := by
  cases s with
  | nil => rfl
  | cons w s => exact layD_stop (by have := h w List.mem_cons_self; omega)
/-- behind the products -/
theorem pop9 {nt un : Nat} {rt : Bool} {L : Nat} {x r bs : List Nat} {cur : List Tk} (hw : wfs (0, []) cur = some (nt, 99 :: bs)) (hr : hi r) (hA : Ari un rt L x bs) : ∃ cur' y U b', layD 9 (x ++ r) cur = (cur', y ++ r) ∧ wfs (0, []) cur' = some (nt, U :: b') ∧ cur.length ≤ cur'.length ∧ Ari 1 rt L y b' ∧ U ≤ 1000000 ∧ (un = 1 → U = 99) ∧ (un = 2 → U ≤ 9801) := by
  obtain ⟨m, a, c, t1, t2, rfl, h1, h2, h3⟩ := hA
  have hB : ∀ cur : List Tk, layD 9 ((a ++ c) ++ r) cur = (cur, (a ++ c) ++ r) := fun cur => by
    rcases h2 with ⟨rfl, -⟩ | ⟨rfl | rfl, -⟩ <;> rcases h3 with ⟨rfl, -⟩ | ⟨rfl | rfl | rfl, -⟩ <;> first | exact layD_stop (by decide) | exact layD_hi hr (by decide)
  rcases h1 with ⟨rfl, h1, rfl⟩ | ⟨rfl, P, rfl, h1⟩
  · refine ⟨cur, a ++ c, 99, bs, by simpa using hB cur, hw, Nat.le_refl _, ⟨[], a, c, bs, t2, rfl, Or.inl ⟨rfl, rfl, rfl⟩, h2, h3⟩, by decide, fun _ => rfl, fun _ => by decide⟩
  · refine ⟨cur ++ [(9, 0)], a ++ c, P * 99, t1, ?_, ?_, by simp, ⟨[], a, c, t1, t2, rfl, Or.inl ⟨rfl, rfl, rfl⟩, h2, h3⟩, by omega, fun z => by omega, fun z => by omega⟩
    · show layD 9 (9 :: (a ++ c ++ r)) cur = _
      rw [layD, if_pos (Nat.le_refl _), hB]
    · rw [wfs_app _ _ _ _ hw]
      show (if P * 99 ≤ 1000000 then some (nt, P * 99 :: t1) else none) = _
      rw [if_pos (by omega)]
/-- behind the sums -/
theorem pop11 {nt un : Nat} {rt : Bool} {x r bs : List Nat} {cur : List Tk} (hl : cur.length ≤ 80) (hw : wfs (0, []) cur = some (nt, 99 :: bs)) (hr : hi r) (hA : Ari un rt (1000000 * cur.length) x bs) : ∃ cur' c T b', layD 11 (x ++ r) cur = (cur', c ++ r) ∧ wfs (0, []) cur' = some (nt, T :: b') ∧ cur.length ≤ cur'.length ∧ T ≤ 1000000 * cur'.length ∧ ((c = [] ∧ b' = [] ∧ rt = false) ∨ ((c = [12] ∨ c = [13] ∨ c = [14]) ∧ rt = true ∧ ∃ S, b' = [S] ∧ S ≤ 1000000 * cur'.length)) := by
  have hne : 1 ≤ cur.length := by
    cases cur with
    | nil => simp [wfs] at hw
    | cons _ _ => simp
  obtain ⟨cur1, y, U, b1, e1, w1, l1, ⟨m, a, c, t1, t2, rfl, h1, h2, h3⟩, u1, -⟩ := pop9 hw hr hA
  rcases h1 with ⟨rfl, -, rfl⟩ | ⟨-, P, -, h1⟩
  · have hx : ∀ z cur2, layD 9 (x ++ r) cur = (cur2, z) → layD 11 (x ++ r) cur = layD 11 z cur2 := by
      intro z cur2 h
      obtain ⟨m', a', c', t1', t2', rfl, h1', h2', h3'⟩ := hA
      rcases h1' with ⟨rfl, -⟩ | ⟨rfl, -⟩
      · have : layD 9 ([] ++ (a' ++ c') ++ r) cur = (cur, [] ++ (a' ++ c') ++ r) := by
          rcases h2' with ⟨rfl, -⟩ | ⟨rfl | rfl, -⟩ <;> rcases h3' with ⟨rfl, -⟩ | ⟨rfl | rfl | rfl, -⟩ <;> first | exact layD_stop (by decide) | exact layD_hi hr (by decide)
        rw [this] at h
        cases h
        rfl
      · have h9 : layD 9 (9 :: ((a' ++ c') ++ r)) cur = (cur2, z) := h
        rw [layD, if_pos (Nat.le_refl _)] at h9
        have : layD 9 ((a' ++ c') ++ r) (cur ++ [(9, 0)]) = (cur ++ [(9, 0)], (a' ++ c') ++ r) := by
          rcases h2' with ⟨rfl, -⟩ | ⟨rfl | rfl, -⟩ <;> rcases h3' with ⟨rfl, -⟩ | ⟨rfl | rfl | rfl, -⟩ <;> first | exact layD_stop (by decide) | exact layD_hi hr (by decide)
        rw [this] at h9
        cases h9
        show layD 11 (9 :: ((a' ++ c') ++ r)) cur = _
        rw [layD, if_pos (by decide)]
    have hC : ∀ cur : List Tk, layD 11 (c ++ r) cur = (cur, c ++ r) := fun cur => by
      rcases h3 with ⟨rfl, -⟩ | ⟨rfl | rfl | rfl, -⟩ <;> first | exact layD_stop (by decide) | exact layD_hi hr (by decide)
    rw [hx _ _ e1]
    have hm : 1000000 * cur.length ≤ 1000000 * cur1.length := Nat.mul_le_mul_left _ l1
    rcases h2 with ⟨rfl, rfl⟩ | ⟨h2, S, rfl, hS⟩
    · refine ⟨cur1, c, U, b1, by simpa using hC cur1, w1, l1, by omega, ?_⟩
      rcases h3 with h3 | ⟨h3, h6, S, h4, h5⟩
      · exact Or.inl h3
      · exact Or.inr ⟨h3, h6, S, h4, by omega⟩
    · refine ⟨cur1 ++ [(a.headD 0, 0)], c, S + U, t2, ?_, ?_, by simp; omega, by simp; omega, ?_⟩
      · rcases h2 with rfl | rfl
        · show layD 11 (10 :: (c ++ r)) cur1 = _
          rw [layD, if_pos (by decide), hC]; rfl
        · show layD 11 (11 :: (c ++ r)) cur1 = _
          rw [layD, if_pos (by decide), hC]; rfl
      · rw [wfs_app _ _ _ _ w1]
        rcases h2 with rfl | rfl
        all_goals
          show (if S + U ≤ 1000000000 then some (nt, (S + U) :: t2) else none) = _
          rw [if_pos (by omega)]
      · rcases h3 with h3 | ⟨h3, h6, S, h4, h5⟩
        · exact Or.inl h3
        · exact Or.inr ⟨h3, h6, S, h4, by simp; omega⟩
  · omega
/-- behind truths -/
theorem popT {most : Nat} (hm : 15 ≤ most) (hm2 : most ≤ 17) : ∀ (r : List Nat) (cur : List Tk), hi r → wfs (0, []) cur = some (nb r + 1, []) → ∃ cur' r', layD most r cur = (cur', r') ∧ hi r' ∧ wfs (0, []) cur' = some (nb r' + 1, []) ∧ cur.length ≤ cur'.length ∧ n18 r' = n18 r ∧ (r' = [] ∨ ∃ w r2, r' = w :: r2 ∧ most < w) := by
  intro r
  induction r with
  | nil => intro cur hr hw; exact ⟨cur, [], rfl, hr, hw, Nat.le_refl _, rfl, Or.inl rfl⟩
  | cons w r ih =>
    intro cur hr hw
    have hw2 := hr w List.mem_cons_self
    by_cases h : w ≤ most
    · have hn : wfs (0, []) (cur ++ [(w, 0)]) = some (nb r + 1, []) := by
        rw [wfs_app _ _ _ _ hw]
        rcases (show w = 15 ∨ w = 16 ∨ w = 17 by omega) with rfl | rfl | rfl
        · simp [wst, nb]
        · simp [wst, nb]; omega
        · simp [wst, nb]; omega
      obtain ⟨cur', r', a, b, c, d, e, f⟩ := ih (cur ++ [(w, 0)]) (hi_tl hr) hn
      refine ⟨cur', r', by rw [layD, if_pos h]; exact a, b, c, by simp at d; omega, ?_, f⟩
      rw [e, n18, if_neg (by omega)]; omega
    · exact ⟨cur, w :: r, by rw [layD, if_neg h], hr, hw, Nat.le_refl _, rfl, Or.inr ⟨w, r, rfl, by omega⟩⟩
/-- behind a whole factor -/
theorem popF {most un nt : Nat} (hm : 15 ≤ most) (hm2 : most ≤ 17) {x r bs : List Nat} {cur : List Tk} (hl : cur.length ≤ 80) (hw : wfs (0, []) cur = some (nt, 99 :: bs)) (hr : hi r) (hn : nt = nb r) (hA : Ari un true (1000000 * cur.length) x bs) : ∃ cur' r', layD most (x ++ r) cur = (cur', r') ∧ hi r' ∧ wfs (0, []) cur' = some (nb r' + 1, []) ∧ cur.length ≤ cur'.length ∧ n18 r' = n18 r ∧ (r' = [] ∨ ∃ w r2, r' = w :: r2 ∧ most < w) := by
  obtain ⟨cur1, c, T, b', e1, w1, l1, -, h3⟩ := pop11 hl hw hr hA
  rcases h3 with ⟨-, -, h3⟩ | ⟨h3, -, S, rfl, -⟩
  · cases h3
  · have hx : layD most (x ++ r) cur = layD most (c ++ r) cur1 := by
      have : ∀ (s : List Nat) (cur : List Tk), layD most s cur = layD most (layD 11 s cur).2 (layD 11 s cur).1 := by
        intro s
        induction s with
        | nil => intro cur; rfl
        | cons w s ih =>
          intro cur
          by_cases hw : w ≤ 11
          · rw [layD, if_pos (by omega), ih]
            conv => rhs; rw [layD, if_pos hw]
          · rw [layD_stop (most := 11) (by omega)]
      rw [this, e1]
    have h1 : ∃ w, c = [w] ∧ 12 ≤ w ∧ w ≤ 14 := by
      rcases h3 with rfl | rfl | rfl
      · exact ⟨12, rfl, by decide, by decide⟩
      · exact ⟨13, rfl, by decide, by decide⟩
      · exact ⟨14, rfl, by decide, by decide⟩
    obtain ⟨w, rfl, hw12, hw14⟩ := h1
    have hw2 : wfs (0, []) (cur1 ++ [(w, 0)]) = some (nb r + 1, []) := by
      rw [wfs_app _ _ _ _ w1]
      rcases (show w = 12 ∨ w = 13 ∨ w = 14 by omega) with rfl | rfl | rfl <;> simp [wst, hn]
    obtain ⟨cur', r', a, b, c, d, e, f⟩ := popT hm hm2 r (cur1 ++ [(w, 0)]) hr hw2
    refine ⟨cur', r', ?_, b, c, by simp at d; omega, e, f⟩
    rw [hx]
    show layD most (w :: r) cur1 = _
    rw [layD, if_pos (by omega)]; exact a
