/-- sums on a box (the least and the most of each; the last first), truths (2: either) -/
abbrev Bx : Type := List (Int × Int) × List Nat
def jI (x : Int) : Int64 := Int64.ofInt x
def bnd (x : Int) : Prop := -4000000000000000000 ≤ x ∧ x ≤ 4000000000000000000
def bar (m : Nat) (a b : Int × Int) : Int × Int := if m = 9 then (min (min (a.1 * b.1) (a.1 * b.2)) (min (a.2 * b.1) (a.2 * b.2)), max (max (a.1 * b.1) (a.1 * b.2)) (max (a.2 * b.1) (a.2 * b.2))) else if m = 10 then (a.1 + b.1, a.2 + b.2) else (a.1 - b.2, a.2 - b.1)
def spn (m : Nat) (a b : Int × Int) : Nat := if m = 12 then (if a.2 < b.1 then 1 else if b.2 ≤ a.1 then 0 else 2) else if m = 14 then (if b.2 < a.1 then 1 else if a.2 ≤ b.1 then 0 else 2) else (if a.2 < b.1 ∨ b.2 < a.1 then 0 else if a.1 = a.2 ∧ b.1 = b.2 then 1 else 2)
def bth (m a b : Nat) : Nat := if m = 16 then (if a = 0 ∨ b = 0 then 0 else if a = 2 ∨ b = 2 then 2 else 1) else (if a = 1 ∨ b = 1 then 1 else if a = 2 ∨ b = 2 then 2 else 0)
def bst (bx : Nat → Int × Int) (z : Bx) (t : Tk) : Bx :=
  if t.1 < 8 then (bx t.1 :: z.1, z.2)
  else if t.1 = 8 then (((t.2 : Int), (t.2 : Int)) :: z.1, z.2)
  else if t.1 < 12 then (match z.1 with
    | b :: a :: r => (bar t.1 a b :: r, z.2)
    | _ => z)
  else if t.1 < 15 then (match z.1 with
    | b :: a :: r => (r, spn t.1 a b :: z.2)
    | _ => z)
  else if t.1 = 15 then (match z.2 with
    | a :: r => (z.1, (if a = 2 then 2 else 1 - a) :: r)
    | _ => z)
  else (match z.2 with
    | b :: a :: r => (z.1, bth t.1 a b :: r)
    | _ => z)
def bsl (bx : Nat → Int × Int) : Bx → List Tk → Bx
  | z, [] => z
  | z, t :: l => bsl bx (bst bx z t) l
def vld : List (Int × Int) → List Nat → Prop
  | [], [] => True
  | a :: r, c :: s => (-(c : Int) ≤ a.1 ∧ a.1 ≤ a.2 ∧ a.2 ≤ c ∧ c ≤ 1000000000) ∧ vld r s
  | _, _ => False
def bty (z : Bx) (y : Nat × List Nat) : Prop := vld z.1 y.2 ∧ z.2.length = y.1 ∧ ∀ v ∈ z.2, v ≤ 2
theorem prd {a b : Int} {m n : Nat} (ha : -(m : Int) ≤ a ∧ a ≤ m) (hb : -(n : Int) ≤ b ∧ b ≤ n) : -((m * n : Nat) : Int) ≤ a * b ∧ a * b ≤ (m * n : Nat) := by
  have h1 : a.natAbs ≤ m := by omega
  have h2 : b.natAbs ≤ n := by omega
  have h3 : (a * b).natAbs ≤ m * n := by rw [Int.natAbs_mul]; exact Nat.mul_le_mul h1 h2
  omega
theorem jI_t {x : Int} (h : bnd x) : (jI x).toInt = x := Int64.toInt_ofInt_of_le (by have := h.1; omega) (by have := h.2; omega)
theorem jI_lt {a b : Int} (ha : bnd a) (hb : bnd b) : jI a < jI b ↔ a < b := by rw [Int64.lt_iff_toInt_lt, jI_t ha, jI_t hb]
theorem jI_e {a b : Int} (ha : bnd a) (hb : bnd b) : jI a = jI b ↔ a = b := by rw [← Int64.toInt_inj, jI_t ha, jI_t hb]
theorem jI_mul (a b : Int) : jI a * jI b = jI (a * b) := (Int64.ofInt_mul a b).symm
theorem jI_add (a b : Int) : jI a + jI b = jI (a + b) := (Int64.ofInt_add a b).symm
theorem jI_sub (a b : Int) : jI a - jI b = jI (a - b) := (Int64.ofInt_sub a b).symm
theorem jI_max {a b : Int} (ha : bnd a) (hb : bnd b) : (if jI b < jI a then jI a else jI b) = jI (max a b) := by
  by_cases h : b < a
  · rw [if_pos ((jI_lt hb ha).mpr h)]; congr 1; omega
  · rw [if_neg (fun z => h ((jI_lt hb ha).mp z))]; congr 1; omega
theorem jI_min {a b : Int} (ha : bnd a) (hb : bnd b) : (if jI b < jI a then jI b else jI a) = jI (min a b) := by
  by_cases h : b < a
  · rw [if_pos ((jI_lt hb ha).mpr h)]; congr 1; omega
  · rw [if_neg (fun z => h ((jI_lt hb ha).mp z))]; congr 1; omega
theorem bd9 {c : Nat} {x : Int} (h1 : -(c : Int) ≤ x) (h2 : x ≤ c) (h3 : c ≤ 1000000000000000000) : bnd x := ⟨by omega, by omega⟩
theorem vld_len : ∀ {x : List (Int × Int)} {y : List Nat}, vld x y → x.length = y.length
  | [], [], _ => rfl
  | _ :: _, _ :: _, h => by have := vld_len h.2; simp only [List.length_cons]; omega
  | [], _ :: _, h => absurd h id
  | _ :: _, [], h => absurd h id
theorem vld_2 {x : List (Int × Int)} {d c : Nat} {s : List Nat} (h : vld x (d :: c :: s)) : ∃ b a r, x = b :: a :: r ∧ (-(d : Int) ≤ b.1 ∧ b.1 ≤ b.2 ∧ b.2 ≤ d ∧ d ≤ 1000000000) ∧ (-(c : Int) ≤ a.1 ∧ a.1 ≤ a.2 ∧ a.2 ≤ c ∧ c ≤ 1000000000) ∧ vld r s := by
  match x, h with
  | b :: a :: r, h => exact ⟨b, a, r, rfl, h.1, h.2.1, h.2.2⟩
  | [], h => exact absurd h id
  | [_], h => exact absurd h.2 id
theorem bar_ok {m : Nat} {a b : Int × Int} {c d e : Nat} (ha : -(c : Int) ≤ a.1 ∧ a.1 ≤ a.2 ∧ a.2 ≤ c) (hb : -(d : Int) ≤ b.1 ∧ b.1 ≤ b.2 ∧ b.2 ≤ d) (he : (m = 9 ∧ e = c * d) ∨ (10 ≤ m ∧ e = c + d)) : -(e : Int) ≤ (bar m a b).1 ∧ (bar m a b).1 ≤ (bar m a b).2 ∧ (bar m a b).2 ≤ e := by
  unfold bar
  by_cases h9 : m = 9
  · rw [if_pos h9]
    have e1 : e = c * d := by omega
    subst e1
    have p1 := prd (a := a.1) (b := b.1) (m := c) (n := d) (by omega) (by omega)
    have p2 := prd (a := a.1) (b := b.2) (m := c) (n := d) (by omega) (by omega)
    have p3 := prd (a := a.2) (b := b.1) (m := c) (n := d) (by omega) (by omega)
    have p4 := prd (a := a.2) (b := b.2) (m := c) (n := d) (by omega) (by omega)
    dsimp only
    generalize a.1 * b.1 = w1 at *
    generalize a.1 * b.2 = w2 at *
    generalize a.2 * b.1 = w3 at *
    generalize a.2 * b.2 = w4 at *
    generalize c * d = k at *
    omega
  · rw [if_neg h9]
    by_cases h10 : m = 10
    · rw [if_pos h10]; dsimp only; omega
    · rw [if_neg h10]; dsimp only; omega
theorem spn_le (m : Nat) (a b : Int × Int) : spn m a b ≤ 2 := by
  unfold spn
  repeat' split
  all_goals omega
theorem bth_le (m a b : Nat) : bth m a b ≤ 2 := by
  unfold bth
  repeat' split
  all_goals omega
theorem bst_ty {bx : Nat → Int × Int} {z : Bx} {y y' : Nat × List Nat} {t : Tk} (hbx : ∀ f, f < 8 → -99 ≤ (bx f).1 ∧ (bx f).1 ≤ (bx f).2 ∧ (bx f).2 ≤ 99) (hz : bty z y) (h : wst y t = some y') : bty (bst bx z t) y' := by
  obtain ⟨a1, a2, a3⟩ := hz
  unfold bst
  by_cases h1 : t.1 < 8
  · rw [if_pos h1, wst_f h h1]
    exact ⟨⟨by have := hbx _ h1; omega, a1⟩, a2, a3⟩
  rw [if_neg h1]
  by_cases h2 : t.1 = 8
  · rw [if_pos h2, (wst_n h h2).2]
    exact ⟨⟨by have := (wst_n h h2).1; dsimp only; omega, a1⟩, a2, a3⟩
  rw [if_neg h2]
  by_cases h3 : t.1 < 12
  · rw [if_pos h3]
    obtain ⟨b, a, r, e, c, hc, rfl, he⟩ := wst_a h (by omega) h3
    rw [e] at a1
    obtain ⟨b', a', r', e', hb, ha, hr⟩ := vld_2 a1
    rw [e']
    have := bar_ok (m := t.1) (e := c) ⟨ha.1, ha.2.1, ha.2.2.1⟩ ⟨hb.1, hb.2.1, hb.2.2.1⟩ he
    exact ⟨⟨⟨this.1, this.2.1, this.2.2, hc⟩, hr⟩, a2, a3⟩
  rw [if_neg h3]
  by_cases h4 : t.1 < 15
  · rw [if_pos h4]
    obtain ⟨b, a, e, rfl⟩ := wst_c h (by omega) h4
    rw [e] at a1
    obtain ⟨b', a', r', e', hb, ha, hr⟩ := vld_2 a1
    rw [e']
    refine ⟨hr, by simp [a2], fun v hv => ?_⟩
    rcases List.mem_cons.mp hv with rfl | hv
    · exact spn_le _ _ _
    · exact a3 v hv
  rw [if_neg h4]
  by_cases h5 : t.1 = 15
  · rw [if_pos h5]
    obtain ⟨e, hy, rfl⟩ := wst_x h h5
    obtain ⟨a', r', e'⟩ := len1 a2 hy
    rw [e'] at a2 a3 ⊢
    refine ⟨a1, by simpa using a2, fun v hv => ?_⟩
    rcases List.mem_cons.mp hv with rfl | hv
    · split <;> omega
    · exact a3 v (List.mem_cons_of_mem _ hv)
  rw [if_neg h5]
  obtain ⟨-, e, hy, rfl⟩ := wst_j h (by omega)
  obtain ⟨b', a', r', e'⟩ := len2 a2 hy
  rw [e'] at a2 a3 ⊢
  refine ⟨by rw [e] at a1; exact a1, by simp at a2 ⊢; omega, fun v hv => ?_⟩
  rcases List.mem_cons.mp hv with rfl | hv
  · exact bth_le _ _ _
  · exact a3 v (by simp [hv])
theorem bst_len {bx : Nat → Int × Int} (z : Bx) (t : Tk) : (bst bx z t).1.length + (bst bx z t).2.length ≤ z.1.length + z.2.length + 1 := by
  obtain ⟨s, u⟩ := z
  unfold bst
  dsimp only
  repeat' split
  all_goals simp only [List.length_cons] at *
  all_goals omega
/-- a truth as a span -/
def tp (t : Nat) : Int × Int := (if t = 1 then 1 else 0, if t = 0 then 0 else 1)
theorem tp_not {t : Nat} (h : t ≤ 2) : tp (if t = 2 then 2 else 1 - t) = (1 - (tp t).2, 1 - (tp t).1) := by
  rcases (show t = 0 ∨ t = 1 ∨ t = 2 by omega) with rfl | rfl | rfl <;> decide
theorem tp_and {a b : Nat} (ha : a ≤ 2) (hb : b ≤ 2) : tp (bth 16 a b) = (min (tp a).1 (tp b).1, min (tp a).2 (tp b).2) := by
  rcases (show a = 0 ∨ a = 1 ∨ a = 2 by omega) with rfl | rfl | rfl <;> rcases (show b = 0 ∨ b = 1 ∨ b = 2 by omega) with rfl | rfl | rfl <;> decide
theorem tp_or {a b : Nat} (ha : a ≤ 2) (hb : b ≤ 2) : tp (bth 17 a b) = (max (tp a).1 (tp b).1, max (tp a).2 (tp b).2) := by
  rcases (show a = 0 ∨ a = 1 ∨ a = 2 by omega) with rfl | rfl | rfl <;> rcases (show b = 0 ∨ b = 1 ∨ b = 2 by omega) with rfl | rfl | rfl <;> decide
theorem tp_b (t : Nat) : bnd (tp t).1 ∧ bnd (tp t).2 := by
  unfold tp bnd
  constructor <;> dsimp only <;> split <;> omega
