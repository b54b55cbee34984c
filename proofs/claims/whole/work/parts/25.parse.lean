def bI (b : Bool) : Int32 := bif b then 1 else 0
theorem bI_1 : bI true = 1 := rfl
theorem bI_0 : bI false = 0 := rfl
/-- a row of ints tells a list of numbers -/
def al (f : Nat → Int32) (l : List Nat) : Prop := ∀ k, k < l.length → f k = nI (l.getD k 0)
theorem al_nil {f : Nat → Int32} : al f [] := fun k h => absurd h (Nat.not_lt_zero k)
theorem gd_l {α : Type} {l : List α} {x d : α} {k : Nat} (h : k < l.length) : (l ++ [x]).getD k d = l.getD k d := by
  simp [List.getD_eq_getElem?_getD, List.getElem?_append_left h]
theorem gd_e {α : Type} {l : List α} {x d : α} : (l ++ [x]).getD l.length d = x := by simp [List.getD_eq_getElem?_getD]
theorem al_push {f f' : Nat → Int32} {l : List Nat} {x : Nat} (h : al f l) (h1 : f' l.length = nI x) (h2 : ∀ k, k < l.length → f' k = f k) : al f' (l ++ [x]) := by
  intro k hk
  rw [List.length_append, List.length_singleton] at hk
  by_cases e : k = l.length
  · subst e; rw [h1, gd_e]
  · rw [h2 k (by omega), h k (by omega), gd_l (by omega)]
theorem al_up {A : FI} {g i : Nat} {l : List Nat} {x : Nat} (h : al (A g i) l) : al (up3 A g i l.length (nI x) g i) (l ++ [x]) := al_push h up3_self (fun k hk => up3_s (by omega))
theorem al_upn {A : FI} {g i n : Nat} {l : List Nat} {x : Nat} (h : al (A g i) l) (hn : n = l.length) : al (up3 A g i n (nI x) g i) (l ++ [x]) := by subst hn; exact al_up h
theorem al_init {f : Nat → Int32} {l l2 : List Nat} (h : al f (l ++ l2)) : al f l := fun k hk => by
  have := h k (by rw [List.length_append]; omega)
  rw [this]
  congr 1
  simp [List.getD_eq_getElem?_getD, List.getElem?_append_left hk]
theorem al_last {f : Nat → Int32} {l : List Nat} {x : Nat} (h : al f (l ++ [x])) : f l.length = nI x := by
  have := h l.length (by simp)
  rw [this, gd_e]
theorem al_ext {f f' : Nat → Int32} {l : List Nat} (h : al f l) (h2 : ∀ k, k < l.length → f' k = f k) : al f' l := fun k hk => by rw [h2 k hk, h k hk]
/-- the last number told otherwise -/
theorem al_set {A : FI} {g i n : Nat} {l : List Nat} {x y : Nat} (h : al (A g i) (l ++ [x])) (hn : n = l.length) : al (up3 A g i n (nI y) g i) (l ++ [y]) := al_upn (al_init h) hn
abbrev Tk : Type := Nat × Nat
/-- state, depth, units, right, begun, last -/
abbrev Ct : Type := Nat × Nat × Nat × Bool × Bool × Bool
/-- LINES done, tokens of this one, what waits (the last first) -/
abbrev Os : Type := List (List Tk × Nat) × List Tk × List Nat
def uC (c dep un : Nat) (rt bg ls : Bool) : Option Ct := if 48 ≤ c ∧ c ≤ 57 then some (2, dep, un, rt, bg, ls) else if 97 ≤ c ∧ c ≤ 104 then some (3, dep, un, rt, bg, ls) else none
def oC (sort c dep un : Nat) (rt bg ls : Bool) : Option Ct := if c = 38 ∨ c = 124 then some (0, dep, un, rt, bg, ls) else if c = 41 then (if 0 < dep then some (4, dep - 1, un, rt, bg, ls) else none) else if c = 58 ∧ sort = 0 ∧ dep = 0 then some (5, dep, un, rt, bg, ls) else none
/-- as the class goes -/
def bC (sort c dep un : Nat) (rt bg ls : Bool) : Option Ct := if c = 42 then (if un < 3 then some (1, dep, un + 1, rt, bg, ls) else none) else if c = 43 ∨ c = 45 then some (1, dep, 1, rt, bg, ls) else if rt = true then oC sort c dep 1 rt bg ls else if 60 ≤ c ∧ c ≤ 62 then some (1, dep, 1, true, bg, ls) else none
def fC (sort c dep un : Nat) (rt bg ls : Bool) : Option Ct := if c = 58 ∧ sort = 0 ∧ bg = false then some (5, dep, un, rt, bg, true) else if c = 40 then some (0, dep + 1, un, rt, true, ls) else if c = 33 then some (0, dep, 1, false, true, ls) else uC c dep 1 false true ls
def cC (sort c : Nat) (k : Ct) : Option Ct := match k with
  | (st, dep, un, rt, bg, ls) => if st = 0 then fC sort c dep un rt bg ls else if st = 1 then uC c dep un rt bg ls else if st = 2 then (if 48 ≤ c ∧ c ≤ 57 then some (3, dep, un, rt, bg, ls) else bC sort c dep un rt bg ls) else if st = 3 then bC sort c dep un rt bg ls else if st = 4 then oC sort c dep un rt bg ls else if st = 5 then (if c = 48 ∨ c = 49 then some (if ls = true then 7 else 6, dep, un, rt, bg, ls) else none) else if st = 6 then (if c = 59 then some (0, dep, un, rt, false, ls) else none) else none
/-- as the reference goes -/
def bM (sort c dep un : Nat) (rt bg ls : Bool) : Option Ct := if (c = 42 ∧ un < 3) ∨ c = 43 ∨ c = 45 then some (1, dep, if c = 42 then un + 1 else 1, rt, bg, ls) else if rt = true then oC sort c dep un rt bg ls else if 60 ≤ c ∧ c ≤ 62 then some (1, dep, 1, true, bg, ls) else none
def fM (sort c dep un : Nat) (rt bg ls : Bool) : Option Ct := if c = 33 ∨ c = 40 then some (0, if c = 40 then dep + 1 else dep, un, rt, true, ls) else if c = 58 ∧ sort = 0 ∧ bg = false then some (5, dep, un, rt, bg, true) else uC c dep 1 false true ls
def cM (sort c : Nat) (k : Ct) : Option Ct := match k with
  | (st, dep, un, rt, bg, ls) => if st = 0 then fM sort c dep un rt bg ls else if st = 1 then uC c dep un rt bg ls else if st = 2 then (if 48 ≤ c ∧ c ≤ 57 then some (3, dep, un, rt, bg, ls) else bM sort c dep un rt bg ls) else if st = 3 then bM sort c dep un rt bg ls else if st = 4 then oC sort c dep un rt bg ls else if st = 5 then (if c = 48 ∨ c = 49 then some (if ls = true then 7 else 6, dep, un, rt, bg, ls) else none) else if st = 6 then (if c = 59 then some (0, dep, un, rt, false, ls) else none) else none
/-- the two of them alike -/
def krl (a b : Ct) : Prop := a.1 = b.1 ∧ a.2.1 = b.2.1 ∧ a.2.2.2.2 = b.2.2.2.2 ∧ (1 ≤ a.1 → a.1 ≤ 3 → a.2.2.1 = b.2.2.1 ∧ a.2.2.2.1 = b.2.2.2.1)
def orl (a b : Option Ct) : Prop := match a with
  | none => b = none
  | some x => ∃ y, b = some y ∧ krl x y
theorem krl_rf (a : Ct) : krl a a := ⟨rfl, rfl, rfl, fun _ _ => ⟨rfl, rfl⟩⟩
theorem orl_s {x y : Ct} (h : krl x y) : orl (some x) (some y) := ⟨y, rfl, h⟩
theorem orl_n : orl none none := rfl
theorem orl_rf (a : Option Ct) : orl a a := by cases a with
  | none => exact rfl
  | some x => exact orl_s (krl_rf x)
theorem oC_r (sort c dep u1 u2 : Nat) (r1 r2 bg ls : Bool) : orl (oC sort c dep u1 r1 bg ls) (oC sort c dep u2 r2 bg ls) := by
  unfold oC
  repeat' split
  all_goals first | exact orl_n | exact orl_s ⟨rfl, rfl, rfl, fun a b => by dsimp only at a b; omega⟩
theorem bC_r (sort c dep un : Nat) (rt bg ls : Bool) : orl (bC sort c dep un rt bg ls) (bM sort c dep un rt bg ls) := by
  unfold bC bM
  by_cases h1 : c = 42
  · subst h1
    by_cases h2 : un < 3
    · simp only [h2, if_true, true_and, true_or]; exact orl_rf _
    · simp only [h2, if_true, if_false, true_and, false_or]
      cases rt <;> simp [oC, orl]
  · by_cases h2 : c = 43 ∨ c = 45
    · simp only [h1, h2, if_true, if_false, or_true]; exact orl_rf _
    · simp only [h1, h2, if_false, false_and, or_false]
      cases rt
      · simp only [Bool.false_eq_true, if_false]; exact orl_rf _
      · simp only [if_true]; exact oC_r _ _ _ _ _ _ _ _ _
theorem fC_r (sort c dep u1 u2 : Nat) (r1 r2 bg ls : Bool) : orl (fC sort c dep u1 r1 bg ls) (fM sort c dep u2 r2 bg ls) := by
  unfold fC fM
  by_cases h1 : c = 58
  · subst h1
    by_cases h2 : sort = 0 ∧ bg = false
    · simp only [h2, and_self, if_true, true_and]
      exact orl_s ⟨rfl, rfl, rfl, fun a b => by dsimp only at a b; omega⟩
    · simp [h2, orl_rf]
  · by_cases h2 : c = 40
    · subst h2; exact orl_s ⟨rfl, rfl, rfl, fun a b => by dsimp only at a b; omega⟩
    · by_cases h3 : c = 33
      · subst h3; exact orl_s ⟨rfl, rfl, rfl, fun a b => by dsimp only at a b; omega⟩
      · simp only [h1, h2, h3, false_and, if_false, or_self]; exact orl_rf _
theorem cC_r (sort c : Nat) (a b : Ct) (h : krl a b) : orl (cC sort c a) (cM sort c b) := by
  obtain ⟨s1, d1, u1, r1, bg1, ls1⟩ := a
  obtain ⟨s2, d2, u2, r2, bg2, ls2⟩ := b
  obtain ⟨h1, h2, h3, h4⟩ := h
  dsimp only at h1 h2 h3 h4
  cases h3
  subst h1 h2
  unfold cC cM
  dsimp only
  by_cases z0 : s1 = 0
  · rw [if_pos z0, if_pos z0]; exact fC_r _ _ _ _ _ _ _ _ _
  rw [if_neg z0, if_neg z0]
  by_cases z1 : s1 = 1
  · obtain ⟨rfl, rfl⟩ := h4 (by omega) (by omega)
    rw [if_pos z1, if_pos z1]; exact orl_rf _
  rw [if_neg z1, if_neg z1]
  by_cases z2 : s1 = 2
  · obtain ⟨rfl, rfl⟩ := h4 (by omega) (by omega)
    rw [if_pos z2, if_pos z2]
    split
    · exact orl_rf _
    · exact bC_r _ _ _ _ _ _ _
  rw [if_neg z2, if_neg z2]
  by_cases z3 : s1 = 3
  · obtain ⟨rfl, rfl⟩ := h4 (by omega) (by omega)
    rw [if_pos z3, if_pos z3]; exact bC_r _ _ _ _ _ _ _
  rw [if_neg z3, if_neg z3]
  by_cases z4 : s1 = 4
  · rw [if_pos z4, if_pos z4]; exact oC_r _ _ _ _ _ _ _ _ _
  rw [if_neg z4, if_neg z4]
  repeat' split
  all_goals first | exact orl_n | exact orl_s ⟨rfl, rfl, rfl, fun a b => by dsimp only at a b; omega⟩ | contradiction
