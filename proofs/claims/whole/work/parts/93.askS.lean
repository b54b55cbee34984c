/-- a loop's work -/
def itN {α : Type} (f : Nat → α → α) : Nat → α → α
  | 0, a => a
  | n + 1, a => f n (itN f n a)
theorem itN_fst {α β : Type} {f : Nat → α × β → α × β} {g : Nat → α → α} (h : ∀ n a, (f n a).1 = g n a.1) : ∀ n a, (itN f n a).1 = itN g n a.1
  | 0, _ => rfl
  | n + 1, a => by unfold itN; rw [h, itN_fst h n a]
def m0T (g b h c p r q s : Nat) : Bool := decide ((p + r) * (h + c) = (q + s) * (g + b))
def m1T (g h p q : Nat) : Bool := decide (0 < g ∧ 0 < h ∧ p * h = q * g)
def m2T (p r q s : Nat) : Bool := decide (p * (q + s) = q * (p + r))
/-- which of the three are so -/
def mtT (g b h c p r q s : Nat) : Nat := (m0T g b h c p r q s).toNat + 2 * (m1T g h p q).toNat + 4 * (m2T p r q s).toNat
/-- how many of a set aren't met -/
def umN (set m : Nat) : Nat := (if set % 2 = 1 ∧ m % 2 = 0 then 1 else 0) + (if set / 2 % 2 = 1 ∧ m / 2 % 2 = 0 then 1 else 0) + (if set / 4 % 2 = 1 ∧ m / 4 % 2 = 0 then 1 else 0)
def stW (set g b h c p r q s : Nat) (a : Int × Int) : Int × Int := if 0 < p + r ∧ 0 < q + s then ((if umN set (mtT g b h c p r q s) = 0 then max a.1 ((p + r + q + s : Nat) : Int) else a.1), (if a.2 = -1 ∨ (umN set (mtT g b h c p r q s) : Int) < a.2 then (umN set (mtT g b h c p r q s) : Int) else a.2)) else a
def stX (set g b h c p r q s : Nat) (a : Int) : Int := if 0 < p + r ∧ 0 < q + s then (if umN set (mtT g b h c p r q s) = 0 then max a ((p + r + q + s : Nat) : Int) else a) else a
def wg3 (set g b h c p r q : Nat) (a : Int × Int) : Int × Int := itN (fun s a => stW set g b h c p r q s a) (c + 1) a
def wg2 (set g b h c p r : Nat) (a : Int × Int) : Int × Int := itN (fun q a => wg3 set g b h c p r q a) (h + 1) a
def wg1 (set g b h c p : Nat) (a : Int × Int) : Int × Int := itN (fun r a => wg2 set g b h c p r a) (b + 1) a
def wg (set g b h c : Nat) : Int × Int := itN (fun p a => wg1 set g b h c p a) (g + 1) (-1, -1)
def ml3 (set g b h c p r q : Nat) (a : Int) : Int := itN (fun s a => stX set g b h c p r q s a) (c + 1) a
def ml2 (set g b h c p r : Nat) (a : Int) : Int := itN (fun q a => ml3 set g b h c p r q a) (h + 1) a
def ml1 (set g b h c p : Nat) (a : Int) : Int := itN (fun r a => ml2 set g b h c p r a) (b + 1) a
def ml (set g b h c : Nat) : Int := itN (fun p a => ml1 set g b h c p a) (g + 1) (-1)
theorem stp_1 (set g b h c p r q s : Nat) (a : Int × Int) : (stW set g b h c p r q s a).1 = stX set g b h c p r q s a.1 := by
  unfold stW stX
  by_cases h1 : 0 < p + r ∧ 0 < q + s
  · rw [if_pos h1, if_pos h1]
  · rw [if_neg h1, if_neg h1]
theorem wg_1 (set g b h c : Nat) : (wg set g b h c).1 = ml set g b h c :=
  itN_fst (fun p a => itN_fst (fun r a => itN_fst (fun q a => itN_fst (fun s a => stp_1 set g b h c p r q s a) (c + 1) a) (h + 1) a) (b + 1) a) (g + 1) (-1, -1)
abbrev T4 : Type := Nat × Nat × Nat × Nat
/-- what a loop keeps, for the tuples seen -/
theorem itN_ch {α : Type} (C : (T4 → Prop) → α → Prop) (hC : ∀ V V' a, (∀ t, V t ↔ V' t) → C V a → C V' a) (D : Nat → T4 → Prop) (f : Nat → α → α) (N : Nat) (hf : ∀ n, n < N → ∀ V a, C V a → C (fun t => V t ∨ D n t) (f n a)) : ∀ n, n ≤ N → ∀ V a, C V a → C (fun t => V t ∨ ∃ k, k < n ∧ D k t) (itN f n a)
  | 0, _, V, a, h => hC V _ a (fun t => ⟨fun z => Or.inl z, fun z => z.elim id (fun ⟨k, hk, _⟩ => by omega)⟩) h
  | n + 1, hn, V, a, h => by
    have h1 := itN_ch C hC D f N hf n (by omega) V a h
    have h2 := hf n (by omega) _ _ h1
    refine hC _ _ _ (fun t => ?_) h2
    constructor
    · rintro ((z | ⟨k, hk, z⟩) | z)
      · exact Or.inl z
      · exact Or.inr ⟨k, by omega, z⟩
      · exact Or.inr ⟨n, by omega, z⟩
    · rintro (z | ⟨k, hk, z⟩)
      · exact Or.inl (Or.inl z)
      · by_cases e : k = n
        · subst e; exact Or.inr z
        · exact Or.inl (Or.inr ⟨k, by omega, z⟩)
def okT (t : T4) : Prop := 0 < t.1 + t.2.1 ∧ 0 < t.2.2.1 + t.2.2.2
def umT (set g b h c : Nat) (t : T4) : Nat := umN set (mtT g b h c t.1 t.2.1 t.2.2.1 t.2.2.2)
def Cw (set g b h c : Nat) (V : T4 → Prop) (a : Int × Int) : Prop := (a.1 = -1 ∨ 0 ≤ a.1) ∧ (a.1 ≠ -1 ↔ ∃ t, V t ∧ okT t ∧ umT set g b h c t = 0) ∧ (a.2 = -1 ∨ 0 ≤ a.2) ∧ (∀ t, V t → okT t → a.2 ≠ -1 ∧ a.2 ≤ umT set g b h c t) ∧ (a.2 = -1 ∨ ∃ t, V t ∧ okT t ∧ a.2 = umT set g b h c t)
theorem Cw_s {set g b h c : Nat} (p r q s : Nat) (V : T4 → Prop) (a : Int × Int) (H : Cw set g b h c V a) : Cw set g b h c (fun t => V t ∨ t = (p, r, q, s)) (stW set g b h c p r q s a) := by
  obtain ⟨h1, h2, h3, h4, h5⟩ := H
  by_cases ho : 0 < p + r ∧ 0 < q + s
  · have hot : okT (p, r, q, s) := ho
    have hu : umN set (mtT g b h c p r q s) = umT set g b h c (p, r, q, s) := rfl
    unfold stW
    rw [if_pos ho, hu]
    generalize hk : umT set g b h c (p, r, q, s) = u at *
    refine ⟨?_, ?_, ?_, ?_, ?_⟩
    · dsimp only; split <;> omega
    · dsimp only
      by_cases h0 : u = 0
      · rw [if_pos h0]
        exact ⟨fun _ => ⟨(p, r, q, s), Or.inr rfl, hot, by rw [hk]; exact h0⟩, fun _ => by omega⟩
      · rw [if_neg h0]
        constructor
        · intro z
          obtain ⟨t, q1, q2⟩ := h2.mp z
          exact ⟨t, Or.inl q1, q2⟩
        · rintro ⟨t, q1 | q1, q2, q3⟩
          · exact h2.mpr ⟨t, q1, q2, q3⟩
          · subst q1; exact absurd (hk.symm.trans q3) h0
    · dsimp only; split <;> omega
    · dsimp only
      intro t ht hok
      rcases ht with ht | ht
      · obtain ⟨e1, e2⟩ := h4 t ht hok
        split <;> omega
      · subst ht
        rw [hk]
        split <;> omega
    · dsimp only
      by_cases hc : a.2 = -1 ∨ (u : Int) < a.2
      · rw [if_pos hc]
        exact Or.inr ⟨(p, r, q, s), Or.inr rfl, hot, by rw [hk]⟩
      · rw [if_neg hc]
        rcases h5 with h5 | ⟨t, q1, q2⟩
        · exact Or.inl h5
        · exact Or.inr ⟨t, Or.inl q1, q2⟩
  · have hot : ¬ okT (p, r, q, s) := ho
    unfold stW
    rw [if_neg ho]
    refine ⟨h1, ?_, h3, ?_, ?_⟩
    · rw [h2]
      constructor
      · rintro ⟨t, q1, q2⟩; exact ⟨t, Or.inl q1, q2⟩
      · rintro ⟨t, q1 | q1, q2, q3⟩
        · exact ⟨t, q1, q2, q3⟩
        · subst q1; exact absurd q2 hot
    · rintro t (ht | ht) hok
      · exact h4 t ht hok
      · subst ht; exact absurd hok hot
    · rcases h5 with h5 | ⟨t, q1, q2⟩
      · exact Or.inl h5
      · exact Or.inr ⟨t, Or.inl q1, q2⟩
theorem Cw_c {set g b h c : Nat} (V V' : T4 → Prop) (a : Int × Int) (e : ∀ t, V t ↔ V' t) (H : Cw set g b h c V a) : Cw set g b h c V' a := by
  have : V = V' := funext (fun t => propext (e t))
  rw [← this]; exact H
def inT (g b h c : Nat) (t : T4) : Prop := t.1 ≤ g ∧ t.2.1 ≤ b ∧ t.2.2.1 ≤ h ∧ t.2.2.2 ≤ c
theorem wg_C (set g b h c : Nat) : Cw set g b h c (inT g b h c) (wg set g b h c) := by
  have h0 : Cw set g b h c (fun _ => False) (-1, -1) := ⟨Or.inl rfl, ⟨fun z => absurd rfl z, fun ⟨t, q, _⟩ => q.elim⟩, Or.inl rfl, fun t q => q.elim, Or.inl rfl⟩
  have h3 : ∀ p r q V a, Cw set g b h c V a → Cw set g b h c (fun t => V t ∨ ∃ s, s < c + 1 ∧ t = (p, r, q, s)) (wg3 set g b h c p r q a) := fun p r q V a H => itN_ch (Cw set g b h c) Cw_c (fun s t => t = (p, r, q, s)) (fun s a => stW set g b h c p r q s a) (c + 1) (fun s _ V a H => Cw_s p r q s V a H) (c + 1) (Nat.le_refl _) V a H
  have h2 : ∀ p r V a, Cw set g b h c V a → Cw set g b h c (fun t => V t ∨ ∃ q, q < h + 1 ∧ ∃ s, s < c + 1 ∧ t = (p, r, q, s)) (wg2 set g b h c p r a) := fun p r V a H => itN_ch (Cw set g b h c) Cw_c (fun q t => ∃ s, s < c + 1 ∧ t = (p, r, q, s)) (fun q a => wg3 set g b h c p r q a) (h + 1) (fun q _ V a H => h3 p r q V a H) (h + 1) (Nat.le_refl _) V a H
  have h1 : ∀ p V a, Cw set g b h c V a → Cw set g b h c (fun t => V t ∨ ∃ r, r < b + 1 ∧ ∃ q, q < h + 1 ∧ ∃ s, s < c + 1 ∧ t = (p, r, q, s)) (wg1 set g b h c p a) := fun p V a H => itN_ch (Cw set g b h c) Cw_c (fun r t => ∃ q, q < h + 1 ∧ ∃ s, s < c + 1 ∧ t = (p, r, q, s)) (fun r a => wg2 set g b h c p r a) (b + 1) (fun r _ V a H => h2 p r V a H) (b + 1) (Nat.le_refl _) V a H
  refine Cw_c _ _ _ (fun t => ?_) (itN_ch (Cw set g b h c) Cw_c (fun p t => ∃ r, r < b + 1 ∧ ∃ q, q < h + 1 ∧ ∃ s, s < c + 1 ∧ t = (p, r, q, s)) (fun p a => wg1 set g b h c p a) (g + 1) (fun p _ V a H => h1 p V a H) (g + 1) (Nat.le_refl _) (fun _ => False) (-1, -1) h0)
  constructor
  · rintro (z | ⟨p, hp, r, hr, q, hq, s, hs, rfl⟩)
    · exact z.elim
    · exact ⟨by dsimp only; omega, by dsimp only; omega, by dsimp only; omega, by dsimp only; omega⟩
  · rintro ⟨z1, z2, z3, z4⟩
    exact Or.inr ⟨t.1, by omega, t.2.1, by omega, t.2.2.1, by omega, t.2.2.2, by omega, rfl⟩
/-- what is left out of a set -/
def ppN (n : Nat) : Nat := n % 2 + n / 2 % 2 + n / 4 % 2
def isP (part set : Nat) : Bool := (part &&& set) == part
def feS (set g b h c part : Nat) (w : Int) : Int := if isP part set = true ∧ (w = -1 ∨ (ppN part : Int) < w) ∧ ml (set - part) g b h c ≠ -1 then (ppN part : Int) else w
def fe (set g b h c : Nat) : Int := itN (fun part w => feS set g b h c part w) (set + 1) (-1)
theorem um_1 : ∀ set, set < 8 → ∀ m, m < 8 → ∃ part, part ≤ set ∧ isP part set = true ∧ ppN part = umN set m ∧ umN (set - part) m = 0 := by decide
theorem um_2 : ∀ set, set < 8 → ∀ m, m < 8 → ∀ part, part ≤ set → isP part set = true → umN (set - part) m = 0 → umN set m ≤ ppN part := by decide
theorem mtT_8 (g b h c p r q s : Nat) : mtT g b h c p r q s < 8 := by
  unfold mtT
  cases m0T g b h c p r q s <;> cases m1T g h p q <;> cases m2T p r q s <;> decide
def feC (set g b h c n : Nat) (w : Int) : Prop := (w = -1 ∨ 0 ≤ w) ∧ (∀ part, part < n → isP part set = true → ml (set - part) g b h c ≠ -1 → w ≠ -1 ∧ w ≤ ppN part) ∧ (w = -1 ∨ ∃ part, part < n ∧ isP part set = true ∧ ml (set - part) g b h c ≠ -1 ∧ w = ppN part)
theorem fe_C (set g b h c : Nat) : ∀ n, feC set g b h c n (itN (fun part w => feS set g b h c part w) n (-1))
  | 0 => ⟨Or.inl rfl, fun part hp => by omega, Or.inl rfl⟩
  | n + 1 => by
    obtain ⟨h1, h2, h3⟩ := fe_C set g b h c n
    have e : itN (fun part w => feS set g b h c part w) (n + 1) (-1) = feS set g b h c n (itN (fun part w => feS set g b h c part w) n (-1)) := rfl
    rw [e]
    generalize itN (fun part w => feS set g b h c part w) n (-1) = w at *
    unfold feS
    by_cases hc : isP n set = true ∧ (w = -1 ∨ (ppN n : Int) < w) ∧ ml (set - n) g b h c ≠ -1
    · rw [if_pos hc]
      refine ⟨by omega, fun part hp h4 h5 => ?_, Or.inr ⟨n, by omega, hc.1, hc.2.2, rfl⟩⟩
      by_cases e : part = n
      · subst e; omega
      · have := h2 part (by omega) h4 h5
        omega
    · rw [if_neg hc]
      refine ⟨h1, fun part hp h4 h5 => ?_, ?_⟩
      · by_cases e : part = n
        · subst e
          have : ¬ (w = -1 ∨ (ppN part : Int) < w) := fun z => hc ⟨h4, z, h5⟩
          omega
        · exact h2 part (by omega) h4 h5
      · rcases h3 with h3 | ⟨part, q1, q2⟩
        · exact Or.inl h3
        · exact Or.inr ⟨part, by omega, q2⟩
theorem ml_ex (set g b h c : Nat) : ml set g b h c ≠ -1 ↔ ∃ t, inT g b h c t ∧ okT t ∧ umT set g b h c t = 0 := by
  rw [← wg_1]; exact (wg_C set g b h c).2.1
theorem fe_eq {set g b h c : Nat} (hs : set < 8) : fe set g b h c = (wg set g b h c).2 := by
  obtain ⟨f1, f2, f3⟩ := fe_C set g b h c (set + 1)
  obtain ⟨-, -, w1, w2, w3⟩ := wg_C set g b h c
  change (fe set g b h c = -1 ∨ 0 ≤ fe set g b h c) at f1
  change (∀ part, part < set + 1 → isP part set = true → ml (set - part) g b h c ≠ -1 → fe set g b h c ≠ -1 ∧ fe set g b h c ≤ ppN part) at f2
  change (fe set g b h c = -1 ∨ ∃ part, part < set + 1 ∧ isP part set = true ∧ ml (set - part) g b h c ≠ -1 ∧ fe set g b h c = ppN part) at f3
  generalize fe set g b h c = x at *
  generalize (wg set g b h c).2 = y at *
  have a1 : ∀ t, inT g b h c t → okT t → x ≠ -1 ∧ x ≤ umT set g b h c t := fun t ht ho => by
    obtain ⟨part, p1, p2, p3, p4⟩ := um_1 set hs _ (mtT_8 g b h c t.1 t.2.1 t.2.2.1 t.2.2.2)
    have := f2 part (by omega) p2 ((ml_ex _ _ _ _ _).mpr ⟨t, ht, ho, p4⟩)
    rw [p3] at this
    exact this
  have a2 : ∀ part, part < set + 1 → isP part set = true → ml (set - part) g b h c ≠ -1 → y ≠ -1 ∧ y ≤ ppN part := fun part h1 h2 h3 => by
    obtain ⟨t, t1, t2, t3⟩ := (ml_ex _ _ _ _ _).mp h3
    have q1 := w2 t t1 t2
    have q2 := um_2 set hs _ (mtT_8 g b h c t.1 t.2.1 t.2.2.1 t.2.2.2) part (by omega) h2 t3
    have q3 : umT set g b h c t ≤ ppN part := q2
    omega
  rcases f3 with f3 | ⟨part, p1, p2, p3, p4⟩
  · rcases w3 with w3 | ⟨t, t1, t2, t3⟩
    · omega
    · have := a1 t t1 t2; omega
  · have := a2 part p1 p2 p3
    rcases w3 with w3 | ⟨t, t1, t2, t3⟩
    · omega
    · have := a1 t t1 t2; omega
theorem wg_0 (set g b h c : Nat) : (wg set g b h c).2 = 0 ↔ (wg set g b h c).1 ≠ -1 := by
  obtain ⟨-, h2, w1, w2, w3⟩ := wg_C set g b h c
  rw [h2]
  constructor
  · intro e
    rcases w3 with w3 | ⟨t, t1, t2, t3⟩
    · omega
    · exact ⟨t, t1, t2, by omega⟩
  · rintro ⟨t, t1, t2, t3⟩
    have := w2 t t1 t2
    omega
theorem umN_3 (set m : Nat) : umN set m ≤ 3 := by
  unfold umN
  (repeat' split) <;> omega
def aB (a : Int × Int) : Prop := -1 ≤ a.1 ∧ a.1 ≤ 40 ∧ -1 ≤ a.2 ∧ a.2 ≤ 3
theorem stp_b {set g b h c p r q s : Nat} {a : Int × Int} (ha : aB a) (h9 : p + r + q + s ≤ 40) : aB (stW set g b h c p r q s a) := by
  have h3 := umN_3 set (mtT g b h c p r q s)
  unfold aB at *
  unfold stW
  split
  · refine ⟨?_, ?_, ?_, ?_⟩ <;> dsimp only <;> split <;> omega
  · exact ha
