/-- q is less than t on the first f -/
def LTf (f : Nat) (t q : Nat → Nat) : Prop := ∃ k, k < f ∧ (∀ j, j < k → q j = t j) ∧ q k < t k
def EQf (f : Nat) (t q : Nat → Nat) : Prop := ∀ j, j < f → q j = t j
theorem LT_tri {a b : Nat → Nat} : ∀ f, ¬ LTf f a b → ¬ LTf f b a → EQf f a b
  | 0, _, _ => fun j hj => by omega
  | f + 1, h1, h2 => by
    have ih := LT_tri f (fun ⟨k, z⟩ => h1 ⟨k, by omega, z.2⟩) (fun ⟨k, z⟩ => h2 ⟨k, by omega, z.2⟩)
    intro j hj
    by_cases e : j = f
    · subst e
      have c1 : ¬ b j < a j := fun z => h1 ⟨j, by omega, ih, z⟩
      have c2 : ¬ a j < b j := fun z => h2 ⟨j, by omega, fun i hi => (ih i hi).symm, z⟩
      omega
    · exact ih j (by omega)
theorem LT_as {f : Nat} {a b : Nat → Nat} (h1 : LTf f a b) (h2 : LTf f b a) : False := by
  obtain ⟨k, hk, e, l⟩ := h1
  obtain ⟨k', hk', e', l'⟩ := h2
  rcases Nat.lt_trichotomy k k' with h | h | h
  · have := e' k h; omega
  · subst h; omega
  · have := e k' h; omega
theorem LT_EQ {f g : Nat} {t r q : Nat → Nat} (hfg : f ≤ g) (h : LTf f t q) (e : EQf f t r) : LTf g r q := by
  obtain ⟨k, hk, e1, l⟩ := h
  exact ⟨k, by omega, fun j hj => by rw [e1 j hj, e j (by omega)], by rw [e k hk]; exact l⟩
/-- what each change costs -/
def csN (F : FS) (q0 q : Nat → Nat) : Nat → Nat
  | 0 => 0
  | n + 1 => csN F q0 q n + ((q n - q0 n) + (q0 n - q n)) * F.2.2.2 n
theorem csN_mono (F : FS) (q0 q : Nat → Nat) (f : Nat) : ∀ m, csN F q0 q f ≤ csN F q0 q (f + m)
  | 0 => Nat.le_refl _
  | m + 1 => Nat.le_trans (csN_mono F q0 q f m) (Nat.le_add_right _ _)
theorem csN_eq {F : FS} {q0 t q : Nat → Nat} : ∀ f, EQf f t q → csN F q0 q f = csN F q0 t f
  | 0, _ => rfl
  | f + 1, h => by rw [csN, csN, csN_eq f (fun j hj => h j (by omega)), h f (by omega)]
theorem csN_b {F : FS} (hW : WFF F) {q0 q : Nat → Nat} : ∀ f, f ≤ 8 → (∀ j, j < f → q j ≤ 20 ∧ q0 j ≤ 20) → csN F q0 q f ≤ 1980 * f
  | 0, _, _ => Nat.le_refl _
  | f + 1, hf, h => by
    have ih := csN_b hW f (by omega) (fun j hj => h j (by omega))
    have h1 := h f (by omega)
    have h2 := hW.1 f (by omega)
    have h3 : ((q f - q0 f) + (q0 f - q f)) * F.2.2.2 f ≤ 20 * 99 := Nat.mul_le_mul (by omega) (by omega)
    rw [csN]; omega
/-- one who may come instead, LET -/
def cndS (F : FS) (LS : List (List Tk)) (P : List (List Tk × Nat)) (q0 q : Nat → Nat) : Prop := (∀ f, 8 ≤ f → q f = q0 f) ∧ (∀ f, f < 8 → F.1 f ≠ 3 → q f = q0 f) ∧ spS F q 8 ∧ lwS LS q LS.length ∧ (rnS q 0 P).1 = 1
def isM (C : (Nat → Nat) → Prop) (F : FS) (q0 : Nat → Nat) (V : (Nat → Nat) → Prop) (o : Option (Nat → Nat)) : Prop := (o = none → ∀ q, V q → ¬ C q) ∧ ∀ z, o = some z → V z ∧ C z ∧ ∀ q, V q → C q → csN F q0 z 8 < csN F q0 q 8 ∨ (csN F q0 z 8 = csN F q0 q 8 ∧ ¬ LTf 8 z q)
theorem isM_c {C : (Nat → Nat) → Prop} {F : FS} {q0 : Nat → Nat} {V V' : (Nat → Nat) → Prop} {o : Option (Nat → Nat)} (h : isM C F q0 V o) (e : ∀ q, C q → (V q ↔ V' q)) : isM C F q0 V' o := by
  refine ⟨fun ho q hv hc => h.1 ho q ((e q hc).mpr hv) hc, fun z hz => ?_⟩
  obtain ⟨a, b, c⟩ := h.2 z hz
  exact ⟨(e z b).mp a, b, fun q hv hc => c q ((e q hc).mpr hv) hc⟩
theorem isM_un {C : (Nat → Nat) → Prop} {F : FS} {q0 : Nat → Nat} {V V' : (Nat → Nat) → Prop} {o o' : Option (Nat → Nat)} (h : isM C F q0 V o) (h' : isM C F q0 V' o') (a : ∀ q, C q → V q) (a' : ∀ q, C q → V' q) (hC : ∀ q r, C q → C r → EQf 8 q r → q = r) : o = o' := by
  cases o with
  | none =>
    cases o' with
    | none => rfl
    | some z =>
      obtain ⟨-, b, -⟩ := h'.2 z rfl
      exact absurd b (h.1 rfl _ (a _ b))
  | some z =>
    obtain ⟨-, b, c⟩ := h.2 z rfl
    cases o' with
    | none => exact absurd b (h'.1 rfl _ (a' _ b))
    | some z' =>
      obtain ⟨-, b', c'⟩ := h'.2 z' rfl
      have e1 := c z' (a _ b') b'
      have e2 := c' z (a' _ b) b
      have h1 : ¬ LTf 8 z z' := by
        rcases e1 with e1 | e1
        · rcases e2 with e2 | e2 <;> omega
        · exact e1.2
      have h2 : ¬ LTf 8 z' z := by
        rcases e2 with e2 | e2
        · rcases e1 with e1 | e1 <;> omega
        · exact e2.2
      rw [hC z z' b b' (LT_tri 8 h1 h2)]
theorem cnd_un {F : FS} {LS : List (List Tk)} {P : List (List Tk × Nat)} {q0 q r : Nat → Nat} (hq : cndS F LS P q0 q) (hr : cndS F LS P q0 r) (h : EQf 8 q r) : q = r := funext (fun f => by
  by_cases hf : f < 8
  · exact (h f hf).symm
  · rw [hq.1 f (by omega), hr.1 f (by omega)])
/-- a prefix that costs as much as the best already: nothing behind it is better -/
theorem isM_cut {C : (Nat → Nat) → Prop} {F : FS} {q0 t z : Nat → Nat} {f : Nat} (hf : f ≤ 8) (h : isM C F q0 (LTf f t) (some z)) (hc : csN F q0 z 8 ≤ csN F q0 t f) : isM C F q0 (fun q => LTf f t q ∨ EQf f t q) (some z) := by
  obtain ⟨a, b, c⟩ := h.2 z rfl
  refine ⟨(fun y => by cases y), fun y hy => ?_⟩
  cases hy
  refine ⟨Or.inl a, b, fun q hv hq => ?_⟩
  rcases hv with hv | hv
  · exact c q hv hq
  · have h1 := csN_eq (F := F) (q0 := q0) f hv
    have h2 := csN_mono F q0 q f (8 - f)
    rw [show f + (8 - f) = 8 by omega] at h2
    have h3 : ¬ LTf 8 z q := fun y => LT_as y (LT_EQ hf a hv)
    by_cases h4 : csN F q0 z 8 < csN F q0 q 8
    · exact Or.inl h4
    · exact Or.inr ⟨by omega, h3⟩
/-- at the end of a path -/
theorem isM_leaf {C : (Nat → Nat) → Prop} {F : FS} {q0 t : Nat → Nat} {o : Option (Nat → Nat)} (hCu : ∀ q, C q → EQf 8 t q → C t) (h : isM C F q0 (LTf 8 t) o) (hlt : ∀ z, o = some z → csN F q0 t 8 < csN F q0 z 8) : (C t → isM C F q0 (fun q => LTf 8 t q ∨ EQf 8 t q) (some t)) ∧ (¬ C t → isM C F q0 (fun q => LTf 8 t q ∨ EQf 8 t q) o) := by
  refine ⟨fun ht => ⟨(fun y => by cases y), fun y hy => ?_⟩, fun ht => ⟨fun ho q hv hq => ?_, fun z hz => ?_⟩⟩
  · cases hy
    refine ⟨Or.inr (fun j _ => rfl), ht, fun q hv hq => ?_⟩
    rcases hv with hv | hv
    · cases o with
      | none => exact absurd hq (h.1 rfl q hv)
      | some z =>
        obtain ⟨-, -, c⟩ := h.2 z rfl
        have h1 := c q hv hq
        have h2 := hlt z rfl
        omega
    · have h1 := csN_eq (F := F) (q0 := q0) 8 hv
      refine Or.inr ⟨h1.symm, fun ⟨k, hk, _, l⟩ => ?_⟩
      have := hv k hk
      omega
  · rcases hv with hv | hv
    · exact h.1 ho q hv hq
    · exact ht (hCu q hq hv)
  · obtain ⟨a, b, c⟩ := h.2 z hz
    refine ⟨Or.inl a, b, fun q hv hq => ?_⟩
    rcases hv with hv | hv
    · exact c q hv hq
    · exact absurd (hCu q hq hv) ht
/-- t with its number f made v -/
def stF (t : Nat → Nat) (f v : Nat) : Nat → Nat := fun g => if g = f then v else t g
theorem stF_y {t : Nat → Nat} {f v : Nat} : stF t f v f = v := if_pos rfl
theorem stF_n {t : Nat → Nat} {f v g : Nat} (h : g ≠ f) : stF t f v g = t g := if_neg h
theorem LT_st {t q : Nat → Nat} {f v : Nat} : LTf (f + 1) (stF t f v) q ↔ LTf f t q ∨ (EQf f t q ∧ q f < v) := by
  constructor
  · rintro ⟨k, hk, e, l⟩
    by_cases hkf : k = f
    · subst hkf
      rw [stF_y] at l
      exact Or.inr ⟨fun j hj => by rw [e j hj, stF_n (by omega)], l⟩
    · rw [stF_n hkf] at l
      exact Or.inl ⟨k, by omega, fun j hj => by rw [e j hj, stF_n (by omega)], l⟩
  · rintro (⟨k, hk, e, l⟩ | ⟨e, l⟩)
    · exact ⟨k, by omega, fun j hj => by rw [e j hj, stF_n (by omega)], by rw [stF_n (by omega)]; exact l⟩
    · exact ⟨f, by omega, fun j hj => by rw [e j hj, stF_n (by omega)], by rw [stF_y]; exact l⟩
theorem EQ_st {t q : Nat → Nat} {f v : Nat} : EQf (f + 1) (stF t f v) q ↔ EQf f t q ∧ q f = v := by
  constructor
  · intro h
    have hf := h f (by omega)
    rw [stF_y] at hf
    exact ⟨fun j hj => by rw [h j (by omega), stF_n (by omega)], hf⟩
  · rintro ⟨h1, h2⟩ j hj
    by_cases e : j = f
    · subst e; rw [stF_y]; exact h2
    · rw [stF_n e]; exact h1 j (by omega)
theorem LT_stn {t q : Nat → Nat} {f v : Nat} : (LTf (f + 1) (stF t f v) q ∨ EQf (f + 1) (stF t f v) q) ↔ LTf (f + 1) (stF t f (v + 1)) q := by
  rw [LT_st, EQ_st, LT_st]
  constructor
  · rintro ((h | ⟨h1, h2⟩) | ⟨h1, h2⟩)
    · exact Or.inl h
    · exact Or.inr ⟨h1, by omega⟩
    · exact Or.inr ⟨h1, by omega⟩
  · rintro (h | ⟨h1, h2⟩)
    · exact Or.inl (Or.inl h)
    · by_cases e : q f = v
      · exact Or.inr ⟨h1, e⟩
      · exact Or.inl (Or.inr ⟨h1, by omega⟩)
/-- RUN and the laws look at eight numbers only -/
theorem evs_cg {a b : Nat → Nat} (h : EQf 8 a b) (z : Ev) (t : Tk) : evs b z t = evs a z t := by
  unfold evs
  by_cases h8 : t.1 < 8
  · rw [h _ h8]
  · simp only [h8, if_false]
theorem evl_cg {a b : Nat → Nat} (h : EQf 8 a b) : ∀ (l : List Tk) (z : Ev), evl b z l = evl a z l
  | [], _ => rfl
  | t :: l, z => by rw [evl, evl, evs_cg h, evl_cg h l]
theorem hld_cg {a b : Nat → Nat} (h : EQf 8 a b) (l : List Tk) : hldS b l = hldS a l := by unfold hldS; rw [evl_cg h]
