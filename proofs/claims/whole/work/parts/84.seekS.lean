abbrev Bo : Type := Nat → Nat → Int × Int
def wd (bo : Bo) (n : Nat) : Int := (bo (n % 2) (n / 2)).2 - (bo (n % 2) (n / 2)).1
/-- the first widest of n spans (16: none) and its width -/
def wbS (bo : Bo) : Nat → Nat × Int
  | 0 => (16, 0)
  | n + 1 => if (wbS bo n).2 < wd bo n then (n, wd bo n) else wbS bo n
/-- the spans that a cut at n speaks of -/
def cuQ (sh : Nat → Prop) (n s f : Nat) : Prop := f = n / 2 ∧ (s = n % 2 ∨ (sh f ∧ s = 1))
noncomputable def psB (sh : Nat → Prop) (bo : Bo) (n e : Nat) (v : Int) : Bo := fun s f => @ite _ (cuQ sh n s f) (Classical.propDecidable _) (if e = 0 then (v, (bo s f).2) else ((bo s f).1, v)) (bo s f)
theorem psB_y {sh : Nat → Prop} {bo : Bo} {n e s f : Nat} {v : Int} (h : cuQ sh n s f) : psB sh bo n e v s f = if e = 0 then (v, (bo s f).2) else ((bo s f).1, v) := by unfold psB; exact @if_pos _ (Classical.propDecidable _) h _ _ _
theorem psB_n {sh : Nat → Prop} {bo : Bo} {n e s f : Nat} {v : Int} (h : ¬ cuQ sh n s f) : psB sh bo n e v s f = bo s f := by unfold psB; exact @if_neg _ (Classical.propDecidable _) h _ _ _
def miB (bo : Bo) (n : Nat) : Int := ((bo (n % 2) (n / 2)).1 + (bo (n % 2) (n / 2)).2) / 2
def bOK (sh : Nat → Prop) (bo : Bo) : Prop := (∀ s, s ≤ 1 → ∀ f, f < 8 → 0 ≤ (bo s f).1 ∧ (bo s f).1 ≤ (bo s f).2 ∧ (bo s f).2 ≤ 20) ∧ ∀ f, f < 8 → sh f → bo 0 f = bo 1 f
theorem wbS_ok {sh : Nat → Prop} {bo : Bo} (h : bOK sh bo) : ∀ n, n ≤ 16 → (((wbS bo n).1 = 16 ∧ (wbS bo n).2 = 0) ∨ ((wbS bo n).1 < n ∧ (wbS bo n).2 = wd bo (wbS bo n).1 ∧ 0 < (wbS bo n).2 ∧ ((wbS bo n).1 % 2 = 1 → ¬ sh ((wbS bo n).1 / 2)))) ∧ ∀ i, i < n → wd bo i ≤ (wbS bo n).2
  | 0, _ => ⟨Or.inl ⟨rfl, rfl⟩, fun i hi => by omega⟩
  | n + 1, hn => by
    obtain ⟨h1, h2⟩ := wbS_ok h n (by omega)
    have h0 : 0 ≤ (wbS bo n).2 := by rcases h1 with h1 | h1 <;> omega
    have e : wbS bo (n + 1) = if (wbS bo n).2 < wd bo n then (n, wd bo n) else wbS bo n := rfl
    rw [e]
    by_cases g : (wbS bo n).2 < wd bo n
    · rw [if_pos g]
      refine ⟨Or.inr ⟨by dsimp only; omega, rfl, by dsimp only; omega, fun ho hs => ?_⟩, fun i hi => ?_⟩
      · dsimp only at ho hs
        have hp := h2 (n - 1) (by omega)
        have : wd bo n = wd bo (n - 1) := by
          unfold wd
          rw [show (n - 1) % 2 = 0 by omega, show (n - 1) / 2 = n / 2 by omega, show n % 2 = 1 by omega, h.2 (n / 2) (by omega) hs]
        omega
      · dsimp only
        by_cases hi' : i = n
        · subst hi'; omega
        · have := h2 i (by omega); omega
    · rw [if_neg g]
      refine ⟨?_, fun i hi => ?_⟩
      · rcases h1 with h1 | ⟨a, b⟩
        · exact Or.inl h1
        · exact Or.inr ⟨by omega, b⟩
      · by_cases hi' : i = n
        · subst hi'; omega
        · exact h2 i (by omega)
/-- what a cut gives: 0 the upper, 1 the lower -/
noncomputable def ctB (sh : Nat → Prop) (bo : Bo) (n e : Nat) : Bo := psB sh bo n e (if e = 0 then miB bo n + 1 else miB bo n)
theorem cu_eq {sh : Nat → Prop} {bo : Bo} {n s f : Nat} (h : bOK sh bo) (hn : n < 16) (_ho : n % 2 = 1 → ¬ sh (n / 2)) (hc : cuQ sh n s f) : bo s f = bo (n % 2) (n / 2) := by
  obtain ⟨rfl, h2⟩ := hc
  rcases h2 with rfl | ⟨h3, rfl⟩
  · rfl
  · by_cases g : n % 2 = 1
    · rw [g]
    · rw [show n % 2 = 0 by omega]; exact (h.2 _ (by omega) h3).symm
theorem ct_ok {sh : Nat → Prop} {bo : Bo} {n e : Nat} (h : bOK sh bo) (hn : n < 16) (hw : 0 < wd bo n) (ho : n % 2 = 1 → ¬ sh (n / 2)) : bOK sh (ctB sh bo n e) := by
  have hb := h.1 (n % 2) (by omega) (n / 2) (by omega)
  unfold wd at hw
  have hm : (bo (n % 2) (n / 2)).1 ≤ miB bo n ∧ miB bo n < (bo (n % 2) (n / 2)).2 := by unfold miB; omega
  refine ⟨fun s hs f hf => ?_, fun f hf hsf => ?_⟩
  · rcases Classical.em (cuQ sh n s f) with g | g
    · unfold ctB
      rw [psB_y g, cu_eq h hn ho g]
      by_cases he : e = 0
      · rw [if_pos he, if_pos he]; dsimp only; omega
      · rw [if_neg he, if_neg he]; dsimp only; omega
    · unfold ctB
      rw [psB_n g]
      exact h.1 s hs f hf
  · rcases Classical.em (f = n / 2) with g | g
    · subst g
      have h1 : cuQ sh n 1 (n / 2) := ⟨rfl, Or.inr ⟨hsf, rfl⟩⟩
      have h0 : cuQ sh n 0 (n / 2) := ⟨rfl, Or.inl (by
        by_cases z : n % 2 = 1
        · exact absurd hsf (ho z)
        · omega)⟩
      unfold ctB
      rw [psB_y h1, psB_y h0, h.2 _ hf hsf]
    · have h1 : ¬ cuQ sh n 1 f := fun z => g z.1
      have h0 : ¬ cuQ sh n 0 f := fun z => g z.1
      unfold ctB
      rw [psB_n h1, psB_n h0]
      exact h.2 f hf hsf
def lgW (w : Nat) : Nat := if w = 0 then 0 else if w < 2 then 1 else if w < 4 then 2 else if w < 8 then 3 else if w < 16 then 4 else 5
def smW (bo : Bo) : Nat → Nat
  | 0 => 0
  | n + 1 => smW bo n + lgW (wd bo n).toNat
theorem lgW_le (w : Nat) : lgW w ≤ 5 := by unfold lgW; (repeat' split) <;> omega
theorem lgW_h {a b : Nat} (h : a ≤ b / 2) (h0 : 0 < b) (hb : b ≤ 20) : lgW a + 1 ≤ lgW b := by unfold lgW; (repeat' split) <;> omega
theorem smW_le (bo : Bo) : ∀ n, smW bo n ≤ 5 * n
  | 0 => Nat.le_refl _
  | n + 1 => by have := smW_le bo n; have := lgW_le (wd bo n).toNat; unfold smW; omega
theorem smW_lt {bo b' : Bo} {k : Nat} (hle : ∀ i, i < 16 → lgW (wd b' i).toNat ≤ lgW (wd bo i).toNat) (hk : lgW (wd b' k).toNat + 1 ≤ lgW (wd bo k).toNat) : ∀ n, n ≤ 16 → smW b' n ≤ smW bo n ∧ (k < n → smW b' n + 1 ≤ smW bo n)
  | 0, _ => ⟨Nat.le_refl _, fun h => by omega⟩
  | n + 1, hn => by
    obtain ⟨h1, h2⟩ := smW_lt hle hk n (by omega)
    have h3 := hle n (by omega)
    unfold smW
    refine ⟨by omega, fun h => ?_⟩
    by_cases e : k = n
    · subst e; omega
    · have := h2 (by omega); omega
theorem ct_sm {sh : Nat → Prop} {bo : Bo} {n e : Nat} (h : bOK sh bo) (hn : n < 16) (hw : 0 < wd bo n) (ho : n % 2 = 1 → ¬ sh (n / 2)) : smW (ctB sh bo n e) 16 + 1 ≤ smW bo 16 := by
  have hb := h.1 (n % 2) (by omega) (n / 2) (by omega)
  have hw' := hw
  unfold wd at hw'
  have key : ∀ i, i < 16 → cuQ sh n (i % 2) (i / 2) → lgW (wd (ctB sh bo n e) i).toNat + 1 ≤ lgW (wd bo i).toNat := fun i hi g => by
    have e1 := cu_eq h hn ho g
    have e2 : wd (ctB sh bo n e) i = (if e = 0 then (bo (n % 2) (n / 2)).2 - (miB bo n + 1) else miB bo n - (bo (n % 2) (n / 2)).1) := by
      unfold wd ctB
      rw [psB_y g, e1]
      by_cases he : e = 0
      · rw [if_pos he, if_pos he, if_pos he]
      · rw [if_neg he, if_neg he, if_neg he]
    have e3 : wd bo i = (bo (n % 2) (n / 2)).2 - (bo (n % 2) (n / 2)).1 := by unfold wd; rw [e1]
    refine lgW_h ?_ (by omega) (by omega)
    rw [e2, e3]
    unfold miB
    by_cases he : e = 0
    · rw [if_pos he]; omega
    · rw [if_neg he]; omega
  refine (smW_lt (k := n) (fun i hi => ?_) (key n hn ⟨rfl, Or.inl rfl⟩) 16 (by omega)).2 hn
  rcases Classical.em (cuQ sh n (i % 2) (i / 2)) with g | g
  · have := key i hi g; omega
  · unfold wd ctB
    rw [psB_n g]; exact Nat.le_refl _
/-- a pile of boxes, the top first -/
def pOK (sh : Nat → Prop) : List Bo → Prop
  | [] => True
  | b :: p => bOK sh b ∧ smW b 16 + p.length ≤ 80 ∧ pOK sh p
theorem pOK_len {sh : Nat → Prop} {p : List Bo} (h : pOK sh p) : p.length ≤ 81 := by
  cases p with
  | nil => simp
  | cons b p => have := h.2.1; simp only [List.length_cons]; omega
theorem pOK_ct {sh : Nat → Prop} {b : Bo} {p : List Bo} (h : pOK sh (b :: p)) (hn : (wbS b 16).1 ≠ 16) : pOK sh (ctB sh b (wbS b 16).1 1 :: ctB sh b (wbS b 16).1 0 :: p) ∧ p.length + 2 ≤ 81 := by
  obtain ⟨h1, h2, h3⟩ := h
  obtain ⟨k1, -⟩ := wbS_ok h1 16 (by omega)
  rcases k1 with k1 | ⟨k1, k2, k3, k4⟩
  · exact absurd k1.1 hn
  · rw [k2] at k3
    have a0 := ct_sm (e := 0) h1 k1 k3 k4
    have a1 := ct_sm (e := 1) h1 k1 k3 k4
    refine ⟨⟨ct_ok h1 k1 k3 k4, ?_, ct_ok h1 k1 k3 k4, by omega, h3⟩, by omega⟩
    simp only [List.length_cons]; omega
abbrev Tl : Type := Nat × Nat × Nat
/-- SOUGHT: result, what was counted, the box that shows a pair -/
noncomputable def skS (sh : Nat → Prop) (don : Bo → Prop) : Nat → List Bo → Tl → Int32 × Tl × Option Bo
  | 0, p, c => (match p with | [] => 1 | _ :: _ => -2, c, none)
  | k + 1, p, c => match p with
    | [] => (1, c, none)
    | b :: q => @ite _ (don b) (Classical.propDecidable _) (skS sh don k q (c.1 + 1, c.2.1, c.2.2 + 1)) (if (wbS b 16).1 = 16 then (0, (c.1 + 1, c.2.1, c.2.2), some b) else skS sh don k (ctB sh b (wbS b 16).1 1 :: ctB sh b (wbS b 16).1 0 :: q) (c.1 + 1, c.2.1 + 1, c.2.2))
theorem skS_d {sh : Nat → Prop} {don : Bo → Prop} {k : Nat} {b : Bo} {q : List Bo} {c : Tl} (h : don b) : skS sh don (k + 1) (b :: q) c = skS sh don k q (c.1 + 1, c.2.1, c.2.2 + 1) := by
  rw [skS]; exact @if_pos _ (Classical.propDecidable _) h _ _ _
theorem skS_n {sh : Nat → Prop} {don : Bo → Prop} {k : Nat} {b : Bo} {q : List Bo} {c : Tl} (h : ¬ don b) : skS sh don (k + 1) (b :: q) c = (if (wbS b 16).1 = 16 then (0, (c.1 + 1, c.2.1, c.2.2), some b) else skS sh don k (ctB sh b (wbS b 16).1 1 :: ctB sh b (wbS b 16).1 0 :: q) (c.1 + 1, c.2.1 + 1, c.2.2)) := by
  rw [skS]; exact @if_neg _ (Classical.propDecidable _) h _ _ _
/-- what must be like in both -/
def shS (F : Nat → Nat) (mo : Int32) (f : Nat) : Prop := (mo = -1 ∧ (F f ≠ 1 ∧ F f ≠ 2)) ∨ (mo ≠ -1 ∧ mo ≠ nI f)
/-- all who could come, twice -/
def stB (lo hi : Nat → Nat) : Bo := fun _ f => ((lo f : Int), (hi f : Int))
theorem st_ok {sh : Nat → Prop} {lo hi : Nat → Nat} (h : ∀ f, f < 8 → lo f ≤ hi f ∧ hi f ≤ 20) : pOK sh [stB lo hi] := by
  refine ⟨⟨fun s _ f hf => ?_, fun f _ _ => rfl⟩, ?_, trivial⟩
  · have := h f hf; unfold stB; dsimp only; omega
  · have := smW_le (stB lo hi) 16; simp only [List.length_nil]; omega
