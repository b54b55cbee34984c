def hitX (ev : Nat → Nat → Prop) (was : Nat → Nat) (n i x : Nat) : Prop := i < n ∧ x ≤ 99 ∧ x ≠ was i ∧ ev i x
def farX (was : Nat → Nat) (i x : Nat) : Nat := (was i - x) + (x - was i)
def isB (ev : Nat → Nat → Prop) (was : Nat → Nat) (n : Nat) (V : Nat → Nat → Prop) (o : Option T3) : Prop := (o = none → ∀ i x, V i x → ¬ hitX ev was n i x) ∧ ∀ z, o = some z → V z.1 z.2.1 ∧ hitX ev was n z.1 z.2.1 ∧ z.2.2 = farX was z.1 z.2.1 ∧ ∀ i x, V i x → hitX ev was n i x → farX was z.1 z.2.1 < farX was i x ∨ (farX was z.1 z.2.1 = farX was i x ∧ (z.1 < i ∨ (z.1 = i ∧ z.2.1 ≤ x)))
theorem isB_c {ev : Nat → Nat → Prop} {was : Nat → Nat} {n : Nat} {V V' : Nat → Nat → Prop} {o : Option T3} (h : isB ev was n V o) (e : ∀ i x, hitX ev was n i x → (V i x ↔ V' i x)) : isB ev was n V' o := by
  refine ⟨fun ho i x hv hh => h.1 ho i x ((e i x hh).mpr hv) hh, fun z hz => ?_⟩
  obtain ⟨a, b, c, d⟩ := h.2 z hz
  exact ⟨(e _ _ b).mp a, b, c, fun i x hv hh => d i x ((e i x hh).mpr hv) hh⟩
theorem isB_un {ev : Nat → Nat → Prop} {was : Nat → Nat} {n : Nat} {V V' : Nat → Nat → Prop} {o o' : Option T3} (h : isB ev was n V o) (h' : isB ev was n V' o') (a : ∀ i x, hitX ev was n i x → V i x) (a' : ∀ i x, hitX ev was n i x → V' i x) : o = o' := by
  cases o with
  | none =>
    cases o' with
    | none => rfl
    | some z =>
      obtain ⟨-, b, -⟩ := h'.2 z rfl
      exact absurd b (h.1 rfl _ _ (a _ _ b))
  | some z =>
    obtain ⟨-, b, c, d⟩ := h.2 z rfl
    cases o' with
    | none => exact absurd b (h'.1 rfl _ _ (a' _ _ b))
    | some z' =>
      obtain ⟨-, b', c', d'⟩ := h'.2 z' rfl
      have e1 := d _ _ (a _ _ b') b'
      have e2 := d' _ _ (a' _ _ b) b
      obtain ⟨z1, z2, z3⟩ := z
      obtain ⟨y1, y2, y3⟩ := z'
      dsimp only at *
      have q1 : z1 = y1 := by omega
      have q2 : z2 = y2 := by omega
      subst q1 q2
      rw [c, c']
noncomputable def rfS (ev : Nat → Nat → Prop) (was : Nat → Nat) (i x : Nat) (o : Option T3) : Option T3 := @ite _ (0 < farX was i x ∧ (∀ z, o = some z → farX was i x < z.2.2) ∧ ev i x) (Classical.propDecidable _) (some (i, x, farX was i x)) o
theorem rfS_y {ev : Nat → Nat → Prop} {was : Nat → Nat} {i x : Nat} {o : Option T3} (h : 0 < farX was i x ∧ (∀ z, o = some z → farX was i x < z.2.2) ∧ ev i x) : rfS ev was i x o = some (i, x, farX was i x) := @if_pos _ (Classical.propDecidable _) h _ _ _
theorem rfS_n {ev : Nat → Nat → Prop} {was : Nat → Nat} {i x : Nat} {o : Option T3} (h : ¬ (0 < farX was i x ∧ (∀ z, o = some z → farX was i x < z.2.2) ∧ ev i x)) : rfS ev was i x o = o := @if_neg _ (Classical.propDecidable _) h _ _ _
noncomputable def rfI (ev : Nat → Nat → Prop) (was : Nat → Nat) (i : Nat) (o : Option T3) : Option T3 := itN (fun x o => rfS ev was i x o) 100 o
noncomputable def rfM (ev : Nat → Nat → Prop) (was : Nat → Nat) (n : Nat) : Option T3 := itN (fun i o => rfI ev was i o) n none
theorem isB_rf {ev : Nat → Nat → Prop} {was : Nat → Nat} {n i x : Nat} {V : Nat → Nat → Prop} {o : Option T3} (h : isB ev was n V o) (hV : ∀ a b, V a b → hitX ev was n a b → a < i ∨ (a = i ∧ b < x)) (hi : i < n) (hx : x ≤ 99) : isB ev was n (fun a b => V a b ∨ (a = i ∧ b = x)) (rfS ev was i x o) := by
  rcases Classical.em (0 < farX was i x ∧ (∀ z, o = some z → farX was i x < z.2.2) ∧ ev i x) with hc | hc
  · rw [rfS_y hc]
    have hh : hitX ev was n i x := ⟨hi, hx, fun e => by unfold farX at hc; omega, hc.2.2⟩
    refine ⟨(fun z => by cases z), fun z hz => ?_⟩
    cases hz
    refine ⟨Or.inr ⟨rfl, rfl⟩, hh, rfl, fun a b hv hab => ?_⟩
    dsimp only
    rcases hv with hv | ⟨rfl, rfl⟩
    · cases o with
      | none => exact absurd hab (h.1 rfl a b hv)
      | some z =>
        obtain ⟨-, -, c, d⟩ := h.2 z rfl
        have h1 := d a b hv hab
        have h2 := hc.2.1 z rfl
        omega
    · exact Or.inr ⟨rfl, Or.inr ⟨rfl, Nat.le_refl _⟩⟩
  · rw [rfS_n hc]
    refine ⟨fun ho a b hv hab => ?_, fun z hz => ?_⟩
    · rcases hv with hv | ⟨rfl, rfl⟩
      · exact h.1 ho a b hv hab
      · refine hc ⟨?_, (fun z hz => by rw [ho] at hz; cases hz), hab.2.2.2⟩
        have := hab.2.2.1
        unfold farX; omega
    · obtain ⟨k1, k2, k3, k4⟩ := h.2 z hz
      refine ⟨Or.inl k1, k2, k3, fun a b hv hab => ?_⟩
      rcases hv with hv | ⟨rfl, rfl⟩
      · exact k4 a b hv hab
      · have h1 := hV _ _ k1 k2
        have h2 : ¬ farX was a b < z.2.2 := fun hlt => hc ⟨(by have := hab.2.2.1; unfold farX; omega), (fun z' hz' => by rw [hz] at hz'; cases hz'; exact hlt), hab.2.2.2⟩
        omega
theorem rfM_B {ev : Nat → Nat → Prop} {was : Nat → Nat} {n : Nat} : isB ev was n (fun a _ => a < n) (rfM ev was n) := by
  have inner : ∀ i, i < n → ∀ o, isB ev was n (fun a _ => a < i) o → ∀ x, x ≤ 100 → isB ev was n (fun a b => a < i ∨ (a = i ∧ b < x)) (itN (fun x o => rfS ev was i x o) x o) := by
    intro i hi o ho x
    induction x with
    | zero =>
      intro _
      exact isB_c ho (fun a b _ => ⟨fun h => Or.inl h, fun h => h.elim id (fun z => absurd z.2 (Nat.not_lt_zero _))⟩)
    | succ x ih =>
      intro hx
      have h1 := ih (by omega)
      have h2 := isB_rf (i := i) (x := x) h1 (fun a b hv _ => hv) hi (by omega)
      exact isB_c h2 (fun a b _ => by omega)
  have outer : ∀ i, i ≤ n → isB ev was n (fun a _ => a < i) (itN (fun i o => rfI ev was i o) i none) := by
    intro i
    induction i with
    | zero => intro _; exact ⟨fun _ a b h => absurd h (Nat.not_lt_zero _), fun z hz => by cases hz⟩
    | succ i ih =>
      intro hi
      have h1 := inner i (by omega) _ (ih (by omega)) 100 (Nat.le_refl _)
      refine isB_c h1 (fun a b hab => ?_)
      have := hab.2.1
      omega
  exact outer n (Nat.le_refl _)
theorem isB_tr {ev : Nat → Nat → Prop} {was : Nat → Nat} {n i y : Nat} {tx : Int} {V : Nat → Nat → Prop} {o : Option T3} (h : isB ev was n V o) (hy : 1 ≤ y) (htx : tx = (was i : Int) - y ∨ tx = (was i : Int) + y) (hV : ∀ a b, V a b → hitX ev was n a b → farX was a b < y ∨ (farX was a b = y ∧ (a < i ∨ (a = i ∧ (b : Int) ≤ tx)))) (hi : i < n) : isB ev was n (fun a b => V a b ∨ (a = i ∧ (b : Int) = tx)) (trO ev o i tx y) := by
  have hf : ∀ b : Nat, (b : Int) = tx → farX was i b = y := fun b hb => by unfold farX; omega
  cases o with
  | some z =>
    obtain ⟨k1, k2, k3, k4⟩ := h.2 z rfl
    refine ⟨(fun z => by cases z), fun z' hz' => ?_⟩
    cases hz'
    refine ⟨Or.inl k1, k2, k3, fun a b hv hab => ?_⟩
    rcases hv with hv | ⟨rfl, hb⟩
    · exact k4 a b hv hab
    · have h1 := hV _ _ k1 k2
      have h2 := hf b hb
      omega
  | none =>
    rcases Classical.em (0 ≤ tx ∧ tx ≤ 99 ∧ ev i tx.toNat) with hc | hc
    · rw [trO_y hc]
      have ht : ((tx.toNat : Nat) : Int) = tx := by omega
      have hft := hf _ ht
      have hh : hitX ev was n i tx.toNat := ⟨hi, by omega, fun e => by unfold farX at hft; omega, hc.2.2⟩
      refine ⟨(fun z => by cases z), fun z' hz' => ?_⟩
      cases hz'
      refine ⟨Or.inr ⟨rfl, ht⟩, hh, hft.symm, fun a b hv hab => ?_⟩
      dsimp only
      rcases hv with hv | ⟨rfl, hb⟩
      · exact absurd hab (h.1 rfl a b hv)
      · have : tx.toNat = b := by omega
        rw [this]
        exact Or.inr ⟨rfl, Or.inr ⟨rfl, Nat.le_refl _⟩⟩
    · rw [trO_n hc]
      refine ⟨fun _ a b hv hab => ?_, fun z hz => by cases hz⟩
      rcases hv with hv | ⟨rfl, hb⟩
      · exact h.1 rfl a b hv hab
      · exact hc ⟨by omega, by have := hab.2.1; omega, by rw [show tx.toNat = b by omega]; exact hab.2.2.2⟩
theorem mdC_B {ev : Nat → Nat → Prop} {was : Nat → Nat} {n : Nat} : isB ev was n (fun a b => farX was a b ≤ 99) (mdC ev was n) := by
  have hpos : ∀ a b, hitX ev was n a b → 1 ≤ farX was a b := fun a b h => by have := h.2.2.1; unfold farX; omega
  have inner : ∀ k, ∀ o, isB ev was n (fun a b => farX was a b ≤ k) o → ∀ i, i ≤ n → isB ev was n (fun a b => farX was a b ≤ k ∨ (farX was a b = k + 1 ∧ a < i)) (itN (fun i o => mdI ev was (k + 1) i o) i o) := by
    intro k o ho i
    induction i with
    | zero =>
      intro _
      exact isB_c ho (fun a b _ => ⟨fun h => Or.inl h, fun h => h.elim id (fun z => absurd z.2 (Nat.not_lt_zero _))⟩)
    | succ i ih =>
      intro hi
      have h1 := ih (by omega)
      have h2 := isB_tr (i := i) (y := k + 1) (tx := (was i : Int) - (k + 1 : Nat)) h1 (by omega) (Or.inl rfl) (fun a b hv _ => by omega) (by omega)
      have h3 := isB_tr (i := i) (y := k + 1) (tx := (was i : Int) + (k + 1 : Nat)) h2 (by omega) (Or.inr rfl) (fun a b hv _ => by
        rcases hv with hv | ⟨rfl, hb⟩
        · omega
        · refine Or.inr ⟨by unfold farX; omega, Or.inr ⟨rfl, by omega⟩⟩) (by omega)
      refine isB_c h3 (fun a b _ => ?_)
      by_cases ha : a = i
      · subst ha
        unfold farX
        omega
      · omega
  have outer : ∀ k, isB ev was n (fun a b => farX was a b ≤ k) (itN (fun k o => mdY ev was n (k + 1) o) k none) := by
    intro k
    induction k with
    | zero =>
      refine ⟨fun _ a b h hab => ?_, fun z hz => by cases hz⟩
      have := hpos a b hab
      omega
    | succ k ih =>
      have h1 := inner k _ ih n (Nat.le_refl _)
      refine isB_c h1 (fun a b hab => ?_)
      have := hab.1
      omega
  exact outer 99
theorem md_eq {ev : Nat → Nat → Prop} {was : Nat → Nat} {n : Nat} (h99 : ∀ i, i < n → was i ≤ 99) : mdC ev was n = rfM ev was n := isB_un mdC_B rfM_B (fun i x h => by have := h99 i h.1; have := h.2.1; unfold farX; omega) (fun i x h => h.1)
