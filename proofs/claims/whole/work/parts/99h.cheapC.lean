/-- the best one so far -/
def CbR (A : FI) (F : FS) (q0 : Nat → Nat) (o : Option (Nat → Nat)) : Prop := (o = none → A 28 0 2 = -1) ∧ ∀ z, o = some z → A 28 0 2 = nI (csN F q0 z 8) ∧ ∀ f, f < 8 → A 25 25 f = nI (z f) ∧ z f ≤ 20
def FmQC (f : Nat) (A A' : FI) : Prop := (∀ g, g ≠ 10 → g ≠ 25 → g ≠ 28 → A' g = A g) ∧ (∀ i, i ≠ 24 → i ≠ 25 → A' 25 i = A 25 i) ∧ ∀ g, g < f → A' 25 24 g = A 25 24 g
theorem FmQC_rf {f : Nat} {A : FI} : FmQC f A A := ⟨fun _ _ _ _ => rfl, fun _ _ _ => rfl, fun _ _ => rfl⟩
theorem FmQC_tr {f : Nat} {A A1 A2 : FI} (a : FmQC f A A1) (b : FmQC f A1 A2) : FmQC f A A2 := ⟨fun g h1 h2 h3 => (b.1 g h1 h2 h3).trans (a.1 g h1 h2 h3), fun i h1 h2 => (b.2.1 i h1 h2).trans (a.2.1 i h1 h2), fun g hg => (b.2.2 g hg).trans (a.2.2 g hg)⟩
theorem FmQC_s {f : Nat} {A A' : FI} (a : FmQC (f + 1) A A') : FmQC f A A' := ⟨a.1, a.2.1, fun g hg => a.2.2 g (by omega)⟩
theorem FmQC_3 {f : Nat} {A A' : FI} (h : Fm3 A A') : FmQC f A A' := ⟨fun g h1 _ _ => FmO_Fm h h1, fun i _ _ => by rw [FmO_Fm h (by decide)], fun g _ => by rw [FmO_Fm h (by decide)]⟩
def PrQ (A : FI) (F : FS) (LS : List (List Tk)) (P : List (List Tk × Nat)) (q0 : Nat → Nat) : Prop := RCF A F ∧ RCL A LS ∧ RS 6 A P [] ∧ ∀ f, f < 8 → A 25 26 f = nI (q0 f) ∧ q0 f ≤ 20
theorem PrQ_fr {f : Nat} {A A' : FI} {F : FS} {LS : List (List Tk)} {P : List (List Tk × Nat)} {q0 : Nat → Nat} (h : PrQ A F LS P q0) (hF : FmQC f A A') : PrQ A' F LS P q0 := by
  obtain ⟨a, b, c, d⟩ := h
  refine ⟨fun g hg => by rw [hF.1 2 (by decide) (by decide) (by decide)]; exact a g hg, ⟨by rw [hF.1 1 (by decide) (by decide) (by decide)]; exact b.1, fun j hj => RS_fr (b.2 j hj) (by rw [hF.1 4 (by decide) (by decide) (by decide)]) (by rw [hF.1 5 (by decide) (by decide) (by decide)]) (by rw [hF.1 6 (by decide) (by decide) (by decide)])⟩, RS_fr c (by rw [hF.1 4 (by decide) (by decide) (by decide)]) (by rw [hF.1 5 (by decide) (by decide) (by decide)]) (by rw [hF.1 6 (by decide) (by decide) (by decide)]), fun g hg => by rw [hF.2.1 26 (by decide) (by decide)]; exact d g hg⟩
theorem RPn_20 {p : Nat} {A : FI} {q : Nat → Nat} (h : ∀ f, f < 8 → A 25 p f = nI (q f) ∧ q f ≤ 20) : RPn p A q := fun f hf => ⟨by rw [if_neg (by have := (h f hf).2; omega)]; exact (h f hf).1, Or.inl (h f hf).2⟩
/-- the way down to f -/
def ptS (F : FS) (q0 t : Nat → Nat) (f : Nat) : Prop := (∀ g, 8 ≤ g → t g = q0 g) ∧ ∀ g, g < f → (F.1 g ≠ 3 → t g = q0 g) ∧ F.2.1 g ≤ t g ∧ t g ≤ F.2.2.1 g
def GTo (A : FI) (B : FJ) (F : FS) (LS : List (List Tk)) (P : List (List Tk × Nat)) (q0 t : Nat → Nat) (f : Nat) : Option AV → AH → Prop := fun r h' => ∃ A' B' o', r = none ∧ h' = hp A' B' ∧ FmQC f A A' ∧ FmJ [11] B B' ∧ CbR A' F q0 o' ∧ isM (cndS F LS P q0) F q0 (fun q => LTf f t q ∨ EQf f t q) o'
abbrev gtL (f c : Nat) (o7 o8 o9 o10 o11 : Option AV) : List (Option AV) := [some (.inr (.inr (some (28, 0)))), some (.inr (.inr (some (1, 0)))), some (.inr (.inr (some (4, 6)))), some (.inr (.inr (some (10, 0)))), some (.inr (.inr (some (24, 26)))), some (.inl (nI f)), some (.inl (nI c)), o7, o8, o9, o10, o11]
theorem ab_nI {x y : Nat} (hx : x < 2 ^ 20) (hy : y < 2 ^ 20) : (if 0 ≤ nI x - nI y then nI x - nI y else 0 - (nI x - nI y)) = nI ((x - y) + (y - x)) := abs_nI (by omega) (by omega)
/-- what every depth does -/
def GTm (F : FS) (LS : List (List Tk)) (P : List (List Tk × Nat)) (q0 : Nat → Nat) (f n : Nat) : Prop := ∀ (A : FI) (B : FJ) (t : Nat → Nat) (o : Option (Nat → Nat)), PrQ A F LS P q0 → (∀ g, g < f → A 25 24 g = nI (t g) ∧ t g ≤ 20) → CbR A F q0 o → isM (cndS F LS P q0) F q0 (LTf f t) o → ptS F q0 t f → MV (4 + n) 6 mtX2_goThrough [.inr (.inr (some (28, 0))), .inr (.inr (some (1, 0))), .inr (.inr (some (4, 6))), .inr (.inr (some (10, 0))), .inr (.inr (some (24, 26))), .inl (nI f), .inl (nI (csN F q0 t f))] (hp A B) (GTo A B F LS P q0 t f)
theorem gt_head {F : FS} {LS : List (List Tk)} {P : List (List Tk × Nat)} {q0 : Nat → Nat} (hW : WFF F) {f n : Nat} (hf : f ≤ 8) {A : FI} {B : FJ} {t : Nat → Nat} {o : Option (Nat → Nat)} (hpq : PrQ A F LS P q0) (htr : ∀ g, g < f → A 25 24 g = nI (t g) ∧ t g ≤ 20) (hC : CbR A F q0 o) (hM : isM (cndS F LS P q0) F q0 (LTf f t) o) (k : (∀ z, o = some z → csN F q0 t f < csN F q0 z 8) → Rn (4 + n) mtX2_goThrough 18 (gtL f (csN F q0 t f) none none none none none) [] (hp A B) (GTo A B F LS P q0 t f)) : Rn (4 + n) mtX2_goThrough 0 (gtL f (csN F q0 t f) none none none none none) [] (hp A B) (GTo A B F LS P q0 t f) := by
  have hb1 := csN_b hW (q0 := q0) (q := t) f hf (fun j hj => ⟨(htr j hj).2, (hpq.2.2.2 j (by omega)).2⟩)
  have tc := ti (csN F q0 t f) (by omega)
  refine R_go 9999 rfl rfl trivial ?_
  try dsimp only [fgt, fpt]
  cases o with
  | none =>
    rw [hC.1 rfl]
    exact R_br rfl rfl (fun _ => k (fun z hz => by cases hz)) (fun h => absurd rfl h)
  | some z =>
    obtain ⟨e1, e2⟩ := hC.2 z rfl
    have hb2 := csN_b hW (q0 := q0) (q := z) 8 (Nat.le_refl _) (fun j hj => ⟨(e2 j hj).2, (hpq.2.2.2 j hj).2⟩)
    have tz := ti (csN F q0 z 8) (by omega)
    rw [e1]
    refine R_br rfl rfl (fun h => absurd h (nI_nn (by omega))) (fun _ => ?_)
    refine R_go 9999 rfl rfl trivial ?_
    try dsimp only [fgt, fpt]
    rw [e1]
    by_cases hlt : csN F q0 t f < csN F q0 z 8
    · exact R_br rfl rfl (fun _ => k (fun z' hz' => by cases hz'; exact hlt)) (fun h => absurd (by (simp only [i_eq, i_lt, i_le, Int32.reduceToInt, true_and, and_true, false_and, and_false, or_false, false_or, or_true, true_or, ne_eq] at *; first | done | omega)) h)
    · refine R_br rfl rfl (fun h => absurd h (by (simp only [i_eq, i_lt, i_le, Int32.reduceToInt, true_and, and_true, false_and, and_false, or_false, false_or, or_true, true_or, ne_eq] at *; first | done | omega))) (fun _ => ?_)
      refine R_rv rfl rfl ?_
      exact ⟨A, B, some z, rfl, rfl, FmQC_rf, FmJ_rf, hC, isM_cut hf hM (by omega)⟩
theorem gt_leaf {F : FS} {LS : List (List Tk)} {P : List (List Tk × Nat)} {q0 : Nat → Nat} (hW : WFF F) (hL : okL LS) (hP : okP P) : GTm F LS P q0 8 0 := by
  intro A B t o hpq htr hC hM hpt
  refine MV_of caX2_goThrough (L := gtL 8 (csN F q0 t 8) none none none none none) rfl rfl ?_
  refine gt_head (n := 0) hW (Nat.le_refl _) hpq htr hC hM (fun hlt => ?_)
  have hq : RPn 24 A t := RPn_20 htr
  have hcu : ∀ q, cndS F LS P q0 q → EQf 8 t q → cndS F LS P q0 t := fun q hq e => by
    have : q = t := funext (fun f => by
      by_cases hf : f < 8
      · exact e f hf
      · rw [hq.1 f (by omega), hpt.1 f (by omega)])
    rw [← this]; exact hq
  obtain ⟨ly, ln⟩ := isM_leaf hcu hM hlt
  have hct : cndS F LS P q0 t ↔ lwS LS t LS.length ∧ (rnS t 0 P).1 = 1 := ⟨fun z => z.2.2.2, fun z => ⟨hpt.1, fun f hf h3 => (hpt.2 f hf).1 h3, fun f hf => (hpt.2 f hf).2, z⟩⟩
  have hrl := rnS_le hP t
  refine R_go 9999 rfl rfl trivial ?_
  refine R_br rfl rfl (fun h => absurd h (by decide)) (fun _ => ?_)
  refine R_go 9999 rfl rfl trivial ?_
  refine R_cv rfl (m_walkP hP hpq.2.2.1 hq) rfl rfl rfl rfl rfl (Nat.le_of_ble_eq_true rfl) rfl ?_
  rintro r h' ⟨A1, B1, rfl, rfl, -, hF1, hJ1⟩
  have hF1' : Fm3 A A1 := hF1
  have cb1 : ∀ {A' : FI} (o : Option (Nat → Nat)), Fm3 A A' → CbR A F q0 o → CbR A' F q0 o := fun o hF h => ⟨fun ho => by rw [FmO_Fm hF (by decide)]; exact h.1 ho, fun z hz => by rw [FmO_Fm hF (by decide), FmO_Fm hF (by decide)]; exact h.2 z hz⟩
  refine R_go 9999 rfl rfl trivial ?_
  by_cases h1 : (rnS t 0 P).1 = 1
  · rw [h1]
    refine R_br rfl rfl (fun _ => ?_) (fun h => absurd rfl h)
    refine R_go 9999 rfl rfl trivial ?_
    refine R_cv rfl (m_keepsLaws (B := B1) hL (RCL_3 hpq.2.1 hF1') (RPn_3 hq hF1')) rfl rfl rfl rfl rfl (Nat.le_of_ble_eq_true rfl) rfl ?_
    rintro r h' ⟨A2, B2, rfl, rfl, hF2, hJ2⟩
    have hF02 : Fm3 A A2 := FmO_tr hF1' hF2
    rcases Classical.em (lwS LS t LS.length) with hl | hl
    · rw [b2_1 hl]
      refine R_br rfl rfl (fun h => absurd h (by decide)) (fun _ => ?_)
      refine R_go 9999 rfl rfl trivial ?_
      refine R_cv rfl (m_copyP (p := 25) (s := 24) (B := B2) (by decide) (RPn_3 hq hF02)) rfl rfl rfl rfl rfl (Nat.le_of_ble_eq_true rfl) rfl ?_
      rintro r h' ⟨A3, rfl, rfl, hF3, hq3⟩
      refine R_go 9999 rfl rfl trivial ?_
      refine R_rv rfl rfl ?_
      refine ⟨_, B2, some t, rfl, rfl, ⟨fun g g1 g2 g3 => ?_, fun i i1 i2 => ?_, fun g hg => ?_⟩, FmJ_tr hJ1 hJ2, ⟨(fun z => by cases z), fun z hz => ?_⟩, ly (hct.mpr ⟨hl, h1⟩)⟩
      · rw [up3_g g3, hF3.1 g (by simpa using g2), FmO_Fm hF02 g1]
      · rw [up3_g (by decide), hF3.2 25 i i2, FmO_Fm hF02 (by decide)]
      · rw [up3_g (by decide), hF3.2 25 24 (by decide), FmO_Fm hF02 (by decide)]
      · cases hz
        refine ⟨up3_self, fun g hg => ?_⟩
        have := hq3 g hg
        rw [if_neg (by have := (htr g hg).2; omega)] at this
        rw [up3_g (by decide)]
        exact ⟨this.1, (htr g hg).2⟩
    · rw [b2_0 hl]
      refine R_br rfl rfl (fun _ => ?_) (fun h => absurd rfl h)
      refine R_rv rfl rfl ?_
      exact ⟨A2, B2, o, rfl, rfl, FmQC_3 hF02, FmJ_tr hJ1 hJ2, cb1 o hF02 hC, ln (fun z => hl (hct.mp z).1)⟩
  · refine R_br rfl rfl (fun h => absurd (nI_ij (b := 1) (by omega) (by omega) h) h1) (fun _ => ?_)
    refine R_rv rfl rfl ?_
    exact ⟨A1, B1, o, rfl, rfl, FmQC_3 hF1', hJ1, cb1 o hF1' hC, ln (fun z => h1 (hct.mp z).2)⟩
