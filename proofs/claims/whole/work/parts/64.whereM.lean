/-- the greatest GAP so far: FIELD, least, greatest, above, below; how many spans -/
abbrev WS : Type := Option (Nat × Nat × Nat × Nat × Nat) × Nat
noncomputable def wst1 (P : List (List Tk × Nat)) (R : List Rw) (f a b : Nat) (z : WS) : WS :=
  if 0 < gcM R f a b true R.length ∧ 0 < gcM R f a b false R.length then
    ((match z.1 with
      | none => some (f, a, b, gpN (gcL P R f a b true R.length) (gcM R f a b true R.length) (gcL P R f a b false R.length) (gcM R f a b false R.length), gcM R f a b true R.length * gcM R f a b false R.length)
      | some y => if y.2.2.2.1 * (gcM R f a b true R.length * gcM R f a b false R.length) < gpN (gcL P R f a b true R.length) (gcM R f a b true R.length) (gcL P R f a b false R.length) (gcM R f a b false R.length) * y.2.2.2.2 then some (f, a, b, gpN (gcL P R f a b true R.length) (gcM R f a b true R.length) (gcL P R f a b false R.length) (gcM R f a b false R.length), gcM R f a b true R.length * gcM R f a b false R.length) else some y), z.2 + 1)
  else z
theorem wst1_none {P : List (List Tk × Nat)} {R : List Rw} {f a b n : Nat} (h : 0 < gcM R f a b true R.length ∧ 0 < gcM R f a b false R.length) : wst1 P R f a b (none, n) = (some (f, a, b, gpN (gcL P R f a b true R.length) (gcM R f a b true R.length) (gcL P R f a b false R.length) (gcM R f a b false R.length), gcM R f a b true R.length * gcM R f a b false R.length), n + 1) := by
  unfold wst1; rw [if_pos h]
theorem wst1_gt {P : List (List Tk × Nat)} {R : List Rw} {f a b n : Nat} {y : Nat × Nat × Nat × Nat × Nat} (h : 0 < gcM R f a b true R.length ∧ 0 < gcM R f a b false R.length) (hl : y.2.2.2.1 * (gcM R f a b true R.length * gcM R f a b false R.length) < gpN (gcL P R f a b true R.length) (gcM R f a b true R.length) (gcL P R f a b false R.length) (gcM R f a b false R.length) * y.2.2.2.2) : wst1 P R f a b (some y, n) = (some (f, a, b, gpN (gcL P R f a b true R.length) (gcM R f a b true R.length) (gcL P R f a b false R.length) (gcM R f a b false R.length), gcM R f a b true R.length * gcM R f a b false R.length), n + 1) := by
  unfold wst1; rw [if_pos h]; dsimp only; rw [if_pos hl]
theorem wst1_le {P : List (List Tk × Nat)} {R : List Rw} {f a b n : Nat} {y : Nat × Nat × Nat × Nat × Nat} (h : 0 < gcM R f a b true R.length ∧ 0 < gcM R f a b false R.length) (hl : ¬ y.2.2.2.1 * (gcM R f a b true R.length * gcM R f a b false R.length) < gpN (gcL P R f a b true R.length) (gcM R f a b true R.length) (gcL P R f a b false R.length) (gcM R f a b false R.length) * y.2.2.2.2) : wst1 P R f a b (some y, n) = (some y, n + 1) := by
  unfold wst1; rw [if_pos h]; dsimp only; rw [if_neg hl]
noncomputable def wB (P : List (List Tk × Nat)) (R : List Rw) (f a : Nat) : Nat → Nat → WS → WS
  | _, 0, z => z
  | b, n + 1, z => wB P R f a (b + 1) n (wst1 P R f a b z)
noncomputable def wAl (P : List (List Tk × Nat)) (R : List Rw) (f g : Nat) : Nat → Nat → WS → WS
  | _, 0, z => z
  | a, n + 1, z => wAl P R f g (a + 1) n (wB P R f a a (g + 1 - a) z)
noncomputable def wFl (F : FS) (P : List (List Tk × Nat)) (R : List Rw) : Nat → Nat → WS → WS
  | _, 0, z => z
  | f, n + 1, z => wFl F P R (f + 1) n (if F.1 f ≠ 1 ∧ F.1 f ≠ 2 then wAl P R f (F.2.2.1 f) (F.2.1 f) (F.2.2.1 f + 1 - F.2.1 f) z else z)
noncomputable def whW (F : FS) (P : List (List Tk × Nat)) (R : List Rw) : WS := wFl F P R 0 8 (none, 0)
def okW (z : WS) : Prop := z.2 ≤ 1000000 ∧ ∀ y, z.1 = some y → y.1 < 8 ∧ y.2.1 ≤ 20 ∧ y.2.2.1 ≤ 20 ∧ y.2.2.2.1 ≤ 576 ∧ y.2.2.2.2 ≤ 576 ∧ 0 < y.2.2.2.2
def WMr (A : FI) (z : WS) : Prop := A 31 0 67 = nI z.2 ∧ (match z.1 with
  | none => A 31 0 62 = -1
  | some y => A 31 0 62 = nI y.1 ∧ A 31 0 63 = nI y.2.1 ∧ A 31 0 64 = nI y.2.2.1 ∧ A 31 0 65 = nI y.2.2.2.1 ∧ A 31 0 66 = nI y.2.2.2.2)
abbrev FmY (A A' : FI) : Prop := FmO 31 [] [56, 57, 62, 63, 64, 65, 66, 67] A A'
theorem gc24 {R : List Rw} (h : R.length ≤ 24) (f a b : Nat) (w : Bool) : gcM R f a b w R.length ≤ 24 := Nat.le_trans (gcM_le _ _ _ _ _ _) h
theorem gl24 {P : List (List Tk × Nat)} {R : List Rw} (h : R.length ≤ 24) (f a b : Nat) (w : Bool) : gcL P R f a b w R.length ≤ 24 := Nat.le_trans (gcL_le _ _ _ _ _ _ _) (gc24 h _ _ _ _)
theorem gpw {P : List (List Tk × Nat)} {R : List Rw} (h24 : R.length ≤ 24) (f a b : Nat) : gcL P R f a b true R.length * gcM R f a b false R.length ≤ 576 ∧ gcL P R f a b false R.length * gcM R f a b true R.length ≤ 576 ∧ gpN (gcL P R f a b true R.length) (gcM R f a b true R.length) (gcL P R f a b false R.length) (gcM R f a b false R.length) ≤ 576 ∧ gcM R f a b true R.length * gcM R f a b false R.length ≤ 576 := by
  have c1 := m24 (gl24 (P := P) h24 f a b true) (gc24 h24 f a b false)
  have c2 := m24 (gl24 (P := P) h24 f a b false) (gc24 h24 f a b true)
  have c3 := m24 (gc24 h24 f a b true) (gc24 h24 f a b false)
  unfold gpN
  omega
theorem wst1_ok {P : List (List Tk × Nat)} {R : List Rw} (h24 : R.length ≤ 24) {f a b : Nat} (hf : f < 8) (ha : a ≤ 20) (hb : b ≤ 20) {z : WS} (hz : okW z) (h1 : z.2 < 1000000) : okW (wst1 P R f a b z) ∧ (wst1 P R f a b z).2 ≤ z.2 + 1 := by
  obtain ⟨g1, g2, g3, g4⟩ := gpw (P := P) h24 f a b
  unfold wst1
  by_cases h : 0 < gcM R f a b true R.length ∧ 0 < gcM R f a b false R.length
  · rw [if_pos h]
    have hpos := Nat.mul_pos h.1 h.2
    refine ⟨⟨by dsimp only; omega, fun y hy => ?_⟩, Nat.le_refl _⟩
    obtain ⟨z1, z2⟩ := z
    cases z1 with
    | none => cases hy; exact ⟨hf, ha, hb, g3, g4, hpos⟩
    | some yy =>
      dsimp only at hy
      split at hy
      · cases hy; exact ⟨hf, ha, hb, g3, g4, hpos⟩
      · cases hy; exact hz.2 y rfl
  · rw [if_neg h]; exact ⟨hz, by omega⟩
theorem wB_ok {P : List (List Tk × Nat)} {R : List Rw} (h24 : R.length ≤ 24) {f a : Nat} (hf : f < 8) (ha : a ≤ 20) : ∀ (n b : Nat) (z : WS), b + n ≤ 21 → okW z → z.2 + n ≤ 100000 → okW (wB P R f a b n z) ∧ (wB P R f a b n z).2 ≤ z.2 + n := by
  intro n
  induction n with
  | zero => intro b z _ h _; exact ⟨h, Nat.le_refl _⟩
  | succ n ih =>
    intro b z hb h hn
    have h1 := wst1_ok (P := P) h24 hf ha (show b ≤ 20 by omega) h (by omega)
    have h2 := ih (b + 1) (wst1 P R f a b z) (by omega) h1.1 (by omega)
    exact ⟨h2.1, by have := h2.2; have := h1.2; show (wB P R f a (b + 1) n (wst1 P R f a b z)).2 ≤ _; omega⟩
theorem wAl_ok {P : List (List Tk × Nat)} {R : List Rw} (h24 : R.length ≤ 24) {f g : Nat} (hf : f < 8) (hg : g ≤ 20) : ∀ (n a : Nat) (z : WS), a + n ≤ g + 1 → okW z → z.2 + n * 21 ≤ 100000 → okW (wAl P R f g a n z) ∧ (wAl P R f g a n z).2 ≤ z.2 + n * 21 := by
  intro n
  induction n with
  | zero => intro a z _ h _; exact ⟨h, Nat.le_refl _⟩
  | succ n ih =>
    intro a z ha h hn
    have h1 := wB_ok (P := P) h24 hf (show a ≤ 20 by omega) (g + 1 - a) a z (by omega) h (by omega)
    have h2 := ih (a + 1) (wB P R f a a (g + 1 - a) z) (by omega) h1.1 (by omega)
    exact ⟨h2.1, by have := h2.2; have := h1.2; show (wAl P R f g (a + 1) n (wB P R f a a (g + 1 - a) z)).2 ≤ _; omega⟩
theorem wFl_ok {F : FS} (hW : WFF F) {P : List (List Tk × Nat)} {R : List Rw} (h24 : R.length ≤ 24) : ∀ (n f : Nat) (z : WS), f + n = 8 → okW z → z.2 + n * 441 ≤ 100000 → okW (wFl F P R f n z) ∧ (wFl F P R f n z).2 ≤ z.2 + n * 441 := by
  intro n
  induction n with
  | zero => intro f z _ h _; exact ⟨h, Nat.le_refl _⟩
  | succ n ih =>
    intro f z hf h hn
    have hw := hW.1 f (by omega)
    have hs : okW (if F.1 f ≠ 1 ∧ F.1 f ≠ 2 then wAl P R f (F.2.2.1 f) (F.2.1 f) (F.2.2.1 f + 1 - F.2.1 f) z else z) ∧ (if F.1 f ≠ 1 ∧ F.1 f ≠ 2 then wAl P R f (F.2.2.1 f) (F.2.1 f) (F.2.2.1 f + 1 - F.2.1 f) z else z).2 ≤ z.2 + 441 := by
      split
      · have := wAl_ok (P := P) h24 (show f < 8 by omega) (show F.2.2.1 f ≤ 20 by omega) (F.2.2.1 f + 1 - F.2.1 f) (F.2.1 f) z (by omega) h (by omega)
        exact ⟨this.1, by have := this.2; omega⟩
      · exact ⟨h, by omega⟩
    have h2 := ih (f + 1) _ (by omega) hs.1 (by omega)
    exact ⟨h2.1, by have := h2.2; have := hs.2; show (wFl F P R (f + 1) n _).2 ≤ _; omega⟩
theorem whW_ok {F : FS} (hW : WFF F) {P : List (List Tk × Nat)} {R : List Rw} (h24 : R.length ≤ 24) : okW (whW F P R) := (wFl_ok hW h24 8 0 (none, 0) rfl ⟨by decide, fun y hy => by cases hy⟩ (by decide)).1
abbrev fwL (f a b : Nat) (o4 o5 o6 o7 : Option AV) : List (Option AV) := [some (.inr (.inr (some (31, 0)))), some (.inl (nI f)), some (.inl (nI a)), some (.inl (nI b)), o4, o5, o6, o7]
theorem st_where {F : FS} {P : List (List Tk × Nat)} {R : List Rw} (hP : okP P) {f a b : Nat} (hf : f < 8) (ha : a ≤ 20) (hb : b ≤ 20) (hbg : b ≤ F.2.2.1 f) {A : FI} {B : FJ} {Q : Option AV → AH → Prop} (hR : RMR A R) (hE : RME A P R) (hW : WFF F) (hM : RMF A F) (z : WS) (hz : okW z) (hzr : WMr A z) (h1 : z.2 < 1000000) (kk : ∀ A' o4 o5 o6 o7, FmY A A' → WMr A' (wst1 P R f a b z) → Rn 4 mtX12_findWhere 49 (fwL f a (b + 1) o4 o5 o6 o7) [] (hp A' B) Q) (o4 o5 o6 o7 : Option AV) : Rn 4 mtX12_findWhere 49 (fwL f a b o4 o5 o6 o7) [] (hp A B) Q := by
  have h24 := hR.2.1
  have hw := hW.1 f hf
  have e34 := (hM f hf).2.2.1
  have tb := ti b (by omega)
  have tg := ti (F.2.2.1 f) (by omega)
  have cf : (nI f).toNatClampNeg = f := nI_clamp (by omega)
  obtain ⟨g1, g2, g3, g4⟩ := gpw (P := P) h24 f a b
  have b1 := gc24 h24 f a b true
  have b2' := gc24 h24 f a b false
  have t1 := ti (gcM R f a b true R.length) (by omega)
  have t2 := ti (gcM R f a b false R.length) (by omega)
  refine R_go 9999 rfl rfl (vpN (n := 8) hf rfl) ?_
  rw [cf, e34]
  refine R_br rfl rfl (fun h => absurd h (by (simp only [i_eq, i_lt, i_le, Int32.reduceToInt, true_and, and_true, false_and, and_false, or_false, false_or, or_true, true_or, ne_eq] at *; first | done | omega))) (fun _ => ?_)
  refine R_go 9999 rfl rfl trivial ?_
  refine R_cv rfl (m_countGroup hP f a b true hf ha hb hR hE) rfl rfl rfl rfl rfl (Nat.le_of_ble_eq_true rfl) rfl ?_
  rintro r h' ⟨A1, rfl, rfl, hF1, e1, e2⟩
  have hR1 := RMR_fr hR hF1 (by decide) (by decide)
  have hE1 : RME A1 P R := fun i hi => by rw [hF1.1 62 (by decide) (by simp)]; exact hE i hi
  refine R_go 9999 rfl rfl trivial ?_
  rw [e1, e2]
  refine R_cv rfl (m_countGroup hP f a b false hf ha hb hR1 hE1) rfl rfl rfl rfl rfl (Nat.le_of_ble_eq_true rfl) rfl ?_
  rintro r h' ⟨A2, rfl, rfl, hF2, e3, e4⟩
  have hF12 : FmO 31 [] [56, 57] A A2 := FmO_tr hF1 hF2
  have hFy : FmY A A2 := FmO_w hF12 (by decide) (by decide)
  have hzr2 : WMr A2 z := by
    obtain ⟨x1, x2⟩ := hzr
    refine ⟨by rw [hF12.2 67 (by decide)]; exact x1, ?_⟩
    obtain ⟨z1, z2⟩ := z
    cases z1 with
    | none => dsimp only at x2 ⊢; rw [hF12.2 62 (by decide)]; exact x2
    | some y =>
      dsimp only at x2 ⊢
      rw [hF12.2 62 (by decide), hF12.2 63 (by decide), hF12.2 64 (by decide), hF12.2 65 (by decide), hF12.2 66 (by decide)]
      exact x2
  have hno : ¬ (0 < gcM R f a b true R.length ∧ 0 < gcM R f a b false R.length) → wst1 P R f a b z = z := fun h => if_neg h
  refine R_go 9999 rfl rfl trivial ?_
  by_cases hi : 0 < gcM R f a b true R.length
  · refine R_br rfl rfl (fun h => absurd h (by (simp only [i_eq, i_lt, i_le, Int32.reduceToInt, true_and, and_true, false_and, and_false, or_false, false_or, or_true, true_or, ne_eq] at *; first | done | omega))) (fun _ => ?_)
    refine R_go 9999 rfl rfl trivial ?_
    try dsimp only [fgt, fpt]
    rw [e3]
    by_cases ho : 0 < gcM R f a b false R.length
    · refine R_br rfl rfl (fun h => absurd h (by (simp only [i_eq, i_lt, i_le, Int32.reduceToInt, true_and, and_true, false_and, and_false, or_false, false_or, or_true, true_or, ne_eq] at *; first | done | omega))) (fun _ => ?_)
      refine R_go 9999 rfl rfl trivial ?_
      try dsimp only [fgt, fpt]
      have f67 : A2 31 0 67 = nI z.2 := hzr2.1
      rw [f67, nI_1]
      have u56 : ∀ x, up3 A2 31 0 67 x 31 0 56 = nI (gcM R f a b false R.length) := fun x => by rw [up3_s (by decide)]; exact e3
      have u57 : ∀ x, up3 A2 31 0 67 x 31 0 57 = nI (gcL P R f a b false R.length) := fun x => by rw [up3_s (by decide)]; exact e4
      rw [u56, u57]
      refine R_csr rfl (m_gapOf _ _ _ _ (by omega) (by omega) _ _) rfl rfl rfl (Nat.le_of_ble_eq_true rfl) rfl ?_
      refine R_go 9999 rfl rfl trivial ?_
      try dsimp only [fgt, fpt]
      rw [u56, pk_mul]
      have hwr : Rn 4 mtX12_findWhere 160 (fwL f a b (some (.inl (nI (gcM R f a b true R.length)))) (some (.inl (nI (gcL P R f a b true R.length)))) (some (.inl (nI (gpN (gcL P R f a b true R.length) (gcM R f a b true R.length) (gcL P R f a b false R.length) (gcM R f a b false R.length))))) (some (.inl (nI (gcM R f a b true R.length * gcM R f a b false R.length))))) [] (hp (up3 A2 31 0 67 (nI (z.2 + 1))) B) Q ∨ True := Or.inr trivial
      clear hwr
      have hput : (wst1 P R f a b z = (some (f, a, b, gpN (gcL P R f a b true R.length) (gcM R f a b true R.length) (gcL P R f a b false R.length) (gcM R f a b false R.length), gcM R f a b true R.length * gcM R f a b false R.length), z.2 + 1)) → Rn 4 mtX12_findWhere 160 (fwL f a b (some (.inl (nI (gcM R f a b true R.length)))) (some (.inl (nI (gcL P R f a b true R.length)))) (some (.inl (nI (gpN (gcL P R f a b true R.length) (gcM R f a b true R.length) (gcL P R f a b false R.length) (gcM R f a b false R.length))))) (some (.inl (nI (gcM R f a b true R.length * gcM R f a b false R.length))))) [] (hp (up3 A2 31 0 67 (nI (z.2 + 1))) B) Q := by
        intro hst
        refine R_go 49 rfl rfl trivial ?_
        rw [nI_1]
        rw [hst] at kk
        refine kk _ _ _ _ _ (FmO_up (FmO_up (FmO_up (FmO_up (FmO_up (FmO_up hFy (by decide)) (by decide)) (by decide)) (by decide)) (by decide)) (by decide)) ⟨?_, ?_, ?_, ?_, ?_, ?_⟩
        · simp [up3]
        · simp [up3]
        · simp [up3]
        · simp [up3]
        · simp [up3]
        · simp [up3]
      obtain ⟨z1, z2⟩ := z
      dsimp only at f67
      cases z1 with
      | none =>
        have f62 : A2 31 0 62 = -1 := hzr2.2
        have u62 : ∀ x, up3 A2 31 0 67 x 31 0 62 = -1 := fun x => by rw [up3_s (by decide)]; exact f62
        refine R_br rfl rfl (fun _ => ?_) (fun h => absurd (u62 _) h)
        exact hput (wst1_none ⟨hi, ho⟩)
      | some y =>
        obtain ⟨f62, f63, f64, f65, f66⟩ := hzr2.2
        obtain ⟨y1, y2, y3, y4, y5, y6⟩ := hz.2 y rfl
        have ty := ti y.1 (by omega)
        have u62 : ∀ x, ¬ up3 A2 31 0 67 x 31 0 62 = -1 := fun x => by rw [up3_s (by decide), f62]; (simp only [i_eq, i_lt, i_le, Int32.reduceToInt, true_and, and_true, false_and, and_false, or_false, false_or, or_true, true_or, ne_eq] at *; first | done | omega)
        have u65 : ∀ x, up3 A2 31 0 67 x 31 0 65 = nI y.2.2.2.1 := fun x => by rw [up3_s (by decide)]; exact f65
        have u66 : ∀ x, up3 A2 31 0 67 x 31 0 66 = nI y.2.2.2.2 := fun x => by rw [up3_s (by decide)]; exact f66
        refine R_br rfl rfl (fun h => absurd h (u62 _)) (fun _ => ?_)
        refine R_go 9999 rfl rfl trivial ?_
        try dsimp only [fgt, fpt]
        rw [u65, u66, pk_mul, pk_mul]
        have m1 : gpN (gcL P R f a b true R.length) (gcM R f a b true R.length) (gcL P R f a b false R.length) (gcM R f a b false R.length) * y.2.2.2.2 ≤ 576 * 576 := Nat.mul_le_mul g3 y5
        have m2 : y.2.2.2.1 * (gcM R f a b true R.length * gcM R f a b false R.length) ≤ 576 * 576 := Nat.mul_le_mul y4 g4
        have tm1 := ti _ (show gpN (gcL P R f a b true R.length) (gcM R f a b true R.length) (gcL P R f a b false R.length) (gcM R f a b false R.length) * y.2.2.2.2 < 2147483648 by omega)
        have tm2 := ti _ (show y.2.2.2.1 * (gcM R f a b true R.length * gcM R f a b false R.length) < 2147483648 by omega)
        by_cases hlt : y.2.2.2.1 * (gcM R f a b true R.length * gcM R f a b false R.length) < gpN (gcL P R f a b true R.length) (gcM R f a b true R.length) (gcL P R f a b false R.length) (gcM R f a b false R.length) * y.2.2.2.2
        · refine R_br rfl rfl (fun h => absurd h (by rw [i_le, tm1, tm2]; omega)) (fun _ => ?_)
          exact hput (wst1_gt ⟨hi, ho⟩ hlt)
        · refine R_br rfl rfl (fun _ => ?_) (fun h => absurd (by rw [i_le, tm1, tm2]; omega) h)
          refine R_go 49 rfl rfl trivial ?_
          rw [nI_1]
          rw [wst1_le ⟨hi, ho⟩ hlt] at kk
          refine kk _ _ _ _ _ (FmO_up hFy (by decide)) ⟨up3_self, ?_⟩
          refine ⟨?_, ?_, ?_, ?_, ?_⟩
          · rw [up3_s (by decide)]; exact f62
          · rw [up3_s (by decide)]; exact f63
          · rw [up3_s (by decide)]; exact f64
          · rw [up3_s (by decide)]; exact f65
          · rw [up3_s (by decide)]; exact f66
    · refine R_br rfl rfl (fun _ => ?_) (fun h => absurd (by (simp only [i_eq, i_lt, i_le, Int32.reduceToInt, true_and, and_true, false_and, and_false, or_false, false_or, or_true, true_or, ne_eq] at *; first | done | omega)) h)
      refine R_go 49 rfl rfl trivial ?_
      rw [nI_1]
      rw [hno (fun z => ho z.2)] at kk
      exact kk _ _ _ _ _ hFy hzr2
  · refine R_br rfl rfl (fun _ => ?_) (fun h => absurd (by (simp only [i_eq, i_lt, i_le, Int32.reduceToInt, true_and, and_true, false_and, and_false, or_false, false_or, or_true, true_or, ne_eq] at *; first | done | omega)) h)
    refine R_go 49 rfl rfl trivial ?_
    rw [nI_1]
    rw [hno (fun z => hi z.1)] at kk
    exact kk _ _ _ _ _ hFy hzr2
theorem l_wB {F : FS} {P : List (List Tk × Nat)} {R : List Rw} (hP : okP P) {f a : Nat} (hf : f < 8) (ha : a ≤ 20) (B : FJ) {Q : Option AV → AH → Prop} (hW : WFF F) (h24 : R.length ≤ 24) : ∀ (n b : Nat) (A : FI) (z : WS), b + n = F.2.2.1 f + 1 → RMR A R → RME A P R → RMF A F → okW z → WMr A z → z.2 + n ≤ 100000 → (∀ A' o4 o5 o6 o7, FmY A A' → WMr A' (wB P R f a b n z) → Rn 4 mtX12_findWhere 193 (fwL f a (F.2.2.1 f + 1) o4 o5 o6 o7) [] (hp A' B) Q) → ∀ o4 o5 o6 o7, Rn 4 mtX12_findWhere 49 (fwL f a b o4 o5 o6 o7) [] (hp A B) Q := by
  have hw := hW.1 f hf
  have tg := ti (F.2.2.1 f) (by omega)
  have cf : (nI f).toNatClampNeg = f := nI_clamp (by omega)
  intro n
  induction n with
  | zero =>
    intro b A z hb hR hE hM hz hzr hn kk o4 o5 o6 o7
    have : b = F.2.2.1 f + 1 := by omega
    subst this
    have tb := ti (F.2.2.1 f + 1) (by omega)
    have e34 := (hM f hf).2.2.1
    refine R_go 9999 rfl rfl (vpN (n := 8) hf rfl) ?_
    rw [cf, e34]
    refine R_br rfl rfl (fun _ => ?_) (fun h => absurd (by (simp only [i_eq, i_lt, i_le, Int32.reduceToInt, true_and, and_true, false_and, and_false, or_false, false_or, or_true, true_or, ne_eq] at *; first | done | omega)) h)
    exact kk A _ _ _ _ FmO_rf hzr
  | succ n ih =>
    intro b A z hb hR hE hM hz hzr hn kk o4 o5 o6 o7
    refine st_where hP hf ha (by omega) (by omega) hR hE hW hM z hz hzr (by omega) (fun A' p4 p5 p6 p7 hF hr => ?_) o4 o5 o6 o7
    have hok := wst1_ok (P := P) h24 hf ha (show b ≤ 20 by omega) hz (by omega)
    exact ih (b + 1) A' (wst1 P R f a b z) (by omega) (RMR_fr hR hF (by decide) (by decide)) (fun i hi => by rw [hF.1 62 (by decide) (by simp)]; exact hE i hi) (RMF_fr hM hF (by decide)) hok.1 hr (by omega) (fun A2 q4 q5 q6 q7 hF2 hr2 => kk A2 q4 q5 q6 q7 (FmO_tr hF hF2) hr2) p4 p5 p6 p7
theorem l_wA {F : FS} {P : List (List Tk × Nat)} {R : List Rw} (hP : okP P) {f : Nat} (hf : f < 8) (B : FJ) {Q : Option AV → AH → Prop} (hW : WFF F) (h24 : R.length ≤ 24) (hcn : F.1 f ≠ 1 ∧ F.1 f ≠ 2) : ∀ (n a : Nat) (A : FI) (z : WS), a + n = F.2.2.1 f + 1 → RMR A R → RME A P R → RMF A F → okW z → WMr A z → z.2 + n * 21 ≤ 100000 → (∀ A' o2 o3 o4 o5 o6 o7, FmY A A' → WMr A' (wAl P R f (F.2.2.1 f) a n z) → Rn 4 mtX12_findWhere 199 [some (.inr (.inr (some (31, 0)))), some (.inl (nI f)), o2, o3, o4, o5, o6, o7] [] (hp A' B) Q) → ∀ o3 o4 o5 o6 o7, Rn 4 mtX12_findWhere 29 [some (.inr (.inr (some (31, 0)))), some (.inl (nI f)), some (.inl (nI a)), o3, o4, o5, o6, o7] [] (hp A B) Q := by
  have hw := hW.1 f hf
  have tg := ti (F.2.2.1 f) (by omega)
  have cf : (nI f).toNatClampNeg = f := nI_clamp (by omega)
  intro n
  induction n with
  | zero =>
    intro a A z hb hR hE hM hz hzr hn kk o3 o4 o5 o6 o7
    have : a = F.2.2.1 f + 1 := by omega
    subst this
    have tb := ti (F.2.2.1 f + 1) (by omega)
    have e34 := (hM f hf).2.2.1
    refine R_go 9999 rfl rfl (vpN (n := 8) hf rfl) ?_
    rw [cf, e34]
    refine R_br rfl rfl (fun _ => ?_) (fun h => absurd (by (simp only [i_eq, i_lt, i_le, Int32.reduceToInt, true_and, and_true, false_and, and_false, or_false, false_or, or_true, true_or, ne_eq] at *; first | done | omega)) h)
    exact kk A _ _ _ _ _ _ FmO_rf hzr
  | succ n ih =>
    intro a A z hb hR hE hM hz hzr hn kk o3 o4 o5 o6 o7
    have ta := ti a (by omega)
    have e34 := (hM f hf).2.2.1
    have hco := m_countsM (B := B) hM hW f hf
    rw [b2_1 hcn] at hco
    refine R_go 9999 rfl rfl (vpN (n := 8) hf rfl) ?_
    rw [cf, e34]
    refine R_br rfl rfl (fun h => absurd h (by (simp only [i_eq, i_lt, i_le, Int32.reduceToInt, true_and, and_true, false_and, and_false, or_false, false_or, or_true, true_or, ne_eq] at *; first | done | omega))) (fun _ => ?_)
    refine R_go 9999 rfl rfl trivial ?_
    refine R_cvr rfl hco rfl rfl rfl rfl rfl (Nat.le_of_ble_eq_true rfl) rfl ?_
    refine R_br rfl rfl (fun h => absurd h (by decide)) (fun _ => ?_)
    refine R_go 49 rfl rfl trivial ?_
    refine l_wB hP hf (show a ≤ 20 by omega) B hW h24 (F.2.2.1 f + 1 - a) a A z (by omega) hR hE hM hz hzr (by omega) (fun A' p4 p5 p6 p7 hF hr => ?_) o4 o5 o6 o7
    have hok := wB_ok (P := P) h24 hf (show a ≤ 20 by omega) (F.2.2.1 f + 1 - a) a z (by omega) hz (by omega)
    refine R_go 29 rfl rfl trivial ?_
    rw [nI_1]
    exact ih (a + 1) A' (wB P R f a a (F.2.2.1 f + 1 - a) z) (by omega) (RMR_fr hR hF (by decide) (by decide)) (fun i hi => by rw [hF.1 62 (by decide) (by simp)]; exact hE i hi) (RMF_fr hM hF (by decide)) hok.1 hr (by have := hok.2; omega) (fun A2 q2 q3 q4 q5 q6 q7 hF2 hr2 => kk A2 q2 q3 q4 q5 q6 q7 (FmO_tr hF hF2) hr2) _ p4 p5 p6 p7
theorem l_wF {F : FS} {P : List (List Tk × Nat)} {R : List Rw} (hP : okP P) (B : FJ) (A0 : FI) (hW : WFF F) (h24 : R.length ≤ 24) : ∀ (n f : Nat) (A : FI) (z : WS), f + n = 8 → RMR A R → RME A P R → RMF A F → okW z → WMr A z → z.2 + n * 441 ≤ 100000 → FmY A0 A → ∀ o2 o3 o4 o5 o6 o7, Rn 4 mtX12_findWhere 16 [some (.inr (.inr (some (31, 0)))), some (.inl (nI f)), o2, o3, o4, o5, o6, o7] [] (hp A B) (fun r h' => ∃ A', r = none ∧ h' = hp A' B ∧ FmY A0 A' ∧ WMr A' (wFl F P R f n z)) := by
  intro n
  induction n with
  | zero =>
    intro f A z hf hR hE hM hz hzr hn hF o2 o3 o4 o5 o6 o7
    have : f = 8 := by omega
    subst this
    refine R_go 9999 rfl rfl trivial ?_
    refine R_br rfl rfl (fun _ => ?_) (fun h => absurd (by decide) h)
    repeat' (first
        | (refine R_br rfl rfl (fun hbr => absurd hbr (by first | decide | (with_reducible assumption))) (fun _ => ?_))
        | (refine R_br rfl rfl (fun _ => ?_) (fun hbr => absurd (by first | decide | (with_reducible assumption)) hbr))
        | (refine R_br rfl rfl (fun _ => ?_) (fun _ => ?_))
        | (refine R_ri rfl rfl ?_)
        | (refine R_rz rfl rfl (Or.inl rfl) ?_)
        | (refine R_rz rfl rfl (Or.inr rfl) ?_)
        | (refine R_rz rfl rfl (b2_01 _) ?_)
        | (refine R_rl rfl rfl ?_)
        | (refine R_rv rfl rfl ?_)
        | (refine R_sw _ rfl rfl rfl ?_)
        | (refine R_go 9999 rfl rfl trivial ?_)
        | (refine R_go 9999 rfl rfl (by first | (show _ ∨ _; decide) | (show (_ ∨ _) ∧ (_ ∨ _); decide) | (show (_ ∨ _) ∧ (_ ∨ _) ∧ (_ ∨ _); decide)) ?_)
        | (refine R_go 9999 rfl rfl ?_ ?_))
    exact ⟨A, rfl, rfl, hF, hzr⟩
  | succ n ih =>
    intro f A z hf hR hE hM hz hzr hn hF o2 o3 o4 o5 o6 o7
    have hf8 : f < 8 := by omega
    have hn' : z.2 + n * 441 ≤ 100000 := Nat.le_trans (Nat.add_le_add_left (Nat.mul_le_mul_right _ (Nat.le_succ n)) _) hn
    have hw := hW.1 f hf8
    have tf := ti f (by omega)
    have cf : (nI f).toNatClampNeg = f := nI_clamp (by omega)
    obtain ⟨-, e33, e34, -⟩ := hM f hf8
    refine R_go 9999 rfl rfl trivial ?_
    refine R_br rfl rfl (fun h => absurd h (by (simp only [i_eq, i_lt, i_le, Int32.reduceToInt, true_and, and_true, false_and, and_false, or_false, false_or, or_true, true_or, ne_eq] at *; first | done | omega))) (fun _ => ?_)
    refine R_go 29 rfl rfl (vpN (n := 8) hf8 rfl) ?_
    rw [cf, e33]
    by_cases hc : F.1 f ≠ 1 ∧ F.1 f ≠ 2
    · refine l_wA hP hf8 B hW h24 hc (F.2.2.1 f + 1 - F.2.1 f) (F.2.1 f) A z (by omega) hR hE hM hz hzr (by omega) (fun A' p2 p3 p4 p5 p6 p7 hF1 hr => ?_) o3 o4 o5 o6 o7
      have hok := wAl_ok (P := P) h24 hf8 (show F.2.2.1 f ≤ 20 by omega) (F.2.2.1 f + 1 - F.2.1 f) (F.2.1 f) z (by omega) hz (by omega)
      refine R_go 16 rfl rfl trivial ?_
      rw [nI_1]
      have := ih (f + 1) A' _ (by omega) (RMR_fr hR hF1 (by decide) (by decide)) (fun i hi => by rw [hF1.1 62 (by decide) (by simp)]; exact hE i hi) (RMF_fr hM hF1 (by decide)) hok.1 hr (by have := hok.2; omega) (FmO_tr hF hF1) p2 p3 p4 p5 p6 p7
      rw [wFl, if_pos hc]
      exact this
    · have tl := ti (F.2.1 f) (by omega)
      have tg := ti (F.2.2.1 f) (by omega)
      have hco := m_countsM (B := B) hM hW f hf8
      rw [b2_0 hc] at hco
      refine R_go 9999 rfl rfl (vpN (n := 8) hf8 rfl) ?_
      rw [cf, e34]
      refine R_br rfl rfl (fun h => absurd h (by (simp only [i_eq, i_lt, i_le, Int32.reduceToInt, true_and, and_true, false_and, and_false, or_false, false_or, or_true, true_or, ne_eq] at *; first | done | omega))) (fun _ => ?_)
      refine R_go 9999 rfl rfl trivial ?_
      refine R_cvr rfl hco rfl rfl rfl rfl rfl (Nat.le_of_ble_eq_true rfl) rfl ?_
      refine R_br rfl rfl (fun _ => ?_) (fun h => absurd rfl h)
      refine R_go 16 rfl rfl trivial ?_
      rw [nI_1]
      have := ih (f + 1) A z (by omega) hR hE hM hz hzr hn' hF (some (.inl (nI (F.2.1 f)))) o3 o4 o5 o6 o7
      rw [wFl, if_neg hc]
      exact this
abbrev FmX (A A' : FI) : Prop := FmO 31 [50, 51, 52, 62] [36, 56, 57, 62, 63, 64, 65, 66, 67] A A'
theorem m_findWhere {F : FS} {P : List (List Tk × Nat)} {R : List Rw} (hP : okP P) (hW : WFF F) {A : FI} {B : FJ} (hG : RMG A P) (hR : RMR A R) (hM : RMF A F) : MV 4 0 mtX12_findWhere [.inr (.inr (some (31, 0)))] (hp A B) (fun r h' => ∃ A' B', r = none ∧ h' = hp A' B' ∧ FmX A A' ∧ FmJ [49] B B' ∧ WMr A' (whW F P R)) := by
  have h24 := hR.2.1
  refine MV_of caX12_findWhere (L := [some (.inr (.inr (some (31, 0)))), none, none, none, none, none, none, none]) rfl rfl ?_
  refine R_go 9999 rfl rfl trivial ?_
  refine R_cv rfl (m_runAllM hP hG hR) rfl rfl rfl rfl rfl (Nat.le_of_ble_eq_true rfl) rfl ?_
  rintro z h' ⟨A1, B1, rfl, rfl, hF1, hJ1, hE1⟩
  refine R_go 16 rfl rfl trivial ?_
  have hF2 : FmY A1 (up3 (up3 A1 31 0 62 (-1)) 31 0 67 0) := (by first | exact FmO_rf | (repeat' (first | exact FmO_rf | (with_reducible assumption) | (refine FmO_up ?_ (by decide)) | (refine FmO_ug ?_ (by decide) (by decide)))))
  refine R_mono (fun r h' z => ?_) (l_wF hP B1 _ hW h24 8 0 _ (none, 0) rfl (RMR_fr (RMR_fr hR hF1 (by decide) (by decide)) hF2 (by decide) (by decide)) (fun i hi => by rw [hF2.1 62 (by decide) (by simp)]; exact hE1 i hi) (RMF_fr (RMF_fr hM hF1 (by decide)) hF2 (by decide)) ⟨by decide, fun y hy => by cases hy⟩ ⟨by rw [up3_self]; rfl, by show _ = _; rw [up3_s (by decide), up3_self]⟩ (by decide) FmO_rf none none none none none none)
  obtain ⟨A', a1, a2, a3, a4⟩ := z
  exact ⟨A', B1, a1, a2, FmO_tr (FmO_w hF1 (by decide) (by decide)) (FmO_tr (FmO_w hF2 (by decide) (by decide)) (FmO_w a3 (by decide) (by decide))), hJ1, a4⟩
/-- where() -/
def whT (z : WS) (w : Nat) : Int32 := if w = 5 then nI z.2 else match z.1 with
  | none => -1
  | some y => if w = 0 then nI y.1 else if w = 1 then nI y.2.1 else if w = 2 then nI y.2.2.1 else nI (ltS y.2.2.2.1 y.2.2.2.2 (w - 3))
theorem m_whereOf {F : FS} {P : List (List Tk × Nat)} {R : List Rw} (hP : okP P) (hW : WFF F) {A : FI} {B : FJ} (hG : RMG A P) (hR : RMR A R) (hM : RMF A F) (w : Nat) (hw : w ≤ 5) : MV 5 1 mtX12_whereOf [.inr (.inr (some (31, 0))), .inl (nI w)] (hp A B) (fun r h' => ∃ A' B', h' = hp A' B' ∧ r = some (.inl (whT (whW F P R) w)) ∧ FmX A A' ∧ FmJ [49] B B') := by
  have hok := whW_ok hW (P := P) hR.2.1
  refine MV_of caX12_whereOf (L := [some (.inr (.inr (some (31, 0)))), some (.inl (nI w))]) rfl rfl ?_
  refine R_go 9999 rfl rfl trivial ?_
  refine R_cv rfl (m_findWhere hP hW hG hR hM) rfl rfl rfl rfl rfl (Nat.le_of_ble_eq_true rfl) rfl ?_
  rintro z h' ⟨A1, B1, rfl, rfl, hF1, hJ1, hr⟩
  generalize whW F P R = z at *
  obtain ⟨z1, z2⟩ := z
  obtain ⟨e67, er⟩ := hr
  by_cases h5 : w = 5
  · subst h5
    repeat' (first
        | (refine R_br rfl rfl (fun hbr => absurd hbr (by first | decide | (with_reducible assumption))) (fun _ => ?_))
        | (refine R_br rfl rfl (fun _ => ?_) (fun hbr => absurd (by first | decide | (with_reducible assumption)) hbr))
        | (refine R_br rfl rfl (fun _ => ?_) (fun _ => ?_))
        | (refine R_ri rfl rfl ?_)
        | (refine R_rz rfl rfl (Or.inl rfl) ?_)
        | (refine R_rz rfl rfl (Or.inr rfl) ?_)
        | (refine R_rz rfl rfl (b2_01 _) ?_)
        | (refine R_rl rfl rfl ?_)
        | (refine R_rv rfl rfl ?_)
        | (refine R_sw _ rfl rfl rfl ?_)
        | (refine R_go 9999 rfl rfl trivial ?_)
        | (refine R_go 9999 rfl rfl (by first | (show _ ∨ _; decide) | (show (_ ∨ _) ∧ (_ ∨ _); decide) | (show (_ ∨ _) ∧ (_ ∨ _) ∧ (_ ∨ _); decide)) ?_)
        | (refine R_go 9999 rfl rfl ?_ ?_))
    exact ⟨A1, B1, rfl, by rw [e67]; rfl, hF1, hJ1⟩
  · have tw := ti w (by omega)
    have n5 : ¬ nI w = 5 := by (simp only [i_eq, i_lt, i_le, Int32.reduceToInt, true_and, and_true, false_and, and_false, or_false, false_or, or_true, true_or, ne_eq] at *; first | done | omega)
    cases z1 with
    | none =>
      have e62 : A1 31 0 62 = -1 := er
      repeat' (first
          | (refine R_br rfl rfl (fun hbr => absurd hbr (by first | decide | (with_reducible assumption))) (fun _ => ?_))
          | (refine R_br rfl rfl (fun _ => ?_) (fun hbr => absurd (by first | decide | (with_reducible assumption)) hbr))
          | (refine R_br rfl rfl (fun _ => ?_) (fun _ => ?_))
          | (refine R_ri rfl rfl ?_)
          | (refine R_rz rfl rfl (Or.inl rfl) ?_)
          | (refine R_rz rfl rfl (Or.inr rfl) ?_)
          | (refine R_rz rfl rfl (b2_01 _) ?_)
          | (refine R_rl rfl rfl ?_)
          | (refine R_rv rfl rfl ?_)
          | (refine R_sw _ rfl rfl rfl ?_)
          | (refine R_go 9999 rfl rfl trivial ?_)
          | (refine R_go 9999 rfl rfl (by first | (show _ ∨ _; decide) | (show (_ ∨ _) ∧ (_ ∨ _); decide) | (show (_ ∨ _) ∧ (_ ∨ _) ∧ (_ ∨ _); decide)) ?_)
          | (refine R_go 9999 rfl rfl ?_ ?_))
      exact ⟨A1, B1, rfl, by unfold whT; rw [if_neg h5], hF1, hJ1⟩
    | some y =>
      obtain ⟨f62, f63, f64, f65, f66⟩ := er
      obtain ⟨y1, y2, y3, y4, y5, y6⟩ := hok.2 y rfl
      have ty := ti y.1 (by omega)
      have u62 : ¬ A1 31 0 62 = -1 := by rw [f62]; (simp only [i_eq, i_lt, i_le, Int32.reduceToInt, true_and, and_true, false_and, and_false, or_false, false_or, or_true, true_or, ne_eq] at *; first | done | omega)
      rcases (show w = 0 ∨ w = 1 ∨ w = 2 ∨ w = 3 ∨ w = 4 by omega) with rfl | rfl | rfl | rfl | rfl
      ·
        repeat' (first
            | (refine R_br rfl rfl (fun hbr => absurd hbr (by first | decide | (with_reducible assumption))) (fun _ => ?_))
            | (refine R_br rfl rfl (fun _ => ?_) (fun hbr => absurd (by first | decide | (with_reducible assumption)) hbr))
            | (refine R_br rfl rfl (fun _ => ?_) (fun _ => ?_))
            | (refine R_ri rfl rfl ?_)
            | (refine R_rz rfl rfl (Or.inl rfl) ?_)
            | (refine R_rz rfl rfl (Or.inr rfl) ?_)
            | (refine R_rz rfl rfl (b2_01 _) ?_)
            | (refine R_rl rfl rfl ?_)
            | (refine R_rv rfl rfl ?_)
            | (refine R_sw _ rfl rfl rfl ?_)
            | (refine R_go 9999 rfl rfl trivial ?_)
            | (refine R_go 9999 rfl rfl (by first | (show _ ∨ _; decide) | (show (_ ∨ _) ∧ (_ ∨ _); decide) | (show (_ ∨ _) ∧ (_ ∨ _) ∧ (_ ∨ _); decide)) ?_)
            | (refine R_go 9999 rfl rfl ?_ ?_))
        exact ⟨A1, B1, rfl, by rw [f62]; rfl, hF1, hJ1⟩
      ·
        repeat' (first
            | (refine R_br rfl rfl (fun hbr => absurd hbr (by first | decide | (with_reducible assumption))) (fun _ => ?_))
            | (refine R_br rfl rfl (fun _ => ?_) (fun hbr => absurd (by first | decide | (with_reducible assumption)) hbr))
            | (refine R_br rfl rfl (fun _ => ?_) (fun _ => ?_))
            | (refine R_ri rfl rfl ?_)
            | (refine R_rz rfl rfl (Or.inl rfl) ?_)
            | (refine R_rz rfl rfl (Or.inr rfl) ?_)
            | (refine R_rz rfl rfl (b2_01 _) ?_)
            | (refine R_rl rfl rfl ?_)
            | (refine R_rv rfl rfl ?_)
            | (refine R_sw _ rfl rfl rfl ?_)
            | (refine R_go 9999 rfl rfl trivial ?_)
            | (refine R_go 9999 rfl rfl (by first | (show _ ∨ _; decide) | (show (_ ∨ _) ∧ (_ ∨ _); decide) | (show (_ ∨ _) ∧ (_ ∨ _) ∧ (_ ∨ _); decide)) ?_)
            | (refine R_go 9999 rfl rfl ?_ ?_))
        exact ⟨A1, B1, rfl, by rw [f63]; rfl, hF1, hJ1⟩
      ·
        repeat' (first
            | (refine R_br rfl rfl (fun hbr => absurd hbr (by first | decide | (with_reducible assumption))) (fun _ => ?_))
            | (refine R_br rfl rfl (fun _ => ?_) (fun hbr => absurd (by first | decide | (with_reducible assumption)) hbr))
            | (refine R_br rfl rfl (fun _ => ?_) (fun _ => ?_))
            | (refine R_ri rfl rfl ?_)
            | (refine R_rz rfl rfl (Or.inl rfl) ?_)
            | (refine R_rz rfl rfl (Or.inr rfl) ?_)
            | (refine R_rz rfl rfl (b2_01 _) ?_)
            | (refine R_rl rfl rfl ?_)
            | (refine R_rv rfl rfl ?_)
            | (refine R_sw _ rfl rfl rfl ?_)
            | (refine R_go 9999 rfl rfl trivial ?_)
            | (refine R_go 9999 rfl rfl (by first | (show _ ∨ _; decide) | (show (_ ∨ _) ∧ (_ ∨ _); decide) | (show (_ ∨ _) ∧ (_ ∨ _) ∧ (_ ∨ _); decide)) ?_)
            | (refine R_go 9999 rfl rfl ?_ ?_))
        exact ⟨A1, B1, rfl, by rw [f64]; rfl, hF1, hJ1⟩
      · have hpt := m_part (k := 0) (show y.2.2.2.1 < 2 ^ 62 by omega) (show y.2.2.2.2 < 2 ^ 62 by omega) y6 (by decide) A1 B1
        rw [← nI_l (show y.2.2.2.1 < 2 ^ 31 by omega), ← nI_l (show y.2.2.2.2 < 2 ^ 31 by omega), ← f65, ← f66] at hpt
        repeat' (first
            | (refine R_br rfl rfl (fun hbr => absurd hbr (by first | decide | (with_reducible assumption))) (fun _ => ?_))
            | (refine R_br rfl rfl (fun _ => ?_) (fun hbr => absurd (by first | decide | (with_reducible assumption)) hbr))
            | (refine R_br rfl rfl (fun _ => ?_) (fun _ => ?_))
            | (refine R_ri rfl rfl ?_)
            | (refine R_rz rfl rfl (Or.inl rfl) ?_)
            | (refine R_rz rfl rfl (Or.inr rfl) ?_)
            | (refine R_rz rfl rfl (b2_01 _) ?_)
            | (refine R_rl rfl rfl ?_)
            | (refine R_rv rfl rfl ?_)
            | (refine R_csr rfl (hpt) rfl rfl rfl (Nat.le_of_ble_eq_true rfl) rfl ?_)
            | (refine R_sw _ rfl rfl rfl ?_)
            | (refine R_go 9999 rfl rfl trivial ?_)
            | (refine R_go 9999 rfl rfl (by first | (show _ ∨ _; decide) | (show (_ ∨ _) ∧ (_ ∨ _); decide) | (show (_ ∨ _) ∧ (_ ∨ _) ∧ (_ ∨ _); decide)) ?_)
            | (refine R_go 9999 rfl rfl ?_ ?_))
        exact ⟨A1, B1, rfl, rfl, hF1, hJ1⟩
      · have hpt := m_part (k := 1) (show y.2.2.2.1 < 2 ^ 62 by omega) (show y.2.2.2.2 < 2 ^ 62 by omega) y6 (by decide) A1 B1
        rw [← nI_l (show y.2.2.2.1 < 2 ^ 31 by omega), ← nI_l (show y.2.2.2.2 < 2 ^ 31 by omega), ← f65, ← f66] at hpt
        repeat' (first
            | (refine R_br rfl rfl (fun hbr => absurd hbr (by first | decide | (with_reducible assumption))) (fun _ => ?_))
            | (refine R_br rfl rfl (fun _ => ?_) (fun hbr => absurd (by first | decide | (with_reducible assumption)) hbr))
            | (refine R_br rfl rfl (fun _ => ?_) (fun _ => ?_))
            | (refine R_ri rfl rfl ?_)
            | (refine R_rz rfl rfl (Or.inl rfl) ?_)
            | (refine R_rz rfl rfl (Or.inr rfl) ?_)
            | (refine R_rz rfl rfl (b2_01 _) ?_)
            | (refine R_rl rfl rfl ?_)
            | (refine R_rv rfl rfl ?_)
            | (refine R_csr rfl (hpt) rfl rfl rfl (Nat.le_of_ble_eq_true rfl) rfl ?_)
            | (refine R_sw _ rfl rfl rfl ?_)
            | (refine R_go 9999 rfl rfl trivial ?_)
            | (refine R_go 9999 rfl rfl (by first | (show _ ∨ _; decide) | (show (_ ∨ _) ∧ (_ ∨ _); decide) | (show (_ ∨ _) ∧ (_ ∨ _) ∧ (_ ∨ _); decide)) ?_)
            | (refine R_go 9999 rfl rfl ?_ ?_))
        exact ⟨A1, B1, rfl, rfl, hF1, hJ1⟩
noncomputable def whA (F : FS) (P : List (List Tk × Nat)) (R : List Rw) (x : Int32) : Int32 := if 0 ≤ x.toInt ∧ x.toInt ≤ 5 then (if P = [] then -103 else whT (whW F P R) x.toNatClampNeg) else -102
theorem m_whereM {F : FS} {P : List (List Tk × Nat)} {R : List Rw} (hP : okG P) (hW : WFF F) {A : FI} {B : FJ} (hG : RMG A P) (hR : RMR A R) (hM : RMF A F) (x : Int32) : MV 6 1 mtX12_where [.inr (.inr (some (31, 0))), .inl x] (hp A B) (fun r h' => ∃ A' B', h' = hp A' B' ∧ r = some (.inl (whA F P R x)) ∧ FmX A A' ∧ FmJ [49] B B') := by
  refine MV_of caX12_where (L := [some (.inr (.inr (some (31, 0)))), some (.inl x)]) rfl rfl ?_
  unfold whA
  by_cases hx : 0 ≤ x.toInt ∧ x.toInt ≤ 5
  · rw [if_pos hx]
    obtain ⟨k, hk, rfl⟩ := vp_in_of (x := x) (n := 6) (vp_of hx.1 (by omega)) (by decide)
    rw [nI_clamp (show k < 2 ^ 31 by omega)]
    have hin := m_inT (nI k) 0 5 (by simp only [Int64.reduceToInt]; exact hx) A B
    by_cases hPe : P = []
    · rw [if_pos hPe]
      have n1 : A 31 0 21 = 0 := by rw [hG.1, isE.2 hPe]; rfl
      repeat' (first
          | (refine R_br rfl rfl (fun hbr => absurd hbr (by first | decide | (with_reducible assumption))) (fun _ => ?_))
          | (refine R_br rfl rfl (fun _ => ?_) (fun hbr => absurd (by first | decide | (with_reducible assumption)) hbr))
          | (refine R_br rfl rfl (fun _ => ?_) (fun _ => ?_))
          | (refine R_ri rfl rfl ?_)
          | (refine R_rz rfl rfl (Or.inl rfl) ?_)
          | (refine R_rz rfl rfl (Or.inr rfl) ?_)
          | (refine R_rz rfl rfl (b2_01 _) ?_)
          | (refine R_rl rfl rfl ?_)
          | (refine R_rv rfl rfl ?_)
          | (refine R_csr rfl (hin) rfl rfl rfl (Nat.le_of_ble_eq_true rfl) rfl ?_)
          | (refine R_sw _ rfl rfl rfl ?_)
          | (refine R_go 9999 rfl rfl trivial ?_)
          | (refine R_go 9999 rfl rfl (by first | (show _ ∨ _; decide) | (show (_ ∨ _) ∧ (_ ∨ _); decide) | (show (_ ∨ _) ∧ (_ ∨ _) ∧ (_ ∨ _); decide)) ?_)
          | (refine R_go 9999 rfl rfl ?_ ?_))
      exact ⟨A, B, rfl, rfl, FmO_rf, FmJ_rf⟩
    · rw [if_neg hPe]
      have n1 : ¬ A 31 0 21 = 0 := by rw [hG.1, isE.1 hPe]; decide
      repeat' (first
          | (refine R_br rfl rfl (fun hbr => absurd hbr (by first | decide | (with_reducible assumption))) (fun _ => ?_))
          | (refine R_br rfl rfl (fun _ => ?_) (fun hbr => absurd (by first | decide | (with_reducible assumption)) hbr))
          | (refine R_br rfl rfl (fun _ => ?_) (fun _ => ?_))
          | (refine R_ri rfl rfl ?_)
          | (refine R_rz rfl rfl (Or.inl rfl) ?_)
          | (refine R_rz rfl rfl (Or.inr rfl) ?_)
          | (refine R_rz rfl rfl (b2_01 _) ?_)
          | (refine R_rl rfl rfl ?_)
          | (refine R_rv rfl rfl ?_)
          | (refine R_csr rfl (hin) rfl rfl rfl (Nat.le_of_ble_eq_true rfl) rfl ?_)
          | (refine R_cv rfl (m_whereOf (okG_ne hP hPe) hW hG hR hM k (by omega)) rfl rfl rfl rfl rfl (Nat.le_of_ble_eq_true rfl) rfl ?_)
          | (refine R_sw _ rfl rfl rfl ?_)
          | (refine R_go 9999 rfl rfl trivial ?_)
          | (refine R_go 9999 rfl rfl (by first | (show _ ∨ _; decide) | (show (_ ∨ _) ∧ (_ ∨ _); decide) | (show (_ ∨ _) ∧ (_ ∨ _) ∧ (_ ∨ _); decide)) ?_)
          | (refine R_go 9999 rfl rfl ?_ ?_))
      rintro z h' ⟨A1, B1, rfl, rfl, hF1, hJ1⟩
      repeat' (first
          | (refine R_br rfl rfl (fun hbr => absurd hbr (by first | decide | (with_reducible assumption))) (fun _ => ?_))
          | (refine R_br rfl rfl (fun _ => ?_) (fun hbr => absurd (by first | decide | (with_reducible assumption)) hbr))
          | (refine R_br rfl rfl (fun _ => ?_) (fun _ => ?_))
          | (refine R_ri rfl rfl ?_)
          | (refine R_rz rfl rfl (Or.inl rfl) ?_)
          | (refine R_rz rfl rfl (Or.inr rfl) ?_)
          | (refine R_rz rfl rfl (b2_01 _) ?_)
          | (refine R_rl rfl rfl ?_)
          | (refine R_rv rfl rfl ?_)
          | (refine R_sw _ rfl rfl rfl ?_)
          | (refine R_go 9999 rfl rfl trivial ?_)
          | (refine R_go 9999 rfl rfl (by first | (show _ ∨ _; decide) | (show (_ ∨ _) ∧ (_ ∨ _); decide) | (show (_ ∨ _) ∧ (_ ∨ _) ∧ (_ ∨ _); decide)) ?_)
          | (refine R_go 9999 rfl rfl ?_ ?_))
      exact ⟨A1, B1, rfl, rfl, hF1, hJ1⟩
  · rw [if_neg hx]
    repeat' (first
        | (refine R_br rfl rfl (fun hbr => absurd hbr (by first | decide | (with_reducible assumption))) (fun _ => ?_))
        | (refine R_br rfl rfl (fun _ => ?_) (fun hbr => absurd (by first | decide | (with_reducible assumption)) hbr))
        | (refine R_br rfl rfl (fun _ => ?_) (fun _ => ?_))
        | (refine R_ri rfl rfl ?_)
        | (refine R_rz rfl rfl (Or.inl rfl) ?_)
        | (refine R_rz rfl rfl (Or.inr rfl) ?_)
        | (refine R_rz rfl rfl (b2_01 _) ?_)
        | (refine R_rl rfl rfl ?_)
        | (refine R_rv rfl rfl ?_)
        | (refine R_csr rfl (m_inF x 0 5 (by simp only [Int64.reduceToInt]; exact hx) _ _) rfl rfl rfl (Nat.le_of_ble_eq_true rfl) rfl ?_)
        | (refine R_sw _ rfl rfl rfl ?_)
        | (refine R_go 9999 rfl rfl trivial ?_)
        | (refine R_go 9999 rfl rfl (by first | (show _ ∨ _; decide) | (show (_ ∨ _) ∧ (_ ∨ _); decide) | (show (_ ∨ _) ∧ (_ ∨ _) ∧ (_ ∨ _); decide)) ?_)
        | (refine R_go 9999 rfl rfl ?_ ?_))
    exact ⟨A, B, rfl, rfl, FmO_rf, FmJ_rf⟩
