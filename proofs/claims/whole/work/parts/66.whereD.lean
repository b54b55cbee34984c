def WC1 (A : FI) (B : FJ) (z : Option (Nat × Nat × Nat × Nat × Nat)) : Prop := match z with
  | none => A 18 0 8 = -1
  | some y => A 18 0 8 = nI y.1 ∧ A 18 0 9 = nI y.2.1 ∧ A 18 0 10 = nI y.2.2.1 ∧ B 18 0 11 = lN y.2.2.2.1 ∧ B 18 0 12 = lN y.2.2.2.2
def wup (z : Option (Nat × Nat × Nat × Nat × Nat)) (f a b u l : Nat) : Option (Nat × Nat × Nat × Nat × Nat) := match z with
  | none => some (f, a, b, u, l)
  | some y => if y.2.2.2.1 * l < u * y.2.2.2.2 then some (f, a, b, u, l) else some y
def okY (z : Option (Nat × Nat × Nat × Nat × Nat)) : Prop := ∀ y, z = some y → y.1 < 8 ∧ y.2.2.2.1 ≤ 576 ∧ y.2.2.2.2 ≤ 576
theorem m_keep {A : FI} {B : FJ} {z : Option (Nat × Nat × Nat × Nat × Nat)} (hz : okY z) (hr : WC1 A B z) (f a b u l : Nat) (hu : u ≤ 576) (hl : l ≤ 576) : MV 0 5 mtX1_keepIfGreater [.inr (.inr (some (18, 0))), .inl (nI f), .inl (nI a), .inl (nI b), .inr (.inl (lN u)), .inr (.inl (lN l))] (hp A B) (fun r h' => ∃ A' B', r = none ∧ h' = hp A' B' ∧ WC1 A' B' (wup z f a b u l) ∧ FmO 18 [] [8, 9, 10] A A' ∧ FmJ [18] B B') := by
  refine MV_of caX1_keepIfGreater (L := [some (.inr (.inr (some (18, 0)))), some (.inl (nI f)), some (.inl (nI a)), some (.inl (nI b)), some (.inr (.inl (lN u))), none, some (.inr (.inl (lN l))), none]) rfl rfl ?_
  have hput : wup z f a b u l = some (f, a, b, u, l) → Rn 0 mtX1_keepIfGreater 26 [some (.inr (.inr (some (18, 0)))), some (.inl (nI f)), some (.inl (nI a)), some (.inl (nI b)), some (.inr (.inl (lN u))), none, some (.inr (.inl (lN l))), none] [] (hp A B) (fun r h' => ∃ A' B', r = none ∧ h' = hp A' B' ∧ WC1 A' B' (wup z f a b u l) ∧ FmO 18 [] [8, 9, 10] A A' ∧ FmJ [18] B B') := by
    intro e
    rw [e]
    repeat' (first
        | (refine R_br rfl rfl (fun hbr => absurd hbr (by first | decide | (with_reducible assumption))) (fun _ => ?_))
        | (refine R_br rfl rfl (fun _ => ?_) (fun hbr => absurd (by first | decide | (with_reducible assumption)) hbr))
        | (refine R_br rfl rfl (fun _ => ?_) (fun _ => ?_))
        | (refine R_ri rfl rfl ?_)
        | (refine R_rz rfl rfl (Or.inl rfl) ?_)
        | (refine R_rz rfl rfl (Or.inr rfl) ?_)
        | (refine R_rz rfl rfl (b2_01 _) ?_)
        | (refine R_rl rfl rfl ?_)
        | (refine R_rv rfl rfl ?_)
        | (refine R_sw _ rfl rfl rfl ?_)
        | (refine R_go 9999 rfl rfl trivial ?_)
        | (refine R_go 9999 rfl rfl (by first | (show _ ∨ _; decide) | (show (_ ∨ _) ∧ (_ ∨ _); decide) | (show (_ ∨ _) ∧ (_ ∨ _) ∧ (_ ∨ _); decide)) ?_)
        | (refine R_go 9999 rfl rfl ?_ ?_))
    exact ⟨_, _, rfl, rfl, ⟨by simp [up3], by simp [up3], by simp [up3], by simp [up3], by simp [up3]⟩, (by first | exact FmO_rf | (repeat' (first | exact FmO_rf | (with_reducible assumption) | (refine FmO_up ?_ (by decide)) | (refine FmO_ug ?_ (by decide) (by decide))))), FmJ_up (FmJ_up FmJ_rf (by decide)) (by decide)⟩
  refine R_go 9999 rfl rfl trivial ?_
  try dsimp only [fgt, fpt]
  cases z with
  | none =>
    have e8 : A 18 0 8 = -1 := hr
    exact R_br rfl rfl (fun _ => hput rfl) (fun h => absurd e8 h)
  | some y =>
    obtain ⟨e8, e9, e10, e11, e12⟩ := hr
    obtain ⟨y1, y2, y3⟩ := hz y rfl
    have ty := ti y.1 (by omega)
    have n8 : ¬ A 18 0 8 = -1 := by rw [e8]; (simp only [i_eq, i_lt, i_le, Int32.reduceToInt, true_and, and_true, false_and, and_false, or_false, false_or, or_true, true_or, ne_eq] at *; first | done | omega)
    refine R_br rfl rfl (fun h => absurd h n8) (fun _ => ?_)
    refine R_go 9999 rfl rfl trivial ?_
    try dsimp only [fgt, fpt]
    rw [e11, e12, lN_mul, lN_mul]
    have m1 : u * y.2.2.2.2 ≤ 576 * 576 := Nat.mul_le_mul hu y3
    have m2 : y.2.2.2.1 * l ≤ 576 * 576 := Nat.mul_le_mul y2 hl
    by_cases hlt : y.2.2.2.1 * l < u * y.2.2.2.2
    · have n1 : ¬ lg_cmp (lN (u * y.2.2.2.2)) (lN (y.2.2.2.1 * l)) ≤ 0 := by
        rw [lg_cmp_le, j_le, lN_tn (by omega), lN_tn (by omega)]; omega
      exact R_br rfl rfl (fun h => absurd h n1) (fun _ => hput (if_pos hlt))
    · have n1 : lg_cmp (lN (u * y.2.2.2.2)) (lN (y.2.2.2.1 * l)) ≤ 0 := by
        rw [lg_cmp_le, j_le, lN_tn (by omega), lN_tn (by omega)]; omega
      refine R_br rfl rfl (fun _ => ?_) (fun h => absurd n1 h)
      repeat' (first
          | (refine R_br rfl rfl (fun hbr => absurd hbr (by first | decide | (with_reducible assumption))) (fun _ => ?_))
          | (refine R_br rfl rfl (fun _ => ?_) (fun hbr => absurd (by first | decide | (with_reducible assumption)) hbr))
          | (refine R_br rfl rfl (fun _ => ?_) (fun _ => ?_))
          | (refine R_ri rfl rfl ?_)
          | (refine R_rz rfl rfl (Or.inl rfl) ?_)
          | (refine R_rz rfl rfl (Or.inr rfl) ?_)
          | (refine R_rz rfl rfl (b2_01 _) ?_)
          | (refine R_rl rfl rfl ?_)
          | (refine R_rv rfl rfl ?_)
          | (refine R_sw _ rfl rfl rfl ?_)
          | (refine R_go 9999 rfl rfl trivial ?_)
          | (refine R_go 9999 rfl rfl (by first | (show _ ∨ _; decide) | (show (_ ∨ _) ∧ (_ ∨ _); decide) | (show (_ ∨ _) ∧ (_ ∨ _) ∧ (_ ∨ _); decide)) ?_)
          | (refine R_go 9999 rfl rfl ?_ ?_))
      have e : wup (some y) f a b u l = some y := if_neg hlt
      rw [e]
      exact ⟨A, B, rfl, rfl, ⟨e8, e9, e10, e11, e12⟩, FmO_rf, FmJ_rf⟩
def WCr (A : FI) (B : FJ) (z : WS) : Prop := A 18 0 13 = nI z.2 ∧ WC1 A B z.1
theorem wst1_up {P : List (List Tk × Nat)} {R : List Rw} {f a b : Nat} {z : WS} (h : 0 < gcM R f a b true R.length ∧ 0 < gcM R f a b false R.length) : wst1 P R f a b z = (wup z.1 f a b (gpN (gcL P R f a b true R.length) (gcM R f a b true R.length) (gcL P R f a b false R.length) (gcM R f a b false R.length)) (gcM R f a b true R.length * gcM R f a b false R.length), z.2 + 1) := by
  obtain ⟨z1, z2⟩ := z
  cases z1 with
  | none => rw [wst1_none h]; rfl
  | some y =>
    by_cases hl : y.2.2.2.1 * (gcM R f a b true R.length * gcM R f a b false R.length) < gpN (gcL P R f a b true R.length) (gcM R f a b true R.length) (gcL P R f a b false R.length) (gcM R f a b false R.length) * y.2.2.2.2
    · rw [wst1_gt h hl]; simp only [wup, if_pos hl]
    · rw [wst1_le h hl]; simp only [wup, if_neg hl]
noncomputable def pxM (R : List Rw) (f a b : Nat) : Nat := if a < b then gcM R f a (b - 1) true R.length else 0
noncomputable def pxL (P : List (List Tk × Nat)) (R : List Rw) (f a b : Nat) : Nat := if a < b then gcL P R f a (b - 1) true R.length else 0
theorem pxM_s {R : List Rw} {f a b : Nat} (h : a ≤ b) : pxM R f a b + gcM R f b b true R.length = gcM R f a b true R.length ∧ pxM R f a (b + 1) = gcM R f a b true R.length := by
  refine ⟨?_, by unfold pxM; rw [if_pos (by omega)]; rfl⟩
  unfold pxM
  by_cases e : a < b
  · rw [if_pos e]
    obtain ⟨c, rfl⟩ : ∃ c, b = c + 1 := ⟨b - 1, by omega⟩
    exact (gcM_ad (by omega) _).symm
  · rw [if_neg e]
    have : a = b := by omega
    subst this
    omega
theorem pxL_s {P : List (List Tk × Nat)} {R : List Rw} {f a b : Nat} (h : a ≤ b) : pxL P R f a b + gcL P R f b b true R.length = gcL P R f a b true R.length ∧ pxL P R f a (b + 1) = gcL P R f a b true R.length := by
  refine ⟨?_, by unfold pxL; rw [if_pos (by omega)]; rfl⟩
  unfold pxL
  by_cases e : a < b
  · rw [if_pos e]
    obtain ⟨c, rfl⟩ : ∃ c, b = c + 1 := ⟨b - 1, by omega⟩
    exact (gcL_ad (by omega) _).symm
  · rw [if_neg e]
    have : a = b := by omega
    subst this
    omega
abbrev FmU2 (A A' : FI) : Prop := FmO 18 [] [8, 9, 10, 13] A A'
theorem TLy_2 {A A' : FI} {P : List (List Tk × Nat)} {R : List Rw} {f n : Nat} (h : TLy A P R f n) (hF : FmU2 A A') : TLy A' P R f n := ⟨by rw [hF.2 6 (by decide)]; exact h.1, by rw [hF.2 7 (by decide)]; exact h.2.1, fun v hv => by rw [hF.1 22 (by decide) (by simp), hF.1 23 (by decide) (by simp)]; exact h.2.2 v hv⟩
abbrev laL (f fr to a : Nat) (o5 o6 o7 o8 : Option AV) : List (Option AV) := [some (.inr (.inr (some (18, 0)))), some (.inl (nI f)), some (.inl (nI fr)), some (.inl (nI to)), some (.inl (nI a)), o5, o6, o7, o8, none]
theorem okY_of {z : WS} (h : okW z) : okY z.1 := fun y hy => by have := h.2 y hy; exact ⟨this.1, this.2.2.2.1, this.2.2.2.2.1⟩
theorem l_lookB {P : List (List Tk × Nat)} {R : List Rw} {f fr to a : Nat} (hf : f < 8) (ha : a ≤ 20) (hto : to ≤ 20) (hok : okR R) (h24 : R.length ≤ 24) {Q : Option AV → AH → Prop} : ∀ (n b : Nat) (A : FI) (B : FJ) (z : WS), b + n = to + 1 → a ≤ b → TLy A P R f R.length → okW z → WCr A B z → z.2 + n ≤ 100000 → (∀ A' B' o5 o6 o7 o8, FmU2 A A' → FmJ [18] B B' → WCr A' B' (wB P R f a b n z) → Rn 1 mtX1_lookAlong 146 (laL f fr to a o5 o6 o7 o8) [] (hp A' B') Q) → ∀ o8, Rn 1 mtX1_lookAlong 30 (laL f fr to a (some (.inl (nI (pxM R f a b)))) (some (.inl (nI (pxL P R f a b)))) (some (.inl (nI b))) o8) [] (hp A B) Q := by
  have tt := ti to (by omega)
  intro n
  induction n with
  | zero =>
    intro b A B z hb hab hT hz hzr hn kk o8
    have : b = to + 1 := by omega
    subst this
    have tb := ti (to + 1) (by omega)
    refine R_go 9999 rfl rfl trivial ?_
    refine R_br rfl rfl (fun _ => ?_) (fun h => absurd (by (simp only [i_eq, i_lt, i_le, Int32.reduceToInt, true_and, and_true, false_and, and_false, or_false, false_or, or_true, true_or, ne_eq] at *; first | done | omega)) h)
    exact kk A B _ _ _ _ FmO_rf FmJ_rf hzr
  | succ n ih =>
    intro b A B z hb hab hT hz hzr hn kk o8
    have hb20 : b ≤ 20 := by omega
    have tb := ti b (by omega)
    have cb : (nI b).toNatClampNeg = b := nI_clamp (by omega)
    have hvb : vp_in (nI b) 21 := vpN (n := 21) (by omega) rfl
    obtain ⟨t6, t7, t22⟩ := hT
    obtain ⟨e22, e23⟩ := t22 b hb20
    obtain ⟨p1, p2⟩ := pxM_s (R := R) (f := f) hab
    obtain ⟨p3, p4⟩ := pxL_s (P := P) (R := R) (f := f) hab
    have hm := gcM_tf (a := a) (b := b) hf hok R.length (Nat.le_refl _)
    have hl := gcL_tf (P := P) (a := a) (b := b) hf hok R.length (Nat.le_refl _)
    obtain ⟨g1, g2, g3, g4⟩ := gpw (P := P) h24 f a b
    have b1 := gc24 h24 f a b true
    have b2' := gc24 h24 f a b false
    have hstok := wst1_ok (P := P) h24 hf ha hb20 hz (by omega)
    refine R_go 9999 rfl rfl trivial ?_
    refine R_br rfl rfl (fun h => absurd h (by (simp only [i_eq, i_lt, i_le, Int32.reduceToInt, true_and, and_true, false_and, and_false, or_false, false_or, or_true, true_or, ne_eq] at *; first | done | omega))) (fun _ => ?_)
    refine R_go 9999 rfl rfl trivial ?_
    refine R_br rfl rfl (fun h => absurd h (by (simp only [i_eq, i_lt, i_le, Int32.reduceToInt, true_and, and_true, false_and, and_false, or_false, false_or, or_true, true_or, ne_eq] at *; first | done | omega))) (fun _ => ?_)
    refine R_go 9999 rfl rfl ⟨hvb, hvb⟩ ?_
    rw [cb, e22, e23, nI_add, nI_add, p1, p3]
    have t1 := ti (gcM R f a b true R.length) (by omega)
    have t2 := ti (gcM R f 0 20 true R.length) (by omega)
    have hskip : ¬ (0 < gcM R f a b true R.length ∧ 0 < gcM R f a b false R.length) → ∀ o8, Rn 1 mtX1_lookAlong 140 (laL f fr to a (some (.inl (nI (gcM R f a b true R.length)))) (some (.inl (nI (gcL P R f a b true R.length)))) (some (.inl (nI b))) o8) [] (hp A B) Q := by
      intro hno o8
      refine R_go 30 rfl rfl trivial ?_
      rw [nI_1, ← p2, ← p4]
      have e : wst1 P R f a b z = z := if_neg hno
      refine ih (b + 1) A B z (by omega) (by omega) ⟨t6, t7, t22⟩ hz hzr (by omega) ?_ _
      rw [wB, e] at kk
      exact kk
    by_cases hi : 0 < gcM R f a b true R.length
    · refine R_br rfl rfl (fun h => absurd h (by (simp only [i_eq, i_lt, i_le, Int32.reduceToInt, true_and, and_true, false_and, and_false, or_false, false_or, or_true, true_or, ne_eq] at *; first | done | omega))) (fun _ => ?_)
      refine R_go 9999 rfl rfl trivial ?_
      try dsimp only [fgt, fpt]
      rw [t6]
      by_cases ho : 0 < gcM R f a b false R.length
      · refine R_br rfl rfl (fun h => absurd h (by (simp only [i_eq, i_lt, i_le, Int32.reduceToInt, true_and, and_true, false_and, and_false, or_false, false_or, or_true, true_or, ne_eq] at *; first | done | omega))) (fun _ => ?_)
        refine R_go 9999 rfl rfl trivial ?_
        try dsimp only [fgt, fpt]
        have e13 : A 18 0 13 = nI z.2 := hzr.1
        have u6 : ∀ x, up3 A 18 0 13 x 18 0 6 = nI (gcM R f 0 20 true R.length) := fun x => by rw [up3_s (by decide)]; exact t6
        have u7 : ∀ x, up3 A 18 0 13 x 18 0 7 = nI (gcL P R f 0 20 true R.length) := fun x => by rw [up3_s (by decide)]; exact t7
        have s1 : nI (gcM R f 0 20 true R.length) - nI (gcM R f a b true R.length) = nI (gcM R f a b false R.length) := by rw [nI_sub (by omega)]; congr 1; omega
        have s2 : nI (gcL P R f 0 20 true R.length) - nI (gcL P R f a b true R.length) = nI (gcL P R f a b false R.length) := by rw [nI_sub (by omega)]; congr 1; omega
        rw [e13, nI_1, u6, u7, s1, s2, pk_mul, pk_mul]
        refine R_mabs rfl qm_X1_83 (Nat.le_of_ble_eq_true rfl) (Nat.le_refl _) (Nat.le_refl _) rfl ?_
        rw [abs_nI (by omega) (by omega), show (gcL P R f a b true R.length * gcM R f a b false R.length - gcL P R f a b false R.length * gcM R f a b true R.length) + (gcL P R f a b false R.length * gcM R f a b true R.length - gcL P R f a b true R.length * gcM R f a b false R.length) = gpN (gcL P R f a b true R.length) (gcM R f a b true R.length) (gcL P R f a b false R.length) (gcM R f a b false R.length) from rfl]
        refine R_go 9999 rfl rfl trivial ?_
        try dsimp only [fgt, fpt]
        rw [u6, s1, pk_mul, nI_l (by omega), nI_l (by omega)]
        have hzr1 : WC1 (up3 A 18 0 13 (nI (z.2 + 1))) B z.1 := by
          have h := hzr.2
          obtain ⟨z1, z2⟩ := z
          cases z1 with
          | none => show _ = _; rw [up3_s (by decide)]; exact h
          | some y => exact ⟨by rw [up3_s (by decide)]; exact h.1, by rw [up3_s (by decide)]; exact h.2.1, by rw [up3_s (by decide)]; exact h.2.2.1, h.2.2.2⟩
        refine R_cv rfl (m_keep (okY_of hz) hzr1 f a b _ _ g3 g4) rfl rfl rfl rfl rfl (Nat.le_of_ble_eq_true rfl) rfl ?_
        rintro r h' ⟨A1, B1, rfl, rfl, hw1, hF1, hJ1⟩
        have hF2 : FmU2 A A1 := FmO_tr (FmO_up FmO_rf (by decide)) (FmO_w hF1 (by decide) (by decide))
        refine R_go 30 rfl rfl trivial ?_
        rw [nI_1, ← p2, ← p4]
        have est := wst1_up (P := P) (z := z) ⟨hi, ho⟩
        refine ih (b + 1) A1 B1 (wst1 P R f a b z) (by omega) (by omega) (TLy_2 ⟨t6, t7, t22⟩ hF2) hstok.1 ?_ (by have := hstok.2; omega) (fun A' B' p5 p6 p7 p8 hF hJ hr => kk A' B' p5 p6 p7 p8 (FmO_tr hF2 hF) (FmJ_tr hJ1 hJ) hr) _
        rw [est]
        exact ⟨by rw [hF1.2 13 (by decide), up3_self], hw1⟩
      · exact R_br rfl rfl (fun _ => hskip (fun z => ho z.2) _) (fun h => absurd (by (simp only [i_eq, i_lt, i_le, Int32.reduceToInt, true_and, and_true, false_and, and_false, or_false, false_or, or_true, true_or, ne_eq] at *; first | done | omega)) h)
    · exact R_br rfl rfl (fun _ => hskip (fun z => hi z.1) _) (fun h => absurd (by (simp only [i_eq, i_lt, i_le, Int32.reduceToInt, true_and, and_true, false_and, and_false, or_false, false_or, or_true, true_or, ne_eq] at *; first | done | omega)) h)
theorem l_lookA {P : List (List Tk × Nat)} {R : List Rw} {f fr to : Nat} (hf : f < 8) (hto : to ≤ 20) (hok : okR R) (h24 : R.length ≤ 24) (A0 : FI) (B0 : FJ) : ∀ (n a : Nat) (A : FI) (B : FJ) (z : WS), a + n = to + 1 → TLy A P R f R.length → okW z → WCr A B z → z.2 + n * 21 ≤ 100000 → FmU2 A0 A → FmJ [18] B0 B → ∀ o5 o6 o7 o8, Rn 1 mtX1_lookAlong 7 (laL f fr to a o5 o6 o7 o8) [] (hp A B) (fun r h' => ∃ A' B', r = none ∧ h' = hp A' B' ∧ FmU2 A0 A' ∧ FmJ [18] B0 B' ∧ WCr A' B' (wAl P R f to a n z)) := by
  have tt := ti to (by omega)
  intro n
  induction n with
  | zero =>
    intro a A B z hb hT hz hzr hn hF hJ o5 o6 o7 o8
    have : a = to + 1 := by omega
    subst this
    have tb := ti (to + 1) (by omega)
    refine R_go 9999 rfl rfl trivial ?_
    refine R_br rfl rfl (fun _ => ?_) (fun h => absurd (by (simp only [i_eq, i_lt, i_le, Int32.reduceToInt, true_and, and_true, false_and, and_false, or_false, false_or, or_true, true_or, ne_eq] at *; first | done | omega)) h)
    repeat' (first
        | (refine R_br rfl rfl (fun hbr => absurd hbr (by first | decide | (with_reducible assumption))) (fun _ => ?_))
        | (refine R_br rfl rfl (fun _ => ?_) (fun hbr => absurd (by first | decide | (with_reducible assumption)) hbr))
        | (refine R_br rfl rfl (fun _ => ?_) (fun _ => ?_))
        | (refine R_ri rfl rfl ?_)
        | (refine R_rz rfl rfl (Or.inl rfl) ?_)
        | (refine R_rz rfl rfl (Or.inr rfl) ?_)
        | (refine R_rz rfl rfl (b2_01 _) ?_)
        | (refine R_rl rfl rfl ?_)
        | (refine R_rv rfl rfl ?_)
        | (refine R_sw _ rfl rfl rfl ?_)
        | (refine R_go 9999 rfl rfl trivial ?_)
        | (refine R_go 9999 rfl rfl (by first | (show _ ∨ _; decide) | (show (_ ∨ _) ∧ (_ ∨ _); decide) | (show (_ ∨ _) ∧ (_ ∨ _) ∧ (_ ∨ _); decide)) ?_)
        | (refine R_go 9999 rfl rfl ?_ ?_))
    exact ⟨A, B, rfl, rfl, hF, hJ, hzr⟩
  | succ n ih =>
    intro a A B z hb hT hz hzr hn hF hJ o5 o6 o7 o8
    have ta := ti a (by omega)
    refine R_go 9999 rfl rfl trivial ?_
    refine R_br rfl rfl (fun h => absurd h (by (simp only [i_eq, i_lt, i_le, Int32.reduceToInt, true_and, and_true, false_and, and_false, or_false, false_or, or_true, true_or, ne_eq] at *; first | done | omega))) (fun _ => ?_)
    refine R_go 9999 rfl rfl trivial ?_
    refine R_br rfl rfl (fun h => absurd h (by (simp only [i_eq, i_lt, i_le, Int32.reduceToInt, true_and, and_true, false_and, and_false, or_false, false_or, or_true, true_or, ne_eq] at *; first | done | omega))) (fun _ => ?_)
    refine R_go 30 rfl rfl trivial ?_
    have hpx : pxM R f a a = 0 := if_neg (by omega)
    have hpl : pxL P R f a a = 0 := if_neg (by omega)
    have := l_lookB (P := P) (fr := fr) (Q := fun r h' => ∃ A' B', r = none ∧ h' = hp A' B' ∧ FmU2 A0 A' ∧ FmJ [18] B0 B' ∧ WCr A' B' (wAl P R f to a (n + 1) z)) hf (show a ≤ 20 by omega) hto hok h24 (to + 1 - a) a A B z (by omega) (Nat.le_refl _) hT hz hzr (by omega) (fun A' B' p5 p6 p7 p8 hF1 hJ1 hr => ?_) o8
    · rw [hpx, hpl] at this
      exact this
    · have hok2 := wB_ok (P := P) h24 hf (show a ≤ 20 by omega) (to + 1 - a) a z (by omega) hz (by omega)
      refine R_go 7 rfl rfl trivial ?_
      rw [nI_1]
      exact ih (a + 1) A' B' (wB P R f a a (to + 1 - a) z) (by omega) (TLy_2 hT hF1) hok2.1 hr (by have := hok2.2; omega) (FmO_tr hF hF1) (FmJ_tr hJ hJ1) p5 p6 p7 p8
theorem m_lookAlong {P : List (List Tk × Nat)} {R : List Rw} {f fr to : Nat} (hf : f < 8) (hfr : fr ≤ to) (hto : to ≤ 20) (hok : okR R) (h24 : R.length ≤ 24) {A : FI} {B : FJ} {z : WS} (hT : TLy A P R f R.length) (hz : okW z) (hzr : WCr A B z) (hn : z.2 + (to + 1 - fr) * 21 ≤ 100000) : MV 1 3 mtX1_lookAlong [.inr (.inr (some (18, 0))), .inl (nI f), .inl (nI fr), .inl (nI to)] (hp A B) (fun r h' => ∃ A' B', r = none ∧ h' = hp A' B' ∧ FmU2 A A' ∧ FmJ [18] B B' ∧ WCr A' B' (wAl P R f to fr (to + 1 - fr) z)) := by
  refine MV_of caX1_lookAlong (L := [some (.inr (.inr (some (18, 0)))), some (.inl (nI f)), some (.inl (nI fr)), some (.inl (nI to)), none, none, none, none, none, none]) rfl rfl ?_
  refine R_go 9999 rfl rfl trivial ?_
  refine R_mmax rfl qm_X1_123 (Nat.le_of_ble_eq_true rfl) (Nat.le_refl _) (Nat.le_refl _) rfl ?_
  have tf := ti fr (by omega)
  have hmx : (if (0 : Int32) < nI fr then nI fr else 0) = nI fr := by
    by_cases h : fr = 0
    · subst h; rfl
    · exact if_pos (by (simp only [i_eq, i_lt, i_le, Int32.reduceToInt, true_and, and_true, false_and, and_false, or_false, false_or, or_true, true_or, ne_eq] at *; first | done | omega))
  rw [hmx]
  refine R_go 7 rfl rfl trivial ?_
  exact l_lookA hf hto hok h24 A B (to + 1 - fr) fr A B z (by omega) hT hz hzr hn FmO_rf FmJ_rf none none none none
