theorem nI_nn {z : Nat} (h : z < 2147483648) : ¬ nI z = -1 := fun e => by
  have h1 := ti z h
  rw [e] at h1
  have : (-1 : Int32).toInt = -1 := by decide
  omega
def evN (P : List (List Tk × Nat)) (R : List Rw) (f v w : Nat) : Prop := mL P R f v * mA P R f w = mL P R f w * mA P R f v
abbrev gll (R : List Rw) (f v w : Nat) : List Nat := gl R f v R.length ++ gl R f w R.length
theorem ev_l (P : List (List Tk × Nat)) (R : List Rw) (f v w : Nat) : (ltN P R (gll R f v w) (mA P R f v) * ((gll R f v w).length - mA P R f v) = (ltN P R (gll R f v w) (gll R f v w).length - ltN P R (gll R f v w) (mA P R f v)) * mA P R f v) ↔ evN P R f v w := by
  have g1 : (gl R f v R.length).length = mA P R f v := gl_len P R f v R.length
  have g2 : (gl R f w R.length).length = mA P R f w := gl_len P R f w R.length
  have h1 : ltN P R (gl R f v R.length) (gl R f v R.length).length = mL P R f v := ltN_gl P R f v R.length
  have h2 : ltN P R (gl R f w R.length) (gl R f w R.length).length = mL P R f w := ltN_gl P R f w R.length
  have a0 := ltN_a (P := P) (R := R) (a := gl R f v R.length) (b := gl R f w R.length) 0 (by omega)
  have a1 := ltN_a (P := P) (R := R) (a := gl R f v R.length) (b := gl R f w R.length) (gl R f w R.length).length (Nat.le_refl _)
  rw [h1] at a0 a1
  rw [h2] at a1
  rw [Nat.add_zero, show ltN P R (gl R f w R.length) 0 = 0 from rfl, Nat.add_zero] at a0
  have el : (gll R f v w).length = (gl R f v R.length).length + (gl R f w R.length).length := List.length_append
  rw [el, a1, ← g1, a0, g1, g2, Nat.add_sub_cancel_left, Nat.add_sub_cancel_left]
  exact Iff.rfl
theorem gll_b {R : List Rw} {f v w : Nat} : ∀ k, k < (gll R f v w).length → (gll R f v w).getD k 0 < R.length := fun k hk => by
  have hm : (gll R f v w).getD k 0 ∈ gll R f v w := by
    rw [List.getD_eq_getElem?_getD, List.getElem?_eq_getElem hk]
    exact List.getElem_mem hk
  rcases List.mem_append.mp hm with h | h
  · exact gl_lt _ h
  · exact gl_lt _ h
def MeR (A : FI) (R : List Rw) (f v w : Nat) : Prop := MrR A (gll R f v w) ∧ A 26 0 2 = nI (gl R f v R.length).length
theorem m_isEven {P P0 : List (List Tk × Nat)} {R : List Rw} {f v w : Nat} (hne : v ≠ w) (hP : okP P) {A : FI} {B : FJ} (hR : RCR A P0 R) (hS : RS 6 A P []) (hM : MeR A R f v w) : MV 3 3 mtX4_isEven [.inr (.inr (some (26, 0))), .inr (.inr (some (4, 6))), .inr (.inr (some (10, 0))), .inr (.inr (some (18, 0)))] (hp A B) (IEo A B (evN P R f v w)) := by
  have g1 : (gl R f v R.length).length = mA P R f v := gl_len P R f v R.length
  have hd := gl_dis (R := R) (f := f) hne R.length
  have el : (gll R f v w).length = (gl R f v R.length).length + (gl R f w R.length).length := List.length_append
  refine MV_of caX4_isEven (L := [some (.inr (.inr (some (26, 0)))), some (.inr (.inr (some (4, 6)))), some (.inr (.inr (some (10, 0)))), some (.inr (.inr (some (18, 0)))), none, none, none, none, none]) rfl rfl ?_
  refine R_go 9 rfl rfl trivial ?_
  have hb : A 26 0 2 = nI (mA P R f v) := by rw [hM.2, g1]
  have h24 := hR.2.1
  have := l_isEven (A0 := A) (B0 := B) hP (L := gll R f v w) (fs := mA P R f v) (by omega) (by omega) gll_b hR hS hM.1 hb (gll R f v w).length 0 A B (by omega) FmO_rf FmJ_rf none none
  rw [show min 0 (mA P R f v) = 0 by omega] at this
  refine R_mono (fun r h' z => ?_) this
  obtain ⟨A', B', q1, q2, q3⟩ := z
  exact ⟨A', B', q1, by rw [q2, b2_c (ev_l P R f v w)], q3⟩
theorem m_putNumber {n i : Nat} {x : Int32} {A : FI} {B : FJ} (h : A 4 6 4 = nI n) (hi : i < n) (hn : n ≤ 80) : MV 0 2 mtX7_putNumber [.inr (.inr (some (4, 6))), .inl (nI i), .inl x] (hp A B) (Ret none (hp (up3 A 6 6 i x) B)) := by
  have ti1 := ti i (by omega)
  have tn := ti n (by omega)
  have ci : (nI i).toNatClampNeg = i := nI_clamp (by omega)
  have hv : vp_in (nI i) 80 := vpN (n := 80) (by omega) rfl
  refine MV_of caX7_putNumber (L := [some (.inr (.inr (some (4, 6)))), some (.inl (nI i)), some (.inl x)]) rfl rfl ?_
  refine R_go 9999 rfl rfl trivial ?_
  refine R_br rfl rfl (fun h => absurd h (by (simp only [i_eq, i_lt, i_le, Int32.reduceToInt, true_and, and_true, false_and, and_false, or_false, false_or, or_true, true_or, ne_eq] at *; first | done | omega))) (fun _ => ?_)
  refine R_go 9999 rfl rfl trivial ?_
  try dsimp only [fgt, fpt]
  rw [h]
  refine R_br rfl rfl (fun h => absurd h (by (simp only [i_eq, i_lt, i_le, Int32.reduceToInt, true_and, and_true, false_and, and_false, or_false, false_or, or_true, true_or, ne_eq] at *; first | done | omega))) (fun _ => ?_)
  refine R_go 9999 rfl rfl hv ?_
  rw [ci]
  exact R_rv rfl rfl (ret_v rfl)
theorem m_numbers {n : Nat} {A : FI} {B : FJ} (h : A 4 6 4 = nI n) : MV 0 0 mtX7_numbers [.inr (.inr (some (4, 6)))] (hp A B) (Ret (some (.inl (nI n))) (hp A B)) := by
  refine MV_of caX7_numbers (L := [some (.inr (.inr (some (4, 6))))]) rfl rfl ?_
  refine R_go 9999 rfl rfl trivial ?_
  try dsimp only [fgt, fpt]
  rw [h]
  exact R_ri rfl rfl (ret_i rfl rfl)
abbrev T3 : Type := Nat × Nat × Nat
def MdR (A : FI) (o : Option T3) : Prop := (o = none → A 26 0 3 = -1 ∧ A 26 0 4 = -1 ∧ A 26 0 5 = -1) ∧ ∀ z, o = some z → A 26 0 3 = nI z.1 ∧ A 26 0 4 = nI z.2.1 ∧ A 26 0 5 = nI z.2.2 ∧ 1 ≤ z.2.2 ∧ z.2.2 ≤ 99
noncomputable def trO (ev : Nat → Nat → Prop) (o : Option T3) (i : Nat) (tx : Int) (y : Nat) : Option T3 := match o with
  | some z => some z
  | none => @ite _ (0 ≤ tx ∧ tx ≤ 99 ∧ ev i tx.toNat) (Classical.propDecidable _) (some (i, tx.toNat, y)) none
theorem trO_y {ev : Nat → Nat → Prop} {i y : Nat} {tx : Int} (h : 0 ≤ tx ∧ tx ≤ 99 ∧ ev i tx.toNat) : trO ev none i tx y = some (i, tx.toNat, y) := @if_pos _ (Classical.propDecidable _) h _ _ _
theorem trO_n {ev : Nat → Nat → Prop} {i y : Nat} {tx : Int} (h : ¬ (0 ≤ tx ∧ tx ≤ 99 ∧ ev i tx.toNat)) : trO ev none i tx y = none := @if_neg _ (Classical.propDecidable _) h _ _ _
theorem m_keepX {a b c : Int32} {A : FI} {B : FJ} : MV 0 3 mtX4_keep [.inr (.inr (some (26, 0))), .inl a, .inl b, .inl c] (hp A B) (Ret none (hp (up3 (up3 (up3 A 26 0 3 a) 26 0 4 b) 26 0 5 c) B)) := by
  refine MV_of caX4_keep (L := [some (.inr (.inr (some (26, 0)))), some (.inl a), some (.inl b), some (.inl c)]) rfl rfl ?_
  repeat' (first
      | (refine R_br rfl rfl (fun hbr => absurd hbr (by first | decide | (with_reducible assumption))) (fun _ => ?_))
      | (refine R_br rfl rfl (fun _ => ?_) (fun hbr => absurd (by first | decide | (with_reducible assumption)) hbr))
      | (refine R_br rfl rfl (fun _ => ?_) (fun _ => ?_))
      | (refine R_ri rfl rfl ?_)
      | (refine R_rz rfl rfl (Or.inl rfl) ?_)
      | (refine R_rz rfl rfl (Or.inr rfl) ?_)
      | (refine R_rz rfl rfl (b2_01 _) ?_)
      | (refine R_rl rfl rfl ?_)
      | (refine R_rv rfl rfl ?_)
      | (refine R_sw _ rfl rfl rfl ?_)
      | (refine R_go 9999 rfl rfl trivial ?_)
      | (refine R_go 9999 rfl rfl (by first | (show _ ∨ _; decide) | (show (_ ∨ _) ∧ (_ ∨ _); decide) | (show (_ ∨ _) ∧ (_ ∨ _) ∧ (_ ∨ _); decide)) ?_)
      | (refine R_go 9999 rfl rfl ?_ ?_))
  exact ret_v rfl
def TRo (A : FI) (B : FJ) (o : Option T3) : Option AV → AH → Prop := fun r h' => ∃ A' B', r = none ∧ h' = hp A' B' ∧ FmO 26 [10] [3, 4, 5] A A' ∧ FmJ [11] B B' ∧ MdR A' o
theorem eI_n {tx : Int} (h0 : 0 ≤ tx) (h1 : tx ≤ 1000) : eI tx = nI tx.toNat := by rw [e_n (by omega)]; congr 1; omega
theorem nms_99 {z z' : Nat × List Nat} : ∀ (l : List Tk), wfs z l = some z' → ∀ x ∈ nms l, x ≤ 99 := by
  intro l
  induction l generalizing z with
  | nil => intro _ x hx; cases hx
  | cons t l ih =>
    intro h x hx
    unfold wfs at h
    cases hw : wst z t with
    | none => rw [hw] at h; cases h
    | some z1 =>
      rw [hw] at h
      by_cases h8 : t.1 = 8
      · rw [nms_y h8] at hx
        rcases List.mem_cons.mp hx with rfl | hx
        · exact (wst_n hw h8).1
        · exact ih h x hx
      · rw [nms_x h8] at hx
        exact ih h x hx
theorem okP_99 {P : List (List Tk × Nat)} (h : okP P) : ∀ x ∈ nms (flP P), x ≤ 99 := by
  obtain ⟨⟨dn, d, rfl, hd, hW⟩, -⟩ := h
  have key : ∀ (dn : List (List Tk × Nat)), allW dn → ∀ x ∈ nms (flP (dn ++ [([], d)])), x ≤ 99 := by
    intro dn
    induction dn with
    | nil => intro _ x hx; cases hx
    | cons l t ih =>
      intro hW x hx
      rw [List.cons_append, flP_c, nms_app] at hx
      rcases List.mem_append.mp hx with hx | hx
      · exact nms_99 _ (hW l List.mem_cons_self).2.1 x hx
      · exact ih (fun y hy => hW y (List.mem_cons_of_mem _ hy)) x hx
  exact key dn hW
theorem gd_in {l : List Nat} {i : Nat} (h : i < l.length) : l.getD i 0 ∈ l := by
  rw [List.getD_eq_getElem?_getD, List.getElem?_eq_getElem h]
  exact List.getElem_mem h
theorem m_tryNumber {P P0 : List (List Tk × Nat)} {R : List Rw} {f v w : Nat} (hne : v ≠ w) (hP : okP P) {A : FI} {B : FJ} (hR : RCR A P0 R) (hS : RS 6 A P []) (hM : MeR A R f v w) {o : Option T3} (hD : MdR A o) {i : Nat} (hi : i < (nms (flP P)).length) {e : Int32} {tx : Int} {y : Nat} (hy : 1 ≤ y ∧ y ≤ 99) (htx : -100 ≤ tx ∧ tx ≤ 200) (he : nI ((nms (flP P)).getD i 0) + e = eI tx) (hab : (if 0 ≤ e then e else 0 - e) = nI y) : MV 4 5 mtX4_tryNumber [.inr (.inr (some (26, 0))), .inr (.inr (some (4, 6))), .inr (.inr (some (10, 0))), .inr (.inr (some (18, 0))), .inl (nI i), .inl e] (hp A B) (TRo A B (trO (fun i x => evN (suP P i x) R f v w) o i tx y)) := by
  obtain ⟨s1, s2, s3, s4, s5⟩ := id hS
  have hz := (szk_cd hP.2).2
  have enm : nmO (P, [], []) = nms (flP P) := by
    unfold nmO
    dsimp only
    rw [nmL_fl, show nms [] = [] from rfl, List.append_nil]
  rw [enm] at s3 s4 hz
  have h99 := okP_99 hP _ (gd_in hi)
  have hnum := m_numC (B := B) s3 s4 hz i hi
  have ttx := e_t (x := tx) (by omega) (by omega)
  refine MV_of caX4_tryNumber (L := [some (.inr (.inr (some (26, 0)))), some (.inr (.inr (some (4, 6)))), some (.inr (.inr (some (10, 0)))), some (.inr (.inr (some (18, 0)))), some (.inl (nI i)), some (.inl e), none]) rfl rfl ?_
  refine R_go 9999 rfl rfl trivial ?_
  refine R_cvr rfl hnum rfl rfl rfl rfl rfl (Nat.le_of_ble_eq_true rfl) rfl ?_
  refine R_go 9999 rfl rfl trivial ?_
  try dsimp only [fgt, fpt]
  cases o with
  | some z =>
    obtain ⟨d3, d4, d5, d6, d7⟩ := hD.2 z rfl
    have tz := ti z.2.2 (by omega)
    rw [d5]
    refine R_br rfl rfl (fun h => absurd h (nI_nn (by omega))) (fun _ => ?_)
    refine R_rv rfl rfl ?_
    exact ⟨A, B, rfl, rfl, FmO_rf, FmJ_rf, hD⟩
  | none =>
    obtain ⟨d3, d4, d5⟩ := hD.1 rfl
    rw [d5]
    have no : ¬ (0 ≤ tx ∧ tx ≤ 99 ∧ evN (suP P i tx.toNat) R f v w) → TRo A B (trO (fun i x => evN (suP P i x) R f v w) none i tx y) none (hp A B) := fun hn => by
      rw [trO_n hn]
      exact ⟨A, B, rfl, rfl, FmO_rf, FmJ_rf, hD⟩
    refine R_br rfl rfl (fun _ => ?_) (fun h => absurd rfl h)
    refine R_go 9999 rfl rfl trivial ?_
    rw [he]
    by_cases h0 : 0 ≤ tx
    · refine R_br rfl rfl (fun h => absurd h (by rw [i_lt, ttx, (by decide : (0 : Int32).toInt = 0)]; omega)) (fun _ => ?_)
      refine R_go 9999 rfl rfl trivial ?_
      rw [he]
      by_cases h1 : tx ≤ 99
      · refine R_br rfl rfl (fun _ => ?_) (fun h => absurd (by rw [i_le, ttx, (by decide : (99 : Int32).toInt = 99)]; exact h1) h)
        have hx99 : tx.toNat ≤ 99 := by omega
        refine R_go 9999 rfl rfl trivial ?_
        rw [he, eI_n h0 (by omega)]
        refine R_cvv rfl (m_putNumber s4 hi hz) rfl rfl rfl rfl rfl (Nat.le_of_ble_eq_true rfl) rfl ?_
        have hS1 := RS_su (x := tx.toNat) hS hi
        generalize hA1 : up3 A 6 6 i (nI tx.toNat) = A1 at *
        have a1g : ∀ g, g ≠ 6 → A1 g = A g := fun g hg => by rw [← hA1, up3_g hg]
        have hR1 : RCR A1 P0 R := RCR_fr hR (by rw [a1g 18 (by decide)]) (a1g 20 (by decide)) (a1g 21 (by decide)) (fun i _ => by rw [a1g 25 (by decide)])
        have hM1 : MeR A1 R f v w := ⟨⟨by rw [a1g 26 (by decide)]; exact hM.1.1, by rw [a1g 27 (by decide)]; exact hM.1.2⟩, by rw [a1g 26 (by decide)]; exact hM.2⟩
        refine R_go 9999 rfl rfl trivial ?_
        refine R_cv rfl (m_isEven (B := B) hne (okP_su hP hx99) hR1 hS1 hM1) rfl rfl rfl rfl rfl (Nat.le_of_ble_eq_true rfl) rfl ?_
        rintro r h' ⟨A2, B2, rfl, rfl, hF2, hJ2⟩
        have a2 : ∀ g, g ≠ 10 → A2 g = A1 g := fun g hg => hF2.1 g hg (by simp)
        have back : ∀ A3 : FI, (∀ g, g ≠ 26 → A3 g = A2 g) → (∀ s, s ∉ [3, 4, 5] → A3 26 0 s = A2 26 0 s) → FmO 26 [10] [3, 4, 5] A (up3 A3 6 6 i (nI ((nms (flP P)).getD i 0))) := fun A3 h3 h4 => by
          refine ⟨fun g g1 g2 => ?_, fun s hs => ?_⟩
          · have g10 : g ≠ 10 := fun z => g2 (by rw [z]; decide)
            by_cases g6 : g = 6
            · subst g6
              funext i' s'
              have e6 : A3 6 i' s' = A1 6 i' s' := by rw [h3 6 (by decide), a2 6 (by decide)]
              by_cases hi' : i' = 6
              · subst hi'
                by_cases hs' : s' = i
                · subst hs'
                  rw [up3_self, s3 _ hi]
                · rw [up3_s hs', e6, ← hA1, up3_s hs']
              · rw [up3_i hi', e6, ← hA1, up3_i hi']
            · rw [up3_g g6, h3 g g1, a2 g g10, a1g g g6]
          · rw [up3_g (by decide), h4 s hs, a2 26 (by decide), a1g 26 (by decide)]
        have n4 : ∀ A3 : FI, (∀ g, g ≠ 26 → A3 g = A2 g) → A3 4 6 4 = nI (nms (flP P)).length := fun A3 h3 => by rw [h3 4 (by decide), a2 4 (by decide), a1g 4 (by decide)]; exact s4
        rcases Classical.em (evN (suP P i tx.toNat) R f v w) with hev | hev
        · rw [b2_1 hev, trO_y ⟨h0, h1, hev⟩]
          refine R_br rfl rfl (fun h => absurd h (by decide)) (fun _ => ?_)
          refine R_go 9999 rfl rfl trivial ?_
          rw [he, eI_n h0 (by omega)]
          refine R_mabs rfl qm_X4_68 (Nat.le_of_ble_eq_true rfl) (Nat.le_refl _) (Nat.le_refl _) rfl ?_
          rw [hab]
          refine R_cvv rfl m_keepX rfl rfl rfl rfl rfl (Nat.le_of_ble_eq_true rfl) rfl ?_
          have k3 : ∀ g, g ≠ 26 → up3 (up3 (up3 A2 26 0 3 (nI i)) 26 0 4 (nI tx.toNat)) 26 0 5 (nI y) g = A2 g := fun g hg => by rw [up3_g hg, up3_g hg, up3_g hg]
          refine R_go 9999 rfl rfl trivial ?_
          refine R_cvv rfl (m_putNumber (n4 _ k3) hi hz) rfl rfl rfl rfl rfl (Nat.le_of_ble_eq_true rfl) rfl ?_
          refine R_rv rfl rfl ?_
          refine ⟨_, B2, rfl, rfl, back _ k3 (fun s hs => ?_), hJ2, (fun z => by cases z), fun z hz' => ?_⟩
          · have h1 : s ≠ 3 := fun z => hs (by rw [z]; decide)
            have h2 : s ≠ 4 := fun z => hs (by rw [z]; decide)
            have h3 : s ≠ 5 := fun z => hs (by rw [z]; decide)
            rw [up3_s h3, up3_s h2, up3_s h1]
          · cases hz'
            refine ⟨?_, ?_, ?_, hy.1, hy.2⟩
            · rw [up3_g (by decide), up3_s (by decide), up3_s (by decide)]; exact up3_self
            · rw [up3_g (by decide), up3_s (by decide)]; exact up3_self
            · rw [up3_g (by decide)]; exact up3_self
        · rw [b2_0 hev, trO_n (fun z => hev z.2.2)]
          refine R_br rfl rfl (fun _ => ?_) (fun h => absurd rfl h)
          refine R_go 9999 rfl rfl trivial ?_
          refine R_cvv rfl (m_putNumber (n4 A2 (fun _ _ => rfl)) hi hz) rfl rfl rfl rfl rfl (Nat.le_of_ble_eq_true rfl) rfl ?_
          refine R_rv rfl rfl ?_
          refine ⟨_, B2, rfl, rfl, back A2 (fun _ _ => rfl) (fun _ _ => rfl), hJ2, fun _ => ?_, (fun z hz' => by cases hz')⟩
          rw [up3_g (show 26 ≠ 6 by decide), a2 26 (by decide), a1g 26 (by decide)]
          exact ⟨d3, d4, d5⟩
      · refine R_br rfl rfl (fun h => absurd (by rw [i_le, ttx, (by decide : (99 : Int32).toInt = 99)] at h; exact h) h1) (fun _ => ?_)
        refine R_rv rfl rfl ?_
        exact no (fun z => h1 z.2.1)
    · refine R_br rfl rfl (fun _ => ?_) (fun h => absurd (by rw [i_lt, ttx, (by decide : (0 : Int32).toInt = 0)]; omega) h)
      refine R_rv rfl rfl ?_
      exact no (fun z => h0 z.1)
