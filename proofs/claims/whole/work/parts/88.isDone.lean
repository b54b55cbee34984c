def DNo (A : FI) (B : FJ) (x : Prop) : Option AV → AH → Prop := fun r h' => ∃ A' B', h' = hp A' B' ∧ r = some (.inl (b2 x)) ∧ FmO 31 [51, 53, 54] [] A A' ∧ FmJ [58, 59] B B'
/-- a law bars the box on a side -/
def lbS (bo : Nat → Nat → Int × Int) (LS : List (List Tk)) (k : Nat) : Prop := ∃ j, j < k ∧ (trB (bo 0) (LS.getD j []) = 0 ∨ trB (bo 1) (LS.getD j []) = 0)
theorem lbS_nb {bo : Nat → Nat → Int × Int} {LS : List (List Tk)} {k : Nat} : lbS bo LS k ↔ ¬ nbS (bo 0) LS k ∨ ¬ nbS (bo 1) LS k := by
  constructor
  · rintro ⟨j, hj, h | h⟩
    · exact Or.inl (fun z => z j hj h)
    · exact Or.inr (fun z => z j hj h)
  · intro h
    refine Classical.byContradiction (fun hn => ?_)
    have h1 : ∀ j, j < k → trB (bo 0) (LS.getD j []) ≠ 0 ∧ trB (bo 1) (LS.getD j []) ≠ 0 := fun j hj => ⟨fun e => hn ⟨j, hj, Or.inl e⟩, fun e => hn ⟨j, hj, Or.inr e⟩⟩
    rcases h with h | h
    · exact h (fun j hj => (h1 j hj).1)
    · exact h (fun j hj => (h1 j hj).2)
theorem lbS_s {bo : Nat → Nat → Int × Int} {LS : List (List Tk)} {k : Nat} (h : ¬ lbS bo LS k) (h1 : trB (bo 0) (LS.getD k []) ≠ 0) (h2 : trB (bo 1) (LS.getD k []) ≠ 0) : ¬ lbS bo LS (k + 1) := by
  rintro ⟨j, hj, hh⟩
  by_cases e : j = k
  · subst e; exact hh.elim h1 h2
  · exact h ⟨j, by omega, hh⟩
theorem SBm_f {A A' : FI} {bo : Nat → Nat → Int × Int} (h : ∀ s, s ≤ 1 → SBm s A (bo s)) (e : A' 55 = A 55) : ∀ s, s ≤ 1 → SBm s A' (bo s) := fun s hs f hf => by rw [e]; exact h s hs f hf
abbrev idL (mo is x : Int32) (o4 o5 : Option AV) : List (Option AV) := [some (.inr (.inr (some (31, 0)))), some (.inl mo), some (.inl is), some (.inl x), o4, o5]
theorem l_isDone {mo : Int32} {bo : Nat → Nat → Int × Int} {LS : List (List Tk)} (h99 : ∀ s, s ≤ 1 → b99 (bo s)) (hL : okL LS) {A0 : FI} {B0 : FJ} {Q : Option AV → AH → Prop} (kend : ∀ x A B (p : Prop), (p ↔ lbS bo LS LS.length) → FmO 31 [51, 53, 54] [] A0 A → FmJ [58, 59] B0 B → Rn 3 mtX12_isDone 109 (idL mo (b2 p) x none none) [] (hp A B) Q) : ∀ (m k : Nat) (A : FI) (B : FJ), k + m = LS.length → RML A LS → (∀ s, s ≤ 1 → SBm s A (bo s)) → ¬ lbS bo LS k → FmO 31 [51, 53, 54] [] A0 A → FmJ [58, 59] B0 B → Rn 3 mtX12_isDone 34 (idL mo 0 (nI k) none none) [] (hp A B) Q := by
  intro m
  have h6 := hL.1
  induction m with
  | zero =>
    intro k A B hk hR hq hn hF hJ
    have ek : LS.length = k := by omega
    have n1 : A 31 0 28 ≤ nI k := by rw [hR.1, ek]; exact Int32.le_refl _
    refine R_go 9999 rfl rfl trivial ?_
    refine R_br rfl rfl (fun _ => ?_) (fun h => absurd n1 h)
    have := kend (nI k) A B False ⟨fun z => z.elim, fun z => hn (by rw [← ek]; exact z)⟩ hF hJ
    rw [b2_0 id] at this
    exact this
  | succ m ih =>
    intro k A B hk hR hq hn hF hJ
    have hkl : k < LS.length := by omega
    have tk := ti k (by omega)
    have tl := ti LS.length (by omega)
    have ck : (nI k).toNatClampNeg = k := nI_clamp (by omega)
    have hvk : vp_in (nI k) 6 := vpN (n := 6) (by omega) rfl
    refine R_go 9999 rfl rfl trivial ?_
    refine R_br rfl rfl (fun h => absurd h (by rw [hR.1]; (simp only [i_eq, i_lt, i_le, Int32.reduceToInt, true_and, and_true, false_and, and_false, or_false, false_or, or_true, true_or, ne_eq] at *; first | done | omega))) (fun _ => ?_)
    refine R_go 9999 rfl rfl trivial ?_
    refine R_br rfl rfl (fun _ => ?_) (fun h => absurd rfl h)
    refine R_go 9999 rfl rfl trivial ?_
    refine R_cv rfl (m_takeLaw hkl hL hR) rfl rfl rfl rfl rfl (Nat.le_of_ble_eq_true rfl) rfl ?_
    rintro r h' ⟨A1, rfl, rfl, hF1, hl1⟩
    have hF1' : FmO 31 [51, 53, 54] [] A A1 := FmO_w hF1 (by decide) (by decide)
    have hR1 : RML A1 LS := RML_fr hR hF1 (by decide) (by decide)
    have hq1 := SBm_f hq (hF1.1 55 (by decide) (by decide))
    have e46 := (hR1.2 k hkl).1
    have hll := (hL.2 k hkl).2
    have hw := (hL.2 k hkl).1
    have hb0 := m_onBox (gr := 53) (go := 54) (fr := 0) (to := (LS.getD k []).length) (sd := 0) (Or.inr ⟨rfl, rfl⟩) (by omega) (B := B) (h99 0 (by omega)) (LS.getD k []) (by omega) (by omega) (fun i hi => by rw [Nat.zero_add]; exact hl1 i hi) (hq1 0 (by omega)) hw
    refine R_go 9999 rfl rfl hvk ?_
    rw [ck, e46]
    refine R_cv rfl hb0 rfl rfl rfl rfl rfl (Nat.le_of_ble_eq_true rfl) rfl ?_
    rintro r h' ⟨A2, B2, rfl, rfl, hF2, hJ2⟩
    have hF2' : FmO 31 [51, 53, 54] [] A1 A2 := FmO_w hF2 (by decide) (by decide)
    have t0 := trB_2 (h99 0 (by omega)) hw
    have done : ∀ A B, lbS bo LS (k + 1) → FmO 31 [51, 53, 54] [] A0 A → FmJ [58, 59] B0 B → A 31 0 28 = nI LS.length → Rn 3 mtX12_isDone 34 (idL mo 1 (nI (k + 1)) none none) [] (hp A B) Q := fun A B hl hFx hJx h28 => by
      have hd : lbS bo LS LS.length := by obtain ⟨j, hj, hh⟩ := hl; exact ⟨j, by omega, hh⟩
      have tk1 := ti (k + 1) (by omega)
      have kk := kend (nI (k + 1)) A B True ⟨fun _ => hd, fun _ => trivial⟩ hFx hJx
      rw [b2_1 trivial] at kk
      refine R_go 9999 rfl rfl trivial ?_
      refine R_br rfl rfl (fun _ => kk) (fun _ => ?_)
      refine R_go 9999 rfl rfl trivial ?_
      exact R_br rfl rfl (fun h => absurd h (by decide)) (fun _ => kk)
    by_cases g0 : trB (bo 0) (LS.getD k []) = 0
    · rw [g0]
      refine R_br rfl rfl (fun _ => ?_) (fun h => absurd rfl h)
      refine R_go 34 rfl rfl trivial ?_
      rw [nI_1]
      exact done A2 B2 ⟨k, by omega, Or.inl g0⟩ (FmO_tr hF (FmO_tr hF1' hF2')) (FmJ_tr hJ hJ2) (by rw [hF2.2 28 (by decide), hF1.2 28 (by decide)]; exact hR.1)
    · have hq2 := SBm_f hq1 (hF2.1 55 (by decide) (by decide))
      have hR2 : RML A2 LS := RML_fr hR1 hF2 (by decide) (by decide)
      have e46' := (hR2.2 k hkl).1
      have hb1 := m_onBox (gr := 53) (go := 54) (fr := 0) (to := (LS.getD k []).length) (sd := 1) (Or.inr ⟨rfl, rfl⟩) (by omega) (B := B2) (h99 1 (by omega)) (LS.getD k []) (by omega) (by omega) (fun i hi => by rw [Nat.zero_add, hF2.1 53 (by decide) (by decide), hF2.1 54 (by decide) (by decide)]; exact hl1 i hi) (hq2 1 (by omega)) hw
      refine R_br rfl rfl (fun h => absurd h (by rcases (show trB (bo 0) (LS.getD k []) = 1 ∨ trB (bo 0) (LS.getD k []) = 2 by omega) with e | e <;> rw [e] <;> decide)) (fun _ => ?_)
      refine R_go 9999 rfl rfl hvk ?_
      rw [ck, e46']
      refine R_cv rfl hb1 rfl rfl rfl rfl rfl (Nat.le_of_ble_eq_true rfl) rfl ?_
      rintro r h' ⟨A3, B3, rfl, rfl, hF3, hJ3⟩
      have hF3' : FmO 31 [51, 53, 54] [] A2 A3 := FmO_w hF3 (by decide) (by decide)
      have t1 := trB_2 (h99 1 (by omega)) hw
      have hF03 := FmO_tr hF (FmO_tr hF1' (FmO_tr hF2' hF3'))
      have hJ03 := FmJ_tr hJ (FmJ_tr hJ2 hJ3)
      have hR3 : RML A3 LS := RML_fr hR2 hF3 (by decide) (by decide)
      by_cases g1 : trB (bo 1) (LS.getD k []) = 0
      · rw [g1]
        refine R_br rfl rfl (fun _ => ?_) (fun h => absurd rfl h)
        refine R_go 34 rfl rfl trivial ?_
        rw [nI_1]
        exact done A3 B3 ⟨k, by omega, Or.inr g1⟩ hF03 hJ03 hR3.1
      · refine R_br rfl rfl (fun h => absurd h (by rcases (show trB (bo 1) (LS.getD k []) = 1 ∨ trB (bo 1) (LS.getD k []) = 2 by omega) with e | e <;> rw [e] <;> decide)) (fun _ => ?_)
        refine R_go 34 rfl rfl trivial ?_
        rw [nI_1]
        exact ih (k + 1) A3 B3 (by omega) hR3 (SBm_f hq2 (hF3.1 55 (by decide) (by decide))) (lbS_s hn g0 g1) hF03 hJ03
theorem m_isDone {mo : Int32} {bo : Nat → Nat → Int × Int} {LS : List (List Tk)} {P : List (List Tk × Nat)} {A : FI} {B : FJ} (hmo : mo = -1 ∨ ∃ f, f < 8 ∧ mo = nI f) (hq : ∀ s, s ≤ 1 → SBm s A (bo s)) (h99 : ∀ s, s ≤ 1 → b99 (bo s)) (hL : okL LS) (hR : RML A LS) (hP : okP P) (hG : RMG A P) : MV 3 1 mtX12_isDone [.inr (.inr (some (31, 0))), .inl mo] (hp A B) (DNo A B (dnS bo LS P mo)) := by
  refine MV_of caX12_isDone (L := [some (.inr (.inr (some (31, 0)))), some (.inl mo), none, none, none, none]) rfl rfl ?_
  have mid : ∀ (p : Prop) x A1 B1, FmO 31 [51, 53, 54] [] A A1 → FmJ [58, 59] B B1 → Rn 3 mtX12_isDone 109 (idL mo (b2 p) x none none) [] (hp A1 B1) (DNo A B (p ∨ bsS mo (enS (bo 0) 0 P) (enS (bo 1) 0 P))) := by
    intro p x A1 B1 hF1 hJ1
    have hq1 := SBm_f hq (hF1.1 55 (by decide) (by decide))
    have hG1 := RMG_fr hG hF1 (by decide) (by decide)
    refine R_go 9999 rfl rfl trivial ?_
    refine R_cv rfl (m_endsOf (B := B1) (sd := 0) (by omega) (h99 0 (by omega)) hP hG1 (hq1 0 (by omega))) rfl rfl rfl rfl rfl (Nat.le_of_ble_eq_true rfl) rfl ?_
    rintro r h' ⟨A2, B2, rfl, rfl, hF2, hJ2⟩
    have hF02 : FmO 31 [51, 53, 54] [] A A2 := FmO_tr hF1 (FmO_w hF2 (by decide) (by decide))
    have hq2 := SBm_f hq (hF02.1 55 (by decide) (by decide))
    have hG2 := RMG_fr hG hF02 (by decide) (by decide)
    refine R_go 9999 rfl rfl trivial ?_
    refine R_cv rfl (m_endsOf (B := B2) (sd := 1) (by omega) (h99 1 (by omega)) hP hG2 (hq2 1 (by omega))) rfl rfl rfl rfl rfl (Nat.le_of_ble_eq_true rfl) rfl ?_
    rintro r h' ⟨A3, B3, rfl, rfl, hF3, hJ3⟩
    have hF03 : FmO 31 [51, 53, 54] [] A A3 := FmO_tr hF02 (FmO_w hF3 (by decide) (by decide))
    have hJ03 := FmJ_tr hJ1 (FmJ_tr hJ2 hJ3)
    have b0 := enS_le (bx := bo 0) P 0 (by omega) (okP_2 hP)
    have b1 := enS_le (bx := bo 1) P 0 (by omega) (okP_2 hP)
    generalize enS (bo 0) 0 P = e0 at b0
    generalize enS (bo 1) 0 P = e1 at b1
    have y1 : (p ∨ bsS mo e0 e1) → DNo A B (p ∨ bsS mo e0 e1) (some (.inl 1)) (hp A3 B3) := fun z => ⟨A3, B3, rfl, by rw [b2_1 z], hF03, hJ03⟩
    have y0 : ¬ (p ∨ bsS mo e0 e1) → DNo A B (p ∨ bsS mo e0 e1) (some (.inl 0)) (hp A3 B3) := fun z => ⟨A3, B3, rfl, by rw [b2_0 z], hF03, hJ03⟩
    rcases Classical.em p with hp' | hp'
    · rw [b2_1 hp']
      refine R_go 9999 rfl rfl trivial ?_
      repeat' (first
          | (refine R_br rfl rfl (fun hbr => absurd hbr (by first | decide | (with_reducible assumption))) (fun _ => ?_))
          | (refine R_br rfl rfl (fun _ => ?_) (fun hbr => absurd (by first | decide | (with_reducible assumption)) hbr))
          | (refine R_br rfl rfl (fun _ => ?_) (fun _ => ?_))
          | (refine R_ri rfl rfl ?_)
          | (refine R_rz rfl rfl (Or.inl rfl) ?_)
          | (refine R_rz rfl rfl (Or.inr rfl) ?_)
          | (refine R_rz rfl rfl (b2_01 _) ?_)
          | (refine R_rl rfl rfl ?_)
          | (refine R_rv rfl rfl ?_)
          | (refine R_sw _ rfl rfl rfl ?_)
          | (refine R_go 9999 rfl rfl trivial ?_)
          | (refine R_go 9999 rfl rfl (by first | (show _ ∨ _; decide) | (show (_ ∨ _) ∧ (_ ∨ _); decide) | (show (_ ∨ _) ∧ (_ ∨ _) ∧ (_ ∨ _); decide)) ?_)
          | (refine R_go 9999 rfl rfl ?_ ?_))
      all_goals exact y1 (Or.inl hp')
    · rw [b2_0 hp']
      have z1 : bsS mo e0 e1 → DNo A B (p ∨ bsS mo e0 e1) (some (.inl 1)) (hp A3 B3) := fun z => y1 (Or.inr z)
      have z0 : ¬ bsS mo e0 e1 → DNo A B (p ∨ bsS mo e0 e1) (some (.inl 0)) (hp A3 B3) := fun z => y0 (fun w => w.elim hp' z)
      by_cases hqm : mo = -1
      · subst hqm
        rcases (show e0 = 0 ∨ e0 = 1 ∨ e0 = 2 ∨ e0 = 3 by omega) with rfl | rfl | rfl | rfl <;> rcases (show e1 = 0 ∨ e1 = 1 ∨ e1 = 2 ∨ e1 = 3 by omega) with rfl | rfl | rfl | rfl
        all_goals
          refine R_go 9999 rfl rfl trivial ?_
          repeat' (first
              | (refine R_br rfl rfl (fun hbr => absurd hbr (by first | decide | (with_reducible assumption))) (fun _ => ?_))
              | (refine R_br rfl rfl (fun _ => ?_) (fun hbr => absurd (by first | decide | (with_reducible assumption)) hbr))
              | (refine R_br rfl rfl (fun _ => ?_) (fun _ => ?_))
              | (refine R_ri rfl rfl ?_)
              | (refine R_rz rfl rfl (Or.inl rfl) ?_)
              | (refine R_rz rfl rfl (Or.inr rfl) ?_)
              | (refine R_rz rfl rfl (b2_01 _) ?_)
              | (refine R_rl rfl rfl ?_)
              | (refine R_rv rfl rfl ?_)
              | (refine R_sw _ rfl rfl rfl ?_)
              | (refine R_go 9999 rfl rfl trivial ?_)
              | (refine R_go 9999 rfl rfl (by first | (show _ ∨ _; decide) | (show (_ ∨ _) ∧ (_ ∨ _); decide) | (show (_ ∨ _) ∧ (_ ∨ _) ∧ (_ ∨ _); decide)) ?_)
              | (refine R_go 9999 rfl rfl ?_ ?_))
        all_goals
          first
            | exact z1 (by unfold bsS; simp)
            | exact z0 (by unfold bsS; simp)
      · rcases (show e0 = 0 ∨ e0 = 1 ∨ e0 = 2 ∨ e0 = 3 by omega) with rfl | rfl | rfl | rfl <;> rcases (show e1 = 0 ∨ e1 = 1 ∨ e1 = 2 ∨ e1 = 3 by omega) with rfl | rfl | rfl | rfl
        all_goals
          refine R_go 9999 rfl rfl trivial ?_
          repeat' (first
              | (refine R_br rfl rfl (fun hbr => absurd hbr (by first | decide | (with_reducible assumption))) (fun _ => ?_))
              | (refine R_br rfl rfl (fun _ => ?_) (fun hbr => absurd (by first | decide | (with_reducible assumption)) hbr))
              | (refine R_br rfl rfl (fun _ => ?_) (fun _ => ?_))
              | (refine R_ri rfl rfl ?_)
              | (refine R_rz rfl rfl (Or.inl rfl) ?_)
              | (refine R_rz rfl rfl (Or.inr rfl) ?_)
              | (refine R_rz rfl rfl (b2_01 _) ?_)
              | (refine R_rl rfl rfl ?_)
              | (refine R_rv rfl rfl ?_)
              | (refine R_sw _ rfl rfl rfl ?_)
              | (refine R_go 9999 rfl rfl trivial ?_)
              | (refine R_go 9999 rfl rfl (by first | (show _ ∨ _; decide) | (show (_ ∨ _) ∧ (_ ∨ _); decide) | (show (_ ∨ _) ∧ (_ ∨ _) ∧ (_ ∨ _); decide)) ?_)
              | (refine R_go 9999 rfl rfl ?_ ?_))
        all_goals
          first
            | exact z1 (by unfold bsS; simp [hqm])
            | exact z0 (by unfold bsS; simp [hqm])
            | contradiction
  have loop : ∀ (h0 : ¬ nmS bo mo), Rn 3 mtX12_isDone 34 (idL mo 0 (nI 0) none none) [] (hp A B) (DNo A B (dnS bo LS P mo)) := fun h0 => by
    refine l_isDone (A0 := A) (B0 := B) h99 hL (fun x A1 B1 p hpq hF1 hJ1 => ?_) LS.length 0 A B (by omega) hR hq (fun ⟨j, hj, _⟩ => by omega) FmO_rf FmJ_rf
    have ed : dnS bo LS P mo ↔ (p ∨ bsS mo (enS (bo 0) 0 P) (enS (bo 1) 0 P)) := by
      rw [hpq, lbS_nb]
      unfold dnS
      constructor
      · rintro (z | z | z | z)
        · exact absurd z h0
        · exact Or.inl (Or.inl z)
        · exact Or.inl (Or.inr z)
        · exact Or.inr z
      · rintro ((z | z) | z)
        · exact Or.inr (Or.inl z)
        · exact Or.inr (Or.inr (Or.inl z))
        · exact Or.inr (Or.inr (Or.inr z))
    refine R_mono (fun r h' z => ?_) (mid p x A1 B1 hF1 hJ1)
    obtain ⟨A', B', q1, q2, q3⟩ := z
    exact ⟨A', B', q1, by rw [q2, b2_c ed], q3⟩
  rcases hmo with rfl | ⟨f, hf, rfl⟩
  · have n1 : ¬ nmS bo (-1) := fun ⟨f, hf, e, _⟩ => by
      have h1 := ti f (by omega)
      rw [← e] at h1
      have : (-1 : Int32).toInt = -1 := by decide
      omega
    refine R_go 9999 rfl rfl trivial ?_
    refine R_br rfl rfl (fun _ => ?_) (fun h => absurd rfl h)
    refine R_go 34 rfl rfl trivial ?_
    exact loop n1
  · have tf := ti f (by omega)
    have i1 : (4 : Int32) * nI f = nI (4 * f) := pk_mul 4 f
    have i2 : nI (4 * f) + 3 = nI (4 * f + 3) := nI_add _ 3
    have c1 : (nI (4 * f)).toNatClampNeg = 4 * f := nI_clamp (by omega)
    have c2 : (nI (4 * f + 3)).toNatClampNeg = 4 * f + 3 := nI_clamp (by omega)
    have hv1 : vp_in (nI (4 * f)) 32 := vpN (n := 32) (by omega) rfl
    have hv2 : vp_in (nI (4 * f + 3)) 32 := vpN (n := 32) (by omega) rfl
    obtain ⟨x1, -⟩ := hq 0 (by omega) f hf
    obtain ⟨-, x2⟩ := hq 1 (by omega) f hf
    rw [show 4 * f + 2 * 0 = 4 * f by omega] at x1
    rw [show 4 * f + 2 * 1 + 1 = 4 * f + 3 by omega] at x2
    refine R_go 9999 rfl rfl trivial ?_
    refine R_br rfl rfl (fun h => absurd h (by (simp only [i_eq, i_lt, i_le, Int32.reduceToInt, true_and, and_true, false_and, and_false, or_false, false_or, or_true, true_or, ne_eq] at *; first | done | omega))) (fun _ => ?_)
    refine R_go 9999 rfl rfl (by rw [i1, i2]; exact ⟨hv1, hv2⟩) ?_
    rw [i1, i2, c1, c2]
    by_cases g : (bo 1 f).2 ≤ (bo 0 f).1
    · have hn : nmS bo (nI f) := ⟨f, hf, rfl, g⟩
      refine R_br rfl rfl (fun h => absurd h (by (simp only [i_eq, i_lt, i_le, Int32.reduceToInt, true_and, and_true, false_and, and_false, or_false, false_or, or_true, true_or, ne_eq] at *; first | done | omega))) (fun _ => ?_)
      refine R_go 34 rfl rfl trivial ?_
      have m1 := mid True 0 A B FmO_rf FmJ_rf
      have hd : dnS bo LS P (nI f) := Or.inl hn
      rw [b2_1 trivial] at m1
      have m2 : Rn 3 mtX12_isDone 109 (idL (nI f) 1 0 none none) [] (hp A B) (DNo A B (dnS bo LS P (nI f))) := R_mono (fun r h' z => by
        obtain ⟨A', B', q1, q2, q3⟩ := z
        exact ⟨A', B', q1, by rw [q2, b2_1 (Or.inl trivial), b2_1 hd], q3⟩) m1
      refine R_go 9999 rfl rfl trivial ?_
      refine R_br rfl rfl (fun _ => m2) (fun _ => ?_)
      refine R_go 9999 rfl rfl trivial ?_
      exact R_br rfl rfl (fun h => absurd h (by decide)) (fun _ => m2)
    · have hn : ¬ nmS bo (nI f) := fun ⟨f', hf', e, g'⟩ => g (by rw [nI_ij (by omega) (by omega) e]; exact g')
      refine R_br rfl rfl (fun _ => ?_) (fun h => absurd (by (simp only [i_eq, i_lt, i_le, Int32.reduceToInt, true_and, and_true, false_and, and_false, or_false, false_or, or_true, true_or, ne_eq] at *; first | done | omega)) h)
      refine R_go 34 rfl rfl trivial ?_
      exact loop hn
