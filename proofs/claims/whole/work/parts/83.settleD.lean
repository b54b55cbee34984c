theorem enS_le {bx : Nat → Int × Int} : ∀ (l : List (List Tk × Nat)) (r : Nat), r ≤ 3 → (∀ x ∈ l, x.2 ≤ 1) → enS bx r l ≤ 3
  | [], r, h, _ => h
  | [l], r, h, hl => ob_le h (hl l (by simp))
  | l :: m :: t, r, h, hl => by
    have h1 := ob_le h (hl l (by simp))
    have h2 : ∀ x ∈ m :: t, x.2 ≤ 1 := fun x hx => hl x (List.mem_cons_of_mem _ hx)
    show (if trB bx l.1 = 1 then ob r l.2 else enS bx (if trB bx l.1 = 0 then r else ob r l.2) (m :: t)) ≤ 3
    by_cases g : trB bx l.1 = 1
    · rw [if_pos g]; exact h1
    · rw [if_neg g]
      by_cases g0 : trB bx l.1 = 0
      · rw [if_pos g0]; exact enS_le (m :: t) r h h2
      · rw [if_neg g0]; exact enS_le (m :: t) _ h1 h2
theorem okP_2 {P : List (List Tk × Nat)} (h : okP P) : ∀ x ∈ P, x.2 ≤ 1 := by
  obtain ⟨⟨dn, d, rfl, hd, hW⟩, -⟩ := h
  intro x hx
  rcases List.mem_append.mp hx with h | h
  · exact (hW x h).2.2
  · have : x = ([], d) := by simpa using h
    rw [this]; exact hd
/-- what both ENDS say of a box -/
def bsS (mo : Int32) (e0 e1 : Nat) : Prop := e0 ≠ 3 ∧ e1 ≠ 3 ∧ ((mo = -1 ∧ e0 = e1) ∨ (mo ≠ -1 ∧ ¬ (e0 = 2 ∧ e1 = 1)))
/-- a box is done with -/
def dnS (bo : Nat → Nat → Int × Int) (LS : List (List Tk)) (P : List (List Tk × Nat)) (mo : Int32) : Prop := nmS bo mo ∨ ¬ nbS (bo 0) LS LS.length ∨ ¬ nbS (bo 1) LS LS.length ∨ bsS mo (enS (bo 0) 0 P) (enS (bo 1) 0 P)
theorem bd_f {A A' : FI} {bo : Nat → Nat → Int × Int} {fr : Nat} {ss : List Nat} (h : ∀ s, s ≤ 1 → SBx 16 (fr + 16 * s) A (bo s)) (hF : FmO 12 [] ss A A') : ∀ s, s ≤ 1 → SBx 16 (fr + 16 * s) A' (bo s) := fun s hs => SBx_fr (h s hs) (Or.inl rfl) hF
theorem RS_Sp {A A' : FI} {s : Nat} {P : List (List Tk × Nat)} {l : List Tk} {ss : List Nat} (h : RS s A P l) (hF : FmO 12 [] ss A A') : RS s A' P l := RS_fr h (by rw [hF.1 4 (by decide) (by simp)]) (by rw [hF.1 5 (by decide) (by simp)]) (by rw [hF.1 6 (by decide) (by simp)])
theorem m_isSettled {fr : Nat} (hfr : fr + 32 ≤ 2592) {mo : Int32} {bo : Nat → Nat → Int × Int} {LS : List (List Tk)} {P : List (List Tk × Nat)} {A : FI} {B : FJ} (hm : A 15 0 2 = mo) (hmo : mo = -1 ∨ ∃ f, f < 8 ∧ mo = nI f) (h : ∀ s, s ≤ 1 → SBx 16 (fr + 16 * s) A (bo s)) (h99 : ∀ s, s ≤ 1 → b99 (bo s)) (hL : okL LS) (hR : RCL A LS) (hP : okP P) (hS : RS 6 A P []) : MV 4 4 mtX8_isSettled [.inr (.inr (some (15, 0))), .inr (.inr (some (1, 0))), .inr (.inr (some (4, 6))), .inr (.inr (some (12, 0))), .inl (nI fr)] (hp A B) (BBo A B (dnS bo LS P mo)) := by
  have g1 : nI fr + 16 = nI (fr + 16) := nI_add _ 16
  have f0 : SBx 16 fr A (bo 0) := by have := h 0 (by omega); rwa [show fr + 16 * 0 = fr by omega] at this
  have hb0 := m_barsBox (B := B) (g := 16) (fr := fr) (Or.inl ⟨rfl, by omega⟩) (h99 0 (by omega)) hL hR f0
  refine MV_of caX8_isSettled (L := [some (.inr (.inr (some (15, 0)))), some (.inr (.inr (some (1, 0)))), some (.inr (.inr (some (4, 6)))), some (.inr (.inr (some (12, 0)))), some (.inl (nI fr)), none, none]) rfl rfl ?_
  refine R_go 9999 rfl rfl trivial ?_
  refine R_cvr rfl (m_hasNoMore hfr hm hmo h) rfl rfl rfl rfl rfl (Nat.le_of_ble_eq_true rfl) rfl ?_
  rcases Classical.em (nmS bo mo) with k | k
  · rw [b2_1 k]
    refine R_br rfl rfl (fun h => absurd h (by decide)) (fun _ => ?_)
    repeat' (first
        | (refine R_br rfl rfl (fun hbr => absurd hbr (by first | decide | (with_reducible assumption))) (fun _ => ?_))
        | (refine R_br rfl rfl (fun _ => ?_) (fun hbr => absurd (by first | decide | (with_reducible assumption)) hbr))
        | (refine R_br rfl rfl (fun _ => ?_) (fun _ => ?_))
        | (refine R_ri rfl rfl ?_)
        | (refine R_rz rfl rfl (Or.inl rfl) ?_)
        | (refine R_rz rfl rfl (Or.inr rfl) ?_)
        | (refine R_rz rfl rfl (b2_01 _) ?_)
        | (refine R_rl rfl rfl ?_)
        | (refine R_rv rfl rfl ?_)
        | (refine R_sw _ rfl rfl rfl ?_)
        | (refine R_go 9999 rfl rfl trivial ?_)
        | (refine R_go 9999 rfl rfl (by first | (show _ ∨ _; decide) | (show (_ ∨ _) ∧ (_ ∨ _); decide) | (show (_ ∨ _) ∧ (_ ∨ _) ∧ (_ ∨ _); decide)) ?_)
        | (refine R_go 9999 rfl rfl ?_ ?_))
    exact ⟨A, B, rfl, by rw [b2_1 (show dnS bo LS P mo from Or.inl k)], FmO_rf, FmJ_rf⟩
  rw [b2_0 k]
  refine R_br rfl rfl (fun _ => ?_) (fun h => absurd rfl h)
  refine R_go 9999 rfl rfl trivial ?_
  refine R_cv rfl hb0 rfl rfl rfl rfl rfl (Nat.le_of_ble_eq_true rfl) rfl ?_
  rintro r h' ⟨A1, B1, rfl, rfl, hF1, hJ1⟩
  rcases Classical.em (nbS (bo 0) LS LS.length) with k0 | k0
  · rw [b2_0 (fun z => z k0)]
    have f1 := bd_f h hF1 1 (by omega)
    rw [show fr + 16 * 1 = fr + 16 by omega] at f1
    have hb1 := m_barsBox (B := B1) (g := 16) (fr := fr + 16) (Or.inl ⟨rfl, by omega⟩) (h99 1 (by omega)) hL (RCL_Sp hR hF1) f1
    refine R_br rfl rfl (fun _ => ?_) (fun h => absurd rfl h)
    refine R_go 9999 rfl rfl trivial ?_
    rw [g1]
    refine R_cv rfl hb1 rfl rfl rfl rfl rfl (Nat.le_of_ble_eq_true rfl) rfl ?_
    rintro r h' ⟨A2, B2, rfl, rfl, hF2, hJ2⟩
    have hF02 := FmO_tr hF1 hF2
    have hJ02 := FmJ_tr hJ1 hJ2
    rcases Classical.em (nbS (bo 1) LS LS.length) with k1 | k1
    · rw [b2_0 (fun z => z k1)]
      have f2 := bd_f h hF02 0 (by omega)
      rw [show fr + 16 * 0 = fr by omega] at f2
      have he0 := m_endsOver (B := B2) (g := 16) (fr := fr) (Or.inl ⟨rfl, by omega⟩) (h99 0 (by omega)) f2 hP (RS_Sp hS hF02)
      refine R_br rfl rfl (fun _ => ?_) (fun h => absurd rfl h)
      refine R_go 9999 rfl rfl trivial ?_
      refine R_cv rfl he0 rfl rfl rfl rfl rfl (Nat.le_of_ble_eq_true rfl) rfl ?_
      rintro r h' ⟨A3, B3, rfl, rfl, hF3, hJ3⟩
      have hF03 := FmO_tr hF02 hF3
      have f3 := bd_f h hF03 1 (by omega)
      rw [show fr + 16 * 1 = fr + 16 by omega] at f3
      have he1 := m_endsOver (B := B3) (g := 16) (fr := fr + 16) (Or.inl ⟨rfl, by omega⟩) (h99 1 (by omega)) f3 hP (RS_Sp hS hF03)
      refine R_go 9999 rfl rfl trivial ?_
      rw [g1]
      refine R_cv rfl he1 rfl rfl rfl rfl rfl (Nat.le_of_ble_eq_true rfl) rfl ?_
      rintro r h' ⟨A4, B4, rfl, rfl, hF4, hJ4⟩
      have hF04 := FmO_tr hF03 hF4
      have hJ04 := FmJ_tr (FmJ_tr hJ02 hJ3) hJ4
      have hm4 : A4 15 0 2 = mo := by rw [hF04.1 15 (by decide) (by simp)]; exact hm
      have b0 := enS_le (bx := bo 0) P 0 (by omega) (okP_2 hP)
      have b1 := enS_le (bx := bo 1) P 0 (by omega) (okP_2 hP)
      have ed : dnS bo LS P mo ↔ bsS mo (enS (bo 0) 0 P) (enS (bo 1) 0 P) := ⟨fun z => z.elim (fun z => absurd z k) (fun z => z.elim (fun z => absurd k0 z) (fun z => z.elim (fun z => absurd k1 z) id)), fun z => Or.inr (Or.inr (Or.inr z))⟩
      rw [show BBo A B (dnS bo LS P mo) = BBo A B (bsS mo (enS (bo 0) 0 P) (enS (bo 1) 0 P)) by unfold BBo; rw [b2_c ed]]
      generalize enS (bo 0) 0 P = e0 at b0
      generalize enS (bo 1) 0 P = e1 at b1
      have fin : ∀ (v : Int32), v = b2 (bsS mo e0 e1) → BBo A B (bsS mo e0 e1) (some (.inl v)) (hp A4 B4) := fun v hv => ⟨A4, B4, rfl, by rw [hv], hF04, hJ04⟩
      have y1 : bsS mo e0 e1 → (1 : Int32) = b2 (bsS mo e0 e1) := fun z => (b2_1 z).symm
      have y0 : ¬ bsS mo e0 e1 → (0 : Int32) = b2 (bsS mo e0 e1) := fun z => (b2_0 z).symm
      have hF := hm4
      clear hm
      by_cases hq : mo = -1
      · subst hq
        rcases (show e0 = 0 ∨ e0 = 1 ∨ e0 = 2 ∨ e0 = 3 by omega) with rfl | rfl | rfl | rfl <;> rcases (show e1 = 0 ∨ e1 = 1 ∨ e1 = 2 ∨ e1 = 3 by omega) with rfl | rfl | rfl | rfl
        all_goals
          repeat' (first
              | (refine R_br rfl rfl (fun hbr => absurd hbr (by first | decide | (with_reducible assumption) | (simp only [hm4]; first | decide | (with_reducible assumption)) | (simp only [i_eq, i_lt, i_le, Int32.reduceToInt, ne_eq, up3_self, nI_1, hm4]; first | done | omega))) (fun _ => ?_))
              | (refine R_br rfl rfl (fun _ => ?_) (fun hbr => absurd (by first | decide | (with_reducible assumption) | (simp only [hm4]; first | decide | (with_reducible assumption)) | (simp only [i_eq, i_lt, i_le, Int32.reduceToInt, ne_eq, up3_self, nI_1, hm4]; first | done | omega)) hbr))
              | (refine R_br rfl rfl (fun _ => ?_) (fun _ => ?_))
              | (refine R_ri rfl rfl ?_)
              | (refine R_rz rfl rfl (Or.inl rfl) ?_)
              | (refine R_rz rfl rfl (Or.inr rfl) ?_)
              | (refine R_rz rfl rfl (b2_01 _) ?_)
              | (refine R_rl rfl rfl ?_)
              | (refine R_rv rfl rfl ?_)
              | (refine R_sw _ rfl rfl rfl ?_)
              | (refine R_go 9999 rfl rfl trivial ?_)
              | (refine R_go 9999 rfl rfl (by first | (show _ ∨ _; decide) | (show (_ ∨ _) ∧ (_ ∨ _); decide) | (show (_ ∨ _) ∧ (_ ∨ _) ∧ (_ ∨ _); decide)) ?_)
              | (refine R_go 9999 rfl rfl ?_ ?_))
        all_goals
          first
            | exact fin _ (y1 (by unfold bsS; simp))
            | exact fin _ (y0 (by unfold bsS; simp))
      · rcases (show e0 = 0 ∨ e0 = 1 ∨ e0 = 2 ∨ e0 = 3 by omega) with rfl | rfl | rfl | rfl <;> rcases (show e1 = 0 ∨ e1 = 1 ∨ e1 = 2 ∨ e1 = 3 by omega) with rfl | rfl | rfl | rfl
        all_goals
          repeat' (first
              | (refine R_br rfl rfl (fun hbr => absurd hbr (by first | decide | (with_reducible assumption) | (simp only [hm4]; first | decide | (with_reducible assumption)) | (simp only [i_eq, i_lt, i_le, Int32.reduceToInt, ne_eq, up3_self, nI_1, hm4]; first | done | omega))) (fun _ => ?_))
              | (refine R_br rfl rfl (fun _ => ?_) (fun hbr => absurd (by first | decide | (with_reducible assumption) | (simp only [hm4]; first | decide | (with_reducible assumption)) | (simp only [i_eq, i_lt, i_le, Int32.reduceToInt, ne_eq, up3_self, nI_1, hm4]; first | done | omega)) hbr))
              | (refine R_br rfl rfl (fun _ => ?_) (fun _ => ?_))
              | (refine R_ri rfl rfl ?_)
              | (refine R_rz rfl rfl (Or.inl rfl) ?_)
              | (refine R_rz rfl rfl (Or.inr rfl) ?_)
              | (refine R_rz rfl rfl (b2_01 _) ?_)
              | (refine R_rl rfl rfl ?_)
              | (refine R_rv rfl rfl ?_)
              | (refine R_sw _ rfl rfl rfl ?_)
              | (refine R_go 9999 rfl rfl trivial ?_)
              | (refine R_go 9999 rfl rfl (by first | (show _ ∨ _; decide) | (show (_ ∨ _) ∧ (_ ∨ _); decide) | (show (_ ∨ _) ∧ (_ ∨ _) ∧ (_ ∨ _); decide)) ?_)
              | (refine R_go 9999 rfl rfl ?_ ?_))
        all_goals
          first
            | exact fin _ (y1 (by unfold bsS; simp [hq]))
            | exact fin _ (y0 (by unfold bsS; simp [hq]))
            | contradiction
    · rw [b2_1 k1]
      refine R_br rfl rfl (fun h => absurd h (by decide)) (fun _ => ?_)
      repeat' (first
          | (refine R_br rfl rfl (fun hbr => absurd hbr (by first | decide | (with_reducible assumption))) (fun _ => ?_))
          | (refine R_br rfl rfl (fun _ => ?_) (fun hbr => absurd (by first | decide | (with_reducible assumption)) hbr))
          | (refine R_br rfl rfl (fun _ => ?_) (fun _ => ?_))
          | (refine R_ri rfl rfl ?_)
          | (refine R_rz rfl rfl (Or.inl rfl) ?_)
          | (refine R_rz rfl rfl (Or.inr rfl) ?_)
          | (refine R_rz rfl rfl (b2_01 _) ?_)
          | (refine R_rl rfl rfl ?_)
          | (refine R_rv rfl rfl ?_)
          | (refine R_sw _ rfl rfl rfl ?_)
          | (refine R_go 9999 rfl rfl trivial ?_)
          | (refine R_go 9999 rfl rfl (by first | (show _ ∨ _; decide) | (show (_ ∨ _) ∧ (_ ∨ _); decide) | (show (_ ∨ _) ∧ (_ ∨ _) ∧ (_ ∨ _); decide)) ?_)
          | (refine R_go 9999 rfl rfl ?_ ?_))
      exact ⟨A2, B2, rfl, by rw [b2_1 (show dnS bo LS P mo from Or.inr (Or.inr (Or.inl k1)))], hF02, hJ02⟩
  · rw [b2_1 k0]
    refine R_br rfl rfl (fun h => absurd h (by decide)) (fun _ => ?_)
    repeat' (first
        | (refine R_br rfl rfl (fun hbr => absurd hbr (by first | decide | (with_reducible assumption))) (fun _ => ?_))
        | (refine R_br rfl rfl (fun _ => ?_) (fun hbr => absurd (by first | decide | (with_reducible assumption)) hbr))
        | (refine R_br rfl rfl (fun _ => ?_) (fun _ => ?_))
        | (refine R_ri rfl rfl ?_)
        | (refine R_rz rfl rfl (Or.inl rfl) ?_)
        | (refine R_rz rfl rfl (Or.inr rfl) ?_)
        | (refine R_rz rfl rfl (b2_01 _) ?_)
        | (refine R_rl rfl rfl ?_)
        | (refine R_rv rfl rfl ?_)
        | (refine R_sw _ rfl rfl rfl ?_)
        | (refine R_go 9999 rfl rfl trivial ?_)
        | (refine R_go 9999 rfl rfl (by first | (show _ ∨ _; decide) | (show (_ ∨ _) ∧ (_ ∨ _); decide) | (show (_ ∨ _) ∧ (_ ∨ _) ∧ (_ ∨ _); decide)) ?_)
        | (refine R_go 9999 rfl rfl ?_ ?_))
    exact ⟨A1, B1, rfl, by rw [b2_1 (show dnS bo LS P mo from Or.inr (Or.inl k0))], hF1, hJ1⟩
