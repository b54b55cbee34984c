theorem reS_y {P : List (List Tk × Nat)} (h : P ≠ []) (q : Nat → Nat) : reS P q = nI (rnS q 0 P).1 := if_neg h
theorem l_runAll {P : List (List Tk × Nat)} {R : List Rw} (hP : okP P) (A0 : FI) (B0 : FJ) : ∀ (m k : Nat) (A : FI) (B : FJ), k + m = R.length → R.length ≤ 24 → A 18 0 3 = nI R.length → RS 6 A P [] → Fm [10, 21] A0 A → FmJ [11] B0 B → (∀ i, i < R.length → RPn i A (R.getD i d0).1) → (∀ i, i < k → A 21 0 i = reS P (R.getD i d0).1) → Rn 3 mtX1_runAll 2 [some (.inr (.inr (some (18, 0)))), some (.inr (.inr (some (10, 0)))), some (.inr (.inr (some (4, 6)))), some (.inl (nI k))] [] (hp A B) (fun r h' => ∃ A' B', r = none ∧ h' = hp A' B' ∧ Fm [10, 21] A0 A' ∧ FmJ [11] B0 B' ∧ ∀ i, i < R.length → A' 21 0 i = reS P (R.getD i d0).1) := by
  intro m
  induction m with
  | zero =>
    intro k A B hk h24 e3 hS hF hJ hq hA
    have ek : R.length = k := by omega
    have n1 : A 18 0 3 ≤ nI k := by rw [e3, ek]; exact Int32.le_refl _
    refine R_go 9999 rfl rfl trivial ?_
    refine R_br rfl rfl (fun _ => ?_) (fun h => absurd n1 h)
    repeat' (first
        | (refine R_br rfl rfl (fun hbr => absurd hbr (by first | decide | (with_reducible assumption))) (fun _ => ?_))
        | (refine R_br rfl rfl (fun _ => ?_) (fun hbr => absurd (by first | decide | (with_reducible assumption)) hbr))
        | (refine R_br rfl rfl (fun _ => ?_) (fun _ => ?_))
        | (refine R_ri rfl rfl ?_)
        | (refine R_rz rfl rfl (Or.inl rfl) ?_)
        | (refine R_rz rfl rfl (Or.inr rfl) ?_)
        | (refine R_rz rfl rfl (b2_01 _) ?_)
        | (refine R_rl rfl rfl ?_)
        | (refine R_rv rfl rfl ?_)
        | (refine R_sw _ rfl rfl rfl ?_)
        | (refine R_go 9999 rfl rfl trivial ?_)
        | (refine R_go 9999 rfl rfl (by first | (show _ ∨ _; decide) | (show (_ ∨ _) ∧ (_ ∨ _); decide) | (show (_ ∨ _) ∧ (_ ∨ _) ∧ (_ ∨ _); decide)) ?_)
        | (refine R_go 9999 rfl rfl ?_ ?_))
    exact ⟨A, B, rfl, rfl, hF, hJ, fun i hi => hA i (by omega)⟩
  | succ m ih =>
    intro k A B hk h24 e3 hS hF hJ hq hA
    have tk := ti k (by omega)
    have tl := ti R.length (by omega)
    have ck : (nI k).toNatClampNeg = k := nI_clamp (by omega)
    have hv : vp_in (nI k) 24 := vpN (n := 24) (by omega) rfl
    refine R_go 9999 rfl rfl trivial ?_
    refine R_br rfl rfl (fun h => absurd h (by rw [e3]; (simp only [i_eq, i_lt, i_le, Int32.reduceToInt, true_and, and_true, false_and, and_false, or_false, false_or, or_true, true_or, ne_eq] at *; first | done | omega))) (fun _ => ?_)
    refine R_go 9999 rfl rfl trivial ?_
    refine R_br rfl rfl (fun h => absurd h (by (simp only [i_eq, i_lt, i_le, Int32.reduceToInt, true_and, and_true, false_and, and_false, or_false, false_or, or_true, true_or, ne_eq] at *; first | done | omega))) (fun _ => ?_)
    refine R_go 9999 rfl rfl ⟨hv, hv⟩ ?_
    rw [ck]
    refine R_cv rfl (m_walkP hP hS (hq k (by omega))) rfl rfl rfl rfl rfl (Nat.le_of_ble_eq_true rfl) rfl ?_
    rintro r h' ⟨A1, B1, rfl, rfl, -, hF1, hJ1⟩
    refine R_go 2 rfl rfl hv ?_
    rw [ck, nI_1]
    have hF2 : Fm [10, 21] A (up3 A1 21 0 k (nI (rnS (R.getD k d0).1 0 P).1)) := fun g hg => by
      simp only [List.mem_cons, List.not_mem_nil, or_false, not_or] at hg
      rw [up3_g hg.2, FmO_Fm hF1 hg.1]
    refine ih (k + 1) _ B1 (by omega) h24 (by rw [hF2 18 (by decide)]; exact e3) (RS_fr hS (by rw [hF2 4 (by decide)]) (by rw [hF2 5 (by decide)]) (by rw [hF2 6 (by decide)])) (fun g hg => (hF2 g hg).trans (hF g hg)) (FmJ_tr hJ hJ1) (fun i hi f hf => by rw [hF2 25 (by decide)]; exact hq i hi f hf) (fun i hi => ?_)
    by_cases e : i = k
    · subst e; rw [up3_self, reS_y (okP_ne hP)]
    · rw [up3_s e, FmO_Fm hF1 (by decide)]; exact hA i (by omega)
theorem m_runAll {P P0 : List (List Tk × Nat)} {R : List Rw} (hP : okP P) {A : FI} {B : FJ} (hR : RCR A P0 R) (hS : RS 6 A P []) : MV 3 2 mtX1_runAll [.inr (.inr (some (18, 0))), .inr (.inr (some (10, 0))), .inr (.inr (some (4, 6)))] (hp A B) (fun r h' => ∃ A' B', r = none ∧ h' = hp A' B' ∧ Fm [10, 21] A A' ∧ FmJ [11] B B' ∧ ∀ i, i < R.length → A' 21 0 i = reS P (R.getD i d0).1) := by
  refine MV_of caX1_runAll (L := [some (.inr (.inr (some (18, 0)))), some (.inr (.inr (some (10, 0)))), some (.inr (.inr (some (4, 6)))), none]) rfl rfl ?_
  refine R_go 2 rfl rfl trivial ?_
  exact l_runAll hP A B R.length 0 A B (by omega) hR.2.1 hR.1 hS (fun g hg => rfl) FmJ_rf (fun i hi => (hR.2.2 i hi).1) (fun i hi => by omega)
/-- program(), its answer and what stands behind it -/
def prR (p : List Nat) (P : List (List Tk × Nat)) (r : Int32) (p' : List Nat) (P' : List (List Tk × Nat)) : Prop := (whC 0 p ∧ r = nI (oF 0 p).1.length ∧ p' = [] ∧ P' = (oF 0 p).1) ∨ (¬ whC 0 p ∧ r = -103 ∧ p' = p ∧ P' = P)
theorem prR_un {p : List Nat} {P : List (List Tk × Nat)} {r r2 : Int32} {p' p2 : List Nat} {P' P2 : List (List Tk × Nat)} (a : prR p P r p' P') (b : prR p P r2 p2 P2) : r = r2 ∧ p' = p2 ∧ P' = P2 := by
  rcases a with ⟨a, rfl, rfl, rfl⟩ | ⟨a, rfl, rfl, rfl⟩ <;> rcases b with ⟨b, rfl, rfl, rfl⟩ | ⟨b, rfl, rfl, rfl⟩
  · exact ⟨rfl, rfl, rfl⟩
  · exact absurd a b
  · exact absurd b a
  · exact ⟨rfl, rfl, rfl⟩
theorem mRn_full {sort : Nat} {p : List Nat} (h : whC sort p) : (mRn sort p (k0, o0)).1 = p.length := by rw [← (mRn_c sort p k0 k0 o0 (krl_rf _)).1]; exact h.1
theorem WFP_255 {p : List Nat} (h : WFP p) : ∀ x ∈ p, x ≤ 255 := fun x hx => by have := h x hx; omega
theorem RCP_c {A : FI} : RCP (up3 A 8 0 1 0) [] := RCP_nil
theorem okP_F {p : List Nat} (h : whC 0 p) (hl : p.length ≤ 80) : okP (oF 0 p).1 := by
  obtain ⟨dn, e, hd, hz⟩ := prog_ok h hl
  rw [e] at hz ⊢
  exact ⟨hd, hz⟩
theorem m_programC {p : List Nat} {P : List (List Tk × Nat)} {LS : List (List Tk)} {R : List Rw} {A : FI} {B : FJ} (hp1 : RCP A p) (hw : WFP p) (hS : RS 6 A P []) (hL : RCL A LS) (hl6 : LS.length ≤ 6) (hR : RCR A P R) : MV 6 0 mtX11_program [.inr (.inr (some (0, 0)))] (hp A B) (fun r h' => ∃ A' B' r' p' P', h' = hp A' B' ∧ r = some (.inl r') ∧ prR p P r' p' P' ∧ RCP A' p' ∧ RS 6 A' P' [] ∧ RCL A' LS ∧ RCR A' P' R ∧ Fm [4, 5, 6, 7, 8, 10, 21] A A' ∧ FmJ [11] B B') := by
  have hl := hp1.2.1
  refine MV_of caX11_program (L := [some (.inr (.inr (some (0, 0))))]) rfl rfl ?_
  have hF8 : ∀ {A1 : FI}, FmO 8 [] [2, 3, 4, 5, 6, 7, 8] A A1 → Fm [4, 5, 6, 7, 8, 10, 21] A A1 := fun h g hg => by
    simp only [List.mem_cons, List.not_mem_nil, or_false, not_or] at hg
    exact h.1 g hg.2.2.2.2.1 (by simp)
  have h8o : ∀ {A1 : FI}, FmO 8 [] [2, 3, 4, 5, 6, 7, 8] A A1 → ∀ g, g ≠ 8 → A1 g = A g := fun h g hg => h.1 g hg (by simp)
  by_cases hc : whC 0 p
  ·
    repeat' (first
        | (refine R_br rfl rfl (fun hbr => absurd hbr (by first | decide | (with_reducible assumption))) (fun _ => ?_))
        | (refine R_br rfl rfl (fun _ => ?_) (fun hbr => absurd (by first | decide | (with_reducible assumption)) hbr))
        | (refine R_br rfl rfl (fun _ => ?_) (fun _ => ?_))
        | (refine R_ri rfl rfl ?_)
        | (refine R_rz rfl rfl (Or.inl rfl) ?_)
        | (refine R_rz rfl rfl (Or.inr rfl) ?_)
        | (refine R_rz rfl rfl (b2_01 _) ?_)
        | (refine R_rl rfl rfl ?_)
        | (refine R_rv rfl rfl ?_)
        | (refine R_cv rfl (m_isWhole 0 p (by decide) (WFP_255 hw) hp1) rfl rfl rfl rfl rfl (Nat.le_of_ble_eq_true rfl) rfl ?_)
        | (refine R_sw _ rfl rfl rfl ?_)
        | (refine R_go 9999 rfl rfl trivial ?_)
        | (refine R_go 9999 rfl rfl (by first | (show _ ∨ _; decide) | (show (_ ∨ _) ∧ (_ ∨ _); decide) | (show (_ ∨ _) ∧ (_ ∨ _) ∧ (_ ∨ _); decide)) ?_)
        | (refine R_go 9999 rfl rfl ?_ ?_))
    rintro r h' ⟨A1, rfl, hF1, rfl⟩
    rw [b2_1 hc]
    have hp2 := RCP_fr hp1 hF1
    repeat' (first
        | (refine R_br rfl rfl (fun hbr => absurd hbr (by first | decide | (with_reducible assumption))) (fun _ => ?_))
        | (refine R_br rfl rfl (fun _ => ?_) (fun hbr => absurd (by first | decide | (with_reducible assumption)) hbr))
        | (refine R_br rfl rfl (fun _ => ?_) (fun _ => ?_))
        | (refine R_ri rfl rfl ?_)
        | (refine R_rz rfl rfl (Or.inl rfl) ?_)
        | (refine R_rz rfl rfl (Or.inr rfl) ?_)
        | (refine R_rz rfl rfl (b2_01 _) ?_)
        | (refine R_rl rfl rfl ?_)
        | (refine R_rv rfl rfl ?_)
        | (refine R_cv rfl (m_write (i := 6) 0 p (WFP_255 hw) (mRn_full hc) hp2) rfl rfl rfl rfl rfl (Nat.le_of_ble_eq_true rfl) rfl ?_)
        | (refine R_sw _ rfl rfl rfl ?_)
        | (refine R_go 9999 rfl rfl trivial ?_)
        | (refine R_go 9999 rfl rfl (by first | (show _ ∨ _; decide) | (show (_ ∨ _) ∧ (_ ∨ _); decide) | (show (_ ∨ _) ∧ (_ ∨ _) ∧ (_ ∨ _); decide)) ?_)
        | (refine R_go 9999 rfl rfl ?_ ?_))
    rintro r h' ⟨A2, rfl, rfl, hs2, hF2⟩
    obtain ⟨dn, e, hd, hz⟩ := prog_ok hc hl
    have hld : ldn 17 (oF 0 p) = (dn, [], []) := by rw [e]; rfl
    rw [hld] at hs2
    have hS2 : RS 6 A2 dn [] := RS_of hs2
    have hok : okP dn := by rw [show dn = (oF 0 p).1 by rw [e]]; exact okP_F hc hl
    have hS3 : RS 6 (up3 A2 8 0 1 0) dn [] := RS_fr hS2 (by rw [up3_g (by decide)]) (by rw [up3_g (by decide)]) (by rw [up3_g (by decide)])
    have hne : ∀ g, g ≠ 4 → g ≠ 5 → g ≠ 6 → g ≠ 7 → g ≠ 8 → up3 A2 8 0 1 0 g = A g := fun g h4 h5 h6 h7 h8 => by
      rw [up3_g h8, hF2.1 g (by simp [gS, h4, h5, h6, h7]), h8o hF1 g h8]
    have hR3 : RCR (up3 A2 8 0 1 0) P R := RCR_fr hR (by rw [hne 18 (by decide) (by decide) (by decide) (by decide) (by decide)]) (hne 20 (by decide) (by decide) (by decide) (by decide) (by decide)) (hne 21 (by decide) (by decide) (by decide) (by decide) (by decide)) (fun i _ => by rw [hne 25 (by decide) (by decide) (by decide) (by decide) (by decide)])
    repeat' (first
        | (refine R_br rfl rfl (fun hbr => absurd hbr (by first | decide | (with_reducible assumption))) (fun _ => ?_))
        | (refine R_br rfl rfl (fun _ => ?_) (fun hbr => absurd (by first | decide | (with_reducible assumption)) hbr))
        | (refine R_br rfl rfl (fun _ => ?_) (fun _ => ?_))
        | (refine R_ri rfl rfl ?_)
        | (refine R_rz rfl rfl (Or.inl rfl) ?_)
        | (refine R_rz rfl rfl (Or.inr rfl) ?_)
        | (refine R_rz rfl rfl (b2_01 _) ?_)
        | (refine R_rl rfl rfl ?_)
        | (refine R_rv rfl rfl ?_)
        | (refine R_cvv rfl (m_clearC) rfl rfl rfl rfl rfl (Nat.le_of_ble_eq_true rfl) rfl ?_)
        | (refine R_cv rfl (m_runAll hok hR3 hS3) rfl rfl rfl rfl rfl (Nat.le_of_ble_eq_true rfl) rfl ?_)
        | (refine R_sw _ rfl rfl rfl ?_)
        | (refine R_go 9999 rfl rfl trivial ?_)
        | (refine R_go 9999 rfl rfl (by first | (show _ ∨ _; decide) | (show (_ ∨ _) ∧ (_ ∨ _); decide) | (show (_ ∨ _) ∧ (_ ∨ _) ∧ (_ ∨ _); decide)) ?_)
        | (refine R_go 9999 rfl rfl ?_ ?_))
    rintro r h' ⟨A4, B4, rfl, rfl, hF4, hJ4, hr4⟩
    have hS4 : RS 6 A4 dn [] := RS_fr hS3 (by rw [hF4 4 (by decide)]) (by rw [hF4 5 (by decide)]) (by rw [hF4 6 (by decide)])
    repeat' (first
        | (refine R_br rfl rfl (fun hbr => absurd hbr (by first | decide | (with_reducible assumption))) (fun _ => ?_))
        | (refine R_br rfl rfl (fun _ => ?_) (fun hbr => absurd (by first | decide | (with_reducible assumption)) hbr))
        | (refine R_br rfl rfl (fun _ => ?_) (fun _ => ?_))
        | (refine R_ri rfl rfl ?_)
        | (refine R_rz rfl rfl (Or.inl rfl) ?_)
        | (refine R_rz rfl rfl (Or.inr rfl) ?_)
        | (refine R_rz rfl rfl (b2_01 _) ?_)
        | (refine R_rl rfl rfl ?_)
        | (refine R_rv rfl rfl ?_)
        | (refine R_cvr rfl (m_linesS hS4.2.2.2.2) rfl rfl rfl rfl rfl (Nat.le_of_ble_eq_true rfl) rfl ?_)
        | (refine R_sw _ rfl rfl rfl ?_)
        | (refine R_go 9999 rfl rfl trivial ?_)
        | (refine R_go 9999 rfl rfl (by first | (show _ ∨ _; decide) | (show (_ ∨ _) ∧ (_ ∨ _); decide) | (show (_ ∨ _) ∧ (_ ∨ _) ∧ (_ ∨ _); decide)) ?_)
        | (refine R_go 9999 rfl rfl ?_ ?_))
    refine ⟨A4, B4, _, [], dn, rfl, rfl, Or.inl ⟨hc, by rw [e], rfl, by rw [e]⟩, ?_, hS4, ?_, ?_, fun g hg => ?_, hJ4⟩
    · have := RCP_c (A := A2)
      exact ⟨by rw [hF4 8 (by decide)]; exact this.1, by simp, fun k hk => by simp at hk⟩
    · refine ⟨by rw [hF4 1 (by decide), hne 1 (by decide) (by decide) (by decide) (by decide) (by decide)]; exact hL.1, fun j hj => RS_fr (hL.2 j hj) ?_ ?_ ?_⟩
      · rw [hF4 4 (by decide), up3_g (by decide), hF2.2 4 j (by omega), h8o hF1 4 (by decide)]
      · rw [hF4 5 (by decide), up3_g (by decide), hF2.2 5 j (by omega), h8o hF1 5 (by decide)]
      · rw [hF4 6 (by decide), up3_g (by decide), hF2.2 6 j (by omega), h8o hF1 6 (by decide)]
    · refine ⟨by rw [hF4 18 (by decide)]; exact hR3.1, hR.2.1, fun i hi => ?_⟩
      obtain ⟨a, b, -⟩ := hR3.2.2 i hi
      exact ⟨fun f hf => by rw [hF4 25 (by decide)]; exact a f hf, by rw [hF4 20 (by decide)]; exact b, hr4 i hi⟩
    · simp only [List.mem_cons, List.not_mem_nil, or_false, not_or] at hg
      obtain ⟨g4, g5, g6, g7, g8, g10, g21⟩ := hg
      rw [hF4 g (by simp [g10, g21]), hne g g4 g5 g6 g7 g8]
  ·
    repeat' (first
        | (refine R_br rfl rfl (fun hbr => absurd hbr (by first | decide | (with_reducible assumption))) (fun _ => ?_))
        | (refine R_br rfl rfl (fun _ => ?_) (fun hbr => absurd (by first | decide | (with_reducible assumption)) hbr))
        | (refine R_br rfl rfl (fun _ => ?_) (fun _ => ?_))
        | (refine R_ri rfl rfl ?_)
        | (refine R_rz rfl rfl (Or.inl rfl) ?_)
        | (refine R_rz rfl rfl (Or.inr rfl) ?_)
        | (refine R_rz rfl rfl (b2_01 _) ?_)
        | (refine R_rl rfl rfl ?_)
        | (refine R_rv rfl rfl ?_)
        | (refine R_cv rfl (m_isWhole 0 p (by decide) (WFP_255 hw) hp1) rfl rfl rfl rfl rfl (Nat.le_of_ble_eq_true rfl) rfl ?_)
        | (refine R_sw _ rfl rfl rfl ?_)
        | (refine R_go 9999 rfl rfl trivial ?_)
        | (refine R_go 9999 rfl rfl (by first | (show _ ∨ _; decide) | (show (_ ∨ _) ∧ (_ ∨ _); decide) | (show (_ ∨ _) ∧ (_ ∨ _) ∧ (_ ∨ _); decide)) ?_)
        | (refine R_go 9999 rfl rfl ?_ ?_))
    rintro r h' ⟨A1, rfl, hF1, rfl⟩
    rw [b2_0 hc]
    repeat' (first
        | (refine R_br rfl rfl (fun hbr => absurd hbr (by first | decide | (with_reducible assumption))) (fun _ => ?_))
        | (refine R_br rfl rfl (fun _ => ?_) (fun hbr => absurd (by first | decide | (with_reducible assumption)) hbr))
        | (refine R_br rfl rfl (fun _ => ?_) (fun _ => ?_))
        | (refine R_ri rfl rfl ?_)
        | (refine R_rz rfl rfl (Or.inl rfl) ?_)
        | (refine R_rz rfl rfl (Or.inr rfl) ?_)
        | (refine R_rz rfl rfl (b2_01 _) ?_)
        | (refine R_rl rfl rfl ?_)
        | (refine R_rv rfl rfl ?_)
        | (refine R_sw _ rfl rfl rfl ?_)
        | (refine R_go 9999 rfl rfl trivial ?_)
        | (refine R_go 9999 rfl rfl (by first | (show _ ∨ _; decide) | (show (_ ∨ _) ∧ (_ ∨ _); decide) | (show (_ ∨ _) ∧ (_ ∨ _) ∧ (_ ∨ _); decide)) ?_)
        | (refine R_go 9999 rfl rfl ?_ ?_))
    refine ⟨A1, B, _, p, P, rfl, rfl, Or.inr ⟨hc, rfl, rfl, rfl⟩, RCP_fr hp1 hF1, RS_fr hS (by rw [h8o hF1 4 (by decide)]) (by rw [h8o hF1 5 (by decide)]) (by rw [h8o hF1 6 (by decide)]), ⟨by rw [h8o hF1 1 (by decide)]; exact hL.1, fun j hj => RS_fr (hL.2 j hj) (by rw [h8o hF1 4 (by decide)]) (by rw [h8o hF1 5 (by decide)]) (by rw [h8o hF1 6 (by decide)])⟩, RCR_fr hR (by rw [h8o hF1 18 (by decide)]) (h8o hF1 20 (by decide)) (h8o hF1 21 (by decide)) (fun i _ => by rw [h8o hF1 25 (by decide)]), hF8 hF1, FmJ_rf⟩
theorem m_lawsC {n : Nat} {A : FI} {B : FJ} (h : A 1 0 2 = nI n) : MV 0 0 mtX3_laws [.inr (.inr (some (1, 0)))] (hp A B) (Ret (some (.inl (nI n))) (hp A B)) := by
  refine MV_of caX3_laws (L := [some (.inr (.inr (some (1, 0))))]) rfl rfl ?_
  repeat' (first
      | (refine R_br rfl rfl (fun hbr => absurd hbr (by first | decide | (with_reducible assumption))) (fun _ => ?_))
      | (refine R_br rfl rfl (fun _ => ?_) (fun hbr => absurd (by first | decide | (with_reducible assumption)) hbr))
      | (refine R_br rfl rfl (fun _ => ?_) (fun _ => ?_))
      | (refine R_ri rfl rfl ?_)
      | (refine R_rz rfl rfl (Or.inl rfl) ?_)
      | (refine R_rz rfl rfl (Or.inr rfl) ?_)
      | (refine R_rz rfl rfl (b2_01 _) ?_)
      | (refine R_rl rfl rfl ?_)
      | (refine R_rv rfl rfl ?_)
      | (refine R_sw _ rfl rfl rfl ?_)
      | (refine R_go 9999 rfl rfl trivial ?_)
      | (refine R_go 9999 rfl rfl (by first | (show _ ∨ _; decide) | (show (_ ∨ _) ∧ (_ ∨ _); decide) | (show (_ ∨ _) ∧ (_ ∨ _) ∧ (_ ∨ _); decide)) ?_)
      | (refine R_go 9999 rfl rfl ?_ ?_))
  exact ret_i h rfl
def lwR (p : List Nat) (LS : List (List Tk)) (r : Int32) (p' : List Nat) (LS' : List (List Tk)) : Prop := (whC 1 p ∧ LS.length < 6 ∧ r = nI LS.length ∧ p' = [] ∧ LS' = LS ++ [(ldn 17 (oF 1 p)).2.1]) ∨ (whC 1 p ∧ LS.length = 6 ∧ r = -104 ∧ p' = p ∧ LS' = LS) ∨ (¬ whC 1 p ∧ r = -103 ∧ p' = p ∧ LS' = LS)
theorem lwR_un {p : List Nat} {LS : List (List Tk)} {r r2 : Int32} {p' p2 : List Nat} {L' L2 : List (List Tk)} (a : lwR p LS r p' L') (b : lwR p LS r2 p2 L2) : r = r2 ∧ p' = p2 ∧ L' = L2 := by
  rcases a with ⟨a, a2, rfl, rfl, rfl⟩ | ⟨a, a2, rfl, rfl, rfl⟩ | ⟨a, rfl, rfl, rfl⟩ <;> rcases b with ⟨b, b2, rfl, rfl, rfl⟩ | ⟨b, b2, rfl, rfl, rfl⟩ | ⟨b, rfl, rfl, rfl⟩
  all_goals first | exact ⟨rfl, rfl, rfl⟩ | (exfalso; omega) | exact absurd a b | exact absurd b a
theorem m_lawC {p : List Nat} {P : List (List Tk × Nat)} {LS : List (List Tk)} {A : FI} {B : FJ} (hp1 : RCP A p) (hw : WFP p) (hS : RS 6 A P []) (hL : RCL A LS) (hl6 : LS.length ≤ 6) : MV 6 0 mtX11_law [.inr (.inr (some (0, 0)))] (hp A B) (fun r h' => ∃ A' r' p' LS', h' = hp A' B ∧ r = some (.inl r') ∧ lwR p LS r' p' LS' ∧ RCP A' p' ∧ RS 6 A' P [] ∧ RCL A' LS' ∧ Fm [1, 4, 5, 6, 7, 8] A A') := by
  have hl := hp1.2.1
  refine MV_of caX11_law (L := [some (.inr (.inr (some (0, 0))))]) rfl rfl ?_
  have h8o : ∀ {A1 : FI}, FmO 8 [] [2, 3, 4, 5, 6, 7, 8] A A1 → ∀ g, g ≠ 8 → A1 g = A g := fun h g hg => h.1 g hg (by simp)
  have hF8 : ∀ {A1 : FI}, FmO 8 [] [2, 3, 4, 5, 6, 7, 8] A A1 → Fm [1, 4, 5, 6, 7, 8] A A1 := fun h g hg => by
    simp only [List.mem_cons, List.not_mem_nil, or_false, not_or] at hg
    exact h8o h g hg.2.2.2.2.2
  have hS1 : ∀ {A1 : FI}, FmO 8 [] [2, 3, 4, 5, 6, 7, 8] A A1 → ∀ {i : Nat} {dn : List (List Tk × Nat)} {cur : List Tk}, RS i A dn cur → RS i A1 dn cur := fun hF1 i dn cur h => RS_fr h (by rw [h8o hF1 4 (by decide)]) (by rw [h8o hF1 5 (by decide)]) (by rw [h8o hF1 6 (by decide)])
  have tl := ti LS.length (by omega)
  by_cases hc : whC 1 p
  ·
    repeat' (first
        | (refine R_br rfl rfl (fun hbr => absurd hbr (by first | decide | (with_reducible assumption))) (fun _ => ?_))
        | (refine R_br rfl rfl (fun _ => ?_) (fun hbr => absurd (by first | decide | (with_reducible assumption)) hbr))
        | (refine R_br rfl rfl (fun _ => ?_) (fun _ => ?_))
        | (refine R_ri rfl rfl ?_)
        | (refine R_rz rfl rfl (Or.inl rfl) ?_)
        | (refine R_rz rfl rfl (Or.inr rfl) ?_)
        | (refine R_rz rfl rfl (b2_01 _) ?_)
        | (refine R_rl rfl rfl ?_)
        | (refine R_rv rfl rfl ?_)
        | (refine R_cv rfl (m_isWhole 1 p (by decide) (WFP_255 hw) hp1) rfl rfl rfl rfl rfl (Nat.le_of_ble_eq_true rfl) rfl ?_)
        | (refine R_sw _ rfl rfl rfl ?_)
        | (refine R_go 9999 rfl rfl trivial ?_)
        | (refine R_go 9999 rfl rfl (by first | (show _ ∨ _; decide) | (show (_ ∨ _) ∧ (_ ∨ _); decide) | (show (_ ∨ _) ∧ (_ ∨ _) ∧ (_ ∨ _); decide)) ?_)
        | (refine R_go 9999 rfl rfl ?_ ?_))
    rintro r h' ⟨A1, rfl, hF1, rfl⟩
    rw [b2_1 hc]
    have hp2 := RCP_fr hp1 hF1
    have e1 : A1 1 0 2 = nI LS.length := by rw [h8o hF1 1 (by decide)]; exact hL.1
    by_cases h6 : LS.length < 6
    · have cl : (nI LS.length).toNatClampNeg = LS.length := nI_clamp (by omega)
      have hv : vp_in (nI LS.length) 6 := vpN (n := 6) (by omega) rfl
      have hwr := m_write (i := LS.length) (B := B) 1 p (WFP_255 hw) (mRn_full hc) hp2
      have hadd : MV 5 1 mtX3_addLaw [.inr (.inr (some (1, 0))), .inr (.inr (some (8, 0)))] (hp A1 B) (fun r h' => ∃ A2, r = none ∧ h' = hp (up3 A2 1 0 2 (nI (LS.length + 1))) B ∧ RSO LS.length A2 (ldn 17 (oF 1 p)) ∧ Fi gS LS.length A1 A2) := by
        refine MV_of caX3_addLaw (L := [some (.inr (.inr (some (1, 0)))), some (.inr (.inr (some (8, 0))))]) rfl rfl ?_
        refine R_go 9999 rfl rfl trivial ?_
        refine R_br rfl rfl (fun h => absurd h (by rw [e1]; (simp only [i_eq, i_lt, i_le, Int32.reduceToInt, true_and, and_true, false_and, and_false, or_false, false_or, or_true, true_or, ne_eq] at *; first | done | omega))) (fun _ => ?_)
        refine R_go 9999 rfl rfl (by rw [e1]; exact ⟨hv, hv⟩) ?_
        rw [e1, cl]
        refine R_cv rfl hwr rfl rfl rfl rfl rfl (Nat.le_of_ble_eq_true rfl) rfl ?_
        rintro r h' ⟨A2, rfl, rfl, hs2, hF2⟩
        repeat' (first
            | (refine R_br rfl rfl (fun hbr => absurd hbr (by first | decide | (with_reducible assumption))) (fun _ => ?_))
            | (refine R_br rfl rfl (fun _ => ?_) (fun hbr => absurd (by first | decide | (with_reducible assumption)) hbr))
            | (refine R_br rfl rfl (fun _ => ?_) (fun _ => ?_))
            | (refine R_ri rfl rfl ?_)
            | (refine R_rz rfl rfl (Or.inl rfl) ?_)
            | (refine R_rz rfl rfl (Or.inr rfl) ?_)
            | (refine R_rz rfl rfl (b2_01 _) ?_)
            | (refine R_rl rfl rfl ?_)
            | (refine R_rv rfl rfl ?_)
            | (refine R_sw _ rfl rfl rfl ?_)
            | (refine R_go 9999 rfl rfl trivial ?_)
            | (refine R_go 9999 rfl rfl (by first | (show _ ∨ _; decide) | (show (_ ∨ _) ∧ (_ ∨ _); decide) | (show (_ ∨ _) ∧ (_ ∨ _) ∧ (_ ∨ _); decide)) ?_)
            | (refine R_go 9999 rfl rfl ?_ ?_))
        rw [hF2.1 1 (by decide), e1, nI_1]
        exact ⟨A2, rfl, rfl, hs2, hF2⟩
      repeat' (first
          | (refine R_br rfl rfl (fun hbr => absurd hbr (by first | decide | (with_reducible assumption) | (simp only [i_eq, i_lt, i_le, Int32.reduceToInt, ne_eq, up3_self, nI_1]; first | done | omega))) (fun _ => ?_))
          | (refine R_br rfl rfl (fun _ => ?_) (fun hbr => absurd (by first | decide | (with_reducible assumption) | (simp only [i_eq, i_lt, i_le, Int32.reduceToInt, ne_eq, up3_self, nI_1]; first | done | omega)) hbr))
          | (refine R_br rfl rfl (fun _ => ?_) (fun _ => ?_))
          | (refine R_ri rfl rfl ?_)
          | (refine R_rz rfl rfl (Or.inl rfl) ?_)
          | (refine R_rz rfl rfl (Or.inr rfl) ?_)
          | (refine R_rz rfl rfl (b2_01 _) ?_)
          | (refine R_rl rfl rfl ?_)
          | (refine R_rv rfl rfl ?_)
          | (refine R_cvr rfl (m_lawsC e1) rfl rfl rfl rfl rfl (Nat.le_of_ble_eq_true rfl) rfl ?_)
          | (refine R_cv rfl (hadd) rfl rfl rfl rfl rfl (Nat.le_of_ble_eq_true rfl) rfl ?_)
          | (refine R_sw _ rfl rfl rfl ?_)
          | (refine R_go 9999 rfl rfl trivial ?_)
          | (refine R_go 9999 rfl rfl (by first | (show _ ∨ _; decide) | (show (_ ∨ _) ∧ (_ ∨ _); decide) | (show (_ ∨ _) ∧ (_ ∨ _) ∧ (_ ∨ _); decide)) ?_)
          | (refine R_go 9999 rfl rfl ?_ ?_))
      rintro r h' ⟨A2, rfl, rfl, hs2, hF2⟩
      obtain ⟨l, e, hlw, hll, -⟩ := law_ok hc hl
      have hRS : RS LS.length A2 [] l := by
        have := RS_of hs2
        rw [e] at this
        exact this
      have e3 : up3 (up3 A2 1 0 2 (nI (LS.length + 1))) 8 0 1 0 1 0 2 = nI (LS.length + 1) := by rw [up3_g (by decide), up3_self]
      repeat' (first
          | (refine R_br rfl rfl (fun hbr => absurd hbr (by first | decide | (with_reducible assumption))) (fun _ => ?_))
          | (refine R_br rfl rfl (fun _ => ?_) (fun hbr => absurd (by first | decide | (with_reducible assumption)) hbr))
          | (refine R_br rfl rfl (fun _ => ?_) (fun _ => ?_))
          | (refine R_ri rfl rfl ?_)
          | (refine R_rz rfl rfl (Or.inl rfl) ?_)
          | (refine R_rz rfl rfl (Or.inr rfl) ?_)
          | (refine R_rz rfl rfl (b2_01 _) ?_)
          | (refine R_rl rfl rfl ?_)
          | (refine R_rv rfl rfl ?_)
          | (refine R_cvv rfl (m_clearC) rfl rfl rfl rfl rfl (Nat.le_of_ble_eq_true rfl) rfl ?_)
          | (refine R_cvr rfl (m_lawsC e3) rfl rfl rfl rfl rfl (Nat.le_of_ble_eq_true rfl) rfl ?_)
          | (refine R_sw _ rfl rfl rfl ?_)
          | (refine R_go 9999 rfl rfl trivial ?_)
          | (refine R_go 9999 rfl rfl (by first | (show _ ∨ _; decide) | (show (_ ∨ _) ∧ (_ ∨ _); decide) | (show (_ ∨ _) ∧ (_ ∨ _) ∧ (_ ∨ _); decide)) ?_)
          | (refine R_go 9999 rfl rfl ?_ ?_))
      have h45 : ∀ g, g ≠ 1 → g ≠ 8 → up3 (up3 A2 1 0 2 (nI (LS.length + 1))) 8 0 1 0 g = A2 g := fun g h1 h8 => by rw [up3_g h8, up3_g h1]
      refine ⟨_, _, [], LS ++ [l], rfl, by rw [nI_pred], Or.inl ⟨hc, h6, rfl, rfl, by rw [e]⟩, RCP_c, ?_, ?_, fun g hg => ?_⟩
      · refine RS_fr (hS1 hF1 hS) ?_ ?_ ?_
        · rw [h45 4 (by decide) (by decide), hF2.2 4 6 (by omega)]
        · rw [h45 5 (by decide) (by decide), hF2.2 5 6 (by omega)]
        · rw [h45 6 (by decide) (by decide), hF2.2 6 6 (by omega)]
      · refine ⟨by rw [e3]; simp, fun j hj => ?_⟩
        rw [List.length_append, List.length_singleton] at hj
        by_cases hjl : j = LS.length
        · subst hjl
          rw [gd_e]
          exact RS_fr hRS (by rw [h45 4 (by decide) (by decide)]) (by rw [h45 5 (by decide) (by decide)]) (by rw [h45 6 (by decide) (by decide)])
        · rw [gd_l (by omega)]
          refine RS_fr (hS1 hF1 (hL.2 j (by omega))) ?_ ?_ ?_
          · rw [h45 4 (by decide) (by decide), hF2.2 4 j hjl]
          · rw [h45 5 (by decide) (by decide), hF2.2 5 j hjl]
          · rw [h45 6 (by decide) (by decide), hF2.2 6 j hjl]
      · simp only [List.mem_cons, List.not_mem_nil, or_false, not_or] at hg
        rw [h45 g hg.1 hg.2.2.2.2.2, hF2.1 g (by simp [gS, hg.2.1, hg.2.2.1, hg.2.2.2.1, hg.2.2.2.2.1]), h8o hF1 g hg.2.2.2.2.2]
    ·
      repeat' (first
          | (refine R_br rfl rfl (fun hbr => absurd hbr (by first | decide | (with_reducible assumption) | (simp only [i_eq, i_lt, i_le, Int32.reduceToInt, ne_eq, up3_self, nI_1]; first | done | omega))) (fun _ => ?_))
          | (refine R_br rfl rfl (fun _ => ?_) (fun hbr => absurd (by first | decide | (with_reducible assumption) | (simp only [i_eq, i_lt, i_le, Int32.reduceToInt, ne_eq, up3_self, nI_1]; first | done | omega)) hbr))
          | (refine R_br rfl rfl (fun _ => ?_) (fun _ => ?_))
          | (refine R_ri rfl rfl ?_)
          | (refine R_rz rfl rfl (Or.inl rfl) ?_)
          | (refine R_rz rfl rfl (Or.inr rfl) ?_)
          | (refine R_rz rfl rfl (b2_01 _) ?_)
          | (refine R_rl rfl rfl ?_)
          | (refine R_rv rfl rfl ?_)
          | (refine R_cvr rfl (m_lawsC e1) rfl rfl rfl rfl rfl (Nat.le_of_ble_eq_true rfl) rfl ?_)
          | (refine R_sw _ rfl rfl rfl ?_)
          | (refine R_go 9999 rfl rfl trivial ?_)
          | (refine R_go 9999 rfl rfl (by first | (show _ ∨ _; decide) | (show (_ ∨ _) ∧ (_ ∨ _); decide) | (show (_ ∨ _) ∧ (_ ∨ _) ∧ (_ ∨ _); decide)) ?_)
          | (refine R_go 9999 rfl rfl ?_ ?_))
      exact ⟨A1, _, p, LS, rfl, rfl, Or.inr (Or.inl ⟨hc, by omega, rfl, rfl, rfl⟩), hp2, hS1 hF1 hS, ⟨e1, fun j hj => hS1 hF1 (hL.2 j hj)⟩, hF8 hF1⟩
  ·
    repeat' (first
        | (refine R_br rfl rfl (fun hbr => absurd hbr (by first | decide | (with_reducible assumption))) (fun _ => ?_))
        | (refine R_br rfl rfl (fun _ => ?_) (fun hbr => absurd (by first | decide | (with_reducible assumption)) hbr))
        | (refine R_br rfl rfl (fun _ => ?_) (fun _ => ?_))
        | (refine R_ri rfl rfl ?_)
        | (refine R_rz rfl rfl (Or.inl rfl) ?_)
        | (refine R_rz rfl rfl (Or.inr rfl) ?_)
        | (refine R_rz rfl rfl (b2_01 _) ?_)
        | (refine R_rl rfl rfl ?_)
        | (refine R_rv rfl rfl ?_)
        | (refine R_cv rfl (m_isWhole 1 p (by decide) (WFP_255 hw) hp1) rfl rfl rfl rfl rfl (Nat.le_of_ble_eq_true rfl) rfl ?_)
        | (refine R_sw _ rfl rfl rfl ?_)
        | (refine R_go 9999 rfl rfl trivial ?_)
        | (refine R_go 9999 rfl rfl (by first | (show _ ∨ _; decide) | (show (_ ∨ _) ∧ (_ ∨ _); decide) | (show (_ ∨ _) ∧ (_ ∨ _) ∧ (_ ∨ _); decide)) ?_)
        | (refine R_go 9999 rfl rfl ?_ ?_))
    rintro r h' ⟨A1, rfl, hF1, rfl⟩
    rw [b2_0 hc]
    repeat' (first
        | (refine R_br rfl rfl (fun hbr => absurd hbr (by first | decide | (with_reducible assumption))) (fun _ => ?_))
        | (refine R_br rfl rfl (fun _ => ?_) (fun hbr => absurd (by first | decide | (with_reducible assumption)) hbr))
        | (refine R_br rfl rfl (fun _ => ?_) (fun _ => ?_))
        | (refine R_ri rfl rfl ?_)
        | (refine R_rz rfl rfl (Or.inl rfl) ?_)
        | (refine R_rz rfl rfl (Or.inr rfl) ?_)
        | (refine R_rz rfl rfl (b2_01 _) ?_)
        | (refine R_rl rfl rfl ?_)
        | (refine R_rv rfl rfl ?_)
        | (refine R_sw _ rfl rfl rfl ?_)
        | (refine R_go 9999 rfl rfl trivial ?_)
        | (refine R_go 9999 rfl rfl (by first | (show _ ∨ _; decide) | (show (_ ∨ _) ∧ (_ ∨ _); decide) | (show (_ ∨ _) ∧ (_ ∨ _) ∧ (_ ∨ _); decide)) ?_)
        | (refine R_go 9999 rfl rfl ?_ ?_))
    exact ⟨A1, _, p, LS, rfl, rfl, Or.inr (Or.inr ⟨hc, rfl, rfl, rfl⟩), RCP_fr hp1 hF1, hS1 hF1 hS, ⟨by rw [h8o hF1 1 (by decide)]; exact hL.1, fun j hj => hS1 hF1 (hL.2 j hj)⟩, hF8 hF1⟩
