/-- the class's row() -/
theorem m_rowC {P : List (List Tk × Nat)} {R : List Rw} {A : FI} {B : FJ} (hP : okG P) (hS : RS 6 A P []) (hR : RCR A P R) (x : Int64) (o : Int32) : MV 4 2 mtX11_row [.inr (.inr (some (0, 0))), .inr (.inl x), .inl o] (hp A B) (fun r h' => ∃ A' B', h' = hp A' B' ∧ r = some (.inl (rowA R x o).1) ∧ RCR A' P (rowA R x o).2 ∧ Fm [10, 18, 20, 21, 25] A A' ∧ A' 18 0 13 = A' 18 0 13 ∧ FmJ [11] B B') := by
  refine MV_of caX11_row (L := [some (.inr (.inr (some (0, 0)))), some (.inr (.inl x)), none, some (.inl o)]) rfl rfl ?_
  refine R_go 9999 rfl rfl trivial ?_
  refine R_cv rfl (m_read x) rfl rfl rfl rfl rfl (Nat.le_of_ble_eq_true rfl) rfl ?_
  rintro r h' ⟨A1, rfl, hF1, hps⟩
  have hG := FmG_i hF1 (Or.inl rfl)
  have hF1' : Fm [10, 18, 20, 21, 25] A A1 := fun g hg => by
    simp only [List.mem_cons, List.not_mem_nil, or_false, not_or] at hg
    exact hG.1 g hg.1 hg.2.2.2.2
  have hR1 : RCR A1 P R := RCR_fr hR (by rw [hG.1 18 (by decide) (by decide)]) (hG.1 20 (by decide) (by decide)) (hG.1 21 (by decide) (by decide)) (fun i hi => hG.2 i (by omega) (by omega))
  rcases hps with ⟨hps, rfl, hq⟩ | ⟨hps, rfl⟩
  · have hS1 : RS 6 A1 P [] := RS_fr hS (by rw [hG.1 4 (by decide) (by decide)]) (by rw [hG.1 5 (by decide) (by decide)]) (by rw [hG.1 6 (by decide) (by decide)])
    have h24 := hR.2.1
    have tn := ti R.length (by omega)
    by_cases ho : -1 ≤ o.toInt ∧ o.toInt ≤ 1
    · rw [rowA_y ⟨hps, ho⟩]
      by_cases hf : R.length = 24
      · rw [if_pos hf]
        repeat' (first
            | (refine R_br rfl rfl (fun hbr => absurd hbr (by first | decide | (with_reducible assumption))) (fun _ => ?_))
            | (refine R_br rfl rfl (fun _ => ?_) (fun hbr => absurd (by first | decide | (with_reducible assumption)) hbr))
            | (refine R_br rfl rfl (fun _ => ?_) (fun _ => ?_))
            | (refine R_ri rfl rfl ?_)
            | (refine R_rz rfl rfl (Or.inl rfl) ?_)
            | (refine R_rz rfl rfl (Or.inr rfl) ?_)
            | (refine R_rz rfl rfl (b2_01 _) ?_)
            | (refine R_rl rfl rfl ?_)
            | (refine R_rv rfl rfl ?_)
            | (refine R_cvr rfl (m_sizeR hR1.1) rfl rfl rfl rfl rfl (Nat.le_of_ble_eq_true rfl) rfl ?_)
            | (refine R_sw _ rfl rfl rfl ?_)
            | (refine R_go 9999 rfl rfl trivial ?_)
            | (refine R_go 9999 rfl rfl (by first | (show _ ∨ _; decide) | (show (_ ∨ _) ∧ (_ ∨ _); decide) | (show (_ ∨ _) ∧ (_ ∨ _) ∧ (_ ∨ _); decide)) ?_)
            | (refine R_go 9999 rfl rfl ?_ ?_))
        all_goals first | exact ⟨A1, B, rfl, rfl, hR1, hF1', rfl, FmJ_rf⟩ | (exfalso; (simp only [i_eq, i_lt, i_le, Int32.reduceToInt, true_and, and_true, false_and, and_false, or_false, false_or, or_true, true_or, ne_eq] at *; first | done | omega))
      · rw [if_neg hf]
        have n1 : nI R.length < 24 := by (simp only [i_eq, i_lt, i_le, Int32.reduceToInt, true_and, and_true, false_and, and_false, or_false, false_or, or_true, true_or, ne_eq] at *; first | done | omega)
        have hhp := m_hasProgram (B := B) hS1 (okG_len hP)
        have hfin : ∀ (A2 : FI) (B2 : FJ), Fm3 A1 A2 → FmJ [11] B B2 → Rn 4 mtX11_row 74 [some (.inr (.inr (some (0, 0)))), some (.inr (.inl x)), none, some (.inl o)] [.inl (reS P (prQ x)), .inl o, .inr (.inr (some (24, 26))), .inr (.inr (some (18, 0)))] (hp A2 B2) (fun r h' => ∃ A' B', h' = hp A' B' ∧ r = some (.inl (nI (R.length + 1), R ++ [(prQ x, o)]).1) ∧ RCR A' P (nI (R.length + 1), R ++ [(prQ x, o)]).2 ∧ Fm [10, 18, 20, 21, 25] A A' ∧ A' 18 0 13 = A' 18 0 13 ∧ FmJ [11] B B') := by
          intro A2 B2 hF2 hJ2
          have hR2 : RCR A2 P R := RCR_fr hR1 (by rw [FmO_Fm hF2 (by decide)]) (FmO_Fm hF2 (by decide)) (FmO_Fm hF2 (by decide)) (fun i _ => by rw [FmO_Fm hF2 (by decide)])
          have hq2 : RPn 26 A2 (prQ x) := RPn_3 hq hF2
          refine R_cv rfl (m_addR hR2 (by omega) hq2 o) rfl rfl rfl rfl rfl (Nat.le_of_ble_eq_true rfl) rfl ?_
          rintro r h' ⟨A3, rfl, rfl, hF3, -, hR3⟩
          have e3 : A3 18 0 3 = nI (R.length + 1) := by have := hR3.1; simpa using this
          repeat' (first
              | (refine R_br rfl rfl (fun hbr => absurd hbr (by first | decide | (with_reducible assumption))) (fun _ => ?_))
              | (refine R_br rfl rfl (fun _ => ?_) (fun hbr => absurd (by first | decide | (with_reducible assumption)) hbr))
              | (refine R_br rfl rfl (fun _ => ?_) (fun _ => ?_))
              | (refine R_ri rfl rfl ?_)
              | (refine R_rz rfl rfl (Or.inl rfl) ?_)
              | (refine R_rz rfl rfl (Or.inr rfl) ?_)
              | (refine R_rz rfl rfl (b2_01 _) ?_)
              | (refine R_rl rfl rfl ?_)
              | (refine R_rv rfl rfl ?_)
              | (refine R_cvr rfl (m_sizeR e3) rfl rfl rfl rfl rfl (Nat.le_of_ble_eq_true rfl) rfl ?_)
              | (refine R_sw _ rfl rfl rfl ?_)
              | (refine R_go 9999 rfl rfl trivial ?_)
              | (refine R_go 9999 rfl rfl (by first | (show _ ∨ _; decide) | (show (_ ∨ _) ∧ (_ ∨ _); decide) | (show (_ ∨ _) ∧ (_ ∨ _) ∧ (_ ∨ _); decide)) ?_)
              | (refine R_go 9999 rfl rfl ?_ ?_))
          refine ⟨A3, B2, rfl, rfl, hR3, fun g hg => ?_, rfl, hJ2⟩
          simp only [List.mem_cons, List.not_mem_nil, or_false, not_or] at hg
          rw [hF3 g (by simp [hg]), FmO_Fm hF2 hg.1, hF1' g (by simp [hg])]
        by_cases hPe : P = []
        · rw [isE.2 hPe] at hhp
          have hre : reS P (prQ x) = -1 := if_pos hPe
          rw [hre] at hfin
          repeat' (first
              | (refine R_stop 74 rfl rfl ?_)
              | (refine R_br rfl rfl (fun hbr => absurd hbr (by first | decide | (with_reducible assumption))) (fun _ => ?_))
              | (refine R_br rfl rfl (fun _ => ?_) (fun hbr => absurd (by first | decide | (with_reducible assumption)) hbr))
              | (refine R_br rfl rfl (fun _ => ?_) (fun _ => ?_))
              | (refine R_ri rfl rfl ?_)
              | (refine R_rz rfl rfl (Or.inl rfl) ?_)
              | (refine R_rz rfl rfl (Or.inr rfl) ?_)
              | (refine R_rz rfl rfl (b2_01 _) ?_)
              | (refine R_rl rfl rfl ?_)
              | (refine R_rv rfl rfl ?_)
              | (refine R_cvr rfl (m_sizeR hR1.1) rfl rfl rfl rfl rfl (Nat.le_of_ble_eq_true rfl) rfl ?_)
              | (refine R_cvr rfl (hhp) rfl rfl rfl rfl rfl (Nat.le_of_ble_eq_true rfl) rfl ?_)
              | (refine R_sw _ rfl rfl rfl ?_)
              | (refine R_go 74 rfl rfl trivial ?_)
              | (refine R_go 74 rfl rfl (by first | (show _ ∨ _; decide) | (show (_ ∨ _) ∧ (_ ∨ _); decide) | (show (_ ∨ _) ∧ (_ ∨ _) ∧ (_ ∨ _); decide)) ?_)
              | (refine R_go 74 rfl rfl ?_ ?_))
          all_goals first | exact ⟨hfin A1 B FmO_rf FmJ_rf, trivial⟩ | (exfalso; (simp only [i_eq, i_lt, i_le, Int32.reduceToInt, true_and, and_true, false_and, and_false, or_false, false_or, or_true, true_or, ne_eq] at *; first | done | omega))
        · rw [isE.1 hPe] at hhp
          have hre := reS_y hPe (prQ x)
          rw [hre] at hfin
          repeat' (first
              | (refine R_br rfl rfl (fun hbr => absurd hbr (by first | decide | (with_reducible assumption))) (fun _ => ?_))
              | (refine R_br rfl rfl (fun _ => ?_) (fun hbr => absurd (by first | decide | (with_reducible assumption)) hbr))
              | (refine R_br rfl rfl (fun _ => ?_) (fun _ => ?_))
              | (refine R_ri rfl rfl ?_)
              | (refine R_rz rfl rfl (Or.inl rfl) ?_)
              | (refine R_rz rfl rfl (Or.inr rfl) ?_)
              | (refine R_rz rfl rfl (b2_01 _) ?_)
              | (refine R_rl rfl rfl ?_)
              | (refine R_rv rfl rfl ?_)
              | (refine R_cvr rfl (m_sizeR hR1.1) rfl rfl rfl rfl rfl (Nat.le_of_ble_eq_true rfl) rfl ?_)
              | (refine R_cvr rfl (hhp) rfl rfl rfl rfl rfl (Nat.le_of_ble_eq_true rfl) rfl ?_)
              | (refine R_cv rfl (m_walkP (okG_ne hP hPe) hS1 hq) rfl rfl rfl rfl rfl (Nat.le_of_ble_eq_true rfl) rfl ?_)
              | (refine R_sw _ rfl rfl rfl ?_)
              | (refine R_go 9999 rfl rfl trivial ?_)
              | (refine R_go 9999 rfl rfl (by first | (show _ ∨ _; decide) | (show (_ ∨ _) ∧ (_ ∨ _); decide) | (show (_ ∨ _) ∧ (_ ∨ _) ∧ (_ ∨ _); decide)) ?_)
              | (refine R_go 9999 rfl rfl ?_ ?_))
          all_goals first
            | (exfalso; (simp only [i_eq, i_lt, i_le, Int32.reduceToInt, true_and, and_true, false_and, and_false, or_false, false_or, or_true, true_or, ne_eq] at *; first | done | omega))
            | (rintro r h' ⟨A2, B2, rfl, rfl, -, hF2, hJ2⟩; refine R_go 74 rfl rfl trivial ?_; exact hfin A2 B2 hF2 hJ2)
    · rw [rowA_n (fun z => ho z.2)]
      repeat' (first
          | (refine R_br rfl rfl (fun hbr => absurd hbr (by first | decide | (with_reducible assumption))) (fun _ => ?_))
          | (refine R_br rfl rfl (fun _ => ?_) (fun hbr => absurd (by first | decide | (with_reducible assumption)) hbr))
          | (refine R_br rfl rfl (fun _ => ?_) (fun _ => ?_))
          | (refine R_ri rfl rfl ?_)
          | (refine R_rz rfl rfl (Or.inl rfl) ?_)
          | (refine R_rz rfl rfl (Or.inr rfl) ?_)
          | (refine R_rz rfl rfl (b2_01 _) ?_)
          | (refine R_rl rfl rfl ?_)
          | (refine R_rv rfl rfl ?_)
          | (refine R_sw _ rfl rfl rfl ?_)
          | (refine R_go 9999 rfl rfl trivial ?_)
          | (refine R_go 9999 rfl rfl (by first | (show _ ∨ _; decide) | (show (_ ∨ _) ∧ (_ ∨ _); decide) | (show (_ ∨ _) ∧ (_ ∨ _) ∧ (_ ∨ _); decide)) ?_)
          | (refine R_go 9999 rfl rfl ?_ ?_))
      all_goals first | exact ⟨A1, B, rfl, rfl, hR1, hF1', rfl, FmJ_rf⟩ | (exfalso; (simp only [i_eq, i_lt, i_le, Int32.reduceToInt, true_and, and_true, false_and, and_false, or_false, false_or, or_true, true_or, ne_eq] at *; first | done | omega))
  · rw [rowA_n (fun z => hps z.1)]
    repeat' (first
        | (refine R_br rfl rfl (fun hbr => absurd hbr (by first | decide | (with_reducible assumption))) (fun _ => ?_))
        | (refine R_br rfl rfl (fun _ => ?_) (fun hbr => absurd (by first | decide | (with_reducible assumption)) hbr))
        | (refine R_br rfl rfl (fun _ => ?_) (fun _ => ?_))
        | (refine R_ri rfl rfl ?_)
        | (refine R_rz rfl rfl (Or.inl rfl) ?_)
        | (refine R_rz rfl rfl (Or.inr rfl) ?_)
        | (refine R_rz rfl rfl (b2_01 _) ?_)
        | (refine R_rl rfl rfl ?_)
        | (refine R_rv rfl rfl ?_)
        | (refine R_sw _ rfl rfl rfl ?_)
        | (refine R_go 9999 rfl rfl trivial ?_)
        | (refine R_go 9999 rfl rfl (by first | (show _ ∨ _; decide) | (show (_ ∨ _) ∧ (_ ∨ _); decide) | (show (_ ∨ _) ∧ (_ ∨ _) ∧ (_ ∨ _); decide)) ?_)
        | (refine R_go 9999 rfl rfl ?_ ?_))
    exact ⟨A1, B, rfl, rfl, hR1, hF1', rfl, FmJ_rf⟩
noncomputable def endA (P : List (List Tk × Nat)) (R : List Rw) (x : Int32) : Int32 := if 0 ≤ x.toInt ∧ x.toInt < R.length then (if P = [] then -103 else nI (rnS (R.getD x.toNatClampNeg d0).1 0 P).1) else -101
theorem m_endC {P : List (List Tk × Nat)} {R : List Rw} {A : FI} {B : FJ} (hP : okG P) (hS : RS 6 A P []) (hR : RCR A P R) (x : Int32) : MV 2 1 mtX11_end [.inr (.inr (some (0, 0))), .inl x] (hp A B) (Ret (some (.inl (endA P R x))) (hp A B)) := by
  refine MV_of caX11_end (L := [some (.inr (.inr (some (0, 0)))), some (.inl x)]) rfl rfl ?_
  unfold endA
  have hir := m_isRowC (B := B) hR.1 hR.2.1 x
  have h24 := hR.2.1
  by_cases hx : 0 ≤ x.toInt ∧ x.toInt < R.length
  · rw [if_pos hx]
    rw [b2_1 hx] at hir
    obtain ⟨k, hk, rfl⟩ := vp_in_of (x := x) (n := R.length) (vp_of hx.1 hx.2) (by omega)
    have ck : (nI k).toNatClampNeg = k := nI_clamp (by omega)
    have hhp := m_hasProgram (B := B) hS (okG_len hP)
    by_cases hPe : P = []
    · rw [if_pos hPe]
      rw [isE.2 hPe] at hhp
      repeat' (first
          | (refine R_br rfl rfl (fun hbr => absurd hbr (by first | decide | (with_reducible assumption))) (fun _ => ?_))
          | (refine R_br rfl rfl (fun _ => ?_) (fun hbr => absurd (by first | decide | (with_reducible assumption)) hbr))
          | (refine R_br rfl rfl (fun _ => ?_) (fun _ => ?_))
          | (refine R_ri rfl rfl ?_)
          | (refine R_rz rfl rfl (Or.inl rfl) ?_)
          | (refine R_rz rfl rfl (Or.inr rfl) ?_)
          | (refine R_rz rfl rfl (b2_01 _) ?_)
          | (refine R_rl rfl rfl ?_)
          | (refine R_rv rfl rfl ?_)
          | (refine R_cvr rfl (hir) rfl rfl rfl rfl rfl (Nat.le_of_ble_eq_true rfl) rfl ?_)
          | (refine R_cvr rfl (hhp) rfl rfl rfl rfl rfl (Nat.le_of_ble_eq_true rfl) rfl ?_)
          | (refine R_sw _ rfl rfl rfl ?_)
          | (refine R_go 9999 rfl rfl trivial ?_)
          | (refine R_go 9999 rfl rfl (by first | (show _ ∨ _; decide) | (show (_ ∨ _) ∧ (_ ∨ _); decide) | (show (_ ∨ _) ∧ (_ ∨ _) ∧ (_ ∨ _); decide)) ?_)
          | (refine R_go 9999 rfl rfl ?_ ?_))
      exact ret_i rfl rfl
    · rw [if_neg hPe]
      rw [isE.1 hPe] at hhp
      repeat' (first
          | (refine R_br rfl rfl (fun hbr => absurd hbr (by first | decide | (with_reducible assumption))) (fun _ => ?_))
          | (refine R_br rfl rfl (fun _ => ?_) (fun hbr => absurd (by first | decide | (with_reducible assumption)) hbr))
          | (refine R_br rfl rfl (fun _ => ?_) (fun _ => ?_))
          | (refine R_ri rfl rfl ?_)
          | (refine R_rz rfl rfl (Or.inl rfl) ?_)
          | (refine R_rz rfl rfl (Or.inr rfl) ?_)
          | (refine R_rz rfl rfl (b2_01 _) ?_)
          | (refine R_rl rfl rfl ?_)
          | (refine R_rv rfl rfl ?_)
          | (refine R_cvr rfl (hir) rfl rfl rfl rfl rfl (Nat.le_of_ble_eq_true rfl) rfl ?_)
          | (refine R_cvr rfl (hhp) rfl rfl rfl rfl rfl (Nat.le_of_ble_eq_true rfl) rfl ?_)
          | (refine R_cvr rfl (m_ended hR.1 hR.2.1 k hk) rfl rfl rfl rfl rfl (Nat.le_of_ble_eq_true rfl) rfl ?_)
          | (refine R_sw _ rfl rfl rfl ?_)
          | (refine R_go 9999 rfl rfl trivial ?_)
          | (refine R_go 9999 rfl rfl (by first | (show _ ∨ _; decide) | (show (_ ∨ _) ∧ (_ ∨ _); decide) | (show (_ ∨ _) ∧ (_ ∨ _) ∧ (_ ∨ _); decide)) ?_)
          | (refine R_go 9999 rfl rfl ?_ ?_))
      rw [(hR.2.2 k hk).2.2, reS_y hPe, ck]
      exact ret_i rfl rfl
  · rw [if_neg hx]
    rw [b2_0 hx] at hir
    repeat' (first
        | (refine R_br rfl rfl (fun hbr => absurd hbr (by first | decide | (with_reducible assumption))) (fun _ => ?_))
        | (refine R_br rfl rfl (fun _ => ?_) (fun hbr => absurd (by first | decide | (with_reducible assumption)) hbr))
        | (refine R_br rfl rfl (fun _ => ?_) (fun _ => ?_))
        | (refine R_ri rfl rfl ?_)
        | (refine R_rz rfl rfl (Or.inl rfl) ?_)
        | (refine R_rz rfl rfl (Or.inr rfl) ?_)
        | (refine R_rz rfl rfl (b2_01 _) ?_)
        | (refine R_rl rfl rfl ?_)
        | (refine R_rv rfl rfl ?_)
        | (refine R_cvr rfl (hir) rfl rfl rfl rfl rfl (Nat.le_of_ble_eq_true rfl) rfl ?_)
        | (refine R_sw _ rfl rfl rfl ?_)
        | (refine R_go 9999 rfl rfl trivial ?_)
        | (refine R_go 9999 rfl rfl (by first | (show _ ∨ _; decide) | (show (_ ∨ _) ∧ (_ ∨ _); decide) | (show (_ ∨ _) ∧ (_ ∨ _) ∧ (_ ∨ _); decide)) ?_)
        | (refine R_go 9999 rfl rfl ?_ ?_))
    exact ret_i rfl rfl
theorem l_takeRow {R : List Rw} {r : Nat} (hr : r < R.length) (A0 : FI) (B : FJ) (hR : RMR A0 R) : ∀ (m k : Nat) (A : FI), k + m = 8 → FmO 31 [52] [] A0 A → (∀ f, f < k → A 52 0 f = nI ((R.getD r d0).1 f)) → Rn 0 mtX12_takeRow 2 [some (.inr (.inr (some (31, 0)))), some (.inl (nI r)), some (.inl (nI k))] [] (hp A B) (fun z h' => ∃ A', z = none ∧ h' = hp A' B ∧ FmO 31 [52] [] A0 A' ∧ RPm A' (R.getD r d0).1) := by
  intro m
  have h24 := hR.2.1
  have hrr := (hR.2.2 r hr).1
  induction m with
  | zero =>
    intro k A hk hF hA
    have : k = 8 := by omega
    subst this
    repeat' (first
        | (refine R_br rfl rfl (fun hbr => absurd hbr (by first | decide | (with_reducible assumption))) (fun _ => ?_))
        | (refine R_br rfl rfl (fun _ => ?_) (fun hbr => absurd (by first | decide | (with_reducible assumption)) hbr))
        | (refine R_br rfl rfl (fun _ => ?_) (fun _ => ?_))
        | (refine R_ri rfl rfl ?_)
        | (refine R_rz rfl rfl (Or.inl rfl) ?_)
        | (refine R_rz rfl rfl (Or.inr rfl) ?_)
        | (refine R_rz rfl rfl (b2_01 _) ?_)
        | (refine R_rl rfl rfl ?_)
        | (refine R_rv rfl rfl ?_)
        | (refine R_sw _ rfl rfl rfl ?_)
        | (refine R_go 9999 rfl rfl trivial ?_)
        | (refine R_go 9999 rfl rfl (by first | (show _ ∨ _; decide) | (show (_ ∨ _) ∧ (_ ∨ _); decide) | (show (_ ∨ _) ∧ (_ ∨ _) ∧ (_ ∨ _); decide)) ?_)
        | (refine R_go 9999 rfl rfl ?_ ?_))
    exact ⟨A, rfl, rfl, hF, fun f hf => ⟨hA f hf, (hrr f hf).2⟩⟩
  | succ m ih =>
    intro k A hk hF hA
    have tk := ti k (by omega)
    have ck : (nI k).toNatClampNeg = k := nI_clamp (by omega)
    have em : (8 : Int32) * nI r + nI k = nI (8 * r + k) := by rw [show (8 : Int32) * nI r = nI (8 * r) from pk_mul 8 r, nI_add]
    have hvm : vp_in (nI (8 * r + k)) 192 := vpN (n := 192) (by omega) rfl
    have cm : (nI (8 * r + k)).toNatClampNeg = 8 * r + k := nI_clamp (by omega)
    refine R_go 9999 rfl rfl trivial ?_
    refine R_br rfl rfl (fun h => absurd h (by (simp only [i_eq, i_lt, i_le, Int32.reduceToInt, true_and, and_true, false_and, and_false, or_false, false_or, or_true, true_or, ne_eq] at *; first | done | omega))) (fun _ => ?_)
    refine R_go 2 rfl rfl ?_ ?_
    · rw [em]; exact ⟨vpN (n := 8) (by omega) rfl, hvm⟩
    rw [em, cm, ck, nI_1]
    refine ih (k + 1) _ (by omega) (FmO_tr hF (by first | exact FmO_rf | (repeat' (first | exact FmO_rf | (with_reducible assumption) | (refine FmO_up ?_ (by decide)) | (refine FmO_ug ?_ (by decide) (by decide)))))) (fun f hf => ?_)
    by_cases e : f = k
    · subst e; rw [up3_self, hF.1 60 (by decide) (by decide)]; exact (hrr f (by omega)).1
    · rw [up3_s e]; exact hA f (by omega)
theorem m_takeRow {R : List Rw} {r : Nat} (hr : r < R.length) {A : FI} {B : FJ} (hR : RMR A R) : MV 0 1 mtX12_takeRow [.inr (.inr (some (31, 0))), .inl (nI r)] (hp A B) (fun z h' => ∃ A', z = none ∧ h' = hp A' B ∧ FmO 31 [52] [] A A' ∧ RPm A' (R.getD r d0).1) := by
  refine MV_of caX12_takeRow (L := [some (.inr (.inr (some (31, 0)))), some (.inl (nI r)), none]) rfl rfl ?_
  refine R_go 2 rfl rfl trivial ?_
  exact l_takeRow hr A B hR 8 0 A rfl FmO_rf (fun f hf => by omega)
abbrev FmE (A A' : FI) : Prop := FmO 31 [50, 51, 52] [36] A A'
theorem m_endOf {P : List (List Tk × Nat)} {R : List Rw} {r : Nat} (hr : r < R.length) (hP : okP P) {A : FI} {B : FJ} (hG : RMG A P) (hR : RMR A R) : MV 3 1 mtX12_endOf [.inr (.inr (some (31, 0))), .inl (nI r)] (hp A B) (fun z h' => ∃ A' B', h' = hp A' B' ∧ z = some (.inl (nI (rnS (R.getD r d0).1 0 P).1)) ∧ FmE A A' ∧ FmJ [49] B B') := by
  refine MV_of caX12_endOf (L := [some (.inr (.inr (some (31, 0)))), some (.inl (nI r))]) rfl rfl ?_
  repeat' (first
      | (refine R_br rfl rfl (fun hbr => absurd hbr (by first | decide | (with_reducible assumption))) (fun _ => ?_))
      | (refine R_br rfl rfl (fun _ => ?_) (fun hbr => absurd (by first | decide | (with_reducible assumption)) hbr))
      | (refine R_br rfl rfl (fun _ => ?_) (fun _ => ?_))
      | (refine R_ri rfl rfl ?_)
      | (refine R_rz rfl rfl (Or.inl rfl) ?_)
      | (refine R_rz rfl rfl (Or.inr rfl) ?_)
      | (refine R_rz rfl rfl (b2_01 _) ?_)
      | (refine R_rl rfl rfl ?_)
      | (refine R_rv rfl rfl ?_)
      | (refine R_cv rfl (m_takeRow hr hR) rfl rfl rfl rfl rfl (Nat.le_of_ble_eq_true rfl) rfl ?_)
      | (refine R_sw _ rfl rfl rfl ?_)
      | (refine R_go 9999 rfl rfl trivial ?_)
      | (refine R_go 9999 rfl rfl (by first | (show _ ∨ _; decide) | (show (_ ∨ _) ∧ (_ ∨ _); decide) | (show (_ ∨ _) ∧ (_ ∨ _) ∧ (_ ∨ _); decide)) ?_)
      | (refine R_go 9999 rfl rfl ?_ ?_))
  rintro z h' ⟨A1, rfl, rfl, hF1, hq⟩
  repeat' (first
      | (refine R_br rfl rfl (fun hbr => absurd hbr (by first | decide | (with_reducible assumption))) (fun _ => ?_))
      | (refine R_br rfl rfl (fun _ => ?_) (fun hbr => absurd (by first | decide | (with_reducible assumption)) hbr))
      | (refine R_br rfl rfl (fun _ => ?_) (fun _ => ?_))
      | (refine R_ri rfl rfl ?_)
      | (refine R_rz rfl rfl (Or.inl rfl) ?_)
      | (refine R_rz rfl rfl (Or.inr rfl) ?_)
      | (refine R_rz rfl rfl (b2_01 _) ?_)
      | (refine R_rl rfl rfl ?_)
      | (refine R_rv rfl rfl ?_)
      | (refine R_cv rfl (m_runWho hP (RMG_fr hG hF1 (by decide) (by decide)) hq) rfl rfl rfl rfl rfl (Nat.le_of_ble_eq_true rfl) rfl ?_)
      | (refine R_sw _ rfl rfl rfl ?_)
      | (refine R_go 9999 rfl rfl trivial ?_)
      | (refine R_go 9999 rfl rfl (by first | (show _ ∨ _; decide) | (show (_ ∨ _) ∧ (_ ∨ _); decide) | (show (_ ∨ _) ∧ (_ ∨ _) ∧ (_ ∨ _); decide)) ?_)
      | (refine R_go 9999 rfl rfl ?_ ?_))
  rintro z h' ⟨A2, B2, rfl, rfl, -, hF2, hJ2⟩
  repeat' (first
      | (refine R_br rfl rfl (fun hbr => absurd hbr (by first | decide | (with_reducible assumption))) (fun _ => ?_))
      | (refine R_br rfl rfl (fun _ => ?_) (fun hbr => absurd (by first | decide | (with_reducible assumption)) hbr))
      | (refine R_br rfl rfl (fun _ => ?_) (fun _ => ?_))
      | (refine R_ri rfl rfl ?_)
      | (refine R_rz rfl rfl (Or.inl rfl) ?_)
      | (refine R_rz rfl rfl (Or.inr rfl) ?_)
      | (refine R_rz rfl rfl (b2_01 _) ?_)
      | (refine R_rl rfl rfl ?_)
      | (refine R_rv rfl rfl ?_)
      | (refine R_sw _ rfl rfl rfl ?_)
      | (refine R_go 9999 rfl rfl trivial ?_)
      | (refine R_go 9999 rfl rfl (by first | (show _ ∨ _; decide) | (show (_ ∨ _) ∧ (_ ∨ _); decide) | (show (_ ∨ _) ∧ (_ ∨ _) ∧ (_ ∨ _); decide)) ?_)
      | (refine R_go 9999 rfl rfl ?_ ?_))
  exact ⟨A2, B2, rfl, rfl, FmO_tr (FmO_w hF1 (by decide) (by decide)) (FmO_w hF2 (by decide) (by decide)), hJ2⟩
theorem m_isRowM {n : Nat} {A : FI} {B : FJ} (h : A 31 0 52 = nI n) (hn : n ≤ 24) (x : Int32) : MV 1 1 mtX12_isRow [.inr (.inr (some (31, 0))), .inl x] (hp A B) (Ret (some (.inl (b2 (0 ≤ x.toInt ∧ x.toInt < n)))) (hp A B)) := by
  refine MV_of caX12_isRow (L := [some (.inr (.inr (some (31, 0)))), some (.inl x)]) rfl rfl ?_
  have e : ((A 31 0 52 - 1).toInt64).toInt = (n : Int) - 1 := by
    rw [i_l, h]
    cases n with
    | zero => rfl
    | succ n => rw [nI_pred, ti n (by omega)]; omega
  repeat' (first
      | (refine R_br rfl rfl (fun hbr => absurd hbr (by first | decide | (with_reducible assumption))) (fun _ => ?_))
      | (refine R_br rfl rfl (fun _ => ?_) (fun hbr => absurd (by first | decide | (with_reducible assumption)) hbr))
      | (refine R_br rfl rfl (fun _ => ?_) (fun _ => ?_))
      | (refine R_ri rfl rfl ?_)
      | (refine R_rz rfl rfl (Or.inl rfl) ?_)
      | (refine R_rz rfl rfl (Or.inr rfl) ?_)
      | (refine R_rz rfl rfl (b2_01 _) ?_)
      | (refine R_rl rfl rfl ?_)
      | (refine R_rv rfl rfl ?_)
      | (refine R_csr rfl (m_inI x _ _ _ _) rfl rfl rfl (Nat.le_of_ble_eq_true rfl) rfl ?_)
      | (refine R_sw _ rfl rfl rfl ?_)
      | (refine R_go 9999 rfl rfl trivial ?_)
      | (refine R_go 9999 rfl rfl (by first | (show _ ∨ _; decide) | (show (_ ∨ _) ∧ (_ ∨ _); decide) | (show (_ ∨ _) ∧ (_ ∨ _) ∧ (_ ∨ _); decide)) ?_)
      | (refine R_go 9999 rfl rfl ?_ ?_))
  refine ret_i (b2_c ?_) rfl
  rw [e]
  simp only [Int64.reduceToInt]
  omega
theorem m_endM {P : List (List Tk × Nat)} {R : List Rw} {A : FI} {B : FJ} (hP : okG P) (hG : RMG A P) (hR : RMR A R) (x : Int32) : MV 4 1 mtX12_end [.inr (.inr (some (31, 0))), .inl x] (hp A B) (fun z h' => ∃ A' B', h' = hp A' B' ∧ z = some (.inl (endA P R x)) ∧ FmE A A' ∧ FmJ [49] B B') := by
  refine MV_of caX12_end (L := [some (.inr (.inr (some (31, 0)))), some (.inl x)]) rfl rfl ?_
  unfold endA
  have hir := m_isRowM (B := B) hR.1 hR.2.1 x
  have h24 := hR.2.1
  by_cases hx : 0 ≤ x.toInt ∧ x.toInt < R.length
  · rw [if_pos hx]
    rw [b2_1 hx] at hir
    obtain ⟨k, hk, rfl⟩ := vp_in_of (x := x) (n := R.length) (vp_of hx.1 hx.2) (by omega)
    have ck : (nI k).toNatClampNeg = k := nI_clamp (by omega)
    by_cases hPe : P = []
    · rw [if_pos hPe]
      have n1 : A 31 0 21 = 0 := by rw [hG.1, isE.2 hPe]; rfl
      repeat' (first
          | (refine R_br rfl rfl (fun hbr => absurd hbr (by first | decide | (with_reducible assumption))) (fun _ => ?_))
          | (refine R_br rfl rfl (fun _ => ?_) (fun hbr => absurd (by first | decide | (with_reducible assumption)) hbr))
          | (refine R_br rfl rfl (fun _ => ?_) (fun _ => ?_))
          | (refine R_ri rfl rfl ?_)
          | (refine R_rz rfl rfl (Or.inl rfl) ?_)
          | (refine R_rz rfl rfl (Or.inr rfl) ?_)
          | (refine R_rz rfl rfl (b2_01 _) ?_)
          | (refine R_rl rfl rfl ?_)
          | (refine R_rv rfl rfl ?_)
          | (refine R_cvr rfl (hir) rfl rfl rfl rfl rfl (Nat.le_of_ble_eq_true rfl) rfl ?_)
          | (refine R_sw _ rfl rfl rfl ?_)
          | (refine R_go 9999 rfl rfl trivial ?_)
          | (refine R_go 9999 rfl rfl (by first | (show _ ∨ _; decide) | (show (_ ∨ _) ∧ (_ ∨ _); decide) | (show (_ ∨ _) ∧ (_ ∨ _) ∧ (_ ∨ _); decide)) ?_)
          | (refine R_go 9999 rfl rfl ?_ ?_))
      exact ⟨A, B, rfl, rfl, FmO_rf, FmJ_rf⟩
    · rw [if_neg hPe, ck]
      have n1 : ¬ A 31 0 21 = 0 := by rw [hG.1, isE.1 hPe]; decide
      repeat' (first
          | (refine R_br rfl rfl (fun hbr => absurd hbr (by first | decide | (with_reducible assumption))) (fun _ => ?_))
          | (refine R_br rfl rfl (fun _ => ?_) (fun hbr => absurd (by first | decide | (with_reducible assumption)) hbr))
          | (refine R_br rfl rfl (fun _ => ?_) (fun _ => ?_))
          | (refine R_ri rfl rfl ?_)
          | (refine R_rz rfl rfl (Or.inl rfl) ?_)
          | (refine R_rz rfl rfl (Or.inr rfl) ?_)
          | (refine R_rz rfl rfl (b2_01 _) ?_)
          | (refine R_rl rfl rfl ?_)
          | (refine R_rv rfl rfl ?_)
          | (refine R_cvr rfl (hir) rfl rfl rfl rfl rfl (Nat.le_of_ble_eq_true rfl) rfl ?_)
          | (refine R_cv rfl (m_endOf hk (okG_ne hP hPe) hG hR) rfl rfl rfl rfl rfl (Nat.le_of_ble_eq_true rfl) rfl ?_)
          | (refine R_sw _ rfl rfl rfl ?_)
          | (refine R_go 9999 rfl rfl trivial ?_)
          | (refine R_go 9999 rfl rfl (by first | (show _ ∨ _; decide) | (show (_ ∨ _) ∧ (_ ∨ _); decide) | (show (_ ∨ _) ∧ (_ ∨ _) ∧ (_ ∨ _); decide)) ?_)
          | (refine R_go 9999 rfl rfl ?_ ?_))
      rintro z h' ⟨A2, B2, rfl, rfl, hF2, hJ2⟩
      repeat' (first
          | (refine R_br rfl rfl (fun hbr => absurd hbr (by first | decide | (with_reducible assumption))) (fun _ => ?_))
          | (refine R_br rfl rfl (fun _ => ?_) (fun hbr => absurd (by first | decide | (with_reducible assumption)) hbr))
          | (refine R_br rfl rfl (fun _ => ?_) (fun _ => ?_))
          | (refine R_ri rfl rfl ?_)
          | (refine R_rz rfl rfl (Or.inl rfl) ?_)
          | (refine R_rz rfl rfl (Or.inr rfl) ?_)
          | (refine R_rz rfl rfl (b2_01 _) ?_)
          | (refine R_rl rfl rfl ?_)
          | (refine R_rv rfl rfl ?_)
          | (refine R_sw _ rfl rfl rfl ?_)
          | (refine R_go 9999 rfl rfl trivial ?_)
          | (refine R_go 9999 rfl rfl (by first | (show _ ∨ _; decide) | (show (_ ∨ _) ∧ (_ ∨ _); decide) | (show (_ ∨ _) ∧ (_ ∨ _) ∧ (_ ∨ _); decide)) ?_)
          | (refine R_go 9999 rfl rfl ?_ ?_))
      exact ⟨A2, B2, rfl, rfl, hF2, hJ2⟩
  · rw [if_neg hx]
    rw [b2_0 hx] at hir
    repeat' (first
        | (refine R_br rfl rfl (fun hbr => absurd hbr (by first | decide | (with_reducible assumption))) (fun _ => ?_))
        | (refine R_br rfl rfl (fun _ => ?_) (fun hbr => absurd (by first | decide | (with_reducible assumption)) hbr))
        | (refine R_br rfl rfl (fun _ => ?_) (fun _ => ?_))
        | (refine R_ri rfl rfl ?_)
        | (refine R_rz rfl rfl (Or.inl rfl) ?_)
        | (refine R_rz rfl rfl (Or.inr rfl) ?_)
        | (refine R_rz rfl rfl (b2_01 _) ?_)
        | (refine R_rl rfl rfl ?_)
        | (refine R_rv rfl rfl ?_)
        | (refine R_cvr rfl (hir) rfl rfl rfl rfl rfl (Nat.le_of_ble_eq_true rfl) rfl ?_)
        | (refine R_sw _ rfl rfl rfl ?_)
        | (refine R_go 9999 rfl rfl trivial ?_)
        | (refine R_go 9999 rfl rfl (by first | (show _ ∨ _; decide) | (show (_ ∨ _) ∧ (_ ∨ _); decide) | (show (_ ∨ _) ∧ (_ ∨ _) ∧ (_ ∨ _); decide)) ?_)
        | (refine R_go 9999 rfl rfl ?_ ?_))
    exact ⟨A, B, rfl, rfl, FmO_rf, FmJ_rf⟩
