/-- what run() tells of a person -/
noncomputable def tlS (F : FS) (P : List (List Tk × Nat)) (LS : List (List Tk)) (q : Nat → Nat) (w : Nat) : Int32 := if w = 2 then b2 (ccS F LS q) else if w = 0 then nI (rnS q 0 P).1 else (rnS q 0 P).2
abbrev FmT (A A' : FI) : Prop := FmO 31 [50, 51, 53, 54] [36] A A'
def TLo (A : FI) (B : FJ) (x : Int32) : Option AV → AH → Prop := fun r h' => ∃ A' B', h' = hp A' B' ∧ r = some (.inl x) ∧ FmT A A' ∧ FmJ [49] B B'
theorem m_toldOf {F : FS} {P : List (List Tk × Nat)} {LS : List (List Tk)} {q : Nat → Nat} {A : FI} {B : FJ} (w : Nat) (hw : w ≤ 2) (hP : w ≠ 2 → okP P) (hL : okL LS) (hW : WFF F) (hG : RMG A P) (hR : RML A LS) (hM : RMF A F) (hq : RPm A q) : MV 3 1 mtX12_toldOf [.inr (.inr (some (31, 0))), .inl (nI w)] (hp A B) (TLo A B (tlS F P LS q w)) := by
  refine MV_of caX12_toldOf (L := [some (.inr (.inr (some (31, 0)))), some (.inl (nI w)), none]) rfl rfl ?_
  unfold tlS
  rcases (show w = 0 ∨ w = 1 ∨ w = 2 by omega) with rfl | rfl | rfl
  · rw [if_neg (by decide), if_pos rfl]
    repeat' (first
        | (refine R_br rfl rfl (fun hbr => absurd hbr (by first | decide | (with_reducible assumption))) (fun _ => ?_))
        | (refine R_br rfl rfl (fun _ => ?_) (fun hbr => absurd (by first | decide | (with_reducible assumption)) hbr))
        | (refine R_br rfl rfl (fun _ => ?_) (fun _ => ?_))
        | (refine R_ri rfl rfl ?_)
        | (refine R_rz rfl rfl (Or.inl rfl) ?_)
        | (refine R_rz rfl rfl (Or.inr rfl) ?_)
        | (refine R_rz rfl rfl (b2_01 _) ?_)
        | (refine R_rl rfl rfl ?_)
        | (refine R_rv rfl rfl ?_)
        | (refine R_cv rfl (m_runWho (hP (by decide)) hG hq) rfl rfl rfl rfl rfl (Nat.le_of_ble_eq_true rfl) rfl ?_)
        | (refine R_sw _ rfl rfl rfl ?_)
        | (refine R_go 9999 rfl rfl trivial ?_)
        | (refine R_go 9999 rfl rfl (by first | (show _ ∨ _; decide) | (show (_ ∨ _) ∧ (_ ∨ _); decide) | (show (_ ∨ _) ∧ (_ ∨ _) ∧ (_ ∨ _); decide)) ?_)
        | (refine R_go 9999 rfl rfl ?_ ?_))
    rintro r h' ⟨A1, B1, rfl, rfl, e, hF, hJ⟩
    repeat' (first
        | (refine R_br rfl rfl (fun hbr => absurd hbr (by first | decide | (with_reducible assumption))) (fun _ => ?_))
        | (refine R_br rfl rfl (fun _ => ?_) (fun hbr => absurd (by first | decide | (with_reducible assumption)) hbr))
        | (refine R_br rfl rfl (fun _ => ?_) (fun _ => ?_))
        | (refine R_ri rfl rfl ?_)
        | (refine R_rz rfl rfl (Or.inl rfl) ?_)
        | (refine R_rz rfl rfl (Or.inr rfl) ?_)
        | (refine R_rz rfl rfl (b2_01 _) ?_)
        | (refine R_rl rfl rfl ?_)
        | (refine R_rv rfl rfl ?_)
        | (refine R_sw _ rfl rfl rfl ?_)
        | (refine R_go 9999 rfl rfl trivial ?_)
        | (refine R_go 9999 rfl rfl (by first | (show _ ∨ _; decide) | (show (_ ∨ _) ∧ (_ ∨ _); decide) | (show (_ ∨ _) ∧ (_ ∨ _) ∧ (_ ∨ _); decide)) ?_)
        | (refine R_go 9999 rfl rfl ?_ ?_))
    exact ⟨A1, B1, rfl, rfl, FmO_w hF (by decide) (by decide), hJ⟩
  · rw [if_neg (by decide), if_neg (by decide)]
    repeat' (first
        | (refine R_br rfl rfl (fun hbr => absurd hbr (by first | decide | (with_reducible assumption))) (fun _ => ?_))
        | (refine R_br rfl rfl (fun _ => ?_) (fun hbr => absurd (by first | decide | (with_reducible assumption)) hbr))
        | (refine R_br rfl rfl (fun _ => ?_) (fun _ => ?_))
        | (refine R_ri rfl rfl ?_)
        | (refine R_rz rfl rfl (Or.inl rfl) ?_)
        | (refine R_rz rfl rfl (Or.inr rfl) ?_)
        | (refine R_rz rfl rfl (b2_01 _) ?_)
        | (refine R_rl rfl rfl ?_)
        | (refine R_rv rfl rfl ?_)
        | (refine R_cv rfl (m_runWho (hP (by decide)) hG hq) rfl rfl rfl rfl rfl (Nat.le_of_ble_eq_true rfl) rfl ?_)
        | (refine R_sw _ rfl rfl rfl ?_)
        | (refine R_go 9999 rfl rfl trivial ?_)
        | (refine R_go 9999 rfl rfl (by first | (show _ ∨ _; decide) | (show (_ ∨ _) ∧ (_ ∨ _); decide) | (show (_ ∨ _) ∧ (_ ∨ _) ∧ (_ ∨ _); decide)) ?_)
        | (refine R_go 9999 rfl rfl ?_ ?_))
    rintro r h' ⟨A1, B1, rfl, rfl, e, hF, hJ⟩
    repeat' (first
        | (refine R_br rfl rfl (fun hbr => absurd hbr (by first | decide | (with_reducible assumption))) (fun _ => ?_))
        | (refine R_br rfl rfl (fun _ => ?_) (fun hbr => absurd (by first | decide | (with_reducible assumption)) hbr))
        | (refine R_br rfl rfl (fun _ => ?_) (fun _ => ?_))
        | (refine R_ri rfl rfl ?_)
        | (refine R_rz rfl rfl (Or.inl rfl) ?_)
        | (refine R_rz rfl rfl (Or.inr rfl) ?_)
        | (refine R_rz rfl rfl (b2_01 _) ?_)
        | (refine R_rl rfl rfl ?_)
        | (refine R_rv rfl rfl ?_)
        | (refine R_sw _ rfl rfl rfl ?_)
        | (refine R_go 9999 rfl rfl trivial ?_)
        | (refine R_go 9999 rfl rfl (by first | (show _ ∨ _; decide) | (show (_ ∨ _) ∧ (_ ∨ _); decide) | (show (_ ∨ _) ∧ (_ ∨ _) ∧ (_ ∨ _); decide)) ?_)
        | (refine R_go 9999 rfl rfl ?_ ?_))
    exact ⟨A1, B1, rfl, by rw [e], FmO_w hF (by decide) (by decide), hJ⟩
  · rw [if_pos rfl]
    by_cases h : ccS F LS q
    · have hb : b2 (ccS F LS q) = 1 := b2_1 h
      repeat' (first
          | (refine R_br rfl rfl (fun hbr => absurd hbr (by first | decide | (with_reducible assumption))) (fun _ => ?_))
          | (refine R_br rfl rfl (fun _ => ?_) (fun hbr => absurd (by first | decide | (with_reducible assumption)) hbr))
          | (refine R_br rfl rfl (fun _ => ?_) (fun _ => ?_))
          | (refine R_ri rfl rfl ?_)
          | (refine R_rz rfl rfl (Or.inl rfl) ?_)
          | (refine R_rz rfl rfl (Or.inr rfl) ?_)
          | (refine R_rz rfl rfl (b2_01 _) ?_)
          | (refine R_rl rfl rfl ?_)
          | (refine R_rv rfl rfl ?_)
          | (refine R_cv rfl (m_couldCome hL hW hR hM hq) rfl rfl rfl rfl rfl (Nat.le_of_ble_eq_true rfl) rfl ?_)
          | (refine R_sw _ rfl rfl rfl ?_)
          | (refine R_go 9999 rfl rfl trivial ?_)
          | (refine R_go 9999 rfl rfl (by first | (show _ ∨ _; decide) | (show (_ ∨ _) ∧ (_ ∨ _); decide) | (show (_ ∨ _) ∧ (_ ∨ _) ∧ (_ ∨ _); decide)) ?_)
          | (refine R_go 9999 rfl rfl ?_ ?_))
      rintro r h' ⟨A1, B1, rfl, rfl, hF, hJ⟩
      rw [hb]
      repeat' (first
          | (refine R_br rfl rfl (fun hbr => absurd hbr (by first | decide | (with_reducible assumption))) (fun _ => ?_))
          | (refine R_br rfl rfl (fun _ => ?_) (fun hbr => absurd (by first | decide | (with_reducible assumption)) hbr))
          | (refine R_br rfl rfl (fun _ => ?_) (fun _ => ?_))
          | (refine R_ri rfl rfl ?_)
          | (refine R_rz rfl rfl (Or.inl rfl) ?_)
          | (refine R_rz rfl rfl (Or.inr rfl) ?_)
          | (refine R_rz rfl rfl (b2_01 _) ?_)
          | (refine R_rl rfl rfl ?_)
          | (refine R_rv rfl rfl ?_)
          | (refine R_sw _ rfl rfl rfl ?_)
          | (refine R_go 9999 rfl rfl trivial ?_)
          | (refine R_go 9999 rfl rfl (by first | (show _ ∨ _; decide) | (show (_ ∨ _) ∧ (_ ∨ _); decide) | (show (_ ∨ _) ∧ (_ ∨ _) ∧ (_ ∨ _); decide)) ?_)
          | (refine R_go 9999 rfl rfl ?_ ?_))
      exact ⟨A1, B1, rfl, rfl, FmO_w hF (by decide) (by decide), hJ⟩
    · have hb : b2 (ccS F LS q) = 0 := b2_0 h
      repeat' (first
          | (refine R_br rfl rfl (fun hbr => absurd hbr (by first | decide | (with_reducible assumption))) (fun _ => ?_))
          | (refine R_br rfl rfl (fun _ => ?_) (fun hbr => absurd (by first | decide | (with_reducible assumption)) hbr))
          | (refine R_br rfl rfl (fun _ => ?_) (fun _ => ?_))
          | (refine R_ri rfl rfl ?_)
          | (refine R_rz rfl rfl (Or.inl rfl) ?_)
          | (refine R_rz rfl rfl (Or.inr rfl) ?_)
          | (refine R_rz rfl rfl (b2_01 _) ?_)
          | (refine R_rl rfl rfl ?_)
          | (refine R_rv rfl rfl ?_)
          | (refine R_cv rfl (m_couldCome hL hW hR hM hq) rfl rfl rfl rfl rfl (Nat.le_of_ble_eq_true rfl) rfl ?_)
          | (refine R_sw _ rfl rfl rfl ?_)
          | (refine R_go 9999 rfl rfl trivial ?_)
          | (refine R_go 9999 rfl rfl (by first | (show _ ∨ _; decide) | (show (_ ∨ _) ∧ (_ ∨ _); decide) | (show (_ ∨ _) ∧ (_ ∨ _) ∧ (_ ∨ _); decide)) ?_)
          | (refine R_go 9999 rfl rfl ?_ ?_))
      rintro r h' ⟨A1, B1, rfl, rfl, hF, hJ⟩
      rw [hb]
      repeat' (first
          | (refine R_br rfl rfl (fun hbr => absurd hbr (by first | decide | (with_reducible assumption))) (fun _ => ?_))
          | (refine R_br rfl rfl (fun _ => ?_) (fun hbr => absurd (by first | decide | (with_reducible assumption)) hbr))
          | (refine R_br rfl rfl (fun _ => ?_) (fun _ => ?_))
          | (refine R_ri rfl rfl ?_)
          | (refine R_rz rfl rfl (Or.inl rfl) ?_)
          | (refine R_rz rfl rfl (Or.inr rfl) ?_)
          | (refine R_rz rfl rfl (b2_01 _) ?_)
          | (refine R_rl rfl rfl ?_)
          | (refine R_rv rfl rfl ?_)
          | (refine R_sw _ rfl rfl rfl ?_)
          | (refine R_go 9999 rfl rfl trivial ?_)
          | (refine R_go 9999 rfl rfl (by first | (show _ ∨ _; decide) | (show (_ ∨ _) ∧ (_ ∨ _); decide) | (show (_ ∨ _) ∧ (_ ∨ _) ∧ (_ ∨ _); decide)) ?_)
          | (refine R_go 9999 rfl rfl ?_ ?_))
      exact ⟨A1, B1, rfl, rfl, FmO_w hF (by decide) (by decide), hJ⟩
noncomputable def runA (F : FS) (P : List (List Tk × Nat)) (LS : List (List Tk)) (x : Int64) (w : Int32) : Int32 := @ite _ (prS x) (Classical.propDecidable _) (if 0 ≤ w.toInt ∧ w.toInt ≤ 2 then (if w.toInt < 2 ∧ P = [] then -103 else tlS F P LS (prQ x) w.toNatClampNeg) else -102) (-102)
theorem runA_y {F : FS} {P : List (List Tk × Nat)} {LS : List (List Tk)} {x : Int64} {w : Int32} (h : prS x) : runA F P LS x w = if 0 ≤ w.toInt ∧ w.toInt ≤ 2 then (if w.toInt < 2 ∧ P = [] then -103 else tlS F P LS (prQ x) w.toNatClampNeg) else -102 := @if_pos _ (Classical.propDecidable _) h _ _ _
theorem runA_n {F : FS} {P : List (List Tk × Nat)} {LS : List (List Tk)} {x : Int64} {w : Int32} (h : ¬ prS x) : runA F P LS x w = -102 := @if_neg _ (Classical.propDecidable _) h _ _ _
def okG (P : List (List Tk × Nat)) : Prop := P = [] ∨ okP P
theorem okG_ne {P : List (List Tk × Nat)} (h : okG P) (h2 : P ≠ []) : okP P := h.resolve_left h2
theorem okP_ne {P : List (List Tk × Nat)} (h : okP P) : P ≠ [] := by
  obtain ⟨⟨dn, d, rfl, -⟩, -⟩ := h
  simp
theorem isE {P : List (List Tk × Nat)} : (P ≠ [] → (!P.isEmpty) = true) ∧ (P = [] → (!P.isEmpty) = false) := by
  cases P <;> simp
theorem m_runM {F : FS} {P : List (List Tk × Nat)} {LS : List (List Tk)} {A : FI} {B : FJ} (x : Int64) (w : Int32) (hP : okG P) (hL : okL LS) (hW : WFF F) (hG : RMG A P) (hR : RML A LS) (hM : RMF A F) : MV 4 2 mtX12_run [.inr (.inr (some (31, 0))), .inr (.inl x), .inl w] (hp A B) (fun r h' => ∃ A' B', h' = hp A' B' ∧ r = some (.inl (runA F P LS x w)) ∧ FmO 31 [50, 51, 52, 53, 54] [36] A A' ∧ FmJ [49] B B') := by
  refine MV_of caX12_run (L := [some (.inr (.inr (some (31, 0)))), some (.inr (.inl x)), none, some (.inl w)]) rfl rfl ?_
  refine R_go 9999 rfl rfl trivial ?_
  refine R_cv rfl (m_takePerson x) rfl rfl rfl rfl rfl (Nat.le_of_ble_eq_true rfl) rfl ?_
  rintro r h' ⟨A1, rfl, hF1, ⟨hps, rfl, hq⟩ | ⟨hps, rfl⟩⟩
  · have hF1' : FmO 31 [50, 51, 52, 53, 54] [36] A A1 := FmO_w hF1 (by decide) (by decide)
    have hG1 := RMG_fr hG hF1 (by decide) (by decide)
    have hR1 := RML_fr hR hF1 (by decide) (by decide)
    have hM1 := RMF_fr hM hF1 (by decide)
    rw [runA_y hps]
    by_cases hw : 0 ≤ w.toInt ∧ w.toInt ≤ 2
    · rw [if_pos hw]
      obtain ⟨v, hv, rfl⟩ := vp_in_of (x := w) (n := 3) (vp_of hw.1 (by omega)) (by decide)
      have tv := ti v (by omega)
      have cv' : (nI v).toNatClampNeg = v := nI_clamp (by omega)
      rw [cv']
      have hfin : (v ≠ 2 → okP P) → Rn 4 mtX12_run 40 [some (.inr (.inr (some (31, 0)))), some (.inr (.inl x)), none, some (.inl (nI v))] [] (hp A1 B) (fun r h' => ∃ A' B', h' = hp A' B' ∧ r = some (.inl (tlS F P LS (prQ x) v)) ∧ FmO 31 [50, 51, 52, 53, 54] [36] A A' ∧ FmJ [49] B B') := by
        intro hok
        repeat' (first
            | (refine R_br rfl rfl (fun hbr => absurd hbr (by first | decide | (with_reducible assumption))) (fun _ => ?_))
            | (refine R_br rfl rfl (fun _ => ?_) (fun hbr => absurd (by first | decide | (with_reducible assumption)) hbr))
            | (refine R_br rfl rfl (fun _ => ?_) (fun _ => ?_))
            | (refine R_ri rfl rfl ?_)
            | (refine R_rz rfl rfl (Or.inl rfl) ?_)
            | (refine R_rz rfl rfl (Or.inr rfl) ?_)
            | (refine R_rz rfl rfl (b2_01 _) ?_)
            | (refine R_rl rfl rfl ?_)
            | (refine R_rv rfl rfl ?_)
            | (refine R_cv rfl (m_toldOf v (by omega) hok hL hW hG1 hR1 hM1 hq) rfl rfl rfl rfl rfl (Nat.le_of_ble_eq_true rfl) rfl ?_)
            | (refine R_sw _ rfl rfl rfl ?_)
            | (refine R_go 9999 rfl rfl trivial ?_)
            | (refine R_go 9999 rfl rfl (by first | (show _ ∨ _; decide) | (show (_ ∨ _) ∧ (_ ∨ _); decide) | (show (_ ∨ _) ∧ (_ ∨ _) ∧ (_ ∨ _); decide)) ?_)
            | (refine R_go 9999 rfl rfl ?_ ?_))
        rintro r h' ⟨A2, B2, rfl, rfl, hF, hJ⟩
        repeat' (first
            | (refine R_br rfl rfl (fun hbr => absurd hbr (by first | decide | (with_reducible assumption))) (fun _ => ?_))
            | (refine R_br rfl rfl (fun _ => ?_) (fun hbr => absurd (by first | decide | (with_reducible assumption)) hbr))
            | (refine R_br rfl rfl (fun _ => ?_) (fun _ => ?_))
            | (refine R_ri rfl rfl ?_)
            | (refine R_rz rfl rfl (Or.inl rfl) ?_)
            | (refine R_rz rfl rfl (Or.inr rfl) ?_)
            | (refine R_rz rfl rfl (b2_01 _) ?_)
            | (refine R_rl rfl rfl ?_)
            | (refine R_rv rfl rfl ?_)
            | (refine R_sw _ rfl rfl rfl ?_)
            | (refine R_go 9999 rfl rfl trivial ?_)
            | (refine R_go 9999 rfl rfl (by first | (show _ ∨ _; decide) | (show (_ ∨ _) ∧ (_ ∨ _); decide) | (show (_ ∨ _) ∧ (_ ∨ _) ∧ (_ ∨ _); decide)) ?_)
            | (refine R_go 9999 rfl rfl ?_ ?_))
        exact ⟨A2, B2, rfl, rfl, FmO_tr hF1' (FmO_w hF (by decide) (by decide)), hJ⟩
      by_cases hv2 : v < 2
      · have hin := m_inT (nI v) 0 2 (by simp only [Int64.reduceToInt]; omega) A1 B
        by_cases hPe : P = []
        · rw [if_pos ⟨by omega, hPe⟩]
          have n1 : A1 31 0 21 = 0 := by rw [hG1.1, isE.2 hPe]; rfl
          repeat' (first
              | (refine R_br rfl rfl (fun hbr => absurd hbr (by first | decide | (with_reducible assumption))) (fun _ => ?_))
              | (refine R_br rfl rfl (fun _ => ?_) (fun hbr => absurd (by first | decide | (with_reducible assumption)) hbr))
              | (refine R_br rfl rfl (fun _ => ?_) (fun _ => ?_))
              | (refine R_ri rfl rfl ?_)
              | (refine R_rz rfl rfl (Or.inl rfl) ?_)
              | (refine R_rz rfl rfl (Or.inr rfl) ?_)
              | (refine R_rz rfl rfl (b2_01 _) ?_)
              | (refine R_rl rfl rfl ?_)
              | (refine R_rv rfl rfl ?_)
              | (refine R_csr rfl (hin) rfl rfl rfl (Nat.le_of_ble_eq_true rfl) rfl ?_)
              | (refine R_sw _ rfl rfl rfl ?_)
              | (refine R_go 9999 rfl rfl trivial ?_)
              | (refine R_go 9999 rfl rfl (by first | (show _ ∨ _; decide) | (show (_ ∨ _) ∧ (_ ∨ _); decide) | (show (_ ∨ _) ∧ (_ ∨ _) ∧ (_ ∨ _); decide)) ?_)
              | (refine R_go 9999 rfl rfl ?_ ?_))
          all_goals first | exact ⟨A1, B, rfl, rfl, hF1', FmJ_rf⟩ | (exfalso; (simp only [i_eq, i_lt, i_le, Int32.reduceToInt, true_and, and_true, false_and, and_false, or_false, false_or, or_true, true_or, ne_eq] at *; first | done | omega))
        · rw [if_neg (fun z => hPe z.2)]
          have n1 : ¬ A1 31 0 21 = 0 := by rw [hG1.1, isE.1 hPe]; decide
          repeat' (first
              | (refine R_stop 40 rfl rfl ?_)
              | (refine R_br rfl rfl (fun hbr => absurd hbr (by first | decide | (with_reducible assumption))) (fun _ => ?_))
              | (refine R_br rfl rfl (fun _ => ?_) (fun hbr => absurd (by first | decide | (with_reducible assumption)) hbr))
              | (refine R_br rfl rfl (fun _ => ?_) (fun _ => ?_))
              | (refine R_ri rfl rfl ?_)
              | (refine R_rz rfl rfl (Or.inl rfl) ?_)
              | (refine R_rz rfl rfl (Or.inr rfl) ?_)
              | (refine R_rz rfl rfl (b2_01 _) ?_)
              | (refine R_rl rfl rfl ?_)
              | (refine R_rv rfl rfl ?_)
              | (refine R_csr rfl (hin) rfl rfl rfl (Nat.le_of_ble_eq_true rfl) rfl ?_)
              | (refine R_sw _ rfl rfl rfl ?_)
              | (refine R_go 40 rfl rfl trivial ?_)
              | (refine R_go 40 rfl rfl (by first | (show _ ∨ _; decide) | (show (_ ∨ _) ∧ (_ ∨ _); decide) | (show (_ ∨ _) ∧ (_ ∨ _) ∧ (_ ∨ _); decide)) ?_)
              | (refine R_go 40 rfl rfl ?_ ?_))
          all_goals exact ⟨hfin (fun _ => okG_ne hP hPe), trivial⟩
      · have : v = 2 := by omega
        subst this
        rw [if_neg (by omega)]
        repeat' (first
            | (refine R_stop 40 rfl rfl ?_)
            | (refine R_br rfl rfl (fun hbr => absurd hbr (by first | decide | (with_reducible assumption))) (fun _ => ?_))
            | (refine R_br rfl rfl (fun _ => ?_) (fun hbr => absurd (by first | decide | (with_reducible assumption)) hbr))
            | (refine R_br rfl rfl (fun _ => ?_) (fun _ => ?_))
            | (refine R_ri rfl rfl ?_)
            | (refine R_rz rfl rfl (Or.inl rfl) ?_)
            | (refine R_rz rfl rfl (Or.inr rfl) ?_)
            | (refine R_rz rfl rfl (b2_01 _) ?_)
            | (refine R_rl rfl rfl ?_)
            | (refine R_rv rfl rfl ?_)
            | (refine R_csr rfl (m_inT (nI 2) 0 2 (by simp only [Int64.reduceToInt]; omega) _ _) rfl rfl rfl (Nat.le_of_ble_eq_true rfl) rfl ?_)
            | (refine R_sw _ rfl rfl rfl ?_)
            | (refine R_go 40 rfl rfl trivial ?_)
            | (refine R_go 40 rfl rfl (by first | (show _ ∨ _; decide) | (show (_ ∨ _) ∧ (_ ∨ _); decide) | (show (_ ∨ _) ∧ (_ ∨ _) ∧ (_ ∨ _); decide)) ?_)
            | (refine R_go 40 rfl rfl ?_ ?_))
        exact ⟨hfin (fun z => absurd rfl z), trivial⟩
    · rw [if_neg hw]
      repeat' (first
          | (refine R_br rfl rfl (fun hbr => absurd hbr (by first | decide | (with_reducible assumption))) (fun _ => ?_))
          | (refine R_br rfl rfl (fun _ => ?_) (fun hbr => absurd (by first | decide | (with_reducible assumption)) hbr))
          | (refine R_br rfl rfl (fun _ => ?_) (fun _ => ?_))
          | (refine R_ri rfl rfl ?_)
          | (refine R_rz rfl rfl (Or.inl rfl) ?_)
          | (refine R_rz rfl rfl (Or.inr rfl) ?_)
          | (refine R_rz rfl rfl (b2_01 _) ?_)
          | (refine R_rl rfl rfl ?_)
          | (refine R_rv rfl rfl ?_)
          | (refine R_csr rfl (m_inF w 0 2 (by simp only [Int64.reduceToInt]; omega) _ _) rfl rfl rfl (Nat.le_of_ble_eq_true rfl) rfl ?_)
          | (refine R_sw _ rfl rfl rfl ?_)
          | (refine R_go 9999 rfl rfl trivial ?_)
          | (refine R_go 9999 rfl rfl (by first | (show _ ∨ _; decide) | (show (_ ∨ _) ∧ (_ ∨ _); decide) | (show (_ ∨ _) ∧ (_ ∨ _) ∧ (_ ∨ _); decide)) ?_)
          | (refine R_go 9999 rfl rfl ?_ ?_))
      exact ⟨A1, B, rfl, rfl, hF1', FmJ_rf⟩
  · rw [runA_n hps]
    repeat' (first
        | (refine R_br rfl rfl (fun hbr => absurd hbr (by first | decide | (with_reducible assumption))) (fun _ => ?_))
        | (refine R_br rfl rfl (fun _ => ?_) (fun hbr => absurd (by first | decide | (with_reducible assumption)) hbr))
        | (refine R_br rfl rfl (fun _ => ?_) (fun _ => ?_))
        | (refine R_ri rfl rfl ?_)
        | (refine R_rz rfl rfl (Or.inl rfl) ?_)
        | (refine R_rz rfl rfl (Or.inr rfl) ?_)
        | (refine R_rz rfl rfl (b2_01 _) ?_)
        | (refine R_rl rfl rfl ?_)
        | (refine R_rv rfl rfl ?_)
        | (refine R_sw _ rfl rfl rfl ?_)
        | (refine R_go 9999 rfl rfl trivial ?_)
        | (refine R_go 9999 rfl rfl (by first | (show _ ∨ _; decide) | (show (_ ∨ _) ∧ (_ ∨ _); decide) | (show (_ ∨ _) ∧ (_ ∨ _) ∧ (_ ∨ _); decide)) ?_)
        | (refine R_go 9999 rfl rfl ?_ ?_))
    exact ⟨A1, B, rfl, rfl, FmO_w hF1 (by decide) (by decide), FmJ_rf⟩
