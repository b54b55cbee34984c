theorem okR_of {A : FI} {P : List (List Tk × Nat)} {R : List Rw} (h : RCR A P R) : okR R := fun i hi f hf => ((h.2.2 i hi).1 f hf).2
theorem RCF_U {A A' : FI} {F : FS} {gs ss : List Nat} (h : RCF A F) (hF : FmO 18 gs ss A A') (hg : 2 ∉ gs) : RCF A' F := fun f hf => by rw [hF.1 2 (by decide) hg]; exact h f hf
theorem l_fgg {F : FS} {P : List (List Tk × Nat)} {R : List Rw} (hP : okP P) (hW : WFF F) (A0 : FI) (B0 : FJ) : ∀ (n f : Nat) (A : FI) (B : FJ) (z : WS), f + n = 8 → RCR A P R → RCF A F → okW z → WCr A B z → z.2 + n * 441 ≤ 100000 → FmU A0 A → FmJ [18] B0 B → Rn 4 mtX1_findGreatestGap 12 [some (.inr (.inr (some (18, 0)))), some (.inr (.inr (some (1, 0)))), some (.inl (nI f))] [] (hp A B) (fun r h' => ∃ A' B', r = none ∧ h' = hp A' B' ∧ FmU A0 A' ∧ FmJ [18] B0 B' ∧ WCr A' B' (wFl F P R f n z)) := by
  intro n
  induction n with
  | zero =>
    intro f A B z hf hR hM hz hzr hn hF hJ
    have : f = 8 := by omega
    subst this
    repeat' (first
        | (refine R_br rfl rfl (fun hbr => absurd hbr (by first | decide | (with_reducible assumption))) (fun _ => ?_))
        | (refine R_br rfl rfl (fun _ => ?_) (fun hbr => absurd (by first | decide | (with_reducible assumption)) hbr))
        | (refine R_br rfl rfl (fun _ => ?_) (fun _ => ?_))
        | (refine R_ri rfl rfl ?_)
        | (refine R_rz rfl rfl (Or.inl rfl) ?_)
        | (refine R_rz rfl rfl (Or.inr rfl) ?_)
        | (refine R_rz rfl rfl (b2_01 _) ?_)
        | (refine R_rl rfl rfl ?_)
        | (refine R_rv rfl rfl ?_)
        | (refine R_sw _ rfl rfl rfl ?_)
        | (refine R_go 9999 rfl rfl trivial ?_)
        | (refine R_go 9999 rfl rfl (by first | (show _ ∨ _; decide) | (show (_ ∨ _) ∧ (_ ∨ _); decide) | (show (_ ∨ _) ∧ (_ ∨ _) ∧ (_ ∨ _); decide)) ?_)
        | (refine R_go 9999 rfl rfl ?_ ?_))
    exact ⟨A, B, rfl, rfl, hF, hJ, hzr⟩
  | succ n ih =>
    intro f A B z hf hR hM hz hzr hn hF hJ
    have hf8 : f < 8 := by omega
    have h24 := hR.2.1
    have hw := hW.1 f hf8
    have tf := ti f (by omega)
    have hn' : z.2 + n * 441 ≤ 100000 := Nat.le_trans (Nat.add_le_add_left (Nat.mul_le_mul_right _ (Nat.le_succ n)) _) hn
    refine R_go 9999 rfl rfl trivial ?_
    refine R_br rfl rfl (fun h => absurd h (by (simp only [i_eq, i_lt, i_le, Int32.reduceToInt, true_and, and_true, false_and, and_false, or_false, false_or, or_true, true_or, ne_eq] at *; first | done | omega))) (fun _ => ?_)
    have hco := m_counts (B := B) hM hW f hf8
    by_cases hc : F.1 f ≠ 1 ∧ F.1 f ≠ 2
    · rw [b2_1 hc] at hco
      refine R_go 9999 rfl rfl trivial ?_
      refine R_cvr rfl hco rfl rfl rfl rfl rfl (Nat.le_of_ble_eq_true rfl) rfl ?_
      refine R_br rfl rfl (fun h => absurd h (by decide)) (fun _ => ?_)
      refine R_go 9999 rfl rfl trivial ?_
      refine R_cv rfl (m_tally hf8 hP hR) rfl rfl rfl rfl rfl (Nat.le_of_ble_eq_true rfl) rfl ?_
      rintro r h' ⟨A1, rfl, rfl, hF1, hT⟩
      have hR1 := RCR_U hR (FmU0_U hF1)
      have hM1 := RCF_U hM hF1 (by decide)
      have hzr1 : WCr A1 B z := by
        obtain ⟨h1, h2⟩ := hzr
        refine ⟨by rw [hF1.2 13 (by decide)]; exact h1, ?_⟩
        obtain ⟨z1, z2⟩ := z
        cases z1 with
        | none => show _ = _; rw [hF1.2 8 (by decide)]; exact h2
        | some y => exact ⟨by rw [hF1.2 8 (by decide)]; exact h2.1, by rw [hF1.2 9 (by decide)]; exact h2.2.1, by rw [hF1.2 10 (by decide)]; exact h2.2.2.1, h2.2.2.2⟩
      have ho1 := m_told f 1 hf8 (by decide) A1 B
      have ho2 := m_told f 2 hf8 (by decide) A1 B
      rw [(hM1 f hf8).2.1] at ho1
      rw [(hM1 f hf8).2.2.1] at ho2
      refine R_go 9999 rfl rfl trivial ?_
      refine R_cvr rfl ho1 rfl rfl rfl rfl rfl (Nat.le_of_ble_eq_true rfl) rfl ?_
      refine R_go 9999 rfl rfl trivial ?_
      refine R_cvr rfl ho2 rfl rfl rfl rfl rfl (Nat.le_of_ble_eq_true rfl) rfl ?_
      refine R_cv rfl (m_lookAlong (P := P) hf8 (show F.2.1 f ≤ F.2.2.1 f by omega) (show F.2.2.1 f ≤ 20 by omega) (okR_of hR1) h24 hT hz hzr1 (by omega)) rfl rfl rfl rfl rfl (Nat.le_of_ble_eq_true rfl) rfl ?_
      rintro r h' ⟨A2, B2, rfl, rfl, hF2, hJ2, hr2⟩
      have hF2' : FmU A1 A2 := FmO_w hF2 (by decide) (by decide)
      have hok := wAl_ok (P := P) h24 hf8 (show F.2.2.1 f ≤ 20 by omega) (F.2.2.1 f + 1 - F.2.1 f) (F.2.1 f) z (by omega) hz (by omega)
      refine R_go 12 rfl rfl trivial ?_
      rw [nI_1]
      have := ih (f + 1) A2 B2 _ (by omega) (RCR_U hR1 hF2') (RCF_U hM1 hF2 (by decide)) hok.1 hr2 (by have := hok.2; omega) (FmO_tr hF (FmO_tr (FmU0_U hF1) hF2')) (FmJ_tr hJ hJ2)
      rw [wFl, if_pos hc]
      exact this
    · rw [b2_0 hc] at hco
      refine R_go 9999 rfl rfl trivial ?_
      refine R_cvr rfl hco rfl rfl rfl rfl rfl (Nat.le_of_ble_eq_true rfl) rfl ?_
      refine R_br rfl rfl (fun _ => ?_) (fun h => absurd rfl h)
      refine R_go 12 rfl rfl trivial ?_
      rw [nI_1]
      have := ih (f + 1) A B z (by omega) hR hM hz hzr hn' hF hJ
      rw [wFl, if_neg hc]
      exact this
theorem m_fgg {F : FS} {P : List (List Tk × Nat)} {R : List Rw} (hP : okP P) (hW : WFF F) {A : FI} {B : FJ} (hR : RCR A P R) (hM : RCF A F) : MV 4 1 mtX1_findGreatestGap [.inr (.inr (some (18, 0))), .inr (.inr (some (1, 0)))] (hp A B) (fun r h' => ∃ A' B', r = none ∧ h' = hp A' B' ∧ FmU A A' ∧ FmJ [18] B B' ∧ WCr A' B' (whW F P R)) := by
  refine MV_of caX1_findGreatestGap (L := [some (.inr (.inr (some (18, 0)))), some (.inr (.inr (some (1, 0)))), none]) rfl rfl ?_
  refine R_go 12 rfl rfl trivial ?_
  have hF1 : FmU A (up3 (up3 A 18 0 8 (-1)) 18 0 13 0) := (by first | exact FmO_rf | (repeat' (first | exact FmO_rf | (with_reducible assumption) | (refine FmO_up ?_ (by decide)) | (refine FmO_ug ?_ (by decide) (by decide)))))
  exact l_fgg hP hW A B 8 0 _ B (none, 0) rfl (RCR_U hR hF1) (RCF_U hM hF1 (by decide)) ⟨by decide, fun y hy => by cases hy⟩ ⟨by rw [up3_self]; rfl, by show _ = _; rw [up3_s (by decide), up3_self]⟩ (by decide) hF1 FmJ_rf
theorem m_whereTold {A : FI} {B : FJ} {z : WS} (hz : okW z) (hr : WCr A B z) (w : Nat) (hw : w ≤ 5) : MV 2 1 mtX1_whereTold [.inr (.inr (some (18, 0))), .inl (nI w)] (hp A B) (Ret (some (.inl (whT z w))) (hp A B)) := by
  refine MV_of caX1_whereTold (L := [some (.inr (.inr (some (18, 0)))), some (.inl (nI w))]) rfl rfl ?_
  obtain ⟨z1, z2⟩ := z
  obtain ⟨e13, er⟩ := hr
  by_cases h5 : w = 5
  · subst h5
    repeat' (first
        | (refine R_br rfl rfl (fun hbr => absurd hbr (by first | decide | (with_reducible assumption))) (fun _ => ?_))
        | (refine R_br rfl rfl (fun _ => ?_) (fun hbr => absurd (by first | decide | (with_reducible assumption)) hbr))
        | (refine R_br rfl rfl (fun _ => ?_) (fun _ => ?_))
        | (refine R_ri rfl rfl ?_)
        | (refine R_rz rfl rfl (Or.inl rfl) ?_)
        | (refine R_rz rfl rfl (Or.inr rfl) ?_)
        | (refine R_rz rfl rfl (b2_01 _) ?_)
        | (refine R_rl rfl rfl ?_)
        | (refine R_rv rfl rfl ?_)
        | (refine R_sw _ rfl rfl rfl ?_)
        | (refine R_go 9999 rfl rfl trivial ?_)
        | (refine R_go 9999 rfl rfl (by first | (show _ ∨ _; decide) | (show (_ ∨ _) ∧ (_ ∨ _); decide) | (show (_ ∨ _) ∧ (_ ∨ _) ∧ (_ ∨ _); decide)) ?_)
        | (refine R_go 9999 rfl rfl ?_ ?_))
    exact ret_i e13 rfl
  · have tw := ti w (by omega)
    have n5 : ¬ nI w = 5 := by (simp only [i_eq, i_lt, i_le, Int32.reduceToInt, true_and, and_true, false_and, and_false, or_false, false_or, or_true, true_or, ne_eq] at *; first | done | omega)
    cases z1 with
    | none =>
      have e8 : A 18 0 8 = -1 := er
      repeat' (first
          | (refine R_br rfl rfl (fun hbr => absurd hbr (by first | decide | (with_reducible assumption))) (fun _ => ?_))
          | (refine R_br rfl rfl (fun _ => ?_) (fun hbr => absurd (by first | decide | (with_reducible assumption)) hbr))
          | (refine R_br rfl rfl (fun _ => ?_) (fun _ => ?_))
          | (refine R_ri rfl rfl ?_)
          | (refine R_rz rfl rfl (Or.inl rfl) ?_)
          | (refine R_rz rfl rfl (Or.inr rfl) ?_)
          | (refine R_rz rfl rfl (b2_01 _) ?_)
          | (refine R_rl rfl rfl ?_)
          | (refine R_rv rfl rfl ?_)
          | (refine R_sw _ rfl rfl rfl ?_)
          | (refine R_go 9999 rfl rfl trivial ?_)
          | (refine R_go 9999 rfl rfl (by first | (show _ ∨ _; decide) | (show (_ ∨ _) ∧ (_ ∨ _); decide) | (show (_ ∨ _) ∧ (_ ∨ _) ∧ (_ ∨ _); decide)) ?_)
          | (refine R_go 9999 rfl rfl ?_ ?_))
      exact ret_i (by unfold whT; rw [if_neg h5]) rfl
    | some y =>
      obtain ⟨f8, f9, f10, f11, f12⟩ := er
      obtain ⟨y1, y2, y3, y4, y5, y6⟩ := hz.2 y rfl
      have ty := ti y.1 (by omega)
      have u8 : ¬ A 18 0 8 = -1 := by rw [f8]; (simp only [i_eq, i_lt, i_le, Int32.reduceToInt, true_and, and_true, false_and, and_false, or_false, false_or, or_true, true_or, ne_eq] at *; first | done | omega)
      rcases (show w = 0 ∨ w = 1 ∨ w = 2 ∨ w = 3 ∨ w = 4 by omega) with rfl | rfl | rfl | rfl | rfl
      ·
        repeat' (first
            | (refine R_br rfl rfl (fun hbr => absurd hbr (by first | decide | (with_reducible assumption))) (fun _ => ?_))
            | (refine R_br rfl rfl (fun _ => ?_) (fun hbr => absurd (by first | decide | (with_reducible assumption)) hbr))
            | (refine R_br rfl rfl (fun _ => ?_) (fun _ => ?_))
            | (refine R_ri rfl rfl ?_)
            | (refine R_rz rfl rfl (Or.inl rfl) ?_)
            | (refine R_rz rfl rfl (Or.inr rfl) ?_)
            | (refine R_rz rfl rfl (b2_01 _) ?_)
            | (refine R_rl rfl rfl ?_)
            | (refine R_rv rfl rfl ?_)
            | (refine R_sw _ rfl rfl rfl ?_)
            | (refine R_go 9999 rfl rfl trivial ?_)
            | (refine R_go 9999 rfl rfl (by first | (show _ ∨ _; decide) | (show (_ ∨ _) ∧ (_ ∨ _); decide) | (show (_ ∨ _) ∧ (_ ∨ _) ∧ (_ ∨ _); decide)) ?_)
            | (refine R_go 9999 rfl rfl ?_ ?_))
        exact ret_i f8 rfl
      ·
        repeat' (first
            | (refine R_br rfl rfl (fun hbr => absurd hbr (by first | decide | (with_reducible assumption))) (fun _ => ?_))
            | (refine R_br rfl rfl (fun _ => ?_) (fun hbr => absurd (by first | decide | (with_reducible assumption)) hbr))
            | (refine R_br rfl rfl (fun _ => ?_) (fun _ => ?_))
            | (refine R_ri rfl rfl ?_)
            | (refine R_rz rfl rfl (Or.inl rfl) ?_)
            | (refine R_rz rfl rfl (Or.inr rfl) ?_)
            | (refine R_rz rfl rfl (b2_01 _) ?_)
            | (refine R_rl rfl rfl ?_)
            | (refine R_rv rfl rfl ?_)
            | (refine R_sw _ rfl rfl rfl ?_)
            | (refine R_go 9999 rfl rfl trivial ?_)
            | (refine R_go 9999 rfl rfl (by first | (show _ ∨ _; decide) | (show (_ ∨ _) ∧ (_ ∨ _); decide) | (show (_ ∨ _) ∧ (_ ∨ _) ∧ (_ ∨ _); decide)) ?_)
            | (refine R_go 9999 rfl rfl ?_ ?_))
        exact ret_i f9 rfl
      ·
        repeat' (first
            | (refine R_br rfl rfl (fun hbr => absurd hbr (by first | decide | (with_reducible assumption))) (fun _ => ?_))
            | (refine R_br rfl rfl (fun _ => ?_) (fun hbr => absurd (by first | decide | (with_reducible assumption)) hbr))
            | (refine R_br rfl rfl (fun _ => ?_) (fun _ => ?_))
            | (refine R_ri rfl rfl ?_)
            | (refine R_rz rfl rfl (Or.inl rfl) ?_)
            | (refine R_rz rfl rfl (Or.inr rfl) ?_)
            | (refine R_rz rfl rfl (b2_01 _) ?_)
            | (refine R_rl rfl rfl ?_)
            | (refine R_rv rfl rfl ?_)
            | (refine R_sw _ rfl rfl rfl ?_)
            | (refine R_go 9999 rfl rfl trivial ?_)
            | (refine R_go 9999 rfl rfl (by first | (show _ ∨ _; decide) | (show (_ ∨ _) ∧ (_ ∨ _); decide) | (show (_ ∨ _) ∧ (_ ∨ _) ∧ (_ ∨ _); decide)) ?_)
            | (refine R_go 9999 rfl rfl ?_ ?_))
        exact ret_i f10 rfl
      · have hpt := m_lowest (k := 0) (show y.2.2.2.1 < 2 ^ 62 by omega) (show y.2.2.2.2 < 2 ^ 62 by omega) y6 (by decide) A B
        rw [← f11, ← f12] at hpt
        repeat' (first
            | (refine R_br rfl rfl (fun hbr => absurd hbr (by first | decide | (with_reducible assumption))) (fun _ => ?_))
            | (refine R_br rfl rfl (fun _ => ?_) (fun hbr => absurd (by first | decide | (with_reducible assumption)) hbr))
            | (refine R_br rfl rfl (fun _ => ?_) (fun _ => ?_))
            | (refine R_ri rfl rfl ?_)
            | (refine R_rz rfl rfl (Or.inl rfl) ?_)
            | (refine R_rz rfl rfl (Or.inr rfl) ?_)
            | (refine R_rz rfl rfl (b2_01 _) ?_)
            | (refine R_rl rfl rfl ?_)
            | (refine R_rv rfl rfl ?_)
            | (refine R_csr rfl (hpt) rfl rfl rfl (Nat.le_of_ble_eq_true rfl) rfl ?_)
            | (refine R_sw _ rfl rfl rfl ?_)
            | (refine R_go 9999 rfl rfl trivial ?_)
            | (refine R_go 9999 rfl rfl (by first | (show _ ∨ _; decide) | (show (_ ∨ _) ∧ (_ ∨ _); decide) | (show (_ ∨ _) ∧ (_ ∨ _) ∧ (_ ∨ _); decide)) ?_)
            | (refine R_go 9999 rfl rfl ?_ ?_))
        exact ret_i rfl rfl
      · have hpt := m_lowest (k := 1) (show y.2.2.2.1 < 2 ^ 62 by omega) (show y.2.2.2.2 < 2 ^ 62 by omega) y6 (by decide) A B
        rw [← f11, ← f12] at hpt
        repeat' (first
            | (refine R_br rfl rfl (fun hbr => absurd hbr (by first | decide | (with_reducible assumption))) (fun _ => ?_))
            | (refine R_br rfl rfl (fun _ => ?_) (fun hbr => absurd (by first | decide | (with_reducible assumption)) hbr))
            | (refine R_br rfl rfl (fun _ => ?_) (fun _ => ?_))
            | (refine R_ri rfl rfl ?_)
            | (refine R_rz rfl rfl (Or.inl rfl) ?_)
            | (refine R_rz rfl rfl (Or.inr rfl) ?_)
            | (refine R_rz rfl rfl (b2_01 _) ?_)
            | (refine R_rl rfl rfl ?_)
            | (refine R_rv rfl rfl ?_)
            | (refine R_csr rfl (hpt) rfl rfl rfl (Nat.le_of_ble_eq_true rfl) rfl ?_)
            | (refine R_sw _ rfl rfl rfl ?_)
            | (refine R_go 9999 rfl rfl trivial ?_)
            | (refine R_go 9999 rfl rfl (by first | (show _ ∨ _; decide) | (show (_ ∨ _) ∧ (_ ∨ _); decide) | (show (_ ∨ _) ∧ (_ ∨ _) ∧ (_ ∨ _); decide)) ?_)
            | (refine R_go 9999 rfl rfl ?_ ?_))
        exact ret_i rfl rfl
theorem m_whereC {F : FS} {P : List (List Tk × Nat)} {R : List Rw} (hP : okG P) (hW : WFF F) {A : FI} {B : FJ} (hS : RS 6 A P []) (hR : RCR A P R) (hM : RCF A F) (x : Int32) : MV 5 1 mtX11_where [.inr (.inr (some (0, 0))), .inl x] (hp A B) (fun r h' => ∃ A' B', h' = hp A' B' ∧ r = some (.inl (whA F P R x)) ∧ FmU A A' ∧ FmJ [18] B B') := by
  refine MV_of caX11_where (L := [some (.inr (.inr (some (0, 0)))), some (.inl x)]) rfl rfl ?_
  unfold whA
  by_cases hx : 0 ≤ x.toInt ∧ x.toInt ≤ 5
  · rw [if_pos hx]
    obtain ⟨k, hk, rfl⟩ := vp_in_of (x := x) (n := 6) (vp_of hx.1 (by omega)) (by decide)
    rw [nI_clamp (show k < 2 ^ 31 by omega)]
    have tk := ti k (by omega)
    have q1 : ¬ nI k < 0 := by (simp only [i_eq, i_lt, i_le, Int32.reduceToInt, true_and, and_true, false_and, and_false, or_false, false_or, or_true, true_or, ne_eq] at *; first | done | omega)
    have q2 : nI k ≤ 5 := by (simp only [i_eq, i_lt, i_le, Int32.reduceToInt, true_and, and_true, false_and, and_false, or_false, false_or, or_true, true_or, ne_eq] at *; first | done | omega)
    have hhp := m_hasProgram (B := B) hS (okG_len hP)
    by_cases hPe : P = []
    · rw [if_pos hPe]
      rw [isE.2 hPe] at hhp
      repeat' (first
          | (refine R_br rfl rfl (fun hbr => absurd hbr (by first | decide | (with_reducible assumption))) (fun _ => ?_))
          | (refine R_br rfl rfl (fun _ => ?_) (fun hbr => absurd (by first | decide | (with_reducible assumption)) hbr))
          | (refine R_br rfl rfl (fun _ => ?_) (fun _ => ?_))
          | (refine R_ri rfl rfl ?_)
          | (refine R_rz rfl rfl (Or.inl rfl) ?_)
          | (refine R_rz rfl rfl (Or.inr rfl) ?_)
          | (refine R_rz rfl rfl (b2_01 _) ?_)
          | (refine R_rl rfl rfl ?_)
          | (refine R_rv rfl rfl ?_)
          | (refine R_cvr rfl (hhp) rfl rfl rfl rfl rfl (Nat.le_of_ble_eq_true rfl) rfl ?_)
          | (refine R_sw _ rfl rfl rfl ?_)
          | (refine R_go 9999 rfl rfl trivial ?_)
          | (refine R_go 9999 rfl rfl (by first | (show _ ∨ _; decide) | (show (_ ∨ _) ∧ (_ ∨ _); decide) | (show (_ ∨ _) ∧ (_ ∨ _) ∧ (_ ∨ _); decide)) ?_)
          | (refine R_go 9999 rfl rfl ?_ ?_))
      exact ⟨A, B, rfl, rfl, FmO_rf, FmJ_rf⟩
    · rw [if_neg hPe]
      rw [isE.1 hPe] at hhp
      repeat' (first
          | (refine R_br rfl rfl (fun hbr => absurd hbr (by first | decide | (with_reducible assumption))) (fun _ => ?_))
          | (refine R_br rfl rfl (fun _ => ?_) (fun hbr => absurd (by first | decide | (with_reducible assumption)) hbr))
          | (refine R_br rfl rfl (fun _ => ?_) (fun _ => ?_))
          | (refine R_ri rfl rfl ?_)
          | (refine R_rz rfl rfl (Or.inl rfl) ?_)
          | (refine R_rz rfl rfl (Or.inr rfl) ?_)
          | (refine R_rz rfl rfl (b2_01 _) ?_)
          | (refine R_rl rfl rfl ?_)
          | (refine R_rv rfl rfl ?_)
          | (refine R_cvr rfl (hhp) rfl rfl rfl rfl rfl (Nat.le_of_ble_eq_true rfl) rfl ?_)
          | (refine R_cv rfl (m_fgg (okG_ne hP hPe) hW hR hM) rfl rfl rfl rfl rfl (Nat.le_of_ble_eq_true rfl) rfl ?_)
          | (refine R_sw _ rfl rfl rfl ?_)
          | (refine R_go 9999 rfl rfl trivial ?_)
          | (refine R_go 9999 rfl rfl (by first | (show _ ∨ _; decide) | (show (_ ∨ _) ∧ (_ ∨ _); decide) | (show (_ ∨ _) ∧ (_ ∨ _) ∧ (_ ∨ _); decide)) ?_)
          | (refine R_go 9999 rfl rfl ?_ ?_))
      rintro z h' ⟨A1, B1, rfl, rfl, hF1, hJ1, hr⟩
      repeat' (first
          | (refine R_br rfl rfl (fun hbr => absurd hbr (by first | decide | (with_reducible assumption))) (fun _ => ?_))
          | (refine R_br rfl rfl (fun _ => ?_) (fun hbr => absurd (by first | decide | (with_reducible assumption)) hbr))
          | (refine R_br rfl rfl (fun _ => ?_) (fun _ => ?_))
          | (refine R_ri rfl rfl ?_)
          | (refine R_rz rfl rfl (Or.inl rfl) ?_)
          | (refine R_rz rfl rfl (Or.inr rfl) ?_)
          | (refine R_rz rfl rfl (b2_01 _) ?_)
          | (refine R_rl rfl rfl ?_)
          | (refine R_rv rfl rfl ?_)
          | (refine R_cvr rfl (m_whereTold (whW_ok hW hR.2.1) hr k (by omega)) rfl rfl rfl rfl rfl (Nat.le_of_ble_eq_true rfl) rfl ?_)
          | (refine R_sw _ rfl rfl rfl ?_)
          | (refine R_go 9999 rfl rfl trivial ?_)
          | (refine R_go 9999 rfl rfl (by first | (show _ ∨ _; decide) | (show (_ ∨ _) ∧ (_ ∨ _); decide) | (show (_ ∨ _) ∧ (_ ∨ _) ∧ (_ ∨ _); decide)) ?_)
          | (refine R_go 9999 rfl rfl ?_ ?_))
      exact ⟨A1, B1, rfl, rfl, hF1, hJ1⟩
  · rw [if_neg hx]
    repeat' (first
        | (refine R_br rfl rfl (fun hbr => absurd hbr (by first | decide | (with_reducible assumption))) (fun _ => ?_))
        | (refine R_br rfl rfl (fun _ => ?_) (fun hbr => absurd (by first | decide | (with_reducible assumption)) hbr))
        | (refine R_br rfl rfl (fun _ => ?_) (fun _ => ?_))
        | (refine R_ri rfl rfl ?_)
        | (refine R_rz rfl rfl (Or.inl rfl) ?_)
        | (refine R_rz rfl rfl (Or.inr rfl) ?_)
        | (refine R_rz rfl rfl (b2_01 _) ?_)
        | (refine R_rl rfl rfl ?_)
        | (refine R_rv rfl rfl ?_)
        | (refine R_sw _ rfl rfl rfl ?_)
        | (refine R_go 9999 rfl rfl trivial ?_)
        | (refine R_go 9999 rfl rfl (by first | (show _ ∨ _; decide) | (show (_ ∨ _) ∧ (_ ∨ _); decide) | (show (_ ∨ _) ∧ (_ ∨ _) ∧ (_ ∨ _); decide)) ?_)
        | (refine R_go 9999 rfl rfl ?_ ?_))
    all_goals first | exact ⟨A, B, rfl, rfl, FmO_rf, FmJ_rf⟩ | (exfalso; (simp only [i_eq, i_lt, i_le, Int32.reduceToInt, true_and, and_true, false_and, and_false, or_false, false_or, or_true, true_or, ne_eq] at *; first | done | omega))
