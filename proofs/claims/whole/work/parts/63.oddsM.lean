abbrev doL (f v w k r mk gp up t : Nat) (o : Option AV) : List (Option AV) := [some (.inr (.inr (some (31, 0)))), some (.inl (nI f)), some (.inl (nI v)), some (.inl (nI w)), some (.inl (nI k)), some (.inl (nI r)), some (.inl (nI mk)), some (.inl (nI gp)), some (.inr (.inl (lN up))), none, some (.inl (nI t)), o]
theorem l_oddsM {f v w k r h th mk gp : Nat} (h1 : h ≤ 24) (h2 : th ≤ 24) (h3 : mk ≤ 48) (h4 : gp ≤ 2304) {A : FI} {B : FJ} {Q : Option AV → AH → Prop} (e58 : A 31 0 58 = nI h) (e60 : A 31 0 60 = nI th) (kk : ∀ o, Rn 6 mtX12_odds 164 (doL f v w k r mk gp (dlN h th mk gp (h + 1)) (h + 1) o) [] (hp A B) Q) : ∀ (m t : Nat), t + m = h + 1 → ∀ o, Rn 6 mtX12_odds 63 (doL f v w k r mk gp (dlN h th mk gp t) t o) [] (hp A B) Q := by
  have th' := ti h (by omega)
  have tth := ti th (by omega)
  have tm := ti mk (by omega)
  intro m
  induction m with
  | zero =>
    intro t ht o
    have : t = h + 1 := by omega
    subst this
    have tI := ti (h + 1) (by omega)
    refine R_go 9999 rfl rfl trivial ?_
    refine R_br rfl rfl (fun _ => kk o) (fun h => absurd (by rw [e58]; (simp only [i_eq, i_lt, i_le, Int32.reduceToInt, true_and, and_true, false_and, and_false, or_false, false_or, or_true, true_or, ne_eq] at *; first | done | omega)) h)
  | succ m ih =>
    intro t ht o
    have tt := ti t (by omega)
    have hno : ¬ (t ≤ mk ∧ mk - t ≤ th ∧ gp ≤ gpN t h (mk - t) th) → Rn 6 mtX12_odds 119 (doL f v w k r mk gp (dlN h th mk gp t) t o) [] (hp A B) Q := by
      intro hn
      refine R_go 9999 rfl rfl trivial ?_
      refine R_br rfl rfl (fun _ => ?_) (fun h => absurd rfl h)
      refine R_go 63 rfl rfl trivial ?_
      rw [show lN (dlN h th mk gp t) + 0 = lN (dlN h th mk gp t) from lN_add _ 0, nI_1]
      have := ih (t + 1) (by omega) (some (.inl 0))
      have e : dlN h th mk gp (t + 1) = dlN h th mk gp t := by
        rw [dlN]
        by_cases hc : t ≤ mk ∧ gp ≤ gpN t h (mk - t) th
        · rw [if_pos hc, bin_gt th (mk - t) (by omega)]; simp
        · rw [if_neg hc]; rfl
      rw [e] at this
      exact this
    refine R_go 9999 rfl rfl trivial ?_
    refine R_br rfl rfl (fun h => absurd h (by rw [e58]; (simp only [i_eq, i_lt, i_le, Int32.reduceToInt, true_and, and_true, false_and, and_false, or_false, false_or, or_true, true_or, ne_eq] at *; first | done | omega))) (fun _ => ?_)
    refine R_go 9999 rfl rfl trivial ?_
    by_cases him : t ≤ mk
    · have tmt := ti (mk - t) (by omega)
      rw [nI_sub him]
      refine R_br rfl rfl (fun h => absurd h (by (simp only [i_eq, i_lt, i_le, Int32.reduceToInt, true_and, and_true, false_and, and_false, or_false, false_or, or_true, true_or, ne_eq] at *; first | done | omega))) (fun _ => ?_)
      refine R_go 9999 rfl rfl trivial ?_
      rw [nI_sub him]
      by_cases hth : mk - t ≤ th
      · refine R_br rfl rfl (fun h => absurd h (by rw [e60]; (simp only [i_eq, i_lt, i_le, Int32.reduceToInt, true_and, and_true, false_and, and_false, or_false, false_or, or_true, true_or, ne_eq] at *; first | done | omega))) (fun _ => ?_)
        refine R_go 9999 rfl rfl trivial ?_
        try dsimp only [fgt, fpt]
        rw [e58, e60, nI_sub him]
        obtain ⟨g1, g2, g3⟩ := gpb (a := t) (b := h) (c := mk - t) (d := th) (by omega) (by omega) (by omega) (by omega)
        have g1' : t * th ≤ 25 * 24 := Nat.mul_le_mul (by omega) h2
        have g2' : (mk - t) * h ≤ 24 * 24 := Nat.mul_le_mul (by omega) h1
        refine R_csr rfl (m_gapOf t h (mk - t) th (by omega) (by omega) _ _) rfl rfl rfl (Nat.le_of_ble_eq_true rfl) rfl ?_
        refine R_go 9999 rfl rfl trivial ?_
        have tg := ti (gpN t h (mk - t) th) (by omega)
        have tgp := ti gp (by omega)
        by_cases hge : gp ≤ gpN t h (mk - t) th
        · refine R_br rfl rfl (fun h => absurd h (by (simp only [i_eq, i_lt, i_le, Int32.reduceToInt, true_and, and_true, false_and, and_false, or_false, false_or, or_true, true_or, ne_eq] at *; first | done | omega))) (fun _ => ?_)
          refine R_go 9999 rfl rfl trivial ?_
          refine R_br rfl rfl (fun h => absurd h (by decide)) (fun _ => ?_)
          refine R_go 9999 rfl rfl trivial ?_
          try dsimp only [fgt, fpt]
          rw [e58]
          refine R_csr rfl (m_chM (show h ≤ 48 by omega) (show t ≤ 100 by omega) _ _) rfl rfl rfl (Nat.le_of_ble_eq_true rfl) rfl ?_
          refine R_go 9999 rfl rfl trivial ?_
          try dsimp only [fgt, fpt]
          rw [e60, nI_sub him]
          refine R_csr rfl (m_chM (show th ≤ 48 by omega) (show mk - t ≤ 100 by omega) _ _) rfl rfl rfl (Nat.le_of_ble_eq_true rfl) rfl ?_
          refine R_go 63 rfl rfl trivial ?_
          rw [lN_mul, lN_add, nI_1]
          have := ih (t + 1) (by omega) (some (.inl 1))
          rw [dlN, if_pos ⟨him, hge⟩] at this
          exact this
        · refine R_br rfl rfl (fun _ => hno (fun z => hge z.2.2)) (fun h => absurd (by (simp only [i_eq, i_lt, i_le, Int32.reduceToInt, true_and, and_true, false_and, and_false, or_false, false_or, or_true, true_or, ne_eq] at *; first | done | omega)) h)
      · refine R_br rfl rfl (fun _ => hno (fun z => hth z.2.1)) (fun h => absurd (by rw [e60]; (simp only [i_eq, i_lt, i_le, Int32.reduceToInt, true_and, and_true, false_and, and_false, or_false, false_or, or_true, true_or, ne_eq] at *; first | done | omega)) h)
    · have n1 : nI mk - nI t < 0 := by
        rw [i_lt, Int32.toInt_sub, tm, tt]
        simp only [Int32.reduceToInt]
        rw [Int.bmod_eq_of_le (by omega) (by omega)]
        omega
      refine R_br rfl rfl (fun _ => hno (fun z => him z.1)) (fun h => absurd n1 h)
theorem m_oddsM {P : List (List Tk × Nat)} {R : List Rw} (hP : okG P) (f v w k : Int32) {A : FI} {B : FJ} (hG : RMG A P) (hR : RMR A R) : MV 6 4 mtX12_odds [.inr (.inr (some (31, 0))), .inl f, .inl v, .inl w, .inl k] (hp A B) (fun r h' => ∃ A' B', h' = hp A' B' ∧ r = some (.inl (oddsA P R f v w k)) ∧ FmZ A A' ∧ FmJ [49] B B') := by
  have h24 := hR.2.1
  refine MV_of caX12_odds (L := [some (.inr (.inr (some (31, 0)))), some (.inl f), some (.inl v), some (.inl w), some (.inl k), none, none, none, none, none, none, none]) rfl rfl ?_
  unfold oddsA
  have hin : MS 0 3 mtX12_in [.inr (.inl k.toInt64), .inr (.inl 0), .inr (.inl 1)] (hp A B) (Ret (some (.inl (bI (decide (0 ≤ k.toInt ∧ k.toInt ≤ 1))))) (hp A B)) := by
    by_cases h : 0 ≤ k.toInt ∧ k.toInt ≤ 1
    · rw [decide_eq_true h]; exact m_inT k 0 1 (by simp only [Int64.reduceToInt]; exact h) _ _
    · rw [decide_eq_false h]; exact m_inF k 0 1 (by simp only [Int64.reduceToInt]; exact h) _ _
  refine R_go 9999 rfl rfl trivial ?_
  refine R_csr rfl hin rfl rfl rfl (Nat.le_of_ble_eq_true rfl) rfl ?_
  refine R_cv rfl (m_gapRefusal hP f v w (decide (0 ≤ k.toInt ∧ k.toInt ≤ 1)) hG hR) rfl rfl rfl rfl rfl (Nat.le_of_ble_eq_true rfl) rfl ?_
  rintro z h' ⟨A1, B1, rfl, rfl, hF1, hJ1, hT⟩
  rcases rfA_c P R f v w (decide (0 ≤ k.toInt ∧ k.toInt ≤ 1)) with h | h | h | ⟨h, hgd, hPe, a, b, c, ha, hb, hcc, hne, rfl, rfl, rfl, h1, h2⟩
  · rw [h, if_neg (by decide)]
    repeat' (first
        | (refine R_br rfl rfl (fun hbr => absurd hbr (by first | decide | (with_reducible assumption))) (fun _ => ?_))
        | (refine R_br rfl rfl (fun _ => ?_) (fun hbr => absurd (by first | decide | (with_reducible assumption)) hbr))
        | (refine R_br rfl rfl (fun _ => ?_) (fun _ => ?_))
        | (refine R_ri rfl rfl ?_)
        | (refine R_rz rfl rfl (Or.inl rfl) ?_)
        | (refine R_rz rfl rfl (Or.inr rfl) ?_)
        | (refine R_rz rfl rfl (b2_01 _) ?_)
        | (refine R_rl rfl rfl ?_)
        | (refine R_rv rfl rfl ?_)
        | (refine R_sw _ rfl rfl rfl ?_)
        | (refine R_go 9999 rfl rfl trivial ?_)
        | (refine R_go 9999 rfl rfl (by first | (show _ ∨ _; decide) | (show (_ ∨ _) ∧ (_ ∨ _); decide) | (show (_ ∨ _) ∧ (_ ∨ _) ∧ (_ ∨ _); decide)) ?_)
        | (refine R_go 9999 rfl rfl ?_ ?_))
    exact ⟨A1, B1, rfl, rfl, hF1, hJ1⟩
  · rw [h, if_neg (by decide)]
    repeat' (first
        | (refine R_br rfl rfl (fun hbr => absurd hbr (by first | decide | (with_reducible assumption))) (fun _ => ?_))
        | (refine R_br rfl rfl (fun _ => ?_) (fun hbr => absurd (by first | decide | (with_reducible assumption)) hbr))
        | (refine R_br rfl rfl (fun _ => ?_) (fun _ => ?_))
        | (refine R_ri rfl rfl ?_)
        | (refine R_rz rfl rfl (Or.inl rfl) ?_)
        | (refine R_rz rfl rfl (Or.inr rfl) ?_)
        | (refine R_rz rfl rfl (b2_01 _) ?_)
        | (refine R_rl rfl rfl ?_)
        | (refine R_rv rfl rfl ?_)
        | (refine R_sw _ rfl rfl rfl ?_)
        | (refine R_go 9999 rfl rfl trivial ?_)
        | (refine R_go 9999 rfl rfl (by first | (show _ ∨ _; decide) | (show (_ ∨ _) ∧ (_ ∨ _); decide) | (show (_ ∨ _) ∧ (_ ∨ _) ∧ (_ ∨ _); decide)) ?_)
        | (refine R_go 9999 rfl rfl ?_ ?_))
    exact ⟨A1, B1, rfl, rfl, hF1, hJ1⟩
  · rw [h, if_neg (by decide)]
    repeat' (first
        | (refine R_br rfl rfl (fun hbr => absurd hbr (by first | decide | (with_reducible assumption))) (fun _ => ?_))
        | (refine R_br rfl rfl (fun _ => ?_) (fun hbr => absurd (by first | decide | (with_reducible assumption)) hbr))
        | (refine R_br rfl rfl (fun _ => ?_) (fun _ => ?_))
        | (refine R_ri rfl rfl ?_)
        | (refine R_rz rfl rfl (Or.inl rfl) ?_)
        | (refine R_rz rfl rfl (Or.inr rfl) ?_)
        | (refine R_rz rfl rfl (b2_01 _) ?_)
        | (refine R_rl rfl rfl ?_)
        | (refine R_rv rfl rfl ?_)
        | (refine R_sw _ rfl rfl rfl ?_)
        | (refine R_go 9999 rfl rfl trivial ?_)
        | (refine R_go 9999 rfl rfl (by first | (show _ ∨ _; decide) | (show (_ ∨ _) ∧ (_ ∨ _); decide) | (show (_ ∨ _) ∧ (_ ∨ _) ∧ (_ ∨ _); decide)) ?_)
        | (refine R_go 9999 rfl rfl ?_ ?_))
    exact ⟨A1, B1, rfl, rfl, hF1, hJ1⟩
  · obtain ⟨t1, t2, t3, t4, -⟩ := hT h
    rw [h, if_pos rfl]
    have hkk := of_decide_eq_true hgd
    obtain ⟨j, hj, rfl⟩ := vp_in_of (x := k) (n := 2) (vp_of hkk.1 (by omega)) (by decide)
    rw [nI_clamp (show a < 2 ^ 31 by omega), nI_clamp (show b < 2 ^ 31 by omega)] at t1 t2
    rw [nI_clamp (show a < 2 ^ 31 by omega), nI_clamp (show c < 2 ^ 31 by omega)] at t3 t4
    rw [nI_clamp (show a < 2 ^ 31 by omega), nI_clamp (show b < 2 ^ 31 by omega), nI_clamp (show c < 2 ^ 31 by omega), nI_clamp (show j < 2 ^ 31 by omega)]
    obtain ⟨o1, o2, o3, o4, o5, o6, o7⟩ := od_ok (P := P) h24 a b c
    have c1 : mL P R a b * mA P R a c ≤ 24 * 24 := Nat.mul_le_mul o1 o4
    have c2 : mL P R a c * mA P R a b ≤ 24 * 24 := Nat.mul_le_mul o3 o2
    have hgo := m_gapOf (mL P R a b) (mA P R a b) (mL P R a c) (mA P R a c) (by omega) (by omega) A1 B1
    have hgl : gpN (mL P R a b) (mA P R a b) (mL P R a c) (mA P R a c) ≤ 2304 := by unfold gpN; omega
    refine R_go 9999 rfl rfl trivial ?_
    refine R_br rfl rfl (fun _ => ?_) (fun h => absurd rfl h)
    refine R_go 9999 rfl rfl trivial ?_
    try dsimp only [fgt, fpt]
    rw [t1, t2, t3, t4, nI_add]
    refine R_csr rfl hgo rfl rfl rfl (Nat.le_of_ble_eq_true rfl) rfl ?_
    refine R_go 63 rfl rfl trivial ?_
    refine l_oddsM (f := a) (v := b) (w := c) (k := j) (r := 0) o2 o4 (show mL P R a b + mL P R a c ≤ 48 by omega) hgl t1 t3 (fun o => ?_) (mA P R a b + 1) 0 (by omega) none
    refine R_go 9999 rfl rfl trivial ?_
    try dsimp only [fgt, fpt]
    rw [t1, t3, nI_add]
    refine R_csr rfl (m_chM (show mA P R a b + mA P R a c ≤ 48 by omega) (show mL P R a b + mL P R a c ≤ 100 by omega) _ _) rfl rfl rfl (Nat.le_of_ble_eq_true rfl) rfl ?_
    refine R_go 9999 rfl rfl trivial ?_
    refine R_csr rfl (m_part o5 o6 o7 (by omega) _ _) rfl rfl rfl (Nat.le_of_ble_eq_true rfl) rfl ?_
    exact R_ri rfl rfl ⟨A1, B1, rfl, rfl, hF1, hJ1⟩
