def t3V : Option T3 → Int32 × Int32 × Int32
  | none => (-1, -1, -1)
  | some z => (nI z.1, nI z.2.1, nI z.2.2)
theorem mdF_t {P : List (List Tk × Nat)} {R : List Rw} {f v w : Nat} (h : ¬ evN P R f v w) : mdF P R f v w = t3V (mdC (evX P R f v w) (wasN P) (nms (flP P)).length) := by
  rw [mdF_n h]
  cases mdC (evX P R f v w) (wasN P) (nms (flP P)).length <;> rfl
def T3R (o : Option T3) (a b c : Int32) : Prop := (o = none → a = -1 ∧ b = -1 ∧ c = -1) ∧ ∀ z, o = some z → a = nI z.1 ∧ b = nI z.2.1 ∧ c = nI z.2.2 ∧ z.2.2 ≤ 99
abbrev FmN (A A' : FI) : Prop := FmO 31 [43, 50, 51, 52, 62] [36, 56, 57, 58, 59, 60, 61] A A'
abbrev meL (f v w : Nat) (k r a b c : Int32) (n i : Nat) (o11 o12 o13 o14 : Option AV) : List (Option AV) := [some (.inr (.inr (some (31, 0)))), some (.inl (nI f)), some (.inl (nI v)), some (.inl (nI w)), some (.inl k), some (.inl r), some (.inl a), some (.inl b), some (.inl c), some (.inl (nI n)), some (.inl (nI i)), o11, o12, o13, o14]
theorem l_me1 {P : List (List Tk × Nat)} {R : List Rw} {f v w i : Nat} (hP : okP P) (hf : f < 8) (hv : v ≤ 20) (hw : w ≤ 20) (hi : i < (nms (flP P)).length) {k r : Int32} {A0 : FI} {B0 : FJ} {o : Option T3} (hR : RMR A0 R) {Q : Option AV → AH → Prop} (kend : ∀ A B a b c y o14, FmN A0 A → FmJ [49] B0 B → RMG A (suP P i y) → y ≤ 99 → T3R (rfI (evX P R f v w) (wasN P) i o) a b c → Rn 6 mtX12_mend 199 (meL f v w k r a b c (nms (flP P)).length i (some (.inl (nI (npo (flP P) i)))) (some (.inl (nI (wasN P i)))) (some (.inl (nI 100))) o14) [] (hp A B) Q) : ∀ (m x : Nat) (A : FI) (B : FJ) (a b c : Int32) (y : Nat), x + m = 100 → FmN A0 A → FmJ [49] B0 B → RMG A (suP P i y) → y ≤ 99 → T3R (itN (fun x o => rfS (evX P R f v w) (wasN P) i x o) x o) a b c → ∀ o14, Rn 6 mtX12_mend 115 (meL f v w k r a b c (nms (flP P)).length i (some (.inl (nI (npo (flP P) i)))) (some (.inl (nI (wasN P i)))) (some (.inl (nI x))) o14) [] (hp A B) Q := by
  have hG : ∀ {x : Nat}, x ≤ 99 → okP (suP P i x) := fun hx => okP_su hP hx
  have h99 : wasN P i ≤ 99 := okP_99 hP _ (gd_in hi)
  have hnp := npo_ok _ _ hi
  have h80 := okG_80 (Or.inr hP)
  intro m
  induction m with
  | zero =>
    intro x A B a b c y hx hF hJ hM hy hT o14
    have ex : x = 100 := by omega
    subst ex
    refine R_go 9999 rfl rfl trivial ?_
    refine R_br rfl rfl (fun _ => ?_) (fun h => absurd (by decide) h)
    exact kend A B a b c y o14 hF hJ hM hy hT
  | succ m ih =>
    intro x A B a b c y hx hF hJ hM hy hT o14
    have tx := ti x (by omega)
    have tw := ti (wasN P i) (by omega)
    have es : itN (fun x o => rfS (evX P R f v w) (wasN P) i x o) (x + 1) o = rfS (evX P R f v w) (wasN P) i x (itN (fun x o => rfS (evX P R f v w) (wasN P) i x o) x o) := rfl
    have ihx := ih (x + 1)
    rw [es] at ihx
    generalize itN (fun x o => rfS (evX P R f v w) (wasN P) i x o) x o = o1 at *
    have hfx : farX (wasN P) i x = (wasN P i - x) + (x - wasN P i) := rfl
    have tfar := ti (farX (wasN P) i x) (by rw [hfx]; omega)
    have cn : (nI (npo (flP P) i)).toNatClampNeg = npo (flP P) i := nI_clamp (by omega)
    have hvn : vp_in (nI (npo (flP P) i)) 80 := vpN (n := 80) (by omega) rfl
    have hfb : farX (wasN P) i x ≤ 100 := by rw [hfx]; omega
    have skip : ∀ A B y o14, FmN A0 A → FmJ [49] B0 B → RMG A (suP P i y) → y ≤ 99 → ¬ (0 < farX (wasN P) i x ∧ (∀ z, o1 = some z → farX (wasN P) i x < z.2.2) ∧ evX P R f v w i x) → Rn 6 mtX12_mend 193 (meL f v w k r a b c (nms (flP P)).length i (some (.inl (nI (npo (flP P) i)))) (some (.inl (nI (wasN P i)))) (some (.inl (nI x))) (some (.inl o14))) [] (hp A B) Q := fun A B y o14 hF hJ hM hy hn => by
      rw [rfS_n hn] at ihx
      refine R_go 115 rfl rfl trivial ?_
      rw [nI_1]
      exact ihx A B a b c y (by omega) hF hJ hM hy hT _
    have k144 : Rn 6 mtX12_mend 144 (meL f v w k r a b c (nms (flP P)).length i (some (.inl (nI (npo (flP P) i)))) (some (.inl (nI (wasN P i)))) (some (.inl (nI x))) (some (.inl (nI (farX (wasN P) i x))))) [] (hp A B) Q := by
      refine R_go 9999 rfl rfl trivial ?_
      by_cases h0 : 0 < farX (wasN P) i x
      · refine R_br rfl rfl (fun h => absurd h (by (simp only [i_eq, i_lt, i_le, Int32.reduceToInt, true_and, and_true, false_and, and_false, or_false, false_or, or_true, true_or, ne_eq] at *; first | done | omega))) (fun _ => ?_)
        have k162 : (∀ z, o1 = some z → farX (wasN P) i x < z.2.2) → Rn 6 mtX12_mend 162 (meL f v w k r a b c (nms (flP P)).length i (some (.inl (nI (npo (flP P) i)))) (some (.inl (nI (wasN P i)))) (some (.inl (nI x))) (some (.inl (nI (farX (wasN P) i x))))) [] (hp A B) Q := fun hlt => by
          refine R_go 9999 rfl rfl hvn ?_
          rw [cn]
          have hM1 := RMG_su2 (x := x) hM hi
          generalize hA1 : up3 A 43 0 (npo (flP P) i) (nI x) = A1 at *
          have hF1 : FmN A A1 := by rw [← hA1]; exact (by first | exact FmO_rf | (repeat' (first | exact FmO_rf | (with_reducible assumption) | (refine FmO_up ?_ (by decide)) | (refine FmO_ug ?_ (by decide) (by decide)))))
          have hF01 : FmN A0 A1 := FmO_tr hF hF1
          refine R_cv rfl (m_isNought (B := B) (hG (by omega)) f v w hf hv hw hM1 (RMR_fr hR hF01 (by decide) (by decide))) rfl rfl rfl rfl rfl (Nat.le_of_ble_eq_true rfl) rfl ?_
          rintro r' h' ⟨A2, B2, rfl, rfl, hF2, hJ2⟩
          have hF02 : FmN A0 A2 := FmO_tr hF01 (FmO_w hF2 (by decide) (by decide))
          have hM2 : RMG A2 (suP P i x) := RMG_fr hM1 hF2 (by decide) (by decide)
          rcases Classical.em (evN (suP P i x) R f v w) with he | he
          · rw [b2_1 he]
            rw [rfS_y ⟨h0, hlt, he⟩] at ihx
            refine R_br rfl rfl (fun h => absurd h (by decide)) (fun _ => ?_)
            refine R_go 115 rfl rfl trivial ?_
            rw [nI_1]
            exact ihx A2 B2 (nI i) (nI x) (nI (farX (wasN P) i x)) x (by omega) hF02 (FmJ_tr hJ hJ2) hM2 (by omega) ⟨(fun z => by cases z), fun z hz => by cases hz; exact ⟨rfl, rfl, rfl, (by show farX (wasN P) i x ≤ 99; rw [hfx]; omega)⟩⟩ _
          · rw [b2_0 he]
            refine R_br rfl rfl (fun _ => ?_) (fun h => absurd rfl h)
            exact skip A2 B2 x _ hF02 (FmJ_tr hJ hJ2) hM2 (by omega) (fun z => he z.2.2)
        refine R_go 9999 rfl rfl trivial ?_
        cases o1 with
        | none =>
          obtain ⟨-, -, c3⟩ := hT.1 rfl
          exact R_br rfl rfl (fun _ => k162 (fun z hz => by cases hz)) (fun h => absurd c3 h)
        | some z =>
          obtain ⟨-, -, c3, c4⟩ := hT.2 z rfl
          have tz := ti z.2.2 (by omega)
          have hc1 : ¬ c = -1 := by rw [c3]; exact nI_nn (by omega)
          refine R_br rfl rfl (fun h => absurd h hc1) (fun _ => ?_)
          refine R_go 9999 rfl rfl trivial ?_
          by_cases hlt : farX (wasN P) i x < z.2.2
          · exact R_br rfl rfl (fun h => absurd h (by rw [c3, i_le, tfar, tz]; omega)) (fun _ => k162 (fun z' hz' => by cases hz'; exact hlt))
          · refine R_br rfl rfl (fun _ => ?_) (fun h => absurd (by rw [c3, i_le, tfar, tz]; omega) h)
            exact skip A B y _ hF hJ hM hy (fun q => hlt (q.2.1 z rfl))
      · refine R_br rfl rfl (fun _ => ?_) (fun h => absurd (by (simp only [i_eq, i_lt, i_le, Int32.reduceToInt, true_and, and_true, false_and, and_false, or_false, false_or, or_true, true_or, ne_eq] at *; first | done | omega)) h)
        exact skip A B y _ hF hJ hM hy (fun q => h0 q.1)
    refine R_go 9999 rfl rfl trivial ?_
    refine R_br rfl rfl (fun h => absurd h (by (simp only [i_eq, i_lt, i_le, Int32.reduceToInt, true_and, and_true, false_and, and_false, or_false, false_or, or_true, true_or, ne_eq] at *; first | done | omega))) (fun _ => ?_)
    refine R_go 9999 rfl rfl trivial ?_
    by_cases hlt : x < wasN P i
    · refine R_br rfl rfl (fun h => absurd h (by (simp only [i_eq, i_lt, i_le, Int32.reduceToInt, true_and, and_true, false_and, and_false, or_false, false_or, or_true, true_or, ne_eq] at *; first | done | omega))) (fun _ => ?_)
      refine R_go 144 rfl rfl trivial ?_
      rw [nI_sub (by omega), show wasN P i - x = farX (wasN P) i x by rw [hfx]; omega]
      exact k144
    · refine R_br rfl rfl (fun _ => ?_) (fun h => absurd (by (simp only [i_eq, i_lt, i_le, Int32.reduceToInt, true_and, and_true, false_and, and_false, or_false, false_or, or_true, true_or, ne_eq] at *; first | done | omega)) h)
      refine R_go 144 rfl rfl trivial ?_
      rw [nI_sub (by omega), show x - wasN P i = farX (wasN P) i x by rw [hfx]; omega]
      exact k144
theorem l_me2 {P : List (List Tk × Nat)} {R : List Rw} {f v w : Nat} (hP : okP P) (hf : f < 8) (hv : v ≤ 20) (hw : w ≤ 20) {k r : Int32} {A0 : FI} {B0 : FJ} (hR : RMR A0 R) {Q : Option AV → AH → Prop} (kend : ∀ A B a b c o11 o12 o13 o14, FmN A0 A → FmJ [49] B0 B → RMG A P → T3R (rfM (evX P R f v w) (wasN P) (nms (flP P)).length) a b c → Rn 6 mtX12_mend 214 (meL f v w k r a b c (nms (flP P)).length (nms (flP P)).length o11 o12 o13 o14) [] (hp A B) Q) : ∀ (m i : Nat) (A : FI) (B : FJ) (a b c : Int32), i + m = (nms (flP P)).length → FmN A0 A → FmJ [49] B0 B → RMG A P → T3R (itN (fun i o => rfI (evX P R f v w) (wasN P) i o) i none) a b c → ∀ o11 o12 o13 o14, Rn 6 mtX12_mend 88 (meL f v w k r a b c (nms (flP P)).length i o11 o12 o13 o14) [] (hp A B) Q := by
  have h80 := okG_80 (Or.inr hP)
  have hnl := nms_lx (flP P)
  intro m
  induction m with
  | zero =>
    intro i A B a b c hi hF hJ hM hT o11 o12 o13 o14
    have ei : i = (nms (flP P)).length := by omega
    subst ei
    refine R_go 9999 rfl rfl trivial ?_
    refine R_br rfl rfl (fun _ => ?_) (fun h => absurd (Int32.le_refl _) h)
    exact kend A B a b c _ _ _ _ hF hJ hM hT
  | succ m ih =>
    intro i A B a b c hi hF hJ hM hT o11 o12 o13 o14
    have hil : i < (nms (flP P)).length := by omega
    have t1 := ti i (by omega)
    have t2 := ti (nms (flP P)).length (by omega)
    have hnp := npo_ok _ _ hil
    have h99 : wasN P i ≤ 99 := okP_99 hP _ (gd_in hil)
    have cn : (nI (npo (flP P) i)).toNatClampNeg = npo (flP P) i := nI_clamp (by omega)
    have hvn : vp_in (nI (npo (flP P) i)) 80 := vpN (n := 80) (by omega) rfl
    refine R_go 9999 rfl rfl trivial ?_
    refine R_br rfl rfl (fun h => absurd h (by (simp only [i_eq, i_lt, i_le, Int32.reduceToInt, true_and, and_true, false_and, and_false, or_false, false_or, or_true, true_or, ne_eq] at *; first | done | omega))) (fun _ => ?_)
    refine R_go 9999 rfl rfl trivial ?_
    refine R_cvr rfl (m_numberAt (Or.inr hP) hM hil) rfl rfl rfl rfl rfl (Nat.le_of_ble_eq_true rfl) rfl ?_
    refine R_go 115 rfl rfl hvn ?_
    rw [cn, nb_at hM hnp.1, hnp.2.2]
    refine l_me1 (o := itN (fun i o => rfI (evX P R f v w) (wasN P) i o) i none) hP hf hv hw hil (RMR_fr hR hF (by decide) (by decide)) (fun A1 B1 a1 b1 c1 y o14 hF1 hJ1 hM1 hy hT1 => ?_) 100 0 A B a b c (wasN P i) (by omega) FmO_rf FmJ_rf (by rw [suP_was P i hil]; exact hM) h99 hT _
    refine R_go 88 rfl rfl hvn ?_
    rw [cn, nI_1]
    have hM2 := RMG_su2 (x := wasN P i) hM1 hil
    rw [suP_was P i hil] at hM2
    exact ih (i + 1) _ B1 a1 b1 c1 (by omega) (FmO_tr hF (FmO_tr hF1 (by first | exact FmO_rf | (repeat' (first | exact FmO_rf | (with_reducible assumption) | (refine FmO_up ?_ (by decide)) | (refine FmO_ug ?_ (by decide) (by decide))))))) (FmJ_tr hJ hJ1) hM2 hT1 _ _ _ _
theorem m_mendM {P : List (List Tk × Nat)} {R : List Rw} {n : Nat} {A : FI} {B : FJ} (hP : okG P) (hG : RMG A P) (hR : RMR A R) (h68 : A 31 0 68 = nI n) (hn : n ≤ 20) (f v w k : Int32) : MV 6 4 mtX12_mend [.inr (.inr (some (31, 0))), .inl f, .inl v, .inl w, .inl k] (hp A B) (fun r h' => ∃ A' B', h' = hp A' B' ∧ r = some (.inl (mdA P R n f v w k).1) ∧ FmO 31 [43, 50, 51, 52, 62] [36, 56, 57, 58, 59, 60, 61, 68] A A' ∧ FmJ [49] B B' ∧ RMG A' P ∧ A' 31 0 68 = nI (mdA P R n f v w k).2) := by
  have tn := ti n (by omega)
  refine MV_of caX12_mend (L := [some (.inr (.inr (some (31, 0)))), some (.inl f), some (.inl v), some (.inl w), some (.inl k), none, none, none, none, none, none, none, none, none, none]) rfl rfl ?_
  unfold mdA
  have hin : MS 0 3 mtX12_in [.inr (.inl k.toInt64), .inr (.inl 0), .inr (.inl 2)] (hp A B) (Ret (some (.inl (bI (decide (0 ≤ k.toInt ∧ k.toInt ≤ 2))))) (hp A B)) := by
    by_cases h : 0 ≤ k.toInt ∧ k.toInt ≤ 2
    · rw [decide_eq_true h]; exact m_inT k 0 2 (by simp only [Int64.reduceToInt]; exact h) _ _
    · rw [decide_eq_false h]; exact m_inF k 0 2 (by simp only [Int64.reduceToInt]; exact h) _ _
  refine R_go 9999 rfl rfl trivial ?_
  refine R_csr rfl hin rfl rfl rfl (Nat.le_of_ble_eq_true rfl) rfl ?_
  refine R_cv rfl (m_gapRefusal hP f v w (decide (0 ≤ k.toInt ∧ k.toInt ≤ 2)) hG hR) rfl rfl rfl rfl rfl (Nat.le_of_ble_eq_true rfl) rfl ?_
  rintro z h' ⟨A1, B1, rfl, rfl, hF1, hJ1, hT⟩
  have hF1' : FmO 31 [43, 50, 51, 52, 62] [36, 56, 57, 58, 59, 60, 61, 68] A A1 := FmO_w hF1 (by decide) (by decide)
  have hG1 := RMG_fr hG hF1 (by decide) (by decide)
  have e68 : A1 31 0 68 = nI n := by rw [hF1.2 68 (by decide)]; exact h68
  rcases rfA_c P R f v w (decide (0 ≤ k.toInt ∧ k.toInt ≤ 2)) with h | h | h | ⟨h, hgd, hPe, a, b, c, ha, hb, hcc, hne, rfl, rfl, rfl, h1, h2⟩
  · rw [h, if_pos (by decide)]
    repeat' (first
        | (refine R_br rfl rfl (fun hbr => absurd hbr (by first | decide | (with_reducible assumption))) (fun _ => ?_))
        | (refine R_br rfl rfl (fun _ => ?_) (fun hbr => absurd (by first | decide | (with_reducible assumption)) hbr))
        | (refine R_br rfl rfl (fun _ => ?_) (fun _ => ?_))
        | (refine R_ri rfl rfl ?_)
        | (refine R_rz rfl rfl (Or.inl rfl) ?_)
        | (refine R_rz rfl rfl (Or.inr rfl) ?_)
        | (refine R_rz rfl rfl (b2_01 _) ?_)
        | (refine R_rl rfl rfl ?_)
        | (refine R_rv rfl rfl ?_)
        | (refine R_sw _ rfl rfl rfl ?_)
        | (refine R_go 9999 rfl rfl trivial ?_)
        | (refine R_go 9999 rfl rfl (by first | (show _ ∨ _; decide) | (show (_ ∨ _) ∧ (_ ∨ _); decide) | (show (_ ∨ _) ∧ (_ ∨ _) ∧ (_ ∨ _); decide)) ?_)
        | (refine R_go 9999 rfl rfl ?_ ?_))
    exact ⟨A1, B1, rfl, rfl, hF1', hJ1, hG1, e68⟩
  · rw [h, if_pos (by decide)]
    repeat' (first
        | (refine R_br rfl rfl (fun hbr => absurd hbr (by first | decide | (with_reducible assumption))) (fun _ => ?_))
        | (refine R_br rfl rfl (fun _ => ?_) (fun hbr => absurd (by first | decide | (with_reducible assumption)) hbr))
        | (refine R_br rfl rfl (fun _ => ?_) (fun _ => ?_))
        | (refine R_ri rfl rfl ?_)
        | (refine R_rz rfl rfl (Or.inl rfl) ?_)
        | (refine R_rz rfl rfl (Or.inr rfl) ?_)
        | (refine R_rz rfl rfl (b2_01 _) ?_)
        | (refine R_rl rfl rfl ?_)
        | (refine R_rv rfl rfl ?_)
        | (refine R_sw _ rfl rfl rfl ?_)
        | (refine R_go 9999 rfl rfl trivial ?_)
        | (refine R_go 9999 rfl rfl (by first | (show _ ∨ _; decide) | (show (_ ∨ _) ∧ (_ ∨ _); decide) | (show (_ ∨ _) ∧ (_ ∨ _) ∧ (_ ∨ _); decide)) ?_)
        | (refine R_go 9999 rfl rfl ?_ ?_))
    exact ⟨A1, B1, rfl, rfl, hF1', hJ1, hG1, e68⟩
  · rw [h, if_pos (by decide)]
    repeat' (first
        | (refine R_br rfl rfl (fun hbr => absurd hbr (by first | decide | (with_reducible assumption))) (fun _ => ?_))
        | (refine R_br rfl rfl (fun _ => ?_) (fun hbr => absurd (by first | decide | (with_reducible assumption)) hbr))
        | (refine R_br rfl rfl (fun _ => ?_) (fun _ => ?_))
        | (refine R_ri rfl rfl ?_)
        | (refine R_rz rfl rfl (Or.inl rfl) ?_)
        | (refine R_rz rfl rfl (Or.inr rfl) ?_)
        | (refine R_rz rfl rfl (b2_01 _) ?_)
        | (refine R_rl rfl rfl ?_)
        | (refine R_rv rfl rfl ?_)
        | (refine R_sw _ rfl rfl rfl ?_)
        | (refine R_go 9999 rfl rfl trivial ?_)
        | (refine R_go 9999 rfl rfl (by first | (show _ ∨ _; decide) | (show (_ ∨ _) ∧ (_ ∨ _); decide) | (show (_ ∨ _) ∧ (_ ∨ _) ∧ (_ ∨ _); decide)) ?_)
        | (refine R_go 9999 rfl rfl ?_ ?_))
    exact ⟨A1, B1, rfl, rfl, hF1', hJ1, hG1, e68⟩
  · rw [h, if_neg (by simp)]
    rw [nI_clamp (show a < 2 ^ 31 by omega), nI_clamp (show b < 2 ^ 31 by omega), nI_clamp (show c < 2 ^ 31 by omega)]
    refine R_go 9999 rfl rfl trivial ?_
    refine R_br rfl rfl (fun _ => ?_) (fun h => absurd rfl h)
    refine R_go 9999 rfl rfl trivial ?_
    try dsimp only [fgt, fpt]
    rw [e68]
    by_cases h20 : 20 ≤ n
    · rw [if_pos h20]
      refine R_br rfl rfl (fun _ => ?_) (fun h => absurd (by rw [show n = 20 by omega]; rfl) h)
      repeat' (first
          | (refine R_br rfl rfl (fun hbr => absurd hbr (by first | decide | (with_reducible assumption))) (fun _ => ?_))
          | (refine R_br rfl rfl (fun _ => ?_) (fun hbr => absurd (by first | decide | (with_reducible assumption)) hbr))
          | (refine R_br rfl rfl (fun _ => ?_) (fun _ => ?_))
          | (refine R_ri rfl rfl ?_)
          | (refine R_rz rfl rfl (Or.inl rfl) ?_)
          | (refine R_rz rfl rfl (Or.inr rfl) ?_)
          | (refine R_rz rfl rfl (b2_01 _) ?_)
          | (refine R_rl rfl rfl ?_)
          | (refine R_rv rfl rfl ?_)
          | (refine R_sw _ rfl rfl rfl ?_)
          | (refine R_go 9999 rfl rfl trivial ?_)
          | (refine R_go 9999 rfl rfl (by first | (show _ ∨ _; decide) | (show (_ ∨ _) ∧ (_ ∨ _); decide) | (show (_ ∨ _) ∧ (_ ∨ _) ∧ (_ ∨ _); decide)) ?_)
          | (refine R_go 9999 rfl rfl ?_ ?_))
      exact ⟨A1, B1, rfl, rfl, hF1', hJ1, hG1, e68⟩
    · rw [if_neg h20]
      refine R_br rfl rfl (fun h => absurd (nI_ij (b := 20) (by omega) (by omega) h) (by omega)) (fun _ => ?_)
      refine R_go 9999 rfl rfl trivial ?_
      try dsimp only [fgt, fpt]
      rw [e68, nI_1]
      generalize hA2 : up3 A1 31 0 68 (nI (n + 1)) = A2
      have hF2 : FmO 31 [43, 50, 51, 52, 62] [36, 56, 57, 58, 59, 60, 61, 68] A A2 := FmO_tr hF1' (by rw [← hA2]; exact (by first | exact FmO_rf | (repeat' (first | exact FmO_rf | (with_reducible assumption) | (refine FmO_up ?_ (by decide)) | (refine FmO_ug ?_ (by decide) (by decide))))))
      have f68 : A2 31 0 68 = nI (n + 1) := by rw [← hA2]; exact up3_self
      have hG2 : RMG A2 P := RMG_fr (gs := []) (ss := [68]) hG1 (by rw [← hA2]; exact (by first | exact FmO_rf | (repeat' (first | exact FmO_rf | (with_reducible assumption) | (refine FmO_up ?_ (by decide)) | (refine FmO_ug ?_ (by decide) (by decide)))))) (by decide) (by decide)
      have hR2 : RMR A2 R := RMR_fr hR hF2 (by decide) (by decide)
      clear hA2
      have hPo := okG_ne hP hPe
      refine R_cv rfl (m_isNought (B := B1) hPo a b c ha hb hcc hG2 hR2) rfl rfl rfl rfl rfl (Nat.le_of_ble_eq_true rfl) rfl ?_
      rintro z h' ⟨A3, B3, rfl, rfl, hF3, hJ3⟩
      have hF03 : FmO 31 [43, 50, 51, 52, 62] [36, 56, 57, 58, 59, 60, 61, 68] A A3 := FmO_tr hF2 (FmO_w hF3 (by decide) (by decide))
      have g68 : A3 31 0 68 = nI (n + 1) := by rw [hF3.2 68 (by decide)]; exact f68
      have hG3 := RMG_fr hG2 hF3 (by decide) (by decide)
      have hJ03 := FmJ_tr hJ1 hJ3
      have kw : k = 0 ∨ k ≠ 0 := Classical.em _
      rcases Classical.em (evN P R a b c) with he | he
      · rw [b2_1 he, mdF_y he]
        refine R_br rfl rfl (fun h => absurd h (by decide)) (fun _ => ?_)
        refine R_go 9999 rfl rfl trivial ?_
        rcases kw with k0 | k0
        · rw [if_pos k0]
          refine R_br rfl rfl (fun _ => ?_) (fun h => absurd k0 h)
          repeat' (first
              | (refine R_br rfl rfl (fun hbr => absurd hbr (by first | decide | (with_reducible assumption))) (fun _ => ?_))
              | (refine R_br rfl rfl (fun _ => ?_) (fun hbr => absurd (by first | decide | (with_reducible assumption)) hbr))
              | (refine R_br rfl rfl (fun _ => ?_) (fun _ => ?_))
              | (refine R_ri rfl rfl ?_)
              | (refine R_rz rfl rfl (Or.inl rfl) ?_)
              | (refine R_rz rfl rfl (Or.inr rfl) ?_)
              | (refine R_rz rfl rfl (b2_01 _) ?_)
              | (refine R_rl rfl rfl ?_)
              | (refine R_rv rfl rfl ?_)
              | (refine R_sw _ rfl rfl rfl ?_)
              | (refine R_go 9999 rfl rfl trivial ?_)
              | (refine R_go 9999 rfl rfl (by first | (show _ ∨ _; decide) | (show (_ ∨ _) ∧ (_ ∨ _); decide) | (show (_ ∨ _) ∧ (_ ∨ _) ∧ (_ ∨ _); decide)) ?_)
              | (refine R_go 9999 rfl rfl ?_ ?_))
          exact ⟨A3, B3, rfl, rfl, hF03, hJ03, hG3, g68⟩
        · rw [if_neg k0]
          have e01 : (if k = 1 then ((-1, 0, 0) : Int32 × Int32 × Int32).2.1 else ((-1, 0, 0) : Int32 × Int32 × Int32).2.2) = 0 := ite_self 0
          rw [e01]
          refine R_br rfl rfl (fun h => absurd h k0) (fun _ => ?_)
          repeat' (first
              | (refine R_br rfl rfl (fun hbr => absurd hbr (by first | decide | (with_reducible assumption))) (fun _ => ?_))
              | (refine R_br rfl rfl (fun _ => ?_) (fun hbr => absurd (by first | decide | (with_reducible assumption)) hbr))
              | (refine R_br rfl rfl (fun _ => ?_) (fun _ => ?_))
              | (refine R_ri rfl rfl ?_)
              | (refine R_rz rfl rfl (Or.inl rfl) ?_)
              | (refine R_rz rfl rfl (Or.inr rfl) ?_)
              | (refine R_rz rfl rfl (b2_01 _) ?_)
              | (refine R_rl rfl rfl ?_)
              | (refine R_rv rfl rfl ?_)
              | (refine R_sw _ rfl rfl rfl ?_)
              | (refine R_go 9999 rfl rfl trivial ?_)
              | (refine R_go 9999 rfl rfl (by first | (show _ ∨ _; decide) | (show (_ ∨ _) ∧ (_ ∨ _); decide) | (show (_ ∨ _) ∧ (_ ∨ _) ∧ (_ ∨ _); decide)) ?_)
              | (refine R_go 9999 rfl rfl ?_ ?_))
          exact ⟨A3, B3, rfl, rfl, hF03, hJ03, hG3, g68⟩
      · have hmd := md_eq (ev := evX P R a b c) (was := wasN P) (n := (nms (flP P)).length) (fun i hi => okP_99 hPo _ (gd_in hi))
        rw [b2_0 he, mdF_t he, hmd]
        refine R_br rfl rfl (fun _ => ?_) (fun h => absurd rfl h)
        refine R_go 9999 rfl rfl trivial ?_
        refine R_cvr rfl (m_numberMany hP hG3) rfl rfl rfl rfl rfl (Nat.le_of_ble_eq_true rfl) rfl ?_
        refine R_go 88 rfl rfl trivial ?_
        have hR3 : RMR A3 R := RMR_fr hR hF03 (by decide) (by decide)
        refine l_me2 (A0 := A3) (B0 := B3) hPo ha hb hcc hR3 (fun A4 B4 x y z o11 o12 o13 o14 hF4 hJ4 hM4 hT4 => ?_) (nms (flP P)).length 0 A3 B3 (-1) (-1) (-1) (by omega) FmO_rf FmJ_rf hG3 ⟨fun _ => ⟨rfl, rfl, rfl⟩, fun z hz => by cases hz⟩ none none none none
        have hF04 : FmO 31 [43, 50, 51, 52, 62] [36, 56, 57, 58, 59, 60, 61, 68] A A4 := FmO_tr hF03 (FmO_w hF4 (by decide) (by decide))
        have k68 : A4 31 0 68 = nI (n + 1) := by rw [hF4.2 68 (by decide)]; exact g68
        have hx : x = (t3V (rfM (evX P R a b c) (wasN P) (nms (flP P)).length)).1 ∧ y = (t3V (rfM (evX P R a b c) (wasN P) (nms (flP P)).length)).2.1 ∧ z = (t3V (rfM (evX P R a b c) (wasN P) (nms (flP P)).length)).2.2 := by
          cases hrf : rfM (evX P R a b c) (wasN P) (nms (flP P)).length with
          | none => exact hT4.1 hrf
          | some t => exact ⟨(hT4.2 t hrf).1, (hT4.2 t hrf).2.1, (hT4.2 t hrf).2.2.1⟩
        rw [← hx.1, ← hx.2.1, ← hx.2.2]
        refine R_go 9999 rfl rfl trivial ?_
        rcases kw with k0 | k0
        · rw [if_pos k0]
          refine R_br rfl rfl (fun _ => ?_) (fun h => absurd k0 h)
          repeat' (first
              | (refine R_br rfl rfl (fun hbr => absurd hbr (by first | decide | (with_reducible assumption))) (fun _ => ?_))
              | (refine R_br rfl rfl (fun _ => ?_) (fun hbr => absurd (by first | decide | (with_reducible assumption)) hbr))
              | (refine R_br rfl rfl (fun _ => ?_) (fun _ => ?_))
              | (refine R_ri rfl rfl ?_)
              | (refine R_rz rfl rfl (Or.inl rfl) ?_)
              | (refine R_rz rfl rfl (Or.inr rfl) ?_)
              | (refine R_rz rfl rfl (b2_01 _) ?_)
              | (refine R_rl rfl rfl ?_)
              | (refine R_rv rfl rfl ?_)
              | (refine R_sw _ rfl rfl rfl ?_)
              | (refine R_go 9999 rfl rfl trivial ?_)
              | (refine R_go 9999 rfl rfl (by first | (show _ ∨ _; decide) | (show (_ ∨ _) ∧ (_ ∨ _); decide) | (show (_ ∨ _) ∧ (_ ∨ _) ∧ (_ ∨ _); decide)) ?_)
              | (refine R_go 9999 rfl rfl ?_ ?_))
          exact ⟨A4, B4, rfl, rfl, hF04, FmJ_tr hJ03 hJ4, hM4, k68⟩
        · rw [if_neg k0]
          refine R_br rfl rfl (fun h => absurd h k0) (fun _ => ?_)
          refine R_go 9999 rfl rfl trivial ?_
          by_cases k1 : k = 1
          · rw [if_pos k1]
            refine R_br rfl rfl (fun _ => ?_) (fun h => absurd k1 h)
            repeat' (first
                | (refine R_br rfl rfl (fun hbr => absurd hbr (by first | decide | (with_reducible assumption))) (fun _ => ?_))
                | (refine R_br rfl rfl (fun _ => ?_) (fun hbr => absurd (by first | decide | (with_reducible assumption)) hbr))
                | (refine R_br rfl rfl (fun _ => ?_) (fun _ => ?_))
                | (refine R_ri rfl rfl ?_)
                | (refine R_rz rfl rfl (Or.inl rfl) ?_)
                | (refine R_rz rfl rfl (Or.inr rfl) ?_)
                | (refine R_rz rfl rfl (b2_01 _) ?_)
                | (refine R_rl rfl rfl ?_)
                | (refine R_rv rfl rfl ?_)
                | (refine R_sw _ rfl rfl rfl ?_)
                | (refine R_go 9999 rfl rfl trivial ?_)
                | (refine R_go 9999 rfl rfl (by first | (show _ ∨ _; decide) | (show (_ ∨ _) ∧ (_ ∨ _); decide) | (show (_ ∨ _) ∧ (_ ∨ _) ∧ (_ ∨ _); decide)) ?_)
                | (refine R_go 9999 rfl rfl ?_ ?_))
            exact ⟨A4, B4, rfl, rfl, hF04, FmJ_tr hJ03 hJ4, hM4, k68⟩
          · rw [if_neg k1]
            refine R_br rfl rfl (fun h => absurd h k1) (fun _ => ?_)
            repeat' (first
                | (refine R_br rfl rfl (fun hbr => absurd hbr (by first | decide | (with_reducible assumption))) (fun _ => ?_))
                | (refine R_br rfl rfl (fun _ => ?_) (fun hbr => absurd (by first | decide | (with_reducible assumption)) hbr))
                | (refine R_br rfl rfl (fun _ => ?_) (fun _ => ?_))
                | (refine R_ri rfl rfl ?_)
                | (refine R_rz rfl rfl (Or.inl rfl) ?_)
                | (refine R_rz rfl rfl (Or.inr rfl) ?_)
                | (refine R_rz rfl rfl (b2_01 _) ?_)
                | (refine R_rl rfl rfl ?_)
                | (refine R_rv rfl rfl ?_)
                | (refine R_sw _ rfl rfl rfl ?_)
                | (refine R_go 9999 rfl rfl trivial ?_)
                | (refine R_go 9999 rfl rfl (by first | (show _ ∨ _; decide) | (show (_ ∨ _) ∧ (_ ∨ _); decide) | (show (_ ∨ _) ∧ (_ ∨ _) ∧ (_ ∨ _); decide)) ?_)
                | (refine R_go 9999 rfl rfl ?_ ?_))
            exact ⟨A4, B4, rfl, rfl, hF04, FmJ_tr hJ03 hJ4, hM4, k68⟩
