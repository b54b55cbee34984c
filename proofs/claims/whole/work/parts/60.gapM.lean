abbrev FmZ (A A' : FI) : Prop := FmO 31 [50, 51, 52, 62] [36, 56, 57, 58, 59, 60, 61] A A'
/-- two groups, counted -/
def TGp (A : FI) (P : List (List Tk × Nat)) (R : List Rw) (f v w : Nat) : Prop := A 31 0 58 = nI (mA P R f v) ∧ A 31 0 59 = nI (mL P R f v) ∧ A 31 0 60 = nI (mA P R f w) ∧ A 31 0 61 = nI (mL P R f w) ∧ RME A P R
theorem m_takeGroups {P : List (List Tk × Nat)} {R : List Rw} (hP : okP P) (f v w : Nat) (hf : f < 8) (hv : v ≤ 20) (hw : w ≤ 20) {A : FI} {B : FJ} (hG : RMG A P) (hR : RMR A R) : MV 4 3 mtX12_takeGroups [.inr (.inr (some (31, 0))), .inl (nI f), .inl (nI v), .inl (nI w)] (hp A B) (fun r h' => ∃ A' B', r = none ∧ h' = hp A' B' ∧ FmZ A A' ∧ FmJ [49] B B' ∧ TGp A' P R f v w) := by
  refine MV_of caX12_takeGroups (L := [some (.inr (.inr (some (31, 0)))), some (.inl (nI f)), some (.inl (nI v)), some (.inl (nI w))]) rfl rfl ?_
  refine R_go 9999 rfl rfl trivial ?_
  refine R_cv rfl (m_runAllM hP hG hR) rfl rfl rfl rfl rfl (Nat.le_of_ble_eq_true rfl) rfl ?_
  rintro z h' ⟨A1, B1, rfl, rfl, hF1, hJ1, hE1⟩
  have hR1 := RMR_fr hR hF1 (by decide) (by decide)
  refine R_go 9999 rfl rfl trivial ?_
  refine R_cv rfl (m_countGroup hP f v v true hf hv hv hR1 hE1) rfl rfl rfl rfl rfl (Nat.le_of_ble_eq_true rfl) rfl ?_
  rintro z h' ⟨A2, rfl, rfl, hF2, e1, e2⟩
  rw [gcM_mb (P := P) hv] at e1
  rw [gcL_mb hv] at e2
  have hF3 : FmO 31 [] [56, 57, 58, 59] A1 (up3 (up3 A2 31 0 58 (nI (mbN P R f v 0 R.length))) 31 0 59 (nI (mbN P R f v 1 R.length))) := FmO_up (FmO_up (FmO_w hF2 (by decide) (by decide)) (by decide)) (by decide)
  refine R_go 9999 rfl rfl trivial ?_
  rw [e1, up3_s (show 57 ≠ 58 by decide), e2]
  have hR3 := RMR_fr hR1 hF3 (by decide) (by decide)
  have hE3 : RME (up3 (up3 A2 31 0 58 (nI (mbN P R f v 0 R.length))) 31 0 59 (nI (mbN P R f v 1 R.length))) P R := fun i hi => by rw [hF3.1 62 (by decide) (by simp)]; exact hE1 i hi
  refine R_cv rfl (m_countGroup hP f w w true hf hw hw hR3 hE3) rfl rfl rfl rfl rfl (Nat.le_of_ble_eq_true rfl) rfl ?_
  rintro z h' ⟨A4, rfl, rfl, hF4, e3, e4⟩
  rw [gcM_mb (P := P) hw] at e3
  rw [gcL_mb hw] at e4
  repeat' (first
      | (refine R_br rfl rfl (fun hbr => absurd hbr (by first | decide | (with_reducible assumption))) (fun _ => ?_))
      | (refine R_br rfl rfl (fun _ => ?_) (fun hbr => absurd (by first | decide | (with_reducible assumption)) hbr))
      | (refine R_br rfl rfl (fun _ => ?_) (fun _ => ?_))
      | (refine R_ri rfl rfl ?_)
      | (refine R_rz rfl rfl (Or.inl rfl) ?_)
      | (refine R_rz rfl rfl (Or.inr rfl) ?_)
      | (refine R_rz rfl rfl (b2_01 _) ?_)
      | (refine R_rl rfl rfl ?_)
      | (refine R_rv rfl rfl ?_)
      | (refine R_sw _ rfl rfl rfl ?_)
      | (refine R_go 9999 rfl rfl trivial ?_)
      | (refine R_go 9999 rfl rfl (by first | (show _ ∨ _; decide) | (show (_ ∨ _) ∧ (_ ∨ _); decide) | (show (_ ∨ _) ∧ (_ ∨ _) ∧ (_ ∨ _); decide)) ?_)
      | (refine R_go 9999 rfl rfl ?_ ?_))
  try dsimp only [fgt, fpt]
  rw [e3, up3_s (show 57 ≠ 60 by decide), e4]
  refine ⟨_, B1, rfl, rfl, FmO_up (FmO_up (FmO_tr (FmO_w hF1 (by decide) (by decide)) (FmO_tr (FmO_w hF3 (by decide) (by decide)) (FmO_w hF4 (by decide) (by decide)))) (by decide)) (by decide), hJ1, ?_, ?_, ?_, up3_self, fun i hi => ?_⟩
  · rw [up3_s (by decide), up3_s (by decide), hF4.2 58 (by decide), up3_s (by decide), up3_self]; rfl
  · rw [up3_s (by decide), up3_s (by decide), hF4.2 59 (by decide), up3_self]; rfl
  · rw [up3_s (by decide), up3_self]; rfl
  · rw [up3_g (by decide), up3_g (by decide), hF4.1 62 (by decide) (by simp)]; exact hE3 i hi
theorem abs_nI2 {x y : Nat} (hx : x < 2 ^ 30) (hy : y < 2 ^ 30) (h : x < y) : -(nI x - nI y) = nI ((x - y) + (y - x)) := by
  have := abs_nI hx hy
  have e : (nI x - nI y).toInt = (x : Int) - y := by
    rw [Int32.toInt_sub, ti x (by omega), ti y (by omega)]
    exact Int.bmod_eq_of_le (by omega) (by omega)
  rw [if_neg (by rw [i_le, e]; simp only [Int32.reduceToInt]; omega)] at this
  rw [← this, Int32.zero_sub]
theorem m_gapOf (a b c d : Nat) (h1 : a * d ≤ 1000) (h2 : c * b ≤ 1000) (A : FI) (B : FJ) : MS 0 4 mtX12_gapOf [.inl (nI a), .inl (nI b), .inl (nI c), .inl (nI d)] (hp A B) (Ret (some (.inl (nI (gpN a b c d)))) (hp A B)) := by
  refine MS_of caX12_gapOf (L := [some (.inl (nI a)), some (.inl (nI b)), some (.inl (nI c)), some (.inl (nI d)), none]) rfl rfl ?_
  refine R_go 9999 rfl rfl trivial ?_
  rw [pk_mul, pk_mul]
  have e : (nI (a * d) - nI (c * b)).toInt = ((a * d : Nat) : Int) - ((c * b : Nat) : Int) := by
    rw [Int32.toInt_sub, ti _ (by omega), ti _ (by omega)]
    exact Int.bmod_eq_of_le (by omega) (by omega)
  unfold gpN
  by_cases h : c * b ≤ a * d
  · have n1 : (0 : Int32) ≤ nI (a * d) - nI (c * b) := by rw [i_le, e]; simp only [Int32.reduceToInt]; omega
    repeat' (first
        | (refine R_br rfl rfl (fun hbr => absurd hbr (by first | decide | (with_reducible assumption))) (fun _ => ?_))
        | (refine R_br rfl rfl (fun _ => ?_) (fun hbr => absurd (by first | decide | (with_reducible assumption)) hbr))
        | (refine R_br rfl rfl (fun _ => ?_) (fun _ => ?_))
        | (refine R_ri rfl rfl ?_)
        | (refine R_rz rfl rfl (Or.inl rfl) ?_)
        | (refine R_rz rfl rfl (Or.inr rfl) ?_)
        | (refine R_rz rfl rfl (b2_01 _) ?_)
        | (refine R_rl rfl rfl ?_)
        | (refine R_rv rfl rfl ?_)
        | (refine R_sw _ rfl rfl rfl ?_)
        | (refine R_go 9999 rfl rfl trivial ?_)
        | (refine R_go 9999 rfl rfl (by first | (show _ ∨ _; decide) | (show (_ ∨ _) ∧ (_ ∨ _); decide) | (show (_ ∨ _) ∧ (_ ∨ _) ∧ (_ ∨ _); decide)) ?_)
        | (refine R_go 9999 rfl rfl ?_ ?_))
    refine ret_i ?_ rfl
    rw [nI_sub h]; congr 1; omega
  · have n1 : ¬ (0 : Int32) ≤ nI (a * d) - nI (c * b) := by rw [i_le, e]; simp only [Int32.reduceToInt]; omega
    repeat' (first
        | (refine R_br rfl rfl (fun hbr => absurd hbr (by first | decide | (with_reducible assumption))) (fun _ => ?_))
        | (refine R_br rfl rfl (fun _ => ?_) (fun hbr => absurd (by first | decide | (with_reducible assumption)) hbr))
        | (refine R_br rfl rfl (fun _ => ?_) (fun _ => ?_))
        | (refine R_ri rfl rfl ?_)
        | (refine R_rz rfl rfl (Or.inl rfl) ?_)
        | (refine R_rz rfl rfl (Or.inr rfl) ?_)
        | (refine R_rz rfl rfl (b2_01 _) ?_)
        | (refine R_rl rfl rfl ?_)
        | (refine R_rv rfl rfl ?_)
        | (refine R_sw _ rfl rfl rfl ?_)
        | (refine R_go 9999 rfl rfl trivial ?_)
        | (refine R_go 9999 rfl rfl (by first | (show _ ∨ _; decide) | (show (_ ∨ _) ∧ (_ ∨ _); decide) | (show (_ ∨ _) ∧ (_ ∨ _) ∧ (_ ∨ _); decide)) ?_)
        | (refine R_go 9999 rfl rfl ?_ ?_))
    exact ret_i (abs_nI2 (by omega) (by omega) (by omega)) rfl
theorem m_isNumberT (v : Int32) (h : 0 ≤ v.toInt ∧ v.toInt ≤ 20) (A : FI) (B : FJ) : MS 1 1 mtX12_isNumber [.inl v] (hp A B) (Ret (some (.inl 1)) (hp A B)) := by
  refine MS_of caX12_isNumber (L := [some (.inl v)]) rfl rfl ?_
  repeat' (first
      | (refine R_br rfl rfl (fun hbr => absurd hbr (by first | decide | (with_reducible assumption))) (fun _ => ?_))
      | (refine R_br rfl rfl (fun _ => ?_) (fun hbr => absurd (by first | decide | (with_reducible assumption)) hbr))
      | (refine R_br rfl rfl (fun _ => ?_) (fun _ => ?_))
      | (refine R_ri rfl rfl ?_)
      | (refine R_rz rfl rfl (Or.inl rfl) ?_)
      | (refine R_rz rfl rfl (Or.inr rfl) ?_)
      | (refine R_rz rfl rfl (b2_01 _) ?_)
      | (refine R_rl rfl rfl ?_)
      | (refine R_rv rfl rfl ?_)
      | (refine R_csr rfl (m_inT v 0 20 (by simp only [Int64.reduceToInt]; exact h) _ _) rfl rfl rfl (Nat.le_of_ble_eq_true rfl) rfl ?_)
      | (refine R_sw _ rfl rfl rfl ?_)
      | (refine R_go 9999 rfl rfl trivial ?_)
      | (refine R_go 9999 rfl rfl (by first | (show _ ∨ _; decide) | (show (_ ∨ _) ∧ (_ ∨ _); decide) | (show (_ ∨ _) ∧ (_ ∨ _) ∧ (_ ∨ _); decide)) ?_)
      | (refine R_go 9999 rfl rfl ?_ ?_))
  exact ret_i rfl rfl
theorem m_isNumberF (v : Int32) (h : ¬ (0 ≤ v.toInt ∧ v.toInt ≤ 20)) (A : FI) (B : FJ) : MS 1 1 mtX12_isNumber [.inl v] (hp A B) (Ret (some (.inl 0)) (hp A B)) := by
  refine MS_of caX12_isNumber (L := [some (.inl v)]) rfl rfl ?_
  repeat' (first
      | (refine R_br rfl rfl (fun hbr => absurd hbr (by first | decide | (with_reducible assumption))) (fun _ => ?_))
      | (refine R_br rfl rfl (fun _ => ?_) (fun hbr => absurd (by first | decide | (with_reducible assumption)) hbr))
      | (refine R_br rfl rfl (fun _ => ?_) (fun _ => ?_))
      | (refine R_ri rfl rfl ?_)
      | (refine R_rz rfl rfl (Or.inl rfl) ?_)
      | (refine R_rz rfl rfl (Or.inr rfl) ?_)
      | (refine R_rz rfl rfl (b2_01 _) ?_)
      | (refine R_rl rfl rfl ?_)
      | (refine R_rv rfl rfl ?_)
      | (refine R_csr rfl (m_inF v 0 20 (by simp only [Int64.reduceToInt]; exact h) _ _) rfl rfl rfl (Nat.le_of_ble_eq_true rfl) rfl ?_)
      | (refine R_sw _ rfl rfl rfl ?_)
      | (refine R_go 9999 rfl rfl trivial ?_)
      | (refine R_go 9999 rfl rfl (by first | (show _ ∨ _; decide) | (show (_ ∨ _) ∧ (_ ∨ _); decide) | (show (_ ∨ _) ∧ (_ ∨ _) ∧ (_ ∨ _); decide)) ?_)
      | (refine R_go 9999 rfl rfl ?_ ?_))
  exact ret_i rfl rfl
theorem m_gapRefusal {P : List (List Tk × Nat)} {R : List Rw} (hP : okG P) (f v w : Int32) (gd : Bool) {A : FI} {B : FJ} (hG : RMG A P) (hR : RMR A R) : MV 5 4 mtX12_gapRefusal [.inr (.inr (some (31, 0))), .inl f, .inl v, .inl w, .inl (bI gd)] (hp A B) (fun r h' => ∃ A' B', h' = hp A' B' ∧ r = some (.inl (rfA P R f v w gd)) ∧ FmZ A A' ∧ FmJ [49] B B' ∧ (rfA P R f v w gd = 0 → TGp A' P R f.toNatClampNeg v.toNatClampNeg w.toNatClampNeg)) := by
  have h24 := hR.2.1
  refine MV_of caX12_gapRefusal (L := [some (.inr (.inr (some (31, 0)))), some (.inl f), some (.inl v), some (.inl w), some (.inl (bI gd))]) rfl rfl ?_
  unfold rfA
  have hbad : ∀ x : Int32, x ≠ 0 → ∃ A' B', hp A B = hp A' B' ∧ (some (.inl x) : Option AV) = some (.inl x) ∧ FmZ A A' ∧ FmJ [49] B B' ∧ (x = 0 → TGp A' P R f.toNatClampNeg v.toNatClampNeg w.toNatClampNeg) := fun x hx => ⟨A, B, rfl, rfl, FmO_rf, FmJ_rf, fun z => absurd z hx⟩
  by_cases h1 : 0 ≤ f.toInt ∧ f.toInt < 8
  · rw [if_pos h1]
    obtain ⟨a, ha, rfl⟩ := vp_in_of (x := f) (n := 8) (vp_of h1.1 (by omega)) (by decide)
    refine R_go 9999 rfl rfl trivial ?_
    refine R_csr rfl (m_isFieldMT a ha _ _) rfl rfl rfl (Nat.le_of_ble_eq_true rfl) rfl ?_
    refine R_br rfl rfl (fun h => absurd h (by decide)) (fun _ => ?_)
    refine R_go 9999 rfl rfl trivial ?_
    by_cases hv : 0 ≤ v.toInt ∧ v.toInt ≤ 20
    · refine R_csr rfl (m_isNumberT v hv _ _) rfl rfl rfl (Nat.le_of_ble_eq_true rfl) rfl ?_
      refine R_br rfl rfl (fun h => absurd h (by decide)) (fun _ => ?_)
      refine R_go 9999 rfl rfl trivial ?_
      by_cases hw : 0 ≤ w.toInt ∧ w.toInt ≤ 20
      · refine R_csr rfl (m_isNumberT w hw _ _) rfl rfl rfl (Nat.le_of_ble_eq_true rfl) rfl ?_
        refine R_br rfl rfl (fun h => absurd h (by decide)) (fun _ => ?_)
        refine R_go 9999 rfl rfl trivial ?_
        by_cases hne : v = w
        · refine R_br rfl rfl (fun _ => ?_) (fun h => absurd hne h)
          rw [if_neg (fun z => z.1.2.2.2.2 hne)]
          repeat' (first
              | (refine R_br rfl rfl (fun hbr => absurd hbr (by first | decide | (with_reducible assumption))) (fun _ => ?_))
              | (refine R_br rfl rfl (fun _ => ?_) (fun hbr => absurd (by first | decide | (with_reducible assumption)) hbr))
              | (refine R_br rfl rfl (fun _ => ?_) (fun _ => ?_))
              | (refine R_ri rfl rfl ?_)
              | (refine R_rz rfl rfl (Or.inl rfl) ?_)
              | (refine R_rz rfl rfl (Or.inr rfl) ?_)
              | (refine R_rz rfl rfl (b2_01 _) ?_)
              | (refine R_rl rfl rfl ?_)
              | (refine R_rv rfl rfl ?_)
              | (refine R_sw _ rfl rfl rfl ?_)
              | (refine R_go 9999 rfl rfl trivial ?_)
              | (refine R_go 9999 rfl rfl (by first | (show _ ∨ _; decide) | (show (_ ∨ _) ∧ (_ ∨ _); decide) | (show (_ ∨ _) ∧ (_ ∨ _) ∧ (_ ∨ _); decide)) ?_)
              | (refine R_go 9999 rfl rfl ?_ ?_))
          exact hbad _ (by decide)
        · refine R_br rfl rfl (fun h => absurd h hne) (fun _ => ?_)
          refine R_go 9999 rfl rfl trivial ?_
          cases gd with
          | false =>
            refine R_br rfl rfl (fun _ => ?_) (fun h => absurd rfl h)
            rw [if_neg (by simp)]
            repeat' (first
                | (refine R_br rfl rfl (fun hbr => absurd hbr (by first | decide | (with_reducible assumption))) (fun _ => ?_))
                | (refine R_br rfl rfl (fun _ => ?_) (fun hbr => absurd (by first | decide | (with_reducible assumption)) hbr))
                | (refine R_br rfl rfl (fun _ => ?_) (fun _ => ?_))
                | (refine R_ri rfl rfl ?_)
                | (refine R_rz rfl rfl (Or.inl rfl) ?_)
                | (refine R_rz rfl rfl (Or.inr rfl) ?_)
                | (refine R_rz rfl rfl (b2_01 _) ?_)
                | (refine R_rl rfl rfl ?_)
                | (refine R_rv rfl rfl ?_)
                | (refine R_sw _ rfl rfl rfl ?_)
                | (refine R_go 9999 rfl rfl trivial ?_)
                | (refine R_go 9999 rfl rfl (by first | (show _ ∨ _; decide) | (show (_ ∨ _) ∧ (_ ∨ _); decide) | (show (_ ∨ _) ∧ (_ ∨ _) ∧ (_ ∨ _); decide)) ?_)
                | (refine R_go 9999 rfl rfl ?_ ?_))
            exact hbad _ (by decide)
          | true =>
            refine R_br rfl rfl (fun h => absurd h (by decide)) (fun _ => ?_)
            rw [if_pos ⟨⟨hv.1, hv.2, hw.1, hw.2, hne⟩, rfl⟩]
            refine R_go 9999 rfl rfl trivial ?_
            by_cases hPe : P = []
            · have n1 : A 31 0 21 = 0 := by rw [hG.1, isE.2 hPe]; rfl
              rw [if_pos hPe]
              repeat' (first
                  | (refine R_br rfl rfl (fun hbr => absurd hbr (by first | decide | (with_reducible assumption))) (fun _ => ?_))
                  | (refine R_br rfl rfl (fun _ => ?_) (fun hbr => absurd (by first | decide | (with_reducible assumption)) hbr))
                  | (refine R_br rfl rfl (fun _ => ?_) (fun _ => ?_))
                  | (refine R_ri rfl rfl ?_)
                  | (refine R_rz rfl rfl (Or.inl rfl) ?_)
                  | (refine R_rz rfl rfl (Or.inr rfl) ?_)
                  | (refine R_rz rfl rfl (b2_01 _) ?_)
                  | (refine R_rl rfl rfl ?_)
                  | (refine R_rv rfl rfl ?_)
                  | (refine R_sw _ rfl rfl rfl ?_)
                  | (refine R_go 9999 rfl rfl trivial ?_)
                  | (refine R_go 9999 rfl rfl (by first | (show _ ∨ _; decide) | (show (_ ∨ _) ∧ (_ ∨ _); decide) | (show (_ ∨ _) ∧ (_ ∨ _) ∧ (_ ∨ _); decide)) ?_)
                  | (refine R_go 9999 rfl rfl ?_ ?_))
              exact hbad _ (by decide)
            · have n1 : ¬ A 31 0 21 = 0 := by rw [hG.1, isE.1 hPe]; decide
              rw [if_neg hPe]
              obtain ⟨b, hb, rfl⟩ := vp_in_of (x := v) (n := 21) (vp_of hv.1 (by omega)) (by decide)
              obtain ⟨c, hc, rfl⟩ := vp_in_of (x := w) (n := 21) (vp_of hw.1 (by omega)) (by decide)
              rw [nI_clamp (show a < 2 ^ 31 by omega), nI_clamp (show b < 2 ^ 31 by omega), nI_clamp (show c < 2 ^ 31 by omega)]
              refine R_br rfl rfl (fun h => absurd h n1) (fun _ => ?_)
              refine R_go 9999 rfl rfl trivial ?_
              refine R_cv rfl (m_takeGroups (okG_ne hP hPe) a b c ha (by omega) (by omega) hG hR) rfl rfl rfl rfl rfl (Nat.le_of_ble_eq_true rfl) rfl ?_
              rintro z h' ⟨A1, B1, rfl, rfl, hF1, hJ1, hT⟩
              have q1 : mA P R a b ≤ 24 := mb24 h24 _ _ _
              have q2 : mA P R a c ≤ 24 := mb24 h24 _ _ _
              have t1 := ti (mA P R a b) (by omega)
              have t2 := ti (mA P R a c) (by omega)
              refine R_go 9999 rfl rfl trivial ?_
              try dsimp only [fgt, fpt]
              rw [hT.1]
              by_cases z1 : mA P R a b = 0
              · have n2 : nI (mA P R a b) = 0 := by rw [z1]; rfl
                rw [if_pos (Or.inl z1)]
                repeat' (first
                    | (refine R_br rfl rfl (fun hbr => absurd hbr (by first | decide | (with_reducible assumption))) (fun _ => ?_))
                    | (refine R_br rfl rfl (fun _ => ?_) (fun hbr => absurd (by first | decide | (with_reducible assumption)) hbr))
                    | (refine R_br rfl rfl (fun _ => ?_) (fun _ => ?_))
                    | (refine R_ri rfl rfl ?_)
                    | (refine R_rz rfl rfl (Or.inl rfl) ?_)
                    | (refine R_rz rfl rfl (Or.inr rfl) ?_)
                    | (refine R_rz rfl rfl (b2_01 _) ?_)
                    | (refine R_rl rfl rfl ?_)
                    | (refine R_rv rfl rfl ?_)
                    | (refine R_sw _ rfl rfl rfl ?_)
                    | (refine R_go 9999 rfl rfl trivial ?_)
                    | (refine R_go 9999 rfl rfl (by first | (show _ ∨ _; decide) | (show (_ ∨ _) ∧ (_ ∨ _); decide) | (show (_ ∨ _) ∧ (_ ∨ _) ∧ (_ ∨ _); decide)) ?_)
                    | (refine R_go 9999 rfl rfl ?_ ?_))
                exact ⟨A1, B1, rfl, rfl, hF1, hJ1, fun z => absurd z (by decide)⟩
              · have n2 : ¬ nI (mA P R a b) = 0 := by (simp only [i_eq, i_lt, i_le, Int32.reduceToInt, true_and, and_true, false_and, and_false, or_false, false_or, or_true, true_or, ne_eq] at *; first | done | omega)
                refine R_br rfl rfl (fun h => absurd h n2) (fun _ => ?_)
                refine R_go 9999 rfl rfl trivial ?_
                try dsimp only [fgt, fpt]
                rw [hT.2.2.1]
                by_cases z2 : mA P R a c = 0
                · have n3 : nI (mA P R a c) = 0 := by rw [z2]; rfl
                  rw [if_pos (Or.inr z2)]
                  repeat' (first
                      | (refine R_br rfl rfl (fun hbr => absurd hbr (by first | decide | (with_reducible assumption))) (fun _ => ?_))
                      | (refine R_br rfl rfl (fun _ => ?_) (fun hbr => absurd (by first | decide | (with_reducible assumption)) hbr))
                      | (refine R_br rfl rfl (fun _ => ?_) (fun _ => ?_))
                      | (refine R_ri rfl rfl ?_)
                      | (refine R_rz rfl rfl (Or.inl rfl) ?_)
                      | (refine R_rz rfl rfl (Or.inr rfl) ?_)
                      | (refine R_rz rfl rfl (b2_01 _) ?_)
                      | (refine R_rl rfl rfl ?_)
                      | (refine R_rv rfl rfl ?_)
                      | (refine R_sw _ rfl rfl rfl ?_)
                      | (refine R_go 9999 rfl rfl trivial ?_)
                      | (refine R_go 9999 rfl rfl (by first | (show _ ∨ _; decide) | (show (_ ∨ _) ∧ (_ ∨ _); decide) | (show (_ ∨ _) ∧ (_ ∨ _) ∧ (_ ∨ _); decide)) ?_)
                      | (refine R_go 9999 rfl rfl ?_ ?_))
                  exact ⟨A1, B1, rfl, rfl, hF1, hJ1, fun z => absurd z (by decide)⟩
                · have n3 : ¬ nI (mA P R a c) = 0 := by (simp only [i_eq, i_lt, i_le, Int32.reduceToInt, true_and, and_true, false_and, and_false, or_false, false_or, or_true, true_or, ne_eq] at *; first | done | omega)
                  rw [if_neg (fun z => z.elim z1 z2)]
                  repeat' (first
                      | (refine R_br rfl rfl (fun hbr => absurd hbr (by first | decide | (with_reducible assumption))) (fun _ => ?_))
                      | (refine R_br rfl rfl (fun _ => ?_) (fun hbr => absurd (by first | decide | (with_reducible assumption)) hbr))
                      | (refine R_br rfl rfl (fun _ => ?_) (fun _ => ?_))
                      | (refine R_ri rfl rfl ?_)
                      | (refine R_rz rfl rfl (Or.inl rfl) ?_)
                      | (refine R_rz rfl rfl (Or.inr rfl) ?_)
                      | (refine R_rz rfl rfl (b2_01 _) ?_)
                      | (refine R_rl rfl rfl ?_)
                      | (refine R_rv rfl rfl ?_)
                      | (refine R_sw _ rfl rfl rfl ?_)
                      | (refine R_go 9999 rfl rfl trivial ?_)
                      | (refine R_go 9999 rfl rfl (by first | (show _ ∨ _; decide) | (show (_ ∨ _) ∧ (_ ∨ _); decide) | (show (_ ∨ _) ∧ (_ ∨ _) ∧ (_ ∨ _); decide)) ?_)
                      | (refine R_go 9999 rfl rfl ?_ ?_))
                  exact ⟨A1, B1, rfl, rfl, hF1, hJ1, fun _ => hT⟩
      · rw [if_neg (fun z => hw ⟨z.1.2.2.1, z.1.2.2.2.1⟩)]
        repeat' (first
            | (refine R_br rfl rfl (fun hbr => absurd hbr (by first | decide | (with_reducible assumption))) (fun _ => ?_))
            | (refine R_br rfl rfl (fun _ => ?_) (fun hbr => absurd (by first | decide | (with_reducible assumption)) hbr))
            | (refine R_br rfl rfl (fun _ => ?_) (fun _ => ?_))
            | (refine R_ri rfl rfl ?_)
            | (refine R_rz rfl rfl (Or.inl rfl) ?_)
            | (refine R_rz rfl rfl (Or.inr rfl) ?_)
            | (refine R_rz rfl rfl (b2_01 _) ?_)
            | (refine R_rl rfl rfl ?_)
            | (refine R_rv rfl rfl ?_)
            | (refine R_csr rfl (m_isNumberF w hw _ _) rfl rfl rfl (Nat.le_of_ble_eq_true rfl) rfl ?_)
            | (refine R_sw _ rfl rfl rfl ?_)
            | (refine R_go 9999 rfl rfl trivial ?_)
            | (refine R_go 9999 rfl rfl (by first | (show _ ∨ _; decide) | (show (_ ∨ _) ∧ (_ ∨ _); decide) | (show (_ ∨ _) ∧ (_ ∨ _) ∧ (_ ∨ _); decide)) ?_)
            | (refine R_go 9999 rfl rfl ?_ ?_))
        exact hbad _ (by decide)
    · rw [if_neg (fun z => hv ⟨z.1.1, z.1.2.1⟩)]
      repeat' (first
          | (refine R_br rfl rfl (fun hbr => absurd hbr (by first | decide | (with_reducible assumption))) (fun _ => ?_))
          | (refine R_br rfl rfl (fun _ => ?_) (fun hbr => absurd (by first | decide | (with_reducible assumption)) hbr))
          | (refine R_br rfl rfl (fun _ => ?_) (fun _ => ?_))
          | (refine R_ri rfl rfl ?_)
          | (refine R_rz rfl rfl (Or.inl rfl) ?_)
          | (refine R_rz rfl rfl (Or.inr rfl) ?_)
          | (refine R_rz rfl rfl (b2_01 _) ?_)
          | (refine R_rl rfl rfl ?_)
          | (refine R_rv rfl rfl ?_)
          | (refine R_csr rfl (m_isNumberF v hv _ _) rfl rfl rfl (Nat.le_of_ble_eq_true rfl) rfl ?_)
          | (refine R_sw _ rfl rfl rfl ?_)
          | (refine R_go 9999 rfl rfl trivial ?_)
          | (refine R_go 9999 rfl rfl (by first | (show _ ∨ _; decide) | (show (_ ∨ _) ∧ (_ ∨ _); decide) | (show (_ ∨ _) ∧ (_ ∨ _) ∧ (_ ∨ _); decide)) ?_)
          | (refine R_go 9999 rfl rfl ?_ ?_))
      exact hbad _ (by decide)
  · rw [if_neg h1]
    repeat' (first
        | (refine R_br rfl rfl (fun hbr => absurd hbr (by first | decide | (with_reducible assumption))) (fun _ => ?_))
        | (refine R_br rfl rfl (fun _ => ?_) (fun hbr => absurd (by first | decide | (with_reducible assumption)) hbr))
        | (refine R_br rfl rfl (fun _ => ?_) (fun _ => ?_))
        | (refine R_ri rfl rfl ?_)
        | (refine R_rz rfl rfl (Or.inl rfl) ?_)
        | (refine R_rz rfl rfl (Or.inr rfl) ?_)
        | (refine R_rz rfl rfl (b2_01 _) ?_)
        | (refine R_rl rfl rfl ?_)
        | (refine R_rv rfl rfl ?_)
        | (refine R_csr rfl (m_isFieldMN f h1 _ _) rfl rfl rfl (Nat.le_of_ble_eq_true rfl) rfl ?_)
        | (refine R_sw _ rfl rfl rfl ?_)
        | (refine R_go 9999 rfl rfl trivial ?_)
        | (refine R_go 9999 rfl rfl (by first | (show _ ∨ _; decide) | (show (_ ∨ _) ∧ (_ ∨ _); decide) | (show (_ ∨ _) ∧ (_ ∨ _) ∧ (_ ∨ _); decide)) ?_)
        | (refine R_go 9999 rfl rfl ?_ ?_))
    exact hbad _ (by decide)
theorem m_gapM {P : List (List Tk × Nat)} {R : List Rw} (hP : okG P) (f v w k : Int32) {A : FI} {B : FJ} (hG : RMG A P) (hR : RMR A R) : MV 6 4 mtX12_gap [.inr (.inr (some (31, 0))), .inl f, .inl v, .inl w, .inl k] (hp A B) (fun r h' => ∃ A' B', h' = hp A' B' ∧ r = some (.inl (gapA P R f v w k)) ∧ FmZ A A' ∧ FmJ [49] B B') := by
  have h24 := hR.2.1
  refine MV_of caX12_gap (L := [some (.inr (.inr (some (31, 0)))), some (.inl f), some (.inl v), some (.inl w), some (.inl k), none]) rfl rfl ?_
  unfold gapA
  have hin : MS 0 3 mtX12_in [.inr (.inl k.toInt64), .inr (.inl 0), .inr (.inl 1)] (hp A B) (Ret (some (.inl (bI (decide (0 ≤ k.toInt ∧ k.toInt ≤ 1))))) (hp A B)) := by
    by_cases h : 0 ≤ k.toInt ∧ k.toInt ≤ 1
    · rw [decide_eq_true h]; exact m_inT k 0 1 (by simp only [Int64.reduceToInt]; exact h) _ _
    · rw [decide_eq_false h]; exact m_inF k 0 1 (by simp only [Int64.reduceToInt]; exact h) _ _
  refine R_go 9999 rfl rfl trivial ?_
  refine R_csr rfl hin rfl rfl rfl (Nat.le_of_ble_eq_true rfl) rfl ?_
  refine R_cv rfl (m_gapRefusal hP f v w (decide (0 ≤ k.toInt ∧ k.toInt ≤ 1)) hG hR) rfl rfl rfl rfl rfl (Nat.le_of_ble_eq_true rfl) rfl ?_
  rintro z h' ⟨A1, B1, rfl, rfl, hF1, hJ1, hT⟩
  rcases rfA_c P R f v w (decide (0 ≤ k.toInt ∧ k.toInt ≤ 1)) with h | h | h | ⟨h, hgd, hPe, a, b, c, ha, hb, hcc, hne, rfl, rfl, rfl, h1, h2⟩
  · rw [h, if_neg (by decide)]
    repeat' (first
        | (refine R_br rfl rfl (fun hbr => absurd hbr (by first | decide | (with_reducible assumption))) (fun _ => ?_))
        | (refine R_br rfl rfl (fun _ => ?_) (fun hbr => absurd (by first | decide | (with_reducible assumption)) hbr))
        | (refine R_br rfl rfl (fun _ => ?_) (fun _ => ?_))
        | (refine R_ri rfl rfl ?_)
        | (refine R_rz rfl rfl (Or.inl rfl) ?_)
        | (refine R_rz rfl rfl (Or.inr rfl) ?_)
        | (refine R_rz rfl rfl (b2_01 _) ?_)
        | (refine R_rl rfl rfl ?_)
        | (refine R_rv rfl rfl ?_)
        | (refine R_sw _ rfl rfl rfl ?_)
        | (refine R_go 9999 rfl rfl trivial ?_)
        | (refine R_go 9999 rfl rfl (by first | (show _ ∨ _; decide) | (show (_ ∨ _) ∧ (_ ∨ _); decide) | (show (_ ∨ _) ∧ (_ ∨ _) ∧ (_ ∨ _); decide)) ?_)
        | (refine R_go 9999 rfl rfl ?_ ?_))
    exact ⟨A1, B1, rfl, rfl, hF1, hJ1⟩
  · rw [h, if_neg (by decide)]
    repeat' (first
        | (refine R_br rfl rfl (fun hbr => absurd hbr (by first | decide | (with_reducible assumption))) (fun _ => ?_))
        | (refine R_br rfl rfl (fun _ => ?_) (fun hbr => absurd (by first | decide | (with_reducible assumption)) hbr))
        | (refine R_br rfl rfl (fun _ => ?_) (fun _ => ?_))
        | (refine R_ri rfl rfl ?_)
        | (refine R_rz rfl rfl (Or.inl rfl) ?_)
        | (refine R_rz rfl rfl (Or.inr rfl) ?_)
        | (refine R_rz rfl rfl (b2_01 _) ?_)
        | (refine R_rl rfl rfl ?_)
        | (refine R_rv rfl rfl ?_)
        | (refine R_sw _ rfl rfl rfl ?_)
        | (refine R_go 9999 rfl rfl trivial ?_)
        | (refine R_go 9999 rfl rfl (by first | (show _ ∨ _; decide) | (show (_ ∨ _) ∧ (_ ∨ _); decide) | (show (_ ∨ _) ∧ (_ ∨ _) ∧ (_ ∨ _); decide)) ?_)
        | (refine R_go 9999 rfl rfl ?_ ?_))
    exact ⟨A1, B1, rfl, rfl, hF1, hJ1⟩
  · rw [h, if_neg (by decide)]
    repeat' (first
        | (refine R_br rfl rfl (fun hbr => absurd hbr (by first | decide | (with_reducible assumption))) (fun _ => ?_))
        | (refine R_br rfl rfl (fun _ => ?_) (fun hbr => absurd (by first | decide | (with_reducible assumption)) hbr))
        | (refine R_br rfl rfl (fun _ => ?_) (fun _ => ?_))
        | (refine R_ri rfl rfl ?_)
        | (refine R_rz rfl rfl (Or.inl rfl) ?_)
        | (refine R_rz rfl rfl (Or.inr rfl) ?_)
        | (refine R_rz rfl rfl (b2_01 _) ?_)
        | (refine R_rl rfl rfl ?_)
        | (refine R_rv rfl rfl ?_)
        | (refine R_sw _ rfl rfl rfl ?_)
        | (refine R_go 9999 rfl rfl trivial ?_)
        | (refine R_go 9999 rfl rfl (by first | (show _ ∨ _; decide) | (show (_ ∨ _) ∧ (_ ∨ _); decide) | (show (_ ∨ _) ∧ (_ ∨ _) ∧ (_ ∨ _); decide)) ?_)
        | (refine R_go 9999 rfl rfl ?_ ?_))
    exact ⟨A1, B1, rfl, rfl, hF1, hJ1⟩
  · obtain ⟨t1, t2, t3, t4, -⟩ := hT h
    rw [h, if_pos rfl]
    have hkk := of_decide_eq_true hgd
    obtain ⟨j, hj, rfl⟩ := vp_in_of (x := k) (n := 2) (vp_of hkk.1 (by omega)) (by decide)
    rw [nI_clamp (show a < 2 ^ 31 by omega), nI_clamp (show b < 2 ^ 31 by omega)] at t1 t2
    rw [nI_clamp (show a < 2 ^ 31 by omega), nI_clamp (show c < 2 ^ 31 by omega)] at t3 t4
    rw [nI_clamp (show a < 2 ^ 31 by omega), nI_clamp (show b < 2 ^ 31 by omega), nI_clamp (show c < 2 ^ 31 by omega), nI_clamp (show j < 2 ^ 31 by omega)]
    obtain ⟨g1, g2⟩ := gp_le (P := P) h24 a b c
    have hpos : 0 < mA P R a b * mA P R a c := Nat.mul_pos (by omega) (by omega)
    have c1 := m24 (mb24 (P := P) h24 a b 1) (mb24 (P := P) h24 a c 0)
    have c2 := m24 (mb24 (P := P) h24 a c 1) (mb24 (P := P) h24 a b 0)
    have hgo := m_gapOf (mL P R a b) (mA P R a b) (mL P R a c) (mA P R a c) (by unfold mL mA; omega) (by unfold mL mA; omega) A1 B1
    refine R_go 9999 rfl rfl trivial ?_
    refine R_br rfl rfl (fun _ => ?_) (fun h => absurd rfl h)
    refine R_go 9999 rfl rfl trivial ?_
    try dsimp only [fgt, fpt]
    rw [t1, t2, t3, t4]
    refine R_csr rfl hgo rfl rfl rfl (Nat.le_of_ble_eq_true rfl) rfl ?_
    refine R_go 9999 rfl rfl trivial ?_
    try dsimp only [fgt, fpt]
    rw [t1, t3, pk_mul, nI_l (by omega), nI_l (by omega)]
    refine R_csr rfl (m_part (by omega) (by omega) hpos (by omega) _ _) rfl rfl rfl (Nat.le_of_ble_eq_true rfl) rfl ?_
    exact R_ri rfl rfl ⟨A1, B1, rfl, rfl, hF1, hJ1⟩
