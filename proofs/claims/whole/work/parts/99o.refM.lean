theorem whS_s {q : Nat → Nat} {n : Nat} : whS q (n + 1) ↔ whS q n ∧ q n ≠ 99 := ⟨fun h => ⟨fun f hf => h f (by omega), h n (by omega)⟩, fun h f hf => by
  by_cases e : f = n
  · subst e; exact h.2
  · exact h.1 f (by omega)⟩
theorem l_isRefused {P : List (List Tk × Nat)} {q : Nat → Nat} {r : Nat} {A0 : FI} {B : FJ} (hq : RPm A0 q) {Q : Option AV → AH → Prop} (kend : ∀ A, FmO 31 [63] [] A0 A → (∀ f, f < 8 → A 63 0 f = nI (q f)) → Rn 3 mtX12_isRefused 57 [some (.inr (.inr (some (31, 0)))), some (.inl (nI r)), some (.inl (b2 (P ≠ [] ∧ whS q 8))), some (.inl (nI 8))] [] (hp A B) Q) : ∀ (m k : Nat) (A : FI), k + m = 8 → FmO 31 [63] [] A0 A → (∀ f, f < k → A 63 0 f = nI (q f)) → Rn 3 mtX12_isRefused 12 [some (.inr (.inr (some (31, 0)))), some (.inl (nI r)), some (.inl (b2 (P ≠ [] ∧ whS q k))), some (.inl (nI k))] [] (hp A B) Q := by
  intro m
  induction m with
  | zero =>
    intro k A hk hF h
    have : k = 8 := by omega
    subst this
    refine R_go 9999 rfl rfl trivial ?_
    refine R_br rfl rfl (fun _ => ?_) (fun h => absurd (by decide) h)
    exact kend A hF h
  | succ m ih =>
    intro k A hk hF h
    have tk := ti k (by omega)
    have ck : (nI k).toNatClampNeg = k := nI_clamp (by omega)
    have hvk : vp_in (nI k) 8 := vpN (n := 8) (by omega) rfl
    obtain ⟨e52, hb⟩ := hq k (by omega)
    have hqb : q k ≤ 99 := by rcases hb with hb | hb <;> omega
    have nx : ∀ v, v = b2 (P ≠ [] ∧ whS q (k + 1)) → Rn 3 mtX12_isRefused 12 [some (.inr (.inr (some (31, 0)))), some (.inl (nI r)), some (.inl v), some (.inl (nI (k + 1)))] [] (hp (up3 A 63 0 k (nI (q k))) B) Q := fun v hv => by
      rw [hv]
      refine ih (k + 1) _ (by omega) (FmO_tr hF (by first | exact FmO_rf | (repeat' (first | exact FmO_rf | (with_reducible assumption) | (refine FmO_up ?_ (by decide)) | (refine FmO_ug ?_ (by decide) (by decide)))))) (fun f hf => ?_)
      by_cases e : f = k
      · subst e; exact up3_self
      · rw [up3_s e]; exact h f (by omega)
    have f52 : up3 A 63 0 k (nI (q k)) 52 0 k = nI (q k) := by rw [up3_g (by decide), hF.1 52 (by decide) (by decide)]; exact e52
    refine R_go 9999 rfl rfl trivial ?_
    refine R_br rfl rfl (fun h => absurd h (by (simp only [i_eq, i_lt, i_le, Int32.reduceToInt, true_and, and_true, false_and, and_false, or_false, false_or, or_true, true_or, ne_eq] at *; first | done | omega))) (fun _ => ?_)
    refine R_go 9999 rfl rfl ⟨hvk, hvk⟩ ?_
    rw [ck, show A 52 0 k = nI (q k) by rw [hF.1 52 (by decide) (by decide)]; exact e52]
    rcases Classical.em (P ≠ [] ∧ whS q k) with hw | hw
    · rw [b2_1 hw]
      refine R_br rfl rfl (fun h => absurd h (by decide)) (fun _ => ?_)
      refine R_go 9999 rfl rfl hvk ?_
      rw [ck, f52]
      by_cases h9 : q k = 99
      · refine R_br rfl rfl (fun _ => ?_) (fun h => absurd (by rw [h9]; rfl) h)
        refine R_go 12 rfl rfl trivial ?_
        rw [nI_1]
        exact nx 0 (b2_0 (fun z => (whS_s.mp z.2).2 h9)).symm
      · refine R_br rfl rfl (fun h => absurd (nI_ij (b := 99) (by omega) (by omega) h) h9) (fun _ => ?_)
        refine R_go 12 rfl rfl trivial ?_
        rw [nI_1]
        exact nx 1 (b2_1 ⟨hw.1, whS_s.mpr ⟨hw.2, h9⟩⟩).symm
    · rw [b2_0 hw]
      refine R_br rfl rfl (fun _ => ?_) (fun h => absurd rfl h)
      refine R_go 12 rfl rfl trivial ?_
      rw [nI_1]
      exact nx 0 (b2_0 (fun z => hw ⟨z.1, (whS_s.mp z.2).1⟩)).symm
abbrev FmIR (A A' : FI) : Prop := FmO 31 [50, 51, 52, 63] [36] A A'
theorem m_isRefused {P : List (List Tk × Nat)} {R : List Rw} {k : Nat} (hk : k < R.length) (hP : okG P) {A : FI} {B : FJ} (hG : RMG A P) (hR : RMR A R) : MV 3 1 mtX12_isRefused [.inr (.inr (some (31, 0))), .inl (nI k)] (hp A B) (fun r h' => ∃ A' B', h' = hp A' B' ∧ r = some (.inl (b2 (wrS P (R.getD k d0).1))) ∧ FmIR A A' ∧ FmJ [49] B B' ∧ ∀ f, f < 8 → A' 63 0 f = nI ((R.getD k d0).1 f)) := by
  have h24 := hR.2.1
  refine MV_of caX12_isRefused (L := [some (.inr (.inr (some (31, 0)))), some (.inl (nI k)), none, none]) rfl rfl ?_
  refine R_go 9999 rfl rfl trivial ?_
  try dsimp only [fgt, fpt]
  rw [hG.1]
  refine R_cv rfl (m_takeRow hk hR) rfl rfl rfl rfl rfl (Nat.le_of_ble_eq_true rfl) rfl ?_
  rintro z h' ⟨A1, rfl, rfl, hF1, hq1⟩
  have e0 : bI (!P.isEmpty) = b2 (P ≠ [] ∧ whS (R.getD k d0).1 0) := by
    by_cases hPe : P = []
    · rw [isE.2 hPe, b2_0 (fun z => z.1 hPe)]; rfl
    · rw [isE.1 hPe, b2_1 ⟨hPe, fun f hf => by omega⟩]; rfl
  rw [e0]
  refine R_go 12 rfl rfl trivial ?_
  refine l_isRefused (P := P) (A0 := A1) hq1 (fun A2 hF2 h63 => ?_) 8 0 A1 rfl FmO_rf (fun f hf => by omega)
  have hF02 : FmIR A A2 := FmO_tr (FmO_w hF1 (by decide) (by decide)) (FmO_w hF2 (by decide) (by decide))
  refine R_go 9999 rfl rfl trivial ?_
  rcases Classical.em (P ≠ [] ∧ whS (R.getD k d0).1 8) with hw | hw
  · rw [b2_1 hw]
    have hPo := okG_ne hP hw.1
    have hrl := rnS_le hPo (R.getD k d0).1
    refine R_br rfl rfl (fun h => absurd h (by decide)) (fun _ => ?_)
    refine R_go 9999 rfl rfl trivial ?_
    refine R_cv rfl (m_runWho (B := B) hPo (RMG_fr hG hF02 (by decide) (by decide)) (RPm_fr hq1 hF2 (by decide))) rfl rfl rfl rfl rfl (Nat.le_of_ble_eq_true rfl) rfl ?_
    rintro z h' ⟨A3, B3, rfl, rfl, -, hF3, hJ3⟩
    have hF03 : FmIR A A3 := FmO_tr hF02 (FmO_w hF3 (by decide) (by decide))
    have h63' : ∀ f, f < 8 → A3 63 0 f = nI ((R.getD k d0).1 f) := fun f hf => by rw [hF3.1 63 (by decide) (by decide)]; exact h63 f hf
    by_cases h0 : (rnS (R.getD k d0).1 0 P).1 = 0
    · rw [b2_1 (show wrS P (R.getD k d0).1 from ⟨hw.1, hw.2, h0⟩)]
      refine R_br rfl rfl (fun _ => ?_) (fun h => absurd (by rw [h0]; rfl) h)
      repeat' (first
          | (refine R_br rfl rfl (fun hbr => absurd hbr (by first | decide | (with_reducible assumption))) (fun _ => ?_))
          | (refine R_br rfl rfl (fun _ => ?_) (fun hbr => absurd (by first | decide | (with_reducible assumption)) hbr))
          | (refine R_br rfl rfl (fun _ => ?_) (fun _ => ?_))
          | (refine R_ri rfl rfl ?_)
          | (refine R_rz rfl rfl (Or.inl rfl) ?_)
          | (refine R_rz rfl rfl (Or.inr rfl) ?_)
          | (refine R_rz rfl rfl (b2_01 _) ?_)
          | (refine R_rl rfl rfl ?_)
          | (refine R_rv rfl rfl ?_)
          | (refine R_sw _ rfl rfl rfl ?_)
          | (refine R_go 9999 rfl rfl trivial ?_)
          | (refine R_go 9999 rfl rfl (by first | (show _ ∨ _; decide) | (show (_ ∨ _) ∧ (_ ∨ _); decide) | (show (_ ∨ _) ∧ (_ ∨ _) ∧ (_ ∨ _); decide)) ?_)
          | (refine R_go 9999 rfl rfl ?_ ?_))
      exact ⟨A3, B3, rfl, rfl, hF03, hJ3, h63'⟩
    · rw [b2_0 (fun z : wrS P (R.getD k d0).1 => h0 z.2.2)]
      refine R_br rfl rfl (fun h => absurd (nI_ij (b := 0) (by omega) (by omega) h) h0) (fun _ => ?_)
      repeat' (first
          | (refine R_br rfl rfl (fun hbr => absurd hbr (by first | decide | (with_reducible assumption))) (fun _ => ?_))
          | (refine R_br rfl rfl (fun _ => ?_) (fun hbr => absurd (by first | decide | (with_reducible assumption)) hbr))
          | (refine R_br rfl rfl (fun _ => ?_) (fun _ => ?_))
          | (refine R_ri rfl rfl ?_)
          | (refine R_rz rfl rfl (Or.inl rfl) ?_)
          | (refine R_rz rfl rfl (Or.inr rfl) ?_)
          | (refine R_rz rfl rfl (b2_01 _) ?_)
          | (refine R_rl rfl rfl ?_)
          | (refine R_rv rfl rfl ?_)
          | (refine R_sw _ rfl rfl rfl ?_)
          | (refine R_go 9999 rfl rfl trivial ?_)
          | (refine R_go 9999 rfl rfl (by first | (show _ ∨ _; decide) | (show (_ ∨ _) ∧ (_ ∨ _); decide) | (show (_ ∨ _) ∧ (_ ∨ _) ∧ (_ ∨ _); decide)) ?_)
          | (refine R_go 9999 rfl rfl ?_ ?_))
      exact ⟨A3, B3, rfl, rfl, hF03, hJ3, h63'⟩
  · rw [b2_0 hw, b2_0 (fun z : wrS P (R.getD k d0).1 => hw ⟨z.1, z.2.1⟩)]
    refine R_br rfl rfl (fun _ => ?_) (fun h => absurd rfl h)
    repeat' (first
        | (refine R_br rfl rfl (fun hbr => absurd hbr (by first | decide | (with_reducible assumption))) (fun _ => ?_))
        | (refine R_br rfl rfl (fun _ => ?_) (fun hbr => absurd (by first | decide | (with_reducible assumption)) hbr))
        | (refine R_br rfl rfl (fun _ => ?_) (fun _ => ?_))
        | (refine R_ri rfl rfl ?_)
        | (refine R_rz rfl rfl (Or.inl rfl) ?_)
        | (refine R_rz rfl rfl (Or.inr rfl) ?_)
        | (refine R_rz rfl rfl (b2_01 _) ?_)
        | (refine R_rl rfl rfl ?_)
        | (refine R_rv rfl rfl ?_)
        | (refine R_sw _ rfl rfl rfl ?_)
        | (refine R_go 9999 rfl rfl trivial ?_)
        | (refine R_go 9999 rfl rfl (by first | (show _ ∨ _; decide) | (show (_ ∨ _) ∧ (_ ∨ _); decide) | (show (_ ∨ _) ∧ (_ ∨ _) ∧ (_ ∨ _); decide)) ?_)
        | (refine R_go 9999 rfl rfl ?_ ?_))
    exact ⟨A2, B, rfl, rfl, hF02, FmJ_rf, h63⟩
abbrev FmRe (A A' : FI) : Prop := FmO 31 [50, 51, 52, 53, 54, 63, 64] [36] A A'
abbrev RfM (A : FI) (B : FJ) (x : Int32) : Option AV → AH → Prop := fun r h' => ∃ A' B', h' = hp A' B' ∧ r = some (.inl x) ∧ FmRe A A' ∧ FmJ [49] B B'
theorem RMR_20 {A : FI} {R : List Rw} (hR : RMR A R) {k : Nat} (hk : k < R.length) (hw : whS (R.getD k d0).1 8) : ∀ f, f < 8 → (R.getD k d0).1 f ≤ 20 := fun f hf => by
  have h1 := ((hR.2.2 k hk).1 f hf).2
  have h2 := hw f hf
  unfold okF at h1
  omega
theorem m_refusedM {F : FS} {LS : List (List Tk)} {P : List (List Tk × Nat)} {R : List Rw} (hW : WFF F) (hL : okL LS) (hP : okG P) {A : FI} {B : FJ} (hM : RMF A F) (hRL : RML A LS) (hG : RMG A P) (hR : RMR A R) (r w : Int32) : MV 4 2 mtX12_refused [.inr (.inr (some (31, 0))), .inl r, .inl w] (hp A B) (RfM A B (rdA F LS P R r w)) := by
  have h24 := hR.2.1
  refine MV_of caX12_refused (L := [some (.inr (.inr (some (31, 0)))), some (.inl r), some (.inl w), none]) rfl rfl ?_
  unfold rdA
  have ret : ∀ x : Int32, RfM A B x (some (.inl x)) (hp A B) := fun x => ⟨A, B, rfl, rfl, FmO_rf, FmJ_rf⟩
  have l10 : (10 : Int64).toInt = 10 := by decide
  have l17 : (17 : Int64).toInt = 17 := by decide
  refine R_go 9999 rfl rfl trivial ?_
  refine R_cvr rfl (m_isRowM (B := B) hR.1 h24 r) rfl rfl rfl rfl rfl (Nat.le_of_ble_eq_true rfl) rfl ?_
  by_cases hr : 0 ≤ r.toInt ∧ r.toInt < R.length
  · rw [b2_1 hr, if_neg (fun z => z hr)]
    refine R_br rfl rfl (fun h => absurd h (by decide)) (fun _ => ?_)
    have k32 : ¬ (w ≠ 0 ∧ ¬ (10 ≤ w.toInt ∧ w.toInt ≤ 17)) → Rn 4 mtX12_refused 32 [some (.inr (.inr (some (31, 0)))), some (.inl r), some (.inl w), none] [] (hp A B) (RfM A B (@ite _ (wrS P (R.getD r.toNatClampNeg d0).1) (Classical.propDecidable _) (bwA F (R.getD r.toNatClampNeg d0).1 w (bsO F LS P (R.getD r.toNatClampNeg d0).1)) (-103))) := fun hw => by
      obtain ⟨k, hk, rfl⟩ := vp_in_of (x := r) (n := R.length) (vp_of hr.1 hr.2) (by omega)
      rw [nI_clamp (show k < 2 ^ 31 by omega)]
      refine R_go 9999 rfl rfl trivial ?_
      refine R_cv rfl (m_isRefused (B := B) hk hP hG hR) rfl rfl rfl rfl rfl (Nat.le_of_ble_eq_true rfl) rfl ?_
      rintro z h' ⟨A1, B1, rfl, rfl, hF1, hJ1, h63⟩
      have hF1' : FmRe A A1 := FmO_w hF1 (by decide) (by decide)
      rcases Classical.em (wrS P (R.getD k d0).1) with hwr | hwr
      · rw [b2_1 hwr, ite_py hwr]
        have h20 := RMR_20 hR hk hwr.2.1
        have hI : LpI A1 F LS P (R.getD k d0).1 := ⟨RML_fr hRL hF1 (by decide) (by decide), RMF_fr hM hF1 (by decide), RMG_fr hG hF1 (by decide) (by decide), fun f hf => ⟨h63 f hf, h20 f hf⟩⟩
        refine R_br rfl rfl (fun h => absurd h (by decide)) (fun _ => ?_)
        refine R_go 9999 rfl rfl trivial ?_
        refine R_cv rfl (m_leastPrice (B := B1) hW hL (okG_ne hP hwr.1) hI) rfl rfl rfl rfl rfl (Nat.le_of_ble_eq_true rfl) rfl ?_
        rintro z h' ⟨A2, B2, bs, o, rfl, rfl, hF2, hJ2, hC2, hM2⟩
        rw [bsO_eq hM2]
        have hF02 : FmRe A A2 := FmO_tr hF1' (FmO_w hF2 (by decide) (by decide))
        have hJ02 := FmJ_tr hJ1 hJ2
        have hbs := hC2.1
        refine R_go 9999 rfl rfl trivial ?_
        cases o with
        | none =>
          have e2 : bs = -1 := hbs
          subst e2
          by_cases w0 : w = 0
          · refine R_br rfl rfl (fun _ => ?_) (fun h => absurd w0 h)
            repeat' (first
                | (refine R_br rfl rfl (fun hbr => absurd hbr (by first | decide | (with_reducible assumption))) (fun _ => ?_))
                | (refine R_br rfl rfl (fun _ => ?_) (fun hbr => absurd (by first | decide | (with_reducible assumption)) hbr))
                | (refine R_br rfl rfl (fun _ => ?_) (fun _ => ?_))
                | (refine R_ri rfl rfl ?_)
                | (refine R_rz rfl rfl (Or.inl rfl) ?_)
                | (refine R_rz rfl rfl (Or.inr rfl) ?_)
                | (refine R_rz rfl rfl (b2_01 _) ?_)
                | (refine R_rl rfl rfl ?_)
                | (refine R_rv rfl rfl ?_)
                | (refine R_sw _ rfl rfl rfl ?_)
                | (refine R_go 9999 rfl rfl trivial ?_)
                | (refine R_go 9999 rfl rfl (by first | (show _ ∨ _; decide) | (show (_ ∨ _) ∧ (_ ∨ _); decide) | (show (_ ∨ _) ∧ (_ ∨ _) ∧ (_ ∨ _); decide)) ?_)
                | (refine R_go 9999 rfl rfl ?_ ?_))
            exact ⟨A2, B2, rfl, rfl, hF02, hJ02⟩
          · refine R_br rfl rfl (fun h => absurd h w0) (fun _ => ?_)
            repeat' (first
                | (refine R_br rfl rfl (fun hbr => absurd hbr (by first | decide | (with_reducible assumption))) (fun _ => ?_))
                | (refine R_br rfl rfl (fun _ => ?_) (fun hbr => absurd (by first | decide | (with_reducible assumption)) hbr))
                | (refine R_br rfl rfl (fun _ => ?_) (fun _ => ?_))
                | (refine R_ri rfl rfl ?_)
                | (refine R_rz rfl rfl (Or.inl rfl) ?_)
                | (refine R_rz rfl rfl (Or.inr rfl) ?_)
                | (refine R_rz rfl rfl (b2_01 _) ?_)
                | (refine R_rl rfl rfl ?_)
                | (refine R_rv rfl rfl ?_)
                | (refine R_sw _ rfl rfl rfl ?_)
                | (refine R_go 9999 rfl rfl trivial ?_)
                | (refine R_go 9999 rfl rfl (by first | (show _ ∨ _; decide) | (show (_ ∨ _) ∧ (_ ∨ _); decide) | (show (_ ∨ _) ∧ (_ ∨ _) ∧ (_ ∨ _); decide)) ?_)
                | (refine R_go 9999 rfl rfl ?_ ?_))
            exact ⟨A2, B2, rfl, rfl, hF02, hJ02⟩
        | some z =>
          have e2 : bs = nI (csN F (R.getD k d0).1 z 8) := hbs
          have e3 := hC2.2 z rfl
          have hb := csN_b hW (q0 := (R.getD k d0).1) (q := z) 8 (Nat.le_refl _) (fun j hj => ⟨(e3 j hj).2, h20 j hj⟩)
          subst e2
          unfold bwA
          dsimp only
          by_cases w0 : w = 0
          · rw [if_pos w0]
            refine R_br rfl rfl (fun _ => ?_) (fun h => absurd w0 h)
            repeat' (first
                | (refine R_br rfl rfl (fun hbr => absurd hbr (by first | decide | (with_reducible assumption))) (fun _ => ?_))
                | (refine R_br rfl rfl (fun _ => ?_) (fun hbr => absurd (by first | decide | (with_reducible assumption)) hbr))
                | (refine R_br rfl rfl (fun _ => ?_) (fun _ => ?_))
                | (refine R_ri rfl rfl ?_)
                | (refine R_rz rfl rfl (Or.inl rfl) ?_)
                | (refine R_rz rfl rfl (Or.inr rfl) ?_)
                | (refine R_rz rfl rfl (b2_01 _) ?_)
                | (refine R_rl rfl rfl ?_)
                | (refine R_rv rfl rfl ?_)
                | (refine R_sw _ rfl rfl rfl ?_)
                | (refine R_go 9999 rfl rfl trivial ?_)
                | (refine R_go 9999 rfl rfl (by first | (show _ ∨ _; decide) | (show (_ ∨ _) ∧ (_ ∨ _); decide) | (show (_ ∨ _) ∧ (_ ∨ _) ∧ (_ ∨ _); decide)) ?_)
                | (refine R_go 9999 rfl rfl ?_ ?_))
            exact ⟨A2, B2, rfl, rfl, hF02, hJ02⟩
          · rw [if_neg w0]
            have hwb : 10 ≤ w.toInt ∧ w.toInt ≤ 17 := Classical.byContradiction (fun z => hw ⟨w0, z⟩)
            have e10 : (w - 10).toInt = w.toInt - 10 := by
              rw [Int32.toInt_sub, (by decide : (10 : Int32).toInt = 10)]
              exact Int.bmod_eq_of_le (by omega) (by omega)
            obtain ⟨j, hj, ej⟩ := vp_in_of (x := w - 10) (n := 8) (vp_of (by omega) (by omega)) (by decide)
            have cj : (nI j).toNatClampNeg = j := nI_clamp (by omega)
            have hvj : vp_in (nI j) 8 := vpN (n := 8) (by omega) rfl
            refine R_br rfl rfl (fun h => absurd h w0) (fun _ => ?_)
            refine R_go 9999 rfl rfl trivial ?_
            refine R_br rfl rfl (fun h => absurd h (nI_nn (by omega))) (fun _ => ?_)
            refine R_go 9999 rfl rfl (by rw [ej]; exact hvj) ?_
            rw [ej, cj, (e3 j hj).1]
            refine R_ri rfl rfl ?_
            exact ⟨A2, B2, rfl, rfl, hF02, hJ02⟩
      · rw [b2_0 hwr, ite_pn hwr]
        refine R_br rfl rfl (fun _ => ?_) (fun h => absurd rfl h)
        repeat' (first
            | (refine R_br rfl rfl (fun hbr => absurd hbr (by first | decide | (with_reducible assumption))) (fun _ => ?_))
            | (refine R_br rfl rfl (fun _ => ?_) (fun hbr => absurd (by first | decide | (with_reducible assumption)) hbr))
            | (refine R_br rfl rfl (fun _ => ?_) (fun _ => ?_))
            | (refine R_ri rfl rfl ?_)
            | (refine R_rz rfl rfl (Or.inl rfl) ?_)
            | (refine R_rz rfl rfl (Or.inr rfl) ?_)
            | (refine R_rz rfl rfl (b2_01 _) ?_)
            | (refine R_rl rfl rfl ?_)
            | (refine R_rv rfl rfl ?_)
            | (refine R_sw _ rfl rfl rfl ?_)
            | (refine R_go 9999 rfl rfl trivial ?_)
            | (refine R_go 9999 rfl rfl (by first | (show _ ∨ _; decide) | (show (_ ∨ _) ∧ (_ ∨ _); decide) | (show (_ ∨ _) ∧ (_ ∨ _) ∧ (_ ∨ _); decide)) ?_)
            | (refine R_go 9999 rfl rfl ?_ ?_))
        exact ⟨A1, B1, rfl, rfl, hF1', hJ1⟩
    refine R_go 9999 rfl rfl trivial ?_
    by_cases w0 : w = 0
    · rw [if_neg (fun z => z.1 w0)]
      exact R_br rfl rfl (fun _ => k32 (fun z => z.1 w0)) (fun h => absurd w0 h)
    · refine R_br rfl rfl (fun h => absurd h w0) (fun _ => ?_)
      refine R_go 9999 rfl rfl trivial ?_
      by_cases hwb : 10 ≤ w.toInt ∧ w.toInt ≤ 17
      · rw [if_neg (fun z => z.2 hwb)]
        refine R_csr rfl (m_inT w 10 17 (by rw [l10, l17]; exact hwb) A B) rfl rfl rfl (Nat.le_of_ble_eq_true rfl) rfl ?_
        exact R_br rfl rfl (fun h => absurd h (by decide)) (fun _ => k32 (fun z => z.2 hwb))
      · rw [if_pos ⟨w0, hwb⟩]
        refine R_csr rfl (m_inF w 10 17 (by rw [l10, l17]; exact hwb) A B) rfl rfl rfl (Nat.le_of_ble_eq_true rfl) rfl ?_
        refine R_br rfl rfl (fun _ => ?_) (fun h => absurd rfl h)
        repeat' (first
            | (refine R_br rfl rfl (fun hbr => absurd hbr (by first | decide | (with_reducible assumption))) (fun _ => ?_))
            | (refine R_br rfl rfl (fun _ => ?_) (fun hbr => absurd (by first | decide | (with_reducible assumption)) hbr))
            | (refine R_br rfl rfl (fun _ => ?_) (fun _ => ?_))
            | (refine R_ri rfl rfl ?_)
            | (refine R_rz rfl rfl (Or.inl rfl) ?_)
            | (refine R_rz rfl rfl (Or.inr rfl) ?_)
            | (refine R_rz rfl rfl (b2_01 _) ?_)
            | (refine R_rl rfl rfl ?_)
            | (refine R_rv rfl rfl ?_)
            | (refine R_sw _ rfl rfl rfl ?_)
            | (refine R_go 9999 rfl rfl trivial ?_)
            | (refine R_go 9999 rfl rfl (by first | (show _ ∨ _; decide) | (show (_ ∨ _) ∧ (_ ∨ _); decide) | (show (_ ∨ _) ∧ (_ ∨ _) ∧ (_ ∨ _); decide)) ?_)
            | (refine R_go 9999 rfl rfl ?_ ?_))
        exact ret _
  · rw [b2_0 hr, if_pos hr]
    refine R_br rfl rfl (fun _ => ?_) (fun h => absurd rfl h)
    repeat' (first
        | (refine R_br rfl rfl (fun hbr => absurd hbr (by first | decide | (with_reducible assumption))) (fun _ => ?_))
        | (refine R_br rfl rfl (fun _ => ?_) (fun hbr => absurd (by first | decide | (with_reducible assumption)) hbr))
        | (refine R_br rfl rfl (fun _ => ?_) (fun _ => ?_))
        | (refine R_ri rfl rfl ?_)
        | (refine R_rz rfl rfl (Or.inl rfl) ?_)
        | (refine R_rz rfl rfl (Or.inr rfl) ?_)
        | (refine R_rz rfl rfl (b2_01 _) ?_)
        | (refine R_rl rfl rfl ?_)
        | (refine R_rv rfl rfl ?_)
        | (refine R_sw _ rfl rfl rfl ?_)
        | (refine R_go 9999 rfl rfl trivial ?_)
        | (refine R_go 9999 rfl rfl (by first | (show _ ∨ _; decide) | (show (_ ∨ _) ∧ (_ ∨ _); decide) | (show (_ ∨ _) ∧ (_ ∨ _) ∧ (_ ∨ _); decide)) ?_)
        | (refine R_go 9999 rfl rfl ?_ ?_))
    exact ret _
theorem m_sameForM {F : FS} {LS : List (List Tk)} {P : List (List Tk × Nat)} {R : List Rw} (hW : WFF F) (hL : okL LS) (hP : okG P) {A : FI} {B : FJ} (hM : RMF A F) (hRL : RML A LS) (hG : RMG A P) (hR : RMR A R) (r f v : Int32) : MV 4 3 mtX12_sameFor [.inr (.inr (some (31, 0))), .inl r, .inl f, .inl v] (hp A B) (RfM A B (sfA F LS P R r f v)) := by
  have h24 := hR.2.1
  refine MV_of caX12_sameFor (L := [some (.inr (.inr (some (31, 0)))), some (.inl r), some (.inl f), some (.inl v)]) rfl rfl ?_
  unfold sfA
  have ret : ∀ x : Int32, RfM A B x (some (.inl x)) (hp A B) := fun x => ⟨A, B, rfl, rfl, FmO_rf, FmJ_rf⟩
  refine R_go 9999 rfl rfl trivial ?_
  refine R_cvr rfl (m_isRowM (B := B) hR.1 h24 r) rfl rfl rfl rfl rfl (Nat.le_of_ble_eq_true rfl) rfl ?_
  by_cases hr : 0 ≤ r.toInt ∧ r.toInt < R.length
  · rw [b2_1 hr]
    refine R_br rfl rfl (fun h => absurd h (by decide)) (fun _ => ?_)
    refine R_go 9999 rfl rfl trivial ?_
    by_cases hf : 0 ≤ f.toInt ∧ f.toInt < 8
    · rw [if_neg (fun z => z ⟨hr, hf⟩)]
      obtain ⟨g, hg, rfl⟩ := vp_in_of (x := f) (n := 8) (vp_of hf.1 (by omega)) (by decide)
      obtain ⟨k, hk, rfl⟩ := vp_in_of (x := r) (n := R.length) (vp_of hr.1 hr.2) (by omega)
      rw [nI_clamp (show k < 2 ^ 31 by omega), nI_clamp (show g < 2 ^ 31 by omega)]
      have hWg := hW.1 g hg
      have cg : (nI g).toNatClampNeg = g := nI_clamp (by omega)
      have hvg : vp_in (nI g) 8 := vpN (n := 8) (by omega) rfl
      obtain ⟨-, e33, e34, -⟩ := hM g hg
      have t33 := ti (F.2.1 g) (by omega)
      have t34 := ti (F.2.2.1 g) (by omega)
      refine R_csr rfl (m_isFieldMT g hg _ _) rfl rfl rfl (Nat.le_of_ble_eq_true rfl) rfl ?_
      refine R_br rfl rfl (fun h => absurd h (by decide)) (fun _ => ?_)
      refine R_go 9999 rfl rfl trivial ?_
      refine R_cvr rfl (m_countsM (B := B) hM hW g hg) rfl rfl rfl rfl rfl (Nat.le_of_ble_eq_true rfl) rfl ?_
      by_cases hc : F.1 g ≠ 1 ∧ F.1 g ≠ 2
      · rw [b2_1 hc, if_pos (Or.inl hc)]
        refine R_br rfl rfl (fun h => absurd h (by decide)) (fun _ => ?_)
        repeat' (first
            | (refine R_br rfl rfl (fun hbr => absurd hbr (by first | decide | (with_reducible assumption))) (fun _ => ?_))
            | (refine R_br rfl rfl (fun _ => ?_) (fun hbr => absurd (by first | decide | (with_reducible assumption)) hbr))
            | (refine R_br rfl rfl (fun _ => ?_) (fun _ => ?_))
            | (refine R_ri rfl rfl ?_)
            | (refine R_rz rfl rfl (Or.inl rfl) ?_)
            | (refine R_rz rfl rfl (Or.inr rfl) ?_)
            | (refine R_rz rfl rfl (b2_01 _) ?_)
            | (refine R_rl rfl rfl ?_)
            | (refine R_rv rfl rfl ?_)
            | (refine R_sw _ rfl rfl rfl ?_)
            | (refine R_go 9999 rfl rfl trivial ?_)
            | (refine R_go 9999 rfl rfl (by first | (show _ ∨ _; decide) | (show (_ ∨ _) ∧ (_ ∨ _); decide) | (show (_ ∨ _) ∧ (_ ∨ _) ∧ (_ ∨ _); decide)) ?_)
            | (refine R_go 9999 rfl rfl ?_ ?_))
        exact ret _
      · rw [b2_0 hc]
        refine R_br rfl rfl (fun _ => ?_) (fun h => absurd rfl h)
        refine R_go 9999 rfl rfl ⟨hvg, hvg⟩ ?_
        rw [cg, e33, e34]
        by_cases hin : (F.2.1 g : Int) ≤ v.toInt ∧ v.toInt ≤ F.2.2.1 g
        · rw [if_neg (fun z => z.elim hc (fun z => z hin))]
          refine R_csr rfl (m_inT v (nI (F.2.1 g)).toInt64 (nI (F.2.2.1 g)).toInt64 (by rw [i_l, i_l, t33, t34]; exact hin) A B) rfl rfl rfl (Nat.le_of_ble_eq_true rfl) rfl ?_
          obtain ⟨x, hx, rfl⟩ := vp_in_of (x := v) (n := 21) (vp_of (by omega) (by omega)) (by decide)
          rw [nI_clamp (show x < 2 ^ 31 by omega)]
          refine R_br rfl rfl (fun h => absurd h (by decide)) (fun _ => ?_)
          refine R_go 9999 rfl rfl trivial ?_
          refine R_cv rfl (m_isRefused (B := B) hk hP hG hR) rfl rfl rfl rfl rfl (Nat.le_of_ble_eq_true rfl) rfl ?_
          rintro z h' ⟨A1, B1, rfl, rfl, hF1, hJ1, h63⟩
          have hF1' : FmRe A A1 := FmO_w hF1 (by decide) (by decide)
          rcases Classical.em (wrS P (R.getD k d0).1) with hwr | hwr
          · rw [b2_1 hwr, ite_py hwr]
            have h20 := RMR_20 hR hk hwr.2.1
            refine R_br rfl rfl (fun h => absurd h (by decide)) (fun _ => ?_)
            refine R_go 9999 rfl rfl hvg ?_
            rw [cg]
            generalize hA2 : up3 A1 63 0 g (nI x) = A2
            have hF2 : FmRe A A2 := FmO_tr hF1' (by rw [← hA2]; exact (by first | exact FmO_rf | (repeat' (first | exact FmO_rf | (with_reducible assumption) | (refine FmO_up ?_ (by decide)) | (refine FmO_ug ?_ (by decide) (by decide))))))
            have hI : LpI A2 F LS P (stF (R.getD k d0).1 g x) := ⟨RML_fr hRL hF2 (by decide) (by decide), RMF_fr hM hF2 (by decide), RMG_fr hG hF2 (by decide) (by decide), fun j hj => by
              by_cases e : j = g
              · subst e; rw [stF_y, ← hA2]; exact ⟨up3_self, by omega⟩
              · rw [stF_n e, ← hA2, up3_s e]; exact ⟨h63 j hj, h20 j hj⟩⟩
            clear hA2
            refine R_cv rfl (m_leastPrice (B := B1) hW hL (okG_ne hP hwr.1) hI) rfl rfl rfl rfl rfl (Nat.le_of_ble_eq_true rfl) rfl ?_
            rintro z h' ⟨A3, B3, bs, o, rfl, rfl, hF3, hJ3, hC3, hM3⟩
            rw [bsO_eq hM3, ← hC3.1]
            refine R_ri rfl rfl ?_
            exact ⟨A3, B3, rfl, rfl, FmO_tr hF2 (FmO_w hF3 (by decide) (by decide)), FmJ_tr hJ1 hJ3⟩
          · rw [b2_0 hwr, ite_pn hwr]
            refine R_br rfl rfl (fun _ => ?_) (fun h => absurd rfl h)
            repeat' (first
                | (refine R_br rfl rfl (fun hbr => absurd hbr (by first | decide | (with_reducible assumption))) (fun _ => ?_))
                | (refine R_br rfl rfl (fun _ => ?_) (fun hbr => absurd (by first | decide | (with_reducible assumption)) hbr))
                | (refine R_br rfl rfl (fun _ => ?_) (fun _ => ?_))
                | (refine R_ri rfl rfl ?_)
                | (refine R_rz rfl rfl (Or.inl rfl) ?_)
                | (refine R_rz rfl rfl (Or.inr rfl) ?_)
                | (refine R_rz rfl rfl (b2_01 _) ?_)
                | (refine R_rl rfl rfl ?_)
                | (refine R_rv rfl rfl ?_)
                | (refine R_sw _ rfl rfl rfl ?_)
                | (refine R_go 9999 rfl rfl trivial ?_)
                | (refine R_go 9999 rfl rfl (by first | (show _ ∨ _; decide) | (show (_ ∨ _) ∧ (_ ∨ _); decide) | (show (_ ∨ _) ∧ (_ ∨ _) ∧ (_ ∨ _); decide)) ?_)
                | (refine R_go 9999 rfl rfl ?_ ?_))
            exact ⟨A1, B1, rfl, rfl, hF1', hJ1⟩
        · rw [if_pos (Or.inr hin)]
          refine R_csr rfl (m_inF v (nI (F.2.1 g)).toInt64 (nI (F.2.2.1 g)).toInt64 (by rw [i_l, i_l, t33, t34]; exact hin) A B) rfl rfl rfl (Nat.le_of_ble_eq_true rfl) rfl ?_
          refine R_br rfl rfl (fun _ => ?_) (fun h => absurd rfl h)
          repeat' (first
              | (refine R_br rfl rfl (fun hbr => absurd hbr (by first | decide | (with_reducible assumption))) (fun _ => ?_))
              | (refine R_br rfl rfl (fun _ => ?_) (fun hbr => absurd (by first | decide | (with_reducible assumption)) hbr))
              | (refine R_br rfl rfl (fun _ => ?_) (fun _ => ?_))
              | (refine R_ri rfl rfl ?_)
              | (refine R_rz rfl rfl (Or.inl rfl) ?_)
              | (refine R_rz rfl rfl (Or.inr rfl) ?_)
              | (refine R_rz rfl rfl (b2_01 _) ?_)
              | (refine R_rl rfl rfl ?_)
              | (refine R_rv rfl rfl ?_)
              | (refine R_sw _ rfl rfl rfl ?_)
              | (refine R_go 9999 rfl rfl trivial ?_)
              | (refine R_go 9999 rfl rfl (by first | (show _ ∨ _; decide) | (show (_ ∨ _) ∧ (_ ∨ _); decide) | (show (_ ∨ _) ∧ (_ ∨ _) ∧ (_ ∨ _); decide)) ?_)
              | (refine R_go 9999 rfl rfl ?_ ?_))
          exact ret _
    · rw [if_pos (fun z => hf z.2)]
      refine R_csr rfl (m_isFieldMN f hf _ _) rfl rfl rfl (Nat.le_of_ble_eq_true rfl) rfl ?_
      refine R_br rfl rfl (fun _ => ?_) (fun h => absurd rfl h)
      repeat' (first
          | (refine R_br rfl rfl (fun hbr => absurd hbr (by first | decide | (with_reducible assumption))) (fun _ => ?_))
          | (refine R_br rfl rfl (fun _ => ?_) (fun hbr => absurd (by first | decide | (with_reducible assumption)) hbr))
          | (refine R_br rfl rfl (fun _ => ?_) (fun _ => ?_))
          | (refine R_ri rfl rfl ?_)
          | (refine R_rz rfl rfl (Or.inl rfl) ?_)
          | (refine R_rz rfl rfl (Or.inr rfl) ?_)
          | (refine R_rz rfl rfl (b2_01 _) ?_)
          | (refine R_rl rfl rfl ?_)
          | (refine R_rv rfl rfl ?_)
          | (refine R_sw _ rfl rfl rfl ?_)
          | (refine R_go 9999 rfl rfl trivial ?_)
          | (refine R_go 9999 rfl rfl (by first | (show _ ∨ _; decide) | (show (_ ∨ _) ∧ (_ ∨ _); decide) | (show (_ ∨ _) ∧ (_ ∨ _) ∧ (_ ∨ _); decide)) ?_)
          | (refine R_go 9999 rfl rfl ?_ ?_))
      exact ret _
  · rw [b2_0 hr, if_pos (fun z => hr z.1)]
    refine R_br rfl rfl (fun _ => ?_) (fun h => absurd rfl h)
    repeat' (first
        | (refine R_br rfl rfl (fun hbr => absurd hbr (by first | decide | (with_reducible assumption))) (fun _ => ?_))
        | (refine R_br rfl rfl (fun _ => ?_) (fun hbr => absurd (by first | decide | (with_reducible assumption)) hbr))
        | (refine R_br rfl rfl (fun _ => ?_) (fun _ => ?_))
        | (refine R_ri rfl rfl ?_)
        | (refine R_rz rfl rfl (Or.inl rfl) ?_)
        | (refine R_rz rfl rfl (Or.inr rfl) ?_)
        | (refine R_rz rfl rfl (b2_01 _) ?_)
        | (refine R_rl rfl rfl ?_)
        | (refine R_rv rfl rfl ?_)
        | (refine R_sw _ rfl rfl rfl ?_)
        | (refine R_go 9999 rfl rfl trivial ?_)
        | (refine R_go 9999 rfl rfl (by first | (show _ ∨ _; decide) | (show (_ ∨ _) ∧ (_ ∨ _); decide) | (show (_ ∨ _) ∧ (_ ∨ _) ∧ (_ ∨ _); decide)) ?_)
        | (refine R_go 9999 rfl rfl ?_ ?_))
    exact ret _
