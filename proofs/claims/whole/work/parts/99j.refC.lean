/-- a ROW that was refused -/
def wrS (P : List (List Tk × Nat)) (q : Nat → Nat) : Prop := P ≠ [] ∧ whS q 8 ∧ (rnS q 0 P).1 = 0
noncomputable def bsO (F : FS) (LS : List (List Tk)) (P : List (List Tk × Nat)) (q0 : Nat → Nat) : Option (Nat → Nat) := @dite _ (∃ o, isM (cndS F LS P q0) F q0 (fun _ => True) o) (Classical.propDecidable _) (fun h => Classical.choose h) (fun _ => none)
theorem bsO_eq {F : FS} {LS : List (List Tk)} {P : List (List Tk × Nat)} {q0 : Nat → Nat} {o : Option (Nat → Nat)} (h : isM (cndS F LS P q0) F q0 (fun _ => True) o) : bsO F LS P q0 = o := by
  have he : ∃ o, isM (cndS F LS P q0) F q0 (fun _ => True) o := ⟨o, h⟩
  have h1 : bsO F LS P q0 = Classical.choose he := @dif_pos _ (Classical.propDecidable _) he _ _ _
  rw [h1]
  exact isM_un (Classical.choose_spec he) h (fun _ _ => trivial) (fun _ _ => trivial) (fun q r hq hr e => cnd_un hq hr e)
def prA (F : FS) (q0 : Nat → Nat) : Option (Nat → Nat) → Int32
  | none => -1
  | some z => nI (csN F q0 z 8)
def bwA (F : FS) (q0 : Nat → Nat) (w : Int32) : Option (Nat → Nat) → Int32
  | none => -1
  | some z => if w = 0 then nI (csN F q0 z 8) else nI (z (w - 10).toNatClampNeg)
noncomputable def rdA (F : FS) (LS : List (List Tk)) (P : List (List Tk × Nat)) (R : List Rw) (r w : Int32) : Int32 :=
  if ¬ (0 ≤ r.toInt ∧ r.toInt < R.length) then -101
  else if w ≠ 0 ∧ ¬ (10 ≤ w.toInt ∧ w.toInt ≤ 17) then -102
  else @ite _ (wrS P (R.getD r.toNatClampNeg d0).1) (Classical.propDecidable _) (bwA F (R.getD r.toNatClampNeg d0).1 w (bsO F LS P (R.getD r.toNatClampNeg d0).1)) (-103)
noncomputable def sfA (F : FS) (LS : List (List Tk)) (P : List (List Tk × Nat)) (R : List Rw) (r f v : Int32) : Int32 :=
  if ¬ ((0 ≤ r.toInt ∧ r.toInt < R.length) ∧ 0 ≤ f.toInt ∧ f.toInt < 8) then -101
  else if (F.1 f.toNatClampNeg ≠ 1 ∧ F.1 f.toNatClampNeg ≠ 2) ∨ ¬ ((F.2.1 f.toNatClampNeg : Int) ≤ v.toInt ∧ v.toInt ≤ F.2.2.1 f.toNatClampNeg) then -102
  else @ite _ (wrS P (R.getD r.toNatClampNeg d0).1) (Classical.propDecidable _) (prA F (stF (R.getD r.toNatClampNeg d0).1 f.toNatClampNeg v.toNatClampNeg) (bsO F LS P (stF (R.getD r.toNatClampNeg d0).1 f.toNatClampNeg v.toNatClampNeg))) (-103)
theorem ite_py {α : Type} {p : Prop} (h : p) (a b : α) : @ite _ p (Classical.propDecidable _) a b = a := @if_pos _ (Classical.propDecidable _) h _ _ _
theorem ite_pn {α : Type} {p : Prop} (h : ¬ p) (a b : α) : @ite _ p (Classical.propDecidable _) a b = b := @if_neg _ (Classical.propDecidable _) h _ _ _
theorem m_wasRefused {P : List (List Tk × Nat)} {R : List Rw} {k : Nat} (hk : k < R.length) (hP : okG P) {A : FI} {B : FJ} (hS : RS 6 A P []) (hR : RCR A P R) : MV 2 1 mtX11_wasRefused [.inr (.inr (some (0, 0))), .inl (nI k)] (hp A B) (Ret (some (.inl (b2 (wrS P (R.getD k d0).1)))) (hp A B)) := by
  have h24 := hR.2.1
  obtain ⟨hq, -, e21⟩ := hR.2.2 k hk
  have hen := m_ended (B := B) hR.1 h24 k hk
  rw [e21] at hen
  refine MV_of caX11_wasRefused (L := [some (.inr (.inr (some (0, 0)))), some (.inl (nI k))]) rfl rfl ?_
  refine R_go 9999 rfl rfl trivial ?_
  refine R_cvr rfl (m_hasProgram (B := B) hS (okG_len hP)) rfl rfl rfl rfl rfl (Nat.le_of_ble_eq_true rfl) rfl ?_
  by_cases hPe : P = []
  · rw [isE.2 hPe, b2_0 (fun z => z.1 hPe)]
    refine R_br rfl rfl (fun _ => ?_) (fun h => absurd rfl h)
    repeat' (first
        | (refine R_br rfl rfl (fun hbr => absurd hbr (by first | decide | (with_reducible assumption))) (fun _ => ?_))
        | (refine R_br rfl rfl (fun _ => ?_) (fun hbr => absurd (by first | decide | (with_reducible assumption)) hbr))
        | (refine R_br rfl rfl (fun _ => ?_) (fun _ => ?_))
        | (refine R_ri rfl rfl ?_)
        | (refine R_rz rfl rfl (Or.inl rfl) ?_)
        | (refine R_rz rfl rfl (Or.inr rfl) ?_)
        | (refine R_rz rfl rfl (b2_01 _) ?_)
        | (refine R_rl rfl rfl ?_)
        | (refine R_rv rfl rfl ?_)
        | (refine R_sw _ rfl rfl rfl ?_)
        | (refine R_go 9999 rfl rfl trivial ?_)
        | (refine R_go 9999 rfl rfl (by first | (show _ ∨ _; decide) | (show (_ ∨ _) ∧ (_ ∨ _); decide) | (show (_ ∨ _) ∧ (_ ∨ _) ∧ (_ ∨ _); decide)) ?_)
        | (refine R_go 9999 rfl rfl ?_ ?_))
    exact ret_i rfl rfl
  · rw [isE.1 hPe]
    rw [reS_y hPe] at hen
    have hrl := rnS_le (okG_ne hP hPe) (R.getD k d0).1
    refine R_br rfl rfl (fun h => absurd h (by decide)) (fun _ => ?_)
    refine R_go 9999 rfl rfl trivial ?_
    refine R_cvr rfl (m_isWholeR (B := B) hR.1 h24 k hk hq) rfl rfl rfl rfl rfl (Nat.le_of_ble_eq_true rfl) rfl ?_
    rcases Classical.em (whS (R.getD k d0).1 8) with hw | hw
    · rw [b2_1 hw]
      refine R_br rfl rfl (fun h => absurd h (by decide)) (fun _ => ?_)
      refine R_go 9999 rfl rfl trivial ?_
      refine R_cvr rfl hen rfl rfl rfl rfl rfl (Nat.le_of_ble_eq_true rfl) rfl ?_
      by_cases h0 : (rnS (R.getD k d0).1 0 P).1 = 0
      · rw [b2_1 ⟨hPe, hw, h0⟩]
        refine R_br rfl rfl (fun _ => ?_) (fun h => absurd (by rw [h0]; rfl) h)
        repeat' (first
            | (refine R_br rfl rfl (fun hbr => absurd hbr (by first | decide | (with_reducible assumption))) (fun _ => ?_))
            | (refine R_br rfl rfl (fun _ => ?_) (fun hbr => absurd (by first | decide | (with_reducible assumption)) hbr))
            | (refine R_br rfl rfl (fun _ => ?_) (fun _ => ?_))
            | (refine R_ri rfl rfl ?_)
            | (refine R_rz rfl rfl (Or.inl rfl) ?_)
            | (refine R_rz rfl rfl (Or.inr rfl) ?_)
            | (refine R_rz rfl rfl (b2_01 _) ?_)
            | (refine R_rl rfl rfl ?_)
            | (refine R_rv rfl rfl ?_)
            | (refine R_sw _ rfl rfl rfl ?_)
            | (refine R_go 9999 rfl rfl trivial ?_)
            | (refine R_go 9999 rfl rfl (by first | (show _ ∨ _; decide) | (show (_ ∨ _) ∧ (_ ∨ _); decide) | (show (_ ∨ _) ∧ (_ ∨ _) ∧ (_ ∨ _); decide)) ?_)
            | (refine R_go 9999 rfl rfl ?_ ?_))
        exact ret_i rfl rfl
      · rw [b2_0 (fun z => h0 z.2.2)]
        refine R_br rfl rfl (fun h => absurd (nI_ij (b := 0) (by omega) (by omega) h) h0) (fun _ => ?_)
        repeat' (first
            | (refine R_br rfl rfl (fun hbr => absurd hbr (by first | decide | (with_reducible assumption))) (fun _ => ?_))
            | (refine R_br rfl rfl (fun _ => ?_) (fun hbr => absurd (by first | decide | (with_reducible assumption)) hbr))
            | (refine R_br rfl rfl (fun _ => ?_) (fun _ => ?_))
            | (refine R_ri rfl rfl ?_)
            | (refine R_rz rfl rfl (Or.inl rfl) ?_)
            | (refine R_rz rfl rfl (Or.inr rfl) ?_)
            | (refine R_rz rfl rfl (b2_01 _) ?_)
            | (refine R_rl rfl rfl ?_)
            | (refine R_rv rfl rfl ?_)
            | (refine R_sw _ rfl rfl rfl ?_)
            | (refine R_go 9999 rfl rfl trivial ?_)
            | (refine R_go 9999 rfl rfl (by first | (show _ ∨ _; decide) | (show (_ ∨ _) ∧ (_ ∨ _); decide) | (show (_ ∨ _) ∧ (_ ∨ _) ∧ (_ ∨ _); decide)) ?_)
            | (refine R_go 9999 rfl rfl ?_ ?_))
        exact ret_i rfl rfl
    · rw [b2_0 hw, b2_0 (fun z => hw z.2.1)]
      refine R_br rfl rfl (fun _ => ?_) (fun h => absurd rfl h)
      repeat' (first
          | (refine R_br rfl rfl (fun hbr => absurd hbr (by first | decide | (with_reducible assumption))) (fun _ => ?_))
          | (refine R_br rfl rfl (fun _ => ?_) (fun hbr => absurd (by first | decide | (with_reducible assumption)) hbr))
          | (refine R_br rfl rfl (fun _ => ?_) (fun _ => ?_))
          | (refine R_ri rfl rfl ?_)
          | (refine R_rz rfl rfl (Or.inl rfl) ?_)
          | (refine R_rz rfl rfl (Or.inr rfl) ?_)
          | (refine R_rz rfl rfl (b2_01 _) ?_)
          | (refine R_rl rfl rfl ?_)
          | (refine R_rv rfl rfl ?_)
          | (refine R_sw _ rfl rfl rfl ?_)
          | (refine R_go 9999 rfl rfl trivial ?_)
          | (refine R_go 9999 rfl rfl (by first | (show _ ∨ _; decide) | (show (_ ∨ _) ∧ (_ ∨ _); decide) | (show (_ ∨ _) ∧ (_ ∨ _) ∧ (_ ∨ _); decide)) ?_)
          | (refine R_go 9999 rfl rfl ?_ ?_))
      exact ret_i rfl rfl
abbrev FmRf (A A' : FI) : Prop := (∀ g, g ≠ 10 → g ≠ 25 → g ≠ 28 → A' g = A g) ∧ ∀ i, i < 24 → A' 25 i = A 25 i
theorem FmRf_rf {A : FI} : FmRf A A := ⟨fun _ _ _ _ => rfl, fun _ _ => rfl⟩
theorem FmRf_tr {A A1 A2 : FI} (a : FmRf A A1) (b : FmRf A1 A2) : FmRf A A2 := ⟨fun g h1 h2 h3 => (b.1 g h1 h2 h3).trans (a.1 g h1 h2 h3), fun i h1 => (b.2 i h1).trans (a.2 i h1)⟩
theorem FmRf_i {A A' : FI} {p : Nat} (h : Fi [25] p A A') (hp : 24 ≤ p) : FmRf A A' := ⟨fun g _ h2 _ => h.1 g (by simpa using h2), fun i hi => h.2 25 i (by omega)⟩
theorem FmRf_q {A A' : FI} {f : Nat} (h : FmQC f A A') : FmRf A A' := ⟨h.1, fun i hi => h.2.1 i (by omega) (by omega)⟩
theorem wh_20 {A : FI} {p : Nat} {q : Nat → Nat} (h : RPn p A q) (hw : whS q 8) : ∀ f, f < 8 → A 25 p f = nI (q f) ∧ q f ≤ 20 := fun f hf => by
  have h1 := h f hf
  have h2 := hw f hf
  rw [if_neg h2] at h1
  exact ⟨h1.1, h1.2.resolve_right h2⟩
abbrev RfC (A : FI) (B : FJ) (x : Int32) : Option AV → AH → Prop := fun r h' => ∃ A' B', h' = hp A' B' ∧ r = some (.inl x) ∧ FmRf A A' ∧ FmJ [11] B B'
theorem m_refusedC {F : FS} {LS : List (List Tk)} {P : List (List Tk × Nat)} {R : List Rw} (hW : WFF F) (hL : okL LS) (hP : okG P) {A : FI} {B : FJ} (hF : RCF A F) (hRL : RCL A LS) (hS : RS 6 A P []) (hR : RCR A P R) (r w : Int32) : MV 14 2 mtX11_refused [.inr (.inr (some (0, 0))), .inl r, .inl w] (hp A B) (RfC A B (rdA F LS P R r w)) := by
  have h24 := hR.2.1
  refine MV_of caX11_refused (L := [some (.inr (.inr (some (0, 0)))), some (.inl r), some (.inl w), none]) rfl rfl ?_
  unfold rdA
  have ret : ∀ x : Int32, RfC A B x (some (.inl x)) (hp A B) := fun x => ⟨A, B, rfl, rfl, FmRf_rf, FmJ_rf⟩
  refine R_go 9999 rfl rfl trivial ?_
  refine R_cvr rfl (m_isRowC (B := B) hR.1 h24 r) rfl rfl rfl rfl rfl (Nat.le_of_ble_eq_true rfl) rfl ?_
  by_cases hr : 0 ≤ r.toInt ∧ r.toInt < R.length
  · rw [b2_1 hr, if_neg (fun z => z hr)]
    refine R_br rfl rfl (fun h => absurd h (by decide)) (fun _ => ?_)
    have k30 : ¬ (w ≠ 0 ∧ ¬ (10 ≤ w.toInt ∧ w.toInt ≤ 17)) → Rn 14 mtX11_refused 30 [some (.inr (.inr (some (0, 0)))), some (.inl r), some (.inl w), none] [] (hp A B) (RfC A B (@ite _ (wrS P (R.getD r.toNatClampNeg d0).1) (Classical.propDecidable _) (bwA F (R.getD r.toNatClampNeg d0).1 w (bsO F LS P (R.getD r.toNatClampNeg d0).1)) (-103))) := fun hw => by
      obtain ⟨k, hk, rfl⟩ := vp_in_of (x := r) (n := R.length) (vp_of hr.1 hr.2) (by omega)
      rw [nI_clamp (show k < 2 ^ 31 by omega)]
      obtain ⟨hq, -, -⟩ := hR.2.2 k hk
      refine R_go 9999 rfl rfl trivial ?_
      refine R_cvr rfl (m_wasRefused (B := B) hk hP hS hR) rfl rfl rfl rfl rfl (Nat.le_of_ble_eq_true rfl) rfl ?_
      rcases Classical.em (wrS P (R.getD k d0).1) with hwr | hwr
      · rw [b2_1 hwr, ite_py hwr]
        refine R_br rfl rfl (fun h => absurd h (by decide)) (fun _ => ?_)
        refine R_go 9999 rfl rfl trivial ?_
        refine R_cv rfl (m_copyTo (p := 26) (B := B) hR.1 h24 k hk hq (by omega)) rfl rfl rfl rfl rfl (Nat.le_of_ble_eq_true rfl) rfl ?_
        rintro z h' ⟨A1, rfl, rfl, hF1, hq1⟩
        have hg1 : ∀ g, g ≠ 25 → A1 g = A g := fun g hg => hF1.1 g (by simpa using hg)
        have hpq : PrQ A1 F LS P (R.getD k d0).1 := ⟨fun g hg => by rw [hg1 2 (by decide)]; exact hF g hg, ⟨by rw [hg1 1 (by decide)]; exact hRL.1, fun j hj => RS_fr (hRL.2 j hj) (by rw [hg1 4 (by decide)]) (by rw [hg1 5 (by decide)]) (by rw [hg1 6 (by decide)])⟩, RS_fr hS (by rw [hg1 4 (by decide)]) (by rw [hg1 5 (by decide)]) (by rw [hg1 6 (by decide)]), wh_20 hq1 hwr.2.1⟩
        refine R_go 9999 rfl rfl trivial ?_
        refine R_cv rfl (m_findQ (B := B) hW hL (okG_ne hP hwr.1) hpq) rfl rfl rfl rfl rfl (Nat.le_of_ble_eq_true rfl) rfl ?_
        rintro z h' ⟨A2, B2, o, rfl, rfl, hF2, hJ2, hC2, hM2⟩
        rw [bsO_eq hM2]
        have hF02 : FmRf A A2 := FmRf_tr (FmRf_i hF1 (by omega)) (FmRf_q hF2)
        refine R_go 9999 rfl rfl trivial ?_
        cases o with
        | none =>
          have e2 := hC2.1 rfl
          rw [e2]
          by_cases w0 : w = 0
          · refine R_br rfl rfl (fun _ => ?_) (fun h => absurd w0 h)
            repeat' (first
                | (refine R_br rfl rfl (fun hbr => absurd hbr (by first | decide | (with_reducible assumption))) (fun _ => ?_))
                | (refine R_br rfl rfl (fun _ => ?_) (fun hbr => absurd (by first | decide | (with_reducible assumption)) hbr))
                | (refine R_br rfl rfl (fun _ => ?_) (fun _ => ?_))
                | (refine R_ri rfl rfl ?_)
                | (refine R_rz rfl rfl (Or.inl rfl) ?_)
                | (refine R_rz rfl rfl (Or.inr rfl) ?_)
                | (refine R_rz rfl rfl (b2_01 _) ?_)
                | (refine R_rl rfl rfl ?_)
                | (refine R_rv rfl rfl ?_)
                | (refine R_sw _ rfl rfl rfl ?_)
                | (refine R_go 9999 rfl rfl trivial ?_)
                | (refine R_go 9999 rfl rfl (by first | (show _ ∨ _; decide) | (show (_ ∨ _) ∧ (_ ∨ _); decide) | (show (_ ∨ _) ∧ (_ ∨ _) ∧ (_ ∨ _); decide)) ?_)
                | (refine R_go 9999 rfl rfl ?_ ?_))
            exact ⟨A2, B2, rfl, rfl, hF02, hJ2⟩
          · refine R_br rfl rfl (fun h => absurd h w0) (fun _ => ?_)
            repeat' (first
                | (refine R_br rfl rfl (fun hbr => absurd hbr (by first | decide | (with_reducible assumption))) (fun _ => ?_))
                | (refine R_br rfl rfl (fun _ => ?_) (fun hbr => absurd (by first | decide | (with_reducible assumption)) hbr))
                | (refine R_br rfl rfl (fun _ => ?_) (fun _ => ?_))
                | (refine R_ri rfl rfl ?_)
                | (refine R_rz rfl rfl (Or.inl rfl) ?_)
                | (refine R_rz rfl rfl (Or.inr rfl) ?_)
                | (refine R_rz rfl rfl (b2_01 _) ?_)
                | (refine R_rl rfl rfl ?_)
                | (refine R_rv rfl rfl ?_)
                | (refine R_sw _ rfl rfl rfl ?_)
                | (refine R_go 9999 rfl rfl trivial ?_)
                | (refine R_go 9999 rfl rfl (by first | (show _ ∨ _; decide) | (show (_ ∨ _) ∧ (_ ∨ _); decide) | (show (_ ∨ _) ∧ (_ ∨ _) ∧ (_ ∨ _); decide)) ?_)
                | (refine R_go 9999 rfl rfl ?_ ?_))
            exact ⟨A2, B2, rfl, rfl, hF02, hJ2⟩
        | some z =>
          obtain ⟨e2, e3⟩ := hC2.2 z rfl
          have hb := csN_b hW (q0 := (R.getD k d0).1) (q := z) 8 (Nat.le_refl _) (fun j hj => ⟨(e3 j hj).2, (hpq.2.2.2 j hj).2⟩)
          rw [e2]
          unfold bwA
          dsimp only
          by_cases w0 : w = 0
          · rw [if_pos w0]
            refine R_br rfl rfl (fun _ => ?_) (fun h => absurd w0 h)
            repeat' (first
                | (refine R_br rfl rfl (fun hbr => absurd hbr (by first | decide | (with_reducible assumption))) (fun _ => ?_))
                | (refine R_br rfl rfl (fun _ => ?_) (fun hbr => absurd (by first | decide | (with_reducible assumption)) hbr))
                | (refine R_br rfl rfl (fun _ => ?_) (fun _ => ?_))
                | (refine R_ri rfl rfl ?_)
                | (refine R_rz rfl rfl (Or.inl rfl) ?_)
                | (refine R_rz rfl rfl (Or.inr rfl) ?_)
                | (refine R_rz rfl rfl (b2_01 _) ?_)
                | (refine R_rl rfl rfl ?_)
                | (refine R_rv rfl rfl ?_)
                | (refine R_sw _ rfl rfl rfl ?_)
                | (refine R_go 9999 rfl rfl trivial ?_)
                | (refine R_go 9999 rfl rfl (by first | (show _ ∨ _; decide) | (show (_ ∨ _) ∧ (_ ∨ _); decide) | (show (_ ∨ _) ∧ (_ ∨ _) ∧ (_ ∨ _); decide)) ?_)
                | (refine R_go 9999 rfl rfl ?_ ?_))
            exact ⟨A2, B2, rfl, rfl, hF02, hJ2⟩
          · rw [if_neg w0]
            have hwb : 10 ≤ w.toInt ∧ w.toInt ≤ 17 := Classical.byContradiction (fun z => hw ⟨w0, z⟩)
            have e10 : (w - 10).toInt = w.toInt - 10 := by
              rw [Int32.toInt_sub, (by decide : (10 : Int32).toInt = 10)]
              exact Int.bmod_eq_of_le (by omega) (by omega)
            obtain ⟨j, hj, ej⟩ := vp_in_of (x := w - 10) (n := 8) (vp_of (by omega) (by omega)) (by decide)
            have cj : (nI j).toNatClampNeg = j := nI_clamp (by omega)
            have hnum := m_number 25 (nI j) A2 B2
            rw [if_pos (show 0 ≤ nI j ∧ nI j < 8 from nI_01 hj (Nat.le_of_ble_eq_true rfl)), cj, (e3 j hj).1] at hnum
            have hn2 : MV 2 1 mtX2_number [.inr (.inr (some (28, 0))), .inl (nI j)] (hp A2 B2) (Ret (some (.inl (nI (z j)))) (hp A2 B2)) := by
              refine MV_of caX2_number (L := [some (.inr (.inr (some (28, 0)))), some (.inl (nI j))]) rfl rfl ?_
              refine R_go 9999 rfl rfl trivial ?_
              refine R_cvr rfl hnum rfl rfl rfl rfl rfl (Nat.le_of_ble_eq_true rfl) rfl ?_
              exact R_ri rfl rfl (ret_i rfl rfl)
            refine R_br rfl rfl (fun h => absurd h w0) (fun _ => ?_)
            refine R_go 9999 rfl rfl trivial ?_
            refine R_br rfl rfl (fun h => absurd h (nI_nn (by omega))) (fun _ => ?_)
            refine R_go 9999 rfl rfl trivial ?_
            rw [ej, cj]
            refine R_cvr rfl hn2 rfl rfl rfl rfl rfl (Nat.le_of_ble_eq_true rfl) rfl ?_
            refine R_ri rfl rfl ?_
            exact ⟨A2, B2, rfl, rfl, hF02, hJ2⟩
      · rw [b2_0 hwr, ite_pn hwr]
        refine R_br rfl rfl (fun _ => ?_) (fun h => absurd rfl h)
        repeat' (first
            | (refine R_br rfl rfl (fun hbr => absurd hbr (by first | decide | (with_reducible assumption))) (fun _ => ?_))
            | (refine R_br rfl rfl (fun _ => ?_) (fun hbr => absurd (by first | decide | (with_reducible assumption)) hbr))
            | (refine R_br rfl rfl (fun _ => ?_) (fun _ => ?_))
            | (refine R_ri rfl rfl ?_)
            | (refine R_rz rfl rfl (Or.inl rfl) ?_)
            | (refine R_rz rfl rfl (Or.inr rfl) ?_)
            | (refine R_rz rfl rfl (b2_01 _) ?_)
            | (refine R_rl rfl rfl ?_)
            | (refine R_rv rfl rfl ?_)
            | (refine R_sw _ rfl rfl rfl ?_)
            | (refine R_go 9999 rfl rfl trivial ?_)
            | (refine R_go 9999 rfl rfl (by first | (show _ ∨ _; decide) | (show (_ ∨ _) ∧ (_ ∨ _); decide) | (show (_ ∨ _) ∧ (_ ∨ _) ∧ (_ ∨ _); decide)) ?_)
            | (refine R_go 9999 rfl rfl ?_ ?_))
        exact ret _
    refine R_go 9999 rfl rfl trivial ?_
    by_cases w0 : w = 0
    · rw [if_neg (fun z => z.1 w0)]
      exact R_br rfl rfl (fun _ => k30 (fun z => z.1 w0)) (fun h => absurd w0 h)
    · refine R_br rfl rfl (fun h => absurd h w0) (fun _ => ?_)
      refine R_go 9999 rfl rfl trivial ?_
      by_cases h10 : 10 ≤ w.toInt
      · refine R_br rfl rfl (fun h => absurd h (by (simp only [i_eq, i_lt, i_le, Int32.reduceToInt, true_and, and_true, false_and, and_false, or_false, false_or, or_true, true_or, ne_eq] at *; first | done | omega))) (fun _ => ?_)
        refine R_go 9999 rfl rfl trivial ?_
        by_cases h17 : w.toInt ≤ 17
        · rw [if_neg (fun z => z.2 ⟨h10, h17⟩)]
          exact R_br rfl rfl (fun _ => k30 (fun z => z.2 ⟨h10, h17⟩)) (fun h => absurd (by (simp only [i_eq, i_lt, i_le, Int32.reduceToInt, true_and, and_true, false_and, and_false, or_false, false_or, or_true, true_or, ne_eq] at *; first | done | omega)) h)
        · rw [if_pos ⟨w0, fun z => h17 z.2⟩]
          refine R_br rfl rfl (fun h => absurd h (by (simp only [i_eq, i_lt, i_le, Int32.reduceToInt, true_and, and_true, false_and, and_false, or_false, false_or, or_true, true_or, ne_eq] at *; first | done | omega))) (fun _ => ?_)
          repeat' (first
              | (refine R_br rfl rfl (fun hbr => absurd hbr (by first | decide | (with_reducible assumption))) (fun _ => ?_))
              | (refine R_br rfl rfl (fun _ => ?_) (fun hbr => absurd (by first | decide | (with_reducible assumption)) hbr))
              | (refine R_br rfl rfl (fun _ => ?_) (fun _ => ?_))
              | (refine R_ri rfl rfl ?_)
              | (refine R_rz rfl rfl (Or.inl rfl) ?_)
              | (refine R_rz rfl rfl (Or.inr rfl) ?_)
              | (refine R_rz rfl rfl (b2_01 _) ?_)
              | (refine R_rl rfl rfl ?_)
              | (refine R_rv rfl rfl ?_)
              | (refine R_sw _ rfl rfl rfl ?_)
              | (refine R_go 9999 rfl rfl trivial ?_)
              | (refine R_go 9999 rfl rfl (by first | (show _ ∨ _; decide) | (show (_ ∨ _) ∧ (_ ∨ _); decide) | (show (_ ∨ _) ∧ (_ ∨ _) ∧ (_ ∨ _); decide)) ?_)
              | (refine R_go 9999 rfl rfl ?_ ?_))
          exact ret _
      · rw [if_pos ⟨w0, fun z => h10 z.1⟩]
        refine R_br rfl rfl (fun _ => ?_) (fun h => absurd (by (simp only [i_eq, i_lt, i_le, Int32.reduceToInt, true_and, and_true, false_and, and_false, or_false, false_or, or_true, true_or, ne_eq] at *; first | done | omega)) h)
        repeat' (first
            | (refine R_br rfl rfl (fun hbr => absurd hbr (by first | decide | (with_reducible assumption))) (fun _ => ?_))
            | (refine R_br rfl rfl (fun _ => ?_) (fun hbr => absurd (by first | decide | (with_reducible assumption)) hbr))
            | (refine R_br rfl rfl (fun _ => ?_) (fun _ => ?_))
            | (refine R_ri rfl rfl ?_)
            | (refine R_rz rfl rfl (Or.inl rfl) ?_)
            | (refine R_rz rfl rfl (Or.inr rfl) ?_)
            | (refine R_rz rfl rfl (b2_01 _) ?_)
            | (refine R_rl rfl rfl ?_)
            | (refine R_rv rfl rfl ?_)
            | (refine R_sw _ rfl rfl rfl ?_)
            | (refine R_go 9999 rfl rfl trivial ?_)
            | (refine R_go 9999 rfl rfl (by first | (show _ ∨ _; decide) | (show (_ ∨ _) ∧ (_ ∨ _); decide) | (show (_ ∨ _) ∧ (_ ∨ _) ∧ (_ ∨ _); decide)) ?_)
            | (refine R_go 9999 rfl rfl ?_ ?_))
        exact ret _
  · rw [b2_0 hr, if_pos hr]
    refine R_br rfl rfl (fun _ => ?_) (fun h => absurd rfl h)
    repeat' (first
        | (refine R_br rfl rfl (fun hbr => absurd hbr (by first | decide | (with_reducible assumption))) (fun _ => ?_))
        | (refine R_br rfl rfl (fun _ => ?_) (fun hbr => absurd (by first | decide | (with_reducible assumption)) hbr))
        | (refine R_br rfl rfl (fun _ => ?_) (fun _ => ?_))
        | (refine R_ri rfl rfl ?_)
        | (refine R_rz rfl rfl (Or.inl rfl) ?_)
        | (refine R_rz rfl rfl (Or.inr rfl) ?_)
        | (refine R_rz rfl rfl (b2_01 _) ?_)
        | (refine R_rl rfl rfl ?_)
        | (refine R_rv rfl rfl ?_)
        | (refine R_sw _ rfl rfl rfl ?_)
        | (refine R_go 9999 rfl rfl trivial ?_)
        | (refine R_go 9999 rfl rfl (by first | (show _ ∨ _; decide) | (show (_ ∨ _) ∧ (_ ∨ _); decide) | (show (_ ∨ _) ∧ (_ ∨ _) ∧ (_ ∨ _); decide)) ?_)
        | (refine R_go 9999 rfl rfl ?_ ?_))
    exact ret _
