theorem m_sameForC {F : FS} {LS : List (List Tk)} {P : List (List Tk × Nat)} {R : List Rw} (hW : WFF F) (hL : okL LS) (hP : okG P) {A : FI} {B : FJ} (hF : RCF A F) (hRL : RCL A LS) (hS : RS 6 A P []) (hR : RCR A P R) (r f v : Int32) : MV 14 3 mtX11_sameFor [.inr (.inr (some (0, 0))), .inl r, .inl f, .inl v] (hp A B) (RfC A B (sfA F LS P R r f v)) := by
  have h24 := hR.2.1
  refine MV_of caX11_sameFor (L := [some (.inr (.inr (some (0, 0)))), some (.inl r), some (.inl f), some (.inl v)]) rfl rfl ?_
  unfold sfA
  have ret : ∀ x : Int32, RfC A B x (some (.inl x)) (hp A B) := fun x => ⟨A, B, rfl, rfl, FmRf_rf, FmJ_rf⟩
  refine R_go 9999 rfl rfl trivial ?_
  refine R_cvr rfl (m_isRowC (B := B) hR.1 h24 r) rfl rfl rfl rfl rfl (Nat.le_of_ble_eq_true rfl) rfl ?_
  by_cases hr : 0 ≤ r.toInt ∧ r.toInt < R.length
  · rw [b2_1 hr]
    refine R_br rfl rfl (fun h => absurd h (by decide)) (fun _ => ?_)
    refine R_go 9999 rfl rfl trivial ?_
    by_cases hf : 0 ≤ f.toInt ∧ f.toInt < 8
    · rw [if_neg (fun z => z ⟨hr, hf⟩)]
      obtain ⟨g, hg, rfl⟩ := vp_in_of (x := f) (n := 8) (vp_of hf.1 (by omega)) (by decide)
      obtain ⟨k, hk, rfl⟩ := vp_in_of (x := r) (n := R.length) (vp_of hr.1 hr.2) (by omega)
      rw [nI_clamp (show k < 2 ^ 31 by omega), nI_clamp (show g < 2 ^ 31 by omega)]
      obtain ⟨hq, -, -⟩ := hR.2.2 k hk
      have hWg := hW.1 g hg
      refine R_csr rfl (m_isFieldT g hg _ _) rfl rfl rfl (Nat.le_of_ble_eq_true rfl) rfl ?_
      refine R_br rfl rfl (fun h => absurd h (by decide)) (fun _ => ?_)
      refine R_go 9999 rfl rfl trivial ?_
      refine R_cvr rfl (m_counts (B := B) hF hW g hg) rfl rfl rfl rfl rfl (Nat.le_of_ble_eq_true rfl) rfl ?_
      by_cases hc : F.1 g ≠ 1 ∧ F.1 g ≠ 2
      · rw [b2_1 hc, if_pos (Or.inl hc)]
        refine R_br rfl rfl (fun h => absurd h (by decide)) (fun _ => ?_)
        repeat' (first
            | (refine R_br rfl rfl (fun hbr => absurd hbr (by first | decide | (with_reducible assumption))) (fun _ => ?_))
            | (refine R_br rfl rfl (fun _ => ?_) (fun hbr => absurd (by first | decide | (with_reducible assumption)) hbr))
            | (refine R_br rfl rfl (fun _ => ?_) (fun _ => ?_))
            | (refine R_ri rfl rfl ?_)
            | (refine R_rz rfl rfl (Or.inl rfl) ?_)
            | (refine R_rz rfl rfl (Or.inr rfl) ?_)
            | (refine R_rz rfl rfl (b2_01 _) ?_)
            | (refine R_rl rfl rfl ?_)
            | (refine R_rv rfl rfl ?_)
            | (refine R_sw _ rfl rfl rfl ?_)
            | (refine R_go 9999 rfl rfl trivial ?_)
            | (refine R_go 9999 rfl rfl (by first | (show _ ∨ _; decide) | (show (_ ∨ _) ∧ (_ ∨ _); decide) | (show (_ ∨ _) ∧ (_ ∨ _) ∧ (_ ∨ _); decide)) ?_)
            | (refine R_go 9999 rfl rfl ?_ ?_))
        exact ret _
      · rw [b2_0 hc]
        refine R_br rfl rfl (fun _ => ?_) (fun h => absurd rfl h)
        refine R_go 9999 rfl rfl trivial ?_
        refine R_cvr rfl (m_isInSpan (B := B) hF hW g hg v) rfl rfl rfl rfl rfl (Nat.le_of_ble_eq_true rfl) rfl ?_
        by_cases hin : (F.2.1 g : Int) ≤ v.toInt ∧ v.toInt ≤ F.2.2.1 g
        · rw [b2_1 hin, if_neg (fun z => z.elim hc (fun z => z hin))]
          obtain ⟨x, hx, rfl⟩ := vp_in_of (x := v) (n := 21) (vp_of (by omega) (by omega)) (by decide)
          rw [nI_clamp (show x < 2 ^ 31 by omega)]
          refine R_br rfl rfl (fun h => absurd h (by decide)) (fun _ => ?_)
          refine R_go 9999 rfl rfl trivial ?_
          refine R_cvr rfl (m_wasRefused (B := B) hk hP hS hR) rfl rfl rfl rfl rfl (Nat.le_of_ble_eq_true rfl) rfl ?_
          rcases Classical.em (wrS P (R.getD k d0).1) with hwr | hwr
          · rw [b2_1 hwr, ite_py hwr]
            refine R_br rfl rfl (fun h => absurd h (by decide)) (fun _ => ?_)
            refine R_go 9999 rfl rfl trivial ?_
            refine R_cv rfl (m_copyTo (p := 26) (B := B) hR.1 h24 k hk hq (by omega)) rfl rfl rfl rfl rfl (Nat.le_of_ble_eq_true rfl) rfl ?_
            rintro z h' ⟨A1, rfl, rfl, hF1, hq1⟩
            have hg1 : ∀ g, g ≠ 25 → A1 g = A g := fun g hg => hF1.1 g (by simpa using hg)
            have hw20 := wh_20 hq1 hwr.2.1
            refine R_go 9999 rfl rfl trivial ?_
            refine R_cvv rfl (m_putP (p := 26) hg (nI x) A1 B) rfl rfl rfl rfl rfl (Nat.le_of_ble_eq_true rfl) rfl ?_
            generalize hA2 : up3 A1 25 26 g (nI x) = A2
            have hg2 : ∀ g, g ≠ 25 → A2 g = A g := fun g' hg' => by rw [← hA2, up3_g hg']; exact hg1 g' hg'
            have hF2 : FmRf A1 A2 := by rw [← hA2]; exact ⟨fun g _ h2 _ => up3_g h2, fun i hi => up3_i (by omega)⟩
            have hpq : PrQ A2 F LS P (stF (R.getD k d0).1 g x) := ⟨fun g hg => by rw [hg2 2 (by decide)]; exact hF g hg, ⟨by rw [hg2 1 (by decide)]; exact hRL.1, fun j hj => RS_fr (hRL.2 j hj) (by rw [hg2 4 (by decide)]) (by rw [hg2 5 (by decide)]) (by rw [hg2 6 (by decide)])⟩, RS_fr hS (by rw [hg2 4 (by decide)]) (by rw [hg2 5 (by decide)]) (by rw [hg2 6 (by decide)]), fun j hj => by
              by_cases e : j = g
              · subst e; rw [stF_y, ← hA2]; exact ⟨up3_self, by omega⟩
              · rw [stF_n e, ← hA2, up3_s e]; exact hw20 j hj⟩
            clear hA2
            refine R_go 9999 rfl rfl trivial ?_
            refine R_cv rfl (m_findQ (B := B) hW hL (okG_ne hP hwr.1) hpq) rfl rfl rfl rfl rfl (Nat.le_of_ble_eq_true rfl) rfl ?_
            rintro z h' ⟨A3, B3, o, rfl, rfl, hF3, hJ3, hC3, hM3⟩
            rw [bsO_eq hM3]
            have hF03 : FmRf A A3 := FmRf_tr (FmRf_i hF1 (by omega)) (FmRf_tr hF2 (FmRf_q hF3))
            refine R_ri rfl rfl ?_
            cases o with
            | none => exact ⟨A3, B3, rfl, by rw [hC3.1 rfl]; rfl, hF03, hJ3⟩
            | some z => exact ⟨A3, B3, rfl, by rw [(hC3.2 z rfl).1]; rfl, hF03, hJ3⟩
          · rw [b2_0 hwr, ite_pn hwr]
            refine R_br rfl rfl (fun _ => ?_) (fun h => absurd rfl h)
            repeat' (first
                | (refine R_br rfl rfl (fun hbr => absurd hbr (by first | decide | (with_reducible assumption))) (fun _ => ?_))
                | (refine R_br rfl rfl (fun _ => ?_) (fun hbr => absurd (by first | decide | (with_reducible assumption)) hbr))
                | (refine R_br rfl rfl (fun _ => ?_) (fun _ => ?_))
                | (refine R_ri rfl rfl ?_)
                | (refine R_rz rfl rfl (Or.inl rfl) ?_)
                | (refine R_rz rfl rfl (Or.inr rfl) ?_)
                | (refine R_rz rfl rfl (b2_01 _) ?_)
                | (refine R_rl rfl rfl ?_)
                | (refine R_rv rfl rfl ?_)
                | (refine R_sw _ rfl rfl rfl ?_)
                | (refine R_go 9999 rfl rfl trivial ?_)
                | (refine R_go 9999 rfl rfl (by first | (show _ ∨ _; decide) | (show (_ ∨ _) ∧ (_ ∨ _); decide) | (show (_ ∨ _) ∧ (_ ∨ _) ∧ (_ ∨ _); decide)) ?_)
                | (refine R_go 9999 rfl rfl ?_ ?_))
            exact ret _
        · rw [b2_0 hin, if_pos (Or.inr hin)]
          refine R_br rfl rfl (fun _ => ?_) (fun h => absurd rfl h)
          repeat' (first
              | (refine R_br rfl rfl (fun hbr => absurd hbr (by first | decide | (with_reducible assumption))) (fun _ => ?_))
              | (refine R_br rfl rfl (fun _ => ?_) (fun hbr => absurd (by first | decide | (with_reducible assumption)) hbr))
              | (refine R_br rfl rfl (fun _ => ?_) (fun _ => ?_))
              | (refine R_ri rfl rfl ?_)
              | (refine R_rz rfl rfl (Or.inl rfl) ?_)
              | (refine R_rz rfl rfl (Or.inr rfl) ?_)
              | (refine R_rz rfl rfl (b2_01 _) ?_)
              | (refine R_rl rfl rfl ?_)
              | (refine R_rv rfl rfl ?_)
              | (refine R_sw _ rfl rfl rfl ?_)
              | (refine R_go 9999 rfl rfl trivial ?_)
              | (refine R_go 9999 rfl rfl (by first | (show _ ∨ _; decide) | (show (_ ∨ _) ∧ (_ ∨ _); decide) | (show (_ ∨ _) ∧ (_ ∨ _) ∧ (_ ∨ _); decide)) ?_)
              | (refine R_go 9999 rfl rfl ?_ ?_))
          exact ret _
    · rw [if_pos (fun z => hf z.2)]
      refine R_csr rfl (m_isFieldN f hf _ _) rfl rfl rfl (Nat.le_of_ble_eq_true rfl) rfl ?_
      refine R_br rfl rfl (fun _ => ?_) (fun h => absurd rfl h)
      repeat' (first
          | (refine R_br rfl rfl (fun hbr => absurd hbr (by first | decide | (with_reducible assumption))) (fun _ => ?_))
          | (refine R_br rfl rfl (fun _ => ?_) (fun hbr => absurd (by first | decide | (with_reducible assumption)) hbr))
          | (refine R_br rfl rfl (fun _ => ?_) (fun _ => ?_))
          | (refine R_ri rfl rfl ?_)
          | (refine R_rz rfl rfl (Or.inl rfl) ?_)
          | (refine R_rz rfl rfl (Or.inr rfl) ?_)
          | (refine R_rz rfl rfl (b2_01 _) ?_)
          | (refine R_rl rfl rfl ?_)
          | (refine R_rv rfl rfl ?_)
          | (refine R_sw _ rfl rfl rfl ?_)
          | (refine R_go 9999 rfl rfl trivial ?_)
          | (refine R_go 9999 rfl rfl (by first | (show _ ∨ _; decide) | (show (_ ∨ _) ∧ (_ ∨ _); decide) | (show (_ ∨ _) ∧ (_ ∨ _) ∧ (_ ∨ _); decide)) ?_)
          | (refine R_go 9999 rfl rfl ?_ ?_))
      exact ret _
  · rw [b2_0 hr, if_pos (fun z => hr z.1)]
    refine R_br rfl rfl (fun _ => ?_) (fun h => absurd rfl h)
    repeat' (first
        | (refine R_br rfl rfl (fun hbr => absurd hbr (by first | decide | (with_reducible assumption))) (fun _ => ?_))
        | (refine R_br rfl rfl (fun _ => ?_) (fun hbr => absurd (by first | decide | (with_reducible assumption)) hbr))
        | (refine R_br rfl rfl (fun _ => ?_) (fun _ => ?_))
        | (refine R_ri rfl rfl ?_)
        | (refine R_rz rfl rfl (Or.inl rfl) ?_)
        | (refine R_rz rfl rfl (Or.inr rfl) ?_)
        | (refine R_rz rfl rfl (b2_01 _) ?_)
        | (refine R_rl rfl rfl ?_)
        | (refine R_rv rfl rfl ?_)
        | (refine R_sw _ rfl rfl rfl ?_)
        | (refine R_go 9999 rfl rfl trivial ?_)
        | (refine R_go 9999 rfl rfl (by first | (show _ ∨ _; decide) | (show (_ ∨ _) ∧ (_ ∨ _); decide) | (show (_ ∨ _) ∧ (_ ∨ _) ∧ (_ ∨ _); decide)) ?_)
        | (refine R_go 9999 rfl rfl ?_ ?_))
    exact ret _
