/-- no one of the first k laws bars the box -/
def nbS (bx : Nat → Int × Int) (LS : List (List Tk)) (k : Nat) : Prop := ∀ j, j < k → trB bx (LS.getD j []) ≠ 0
theorem nbS_s {bx : Nat → Int × Int} {LS : List (List Tk)} {k : Nat} : nbS bx LS (k + 1) ↔ nbS bx LS k ∧ trB bx (LS.getD k []) ≠ 0 := by
  constructor
  · intro h
    exact ⟨fun j hj => h j (by omega), h k (by omega)⟩
  · intro h j hj
    by_cases e : j = k
    · subst e; exact h.2
    · exact h.1 j (by omega)
def BBo (A : FI) (B : FJ) (x : Prop) : Option AV → AH → Prop := fun r h' => ∃ A' B', h' = hp A' B' ∧ r = some (.inl (b2 x)) ∧ FmSp A A' ∧ FmJ [13, 14] B B'
theorem RCL_Sp {LS : List (List Tk)} {A A' : FI} {ss : List Nat} (h : RCL A LS) (hF : FmO 12 [] ss A A') : RCL A' LS := ⟨by rw [hF.1 1 (by decide) (by simp)]; exact h.1, fun j hj => RS_fr (h.2 j hj) (by rw [hF.1 4 (by decide) (by simp)]) (by rw [hF.1 5 (by decide) (by simp)]) (by rw [hF.1 6 (by decide) (by simp)])⟩
theorem l_barsBox {LS : List (List Tk)} {g fr : Nat} {bx : Nat → Int × Int} (hg : (g = 16 ∧ fr + 16 ≤ 2592) ∨ (g = 30 ∧ fr + 16 ≤ 16)) (h99 : b99 bx) (hL : okL LS) (A0 : FI) (B0 : FJ) : ∀ (m k : Nat) (A : FI) (B : FJ), k + m = LS.length → RCL A LS → SBx g fr A bx → FmSp A0 A → FmJ [13, 14] B0 B → nbS bx LS k → Rn 3 mtX3_barsBox 3 [some (.inr (.inr (some (1, 0)))), some (.inr (.inr (some (12, 0)))), some (.inr (.inr (some (g, 0)))), some (.inl (nI fr)), some (.inl (nI k))] [] (hp A B) (BBo A0 B0 (¬ nbS bx LS LS.length)) := by
  intro m
  have h6 := hL.1
  induction m with
  | zero =>
    intro k A B hk hR hx hF hJ hs
    have ek : LS.length = k := by omega
    have n1 : A 1 0 2 ≤ nI k := by rw [hR.1, ek]; exact Int32.le_refl _
    refine R_go 9999 rfl rfl trivial ?_
    refine R_br rfl rfl (fun _ => ?_) (fun h => absurd n1 h)
    repeat' (first
        | (refine R_br rfl rfl (fun hbr => absurd hbr (by first | decide | (with_reducible assumption))) (fun _ => ?_))
        | (refine R_br rfl rfl (fun _ => ?_) (fun hbr => absurd (by first | decide | (with_reducible assumption)) hbr))
        | (refine R_br rfl rfl (fun _ => ?_) (fun _ => ?_))
        | (refine R_ri rfl rfl ?_)
        | (refine R_rz rfl rfl (Or.inl rfl) ?_)
        | (refine R_rz rfl rfl (Or.inr rfl) ?_)
        | (refine R_rz rfl rfl (b2_01 _) ?_)
        | (refine R_rl rfl rfl ?_)
        | (refine R_rv rfl rfl ?_)
        | (refine R_sw _ rfl rfl rfl ?_)
        | (refine R_go 9999 rfl rfl trivial ?_)
        | (refine R_go 9999 rfl rfl (by first | (show _ ∨ _; decide) | (show (_ ∨ _) ∧ (_ ∨ _); decide) | (show (_ ∨ _) ∧ (_ ∨ _) ∧ (_ ∨ _); decide)) ?_)
        | (refine R_go 9999 rfl rfl ?_ ?_))
    exact ⟨A, B, rfl, by rw [b2_0 (fun z => z (by rw [ek]; exact hs))], hF, hJ⟩
  | succ m ih =>
    intro k A B hk hR hx hF hJ hs
    have hkl : k < LS.length := by omega
    have tk := ti k (by omega)
    have tl := ti LS.length (by omega)
    have ck : (nI k).toNatClampNeg = k := nI_clamp (by omega)
    have hvk : vp_in (nI k) 6 := vpN (n := 6) (by omega) rfl
    have heo := m_endsOverL (s := k) (B := B) hg h99 hx (hL.2 k hkl).1 (hL.2 k hkl).2 (hR.2 k hkl)
    refine R_go 9999 rfl rfl trivial ?_
    refine R_br rfl rfl (fun h => absurd h (by rw [hR.1]; (simp only [i_eq, i_lt, i_le, Int32.reduceToInt, true_and, and_true, false_and, and_false, or_false, false_or, or_true, true_or, ne_eq] at *; first | done | omega))) (fun _ => ?_)
    refine R_go 9999 rfl rfl trivial ?_
    refine R_br rfl rfl (fun h => absurd h (by (simp only [i_eq, i_lt, i_le, Int32.reduceToInt, true_and, and_true, false_and, and_false, or_false, false_or, or_true, true_or, ne_eq] at *; first | done | omega))) (fun _ => ?_)
    refine R_go 9999 rfl rfl ⟨hvk, hvk⟩ ?_
    rw [ck]
    refine R_cv rfl heo rfl rfl rfl rfl rfl (Nat.le_of_ble_eq_true rfl) rfl ?_
    rintro r h' ⟨A1, B1, rfl, ⟨v, rfl⟩, hR1, hv2, hF1, hJ1⟩
    have hwn := m_wasNever hv2 hR1
    refine R_go 9999 rfl rfl trivial ?_
    refine R_cvr rfl hwn rfl rfl rfl rfl rfl (Nat.le_of_ble_eq_true rfl) rfl ?_
    by_cases h0 : trB bx (LS.getD k []) = 0
    · rw [if_pos h0]
      refine R_br rfl rfl (fun h => absurd h (by decide)) (fun _ => ?_)
      repeat' (first
          | (refine R_br rfl rfl (fun hbr => absurd hbr (by first | decide | (with_reducible assumption))) (fun _ => ?_))
          | (refine R_br rfl rfl (fun _ => ?_) (fun hbr => absurd (by first | decide | (with_reducible assumption)) hbr))
          | (refine R_br rfl rfl (fun _ => ?_) (fun _ => ?_))
          | (refine R_ri rfl rfl ?_)
          | (refine R_rz rfl rfl (Or.inl rfl) ?_)
          | (refine R_rz rfl rfl (Or.inr rfl) ?_)
          | (refine R_rz rfl rfl (b2_01 _) ?_)
          | (refine R_rl rfl rfl ?_)
          | (refine R_rv rfl rfl ?_)
          | (refine R_sw _ rfl rfl rfl ?_)
          | (refine R_go 9999 rfl rfl trivial ?_)
          | (refine R_go 9999 rfl rfl (by first | (show _ ∨ _; decide) | (show (_ ∨ _) ∧ (_ ∨ _); decide) | (show (_ ∨ _) ∧ (_ ∨ _) ∧ (_ ∨ _); decide)) ?_)
          | (refine R_go 9999 rfl rfl ?_ ?_))
      exact ⟨A1, B1, rfl, by rw [b2_1 (fun z => z k hkl h0)], FmO_tr hF hF1, FmJ_tr hJ hJ1⟩
    · rw [if_neg h0]
      refine R_br rfl rfl (fun _ => ?_) (fun h => absurd rfl h)
      refine R_go 3 rfl rfl trivial ?_
      rw [nI_1]
      exact ih (k + 1) A1 B1 (by omega) (RCL_Sp hR hF1) (SBx_fr hx (by omega) hF1) (FmO_tr hF hF1) (FmJ_tr hJ hJ1) (nbS_s.mpr ⟨hs, h0⟩)
theorem m_barsBox {LS : List (List Tk)} {g fr : Nat} {bx : Nat → Int × Int} {A : FI} {B : FJ} (hg : (g = 16 ∧ fr + 16 ≤ 2592) ∨ (g = 30 ∧ fr + 16 ≤ 16)) (h99 : b99 bx) (hL : okL LS) (hR : RCL A LS) (hx : SBx g fr A bx) : MV 3 3 mtX3_barsBox [.inr (.inr (some (1, 0))), .inr (.inr (some (12, 0))), .inr (.inr (some (g, 0))), .inl (nI fr)] (hp A B) (BBo A B (¬ nbS bx LS LS.length)) := by
  refine MV_of caX3_barsBox (L := [some (.inr (.inr (some (1, 0)))), some (.inr (.inr (some (12, 0)))), some (.inr (.inr (some (g, 0)))), some (.inl (nI fr)), none]) rfl rfl ?_
  refine R_go 3 rfl rfl trivial ?_
  exact l_barsBox hg h99 hL A B LS.length 0 A B (by omega) hR hx FmO_rf FmJ_rf (fun j hj => by omega)
