theorem l_cpL {n b : Nat} (hn : n ≤ 80) (hb : b < 6) {Q : Option AV → AH → Prop} (A0 : FI) (B : FJ) (kk : ∀ A, FmO 31 [47, 48] [] A0 A → (∀ i, i < n → A 47 0 (80 * b + i) = A0 37 0 i ∧ A 48 0 (80 * b + i) = A0 38 0 i) → (∀ i, i < 80 * b → A 47 0 i = A0 47 0 i ∧ A 48 0 i = A0 48 0 i) → ∀ o, Rn 7 mtX12_law 160 [some (.inr (.inr (some (31, 0)))), some (.inl 1), some (.inl 1), o] [] (hp A B) Q) (h15 : A0 31 0 15 = nI n) (h28 : A0 31 0 28 = nI b) : ∀ (m k : Nat) (A : FI), k + m = n → FmO 31 [47, 48] [] A0 A → (∀ i, i < k → A 47 0 (80 * b + i) = A0 37 0 i ∧ A 48 0 (80 * b + i) = A0 38 0 i) → (∀ i, i < 80 * b → A 47 0 i = A0 47 0 i ∧ A 48 0 i = A0 48 0 i) → Rn 7 mtX12_law 106 [some (.inr (.inr (some (31, 0)))), some (.inl 1), some (.inl 1), some (.inl (nI k))] [] (hp A B) Q := by
  intro m
  induction m with
  | zero =>
    intro k A hk hF hA hB
    have : k = n := by omega
    subst this
    have n1 : A 31 0 15 ≤ nI k := by rw [hF.2 15 (by simp), h15]; exact Int32.le_refl _
    repeat' (first
        | (refine R_stop 160 rfl rfl ?_)
        | (refine R_br rfl rfl (fun hbr => absurd hbr (by first | decide | (with_reducible assumption))) (fun _ => ?_))
        | (refine R_br rfl rfl (fun _ => ?_) (fun hbr => absurd (by first | decide | (with_reducible assumption)) hbr))
        | (refine R_br rfl rfl (fun _ => ?_) (fun _ => ?_))
        | (refine R_ri rfl rfl ?_)
        | (refine R_rz rfl rfl (Or.inl rfl) ?_)
        | (refine R_rz rfl rfl (Or.inr rfl) ?_)
        | (refine R_rz rfl rfl (b2_01 _) ?_)
        | (refine R_rl rfl rfl ?_)
        | (refine R_rv rfl rfl ?_)
        | (refine R_sw _ rfl rfl rfl ?_)
        | (refine R_go 160 rfl rfl trivial ?_)
        | (refine R_go 160 rfl rfl (by first | (show _ ∨ _; decide) | (show (_ ∨ _) ∧ (_ ∨ _); decide) | (show (_ ∨ _) ∧ (_ ∨ _) ∧ (_ ∨ _); decide)) ?_)
        | (refine R_go 160 rfl rfl ?_ ?_))
    exact ⟨kk A hF hA hB _, trivial⟩
  | succ m ih =>
    intro k A hk hF hA hB
    have tk := ti k (by omega)
    have tn := ti n (by omega)
    have ck : (nI k).toNatClampNeg = k := nI_clamp (by omega)
    have hv : vp_in (nI k) 80 := vpN (n := 80) (by omega) rfl
    have e28 : A 31 0 28 = nI b := by rw [hF.2 28 (by simp)]; exact h28
    have e28' : ∀ i x, up3 A 47 0 i x 31 0 28 = nI b := fun i x => by rw [up3_g (by decide)]; exact e28
    have em : (80 : Int32) * nI b + nI k = nI (80 * b + k) := by rw [show (80 : Int32) * nI b = nI (80 * b) from pk_mul 80 b, nI_add]
    have hvm : vp_in (nI (80 * b + k)) 480 := vpN (n := 480) (by omega) rfl
    have cm : (nI (80 * b + k)).toNatClampNeg = 80 * b + k := nI_clamp (by omega)
    refine R_go 9999 rfl rfl trivial ?_
    refine R_br rfl rfl (fun h => absurd h (by rw [hF.2 15 (by simp), h15]; (simp only [i_eq, i_lt, i_le, Int32.reduceToInt, true_and, and_true, false_and, and_false, or_false, false_or, or_true, true_or, ne_eq] at *; first | done | omega))) (fun _ => ?_)
    refine R_go 106 rfl rfl ?_ ?_
    · rw [e28, em, cm, e28', em]; exact ⟨hvm, hv, hvm, hv⟩
    rw [e28, em, cm, e28', em, cm, ck, up3_g (show 38 ≠ 47 by decide), nI_1]
    refine ih (k + 1) _ (by omega) (FmO_tr hF (by first | exact FmO_rf | (repeat' (first | exact FmO_rf | (with_reducible assumption) | (refine FmO_up ?_ (by decide)) | (refine FmO_ug ?_ (by decide) (by decide)))))) (fun i hi => ?_) (fun i hi => ?_)
    · by_cases e : i = k
      · subst e
        rw [up3_g (by decide), up3_self, up3_self, hF.1 37 (by decide) (by decide), hF.1 38 (by decide) (by decide)]; exact ⟨rfl, rfl⟩
      · rw [up3_g (show 47 ≠ 48 by decide), up3_s (by omega), up3_s (by omega), up3_g (show 48 ≠ 47 by decide)]; exact hA i (by omega)
    · rw [up3_g (show 47 ≠ 48 by decide), up3_s (by omega), up3_s (by omega), up3_g (show 48 ≠ 47 by decide)]; exact hB i hi
abbrev FmQ (A A' : FI) : Prop := FmO 31 [37, 38, 39, 40, 41, 46, 47, 48] [5, 6, 7, 8, 9, 10, 11, 15, 18, 20, 28] A A'
theorem FmP_Q {A A' : FI} (h : FmP A A') : FmQ A A' := FmO_w h (by decide) (by decide)
theorem m_lawM {p : List Nat} {LS : List (List Tk)} {A : FI} {B : FJ} (hp1 : RMP A p) (hw : WFP p) (hR : RML A LS) (hL : okL LS) : MV 7 0 mtX12_law [.inr (.inr (some (31, 0)))] (hp A B) (fun r h' => ∃ A' r' p' LS', h' = hp A' B ∧ r = some (.inl r') ∧ lwR p LS r' p' LS' ∧ RMP A' p' ∧ RML A' LS' ∧ FmQ A A') := by
  have hl := hp1.2.1
  have hL6 := hL.1
  have tl := ti p.length (by omega)
  have hle := cRn_le 1 p k0
  have tc := ti (cRn 1 p k0).1 (by omega)
  have tL := ti LS.length (by omega)
  refine MV_of caX12_law (L := [some (.inr (.inr (some (31, 0)))), none, none, none]) rfl rfl ?_
  refine R_go 9999 rfl rfl trivial ?_
  refine R_cv rfl (m_faultOf 1 p (by decide) (WFP_255 hw) hp1) rfl rfl rfl rfl rfl (Nat.le_of_ble_eq_true rfl) rfl ?_
  rintro r h' ⟨A1, k', rfl, hF1, rfl, hk⟩
  have hp2 := RMP_fr hp1 hF1
  have hR1 := RML_fr hR hF1 (by decide) (by decide)
  have e5 := hp2.1
  have hno : ¬ whC 1 p → ∃ A' r' p' LS', hp A1 B = hp A' B ∧ (some (Sum.inl (-103)) : Option AV) = some (.inl r') ∧ lwR p LS r' p' LS' ∧ RMP A' p' ∧ RML A' LS' ∧ FmQ A A' := fun hc => ⟨A1, _, p, LS, rfl, rfl, Or.inr (Or.inr ⟨hc, rfl, rfl, rfl⟩), hp2, hR1, FmP_Q hF1⟩
  by_cases hfull : (cRn 1 p k0).1 = p.length
  · obtain ⟨hkr, hkm, hro⟩ := hk hfull
    have hiff : whC 1 p ↔ (k'.2.1 = 0 ∧ (((k'.1 = 2 ∨ k'.1 = 3) ∧ k'.2.2.2.1 = true) ∨ k'.1 = 4)) := by
      unfold whC
      constructor
      · rintro ⟨-, ⟨z, -⟩ | ⟨-, z1, z2⟩⟩
        · exact absurd z (by decide)
        · refine ⟨by rw [← hkr.2.1]; exact z1, ?_⟩
          rcases z2 with ⟨z2, z3⟩ | z2
          · left
            refine ⟨by rw [← hkr.1]; exact z2, ?_⟩
            rw [← (hkr.2.2.2 (by omega) (by omega)).2]; exact z3
          · right; rw [← hkr.1]; exact z2
      · rintro ⟨z1, z2⟩
        refine ⟨hfull, Or.inr ⟨rfl, by rw [hkr.2.1]; exact z1, ?_⟩⟩
        rcases z2 with ⟨z2, z3⟩ | z2
        · left
          refine ⟨by rw [hkr.1]; exact z2, ?_⟩
          rw [(hkr.2.2.2 (by rw [hkr.1]; omega) (by rw [hkr.1]; omega)).2]; exact z3
        · right; rw [hkr.1]; exact z2
    have hst : k'.1 ≤ 7 := by rw [← hkr.1]; exact (cRn_ok p k0 (okC_k0 (by decide))).1.2.1
    have hdp : k'.2.1 ≤ 80 := by
      have := (cRn_ok (sort := 1) p k0 (okC_k0 (by decide))).2
      rw [← hkr.2.1]
      simp only [k0] at this ⊢
      omega
    obtain ⟨e6, e7, e8, -, -, -⟩ := hkm
    obtain ⟨st, dep, un, rt, bg, ls⟩ := k'
    dsimp only at e6 e7 e8 hiff hst hdp
    have ts := ti st (by omega)
    have td := ti dep (by omega)
    rw [hfull]
    have n1 : nI p.length = A1 31 0 5 := e5.symm
    have hgo : whC 1 p → Rn 7 mtX12_law 73 [some (.inr (.inr (some (31, 0)))), some (.inl 1), some (.inl 1), none] [] (hp A1 B) (fun r h' => ∃ A' r' p' LS', h' = hp A' B ∧ r = some (.inl r') ∧ lwR p LS r' p' LS' ∧ RMP A' p' ∧ RML A' LS' ∧ FmQ A A') := by
      intro hc
      have e28 := hR1.1
      by_cases h6 : LS.length = 6
      · have n6 : A1 31 0 28 = 6 := by rw [e28, h6]; rfl
        repeat' (first
            | (refine R_br rfl rfl (fun hbr => absurd hbr (by first | decide | (with_reducible assumption))) (fun _ => ?_))
            | (refine R_br rfl rfl (fun _ => ?_) (fun hbr => absurd (by first | decide | (with_reducible assumption)) hbr))
            | (refine R_br rfl rfl (fun _ => ?_) (fun _ => ?_))
            | (refine R_ri rfl rfl ?_)
            | (refine R_rz rfl rfl (Or.inl rfl) ?_)
            | (refine R_rz rfl rfl (Or.inr rfl) ?_)
            | (refine R_rz rfl rfl (b2_01 _) ?_)
            | (refine R_rl rfl rfl ?_)
            | (refine R_rv rfl rfl ?_)
            | (refine R_sw _ rfl rfl rfl ?_)
            | (refine R_go 9999 rfl rfl trivial ?_)
            | (refine R_go 9999 rfl rfl (by first | (show _ ∨ _; decide) | (show (_ ∨ _) ∧ (_ ∨ _); decide) | (show (_ ∨ _) ∧ (_ ∨ _) ∧ (_ ∨ _); decide)) ?_)
            | (refine R_go 9999 rfl rfl ?_ ?_))
        exact ⟨A1, _, p, LS, rfl, rfl, Or.inr (Or.inl ⟨hc, h6, rfl, rfl, rfl⟩), hp2, hR1, FmP_Q hF1⟩
      · have n6 : ¬ A1 31 0 28 = 6 := by rw [e28]; (simp only [i_eq, i_lt, i_le, Int32.reduceToInt, true_and, and_true, false_and, and_false, or_false, false_or, or_true, true_or, ne_eq] at *; first | done | omega)
        obtain ⟨l, e, hlw, hll, hdn, hz⟩ := law_ok hc hl
        have hsz : szO (oF 1 p) ≤ 80 := by unfold szk at hz; omega
        refine R_go 9999 rfl rfl trivial ?_
        refine R_br rfl rfl (fun h => absurd h n6) (fun _ => ?_)
        refine R_go 9999 rfl rfl trivial ?_
        refine R_cv rfl (m_layDown 17 (by decide) (oF 1 p) hro hsz) rfl rfl rfl rfl rfl (Nat.le_of_ble_eq_true rfl) rfl ?_
        rintro r h' ⟨A2, rfl, rfl, hro2, hF2⟩
        rw [e] at hro2
        obtain ⟨a1, a2, a3, -⟩ := hro2
        have hfl : flat ([], l, []) = l := by simp [flat]
        rw [hfl] at a1 a2 a3
        have f28 : A2 31 0 28 = nI LS.length := by rw [hF2.2 28 (by decide)]; exact e28
        have cl : (nI LS.length).toNatClampNeg = LS.length := nI_clamp (by omega)
        refine R_go 106 rfl rfl ?_ ?_
        · rw [f28]; exact vpN (n := 6) (by omega) rfl
        rw [f28, cl, a1]
        have f15 : up3 A2 46 0 LS.length (nI l.length) 31 0 15 = nI l.length := by rw [up3_g (by decide)]; exact a1
        have f28' : up3 A2 46 0 LS.length (nI l.length) 31 0 28 = nI LS.length := by rw [up3_g (by decide)]; exact f28
        refine l_cpL hll (by omega) _ B (fun A3 hF3 h3 h3b o => ?_) f15 f28' l.length 0 _ (by omega) FmO_rf (fun i hi => by omega) (fun i _ => ⟨rfl, rfl⟩)
        have g28 : A3 31 0 28 = nI LS.length := by rw [hF3.2 28 (by simp)]; exact f28'
        have g46 : A3 46 = up3 A2 46 0 LS.length (nI l.length) 46 := hF3.1 46 (by decide) (by decide)
        refine R_go 9999 rfl rfl trivial ?_
        refine R_ri rfl rfl ?_
        rw [g28, nI_1, up3_s (show 28 ≠ 5 by decide), up3_self, nI_pred]
        refine ⟨_, _, [], LS ++ [l], rfl, rfl, Or.inl ⟨hc, by omega, rfl, rfl, by rw [e]⟩, ⟨up3_self, by simp, fun k hk => by simp at hk⟩, ⟨?_, fun j hj => ?_⟩, ?_⟩
        · rw [up3_s (by decide), up3_self]; simp
        · rw [List.length_append, List.length_singleton] at hj
          have q46 : ∀ x y, up3 (up3 A3 31 0 28 x) 31 0 5 y 46 0 j = up3 A2 46 0 LS.length (nI l.length) 46 0 j := fun x y => by rw [up3_g (by decide), up3_g (by decide), g46]
          have q47 : ∀ x y i, up3 (up3 A3 31 0 28 x) 31 0 5 y 47 0 i = A3 47 0 i := fun x y i => by rw [up3_g (by decide), up3_g (by decide)]
          have q48 : ∀ x y i, up3 (up3 A3 31 0 28 x) 31 0 5 y 48 0 i = A3 48 0 i := fun x y i => by rw [up3_g (by decide), up3_g (by decide)]
          simp only [q46, q47, q48]
          by_cases hjl : j = LS.length
          · subst hjl
            rw [gd_e]
            refine ⟨by rw [up3_self], fun k hk => ?_⟩
            obtain ⟨z1, z2⟩ := h3 k hk
            rw [z1, z2, up3_g (by decide), up3_g (by decide), a2 k (by simpa using hk), a3 k (by simpa using hk), gdm Prod.fst l k (0, 0) hk, gdm Prod.snd l k (0, 0) hk]
            exact ⟨rfl, rfl⟩
          · rw [gd_l (by omega)]
            obtain ⟨w1, w2⟩ := hR1.2 j (by omega)
            refine ⟨by rw [up3_s hjl, hF2.1 46 (by decide) (by decide)]; exact w1, fun k hk => ?_⟩
            obtain ⟨z1, z2⟩ := w2 k hk
            have hk80 : (LS.getD j []).length ≤ 80 := (hL.2 j (by omega)).2
            obtain ⟨v1, v2⟩ := h3b (80 * j + k) (by omega)
            rw [v1, v2, up3_g (by decide), up3_g (by decide), hF2.1 47 (by decide) (by decide), hF2.1 48 (by decide) (by decide)]
            exact ⟨z1, z2⟩
        · exact FmO_up (FmO_up (FmO_tr (FmO_ug (FmO_tr (FmP_Q hF1) (FmO_w hF2 (by decide) (by decide))) (by decide) (by decide)) (FmO_w hF3 (by decide) (by decide))) (by decide)) (by decide)
    cases rt with
    | true =>
      have n8 : ¬ A1 31 0 8 = 0 := by rw [e8]; decide
      repeat' (first
          | (refine R_stop 73 rfl rfl ?_)
          | (refine R_br rfl rfl (fun hbr => absurd hbr (by first | decide | (with_reducible assumption) | (simp only [e6, e7]; first | decide | (with_reducible assumption)) | (simp only [i_eq, i_lt, i_le, Int32.reduceToInt, ne_eq, up3_self, nI_1, e6, e7]; first | done | omega))) (fun _ => ?_))
          | (refine R_br rfl rfl (fun _ => ?_) (fun hbr => absurd (by first | decide | (with_reducible assumption) | (simp only [e6, e7]; first | decide | (with_reducible assumption)) | (simp only [i_eq, i_lt, i_le, Int32.reduceToInt, ne_eq, up3_self, nI_1, e6, e7]; first | done | omega)) hbr))
          | (refine R_br rfl rfl (fun _ => ?_) (fun _ => ?_))
          | (refine R_ri rfl rfl ?_)
          | (refine R_rz rfl rfl (Or.inl rfl) ?_)
          | (refine R_rz rfl rfl (Or.inr rfl) ?_)
          | (refine R_rz rfl rfl (b2_01 _) ?_)
          | (refine R_rl rfl rfl ?_)
          | (refine R_rv rfl rfl ?_)
          | (refine R_sw _ rfl rfl rfl ?_)
          | (refine R_go 73 rfl rfl trivial ?_)
          | (refine R_go 73 rfl rfl (by first | (show _ ∨ _; decide) | (show (_ ∨ _) ∧ (_ ∨ _); decide) | (show (_ ∨ _) ∧ (_ ∨ _) ∧ (_ ∨ _); decide)) ?_)
          | (refine R_go 73 rfl rfl ?_ ?_))
      all_goals first
        | exact ⟨hgo (hiff.mpr ⟨by (simp only [i_eq, i_lt, i_le, Int32.reduceToInt, true_and, and_true, false_and, and_false, or_false, false_or, or_true, true_or, ne_eq] at *; first | done | omega), by first | exact Or.inr (by (simp only [i_eq, i_lt, i_le, Int32.reduceToInt, true_and, and_true, false_and, and_false, or_false, false_or, or_true, true_or, ne_eq] at *; first | done | omega)) | exact Or.inl ⟨Or.inl (by (simp only [i_eq, i_lt, i_le, Int32.reduceToInt, true_and, and_true, false_and, and_false, or_false, false_or, or_true, true_or, ne_eq] at *; first | done | omega)), rfl⟩ | exact Or.inl ⟨Or.inr (by (simp only [i_eq, i_lt, i_le, Int32.reduceToInt, true_and, and_true, false_and, and_false, or_false, false_or, or_true, true_or, ne_eq] at *; first | done | omega)), rfl⟩⟩), trivial⟩
        | exact hno (fun z => by have z := hiff.mp z; simp only [and_true] at z; (simp only [i_eq, i_lt, i_le, Int32.reduceToInt, true_and, and_true, false_and, and_false, or_false, false_or, or_true, true_or, ne_eq] at *; first | done | omega)) | skip
    | false =>
      have n8 : A1 31 0 8 = 0 := by rw [e8]; decide
      repeat' (first
          | (refine R_stop 73 rfl rfl ?_)
          | (refine R_br rfl rfl (fun hbr => absurd hbr (by first | decide | (with_reducible assumption) | (simp only [e6, e7]; first | decide | (with_reducible assumption)) | (simp only [i_eq, i_lt, i_le, Int32.reduceToInt, ne_eq, up3_self, nI_1, e6, e7]; first | done | omega))) (fun _ => ?_))
          | (refine R_br rfl rfl (fun _ => ?_) (fun hbr => absurd (by first | decide | (with_reducible assumption) | (simp only [e6, e7]; first | decide | (with_reducible assumption)) | (simp only [i_eq, i_lt, i_le, Int32.reduceToInt, ne_eq, up3_self, nI_1, e6, e7]; first | done | omega)) hbr))
          | (refine R_br rfl rfl (fun _ => ?_) (fun _ => ?_))
          | (refine R_ri rfl rfl ?_)
          | (refine R_rz rfl rfl (Or.inl rfl) ?_)
          | (refine R_rz rfl rfl (Or.inr rfl) ?_)
          | (refine R_rz rfl rfl (b2_01 _) ?_)
          | (refine R_rl rfl rfl ?_)
          | (refine R_rv rfl rfl ?_)
          | (refine R_sw _ rfl rfl rfl ?_)
          | (refine R_go 73 rfl rfl trivial ?_)
          | (refine R_go 73 rfl rfl (by first | (show _ ∨ _; decide) | (show (_ ∨ _) ∧ (_ ∨ _); decide) | (show (_ ∨ _) ∧ (_ ∨ _) ∧ (_ ∨ _); decide)) ?_)
          | (refine R_go 73 rfl rfl ?_ ?_))
      all_goals (simp only [e6, e7] at *)
      all_goals first
        | exact ⟨hgo (hiff.mpr ⟨by (simp only [i_eq, i_lt, i_le, Int32.reduceToInt, true_and, and_true, false_and, and_false, or_false, false_or, or_true, true_or, ne_eq] at *; first | done | omega), Or.inr (by (simp only [i_eq, i_lt, i_le, Int32.reduceToInt, true_and, and_true, false_and, and_false, or_false, false_or, or_true, true_or, ne_eq] at *; first | done | omega))⟩), trivial⟩
        | exact hno (fun z => by have z := hiff.mp z; simp only [Bool.false_eq_true, and_false, false_or] at z; (simp only [i_eq, i_lt, i_le, Int32.reduceToInt, true_and, and_true, false_and, and_false, or_false, false_or, or_true, true_or, ne_eq] at *; first | done | omega))
  · have n1 : ¬ nI (cRn 1 p k0).1 = A1 31 0 5 := by rw [e5]; (simp only [i_eq, i_lt, i_le, Int32.reduceToInt, true_and, and_true, false_and, and_false, or_false, false_or, or_true, true_or, ne_eq] at *; first | done | omega)
    have hn := hno (fun z => hfull z.1)
    repeat' (first
        | (refine R_br rfl rfl (fun hbr => absurd hbr (by first | decide | (with_reducible assumption))) (fun _ => ?_))
        | (refine R_br rfl rfl (fun _ => ?_) (fun hbr => absurd (by first | decide | (with_reducible assumption)) hbr))
        | (refine R_br rfl rfl (fun _ => ?_) (fun _ => ?_))
        | (refine R_ri rfl rfl ?_)
        | (refine R_rz rfl rfl (Or.inl rfl) ?_)
        | (refine R_rz rfl rfl (Or.inr rfl) ?_)
        | (refine R_rz rfl rfl (b2_01 _) ?_)
        | (refine R_rl rfl rfl ?_)
        | (refine R_rv rfl rfl ?_)
        | (refine R_sw _ rfl rfl rfl ?_)
        | (refine R_go 9999 rfl rfl trivial ?_)
        | (refine R_go 9999 rfl rfl (by first | (show _ ∨ _; decide) | (show (_ ∨ _) ∧ (_ ∨ _); decide) | (show (_ ∨ _) ∧ (_ ∨ _) ∧ (_ ∨ _); decide)) ?_)
        | (refine R_go 9999 rfl rfl ?_ ?_))
    all_goals exact hn
