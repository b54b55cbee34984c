theorem l_cp1 {n : Nat} (hn : n ≤ 80) {Q : Option AV → AH → Prop} (A0 : FI) (B : FJ) (kk : ∀ A, FmO 31 [42, 43] [] A0 A → (∀ i, i < n → A 42 0 i = A0 37 0 i ∧ A 43 0 i = A0 38 0 i) → ∀ o, Rn 7 mtX12_program 77 [some (.inr (.inr (some (31, 0)))), o] [] (hp A B) Q) (h15 : A0 31 0 15 = nI n) : ∀ (m k : Nat) (A : FI), k + m = n → FmO 31 [42, 43] [] A0 A → (∀ i, i < k → A 42 0 i = A0 37 0 i ∧ A 43 0 i = A0 38 0 i) → Rn 7 mtX12_program 39 [some (.inr (.inr (some (31, 0)))), some (.inl (nI k))] [] (hp A B) Q := by
  intro m
  induction m with
  | zero =>
    intro k A hk hF hA
    have : k = n := by omega
    subst this
    have n1 : A 31 0 15 ≤ nI k := by rw [hF.2 15 (by simp), h15]; exact Int32.le_refl _
    repeat' (first
        | (refine R_stop 77 rfl rfl ?_)
        | (refine R_br rfl rfl (fun hbr => absurd hbr (by first | decide | (with_reducible assumption))) (fun _ => ?_))
        | (refine R_br rfl rfl (fun _ => ?_) (fun hbr => absurd (by first | decide | (with_reducible assumption)) hbr))
        | (refine R_br rfl rfl (fun _ => ?_) (fun _ => ?_))
        | (refine R_ri rfl rfl ?_)
        | (refine R_rz rfl rfl (Or.inl rfl) ?_)
        | (refine R_rz rfl rfl (Or.inr rfl) ?_)
        | (refine R_rz rfl rfl (b2_01 _) ?_)
        | (refine R_rl rfl rfl ?_)
        | (refine R_rv rfl rfl ?_)
        | (refine R_sw _ rfl rfl rfl ?_)
        | (refine R_go 77 rfl rfl trivial ?_)
        | (refine R_go 77 rfl rfl (by first | (show _ ∨ _; decide) | (show (_ ∨ _) ∧ (_ ∨ _); decide) | (show (_ ∨ _) ∧ (_ ∨ _) ∧ (_ ∨ _); decide)) ?_)
        | (refine R_go 77 rfl rfl ?_ ?_))
    exact ⟨kk A hF hA _, trivial⟩
  | succ m ih =>
    intro k A hk hF hA
    have tk := ti k (by omega)
    have tn := ti n (by omega)
    have ck : (nI k).toNatClampNeg = k := nI_clamp (by omega)
    have hv : vp_in (nI k) 80 := vpN (n := 80) (by omega) rfl
    refine R_go 9999 rfl rfl trivial ?_
    refine R_br rfl rfl (fun h => absurd h (by rw [hF.2 15 (by simp), h15]; (simp only [i_eq, i_lt, i_le, Int32.reduceToInt, true_and, and_true, false_and, and_false, or_false, false_or, or_true, true_or, ne_eq] at *; first | done | omega))) (fun _ => ?_)
    refine R_go 39 rfl rfl ⟨hv, hv, hv, hv⟩ ?_
    rw [ck, up3_g (show 38 ≠ 42 by decide), nI_1]
    refine ih (k + 1) _ (by omega) (FmO_tr hF (by first | exact FmO_rf | (repeat' (first | exact FmO_rf | (with_reducible assumption) | (refine FmO_up ?_ (by decide)) | (refine FmO_ug ?_ (by decide) (by decide)))))) (fun i hi => ?_)
    by_cases e : i = k
    · subst e
      rw [up3_g (by decide), up3_self, up3_self, hF.1 37 (by decide) (by decide), hF.1 38 (by decide) (by decide)]; exact ⟨rfl, rfl⟩
    · rw [up3_g (show 42 ≠ 43 by decide), up3_s e, up3_s e, up3_g (show 43 ≠ 42 by decide)]; exact hA i (by omega)
theorem l_cp2 {n : Nat} (hn : n ≤ 80) {Q : Option AV → AH → Prop} (A0 : FI) (B : FJ) (kk : ∀ A, FmO 31 [44, 45] [] A0 A → (∀ i, i < n → A 44 0 i = A0 39 0 i ∧ A 45 0 i = A0 40 0 i) → ∀ o, Rn 7 mtX12_program 125 [some (.inr (.inr (some (31, 0)))), o] [] (hp A B) Q) (h15 : A0 31 0 18 = nI n) : ∀ (m k : Nat) (A : FI), k + m = n → FmO 31 [44, 45] [] A0 A → (∀ i, i < k → A 44 0 i = A0 39 0 i ∧ A 45 0 i = A0 40 0 i) → Rn 7 mtX12_program 87 [some (.inr (.inr (some (31, 0)))), some (.inl (nI k))] [] (hp A B) Q := by
  intro m
  induction m with
  | zero =>
    intro k A hk hF hA
    have : k = n := by omega
    subst this
    have n1 : A 31 0 18 ≤ nI k := by rw [hF.2 18 (by simp), h15]; exact Int32.le_refl _
    repeat' (first
        | (refine R_stop 125 rfl rfl ?_)
        | (refine R_br rfl rfl (fun hbr => absurd hbr (by first | decide | (with_reducible assumption))) (fun _ => ?_))
        | (refine R_br rfl rfl (fun _ => ?_) (fun hbr => absurd (by first | decide | (with_reducible assumption)) hbr))
        | (refine R_br rfl rfl (fun _ => ?_) (fun _ => ?_))
        | (refine R_ri rfl rfl ?_)
        | (refine R_rz rfl rfl (Or.inl rfl) ?_)
        | (refine R_rz rfl rfl (Or.inr rfl) ?_)
        | (refine R_rz rfl rfl (b2_01 _) ?_)
        | (refine R_rl rfl rfl ?_)
        | (refine R_rv rfl rfl ?_)
        | (refine R_sw _ rfl rfl rfl ?_)
        | (refine R_go 125 rfl rfl trivial ?_)
        | (refine R_go 125 rfl rfl (by first | (show _ ∨ _; decide) | (show (_ ∨ _) ∧ (_ ∨ _); decide) | (show (_ ∨ _) ∧ (_ ∨ _) ∧ (_ ∨ _); decide)) ?_)
        | (refine R_go 125 rfl rfl ?_ ?_))
    exact ⟨kk A hF hA _, trivial⟩
  | succ m ih =>
    intro k A hk hF hA
    have tk := ti k (by omega)
    have tn := ti n (by omega)
    have ck : (nI k).toNatClampNeg = k := nI_clamp (by omega)
    have hv : vp_in (nI k) 80 := vpN (n := 80) (by omega) rfl
    refine R_go 9999 rfl rfl trivial ?_
    refine R_br rfl rfl (fun h => absurd h (by rw [hF.2 18 (by simp), h15]; (simp only [i_eq, i_lt, i_le, Int32.reduceToInt, true_and, and_true, false_and, and_false, or_false, false_or, or_true, true_or, ne_eq] at *; first | done | omega))) (fun _ => ?_)
    refine R_go 87 rfl rfl ⟨hv, hv, hv, hv⟩ ?_
    rw [ck, up3_g (show 40 ≠ 44 by decide), nI_1]
    refine ih (k + 1) _ (by omega) (FmO_tr hF (by first | exact FmO_rf | (repeat' (first | exact FmO_rf | (with_reducible assumption) | (refine FmO_up ?_ (by decide)) | (refine FmO_ug ?_ (by decide) (by decide)))))) (fun i hi => ?_)
    by_cases e : i = k
    · subst e
      rw [up3_g (by decide), up3_self, up3_self, hF.1 39 (by decide) (by decide), hF.1 40 (by decide) (by decide)]; exact ⟨rfl, rfl⟩
    · rw [up3_g (show 44 ≠ 45 by decide), up3_s e, up3_s e, up3_g (show 45 ≠ 44 by decide)]; exact hA i (by omega)
/-- groups and fields of the reference that program() and law() may change -/
abbrev FmK (A A' : FI) : Prop := FmO 31 [37, 38, 39, 40, 41, 42, 43, 44, 45] [5, 6, 7, 8, 9, 10, 11, 15, 18, 20, 21, 24, 27] A A'
theorem FmP_K {A A' : FI} (h : FmP A A') : FmK A A' := FmO_w h (by decide) (by decide)
theorem al_cp {f g : Nat → Int32} {l : List Nat} (h : al f l) (h2 : ∀ i, i < l.length → g i = f i) : al g l := fun k hk => by rw [h2 k hk]; exact h k hk
theorem m_programM {p : List Nat} {P : List (List Tk × Nat)} {A : FI} {B : FJ} (hp1 : RMP A p) (hw : WFP p) (hG : RMG A P) : MV 7 0 mtX12_program [.inr (.inr (some (31, 0)))] (hp A B) (fun r h' => ∃ A' r' p' P', h' = hp A' B ∧ r = some (.inl r') ∧ prR p P r' p' P' ∧ RMP A' p' ∧ RMG A' P' ∧ FmK A A') := by
  have hl := hp1.2.1
  have tl := ti p.length (by omega)
  have hle := cRn_le 0 p k0
  have tc := ti (cRn 0 p k0).1 (by omega)
  refine MV_of caX12_program (L := [some (.inr (.inr (some (31, 0)))), none]) rfl rfl ?_
  refine R_go 9999 rfl rfl trivial ?_
  refine R_cv rfl (m_faultOf 0 p (by decide) (WFP_255 hw) hp1) rfl rfl rfl rfl rfl (Nat.le_of_ble_eq_true rfl) rfl ?_
  rintro r h' ⟨A1, k', rfl, hF1, rfl, hk⟩
  have hp2 := RMP_fr hp1 hF1
  have hG1 := RMG_fr hG hF1 (by decide) (by decide)
  have e5 := hp2.1
  have hno : ¬ whC 0 p → ∃ A' r' p' P', hp A1 B = hp A' B ∧ (some (Sum.inl (-103)) : Option AV) = some (.inl r') ∧ prR p P r' p' P' ∧ RMP A' p' ∧ RMG A' P' ∧ FmK A A' := fun hc => ⟨A1, _, p, P, rfl, rfl, Or.inr ⟨hc, rfl, rfl, rfl⟩, hp2, hG1, FmP_K hF1⟩
  by_cases hfull : (cRn 0 p k0).1 = p.length
  · obtain ⟨hkr, hkm, hro⟩ := hk hfull
    have e6 := hkm.1
    have hiff : whC 0 p ↔ k'.1 = 7 := by
      unfold whC
      rw [hkr.1]
      constructor
      · rintro ⟨-, ⟨-, z⟩ | ⟨z, -⟩⟩
        · exact z
        · omega
      · intro z; exact ⟨hfull, Or.inl ⟨rfl, z⟩⟩
    rw [hfull]
    have n1 : ¬ nI p.length < A1 31 0 5 := by rw [e5]; exact fun z => absurd (i_lt.mp z) (by omega)
    refine R_go 9999 rfl rfl trivial ?_
    refine R_br rfl rfl (fun h => absurd h n1) (fun _ => ?_)
    refine R_go 9999 rfl rfl trivial ?_
    by_cases h7 : k'.1 = 7
    · have hc := hiff.mpr h7
      have n2 : A1 31 0 6 = 7 := by rw [e6, h7]; rfl
      refine R_br rfl rfl (fun _ => ?_) (fun h => absurd n2 h)
      obtain ⟨dn, e, hd, hz⟩ := prog_ok hc hl
      have hoe : (mRn 0 p (k0, o0)).2.2 = (dn, [], []) := e
      rw [hoe] at hro
      have hok : okP dn := by rw [show dn = (oF 0 p).1 by rw [e]]; exact okP_F hc hl
      have hsz := szk_P hok.2
      have hfl : flat (dn, [], []) = flP dn := by simp [flat, flP]
      obtain ⟨a1, a2, a3, a4, a5, a6, -, -, -⟩ := hro
      rw [hfl] at a1 a2 a3
      dsimp only at a4 a5 a6
      refine R_go 39 rfl rfl (Or.inr rfl) ?_
      rw [up3_s (show 15 ≠ 21 by decide), a1]
      have e15 : up3 (up3 A1 31 0 21 1) 31 0 24 (nI (flP dn).length) 31 0 15 = nI (flP dn).length := by rw [up3_s (by decide), up3_s (by decide)]; exact a1
      refine l_cp1 (by omega) _ B (fun A2 hF2 hc2 o => ?_) e15 (flP dn).length 0 _ (by omega) FmO_rf (fun i hi => by omega)
      have e18 : A2 31 0 18 = nI dn.length := by rw [hF2.2 18 (by simp), up3_s (by decide), up3_s (by decide)]; exact a4
      refine R_go 87 rfl rfl trivial ?_
      rw [e18]
      have e18' : up3 A2 31 0 27 (nI dn.length) 31 0 18 = nI dn.length := by rw [up3_s (by decide)]; exact e18
      refine l_cp2 (by omega) _ B (fun A3 hF3 hc3 o => ?_) e18' dn.length 0 _ (by omega) FmO_rf (fun i hi => by omega)
      have e27 : A3 31 0 27 = nI dn.length := by rw [hF3.2 27 (by simp), up3_self]
      have g37 : ∀ g, g ≠ 31 → up3 (up3 A1 31 0 21 1) 31 0 24 (nI (flP dn).length) g = A1 g := fun g h => by rw [up3_g h, up3_g h]
      have g44 : ∀ g, g ≠ 31 → g ≠ 44 → g ≠ 45 → A3 g = A2 g := fun g h1 h2 h3 => by rw [hF3.1 g h1 (by simp [h2, h3]), up3_g h1]
      refine R_go 9999 rfl rfl trivial ?_
      refine R_ri rfl rfl ?_
      rw [up3_s (show 27 ≠ 5 by decide), e27]
      refine ⟨_, _, [], dn, rfl, rfl, Or.inl ⟨hc, by rw [e], rfl, by rw [e]⟩, ⟨up3_self, by simp, fun k hk => by simp at hk⟩, ⟨?_, ?_, ?_, ?_, ?_, ?_, ?_⟩, ?_⟩
      · rw [up3_s (by decide), hF3.2 21 (by simp), up3_s (by decide), hF2.2 21 (by simp), up3_s (by decide), up3_self, isE.1 (okP_ne hok)]; rfl
      · rw [up3_g (by decide), g44 42 (by decide) (by decide) (by decide)]
        refine al_cp a2 (fun i hi => ?_)
        rw [(hc2 i (by simpa using hi)).1, g37 37 (by decide)]
      · rw [up3_g (by decide), g44 43 (by decide) (by decide) (by decide)]
        refine al_cp a3 (fun i hi => ?_)
        rw [(hc2 i (by simpa using hi)).2, g37 38 (by decide)]
      · rw [up3_s (by decide), hF3.2 24 (by simp), up3_s (by decide), hF2.2 24 (by simp), up3_self]
      · rw [up3_g (by decide)]
        refine al_cp a5 (fun i hi => ?_)
        rw [(hc3 i (by rw [cum_len] at hi; exact hi)).1, up3_g (by decide), hF2.1 39 (by decide) (by decide), g37 39 (by decide)]
      · rw [up3_g (by decide)]
        refine al_cp a6 (fun i hi => ?_)
        rw [(hc3 i (by simpa using hi)).2, up3_g (by decide), hF2.1 40 (by decide) (by decide), g37 40 (by decide)]
      · rw [up3_s (by decide)]; exact e27
      · refine FmO_up (FmO_tr (FmO_up (FmO_tr (FmO_up (FmO_up (FmP_K hF1) (by decide)) (by decide)) (FmO_w hF2 (by decide) (by decide))) (by decide)) (FmO_w hF3 (by decide) (by decide))) (by decide)
    · have n2 : ¬ A1 31 0 6 = 7 := by
        have hst : k'.1 ≤ 7 := by rw [← hkr.1]; exact (cRn_ok p k0 (okC_k0 (by decide))).1.2.1
        have t7 := ti k'.1 (by omega)
        rw [e6]; (simp only [i_eq, i_lt, i_le, Int32.reduceToInt, true_and, and_true, false_and, and_false, or_false, false_or, or_true, true_or, ne_eq] at *; first | done | omega)
      refine R_br rfl rfl (fun h => absurd h n2) (fun _ => ?_)
      refine R_go 9999 rfl rfl trivial ?_
      exact R_ri rfl rfl (hno (fun z => h7 (hiff.mp z)))
  · have n1 : nI (cRn 0 p k0).1 < A1 31 0 5 := by rw [e5]; (simp only [i_eq, i_lt, i_le, Int32.reduceToInt, true_and, and_true, false_and, and_false, or_false, false_or, or_true, true_or, ne_eq] at *; first | done | omega)
    refine R_go 9999 rfl rfl trivial ?_
    refine R_br rfl rfl (fun _ => ?_) (fun h => absurd n1 h)
    refine R_go 9999 rfl rfl trivial ?_
    exact R_ri rfl rfl (hno (fun z => hfull z.1))
