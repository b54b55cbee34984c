theorem csN_st {F : FS} {q0 t : Nat → Nat} {f v : Nat} : csN F q0 (stF t f v) (f + 1) = csN F q0 t f + ((v - q0 f) + (q0 f - v)) * F.2.2.2 f := by
  rw [csN, stF_y, csN_eq f (fun j hj => stF_n (by omega))]
theorem gt_loop {F : FS} {LS : List (List Tk)} {P : List (List Tk × Nat)} {q0 : Nat → Nat} (hW : WFF F) {f n : Nat} (hf : f < 8) (ih : GTm F LS P q0 (f + 1) n) {A0 : FI} {B0 : FJ} {t : Nat → Nat} {lo hi : Nat} (hpt : ptS F q0 t f) (ht20 : ∀ g, g < f → t g ≤ 20) (hhi : hi ≤ 20) (hch : (F.1 f = 3 ∧ lo = F.2.1 f ∧ hi = F.2.2.1 f) ∨ (F.1 f ≠ 3 ∧ lo = q0 f ∧ hi = q0 f)) {b : Int32} : ∀ (m v : Nat) (A : FI) (B : FJ) (o : Option (Nat → Nat)), v + m = hi + 1 → lo ≤ v → PrQ A F LS P q0 → FmQC f A0 A → FmJ [11] B0 B → (∀ g, g < f → A 25 24 g = nI (t g) ∧ t g ≤ 20) → CbR A F q0 o → isM (cndS F LS P q0) F q0 (LTf (f + 1) (stF t f v)) o → Rn (4 + (n + 1)) mtX2_goThrough 127 (gtL f (csN F q0 t f) (some (.inl (nI (q0 f)))) (some (.inl b)) (some (.inl (nI lo))) (some (.inl (nI hi))) (some (.inl (nI v)))) [] (hp A B) (GTo A0 B0 F LS P q0 t f) := by
  have hWf := hW.1 f hf
  intro m
  induction m with
  | zero =>
    intro v A B o hv hlo hpq hF hJ htr hC hM
    have ev : v = hi + 1 := by omega
    subst ev
    have t1 := ti hi (by omega)
    have t2 := ti (hi + 1) (by omega)
    refine R_go 9999 rfl rfl trivial ?_
    refine R_br rfl rfl (fun _ => ?_) (fun h => absurd (by (simp only [i_eq, i_lt, i_le, Int32.reduceToInt, true_and, and_true, false_and, and_false, or_false, false_or, or_true, true_or, ne_eq] at *; first | done | omega)) h)
    refine R_rv rfl rfl ?_
    refine ⟨A, B, o, rfl, rfl, hF, hJ, hC, isM_c hM (fun q hq => ?_)⟩
    rw [LT_st]
    have h1 : q f ≤ hi := by
      rcases hch with ⟨-, -, h2⟩ | ⟨h3, -, h2⟩
      · rw [h2]; exact (hq.2.2.1 f hf).2
      · rw [h2, hq.2.1 f hf h3]; exact Nat.le_refl _
    exact ⟨fun z => z.elim Or.inl (fun z => Or.inr z.1), fun z => z.elim Or.inl (fun z => Or.inr ⟨z, by omega⟩)⟩
  | succ m ihm =>
    intro v A B o hv hlo hpq hF hJ htr hC hM
    have q20 := (hpq.2.2.2 f hf)
    have t1 := ti hi (by omega)
    have t2 := ti v (by omega)
    have hsp := m_isInSpan (B := B) hpq.1 hW f hf (nI v)
    rw [t2] at hsp
    refine R_go 9999 rfl rfl trivial ?_
    refine R_br rfl rfl (fun h => absurd h (by (simp only [i_eq, i_lt, i_le, Int32.reduceToInt, true_and, and_true, false_and, and_false, or_false, false_or, or_true, true_or, ne_eq] at *; first | done | omega))) (fun _ => ?_)
    refine R_go 9999 rfl rfl trivial ?_
    refine R_cvr rfl hsp rfl rfl rfl rfl rfl (by omega) rfl ?_
    rcases Classical.em ((F.2.1 f : Int) ≤ (v : Int) ∧ (v : Int) ≤ F.2.2.1 f) with hin | hin
    · rw [b2_1 hin]
      refine R_br rfl rfl (fun h => absurd h (by decide)) (fun _ => ?_)
      refine R_go 9999 rfl rfl trivial ?_
      refine R_cvv rfl (m_putP (p := 24) hf (nI v) A B) rfl rfl rfl rfl rfl (by omega) rfl ?_
      generalize hA1 : up3 A 25 24 f (nI v) = A1
      have hF1 : FmQC f A A1 := by
        rw [← hA1]
        exact ⟨fun g _ g2 _ => up3_g g2, fun i i1 _ => up3_i i1, fun g hg => up3_s (by omega)⟩
      have e24 : A1 25 24 f = nI v := by rw [← hA1]; exact up3_self
      have hpq1 := PrQ_fr hpq hF1
      have hC1 : CbR A1 F q0 o := ⟨fun ho => by rw [← hA1, up3_g (by decide)]; exact hC.1 ho, fun z hz => by
        obtain ⟨a, b⟩ := hC.2 z hz
        exact ⟨by rw [← hA1, up3_g (by decide)]; exact a, fun g hg => by rw [← hA1, up3_i (by decide)]; exact b g hg⟩⟩
      clear hA1
      have hptv : ptS F q0 (stF t f v) (f + 1) := by
        refine ⟨fun g hg => by rw [stF_n (by omega)]; exact hpt.1 g hg, fun g hg => ?_⟩
        by_cases e : g = f
        · subst e
          rw [stF_y]
          refine ⟨fun h3 => ?_, by omega, by omega⟩
          rcases hch with ⟨h4, -⟩ | ⟨-, h5, h6⟩
          · exact absurd h4 h3
          · omega
        · rw [stF_n e]; exact hpt.2 g (by omega)
      have htr1 : ∀ g, g < f + 1 → A1 25 24 g = nI (stF t f v g) ∧ stF t f v g ≤ 20 := fun g hg => by
        by_cases e : g = f
        · subst e; rw [stF_y]; exact ⟨e24, by omega⟩
        · rw [stF_n e, hF1.2.2 g (by omega)]; exact htr g (by omega)
      have hcall := ih A1 B (stF t f v) o hpq1 htr1 hC1 hM hptv
      rw [csN_st] at hcall
      have htold := m_told f 3 hf (by decide) A1 B
      rw [show f * 4 + 3 = f * 4 + 3 from rfl, (hpq1.1 f hf).2.2.2] at htold
      refine R_go 9999 rfl rfl trivial ?_
      rw [nI_1]
      refine R_mabs rfl qm_X2_65 (by omega) (Nat.le_refl _) (Nat.le_refl _) rfl ?_
      rw [ab_nI (by omega) (by omega)]
      refine R_go 9999 rfl rfl trivial ?_
      refine R_cvr rfl htold rfl rfl rfl rfl rfl (by omega) rfl ?_
      refine R_go 9999 rfl rfl trivial ?_
      rw [pk_mul, nI_add]
      refine R_cv rfl hcall rfl rfl rfl rfl rfl (by omega) rfl ?_
      rintro r h' ⟨A2, B2, o2, rfl, rfl, hF2, hJ2, hC2, hM2⟩
      refine R_go 127 rfl rfl trivial ?_
      rw [nI_1]
      exact ihm (v + 1) A2 B2 o2 (by omega) (by omega) (PrQ_fr hpq1 hF2) (FmQC_tr hF (FmQC_tr hF1 (FmQC_s hF2))) (FmJ_tr hJ hJ2) (fun g hg => by rw [hF2.2.2 g (by omega), hF1.2.2 g hg]; exact htr g hg) hC2 (isM_c hM2 (fun q _ => LT_stn))
    · rw [b2_0 hin]
      refine R_br rfl rfl (fun _ => ?_) (fun h => absurd rfl h)
      refine R_go 127 rfl rfl trivial ?_
      rw [nI_1]
      refine ihm (v + 1) A B o (by omega) (by omega) hpq hF hJ htr hC (isM_c hM (fun q hq => ?_))
      rw [← LT_stn]
      refine ⟨fun z => Or.inl z, fun z => z.elim id (fun z => ?_)⟩
      have h1 := (EQ_st.mp z).2
      have h2 := hq.2.2.1 f hf
      exact absurd ⟨by omega, by omega⟩ hin
theorem gt_step {F : FS} {LS : List (List Tk)} {P : List (List Tk × Nat)} {q0 : Nat → Nat} (hW : WFF F) {f n : Nat} (hf : f < 8) (ih : GTm F LS P q0 (f + 1) n) : GTm F LS P q0 f (n + 1) := by
  intro A B t o hpq htr hC hM hpt
  refine MV_of caX2_goThrough (L := gtL f (csN F q0 t f) none none none none none) rfl rfl ?_
  refine gt_head (n := n + 1) hW (by omega) hpq htr hC hM (fun _ => ?_)
  have tf := ti f (by omega)
  have hWf := hW.1 f hf
  have q20 := hpq.2.2.2 f hf
  have hnum := m_number 26 (nI f) A B
  rw [if_pos (show 0 ≤ nI f ∧ nI f < 8 from nI_01 hf (Nat.le_of_ble_eq_true rfl)), nI_clamp (show f < 2 ^ 31 by omega), q20.1] at hnum
  have hchg := m_changes (B := B) hpq.1 hW f hf
  have t1 := m_told f 1 hf (by decide) A B
  rw [(hpq.1 f hf).2.1] at t1
  have t2 := m_told f 2 hf (by decide) A B
  rw [(hpq.1 f hf).2.2.1] at t2
  refine R_go 9999 rfl rfl trivial ?_
  refine R_br rfl rfl (fun _ => ?_) (fun h => absurd (by (simp only [i_eq, i_lt, i_le, Int32.reduceToInt, true_and, and_true, false_and, and_false, or_false, false_or, or_true, true_or, ne_eq] at *; first | done | omega)) h)
  refine R_go 9999 rfl rfl trivial ?_
  refine R_cvr rfl hnum rfl rfl rfl rfl rfl (by omega) rfl ?_
  refine R_go 9999 rfl rfl trivial ?_
  refine R_cvr rfl hchg rfl rfl rfl rfl rfl (by omega) rfl ?_
  refine R_go 9999 rfl rfl trivial ?_
  by_cases h3 : F.1 f = 3
  · rw [b2_1 h3]
    refine R_br rfl rfl (fun h => absurd h (by decide)) (fun _ => ?_)
    refine R_go 9999 rfl rfl trivial ?_
    refine R_cvr rfl t1 rfl rfl rfl rfl rfl (by omega) rfl ?_
    refine R_go 9999 rfl rfl trivial ?_
    refine R_br rfl rfl (fun h => absurd h (by decide)) (fun _ => ?_)
    refine R_go 9999 rfl rfl trivial ?_
    refine R_cvr rfl t2 rfl rfl rfl rfl rfl (by omega) rfl ?_
    refine R_go 127 rfl rfl trivial ?_
    refine gt_loop (A0 := A) (B0 := B) hW hf ih hpt (fun g hg => (htr g hg).2) (by omega) (Or.inl ⟨h3, rfl, rfl⟩) (F.2.2.1 f + 1 - F.2.1 f) (F.2.1 f) A B o (by omega) (Nat.le_refl _) hpq FmQC_rf FmJ_rf htr hC (isM_c hM (fun q hq => ?_))
    rw [LT_st]
    have := (hq.2.2.1 f hf).1
    exact ⟨fun z => Or.inl z, fun z => z.elim id (fun z => absurd z.2 (by omega))⟩
  · rw [b2_0 h3]
    refine R_br rfl rfl (fun _ => ?_) (fun h => absurd rfl h)
    refine R_go 9999 rfl rfl trivial ?_
    refine R_br rfl rfl (fun _ => ?_) (fun h => absurd rfl h)
    refine R_go 127 rfl rfl trivial ?_
    refine gt_loop (A0 := A) (B0 := B) hW hf ih hpt (fun g hg => (htr g hg).2) q20.2 (Or.inr ⟨h3, rfl, rfl⟩) 1 (q0 f) A B o (by omega) (Nat.le_refl _) hpq FmQC_rf FmJ_rf htr hC (isM_c hM (fun q hq => ?_))
    rw [LT_st]
    have := hq.2.1 f hf h3
    exact ⟨fun z => Or.inl z, fun z => z.elim id (fun z => absurd z.2 (by omega))⟩
theorem gt_all {F : FS} {LS : List (List Tk)} {P : List (List Tk × Nat)} {q0 : Nat → Nat} (hW : WFF F) (hL : okL LS) (hP : okP P) : ∀ n f, f + n = 8 → GTm F LS P q0 f n
  | 0, f, h => by
    have : f = 8 := by omega
    subst this
    exact gt_leaf hW hL hP
  | n + 1, f, h => gt_step hW (by omega) (gt_all hW hL hP n (f + 1) (by omega))
/-- what find finds -/
def FDo (A : FI) (B : FJ) (F : FS) (LS : List (List Tk)) (P : List (List Tk × Nat)) (q0 : Nat → Nat) : Option AV → AH → Prop := fun r h' => ∃ A' B' o, h' = hp A' B' ∧ r = some (.inl (A' 28 0 2)) ∧ FmQC 0 A A' ∧ FmJ [11] B B' ∧ CbR A' F q0 o ∧ isM (cndS F LS P q0) F q0 (fun _ => True) o
theorem m_findQ {F : FS} {LS : List (List Tk)} {P : List (List Tk × Nat)} {q0 : Nat → Nat} (hW : WFF F) (hL : okL LS) (hP : okP P) {A : FI} {B : FJ} (hpq : PrQ A F LS P q0) : MV 13 4 mtX2_find [.inr (.inr (some (28, 0))), .inr (.inr (some (1, 0))), .inr (.inr (some (4, 6))), .inr (.inr (some (10, 0))), .inr (.inr (some (24, 26)))] (hp A B) (FDo A B F LS P q0) := by
  refine MV_of caX2_find (L := [some (.inr (.inr (some (28, 0)))), some (.inr (.inr (some (1, 0)))), some (.inr (.inr (some (4, 6)))), some (.inr (.inr (some (10, 0)))), some (.inr (.inr (some (24, 26))))]) rfl rfl ?_
  refine R_go 9999 rfl rfl trivial ?_
  generalize hA1 : up3 A 28 0 2 (-1) = A1
  have hF1 : FmQC 0 A A1 := by
    rw [← hA1]
    exact ⟨fun g _ _ g3 => up3_g g3, fun i _ _ => by rw [up3_g (by decide)], fun g hg => by omega⟩
  have e2 : A1 28 0 2 = -1 := by rw [← hA1]; exact up3_self
  clear hA1
  have hcall := gt_all (q0 := q0) hW hL hP 8 0 rfl A1 B q0 none (PrQ_fr hpq hF1) (fun g hg => by omega) ⟨fun _ => e2, fun z hz => by cases hz⟩ ⟨fun _ q ⟨k, hk, _⟩ => by omega, fun z hz => by cases hz⟩ ⟨fun _ _ => rfl, fun g hg => by omega⟩
  refine R_cv rfl hcall rfl rfl rfl rfl rfl (Nat.le_of_ble_eq_true rfl) rfl ?_
  rintro r h' ⟨A2, B2, o, rfl, rfl, hF2, hJ2, hC2, hM2⟩
  refine R_go 9999 rfl rfl trivial ?_
  refine R_ri rfl rfl ?_
  exact ⟨A2, B2, o, rfl, rfl, FmQC_tr hF1 hF2, hJ2, hC2, isM_c hM2 (fun q _ => ⟨fun _ => trivial, fun _ => Or.inr (fun j hj => by omega)⟩)⟩
