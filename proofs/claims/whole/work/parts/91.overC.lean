theorem i_begin {mo : Int32} {F : FS} {A : FI} {B : FJ} (hR : RCF A F) {k s : Nat} (hk : k < 8) (hs : s ≤ 1) {Q : Option AV → AH → Prop} (kk : Rn 4 mtX8_begin 79 [some (.inr (.inr (some (15, 0)))), some (.inr (.inr (some (1, 0)))), some (.inl mo), some (.inl (nI k)), some (.inl (nI (16 * s + 16)))] [] (hp (up3 (up3 A 16 0 (16 * s + 2 * k) (nI (F.2.1 k))) 16 0 (16 * s + 2 * k + 1) (nI (F.2.2.1 k))) B) Q) : Rn 4 mtX8_begin 79 [some (.inr (.inr (some (15, 0)))), some (.inr (.inr (some (1, 0)))), some (.inl mo), some (.inl (nI k)), some (.inl (nI (16 * s)))] [] (hp A B) Q := by
  have ts := ti (16 * s) (by omega)
  have i0 : nI (16 * s) + 2 * nI k = nI (16 * s + 2 * k) := by rw [show (2 : Int32) * nI k = nI (2 * k) from pk_mul 2 k, nI_add]
  have i1 : nI (16 * s + 2 * k) + 1 = nI (16 * s + 2 * k + 1) := nI_1 _
  have i2 : nI (16 * s) + 16 = nI (16 * s + 16) := nI_add _ 16
  have c0 : (nI (16 * s + 2 * k)).toNatClampNeg = 16 * s + 2 * k := nI_clamp (by omega)
  have c1 : (nI (16 * s + 2 * k + 1)).toNatClampNeg = 16 * s + 2 * k + 1 := nI_clamp (by omega)
  have v0 : vp_in (nI (16 * s + 2 * k)) 2592 := vpN (n := 2592) (by omega) rfl
  have v1 : vp_in (nI (16 * s + 2 * k + 1)) 2592 := vpN (n := 2592) (by omega) rfl
  obtain ⟨-, e1, e2, -⟩ := hR k hk
  refine R_go 9999 rfl rfl trivial ?_
  refine R_br rfl rfl (fun h => absurd h (by (simp only [i_eq, i_lt, i_le, Int32.reduceToInt, true_and, and_true, false_and, and_false, or_false, false_or, or_true, true_or, ne_eq] at *; first | done | omega))) (fun _ => ?_)
  refine R_go 9999 rfl rfl trivial ?_
  try dsimp only [fgt, fpt]
  rw [i0]
  have t1 := m_told k 1 hk (by decide) A B
  rw [e1] at t1
  refine R_cvr rfl t1 rfl rfl rfl rfl rfl (Nat.le_of_ble_eq_true rfl) rfl ?_
  refine R_go 9999 rfl rfl v0 ?_
  rw [c0, i0, i1]
  have t2 := m_told k 2 hk (by decide) (up3 A 16 0 (16 * s + 2 * k) (nI (F.2.1 k))) B
  rw [up3_g (by decide), e2] at t2
  refine R_cvr rfl t2 rfl rfl rfl rfl rfl (Nat.le_of_ble_eq_true rfl) rfl ?_
  refine R_go 79 rfl rfl v1 ?_
  rw [c1, i2]
  exact kk
def bgP (A : FI) (F : FS) (mo : Int32) (k : Nat) : Prop := (∀ f, f < k → A 17 0 f = b2 (shS F.1 mo f)) ∧ ∀ s, s ≤ 1 → ∀ f, f < k → A 16 0 (16 * s + 2 * f) = nI (F.2.1 f) ∧ A 16 0 (16 * s + 2 * f + 1) = nI (F.2.2.1 f)
theorem l_begin {mo : Int32} {F : FS} (hmo : mo = -1 ∨ ∃ f, f < 8 ∧ mo = nI f) (hW : WFF F) {A0 : FI} {B : FJ} {Q : Option AV → AH → Prop} (kend : ∀ A, FmO 15 [16, 17] [] A0 A → bgP A F mo 8 → Q none (hp A B)) : ∀ (m k : Nat) (A : FI), k + m = 8 → FmO 15 [16, 17] [] A0 A → RCF A F → bgP A F mo k → ∀ o, Rn 4 mtX8_begin 41 [some (.inr (.inr (some (15, 0)))), some (.inr (.inr (some (1, 0)))), some (.inl mo), some (.inl (nI k)), o] [] (hp A B) Q := by
  intro m
  induction m with
  | zero =>
    intro k A hk hF hM hs o
    have : k = 8 := by omega
    subst this
    refine R_go 9999 rfl rfl trivial ?_
    refine R_br rfl rfl (fun _ => ?_) (fun h => absurd (by decide) h)
    refine R_rv rfl rfl ?_
    exact kend A hF hs
  | succ m ih =>
    intro k A hk hF hM hs o
    have tk := ti k (by omega)
    have hk8 : k < 8 := by omega
    have ck : (nI k).toNatClampNeg = k := nI_clamp (by omega)
    have hvk : vp_in (nI k) 8 := vpN (n := 8) (by omega) rfl
    have st : ∀ w : Int32, w = b2 (shS F.1 mo k) → Rn 4 mtX8_begin 75 [some (.inr (.inr (some (15, 0)))), some (.inr (.inr (some (1, 0)))), some (.inl mo), some (.inl (nI k)), o] [.inl w, .inl (nI k), .inr (.inr (some (17, 0)))] (hp A B) Q := fun w hw => by
      have hw01 : w = 0 ∨ w = 1 := by rw [hw]; exact b2_01 _
      refine R_go 79 rfl rfl ⟨hvk, hw01⟩ ?_
      rw [ck]
      have hM1 : RCF (up3 A 17 0 k w) F := fun f hf => by rw [up3_g (by decide)]; exact hM f hf
      refine i_begin (s := 0) hM1 hk8 (by omega) ?_
      have hM2 : RCF (up3 (up3 (up3 A 17 0 k w) 16 0 (16 * 0 + 2 * k) (nI (F.2.1 k))) 16 0 (16 * 0 + 2 * k + 1) (nI (F.2.2.1 k))) F := fun f hf => by rw [up3_g (by decide), up3_g (by decide)]; exact hM1 f hf
      refine i_begin (s := 1) hM2 hk8 (by omega) ?_
      refine R_go 9999 rfl rfl trivial ?_
      refine R_br rfl rfl (fun _ => ?_) (fun h => absurd (by decide) h)
      refine R_go 41 rfl rfl trivial ?_
      try dsimp only [fgt, fpt]
      rw [nI_1]
      refine ih (k + 1) _ (by omega) (FmO_tr hF (by first | exact FmO_rf | (repeat' (first | exact FmO_rf | (with_reducible assumption) | (refine FmO_up ?_ (by decide)) | (refine FmO_ug ?_ (by decide) (by decide)))))) (fun f hf => by rw [up3_g (by decide), up3_g (by decide)]; exact hM2 f hf) ⟨fun f hf => ?_, fun s hs' f hf => ?_⟩ _
      · rw [up3_g (by decide), up3_g (by decide), up3_g (by decide), up3_g (by decide)]
        by_cases g : f = k
        · subst g; rw [up3_self]; exact hw
        · rw [up3_s g]; exact hs.1 f (by omega)
      · by_cases g : f = k
        · subst g
          rcases (show s = 0 ∨ s = 1 by omega) with rfl | rfl
          · refine ⟨?_, ?_⟩
            · rw [up3_s (by omega), up3_s (by omega), up3_s (by omega)]; exact up3_self
            · rw [up3_s (by omega), up3_s (by omega)]; exact up3_self
          · refine ⟨?_, up3_self⟩
            rw [up3_s (by omega)]; exact up3_self
        · have := hs.2 s hs' f (by omega)
          rw [up3_s (by omega), up3_s (by omega), up3_s (by omega), up3_s (by omega), up3_s (by omega), up3_s (by omega), up3_s (by omega), up3_s (by omega), up3_g (show 16 ≠ 17 by decide)]
          exact this
    refine R_go 9999 rfl rfl trivial ?_
    refine R_br rfl rfl (fun h => absurd h (by (simp only [i_eq, i_lt, i_le, Int32.reduceToInt, true_and, and_true, false_and, and_false, or_false, false_or, or_true, true_or, ne_eq] at *; first | done | omega))) (fun _ => ?_)
    refine R_go 9999 rfl rfl trivial ?_
    rcases hmo with rfl | ⟨g, hg, rfl⟩
    · refine R_br rfl rfl (fun _ => ?_) (fun h => absurd rfl h)
      refine R_go 9999 rfl rfl trivial ?_
      refine R_cvr rfl (m_counts hM hW k hk8) rfl rfl rfl rfl rfl (Nat.le_of_ble_eq_true rfl) rfl ?_
      refine R_go 75 rfl rfl trivial ?_
      exact st _ (b2_c shS_1.symm)
    · refine R_br rfl rfl (fun h => absurd h (nI_n1 hg)) (fun _ => ?_)
      refine R_go 9999 rfl rfl trivial ?_
      by_cases e : k = g
      · refine R_br rfl rfl (fun _ => ?_) (fun h => absurd (by rw [e]) h)
        refine R_go 75 rfl rfl trivial ?_
        exact st 0 (b2_0 (fun z => (shS_f hg hk8).mp z e)).symm
      · refine R_br rfl rfl (fun h => absurd (nI_ij (by omega) (by omega) h) e) (fun _ => ?_)
        refine R_go 75 rfl rfl trivial ?_
        exact st 1 (b2_1 ((shS_f hg hk8).mpr e)).symm
def BGo (A : FI) (B : FJ) (F : FS) (mo : Int32) : Option AV → AH → Prop := fun r h' => ∃ A' B', r = none ∧ h' = hp A' B' ∧ FmO 15 [16, 17] [2, 3, 4, 5, 6] A A' ∧ FmJ [15] B B' ∧ bgP A' F mo 8 ∧ A' 15 0 2 = mo ∧ A' 15 0 3 = 0 ∧ A' 15 0 4 = 0 ∧ A' 15 0 5 = 0 ∧ A' 15 0 6 = 0 ∧ B' 15 0 7 = -1 ∧ B' 15 0 8 = -1
theorem m_begin {mo : Int32} {F : FS} (hmo : mo = -1 ∨ ∃ f, f < 8 ∧ mo = nI f) (hW : WFF F) {A : FI} {B : FJ} (hR : RCF A F) : MV 4 2 mtX8_begin [.inr (.inr (some (15, 0))), .inr (.inr (some (1, 0))), .inl mo] (hp A B) (BGo A B F mo) := by
  refine MV_of caX8_begin (L := [some (.inr (.inr (some (15, 0)))), some (.inr (.inr (some (1, 0)))), some (.inl mo), none, none]) rfl rfl ?_
  refine R_go 41 rfl rfl trivial ?_
  generalize hA1 : up3 (up3 (up3 (up3 (up3 A 15 0 2 mo) 15 0 3 0) 15 0 4 0) 15 0 5 0) 15 0 6 0 = A1
  have hF1 : FmO 15 [16, 17] [2, 3, 4, 5, 6] A A1 := by rw [← hA1]; exact (by first | exact FmO_rf | (repeat' (first | exact FmO_rf | (with_reducible assumption) | (refine FmO_up ?_ (by decide)) | (refine FmO_ug ?_ (by decide) (by decide)))))
  have e6 : A1 15 0 6 = 0 := by rw [← hA1]; exact up3_self
  have e5 : A1 15 0 5 = 0 := by rw [← hA1, up3_s (by decide)]; exact up3_self
  have e4 : A1 15 0 4 = 0 := by rw [← hA1, up3_s (by decide), up3_s (by decide)]; exact up3_self
  have e3 : A1 15 0 3 = 0 := by rw [← hA1, up3_s (by decide), up3_s (by decide), up3_s (by decide)]; exact up3_self
  have e2 : A1 15 0 2 = mo := by rw [← hA1, up3_s (by decide), up3_s (by decide), up3_s (by decide), up3_s (by decide)]; exact up3_self
  have hR1 : RCF A1 F := fun f hf => by rw [hF1.1 2 (by decide) (by decide)]; exact hR f hf
  clear hA1
  refine l_begin (A0 := A1) hmo hW (fun A2 hF2 hs => ?_) 8 0 A1 rfl FmO_rf hR1 ⟨fun f hf => by omega, fun s _ f hf => by omega⟩ none
  refine ⟨A2, _, rfl, rfl, FmO_tr hF1 (FmO_w hF2 (by decide) (by decide)), FmJ_up (FmJ_up FmJ_rf (by decide)) (by decide), hs, ?_, ?_, ?_, ?_, ?_, ?_, up3_self⟩
  · rw [hF2.2 2 (by decide)]; exact e2
  · rw [hF2.2 3 (by decide)]; exact e3
  · rw [hF2.2 4 (by decide)]; exact e4
  · rw [hF2.2 5 (by decide)]; exact e5
  · rw [hF2.2 6 (by decide)]; exact e6
  · rw [up3_s (by decide)]; exact up3_self
def RKc (A : FI) (B : FJ) (c : Tl) (pr : Option (Nat × Nat)) : Prop := A 15 0 4 = nI c.1 ∧ A 15 0 5 = nI c.2.1 ∧ A 15 0 6 = nI c.2.2 ∧ (pr = none → B 15 0 7 = -1 ∧ B 15 0 8 = -1) ∧ ∀ q, pr = some q → B 15 0 7 = lN q.1 ∧ B 15 0 8 = lN q.2
def piC (A : FI) : List Bo → Prop
  | [] => True
  | b :: p => bxC A p.length b ∧ piC A p
theorem bxC_lt {A A' : FI} {t : Nat} {b : Bo} (h : bxC A t b) (e : ∀ z, z < 32 * (t + 1) → A' 16 0 z = A 16 0 z) : bxC A' t b := fun s hs f hf => by
  rw [e _ (by omega), e _ (by omega)]
  exact h s hs f hf
theorem piC_lt {A A' : FI} : ∀ {p : List Bo}, piC A p → (∀ z, z < 32 * p.length → A' 16 0 z = A 16 0 z) → piC A' p
  | [], _, _ => trivial
  | b :: p, h, e => by
    simp only [List.length_cons] at e
    exact ⟨bxC_lt h.1 (fun z hz => e z (by omega)), piC_lt h.2 (fun z hz => e z (by omega))⟩
theorem FmO_o {g0 g1 : Nat} {ss gs ts : List Nat} {A A' : FI} (h : FmO g1 [] ss A A') (h1 : g1 ≠ g0) (h2 : g1 ∈ gs) : FmO g0 gs ts A A' := ⟨fun g _ hg => h.1 g (fun e => hg (e ▸ h2)) (by simp), fun s _ => by rw [h.1 g0 (fun e => h1 e.symm) (by simp)]⟩
def SKc (A0 : FI) (B0 : FJ) (z : Int32 × Tl × Option Bo) : Option AV → AH → Prop := fun r h' => ∃ A' B', r = some (.inl z.1) ∧ h' = hp A' B' ∧ FmO 15 [12, 16, 17] [2, 3, 4, 5, 6] A0 A' ∧ FmJ [13, 14, 15] B0 B' ∧ RKc A' B' z.2.1 (z.2.2.map prB)
abbrev ovL (mo : Int32) (bx : Nat) (o6 o7 : Option AV) : List (Option AV) := [some (.inr (.inr (some (15, 0)))), some (.inr (.inr (some (1, 0)))), some (.inr (.inr (some (4, 6)))), some (.inr (.inr (some (12, 0)))), some (.inl mo), some (.inl (nI bx)), o6, o7]
theorem l_over {sh : Nat → Prop} {mo : Int32} {LS : List (List Tk)} {P : List (List Tk × Nat)} {bx : Nat} (hbx : bx ≤ 2000) (hmo : mo = -1 ∨ ∃ f, f < 8 ∧ mo = nI f) (hL : okL LS) (hP : okP P) {A0 : FI} {B0 : FJ} : ∀ (k : Nat) (p : List Bo) (c : Tl) (A : FI) (B : FJ), c.1 + k = bx → pOK sh p → piC A p → A 15 0 2 = mo → A 15 0 3 = nI p.length - 1 → A 15 0 4 = nI c.1 → A 15 0 5 = nI c.2.1 → A 15 0 6 = nI c.2.2 → (B 15 0 7 = -1 ∧ B 15 0 8 = -1) → RCL A LS → RS 6 A P [] → (∀ f, f < 8 → A 17 0 f = b2 (sh f)) → FmO 15 [12, 16, 17] [2, 3, 4, 5, 6] A0 A → FmJ [13, 14, 15] B0 B → ∀ o6 o7, Rn 5 mtX8_over 7 (ovL mo bx o6 o7) [] (hp A B) (SKc A0 B0 (skS sh (fun b => dnS b LS P mo) k p c)) := by
  intro k
  induction k with
  | zero =>
    intro p c A B hk hpo hpi h2 h3 h4 h5 h6 h78 hR hS h17 hF hJ o6 o7
    have hlen := pOK_len hpo
    have tp := ti p.length (by omega)
    refine R_go 9999 rfl rfl trivial ?_
    try dsimp only [fgt, fpt]
    rw [h3]
    cases p with
    | nil =>
      refine R_br rfl rfl (fun _ => ?_) (fun h => absurd (by decide) h)
      refine R_go 9999 rfl rfl trivial ?_
      try dsimp only [fgt, fpt]
      rw [h3]
      refine R_br rfl rfl (fun h => absurd h (by decide)) (fun _ => ?_)
      refine R_go 9999 rfl rfl trivial ?_
      refine R_ri rfl rfl ?_
      exact ⟨A, B, rfl, rfl, hF, hJ, h4, h5, h6, fun _ => h78, fun q hq => by cases hq⟩
    | cons b q =>
      simp only [List.length_cons] at tp hlen h3 ⊢
      have tq := ti q.length (by omega)
      rw [nI_pred] at h3 ⊢
      refine R_br rfl rfl (fun h => absurd h (by (simp only [i_eq, i_lt, i_le, Int32.reduceToInt, true_and, and_true, false_and, and_false, or_false, false_or, or_true, true_or, ne_eq] at *; first | done | omega))) (fun _ => ?_)
      refine R_go 9999 rfl rfl trivial ?_
      try dsimp only [fgt, fpt]
      rw [h4, show c.1 = bx by omega]
      refine R_br rfl rfl (fun _ => ?_) (fun h => absurd (Int32.le_refl _) h)
      refine R_go 9999 rfl rfl trivial ?_
      try dsimp only [fgt, fpt]
      rw [h3]
      refine R_br rfl rfl (fun _ => ?_) (fun h => absurd (by (simp only [i_eq, i_lt, i_le, Int32.reduceToInt, true_and, and_true, false_and, and_false, or_false, false_or, or_true, true_or, ne_eq] at *; first | done | omega)) h)
      refine R_go 9999 rfl rfl trivial ?_
      refine R_ri rfl rfl ?_
      exact ⟨A, B, rfl, rfl, hF, hJ, h4, h5, h6, fun _ => h78, fun q hq => by cases hq⟩
  | succ k ih =>
    intro p c A B hk hpo hpi h2 h3 h4 h5 h6 h78 hR hS h17 hF hJ o6 o7
    have hlen := pOK_len hpo
    have tp := ti p.length (by omega)
    refine R_go 9999 rfl rfl trivial ?_
    try dsimp only [fgt, fpt]
    rw [h3]
    cases p with
    | nil =>
      refine R_br rfl rfl (fun _ => ?_) (fun h => absurd (by decide) h)
      refine R_go 9999 rfl rfl trivial ?_
      try dsimp only [fgt, fpt]
      rw [h3]
      refine R_br rfl rfl (fun h => absurd h (by decide)) (fun _ => ?_)
      refine R_go 9999 rfl rfl trivial ?_
      refine R_ri rfl rfl ?_
      exact ⟨A, B, rfl, rfl, hF, hJ, h4, h5, h6, fun _ => h78, fun q hq => by cases hq⟩
    | cons b q =>
      obtain ⟨hb, hsm, hpq⟩ := id hpo
      obtain ⟨hbm, hpm⟩ := hpi
      simp only [List.length_cons] at tp hlen h3 ⊢
      have tq := ti q.length (by omega)
      rw [nI_pred] at h3 ⊢
      have tc := ti c.1 (by omega)
      have tbx := ti bx (by omega)
      have im : nI q.length * 32 = nI (32 * q.length) := by rw [show nI q.length * 32 = nI (q.length * 32) from pk_mul _ 32, Nat.mul_comm]
      refine R_br rfl rfl (fun h => absurd h (by (simp only [i_eq, i_lt, i_le, Int32.reduceToInt, true_and, and_true, false_and, and_false, or_false, false_or, or_true, true_or, ne_eq] at *; first | done | omega))) (fun _ => ?_)
      refine R_go 9999 rfl rfl trivial ?_
      try dsimp only [fgt, fpt]
      rw [h4]
      refine R_br rfl rfl (fun h => absurd h (by (simp only [i_eq, i_lt, i_le, Int32.reduceToInt, true_and, and_true, false_and, and_false, or_false, false_or, or_true, true_or, ne_eq] at *; first | done | omega))) (fun _ => ?_)
      refine R_go 9999 rfl rfl trivial ?_
      try dsimp only [fgt, fpt]
      rw [h4, nI_1, up3_s (show 3 ≠ 4 by decide), h3, im]
      generalize hA1' : up3 A 15 0 4 (nI (c.1 + 1)) = A1
      have hF1 : FmO 15 [12, 16, 17] [4] A A1 := by rw [← hA1']; exact (by first | exact FmO_rf | (repeat' (first | exact FmO_rf | (with_reducible assumption) | (refine FmO_up ?_ (by decide)) | (refine FmO_ug ?_ (by decide) (by decide)))))
      have e4 : A1 15 0 4 = nI (c.1 + 1) := by rw [← hA1']; exact up3_self
      have hF1' : FmO 15 [12, 16, 17] [2, 3, 4, 5, 6] A A1 := FmO_w hF1 (by decide) (by decide)
      have e2 : A1 15 0 2 = mo := by rw [hF1.2 2 (by decide)]; exact h2
      have e3 : A1 15 0 3 = nI q.length := by rw [hF1.2 3 (by decide)]; exact h3
      have e5 : A1 15 0 5 = nI c.2.1 := by rw [hF1.2 5 (by decide)]; exact h5
      have e6 : A1 15 0 6 = nI c.2.2 := by rw [hF1.2 6 (by decide)]; exact h6
      have e78 : B 15 0 7 = -1 ∧ B 15 0 8 = -1 := h78
      have e17 : ∀ f, f < 8 → A1 17 0 f = b2 (sh f) := fun f hf => by rw [← hA1', up3_g (by decide)]; exact h17 f hf
      have e16 : A1 16 = A 16 := by rw [← hA1', up3_g (by decide)]
      have eR : RCL A1 LS := ⟨by rw [← hA1', up3_g (by decide)]; exact hR.1, fun j hj => RS_fr (hR.2 j hj) (by rw [← hA1', up3_g (by decide)]) (by rw [← hA1', up3_g (by decide)]) (by rw [← hA1', up3_g (by decide)])⟩
      have eS : RS 6 A1 P [] := RS_fr hS (by rw [← hA1', up3_g (by decide)]) (by rw [← hA1', up3_g (by decide)]) (by rw [← hA1', up3_g (by decide)])
      clear hA1'
      have hbx1 : bxC A1 q.length b := bxC_lt hbm (fun z _ => by rw [e16])
      refine R_cvr rfl (m_widestOf (by omega) hb hbx1) rfl rfl rfl rfl rfl (Nat.le_of_ble_eq_true rfl) rfl ?_
      refine R_go 9999 rfl rfl trivial ?_
      refine R_cv rfl (m_isSettled (B := B) (by omega) e2 hmo hbx1 (b99_of hb) hL eR hP eS) rfl rfl rfl rfl rfl (Nat.le_of_ble_eq_true rfl) rfl ?_
      rintro r h' ⟨A3, B3, rfl, rfl, hF3, hJ3⟩
      have k15 : A3 15 = A1 15 := hF3.1 15 (by decide) (by simp)
      have k16 : A3 16 = A1 16 := hF3.1 16 (by decide) (by simp)
      have hF03 : FmO 15 [12, 16, 17] [2, 3, 4, 5, 6] A A3 := FmO_tr hF1' (FmO_o hF3 (by decide) (by decide))
      have hJ03 : FmJ [13, 14, 15] B0 B3 := FmJ_tr hJ (FmJ_w hJ3 (by decide))
      have f2 : A3 15 0 2 = mo := by rw [k15]; exact e2
      have f3 : A3 15 0 3 = nI q.length := by rw [k15]; exact e3
      have f4 : A3 15 0 4 = nI (c.1 + 1) := by rw [k15]; exact e4
      have f5 : A3 15 0 5 = nI c.2.1 := by rw [k15]; exact e5
      have f6 : A3 15 0 6 = nI c.2.2 := by rw [k15]; exact e6
      have f78 : B3 15 0 7 = -1 ∧ B3 15 0 8 = -1 := by rw [hJ3 15 (by decide)]; exact h78
      have f17 : ∀ f, f < 8 → A3 17 0 f = b2 (sh f) := fun f hf => by rw [hF3.1 17 (by decide) (by simp)]; exact e17 f hf
      have fR := RCL_Sp eR hF3
      have fS := RS_Sp eS hF3
      have hbx3 : bxC A3 q.length b := bxC_lt hbx1 (fun z _ => by rw [k16])
      have hpm3 : piC A3 q := piC_lt hpm (fun z _ => by rw [k16, e16])
      have nx : ∀ (A4 : FI) (p' : List Bo) (c' : Tl), FmO 15 [16] [3, 5, 6] A3 A4 → c'.1 = c.1 + 1 → pOK sh p' → piC A4 p' → A4 15 0 3 = nI p'.length - 1 → A4 15 0 5 = nI c'.2.1 → A4 15 0 6 = nI c'.2.2 → ∀ o6 o7, Rn 5 mtX8_over 7 (ovL mo bx o6 o7) [] (hp A4 B3) (SKc A0 B0 (skS sh (fun b => dnS b LS P mo) k p' c')) := fun A4 p' c' hF4 hc' hp' hpi' g3 g5 g6 o6 o7 =>
        ih p' c' A4 B3 (by omega) hp' hpi' (by rw [hF4.2 2 (by decide)]; exact f2) g3 (by rw [hF4.2 4 (by decide), hc']; exact f4) g5 g6 f78 ⟨by rw [hF4.1 1 (by decide) (by decide)]; exact fR.1, fun j hj => RS_fr (fR.2 j hj) (by rw [hF4.1 4 (by decide) (by decide)]) (by rw [hF4.1 5 (by decide) (by decide)]) (by rw [hF4.1 6 (by decide) (by decide)])⟩ (RS_fr fS (by rw [hF4.1 4 (by decide) (by decide)]) (by rw [hF4.1 5 (by decide) (by decide)]) (by rw [hF4.1 6 (by decide) (by decide)])) (fun f hf => by rw [hF4.1 17 (by decide) (by decide)]; exact f17 f hf) (FmO_tr hF (FmO_tr hF03 (FmO_w hF4 (by decide) (by decide)))) hJ03 o6 o7
      rcases Classical.em (dnS b LS P mo) with hd | hd
      · rw [b2_1 hd, skS_d (don := fun b => dnS b LS P mo) hd]
        refine R_br rfl rfl (fun h => absurd h (by decide)) (fun _ => ?_)
        refine R_go 7 rfl rfl trivial ?_
        try dsimp only [fgt, fpt]
        rw [f6, nI_1, up3_s (show 3 ≠ 6 by decide), f3]
        exact nx _ q (c.1 + 1, c.2.1, c.2.2 + 1) (by first | exact FmO_rf | (repeat' (first | exact FmO_rf | (with_reducible assumption) | (refine FmO_up ?_ (by decide)) | (refine FmO_ug ?_ (by decide) (by decide))))) rfl hpq (piC_lt hpm3 (fun z _ => by rw [up3_g (by decide), up3_g (by decide)])) up3_self (by rw [up3_s (by decide), up3_s (by decide)]; exact f5) (by rw [up3_s (by decide)]; exact up3_self) _ _
      · rw [b2_0 hd, skS_n (don := fun b => dnS b LS P mo) hd]
        refine R_br rfl rfl (fun _ => ?_) (fun h => absurd rfl h)
        refine R_go 9999 rfl rfl trivial ?_
        by_cases hw : (wbS b 16).1 = 16
        · rw [if_pos hw, show wxC (32 * q.length) (wbS b 16).1 = -1 from if_pos hw]
          refine R_br rfl rfl (fun _ => ?_) (fun h => absurd rfl h)
          have i16 : nI (32 * q.length) + 16 = nI (32 * q.length + 16) := nI_add _ 16
          have hv : ∀ s, s ≤ 1 → ∀ (A' : FI), A' 16 = A3 16 → ∀ f, f < 8 → A' 16 0 (32 * q.length + 16 * s + 2 * f) = nI (b s f).1.toNat ∧ (b s f).1.toNat ≤ 20 := fun s hs A' e f hf => by
            have h1 := hb.1 s hs f hf
            rw [e]
            exact ⟨SB_n (hbx3 s hs f hf).1 (by omega) (by omega), by omega⟩
          refine R_go 9999 rfl rfl trivial ?_
          refine R_cvr rfl (m_pointOf (fr := 32 * q.length) (v := fun f => (b 0 f).1.toNat) (by omega) (hv 0 (by omega) _ rfl)) rfl rfl rfl rfl rfl (Nat.le_of_ble_eq_true rfl) rfl ?_
          refine R_go 9999 rfl rfl trivial ?_
          rw [i16]
          refine R_cvr rfl (m_pointOf (fr := 32 * q.length + 16) (v := fun f => (b 1 f).1.toNat) (by omega) (hv 1 (by omega) _ rfl)) rfl rfl rfl rfl rfl (Nat.le_of_ble_eq_true rfl) rfl ?_
          refine R_go 9999 rfl rfl trivial ?_
          refine R_ri rfl rfl ?_
          refine ⟨_, _, rfl, rfl, FmO_tr hF hF03, FmJ_tr hJ03 (FmJ_up (FmJ_up FmJ_rf (by decide)) (by decide)), f4, f5, f6, (fun h => by cases h), fun q' hq' => ?_⟩
          cases hq'
          exact ⟨by rw [up3_s (by decide)]; exact up3_self, up3_self⟩
        · rw [if_neg hw]
          obtain ⟨hpc, hlc⟩ := pOK_ct hpo hw
          obtain ⟨w1, -⟩ := wbS_ok hb 16 (by omega)
          rcases w1 with w1 | ⟨w1, w2, w3, w4⟩
          · exact absurd w1.1 hw
          generalize (wbS b 16).1 = n at *
          rw [w2] at w3
          have hn1 : ¬ wxC (32 * q.length) n = -1 := fun e => by
            have t1 := ti (32 * q.length + 16 * (n % 2) + 2 * (n / 2)) (by omega)
            rw [show wxC (32 * q.length) n = nI (32 * q.length + 16 * (n % 2) + 2 * (n / 2)) from if_neg hw] at e
            rw [e] at t1
            have : (-1 : Int32).toInt = -1 := by decide
            omega
          refine R_br rfl rfl (fun h => absurd h hn1) (fun _ => ?_)
          refine R_go 9999 rfl rfl trivial ?_
          refine R_cv rfl (m_cut (t := q.length) (by omega) hb w1 w3 w4 hbx3 f3 f17) rfl rfl rfl rfl rfl (Nat.le_of_ble_eq_true rfl) rfl ?_
          rintro r h' ⟨A4, rfl, rfl, hF4, g3, g5, hz4, hb4, hb5⟩
          refine R_go 7 rfl rfl trivial ?_
          refine nx A4 (ctB sh b n 1 :: ctB sh b n 0 :: q) (c.1 + 1, c.2.1 + 1, c.2.2) (FmO_w hF4 (by decide) (by decide)) rfl hpc ⟨hb5, hb4, piC_lt hpm3 (fun z hz => hz4 z hz)⟩ ?_ ?_ (by rw [hF4.2 6 (by decide)]; exact f6) _ _
          · rw [g3, List.length_cons, List.length_cons, nI_pred]
          · rw [g5, f5]; exact nI_1 _
theorem m_over {mo : Int32} {F : FS} {LS : List (List Tk)} {P : List (List Tk × Nat)} {bx : Nat} (hbx : bx ≤ 2000) (hmo : mo = -1 ∨ ∃ f, f < 8 ∧ mo = nI f) (hW : WFF F) (hL : okL LS) (hP : okP P) {A : FI} {B : FJ} (hR : RCF A F) (hRL : RCL A LS) (hS : RS 6 A P []) : MV 5 5 mtX8_over [.inr (.inr (some (15, 0))), .inr (.inr (some (1, 0))), .inr (.inr (some (4, 6))), .inr (.inr (some (12, 0))), .inl mo, .inl (nI bx)] (hp A B) (SKc A B (skS (shS F.1 mo) (fun b => dnS b LS P mo) bx [stB F.2.1 F.2.2.1] (0, 0, 0))) := by
  refine MV_of caX8_over (L := ovL mo bx none none) rfl rfl ?_
  refine R_go 9999 rfl rfl trivial ?_
  refine R_cv rfl (m_begin (B := B) hmo hW hR) rfl rfl rfl rfl rfl (Nat.le_of_ble_eq_true rfl) rfl ?_
  rintro r h' ⟨A1, B1, rfl, rfl, hF1, hJ1, hs, e2, e3, e4, e5, e6, e7, e8⟩
  have hbx0 : bxC A1 0 (stB F.2.1 F.2.2.1) := fun s hs' f hf => by
    obtain ⟨a1, a2⟩ := hs.2 s hs' f hf
    have hw := hW.1 f hf
    have t1 := ti (F.2.1 f) (by omega)
    have t2 := ti (F.2.2.1 f) (by omega)
    rw [show 32 * 0 + 16 * s + 2 * f = 16 * s + 2 * f by omega, a1, a2]; exact ⟨t1, t2⟩
  have rl : RCL A1 LS := ⟨by rw [hF1.1 1 (by decide) (by decide)]; exact hRL.1, fun j hj => RS_fr (hRL.2 j hj) (by rw [hF1.1 4 (by decide) (by decide)]) (by rw [hF1.1 5 (by decide) (by decide)]) (by rw [hF1.1 6 (by decide) (by decide)])⟩
  have rs : RS 6 A1 P [] := RS_fr hS (by rw [hF1.1 4 (by decide) (by decide)]) (by rw [hF1.1 5 (by decide) (by decide)]) (by rw [hF1.1 6 (by decide) (by decide)])
  have := l_over (A0 := A) (B0 := B) (sh := shS F.1 mo) hbx hmo hL hP bx [stB F.2.1 F.2.2.1] (0, 0, 0) A1 B1 (by dsimp only; omega) (st_ok (fun f hf => ⟨(hW.1 f hf).2.1, (hW.1 f hf).2.2.1⟩)) ⟨hbx0, trivial⟩ e2 (by rw [e3]; exact (by decide : (0 : Int32) = nI 1 - 1)) e4 e5 e6 ⟨e7, e8⟩ rl rs hs.1 (FmO_w hF1 (by decide) (by decide)) (FmJ_w hJ1 (by decide)) none none
  exact this
