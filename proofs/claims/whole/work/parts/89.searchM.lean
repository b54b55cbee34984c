def prB (b : Bo) : Nat × Nat := (poN (fun f => (b 0 f).1.toNat) 8 0, poN (fun f => (b 1 f).1.toNat) 8 0)
def RKm (A : FI) (B : FJ) (c : Tl) (pr : Option (Nat × Nat)) : Prop := A 31 0 46 = nI c.1 ∧ A 31 0 47 = nI c.2.1 ∧ A 31 0 48 = nI c.2.2 ∧ (pr = none → A 31 0 49 = 0) ∧ ∀ q, pr = some q → A 31 0 49 = 1 ∧ B 31 0 50 = lN q.1 ∧ B 31 0 51 = lN q.2
def piM (A : FI) : List Bo → Prop
  | [] => True
  | b :: p => bxM A p.length b ∧ piM A p
theorem bxM_lt {A A' : FI} {t : Nat} {b : Bo} (h : bxM A t b) (e : ∀ z, z < 32 * (t + 1) → A' 56 0 z = A 56 0 z) : bxM A' t b := fun s hs f hf => by
  rw [e _ (by omega), e _ (by omega)]
  exact h s hs f hf
theorem piM_lt {A A' : FI} : ∀ {p : List Bo}, piM A p → (∀ z, z < 32 * p.length → A' 56 0 z = A 56 0 z) → piM A' p
  | [], _, _ => trivial
  | b :: p, h, e => by
    simp only [List.length_cons] at e
    exact ⟨bxM_lt h.1 (fun z hz => e z (by omega)), piM_lt h.2 (fun z hz => e z (by omega))⟩
theorem b99_of {sh : Nat → Prop} {b : Bo} (h : bOK sh b) : ∀ s, s ≤ 1 → b99 (b s) := fun s hs f hf => by
  have := h.1 s hs f hf
  omega
abbrev seL (mo : Int32) (bx : Nat) (o3 o4 : Option AV) : List (Option AV) := [some (.inr (.inr (some (31, 0)))), some (.inl mo), some (.inl (nI bx)), o3, o4]
theorem l_pop {mo : Int32} {bx t : Nat} (ht : t + 1 ≤ 100) {A0 : FI} {B : FJ} {o4 : Option AV} {Q : Option AV → AH → Prop} (h41 : A0 31 0 41 = nI t) (kend : ∀ A, FmO 31 [55] [] A0 A → (∀ i, i < 32 → A 55 0 i = A0 56 0 (32 * t + i)) → Rn 4 mtX12_search 202 (seL mo bx (some (.inl (nI 32))) o4) [] (hp A B) Q) : ∀ (m k : Nat) (A : FI), k + m = 32 → FmO 31 [55] [] A0 A → (∀ i, i < k → A 55 0 i = A0 56 0 (32 * t + i)) → Rn 4 mtX12_search 170 (seL mo bx (some (.inl (nI k))) o4) [] (hp A B) Q := by
  intro m
  induction m with
  | zero =>
    intro k A hk hF hi
    have : k = 32 := by omega
    subst this
    refine R_go 9999 rfl rfl trivial ?_
    refine R_br rfl rfl (fun _ => ?_) (fun h => absurd (by decide) h)
    exact kend A hF hi
  | succ m ih =>
    intro k A hk hF hi
    have tk := ti k (by omega)
    have i1 : (32 : Int32) * nI t + nI k = nI (32 * t + k) := by rw [show (32 : Int32) * nI t = nI (32 * t) from pk_mul 32 t, nI_add]
    have c1 : (nI (32 * t + k)).toNatClampNeg = 32 * t + k := nI_clamp (by omega)
    have c2 : (nI k).toNatClampNeg = k := nI_clamp (by omega)
    have hv1 : vp_in (nI (32 * t + k)) 3200 := vpN (n := 3200) (by omega) rfl
    have hv2 : vp_in (nI k) 32 := vpN (n := 32) (by omega) rfl
    have e41 : A 31 0 41 = nI t := by rw [hF.2 41 (by decide)]; exact h41
    refine R_go 9999 rfl rfl trivial ?_
    refine R_br rfl rfl (fun h => absurd h (by (simp only [i_eq, i_lt, i_le, Int32.reduceToInt, true_and, and_true, false_and, and_false, or_false, false_or, or_true, true_or, ne_eq] at *; first | done | omega))) (fun _ => ?_)
    refine R_go 170 rfl rfl (by rw [e41, i1]; exact ⟨hv2, hv1⟩) ?_
    rw [e41, i1, c1, c2, nI_1, hF.1 56 (by decide) (by decide)]
    refine ih (k + 1) _ (by omega) (FmO_tr hF (by first | exact FmO_rf | (repeat' (first | exact FmO_rf | (with_reducible assumption) | (refine FmO_up ?_ (by decide)) | (refine FmO_ug ?_ (by decide) (by decide)))))) (fun i h1 => ?_)
    by_cases g : i = k
    · subst g; exact up3_self
    · rw [up3_s (by omega)]; exact hi i (by omega)
def SKm (A0 : FI) (B0 : FJ) (z : Int32 × Tl × Option Bo) : Option AV → AH → Prop := fun r h' => ∃ A' B', r = some (.inl z.1) ∧ h' = hp A' B' ∧ FmO 31 [51, 53, 54, 55, 56] [41, 46, 47, 48, 49] A0 A' ∧ FmJ [31, 58, 59] B0 B' ∧ RKm A' B' z.2.1 (z.2.2.map prB)
theorem FmJ_w {gs gs' : List Nat} {B B' : FJ} (h : FmJ gs B B') (h1 : ∀ x ∈ gs, x ∈ gs') : FmJ gs' B B' := fun g hg => h g (fun z => hg (h1 g z))
theorem l_search {sh : Nat → Prop} {mo : Int32} {LS : List (List Tk)} {P : List (List Tk × Nat)} {bx : Nat} (hbx : bx ≤ 2000) (hmo : mo = -1 ∨ ∃ f, f < 8 ∧ mo = nI f) (hL : okL LS) (hP : okP P) {A0 : FI} {B0 : FJ} : ∀ (k : Nat) (p : List Bo) (c : Tl) (A : FI) (B : FJ), c.1 + k = bx → pOK sh p → piM A p → A 31 0 41 = nI p.length → A 31 0 46 = nI c.1 → A 31 0 47 = nI c.2.1 → A 31 0 48 = nI c.2.2 → A 31 0 49 = 0 → RML A LS → RMG A P → (∀ f, f < 8 → A 57 0 f = b2 (sh f)) → FmO 31 [51, 53, 54, 55, 56] [41, 46, 47, 48, 49] A0 A → FmJ [31, 58, 59] B0 B → ∀ o3 o4, Rn 4 mtX12_search 130 (seL mo bx o3 o4) [] (hp A B) (SKm A0 B0 (skS sh (fun b => dnS b LS P mo) k p c)) := by
  intro k
  induction k with
  | zero =>
    intro p c A B hk hp hpi h41 h46 h47 h48 h49 hR hG h57 hF hJ o3 o4
    have hlen := pOK_len hp
    have tp := ti p.length (by omega)
    refine R_go 9999 rfl rfl trivial ?_
    try dsimp only [fgt, fpt]
    rw [h41]
    cases p with
    | nil =>
      refine R_br rfl rfl (fun _ => ?_) (fun h => absurd (by decide) h)
      refine R_go 9999 rfl rfl trivial ?_
      refine R_ri rfl rfl ?_
      exact ⟨A, B, rfl, rfl, hF, hJ, h46, h47, h48, fun _ => h49, fun q hq => by cases hq⟩
    | cons b q =>
      simp only [List.length_cons] at tp ⊢
      refine R_br rfl rfl (fun h => absurd h (by (simp only [i_eq, i_lt, i_le, Int32.reduceToInt, true_and, and_true, false_and, and_false, or_false, false_or, or_true, true_or, ne_eq] at *; first | done | omega))) (fun _ => ?_)
      refine R_go 9999 rfl rfl trivial ?_
      try dsimp only [fgt, fpt]
      rw [h46, show c.1 = bx by omega]
      refine R_br rfl rfl (fun _ => ?_) (fun h => absurd rfl h)
      refine R_go 9999 rfl rfl trivial ?_
      refine R_ri rfl rfl ?_
      exact ⟨A, B, rfl, rfl, hF, hJ, h46, h47, h48, fun _ => h49, fun q hq => by cases hq⟩
  | succ k ih =>
    intro p c A B hk hp hpi h41 h46 h47 h48 h49 hR hG h57 hF hJ o3 o4
    have hlen := pOK_len hp
    have tp := ti p.length (by omega)
    refine R_go 9999 rfl rfl trivial ?_
    try dsimp only [fgt, fpt]
    rw [h41]
    cases p with
    | nil =>
      refine R_br rfl rfl (fun _ => ?_) (fun h => absurd (by decide) h)
      refine R_go 9999 rfl rfl trivial ?_
      refine R_ri rfl rfl ?_
      exact ⟨A, B, rfl, rfl, hF, hJ, h46, h47, h48, fun _ => h49, fun q hq => by cases hq⟩
    | cons b q =>
      obtain ⟨hb, hsm, hpq⟩ := id hp
      obtain ⟨hbm, hpm⟩ := hpi
      simp only [List.length_cons] at tp hlen h41 ⊢
      have tc := ti c.1 (by omega)
      have tbx := ti bx (by omega)
      have hne : ¬ nI c.1 = nI bx := fun e => by have := nI_ij (by omega) (by omega) e; omega
      refine R_br rfl rfl (fun h => absurd h (by (simp only [i_eq, i_lt, i_le, Int32.reduceToInt, true_and, and_true, false_and, and_false, or_false, false_or, or_true, true_or, ne_eq] at *; first | done | omega))) (fun _ => ?_)
      refine R_go 9999 rfl rfl trivial ?_
      try dsimp only [fgt, fpt]
      rw [h46]
      refine R_br rfl rfl (fun h => absurd h hne) (fun _ => ?_)
      refine R_go 170 rfl rfl trivial ?_
      try dsimp only [fgt, fpt]
      rw [h46, nI_1, up3_s (show 41 ≠ 46 by decide), h41, nI_pred]
      generalize hA1 : up3 (up3 A 31 0 46 (nI (c.1 + 1))) 31 0 41 (nI q.length) = A1
      have hF1 : FmO 31 [] [41, 46] A A1 := by rw [← hA1]; exact (by first | exact FmO_rf | (repeat' (first | exact FmO_rf | (with_reducible assumption) | (refine FmO_up ?_ (by decide)) | (refine FmO_ug ?_ (by decide) (by decide)))))
      have e41 : A1 31 0 41 = nI q.length := by rw [← hA1]; exact up3_self
      have e46 : A1 31 0 46 = nI (c.1 + 1) := by rw [← hA1, up3_s (by decide)]; exact up3_self
      clear hA1
      refine l_pop (t := q.length) (by omega) e41 (fun A2 hF2 hcp => ?_) 32 0 A1 rfl FmO_rf (fun i hi => by omega)
      have hF02 : FmO 31 [55] [41, 46] A A2 := FmO_tr (FmO_w hF1 (by decide) (by decide)) (FmO_w hF2 (by decide) (by decide))
      have a56 : A1 56 = A 56 := hF1.1 56 (by decide) (by decide)
      have hsb : ∀ s, s ≤ 1 → SBm s A2 (b s) := fun s hs f hf => by
        have := hbm s hs f hf
        rw [hcp _ (by omega), hcp _ (by omega), a56, ← Nat.add_assoc, ← Nat.add_assoc, ← Nat.add_assoc]
        exact this
      have hR2 := RML_fr hR hF02 (by decide) (by decide)
      have hG2 := RMG_fr hG hF02 (by decide) (by decide)
      refine R_go 9999 rfl rfl trivial ?_
      refine R_cv rfl (m_isDone (B := B) hmo hsb (b99_of hb) hL hR2 hP hG2) rfl rfl rfl rfl rfl (Nat.le_of_ble_eq_true rfl) rfl ?_
      rintro r h' ⟨A3, B3, rfl, rfl, hF3, hJ3⟩
      have hF03 : FmO 31 [51, 53, 54, 55, 56] [41, 46, 47, 48, 49] A A3 := FmO_tr (FmO_w hF02 (by decide) (by decide)) (FmO_w hF3 (by decide) (by decide))
      have hJ03 : FmJ [31, 58, 59] B0 B3 := FmJ_tr hJ (FmJ_w hJ3 (by decide))
      have k41 : A3 31 0 41 = nI q.length := by rw [hF3.2 41 (by decide), hF2.2 41 (by decide)]; exact e41
      have k46 : A3 31 0 46 = nI (c.1 + 1) := by rw [hF3.2 46 (by decide), hF2.2 46 (by decide)]; exact e46
      have k47 : A3 31 0 47 = nI c.2.1 := by rw [hF3.2 47 (by decide), hF02.2 47 (by decide)]; exact h47
      have k48 : A3 31 0 48 = nI c.2.2 := by rw [hF3.2 48 (by decide), hF02.2 48 (by decide)]; exact h48
      have k49 : A3 31 0 49 = 0 := by rw [hF3.2 49 (by decide), hF02.2 49 (by decide)]; exact h49
      have k57 : ∀ f, f < 8 → A3 57 0 f = b2 (sh f) := fun f hf => by rw [hF03.1 57 (by decide) (by decide)]; exact h57 f hf
      have hR3 := RML_fr hR hF03 (by decide) (by decide)
      have hG3 := RMG_fr hG hF03 (by decide) (by decide)
      have k56 : A3 56 = A 56 := by rw [hF3.1 56 (by decide) (by decide), hF02.1 56 (by decide) (by decide)]
      have hpm3 : piM A3 q := piM_lt hpm (fun z _ => by rw [k56])
      have hsb3 := SBm_f hsb (hF3.1 55 (by decide) (by decide))
      rcases Classical.em (dnS b LS P mo) with hd | hd
      · rw [b2_1 hd, skS_d (don := fun b => dnS b LS P mo) hd]
        refine R_br rfl rfl (fun h => absurd h (by decide)) (fun _ => ?_)
        refine R_go 130 rfl rfl trivial ?_
        try dsimp only [fgt, fpt]
        rw [k48, nI_1]
        exact ih q (c.1 + 1, c.2.1, c.2.2 + 1) _ B3 (by dsimp only; omega) hpq (piM_lt hpm3 (fun z _ => by rw [up3_g (by decide)])) (by rw [up3_s (by decide)]; exact k41) (by rw [up3_s (by decide)]; exact k46) (by rw [up3_s (by decide)]; exact k47) up3_self (by rw [up3_s (by decide)]; exact k49) (RML_fr (gs := []) (ss := [48]) hR3 (by first | exact FmO_rf | (repeat' (first | exact FmO_rf | (with_reducible assumption) | (refine FmO_up ?_ (by decide)) | (refine FmO_ug ?_ (by decide) (by decide))))) (by decide) (by decide)) (RMG_fr (gs := []) (ss := [48]) hG3 (by first | exact FmO_rf | (repeat' (first | exact FmO_rf | (with_reducible assumption) | (refine FmO_up ?_ (by decide)) | (refine FmO_ug ?_ (by decide) (by decide))))) (by decide) (by decide)) (fun f hf => by rw [up3_g (by decide)]; exact k57 f hf) (FmO_tr hF (FmO_tr hF03 (by first | exact FmO_rf | (repeat' (first | exact FmO_rf | (with_reducible assumption) | (refine FmO_up ?_ (by decide)) | (refine FmO_ug ?_ (by decide) (by decide))))))) hJ03 _ _
      · rw [b2_0 hd, skS_n (don := fun b => dnS b LS P mo) hd]
        refine R_br rfl rfl (fun _ => ?_) (fun h => absurd rfl h)
        refine R_go 9999 rfl rfl trivial ?_
        refine R_cvr rfl (m_widest hb hsb3 k57) rfl rfl rfl rfl rfl (Nat.le_of_ble_eq_true rfl) rfl ?_
        refine R_go 9999 rfl rfl trivial ?_
        by_cases hw : (wbS b 16).1 = 16
        · rw [if_pos hw, show wxM (wbS b 16).1 = -1 from if_pos hw]
          refine R_br rfl rfl (fun _ => ?_) (fun h => absurd rfl h)
          have hv : ∀ s, s ≤ 1 → ∀ (A' : FI), A' 55 = A3 55 → ∀ f, f < 8 → A' 55 0 (4 * f + 2 * s) = nI (b s f).1.toNat ∧ (b s f).1.toNat ≤ 20 := fun s hs A' e f hf => by
            have h1 := hb.1 s hs f hf
            rw [e]
            exact ⟨SB_n (hsb3 s hs f hf).1 (by omega) (by omega), by omega⟩
          refine R_go 9999 rfl rfl (Or.inr rfl) ?_
          refine R_cvr rfl (m_boxPerson (sd := 0) (v := fun f => (b 0 f).1.toNat) (by omega) (hv 0 (by omega) _ (by rw [up3_g (by decide)]))) rfl rfl rfl rfl rfl (Nat.le_of_ble_eq_true rfl) rfl ?_
          refine R_go 9999 rfl rfl trivial ?_
          refine R_cvr rfl (m_boxPerson (sd := 1) (v := fun f => (b 1 f).1.toNat) (by omega) (hv 1 (by omega) _ (by rw [up3_g (by decide)]))) rfl rfl rfl rfl rfl (Nat.le_of_ble_eq_true rfl) rfl ?_
          refine R_go 9999 rfl rfl trivial ?_
          refine R_ri rfl rfl ?_
          refine ⟨_, _, rfl, rfl, FmO_tr hF (FmO_tr hF03 (by first | exact FmO_rf | (repeat' (first | exact FmO_rf | (with_reducible assumption) | (refine FmO_up ?_ (by decide)) | (refine FmO_ug ?_ (by decide) (by decide)))))), FmJ_tr hJ03 (FmJ_up (FmJ_up FmJ_rf (by decide)) (by decide)), ?_, ?_, ?_, (fun h => by cases h), fun q' hq' => ?_⟩
          · rw [up3_s (by decide)]; exact k46
          · rw [up3_s (by decide)]; exact k47
          · rw [up3_s (by decide)]; exact k48
          · cases hq'
            exact ⟨up3_self, by rw [up3_s (by decide)]; exact up3_self, up3_self⟩
        · rw [if_neg hw, show wxM (wbS b 16).1 = nI (wbS b 16).1 from if_neg hw]
          obtain ⟨hpc, hlc⟩ := pOK_ct hp hw
          obtain ⟨w1, -⟩ := wbS_ok hb 16 (by omega)
          rcases w1 with w1 | ⟨w1, w2, w3, w4⟩
          · exact absurd w1.1 hw
          generalize (wbS b 16).1 = n at *
          rw [w2] at w3
          have hbb := hb.1 (n % 2) (by omega) (n / 2) (by omega)
          have tn := ti n (by omega)
          have i1 : (2 : Int32) * nI n = nI (2 * n) := pk_mul 2 n
          have i2 : nI (2 * n) + 1 = nI (2 * n + 1) := nI_1 _
          have c1 : (nI (2 * n)).toNatClampNeg = 2 * n := nI_clamp (by omega)
          have c2 : (nI (2 * n + 1)).toNatClampNeg = 2 * n + 1 := nI_clamp (by omega)
          have hv1 : vp_in (nI (2 * n)) 32 := vpN (n := 32) (by omega) rfl
          have hv2 : vp_in (nI (2 * n + 1)) 32 := vpN (n := 32) (by omega) rfl
          obtain ⟨x1, x2⟩ := hsb3 (n % 2) (by omega) (n / 2) (by omega)
          rw [show 4 * (n / 2) + 2 * (n % 2) = 2 * n by omega] at x1 x2
          have n1 := SB_n x1 (by omega) (by omega)
          have n2 := SB_n x2 (by omega) (by omega)
          have hm : miB b n = (((b (n % 2) (n / 2)).1.toNat + (b (n % 2) (n / 2)).2.toNat) / 2 : Nat) := by unfold miB; omega
          have eh : (nI (b (n % 2) (n / 2)).1.toNat + nI (b (n % 2) (n / 2)).2.toNat) / 2 = nI (((b (n % 2) (n / 2)).1.toNat + (b (n % 2) (n / 2)).2.toNat) / 2) := by rw [nI_add]; exact hlf _ (by omega)
          have hm20 : ((b (n % 2) (n / 2)).1.toNat + (b (n % 2) (n / 2)).2.toNat) / 2 ≤ 20 := by omega
          generalize ((b (n % 2) (n / 2)).1.toNat + (b (n % 2) (n / 2)).2.toNat) / 2 = m at *
          have ct0 : psB sh b n 0 ((m + 1 : Nat) : Int) = ctB sh b n 0 := by unfold ctB; rw [if_pos rfl, hm]; rfl
          have ct1 : psB sh b n 1 (m : Int) = ctB sh b n 1 := by unfold ctB; rw [if_neg (by decide), hm]
          refine R_br rfl rfl (fun h => absurd h (by (simp only [i_eq, i_lt, i_le, Int32.reduceToInt, true_and, and_true, false_and, and_false, or_false, false_or, or_true, true_or, ne_eq] at *; first | done | omega))) (fun _ => ?_)
          refine R_go 9999 rfl rfl (by rw [i1, i2]; exact ⟨by decide, hv2, hv1⟩) ?_
          rw [i1, i2, c1, c2, n1, n2, eh, nI_1]
          refine R_cv rfl (m_push (e := 0) (v := m + 1) (t := q.length) (n := n) (sh := sh) (by omega) w1 (by omega) (by omega) hsb3 k41 k57) rfl rfl rfl rfl rfl (Nat.le_of_ble_eq_true rfl) rfl ?_
          rintro r h' ⟨A4, rfl, rfl, hF4, j41, hz4, hbx4⟩
          refine R_go 9999 rfl rfl trivial ?_
          refine R_cv rfl (m_push (e := 1) (v := m) (t := q.length + 1) (n := n) (sh := sh) (by omega) w1 (by omega) (by omega) (SBm_f hsb3 (hF4.1 55 (by decide) (by decide))) j41 (fun f hf => by rw [hF4.1 57 (by decide) (by decide)]; exact k57 f hf)) rfl rfl rfl rfl rfl (Nat.le_of_ble_eq_true rfl) rfl ?_
          rintro r h' ⟨A5, rfl, rfl, hF5, l41, hz5, hbx5⟩
          have hF35 : FmO 31 [56] [41] A3 A5 := FmO_tr hF4 hF5
          rw [ct0] at hbx4
          rw [ct1] at hbx5
          refine R_go 130 rfl rfl trivial ?_
          try dsimp only [fgt, fpt]
          rw [show A5 31 0 47 = nI c.2.1 by rw [hF35.2 47 (by decide)]; exact k47, nI_1]
          refine ih (ctB sh b n 1 :: ctB sh b n 0 :: q) (c.1 + 1, c.2.1 + 1, c.2.2) _ B3 (by dsimp only; omega) hpc ⟨bxM_lt hbx5 (fun z _ => by rw [up3_g (by decide)]), bxM_lt hbx4 (fun z hz => by rw [up3_g (by decide)]; exact hz5 z hz), piM_lt hpm3 (fun z hz => by rw [up3_g (by decide), hz5 z (by omega), hz4 z hz])⟩ (by rw [up3_s (by decide)]; exact l41) (by rw [up3_s (by decide), hF35.2 46 (by decide)]; exact k46) up3_self (by rw [up3_s (by decide), hF35.2 48 (by decide)]; exact k48) (by rw [up3_s (by decide), hF35.2 49 (by decide)]; exact k49) (RML_fr (gs := [56]) (ss := [41, 47]) hR3 (FmO_tr (FmO_w hF35 (by decide) (by decide)) (by first | exact FmO_rf | (repeat' (first | exact FmO_rf | (with_reducible assumption) | (refine FmO_up ?_ (by decide)) | (refine FmO_ug ?_ (by decide) (by decide)))))) (by decide) (by decide)) (RMG_fr (gs := [56]) (ss := [41, 47]) hG3 (FmO_tr (FmO_w hF35 (by decide) (by decide)) (by first | exact FmO_rf | (repeat' (first | exact FmO_rf | (with_reducible assumption) | (refine FmO_up ?_ (by decide)) | (refine FmO_ug ?_ (by decide) (by decide)))))) (by decide) (by decide)) (fun f hf => by rw [up3_g (by decide), hF35.1 57 (by decide) (by decide)]; exact k57 f hf) (FmO_tr hF (FmO_tr hF03 (FmO_tr (FmO_w hF35 (by decide) (by decide)) (by first | exact FmO_rf | (repeat' (first | exact FmO_rf | (with_reducible assumption) | (refine FmO_up ?_ (by decide)) | (refine FmO_ug ?_ (by decide) (by decide)))))))) hJ03 _ _
