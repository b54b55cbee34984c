def okL (LS : List (List Tk)) : Prop := LS.length ≤ 6 ∧ ∀ j, j < LS.length → wfs (0, []) (LS.getD j []) = some (1, []) ∧ (LS.getD j []).length ≤ 80
def RML (A : FI) (LS : List (List Tk)) : Prop := A 31 0 28 = nI LS.length ∧ ∀ j, j < LS.length → A 46 0 j = nI (LS.getD j []).length ∧ ∀ k, k < (LS.getD j []).length → A 47 0 (80 * j + k) = nI ((LS.getD j []).getD k (0, 0)).1 ∧ A 48 0 (80 * j + k) = nI ((LS.getD j []).getD k (0, 0)).2
theorem RML_fr {A A' : FI} {LS : List (List Tk)} {gs ss : List Nat} (h : RML A LS) (hF : FmO 31 gs ss A A') (h1 : 46 ∉ gs ∧ 47 ∉ gs ∧ 48 ∉ gs) (h2 : 28 ∉ ss) : RML A' LS := ⟨by rw [hF.2 28 h2]; exact h.1, fun j hj => by rw [hF.1 46 (by decide) h1.1, hF.1 47 (by decide) h1.2.1, hF.1 48 (by decide) h1.2.2]; exact h.2 j hj⟩
theorem RMF_fr {A A' : FI} {F : FS} {gs ss : List Nat} (h : RMF A F) (hF : FmO 31 gs ss A A') (h1 : 32 ∉ gs ∧ 33 ∉ gs ∧ 34 ∉ gs ∧ 35 ∉ gs) : RMF A' F := fun f hf => by
  rw [hF.1 32 (by decide) h1.1, hF.1 33 (by decide) h1.2.1, hF.1 34 (by decide) h1.2.2.1, hF.1 35 (by decide) h1.2.2.2]
  exact h f hf
def LWo (A : FI) (A' : FI) (l : List Tk) : Prop := FmO 31 [53, 54] [] A A' ∧ ∀ k, k < l.length → A' 53 0 k = nI (l.getD k (0, 0)).1 ∧ A' 54 0 k = nI (l.getD k (0, 0)).2
theorem l_takeLaw {LS : List (List Tk)} {j : Nat} (hj : j < LS.length) (hL : okL LS) (B : FJ) (A0 : FI) : ∀ (m k : Nat) (A : FI), k + m = (LS.getD j []).length → RML A LS → FmO 31 [53, 54] [] A0 A → (∀ i, i < k → A 53 0 i = nI ((LS.getD j []).getD i (0, 0)).1 ∧ A 54 0 i = nI ((LS.getD j []).getD i (0, 0)).2) → Rn 0 mtX12_takeLaw 2 [some (.inr (.inr (some (31, 0)))), some (.inl (nI j)), some (.inl (nI k))] [] (hp A B) (fun r h' => ∃ A', r = none ∧ h' = hp A' B ∧ LWo A0 A' (LS.getD j [])) := by
  intro m
  have h6 := hL.1
  have hl := (hL.2 j hj).2
  have cj : (nI j).toNatClampNeg = j := nI_clamp (by omega)
  have hvj : vp_in (nI j) 6 := vpN (n := 6) (by omega) rfl
  induction m with
  | zero =>
    intro k A hk hR hF hA
    have ek : (LS.getD j []).length = k := by omega
    have e46 := (hR.2 j hj).1
    have n1 : A 46 0 j ≤ nI k := by rw [e46, ek]; exact Int32.le_refl _
    refine R_go 9999 rfl rfl hvj ?_
    rw [cj]
    refine R_br rfl rfl (fun _ => ?_) (fun h => absurd n1 h)
    repeat' (first
        | (refine R_br rfl rfl (fun hbr => absurd hbr (by first | decide | (with_reducible assumption))) (fun _ => ?_))
        | (refine R_br rfl rfl (fun _ => ?_) (fun hbr => absurd (by first | decide | (with_reducible assumption)) hbr))
        | (refine R_br rfl rfl (fun _ => ?_) (fun _ => ?_))
        | (refine R_ri rfl rfl ?_)
        | (refine R_rz rfl rfl (Or.inl rfl) ?_)
        | (refine R_rz rfl rfl (Or.inr rfl) ?_)
        | (refine R_rz rfl rfl (b2_01 _) ?_)
        | (refine R_rl rfl rfl ?_)
        | (refine R_rv rfl rfl ?_)
        | (refine R_sw _ rfl rfl rfl ?_)
        | (refine R_go 9999 rfl rfl trivial ?_)
        | (refine R_go 9999 rfl rfl (by first | (show _ ∨ _; decide) | (show (_ ∨ _) ∧ (_ ∨ _); decide) | (show (_ ∨ _) ∧ (_ ∨ _) ∧ (_ ∨ _); decide)) ?_)
        | (refine R_go 9999 rfl rfl ?_ ?_))
    exact ⟨A, rfl, rfl, hF, fun i hi => hA i (by omega)⟩
  | succ m ih =>
    intro k A hk hR hF hA
    have tk := ti k (by omega)
    have tl := ti (LS.getD j []).length (by omega)
    have ck : (nI k).toNatClampNeg = k := nI_clamp (by omega)
    have hvk : vp_in (nI k) 80 := vpN (n := 80) (by omega) rfl
    obtain ⟨e46, e2⟩ := hR.2 j hj
    obtain ⟨e47, e48⟩ := e2 k (by omega)
    have em : (80 : Int32) * nI j + nI k = nI (80 * j + k) := by rw [show (80 : Int32) * nI j = nI (80 * j) from pk_mul 80 j, nI_add]
    have hvm : vp_in (nI (80 * j + k)) 480 := vpN (n := 480) (by omega) rfl
    have cm : (nI (80 * j + k)).toNatClampNeg = 80 * j + k := nI_clamp (by omega)
    refine R_go 9999 rfl rfl hvj ?_
    rw [cj]
    refine R_br rfl rfl (fun h => absurd h (by rw [e46]; (simp only [i_eq, i_lt, i_le, Int32.reduceToInt, true_and, and_true, false_and, and_false, or_false, false_or, or_true, true_or, ne_eq] at *; first | done | omega))) (fun _ => ?_)
    refine R_go 2 rfl rfl ?_ ?_
    · rw [em]; exact ⟨hvk, hvm, hvk, hvm⟩
    rw [em, ck, cm, e47, up3_g (show 48 ≠ 53 by decide), e48, nI_1]
    refine ih (k + 1) _ (by omega) (RML_fr (gs := [53, 54]) (ss := []) hR (by first | exact FmO_rf | (repeat' (first | exact FmO_rf | (with_reducible assumption) | (refine FmO_up ?_ (by decide)) | (refine FmO_ug ?_ (by decide) (by decide))))) (by decide) (by decide)) (FmO_tr hF (by first | exact FmO_rf | (repeat' (first | exact FmO_rf | (with_reducible assumption) | (refine FmO_up ?_ (by decide)) | (refine FmO_ug ?_ (by decide) (by decide)))))) (fun i hi => ?_)
    by_cases e : i = k
    · subst e
      rw [up3_g (by decide), up3_self, up3_self]; exact ⟨rfl, rfl⟩
    · rw [up3_g (show 53 ≠ 54 by decide), up3_s e, up3_s e, up3_g (show 54 ≠ 53 by decide)]; exact hA i (by omega)
theorem m_takeLaw {LS : List (List Tk)} {j : Nat} (hj : j < LS.length) (hL : okL LS) {A : FI} {B : FJ} (hR : RML A LS) : MV 0 1 mtX12_takeLaw [.inr (.inr (some (31, 0))), .inl (nI j)] (hp A B) (fun r h' => ∃ A', r = none ∧ h' = hp A' B ∧ LWo A A' (LS.getD j [])) := by
  refine MV_of caX12_takeLaw (L := [some (.inr (.inr (some (31, 0)))), some (.inl (nI j)), none]) rfl rfl ?_
  refine R_go 2 rfl rfl trivial ?_
  exact l_takeLaw hj hL B A (LS.getD j []).length 0 A (by omega) hR FmO_rf (fun i hi => by omega)
/-- whether one COULD COME -/
def spS (F : FS) (q : Nat → Nat) (n : Nat) : Prop := ∀ f, f < n → F.2.1 f ≤ q f ∧ q f ≤ F.2.2.1 f
def lwS (LS : List (List Tk)) (q : Nat → Nat) (n : Nat) : Prop := ∀ j, j < n → hldS q (LS.getD j []) = 1
def ccS (F : FS) (LS : List (List Tk)) (q : Nat → Nat) : Prop := spS F q 8 ∧ lwS LS q LS.length
def CCo (A : FI) (B : FJ) (x : Prop) : Option AV → AH → Prop := fun r h' => ∃ A' B', h' = hp A' B' ∧ r = some (.inl (b2 x)) ∧ FmO 31 [50, 51, 53, 54] [] A A' ∧ FmJ [49] B B'
theorem spS_s {F : FS} {q : Nat → Nat} {n : Nat} : spS F q (n + 1) ↔ spS F q n ∧ F.2.1 n ≤ q n ∧ q n ≤ F.2.2.1 n := ⟨fun h => ⟨fun f hf => h f (by omega), h n (by omega)⟩, fun h f hf => by
  by_cases e : f = n
  · subst e; exact h.2
  · exact h.1 f (by omega)⟩
theorem lwS_s {LS : List (List Tk)} {q : Nat → Nat} {n : Nat} : lwS LS q (n + 1) ↔ lwS LS q n ∧ hldS q (LS.getD n []) = 1 := ⟨fun h => ⟨fun f hf => h f (by omega), h n (by omega)⟩, fun h f hf => by
  by_cases e : f = n
  · subst e; exact h.2
  · exact h.1 f (by omega)⟩
theorem hld_le {q : Nat → Nat} {l : List Tk} (h : wfs (0, []) l = some (1, [])) : hldS q l ≤ 2 := by
  have key : ∀ (l : List Tk) (z : Ev) (y y' : Nat × List Nat), typ z y → wfs y l = some y' → typ (evl q z l) y' := by
    intro l
    induction l with
    | nil => intro z y y' h1 h2; cases h2; exact h1
    | cons t l ih =>
      intro z y y' h1 h2
      unfold wfs at h2
      cases hw1 : wst y t with
      | none => rw [hw1] at h2; cases h2
      | some y1 => rw [hw1] at h2; exact ih _ _ _ (evs_typ h1 hw1) h2
  obtain ⟨v, hv, hv2⟩ := typ_1 (key l ([], []) (0, []) (1, []) ⟨rfl, rfl, fun v hv => by simp at hv⟩ h)
  unfold hldS
  rw [hv]
  exact hv2
theorem l_ccLaws {F : FS} {LS : List (List Tk)} {q : Nat → Nat} (hL : okL LS) (A0 : FI) (B0 : FJ) (hsp : spS F q 8) : ∀ (m k : Nat) (A : FI) (B : FJ), k + m = LS.length → RML A LS → RPm A q → FmO 31 [50, 51, 53, 54] [] A0 A → FmJ [49] B0 B → lwS LS q k → Rn 2 mtX12_couldCome 55 [some (.inr (.inr (some (31, 0)))), some (.inl 1), some (.inl (nI k))] [] (hp A B) (CCo A0 B0 (ccS F LS q)) := by
  intro m
  induction m with
  | zero =>
    intro k A B hk hR hq hF hJ hw
    have ek : LS.length = k := by omega
    have n1 : A 31 0 28 ≤ nI k := by rw [hR.1, ek]; exact Int32.le_refl _
    refine R_go 9999 rfl rfl trivial ?_
    refine R_br rfl rfl (fun _ => ?_) (fun h => absurd n1 h)
    repeat' (first
        | (refine R_br rfl rfl (fun hbr => absurd hbr (by first | decide | (with_reducible assumption))) (fun _ => ?_))
        | (refine R_br rfl rfl (fun _ => ?_) (fun hbr => absurd (by first | decide | (with_reducible assumption)) hbr))
        | (refine R_br rfl rfl (fun _ => ?_) (fun _ => ?_))
        | (refine R_ri rfl rfl ?_)
        | (refine R_rz rfl rfl (Or.inl rfl) ?_)
        | (refine R_rz rfl rfl (Or.inr rfl) ?_)
        | (refine R_rz rfl rfl (b2_01 _) ?_)
        | (refine R_rl rfl rfl ?_)
        | (refine R_rv rfl rfl ?_)
        | (refine R_sw _ rfl rfl rfl ?_)
        | (refine R_go 9999 rfl rfl trivial ?_)
        | (refine R_go 9999 rfl rfl (by first | (show _ ∨ _; decide) | (show (_ ∨ _) ∧ (_ ∨ _); decide) | (show (_ ∨ _) ∧ (_ ∨ _) ∧ (_ ∨ _); decide)) ?_)
        | (refine R_go 9999 rfl rfl ?_ ?_))
    exact ⟨A, B, rfl, by rw [b2_1 ⟨hsp, by rw [ek]; exact hw⟩], hF, hJ⟩
  | succ m ih =>
    intro k A B hk hR hq hF hJ hw
    have h6 := hL.1
    have hkl : k < LS.length := by omega
    have tk := ti k (by omega)
    have tl := ti LS.length (by omega)
    have ck : (nI k).toNatClampNeg = k := nI_clamp (by omega)
    have hvk : vp_in (nI k) 6 := vpN (n := 6) (by omega) rfl
    refine R_go 9999 rfl rfl trivial ?_
    refine R_br rfl rfl (fun h => absurd h (by rw [hR.1]; (simp only [i_eq, i_lt, i_le, Int32.reduceToInt, true_and, and_true, false_and, and_false, or_false, false_or, or_true, true_or, ne_eq] at *; first | done | omega))) (fun _ => ?_)
    refine R_go 9999 rfl rfl trivial ?_
    refine R_br rfl rfl (fun h => absurd h (by decide)) (fun _ => ?_)
    refine R_go 9999 rfl rfl trivial ?_
    refine R_cv rfl (m_takeLaw hkl hL hR) rfl rfl rfl rfl rfl (Nat.le_of_ble_eq_true rfl) rfl ?_
    rintro r h' ⟨A1, rfl, rfl, hF1, hl1⟩
    have hF1' : FmO 31 [50, 51, 53, 54] [] A A1 := FmO_w hF1 (by decide) (by decide)
    have hR1 : RML A1 LS := RML_fr hR hF1 (by decide) (by decide)
    have hq1 : RPm A1 q := RPm_fr hq hF1 (by decide)
    have e46 := (hR1.2 k hkl).1
    have hll := (hL.2 k hkl).2
    have hho := m_holds (gr := 53) (go := 54) (fr := 0) (to := (LS.getD k []).length) (Or.inr ⟨rfl, rfl⟩) (B := B) (LS.getD k []) hll (by omega) (fun i hi => by rw [Nat.zero_add]; exact hl1 i hi) hq1 (hL.2 k hkl).1
    refine R_go 9999 rfl rfl hvk ?_
    rw [ck, e46]
    refine R_cv rfl hho rfl rfl rfl rfl rfl (Nat.le_of_ble_eq_true rfl) rfl ?_
    rintro r h' ⟨A2, B2, rfl, rfl, hF2, hJ2⟩
    have hF2' : FmO 31 [50, 51, 53, 54] [] A1 A2 := FmO_w hF2 (by decide) (by decide)
    have hh := hld_le (q := q) (hL.2 k hkl).1
    by_cases h1 : hldS q (LS.getD k []) = 1
    · rw [h1]
      repeat' (first
          | (refine R_stop 55 rfl rfl ?_)
          | (refine R_br rfl rfl (fun hbr => absurd hbr (by first | decide | (with_reducible assumption))) (fun _ => ?_))
          | (refine R_br rfl rfl (fun _ => ?_) (fun hbr => absurd (by first | decide | (with_reducible assumption)) hbr))
          | (refine R_br rfl rfl (fun _ => ?_) (fun _ => ?_))
          | (refine R_ri rfl rfl ?_)
          | (refine R_rz rfl rfl (Or.inl rfl) ?_)
          | (refine R_rz rfl rfl (Or.inr rfl) ?_)
          | (refine R_rz rfl rfl (b2_01 _) ?_)
          | (refine R_rl rfl rfl ?_)
          | (refine R_rv rfl rfl ?_)
          | (refine R_sw _ rfl rfl rfl ?_)
          | (refine R_go 55 rfl rfl trivial ?_)
          | (refine R_go 55 rfl rfl (by first | (show _ ∨ _; decide) | (show (_ ∨ _) ∧ (_ ∨ _); decide) | (show (_ ∨ _) ∧ (_ ∨ _) ∧ (_ ∨ _); decide)) ?_)
          | (refine R_go 55 rfl rfl ?_ ?_))
      refine ⟨?_, trivial⟩
      rw [nI_1]
      exact ih (k + 1) A2 B2 (by omega) (RML_fr hR1 hF2 (by decide) (by decide)) (RPm_fr hq1 hF2 (by decide)) (FmO_tr hF (FmO_tr hF1' hF2')) (FmJ_tr hJ hJ2) (lwS_s.mpr ⟨hw, h1⟩)
    · have n1 : ¬ nI (hldS q (LS.getD k [])) = 1 := by
        have tv := ti (hldS q (LS.getD k [])) (by omega)
        (simp only [i_eq, i_lt, i_le, Int32.reduceToInt, true_and, and_true, false_and, and_false, or_false, false_or, or_true, true_or, ne_eq] at *; first | done | omega)
      have n2 : ¬ ccS F LS q := fun z => h1 (z.2 k hkl)
      refine R_go 9999 rfl rfl trivial ?_
      refine R_br rfl rfl (fun h => absurd h n1) (fun _ => ?_)
      refine R_go 55 rfl rfl trivial ?_
      refine R_go 9999 rfl rfl trivial ?_
      refine R_br rfl rfl (fun _ => ?_) (fun _ => ?_)
      ·
        repeat' (first
            | (refine R_br rfl rfl (fun hbr => absurd hbr (by first | decide | (with_reducible assumption))) (fun _ => ?_))
            | (refine R_br rfl rfl (fun _ => ?_) (fun hbr => absurd (by first | decide | (with_reducible assumption)) hbr))
            | (refine R_br rfl rfl (fun _ => ?_) (fun _ => ?_))
            | (refine R_ri rfl rfl ?_)
            | (refine R_rz rfl rfl (Or.inl rfl) ?_)
            | (refine R_rz rfl rfl (Or.inr rfl) ?_)
            | (refine R_rz rfl rfl (b2_01 _) ?_)
            | (refine R_rl rfl rfl ?_)
            | (refine R_rv rfl rfl ?_)
            | (refine R_sw _ rfl rfl rfl ?_)
            | (refine R_go 9999 rfl rfl trivial ?_)
            | (refine R_go 9999 rfl rfl (by first | (show _ ∨ _; decide) | (show (_ ∨ _) ∧ (_ ∨ _); decide) | (show (_ ∨ _) ∧ (_ ∨ _) ∧ (_ ∨ _); decide)) ?_)
            | (refine R_go 9999 rfl rfl ?_ ?_))
        exact ⟨A2, B2, rfl, by rw [b2_0 n2], FmO_tr hF (FmO_tr hF1' hF2'), FmJ_tr hJ hJ2⟩
      ·
        repeat' (first
            | (refine R_br rfl rfl (fun hbr => absurd hbr (by first | decide | (with_reducible assumption))) (fun _ => ?_))
            | (refine R_br rfl rfl (fun _ => ?_) (fun hbr => absurd (by first | decide | (with_reducible assumption)) hbr))
            | (refine R_br rfl rfl (fun _ => ?_) (fun _ => ?_))
            | (refine R_ri rfl rfl ?_)
            | (refine R_rz rfl rfl (Or.inl rfl) ?_)
            | (refine R_rz rfl rfl (Or.inr rfl) ?_)
            | (refine R_rz rfl rfl (b2_01 _) ?_)
            | (refine R_rl rfl rfl ?_)
            | (refine R_rv rfl rfl ?_)
            | (refine R_sw _ rfl rfl rfl ?_)
            | (refine R_go 9999 rfl rfl trivial ?_)
            | (refine R_go 9999 rfl rfl (by first | (show _ ∨ _; decide) | (show (_ ∨ _) ∧ (_ ∨ _); decide) | (show (_ ∨ _) ∧ (_ ∨ _) ∧ (_ ∨ _); decide)) ?_)
            | (refine R_go 9999 rfl rfl ?_ ?_))
        exact ⟨A2, B2, rfl, by rw [b2_0 n2], FmO_tr hF (FmO_tr hF1' hF2'), FmJ_tr hJ hJ2⟩
theorem l_ccBad {F : FS} {LS : List (List Tk)} {q : Nat → Nat} (A : FI) (B : FJ) (hn : ¬ ccS F LS q) : ∀ (m k : Nat), k + m = 8 → Rn 2 mtX12_couldCome 4 [some (.inr (.inr (some (31, 0)))), some (.inl 0), some (.inl (nI k))] [] (hp A B) (CCo A B (ccS F LS q)) := by
  intro m
  induction m with
  | zero =>
    intro k hk
    have : k = 8 := by omega
    subst this
    refine R_go 9999 rfl rfl trivial ?_
    refine R_br rfl rfl (fun _ => ?_) (fun h => absurd (by decide) h)
    refine R_go 9999 rfl rfl trivial ?_
    refine R_br rfl rfl (fun _ => ?_) (fun _ => ?_)
    ·
      repeat' (first
          | (refine R_br rfl rfl (fun hbr => absurd hbr (by first | decide | (with_reducible assumption))) (fun _ => ?_))
          | (refine R_br rfl rfl (fun _ => ?_) (fun hbr => absurd (by first | decide | (with_reducible assumption)) hbr))
          | (refine R_br rfl rfl (fun _ => ?_) (fun _ => ?_))
          | (refine R_ri rfl rfl ?_)
          | (refine R_rz rfl rfl (Or.inl rfl) ?_)
          | (refine R_rz rfl rfl (Or.inr rfl) ?_)
          | (refine R_rz rfl rfl (b2_01 _) ?_)
          | (refine R_rl rfl rfl ?_)
          | (refine R_rv rfl rfl ?_)
          | (refine R_sw _ rfl rfl rfl ?_)
          | (refine R_go 9999 rfl rfl trivial ?_)
          | (refine R_go 9999 rfl rfl (by first | (show _ ∨ _; decide) | (show (_ ∨ _) ∧ (_ ∨ _); decide) | (show (_ ∨ _) ∧ (_ ∨ _) ∧ (_ ∨ _); decide)) ?_)
          | (refine R_go 9999 rfl rfl ?_ ?_))
      exact ⟨A, B, rfl, by rw [b2_0 hn], FmO_rf, FmJ_rf⟩
    ·
      repeat' (first
          | (refine R_br rfl rfl (fun hbr => absurd hbr (by first | decide | (with_reducible assumption))) (fun _ => ?_))
          | (refine R_br rfl rfl (fun _ => ?_) (fun hbr => absurd (by first | decide | (with_reducible assumption)) hbr))
          | (refine R_br rfl rfl (fun _ => ?_) (fun _ => ?_))
          | (refine R_ri rfl rfl ?_)
          | (refine R_rz rfl rfl (Or.inl rfl) ?_)
          | (refine R_rz rfl rfl (Or.inr rfl) ?_)
          | (refine R_rz rfl rfl (b2_01 _) ?_)
          | (refine R_rl rfl rfl ?_)
          | (refine R_rv rfl rfl ?_)
          | (refine R_sw _ rfl rfl rfl ?_)
          | (refine R_go 9999 rfl rfl trivial ?_)
          | (refine R_go 9999 rfl rfl (by first | (show _ ∨ _; decide) | (show (_ ∨ _) ∧ (_ ∨ _); decide) | (show (_ ∨ _) ∧ (_ ∨ _) ∧ (_ ∨ _); decide)) ?_)
          | (refine R_go 9999 rfl rfl ?_ ?_))
      exact ⟨A, B, rfl, by rw [b2_0 hn], FmO_rf, FmJ_rf⟩
  | succ m ih =>
    intro k hk
    have tk := ti k (by omega)
    refine R_go 9999 rfl rfl trivial ?_
    refine R_br rfl rfl (fun h => absurd h (by (simp only [i_eq, i_lt, i_le, Int32.reduceToInt, true_and, and_true, false_and, and_false, or_false, false_or, or_true, true_or, ne_eq] at *; first | done | omega))) (fun _ => ?_)
    repeat' (first
        | (refine R_stop 4 rfl rfl ?_)
        | (refine R_br rfl rfl (fun hbr => absurd hbr (by first | decide | (with_reducible assumption))) (fun _ => ?_))
        | (refine R_br rfl rfl (fun _ => ?_) (fun hbr => absurd (by first | decide | (with_reducible assumption)) hbr))
        | (refine R_br rfl rfl (fun _ => ?_) (fun _ => ?_))
        | (refine R_ri rfl rfl ?_)
        | (refine R_rz rfl rfl (Or.inl rfl) ?_)
        | (refine R_rz rfl rfl (Or.inr rfl) ?_)
        | (refine R_rz rfl rfl (b2_01 _) ?_)
        | (refine R_rl rfl rfl ?_)
        | (refine R_rv rfl rfl ?_)
        | (refine R_sw _ rfl rfl rfl ?_)
        | (refine R_go 4 rfl rfl trivial ?_)
        | (refine R_go 4 rfl rfl (by first | (show _ ∨ _; decide) | (show (_ ∨ _) ∧ (_ ∨ _); decide) | (show (_ ∨ _) ∧ (_ ∨ _) ∧ (_ ∨ _); decide)) ?_)
        | (refine R_go 4 rfl rfl ?_ ?_))
    refine ⟨?_, trivial⟩
    rw [nI_1]
    exact ih (k + 1) (by omega)
theorem l_ccSp {F : FS} {LS : List (List Tk)} {q : Nat → Nat} (hL : okL LS) (hW : WFF F) (A : FI) (B : FJ) (hR : RML A LS) (hM : RMF A F) (hq : RPm A q) : ∀ (m k : Nat), k + m = 8 → spS F q k → Rn 2 mtX12_couldCome 4 [some (.inr (.inr (some (31, 0)))), some (.inl 1), some (.inl (nI k))] [] (hp A B) (CCo A B (ccS F LS q)) := by
  intro m
  induction m with
  | zero =>
    intro k hk hs
    have : k = 8 := by omega
    subst this
    refine R_go 9999 rfl rfl trivial ?_
    refine R_br rfl rfl (fun _ => ?_) (fun h => absurd (by decide) h)
    refine R_go 55 rfl rfl trivial ?_
    exact l_ccLaws hL A B hs LS.length 0 A B (by omega) hR hq FmO_rf FmJ_rf (fun j hj => by omega)
  | succ m ih =>
    intro k hk hs
    have tk := ti k (by omega)
    have ck : (nI k).toNatClampNeg = k := nI_clamp (by omega)
    have hvk : vp_in (nI k) 8 := vpN (n := 8) (by omega) rfl
    obtain ⟨e1, e2⟩ := hq k (by omega)
    obtain ⟨-, f1, f2, -⟩ := hM k (by omega)
    have hw := hW.1 k (by omega)
    have t1 := ti (q k) (by omega)
    have t2 := ti (F.2.1 k) (by omega)
    have t3 := ti (F.2.2.1 k) (by omega)
    refine R_go 9999 rfl rfl trivial ?_
    refine R_br rfl rfl (fun h => absurd h (by (simp only [i_eq, i_lt, i_le, Int32.reduceToInt, true_and, and_true, false_and, and_false, or_false, false_or, or_true, true_or, ne_eq] at *; first | done | omega))) (fun _ => ?_)
    refine R_go 9999 rfl rfl trivial ?_
    refine R_br rfl rfl (fun h => absurd h (by decide)) (fun _ => ?_)
    refine R_go 9999 rfl rfl ⟨hvk, hvk, hvk⟩ ?_
    rw [ck, e1, f1, f2]
    by_cases hin : F.2.1 k ≤ q k ∧ q k ≤ F.2.2.1 k
    · refine R_csr rfl (m_inT (nI (q k)) (nI (F.2.1 k)).toInt64 (nI (F.2.2.1 k)).toInt64 (by rw [i_l, i_l]; omega) _ _) rfl rfl rfl (Nat.le_of_ble_eq_true rfl) rfl ?_
      repeat' (first
          | (refine R_stop 4 rfl rfl ?_)
          | (refine R_br rfl rfl (fun hbr => absurd hbr (by first | decide | (with_reducible assumption))) (fun _ => ?_))
          | (refine R_br rfl rfl (fun _ => ?_) (fun hbr => absurd (by first | decide | (with_reducible assumption)) hbr))
          | (refine R_br rfl rfl (fun _ => ?_) (fun _ => ?_))
          | (refine R_ri rfl rfl ?_)
          | (refine R_rz rfl rfl (Or.inl rfl) ?_)
          | (refine R_rz rfl rfl (Or.inr rfl) ?_)
          | (refine R_rz rfl rfl (b2_01 _) ?_)
          | (refine R_rl rfl rfl ?_)
          | (refine R_rv rfl rfl ?_)
          | (refine R_sw _ rfl rfl rfl ?_)
          | (refine R_go 4 rfl rfl trivial ?_)
          | (refine R_go 4 rfl rfl (by first | (show _ ∨ _; decide) | (show (_ ∨ _) ∧ (_ ∨ _); decide) | (show (_ ∨ _) ∧ (_ ∨ _) ∧ (_ ∨ _); decide)) ?_)
          | (refine R_go 4 rfl rfl ?_ ?_))
      refine ⟨?_, trivial⟩
      rw [nI_1]
      exact ih (k + 1) (by omega) (spS_s.mpr ⟨hs, hin⟩)
    · refine R_csr rfl (m_inF (nI (q k)) (nI (F.2.1 k)).toInt64 (nI (F.2.2.1 k)).toInt64 (by rw [i_l, i_l]; omega) _ _) rfl rfl rfl (Nat.le_of_ble_eq_true rfl) rfl ?_
      repeat' (first
          | (refine R_stop 4 rfl rfl ?_)
          | (refine R_br rfl rfl (fun hbr => absurd hbr (by first | decide | (with_reducible assumption))) (fun _ => ?_))
          | (refine R_br rfl rfl (fun _ => ?_) (fun hbr => absurd (by first | decide | (with_reducible assumption)) hbr))
          | (refine R_br rfl rfl (fun _ => ?_) (fun _ => ?_))
          | (refine R_ri rfl rfl ?_)
          | (refine R_rz rfl rfl (Or.inl rfl) ?_)
          | (refine R_rz rfl rfl (Or.inr rfl) ?_)
          | (refine R_rz rfl rfl (b2_01 _) ?_)
          | (refine R_rl rfl rfl ?_)
          | (refine R_rv rfl rfl ?_)
          | (refine R_sw _ rfl rfl rfl ?_)
          | (refine R_go 4 rfl rfl trivial ?_)
          | (refine R_go 4 rfl rfl (by first | (show _ ∨ _; decide) | (show (_ ∨ _) ∧ (_ ∨ _); decide) | (show (_ ∨ _) ∧ (_ ∨ _) ∧ (_ ∨ _); decide)) ?_)
          | (refine R_go 4 rfl rfl ?_ ?_))
      refine ⟨?_, trivial⟩
      rw [nI_1]
      exact l_ccBad A B (fun z => hin (z.1 k (by omega))) m (k + 1) (by omega)
theorem m_couldCome {F : FS} {LS : List (List Tk)} {q : Nat → Nat} {A : FI} {B : FJ} (hL : okL LS) (hW : WFF F) (hR : RML A LS) (hM : RMF A F) (hq : RPm A q) : MV 2 0 mtX12_couldCome [.inr (.inr (some (31, 0)))] (hp A B) (CCo A B (ccS F LS q)) := by
  refine MV_of caX12_couldCome (L := [some (.inr (.inr (some (31, 0)))), none, none]) rfl rfl ?_
  refine R_go 4 rfl rfl trivial ?_
  exact l_ccSp hL hW A B hR hM hq 8 0 rfl (fun f hf => by omega)
