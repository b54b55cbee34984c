theorem FmO_Fm {g0 : Nat} {ss : List Nat} {A A' : FI} (h : FmO g0 [] ss A A') {g : Nat} (hg : g ≠ g0) : A' g = A g := h.1 g hg (by simp)
abbrev Fm3 (A A' : FI) : Prop := FmO 10 [] [1, 2, 3] A A'
def RCL (A : FI) (LS : List (List Tk)) : Prop := A 1 0 2 = nI LS.length ∧ ∀ j, j < LS.length → RS j A [] (LS.getD j [])
theorem RS_fr {i : Nat} {A A' : FI} {dn : List (List Tk × Nat)} {cur : List Tk} (h : RS i A dn cur) (h4 : A' 4 i = A 4 i) (h5 : A' 5 i = A 5 i) (h6 : A' 6 i = A 6 i) : RS i A' dn cur := by
  obtain ⟨a, b, c, d, e⟩ := h
  exact ⟨by rw [h5]; exact a, by rw [h4]; exact b, by rw [h6]; exact c, by rw [h4]; exact d, by rw [h4]; exact e⟩
theorem RS_3 {i : Nat} {A A' : FI} {dn : List (List Tk × Nat)} {cur : List Tk} (h : RS i A dn cur) (hF : Fm3 A A') : RS i A' dn cur := RS_fr h (by rw [FmO_Fm hF (by decide)]) (by rw [FmO_Fm hF (by decide)]) (by rw [FmO_Fm hF (by decide)])
theorem RCL_3 {A A' : FI} {LS : List (List Tk)} (h : RCL A LS) (hF : Fm3 A A') : RCL A' LS := ⟨by rw [FmO_Fm hF (by decide)]; exact h.1, fun j hj => RS_3 (h.2 j hj) hF⟩
theorem RPn_3 {p : Nat} {A A' : FI} {q : Nat → Nat} (h : RPn p A q) (hF : Fm3 A A') : RPn p A' q := fun f hf => by rw [FmO_Fm hF (by decide)]; exact h f hf
theorem RCF_3 {A A' : FI} {F : FS} (h : RCF A F) (hF : Fm3 A A') : RCF A' F := fun f hf => by rw [FmO_Fm hF (by decide)]; exact h f hf
theorem l_isInSpans {F : FS} {q : Nat → Nat} {p : Nat} {A : FI} {B : FJ} (hF : RCF A F) (hW : WFF F) (hq : RPn p A q) : ∀ (m k : Nat), k + m = 8 → spS F q k → Rn 3 mtX3_isInSpans 2 [some (.inr (.inr (some (1, 0)))), some (.inr (.inr (some (24, p)))), some (.inl (nI k))] [] (hp A B) (Ret (some (.inl (b2 (spS F q 8)))) (hp A B)) := by
  intro m
  induction m with
  | zero =>
    intro k hk hs
    have : k = 8 := by omega
    subst this
    repeat' (first
        | (refine R_br rfl rfl (fun hbr => absurd hbr (by first | decide | (with_reducible assumption))) (fun _ => ?_))
        | (refine R_br rfl rfl (fun _ => ?_) (fun hbr => absurd (by first | decide | (with_reducible assumption)) hbr))
        | (refine R_br rfl rfl (fun _ => ?_) (fun _ => ?_))
        | (refine R_ri rfl rfl ?_)
        | (refine R_rz rfl rfl (Or.inl rfl) ?_)
        | (refine R_rz rfl rfl (Or.inr rfl) ?_)
        | (refine R_rz rfl rfl (b2_01 _) ?_)
        | (refine R_rl rfl rfl ?_)
        | (refine R_rv rfl rfl ?_)
        | (refine R_sw _ rfl rfl rfl ?_)
        | (refine R_go 9999 rfl rfl trivial ?_)
        | (refine R_go 9999 rfl rfl (by first | (show _ ∨ _; decide) | (show (_ ∨ _) ∧ (_ ∨ _); decide) | (show (_ ∨ _) ∧ (_ ∨ _) ∧ (_ ∨ _); decide)) ?_)
        | (refine R_go 9999 rfl rfl ?_ ?_))
    exact ret_y hs rfl
  | succ m ih =>
    intro k hk hs
    have tk := ti k (by omega)
    have hw := hW.1 k (by omega)
    obtain ⟨-, hq2⟩ := hq k (by omega)
    have hnp := m_numP (B := B) hq k (by omega)
    have hsp := m_isInSpan (B := B) hF hW k (by omega) (if q k = 99 then -1 else nI (q k))
    have hiff : ((F.2.1 k : Int) ≤ (if q k = 99 then (-1 : Int32) else nI (q k)).toInt ∧ (if q k = 99 then (-1 : Int32) else nI (q k)).toInt ≤ F.2.2.1 k) ↔ (F.2.1 k ≤ q k ∧ q k ≤ F.2.2.1 k) := by
      by_cases h99 : q k = 99
      · rw [if_pos h99]
        have : (-1 : Int32).toInt = -1 := by decide
        rw [this]
        omega
      · rw [if_neg h99, ti (q k) (by omega)]
        omega
    rw [b2_c hiff] at hsp
    refine R_go 9999 rfl rfl trivial ?_
    refine R_br rfl rfl (fun h => absurd h (by (simp only [i_eq, i_lt, i_le, Int32.reduceToInt, true_and, and_true, false_and, and_false, or_false, false_or, or_true, true_or, ne_eq] at *; first | done | omega))) (fun _ => ?_)
    refine R_go 9999 rfl rfl trivial ?_
    refine R_cvr rfl hnp rfl rfl rfl rfl rfl (Nat.le_of_ble_eq_true rfl) rfl ?_
    refine R_cvr rfl hsp rfl rfl rfl rfl rfl (Nat.le_of_ble_eq_true rfl) rfl ?_
    by_cases hin : F.2.1 k ≤ q k ∧ q k ≤ F.2.2.1 k
    · rw [b2_1 hin]
      repeat' (first
          | (refine R_stop 2 rfl rfl ?_)
          | (refine R_br rfl rfl (fun hbr => absurd hbr (by first | decide | (with_reducible assumption))) (fun _ => ?_))
          | (refine R_br rfl rfl (fun _ => ?_) (fun hbr => absurd (by first | decide | (with_reducible assumption)) hbr))
          | (refine R_br rfl rfl (fun _ => ?_) (fun _ => ?_))
          | (refine R_ri rfl rfl ?_)
          | (refine R_rz rfl rfl (Or.inl rfl) ?_)
          | (refine R_rz rfl rfl (Or.inr rfl) ?_)
          | (refine R_rz rfl rfl (b2_01 _) ?_)
          | (refine R_rl rfl rfl ?_)
          | (refine R_rv rfl rfl ?_)
          | (refine R_sw _ rfl rfl rfl ?_)
          | (refine R_go 2 rfl rfl trivial ?_)
          | (refine R_go 2 rfl rfl (by first | (show _ ∨ _; decide) | (show (_ ∨ _) ∧ (_ ∨ _); decide) | (show (_ ∨ _) ∧ (_ ∨ _) ∧ (_ ∨ _); decide)) ?_)
          | (refine R_go 2 rfl rfl ?_ ?_))
      refine ⟨?_, trivial⟩
      rw [nI_1]
      exact ih (k + 1) (by omega) (spS_s.mpr ⟨hs, hin⟩)
    · rw [b2_0 hin]
      repeat' (first
          | (refine R_br rfl rfl (fun hbr => absurd hbr (by first | decide | (with_reducible assumption))) (fun _ => ?_))
          | (refine R_br rfl rfl (fun _ => ?_) (fun hbr => absurd (by first | decide | (with_reducible assumption)) hbr))
          | (refine R_br rfl rfl (fun _ => ?_) (fun _ => ?_))
          | (refine R_ri rfl rfl ?_)
          | (refine R_rz rfl rfl (Or.inl rfl) ?_)
          | (refine R_rz rfl rfl (Or.inr rfl) ?_)
          | (refine R_rz rfl rfl (b2_01 _) ?_)
          | (refine R_rl rfl rfl ?_)
          | (refine R_rv rfl rfl ?_)
          | (refine R_sw _ rfl rfl rfl ?_)
          | (refine R_go 9999 rfl rfl trivial ?_)
          | (refine R_go 9999 rfl rfl (by first | (show _ ∨ _; decide) | (show (_ ∨ _) ∧ (_ ∨ _); decide) | (show (_ ∨ _) ∧ (_ ∨ _) ∧ (_ ∨ _); decide)) ?_)
          | (refine R_go 9999 rfl rfl ?_ ?_))
      exact ret_n (fun z => hin (z k (by omega))) rfl
theorem m_isInSpans {F : FS} {q : Nat → Nat} {p : Nat} {A : FI} {B : FJ} (hF : RCF A F) (hW : WFF F) (hq : RPn p A q) : MV 3 1 mtX3_isInSpans [.inr (.inr (some (1, 0))), .inr (.inr (some (24, p)))] (hp A B) (Ret (some (.inl (b2 (spS F q 8)))) (hp A B)) := by
  refine MV_of caX3_isInSpans (L := [some (.inr (.inr (some (1, 0)))), some (.inr (.inr (some (24, p)))), none]) rfl rfl ?_
  refine R_go 2 rfl rfl trivial ?_
  exact l_isInSpans hF hW hq 8 0 rfl (fun f hf => by omega)
def KLo (A : FI) (B : FJ) (x : Prop) : Option AV → AH → Prop := fun r h' => ∃ A' B', h' = hp A' B' ∧ r = some (.inl (b2 x)) ∧ Fm3 A A' ∧ FmJ [11] B B'
theorem l_keepsLaws {LS : List (List Tk)} {q : Nat → Nat} {p : Nat} (hL : okL LS) (A0 : FI) (B0 : FJ) : ∀ (m k : Nat) (A : FI) (B : FJ), k + m = LS.length → RCL A LS → RPn p A q → Fm3 A0 A → FmJ [11] B0 B → lwS LS q k → Rn 3 mtX3_keepsLaws 2 [some (.inr (.inr (some (1, 0)))), some (.inr (.inr (some (24, p)))), some (.inr (.inr (some (10, 0)))), some (.inl (nI k))] [] (hp A B) (KLo A0 B0 (lwS LS q LS.length)) := by
  intro m
  have h6 := hL.1
  induction m with
  | zero =>
    intro k A B hk hR hq hF hJ hs
    have ek : LS.length = k := by omega
    have n1 : A 1 0 2 ≤ nI k := by rw [hR.1, ek]; exact Int32.le_refl _
    refine R_go 9999 rfl rfl trivial ?_
    refine R_br rfl rfl (fun _ => ?_) (fun h => absurd n1 h)
    repeat' (first
        | (refine R_br rfl rfl (fun hbr => absurd hbr (by first | decide | (with_reducible assumption))) (fun _ => ?_))
        | (refine R_br rfl rfl (fun _ => ?_) (fun hbr => absurd (by first | decide | (with_reducible assumption)) hbr))
        | (refine R_br rfl rfl (fun _ => ?_) (fun _ => ?_))
        | (refine R_ri rfl rfl ?_)
        | (refine R_rz rfl rfl (Or.inl rfl) ?_)
        | (refine R_rz rfl rfl (Or.inr rfl) ?_)
        | (refine R_rz rfl rfl (b2_01 _) ?_)
        | (refine R_rl rfl rfl ?_)
        | (refine R_rv rfl rfl ?_)
        | (refine R_sw _ rfl rfl rfl ?_)
        | (refine R_go 9999 rfl rfl trivial ?_)
        | (refine R_go 9999 rfl rfl (by first | (show _ ∨ _; decide) | (show (_ ∨ _) ∧ (_ ∨ _); decide) | (show (_ ∨ _) ∧ (_ ∨ _) ∧ (_ ∨ _); decide)) ?_)
        | (refine R_go 9999 rfl rfl ?_ ?_))
    exact ⟨A, B, rfl, by rw [b2_1 (by rw [ek]; exact hs)], hF, hJ⟩
  | succ m ih =>
    intro k A B hk hR hq hF hJ hs
    have hkl : k < LS.length := by omega
    have tk := ti k (by omega)
    have tl := ti LS.length (by omega)
    have ck : (nI k).toNatClampNeg = k := nI_clamp (by omega)
    have hvk : vp_in (nI k) 6 := vpN (n := 6) (by omega) rfl
    have hwk := m_walkL (s := k) (B := B) (hL.2 k hkl).1 (hL.2 k hkl).2 (hR.2 k hkl) hq
    refine R_go 9999 rfl rfl trivial ?_
    refine R_br rfl rfl (fun h => absurd h (by rw [hR.1]; (simp only [i_eq, i_lt, i_le, Int32.reduceToInt, true_and, and_true, false_and, and_false, or_false, false_or, or_true, true_or, ne_eq] at *; first | done | omega))) (fun _ => ?_)
    refine R_go 9999 rfl rfl trivial ?_
    refine R_br rfl rfl (fun h => absurd h (by (simp only [i_eq, i_lt, i_le, Int32.reduceToInt, true_and, and_true, false_and, and_false, or_false, false_or, or_true, true_or, ne_eq] at *; first | done | omega))) (fun _ => ?_)
    refine R_go 9999 rfl rfl ⟨hvk, hvk⟩ ?_
    rw [ck]
    refine R_cv rfl hwk rfl rfl rfl rfl rfl (Nat.le_of_ble_eq_true rfl) rfl ?_
    rintro r h' ⟨A1, B1, rfl, rfl, hF1, hJ1⟩
    have hh := hld_le (q := q) (hL.2 k hkl).1
    by_cases h1 : hldS q (LS.getD k []) = 1
    · rw [h1]
      repeat' (first
          | (refine R_stop 2 rfl rfl ?_)
          | (refine R_br rfl rfl (fun hbr => absurd hbr (by first | decide | (with_reducible assumption))) (fun _ => ?_))
          | (refine R_br rfl rfl (fun _ => ?_) (fun hbr => absurd (by first | decide | (with_reducible assumption)) hbr))
          | (refine R_br rfl rfl (fun _ => ?_) (fun _ => ?_))
          | (refine R_ri rfl rfl ?_)
          | (refine R_rz rfl rfl (Or.inl rfl) ?_)
          | (refine R_rz rfl rfl (Or.inr rfl) ?_)
          | (refine R_rz rfl rfl (b2_01 _) ?_)
          | (refine R_rl rfl rfl ?_)
          | (refine R_rv rfl rfl ?_)
          | (refine R_sw _ rfl rfl rfl ?_)
          | (refine R_go 2 rfl rfl trivial ?_)
          | (refine R_go 2 rfl rfl (by first | (show _ ∨ _; decide) | (show (_ ∨ _) ∧ (_ ∨ _); decide) | (show (_ ∨ _) ∧ (_ ∨ _) ∧ (_ ∨ _); decide)) ?_)
          | (refine R_go 2 rfl rfl ?_ ?_))
      refine ⟨?_, trivial⟩
      rw [nI_1]
      exact ih (k + 1) A1 B1 (by omega) (RCL_3 hR hF1) (RPn_3 hq hF1) (FmO_tr hF hF1) (FmJ_tr hJ hJ1) (lwS_s.mpr ⟨hs, h1⟩)
    · have n1 : ¬ nI (hldS q (LS.getD k [])) = 1 := by
        have tv := ti (hldS q (LS.getD k [])) (by omega)
        (simp only [i_eq, i_lt, i_le, Int32.reduceToInt, true_and, and_true, false_and, and_false, or_false, false_or, or_true, true_or, ne_eq] at *; first | done | omega)
      repeat' (first
          | (refine R_br rfl rfl (fun hbr => absurd hbr (by first | decide | (with_reducible assumption))) (fun _ => ?_))
          | (refine R_br rfl rfl (fun _ => ?_) (fun hbr => absurd (by first | decide | (with_reducible assumption)) hbr))
          | (refine R_br rfl rfl (fun _ => ?_) (fun _ => ?_))
          | (refine R_ri rfl rfl ?_)
          | (refine R_rz rfl rfl (Or.inl rfl) ?_)
          | (refine R_rz rfl rfl (Or.inr rfl) ?_)
          | (refine R_rz rfl rfl (b2_01 _) ?_)
          | (refine R_rl rfl rfl ?_)
          | (refine R_rv rfl rfl ?_)
          | (refine R_sw _ rfl rfl rfl ?_)
          | (refine R_go 9999 rfl rfl trivial ?_)
          | (refine R_go 9999 rfl rfl (by first | (show _ ∨ _; decide) | (show (_ ∨ _) ∧ (_ ∨ _); decide) | (show (_ ∨ _) ∧ (_ ∨ _) ∧ (_ ∨ _); decide)) ?_)
          | (refine R_go 9999 rfl rfl ?_ ?_))
      exact ⟨A1, B1, rfl, by rw [b2_0 (fun z => h1 (z k hkl))], FmO_tr hF hF1, FmJ_tr hJ hJ1⟩
theorem m_keepsLaws {LS : List (List Tk)} {q : Nat → Nat} {p : Nat} {A : FI} {B : FJ} (hL : okL LS) (hR : RCL A LS) (hq : RPn p A q) : MV 3 2 mtX3_keepsLaws [.inr (.inr (some (1, 0))), .inr (.inr (some (24, p))), .inr (.inr (some (10, 0)))] (hp A B) (KLo A B (lwS LS q LS.length)) := by
  refine MV_of caX3_keepsLaws (L := [some (.inr (.inr (some (1, 0)))), some (.inr (.inr (some (24, p)))), some (.inr (.inr (some (10, 0)))), none]) rfl rfl ?_
  refine R_go 2 rfl rfl trivial ?_
  exact l_keepsLaws hL A B LS.length 0 A B (by omega) hR hq FmO_rf FmJ_rf (fun j hj => by omega)
theorem m_linesS {s n : Nat} {A : FI} {B : FJ} (h2 : A 4 s 5 = nI n) : MV 0 0 mtX7_lines [.inr (.inr (some (4, s)))] (hp A B) (Ret (some (.inl (nI n))) (hp A B)) := by
  refine MV_of caX7_lines (L := [some (.inr (.inr (some (4, s))))]) rfl rfl ?_
  repeat' (first
      | (refine R_br rfl rfl (fun hbr => absurd hbr (by first | decide | (with_reducible assumption))) (fun _ => ?_))
      | (refine R_br rfl rfl (fun _ => ?_) (fun hbr => absurd (by first | decide | (with_reducible assumption)) hbr))
      | (refine R_br rfl rfl (fun _ => ?_) (fun _ => ?_))
      | (refine R_ri rfl rfl ?_)
      | (refine R_rz rfl rfl (Or.inl rfl) ?_)
      | (refine R_rz rfl rfl (Or.inr rfl) ?_)
      | (refine R_rz rfl rfl (b2_01 _) ?_)
      | (refine R_rl rfl rfl ?_)
      | (refine R_rv rfl rfl ?_)
      | (refine R_sw _ rfl rfl rfl ?_)
      | (refine R_go 9999 rfl rfl trivial ?_)
      | (refine R_go 9999 rfl rfl (by first | (show _ ∨ _; decide) | (show (_ ∨ _) ∧ (_ ∨ _); decide) | (show (_ ∨ _) ∧ (_ ∨ _) ∧ (_ ∨ _); decide)) ?_)
      | (refine R_go 9999 rfl rfl ?_ ?_))
  exact ret_i h2 rfl
theorem m_hasProgram {P : List (List Tk × Nat)} {A : FI} {B : FJ} (hS : RS 6 A P []) (hz : P.length ≤ 80) : MV 1 0 mtX11_hasProgram [.inr (.inr (some (0, 0)))] (hp A B) (Ret (some (.inl (bI (!P.isEmpty)))) (hp A B)) := by
  have tl := ti P.length (by omega)
  refine MV_of caX11_hasProgram (L := [some (.inr (.inr (some (0, 0))))]) rfl rfl ?_
  cases P with
  | nil =>
    repeat' (first
        | (refine R_br rfl rfl (fun hbr => absurd hbr (by first | decide | (with_reducible assumption))) (fun _ => ?_))
        | (refine R_br rfl rfl (fun _ => ?_) (fun hbr => absurd (by first | decide | (with_reducible assumption)) hbr))
        | (refine R_br rfl rfl (fun _ => ?_) (fun _ => ?_))
        | (refine R_ri rfl rfl ?_)
        | (refine R_rz rfl rfl (Or.inl rfl) ?_)
        | (refine R_rz rfl rfl (Or.inr rfl) ?_)
        | (refine R_rz rfl rfl (b2_01 _) ?_)
        | (refine R_rl rfl rfl ?_)
        | (refine R_rv rfl rfl ?_)
        | (refine R_cvr rfl (m_linesS hS.2.2.2.2) rfl rfl rfl rfl rfl (Nat.le_of_ble_eq_true rfl) rfl ?_)
        | (refine R_sw _ rfl rfl rfl ?_)
        | (refine R_go 9999 rfl rfl trivial ?_)
        | (refine R_go 9999 rfl rfl (by first | (show _ ∨ _; decide) | (show (_ ∨ _) ∧ (_ ∨ _); decide) | (show (_ ∨ _) ∧ (_ ∨ _) ∧ (_ ∨ _); decide)) ?_)
        | (refine R_go 9999 rfl rfl ?_ ?_))
    exact ret_i rfl rfl
  | cons l t =>
    simp only [List.length_cons] at tl
    repeat' (first
        | (refine R_br rfl rfl (fun hbr => absurd hbr (by first | decide | (with_reducible assumption) | (simp only [List.length_cons]; first | decide | (with_reducible assumption)) | (simp only [i_eq, i_lt, i_le, Int32.reduceToInt, ne_eq, up3_self, nI_1, List.length_cons]; first | done | omega))) (fun _ => ?_))
        | (refine R_br rfl rfl (fun _ => ?_) (fun hbr => absurd (by first | decide | (with_reducible assumption) | (simp only [List.length_cons]; first | decide | (with_reducible assumption)) | (simp only [i_eq, i_lt, i_le, Int32.reduceToInt, ne_eq, up3_self, nI_1, List.length_cons]; first | done | omega)) hbr))
        | (refine R_br rfl rfl (fun _ => ?_) (fun _ => ?_))
        | (refine R_ri rfl rfl ?_)
        | (refine R_rz rfl rfl (Or.inl rfl) ?_)
        | (refine R_rz rfl rfl (Or.inr rfl) ?_)
        | (refine R_rz rfl rfl (b2_01 _) ?_)
        | (refine R_rl rfl rfl ?_)
        | (refine R_rv rfl rfl ?_)
        | (refine R_cvr rfl (m_linesS hS.2.2.2.2) rfl rfl rfl rfl rfl (Nat.le_of_ble_eq_true rfl) rfl ?_)
        | (refine R_sw _ rfl rfl rfl ?_)
        | (refine R_go 9999 rfl rfl trivial ?_)
        | (refine R_go 9999 rfl rfl (by first | (show _ ∨ _; decide) | (show (_ ∨ _) ∧ (_ ∨ _); decide) | (show (_ ∨ _) ∧ (_ ∨ _) ∧ (_ ∨ _); decide)) ?_)
        | (refine R_go 9999 rfl rfl ?_ ?_))
    exact ret_i rfl rfl
theorem okG_len {P : List (List Tk × Nat)} (h : okG P) : P.length ≤ 80 := by
  rcases h with rfl | h
  · simp
  · have := szk_P h.2; omega
theorem m_lineW {A : FI} {B : FJ} : MV 0 0 mtX10_line [.inr (.inr (some (10, 0)))] (hp A B) (Ret (some (.inl (A 10 0 3))) (hp A B)) := by
  refine MV_of caX10_line (L := [some (.inr (.inr (some (10, 0))))]) rfl rfl ?_
  repeat' (first
      | (refine R_br rfl rfl (fun hbr => absurd hbr (by first | decide | (with_reducible assumption))) (fun _ => ?_))
      | (refine R_br rfl rfl (fun _ => ?_) (fun hbr => absurd (by first | decide | (with_reducible assumption)) hbr))
      | (refine R_br rfl rfl (fun _ => ?_) (fun _ => ?_))
      | (refine R_ri rfl rfl ?_)
      | (refine R_rz rfl rfl (Or.inl rfl) ?_)
      | (refine R_rz rfl rfl (Or.inr rfl) ?_)
      | (refine R_rz rfl rfl (b2_01 _) ?_)
      | (refine R_rl rfl rfl ?_)
      | (refine R_rv rfl rfl ?_)
      | (refine R_sw _ rfl rfl rfl ?_)
      | (refine R_go 9999 rfl rfl trivial ?_)
      | (refine R_go 9999 rfl rfl (by first | (show _ ∨ _; decide) | (show (_ ∨ _) ∧ (_ ∨ _); decide) | (show (_ ∨ _) ∧ (_ ∨ _) ∧ (_ ∨ _); decide)) ?_)
      | (refine R_go 9999 rfl rfl ?_ ?_))
  exact ret_i rfl rfl
noncomputable def tlG (F : FS) (P : List (List Tk × Nat)) (LS : List (List Tk)) (q : Nat → Nat) (w : Nat) : Int32 := if w < 2 ∧ P = [] then -1 else tlS F P LS q w
def RGo (A : FI) (B : FJ) (x : Int32) : Option AV → AH → Prop := fun r h' => ∃ A' B', h' = hp A' B' ∧ r = some (.inl x) ∧ Fm3 A A' ∧ FmJ [11] B B'
theorem m_ranGuest {F : FS} {P : List (List Tk × Nat)} {LS : List (List Tk)} {q : Nat → Nat} {A : FI} {B : FJ} (w : Nat) (hw : w ≤ 2) (hP : okG P) (hL : okL LS) (hW : WFF F) (hS : RS 6 A P []) (hR : RCL A LS) (hM : RCF A F) (hq : RPn 26 A q) : MV 4 1 mtX11_ranGuest [.inr (.inr (some (0, 0))), .inl (nI w)] (hp A B) (RGo A B (tlG F P LS q w)) := by
  refine MV_of caX11_ranGuest (L := [some (.inr (.inr (some (0, 0)))), some (.inl (nI w)), none]) rfl rfl ?_
  unfold tlG tlS
  by_cases h2 : w = 2
  · subst h2
    rw [if_neg (by omega), if_pos rfl]
    by_cases hs : spS F q 8
    · have h1 := m_isInSpans (B := B) hM hW hq
      rw [b2_1 hs] at h1
      repeat' (first
          | (refine R_br rfl rfl (fun hbr => absurd hbr (by first | decide | (with_reducible assumption))) (fun _ => ?_))
          | (refine R_br rfl rfl (fun _ => ?_) (fun hbr => absurd (by first | decide | (with_reducible assumption)) hbr))
          | (refine R_br rfl rfl (fun _ => ?_) (fun _ => ?_))
          | (refine R_ri rfl rfl ?_)
          | (refine R_rz rfl rfl (Or.inl rfl) ?_)
          | (refine R_rz rfl rfl (Or.inr rfl) ?_)
          | (refine R_rz rfl rfl (b2_01 _) ?_)
          | (refine R_rl rfl rfl ?_)
          | (refine R_rv rfl rfl ?_)
          | (refine R_cvr rfl (h1) rfl rfl rfl rfl rfl (Nat.le_of_ble_eq_true rfl) rfl ?_)
          | (refine R_cv rfl (m_keepsLaws hL hR hq) rfl rfl rfl rfl rfl (Nat.le_of_ble_eq_true rfl) rfl ?_)
          | (refine R_sw _ rfl rfl rfl ?_)
          | (refine R_go 9999 rfl rfl trivial ?_)
          | (refine R_go 9999 rfl rfl (by first | (show _ ∨ _; decide) | (show (_ ∨ _) ∧ (_ ∨ _); decide) | (show (_ ∨ _) ∧ (_ ∨ _) ∧ (_ ∨ _); decide)) ?_)
          | (refine R_go 9999 rfl rfl ?_ ?_))
      rintro r h' ⟨A1, B1, rfl, rfl, hF1, hJ1⟩
      by_cases hl : lwS LS q LS.length
      · rw [b2_1 hl]
        repeat' (first
            | (refine R_br rfl rfl (fun hbr => absurd hbr (by first | decide | (with_reducible assumption))) (fun _ => ?_))
            | (refine R_br rfl rfl (fun _ => ?_) (fun hbr => absurd (by first | decide | (with_reducible assumption)) hbr))
            | (refine R_br rfl rfl (fun _ => ?_) (fun _ => ?_))
            | (refine R_ri rfl rfl ?_)
            | (refine R_rz rfl rfl (Or.inl rfl) ?_)
            | (refine R_rz rfl rfl (Or.inr rfl) ?_)
            | (refine R_rz rfl rfl (b2_01 _) ?_)
            | (refine R_rl rfl rfl ?_)
            | (refine R_rv rfl rfl ?_)
            | (refine R_csr rfl (m_bit 1 (Or.inr rfl) _ _) rfl rfl rfl (Nat.le_of_ble_eq_true rfl) rfl ?_)
            | (refine R_sw _ rfl rfl rfl ?_)
            | (refine R_go 9999 rfl rfl trivial ?_)
            | (refine R_go 9999 rfl rfl (by first | (show _ ∨ _; decide) | (show (_ ∨ _) ∧ (_ ∨ _); decide) | (show (_ ∨ _) ∧ (_ ∨ _) ∧ (_ ∨ _); decide)) ?_)
            | (refine R_go 9999 rfl rfl ?_ ?_))
        exact ⟨A1, B1, rfl, by rw [b2_1 ⟨hs, hl⟩], hF1, hJ1⟩
      · rw [b2_0 hl]
        repeat' (first
            | (refine R_br rfl rfl (fun hbr => absurd hbr (by first | decide | (with_reducible assumption))) (fun _ => ?_))
            | (refine R_br rfl rfl (fun _ => ?_) (fun hbr => absurd (by first | decide | (with_reducible assumption)) hbr))
            | (refine R_br rfl rfl (fun _ => ?_) (fun _ => ?_))
            | (refine R_ri rfl rfl ?_)
            | (refine R_rz rfl rfl (Or.inl rfl) ?_)
            | (refine R_rz rfl rfl (Or.inr rfl) ?_)
            | (refine R_rz rfl rfl (b2_01 _) ?_)
            | (refine R_rl rfl rfl ?_)
            | (refine R_rv rfl rfl ?_)
            | (refine R_csr rfl (m_bit 0 (Or.inl rfl) _ _) rfl rfl rfl (Nat.le_of_ble_eq_true rfl) rfl ?_)
            | (refine R_sw _ rfl rfl rfl ?_)
            | (refine R_go 9999 rfl rfl trivial ?_)
            | (refine R_go 9999 rfl rfl (by first | (show _ ∨ _; decide) | (show (_ ∨ _) ∧ (_ ∨ _); decide) | (show (_ ∨ _) ∧ (_ ∨ _) ∧ (_ ∨ _); decide)) ?_)
            | (refine R_go 9999 rfl rfl ?_ ?_))
        exact ⟨A1, B1, rfl, by rw [b2_0 (fun z => hl z.2)], hF1, hJ1⟩
    · have h1 := m_isInSpans (B := B) hM hW hq
      rw [b2_0 hs] at h1
      repeat' (first
          | (refine R_br rfl rfl (fun hbr => absurd hbr (by first | decide | (with_reducible assumption))) (fun _ => ?_))
          | (refine R_br rfl rfl (fun _ => ?_) (fun hbr => absurd (by first | decide | (with_reducible assumption)) hbr))
          | (refine R_br rfl rfl (fun _ => ?_) (fun _ => ?_))
          | (refine R_ri rfl rfl ?_)
          | (refine R_rz rfl rfl (Or.inl rfl) ?_)
          | (refine R_rz rfl rfl (Or.inr rfl) ?_)
          | (refine R_rz rfl rfl (b2_01 _) ?_)
          | (refine R_rl rfl rfl ?_)
          | (refine R_rv rfl rfl ?_)
          | (refine R_cvr rfl (h1) rfl rfl rfl rfl rfl (Nat.le_of_ble_eq_true rfl) rfl ?_)
          | (refine R_csr rfl (m_bit 0 (Or.inl rfl) _ _) rfl rfl rfl (Nat.le_of_ble_eq_true rfl) rfl ?_)
          | (refine R_sw _ rfl rfl rfl ?_)
          | (refine R_go 9999 rfl rfl trivial ?_)
          | (refine R_go 9999 rfl rfl (by first | (show _ ∨ _; decide) | (show (_ ∨ _) ∧ (_ ∨ _); decide) | (show (_ ∨ _) ∧ (_ ∨ _) ∧ (_ ∨ _); decide)) ?_)
          | (refine R_go 9999 rfl rfl ?_ ?_))
      exact ⟨A, B, rfl, by rw [b2_0 (fun z => hs z.1)], FmO_rf, FmJ_rf⟩
  · have tw := ti w (by omega)
    have n2 : ¬ nI w = 2 := by (simp only [i_eq, i_lt, i_le, Int32.reduceToInt, true_and, and_true, false_and, and_false, or_false, false_or, or_true, true_or, ne_eq] at *; first | done | omega)
    have hhp := m_hasProgram (B := B) hS (okG_len hP)
    by_cases hPe : P = []
    · rw [if_pos ⟨by omega, hPe⟩]
      rw [isE.2 hPe] at hhp
      repeat' (first
          | (refine R_br rfl rfl (fun hbr => absurd hbr (by first | decide | (with_reducible assumption))) (fun _ => ?_))
          | (refine R_br rfl rfl (fun _ => ?_) (fun hbr => absurd (by first | decide | (with_reducible assumption)) hbr))
          | (refine R_br rfl rfl (fun _ => ?_) (fun _ => ?_))
          | (refine R_ri rfl rfl ?_)
          | (refine R_rz rfl rfl (Or.inl rfl) ?_)
          | (refine R_rz rfl rfl (Or.inr rfl) ?_)
          | (refine R_rz rfl rfl (b2_01 _) ?_)
          | (refine R_rl rfl rfl ?_)
          | (refine R_rv rfl rfl ?_)
          | (refine R_cvr rfl (hhp) rfl rfl rfl rfl rfl (Nat.le_of_ble_eq_true rfl) rfl ?_)
          | (refine R_sw _ rfl rfl rfl ?_)
          | (refine R_go 9999 rfl rfl trivial ?_)
          | (refine R_go 9999 rfl rfl (by first | (show _ ∨ _; decide) | (show (_ ∨ _) ∧ (_ ∨ _); decide) | (show (_ ∨ _) ∧ (_ ∨ _) ∧ (_ ∨ _); decide)) ?_)
          | (refine R_go 9999 rfl rfl ?_ ?_))
      exact ⟨A, B, rfl, rfl, FmO_rf, FmJ_rf⟩
    · rw [if_neg (fun z => hPe z.2), if_neg h2]
      rw [isE.1 hPe] at hhp
      repeat' (first
          | (refine R_br rfl rfl (fun hbr => absurd hbr (by first | decide | (with_reducible assumption))) (fun _ => ?_))
          | (refine R_br rfl rfl (fun _ => ?_) (fun hbr => absurd (by first | decide | (with_reducible assumption)) hbr))
          | (refine R_br rfl rfl (fun _ => ?_) (fun _ => ?_))
          | (refine R_ri rfl rfl ?_)
          | (refine R_rz rfl rfl (Or.inl rfl) ?_)
          | (refine R_rz rfl rfl (Or.inr rfl) ?_)
          | (refine R_rz rfl rfl (b2_01 _) ?_)
          | (refine R_rl rfl rfl ?_)
          | (refine R_rv rfl rfl ?_)
          | (refine R_cvr rfl (hhp) rfl rfl rfl rfl rfl (Nat.le_of_ble_eq_true rfl) rfl ?_)
          | (refine R_cv rfl (m_walkP (okG_ne hP hPe) hS hq) rfl rfl rfl rfl rfl (Nat.le_of_ble_eq_true rfl) rfl ?_)
          | (refine R_sw _ rfl rfl rfl ?_)
          | (refine R_go 9999 rfl rfl trivial ?_)
          | (refine R_go 9999 rfl rfl (by first | (show _ ∨ _; decide) | (show (_ ∨ _) ∧ (_ ∨ _); decide) | (show (_ ∨ _) ∧ (_ ∨ _) ∧ (_ ∨ _); decide)) ?_)
          | (refine R_go 9999 rfl rfl ?_ ?_))
      rintro r h' ⟨A1, B1, rfl, rfl, e, hF1, hJ1⟩
      rcases (show w = 0 ∨ w = 1 by omega) with rfl | rfl
      · rw [if_pos rfl]
        repeat' (first
            | (refine R_br rfl rfl (fun hbr => absurd hbr (by first | decide | (with_reducible assumption))) (fun _ => ?_))
            | (refine R_br rfl rfl (fun _ => ?_) (fun hbr => absurd (by first | decide | (with_reducible assumption)) hbr))
            | (refine R_br rfl rfl (fun _ => ?_) (fun _ => ?_))
            | (refine R_ri rfl rfl ?_)
            | (refine R_rz rfl rfl (Or.inl rfl) ?_)
            | (refine R_rz rfl rfl (Or.inr rfl) ?_)
            | (refine R_rz rfl rfl (b2_01 _) ?_)
            | (refine R_rl rfl rfl ?_)
            | (refine R_rv rfl rfl ?_)
            | (refine R_sw _ rfl rfl rfl ?_)
            | (refine R_go 9999 rfl rfl trivial ?_)
            | (refine R_go 9999 rfl rfl (by first | (show _ ∨ _; decide) | (show (_ ∨ _) ∧ (_ ∨ _); decide) | (show (_ ∨ _) ∧ (_ ∨ _) ∧ (_ ∨ _); decide)) ?_)
            | (refine R_go 9999 rfl rfl ?_ ?_))
        exact ⟨A1, B1, rfl, rfl, hF1, hJ1⟩
      · rw [if_neg (by decide)]
        repeat' (first
            | (refine R_br rfl rfl (fun hbr => absurd hbr (by first | decide | (with_reducible assumption))) (fun _ => ?_))
            | (refine R_br rfl rfl (fun _ => ?_) (fun hbr => absurd (by first | decide | (with_reducible assumption)) hbr))
            | (refine R_br rfl rfl (fun _ => ?_) (fun _ => ?_))
            | (refine R_ri rfl rfl ?_)
            | (refine R_rz rfl rfl (Or.inl rfl) ?_)
            | (refine R_rz rfl rfl (Or.inr rfl) ?_)
            | (refine R_rz rfl rfl (b2_01 _) ?_)
            | (refine R_rl rfl rfl ?_)
            | (refine R_rv rfl rfl ?_)
            | (refine R_cvr rfl (m_lineW) rfl rfl rfl rfl rfl (Nat.le_of_ble_eq_true rfl) rfl ?_)
            | (refine R_sw _ rfl rfl rfl ?_)
            | (refine R_go 9999 rfl rfl trivial ?_)
            | (refine R_go 9999 rfl rfl (by first | (show _ ∨ _; decide) | (show (_ ∨ _) ∧ (_ ∨ _); decide) | (show (_ ∨ _) ∧ (_ ∨ _) ∧ (_ ∨ _); decide)) ?_)
            | (refine R_go 9999 rfl rfl ?_ ?_))
        exact ⟨A1, B1, rfl, by rw [e], hF1, hJ1⟩
abbrev gR : List Nat := [4]
/-- the guest and the walker -/
def FmG (A A' : FI) : Prop := (∀ g, g ≠ 10 → g ≠ 25 → A' g = A g) ∧ ∀ i, i ≠ 26 → i ≠ 27 → A' 25 i = A 25 i
theorem FmG_rf {A : FI} : FmG A A := ⟨fun _ _ _ => rfl, fun _ _ _ => rfl⟩
theorem FmG_tr {A A1 A2 : FI} (a : FmG A A1) (b : FmG A1 A2) : FmG A A2 := ⟨fun g h1 h2 => (b.1 g h1 h2).trans (a.1 g h1 h2), fun i h1 h2 => (b.2 i h1 h2).trans (a.2 i h1 h2)⟩
theorem FmG_i {A A' : FI} {p : Nat} (h : Fi [25] p A A') (hp : p = 26 ∨ p = 27) : FmG A A' := ⟨fun g h1 h2 => h.1 g (by simp; exact h2), fun i h1 h2 => h.2 25 i (by omega)⟩
theorem FmG_3 {A A' : FI} (h : Fm3 A A') : FmG A A' := ⟨fun g h1 h2 => FmO_Fm h h1, fun i h1 h2 => by rw [FmO_Fm h (by decide)]⟩
theorem m_runC {F : FS} {P : List (List Tk × Nat)} {LS : List (List Tk)} {A : FI} {B : FJ} (x : Int64) (w : Int32) (hP : okG P) (hL : okL LS) (hW : WFF F) (hS : RS 6 A P []) (hR : RCL A LS) (hM : RCF A F) : MV 5 2 mtX11_run [.inr (.inr (some (0, 0))), .inr (.inl x), .inl w] (hp A B) (fun r h' => ∃ A' B', h' = hp A' B' ∧ r = some (.inl (runA F P LS x w)) ∧ FmG A A' ∧ FmJ [11] B B') := by
  refine MV_of caX11_run (L := [some (.inr (.inr (some (0, 0)))), some (.inr (.inl x)), none, some (.inl w)]) rfl rfl ?_
  refine R_go 9999 rfl rfl trivial ?_
  refine R_cv rfl (m_read x) rfl rfl rfl rfl rfl (Nat.le_of_ble_eq_true rfl) rfl ?_
  rintro r h' ⟨A1, rfl, hF1, ⟨hps, rfl, hq⟩ | ⟨hps, rfl⟩⟩
  · have hG := FmG_i hF1 (Or.inl rfl)
    have hS1 : RS 6 A1 P [] := RS_fr hS (by rw [hG.1 4 (by decide) (by decide)]) (by rw [hG.1 5 (by decide) (by decide)]) (by rw [hG.1 6 (by decide) (by decide)])
    have hR1 : RCL A1 LS := ⟨by rw [hG.1 1 (by decide) (by decide)]; exact hR.1, fun j hj => RS_fr (hR.2 j hj) (by rw [hG.1 4 (by decide) (by decide)]) (by rw [hG.1 5 (by decide) (by decide)]) (by rw [hG.1 6 (by decide) (by decide)])⟩
    have hM1 : RCF A1 F := fun f hf => by rw [hG.1 2 (by decide) (by decide)]; exact hM f hf
    have hhp := m_hasProgram (B := B) hS1 (okG_len hP)
    rw [runA_y hps]
    by_cases hw : 0 ≤ w.toInt ∧ w.toInt ≤ 2
    · rw [if_pos hw]
      obtain ⟨v, hv, rfl⟩ := vp_in_of (x := w) (n := 3) (vp_of hw.1 (by omega)) (by decide)
      have tv := ti v (by omega)
      have cv' : (nI v).toNatClampNeg = v := nI_clamp (by omega)
      rw [cv']
      have hrg := m_ranGuest (B := B) v (by omega) hP hL hW hS1 hR1 hM1 hq
      unfold tlG at hrg
      by_cases hv2 : v < 2
      · by_cases hPe : P = []
        · rw [if_pos ⟨by omega, hPe⟩]
          rw [isE.2 hPe] at hhp
          repeat' (first
              | (refine R_br rfl rfl (fun hbr => absurd hbr (by first | decide | (with_reducible assumption) | (simp only [i_eq, i_lt, i_le, Int32.reduceToInt, ne_eq, up3_self, nI_1]; first | done | omega))) (fun _ => ?_))
              | (refine R_br rfl rfl (fun _ => ?_) (fun hbr => absurd (by first | decide | (with_reducible assumption) | (simp only [i_eq, i_lt, i_le, Int32.reduceToInt, ne_eq, up3_self, nI_1]; first | done | omega)) hbr))
              | (refine R_br rfl rfl (fun _ => ?_) (fun _ => ?_))
              | (refine R_ri rfl rfl ?_)
              | (refine R_rz rfl rfl (Or.inl rfl) ?_)
              | (refine R_rz rfl rfl (Or.inr rfl) ?_)
              | (refine R_rz rfl rfl (b2_01 _) ?_)
              | (refine R_rl rfl rfl ?_)
              | (refine R_rv rfl rfl ?_)
              | (refine R_cvr rfl (hhp) rfl rfl rfl rfl rfl (Nat.le_of_ble_eq_true rfl) rfl ?_)
              | (refine R_sw _ rfl rfl rfl ?_)
              | (refine R_go 9999 rfl rfl trivial ?_)
              | (refine R_go 9999 rfl rfl (by first | (show _ ∨ _; decide) | (show (_ ∨ _) ∧ (_ ∨ _); decide) | (show (_ ∨ _) ∧ (_ ∨ _) ∧ (_ ∨ _); decide)) ?_)
              | (refine R_go 9999 rfl rfl ?_ ?_))
          all_goals first | exact ⟨A1, B, rfl, rfl, hG, FmJ_rf⟩ | (exfalso; (simp only [i_eq, i_lt, i_le, Int32.reduceToInt, true_and, and_true, false_and, and_false, or_false, false_or, or_true, true_or, ne_eq] at *; first | done | omega))
        · rw [if_neg (fun z => hPe z.2)]
          rw [if_neg (fun z => hPe z.2)] at hrg
          rw [isE.1 hPe] at hhp
          repeat' (first
              | (refine R_br rfl rfl (fun hbr => absurd hbr (by first | decide | (with_reducible assumption) | (simp only [i_eq, i_lt, i_le, Int32.reduceToInt, ne_eq, up3_self, nI_1]; first | done | omega))) (fun _ => ?_))
              | (refine R_br rfl rfl (fun _ => ?_) (fun hbr => absurd (by first | decide | (with_reducible assumption) | (simp only [i_eq, i_lt, i_le, Int32.reduceToInt, ne_eq, up3_self, nI_1]; first | done | omega)) hbr))
              | (refine R_br rfl rfl (fun _ => ?_) (fun _ => ?_))
              | (refine R_ri rfl rfl ?_)
              | (refine R_rz rfl rfl (Or.inl rfl) ?_)
              | (refine R_rz rfl rfl (Or.inr rfl) ?_)
              | (refine R_rz rfl rfl (b2_01 _) ?_)
              | (refine R_rl rfl rfl ?_)
              | (refine R_rv rfl rfl ?_)
              | (refine R_cvr rfl (hhp) rfl rfl rfl rfl rfl (Nat.le_of_ble_eq_true rfl) rfl ?_)
              | (refine R_cv rfl (hrg) rfl rfl rfl rfl rfl (Nat.le_of_ble_eq_true rfl) rfl ?_)
              | (refine R_sw _ rfl rfl rfl ?_)
              | (refine R_go 9999 rfl rfl trivial ?_)
              | (refine R_go 9999 rfl rfl (by first | (show _ ∨ _; decide) | (show (_ ∨ _) ∧ (_ ∨ _); decide) | (show (_ ∨ _) ∧ (_ ∨ _) ∧ (_ ∨ _); decide)) ?_)
              | (refine R_go 9999 rfl rfl ?_ ?_))
          all_goals
            rintro r h' ⟨A2, B2, rfl, rfl, hF2, hJ2⟩
            repeat' (first
                | (refine R_br rfl rfl (fun hbr => absurd hbr (by first | decide | (with_reducible assumption))) (fun _ => ?_))
                | (refine R_br rfl rfl (fun _ => ?_) (fun hbr => absurd (by first | decide | (with_reducible assumption)) hbr))
                | (refine R_br rfl rfl (fun _ => ?_) (fun _ => ?_))
                | (refine R_ri rfl rfl ?_)
                | (refine R_rz rfl rfl (Or.inl rfl) ?_)
                | (refine R_rz rfl rfl (Or.inr rfl) ?_)
                | (refine R_rz rfl rfl (b2_01 _) ?_)
                | (refine R_rl rfl rfl ?_)
                | (refine R_rv rfl rfl ?_)
                | (refine R_sw _ rfl rfl rfl ?_)
                | (refine R_go 9999 rfl rfl trivial ?_)
                | (refine R_go 9999 rfl rfl (by first | (show _ ∨ _; decide) | (show (_ ∨ _) ∧ (_ ∨ _); decide) | (show (_ ∨ _) ∧ (_ ∨ _) ∧ (_ ∨ _); decide)) ?_)
                | (refine R_go 9999 rfl rfl ?_ ?_))
          all_goals exact ⟨A2, B2, rfl, rfl, FmG_tr hG (FmG_3 hF2), hJ2⟩
      · have : v = 2 := by omega
        subst this
        rw [if_neg (by omega)]
        rw [if_neg (by omega)] at hrg
        repeat' (first
            | (refine R_br rfl rfl (fun hbr => absurd hbr (by first | decide | (with_reducible assumption))) (fun _ => ?_))
            | (refine R_br rfl rfl (fun _ => ?_) (fun hbr => absurd (by first | decide | (with_reducible assumption)) hbr))
            | (refine R_br rfl rfl (fun _ => ?_) (fun _ => ?_))
            | (refine R_ri rfl rfl ?_)
            | (refine R_rz rfl rfl (Or.inl rfl) ?_)
            | (refine R_rz rfl rfl (Or.inr rfl) ?_)
            | (refine R_rz rfl rfl (b2_01 _) ?_)
            | (refine R_rl rfl rfl ?_)
            | (refine R_rv rfl rfl ?_)
            | (refine R_cv rfl (hrg) rfl rfl rfl rfl rfl (Nat.le_of_ble_eq_true rfl) rfl ?_)
            | (refine R_sw _ rfl rfl rfl ?_)
            | (refine R_go 9999 rfl rfl trivial ?_)
            | (refine R_go 9999 rfl rfl (by first | (show _ ∨ _; decide) | (show (_ ∨ _) ∧ (_ ∨ _); decide) | (show (_ ∨ _) ∧ (_ ∨ _) ∧ (_ ∨ _); decide)) ?_)
            | (refine R_go 9999 rfl rfl ?_ ?_))
        rintro r h' ⟨A2, B2, rfl, rfl, hF2, hJ2⟩
        repeat' (first
            | (refine R_br rfl rfl (fun hbr => absurd hbr (by first | decide | (with_reducible assumption))) (fun _ => ?_))
            | (refine R_br rfl rfl (fun _ => ?_) (fun hbr => absurd (by first | decide | (with_reducible assumption)) hbr))
            | (refine R_br rfl rfl (fun _ => ?_) (fun _ => ?_))
            | (refine R_ri rfl rfl ?_)
            | (refine R_rz rfl rfl (Or.inl rfl) ?_)
            | (refine R_rz rfl rfl (Or.inr rfl) ?_)
            | (refine R_rz rfl rfl (b2_01 _) ?_)
            | (refine R_rl rfl rfl ?_)
            | (refine R_rv rfl rfl ?_)
            | (refine R_sw _ rfl rfl rfl ?_)
            | (refine R_go 9999 rfl rfl trivial ?_)
            | (refine R_go 9999 rfl rfl (by first | (show _ ∨ _; decide) | (show (_ ∨ _) ∧ (_ ∨ _); decide) | (show (_ ∨ _) ∧ (_ ∨ _) ∧ (_ ∨ _); decide)) ?_)
            | (refine R_go 9999 rfl rfl ?_ ?_))
        exact ⟨A2, B2, rfl, rfl, FmG_tr hG (FmG_3 hF2), hJ2⟩
    · rw [if_neg hw]
      repeat' (first
          | (refine R_br rfl rfl (fun hbr => absurd hbr (by first | decide | (with_reducible assumption))) (fun _ => ?_))
          | (refine R_br rfl rfl (fun _ => ?_) (fun hbr => absurd (by first | decide | (with_reducible assumption)) hbr))
          | (refine R_br rfl rfl (fun _ => ?_) (fun _ => ?_))
          | (refine R_ri rfl rfl ?_)
          | (refine R_rz rfl rfl (Or.inl rfl) ?_)
          | (refine R_rz rfl rfl (Or.inr rfl) ?_)
          | (refine R_rz rfl rfl (b2_01 _) ?_)
          | (refine R_rl rfl rfl ?_)
          | (refine R_rv rfl rfl ?_)
          | (refine R_sw _ rfl rfl rfl ?_)
          | (refine R_go 9999 rfl rfl trivial ?_)
          | (refine R_go 9999 rfl rfl (by first | (show _ ∨ _; decide) | (show (_ ∨ _) ∧ (_ ∨ _); decide) | (show (_ ∨ _) ∧ (_ ∨ _) ∧ (_ ∨ _); decide)) ?_)
          | (refine R_go 9999 rfl rfl ?_ ?_))
      all_goals first | exact ⟨A1, B, rfl, rfl, hG, FmJ_rf⟩ | (exfalso; (simp only [i_eq, i_lt, i_le, Int32.reduceToInt, true_and, and_true, false_and, and_false, or_false, false_or, or_true, true_or, ne_eq] at *; first | done | omega))
  · rw [runA_n hps]
    repeat' (first
        | (refine R_br rfl rfl (fun hbr => absurd hbr (by first | decide | (with_reducible assumption))) (fun _ => ?_))
        | (refine R_br rfl rfl (fun _ => ?_) (fun hbr => absurd (by first | decide | (with_reducible assumption)) hbr))
        | (refine R_br rfl rfl (fun _ => ?_) (fun _ => ?_))
        | (refine R_ri rfl rfl ?_)
        | (refine R_rz rfl rfl (Or.inl rfl) ?_)
        | (refine R_rz rfl rfl (Or.inr rfl) ?_)
        | (refine R_rz rfl rfl (b2_01 _) ?_)
        | (refine R_rl rfl rfl ?_)
        | (refine R_rv rfl rfl ?_)
        | (refine R_sw _ rfl rfl rfl ?_)
        | (refine R_go 9999 rfl rfl trivial ?_)
        | (refine R_go 9999 rfl rfl (by first | (show _ ∨ _; decide) | (show (_ ∨ _) ∧ (_ ∨ _); decide) | (show (_ ∨ _) ∧ (_ ∨ _) ∧ (_ ∨ _); decide)) ?_)
        | (refine R_go 9999 rfl rfl ?_ ?_))
    exact ⟨A1, B, rfl, rfl, FmG_i hF1 (Or.inl rfl), FmJ_rf⟩
