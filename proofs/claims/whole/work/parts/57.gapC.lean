theorem abs_nI {x y : Nat} (hx : x < 2 ^ 30) (hy : y < 2 ^ 30) : (if 0 ≤ nI x - nI y then nI x - nI y else 0 - (nI x - nI y)) = nI ((x - y) + (y - x)) := by
  have e : (nI x - nI y).toInt = (x : Int) - y := by
    rw [Int32.toInt_sub, ti x (by omega), ti y (by omega)]
    exact Int.bmod_eq_of_le (by omega) (by omega)
  by_cases h : y ≤ x
  · rw [if_pos (by rw [i_le, e]; simp only [Int32.reduceToInt]; omega), nI_sub h]; congr 1; omega
  · rw [if_neg (by rw [i_le, e]; simp only [Int32.reduceToInt]; omega)]
    apply Int32.toInt_inj.mp
    rw [Int32.toInt_sub, e, ti _ (by omega)]
    simp only [Int32.reduceToInt]
    rw [Int.bmod_eq_of_le (by omega) (by omega)]
    omega
def gpN (a b c d : Nat) : Nat := (a * d - c * b) + (c * b - a * d)
theorem m24 {a b : Nat} (ha : a ≤ 24) (hb : b ≤ 24) : a * b ≤ 576 := Nat.mul_le_mul ha hb
/-- a group: how many, LET -/
noncomputable def mA (P : List (List Tk × Nat)) (R : List Rw) (f v : Nat) : Nat := mbN P R f v 0 R.length
noncomputable def mL (P : List (List Tk × Nat)) (R : List Rw) (f v : Nat) : Nat := mbN P R f v 1 R.length
theorem mb24 {P : List (List Tk × Nat)} {R : List Rw} (h : R.length ≤ 24) (f v w : Nat) : mbN P R f v w R.length ≤ 24 := Nat.le_trans (mbN_le _ _ _ _ _ _) h
theorem m_gapAbove {P : List (List Tk × Nat)} {R : List Rw} {A : FI} {B : FJ} (hP : okP P) (hR : RCR A P R) (f v w : Nat) (hf : f < 8) (hv : v ≤ 20) (hw : w ≤ 20) : MV 4 3 mtX1_gapAbove [.inr (.inr (some (18, 0))), .inl (nI f), .inl (nI v), .inl (nI w)] (hp A B) (Ret (some (.inr (.inl (lN (gpN (mL P R f v) (mA P R f v) (mL P R f w) (mA P R f w)))))) (hp A B)) := by
  have h24 := hR.2.1
  have b1 := mb24 (P := P) h24 f v 1
  have b2 := mb24 (P := P) h24 f w 0
  have b3 := mb24 (P := P) h24 f w 1
  have b4 := mb24 (P := P) h24 f v 0
  have c1 := m24 b1 b2
  have c2 := m24 b3 b4
  have hm1 := m_members (B := B) hP hR f v 1 hf hv (by decide)
  have hm2 := m_members (B := B) hP hR f w 0 hf hw (by decide)
  have hm3 := m_members (B := B) hP hR f w 1 hf hw (by decide)
  have hm4 := m_members (B := B) hP hR f v 0 hf hv (by decide)
  refine MV_of caX1_gapAbove (L := [some (.inr (.inr (some (18, 0)))), some (.inl (nI f)), some (.inl (nI v)), some (.inl (nI w))]) rfl rfl ?_
  unfold gpN mL mA
  refine R_go 9999 rfl rfl trivial ?_
  refine R_cvr rfl hm1 rfl rfl rfl rfl rfl (Nat.le_of_ble_eq_true rfl) rfl ?_
  refine R_go 9999 rfl rfl trivial ?_
  refine R_cvr rfl hm2 rfl rfl rfl rfl rfl (Nat.le_of_ble_eq_true rfl) rfl ?_
  refine R_go 9999 rfl rfl trivial ?_
  refine R_cvr rfl hm3 rfl rfl rfl rfl rfl (Nat.le_of_ble_eq_true rfl) rfl ?_
  refine R_go 9999 rfl rfl trivial ?_
  refine R_cvr rfl hm4 rfl rfl rfl rfl rfl (Nat.le_of_ble_eq_true rfl) rfl ?_
  refine R_go 9999 rfl rfl trivial ?_
  rw [pk_mul, pk_mul]
  refine R_mabs rfl qm_X1_83 (Nat.le_of_ble_eq_true rfl) (Nat.le_refl _) (Nat.le_refl _) rfl ?_
  rw [abs_nI (by omega) (by omega)]
  refine R_go 9999 rfl rfl trivial ?_
  rw [nI_l (by omega)]
  exact R_rl rfl rfl ⟨rfl, rfl⟩
theorem m_gapBelow {P : List (List Tk × Nat)} {R : List Rw} {A : FI} {B : FJ} (hP : okP P) (hR : RCR A P R) (f v w : Nat) (hf : f < 8) (hv : v ≤ 20) (hw : w ≤ 20) : MV 4 3 mtX1_gapBelow [.inr (.inr (some (18, 0))), .inl (nI f), .inl (nI v), .inl (nI w)] (hp A B) (Ret (some (.inr (.inl (lN (mA P R f v * mA P R f w))))) (hp A B)) := by
  have h24 := hR.2.1
  have b2 := mb24 (P := P) h24 f w 0
  have b4 := mb24 (P := P) h24 f v 0
  have c1 := m24 b4 b2
  have hm2 := m_members (B := B) hP hR f w 0 hf hw (by decide)
  have hm4 := m_members (B := B) hP hR f v 0 hf hv (by decide)
  refine MV_of caX1_gapBelow (L := [some (.inr (.inr (some (18, 0)))), some (.inl (nI f)), some (.inl (nI v)), some (.inl (nI w))]) rfl rfl ?_
  unfold mA
  refine R_go 9999 rfl rfl trivial ?_
  refine R_cvr rfl hm4 rfl rfl rfl rfl rfl (Nat.le_of_ble_eq_true rfl) rfl ?_
  refine R_go 9999 rfl rfl trivial ?_
  refine R_cvr rfl hm2 rfl rfl rfl rfl rfl (Nat.le_of_ble_eq_true rfl) rfl ?_
  refine R_go 9999 rfl rfl trivial ?_
  rw [pk_mul, nI_l (by omega)]
  exact R_rl rfl rfl ⟨rfl, rfl⟩
/-- what refuses a call about two groups; 0: nothing -/
def okV (f v w : Int32) : Prop := 0 ≤ v.toInt ∧ v.toInt ≤ 20 ∧ 0 ≤ w.toInt ∧ w.toInt ≤ 20 ∧ v ≠ w
noncomputable def rfA (P : List (List Tk × Nat)) (R : List Rw) (f v w : Int32) (gd : Bool) : Int32 := if 0 ≤ f.toInt ∧ f.toInt < 8 then (if (0 ≤ v.toInt ∧ v.toInt ≤ 20 ∧ 0 ≤ w.toInt ∧ w.toInt ≤ 20 ∧ v ≠ w) ∧ gd = true then (if P = [] then -103 else if mA P R f.toNatClampNeg v.toNatClampNeg = 0 ∨ mA P R f.toNatClampNeg w.toNatClampNeg = 0 then -103 else 0) else -102) else -101
theorem rfA_c (P : List (List Tk × Nat)) (R : List Rw) (f v w : Int32) (gd : Bool) : rfA P R f v w gd = -101 ∨ rfA P R f v w gd = -102 ∨ rfA P R f v w gd = -103 ∨ (rfA P R f v w gd = 0 ∧ gd = true ∧ P ≠ [] ∧ ∃ a b c, a < 8 ∧ b ≤ 20 ∧ c ≤ 20 ∧ b ≠ c ∧ f = nI a ∧ v = nI b ∧ w = nI c ∧ mA P R a b ≠ 0 ∧ mA P R a c ≠ 0) := by
  unfold rfA
  by_cases h1 : 0 ≤ f.toInt ∧ f.toInt < 8
  · rw [if_pos h1]
    by_cases h2 : (0 ≤ v.toInt ∧ v.toInt ≤ 20 ∧ 0 ≤ w.toInt ∧ w.toInt ≤ 20 ∧ v ≠ w) ∧ gd = true
    · rw [if_pos h2]
      by_cases h3 : P = []
      · rw [if_pos h3]; simp
      · rw [if_neg h3]
        obtain ⟨a, ha, rfl⟩ := vp_in_of (x := f) (n := 8) (vp_of h1.1 (by omega)) (by decide)
        obtain ⟨b, hb, rfl⟩ := vp_in_of (x := v) (n := 21) (vp_of h2.1.1 (by omega)) (by decide)
        obtain ⟨c, hc, rfl⟩ := vp_in_of (x := w) (n := 21) (vp_of h2.1.2.2.1 (by omega)) (by decide)
        rw [nI_clamp (show a < 2 ^ 31 by omega), nI_clamp (show b < 2 ^ 31 by omega), nI_clamp (show c < 2 ^ 31 by omega)]
        by_cases h4 : mA P R a b = 0 ∨ mA P R a c = 0
        · rw [if_pos h4]; simp
        · rw [if_neg h4]
          exact Or.inr (Or.inr (Or.inr ⟨rfl, h2.2, h3, a, b, c, ha, by omega, by omega, fun z => h2.1.2.2.2.2 (by rw [z]), rfl, rfl, rfl, fun z => h4 (Or.inl z), fun z => h4 (Or.inr z)⟩))
    · rw [if_neg h2]; simp
  · rw [if_neg h1]; simp
theorem m_refusal {P : List (List Tk × Nat)} {R : List Rw} {A : FI} {B : FJ} (hP : okG P) (hS : RS 6 A P []) (hR : RCR A P R) (f v w k : Int32) (last : Nat) (hl : last ≤ 2) : MV 5 5 mtX11_refusalOfGroups [.inr (.inr (some (0, 0))), .inl f, .inl v, .inl w, .inl k, .inl (nI last)] (hp A B) (Ret (some (.inl (rfA P R f v w (decide (0 ≤ k.toInt ∧ k.toInt ≤ last))))) (hp A B)) := by
  have tl := ti last (by omega)
  have h24 := hR.2.1
  refine MV_of caX11_refusalOfGroups (L := [some (.inr (.inr (some (0, 0)))), some (.inl f), some (.inl v), some (.inl w), some (.inl k), some (.inl (nI last))]) rfl rfl ?_
  unfold rfA
  by_cases h1 : 0 ≤ f.toInt ∧ f.toInt < 8
  · rw [if_pos h1]
    obtain ⟨a, ha, rfl⟩ := vp_in_of (x := f) (n := 8) (vp_of h1.1 (by omega)) (by decide)
    refine R_go 9999 rfl rfl trivial ?_
    refine R_csr rfl (m_isFieldT a ha _ _) rfl rfl rfl (Nat.le_of_ble_eq_true rfl) rfl ?_
    refine R_br rfl rfl (fun h => absurd h (by decide)) (fun _ => ?_)
    by_cases h2 : (0 ≤ v.toInt ∧ v.toInt ≤ 20 ∧ 0 ≤ w.toInt ∧ w.toInt ≤ 20 ∧ v ≠ w) ∧ decide (0 ≤ k.toInt ∧ k.toInt ≤ last) = true
    · rw [if_pos h2]
      obtain ⟨b, hb, rfl⟩ := vp_in_of (x := v) (n := 21) (vp_of h2.1.1 (by omega)) (by decide)
      obtain ⟨c, hc, rfl⟩ := vp_in_of (x := w) (n := 21) (vp_of h2.1.2.2.1 (by omega)) (by decide)
      have hkk := of_decide_eq_true h2.2
      have hne := h2.1.2.2.2.2
      have hne' : ¬ nI b = nI c := hne
      rw [nI_clamp (show a < 2 ^ 31 by omega), nI_clamp (show b < 2 ^ 31 by omega), nI_clamp (show c < 2 ^ 31 by omega)]
      have hhp := m_hasProgram (B := B) hS (okG_len hP)
      have tb := ti b (by omega)
      have tc := ti c (by omega)
      have q1 : ¬ nI b < 0 := by (simp only [i_eq, i_lt, i_le, Int32.reduceToInt, true_and, and_true, false_and, and_false, or_false, false_or, or_true, true_or, ne_eq] at *; first | done | omega)
      have q2 : ¬ (20 : Int32) < nI b := by (simp only [i_eq, i_lt, i_le, Int32.reduceToInt, true_and, and_true, false_and, and_false, or_false, false_or, or_true, true_or, ne_eq] at *; first | done | omega)
      have q3 : ¬ nI c < 0 := by (simp only [i_eq, i_lt, i_le, Int32.reduceToInt, true_and, and_true, false_and, and_false, or_false, false_or, or_true, true_or, ne_eq] at *; first | done | omega)
      have q4 : ¬ (20 : Int32) < nI c := by (simp only [i_eq, i_lt, i_le, Int32.reduceToInt, true_and, and_true, false_and, and_false, or_false, false_or, or_true, true_or, ne_eq] at *; first | done | omega)
      have q5 : ¬ k < 0 := by rw [i_lt]; simp only [Int32.reduceToInt]; omega
      have q6 : k ≤ nI last := by rw [i_le]; omega
      by_cases h3 : P = []
      · rw [if_pos h3]
        rw [isE.2 h3] at hhp
        repeat' (first
            | (refine R_br rfl rfl (fun hbr => absurd hbr (by first | decide | (with_reducible assumption))) (fun _ => ?_))
            | (refine R_br rfl rfl (fun _ => ?_) (fun hbr => absurd (by first | decide | (with_reducible assumption)) hbr))
            | (refine R_br rfl rfl (fun _ => ?_) (fun _ => ?_))
            | (refine R_ri rfl rfl ?_)
            | (refine R_rz rfl rfl (Or.inl rfl) ?_)
            | (refine R_rz rfl rfl (Or.inr rfl) ?_)
            | (refine R_rz rfl rfl (b2_01 _) ?_)
            | (refine R_rl rfl rfl ?_)
            | (refine R_rv rfl rfl ?_)
            | (refine R_cvr rfl (hhp) rfl rfl rfl rfl rfl (Nat.le_of_ble_eq_true rfl) rfl ?_)
            | (refine R_sw _ rfl rfl rfl ?_)
            | (refine R_go 9999 rfl rfl trivial ?_)
            | (refine R_go 9999 rfl rfl (by first | (show _ ∨ _; decide) | (show (_ ∨ _) ∧ (_ ∨ _); decide) | (show (_ ∨ _) ∧ (_ ∨ _) ∧ (_ ∨ _); decide)) ?_)
            | (refine R_go 9999 rfl rfl ?_ ?_))
        exact ret_i rfl rfl
      · rw [if_neg h3]
        rw [isE.1 h3] at hhp
        have hgb := m_gapBelow (B := B) (okG_ne hP h3) hR a b c ha (by omega) (by omega)
        have c1 := m24 (mb24 (P := P) h24 a b 0) (mb24 (P := P) h24 a c 0)
        have c2 : mA P R a b * mA P R a c ≤ 576 := c1
        by_cases h4 : mA P R a b = 0 ∨ mA P R a c = 0
        · rw [if_pos h4]
          have e0 : mA P R a b * mA P R a c = 0 := by rcases h4 with z | z <;> rw [z] <;> simp
          rw [e0] at hgb
          repeat' (first
              | (refine R_br rfl rfl (fun hbr => absurd hbr (by first | decide | (with_reducible assumption))) (fun _ => ?_))
              | (refine R_br rfl rfl (fun _ => ?_) (fun hbr => absurd (by first | decide | (with_reducible assumption)) hbr))
              | (refine R_br rfl rfl (fun _ => ?_) (fun _ => ?_))
              | (refine R_ri rfl rfl ?_)
              | (refine R_rz rfl rfl (Or.inl rfl) ?_)
              | (refine R_rz rfl rfl (Or.inr rfl) ?_)
              | (refine R_rz rfl rfl (b2_01 _) ?_)
              | (refine R_rl rfl rfl ?_)
              | (refine R_rv rfl rfl ?_)
              | (refine R_cvr rfl (hhp) rfl rfl rfl rfl rfl (Nat.le_of_ble_eq_true rfl) rfl ?_)
              | (refine R_cvr rfl (hgb) rfl rfl rfl rfl rfl (Nat.le_of_ble_eq_true rfl) rfl ?_)
              | (refine R_sw _ rfl rfl rfl ?_)
              | (refine R_go 9999 rfl rfl trivial ?_)
              | (refine R_go 9999 rfl rfl (by first | (show _ ∨ _; decide) | (show (_ ∨ _) ∧ (_ ∨ _); decide) | (show (_ ∨ _) ∧ (_ ∨ _) ∧ (_ ∨ _); decide)) ?_)
              | (refine R_go 9999 rfl rfl ?_ ?_))
          exact ret_i rfl rfl
        · rw [if_neg h4]
          have hpos : 0 < mA P R a b * mA P R a c := Nat.mul_pos (by omega) (by omega)
          have n1 : ¬ lg_cmp (lN (mA P R a b * mA P R a c)) 0 = 0 := by
            rw [lg_cmp_eq, j_eq, lN_tn (by omega)]
            simp only [Int64.reduceToInt]
            omega
          repeat' (first
              | (refine R_br rfl rfl (fun hbr => absurd hbr (by first | decide | (with_reducible assumption))) (fun _ => ?_))
              | (refine R_br rfl rfl (fun _ => ?_) (fun hbr => absurd (by first | decide | (with_reducible assumption)) hbr))
              | (refine R_br rfl rfl (fun _ => ?_) (fun _ => ?_))
              | (refine R_ri rfl rfl ?_)
              | (refine R_rz rfl rfl (Or.inl rfl) ?_)
              | (refine R_rz rfl rfl (Or.inr rfl) ?_)
              | (refine R_rz rfl rfl (b2_01 _) ?_)
              | (refine R_rl rfl rfl ?_)
              | (refine R_rv rfl rfl ?_)
              | (refine R_cvr rfl (hhp) rfl rfl rfl rfl rfl (Nat.le_of_ble_eq_true rfl) rfl ?_)
              | (refine R_cvr rfl (hgb) rfl rfl rfl rfl rfl (Nat.le_of_ble_eq_true rfl) rfl ?_)
              | (refine R_sw _ rfl rfl rfl ?_)
              | (refine R_go 9999 rfl rfl trivial ?_)
              | (refine R_go 9999 rfl rfl (by first | (show _ ∨ _; decide) | (show (_ ∨ _) ∧ (_ ∨ _); decide) | (show (_ ∨ _) ∧ (_ ∨ _) ∧ (_ ∨ _); decide)) ?_)
              | (refine R_go 9999 rfl rfl ?_ ?_))
          exact ret_i rfl rfl
    · rw [if_neg h2]
      have h2' : ¬ ((0 ≤ v.toInt ∧ v.toInt ≤ 20 ∧ 0 ≤ w.toInt ∧ w.toInt ≤ 20 ∧ v ≠ w) ∧ 0 ≤ k.toInt ∧ k.toInt ≤ last) := by simpa using h2
      have hgo : ∀ (_ : 0 ≤ v.toInt ∧ v.toInt ≤ 20 ∧ 0 ≤ w.toInt ∧ w.toInt ≤ 20 ∧ ¬ v = w ∧ 0 ≤ k.toInt ∧ k.toInt ≤ last), False := fun z => h2' ⟨⟨z.1, z.2.1, z.2.2.1, z.2.2.2.1, z.2.2.2.2.1⟩, z.2.2.2.2.2⟩
      clear h2 h2'
      repeat' (first
          | (refine R_stop 50 rfl rfl ?_)
          | (refine R_br rfl rfl (fun hbr => absurd hbr (by first | decide | (with_reducible assumption))) (fun _ => ?_))
          | (refine R_br rfl rfl (fun _ => ?_) (fun hbr => absurd (by first | decide | (with_reducible assumption)) hbr))
          | (refine R_br rfl rfl (fun _ => ?_) (fun _ => ?_))
          | (refine R_ri rfl rfl ?_)
          | (refine R_rz rfl rfl (Or.inl rfl) ?_)
          | (refine R_rz rfl rfl (Or.inr rfl) ?_)
          | (refine R_rz rfl rfl (b2_01 _) ?_)
          | (refine R_rl rfl rfl ?_)
          | (refine R_rv rfl rfl ?_)
          | (refine R_sw _ rfl rfl rfl ?_)
          | (refine R_go 50 rfl rfl trivial ?_)
          | (refine R_go 50 rfl rfl (by first | (show _ ∨ _; decide) | (show (_ ∨ _) ∧ (_ ∨ _); decide) | (show (_ ∨ _) ∧ (_ ∨ _) ∧ (_ ∨ _); decide)) ?_)
          | (refine R_go 50 rfl rfl ?_ ?_))
      all_goals first | exact ret_i rfl rfl | skip
      all_goals
        exfalso
        simp only [i_lt, i_le, Int32.reduceToInt] at *
        refine hgo ⟨?_, ?_, ?_, ?_, by assumption, ?_, ?_⟩
      all_goals omega
  · rw [if_neg h1]
    repeat' (first
        | (refine R_br rfl rfl (fun hbr => absurd hbr (by first | decide | (with_reducible assumption))) (fun _ => ?_))
        | (refine R_br rfl rfl (fun _ => ?_) (fun hbr => absurd (by first | decide | (with_reducible assumption)) hbr))
        | (refine R_br rfl rfl (fun _ => ?_) (fun _ => ?_))
        | (refine R_ri rfl rfl ?_)
        | (refine R_rz rfl rfl (Or.inl rfl) ?_)
        | (refine R_rz rfl rfl (Or.inr rfl) ?_)
        | (refine R_rz rfl rfl (b2_01 _) ?_)
        | (refine R_rl rfl rfl ?_)
        | (refine R_rv rfl rfl ?_)
        | (refine R_csr rfl (m_isFieldN f h1 _ _) rfl rfl rfl (Nat.le_of_ble_eq_true rfl) rfl ?_)
        | (refine R_sw _ rfl rfl rfl ?_)
        | (refine R_go 9999 rfl rfl trivial ?_)
        | (refine R_go 9999 rfl rfl (by first | (show _ ∨ _; decide) | (show (_ ∨ _) ∧ (_ ∨ _); decide) | (show (_ ∨ _) ∧ (_ ∨ _) ∧ (_ ∨ _); decide)) ?_)
        | (refine R_go 9999 rfl rfl ?_ ?_))
    exact ret_i rfl rfl
noncomputable def grA (P : List (List Tk × Nat)) (R : List Rw) (f v k : Int32) : Int32 := if 0 ≤ f.toInt ∧ f.toInt < 8 then (if (0 ≤ v.toInt ∧ v.toInt ≤ 20) ∧ 0 ≤ k.toInt ∧ k.toInt ≤ 3 then (if P = [] then -103 else nI (mbN P R f.toNatClampNeg v.toNatClampNeg k.toNatClampNeg R.length)) else -102) else -101
theorem m_groupC {P : List (List Tk × Nat)} {R : List Rw} {A : FI} {B : FJ} (hP : okG P) (hS : RS 6 A P []) (hR : RCR A P R) (f v k : Int32) : MV 4 3 mtX11_group [.inr (.inr (some (0, 0))), .inl f, .inl v, .inl k] (hp A B) (Ret (some (.inl (grA P R f v k))) (hp A B)) := by
  refine MV_of caX11_group (L := [some (.inr (.inr (some (0, 0)))), some (.inl f), some (.inl v), some (.inl k)]) rfl rfl ?_
  unfold grA
  by_cases h1 : 0 ≤ f.toInt ∧ f.toInt < 8
  · rw [if_pos h1]
    obtain ⟨a, ha, rfl⟩ := vp_in_of (x := f) (n := 8) (vp_of h1.1 (by omega)) (by decide)
    refine R_go 9999 rfl rfl trivial ?_
    refine R_csr rfl (m_isFieldT a ha _ _) rfl rfl rfl (Nat.le_of_ble_eq_true rfl) rfl ?_
    refine R_br rfl rfl (fun h => absurd h (by decide)) (fun _ => ?_)
    by_cases h2 : (0 ≤ v.toInt ∧ v.toInt ≤ 20) ∧ 0 ≤ k.toInt ∧ k.toInt ≤ 3
    · rw [if_pos h2]
      obtain ⟨b, hb, rfl⟩ := vp_in_of (x := v) (n := 21) (vp_of h2.1.1 (by omega)) (by decide)
      obtain ⟨c, hc, rfl⟩ := vp_in_of (x := k) (n := 4) (vp_of h2.2.1 (by omega)) (by decide)
      rw [nI_clamp (show a < 2 ^ 31 by omega), nI_clamp (show b < 2 ^ 31 by omega), nI_clamp (show c < 2 ^ 31 by omega)]
      have hhp := m_hasProgram (B := B) hS (okG_len hP)
      have tb := ti b (by omega)
      have tc := ti c (by omega)
      have q1 : ¬ nI b < 0 := by (simp only [i_eq, i_lt, i_le, Int32.reduceToInt, true_and, and_true, false_and, and_false, or_false, false_or, or_true, true_or, ne_eq] at *; first | done | omega)
      have q2 : ¬ (20 : Int32) < nI b := by (simp only [i_eq, i_lt, i_le, Int32.reduceToInt, true_and, and_true, false_and, and_false, or_false, false_or, or_true, true_or, ne_eq] at *; first | done | omega)
      have q3 : ¬ nI c < 0 := by (simp only [i_eq, i_lt, i_le, Int32.reduceToInt, true_and, and_true, false_and, and_false, or_false, false_or, or_true, true_or, ne_eq] at *; first | done | omega)
      have q4 : nI c ≤ 3 := by (simp only [i_eq, i_lt, i_le, Int32.reduceToInt, true_and, and_true, false_and, and_false, or_false, false_or, or_true, true_or, ne_eq] at *; first | done | omega)
      by_cases h3 : P = []
      · rw [if_pos h3]
        rw [isE.2 h3] at hhp
        repeat' (first
            | (refine R_br rfl rfl (fun hbr => absurd hbr (by first | decide | (with_reducible assumption))) (fun _ => ?_))
            | (refine R_br rfl rfl (fun _ => ?_) (fun hbr => absurd (by first | decide | (with_reducible assumption)) hbr))
            | (refine R_br rfl rfl (fun _ => ?_) (fun _ => ?_))
            | (refine R_ri rfl rfl ?_)
            | (refine R_rz rfl rfl (Or.inl rfl) ?_)
            | (refine R_rz rfl rfl (Or.inr rfl) ?_)
            | (refine R_rz rfl rfl (b2_01 _) ?_)
            | (refine R_rl rfl rfl ?_)
            | (refine R_rv rfl rfl ?_)
            | (refine R_cvr rfl (hhp) rfl rfl rfl rfl rfl (Nat.le_of_ble_eq_true rfl) rfl ?_)
            | (refine R_sw _ rfl rfl rfl ?_)
            | (refine R_go 9999 rfl rfl trivial ?_)
            | (refine R_go 9999 rfl rfl (by first | (show _ ∨ _; decide) | (show (_ ∨ _) ∧ (_ ∨ _); decide) | (show (_ ∨ _) ∧ (_ ∨ _) ∧ (_ ∨ _); decide)) ?_)
            | (refine R_go 9999 rfl rfl ?_ ?_))
        exact ret_i rfl rfl
      · rw [if_neg h3]
        rw [isE.1 h3] at hhp
        repeat' (first
            | (refine R_br rfl rfl (fun hbr => absurd hbr (by first | decide | (with_reducible assumption))) (fun _ => ?_))
            | (refine R_br rfl rfl (fun _ => ?_) (fun hbr => absurd (by first | decide | (with_reducible assumption)) hbr))
            | (refine R_br rfl rfl (fun _ => ?_) (fun _ => ?_))
            | (refine R_ri rfl rfl ?_)
            | (refine R_rz rfl rfl (Or.inl rfl) ?_)
            | (refine R_rz rfl rfl (Or.inr rfl) ?_)
            | (refine R_rz rfl rfl (b2_01 _) ?_)
            | (refine R_rl rfl rfl ?_)
            | (refine R_rv rfl rfl ?_)
            | (refine R_cvr rfl (hhp) rfl rfl rfl rfl rfl (Nat.le_of_ble_eq_true rfl) rfl ?_)
            | (refine R_cvr rfl (m_members (okG_ne hP h3) hR a b c ha (by omega) (by omega)) rfl rfl rfl rfl rfl (Nat.le_of_ble_eq_true rfl) rfl ?_)
            | (refine R_sw _ rfl rfl rfl ?_)
            | (refine R_go 9999 rfl rfl trivial ?_)
            | (refine R_go 9999 rfl rfl (by first | (show _ ∨ _; decide) | (show (_ ∨ _) ∧ (_ ∨ _); decide) | (show (_ ∨ _) ∧ (_ ∨ _) ∧ (_ ∨ _); decide)) ?_)
            | (refine R_go 9999 rfl rfl ?_ ?_))
        exact ret_i rfl rfl
    · rw [if_neg h2]
      repeat' (first
          | (refine R_stop 32 rfl rfl ?_)
          | (refine R_br rfl rfl (fun hbr => absurd hbr (by first | decide | (with_reducible assumption))) (fun _ => ?_))
          | (refine R_br rfl rfl (fun _ => ?_) (fun hbr => absurd (by first | decide | (with_reducible assumption)) hbr))
          | (refine R_br rfl rfl (fun _ => ?_) (fun _ => ?_))
          | (refine R_ri rfl rfl ?_)
          | (refine R_rz rfl rfl (Or.inl rfl) ?_)
          | (refine R_rz rfl rfl (Or.inr rfl) ?_)
          | (refine R_rz rfl rfl (b2_01 _) ?_)
          | (refine R_rl rfl rfl ?_)
          | (refine R_rv rfl rfl ?_)
          | (refine R_sw _ rfl rfl rfl ?_)
          | (refine R_go 32 rfl rfl trivial ?_)
          | (refine R_go 32 rfl rfl (by first | (show _ ∨ _; decide) | (show (_ ∨ _) ∧ (_ ∨ _); decide) | (show (_ ∨ _) ∧ (_ ∨ _) ∧ (_ ∨ _); decide)) ?_)
          | (refine R_go 32 rfl rfl ?_ ?_))
      all_goals first | exact ret_i rfl rfl | (exfalso; (simp only [i_eq, i_lt, i_le, Int32.reduceToInt, true_and, and_true, false_and, and_false, or_false, false_or, or_true, true_or, ne_eq] at *; first | done | omega))
  · rw [if_neg h1]
    repeat' (first
        | (refine R_br rfl rfl (fun hbr => absurd hbr (by first | decide | (with_reducible assumption))) (fun _ => ?_))
        | (refine R_br rfl rfl (fun _ => ?_) (fun hbr => absurd (by first | decide | (with_reducible assumption)) hbr))
        | (refine R_br rfl rfl (fun _ => ?_) (fun _ => ?_))
        | (refine R_ri rfl rfl ?_)
        | (refine R_rz rfl rfl (Or.inl rfl) ?_)
        | (refine R_rz rfl rfl (Or.inr rfl) ?_)
        | (refine R_rz rfl rfl (b2_01 _) ?_)
        | (refine R_rl rfl rfl ?_)
        | (refine R_rv rfl rfl ?_)
        | (refine R_csr rfl (m_isFieldN f h1 _ _) rfl rfl rfl (Nat.le_of_ble_eq_true rfl) rfl ?_)
        | (refine R_sw _ rfl rfl rfl ?_)
        | (refine R_go 9999 rfl rfl trivial ?_)
        | (refine R_go 9999 rfl rfl (by first | (show _ ∨ _; decide) | (show (_ ∨ _) ∧ (_ ∨ _); decide) | (show (_ ∨ _) ∧ (_ ∨ _) ∧ (_ ∨ _); decide)) ?_)
        | (refine R_go 9999 rfl rfl ?_ ?_))
    exact ret_i rfl rfl
