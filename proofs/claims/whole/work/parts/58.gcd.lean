theorem lg_0 {n : Nat} (h : n < 2 ^ 63) : lg_cmp (lN n) 0 = 0 ↔ n = 0 := by
  rw [lg_cmp_eq, j_eq, lN_tn h]
  simp only [Int64.reduceToInt]
  omega
theorem l_cd (one oth : Int64) (A : FI) (B : FJ) : ∀ (m a b i : Nat), i + 2 * m ≤ 127 → b < 2 ^ m → a < 2 ^ 62 → m ≤ 62 → ∀ o, Rn 0 mtX11_commonDivisor 9 [some (.inr (.inl one)), none, some (.inr (.inl oth)), none, some (.inr (.inl (lN a))), none, some (.inr (.inl (lN b))), none, some (.inl (nI i)), o, none] [] (hp A B) (Ret (some (.inr (.inl (lN (Nat.gcd b a))))) (hp A B)) := by
  intro m
  induction m with
  | zero =>
    intro a b i hi hb ha hm o
    have hb0 : b = 0 := by simpa using hb
    subst hb0
    have tI := ti i (by omega)
    refine R_go 9999 rfl rfl trivial ?_
    refine R_br rfl rfl (fun h => absurd h (by (simp only [i_eq, i_lt, i_le, Int32.reduceToInt, true_and, and_true, false_and, and_false, or_false, false_or, or_true, true_or, ne_eq] at *; first | done | omega))) (fun _ => ?_)
    refine R_go 9999 rfl rfl trivial ?_
    refine R_br rfl rfl (fun _ => ?_) (fun h => absurd (by decide) h)
    repeat' (first
        | (refine R_br rfl rfl (fun hbr => absurd hbr (by first | decide | (with_reducible assumption))) (fun _ => ?_))
        | (refine R_br rfl rfl (fun _ => ?_) (fun hbr => absurd (by first | decide | (with_reducible assumption)) hbr))
        | (refine R_br rfl rfl (fun _ => ?_) (fun _ => ?_))
        | (refine R_ri rfl rfl ?_)
        | (refine R_rz rfl rfl (Or.inl rfl) ?_)
        | (refine R_rz rfl rfl (Or.inr rfl) ?_)
        | (refine R_rz rfl rfl (b2_01 _) ?_)
        | (refine R_rl rfl rfl ?_)
        | (refine R_rv rfl rfl ?_)
        | (refine R_sw _ rfl rfl rfl ?_)
        | (refine R_go 9999 rfl rfl trivial ?_)
        | (refine R_go 9999 rfl rfl (by first | (show _ ∨ _; decide) | (show (_ ∨ _) ∧ (_ ∨ _); decide) | (show (_ ∨ _) ∧ (_ ∨ _) ∧ (_ ∨ _); decide)) ?_)
        | (refine R_go 9999 rfl rfl ?_ ?_))
    exact ret_l (by rw [Nat.gcd_zero_left]) rfl
  | succ m ih =>
    intro a b i hi hb ha hm o
    have tI := ti i (by omega)
    have hp2 : 2 ^ (m + 1) ≤ 2 ^ 62 := Nat.pow_le_pow_right (by decide) (by omega)
    have hb62 : b < 2 ^ 63 := by omega
    refine R_go 9999 rfl rfl trivial ?_
    refine R_br rfl rfl (fun h => absurd h (by (simp only [i_eq, i_lt, i_le, Int32.reduceToInt, true_and, and_true, false_and, and_false, or_false, false_or, or_true, true_or, ne_eq] at *; first | done | omega))) (fun _ => ?_)
    refine R_go 9999 rfl rfl trivial ?_
    by_cases h0 : b = 0
    · refine R_br rfl rfl (fun _ => ?_) (fun h => absurd ((lg_0 hb62).mpr h0) h)
      repeat' (first
          | (refine R_br rfl rfl (fun hbr => absurd hbr (by first | decide | (with_reducible assumption))) (fun _ => ?_))
          | (refine R_br rfl rfl (fun _ => ?_) (fun hbr => absurd (by first | decide | (with_reducible assumption)) hbr))
          | (refine R_br rfl rfl (fun _ => ?_) (fun _ => ?_))
          | (refine R_ri rfl rfl ?_)
          | (refine R_rz rfl rfl (Or.inl rfl) ?_)
          | (refine R_rz rfl rfl (Or.inr rfl) ?_)
          | (refine R_rz rfl rfl (b2_01 _) ?_)
          | (refine R_rl rfl rfl ?_)
          | (refine R_rv rfl rfl ?_)
          | (refine R_sw _ rfl rfl rfl ?_)
          | (refine R_go 9999 rfl rfl trivial ?_)
          | (refine R_go 9999 rfl rfl (by first | (show _ ∨ _; decide) | (show (_ ∨ _) ∧ (_ ∨ _); decide) | (show (_ ∨ _) ∧ (_ ∨ _) ∧ (_ ∨ _); decide)) ?_)
          | (refine R_go 9999 rfl rfl ?_ ?_))
      exact ret_l (by rw [h0, Nat.gcd_zero_left]) rfl
    · refine R_br rfl rfl (fun h => absurd ((lg_0 hb62).mp h) h0) (fun _ => ?_)
      have hne : ¬ lN b = 0 := by
        intro z
        rw [j_eq, lN_tn hb62] at z
        simp only [Int64.reduceToInt] at z
        omega
      refine R_go 9 rfl rfl hne ?_
      rw [j_rem (by omega) hb62, nI_1]
      have tI1 := ti (i + 1) (by omega)
      have hr := Nat.mod_lt a (show 0 < b by omega)
      have hg1 : Nat.gcd b a = Nat.gcd (a % b) b := Nat.gcd_rec b a
      refine R_go 9999 rfl rfl trivial ?_
      refine R_br rfl rfl (fun h => absurd h (by (simp only [i_eq, i_lt, i_le, Int32.reduceToInt, true_and, and_true, false_and, and_false, or_false, false_or, or_true, true_or, ne_eq] at *; first | done | omega))) (fun _ => ?_)
      refine R_go 9999 rfl rfl trivial ?_
      by_cases h1 : a % b = 0
      · refine R_br rfl rfl (fun _ => ?_) (fun h => absurd ((lg_0 (by omega)).mpr h1) h)
        repeat' (first
            | (refine R_br rfl rfl (fun hbr => absurd hbr (by first | decide | (with_reducible assumption))) (fun _ => ?_))
            | (refine R_br rfl rfl (fun _ => ?_) (fun hbr => absurd (by first | decide | (with_reducible assumption)) hbr))
            | (refine R_br rfl rfl (fun _ => ?_) (fun _ => ?_))
            | (refine R_ri rfl rfl ?_)
            | (refine R_rz rfl rfl (Or.inl rfl) ?_)
            | (refine R_rz rfl rfl (Or.inr rfl) ?_)
            | (refine R_rz rfl rfl (b2_01 _) ?_)
            | (refine R_rl rfl rfl ?_)
            | (refine R_rv rfl rfl ?_)
            | (refine R_sw _ rfl rfl rfl ?_)
            | (refine R_go 9999 rfl rfl trivial ?_)
            | (refine R_go 9999 rfl rfl (by first | (show _ ∨ _; decide) | (show (_ ∨ _) ∧ (_ ∨ _); decide) | (show (_ ∨ _) ∧ (_ ∨ _) ∧ (_ ∨ _); decide)) ?_)
            | (refine R_go 9999 rfl rfl ?_ ?_))
        exact ret_l (by rw [hg1, h1, Nat.gcd_zero_left]) rfl
      · refine R_br rfl rfl (fun h => absurd ((lg_0 (by omega)).mp h) h1) (fun _ => ?_)
        have hne2 : ¬ lN (a % b) = 0 := by
          intro z
          rw [j_eq, lN_tn (by omega)] at z
          simp only [Int64.reduceToInt] at z
          omega
        refine R_go 9 rfl rfl hne2 ?_
        rw [j_rem hb62 (by omega), nI_1]
        have hr2 := Nat.mod_lt b (show 0 < a % b by omega)
        have hg2 : Nat.gcd (a % b) b = Nat.gcd (b % (a % b)) (a % b) := Nat.gcd_rec _ _
        have hhalf : b % (a % b) < 2 ^ m := by
          have h3 : b % (a % b) + (a % b) ≤ b := by
            have := Nat.div_add_mod b (a % b)
            have h4 : 1 ≤ b / (a % b) := (Nat.le_div_iff_mul_le (by omega)).mpr (by omega)
            have h5 : (a % b) * 1 ≤ (a % b) * (b / (a % b)) := Nat.mul_le_mul_left _ h4
            omega
          rw [Nat.pow_succ] at hb
          omega
        rw [hg1, hg2]
        exact ih (a % b) (b % (a % b)) (i + 2) (by omega) hhalf (by omega) (by omega) _
theorem m_cd {u l : Nat} (hu : u < 2 ^ 62) (hl : l < 2 ^ 62) (A : FI) (B : FJ) : MS 0 2 mtX11_commonDivisor [.inr (.inl (lN u)), .inr (.inl (lN l))] (hp A B) (Ret (some (.inr (.inl (lN (Nat.gcd u l))))) (hp A B)) := by
  refine MS_of caX11_commonDivisor (L := [some (.inr (.inl (lN u))), none, some (.inr (.inl (lN l))), none, none, none, none, none, none, none, none]) rfl rfl ?_
  refine R_go 9 rfl rfl trivial ?_
  rw [Nat.gcd_comm]
  exact l_cd _ _ A B 62 u l 0 (by decide) hl hu (by decide) none
theorem l_cm (one oth : Int64) (A : FI) (B : FJ) : ∀ (n x y : Nat), x ≤ n → x < 2 ^ 62 → y < 2 ^ 62 → ∀ o, Rn 0 mtX12_common 6 [some (.inr (.inl one)), none, some (.inr (.inl oth)), none, some (.inr (.inl (lN x))), none, some (.inr (.inl (lN y))), none, o, none] [] (hp A B) (Ret (some (.inr (.inl (lN (Nat.gcd x y))))) (hp A B)) := by
  intro n
  induction n with
  | zero =>
    intro x y hx hx2 hy o
    have h0 : x = 0 := by omega
    subst h0
    refine R_go 9999 rfl rfl trivial ?_
    refine R_br rfl rfl (fun _ => ?_) (fun h => absurd (by decide) h)
    repeat' (first
        | (refine R_br rfl rfl (fun hbr => absurd hbr (by first | decide | (with_reducible assumption))) (fun _ => ?_))
        | (refine R_br rfl rfl (fun _ => ?_) (fun hbr => absurd (by first | decide | (with_reducible assumption)) hbr))
        | (refine R_br rfl rfl (fun _ => ?_) (fun _ => ?_))
        | (refine R_ri rfl rfl ?_)
        | (refine R_rz rfl rfl (Or.inl rfl) ?_)
        | (refine R_rz rfl rfl (Or.inr rfl) ?_)
        | (refine R_rz rfl rfl (b2_01 _) ?_)
        | (refine R_rl rfl rfl ?_)
        | (refine R_rv rfl rfl ?_)
        | (refine R_sw _ rfl rfl rfl ?_)
        | (refine R_go 9999 rfl rfl trivial ?_)
        | (refine R_go 9999 rfl rfl (by first | (show _ ∨ _; decide) | (show (_ ∨ _) ∧ (_ ∨ _); decide) | (show (_ ∨ _) ∧ (_ ∨ _) ∧ (_ ∨ _); decide)) ?_)
        | (refine R_go 9999 rfl rfl ?_ ?_))
    exact ret_l (by rw [Nat.gcd_zero_left]) rfl
  | succ n ih =>
    intro x y hx hx2 hy o
    refine R_go 9999 rfl rfl trivial ?_
    by_cases h0 : x = 0
    · refine R_br rfl rfl (fun _ => ?_) (fun h => absurd ((lg_0 (by omega)).mpr h0) h)
      repeat' (first
          | (refine R_br rfl rfl (fun hbr => absurd hbr (by first | decide | (with_reducible assumption))) (fun _ => ?_))
          | (refine R_br rfl rfl (fun _ => ?_) (fun hbr => absurd (by first | decide | (with_reducible assumption)) hbr))
          | (refine R_br rfl rfl (fun _ => ?_) (fun _ => ?_))
          | (refine R_ri rfl rfl ?_)
          | (refine R_rz rfl rfl (Or.inl rfl) ?_)
          | (refine R_rz rfl rfl (Or.inr rfl) ?_)
          | (refine R_rz rfl rfl (b2_01 _) ?_)
          | (refine R_rl rfl rfl ?_)
          | (refine R_rv rfl rfl ?_)
          | (refine R_sw _ rfl rfl rfl ?_)
          | (refine R_go 9999 rfl rfl trivial ?_)
          | (refine R_go 9999 rfl rfl (by first | (show _ ∨ _; decide) | (show (_ ∨ _) ∧ (_ ∨ _); decide) | (show (_ ∨ _) ∧ (_ ∨ _) ∧ (_ ∨ _); decide)) ?_)
          | (refine R_go 9999 rfl rfl ?_ ?_))
      exact ret_l (by rw [h0, Nat.gcd_zero_left]) rfl
    · refine R_br rfl rfl (fun h => absurd ((lg_0 (by omega)).mp h) h0) (fun _ => ?_)
      have hne : ¬ lN x = 0 := by
        intro z
        rw [j_eq, lN_tn (by omega)] at z
        simp only [Int64.reduceToInt] at z
        omega
      refine R_go 6 rfl rfl hne ?_
      rw [j_rem (by omega) (by omega), Nat.gcd_rec x y]
      have hr := Nat.mod_lt y (show 0 < x by omega)
      exact ih (y % x) x (by omega) (by omega) hx2 _
theorem m_cm {u l : Nat} (hu : u < 2 ^ 62) (hl : l < 2 ^ 62) (A : FI) (B : FJ) : MS 0 2 mtX12_common [.inr (.inl (lN u)), .inr (.inl (lN l))] (hp A B) (Ret (some (.inr (.inl (lN (Nat.gcd u l))))) (hp A B)) := by
  refine MS_of caX12_common (L := [some (.inr (.inl (lN u))), none, some (.inr (.inl (lN l))), none, none, none, none, none, none, none]) rfl rfl ?_
  refine R_go 6 rfl rfl trivial ?_
  exact l_cm _ _ A B u u l (Nat.le_refl _) hu hl none
/-- a share in lowest terms: above (0), below (1) -/
def ltS (u l k : Nat) : Nat := (if k = 0 then u else l) / Nat.gcd u l
theorem m_lowest {u l k : Nat} (hu : u < 2 ^ 62) (hl : l < 2 ^ 62) (h0 : 0 < l) (hk : k ≤ 1) (A : FI) (B : FJ) : MS 1 3 mtX11_lowest [.inr (.inl (lN u)), .inr (.inl (lN l)), .inl (nI k)] (hp A B) (Ret (some (.inl (nI (ltS u l k)))) (hp A B)) := by
  have hg : 0 < Nat.gcd u l := Nat.gcd_pos_of_pos_right _ h0
  have hgl : Nat.gcd u l ≤ l := Nat.gcd_le_right _ h0
  have hne : ¬ lN (Nat.gcd u l) = 0 := by
    intro z
    rw [j_eq, lN_tn (by omega)] at z
    simp only [Int64.reduceToInt] at z
    omega
  have n1 : ¬ lg_cmp (lN (Nat.gcd u l)) 0 = 0 := fun z => by have := (lg_0 (by omega)).mp z; omega
  refine MS_of caX11_lowest (L := [some (.inr (.inl (lN u))), none, some (.inr (.inl (lN l))), none, some (.inl (nI k)), none, none]) rfl rfl ?_
  rcases (show k = 0 ∨ k = 1 by omega) with rfl | rfl
  ·
    repeat' (first
        | (refine R_br rfl rfl (fun hbr => absurd hbr (by first | decide | (with_reducible assumption))) (fun _ => ?_))
        | (refine R_br rfl rfl (fun _ => ?_) (fun hbr => absurd (by first | decide | (with_reducible assumption)) hbr))
        | (refine R_br rfl rfl (fun _ => ?_) (fun _ => ?_))
        | (refine R_ri rfl rfl ?_)
        | (refine R_rz rfl rfl (Or.inl rfl) ?_)
        | (refine R_rz rfl rfl (Or.inr rfl) ?_)
        | (refine R_rz rfl rfl (b2_01 _) ?_)
        | (refine R_rl rfl rfl ?_)
        | (refine R_rv rfl rfl ?_)
        | (refine R_csr rfl (m_cd hu hl _ _) rfl rfl rfl (Nat.le_of_ble_eq_true rfl) rfl ?_)
        | (refine R_sw _ rfl rfl rfl ?_)
        | (refine R_go 9999 rfl rfl trivial ?_)
        | (refine R_go 9999 rfl rfl (by first | (show _ ∨ _; decide) | (show (_ ∨ _) ∧ (_ ∨ _); decide) | (show (_ ∨ _) ∧ (_ ∨ _) ∧ (_ ∨ _); decide)) ?_)
        | (refine R_go 9999 rfl rfl ?_ ?_))
    · exact hne
    · rw [j_div (by omega) (by omega), lN_i]; exact ret_i rfl rfl
  ·
    repeat' (first
        | (refine R_br rfl rfl (fun hbr => absurd hbr (by first | decide | (with_reducible assumption))) (fun _ => ?_))
        | (refine R_br rfl rfl (fun _ => ?_) (fun hbr => absurd (by first | decide | (with_reducible assumption)) hbr))
        | (refine R_br rfl rfl (fun _ => ?_) (fun _ => ?_))
        | (refine R_ri rfl rfl ?_)
        | (refine R_rz rfl rfl (Or.inl rfl) ?_)
        | (refine R_rz rfl rfl (Or.inr rfl) ?_)
        | (refine R_rz rfl rfl (b2_01 _) ?_)
        | (refine R_rl rfl rfl ?_)
        | (refine R_rv rfl rfl ?_)
        | (refine R_csr rfl (m_cd hu hl _ _) rfl rfl rfl (Nat.le_of_ble_eq_true rfl) rfl ?_)
        | (refine R_sw _ rfl rfl rfl ?_)
        | (refine R_go 9999 rfl rfl trivial ?_)
        | (refine R_go 9999 rfl rfl (by first | (show _ ∨ _; decide) | (show (_ ∨ _) ∧ (_ ∨ _); decide) | (show (_ ∨ _) ∧ (_ ∨ _) ∧ (_ ∨ _); decide)) ?_)
        | (refine R_go 9999 rfl rfl ?_ ?_))
    · exact hne
    · rw [j_div (by omega) (by omega), lN_i]; exact ret_i rfl rfl
theorem m_part {u l k : Nat} (hu : u < 2 ^ 62) (hl : l < 2 ^ 62) (h0 : 0 < l) (hk : k ≤ 1) (A : FI) (B : FJ) : MS 1 3 mtX12_part [.inr (.inl (lN u)), .inr (.inl (lN l)), .inl (nI k)] (hp A B) (Ret (some (.inl (nI (ltS u l k)))) (hp A B)) := by
  have hg : 0 < Nat.gcd u l := Nat.gcd_pos_of_pos_right _ h0
  have hgl : Nat.gcd u l ≤ l := Nat.gcd_le_right _ h0
  have hne : ¬ lN (Nat.gcd u l) = 0 := by
    intro z
    rw [j_eq, lN_tn (by omega)] at z
    simp only [Int64.reduceToInt] at z
    omega
  refine MS_of caX12_part (L := [some (.inr (.inl (lN u))), none, some (.inr (.inl (lN l))), none, some (.inl (nI k)), none, none]) rfl rfl ?_
  rcases (show k = 0 ∨ k = 1 by omega) with rfl | rfl
  ·
    repeat' (first
        | (refine R_br rfl rfl (fun hbr => absurd hbr (by first | decide | (with_reducible assumption))) (fun _ => ?_))
        | (refine R_br rfl rfl (fun _ => ?_) (fun hbr => absurd (by first | decide | (with_reducible assumption)) hbr))
        | (refine R_br rfl rfl (fun _ => ?_) (fun _ => ?_))
        | (refine R_ri rfl rfl ?_)
        | (refine R_rz rfl rfl (Or.inl rfl) ?_)
        | (refine R_rz rfl rfl (Or.inr rfl) ?_)
        | (refine R_rz rfl rfl (b2_01 _) ?_)
        | (refine R_rl rfl rfl ?_)
        | (refine R_rv rfl rfl ?_)
        | (refine R_csr rfl (m_cm hu hl _ _) rfl rfl rfl (Nat.le_of_ble_eq_true rfl) rfl ?_)
        | (refine R_sw _ rfl rfl rfl ?_)
        | (refine R_go 9999 rfl rfl trivial ?_)
        | (refine R_go 9999 rfl rfl (by first | (show _ ∨ _; decide) | (show (_ ∨ _) ∧ (_ ∨ _); decide) | (show (_ ∨ _) ∧ (_ ∨ _) ∧ (_ ∨ _); decide)) ?_)
        | (refine R_go 9999 rfl rfl ?_ ?_))
    · exact hne
    · rw [j_div (by omega) (by omega), lN_i]; exact ret_i rfl rfl
  ·
    repeat' (first
        | (refine R_br rfl rfl (fun hbr => absurd hbr (by first | decide | (with_reducible assumption))) (fun _ => ?_))
        | (refine R_br rfl rfl (fun _ => ?_) (fun hbr => absurd (by first | decide | (with_reducible assumption)) hbr))
        | (refine R_br rfl rfl (fun _ => ?_) (fun _ => ?_))
        | (refine R_ri rfl rfl ?_)
        | (refine R_rz rfl rfl (Or.inl rfl) ?_)
        | (refine R_rz rfl rfl (Or.inr rfl) ?_)
        | (refine R_rz rfl rfl (b2_01 _) ?_)
        | (refine R_rl rfl rfl ?_)
        | (refine R_rv rfl rfl ?_)
        | (refine R_csr rfl (m_cm hu hl _ _) rfl rfl rfl (Nat.le_of_ble_eq_true rfl) rfl ?_)
        | (refine R_sw _ rfl rfl rfl ?_)
        | (refine R_go 9999 rfl rfl trivial ?_)
        | (refine R_go 9999 rfl rfl (by first | (show _ ∨ _; decide) | (show (_ ∨ _) ∧ (_ ∨ _); decide) | (show (_ ∨ _) ∧ (_ ∨ _) ∧ (_ ∨ _); decide)) ?_)
        | (refine R_go 9999 rfl rfl ?_ ?_))
    · exact hne
    · rw [j_div (by omega) (by omega), lN_i]; exact ret_i rfl rfl
noncomputable def gapA (P : List (List Tk × Nat)) (R : List Rw) (f v w k : Int32) : Int32 := if rfA P R f v w (decide (0 ≤ k.toInt ∧ k.toInt ≤ 1)) = 0 then nI (ltS (gpN (mL P R f.toNatClampNeg v.toNatClampNeg) (mA P R f.toNatClampNeg v.toNatClampNeg) (mL P R f.toNatClampNeg w.toNatClampNeg) (mA P R f.toNatClampNeg w.toNatClampNeg)) (mA P R f.toNatClampNeg v.toNatClampNeg * mA P R f.toNatClampNeg w.toNatClampNeg) k.toNatClampNeg) else rfA P R f v w (decide (0 ≤ k.toInt ∧ k.toInt ≤ 1))
theorem gp_le {P : List (List Tk × Nat)} {R : List Rw} (h24 : R.length ≤ 24) (f v w : Nat) : gpN (mL P R f v) (mA P R f v) (mL P R f w) (mA P R f w) ≤ 576 ∧ mA P R f v * mA P R f w ≤ 576 := by
  have c1 := m24 (mb24 (P := P) h24 f v 1) (mb24 (P := P) h24 f w 0)
  have c2 := m24 (mb24 (P := P) h24 f w 1) (mb24 (P := P) h24 f v 0)
  have c3 := m24 (mb24 (P := P) h24 f v 0) (mb24 (P := P) h24 f w 0)
  unfold gpN mL mA
  omega
theorem m_gapC {P : List (List Tk × Nat)} {R : List Rw} {A : FI} {B : FJ} (hP : okG P) (hS : RS 6 A P []) (hR : RCR A P R) (f v w k : Int32) : MV 6 4 mtX11_gap [.inr (.inr (some (0, 0))), .inl f, .inl v, .inl w, .inl k] (hp A B) (Ret (some (.inl (gapA P R f v w k))) (hp A B)) := by
  have h24 := hR.2.1
  have hrf := m_refusal (B := B) hP hS hR f v w k 1 (by decide)
  refine MV_of caX11_gap (L := [some (.inr (.inr (some (0, 0)))), some (.inl f), some (.inl v), some (.inl w), some (.inl k), none]) rfl rfl ?_
  unfold gapA
  have hc := rfA_c P R f v w (decide (0 ≤ k.toInt ∧ k.toInt ≤ 1))
  have hd : decide (0 ≤ k.toInt ∧ k.toInt ≤ ((1 : Nat) : Int)) = decide (0 ≤ k.toInt ∧ k.toInt ≤ 1) := rfl
  rw [hd] at hrf
  rcases hc with h | h | h | ⟨h, hgd, hPe, a, b, c, ha, hb, hcc, hne, rfl, rfl, rfl, h1, h2⟩
  · rw [h] at hrf ⊢
    rw [if_neg (by decide)]
    repeat' (first
        | (refine R_br rfl rfl (fun hbr => absurd hbr (by first | decide | (with_reducible assumption))) (fun _ => ?_))
        | (refine R_br rfl rfl (fun _ => ?_) (fun hbr => absurd (by first | decide | (with_reducible assumption)) hbr))
        | (refine R_br rfl rfl (fun _ => ?_) (fun _ => ?_))
        | (refine R_ri rfl rfl ?_)
        | (refine R_rz rfl rfl (Or.inl rfl) ?_)
        | (refine R_rz rfl rfl (Or.inr rfl) ?_)
        | (refine R_rz rfl rfl (b2_01 _) ?_)
        | (refine R_rl rfl rfl ?_)
        | (refine R_rv rfl rfl ?_)
        | (refine R_cvr rfl (hrf) rfl rfl rfl rfl rfl (Nat.le_of_ble_eq_true rfl) rfl ?_)
        | (refine R_sw _ rfl rfl rfl ?_)
        | (refine R_go 9999 rfl rfl trivial ?_)
        | (refine R_go 9999 rfl rfl (by first | (show _ ∨ _; decide) | (show (_ ∨ _) ∧ (_ ∨ _); decide) | (show (_ ∨ _) ∧ (_ ∨ _) ∧ (_ ∨ _); decide)) ?_)
        | (refine R_go 9999 rfl rfl ?_ ?_))
    exact ret_i rfl rfl
  · rw [h] at hrf ⊢
    rw [if_neg (by decide)]
    repeat' (first
        | (refine R_br rfl rfl (fun hbr => absurd hbr (by first | decide | (with_reducible assumption))) (fun _ => ?_))
        | (refine R_br rfl rfl (fun _ => ?_) (fun hbr => absurd (by first | decide | (with_reducible assumption)) hbr))
        | (refine R_br rfl rfl (fun _ => ?_) (fun _ => ?_))
        | (refine R_ri rfl rfl ?_)
        | (refine R_rz rfl rfl (Or.inl rfl) ?_)
        | (refine R_rz rfl rfl (Or.inr rfl) ?_)
        | (refine R_rz rfl rfl (b2_01 _) ?_)
        | (refine R_rl rfl rfl ?_)
        | (refine R_rv rfl rfl ?_)
        | (refine R_cvr rfl (hrf) rfl rfl rfl rfl rfl (Nat.le_of_ble_eq_true rfl) rfl ?_)
        | (refine R_sw _ rfl rfl rfl ?_)
        | (refine R_go 9999 rfl rfl trivial ?_)
        | (refine R_go 9999 rfl rfl (by first | (show _ ∨ _; decide) | (show (_ ∨ _) ∧ (_ ∨ _); decide) | (show (_ ∨ _) ∧ (_ ∨ _) ∧ (_ ∨ _); decide)) ?_)
        | (refine R_go 9999 rfl rfl ?_ ?_))
    exact ret_i rfl rfl
  · rw [h] at hrf ⊢
    rw [if_neg (by decide)]
    repeat' (first
        | (refine R_br rfl rfl (fun hbr => absurd hbr (by first | decide | (with_reducible assumption))) (fun _ => ?_))
        | (refine R_br rfl rfl (fun _ => ?_) (fun hbr => absurd (by first | decide | (with_reducible assumption)) hbr))
        | (refine R_br rfl rfl (fun _ => ?_) (fun _ => ?_))
        | (refine R_ri rfl rfl ?_)
        | (refine R_rz rfl rfl (Or.inl rfl) ?_)
        | (refine R_rz rfl rfl (Or.inr rfl) ?_)
        | (refine R_rz rfl rfl (b2_01 _) ?_)
        | (refine R_rl rfl rfl ?_)
        | (refine R_rv rfl rfl ?_)
        | (refine R_cvr rfl (hrf) rfl rfl rfl rfl rfl (Nat.le_of_ble_eq_true rfl) rfl ?_)
        | (refine R_sw _ rfl rfl rfl ?_)
        | (refine R_go 9999 rfl rfl trivial ?_)
        | (refine R_go 9999 rfl rfl (by first | (show _ ∨ _; decide) | (show (_ ∨ _) ∧ (_ ∨ _); decide) | (show (_ ∨ _) ∧ (_ ∨ _) ∧ (_ ∨ _); decide)) ?_)
        | (refine R_go 9999 rfl rfl ?_ ?_))
    exact ret_i rfl rfl
  · rw [h] at hrf ⊢
    rw [if_pos rfl]
    have hkk := of_decide_eq_true hgd
    obtain ⟨j, hj, rfl⟩ := vp_in_of (x := k) (n := 2) (vp_of hkk.1 (by omega)) (by decide)
    rw [nI_clamp (show a < 2 ^ 31 by omega), nI_clamp (show b < 2 ^ 31 by omega), nI_clamp (show c < 2 ^ 31 by omega), nI_clamp (show j < 2 ^ 31 by omega)]
    obtain ⟨g1, g2⟩ := gp_le (P := P) h24 a b c
    have hpos : 0 < mA P R a b * mA P R a c := Nat.mul_pos (by omega) (by omega)
    repeat' (first
        | (refine R_br rfl rfl (fun hbr => absurd hbr (by first | decide | (with_reducible assumption))) (fun _ => ?_))
        | (refine R_br rfl rfl (fun _ => ?_) (fun hbr => absurd (by first | decide | (with_reducible assumption)) hbr))
        | (refine R_br rfl rfl (fun _ => ?_) (fun _ => ?_))
        | (refine R_ri rfl rfl ?_)
        | (refine R_rz rfl rfl (Or.inl rfl) ?_)
        | (refine R_rz rfl rfl (Or.inr rfl) ?_)
        | (refine R_rz rfl rfl (b2_01 _) ?_)
        | (refine R_rl rfl rfl ?_)
        | (refine R_rv rfl rfl ?_)
        | (refine R_cvr rfl (hrf) rfl rfl rfl rfl rfl (Nat.le_of_ble_eq_true rfl) rfl ?_)
        | (refine R_cvr rfl (m_gapAbove (okG_ne hP hPe) hR a b c ha hb hcc) rfl rfl rfl rfl rfl (Nat.le_of_ble_eq_true rfl) rfl ?_)
        | (refine R_cvr rfl (m_gapBelow (okG_ne hP hPe) hR a b c ha hb hcc) rfl rfl rfl rfl rfl (Nat.le_of_ble_eq_true rfl) rfl ?_)
        | (refine R_csr rfl (m_lowest (by omega) (by omega) hpos (by omega) _ _) rfl rfl rfl (Nat.le_of_ble_eq_true rfl) rfl ?_)
        | (refine R_sw _ rfl rfl rfl ?_)
        | (refine R_go 9999 rfl rfl trivial ?_)
        | (refine R_go 9999 rfl rfl (by first | (show _ ∨ _; decide) | (show (_ ∨ _) ∧ (_ ∨ _); decide) | (show (_ ∨ _) ∧ (_ ∨ _) ∧ (_ ∨ _); decide)) ?_)
        | (refine R_go 9999 rfl rfl ?_ ?_))
    exact ret_i rfl rfl
