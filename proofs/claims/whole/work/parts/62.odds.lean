theorem bin48 {n k : Nat} (h : n ≤ 48) : bin n k ≤ 281474976710656 := Nat.le_trans (bin_le n k) (Nat.le_trans (Nat.pow_le_pow_right (by decide) h) (by decide))
theorem l_chC {n k : Nat} (hn : n ≤ 48) (hk : k ≤ n) (A : FI) (B : FJ) : ∀ (m j : Nat), j + m = k → Rn 0 mtX11_choose 16 [some (.inl (nI n)), some (.inl (nI k)), some (.inr (.inl (lN (bin (n - k + j) j)))), none, some (.inl (nI (j + 1)))] [] (hp A B) (Ret (some (.inr (.inl (lN (bin n k))))) (hp A B)) := by
  have tk := ti k (by omega)
  intro m
  induction m with
  | zero =>
    intro j hj
    have : j = k := by omega
    subst this
    have tj := ti (j + 1) (by omega)
    refine R_go 9999 rfl rfl trivial ?_
    refine R_br rfl rfl (fun _ => ?_) (fun h => absurd (by (simp only [i_eq, i_lt, i_le, Int32.reduceToInt, true_and, and_true, false_and, and_false, or_false, false_or, or_true, true_or, ne_eq] at *; first | done | omega)) h)
    repeat' (first
        | (refine R_br rfl rfl (fun hbr => absurd hbr (by first | decide | (with_reducible assumption))) (fun _ => ?_))
        | (refine R_br rfl rfl (fun _ => ?_) (fun hbr => absurd (by first | decide | (with_reducible assumption)) hbr))
        | (refine R_br rfl rfl (fun _ => ?_) (fun _ => ?_))
        | (refine R_ri rfl rfl ?_)
        | (refine R_rz rfl rfl (Or.inl rfl) ?_)
        | (refine R_rz rfl rfl (Or.inr rfl) ?_)
        | (refine R_rz rfl rfl (b2_01 _) ?_)
        | (refine R_rl rfl rfl ?_)
        | (refine R_rv rfl rfl ?_)
        | (refine R_sw _ rfl rfl rfl ?_)
        | (refine R_go 9999 rfl rfl trivial ?_)
        | (refine R_go 9999 rfl rfl (by first | (show _ ∨ _; decide) | (show (_ ∨ _) ∧ (_ ∨ _); decide) | (show (_ ∨ _) ∧ (_ ∨ _) ∧ (_ ∨ _); decide)) ?_)
        | (refine R_go 9999 rfl rfl ?_ ?_))
    exact ret_l (by rw [show n - j + j = n by omega]) rfl
  | succ m ih =>
    intro j hj
    have tj := ti (j + 1) (by omega)
    have hb := bin48 (n := n - k + j) (k := j) (by omega)
    have e1 : nI n - nI k + nI (j + 1) = nI (n - k + j + 1) := by rw [nI_sub hk, nI_add]; congr 1
    have hab := bin_ab (n - k + j) j
    have hmul : bin (n - k + j) j * (n - k + j + 1) ≤ 281474976710656 * 49 := Nat.mul_le_mul hb (by omega)
    have hdiv : bin (n - k + j) j * (n - k + j + 1) / (j + 1) = bin (n - k + (j + 1)) (j + 1) := by
      rw [show n - k + (j + 1) = n - k + j + 1 by omega, Nat.mul_comm, ← hab, Nat.mul_div_cancel_left _ (by omega)]
    have hne : ¬ (nI (j + 1)).toInt64 = 0 := by
      rw [j_eq, i_l, tj]
      simp only [Int64.reduceToInt]
      omega
    refine R_go 9999 rfl rfl trivial ?_
    refine R_br rfl rfl (fun h => absurd h (by (simp only [i_eq, i_lt, i_le, Int32.reduceToInt, true_and, and_true, false_and, and_false, or_false, false_or, or_true, true_or, ne_eq] at *; first | done | omega))) (fun _ => ?_)
    refine R_go 16 rfl rfl hne ?_
    rw [e1, nI_l (by omega), nI_l (by omega), lN_mul, j_div (by omega) (by omega), hdiv, nI_1]
    exact ih (j + 1) (by omega)
theorem m_chC {n k : Nat} (hn : n ≤ 48) (hk : k ≤ 100) (A : FI) (B : FJ) : MS 0 2 mtX11_choose [.inl (nI n), .inl (nI k)] (hp A B) (Ret (some (.inr (.inl (lN (bin n k))))) (hp A B)) := by
  have tk := ti k (by omega)
  have tn := ti n (by omega)
  have q1 : ¬ nI k < 0 := by (simp only [i_eq, i_lt, i_le, Int32.reduceToInt, true_and, and_true, false_and, and_false, or_false, false_or, or_true, true_or, ne_eq] at *; first | done | omega)
  refine MS_of caX11_choose (L := [some (.inl (nI n)), some (.inl (nI k)), none, none, none]) rfl rfl ?_
  refine R_go 9999 rfl rfl trivial ?_
  refine R_br rfl rfl (fun h => absurd h q1) (fun _ => ?_)
  refine R_go 9999 rfl rfl trivial ?_
  by_cases h : k ≤ n
  · refine R_br rfl rfl (fun _ => ?_) (fun h => absurd (by (simp only [i_eq, i_lt, i_le, Int32.reduceToInt, true_and, and_true, false_and, and_false, or_false, false_or, or_true, true_or, ne_eq] at *; first | done | omega)) h)
    refine R_go 16 rfl rfl trivial ?_
    have := l_chC hn h A B k 0 (by omega)
    rw [bin_z] at this
    exact this
  · refine R_br rfl rfl (fun h => absurd h (by (simp only [i_eq, i_lt, i_le, Int32.reduceToInt, true_and, and_true, false_and, and_false, or_false, false_or, or_true, true_or, ne_eq] at *; first | done | omega))) (fun _ => ?_)
    repeat' (first
        | (refine R_br rfl rfl (fun hbr => absurd hbr (by first | decide | (with_reducible assumption))) (fun _ => ?_))
        | (refine R_br rfl rfl (fun _ => ?_) (fun hbr => absurd (by first | decide | (with_reducible assumption)) hbr))
        | (refine R_br rfl rfl (fun _ => ?_) (fun _ => ?_))
        | (refine R_ri rfl rfl ?_)
        | (refine R_rz rfl rfl (Or.inl rfl) ?_)
        | (refine R_rz rfl rfl (Or.inr rfl) ?_)
        | (refine R_rz rfl rfl (b2_01 _) ?_)
        | (refine R_rl rfl rfl ?_)
        | (refine R_rv rfl rfl ?_)
        | (refine R_sw _ rfl rfl rfl ?_)
        | (refine R_go 9999 rfl rfl trivial ?_)
        | (refine R_go 9999 rfl rfl (by first | (show _ ∨ _; decide) | (show (_ ∨ _) ∧ (_ ∨ _); decide) | (show (_ ∨ _) ∧ (_ ∨ _) ∧ (_ ∨ _); decide)) ?_)
        | (refine R_go 9999 rfl rfl ?_ ?_))
    exact ret_l (by rw [bin_gt n k (by omega)]; rfl) rfl
theorem l_chM {n k : Nat} (hn : n ≤ 48) (hk : k ≤ n) (A : FI) (B : FJ) : ∀ (m j : Nat), j + m = k → Rn 0 mtX12_choose 18 [some (.inl (nI n)), some (.inl (nI k)), some (.inr (.inl (lN (bin n j)))), none, some (.inl (nI j))] [] (hp A B) (Ret (some (.inr (.inl (lN (bin n k))))) (hp A B)) := by
  have tk := ti k (by omega)
  intro m
  induction m with
  | zero =>
    intro j hj
    have : j = k := by omega
    subst this
    refine R_go 9999 rfl rfl trivial ?_
    refine R_br rfl rfl (fun _ => ?_) (fun h => absurd (Int32.le_refl _) h)
    repeat' (first
        | (refine R_br rfl rfl (fun hbr => absurd hbr (by first | decide | (with_reducible assumption))) (fun _ => ?_))
        | (refine R_br rfl rfl (fun _ => ?_) (fun hbr => absurd (by first | decide | (with_reducible assumption)) hbr))
        | (refine R_br rfl rfl (fun _ => ?_) (fun _ => ?_))
        | (refine R_ri rfl rfl ?_)
        | (refine R_rz rfl rfl (Or.inl rfl) ?_)
        | (refine R_rz rfl rfl (Or.inr rfl) ?_)
        | (refine R_rz rfl rfl (b2_01 _) ?_)
        | (refine R_rl rfl rfl ?_)
        | (refine R_rv rfl rfl ?_)
        | (refine R_sw _ rfl rfl rfl ?_)
        | (refine R_go 9999 rfl rfl trivial ?_)
        | (refine R_go 9999 rfl rfl (by first | (show _ ∨ _; decide) | (show (_ ∨ _) ∧ (_ ∨ _); decide) | (show (_ ∨ _) ∧ (_ ∨ _) ∧ (_ ∨ _); decide)) ?_)
        | (refine R_go 9999 rfl rfl ?_ ?_))
    exact ret_l rfl rfl
  | succ m ih =>
    intro j hj
    have tj := ti j (by omega)
    have tj1 := ti (j + 1) (by omega)
    have hb := bin48 (n := n) (k := j) hn
    have hp0 := bin_pos n j (by omega)
    have e1 : nI n - nI j = nI (n - j) := nI_sub (by omega)
    have hnx := bin_nx (n := n) (i := j) (by omega)
    have hmul : bin n j * (n - j) ≤ 281474976710656 * 49 := Nat.mul_le_mul hb (by omega)
    have hdiv : bin n j * (n - j) / (j + 1) = bin n (j + 1) := by
      rw [Nat.mul_comm, ← hnx, Nat.mul_div_cancel_left _ (by omega)]
    have hne : ¬ (nI j + 1).toInt64 = 0 := by
      rw [nI_1, j_eq, i_l, tj1]
      simp only [Int64.reduceToInt]
      omega
    have hgt : ¬ lg_cmp (lN (bin n j)) 0 ≤ 0 := by
      rw [lg_cmp_le, j_le, lN_tn (by omega)]
      simp only [Int64.reduceToInt]
      omega
    refine R_go 9999 rfl rfl trivial ?_
    refine R_br rfl rfl (fun h => absurd h (by (simp only [i_eq, i_lt, i_le, Int32.reduceToInt, true_and, and_true, false_and, and_false, or_false, false_or, or_true, true_or, ne_eq] at *; first | done | omega))) (fun _ => ?_)
    refine R_go 9999 rfl rfl trivial ?_
    refine R_br rfl rfl (fun h => absurd h hgt) (fun _ => ?_)
    refine R_go 18 rfl rfl hne ?_
    rw [nI_1, e1, nI_l (by omega), nI_l (by omega), lN_mul, j_div (by omega) (by omega), hdiv]
    exact ih (j + 1) (by omega)
theorem m_chM {n k : Nat} (hn : n ≤ 48) (hk : k ≤ 100) (A : FI) (B : FJ) : MS 0 2 mtX12_choose [.inl (nI n), .inl (nI k)] (hp A B) (Ret (some (.inr (.inl (lN (bin n k))))) (hp A B)) := by
  have tk := ti k (by omega)
  have tn := ti n (by omega)
  have q1 : ¬ nI k < 0 := by (simp only [i_eq, i_lt, i_le, Int32.reduceToInt, true_and, and_true, false_and, and_false, or_false, false_or, or_true, true_or, ne_eq] at *; first | done | omega)
  refine MS_of caX12_choose (L := [some (.inl (nI n)), some (.inl (nI k)), none, none, none]) rfl rfl ?_
  refine R_go 9999 rfl rfl trivial ?_
  refine R_br rfl rfl (fun h => absurd h q1) (fun _ => ?_)
  refine R_go 9999 rfl rfl trivial ?_
  by_cases h : k ≤ n
  · refine R_br rfl rfl (fun _ => ?_) (fun h => absurd (by (simp only [i_eq, i_lt, i_le, Int32.reduceToInt, true_and, and_true, false_and, and_false, or_false, false_or, or_true, true_or, ne_eq] at *; first | done | omega)) h)
    refine R_go 18 rfl rfl trivial ?_
    have := l_chM hn h A B k 0 (by omega)
    rw [bin_z] at this
    exact this
  · refine R_br rfl rfl (fun h => absurd h (by (simp only [i_eq, i_lt, i_le, Int32.reduceToInt, true_and, and_true, false_and, and_false, or_false, false_or, or_true, true_or, ne_eq] at *; first | done | omega))) (fun _ => ?_)
    have n0 : lg_cmp (0 : Int64) 0 ≤ 0 := by decide
    repeat' (first
        | (refine R_br rfl rfl (fun hbr => absurd hbr (by first | decide | (with_reducible assumption))) (fun _ => ?_))
        | (refine R_br rfl rfl (fun _ => ?_) (fun hbr => absurd (by first | decide | (with_reducible assumption)) hbr))
        | (refine R_br rfl rfl (fun _ => ?_) (fun _ => ?_))
        | (refine R_ri rfl rfl ?_)
        | (refine R_rz rfl rfl (Or.inl rfl) ?_)
        | (refine R_rz rfl rfl (Or.inr rfl) ?_)
        | (refine R_rz rfl rfl (b2_01 _) ?_)
        | (refine R_rl rfl rfl ?_)
        | (refine R_rv rfl rfl ?_)
        | (refine R_sw _ rfl rfl rfl ?_)
        | (refine R_go 9999 rfl rfl trivial ?_)
        | (refine R_go 9999 rfl rfl (by first | (show _ ∨ _; decide) | (show (_ ∨ _) ∧ (_ ∨ _); decide) | (show (_ ∨ _) ∧ (_ ∨ _) ∧ (_ ∨ _); decide)) ?_)
        | (refine R_go 9999 rfl rfl ?_ ?_))
    all_goals exact ret_l (by rw [bin_gt n k (by omega)]; rfl) rfl
/-- ways to deal with a GAP as great at least, among the first so many -/
def dlN (h th mk gp : Nat) : Nat → Nat
  | 0 => 0
  | t + 1 => dlN h th mk gp t + (if t ≤ mk ∧ gp ≤ gpN t h (mk - t) th then bin h t * bin th (mk - t) else 0)
theorem dl_st {h th mk gp k : Nat} (hk : mk < k) : ∀ j, dlN h th mk gp (k + j) = dlN h th mk gp k := by
  intro j
  induction j with
  | zero => rfl
  | succ j ih => rw [← Nat.add_assoc, dlN, if_neg (by omega), ih, Nat.add_zero]
theorem dl_le {h th mk gp : Nat} (h1 : h ≤ 24) (h2 : th ≤ 24) : ∀ n, dlN h th mk gp n ≤ n * 281474976710656 := by
  have hb : ∀ t, bin h t * bin th (mk - t) ≤ 281474976710656 := fun t => by
    have a := Nat.le_trans (bin_le h t) (Nat.pow_le_pow_right (show 0 < 2 by decide) h1)
    have b := Nat.le_trans (bin_le th (mk - t)) (Nat.pow_le_pow_right (show 0 < 2 by decide) h2)
    exact Nat.le_trans (Nat.mul_le_mul a b) (by decide)
  intro n
  induction n with
  | zero => exact Nat.le_refl _
  | succ n ih =>
    rw [dlN, Nat.succ_mul]
    split
    · exact Nat.add_le_add ih (hb n)
    · exact Nat.add_le_add ih (Nat.zero_le _)
theorem gpb {a b c d : Nat} (ha : a ≤ 48) (hb : b ≤ 48) (hc : c ≤ 48) (hd : d ≤ 48) : a * d ≤ 2304 ∧ c * b ≤ 2304 ∧ gpN a b c d ≤ 2304 := by
  have h1 : a * d ≤ 48 * 48 := Nat.mul_le_mul ha hd
  have h2 : c * b ≤ 48 * 48 := Nat.mul_le_mul hc hb
  unfold gpN
  omega
abbrev dlL (f v w h th mk gp up i : Nat) : List (Option AV) := [some (.inr (.inr (some (18, 0)))), some (.inl (nI f)), some (.inl (nI v)), some (.inl (nI w)), some (.inl (nI h)), some (.inl (nI th)), some (.inl (nI mk)), some (.inr (.inl (lN gp))), none, some (.inr (.inl (lN up))), none, some (.inl (nI i))]
theorem l_deals {f v w h th mk gp : Nat} (h1 : h ≤ 24) (h2 : th ≤ 24) (h3 : mk ≤ 48) (h4 : gp ≤ 2304) (A : FI) (B : FJ) : ∀ (m i : Nat), i + m = h + 1 → Rn 5 mtX1_dealsAsGreat 50 (dlL f v w h th mk gp (dlN h th mk gp i) i) [] (hp A B) (Ret (some (.inr (.inl (lN (dlN h th mk gp (h + 1)))))) (hp A B)) := by
  have th' := ti h (by omega)
  have tm := ti mk (by omega)
  intro m
  induction m with
  | zero =>
    intro i hi
    have : i = h + 1 := by omega
    subst this
    have tI := ti (h + 1) (by omega)
    refine R_go 9999 rfl rfl trivial ?_
    refine R_br rfl rfl (fun _ => ?_) (fun h => absurd (by (simp only [i_eq, i_lt, i_le, Int32.reduceToInt, true_and, and_true, false_and, and_false, or_false, false_or, or_true, true_or, ne_eq] at *; first | done | omega)) h)
    repeat' (first
        | (refine R_br rfl rfl (fun hbr => absurd hbr (by first | decide | (with_reducible assumption))) (fun _ => ?_))
        | (refine R_br rfl rfl (fun _ => ?_) (fun hbr => absurd (by first | decide | (with_reducible assumption)) hbr))
        | (refine R_br rfl rfl (fun _ => ?_) (fun _ => ?_))
        | (refine R_ri rfl rfl ?_)
        | (refine R_rz rfl rfl (Or.inl rfl) ?_)
        | (refine R_rz rfl rfl (Or.inr rfl) ?_)
        | (refine R_rz rfl rfl (b2_01 _) ?_)
        | (refine R_rl rfl rfl ?_)
        | (refine R_rv rfl rfl ?_)
        | (refine R_sw _ rfl rfl rfl ?_)
        | (refine R_go 9999 rfl rfl trivial ?_)
        | (refine R_go 9999 rfl rfl (by first | (show _ ∨ _; decide) | (show (_ ∨ _) ∧ (_ ∨ _); decide) | (show (_ ∨ _) ∧ (_ ∨ _) ∧ (_ ∨ _); decide)) ?_)
        | (refine R_go 9999 rfl rfl ?_ ?_))
    exact ret_l rfl rfl
  | succ m ih =>
    intro i hi
    have tI := ti i (by omega)
    refine R_go 9999 rfl rfl trivial ?_
    refine R_br rfl rfl (fun h => absurd h (by (simp only [i_eq, i_lt, i_le, Int32.reduceToInt, true_and, and_true, false_and, and_false, or_false, false_or, or_true, true_or, ne_eq] at *; first | done | omega))) (fun _ => ?_)
    refine R_go 9999 rfl rfl trivial ?_
    by_cases him : i ≤ mk
    · refine R_br rfl rfl (fun h => absurd h (by (simp only [i_eq, i_lt, i_le, Int32.reduceToInt, true_and, and_true, false_and, and_false, or_false, false_or, or_true, true_or, ne_eq] at *; first | done | omega))) (fun _ => ?_)
      refine R_go 9999 rfl rfl trivial ?_
      obtain ⟨g1, g2, g3⟩ := gpb (a := i) (b := h) (c := mk - i) (d := th) (by omega) (by omega) (by omega) (by omega)
      rw [nI_sub him, pk_mul, pk_mul]
      refine R_mabs rfl qm_X1_83 (Nat.le_of_ble_eq_true rfl) (Nat.le_refl _) (Nat.le_refl _) rfl ?_
      rw [abs_nI (by omega) (by omega), show (i * th - (mk - i) * h) + ((mk - i) * h - i * th) = gpN i h (mk - i) th from rfl]
      refine R_go 9999 rfl rfl trivial ?_
      rw [nI_l (by omega)]
      by_cases hge : gp ≤ gpN i h (mk - i) th
      · have n1 : ¬ lg_cmp (lN (gpN i h (mk - i) th)) (lN gp) < 0 := by
          rw [lg_cmp_lt, j_lt, lN_tn (by omega), lN_tn (by omega)]; omega
        refine R_br rfl rfl (fun h => absurd h n1) (fun _ => ?_)
        refine R_go 9999 rfl rfl trivial ?_
        refine R_csr rfl (m_chC (show h ≤ 48 by omega) (show i ≤ 100 by omega) _ _) rfl rfl rfl (Nat.le_of_ble_eq_true rfl) rfl ?_
        refine R_go 9999 rfl rfl trivial ?_
        rw [nI_sub him]
        refine R_csr rfl (m_chC (show th ≤ 48 by omega) (show mk - i ≤ 100 by omega) _ _) rfl rfl rfl (Nat.le_of_ble_eq_true rfl) rfl ?_
        refine R_go 50 rfl rfl trivial ?_
        rw [lN_mul, lN_add, nI_1]
        have := ih (i + 1) (by omega)
        rw [dlN, if_pos ⟨him, hge⟩] at this
        exact this
      · have n1 : lg_cmp (lN (gpN i h (mk - i) th)) (lN gp) < 0 := by
          rw [lg_cmp_lt, j_lt, lN_tn (by omega), lN_tn (by omega)]; omega
        refine R_br rfl rfl (fun _ => ?_) (fun h => absurd n1 h)
        refine R_go 50 rfl rfl trivial ?_
        rw [nI_1]
        have := ih (i + 1) (by omega)
        rw [dlN, if_neg (fun z => hge z.2)] at this
        exact this
    · refine R_br rfl rfl (fun _ => ?_) (fun h => absurd (by (simp only [i_eq, i_lt, i_le, Int32.reduceToInt, true_and, and_true, false_and, and_false, or_false, false_or, or_true, true_or, ne_eq] at *; first | done | omega)) h)
      repeat' (first
          | (refine R_br rfl rfl (fun hbr => absurd hbr (by first | decide | (with_reducible assumption))) (fun _ => ?_))
          | (refine R_br rfl rfl (fun _ => ?_) (fun hbr => absurd (by first | decide | (with_reducible assumption)) hbr))
          | (refine R_br rfl rfl (fun _ => ?_) (fun _ => ?_))
          | (refine R_ri rfl rfl ?_)
          | (refine R_rz rfl rfl (Or.inl rfl) ?_)
          | (refine R_rz rfl rfl (Or.inr rfl) ?_)
          | (refine R_rz rfl rfl (b2_01 _) ?_)
          | (refine R_rl rfl rfl ?_)
          | (refine R_rv rfl rfl ?_)
          | (refine R_sw _ rfl rfl rfl ?_)
          | (refine R_go 9999 rfl rfl trivial ?_)
          | (refine R_go 9999 rfl rfl (by first | (show _ ∨ _; decide) | (show (_ ∨ _) ∧ (_ ∨ _); decide) | (show (_ ∨ _) ∧ (_ ∨ _) ∧ (_ ∨ _); decide)) ?_)
          | (refine R_go 9999 rfl rfl ?_ ?_))
      have := dl_st (h := h) (th := th) (gp := gp) (show mk < i by omega) (h + 1 - i)
      rw [show i + (h + 1 - i) = h + 1 by omega] at this
      exact ret_l (by rw [this]) rfl
theorem m_deals {P : List (List Tk × Nat)} {R : List Rw} {A : FI} {B : FJ} (hP : okP P) (hR : RCR A P R) (f v w : Nat) (hf : f < 8) (hv : v ≤ 20) (hw : w ≤ 20) : MV 5 3 mtX1_dealsAsGreat [.inr (.inr (some (18, 0))), .inl (nI f), .inl (nI v), .inl (nI w)] (hp A B) (Ret (some (.inr (.inl (lN (dlN (mA P R f v) (mA P R f w) (mL P R f v + mL P R f w) (gpN (mL P R f v) (mA P R f v) (mL P R f w) (mA P R f w)) (mA P R f v + 1)))))) (hp A B)) := by
  have h24 := hR.2.1
  have b1 : mL P R f v ≤ 24 := mb24 h24 f v 1
  have b2 : mA P R f w ≤ 24 := mb24 h24 f w 0
  have b3 : mL P R f w ≤ 24 := mb24 h24 f w 1
  have b4 : mA P R f v ≤ 24 := mb24 h24 f v 0
  obtain ⟨-, -, g3⟩ := gpb (a := mL P R f v) (b := mA P R f v) (c := mL P R f w) (d := mA P R f w) (by omega) (by omega) (by omega) (by omega)
  have hm1 := m_members (B := B) hP hR f v 1 hf hv (by decide)
  have hm2 := m_members (B := B) hP hR f w 0 hf hw (by decide)
  have hm3 := m_members (B := B) hP hR f w 1 hf hw (by decide)
  have hm4 := m_members (B := B) hP hR f v 0 hf hv (by decide)
  refine MV_of caX1_dealsAsGreat (L := [some (.inr (.inr (some (18, 0)))), some (.inl (nI f)), some (.inl (nI v)), some (.inl (nI w)), none, none, none, none, none, none, none, none]) rfl rfl ?_
  refine R_go 9999 rfl rfl trivial ?_
  refine R_cvr rfl hm4 rfl rfl rfl rfl rfl (Nat.le_of_ble_eq_true rfl) rfl ?_
  refine R_go 9999 rfl rfl trivial ?_
  refine R_cvr rfl hm2 rfl rfl rfl rfl rfl (Nat.le_of_ble_eq_true rfl) rfl ?_
  refine R_go 9999 rfl rfl trivial ?_
  refine R_cvr rfl hm1 rfl rfl rfl rfl rfl (Nat.le_of_ble_eq_true rfl) rfl ?_
  refine R_go 9999 rfl rfl trivial ?_
  refine R_cvr rfl hm3 rfl rfl rfl rfl rfl (Nat.le_of_ble_eq_true rfl) rfl ?_
  refine R_go 9999 rfl rfl trivial ?_
  rw [nI_add]
  refine R_cvr rfl (m_gapAbove hP hR f v w hf hv hw) rfl rfl rfl rfl rfl (Nat.le_of_ble_eq_true rfl) rfl ?_
  refine R_go 50 rfl rfl trivial ?_
  exact l_deals (mk := mL P R f v + mL P R f w) b4 b2 (by omega) g3 A B (mA P R f v + 1) 0 (by omega)
noncomputable def odV (P : List (List Tk × Nat)) (R : List Rw) (f v w k : Nat) : Nat := ltS (dlN (mA P R f v) (mA P R f w) (mL P R f v + mL P R f w) (gpN (mL P R f v) (mA P R f v) (mL P R f w) (mA P R f w)) (mA P R f v + 1)) (bin (mA P R f v + mA P R f w) (mL P R f v + mL P R f w)) k
noncomputable def oddsA (P : List (List Tk × Nat)) (R : List Rw) (f v w k : Int32) : Int32 := if rfA P R f v w (decide (0 ≤ k.toInt ∧ k.toInt ≤ 1)) = 0 then nI (odV P R f.toNatClampNeg v.toNatClampNeg w.toNatClampNeg k.toNatClampNeg) else rfA P R f v w (decide (0 ≤ k.toInt ∧ k.toInt ≤ 1))
theorem mb_01 (P : List (List Tk × Nat)) (R : List Rw) (f v n : Nat) : mbN P R f v 1 n ≤ mbN P R f v 0 n := by
  induction n with
  | zero => exact Nat.le_refl _
  | succ n ih =>
    by_cases h : (R.getD n d0).1 f = v
    · rw [mbN_y (w := 0) ⟨h, isA_0 _⟩]
      by_cases h1 : isA P 1 (R.getD n d0)
      · rw [mbN_y ⟨h, h1⟩]; omega
      · rw [mbN_n (fun z => h1 z.2)]; omega
    · rw [mbN_n (w := 0) (fun z => h z.1), mbN_n (fun z => h z.1)]; exact ih
theorem od_ok {P : List (List Tk × Nat)} {R : List Rw} (h24 : R.length ≤ 24) (f v w : Nat) : mL P R f v ≤ 24 ∧ mA P R f v ≤ 24 ∧ mL P R f w ≤ 24 ∧ mA P R f w ≤ 24 ∧ dlN (mA P R f v) (mA P R f w) (mL P R f v + mL P R f w) (gpN (mL P R f v) (mA P R f v) (mL P R f w) (mA P R f w)) (mA P R f v + 1) < 2 ^ 62 ∧ bin (mA P R f v + mA P R f w) (mL P R f v + mL P R f w) < 2 ^ 62 ∧ 0 < bin (mA P R f v + mA P R f w) (mL P R f v + mL P R f w) := by
  have b1 : mL P R f v ≤ 24 := mb24 h24 f v 1
  have b2 : mA P R f w ≤ 24 := mb24 h24 f w 0
  have b3 : mL P R f w ≤ 24 := mb24 h24 f w 1
  have b4 : mA P R f v ≤ 24 := mb24 h24 f v 0
  have c1 : mL P R f v ≤ mA P R f v := mb_01 P R f v _
  have c2 : mL P R f w ≤ mA P R f w := mb_01 P R f w _
  have d1 := dl_le (mk := mL P R f v + mL P R f w) (gp := gpN (mL P R f v) (mA P R f v) (mL P R f w) (mA P R f w)) b4 b2 (mA P R f v + 1)
  have d2 := bin48 (n := mA P R f v + mA P R f w) (k := mL P R f v + mL P R f w) (by omega)
  have d3 := bin_pos (mA P R f v + mA P R f w) (mL P R f v + mL P R f w) (by omega)
  have d4 : (mA P R f v + 1) * 281474976710656 ≤ 25 * 281474976710656 := Nat.mul_le_mul_right _ (by omega)
  exact ⟨b1, b4, b3, b2, by omega, by omega, d3⟩
theorem m_oddsC {P : List (List Tk × Nat)} {R : List Rw} {A : FI} {B : FJ} (hP : okG P) (hS : RS 6 A P []) (hR : RCR A P R) (f v w k : Int32) : MV 6 4 mtX11_odds [.inr (.inr (some (0, 0))), .inl f, .inl v, .inl w, .inl k] (hp A B) (Ret (some (.inl (oddsA P R f v w k))) (hp A B)) := by
  have h24 := hR.2.1
  have hrf := m_refusal (B := B) hP hS hR f v w k 1 (by decide)
  refine MV_of caX11_odds (L := [some (.inr (.inr (some (0, 0)))), some (.inl f), some (.inl v), some (.inl w), some (.inl k), none, none, none]) rfl rfl ?_
  unfold oddsA
  have hc := rfA_c P R f v w (decide (0 ≤ k.toInt ∧ k.toInt ≤ 1))
  have hd : decide (0 ≤ k.toInt ∧ k.toInt ≤ ((1 : Nat) : Int)) = decide (0 ≤ k.toInt ∧ k.toInt ≤ 1) := rfl
  rw [hd] at hrf
  rcases hc with h | h | h | ⟨h, hgd, hPe, a, b, c, ha, hb, hcc, hne, rfl, rfl, rfl, h1, h2⟩
  · rw [h] at hrf ⊢
    rw [if_neg (by decide)]
    repeat' (first
        | (refine R_br rfl rfl (fun hbr => absurd hbr (by first | decide | (with_reducible assumption))) (fun _ => ?_))
        | (refine R_br rfl rfl (fun _ => ?_) (fun hbr => absurd (by first | decide | (with_reducible assumption)) hbr))
        | (refine R_br rfl rfl (fun _ => ?_) (fun _ => ?_))
        | (refine R_ri rfl rfl ?_)
        | (refine R_rz rfl rfl (Or.inl rfl) ?_)
        | (refine R_rz rfl rfl (Or.inr rfl) ?_)
        | (refine R_rz rfl rfl (b2_01 _) ?_)
        | (refine R_rl rfl rfl ?_)
        | (refine R_rv rfl rfl ?_)
        | (refine R_cvr rfl (hrf) rfl rfl rfl rfl rfl (Nat.le_of_ble_eq_true rfl) rfl ?_)
        | (refine R_sw _ rfl rfl rfl ?_)
        | (refine R_go 9999 rfl rfl trivial ?_)
        | (refine R_go 9999 rfl rfl (by first | (show _ ∨ _; decide) | (show (_ ∨ _) ∧ (_ ∨ _); decide) | (show (_ ∨ _) ∧ (_ ∨ _) ∧ (_ ∨ _); decide)) ?_)
        | (refine R_go 9999 rfl rfl ?_ ?_))
    exact ret_i rfl rfl
  · rw [h] at hrf ⊢
    rw [if_neg (by decide)]
    repeat' (first
        | (refine R_br rfl rfl (fun hbr => absurd hbr (by first | decide | (with_reducible assumption))) (fun _ => ?_))
        | (refine R_br rfl rfl (fun _ => ?_) (fun hbr => absurd (by first | decide | (with_reducible assumption)) hbr))
        | (refine R_br rfl rfl (fun _ => ?_) (fun _ => ?_))
        | (refine R_ri rfl rfl ?_)
        | (refine R_rz rfl rfl (Or.inl rfl) ?_)
        | (refine R_rz rfl rfl (Or.inr rfl) ?_)
        | (refine R_rz rfl rfl (b2_01 _) ?_)
        | (refine R_rl rfl rfl ?_)
        | (refine R_rv rfl rfl ?_)
        | (refine R_cvr rfl (hrf) rfl rfl rfl rfl rfl (Nat.le_of_ble_eq_true rfl) rfl ?_)
        | (refine R_sw _ rfl rfl rfl ?_)
        | (refine R_go 9999 rfl rfl trivial ?_)
        | (refine R_go 9999 rfl rfl (by first | (show _ ∨ _; decide) | (show (_ ∨ _) ∧ (_ ∨ _); decide) | (show (_ ∨ _) ∧ (_ ∨ _) ∧ (_ ∨ _); decide)) ?_)
        | (refine R_go 9999 rfl rfl ?_ ?_))
    exact ret_i rfl rfl
  · rw [h] at hrf ⊢
    rw [if_neg (by decide)]
    repeat' (first
        | (refine R_br rfl rfl (fun hbr => absurd hbr (by first | decide | (with_reducible assumption))) (fun _ => ?_))
        | (refine R_br rfl rfl (fun _ => ?_) (fun hbr => absurd (by first | decide | (with_reducible assumption)) hbr))
        | (refine R_br rfl rfl (fun _ => ?_) (fun _ => ?_))
        | (refine R_ri rfl rfl ?_)
        | (refine R_rz rfl rfl (Or.inl rfl) ?_)
        | (refine R_rz rfl rfl (Or.inr rfl) ?_)
        | (refine R_rz rfl rfl (b2_01 _) ?_)
        | (refine R_rl rfl rfl ?_)
        | (refine R_rv rfl rfl ?_)
        | (refine R_cvr rfl (hrf) rfl rfl rfl rfl rfl (Nat.le_of_ble_eq_true rfl) rfl ?_)
        | (refine R_sw _ rfl rfl rfl ?_)
        | (refine R_go 9999 rfl rfl trivial ?_)
        | (refine R_go 9999 rfl rfl (by first | (show _ ∨ _; decide) | (show (_ ∨ _) ∧ (_ ∨ _); decide) | (show (_ ∨ _) ∧ (_ ∨ _) ∧ (_ ∨ _); decide)) ?_)
        | (refine R_go 9999 rfl rfl ?_ ?_))
    exact ret_i rfl rfl
  · rw [h] at hrf ⊢
    rw [if_pos rfl]
    have hkk := of_decide_eq_true hgd
    obtain ⟨j, hj, rfl⟩ := vp_in_of (x := k) (n := 2) (vp_of hkk.1 (by omega)) (by decide)
    rw [nI_clamp (show a < 2 ^ 31 by omega), nI_clamp (show b < 2 ^ 31 by omega), nI_clamp (show c < 2 ^ 31 by omega), nI_clamp (show j < 2 ^ 31 by omega)]
    have hok := okG_ne hP hPe
    obtain ⟨o1, o2, o3, o4, o5, o6, o7⟩ := od_ok (P := P) h24 a b c
    have hm1 := m_members (B := B) hok hR a b 1 ha hb (by decide)
    have hm2 := m_members (B := B) hok hR a c 1 ha hcc (by decide)
    have hm3 := m_members (B := B) hok hR a b 0 ha hb (by decide)
    have hm4 := m_members (B := B) hok hR a c 0 ha hcc (by decide)
    refine R_go 9999 rfl rfl trivial ?_
    refine R_cvr rfl hrf rfl rfl rfl rfl rfl (Nat.le_of_ble_eq_true rfl) rfl ?_
    refine R_go 9999 rfl rfl trivial ?_
    refine R_br rfl rfl (fun _ => ?_) (fun h => absurd rfl h)
    refine R_go 9999 rfl rfl trivial ?_
    refine R_cvr rfl hm1 rfl rfl rfl rfl rfl (Nat.le_of_ble_eq_true rfl) rfl ?_
    refine R_go 9999 rfl rfl trivial ?_
    refine R_cvr rfl hm2 rfl rfl rfl rfl rfl (Nat.le_of_ble_eq_true rfl) rfl ?_
    refine R_go 9999 rfl rfl trivial ?_
    refine R_cvr rfl hm3 rfl rfl rfl rfl rfl (Nat.le_of_ble_eq_true rfl) rfl ?_
    refine R_go 9999 rfl rfl trivial ?_
    refine R_cvr rfl hm4 rfl rfl rfl rfl rfl (Nat.le_of_ble_eq_true rfl) rfl ?_
    refine R_go 9999 rfl rfl trivial ?_
    refine R_cvr rfl (m_deals hok hR a b c ha hb hcc) rfl rfl rfl rfl rfl (Nat.le_of_ble_eq_true rfl) rfl ?_
    refine R_go 9999 rfl rfl trivial ?_
    rw [nI_add, nI_add]
    refine R_csr rfl (m_chC (show mA P R a b + mA P R a c ≤ 48 by omega) (show mL P R a b + mL P R a c ≤ 100 by omega) _ _) rfl rfl rfl (Nat.le_of_ble_eq_true rfl) rfl ?_
    refine R_go 9999 rfl rfl trivial ?_
    refine R_csr rfl (m_lowest o5 o6 o7 (by omega) _ _) rfl rfl rfl (Nat.le_of_ble_eq_true rfl) rfl ?_
    exact R_ri rfl rfl ⟨rfl, rfl⟩
