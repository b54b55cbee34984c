/-- letters(w): the answer, THE PAGE behind it -/
def lettS (p : List Nat) (n : Nat) : Int32 × List Nat := match cs8 n 8 with
  | none => (-102, p)
  | some m => if 80 < p.length + m then (-104, p) else (nI (p.length + m), p ++ bts n m)
theorem m_clearC {A : FI} {B : FJ} : MV 0 0 mtX5_clear [.inr (.inr (some (8, 0)))] (hp A B) (Ret none (hp (up3 A 8 0 1 0) B)) := by
  refine MV_of caX5_clear (L := [some (.inr (.inr (some (8, 0))))]) rfl rfl ?_
  repeat' (first
      | (refine R_br rfl rfl (fun h => absurd h (by first | decide | (with_reducible assumption))) (fun _ => ?_))
      | (refine R_br rfl rfl (fun _ => ?_) (fun h => absurd (by first | decide | (with_reducible assumption)) h))
      | (refine R_br rfl rfl (fun _ => ?_) (fun _ => ?_))
      | (refine R_ri rfl rfl ?_)
      | (refine R_rz rfl rfl (Or.inl rfl) ?_)
      | (refine R_rz rfl rfl (Or.inr rfl) ?_)
      | (refine R_rz rfl rfl (b2_01 _) ?_)
      | (refine R_rl rfl rfl ?_)
      | (refine R_rv rfl rfl ?_)
      | (refine R_sw _ rfl rfl rfl ?_)
      | (refine R_go 9999 rfl rfl trivial ?_)
      | (refine R_go 9999 rfl rfl ?_ ?_))
  exact ret_v rfl
theorem RCP_nil {A : FI} : RCP (up3 A 8 0 1 0) [] := ⟨by rw [up3_self]; rfl, by simp, fun k hk => by simp at hk⟩
theorem m_blankC {A : FI} {B : FJ} {p : List Nat} (hR : RCP A p) : MV 1 0 mtX11_blank [.inr (.inr (some (0, 0)))] (hp A B) (fun r h' => ∃ A', h' = hp A' B ∧ r = some (.inl (nI p.length)) ∧ RCP A' [] ∧ Fm [8, 9] A A') := by
  refine MV_of caX11_blank (L := [some (.inr (.inr (some (0, 0)))), none]) rfl rfl ?_
  repeat' (first
      | (refine R_br rfl rfl (fun h => absurd h (by first | decide | (with_reducible assumption))) (fun _ => ?_))
      | (refine R_br rfl rfl (fun _ => ?_) (fun h => absurd (by first | decide | (with_reducible assumption)) h))
      | (refine R_br rfl rfl (fun _ => ?_) (fun _ => ?_))
      | (refine R_ri rfl rfl ?_)
      | (refine R_rz rfl rfl (Or.inl rfl) ?_)
      | (refine R_rz rfl rfl (Or.inr rfl) ?_)
      | (refine R_rz rfl rfl (b2_01 _) ?_)
      | (refine R_rl rfl rfl ?_)
      | (refine R_rv rfl rfl ?_)
      | (refine R_cvr rfl (m_sizeC hR) rfl rfl rfl rfl rfl (Nat.le_of_ble_eq_true rfl) rfl ?_)
      | (refine R_cvv rfl (m_clearC) rfl rfl rfl rfl rfl (Nat.le_of_ble_eq_true rfl) rfl ?_)
      | (refine R_sw _ rfl rfl rfl ?_)
      | (refine R_go 9999 rfl rfl trivial ?_)
      | (refine R_go 9999 rfl rfl ?_ ?_))
  exact ⟨_, rfl, rfl, RCP_nil, Fm_up (by simp)⟩
theorem m_blankM {A : FI} {B : FJ} {p : List Nat} (hR : RMP A p) : MV 0 0 mtX12_blank [.inr (.inr (some (31, 0)))] (hp A B) (fun r h' => r = some (.inl (nI p.length)) ∧ h' = hp (up3 A 31 0 5 0) B) := by
  refine MV_of caX12_blank (L := [some (.inr (.inr (some (31, 0)))), none]) rfl rfl ?_
  repeat' (first
      | (refine R_br rfl rfl (fun h => absurd h (by first | decide | (with_reducible assumption))) (fun _ => ?_))
      | (refine R_br rfl rfl (fun _ => ?_) (fun h => absurd (by first | decide | (with_reducible assumption)) h))
      | (refine R_br rfl rfl (fun _ => ?_) (fun _ => ?_))
      | (refine R_ri rfl rfl ?_)
      | (refine R_rz rfl rfl (Or.inl rfl) ?_)
      | (refine R_rz rfl rfl (Or.inr rfl) ?_)
      | (refine R_rz rfl rfl (b2_01 _) ?_)
      | (refine R_rl rfl rfl ?_)
      | (refine R_rv rfl rfl ?_)
      | (refine R_sw _ rfl rfl rfl ?_)
      | (refine R_go 9999 rfl rfl trivial ?_)
      | (refine R_go 9999 rfl rfl ?_ ?_))
  exact ⟨by rw [hR.1], rfl⟩
theorem m_lettersC {A : FI} {B : FJ} {p : List Nat} (hR : RCP A p) (n : Nat) (hn : n < 2 ^ 64) : MV 2 1 mtX11_letters [.inr (.inr (some (0, 0))), .inr (.inl (lN n))] (hp A B) (fun r h' => ∃ A', h' = hp A' B ∧ r = some (.inl (lettS p n).1) ∧ RCP A' (lettS p n).2 ∧ Fm [8, 9] A A') := by
  refine MV_of caX11_letters (L := [some (.inr (.inr (some (0, 0)))), some (.inr (.inl (lN n))), none, none]) rfl rfl ?_
  have hl := hR.2.1
  have h1 := m_lettersIn n hn A B
  unfold lettS
  cases hc : cs8 n 8 with
  | none =>
    rw [hc] at h1
    repeat' (first
        | (refine R_br rfl rfl (fun h => absurd h (by first | decide | (with_reducible assumption))) (fun _ => ?_))
        | (refine R_br rfl rfl (fun _ => ?_) (fun h => absurd (by first | decide | (with_reducible assumption)) h))
        | (refine R_br rfl rfl (fun _ => ?_) (fun _ => ?_))
        | (refine R_ri rfl rfl ?_)
        | (refine R_rz rfl rfl (Or.inl rfl) ?_)
        | (refine R_rz rfl rfl (Or.inr rfl) ?_)
        | (refine R_rz rfl rfl (b2_01 _) ?_)
        | (refine R_rl rfl rfl ?_)
        | (refine R_rv rfl rfl ?_)
        | (refine R_csr rfl (h1) rfl rfl rfl (Nat.le_of_ble_eq_true rfl) rfl ?_)
        | (refine R_sw _ rfl rfl rfl ?_)
        | (refine R_go 9999 rfl rfl trivial ?_)
        | (refine R_go 9999 rfl rfl ?_ ?_))
    exact ⟨A, rfl, rfl, hR, Fm_rf⟩
  | some m =>
    rw [hc] at h1
    have h1 : MS 1 1 mtX5_lettersIn [.inr (.inl (lN n))] (hp A B) (Ret (some (.inl (nI m))) (hp A B)) := h1
    have hm := cs8_le hc
    have t0 := ti m (by omega)
    have t1 := ti (p.length + m) (by omega)
    have e : nI p.length + nI m = nI (p.length + m) := nI_add _ _
    refine R_go 9999 rfl rfl trivial ?_
    refine R_csr rfl h1 rfl rfl rfl (Nat.le_of_ble_eq_true rfl) rfl ?_
    refine R_go 9999 rfl rfl trivial ?_
    refine R_br rfl rfl (fun _ => ?_) (fun h => absurd (show (0 : Int32) ≤ nI m by (simp only [i_eq, i_lt, i_le, Int32.reduceToInt, true_and, and_true, false_and, and_false, or_false, false_or, or_true, true_or, ne_eq] at * <;> omega)) h)
    by_cases h80 : 80 < p.length + m
    ·
      repeat' (first
          | (refine R_br rfl rfl (fun h => absurd h (by first | decide | (with_reducible assumption))) (fun _ => ?_))
          | (refine R_br rfl rfl (fun _ => ?_) (fun h => absurd (by first | decide | (with_reducible assumption)) h))
          | (refine R_br rfl rfl (fun _ => ?_) (fun _ => ?_))
          | (refine R_ri rfl rfl ?_)
          | (refine R_rz rfl rfl (Or.inl rfl) ?_)
          | (refine R_rz rfl rfl (Or.inr rfl) ?_)
          | (refine R_rz rfl rfl (b2_01 _) ?_)
          | (refine R_rl rfl rfl ?_)
          | (refine R_rv rfl rfl ?_)
          | (refine R_cvr rfl (m_sizeC hR) rfl rfl rfl rfl rfl (Nat.le_of_ble_eq_true rfl) rfl ?_)
          | (refine R_sw _ rfl rfl rfl ?_)
          | (refine R_go 9999 rfl rfl trivial ?_)
          | (refine R_go 9999 rfl rfl ?_ ?_))
      · exfalso; rename_i h; rw [e] at h; (simp only [i_eq, i_lt, i_le, Int32.reduceToInt, true_and, and_true, false_and, and_false, or_false, false_or, or_true, true_or, ne_eq] at * <;> omega)
      · dsimp only
        rw [if_pos h80]
        exact ⟨A, rfl, rfl, hR, Fm_rf⟩
    ·
      repeat' (first
          | (refine R_br rfl rfl (fun h => absurd h (by first | decide | (with_reducible assumption))) (fun _ => ?_))
          | (refine R_br rfl rfl (fun _ => ?_) (fun h => absurd (by first | decide | (with_reducible assumption)) h))
          | (refine R_br rfl rfl (fun _ => ?_) (fun _ => ?_))
          | (refine R_ri rfl rfl ?_)
          | (refine R_rz rfl rfl (Or.inl rfl) ?_)
          | (refine R_rz rfl rfl (Or.inr rfl) ?_)
          | (refine R_rz rfl rfl (b2_01 _) ?_)
          | (refine R_rl rfl rfl ?_)
          | (refine R_rv rfl rfl ?_)
          | (refine R_cvr rfl (m_sizeC hR) rfl rfl rfl rfl rfl (Nat.le_of_ble_eq_true rfl) rfl ?_)
          | (refine R_cv rfl (m_append n m hn hm B p (by omega) A hR) rfl rfl rfl rfl rfl (Nat.le_of_ble_eq_true rfl) rfl ?_)
          | (refine R_sw _ rfl rfl rfl ?_)
          | (refine R_go 9999 rfl rfl trivial ?_)
          | (refine R_go 9999 rfl rfl ?_ ?_))
      · rintro r h' ⟨A', rfl, rfl, hA', hF⟩
        repeat' (first
            | (refine R_br rfl rfl (fun h => absurd h (by first | decide | (with_reducible assumption))) (fun _ => ?_))
            | (refine R_br rfl rfl (fun _ => ?_) (fun h => absurd (by first | decide | (with_reducible assumption)) h))
            | (refine R_br rfl rfl (fun _ => ?_) (fun _ => ?_))
            | (refine R_ri rfl rfl ?_)
            | (refine R_rz rfl rfl (Or.inl rfl) ?_)
            | (refine R_rz rfl rfl (Or.inr rfl) ?_)
            | (refine R_rz rfl rfl (b2_01 _) ?_)
            | (refine R_rl rfl rfl ?_)
            | (refine R_rv rfl rfl ?_)
            | (refine R_cvr rfl (m_sizeC hA') rfl rfl rfl rfl rfl (Nat.le_of_ble_eq_true rfl) rfl ?_)
            | (refine R_sw _ rfl rfl rfl ?_)
            | (refine R_go 9999 rfl rfl trivial ?_)
            | (refine R_go 9999 rfl rfl ?_ ?_))
        dsimp only
        rw [if_neg h80]
        exact ⟨A', rfl, by simp [bts_len], hA', hF⟩
      · exfalso; rename_i h; rw [e] at h; (simp only [i_eq, i_lt, i_le, Int32.reduceToInt, true_and, and_true, false_and, and_false, or_false, false_or, or_true, true_or, ne_eq] at * <;> omega)
theorem R_nrm {d : Nat} {mt : MI} {pc : Nat} {L L' : List (Option AV)} {S : List AV} {h : AH} {Q : Option AV → AH → Prop} (hL : frc L = some L') (k : Rn d mt pc L' S h Q) : Rn d mt pc L S h Q := by
  have := frc_eq hL
  subst this
  exact k
def GR8 (n k m : Nat) (g : Int32) : Prop := (cs8 n k = none ∧ g = 0) ∨ (cs8 n k = some m ∧ g = 1)
theorem GR_ok {n k m : Nat} (h : cs8 n k = some m) (h1 : bt8 n k ≤ 126) (h2 : bt8 n k = 0 ∨ m = k) : cs8 n (k + 1) = some (m + (if bt8 n k ≠ 0 then 1 else 0)) := by
  rw [cs8, h]
  show (if 126 < bt8 n k then none else if m < k ∧ bt8 n k ≠ 0 then none else some (m + (if bt8 n k ≠ 0 then 1 else 0))) = _
  rw [if_neg (by omega), if_neg (by omega)]
theorem GR_bad {n k m : Nat} (hm : m ≤ k) (h : cs8 n k = none ∨ (cs8 n k = some m ∧ (126 < bt8 n k ∨ (bt8 n k ≠ 0 ∧ m ≠ k)))) : cs8 n (k + 1) = none := by
  rcases h with h | ⟨h, h2⟩
  · rw [cs8, h]
  · rw [cs8, h]
    show (if 126 < bt8 n k then none else if m < k ∧ bt8 n k ≠ 0 then none else some (m + (if bt8 n k ≠ 0 then 1 else 0))) = _
    by_cases h3 : 126 < bt8 n k
    · rw [if_pos h3]
    · rw [if_neg h3, if_pos (by omega)]
theorem l_lettersM1 (n : Nat) (hn : n < 2 ^ 64) (w : Int64) (A : FI) (B : FJ) (Q : Option AV → AH → Prop) (kk : ∀ (m : Nat) (g : Int32) (z : Int64) (o : Option AV), m ≤ 8 → GR8 n 8 m g → Rn 0 mtX12_letters 83 [some (.inr (.inr (some (31, 0)))), some (.inr (.inl w)), none, some (.inl (nI m)), some (.inl g), some (.inr (.inl z)), none, some (.inl 8), o] [] (hp A B) Q) : ∀ j k m (g : Int32) (o : Option AV), k + j = 8 → m ≤ k → GR8 n k m g → Rn 0 mtX12_letters 11 [some (.inr (.inr (some (31, 0)))), some (.inr (.inl w)), none, some (.inl (nI m)), some (.inl g), some (.inr (.inl (lN (n / 2 ^ (8 * k))))), none, some (.inl (nI k)), o] [] (hp A B) Q := by
  intro j
  induction j with
  | zero =>
    intro k m g o hk hm hc
    have : k = 8 := by omega
    subst this
    refine R_go 9999 rfl rfl trivial ?_
    refine R_br rfl rfl (fun _ => ?_) (fun h => absurd (by decide) h)
    exact kk m g _ o hm hc
  | succ j ih =>
    intro k m g o hk hm hc
    have hk8 : k < 8 := by omega
    have t0 := ti k (by omega)
    have t1 := ti m (by omega)
    have hb := bt8_lt n k
    have tb := ti (bt8 n k) (by omega)
    have hdl : n / 2 ^ (8 * k) < 2 ^ 64 := Nat.lt_of_le_of_lt (Nat.div_le_self _ _) hn
    have e1 : (lN (n / 2 ^ (8 * k)) &&& 255).toInt32 = nI (bt8 n k) := ms8 hdl
    have e2 : ((lN (n / 2 ^ (8 * k))).toUInt64 >>> ((8 : Int32).toInt64.toUInt64 &&& Int64.toUInt64 63)).toInt64 = lN (n / 2 ^ (8 * (k + 1))) := by
      rw [show (8 : Int32) = nI 8 from rfl, wb_shr hdl (by decide), Nat.div_div_eq_div_mul, ← Nat.pow_add]
      rfl
    have e3 : nI m + 0 = nI m := nI_add m 0
    have z0 : ∀ o, bt8 n k = 0 → GR8 n (k + 1) m o → Rn 0 mtX12_letters 11 [some (.inr (.inr (some (31, 0)))), some (.inr (.inl w)), none, some (.inl (nI m)), some (.inl o), some (.inr (.inl (lN (n / 2 ^ (8 * (k + 1)))))), none, some (.inl (nI (k + 1))), some (.inl (nI (bt8 n k)))] [] (hp A B) Q := fun o _ h => ih (k + 1) m o _ (by omega) (by omega) h
    have z1 : ∀ o, GR8 n (k + 1) (m + 1) o → Rn 0 mtX12_letters 11 [some (.inr (.inr (some (31, 0)))), some (.inr (.inl w)), none, some (.inl (nI (m + 1))), some (.inl o), some (.inr (.inl (lN (n / 2 ^ (8 * (k + 1)))))), none, some (.inl (nI (k + 1))), some (.inl (nI (bt8 n k)))] [] (hp A B) Q := fun o h => ih (k + 1) (m + 1) o _ (by omega) (by omega) h
    clear ih
    refine R_go 9999 rfl rfl trivial ?_
    refine R_br rfl rfl (fun h => absurd h (by (simp only [i_eq, i_lt, i_le, Int32.reduceToInt, true_and, and_true, false_and, and_false, or_false, false_or, or_true, true_or, ne_eq] at * <;> omega))) (fun _ => ?_)
    rcases hc with ⟨hc, rfl⟩ | ⟨hc, rfl⟩
    ·
      repeat' (first
          | (refine R_stop 11 rfl rfl ?_)
          | (refine R_br rfl rfl (fun h => absurd h (by first | decide | (with_reducible assumption))) (fun _ => ?_))
          | (refine R_br rfl rfl (fun _ => ?_) (fun h => absurd (by first | decide | (with_reducible assumption)) h))
          | (refine R_br rfl rfl (fun _ => ?_) (fun _ => ?_))
          | (refine R_ri rfl rfl ?_)
          | (refine R_rz rfl rfl (Or.inl rfl) ?_)
          | (refine R_rz rfl rfl (Or.inr rfl) ?_)
          | (refine R_rz rfl rfl (b2_01 _) ?_)
          | (refine R_rl rfl rfl ?_)
          | (refine R_rv rfl rfl ?_)
          | (refine R_sw _ rfl rfl rfl ?_)
          | (refine R_go 11 rfl rfl trivial ?_)
          | (refine R_go 11 rfl rfl ?_ ?_))
      all_goals (rw [e1, e2, nI_1]; refine ⟨?_, trivial⟩)
      · rename_i h; rw [e1] at h
        rw [e3]; exact z0 0 (by (simp only [i_eq, i_lt, i_le, Int32.reduceToInt, true_and, and_true, false_and, and_false, or_false, false_or, or_true, true_or, ne_eq] at * <;> omega)) (Or.inl ⟨GR_bad hm (Or.inl hc), rfl⟩)
      · rw [nI_1]; exact z1 0 (Or.inl ⟨GR_bad hm (Or.inl hc), rfl⟩)
    ·
      repeat' (first
          | (refine R_stop 11 rfl rfl ?_)
          | (refine R_br rfl rfl (fun h => absurd h (by first | decide | (with_reducible assumption))) (fun _ => ?_))
          | (refine R_br rfl rfl (fun _ => ?_) (fun h => absurd (by first | decide | (with_reducible assumption)) h))
          | (refine R_br rfl rfl (fun _ => ?_) (fun _ => ?_))
          | (refine R_ri rfl rfl ?_)
          | (refine R_rz rfl rfl (Or.inl rfl) ?_)
          | (refine R_rz rfl rfl (Or.inr rfl) ?_)
          | (refine R_rz rfl rfl (b2_01 _) ?_)
          | (refine R_rl rfl rfl ?_)
          | (refine R_rv rfl rfl ?_)
          | (refine R_sw _ rfl rfl rfl ?_)
          | (refine R_go 11 rfl rfl trivial ?_)
          | (refine R_go 11 rfl rfl ?_ ?_))
      all_goals (simp only [e1] at *; clear e1)
      all_goals (refine ⟨?_, trivial⟩; rw [e2])
      all_goals first
        | (exfalso; (simp only [i_eq, i_lt, i_le, Int32.reduceToInt, true_and, and_true, false_and, and_false, or_false, false_or, or_true, true_or, ne_eq] at * <;> omega))
        | (rw [nI_1, nI_1]; exact z1 0 (Or.inl ⟨GR_bad hm (Or.inr ⟨hc, by (simp only [i_eq, i_lt, i_le, Int32.reduceToInt, true_and, and_true, false_and, and_false, or_false, false_or, or_true, true_or, ne_eq] at * <;> omega)⟩), rfl⟩))
        | (rw [nI_1, nI_1]; exact z1 1 (Or.inr ⟨by have hg := GR_ok hc (by (simp only [i_eq, i_lt, i_le, Int32.reduceToInt, true_and, and_true, false_and, and_false, or_false, false_or, or_true, true_or, ne_eq] at * <;> omega)) (by (simp only [i_eq, i_lt, i_le, Int32.reduceToInt, true_and, and_true, false_and, and_false, or_false, false_or, or_true, true_or, ne_eq] at * <;> omega)); rwa [if_pos (by (simp only [i_eq, i_lt, i_le, Int32.reduceToInt, true_and, and_true, false_and, and_false, or_false, false_or, or_true, true_or, ne_eq] at * <;> omega))] at hg, rfl⟩))
        | (rw [e3, nI_1]; exact z0 1 (by (simp only [i_eq, i_lt, i_le, Int32.reduceToInt, true_and, and_true, false_and, and_false, or_false, false_or, or_true, true_or, ne_eq] at * <;> omega)) (Or.inr ⟨by have hg := GR_ok hc (by (simp only [i_eq, i_lt, i_le, Int32.reduceToInt, true_and, and_true, false_and, and_false, or_false, false_or, or_true, true_or, ne_eq] at * <;> omega)) (by (simp only [i_eq, i_lt, i_le, Int32.reduceToInt, true_and, and_true, false_and, and_false, or_false, false_or, or_true, true_or, ne_eq] at * <;> omega)); rwa [if_neg (by (simp only [i_eq, i_lt, i_le, Int32.reduceToInt, true_and, and_true, false_and, and_false, or_false, false_or, or_true, true_or, ne_eq] at * <;> omega))] at hg, rfl⟩))
theorem RMP_push {A : FI} {p : List Nat} (h : RMP A p) (hl : p.length < 80) (x : Nat) : RMP (up3 (up3 A 36 0 p.length (nI x)) 31 0 5 (nI (p.length + 1))) (p ++ [x]) := by
  refine ⟨?_, by simp; omega, fun k hk => ?_⟩
  · rw [up3_self]; simp
  · rw [up3_g (by decide)]
    by_cases hkp : k = p.length
    · subst hkp
      rw [up3_self]; simp
    · have hk2 : k < p.length := by simp at hk; omega
      rw [up3_s hkp, h.2.2 k hk2]
      simp [List.getD_eq_getElem?_getD, List.getElem?_append_left hk2]
/-- of the reference's own object nothing but these fields changed, of other groups nothing but these -/
def FmM (gs ss : List Nat) (A A' : FI) : Prop := (∀ g, g ≠ 31 → g ∉ gs → A' g = A g) ∧ ∀ s, s ∉ ss → A' 31 0 s = A 31 0 s
theorem FmM_rf {gs ss : List Nat} {A : FI} : FmM gs ss A A := ⟨fun _ _ _ => rfl, fun _ _ => rfl⟩
theorem FmM_tr {gs ss : List Nat} {A A1 A2 : FI} (a : FmM gs ss A A1) (b : FmM gs ss A1 A2) : FmM gs ss A A2 := ⟨fun g h1 h2 => (b.1 g h1 h2).trans (a.1 g h1 h2), fun s h => (b.2 s h).trans (a.2 s h)⟩
theorem FmM_g {gs ss : List Nat} {A : FI} {g i s : Nat} {x : Int32} (h : g ∈ gs) (h31 : g ≠ 31) : FmM gs ss A (up3 A g i s x) := ⟨fun g' _ hg => up3_g (fun e => hg (e ▸ h)), fun s' _ => by rw [up3_g (fun e => h31 e.symm)]⟩
theorem FmM_s {gs ss : List Nat} {A : FI} {s : Nat} {x : Int32} (h : s ∈ ss) : FmM gs ss A (up3 A 31 0 s x) := ⟨fun g' h1 _ => up3_g h1, fun s' hs => up3_s (fun e => hs (e ▸ h))⟩
theorem l_lettersM2 (n m : Nat) (hn : n < 2 ^ 64) (hm : m ≤ 8) (B : FJ) (p : List Nat) (hpl : p.length + m ≤ 80) : ∀ j k (A : FI), k + j = m → RMP A (p ++ bts n k) → Rn 0 mtX12_letters 108 [some (.inr (.inr (some (31, 0)))), some (.inr (.inl (lN n))), none, some (.inl (nI m)), none, none, none, some (.inl (nI k)), none] [] (hp A B) (fun r h' => ∃ A', h' = hp A' B ∧ r = some (.inl (nI (p.length + m))) ∧ RMP A' (p ++ bts n m) ∧ FmM [36] [5] A A') := by
  intro j
  induction j with
  | zero =>
    intro k A hk hR
    have : k = m := by omega
    subst this
    have hs := hR.1
    have hlen : (p ++ bts n k).length = p.length + k := by simp [bts_len]
    rw [hlen] at hs
    refine R_go 9999 rfl rfl trivial ?_
    refine R_br rfl rfl (fun _ => ?_) (fun h => absurd (Int32.le_refl _) h)
    repeat' (first
        | (refine R_br rfl rfl (fun h => absurd h (by first | decide | (with_reducible assumption))) (fun _ => ?_))
        | (refine R_br rfl rfl (fun _ => ?_) (fun h => absurd (by first | decide | (with_reducible assumption)) h))
        | (refine R_br rfl rfl (fun _ => ?_) (fun _ => ?_))
        | (refine R_ri rfl rfl ?_)
        | (refine R_rz rfl rfl (Or.inl rfl) ?_)
        | (refine R_rz rfl rfl (Or.inr rfl) ?_)
        | (refine R_rz rfl rfl (b2_01 _) ?_)
        | (refine R_rl rfl rfl ?_)
        | (refine R_rv rfl rfl ?_)
        | (refine R_sw _ rfl rfl rfl ?_)
        | (refine R_go 9999 rfl rfl trivial ?_)
        | (refine R_go 9999 rfl rfl ?_ ?_))
    exact ⟨A, rfl, by rw [hs], hR, FmM_rf⟩
  | succ j ih =>
    intro k A hk hR
    have hlen : (p ++ bts n k).length = p.length + k := by simp [bts_len]
    have t0 := ti k (by omega)
    have t1 := ti m (by omega)
    have hs := hR.1
    rw [hlen] at hs
    have hs2 : ∀ x, up3 A 36 0 (p.length + k) x 31 0 5 = nI (p.length + k) := fun x => by rw [up3_g (by decide)]; exact hs
    refine R_go 9999 rfl rfl trivial ?_
    refine R_br rfl rfl (fun h => absurd h (by (simp only [i_eq, i_lt, i_le, Int32.reduceToInt, true_and, and_true, false_and, and_false, or_false, false_or, or_true, true_or, ne_eq] at * <;> omega))) (fun _ => ?_)
    repeat' (first
        | (refine R_stop 108 rfl rfl ?_)
        | (refine R_br rfl rfl (fun h => absurd h (by first | decide | (with_reducible assumption))) (fun _ => ?_))
        | (refine R_br rfl rfl (fun _ => ?_) (fun h => absurd (by first | decide | (with_reducible assumption)) h))
        | (refine R_br rfl rfl (fun _ => ?_) (fun _ => ?_))
        | (refine R_ri rfl rfl ?_)
        | (refine R_rz rfl rfl (Or.inl rfl) ?_)
        | (refine R_rz rfl rfl (Or.inr rfl) ?_)
        | (refine R_rz rfl rfl (b2_01 _) ?_)
        | (refine R_rl rfl rfl ?_)
        | (refine R_rv rfl rfl ?_)
        | (refine R_sw _ rfl rfl rfl ?_)
        | (refine R_go 108 rfl rfl trivial ?_)
        | (refine R_go 108 rfl rfl ?_ ?_))
    · rw [hs]; exact vpN (n := 80) (by omega) rfl
    · refine ⟨?_, trivial⟩
      rw [hs, nI_clamp (by omega), hs2, by8 hn (by omega), nI_1, nI_1]
      have h1 := RMP_push hR (by omega) (bt8 n k)
      rw [hlen, List.append_assoc, ← bts_s] at h1
      refine R_mono ?_ (ih (k + 1) _ (by omega) h1)
      rintro r h' ⟨A', a1, a2, a3, a4⟩
      exact ⟨A', a1, a2, a3, FmM_tr (FmM_tr (FmM_g (by simp) (by decide)) (FmM_s (by simp))) a4⟩
theorem m_lettersM {A : FI} {B : FJ} {p : List Nat} (hR : RMP A p) (n : Nat) (hn : n < 2 ^ 64) : MV 0 1 mtX12_letters [.inr (.inr (some (31, 0))), .inr (.inl (lN n))] (hp A B) (fun r h' => ∃ A', h' = hp A' B ∧ r = some (.inl (lettS p n).1) ∧ RMP A' (lettS p n).2 ∧ FmM [36] [5] A A') := by
  refine MV_of caX12_letters (L := [some (.inr (.inr (some (31, 0)))), some (.inr (.inl (lN n))), none, none, none, none, none, none, none]) rfl rfl ?_
  refine R_go 11 rfl rfl trivial ?_
  have hl := hR.2.1
  have h0 := l_lettersM1 n hn (lN n) A B (fun r h' => ∃ A', h' = hp A' B ∧ r = some (.inl (lettS p n).1) ∧ RMP A' (lettS p n).2 ∧ FmM [36] [5] A A') ?_ 8 0 0 1 none rfl (Nat.le_refl _) (Or.inr ⟨rfl, rfl⟩)
  · rw [show n / 2 ^ (8 * 0) = n by simp] at h0
    refine R_nrm rfl ?_
    exact h0
  · intro m g z o hm hg
    refine R_weak (L' := [some (.inr (.inr (some (31, 0)))), some (.inr (.inl (lN n))), none, some (.inl (nI m)), some (.inl g), none, none, none, none]) (by simp [lsub]) ?_
    rcases hg with ⟨hc, rfl⟩ | ⟨hc, rfl⟩
    ·
      repeat' (first
          | (refine R_br rfl rfl (fun h => absurd h (by first | decide | (with_reducible assumption))) (fun _ => ?_))
          | (refine R_br rfl rfl (fun _ => ?_) (fun h => absurd (by first | decide | (with_reducible assumption)) h))
          | (refine R_br rfl rfl (fun _ => ?_) (fun _ => ?_))
          | (refine R_ri rfl rfl ?_)
          | (refine R_rz rfl rfl (Or.inl rfl) ?_)
          | (refine R_rz rfl rfl (Or.inr rfl) ?_)
          | (refine R_rz rfl rfl (b2_01 _) ?_)
          | (refine R_rl rfl rfl ?_)
          | (refine R_rv rfl rfl ?_)
          | (refine R_sw _ rfl rfl rfl ?_)
          | (refine R_go 9999 rfl rfl trivial ?_)
          | (refine R_go 9999 rfl rfl ?_ ?_))
      have : lettS p n = (-102, p) := by unfold lettS; rw [hc]
      rw [this]
      exact ⟨A, rfl, rfl, hR, FmM_rf⟩
    · have t0 := ti m (by omega)
      have t1 := ti (p.length + m) (by omega)
      have e : nI p.length + nI m = nI (p.length + m) := nI_add _ _
      have hls : lettS p n = if 80 < p.length + m then (-104, p) else (nI (p.length + m), p ++ bts n m) := by unfold lettS; rw [hc]
      have hr1 := hR.1
      by_cases h80 : 80 < p.length + m
      · rw [hls, if_pos h80]
        repeat' (first
            | (refine R_stop 108 rfl rfl ?_)
            | (refine R_br rfl rfl (fun h => absurd h (by first | decide | (with_reducible assumption))) (fun _ => ?_))
            | (refine R_br rfl rfl (fun _ => ?_) (fun h => absurd (by first | decide | (with_reducible assumption)) h))
            | (refine R_br rfl rfl (fun _ => ?_) (fun _ => ?_))
            | (refine R_ri rfl rfl ?_)
            | (refine R_rz rfl rfl (Or.inl rfl) ?_)
            | (refine R_rz rfl rfl (Or.inr rfl) ?_)
            | (refine R_rz rfl rfl (b2_01 _) ?_)
            | (refine R_rl rfl rfl ?_)
            | (refine R_rv rfl rfl ?_)
            | (refine R_sw _ rfl rfl rfl ?_)
            | (refine R_go 108 rfl rfl trivial ?_)
            | (refine R_go 108 rfl rfl ?_ ?_))
        · exfalso; rename_i h; rw [hr1, e] at h; (simp only [i_eq, i_lt, i_le, Int32.reduceToInt, true_and, and_true, false_and, and_false, or_false, false_or, or_true, true_or, ne_eq] at * <;> omega)
        · exact ⟨A, rfl, rfl, hR, FmM_rf⟩
      · rw [hls, if_neg h80]
        repeat' (first
            | (refine R_stop 108 rfl rfl ?_)
            | (refine R_br rfl rfl (fun h => absurd h (by first | decide | (with_reducible assumption))) (fun _ => ?_))
            | (refine R_br rfl rfl (fun _ => ?_) (fun h => absurd (by first | decide | (with_reducible assumption)) h))
            | (refine R_br rfl rfl (fun _ => ?_) (fun _ => ?_))
            | (refine R_ri rfl rfl ?_)
            | (refine R_rz rfl rfl (Or.inl rfl) ?_)
            | (refine R_rz rfl rfl (Or.inr rfl) ?_)
            | (refine R_rz rfl rfl (b2_01 _) ?_)
            | (refine R_rl rfl rfl ?_)
            | (refine R_rv rfl rfl ?_)
            | (refine R_sw _ rfl rfl rfl ?_)
            | (refine R_go 108 rfl rfl trivial ?_)
            | (refine R_go 108 rfl rfl ?_ ?_))
        · refine ⟨R_weak (L' := [some (.inr (.inr (some (31, 0)))), some (.inr (.inl (lN n))), none, some (.inl (nI m)), none, none, none, some (.inl (nI 0)), none]) ?_ (l_lettersM2 n m hn hm B p (by omega) m 0 A (by omega) (by simpa [bts] using hR)), trivial⟩
          simp [lsub, nI_0]
        · exfalso; rename_i h; rw [hr1, e] at h; (simp only [i_eq, i_lt, i_le, Int32.reduceToInt, true_and, and_true, false_and, and_false, or_false, false_or, or_true, true_or, ne_eq] at * <;> omega)
