/-- the byte k of n -/
def bt8 (n k : Nat) : Nat := n / 2 ^ (8 * k) % 256
theorem bt8_lt (n k : Nat) : bt8 n k < 256 := Nat.mod_lt _ (by decide)
theorem sh8 {n k : Nat} (hn : n < 2 ^ 64) (hk : k < 8) : ((lN n).toUInt64 >>> ((8 * nI k).toInt64.toUInt64 &&& Int64.toUInt64 63)).toInt64 = lN (n / 2 ^ (8 * k)) := by
  rw [show (8 : Int32) * nI k = nI (8 * k) from pk_mul 8 k]
  exact wb_shr hn (by omega)
theorem ms8 {n : Nat} (hn : n < 2 ^ 64) : (lN n &&& 255).toInt32 = nI (n % 256) := by
  rw [show (255 : Int64) = lN (2 ^ 8 - 1) from rfl, wb_mask hn (by decide)]
  exact lN_i _
theorem by8 {n k : Nat} (hn : n < 2 ^ 64) (hk : k < 8) : (((lN n).toUInt64 >>> ((8 * nI k).toInt64.toUInt64 &&& Int64.toUInt64 63)).toInt64 &&& 255).toInt32 = nI (bt8 n k) := by
  rw [sh8 hn hk, ms8 (Nat.lt_of_le_of_lt (Nat.div_le_self _ _) hn)]
  rfl
theorem m_letterOf (n k : Nat) (hn : n < 2 ^ 64) (hk : k < 8) (A : FI) (B : FJ) : MS 0 2 mtX5_letterOf [.inr (.inl (lN n)), .inl (nI k)] (hp A B) (Ret (some (.inl (nI (bt8 n k)))) (hp A B)) := by
  refine MS_of caX5_letterOf (L := [some (.inr (.inl (lN n))), none, some (.inl (nI k))]) rfl rfl ?_
  repeat' (first
      | (refine R_br rfl rfl (fun h => absurd h (by first | decide | (with_reducible assumption))) (fun _ => ?_))
      | (refine R_br rfl rfl (fun _ => ?_) (fun h => absurd (by first | decide | (with_reducible assumption)) h))
      | (refine R_br rfl rfl (fun _ => ?_) (fun _ => ?_))
      | (refine R_ri rfl rfl ?_)
      | (refine R_rz rfl rfl (Or.inl rfl) ?_)
      | (refine R_rz rfl rfl (Or.inr rfl) ?_)
      | (refine R_rz rfl rfl (b2_01 _) ?_)
      | (refine R_rl rfl rfl ?_)
      | (refine R_rv rfl rfl ?_)
      | (refine R_sw _ rfl rfl rfl ?_)
      | (refine R_go 9999 rfl rfl trivial ?_)
      | (refine R_go 9999 rfl rfl ?_ ?_))
  exact ret_i (by8 hn hk) rfl
/-- how many letters the first k bytes of n tell -/
def cs8 (n : Nat) : Nat → Option Nat
  | 0 => some 0
  | k + 1 => match cs8 n k with
    | none => none
    | some m => if 126 < bt8 n k then none else if m < k ∧ bt8 n k ≠ 0 then none else some (m + (if bt8 n k ≠ 0 then 1 else 0))
theorem cs8_le {n : Nat} : ∀ {k m : Nat}, cs8 n k = some m → m ≤ k := by
  intro k
  induction k with
  | zero => intro m h; cases h; exact Nat.le_refl _
  | succ k ih =>
    intro m h
    unfold cs8 at h
    split at h
    · cases h
    · rename_i m' hm
      have := ih hm
      split at h
      · cases h
      · split at h
        · cases h
        · cases h; split <;> omega
theorem cs8_none {n : Nat} : ∀ {k j : Nat}, cs8 n k = none → cs8 n (k + j) = none := by
  intro k j h
  induction j with
  | zero => exact h
  | succ j ih => rw [← Nat.add_assoc, cs8, ih]
def csI (o : Option Nat) : Int32 := match o with
  | none => -1
  | some m => nI m
theorem l_lettersIn (n : Nat) (hn : n < 2 ^ 64) (A : FI) (B : FJ) : ∀ j k m, k + j = 8 → cs8 n k = some m → ∀ o, Rn 1 mtX5_lettersIn 7 [some (.inr (.inl (lN n))), none, some (.inl (nI m)), some (.inl (b2 (m < k))), some (.inl (nI k)), o] [] (hp A B) (Ret (some (.inl (csI (cs8 n 8)))) (hp A B)) := by
  intro j
  induction j with
  | zero =>
    intro k m hk hm o
    have : k = 8 := by omega
    subst this
    repeat' (first
        | (refine R_br rfl rfl (fun h => absurd h (by first | decide | (with_reducible assumption))) (fun _ => ?_))
        | (refine R_br rfl rfl (fun _ => ?_) (fun h => absurd (by first | decide | (with_reducible assumption)) h))
        | (refine R_br rfl rfl (fun _ => ?_) (fun _ => ?_))
        | (refine R_ri rfl rfl ?_)
        | (refine R_rz rfl rfl (Or.inl rfl) ?_)
        | (refine R_rz rfl rfl (Or.inr rfl) ?_)
        | (refine R_rz rfl rfl (b2_01 _) ?_)
        | (refine R_rl rfl rfl ?_)
        | (refine R_rv rfl rfl ?_)
        | (refine R_sw _ rfl rfl rfl ?_)
        | (refine R_go 9999 rfl rfl trivial ?_)
        | (refine R_go 9999 rfl rfl ?_ ?_))
    exact ret_i (by rw [hm]; rfl) rfl
  | succ j ih =>
    intro k m hk hm o
    have hk8 : k < 8 := by omega
    have t0 := ti k (by omega)
    have hb := bt8_lt n k
    have tb := ti (bt8 n k) (by omega)
    have hml := cs8_le hm
    have hcs : cs8 n (k + 1) = if 126 < bt8 n k then none else if m < k ∧ bt8 n k ≠ 0 then none else some (m + (if bt8 n k ≠ 0 then 1 else 0)) := by rw [cs8, hm]
    have hbad : cs8 n (k + 1) = none → Ret (some (.inl (csI (cs8 n 8)))) (hp A B) (some (.inl (-1))) (cnt0, A, B, C0) := fun h => by
      have : cs8 n 8 = none := by rw [show 8 = k + 1 + j by omega]; exact cs8_none h
      rw [this]; exact ret_i rfl rfl
    refine R_go 9999 rfl rfl trivial ?_
    refine R_br rfl rfl (fun h => absurd h (by (simp only [i_eq, i_lt, i_le, Int32.reduceToInt, true_and, and_true, false_and, and_false, or_false, false_or, or_true, true_or, ne_eq] at * <;> omega))) (fun _ => ?_)
    repeat' (first
        | (refine R_stop 7 rfl rfl ?_)
        | (refine R_br rfl rfl (fun h => absurd h (by first | decide | (with_reducible assumption))) (fun _ => ?_))
        | (refine R_br rfl rfl (fun _ => ?_) (fun h => absurd (by first | decide | (with_reducible assumption)) h))
        | (refine R_br rfl rfl (fun _ => ?_) (fun _ => ?_))
        | (refine R_ri rfl rfl ?_)
        | (refine R_rz rfl rfl (Or.inl rfl) ?_)
        | (refine R_rz rfl rfl (Or.inr rfl) ?_)
        | (refine R_rz rfl rfl (b2_01 _) ?_)
        | (refine R_rl rfl rfl ?_)
        | (refine R_rv rfl rfl ?_)
        | (refine R_csr rfl (m_letterOf n k hn hk8 _ _) rfl rfl rfl (Nat.le_of_ble_eq_true rfl) rfl ?_)
        | (refine R_csr rfl (m_bit 0 (Or.inl rfl) _ _) rfl rfl rfl (Nat.le_of_ble_eq_true rfl) rfl ?_)
        | (refine R_csr rfl (m_bit 1 (Or.inr rfl) _ _) rfl rfl rfl (Nat.le_of_ble_eq_true rfl) rfl ?_)
        | (refine R_sw _ rfl rfl rfl ?_)
        | (refine R_go 7 rfl rfl trivial ?_)
        | (refine R_go 7 rfl rfl ?_ ?_))
    · rename_i h
      exact hbad (by rw [hcs, if_pos (by (simp only [i_eq, i_lt, i_le, Int32.reduceToInt, true_and, and_true, false_and, and_false, or_false, false_or, or_true, true_or, ne_eq] at * <;> omega))])
    · rename_i h1 h2 h3 _
      have h2 := b2_n h2
      have hz : bt8 n k = 0 := by (simp only [i_eq, i_lt, i_le, Int32.reduceToInt, true_and, and_true, false_and, and_false, or_false, false_or, or_true, true_or, ne_eq] at * <;> omega)
      have := ih (k + 1) m (by omega) (by rw [hcs, if_neg (by omega), if_neg (by omega), if_neg (by omega)]; rfl) (some (.inl (nI (bt8 n k))))
      rw [b2_1 (by omega)] at this
      refine ⟨?_, trivial⟩
      rw [nI_1, show nI m + 0 = nI m from nI_add m 0]; exact this
    · rename_i h1 h2 h3 _
      have h2 := b2_n h2
      have hz : bt8 n k ≠ 0 := by (simp only [i_eq, i_lt, i_le, Int32.reduceToInt, true_and, and_true, false_and, and_false, or_false, false_or, or_true, true_or, ne_eq] at * <;> omega)
      have hz2 : ¬ 126 < bt8 n k := by (simp only [i_eq, i_lt, i_le, Int32.reduceToInt, true_and, and_true, false_and, and_false, or_false, false_or, or_true, true_or, ne_eq] at * <;> omega)
      have := ih (k + 1) (m + 1) (by omega) (by rw [hcs, if_neg hz2, if_neg (by omega), if_pos hz]) (some (.inl (nI (bt8 n k))))
      rw [b2_0 (by omega)] at this
      refine ⟨?_, trivial⟩
      rw [nI_1, nI_1]; exact this
    · rename_i h1 h2 h3 _ _
      have h2 := b2_y h2
      have hz : bt8 n k = 0 := by (simp only [i_eq, i_lt, i_le, Int32.reduceToInt, true_and, and_true, false_and, and_false, or_false, false_or, or_true, true_or, ne_eq] at * <;> omega)
      have := ih (k + 1) m (by omega) (by rw [hcs, if_neg (by omega), if_neg (by omega), if_neg (by omega)]; rfl) (some (.inl (nI (bt8 n k))))
      rw [b2_1 (by omega)] at this
      refine ⟨?_, trivial⟩
      rw [nI_1, show nI m + 0 = nI m from nI_add m 0]; exact this
    · rename_i h1 h2 h3
      have h2 := b2_y h2
      have hz : bt8 n k ≠ 0 := by (simp only [i_eq, i_lt, i_le, Int32.reduceToInt, true_and, and_true, false_and, and_false, or_false, false_or, or_true, true_or, ne_eq] at * <;> omega)
      have hz2 : ¬ 126 < bt8 n k := by (simp only [i_eq, i_lt, i_le, Int32.reduceToInt, true_and, and_true, false_and, and_false, or_false, false_or, or_true, true_or, ne_eq] at * <;> omega)
      exact hbad (by rw [hcs, if_neg hz2, if_pos ⟨h2, hz⟩])
theorem m_lettersIn (n : Nat) (hn : n < 2 ^ 64) (A : FI) (B : FJ) : MS 1 1 mtX5_lettersIn [.inr (.inl (lN n))] (hp A B) (Ret (some (.inl (csI (cs8 n 8)))) (hp A B)) := by
  refine MS_of caX5_lettersIn (L := [some (.inr (.inl (lN n))), none, none, none, none, none]) rfl rfl ?_
  refine R_go 7 rfl rfl trivial ?_
  have := l_lettersIn n hn A B 8 0 0 rfl rfl none
  rw [b2_0 (by omega)] at this
  exact this
/-- THE PAGE's letters -/
def RCP (A : FI) (p : List Nat) : Prop := A 8 0 1 = nI p.length ∧ p.length ≤ 80 ∧ ∀ k, k < p.length → A 9 0 k = nI (p.getD k 0)
def RMP (A : FI) (p : List Nat) : Prop := A 31 0 5 = nI p.length ∧ p.length ≤ 80 ∧ ∀ k, k < p.length → A 36 0 k = nI (p.getD k 0)
def WFP (p : List Nat) : Prop := ∀ x ∈ p, 1 ≤ x ∧ x ≤ 126
def bts (n m : Nat) : List Nat := (List.range m).map (bt8 n)
theorem bts_len (n m : Nat) : (bts n m).length = m := by simp [bts]
theorem bts_s (n m : Nat) : bts n (m + 1) = bts n m ++ [bt8 n m] := by simp [bts, List.range_succ]
theorem RCP_push {A : FI} {p : List Nat} (h : RCP A p) (hl : p.length < 80) (x : Nat) : RCP (up3 (up3 A 9 0 p.length (nI x)) 8 0 1 (nI (p.length + 1))) (p ++ [x]) := by
  refine ⟨?_, by simp; omega, fun k hk => ?_⟩
  · rw [up3_self]; simp
  · rw [up3_g (by decide)]
    by_cases hkp : k = p.length
    · subst hkp
      rw [up3_self]; simp
    · have hk2 : k < p.length := by simp at hk; omega
      rw [up3_s hkp, h.2.2 k hk2]
      simp [List.getD_eq_getElem?_getD, List.getElem?_append_left hk2]
theorem m_sizeC {A : FI} {B : FJ} {p : List Nat} (h : RCP A p) : MV 0 0 mtX5_size [.inr (.inr (some (8, 0)))] (hp A B) (Ret (some (.inl (nI p.length))) (hp A B)) := by
  refine MV_of caX5_size (L := [some (.inr (.inr (some (8, 0))))]) rfl rfl ?_
  repeat' (first
      | (refine R_br rfl rfl (fun h => absurd h (by first | decide | (with_reducible assumption))) (fun _ => ?_))
      | (refine R_br rfl rfl (fun _ => ?_) (fun h => absurd (by first | decide | (with_reducible assumption)) h))
      | (refine R_br rfl rfl (fun _ => ?_) (fun _ => ?_))
      | (refine R_ri rfl rfl ?_)
      | (refine R_rz rfl rfl (Or.inl rfl) ?_)
      | (refine R_rz rfl rfl (Or.inr rfl) ?_)
      | (refine R_rz rfl rfl (b2_01 _) ?_)
      | (refine R_rl rfl rfl ?_)
      | (refine R_rv rfl rfl ?_)
      | (refine R_sw _ rfl rfl rfl ?_)
      | (refine R_go 9999 rfl rfl trivial ?_)
      | (refine R_go 9999 rfl rfl ?_ ?_))
  exact ret_i h.1 rfl
theorem l_append (n m : Nat) (hn : n < 2 ^ 64) (hm : m ≤ 8) (B : FJ) (p : List Nat) (hpl : p.length + m ≤ 80) : ∀ j k (A : FI), k + j = m → RCP A (p ++ bts n k) → Rn 1 mtX5_append 3 [some (.inr (.inr (some (8, 0)))), some (.inr (.inl (lN n))), none, some (.inl (nI m)), some (.inl (nI k))] [] (hp A B) (fun r h' => ∃ A', r = none ∧ h' = hp A' B ∧ RCP A' (p ++ bts n m) ∧ Fm [8, 9] A A') := by
  intro j
  induction j with
  | zero =>
    intro k A hk hR
    have : k = m := by omega
    subst this
    refine R_go 9999 rfl rfl trivial ?_
    refine R_br rfl rfl (fun _ => ?_) (fun h => absurd (Int32.le_refl _) h)
    repeat' (first
        | (refine R_br rfl rfl (fun h => absurd h (by first | decide | (with_reducible assumption))) (fun _ => ?_))
        | (refine R_br rfl rfl (fun _ => ?_) (fun h => absurd (by first | decide | (with_reducible assumption)) h))
        | (refine R_br rfl rfl (fun _ => ?_) (fun _ => ?_))
        | (refine R_ri rfl rfl ?_)
        | (refine R_rz rfl rfl (Or.inl rfl) ?_)
        | (refine R_rz rfl rfl (Or.inr rfl) ?_)
        | (refine R_rz rfl rfl (b2_01 _) ?_)
        | (refine R_rl rfl rfl ?_)
        | (refine R_rv rfl rfl ?_)
        | (refine R_sw _ rfl rfl rfl ?_)
        | (refine R_go 9999 rfl rfl trivial ?_)
        | (refine R_go 9999 rfl rfl ?_ ?_))
    exact ⟨A, rfl, rfl, hR, Fm_rf⟩
  | succ j ih =>
    intro k A hk hR
    have hlen : (p ++ bts n k).length = p.length + k := by simp [bts_len]
    have t0 := ti k (by omega)
    have t1 := ti m (by omega)
    have tl := ti (p.length + k) (by omega)
    have hs := hR.1
    rw [hlen] at hs
    have hs2 : ∀ x, up3 A 9 0 (p.length + k) x 8 0 1 = nI (p.length + k) := fun x => by rw [up3_g (by decide)]; exact hs
    refine R_go 9999 rfl rfl trivial ?_
    refine R_br rfl rfl (fun h => absurd h (by (simp only [i_eq, i_lt, i_le, Int32.reduceToInt, true_and, and_true, false_and, and_false, or_false, false_or, or_true, true_or, ne_eq] at * <;> omega))) (fun _ => ?_)
    refine R_go 9999 rfl rfl trivial ?_
    refine R_br rfl rfl (fun h => absurd h (by rw [hs]; (simp only [i_eq, i_lt, i_le, Int32.reduceToInt, true_and, and_true, false_and, and_false, or_false, false_or, or_true, true_or, ne_eq] at * <;> omega))) (fun _ => ?_)
    repeat' (first
        | (refine R_stop 3 rfl rfl ?_)
        | (refine R_br rfl rfl (fun h => absurd h (by first | decide | (with_reducible assumption))) (fun _ => ?_))
        | (refine R_br rfl rfl (fun _ => ?_) (fun h => absurd (by first | decide | (with_reducible assumption)) h))
        | (refine R_br rfl rfl (fun _ => ?_) (fun _ => ?_))
        | (refine R_ri rfl rfl ?_)
        | (refine R_rz rfl rfl (Or.inl rfl) ?_)
        | (refine R_rz rfl rfl (Or.inr rfl) ?_)
        | (refine R_rz rfl rfl (b2_01 _) ?_)
        | (refine R_rl rfl rfl ?_)
        | (refine R_rv rfl rfl ?_)
        | (refine R_csr rfl (m_letterOf n k hn (by omega) _ _) rfl rfl rfl (Nat.le_of_ble_eq_true rfl) rfl ?_)
        | (refine R_sw _ rfl rfl rfl ?_)
        | (refine R_go 3 rfl rfl trivial ?_)
        | (refine R_go 3 rfl rfl ?_ ?_))
    · rw [hs]; exact vpN (n := 80) (by omega) rfl
    · refine ⟨?_, trivial⟩
      rw [hs, nI_clamp (by omega), hs2, nI_1, nI_1]
      have h1 := RCP_push hR (by omega) (bt8 n k)
      rw [hlen, List.append_assoc, ← bts_s] at h1
      refine R_mono ?_ (ih (k + 1) _ (by omega) h1)
      rintro r h' ⟨A', a1, a2, a3, a4⟩
      refine ⟨A', a1, a2, a3, fun g hg => ?_⟩
      rw [a4 g hg]
      simp only [List.mem_cons, List.not_mem_nil, or_false, not_or] at hg
      rw [up3_g hg.1, up3_g hg.2]
theorem m_append (n m : Nat) (hn : n < 2 ^ 64) (hm : m ≤ 8) (B : FJ) (p : List Nat) (hpl : p.length + m ≤ 80) (A : FI) (hR : RCP A p) : MV 1 2 mtX5_append [.inr (.inr (some (8, 0))), .inr (.inl (lN n)), .inl (nI m)] (hp A B) (fun r h' => ∃ A', r = none ∧ h' = hp A' B ∧ RCP A' (p ++ bts n m) ∧ Fm [8, 9] A A') := by
  refine MV_of caX5_append (L := [some (.inr (.inr (some (8, 0)))), some (.inr (.inl (lN n))), none, some (.inl (nI m)), none]) rfl rfl ?_
  refine R_go 3 rfl rfl trivial ?_
  exact l_append n m hn hm B p hpl m 0 A (by omega) (by simpa [bts] using hR)
