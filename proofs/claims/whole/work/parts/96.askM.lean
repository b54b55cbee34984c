theorem ask_e : ∀ set, set < 8 → ∀ w, w < 3 → ((nI set >>> (nI w &&& 31)) &&& 1) = nI (set / 2 ^ w % 2) := by decide
theorem m_asked {set w : Nat} (hs : set < 8) (hw : w < 3) (A : FI) (B : FJ) : MS 0 2 mtX12_asked [.inl (nI set), .inl (nI w)] (hp A B) (Ret (some (.inl (nI (set / 2 ^ w % 2)))) (hp A B)) := by
  refine MS_of caX12_asked (L := [some (.inl (nI set)), some (.inl (nI w))]) rfl rfl ?_
  refine R_go 9999 rfl rfl trivial ?_
  rw [ask_e set hs w hw]
  rcases (show set / 2 ^ w % 2 = 0 ∨ set / 2 ^ w % 2 = 1 by omega) with e | e
  · rw [e]
    refine R_br rfl rfl (fun h => absurd h (by decide)) (fun _ => ?_)
    repeat' (first
        | (refine R_br rfl rfl (fun hbr => absurd hbr (by first | decide | (with_reducible assumption))) (fun _ => ?_))
        | (refine R_br rfl rfl (fun _ => ?_) (fun hbr => absurd (by first | decide | (with_reducible assumption)) hbr))
        | (refine R_br rfl rfl (fun _ => ?_) (fun _ => ?_))
        | (refine R_ri rfl rfl ?_)
        | (refine R_rz rfl rfl (Or.inl rfl) ?_)
        | (refine R_rz rfl rfl (Or.inr rfl) ?_)
        | (refine R_rz rfl rfl (b2_01 _) ?_)
        | (refine R_rl rfl rfl ?_)
        | (refine R_rv rfl rfl ?_)
        | (refine R_sw _ rfl rfl rfl ?_)
        | (refine R_go 9999 rfl rfl trivial ?_)
        | (refine R_go 9999 rfl rfl (by first | (show _ ∨ _; decide) | (show (_ ∨ _) ∧ (_ ∨ _); decide) | (show (_ ∨ _) ∧ (_ ∨ _) ∧ (_ ∨ _); decide)) ?_)
        | (refine R_go 9999 rfl rfl ?_ ?_))
    exact ret_i rfl rfl
  · rw [e]
    refine R_br rfl rfl (fun _ => ?_) (fun h => absurd rfl h)
    repeat' (first
        | (refine R_br rfl rfl (fun hbr => absurd hbr (by first | decide | (with_reducible assumption))) (fun _ => ?_))
        | (refine R_br rfl rfl (fun _ => ?_) (fun hbr => absurd (by first | decide | (with_reducible assumption)) hbr))
        | (refine R_br rfl rfl (fun _ => ?_) (fun _ => ?_))
        | (refine R_ri rfl rfl ?_)
        | (refine R_rz rfl rfl (Or.inl rfl) ?_)
        | (refine R_rz rfl rfl (Or.inr rfl) ?_)
        | (refine R_rz rfl rfl (b2_01 _) ?_)
        | (refine R_rl rfl rfl ?_)
        | (refine R_rv rfl rfl ?_)
        | (refine R_sw _ rfl rfl rfl ?_)
        | (refine R_go 9999 rfl rfl trivial ?_)
        | (refine R_go 9999 rfl rfl (by first | (show _ ∨ _; decide) | (show (_ ∨ _) ∧ (_ ∨ _); decide) | (show (_ ∨ _) ∧ (_ ∨ _) ∧ (_ ∨ _); decide)) ?_)
        | (refine R_go 9999 rfl rfl ?_ ?_))
    exact ret_i rfl rfl
theorem um_z : ∀ set, set < 8 → ∀ x y z : Bool, umN set (x.toNat + 2 * y.toNat + 4 * z.toNat) = 0 ↔ (set / 2 ^ 0 % 2 = 1 → x = true) ∧ (set / 2 ^ 1 % 2 = 1 → y = true) ∧ (set / 2 ^ 2 % 2 = 1 → z = true) := by decide
abbrev mlL (set g b h c p r q s : Nat) (v5 o10 : Option AV) : List (Option AV) := [some (.inl (nI set)), some (.inl (nI g)), some (.inl (nI b)), some (.inl (nI h)), some (.inl (nI c)), v5, some (.inl (nI p)), some (.inl (nI r)), some (.inl (nI q)), some (.inl (nI s)), o10]
theorem i_ml {set g b h c p r q s : Nat} (hs8 : set < 8) {A : FI} {B : FJ} {a : Int} (ha : -1 ≤ a ∧ a ≤ 40) (h9 : g ≤ 9 ∧ b ≤ 9 ∧ h ≤ 9 ∧ c ≤ 9) (hp' : p ≤ g ∧ r ≤ b ∧ q ≤ h ∧ s ≤ c) {Q : Option AV → AH → Prop} (kk : ∀ o10, Rn 1 mtX12_mostLet 33 (mlL set g b h c p r q (s + 1) (some (.inl (eI (stX set g b h c p r q s a)))) o10) [] (hp A B) Q) (o10 : Option AV) : Rn 1 mtX12_mostLet 33 (mlL set g b h c p r q s (some (.inl (eI a))) o10) [] (hp A B) Q := by
  have tg := ti g (by omega)
  have th := ti h (by omega)
  have tsn := ti s (by omega)
  have tcn := ti c (by omega)
  have ta := e_t (x := a) (by omega) (by omega)
  have tpr := ti (p + r) (by omega)
  have tqs := ti (q + s) (by omega)
  have tsum := ti (p + q + r + s) (by omega)
  have l1 : (p + r) * (h + c) ≤ 18 * 18 := Nat.mul_le_mul (by omega) (by omega)
  have l2 : (q + s) * (g + b) ≤ 18 * 18 := Nat.mul_le_mul (by omega) (by omega)
  have l3 : p * h ≤ 9 * 9 := Nat.mul_le_mul (by omega) (by omega)
  have l4 : q * g ≤ 9 * 9 := Nat.mul_le_mul (by omega) (by omega)
  have l5 : p * (q + s) ≤ 9 * 18 := Nat.mul_le_mul (by omega) (by omega)
  have l6 : q * (p + r) ≤ 9 * 18 := Nat.mul_le_mul (by omega) (by omega)
  have j1 : nI (p + r) * nI (h + c) = nI ((p + r) * (h + c)) := pk_mul _ _
  have j2 : nI (q + s) * nI (g + b) = nI ((q + s) * (g + b)) := pk_mul _ _
  have j3 : nI p * nI h = nI (p * h) := pk_mul _ _
  have j4 : nI q * nI g = nI (q * g) := pk_mul _ _
  have j5 : nI p * nI (q + s) = nI (p * (q + s)) := pk_mul _ _
  have j6 : nI q * nI (p + r) = nI (q * (p + r)) := pk_mul _ _
  have est : ∀ v, v = (if 0 < p + r ∧ 0 < q + s then (if umN set (mtT g b h c p r q s) = 0 then max a ((p + r + q + s : Nat) : Int) else a) else a) → stX set g b h c p r q s a = v := fun v hv => hv.symm
  have hz := um_z set hs8 (m0T g b h c p r q s) (m1T g h p q) (m2T p r q s)
  have hmt : mtT g b h c p r q s = (m0T g b h c p r q s).toNat + 2 * (m1T g h p q).toNat + 4 * (m2T p r q s).toNat := rfl
  rw [← hmt] at hz
  have x0 : m0T g b h c p r q s = true ↔ (p + r) * (h + c) = (q + s) * (g + b) := by unfold m0T; rw [decide_eq_true_iff]
  have x1 : m1T g h p q = true ↔ 0 < g ∧ 0 < h ∧ p * h = q * g := by unfold m1T; rw [decide_eq_true_iff]
  have x2 : m2T p r q s = true ↔ p * (q + s) = q * (p + r) := by unfold m2T; rw [decide_eq_true_iff]
  have a0 := m_asked (w := 0) hs8 (by omega) A B
  have a1 := m_asked (w := 1) hs8 (by omega) A B
  have a2 := m_asked (w := 2) hs8 (by omega) A B
  have b0 : set / 2 ^ 0 % 2 = 0 ∨ set / 2 ^ 0 % 2 = 1 := by omega
  have b1 : set / 2 ^ 1 % 2 = 0 ∨ set / 2 ^ 1 % 2 = 1 := by omega
  have b2' : set / 2 ^ 2 % 2 = 0 ∨ set / 2 ^ 2 % 2 = 1 := by omega
  generalize set / 2 ^ 0 % 2 = s0 at *
  generalize set / 2 ^ 1 % 2 = s1 at *
  generalize set / 2 ^ 2 % 2 = s2 at *
  generalize m0T g b h c p r q s = y0 at *
  generalize m1T g h p q = y1 at *
  generalize m2T p r q s = y2 at *
  generalize umN set (mtT g b h c p r q s) = u at *
  generalize (p + r) * (h + c) = z1 at *
  generalize (q + s) * (g + b) = z2 at *
  generalize p * h = z3 at *
  generalize q * g = z4 at *
  generalize p * (q + s) = z5 at *
  generalize q * (p + r) = z6 at *
  have kst : ∀ v m, stX set g b h c p r q s a = v → Rn 1 mtX12_mostLet 220 (mlL set g b h c p r q s (some (.inl (eI a))) (some (.inl m))) [.inl (eI v)] (hp A B) Q := fun v m hv => by
    rw [hv] at kk
    refine R_go 33 rfl rfl trivial ?_
    rw [nI_1]
    exact kk _
  have kno : ∀ m, stX set g b h c p r q s a = a → Rn 1 mtX12_mostLet 218 (mlL set g b h c p r q s (some (.inl (eI a))) (some (.inl m))) [] (hp A B) Q := fun m hv => by
    refine R_go 220 rfl rfl trivial ?_
    exact kst a m hv
  have k183n : stX set g b h c p r q s a = a → Rn 1 mtX12_mostLet 183 (mlL set g b h c p r q s (some (.inl (eI a))) (some (.inl 0))) [] (hp A B) Q := fun hv => by
    refine R_go 9999 rfl rfl trivial ?_
    exact R_br rfl rfl (fun _ => kno 0 hv) (fun h => absurd rfl h)
  have k183y : 0 < p + r ∧ 0 < q + s → u = 0 → Rn 1 mtX12_mostLet 183 (mlL set g b h c p r q s (some (.inl (eI a))) (some (.inl 1))) [] (hp A B) Q := fun ho hu => by
    have e1 : stX set g b h c p r q s a = max a ((p + r + q + s : Nat) : Int) := est _ (by rw [if_pos ho, if_pos hu])
    refine R_go 9999 rfl rfl trivial ?_
    refine R_br rfl rfl (fun h => absurd h (by decide)) (fun _ => ?_)
    refine R_go 9999 rfl rfl trivial ?_
    rw [nI_add, nI_add, nI_add]
    by_cases hlt : ((p + q + r + s : Nat) : Int) ≤ a
    · refine R_br rfl rfl (fun _ => ?_) (fun h => absurd (by rw [i_le, tsum, ta]; exact hlt) h)
      exact kno 1 (by rw [e1]; omega)
    · refine R_br rfl rfl (fun h => absurd (by rw [i_le, tsum, ta] at h; exact h) hlt) (fun _ => ?_)
      refine R_go 220 rfl rfl trivial ?_
      rw [nI_add, nI_add, nI_add, e_n (by omega)]
      exact kst _ 1 (by rw [e1]; omega)
  have k144n : stX set g b h c p r q s a = a → Rn 1 mtX12_mostLet 144 (mlL set g b h c p r q s (some (.inl (eI a))) (some (.inl 0))) [] (hp A B) Q := fun hv => by
    refine R_go 9999 rfl rfl trivial ?_
    refine R_br rfl rfl (fun _ => ?_) (fun h => absurd rfl h)
    refine R_go 183 rfl rfl trivial ?_
    exact k183n hv
  have no : ¬ (u = 0) → stX set g b h c p r q s a = a := fun hu => est _ (by rw [if_neg hu]; exact (ite_self a).symm)
  have k144y : 0 < p + r ∧ 0 < q + s → (s0 = 1 → y0 = true) → (s1 = 1 → y1 = true) → Rn 1 mtX12_mostLet 144 (mlL set g b h c p r q s (some (.inl (eI a))) (some (.inl 1))) [] (hp A B) Q := fun ho e0 e1 => by
    refine R_go 9999 rfl rfl trivial ?_
    refine R_br rfl rfl (fun h => absurd h (by decide)) (fun _ => ?_)
    refine R_go 9999 rfl rfl trivial ?_
    refine R_csr rfl a2 rfl rfl rfl (Nat.le_of_ble_eq_true rfl) rfl ?_
    rcases b2' with rfl | rfl
    · refine R_br rfl rfl (fun _ => ?_) (fun h => absurd rfl h)
      refine R_go 183 rfl rfl trivial ?_
      exact k183y ho (hz.mpr ⟨e0, e1, fun z => absurd z (by decide)⟩)
    · refine R_br rfl rfl (fun h => absurd h (by decide)) (fun _ => ?_)
      refine R_go 9999 rfl rfl trivial ?_
      rw [nI_add, nI_add, j5, j6]
      by_cases hy : z5 = z6
      · refine R_br rfl rfl (fun _ => ?_) (fun h => absurd (by rw [hy]) h)
        refine R_go 183 rfl rfl trivial ?_
        exact k183y ho (hz.mpr ⟨e0, e1, fun _ => x2.mpr hy⟩)
      · refine R_br rfl rfl (fun h => absurd (nI_ij (by omega) (by omega) h) hy) (fun _ => ?_)
        refine R_go 183 rfl rfl trivial ?_
        exact k183n (no (fun hu => hy (x2.mp ((hz.mp hu).2.2 rfl))))
  have k105n : stX set g b h c p r q s a = a → Rn 1 mtX12_mostLet 105 (mlL set g b h c p r q s (some (.inl (eI a))) (some (.inl 0))) [] (hp A B) Q := fun hv => by
    refine R_go 9999 rfl rfl trivial ?_
    refine R_br rfl rfl (fun _ => ?_) (fun h => absurd rfl h)
    refine R_go 144 rfl rfl trivial ?_
    exact k144n hv
  have k105y : 0 < p + r ∧ 0 < q + s → (s0 = 1 → y0 = true) → Rn 1 mtX12_mostLet 105 (mlL set g b h c p r q s (some (.inl (eI a))) (some (.inl 1))) [] (hp A B) Q := fun ho e0 => by
    refine R_go 9999 rfl rfl trivial ?_
    refine R_br rfl rfl (fun h => absurd h (by decide)) (fun _ => ?_)
    refine R_go 9999 rfl rfl trivial ?_
    refine R_csr rfl a1 rfl rfl rfl (Nat.le_of_ble_eq_true rfl) rfl ?_
    rcases b1 with rfl | rfl
    · refine R_br rfl rfl (fun _ => ?_) (fun h => absurd rfl h)
      refine R_go 144 rfl rfl trivial ?_
      exact k144y ho e0 (fun z => absurd z (by decide))
    · refine R_br rfl rfl (fun h => absurd h (by decide)) (fun _ => ?_)
      have bad : ¬ (y1 = true) → stX set g b h c p r q s a = a := fun hy => no (fun hu => hy ((hz.mp hu).2.1 rfl))
      refine R_go 9999 rfl rfl trivial ?_
      by_cases hg : 0 < g
      · refine R_br rfl rfl (fun h => absurd h (by (simp only [i_eq, i_lt, i_le, Int32.reduceToInt, true_and, and_true, false_and, and_false, or_false, false_or, or_true, true_or, ne_eq] at *; first | done | omega))) (fun _ => ?_)
        refine R_go 9999 rfl rfl trivial ?_
        by_cases hh : 0 < h
        · refine R_br rfl rfl (fun h => absurd h (by (simp only [i_eq, i_lt, i_le, Int32.reduceToInt, true_and, and_true, false_and, and_false, or_false, false_or, or_true, true_or, ne_eq] at *; first | done | omega))) (fun _ => ?_)
          refine R_go 9999 rfl rfl trivial ?_
          rw [j3, j4]
          by_cases hy : z3 = z4
          · refine R_br rfl rfl (fun _ => ?_) (fun h => absurd (by rw [hy]) h)
            refine R_go 144 rfl rfl trivial ?_
            exact k144y ho e0 (fun _ => x1.mpr ⟨hg, hh, hy⟩)
          · refine R_br rfl rfl (fun h => absurd (nI_ij (by omega) (by omega) h) hy) (fun _ => ?_)
            refine R_go 144 rfl rfl trivial ?_
            exact k144n (bad (fun z => hy (x1.mp z).2.2))
        · refine R_br rfl rfl (fun _ => ?_) (fun h => absurd (by (simp only [i_eq, i_lt, i_le, Int32.reduceToInt, true_and, and_true, false_and, and_false, or_false, false_or, or_true, true_or, ne_eq] at *; first | done | omega)) h)
          refine R_go 144 rfl rfl trivial ?_
          exact k144n (bad (fun z => hh (x1.mp z).2.1))
      · refine R_br rfl rfl (fun _ => ?_) (fun h => absurd (by (simp only [i_eq, i_lt, i_le, Int32.reduceToInt, true_and, and_true, false_and, and_false, or_false, false_or, or_true, true_or, ne_eq] at *; first | done | omega)) h)
        refine R_go 144 rfl rfl trivial ?_
        exact k144n (bad (fun z => hg (x1.mp z).1))
  have k63n : ¬ (0 < p + r ∧ 0 < q + s) → Rn 1 mtX12_mostLet 60 (mlL set g b h c p r q s (some (.inl (eI a))) o10) [] (hp A B) Q := fun ho => by
    have hv : stX set g b h c p r q s a = a := est _ (by rw [if_neg ho])
    refine R_go 9999 rfl rfl trivial ?_
    refine R_br rfl rfl (fun _ => ?_) (fun h => absurd rfl h)
    refine R_go 105 rfl rfl trivial ?_
    exact k105n hv
  refine R_go 9999 rfl rfl trivial ?_
  refine R_br rfl rfl (fun h => absurd h (by (simp only [i_eq, i_lt, i_le, Int32.reduceToInt, true_and, and_true, false_and, and_false, or_false, false_or, or_true, true_or, ne_eq] at *; first | done | omega))) (fun _ => ?_)
  refine R_go 9999 rfl rfl trivial ?_
  rw [nI_add]
  by_cases h1 : 0 < p + r
  · refine R_br rfl rfl (fun h => absurd h (by rw [i_le, tpr, (by decide : (0 : Int32).toInt = 0)]; omega)) (fun _ => ?_)
    refine R_go 9999 rfl rfl trivial ?_
    rw [nI_add]
    by_cases h2 : 0 < q + s
    · refine R_br rfl rfl (fun h => absurd h (by rw [i_le, tqs, (by decide : (0 : Int32).toInt = 0)]; omega)) (fun _ => ?_)
      refine R_go 9999 rfl rfl trivial ?_
      refine R_br rfl rfl (fun h => absurd h (by decide)) (fun _ => ?_)
      refine R_go 9999 rfl rfl trivial ?_
      refine R_csr rfl a0 rfl rfl rfl (Nat.le_of_ble_eq_true rfl) rfl ?_
      rcases b0 with rfl | rfl
      · refine R_br rfl rfl (fun _ => ?_) (fun h => absurd rfl h)
        refine R_go 105 rfl rfl trivial ?_
        exact k105y ⟨h1, h2⟩ (fun z => absurd z (by decide))
      · refine R_br rfl rfl (fun h => absurd h (by decide)) (fun _ => ?_)
        refine R_go 9999 rfl rfl trivial ?_
        rw [nI_add, nI_add, nI_add, nI_add, j1, j2]
        by_cases hy : z1 = z2
        · refine R_br rfl rfl (fun _ => ?_) (fun h => absurd (by rw [hy]) h)
          refine R_go 105 rfl rfl trivial ?_
          exact k105y ⟨h1, h2⟩ (fun _ => x0.mpr hy)
        · refine R_br rfl rfl (fun h => absurd (nI_ij (by omega) (by omega) h) hy) (fun _ => ?_)
          refine R_go 105 rfl rfl trivial ?_
          exact k105n (no (fun hu => hy (x0.mp ((hz.mp hu).1 rfl))))
    · exact R_br rfl rfl (fun _ => k63n (fun z => h2 z.2)) (fun h => absurd (by rw [i_le, tqs, (by decide : (0 : Int32).toInt = 0)]; omega) h)
  · exact R_br rfl rfl (fun _ => k63n (fun z => h1 z.1)) (fun h => absurd (by rw [i_le, tpr, (by decide : (0 : Int32).toInt = 0)]; omega) h)
