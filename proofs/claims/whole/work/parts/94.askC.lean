def eI (x : Int) : Int32 := Int32.ofInt x
theorem e_t {x : Int} (h1 : -1000 ≤ x) (h2 : x ≤ 1000) : (eI x).toInt = x := Int32.toInt_ofInt_of_le (by omega) (by omega)
theorem e_n {n : Nat} (h : n ≤ 1000) : nI n = eI n := Int32.toInt_inj.mp (by rw [e_t (by omega) (by omega), ti n (by omega)])
theorem e_m1 {x : Int} (h1 : -1000 ≤ x) (h2 : x ≤ 1000) : eI x = -1 ↔ x = -1 := by
  have h := e_t h1 h2
  constructor
  · intro e
    rw [e] at h
    have : (-1 : Int32).toInt = -1 := by decide
    omega
  · intro e; rw [e]; rfl
theorem m_bc : ∀ n, n < 8 → ∀ A B, MS 0 1 mtJ6_bitCount_0f7a4 [.inl (nI n)] (hp A B) (Ret (some (.inl (nI (ppN n)))) (hp A B)) := by
  intro n hn A B
  refine MS_of caJ6_bitCount_0f7a4 (L := [some (.inl (nI n))]) rfl rfl ?_
  rcases (show n = 0 ∨ n = 1 ∨ n = 2 ∨ n = 3 ∨ n = 4 ∨ n = 5 ∨ n = 6 ∨ n = 7 by omega) with rfl | rfl | rfl | rfl | rfl | rfl | rfl | rfl
  all_goals
    refine R_go 9999 rfl rfl trivial ?_
    refine s_ldcw (z := 1431655765) rfl (wt4 176 (by decide +kernel) (by decide +kernel)) ?_
    refine R_go 9999 rfl rfl trivial ?_
    refine s_ldcw (z := 858993459) rfl (wt4 177 (by decide +kernel) (by decide +kernel)) ?_
    refine R_go 9999 rfl rfl trivial ?_
    refine s_ldcw (z := 858993459) rfl (wt4 177 (by decide +kernel) (by decide +kernel)) ?_
    refine R_go 9999 rfl rfl trivial ?_
    refine s_ldcw (z := 252645135) rfl (wt4 178 (by decide +kernel) (by decide +kernel)) ?_
    refine R_go 9999 rfl rfl trivial ?_
    refine R_ri rfl rfl ?_
    refine ret_i ?_ rfl
    decide
def anN (set m : Nat) : Nat := set - (set &&& m)
theorem an_e : ∀ set, set < 8 → ∀ m, m < 8 → (nI set &&& (nI m ^^^ (-1))) = nI (anN set m) ∧ anN set m < 8 ∧ ppN (anN set m) = umN set m := by decide
theorem m_sameShare {a w b v : Nat} (ha : a ≤ 100) (hw : w ≤ 100) (hb : b ≤ 100) (hv : v ≤ 100) (A : FI) (B : FJ) : MS 0 4 mtX0_isSameShare [.inl (nI a), .inl (nI w), .inl (nI b), .inl (nI v)] (hp A B) (Ret (some (.inl (b2 (0 < w ∧ 0 < v ∧ a * v = b * w)))) (hp A B)) := by
  have tw := ti w (by omega)
  have tv := ti v (by omega)
  have i1 : nI a * nI v = nI (a * v) := pk_mul a v
  have i2 : nI b * nI w = nI (b * w) := pk_mul b w
  have l1 : a * v ≤ 100 * 100 := Nat.mul_le_mul ha hv
  have l2 : b * w ≤ 100 * 100 := Nat.mul_le_mul hb hw
  refine MS_of caX0_isSameShare (L := [some (.inl (nI a)), some (.inl (nI w)), some (.inl (nI b)), some (.inl (nI v))]) rfl rfl ?_
  refine R_go 9999 rfl rfl trivial ?_
  by_cases h1 : 0 < w
  · refine R_br rfl rfl (fun h => absurd h (by (simp only [i_eq, i_lt, i_le, Int32.reduceToInt, true_and, and_true, false_and, and_false, or_false, false_or, or_true, true_or, ne_eq] at *; first | done | omega))) (fun _ => ?_)
    refine R_go 9999 rfl rfl trivial ?_
    by_cases h2 : 0 < v
    · refine R_br rfl rfl (fun h => absurd h (by (simp only [i_eq, i_lt, i_le, Int32.reduceToInt, true_and, and_true, false_and, and_false, or_false, false_or, or_true, true_or, ne_eq] at *; first | done | omega))) (fun _ => ?_)
      refine R_go 9999 rfl rfl trivial ?_
      rw [i1, i2]
      by_cases h3 : a * v = b * w
      · rw [b2_1 ⟨h1, h2, h3⟩]
        refine R_br rfl rfl (fun _ => ?_) (fun h => absurd (by rw [h3]) h)
        repeat' (first
            | (refine R_br rfl rfl (fun hbr => absurd hbr (by first | decide | (with_reducible assumption))) (fun _ => ?_))
            | (refine R_br rfl rfl (fun _ => ?_) (fun hbr => absurd (by first | decide | (with_reducible assumption)) hbr))
            | (refine R_br rfl rfl (fun _ => ?_) (fun _ => ?_))
            | (refine R_ri rfl rfl ?_)
            | (refine R_rz rfl rfl (Or.inl rfl) ?_)
            | (refine R_rz rfl rfl (Or.inr rfl) ?_)
            | (refine R_rz rfl rfl (b2_01 _) ?_)
            | (refine R_rl rfl rfl ?_)
            | (refine R_rv rfl rfl ?_)
            | (refine R_sw _ rfl rfl rfl ?_)
            | (refine R_go 9999 rfl rfl trivial ?_)
            | (refine R_go 9999 rfl rfl (by first | (show _ ∨ _; decide) | (show (_ ∨ _) ∧ (_ ∨ _); decide) | (show (_ ∨ _) ∧ (_ ∨ _) ∧ (_ ∨ _); decide)) ?_)
            | (refine R_go 9999 rfl rfl ?_ ?_))
        exact ret_i rfl rfl
      · rw [b2_0 (fun z => h3 z.2.2)]
        refine R_br rfl rfl (fun h => absurd (nI_ij (by omega) (by omega) h) h3) (fun _ => ?_)
        repeat' (first
            | (refine R_br rfl rfl (fun hbr => absurd hbr (by first | decide | (with_reducible assumption))) (fun _ => ?_))
            | (refine R_br rfl rfl (fun _ => ?_) (fun hbr => absurd (by first | decide | (with_reducible assumption)) hbr))
            | (refine R_br rfl rfl (fun _ => ?_) (fun _ => ?_))
            | (refine R_ri rfl rfl ?_)
            | (refine R_rz rfl rfl (Or.inl rfl) ?_)
            | (refine R_rz rfl rfl (Or.inr rfl) ?_)
            | (refine R_rz rfl rfl (b2_01 _) ?_)
            | (refine R_rl rfl rfl ?_)
            | (refine R_rv rfl rfl ?_)
            | (refine R_sw _ rfl rfl rfl ?_)
            | (refine R_go 9999 rfl rfl trivial ?_)
            | (refine R_go 9999 rfl rfl (by first | (show _ ∨ _; decide) | (show (_ ∨ _) ∧ (_ ∨ _); decide) | (show (_ ∨ _) ∧ (_ ∨ _) ∧ (_ ∨ _); decide)) ?_)
            | (refine R_go 9999 rfl rfl ?_ ?_))
        exact ret_i rfl rfl
    · rw [b2_0 (fun z => h2 z.2.1)]
      refine R_br rfl rfl (fun _ => ?_) (fun h => absurd (by (simp only [i_eq, i_lt, i_le, Int32.reduceToInt, true_and, and_true, false_and, and_false, or_false, false_or, or_true, true_or, ne_eq] at *; first | done | omega)) h)
      repeat' (first
          | (refine R_br rfl rfl (fun hbr => absurd hbr (by first | decide | (with_reducible assumption))) (fun _ => ?_))
          | (refine R_br rfl rfl (fun _ => ?_) (fun hbr => absurd (by first | decide | (with_reducible assumption)) hbr))
          | (refine R_br rfl rfl (fun _ => ?_) (fun _ => ?_))
          | (refine R_ri rfl rfl ?_)
          | (refine R_rz rfl rfl (Or.inl rfl) ?_)
          | (refine R_rz rfl rfl (Or.inr rfl) ?_)
          | (refine R_rz rfl rfl (b2_01 _) ?_)
          | (refine R_rl rfl rfl ?_)
          | (refine R_rv rfl rfl ?_)
          | (refine R_sw _ rfl rfl rfl ?_)
          | (refine R_go 9999 rfl rfl trivial ?_)
          | (refine R_go 9999 rfl rfl (by first | (show _ ∨ _; decide) | (show (_ ∨ _) ∧ (_ ∨ _); decide) | (show (_ ∨ _) ∧ (_ ∨ _) ∧ (_ ∨ _); decide)) ?_)
          | (refine R_go 9999 rfl rfl ?_ ?_))
      exact ret_i rfl rfl
  · rw [b2_0 (fun z => h1 z.1)]
    refine R_br rfl rfl (fun _ => ?_) (fun h => absurd (by (simp only [i_eq, i_lt, i_le, Int32.reduceToInt, true_and, and_true, false_and, and_false, or_false, false_or, or_true, true_or, ne_eq] at *; first | done | omega)) h)
    repeat' (first
        | (refine R_br rfl rfl (fun hbr => absurd hbr (by first | decide | (with_reducible assumption))) (fun _ => ?_))
        | (refine R_br rfl rfl (fun _ => ?_) (fun hbr => absurd (by first | decide | (with_reducible assumption)) hbr))
        | (refine R_br rfl rfl (fun _ => ?_) (fun _ => ?_))
        | (refine R_ri rfl rfl ?_)
        | (refine R_rz rfl rfl (Or.inl rfl) ?_)
        | (refine R_rz rfl rfl (Or.inr rfl) ?_)
        | (refine R_rz rfl rfl (b2_01 _) ?_)
        | (refine R_rl rfl rfl ?_)
        | (refine R_rv rfl rfl ?_)
        | (refine R_sw _ rfl rfl rfl ?_)
        | (refine R_go 9999 rfl rfl trivial ?_)
        | (refine R_go 9999 rfl rfl (by first | (show _ ∨ _; decide) | (show (_ ∨ _) ∧ (_ ∨ _); decide) | (show (_ ∨ _) ∧ (_ ∨ _) ∧ (_ ∨ _); decide)) ?_)
        | (refine R_go 9999 rfl rfl ?_ ?_))
    exact ret_i rfl rfl
theorem m_sameShareB {a w b v : Nat} {x : Bool} (ha : a ≤ 100) (hw : w ≤ 100) (hb : b ≤ 100) (hv : v ≤ 100) (hx : x = true ↔ 0 < w ∧ 0 < v ∧ a * v = b * w) (A : FI) (B : FJ) : MS 0 4 mtX0_isSameShare [.inl (nI a), .inl (nI w), .inl (nI b), .inl (nI v)] (hp A B) (Ret (some (.inl (nI x.toNat))) (hp A B)) := by
  have h := m_sameShare ha hw hb hv A B
  cases x with
  | true => rw [b2_1 (hx.mp rfl)] at h; exact h
  | false => rw [b2_0 (fun z => absurd (hx.mpr z) (by decide))] at h; exact h
def AsG (A : FI) (g b h c : Nat) : Prop := A 29 0 0 = nI g ∧ A 29 0 1 = nI b ∧ A 29 0 2 = nI h ∧ A 29 0 3 = nI c
def AsR (A : FI) (a : Int × Int) : Prop := A 29 0 4 = eI a.1 ∧ A 29 0 5 = eI a.2
theorem AsG_fr {A A' : FI} {g b h c : Nat} (H : AsG A g b h c) (hF : FmO 29 [] [4, 5] A A') : AsG A' g b h c := ⟨by rw [hF.2 0 (by decide)]; exact H.1, by rw [hF.2 1 (by decide)]; exact H.2.1, by rw [hF.2 2 (by decide)]; exact H.2.2.1, by rw [hF.2 3 (by decide)]; exact H.2.2.2⟩
theorem mt_v : ∀ x y z : Bool, (nI x.toNat ||| (nI y.toNat <<< ((1 : Int32) &&& 31)) ||| (nI z.toNat <<< ((2 : Int32) &&& 31))) = nI (x.toNat + 2 * y.toNat + 4 * z.toNat) := by decide
theorem b_01 (x : Bool) : x.toNat ≤ 1 := by cases x <;> decide
theorem m_met {g b h c p r q s : Nat} {A : FI} {B : FJ} (hG : AsG A g b h c) (h9 : g ≤ 9 ∧ b ≤ 9 ∧ h ≤ 9 ∧ c ≤ 9) (hp' : p ≤ g ∧ r ≤ b ∧ q ≤ h ∧ s ≤ c) (h1 : 0 < p + r) (h2 : 0 < q + s) : MV 1 4 mtX0_met [.inr (.inr (some (29, 0))), .inl (nI p), .inl (nI r), .inl (nI q), .inl (nI s)] (hp A B) (Ret (some (.inl (nI (mtT g b h c p r q s)))) (hp A B)) := by
  obtain ⟨e0, e1, e2, e3⟩ := hG
  have s0 := m_sameShareB (a := p + r) (w := g + b) (b := q + s) (v := h + c) (x := m0T g b h c p r q s) (by omega) (by omega) (by omega) (by omega) (by unfold m0T; rw [decide_eq_true_iff]; exact ⟨fun z => ⟨by omega, by omega, z⟩, fun z => z.2.2⟩) A B
  have s1 := m_sameShareB (a := p) (w := g) (b := q) (v := h) (x := m1T g h p q) (by omega) (by omega) (by omega) (by omega) (by unfold m1T; rw [decide_eq_true_iff]) A B
  have s2 := m_sameShareB (a := p) (w := p + r) (b := q) (v := q + s) (x := m2T p r q s) (by omega) (by omega) (by omega) (by omega) (by unfold m2T; rw [decide_eq_true_iff]; exact ⟨fun z => ⟨h1, h2, z⟩, fun z => z.2.2⟩) A B
  unfold mtT
  have t0 := m_bitI _ (b_01 (m0T g b h c p r q s)) A B
  have t1 := m_bitI _ (b_01 (m1T g h p q)) A B
  have t2 := m_bitI _ (b_01 (m2T p r q s)) A B
  generalize m0T g b h c p r q s = x0 at *
  generalize m1T g h p q = x1 at *
  generalize m2T p r q s = x2 at *
  refine MV_of caX0_met (L := [some (.inr (.inr (some (29, 0)))), some (.inl (nI p)), some (.inl (nI r)), some (.inl (nI q)), some (.inl (nI s))]) rfl rfl ?_
  refine R_go 9999 rfl rfl trivial ?_
  try dsimp only [fgt, fpt]
  rw [e0, e1, e2, e3, nI_add, nI_add, nI_add, nI_add]
  refine R_csr rfl s0 rfl rfl rfl (Nat.le_of_ble_eq_true rfl) rfl ?_
  refine R_csr rfl t0 rfl rfl rfl (Nat.le_of_ble_eq_true rfl) rfl ?_
  refine R_go 9999 rfl rfl trivial ?_
  try dsimp only [fgt, fpt]
  rw [e0, e2]
  refine R_csr rfl s1 rfl rfl rfl (Nat.le_of_ble_eq_true rfl) rfl ?_
  refine R_csr rfl t1 rfl rfl rfl (Nat.le_of_ble_eq_true rfl) rfl ?_
  refine R_go 9999 rfl rfl trivial ?_
  rw [nI_add, nI_add]
  refine R_csr rfl s2 rfl rfl rfl (Nat.le_of_ble_eq_true rfl) rfl ?_
  refine R_csr rfl t2 rfl rfl rfl (Nat.le_of_ble_eq_true rfl) rfl ?_
  refine R_go 9999 rfl rfl trivial ?_
  refine R_ri rfl rfl ?_
  exact ret_i (mt_v x0 x1 x2) rfl
abbrev woL (set p r q s : Nat) (o6 : Option AV) : List (Option AV) := [some (.inr (.inr (some (29, 0)))), some (.inl (nI set)), some (.inl (nI p)), some (.inl (nI r)), some (.inl (nI q)), some (.inl (nI s)), o6]
theorem i_wo {set g b h c p r q s : Nat} (hs8 : set < 8) {A : FI} {B : FJ} {a : Int × Int} (hG : AsG A g b h c) (hA : AsR A a) (ha : aB a) (h9 : g ≤ 9 ∧ b ≤ 9 ∧ h ≤ 9 ∧ c ≤ 9) (hp' : p ≤ g ∧ r ≤ b ∧ q ≤ h ∧ s ≤ c) (h1 : 0 < p + r) (h2 : 0 < q + s) {Q : Option AV → AH → Prop} (kk : ∀ A', FmO 29 [] [4, 5] A A' → AsR A' (stW set g b h c p r q s a) → ∀ o6, Rn 2 mtX0_weighOthers 24 (woL set p r q (s + 1) o6) [] (hp A' B) Q) (o6 : Option AV) : Rn 2 mtX0_weighOthers 24 (woL set p r q s o6) [] (hp A B) Q := by
  have tsn := ti s (by omega)
  have tcn := ti c (by omega)
  obtain ⟨e4, e5⟩ := hA
  have hm := m_met (B := B) hG h9 hp' h1 h2
  have hm8 := mtT_8 g b h c p r q s
  obtain ⟨u1, u2, u3⟩ := an_e set hs8 _ hm8
  have hu3 := umN_3 set (mtT g b h c p r q s)
  have est : stW set g b h c p r q s a = ((if umN set (mtT g b h c p r q s) = 0 then max a.1 ((p + r + q + s : Nat) : Int) else a.1), (if a.2 = -1 ∨ (umN set (mtT g b h c p r q s) : Int) < a.2 then (umN set (mtT g b h c p r q s) : Int) else a.2)) := if_pos ⟨h1, h2⟩
  rw [est] at kk
  have hbc := m_bc _ u2 A B
  rw [u3] at hbc
  generalize umN set (mtT g b h c p r q s) = u at *
  generalize mtT g b h c p r q s = mm at *
  have tu := ti u (by omega)
  unfold aB at ha
  have t1 := e_t (x := a.1) (by omega) (by omega)
  have t2 := e_t (x := a.2) (by omega) (by omega)
  have k75 : ∀ A1, FmO 29 [] [4, 5] A A1 → A1 29 0 4 = eI a.1 → A1 29 0 5 = eI (if a.2 = -1 ∨ (u : Int) < a.2 then (u : Int) else a.2) → Rn 2 mtX0_weighOthers 75 (woL set p r q s (some (.inl (nI u)))) [] (hp A1 B) Q := fun A1 hF f4 f5 => by
    refine R_go 9999 rfl rfl trivial ?_
    by_cases hu0 : u = 0
    · subst hu0
      rw [if_pos rfl] at kk
      refine R_br rfl rfl (fun _ => ?_) (fun h => absurd rfl h)
      refine R_go 9999 rfl rfl trivial ?_
      try dsimp only [fgt, fpt]
      rw [f4, nI_add, nI_add, nI_add]
      refine R_mmax rfl qm_X0_44 (Nat.le_of_ble_eq_true rfl) (Nat.le_refl _) (Nat.le_refl _) rfl ?_
      refine R_go 24 rfl rfl trivial ?_
      rw [nI_1]
      refine kk _ (FmO_tr hF (by first | exact FmO_rf | (repeat' (first | exact FmO_rf | (with_reducible assumption) | (refine FmO_up ?_ (by decide)) | (refine FmO_ug ?_ (by decide) (by decide)))))) ⟨?_, by rw [up3_s (by decide)]; exact f5⟩ _
      rw [up3_self]
      have tsum := ti (p + r + q + s) (by omega)
      by_cases hlt : a.1 < ((p + r + q + s : Nat) : Int)
      · rw [if_pos (by rw [i_lt, t1, tsum]; exact hlt), e_n (by omega)]
        congr 1; omega
      · rw [if_neg (by rw [i_lt, t1, tsum]; exact hlt)]
        congr 1; omega
    · rw [if_neg hu0] at kk
      refine R_br rfl rfl (fun h => absurd (nI_ij (b := 0) (by omega) (by omega) h) hu0) (fun _ => ?_)
      refine R_go 24 rfl rfl trivial ?_
      rw [nI_1]
      exact kk A1 hF ⟨f4, f5⟩ _
  refine R_go 9999 rfl rfl trivial ?_
  try dsimp only [fgt, fpt]
  rw [hG.2.2.2]
  refine R_br rfl rfl (fun h => absurd h (by (simp only [i_eq, i_lt, i_le, Int32.reduceToInt, true_and, and_true, false_and, and_false, or_false, false_or, or_true, true_or, ne_eq] at *; first | done | omega))) (fun _ => ?_)
  refine R_go 9999 rfl rfl trivial ?_
  refine R_cvr rfl hm rfl rfl rfl rfl rfl (Nat.le_of_ble_eq_true rfl) rfl ?_
  refine R_go 9999 rfl rfl trivial ?_
  rw [u1]
  refine R_csr rfl hbc rfl rfl rfl (Nat.le_of_ble_eq_true rfl) rfl ?_
  refine R_go 9999 rfl rfl trivial ?_
  try dsimp only [fgt, fpt]
  rw [e5]
  have upd : a.2 = -1 ∨ (u : Int) < a.2 → Rn 2 mtX0_weighOthers 69 (woL set p r q s (some (.inl (nI u)))) [] (hp A B) Q := fun hh => by
    refine R_go 75 rfl rfl trivial ?_
    exact k75 _ (by first | exact FmO_rf | (repeat' (first | exact FmO_rf | (with_reducible assumption) | (refine FmO_up ?_ (by decide)) | (refine FmO_ug ?_ (by decide) (by decide))))) (by rw [up3_s (by decide)]; exact e4) (by rw [up3_self, if_pos hh]; exact e_n (by omega))
  by_cases hm1 : a.2 = -1
  · exact R_br rfl rfl (fun _ => upd (Or.inl hm1)) (fun h => absurd ((e_m1 (by omega) (by omega)).mpr hm1) h)
  · refine R_br rfl rfl (fun h => absurd ((e_m1 (by omega) (by omega)).mp h) hm1) (fun _ => ?_)
    refine R_go 9999 rfl rfl trivial ?_
    try dsimp only [fgt, fpt]
    rw [e5]
    by_cases hlt : (u : Int) < a.2
    · exact R_br rfl rfl (fun h => absurd h (by rw [i_le, t2, tu]; omega)) (fun _ => upd (Or.inr hlt))
    · refine R_br rfl rfl (fun _ => ?_) (fun h => absurd (by rw [i_le, t2, tu]; omega) h)
      exact k75 A FmO_rf e4 (by rw [if_neg (fun z => z.elim hm1 hlt)]; exact e5)
theorem st_no {set g b h c p r q s : Nat} (a : Int × Int) (ho : ¬ (0 < p + r ∧ 0 < q + s)) : stW set g b h c p r q s a = a := if_neg ho
theorem itN_b {α : Type} {f : Nat → α → α} {P : α → Prop} {a : α} (h0 : P a) {N : Nat} (h : ∀ n a, n < N → P a → P (f n a)) : ∀ n, n ≤ N → P (itN f n a)
  | 0, _ => h0
  | n + 1, hn => h n _ (by omega) (itN_b h0 h n (by omega))
theorem l_wo {set g b h c p r q : Nat} (hs8 : set < 8) {A0 : FI} {B : FJ} {a : Int × Int} (hG : AsG A0 g b h c) (ha : aB a) (h9 : g ≤ 9 ∧ b ≤ 9 ∧ h ≤ 9 ∧ c ≤ 9) (hp' : p ≤ g ∧ r ≤ b ∧ q ≤ h) (h1 : 0 < p + r) {Q : Option AV → AH → Prop} (kend : ∀ A', FmO 29 [] [4, 5] A0 A' → AsR A' (wg3 set g b h c p r q a) → ∀ o6, Rn 2 mtX0_weighOthers 106 (woL set p r q (c + 1) o6) [] (hp A' B) Q) : ∀ (m s : Nat) (A : FI), s + m = c + 1 → 0 < q + s → FmO 29 [] [4, 5] A0 A → AsR A (itN (fun s a => stW set g b h c p r q s a) s a) → ∀ o6, Rn 2 mtX0_weighOthers 24 (woL set p r q s o6) [] (hp A B) Q := by
  intro m
  induction m with
  | zero =>
    intro s A hm h2 hF hA o6
    have : s = c + 1 := by omega
    subst this
    have tc := ti c (by omega)
    have tc1 := ti (c + 1) (by omega)
    refine R_go 9999 rfl rfl trivial ?_
    try dsimp only [fgt, fpt]
    rw [(AsG_fr hG hF).2.2.2]
    refine R_br rfl rfl (fun _ => ?_) (fun h => absurd (by (simp only [i_eq, i_lt, i_le, Int32.reduceToInt, true_and, and_true, false_and, and_false, or_false, false_or, or_true, true_or, ne_eq] at *; first | done | omega)) h)
    exact kend A hF hA o6
  | succ m ih =>
    intro s A hm h2 hF hA o6
    have hb : aB (itN (fun s a => stW set g b h c p r q s a) s a) := itN_b ha (N := c + 1) (fun n a hn h => stp_b h (by omega)) s (by omega)
    exact i_wo hs8 (AsG_fr hG hF) hA hb h9 ⟨hp'.1, hp'.2.1, hp'.2.2, by omega⟩ h1 h2 (fun A' hF' hA' o6 => ih (s + 1) A' (by omega) (by omega) (FmO_tr hF hF') hA' o6) o6
theorem wg3_b {set g b h c p r q : Nat} {a : Int × Int} (ha : aB a) (h9 : p + r + q + c ≤ 36) : aB (wg3 set g b h c p r q a) := itN_b ha (N := c + 1) (fun n a hn h => stp_b h (by omega)) _ (Nat.le_refl _)
theorem wg2_b {set g b h c p r : Nat} {a : Int × Int} (ha : aB a) (h9 : p + r + h + c ≤ 36) : aB (wg2 set g b h c p r a) := itN_b ha (N := h + 1) (fun n a hn h => wg3_b h (by omega)) _ (Nat.le_refl _)
theorem wg1_b {set g b h c p : Nat} {a : Int × Int} (ha : aB a) (h9 : p + b + h + c ≤ 36) : aB (wg1 set g b h c p a) := itN_b ha (N := b + 1) (fun n a hn h => wg2_b h (by omega)) _ (Nat.le_refl _)
abbrev woK (set p r q : Nat) (o5 o6 : Option AV) : List (Option AV) := [some (.inr (.inr (some (29, 0)))), some (.inl (nI set)), some (.inl (nI p)), some (.inl (nI r)), some (.inl (nI q)), o5, o6]
theorem l_wq {set g b h c p r : Nat} (hs8 : set < 8) {A0 : FI} {B : FJ} {a : Int × Int} (hG : AsG A0 g b h c) (ha : aB a) (h9 : g ≤ 9 ∧ b ≤ 9 ∧ h ≤ 9 ∧ c ≤ 9) (hp' : p ≤ g ∧ r ≤ b) (h1 : 0 < p + r) {Q : Option AV → AH → Prop} (kend : ∀ A', FmO 29 [] [4, 5] A0 A' → AsR A' (wg2 set g b h c p r a) → Q none (hp A' B)) : ∀ (m q : Nat) (A : FI), q + m = h + 1 → FmO 29 [] [4, 5] A0 A → AsR A (itN (fun q a => wg3 set g b h c p r q a) q a) → ∀ o5 o6, Rn 2 mtX0_weighOthers 3 (woK set p r q o5 o6) [] (hp A B) Q := by
  intro m
  induction m with
  | zero =>
    intro q A hm hF hA o5 o6
    have : q = h + 1 := by omega
    subst this
    have tc := ti h (by omega)
    have tc1 := ti (h + 1) (by omega)
    refine R_go 9999 rfl rfl trivial ?_
    try dsimp only [fgt, fpt]
    rw [(AsG_fr hG hF).2.2.1]
    refine R_br rfl rfl (fun _ => ?_) (fun h => absurd (by (simp only [i_eq, i_lt, i_le, Int32.reduceToInt, true_and, and_true, false_and, and_false, or_false, false_or, or_true, true_or, ne_eq] at *; first | done | omega)) h)
    refine R_rv rfl rfl ?_
    exact kend A hF hA
  | succ m ih =>
    intro q A hm hF hA o5 o6
    have tc := ti h (by omega)
    have tq := ti q (by omega)
    have hb : aB (itN (fun q a => wg3 set g b h c p r q a) q a) := itN_b ha (N := h + 1) (fun n a hn h => wg3_b h (by omega)) q (by omega)
    have nx : ∀ A', FmO 29 [] [4, 5] A A' → AsR A' (wg3 set g b h c p r q (itN (fun q a => wg3 set g b h c p r q a) q a)) → ∀ o6, Rn 2 mtX0_weighOthers 106 (woL set p r q (c + 1) o6) [] (hp A' B) Q := fun A' hF' hA' o6 => by
      refine R_go 3 rfl rfl trivial ?_
      rw [nI_1]
      exact ih (q + 1) A' (by omega) (FmO_tr hF hF') hA' _ _
    refine R_go 9999 rfl rfl trivial ?_
    try dsimp only [fgt, fpt]
    rw [(AsG_fr hG hF).2.2.1]
    refine R_br rfl rfl (fun h => absurd h (by (simp only [i_eq, i_lt, i_le, Int32.reduceToInt, true_and, and_true, false_and, and_false, or_false, false_or, or_true, true_or, ne_eq] at *; first | done | omega))) (fun _ => ?_)
    refine R_go 9999 rfl rfl trivial ?_
    by_cases hq : q = 0
    · subst hq
      refine R_br rfl rfl (fun _ => ?_) (fun h => absurd rfl h)
      refine R_go 24 rfl rfl trivial ?_
      exact l_wo hs8 (AsG_fr hG hF) hb h9 ⟨hp'.1, hp'.2, by omega⟩ h1 nx c 1 A (by omega) (by omega) FmO_rf (by rw [show itN (fun s a => stW set g b h c p r 0 s a) 1 (itN (fun q a => wg3 set g b h c p r q a) 0 a) = itN (fun q a => wg3 set g b h c p r q a) 0 a from st_no _ (fun z => Nat.lt_irrefl 0 z.2)]; exact hA) _
    · refine R_br rfl rfl (fun h => absurd (nI_ij (b := 0) (by omega) (by omega) h) hq) (fun _ => ?_)
      refine R_go 24 rfl rfl trivial ?_
      exact l_wo hs8 (AsG_fr hG hF) hb h9 ⟨hp'.1, hp'.2, by omega⟩ h1 nx (c + 1) 0 A (by omega) (by omega) FmO_rf hA _
theorem m_weighOthers {set g b h c p r : Nat} (hs8 : set < 8) {A : FI} {B : FJ} {a : Int × Int} (hG : AsG A g b h c) (hA : AsR A a) (ha : aB a) (h9 : g ≤ 9 ∧ b ≤ 9 ∧ h ≤ 9 ∧ c ≤ 9) (hp' : p ≤ g ∧ r ≤ b) (h1 : 0 < p + r) : MV 2 3 mtX0_weighOthers [.inr (.inr (some (29, 0))), .inl (nI set), .inl (nI p), .inl (nI r)] (hp A B) (fun v h' => ∃ A', v = none ∧ h' = hp A' B ∧ FmO 29 [] [4, 5] A A' ∧ AsR A' (wg2 set g b h c p r a)) := by
  refine MV_of caX0_weighOthers (L := [some (.inr (.inr (some (29, 0)))), some (.inl (nI set)), some (.inl (nI p)), some (.inl (nI r)), none, none, none]) rfl rfl ?_
  refine R_go 3 rfl rfl trivial ?_
  exact l_wq hs8 hG ha h9 hp' h1 (fun A' hF hA' => ⟨A', rfl, rfl, hF, hA'⟩) (h + 1) 0 A (by omega) FmO_rf hA none none
