/-- the tokens of one condition -/
theorem l_boxT {s g fr r : Nat} {cl nl : List Nat} {bx : Nat → Int × Int} {Q : Option AV → AH → Prop} (hg : (g = 16 ∧ fr + 16 ≤ 2592) ∨ (g = 30 ∧ fr + 16 ≤ 16)) (h99 : b99 bx) : ∀ (l : List Tk) (i n : Nat) (z : Bx) (y y' : Nat × List Nat) (A : FI) (B : FJ), SX s A cl nl → SBx g fr A bx → (∀ k, k < l.length → i + k < cl.length ∧ cl.getD (i + k) 0 = (enc n l).getD k 0) → (∀ k, k < (nms l).length → n + k < nl.length ∧ nl.getD (n + k) 0 = (nms l).getD k 0) → wfs y l = some y' → bty z y → RX A B (pl z) → z.1.length + z.2.length + l.length ≤ 80 → (∀ A' B' o, RX A' B' (pl (bsl bx z l)) → bty (bsl bx z l) y' → FmSp A A' → FmJ [13, 14] B B' → Rn 2 mtX9_endsOver 27 (exL s g fr r (i + l.length) o) [] (hp A' B') Q) → ∀ o, Rn 2 mtX9_endsOver 27 (exL s g fr r i o) [] (hp A B) Q := by
  intro l
  induction l with
  | nil =>
    intro i n z y y' A B hS hx hc hn hw hz hR hl kk o
    cases hw
    exact kk A B o hR hz FmO_rf FmJ_rf
  | cons t l ih =>
    intro i n z y y' A B hS hx hc hn hw hz hR hl kk o
    simp only [List.length_cons] at hl
    unfold wfs at hw
    cases hw1 : wst y t with
    | none => rw [hw1] at hw; cases hw
    | some y1 =>
      rw [hw1] at hw
      dsimp only at hw
      have h0 := hc 0 (by simp)
      have he0 : (enc n (t :: l)).getD 0 0 = cdt n t := by
        unfold cdt
        rw [enc]
        split <;> rfl
      rw [he0] at h0
      have htl : enc (if t.1 = 8 then n + 1 else n) l = (enc n (t :: l)).tail := by
        rw [enc]
        split <;> rfl
      refine st_box hg t i n z y y1 hS hx (by simpa using h0.1) (by simpa using h0.2) (fun h8 => ?_) hw1 hz hR (by omega) (fun A' B' o' hR' hF hJ => ?_) o
      · have := hn 0 (by rw [nms, if_pos h8]; simp)
        rw [nms, if_pos h8] at this
        simpa using this
      · have hlen := bst_len (bx := bx) z t
        refine ih (i + 1) (if t.1 = 8 then n + 1 else n) (bst bx z t) y1 y' A' B' (SX_fr hS hF) (SBx_fr hx (by omega) hF) (fun k hk => ?_) (fun k hk => ?_) hw (bst_ty h99 hz hw1) hR' (by omega) (fun A2 B2 o2 a b c d => ?_) o'
        · have := hc (k + 1) (by simpa using hk)
          rw [show i + 1 + k = i + (k + 1) by omega]
          refine ⟨this.1, ?_⟩
          rw [this.2, htl]
          simp [List.getD_eq_getElem?_getD]
        · by_cases h8 : t.1 = 8
          · have := hn (k + 1) (by rw [nms, if_pos h8]; simpa using hk)
            rw [if_pos h8, show n + 1 + k = n + (k + 1) by omega]
            refine ⟨this.1, ?_⟩
            rw [this.2, nms, if_pos h8]
            simp [List.getD_eq_getElem?_getD]
          · have := hn k (by rw [nms, if_neg h8]; exact hk)
            rw [if_neg h8]
            refine ⟨this.1, ?_⟩
            rw [this.2, nms, if_neg h8]
        · rw [show i + 1 + l.length = i + (t :: l).length by simp; omega]
          exact kk A2 B2 o2 a b (FmO_tr hF c) (FmJ_tr hJ d)
/-- a condition's truth on a box -/
def trB (bx : Nat → Int × Int) (l : List Tk) : Nat := (bsl bx ([], []) l).2.headD 0
/-- r with the END d in it -/
def ob (r d : Nat) : Nat := r ||| 1 <<< d
/-- the ENDs of a box -/
def enS (bx : Nat → Int × Int) : Nat → List (List Tk × Nat) → Nat
  | r, [] => r
  | r, [l] => ob r l.2
  | r, l :: m :: t => if trB bx l.1 = 1 then ob r l.2 else enS bx (if trB bx l.1 = 0 then r else ob r l.2) (m :: t)
theorem ob_le {r d : Nat} (hr : r ≤ 3) (hd : d ≤ 1) : ob r d ≤ 3 := by
  rcases (show r = 0 ∨ r = 1 ∨ r = 2 ∨ r = 3 by omega) with rfl | rfl | rfl | rfl <;> rcases (show d = 0 ∨ d = 1 by omega) with rfl | rfl <;> decide
theorem bty_1 {z : Bx} (h : bty z (1, [])) : ∃ v, z = ([], [v]) ∧ v ≤ 2 := by
  obtain ⟨z1, z2⟩ := z
  obtain ⟨h1, h2, h3⟩ := h
  dsimp only at h1 h2 h3
  have e1 : z1 = [] := List.eq_nil_of_length_eq_zero (vld_len h1)
  obtain ⟨v, u, rfl⟩ := len1 h2 (by decide)
  have e2 : u = [] := by cases u with
    | nil => rfl
    | cons _ _ => simp at h2
  subst e1 e2
  exact ⟨v, rfl, h3 v (by simp)⟩
def EnP (A : FI) (B : FJ) (x : Nat) : Option AV → AH → Prop := fun r h' => ∃ A' B', h' = hp A' B' ∧ r = some (.inl (nI x)) ∧ FmSp A A' ∧ FmJ [13, 14] B B'
theorem EnP_tr {A A1 : FI} {B B1 : FJ} {x : Nat} {r : Option AV} {h' : AH} (a : FmSp A A1) (b : FmJ [13, 14] B B1) (k : EnP A1 B1 x r h') : EnP A B x r h' := by
  obtain ⟨A', B', k1, k2, k3, k4⟩ := k
  exact ⟨A', B', k1, k2, FmO_tr a k3, FmJ_tr b k4⟩
/-- at a code that ends a line -/
theorem st_boxE {s g fr r : Nat} {A : FI} {B : FJ} {cl nl : List Nat} {Q : Option AV → AH → Prop} (i c : Nat) (hS : SX s A cl nl) (hi : i < cl.length) (hc : cl.getD i 0 = c) (h1 : 16 ≤ c) (h2 : c < 20) (hr : r ≤ 3) (k18 : 18 ≤ c → Q (some (.inl (nI (ob r (c - 18))))) (hp A B)) (k16 : c < 18 → Rn 2 mtX9_endsOver 164 (exL s g fr r i (some (.inl (nI c)))) [] (hp A B) Q) (o : Option AV) : Rn 2 mtX9_endsOver 27 (exL s g fr r i o) [] (hp A B) Q := by
  obtain ⟨s1, s2, s3, s4, s5, s6⟩ := hS
  have tI := ti i (by omega)
  have tl := ti cl.length (by omega)
  have tc := ti c (by omega)
  have hcd := m_codeC (B := B) s1 s2 s5 i hi
  rw [hc] at hcd
  have n33 : ¬ nI c = 33 := by (simp only [i_eq, i_lt, i_le, Int32.reduceToInt, true_and, and_true, false_and, and_false, or_false, false_or, or_true, true_or, ne_eq] at *; first | done | omega)
  have hnf := fun A B => m_isFieldN (nI c) (by omega) A B
  refine R_go 9999 rfl rfl trivial ?_
  refine R_cvr rfl (m_sizeS s2) rfl rfl rfl rfl rfl (Nat.le_of_ble_eq_true rfl) rfl ?_
  refine R_br rfl rfl (fun h => absurd h (by (simp only [i_eq, i_lt, i_le, Int32.reduceToInt, true_and, and_true, false_and, and_false, or_false, false_or, or_true, true_or, ne_eq] at *; first | done | omega))) (fun _ => ?_)
  refine R_go 9999 rfl rfl trivial ?_
  refine R_cvr rfl hcd rfl rfl rfl rfl rfl (Nat.le_of_ble_eq_true rfl) rfl ?_
  by_cases h18 : 18 ≤ c
  ·
    have k := k18 h18
    clear k18 k16
    rcases (show c = 18 ∨ c = 19 by omega) with e | e <;> subst e
    all_goals
      rcases (show r = 0 ∨ r = 1 ∨ r = 2 ∨ r = 3 by omega) with e | e | e | e <;> subst e
    all_goals
      repeat' (first
          | (refine R_br rfl rfl (fun hbr => absurd hbr (by first | decide | (with_reducible assumption))) (fun _ => ?_))
          | (refine R_br rfl rfl (fun _ => ?_) (fun hbr => absurd (by first | decide | (with_reducible assumption)) hbr))
          | (refine R_br rfl rfl (fun _ => ?_) (fun _ => ?_))
          | (refine R_ri rfl rfl ?_)
          | (refine R_rz rfl rfl (Or.inl rfl) ?_)
          | (refine R_rz rfl rfl (Or.inr rfl) ?_)
          | (refine R_rz rfl rfl (b2_01 _) ?_)
          | (refine R_rl rfl rfl ?_)
          | (refine R_rv rfl rfl ?_)
          | (refine R_csr rfl (hnf _ _) rfl rfl rfl (Nat.le_of_ble_eq_true rfl) rfl ?_)
          | (refine R_sw _ rfl rfl rfl ?_)
          | (refine R_go 9999 rfl rfl trivial ?_)
          | (refine R_go 9999 rfl rfl (by first | (show _ ∨ _; decide) | (show (_ ∨ _) ∧ (_ ∨ _); decide) | (show (_ ∨ _) ∧ (_ ∨ _) ∧ (_ ∨ _); decide)) ?_)
          | (refine R_go 9999 rfl rfl ?_ ?_))
      exact k
  ·
    repeat' (first
        | (refine R_stop 164 rfl rfl ?_)
        | (refine R_br rfl rfl (fun hbr => absurd hbr (by first | decide | (with_reducible assumption) | (simp only [i_eq, i_lt, i_le, Int32.reduceToInt, ne_eq, up3_self, nI_1]; first | done | omega))) (fun _ => ?_))
        | (refine R_br rfl rfl (fun _ => ?_) (fun hbr => absurd (by first | decide | (with_reducible assumption) | (simp only [i_eq, i_lt, i_le, Int32.reduceToInt, ne_eq, up3_self, nI_1]; first | done | omega)) hbr))
        | (refine R_br rfl rfl (fun _ => ?_) (fun _ => ?_))
        | (refine R_ri rfl rfl ?_)
        | (refine R_rz rfl rfl (Or.inl rfl) ?_)
        | (refine R_rz rfl rfl (Or.inr rfl) ?_)
        | (refine R_rz rfl rfl (b2_01 _) ?_)
        | (refine R_rl rfl rfl ?_)
        | (refine R_rv rfl rfl ?_)
        | (refine R_csr rfl (hnf _ _) rfl rfl rfl (Nat.le_of_ble_eq_true rfl) rfl ?_)
        | (refine R_sw _ rfl rfl rfl ?_)
        | (refine R_go 164 rfl rfl trivial ?_)
        | (refine R_go 164 rfl rfl (by first | (show _ ∨ _; decide) | (show (_ ∨ _) ∧ (_ ∨ _); decide) | (show (_ ∨ _) ∧ (_ ∨ _) ∧ (_ ∨ _); decide)) ?_)
        | (refine R_go 164 rfl rfl ?_ ?_))
    exact ⟨k16 (by omega), trivial⟩
theorem st_boxF {s g fr r : Nat} {A : FI} {B : FJ} {Q : Option AV → AH → Prop} (i d v : Nat) (hd : d ≤ 1) (hr : r ≤ 3) (hv : v ≤ 2) (hi : i ≤ 80) (hR : RX A B [tp v]) (k1 : v = 1 → Q (some (.inl (nI (ob r d)))) (hp A B)) (k0 : ¬ v = 1 → Rn 2 mtX9_endsOver 27 (exL s g fr (if v = 0 then r else ob r d) (i + 1) (some (.inl (nI (16 + d))))) [] (hp (up3 A 12 0 2 0) B) Q) : Rn 2 mtX9_endsOver 164 (exL s g fr r i (some (.inl (nI (16 + d))))) [] (hp A B) Q := by
  obtain ⟨e1, e2, e3, -⟩ := RX_1 hR
  have c0 : B 13 0 (0 : Int32).toNatClampNeg = jI (tp v).1 := e1
  have c1 : B 14 0 (0 : Int32).toNatClampNeg = jI (tp v).2 := e2
  have hv0 : vp_in (0 : Int32) 80 := vpN (a := 0) (n := 80) (by decide) rfl
  have tI := ti i (by omega)
  refine R_go 9999 rfl rfl hv0 ?_
  rw [c1]
  rcases (show v = 0 ∨ v = 1 ∨ v = 2 by omega) with e | e | e <;> subst e
  ·
    have k := k0 (by decide)
    rw [if_pos rfl] at k
    refine R_br rfl rfl (fun _ => ?_) (fun h => absurd (by decide) h)
    refine R_go 9999 rfl rfl hv0 ?_
    rw [c0]
    refine R_br rfl rfl (fun h => absurd h (by decide)) (fun _ => ?_)
    repeat' (first
        | (refine R_stop 27 rfl rfl ?_)
        | (refine R_br rfl rfl (fun hbr => absurd hbr (by first | decide | (with_reducible assumption) | (simp only [i_eq, i_lt, i_le, Int32.reduceToInt, ne_eq, up3_self, nI_1]; first | done | omega))) (fun _ => ?_))
        | (refine R_br rfl rfl (fun _ => ?_) (fun hbr => absurd (by first | decide | (with_reducible assumption) | (simp only [i_eq, i_lt, i_le, Int32.reduceToInt, ne_eq, up3_self, nI_1]; first | done | omega)) hbr))
        | (refine R_br rfl rfl (fun _ => ?_) (fun _ => ?_))
        | (refine R_ri rfl rfl ?_)
        | (refine R_rz rfl rfl (Or.inl rfl) ?_)
        | (refine R_rz rfl rfl (Or.inr rfl) ?_)
        | (refine R_rz rfl rfl (b2_01 _) ?_)
        | (refine R_rl rfl rfl ?_)
        | (refine R_rv rfl rfl ?_)
        | (refine R_sw _ rfl rfl rfl ?_)
        | (refine R_go 27 rfl rfl trivial ?_)
        | (refine R_go 27 rfl rfl (by first | (show _ ∨ _; decide) | (show (_ ∨ _) ∧ (_ ∨ _); decide) | (show (_ ∨ _) ∧ (_ ∨ _) ∧ (_ ∨ _); decide)) ?_)
        | (refine R_go 27 rfl rfl ?_ ?_))
    refine ⟨?_, trivial⟩
    rw [nI_1]
    rw [show (nI r ||| 0 : Int32) = nI r by rcases (show r = 0 ∨ r = 1 ∨ r = 2 ∨ r = 3 by omega) with e | e | e | e <;> subst e <;> rfl]
    exact k
  ·
    have k := k1 rfl
    refine R_br rfl rfl (fun h => absurd h (by decide)) (fun _ => ?_)
    refine R_go 9999 rfl rfl hv0 ?_
    rw [c0]
    refine R_br rfl rfl (fun _ => ?_) (fun h => absurd (by decide) h)
    rcases (show d = 0 ∨ d = 1 by omega) with e | e <;> subst e
    all_goals
      rcases (show r = 0 ∨ r = 1 ∨ r = 2 ∨ r = 3 by omega) with e | e | e | e <;> subst e
    all_goals
      repeat' (first
          | (refine R_br rfl rfl (fun hbr => absurd hbr (by first | decide | (with_reducible assumption))) (fun _ => ?_))
          | (refine R_br rfl rfl (fun _ => ?_) (fun hbr => absurd (by first | decide | (with_reducible assumption)) hbr))
          | (refine R_br rfl rfl (fun _ => ?_) (fun _ => ?_))
          | (refine R_ri rfl rfl ?_)
          | (refine R_rz rfl rfl (Or.inl rfl) ?_)
          | (refine R_rz rfl rfl (Or.inr rfl) ?_)
          | (refine R_rz rfl rfl (b2_01 _) ?_)
          | (refine R_rl rfl rfl ?_)
          | (refine R_rv rfl rfl ?_)
          | (refine R_sw _ rfl rfl rfl ?_)
          | (refine R_go 9999 rfl rfl trivial ?_)
          | (refine R_go 9999 rfl rfl (by first | (show _ ∨ _; decide) | (show (_ ∨ _) ∧ (_ ∨ _); decide) | (show (_ ∨ _) ∧ (_ ∨ _) ∧ (_ ∨ _); decide)) ?_)
          | (refine R_go 9999 rfl rfl ?_ ?_))
      exact k
  ·
    have k := k0 (by decide)
    rw [if_neg (by decide)] at k
    refine R_br rfl rfl (fun h => absurd h (by decide)) (fun _ => ?_)
    refine R_go 9999 rfl rfl hv0 ?_
    rw [c0]
    refine R_br rfl rfl (fun h => absurd h (by decide)) (fun _ => ?_)
    rcases (show d = 0 ∨ d = 1 by omega) with e | e <;> subst e
    all_goals
      rcases (show r = 0 ∨ r = 1 ∨ r = 2 ∨ r = 3 by omega) with e | e | e | e <;> subst e
    all_goals
      repeat' (first
          | (refine R_stop 27 rfl rfl ?_)
          | (refine R_br rfl rfl (fun hbr => absurd hbr (by first | decide | (with_reducible assumption) | (simp only [i_eq, i_lt, i_le, Int32.reduceToInt, ne_eq, up3_self, nI_1]; first | done | omega))) (fun _ => ?_))
          | (refine R_br rfl rfl (fun _ => ?_) (fun hbr => absurd (by first | decide | (with_reducible assumption) | (simp only [i_eq, i_lt, i_le, Int32.reduceToInt, ne_eq, up3_self, nI_1]; first | done | omega)) hbr))
          | (refine R_br rfl rfl (fun _ => ?_) (fun _ => ?_))
          | (refine R_ri rfl rfl ?_)
          | (refine R_rz rfl rfl (Or.inl rfl) ?_)
          | (refine R_rz rfl rfl (Or.inr rfl) ?_)
          | (refine R_rz rfl rfl (b2_01 _) ?_)
          | (refine R_rl rfl rfl ?_)
          | (refine R_rv rfl rfl ?_)
          | (refine R_sw _ rfl rfl rfl ?_)
          | (refine R_go 27 rfl rfl trivial ?_)
          | (refine R_go 27 rfl rfl (by first | (show _ ∨ _; decide) | (show (_ ∨ _) ∧ (_ ∨ _); decide) | (show (_ ∨ _) ∧ (_ ∨ _) ∧ (_ ∨ _); decide)) ?_)
          | (refine R_go 27 rfl rfl ?_ ?_))
      refine ⟨?_, trivial⟩
      rw [nI_1]
      exact k
