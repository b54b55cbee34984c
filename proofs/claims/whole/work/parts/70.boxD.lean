/-- the spans lie in row g at fr -/
def SBx (g fr : Nat) (A : FI) (bx : Nat → Int × Int) : Prop := ∀ f, f < 8 → (A g 0 (fr + 2 * f)).toInt = (bx f).1 ∧ (A g 0 (fr + 2 * f + 1)).toInt = (bx f).2
def b99 (bx : Nat → Int × Int) : Prop := ∀ f, f < 8 → -99 ≤ (bx f).1 ∧ (bx f).1 ≤ (bx f).2 ∧ (bx f).2 ≤ 99
def SX (s : Nat) (A : FI) (cl nl : List Nat) : Prop := al (A 5 s) cl ∧ A 4 s 3 = nI cl.length ∧ al (A 6 s) nl ∧ A 4 s 4 = nI nl.length ∧ cl.length ≤ 80 ∧ nl.length ≤ 80
abbrev FmSp (A A' : FI) : Prop := FmO 12 [] [2] A A'
theorem SX_fr {s : Nat} {A A' : FI} {cl nl : List Nat} {ss : List Nat} (h : SX s A cl nl) (hF : FmO 12 [] ss A A') : SX s A' cl nl := by
  obtain ⟨a, b, c, d, e, f⟩ := h
  have h4 := hF.1 4 (by decide) (by simp)
  have h5 := hF.1 5 (by decide) (by simp)
  have h6 := hF.1 6 (by decide) (by simp)
  exact ⟨by rw [h5]; exact a, by rw [h4]; exact b, by rw [h6]; exact c, by rw [h4]; exact d, e, f⟩
theorem SBx_fr {g fr : Nat} {A A' : FI} {bx : Nat → Int × Int} {ss : List Nat} (h : SBx g fr A bx) (hg : g = 16 ∨ g = 30) (hF : FmO 12 [] ss A A') : SBx g fr A' bx := by
  have := hF.1 g (by omega) (by simp)
  intro f hf
  rw [this]
  exact h f hf
def RX (A : FI) (B : FJ) (l : List (Int × Int)) : Prop := jl (B 13 0) (l.map (fun a => jI a.1)).reverse ∧ jl (B 14 0) (l.map (fun a => jI a.2)).reverse ∧ A 12 0 2 = nI l.length
def pl (z : Bx) : List (Int × Int) := z.1 ++ z.2.map tp
theorem RX_0 {A : FI} {B : FJ} (h : A 12 0 2 = 0) : RX A B [] := ⟨jl_nil, jl_nil, h⟩
theorem RX_psh {A1 : FI} {B : FJ} {l : List (Int × Int)} (h1 : jl (B 13 0) (l.map (fun a => jI a.1)).reverse) (h2 : jl (B 14 0) (l.map (fun a => jI a.2)).reverse) (x : Int × Int) : RX (up3 A1 12 0 2 (nI (l.length + 1))) (up3 (up3 B 13 0 l.length (jI x.1)) 14 0 l.length (jI x.2)) (x :: l) := by
  refine ⟨?_, ?_, up3_self⟩
  · rw [up3_g (by decide), List.map_cons, List.reverse_cons]
    exact jl_up h1 (by simp)
  · rw [List.map_cons, List.reverse_cons]
    refine jl_up ?_ (by simp)
    rw [up3_g (by decide)]
    exact h2
theorem RX_1 {A : FI} {B : FJ} {a : Int × Int} {l : List (Int × Int)} (h : RX A B (a :: l)) : B 13 0 l.length = jI a.1 ∧ B 14 0 l.length = jI a.2 ∧ A 12 0 2 = nI (l.length + 1) ∧ jl (B 13 0) (l.map (fun a => jI a.1)).reverse ∧ jl (B 14 0) (l.map (fun a => jI a.2)).reverse := by
  obtain ⟨h1, h2, h3⟩ := h
  rw [List.map_cons, List.reverse_cons] at h1 h2
  have e1 := jl_last h1
  have e2 := jl_last h2
  simp only [List.length_reverse, List.length_map] at e1 e2
  exact ⟨e1, e2, h3, jl_init h1, jl_init h2⟩
theorem RX_2 {A : FI} {B : FJ} {a b : Int × Int} {l : List (Int × Int)} (h : RX A B (b :: a :: l)) : B 13 0 l.length = jI a.1 ∧ B 14 0 l.length = jI a.2 ∧ B 13 0 (l.length + 1) = jI b.1 ∧ B 14 0 (l.length + 1) = jI b.2 ∧ A 12 0 2 = nI (l.length + 2) ∧ jl (B 13 0) (l.map (fun a => jI a.1)).reverse ∧ jl (B 14 0) (l.map (fun a => jI a.2)).reverse := by
  obtain ⟨e1, e2, e3, e4, e5⟩ := RX_1 h
  rw [List.map_cons, List.reverse_cons] at e4 e5
  have f1 := jl_last e4
  have f2 := jl_last e5
  simp only [List.length_reverse, List.length_map] at f1 f2
  exact ⟨f1, f2, e1, e2, e3, jl_init e4, jl_init e5⟩
theorem RX_tn {A : FI} {B : FJ} {a : Int × Int} {l : List (Int × Int)} (h : RX A B (a :: l)) (x : Int × Int) : RX A (up3 (up3 B 13 0 l.length (jI x.1)) 14 0 l.length (jI x.2)) (x :: l) := by
  obtain ⟨e1, e2, e3, e4, e5⟩ := RX_1 h
  have := RX_psh (A1 := A) e4 e5 x
  exact ⟨this.1, this.2.1, e3⟩
theorem nI_jI {t : Nat} (h : t < 2147483648) : (nI t).toInt64 = jI t := by
  rw [← Int64.ofInt_int32ToInt, ti t h]; rfl
theorem i_jI {x : Int32} {y : Int} (h : x.toInt = y) : x.toInt64 = jI y := by rw [← Int64.ofInt_int32ToInt, h]; rfl
theorem jX_pl {t : Tk} {bx : Nat → Int × Int} {z : Bx} {y y' : Nat × List Nat} (hw : wst y t = some y') (hz : bty z y) (h1 : 9 ≤ t.1) (h3 : ¬ t.1 = 15) : ∃ b a l, pl z = b :: a :: l ∧ q9 a ∧ q9 b ∧ pl (bst bx z t) = jX t.1 a b :: l := by
  obtain ⟨z1, z2⟩ := z
  obtain ⟨y1, y2, y3⟩ := hz
  dsimp only at y1 y2 y3
  have n1 : ¬ t.1 < 8 := by omega
  have n2 : ¬ t.1 = 8 := by omega
  by_cases h4 : t.1 < 12
  · obtain ⟨b0, a0, r0, w1, c, -, rfl, -⟩ := wst_a hw h1 h4
    rw [w1] at y1
    obtain ⟨b, a, r, rfl, hb, ha, -⟩ := vld_2 y1
    refine ⟨b, a, r ++ z2.map tp, rfl, by unfold q9; omega, by unfold q9; omega, ?_⟩
    unfold bst jX
    rw [if_neg n1, if_neg n2, if_pos h4, if_pos h4]; rfl
  by_cases h5 : t.1 < 15
  · obtain ⟨b0, a0, w1, rfl⟩ := wst_c hw (by omega) h5
    rw [w1] at y1
    obtain ⟨b, a, r, rfl, hb, ha, hr⟩ := vld_2 y1
    have : r = [] := by have := vld_len hr; cases r with
      | nil => rfl
      | cons _ _ => simp at this
    subst this
    refine ⟨b, a, z2.map tp, rfl, by unfold q9; omega, by unfold q9; omega, ?_⟩
    unfold bst jX
    rw [if_neg n1, if_neg n2, if_neg h4, if_pos h5, if_neg h4, if_pos h5]; rfl
  obtain ⟨w0, w1, w2, rfl⟩ := wst_j hw (by omega)
  rw [w1] at y1
  have : z1 = [] := by have := vld_len y1; exact List.eq_nil_of_length_eq_zero this
  subst this
  obtain ⟨b, a, u, rfl⟩ := len2 y2 w2
  have ha := y3 a (by simp)
  have hb := y3 b (by simp)
  have q : ∀ v, v ≤ 2 → q9 (tp v) := fun v hv => by
    rcases (show v = 0 ∨ v = 1 ∨ v = 2 by omega) with rfl | rfl | rfl <;> (unfold q9 tp; decide)
  refine ⟨tp b, tp a, u.map tp, rfl, q a ha, q b hb, ?_⟩
  unfold bst jX
  rw [if_neg n1, if_neg n2, if_neg h4, if_neg h5, if_neg h3, if_neg h4, if_neg h5]
  by_cases h6 : t.1 = 16
  · rw [if_pos h6, h6, ← tp_and ha hb]; rfl
  · rw [if_neg h6, show t.1 = 17 by omega, ← tp_or ha hb]; rfl
abbrev exL (s g fr r i : Nat) (o : Option AV) : List (Option AV) := [some (.inr (.inr (some (12, 0)))), some (.inr (.inr (some (4, s)))), some (.inr (.inr (some (g, 0)))), some (.inl (nI fr)), some (.inl (nI r)), some (.inl (nI i)), o]
/-- one token -/
theorem st_box {s g fr r : Nat} {A : FI} {B : FJ} {cl nl : List Nat} {bx : Nat → Int × Int} {Q : Option AV → AH → Prop} (hg : (g = 16 ∧ fr + 16 ≤ 2592) ∨ (g = 30 ∧ fr + 16 ≤ 16)) (t : Tk) (i n : Nat) (z : Bx) (y y' : Nat × List Nat) (hS : SX s A cl nl) (hx : SBx g fr A bx) (hi : i < cl.length) (hc : cl.getD i 0 = cdt n t) (hnn : t.1 = 8 → n < nl.length ∧ nl.getD n 0 = t.2) (hw : wst y t = some y') (hz : bty z y) (hR : RX A B (pl z)) (hlen : z.1.length + z.2.length < 80) (kk : ∀ A' B' o, RX A' B' (pl (bst bx z t)) → FmSp A A' → FmJ [13, 14] B B' → Rn 2 mtX9_endsOver 27 (exL s g fr r (i + 1) o) [] (hp A' B') Q) (o : Option AV) : Rn 2 mtX9_endsOver 27 (exL s g fr r i o) [] (hp A B) Q := by
  obtain ⟨s1, s2, s3, s4, s5, s6⟩ := hS
  have tI := ti i (by omega)
  have tl := ti cl.length (by omega)
  have hcd := m_codeC (B := B) s1 s2 s5 i hi
  rw [hc] at hcd
  have hpl : (pl z).length = z.1.length + z.2.length := by simp [pl]
  have hl80 : (pl z).length < 80 := by omega
  refine R_go 9999 rfl rfl trivial ?_
  refine R_cvr rfl (m_sizeS s2) rfl rfl rfl rfl rfl (Nat.le_of_ble_eq_true rfl) rfl ?_
  refine R_br rfl rfl (fun h => absurd h (by (simp only [i_eq, i_lt, i_le, Int32.reduceToInt, true_and, and_true, false_and, and_false, or_false, false_or, or_true, true_or, ne_eq] at *; first | done | omega))) (fun _ => ?_)
  refine R_go 9999 rfl rfl trivial ?_
  refine R_cvr rfl hcd rfl rfl rfl rfl rfl (Nat.le_of_ble_eq_true rfl) rfl ?_
  by_cases h1 : t.1 < 8
  · have e1 : cdt n t = t.1 := by unfold cdt cd1; rw [if_neg (by omega), if_pos h1]
    rw [e1]
    have tt := ti t.1 (by omega)
    obtain ⟨x1, x2⟩ := hx t.1 h1
    have i1 : nI fr + 2 * nI t.1 = nI (fr + 2 * t.1) := by rw [show (2 : Int32) * nI t.1 = nI (2 * t.1) from pk_mul 2 t.1, nI_add]
    have i2 : nI (fr + 2 * t.1) + 1 = nI (fr + 2 * t.1 + 1) := nI_1 _
    have c1 : (nI (fr + 2 * t.1)).toNatClampNeg = fr + 2 * t.1 := nI_clamp (by omega)
    have c2 : (nI (fr + 2 * t.1 + 1)).toNatClampNeg = fr + 2 * t.1 + 1 := nI_clamp (by omega)
    have hev : pl (bst bx z t) = bx t.1 :: pl z := by unfold bst; rw [if_pos h1]; rfl
    rw [hev] at kk
    have hpu := m_pushX (B := B) hl80 (jI (bx t.1).1) (jI (bx t.1).2) hR.2.2
    refine R_go 9999 rfl rfl trivial ?_
    refine R_br rfl rfl (fun _ => ?_) (fun h => absurd (by (simp only [i_eq, i_lt, i_le, Int32.reduceToInt, true_and, and_true, false_and, and_false, or_false, false_or, or_true, true_or, ne_eq] at *; first | done | omega)) h)
    refine R_go 9999 rfl rfl trivial ?_
    refine R_csr rfl (m_isFieldT t.1 h1 _ _) rfl rfl rfl (Nat.le_of_ble_eq_true rfl) rfl ?_
    refine R_br rfl rfl (fun h => absurd h (by decide)) (fun _ => ?_)
    rcases hg with ⟨rfl, hfr⟩ | ⟨rfl, hfr⟩
    ·
      refine R_go 9999 rfl rfl ?_ ?_
      · rw [i1, i2]; exact ⟨vpN (n := 2592) (by omega) rfl, vpN (n := 2592) (by omega) rfl⟩
      rw [i1, i2, c1, c2, i_jI x1, i_jI x2]
      repeat' (first
          | (refine R_stop 27 rfl rfl ?_)
          | (refine R_br rfl rfl (fun hbr => absurd hbr (by first | decide | (with_reducible assumption) | (simp only [i_eq, i_lt, i_le, Int32.reduceToInt, ne_eq, up3_self, nI_1]; first | done | omega))) (fun _ => ?_))
          | (refine R_br rfl rfl (fun _ => ?_) (fun hbr => absurd (by first | decide | (with_reducible assumption) | (simp only [i_eq, i_lt, i_le, Int32.reduceToInt, ne_eq, up3_self, nI_1]; first | done | omega)) hbr))
          | (refine R_br rfl rfl (fun _ => ?_) (fun _ => ?_))
          | (refine R_ri rfl rfl ?_)
          | (refine R_rz rfl rfl (Or.inl rfl) ?_)
          | (refine R_rz rfl rfl (Or.inr rfl) ?_)
          | (refine R_rz rfl rfl (b2_01 _) ?_)
          | (refine R_rl rfl rfl ?_)
          | (refine R_rv rfl rfl ?_)
          | (refine R_cvv rfl (hpu) rfl rfl rfl rfl rfl (Nat.le_of_ble_eq_true rfl) rfl ?_)
          | (refine R_sw _ rfl rfl rfl ?_)
          | (refine R_go 27 rfl rfl trivial ?_)
          | (refine R_go 27 rfl rfl (by first | (show _ ∨ _; decide) | (show (_ ∨ _) ∧ (_ ∨ _); decide) | (show (_ ∨ _) ∧ (_ ∨ _) ∧ (_ ∨ _); decide)) ?_)
          | (refine R_go 27 rfl rfl ?_ ?_))
      refine ⟨?_, trivial⟩
      rw [nI_1]
      exact kk _ _ _ (RX_psh hR.1 hR.2.1 _) (by first | exact FmO_rf | (repeat' (first | exact FmO_rf | (with_reducible assumption) | (refine FmO_up ?_ (by decide)) | (refine FmO_ug ?_ (by decide) (by decide))))) (FmJ_up (FmJ_up FmJ_rf (by decide)) (by decide))
    ·
      refine R_go 9999 rfl rfl ?_ ?_
      · rw [i1, i2]; exact ⟨vpN (n := 16) (by omega) rfl, vpN (n := 16) (by omega) rfl⟩
      rw [i1, i2, c1, c2, i_jI x1, i_jI x2]
      repeat' (first
          | (refine R_stop 27 rfl rfl ?_)
          | (refine R_br rfl rfl (fun hbr => absurd hbr (by first | decide | (with_reducible assumption) | (simp only [i_eq, i_lt, i_le, Int32.reduceToInt, ne_eq, up3_self, nI_1]; first | done | omega))) (fun _ => ?_))
          | (refine R_br rfl rfl (fun _ => ?_) (fun hbr => absurd (by first | decide | (with_reducible assumption) | (simp only [i_eq, i_lt, i_le, Int32.reduceToInt, ne_eq, up3_self, nI_1]; first | done | omega)) hbr))
          | (refine R_br rfl rfl (fun _ => ?_) (fun _ => ?_))
          | (refine R_ri rfl rfl ?_)
          | (refine R_rz rfl rfl (Or.inl rfl) ?_)
          | (refine R_rz rfl rfl (Or.inr rfl) ?_)
          | (refine R_rz rfl rfl (b2_01 _) ?_)
          | (refine R_rl rfl rfl ?_)
          | (refine R_rv rfl rfl ?_)
          | (refine R_cvv rfl (hpu) rfl rfl rfl rfl rfl (Nat.le_of_ble_eq_true rfl) rfl ?_)
          | (refine R_sw _ rfl rfl rfl ?_)
          | (refine R_go 27 rfl rfl trivial ?_)
          | (refine R_go 27 rfl rfl (by first | (show _ ∨ _; decide) | (show (_ ∨ _) ∧ (_ ∨ _); decide) | (show (_ ∨ _) ∧ (_ ∨ _) ∧ (_ ∨ _); decide)) ?_)
          | (refine R_go 27 rfl rfl ?_ ?_))
      refine ⟨?_, trivial⟩
      rw [nI_1]
      exact kk _ _ _ (RX_psh hR.1 hR.2.1 _) (by first | exact FmO_rf | (repeat' (first | exact FmO_rf | (with_reducible assumption) | (refine FmO_up ?_ (by decide)) | (refine FmO_ug ?_ (by decide) (by decide))))) (FmJ_up (FmJ_up FmJ_rf (by decide)) (by decide))
  by_cases h2 : t.1 = 8
  · have e1 : cdt n t = 128 + n := by unfold cdt; rw [if_pos h2]
    rw [e1]
    obtain ⟨n1, n2⟩ := hnn h2
    have tn := ti (128 + n) (by omega)
    have hnm := m_numC (B := B) s3 s4 s6 n n1
    rw [n2] at hnm
    have ht99 := (wst_n hw h2).1
    have e2 : nI (128 + n) - 128 = nI n := by
      have h := nI_sub (a := 128 + n) (b := 128) (by omega)
      rw [show 128 + n - 128 = n by omega] at h
      exact h
    have hev : pl (bst bx z t) = ((t.2 : Int), (t.2 : Int)) :: pl z := by unfold bst; rw [if_neg h1, if_pos h2]; rfl
    rw [hev] at kk
    have hpu := m_pushX (B := B) hl80 (jI t.2) (jI t.2) hR.2.2
    have hJ := nI_jI (t := t.2) (by omega)
    repeat' (first
        | (refine R_stop 27 rfl rfl ?_)
        | (refine R_br rfl rfl (fun hbr => absurd hbr (by first | decide | (with_reducible assumption) | (simp only [i_eq, i_lt, i_le, Int32.reduceToInt, ne_eq, up3_self, nI_1]; first | done | omega))) (fun _ => ?_))
        | (refine R_br rfl rfl (fun _ => ?_) (fun hbr => absurd (by first | decide | (with_reducible assumption) | (simp only [i_eq, i_lt, i_le, Int32.reduceToInt, ne_eq, up3_self, nI_1]; first | done | omega)) hbr))
        | (refine R_br rfl rfl (fun _ => ?_) (fun _ => ?_))
        | (refine R_ri rfl rfl ?_)
        | (refine R_rz rfl rfl (Or.inl rfl) ?_)
        | (refine R_rz rfl rfl (Or.inr rfl) ?_)
        | (refine R_rz rfl rfl (b2_01 _) ?_)
        | (refine R_rl rfl rfl ?_)
        | (refine R_rv rfl rfl ?_)
        | (rw [e2])
        | (refine R_cvr rfl (hnm) rfl rfl rfl rfl rfl (Nat.le_of_ble_eq_true rfl) rfl ?_)
        | (rw [hJ])
        | (refine R_cvv rfl (hpu) rfl rfl rfl rfl rfl (Nat.le_of_ble_eq_true rfl) rfl ?_)
        | (refine R_sw _ rfl rfl rfl ?_)
        | (refine R_go 27 rfl rfl trivial ?_)
        | (refine R_go 27 rfl rfl (by first | (show _ ∨ _; decide) | (show (_ ∨ _) ∧ (_ ∨ _); decide) | (show (_ ∨ _) ∧ (_ ∨ _) ∧ (_ ∨ _); decide)) ?_)
        | (refine R_go 27 rfl rfl ?_ ?_))
    refine ⟨?_, trivial⟩
    rw [nI_1]
    exact kk _ _ _ (RX_psh hR.1 hR.2.1 _) (by first | exact FmO_rf | (repeat' (first | exact FmO_rf | (with_reducible assumption) | (refine FmO_up ?_ (by decide)) | (refine FmO_ug ?_ (by decide) (by decide))))) (FmJ_up (FmJ_up FmJ_rf (by decide)) (by decide))
  have hop : 9 ≤ t.1 := by omega
  have e1 : cdt n t = ltr t.1 := by unfold cdt cd1; rw [if_neg h2, if_neg h1]
  rw [e1]
  have hlt : ltr t.1 < 128 ∧ ¬ ltr t.1 < 8 := by
    unfold ltr
    repeat' split
    all_goals omega
  have tt := ti (ltr t.1) (by omega)
  have hnf := fun A B => m_isFieldN (nI (ltr t.1)) (by omega) A B
  by_cases h3 : t.1 = 15
  · obtain ⟨w1, w2, rfl⟩ := wst_x hw h3
    obtain ⟨z1, z2⟩ := z
    obtain ⟨y1, y2, y3⟩ := hz
    dsimp only at y1 y2 y3 hlen
    rw [w1] at y1
    have : z1 = [] := List.eq_nil_of_length_eq_zero (vld_len y1)
    subst this
    obtain ⟨a, u, rfl⟩ := len1 y2 w2
    have ha := y3 a (by simp)
    have hev : pl (bst bx ([], a :: u) t) = (1 - (tp a).2, 1 - (tp a).1) :: u.map tp := by
      unfold bst; rw [if_neg h1, if_neg h2, if_neg (by omega), if_neg (by omega), if_pos h3, ← tp_not ha]; rfl
    rw [hev] at kk
    have hR' : RX A B (tp a :: u.map tp) := hR
    obtain ⟨r1, r2, r3, -⟩ := RX_1 hR'
    have e3 : ltr t.1 = 33 := by rw [h3]; rfl
    rw [e3] at hnf ⊢
    simp only [pl, List.nil_append, List.map_cons, List.length_cons] at hl80
    have hrt := RX_tn hR' (1 - (tp a).2, 1 - (tp a).1)
    repeat' (first
        | (refine R_stop 27 rfl rfl ?_)
        | (refine R_br rfl rfl (fun hbr => absurd hbr (by first | decide | (with_reducible assumption) | (simp only [i_eq, i_lt, i_le, Int32.reduceToInt, ne_eq, up3_self, nI_1]; first | done | omega))) (fun _ => ?_))
        | (refine R_br rfl rfl (fun _ => ?_) (fun hbr => absurd (by first | decide | (with_reducible assumption) | (simp only [i_eq, i_lt, i_le, Int32.reduceToInt, ne_eq, up3_self, nI_1]; first | done | omega)) hbr))
        | (refine R_br rfl rfl (fun _ => ?_) (fun _ => ?_))
        | (refine R_ri rfl rfl ?_)
        | (refine R_rz rfl rfl (Or.inl rfl) ?_)
        | (refine R_rz rfl rfl (Or.inr rfl) ?_)
        | (refine R_rz rfl rfl (b2_01 _) ?_)
        | (refine R_rl rfl rfl ?_)
        | (refine R_rv rfl rfl ?_)
        | (refine R_csr rfl (hnf _ _) rfl rfl rfl (Nat.le_of_ble_eq_true rfl) rfl ?_)
        | (refine R_cvv rfl (m_turnX (n := (u.map tp).length) (by omega) (tp a) r3 r1 r2) rfl rfl rfl rfl rfl (Nat.le_of_ble_eq_true rfl) rfl ?_)
        | (refine R_sw _ rfl rfl rfl ?_)
        | (refine R_go 27 rfl rfl trivial ?_)
        | (refine R_go 27 rfl rfl (by first | (show _ ∨ _; decide) | (show (_ ∨ _) ∧ (_ ∨ _); decide) | (show (_ ∨ _) ∧ (_ ∨ _) ∧ (_ ∨ _); decide)) ?_)
        | (refine R_go 27 rfl rfl ?_ ?_))
    refine ⟨?_, trivial⟩
    rw [nI_1]
    exact kk _ _ _ hrt FmO_rf (FmJ_up (FmJ_up FmJ_rf (by decide)) (by decide))
  have hle : t.1 ≤ 17 := by
    by_cases h : 16 ≤ t.1
    · exact (wst_j hw h).1
    · omega
  have hwl : 9 ≤ t.1 ∧ t.1 ≤ 17 ∧ t.1 ≠ 15 := ⟨hop, hle, h3⟩
  have hl33 : ¬ ltr t.1 = 33 ∧ 20 ≤ ltr t.1 := by
    rcases (show t.1 = 9 ∨ t.1 = 10 ∨ t.1 = 11 ∨ t.1 = 12 ∨ t.1 = 13 ∨ t.1 = 14 ∨ t.1 = 16 ∨ t.1 = 17 by omega) with h | h | h | h | h | h | h | h <;> rw [h] <;> decide
  obtain ⟨b, a, l, p1, p2, p3, p4⟩ := jX_pl (bx := bx) hw hz hop h3
  rw [p1] at hR hl80
  rw [p4] at kk
  simp only [List.length_cons] at hl80
  obtain ⟨r1, r2, r3, r4, r5, r6, r7⟩ := RX_2 hR
  have hj := m_joinX (n := l.length) (by omega) t.1 hwl a b p2 p3 r5 r1 r2 r3 r4
  repeat' (first
      | (refine R_stop 27 rfl rfl ?_)
      | (refine R_br rfl rfl (fun hbr => absurd hbr (by first | decide | (with_reducible assumption) | (simp only [i_eq, i_lt, i_le, Int32.reduceToInt, ne_eq, up3_self, nI_1]; first | done | omega))) (fun _ => ?_))
      | (refine R_br rfl rfl (fun _ => ?_) (fun hbr => absurd (by first | decide | (with_reducible assumption) | (simp only [i_eq, i_lt, i_le, Int32.reduceToInt, ne_eq, up3_self, nI_1]; first | done | omega)) hbr))
      | (refine R_br rfl rfl (fun _ => ?_) (fun _ => ?_))
      | (refine R_ri rfl rfl ?_)
      | (refine R_rz rfl rfl (Or.inl rfl) ?_)
      | (refine R_rz rfl rfl (Or.inr rfl) ?_)
      | (refine R_rz rfl rfl (b2_01 _) ?_)
      | (refine R_rl rfl rfl ?_)
      | (refine R_rv rfl rfl ?_)
      | (refine R_csr rfl (hnf _ _) rfl rfl rfl (Nat.le_of_ble_eq_true rfl) rfl ?_)
      | (refine R_cvv rfl (hj) rfl rfl rfl rfl rfl (Nat.le_of_ble_eq_true rfl) rfl ?_)
      | (refine R_sw _ rfl rfl rfl ?_)
      | (refine R_go 27 rfl rfl trivial ?_)
      | (refine R_go 27 rfl rfl (by first | (show _ ∨ _; decide) | (show (_ ∨ _) ∧ (_ ∨ _); decide) | (show (_ ∨ _) ∧ (_ ∨ _) ∧ (_ ∨ _); decide)) ?_)
      | (refine R_go 27 rfl rfl ?_ ?_))
  refine ⟨?_, trivial⟩
  rw [nI_1]
  exact kk _ _ _ (RX_psh r6 r7 _) (by first | exact FmO_rf | (repeat' (first | exact FmO_rf | (with_reducible assumption) | (refine FmO_up ?_ (by decide)) | (refine FmO_ug ?_ (by decide) (by decide))))) (FmJ_up (FmJ_up FmJ_rf (by decide)) (by decide))
