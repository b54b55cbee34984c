def RXM (A : FI) (B : FJ) (z : Bx) : Prop := jl (B 58 0) (z.1.map (fun a => jI a.1)).reverse ∧ jl (B 59 0) (z.1.map (fun a => jI a.2)).reverse ∧ al (A 51 0) z.2.reverse
/-- the box's spans on one side -/
def SBm (sd : Nat) (A : FI) (bx : Nat → Int × Int) : Prop := ∀ f, f < 8 → (A 55 0 (4 * f + 2 * sd)).toInt = (bx f).1 ∧ (A 55 0 (4 * f + 2 * sd + 1)).toInt = (bx f).2
abbrev FmBx (A A' : FI) : Prop := FmO 31 [51] [] A A'
abbrev obL (gr go fr to sd : Nat) (z : Bx) (i : Nat) (o9 o10 : Option AV) : List (Option AV) := [some (.inr (.inr (some (31, 0)))), some (.inr (.inr (some (gr, 0)))), some (.inr (.inr (some (go, 0)))), some (.inl (nI fr)), some (.inl (nI to)), some (.inl (nI sd)), some (.inl (nI z.1.length)), some (.inl (nI z.2.length)), some (.inl (nI i)), o9, o10, none]
theorem RXM_psh {A : FI} {B : FJ} {r : List (Int × Int)} {u : List Nat} (h : RXM A B (r, u)) (x : Int × Int) : RXM A (up3 (up3 B 58 0 r.length (jI x.1)) 59 0 r.length (jI x.2)) (x :: r, u) := by
  refine ⟨?_, ?_, h.2.2⟩
  · rw [up3_g (by decide), List.map_cons, List.reverse_cons]
    exact jl_up h.1 (by simp)
  · rw [List.map_cons, List.reverse_cons]
    refine jl_up ?_ (by simp)
    rw [up3_g (by decide)]
    exact h.2.1
theorem RXM_psi {A : FI} {B : FJ} {r : List (Int × Int)} {u : List Nat} (h : RXM A B (r, u)) (x : Int × Int) : RXM A (up3 (up3 B 59 0 r.length (jI x.2)) 58 0 r.length (jI x.1)) (x :: r, u) := by
  refine ⟨?_, ?_, h.2.2⟩
  · rw [List.map_cons, List.reverse_cons]
    refine jl_up ?_ (by simp)
    rw [up3_g (by decide)]
    exact h.1
  · rw [up3_g (by decide), List.map_cons, List.reverse_cons]
    exact jl_up h.2.1 (by simp)
theorem RXM_two {A : FI} {B : FJ} {b a : Int × Int} {r : List (Int × Int)} {u : List Nat} (h : RXM A B (b :: a :: r, u)) : B 58 0 r.length = jI a.1 ∧ B 59 0 r.length = jI a.2 ∧ B 58 0 (r.length + 1) = jI b.1 ∧ B 59 0 (r.length + 1) = jI b.2 ∧ RXM A B (r, u) := by
  obtain ⟨h1, h2, h3⟩ := h
  have g1 : jl (B 58 0) ((r.map (fun a => jI a.1)).reverse ++ [jI a.1, jI b.1]) := by simpa using h1
  have g2 : jl (B 59 0) ((r.map (fun a => jI a.2)).reverse ++ [jI a.2, jI b.2]) := by simpa using h2
  have e1 := jl_last2 g1
  have e2 := jl_last2 g2
  simp only [List.length_reverse, List.length_map] at e1 e2
  exact ⟨e1.1, e2.1, e1.2, e2.2, jl_init g1, jl_init g2, h3⟩
theorem RXM_tps {A : FI} {B : FJ} {u : List Nat} {r : List (Int × Int)} (h : RXM A B (r, u)) (v : Nat) (w : Int32) (hw : w = nI v) : RXM (up3 A 51 0 u.length w) B (r, v :: u) := by
  refine ⟨h.1, h.2.1, ?_⟩
  rw [List.reverse_cons, hw]
  exact al_upn h.2.2 (by simp)
theorem RXM_t1 {A : FI} {B : FJ} {u : List Nat} {r : List (Int × Int)} {a : Nat} (h : RXM A B (r, a :: u)) : A 51 0 u.length = nI a ∧ RXM A B (r, u) := by
  obtain ⟨h1, h2, h3⟩ := h
  dsimp only at h3
  rw [List.reverse_cons] at h3
  have := al_last h3
  simp only [List.length_reverse] at this
  exact ⟨this, h1, h2, al_init h3⟩
theorem RXM_t2 {A : FI} {B : FJ} {u : List Nat} {r : List (Int × Int)} {a b : Nat} (h : RXM A B (r, b :: a :: u)) : A 51 0 u.length = nI a ∧ A 51 0 (u.length + 1) = nI b ∧ RXM A B (r, u) := by
  obtain ⟨e1, h1⟩ := RXM_t1 h
  obtain ⟨e2, h2⟩ := RXM_t1 h1
  exact ⟨e2, e1, h2⟩
/-- one token -/
theorem st_onBox {gr go fr to sd : Nat} (hg : (gr = 42 ∧ go = 43) ∨ (gr = 53 ∧ go = 54)) (hsd : sd ≤ 1) {A : FI} {B : FJ} {bx : Nat → Int × Int} {Q : Option AV → AH → Prop} (t : Tk) (i : Nat) (z : Bx) (y y' : Nat × List Nat) (hto : to ≤ 80) (hi : i < to) (ht1 : A gr 0 i = nI t.1) (ht2 : A go 0 i = nI t.2) (hx : SBm sd A bx) (hw : wst y t = some y') (hz : bty z y) (hR : RXM A B z) (hlen : z.1.length + z.2.length < 80) (kk : ∀ A' B' o9 o10, RXM A' B' (bst bx z t) → FmBx A A' → FmJ [58, 59] B B' → Rn 1 mtX12_onBox 9 (obL gr go fr to sd (bst bx z t) (i + 1) o9 o10) [] (hp A' B') Q) (o9 o10 : Option AV) : Rn 1 mtX12_onBox 9 (obL gr go fr to sd z i o9 o10) [] (hp A B) Q := by
  have tI := ti i (by omega)
  have tl := ti to (by omega)
  have cI : (nI i).toNatClampNeg = i := nI_clamp (by omega)
  obtain ⟨z1, z2⟩ := z
  dsimp only at hlen kk
  have cz1 : (nI z1.length).toNatClampNeg = z1.length := nI_clamp (by omega)
  have cz2 : (nI z2.length).toNatClampNeg = z2.length := nI_clamp (by omega)
  have hvi : vp_in (nI i) 80 := vpN (n := 80) (by omega) rfl
  have hv1 : vp_in (nI z1.length) 81 := vpN (n := 81) (by omega) rfl
  have hv2 : vp_in (nI z2.length) 81 := vpN (n := 81) (by omega) rfl
  by_cases h1 : t.1 < 8
  · have tt := ti t.1 (by omega)
    obtain ⟨x1, x2⟩ := hx t.1 h1
    have i1 : (4 : Int32) * nI t.1 + 2 * nI sd = nI (4 * t.1 + 2 * sd) := by rw [show (4 : Int32) * nI t.1 = nI (4 * t.1) from pk_mul 4 t.1, show (2 : Int32) * nI sd = nI (2 * sd) from pk_mul 2 sd, nI_add]
    have i2 : nI (4 * t.1 + 2 * sd) + 1 = nI (4 * t.1 + 2 * sd + 1) := nI_1 _
    have c1 : (nI (4 * t.1 + 2 * sd)).toNatClampNeg = 4 * t.1 + 2 * sd := nI_clamp (by omega)
    have c2 : (nI (4 * t.1 + 2 * sd + 1)).toNatClampNeg = 4 * t.1 + 2 * sd + 1 := nI_clamp (by omega)
    have hb1 : vp_in (nI (4 * t.1 + 2 * sd)) 32 := vpN (n := 32) (by omega) rfl
    have hb2 : vp_in (nI (4 * t.1 + 2 * sd + 1)) 32 := vpN (n := 32) (by omega) rfl
    have hev : bst bx (z1, z2) t = (bx t.1 :: z1, z2) := by unfold bst; rw [if_pos h1]
    rw [hev] at kk
    have hrm := RXM_psh hR (bx t.1)
    rcases hg with ⟨rfl, rfl⟩ | ⟨rfl, rfl⟩
    all_goals
      refine R_go 9999 rfl rfl trivial ?_
      refine R_br rfl rfl (fun h => absurd h (by (simp only [i_eq, i_lt, i_le, Int32.reduceToInt, true_and, and_true, false_and, and_false, or_false, false_or, or_true, true_or, ne_eq] at *; first | done | omega))) (fun _ => ?_)
      refine R_go 9999 rfl rfl hvi ?_
      rw [cI, ht1]
      refine R_br rfl rfl (fun h => absurd h (by (simp only [i_eq, i_lt, i_le, Int32.reduceToInt, true_and, and_true, false_and, and_false, or_false, false_or, or_true, true_or, ne_eq] at *; first | done | omega))) (fun _ => ?_)
      refine R_go 9999 rfl rfl trivial ?_
      refine R_br rfl rfl (fun h => absurd h (by (simp only [i_eq, i_lt, i_le, Int32.reduceToInt, true_and, and_true, false_and, and_false, or_false, false_or, or_true, true_or, ne_eq] at *; first | done | omega))) (fun _ => ?_)
      refine R_go 9999 rfl rfl (by rw [i1]; exact ⟨hv1, hb1⟩) ?_
      rw [i1, c1, cz1, i_jI x1]
      refine R_br rfl rfl (fun h => absurd h (by (simp only [i_eq, i_lt, i_le, Int32.reduceToInt, true_and, and_true, false_and, and_false, or_false, false_or, or_true, true_or, ne_eq] at *; first | done | omega))) (fun _ => ?_)
      refine R_go 9 rfl rfl (by rw [i1, i2]; exact ⟨hv1, hb2⟩) ?_
      rw [i1, i2, c2, cz1, i_jI x2, nI_1, nI_1]
      exact kk _ _ _ _ hrm (by first | exact FmO_rf | (repeat' (first | exact FmO_rf | (with_reducible assumption) | (refine FmO_up ?_ (by decide)) | (refine FmO_ug ?_ (by decide) (by decide))))) (FmJ_up (FmJ_up FmJ_rf (by decide)) (by decide))
  by_cases h2 : t.1 = 8
  · rw [h2] at ht1
    have ht99 := (wst_n hw h2).1
    have hev : bst bx (z1, z2) t = (((t.2 : Int), (t.2 : Int)) :: z1, z2) := by unfold bst; rw [if_neg h1, if_pos h2]
    rw [hev] at kk
    have hrm := RXM_psh hR ((t.2 : Int), (t.2 : Int))
    have hJ := nI_jI (t := t.2) (by omega)
    rcases hg with ⟨rfl, rfl⟩ | ⟨rfl, rfl⟩
    all_goals
      refine R_go 9999 rfl rfl trivial ?_
      refine R_br rfl rfl (fun h => absurd h (by (simp only [i_eq, i_lt, i_le, Int32.reduceToInt, true_and, and_true, false_and, and_false, or_false, false_or, or_true, true_or, ne_eq] at *; first | done | omega))) (fun _ => ?_)
      refine R_go 9999 rfl rfl hvi ?_
      rw [cI, ht1]
      refine R_br rfl rfl (fun h => absurd h (by decide)) (fun _ => ?_)
      refine R_go 9999 rfl rfl trivial ?_
      refine R_br rfl rfl (fun _ => ?_) (fun h => absurd (by decide) h)
      refine R_go 9999 rfl rfl ⟨hv1, hvi⟩ ?_
      rw [cz1, cI, ht2, hJ]
      refine R_br rfl rfl (fun _ => ?_) (fun h => absurd (by decide) h)
      refine R_go 9 rfl rfl ⟨hv1, hvi⟩ ?_
      rw [cz1, cI, ht2, hJ, nI_1, nI_1]
      exact kk _ _ _ _ hrm (by first | exact FmO_rf | (repeat' (first | exact FmO_rf | (with_reducible assumption) | (refine FmO_up ?_ (by decide)) | (refine FmO_ug ?_ (by decide) (by decide))))) (FmJ_up (FmJ_up FmJ_rf (by decide)) (by decide))
  have hop : 9 ≤ t.1 := by omega
  have tt := ti t.1 (by
    by_cases h : 16 ≤ t.1
    · have := (wst_j hw h).1; omega
    · omega)
  by_cases h4 : t.1 < 12
  · obtain ⟨b0, a0, r0, w1, c, -, rfl, -⟩ := wst_a hw hop h4
    obtain ⟨y1, y2, y3⟩ := hz
    dsimp only at y1 y2 y3
    rw [w1] at y1
    obtain ⟨b, a, r, rfl, hb, ha, -⟩ := vld_2 y1
    simp only [List.length_cons] at hlen
    obtain ⟨e1, e2, e3, e4, e5⟩ := RXM_two hR
    have hev : bst bx (b :: a :: r, z2) t = (bar t.1 a b :: r, z2) := by unfold bst; rw [if_neg h1, if_neg h2, if_pos h4]
    rw [hev] at kk
    have hvn : vp_in (nI r.length) 81 := vpN (n := 81) (by omega) rfl
    have hvn1 : vp_in (nI (r.length + 1)) 81 := vpN (n := 81) (by omega) rfl
    have cn : (nI r.length).toNatClampNeg = r.length := nI_clamp (by omega)
    have cn1 : (nI (r.length + 1)).toNatClampNeg = r.length + 1 := nI_clamp (by omega)
    have em : nI (b :: a :: r).length + -1 = nI (r.length + 1) := nI_m1 (r.length + 1)
    have ep : nI (r.length + 1) - 1 = nI r.length := nI_pred r.length
    have qa : q9 a := by unfold q9; omega
    have qb : q9 b := by unfold q9; omega
    have hmu := m_mulM (A := A) (n := r.length) (by omega) a b qa qb e1 e2 e3 e4
    have hr1 := RXM_psh e5 (bar 9 a b)
    have hr2 := RXM_psi e5 (bar 10 a b)
    have hr3 := RXM_psi e5 (bar 11 a b)
    have s1 := jI_add a.1 b.1
    have s2 := jI_add a.2 b.2
    have s3 := jI_sub a.1 b.2
    have s4 := jI_sub a.2 b.1
    rcases (show t.1 = 9 ∨ t.1 = 10 ∨ t.1 = 11 by omega) with h | h | h
    all_goals
      rw [h] at ht1 kk
    all_goals
      rcases hg with ⟨rfl, rfl⟩ | ⟨rfl, rfl⟩
    all_goals
      refine R_go 9999 rfl rfl trivial ?_
      refine R_br rfl rfl (fun h => absurd h (by (simp only [i_eq, i_lt, i_le, Int32.reduceToInt, true_and, and_true, false_and, and_false, or_false, false_or, or_true, true_or, ne_eq] at *; first | done | omega))) (fun _ => ?_)
      refine R_go 9999 rfl rfl hvi ?_
      rw [cI, ht1]
      refine R_br rfl rfl (fun _ => ?_) (fun h => absurd (by decide) h)
      refine R_go 9999 rfl rfl trivial ?_
      refine R_br rfl rfl (fun h => absurd h (by decide)) (fun _ => ?_)
      refine R_go 9999 rfl rfl trivial ?_
    iterate 2
      refine R_br rfl rfl (fun _ => ?_) (fun h => absurd rfl h)
      refine R_go 9999 rfl rfl trivial ?_
      rw [em, ep]
      refine R_cvv rfl hmu rfl rfl rfl rfl rfl (Nat.le_of_ble_eq_true rfl) rfl ?_
      refine R_go 9 rfl rfl trivial ?_
      rw [nI_1]
      exact kk _ _ _ _ hr1 (by first | exact FmO_rf | (repeat' (first | exact FmO_rf | (with_reducible assumption) | (refine FmO_up ?_ (by decide)) | (refine FmO_ug ?_ (by decide) (by decide))))) (FmJ_up (FmJ_up FmJ_rf (by decide)) (by decide))
    iterate 2
      refine R_br rfl rfl (fun h => absurd h (by decide)) (fun _ => ?_)
      refine R_go 9999 rfl rfl trivial ?_
      refine R_br rfl rfl (fun _ => ?_) (fun h => absurd rfl h)
      refine R_go 9999 rfl rfl (by rw [em, ep]; exact ⟨hvn1, hvn⟩) ?_
      rw [em, ep, cn, cn1, e1, e3, s1]
      refine R_br rfl rfl (fun _ => ?_) (fun h => absurd rfl h)
      refine R_go 9 rfl rfl (by rw [ep]; exact ⟨hvn, hvn, hvn1, hvn⟩) ?_
      rw [ep, cn, cn1, e2, e4, s2, nI_1]
      exact kk _ _ _ _ hr2 (by first | exact FmO_rf | (repeat' (first | exact FmO_rf | (with_reducible assumption) | (refine FmO_up ?_ (by decide)) | (refine FmO_ug ?_ (by decide) (by decide))))) (FmJ_up (FmJ_up FmJ_rf (by decide)) (by decide))
    iterate 2
      refine R_br rfl rfl (fun h => absurd h (by decide)) (fun _ => ?_)
      refine R_go 9999 rfl rfl trivial ?_
      refine R_br rfl rfl (fun h => absurd h (by decide)) (fun _ => ?_)
      refine R_go 9999 rfl rfl (by rw [em, ep]; exact ⟨hvn1, hvn⟩) ?_
      rw [em, ep, cn, cn1, e1, e4, s3]
      refine R_br rfl rfl (fun h => absurd h (by decide)) (fun _ => ?_)
      refine R_go 9 rfl rfl (by rw [ep]; exact ⟨hvn, hvn, hvn1, hvn⟩) ?_
      rw [ep, cn, cn1, e2, e3, s4, nI_1]
      exact kk _ _ _ _ hr3 (by first | exact FmO_rf | (repeat' (first | exact FmO_rf | (with_reducible assumption) | (refine FmO_up ?_ (by decide)) | (refine FmO_ug ?_ (by decide) (by decide))))) (FmJ_up (FmJ_up FmJ_rf (by decide)) (by decide))
  by_cases h5 : t.1 < 15
  · obtain ⟨b0, a0, w1, rfl⟩ := wst_c hw (by omega) h5
    obtain ⟨y1, y2, y3⟩ := hz
    dsimp only at y1 y2 y3
    rw [w1] at y1
    obtain ⟨b, a, r, rfl, hb, ha, hr⟩ := vld_2 y1
    have : r = [] := by have := vld_len hr; cases r with
      | nil => rfl
      | cons _ _ => simp at this
    subst this
    simp only [List.length_cons, List.length_nil] at hlen
    obtain ⟨e1, e2, e3, e4, e5⟩ := RXM_two hR
    dsimp only [List.length_nil] at e1 e2 e3 e4
    have hev : bst bx ([b, a], z2) t = ([], spn t.1 a b :: z2) := by unfold bst; rw [if_neg h1, if_neg h2, if_neg h4, if_pos h5]
    rw [hev] at kk
    have hv0 : vp_in 0 81 := vpN (a := 0) (n := 81) (by decide) rfl
    have hvo : vp_in 1 81 := vpN (a := 1) (n := 81) (by decide) rfl
    have em : nI [b, a].length + -2 = 0 := nI_m2 0
    have c0 : (0 : Int32).toNatClampNeg = 0 := rfl
    have c1 : ((0 : Int32) + 1).toNatClampNeg = 1 := rfl
    have hcm := m_spanned t.1 (by omega) h5 a b (by unfold q9; omega) (by unfold q9; omega) A B
    have hrm := RXM_tps e5 (spn t.1 a b) _ rfl
    rcases hg with ⟨rfl, rfl⟩ | ⟨rfl, rfl⟩
    all_goals
      refine R_go 9999 rfl rfl trivial ?_
      refine R_br rfl rfl (fun h => absurd h (by (simp only [i_eq, i_lt, i_le, Int32.reduceToInt, true_and, and_true, false_and, and_false, or_false, false_or, or_true, true_or, ne_eq] at *; first | done | omega))) (fun _ => ?_)
      refine R_go 9999 rfl rfl hvi ?_
      rw [cI, ht1]
      refine R_br rfl rfl (fun _ => ?_) (fun h => absurd (by (simp only [i_eq, i_lt, i_le, Int32.reduceToInt, true_and, and_true, false_and, and_false, or_false, false_or, or_true, true_or, ne_eq] at *; first | done | omega)) h)
      refine R_go 9999 rfl rfl trivial ?_
      refine R_br rfl rfl (fun _ => ?_) (fun h => absurd (by (simp only [i_eq, i_lt, i_le, Int32.reduceToInt, true_and, and_true, false_and, and_false, or_false, false_or, or_true, true_or, ne_eq] at *; first | done | omega)) h)
      refine R_go 9999 rfl rfl trivial ?_
      refine R_br rfl rfl (fun h => absurd h (by (simp only [i_eq, i_lt, i_le, Int32.reduceToInt, true_and, and_true, false_and, and_false, or_false, false_or, or_true, true_or, ne_eq] at *; first | done | omega))) (fun _ => ?_)
      refine R_go 9999 rfl rfl (by rw [em]; exact ⟨hvo, hvo, hv0, hv0⟩) ?_
      rw [em, c0, c1, e1, e2, e3, e4]
      refine R_csr rfl hcm rfl rfl rfl (Nat.le_of_ble_eq_true rfl) rfl ?_
      refine R_go 9 rfl rfl hv2 ?_
      rw [cz2, nI_1, nI_1]
      exact kk _ _ _ _ hrm (by first | exact FmO_rf | (repeat' (first | exact FmO_rf | (with_reducible assumption) | (refine FmO_up ?_ (by decide)) | (refine FmO_ug ?_ (by decide) (by decide))))) FmJ_rf
  by_cases h3 : t.1 = 15
  · obtain ⟨w1, w2, rfl⟩ := wst_x hw h3
    obtain ⟨y1, y2, y3⟩ := hz
    dsimp only at y1 y2 y3
    rw [w1] at y1
    have : z1 = [] := List.eq_nil_of_length_eq_zero (vld_len y1)
    subst this
    obtain ⟨a, u, rfl⟩ := len1 y2 w2
    simp only [List.length_cons, List.length_nil] at hlen
    obtain ⟨e1, e5⟩ := RXM_t1 hR
    have ha := y3 a (by simp)
    have hev : bst bx ([], a :: u) t = ([], (if a = 2 then 2 else 1 - a) :: u) := by unfold bst; rw [if_neg h1, if_neg h2, if_neg h4, if_neg h5, if_pos h3]
    rw [hev] at kk
    rw [h3] at ht1
    have hvu : vp_in (nI u.length) 81 := vpN (n := 81) (by omega) rfl
    have cu : (nI u.length).toNatClampNeg = u.length := nI_clamp (by omega)
    have ep : nI (a :: u).length - 1 = nI u.length := nI_pred u.length
    have hrm := fun w hw => RXM_tps e5 (if a = 2 then 2 else 1 - a) w hw
    rcases hg with ⟨rfl, rfl⟩ | ⟨rfl, rfl⟩
    all_goals
      refine R_go 9999 rfl rfl trivial ?_
      refine R_br rfl rfl (fun h => absurd h (by (simp only [i_eq, i_lt, i_le, Int32.reduceToInt, true_and, and_true, false_and, and_false, or_false, false_or, or_true, true_or, ne_eq] at *; first | done | omega))) (fun _ => ?_)
      refine R_go 9999 rfl rfl hvi ?_
      rw [cI, ht1]
      refine R_br rfl rfl (fun _ => ?_) (fun h => absurd (by decide) h)
      refine R_go 9999 rfl rfl trivial ?_
      refine R_br rfl rfl (fun _ => ?_) (fun h => absurd (by decide) h)
      refine R_go 9999 rfl rfl trivial ?_
      refine R_br rfl rfl (fun _ => ?_) (fun h => absurd (by decide) h)
      refine R_go 9999 rfl rfl trivial ?_
      refine R_br rfl rfl (fun _ => ?_) (fun h => absurd rfl h)
      refine R_go 9999 rfl rfl (by rw [ep]; exact hvu) ?_
      rw [ep, cu, e1]
      rcases (show a = 0 ∨ a = 1 ∨ a = 2 by omega) with rfl | rfl | rfl
      · refine R_br rfl rfl (fun h => absurd h (by decide)) (fun _ => ?_)
        refine R_go 9 rfl rfl (by rw [ep]; exact ⟨hvu, hvu⟩) ?_
        rw [ep, cu, e1, nI_1]
        exact kk _ _ _ _ (hrm _ rfl) (by first | exact FmO_rf | (repeat' (first | exact FmO_rf | (with_reducible assumption) | (refine FmO_up ?_ (by decide)) | (refine FmO_ug ?_ (by decide) (by decide))))) FmJ_rf
      · refine R_br rfl rfl (fun h => absurd h (by decide)) (fun _ => ?_)
        refine R_go 9 rfl rfl (by rw [ep]; exact ⟨hvu, hvu⟩) ?_
        rw [ep, cu, e1, nI_1]
        exact kk _ _ _ _ (hrm _ rfl) (by first | exact FmO_rf | (repeat' (first | exact FmO_rf | (with_reducible assumption) | (refine FmO_up ?_ (by decide)) | (refine FmO_ug ?_ (by decide) (by decide))))) FmJ_rf
      · refine R_br rfl rfl (fun _ => ?_) (fun h => absurd rfl h)
        refine R_go 9 rfl rfl hvu ?_
        rw [cu, nI_1]
        exact kk _ _ _ _ (hrm _ rfl) (by first | exact FmO_rf | (repeat' (first | exact FmO_rf | (with_reducible assumption) | (refine FmO_up ?_ (by decide)) | (refine FmO_ug ?_ (by decide) (by decide))))) FmJ_rf
  obtain ⟨w0, w1, w2, rfl⟩ := wst_j hw (by omega)
  obtain ⟨y1, y2, y3⟩ := hz
  dsimp only at y1 y2 y3
  rw [w1] at y1
  have : z1 = [] := List.eq_nil_of_length_eq_zero (vld_len y1)
  subst this
  obtain ⟨b, a, u, rfl⟩ := len2 y2 w2
  simp only [List.length_cons, List.length_nil] at hlen
  obtain ⟨e1, e2, e5⟩ := RXM_t2 hR
  have ha := y3 a (by simp)
  have hb := y3 b (by simp)
  have hev : bst bx ([], b :: a :: u) t = ([], bth t.1 a b :: u) := by unfold bst; rw [if_neg h1, if_neg h2, if_neg h4, if_neg h5, if_neg h3]
  rw [hev] at kk
  have hvu : vp_in (nI u.length) 81 := vpN (n := 81) (by omega) rfl
  have hvu1 : vp_in (nI (u.length + 1)) 81 := vpN (n := 81) (by omega) rfl
  have cu : (nI u.length).toNatClampNeg = u.length := nI_clamp (by omega)
  have cu1 : (nI (u.length + 1)).toNatClampNeg = u.length + 1 := nI_clamp (by omega)
  have em : nI (b :: a :: u).length + -1 = nI (u.length + 1) := nI_m1 (u.length + 1)
  have ep : nI (u.length + 1) - 1 = nI u.length := nI_pred u.length
  have hbo := m_both t.1 a b (by omega) w0 ha hb A B
  have hrm := RXM_tps e5 (bth t.1 a b) _ rfl
  have n15 : ¬ nI t.1 = 15 := by (simp only [i_eq, i_lt, i_le, Int32.reduceToInt, true_and, and_true, false_and, and_false, or_false, false_or, or_true, true_or, ne_eq] at *; first | done | omega)
  rcases hg with ⟨rfl, rfl⟩ | ⟨rfl, rfl⟩
  all_goals
    refine R_go 9999 rfl rfl trivial ?_
    refine R_br rfl rfl (fun h => absurd h (by (simp only [i_eq, i_lt, i_le, Int32.reduceToInt, true_and, and_true, false_and, and_false, or_false, false_or, or_true, true_or, ne_eq] at *; first | done | omega))) (fun _ => ?_)
    refine R_go 9999 rfl rfl hvi ?_
    rw [cI, ht1]
    refine R_br rfl rfl (fun _ => ?_) (fun h => absurd (by (simp only [i_eq, i_lt, i_le, Int32.reduceToInt, true_and, and_true, false_and, and_false, or_false, false_or, or_true, true_or, ne_eq] at *; first | done | omega)) h)
    refine R_go 9999 rfl rfl trivial ?_
    refine R_br rfl rfl (fun _ => ?_) (fun h => absurd (by (simp only [i_eq, i_lt, i_le, Int32.reduceToInt, true_and, and_true, false_and, and_false, or_false, false_or, or_true, true_or, ne_eq] at *; first | done | omega)) h)
    refine R_go 9999 rfl rfl trivial ?_
    refine R_br rfl rfl (fun _ => ?_) (fun h => absurd (by (simp only [i_eq, i_lt, i_le, Int32.reduceToInt, true_and, and_true, false_and, and_false, or_false, false_or, or_true, true_or, ne_eq] at *; first | done | omega)) h)
    refine R_go 9999 rfl rfl trivial ?_
    refine R_br rfl rfl (fun h => absurd h n15) (fun _ => ?_)
    refine R_go 9999 rfl rfl (by rw [em, ep]; exact ⟨hvu1, hvu⟩) ?_
    rw [em, ep, cu, cu1, e1, e2]
    refine R_csr rfl hbo rfl rfl rfl (Nat.le_of_ble_eq_true rfl) rfl ?_
    refine R_go 9 rfl rfl hvu ?_
    rw [cu, nI_1]
    exact kk _ _ _ _ hrm (by first | exact FmO_rf | (repeat' (first | exact FmO_rf | (with_reducible assumption) | (refine FmO_up ?_ (by decide)) | (refine FmO_ug ?_ (by decide) (by decide))))) FmJ_rf
