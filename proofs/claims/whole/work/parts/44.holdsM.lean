theorem m_compared (m : Nat) (h1 : 12 ≤ m) (h2 : m < 15) (a b : Int64) (A : FI) (B : FJ) : MS 0 3 mtX12_compared [.inl (nI m), .inr (.inl a), .inr (.inl b)] (hp A B) (Ret (some (.inl (nI (cmt m a b)))) (hp A B)) := by
  refine MS_of caX12_compared (L := [some (.inl (nI m)), some (.inr (.inl a)), none, some (.inr (.inl b)), none]) rfl rfl ?_
  rcases (show m = 12 ∨ m = 13 ∨ m = 14 by omega) with rfl | rfl | rfl
  ·
    repeat' (first
        | (refine R_br rfl rfl (fun hbr => absurd hbr (by first | decide | (with_reducible assumption))) (fun _ => ?_))
        | (refine R_br rfl rfl (fun _ => ?_) (fun hbr => absurd (by first | decide | (with_reducible assumption)) hbr))
        | (refine R_br rfl rfl (fun _ => ?_) (fun _ => ?_))
        | (refine R_ri rfl rfl ?_)
        | (refine R_rz rfl rfl (Or.inl rfl) ?_)
        | (refine R_rz rfl rfl (Or.inr rfl) ?_)
        | (refine R_rz rfl rfl (b2_01 _) ?_)
        | (refine R_rl rfl rfl ?_)
        | (refine R_rv rfl rfl ?_)
        | (refine R_sw _ rfl rfl rfl ?_)
        | (refine R_go 9999 rfl rfl trivial ?_)
        | (refine R_go 9999 rfl rfl (by first | (show _ ∨ _; decide) | (show (_ ∨ _) ∧ (_ ∨ _); decide) | (show (_ ∨ _) ∧ (_ ∨ _) ∧ (_ ∨ _); decide)) ?_)
        | (refine R_go 9999 rfl rfl ?_ ?_))
    · rename_i h; exact ret_i (by have : ¬ a < b := fun z => absurd ((lg_cmp_lt _ _).mpr z) (by simp only [i_lt, i_le, Int32.reduceToInt] at *; omega); simp [cmt, this]; rfl) rfl
    · rename_i h; exact ret_i (by have : a < b := (lg_cmp_lt _ _).mp (by simp only [i_lt, i_le, Int32.reduceToInt] at *; omega); simp [cmt, this]; rfl) rfl
  ·
    repeat' (first
        | (refine R_br rfl rfl (fun hbr => absurd hbr (by first | decide | (with_reducible assumption))) (fun _ => ?_))
        | (refine R_br rfl rfl (fun _ => ?_) (fun hbr => absurd (by first | decide | (with_reducible assumption)) hbr))
        | (refine R_br rfl rfl (fun _ => ?_) (fun _ => ?_))
        | (refine R_ri rfl rfl ?_)
        | (refine R_rz rfl rfl (Or.inl rfl) ?_)
        | (refine R_rz rfl rfl (Or.inr rfl) ?_)
        | (refine R_rz rfl rfl (b2_01 _) ?_)
        | (refine R_rl rfl rfl ?_)
        | (refine R_rv rfl rfl ?_)
        | (refine R_sw _ rfl rfl rfl ?_)
        | (refine R_go 9999 rfl rfl trivial ?_)
        | (refine R_go 9999 rfl rfl (by first | (show _ ∨ _; decide) | (show (_ ∨ _) ∧ (_ ∨ _); decide) | (show (_ ∨ _) ∧ (_ ∨ _) ∧ (_ ∨ _); decide)) ?_)
        | (refine R_go 9999 rfl rfl ?_ ?_))
    · rename_i h; exact ret_i (by have : a = b := (lg_cmp_eq _ _).mp h; simp [cmt, this]; rfl) rfl
    · rename_i h; exact ret_i (by have : ¬ a = b := fun z => h ((lg_cmp_eq _ _).mpr z); simp [cmt, this]; rfl) rfl
  ·
    repeat' (first
        | (refine R_br rfl rfl (fun hbr => absurd hbr (by first | decide | (with_reducible assumption))) (fun _ => ?_))
        | (refine R_br rfl rfl (fun _ => ?_) (fun hbr => absurd (by first | decide | (with_reducible assumption)) hbr))
        | (refine R_br rfl rfl (fun _ => ?_) (fun _ => ?_))
        | (refine R_ri rfl rfl ?_)
        | (refine R_rz rfl rfl (Or.inl rfl) ?_)
        | (refine R_rz rfl rfl (Or.inr rfl) ?_)
        | (refine R_rz rfl rfl (b2_01 _) ?_)
        | (refine R_rl rfl rfl ?_)
        | (refine R_rv rfl rfl ?_)
        | (refine R_sw _ rfl rfl rfl ?_)
        | (refine R_go 9999 rfl rfl trivial ?_)
        | (refine R_go 9999 rfl rfl (by first | (show _ ∨ _; decide) | (show (_ ∨ _) ∧ (_ ∨ _); decide) | (show (_ ∨ _) ∧ (_ ∨ _) ∧ (_ ∨ _); decide)) ?_)
        | (refine R_go 9999 rfl rfl ?_ ?_))
    · rename_i h; exact ret_i (by have : ¬ b < a := fun z => absurd ((lg_cmp_gt _ _).mpr z) (by simp only [i_lt, i_le, Int32.reduceToInt] at *; omega); simp [cmt, this]; rfl) rfl
    · rename_i h; exact ret_i (by have : b < a := (lg_cmp_gt _ _).mp (by simp only [i_lt, i_le, Int32.reduceToInt] at *; omega); simp [cmt, this]; rfl) rfl
theorem m_joinedM (m a b : Nat) (h1 : 16 ≤ m) (h2 : m ≤ 17) (ha : a ≤ 2) (hb : b ≤ 2) (A : FI) (B : FJ) : MS 0 3 mtX12_joined [.inl (nI m), .inl (nI a), .inl (nI b)] (hp A B) (Ret (some (.inl (nI (jnd m a b)))) (hp A B)) := by
  refine MS_of caX12_joined (L := [some (.inl (nI m)), some (.inl (nI a)), some (.inl (nI b))]) rfl rfl ?_
  rcases (show m = 16 ∨ m = 17 by omega) with rfl | rfl <;> rcases (show a = 0 ∨ a = 1 ∨ a = 2 by omega) with rfl | rfl | rfl
  all_goals
    repeat' (first
        | (refine R_br rfl rfl (fun hbr => absurd hbr (by first | decide | (with_reducible assumption))) (fun _ => ?_))
        | (refine R_br rfl rfl (fun _ => ?_) (fun hbr => absurd (by first | decide | (with_reducible assumption)) hbr))
        | (refine R_br rfl rfl (fun _ => ?_) (fun _ => ?_))
        | (refine R_ri rfl rfl ?_)
        | (refine R_rz rfl rfl (Or.inl rfl) ?_)
        | (refine R_rz rfl rfl (Or.inr rfl) ?_)
        | (refine R_rz rfl rfl (b2_01 _) ?_)
        | (refine R_rl rfl rfl ?_)
        | (refine R_rv rfl rfl ?_)
        | (refine R_sw _ rfl rfl rfl ?_)
        | (refine R_go 9999 rfl rfl trivial ?_)
        | (refine R_go 9999 rfl rfl (by first | (show _ ∨ _; decide) | (show (_ ∨ _) ∧ (_ ∨ _); decide) | (show (_ ∨ _) ∧ (_ ∨ _) ∧ (_ ∨ _); decide)) ?_)
        | (refine R_go 9999 rfl rfl ?_ ?_))
  all_goals exact ret_i rfl rfl
def RPm (A : FI) (q : Nat → Nat) : Prop := ∀ f, f < 8 → A 52 0 f = nI (q f) ∧ (q f ≤ 20 ∨ q f = 99)
def fgn (x : Int64 × Bool) : Nat := if x.2 = true then 1 else 0
def RM (A : FI) (B : FJ) (z : Ev) : Prop := jl (B 49 0) (z.1.map (fun x => x.1)).reverse ∧ al (A 50 0) (z.1.map fgn).reverse ∧ al (A 51 0) z.2.reverse
abbrev hdL (gr go fr to : Nat) (z : Ev) (i : Nat) (o8 o9 : Option AV) : List (Option AV) := [some (.inr (.inr (some (31, 0)))), some (.inr (.inr (some (gr, 0)))), some (.inr (.inr (some (go, 0)))), some (.inl (nI fr)), some (.inl (nI to)), some (.inl (nI z.1.length)), some (.inl (nI z.2.length)), some (.inl (nI i)), o8, o9, none]
abbrev FmH (A A' : FI) : Prop := FmO 31 [50, 51] [] A A'
theorem al_last2 {f : Nat → Int32} {l : List Nat} {x y : Nat} (h : al f (l ++ [x, y])) : f l.length = nI x ∧ f (l.length + 1) = nI y := by
  have h1 : al f ((l ++ [x]) ++ [y]) := by simpa using h
  exact ⟨al_last (al_init h1), by have := al_last h1; simpa using this⟩
theorem RM_psh {A : FI} {B : FJ} {z : Ev} (h : RM A B z) (x : Int64) (g : Bool) : RM (up3 A 50 0 z.1.length (if g = true then 1 else 0)) (up3 B 49 0 z.1.length x) ((x, g) :: z.1, z.2) := by
  obtain ⟨h1, h2, h3⟩ := h
  refine ⟨?_, ?_, by rw [up3_g (by decide)]; exact h3⟩
  · rw [List.map_cons, List.reverse_cons]; exact jl_up h1 (by simp)
  · rw [List.map_cons, List.reverse_cons]
    have : (if g = true then (1 : Int32) else 0) = nI (fgn (x, g)) := by cases g <;> rfl
    rw [this]
    exact al_upn h2 (by simp)
theorem RM_two {A : FI} {B : FJ} {b a : Int64 × Bool} {r : List (Int64 × Bool)} {u : List Nat} (h : RM A B (b :: a :: r, u)) : B 49 0 r.length = a.1 ∧ B 49 0 (r.length + 1) = b.1 ∧ A 50 0 r.length = nI (fgn a) ∧ A 50 0 (r.length + 1) = nI (fgn b) ∧ RM A B (r, u) := by
  obtain ⟨h1, h2, h3⟩ := h
  have j1 : jl (B 49 0) ((r.map (fun x => x.1)).reverse ++ [a.1, b.1]) := by simpa using h1
  have j2 : al (A 50 0) ((r.map fgn).reverse ++ [fgn a, fgn b]) := by simpa using h2
  have k1 := jl_last2 j1
  have k2 := al_last2 j2
  simp only [List.length_reverse, List.length_map] at k1 k2
  exact ⟨k1.1, k1.2, k2.1, k2.2, jl_init j1, al_init j2, h3⟩
theorem RM_ari {A : FI} {B : FJ} {r : List (Int64 × Bool)} {u : List Nat} (h : RM A B (r, u)) (x : Int64) (g : Bool) (w : Int32) (hw : w = nI (fgn (x, g))) : RM (up3 A 50 0 r.length w) (up3 B 49 0 r.length x) ((x, g) :: r, u) := by
  have := RM_psh h x g
  have e : (if g = true then (1 : Int32) else 0) = w := by rw [hw]; cases g <;> rfl
  rw [e] at this
  exact this
theorem RM_tps {A : FI} {B : FJ} {u : List Nat} {r : List (Int64 × Bool)} (h : RM A B (r, u)) (v : Nat) (w : Int32) (hw : w = nI v) : RM (up3 A 51 0 u.length w) B (r, v :: u) := by
  obtain ⟨h1, h2, h3⟩ := h
  refine ⟨h1, by rw [up3_g (by decide)]; exact h2, ?_⟩
  rw [List.reverse_cons, hw]
  exact al_upn h3 (by simp)
theorem RM_t1 {A : FI} {B : FJ} {u : List Nat} {r : List (Int64 × Bool)} {a : Nat} (h : RM A B (r, a :: u)) : A 51 0 u.length = nI a ∧ RM A B (r, u) := by
  obtain ⟨h1, h2, h3⟩ := h
  have j : al (A 51 0) (u.reverse ++ [a]) := by simpa using h3
  have k := al_last j
  simp only [List.length_reverse] at k
  exact ⟨k, h1, h2, al_init j⟩
theorem RM_t2 {A : FI} {B : FJ} {u : List Nat} {r : List (Int64 × Bool)} {a b : Nat} (h : RM A B (r, b :: a :: u)) : A 51 0 u.length = nI a ∧ A 51 0 (u.length + 1) = nI b ∧ RM A B (r, u) := by
  obtain ⟨h1, h2, h3⟩ := h
  have j : al (A 51 0) (u.reverse ++ [a, b]) := by simpa using h3
  have k := al_last2 j
  simp only [List.length_reverse] at k
  exact ⟨k.1, k.2, h1, h2, al_init j⟩
theorem nI_m1 (n : Nat) : nI (n + 1) + -1 = nI n := by rw [← nI_pred n]; exact (Int32.sub_eq_add_neg _ _).symm
theorem nI_m2 (n : Nat) : nI (n + 2) + -2 = nI n := by
  have h : nI (n + 2) + -2 = nI (n + 2) - nI 2 := (Int32.sub_eq_add_neg _ _).symm
  rw [h, nI_sub (by omega)]; congr 1
theorem st_holds {gr go fr to : Nat} (hg : (gr = 42 ∧ go = 43) ∨ (gr = 53 ∧ go = 54)) {A : FI} {B : FJ} {q : Nat → Nat} {Q : Option AV → AH → Prop} (t : Tk) (i : Nat) (z : Ev) (y y' : Nat × List Nat) (hto : to ≤ 80) (hi : i < to) (ht1 : A gr 0 i = nI t.1) (ht2 : A go 0 i = nI t.2) (hq : RPm A q) (hw : wst y t = some y') (hz : typ z y) (hR : RM A B z) (hlen : z.1.length + z.2.length < 80) (kk : ∀ A' B' o8 o9, RM A' B' (evs q z t) → FmH A A' → FmJ [49] B B' → Rn 1 mtX12_holds 9 (hdL gr go fr to (evs q z t) (i + 1) o8 o9) [] (hp A' B') Q) (o8 o9 : Option AV) : Rn 1 mtX12_holds 9 (hdL gr go fr to z i o8 o9) [] (hp A B) Q := by
  have tI := ti i (by omega)
  have tl := ti to (by omega)
  have cI : (nI i).toNatClampNeg = i := nI_clamp (by omega)
  obtain ⟨z1, z2⟩ := z
  dsimp only at hlen kk
  have cz1 : (nI z1.length).toNatClampNeg = z1.length := nI_clamp (by omega)
  have cz2 : (nI z2.length).toNatClampNeg = z2.length := nI_clamp (by omega)
  have hvi : vp_in (nI i) 80 := vpN (n := 80) (by omega) rfl
  have hv1 : vp_in (nI z1.length) 81 := vpN (n := 81) (by omega) rfl
  have hv2 : vp_in (nI z2.length) 81 := vpN (n := 81) (by omega) rfl
  by_cases h1 : t.1 < 8
  · have tt := ti t.1 (by omega)
    have ct : (nI t.1).toNatClampNeg = t.1 := nI_clamp (by omega)
    obtain ⟨q1, q2⟩ := hq t.1 h1
    have tq := ti (q t.1) (by omega)
    have hvt : vp_in (nI t.1) 8 := vpN (n := 8) h1 rfl
    have hev : evs q (z1, z2) t = ((lN (q t.1), decide (q t.1 = 99)) :: z1, z2) := by unfold evs; rw [if_pos h1]
    rw [hev] at kk
    have hrm := RM_psh hR (lN (q t.1)) (decide (q t.1 = 99))
    dsimp only at hrm
    by_cases h99 : q t.1 = 99
    · have n99 : A 52 0 t.1 = 99 := by rw [q1, h99]; rfl
      rw [if_pos (by simpa using h99)] at hrm
      rcases hg with ⟨rfl, rfl⟩ | ⟨rfl, rfl⟩
      all_goals
        refine R_go 9999 rfl rfl trivial ?_
        refine R_br rfl rfl (fun h => absurd h (by (simp only [i_eq, i_lt, i_le, Int32.reduceToInt, true_and, and_true, false_and, and_false, or_false, false_or, or_true, true_or, ne_eq] at *; first | done | omega))) (fun _ => ?_)
        refine R_go 9999 rfl rfl hvi ?_
        rw [cI, ht1]
        refine R_br rfl rfl (fun h => absurd h (by (simp only [i_eq, i_lt, i_le, Int32.reduceToInt, true_and, and_true, false_and, and_false, or_false, false_or, or_true, true_or, ne_eq] at *; first | done | omega))) (fun _ => ?_)
        refine R_go 9999 rfl rfl trivial ?_
        refine R_br rfl rfl (fun h => absurd h (by (simp only [i_eq, i_lt, i_le, Int32.reduceToInt, true_and, and_true, false_and, and_false, or_false, false_or, or_true, true_or, ne_eq] at *; first | done | omega))) (fun _ => ?_)
        refine R_go 9999 rfl rfl ⟨hv1, hvt⟩ ?_
        rw [cz1, ct]
        refine R_br rfl rfl (fun h => absurd h (by (simp only [i_eq, i_lt, i_le, Int32.reduceToInt, true_and, and_true, false_and, and_false, or_false, false_or, or_true, true_or, ne_eq] at *; first | done | omega))) (fun _ => ?_)
        refine R_go 9999 rfl rfl hvt ?_
        rw [ct]
        refine R_br rfl rfl (fun _ => ?_) (fun h => absurd n99 h)
        refine R_go 9 rfl rfl ⟨hv1, by decide⟩ ?_
        rw [cz1, q1, nI_l (by omega), nI_1, nI_1]
        exact kk _ _ _ _ hrm (by first | exact FmO_rf | (repeat' (first | exact FmO_rf | (with_reducible assumption) | (refine FmO_up ?_ (by decide)) | (refine FmO_ug ?_ (by decide) (by decide))))) (FmJ_up FmJ_rf (by decide))
    · have n99 : ¬ A 52 0 t.1 = 99 := by rw [q1]; (simp only [i_eq, i_lt, i_le, Int32.reduceToInt, true_and, and_true, false_and, and_false, or_false, false_or, or_true, true_or, ne_eq] at *; first | done | omega)
      rw [if_neg (by simpa using h99)] at hrm
      rcases hg with ⟨rfl, rfl⟩ | ⟨rfl, rfl⟩
      all_goals
        refine R_go 9999 rfl rfl trivial ?_
        refine R_br rfl rfl (fun h => absurd h (by (simp only [i_eq, i_lt, i_le, Int32.reduceToInt, true_and, and_true, false_and, and_false, or_false, false_or, or_true, true_or, ne_eq] at *; first | done | omega))) (fun _ => ?_)
        refine R_go 9999 rfl rfl hvi ?_
        rw [cI, ht1]
        refine R_br rfl rfl (fun h => absurd h (by (simp only [i_eq, i_lt, i_le, Int32.reduceToInt, true_and, and_true, false_and, and_false, or_false, false_or, or_true, true_or, ne_eq] at *; first | done | omega))) (fun _ => ?_)
        refine R_go 9999 rfl rfl trivial ?_
        refine R_br rfl rfl (fun h => absurd h (by (simp only [i_eq, i_lt, i_le, Int32.reduceToInt, true_and, and_true, false_and, and_false, or_false, false_or, or_true, true_or, ne_eq] at *; first | done | omega))) (fun _ => ?_)
        refine R_go 9999 rfl rfl ⟨hv1, hvt⟩ ?_
        rw [cz1, ct]
        refine R_br rfl rfl (fun h => absurd h (by (simp only [i_eq, i_lt, i_le, Int32.reduceToInt, true_and, and_true, false_and, and_false, or_false, false_or, or_true, true_or, ne_eq] at *; first | done | omega))) (fun _ => ?_)
        refine R_go 9999 rfl rfl hvt ?_
        rw [ct]
        refine R_br rfl rfl (fun h => absurd h n99) (fun _ => ?_)
        refine R_go 9 rfl rfl ⟨hv1, by decide⟩ ?_
        rw [cz1, q1, nI_l (by omega), nI_1, nI_1]
        exact kk _ _ _ _ hrm (by first | exact FmO_rf | (repeat' (first | exact FmO_rf | (with_reducible assumption) | (refine FmO_up ?_ (by decide)) | (refine FmO_ug ?_ (by decide) (by decide))))) (FmJ_up FmJ_rf (by decide))
  by_cases h2 : t.1 = 8
  · rw [h2] at ht1
    have ht99 := (wst_n hw h2).1
    have hev : evs q (z1, z2) t = ((lN t.2, false) :: z1, z2) := by unfold evs; rw [if_neg h1, if_pos h2]
    rw [hev] at kk
    have hrm := RM_psh hR (lN t.2) false
    dsimp only at hrm
    rw [if_neg (by decide)] at hrm
    rcases hg with ⟨rfl, rfl⟩ | ⟨rfl, rfl⟩
    all_goals
      refine R_go 9999 rfl rfl trivial ?_
      refine R_br rfl rfl (fun h => absurd h (by (simp only [i_eq, i_lt, i_le, Int32.reduceToInt, true_and, and_true, false_and, and_false, or_false, false_or, or_true, true_or, ne_eq] at *; first | done | omega))) (fun _ => ?_)
      refine R_go 9999 rfl rfl hvi ?_
      rw [cI, ht1]
      refine R_br rfl rfl (fun h => absurd h (by decide)) (fun _ => ?_)
      refine R_go 9999 rfl rfl trivial ?_
      refine R_br rfl rfl (fun _ => ?_) (fun h => absurd (by decide) h)
      refine R_go 9999 rfl rfl ⟨hv1, hvi⟩ ?_
      rw [cz1, cI, ht2]
      refine R_br rfl rfl (fun _ => ?_) (fun h => absurd (by decide) h)
      refine R_go 9 rfl rfl ⟨hv1, by decide⟩ ?_
      rw [cz1, nI_l (by omega), nI_1, nI_1]
      exact kk _ _ _ _ hrm (by first | exact FmO_rf | (repeat' (first | exact FmO_rf | (with_reducible assumption) | (refine FmO_up ?_ (by decide)) | (refine FmO_ug ?_ (by decide) (by decide))))) (FmJ_up FmJ_rf (by decide))
  have hop : 9 ≤ t.1 := by omega
  have tt := ti t.1 (by
    by_cases h : 16 ≤ t.1
    · have := (wst_j hw h).1; omega
    · omega)
  by_cases h4 : t.1 < 12
  · obtain ⟨b0, a0, r0, w1, c, -, rfl, -⟩ := wst_a hw hop h4
    obtain ⟨y1, y2, y3⟩ := hz
    dsimp only at y1 y2 y3
    rw [w1] at y1
    obtain ⟨b, a, r, rfl⟩ := len2 y1 (by simp)
    simp only [List.length_cons] at hlen
    obtain ⟨e1, e2, e3, e4, e5⟩ := RM_two hR
    have hev : evs q (b :: a :: r, z2) t = ((ari t.1 a.1 b.1, a.2 || b.2) :: r, z2) := by unfold evs; rw [if_neg h1, if_neg h2, if_pos h4]
    rw [hev] at kk
    have hvn : vp_in (nI r.length) 81 := vpN (n := 81) (by omega) rfl
    have hvn1 : vp_in (nI (r.length + 1)) 81 := vpN (n := 81) (by omega) rfl
    have cn : (nI r.length).toNatClampNeg = r.length := nI_clamp (by omega)
    have cn1 : (nI (r.length + 1)).toNatClampNeg = r.length + 1 := nI_clamp (by omega)
    have em : nI (b :: a :: r).length + -1 = nI (r.length + 1) := nI_m1 (r.length + 1)
    have hmid : ∀ o8 ob, Rn 1 mtX12_holds 180 [some (.inr (.inr (some (31, 0)))), some (.inr (.inr (some (gr, 0)))), some (.inr (.inr (some (go, 0)))), some (.inl (nI fr)), some (.inl (nI to)), some (.inl (nI (r.length + 1))), some (.inl (nI z2.length)), some (.inl (nI i)), o8, ob, none] [] (hp A (up3 B 49 0 r.length (ari t.1 a.1 b.1))) Q := by
      intro o8 ob
      have hrm := fun w hw => RM_ari e5 (ari t.1 a.1 b.1) (a.2 || b.2) w hw
      cases ha : a.2 with
      | true =>
        have e3' : ¬ A 50 0 r.length = 0 := by rw [e3, fgn, if_pos ha]; decide
        rw [ha] at hrm kk
        refine R_go 9999 rfl rfl (by rw [nI_pred]; exact hvn) ?_
        rw [nI_pred, cn]
        refine R_br rfl rfl (fun h => absurd h e3') (fun _ => ?_)
        refine R_go 9 rfl rfl ⟨hvn, by decide⟩ ?_
        rw [cn, nI_1]
        exact kk _ _ _ _ (hrm _ rfl) (by first | exact FmO_rf | (repeat' (first | exact FmO_rf | (with_reducible assumption) | (refine FmO_up ?_ (by decide)) | (refine FmO_ug ?_ (by decide) (by decide))))) (FmJ_up FmJ_rf (by decide))
      | false =>
        have e3' : A 50 0 r.length = 0 := by rw [e3, fgn, if_neg (by rw [ha]; decide)]; rfl
        rw [ha] at hrm kk
        refine R_go 9999 rfl rfl (by rw [nI_pred]; exact hvn) ?_
        rw [nI_pred, cn]
        refine R_br rfl rfl (fun _ => ?_) (fun h => absurd e3' h)
        refine R_go 9999 rfl rfl hvn1 ?_
        rw [cn1]
        cases hb : b.2 with
        | true =>
          have e4' : ¬ A 50 0 (r.length + 1) = 0 := by rw [e4, fgn, if_pos hb]; decide
          rw [hb] at hrm kk
          refine R_br rfl rfl (fun h => absurd h e4') (fun _ => ?_)
          refine R_go 9 rfl rfl ⟨hvn, by decide⟩ ?_
          rw [cn, nI_1]
          exact kk _ _ _ _ (hrm _ rfl) (by first | exact FmO_rf | (repeat' (first | exact FmO_rf | (with_reducible assumption) | (refine FmO_up ?_ (by decide)) | (refine FmO_ug ?_ (by decide) (by decide))))) (FmJ_up FmJ_rf (by decide))
        | false =>
          have e4' : A 50 0 (r.length + 1) = 0 := by rw [e4, fgn, if_neg (by rw [hb]; decide)]; rfl
          rw [hb] at hrm kk
          refine R_br rfl rfl (fun _ => ?_) (fun h => absurd e4' h)
          refine R_go 9 rfl rfl ⟨hvn, by decide⟩ ?_
          rw [cn, nI_1]
          exact kk _ _ _ _ (hrm _ rfl) (by first | exact FmO_rf | (repeat' (first | exact FmO_rf | (with_reducible assumption) | (refine FmO_up ?_ (by decide)) | (refine FmO_ug ?_ (by decide) (by decide))))) (FmJ_up FmJ_rf (by decide))
    rcases (show t.1 = 9 ∨ t.1 = 10 ∨ t.1 = 11 by omega) with h9 | h9 | h9 <;> rw [h9] at ht1 hmid
    · rcases hg with ⟨rfl, rfl⟩ | ⟨rfl, rfl⟩
      all_goals
        refine R_go 9999 rfl rfl trivial ?_
        refine R_br rfl rfl (fun h => absurd h (by (simp only [i_eq, i_lt, i_le, Int32.reduceToInt, true_and, and_true, false_and, and_false, or_false, false_or, or_true, true_or, ne_eq] at *; first | done | omega))) (fun _ => ?_)
        refine R_go 9999 rfl rfl hvi ?_
        rw [cI, ht1]
        refine R_br rfl rfl (fun _ => ?_) (fun h => absurd (by decide) h)
        refine R_go 9999 rfl rfl trivial ?_
        refine R_br rfl rfl (fun h => absurd h (by decide)) (fun _ => ?_)
        refine R_go 9999 rfl rfl (by rw [em]; exact hvn1) ?_
        rw [em, cn1, e2]
        refine R_br rfl rfl (fun _ => ?_) (fun h => absurd rfl h)
        refine R_go 180 rfl rfl (by rw [nI_pred]; exact ⟨hvn, hvn⟩) ?_
        rw [nI_pred, cn, e1]
        exact hmid _ _
    · rcases hg with ⟨rfl, rfl⟩ | ⟨rfl, rfl⟩
      all_goals
        refine R_go 9999 rfl rfl trivial ?_
        refine R_br rfl rfl (fun h => absurd h (by (simp only [i_eq, i_lt, i_le, Int32.reduceToInt, true_and, and_true, false_and, and_false, or_false, false_or, or_true, true_or, ne_eq] at *; first | done | omega))) (fun _ => ?_)
        refine R_go 9999 rfl rfl hvi ?_
        rw [cI, ht1]
        refine R_br rfl rfl (fun _ => ?_) (fun h => absurd (by decide) h)
        refine R_go 9999 rfl rfl trivial ?_
        refine R_br rfl rfl (fun h => absurd h (by decide)) (fun _ => ?_)
        refine R_go 9999 rfl rfl (by rw [em]; exact hvn1) ?_
        rw [em, cn1, e2]
        refine R_br rfl rfl (fun h => absurd h (by decide)) (fun _ => ?_)
        refine R_go 9999 rfl rfl trivial ?_
        refine R_br rfl rfl (fun _ => ?_) (fun h => absurd rfl h)
        refine R_go 180 rfl rfl (by rw [nI_pred]; exact ⟨hvn, hvn⟩) ?_
        rw [nI_pred, cn, e1]
        exact hmid _ _
    · rcases hg with ⟨rfl, rfl⟩ | ⟨rfl, rfl⟩
      all_goals
        refine R_go 9999 rfl rfl trivial ?_
        refine R_br rfl rfl (fun h => absurd h (by (simp only [i_eq, i_lt, i_le, Int32.reduceToInt, true_and, and_true, false_and, and_false, or_false, false_or, or_true, true_or, ne_eq] at *; first | done | omega))) (fun _ => ?_)
        refine R_go 9999 rfl rfl hvi ?_
        rw [cI, ht1]
        refine R_br rfl rfl (fun _ => ?_) (fun h => absurd (by decide) h)
        refine R_go 9999 rfl rfl trivial ?_
        refine R_br rfl rfl (fun h => absurd h (by decide)) (fun _ => ?_)
        refine R_go 9999 rfl rfl (by rw [em]; exact hvn1) ?_
        rw [em, cn1, e2]
        refine R_br rfl rfl (fun h => absurd h (by decide)) (fun _ => ?_)
        refine R_go 9999 rfl rfl trivial ?_
        refine R_br rfl rfl (fun h => absurd h (by decide)) (fun _ => ?_)
        refine R_go 180 rfl rfl (by rw [nI_pred]; exact ⟨hvn, hvn⟩) ?_
        rw [nI_pred, cn, e1]
        exact hmid _ _
  by_cases h5 : t.1 < 15
  · obtain ⟨b0, a0, w1, rfl⟩ := wst_c hw (by omega) h5
    obtain ⟨y1, y2, y3⟩ := hz
    dsimp only at y1 y2 y3
    rw [w1] at y1
    obtain ⟨b, a, r, rfl⟩ := len2 y1 (by simp)
    have : r = [] := by cases r with
      | nil => rfl
      | cons _ _ => simp at y1
    subst this
    simp only [List.length_cons, List.length_nil] at hlen
    obtain ⟨e1, e2, e3, e4, e5⟩ := RM_two hR
    dsimp only [List.length_nil] at e1 e2 e3 e4
    have hev : evs q ([b, a], z2) t = ([], (if (a.2 || b.2) = true then 2 else cmt t.1 a.1 b.1) :: z2) := by unfold evs; rw [if_neg h1, if_neg h2, if_neg h4, if_pos h5]
    rw [hev] at kk
    have hv0 : vp_in 0 81 := vpN (a := 0) (n := 81) (by decide) rfl
    have hvo : vp_in 1 81 := vpN (a := 1) (n := 81) (by decide) rfl
    have em : nI [b, a].length + -2 = 0 := nI_m2 0
    have c0 : (0 : Int32).toNatClampNeg = 0 := rfl
    have c1 : ((0 : Int32) + 1).toNatClampNeg = 1 := rfl
    have hcm := m_compared t.1 (by omega) h5 a.1 b.1 A B
    have hrm := fun w hw => RM_tps e5 (if (a.2 || b.2) = true then 2 else cmt t.1 a.1 b.1) w hw
    rcases hg with ⟨rfl, rfl⟩ | ⟨rfl, rfl⟩
    all_goals
      refine R_go 9999 rfl rfl trivial ?_
      refine R_br rfl rfl (fun h => absurd h (by (simp only [i_eq, i_lt, i_le, Int32.reduceToInt, true_and, and_true, false_and, and_false, or_false, false_or, or_true, true_or, ne_eq] at *; first | done | omega))) (fun _ => ?_)
      refine R_go 9999 rfl rfl hvi ?_
      rw [cI, ht1]
      refine R_br rfl rfl (fun _ => ?_) (fun h => absurd (by (simp only [i_eq, i_lt, i_le, Int32.reduceToInt, true_and, and_true, false_and, and_false, or_false, false_or, or_true, true_or, ne_eq] at *; first | done | omega)) h)
      refine R_go 9999 rfl rfl trivial ?_
      refine R_br rfl rfl (fun _ => ?_) (fun h => absurd (by (simp only [i_eq, i_lt, i_le, Int32.reduceToInt, true_and, and_true, false_and, and_false, or_false, false_or, or_true, true_or, ne_eq] at *; first | done | omega)) h)
      refine R_go 9999 rfl rfl trivial ?_
      refine R_br rfl rfl (fun h => absurd h (by (simp only [i_eq, i_lt, i_le, Int32.reduceToInt, true_and, and_true, false_and, and_false, or_false, false_or, or_true, true_or, ne_eq] at *; first | done | omega))) (fun _ => ?_)
      refine R_go 9999 rfl rfl (by rw [em]; exact hv0) ?_
      rw [em, c0]
      cases ha : a.2 with
      | true =>
        have e3' : ¬ A 50 0 0 = 0 := by rw [e3, fgn, if_pos ha]; decide
        rw [ha] at hrm kk
        refine R_br rfl rfl (fun h => absurd h e3') (fun _ => ?_)
        refine R_go 9 rfl rfl hv2 ?_
        rw [cz2, nI_1, nI_1]
        exact kk _ _ _ _ (hrm _ rfl) (by first | exact FmO_rf | (repeat' (first | exact FmO_rf | (with_reducible assumption) | (refine FmO_up ?_ (by decide)) | (refine FmO_ug ?_ (by decide) (by decide))))) FmJ_rf
      | false =>
        have e3' : A 50 0 0 = 0 := by rw [e3, fgn, if_neg (by rw [ha]; decide)]; rfl
        rw [ha] at hrm kk
        refine R_br rfl rfl (fun _ => ?_) (fun h => absurd e3' h)
        refine R_go 9999 rfl rfl hvo ?_
        rw [c1]
        cases hb : b.2 with
        | true =>
          have e4' : ¬ A 50 0 1 = 0 := by rw [e4, fgn, if_pos hb]; decide
          rw [hb] at hrm kk
          refine R_br rfl rfl (fun h => absurd h e4') (fun _ => ?_)
          refine R_go 9 rfl rfl hv2 ?_
          rw [cz2, nI_1, nI_1]
          exact kk _ _ _ _ (hrm _ rfl) (by first | exact FmO_rf | (repeat' (first | exact FmO_rf | (with_reducible assumption) | (refine FmO_up ?_ (by decide)) | (refine FmO_ug ?_ (by decide) (by decide))))) FmJ_rf
        | false =>
          have e4' : A 50 0 1 = 0 := by rw [e4, fgn, if_neg (by rw [hb]; decide)]; rfl
          rw [hb] at hrm kk
          refine R_br rfl rfl (fun _ => ?_) (fun h => absurd e4' h)
          refine R_go 9999 rfl rfl ⟨hvo, hv0⟩ ?_
          rw [c1, c0, e1, e2]
          refine R_csr rfl hcm rfl rfl rfl (Nat.le_of_ble_eq_true rfl) rfl ?_
          refine R_go 9 rfl rfl hv2 ?_
          rw [cz2, nI_1, nI_1]
          exact kk _ _ _ _ (hrm _ rfl) (by first | exact FmO_rf | (repeat' (first | exact FmO_rf | (with_reducible assumption) | (refine FmO_up ?_ (by decide)) | (refine FmO_ug ?_ (by decide) (by decide))))) FmJ_rf
  by_cases h3 : t.1 = 15
  · obtain ⟨w1, w2, rfl⟩ := wst_x hw h3
    obtain ⟨y1, y2, y3⟩ := hz
    dsimp only at y1 y2 y3
    obtain ⟨a, u, rfl⟩ := len1 y2 w2
    obtain ⟨e1, e2⟩ := RM_t1 hR
    have ha := y3 a (by simp)
    simp only [List.length_cons] at hlen
    have hev : evs q (z1, a :: u) t = (z1, (if a = 2 then 2 else 1 - a) :: u) := by unfold evs; rw [if_neg h1, if_neg h2, if_neg (by omega), if_neg (by omega), if_pos h3]
    rw [hev] at kk
    have hvn : vp_in (nI u.length) 81 := vpN (n := 81) (by omega) rfl
    have cn : (nI u.length).toNatClampNeg = u.length := nI_clamp (by omega)
    have em : nI (a :: u).length - 1 = nI u.length := nI_pred u.length
    have hrm := fun w hw => RM_tps e2 (if a = 2 then 2 else 1 - a) w hw
    rw [h3] at ht1
    rcases hg with ⟨rfl, rfl⟩ | ⟨rfl, rfl⟩
    all_goals
      refine R_go 9999 rfl rfl trivial ?_
      refine R_br rfl rfl (fun h => absurd h (by (simp only [i_eq, i_lt, i_le, Int32.reduceToInt, true_and, and_true, false_and, and_false, or_false, false_or, or_true, true_or, ne_eq] at *; first | done | omega))) (fun _ => ?_)
      refine R_go 9999 rfl rfl hvi ?_
      rw [cI, ht1]
      refine R_br rfl rfl (fun _ => ?_) (fun h => absurd (by decide) h)
      refine R_go 9999 rfl rfl trivial ?_
      refine R_br rfl rfl (fun _ => ?_) (fun h => absurd (by decide) h)
      refine R_go 9999 rfl rfl trivial ?_
      refine R_br rfl rfl (fun _ => ?_) (fun h => absurd (by decide) h)
      refine R_go 9999 rfl rfl trivial ?_
      refine R_br rfl rfl (fun _ => ?_) (fun h => absurd rfl h)
      refine R_go 9999 rfl rfl (by rw [em]; exact hvn) ?_
      rw [em, cn, e1]
      rcases (show a = 0 ∨ a = 1 ∨ a = 2 by omega) with rfl | rfl | rfl
      · refine R_br rfl rfl (fun h => absurd h (by decide)) (fun _ => ?_)
        refine R_go 9 rfl rfl (by rw [em]; exact ⟨hvn, hvn⟩) ?_
        rw [em, cn, e1, nI_1]
        exact kk _ _ _ _ (hrm _ rfl) (by first | exact FmO_rf | (repeat' (first | exact FmO_rf | (with_reducible assumption) | (refine FmO_up ?_ (by decide)) | (refine FmO_ug ?_ (by decide) (by decide))))) FmJ_rf
      · refine R_br rfl rfl (fun h => absurd h (by decide)) (fun _ => ?_)
        refine R_go 9 rfl rfl (by rw [em]; exact ⟨hvn, hvn⟩) ?_
        rw [em, cn, e1, nI_1]
        exact kk _ _ _ _ (hrm _ rfl) (by first | exact FmO_rf | (repeat' (first | exact FmO_rf | (with_reducible assumption) | (refine FmO_up ?_ (by decide)) | (refine FmO_ug ?_ (by decide) (by decide))))) FmJ_rf
      · refine R_br rfl rfl (fun _ => ?_) (fun h => absurd rfl h)
        refine R_go 9 rfl rfl hvn ?_
        rw [cn, nI_1]
        exact kk _ _ _ _ (hrm _ rfl) (by first | exact FmO_rf | (repeat' (first | exact FmO_rf | (with_reducible assumption) | (refine FmO_up ?_ (by decide)) | (refine FmO_ug ?_ (by decide) (by decide))))) FmJ_rf
  obtain ⟨hle, w1, w2, rfl⟩ := wst_j hw (by omega)
  obtain ⟨y1, y2, y3⟩ := hz
  dsimp only at y1 y2 y3
  obtain ⟨b, a, u, rfl⟩ := len2 y2 w2
  obtain ⟨e1, e2, e3⟩ := RM_t2 hR
  have ha := y3 a (by simp)
  have hb := y3 b (by simp)
  simp only [List.length_cons] at hlen
  have hev : evs q (z1, b :: a :: u) t = (z1, jnd t.1 a b :: u) := by unfold evs; rw [if_neg h1, if_neg h2, if_neg h4, if_neg h5, if_neg h3]
  rw [hev] at kk
  have hvn : vp_in (nI u.length) 81 := vpN (n := 81) (by omega) rfl
  have hvn1 : vp_in (nI (u.length + 1)) 81 := vpN (n := 81) (by omega) rfl
  have cn : (nI u.length).toNatClampNeg = u.length := nI_clamp (by omega)
  have cn1 : (nI (u.length + 1)).toNatClampNeg = u.length + 1 := nI_clamp (by omega)
  have em : nI (b :: a :: u).length + -1 = nI (u.length + 1) := nI_m1 (u.length + 1)
  have hjm := m_joinedM t.1 a b (by omega) hle ha hb A B
  have hrm := fun w hw => RM_tps e3 (jnd t.1 a b) w hw
  rcases hg with ⟨rfl, rfl⟩ | ⟨rfl, rfl⟩
  all_goals
    refine R_go 9999 rfl rfl trivial ?_
    refine R_br rfl rfl (fun h => absurd h (by (simp only [i_eq, i_lt, i_le, Int32.reduceToInt, true_and, and_true, false_and, and_false, or_false, false_or, or_true, true_or, ne_eq] at *; first | done | omega))) (fun _ => ?_)
    refine R_go 9999 rfl rfl hvi ?_
    rw [cI, ht1]
    refine R_br rfl rfl (fun _ => ?_) (fun h => absurd (by (simp only [i_eq, i_lt, i_le, Int32.reduceToInt, true_and, and_true, false_and, and_false, or_false, false_or, or_true, true_or, ne_eq] at *; first | done | omega)) h)
    refine R_go 9999 rfl rfl trivial ?_
    refine R_br rfl rfl (fun _ => ?_) (fun h => absurd (by (simp only [i_eq, i_lt, i_le, Int32.reduceToInt, true_and, and_true, false_and, and_false, or_false, false_or, or_true, true_or, ne_eq] at *; first | done | omega)) h)
    refine R_go 9999 rfl rfl trivial ?_
    refine R_br rfl rfl (fun _ => ?_) (fun h => absurd (by (simp only [i_eq, i_lt, i_le, Int32.reduceToInt, true_and, and_true, false_and, and_false, or_false, false_or, or_true, true_or, ne_eq] at *; first | done | omega)) h)
    refine R_go 9999 rfl rfl trivial ?_
    refine R_br rfl rfl (fun h => absurd h (by (simp only [i_eq, i_lt, i_le, Int32.reduceToInt, true_and, and_true, false_and, and_false, or_false, false_or, or_true, true_or, ne_eq] at *; first | done | omega))) (fun _ => ?_)
    refine R_go 9999 rfl rfl (by rw [em, nI_pred]; exact ⟨hvn1, hvn⟩) ?_
    rw [em, nI_pred, cn, cn1, e1, e2]
    refine R_csr rfl hjm rfl rfl rfl (Nat.le_of_ble_eq_true rfl) rfl ?_
    refine R_go 9 rfl rfl hvn ?_
    rw [cn, nI_1]
    exact kk _ _ _ _ (hrm _ rfl) (by first | exact FmO_rf | (repeat' (first | exact FmO_rf | (with_reducible assumption) | (refine FmO_up ?_ (by decide)) | (refine FmO_ug ?_ (by decide) (by decide))))) FmJ_rf
