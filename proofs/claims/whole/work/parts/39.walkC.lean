/-- sums (the last first; whether something was MISSING), truths -/
abbrev Ev : Type := List (Int64 × Bool) × List Nat
def ari (m : Nat) (a b : Int64) : Int64 := if m = 9 then a * b else if m = 10 then a + b else a - b
def cmt (m : Nat) (a b : Int64) : Nat := if m = 12 then (if a < b then 1 else 0) else if m = 13 then (if a = b then 1 else 0) else (if b < a then 1 else 0)
def jnd (m a b : Nat) : Nat := if a = 2 then 2 else if m = 16 then (if a = 0 then 0 else b) else (if a = 1 then 1 else b)
def evs (q : Nat → Nat) (z : Ev) (t : Tk) : Ev :=
  if t.1 < 8 then ((lN (q t.1), decide (q t.1 = 99)) :: z.1, z.2)
  else if t.1 = 8 then ((lN t.2, false) :: z.1, z.2)
  else if t.1 < 12 then (match z.1 with
    | b :: a :: r => ((ari t.1 a.1 b.1, a.2 || b.2) :: r, z.2)
    | _ => z)
  else if t.1 < 15 then (match z.1 with
    | b :: a :: r => (r, (if (a.2 || b.2) = true then 2 else cmt t.1 a.1 b.1) :: z.2)
    | _ => z)
  else if t.1 = 15 then (match z.2 with
    | a :: r => (z.1, (if a = 2 then 2 else 1 - a) :: r)
    | _ => z)
  else (match z.2 with
    | b :: a :: r => (z.1, jnd t.1 a b :: r)
    | _ => z)
def evl (q : Nat → Nat) : Ev → List Tk → Ev
  | z, [] => z
  | z, t :: l => evl q (evs q z t) l
def typ (z : Ev) (y : Nat × List Nat) : Prop := z.1.length = y.2.length ∧ z.2.length = y.1 ∧ ∀ v ∈ z.2, v ≤ 2
theorem cmt_le (m : Nat) (a b : Int64) : cmt m a b ≤ 1 := by
  unfold cmt
  repeat' split
  all_goals omega
theorem wst_f {y y' : Nat × List Nat} {t : Tk} (h : wst y t = some y') (ht : t.1 < 8) : y' = (y.1, 99 :: y.2) := by
  unfold wst at h; rw [if_pos ht] at h; cases h; rfl
theorem wst_n {y y' : Nat × List Nat} {t : Tk} (h : wst y t = some y') (ht : t.1 = 8) : t.2 ≤ 99 ∧ y' = (y.1, 99 :: y.2) := by
  unfold wst at h; rw [if_neg (by omega), if_pos ht] at h
  split at h
  · rename_i hh; cases h; exact ⟨hh, rfl⟩
  · cases h
theorem wst_a {y y' : Nat × List Nat} {t : Tk} (h : wst y t = some y') (h1 : 9 ≤ t.1) (h2 : t.1 < 12) : ∃ b a r, y.2 = b :: a :: r ∧ ∃ c, c ≤ 1000000000 ∧ y' = (y.1, c :: r) ∧ ((t.1 = 9 ∧ c = a * b) ∨ (10 ≤ t.1 ∧ c = a + b)) := by
  unfold wst at h
  rw [if_neg (by omega), if_neg (by omega)] at h
  by_cases h9 : t.1 = 9
  · rw [if_pos h9] at h
    split at h
    · rename_i b a r e
      split at h
      · rename_i hh; cases h; exact ⟨b, a, r, e, a * b, by omega, rfl, Or.inl ⟨h9, rfl⟩⟩
      · cases h
    · cases h
  · rw [if_neg h9, if_pos (by omega)] at h
    split at h
    · rename_i b a r e
      split at h
      · rename_i hh; cases h; exact ⟨b, a, r, e, a + b, by omega, rfl, Or.inr ⟨by omega, rfl⟩⟩
      · cases h
    · cases h
theorem wst_c {y y' : Nat × List Nat} {t : Tk} (h : wst y t = some y') (h1 : 12 ≤ t.1) (h2 : t.1 < 15) : ∃ b a, y.2 = [b, a] ∧ y' = (y.1 + 1, []) := by
  unfold wst at h
  rw [if_neg (by omega), if_neg (by omega), if_neg (by omega), if_neg (by omega), if_pos (by omega)] at h
  split at h
  · rename_i b a e; cases h; exact ⟨b, a, e, rfl⟩
  · cases h
theorem wst_x {y y' : Nat × List Nat} {t : Tk} (h : wst y t = some y') (h1 : t.1 = 15) : y.2 = [] ∧ 1 ≤ y.1 ∧ y' = y := by
  unfold wst at h
  rw [if_neg (by omega), if_neg (by omega), if_neg (by omega), if_neg (by omega), if_neg (by omega), if_pos h1] at h
  split at h
  · rename_i hh; cases h; obtain ⟨y1, y2⟩ := y; dsimp only at hh ⊢; exact ⟨hh.1, hh.2, by rw [hh.1]⟩
  · cases h
theorem wst_j {y y' : Nat × List Nat} {t : Tk} (h : wst y t = some y') (h1 : 16 ≤ t.1) : t.1 ≤ 17 ∧ y.2 = [] ∧ 2 ≤ y.1 ∧ y' = (y.1 - 1, []) := by
  unfold wst at h
  rw [if_neg (by omega), if_neg (by omega), if_neg (by omega), if_neg (by omega), if_neg (by omega), if_neg (by omega)] at h
  split at h
  · split at h
    · rename_i h3 hh; cases h; exact ⟨h3, hh.1, hh.2, rfl⟩
    · cases h
  · cases h
theorem len2 {α : Type} {l : List α} {n : Nat} (h : l.length = n) (hn : 2 ≤ n) : ∃ b a r, l = b :: a :: r := by
  match l, h with
  | [], h => exfalso; simp at h; omega
  | [_], h => exfalso; simp at h; omega
  | b :: a :: r, _ => exact ⟨b, a, r, rfl⟩
theorem len1 {α : Type} {l : List α} {n : Nat} (h : l.length = n) (hn : 1 ≤ n) : ∃ a r, l = a :: r := by
  match l, h with
  | [], h => exfalso; simp at h; omega
  | a :: r, _ => exact ⟨a, r, rfl⟩
theorem evs_typ {q : Nat → Nat} {z : Ev} {y y' : Nat × List Nat} {t : Tk} (hz : typ z y) (h : wst y t = some y') : typ (evs q z t) y' := by
  obtain ⟨a1, a2, a3⟩ := hz
  unfold evs
  by_cases h1 : t.1 < 8
  · rw [if_pos h1, wst_f h h1]
    exact ⟨by simp [a1], a2, a3⟩
  rw [if_neg h1]
  by_cases h2 : t.1 = 8
  · rw [if_pos h2, (wst_n h h2).2]
    exact ⟨by simp [a1], a2, a3⟩
  rw [if_neg h2]
  by_cases h3 : t.1 < 12
  · rw [if_pos h3]
    obtain ⟨b, a, r, e, c, -, rfl, -⟩ := wst_a h (by omega) h3
    rw [e] at a1
    obtain ⟨b', a', r', e'⟩ := len2 a1 (by simp)
    rw [e'] at a1 ⊢
    exact ⟨by simp at a1 ⊢; omega, a2, a3⟩
  rw [if_neg h3]
  by_cases h4 : t.1 < 15
  · rw [if_pos h4]
    obtain ⟨b, a, e, rfl⟩ := wst_c h (by omega) h4
    rw [e] at a1
    obtain ⟨b', a', r', e'⟩ := len2 a1 (by simp)
    rw [e'] at a1 ⊢
    refine ⟨by simp at a1 ⊢; omega, by simp [a2], fun v hv => ?_⟩
    rcases List.mem_cons.mp hv with rfl | hv
    · split
      · omega
      · have := cmt_le t.1 a'.1 b'.1; omega
    · exact a3 v hv
  rw [if_neg h4]
  by_cases h5 : t.1 = 15
  · rw [if_pos h5]
    obtain ⟨e, hy, rfl⟩ := wst_x h h5
    obtain ⟨a', r', e'⟩ := len1 a2 hy
    rw [e'] at a2 a3 ⊢
    refine ⟨a1, by simpa using a2, fun v hv => ?_⟩
    rcases List.mem_cons.mp hv with rfl | hv
    · split <;> omega
    · exact a3 v (List.mem_cons_of_mem _ hv)
  rw [if_neg h5]
  obtain ⟨-, e, hy, rfl⟩ := wst_j h (by omega)
  obtain ⟨b', a', r', e'⟩ := len2 a2 hy
  rw [e'] at a2 a3 ⊢
  have ha := a3 a' (by simp)
  have hb := a3 b' (by simp)
  refine ⟨by rw [a1, e], by simp at a2 ⊢; omega, fun v hv => ?_⟩
  rcases List.mem_cons.mp hv with rfl | hv
  · unfold jnd
    repeat' split
    all_goals omega
  · exact a3 v (by simp [hv])
theorem evs_len {q : Nat → Nat} (z : Ev) (t : Tk) : (evs q z t).1.length + (evs q z t).2.length ≤ z.1.length + z.2.length + 1 := by
  obtain ⟨s, u⟩ := z
  unfold evs
  dsimp only
  repeat' split
  all_goals (simp only [List.length_cons] <;> omega)
/-- a row of longs -/
def jl (f : Nat → Int64) (l : List Int64) : Prop := ∀ k, k < l.length → f k = l.getD k 0
theorem jl_up {B : FJ} {g i n : Nat} {l : List Int64} {x : Int64} (h : jl (B g i) l) (hn : n = l.length) : jl (up3 B g i n x g i) (l ++ [x]) := by
  subst hn
  intro k hk
  rw [List.length_append, List.length_singleton] at hk
  by_cases e : k = l.length
  · subst e; rw [up3_self, gd_e]
  · rw [up3_s e, h k (by omega), gd_l (by omega)]
theorem jl_init {f : Nat → Int64} {l l2 : List Int64} (h : jl f (l ++ l2)) : jl f l := fun k hk => by
  have := h k (by rw [List.length_append]; omega)
  rw [this]
  simp [List.getD_eq_getElem?_getD, List.getElem?_append_left hk]
theorem jl_last {f : Nat → Int64} {l : List Int64} {x : Int64} (h : jl f (l ++ [x])) : f l.length = x := by
  have := h l.length (by simp)
  rw [this, gd_e]
theorem jl_last2 {f : Nat → Int64} {l : List Int64} {x y : Int64} (h : jl f (l ++ [x, y])) : f l.length = x ∧ f (l.length + 1) = y := by
  have h1 : jl f ((l ++ [x]) ++ [y]) := by simpa using h
  exact ⟨jl_last (jl_init h1), by have := jl_last h1; simpa using this⟩
theorem jl_nil {f : Nat → Int64} : jl f [] := fun k h => absurd h (Nat.not_lt_zero k)
/-- sums as the class holds them: what is MISSING may be anything -/
def sml : List Int64 → List (Int64 × Bool) → Prop
  | [], [] => True
  | y :: ys, x :: xs => (x.2 = false → y = x.1) ∧ sml ys xs
  | _, _ => False
theorem sml_len : ∀ {ys : List Int64} {xs : List (Int64 × Bool)}, sml ys xs → ys.length = xs.length
  | [], [], _ => rfl
  | _ :: _, _ :: _, h => by simp [sml_len h.2]
def RW (A : FI) (B : FJ) (z : Ev) : Prop := ∃ ys, sml ys z.1 ∧ jl (B 11 0) (ys ++ z.2.map lN).reverse ∧ A 10 0 1 = nI (z.1.length + z.2.length) ∧ A 10 0 2 = bI (z.1.any (fun x => x.2))
def FmJ (gs : List Nat) (B B' : FJ) : Prop := ∀ g, g ∉ gs → B' g = B g
theorem FmJ_rf {gs : List Nat} {B : FJ} : FmJ gs B B := fun _ _ => rfl
theorem FmJ_tr {gs : List Nat} {B B1 B2 : FJ} (a : FmJ gs B B1) (b : FmJ gs B1 B2) : FmJ gs B B2 := fun g h => (b g h).trans (a g h)
theorem FmJ_up {gs : List Nat} {B B1 : FJ} {g i s : Nat} {x : Int64} (a : FmJ gs B B1) (h : g ∈ gs) : FmJ gs B (up3 B1 g i s x) := FmJ_tr a (fun g' hg => up3_g (fun e => hg (e ▸ h)))
abbrev FmW (A A' : FI) : Prop := FmO 10 [] [1, 2] A A'
theorem m_pushW {A : FI} {B : FJ} {n : Nat} (hn : n < 80) (x : Int64) (e : A 10 0 1 = nI n) : MV 0 1 mtX10_push [.inr (.inr (some (10, 0))), .inr (.inl x)] (hp A B) (Ret none (hp (up3 A 10 0 1 (nI (n + 1))) (up3 B 11 0 n x))) := by
  have tn := ti n (by omega)
  have cl : (nI n).toNatClampNeg = n := nI_clamp (by omega)
  refine MV_of caX10_push (L := [some (.inr (.inr (some (10, 0)))), some (.inr (.inl x)), none]) rfl rfl ?_
  repeat' (first
      | (refine R_br rfl rfl (fun hbr => absurd hbr (by first | decide | (with_reducible assumption) | (simp only [e]; first | decide | (with_reducible assumption)) | (simp only [i_eq, i_lt, i_le, Int32.reduceToInt, ne_eq, up3_self, nI_1, e]; first | done | omega))) (fun _ => ?_))
      | (refine R_br rfl rfl (fun _ => ?_) (fun hbr => absurd (by first | decide | (with_reducible assumption) | (simp only [e]; first | decide | (with_reducible assumption)) | (simp only [i_eq, i_lt, i_le, Int32.reduceToInt, ne_eq, up3_self, nI_1, e]; first | done | omega)) hbr))
      | (refine R_br rfl rfl (fun _ => ?_) (fun _ => ?_))
      | (refine R_ri rfl rfl ?_)
      | (refine R_rz rfl rfl (Or.inl rfl) ?_)
      | (refine R_rz rfl rfl (Or.inr rfl) ?_)
      | (refine R_rz rfl rfl (b2_01 _) ?_)
      | (refine R_rl rfl rfl ?_)
      | (refine R_rv rfl rfl ?_)
      | (refine R_sw _ rfl rfl rfl ?_)
      | (refine R_go 9999 rfl rfl trivial ?_)
      | (refine R_go 9999 rfl rfl (by first | (show _ ∨ _; decide) | (show (_ ∨ _) ∧ (_ ∨ _); decide) | (show (_ ∨ _) ∧ (_ ∨ _) ∧ (_ ∨ _); decide)) ?_)
      | (refine R_go 9999 rfl rfl ?_ ?_))
  · rw [e]; exact vpN (n := 80) hn rfl
  · rw [e, cl, nI_1]; exact ret_v rfl
theorem m_pushFieldW {A : FI} {B : FJ} {n : Nat} (hn : n < 80) (v : Nat) (hv : v ≤ 20 ∨ v = 99) (e : A 10 0 1 = nI n) : MV 1 1 mtX10_pushField [.inr (.inr (some (10, 0))), .inl (if v = 99 then -1 else nI v)] (hp A B) (Ret none (hp (up3 (if v = 99 then up3 A 10 0 2 1 else A) 10 0 1 (nI (n + 1))) (up3 B 11 0 n (if v = 99 then -1 else lN v)))) := by
  by_cases h : v = 99
  · rw [if_pos h, if_pos h, if_pos h]
    have e2 : up3 A 10 0 2 1 10 0 1 = nI n := by rw [up3_s (by decide)]; exact e
    refine MV_of caX10_pushField (L := [some (.inr (.inr (some (10, 0)))), some (.inl (-1))]) rfl rfl ?_
    repeat' (first
        | (refine R_br rfl rfl (fun hbr => absurd hbr (by first | decide | (with_reducible assumption))) (fun _ => ?_))
        | (refine R_br rfl rfl (fun _ => ?_) (fun hbr => absurd (by first | decide | (with_reducible assumption)) hbr))
        | (refine R_br rfl rfl (fun _ => ?_) (fun _ => ?_))
        | (refine R_ri rfl rfl ?_)
        | (refine R_rz rfl rfl (Or.inl rfl) ?_)
        | (refine R_rz rfl rfl (Or.inr rfl) ?_)
        | (refine R_rz rfl rfl (b2_01 _) ?_)
        | (refine R_rl rfl rfl ?_)
        | (refine R_rv rfl rfl ?_)
        | (refine R_cvv rfl (m_pushW hn _ e2) rfl rfl rfl rfl rfl (Nat.le_of_ble_eq_true rfl) rfl ?_)
        | (refine R_sw _ rfl rfl rfl ?_)
        | (refine R_go 9999 rfl rfl trivial ?_)
        | (refine R_go 9999 rfl rfl (by first | (show _ ∨ _; decide) | (show (_ ∨ _) ∧ (_ ∨ _); decide) | (show (_ ∨ _) ∧ (_ ∨ _) ∧ (_ ∨ _); decide)) ?_)
        | (refine R_go 9999 rfl rfl ?_ ?_))
    exact ret_v rfl
  · rw [if_neg h, if_neg h, if_neg h]
    have tv := ti v (by omega)
    have n1 : ¬ nI v = -1 := by (simp only [i_eq, i_lt, i_le, Int32.reduceToInt, true_and, and_true, false_and, and_false, or_false, false_or, or_true, true_or, ne_eq] at *; first | done | omega)
    refine MV_of caX10_pushField (L := [some (.inr (.inr (some (10, 0)))), some (.inl (nI v))]) rfl rfl ?_
    repeat' (first
        | (refine R_br rfl rfl (fun hbr => absurd hbr (by first | decide | (with_reducible assumption))) (fun _ => ?_))
        | (refine R_br rfl rfl (fun _ => ?_) (fun hbr => absurd (by first | decide | (with_reducible assumption)) hbr))
        | (refine R_br rfl rfl (fun _ => ?_) (fun _ => ?_))
        | (refine R_ri rfl rfl ?_)
        | (refine R_rz rfl rfl (Or.inl rfl) ?_)
        | (refine R_rz rfl rfl (Or.inr rfl) ?_)
        | (refine R_rz rfl rfl (b2_01 _) ?_)
        | (refine R_rl rfl rfl ?_)
        | (refine R_rv rfl rfl ?_)
        | (rw [nI_l (show v < 2 ^ 31 by omega)])
        | (refine R_cvv rfl (m_pushW hn _ e) rfl rfl rfl rfl rfl (Nat.le_of_ble_eq_true rfl) rfl ?_)
        | (refine R_sw _ rfl rfl rfl ?_)
        | (refine R_go 9999 rfl rfl trivial ?_)
        | (refine R_go 9999 rfl rfl (by first | (show _ ∨ _; decide) | (show (_ ∨ _) ∧ (_ ∨ _); decide) | (show (_ ∨ _) ∧ (_ ∨ _) ∧ (_ ∨ _); decide)) ?_)
        | (refine R_go 9999 rfl rfl ?_ ?_))
    exact ret_v rfl
theorem m_turnW {A : FI} {B : FJ} {n : Nat} (hn : n < 80) (a : Nat) (ha : a ≤ 2) (e : A 10 0 1 = nI (n + 1)) (eb : B 11 0 n = lN a) : MV 0 0 mtX10_turn [.inr (.inr (some (10, 0)))] (hp A B) (fun r h' => r = none ∧ ((a = 2 ∧ h' = hp A B) ∨ (a ≤ 1 ∧ h' = hp A (up3 B 11 0 n (lN (1 - a)))))) := by
  have tn := ti n (by omega)
  have tn1 := ti (n + 1) (by omega)
  have cl : (nI n).toNatClampNeg = n := nI_clamp (by omega)
  have e1 : A 10 0 1 - 1 = nI n := by rw [e, nI_pred]
  refine MV_of caX10_turn (L := [some (.inr (.inr (some (10, 0))))]) rfl rfl ?_
  by_cases h2 : a = 2
  · subst h2
    have n1 : lg_cmp (B 11 0 n) 2 = 0 := by rw [eb]; decide
    repeat' (first
        | (refine R_br rfl rfl (fun hbr => absurd hbr (by first | decide | (with_reducible assumption) | (simp only [e, nI_pred, cl]; first | decide | (with_reducible assumption)) | (simp only [i_eq, i_lt, i_le, Int32.reduceToInt, ne_eq, up3_self, nI_1, e, nI_pred, cl]; first | done | omega))) (fun _ => ?_))
        | (refine R_br rfl rfl (fun _ => ?_) (fun hbr => absurd (by first | decide | (with_reducible assumption) | (simp only [e, nI_pred, cl]; first | decide | (with_reducible assumption)) | (simp only [i_eq, i_lt, i_le, Int32.reduceToInt, ne_eq, up3_self, nI_1, e, nI_pred, cl]; first | done | omega)) hbr))
        | (refine R_br rfl rfl (fun _ => ?_) (fun _ => ?_))
        | (refine R_ri rfl rfl ?_)
        | (refine R_rz rfl rfl (Or.inl rfl) ?_)
        | (refine R_rz rfl rfl (Or.inr rfl) ?_)
        | (refine R_rz rfl rfl (b2_01 _) ?_)
        | (refine R_rl rfl rfl ?_)
        | (refine R_rv rfl rfl ?_)
        | (refine R_sw _ rfl rfl rfl ?_)
        | (refine R_go 9999 rfl rfl trivial ?_)
        | (refine R_go 9999 rfl rfl (by first | (show _ ∨ _; decide) | (show (_ ∨ _) ∧ (_ ∨ _); decide) | (show (_ ∨ _) ∧ (_ ∨ _) ∧ (_ ∨ _); decide)) ?_)
        | (refine R_go 9999 rfl rfl ?_ ?_))
    · rw [e1]; exact vpN (n := 80) hn rfl
    · exact ⟨rfl, Or.inl ⟨rfl, rfl⟩⟩
  · have n1 : ¬ lg_cmp (B 11 0 n) 2 = 0 := by
      rw [eb]
      rcases (show a = 0 ∨ a = 1 by omega) with rfl | rfl <;> decide
    have n2 : (1 : Int64) - B 11 0 n = lN (1 - a) := by
      rw [eb]
      exact lN_sub (a := 1) (by omega)
    repeat' (first
        | (refine R_br rfl rfl (fun hbr => absurd hbr (by first | decide | (with_reducible assumption) | (simp only [e, nI_pred, cl]; first | decide | (with_reducible assumption)) | (simp only [i_eq, i_lt, i_le, Int32.reduceToInt, ne_eq, up3_self, nI_1, e, nI_pred, cl]; first | done | omega))) (fun _ => ?_))
        | (refine R_br rfl rfl (fun _ => ?_) (fun hbr => absurd (by first | decide | (with_reducible assumption) | (simp only [e, nI_pred, cl]; first | decide | (with_reducible assumption)) | (simp only [i_eq, i_lt, i_le, Int32.reduceToInt, ne_eq, up3_self, nI_1, e, nI_pred, cl]; first | done | omega)) hbr))
        | (refine R_br rfl rfl (fun _ => ?_) (fun _ => ?_))
        | (refine R_ri rfl rfl ?_)
        | (refine R_rz rfl rfl (Or.inl rfl) ?_)
        | (refine R_rz rfl rfl (Or.inr rfl) ?_)
        | (refine R_rz rfl rfl (b2_01 _) ?_)
        | (refine R_rl rfl rfl ?_)
        | (refine R_rv rfl rfl ?_)
        | (refine R_sw _ rfl rfl rfl ?_)
        | (refine R_go 9999 rfl rfl trivial ?_)
        | (refine R_go 9999 rfl rfl (by first | (show _ ∨ _; decide) | (show (_ ∨ _) ∧ (_ ∨ _); decide) | (show (_ ∨ _) ∧ (_ ∨ _) ∧ (_ ∨ _); decide)) ?_)
        | (refine R_go 9999 rfl rfl ?_ ?_))
    · rw [e1]; exact vpN (n := 80) hn rfl
    · rw [e1]; exact ⟨vpN (n := 80) hn rfl, vpN (n := 80) hn rfl⟩
    · rw [e1, cl, n2]; exact ⟨rfl, Or.inr ⟨by omega, rfl⟩⟩
