/-- whether a ROW counts: 0 all, 1 LET, 2 good, 3 both -/
def isA (P : List (List Tk × Nat)) (w : Nat) (r : Rw) : Prop := (w = 1 ∨ w = 3 → (rnS r.1 0 P).1 = 1) ∧ (w = 2 ∨ w = 3 → r.2 = 1)
noncomputable def mbN (P : List (List Tk × Nat)) (R : List Rw) (f v w : Nat) : Nat → Nat
  | 0 => 0
  | n + 1 => mbN P R f v w n + @ite _ ((R.getD n d0).1 f = v ∧ isA P w (R.getD n d0)) (Classical.propDecidable _) 1 0
theorem mbN_y {P : List (List Tk × Nat)} {R : List Rw} {f v w n : Nat} (h : (R.getD n d0).1 f = v ∧ isA P w (R.getD n d0)) : mbN P R f v w (n + 1) = mbN P R f v w n + 1 := by
  rw [mbN]; congr 1; exact @if_pos _ (Classical.propDecidable _) h _ _ _
theorem mbN_n {P : List (List Tk × Nat)} {R : List Rw} {f v w n : Nat} (h : ¬ ((R.getD n d0).1 f = v ∧ isA P w (R.getD n d0))) : mbN P R f v w (n + 1) = mbN P R f v w n := by
  rw [mbN]; exact (congrArg (mbN P R f v w n + ·) (@if_neg _ (Classical.propDecidable _) h _ _ _)).trans rfl
theorem mbN_le (P : List (List Tk × Nat)) (R : List Rw) (f v w n : Nat) : mbN P R f v w n ≤ n := by
  induction n with
  | zero => exact Nat.le_refl _
  | succ n ih =>
    by_cases h : (R.getD n d0).1 f = v ∧ isA P w (R.getD n d0)
    · rw [mbN_y h]; omega
    · rw [mbN_n h]; omega
theorem rnS_le {P : List (List Tk × Nat)} (h : okP P) (q : Nat → Nat) : (rnS q 0 P).1 ≤ 2 := by
  obtain ⟨⟨dn, d, rfl, hd, hW⟩, -⟩ := h
  have key : ∀ (dn : List (List Tk × Nat)) (k : Nat), allW dn → (rnS q k (dn ++ [([], d)])).1 ≤ 2 := by
    intro dn
    induction dn with
    | nil => intro k _; show d ≤ 2; omega
    | cons l t ih =>
      intro k hW
      have hrn : rnS q k ((l :: t) ++ [([], d)]) = if hldS q l.1 = 0 then rnS q (k + 1) (t ++ [([], d)]) else if hldS q l.1 = 2 then (2, -1) else (l.2, nI k) := by
        cases t with
        | nil => rfl
        | cons m t' => rfl
      rw [hrn]
      have := (hW l List.mem_cons_self).2.2
      split
      · exact ih _ (fun x hx => hW x (List.mem_cons_of_mem _ hx))
      · split
        · exact Nat.le_refl _
        · show l.2 ≤ 2; omega
  exact key dn 0 hW
theorem m_isAs {P : List (List Tk × Nat)} {R : List Rw} {A : FI} {B : FJ} (hP : okP P) (hR : RCR A P R) (k w : Nat) (hk : k < R.length) (hw : w ≤ 3) : MV 2 2 mtX1_isAs [.inr (.inr (some (18, 0))), .inl (nI k), .inl (nI w)] (hp A B) (Ret (some (.inl (b2 (isA P w (R.getD k d0))))) (hp A B)) := by
  have h24 := hR.2.1
  have ck : (nI k).toNatClampNeg = k := nI_clamp (by omega)
  have hv : vp_in (nI k) 24 := vpN (n := 24) (by omega) rfl
  obtain ⟨-, e20, e21⟩ := hR.2.2 k hk
  rw [reS_y (okP_ne hP)] at e21
  have hle := rnS_le hP (R.getD k d0).1
  have hen := m_ended (B := B) hR.1 h24 k hk
  rw [e21] at hen
  have hrh := m_isRowHere (B := B) hR.1 h24 k hk
  refine MV_of caX1_isAs (L := [some (.inr (.inr (some (18, 0)))), some (.inl (nI k)), some (.inl (nI w)), none, none]) rfl rfl ?_
  refine R_go 9999 rfl rfl trivial ?_
  refine R_cvr rfl hen rfl rfl rfl rfl rfl (Nat.le_of_ble_eq_true rfl) rfl ?_
  have hgo : ∀ a : Int32, (a = 1 ∨ a = 0) → (a = 1 ↔ (rnS (R.getD k d0).1 0 P).1 = 1) → Rn 2 mtX1_isAs 14 [some (.inr (.inr (some (18, 0)))), some (.inl (nI k)), some (.inl (nI w)), none, none] [.inl a] (hp A B) (Ret (some (.inl (b2 (isA P w (R.getD k d0))))) (hp A B)) := by
    intro a ha hai
    refine R_go 9999 rfl rfl trivial ?_
    refine R_cvr rfl hrh rfl rfl rfl rfl rfl (Nat.le_of_ble_eq_true rfl) rfl ?_
    refine R_br rfl rfl (fun h => absurd h (by decide)) (fun _ => ?_)
    refine R_go 9999 rfl rfl hv ?_
    rw [ck, e20]
    have hgo2 : ∀ b : Int32, (b = 1 ∨ b = 0) → (b = 1 ↔ (R.getD k d0).2 = 1) → Rn 2 mtX1_isAs 38 [some (.inr (.inr (some (18, 0)))), some (.inl (nI k)), some (.inl (nI w)), some (.inl a), none] [.inl b] (hp A B) (Ret (some (.inl (b2 (isA P w (R.getD k d0))))) (hp A B)) := by
      intro b hb hbi
      unfold isA
      rcases (show w = 0 ∨ w = 1 ∨ w = 2 ∨ w = 3 by omega) with rfl | rfl | rfl | rfl <;> rcases ha with rfl | rfl <;> rcases hb with rfl | rfl
      all_goals
        repeat' (first
            | (refine R_br rfl rfl (fun hbr => absurd hbr (by first | decide | (with_reducible assumption))) (fun _ => ?_))
            | (refine R_br rfl rfl (fun _ => ?_) (fun hbr => absurd (by first | decide | (with_reducible assumption)) hbr))
            | (refine R_br rfl rfl (fun _ => ?_) (fun _ => ?_))
            | (refine R_ri rfl rfl ?_)
            | (refine R_rz rfl rfl (Or.inl rfl) ?_)
            | (refine R_rz rfl rfl (Or.inr rfl) ?_)
            | (refine R_rz rfl rfl (b2_01 _) ?_)
            | (refine R_rl rfl rfl ?_)
            | (refine R_rv rfl rfl ?_)
            | (refine R_sw _ rfl rfl rfl ?_)
            | (refine R_go 9999 rfl rfl trivial ?_)
            | (refine R_go 9999 rfl rfl (by first | (show _ ∨ _; decide) | (show (_ ∨ _) ∧ (_ ∨ _); decide) | (show (_ ∨ _) ∧ (_ ∨ _) ∧ (_ ∨ _); decide)) ?_)
            | (refine R_go 9999 rfl rfl ?_ ?_))
      all_goals first
        | exact ret_y ⟨by simp at hai ⊢ <;> first | exact hai | omega, by simp at hbi ⊢ <;> first | exact hbi | omega⟩ rfl
        | exact ret_n (fun z => by simp at hai hbi z <;> first | exact absurd z hai | exact absurd z hbi | exact absurd z.1 hai | exact absurd z.2 hbi | omega) rfl
    refine R_br rfl rfl (fun h1 => ?_) (fun h1 => ?_)
    · refine R_go 38 rfl rfl trivial ?_
      exact hgo2 1 (Or.inl rfl) ⟨fun _ => h1, fun _ => rfl⟩
    · refine R_go 38 rfl rfl trivial ?_
      exact hgo2 0 (Or.inr rfl) ⟨fun z => absurd z (by decide), fun z => absurd z h1⟩
  have tr := ti (rnS (R.getD k d0).1 0 P).1 (by omega)
  refine R_go 9999 rfl rfl trivial ?_
  refine R_br rfl rfl (fun h1 => ?_) (fun h1 => ?_)
  · refine R_go 14 rfl rfl trivial ?_
    exact hgo 1 (Or.inl rfl) ⟨fun _ => by (simp only [i_eq, i_lt, i_le, Int32.reduceToInt, true_and, and_true, false_and, and_false, or_false, false_or, or_true, true_or, ne_eq] at *; first | done | omega), fun _ => rfl⟩
  · refine R_go 14 rfl rfl trivial ?_
    exact hgo 0 (Or.inr rfl) ⟨fun z => absurd z (by decide), fun z => absurd (by rw [z]; rfl) h1⟩
theorem l_members {P : List (List Tk × Nat)} {R : List Rw} {A : FI} {B : FJ} (hP : okP P) (hR : RCR A P R) (f v w : Nat) (hf : f < 8) (hv : v ≤ 20) (hw : w ≤ 3) : ∀ (m k : Nat), k + m = R.length → Rn 3 mtX1_members 6 [some (.inr (.inr (some (18, 0)))), some (.inl (nI f)), some (.inl (nI v)), some (.inl (nI w)), some (.inl (nI (mbN P R f v w k))), some (.inl (nI k))] [] (hp A B) (Ret (some (.inl (nI (mbN P R f v w R.length)))) (hp A B)) := by
  intro m
  have h24 := hR.2.1
  have e3 := hR.1
  induction m with
  | zero =>
    intro k hk
    have : R.length = k := by omega
    have n1 : A 18 0 3 ≤ nI k := by rw [e3, this]; exact Int32.le_refl _
    refine R_go 9999 rfl rfl trivial ?_
    refine R_br rfl rfl (fun _ => ?_) (fun h => absurd n1 h)
    repeat' (first
        | (refine R_br rfl rfl (fun hbr => absurd hbr (by first | decide | (with_reducible assumption))) (fun _ => ?_))
        | (refine R_br rfl rfl (fun _ => ?_) (fun hbr => absurd (by first | decide | (with_reducible assumption)) hbr))
        | (refine R_br rfl rfl (fun _ => ?_) (fun _ => ?_))
        | (refine R_ri rfl rfl ?_)
        | (refine R_rz rfl rfl (Or.inl rfl) ?_)
        | (refine R_rz rfl rfl (Or.inr rfl) ?_)
        | (refine R_rz rfl rfl (b2_01 _) ?_)
        | (refine R_rl rfl rfl ?_)
        | (refine R_rv rfl rfl ?_)
        | (refine R_sw _ rfl rfl rfl ?_)
        | (refine R_go 9999 rfl rfl trivial ?_)
        | (refine R_go 9999 rfl rfl (by first | (show _ ∨ _; decide) | (show (_ ∨ _) ∧ (_ ∨ _); decide) | (show (_ ∨ _) ∧ (_ ∨ _) ∧ (_ ∨ _); decide)) ?_)
        | (refine R_go 9999 rfl rfl ?_ ?_))
    rw [this]; exact ret_i rfl rfl
  | succ m ih =>
    intro k hk
    have tk := ti k (by omega)
    have tl := ti R.length (by omega)
    have tv := ti v (by omega)
    obtain ⟨hq, -, -⟩ := hR.2.2 k (by omega)
    have hnr := m_numR (B := B) e3 h24 k (by omega) hq f hf
    have hia := m_isAs (B := B) hP hR k w (by omega) hw
    refine R_go 9999 rfl rfl trivial ?_
    refine R_br rfl rfl (fun h => absurd h (by rw [e3]; (simp only [i_eq, i_lt, i_le, Int32.reduceToInt, true_and, and_true, false_and, and_false, or_false, false_or, or_true, true_or, ne_eq] at *; first | done | omega))) (fun _ => ?_)
    refine R_go 9999 rfl rfl trivial ?_
    refine R_br rfl rfl (fun h => absurd h (by (simp only [i_eq, i_lt, i_le, Int32.reduceToInt, true_and, and_true, false_and, and_false, or_false, false_or, or_true, true_or, ne_eq] at *; first | done | omega))) (fun _ => ?_)
    refine R_go 9999 rfl rfl trivial ?_
    refine R_cvr rfl hnr rfl rfl rfl rfl rfl (Nat.le_of_ble_eq_true rfl) rfl ?_
    refine R_go 9999 rfl rfl trivial ?_
    have hqb := (hq f hf).2
    have tq := ti ((R.getD k d0).1 f) (by omega)
    have hz : nI (mbN P R f v w k) + 0 = nI (mbN P R f v w k) := nI_add _ 0
    by_cases hvf : (R.getD k d0).1 f = v
    · have n1 : (if (R.getD k d0).1 f = 99 then (-1 : Int32) else nI ((R.getD k d0).1 f)) = nI v := by rw [if_neg (by omega), hvf]
      refine R_br rfl rfl (fun _ => ?_) (fun h => absurd n1 h)
      by_cases hi : isA P w (R.getD k d0)
      · rw [b2_1 hi] at hia
        have hy := mbN_y (P := P) (w := w) ⟨hvf, hi⟩
        repeat' (first
            | (refine R_stop 6 rfl rfl ?_)
            | (refine R_br rfl rfl (fun hbr => absurd hbr (by first | decide | (with_reducible assumption))) (fun _ => ?_))
            | (refine R_br rfl rfl (fun _ => ?_) (fun hbr => absurd (by first | decide | (with_reducible assumption)) hbr))
            | (refine R_br rfl rfl (fun _ => ?_) (fun _ => ?_))
            | (refine R_ri rfl rfl ?_)
            | (refine R_rz rfl rfl (Or.inl rfl) ?_)
            | (refine R_rz rfl rfl (Or.inr rfl) ?_)
            | (refine R_rz rfl rfl (b2_01 _) ?_)
            | (refine R_rl rfl rfl ?_)
            | (refine R_rv rfl rfl ?_)
            | (refine R_cvr rfl (hia) rfl rfl rfl rfl rfl (Nat.le_of_ble_eq_true rfl) rfl ?_)
            | (refine R_csr rfl (m_bit 1 (Or.inr rfl) _ _) rfl rfl rfl (Nat.le_of_ble_eq_true rfl) rfl ?_)
            | (refine R_sw _ rfl rfl rfl ?_)
            | (refine R_go 6 rfl rfl trivial ?_)
            | (refine R_go 6 rfl rfl (by first | (show _ ∨ _; decide) | (show (_ ∨ _) ∧ (_ ∨ _); decide) | (show (_ ∨ _) ∧ (_ ∨ _) ∧ (_ ∨ _); decide)) ?_)
            | (refine R_go 6 rfl rfl ?_ ?_))
        refine ⟨?_, trivial⟩
        rw [nI_1, nI_1, ← hy]
        exact ih (k + 1) (by omega)
      · rw [b2_0 hi] at hia
        have hy := mbN_n (P := P) (w := w) (f := f) (v := v) (fun z => hi z.2)
        repeat' (first
            | (refine R_stop 6 rfl rfl ?_)
            | (refine R_br rfl rfl (fun hbr => absurd hbr (by first | decide | (with_reducible assumption))) (fun _ => ?_))
            | (refine R_br rfl rfl (fun _ => ?_) (fun hbr => absurd (by first | decide | (with_reducible assumption)) hbr))
            | (refine R_br rfl rfl (fun _ => ?_) (fun _ => ?_))
            | (refine R_ri rfl rfl ?_)
            | (refine R_rz rfl rfl (Or.inl rfl) ?_)
            | (refine R_rz rfl rfl (Or.inr rfl) ?_)
            | (refine R_rz rfl rfl (b2_01 _) ?_)
            | (refine R_rl rfl rfl ?_)
            | (refine R_rv rfl rfl ?_)
            | (refine R_cvr rfl (hia) rfl rfl rfl rfl rfl (Nat.le_of_ble_eq_true rfl) rfl ?_)
            | (refine R_csr rfl (m_bit 0 (Or.inl rfl) _ _) rfl rfl rfl (Nat.le_of_ble_eq_true rfl) rfl ?_)
            | (refine R_sw _ rfl rfl rfl ?_)
            | (refine R_go 6 rfl rfl trivial ?_)
            | (refine R_go 6 rfl rfl (by first | (show _ ∨ _; decide) | (show (_ ∨ _) ∧ (_ ∨ _); decide) | (show (_ ∨ _) ∧ (_ ∨ _) ∧ (_ ∨ _); decide)) ?_)
            | (refine R_go 6 rfl rfl ?_ ?_))
        refine ⟨?_, trivial⟩
        rw [nI_1, hz, ← hy]
        exact ih (k + 1) (by omega)
    · have n1 : ¬ (if (R.getD k d0).1 f = 99 then (-1 : Int32) else nI ((R.getD k d0).1 f)) = nI v := by
        by_cases h99 : (R.getD k d0).1 f = 99
        · rw [if_pos h99, i_eq, tv]; simp only [Int32.reduceToInt, show (-1 : Int32).toInt = -1 by decide]; omega
        · rw [if_neg h99]; (simp only [i_eq, i_lt, i_le, Int32.reduceToInt, true_and, and_true, false_and, and_false, or_false, false_or, or_true, true_or, ne_eq] at *; first | done | omega)
      have hy := mbN_n (P := P) (w := w) (f := f) (v := v) (fun z => hvf z.1)
      refine R_br rfl rfl (fun h => absurd h n1) (fun _ => ?_)
      repeat' (first
          | (refine R_stop 6 rfl rfl ?_)
          | (refine R_br rfl rfl (fun hbr => absurd hbr (by first | decide | (with_reducible assumption))) (fun _ => ?_))
          | (refine R_br rfl rfl (fun _ => ?_) (fun hbr => absurd (by first | decide | (with_reducible assumption)) hbr))
          | (refine R_br rfl rfl (fun _ => ?_) (fun _ => ?_))
          | (refine R_ri rfl rfl ?_)
          | (refine R_rz rfl rfl (Or.inl rfl) ?_)
          | (refine R_rz rfl rfl (Or.inr rfl) ?_)
          | (refine R_rz rfl rfl (b2_01 _) ?_)
          | (refine R_rl rfl rfl ?_)
          | (refine R_rv rfl rfl ?_)
          | (refine R_csr rfl (m_bit 0 (Or.inl rfl) _ _) rfl rfl rfl (Nat.le_of_ble_eq_true rfl) rfl ?_)
          | (refine R_sw _ rfl rfl rfl ?_)
          | (refine R_go 6 rfl rfl trivial ?_)
          | (refine R_go 6 rfl rfl (by first | (show _ ∨ _; decide) | (show (_ ∨ _) ∧ (_ ∨ _); decide) | (show (_ ∨ _) ∧ (_ ∨ _) ∧ (_ ∨ _); decide)) ?_)
          | (refine R_go 6 rfl rfl ?_ ?_))
      refine ⟨?_, trivial⟩
      rw [nI_1, hz, ← hy]
      exact ih (k + 1) (by omega)
theorem m_members {P : List (List Tk × Nat)} {R : List Rw} {A : FI} {B : FJ} (hP : okP P) (hR : RCR A P R) (f v w : Nat) (hf : f < 8) (hv : v ≤ 20) (hw : w ≤ 3) : MV 3 3 mtX1_members [.inr (.inr (some (18, 0))), .inl (nI f), .inl (nI v), .inl (nI w)] (hp A B) (Ret (some (.inl (nI (mbN P R f v w R.length)))) (hp A B)) := by
  refine MV_of caX1_members (L := [some (.inr (.inr (some (18, 0)))), some (.inl (nI f)), some (.inl (nI v)), some (.inl (nI w)), none, none]) rfl rfl ?_
  refine R_go 6 rfl rfl trivial ?_
  exact l_members hP hR f v w hf hv hw R.length 0 (by omega)
