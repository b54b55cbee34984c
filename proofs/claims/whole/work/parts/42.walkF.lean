abbrev wkL (s p : Nat) (i : Nat) (o : Option AV) : List (Option AV) := [some (.inr (.inr (some (10, 0)))), some (.inr (.inr (some (4, s)))), some (.inr (.inr (some (24, p)))), some (.inl (nI i)), o]
def cdt (n : Nat) (t : Tk) : Nat := if t.1 = 8 then 128 + n else cd1 t.1
/-- one token -/
theorem st_walk {s p : Nat} {A : FI} {B : FJ} {cl nl : List Nat} {q : Nat → Nat} {Q : Option AV → AH → Prop} (t : Tk) (i n : Nat) (z : Ev) (y y' : Nat × List Nat) (hS : SW s p A cl nl q) (hi : i < cl.length) (hc : cl.getD i 0 = cdt n t) (hnn : t.1 = 8 → n < nl.length ∧ nl.getD n 0 = t.2) (hw : wst y t = some y') (hz : typ z y) (hR : RW A B z) (hlen : z.1.length + z.2.length < 80) (kk : ∀ A' B' o, RW A' B' (evs q z t) → FmW A A' → FmJ [11] B B' → Rn 2 mtX10_walk 17 (wkL s p (i + 1) o) [] (hp A' B') Q) (o : Option AV) : Rn 2 mtX10_walk 17 (wkL s p i o) [] (hp A B) Q := by
  obtain ⟨s1, s2, s3, s4, s5, s6, s7⟩ := hS
  have tI := ti i (by omega)
  have tl := ti cl.length (by omega)
  have hcd := m_codeC (B := B) s1 s2 s5 i hi
  rw [hc] at hcd
  have hq2 : ∀ g, (if g = true then up3 A 10 0 2 1 else A) 10 0 1 = A 10 0 1 := fun g => by cases g <;> simp [up3]
  have hF2 : ∀ g x, FmW A (up3 (if g = true then up3 A 10 0 2 1 else A) 10 0 1 x) := fun g x => by cases g <;> simp only [if_true, if_false, Bool.false_eq_true] <;> exact (by first | exact FmO_rf | (repeat' (first | exact FmO_rf | (with_reducible assumption) | (refine FmO_up ?_ (by decide)) | (refine FmO_ug ?_ (by decide) (by decide)))))
  refine R_go 9999 rfl rfl trivial ?_
  refine R_cvr rfl (m_sizeS s2) rfl rfl rfl rfl rfl (Nat.le_of_ble_eq_true rfl) rfl ?_
  refine R_br rfl rfl (fun h => absurd h (by (simp only [i_eq, i_lt, i_le, Int32.reduceToInt, true_and, and_true, false_and, and_false, or_false, false_or, or_true, true_or, ne_eq] at *; first | done | omega))) (fun _ => ?_)
  refine R_go 9999 rfl rfl trivial ?_
  refine R_cvr rfl hcd rfl rfl rfl rfl rfl (Nat.le_of_ble_eq_true rfl) rfl ?_
  by_cases h1 : t.1 < 8
  · have e1 : cdt n t = t.1 := by unfold cdt cd1; rw [if_neg (by omega), if_pos h1]
    rw [e1]
    have tt := ti t.1 (by omega)
    have hnp := m_numP (B := B) s7 t.1 h1
    have hpf := m_pushFieldW (B := B) hlen (q t.1) (s7 t.1 h1).2 (RW_len hR)
    have hev : evs q z t = ((lN (q t.1), decide (q t.1 = 99)) :: z.1, z.2) := by unfold evs; rw [if_pos h1]
    repeat' (first
        | (refine R_stop 17 rfl rfl ?_)
        | (refine R_br rfl rfl (fun hbr => absurd hbr (by first | decide | (with_reducible assumption) | (simp only [i_eq, i_lt, i_le, Int32.reduceToInt, ne_eq, up3_self, nI_1]; first | done | omega))) (fun _ => ?_))
        | (refine R_br rfl rfl (fun _ => ?_) (fun hbr => absurd (by first | decide | (with_reducible assumption) | (simp only [i_eq, i_lt, i_le, Int32.reduceToInt, ne_eq, up3_self, nI_1]; first | done | omega)) hbr))
        | (refine R_br rfl rfl (fun _ => ?_) (fun _ => ?_))
        | (refine R_ri rfl rfl ?_)
        | (refine R_rz rfl rfl (Or.inl rfl) ?_)
        | (refine R_rz rfl rfl (Or.inr rfl) ?_)
        | (refine R_rz rfl rfl (b2_01 _) ?_)
        | (refine R_rl rfl rfl ?_)
        | (refine R_rv rfl rfl ?_)
        | (refine R_cvr rfl (hnp) rfl rfl rfl rfl rfl (Nat.le_of_ble_eq_true rfl) rfl ?_)
        | (refine R_cvv rfl (hpf) rfl rfl rfl rfl rfl (Nat.le_of_ble_eq_true rfl) rfl ?_)
        | (refine R_sw _ rfl rfl rfl ?_)
        | (refine R_go 17 rfl rfl trivial ?_)
        | (refine R_go 17 rfl rfl (by first | (show _ ∨ _; decide) | (show (_ ∨ _) ∧ (_ ∨ _); decide) | (show (_ ∨ _) ∧ (_ ∨ _) ∧ (_ ∨ _); decide)) ?_)
        | (refine R_go 17 rfl rfl ?_ ?_))
    refine ⟨?_, trivial⟩
    rw [nI_1]
    have hrw := RW_psh hR (if q t.1 = 99 then -1 else lN (q t.1)) (lN (q t.1)) (decide (q t.1 = 99)) (fun z => if_neg (by simpa using z))
    rw [← hev] at hrw
    have e2 : (if decide (q t.1 = 99) = true then up3 A 10 0 2 1 else A) = (if q t.1 = 99 then up3 A 10 0 2 1 else A) := by
      by_cases h : q t.1 = 99 <;> simp [h]
    have hfm := hF2 (decide (q t.1 = 99)) (nI (z.1.length + z.2.length + 1))
    rw [e2] at hrw hfm
    exact kk _ _ _ hrw hfm (FmJ_up FmJ_rf (by decide))
  by_cases h2 : t.1 = 8
  · have e1 : cdt n t = 128 + n := by unfold cdt; rw [if_pos h2]
    rw [e1]
    obtain ⟨n1, n2⟩ := hnn h2
    have tn := ti (128 + n) (by omega)
    have hnm := m_numC (B := B) s3 s4 s6 n n1
    rw [n2] at hnm
    have ht99 := (wst_n hw h2).1
    have e2 : nI (128 + n) - 128 = nI n := by
      have h := nI_sub (a := 128 + n) (b := 128) (by omega)
      rw [show 128 + n - 128 = n by omega] at h
      exact h
    have hev : evs q z t = ((lN t.2, false) :: z.1, z.2) := by unfold evs; rw [if_neg h1, if_pos h2]
    repeat' (first
        | (refine R_stop 17 rfl rfl ?_)
        | (refine R_br rfl rfl (fun hbr => absurd hbr (by first | decide | (with_reducible assumption) | (simp only [i_eq, i_lt, i_le, Int32.reduceToInt, ne_eq, up3_self, nI_1]; first | done | omega))) (fun _ => ?_))
        | (refine R_br rfl rfl (fun _ => ?_) (fun hbr => absurd (by first | decide | (with_reducible assumption) | (simp only [i_eq, i_lt, i_le, Int32.reduceToInt, ne_eq, up3_self, nI_1]; first | done | omega)) hbr))
        | (refine R_br rfl rfl (fun _ => ?_) (fun _ => ?_))
        | (refine R_ri rfl rfl ?_)
        | (refine R_rz rfl rfl (Or.inl rfl) ?_)
        | (refine R_rz rfl rfl (Or.inr rfl) ?_)
        | (refine R_rz rfl rfl (b2_01 _) ?_)
        | (refine R_rl rfl rfl ?_)
        | (refine R_rv rfl rfl ?_)
        | (rw [e2])
        | (refine R_cvr rfl (hnm) rfl rfl rfl rfl rfl (Nat.le_of_ble_eq_true rfl) rfl ?_)
        | (rw [nI_l (show t.2 < 2 ^ 31 by omega)])
        | (refine R_cvv rfl (m_pushW hlen _ (RW_len hR)) rfl rfl rfl rfl rfl (Nat.le_of_ble_eq_true rfl) rfl ?_)
        | (refine R_sw _ rfl rfl rfl ?_)
        | (refine R_go 17 rfl rfl trivial ?_)
        | (refine R_go 17 rfl rfl (by first | (show _ ∨ _; decide) | (show (_ ∨ _) ∧ (_ ∨ _); decide) | (show (_ ∨ _) ∧ (_ ∨ _) ∧ (_ ∨ _); decide)) ?_)
        | (refine R_go 17 rfl rfl ?_ ?_))
    refine ⟨?_, trivial⟩
    rw [nI_1]
    have hrw := RW_psh hR (lN t.2) (lN t.2) false (fun _ => rfl)
    rw [← hev] at hrw
    exact kk _ _ _ hrw (hF2 false _) (FmJ_up FmJ_rf (by decide))
  have hop : 9 ≤ t.1 := by omega
  have e1 : cdt n t = ltr t.1 := by unfold cdt cd1; rw [if_neg h2, if_neg h1]
  rw [e1]
  have hlt : ltr t.1 < 128 := by
    unfold ltr
    repeat' split
    all_goals omega
  have tt := ti (ltr t.1) (by omega)
  by_cases h3 : t.1 = 15
  · obtain ⟨w1, w2, rfl⟩ := wst_x hw h3
    obtain ⟨z1, z2⟩ := z
    obtain ⟨y1, y2, y3⟩ := hz
    dsimp only at y1 y2 y3 hlen
    rw [w1] at y1
    have : z1 = [] := List.eq_nil_of_length_eq_zero y1
    subst this
    obtain ⟨a, u, rfl⟩ := len1 y2 w2
    obtain ⟨r1, r2, r3⟩ := RW_tru hR
    have ha := y3 a (by simp)
    have hev : evs q ([], a :: u) t = ([], (if a = 2 then 2 else 1 - a) :: u) := by unfold evs; rw [if_neg h1, if_neg h2, if_neg (by omega), if_neg (by omega), if_pos h3]
    rw [hev] at kk
    have e3 : ltr t.1 = 33 := by rw [h3]; rfl
    rw [e3]
    simp only [List.length_cons, List.length_nil] at hlen
    repeat' (first
        | (refine R_br rfl rfl (fun hbr => absurd hbr (by first | decide | (with_reducible assumption))) (fun _ => ?_))
        | (refine R_br rfl rfl (fun _ => ?_) (fun hbr => absurd (by first | decide | (with_reducible assumption)) hbr))
        | (refine R_br rfl rfl (fun _ => ?_) (fun _ => ?_))
        | (refine R_ri rfl rfl ?_)
        | (refine R_rz rfl rfl (Or.inl rfl) ?_)
        | (refine R_rz rfl rfl (Or.inr rfl) ?_)
        | (refine R_rz rfl rfl (b2_01 _) ?_)
        | (refine R_rl rfl rfl ?_)
        | (refine R_rv rfl rfl ?_)
        | (refine R_cv rfl (m_turnW (n := u.length) (by omega) a ha r2 r1) rfl rfl rfl rfl rfl (Nat.le_of_ble_eq_true rfl) rfl ?_)
        | (refine R_sw _ rfl rfl rfl ?_)
        | (refine R_go 9999 rfl rfl trivial ?_)
        | (refine R_go 9999 rfl rfl (by first | (show _ ∨ _; decide) | (show (_ ∨ _) ∧ (_ ∨ _); decide) | (show (_ ∨ _) ∧ (_ ∨ _) ∧ (_ ∨ _); decide)) ?_)
        | (refine R_go 9999 rfl rfl ?_ ?_))
    rintro r h' ⟨rfl, ⟨h4, rfl⟩ | ⟨h4, rfl⟩⟩
    ·
      repeat' (first
          | (refine R_stop 17 rfl rfl ?_)
          | (refine R_br rfl rfl (fun hbr => absurd hbr (by first | decide | (with_reducible assumption))) (fun _ => ?_))
          | (refine R_br rfl rfl (fun _ => ?_) (fun hbr => absurd (by first | decide | (with_reducible assumption)) hbr))
          | (refine R_br rfl rfl (fun _ => ?_) (fun _ => ?_))
          | (refine R_ri rfl rfl ?_)
          | (refine R_rz rfl rfl (Or.inl rfl) ?_)
          | (refine R_rz rfl rfl (Or.inr rfl) ?_)
          | (refine R_rz rfl rfl (b2_01 _) ?_)
          | (refine R_rl rfl rfl ?_)
          | (refine R_rv rfl rfl ?_)
          | (refine R_sw _ rfl rfl rfl ?_)
          | (refine R_go 17 rfl rfl trivial ?_)
          | (refine R_go 17 rfl rfl (by first | (show _ ∨ _; decide) | (show (_ ∨ _) ∧ (_ ∨ _); decide) | (show (_ ∨ _) ∧ (_ ∨ _) ∧ (_ ∨ _); decide)) ?_)
          | (refine R_go 17 rfl rfl ?_ ?_))
      refine ⟨?_, trivial⟩
      rw [nI_1]
      rw [if_pos h4] at kk
      rw [h4] at hR
      exact kk _ _ _ hR FmO_rf FmJ_rf
    ·
      repeat' (first
          | (refine R_stop 17 rfl rfl ?_)
          | (refine R_br rfl rfl (fun hbr => absurd hbr (by first | decide | (with_reducible assumption))) (fun _ => ?_))
          | (refine R_br rfl rfl (fun _ => ?_) (fun hbr => absurd (by first | decide | (with_reducible assumption)) hbr))
          | (refine R_br rfl rfl (fun _ => ?_) (fun _ => ?_))
          | (refine R_ri rfl rfl ?_)
          | (refine R_rz rfl rfl (Or.inl rfl) ?_)
          | (refine R_rz rfl rfl (Or.inr rfl) ?_)
          | (refine R_rz rfl rfl (b2_01 _) ?_)
          | (refine R_rl rfl rfl ?_)
          | (refine R_rv rfl rfl ?_)
          | (refine R_sw _ rfl rfl rfl ?_)
          | (refine R_go 17 rfl rfl trivial ?_)
          | (refine R_go 17 rfl rfl (by first | (show _ ∨ _; decide) | (show (_ ∨ _) ∧ (_ ∨ _); decide) | (show (_ ∨ _) ∧ (_ ∨ _) ∧ (_ ∨ _); decide)) ?_)
          | (refine R_go 17 rfl rfl ?_ ?_))
      refine ⟨?_, trivial⟩
      rw [nI_1]
      rw [if_neg (show ¬ a = 2 by omega)] at kk
      exact kk _ _ _ (r3 _) FmO_rf (FmJ_up FmJ_rf (by decide))
  have hle : t.1 ≤ 17 := by
    by_cases h : 16 ≤ t.1
    · exact (wst_j hw h).1
    · omega
  have hwl : 9 ≤ t.1 ∧ t.1 ≤ 17 ∧ t.1 ≠ 15 := ⟨hop, hle, h3⟩
  have hl33 : ¬ ltr t.1 = 33 ∧ 20 ≤ ltr t.1 := by
    rcases (show t.1 = 9 ∨ t.1 = 10 ∨ t.1 = 11 ∨ t.1 = 12 ∨ t.1 = 13 ∨ t.1 = 14 ∨ t.1 = 16 ∨ t.1 = 17 by omega) with h | h | h | h | h | h | h | h <;> rw [h] <;> decide
  have hfin : ∀ (m : Nat) (a b : Int64) (g : Bool), m + 2 ≤ 80 → A 10 0 1 = nI (m + 2) → B 11 0 m = a → B 11 0 (m + 1) = b → A 10 0 2 = bI g → (∀ o, Rn 2 mtX10_walk 17 (wkL s p (i + 1) o) [] (hp (if (g && decide (12 ≤ t.1 ∧ t.1 ≤ 14)) = true then up3 (up3 A 10 0 1 (nI (m + 1))) 10 0 2 0 else up3 A 10 0 1 (nI (m + 1))) (if (g && decide (12 ≤ t.1 ∧ t.1 ≤ 14)) = true then up3 (up3 B 11 0 m (jn t.1 a b)) 11 0 m 2 else up3 B 11 0 m (jn t.1 a b))) Q) → Rn 2 mtX10_walk 30 (wkL s p i o) [.inl (nI (ltr t.1))] (hp A B) Q := by
    intro m a b g hm e ea eb eg hk
    have hj := m_joinW hm t.1 hwl a b e ea eb g eg
    repeat' (first
        | (refine R_stop 17 rfl rfl ?_)
        | (refine R_br rfl rfl (fun hbr => absurd hbr (by first | decide | (with_reducible assumption) | (simp only [i_eq, i_lt, i_le, Int32.reduceToInt, ne_eq, up3_self, nI_1]; first | done | omega))) (fun _ => ?_))
        | (refine R_br rfl rfl (fun _ => ?_) (fun hbr => absurd (by first | decide | (with_reducible assumption) | (simp only [i_eq, i_lt, i_le, Int32.reduceToInt, ne_eq, up3_self, nI_1]; first | done | omega)) hbr))
        | (refine R_br rfl rfl (fun _ => ?_) (fun _ => ?_))
        | (refine R_ri rfl rfl ?_)
        | (refine R_rz rfl rfl (Or.inl rfl) ?_)
        | (refine R_rz rfl rfl (Or.inr rfl) ?_)
        | (refine R_rz rfl rfl (b2_01 _) ?_)
        | (refine R_rl rfl rfl ?_)
        | (refine R_rv rfl rfl ?_)
        | (refine R_cvv rfl (hj) rfl rfl rfl rfl rfl (Nat.le_of_ble_eq_true rfl) rfl ?_)
        | (refine R_sw _ rfl rfl rfl ?_)
        | (refine R_go 17 rfl rfl trivial ?_)
        | (refine R_go 17 rfl rfl (by first | (show _ ∨ _; decide) | (show (_ ∨ _) ∧ (_ ∨ _); decide) | (show (_ ∨ _) ∧ (_ ∨ _) ∧ (_ ∨ _); decide)) ?_)
        | (refine R_go 17 rfl rfl ?_ ?_))
    refine ⟨?_, trivial⟩
    rw [nI_1]
    exact hk _
  by_cases h4 : t.1 < 12
  · obtain ⟨b0, a0, r0, w1, c, -, rfl, -⟩ := wst_a hw hop h4
    obtain ⟨z1, z2⟩ := z
    obtain ⟨y1, y2, y3⟩ := hz
    dsimp only at y1 y2 y3 hlen
    rw [w1] at y1
    obtain ⟨b, a, r, rfl⟩ := len2 y1 (by simp)
    obtain ⟨ya, yb, g, q1, q2, q3, q4, q5⟩ := RW_ari hR
    have hev : evs q (b :: a :: r, z2) t = ((ari t.1 a.1 b.1, a.2 || b.2) :: r, z2) := by unfold evs; rw [if_neg h1, if_neg h2, if_pos h4]
    rw [hev] at kk
    simp only [List.length_cons] at hlen
    refine hfin _ ya yb g (by omega) q4 q1 q2 q3 (fun o => ?_)
    rw [if_neg (by simp; omega), if_neg (by simp; omega)]
    exact kk _ _ _ (q5 (jn t.1 ya yb) _ (fun z1 z2 z3 z4 => by rw [z3, z4]; exact ari_jn hop h4 _ _)) (by first | exact FmO_rf | (repeat' (first | exact FmO_rf | (with_reducible assumption) | (refine FmO_up ?_ (by decide)) | (refine FmO_ug ?_ (by decide) (by decide))))) (FmJ_up FmJ_rf (by decide))
  by_cases h5 : t.1 < 15
  · obtain ⟨b0, a0, w1, rfl⟩ := wst_c hw (by omega) h5
    obtain ⟨z1, z2⟩ := z
    obtain ⟨y1, y2, y3⟩ := hz
    dsimp only at y1 y2 y3 hlen
    rw [w1] at y1
    obtain ⟨b, a, r, rfl⟩ := len2 y1 (by simp)
    have : r = [] := by cases r with
      | nil => rfl
      | cons _ _ => simp at y1
    subst this
    obtain ⟨ya, yb, q1, q2, q3, q4, q5, q6, q7⟩ := RW_cmp hR
    have hev : evs q ([b, a], z2) t = ([], (if (a.2 || b.2) = true then 2 else cmt t.1 a.1 b.1) :: z2) := by unfold evs; rw [if_neg h1, if_neg h2, if_neg h4, if_pos h5]
    rw [hev] at kk
    simp only [List.length_cons, List.length_nil] at hlen
    refine hfin _ ya yb _ (by omega) q4 q1 q2 q3 (fun o => ?_)
    cases hg : (a.2 || b.2) with
    | true =>
      rw [hg] at kk
      rw [if_pos (by simp; omega), if_pos (by simp; omega)]
      rw [if_pos rfl] at kk
      refine kk _ _ _ (q7 _ _ 2 ?_ ?_ ?_ ?_) (by first | exact FmO_rf | (repeat' (first | exact FmO_rf | (with_reducible assumption) | (refine FmO_up ?_ (by decide)) | (refine FmO_ug ?_ (by decide) (by decide))))) (FmJ_up (FmJ_up FmJ_rf (by decide)) (by decide))
      · rw [up3_s (by decide), up3_self]
      · rw [up3_self]
      · intro k hk; rw [up3_s (by omega), up3_s (by omega)]
      · rw [up3_self]; rfl
    | false =>
      rw [hg] at kk q3
      rw [if_neg (by simp), if_neg (by simp)]
      rw [if_neg (by decide)] at kk
      have z1 : a.2 = false := by cases h : a.2 <;> simp [h] at hg ⊢
      have z2 : b.2 = false := by cases h : b.2 <;> simp [h] at hg ⊢
      refine kk _ _ _ (q7 _ _ _ ?_ ?_ ?_ ?_) (by first | exact FmO_rf | (repeat' (first | exact FmO_rf | (with_reducible assumption) | (refine FmO_up ?_ (by decide)) | (refine FmO_ug ?_ (by decide) (by decide))))) (FmJ_up FmJ_rf (by decide))
      · rw [up3_self]
      · rw [up3_s (by decide), q3]; rfl
      · intro k hk; rw [up3_s (by omega)]
      · rw [up3_self, q5 z1, q6 z2]; exact cmt_jn (by omega) h5 _ _
  obtain ⟨-, w1, w2, rfl⟩ := wst_j hw (by omega)
  obtain ⟨z1, z2⟩ := z
  obtain ⟨y1, y2, y3⟩ := hz
  dsimp only at y1 y2 y3 hlen
  rw [w1] at y1
  have : z1 = [] := List.eq_nil_of_length_eq_zero y1
  subst this
  obtain ⟨b, a, u, rfl⟩ := len2 y2 w2
  obtain ⟨q1, q2, q3, q4, q5⟩ := RW_tr2 hR
  have hev : evs q ([], b :: a :: u) t = ([], jnd t.1 a b :: u) := by unfold evs; rw [if_neg h1, if_neg h2, if_neg h4, if_neg h5, if_neg h3]
  rw [hev] at kk
  simp only [List.length_cons, List.length_nil] at hlen
  refine hfin _ _ _ false (by omega) q3 q1 q2 q4 (fun o => ?_)
  rw [if_neg (by simp), if_neg (by simp), jnd_jn (by omega) hle (y3 a (by simp))]
  exact kk _ _ _ (q5 _) (by first | exact FmO_rf | (repeat' (first | exact FmO_rf | (with_reducible assumption) | (refine FmO_up ?_ (by decide)) | (refine FmO_ug ?_ (by decide) (by decide))))) (FmJ_up FmJ_rf (by decide))
/-- the tokens of one condition -/
theorem l_walkT {s p : Nat} {cl nl : List Nat} {q : Nat → Nat} {Q : Option AV → AH → Prop} : ∀ (l : List Tk) (i n : Nat) (z : Ev) (y y' : Nat × List Nat) (A : FI) (B : FJ), SW s p A cl nl q → (∀ k, k < l.length → i + k < cl.length ∧ cl.getD (i + k) 0 = (enc n l).getD k 0) → (∀ k, k < (nms l).length → n + k < nl.length ∧ nl.getD (n + k) 0 = (nms l).getD k 0) → wfs y l = some y' → typ z y → RW A B z → z.1.length + z.2.length + l.length ≤ 80 → (∀ A' B' o, RW A' B' (evl q z l) → typ (evl q z l) y' → FmW A A' → FmJ [11] B B' → Rn 2 mtX10_walk 17 (wkL s p (i + l.length) o) [] (hp A' B') Q) → ∀ o, Rn 2 mtX10_walk 17 (wkL s p i o) [] (hp A B) Q := by
  intro l
  induction l with
  | nil =>
    intro i n z y y' A B hS hc hn hw hz hR hl kk o
    cases hw
    exact kk A B o hR hz FmO_rf FmJ_rf
  | cons t l ih =>
    intro i n z y y' A B hS hc hn hw hz hR hl kk o
    simp only [List.length_cons] at hl
    unfold wfs at hw
    cases hw1 : wst y t with
    | none => rw [hw1] at hw; cases hw
    | some y1 =>
      rw [hw1] at hw
      dsimp only at hw
      have h0 := hc 0 (by simp)
      have he0 : (enc n (t :: l)).getD 0 0 = cdt n t := by
        unfold cdt
        rw [enc]
        split <;> rfl
      rw [he0] at h0
      have htl : enc (if t.1 = 8 then n + 1 else n) l = (enc n (t :: l)).tail := by
        rw [enc]
        split <;> rfl
      refine st_walk t i n z y y1 hS (by simpa using h0.1) (by simpa using h0.2) (fun h8 => ?_) hw1 hz hR (by omega) (fun A' B' o' hR' hF hJ => ?_) o
      · have := hn 0 (by rw [nms, if_pos h8]; simp)
        rw [nms, if_pos h8] at this
        simpa using this
      · have hlen := evs_len (q := q) z t
        refine ih (i + 1) (if t.1 = 8 then n + 1 else n) (evs q z t) y1 y' A' B' (SW_fr hS hF) (fun k hk => ?_) (fun k hk => ?_) hw (evs_typ hz hw1) hR' (by omega) (fun A2 B2 o2 a b c d => ?_) o'
        · have := hc (k + 1) (by simpa using hk)
          rw [show i + 1 + k = i + (k + 1) by omega]
          refine ⟨this.1, ?_⟩
          rw [this.2, htl]
          simp [List.getD_eq_getElem?_getD]
        · by_cases h8 : t.1 = 8
          · have := hn (k + 1) (by rw [nms, if_pos h8]; simpa using hk)
            rw [if_pos h8, show n + 1 + k = n + (k + 1) by omega]
            refine ⟨this.1, ?_⟩
            rw [this.2, nms, if_pos h8]
            simp [List.getD_eq_getElem?_getD]
          · have := hn k (by rw [nms, if_neg h8]; exact hk)
            rw [if_neg h8]
            refine ⟨this.1, ?_⟩
            rw [this.2, nms, if_neg h8]
        · rw [show i + 1 + l.length = i + (t :: l).length by simp; omega] 
          exact kk A2 B2 o2 a b (FmO_tr hF c) (FmJ_tr hJ d)
