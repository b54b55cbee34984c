abbrev muL (n : Nat) (w1 w2 w3 w4 : Int) (lo hi : Option AV) : List (Option AV) := [some (.inr (.inr (some (31, 0)))), some (.inl (nI n)), some (.inr (.inl (jI w1))), none, some (.inr (.inl (jI w2))), none, some (.inr (.inl (jI w3))), none, some (.inr (.inl (jI w4))), none, lo, none, hi, none]
theorem m_mulM {A : FI} {B : FJ} {n : Nat} (hn : n + 2 ≤ 81) (a b : Int × Int) (ha : q9 a) (hb : q9 b) (ea : B 58 0 n = jI a.1) (ea2 : B 59 0 n = jI a.2) (eb : B 58 0 (n + 1) = jI b.1) (eb2 : B 59 0 (n + 1) = jI b.2) : MV 0 1 mtX12_multiply [.inr (.inr (some (31, 0))), .inl (nI n)] (hp A B) (Ret none (hp A (up3 (up3 B 58 0 n (jI (bar 9 a b).1)) 59 0 n (jI (bar 9 a b).2)))) := by
  have tn := ti n (by omega)
  have cl : (nI n).toNatClampNeg = n := nI_clamp (by omega)
  have cl1 : (nI (n + 1)).toNatClampNeg = n + 1 := nI_clamp (by omega)
  have hv : vp_in (nI n) 81 := vpN (n := 81) (by omega) rfl
  have hv1 : vp_in (nI (n + 1)) 81 := vpN (n := 81) (by omega) rfl
  have en : nI n + 1 = nI (n + 1) := nI_1 n
  have p1 := q9_p (a := a.1) (b := b.1) (by unfold q9 at *; omega) (by unfold q9 at *; omega)
  have p2 := q9_p (a := a.1) (b := b.2) (by unfold q9 at *; omega) (by unfold q9 at *; omega)
  have p3 := q9_p (a := a.2) (b := b.1) (by unfold q9 at *; omega) (by unfold q9 at *; omega)
  have p4 := q9_p (a := a.2) (b := b.2) (by unfold q9 at *; omega) (by unfold q9 at *; omega)
  have eB : bar 9 a b = (min (min (a.1 * b.1) (a.1 * b.2)) (min (a.2 * b.1) (a.2 * b.2)), max (max (a.1 * b.1) (a.1 * b.2)) (max (a.2 * b.1) (a.2 * b.2))) := rfl
  rw [eB]
  dsimp only
  have m1 := jI_mul a.1 b.1
  have m2 := jI_mul a.1 b.2
  have m3 := jI_mul a.2 b.1
  have m4 := jI_mul a.2 b.2
  generalize a.1 * b.1 = w1 at *
  generalize a.1 * b.2 = w2 at *
  generalize a.2 * b.1 = w3 at *
  generalize a.2 * b.2 = w4 at *
  have k131 : ∀ lo hi, lo = min (min w1 w2) w3 → hi = max (max w1 w2) w3 → Rn 0 mtX12_multiply 131 (muL n w1 w2 w3 w4 (some (.inr (.inl (jI lo)))) (some (.inr (.inl (jI hi))))) [] (hp A B) (Ret none (hp A (up3 (up3 B 58 0 n (jI (min (min w1 w2) (min w3 w4)))) 59 0 n (jI (max (max w1 w2) (max w3 w4)))))) := by
    intro lo hi hlo hhi
    have bl1 : bnd lo := by unfold bnd at *; omega
    have bh1 : bnd hi := by unfold bnd at *; omega
    have k152 : ∀ v, v = min (min w1 w2) (min w3 w4) → Rn 0 mtX12_multiply 152 (muL n w1 w2 w3 w4 (some (.inr (.inl (jI lo)))) (some (.inr (.inl (jI hi))))) [] (hp A (up3 B 58 0 n (jI v))) (Ret none (hp A (up3 (up3 B 58 0 n (jI (min (min w1 w2) (min w3 w4)))) 59 0 n (jI (max (max w1 w2) (max w3 w4)))))) := by
      intro v hvv
      rw [← hvv]
      refine R_go 9999 rfl rfl trivial ?_
      refine R_br rfl rfl (fun h => ?_) (fun h => ?_)
      · rw [lc_le p4 bh1] at h
        rw [show max (max w1 w2) (max w3 w4) = hi by omega]
        refine R_go 9999 rfl rfl hv ?_
        rw [cl]
        repeat' (first
            | (refine R_br rfl rfl (fun hbr => absurd hbr (by first | decide | (with_reducible assumption))) (fun _ => ?_))
            | (refine R_br rfl rfl (fun _ => ?_) (fun hbr => absurd (by first | decide | (with_reducible assumption)) hbr))
            | (refine R_br rfl rfl (fun _ => ?_) (fun _ => ?_))
            | (refine R_ri rfl rfl ?_)
            | (refine R_rz rfl rfl (Or.inl rfl) ?_)
            | (refine R_rz rfl rfl (Or.inr rfl) ?_)
            | (refine R_rz rfl rfl (b2_01 _) ?_)
            | (refine R_rl rfl rfl ?_)
            | (refine R_rv rfl rfl ?_)
            | (refine R_sw _ rfl rfl rfl ?_)
            | (refine R_go 9999 rfl rfl trivial ?_)
            | (refine R_go 9999 rfl rfl (by first | (show _ ∨ _; decide) | (show (_ ∨ _) ∧ (_ ∨ _); decide) | (show (_ ∨ _) ∧ (_ ∨ _) ∧ (_ ∨ _); decide)) ?_)
            | (refine R_go 9999 rfl rfl ?_ ?_))
        exact ret_v rfl
      · rw [lc_le p4 bh1] at h
        rw [show max (max w1 w2) (max w3 w4) = w4 by omega]
        refine R_go 9999 rfl rfl hv ?_
        rw [cl]
        repeat' (first
            | (refine R_br rfl rfl (fun hbr => absurd hbr (by first | decide | (with_reducible assumption))) (fun _ => ?_))
            | (refine R_br rfl rfl (fun _ => ?_) (fun hbr => absurd (by first | decide | (with_reducible assumption)) hbr))
            | (refine R_br rfl rfl (fun _ => ?_) (fun _ => ?_))
            | (refine R_ri rfl rfl ?_)
            | (refine R_rz rfl rfl (Or.inl rfl) ?_)
            | (refine R_rz rfl rfl (Or.inr rfl) ?_)
            | (refine R_rz rfl rfl (b2_01 _) ?_)
            | (refine R_rl rfl rfl ?_)
            | (refine R_rv rfl rfl ?_)
            | (refine R_sw _ rfl rfl rfl ?_)
            | (refine R_go 9999 rfl rfl trivial ?_)
            | (refine R_go 9999 rfl rfl (by first | (show _ ∨ _; decide) | (show (_ ∨ _) ∧ (_ ∨ _); decide) | (show (_ ∨ _) ∧ (_ ∨ _) ∧ (_ ∨ _); decide)) ?_)
            | (refine R_go 9999 rfl rfl ?_ ?_))
        exact ret_v rfl
    refine R_go 9999 rfl rfl trivial ?_
    refine R_br rfl rfl (fun h => ?_) (fun h => ?_)
    · rw [lc_ge p4 bl1] at h
      refine R_go 152 rfl rfl hv ?_
      rw [cl]
      exact k152 _ (by omega)
    · rw [lc_ge p4 bl1] at h
      refine R_go 152 rfl rfl hv ?_
      rw [cl]
      exact k152 _ (by omega)
  have k114 : ∀ lo hi, lo = min (min w1 w2) w3 → hi = max w1 w2 → Rn 0 mtX12_multiply 114 (muL n w1 w2 w3 w4 (some (.inr (.inl (jI lo)))) (some (.inr (.inl (jI hi))))) [] (hp A B) (Ret none (hp A (up3 (up3 B 58 0 n (jI (min (min w1 w2) (min w3 w4)))) 59 0 n (jI (max (max w1 w2) (max w3 w4)))))) := by
    intro lo hi hlo hhi
    have bh1 : bnd hi := by unfold bnd at *; omega
    refine R_go 9999 rfl rfl trivial ?_
    refine R_br rfl rfl (fun h => ?_) (fun h => ?_)
    · rw [lc_le p3 bh1] at h
      refine R_go 131 rfl rfl trivial ?_
      exact k131 _ _ hlo (by omega)
    · rw [lc_le p3 bh1] at h
      refine R_go 131 rfl rfl trivial ?_
      exact k131 _ _ hlo (by omega)
  have k97 : ∀ lo hi, lo = min w1 w2 → hi = max w1 w2 → Rn 0 mtX12_multiply 97 (muL n w1 w2 w3 w4 (some (.inr (.inl (jI lo)))) (some (.inr (.inl (jI hi))))) [] (hp A B) (Ret none (hp A (up3 (up3 B 58 0 n (jI (min (min w1 w2) (min w3 w4)))) 59 0 n (jI (max (max w1 w2) (max w3 w4)))))) := by
    intro lo hi hlo hhi
    have bl1 : bnd lo := by unfold bnd at *; omega
    refine R_go 9999 rfl rfl trivial ?_
    refine R_br rfl rfl (fun h => ?_) (fun h => ?_)
    · rw [lc_ge p3 bl1] at h
      refine R_go 114 rfl rfl trivial ?_
      exact k114 _ _ (by omega) hhi
    · rw [lc_ge p3 bl1] at h
      refine R_go 114 rfl rfl trivial ?_
      exact k114 _ _ (by omega) hhi
  have k82 : ∀ lo, lo = min w1 w2 → Rn 0 mtX12_multiply 82 (muL n w1 w2 w3 w4 (some (.inr (.inl (jI lo)))) none) [] (hp A B) (Ret none (hp A (up3 (up3 B 58 0 n (jI (min (min w1 w2) (min w3 w4)))) 59 0 n (jI (max (max w1 w2) (max w3 w4)))))) := by
    intro lo hlo
    refine R_go 9999 rfl rfl trivial ?_
    refine R_br rfl rfl (fun h => ?_) (fun h => ?_)
    · rw [lc_ge p1 p2] at h
      refine R_go 97 rfl rfl trivial ?_
      exact k97 _ _ hlo (by omega)
    · rw [lc_ge p1 p2] at h
      refine R_go 97 rfl rfl trivial ?_
      exact k97 _ _ hlo (by omega)
  refine MV_of caX12_multiply (L := [some (.inr (.inr (some (31, 0)))), some (.inl (nI n)), none, none, none, none, none, none, none, none, none, none, none, none]) rfl rfl ?_
  refine R_go 9999 rfl rfl ?_ ?_
  · rw [en]; exact ⟨hv1, hv, hv1, hv, hv1, hv, hv1, hv⟩
  rw [en, cl, cl1, ea, eb, ea2, eb2, m1, m2, m3, m4]
  refine R_br rfl rfl (fun h => ?_) (fun h => ?_)
  · rw [lc_ge p1 p2] at h
    refine R_go 82 rfl rfl trivial ?_
    exact k82 _ (by omega)
  · rw [lc_ge p1 p2] at h
    refine R_go 82 rfl rfl trivial ?_
    exact k82 _ (by omega)
theorem m_spanned (m : Nat) (h1 : 12 ≤ m) (h2 : m < 15) (a b : Int × Int) (ha : q9 a) (hb : q9 b) (A : FI) (B : FJ) : MS 0 5 mtX12_spanned [.inl (nI m), .inr (.inl (jI a.1)), .inr (.inl (jI a.2)), .inr (.inl (jI b.1)), .inr (.inl (jI b.2))] (hp A B) (Ret (some (.inl (nI (spn m a b)))) (hp A B)) := by
  obtain ⟨ba1, ba2⟩ := q9_b ha
  obtain ⟨bb1, bb2⟩ := q9_b hb
  refine MS_of caX12_spanned (L := [some (.inl (nI m)), some (.inr (.inl (jI a.1))), none, some (.inr (.inl (jI a.2))), none, some (.inr (.inl (jI b.1))), none, some (.inr (.inl (jI b.2))), none]) rfl rfl ?_
  rcases (show m = 12 ∨ m = 13 ∨ m = 14 by omega) with rfl | rfl | rfl
  all_goals
    repeat' (first
        | (refine R_br rfl rfl (fun hbr => absurd hbr (by first | decide | (with_reducible assumption))) (fun _ => ?_))
        | (refine R_br rfl rfl (fun _ => ?_) (fun hbr => absurd (by first | decide | (with_reducible assumption)) hbr))
        | (refine R_br rfl rfl (fun _ => ?_) (fun _ => ?_))
        | (refine R_ri rfl rfl ?_)
        | (refine R_rz rfl rfl (Or.inl rfl) ?_)
        | (refine R_rz rfl rfl (Or.inr rfl) ?_)
        | (refine R_rz rfl rfl (b2_01 _) ?_)
        | (refine R_rl rfl rfl ?_)
        | (refine R_rv rfl rfl ?_)
        | (refine R_sw _ rfl rfl rfl ?_)
        | (refine R_go 9999 rfl rfl trivial ?_)
        | (refine R_go 9999 rfl rfl (by first | (show _ ∨ _; decide) | (show (_ ∨ _) ∧ (_ ∨ _); decide) | (show (_ ∨ _) ∧ (_ ∨ _) ∧ (_ ∨ _); decide)) ?_)
        | (refine R_go 9999 rfl rfl ?_ ?_))
  all_goals
    simp only [lc_ge ba2 bb1, lc_lt ba1 bb2, lc_lt ba2 bb1, lc_le ba1 bb2, lc_gt ba2 bb1, lc_ge bb2 ba1, lc_0 ba1 ba2, lc_0 bb1 bb2] at *
    refine ret_i ?_ rfl
    first
      | (rw [show spn _ a b = 1 by unfold spn; simp only [Nat.reduceEqDiff, if_true, if_false, reduceIte]; (repeat' split) <;> omega]; rfl)
      | (rw [show spn _ a b = 0 by unfold spn; simp only [Nat.reduceEqDiff, if_true, if_false, reduceIte]; (repeat' split) <;> omega]; rfl)
      | (rw [show spn _ a b = 2 by unfold spn; simp only [Nat.reduceEqDiff, if_true, if_false, reduceIte]; (repeat' split) <;> omega]; rfl)
theorem m_both (m a b : Nat) (h1 : 16 ≤ m) (h2 : m ≤ 17) (ha : a ≤ 2) (hb : b ≤ 2) (A : FI) (B : FJ) : MS 0 3 mtX12_both [.inl (nI m), .inl (nI a), .inl (nI b)] (hp A B) (Ret (some (.inl (nI (bth m a b)))) (hp A B)) := by
  refine MS_of caX12_both (L := [some (.inl (nI m)), some (.inl (nI a)), some (.inl (nI b)), none]) rfl rfl ?_
  rcases (show m = 16 ∨ m = 17 by omega) with rfl | rfl <;> rcases (show a = 0 ∨ a = 1 ∨ a = 2 by omega) with rfl | rfl | rfl <;> rcases (show b = 0 ∨ b = 1 ∨ b = 2 by omega) with rfl | rfl | rfl
  all_goals
    repeat' (first
        | (refine R_br rfl rfl (fun hbr => absurd hbr (by first | decide | (with_reducible assumption))) (fun _ => ?_))
        | (refine R_br rfl rfl (fun _ => ?_) (fun hbr => absurd (by first | decide | (with_reducible assumption)) hbr))
        | (refine R_br rfl rfl (fun _ => ?_) (fun _ => ?_))
        | (refine R_ri rfl rfl ?_)
        | (refine R_rz rfl rfl (Or.inl rfl) ?_)
        | (refine R_rz rfl rfl (Or.inr rfl) ?_)
        | (refine R_rz rfl rfl (b2_01 _) ?_)
        | (refine R_rl rfl rfl ?_)
        | (refine R_rv rfl rfl ?_)
        | (refine R_sw _ rfl rfl rfl ?_)
        | (refine R_go 9999 rfl rfl trivial ?_)
        | (refine R_go 9999 rfl rfl (by first | (show _ ∨ _; decide) | (show (_ ∨ _) ∧ (_ ∨ _); decide) | (show (_ ∨ _) ∧ (_ ∨ _) ∧ (_ ∨ _); decide)) ?_)
        | (refine R_go 9999 rfl rfl ?_ ?_))
    exact ret_i rfl rfl
