/-- MORE of this field can't be in this box -/
def nmS (bo : Nat → Nat → Int × Int) (mo : Int32) : Prop := ∃ f, f < 8 ∧ mo = nI f ∧ (bo 1 f).2 ≤ (bo 0 f).1
theorem nI_ij {a b : Nat} (ha : a < 2147483648) (hb : b < 2147483648) (h : nI a = nI b) : a = b := by
  have h1 := ti a ha
  have h2 := ti b hb
  rw [h] at h1
  omega
theorem m_hasNoMore {fr : Nat} (hfr : fr + 32 ≤ 2592) {mo : Int32} {bo : Nat → Nat → Int × Int} {A : FI} {B : FJ} (hm : A 15 0 2 = mo) (hmo : mo = -1 ∨ ∃ f, f < 8 ∧ mo = nI f) (h : ∀ s, s ≤ 1 → SBx 16 (fr + 16 * s) A (bo s)) : MV 1 1 mtX8_hasNoMore [.inr (.inr (some (15, 0))), .inl (nI fr)] (hp A B) (Ret (some (.inl (b2 (nmS bo mo)))) (hp A B)) := by
  refine MV_of caX8_hasNoMore (L := [some (.inr (.inr (some (15, 0)))), some (.inl (nI fr)), none]) rfl rfl ?_
  refine R_go 9999 rfl rfl trivial ?_
  try dsimp only [fgt, fpt]
  rw [hm]
  rcases hmo with rfl | ⟨f, hf, rfl⟩
  · have n1 : ¬ nmS bo (-1) := fun ⟨f, hf, e, _⟩ => by
      have h1 := ti f (by omega)
      rw [← e] at h1
      have : (-1 : Int32).toInt = -1 := by decide
      omega
    rw [b2_0 n1]
    refine R_csr rfl (m_isFieldN (-1) (by decide) _ _) rfl rfl rfl (Nat.le_of_ble_eq_true rfl) rfl ?_
    refine R_br rfl rfl (fun _ => ?_) (fun h => absurd rfl h)
    repeat' (first
        | (refine R_br rfl rfl (fun hbr => absurd hbr (by first | decide | (with_reducible assumption))) (fun _ => ?_))
        | (refine R_br rfl rfl (fun _ => ?_) (fun hbr => absurd (by first | decide | (with_reducible assumption)) hbr))
        | (refine R_br rfl rfl (fun _ => ?_) (fun _ => ?_))
        | (refine R_ri rfl rfl ?_)
        | (refine R_rz rfl rfl (Or.inl rfl) ?_)
        | (refine R_rz rfl rfl (Or.inr rfl) ?_)
        | (refine R_rz rfl rfl (b2_01 _) ?_)
        | (refine R_rl rfl rfl ?_)
        | (refine R_rv rfl rfl ?_)
        | (refine R_sw _ rfl rfl rfl ?_)
        | (refine R_go 9999 rfl rfl trivial ?_)
        | (refine R_go 9999 rfl rfl (by first | (show _ ∨ _; decide) | (show (_ ∨ _) ∧ (_ ∨ _); decide) | (show (_ ∨ _) ∧ (_ ∨ _) ∧ (_ ∨ _); decide)) ?_)
        | (refine R_go 9999 rfl rfl ?_ ?_))
    exact ret_i rfl rfl
  · have i1 : nI fr + 2 * nI f = nI (fr + 2 * f) := by rw [show (2 : Int32) * nI f = nI (2 * f) from pk_mul 2 f, nI_add]
    have i2 : nI (fr + 2 * f) + 16 = nI (fr + 2 * f + 16) := nI_add _ 16
    have i3 : nI (fr + 2 * f + 16) + 1 = nI (fr + 2 * f + 16 + 1) := nI_1 _
    have c1 : (nI (fr + 2 * f)).toNatClampNeg = fr + 2 * f := nI_clamp (by omega)
    have c3 : (nI (fr + 2 * f + 16 + 1)).toNatClampNeg = fr + 2 * f + 16 + 1 := nI_clamp (by omega)
    have tf := ti fr (by omega)
    have tl : (Int32.ofNat (kd 16).snd - 32).toInt = 2560 := by decide
    have hv1 : vp_in (nI (fr + 2 * f)) 2592 := vpN (n := 2592) (by omega) rfl
    have hv3 : vp_in (nI (fr + 2 * f + 16 + 1)) 2592 := vpN (n := 2592) (by omega) rfl
    obtain ⟨x1, -⟩ := h 0 (by omega) f hf
    obtain ⟨-, x2⟩ := h 1 (by omega) f hf
    rw [show fr + 16 * 0 + 2 * f = fr + 2 * f by omega] at x1
    rw [show fr + 16 * 1 + 2 * f + 1 = fr + 2 * f + 16 + 1 by omega] at x2
    refine R_csr rfl (m_isFieldT f hf _ _) rfl rfl rfl (Nat.le_of_ble_eq_true rfl) rfl ?_
    refine R_br rfl rfl (fun h => absurd h (by decide)) (fun _ => ?_)
    refine R_go 9999 rfl rfl trivial ?_
    refine R_br rfl rfl (fun h => absurd h (by (simp only [i_eq, i_lt, i_le, Int32.reduceToInt, true_and, and_true, false_and, and_false, or_false, false_or, or_true, true_or, ne_eq] at *; first | done | omega))) (fun _ => ?_)
    refine R_go 9999 rfl rfl trivial ?_
    refine R_br rfl rfl (fun h => absurd h (by (simp only [i_eq, i_lt, i_le, Int32.reduceToInt, true_and, and_true, false_and, and_false, or_false, false_or, or_true, true_or, ne_eq] at *; first | done | omega))) (fun _ => ?_)
    refine R_go 9999 rfl rfl (by rw [i1, i2, i3]; exact ⟨hv1, hv3⟩) ?_
    rw [i1, i2, i3, c1, c3]
    by_cases g : (bo 1 f).2 ≤ (bo 0 f).1
    · rw [b2_1 ⟨f, hf, rfl, g⟩]
      refine R_br rfl rfl (fun h => absurd h (by (simp only [i_eq, i_lt, i_le, Int32.reduceToInt, true_and, and_true, false_and, and_false, or_false, false_or, or_true, true_or, ne_eq] at *; first | done | omega))) (fun _ => ?_)
      repeat' (first
          | (refine R_br rfl rfl (fun hbr => absurd hbr (by first | decide | (with_reducible assumption))) (fun _ => ?_))
          | (refine R_br rfl rfl (fun _ => ?_) (fun hbr => absurd (by first | decide | (with_reducible assumption)) hbr))
          | (refine R_br rfl rfl (fun _ => ?_) (fun _ => ?_))
          | (refine R_ri rfl rfl ?_)
          | (refine R_rz rfl rfl (Or.inl rfl) ?_)
          | (refine R_rz rfl rfl (Or.inr rfl) ?_)
          | (refine R_rz rfl rfl (b2_01 _) ?_)
          | (refine R_rl rfl rfl ?_)
          | (refine R_rv rfl rfl ?_)
          | (refine R_sw _ rfl rfl rfl ?_)
          | (refine R_go 9999 rfl rfl trivial ?_)
          | (refine R_go 9999 rfl rfl (by first | (show _ ∨ _; decide) | (show (_ ∨ _) ∧ (_ ∨ _); decide) | (show (_ ∨ _) ∧ (_ ∨ _) ∧ (_ ∨ _); decide)) ?_)
          | (refine R_go 9999 rfl rfl ?_ ?_))
      exact ret_i rfl rfl
    · rw [b2_0 (fun ⟨f', hf', e, g'⟩ => g (by rw [nI_ij (by omega) (by omega) e]; exact g'))]
      refine R_br rfl rfl (fun _ => ?_) (fun h => absurd (by (simp only [i_eq, i_lt, i_le, Int32.reduceToInt, true_and, and_true, false_and, and_false, or_false, false_or, or_true, true_or, ne_eq] at *; first | done | omega)) h)
      repeat' (first
          | (refine R_br rfl rfl (fun hbr => absurd hbr (by first | decide | (with_reducible assumption))) (fun _ => ?_))
          | (refine R_br rfl rfl (fun _ => ?_) (fun hbr => absurd (by first | decide | (with_reducible assumption)) hbr))
          | (refine R_br rfl rfl (fun _ => ?_) (fun _ => ?_))
          | (refine R_ri rfl rfl ?_)
          | (refine R_rz rfl rfl (Or.inl rfl) ?_)
          | (refine R_rz rfl rfl (Or.inr rfl) ?_)
          | (refine R_rz rfl rfl (b2_01 _) ?_)
          | (refine R_rl rfl rfl ?_)
          | (refine R_rv rfl rfl ?_)
          | (refine R_sw _ rfl rfl rfl ?_)
          | (refine R_go 9999 rfl rfl trivial ?_)
          | (refine R_go 9999 rfl rfl (by first | (show _ ∨ _; decide) | (show (_ ∨ _) ∧ (_ ∨ _); decide) | (show (_ ∨ _) ∧ (_ ∨ _) ∧ (_ ∨ _); decide)) ?_)
          | (refine R_go 9999 rfl rfl ?_ ?_))
      exact ret_i rfl rfl
