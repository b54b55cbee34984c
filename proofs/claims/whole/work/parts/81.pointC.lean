/-- a person written down -/
def poN (v : Nat → Nat) : Nat → Nat → Nat
  | 0, r => r
  | k + 1, r => poN v k (100 * r + v k)
theorem l_pointOf {fr : Nat} (hfr : fr + 16 ≤ 2592) {v : Nat → Nat} {A : FI} {B : FJ} (hv : ∀ f, f < 8 → A 16 0 (fr + 2 * f) = nI (v f) ∧ v f ≤ 20) : ∀ (k r : Nat), k ≤ 8 → ∀ o, Rn 0 mtX8_pointOf 6 [some (.inr (.inr (some (15, 0)))), some (.inl (nI fr)), some (.inr (.inl (lN r))), none, some (.inl (nI k - 1)), o] [] (hp A B) (Ret (some (.inr (.inl (lN (poN v k r))))) (hp A B)) := by
  intro k
  induction k with
  | zero =>
    intro r hk o
    refine R_go 9999 rfl rfl trivial ?_
    refine R_br rfl rfl (fun _ => ?_) (fun h => absurd (by decide) h)
    repeat' (first
        | (refine R_br rfl rfl (fun hbr => absurd hbr (by first | decide | (with_reducible assumption))) (fun _ => ?_))
        | (refine R_br rfl rfl (fun _ => ?_) (fun hbr => absurd (by first | decide | (with_reducible assumption)) hbr))
        | (refine R_br rfl rfl (fun _ => ?_) (fun _ => ?_))
        | (refine R_ri rfl rfl ?_)
        | (refine R_rz rfl rfl (Or.inl rfl) ?_)
        | (refine R_rz rfl rfl (Or.inr rfl) ?_)
        | (refine R_rz rfl rfl (b2_01 _) ?_)
        | (refine R_rl rfl rfl ?_)
        | (refine R_rv rfl rfl ?_)
        | (refine R_sw _ rfl rfl rfl ?_)
        | (refine R_go 9999 rfl rfl trivial ?_)
        | (refine R_go 9999 rfl rfl (by first | (show _ ∨ _; decide) | (show (_ ∨ _) ∧ (_ ∨ _); decide) | (show (_ ∨ _) ∧ (_ ∨ _) ∧ (_ ∨ _); decide)) ?_)
        | (refine R_go 9999 rfl rfl ?_ ?_))
    exact ret_l rfl rfl
  | succ k ih =>
    intro r hk o
    have tk := ti k (by omega)
    obtain ⟨a1, a2⟩ := hv k (by omega)
    have ep : poN v (k + 1) r = poN v k (100 * r + v k) := rfl
    rw [ep]
    have ihk := ih (100 * r + v k) (by omega)
    generalize poN v k (100 * r + v k) = z at ihk ⊢
    have i1 : (2 : Int32) * nI k = nI (2 * k) := pk_mul 2 k
    have tf := ti (fr + 2 * k) (by omega)
    have c1 : (nI (fr + 2 * k)).toNatClampNeg = fr + 2 * k := nI_clamp (by omega)
    have tl : (Int32.ofNat (kd 16).snd).toInt = 2592 := by decide
    have hvk : vp_in (nI (fr + 2 * k)) 2592 := vpN (n := 2592) (by omega) rfl
    rw [nI_pred]
    refine R_go 9999 rfl rfl trivial ?_
    refine R_br rfl rfl (fun h => absurd h (by (simp only [i_eq, i_lt, i_le, Int32.reduceToInt, true_and, and_true, false_and, and_false, or_false, false_or, or_true, true_or, ne_eq] at *; first | done | omega))) (fun _ => ?_)
    refine R_go 9999 rfl rfl trivial ?_
    rw [i1, nI_add]
    refine R_br rfl rfl (fun h => absurd h (by (simp only [i_eq, i_lt, i_le, Int32.reduceToInt, true_and, and_true, false_and, and_false, or_false, false_or, or_true, true_or, ne_eq] at *; first | done | omega))) (fun _ => ?_)
    refine R_go 9999 rfl rfl trivial ?_
    refine R_br rfl rfl (fun h => absurd h (by (simp only [i_eq, i_lt, i_le, Int32.reduceToInt, true_and, and_true, false_and, and_false, or_false, false_or, or_true, true_or, ne_eq] at *; first | done | omega))) (fun _ => ?_)
    refine R_go 6 rfl rfl hvk ?_
    rw [c1, a1, nI_l (by omega), show lN r * 100 = lN (100 * r) by rw [Nat.mul_comm, ← lN_mul]; rfl, lN_add, show nI k + -1 = nI k - 1 from (Int32.sub_eq_add_neg _ _).symm]
    exact ihk _
theorem m_pointOf {fr : Nat} (hfr : fr + 16 ≤ 2592) {v : Nat → Nat} {A : FI} {B : FJ} (hv : ∀ f, f < 8 → A 16 0 (fr + 2 * f) = nI (v f) ∧ v f ≤ 20) : MV 0 1 mtX8_pointOf [.inr (.inr (some (15, 0))), .inl (nI fr)] (hp A B) (Ret (some (.inr (.inl (lN (poN v 8 0))))) (hp A B)) := by
  refine MV_of caX8_pointOf (L := [some (.inr (.inr (some (15, 0)))), some (.inl (nI fr)), none, none, none, none]) rfl rfl ?_
  refine R_go 6 rfl rfl trivial ?_
  exact l_pointOf hfr hv 8 0 (by omega) none
theorem l_boxPerson {sd : Nat} (hsd : sd ≤ 1) {v : Nat → Nat} {A : FI} {B : FJ} (hv : ∀ f, f < 8 → A 55 0 (4 * f + 2 * sd) = nI (v f) ∧ v f ≤ 20) : ∀ (k r : Nat), k ≤ 8 → Rn 0 mtX12_boxPerson 6 [some (.inr (.inr (some (31, 0)))), some (.inl (nI sd)), some (.inr (.inl (lN r))), none, some (.inl (nI k - 1))] [] (hp A B) (Ret (some (.inr (.inl (lN (poN v k r))))) (hp A B)) := by
  intro k
  induction k with
  | zero =>
    intro r hk
    refine R_go 9999 rfl rfl trivial ?_
    refine R_br rfl rfl (fun _ => ?_) (fun h => absurd (by decide) h)
    repeat' (first
        | (refine R_br rfl rfl (fun hbr => absurd hbr (by first | decide | (with_reducible assumption))) (fun _ => ?_))
        | (refine R_br rfl rfl (fun _ => ?_) (fun hbr => absurd (by first | decide | (with_reducible assumption)) hbr))
        | (refine R_br rfl rfl (fun _ => ?_) (fun _ => ?_))
        | (refine R_ri rfl rfl ?_)
        | (refine R_rz rfl rfl (Or.inl rfl) ?_)
        | (refine R_rz rfl rfl (Or.inr rfl) ?_)
        | (refine R_rz rfl rfl (b2_01 _) ?_)
        | (refine R_rl rfl rfl ?_)
        | (refine R_rv rfl rfl ?_)
        | (refine R_sw _ rfl rfl rfl ?_)
        | (refine R_go 9999 rfl rfl trivial ?_)
        | (refine R_go 9999 rfl rfl (by first | (show _ ∨ _; decide) | (show (_ ∨ _) ∧ (_ ∨ _); decide) | (show (_ ∨ _) ∧ (_ ∨ _) ∧ (_ ∨ _); decide)) ?_)
        | (refine R_go 9999 rfl rfl ?_ ?_))
    exact ret_l rfl rfl
  | succ k ih =>
    intro r hk
    have tk := ti k (by omega)
    obtain ⟨a1, a2⟩ := hv k (by omega)
    have ep : poN v (k + 1) r = poN v k (100 * r + v k) := rfl
    rw [ep]
    have ihk := ih (100 * r + v k) (by omega)
    generalize poN v k (100 * r + v k) = z at ihk ⊢
    have i1 : (4 : Int32) * nI k + 2 * nI sd = nI (4 * k + 2 * sd) := by rw [show (4 : Int32) * nI k = nI (4 * k) from pk_mul 4 k, show (2 : Int32) * nI sd = nI (2 * sd) from pk_mul 2 sd, nI_add]
    have c1 : (nI (4 * k + 2 * sd)).toNatClampNeg = 4 * k + 2 * sd := nI_clamp (by omega)
    have hvk : vp_in (nI (4 * k + 2 * sd)) 32 := vpN (n := 32) (by omega) rfl
    rw [nI_pred]
    refine R_go 9999 rfl rfl trivial ?_
    refine R_br rfl rfl (fun h => absurd h (by (simp only [i_eq, i_lt, i_le, Int32.reduceToInt, true_and, and_true, false_and, and_false, or_false, false_or, or_true, true_or, ne_eq] at *; first | done | omega))) (fun _ => ?_)
    refine R_go 6 rfl rfl (by rw [i1]; exact hvk) ?_
    rw [i1, c1, a1, nI_l (by omega), show 100 * lN r = lN (100 * r) by rw [← lN_mul]; rfl, lN_add, show nI k + -1 = nI k - 1 from (Int32.sub_eq_add_neg _ _).symm]
    exact ihk
theorem m_boxPerson {sd : Nat} (hsd : sd ≤ 1) {v : Nat → Nat} {A : FI} {B : FJ} (hv : ∀ f, f < 8 → A 55 0 (4 * f + 2 * sd) = nI (v f) ∧ v f ≤ 20) : MV 0 1 mtX12_boxPerson [.inr (.inr (some (31, 0))), .inl (nI sd)] (hp A B) (Ret (some (.inr (.inl (lN (poN v 8 0))))) (hp A B)) := by
  refine MV_of caX12_boxPerson (L := [some (.inr (.inr (some (31, 0)))), some (.inl (nI sd)), none, none, none]) rfl rfl ?_
  refine R_go 6 rfl rfl trivial ?_
  exact l_boxPerson hsd hv 8 0 (by omega)
