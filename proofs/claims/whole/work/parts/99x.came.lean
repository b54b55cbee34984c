/-- counts and references after k of the 24 Persons -/
def cCm (c : Nat → Nat) (k : Nat) : Nat → Nat := fun z => if z = 24 then c 24 + k else if z = 25 then c 25 + k else c z
def CCm (c : Nat → Nat) (C : FR) (a : Nat) : Nat → FR
  | 0 => C
  | k + 1 => up3 (up3 (CCm c C a k) 24 (c 24 + k) 0 (some (25, c 25 + k))) 19 a k (some (24, c 24 + k))
theorem cCm_0 {c : Nat → Nat} : cCm c 0 = c := by
  funext z
  unfold cCm
  by_cases h1 : z = 24
  · subst h1; rfl
  · by_cases h2 : z = 25
    · subst h2; rfl
    · rw [if_neg h1, if_neg h2]
theorem cCm_s {c : Nat → Nat} {k : Nat} : ncX6_init (cI (cCm c k) 24) = cCm c (k + 1) := by
  funext z
  show (if z = 25 then cI (cCm c k) 24 25 + 1 else if z = 24 then cCm c k 24 + 1 else cCm c k z) = cCm c (k + 1) z
  by_cases h1 : z = 24
  · subst h1; rfl
  · by_cases h2 : z = 25
    · subst h2; rfl
    · rw [if_neg h2, if_neg h1]
      unfold cCm
      rw [if_neg h1, if_neg h2, if_neg h1, if_neg h2]
theorem CCm_18 {c : Nat → Nat} {C : FR} {a i : Nat} : ∀ k, CCm c C a k 18 i 0 = C 18 i 0
  | 0 => rfl
  | k + 1 => by
    show up3 _ 19 a k _ 18 i 0 = _
    rw [up3_g (by decide), up3_g (by decide)]
    exact CCm_18 k
theorem l_came {kc ks : Nat} {c : Nat → Nat} {A : FI} {B : FJ} {C : FR} {a i : Nat} (hR : C 18 i 0 = some (19, a)) (ha : a < c 19) : ∀ n k u v, k + n = 24 → Cln (cCm c k) A B (CCm c C a k) → u + 2 * n ≤ kc → v + 9 * n ≤ ks → R 2 kc ks u v mtX1_init 47 [some (.inr (.inr (some (18, i)))), some (.inl (nI k))] [] (cCm c k, A, B, CCm c C a k) (fun r h' => r = none ∧ h' = (cCm c 24, A, B, CCm c C a 24) ∧ Cln (cCm c 24) A B (CCm c C a 24)) := by
  intro n
  induction n with
  | zero =>
    intro k u v hk h hu hv
    have e : k = 24 := by omega
    subst e
    refine G_go 9999 rfl rfl trivial ?_
    refine R_br rfl rfl (fun _ => ?_) (fun hbr => absurd hbr (by decide))
    exact s_return rfl rfl (by omega) (by omega) ⟨rfl, rfl, h⟩
  | succ n ih =>
    intro k u v hk h hu hv
    have tk := ti k (by omega)
    refine G_go 9999 rfl rfl trivial ?_
    refine R_br rfl rfl (fun hbr => absurd hbr (by (simp only [i_eq, i_lt, i_le, Int32.reduceToInt, true_and, and_true, false_and, and_false, or_false, false_or, or_true, true_or, ne_eq] at *; first | done | omega))) (fun _ => ?_)
    refine G_go 57 rfl rfl trivial ?_
    show R 2 kc ks u v mtX1_init 57 _ [.inr (.inr (CCm c C a k 18 i 0))] _ _
    rw [CCm_18 k, hR]
    refine G_go 9999 rfl rfl trivial ?_
    refine G_new 24 h rfl rfl (by decide) nkX1_9 (by omega) (by omega) ?_
    refine G_go 9999 rfl rfl trivial ?_
    refine s_init (mt2 := mtX6_init) rfl lkX1_30 caX6_init (i_P (Cln_n 24 h) (Nat.lt_succ_self _)) rfl rfl (by decide) ⟨by omega, by omega⟩ (Nat.le_of_ble_eq_true rfl) ?_
    rintro r1 h1 ⟨rfl, rfl, h⟩
    refine (NOK_c nkX1_9).elim fun T hT => ?_
    refine s_aastore (g2 := 24) rfl rfl (by decide) rfl (by decide) hT rfl (vpN (by omega) rfl) ?_
    refine G_go 47 rfl rfl trivial ?_
    rw [nI_clamp (show k < 2147483648 by omega), cCm_s, nI_1]
    rw [cCm_s] at h
    exact ih (k + 1) (u + 1 + 1) (v + 1 + 8) (by omega) (Cln_r h (show a < cCm c (k + 1) 19 from ha)) (by omega) (by omega)
