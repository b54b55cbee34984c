def AFm (A : FI) (b : Nat) : Nat → FI
  | 0 => A
  | k + 1 => up3 (up3 (AFm A b k) 2 b (k * 4 + 2) 9) 2 b (k * 4 + 3) 1
theorem nI_42 : ∀ k, k < 8 → nI k * 4 + 2 = nI (k * 4 + 2) := by decide
theorem nI_43 : ∀ k, k < 8 → nI k * 4 + 3 = nI (k * 4 + 3) := by decide
theorem l_form1 {kc ks u v : Nat} {c : Nat → Nat} {A : FI} {B : FJ} {C : FR} {b i : Nat} {Q : Option AV → AH → Prop} (hR : C 1 i 0 = some (2, b)) (hb : b < c 2) : ∀ n k, k + n = 8 → Cln c (AFm A b k) B C → (Cln c (AFm A b 8) B C → R 2 kc ks u v mtX3_init 58 [some (.inr (.inr (some (1, i)))), some (.inl (nI 8))] [] (c, AFm A b 8, B, C) Q) → R 2 kc ks u v mtX3_init 23 [some (.inr (.inr (some (1, i)))), some (.inl (nI k))] [] (c, AFm A b k, B, C) Q := by
  intro n
  induction n with
  | zero =>
    intro k hk h K
    have e : k = 8 := by omega
    subst e
    refine G_go 9999 rfl rfl trivial ?_
    refine R_br rfl rfl (fun _ => ?_) (fun hbr => absurd hbr (by decide))
    exact K h
  | succ n ih =>
    intro k hk h K
    have tk := ti k (by omega)
    have e2 := nI_42 k (by omega)
    have e3 := nI_43 k (by omega)
    refine G_go 9999 rfl rfl trivial ?_
    refine R_br rfl rfl (fun hbr => absurd hbr (by (simp only [i_eq, i_lt, i_le, Int32.reduceToInt, true_and, and_true, false_and, and_false, or_false, false_or, or_true, true_or, ne_eq] at *; first | done | omega))) (fun _ => ?_)
    refine G_go 33 rfl rfl trivial ?_
    show R 2 kc ks u v mtX3_init 33 _ [.inr (.inr (C 1 i 0))] _ _
    rw [hR]
    refine G_go 40 rfl rfl trivial ?_
    rw [e2]
    refine s_iastore (n := 32) rfl rfl (vpN (by omega) rfl) ?_
    refine G_go 45 rfl rfl trivial ?_
    show R 2 kc ks u v mtX3_init 45 _ [.inr (.inr (C 1 i 0))] _ _
    rw [hR]
    refine G_go 51 rfl rfl trivial ?_
    rw [e3]
    refine s_iastore (n := 32) rfl rfl (vpN (by omega) rfl) ?_
    refine G_go 23 rfl rfl trivial ?_
    rw [nI_clamp (show k * 4 + 2 < 2147483648 by omega), nI_clamp (show k * 4 + 3 < 2147483648 by omega), nI_1]
    exact ih (k + 1) (by omega) (Cln_i (Cln_i h hb) hb) K
/-- counts and references after k of the 6 laws -/
def cFm (c : Nat → Nat) (k : Nat) : Nat → Nat := fun z => if z = 4 then c 4 + k else if z = 5 then c 5 + k else if z = 6 then c 6 + k else if z = 7 then c 7 + k else c z
def CFm (c : Nat → Nat) (C : FR) (a : Nat) : Nat → FR
  | 0 => C
  | k + 1 => up3 (up3 (up3 (up3 (CFm c C a k) 4 (c 4 + k) 0 (some (5, c 5 + k))) 4 (c 4 + k) 1 (some (6, c 6 + k))) 4 (c 4 + k) 2 (some (7, c 7 + k))) 3 a k (some (4, c 4 + k))
theorem cFm_0 {c : Nat → Nat} : cFm c 0 = c := by
  funext z
  unfold cFm
  by_cases h1 : z = 4
  · subst h1; rfl
  by_cases h2 : z = 5
  · subst h2; rfl
  by_cases h3 : z = 6
  · subst h3; rfl
  by_cases h4 : z = 7
  · subst h4; rfl
  rw [if_neg h1, if_neg h2, if_neg h3, if_neg h4]
theorem cFm_s {c : Nat → Nat} {k : Nat} : ncX7_init (cI (cFm c k) 4) = cFm c (k + 1) := by
  funext z
  show (if z = 7 then c 7 + k + 1 else if z = 6 then c 6 + k + 1 else if z = 5 then c 5 + k + 1 else if z = 4 then c 4 + k + 1 else cFm c k z) = cFm c (k + 1) z
  by_cases h1 : z = 4
  · subst h1; rfl
  by_cases h2 : z = 5
  · subst h2; rfl
  by_cases h3 : z = 6
  · subst h3; rfl
  by_cases h4 : z = 7
  · subst h4; rfl
  rw [if_neg h4, if_neg h3, if_neg h2, if_neg h1]
  unfold cFm
  rw [if_neg h1, if_neg h2, if_neg h3, if_neg h4, if_neg h1, if_neg h2, if_neg h3, if_neg h4]
theorem CFm_1 {c : Nat → Nat} {C : FR} {a i : Nat} : ∀ k, CFm c C a k 1 i 1 = C 1 i 1
  | 0 => rfl
  | k + 1 => by
    show up3 _ 3 a k _ 1 i 1 = _
    rw [up3_g (by decide), up3_g (by decide), up3_g (by decide), up3_g (by decide)]
    exact CFm_1 k
theorem l_form2 {kc ks : Nat} {c : Nat → Nat} {A : FI} {B : FJ} {C : FR} {a i : Nat} (hR : C 1 i 1 = some (3, a)) (ha : a < c 3) : ∀ n k u v, k + n = 6 → Cln (cFm c k) A B (CFm c C a k) → u + 4 * n ≤ kc → v + 248 * n ≤ ks → R 2 kc ks u v mtX3_init 60 [some (.inr (.inr (some (1, i)))), some (.inl (nI k))] [] (cFm c k, A, B, CFm c C a k) (fun r h' => r = none ∧ h' = (cFm c 6, A, B, CFm c C a 6) ∧ Cln (cFm c 6) A B (CFm c C a 6)) := by
  intro n
  induction n with
  | zero =>
    intro k u v hk h hu hv
    have e : k = 6 := by omega
    subst e
    refine G_go 9999 rfl rfl trivial ?_
    refine R_br rfl rfl (fun _ => ?_) (fun hbr => absurd hbr (by decide))
    exact s_return rfl rfl (by omega) (by omega) ⟨rfl, rfl, h⟩
  | succ n ih =>
    intro k u v hk h hu hv
    have tk := ti k (by omega)
    refine G_go 9999 rfl rfl trivial ?_
    refine R_br rfl rfl (fun hbr => absurd hbr (by (simp only [i_eq, i_lt, i_le, Int32.reduceToInt, true_and, and_true, false_and, and_false, or_false, false_or, or_true, true_or, ne_eq] at *; first | done | omega))) (fun _ => ?_)
    refine G_go 70 rfl rfl trivial ?_
    show R 2 kc ks u v mtX3_init 70 _ [.inr (.inr (CFm c C a k 1 i 1))] _ _
    rw [CFm_1 k, hR]
    refine G_go 9999 rfl rfl trivial ?_
    refine G_new 4 h rfl rfl (by decide) nkX3_15 (by omega) (by omega) ?_
    refine G_go 9999 rfl rfl trivial ?_
    have hbu : u + 1 + 3 ≤ kc ∧ v + 8 + 240 ≤ ks := by omega
    refine s_init (kc2 := 3) (ks2 := 240) (mt2 := mtX7_init) rfl lkX3_21 caX7_init (i_S (Cln_n 4 h) (Nat.lt_succ_self _)) rfl rfl (by decide) hbu (Nat.le_of_ble_eq_true rfl) ?_
    rintro r1 h1 ⟨rfl, rfl, h⟩
    refine (NOK_c nkX3_15).elim fun T hT => ?_
    refine s_aastore (g2 := 4) rfl rfl (by decide) rfl (by decide) hT rfl (vpN (by omega) rfl) ?_
    refine G_go 60 rfl rfl trivial ?_
    rw [nI_clamp (show k < 2147483648 by omega), cFm_s, nI_1]
    rw [cFm_s] at h
    exact ih (k + 1) (u + 1 + 3) (v + 8 + 240) (by omega) (Cln_r h (show a < cFm c (k + 1) 3 from ha)) (by omega) (by omega)
