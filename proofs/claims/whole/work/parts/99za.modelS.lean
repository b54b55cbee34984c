def AMm (A : FI) (a b : Nat) : Nat → FI
  | 0 => A
  | k + 1 => up3 (up3 (AMm A a b k) 34 a k 9) 35 b k 1
theorem l_model {kc ks u v : Nat} {c : Nat → Nat} {A : FI} {B : FJ} {C : FR} {a b i : Nat} (hR0 : C 31 i 2 = some (34, a)) (hR1 : C 31 i 3 = some (35, b)) (ha : a < c 34) (hb : b < c 35) : ∀ n k, k + n = 8 → Cln c (AMm A a b k) B C → u ≤ kc → v ≤ ks → R 1 kc ks u v mtX12_init 274 [some (.inr (.inr (some (31, i)))), some (.inl (nI k))] [] (c, AMm A a b k, B, C) (fun r h' => r = none ∧ h' = (c, AMm A a b 8, B, C) ∧ Cln c (AMm A a b 8) B C) := by
  intro n
  induction n with
  | zero =>
    intro k hk h hu hv
    have e : k = 8 := by omega
    subst e
    refine G_go 9999 rfl rfl trivial ?_
    refine R_br rfl rfl (fun _ => ?_) (fun hbr => absurd hbr (by decide))
    exact s_return rfl rfl hu hv ⟨rfl, rfl, h⟩
  | succ n ih =>
    intro k hk h hu hv
    have tk := ti k (by omega)
    refine G_go 9999 rfl rfl trivial ?_
    refine R_br rfl rfl (fun hbr => absurd hbr (by (simp only [i_eq, i_lt, i_le, Int32.reduceToInt, true_and, and_true, false_and, and_false, or_false, false_or, or_true, true_or, ne_eq] at *; first | done | omega))) (fun _ => ?_)
    refine G_go 284 rfl rfl trivial ?_
    show R 1 kc ks u v mtX12_init 284 _ [.inr (.inr (C 31 i 2))] _ _
    rw [hR0]
    refine G_go 287 rfl rfl trivial ?_
    refine s_iastore (n := 8) rfl rfl (vpN (by omega) rfl) ?_
    refine G_go 292 rfl rfl trivial ?_
    show R 1 kc ks u v mtX12_init 292 _ [.inr (.inr (C 31 i 3))] _ _
    rw [hR1]
    refine G_go 294 rfl rfl trivial ?_
    refine s_iastore (n := 8) rfl rfl (vpN (by omega) rfl) ?_
    refine G_go 274 rfl rfl trivial ?_
    rw [nI_clamp (show k < 2147483648 by omega), nI_1]
    exact ih (k + 1) (by omega) (Cln_i (Cln_i h ha) hb) hu hv
