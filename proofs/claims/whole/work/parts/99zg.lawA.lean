section LT
variable {p : Program} {l : Launch} {e : Env} {s : State} {m : MethodId} {below : List Frame} {meth : Method} {c : Code} {b N : Nat} {xs : Nat → Int32} {Z : State → Prop} {pc k : Nat} {S : List (Option AV)} {h : AH}
def argD (pc j : Nat) : Prop := decode code pc = .ok (.aload_n 0, 1) ∧ decode code (pc + 1) = .ok (.iload_n 3, 1) ∧ decode code (pc + 2) = .ok (.iconst (j : Int), 1) ∧ decode code (pc + 3) = .ok (.iadd, 1) ∧ decode code (pc + 4) = .ok (.iaload, 1)
theorem nI_c {j : Nat} (hj : j ≤ 5) : Int32.ofInt (j : Int) = nI j := by
  match j, hj with
  | 0, _ => decide
  | 1, _ => decide
  | 2, _ => decide
  | 3, _ => decide
  | 4, _ => decide
  | 5, _ => decide
  | z + 6, h => exact absurd h (by omega)
/-- script[i + j] -/
theorem tw_arg (j : Nat) (F : LwA p s m c b N xs) (hk : k + 7 ≤ N) (hN : N ≤ 3584) (hj : j ≤ 5) (hd : argD pc j) (K : T p l e s m below meth c b Z (pc + 5) (nI k) (some (.inl (xs (k + j))) :: S) h) : T p l e s m below meth c b Z pc (nI k) S h := by
  obtain ⟨d0, d1, d2, d3, d4⟩ := hd
  refine tw_aload0 F d0 (tw_iload3 F d1 (tw_iconst (nI j) F d2 (nI_c hj) (tw_iadd F d3 ?_)))
  rw [nI_add]
  refine tw_iaload F (vp_in_nI (by omega) (by omega)) d4 ?_
  rw [nI_clamp (by omega)]
  exact K
def arg6D (pc : Nat) : Prop := decode code pc = .ok (.aload_n 0, 1) ∧ decode code (pc + 1) = .ok (.iload_n 3, 1) ∧ decode code (pc + 2) = .ok (.bipush 6, 2) ∧ decode code (pc + 4) = .ok (.iadd, 1) ∧ decode code (pc + 5) = .ok (.iaload, 1)
theorem tw_arg6 (F : LwA p s m c b N xs) (hk : k + 7 ≤ N) (hN : N ≤ 3584) (hd : arg6D pc) (K : T p l e s m below meth c b Z (pc + 6) (nI k) (some (.inl (xs (k + 6))) :: S) h) : T p l e s m below meth c b Z pc (nI k) S h := by
  obtain ⟨d0, d1, d2, d3, d4⟩ := hd
  refine tw_aload0 F d0 (tw_iload3 F d1 (tw_bipush (nI 6) F d2 (by decide) (tw_iadd F d3 ?_)))
  rw [nI_add]
  refine tw_iaload F (vp_in_nI (by omega) (by omega)) d4 ?_
  rw [nI_clamp (by omega)]
  exact K
/-- two ints as one long -/
def lnW (x y : Int32) : Int64 := (x.toInt64 <<< ((32 : Int32).toInt64 &&& 63)) ||| (y.toInt64 &&& 4294967295)
def wideD (pc : Nat) : Prop := decode code (pc + 5) = .ok (.i2l, 1) ∧ decode code (pc + 6) = .ok (.bipush 32, 2) ∧ decode code (pc + 8) = .ok (.lshl, 1) ∧ decode code (pc + 14) = .ok (.i2l, 1) ∧ decode code (pc + 15) = .ok (.ldc2_w 27, 3) ∧ decode code (pc + 18) = .ok (.land, 1) ∧ decode code (pc + 19) = .ok (.lor, 1)
theorem tw_wide (j : Nat) (F : LwA p s m c b N xs) (hk : k + 7 ≤ N) (hN : N ≤ 3584) (hj : j ≤ 4) (ha : argD pc j) (hb : argD (pc + 9) (j + 1)) (hd : wideD pc) (K : T p l e s m below meth c b Z (pc + 20) (nI k) (some (.inr (.inl (lnW (xs (k + j)) (xs (k + (j + 1)))))) :: S) h) : T p l e s m below meth c b Z pc (nI k) S h := by
  obtain ⟨d0, d1, d2, d3, d4, d5, d6⟩ := hd
  refine tw_arg j F hk hN (by omega) ha (tw_i2l F d0 (tw_bipush 32 F d1 (by decide) (tw_lshl F d2 ?_)))
  refine tw_arg (j + 1) F hk hN (by omega) hb (tw_i2l F d3 (tw_ldc2 F d4 (wt7 161 (by decide +kernel) (by decide +kernel)) (tw_land F d5 (tw_lor F d6 K))))
end LT
