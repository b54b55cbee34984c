section LT
variable {p : Program} {l : Launch} {e : Env} {s : State} {m : MethodId} {below : List Frame} {meth : Method} {c : Code} {b N : Nat} {xs : Nat → Int32} {Z : State → Prop} {k : Nat} {A : FI} {B : FJ} {S : SS}
theorem lg_same (a : Int64) : lg_cmp a a = 0 := (lg_cmp_eq a a).mpr rfl
abbrev CsK (p : Program) (l : Launch) (e : Env) (s : State) (m : MethodId) (below : List Frame) (meth : Method) (c : Code) (b : Nat) (Z : State → Prop) (k : Nat) : Prop := ∀ A B S, ivS S → RCs A B S → RMs A B S → T p l e s m below meth c b Z 1124 (nI k) [] (hp A B)
theorem cs_0 (F : LwA p s m c b N xs) (hk : k + 7 ≤ N) (hN : N ≤ 3584) (hI : ivS S) (hA : RCs A B S) (hM : RMs A B S) (K : CsK p l e s m below meth c b Z k) : T p l e s m below meth c b Z 152 (nI k) [] (hp A B) := by
  obtain ⟨a, S', iv, h1, h2⟩ := sq_field hI (xs (k + 1)) (xs (k + 2)) (xs (k + 3))
  obtain ⟨d1, Q1, hd1, hM1, e1⟩ := h1 A B hA hM
  refine tw_aload1 F (by decide +kernel) ?_
  refine tw_arg 1 F hk hN (by decide) ⟨by decide +kernel, by decide +kernel, by decide +kernel, by decide +kernel, by decide +kernel⟩ ?_
  refine tw_arg 2 F hk hN (by decide) ⟨by decide +kernel, by decide +kernel, by decide +kernel, by decide +kernel, by decide +kernel⟩ ?_
  refine tw_arg 3 F hk hN (by decide) ⟨by decide +kernel, by decide +kernel, by decide +kernel, by decide +kernel, by decide +kernel⟩ ?_
  refine tw_call F (by decide +kernel) lkX15_13 hM1 rfl rfl rfl (by decide) rfl hd1 (by decide) (fun r h' hq => ?_)
  obtain ⟨A1, B1, rfl, rfl, c1, m1⟩ := e1 r h' hq
  obtain ⟨d2, Q2, hd2, hM2, e2⟩ := h2 A1 B1 c1 m1
  refine tw_aload2 F (by decide +kernel) ?_
  refine tw_arg 1 F hk hN (by decide) ⟨by decide +kernel, by decide +kernel, by decide +kernel, by decide +kernel, by decide +kernel⟩ ?_
  refine tw_arg 2 F hk hN (by decide) ⟨by decide +kernel, by decide +kernel, by decide +kernel, by decide +kernel, by decide +kernel⟩ ?_
  refine tw_arg 3 F hk hN (by decide) ⟨by decide +kernel, by decide +kernel, by decide +kernel, by decide +kernel, by decide +kernel⟩ ?_
  refine tw_call F (by decide +kernel) lkX15_17 hM2 rfl rfl rfl (by decide) rfl hd2 (Nat.le_of_ble_eq_true rfl) (fun r h' hq => ?_)
  obtain ⟨A2, B2, rfl, rfl, c2, m2⟩ := e2 r h' hq
  show T p l e s m below meth c b Z 190 (nI k) [some (.inl a), some (.inl a)] (hp A2 B2)
  exact tw_icmp (off := 934) 1124 F (by decide +kernel) (by decide) (K A2 B2 S' iv c2 m2)
theorem cs_1 (F : LwA p s m c b N xs) (hk : k + 7 ≤ N) (hN : N ≤ 3584) (hI : ivS S) (hA : RCs A B S) (hM : RMs A B S) (K : CsK p l e s m below meth c b Z k) : T p l e s m below meth c b Z 195 (nI k) [] (hp A B) := by
  obtain ⟨a, S', iv, h1, h2⟩ := sq_as hI (xs (k + 1)) (xs (k + 2))
  obtain ⟨d1, Q1, hd1, hM1, e1⟩ := h1 A B hA hM
  refine tw_aload1 F (by decide +kernel) ?_
  refine tw_arg 1 F hk hN (by decide) ⟨by decide +kernel, by decide +kernel, by decide +kernel, by decide +kernel, by decide +kernel⟩ ?_
  refine tw_arg 2 F hk hN (by decide) ⟨by decide +kernel, by decide +kernel, by decide +kernel, by decide +kernel, by decide +kernel⟩ ?_
  refine tw_call F (by decide +kernel) lkX15_18 hM1 rfl rfl rfl (by decide) rfl hd1 (by decide) (fun r h' hq => ?_)
  obtain ⟨A1, B1, rfl, rfl, c1, m1⟩ := e1 r h' hq
  obtain ⟨d2, Q2, hd2, hM2, e2⟩ := h2 A1 B1 c1 m1
  refine tw_aload2 F (by decide +kernel) ?_
  refine tw_arg 1 F hk hN (by decide) ⟨by decide +kernel, by decide +kernel, by decide +kernel, by decide +kernel, by decide +kernel⟩ ?_
  refine tw_arg 2 F hk hN (by decide) ⟨by decide +kernel, by decide +kernel, by decide +kernel, by decide +kernel, by decide +kernel⟩ ?_
  refine tw_call F (by decide +kernel) lkX15_22 hM2 rfl rfl rfl (by decide) rfl hd2 (Nat.le_of_ble_eq_true rfl) (fun r h' hq => ?_)
  obtain ⟨A2, B2, rfl, rfl, c2, m2⟩ := e2 r h' hq
  show T p l e s m below meth c b Z 223 (nI k) [some (.inl a), some (.inl a)] (hp A2 B2)
  exact tw_icmp (off := 901) 1124 F (by decide +kernel) (by decide) (K A2 B2 S' iv c2 m2)
theorem cs_2 (F : LwA p s m c b N xs) (hk : k + 7 ≤ N) (hN : N ≤ 3584) (hI : ivS S) (hA : RCs A B S) (hM : RMs A B S) (K : CsK p l e s m below meth c b Z k) : T p l e s m below meth c b Z 228 (nI k) [] (hp A B) := by
  obtain ⟨a, S', iv, h1, h2⟩ := sq_asks hI (xs (k + 1)) (xs (k + 2))
  obtain ⟨d1, Q1, hd1, hM1, e1⟩ := h1 A B hA hM
  refine tw_aload1 F (by decide +kernel) ?_
  refine tw_arg 1 F hk hN (by decide) ⟨by decide +kernel, by decide +kernel, by decide +kernel, by decide +kernel, by decide +kernel⟩ ?_
  refine tw_arg 2 F hk hN (by decide) ⟨by decide +kernel, by decide +kernel, by decide +kernel, by decide +kernel, by decide +kernel⟩ ?_
  refine tw_call F (by decide +kernel) lkX15_23 hM1 rfl rfl rfl (by decide) rfl hd1 (by decide) (fun r h' hq => ?_)
  obtain ⟨A1, B1, rfl, rfl, c1, m1⟩ := e1 r h' hq
  obtain ⟨d2, Q2, hd2, hM2, e2⟩ := h2 A1 B1 c1 m1
  refine tw_aload2 F (by decide +kernel) ?_
  refine tw_arg 1 F hk hN (by decide) ⟨by decide +kernel, by decide +kernel, by decide +kernel, by decide +kernel, by decide +kernel⟩ ?_
  refine tw_arg 2 F hk hN (by decide) ⟨by decide +kernel, by decide +kernel, by decide +kernel, by decide +kernel, by decide +kernel⟩ ?_
  refine tw_call F (by decide +kernel) lkX15_26 hM2 rfl rfl rfl (by decide) rfl hd2 (Nat.le_of_ble_eq_true rfl) (fun r h' hq => ?_)
  obtain ⟨A2, B2, rfl, rfl, c2, m2⟩ := e2 r h' hq
  show T p l e s m below meth c b Z 256 (nI k) [some (.inl a), some (.inl a)] (hp A2 B2)
  exact tw_icmp (off := 868) 1124 F (by decide +kernel) (by decide) (K A2 B2 S' iv c2 m2)
theorem cs_3 (F : LwA p s m c b N xs) (hk : k + 7 ≤ N) (hN : N ≤ 3584) (hI : ivS S) (hA : RCs A B S) (hM : RMs A B S) (K : CsK p l e s m below meth c b Z k) : T p l e s m below meth c b Z 261 (nI k) [] (hp A B) := by
  obtain ⟨a, S', iv, h1, h2⟩ := sq_letters hI (lnW (xs (k + 1)) (xs (k + 2)))
  obtain ⟨d1, Q1, hd1, hM1, e1⟩ := h1 A B hA hM
  refine tw_aload1 F (by decide +kernel) ?_
  refine tw_wide 1 F hk hN (by decide) ⟨by decide +kernel, by decide +kernel, by decide +kernel, by decide +kernel, by decide +kernel⟩ ⟨by decide +kernel, by decide +kernel, by decide +kernel, by decide +kernel, by decide +kernel⟩ ⟨by decide +kernel, by decide +kernel, by decide +kernel, by decide +kernel, by decide +kernel, by decide +kernel, by decide +kernel⟩ ?_
  refine tw_call F (by decide +kernel) lkX15_29 hM1 rfl rfl rfl (by decide) rfl hd1 (by decide) (fun r h' hq => ?_)
  obtain ⟨A1, B1, rfl, rfl, c1, m1⟩ := e1 r h' hq
  obtain ⟨d2, Q2, hd2, hM2, e2⟩ := h2 A1 B1 c1 m1
  refine tw_aload2 F (by decide +kernel) ?_
  refine tw_wide 1 F hk hN (by decide) ⟨by decide +kernel, by decide +kernel, by decide +kernel, by decide +kernel, by decide +kernel⟩ ⟨by decide +kernel, by decide +kernel, by decide +kernel, by decide +kernel, by decide +kernel⟩ ⟨by decide +kernel, by decide +kernel, by decide +kernel, by decide +kernel, by decide +kernel, by decide +kernel, by decide +kernel⟩ ?_
  refine tw_call F (by decide +kernel) lkX15_33 hM2 rfl rfl rfl (by decide) rfl hd2 (Nat.le_of_ble_eq_true rfl) (fun r h' hq => ?_)
  obtain ⟨A2, B2, rfl, rfl, c2, m2⟩ := e2 r h' hq
  show T p l e s m below meth c b Z 309 (nI k) [some (.inl a), some (.inl a)] (hp A2 B2)
  exact tw_icmp (off := 815) 1124 F (by decide +kernel) (by decide) (K A2 B2 S' iv c2 m2)
theorem cs_4 (F : LwA p s m c b N xs) (hk : k + 7 ≤ N) (hN : N ≤ 3584) (hI : ivS S) (hA : RCs A B S) (hM : RMs A B S) (K : CsK p l e s m below meth c b Z k) : T p l e s m below meth c b Z 314 (nI k) [] (hp A B) := by
  obtain ⟨a, S', iv, h1, h2⟩ := sq_blank hI 
  obtain ⟨d1, Q1, hd1, hM1, e1⟩ := h1 A B hA hM
  refine tw_aload1 F (by decide +kernel) ?_
  refine tw_call F (by decide +kernel) lkX15_34 hM1 rfl rfl rfl (by decide) rfl hd1 (by decide) (fun r h' hq => ?_)
  obtain ⟨A1, B1, rfl, rfl, c1, m1⟩ := e1 r h' hq
  obtain ⟨d2, Q2, hd2, hM2, e2⟩ := h2 A1 B1 c1 m1
  refine tw_aload2 F (by decide +kernel) ?_
  refine tw_call F (by decide +kernel) lkX15_38 hM2 rfl rfl rfl (by decide) rfl hd2 (Nat.le_of_ble_eq_true rfl) (fun r h' hq => ?_)
  obtain ⟨A2, B2, rfl, rfl, c2, m2⟩ := e2 r h' hq
  show T p l e s m below meth c b Z 322 (nI k) [some (.inl a), some (.inl a)] (hp A2 B2)
  exact tw_icmp (off := 802) 1124 F (by decide +kernel) (by decide) (K A2 B2 S' iv c2 m2)
theorem cs_5 (F : LwA p s m c b N xs) (hk : k + 7 ≤ N) (hN : N ≤ 3584) (hI : ivS S) (hA : RCs A B S) (hM : RMs A B S) (K : CsK p l e s m below meth c b Z k) : T p l e s m below meth c b Z 327 (nI k) [] (hp A B) := by
  obtain ⟨a, S', iv, h1, h2⟩ := sq_fault hI (xs (k + 1))
  obtain ⟨d1, Q1, hd1, hM1, e1⟩ := h1 A B hA hM
  refine tw_aload1 F (by decide +kernel) ?_
  refine tw_arg 1 F hk hN (by decide) ⟨by decide +kernel, by decide +kernel, by decide +kernel, by decide +kernel, by decide +kernel⟩ ?_
  refine tw_call F (by decide +kernel) lkX15_39 hM1 rfl rfl rfl (by decide) rfl hd1 (by decide) (fun r h' hq => ?_)
  obtain ⟨A1, B1, rfl, rfl, c1, m1⟩ := e1 r h' hq
  obtain ⟨d2, Q2, hd2, hM2, e2⟩ := h2 A1 B1 c1 m1
  refine tw_aload2 F (by decide +kernel) ?_
  refine tw_arg 1 F hk hN (by decide) ⟨by decide +kernel, by decide +kernel, by decide +kernel, by decide +kernel, by decide +kernel⟩ ?_
  refine tw_call F (by decide +kernel) lkX15_43 hM2 rfl rfl rfl (by decide) rfl hd2 (Nat.le_of_ble_eq_true rfl) (fun r h' hq => ?_)
  obtain ⟨A2, B2, rfl, rfl, c2, m2⟩ := e2 r h' hq
  show T p l e s m below meth c b Z 345 (nI k) [some (.inl a), some (.inl a)] (hp A2 B2)
  exact tw_icmp (off := 779) 1124 F (by decide +kernel) (by decide) (K A2 B2 S' iv c2 m2)
theorem cs_6 (F : LwA p s m c b N xs) (hk : k + 7 ≤ N) (hN : N ≤ 3584) (hI : ivS S) (hA : RCs A B S) (hM : RMs A B S) (K : CsK p l e s m below meth c b Z k) : T p l e s m below meth c b Z 350 (nI k) [] (hp A B) := by
  obtain ⟨a, S', iv, h1, h2⟩ := sq_program hI hA.1.2.1.2.1 
  obtain ⟨d1, Q1, hd1, hM1, e1⟩ := h1 A B hA hM
  refine tw_aload1 F (by decide +kernel) ?_
  refine tw_call F (by decide +kernel) lkX15_44 hM1 rfl rfl rfl (by decide) rfl hd1 (by decide) (fun r h' hq => ?_)
  obtain ⟨A1, B1, rfl, rfl, c1, m1⟩ := e1 r h' hq
  obtain ⟨d2, Q2, hd2, hM2, e2⟩ := h2 A1 B1 c1 m1
  refine tw_aload2 F (by decide +kernel) ?_
  refine tw_call F (by decide +kernel) lkX15_47 hM2 rfl rfl rfl (by decide) rfl hd2 (Nat.le_of_ble_eq_true rfl) (fun r h' hq => ?_)
  obtain ⟨A2, B2, rfl, rfl, c2, m2⟩ := e2 r h' hq
  show T p l e s m below meth c b Z 358 (nI k) [some (.inl a), some (.inl a)] (hp A2 B2)
  exact tw_icmp (off := 766) 1124 F (by decide +kernel) (by decide) (K A2 B2 S' iv c2 m2)
theorem cs_7 (F : LwA p s m c b N xs) (hk : k + 7 ≤ N) (hN : N ≤ 3584) (hI : ivS S) (hA : RCs A B S) (hM : RMs A B S) (K : CsK p l e s m below meth c b Z k) : T p l e s m below meth c b Z 363 (nI k) [] (hp A B) := by
  obtain ⟨a, S', iv, h1, h2⟩ := sq_law hI hA.1.2.1.2.1 
  obtain ⟨d1, Q1, hd1, hM1, e1⟩ := h1 A B hA hM
  refine tw_aload1 F (by decide +kernel) ?_
  refine tw_call F (by decide +kernel) lkX15_48 hM1 rfl rfl rfl (by decide) rfl hd1 (by decide) (fun r h' hq => ?_)
  obtain ⟨A1, B1, rfl, rfl, c1, m1⟩ := e1 r h' hq
  obtain ⟨d2, Q2, hd2, hM2, e2⟩ := h2 A1 B1 c1 m1
  refine tw_aload2 F (by decide +kernel) ?_
  refine tw_call F (by decide +kernel) lkX15_51 hM2 rfl rfl rfl (by decide) rfl hd2 (Nat.le_of_ble_eq_true rfl) (fun r h' hq => ?_)
  obtain ⟨A2, B2, rfl, rfl, c2, m2⟩ := e2 r h' hq
  show T p l e s m below meth c b Z 371 (nI k) [some (.inl a), some (.inl a)] (hp A2 B2)
  exact tw_icmp (off := 753) 1124 F (by decide +kernel) (by decide) (K A2 B2 S' iv c2 m2)
theorem cs_8 (F : LwA p s m c b N xs) (hk : k + 7 ≤ N) (hN : N ≤ 3584) (hI : ivS S) (hA : RCs A B S) (hM : RMs A B S) (K : CsK p l e s m below meth c b Z k) : T p l e s m below meth c b Z 376 (nI k) [] (hp A B) := by
  obtain ⟨a, S', iv, h1, h2⟩ := sq_strike hI 
  obtain ⟨d1, Q1, hd1, hM1, e1⟩ := h1 A B hA hM
  refine tw_aload1 F (by decide +kernel) ?_
  refine tw_call F (by decide +kernel) lkX15_52 hM1 rfl rfl rfl (by decide) rfl hd1 (by decide) (fun r h' hq => ?_)
  obtain ⟨A1, B1, rfl, rfl, c1, m1⟩ := e1 r h' hq
  obtain ⟨d2, Q2, hd2, hM2, e2⟩ := h2 A1 B1 c1 m1
  refine tw_aload2 F (by decide +kernel) ?_
  refine tw_call F (by decide +kernel) lkX15_55 hM2 rfl rfl rfl (by decide) rfl hd2 (Nat.le_of_ble_eq_true rfl) (fun r h' hq => ?_)
  obtain ⟨A2, B2, rfl, rfl, c2, m2⟩ := e2 r h' hq
  show T p l e s m below meth c b Z 384 (nI k) [some (.inl a), some (.inl a)] (hp A2 B2)
  exact tw_icmp (off := 740) 1124 F (by decide +kernel) (by decide) (K A2 B2 S' iv c2 m2)
theorem cs_9 (F : LwA p s m c b N xs) (hk : k + 7 ≤ N) (hN : N ≤ 3584) (hI : ivS S) (hA : RCs A B S) (hM : RMs A B S) (K : CsK p l e s m below meth c b Z k) : T p l e s m below meth c b Z 389 (nI k) [] (hp A B) := by
  obtain ⟨a, S', iv, h1, h2⟩ := sq_run hI (lnW (xs (k + 1)) (xs (k + 2))) (xs (k + 3))
  obtain ⟨d1, Q1, hd1, hM1, e1⟩ := h1 A B hA hM
  refine tw_aload1 F (by decide +kernel) ?_
  refine tw_wide 1 F hk hN (by decide) ⟨by decide +kernel, by decide +kernel, by decide +kernel, by decide +kernel, by decide +kernel⟩ ⟨by decide +kernel, by decide +kernel, by decide +kernel, by decide +kernel, by decide +kernel⟩ ⟨by decide +kernel, by decide +kernel, by decide +kernel, by decide +kernel, by decide +kernel, by decide +kernel, by decide +kernel⟩ ?_
  refine tw_arg 3 F hk hN (by decide) ⟨by decide +kernel, by decide +kernel, by decide +kernel, by decide +kernel, by decide +kernel⟩ ?_
  refine tw_call F (by decide +kernel) lkX15_56 hM1 rfl rfl rfl (by decide) rfl hd1 (by decide) (fun r h' hq => ?_)
  obtain ⟨A1, B1, rfl, rfl, c1, m1⟩ := e1 r h' hq
  obtain ⟨d2, Q2, hd2, hM2, e2⟩ := h2 A1 B1 c1 m1
  refine tw_aload2 F (by decide +kernel) ?_
  refine tw_wide 1 F hk hN (by decide) ⟨by decide +kernel, by decide +kernel, by decide +kernel, by decide +kernel, by decide +kernel⟩ ⟨by decide +kernel, by decide +kernel, by decide +kernel, by decide +kernel, by decide +kernel⟩ ⟨by decide +kernel, by decide +kernel, by decide +kernel, by decide +kernel, by decide +kernel, by decide +kernel, by decide +kernel⟩ ?_
  refine tw_arg 3 F hk hN (by decide) ⟨by decide +kernel, by decide +kernel, by decide +kernel, by decide +kernel, by decide +kernel⟩ ?_
  refine tw_call F (by decide +kernel) lkX15_60 hM2 rfl rfl rfl (by decide) rfl hd2 (Nat.le_of_ble_eq_true rfl) (fun r h' hq => ?_)
  obtain ⟨A2, B2, rfl, rfl, c2, m2⟩ := e2 r h' hq
  show T p l e s m below meth c b Z 447 (nI k) [some (.inl a), some (.inl a)] (hp A2 B2)
  exact tw_icmp (off := 677) 1124 F (by decide +kernel) (by decide) (K A2 B2 S' iv c2 m2)
theorem cs_10 (F : LwA p s m c b N xs) (hk : k + 7 ≤ N) (hN : N ≤ 3584) (hI : ivS S) (hA : RCs A B S) (hM : RMs A B S) (K : CsK p l e s m below meth c b Z k) : T p l e s m below meth c b Z 452 (nI k) [] (hp A B) := by
  obtain ⟨a, S', iv, h1, h2⟩ := sq_seek hI (xs (k + 1)) (xs (k + 2))
  obtain ⟨d1, Q1, hd1, hM1, e1⟩ := h1 A B hA hM
  refine tw_aload1 F (by decide +kernel) ?_
  refine tw_arg 1 F hk hN (by decide) ⟨by decide +kernel, by decide +kernel, by decide +kernel, by decide +kernel, by decide +kernel⟩ ?_
  refine tw_arg 2 F hk hN (by decide) ⟨by decide +kernel, by decide +kernel, by decide +kernel, by decide +kernel, by decide +kernel⟩ ?_
  refine tw_call F (by decide +kernel) lkX15_61 hM1 rfl rfl rfl (by decide) rfl hd1 (by decide) (fun r h' hq => ?_)
  obtain ⟨A1, B1, rfl, rfl, c1, m1⟩ := e1 r h' hq
  obtain ⟨d2, Q2, hd2, hM2, e2⟩ := h2 A1 B1 c1 m1
  refine tw_aload2 F (by decide +kernel) ?_
  refine tw_arg 1 F hk hN (by decide) ⟨by decide +kernel, by decide +kernel, by decide +kernel, by decide +kernel, by decide +kernel⟩ ?_
  refine tw_arg 2 F hk hN (by decide) ⟨by decide +kernel, by decide +kernel, by decide +kernel, by decide +kernel, by decide +kernel⟩ ?_
  refine tw_call F (by decide +kernel) lkX15_64 hM2 rfl rfl rfl (by decide) rfl hd2 (Nat.le_of_ble_eq_true rfl) (fun r h' hq => ?_)
  obtain ⟨A2, B2, rfl, rfl, c2, m2⟩ := e2 r h' hq
  show T p l e s m below meth c b Z 480 (nI k) [some (.inl a), some (.inl a)] (hp A2 B2)
  exact tw_icmp (off := 644) 1124 F (by decide +kernel) (by decide) (K A2 B2 S' iv c2 m2)
theorem cs_11 (F : LwA p s m c b N xs) (hk : k + 7 ≤ N) (hN : N ≤ 3584) (hI : ivS S) (hA : RCs A B S) (hM : RMs A B S) (K : CsK p l e s m below meth c b Z k) : T p l e s m below meth c b Z 485 (nI k) [] (hp A B) := by
  obtain ⟨a, S', iv, h1, h2⟩ := sq_sought hI (xs (k + 1))
  obtain ⟨d1, Q1, hd1, hM1, e1⟩ := h1 A B hA hM
  refine tw_aload1 F (by decide +kernel) ?_
  refine tw_arg 1 F hk hN (by decide) ⟨by decide +kernel, by decide +kernel, by decide +kernel, by decide +kernel, by decide +kernel⟩ ?_
  refine tw_call F (by decide +kernel) lkX15_65 hM1 rfl rfl rfl (by decide) rfl hd1 (by decide) (fun r h' hq => ?_)
  obtain ⟨A1, B1, rfl, rfl, c1, m1⟩ := e1 r h' hq
  obtain ⟨d2, Q2, hd2, hM2, e2⟩ := h2 A1 B1 c1 m1
  refine tw_aload2 F (by decide +kernel) ?_
  refine tw_arg 1 F hk hN (by decide) ⟨by decide +kernel, by decide +kernel, by decide +kernel, by decide +kernel, by decide +kernel⟩ ?_
  refine tw_call F (by decide +kernel) lkX15_68 hM2 rfl rfl rfl (by decide) rfl hd2 (Nat.le_of_ble_eq_true rfl) (fun r h' hq => ?_)
  obtain ⟨A2, B2, rfl, rfl, c2, m2⟩ := e2 r h' hq
  show T p l e s m below meth c b Z 503 (nI k) [some (.inl a), some (.inl a)] (hp A2 B2)
  exact tw_icmp (off := 621) 1124 F (by decide +kernel) (by decide) (K A2 B2 S' iv c2 m2)
theorem cs_12 (F : LwA p s m c b N xs) (hk : k + 7 ≤ N) (hN : N ≤ 3584) (hI : ivS S) (hA : RCs A B S) (hM : RMs A B S) (K : CsK p l e s m below meth c b Z k) : T p l e s m below meth c b Z 508 (nI k) [] (hp A B) := by
  obtain ⟨a, S', iv, h1, h2⟩ := sq_pair hI (xs (k + 1))
  obtain ⟨d1, Q1, hd1, hM1, e1⟩ := h1 A B hA hM
  refine tw_aload1 F (by decide +kernel) ?_
  refine tw_arg 1 F hk hN (by decide) ⟨by decide +kernel, by decide +kernel, by decide +kernel, by decide +kernel, by decide +kernel⟩ ?_
  refine tw_call F (by decide +kernel) lkX15_69 hM1 rfl rfl rfl (by decide) rfl hd1 (by decide) (fun r h' hq => ?_)
  obtain ⟨A1, B1, rfl, rfl, c1, m1⟩ := e1 r h' hq
  obtain ⟨d2, Q2, hd2, hM2, e2⟩ := h2 A1 B1 c1 m1
  refine tw_aload2 F (by decide +kernel) ?_
  refine tw_arg 1 F hk hN (by decide) ⟨by decide +kernel, by decide +kernel, by decide +kernel, by decide +kernel, by decide +kernel⟩ ?_
  refine tw_call F (by decide +kernel) lkX15_73 hM2 rfl rfl rfl (by decide) rfl hd2 (Nat.le_of_ble_eq_true rfl) (fun r h' hq => ?_)
  obtain ⟨A2, B2, rfl, rfl, c2, m2⟩ := e2 r h' hq
  show T p l e s m below meth c b Z 526 (nI k) [some (.inr (.inl a)), some (.inr (.inl a))] (hp A2 B2)
  refine tw_lcmp F (by decide +kernel) ?_
  rw [lg_same]
  exact tw_ifeq (off := 597) 1124 F (by decide +kernel) (by decide) (K A2 B2 S' iv c2 m2)
theorem cs_13 (F : LwA p s m c b N xs) (hk : k + 7 ≤ N) (hN : N ≤ 3584) (hI : ivS S) (hA : RCs A B S) (hM : RMs A B S) (K : CsK p l e s m below meth c b Z k) : T p l e s m below meth c b Z 532 (nI k) [] (hp A B) := by
  obtain ⟨a, S', iv, h1, h2⟩ := sq_ends hI (lnW (xs (k + 1)) (xs (k + 2))) (lnW (xs (k + 3)) (xs (k + 4)))
  obtain ⟨d1, Q1, hd1, hM1, e1⟩ := h1 A B hA hM
  refine tw_aload1 F (by decide +kernel) ?_
  refine tw_wide 1 F hk hN (by decide) ⟨by decide +kernel, by decide +kernel, by decide +kernel, by decide +kernel, by decide +kernel⟩ ⟨by decide +kernel, by decide +kernel, by decide +kernel, by decide +kernel, by decide +kernel⟩ ⟨by decide +kernel, by decide +kernel, by decide +kernel, by decide +kernel, by decide +kernel, by decide +kernel, by decide +kernel⟩ ?_
  refine tw_wide 3 F hk hN (by decide) ⟨by decide +kernel, by decide +kernel, by decide +kernel, by decide +kernel, by decide +kernel⟩ ⟨by decide +kernel, by decide +kernel, by decide +kernel, by decide +kernel, by decide +kernel⟩ ⟨by decide +kernel, by decide +kernel, by decide +kernel, by decide +kernel, by decide +kernel, by decide +kernel, by decide +kernel⟩ ?_
  refine tw_call F (by decide +kernel) lkX15_74 hM1 rfl rfl rfl (by decide) rfl hd1 (by decide) (fun r h' hq => ?_)
  obtain ⟨A1, B1, rfl, rfl, c1, m1⟩ := e1 r h' hq
  obtain ⟨d2, Q2, hd2, hM2, e2⟩ := h2 A1 B1 c1 m1
  refine tw_aload2 F (by decide +kernel) ?_
  refine tw_wide 1 F hk hN (by decide) ⟨by decide +kernel, by decide +kernel, by decide +kernel, by decide +kernel, by decide +kernel⟩ ⟨by decide +kernel, by decide +kernel, by decide +kernel, by decide +kernel, by decide +kernel⟩ ⟨by decide +kernel, by decide +kernel, by decide +kernel, by decide +kernel, by decide +kernel, by decide +kernel, by decide +kernel⟩ ?_
  refine tw_wide 3 F hk hN (by decide) ⟨by decide +kernel, by decide +kernel, by decide +kernel, by decide +kernel, by decide +kernel⟩ ⟨by decide +kernel, by decide +kernel, by decide +kernel, by decide +kernel, by decide +kernel⟩ ⟨by decide +kernel, by decide +kernel, by decide +kernel, by decide +kernel, by decide +kernel, by decide +kernel, by decide +kernel⟩ ?_
  refine tw_call F (by decide +kernel) lkX15_78 hM2 rfl rfl rfl (by decide) rfl hd2 (Nat.le_of_ble_eq_true rfl) (fun r h' hq => ?_)
  obtain ⟨A2, B2, rfl, rfl, c2, m2⟩ := e2 r h' hq
  show T p l e s m below meth c b Z 620 (nI k) [some (.inl a), some (.inl a)] (hp A2 B2)
  exact tw_icmp (off := 504) 1124 F (by decide +kernel) (by decide) (K A2 B2 S' iv c2 m2)
theorem cs_14 (F : LwA p s m c b N xs) (hk : k + 7 ≤ N) (hN : N ≤ 3584) (hI : ivS S) (hA : RCs A B S) (hM : RMs A B S) (K : CsK p l e s m below meth c b Z k) : T p l e s m below meth c b Z 625 (nI k) [] (hp A B) := by
  obtain ⟨a, S', iv, h1, h2⟩ := sq_row hI (lnW (xs (k + 1)) (xs (k + 2))) (xs (k + 3))
  obtain ⟨d1, Q1, hd1, hM1, e1⟩ := h1 A B hA hM
  refine tw_aload1 F (by decide +kernel) ?_
  refine tw_wide 1 F hk hN (by decide) ⟨by decide +kernel, by decide +kernel, by decide +kernel, by decide +kernel, by decide +kernel⟩ ⟨by decide +kernel, by decide +kernel, by decide +kernel, by decide +kernel, by decide +kernel⟩ ⟨by decide +kernel, by decide +kernel, by decide +kernel, by decide +kernel, by decide +kernel, by decide +kernel, by decide +kernel⟩ ?_
  refine tw_arg 3 F hk hN (by decide) ⟨by decide +kernel, by decide +kernel, by decide +kernel, by decide +kernel, by decide +kernel⟩ ?_
  refine tw_call F (by decide +kernel) lkX15_79 hM1 rfl rfl rfl (by decide) rfl hd1 (by decide) (fun r h' hq => ?_)
  obtain ⟨A1, B1, rfl, rfl, c1, m1⟩ := e1 r h' hq
  obtain ⟨d2, Q2, hd2, hM2, e2⟩ := h2 A1 B1 c1 m1
  refine tw_aload2 F (by decide +kernel) ?_
  refine tw_wide 1 F hk hN (by decide) ⟨by decide +kernel, by decide +kernel, by decide +kernel, by decide +kernel, by decide +kernel⟩ ⟨by decide +kernel, by decide +kernel, by decide +kernel, by decide +kernel, by decide +kernel⟩ ⟨by decide +kernel, by decide +kernel, by decide +kernel, by decide +kernel, by decide +kernel, by decide +kernel, by decide +kernel⟩ ?_
  refine tw_arg 3 F hk hN (by decide) ⟨by decide +kernel, by decide +kernel, by decide +kernel, by decide +kernel, by decide +kernel⟩ ?_
  refine tw_call F (by decide +kernel) lkX15_82 hM2 rfl rfl rfl (by decide) rfl hd2 (Nat.le_of_ble_eq_true rfl) (fun r h' hq => ?_)
  obtain ⟨A2, B2, rfl, rfl, c2, m2⟩ := e2 r h' hq
  show T p l e s m below meth c b Z 683 (nI k) [some (.inl a), some (.inl a)] (hp A2 B2)
  exact tw_icmp (off := 441) 1124 F (by decide +kernel) (by decide) (K A2 B2 S' iv c2 m2)
theorem cs_15 (F : LwA p s m c b N xs) (hk : k + 7 ≤ N) (hN : N ≤ 3584) (hI : ivS S) (hA : RCs A B S) (hM : RMs A B S) (K : CsK p l e s m below meth c b Z k) : T p l e s m below meth c b Z 688 (nI k) [] (hp A B) := by
  obtain ⟨a, S', iv, h1, h2⟩ := sq_end hI (xs (k + 1))
  obtain ⟨d1, Q1, hd1, hM1, e1⟩ := h1 A B hA hM
  refine tw_aload1 F (by decide +kernel) ?_
  refine tw_arg 1 F hk hN (by decide) ⟨by decide +kernel, by decide +kernel, by decide +kernel, by decide +kernel, by decide +kernel⟩ ?_
  refine tw_call F (by decide +kernel) lkX15_83 hM1 rfl rfl rfl (by decide) rfl hd1 (by decide) (fun r h' hq => ?_)
  obtain ⟨A1, B1, rfl, rfl, c1, m1⟩ := e1 r h' hq
  obtain ⟨d2, Q2, hd2, hM2, e2⟩ := h2 A1 B1 c1 m1
  refine tw_aload2 F (by decide +kernel) ?_
  refine tw_arg 1 F hk hN (by decide) ⟨by decide +kernel, by decide +kernel, by decide +kernel, by decide +kernel, by decide +kernel⟩ ?_
  refine tw_call F (by decide +kernel) lkX15_86 hM2 rfl rfl rfl (by decide) rfl hd2 (Nat.le_of_ble_eq_true rfl) (fun r h' hq => ?_)
  obtain ⟨A2, B2, rfl, rfl, c2, m2⟩ := e2 r h' hq
  show T p l e s m below meth c b Z 706 (nI k) [some (.inl a), some (.inl a)] (hp A2 B2)
  exact tw_icmp (off := 418) 1124 F (by decide +kernel) (by decide) (K A2 B2 S' iv c2 m2)
theorem cs_16 (F : LwA p s m c b N xs) (hk : k + 7 ≤ N) (hN : N ≤ 3584) (hI : ivS S) (hA : RCs A B S) (hM : RMs A B S) (K : CsK p l e s m below meth c b Z k) : T p l e s m below meth c b Z 711 (nI k) [] (hp A B) := by
  obtain ⟨a, S', iv, h1, h2⟩ := sq_group hI (xs (k + 1)) (xs (k + 2)) (xs (k + 3))
  obtain ⟨d1, Q1, hd1, hM1, e1⟩ := h1 A B hA hM
  refine tw_aload1 F (by decide +kernel) ?_
  refine tw_arg 1 F hk hN (by decide) ⟨by decide +kernel, by decide +kernel, by decide +kernel, by decide +kernel, by decide +kernel⟩ ?_
  refine tw_arg 2 F hk hN (by decide) ⟨by decide +kernel, by decide +kernel, by decide +kernel, by decide +kernel, by decide +kernel⟩ ?_
  refine tw_arg 3 F hk hN (by decide) ⟨by decide +kernel, by decide +kernel, by decide +kernel, by decide +kernel, by decide +kernel⟩ ?_
  refine tw_call F (by decide +kernel) lkX15_87 hM1 rfl rfl rfl (by decide) rfl hd1 (by decide) (fun r h' hq => ?_)
  obtain ⟨A1, B1, rfl, rfl, c1, m1⟩ := e1 r h' hq
  obtain ⟨d2, Q2, hd2, hM2, e2⟩ := h2 A1 B1 c1 m1
  refine tw_aload2 F (by decide +kernel) ?_
  refine tw_arg 1 F hk hN (by decide) ⟨by decide +kernel, by decide +kernel, by decide +kernel, by decide +kernel, by decide +kernel⟩ ?_
  refine tw_arg 2 F hk hN (by decide) ⟨by decide +kernel, by decide +kernel, by decide +kernel, by decide +kernel, by decide +kernel⟩ ?_
  refine tw_arg 3 F hk hN (by decide) ⟨by decide +kernel, by decide +kernel, by decide +kernel, by decide +kernel, by decide +kernel⟩ ?_
  refine tw_call F (by decide +kernel) lkX15_90 hM2 rfl rfl rfl (by decide) rfl hd2 (Nat.le_of_ble_eq_true rfl) (fun r h' hq => ?_)
  obtain ⟨A2, B2, rfl, rfl, c2, m2⟩ := e2 r h' hq
  show T p l e s m below meth c b Z 749 (nI k) [some (.inl a), some (.inl a)] (hp A2 B2)
  exact tw_icmp (off := 375) 1124 F (by decide +kernel) (by decide) (K A2 B2 S' iv c2 m2)
theorem cs_17 (F : LwA p s m c b N xs) (hk : k + 7 ≤ N) (hN : N ≤ 3584) (hI : ivS S) (hA : RCs A B S) (hM : RMs A B S) (K : CsK p l e s m below meth c b Z k) : T p l e s m below meth c b Z 754 (nI k) [] (hp A B) := by
  obtain ⟨a, S', iv, h1, h2⟩ := sq_gap hI (xs (k + 1)) (xs (k + 2)) (xs (k + 3)) (xs (k + 4))
  obtain ⟨d1, Q1, hd1, hM1, e1⟩ := h1 A B hA hM
  refine tw_aload1 F (by decide +kernel) ?_
  refine tw_arg 1 F hk hN (by decide) ⟨by decide +kernel, by decide +kernel, by decide +kernel, by decide +kernel, by decide +kernel⟩ ?_
  refine tw_arg 2 F hk hN (by decide) ⟨by decide +kernel, by decide +kernel, by decide +kernel, by decide +kernel, by decide +kernel⟩ ?_
  refine tw_arg 3 F hk hN (by decide) ⟨by decide +kernel, by decide +kernel, by decide +kernel, by decide +kernel, by decide +kernel⟩ ?_
  refine tw_arg 4 F hk hN (by decide) ⟨by decide +kernel, by decide +kernel, by decide +kernel, by decide +kernel, by decide +kernel⟩ ?_
  refine tw_call F (by decide +kernel) lkX15_91 hM1 rfl rfl rfl (by decide) rfl hd1 (by decide) (fun r h' hq => ?_)
  obtain ⟨A1, B1, rfl, rfl, c1, m1⟩ := e1 r h' hq
  obtain ⟨d2, Q2, hd2, hM2, e2⟩ := h2 A1 B1 c1 m1
  refine tw_aload2 F (by decide +kernel) ?_
  refine tw_arg 1 F hk hN (by decide) ⟨by decide +kernel, by decide +kernel, by decide +kernel, by decide +kernel, by decide +kernel⟩ ?_
  refine tw_arg 2 F hk hN (by decide) ⟨by decide +kernel, by decide +kernel, by decide +kernel, by decide +kernel, by decide +kernel⟩ ?_
  refine tw_arg 3 F hk hN (by decide) ⟨by decide +kernel, by decide +kernel, by decide +kernel, by decide +kernel, by decide +kernel⟩ ?_
  refine tw_arg 4 F hk hN (by decide) ⟨by decide +kernel, by decide +kernel, by decide +kernel, by decide +kernel, by decide +kernel⟩ ?_
  refine tw_call F (by decide +kernel) lkX15_95 hM2 rfl rfl rfl (by decide) rfl hd2 (Nat.le_of_ble_eq_true rfl) (fun r h' hq => ?_)
  obtain ⟨A2, B2, rfl, rfl, c2, m2⟩ := e2 r h' hq
  show T p l e s m below meth c b Z 802 (nI k) [some (.inl a), some (.inl a)] (hp A2 B2)
  exact tw_icmp (off := 322) 1124 F (by decide +kernel) (by decide) (K A2 B2 S' iv c2 m2)
theorem cs_18 (F : LwA p s m c b N xs) (hk : k + 7 ≤ N) (hN : N ≤ 3584) (hI : ivS S) (hA : RCs A B S) (hM : RMs A B S) (K : CsK p l e s m below meth c b Z k) : T p l e s m below meth c b Z 807 (nI k) [] (hp A B) := by
  obtain ⟨a, S', iv, h1, h2⟩ := sq_odds hI (xs (k + 1)) (xs (k + 2)) (xs (k + 3)) (xs (k + 4))
  obtain ⟨d1, Q1, hd1, hM1, e1⟩ := h1 A B hA hM
  refine tw_aload1 F (by decide +kernel) ?_
  refine tw_arg 1 F hk hN (by decide) ⟨by decide +kernel, by decide +kernel, by decide +kernel, by decide +kernel, by decide +kernel⟩ ?_
  refine tw_arg 2 F hk hN (by decide) ⟨by decide +kernel, by decide +kernel, by decide +kernel, by decide +kernel, by decide +kernel⟩ ?_
  refine tw_arg 3 F hk hN (by decide) ⟨by decide +kernel, by decide +kernel, by decide +kernel, by decide +kernel, by decide +kernel⟩ ?_
  refine tw_arg 4 F hk hN (by decide) ⟨by decide +kernel, by decide +kernel, by decide +kernel, by decide +kernel, by decide +kernel⟩ ?_
  refine tw_call F (by decide +kernel) lkX15_96 hM1 rfl rfl rfl (by decide) rfl hd1 (by decide) (fun r h' hq => ?_)
  obtain ⟨A1, B1, rfl, rfl, c1, m1⟩ := e1 r h' hq
  obtain ⟨d2, Q2, hd2, hM2, e2⟩ := h2 A1 B1 c1 m1
  refine tw_aload2 F (by decide +kernel) ?_
  refine tw_arg 1 F hk hN (by decide) ⟨by decide +kernel, by decide +kernel, by decide +kernel, by decide +kernel, by decide +kernel⟩ ?_
  refine tw_arg 2 F hk hN (by decide) ⟨by decide +kernel, by decide +kernel, by decide +kernel, by decide +kernel, by decide +kernel⟩ ?_
  refine tw_arg 3 F hk hN (by decide) ⟨by decide +kernel, by decide +kernel, by decide +kernel, by decide +kernel, by decide +kernel⟩ ?_
  refine tw_arg 4 F hk hN (by decide) ⟨by decide +kernel, by decide +kernel, by decide +kernel, by decide +kernel, by decide +kernel⟩ ?_
  refine tw_call F (by decide +kernel) lkX15_99 hM2 rfl rfl rfl (by decide) rfl hd2 (Nat.le_of_ble_eq_true rfl) (fun r h' hq => ?_)
  obtain ⟨A2, B2, rfl, rfl, c2, m2⟩ := e2 r h' hq
  show T p l e s m below meth c b Z 855 (nI k) [some (.inl a), some (.inl a)] (hp A2 B2)
  exact tw_icmp (off := 269) 1124 F (by decide +kernel) (by decide) (K A2 B2 S' iv c2 m2)
theorem cs_19 (F : LwA p s m c b N xs) (hk : k + 7 ≤ N) (hN : N ≤ 3584) (hI : ivS S) (hA : RCs A B S) (hM : RMs A B S) (K : CsK p l e s m below meth c b Z k) : T p l e s m below meth c b Z 860 (nI k) [] (hp A B) := by
  obtain ⟨a, S', iv, h1, h2⟩ := sq_where hI (xs (k + 1))
  obtain ⟨d1, Q1, hd1, hM1, e1⟩ := h1 A B hA hM
  refine tw_aload1 F (by decide +kernel) ?_
  refine tw_arg 1 F hk hN (by decide) ⟨by decide +kernel, by decide +kernel, by decide +kernel, by decide +kernel, by decide +kernel⟩ ?_
  refine tw_call F (by decide +kernel) lkX15_100 hM1 rfl rfl rfl (by decide) rfl hd1 (by decide) (fun r h' hq => ?_)
  obtain ⟨A1, B1, rfl, rfl, c1, m1⟩ := e1 r h' hq
  obtain ⟨d2, Q2, hd2, hM2, e2⟩ := h2 A1 B1 c1 m1
  refine tw_aload2 F (by decide +kernel) ?_
  refine tw_arg 1 F hk hN (by decide) ⟨by decide +kernel, by decide +kernel, by decide +kernel, by decide +kernel, by decide +kernel⟩ ?_
  refine tw_call F (by decide +kernel) lkX15_103 hM2 rfl rfl rfl (by decide) rfl hd2 (Nat.le_of_ble_eq_true rfl) (fun r h' hq => ?_)
  obtain ⟨A2, B2, rfl, rfl, c2, m2⟩ := e2 r h' hq
  show T p l e s m below meth c b Z 878 (nI k) [some (.inl a), some (.inl a)] (hp A2 B2)
  exact tw_icmp (off := 246) 1124 F (by decide +kernel) (by decide) (K A2 B2 S' iv c2 m2)
theorem cs_20 (F : LwA p s m c b N xs) (hk : k + 7 ≤ N) (hN : N ≤ 3584) (hI : ivS S) (hA : RCs A B S) (hM : RMs A B S) (K : CsK p l e s m below meth c b Z k) : T p l e s m below meth c b Z 883 (nI k) [] (hp A B) := by
  obtain ⟨a, S', iv, h1, h2⟩ := sq_askings hI (xs (k + 1)) (xs (k + 2)) (xs (k + 3)) (xs (k + 4)) (xs (k + 5)) (xs (k + 6))
  obtain ⟨d1, Q1, hd1, hM1, e1⟩ := h1 A B hA hM
  refine tw_aload1 F (by decide +kernel) ?_
  refine tw_arg 1 F hk hN (by decide) ⟨by decide +kernel, by decide +kernel, by decide +kernel, by decide +kernel, by decide +kernel⟩ ?_
  refine tw_arg 2 F hk hN (by decide) ⟨by decide +kernel, by decide +kernel, by decide +kernel, by decide +kernel, by decide +kernel⟩ ?_
  refine tw_arg 3 F hk hN (by decide) ⟨by decide +kernel, by decide +kernel, by decide +kernel, by decide +kernel, by decide +kernel⟩ ?_
  refine tw_arg 4 F hk hN (by decide) ⟨by decide +kernel, by decide +kernel, by decide +kernel, by decide +kernel, by decide +kernel⟩ ?_
  refine tw_arg 5 F hk hN (by decide) ⟨by decide +kernel, by decide +kernel, by decide +kernel, by decide +kernel, by decide +kernel⟩ ?_
  refine tw_arg6 F hk hN ⟨by decide +kernel, by decide +kernel, by decide +kernel, by decide +kernel, by decide +kernel⟩ ?_
  refine tw_call F (by decide +kernel) lkX15_104 hM1 rfl rfl rfl (by decide) rfl hd1 (by decide) (fun r h' hq => ?_)
  obtain ⟨A1, B1, rfl, rfl, c1, m1⟩ := e1 r h' hq
  obtain ⟨d2, Q2, hd2, hM2, e2⟩ := h2 A1 B1 c1 m1
  refine tw_aload2 F (by decide +kernel) ?_
  refine tw_arg 1 F hk hN (by decide) ⟨by decide +kernel, by decide +kernel, by decide +kernel, by decide +kernel, by decide +kernel⟩ ?_
  refine tw_arg 2 F hk hN (by decide) ⟨by decide +kernel, by decide +kernel, by decide +kernel, by decide +kernel, by decide +kernel⟩ ?_
  refine tw_arg 3 F hk hN (by decide) ⟨by decide +kernel, by decide +kernel, by decide +kernel, by decide +kernel, by decide +kernel⟩ ?_
  refine tw_arg 4 F hk hN (by decide) ⟨by decide +kernel, by decide +kernel, by decide +kernel, by decide +kernel, by decide +kernel⟩ ?_
  refine tw_arg 5 F hk hN (by decide) ⟨by decide +kernel, by decide +kernel, by decide +kernel, by decide +kernel, by decide +kernel⟩ ?_
  refine tw_arg6 F hk hN ⟨by decide +kernel, by decide +kernel, by decide +kernel, by decide +kernel, by decide +kernel⟩ ?_
  refine tw_call F (by decide +kernel) lkX15_108 hM2 rfl rfl rfl (by decide) rfl hd2 (Nat.le_of_ble_eq_true rfl) (fun r h' hq => ?_)
  obtain ⟨A2, B2, rfl, rfl, c2, m2⟩ := e2 r h' hq
  show T p l e s m below meth c b Z 953 (nI k) [some (.inl a), some (.inl a)] (hp A2 B2)
  exact tw_icmp (off := 171) 1124 F (by decide +kernel) (by decide) (K A2 B2 S' iv c2 m2)
theorem cs_21 (F : LwA p s m c b N xs) (hk : k + 7 ≤ N) (hN : N ≤ 3584) (hI : ivS S) (hA : RCs A B S) (hM : RMs A B S) (K : CsK p l e s m below meth c b Z k) : T p l e s m below meth c b Z 958 (nI k) [] (hp A B) := by
  obtain ⟨a, S', iv, h1, h2⟩ := sq_mend hI (xs (k + 1)) (xs (k + 2)) (xs (k + 3)) (xs (k + 4))
  obtain ⟨d1, Q1, hd1, hM1, e1⟩ := h1 A B hA hM
  refine tw_aload1 F (by decide +kernel) ?_
  refine tw_arg 1 F hk hN (by decide) ⟨by decide +kernel, by decide +kernel, by decide +kernel, by decide +kernel, by decide +kernel⟩ ?_
  refine tw_arg 2 F hk hN (by decide) ⟨by decide +kernel, by decide +kernel, by decide +kernel, by decide +kernel, by decide +kernel⟩ ?_
  refine tw_arg 3 F hk hN (by decide) ⟨by decide +kernel, by decide +kernel, by decide +kernel, by decide +kernel, by decide +kernel⟩ ?_
  refine tw_arg 4 F hk hN (by decide) ⟨by decide +kernel, by decide +kernel, by decide +kernel, by decide +kernel, by decide +kernel⟩ ?_
  refine tw_call F (by decide +kernel) lkX15_109 hM1 rfl rfl rfl (by decide) rfl hd1 (by decide) (fun r h' hq => ?_)
  obtain ⟨A1, B1, rfl, rfl, c1, m1⟩ := e1 r h' hq
  obtain ⟨d2, Q2, hd2, hM2, e2⟩ := h2 A1 B1 c1 m1
  refine tw_aload2 F (by decide +kernel) ?_
  refine tw_arg 1 F hk hN (by decide) ⟨by decide +kernel, by decide +kernel, by decide +kernel, by decide +kernel, by decide +kernel⟩ ?_
  refine tw_arg 2 F hk hN (by decide) ⟨by decide +kernel, by decide +kernel, by decide +kernel, by decide +kernel, by decide +kernel⟩ ?_
  refine tw_arg 3 F hk hN (by decide) ⟨by decide +kernel, by decide +kernel, by decide +kernel, by decide +kernel, by decide +kernel⟩ ?_
  refine tw_arg 4 F hk hN (by decide) ⟨by decide +kernel, by decide +kernel, by decide +kernel, by decide +kernel, by decide +kernel⟩ ?_
  refine tw_call F (by decide +kernel) lkX15_112 hM2 rfl rfl rfl (by decide) rfl hd2 (Nat.le_of_ble_eq_true rfl) (fun r h' hq => ?_)
  obtain ⟨A2, B2, rfl, rfl, c2, m2⟩ := e2 r h' hq
  show T p l e s m below meth c b Z 1006 (nI k) [some (.inl a), some (.inl a)] (hp A2 B2)
  exact tw_icmp (off := 118) 1124 F (by decide +kernel) (by decide) (K A2 B2 S' iv c2 m2)
theorem cs_22 (F : LwA p s m c b N xs) (hk : k + 7 ≤ N) (hN : N ≤ 3584) (hI : ivS S) (hA : RCs A B S) (hM : RMs A B S) (K : CsK p l e s m below meth c b Z k) : T p l e s m below meth c b Z 1011 (nI k) [] (hp A B) := by
  obtain ⟨a, S', iv, h1, h2⟩ := sq_refused hI (xs (k + 1)) (xs (k + 2))
  obtain ⟨d1, Q1, hd1, hM1, e1⟩ := h1 A B hA hM
  refine tw_aload1 F (by decide +kernel) ?_
  refine tw_arg 1 F hk hN (by decide) ⟨by decide +kernel, by decide +kernel, by decide +kernel, by decide +kernel, by decide +kernel⟩ ?_
  refine tw_arg 2 F hk hN (by decide) ⟨by decide +kernel, by decide +kernel, by decide +kernel, by decide +kernel, by decide +kernel⟩ ?_
  refine tw_call F (by decide +kernel) lkX15_113 hM1 rfl rfl rfl (by decide) rfl hd1 (by decide) (fun r h' hq => ?_)
  obtain ⟨A1, B1, rfl, rfl, c1, m1⟩ := e1 r h' hq
  obtain ⟨d2, Q2, hd2, hM2, e2⟩ := h2 A1 B1 c1 m1
  refine tw_aload2 F (by decide +kernel) ?_
  refine tw_arg 1 F hk hN (by decide) ⟨by decide +kernel, by decide +kernel, by decide +kernel, by decide +kernel, by decide +kernel⟩ ?_
  refine tw_arg 2 F hk hN (by decide) ⟨by decide +kernel, by decide +kernel, by decide +kernel, by decide +kernel, by decide +kernel⟩ ?_
  refine tw_call F (by decide +kernel) lkX15_116 hM2 rfl rfl rfl (by decide) rfl hd2 (Nat.le_of_ble_eq_true rfl) (fun r h' hq => ?_)
  obtain ⟨A2, B2, rfl, rfl, c2, m2⟩ := e2 r h' hq
  show T p l e s m below meth c b Z 1039 (nI k) [some (.inl a), some (.inl a)] (hp A2 B2)
  exact tw_icmp (off := 85) 1124 F (by decide +kernel) (by decide) (K A2 B2 S' iv c2 m2)
theorem cs_23 (F : LwA p s m c b N xs) (hk : k + 7 ≤ N) (hN : N ≤ 3584) (hI : ivS S) (hA : RCs A B S) (hM : RMs A B S) (K : CsK p l e s m below meth c b Z k) : T p l e s m below meth c b Z 1044 (nI k) [] (hp A B) := by
  obtain ⟨a, S', iv, h1, h2⟩ := sq_sameFor hI (xs (k + 1)) (xs (k + 2)) (xs (k + 3))
  obtain ⟨d1, Q1, hd1, hM1, e1⟩ := h1 A B hA hM
  refine tw_aload1 F (by decide +kernel) ?_
  refine tw_arg 1 F hk hN (by decide) ⟨by decide +kernel, by decide +kernel, by decide +kernel, by decide +kernel, by decide +kernel⟩ ?_
  refine tw_arg 2 F hk hN (by decide) ⟨by decide +kernel, by decide +kernel, by decide +kernel, by decide +kernel, by decide +kernel⟩ ?_
  refine tw_arg 3 F hk hN (by decide) ⟨by decide +kernel, by decide +kernel, by decide +kernel, by decide +kernel, by decide +kernel⟩ ?_
  refine tw_call F (by decide +kernel) lkX15_117 hM1 rfl rfl rfl (by decide) rfl hd1 (by decide) (fun r h' hq => ?_)
  obtain ⟨A1, B1, rfl, rfl, c1, m1⟩ := e1 r h' hq
  obtain ⟨d2, Q2, hd2, hM2, e2⟩ := h2 A1 B1 c1 m1
  refine tw_aload2 F (by decide +kernel) ?_
  refine tw_arg 1 F hk hN (by decide) ⟨by decide +kernel, by decide +kernel, by decide +kernel, by decide +kernel, by decide +kernel⟩ ?_
  refine tw_arg 2 F hk hN (by decide) ⟨by decide +kernel, by decide +kernel, by decide +kernel, by decide +kernel, by decide +kernel⟩ ?_
  refine tw_arg 3 F hk hN (by decide) ⟨by decide +kernel, by decide +kernel, by decide +kernel, by decide +kernel, by decide +kernel⟩ ?_
  refine tw_call F (by decide +kernel) lkX15_120 hM2 rfl rfl rfl (by decide) rfl hd2 (Nat.le_of_ble_eq_true rfl) (fun r h' hq => ?_)
  obtain ⟨A2, B2, rfl, rfl, c2, m2⟩ := e2 r h' hq
  show T p l e s m below meth c b Z 1082 (nI k) [some (.inl a), some (.inl a)] (hp A2 B2)
  exact tw_icmp (off := 42) 1124 F (by decide +kernel) (by decide) (K A2 B2 S' iv c2 m2)
theorem cs_24 (F : LwA p s m c b N xs) (hk : k + 7 ≤ N) (hN : N ≤ 3584) (hI : ivS S) (hA : RCs A B S) (hM : RMs A B S) (K : CsK p l e s m below meth c b Z k) : T p l e s m below meth c b Z 1087 (nI k) [] (hp A B) := by
  obtain ⟨a, S', iv, h1, h2⟩ := sq_count hI (xs (k + 1))
  obtain ⟨d1, Q1, hd1, hM1, e1⟩ := h1 A B hA hM
  refine tw_aload1 F (by decide +kernel) ?_
  refine tw_arg 1 F hk hN (by decide) ⟨by decide +kernel, by decide +kernel, by decide +kernel, by decide +kernel, by decide +kernel⟩ ?_
  refine tw_call F (by decide +kernel) lkX15_121 hM1 rfl rfl rfl (by decide) rfl hd1 (by decide) (fun r h' hq => ?_)
  obtain ⟨A1, B1, rfl, rfl, c1, m1⟩ := e1 r h' hq
  obtain ⟨d2, Q2, hd2, hM2, e2⟩ := h2 A1 B1 c1 m1
  refine tw_aload2 F (by decide +kernel) ?_
  refine tw_arg 1 F hk hN (by decide) ⟨by decide +kernel, by decide +kernel, by decide +kernel, by decide +kernel, by decide +kernel⟩ ?_
  refine tw_call F (by decide +kernel) lkX15_124 hM2 rfl rfl rfl (by decide) rfl hd2 (Nat.le_of_ble_eq_true rfl) (fun r h' hq => ?_)
  obtain ⟨A2, B2, rfl, rfl, c2, m2⟩ := e2 r h' hq
  show T p l e s m below meth c b Z 1105 (nI k) [some (.inl a), some (.inl a)] (hp A2 B2)
  exact tw_icmp (off := 19) 1124 F (by decide +kernel) (by decide) (K A2 B2 S' iv c2 m2)
theorem cs_25 (F : LwA p s m c b N xs) (hk : k + 7 ≤ N) (hN : N ≤ 3584) (hI : ivS S) (hA : RCs A B S) (hM : RMs A B S) (K : CsK p l e s m below meth c b Z k) : T p l e s m below meth c b Z 1110 (nI k) [] (hp A B) := by
  obtain ⟨a, S', iv, h1, h2⟩ := sq_digest hI 
  obtain ⟨d1, Q1, hd1, hM1, e1⟩ := h1 A B hA hM
  refine tw_aload1 F (by decide +kernel) ?_
  refine tw_call F (by decide +kernel) lkX15_125 hM1 rfl rfl rfl (by decide) rfl hd1 (by decide) (fun r h' hq => ?_)
  obtain ⟨A1, B1, rfl, rfl, c1, m1⟩ := e1 r h' hq
  obtain ⟨d2, Q2, hd2, hM2, e2⟩ := h2 A1 B1 c1 m1
  refine tw_aload2 F (by decide +kernel) ?_
  refine tw_call F (by decide +kernel) lkX15_129 hM2 rfl rfl rfl (by decide) rfl hd2 (Nat.le_of_ble_eq_true rfl) (fun r h' hq => ?_)
  obtain ⟨A2, B2, rfl, rfl, c2, m2⟩ := e2 r h' hq
  show T p l e s m below meth c b Z 1118 (nI k) [some (.inr (.inl a)), some (.inr (.inl a))] (hp A2 B2)
  refine tw_lcmp F (by decide +kernel) ?_
  rw [lg_same]
  exact tw_ifeq (off := 5) 1124 F (by decide +kernel) (by decide) (K A2 B2 S' iv c2 m2)
end LT
