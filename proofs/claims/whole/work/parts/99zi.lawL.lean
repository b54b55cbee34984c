theorem and31 (x : Int32) : ∃ w : Nat, w ≤ 31 ∧ x &&& 31 = nI w := by
  refine ⟨(x &&& 31).toBitVec.toNat, ?_, ?_⟩
  · rw [Int32.toBitVec_and, BitVec.toNat_and]
    exact Nat.and_le_right
  · apply Int32.toBitVec_inj.mp
    show _ = BitVec.ofNat 32 _
    rw [BitVec.ofNat_toNat, BitVec.setWidth_eq]
theorem sub7 {N : Nat} (h : N ≤ 3584) : (nI N - 7).toInt = (N : Int) - 7 := by
  rw [Int32.toInt_sub, ti N (by omega), (by decide : (7 : Int32).toInt = 7)]
  unfold Int.bmod
  rw [show ((2 ^ 32 : Nat) : Int) = 4294967296 from rfl]
  dsimp only
  split <;> omega
theorem d33 : decode code 33 = .ok (.tableswitch 1091 0 25 #[119, 162, 195, 228, 281, 294, 317, 330, 343, 356, 419, 452, 475, 499, 592, 655, 678, 721, 774, 827, 850, 925, 978, 1011, 1054, 1077], 119) := by decide +kernel
section LT
variable {p : Program} {l : Launch} {e : Env} {s : State} {m : MethodId} {below : List Frame} {meth : Method} {c : Code} {b N : Nat} {xs : Nat → Int32} {Z : State → Prop}
theorem l_law (F : LwA p s m c b N xs) (hN : N ≤ 3584) (hend : ∀ i h, T p l e s m below meth c b Z 1130 i [] h) : ∀ n k A B S, N + 7 ≤ k + n → k ≤ N + 7 → ivS S → RCs A B S → RMs A B S → T p l e s m below meth c b Z 18 (nI k) [] (hp A B) := by
  intro n
  induction n with
  | zero =>
    intro k A B S hn hk hI hA hM
    refine tw_iload3 F (by decide +kernel) (tw_aload0 F (by decide +kernel) (tw_alen F (by decide +kernel) (tw_bipush (n := 7) 7 F (by decide +kernel) (by decide) (tw_isub F (by decide +kernel) (tw_igt (off := 1106) 1130 F (by decide +kernel) (by decide) (fun _ => hend _ _) (fun hq => ?_))))))
    exact absurd (show nI N - 7 < nI k by rw [i_lt, sub7 hN, ti k (by omega)]; omega) hq
  | succ n ih =>
    intro k A B S hn hk hI hA hM
    refine tw_iload3 F (by decide +kernel) (tw_aload0 F (by decide +kernel) (tw_alen F (by decide +kernel) (tw_bipush (n := 7) 7 F (by decide +kernel) (by decide) (tw_isub F (by decide +kernel) (tw_igt (off := 1106) 1130 F (by decide +kernel) (by decide) (fun _ => hend _ _) (fun hq => ?_))))))
    have h7 : k + 7 ≤ N := by
      rw [i_lt, sub7 hN, ti k (by omega)] at hq
      omega
    have K : CsK p l e s m below meth c b Z k := fun A B S hI hA hM => by
      refine tw_iinc (n := 7) (j := nI (k + 7)) F (by decide +kernel) (by rw [show Int32.ofInt 7 = nI 7 by decide, nI_add]) ?_
      refine tw_goto (off := -1109) 18 F (by decide +kernel) (by decide) ?_
      exact ih (k + 7) A B S (by omega) (by omega) hI hA hM
    refine tw_aload0 F (by decide +kernel) (tw_iload3 F (by decide +kernel) (tw_iaload F (vp_in_nI (by omega) (by omega)) (by decide +kernel) (tw_bipush (n := 31) 31 F (by decide +kernel) (by decide) (tw_iand F (by decide +kernel) ?_))))
    obtain ⟨w, hw, ew⟩ := and31 (xs (nI k).toNatClampNeg)
    rw [ew]
    have tw := ti w (by omega)
    match w, hw, tw with
    | 0, _, tw => exact tw_sw (tgt := 152) 0 tw F d33 (by decide) (cs_0 F h7 hN hI hA hM K)
    | 1, _, tw => exact tw_sw (tgt := 195) 1 tw F d33 (by decide) (cs_1 F h7 hN hI hA hM K)
    | 2, _, tw => exact tw_sw (tgt := 228) 2 tw F d33 (by decide) (cs_2 F h7 hN hI hA hM K)
    | 3, _, tw => exact tw_sw (tgt := 261) 3 tw F d33 (by decide) (cs_3 F h7 hN hI hA hM K)
    | 4, _, tw => exact tw_sw (tgt := 314) 4 tw F d33 (by decide) (cs_4 F h7 hN hI hA hM K)
    | 5, _, tw => exact tw_sw (tgt := 327) 5 tw F d33 (by decide) (cs_5 F h7 hN hI hA hM K)
    | 6, _, tw => exact tw_sw (tgt := 350) 6 tw F d33 (by decide) (cs_6 F h7 hN hI hA hM K)
    | 7, _, tw => exact tw_sw (tgt := 363) 7 tw F d33 (by decide) (cs_7 F h7 hN hI hA hM K)
    | 8, _, tw => exact tw_sw (tgt := 376) 8 tw F d33 (by decide) (cs_8 F h7 hN hI hA hM K)
    | 9, _, tw => exact tw_sw (tgt := 389) 9 tw F d33 (by decide) (cs_9 F h7 hN hI hA hM K)
    | 10, _, tw => exact tw_sw (tgt := 452) 10 tw F d33 (by decide) (cs_10 F h7 hN hI hA hM K)
    | 11, _, tw => exact tw_sw (tgt := 485) 11 tw F d33 (by decide) (cs_11 F h7 hN hI hA hM K)
    | 12, _, tw => exact tw_sw (tgt := 508) 12 tw F d33 (by decide) (cs_12 F h7 hN hI hA hM K)
    | 13, _, tw => exact tw_sw (tgt := 532) 13 tw F d33 (by decide) (cs_13 F h7 hN hI hA hM K)
    | 14, _, tw => exact tw_sw (tgt := 625) 14 tw F d33 (by decide) (cs_14 F h7 hN hI hA hM K)
    | 15, _, tw => exact tw_sw (tgt := 688) 15 tw F d33 (by decide) (cs_15 F h7 hN hI hA hM K)
    | 16, _, tw => exact tw_sw (tgt := 711) 16 tw F d33 (by decide) (cs_16 F h7 hN hI hA hM K)
    | 17, _, tw => exact tw_sw (tgt := 754) 17 tw F d33 (by decide) (cs_17 F h7 hN hI hA hM K)
    | 18, _, tw => exact tw_sw (tgt := 807) 18 tw F d33 (by decide) (cs_18 F h7 hN hI hA hM K)
    | 19, _, tw => exact tw_sw (tgt := 860) 19 tw F d33 (by decide) (cs_19 F h7 hN hI hA hM K)
    | 20, _, tw => exact tw_sw (tgt := 883) 20 tw F d33 (by decide) (cs_20 F h7 hN hI hA hM K)
    | 21, _, tw => exact tw_sw (tgt := 958) 21 tw F d33 (by decide) (cs_21 F h7 hN hI hA hM K)
    | 22, _, tw => exact tw_sw (tgt := 1011) 22 tw F d33 (by decide) (cs_22 F h7 hN hI hA hM K)
    | 23, _, tw => exact tw_sw (tgt := 1044) 23 tw F d33 (by decide) (cs_23 F h7 hN hI hA hM K)
    | 24, _, tw => exact tw_sw (tgt := 1087) 24 tw F d33 (by decide) (cs_24 F h7 hN hI hA hM K)
    | 25, _, tw => exact tw_sw (tgt := 1110) 25 tw F d33 (by decide) (cs_25 F h7 hN hI hA hM K)
    | 26, _, tw => exact tw_sw (tgt := 1124) 26 tw F d33 (by decide) (K A B S hI hA hM)
    | 27, _, tw => exact tw_sw (tgt := 1124) 27 tw F d33 (by decide) (K A B S hI hA hM)
    | 28, _, tw => exact tw_sw (tgt := 1124) 28 tw F d33 (by decide) (K A B S hI hA hM)
    | 29, _, tw => exact tw_sw (tgt := 1124) 29 tw F d33 (by decide) (K A B S hI hA hM)
    | 30, _, tw => exact tw_sw (tgt := 1124) 30 tw F d33 (by decide) (K A B S hI hA hM)
    | 31, _, tw => exact tw_sw (tgt := 1124) 31 tw F d33 (by decide) (K A B S hI hA hM)
    | z + 32, hz, _ => exact absurd hz (by omega)
theorem law_end (F : LwA p s m c b N xs) (hret : ∀ H ls, W p l e room_1 s m #[Value.ref b] below meth c H [] 600000 7302250 Z (F0 m 1131 ls [.int 1])) (i : Int32) (h : AH) : T p l e s m below meth c b Z 1130 i [] h := by
  refine tw_iconst (n := 1) 1 F (by decide +kernel) (by decide) ?_
  intro D G H ls lo I hS h0 h1 hl
  exact va_forget I.2.2.2.2.1.2.2 (hret H ls)
end LT
