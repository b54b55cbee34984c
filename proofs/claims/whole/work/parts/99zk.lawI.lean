theorem nkX15_7 : NOK 15 7 11 15 := ⟨TX11, rfl, inX11, tyX11_ok, (wt1 17 (by decide +kernel) (by decide +kernel)), (wt1 18 (by decide +kernel) (by decide +kernel)), (wt1 1 (by decide +kernel) (by decide +kernel)), fun j hj => by
  match j, hj with
  | 0, _ => rfl
  | 1, _ => rfl
  | 2, _ => rfl
  | 3, _ => rfl
  | 4, _ => rfl
  | 5, _ => rfl
  | 6, _ => rfl
  | 7, _ => rfl
  | 8, _ => rfl
  | 9, _ => rfl
  | 10, _ => rfl
  | 11, _ => rfl
  | 12, _ => rfl
  | 13, _ => rfl
  | 14, _ => rfl
  | z + 15, hz => exact absurd hz (by omega)⟩
theorem nkX15_10 : NOK 15 10 12 72 := ⟨TX12, rfl, inX12, tyX12_ok, (wt5 72 (by decide +kernel) (by decide +kernel)), (wt5 73 (by decide +kernel) (by decide +kernel)), (wt1 13 (by decide +kernel) (by decide +kernel)), fun j hj => by
  match j, hj with
  | 0, _ => rfl
  | 1, _ => rfl
  | 2, _ => rfl
  | 3, _ => rfl
  | 4, _ => rfl
  | 5, _ => rfl
  | 6, _ => rfl
  | 7, _ => rfl
  | 8, _ => rfl
  | 9, _ => rfl
  | 10, _ => rfl
  | 11, _ => rfl
  | 12, _ => rfl
  | 13, _ => rfl
  | 14, _ => rfl
  | 15, _ => rfl
  | 16, _ => rfl
  | 17, _ => rfl
  | 18, _ => rfl
  | 19, _ => rfl
  | 20, _ => rfl
  | 21, _ => rfl
  | 22, _ => rfl
  | 23, _ => rfl
  | 24, _ => rfl
  | 25, _ => rfl
  | 26, _ => rfl
  | 27, _ => rfl
  | 28, _ => rfl
  | 29, _ => rfl
  | 30, _ => rfl
  | 31, _ => rfl
  | 32, _ => rfl
  | 33, _ => rfl
  | 34, _ => rfl
  | 35, _ => rfl
  | 36, _ => rfl
  | 37, _ => rfl
  | 38, _ => rfl
  | 39, _ => rfl
  | 40, _ => rfl
  | 41, _ => rfl
  | 42, _ => rfl
  | 43, _ => rfl
  | 44, _ => rfl
  | 45, _ => rfl
  | 46, _ => rfl
  | 47, _ => rfl
  | 48, _ => rfl
  | 49, _ => rfl
  | 50, _ => rfl
  | 51, _ => rfl
  | 52, _ => rfl
  | 53, _ => rfl
  | 54, _ => rfl
  | 55, _ => rfl
  | 56, _ => rfl
  | 57, _ => rfl
  | 58, _ => rfl
  | 59, _ => rfl
  | 60, _ => rfl
  | 61, _ => rfl
  | 62, _ => rfl
  | 63, _ => rfl
  | 64, _ => rfl
  | 65, _ => rfl
  | 66, _ => rfl
  | 67, _ => rfl
  | 68, _ => rfl
  | 69, _ => rfl
  | 70, _ => rfl
  | 71, _ => rfl
  | z + 72, hz => exact absurd hz (by omega)⟩
section LT
variable {p : Program} {l : Launch} {e : Env} {s : State} {m : MethodId} {below : List Frame} {meth : Method} {c : Code} {b N : Nat} {xs : Nat → Int32} {Z : State → Prop} {pc u v : Nat} {L : List (Option AV)} {S : List AV} {h : AH}
theorem u_init {idx g i d2 kc2 ks2 : Nat} {mt2 : MI} {Q1 : Option AV → AH → Prop} (F : LwA p s m c b N xs) (hdg : decode code pc = .ok (.invokespecial idx, 3)) (hl : LK 15 idx mt2.1.1) (hc : CI mt2 0) (hM : M d2 kc2 ks2 mt2 [.inr (.inr (some (g, i)))] h Q1) (hd : d2 ≤ 14) (hu : u + kc2 ≤ 600000 ∧ v + ks2 ≤ 7302250) (hS8 : (S.map acat).sum ≤ 8)
    (k : ∀ r h', Q1 r h' → U p l e s m below meth c b Z (u + kc2) (v + ks2) (pc + 3) L (r.toList ++ S) h') : U p l e s m below meth c b Z u v pc L (.inr (.inr (some (g, i))) :: S) h := by
  intro D G H ls lo I hS hL hlv
  obtain ⟨hKn, hA, hP, hD, hSS, hSh, hE⟩ := id I
  have hq : okv G (.inr (.inr (some (g, i)))) := ok_hd hS
  have hMl := hM l D G H.size (ok_cs hq (fun x hx => by cases hx))
  have hpre : PreS s H (PcM D G H.size [.inr (.inr (some (g, i)))] h) (.ref (G.2.1 (g, i)) :: ([] : List AV).map (cv G.2.1)) := ⟨pc_blind, fun U hU hW => ⟨rfl, by rw [hU], kn_warm hW hKn, by rw [hU]; exact hP, hD.weaken (fun _ _ _ _ => trivial), hSh⟩⟩
  refine u_back (a := (Value.ref (G.2.1 (g, i)) :: ([] : List AV).map (cv G.2.1)).toArray) I (ok_tl hS) hL hlv ?_ k
  have hW8 : 2 * (F0 m pc ls ((([] : List AV).map (cv G.2.1)).reverse ++ .ref (G.2.1 (g, i)) :: S.map (cv G.2.1))).monitorRoom + ((S.map (cv G.2.1)).map fun z => z.category).sum ≤ 8 := lv_room (by rw [acat_sum]; exact hS8)
  obtain ⟨hc1, hc2, hc3, hc4⟩ := hc
  have hts := F.2.2.2.2.1
  rcases hl with hl | ⟨host, hl⟩
  · have hcb := tw_callb (kc2 := kc2) (ks2 := ks2) F hc1 hl hd
    rw [hc4] at hcb hMl
    exact va_runI ⟨F.1, F.2.1, F.2.2.1, F.2.2.2.1, hts⟩ hMl ⟨hcb, hc3, hts _ hc2⟩ hpre rfl rfl hlv.1 rfl hW8 hdg hu
  · have hcb := tw_calln (kc2 := kc2) (ks2 := ks2) F hKn hc1 hl hd
    rw [hc4] at hcb hMl
    exact va_runIN ⟨F.1, F.2.1, F.2.2.1, F.2.2.2.1, hts⟩ hMl ⟨hcb, hc3, hts _ hc2⟩ hpre rfl rfl hlv.1 rfl hW8 hdg hu
theorem u_st1 {g i : Nat} (F : LwA p s m c b N xs) (hd : decode code pc = .ok (.astore_n 1, 1)) (k : U p l e s m below meth c b Z u v (pc + 1) [some (.inr (.inr (some (g, i)))), none, none] S h) : U p l e s m below meth c b Z u v pc [none, none, none] (.inr (.inr (some (g, i))) :: S) h := by
  intro D G H ls lo I hS hL hl
  refine lv_astore_n F.1 F.2.1 hd rfl hl (by decide) rfl (fun ls' hl' => k D G H ls' lo I (ok_tl hS) (fun x hx => ?_) ⟨hl'.1, hl'.2.1, fun q hq => hl'.2.2 q ?_⟩)
  · simp only [List.mem_cons, List.not_mem_nil, or_false, Option.some.injEq, reduceCtorEq] at hx
    subst hx
    exact ok_hd hS
  · simp only [lpos, List.mem_cons, List.not_mem_nil, or_false] at hq
    rcases hq with rfl | rfl
    · simp [lpos, Value.category]
    · exact List.mem_cons_self
theorem u_st2 {g i g1 i1 : Nat} (F : LwA p s m c b N xs) (hd : decode code pc = .ok (.astore_n 2, 1)) (k : U p l e s m below meth c b Z u v (pc + 1) [some (.inr (.inr (some (g1, i1)))), some (.inr (.inr (some (g, i)))), none] S h) : U p l e s m below meth c b Z u v pc [some (.inr (.inr (some (g1, i1)))), none, none] (.inr (.inr (some (g, i))) :: S) h := by
  intro D G H ls lo I hS hL hl
  refine lv_astore_n F.1 F.2.1 hd rfl hl (by decide) rfl (fun ls' hl' => k D G H ls' lo I (ok_tl hS) (fun x hx => ?_) ⟨hl'.1, hl'.2.1, fun q hq => hl'.2.2 q ?_⟩)
  · simp only [List.mem_cons, List.not_mem_nil, or_false, Option.some.injEq, reduceCtorEq] at hx
    rcases hx with rfl | rfl
    · exact hL _ List.mem_cons_self
    · exact ok_hd hS
  · simp only [lpos, List.mem_cons, List.not_mem_nil, or_false] at hq
    rcases hq with rfl | rfl | rfl
    · simp [lpos, Value.category]
    · simp [lpos, cv, va_rf, Value.category]
    · exact List.mem_cons_self
/-- all is made: the loop begins -/
theorem u_fin (F : LwA p s m c b N xs) (hu : u ≤ 600000) (hv : v ≤ 7302250) (k : T p l e s m below meth c b Z 18 (nI 0) [] (hp AE BE)) : U p l e s m below meth c b Z u v 16 [some (.inr (.inr (some (0, 0)))), some (.inr (.inr (some (31, 0)))), none] [] (cE, AE, BE, CE) := by
  intro D G H ls lo I hS hL hl
  have I1 : Iv (fre s) D G G (hp AE BE) s H lo := by
    rw [cE_eq] at I
    exact iv_sw (fun g i s hi hs => agE hi hs) I
  refine lv_iconst (v := nI 0) F.1 F.2.1 (n := 0) (by decide +kernel) (by decide) ?_
  refine lv_istore_n (k := 3) (i := 3) F.1 F.2.1 (by decide +kernel) rfl hl (by decide) rfl (fun ls' hl' => ?_)
  refine W.widen (k := 600000) (n := 7302250) hu hv ?_
  refine k D G H ls' lo I1 (fun x hx => by cases hx) (hL _ List.mem_cons_self _ rfl) (hL _ (List.mem_cons_of_mem _ List.mem_cons_self) _ rfl) ⟨hl'.1, hl'.2.1, fun q hq => hl'.2.2 q ?_⟩
  simp only [lll, List.mem_cons, List.not_mem_nil, or_false] at hq
  rcases hq with rfl | rfl | rfl | rfl <;> simp [lpos, cv, va_rf, Value.category]
end LT
