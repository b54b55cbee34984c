def ocat (o : Option AV) : Nat := match o with
  | none => 1
  | some x => acat x
theorem ocat_sum {b : Nat} {G : Gh} : ∀ S : List (Option AV), ((S.map (sv b G)).map fun z => z.category).sum = (S.map ocat).sum := fun S => by
  rw [List.map_map]
  congr 1
  refine List.map_congr_left (fun o _ => ?_)
  cases o with
  | none => rfl
  | some x => exact acat_cv
theorem cls13 (z : Nat) (h13 : z < 13) : ∃ T N, cls[z]? = some (cnm z, T, N) := by
  match z, h13 with
  | 0, _ => exact ⟨_, _, rfl⟩
  | 1, _ => exact ⟨_, _, rfl⟩
  | 2, _ => exact ⟨_, _, rfl⟩
  | 3, _ => exact ⟨_, _, rfl⟩
  | 4, _ => exact ⟨_, _, rfl⟩
  | 5, _ => exact ⟨_, _, rfl⟩
  | 6, _ => exact ⟨_, _, rfl⟩
  | 7, _ => exact ⟨_, _, rfl⟩
  | 8, _ => exact ⟨_, _, rfl⟩
  | 9, _ => exact ⟨_, _, rfl⟩
  | 10, _ => exact ⟨_, _, rfl⟩
  | 11, _ => exact ⟨_, _, rfl⟩
  | 12, _ => exact ⟨_, _, rfl⟩
  | n + 13, hh => exact absurd hh (by omega)
section LT
variable {p : Program} {l : Launch} {e : Env} {s : State} {m : MethodId} {below : List Frame} {meth : Method} {c : Code} {b N : Nat} {xs : Nat → Int32} {Z : State → Prop} {pc : Nat} {i : Int32} {S S0 : List (Option AV)} {h : AH}
theorem tw_callb {n idx d2 kc2 ks2 : Nat} {mt2 : MI} (F : LwA p s m c b N xs) (hc : CB mt2 n) (hl : Cond.methodLink RL idx mt2.1.1 ∈ TW) (hd : d2 ≤ 14) : CallB room_1 s #[Value.ref b] RL idx mt2.1.1 mt2.1.2.1 mt2.1.2.2.1 mt2.1.2.2.2 (.code mt2.1.1 mt2.1.2.1 mt2.1.2.2.1 mt2.1.2.2.2 :: TW) (rmv d2 kc2 ks2) kc2 ks2 n := by
  obtain ⟨hm2, hini, hd3, hmx⟩ := hc
  exact callB_of n F.2.2.2.2.1 (goodIn_TW (List.forall_mem_cons.mpr ⟨hm2.2.2.1, fun _ h => h⟩)) rfl rfl rfl (F.2.2.2.2.1 _ hini) (F.2.2.2.2.1 _ hl) hd3 ⟨by show d2 + 1 ≤ 2048; omega, by show 8 + (mt2.1.2.2.1 + 11) + 64 * d2 ≤ 84000; omega⟩
theorem tw_calln {n idx d2 kc2 ks2 : Nat} {mt2 : MI} {host : String} {D : va_G} {G : Gh} (F : LwA p s m c b N xs) (hKn : Kn D G s) (hc : CB mt2 n) (hl : Cond.methodLinkNest RL idx mt2.1.1 host ∈ NW) (hd : d2 ≤ 14) : va_CN room_1 s #[Value.ref b] RL idx mt2.1.1 host mt2.1.2.1 mt2.1.2.2.1 mt2.1.2.2.2 (.code mt2.1.1 mt2.1.2.1 mt2.1.2.2.1 mt2.1.2.2.2 :: TW) (rmv d2 kc2 ks2) kc2 ks2 n := by
  obtain ⟨hm2, hini, hd3, hmx⟩ := hc
  exact va_cnB n F.2.2.2.2.1 (goodIn_TW (List.forall_mem_cons.mpr ⟨hm2.2.2.1, fun _ h => h⟩)) rfl rfl rfl (hKn.2.1 _ hl) (F.2.2.2.2.1 _ hini) hd3 ⟨by show d2 + 1 ≤ 2048; omega, by show 8 + (mt2.1.2.2.1 + 11) + 64 * d2 ≤ 84000; omega⟩
theorem tw_call {n idx g d2 k2 n2 : Nat} {mt2 : MI} {As : List AV} {Q1 : Option AV → AH → Prop} (F : LwA p s m c b N xs) (hdg : decode code pc = .ok (.invokevirtual idx, 3)) (hl : LK 15 idx mt2.1.1) (hM : MV d2 n mt2 (.inr (.inr (some (g, 0))) :: As) h Q1) (hs : S0 = As.reverse.map some ++ some (.inr (.inr (some (g, 0)))) :: S) (hn : As.length = n) (hk : kd g = (k2, n2)) (h13 : k2 < 13) (hcn : mt2.2.1 = k2) (hd : d2 ≤ 14) (hS8 : (S.map ocat).sum ≤ 8)
    (k : ∀ r h', Q1 r h' → T p l e s m below meth c b Z (pc + 3) i (r.toList.map some ++ S) h') : T p l e s m below meth c b Z pc i S0 h := by
  intro D G H ls lo I hS h0 h1 hlv
  obtain ⟨hc, hMM⟩ := hM
  subst hs; subst hcn
  obtain ⟨hKn, hA, hP, hD, hSS, hSh, hE⟩ := id I
  have hq : okv G (.inr (.inr (some (g, 0)))) := hS _ (List.mem_append_right _ List.mem_cons_self)
  have hSA : ∀ x ∈ (.inr (.inr (some (g, 0))) :: As : List AV), okv G x := ok_cs hq (fun x hx => hS x (List.mem_append_left _ (List.mem_map.mpr ⟨x, List.mem_reverse.mpr hx, rfl⟩)))
  have hSr : ∀ x, some x ∈ S → okv G x := fun x hx => hS x (List.mem_append_right _ (List.mem_cons_of_mem _ hx))
  have hstk : (As.reverse.map some ++ some (.inr (.inr (some (g, 0)))) :: S).map (sv b G) = (As.map (cv G.2.1)).reverse ++ .ref (G.2.1 (g, 0)) :: S.map (sv b G) := by
    rw [List.map_append, List.map_map, ← List.map_reverse]
    rfl
  rw [hstk]
  have hMl := hMM l D G H.size hSA
  obtain ⟨j, hj1, hj2⟩ := gw_at (h := h) (hq _ rfl)
  rw [cel_obj hk h13] at hj2
  obtain ⟨T2, N2, hcl⟩ : ∃ T N, cls[mt2.2.1]? = some (mt2.1.1.cls, T, N) := by
    rw [hc.1.1.2.1]
    exact cls13 _ h13
  have hpre : PreV s H mt2.1.1.cls (G.2.1 (g, 0)) (PcM D G H.size (.inr (.inr (some (g, 0))) :: As) h) (As.map (cv G.2.1)) := ⟨pc_blind, va_recv hKn.1 hP hcl hj2, fun U hU hW => ⟨rfl, by rw [hU], kn_warm hW hKn, by rw [hU]; exact hP, hD.weaken (fun _ _ _ _ => trivial), hSh⟩⟩
  refine tw_back (a := (Value.ref (G.2.1 (g, 0)) :: As.map (cv G.2.1)).toArray) F I hSr h0 h1 hlv ?_ k
  have hW8 : 2 * (F0 m pc ls ((As.map (cv G.2.1)).reverse ++ .ref (G.2.1 (g, 0)) :: S.map (sv b G))).monitorRoom + ((S.map (sv b G)).map fun z => z.category).sum ≤ 8 := lv_room (by rw [ocat_sum]; exact hS8)
  have hts := F.2.2.2.2.1
  rcases hl with hl | ⟨host, hl⟩
  · exact va_runV ⟨F.1, F.2.1, F.2.2.1, F.2.2.2.1, hts⟩ hMl ⟨tw_callb F hc.1 hl hd, hts _ hc.2.1, hts _ hc.2.2⟩ hpre rfl (by rw [List.length_map]; exact hn) hlv.1 rfl hW8 hdg ⟨Nat.le_refl _, Nat.le_refl _⟩
  · exact va_runVN ⟨F.1, F.2.1, F.2.2.1, F.2.2.2.1, hts⟩ hMl ⟨tw_calln F hKn hc.1 hl hd, hts _ hc.2.1, hts _ hc.2.2⟩ hpre rfl (by rw [List.length_map]; exact hn) hlv.1 rfl hW8 hdg ⟨Nat.le_refl _, Nat.le_refl _⟩
end LT
