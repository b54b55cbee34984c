theorem cv_ext {G G' : Gh} (hE : Ext G G') {x : AV} (hx : okv G x) : cv G'.2.1 x = cv G.2.1 x := by
  rcases x with y | y | r
  · rfl
  · rfl
  · cases r with
    | none => rfl
    | some q => simp [cv, (hE q (hx q rfl)).2]
theorem okv_ext {G G' : Gh} (hE : Ext G G') {x : AV} (hx : okv G x) : okv G' x := fun q e => (hE q (hx q e)).1
theorem map_ext {G G' : Gh} (hE : Ext G G') {S : List AV} (hS : ∀ x ∈ S, okv G x) : S.map (cv G'.2.1) = S.map (cv G.2.1) := List.map_congr_left (fun x hx => cv_ext hE (hS x hx))
theorem lpos_ext {G G' : Gh} (hE : Ext G G') : ∀ {L : List (Option AV)} {b : Nat}, (∀ x, some x ∈ L → okv G x) → lpos G'.2.1 b L = lpos G.2.1 b L := by
  intro L
  induction L with
  | nil => intro b _; rfl
  | cons o t ih =>
    intro b hL
    have h1 := ih (b := b + 1) (fun x hx => hL x (List.mem_cons_of_mem _ hx))
    cases o with
    | none => exact h1
    | some w =>
      simp only [lpos]
      rw [h1, cv_ext hE (hL w List.mem_cons_self)]
theorem ext_rf {G : Gh} : Ext G G := fun _ h => ⟨h, rfl⟩
theorem ext_tr {G G1 G2 : Gh} (a : Ext G G1) (b : Ext G1 G2) : Ext G G2 := fun q h => ⟨(b q (a q h).1).1, ((b q (a q h).1).2).trans (a q h).2⟩
/-- what every callee shows: its class is there, its parameters are n -/
def CB (mt2 : MI) (n : Nat) : Prop := MOK mt2 ∧ Cond.initialized mt2.1.1.cls ∈ TW ∧ (mt2.1.1.cls ≠ "java/lang/invoke/MethodHandle" ∧ mt2.1.1.cls ≠ "java/lang/invoke/VarHandle" ∧ (parseMethodDescriptor mt2.1.1.desc).map (fun d => d.parameters.length) = some n) ∧ mt2.1.2.2.1 ≤ 45
def CV (mt2 : MI) (n : Nat) : Prop := CB mt2 n ∧ Cond.instanceMethod mt2.1.1 ∈ TW ∧ Cond.selects mt2.1.1.cls mt2.1.1 mt2.1.1 ∈ TW
def CS (mt2 : MI) (n : Nat) : Prop := CB mt2 n ∧ Cond.static mt2.1.1 ∈ TW
def CI (mt2 : MI) (n : Nat) : Prop := CB mt2 n ∧ Cond.instanceMethod mt2.1.1 ∈ TW ∧ mt2.1.1.name = "<init>" ∧ mt2.1.2.2.2 = none
/-- the class k's pool entry idx names the method y -/
def LK (k idx : Nat) (y : MethodName) : Prop := Cond.methodLink (cnm k) idx y ∈ TW ∨ ∃ host, Cond.methodLinkNest (cnm k) idx y host ∈ NW
def acat (x : AV) : Nat := bif isL (some x) then 2 else 1
theorem acat_cv {ad : Nat × Nat → Nat} {x : AV} : (cv ad x).category = acat x := by
  rcases x with y | y | r
  · rfl
  · rfl
  · cases r <;> rfl
theorem acat_sum {ad : Nat × Nat → Nat} {S : List AV} : ((S.map (cv ad)).map fun z => z.category).sum = (S.map acat).sum := by
  rw [List.map_map]
  congr 1
  exact List.map_congr_left (fun x _ => acat_cv)
section RC
variable {d kc ks u v d2 kc2 ks2 : Nat} {mt mt2 : MI} {pc nx tg : Nat} {k0 : Int32} {L : List (Option AV)} {S S0 As : List AV} {h : AH} {Q Q1 : Option AV → AH → Prop}
abbrev PcM (D : va_G) (G : Gh) (sz : Nat) (As : List AV) (h : AH) : Array Value → State → Prop := fun w U => w = (As.map (cv G.2.1)).toArray ∧ U.heap.size = sz ∧ Kn D G U ∧ va_P D cls (gw G h) U.heap ∧ va_D (fun _ => True) (gw G h) ∧ Shp G h
theorem pc_blind {D : va_G} {G : Gh} {sz : Nat} : FrameBlind (PcM D G sz As h) := by
  intro a U g mk q
  obtain ⟨q0, q1, ⟨k1, k2, k3, k4⟩, qP, qD, qS⟩ := q
  exact ⟨q0, q1, ⟨va_K.moved (u := U) (U := U.calling g mk a) (Vm.Alike.refl U.vm) k1, fun w hw => NW_same (s := U) (U := U.calling g mk a) rfl w hw (k2 w hw), va_AO.moved (u := U) (U := U.calling g mk a) (Vm.Alike.refl U.vm) k3, va_AO.moved (u := U) (U := U.calling g mk a) (Vm.Alike.refl U.vm) k4⟩, qP, qD, qS⟩
theorem kn_warm {D : va_G} {G : Gh} {s U : State} (hW : s.WarmedH U.vm) (h : Kn D G s) : Kn D G U := ⟨va_K.moved hW.alike h.1, fun w hw => NW_warm hW w hw (h.2.1 w hw), h.2.2.1.moved hW.alike, h.2.2.2.moved hW.alike⟩
/-- behind a call -/
theorem call_go {l : Launch} {p : Program} {e : Env} {s : State} {m : MethodId} {args : Array Value} {below : List Frame} {meth : Method} {c : Code} {A : Nat → Prop} {D : va_G} {G0 G : Gh} {H : Heap} {locs : List Loc} {ls : Array Slot} {st0 : List Value} {a : Array Value}
    (F : Fx mt p s m args meth c) (I : Iv A D G0 G h s H locs) (hS : ∀ x ∈ S, okv G x) (hL : ∀ x, some x ∈ L → okv G x) (hl : lv_has ls mt.1.2.2.1 (lpos G.2.1 0 L))
    (hr : va_Run p l e (rmv d kc ks) s m args below meth c H locs u v kc2 ks2 (F0 m pc ls st0) (S.map (cv G.2.1)) (Qp Q1 D G (va_A (gw G h) H.size) a) (va_A (gw G h) H.size))
    (k : ∀ r h', Q1 r h' → R d kc ks (u + kc2) (v + ks2) mt (pc + 3) L (r.toList ++ S) h' Q) : W p l e (rmv d kc ks) s m args below meth c H locs u v (MQ below (Qp Q D G0 A) args s kc ks A) (F0 m pc ls st0) := by
  intro T hT X
  obtain ⟨w, st₀, t, T', L', h0, X', hL', e1, e2, ⟨⟨r, h', G', hv, hq, hok, hK', hP', hD', hSh', hE'⟩, hz, hk⟩, st⟩ := hr T hT X
  cases hv
  rw [h0] at hz hk
  obtain ⟨hKn, hA, hP, hD, hSS, hSh, hE⟩ := id I
  have hF : ∀ q, va_A (gw G h) H.size q → A q := by
    intro q hq
    rcases hq with ⟨j, e0, hj⟩ | hq
    · exact hD.2 j _ hj
    · exact hA q (Nat.le_trans hSS.1 hq)
  have hvm : s.vm.Alike t.vm := by rw [← e2]; exact X'.warmed.alike
  have hSS' : va_S A s.heap T'.heap (locs ++ L') := by
    refine ⟨Nat.le_trans hSS.1 (by rw [e1]; exact hz), fun q h1 h2 => ?_, fun q hq => ?_⟩
    · rw [e1, hk q (Nat.lt_of_lt_of_le h1 hSS.1) (fun z => h2 (hF q z))]
      exact hSS.2.1 q h1 h2
    · rcases List.mem_append.mp hq with h | h
      · exact hSS.2.2 q h
      · exact hF _ (hL' q h)
  have hR := k r h' hq l p e s m args below meth c A D G0 G' T'.heap (locs ++ L') ls F
    ⟨⟨va_K.moved hvm.symm hK'.1, hKn.2.1, hKn.2.2.1, hKn.2.2.2⟩, hA, by rw [e1]; exact hP', hD'.weaken (fun j q hj => hF _), hSS', hSh', ext_tr hE hE'⟩
    (fun x hx => by
      rcases List.mem_append.mp hx with h | h
      · exact hok x (by cases r with
          | none => cases h
          | some y => simp at h; rw [h])
      · exact okv_ext hE' (hS x h))
    (fun x hx => okv_ext hE' (hL x hx)) (by rw [lpos_ext hE' hL]; exact hl)
  obtain ⟨t2, a1, b1⟩ := hR T' rfl X'
  refine ⟨t2, st t2 ?_, b1⟩
  have hst : (r.toList ++ S).map (cv G'.2.1) = (r.map (cv G'.2.1)).toList ++ S.map (cv G.2.1) := by
    rw [List.map_append, map_ext hE' hS]
    cases r <;> rfl
  rw [hst] at a1
  exact a1
theorem callb {p : Program} {s : State} {m : MethodId} {args : Array Value} {meth : Method} {c : Code} {idx n : Nat} (F : Fx mt p s m args meth c) (hc : CB mt2 n) (hl : Cond.methodLink (cnm mt.2.1) idx mt2.1.1 ∈ TW) (hd : d2 + 1 ≤ d) : CallB (rmv d kc ks) s args (cnm mt.2.1) idx mt2.1.1 mt2.1.2.1 mt2.1.2.2.1 mt2.1.2.2.2 (.code mt2.1.1 mt2.1.2.1 mt2.1.2.2.1 mt2.1.2.2.2 :: TW) (rmv d2 kc2 ks2) kc2 ks2 n := by
  obtain ⟨hm, hx, hb, hr, hml, hown, hts, hlk, hnm⟩ := id F
  obtain ⟨hm2, hini, hd3, hmx⟩ := hc
  exact callB_of n hts (goodIn_TW (List.forall_mem_cons.mpr ⟨hm2.2.2.1, fun _ h => h⟩)) rfl rfl rfl (hts _ hini) (hts _ hl) hd3 ⟨hd, by show 8 + (mt2.1.2.2.1 + 11) + 64 * d2 ≤ 64 * d; omega⟩
theorem calln {p : Program} {s : State} {m : MethodId} {args : Array Value} {meth : Method} {c : Code} {idx n : Nat} {host : String} {D : va_G} {G : Gh} (F : Fx mt p s m args meth c) (hKn : Kn D G s) (hc : CB mt2 n) (hl : Cond.methodLinkNest (cnm mt.2.1) idx mt2.1.1 host ∈ NW) (hd : d2 + 1 ≤ d) : va_CN (rmv d kc ks) s args (cnm mt.2.1) idx mt2.1.1 host mt2.1.2.1 mt2.1.2.2.1 mt2.1.2.2.2 (.code mt2.1.1 mt2.1.2.1 mt2.1.2.2.1 mt2.1.2.2.2 :: TW) (rmv d2 kc2 ks2) kc2 ks2 n := by
  obtain ⟨hm, hx, hb, hr, hml, hown, hts, hlk, hnm⟩ := id F
  obtain ⟨hm2, hini, hd3, hmx⟩ := hc
  exact va_cnB n hts (goodIn_TW (List.forall_mem_cons.mpr ⟨hm2.2.2.1, fun _ h => h⟩)) rfl rfl rfl (hKn.2.1 _ hl) (hts _ hini) hd3 ⟨hd, by show 8 + (mt2.1.2.2.1 + 11) + 64 * d2 ≤ 64 * d; omega⟩
theorem s_static {idx n : Nat} (hp : mt.2.2 pc = some (.invokestatic idx, 3, nx, tg, k0)) (hl : LK mt.2.1 idx mt2.1.1) (hc : CS mt2 n) (hM : M d2 kc2 ks2 mt2 As h Q1) (hs : S0 = As.reverse ++ S) (hn : As.length = n) (hd : d2 + 1 ≤ d) (hu : u + kc2 ≤ kc ∧ v + ks2 ≤ ks) (hS8 : (S.map acat).sum ≤ 8)
    (k : ∀ r h', Q1 r h' → R d kc ks (u + kc2) (v + ks2) mt nx L (r.toList ++ S) h' Q) : R d kc ks u v mt pc L S0 h Q := by
  intro l p e s m args below meth c A D G0 G H locs ls F I hS hL hlv
  obtain ⟨hm, hx, hb, hr, hml, hown, hts, hlk, hnm⟩ := id F
  obtain ⟨hdg, hnx, htg, hck⟩ := hm.1 _ _ _ _ _ _ hp
  subst hnx; subst hs
  obtain ⟨hKn, hA, hP, hD, hSS, hSh, hE⟩ := id I
  have hSA : ∀ x ∈ As, okv G x := fun x hx => hS x (List.mem_append_left _ (List.mem_reverse.mpr hx))
  have hSr : ∀ x ∈ S, okv G x := fun x hx => hS x (List.mem_append_right _ hx)
  have hstk : (As.reverse ++ S).map (cv G.2.1) = (As.map (cv G.2.1)).reverse ++ S.map (cv G.2.1) := by rw [List.map_append, List.map_reverse]
  rw [hstk]
  have hMl := hM l D G H.size hSA
  have hpre : PreS s H (PcM D G H.size As h) (As.map (cv G.2.1)) := ⟨pc_blind, fun U hU hW => ⟨rfl, by rw [hU], kn_warm hW hKn, by rw [hU]; exact hP, hD.weaken (fun _ _ _ _ => trivial), hSh⟩⟩
  refine call_go (a := (As.map (cv G.2.1)).toArray) F I hSr hL hlv ?_ k
  have hW8 : 2 * (F0 m pc ls ((As.map (cv G.2.1)).reverse ++ S.map (cv G.2.1))).monitorRoom + ((S.map (cv G.2.1)).map fun z => z.category).sum ≤ 8 := lv_room (by rw [acat_sum]; exact hS8)
  rcases hl with hl | ⟨host, hl⟩
  · exact va_runS ⟨hx, hb, hml, hown, hts⟩ hMl ⟨callb F hc.1 hl hd, hts _ hc.2⟩ hpre rfl (by rw [List.length_map]; exact hn) hlv.1 rfl hW8 hdg hu
  · exact va_runSN ⟨hx, hb, hml, hown, hts⟩ hMl ⟨calln F hKn hc.1 hl hd, hts _ hc.2, trivial⟩ hpre rfl (by rw [List.length_map]; exact hn) hlv.1 rfl hW8 hdg hu
theorem s_virtual {idx n g i k2 n2 : Nat} (hp : mt.2.2 pc = some (.invokevirtual idx, 3, nx, tg, k0)) (hl : LK mt.2.1 idx mt2.1.1) (hc : CV mt2 n) (hM : M d2 kc2 ks2 mt2 (.inr (.inr (some (g, i))) :: As) h Q1) (hs : S0 = As.reverse ++ .inr (.inr (some (g, i))) :: S) (hn : As.length = n) (hk : kd g = (k2, n2)) (h13 : k2 < 13) (hcn : mt2.2.1 = k2) (hd : d2 + 1 ≤ d) (hu : u + kc2 ≤ kc ∧ v + ks2 ≤ ks) (hS8 : (S.map acat).sum ≤ 8)
    (k : ∀ r h', Q1 r h' → R d kc ks (u + kc2) (v + ks2) mt nx L (r.toList ++ S) h' Q) : R d kc ks u v mt pc L S0 h Q := by
  intro l p e s m args below meth c A D G0 G H locs ls F I hS hL hlv
  obtain ⟨hm, hx, hb, hr, hml, hown, hts, hlk, hnm⟩ := id F
  obtain ⟨hdg, hnx, htg, hck⟩ := hm.1 _ _ _ _ _ _ hp
  subst hnx; subst hs; subst hcn
  obtain ⟨hKn, hA, hP, hD, hSS, hSh, hE⟩ := id I
  have hq : okv G (.inr (.inr (some (g, i)))) := hS _ (List.mem_append_right _ List.mem_cons_self)
  have hSA : ∀ x ∈ (.inr (.inr (some (g, i))) :: As : List AV), okv G x := ok_cs hq (fun x hx => hS x (List.mem_append_left _ (List.mem_reverse.mpr hx)))
  have hSr : ∀ x ∈ S, okv G x := fun x hx => hS x (List.mem_append_right _ (List.mem_cons_of_mem _ hx))
  have hstk : (As.reverse ++ .inr (.inr (some (g, i))) :: S).map (cv G.2.1) = (As.map (cv G.2.1)).reverse ++ .ref (G.2.1 (g, i)) :: S.map (cv G.2.1) := by rw [List.map_append, List.map_reverse]; rfl
  rw [hstk]
  have hMl := hM l D G H.size hSA
  obtain ⟨j, hj1, hj2⟩ := gw_at (h := h) (hq _ rfl)
  rw [cel_obj hk h13] at hj2
  obtain ⟨T2, N2, hcl⟩ : ∃ T N, cls[mt2.2.1]? = some (mt2.1.1.cls, T, N) := by
    rw [hc.1.1.2.1]
    generalize mt2.2.1 = z at h13
    match z, h13 with
    | 0, _ => exact ⟨_, _, rfl⟩
    | 1, _ => exact ⟨_, _, rfl⟩
    | 2, _ => exact ⟨_, _, rfl⟩
    | 3, _ => exact ⟨_, _, rfl⟩
    | 4, _ => exact ⟨_, _, rfl⟩
    | 5, _ => exact ⟨_, _, rfl⟩
    | 6, _ => exact ⟨_, _, rfl⟩
    | 7, _ => exact ⟨_, _, rfl⟩
    | 8, _ => exact ⟨_, _, rfl⟩
    | 9, _ => exact ⟨_, _, rfl⟩
    | 10, _ => exact ⟨_, _, rfl⟩
    | 11, _ => exact ⟨_, _, rfl⟩
    | 12, _ => exact ⟨_, _, rfl⟩
    | n + 13, hh => exact absurd hh (by omega)
  have hpre : PreV s H mt2.1.1.cls (G.2.1 (g, i)) (PcM D G H.size (.inr (.inr (some (g, i))) :: As) h) (As.map (cv G.2.1)) := ⟨pc_blind, va_recv hKn.1 hP hcl hj2, fun U hU hW => ⟨rfl, by rw [hU], kn_warm hW hKn, by rw [hU]; exact hP, hD.weaken (fun _ _ _ _ => trivial), hSh⟩⟩
  refine call_go (a := (Value.ref (G.2.1 (g, i)) :: As.map (cv G.2.1)).toArray) F I hSr hL hlv ?_ k
  have hW8 : 2 * (F0 m pc ls ((As.map (cv G.2.1)).reverse ++ .ref (G.2.1 (g, i)) :: S.map (cv G.2.1))).monitorRoom + ((S.map (cv G.2.1)).map fun z => z.category).sum ≤ 8 := lv_room (by rw [acat_sum]; exact hS8)
  rcases hl with hl | ⟨host, hl⟩
  · exact va_runV ⟨hx, hb, hml, hown, hts⟩ hMl ⟨callb F hc.1 hl hd, hts _ hc.2.1, hts _ hc.2.2⟩ hpre rfl (by rw [List.length_map]; exact hn) hlv.1 rfl hW8 hdg hu
  · exact va_runVN ⟨hx, hb, hml, hown, hts⟩ hMl ⟨calln F hKn hc.1 hl hd, hts _ hc.2.1, hts _ hc.2.2⟩ hpre rfl (by rw [List.length_map]; exact hn) hlv.1 rfl hW8 hdg hu
theorem s_init {idx n g i : Nat} (hp : mt.2.2 pc = some (.invokespecial idx, 3, nx, tg, k0)) (hl : LK mt.2.1 idx mt2.1.1) (hc : CI mt2 n) (hM : M d2 kc2 ks2 mt2 (.inr (.inr (some (g, i))) :: As) h Q1) (hs : S0 = As.reverse ++ .inr (.inr (some (g, i))) :: S) (hn : As.length = n) (hd : d2 + 1 ≤ d) (hu : u + kc2 ≤ kc ∧ v + ks2 ≤ ks) (hS8 : (S.map acat).sum ≤ 8)
    (k : ∀ r h', Q1 r h' → R d kc ks (u + kc2) (v + ks2) mt nx L (r.toList ++ S) h' Q) : R d kc ks u v mt pc L S0 h Q := by
  intro l p e s m args below meth c A D G0 G H locs ls F I hS hL hlv
  obtain ⟨hm, hx, hb, hr, hml, hown, hts, hlk, hnm⟩ := id F
  obtain ⟨hdg, hnx, htg, hck⟩ := hm.1 _ _ _ _ _ _ hp
  subst hnx; subst hs
  obtain ⟨hKn, hA, hP, hD, hSS, hSh, hE⟩ := id I
  have hq : okv G (.inr (.inr (some (g, i)))) := hS _ (List.mem_append_right _ List.mem_cons_self)
  have hSA : ∀ x ∈ (.inr (.inr (some (g, i))) :: As : List AV), okv G x := ok_cs hq (fun x hx => hS x (List.mem_append_left _ (List.mem_reverse.mpr hx)))
  have hSr : ∀ x ∈ S, okv G x := fun x hx => hS x (List.mem_append_right _ (List.mem_cons_of_mem _ hx))
  have hstk : (As.reverse ++ .inr (.inr (some (g, i))) :: S).map (cv G.2.1) = (As.map (cv G.2.1)).reverse ++ .ref (G.2.1 (g, i)) :: S.map (cv G.2.1) := by rw [List.map_append, List.map_reverse]; rfl
  rw [hstk]
  have hMl := hM l D G H.size hSA
  have hpre : PreS s H (PcM D G H.size (.inr (.inr (some (g, i))) :: As) h) (.ref (G.2.1 (g, i)) :: As.map (cv G.2.1)) := ⟨pc_blind, fun U hU hW => ⟨rfl, by rw [hU], kn_warm hW hKn, by rw [hU]; exact hP, hD.weaken (fun _ _ _ _ => trivial), hSh⟩⟩
  refine call_go (a := (Value.ref (G.2.1 (g, i)) :: As.map (cv G.2.1)).toArray) F I hSr hL hlv ?_ k
  have hW8 : 2 * (F0 m pc ls ((As.map (cv G.2.1)).reverse ++ .ref (G.2.1 (g, i)) :: S.map (cv G.2.1))).monitorRoom + ((S.map (cv G.2.1)).map fun z => z.category).sum ≤ 8 := lv_room (by rw [acat_sum]; exact hS8)
  obtain ⟨hc1, hc2, hc3, hc4⟩ := hc
  rcases hl with hl | ⟨host, hl⟩
  · have hcb := callb (kc := kc) (ks := ks) (kc2 := kc2) (ks2 := ks2) F hc1 hl hd
    rw [hc4] at hcb hMl
    exact va_runI ⟨hx, hb, hml, hown, hts⟩ hMl ⟨hcb, hc3, hts _ hc2⟩ hpre rfl (by rw [List.length_map]; exact hn) hlv.1 rfl hW8 hdg hu
  · have hcb := calln (kc := kc) (ks := ks) (kc2 := kc2) (ks2 := ks2) F hKn hc1 hl hd
    rw [hc4] at hcb hMl
    exact va_runIN ⟨hx, hb, hml, hown, hts⟩ hMl ⟨hcb, hc3, hts _ hc2⟩ hpre rfl (by rw [List.length_map]; exact hn) hlv.1 rfl hW8 hdg hu
end RC
