def clr {α : Type} (f : Nat → Nat → Nat → α) (g i : Nat) (x : α) : Nat → Nat → Nat → α := fun g' => if g' = g then (fun i' => if i' = i then (fun _ => x) else f g i') else f g'
/-- one more of the group g -/
def hnew (h : AH) (g : Nat) : AH := (fun z => if z = g then h.1 g + 1 else h.1 z, clr h.2.1 g (h.1 g) 0, clr h.2.2.1 g (h.1 g) 0, clr h.2.2.2 g (h.1 g) none)
def gnew (G : Gh) (q : Nat × Nat) (a : Nat) (cA : ClassId) (tys : List (ClassId × FieldType)) : Gh := (G.1 ++ [q], fun z => if z = q then a else G.2.1 z, fun z => if z = q then cA else G.2.2.1 z, tys)
theorem clr_ne {α : Type} {f : Nat → Nat → Nat → α} {g i : Nat} {x : α} {q : Nat × Nat} (hq : q ≠ (g, i)) : clr f g i x q.1 q.2 = f q.1 q.2 := by
  obtain ⟨a, b⟩ := q
  unfold clr
  by_cases h1 : a = g
  · subst h1
    have h2 : b ≠ i := fun e => hq (by rw [e])
    simp [h2]
  · simp [h1]
theorem clr_at {α : Type} {f : Nat → Nat → Nat → α} {g i : Nat} {x : α} {s : Nat} : clr f g i x g i s = x := by simp [clr]
theorem arrV_congr {cA : ClassId} {n : Nat} {f f' : Nat → Value} (h : ∀ j, j < n → f j = f' j) : arrV cA n f = arrV cA n f' := by
  unfold arrV
  congr 2
  funext j
  exact h j.val j.isLt
theorem q_new {G : Gh} {h : AH} {g : Nat} (hS : Shp G h) : (g, h.1 g) ∉ G.1 := fun hq => absurd ((hS.2.1 (g, h.1 g)).mp hq) (Nat.lt_irrefl _)
theorem gnew_ext {G : Gh} {q : Nat × Nat} {a : Nat} {cA : ClassId} {tys : List (ClassId × FieldType)} (hq : q ∉ G.1) : Ext G (gnew G q a cA tys) := fun z hz => ⟨List.mem_append_left _ hz, by
  have : z ≠ q := fun e => hq (e ▸ hz)
  simp [gnew, this]⟩
theorem ref_map {G : Gh} {h : AH} {q z : Nat × Nat} {a s : Nat} (hS : Shp G h) (hq : q ∉ G.1) (hz : z ∈ G.1) (hs : s < (kd z.1).2) : (h.2.2.2 z.1 z.2 s).map (fun y => if y = q then a else G.2.1 y) = (h.2.2.2 z.1 z.2 s).map G.2.1 := by
  cases hc : h.2.2.2 z.1 z.2 s with
  | none => rfl
  | some y =>
    have : y ≠ q := fun e => hq (e ▸ hS.2.2.1 z hz s hs y hc)
    simp [this]
theorem cel_new {D : va_G} {G : Gh} {h : AH} {g a : Nat} {cA : ClassId} {tys : List (ClassId × FieldType)} {z : Nat × Nat} {b : Nat} {H : Heap} (hS : Shp G h) (hz : z ∈ G.1) (hat : va_at D cls (b, cel G h z) H) : va_at D cls (b, cel (gnew G (g, h.1 g) a cA tys) (hnew h g) z) H := by
  have hq := q_new (g := g) hS
  have hne : z ≠ (g, h.1 g) := fun e => hq (e ▸ hz)
  have e1 : (hnew h g).2.1 z.1 z.2 = h.2.1 z.1 z.2 := clr_ne hne
  have e2 : (hnew h g).2.2.1 z.1 z.2 = h.2.2.1 z.1 z.2 := clr_ne hne
  have e3 : (hnew h g).2.2.2 z.1 z.2 = h.2.2.2 z.1 z.2 := clr_ne hne
  have e4 : (gnew G (g, h.1 g) a cA tys).2.2.1 z = G.2.2.1 z := by simp [gnew, hne]
  unfold cel at hat ⊢
  split
  · rename_i h13
    rw [if_pos h13] at hat
    have : (List.range (kd z.1).2).map (fun s => fvl (gnew G (g, h.1 g) a cA tys).2.1 (hnew h g) (kd z.1).1 z.1 z.2 s) = (List.range (kd z.1).2).map (fun s => fvl G.2.1 h (kd z.1).1 z.1 z.2 s) := by
      refine List.map_congr_left (fun s hs => ?_)
      unfold fvl
      rw [e1, e2, e3]
      have := ref_map (a := a) hS hq hz (List.mem_range.mp hs)
      show (match tcode (fty (kd z.1).1 s) with | 0 => _ | 1 => _ | 2 => _ | _ => va_rf ((h.2.2.2 z.1 z.2 s).map (fun y => if y = (g, h.1 g) then a else G.2.1 y))) = _
      rw [this]
      generalize tcode (fty (kd z.1).1 s) = t
      match t with
      | 0 => rfl
      | 1 => rfl
      | 2 => rfl
      | n + 3 => rfl
    rw [this]
    exact hat
  · rename_i h13
    rw [if_neg h13] at hat
    split
    · rename_i h14
      rw [if_pos h14] at hat
      rw [e2, e4]; exact hat
    · rename_i h14
      rw [if_neg h14] at hat
      split
      · rename_i h16
        rw [if_pos h16] at hat
        rw [e1, e4]; exact hat
      · rename_i h16
        rw [if_neg h16] at hat
        rw [e3, e4]
        have hh : H[b]? = some (arrV (G.2.2.1 z) (kd z.1).2 (fun j => va_rf ((h.2.2.2 z.1 z.2 j).map G.2.1))) := hat
        show H[b]? = some (arrV (G.2.2.1 z) (kd z.1).2 (fun j => va_rf ((h.2.2.2 z.1 z.2 j).map (fun y => if y = (g, h.1 g) then a else G.2.1 y))))
        rw [hh]
        congr 1
        exact arrV_congr (fun j hj => by rw [ref_map (a := a) hS hq hz hj])
theorem alloc_iv {A : Nat → Prop} {D : va_G} {G0 G : Gh} {h : AH} {s : State} {H H1 : Heap} {locs : List Loc} {g a : Nat} {cA : ClassId} {tys : List (ClassId × FieldType)} (I : Iv A D G0 G h s H locs)
    (hK : va_K D cls tys s) (hty : ∀ t : Nat, ∀ x, G.2.2.2[t]? = some x → tys[t]? = some x) (hnt : 13 ≤ (kd g).1 → ∃ t : Nat, tys[t]? = some (cA, aty (kd g).1))
    (hP : va_P D cls (gw G h ++ [(a, cel (gnew G (g, h.1 g) a cA tys) (hnew h g) (g, h.1 g))]) H1) (hD : va_D A (gw G h ++ [(a, cel (gnew G (g, h.1 g) a cA tys) (hnew h g) (g, h.1 g))])) (hSS : va_S A s.heap H1 locs) :
    Iv A D G0 (gnew G (g, h.1 g) a cA tys) (hnew h g) s H1 locs := by
  obtain ⟨hKn, hA, -, -, -, hSh, hE⟩ := I
  have hq := q_new (g := g) hSh
  have hlen : (gw G h).length = G.1.length := by simp [gw]
  have key : ∀ (k : Nat) (x : Nat × va_E), (gw (gnew G (g, h.1 g) a cA tys) (hnew h g))[k]? = some x → ∃ y, (gw G h ++ [(a, cel (gnew G (g, h.1 g) a cA tys) (hnew h g) (g, h.1 g))])[k]? = some y ∧ y.1 = x.1 ∧ (va_at D cls y H1 → va_at D cls x H1) := by
    intro k x hx
    simp only [gw, gnew, List.getElem?_map] at hx
    by_cases hk : k < G.1.length
    · rw [List.getElem?_append_left hk] at hx
      obtain ⟨z, hz⟩ : ∃ z, G.1[k]? = some z := ⟨_, List.getElem?_eq_getElem hk⟩
      rw [hz] at hx
      have hzm := List.mem_of_getElem? hz
      have hne : z ≠ (g, h.1 g) := fun e => hq (e ▸ hzm)
      simp only [Option.map_some, hne, if_false, Option.some.injEq] at hx
      refine ⟨(G.2.1 z, cel G h z), ?_, by rw [← hx], fun hat => ?_⟩
      · rw [List.getElem?_append_left (by rw [hlen]; exact hk)]
        simp [gw, hz]
      · rw [← hx]
        exact cel_new hSh hzm hat
    · by_cases hk2 : k = G.1.length
      · subst hk2
        simp at hx
        refine ⟨(a, cel (gnew G (g, h.1 g) a cA tys) (hnew h g) (g, h.1 g)), ?_, by rw [← hx], fun hat => by rw [← hx]; exact hat⟩
        rw [List.getElem?_append_right (by rw [hlen]; exact Nat.le_refl _), hlen]
        simp
      · rw [List.getElem?_eq_none (by simp; omega)] at hx
        simp at hx
  refine ⟨⟨hK, hKn.2.1, hKn.2.2.1, hKn.2.2.2⟩, hA, ?_, ⟨?_, ?_⟩, hSS, ⟨?_, ?_, ?_, ?_⟩, ext_tr hE (gnew_ext hq)⟩
  · intro k x hx
    obtain ⟨y, h1, h2, h3⟩ := key k x hx
    exact h3 (hP k y h1)
  · intro i j x y hx hy hxy
    obtain ⟨x', a1, a2, -⟩ := key i x hx
    obtain ⟨y', b1, b2, -⟩ := key j y hy
    exact hD.1 i j x' y' a1 b1 (by rw [a2, b2, hxy])
  · intro k x hx
    obtain ⟨y, h1, h2, h3⟩ := key k x hx
    rw [← h2]
    exact hD.2 k y h1
  · show (G.1 ++ [(g, h.1 g)]).Nodup
    rw [List.nodup_append]
    refine ⟨hSh.1, by simp, fun z hz y hy e => ?_⟩
    simp at hy
    rw [hy] at e
    exact hq (e ▸ hz)
  · intro z
    show z ∈ G.1 ++ [(g, h.1 g)] ↔ z.2 < (if z.1 = g then h.1 g + 1 else h.1 z.1)
    rw [List.mem_append, List.mem_singleton, hSh.2.1 z]
    obtain ⟨z1, z2⟩ := z
    by_cases hz : z1 = g
    · subst hz
      simp only [if_true, Prod.mk.injEq, true_and]
      omega
    · simp only [hz, if_false, Prod.mk.injEq, false_and, or_false]
  · intro z hz t ht y hy
    show y ∈ G.1 ++ [(g, h.1 g)]
    by_cases hzq : z = (g, h.1 g)
    · subst hzq
      have : clr h.2.2.2 g (h.1 g) none g (h.1 g) t = some y := hy
      rw [clr_at] at this
      cases this
    · have hz' : z ∈ G.1 := by
        rcases List.mem_append.mp hz with h | h
        · exact h
        · exact absurd (List.mem_singleton.mp h) hzq
      have : clr h.2.2.2 g (h.1 g) none z.1 z.2 t = some y := hy
      rw [clr_ne hzq] at this
      exact List.mem_append_left _ (hSh.2.2.1 z hz' t ht y this)
  · intro z hz h13
    by_cases hzq : z = (g, h.1 g)
    · subst hzq
      obtain ⟨t, ht⟩ := hnt h13
      exact ⟨t, by simp only [gnew, if_true]; exact ht⟩
    · have hz' : z ∈ G.1 := by
        rcases List.mem_append.mp hz with h | h
        · exact h
        · exact absurd (List.mem_singleton.mp h) hzq
      obtain ⟨t, ht⟩ := hSh.2.2.2 z hz' h13
      exact ⟨t, by simp only [gnew, hzq, if_false]; exact hty t _ ht⟩
def dfl (t : Nat) : Value := match t with
  | 0 => .int 0
  | 1 => .int 0
  | 2 => .long 0
  | _ => .null
/-- an object of the class ci is made by the class k at its pool's entry idx -/
def NOK (k idx ci N : Nat) : Prop := ∃ T : u_T, cls[ci]? = some (cnm ci, T, N) ∧ (∀ w ∈ u_ws (cnm ci) T N, w ∈ TW) ∧ (∀ j, j < N → parseFieldDescriptor (T j).2.2.1 = some (fty ci j)) ∧ Cond.classLink (cnm k) idx (cnm ci) ∈ TW ∧ Cond.instantiable (cnm ci) N ∈ TW ∧ Cond.initialized (cnm ci) ∈ TW ∧ (∀ j, j < N → defaultValue (fty ci j) = dfl (tcode (fty ci j)))
section RN
variable {d kc ks u v : Nat} {mt : MI} {pc nx tg : Nat} {k0 : Int32} {L : List (Option AV)} {S : List AV} {h : AH} {Q : Option AV → AH → Prop}
theorem new_go {l : Launch} {p : Program} {e : Env} {s : State} {m : MethodId} {args : Array Value} {below : List Frame} {meth : Method} {c : Code} {A : Nat → Prop} {D : va_G} {G0 G : Gh} {H1 : Heap} {locs : List Loc} {ls : Array Slot} {g a : Nat} {cA : ClassId} {tys : List (ClassId × FieldType)} {u' v' pc' : Nat}
    (F : Fx mt p s m args meth c) (I : Iv A D G0 (gnew G (g, h.1 g) a cA tys) (hnew h g) s H1 locs) (hSh : Shp G h) (hS : ∀ x ∈ S, okv G x) (hL : ∀ x, some x ∈ L → okv G x) (hl : lv_has ls mt.1.2.2.1 (lpos G.2.1 0 L))
    (k : R d kc ks u' v' mt pc' L (.inr (.inr (some (g, h.1 g))) :: S) (hnew h g) Q) : W p l e (rmv d kc ks) s m args below meth c H1 locs u' v' (MQ below (Qp Q D G0 A) args s kc ks A) (F0 m pc' ls (.ref a :: S.map (cv G.2.1))) := by
  have hE := gnew_ext (a := a) (cA := cA) (tys := tys) (q_new (g := g) hSh)
  have h1 := k l p e s m args below meth c A D G0 _ H1 locs ls F I (ok_cs (fun q e => by cases e; exact List.mem_append_right _ (List.mem_singleton.mpr rfl)) (fun x hx => okv_ext hE (hS x hx))) (fun x hx => okv_ext hE (hL x hx)) (by rw [lpos_ext hE hL]; exact hl)
  have h2 : (.inr (.inr (some (g, h.1 g))) :: S : List AV).map (cv (gnew G (g, h.1 g) a cA tys).2.1) = .ref a :: S.map (cv G.2.1) := by
    rw [List.map_cons, map_ext hE hS]
    simp [cv, gnew, va_rf]
  rw [h2] at h1
  exact h1
theorem s_new {idx g ci N : Nat} (hp : mt.2.2 pc = some (.new idx, 3, nx, tg, k0)) (hk : kd g = (ci, N)) (h13 : ci < 13) (hN : NOK mt.2.1 idx ci N) (hu : u + 1 ≤ kc) (hv : v + N ≤ ks)
    (k : R d kc ks (u + 1) (v + N) mt nx L (.inr (.inr (some (g, h.1 g))) :: S) (hnew h g) Q) : R d kc ks u v mt pc L S h Q := by
  intro l p e s m args below meth c A D G0 G H locs ls F I hS hL hl
  obtain ⟨hm, hx, hb, hr, hml, hown, hts, hlk, hnm⟩ := id F
  obtain ⟨hdg, hnx, htg, hck⟩ := hm.1 _ _ _ _ _ _ hp
  subst hnx
  obtain ⟨hKn, hA, hP, hD, hSS, hSh, hE⟩ := id I
  obtain ⟨T, hc, hin, hty, hcl, hinst, hini, hdf⟩ := hN
  refine va_new (ci := ci) (fs := (List.range N).map (fun j => dfl (tcode (fty ci j)))) (C := cnm ci) (T := T) (N := N) hx hb hts hin (fty ci) hty hown (hts _ hcl) (hts _ hinst) (hts _ hini) hKn.1 hP hD hSS hA hc (fun j hj => by rw [hdf j hj]; simp [vp_V, hj]) hu hv hdg (fun q H1 hP1 hD1 hS1 => ?_)
  have hce : cel (gnew G (g, h.1 g) q 0 G.2.2.2) (hnew h g) (g, h.1 g) = .inr (ci, (List.range N).map (fun j => dfl (tcode (fty ci j)))) := by
    rw [cel_obj hk h13]
    congr 2
    refine List.map_congr_left (fun j _ => ?_)
    unfold fvl dfl
    simp only [hnew, clr_at]
    rfl
  rw [← hce] at hP1 hD1
  exact new_go F (alloc_iv I hKn.1 (fun _ _ h => h) (fun h => by rw [hk] at h; exact absurd h (by show ¬ 13 ≤ ci; omega)) hP1 hD1 hS1) hSh hS hL hl k
theorem s_newarray {g kk N : Nat} {at1 : ArrayType} {x : Int32} (hp : mt.2.2 pc = some (.newarray at1, 2, nx, tg, k0)) (hk : kd g = (kk, N)) (hat : (at1 = .int ∧ kk = 13) ∨ (at1 = .long ∧ kk = 14) ∨ (at1 = .boolean ∧ kk = 15)) (harr : Cond.arrayClass (newarray.typeOf at1) ∈ TW) (hx0 : ¬ x < 0) (hxN : x.toNatClampNeg = N) (hb : N * 8 ≤ 536870912) (hu : u + 1 ≤ kc) (hv : v + N ≤ ks)
    (k : R d kc ks (u + 1) (v + N) mt nx L (.inr (.inr (some (g, h.1 g))) :: S) (hnew h g) Q) : R d kc ks u v mt pc L (.inl x :: S) h Q := by
  intro l p e s m args below meth c A D G0 G H locs ls F I hS hL hl
  obtain ⟨hm, hx, hbb, hr, hml, hown, hts, hlk, hnm⟩ := id F
  obtain ⟨hdg, hnx, htg, hck⟩ := hm.1 _ _ _ _ _ _ hp
  subst hnx
  obtain ⟨hKn, hA, hP, hD, hSS, hSh, hE⟩ := id I
  have hgo : ∀ (q : Nat) (cA : ClassId) (H1 : Heap) (ty : FieldType), ty = aty kk → va_K D cls (G.2.2.2 ++ [(cA, ty)]) s → va_P D cls (gw G h ++ [(q, cel (gnew G (g, h.1 g) q cA (G.2.2.2 ++ [(cA, ty)])) (hnew h g) (g, h.1 g))]) H1 → va_D A (gw G h ++ [(q, cel (gnew G (g, h.1 g) q cA (G.2.2.2 ++ [(cA, ty)])) (hnew h g) (g, h.1 g))]) → va_S A s.heap H1 locs → W p l e (rmv d kc ks) s m args below meth c H1 locs (u + 1) (v + N) (MQ below (Qp Q D G0 A) args s kc ks A) (F0 m (pc + 2) ls (.ref q :: S.map (cv G.2.1))) := by
    intro q cA H1 ty hty hK1 hP1 hD1 hS1
    refine new_go F (alloc_iv I hK1 (fun t y hy => ?_) (fun _ => ⟨G.2.2.2.length, ?_⟩) hP1 hD1 hS1) hSh (ok_tl hS) hL hl k
    · rw [List.getElem?_append_left (List.getElem?_eq_some_iff.mp hy).1]; exact hy
    · rw [List.getElem?_append_right (Nat.le_refl _), Nat.sub_self, hk, hty]; rfl
  rcases hat with ⟨rfl, rfl⟩ | ⟨rfl, rfl⟩ | ⟨rfl, rfl⟩
  · refine va_newa (atype := .int) (a0 := (N, .inl (fun _ => 0))) hx hbb (hts _ harr) rfl hKn.1 hP hD hSS hA (fun cA => rfl) hx0 hxN (Nat.le_trans (Nat.mul_le_mul_left N (by decide)) hb) hu hv hdg (fun q cA H1 hK1 hP1 hD1 hS1 => ?_)
    have hce : cel (gnew G (g, h.1 g) q cA (G.2.2.2 ++ [(cA, .int)])) (hnew h g) (g, h.1 g) = .inl (cA, N, .inl (fun _ => 0)) := by
      rw [cel_int hk]
      simp [gnew, hnew, clr]
    rw [← hce] at hP1 hD1
    exact hgo q cA H1 _ rfl hK1 hP1 hD1 hS1
  · refine va_newa (atype := .long) (a0 := (N, .inr (.inl (fun _ => 0)))) hx hbb (hts _ harr) rfl hKn.1 hP hD hSS hA (fun cA => rfl) hx0 hxN (Nat.le_trans (Nat.mul_le_mul_left N (by decide)) hb) hu hv hdg (fun q cA H1 hK1 hP1 hD1 hS1 => ?_)
    have hce : cel (gnew G (g, h.1 g) q cA (G.2.2.2 ++ [(cA, .long)])) (hnew h g) (g, h.1 g) = .inl (cA, N, .inr (.inl (fun _ => 0))) := by
      rw [cel_long hk]
      simp [gnew, hnew, clr]
    rw [← hce] at hP1 hD1
    exact hgo q cA H1 _ rfl hK1 hP1 hD1 hS1
  · refine va_newa (atype := .boolean) (a0 := (N, .inl (fun _ => 0))) hx hbb (hts _ harr) rfl hKn.1 hP hD hSS hA (fun cA => rfl) hx0 hxN (Nat.le_trans (Nat.mul_le_mul_left N (by decide)) hb) hu hv hdg (fun q cA H1 hK1 hP1 hD1 hS1 => ?_)
    have hce : cel (gnew G (g, h.1 g) q cA (G.2.2.2 ++ [(cA, .boolean)])) (hnew h g) (g, h.1 g) = .inl (cA, N, .inl (fun _ => 0)) := by
      rw [cel_bool hk]
      simp [gnew, hnew, clr]
    rw [← hce] at hP1 hD1
    exact hgo q cA H1 _ rfl hK1 hP1 hD1 hS1
theorem s_anewarray {idx g kk N : Nat} {C : String} {x : Int32} (hp : mt.2.2 pc = some (.anewarray idx, 3, nx, tg, k0)) (hk : kd g = (kk, N)) (h16 : 16 ≤ kk) (hC : aty kk = .object C) (hCn : C = "AlikeUnlike$Person" ∨ C = "AlikeUnlike$Script") (hcl : Cond.classLink (cnm mt.2.1) idx C ∈ TW) (hx0 : ¬ x < 0) (hxN : x.toNatClampNeg = N) (hb : N * 4 ≤ 536870912) (hu : u + 1 ≤ kc) (hv : v + N ≤ ks)
    (k : R d kc ks (u + 1) (v + N) mt nx L (.inr (.inr (some (g, h.1 g))) :: S) (hnew h g) Q) : R d kc ks u v mt pc L (.inl x :: S) h Q := by
  intro l p e s m args below meth c A D G0 G H locs ls F I hS hL hl
  obtain ⟨hm, hx, hbb, hr, hml, hown, hts, hlk, hnm⟩ := id F
  obtain ⟨hdg, hnx, htg, hck⟩ := hm.1 _ _ _ _ _ _ hp
  subst hnx
  obtain ⟨hKn, hA, hP, hD, hSS, hSh, hE⟩ := id I
  have hao : va_AO C s := by rcases hCn with rfl | rfl; · exact hKn.2.2.1
                             · exact hKn.2.2.2
  refine va_newq hx hbb hown (hts _ hcl) hao hKn.1 hP hD hSS hA hx0 hxN hb hu hv hdg (fun q cA H1 hK1 hP1 hD1 hS1 => ?_)
  have hce : cel (gnew G (g, h.1 g) q cA (G.2.2.2 ++ [(cA, .object C)])) (hnew h g) (g, h.1 g) = .inl (cA, N, .inr (.inr (.inr (.inr (fun _ => none))))) := by
    rw [cel_ref hk h16]
    simp [gnew, hnew, clr]
  rw [← hce] at hP1 hD1
  refine new_go F (alloc_iv I hK1 (fun t y hy => ?_) (fun _ => ⟨G.2.2.2.length, ?_⟩) hP1 hD1 hS1) hSh (ok_tl hS) hL hl k
  · rw [List.getElem?_append_left (List.getElem?_eq_some_iff.mp hy).1]; exact hy
  · rw [List.getElem?_append_right (Nat.le_refl _), Nat.sub_self, hk, hC]; rfl
theorem s_aastore {g i g2 i2 kk N ci n2 : Nat} {x : Int32} (hp : mt.2.2 pc = some (.aastore, 1, nx, tg, k0)) (hk : kd g = (kk, N)) (h16 : 16 ≤ kk) (hk2 : kd g2 = (ci, n2)) (h13 : ci < 13) {T : u_T} {N2 : Nat} (hcl : cls[ci]? = some (cnm ci, T, N2)) (hC : aty kk = .object (cnm ci)) (hin : vp_in x N)
    (k : R d kc ks u v mt nx L S (fput h g i x.toNatClampNeg (.inr (.inr (some (g2, i2))))) Q) : R d kc ks u v mt pc L (.inr (.inr (some (g2, i2))) :: .inl x :: .inr (.inr (some (g, i))) :: S) h Q := by
  intro l p e s m args below meth c A D G0 G H locs ls F I hS hL hl
  obtain ⟨hm, hx, hbb, hr, hml, hown, hts, hlk, hnm⟩ := id F
  obtain ⟨hdg, hnx, htg, hck⟩ := hm.1 _ _ _ _ _ _ hp
  subst hnx
  obtain ⟨hKn, hA, hP, hD, hSS, hSh, hE⟩ := id I
  have hq : (g, i) ∈ G.1 := ok_hd (ok_tl (ok_tl hS)) _ rfl
  have hq2 : (g2, i2) ∈ G.1 := ok_hd hS _ rfl
  obtain ⟨j, hj1, hj2⟩ := gw_at (h := h) hq
  obtain ⟨j', hj1', hj2'⟩ := gw_at (h := h) hq2
  obtain ⟨t0, ht0⟩ := hSh.2.2.2 _ hq (by rw [hk]; exact Nat.le_trans (Nat.le_of_ble_eq_true rfl) h16)
  rw [hk, show aty (kk, N).1 = .object (cnm ci) from hC] at ht0
  have hset := gw_set (h := h) (h' := fput h g i x.toNatClampNeg (.inr (.inr (some (g2, i2))))) hSh.1 hj1 fput_cel
  rw [cel_ref hk h16] at hj2 hset
  rw [cel_obj hk2 h13] at hj2'
  refine va_astq (cl := cls) (r := (cnm ci, T, N2)) hx hbb hKn.1 hP hD hSS j t0 j' ci hj2 ht0 hj2' hcl hin hdg (fun H1 locs1 hP1 hD1 hS1 => ?_)
  have he : (fun z => ((fput h g i x.toNatClampNeg (.inr (.inr (some (g2, i2))))).2.2.2 g i z).map G.2.1) = va_up (fun z => (h.2.2.2 g i z).map G.2.1) x.toNatClampNeg (some (G.2.1 (g2, i2))) := by
    funext z
    show ((up3 h.2.2.2 g i _ _ g i z).map G.2.1) = _
    rw [up3_at]
    unfold va_up
    by_cases hz : z = x.toNatClampNeg <;> simp [hz]
  rw [he] at hset
  rw [hset] at hP1 hD1
  exact k l p e s m args below meth c A D G0 G H1 locs1 ls F ⟨hKn, hA, hP1, hD1, hS1, fput_shp hSh (ok_hd hS), hE⟩ (ok_tl (ok_tl (ok_tl hS))) hL hl
def cpy3 (f : FI) (g i sp dp n : Nat) : FI := fun g' => if g' = g then (fun i' => if i' = i then va_cpy (f g i) (f g i) sp dp n else f g i') else f g'
theorem s_copy {idx g i N : Nat} {sp dp n : Int32} (hp : mt.2.2 pc = some (.invokestatic idx, 3, nx, tg, k0)) (hl1 : Cond.methodLink (cnm mt.2.1) idx arraycopyName ∈ TW) (hl2 : Cond.native arraycopyName ∈ TW) (hl3 : Cond.static arraycopyName ∈ TW) (hl4 : Cond.initialized "java/lang/System" ∈ TW) (hk : kd g = (13, N))
    (h1 : ¬ sp < 0) (h2 : ¬ dp < 0) (h3 : ¬ n < 0) (h4 : sp.toNatClampNeg + n.toNatClampNeg ≤ N) (h5 : dp.toNatClampNeg + n.toNatClampNeg ≤ N) (hd : 2 ≤ d) (hS8 : (S.map acat).sum ≤ 8)
    (k : R d kc ks u v mt nx L S (h.1, cpy3 h.2.1 g i sp.toNatClampNeg dp.toNatClampNeg n.toNatClampNeg, h.2.2.1, h.2.2.2) Q) : R d kc ks u v mt pc L (.inl n :: .inl dp :: .inr (.inr (some (g, i))) :: .inl sp :: .inr (.inr (some (g, i))) :: S) h Q := by
  intro l p e s m args below meth c A D G0 G H locs ls F I hS hL hl
  obtain ⟨hm, hx, hbb, hr, hml, hown, hts, hlk, hnm⟩ := id F
  obtain ⟨hdg, hnx, htg, hck⟩ := hm.1 _ _ _ _ _ _ hp
  subst hnx
  obtain ⟨hKn, hA, hP, hD, hSS, hSh, hE⟩ := id I
  have hq : (g, i) ∈ G.1 := ok_hd (ok_tl (ok_tl hS)) _ rfl
  obtain ⟨j, hj1, hj2⟩ := gw_at (h := h) hq
  obtain ⟨t0, ht0⟩ := hSh.2.2.2 _ hq (by rw [hk]; exact Nat.le_refl _)
  rw [hk] at ht0
  have hoth : ∀ q' ∈ G.1, q' ≠ (g, i) → cel G (h.1, cpy3 h.2.1 g i sp.toNatClampNeg dp.toNatClampNeg n.toNatClampNeg, h.2.2.1, h.2.2.2) q' = cel G h q' := by
    intro q' _ hne
    refine cel_ne ?_ rfl rfl
    obtain ⟨a, b⟩ := q'
    show cpy3 h.2.1 g i _ _ _ a b = h.2.1 a b
    unfold cpy3
    by_cases h1 : a = g
    · subst h1
      have h2 : b ≠ i := fun e => hne (by rw [e])
      simp [h2]
    · simp [h1]
  have hset := gw_set (h := h) (h' := (h.1, cpy3 h.2.1 g i sp.toNatClampNeg dp.toNatClampNeg n.toNatClampNeg, h.2.2.1, h.2.2.2)) hSh.1 hj1 hoth
  rw [cel_int hk] at hj2 hset
  refine va_copyi hx hbb (by rw [hml]; exact hl.1.symm) hown (hts _ hl1) (hts _ hl2) (hts _ hl3) (hts _ hl4) hKn.1 hP hD hSS j j t0 t0 hj2 hj2 ht0 ht0 rfl h1 h2 h3 h4 h5 (fun _ _ => rfl) (by show 1 ≤ d; omega) ?_ hdg (fun H1 locs1 hP1 hD1 hS1 => ?_)
  · rw [acat_sum]
    have : nativeFrameWords "java/lang/System" "arraycopy" 5 ≤ 60 := by decide +kernel
    show _ ≤ 64 * d
    omega
  · have he : cpy3 h.2.1 g i sp.toNatClampNeg dp.toNatClampNeg n.toNatClampNeg g i = va_cpy (h.2.1 g i) (h.2.1 g i) sp.toNatClampNeg dp.toNatClampNeg n.toNatClampNeg := by simp [cpy3]
    simp only [he] at hset
    rw [hset] at hP1 hD1
    exact k l p e s m args below meth c A D G0 G H1 locs1 ls F ⟨hKn, hA, hP1, hD1, hS1, hSh, hE⟩ (ok_tl (ok_tl (ok_tl (ok_tl (ok_tl hS))))) hL hl
end RN
