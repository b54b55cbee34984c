section RA
variable {d kc ks u v : Nat} {mt : MI} {pc nx tg : Nat} {k0 : Int32} {L : List (Option AV)} {S : List AV} {h : AH} {Q : Option AV → AH → Prop}
theorem upd_fun {α : Type} {f : Nat → α} {k : Nat} {x : α} : (fun j => if j = k then x else f j) = va_up f k x := rfl
theorem s_iaload {g i n : Nat} {x : Int32} (hp : mt.2.2 pc = some (.iaload, 1, nx, tg, k0)) (hk : kd g = (13, n)) (hin : vp_in x n) (k : R d kc ks u v mt nx L (.inl (h.2.1 g i x.toNatClampNeg) :: S) h Q) : R d kc ks u v mt pc L (.inl x :: .inr (.inr (some (g, i))) :: S) h Q := by
  intro l p e st m args below meth c A D G0 G H locs ls F I hS hL hl
  obtain ⟨hm, hx, hb, hr, hml, hown, hts, hlk, hnm⟩ := id F
  obtain ⟨hdg, hnx, htg, hck⟩ := hm.1 _ _ _ _ _ _ hp
  subst hnx
  obtain ⟨hKn, hA, hP, hD, hSS, hSh, hE⟩ := id I
  have hq : (g, i) ∈ G.1 := ok_hd (ok_tl hS) _ rfl
  obtain ⟨j, hj1, hj2⟩ := gw_at (h := h) hq
  obtain ⟨t0, ht0⟩ := hSh.2.2.2 _ hq (by rw [hk]; exact Nat.le_refl _)
  rw [hk] at ht0
  rw [cel_int hk] at hj2
  exact va_iald hx hb hKn.1 hP j t0 hj2 ht0 hin hdg (k l p e st m args below meth c A D G0 G H locs ls F I (ok_cs okv_i (ok_tl (ok_tl hS))) hL hl)
theorem s_baload {g i n : Nat} {x : Int32} (hp : mt.2.2 pc = some (.baload, 1, nx, tg, k0)) (hk : kd g = (15, n)) (hin : vp_in x n) (k : R d kc ks u v mt nx L (.inl (h.2.1 g i x.toNatClampNeg) :: S) h Q) : R d kc ks u v mt pc L (.inl x :: .inr (.inr (some (g, i))) :: S) h Q := by
  intro l p e st m args below meth c A D G0 G H locs ls F I hS hL hl
  obtain ⟨hm, hx, hb, hr, hml, hown, hts, hlk, hnm⟩ := id F
  obtain ⟨hdg, hnx, htg, hck⟩ := hm.1 _ _ _ _ _ _ hp
  subst hnx
  obtain ⟨hKn, hA, hP, hD, hSS, hSh, hE⟩ := id I
  have hq : (g, i) ∈ G.1 := ok_hd (ok_tl hS) _ rfl
  obtain ⟨j, hj1, hj2⟩ := gw_at (h := h) hq
  obtain ⟨t0, ht0⟩ := hSh.2.2.2 _ hq (by rw [hk]; exact Nat.le_of_ble_eq_true rfl)
  rw [hk] at ht0
  rw [cel_bool hk] at hj2
  exact va_zald hx hb hKn.1 hP j t0 hj2 ht0 hin hdg (k l p e st m args below meth c A D G0 G H locs ls F I (ok_cs okv_i (ok_tl (ok_tl hS))) hL hl)
theorem s_laload {g i n : Nat} {x : Int32} (hp : mt.2.2 pc = some (.laload, 1, nx, tg, k0)) (hk : kd g = (14, n)) (hin : vp_in x n) (k : R d kc ks u v mt nx L (.inr (.inl (h.2.2.1 g i x.toNatClampNeg)) :: S) h Q) : R d kc ks u v mt pc L (.inl x :: .inr (.inr (some (g, i))) :: S) h Q := by
  intro l p e st m args below meth c A D G0 G H locs ls F I hS hL hl
  obtain ⟨hm, hx, hb, hr, hml, hown, hts, hlk, hnm⟩ := id F
  obtain ⟨hdg, hnx, htg, hck⟩ := hm.1 _ _ _ _ _ _ hp
  subst hnx
  obtain ⟨hKn, hA, hP, hD, hSS, hSh, hE⟩ := id I
  have hq : (g, i) ∈ G.1 := ok_hd (ok_tl hS) _ rfl
  obtain ⟨j, hj1, hj2⟩ := gw_at (h := h) hq
  obtain ⟨t0, ht0⟩ := hSh.2.2.2 _ hq (by rw [hk]; exact Nat.le_of_ble_eq_true rfl)
  rw [hk] at ht0
  rw [cel_long hk] at hj2
  exact va_lald hx hb hKn.1 hP j t0 hj2 ht0 hin hdg (k l p e st m args below meth c A D G0 G H locs ls F I (ok_cs okv_l (ok_tl (ok_tl hS))) hL hl)
theorem s_aaload {g i n kk : Nat} {x : Int32} (hp : mt.2.2 pc = some (.aaload, 1, nx, tg, k0)) (hk : kd g = (kk, n)) (h16 : 16 ≤ kk) (hin : vp_in x n) (k : R d kc ks u v mt nx L (.inr (.inr (h.2.2.2 g i x.toNatClampNeg)) :: S) h Q) : R d kc ks u v mt pc L (.inl x :: .inr (.inr (some (g, i))) :: S) h Q := by
  intro l p e st m args below meth c A D G0 G H locs ls F I hS hL hl
  obtain ⟨hm, hx, hb, hr, hml, hown, hts, hlk, hnm⟩ := id F
  obtain ⟨hdg, hnx, htg, hck⟩ := hm.1 _ _ _ _ _ _ hp
  subst hnx
  obtain ⟨hKn, hA, hP, hD, hSS, hSh, hE⟩ := id I
  have hq : (g, i) ∈ G.1 := ok_hd (ok_tl hS) _ rfl
  obtain ⟨j, hj1, hj2⟩ := gw_at (h := h) hq
  obtain ⟨t0, ht0⟩ := hSh.2.2.2 _ hq (by rw [hk]; exact Nat.le_trans (Nat.le_of_ble_eq_true rfl) h16)
  rw [hk] at ht0
  obtain ⟨C, hC⟩ : ∃ C, aty kk = .object C := by
    match kk, h16 with
    | 16, _ => exact ⟨_, rfl⟩
    | n + 17, _ => exact ⟨_, rfl⟩
  rw [show aty (kk, n).1 = .object C from hC] at ht0
  rw [cel_ref hk h16] at hj2
  have hok : okv G (.inr (.inr (h.2.2.2 g i x.toNatClampNeg))) := by
    intro q hq'
    have h4 : h.2.2.2 g i x.toNatClampNeg = some q := Sum.inr.inj (Sum.inr.inj hq')
    refine hSh.2.2.1 (g, i) hq _ ?_ q h4
    rw [hk]
    have := vp_in_iff.mp hin
    show x.toNatClampNeg < n
    exact Nat.lt_of_not_le (fun z => hin (Or.inr z))
  exact va_aldq hx hb hKn.1 hP j t0 hj2 ht0 hin hdg (k l p e st m args below meth c A D G0 G H locs ls F I (ok_cs hok (ok_tl (ok_tl hS))) hL hl)
theorem s_arraylength {g i n kk : Nat} (hp : mt.2.2 pc = some (.arraylength, 1, nx, tg, k0)) (hk : kd g = (kk, n)) (h13 : 13 ≤ kk) {z : Int32} (hz : Int32.ofNat n = z) (k : R d kc ks u v mt nx L (.inl z :: S) h Q) : R d kc ks u v mt pc L (.inr (.inr (some (g, i))) :: S) h Q := by
  intro l p e st m args below meth c A D G0 G H locs ls F I hS hL hl
  obtain ⟨hm, hx, hb, hr, hml, hown, hts, hlk, hnm⟩ := id F
  obtain ⟨hdg, hnx, htg, hck⟩ := hm.1 _ _ _ _ _ _ hp
  subst hnx
  obtain ⟨hKn, hA, hP, hD, hSS, hSh, hE⟩ := id I
  have hq : (g, i) ∈ G.1 := ok_hd hS _ rfl
  obtain ⟨j, hj1, hj2⟩ := gw_at (h := h) hq
  obtain ⟨t0, ht0⟩ := hSh.2.2.2 _ hq (by rw [hk]; exact h13)
  obtain ⟨a0, ha0⟩ : ∃ a0, cel G h (g, i) = .inl (G.2.2.1 (g, i), n, a0) := by
    by_cases h14 : kk = 14
    · subst h14; exact ⟨_, cel_long hk⟩
    · by_cases h16 : 16 ≤ kk
      · exact ⟨_, cel_ref hk h16⟩
      · have : kk = 13 ∨ kk = 15 := by omega
        rcases this with rfl | rfl
        · exact ⟨_, cel_int hk⟩
        · exact ⟨_, cel_bool hk⟩
  rw [ha0] at hj2
  exact va_alen hx hb hKn.1 hP j t0 hj2 ht0 hz hdg (k l p e st m args below meth c A D G0 G H locs ls F I (ok_cs okv_i (ok_tl hS)) hL hl)
theorem s_iastore {g i n : Nat} {x y : Int32} (hp : mt.2.2 pc = some (.iastore, 1, nx, tg, k0)) (hk : kd g = (13, n)) (hin : vp_in x n) (k : R d kc ks u v mt nx L S (fput h g i x.toNatClampNeg (.inl y)) Q) : R d kc ks u v mt pc L (.inl y :: .inl x :: .inr (.inr (some (g, i))) :: S) h Q := by
  intro l p e st m args below meth c A D G0 G H locs ls F I hS hL hl
  obtain ⟨hm, hx, hb, hr, hml, hown, hts, hlk, hnm⟩ := id F
  obtain ⟨hdg, hnx, htg, hck⟩ := hm.1 _ _ _ _ _ _ hp
  subst hnx
  obtain ⟨hKn, hA, hP, hD, hSS, hSh, hE⟩ := id I
  have hq : (g, i) ∈ G.1 := ok_hd (ok_tl (ok_tl hS)) _ rfl
  obtain ⟨j, hj1, hj2⟩ := gw_at (h := h) hq
  obtain ⟨t0, ht0⟩ := hSh.2.2.2 _ hq (by rw [hk]; exact Nat.le_refl _)
  rw [hk] at ht0
  have hset := gw_set (h := h) (h' := fput h g i x.toNatClampNeg (.inl y)) hSh.1 hj1 fput_cel
  rw [cel_int hk] at hj2 hset
  refine va_iast hx hb hKn.1 hP hD hSS j t0 hj2 ht0 hin hdg (fun H1 locs1 hP1 hD1 hS1 => ?_)
  have he : (fput h g i x.toNatClampNeg (.inl y)).2.1 g i = upd (h.2.1 g i) x.toNatClampNeg y := by
    show up3 h.2.1 g i _ y g i = _
    rw [up3_at]; rfl
  rw [he] at hset
  rw [hset] at hP1 hD1
  exact k l p e st m args below meth c A D G0 G H1 locs1 ls F ⟨hKn, hA, hP1, hD1, hS1, fput_shp hSh okv_i, hE⟩ (ok_tl (ok_tl (ok_tl hS))) hL hl
theorem s_bastore {g i n : Nat} {x y : Int32} (hp : mt.2.2 pc = some (.bastore, 1, nx, tg, k0)) (hk : kd g = (15, n)) (hin : vp_in x n) (hy : y = 0 ∨ y = 1) (k : R d kc ks u v mt nx L S (fput h g i x.toNatClampNeg (.inl y)) Q) : R d kc ks u v mt pc L (.inl y :: .inl x :: .inr (.inr (some (g, i))) :: S) h Q := by
  intro l p e st m args below meth c A D G0 G H locs ls F I hS hL hl
  obtain ⟨hm, hx, hb, hr, hml, hown, hts, hlk, hnm⟩ := id F
  obtain ⟨hdg, hnx, htg, hck⟩ := hm.1 _ _ _ _ _ _ hp
  subst hnx
  obtain ⟨hKn, hA, hP, hD, hSS, hSh, hE⟩ := id I
  have hq : (g, i) ∈ G.1 := ok_hd (ok_tl (ok_tl hS)) _ rfl
  obtain ⟨j, hj1, hj2⟩ := gw_at (h := h) hq
  obtain ⟨t0, ht0⟩ := hSh.2.2.2 _ hq (by rw [hk]; exact Nat.le_of_ble_eq_true rfl)
  rw [hk] at ht0
  have hset := gw_set (h := h) (h' := fput h g i x.toNatClampNeg (.inl y)) hSh.1 hj1 fput_cel
  rw [cel_bool hk] at hj2 hset
  refine va_zast hx hb hKn.1 hP hD hSS j t0 hj2 ht0 hin hdg (fun H1 locs1 hP1 hD1 hS1 => ?_)
  have hv : vp_nar .boolean y = y := by rcases hy with rfl | rfl <;> decide
  have he : (fput h g i x.toNatClampNeg (.inl y)).2.1 g i = upd (h.2.1 g i) x.toNatClampNeg (vp_nar .boolean y) := by
    show up3 h.2.1 g i _ y g i = _
    rw [up3_at, hv]; rfl
  rw [he] at hset
  rw [hset] at hP1 hD1
  exact k l p e st m args below meth c A D G0 G H1 locs1 ls F ⟨hKn, hA, hP1, hD1, hS1, fput_shp hSh okv_i, hE⟩ (ok_tl (ok_tl (ok_tl hS))) hL hl
theorem s_lastore {g i n : Nat} {x : Int32} {y : Int64} (hp : mt.2.2 pc = some (.lastore, 1, nx, tg, k0)) (hk : kd g = (14, n)) (hin : vp_in x n) (k : R d kc ks u v mt nx L S (fput h g i x.toNatClampNeg (.inr (.inl y))) Q) : R d kc ks u v mt pc L (.inr (.inl y) :: .inl x :: .inr (.inr (some (g, i))) :: S) h Q := by
  intro l p e st m args below meth c A D G0 G H locs ls F I hS hL hl
  obtain ⟨hm, hx, hb, hr, hml, hown, hts, hlk, hnm⟩ := id F
  obtain ⟨hdg, hnx, htg, hck⟩ := hm.1 _ _ _ _ _ _ hp
  subst hnx
  obtain ⟨hKn, hA, hP, hD, hSS, hSh, hE⟩ := id I
  have hq : (g, i) ∈ G.1 := ok_hd (ok_tl (ok_tl hS)) _ rfl
  obtain ⟨j, hj1, hj2⟩ := gw_at (h := h) hq
  obtain ⟨t0, ht0⟩ := hSh.2.2.2 _ hq (by rw [hk]; exact Nat.le_of_ble_eq_true rfl)
  rw [hk] at ht0
  have hset := gw_set (h := h) (h' := fput h g i x.toNatClampNeg (.inr (.inl y))) hSh.1 hj1 fput_cel
  rw [cel_long hk] at hj2 hset
  refine va_last hx hb hKn.1 hP hD hSS j t0 hj2 ht0 hin hdg (fun H1 locs1 hP1 hD1 hS1 => ?_)
  have he : (fput h g i x.toNatClampNeg (.inr (.inl y))).2.2.1 g i = vp_updL (h.2.2.1 g i) x.toNatClampNeg y := by
    show up3 h.2.2.1 g i _ y g i = _
    rw [up3_at]; rfl
  rw [he] at hset
  rw [hset] at hP1 hD1
  exact k l p e st m args below meth c A D G0 G H1 locs1 ls F ⟨hKn, hA, hP1, hD1, hS1, fput_shp hSh okv_l, hE⟩ (ok_tl (ok_tl (ok_tl hS))) hL hl
/-! returns -/
theorem qp_mk {A : Nat → Prop} {D : va_G} {G0 G : Gh} {st t : State} {H : Heap} {locs : List Loc} {args : Array Value} {r : Option AV} (hW : st.WarmedH t.vm) (ht : t.heap = H) (I : Iv A D G0 G h st H locs) (hq : Q r h) (hok : ∀ x, r = some x → okv G x) : Qp Q D G0 A args st (.returned (r.map (cv G.2.1))) t := by
  obtain ⟨hKn, hA, hP, hD, hSS, hSh, hE⟩ := id I
  exact ⟨⟨r, h, G, rfl, hq, hok, ⟨va_K.moved hW.alike hKn.1, fun w hw => NW_warm hW w hw (hKn.2.1 w hw), hKn.2.2.1.moved hW.alike, hKn.2.2.2.moved hW.alike⟩, by rw [ht]; exact hP, hD, hSh, hE⟩, hSS.F ht⟩
theorem ok_some {G : Gh} {a : AV} (h : okv G a) : ∀ x, some a = some x → okv G x := fun x e => by cases e; exact h
theorem ok_none {G : Gh} : ∀ x, (none : Option AV) = some x → okv G x := fun x e => by cases e
theorem s_ireturn {x : Int32} (hp : mt.2.2 pc = some (.ireturn, 1, nx, tg, k0)) (hr : mt.1.2.2.2 = some .int ∨ (mt.1.2.2.2 = some .boolean ∧ (x = 0 ∨ x = 1))) (hu : u ≤ kc) (hv : v ≤ ks) (hq : Q (some (.inl x)) h) : R d kc ks u v mt pc L [.inl x] h Q := by
  intro l p e st m args below meth c A D G0 G H locs ls F I hS hL hl
  obtain ⟨hm, hx, hb, hrt, hml, hown, hts, hlk, hnm⟩ := id F
  obtain ⟨hdg, hnx, htg, hck⟩ := hm.1 _ _ _ _ _ _ hp
  obtain ⟨hKn, hA, hP, hD, hSS, hSh, hE⟩ := id I
  refine W.widen hu hv ?_
  have key : ∀ t : State, t.heap = H → st.WarmedH t.vm → Qp Q D G0 A args st (.returned (some (.int x))) t := fun t ht hW => qp_mk (r := some (.inl x)) hW ht I hq (ok_some okv_i)
  rcases hr with hr | ⟨hr, hx01⟩
  · exact W.iret hx hb (by rw [hrt, hr]) key hSS.2.2 hdg hlk
  · exact W.zret hx hb (by rw [hrt, hr]) (by rcases hx01 with rfl | rfl <;> decide) key hSS.2.2 hdg hlk
theorem s_lreturn {x : Int64} (hp : mt.2.2 pc = some (.lreturn, 1, nx, tg, k0)) (hr : mt.1.2.2.2 = some .long) (hu : u ≤ kc) (hv : v ≤ ks) (hq : Q (some (.inr (.inl x))) h) : R d kc ks u v mt pc L [.inr (.inl x)] h Q := by
  intro l p e st m args below meth c A D G0 G H locs ls F I hS hL hl
  obtain ⟨hm, hx, hb, hrt, hml, hown, hts, hlk, hnm⟩ := id F
  obtain ⟨hdg, hnx, htg, hck⟩ := hm.1 _ _ _ _ _ _ hp
  obtain ⟨hKn, hA, hP, hD, hSS, hSh, hE⟩ := id I
  refine W.widen hu hv ?_
  exact W.lret hx hb (by rw [hrt, hr]) (fun t ht hW => qp_mk (r := some (.inr (.inl x))) hW ht I hq (ok_some okv_l)) hSS.2.2 hdg hlk
theorem s_return (hp : mt.2.2 pc = some (.return_, 1, nx, tg, k0)) (hr : mt.1.2.2.2 = none) (hu : u ≤ kc) (hv : v ≤ ks) (hq : Q none h) : R d kc ks u v mt pc L [] h Q := by
  intro l p e st m args below meth c A D G0 G H locs ls F I hS hL hl
  obtain ⟨hm, hx, hb, hrt, hml, hown, hts, hlk, hnm⟩ := id F
  obtain ⟨hdg, hnx, htg, hck⟩ := hm.1 _ _ _ _ _ _ hp
  obtain ⟨hKn, hA, hP, hD, hSS, hSh, hE⟩ := id I
  refine W.widen hu hv ?_
  exact W.vret hx hb (by rw [hrt, hr]) (fun t ht hW => qp_mk (r := none) hW ht I hq ok_none) hSS.2.2 hdg hlk
theorem s_areturn {r : Option (Nat × Nat)} {C : String} (hp : mt.2.2 pc = some (.areturn, 1, nx, tg, k0)) (hr : mt.1.2.2.2 = some (.object C)) (hu : u ≤ kc) (hv : v ≤ ks) (hq : Q (some (.inr (.inr r))) h) : R d kc ks u v mt pc L [.inr (.inr r)] h Q := by
  intro l p e st m args below meth c A D G0 G H locs ls F I hS hL hl
  obtain ⟨hm, hx, hb, hrt, hml, hown, hts, hlk, hnm⟩ := id F
  obtain ⟨hdg, hnx, htg, hck⟩ := hm.1 _ _ _ _ _ _ hp
  obtain ⟨hKn, hA, hP, hD, hSS, hSh, hE⟩ := id I
  refine W.widen hu hv ?_
  have hnr : va_rf (r.map G.2.1) = .null ∨ ∃ a, va_rf (r.map G.2.1) = .ref a := by
    cases r with
    | none => exact Or.inl rfl
    | some q => exact Or.inr ⟨_, rfl⟩
  exact W.aret hx hb (by rw [hrt, hr]) (Or.inl ⟨C, rfl⟩) hnr (fun t ht hW => qp_mk (r := some (.inr (.inr r))) hW ht I hq (ok_some (ok_hd hS))) hSS.2.2 hdg hlk
end RA
