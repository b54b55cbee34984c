theorem ok_tl {G : Gh} {a : AV} {S : List AV} (h : ∀ x ∈ a :: S, okv G x) : ∀ x ∈ S, okv G x := (List.forall_mem_cons.mp h).2
theorem ok_hd {G : Gh} {a : AV} {S : List AV} (h : ∀ x ∈ a :: S, okv G x) : okv G a := (List.forall_mem_cons.mp h).1
theorem ok_cs {G : Gh} {a : AV} {S : List AV} (ha : okv G a) (h : ∀ x ∈ S, okv G x) : ∀ x ∈ a :: S, okv G x := List.forall_mem_cons.mpr ⟨ha, h⟩
theorem ld_at {L : List (Option AV)} {G : Gh} {k : Nat} {w : AV} (hL : ∀ x, some x ∈ L → okv G x) (hk : L[k]? = some (some w)) : okv G w := hL w (List.mem_of_getElem? hk)

section RU
variable {d kc ks u v : Nat} {mt : MI} {pc nx tg : Nat} {k0 : Int32} {L : List (Option AV)} {S : List AV} {h : AH} {Q : Option AV → AH → Prop}

theorem s_iadd {x y : Int32} (hp : mt.2.2 pc = some (.iadd, 1, nx, tg, k0)) (k : R d kc ks u v mt nx L (.inl (x + y) :: S) h Q) : R d kc ks u v mt pc L (.inl y :: .inl x :: S) h Q := by
  intro l p e s m args below meth c A D G0 G H locs ls F I hS hL hl
  obtain ⟨hm, hx, hb, hr, hml, hown, hts, hlk, hnm⟩ := id F
  obtain ⟨hdg, hnx, htg, hck⟩ := hm.1 _ _ _ _ _ _ hp
  subst hnx
  exact lv_iadd hx hb hdg (k l p e s m args below meth c A D G0 G H locs ls F I (ok_cs okv_i (ok_tl (ok_tl hS))) hL hl)

theorem s_isub {x y : Int32} (hp : mt.2.2 pc = some (.isub, 1, nx, tg, k0)) (k : R d kc ks u v mt nx L (.inl (x - y) :: S) h Q) : R d kc ks u v mt pc L (.inl y :: .inl x :: S) h Q := by
  intro l p e s m args below meth c A D G0 G H locs ls F I hS hL hl
  obtain ⟨hm, hx, hb, hr, hml, hown, hts, hlk, hnm⟩ := id F
  obtain ⟨hdg, hnx, htg, hck⟩ := hm.1 _ _ _ _ _ _ hp
  subst hnx
  exact lv_isub hx hb hdg (k l p e s m args below meth c A D G0 G H locs ls F I (ok_cs okv_i (ok_tl (ok_tl hS))) hL hl)

theorem s_imul {x y : Int32} (hp : mt.2.2 pc = some (.imul, 1, nx, tg, k0)) (k : R d kc ks u v mt nx L (.inl (x * y) :: S) h Q) : R d kc ks u v mt pc L (.inl y :: .inl x :: S) h Q := by
  intro l p e s m args below meth c A D G0 G H locs ls F I hS hL hl
  obtain ⟨hm, hx, hb, hr, hml, hown, hts, hlk, hnm⟩ := id F
  obtain ⟨hdg, hnx, htg, hck⟩ := hm.1 _ _ _ _ _ _ hp
  subst hnx
  exact lv_imul hx hb hdg (k l p e s m args below meth c A D G0 G H locs ls F I (ok_cs okv_i (ok_tl (ok_tl hS))) hL hl)

theorem s_iand {x y : Int32} (hp : mt.2.2 pc = some (.iand, 1, nx, tg, k0)) (k : R d kc ks u v mt nx L (.inl (x &&& y) :: S) h Q) : R d kc ks u v mt pc L (.inl y :: .inl x :: S) h Q := by
  intro l p e s m args below meth c A D G0 G H locs ls F I hS hL hl
  obtain ⟨hm, hx, hb, hr, hml, hown, hts, hlk, hnm⟩ := id F
  obtain ⟨hdg, hnx, htg, hck⟩ := hm.1 _ _ _ _ _ _ hp
  subst hnx
  exact lv_iand hx hb hdg (k l p e s m args below meth c A D G0 G H locs ls F I (ok_cs okv_i (ok_tl (ok_tl hS))) hL hl)

theorem s_ior {x y : Int32} (hp : mt.2.2 pc = some (.ior, 1, nx, tg, k0)) (k : R d kc ks u v mt nx L (.inl (x ||| y) :: S) h Q) : R d kc ks u v mt pc L (.inl y :: .inl x :: S) h Q := by
  intro l p e s m args below meth c A D G0 G H locs ls F I hS hL hl
  obtain ⟨hm, hx, hb, hr, hml, hown, hts, hlk, hnm⟩ := id F
  obtain ⟨hdg, hnx, htg, hck⟩ := hm.1 _ _ _ _ _ _ hp
  subst hnx
  exact lv_ior hx hb hdg (k l p e s m args below meth c A D G0 G H locs ls F I (ok_cs okv_i (ok_tl (ok_tl hS))) hL hl)

theorem s_ixor {x y : Int32} (hp : mt.2.2 pc = some (.ixor, 1, nx, tg, k0)) (k : R d kc ks u v mt nx L (.inl (x ^^^ y) :: S) h Q) : R d kc ks u v mt pc L (.inl y :: .inl x :: S) h Q := by
  intro l p e s m args below meth c A D G0 G H locs ls F I hS hL hl
  obtain ⟨hm, hx, hb, hr, hml, hown, hts, hlk, hnm⟩ := id F
  obtain ⟨hdg, hnx, htg, hck⟩ := hm.1 _ _ _ _ _ _ hp
  subst hnx
  exact lv_ixor hx hb hdg (k l p e s m args below meth c A D G0 G H locs ls F I (ok_cs okv_i (ok_tl (ok_tl hS))) hL hl)

theorem s_ishl {x y : Int32} (hp : mt.2.2 pc = some (.ishl, 1, nx, tg, k0)) (k : R d kc ks u v mt nx L (.inl (x <<< (y &&& 31)) :: S) h Q) : R d kc ks u v mt pc L (.inl y :: .inl x :: S) h Q := by
  intro l p e s m args below meth c A D G0 G H locs ls F I hS hL hl
  obtain ⟨hm, hx, hb, hr, hml, hown, hts, hlk, hnm⟩ := id F
  obtain ⟨hdg, hnx, htg, hck⟩ := hm.1 _ _ _ _ _ _ hp
  subst hnx
  exact lv_ishl hx hb hdg (k l p e s m args below meth c A D G0 G H locs ls F I (ok_cs okv_i (ok_tl (ok_tl hS))) hL hl)

theorem s_ishr {x y : Int32} (hp : mt.2.2 pc = some (.ishr, 1, nx, tg, k0)) (k : R d kc ks u v mt nx L (.inl (x >>> (y &&& 31)) :: S) h Q) : R d kc ks u v mt pc L (.inl y :: .inl x :: S) h Q := by
  intro l p e s m args below meth c A D G0 G H locs ls F I hS hL hl
  obtain ⟨hm, hx, hb, hr, hml, hown, hts, hlk, hnm⟩ := id F
  obtain ⟨hdg, hnx, htg, hck⟩ := hm.1 _ _ _ _ _ _ hp
  subst hnx
  exact lv_ishr hx hb hdg (k l p e s m args below meth c A D G0 G H locs ls F I (ok_cs okv_i (ok_tl (ok_tl hS))) hL hl)

theorem s_iushr {x y : Int32} (hp : mt.2.2 pc = some (.iushr, 1, nx, tg, k0)) (k : R d kc ks u v mt nx L (.inl (x.toUInt32 >>> (y.toUInt32 &&& Int32.toUInt32 31)).toInt32 :: S) h Q) : R d kc ks u v mt pc L (.inl y :: .inl x :: S) h Q := by
  intro l p e s m args below meth c A D G0 G H locs ls F I hS hL hl
  obtain ⟨hm, hx, hb, hr, hml, hown, hts, hlk, hnm⟩ := id F
  obtain ⟨hdg, hnx, htg, hck⟩ := hm.1 _ _ _ _ _ _ hp
  subst hnx
  exact lv_iushr hx hb hdg rfl (k l p e s m args below meth c A D G0 G H locs ls F I (ok_cs okv_i (ok_tl (ok_tl hS))) hL hl)

theorem s_idiv {x y : Int32} (hp : mt.2.2 pc = some (.idiv, 1, nx, tg, k0)) (hne : ¬ y = 0) (k : R d kc ks u v mt nx L (.inl (x / y) :: S) h Q) : R d kc ks u v mt pc L (.inl y :: .inl x :: S) h Q := by
  intro l p e s m args below meth c A D G0 G H locs ls F I hS hL hl
  obtain ⟨hm, hx, hb, hr, hml, hown, hts, hlk, hnm⟩ := id F
  obtain ⟨hdg, hnx, htg, hck⟩ := hm.1 _ _ _ _ _ _ hp
  subst hnx
  exact lv_idiv hx hb hdg hne (k l p e s m args below meth c A D G0 G H locs ls F I (ok_cs okv_i (ok_tl (ok_tl hS))) hL hl)

theorem s_irem {x y : Int32} (hp : mt.2.2 pc = some (.irem, 1, nx, tg, k0)) (hne : ¬ y = 0) (k : R d kc ks u v mt nx L (.inl (x - x / y * y) :: S) h Q) : R d kc ks u v mt pc L (.inl y :: .inl x :: S) h Q := by
  intro l p e s m args below meth c A D G0 G H locs ls F I hS hL hl
  obtain ⟨hm, hx, hb, hr, hml, hown, hts, hlk, hnm⟩ := id F
  obtain ⟨hdg, hnx, htg, hck⟩ := hm.1 _ _ _ _ _ _ hp
  subst hnx
  exact lv_irem hx hb hdg hne (k l p e s m args below meth c A D G0 G H locs ls F I (ok_cs okv_i (ok_tl (ok_tl hS))) hL hl)

theorem s_ladd {x y : Int64} (hp : mt.2.2 pc = some (.ladd, 1, nx, tg, k0)) (k : R d kc ks u v mt nx L (.inr (.inl (x + y)) :: S) h Q) : R d kc ks u v mt pc L (.inr (.inl y) :: .inr (.inl x) :: S) h Q := by
  intro l p e s m args below meth c A D G0 G H locs ls F I hS hL hl
  obtain ⟨hm, hx, hb, hr, hml, hown, hts, hlk, hnm⟩ := id F
  obtain ⟨hdg, hnx, htg, hck⟩ := hm.1 _ _ _ _ _ _ hp
  subst hnx
  exact lv_ladd hx hb hdg (k l p e s m args below meth c A D G0 G H locs ls F I (ok_cs okv_l (ok_tl (ok_tl hS))) hL hl)

theorem s_lsub {x y : Int64} (hp : mt.2.2 pc = some (.lsub, 1, nx, tg, k0)) (k : R d kc ks u v mt nx L (.inr (.inl (x - y)) :: S) h Q) : R d kc ks u v mt pc L (.inr (.inl y) :: .inr (.inl x) :: S) h Q := by
  intro l p e s m args below meth c A D G0 G H locs ls F I hS hL hl
  obtain ⟨hm, hx, hb, hr, hml, hown, hts, hlk, hnm⟩ := id F
  obtain ⟨hdg, hnx, htg, hck⟩ := hm.1 _ _ _ _ _ _ hp
  subst hnx
  exact lv_lsub hx hb hdg (k l p e s m args below meth c A D G0 G H locs ls F I (ok_cs okv_l (ok_tl (ok_tl hS))) hL hl)

theorem s_lmul {x y : Int64} (hp : mt.2.2 pc = some (.lmul, 1, nx, tg, k0)) (k : R d kc ks u v mt nx L (.inr (.inl (x * y)) :: S) h Q) : R d kc ks u v mt pc L (.inr (.inl y) :: .inr (.inl x) :: S) h Q := by
  intro l p e s m args below meth c A D G0 G H locs ls F I hS hL hl
  obtain ⟨hm, hx, hb, hr, hml, hown, hts, hlk, hnm⟩ := id F
  obtain ⟨hdg, hnx, htg, hck⟩ := hm.1 _ _ _ _ _ _ hp
  subst hnx
  exact lv_lmul hx hb hdg (k l p e s m args below meth c A D G0 G H locs ls F I (ok_cs okv_l (ok_tl (ok_tl hS))) hL hl)

theorem s_land {x y : Int64} (hp : mt.2.2 pc = some (.land, 1, nx, tg, k0)) (k : R d kc ks u v mt nx L (.inr (.inl (x &&& y)) :: S) h Q) : R d kc ks u v mt pc L (.inr (.inl y) :: .inr (.inl x) :: S) h Q := by
  intro l p e s m args below meth c A D G0 G H locs ls F I hS hL hl
  obtain ⟨hm, hx, hb, hr, hml, hown, hts, hlk, hnm⟩ := id F
  obtain ⟨hdg, hnx, htg, hck⟩ := hm.1 _ _ _ _ _ _ hp
  subst hnx
  exact lv_land hx hb hdg (k l p e s m args below meth c A D G0 G H locs ls F I (ok_cs okv_l (ok_tl (ok_tl hS))) hL hl)

theorem s_lor {x y : Int64} (hp : mt.2.2 pc = some (.lor, 1, nx, tg, k0)) (k : R d kc ks u v mt nx L (.inr (.inl (x ||| y)) :: S) h Q) : R d kc ks u v mt pc L (.inr (.inl y) :: .inr (.inl x) :: S) h Q := by
  intro l p e s m args below meth c A D G0 G H locs ls F I hS hL hl
  obtain ⟨hm, hx, hb, hr, hml, hown, hts, hlk, hnm⟩ := id F
  obtain ⟨hdg, hnx, htg, hck⟩ := hm.1 _ _ _ _ _ _ hp
  subst hnx
  exact lv_lor hx hb hdg (k l p e s m args below meth c A D G0 G H locs ls F I (ok_cs okv_l (ok_tl (ok_tl hS))) hL hl)

theorem s_ldiv {x y : Int64} (hp : mt.2.2 pc = some (.ldiv, 1, nx, tg, k0)) (hne : ¬ y = 0) (k : R d kc ks u v mt nx L (.inr (.inl (x / y)) :: S) h Q) : R d kc ks u v mt pc L (.inr (.inl y) :: .inr (.inl x) :: S) h Q := by
  intro l p e s m args below meth c A D G0 G H locs ls F I hS hL hl
  obtain ⟨hm, hx, hb, hr, hml, hown, hts, hlk, hnm⟩ := id F
  obtain ⟨hdg, hnx, htg, hck⟩ := hm.1 _ _ _ _ _ _ hp
  subst hnx
  exact lv_ldiv hx hb hdg hne (k l p e s m args below meth c A D G0 G H locs ls F I (ok_cs okv_l (ok_tl (ok_tl hS))) hL hl)

theorem s_lrem {x y : Int64} (hp : mt.2.2 pc = some (.lrem, 1, nx, tg, k0)) (hne : ¬ y = 0) (k : R d kc ks u v mt nx L (.inr (.inl (x - x / y * y)) :: S) h Q) : R d kc ks u v mt pc L (.inr (.inl y) :: .inr (.inl x) :: S) h Q := by
  intro l p e s m args below meth c A D G0 G H locs ls F I hS hL hl
  obtain ⟨hm, hx, hb, hr, hml, hown, hts, hlk, hnm⟩ := id F
  obtain ⟨hdg, hnx, htg, hck⟩ := hm.1 _ _ _ _ _ _ hp
  subst hnx
  exact lv_lrem hx hb hdg hne (k l p e s m args below meth c A D G0 G H locs ls F I (ok_cs okv_l (ok_tl (ok_tl hS))) hL hl)

theorem s_lshl {x : Int64} {y : Int32} (hp : mt.2.2 pc = some (.lshl, 1, nx, tg, k0)) (k : R d kc ks u v mt nx L (.inr (.inl (x <<< (y.toInt64 &&& 63))) :: S) h Q) : R d kc ks u v mt pc L (.inl y :: .inr (.inl x) :: S) h Q := by
  intro l p e s m args below meth c A D G0 G H locs ls F I hS hL hl
  obtain ⟨hm, hx, hb, hr, hml, hown, hts, hlk, hnm⟩ := id F
  obtain ⟨hdg, hnx, htg, hck⟩ := hm.1 _ _ _ _ _ _ hp
  subst hnx
  exact lv_lshl hx hb hdg rfl (k l p e s m args below meth c A D G0 G H locs ls F I (ok_cs okv_l (ok_tl (ok_tl hS))) hL hl)

theorem s_lushr {x : Int64} {y : Int32} (hp : mt.2.2 pc = some (.lushr, 1, nx, tg, k0)) (k : R d kc ks u v mt nx L (.inr (.inl (x.toUInt64 >>> (y.toInt64.toUInt64 &&& Int64.toUInt64 63)).toInt64) :: S) h Q) : R d kc ks u v mt pc L (.inl y :: .inr (.inl x) :: S) h Q := by
  intro l p e s m args below meth c A D G0 G H locs ls F I hS hL hl
  obtain ⟨hm, hx, hb, hr, hml, hown, hts, hlk, hnm⟩ := id F
  obtain ⟨hdg, hnx, htg, hck⟩ := hm.1 _ _ _ _ _ _ hp
  subst hnx
  exact lv_lushr hx hb hdg rfl (k l p e s m args below meth c A D G0 G H locs ls F I (ok_cs okv_l (ok_tl (ok_tl hS))) hL hl)

theorem s_lcmp {x y : Int64} (hp : mt.2.2 pc = some (.lcmp, 1, nx, tg, k0)) (k : R d kc ks u v mt nx L (.inl (lg_cmp x y) :: S) h Q) : R d kc ks u v mt pc L (.inr (.inl y) :: .inr (.inl x) :: S) h Q := by
  intro l p e s m args below meth c A D G0 G H locs ls F I hS hL hl
  obtain ⟨hm, hx, hb, hr, hml, hown, hts, hlk, hnm⟩ := id F
  obtain ⟨hdg, hnx, htg, hck⟩ := hm.1 _ _ _ _ _ _ hp
  subst hnx
  exact W.lcmp hx hb hdg (k l p e s m args below meth c A D G0 G H locs ls F I (ok_cs okv_i (ok_tl (ok_tl hS))) hL hl)

theorem s_ineg {x : Int32} (hp : mt.2.2 pc = some (.ineg, 1, nx, tg, k0)) (k : R d kc ks u v mt nx L (.inl (-x) :: S) h Q) : R d kc ks u v mt pc L (.inl x :: S) h Q := by
  intro l p e s m args below meth c A D G0 G H locs ls F I hS hL hl
  obtain ⟨hm, hx, hb, hr, hml, hown, hts, hlk, hnm⟩ := id F
  obtain ⟨hdg, hnx, htg, hck⟩ := hm.1 _ _ _ _ _ _ hp
  subst hnx
  exact lv_ineg hx hb hdg (k l p e s m args below meth c A D G0 G H locs ls F I (ok_cs okv_i (ok_tl hS)) hL hl)

theorem s_i2l {x : Int32} (hp : mt.2.2 pc = some (.i2l, 1, nx, tg, k0)) (k : R d kc ks u v mt nx L (.inr (.inl x.toInt64) :: S) h Q) : R d kc ks u v mt pc L (.inl x :: S) h Q := by
  intro l p e s m args below meth c A D G0 G H locs ls F I hS hL hl
  obtain ⟨hm, hx, hb, hr, hml, hown, hts, hlk, hnm⟩ := id F
  obtain ⟨hdg, hnx, htg, hck⟩ := hm.1 _ _ _ _ _ _ hp
  subst hnx
  exact lv_i2l hx hb hdg rfl (k l p e s m args below meth c A D G0 G H locs ls F I (ok_cs okv_l (ok_tl hS)) hL hl)

theorem s_l2i {x : Int64} (hp : mt.2.2 pc = some (.l2i, 1, nx, tg, k0)) (k : R d kc ks u v mt nx L (.inl x.toInt32 :: S) h Q) : R d kc ks u v mt pc L (.inr (.inl x) :: S) h Q := by
  intro l p e s m args below meth c A D G0 G H locs ls F I hS hL hl
  obtain ⟨hm, hx, hb, hr, hml, hown, hts, hlk, hnm⟩ := id F
  obtain ⟨hdg, hnx, htg, hck⟩ := hm.1 _ _ _ _ _ _ hp
  subst hnx
  exact lv_l2i hx hb hdg rfl (k l p e s m args below meth c A D G0 G H locs ls F I (ok_cs okv_i (ok_tl hS)) hL hl)

theorem s_iconst {n : Int} (hp : mt.2.2 pc = some (.iconst n, 1, nx, tg, k0)) (k : R d kc ks u v mt nx L (.inl k0 :: S) h Q) : R d kc ks u v mt pc L (S) h Q := by
  intro l p e s m args below meth c A D G0 G H locs ls F I hS hL hl
  obtain ⟨hm, hx, hb, hr, hml, hown, hts, hlk, hnm⟩ := id F
  obtain ⟨hdg, hnx, htg, hck⟩ := hm.1 _ _ _ _ _ _ hp
  subst hnx
  exact lv_iconst hx hb hdg (by simpa [cok] using hck) (k l p e s m args below meth c A D G0 G H locs ls F I (ok_cs okv_i hS) hL hl)

theorem s_bipush {n : Int} (hp : mt.2.2 pc = some (.bipush n, 2, nx, tg, k0)) (k : R d kc ks u v mt nx L (.inl k0 :: S) h Q) : R d kc ks u v mt pc L (S) h Q := by
  intro l p e s m args below meth c A D G0 G H locs ls F I hS hL hl
  obtain ⟨hm, hx, hb, hr, hml, hown, hts, hlk, hnm⟩ := id F
  obtain ⟨hdg, hnx, htg, hck⟩ := hm.1 _ _ _ _ _ _ hp
  subst hnx
  exact lv_bipush hx hb hdg (by simpa [cok] using hck) (k l p e s m args below meth c A D G0 G H locs ls F I (ok_cs okv_i hS) hL hl)

theorem s_sipush {n : Int} (hp : mt.2.2 pc = some (.sipush n, 3, nx, tg, k0)) (k : R d kc ks u v mt nx L (.inl k0 :: S) h Q) : R d kc ks u v mt pc L (S) h Q := by
  intro l p e s m args below meth c A D G0 G H locs ls F I hS hL hl
  obtain ⟨hm, hx, hb, hr, hml, hown, hts, hlk, hnm⟩ := id F
  obtain ⟨hdg, hnx, htg, hck⟩ := hm.1 _ _ _ _ _ _ hp
  subst hnx
  exact lv_sipush hx hb hdg (by simpa [cok] using hck) (k l p e s m args below meth c A D G0 G H locs ls F I (ok_cs okv_i hS) hL hl)

theorem s_lconst {n : Fin 2} {z : Int64} (hp : mt.2.2 pc = some (.lconst n, 1, nx, tg, k0)) (hz : Int64.ofNat (n : Nat) = z) (k : R d kc ks u v mt nx L (.inr (.inl z) :: S) h Q) : R d kc ks u v mt pc L (S) h Q := by
  intro l p e s m args below meth c A D G0 G H locs ls F I hS hL hl
  obtain ⟨hm, hx, hb, hr, hml, hown, hts, hlk, hnm⟩ := id F
  obtain ⟨hdg, hnx, htg, hck⟩ := hm.1 _ _ _ _ _ _ hp
  subst hnx
  exact lv_lconst hx hb hdg hz (k l p e s m args below meth c A D G0 G H locs ls F I (ok_cs okv_l hS) hL hl)

theorem s_null (hp : mt.2.2 pc = some (.aconst_null, 1, nx, tg, k0)) (k : R d kc ks u v mt nx L (.inr (.inr none) :: S) h Q) : R d kc ks u v mt pc L (S) h Q := by
  intro l p e s m args below meth c A D G0 G H locs ls F I hS hL hl
  obtain ⟨hm, hx, hb, hr, hml, hown, hts, hlk, hnm⟩ := id F
  obtain ⟨hdg, hnx, htg, hck⟩ := hm.1 _ _ _ _ _ _ hp
  subst hnx
  exact lv_null hx hb hdg (k l p e s m args below meth c A D G0 G H locs ls F I (ok_cs okv_n hS) hL hl)

theorem s_ldc2 {i : Nat} {z : Int64} (hp : mt.2.2 pc = some (.ldc2_w i, 3, nx, tg, k0)) (hz : Cond.constantLong (cnm mt.2.1) i z ∈ TW) (k : R d kc ks u v mt nx L (.inr (.inl z) :: S) h Q) : R d kc ks u v mt pc L (S) h Q := by
  intro l p e s m args below meth c A D G0 G H locs ls F I hS hL hl
  obtain ⟨hm, hx, hb, hr, hml, hown, hts, hlk, hnm⟩ := id F
  obtain ⟨hdg, hnx, htg, hck⟩ := hm.1 _ _ _ _ _ _ hp
  subst hnx
  exact lv_ldc2 hx hb hown (hts _ hz) hdg (k l p e s m args below meth c A D G0 G H locs ls F I (ok_cs okv_l hS) hL hl)

theorem s_ldcw {i : Nat} {z : Int32} (hp : mt.2.2 pc = some (.ldc_w i, 3, nx, tg, k0)) (hz : Cond.constant (cnm mt.2.1) i z ∈ TW) (k : R d kc ks u v mt nx L (.inl z :: S) h Q) : R d kc ks u v mt pc L (S) h Q := by
  intro l p e s m args below meth c A D G0 G H locs ls F I hS hL hl
  obtain ⟨hm, hx, hb, hr, hml, hown, hts, hlk, hnm⟩ := id F
  obtain ⟨hdg, hnx, htg, hck⟩ := hm.1 _ _ _ _ _ _ hp
  subst hnx
  exact lv_ldcw hx hb hown (hts _ hz) hdg (k l p e s m args below meth c A D G0 G H locs ls F I (ok_cs okv_i hS) hL hl)

theorem s_iload {i : Nat} {x : Int32} (hp : mt.2.2 pc = some (.iload i, 2, nx, tg, k0)) (hk : L[i]? = some (some (.inl x))) (k : R d kc ks u v mt nx L (.inl x :: S) h Q) : R d kc ks u v mt pc L (S) h Q := by
  intro l p e s m args below meth c A D G0 G H locs ls F I hS hL hl
  obtain ⟨hm, hx, hb, hr, hml, hown, hts, hlk, hnm⟩ := id F
  obtain ⟨hdg, hnx, htg, hck⟩ := hm.1 _ _ _ _ _ _ hp
  subst hnx
  exact lv_iload hx hb hdg (lvh_at hl hk) (k l p e s m args below meth c A D G0 G H locs ls F I (ok_cs (ld_at hL hk) hS) hL hl)

theorem s_iload_n {i : Fin 4} {x : Int32} (hp : mt.2.2 pc = some (.iload_n i, 1, nx, tg, k0)) (hk : L[(i : Nat)]? = some (some (.inl x))) (k : R d kc ks u v mt nx L (.inl x :: S) h Q) : R d kc ks u v mt pc L (S) h Q := by
  intro l p e s m args below meth c A D G0 G H locs ls F I hS hL hl
  obtain ⟨hm, hx, hb, hr, hml, hown, hts, hlk, hnm⟩ := id F
  obtain ⟨hdg, hnx, htg, hck⟩ := hm.1 _ _ _ _ _ _ hp
  subst hnx
  exact lv_iload_n hx hb hdg rfl (lvh_at hl hk) (k l p e s m args below meth c A D G0 G H locs ls F I (ok_cs (ld_at hL hk) hS) hL hl)

theorem s_lload {i : Nat} {x : Int64} (hp : mt.2.2 pc = some (.lload i, 2, nx, tg, k0)) (hk : L[i]? = some (some (.inr (.inl x)))) (k : R d kc ks u v mt nx L (.inr (.inl x) :: S) h Q) : R d kc ks u v mt pc L (S) h Q := by
  intro l p e s m args below meth c A D G0 G H locs ls F I hS hL hl
  obtain ⟨hm, hx, hb, hr, hml, hown, hts, hlk, hnm⟩ := id F
  obtain ⟨hdg, hnx, htg, hck⟩ := hm.1 _ _ _ _ _ _ hp
  subst hnx
  exact lv_lload hx hb hdg (lvh_at hl hk) (k l p e s m args below meth c A D G0 G H locs ls F I (ok_cs (ld_at hL hk) hS) hL hl)

theorem s_lload_n {i : Fin 4} {x : Int64} (hp : mt.2.2 pc = some (.lload_n i, 1, nx, tg, k0)) (hk : L[(i : Nat)]? = some (some (.inr (.inl x)))) (k : R d kc ks u v mt nx L (.inr (.inl x) :: S) h Q) : R d kc ks u v mt pc L (S) h Q := by
  intro l p e s m args below meth c A D G0 G H locs ls F I hS hL hl
  obtain ⟨hm, hx, hb, hr, hml, hown, hts, hlk, hnm⟩ := id F
  obtain ⟨hdg, hnx, htg, hck⟩ := hm.1 _ _ _ _ _ _ hp
  subst hnx
  exact lv_lload_n hx hb hdg rfl (lvh_at hl hk) (k l p e s m args below meth c A D G0 G H locs ls F I (ok_cs (ld_at hL hk) hS) hL hl)

theorem s_aload {i : Nat} {r : Option (Nat × Nat)} (hp : mt.2.2 pc = some (.aload i, 2, nx, tg, k0)) (hk : L[i]? = some (some (.inr (.inr r)))) (k : R d kc ks u v mt nx L (.inr (.inr r) :: S) h Q) : R d kc ks u v mt pc L S h Q := by
  intro l p e s m args below meth c A D G0 G H locs ls F I hS hL hl
  obtain ⟨hm, hx, hb, hr, hml, hown, hts, hlk, hnm⟩ := id F
  obtain ⟨hdg, hnx, htg, hck⟩ := hm.1 _ _ _ _ _ _ hp
  subst hnx
  have h1 := lvh_at hl hk
  have h2 := (k l p e s m args below meth c A D G0 G H locs ls F I (ok_cs (ld_at hL hk) hS) hL hl)
  cases r with
  | none => exact lv_aloadN hx hb hdg  h1 h2
  | some q => exact lv_aload hx hb hdg  h1 h2

theorem s_aload_n {i : Fin 4} {r : Option (Nat × Nat)} (hp : mt.2.2 pc = some (.aload_n i, 1, nx, tg, k0)) (hk : L[(i : Nat)]? = some (some (.inr (.inr r)))) (k : R d kc ks u v mt nx L (.inr (.inr r) :: S) h Q) : R d kc ks u v mt pc L S h Q := by
  intro l p e s m args below meth c A D G0 G H locs ls F I hS hL hl
  obtain ⟨hm, hx, hb, hr, hml, hown, hts, hlk, hnm⟩ := id F
  obtain ⟨hdg, hnx, htg, hck⟩ := hm.1 _ _ _ _ _ _ hp
  subst hnx
  have h1 := lvh_at hl hk
  have h2 := (k l p e s m args below meth c A D G0 G H locs ls F I (ok_cs (ld_at hL hk) hS) hL hl)
  cases r with
  | none => exact lv_aload_nN hx hb hdg rfl  h1 h2
  | some q => exact lv_aload_n hx hb hdg rfl  h1 h2

theorem s_istore {i : Nat} {x : Int32} (hp : mt.2.2 pc = some (.istore i, 2, nx, tg, k0)) (hi : i < mt.1.2.2.1) (k : R d kc ks u v mt nx (stL L i (.inl x)) S h Q) : R d kc ks u v mt pc L (.inl x :: S) h Q := by
  intro l p e s m args below meth c A D G0 G H locs ls F I hS hL hl
  obtain ⟨hm, hx, hb, hr, hml, hown, hts, hlk, hnm⟩ := id F
  obtain ⟨hdg, hnx, htg, hck⟩ := hm.1 _ _ _ _ _ _ hp
  subst hnx
  exact lv_istore hx hb hdg hl hi rfl (fun ls' hl' => (k l p e s m args below meth c A D G0 G H locs ls' F I (ok_tl hS) (okl_stL hL okv_i) (lvh_mono hl' (lpos_stL (v := .inl x)))))

theorem s_istore_n {i : Fin 4} {x : Int32} (hp : mt.2.2 pc = some (.istore_n i, 1, nx, tg, k0)) (hi : (i : Nat) < mt.1.2.2.1) (k : R d kc ks u v mt nx (stL L (i : Nat) (.inl x)) S h Q) : R d kc ks u v mt pc L (.inl x :: S) h Q := by
  intro l p e s m args below meth c A D G0 G H locs ls F I hS hL hl
  obtain ⟨hm, hx, hb, hr, hml, hown, hts, hlk, hnm⟩ := id F
  obtain ⟨hdg, hnx, htg, hck⟩ := hm.1 _ _ _ _ _ _ hp
  subst hnx
  exact lv_istore_n hx hb hdg rfl hl hi rfl (fun ls' hl' => (k l p e s m args below meth c A D G0 G H locs ls' F I (ok_tl hS) (okl_stL hL okv_i) (lvh_mono hl' (lpos_stL (v := .inl x)))))

theorem s_lstore {i : Nat} {x : Int64} (hp : mt.2.2 pc = some (.lstore i, 2, nx, tg, k0)) (hi : i + 1 < mt.1.2.2.1) (k : R d kc ks u v mt nx (stL2 L i (.inr (.inl x))) S h Q) : R d kc ks u v mt pc L (.inr (.inl x) :: S) h Q := by
  intro l p e s m args below meth c A D G0 G H locs ls F I hS hL hl
  obtain ⟨hm, hx, hb, hr, hml, hown, hts, hlk, hnm⟩ := id F
  obtain ⟨hdg, hnx, htg, hck⟩ := hm.1 _ _ _ _ _ _ hp
  subst hnx
  exact lv_lstore hx hb hdg hl hi rfl (fun ls' hl' => (k l p e s m args below meth c A D G0 G H locs ls' F I (ok_tl hS) (okl_stL2 hL okv_l) (lvh_mono hl' (lpos_stL2 (v := .inr (.inl x))))))

theorem s_lstore_n {i : Fin 4} {x : Int64} (hp : mt.2.2 pc = some (.lstore_n i, 1, nx, tg, k0)) (hi : (i : Nat) + 1 < mt.1.2.2.1) (k : R d kc ks u v mt nx (stL2 L (i : Nat) (.inr (.inl x))) S h Q) : R d kc ks u v mt pc L (.inr (.inl x) :: S) h Q := by
  intro l p e s m args below meth c A D G0 G H locs ls F I hS hL hl
  obtain ⟨hm, hx, hb, hr, hml, hown, hts, hlk, hnm⟩ := id F
  obtain ⟨hdg, hnx, htg, hck⟩ := hm.1 _ _ _ _ _ _ hp
  subst hnx
  exact lv_lstore_n hx hb hdg rfl hl hi rfl (fun ls' hl' => (k l p e s m args below meth c A D G0 G H locs ls' F I (ok_tl hS) (okl_stL2 hL okv_l) (lvh_mono hl' (lpos_stL2 (v := .inr (.inl x))))))

theorem s_astore {i : Nat} {r : Option (Nat × Nat)} (hp : mt.2.2 pc = some (.astore i, 2, nx, tg, k0)) (hi : i < mt.1.2.2.1) (k : R d kc ks u v mt nx (stL L i (.inr (.inr r))) S h Q) : R d kc ks u v mt pc L (.inr (.inr r) :: S) h Q := by
  intro l p e s m args below meth c A D G0 G H locs ls F I hS hL hl
  obtain ⟨hm, hx, hb, hr, hml, hown, hts, hlk, hnm⟩ := id F
  obtain ⟨hdg, hnx, htg, hck⟩ := hm.1 _ _ _ _ _ _ hp
  subst hnx
  have hk := fun ls' hl' => (k l p e s m args below meth c A D G0 G H locs ls' F I (ok_tl hS) (okl_stL hL (ok_hd hS)) (lvh_mono hl' (lpos_stL (v := .inr (.inr r)))))
  cases r with
  | none => exact lv_astoreN hx hb hdg hl hi rfl hk
  | some q => exact lv_astore hx hb hdg hl hi rfl hk

theorem s_astore_n {i : Fin 4} {r : Option (Nat × Nat)} (hp : mt.2.2 pc = some (.astore_n i, 1, nx, tg, k0)) (hi : (i : Nat) < mt.1.2.2.1) (k : R d kc ks u v mt nx (stL L (i : Nat) (.inr (.inr r))) S h Q) : R d kc ks u v mt pc L (.inr (.inr r) :: S) h Q := by
  intro l p e s m args below meth c A D G0 G H locs ls F I hS hL hl
  obtain ⟨hm, hx, hb, hr, hml, hown, hts, hlk, hnm⟩ := id F
  obtain ⟨hdg, hnx, htg, hck⟩ := hm.1 _ _ _ _ _ _ hp
  subst hnx
  have hk := fun ls' hl' => (k l p e s m args below meth c A D G0 G H locs ls' F I (ok_tl hS) (okl_stL hL (ok_hd hS)) (lvh_mono hl' (lpos_stL (v := .inr (.inr r)))))
  cases r with
  | none => exact lv_astore_nN hx hb hdg rfl hl hi rfl hk
  | some q => exact lv_astore_n hx hb hdg rfl hl hi rfl hk

theorem s_iinc {i : Nat} {n : Int} {x : Int32} (hp : mt.2.2 pc = some (.iinc i n, 3, nx, tg, k0)) (hi : i < mt.1.2.2.1) (hk : L[i]? = some (some (.inl x))) (k : R d kc ks u v mt nx (stL L i (.inl (x + k0))) S h Q) : R d kc ks u v mt pc L S h Q := by
  intro l p e s m args below meth c A D G0 G H locs ls F I hS hL hl
  obtain ⟨hm, hx, hb, hr, hml, hown, hts, hlk, hnm⟩ := id F
  obtain ⟨hdg, hnx, htg, hck⟩ := hm.1 _ _ _ _ _ _ hp
  subst hnx
  have h0 := lpos_in (ad := G.2.1) (b := 0) hk
  rw [Nat.zero_add] at h0
  obtain ⟨j, hj⟩ := List.getElem?_of_mem h0
  exact lv_iinc hx hb hdg hl hj (by have := (show Int32.ofInt n = k0 by simpa [cok] using hck); rw [this]) hi rfl (fun ls' hl' => (k l p e s m args below meth c A D G0 G H locs ls' F I hS (okl_stL hL okv_i) (lvh_mono hl' (lpos_stL (v := .inl (x + k0))))))

theorem s_dup {a : AV} (ha : isL (some a) = false) (hp : mt.2.2 pc = some (.dup, 1, nx, tg, k0)) (k : R d kc ks u v mt nx L (a :: a :: S) h Q) : R d kc ks u v mt pc L (a :: S) h Q := by
  intro l p e s m args below meth c A D G0 G H locs ls F I hS hL hl
  obtain ⟨hm, hx, hb, hr, hml, hown, hts, hlk, hnm⟩ := id F
  obtain ⟨hdg, hnx, htg, hck⟩ := hm.1 _ _ _ _ _ _ hp
  subst hnx
  exact lv_dup hx hb hdg (by rcases a with x | x | r; · rfl
                             · cases ha
                             · cases r <;> rfl) (k l p e s m args below meth c A D G0 G H locs ls F I (ok_cs (ok_hd hS) hS) hL hl)

theorem s_dup2 {x : Int32} {r : Option (Nat × Nat)} (hp : mt.2.2 pc = some (.dup2, 1, nx, tg, k0)) (k : R d kc ks u v mt nx L (.inl x :: .inr (.inr r) :: .inl x :: .inr (.inr r) :: S) h Q) : R d kc ks u v mt pc L (.inl x :: .inr (.inr r) :: S) h Q := by
  intro l p e s m args below meth c A D G0 G H locs ls F I hS hL hl
  obtain ⟨hm, hx, hb, hr, hml, hown, hts, hlk, hnm⟩ := id F
  obtain ⟨hdg, hnx, htg, hck⟩ := hm.1 _ _ _ _ _ _ hp
  subst hnx
  exact lv_dup2_11 hx hb hdg rfl (by cases r <;> rfl) (k l p e s m args below meth c A D G0 G H locs ls F I (ok_cs okv_i (ok_cs (ok_hd (ok_tl hS)) hS)) hL hl)

theorem s_pop {a : AV} (ha : isL (some a) = false) (hp : mt.2.2 pc = some (.pop, 1, nx, tg, k0)) (k : R d kc ks u v mt nx L S h Q) : R d kc ks u v mt pc L (a :: S) h Q := by
  intro l p e s m args below meth c A D G0 G H locs ls F I hS hL hl
  obtain ⟨hm, hx, hb, hr, hml, hown, hts, hlk, hnm⟩ := id F
  obtain ⟨hdg, hnx, htg, hck⟩ := hm.1 _ _ _ _ _ _ hp
  subst hnx
  exact lv_pop hx hb hdg (by rcases a with x | x | r; · rfl
                             · cases ha
                             · cases r <;> rfl) (k l p e s m args below meth c A D G0 G H locs ls F I (ok_tl hS) hL hl)

theorem s_goto {off : Int} (hp : mt.2.2 pc = some (.goto off, 3, nx, tg, k0)) (k : R d kc ks u v mt tg L S h Q) : R d kc ks u v mt pc L S h Q := by
  intro l p e s m args below meth c A D G0 G H locs ls F I hS hL hl
  obtain ⟨hm, hx, hb, hr, hml, hown, hts, hlk, hnm⟩ := id F
  obtain ⟨hdg, hnx, htg, hck⟩ := hm.1 _ _ _ _ _ _ hp
  subst hnx
  exact lv_goto hx hb hdg (by simpa [tok] using htg) (k l p e s m args below meth c A D G0 G H locs ls F I hS hL hl)

theorem s_ifnull_some {off : Int} {q : Nat × Nat} (hp : mt.2.2 pc = some (.ifnull off, 3, nx, tg, k0)) (k : R d kc ks u v mt nx L S h Q) : R d kc ks u v mt pc L (.inr (.inr (some q)) :: S) h Q := by
  intro l p e s m args below meth c A D G0 G H locs ls F I hS hL hl
  obtain ⟨hm, hx, hb, hr, hml, hown, hts, hlk, hnm⟩ := id F
  obtain ⟨hdg, hnx, htg, hck⟩ := hm.1 _ _ _ _ _ _ hp
  subst hnx
  exact lv_ifnull hx hb hdg (k l p e s m args below meth c A D G0 G H locs ls F I (ok_tl hS) hL hl)
theorem s_ifnull_none {off : Int} (hp : mt.2.2 pc = some (.ifnull off, 3, nx, tg, k0)) (k : R d kc ks u v mt tg L S h Q) : R d kc ks u v mt pc L (.inr (.inr none) :: S) h Q := by
  intro l p e s m args below meth c A D G0 G H locs ls F I hS hL hl
  obtain ⟨hm, hx, hb, hr, hml, hown, hts, hlk, hnm⟩ := id F
  obtain ⟨hdg, hnx, htg, hck⟩ := hm.1 _ _ _ _ _ _ hp
  subst hnx
  exact lv_ifnullN hx hb hdg (by simpa [tok] using htg) (k l p e s m args below meth c A D G0 G H locs ls F I (ok_tl hS) hL hl)

theorem s_ifnonnull_some {off : Int} {q : Nat × Nat} (hp : mt.2.2 pc = some (.ifnonnull off, 3, nx, tg, k0)) (k : R d kc ks u v mt tg L S h Q) : R d kc ks u v mt pc L (.inr (.inr (some q)) :: S) h Q := by
  intro l p e s m args below meth c A D G0 G H locs ls F I hS hL hl
  obtain ⟨hm, hx, hb, hr, hml, hown, hts, hlk, hnm⟩ := id F
  obtain ⟨hdg, hnx, htg, hck⟩ := hm.1 _ _ _ _ _ _ hp
  subst hnx
  exact lv_ifnonnull hx hb hdg (by simpa [tok] using htg) (k l p e s m args below meth c A D G0 G H locs ls F I (ok_tl hS) hL hl)
theorem s_ifnonnull_none {off : Int} (hp : mt.2.2 pc = some (.ifnonnull off, 3, nx, tg, k0)) (k : R d kc ks u v mt nx L S h Q) : R d kc ks u v mt pc L (.inr (.inr none) :: S) h Q := by
  intro l p e s m args below meth c A D G0 G H locs ls F I hS hL hl
  obtain ⟨hm, hx, hb, hr, hml, hown, hts, hlk, hnm⟩ := id F
  obtain ⟨hdg, hnx, htg, hck⟩ := hm.1 _ _ _ _ _ _ hp
  subst hnx
  exact lv_ifnonnullN hx hb hdg (k l p e s m args below meth c A D G0 G H locs ls F I (ok_tl hS) hL hl)

theorem s_if_eq {x : Int32} {off : Int} (hp : mt.2.2 pc = some (.ifCond .eq off, 3, nx, tg, k0)) (kt : x = 0 → R d kc ks u v mt tg L S h Q) (kf : ¬ (x = 0) → R d kc ks u v mt nx L S h Q) : R d kc ks u v mt pc L (.inl x :: S) h Q := by
  intro l p e s m args below meth c A D G0 G H locs ls F I hS hL hl
  obtain ⟨hm, hx, hb, hr, hml, hown, hts, hlk, hnm⟩ := id F
  obtain ⟨hdg, hnx, htg, hck⟩ := hm.1 _ _ _ _ _ _ hp
  subst hnx
  exact lv_if_eq hx hb hdg (by simpa [tok] using htg) (fun z => (kt z l p e s m args below meth c A D G0 G H locs ls F I (ok_tl hS) hL hl)) (fun z => (kf z l p e s m args below meth c A D G0 G H locs ls F I (ok_tl hS) hL hl))

theorem s_icmp_eq {x y : Int32} {off : Int} (hp : mt.2.2 pc = some (.if_icmp .eq off, 3, nx, tg, k0)) (kt : x = y → R d kc ks u v mt tg L S h Q) (kf : ¬ (x = y) → R d kc ks u v mt nx L S h Q) : R d kc ks u v mt pc L (.inl y :: .inl x :: S) h Q := by
  intro l p e s m args below meth c A D G0 G H locs ls F I hS hL hl
  obtain ⟨hm, hx, hb, hr, hml, hown, hts, hlk, hnm⟩ := id F
  obtain ⟨hdg, hnx, htg, hck⟩ := hm.1 _ _ _ _ _ _ hp
  subst hnx
  exact lv_icmp_eq hx hb hdg (by simpa [tok] using htg) (fun z => (kt z l p e s m args below meth c A D G0 G H locs ls F I (ok_tl (ok_tl hS)) hL hl)) (fun z => (kf z l p e s m args below meth c A D G0 G H locs ls F I (ok_tl (ok_tl hS)) hL hl))

theorem s_if_ne {x : Int32} {off : Int} (hp : mt.2.2 pc = some (.ifCond .ne off, 3, nx, tg, k0)) (kt : ¬ x = 0 → R d kc ks u v mt tg L S h Q) (kf : x = 0 → R d kc ks u v mt nx L S h Q) : R d kc ks u v mt pc L (.inl x :: S) h Q := by
  intro l p e s m args below meth c A D G0 G H locs ls F I hS hL hl
  obtain ⟨hm, hx, hb, hr, hml, hown, hts, hlk, hnm⟩ := id F
  obtain ⟨hdg, hnx, htg, hck⟩ := hm.1 _ _ _ _ _ _ hp
  subst hnx
  exact lv_if_ne hx hb hdg (by simpa [tok] using htg) (fun z => (kt z l p e s m args below meth c A D G0 G H locs ls F I (ok_tl hS) hL hl)) (fun z => (kf z l p e s m args below meth c A D G0 G H locs ls F I (ok_tl hS) hL hl))

theorem s_icmp_ne {x y : Int32} {off : Int} (hp : mt.2.2 pc = some (.if_icmp .ne off, 3, nx, tg, k0)) (kt : ¬ x = y → R d kc ks u v mt tg L S h Q) (kf : x = y → R d kc ks u v mt nx L S h Q) : R d kc ks u v mt pc L (.inl y :: .inl x :: S) h Q := by
  intro l p e s m args below meth c A D G0 G H locs ls F I hS hL hl
  obtain ⟨hm, hx, hb, hr, hml, hown, hts, hlk, hnm⟩ := id F
  obtain ⟨hdg, hnx, htg, hck⟩ := hm.1 _ _ _ _ _ _ hp
  subst hnx
  exact lv_icmp_ne hx hb hdg (by simpa [tok] using htg) (fun z => (kt z l p e s m args below meth c A D G0 G H locs ls F I (ok_tl (ok_tl hS)) hL hl)) (fun z => (kf z l p e s m args below meth c A D G0 G H locs ls F I (ok_tl (ok_tl hS)) hL hl))

theorem s_if_lt {x : Int32} {off : Int} (hp : mt.2.2 pc = some (.ifCond .lt off, 3, nx, tg, k0)) (kt : x < 0 → R d kc ks u v mt tg L S h Q) (kf : ¬ (x < 0) → R d kc ks u v mt nx L S h Q) : R d kc ks u v mt pc L (.inl x :: S) h Q := by
  intro l p e s m args below meth c A D G0 G H locs ls F I hS hL hl
  obtain ⟨hm, hx, hb, hr, hml, hown, hts, hlk, hnm⟩ := id F
  obtain ⟨hdg, hnx, htg, hck⟩ := hm.1 _ _ _ _ _ _ hp
  subst hnx
  exact lv_if_lt hx hb hdg (by simpa [tok] using htg) (fun z => (kt z l p e s m args below meth c A D G0 G H locs ls F I (ok_tl hS) hL hl)) (fun z => (kf z l p e s m args below meth c A D G0 G H locs ls F I (ok_tl hS) hL hl))

theorem s_icmp_lt {x y : Int32} {off : Int} (hp : mt.2.2 pc = some (.if_icmp .lt off, 3, nx, tg, k0)) (kt : x < y → R d kc ks u v mt tg L S h Q) (kf : ¬ (x < y) → R d kc ks u v mt nx L S h Q) : R d kc ks u v mt pc L (.inl y :: .inl x :: S) h Q := by
  intro l p e s m args below meth c A D G0 G H locs ls F I hS hL hl
  obtain ⟨hm, hx, hb, hr, hml, hown, hts, hlk, hnm⟩ := id F
  obtain ⟨hdg, hnx, htg, hck⟩ := hm.1 _ _ _ _ _ _ hp
  subst hnx
  exact lv_icmp_lt hx hb hdg (by simpa [tok] using htg) (fun z => (kt z l p e s m args below meth c A D G0 G H locs ls F I (ok_tl (ok_tl hS)) hL hl)) (fun z => (kf z l p e s m args below meth c A D G0 G H locs ls F I (ok_tl (ok_tl hS)) hL hl))

theorem s_if_ge {x : Int32} {off : Int} (hp : mt.2.2 pc = some (.ifCond .ge off, 3, nx, tg, k0)) (kt : 0 ≤ x → R d kc ks u v mt tg L S h Q) (kf : ¬ (0 ≤ x) → R d kc ks u v mt nx L S h Q) : R d kc ks u v mt pc L (.inl x :: S) h Q := by
  intro l p e s m args below meth c A D G0 G H locs ls F I hS hL hl
  obtain ⟨hm, hx, hb, hr, hml, hown, hts, hlk, hnm⟩ := id F
  obtain ⟨hdg, hnx, htg, hck⟩ := hm.1 _ _ _ _ _ _ hp
  subst hnx
  exact lv_if_ge hx hb hdg (by simpa [tok] using htg) (fun z => (kt z l p e s m args below meth c A D G0 G H locs ls F I (ok_tl hS) hL hl)) (fun z => (kf z l p e s m args below meth c A D G0 G H locs ls F I (ok_tl hS) hL hl))

theorem s_icmp_ge {x y : Int32} {off : Int} (hp : mt.2.2 pc = some (.if_icmp .ge off, 3, nx, tg, k0)) (kt : y ≤ x → R d kc ks u v mt tg L S h Q) (kf : ¬ (y ≤ x) → R d kc ks u v mt nx L S h Q) : R d kc ks u v mt pc L (.inl y :: .inl x :: S) h Q := by
  intro l p e s m args below meth c A D G0 G H locs ls F I hS hL hl
  obtain ⟨hm, hx, hb, hr, hml, hown, hts, hlk, hnm⟩ := id F
  obtain ⟨hdg, hnx, htg, hck⟩ := hm.1 _ _ _ _ _ _ hp
  subst hnx
  exact lv_icmp_ge hx hb hdg (by simpa [tok] using htg) (fun z => (kt z l p e s m args below meth c A D G0 G H locs ls F I (ok_tl (ok_tl hS)) hL hl)) (fun z => (kf z l p e s m args below meth c A D G0 G H locs ls F I (ok_tl (ok_tl hS)) hL hl))

theorem s_if_gt {x : Int32} {off : Int} (hp : mt.2.2 pc = some (.ifCond .gt off, 3, nx, tg, k0)) (kt : 0 < x → R d kc ks u v mt tg L S h Q) (kf : ¬ (0 < x) → R d kc ks u v mt nx L S h Q) : R d kc ks u v mt pc L (.inl x :: S) h Q := by
  intro l p e s m args below meth c A D G0 G H locs ls F I hS hL hl
  obtain ⟨hm, hx, hb, hr, hml, hown, hts, hlk, hnm⟩ := id F
  obtain ⟨hdg, hnx, htg, hck⟩ := hm.1 _ _ _ _ _ _ hp
  subst hnx
  exact lv_if_gt hx hb hdg (by simpa [tok] using htg) (fun z => (kt z l p e s m args below meth c A D G0 G H locs ls F I (ok_tl hS) hL hl)) (fun z => (kf z l p e s m args below meth c A D G0 G H locs ls F I (ok_tl hS) hL hl))

theorem s_icmp_gt {x y : Int32} {off : Int} (hp : mt.2.2 pc = some (.if_icmp .gt off, 3, nx, tg, k0)) (kt : y < x → R d kc ks u v mt tg L S h Q) (kf : ¬ (y < x) → R d kc ks u v mt nx L S h Q) : R d kc ks u v mt pc L (.inl y :: .inl x :: S) h Q := by
  intro l p e s m args below meth c A D G0 G H locs ls F I hS hL hl
  obtain ⟨hm, hx, hb, hr, hml, hown, hts, hlk, hnm⟩ := id F
  obtain ⟨hdg, hnx, htg, hck⟩ := hm.1 _ _ _ _ _ _ hp
  subst hnx
  exact lv_icmp_gt hx hb hdg (by simpa [tok] using htg) (fun z => (kt z l p e s m args below meth c A D G0 G H locs ls F I (ok_tl (ok_tl hS)) hL hl)) (fun z => (kf z l p e s m args below meth c A D G0 G H locs ls F I (ok_tl (ok_tl hS)) hL hl))

theorem s_if_le {x : Int32} {off : Int} (hp : mt.2.2 pc = some (.ifCond .le off, 3, nx, tg, k0)) (kt : x ≤ 0 → R d kc ks u v mt tg L S h Q) (kf : ¬ (x ≤ 0) → R d kc ks u v mt nx L S h Q) : R d kc ks u v mt pc L (.inl x :: S) h Q := by
  intro l p e s m args below meth c A D G0 G H locs ls F I hS hL hl
  obtain ⟨hm, hx, hb, hr, hml, hown, hts, hlk, hnm⟩ := id F
  obtain ⟨hdg, hnx, htg, hck⟩ := hm.1 _ _ _ _ _ _ hp
  subst hnx
  exact lv_if_le hx hb hdg (by simpa [tok] using htg) (fun z => (kt z l p e s m args below meth c A D G0 G H locs ls F I (ok_tl hS) hL hl)) (fun z => (kf z l p e s m args below meth c A D G0 G H locs ls F I (ok_tl hS) hL hl))

theorem s_icmp_le {x y : Int32} {off : Int} (hp : mt.2.2 pc = some (.if_icmp .le off, 3, nx, tg, k0)) (kt : x ≤ y → R d kc ks u v mt tg L S h Q) (kf : ¬ (x ≤ y) → R d kc ks u v mt nx L S h Q) : R d kc ks u v mt pc L (.inl y :: .inl x :: S) h Q := by
  intro l p e s m args below meth c A D G0 G H locs ls F I hS hL hl
  obtain ⟨hm, hx, hb, hr, hml, hown, hts, hlk, hnm⟩ := id F
  obtain ⟨hdg, hnx, htg, hck⟩ := hm.1 _ _ _ _ _ _ hp
  subst hnx
  exact lv_icmp_le hx hb hdg (by simpa [tok] using htg) (fun z => (kt z l p e s m args below meth c A D G0 G H locs ls F I (ok_tl (ok_tl hS)) hL hl)) (fun z => (kf z l p e s m args below meth c A D G0 G H locs ls F I (ok_tl (ok_tl hS)) hL hl))

end RU
