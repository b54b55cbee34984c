/-! the law's own level -/
def LwA (p : Program) (s : State) (m : MethodId) (c : Code) (b N : Nat) (xs : Nat → Int32) : Prop := p.tables.exec = Jvm.exec ∧ c.code = code ∧ c.maxLocals = 4 ∧ s.vm.findClass RL = some m.cls ∧ (∀ w ∈ TW, w.before #[Value.ref b] s = true) ∧ va_X b N xs s s.heap ∧ b < s.heap.size
def sv (b : Nat) (G : Gh) (o : Option AV) : Value := match o with
  | none => .ref b
  | some x => cv G.2.1 x
def lll (b : Nat) (G : Gh) (i : Int32) : List (Nat × Value) := [(0, .ref b), (1, .ref (G.2.1 (0, 0))), (2, .ref (G.2.1 (31, 0))), (3, .int i)]
abbrev fre (s : State) : Nat → Prop := fun q => s.heap.size ≤ q
section LT
variable {p : Program} {l : Launch} {e : Env} {s : State} {m : MethodId} {below : List Frame} {meth : Method} {c : Code} {b N : Nat} {xs : Nat → Int32} {Z : State → Prop} {pc : Nat} {i : Int32} {S : List (Option AV)} {h : AH}
def T (p : Program) (l : Launch) (e : Env) (s : State) (m : MethodId) (below : List Frame) (meth : Method) (c : Code) (b : Nat) (Z : State → Prop) (pc : Nat) (i : Int32) (S : List (Option AV)) (h : AH) : Prop :=
  ∀ (D : va_G) (G : Gh) (H : Heap) (ls : Array Slot), Iv (fre s) D G G h s H [] → (∀ x, some x ∈ S → okv G x) → (0, 0) ∈ G.1 → (31, 0) ∈ G.1 → lv_has ls 4 (lll b G i) → W p l e room_1 s m #[Value.ref b] below meth c H [] 600000 7302250 Z (F0 m pc ls (S.map (sv b G)))
theorem tw_aload0 (F : LwA p s m c b N xs) (hd : decode code pc = .ok (.aload_n 0, 1)) (k : T p l e s m below meth c b Z (pc + 1) i (none :: S) h) : T p l e s m below meth c b Z pc i S h := by
  intro D G H ls I hS h0 h1 hl
  exact lv_aload_n F.1 F.2.1 hd rfl (lv_at hl 0 rfl) (k D G H ls I (fun x hx => hS x (by cases hx; assumption)) h0 h1 hl)
theorem tw_aload1 (F : LwA p s m c b N xs) (hd : decode code pc = .ok (.aload_n 1, 1)) (k : T p l e s m below meth c b Z (pc + 1) i (some (.inr (.inr (some (0, 0)))) :: S) h) : T p l e s m below meth c b Z pc i S h := by
  intro D G H ls I hS h0 h1 hl
  exact lv_aload_n F.1 F.2.1 hd rfl (lv_at hl 1 rfl) (k D G H ls I (fun x hx => by
    rcases List.mem_cons.mp hx with hx | hx
    · cases hx; intro q hq; cases hq; exact h0
    · exact hS x hx) h0 h1 hl)
theorem tw_aload2 (F : LwA p s m c b N xs) (hd : decode code pc = .ok (.aload_n 2, 1)) (k : T p l e s m below meth c b Z (pc + 1) i (some (.inr (.inr (some (31, 0)))) :: S) h) : T p l e s m below meth c b Z pc i S h := by
  intro D G H ls I hS h0 h1 hl
  exact lv_aload_n F.1 F.2.1 hd rfl (lv_at hl 2 rfl) (k D G H ls I (fun x hx => by
    rcases List.mem_cons.mp hx with hx | hx
    · cases hx; intro q hq; cases hq; exact h1
    · exact hS x hx) h0 h1 hl)
theorem ok_i {G : Gh} {x : Int32} {S : List (Option AV)} (hS : ∀ x, some x ∈ S → okv G x) : ∀ y, some y ∈ (some (.inl x) :: S : List (Option AV)) → okv G y := fun y hy => by
  rcases List.mem_cons.mp hy with hy | hy
  · cases hy; intro q hq; cases hq
  · exact hS y hy
theorem ok_l {G : Gh} {x : Int64} {S : List (Option AV)} (hS : ∀ x, some x ∈ S → okv G x) : ∀ y, some y ∈ (some (.inr (.inl x)) :: S : List (Option AV)) → okv G y := fun y hy => by
  rcases List.mem_cons.mp hy with hy | hy
  · cases hy; intro q hq; cases hq
  · exact hS y hy
theorem ok_t {G : Gh} {o : Option AV} {S : List (Option AV)} (hS : ∀ x, some x ∈ (o :: S) → okv G x) : ∀ x, some x ∈ S → okv G x := fun x hx => hS x (List.mem_cons_of_mem _ hx)
theorem tw_iload3 (F : LwA p s m c b N xs) (hd : decode code pc = .ok (.iload_n 3, 1)) (k : T p l e s m below meth c b Z (pc + 1) i (some (.inl i) :: S) h) : T p l e s m below meth c b Z pc i S h := by
  intro D G H ls I hS h0 h1 hl
  exact lv_iload_n F.1 F.2.1 hd rfl (lv_at hl 3 rfl) (k D G H ls I (ok_i hS) h0 h1 hl)
theorem tw_iconst {n : Int} (v : Int32) (F : LwA p s m c b N xs) (hd : decode code pc = .ok (.iconst n, 1)) (hv : Int32.ofInt n = v) (k : T p l e s m below meth c b Z (pc + 1) i (some (.inl v) :: S) h) : T p l e s m below meth c b Z pc i S h := by
  intro D G H ls I hS h0 h1 hl
  exact lv_iconst F.1 F.2.1 hd hv (k D G H ls I (ok_i hS) h0 h1 hl)
theorem tw_bipush {n : Int} (v : Int32) (F : LwA p s m c b N xs) (hd : decode code pc = .ok (.bipush n, 2)) (hv : (Int8.ofInt n).toInt32 = v) (k : T p l e s m below meth c b Z (pc + 2) i (some (.inl v) :: S) h) : T p l e s m below meth c b Z pc i S h := by
  intro D G H ls I hS h0 h1 hl
  exact lv_bipush F.1 F.2.1 hd hv (k D G H ls I (ok_i hS) h0 h1 hl)
theorem tw_iadd {x y : Int32} (F : LwA p s m c b N xs) (hd : decode code pc = .ok (.iadd, 1)) (k : T p l e s m below meth c b Z (pc + 1) i (some (.inl (x + y)) :: S) h) : T p l e s m below meth c b Z pc i (some (.inl y) :: some (.inl x) :: S) h := by
  intro D G H ls I hS h0 h1 hl
  exact lv_iadd F.1 F.2.1 hd (k D G H ls I (ok_i (ok_t (ok_t hS))) h0 h1 hl)
theorem tw_isub {x y : Int32} (F : LwA p s m c b N xs) (hd : decode code pc = .ok (.isub, 1)) (k : T p l e s m below meth c b Z (pc + 1) i (some (.inl (x - y)) :: S) h) : T p l e s m below meth c b Z pc i (some (.inl y) :: some (.inl x) :: S) h := by
  intro D G H ls I hS h0 h1 hl
  exact lv_isub F.1 F.2.1 hd (k D G H ls I (ok_i (ok_t (ok_t hS))) h0 h1 hl)
theorem tw_iand {x y : Int32} (F : LwA p s m c b N xs) (hd : decode code pc = .ok (.iand, 1)) (k : T p l e s m below meth c b Z (pc + 1) i (some (.inl (x &&& y)) :: S) h) : T p l e s m below meth c b Z pc i (some (.inl y) :: some (.inl x) :: S) h := by
  intro D G H ls I hS h0 h1 hl
  exact lv_iand F.1 F.2.1 hd (k D G H ls I (ok_i (ok_t (ok_t hS))) h0 h1 hl)
theorem tw_iaload {x : Int32} (F : LwA p s m c b N xs) (hin : vp_in x N) (hd : decode code pc = .ok (.iaload, 1)) (k : T p l e s m below meth c b Z (pc + 1) i (some (.inl (xs x.toNatClampNeg)) :: S) h) : T p l e s m below meth c b Z pc i (some (.inl x) :: none :: S) h := by
  intro D G H ls I hS h0 h1 hl
  exact va_sld F.1 F.2.1 F.2.2.2.2.2.1 F.2.2.2.2.2.2 (show ¬ s.heap.size ≤ b from Nat.not_le.mpr F.2.2.2.2.2.2) I.2.2.2.2.1 hin hd (k D G H ls I (ok_i (ok_t (ok_t hS))) h0 h1 hl)
theorem tw_alen (F : LwA p s m c b N xs) (hd : decode code pc = .ok (.arraylength, 1)) (k : T p l e s m below meth c b Z (pc + 1) i (some (.inl (nI N)) :: S) h) : T p l e s m below meth c b Z pc i (none :: S) h := by
  intro D G H ls I hS h0 h1 hl
  exact va_slen F.1 F.2.1 F.2.2.2.2.2.1 F.2.2.2.2.2.2 (show ¬ s.heap.size ≤ b from Nat.not_le.mpr F.2.2.2.2.2.2) I.2.2.2.2.1 hd (k D G H ls I (ok_i (ok_t hS)) h0 h1 hl)
theorem tw_i2l {x : Int32} (F : LwA p s m c b N xs) (hd : decode code pc = .ok (.i2l, 1)) (k : T p l e s m below meth c b Z (pc + 1) i (some (.inr (.inl x.toInt64)) :: S) h) : T p l e s m below meth c b Z pc i (some (.inl x) :: S) h := by
  intro D G H ls I hS h0 h1 hl
  exact lv_i2l F.1 F.2.1 hd rfl (k D G H ls I (ok_l (ok_t hS)) h0 h1 hl)
theorem tw_lshl {x : Int64} {y : Int32} (F : LwA p s m c b N xs) (hd : decode code pc = .ok (.lshl, 1)) (k : T p l e s m below meth c b Z (pc + 1) i (some (.inr (.inl (x <<< (y.toInt64 &&& 63)))) :: S) h) : T p l e s m below meth c b Z pc i (some (.inl y) :: some (.inr (.inl x)) :: S) h := by
  intro D G H ls I hS h0 h1 hl
  exact lv_lshl F.1 F.2.1 hd rfl (k D G H ls I (ok_l (ok_t (ok_t hS))) h0 h1 hl)
theorem tw_land {x y : Int64} (F : LwA p s m c b N xs) (hd : decode code pc = .ok (.land, 1)) (k : T p l e s m below meth c b Z (pc + 1) i (some (.inr (.inl (x &&& y))) :: S) h) : T p l e s m below meth c b Z pc i (some (.inr (.inl y)) :: some (.inr (.inl x)) :: S) h := by
  intro D G H ls I hS h0 h1 hl
  exact lv_land F.1 F.2.1 hd (k D G H ls I (ok_l (ok_t (ok_t hS))) h0 h1 hl)
theorem tw_lor {x y : Int64} (F : LwA p s m c b N xs) (hd : decode code pc = .ok (.lor, 1)) (k : T p l e s m below meth c b Z (pc + 1) i (some (.inr (.inl (x ||| y))) :: S) h) : T p l e s m below meth c b Z pc i (some (.inr (.inl y)) :: some (.inr (.inl x)) :: S) h := by
  intro D G H ls I hS h0 h1 hl
  exact lv_lor F.1 F.2.1 hd (k D G H ls I (ok_l (ok_t (ok_t hS))) h0 h1 hl)
theorem tw_ldc2 {idx : Nat} {v : Int64} (F : LwA p s m c b N xs) (hd : decode code pc = .ok (.ldc2_w idx, 3)) (hw : Cond.constantLong RL idx v ∈ TW) (k : T p l e s m below meth c b Z (pc + 3) i (some (.inr (.inl v)) :: S) h) : T p l e s m below meth c b Z pc i S h := by
  intro D G H ls I hS h0 h1 hl
  exact lv_ldc2 F.1 F.2.1 F.2.2.2.1 (F.2.2.2.2.1 _ hw) hd (k D G H ls I (ok_l hS) h0 h1 hl)
theorem tw_goto {off : Int} (tg : Nat) (F : LwA p s m c b N xs) (hd : decode code pc = .ok (.goto off, 3)) (ht : (pc : Int) + off = (tg : Int)) (k : T p l e s m below meth c b Z tg i S h) : T p l e s m below meth c b Z pc i S h := by
  intro D G H ls I hS h0 h1 hl
  exact lv_goto F.1 F.2.1 hd ht (k D G H ls I hS h0 h1 hl)
end LT
