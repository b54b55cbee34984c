/-! the law's own level -/
def LwA (p : Program) (s : State) (m : MethodId) (c : Code) (b N : Nat) (xs : Nat → Int32) : Prop := p.tables.exec = Jvm.exec ∧ c.code = code ∧ c.maxLocals = 4 ∧ s.vm.findClass RL = some m.cls ∧ (∀ w ∈ TW, w.before #[Value.ref b] s = true) ∧ va_X b N xs s s.heap ∧ b < s.heap.size
def sv (b : Nat) (G : Gh) (o : Option AV) : Value := match o with
  | none => .ref b
  | some x => cv G.2.1 x
def lll (b : Nat) (G : Gh) (i : Int32) : List (Nat × Value) := [(0, .ref b), (1, .ref (G.2.1 (0, 0))), (2, .ref (G.2.1 (31, 0))), (3, .int i)]
abbrev fre (s : State) : Nat → Prop := fun q => s.heap.size ≤ q
section LT
variable {p : Program} {l : Launch} {e : Env} {s : State} {m : MethodId} {below : List Frame} {meth : Method} {c : Code} {b N : Nat} {xs : Nat → Int32} {Z : State → Prop} {pc : Nat} {i : Int32} {S : List (Option AV)} {h : AH}
def T (p : Program) (l : Launch) (e : Env) (s : State) (m : MethodId) (below : List Frame) (meth : Method) (c : Code) (b : Nat) (Z : State → Prop) (pc : Nat) (i : Int32) (S : List (Option AV)) (h : AH) : Prop :=
  ∀ (D : va_G) (G : Gh) (H : Heap) (ls : Array Slot) (lo : List Loc), Iv (fre s) D G G h s H lo → (∀ x, some x ∈ S → okv G x) → (0, 0) ∈ G.1 → (31, 0) ∈ G.1 → lv_has ls 4 (lll b G i) → W p l e room_1 s m #[Value.ref b] below meth c H lo 600000 7302250 Z (F0 m pc ls (S.map (sv b G)))
theorem tw_aload0 (F : LwA p s m c b N xs) (hd : decode code pc = .ok (.aload_n 0, 1)) (k : T p l e s m below meth c b Z (pc + 1) i (none :: S) h) : T p l e s m below meth c b Z pc i S h := by
  intro D G H ls lo I hS h0 h1 hl
  exact lv_aload_n F.1 F.2.1 hd rfl (lv_at hl 0 rfl) (k D G H ls lo I (fun x hx => hS x (by cases hx; assumption)) h0 h1 hl)
theorem tw_aload1 (F : LwA p s m c b N xs) (hd : decode code pc = .ok (.aload_n 1, 1)) (k : T p l e s m below meth c b Z (pc + 1) i (some (.inr (.inr (some (0, 0)))) :: S) h) : T p l e s m below meth c b Z pc i S h := by
  intro D G H ls lo I hS h0 h1 hl
  exact lv_aload_n F.1 F.2.1 hd rfl (lv_at hl 1 rfl) (k D G H ls lo I (fun x hx => by
    rcases List.mem_cons.mp hx with hx | hx
    · cases hx; intro q hq; cases hq; exact h0
    · exact hS x hx) h0 h1 hl)
theorem tw_aload2 (F : LwA p s m c b N xs) (hd : decode code pc = .ok (.aload_n 2, 1)) (k : T p l e s m below meth c b Z (pc + 1) i (some (.inr (.inr (some (31, 0)))) :: S) h) : T p l e s m below meth c b Z pc i S h := by
  intro D G H ls lo I hS h0 h1 hl
  exact lv_aload_n F.1 F.2.1 hd rfl (lv_at hl 2 rfl) (k D G H ls lo I (fun x hx => by
    rcases List.mem_cons.mp hx with hx | hx
    · cases hx; intro q hq; cases hq; exact h1
    · exact hS x hx) h0 h1 hl)
theorem ok_i {G : Gh} {x : Int32} {S : List (Option AV)} (hS : ∀ x, some x ∈ S → okv G x) : ∀ y, some y ∈ (some (.inl x) :: S : List (Option AV)) → okv G y := fun y hy => by
  rcases List.mem_cons.mp hy with hy | hy
  · cases hy; intro q hq; cases hq
  · exact hS y hy
theorem ok_l {G : Gh} {x : Int64} {S : List (Option AV)} (hS : ∀ x, some x ∈ S → okv G x) : ∀ y, some y ∈ (some (.inr (.inl x)) :: S : List (Option AV)) → okv G y := fun y hy => by
  rcases List.mem_cons.mp hy with hy | hy
  · cases hy; intro q hq; cases hq
  · exact hS y hy
theorem ok_t {G : Gh} {o : Option AV} {S : List (Option AV)} (hS : ∀ x, some x ∈ (o :: S) → okv G x) : ∀ x, some x ∈ S → okv G x := fun x hx => hS x (List.mem_cons_of_mem _ hx)
theorem tw_iload3 (F : LwA p s m c b N xs) (hd : decode code pc = .ok (.iload_n 3, 1)) (k : T p l e s m below meth c b Z (pc + 1) i (some (.inl i) :: S) h) : T p l e s m below meth c b Z pc i S h := by
  intro D G H ls lo I hS h0 h1 hl
  exact lv_iload_n F.1 F.2.1 hd rfl (lv_at hl 3 rfl) (k D G H ls lo I (ok_i hS) h0 h1 hl)
theorem tw_iconst {n : Int} (v : Int32) (F : LwA p s m c b N xs) (hd : decode code pc = .ok (.iconst n, 1)) (hv : Int32.ofInt n = v) (k : T p l e s m below meth c b Z (pc + 1) i (some (.inl v) :: S) h) : T p l e s m below meth c b Z pc i S h := by
  intro D G H ls lo I hS h0 h1 hl
  exact lv_iconst F.1 F.2.1 hd hv (k D G H ls lo I (ok_i hS) h0 h1 hl)
theorem tw_bipush {n : Int} (v : Int32) (F : LwA p s m c b N xs) (hd : decode code pc = .ok (.bipush n, 2)) (hv : (Int8.ofInt n).toInt32 = v) (k : T p l e s m below meth c b Z (pc + 2) i (some (.inl v) :: S) h) : T p l e s m below meth c b Z pc i S h := by
  intro D G H ls lo I hS h0 h1 hl
  exact lv_bipush F.1 F.2.1 hd hv (k D G H ls lo I (ok_i hS) h0 h1 hl)
theorem tw_iadd {x y : Int32} (F : LwA p s m c b N xs) (hd : decode code pc = .ok (.iadd, 1)) (k : T p l e s m below meth c b Z (pc + 1) i (some (.inl (x + y)) :: S) h) : T p l e s m below meth c b Z pc i (some (.inl y) :: some (.inl x) :: S) h := by
  intro D G H ls lo I hS h0 h1 hl
  exact lv_iadd F.1 F.2.1 hd (k D G H ls lo I (ok_i (ok_t (ok_t hS))) h0 h1 hl)
theorem tw_isub {x y : Int32} (F : LwA p s m c b N xs) (hd : decode code pc = .ok (.isub, 1)) (k : T p l e s m below meth c b Z (pc + 1) i (some (.inl (x - y)) :: S) h) : T p l e s m below meth c b Z pc i (some (.inl y) :: some (.inl x) :: S) h := by
  intro D G H ls lo I hS h0 h1 hl
  exact lv_isub F.1 F.2.1 hd (k D G H ls lo I (ok_i (ok_t (ok_t hS))) h0 h1 hl)
theorem tw_iand {x y : Int32} (F : LwA p s m c b N xs) (hd : decode code pc = .ok (.iand, 1)) (k : T p l e s m below meth c b Z (pc + 1) i (some (.inl (x &&& y)) :: S) h) : T p l e s m below meth c b Z pc i (some (.inl y) :: some (.inl x) :: S) h := by
  intro D G H ls lo I hS h0 h1 hl
  exact lv_iand F.1 F.2.1 hd (k D G H ls lo I (ok_i (ok_t (ok_t hS))) h0 h1 hl)
theorem tw_iaload {x : Int32} (F : LwA p s m c b N xs) (hin : vp_in x N) (hd : decode code pc = .ok (.iaload, 1)) (k : T p l e s m below meth c b Z (pc + 1) i (some (.inl (xs x.toNatClampNeg)) :: S) h) : T p l e s m below meth c b Z pc i (some (.inl x) :: none :: S) h := by
  intro D G H ls lo I hS h0 h1 hl
  exact va_sld F.1 F.2.1 F.2.2.2.2.2.1 F.2.2.2.2.2.2 (show ¬ s.heap.size ≤ b from Nat.not_le.mpr F.2.2.2.2.2.2) I.2.2.2.2.1 hin hd (k D G H ls lo I (ok_i (ok_t (ok_t hS))) h0 h1 hl)
theorem tw_alen (F : LwA p s m c b N xs) (hd : decode code pc = .ok (.arraylength, 1)) (k : T p l e s m below meth c b Z (pc + 1) i (some (.inl (nI N)) :: S) h) : T p l e s m below meth c b Z pc i (none :: S) h := by
  intro D G H ls lo I hS h0 h1 hl
  exact va_slen F.1 F.2.1 F.2.2.2.2.2.1 F.2.2.2.2.2.2 (show ¬ s.heap.size ≤ b from Nat.not_le.mpr F.2.2.2.2.2.2) I.2.2.2.2.1 hd (k D G H ls lo I (ok_i (ok_t hS)) h0 h1 hl)
theorem tw_i2l {x : Int32} (F : LwA p s m c b N xs) (hd : decode code pc = .ok (.i2l, 1)) (k : T p l e s m below meth c b Z (pc + 1) i (some (.inr (.inl x.toInt64)) :: S) h) : T p l e s m below meth c b Z pc i (some (.inl x) :: S) h := by
  intro D G H ls lo I hS h0 h1 hl
  exact lv_i2l F.1 F.2.1 hd rfl (k D G H ls lo I (ok_l (ok_t hS)) h0 h1 hl)
theorem tw_lshl {x : Int64} {y : Int32} (F : LwA p s m c b N xs) (hd : decode code pc = .ok (.lshl, 1)) (k : T p l e s m below meth c b Z (pc + 1) i (some (.inr (.inl (x <<< (y.toInt64 &&& 63)))) :: S) h) : T p l e s m below meth c b Z pc i (some (.inl y) :: some (.inr (.inl x)) :: S) h := by
  intro D G H ls lo I hS h0 h1 hl
  exact lv_lshl F.1 F.2.1 hd rfl (k D G H ls lo I (ok_l (ok_t (ok_t hS))) h0 h1 hl)
theorem tw_land {x y : Int64} (F : LwA p s m c b N xs) (hd : decode code pc = .ok (.land, 1)) (k : T p l e s m below meth c b Z (pc + 1) i (some (.inr (.inl (x &&& y))) :: S) h) : T p l e s m below meth c b Z pc i (some (.inr (.inl y)) :: some (.inr (.inl x)) :: S) h := by
  intro D G H ls lo I hS h0 h1 hl
  exact lv_land F.1 F.2.1 hd (k D G H ls lo I (ok_l (ok_t (ok_t hS))) h0 h1 hl)
theorem tw_lor {x y : Int64} (F : LwA p s m c b N xs) (hd : decode code pc = .ok (.lor, 1)) (k : T p l e s m below meth c b Z (pc + 1) i (some (.inr (.inl (x ||| y))) :: S) h) : T p l e s m below meth c b Z pc i (some (.inr (.inl y)) :: some (.inr (.inl x)) :: S) h := by
  intro D G H ls lo I hS h0 h1 hl
  exact lv_lor F.1 F.2.1 hd (k D G H ls lo I (ok_l (ok_t (ok_t hS))) h0 h1 hl)
theorem tw_ldc2 {idx : Nat} {v : Int64} (F : LwA p s m c b N xs) (hd : decode code pc = .ok (.ldc2_w idx, 3)) (hw : Cond.constantLong RL idx v ∈ TW) (k : T p l e s m below meth c b Z (pc + 3) i (some (.inr (.inl v)) :: S) h) : T p l e s m below meth c b Z pc i S h := by
  intro D G H ls lo I hS h0 h1 hl
  exact lv_ldc2 F.1 F.2.1 F.2.2.2.1 (F.2.2.2.2.1 _ hw) hd (k D G H ls lo I (ok_l hS) h0 h1 hl)
theorem tw_goto {off : Int} (tg : Nat) (F : LwA p s m c b N xs) (hd : decode code pc = .ok (.goto off, 3)) (ht : (pc : Int) + off = (tg : Int)) (k : T p l e s m below meth c b Z tg i S h) : T p l e s m below meth c b Z pc i S h := by
  intro D G H ls lo I hS h0 h1 hl
  exact lv_goto F.1 F.2.1 hd ht (k D G H ls lo I hS h0 h1 hl)
theorem tw_icmp {off : Int} {x : Int32} (tg : Nat) (F : LwA p s m c b N xs) (hd : decode code pc = .ok (.if_icmp .eq off, 3)) (ht : (pc : Int) + off = (tg : Int)) (k : T p l e s m below meth c b Z tg i S h) : T p l e s m below meth c b Z pc i (some (.inl x) :: some (.inl x) :: S) h := by
  intro D G H ls lo I hS h0 h1 hl
  exact lv_icmp_eq F.1 F.2.1 hd ht (fun _ => k D G H ls lo I (ok_t (ok_t hS)) h0 h1 hl) (fun hn => absurd rfl hn)
theorem tw_igt {off : Int} {x y : Int32} (tg : Nat) (F : LwA p s m c b N xs) (hd : decode code pc = .ok (.if_icmp .gt off, 3)) (ht : (pc : Int) + off = (tg : Int)) (k1 : y < x → T p l e s m below meth c b Z tg i S h) (k2 : ¬ y < x → T p l e s m below meth c b Z (pc + 3) i S h) : T p l e s m below meth c b Z pc i (some (.inl y) :: some (.inl x) :: S) h := by
  intro D G H ls lo I hS h0 h1 hl
  exact lv_icmp_gt F.1 F.2.1 hd ht (fun hq => k1 hq D G H ls lo I (ok_t (ok_t hS)) h0 h1 hl) (fun hq => k2 hq D G H ls lo I (ok_t (ok_t hS)) h0 h1 hl)
theorem tw_ifeq {off : Int} (tg : Nat) (F : LwA p s m c b N xs) (hd : decode code pc = .ok (.ifCond .eq off, 3)) (ht : (pc : Int) + off = (tg : Int)) (k : T p l e s m below meth c b Z tg i S h) : T p l e s m below meth c b Z pc i (some (.inl 0) :: S) h := by
  intro D G H ls lo I hS h0 h1 hl
  exact lv_if_eq F.1 F.2.1 hd ht (fun _ => k D G H ls lo I (ok_t hS) h0 h1 hl) (fun hn => absurd rfl hn)
theorem tw_lcmp {x y : Int64} (F : LwA p s m c b N xs) (hd : decode code pc = .ok (.lcmp, 1)) (k : T p l e s m below meth c b Z (pc + 1) i (some (.inl (lg_cmp x y)) :: S) h) : T p l e s m below meth c b Z pc i (some (.inr (.inl y)) :: some (.inr (.inl x)) :: S) h := by
  intro D G H ls lo I hS h0 h1 hl
  exact W.lcmp F.1 F.2.1 hd (k D G H ls lo I (ok_i (ok_t (ok_t hS))) h0 h1 hl)
theorem tw_iinc {n : Int} {j : Int32} (F : LwA p s m c b N xs) (hd : decode code pc = .ok (.iinc 3 n, 3)) (hv : i + Int32.ofInt n = j) (k : T p l e s m below meth c b Z (pc + 3) j S h) : T p l e s m below meth c b Z pc i S h := by
  intro D G H ls lo I hS h0 h1 hl
  refine lv_iinc (k := 3) F.1 F.2.1 hd hl rfl hv (by decide) rfl (fun ls' hl' => k D G H ls' lo I hS h0 h1 ⟨hl'.1, hl'.2.1, fun q hq => hl'.2.2 q ?_⟩)
  simp only [lll, List.mem_cons, List.not_mem_nil, or_false] at hq
  rcases hq with rfl | rfl | rfl | rfl <;> simp [lll, Value.category]
theorem tw_sw {dflt lo hi : Int} {offs : Array Int} {len tgt : Nat} {x : Int32} (w : Int) (hw : x.toInt = w) (F : LwA p s m c b N xs) (hd : decode code pc = .ok (.tableswitch dflt lo hi offs, len)) (ht : swN pc dflt lo hi offs w = some tgt) (k : T p l e s m below meth c b Z tgt i S h) : T p l e s m below meth c b Z pc i (some (.inl x) :: S) h := by
  intro D G H ls lo I hS h0 h1 hl
  have kk := k D G H ls lo I (ok_t hS) h0 h1 hl
  unfold swN at ht
  split at ht
  · rename_i ho
    exact lv_tableOut F.1 F.2.1 hd (by rw [hw]; exact ho) (toN_ok ht) kk
  · rename_i ho
    split at ht
    · rename_i off hoff
      exact lv_tableIn F.1 F.2.1 hd (by rw [hw]; exact fun z => ho (Or.inl z)) (by rw [hw]; exact fun z => ho (Or.inr z)) (by rw [hw]; exact hoff) (toN_ok ht) kk
    · cases ht
/-- behind a call -/
theorem tw_back {Q1 : Option AV → AH → Prop} {D : va_G} {G : Gh} {H : Heap} {ls : Array Slot} {lo : List Loc} {st0 : List Value} {a : Array Value} (F : LwA p s m c b N xs) (I : Iv (fre s) D G G h s H lo) (hS : ∀ x, some x ∈ S → okv G x) (h0 : (0, 0) ∈ G.1) (h1 : (31, 0) ∈ G.1) (hl : lv_has ls 4 (lll b G i))
    (hr : va_Run p l e room_1 s m #[Value.ref b] below meth c H lo 600000 7302250 0 0 (F0 m pc ls st0) (S.map (sv b G)) (Qp Q1 D G (va_A (gw G h) H.size) a) (va_A (gw G h) H.size))
    (k : ∀ r h', Q1 r h' → T p l e s m below meth c b Z (pc + 3) i (r.toList.map some ++ S) h') : W p l e room_1 s m #[Value.ref b] below meth c H lo 600000 7302250 Z (F0 m pc ls st0) := by
  intro T1 hT X
  obtain ⟨w, st₀, t, T', L', hh0, X', hL', e1, e2, ⟨⟨r, h', G', hv, hq, hok, hK', hP', hD', hSh', hE'⟩, hz, hk⟩, st⟩ := hr T1 hT X
  cases hv
  rw [hh0] at hz hk
  obtain ⟨hKn, hA, hP, hD, hSS, hSh, hE⟩ := id I
  have hF : ∀ q, va_A (gw G h) H.size q → fre s q := by
    intro q hq
    rcases hq with ⟨j, e0, hj⟩ | hq
    · exact hD.2 j _ hj
    · exact hA q (Nat.le_trans hSS.1 hq)
  have hvm : s.vm.Alike t.vm := by rw [← e2]; exact X'.warmed.alike
  have hSS' : va_S (fre s) s.heap T'.heap (lo ++ L') := by
    refine ⟨Nat.le_trans hSS.1 (by rw [e1]; exact hz), fun q h1 h2 => ?_, fun q hq => ?_⟩
    · rw [e1, hk q (Nat.lt_of_lt_of_le h1 hSS.1) (fun z => h2 (hF q z))]
      exact hSS.2.1 q h1 h2
    · rcases List.mem_append.mp hq with h | h
      · exact hSS.2.2 q h
      · exact hF _ (hL' q h)
  have hR := k r h' hq D G' T'.heap ls (lo ++ L')
    ⟨⟨va_K.moved hvm.symm hK'.1, hKn.2.1, hKn.2.2.1, hKn.2.2.2⟩, hA, by rw [e1]; exact hP', hD'.weaken (fun j q hj => hF _), hSS', hSh', ext_rf⟩
    (fun x hx => by
      rcases List.mem_append.mp hx with h | h
      · exact hok x (by cases r with
          | none => cases h
          | some y => simp at h; rw [h])
      · exact okv_ext hE' (hS x h))
    (hE' _ h0).1 (hE' _ h1).1 (by unfold lll; rw [(hE' _ h0).2, (hE' _ h1).2]; exact hl)
  obtain ⟨t2, a1, b1⟩ := hR T' rfl X'
  refine ⟨t2, st t2 ?_, b1⟩
  have hst : (r.toList.map some ++ S).map (sv b G') = (r.map (cv G'.2.1)).toList ++ S.map (sv b G) := by
    rw [List.map_append]
    congr 1
    · cases r <;> rfl
    · refine List.map_congr_left (fun o ho => ?_)
      cases o with
      | none => rfl
      | some x => exact cv_ext hE' (hS x ho)
  rw [hst] at a1
  exact a1
end LT
