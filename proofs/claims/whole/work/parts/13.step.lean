abbrev St : Type := Nat × List (Option AV) × List AV × AH
def ldL : List (Option AV) → Nat → Option AV
  | [], _ => none
  | o :: _, 0 => o
  | _ :: t, i + 1 => ldL t i
theorem ldL_at : ∀ {L : List (Option AV)} {i : Nat} {v : AV}, ldL L i = some v → L[i]? = some (some v) := by
  intro L
  induction L with
  | nil => intro i v h; cases h
  | cons o t ih =>
    intro i v h
    cases i with
    | zero => have : o = some v := h; subst this; rfl
    | succ i => simpa using ih (i := i) (v := v) h
def bq {α : Type} (a b : Nat) (x : Option α) : Option α := bif Nat.beq a b then x else none
theorem bq_some {α : Type} {a b : Nat} {x : Option α} {y : α} (h : bq a b x = some y) : a = b ∧ x = some y := by
  unfold bq at h
  cases hb : Nat.beq a b with
  | true => rw [hb] at h; exact ⟨Nat.eq_of_beq_eq_true hb, h⟩
  | false => rw [hb] at h; cases h
def bl {α : Type} (a b : Nat) (x : Option α) : Option α := bif Nat.ble a b then x else none
theorem bl_some {α : Type} {a b : Nat} {x : Option α} {y : α} (h : bl a b x = some y) : a ≤ b ∧ x = some y := by
  unfold bl at h
  cases hb : Nat.ble a b with
  | true => rw [hb] at h; exact ⟨Nat.le_of_ble_eq_true hb, h⟩
  | false => rw [hb] at h; cases h
def fgt (A : FI) (B : FJ) (C : FR) (g i s tc : Nat) : AV := match tc with
  | 0 => .inl (A g i s)
  | 1 => .inl (A g i s)
  | 2 => .inr (.inl (B g i s))
  | _ => .inr (.inr (C g i s))
def fpt (ct : Nat → Nat) (A : FI) (B : FJ) (C : FR) (g i s : Nat) (x : AV) : AH := match x with
  | .inl y => (ct, up3 A g i s y, B, C)
  | .inr (.inl y) => (ct, A, up3 B g i s y, C)
  | .inr (.inr y) => (ct, A, B, up3 C g i s y)
def onP (c : Option Prop) : Prop := match c with
  | none => True
  | some p => p
/-- what may be put into a field of the type's code tc, and on what ground -/
def ptc (tc : Nat) (x : AV) : Option (Option Prop) := match tc, x with
  | 0, .inl _ => some none
  | 1, .inl y => some (some (y = 0 ∨ y = 1))
  | 2, .inr (.inl _) => some none
  | _, _ => none
/-- a straight instruction: its conditions, where it goes on -/
def st1 (mt : MI) (e : Instr × Nat × Nat × Nat × Int32) (L : List (Option AV)) (S : List AV) (h : AH) : Option (Option Prop × St) := match e, h with
 | (ins, len, nx, tg, k0), (ct, A, B, C) => match ins with
  | .iadd => bq len 1 (match S with | .inl y :: .inl x :: S => some (none, nx, L, .inl (x + y) :: S, (ct, A, B, C)) | _ => none)
  | .isub => bq len 1 (match S with | .inl y :: .inl x :: S => some (none, nx, L, .inl (x - y) :: S, (ct, A, B, C)) | _ => none)
  | .imul => bq len 1 (match S with | .inl y :: .inl x :: S => some (none, nx, L, .inl (x * y) :: S, (ct, A, B, C)) | _ => none)
  | .iand => bq len 1 (match S with | .inl y :: .inl x :: S => some (none, nx, L, .inl (x &&& y) :: S, (ct, A, B, C)) | _ => none)
  | .ior => bq len 1 (match S with | .inl y :: .inl x :: S => some (none, nx, L, .inl (x ||| y) :: S, (ct, A, B, C)) | _ => none)
  | .ixor => bq len 1 (match S with | .inl y :: .inl x :: S => some (none, nx, L, .inl (x ^^^ y) :: S, (ct, A, B, C)) | _ => none)
  | .ishl => bq len 1 (match S with | .inl y :: .inl x :: S => some (none, nx, L, .inl (x <<< (y &&& 31)) :: S, (ct, A, B, C)) | _ => none)
  | .ishr => bq len 1 (match S with | .inl y :: .inl x :: S => some (none, nx, L, .inl (x >>> (y &&& 31)) :: S, (ct, A, B, C)) | _ => none)
  | .iushr => bq len 1 (match S with | .inl y :: .inl x :: S => some (none, nx, L, .inl ((x.toUInt32 >>> (y.toUInt32 &&& Int32.toUInt32 31)).toInt32) :: S, (ct, A, B, C)) | _ => none)
  | .idiv => bq len 1 (match S with | .inl y :: .inl x :: S => some (some (¬ y = 0), nx, L, .inl (x / y) :: S, (ct, A, B, C)) | _ => none)
  | .irem => bq len 1 (match S with | .inl y :: .inl x :: S => some (some (¬ y = 0), nx, L, .inl (x - x / y * y) :: S, (ct, A, B, C)) | _ => none)
  | .ladd => bq len 1 (match S with | .inr (.inl y) :: .inr (.inl x) :: S => some (none, nx, L, .inr (.inl (x + y)) :: S, (ct, A, B, C)) | _ => none)
  | .lsub => bq len 1 (match S with | .inr (.inl y) :: .inr (.inl x) :: S => some (none, nx, L, .inr (.inl (x - y)) :: S, (ct, A, B, C)) | _ => none)
  | .lmul => bq len 1 (match S with | .inr (.inl y) :: .inr (.inl x) :: S => some (none, nx, L, .inr (.inl (x * y)) :: S, (ct, A, B, C)) | _ => none)
  | .land => bq len 1 (match S with | .inr (.inl y) :: .inr (.inl x) :: S => some (none, nx, L, .inr (.inl (x &&& y)) :: S, (ct, A, B, C)) | _ => none)
  | .lor => bq len 1 (match S with | .inr (.inl y) :: .inr (.inl x) :: S => some (none, nx, L, .inr (.inl (x ||| y)) :: S, (ct, A, B, C)) | _ => none)
  | .ldiv => bq len 1 (match S with | .inr (.inl y) :: .inr (.inl x) :: S => some (some (¬ y = 0), nx, L, .inr (.inl (x / y)) :: S, (ct, A, B, C)) | _ => none)
  | .lrem => bq len 1 (match S with | .inr (.inl y) :: .inr (.inl x) :: S => some (some (¬ y = 0), nx, L, .inr (.inl (x - x / y * y)) :: S, (ct, A, B, C)) | _ => none)
  | .lshl => bq len 1 (match S with | .inl y :: .inr (.inl x) :: S => some (none, nx, L, .inr (.inl (x <<< (y.toInt64 &&& 63))) :: S, (ct, A, B, C)) | _ => none)
  | .lushr => bq len 1 (match S with | .inl y :: .inr (.inl x) :: S => some (none, nx, L, .inr (.inl (x.toUInt64 >>> (y.toInt64.toUInt64 &&& Int64.toUInt64 63)).toInt64) :: S, (ct, A, B, C)) | _ => none)
  | .lcmp => bq len 1 (match S with | .inr (.inl y) :: .inr (.inl x) :: S => some (none, nx, L, .inl (lg_cmp x y) :: S, (ct, A, B, C)) | _ => none)
  | .ineg => bq len 1 (match S with | .inl x :: S => some (none, nx, L, .inl (-x) :: S, (ct, A, B, C)) | _ => none)
  | .i2l => bq len 1 (match S with | .inl x :: S => some (none, nx, L, .inr (.inl x.toInt64) :: S, (ct, A, B, C)) | _ => none)
  | .l2i => bq len 1 (match S with | .inr (.inl x) :: S => some (none, nx, L, .inl x.toInt32 :: S, (ct, A, B, C)) | _ => none)
  | .iconst _ => bq len 1 (some (none, nx, L, .inl k0 :: S, (ct, A, B, C)))
  | .bipush _ => bq len 2 (some (none, nx, L, .inl k0 :: S, (ct, A, B, C)))
  | .sipush _ => bq len 3 (some (none, nx, L, .inl k0 :: S, (ct, A, B, C)))
  | .lconst n => bq len 1 (match n with | 0 => some (none, nx, L, .inr (.inl 0) :: S, (ct, A, B, C)) | 1 => some (none, nx, L, .inr (.inl 1) :: S, (ct, A, B, C)))
  | .aconst_null => bq len 1 (some (none, nx, L, .inr (.inr none) :: S, (ct, A, B, C)))
  | .ldc2_w i => bq len 3 (match cpL mt.2.1 i with | some z => some (none, nx, L, .inr (.inl z) :: S, (ct, A, B, C)) | none => none)
  | .iload i => bq len 2 (match ldL L i with | some (.inl x) => some (none, nx, L, .inl x :: S, (ct, A, B, C)) | _ => none)
  | .iload_n i => bq len 1 (match ldL L i.val with | some (.inl x) => some (none, nx, L, .inl x :: S, (ct, A, B, C)) | _ => none)
  | .lload i => bq len 2 (match ldL L i with | some (.inr (.inl x)) => some (none, nx, L, .inr (.inl x) :: S, (ct, A, B, C)) | _ => none)
  | .lload_n i => bq len 1 (match ldL L i.val with | some (.inr (.inl x)) => some (none, nx, L, .inr (.inl x) :: S, (ct, A, B, C)) | _ => none)
  | .aload i => bq len 2 (match ldL L i with | some (.inr (.inr x)) => some (none, nx, L, .inr (.inr x) :: S, (ct, A, B, C)) | _ => none)
  | .aload_n i => bq len 1 (match ldL L i.val with | some (.inr (.inr x)) => some (none, nx, L, .inr (.inr x) :: S, (ct, A, B, C)) | _ => none)
  | .istore i => bq len 2 (match S with | .inl x :: S => bl (i + 1) mt.1.2.2.1 (some (none, nx, stL L i (.inl x), S, (ct, A, B, C))) | _ => none)
  | .istore_n i => bq len 1 (match S with | .inl x :: S => bl (i.val + 1) mt.1.2.2.1 (some (none, nx, stL L i.val (.inl x), S, (ct, A, B, C))) | _ => none)
  | .lstore i => bq len 2 (match S with | .inr (.inl x) :: S => bl (i + 2) mt.1.2.2.1 (some (none, nx, stL2 L i (.inr (.inl x)), S, (ct, A, B, C))) | _ => none)
  | .lstore_n i => bq len 1 (match S with | .inr (.inl x) :: S => bl (i.val + 2) mt.1.2.2.1 (some (none, nx, stL2 L i.val (.inr (.inl x)), S, (ct, A, B, C))) | _ => none)
  | .astore i => bq len 2 (match S with | .inr (.inr x) :: S => bl (i + 1) mt.1.2.2.1 (some (none, nx, stL L i (.inr (.inr x)), S, (ct, A, B, C))) | _ => none)
  | .astore_n i => bq len 1 (match S with | .inr (.inr x) :: S => bl (i.val + 1) mt.1.2.2.1 (some (none, nx, stL L i.val (.inr (.inr x)), S, (ct, A, B, C))) | _ => none)
  | .iinc i _ => bq len 3 (match ldL L i with | some (.inl x) => bl (i + 1) mt.1.2.2.1 (some (none, nx, stL L i (.inl (x + k0)), S, (ct, A, B, C))) | _ => none)
  | .dup => bq len 1 (match S with | .inl x :: S => some (none, nx, L, .inl x :: .inl x :: S, (ct, A, B, C)) | .inr (.inr x) :: S => some (none, nx, L, .inr (.inr x) :: .inr (.inr x) :: S, (ct, A, B, C)) | _ => none)
  | .dup2 => bq len 1 (match S with | .inl x :: .inr (.inr r) :: S => some (none, nx, L, .inl x :: .inr (.inr r) :: .inl x :: .inr (.inr r) :: S, (ct, A, B, C)) | _ => none)
  | .pop => bq len 1 (match S with | .inl x :: S => some (none, nx, L, S, (ct, A, B, C)) | _ => none)
  | .goto _ => bq len 3 (some (none, tg, L, S, (ct, A, B, C)))
  | .ifnull _ => bq len 3 (match S with | .inr (.inr (some _)) :: S => some (none, nx, L, S, (ct, A, B, C)) | .inr (.inr none) :: S => some (none, tg, L, S, (ct, A, B, C)) | _ => none)
  | .ifnonnull _ => bq len 3 (match S with | .inr (.inr (some _)) :: S => some (none, tg, L, S, (ct, A, B, C)) | .inr (.inr none) :: S => some (none, nx, L, S, (ct, A, B, C)) | _ => none)
  | .getfield i => bq len 3 (match S with | .inr (.inr (some (g, j))) :: S => (match cpF mt.2.1 i with | some (s, tc) => bq (kd g).1 mt.2.1 (bl ((kd g).1 + 1) 13 (bl (s + 1) (kd g).2 (some (none, nx, L, fgt A B C g j s tc :: S, (ct, A, B, C))))) | none => none) | _ => none)
  | .putfield i => bq len 3 (match S with | x :: .inr (.inr (some (g, j))) :: S => (match cpF mt.2.1 i with | some (s, tc) => bq (kd g).1 mt.2.1 (bl ((kd g).1 + 1) 13 (bl (s + 1) (kd g).2 (match ptc tc x with | some c => some (c, nx, L, S, fpt ct A B C g j s x) | none => none))) | none => none) | _ => none)
  | .iaload => bq len 1 (match S with | .inl x :: .inr (.inr (some (g, j))) :: S => bq (kd g).1 13 (some (some (vp_in x (kd g).2), nx, L, .inl (A g j x.toNatClampNeg) :: S, (ct, A, B, C))) | _ => none)
  | .baload => bq len 1 (match S with | .inl x :: .inr (.inr (some (g, j))) :: S => bq (kd g).1 15 (some (some (vp_in x (kd g).2), nx, L, .inl (A g j x.toNatClampNeg) :: S, (ct, A, B, C))) | _ => none)
  | .laload => bq len 1 (match S with | .inl x :: .inr (.inr (some (g, j))) :: S => bq (kd g).1 14 (some (some (vp_in x (kd g).2), nx, L, .inr (.inl (B g j x.toNatClampNeg)) :: S, (ct, A, B, C))) | _ => none)
  | .aaload => bq len 1 (match S with | .inl x :: .inr (.inr (some (g, j))) :: S => bl 16 (kd g).1 (some (some (vp_in x (kd g).2), nx, L, .inr (.inr (C g j x.toNatClampNeg)) :: S, (ct, A, B, C))) | _ => none)
  | .arraylength => bq len 1 (match S with | .inr (.inr (some (g, _))) :: S => bl 13 (kd g).1 (some (none, nx, L, .inl (Int32.ofNat (kd g).2) :: S, (ct, A, B, C))) | _ => none)
  | .iastore => bq len 1 (match S with | .inl y :: .inl x :: .inr (.inr (some (g, j))) :: S => bq (kd g).1 13 (some (some (vp_in x (kd g).2), nx, L, S, (ct, up3 A g j x.toNatClampNeg y, B, C))) | _ => none)
  | .bastore => bq len 1 (match S with | .inl y :: .inl x :: .inr (.inr (some (g, j))) :: S => bq (kd g).1 15 (some (some (vp_in x (kd g).2 ∧ (y = 0 ∨ y = 1)), nx, L, S, (ct, up3 A g j x.toNatClampNeg y, B, C))) | _ => none)
  | .lastore => bq len 1 (match S with | .inr (.inl y) :: .inl x :: .inr (.inr (some (g, j))) :: S => bq (kd g).1 14 (some (some (vp_in x (kd g).2), nx, L, S, (ct, A, up3 B g j x.toNatClampNeg y, C))) | _ => none)
  | _ => none
def allP : List Prop → Prop
  | [] => True
  | [p] => p
  | p :: q :: l => p ∧ allP (q :: l)
theorem allP_c {p : Prop} {l : List Prop} (h : allP (p :: l)) : p ∧ allP l := by
  cases l with
  | nil => exact ⟨h, trivial⟩
  | cons q t => exact h
theorem allP_app : ∀ {a b : List Prop}, allP (a ++ b) → allP a ∧ allP b := by
  intro a
  induction a with
  | nil => intro b h; exact ⟨trivial, h⟩
  | cons p t ih =>
    intro b h
    have h1 := allP_c (l := t ++ b) h
    have h2 := ih h1.2
    refine ⟨?_, h2.2⟩
    cases t with
    | nil => exact h1.1
    | cons q t' => exact ⟨h1.1, h2.1⟩
theorem ptc_ok {tc : Nat} {x : AV} {c : Option Prop} (h : ptc tc x = some c) (hc : onP c) : tcv tc x ∧ ¬ tc = 3 := by
  unfold ptc at h
  split at h
  · exact ⟨Or.inl rfl, by decide⟩
  · cases h; exact ⟨Or.inr ⟨rfl, hc⟩, by decide⟩
  · exact ⟨rfl, by decide⟩
  · cases h
section RS
variable {d kc ks u v : Nat} {mt : MI} {pc : Nat} {L : List (Option AV)} {S : List AV} {h : AH} {Q : Option AV → AH → Prop}
theorem kd_eq {g a b : Nat} (h1 : (kd g).1 = a) (h2 : (kd g).2 = b) : kd g = (a, b) := by rw [← h1, ← h2]
set_option maxHeartbeats 4000000 in
theorem st1_ok {e : Instr × Nat × Nat × Nat × Int32} {cs : Option Prop} {z : St} (hp : mt.2.2 pc = some e) (hs : st1 mt e L S h = some (cs, z)) (hc : onP cs) (k : R d kc ks u v mt z.1 z.2.1 z.2.2.1 z.2.2.2 Q) : R d kc ks u v mt pc L S h Q := by
  obtain ⟨ins, len, nx, tg, k0⟩ := e
  obtain ⟨ct, A, B, C⟩ := h
  cases ins
  case iadd => replace hs := bq_some hs; obtain ⟨hl, hs⟩ := hs; subst hl; split at hs <;> first | (cases hs; done) | (cases hs; exact s_iadd hp k)
  case isub => replace hs := bq_some hs; obtain ⟨hl, hs⟩ := hs; subst hl; split at hs <;> first | (cases hs; done) | (cases hs; exact s_isub hp k)
  case imul => replace hs := bq_some hs; obtain ⟨hl, hs⟩ := hs; subst hl; split at hs <;> first | (cases hs; done) | (cases hs; exact s_imul hp k)
  case iand => replace hs := bq_some hs; obtain ⟨hl, hs⟩ := hs; subst hl; split at hs <;> first | (cases hs; done) | (cases hs; exact s_iand hp k)
  case ior => replace hs := bq_some hs; obtain ⟨hl, hs⟩ := hs; subst hl; split at hs <;> first | (cases hs; done) | (cases hs; exact s_ior hp k)
  case ixor => replace hs := bq_some hs; obtain ⟨hl, hs⟩ := hs; subst hl; split at hs <;> first | (cases hs; done) | (cases hs; exact s_ixor hp k)
  case ishl => replace hs := bq_some hs; obtain ⟨hl, hs⟩ := hs; subst hl; split at hs <;> first | (cases hs; done) | (cases hs; exact s_ishl hp k)
  case ishr => replace hs := bq_some hs; obtain ⟨hl, hs⟩ := hs; subst hl; split at hs <;> first | (cases hs; done) | (cases hs; exact s_ishr hp k)
  case iushr => replace hs := bq_some hs; obtain ⟨hl, hs⟩ := hs; subst hl; split at hs <;> first | (cases hs; done) | (cases hs; exact s_iushr hp k)
  case ladd => replace hs := bq_some hs; obtain ⟨hl, hs⟩ := hs; subst hl; split at hs <;> first | (cases hs; done) | (cases hs; exact s_ladd hp k)
  case lsub => replace hs := bq_some hs; obtain ⟨hl, hs⟩ := hs; subst hl; split at hs <;> first | (cases hs; done) | (cases hs; exact s_lsub hp k)
  case lmul => replace hs := bq_some hs; obtain ⟨hl, hs⟩ := hs; subst hl; split at hs <;> first | (cases hs; done) | (cases hs; exact s_lmul hp k)
  case land => replace hs := bq_some hs; obtain ⟨hl, hs⟩ := hs; subst hl; split at hs <;> first | (cases hs; done) | (cases hs; exact s_land hp k)
  case lor => replace hs := bq_some hs; obtain ⟨hl, hs⟩ := hs; subst hl; split at hs <;> first | (cases hs; done) | (cases hs; exact s_lor hp k)
  case lshl => replace hs := bq_some hs; obtain ⟨hl, hs⟩ := hs; subst hl; split at hs <;> first | (cases hs; done) | (cases hs; exact s_lshl hp k)
  case lushr => replace hs := bq_some hs; obtain ⟨hl, hs⟩ := hs; subst hl; split at hs <;> first | (cases hs; done) | (cases hs; exact s_lushr hp k)
  case lcmp => replace hs := bq_some hs; obtain ⟨hl, hs⟩ := hs; subst hl; split at hs <;> first | (cases hs; done) | (cases hs; exact s_lcmp hp k)
  case ineg => replace hs := bq_some hs; obtain ⟨hl, hs⟩ := hs; subst hl; split at hs <;> first | (cases hs; done) | (cases hs; exact s_ineg hp k)
  case i2l => replace hs := bq_some hs; obtain ⟨hl, hs⟩ := hs; subst hl; split at hs <;> first | (cases hs; done) | (cases hs; exact s_i2l hp k)
  case l2i => replace hs := bq_some hs; obtain ⟨hl, hs⟩ := hs; subst hl; split at hs <;> first | (cases hs; done) | (cases hs; exact s_l2i hp k)
  case idiv => replace hs := bq_some hs; obtain ⟨hl, hs⟩ := hs; subst hl; split at hs <;> first | (cases hs; done) | (cases hs; exact s_idiv hp hc k)
  case irem => replace hs := bq_some hs; obtain ⟨hl, hs⟩ := hs; subst hl; split at hs <;> first | (cases hs; done) | (cases hs; exact s_irem hp hc k)
  case ldiv => replace hs := bq_some hs; obtain ⟨hl, hs⟩ := hs; subst hl; split at hs <;> first | (cases hs; done) | (cases hs; exact s_ldiv hp hc k)
  case lrem => replace hs := bq_some hs; obtain ⟨hl, hs⟩ := hs; subst hl; split at hs <;> first | (cases hs; done) | (cases hs; exact s_lrem hp hc k)
  case iconst => replace hs := bq_some hs; obtain ⟨hl, hs⟩ := hs; subst hl; cases hs; exact s_iconst hp k
  case bipush => replace hs := bq_some hs; obtain ⟨hl, hs⟩ := hs; subst hl; cases hs; exact s_bipush hp k
  case sipush => replace hs := bq_some hs; obtain ⟨hl, hs⟩ := hs; subst hl; cases hs; exact s_sipush hp k
  case goto => replace hs := bq_some hs; obtain ⟨hl, hs⟩ := hs; subst hl; cases hs; exact s_goto hp k
  case aconst_null => replace hs := bq_some hs; obtain ⟨hl, hs⟩ := hs; subst hl; cases hs; exact s_null hp k
  case lconst => replace hs := bq_some hs; obtain ⟨hl, hs⟩ := hs; subst hl; split at hs <;> (cases hs; exact s_lconst hp rfl k)
  case ldc2_w => replace hs := bq_some hs; obtain ⟨hl, hs⟩ := hs; subst hl; split at hs <;> first | (cases hs; done) | (cases hs; exact s_ldc2 hp (cpL_ok (by assumption)) k)
  case iload => replace hs := bq_some hs; obtain ⟨hl, hs⟩ := hs; subst hl; split at hs <;> first | (cases hs; done) | (rename_i hld; cases hs; exact s_iload hp (ldL_at hld) k)
  case iload_n => replace hs := bq_some hs; obtain ⟨hl, hs⟩ := hs; subst hl; split at hs <;> first | (cases hs; done) | (rename_i hld; cases hs; exact s_iload_n hp (ldL_at hld) k)
  case lload => replace hs := bq_some hs; obtain ⟨hl, hs⟩ := hs; subst hl; split at hs <;> first | (cases hs; done) | (rename_i hld; cases hs; exact s_lload hp (ldL_at hld) k)
  case lload_n => replace hs := bq_some hs; obtain ⟨hl, hs⟩ := hs; subst hl; split at hs <;> first | (cases hs; done) | (rename_i hld; cases hs; exact s_lload_n hp (ldL_at hld) k)
  case aload => replace hs := bq_some hs; obtain ⟨hl, hs⟩ := hs; subst hl; split at hs <;> first | (cases hs; done) | (rename_i hld; cases hs; exact s_aload hp (ldL_at hld) k)
  case aload_n => replace hs := bq_some hs; obtain ⟨hl, hs⟩ := hs; subst hl; split at hs <;> first | (cases hs; done) | (rename_i hld; cases hs; exact s_aload_n hp (ldL_at hld) k)
  case istore => replace hs := bq_some hs; obtain ⟨hl, hs⟩ := hs; subst hl; split at hs <;> first | (cases hs; done) | (obtain ⟨hb, hs⟩ := bl_some hs; cases hs; exact s_istore hp hb k)
  case istore_n => replace hs := bq_some hs; obtain ⟨hl, hs⟩ := hs; subst hl; split at hs <;> first | (cases hs; done) | (obtain ⟨hb, hs⟩ := bl_some hs; cases hs; exact s_istore_n hp hb k)
  case lstore => replace hs := bq_some hs; obtain ⟨hl, hs⟩ := hs; subst hl; split at hs <;> first | (cases hs; done) | (obtain ⟨hb, hs⟩ := bl_some hs; cases hs; exact s_lstore hp hb k)
  case lstore_n => replace hs := bq_some hs; obtain ⟨hl, hs⟩ := hs; subst hl; split at hs <;> first | (cases hs; done) | (obtain ⟨hb, hs⟩ := bl_some hs; cases hs; exact s_lstore_n hp hb k)
  case astore => replace hs := bq_some hs; obtain ⟨hl, hs⟩ := hs; subst hl; split at hs <;> first | (cases hs; done) | (obtain ⟨hb, hs⟩ := bl_some hs; cases hs; exact s_astore hp hb k)
  case astore_n => replace hs := bq_some hs; obtain ⟨hl, hs⟩ := hs; subst hl; split at hs <;> first | (cases hs; done) | (obtain ⟨hb, hs⟩ := bl_some hs; cases hs; exact s_astore_n hp hb k)
  case iinc => replace hs := bq_some hs; obtain ⟨hl, hs⟩ := hs; subst hl; split at hs <;> first | (cases hs; done) | (rename_i hld; obtain ⟨hb, hs⟩ := bl_some hs; cases hs; exact s_iinc hp hb (ldL_at hld) k)
  case dup => replace hs := bq_some hs; obtain ⟨hl, hs⟩ := hs; subst hl; split at hs <;> first | (cases hs; done) | (cases hs; exact s_dup rfl hp k)
  case dup2 => replace hs := bq_some hs; obtain ⟨hl, hs⟩ := hs; subst hl; split at hs <;> first | (cases hs; done) | (cases hs; exact s_dup2 hp k)
  case pop => replace hs := bq_some hs; obtain ⟨hl, hs⟩ := hs; subst hl; split at hs <;> first | (cases hs; done) | (cases hs; exact s_pop rfl hp k)
  case ifnull => replace hs := bq_some hs; obtain ⟨hl, hs⟩ := hs; subst hl; split at hs <;> first | (cases hs; done) | (cases hs; first | exact s_ifnull_some hp k | exact s_ifnull_none hp k)
  case ifnonnull => replace hs := bq_some hs; obtain ⟨hl, hs⟩ := hs; subst hl; split at hs <;> first | (cases hs; done) | (cases hs; first | exact s_ifnonnull_some hp k | exact s_ifnonnull_none hp k)
  case getfield => replace hs := bq_some hs; obtain ⟨hl, hs⟩ := hs; subst hl; split at hs <;> first | (cases hs; done) | (split at hs <;> first | (cases hs; done) | (rename_i hcp; obtain ⟨h1, hs⟩ := bq_some hs; obtain ⟨h2, hs⟩ := bl_some hs; obtain ⟨h3, hs⟩ := bl_some hs; cases hs; exact s_getfield hp (cpF_ok hcp) (kd_eq h1 rfl) (by rw [← h1]; exact h2) h3 k))
  case putfield => replace hs := bq_some hs; obtain ⟨hl, hs⟩ := hs; subst hl; split at hs <;> first | (cases hs; done) | (split at hs <;> first | (cases hs; done) | (rename_i hcp; obtain ⟨h1, hs⟩ := bq_some hs; obtain ⟨h2, hs⟩ := bl_some hs; obtain ⟨h3, hs⟩ := bl_some hs; split at hs <;> first | (cases hs; done) | (rename_i hpt; cases hs; exact s_putfield hp (cpF_ok hcp) (kd_eq h1 rfl) (by rw [← h1]; exact h2) h3 (ptc_ok hpt hc).1 (fun h => absurd h (ptc_ok hpt hc).2) k)))
  case iaload => replace hs := bq_some hs; obtain ⟨hl, hs⟩ := hs; subst hl; split at hs <;> first | (cases hs; done) | (obtain ⟨h1, hs⟩ := bq_some hs; cases hs; exact s_iaload hp (kd_eq h1 rfl) hc k)
  case baload => replace hs := bq_some hs; obtain ⟨hl, hs⟩ := hs; subst hl; split at hs <;> first | (cases hs; done) | (obtain ⟨h1, hs⟩ := bq_some hs; cases hs; exact s_baload hp (kd_eq h1 rfl) hc k)
  case laload => replace hs := bq_some hs; obtain ⟨hl, hs⟩ := hs; subst hl; split at hs <;> first | (cases hs; done) | (obtain ⟨h1, hs⟩ := bq_some hs; cases hs; exact s_laload hp (kd_eq h1 rfl) hc k)
  case iastore => replace hs := bq_some hs; obtain ⟨hl, hs⟩ := hs; subst hl; split at hs <;> first | (cases hs; done) | (obtain ⟨h1, hs⟩ := bq_some hs; cases hs; exact s_iastore hp (kd_eq h1 rfl) hc k)
  case lastore => replace hs := bq_some hs; obtain ⟨hl, hs⟩ := hs; subst hl; split at hs <;> first | (cases hs; done) | (obtain ⟨h1, hs⟩ := bq_some hs; cases hs; exact s_lastore hp (kd_eq h1 rfl) hc k)
  case bastore => replace hs := bq_some hs; obtain ⟨hl, hs⟩ := hs; subst hl; split at hs <;> first | (cases hs; done) | (obtain ⟨h1, hs⟩ := bq_some hs; cases hs; exact s_bastore hp (kd_eq h1 rfl) hc.1 hc.2 k)
  case aaload => replace hs := bq_some hs; obtain ⟨hl, hs⟩ := hs; subst hl; split at hs <;> first | (cases hs; done) | (obtain ⟨h1, hs⟩ := bl_some hs; cases hs; exact s_aaload hp rfl h1 hc k)
  case arraylength => replace hs := bq_some hs; obtain ⟨hl, hs⟩ := hs; subst hl; split at hs <;> first | (cases hs; done) | (obtain ⟨h1, hs⟩ := bl_some hs; cases hs; exact s_arraylength hp (kd_eq rfl rfl) h1 rfl k)
  all_goals cases hs
/-- straight on, until a branch, a call, a return, the stop sp, or behind a jump back; the conditions come first in acc, the last one ahead -/
def blk : Nat → Nat → MI → Nat → List (Option AV) → List AV → AH → List Prop → List Prop × St
  | 0, _, _, pc, L, S, h, acc => (acc, pc, L, S, h)
  | n + 1, sp, mt, pc, L, S, h, acc => match mt.2.2 pc with
    | none => (acc, pc, L, S, h)
    | some e => match st1 mt e L S h with
      | none => (acc, pc, L, S, h)
      | some (none, pc', L', S', h') => bif Nat.beq pc' sp || Nat.ble pc' pc then (acc, pc', L', S', h') else blk n sp mt pc' L' S' h' acc
      | some (some c, pc', L', S', h') => bif Nat.beq pc' sp || Nat.ble pc' pc then (c :: acc, pc', L', S', h') else blk n sp mt pc' L' S' h' (c :: acc)
theorem blk_acc : ∀ {n sp pc : Nat} {L : List (Option AV)} {S : List AV} {h : AH} {acc cs : List Prop} {z : St}, blk n sp mt pc L S h acc = (cs, z) → allP cs → allP acc := by
  intro n
  induction n with
  | zero => intro sp pc L S h acc cs z hb hc; cases hb; exact hc
  | succ n ih =>
    intro sp pc L S h acc cs z hb hc
    unfold blk at hb
    split at hb
    · cases hb; exact hc
    · split at hb
      · cases hb; exact hc
      · rename_i pc' L' S' h' hst
        cases hcn : (Nat.beq pc' sp || Nat.ble pc' pc) with
        | true => rw [hcn] at hb; cases hb; exact hc
        | false => rw [hcn] at hb; exact ih hb hc
      · rename_i c pc' L' S' h' hst
        cases hcn : (Nat.beq pc' sp || Nat.ble pc' pc) with
        | true => rw [hcn] at hb; cases hb; exact (allP_c hc).2
        | false => rw [hcn] at hb; exact (allP_c (ih hb hc)).2
theorem blk_ok : ∀ {n sp pc : Nat} {L : List (Option AV)} {S : List AV} {h : AH} {acc cs : List Prop} {z : St}, blk n sp mt pc L S h acc = (cs, z) → allP cs → R d kc ks u v mt z.1 z.2.1 z.2.2.1 z.2.2.2 Q → R d kc ks u v mt pc L S h Q := by
  intro n
  induction n with
  | zero =>
    intro sp pc L S h acc cs z hb hc k
    cases hb
    exact k
  | succ n ih =>
    intro sp pc L S h acc cs z hb hc k
    have hb0 := hb
    unfold blk at hb
    split at hb
    · cases hb; exact k
    · rename_i e he
      split at hb
      · cases hb; exact k
      · rename_i pc' L' S' h' hst
        cases hcn : (Nat.beq pc' sp || Nat.ble pc' pc) with
        | true => rw [hcn] at hb; cases hb; exact st1_ok he hst trivial k
        | false => rw [hcn] at hb; exact st1_ok he hst trivial (ih hb hc k)
      · rename_i c pc' L' S' h' hst
        cases hcn : (Nat.beq pc' sp || Nat.ble pc' pc) with
        | true => rw [hcn] at hb; cases hb; exact st1_ok he hst (allP_c hc).1 k
        | false => rw [hcn] at hb; exact st1_ok he hst (allP_c (blk_acc hb hc)).1 (ih hb hc k)
/-- straight on: sp is where to stop -/
theorem R_blk (sp : Nat) {cs : List Prop} {pc' : Nat} {L' : List (Option AV)} {S' : List AV} {h' : AH} (hb : blk 200 sp mt pc L S h [] = (cs, pc', L', S', h')) (hc : allP cs) (k : R d kc ks u v mt pc' L' S' h' Q) : R d kc ks u v mt pc L S h Q := blk_ok hb hc k
/-- a branch: its condition, where it goes if it holds, where else -/
def brf (e : Instr × Nat × Nat × Nat × Int32) (S : List AV) : Option (Prop × Prop × Nat × Nat × List AV) := match e with
 | (ins, len, nx, tg, _) => match ins with
  | .ifCond c _ => bq len 3 (match S with | .inl x :: S => some (match c with | .eq => (x = 0, ¬ x = 0, tg, nx, S) | .ne => (x = 0, ¬ x = 0, nx, tg, S) | .lt => (x < 0, ¬ x < 0, tg, nx, S) | .ge => (0 ≤ x, ¬ 0 ≤ x, tg, nx, S) | .gt => (0 < x, ¬ 0 < x, tg, nx, S) | .le => (x ≤ 0, ¬ x ≤ 0, tg, nx, S)) | _ => none)
  | .if_icmp c _ => bq len 3 (match S with | .inl y :: .inl x :: S => some (match c with | .eq => (x = y, ¬ x = y, tg, nx, S) | .ne => (x = y, ¬ x = y, nx, tg, S) | .lt => (x < y, ¬ x < y, tg, nx, S) | .ge => (y ≤ x, ¬ y ≤ x, tg, nx, S) | .gt => (y < x, ¬ y < x, tg, nx, S) | .le => (x ≤ y, ¬ x ≤ y, tg, nx, S)) | _ => none)
  | _ => none
set_option maxHeartbeats 4000000 in
theorem R_br {e : Instr × Nat × Nat × Nat × Int32} {c c' : Prop} {t f : Nat} {S' : List AV} (hp : mt.2.2 pc = some e) (hb : brf e S = some (c, c', t, f, S')) (kt : c → R d kc ks u v mt t L S' h Q) (kf : c' → R d kc ks u v mt f L S' h Q) : R d kc ks u v mt pc L S h Q := by
  obtain ⟨ins, len, nx, tg, k0⟩ := e
  simp only [brf] at hb
  split at hb
  · rename_i cc off
    replace hb := bq_some hb
    obtain ⟨hl, hb⟩ := hb
    subst hl
    split at hb
    · cases cc <;> cases hb
      · exact s_if_eq hp kt kf
      · exact s_if_ne hp kf kt
      · exact s_if_lt hp kt kf
      · exact s_if_ge hp kt kf
      · exact s_if_gt hp kt kf
      · exact s_if_le hp kt kf
    · cases hb
  · rename_i cc off
    replace hb := bq_some hb
    obtain ⟨hl, hb⟩ := hb
    subst hl
    split at hb
    · cases cc <;> cases hb
      · exact s_icmp_eq hp kt kf
      · exact s_icmp_ne hp kf kt
      · exact s_icmp_lt hp kt kf
      · exact s_icmp_ge hp kt kf
      · exact s_icmp_gt hp kt kf
      · exact s_icmp_le hp kt kf
    · cases hb
  · cases hb
end RS
