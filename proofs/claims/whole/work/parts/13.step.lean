abbrev St : Type := Nat × List (Option AV) × List AV × AH
def ldL : List (Option AV) → Nat → Option AV
  | [], _ => none
  | o :: _, 0 => o
  | _ :: t, i + 1 => ldL t i
theorem ldL_at : ∀ {L : List (Option AV)} {i : Nat} {v : AV}, ldL L i = some v → L[i]? = some (some v) := by
  intro L
  induction L with
  | nil => intro i v h; cases h
  | cons o t ih =>
    intro i v h
    cases i with
    | zero => have : o = some v := h; subst this; rfl
    | succ i => simpa using ih (i := i) (v := v) h
def bq {α : Type} (a b : Nat) (x : Option α) : Option α := bif Nat.beq a b then x else none
theorem bq_some {α : Type} {a b : Nat} {x : Option α} {y : α} (h : bq a b x = some y) : a = b ∧ x = some y := by
  unfold bq at h
  cases hb : Nat.beq a b with
  | true => rw [hb] at h; exact ⟨Nat.eq_of_beq_eq_true hb, h⟩
  | false => rw [hb] at h; cases h
def bl {α : Type} (a b : Nat) (x : Option α) : Option α := bif Nat.ble a b then x else none
theorem bl_some {α : Type} {a b : Nat} {x : Option α} {y : α} (h : bl a b x = some y) : a ≤ b ∧ x = some y := by
  unfold bl at h
  cases hb : Nat.ble a b with
  | true => rw [hb] at h; exact ⟨Nat.le_of_ble_eq_true hb, h⟩
  | false => rw [hb] at h; cases h
/-- what may be put into a field of the type's code tc, and on what ground -/
def ptc (tc : Nat) (x : AV) : Option (List Prop) := match tc, x with
  | 0, .inl _ => some []
  | 1, .inl y => some [y = 0 ∨ y = 1]
  | 2, .inr (.inl _) => some []
  | _, _ => none
/-- a straight instruction: its conditions, where it goes on -/
def st1 (mt : MI) (e : Instr × Nat × Nat × Nat × Int32) (L : List (Option AV)) (S : List AV) (h : AH) : Option (List Prop × St) := match e.1 with
  | .iadd => bq e.2.1 1 (match S with | .inl y :: .inl x :: S => some ([], e.2.2.1, L, .inl (x + y) :: S, h) | _ => none)
  | .isub => bq e.2.1 1 (match S with | .inl y :: .inl x :: S => some ([], e.2.2.1, L, .inl (x - y) :: S, h) | _ => none)
  | .imul => bq e.2.1 1 (match S with | .inl y :: .inl x :: S => some ([], e.2.2.1, L, .inl (x * y) :: S, h) | _ => none)
  | .iand => bq e.2.1 1 (match S with | .inl y :: .inl x :: S => some ([], e.2.2.1, L, .inl (x &&& y) :: S, h) | _ => none)
  | .ior => bq e.2.1 1 (match S with | .inl y :: .inl x :: S => some ([], e.2.2.1, L, .inl (x ||| y) :: S, h) | _ => none)
  | .ixor => bq e.2.1 1 (match S with | .inl y :: .inl x :: S => some ([], e.2.2.1, L, .inl (x ^^^ y) :: S, h) | _ => none)
  | .ishl => bq e.2.1 1 (match S with | .inl y :: .inl x :: S => some ([], e.2.2.1, L, .inl (x <<< (y &&& 31)) :: S, h) | _ => none)
  | .ishr => bq e.2.1 1 (match S with | .inl y :: .inl x :: S => some ([], e.2.2.1, L, .inl (x >>> (y &&& 31)) :: S, h) | _ => none)
  | .iushr => bq e.2.1 1 (match S with | .inl y :: .inl x :: S => some ([], e.2.2.1, L, .inl ((x.toUInt32 >>> (y.toUInt32 &&& Int32.toUInt32 31)).toInt32) :: S, h) | _ => none)
  | .idiv => bq e.2.1 1 (match S with | .inl y :: .inl x :: S => some ([¬ y = 0], e.2.2.1, L, .inl (x / y) :: S, h) | _ => none)
  | .irem => bq e.2.1 1 (match S with | .inl y :: .inl x :: S => some ([¬ y = 0], e.2.2.1, L, .inl (x - x / y * y) :: S, h) | _ => none)
  | .ladd => bq e.2.1 1 (match S with | .inr (.inl y) :: .inr (.inl x) :: S => some ([], e.2.2.1, L, .inr (.inl (x + y)) :: S, h) | _ => none)
  | .lsub => bq e.2.1 1 (match S with | .inr (.inl y) :: .inr (.inl x) :: S => some ([], e.2.2.1, L, .inr (.inl (x - y)) :: S, h) | _ => none)
  | .lmul => bq e.2.1 1 (match S with | .inr (.inl y) :: .inr (.inl x) :: S => some ([], e.2.2.1, L, .inr (.inl (x * y)) :: S, h) | _ => none)
  | .land => bq e.2.1 1 (match S with | .inr (.inl y) :: .inr (.inl x) :: S => some ([], e.2.2.1, L, .inr (.inl (x &&& y)) :: S, h) | _ => none)
  | .lor => bq e.2.1 1 (match S with | .inr (.inl y) :: .inr (.inl x) :: S => some ([], e.2.2.1, L, .inr (.inl (x ||| y)) :: S, h) | _ => none)
  | .ldiv => bq e.2.1 1 (match S with | .inr (.inl y) :: .inr (.inl x) :: S => some ([¬ y = 0], e.2.2.1, L, .inr (.inl (x / y)) :: S, h) | _ => none)
  | .lrem => bq e.2.1 1 (match S with | .inr (.inl y) :: .inr (.inl x) :: S => some ([¬ y = 0], e.2.2.1, L, .inr (.inl (x - x / y * y)) :: S, h) | _ => none)
  | .lshl => bq e.2.1 1 (match S with | .inl y :: .inr (.inl x) :: S => some ([], e.2.2.1, L, .inr (.inl (x <<< (y.toInt64 &&& 63))) :: S, h) | _ => none)
  | .lushr => bq e.2.1 1 (match S with | .inl y :: .inr (.inl x) :: S => some ([], e.2.2.1, L, .inr (.inl (x.toUInt64 >>> (y.toInt64.toUInt64 &&& Int64.toUInt64 63)).toInt64) :: S, h) | _ => none)
  | .lcmp => bq e.2.1 1 (match S with | .inr (.inl y) :: .inr (.inl x) :: S => some ([], e.2.2.1, L, .inl (lg_cmp x y) :: S, h) | _ => none)
  | .ineg => bq e.2.1 1 (match S with | .inl x :: S => some ([], e.2.2.1, L, .inl (-x) :: S, h) | _ => none)
  | .i2l => bq e.2.1 1 (match S with | .inl x :: S => some ([], e.2.2.1, L, .inr (.inl x.toInt64) :: S, h) | _ => none)
  | .l2i => bq e.2.1 1 (match S with | .inr (.inl x) :: S => some ([], e.2.2.1, L, .inl x.toInt32 :: S, h) | _ => none)
  | .iconst _ => bq e.2.1 1 (some ([], e.2.2.1, L, .inl e.2.2.2.2 :: S, h))
  | .bipush _ => bq e.2.1 2 (some ([], e.2.2.1, L, .inl e.2.2.2.2 :: S, h))
  | .sipush _ => bq e.2.1 3 (some ([], e.2.2.1, L, .inl e.2.2.2.2 :: S, h))
  | .lconst n => bq e.2.1 1 (match n with | 0 => some ([], e.2.2.1, L, .inr (.inl 0) :: S, h) | 1 => some ([], e.2.2.1, L, .inr (.inl 1) :: S, h))
  | .aconst_null => bq e.2.1 1 (some ([], e.2.2.1, L, .inr (.inr none) :: S, h))
  | .ldc2_w i => bq e.2.1 3 (match cpL mt.2.1 i with | some z => some ([], e.2.2.1, L, .inr (.inl z) :: S, h) | none => none)
  | .iload i => bq e.2.1 2 (match ldL L i with | some (.inl x) => some ([], e.2.2.1, L, .inl x :: S, h) | _ => none)
  | .iload_n i => bq e.2.1 1 (match ldL L i.val with | some (.inl x) => some ([], e.2.2.1, L, .inl x :: S, h) | _ => none)
  | .lload i => bq e.2.1 2 (match ldL L i with | some (.inr (.inl x)) => some ([], e.2.2.1, L, .inr (.inl x) :: S, h) | _ => none)
  | .lload_n i => bq e.2.1 1 (match ldL L i.val with | some (.inr (.inl x)) => some ([], e.2.2.1, L, .inr (.inl x) :: S, h) | _ => none)
  | .aload i => bq e.2.1 2 (match ldL L i with | some (.inr (.inr x)) => some ([], e.2.2.1, L, .inr (.inr x) :: S, h) | _ => none)
  | .aload_n i => bq e.2.1 1 (match ldL L i.val with | some (.inr (.inr x)) => some ([], e.2.2.1, L, .inr (.inr x) :: S, h) | _ => none)
  | .istore i => bq e.2.1 2 (match S with | .inl x :: S => bl (i + 1) mt.1.2.2.1 (some ([], e.2.2.1, stL L i (.inl x), S, h)) | _ => none)
  | .istore_n i => bq e.2.1 1 (match S with | .inl x :: S => bl (i.val + 1) mt.1.2.2.1 (some ([], e.2.2.1, stL L i.val (.inl x), S, h)) | _ => none)
  | .lstore i => bq e.2.1 2 (match S with | .inr (.inl x) :: S => bl (i + 2) mt.1.2.2.1 (some ([], e.2.2.1, stL2 L i (.inr (.inl x)), S, h)) | _ => none)
  | .lstore_n i => bq e.2.1 1 (match S with | .inr (.inl x) :: S => bl (i.val + 2) mt.1.2.2.1 (some ([], e.2.2.1, stL2 L i.val (.inr (.inl x)), S, h)) | _ => none)
  | .astore i => bq e.2.1 2 (match S with | .inr (.inr x) :: S => bl (i + 1) mt.1.2.2.1 (some ([], e.2.2.1, stL L i (.inr (.inr x)), S, h)) | _ => none)
  | .astore_n i => bq e.2.1 1 (match S with | .inr (.inr x) :: S => bl (i.val + 1) mt.1.2.2.1 (some ([], e.2.2.1, stL L i.val (.inr (.inr x)), S, h)) | _ => none)
  | .iinc i _ => bq e.2.1 3 (match ldL L i with | some (.inl x) => bl (i + 1) mt.1.2.2.1 (some ([], e.2.2.1, stL L i (.inl (x + e.2.2.2.2)), S, h)) | _ => none)
  | .dup => bq e.2.1 1 (match S with | .inl x :: S => some ([], e.2.2.1, L, .inl x :: .inl x :: S, h) | .inr (.inr x) :: S => some ([], e.2.2.1, L, .inr (.inr x) :: .inr (.inr x) :: S, h) | _ => none)
  | .dup2 => bq e.2.1 1 (match S with | .inl x :: .inr (.inr r) :: S => some ([], e.2.2.1, L, .inl x :: .inr (.inr r) :: .inl x :: .inr (.inr r) :: S, h) | _ => none)
  | .pop => bq e.2.1 1 (match S with | .inl x :: S => some ([], e.2.2.1, L, S, h) | _ => none)
  | .goto _ => bq e.2.1 3 (some ([], e.2.2.2.1, L, S, h))
  | .ifnull _ => bq e.2.1 3 (match S with | .inr (.inr (some _)) :: S => some ([], e.2.2.1, L, S, h) | .inr (.inr none) :: S => some ([], e.2.2.2.1, L, S, h) | _ => none)
  | .ifnonnull _ => bq e.2.1 3 (match S with | .inr (.inr (some _)) :: S => some ([], e.2.2.2.1, L, S, h) | .inr (.inr none) :: S => some ([], e.2.2.1, L, S, h) | _ => none)
  | .getfield i => bq e.2.1 3 (match S with | .inr (.inr (some (g, j))) :: S => (match cpF mt.2.1 i with | some (s, tc) => bq (kd g).1 mt.2.1 (bl ((kd g).1 + 1) 13 (bl (s + 1) (kd g).2 (some ([], e.2.2.1, L, fget h g j s tc :: S, h)))) | none => none) | _ => none)
  | .putfield i => bq e.2.1 3 (match S with | x :: .inr (.inr (some (g, j))) :: S => (match cpF mt.2.1 i with | some (s, tc) => bq (kd g).1 mt.2.1 (bl ((kd g).1 + 1) 13 (bl (s + 1) (kd g).2 (match ptc tc x with | some c => some (c, e.2.2.1, L, S, fput h g j s x) | none => none))) | none => none) | _ => none)
  | .iaload => bq e.2.1 1 (match S with | .inl x :: .inr (.inr (some (g, j))) :: S => bq (kd g).1 13 (some ([vp_in x (kd g).2], e.2.2.1, L, .inl (h.2.1 g j x.toNatClampNeg) :: S, h)) | _ => none)
  | .baload => bq e.2.1 1 (match S with | .inl x :: .inr (.inr (some (g, j))) :: S => bq (kd g).1 15 (some ([vp_in x (kd g).2], e.2.2.1, L, .inl (h.2.1 g j x.toNatClampNeg) :: S, h)) | _ => none)
  | .laload => bq e.2.1 1 (match S with | .inl x :: .inr (.inr (some (g, j))) :: S => bq (kd g).1 14 (some ([vp_in x (kd g).2], e.2.2.1, L, .inr (.inl (h.2.2.1 g j x.toNatClampNeg)) :: S, h)) | _ => none)
  | .aaload => bq e.2.1 1 (match S with | .inl x :: .inr (.inr (some (g, j))) :: S => bl 16 (kd g).1 (some ([vp_in x (kd g).2], e.2.2.1, L, .inr (.inr (h.2.2.2 g j x.toNatClampNeg)) :: S, h)) | _ => none)
  | .arraylength => bq e.2.1 1 (match S with | .inr (.inr (some (g, _))) :: S => bl 13 (kd g).1 (some ([], e.2.2.1, L, .inl (Int32.ofNat (kd g).2) :: S, h)) | _ => none)
  | .iastore => bq e.2.1 1 (match S with | .inl y :: .inl x :: .inr (.inr (some (g, j))) :: S => bq (kd g).1 13 (some ([vp_in x (kd g).2], e.2.2.1, L, S, fput h g j x.toNatClampNeg (.inl y))) | _ => none)
  | .bastore => bq e.2.1 1 (match S with | .inl y :: .inl x :: .inr (.inr (some (g, j))) :: S => bq (kd g).1 15 (some ([vp_in x (kd g).2, y = 0 ∨ y = 1], e.2.2.1, L, S, fput h g j x.toNatClampNeg (.inl y))) | _ => none)
  | .lastore => bq e.2.1 1 (match S with | .inr (.inl y) :: .inl x :: .inr (.inr (some (g, j))) :: S => bq (kd g).1 14 (some ([vp_in x (kd g).2], e.2.2.1, L, S, fput h g j x.toNatClampNeg (.inr (.inl y)))) | _ => none)
  | _ => none
def allP : List Prop → Prop
  | [] => True
  | [p] => p
  | p :: q :: l => p ∧ allP (q :: l)
theorem allP_c {p : Prop} {l : List Prop} (h : allP (p :: l)) : p ∧ allP l := by
  cases l with
  | nil => exact ⟨h, trivial⟩
  | cons q t => exact h
theorem allP_app : ∀ {a b : List Prop}, allP (a ++ b) → allP a ∧ allP b := by
  intro a
  induction a with
  | nil => intro b h; exact ⟨trivial, h⟩
  | cons p t ih =>
    intro b h
    have h1 := allP_c (l := t ++ b) h
    have h2 := ih h1.2
    refine ⟨?_, h2.2⟩
    cases t with
    | nil => exact h1.1
    | cons q t' => exact ⟨h1.1, h2.1⟩
theorem ptc_ok {tc : Nat} {x : AV} {c : List Prop} (h : ptc tc x = some c) (hc : allP c) : tcv tc x ∧ ¬ tc = 3 := by
  unfold ptc at h
  split at h
  · exact ⟨Or.inl rfl, by decide⟩
  · cases h; exact ⟨Or.inr ⟨rfl, hc⟩, by decide⟩
  · exact ⟨rfl, by decide⟩
  · cases h
section RS
variable {d kc ks u v : Nat} {mt : MI} {pc : Nat} {L : List (Option AV)} {S : List AV} {h : AH} {Q : Option AV → AH → Prop}
theorem kd_eq {g a b : Nat} (h1 : (kd g).1 = a) (h2 : (kd g).2 = b) : kd g = (a, b) := by rw [← h1, ← h2]
set_option maxHeartbeats 4000000 in
theorem st1_ok {e : Instr × Nat × Nat × Nat × Int32} {cs : List Prop} {z : St} (hp : mt.2.2 pc = some e) (hs : st1 mt e L S h = some (cs, z)) (hc : allP cs) (k : R d kc ks u v mt z.1 z.2.1 z.2.2.1 z.2.2.2 Q) : R d kc ks u v mt pc L S h Q := by
  obtain ⟨ins, len, nx, tg, k0⟩ := e
  cases ins
  case iadd => obtain ⟨hl, hs⟩ := bq_some hs; simp only at hl; subst hl; split at hs <;> first | (cases hs; done) | (cases hs; exact s_iadd hp k)
  case isub => obtain ⟨hl, hs⟩ := bq_some hs; simp only at hl; subst hl; split at hs <;> first | (cases hs; done) | (cases hs; exact s_isub hp k)
  case imul => obtain ⟨hl, hs⟩ := bq_some hs; simp only at hl; subst hl; split at hs <;> first | (cases hs; done) | (cases hs; exact s_imul hp k)
  case iand => obtain ⟨hl, hs⟩ := bq_some hs; simp only at hl; subst hl; split at hs <;> first | (cases hs; done) | (cases hs; exact s_iand hp k)
  case ior => obtain ⟨hl, hs⟩ := bq_some hs; simp only at hl; subst hl; split at hs <;> first | (cases hs; done) | (cases hs; exact s_ior hp k)
  case ixor => obtain ⟨hl, hs⟩ := bq_some hs; simp only at hl; subst hl; split at hs <;> first | (cases hs; done) | (cases hs; exact s_ixor hp k)
  case ishl => obtain ⟨hl, hs⟩ := bq_some hs; simp only at hl; subst hl; split at hs <;> first | (cases hs; done) | (cases hs; exact s_ishl hp k)
  case ishr => obtain ⟨hl, hs⟩ := bq_some hs; simp only at hl; subst hl; split at hs <;> first | (cases hs; done) | (cases hs; exact s_ishr hp k)
  case iushr => obtain ⟨hl, hs⟩ := bq_some hs; simp only at hl; subst hl; split at hs <;> first | (cases hs; done) | (cases hs; exact s_iushr hp k)
  case ladd => obtain ⟨hl, hs⟩ := bq_some hs; simp only at hl; subst hl; split at hs <;> first | (cases hs; done) | (cases hs; exact s_ladd hp k)
  case lsub => obtain ⟨hl, hs⟩ := bq_some hs; simp only at hl; subst hl; split at hs <;> first | (cases hs; done) | (cases hs; exact s_lsub hp k)
  case lmul => obtain ⟨hl, hs⟩ := bq_some hs; simp only at hl; subst hl; split at hs <;> first | (cases hs; done) | (cases hs; exact s_lmul hp k)
  case land => obtain ⟨hl, hs⟩ := bq_some hs; simp only at hl; subst hl; split at hs <;> first | (cases hs; done) | (cases hs; exact s_land hp k)
  case lor => obtain ⟨hl, hs⟩ := bq_some hs; simp only at hl; subst hl; split at hs <;> first | (cases hs; done) | (cases hs; exact s_lor hp k)
  case lshl => obtain ⟨hl, hs⟩ := bq_some hs; simp only at hl; subst hl; split at hs <;> first | (cases hs; done) | (cases hs; exact s_lshl hp k)
  case lushr => obtain ⟨hl, hs⟩ := bq_some hs; simp only at hl; subst hl; split at hs <;> first | (cases hs; done) | (cases hs; exact s_lushr hp k)
  case lcmp => obtain ⟨hl, hs⟩ := bq_some hs; simp only at hl; subst hl; split at hs <;> first | (cases hs; done) | (cases hs; exact s_lcmp hp k)
  case ineg => obtain ⟨hl, hs⟩ := bq_some hs; simp only at hl; subst hl; split at hs <;> first | (cases hs; done) | (cases hs; exact s_ineg hp k)
  case i2l => obtain ⟨hl, hs⟩ := bq_some hs; simp only at hl; subst hl; split at hs <;> first | (cases hs; done) | (cases hs; exact s_i2l hp k)
  case l2i => obtain ⟨hl, hs⟩ := bq_some hs; simp only at hl; subst hl; split at hs <;> first | (cases hs; done) | (cases hs; exact s_l2i hp k)
  case idiv => obtain ⟨hl, hs⟩ := bq_some hs; simp only at hl; subst hl; split at hs <;> first | (cases hs; done) | (cases hs; exact s_idiv hp hc k)
  case irem => obtain ⟨hl, hs⟩ := bq_some hs; simp only at hl; subst hl; split at hs <;> first | (cases hs; done) | (cases hs; exact s_irem hp hc k)
  case ldiv => obtain ⟨hl, hs⟩ := bq_some hs; simp only at hl; subst hl; split at hs <;> first | (cases hs; done) | (cases hs; exact s_ldiv hp hc k)
  case lrem => obtain ⟨hl, hs⟩ := bq_some hs; simp only at hl; subst hl; split at hs <;> first | (cases hs; done) | (cases hs; exact s_lrem hp hc k)
  case iconst => obtain ⟨hl, hs⟩ := bq_some hs; simp only at hl; subst hl; cases hs; exact s_iconst hp k
  case bipush => obtain ⟨hl, hs⟩ := bq_some hs; simp only at hl; subst hl; cases hs; exact s_bipush hp k
  case sipush => obtain ⟨hl, hs⟩ := bq_some hs; simp only at hl; subst hl; cases hs; exact s_sipush hp k
  case goto => obtain ⟨hl, hs⟩ := bq_some hs; simp only at hl; subst hl; cases hs; exact s_goto hp k
  case aconst_null => obtain ⟨hl, hs⟩ := bq_some hs; simp only at hl; subst hl; cases hs; exact s_null hp k
  case lconst => obtain ⟨hl, hs⟩ := bq_some hs; simp only at hl; subst hl; split at hs <;> (cases hs; exact s_lconst hp rfl k)
  case ldc2_w => obtain ⟨hl, hs⟩ := bq_some hs; simp only at hl; subst hl; split at hs <;> first | (cases hs; done) | (cases hs; exact s_ldc2 hp (cpL_ok (by assumption)) k)
  case iload => obtain ⟨hl, hs⟩ := bq_some hs; simp only at hl; subst hl; split at hs <;> first | (cases hs; done) | (rename_i hld; cases hs; exact s_iload hp (ldL_at hld) k)
  case iload_n => obtain ⟨hl, hs⟩ := bq_some hs; simp only at hl; subst hl; split at hs <;> first | (cases hs; done) | (rename_i hld; cases hs; exact s_iload_n hp (ldL_at hld) k)
  case lload => obtain ⟨hl, hs⟩ := bq_some hs; simp only at hl; subst hl; split at hs <;> first | (cases hs; done) | (rename_i hld; cases hs; exact s_lload hp (ldL_at hld) k)
  case lload_n => obtain ⟨hl, hs⟩ := bq_some hs; simp only at hl; subst hl; split at hs <;> first | (cases hs; done) | (rename_i hld; cases hs; exact s_lload_n hp (ldL_at hld) k)
  case aload => obtain ⟨hl, hs⟩ := bq_some hs; simp only at hl; subst hl; split at hs <;> first | (cases hs; done) | (rename_i hld; cases hs; exact s_aload hp (ldL_at hld) k)
  case aload_n => obtain ⟨hl, hs⟩ := bq_some hs; simp only at hl; subst hl; split at hs <;> first | (cases hs; done) | (rename_i hld; cases hs; exact s_aload_n hp (ldL_at hld) k)
  case istore => obtain ⟨hl, hs⟩ := bq_some hs; simp only at hl; subst hl; split at hs <;> first | (cases hs; done) | (obtain ⟨hb, hs⟩ := bl_some hs; cases hs; exact s_istore hp hb k)
  case istore_n => obtain ⟨hl, hs⟩ := bq_some hs; simp only at hl; subst hl; split at hs <;> first | (cases hs; done) | (obtain ⟨hb, hs⟩ := bl_some hs; cases hs; exact s_istore_n hp hb k)
  case lstore => obtain ⟨hl, hs⟩ := bq_some hs; simp only at hl; subst hl; split at hs <;> first | (cases hs; done) | (obtain ⟨hb, hs⟩ := bl_some hs; cases hs; exact s_lstore hp hb k)
  case lstore_n => obtain ⟨hl, hs⟩ := bq_some hs; simp only at hl; subst hl; split at hs <;> first | (cases hs; done) | (obtain ⟨hb, hs⟩ := bl_some hs; cases hs; exact s_lstore_n hp hb k)
  case astore => obtain ⟨hl, hs⟩ := bq_some hs; simp only at hl; subst hl; split at hs <;> first | (cases hs; done) | (obtain ⟨hb, hs⟩ := bl_some hs; cases hs; exact s_astore hp hb k)
  case astore_n => obtain ⟨hl, hs⟩ := bq_some hs; simp only at hl; subst hl; split at hs <;> first | (cases hs; done) | (obtain ⟨hb, hs⟩ := bl_some hs; cases hs; exact s_astore_n hp hb k)
  case iinc => obtain ⟨hl, hs⟩ := bq_some hs; simp only at hl; subst hl; split at hs <;> first | (cases hs; done) | (rename_i hld; obtain ⟨hb, hs⟩ := bl_some hs; cases hs; exact s_iinc hp hb (ldL_at hld) k)
  case dup => obtain ⟨hl, hs⟩ := bq_some hs; simp only at hl; subst hl; split at hs <;> first | (cases hs; done) | (cases hs; exact s_dup rfl hp k)
  case dup2 => obtain ⟨hl, hs⟩ := bq_some hs; simp only at hl; subst hl; split at hs <;> first | (cases hs; done) | (cases hs; exact s_dup2 hp k)
  case pop => obtain ⟨hl, hs⟩ := bq_some hs; simp only at hl; subst hl; split at hs <;> first | (cases hs; done) | (cases hs; exact s_pop rfl hp k)
  case ifnull => obtain ⟨hl, hs⟩ := bq_some hs; simp only at hl; subst hl; split at hs <;> first | (cases hs; done) | (cases hs; first | exact s_ifnull_some hp k | exact s_ifnull_none hp k)
  case ifnonnull => obtain ⟨hl, hs⟩ := bq_some hs; simp only at hl; subst hl; split at hs <;> first | (cases hs; done) | (cases hs; first | exact s_ifnonnull_some hp k | exact s_ifnonnull_none hp k)
  case getfield => obtain ⟨hl, hs⟩ := bq_some hs; simp only at hl; subst hl; split at hs <;> first | (cases hs; done) | (split at hs <;> first | (cases hs; done) | (rename_i hcp; obtain ⟨h1, hs⟩ := bq_some hs; obtain ⟨h2, hs⟩ := bl_some hs; obtain ⟨h3, hs⟩ := bl_some hs; cases hs; exact s_getfield hp (cpF_ok hcp) (kd_eq h1 rfl) (by rw [← h1]; exact h2) h3 k))
  case putfield => obtain ⟨hl, hs⟩ := bq_some hs; simp only at hl; subst hl; split at hs <;> first | (cases hs; done) | (split at hs <;> first | (cases hs; done) | (rename_i hcp; obtain ⟨h1, hs⟩ := bq_some hs; obtain ⟨h2, hs⟩ := bl_some hs; obtain ⟨h3, hs⟩ := bl_some hs; split at hs <;> first | (cases hs; done) | (rename_i hpt; cases hs; exact s_putfield hp (cpF_ok hcp) (kd_eq h1 rfl) (by rw [← h1]; exact h2) h3 (ptc_ok hpt hc).1 (fun h => absurd h (ptc_ok hpt hc).2) k)))
  case iaload => obtain ⟨hl, hs⟩ := bq_some hs; simp only at hl; subst hl; split at hs <;> first | (cases hs; done) | (obtain ⟨h1, hs⟩ := bq_some hs; cases hs; exact s_iaload hp (kd_eq h1 rfl) hc k)
  case baload => obtain ⟨hl, hs⟩ := bq_some hs; simp only at hl; subst hl; split at hs <;> first | (cases hs; done) | (obtain ⟨h1, hs⟩ := bq_some hs; cases hs; exact s_baload hp (kd_eq h1 rfl) hc k)
  case laload => obtain ⟨hl, hs⟩ := bq_some hs; simp only at hl; subst hl; split at hs <;> first | (cases hs; done) | (obtain ⟨h1, hs⟩ := bq_some hs; cases hs; exact s_laload hp (kd_eq h1 rfl) hc k)
  case iastore => obtain ⟨hl, hs⟩ := bq_some hs; simp only at hl; subst hl; split at hs <;> first | (cases hs; done) | (obtain ⟨h1, hs⟩ := bq_some hs; cases hs; exact s_iastore hp (kd_eq h1 rfl) hc k)
  case lastore => obtain ⟨hl, hs⟩ := bq_some hs; simp only at hl; subst hl; split at hs <;> first | (cases hs; done) | (obtain ⟨h1, hs⟩ := bq_some hs; cases hs; exact s_lastore hp (kd_eq h1 rfl) hc k)
  case bastore => obtain ⟨hl, hs⟩ := bq_some hs; simp only at hl; subst hl; split at hs <;> first | (cases hs; done) | (obtain ⟨h1, hs⟩ := bq_some hs; cases hs; exact s_bastore hp (kd_eq h1 rfl) hc.1 hc.2 k)
  case aaload => obtain ⟨hl, hs⟩ := bq_some hs; simp only at hl; subst hl; split at hs <;> first | (cases hs; done) | (obtain ⟨h1, hs⟩ := bl_some hs; cases hs; exact s_aaload hp rfl h1 hc k)
  case arraylength => obtain ⟨hl, hs⟩ := bq_some hs; simp only at hl; subst hl; split at hs <;> first | (cases hs; done) | (obtain ⟨h1, hs⟩ := bl_some hs; cases hs; exact s_arraylength hp (kd_eq rfl rfl) h1 rfl k)
  all_goals cases hs
/-- straight on, until a branch, a call, a return, the stop sp, or behind a jump back -/
def blk : Nat → Nat → MI → Nat → List (Option AV) → List AV → AH → List Prop × St
  | 0, _, _, pc, L, S, h => ([], pc, L, S, h)
  | n + 1, sp, mt, pc, L, S, h => match mt.2.2 pc with
    | none => ([], pc, L, S, h)
    | some e => match st1 mt e L S h with
      | none => ([], pc, L, S, h)
      | some (c, pc', L', S', h') => bif Nat.beq pc' sp || Nat.ble pc' pc then (c, pc', L', S', h') else match blk n sp mt pc' L' S' h' with
        | (cs, z) => (c ++ cs, z)
theorem blk_ok : ∀ {n sp pc : Nat} {L : List (Option AV)} {S : List AV} {h : AH} {cs : List Prop} {z : St}, blk n sp mt pc L S h = (cs, z) → allP cs → R d kc ks u v mt z.1 z.2.1 z.2.2.1 z.2.2.2 Q → R d kc ks u v mt pc L S h Q := by
  intro n
  induction n with
  | zero =>
    intro sp pc L S h cs z hb hc k
    cases hb
    exact k
  | succ n ih =>
    intro sp pc L S h cs z hb hc k
    unfold blk at hb
    split at hb
    · cases hb; exact k
    · rename_i e he
      split at hb
      · cases hb; exact k
      · rename_i c pc' L' S' h' hst
        cases hcn : (Nat.beq pc' sp || Nat.ble pc' pc) with
        | true =>
          rw [hcn] at hb
          cases hb
          exact st1_ok he hst hc k
        | false =>
          rw [hcn] at hb
          simp only [cond_false] at hb
          cases hbl : blk n sp mt pc' L' S' h' with
          | mk cs' z' =>
            rw [hbl] at hb
            cases hb
            obtain ⟨h1, h2⟩ := allP_app hc
            exact st1_ok he hst h1 (ih hbl h2 k)
/-- straight on: sp is where to stop -/
theorem R_blk (sp : Nat) {cs : List Prop} {pc' : Nat} {L' : List (Option AV)} {S' : List AV} {h' : AH} (hb : blk 200 sp mt pc L S h = (cs, pc', L', S', h')) (hc : allP cs) (k : R d kc ks u v mt pc' L' S' h' Q) : R d kc ks u v mt pc L S h Q := blk_ok hb hc k
/-- a branch: its condition, where it goes if it holds, where else -/
def brf (e : Instr × Nat × Nat × Nat × Int32) (S : List AV) : Option (Prop × Prop × Nat × Nat × List AV) := match e.1 with
  | .ifCond c _ => bq e.2.1 3 (match S with | .inl x :: S => some (match c with | .eq => (x = 0, ¬ x = 0, e.2.2.2.1, e.2.2.1, S) | .ne => (x = 0, ¬ x = 0, e.2.2.1, e.2.2.2.1, S) | .lt => (x < 0, ¬ x < 0, e.2.2.2.1, e.2.2.1, S) | .ge => (0 ≤ x, ¬ 0 ≤ x, e.2.2.2.1, e.2.2.1, S) | .gt => (0 < x, ¬ 0 < x, e.2.2.2.1, e.2.2.1, S) | .le => (x ≤ 0, ¬ x ≤ 0, e.2.2.2.1, e.2.2.1, S)) | _ => none)
  | .if_icmp c _ => bq e.2.1 3 (match S with | .inl y :: .inl x :: S => some (match c with | .eq => (x = y, ¬ x = y, e.2.2.2.1, e.2.2.1, S) | .ne => (x = y, ¬ x = y, e.2.2.1, e.2.2.2.1, S) | .lt => (x < y, ¬ x < y, e.2.2.2.1, e.2.2.1, S) | .ge => (y ≤ x, ¬ y ≤ x, e.2.2.2.1, e.2.2.1, S) | .gt => (y < x, ¬ y < x, e.2.2.2.1, e.2.2.1, S) | .le => (x ≤ y, ¬ x ≤ y, e.2.2.2.1, e.2.2.1, S)) | _ => none)
  | _ => none
set_option maxHeartbeats 4000000 in
theorem R_br {e : Instr × Nat × Nat × Nat × Int32} {c c' : Prop} {t f : Nat} {S' : List AV} (hp : mt.2.2 pc = some e) (hb : brf e S = some (c, c', t, f, S')) (kt : c → R d kc ks u v mt t L S' h Q) (kf : c' → R d kc ks u v mt f L S' h Q) : R d kc ks u v mt pc L S h Q := by
  obtain ⟨ins, len, nx, tg, k0⟩ := e
  unfold brf at hb
  split at hb
  · rename_i cc off hi
    simp only at hi; subst hi
    obtain ⟨hl, hb⟩ := bq_some hb
    simp only at hl; subst hl
    split at hb
    · cases cc <;> cases hb
      · exact s_if_eq hp kt kf
      · exact s_if_ne hp kf kt
      · exact s_if_lt hp kt kf
      · exact s_if_ge hp kt kf
      · exact s_if_gt hp kt kf
      · exact s_if_le hp kt kf
    · cases hb
  · rename_i cc off hi
    simp only at hi; subst hi
    obtain ⟨hl, hb⟩ := bq_some hb
    simp only at hl; subst hl
    split at hb
    · cases cc <;> cases hb
      · exact s_icmp_eq hp kt kf
      · exact s_icmp_ne hp kf kt
      · exact s_icmp_lt hp kt kf
      · exact s_icmp_ge hp kt kf
      · exact s_icmp_gt hp kt kf
      · exact s_icmp_le hp kt kf
    · cases hb
  · cases hb
end RS
