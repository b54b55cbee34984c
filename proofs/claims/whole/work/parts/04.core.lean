abbrev AV : Type := Int32 ⊕ Int64 ⊕ Option (Nat × Nat)
abbrev FI : Type := Nat → Nat → Nat → Int32
abbrev FJ : Type := Nat → Nat → Nat → Int64
abbrev FR : Type := Nat → Nat → Nat → Option (Nat × Nat)
/-- how many of each group, int fields and rows, long fields and rows, references -/
abbrev AH : Type := (Nat → Nat) × FI × FJ × FR
/-- the ghost: what was made, where it lies, array classes, array types -/
abbrev Gh : Type := List (Nat × Nat) × (Nat × Nat → Nat) × (Nat × Nat → ClassId) × List (ClassId × FieldType)
/-- a method: name, bytes, locals, return; its class; its instructions -/
abbrev MI : Type := (MethodName × ByteArray × Nat × Option FieldType) × Nat × (Nat → Option (Instr × Nat × Nat × Nat × Int32))
def up3 {α : Type} (f : Nat → Nat → Nat → α) (g i s : Nat) (x : α) : Nat → Nat → Nat → α := fun g' => if g' = g then (fun i' => if i' = i then (fun s' => if s' = s then x else f g i s') else f g i') else f g'
def cv (ad : Nat × Nat → Nat) (v : AV) : Value := match v with
  | .inl x => .int x
  | .inr (.inl x) => .long x
  | .inr (.inr r) => va_rf (r.map ad)
def okv (G : Gh) (v : AV) : Prop := ∀ q, v = .inr (.inr (some q)) → q ∈ G.1
def lpos (ad : Nat × Nat → Nat) : Nat → List (Option AV) → List (Nat × Value)
  | _, [] => []
  | i, none :: t => lpos ad (i + 1) t
  | i, some v :: t => (i, cv ad v) :: lpos ad (i + 1) t
def tcode (t : FieldType) : Nat := match t with
  | .int => 0
  | .boolean => 1
  | .long => 2
  | _ => 3
def fvl (ad : Nat × Nat → Nat) (h : AH) (k g i s : Nat) : Value := match tcode (fty k s) with
  | 0 => .int (h.2.1 g i s)
  | 1 => .int (h.2.1 g i s)
  | 2 => .long (h.2.2.1 g i s)
  | _ => va_rf ((h.2.2.2 g i s).map ad)
def aty (k : Nat) : FieldType := match k with
  | 13 => .int
  | 14 => .long
  | 15 => .boolean
  | 16 => .object "AlikeUnlike$Person"
  | _ => .object "AlikeUnlike$Script"
def cel (G : Gh) (h : AH) (q : Nat × Nat) : va_E :=
  if (kd q.1).1 < 13 then .inr ((kd q.1).1, (List.range (kd q.1).2).map (fun s => fvl G.2.1 h (kd q.1).1 q.1 q.2 s))
  else if (kd q.1).1 = 14 then .inl (G.2.2.1 q, (kd q.1).2, .inr (.inl (h.2.2.1 q.1 q.2)))
  else if (kd q.1).1 < 16 then .inl (G.2.2.1 q, (kd q.1).2, .inl (h.2.1 q.1 q.2))
  else .inl (G.2.2.1 q, (kd q.1).2, .inr (.inr (.inr (.inr (fun j => (h.2.2.2 q.1 q.2 j).map G.2.1)))))
def gw (G : Gh) (h : AH) : va_W := G.1.map (fun q => (G.2.1 q, cel G h q))
/-- what was made is counted, references point at what was made, array cells have their classes -/
def Shp (G : Gh) (h : AH) : Prop := G.1.Nodup ∧ (∀ q : Nat × Nat, q ∈ G.1 ↔ q.2 < h.1 q.1) ∧ (∀ q ∈ G.1, ∀ s, s < (kd q.1).2 → ∀ q', h.2.2.2 q.1 q.2 s = some q' → q' ∈ G.1) ∧ (∀ q ∈ G.1, 13 ≤ (kd q.1).1 → ∃ t0 : Nat, G.2.2.2[t0]? = some (G.2.2.1 q, aty (kd q.1).1))
def Kn (D : va_G) (G : Gh) (U : State) : Prop := va_K D cls G.2.2.2 U ∧ (∀ w ∈ NW, va_Nw w U) ∧ va_AO "AlikeUnlike$Person" U ∧ va_AO "AlikeUnlike$Script" U
def Ext (G G' : Gh) : Prop := ∀ q ∈ G.1, q ∈ G'.1 ∧ G'.2.1 q = G.2.1 q
def cok (ins : Instr) (k : Int32) : Bool := match ins with
  | .bipush n => (Int8.ofInt n).toInt32 == k
  | .sipush n => (Int16.ofInt n).toInt32 == k
  | .iconst n => Int32.ofInt n == k
  | .iinc _ n => Int32.ofInt n == k
  | _ => true
def tok (ins : Instr) (pc tg : Nat) : Bool := match ins with
  | .ifCond _ off => (pc : Int) + off == (tg : Int)
  | .if_icmp _ off => (pc : Int) + off == (tg : Int)
  | .goto off => (pc : Int) + off == (tg : Int)
  | .ifnull off => (pc : Int) + off == (tg : Int)
  | .ifnonnull off => (pc : Int) + off == (tg : Int)
  | _ => true
def MOK (mt : MI) : Prop := (∀ pc ins len nx tg k, mt.2.2 pc = some (ins, len, nx, tg, k) → decode mt.1.2.1 pc = .ok (ins, len) ∧ nx = pc + len ∧ tok ins pc tg = true ∧ cok ins k = true) ∧ mt.1.1.cls = cnm mt.2.1 ∧ Cond.code mt.1.1 mt.1.2.1 mt.1.2.2.1 mt.1.2.2.2 ∈ TW ∧ plainName mt.1.1.cls = true
def Fx (mt : MI) (p : Program) (s : State) (m : MethodId) (args : Array Value) (meth : Method) (c : Code) : Prop := MOK mt ∧ p.tables.exec = Jvm.exec ∧ c.code = mt.1.2.1 ∧ meth.sig.returnType = mt.1.2.2.2 ∧ c.maxLocals = mt.1.2.2.1 ∧ s.vm.findClass (cnm mt.2.1) = some m.cls ∧ (∀ w ∈ TW, w.before args s = true) ∧ meth.locks = false ∧ meth.name = mt.1.1.name
def Iv (A : Nat → Prop) (D : va_G) (G0 G : Gh) (h : AH) (s : State) (H : Heap) (locs : List Loc) : Prop := Kn D G s ∧ (∀ q, s.heap.size ≤ q → A q) ∧ va_P D cls (gw G h) H ∧ va_D A (gw G h) ∧ va_S A s.heap H locs ∧ Shp G h ∧ Ext G0 G
def Qp (Q : Option AV → AH → Prop) (D : va_G) (G0 : Gh) (A : Nat → Prop) : Array Value → State → Outcome → State → Prop := fun _ st oc t => (∃ (r : Option AV) (h' : AH) (G' : Gh), oc = .returned (r.map (cv G'.2.1)) ∧ Q r h' ∧ (∀ x, r = some x → okv G' x) ∧ Kn D G' t ∧ va_P D cls (gw G' h') t.heap ∧ va_D A (gw G' h') ∧ Shp G' h' ∧ Ext G0 G') ∧ va_F A st t
def rmv (d kc ks : Nat) : Room := { frames := d, cells := kc, slots := ks, locals := 64 * d }
def R (d kc ks u v : Nat) (mt : MI) (pc : Nat) (L : List (Option AV)) (S : List AV) (h : AH) (Q : Option AV → AH → Prop) : Prop :=
  ∀ (l : Launch) (p : Program) (e : Env) (s : State) (m : MethodId) (args : Array Value) (below : List Frame) (meth : Method) (c : Code) (A : Nat → Prop) (D : va_G) (G0 G : Gh) (H : Heap) (locs : List Loc) (ls : Array Slot), Fx mt p s m args meth c → Iv A D G0 G h s H locs → (∀ x ∈ S, okv G x) → (∀ x, some x ∈ L → okv G x) → lv_has ls mt.1.2.2.1 (lpos G.2.1 0 L) → W p l e (rmv d kc ks) s m args below meth c H locs u v (MQ below (Qp Q D G0 A) args s kc ks A) (F0 m pc ls (S.map (cv G.2.1)))
def M (d kc ks : Nat) (mt : MI) (As : List AV) (h : AH) (Q : Option AV → AH → Prop) : Prop :=
  ∀ (l : Launch) (D : va_G) (G : Gh) (sz : Nat), (∀ x ∈ As, okv G x) → Met l mt.1.1 (.code mt.1.1 mt.1.2.1 mt.1.2.2.1 mt.1.2.2.2 :: TW) (rmv d kc ks) (fun v U => v = (As.map (cv G.2.1)).toArray ∧ U.heap.size = sz ∧ Kn D G U ∧ va_P D cls (gw G h) U.heap ∧ va_D (fun _ => True) (gw G h) ∧ Shp G h) (Qp Q D G (va_A (gw G h) sz)) kc ks (va_A (gw G h) sz)
/-! locals -/
theorem lpos_in {ad : Nat × Nat → Nat} : ∀ {L : List (Option AV)} {b k : Nat} {v : AV}, L[k]? = some (some v) → (b + k, cv ad v) ∈ lpos ad b L := by
  intro L
  induction L with
  | nil => intro b k v h; simp at h
  | cons o t ih =>
    intro b k v h
    cases k with
    | zero =>
      simp at h; subst h
      exact List.mem_cons_self
    | succ k =>
      have h1 : t[k]? = some (some v) := by simpa using h
      have h2 := ih (b := b + 1) h1
      rw [show b + (k + 1) = b + 1 + k by omega]
      cases o with
      | none => exact h2
      | some w => exact List.mem_cons_of_mem _ h2
theorem lpos_of {ad : Nat × Nat → Nat} : ∀ {L : List (Option AV)} {b : Nat} {q : Nat × Value}, q ∈ lpos ad b L → ∃ k v, L[k]? = some (some v) ∧ q = (b + k, cv ad v) := by
  intro L
  induction L with
  | nil => intro b q h; simp [lpos] at h
  | cons o t ih =>
    intro b q h
    cases o with
    | none =>
      obtain ⟨k, v, h1, h2⟩ := ih (b := b + 1) h
      exact ⟨k + 1, v, by simpa using h1, by rw [h2, show b + 1 + k = b + (k + 1) by omega]⟩
    | some w =>
      rcases List.mem_cons.mp h with h | h
      · exact ⟨0, w, by simp, h⟩
      · obtain ⟨k, v, h1, h2⟩ := ih (b := b + 1) h
        exact ⟨k + 1, v, by simpa using h1, by rw [h2, show b + 1 + k = b + (k + 1) by omega]⟩
theorem lvh_mono {ls : Array Slot} {n : Nat} {l l' : List (Nat × Value)} (h : lv_has ls n l) (hs : ∀ q ∈ l', q ∈ l) : lv_has ls n l' := ⟨h.1, h.2.1, fun q hq => h.2.2 q (hs q hq)⟩
theorem lvh_at {ls : Array Slot} {n : Nat} {ad : Nat × Nat → Nat} {L : List (Option AV)} (h : lv_has ls n (lpos ad 0 L)) {k : Nat} {v : AV} (hk : L[k]? = some (some v)) : ls[k]? = some (.val (cv ad v)) := by
  have h1 := h.2.2 _ (lpos_in (ad := ad) (b := 0) hk)
  simpa using h1
def isL (o : Option AV) : Bool := match o with
  | some (.inr (.inl _)) => true
  | _ => false
/-- a store of one word -/
def stL : List (Option AV) → Nat → AV → List (Option AV)
  | [], _, _ => []
  | _ :: t, 0, v => some v :: t
  | o :: t, i + 1, v => (if isL o && Nat.beq i 0 then none else o) :: stL t i v
def noneHd : List (Option AV) → List (Option AV)
  | [] => []
  | _ :: t => none :: t
/-- a store of two words -/
def stL2 : List (Option AV) → Nat → AV → List (Option AV)
  | [], _, _ => []
  | _ :: t, 0, v => some v :: noneHd t
  | o :: t, i + 1, v => (if isL o && Nat.beq i 0 then none else o) :: stL2 t i v
theorem cv_cat {ad : Nat × Nat → Nat} {v : AV} : ((cv ad v).category = 2) = (isL (some v) = true) := by
  rcases v with x | x | r
  · simp [cv, isL, Value.category]
  · simp [cv, isL, Value.category]
  · cases r <;> simp [cv, isL, Value.category, va_rf]
theorem stL_at : ∀ {L : List (Option AV)} {i k : Nat} {v w : AV}, (stL L i v)[k]? = some (some w) → (k = i ∧ w = v) ∨ (k ≠ i ∧ L[k]? = some (some w) ∧ ¬ (k + 1 = i ∧ isL (some w) = true)) := by
  intro L
  induction L with
  | nil => intro i k v w h; simp [stL] at h
  | cons o t ih =>
    intro i k v w h
    cases i with
    | zero =>
      cases k with
      | zero => simp [stL] at h; exact Or.inl ⟨rfl, h.symm⟩
      | succ k => simp [stL] at h; exact Or.inr ⟨by omega, by simpa using h, by omega⟩
    | succ i =>
      cases k with
      | zero =>
        simp only [stL, List.getElem?_cons_zero, Option.some.injEq] at h
        split at h
        · cases h
        · rename_i hc
          subst h
          refine Or.inr ⟨by omega, by simp, fun hh => hc ?_⟩
          have : i = 0 := by omega
          subst this
          simp [hh.2]
      | succ k =>
        have h1 : (stL t i v)[k]? = some (some w) := by simpa [stL] using h
        rcases ih h1 with ⟨a, b⟩ | ⟨a, b, c⟩
        · exact Or.inl ⟨by omega, b⟩
        · exact Or.inr ⟨by omega, by simpa using b, fun hh => c ⟨by omega, hh.2⟩⟩
theorem noneHd_at {t : List (Option AV)} {k : Nat} {w : AV} (h : (noneHd t)[k]? = some (some w)) : k ≠ 0 ∧ t[k]? = some (some w) := by
  cases t with
  | nil => simp [noneHd] at h
  | cons o t =>
    cases k with
    | zero => simp [noneHd] at h
    | succ k => exact ⟨by omega, by simpa [noneHd] using h⟩
theorem stL2_at : ∀ {L : List (Option AV)} {i k : Nat} {v w : AV}, (stL2 L i v)[k]? = some (some w) → (k = i ∧ w = v) ∨ (k ≠ i ∧ k ≠ i + 1 ∧ L[k]? = some (some w) ∧ ¬ (k + 1 = i ∧ isL (some w) = true)) := by
  intro L
  induction L with
  | nil => intro i k v w h; simp [stL2] at h
  | cons o t ih =>
    intro i k v w h
    cases i with
    | zero =>
      cases k with
      | zero => simp [stL2] at h; exact Or.inl ⟨rfl, h.symm⟩
      | succ k =>
        have h1 : (noneHd t)[k]? = some (some w) := by simpa [stL2] using h
        have h2 := noneHd_at h1
        exact Or.inr ⟨by omega, by omega, by simpa using h2.2, by omega⟩
    | succ i =>
      cases k with
      | zero =>
        simp only [stL2, List.getElem?_cons_zero, Option.some.injEq] at h
        split at h
        · cases h
        · rename_i hc
          subst h
          refine Or.inr ⟨by omega, by omega, by simp, fun hh => hc ?_⟩
          have : i = 0 := by omega
          subst this
          simp [hh.2]
      | succ k =>
        have h1 : (stL2 t i v)[k]? = some (some w) := by simpa [stL2] using h
        rcases ih h1 with ⟨a, b⟩ | ⟨a, a2, b, c⟩
        · exact Or.inl ⟨by omega, b⟩
        · exact Or.inr ⟨by omega, by omega, by simpa using b, fun hh => c ⟨by omega, hh.2⟩⟩
theorem lpos_stL {ad : Nat × Nat → Nat} {L : List (Option AV)} {i : Nat} {v : AV} : ∀ q ∈ lpos ad 0 (stL L i v), q ∈ (i, cv ad v) :: (lpos ad 0 L).filter (fun q => !(q.1 == i) && !(q.1 + 1 == i && q.2.category == 2)) := by
  intro q hq
  obtain ⟨k, w, h1, rfl⟩ := lpos_of hq
  rcases stL_at h1 with ⟨rfl, rfl⟩ | ⟨a, b, c⟩
  · simp
  · refine List.mem_cons_of_mem _ (List.mem_filter.mpr ⟨lpos_in b, ?_⟩)
    rw [← cv_cat (ad := ad)] at c
    simp only [Nat.zero_add, Bool.and_eq_true, Bool.not_eq_true', beq_eq_false_iff_ne, Bool.and_eq_false_iff, ne_eq]
    by_cases hk : k + 1 = i
    · exact ⟨a, Or.inr (fun z => c ⟨hk, z⟩)⟩
    · exact ⟨a, Or.inl hk⟩
theorem lpos_stL2 {ad : Nat × Nat → Nat} {L : List (Option AV)} {i : Nat} {v : AV} : ∀ q ∈ lpos ad 0 (stL2 L i v), q ∈ (i, cv ad v) :: (lpos ad 0 L).filter (fun q => !(q.1 == i) && (!(q.1 == i + 1) && !(q.1 + 1 == i && q.2.category == 2))) := by
  intro q hq
  obtain ⟨k, w, h1, rfl⟩ := lpos_of hq
  rcases stL2_at h1 with ⟨rfl, rfl⟩ | ⟨a, a2, b, c⟩
  · simp
  · refine List.mem_cons_of_mem _ (List.mem_filter.mpr ⟨lpos_in b, ?_⟩)
    rw [← cv_cat (ad := ad)] at c
    simp only [Nat.zero_add, Bool.and_eq_true, Bool.not_eq_true', beq_eq_false_iff_ne, Bool.and_eq_false_iff, ne_eq]
    by_cases hk : k + 1 = i
    · exact ⟨a, a2, Or.inr (fun z => c ⟨hk, z⟩)⟩
    · exact ⟨a, a2, Or.inl hk⟩
theorem okl_stL {G : Gh} {L : List (Option AV)} {i : Nat} {v : AV} (hL : ∀ x, some x ∈ L → okv G x) (hv : okv G v) : ∀ x, some x ∈ stL L i v → okv G x := by
  intro x hx
  obtain ⟨k, hk⟩ := List.getElem?_of_mem hx
  rcases stL_at hk with ⟨-, rfl⟩ | ⟨-, b, -⟩
  · exact hv
  · exact hL x (List.mem_of_getElem? b)
theorem okl_stL2 {G : Gh} {L : List (Option AV)} {i : Nat} {v : AV} (hL : ∀ x, some x ∈ L → okv G x) (hv : okv G v) : ∀ x, some x ∈ stL2 L i v → okv G x := by
  intro x hx
  obtain ⟨k, hk⟩ := List.getElem?_of_mem hx
  rcases stL2_at hk with ⟨-, rfl⟩ | ⟨-, -, b, -⟩
  · exact hv
  · exact hL x (List.mem_of_getElem? b)
theorem okv_i {G : Gh} {x : Int32} : okv G (.inl x) := fun _ h => by cases h
theorem okv_l {G : Gh} {x : Int64} : okv G (.inr (.inl x)) := fun _ h => by cases h
theorem okv_n {G : Gh} : okv G (.inr (.inr none)) := fun _ h => by cases h
