/-- a method's locals at its entry -/
def eL : List AV → List (Option AV)
  | [] => []
  | x :: t => bif isL (some x) then some x :: none :: eL t else some x :: eL t
def pad : Nat → List (Option AV)
  | 0 => []
  | n + 1 => none :: pad n
theorem pad_no : ∀ {n b : Nat} {ad : Nat × Nat → Nat}, lpos ad b (pad n) = [] := by
  intro n
  induction n with
  | zero => intro b ad; rfl
  | succ n ih => intro b ad; exact ih
theorem lpos_app {ad : Nat × Nat → Nat} : ∀ {L L' : List (Option AV)} {b : Nat}, lpos ad b (L ++ L') = lpos ad b L ++ lpos ad (b + L.length) L' := by
  intro L
  induction L with
  | nil => intro L' b; rfl
  | cons o t ih =>
    intro L' b
    cases o with
    | none =>
      show lpos ad (b + 1) (t ++ L') = lpos ad (b + 1) t ++ _
      rw [ih, show b + 1 + t.length = b + (none :: t : List (Option AV)).length by simp; omega]
    | some w =>
      show (b, cv ad w) :: lpos ad (b + 1) (t ++ L') = (b, cv ad w) :: lpos ad (b + 1) t ++ _
      rw [ih, show b + 1 + t.length = b + (some w :: t : List (Option AV)).length by simp; omega]
      rfl
theorem lpos_eL {ad : Nat × Nat → Nat} : ∀ {As : List AV} {b : Nat}, lpos ad b (eL As) = lv_args b (As.map (cv ad)) := by
  intro As
  induction As with
  | nil => intro b; rfl
  | cons x t ih =>
    intro b
    show lpos ad b (eL (x :: t)) = (b, cv ad x) :: lv_args (if (cv ad x).category = 2 then b + 2 else b + 1) (t.map (cv ad))
    rcases x with y | y | r
    · show (b, _) :: lpos ad (b + 1) (eL t) = _
      rw [ih]; rfl
    · show (b, _) :: lpos ad (b + 1 + 1) (eL t) = _
      rw [ih]; rfl
    · show (b, _) :: lpos ad (b + 1) (eL t) = _
      rw [ih]
      cases r <;> rfl
theorem okl_eL {G : Gh} : ∀ {As : List AV}, (∀ x ∈ As, okv G x) → ∀ x, some x ∈ eL As → okv G x := by
  intro As
  induction As with
  | nil => intro _ x h; cases h
  | cons y t ih =>
    intro hA x hx
    have h1 := ih (fun z hz => hA z (List.mem_cons_of_mem _ hz)) x
    unfold eL at hx
    cases hy : isL (some y) with
    | true =>
      rw [hy] at hx
      simp only [cond_true, List.mem_cons] at hx
      rcases hx with h | h | h
      · cases h; exact hA y List.mem_cons_self
      · cases h
      · exact h1 h
    | false =>
      rw [hy] at hx
      simp only [cond_false, List.mem_cons] at hx
      rcases hx with h | h
      · cases h; exact hA y List.mem_cons_self
      · exact h1 h
theorem okl_pad {G : Gh} : ∀ {n : Nat} (x : AV), some x ∈ pad n → okv G x := by
  intro n
  induction n with
  | zero => intro x h; cases h
  | succ n ih =>
    intro x h
    rcases List.mem_cons.mp h with h | h
    · cases h
    · exact ih x h
def wsum : List AV → Nat
  | [] => 0
  | x :: t => acat x + wsum t
theorem wsum_sl {ad : Nat × Nat → Nat} : ∀ {As : List AV}, (lg_sl (As.map (cv ad))).length = wsum As := by
  intro As
  induction As with
  | nil => rfl
  | cons x t ih =>
    have h1 : lg_sl ((x :: t).map (cv ad)) = (if (cv ad x).category = 2 then [.val (cv ad x), .second] else [.val (cv ad x)]) ++ lg_sl (t.map (cv ad)) := by
      simp [lg_sl]
    rw [h1, List.length_append, ih]
    show _ = acat x + wsum t
    rw [acat_cv]
    rcases x with y | y | r <;> rfl
section RM
variable {d kc ks u v : Nat} {mt : MI} {pc nx tg : Nat} {k0 : Int32} {L L' : List (Option AV)} {S As : List AV} {h : AH} {Q Q' : Option AV → AH → Prop}
theorem M_of (hm : MOK mt) {n : Nat} (hw : wsum As ≤ mt.1.2.2.1) (k : R d kc ks 0 0 mt 0 (eL As ++ pad n) [] h Q) : M d kc ks mt As h Q := by
  intro l D G sz hA
  refine Met.ofW (cc := mt.1.2.1) (maxL := mt.1.2.2.1) (ret := mt.1.2.2.2) hm.2.2.2 rfl ?_
  intro p e s m args below meth c s₁ B hml hv
  obtain ⟨rfl, hsz, hKn, hP, hD0, hSh⟩ := hv
  have hts := atoms_spec (ws := .code mt.1.1 mt.1.2.1 mt.1.2.2.1 mt.1.2.2.2 :: TW) B.pre
  have hown : s.vm.findClass mt.1.1.cls = some m.cls := findClass_of_methodNamed B.named
  have hnm : meth.name = mt.1.1.name := (name_of_methodNamed B.named B.method).1
  subst hsz
  have hD := hD0.self (sz := s.heap.size)
  have hS : va_S (va_A (gw G h) s.heap.size) s.heap s.heap [] := va_S.rf
  have hl := lv_entry (As.map (cv G.2.1)) (n := mt.1.2.2.1) (by rw [wsum_sl]; exact hw)
  rw [lg_entry_eq]
  refine k l p e s m _ below meth c (va_A (gw G h) s.heap.size) D G G s.heap [] _ ⟨hm, B.exec, B.bytes, B.returns, hml, by rw [← hm.2.1]; exact hown, fun w hw => hts w (List.mem_cons_of_mem _ hw), B.notSynchronized, hnm⟩ ⟨hKn, fun q hq => Or.inr hq, hP, hD, hS, hSh, ext_rf⟩ (fun x hx => by cases hx) (fun x hx => ?_) ?_
  · rcases List.mem_append.mp hx with h | h
    · exact okl_eL hA x h
    · exact okl_pad x h
  · rw [lpos_app, pad_no, List.append_nil, lpos_eL]
    exact hl
def lsub : List (Option AV) → List (Option AV) → Prop
  | [], _ => True
  | none :: t, [] => lsub t []
  | none :: t, _ :: t' => lsub t t'
  | some _ :: _, [] => False
  | some x :: t, o :: t' => o = some x ∧ lsub t t'
theorem lsub_at : ∀ {L' L : List (Option AV)} {k : Nat} {x : AV}, lsub L' L → L'[k]? = some (some x) → L[k]? = some (some x) := by
  intro L'
  induction L' with
  | nil => intro L k x _ h; simp at h
  | cons o t ih =>
    intro L k x hs h
    cases o with
    | none =>
      cases k with
      | zero => simp at h
      | succ k =>
        have h1 : t[k]? = some (some x) := by simpa using h
        cases L with
        | nil => have := ih (L := []) hs h1; simp at this
        | cons o' t' => simpa using ih (L := t') hs h1
    | some y =>
      cases L with
      | nil => exact absurd hs id
      | cons o' t' =>
        cases k with
        | zero =>
          have : y = x := by simpa using h
          subst this
          simpa using hs.1
        | succ k =>
          have h1 : t[k]? = some (some x) := by simpa using h
          simpa using ih (L := t') hs.2 h1
theorem R_weak (hs : lsub L' L) (k : R d kc ks u v mt pc L' S h Q) : R d kc ks u v mt pc L S h Q := by
  intro l p e s m args below meth c A D G0 G H locs ls F I hS hL hl
  refine k l p e s m args below meth c A D G0 G H locs ls F I hS (fun x hx => ?_) (lvh_mono hl (fun q hq => ?_))
  · obtain ⟨j, hj⟩ := List.getElem?_of_mem hx
    exact hL x (List.mem_of_getElem? (lsub_at hs hj))
  · obtain ⟨j, w, h1, rfl⟩ := lpos_of hq
    exact lpos_in (lsub_at hs h1)
theorem W_mono {p : Program} {l : Launch} {e : Env} {Rm : Room} {s : State} {m : MethodId} {args : Array Value} {below : List Frame} {meth : Method} {c : Code} {H : Heap} {locs : List Loc} {cells slots : Nat} {Z Z' : State → Prop} {g : JFrame} (hz : ∀ t, Z t → Z' t) (k : W p l e Rm s m args below meth c H locs cells slots Z g) : W p l e Rm s m args below meth c H locs cells slots Z' g := fun T hT X => by
  obtain ⟨t, a, b⟩ := k T hT X
  exact ⟨t, a, hz t b⟩
theorem Qp_mono (hq : ∀ r h', Q r h' → Q' r h') {D : va_G} {G0 : Gh} {A : Nat → Prop} {a : Array Value} {st t : State} {oc : Outcome} (z : Qp Q D G0 A a st oc t) : Qp Q' D G0 A a st oc t := by
  obtain ⟨⟨r, h', G', a1, a2, a3⟩, b⟩ := z
  exact ⟨⟨r, h', G', a1, hq r h' a2, a3⟩, b⟩
theorem R_mono (hq : ∀ r h', Q r h' → Q' r h') (k : R d kc ks u v mt pc L S h Q) : R d kc ks u v mt pc L S h Q' := by
  intro l p e s m args below meth c A D G0 G H locs ls F I hS hL hl
  refine W_mono ?_ (k l p e s m args below meth c A D G0 G H locs ls F I hS hL hl)
  intro t ht
  obtain ⟨o, a, b, c1, d1⟩ := ht
  exact ⟨o, a, b, Qp_mono hq c1, d1⟩
theorem s_objInit {idx g i : Nat} (hp : mt.2.2 pc = some (.invokespecial idx, 3, nx, tg, k0)) (hl : Cond.methodLink (cnm mt.2.1) idx objectInit ∈ TW) (hi : Cond.instanceMethod objectInit ∈ TW) (hc : Cond.code objectInit ⟨#[0xb1]⟩ 1 none ∈ TW) (hd : 1 ≤ d) (hS8 : (S.map acat).sum ≤ 8) (k : R d kc ks u v mt nx L S h Q) : R d kc ks u v mt pc L (.inr (.inr (some (g, i))) :: S) h Q := by
  intro l p e s m args below meth c A D G0 G H locs ls F I hS hL hlv
  obtain ⟨hm, hx, hb, hr, hml, hown, hts, hlk, hnm⟩ := id F
  obtain ⟨hdg, hnx, htg, hck⟩ := hm.1 _ _ _ _ _ _ hp
  subst hnx
  have h8 := lv_room (m := m) (pc := pc) (ls := ls) (rest := (.inr (.inr (some (g, i))) :: S : List AV).map (cv G.2.1)) (st := S.map (cv G.2.1)) (by rw [acat_sum]; exact hS8)
  exact W.objInit hx hb hown (hts _ hl) (hts _ hi) (hts _ hc) rfl (by rw [hml]; exact hlv.1) (a := G.2.1 (g, i)) (rest := S.map (cv G.2.1)) rfl hdg hd (by have : (rmv d kc ks).locals = 64 * d := rfl; rw [this]; omega) (k l p e s m args below meth c A D G0 G H locs ls F I (ok_tl hS) hL hlv)
end RM
