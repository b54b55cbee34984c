theorem gw_at {G : Gh} {h : AH} {q : Nat × Nat} (hq : q ∈ G.1) : ∃ k : Nat, G.1[k]? = some q ∧ (gw G h)[k]? = some (G.2.1 q, cel G h q) := by
  obtain ⟨k, hk⟩ := List.getElem?_of_mem hq
  exact ⟨k, hk, by simp [gw, hk]⟩
theorem gw_set {G : Gh} {h h' : AH} {q : Nat × Nat} {k : Nat} (hn : G.1.Nodup) (hk : G.1[k]? = some q) (ho : ∀ q' ∈ G.1, q' ≠ q → cel G h' q' = cel G h q') : (gw G h).set k (G.2.1 q, cel G h' q) = gw G h' := by
  apply List.ext_getElem?
  intro j
  rw [List.getElem?_set]
  have hkl : k < G.1.length := (List.getElem?_eq_some_iff.mp hk).1
  by_cases hj : k = j
  · subst hj
    have hk2 := (List.getElem?_eq_some_iff.mp hk).2
    simp [gw, hkl, hk2]
  · simp only [hj, if_false, gw, List.getElem?_map]
    cases hjj : G.1[j]? with
    | none => rfl
    | some q' =>
      have hne : q' ≠ q := by
        intro e
        subst e
        exact hj ((List.getElem?_inj hkl hn).mp (hk.trans hjj.symm))
      simp [ho q' (List.mem_of_getElem? hjj) hne]
theorem up3_ne {α : Type} {f : Nat → Nat → Nat → α} {g i s : Nat} {x : α} {q : Nat × Nat} (hq : q ≠ (g, i)) : up3 f g i s x q.1 q.2 = f q.1 q.2 := by
  obtain ⟨a, b⟩ := q
  unfold up3
  by_cases h1 : a = g
  · subst h1
    have h2 : b ≠ i := fun e => hq (by rw [e])
    simp [h2]
  · simp [h1]
theorem up3_at {α : Type} {f : Nat → Nat → Nat → α} {g i s : Nat} {x : α} : up3 f g i s x g i = fun s' => if s' = s then x else f g i s' := by simp [up3]
theorem cel_ne {G : Gh} {h h' : AH} {q : Nat × Nat} (h1 : h'.2.1 q.1 q.2 = h.2.1 q.1 q.2) (h2 : h'.2.2.1 q.1 q.2 = h.2.2.1 q.1 q.2) (h3 : h'.2.2.2 q.1 q.2 = h.2.2.2 q.1 q.2) : cel G h' q = cel G h q := by
  unfold cel fvl
  simp only [h1, h2, h3]
theorem cel_obj {G : Gh} {h : AH} {g i k n : Nat} (hk : kd g = (k, n)) (h13 : k < 13) : cel G h (g, i) = .inr (k, (List.range n).map (fun s => fvl G.2.1 h k g i s)) := by
  simp [cel, hk, h13]
theorem cel_int {G : Gh} {h : AH} {g i n : Nat} (hk : kd g = (13, n)) : cel G h (g, i) = .inl (G.2.2.1 (g, i), n, .inl (h.2.1 g i)) := by
  simp [cel, hk]
theorem cel_bool {G : Gh} {h : AH} {g i n : Nat} (hk : kd g = (15, n)) : cel G h (g, i) = .inl (G.2.2.1 (g, i), n, .inl (h.2.1 g i)) := by
  simp [cel, hk]
theorem cel_long {G : Gh} {h : AH} {g i n : Nat} (hk : kd g = (14, n)) : cel G h (g, i) = .inl (G.2.2.1 (g, i), n, .inr (.inl (h.2.2.1 g i))) := by
  simp [cel, hk]
theorem cel_ref {G : Gh} {h : AH} {g i k n : Nat} (hk : kd g = (k, n)) (h16 : 16 ≤ k) : cel G h (g, i) = .inl (G.2.2.1 (g, i), n, .inr (.inr (.inr (.inr (fun j => (h.2.2.2 g i j).map G.2.1))))) := by
  have a1 : ¬ k < 13 := by omega
  have a2 : ¬ k = 14 := by omega
  have a3 : ¬ k < 16 := by omega
  simp [cel, hk, a1, a2, a3]
/-- a field of the class k: by the entry idx of its pool its slot is s, its type's code tc -/
def FOK (k idx s tc : Nat) : Prop := ∃ (T : u_T) (N : Nat), cls[k]? = some (cnm k, T, N) ∧ s < N ∧ (∀ w ∈ u_ws (cnm k) T N, w ∈ TW) ∧ Cond.fieldLink (cnm k) idx (cnm k) (T s).2.1 (T s).2.2.1 ∈ TW ∧ (T s).1 = cnm k ∧ tcode (fty k s) = tc ∧ (∀ j, j < N → parseFieldDescriptor (T j).2.2.1 = some (fty k j)) ∧ (∀ a, a < N → ∀ b, b < N → a ≠ b → (T a).2.1 ≠ (T b).2.1) ∧ (tc ≤ 2 → (T s).2.2.2 = false) ∧ (tc = 3 → (T s).2.2.2 = true) ∧ (tc = 1 → fty k s = .boolean) ∧ (tc = 0 → fty k s = .int) ∧ (tc = 2 → fty k s = .long) ∧ (tc = 3 → (∃ n, fty k s = .object n) ∨ ∃ t, fty k s = .array t)
def fget (h : AH) (g i s tc : Nat) : AV := match tc with
  | 0 => .inl (h.2.1 g i s)
  | 1 => .inl (h.2.1 g i s)
  | 2 => .inr (.inl (h.2.2.1 g i s))
  | _ => .inr (.inr (h.2.2.2 g i s))
theorem fget_cv {ad : Nat × Nat → Nat} {h : AH} {k g i s tc : Nat} (ht : tcode (fty k s) = tc) : fvl ad h k g i s = cv ad (fget h g i s tc) := by
  subst ht
  unfold fvl fget
  generalize tcode (fty k s) = t
  match t with
  | 0 => rfl
  | 1 => rfl
  | 2 => rfl
  | n + 3 => rfl
theorem sub_map {G : Gh} {h : AH} {k n g i s : Nat} (hs : s < n) : ((List.range n).map (fun s => fvl G.2.1 h k g i s))[s]? = some (fvl G.2.1 h k g i s) := by
  simp [hs]
section RH
variable {d kc ks u v : Nat} {mt : MI} {pc nx tg : Nat} {k0 : Int32} {L : List (Option AV)} {S : List AV} {h : AH} {Q : Option AV → AH → Prop}
theorem s_getfield {idx g i s tc n : Nat} (hp : mt.2.2 pc = some (.getfield idx, 3, nx, tg, k0)) (hf : FOK mt.2.1 idx s tc) (hk : kd g = (mt.2.1, n)) (h13 : mt.2.1 < 13) (hs : s < n)
    (k : R d kc ks u v mt nx L (fget h g i s tc :: S) h Q) : R d kc ks u v mt pc L (.inr (.inr (some (g, i))) :: S) h Q := by
  intro l p e st m args below meth c A D G0 G H locs ls F I hS hL hl
  obtain ⟨hm, hx, hb, hr, hml, hown, hts, hlk, hnm⟩ := id F
  obtain ⟨hdg, hnx, htg, hck⟩ := hm.1 _ _ _ _ _ _ hp
  subst hnx
  obtain ⟨hKn, hA, hP, hD, hSS, hSh, hE⟩ := id I
  obtain ⟨T, N, hc, hsN, hin, hlink, hown2, htc, hty, hnms, -⟩ := hf
  have hq : (g, i) ∈ G.1 := ok_hd hS _ rfl
  obtain ⟨j, hj1, hj2⟩ := gw_at (h := h) hq
  rw [cel_obj hk h13] at hj2
  have hok : okv G (fget h g i s tc) := by
    intro q hq'
    have h3 : tc = 0 ∨ tc = 1 ∨ tc = 2 ∨ 3 ≤ tc := by omega
    rcases h3 with rfl | rfl | rfl | h3
    · cases hq'
    · cases hq'
    · cases hq'
    · have : fget h g i s tc = .inr (.inr (h.2.2.2 g i s)) := by
        match tc, h3 with
        | n + 3, _ => rfl
      rw [this] at hq'
      have h4 : h.2.2.2 g i s = some q := Sum.inr.inj (Sum.inr.inj hq')
      exact hSh.2.2.1 (g, i) hq s (by rw [hk]; exact hs) q h4
  have hk' := k l p e st m args below meth c A D G0 G H locs ls F I (ok_cs hok (ok_tl hS)) hL hl
  exact va_get (D := D) (cl := cls) (C := cnm mt.2.1) (ref := cnm mt.2.1) (own := cnm mt.2.1) (T := T) (N := N) (ci := mt.2.1) hx hb hts hin hown hKn.1 hP j hj2 hc s hsN (hts _ hlink) (fun x hx => by rw [← hown2]; exact hx) (by rw [sub_map hs, fget_cv htc]) hdg hk'
theorem fvl_up_ne {ad : Nat × Nat → Nat} {h h' : AH} {k g i s : Nat} (h1 : h'.2.1 g i s = h.2.1 g i s) (h2 : h'.2.2.1 g i s = h.2.2.1 g i s) (h3 : h'.2.2.2 g i s = h.2.2.2 g i s) : fvl ad h' k g i s = fvl ad h k g i s := by
  unfold fvl
  rw [h1, h2, h3]
theorem map_set {n s : Nat} {f f' : Nat → Value} (hs : s < n) (ho : ∀ j, j ≠ s → f' j = f j) : ((List.range n).map f).set s (f' s) = (List.range n).map f' := by
  apply List.ext_getElem?
  intro j
  rw [List.getElem?_set]
  by_cases hj : s = j
  · subst hj; simp [hs]
  · simp only [hj, if_false, List.getElem?_map]
    by_cases hjn : j < n
    · simp [hjn, ho j (fun e => hj e.symm)]
    · simp [hjn]
/-- what putfield does -/
def fput (h : AH) (g i s : Nat) (x : AV) : AH := match x with
  | .inl y => (h.1, up3 h.2.1 g i s y, h.2.2.1, h.2.2.2)
  | .inr (.inl y) => (h.1, h.2.1, up3 h.2.2.1 g i s y, h.2.2.2)
  | .inr (.inr y) => (h.1, h.2.1, h.2.2.1, up3 h.2.2.2 g i s y)
theorem fput_cel {G : Gh} {h : AH} {g i s : Nat} {x : AV} : ∀ q' ∈ G.1, q' ≠ (g, i) → cel G (fput h g i s x) q' = cel G h q' := by
  intro q' _ hne
  rcases x with y | y | y
  · exact cel_ne (up3_ne hne) rfl rfl
  · exact cel_ne rfl (up3_ne hne) rfl
  · exact cel_ne rfl rfl (up3_ne hne)
theorem fput_oth {ad : Nat × Nat → Nat} {h : AH} {k g i s j : Nat} {x : AV} (hj : j ≠ s) : fvl ad (fput h g i s x) k g i j = fvl ad h k g i j := by
  rcases x with y | y | y
  · exact fvl_up_ne (by simp [fput, up3, hj]) rfl rfl
  · exact fvl_up_ne rfl (by simp [fput, up3, hj]) rfl
  · exact fvl_up_ne rfl rfl (by simp [fput, up3, hj])
def tcv (tc : Nat) (x : AV) : Prop := match x with
  | .inl y => tc = 0 ∨ (tc = 1 ∧ (y = 0 ∨ y = 1))
  | .inr (.inl _) => tc = 2
  | .inr (.inr _) => tc = 3
theorem fput_self {ad : Nat × Nat → Nat} {h : AH} {k g i s tc : Nat} {x : AV} (ht : tcode (fty k s) = tc) (hx : tcv tc x) : fvl ad (fput h g i s x) k g i s = cv ad x := by
  rw [fget_cv ht]
  rcases x with y | y | y
  · rcases hx with rfl | ⟨rfl, -⟩ <;> simp [fput, fget, up3]
  · cases hx; simp [fput, fget, up3]
  · cases hx; simp [fput, fget, up3]
theorem fput_shp {G : Gh} {h : AH} {g i s : Nat} {x : AV} (hS : Shp G h) (hx : okv G x) : Shp G (fput h g i s x) := by
  rcases x with y | y | y
  · exact hS
  · exact hS
  · refine ⟨hS.1, hS.2.1, fun q hq j hj q' hq' => ?_, hS.2.2.2⟩
    by_cases hqe : q = (g, i)
    · subst hqe
      by_cases hjs : j = s
      · subst hjs
        have : y = some q' := by simpa [fput, up3] using hq'
        exact hx q' (by rw [this])
      · exact hS.2.2.1 (g, i) hq j hj q' (by simpa [fput, up3, hjs] using hq')
    · refine hS.2.2.1 q hq j hj q' ?_
      have := up3_ne (f := h.2.2.2) (s := s) (x := y) hqe
      rw [← this]
      exact hq'
theorem s_putfield {idx g i s tc n : Nat} {x : AV} (hp : mt.2.2 pc = some (.putfield idx, 3, nx, tg, k0)) (hf : FOK mt.2.1 idx s tc) (hk : kd g = (mt.2.1, n)) (h13 : mt.2.1 < 13) (hs : s < n) (ht : tcv tc x) (hi : tc = 3 → mt.1.1.name = "<init>")
    (k : R d kc ks u v mt nx L S (fput h g i s x) Q) : R d kc ks u v mt pc L (x :: .inr (.inr (some (g, i))) :: S) h Q := by
  intro l p e st m args below meth c A D G0 G H locs ls F I hS hL hl
  obtain ⟨hm, hx, hb, hr, hml, hown, hts, hlk, hnm⟩ := id F
  obtain ⟨hdg, hnx, htg, hck⟩ := hm.1 _ _ _ _ _ _ hp
  subst hnx
  obtain ⟨hKn, hA, hP, hD, hSS, hSh, hE⟩ := id I
  obtain ⟨T, N, hc, hsN, hin, hlink, hown2, htc, hty, hnms, hnf, hfin, hb1, hb0, hb2, hb3⟩ := hf
  have hq : (g, i) ∈ G.1 := ok_hd (ok_tl hS) _ rfl
  obtain ⟨j, hj1, hj2⟩ := gw_at (h := h) hq
  have hset := gw_set (h := h) (h' := fput h g i s x) hSh.1 hj1 fput_cel
  rw [cel_obj hk h13] at hj2 hset
  have hmap := map_set (n := n) (s := s) (f := fun z => fvl G.2.1 h mt.2.1 g i z) (f' := fun z => fvl G.2.1 (fput h g i s x) mt.2.1 g i z) hs (fun z hz => fput_oth hz)
  rw [← hmap] at hset
  simp only [fput_self htc ht] at hset
  have hlen : s < ((List.range n).map (fun z => fvl G.2.1 h mt.2.1 g i z)).length := by simp [hs]
  have kk : ∀ (H1 : Heap) (locs1 : List Loc), va_P D cls ((gw G h).set j (G.2.1 (g, i), .inr (mt.2.1, ((List.range n).map (fun z => fvl G.2.1 h mt.2.1 g i z)).set s (cv G.2.1 x)))) H1 → va_D A ((gw G h).set j (G.2.1 (g, i), .inr (mt.2.1, ((List.range n).map (fun z => fvl G.2.1 h mt.2.1 g i z)).set s (cv G.2.1 x)))) → va_S A st.heap H1 locs1 → W p l e (rmv d kc ks) st m args below meth c H1 locs1 u v (MQ below (Qp Q D G0 A) args st kc ks A) (F0 m (pc + 3) ls (S.map (cv G.2.1))) := by
    intro H1 locs1 hP1 hD1 hS1
    rw [hset] at hP1 hD1
    exact k l p e st m args below meth c A D G0 G H1 locs1 ls F ⟨hKn, hA, hP1, hD1, hS1, fput_shp hSh (ok_hd hS), hE⟩ (ok_tl (ok_tl hS)) hL hl
  have hn : narrow (fty mt.2.1 s) (cv G.2.1 x) = cv G.2.1 x ∧ fits (fty mt.2.1 s) (cv G.2.1 x) = true := by
    rcases x with y | y | y
    · rcases ht with rfl | ⟨rfl, hy⟩
      · rw [hb0 rfl]; exact ⟨rfl, rfl⟩
      · rw [hb1 rfl]; rcases hy with rfl | rfl; · exact ⟨(by decide : narrow .boolean (.int 0) = .int 0), (by decide : fits .boolean (.int 0) = true)⟩
        · exact ⟨(by decide : narrow .boolean (.int 1) = .int 1), (by decide : fits .boolean (.int 1) = true)⟩
    · cases ht; rw [hb2 rfl]; exact ⟨rfl, rfl⟩
    · cases ht
      rcases hb3 rfl with ⟨nn, e1⟩ | ⟨nn, e1⟩ <;> rw [e1] <;> cases y <;> exact ⟨rfl, rfl⟩
  by_cases h3 : tc = 3
  · exact va_putF (D := D) (cl := cls) (C := cnm mt.2.1) (ref := cnm mt.2.1) (own := cnm mt.2.1) (T := T) (N := N) (ci := mt.2.1) hx hb hts hin (fty mt.2.1) hty hnms hown hKn.1 hP hD hSS j hj2 hc s hsN (hts _ hlink) (fun x hx => by rw [← hown2]; exact hx) (hfin h3) (by rw [hnm]; exact hi h3) hown2 (hty s hsN) hn.1 hn.2 hlen hdg kk
  · have h2 : tc ≤ 2 := by
      rcases x with y | y | y
      · rcases ht with rfl | ⟨rfl, -⟩ <;> omega
      · cases ht; omega
      · exact absurd ht h3
    exact va_put (D := D) (cl := cls) (C := cnm mt.2.1) (ref := cnm mt.2.1) (own := cnm mt.2.1) (T := T) (N := N) (ci := mt.2.1) hx hb hts hin (fty mt.2.1) hty hnms hown hKn.1 hP hD hSS j hj2 hc s hsN (hts _ hlink) (fun x hx => by rw [← hown2]; exact hx) (hnf h2) (hty s hsN) hn.1 hn.2 hlen hdg kk
end RH
def isNest : Cond → Bool
  | .methodLinkNest _ _ _ _ => true
  | _ => false
theorem NW_nest : NW.all isNest = true := by decide +kernel
theorem NW_warm {s U : State} (hW : s.WarmedH U.vm) (w : Cond) (hw : w ∈ NW) (h : va_Nw w s) : va_Nw w U := by
  have h1 := List.all_eq_true.mp NW_nest w hw
  cases w <;> first | (cases h1; done) | exact va_Nw.warmM hW h
theorem NW_same {s U : State} (e : s.vm = U.vm) (w : Cond) (hw : w ∈ NW) (h : va_Nw w s) : va_Nw w U := by
  have h1 := List.all_eq_true.mp NW_nest w hw
  cases w <;> first | (cases h1; done) | exact va_Nw.same rfl e h
