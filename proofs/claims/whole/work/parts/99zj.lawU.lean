theorem cel_sw {D : va_G} {G : Gh} {c : Nat → Nat} {A : FI} {B : FJ} {C C' : FR} {z : Nat × Nat} {b : Nat} {H : Heap} (he : ∀ s, s < (kd z.1).2 → C z.1 z.2 s = C' z.1 z.2 s) (hat : va_at D cls (b, cel G (c, A, B, C) z) H) : va_at D cls (b, cel G (c, A, B, C') z) H := by
  unfold cel at hat ⊢
  split
  · rename_i h13
    rw [if_pos h13] at hat
    have : (List.range (kd z.1).2).map (fun s => fvl G.2.1 (c, A, B, C') (kd z.1).1 z.1 z.2 s) = (List.range (kd z.1).2).map (fun s => fvl G.2.1 (c, A, B, C) (kd z.1).1 z.1 z.2 s) := by
      refine List.map_congr_left (fun s hs => ?_)
      unfold fvl
      dsimp only
      rw [he s (List.mem_range.mp hs)]
    rw [this]
    exact hat
  · rename_i h13
    rw [if_neg h13] at hat
    split
    · rename_i h14
      rw [if_pos h14] at hat
      exact hat
    · rename_i h14
      rw [if_neg h14] at hat
      split
      · rename_i h16
        rw [if_pos h16] at hat
        exact hat
      · rename_i h16
        rw [if_neg h16] at hat
        have hh : H[b]? = some (arrV (G.2.2.1 z) (kd z.1).2 (fun j => va_rf ((C z.1 z.2 j).map G.2.1))) := hat
        show H[b]? = some (arrV (G.2.2.1 z) (kd z.1).2 (fun j => va_rf ((C' z.1 z.2 j).map G.2.1)))
        rw [hh]
        congr 1
        exact arrV_congr (fun j hj => by rw [he j hj])
theorem iv_sw {X : Nat → Prop} {D : va_G} {G : Gh} {c : Nat → Nat} {A : FI} {B : FJ} {C C' : FR} {s : State} {H : Heap} {lo : List Loc} (he : ∀ g i s, i < c g → s < (kd g).2 → C g i s = C' g i s) (I : Iv X D G G (c, A, B, C) s H lo) : Iv X D G G (c, A, B, C') s H lo := by
  obtain ⟨hKn, hA, hP, hD, hSS, hSh, hE⟩ := I
  have key : ∀ (k : Nat) (x : Nat × va_E), (gw G (c, A, B, C'))[k]? = some x → ∃ y, (gw G (c, A, B, C))[k]? = some y ∧ y.1 = x.1 ∧ (va_at D cls y H → va_at D cls x H) := by
    intro k x hx
    simp only [gw, List.getElem?_map] at hx
    cases hz : G.1[k]? with
    | none => rw [hz] at hx; cases hx
    | some z =>
      rw [hz] at hx
      simp only [Option.map_some, Option.some.injEq] at hx
      subst hx
      have hzm := List.mem_of_getElem? hz
      exact ⟨(G.2.1 z, cel G (c, A, B, C) z), by simp [gw, hz], rfl, cel_sw (fun s hs => he _ _ s ((hSh.2.1 z).mp hzm) hs)⟩
  refine ⟨hKn, hA, ?_, ⟨?_, ?_⟩, hSS, ⟨hSh.1, hSh.2.1, fun q hq t ht q' hq' => ?_, hSh.2.2.2⟩, hE⟩
  · intro k x hx
    obtain ⟨y, h1, h2, h3⟩ := key k x hx
    exact h3 (hP k y h1)
  · intro i j x y hx hy hxy
    obtain ⟨x', a1, a2, -⟩ := key i x hx
    obtain ⟨y', b1, b2, -⟩ := key j y hy
    exact hD.1 i j x' y' a1 b1 (by rw [a2, b2, hxy])
  · intro k x hx
    obtain ⟨y, h1, h2, h3⟩ := key k x hx
    rw [← h2]
    exact hD.2 k y h1
  · refine hSh.2.2.1 q hq t ht q' ?_
    show C q.1 q.2 t = some q'
    rw [he _ _ t ((hSh.2.1 q).mp hq) ht]
    exact hq'
section LT
variable {p : Program} {l : Launch} {e : Env} {s : State} {m : MethodId} {below : List Frame} {meth : Method} {c : Code} {b N : Nat} {xs : Nat → Int32} {Z : State → Prop} {pc u v : Nat} {L : List (Option AV)} {S : List AV} {h : AH}
def U (p : Program) (l : Launch) (e : Env) (s : State) (m : MethodId) (below : List Frame) (meth : Method) (c : Code) (b : Nat) (Z : State → Prop) (u v pc : Nat) (L : List (Option AV)) (S : List AV) (h : AH) : Prop :=
  ∀ (D : va_G) (G : Gh) (H : Heap) (ls : Array Slot) (lo : List Loc), Iv (fre s) D G G h s H lo → (∀ x ∈ S, okv G x) → (∀ x, some x ∈ L → okv G x) → lv_has ls 4 ((0, .ref b) :: lpos G.2.1 1 L) → W p l e room_1 s m #[Value.ref b] below meth c H lo u v Z (F0 m pc ls (S.map (cv G.2.1)))
theorem u_dup {g i : Nat} (F : LwA p s m c b N xs) (hd : decode code pc = .ok (.dup, 1)) (k : U p l e s m below meth c b Z u v (pc + 1) L (.inr (.inr (some (g, i))) :: .inr (.inr (some (g, i))) :: S) h) : U p l e s m below meth c b Z u v pc L (.inr (.inr (some (g, i))) :: S) h := by
  intro D G H ls lo I hS hL hl
  exact lv_dup F.1 F.2.1 hd rfl (k D G H ls lo I (ok_cs (ok_hd hS) hS) hL hl)
theorem u_new {idx g ci n : Nat} (F : LwA p s m c b N xs) (hd : decode code pc = .ok (.new idx, 3)) (hk : kd g = (ci, n)) (h13 : ci < 13) (hN : NOK 15 idx ci n) (hu : u + 1 ≤ 600000) (hv : v + n ≤ 7302250)
    (k : U p l e s m below meth c b Z (u + 1) (v + n) (pc + 3) L (.inr (.inr (some (g, h.1 g))) :: S) (hnew h g)) : U p l e s m below meth c b Z u v pc L S h := by
  intro D G H ls lo I hS hL hl
  obtain ⟨hKn, hA, hP, hD, hSS, hSh, hE⟩ := id I
  obtain ⟨T, hc, hin, hty, hcl, hinst, hini, hdf⟩ := hN
  have hts := F.2.2.2.2.1
  refine va_new (ci := ci) (fs := (List.range n).map (fun j => dfl (tcode (fty ci j)))) (C := cnm ci) (T := T) (N := n) F.1 F.2.1 hts hin (fty ci) hty F.2.2.2.1 (hts _ hcl) (hts _ hinst) (hts _ hini) hKn.1 hP hD hSS hA hc (fun j hj => by rw [hdf j hj]; simp [vp_V, hj]) hu hv hd (fun q H1 hP1 hD1 hS1 => ?_)
  have hce : cel (gnew G (g, h.1 g) q 0 G.2.2.2) (hnew h g) (g, h.1 g) = .inr (ci, (List.range n).map (fun j => dfl (tcode (fty ci j)))) := by
    rw [cel_obj hk h13]
    refine congrArg (fun z => (Sum.inr (ci, z) : va_E)) (List.map_congr_left (fun j _ => ?_))
    unfold fvl dfl
    simp only [hnew, clr_at]
    rfl
  rw [← hce] at hP1 hD1
  have I1 := alloc_iv I hKn.1 (fun _ _ h => h) (fun h => by rw [hk] at h; exact absurd h (by show ¬ 13 ≤ ci; omega)) hP1 hD1 hS1
  have hE1 := gnew_ext (a := q) (cA := 0) (tys := G.2.2.2) (q_new (g := g) hSh)
  have I2 : Iv (fre s) D (gnew G (g, h.1 g) q 0 G.2.2.2) (gnew G (g, h.1 g) q 0 G.2.2.2) (hnew h g) s H1 lo := ⟨I1.1, I1.2.1, I1.2.2.1, I1.2.2.2.1, I1.2.2.2.2.1, I1.2.2.2.2.2.1, ext_rf⟩
  have h1 := k D _ H1 ls lo I2 (ok_cs (fun q e => by cases e; exact List.mem_append_right _ (List.mem_singleton.mpr rfl)) (fun x hx => okv_ext hE1 (hS x hx))) (fun x hx => okv_ext hE1 (hL x hx)) (by rw [lpos_ext hE1 hL]; exact hl)
  have h2 : (.inr (.inr (some (g, h.1 g))) :: S : List AV).map (cv (gnew G (g, h.1 g) q 0 G.2.2.2).2.1) = .ref q :: S.map (cv G.2.1) := by
    rw [List.map_cons, map_ext hE1 hS]
    simp [cv, gnew, va_rf]
  rw [h2] at h1
  exact h1
theorem u_back {Q1 : Option AV → AH → Prop} {kc2 ks2 : Nat} {D : va_G} {G : Gh} {H : Heap} {ls : Array Slot} {lo : List Loc} {st0 : List Value} {a : Array Value} (I : Iv (fre s) D G G h s H lo) (hS : ∀ x ∈ S, okv G x) (hL : ∀ x, some x ∈ L → okv G x) (hl : lv_has ls 4 ((0, .ref b) :: lpos G.2.1 1 L))
    (hr : va_Run p l e room_1 s m #[Value.ref b] below meth c H lo u v kc2 ks2 (F0 m pc ls st0) (S.map (cv G.2.1)) (Qp Q1 D G (va_A (gw G h) H.size) a) (va_A (gw G h) H.size))
    (k : ∀ r h', Q1 r h' → U p l e s m below meth c b Z (u + kc2) (v + ks2) (pc + 3) L (r.toList ++ S) h') : W p l e room_1 s m #[Value.ref b] below meth c H lo u v Z (F0 m pc ls st0) := by
  intro T1 hT X
  obtain ⟨w, st₀, t, T', L', hh0, X', hL', e1, e2, ⟨⟨r, h', G', hv, hq, hok, hK', hP', hD', hSh', hE'⟩, hz, hk⟩, st⟩ := hr T1 hT X
  cases hv
  rw [hh0] at hz hk
  obtain ⟨hKn, hA, hP, hD, hSS, hSh, hE⟩ := id I
  have hF : ∀ q, va_A (gw G h) H.size q → fre s q := by
    intro q hq
    rcases hq with ⟨j, e0, hj⟩ | hq
    · exact hD.2 j _ hj
    · exact hA q (Nat.le_trans hSS.1 hq)
  have hvm : s.vm.Alike t.vm := by rw [← e2]; exact X'.warmed.alike
  have hSS' : va_S (fre s) s.heap T'.heap (lo ++ L') := by
    refine ⟨Nat.le_trans hSS.1 (by rw [e1]; exact hz), fun q h1 h2 => ?_, fun q hq => ?_⟩
    · rw [e1, hk q (Nat.lt_of_lt_of_le h1 hSS.1) (fun z => h2 (hF q z))]
      exact hSS.2.1 q h1 h2
    · rcases List.mem_append.mp hq with h | h
      · exact hSS.2.2 q h
      · exact hF _ (hL' q h)
  have hR := k r h' hq D G' T'.heap ls (lo ++ L')
    ⟨⟨va_K.moved hvm.symm hK'.1, hKn.2.1, hKn.2.2.1, hKn.2.2.2⟩, hA, by rw [e1]; exact hP', hD'.weaken (fun j q hj => hF _), hSS', hSh', ext_rf⟩
    (fun x hx => by
      rcases List.mem_append.mp hx with h | h
      · exact hok x (by cases r with
          | none => cases h
          | some y => simp at h; rw [h])
      · exact okv_ext hE' (hS x h))
    (fun x hx => okv_ext hE' (hL x hx)) (by rw [lpos_ext hE' hL]; exact hl)
  obtain ⟨t2, a1, b1⟩ := hR T' rfl X'
  refine ⟨t2, st t2 ?_, b1⟩
  have hst : (r.toList ++ S).map (cv G'.2.1) = (r.map (cv G'.2.1)).toList ++ S.map (cv G.2.1) := by
    rw [List.map_append, map_ext hE' hS]
    cases r <;> rfl
  rw [hst] at a1
  exact a1
end LT
