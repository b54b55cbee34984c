def allW (dn : List (List Tk × Nat)) : Prop := ∀ l ∈ dn, l.1 ≠ [] ∧ wfs (0, []) l.1 = some (1, []) ∧ l.2 ≤ 1
def DV (k : Ct) (dn : List (List Tk × Nat)) : Prop := (k.1 ≠ 7 ∧ allW dn) ∨ (k.1 = 7 ∧ ∃ i d, dn = i ++ [([], d)] ∧ d ≤ 1 ∧ allW i)
def PVs (k : Ct) (cur : List Tk) (s : List Nat) (nt : Nat) (bs : List Nat) : Prop :=
  (k.1 = 0 ∧ bs = [] ∧ nt = nb s ∧ hi s ∧ (k.2.2.2.2.1 = false → s = [] ∧ cur = []) ∧ k.2.2.2.2.2 = false) ∨
  (k.1 = 1 ∧ (∃ x r, s = x ++ r ∧ hi r ∧ nt = nb r ∧ Ari k.2.2.1 k.2.2.2.1 (1000000 * cur.length) x bs) ∧ k.2.2.2.2 = (true, false)) ∨
  ((k.1 = 2 ∨ k.1 = 3) ∧ (∃ x r b', s = x ++ r ∧ hi r ∧ nt = nb r ∧ bs = 99 :: b' ∧ Ari k.2.2.1 k.2.2.2.1 (1000000 * cur.length) x b' ∧ (k.1 = 2 → ∃ cur' v, cur = cur' ++ [(8, v)] ∧ v ≤ 9 ∧ wfs (0, []) cur' = some (nt, b'))) ∧ k.2.2.2.2 = (true, false)) ∨
  (k.1 = 4 ∧ bs = [] ∧ nt = nb s + 1 ∧ hi s ∧ k.2.2.2.2 = (true, false)) ∨
  (k.1 = 5 ∧ s = [] ∧ ((k.2.2.2.2.2 = true ∧ cur = []) ∨ (k.2.2.2.2.2 = false ∧ nt = 1 ∧ bs = [] ∧ cur ≠ []))) ∨
  ((k.1 = 6 ∨ k.1 = 7) ∧ s = [] ∧ cur = [] ∧ (k.1 = 6 → k.2.2.2.2.2 = false))
def PV (k : Ct) (o : Os) : Prop := n18 o.2.2 = k.2.1 ∧ (∃ nt bs, wfs (0, []) o.2.1 = some (nt, bs) ∧ PVs k o.2.1 o.2.2 nt bs) ∧ DV k o.1
theorem n18_ne : ∀ (s : List Nat) (cur : List Tk), 0 < n18 s → (layD 17 s cur).2 ≠ [] := by
  intro s
  induction s with
  | nil => intro cur h; exact absurd h (Nat.lt_irrefl _)
  | cons w s ih =>
    intro cur h
    by_cases hw : w ≤ 17
    · rw [layD, if_pos hw]
      refine ih _ ?_
      rw [n18, if_neg (by omega)] at h
      omega
    · rw [layD, if_neg hw]; exact List.cons_ne_nil _ _
def ONs (cur : List Tk) (s : List Nat) : Prop := ∀ most, 15 ≤ most → most ≤ 17 → ∃ cur' r', layD most s cur = (cur', r') ∧ hi r' ∧ wfs (0, []) cur' = some (nb r' + 1, []) ∧ n18 r' = n18 s ∧ (r' = [] ∨ ∃ w r2, r' = w :: r2 ∧ most < w)
theorem PV_on {sort c dep un : Nat} {rt bg ls : Bool} {o : Os} {k' : Ct} (h : oC sort c dep un rt bg ls = some k') (hbg : bg = true) (hls : ls = false) (hn : n18 o.2.2 = dep) (hO : ONs o.2.1 o.2.2) (hd : allW o.1) : PV k' (eO c o) := by
  subst hls hbg
  unfold oC at h
  unfold eO
  by_cases h1 : c = 38
  · subst h1
    rw [if_pos (Or.inl rfl)] at h
    cases h
    rw [if_pos rfl]
    obtain ⟨cur', r', a, b, w, d, -⟩ := hO 16 (by decide) (by decide)
    refine ⟨?_, ⟨nb r' + 1, [], ?_, Or.inl ⟨rfl, rfl, ?_, ?_, (fun z => by cases z), rfl⟩⟩, Or.inl ⟨by simp, hd⟩⟩
    · show n18 (16 :: (layD 16 o.2.2 o.2.1).2) = dep
      rw [a, n18, if_neg (by decide)]; dsimp only; omega
    · show wfs (0, []) (layD 16 o.2.2 o.2.1).1 = _
      rw [a]; exact w
    · show _ = nb (16 :: (layD 16 o.2.2 o.2.1).2)
      rw [a, nb, if_pos (Or.inl rfl)]; dsimp only; omega
    · show hi (16 :: (layD 16 o.2.2 o.2.1).2)
      rw [a]; exact hi_cs b (by decide)
  · by_cases h2 : c = 124
    · subst h2
      rw [if_pos (Or.inr rfl)] at h
      cases h
      rw [if_neg (by decide), if_pos rfl]
      obtain ⟨cur', r', a, b, w, d, -⟩ := hO 17 (by decide) (by decide)
      refine ⟨?_, ⟨nb r' + 1, [], ?_, Or.inl ⟨rfl, rfl, ?_, ?_, (fun z => by cases z), rfl⟩⟩, Or.inl ⟨by simp, hd⟩⟩
      · show n18 (17 :: (layD 17 o.2.2 o.2.1).2) = dep
        rw [a, n18, if_neg (by decide)]; dsimp only; omega
      · show wfs (0, []) (layD 17 o.2.2 o.2.1).1 = _
        rw [a]; exact w
      · show _ = nb (17 :: (layD 17 o.2.2 o.2.1).2)
        rw [a, nb, if_pos (Or.inr rfl)]; dsimp only; omega
      · show hi (17 :: (layD 17 o.2.2 o.2.1).2)
        rw [a]; exact hi_cs b (by decide)
    · rw [if_neg (show ¬ (c = 38 ∨ c = 124) by omega)] at h
      rw [if_neg h1, if_neg h2]
      obtain ⟨cur', r', a, b, w, d, e⟩ := hO 17 (by decide) (by decide)
      by_cases h3 : c = 41
      · rw [if_pos h3] at h
        rw [if_pos h3]
        by_cases h4 : 0 < dep
        · rw [if_pos h4] at h
          cases h
          rcases e with e | ⟨v, r2, e, hv⟩
          · rw [e] at d; simp [n18] at d; omega
          · subst e
            have hv18 : v = 18 := by have := b v List.mem_cons_self; omega
            subst hv18
            refine ⟨?_, ⟨nb r2 + 1, [], ?_, Or.inr (Or.inr (Or.inr (Or.inl ⟨rfl, rfl, ?_, ?_, rfl⟩)))⟩, Or.inl ⟨by simp, hd⟩⟩
            · show n18 (layD 17 o.2.2 o.2.1).2.tail = dep - 1
              rw [a]; simp [n18] at d ⊢; omega
            · show wfs (0, []) (layD 17 o.2.2 o.2.1).1 = _
              rw [a, w]; simp [nb]
            · show _ = nb (layD 17 o.2.2 o.2.1).2.tail + 1
              rw [a]; rfl
            · show hi (layD 17 o.2.2 o.2.1).2.tail
              rw [a]; exact hi_tl b
        · rw [if_neg h4] at h; cases h
      · rw [if_neg h3] at h
        rw [if_neg h3]
        by_cases h4 : c = 58 ∧ sort = 0 ∧ dep = 0
        · rw [if_pos h4] at h
          cases h
          have hr : r' = [] := by
            rcases e with e | ⟨v, r2, e, hv⟩
            · exact e
            · subst e
              have hv18 : v = 18 := by have := b v List.mem_cons_self; omega
              subst hv18
              simp [n18] at d; omega
          subst hr
          refine ⟨?_, ⟨1, [], ?_, Or.inr (Or.inr (Or.inr (Or.inr (Or.inl ⟨rfl, ?_, Or.inr ⟨rfl, rfl, rfl, ?_⟩⟩))))⟩, Or.inl ⟨by simp, hd⟩⟩
          · show n18 (layD 17 o.2.2 o.2.1).2 = dep
            rw [a]; simp [n18]; omega
          · show wfs (0, []) (layD 17 o.2.2 o.2.1).1 = _
            rw [a]; exact w
          · show (layD 17 o.2.2 o.2.1).2 = []
            rw [a]
          · show (layD 17 o.2.2 o.2.1).1 ≠ []
            rw [a]; intro z; subst z; simp [wfs, nb] at w
        · rw [if_neg h4] at h; cases h
theorem ON_4 {cur : List Tk} {s : List Nat} (hr : hi s) (hw : wfs (0, []) cur = some (nb s + 1, [])) : ONs cur s := fun most h1 h2 => by
  obtain ⟨cur', r', a, b, c, d, e, f⟩ := popT h1 h2 s cur hr hw
  exact ⟨cur', r', a, b, c, e, f⟩
theorem ON_3 {un nt : Nat} {cur : List Tk} {x r b' : List Nat} (hl : cur.length ≤ 80) (hw : wfs (0, []) cur = some (nt, 99 :: b')) (hr : hi r) (hn : nt = nb r) (hA : Ari un true (1000000 * cur.length) x b') : ONs cur (x ++ r) := fun most h1 h2 => by
  obtain ⟨cur', r', a, b, c, d, e, f⟩ := popF h1 h2 hl hw hr hn hA
  exact ⟨cur', r', a, b, c, by rw [e, n18_app, Ari_18 hA, Nat.zero_add], f⟩
theorem PV_unit {c dep un nt : Nat} {rt bg ls : Bool} {o : Os} {k' : Ct} {x r bs : List Nat} (h : uC c dep un rt bg ls = some k') (hbg : bg = true) (hls : ls = false) (hn : n18 o.2.2 = dep) (hw : wfs (0, []) o.2.1 = some (nt, bs)) (hs : o.2.2 = x ++ r) (hr : hi r) (hnb : nt = nb r) (hA : Ari un rt (1000000 * o.2.1.length) x bs) (hd : allW o.1) : PV k' (eU c o) := by
  subst hls hbg
  have hm : 1000000 * o.2.1.length ≤ 1000000 * (o.2.1.length + 1) := by omega
  unfold uC at h
  unfold eU
  by_cases h1 : 48 ≤ c ∧ c ≤ 57
  · rw [if_pos h1] at h
    cases h
    rw [if_neg (show ¬ (97 ≤ c ∧ c ≤ 104) by omega)]
    refine ⟨hn, ⟨nt, 99 :: bs, ?_, Or.inr (Or.inr (Or.inl ⟨Or.inl rfl, ⟨x, r, bs, hs, hr, hnb, rfl, ?_, fun _ => ⟨o.2.1, c - 48, rfl, by omega, hw⟩⟩, rfl⟩))⟩, Or.inl ⟨by simp, hd⟩⟩
    · show wfs (0, []) (o.2.1 ++ [(8, c - 48)]) = _
      rw [wfs_app _ _ _ _ hw, wst, if_neg (show ¬ (8 < 8) by decide), if_pos rfl, if_pos (by show c - 48 ≤ 99; omega)]
    · show Ari un rt (1000000 * (o.2.1 ++ [(8, c - 48)]).length) x bs
      rw [List.length_append]; exact Ari_mono hA hm
  · rw [if_neg h1] at h
    by_cases h2 : 97 ≤ c ∧ c ≤ 104
    · rw [if_pos h2] at h
      cases h
      rw [if_pos h2]
      refine ⟨hn, ⟨nt, 99 :: bs, ?_, Or.inr (Or.inr (Or.inl ⟨Or.inr rfl, ⟨x, r, bs, hs, hr, hnb, rfl, ?_, fun z => by cases z⟩, rfl⟩))⟩, Or.inl ⟨by simp, hd⟩⟩
      · show wfs (0, []) (o.2.1 ++ [(c - 97, 0)]) = _
        rw [wfs_app _ _ _ _ hw, wst, if_pos (by show c - 97 < 8; omega)]
      · show Ari un rt (1000000 * (o.2.1 ++ [(c - 97, 0)]).length) x bs
        rw [List.length_append]; exact Ari_mono hA hm
    · rw [if_neg h2] at h; cases h
theorem PV_beh {sort c dep un nt : Nat} {rt bg ls : Bool} {o : Os} {k' : Ct} {x r b' : List Nat} (hl : o.2.1.length ≤ 80) (h : bM sort c dep un rt bg ls = some k') (hbg : bg = true) (hls : ls = false) (hn : n18 o.2.2 = dep) (hw : wfs (0, []) o.2.1 = some (nt, 99 :: b')) (hs : o.2.2 = x ++ r) (hr : hi r) (hnb : nt = nb r) (hA : Ari un rt (1000000 * o.2.1.length) x b') (hd : allW o.1) : PV k' (eB c rt o) := by
  have hn2 : n18 r = dep := by rw [← hn, hs, n18_app, Ari_18 hA, Nat.zero_add]
  unfold bM at h
  unfold eB
  by_cases h1 : c = 42 ∧ un < 3
  · obtain ⟨rfl, h2⟩ := h1
    rw [if_pos (Or.inl ⟨rfl, h2⟩), if_pos rfl] at h
    cases h
    subst hls hbg
    rw [if_pos rfl]
    obtain ⟨cur', y, U, b2, e1, w1, l1, hA2, u0, u1, u2⟩ := pop9 hw hr hA
    have hu : un = 1 ∨ un = 2 := by
      obtain ⟨m, a, c, t1, t2, -, h3, -⟩ := hA
      omega
    have h18 := Ari_18 hA2
    have hm : 1000000 * o.2.1.length ≤ 1000000 * cur'.length := Nat.mul_le_mul_left _ l1
    obtain ⟨m, a, c, t1, t2, rfl, h3, h4, h5⟩ := Ari_mono hA2 hm
    rcases h3 with ⟨rfl, -, rfl⟩ | ⟨-, P, -, h3⟩
    · refine ⟨?_, ⟨nt, U :: b2, ?_, Or.inr (Or.inl ⟨rfl, ⟨9 :: (a ++ c), r, ?_, hr, hnb, ⟨[9], a, c, b2, t2, rfl, Or.inr ⟨rfl, U, rfl, ?_⟩, ?_, ?_⟩⟩, rfl⟩)⟩, Or.inl ⟨by simp, hd⟩⟩
      · show n18 (9 :: (layD 9 o.2.2 o.2.1).2) = dep
        rw [hs, e1, n18, n18_app, h18]; simp [hn2]
      · show wfs (0, []) (layD 9 o.2.2 o.2.1).1 = _
        rw [hs, e1]; exact w1
      · show 9 :: (layD 9 o.2.2 o.2.1).2 = _
        rw [hs, e1]; rfl
      · rcases hu with rfl | rfl
        · exact Or.inl ⟨rfl, by rw [u1 rfl]; decide⟩
        · exact Or.inr ⟨rfl, u2 rfl⟩
      · rcases h4 with h4 | ⟨h4, S, h6, h7⟩
        · exact Or.inl h4
        · refine Or.inr ⟨h4, S, h6, ?_⟩
          show S ≤ 1000000 * (layD 9 o.2.2 o.2.1).1.length
          rw [hs, e1]; exact h7
      · rcases h5 with h5 | ⟨h5, h6, S, h8, h7⟩
        · exact Or.inl h5
        · refine Or.inr ⟨h5, h6, S, h8, ?_⟩
          show S ≤ 1000000 * (layD 9 o.2.2 o.2.1).1.length
          rw [hs, e1]; exact h7
    · omega
  · have hsum : ∀ w, (w = 10 ∨ w = 11) → PV (1, dep, 1, rt, bg, ls) (awt 11 w o) := by
      intro w hw2
      subst hls hbg
      obtain ⟨cur', c2, T, b2, e1, w1, l1, hT, h3⟩ := pop11 hl hw hr hA
      have hc18 : n18 c2 = 0 := by
        rcases h3 with ⟨rfl, -⟩ | ⟨rfl | rfl | rfl, -⟩ <;> rfl
      refine ⟨?_, ⟨nt, T :: b2, ?_, Or.inr (Or.inl ⟨rfl, ⟨w :: c2, r, ?_, hr, hnb, ⟨[], [w], c2, T :: b2, b2, rfl, Or.inl ⟨rfl, rfl, rfl⟩, Or.inr ⟨?_, T, rfl, ?_⟩, ?_⟩⟩, rfl⟩)⟩, Or.inl ⟨by simp, hd⟩⟩
      · show n18 (w :: (layD 11 o.2.2 o.2.1).2) = dep
        rw [hs, e1, n18, n18_app, hc18, if_neg (by omega)]; omega
      · show wfs (0, []) (layD 11 o.2.2 o.2.1).1 = _
        rw [hs, e1]; exact w1
      · show w :: (layD 11 o.2.2 o.2.1).2 = _
        rw [hs, e1]; rfl
      · rcases hw2 with rfl | rfl
        · exact Or.inl rfl
        · exact Or.inr rfl
      · show T ≤ 1000000 * (layD 11 o.2.2 o.2.1).1.length
        rw [hs, e1]; exact hT
      · rcases h3 with h3 | ⟨h3, h6, S, h8, h7⟩
        · exact Or.inl h3
        · refine Or.inr ⟨h3, h6, S, h8, ?_⟩
          show S ≤ 1000000 * (layD 11 o.2.2 o.2.1).1.length
          rw [hs, e1]; exact h7
    by_cases h2 : c = 43
    · subst h2
      rw [if_pos (Or.inr (Or.inl rfl)), if_neg (show ¬ 43 = 42 by decide)] at h
      cases h
      rw [if_neg (show ¬ 43 = 42 by decide), if_pos rfl]
      exact hsum 10 (Or.inl rfl)
    · by_cases h3 : c = 45
      · subst h3
        rw [if_pos (Or.inr (Or.inr rfl)), if_neg (show ¬ 45 = 42 by decide)] at h
        cases h
        rw [if_neg (show ¬ 45 = 42 by decide), if_neg h2, if_pos rfl]
        exact hsum 11 (Or.inr rfl)
      · rw [if_neg (show ¬ ((c = 42 ∧ un < 3) ∨ c = 43 ∨ c = 45) by omega)] at h
        cases rt with
        | true =>
          rw [if_pos rfl] at h
          have hc42 : ¬ c = 42 := fun z => by subst z; simp [oC] at h
          rw [if_neg hc42, if_neg h2, if_neg h3, if_pos rfl]
          exact PV_on h hbg hls hn (by rw [hs]; exact ON_3 hl hw hr hnb hA) hd
        | false =>
          rw [if_neg (by decide)] at h
          by_cases h4 : 60 ≤ c ∧ c ≤ 62
          · rw [if_pos h4] at h
            cases h
            rw [if_neg (show ¬ c = 42 by omega), if_neg h2, if_neg h3, if_neg (by decide)]
            subst hls hbg
            obtain ⟨cur', c2, T, b2, e1, w1, l1, hT, h5⟩ := pop11 hl hw hr hA
            rcases h5 with ⟨rfl, rfl, -⟩ | ⟨-, h5, -⟩
            · refine ⟨?_, ⟨nt, [T], ?_, Or.inr (Or.inl ⟨rfl, ⟨[c - 48], r, ?_, hr, hnb, ⟨[], [], [c - 48], [T], [T], rfl, Or.inl ⟨rfl, rfl, rfl⟩, Or.inl ⟨rfl, rfl⟩, Or.inr ⟨?_, rfl, T, rfl, ?_⟩⟩⟩, rfl⟩)⟩, Or.inl ⟨by simp, hd⟩⟩
              · show n18 ((c - 48) :: (layD 11 o.2.2 o.2.1).2) = dep
                rw [hs, e1, n18, if_neg (by omega)]; simpa using hn2
              · show wfs (0, []) (layD 11 o.2.2 o.2.1).1 = _
                rw [hs, e1]; exact w1
              · show (c - 48) :: (layD 11 o.2.2 o.2.1).2 = _
                rw [hs, e1]; rfl
              · rcases (show c = 60 ∨ c = 61 ∨ c = 62 by omega) with rfl | rfl | rfl
                · exact Or.inl rfl
                · exact Or.inr (Or.inl rfl)
                · exact Or.inr (Or.inr rfl)
              · show T ≤ 1000000 * (layD 11 o.2.2 o.2.1).1.length
                rw [hs, e1]; exact hT
            · cases h5
          · rw [if_neg h4] at h; cases h
theorem Ari_0 {L : Nat} : Ari 1 false L [] [] := ⟨[], [], [], [], [], rfl, Or.inl ⟨rfl, rfl, rfl⟩, Or.inl ⟨rfl, rfl⟩, Or.inl ⟨rfl, rfl, rfl⟩⟩
theorem PV_step {sort c : Nat} {k k' : Ct} {o : Os} (hl : o.2.1.length ≤ 79) (h : cM sort c k = some k') (hP : PV k o) : PV k' (eM c k o) := by
  obtain ⟨st, dep, un, rt, bg, ls⟩ := k
  obtain ⟨hn, ⟨nt, bs, hw, hs⟩, hd⟩ := hP
  unfold cM at h
  unfold eM
  dsimp only at h hn hs hd ⊢
  have hd7 : st ≠ 7 → allW o.1 := fun z => by
    rcases hd with ⟨-, hd⟩ | ⟨hd, -⟩
    · exact hd
    · exact absurd hd z
  rcases hs with ⟨rfl, rfl, hnt, hh, h0, rfl⟩ | ⟨rfl, ⟨x, r, h1, h2, h3, h4⟩, h5⟩ | ⟨hst, ⟨x, r, b', h1, h2, h3, rfl, h4, h6⟩, h5⟩ | ⟨rfl, rfl, hnt, hh, h5⟩ | ⟨rfl, h1, h2⟩ | ⟨hst, h1, h2, h3⟩
  · rw [if_pos rfl] at h ⊢
    unfold fM at h
    have hd := hd7 (by decide)
    by_cases c1 : c = 33
    · subst c1
      rw [if_pos (Or.inl rfl), if_neg (by decide)] at h
      cases h
      rw [if_pos rfl]
      exact ⟨by show n18 (15 :: o.2.2) = dep; rw [n18, if_neg (by decide)]; omega, ⟨nt, [], hw, Or.inl ⟨rfl, rfl, by rw [nb, if_neg (by decide)]; omega, hi_cs hh (by decide), (fun z => by cases z), rfl⟩⟩, Or.inl ⟨by simp, hd⟩⟩
    · by_cases c2 : c = 40
      · subst c2
        rw [if_pos (Or.inr rfl), if_pos rfl] at h
        cases h
        rw [if_neg (by decide), if_pos rfl]
        exact ⟨by show n18 (18 :: o.2.2) = dep + 1; rw [n18, if_pos rfl]; omega, ⟨nt, [], hw, Or.inl ⟨rfl, rfl, by rw [nb, if_neg (by decide)]; omega, hi_cs hh (by decide), (fun z => by cases z), rfl⟩⟩, Or.inl ⟨by simp, hd⟩⟩
      · rw [if_neg (show ¬ (c = 33 ∨ c = 40) by omega)] at h
        rw [if_neg c1, if_neg c2]
        by_cases c3 : c = 58 ∧ sort = 0 ∧ bg = false
        · rw [if_pos c3] at h
          cases h
          rw [if_pos c3.1]
          obtain ⟨z1, z2⟩ := h0 c3.2.2
          exact ⟨hn, ⟨nt, [], hw, Or.inr (Or.inr (Or.inr (Or.inr (Or.inl ⟨rfl, z1, Or.inl ⟨rfl, z2⟩⟩))))⟩, Or.inl ⟨by simp, hd⟩⟩
        · rw [if_neg c3] at h
          have c4 : ¬ c = 58 := fun z => by subst z; simp [uC] at h
          rw [if_neg c4]
          exact PV_unit (x := []) h rfl rfl hn hw rfl hh hnt Ari_0 hd
  · cases h5
    rw [if_neg (show ¬ 1 = 0 by decide), if_pos rfl] at h ⊢
    exact PV_unit h rfl rfl hn hw h1 h2 h3 h4 (hd7 (by decide))
  · cases h5
    have hdd := hd7 (by omega)
    clear hd
    have hd := hdd
    clear hdd
    rcases hst with rfl | rfl
    · rw [if_neg (show ¬ 2 = 0 by decide), if_neg (show ¬ 2 = 1 by decide), if_pos rfl] at h ⊢
      by_cases c1 : 48 ≤ c ∧ c ≤ 57
      · rw [if_pos c1] at h ⊢
        cases h
        obtain ⟨cur', v, e1, hv, w2⟩ := h6 rfl
        refine ⟨hn, ⟨nt, 99 :: b', ?_, Or.inr (Or.inr (Or.inl ⟨Or.inr rfl, ⟨x, r, b', h1, h2, h3, rfl, ?_, fun z => by cases z⟩, rfl⟩))⟩, Or.inl ⟨by simp, hd⟩⟩
        · show wfs (0, []) (setL c o.2.1) = _
          rw [e1, setL_e, wfs_app _ _ _ _ w2, wst, if_neg (show ¬ (8 < 8) by decide), if_pos rfl, if_pos (by show 10 * v + c - 48 ≤ 99; omega)]
        · show Ari un rt (1000000 * (setL c o.2.1).length) x b'
          have : (setL c o.2.1).length = o.2.1.length := by rw [e1, setL_e]; simp
          rw [this]; exact h4
      · rw [if_neg c1] at h ⊢
        exact PV_beh (by omega) h rfl rfl hn hw h1 h2 h3 h4 hd
    · rw [if_neg (show ¬ 3 = 0 by decide), if_neg (show ¬ 3 = 1 by decide), if_neg (show ¬ 3 = 2 by decide), if_pos rfl] at h ⊢
      exact PV_beh (by omega) h rfl rfl hn hw h1 h2 h3 h4 hd
  · cases h5
    subst hnt
    rw [if_neg (show ¬ 4 = 0 by decide), if_neg (show ¬ 4 = 1 by decide), if_neg (show ¬ 4 = 2 by decide), if_neg (show ¬ 4 = 3 by decide), if_pos rfl] at h ⊢
    exact PV_on h rfl rfl hn (ON_4 hh hw) (hd7 (by decide))
  · rw [if_neg (show ¬ 5 = 0 by decide), if_neg (show ¬ 5 = 1 by decide), if_neg (show ¬ 5 = 2 by decide), if_neg (show ¬ 5 = 3 by decide), if_neg (show ¬ 5 = 4 by decide), if_pos rfl] at h ⊢
    have hdd := hd7 (by decide)
    clear hd
    have hd := hdd
    clear hdd
    by_cases c1 : c = 48 ∨ c = 49
    · rw [if_pos c1] at h
      cases h
      rcases h2 with ⟨rfl, h2⟩ | ⟨rfl, rfl, rfl, h2⟩
      · refine ⟨hn, ⟨0, [], rfl, Or.inr (Or.inr (Or.inr (Or.inr (Or.inr ⟨Or.inr rfl, h1, rfl, fun z => by cases z⟩))))⟩, Or.inr ⟨rfl, o.1, c - 48, by rw [h2], by omega, hd⟩⟩
      · refine ⟨hn, ⟨0, [], rfl, Or.inr (Or.inr (Or.inr (Or.inr (Or.inr ⟨Or.inl rfl, h1, rfl, fun z => rfl⟩))))⟩, Or.inl ⟨by simp, fun l hl2 => ?_⟩⟩
        rcases List.mem_append.mp hl2 with hl2 | hl2
        · exact hd l hl2
        · simp at hl2; subst hl2; exact ⟨h2, hw, by dsimp only; omega⟩
    · rw [if_neg c1] at h; cases h
  · rcases hst with rfl | rfl
    · rw [if_neg (show ¬ 6 = 0 by decide), if_neg (show ¬ 6 = 1 by decide), if_neg (show ¬ 6 = 2 by decide), if_neg (show ¬ 6 = 3 by decide), if_neg (show ¬ 6 = 4 by decide), if_neg (show ¬ 6 = 5 by decide), if_pos rfl] at h
      rw [if_neg (show ¬ 6 = 0 by decide), if_neg (show ¬ 6 = 1 by decide), if_neg (show ¬ 6 = 2 by decide), if_neg (show ¬ 6 = 3 by decide), if_neg (show ¬ 6 = 4 by decide), if_neg (show ¬ 6 = 5 by decide)]
      by_cases c1 : c = 59
      · rw [if_pos c1] at h
        cases h
        have := h3 rfl
        subst this
        rw [h2] at hw
        cases hw
        exact ⟨hn, ⟨0, [], by rw [h2]; rfl, Or.inl ⟨rfl, rfl, by rw [h1]; rfl, by rw [h1]; exact fun w hw => by simp at hw, fun _ => ⟨h1, h2⟩, rfl⟩⟩, Or.inl ⟨by simp, hd7 (by decide)⟩⟩
      · rw [if_neg c1] at h; cases h
    · exfalso
      simp at h
