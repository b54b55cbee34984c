def mst (w : Nat) : Nat := if w = 9 then 9 else if w ≤ 11 then 11 else if w ≤ 14 then 14 else w
/-- as the class compiles -/
def eK (c b : Nat) (o : Os) : Os := if 48 ≤ c ∧ c ≤ 57 then (if b = 58 then (o.1 ++ [(o.2.1, c - 48)], [], o.2.2) else if 48 ≤ b ∧ b ≤ 57 then (o.1, setL c o.2.1, o.2.2) else lyt o (8, c - 48)) else if 97 ≤ c ∧ c ≤ 104 then lyt o (c - 97, 0) else if c = 40 then (o.1, o.2.1, 18 :: o.2.2) else if c = 33 then (o.1, o.2.1, 15 :: o.2.2) else if c = 41 then ((ldn 17 o).1, (ldn 17 o).2.1, (ldn 17 o).2.2.tail) else if c = 58 then ldn 17 o else if c = 59 then o else if c = 42 then awt 9 9 o else if c = 43 then awt 11 10 o else if c = 45 then awt 11 11 o else if c = 38 then awt 16 16 o else if c = 124 then awt 17 17 o else awt 14 (c - 48) o
def oky (c : Nat) : Prop := (48 ≤ c ∧ c ≤ 57) ∨ (97 ≤ c ∧ c ≤ 104) ∨ c = 40 ∨ c = 33 ∨ c = 41 ∨ c = 58 ∨ c = 59 ∨ c = 42 ∨ c = 43 ∨ c = 45 ∨ c = 38 ∨ c = 124 ∨ (60 ≤ c ∧ c ≤ 62)
def bef (k : Ct) (b : Nat) : Prop := (k.1 = 5 ↔ b = 58) ∧ (k.1 = 2 → 48 ≤ b ∧ b ≤ 57) ∧ (k.1 = 0 ∨ k.1 = 1 → ¬ (48 ≤ b ∧ b ≤ 57))
theorem uC_in {c dep un : Nat} {rt bg ls : Bool} {k' : Ct} (h : uC c dep un rt bg ls = some k') : (48 ≤ c ∧ c ≤ 57 ∧ k'.1 = 2) ∨ (97 ≤ c ∧ c ≤ 104 ∧ k'.1 = 3) := by
  unfold uC at h
  repeat' split at h
  all_goals first | (cases h; done) | (cases h; dsimp only; omega)
theorem oC_in {sort c dep un : Nat} {rt bg ls : Bool} {k' : Ct} (h : oC sort c dep un rt bg ls = some k') : (c = 38 ∧ k'.1 = 0) ∨ (c = 124 ∧ k'.1 = 0) ∨ (c = 41 ∧ k'.1 = 4) ∨ (c = 58 ∧ k'.1 = 5) := by
  unfold oC at h
  repeat' split at h
  all_goals first | (cases h; done) | (cases h; dsimp only; omega)
theorem bM_in {sort c dep un : Nat} {rt bg ls : Bool} {k' : Ct} (h : bM sort c dep un rt bg ls = some k') : ((c = 42 ∨ c = 43 ∨ c = 45) ∧ k'.1 = 1) ∨ (rt = false ∧ 60 ≤ c ∧ c ≤ 62 ∧ k'.1 = 1) ∨ (rt = true ∧ ((c = 38 ∧ k'.1 = 0) ∨ (c = 124 ∧ k'.1 = 0) ∨ (c = 41 ∧ k'.1 = 4) ∨ (c = 58 ∧ k'.1 = 5))) := by
  unfold bM at h
  split at h
  · cases h; dsimp only; omega
  · split at h
    · rename_i hr
      exact Or.inr (Or.inr ⟨hr, oC_in h⟩)
    · rename_i hr
      split at h
      · cases h; right; left; exact ⟨by cases rt <;> simp at hr ⊢, by omega, by omega, rfl⟩
      · cases h
theorem fM_in {sort c dep un : Nat} {rt bg ls : Bool} {k' : Ct} (h : fM sort c dep un rt bg ls = some k') : ((c = 33 ∨ c = 40) ∧ k'.1 = 0) ∨ (c = 58 ∧ k'.1 = 5 ∧ bg = false) ∨ (48 ≤ c ∧ c ≤ 57 ∧ k'.1 = 2) ∨ (97 ≤ c ∧ c ≤ 104 ∧ k'.1 = 3) := by
  unfold fM at h
  split at h
  · cases h; dsimp only; omega
  · split at h
    · rename_i hr
      cases h; exact Or.inr (Or.inl ⟨hr.1, rfl, hr.2.2⟩)
    · exact Or.inr (Or.inr (uC_in h))
theorem layD14 {un : Nat} {L : Nat} {x r bs : List Nat} {cur : List Tk} (hr : hi r) (hA : Ari un false L x bs) : layD 14 (x ++ r) cur = layD 11 (x ++ r) cur := by
  have h0 : ∀ cur : List Tk, layD 14 r cur = layD 11 r cur := fun cur => by rw [layD_hi hr (by decide), layD_hi hr (by decide)]
  obtain ⟨m, a, c, t1, t2, rfl, h1, h2, h3⟩ := hA
  rcases h3 with ⟨rfl, -⟩ | ⟨-, h3, -⟩
  · rcases h1 with ⟨rfl, -⟩ | ⟨rfl, -⟩ <;> rcases h2 with ⟨rfl, -⟩ | ⟨rfl | rfl, -⟩ <;> simp [layD, h0]
  · cases h3
theorem eK_eM {sort c b : Nat} {k k' : Ct} {o : Os} (h : cM sort c k = some k') (hP : PV k o) (hb : bef k b) : eK c b o = eM c k o ∧ oky c ∧ bef k' c ∧ (48 ≤ c ∧ c ≤ 57 → 48 ≤ b ∧ b ≤ 57 → b ≠ 58 → ∃ cur' v, o.2.1 = cur' ++ [(8, v)]) := by
  obtain ⟨st, dep, un, rt, bg, ls⟩ := k
  obtain ⟨hn, ⟨nt, bs, hw, hs⟩, hd⟩ := hP
  obtain ⟨b1, b2, b3⟩ := hb
  unfold cM at h
  unfold eM
  dsimp only at h hn b1 b2 b3 ⊢
  have hU : ∀ c, (48 ≤ c ∧ c ≤ 57) ∨ (97 ≤ c ∧ c ≤ 104) → b ≠ 58 → ¬ (48 ≤ b ∧ b ≤ 57) → eK c b o = eU c o := by
    intro c hc h1 h2
    unfold eK eU
    rcases hc with hc | hc
    · rw [if_pos hc, if_neg h1, if_neg h2, if_neg (show ¬ (97 ≤ c ∧ c ≤ 104) by omega)]
    · rw [if_neg (show ¬ (48 ≤ c ∧ c ≤ 57) by omega), if_pos hc, if_pos hc]
  have hO : ∀ c, c = 38 ∨ c = 124 ∨ c = 41 ∨ c = 58 → eK c b o = eO c o := by
    intro c hc
    unfold eK eO
    rcases hc with rfl | rfl | rfl | rfl <;> simp
  rcases hs with ⟨rfl, rfl, hnt, hh, h0, rfl⟩ | ⟨rfl, hx, h5⟩ | ⟨hst, ⟨x, r, b', h1, h2, h3, rfl, h4, h6⟩, h5⟩ | ⟨rfl, -⟩ | ⟨rfl, h1, h2⟩ | ⟨hst, h1, h2, h3⟩
  · rw [if_pos rfl] at h ⊢
    have hh2 : b ≠ 58 := fun z => by have := b1.mpr z; omega
    have hh3 := b3 (Or.inl rfl)
    rcases fM_in h with ⟨h7, h8⟩ | ⟨rfl, h8, h9⟩ | h7 | h7
    · rcases h7 with rfl | rfl
      · exact ⟨by simp [eK], by simp [oky], ⟨by omega, by omega, by omega⟩, by omega⟩
      · exact ⟨by simp [eK], by simp [oky], ⟨by omega, by omega, by omega⟩, by omega⟩
    · obtain ⟨z1, z2⟩ := h0 h9
      refine ⟨?_, by simp [oky], ⟨by omega, by omega, by omega⟩, by omega⟩
      obtain ⟨dn, cur, s⟩ := o
      dsimp only at z1 z2
      subst z1 z2
      simp [eK, ldn, layD]
    · rw [if_neg (show ¬ c = 33 by omega), if_neg (show ¬ c = 40 by omega), if_neg (show ¬ c = 58 by omega)]
      exact ⟨hU c (Or.inl ⟨h7.1, h7.2.1⟩) hh2 hh3, Or.inl ⟨h7.1, h7.2.1⟩, ⟨by omega, by omega, by omega⟩, by omega⟩
    · rw [if_neg (show ¬ c = 33 by omega), if_neg (show ¬ c = 40 by omega), if_neg (show ¬ c = 58 by omega)]
      exact ⟨hU c (Or.inr ⟨h7.1, h7.2.1⟩) hh2 hh3, Or.inr (Or.inl ⟨h7.1, h7.2.1⟩), ⟨by omega, by omega, by omega⟩, by omega⟩
  · have hh2 : b ≠ 58 := fun z => by have := b1.mpr z; omega
    have hh3 := b3 (Or.inr rfl)
    rw [if_neg (show ¬ 1 = 0 by decide), if_pos rfl] at h ⊢
    rcases uC_in h with h7 | h7
    · exact ⟨hU c (Or.inl ⟨h7.1, h7.2.1⟩) hh2 hh3, Or.inl ⟨h7.1, h7.2.1⟩, ⟨by omega, by omega, by omega⟩, by omega⟩
    · exact ⟨hU c (Or.inr ⟨h7.1, h7.2.1⟩) hh2 hh3, Or.inr (Or.inl ⟨h7.1, h7.2.1⟩), ⟨by omega, by omega, by omega⟩, by omega⟩
  · have hB : bM sort c dep un rt bg ls = some k' → eK c b o = eB c rt o ∧ oky c ∧ bef k' c ∧ ¬ (48 ≤ c ∧ c ≤ 57) := by
      intro h
      clear h6
      rcases bM_in h with ⟨h7, h8⟩ | ⟨rfl, h7, h8, h9⟩ | ⟨rfl, h7⟩
      · rcases h7 with rfl | rfl | rfl <;> exact ⟨by simp [eK, eB], by simp [oky], ⟨by omega, by omega, by omega⟩, by omega⟩
      · refine ⟨?_, by unfold oky; omega, ⟨by omega, by omega, by omega⟩, by omega⟩
        have e1 : eK c b o = awt 14 (c - 48) o := by
          rcases (show c = 60 ∨ c = 61 ∨ c = 62 by omega) with rfl | rfl | rfl <;> simp [eK]
        have e2 : eB c false o = awt 11 (c - 48) o := by
          rcases (show c = 60 ∨ c = 61 ∨ c = 62 by omega) with rfl | rfl | rfl <;> simp [eB]
        rw [e1, e2]
        obtain ⟨dn, cur, s⟩ := o
        dsimp only at h1
        dsimp only at h4
        subst h1
        simp only [awt, layD14 h2 h4]
      · have hc : c = 38 ∨ c = 124 ∨ c = 41 ∨ c = 58 := by omega
        refine ⟨?_, by unfold oky; omega, ⟨by omega, by omega, by omega⟩, by omega⟩
        rw [hO c hc]
        rcases hc with rfl | rfl | rfl | rfl <;> simp [eB]
    rcases hst with rfl | rfl
    · have hh2 : b ≠ 58 := fun z => by have := b1.mpr z; omega
      have hh3 := b2 rfl
      rw [if_neg (show ¬ 2 = 0 by decide), if_neg (show ¬ 2 = 1 by decide), if_pos rfl] at h ⊢
      by_cases c1 : 48 ≤ c ∧ c ≤ 57
      · rw [if_pos c1] at h ⊢
        cases h
        obtain ⟨cur', v, e1, hv, w2⟩ := h6 rfl
        exact ⟨by unfold eK; rw [if_pos c1, if_neg hh2, if_pos hh3], Or.inl c1, ⟨by dsimp only; omega, by dsimp only; omega, by dsimp only; omega⟩, fun _ _ _ => ⟨cur', v, e1⟩⟩
      · rw [if_neg c1] at h ⊢
        have := hB h
        exact ⟨this.1, this.2.1, this.2.2.1, fun z => absurd z c1⟩
    · rw [if_neg (show ¬ 3 = 0 by decide), if_neg (show ¬ 3 = 1 by decide), if_neg (show ¬ 3 = 2 by decide), if_pos rfl] at h ⊢
      have := hB h
      exact ⟨this.1, this.2.1, this.2.2.1, fun z => absurd z this.2.2.2⟩
  · rw [if_neg (show ¬ 4 = 0 by decide), if_neg (show ¬ 4 = 1 by decide), if_neg (show ¬ 4 = 2 by decide), if_neg (show ¬ 4 = 3 by decide), if_pos rfl] at h ⊢
    have h7 := oC_in h
    exact ⟨hO c (by omega), by unfold oky; omega, ⟨by omega, by omega, by omega⟩, by omega⟩
  · rw [if_neg (show ¬ 5 = 0 by decide), if_neg (show ¬ 5 = 1 by decide), if_neg (show ¬ 5 = 2 by decide), if_neg (show ¬ 5 = 3 by decide), if_neg (show ¬ 5 = 4 by decide), if_pos rfl] at h ⊢
    have hb58 := b1.mp rfl
    by_cases c1 : c = 48 ∨ c = 49
    · rw [if_pos c1] at h
      have hk : k'.1 = 6 ∨ k'.1 = 7 := by cases h; dsimp only; split <;> simp
      exact ⟨by unfold eK; rw [if_pos (by omega), if_pos hb58], Or.inl (by omega), ⟨by omega, by omega, by omega⟩, by omega⟩
    · rw [if_neg c1] at h; cases h
  · rcases hst with rfl | rfl
    · rw [if_neg (show ¬ 6 = 0 by decide), if_neg (show ¬ 6 = 1 by decide), if_neg (show ¬ 6 = 2 by decide), if_neg (show ¬ 6 = 3 by decide), if_neg (show ¬ 6 = 4 by decide), if_neg (show ¬ 6 = 5 by decide), if_pos rfl] at h
      rw [if_neg (show ¬ 6 = 0 by decide), if_neg (show ¬ 6 = 1 by decide), if_neg (show ¬ 6 = 2 by decide), if_neg (show ¬ 6 = 3 by decide), if_neg (show ¬ 6 = 4 by decide), if_neg (show ¬ 6 = 5 by decide)]
      by_cases c1 : c = 59
      · rw [if_pos c1] at h
        cases h
        subst c1
        exact ⟨by simp [eK], by simp [oky], ⟨by dsimp only; omega, by dsimp only; omega, by dsimp only; omega⟩, by omega⟩
      · rw [if_neg c1] at h; cases h
    · simp at h
