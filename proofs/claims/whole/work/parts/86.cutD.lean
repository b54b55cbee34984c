theorem hmf : ∀ n, n < 32 → (nI n - nI n / 16 * 16) / 2 = nI (n % 16 / 2) := by decide
theorem cpA {A : FI} {g p : Nat} {b l : Nat} : cpy3 A g 0 b (b + l) l g 0 p = if b + l ≤ p ∧ p < b + l + l then A g 0 (b + (p - (b + l))) else A g 0 p := by simp [cpy3, va_cpy]
theorem cpG {A : FI} {g g' : Nat} {b d l : Nat} (h : g' ≠ g) : cpy3 A g 0 b d l g' = A g' := by simp [cpy3, h]
/-- the box at the place t of the pile -/
def bxC (A : FI) (t : Nat) (bo : Bo) : Prop := ∀ s, s ≤ 1 → SBx 16 (32 * t + 16 * s) A (bo s)
def CUo (A : FI) (B : FJ) (sh : Nat → Prop) (bo : Bo) (n t : Nat) : Option AV → AH → Prop := fun r h' => ∃ A', r = none ∧ h' = hp A' B ∧ FmO 15 [16] [3, 5] A A' ∧ A' 15 0 3 = nI (t + 1) ∧ A' 15 0 5 = A 15 0 5 + 1 ∧ (∀ z, z < 32 * t → A' 16 0 z = A 16 0 z) ∧ bxC A' t (ctB sh bo n 0) ∧ bxC A' (t + 1) (ctB sh bo n 1)
theorem ct_cell {sh : Nat → Prop} {bo : Bo} {n t : Nat} {A A' : FI} (h : bxC A t bo) (hb : bOK sh bo) (hn : n < 16) (ho : n % 2 = 1 → ¬ sh (n / 2)) {m : Nat} (hm : miB bo n = m) (hm2 : m ≤ 20)
    (hc : ∀ s, s ≤ 1 → ∀ f, f < 8 → (cuQ sh n s f → A' 16 0 (32 * t + 16 * s + 2 * f) = nI (m + 1) ∧ A' 16 0 (32 * (t + 1) + 16 * s + 2 * f + 1) = nI m) ∧ (¬ cuQ sh n s f → A' 16 0 (32 * t + 16 * s + 2 * f) = A 16 0 (32 * t + 16 * s + 2 * f) ∧ A' 16 0 (32 * (t + 1) + 16 * s + 2 * f + 1) = A 16 0 (32 * t + 16 * s + 2 * f + 1)) ∧ A' 16 0 (32 * t + 16 * s + 2 * f + 1) = A 16 0 (32 * t + 16 * s + 2 * f + 1) ∧ A' 16 0 (32 * (t + 1) + 16 * s + 2 * f) = A 16 0 (32 * t + 16 * s + 2 * f)) : bxC A' t (ctB sh bo n 0) ∧ bxC A' (t + 1) (ctB sh bo n 1) := by
  have tm := ti m (by omega)
  have tm1 := ti (m + 1) (by omega)
  refine ⟨fun s hs f hf => ?_, fun s hs f hf => ?_⟩
  · obtain ⟨c1, c2, c3, c4⟩ := hc s hs f hf
    obtain ⟨x1, x2⟩ := h s hs f hf
    unfold ctB
    rcases Classical.em (cuQ sh n s f) with g | g
    · rw [psB_y g, if_pos rfl, if_pos rfl, (c1 g).1, c3, hm]
      exact ⟨tm1, x2⟩
    · rw [psB_n g, (c2 g).1, c3]
      exact ⟨x1, x2⟩
  · obtain ⟨c1, c2, c3, c4⟩ := hc s hs f hf
    obtain ⟨x1, x2⟩ := h s hs f hf
    unfold ctB
    rcases Classical.em (cuQ sh n s f) with g | g
    · rw [psB_y g, if_neg (by decide), if_neg (by decide), (c1 g).2, c4, hm]
      exact ⟨x1, tm⟩
    · rw [psB_n g, (c2 g).2, c4]
      exact ⟨x1, x2⟩
theorem m_cut {sh : Nat → Prop} {bo : Bo} {n t : Nat} (ht : t + 2 ≤ 81) (hb : bOK sh bo) (hn : n < 16) (hw : 0 < wd bo n) (ho : n % 2 = 1 → ¬ sh (n / 2)) {A : FI} {B : FJ} (h : bxC A t bo) (htop : A 15 0 3 = nI t) (hsh : ∀ f, f < 8 → A 17 0 f = b2 (sh f)) : MV 2 2 mtX8_cut [.inr (.inr (some (15, 0))), .inl (nI (32 * t)), .inl (wxC (32 * t) n)] (hp A B) (CUo A B sh bo n t) := by
  have ewx : wxC (32 * t) n = nI (32 * t + 16 * (n % 2) + 2 * (n / 2)) := by unfold wxC; rw [if_neg (by omega)]
  have hbb := hb.1 (n % 2) (by omega) (n / 2) (by omega)
  have hm : miB bo n = (((bo (n % 2) (n / 2)).1.toNat + (bo (n % 2) (n / 2)).2.toNat) / 2 : Nat) := by unfold miB; omega
  obtain ⟨x1, x2⟩ := h (n % 2) (by omega) (n / 2) (by omega)
  have n1 := SB_n x1 (by omega) (by omega)
  have n2 := SB_n x2 (by omega) (by omega)
  have hlo : (bo (n % 2) (n / 2)).1.toNat ≤ 20 ∧ (bo (n % 2) (n / 2)).2.toNat ≤ 20 := by omega
  have hshx : sh (n / 2) → A 16 0 (32 * t + 16 + 2 * (n / 2)) = A 16 0 (32 * t + 16 * (n % 2) + 2 * (n / 2)) ∧ A 16 0 (32 * t + 16 + 2 * (n / 2) + 1) = A 16 0 (32 * t + 16 * (n % 2) + 2 * (n / 2) + 1) := fun hs => by
    have h0 : n % 2 = 0 := by
      by_cases z : n % 2 = 1
      · exact absurd hs (ho z)
      · omega
    obtain ⟨a1, a2⟩ := h 0 (by omega) (n / 2) (by omega)
    obtain ⟨b1, b2⟩ := h 1 (by omega) (n / 2) (by omega)
    have e := hb.2 (n / 2) (by omega) hs
    rw [h0]
    rw [e] at a1 a2
    exact ⟨Int32.toInt_inj.mp (by rw [show 32 * t + 16 * 0 + 2 * (n / 2) = 32 * t + 16 * 0 + 2 * (n / 2) from rfl, a1]; exact b1), Int32.toInt_inj.mp (by rw [a2]; exact b2)⟩
  have hn2 : n / 2 < 8 := by omega
  have hs2 : n % 2 ≤ 1 := by omega
  generalize hx : (bo (n % 2) (n / 2)).1.toNat = x at *
  generalize hy : (bo (n % 2) (n / 2)).2.toNat = y at *
  generalize hmm : (x + y) / 2 = m at *
  rw [ewx]
  generalize hat : 32 * t + 16 * (n % 2) + 2 * (n / 2) = at' at *
  have tb := ti (32 * t) (by omega)
  have tb1 := ti (32 * t + 64) (by omega)
  have ta := ti at' (by omega)
  have ta1 := ti (at' + 1) (by omega)
  have tb2 := ti (32 * t + 32) (by omega)
  have i1 : nI (32 * t) + 64 = nI (32 * t + 64) := nI_add _ 64
  have i2 : nI at' + 1 = nI (at' + 1) := nI_1 _
  have i3 : nI (32 * t) + 32 = nI (32 * t + 32) := nI_add _ 32
  have i4 : nI at' - nI (32 * t) = nI (16 * (n % 2) + 2 * (n / 2)) := by rw [nI_sub (by omega)]; congr 1; omega
  have i5 : (nI (16 * (n % 2) + 2 * (n / 2)) - nI (16 * (n % 2) + 2 * (n / 2)) / 16 * 16) / 2 = nI (n / 2) := by rw [hmf _ (by omega)]; congr 1; omega
  have i6 : nI (32 * t) + 16 + 2 * nI (n / 2) = nI (32 * t + 16 + 2 * (n / 2)) := by rw [show (2 : Int32) * nI (n / 2) = nI (2 * (n / 2)) from pk_mul 2 _, show nI (32 * t) + 16 = nI (32 * t + 16) from nI_add _ 16, nI_add]
  have cb : (nI (32 * t)).toNatClampNeg = 32 * t := nI_clamp (by omega)
  have cb2 : (nI (32 * t + 32)).toNatClampNeg = 32 * t + 32 := nI_clamp (by omega)
  have c32 : (32 : Int32).toNatClampNeg = 32 := by decide
  have cf : (nI (n / 2)).toNatClampNeg = n / 2 := nI_clamp (by omega)
  have hvf : vp_in (nI (n / 2)) 8 := vpN (n := 8) (by omega) rfl
  have tl : (Int32.ofNat (kd 16).snd).toInt = 2592 := by decide
  refine MV_of caX8_cut (L := [some (.inr (.inr (some (15, 0)))), some (.inl (nI (32 * t))), some (.inl (nI at')), none]) rfl rfl ?_
  refine R_go 9999 rfl rfl trivial ?_
  refine R_br rfl rfl (fun h => absurd h (by (simp only [i_eq, i_lt, i_le, Int32.reduceToInt, true_and, and_true, false_and, and_false, or_false, false_or, or_true, true_or, ne_eq] at *; first | done | omega))) (fun _ => ?_)
  refine R_go 9999 rfl rfl trivial ?_
  rw [i1]
  refine R_br rfl rfl (fun h => absurd h (by (simp only [i_eq, i_lt, i_le, Int32.reduceToInt, true_and, and_true, false_and, and_false, or_false, false_or, or_true, true_or, ne_eq] at *; first | done | omega))) (fun _ => ?_)
  refine R_go 9999 rfl rfl trivial ?_
  refine R_br rfl rfl (fun h => absurd h (by (simp only [i_eq, i_lt, i_le, Int32.reduceToInt, true_and, and_true, false_and, and_false, or_false, false_or, or_true, true_or, ne_eq] at *; first | done | omega))) (fun _ => ?_)
  refine R_go 9999 rfl rfl trivial ?_
  rw [i2, i3]
  refine R_br rfl rfl (fun _ => ?_) (fun h => absurd (by (simp only [i_eq, i_lt, i_le, Int32.reduceToInt, true_and, and_true, false_and, and_false, or_false, false_or, or_true, true_or, ne_eq] at *; first | done | omega)) h)
  refine R_go 9999 rfl rfl trivial ?_
  rw [i3]
  refine s_copy rfl qw_acl qw_acn qw_acs qw_sys (N := 2592) rfl (by (simp only [i_eq, i_lt, i_le, Int32.reduceToInt, true_and, and_true, false_and, and_false, or_false, false_or, or_true, true_or, ne_eq] at *; first | done | omega)) (by (simp only [i_eq, i_lt, i_le, Int32.reduceToInt, true_and, and_true, false_and, and_false, or_false, false_or, or_true, true_or, ne_eq] at *; first | done | omega)) (by decide) (by rw [cb, c32]; omega) (by rw [cb2, c32]; omega) (Nat.le_refl _) (Nat.le_of_ble_eq_true rfl) ?_
  rw [cb, cb2, c32]
  generalize hA1 : up3 A 15 0 5 (A 15 0 5 + 1) = A1
  show Rn 2 mtX8_cut 60 _ _ (hp (cpy3 A1 16 0 (32 * t) (32 * t + 32) 32) B) _
  generalize hA2 : cpy3 A1 16 0 (32 * t) (32 * t + 32) 32 = A2
  have a16 : A1 16 = A 16 := by rw [← hA1, up3_g (by decide)]
  have e3 : A2 15 0 3 = nI t := by rw [← hA2, cpG (by decide), ← hA1, up3_s (by decide), htop]
  have e5 : A2 15 0 5 = A 15 0 5 + 1 := by rw [← hA2, cpG (by decide), ← hA1, up3_self]
  have e17 : A2 17 = A 17 := by rw [← hA2, cpG (by decide), ← hA1, up3_g (by decide)]
  have hF2 : FmO 15 [16] [3, 5] A A2 := FmO_tr (A1 := A1) (by rw [← hA1]; exact FmO_up FmO_rf (by decide)) ⟨fun g _ hg => by rw [← hA2]; exact cpG (fun e => hg (by rw [e]; decide)), fun s _ => by rw [← hA2, cpG (by decide)]⟩
  have e16 : ∀ p, A2 16 0 p = if 32 * t + 32 ≤ p ∧ p < 32 * t + 32 + 32 then A 16 0 (32 * t + (p - (32 * t + 32))) else A 16 0 p := fun p => by rw [← hA2, cpA, a16]
  clear hA2 hA1
  refine R_go 9999 rfl rfl trivial ?_
  rw [e3, nI_1]
  generalize hA3 : up3 A2 15 0 3 (nI (t + 1)) = A3
  have f16 : A3 16 = A2 16 := by rw [← hA3, up3_g (by decide)]
  have f17 : A3 17 = A 17 := by rw [← hA3, up3_g (by decide), e17]
  have f3 : A3 15 0 3 = nI (t + 1) := by rw [← hA3, up3_self]
  have f5 : A3 15 0 5 = A 15 0 5 + 1 := by rw [← hA3, up3_s (by decide), e5]
  have hF3 : FmO 15 [16] [3, 5] A A3 := FmO_tr hF2 (by rw [← hA3]; exact FmO_up FmO_rf (by decide))
  clear hA3
  have h1 := m_halve (fr := 32 * t) (at' := at') (x := x) (y := y) (A := A3) (B := B) (by omega) (by omega) (by rw [f16, e16, if_neg (by omega)]; exact n1) (by rw [f16, e16, if_neg (by omega)]; exact n2) hlo
  rw [hmm] at h1
  refine R_cvv rfl h1 rfl rfl rfl rfl rfl (Nat.le_of_ble_eq_true rfl) rfl ?_
  refine R_go 9999 rfl rfl (by rw [i4, i5]; exact ⟨hvf, by decide, (by show ¬ (16 : Int32) = 0; decide)⟩) ?_
  rw [i4, i5, cf]
  rw [show up3 (up3 A3 16 0 at' (nI (m + 1))) 16 0 (at' + 33) (nI m) 17 = A 17 by rw [up3_g (by decide), up3_g (by decide), f17]]
  have hm20 : m ≤ 20 := by omega
  rw [hsh (n / 2) hn2]
  rcases Classical.em (sh (n / 2)) with g | g
  · rw [b2_1 g]
    have hn0 : n % 2 = 0 := by
      by_cases z : n % 2 = 1
      · exact absurd g (ho z)
      · omega
    have hat2 : at' = 32 * t + 2 * (n / 2) := by omega
    obtain ⟨y1, y2⟩ := hshx g
    refine R_br rfl rfl (fun h => absurd h (by decide)) (fun _ => ?_)
    refine R_go 9999 rfl rfl trivial ?_
    rw [i6]
    have h2 := m_halve (fr := 32 * t) (at' := 32 * t + 16 + 2 * (n / 2)) (x := x) (y := y) (A := up3 (up3 A3 16 0 at' (nI (m + 1))) 16 0 (at' + 33) (nI m)) (B := B) (by omega) (by omega) (by rw [up3_s (by omega), up3_s (by omega), f16, e16, if_neg (by omega), y1]; exact n1) (by rw [up3_s (by omega), up3_s (by omega), f16, e16, if_neg (by omega), y2]; exact n2) hlo
    rw [hmm] at h2
    refine R_cvv rfl h2 rfl rfl rfl rfl rfl (Nat.le_of_ble_eq_true rfl) rfl ?_
    refine R_rv rfl rfl ?_
    have key := ct_cell (t := t) (A' := up3 (up3 (up3 (up3 A3 16 0 at' (nI (m + 1))) 16 0 (at' + 33) (nI m)) 16 0 (32 * t + 16 + 2 * (n / 2)) (nI (m + 1))) 16 0 (32 * t + 16 + 2 * (n / 2) + 33) (nI m)) h hb hn ho hm hm20 (fun s hs f hf => by
      have gq : cuQ sh n s f ↔ f = n / 2 := ⟨fun z => z.1, fun z => ⟨z, by rw [z]; rcases (show s = 0 ∨ s = 1 by omega) with rfl | rfl; exact Or.inl hn0.symm; exact Or.inr ⟨g, rfl⟩⟩⟩
      simp only [up3_at, f16, e16, gq]
      refine ⟨fun z => ⟨?_, ?_⟩, fun z => ⟨?_, ?_⟩, ?_, ?_⟩ <;> (repeat' split) <;> first | rfl | omega | (exact congrArg _ (by omega)))
    refine ⟨_, rfl, rfl, FmO_tr hF3 (by first | exact FmO_rf | (repeat' (first | exact FmO_rf | (with_reducible assumption) | (refine FmO_up ?_ (by decide)) | (refine FmO_ug ?_ (by decide) (by decide))))), ?_, ?_, fun z hz => ?_, key.1, key.2⟩
    · rw [up3_g (by decide), up3_g (by decide), up3_g (by decide), up3_g (by decide)]; exact f3
    · rw [up3_g (by decide), up3_g (by decide), up3_g (by decide), up3_g (by decide)]; exact f5
    · rw [up3_s (by omega), up3_s (by omega), up3_s (by omega), up3_s (by omega), f16, e16, if_neg (by omega)]
  · rw [b2_0 g]
    refine R_br rfl rfl (fun _ => ?_) (fun h => absurd rfl h)
    refine R_rv rfl rfl ?_
    have key := ct_cell (t := t) (A' := up3 (up3 A3 16 0 at' (nI (m + 1))) 16 0 (at' + 33) (nI m)) h hb hn ho hm hm20 (fun s hs f hf => by
      have gq : cuQ sh n s f ↔ f = n / 2 ∧ s = n % 2 := ⟨fun z => ⟨z.1, z.2.elim id (fun w => absurd (z.1 ▸ w.1) g)⟩, fun z => ⟨z.1, Or.inl z.2⟩⟩
      simp only [up3_at, f16, e16, gq]
      refine ⟨fun z => ⟨?_, ?_⟩, fun z => ⟨?_, ?_⟩, ?_, ?_⟩ <;> (repeat' split) <;> first | rfl | omega | (exact congrArg _ (by omega)))
    refine ⟨_, rfl, rfl, FmO_tr hF3 (by first | exact FmO_rf | (repeat' (first | exact FmO_rf | (with_reducible assumption) | (refine FmO_up ?_ (by decide)) | (refine FmO_ug ?_ (by decide) (by decide))))), ?_, ?_, fun z hz => ?_, key.1, key.2⟩
    · rw [up3_g (by decide), up3_g (by decide)]; exact f3
    · rw [up3_g (by decide), up3_g (by decide)]; exact f5
    · rw [up3_s (by omega), up3_s (by omega), f16, e16, if_neg (by omega)]
