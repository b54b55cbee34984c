def wxC (fr b : Nat) : Int32 := if b = 16 then -1 else nI (fr + 16 * (b % 2) + 2 * (b / 2))
theorem SB_n {x : Int32} {a : Int} (h : x.toInt = a) (h0 : 0 ≤ a) (h1 : a ≤ 100) : x = nI a.toNat := Int32.toInt_inj.mp (by rw [h, ti a.toNat (by omega)]; omega)
theorem wb_20 {sh : Nat → Prop} {bo : Bo} (h : bOK sh bo) {n : Nat} (hn : n ≤ 16) : 0 ≤ (wbS bo n).2 ∧ (wbS bo n).2 ≤ 20 := by
  rcases (wbS_ok h n hn).1 with ⟨-, h2⟩ | ⟨h1, h2, h3, -⟩
  · omega
  · have := h.1 ((wbS bo n).1 % 2) (by omega) ((wbS bo n).1 / 2) (by omega)
    unfold wd at h2
    omega
theorem i_widest {fr : Nat} (hfr : fr + 32 ≤ 2592) {sh : Nat → Prop} {bo : Bo} (hb : bOK sh bo) {A : FI} {B : FJ} (h : ∀ s, s ≤ 1 → SBx 16 (fr + 16 * s) A (bo s)) {f s : Nat} (hf : f < 8) (hs : s ≤ 1) {Q : Option AV → AH → Prop} (k : ∀ o, Rn 0 mtX8_widestOf 17 [some (.inr (.inr (some (15, 0)))), some (.inl (nI fr)), some (.inl (wxC fr (wbS bo (2 * f + s + 1)).1)), some (.inl (nI (wbS bo (2 * f + s + 1)).2.toNat)), some (.inl (nI f)), some (.inl (nI (16 * s + 16))), o] [] (hp A B) Q) (o : Option AV) : Rn 0 mtX8_widestOf 17 [some (.inr (.inr (some (15, 0)))), some (.inl (nI fr)), some (.inl (wxC fr (wbS bo (2 * f + s)).1)), some (.inl (nI (wbS bo (2 * f + s)).2.toNat)), some (.inl (nI f)), some (.inl (nI (16 * s))), o] [] (hp A B) Q := by
  have w20 := wb_20 hb (n := 2 * f + s) (by omega)
  have hbb := hb.1 s hs f hf
  have ew : wd bo (2 * f + s) = (bo s f).2 - (bo s f).1 := by
    unfold wd
    rw [show (2 * f + s) % 2 = s by omega, show (2 * f + s) / 2 = f by omega]
  have e : wbS bo (2 * f + s + 1) = if (wbS bo (2 * f + s)).2 < wd bo (2 * f + s) then (2 * f + s, wd bo (2 * f + s)) else wbS bo (2 * f + s) := rfl
  rw [ew] at e
  generalize wbS bo (2 * f + s + 1) = w1 at *
  generalize wbS bo (2 * f + s) = w0 at *
  obtain ⟨x1, x2⟩ := h s hs f hf
  generalize hat : fr + 16 * s + 2 * f = at' at *
  have n1 := SB_n x1 (by omega) (by omega)
  have n2 := SB_n x2 (by omega) (by omega)
  have i1 : nI fr + nI (16 * s) + 2 * nI f = nI at' := by rw [show (2 : Int32) * nI f = nI (2 * f) from pk_mul 2 f, nI_add, nI_add, hat]
  have i2 : nI (16 * s) + 16 = nI (16 * s + 16) := nI_add _ 16
  have i3 : nI at' + 1 = nI (at' + 1) := nI_1 _
  have c1 : (nI at').toNatClampNeg = at' := nI_clamp (by omega)
  have c2 : (nI (at' + 1)).toNatClampNeg = at' + 1 := nI_clamp (by omega)
  have hv1 : vp_in (nI at') 2592 := vpN (n := 2592) (by omega) rfl
  have hv2 : vp_in (nI (at' + 1)) 2592 := vpN (n := 2592) (by omega) rfl
  have ts := ti (16 * s) (by omega)
  have ta := ti at' (by omega)
  have ta1 := ti (at' + 1) (by omega)
  have tl : (Int32.ofNat (kd 16).snd).toInt = 2592 := by decide
  have ed : nI (bo s f).2.toNat - nI (bo s f).1.toNat = nI ((bo s f).2 - (bo s f).1).toNat := by rw [nI_sub (by omega)]; congr 1; omega
  have tle := ti_le (a := ((bo s f).2 - (bo s f).1).toNat) (b := w0.2.toNat) (by omega) (by omega)
  refine R_go 9999 rfl rfl trivial ?_
  refine R_br rfl rfl (fun h => absurd h (by (simp only [i_eq, i_lt, i_le, Int32.reduceToInt, true_and, and_true, false_and, and_false, or_false, false_or, or_true, true_or, ne_eq] at *; first | done | omega))) (fun _ => ?_)
  refine R_go 9999 rfl rfl trivial ?_
  rw [i1]
  refine R_br rfl rfl (fun h => absurd h (by (simp only [i_eq, i_lt, i_le, Int32.reduceToInt, true_and, and_true, false_and, and_false, or_false, false_or, or_true, true_or, ne_eq] at *; first | done | omega))) (fun _ => ?_)
  refine R_go 9999 rfl rfl trivial ?_
  rw [i3]
  refine R_br rfl rfl (fun h => absurd h (by (simp only [i_eq, i_lt, i_le, Int32.reduceToInt, true_and, and_true, false_and, and_false, or_false, false_or, or_true, true_or, ne_eq] at *; first | done | omega))) (fun _ => ?_)
  refine R_go 9999 rfl rfl (by rw [i3]; exact ⟨hv1, hv2⟩) ?_
  rw [i3, c1, c2, n1, n2, ed]
  by_cases g : w0.2 < (bo s f).2 - (bo s f).1
  · rw [if_pos g] at e
    refine R_br rfl rfl (fun h => absurd (tle.mp h) (by omega)) (fun _ => ?_)
    refine R_go 17 rfl rfl (by rw [i3]; exact ⟨hv1, hv2⟩) ?_
    rw [i3, c1, c2, n1, n2, ed, i2]
    have k' := k (some (.inl (nI at')))
    rw [e] at k'
    rw [show wxC fr (2 * f + s, (bo s f).2 - (bo s f).1).1 = nI at' by
      unfold wxC
      dsimp only
      rw [if_neg (by omega), show (2 * f + s) % 2 = s by omega, show (2 * f + s) / 2 = f by omega, hat]] at k'
    exact k'
  · rw [if_neg g] at e
    refine R_br rfl rfl (fun _ => ?_) (fun h => absurd (tle.mpr (by omega)) h)
    refine R_go 17 rfl rfl trivial ?_
    rw [i2]
    have k' := k (some (.inl (nI at')))
    rw [e] at k'
    exact k'
theorem l_widestOf {fr : Nat} (hfr : fr + 32 ≤ 2592) {sh : Nat → Prop} {bo : Bo} (hb : bOK sh bo) {A : FI} {B : FJ} (h : ∀ s, s ≤ 1 → SBx 16 (fr + 16 * s) A (bo s)) : ∀ (m f : Nat), f + m = 8 → ∀ o5 o6, Rn 0 mtX8_widestOf 7 [some (.inr (.inr (some (15, 0)))), some (.inl (nI fr)), some (.inl (wxC fr (wbS bo (2 * f)).1)), some (.inl (nI (wbS bo (2 * f)).2.toNat)), some (.inl (nI f)), o5, o6] [] (hp A B) (Ret (some (.inl (wxC fr (wbS bo 16).1))) (hp A B)) := by
  intro m
  induction m with
  | zero =>
    intro f hf o5 o6
    have : f = 8 := by omega
    subst this
    refine R_go 9999 rfl rfl trivial ?_
    refine R_br rfl rfl (fun _ => ?_) (fun h => absurd (by decide) h)
    repeat' (first
        | (refine R_br rfl rfl (fun hbr => absurd hbr (by first | decide | (with_reducible assumption))) (fun _ => ?_))
        | (refine R_br rfl rfl (fun _ => ?_) (fun hbr => absurd (by first | decide | (with_reducible assumption)) hbr))
        | (refine R_br rfl rfl (fun _ => ?_) (fun _ => ?_))
        | (refine R_ri rfl rfl ?_)
        | (refine R_rz rfl rfl (Or.inl rfl) ?_)
        | (refine R_rz rfl rfl (Or.inr rfl) ?_)
        | (refine R_rz rfl rfl (b2_01 _) ?_)
        | (refine R_rl rfl rfl ?_)
        | (refine R_rv rfl rfl ?_)
        | (refine R_sw _ rfl rfl rfl ?_)
        | (refine R_go 9999 rfl rfl trivial ?_)
        | (refine R_go 9999 rfl rfl (by first | (show _ ∨ _; decide) | (show (_ ∨ _) ∧ (_ ∨ _); decide) | (show (_ ∨ _) ∧ (_ ∨ _) ∧ (_ ∨ _); decide)) ?_)
        | (refine R_go 9999 rfl rfl ?_ ?_))
    exact ret_i rfl rfl
  | succ m ih =>
    intro f hf o5 o6
    have tf := ti f (by omega)
    refine R_go 9999 rfl rfl trivial ?_
    refine R_br rfl rfl (fun h => absurd h (by (simp only [i_eq, i_lt, i_le, Int32.reduceToInt, true_and, and_true, false_and, and_false, or_false, false_or, or_true, true_or, ne_eq] at *; first | done | omega))) (fun _ => ?_)
    refine R_go 17 rfl rfl trivial ?_
    refine i_widest (s := 0) hfr hb h (by omega) (by omega) (fun o => ?_) o6
    refine i_widest (s := 1) hfr hb h (by omega) (by omega) (fun o => ?_) o
    refine R_go 9999 rfl rfl trivial ?_
    refine R_br rfl rfl (fun _ => ?_) (fun h => absurd (by decide) h)
    refine R_go 7 rfl rfl trivial ?_
    rw [nI_1]
    exact ih (f + 1) (by omega) _ _
theorem m_widestOf {fr : Nat} (hfr : fr + 32 ≤ 2592) {sh : Nat → Prop} {bo : Bo} (hb : bOK sh bo) {A : FI} {B : FJ} (h : ∀ s, s ≤ 1 → SBx 16 (fr + 16 * s) A (bo s)) : MV 0 1 mtX8_widestOf [.inr (.inr (some (15, 0))), .inl (nI fr)] (hp A B) (Ret (some (.inl (wxC fr (wbS bo 16).1))) (hp A B)) := by
  refine MV_of caX8_widestOf (L := [some (.inr (.inr (some (15, 0)))), some (.inl (nI fr)), none, none, none, none, none]) rfl rfl ?_
  refine R_go 7 rfl rfl trivial ?_
  exact l_widestOf hfr hb h 8 0 rfl none none
theorem hlf : ∀ n, n < 41 → nI n / 2 = nI (n / 2) := by decide
theorem m_halve {fr at' x y : Nat} (h1 : fr ≤ at') (h2 : at' + 34 ≤ 2592) {A : FI} {B : FJ} (hx : A 16 0 at' = nI x) (hy : A 16 0 (at' + 1) = nI y) (h20 : x ≤ 20 ∧ y ≤ 20) : MV 0 2 mtX8_halve [.inr (.inr (some (15, 0))), .inl (nI fr), .inl (nI at')] (hp A B) (Ret none (hp (up3 (up3 A 16 0 at' (nI ((x + y) / 2 + 1))) 16 0 (at' + 33) (nI ((x + y) / 2))) B)) := by
  have tf := ti fr (by omega)
  have ta := ti at' (by omega)
  have ta1 := ti (at' + 33) (by omega)
  have i3 : nI at' + 1 = nI (at' + 1) := nI_1 _
  have i4 : nI (at' + 1) + 32 = nI (at' + 33) := nI_add _ 32
  have i5 : nI at' + 32 = nI (at' + 32) := nI_add _ 32
  have i6 : nI (at' + 32) + 1 = nI (at' + 33) := nI_1 _
  have c1 : (nI at').toNatClampNeg = at' := nI_clamp (by omega)
  have c2 : (nI (at' + 1)).toNatClampNeg = at' + 1 := nI_clamp (by omega)
  have c3 : (nI (at' + 33)).toNatClampNeg = at' + 33 := nI_clamp (by omega)
  have hv1 : vp_in (nI at') 2592 := vpN (n := 2592) (by omega) rfl
  have hv2 : vp_in (nI (at' + 1)) 2592 := vpN (n := 2592) (by omega) rfl
  have hv3 : vp_in (nI (at' + 33)) 2592 := vpN (n := 2592) (by omega) rfl
  have tl : (Int32.ofNat (kd 16).snd).toInt = 2592 := by decide
  have eh : (nI x + nI y) / 2 = nI ((x + y) / 2) := by rw [nI_add]; exact hlf _ (by omega)
  refine MV_of caX8_halve (L := [some (.inr (.inr (some (15, 0)))), some (.inl (nI fr)), some (.inl (nI at')), none]) rfl rfl ?_
  refine R_go 9999 rfl rfl trivial ?_
  refine R_br rfl rfl (fun h => absurd h (by (simp only [i_eq, i_lt, i_le, Int32.reduceToInt, true_and, and_true, false_and, and_false, or_false, false_or, or_true, true_or, ne_eq] at *; first | done | omega))) (fun _ => ?_)
  refine R_go 9999 rfl rfl trivial ?_
  rw [i3, i4]
  refine R_br rfl rfl (fun _ => ?_) (fun h => absurd (by (simp only [i_eq, i_lt, i_le, Int32.reduceToInt, true_and, and_true, false_and, and_false, or_false, false_or, or_true, true_or, ne_eq] at *; first | done | omega)) h)
  refine R_go 9999 rfl rfl ?_ ?_
  · rw [i3, i5, i6]; exact ⟨hv3, hv1, by decide, hv2, hv1⟩
  rw [i3, i5, i6, c1, c2, c3, hx, hy, eh, nI_1]
  exact R_rv rfl rfl (ret_v rfl)
