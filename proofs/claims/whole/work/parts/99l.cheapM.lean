/-- kinds that may change, none from i on below j -/
def noM (F : FS) (i j : Nat) : Prop := ∀ g, i ≤ g → g < j → F.1 g ≠ 3
theorem mayN_mono (F : FS) (i : Nat) : ∀ m, mayN F i ≤ mayN F (i + m)
  | 0 => Nat.le_refl _
  | m + 1 => Nat.le_trans (mayN_mono F i m) (Nat.le_add_right _ _)
theorem mayN_mn (F : FS) {i j : Nat} (h : i ≤ j) : mayN F i ≤ mayN F j := by
  have := mayN_mono F i (j - i)
  rwa [show i + (j - i) = j by omega] at this
theorem mayN_3 {F : FS} {g : Nat} (h : F.1 g = 3) : mayN F (g + 1) = mayN F g + 1 := by rw [mayN, if_pos h]
theorem noM_of {F : FS} {i j : Nat} (h : mayN F j ≤ mayN F i) : noM F i j := fun g h1 h2 h3 => by
  have a := mayN_3 h3
  have b := mayN_mn F h1
  have c := mayN_mn F (show g + 1 ≤ j by omega)
  omega
def maI (m : Nat) : Int32 := if m = 8 then -1 else nI m
/-- where the field k that may change is -/
def mAt (F : FS) (k m : Nat) : Prop := m ≤ 8 ∧ (m < 8 → F.1 m = 3 ∧ mayN F m = k) ∧ (m = 8 → mayN F 8 ≤ k)
theorem l_mayAt {F : FS} (hW : WFF F) {A : FI} {B : FJ} (hM : RMF A F) {k : Nat} {i : Int32} (hk : k < 100) : ∀ (m f : Nat), f + m = 8 → mayN F f ≤ k → Rn 0 mtX12_mayAt 4 [some (.inr (.inr (some (31, 0)))), some (.inl i), some (.inl (nI (k - mayN F f))), some (.inl (nI f))] [] (hp A B) (fun r h' => h' = hp A B ∧ ∃ m, mAt F k m ∧ r = some (.inl (maI m))) := by
  intro m
  induction m with
  | zero =>
    intro f hf hle
    have : f = 8 := by omega
    subst this
    refine R_go 9999 rfl rfl trivial ?_
    refine R_br rfl rfl (fun _ => ?_) (fun h => absurd (by decide) h)
    repeat' (first
        | (refine R_br rfl rfl (fun hbr => absurd hbr (by first | decide | (with_reducible assumption))) (fun _ => ?_))
        | (refine R_br rfl rfl (fun _ => ?_) (fun hbr => absurd (by first | decide | (with_reducible assumption)) hbr))
        | (refine R_br rfl rfl (fun _ => ?_) (fun _ => ?_))
        | (refine R_ri rfl rfl ?_)
        | (refine R_rz rfl rfl (Or.inl rfl) ?_)
        | (refine R_rz rfl rfl (Or.inr rfl) ?_)
        | (refine R_rz rfl rfl (b2_01 _) ?_)
        | (refine R_rl rfl rfl ?_)
        | (refine R_rv rfl rfl ?_)
        | (refine R_sw _ rfl rfl rfl ?_)
        | (refine R_go 9999 rfl rfl trivial ?_)
        | (refine R_go 9999 rfl rfl (by first | (show _ ∨ _; decide) | (show (_ ∨ _) ∧ (_ ∨ _); decide) | (show (_ ∨ _) ∧ (_ ∨ _) ∧ (_ ∨ _); decide)) ?_)
        | (refine R_go 9999 rfl rfl ?_ ?_))
    exact ⟨rfl, 8, ⟨Nat.le_refl _, fun h => absurd h (by decide), fun _ => hle⟩, rfl⟩
  | succ m ih =>
    intro f hf hle
    have tf := ti f (by omega)
    have cf : (nI f).toNatClampNeg = f := nI_clamp (by omega)
    have hvf : vp_in (nI f) 8 := vpN (n := 8) (by omega) rfl
    have hWf := hW.1 f (by omega)
    refine R_go 9999 rfl rfl trivial ?_
    refine R_br rfl rfl (fun h => absurd h (by (simp only [i_eq, i_lt, i_le, Int32.reduceToInt, true_and, and_true, false_and, and_false, or_false, false_or, or_true, true_or, ne_eq] at *; first | done | omega))) (fun _ => ?_)
    refine R_go 9999 rfl rfl hvf ?_
    rw [cf, (hM f (by omega)).1]
    by_cases h3 : F.1 f = 3
    · have e := mayN_3 h3
      rw [h3]
      refine R_br rfl rfl (fun _ => ?_) (fun h => absurd rfl h)
      refine R_go 9999 rfl rfl trivial ?_
      by_cases h0 : mayN F f = k
      · rw [show k - mayN F f = 0 by omega]
        refine R_br rfl rfl (fun _ => ?_) (fun h => absurd rfl h)
        refine R_go 9999 rfl rfl trivial ?_
        refine R_ri rfl rfl ?_
        exact ⟨rfl, f, ⟨by omega, fun _ => ⟨h3, h0⟩, fun h => by omega⟩, by rw [show maI f = nI f from if_neg (by omega)]⟩
      · refine R_br rfl rfl (fun h => absurd (nI_ij (b := 0) (by omega) (by omega) h) (by omega)) (fun _ => ?_)
        refine R_go 4 rfl rfl trivial ?_
        rw [nI_1, show nI (k - mayN F f) + -1 = nI (k - mayN F f) - 1 from (Int32.sub_eq_add_neg _ _).symm, show k - mayN F f = (k - mayN F (f + 1)) + 1 by omega, nI_pred]
        exact ih (f + 1) (by omega) (by omega)
    · have e : mayN F (f + 1) = mayN F f := by rw [mayN, if_neg h3]; rfl
      refine R_br rfl rfl (fun h => absurd (nI_ij (b := 3) (by omega) (by omega) h) h3) (fun _ => ?_)
      refine R_go 4 rfl rfl trivial ?_
      rw [nI_1, ← e]
      exact ih (f + 1) (by omega) (by omega)
theorem m_mayAt {F : FS} (hW : WFF F) {A : FI} {B : FJ} (hM : RMF A F) {k : Nat} (hk : k < 100) : MV 0 1 mtX12_mayAt [.inr (.inr (some (31, 0))), .inl (nI k)] (hp A B) (fun r h' => h' = hp A B ∧ ∃ m, mAt F k m ∧ r = some (.inl (maI m))) := by
  refine MV_of caX12_mayAt (L := [some (.inr (.inr (some (31, 0)))), some (.inl (nI k)), none, none]) rfl rfl ?_
  refine R_go 4 rfl rfl trivial ?_
  exact l_mayAt hW hM hk 8 0 rfl (Nat.zero_le _)
theorem m_price {x y e : Nat} (hx : x ≤ 100) (hy : y ≤ 100) (he : e ≤ 100) (A : FI) (B : FJ) : MS 0 2 mtX12_price [.inl (nI x - nI y), .inl (nI e)] (hp A B) (Ret (some (.inl (nI (((x - y) + (y - x)) * e)))) (hp A B)) := by
  have hab := ab_nI (x := x) (y := y) (by omega) (by omega)
  refine MS_of caX12_price (L := [some (.inl (nI x - nI y)), some (.inl (nI e))]) rfl rfl ?_
  refine R_go 9999 rfl rfl trivial ?_
  refine R_br rfl rfl (fun h => ?_) (fun h => ?_)
  · rw [if_pos h] at hab
    refine R_go 9999 rfl rfl trivial ?_
    rw [hab, pk_mul]
    exact R_ri rfl rfl (ret_i rfl rfl)
  · rw [if_neg h] at hab
    refine R_go 9999 rfl rfl trivial ?_
    rw [show -(nI x - nI y) = 0 - (nI x - nI y) from rfl, hab, pk_mul]
    exact R_ri rfl rfl (ret_i rfl rfl)
/-- across fields that may not change -/
theorem LT_gap {F : FS} {LS : List (List Tk)} {P : List (List Tk × Nat)} {q0 t q : Nat → Nat} {i j : Nat} (hij : i ≤ j) (hj : j ≤ 8) (hn : noM F i j) (ht : ∀ g, i ≤ g → t g = q0 g) (hq : cndS F LS P q0 q) : (LTf j t q ↔ LTf i t q) ∧ (EQf j t q ↔ EQf i t q) := by
  have hge : ∀ g, i ≤ g → g < j → q g = t g := fun g h1 h2 => by rw [hq.2.1 g (by omega) (hn g h1 h2), ht g h1]
  refine ⟨⟨fun ⟨k, hk, e, l⟩ => ?_, fun ⟨k, hk, e, l⟩ => ⟨k, by omega, e, l⟩⟩, ⟨fun h g hg => h g (by omega), fun h g hg => ?_⟩⟩
  · by_cases hki : k < i
    · exact ⟨k, hki, e, l⟩
    · have := hge k (by omega) hk; omega
  · by_cases hgi : g < i
    · exact h g hgi
    · exact hge g (by omega) hg
/-- a loop over one field (8: over none) -/
def svF (m : Nat) (t : Nat → Nat) (v : Nat) : Nat → Nat := if m < 8 then stF t m v else t
def LvF (m : Nat) (t : Nat → Nat) (v : Nat) (q : Nat → Nat) : Prop := if m < 8 then LTf (m + 1) (stF t m v) q else (LTf 8 t q ∨ (0 < v ∧ EQf 8 t q))
def NvF (m : Nat) : Nat := if m < 8 then 21 else 1
theorem Lv_0 {m : Nat} {t q : Nat → Nat} (hm : m ≤ 8) : LvF m t 0 q ↔ LTf m t q := by
  unfold LvF
  by_cases h : m < 8
  · rw [if_pos h, LT_st]
    exact ⟨fun z => z.elim id (fun z => absurd z.2 (Nat.not_lt_zero _)), Or.inl⟩
  · have : m = 8 := by omega
    subst this
    rw [if_neg h]
    exact ⟨fun z => z.elim id (fun z => absurd z.1 (Nat.lt_irrefl _)), Or.inl⟩
theorem Lv_N {F : FS} (hW : WFF F) {LS : List (List Tk)} {P : List (List Tk × Nat)} {q0 t q : Nat → Nat} {m : Nat} (hm : m ≤ 8) (hq : cndS F LS P q0 q) : LvF m t (NvF m) q ↔ (LTf m t q ∨ EQf m t q) := by
  unfold LvF NvF
  by_cases h : m < 8
  · rw [if_pos h, if_pos h, LT_st]
    have h1 := (hq.2.2.1 m h).2
    have h2 := (hW.1 m h).2.2.1
    exact ⟨fun z => z.elim Or.inl (fun z => Or.inr z.1), fun z => z.elim Or.inl (fun z => Or.inr ⟨z, by omega⟩)⟩
  · have : m = 8 := by omega
    subst this
    rw [if_neg h, if_neg h]
    exact ⟨fun z => z.elim Or.inl (fun z => Or.inr z.2), fun z => z.elim Or.inl (fun z => Or.inr ⟨by decide, z⟩)⟩
theorem sv_q0 {m : Nat} {t q0 : Nat → Nat} {v : Nat} (ht : ∀ g, m ≤ g → t g = q0 g) : ∀ g, m + 1 ≤ g → svF m t v g = q0 g := fun g hg => by
  unfold svF
  split
  · rw [stF_n (by omega)]; exact ht g (by omega)
  · exact ht g (by omega)
theorem Lv_s {F : FS} {LS : List (List Tk)} {P : List (List Tk × Nat)} {q0 t q : Nat → Nat} {m m' v : Nat} (hm : m ≤ 8) (hm' : m' ≤ 8) (hg : (m < 8 ∧ m + 1 ≤ m' ∧ noM F (m + 1) m') ∨ (m = 8 ∧ m' = 8)) (ht : ∀ g, m ≤ g → t g = q0 g) (hv : v < NvF m) (hq : cndS F LS P q0 q) : (LTf m' (svF m t v) q ↔ LvF m t v q) ∧ ((LTf m' (svF m t v) q ∨ EQf m' (svF m t v) q) ↔ LvF m t (v + 1) q) := by
  have hs := sv_q0 (v := v) ht
  unfold NvF at hv
  rcases hg with ⟨h8, h1, hn⟩ | ⟨rfl, rfl⟩
  · obtain ⟨g1, g2⟩ := LT_gap h1 hm' hn hs hq
    rw [g1, g2]
    unfold LvF svF
    rw [if_pos h8, if_pos h8, if_pos h8]
    exact ⟨Iff.rfl, LT_stn⟩
  · rw [if_neg (by decide)] at hv
    have : v = 0 := by omega
    subst this
    unfold LvF svF
    rw [if_neg (by decide), if_neg (by decide), if_neg (by decide)]
    exact ⟨⟨Or.inl, fun z => z.elim id (fun z => absurd z.1 (Nat.lt_irrefl _))⟩, ⟨fun z => z.elim Or.inl (fun z => Or.inr ⟨by decide, z⟩), fun z => z.elim Or.inl (fun z => Or.inr z.2)⟩⟩
