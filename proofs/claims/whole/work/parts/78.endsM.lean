abbrev edM (x y : Int64) (o5 o6 : Option AV) : List (Option AV) := [some (.inr (.inr (some (31, 0)))), some (.inr (.inl x)), none, some (.inr (.inl y)), none, o5, o6]
theorem l_ed1 {x y : Int64} {B : FJ} {A0 : FI} {w : Int32} {Q : Option AV → AH → Prop} (kend : ∀ A', FmO 31 [55] [] A0 A' → (∀ f, f < 8 → A' 55 0 (4 * f) = A0 52 0 f) → Rn 3 mtX12_ends 39 (edM x y (some (.inl w)) (some (.inl (nI 8)))) [] (hp A' B) Q) : ∀ (m k : Nat) (A : FI), k + m = 8 → FmO 31 [55] [] A0 A → (∀ f, f < k → A 55 0 (4 * f) = A0 52 0 f) → Rn 3 mtX12_ends 10 (edM x y (some (.inl w)) (some (.inl (nI k)))) [] (hp A B) Q := by
  intro m
  induction m with
  | zero =>
    intro k A hk hF h
    have : k = 8 := by omega
    subst this
    refine R_go 9999 rfl rfl trivial ?_
    refine R_br rfl rfl (fun _ => ?_) (fun h => absurd (by decide) h)
    exact kend A hF h
  | succ m ih =>
    intro k A hk hF h
    have tk := ti k (by omega)
    have ck : (nI k).toNatClampNeg = k := nI_clamp (by omega)
    have i1 : (4 : Int32) * nI k = nI (4 * k) := pk_mul 4 k
    have c1 : (nI (4 * k)).toNatClampNeg = 4 * k := nI_clamp (by omega)
    have hvk : vp_in (nI k) 8 := vpN (n := 8) (by omega) rfl
    have hv1 : vp_in (nI (4 * k)) 32 := vpN (n := 32) (by omega) rfl
    have e52 : A 52 0 k = A0 52 0 k := by rw [hF.1 52 (by decide) (by decide)]
    refine R_go 9999 rfl rfl trivial ?_
    refine R_br rfl rfl (fun h => absurd h (by (simp only [i_eq, i_lt, i_le, Int32.reduceToInt, true_and, and_true, false_and, and_false, or_false, false_or, or_true, true_or, ne_eq] at *; first | done | omega))) (fun _ => ?_)
    refine R_go 10 rfl rfl (by rw [i1]; exact ⟨hv1, hvk⟩) ?_
    rw [i1, c1, ck, e52, nI_1]
    refine ih (k + 1) _ (by omega) (FmO_tr hF (by first | exact FmO_rf | (repeat' (first | exact FmO_rf | (with_reducible assumption) | (refine FmO_up ?_ (by decide)) | (refine FmO_ug ?_ (by decide) (by decide)))))) (fun f hf => ?_)
    by_cases hfk : f = k
    · subst hfk
      exact up3_self
    · rw [up3_s (by omega)]
      exact h f (by omega)
def okE (c : Prop) (lo hi : Nat → Int32) (k : Nat) : Prop := c ∧ ∀ f, f < k → lo f ≤ hi f ∧ hi f ≠ 99
theorem okE_s {c : Prop} {lo hi : Nat → Int32} {k : Nat} : okE c lo hi (k + 1) ↔ okE c lo hi k ∧ lo k ≤ hi k ∧ hi k ≠ 99 := by
  constructor
  · intro h
    exact ⟨⟨h.1, fun f hf => h.2 f (by omega)⟩, h.2 k (by omega)⟩
  · intro h
    refine ⟨h.1.1, fun f hf => ?_⟩
    by_cases e : f = k
    · subst e; exact h.2
    · exact h.1.2 f (by omega)
theorem l_ed2 {x y : Int64} {B : FJ} {A0 : FI} {c : Prop} {lo hi : Nat → Int32} {Q : Option AV → AH → Prop} (h52 : ∀ f, f < 8 → A0 52 0 f = hi f) (kend : ∀ A', FmO 31 [55] [] A0 A' → (∀ f, f < 8 → A' 55 0 (4 * f) = lo f) → (∀ f, f < 8 → A' 55 0 (4 * f + 1) = hi f) → Rn 3 mtX12_ends 136 (edM x y (some (.inl (b2 (okE c lo hi 8)))) (some (.inl (nI 8)))) [] (hp A' B) Q) : ∀ (m k : Nat) (A : FI), k + m = 8 → FmO 31 [55] [] A0 A → (∀ f, f < 8 → A 55 0 (4 * f) = lo f) → (∀ f, f < k → A 55 0 (4 * f + 1) = hi f) → Rn 3 mtX12_ends 62 (edM x y (some (.inl (b2 (okE c lo hi k)))) (some (.inl (nI k)))) [] (hp A B) Q := by
  intro m
  induction m with
  | zero =>
    intro k A hk hF h1 h
    have : k = 8 := by omega
    subst this
    refine R_go 9999 rfl rfl trivial ?_
    refine R_br rfl rfl (fun _ => ?_) (fun h => absurd (by decide) h)
    exact kend A hF h1 h
  | succ m ih =>
    intro k A hk hF h1 h
    have tk := ti k (by omega)
    have ck : (nI k).toNatClampNeg = k := nI_clamp (by omega)
    have i1 : (4 : Int32) * nI k = nI (4 * k) := pk_mul 4 k
    have i2 : nI (4 * k) + 1 = nI (4 * k + 1) := nI_1 _
    have c1 : (nI (4 * k)).toNatClampNeg = 4 * k := nI_clamp (by omega)
    have c2 : (nI (4 * k + 1)).toNatClampNeg = 4 * k + 1 := nI_clamp (by omega)
    have hvk : vp_in (nI k) 8 := vpN (n := 8) (by omega) rfl
    have hv1 : vp_in (nI (4 * k)) 32 := vpN (n := 32) (by omega) rfl
    have hv2 : vp_in (nI (4 * k + 1)) 32 := vpN (n := 32) (by omega) rfl
    have e52 : A 52 0 k = hi k := by rw [hF.1 52 (by decide) (by decide)]; exact h52 k (by omega)
    have f52 : up3 A 55 0 (4 * k + 1) (hi k) 52 0 k = hi k := by rw [up3_g (by decide)]; exact e52
    have f55 : up3 A 55 0 (4 * k + 1) (hi k) 55 0 (4 * k) = lo k := by rw [up3_s (by omega)]; exact h1 k (by omega)
    have nxt : ∀ v, v = b2 (okE c lo hi (k + 1)) → Rn 3 mtX12_ends 62 (edM x y (some (.inl v)) (some (.inl (nI (k + 1))))) [] (hp (up3 A 55 0 (4 * k + 1) (hi k)) B) Q := by
      intro v hv
      subst hv
      refine ih (k + 1) _ (by omega) (FmO_tr hF (by first | exact FmO_rf | (repeat' (first | exact FmO_rf | (with_reducible assumption) | (refine FmO_up ?_ (by decide)) | (refine FmO_ug ?_ (by decide) (by decide)))))) (fun f hf => by rw [up3_s (by omega)]; exact h1 f hf) (fun f hf => ?_)
      by_cases hfk : f = k
      · subst hfk
        exact up3_self
      · rw [up3_s (by omega)]
        exact h f (by omega)
    refine R_go 9999 rfl rfl trivial ?_
    refine R_br rfl rfl (fun h => absurd h (by (simp only [i_eq, i_lt, i_le, Int32.reduceToInt, true_and, and_true, false_and, and_false, or_false, false_or, or_true, true_or, ne_eq] at *; first | done | omega))) (fun _ => ?_)
    refine R_go 9999 rfl rfl (by rw [i1, i2]; exact ⟨hv2, hvk⟩) ?_
    rw [i1, i2, c2, ck, e52]
    rcases Classical.em (okE c lo hi k) with g | g
    · rw [b2_1 g]
      refine R_br rfl rfl (fun h => absurd h (by decide)) (fun _ => ?_)
      refine R_go 9999 rfl rfl (by rw [i1]; exact ⟨hvk, hv1⟩) ?_
      rw [i1, c1, ck, f52, f55]
      by_cases g2 : lo k ≤ hi k
      · refine R_br rfl rfl (fun h => absurd h (by (simp only [i_eq, i_lt, i_le, Int32.reduceToInt, true_and, and_true, false_and, and_false, or_false, false_or, or_true, true_or, ne_eq] at *; first | done | omega))) (fun _ => ?_)
        refine R_go 9999 rfl rfl hvk ?_
        rw [ck, f52]
        by_cases g3 : hi k = 99
        · refine R_br rfl rfl (fun _ => ?_) (fun h => absurd g3 h)
          refine R_go 62 rfl rfl trivial ?_
          rw [nI_1]
          exact nxt _ (by rw [b2_0 (fun z => (okE_s.mp z).2.2 g3)])
        · refine R_br rfl rfl (fun h => absurd h g3) (fun _ => ?_)
          refine R_go 62 rfl rfl trivial ?_
          rw [nI_1]
          exact nxt _ (by rw [b2_1 (okE_s.mpr ⟨g, g2, g3⟩)])
      · refine R_br rfl rfl (fun _ => ?_) (fun h => absurd (by (simp only [i_eq, i_lt, i_le, Int32.reduceToInt, true_and, and_true, false_and, and_false, or_false, false_or, or_true, true_or, ne_eq] at *; first | done | omega)) h)
        refine R_go 62 rfl rfl trivial ?_
        rw [nI_1]
        exact nxt _ (by rw [b2_0 (fun z => g2 (okE_s.mp z).2.1)])
    · rw [b2_0 g]
      refine R_br rfl rfl (fun _ => ?_) (fun h => absurd rfl h)
      refine R_go 62 rfl rfl trivial ?_
      rw [nI_1]
      exact nxt _ (by rw [b2_0 (fun z => g (okE_s.mp z).1)])
