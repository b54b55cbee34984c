def bxQ (q r : Nat → Nat) (f : Nat) : Int × Int := ((q f : Int), (r f : Int))
def edQ (x y : Int64) : Prop := prS x ∧ prS y ∧ whS (prQ x) 8 ∧ whS (prQ y) 8 ∧ ∀ f, f < 8 → prQ x f ≤ prQ y f
/-- ENDS -/
noncomputable def edA (P : List (List Tk × Nat)) (x y : Int64) : Int32 := @ite _ (edQ x y) (Classical.propDecidable _) (if P = [] then -103 else nI (enS (bxQ (prQ x) (prQ y)) 0 P)) (-102)
theorem edA_y {P : List (List Tk × Nat)} {x y : Int64} (h : edQ x y) : edA P x y = if P = [] then -103 else nI (enS (bxQ (prQ x) (prQ y)) 0 P) := @if_pos _ (Classical.propDecidable _) h _ _ _
theorem edA_n {P : List (List Tk × Nat)} {x y : Int64} (h : ¬ edQ x y) : edA P x y = -102 := @if_neg _ (Classical.propDecidable _) h _ _ _
def FmEd (A A' : FI) : Prop := (∀ g, g ≠ 12 → g ≠ 25 → g ≠ 30 → A' g = A g) ∧ ∀ i, i ≠ 26 → i ≠ 27 → A' 25 i = A 25 i
abbrev edL (x y : Int64) (k : Nat) : List (Option AV) := [some (.inr (.inr (some (0, 0)))), some (.inr (.inl x)), none, some (.inr (.inl y)), none, some (.inl (nI k))]
theorem l_endsC {q r : Nat → Nat} {x y : Int64} {B : FJ} {A0 : FI} {Q : Option AV → AH → Prop} (hw1 : whS q 8) (hw2 : whS r 8) (hq : RPn 26 A0 q) (hr : RPn 27 A0 r) (kbad : (¬ ∀ f, f < 8 → q f ≤ r f) → ∀ A', (∀ g, g ≠ 30 → A' g = A0 g) → Q (some (.inl (-102))) (hp A' B)) (kend : ∀ A', (∀ f, f < 8 → q f ≤ r f ∧ A' 30 0 (2 * f) = nI (q f) ∧ A' 30 0 (2 * f + 1) = nI (r f)) → (∀ g, g ≠ 30 → A' g = A0 g) → Rn 5 mtX11_ends 48 (edL x y 8) [] (hp A' B) Q) : ∀ (m k : Nat) (A : FI), k + m = 8 → (∀ g, g ≠ 30 → A g = A0 g) → (∀ f, f < k → q f ≤ r f ∧ A 30 0 (2 * f) = nI (q f) ∧ A 30 0 (2 * f + 1) = nI (r f)) → Rn 5 mtX11_ends 48 (edL x y k) [] (hp A B) Q := by
  intro m
  induction m with
  | zero =>
    intro k A hk hF h
    have : k = 8 := by omega
    subst this
    exact kend A h hF
  | succ m ih =>
    intro k A hk hF h
    have hk8 : k < 8 := by omega
    have tk := ti k (by omega)
    have n1 := hw1 k hk8
    have n2 := hw2 k hk8
    have b1 := (hq k hk8).2
    have b2' := (hr k hk8).2
    have tq := ti (q k) (by omega)
    have tr := ti (r k) (by omega)
    have hnq : ∀ A' : FI, (∀ g, g ≠ 30 → A' g = A0 g) → MV 1 1 mtX6_number [.inr (.inr (some (24, 26))), .inl (nI k)] (hp A' B) (Ret (some (.inl (nI (q k)))) (hp A' B)) := fun A' hA => by
      have := m_numP (p := 26) (A := A') (B := B) (q := q) (fun f hf => by rw [hA 25 (by decide)]; exact hq f hf) k hk8
      rwa [if_neg n1] at this
    have hnr : ∀ A' : FI, (∀ g, g ≠ 30 → A' g = A0 g) → MV 1 1 mtX6_number [.inr (.inr (some (24, 27))), .inl (nI k)] (hp A' B) (Ret (some (.inl (nI (r k)))) (hp A' B)) := fun A' hA => by
      have := m_numP (p := 27) (A := A') (B := B) (q := r) (fun f hf => by rw [hA 25 (by decide)]; exact hr f hf) k hk8
      rwa [if_neg n2] at this
    have i1 : (2 : Int32) * nI k = nI (2 * k) := pk_mul 2 k
    have i2 : nI (2 * k) + 1 = nI (2 * k + 1) := nI_1 _
    have c1 : (nI (2 * k)).toNatClampNeg = 2 * k := nI_clamp (by omega)
    have c2 : (nI (2 * k + 1)).toNatClampNeg = 2 * k + 1 := nI_clamp (by omega)
    have hv1 : vp_in (nI (2 * k)) 16 := vpN (n := 16) (by omega) rfl
    have hv2 : vp_in (nI (2 * k + 1)) 16 := vpN (n := 16) (by omega) rfl
    refine R_go 9999 rfl rfl trivial ?_
    refine R_br rfl rfl (fun h => absurd h (by (simp only [i_eq, i_lt, i_le, Int32.reduceToInt, true_and, and_true, false_and, and_false, or_false, false_or, or_true, true_or, ne_eq] at *; first | done | omega))) (fun _ => ?_)
    refine R_go 9999 rfl rfl trivial ?_
    refine R_cvr rfl (hnq A hF) rfl rfl rfl rfl rfl (Nat.le_of_ble_eq_true rfl) rfl ?_
    refine R_go 9999 rfl rfl trivial ?_
    refine R_cvr rfl (hnr A hF) rfl rfl rfl rfl rfl (Nat.le_of_ble_eq_true rfl) rfl ?_
    by_cases hle : q k ≤ r k
    · refine R_br rfl rfl (fun _ => ?_) (fun h => absurd (by (simp only [i_eq, i_lt, i_le, Int32.reduceToInt, true_and, and_true, false_and, and_false, or_false, false_or, or_true, true_or, ne_eq] at *; first | done | omega)) h)
      refine R_go 9999 rfl rfl trivial ?_
      refine R_cvr rfl (hnq A hF) rfl rfl rfl rfl rfl (Nat.le_of_ble_eq_true rfl) rfl ?_
      refine R_go 9999 rfl rfl (by rw [i1]; exact hv1) ?_
      rw [i1, c1]
      have hF1 : ∀ g, g ≠ 30 → up3 A 30 0 (2 * k) (nI (q k)) g = A0 g := fun g hg => by rw [up3_g hg]; exact hF g hg
      refine R_cvr rfl (hnr _ hF1) rfl rfl rfl rfl rfl (Nat.le_of_ble_eq_true rfl) rfl ?_
      refine R_go 48 rfl rfl (by rw [i2]; exact hv2) ?_
      rw [i2, c2, nI_1]
      refine ih (k + 1) _ (by omega) (fun g hg => by rw [up3_g hg]; exact hF1 g hg) (fun f hf => ?_)
      by_cases hfk : f = k
      · subst hfk
        exact ⟨hle, by rw [up3_s (by omega), up3_self], up3_self⟩
      · obtain ⟨g1, g2, g3⟩ := h f (by omega)
        exact ⟨g1, by rw [up3_s (by omega), up3_s (by omega)]; exact g2, by rw [up3_s (by omega), up3_s (by omega)]; exact g3⟩
    · refine R_br rfl rfl (fun h => absurd h (by (simp only [i_eq, i_lt, i_le, Int32.reduceToInt, true_and, and_true, false_and, and_false, or_false, false_or, or_true, true_or, ne_eq] at *; first | done | omega))) (fun _ => ?_)
      refine R_go 9999 rfl rfl trivial ?_
      refine R_ri rfl rfl ?_
      exact kbad (fun z => hle (z k hk8)) A hF
theorem prQ_b {p : Nat} {A : FI} {x : Int64} (h : RPn p A (prQ x)) (hw : whS (prQ x) 8) (f : Nat) (hf : f < 8) : prQ x f ≤ 20 := by
  have := (h f hf).2
  have := hw f hf
  omega
theorem bxQ_99 {q r : Nat → Nat} (h1 : ∀ f, f < 8 → q f ≤ 20) (h2 : ∀ f, f < 8 → r f ≤ 20) (h : ∀ f, f < 8 → q f ≤ r f) : b99 (bxQ q r) := fun f hf => by
  have := h1 f hf
  have := h2 f hf
  have := h f hf
  show -99 ≤ (q f : Int) ∧ (q f : Int) ≤ (r f : Int) ∧ (r f : Int) ≤ 99
  omega
theorem m_endsC {P : List (List Tk × Nat)} {A : FI} {B : FJ} (x y : Int64) (hP : okG P) (hS : RS 6 A P []) : MV 5 2 mtX11_ends [.inr (.inr (some (0, 0))), .inr (.inl x), .inr (.inl y)] (hp A B) (fun r h' => ∃ A' B', h' = hp A' B' ∧ r = some (.inl (edA P x y)) ∧ FmEd A A' ∧ FmJ [13, 14] B B') := by
  refine MV_of caX11_ends (L := [some (.inr (.inr (some (0, 0)))), some (.inr (.inl x)), none, some (.inr (.inl y)), none, none]) rfl rfl ?_
  refine R_go 9999 rfl rfl trivial ?_
  refine R_cv rfl (m_read (p := 26) x) rfl rfl rfl rfl rfl (Nat.le_of_ble_eq_true rfl) rfl ?_
  rintro r h' ⟨A1, rfl, hF1, ⟨hpx, rfl, hq⟩ | ⟨hpx, rfl⟩⟩
  · refine R_br rfl rfl (fun h => absurd h (by decide)) (fun _ => ?_)
    refine R_go 9999 rfl rfl trivial ?_
    refine R_cv rfl (m_read (p := 27) y) rfl rfl rfl rfl rfl (Nat.le_of_ble_eq_true rfl) rfl ?_
    rintro r h' ⟨A2, rfl, hF2, ⟨hpy, rfl, hr⟩ | ⟨hpy, rfl⟩⟩
    · have hq2 : RPn 26 A2 (prQ x) := fun f hf => by rw [hF2.2 25 26 (by decide)]; exact hq f hf
      have hFd : FmEd A A2 := ⟨fun g h1 h2 h3 => (hF2.1 g (by simp; exact h2)).trans (hF1.1 g (by simp; exact h2)), fun i h1 h2 => (hF2.2 25 i h2).trans (hF1.2 25 i h1)⟩
      have hS2 : RS 6 A2 P [] := RS_fr hS (by rw [hFd.1 4 (by decide) (by decide) (by decide)]) (by rw [hFd.1 5 (by decide) (by decide) (by decide)]) (by rw [hFd.1 6 (by decide) (by decide) (by decide)])
      have hw1 := m_isWholeP (B := B) hq2
      have hw2 := m_isWholeP (B := B) hr
      refine R_br rfl rfl (fun h => absurd h (by decide)) (fun _ => ?_)
      refine R_go 9999 rfl rfl trivial ?_
      refine R_cvr rfl hw1 rfl rfl rfl rfl rfl (Nat.le_of_ble_eq_true rfl) rfl ?_
      rcases Classical.em (whS (prQ x) 8) with w1 | w1
      · rw [b2_1 w1]
        refine R_br rfl rfl (fun h => absurd h (by decide)) (fun _ => ?_)
        refine R_go 9999 rfl rfl trivial ?_
        refine R_cvr rfl hw2 rfl rfl rfl rfl rfl (Nat.le_of_ble_eq_true rfl) rfl ?_
        rcases Classical.em (whS (prQ y) 8) with w2 | w2
        · rw [b2_1 w2]
          refine R_br rfl rfl (fun h => absurd h (by decide)) (fun _ => ?_)
          refine R_go 48 rfl rfl trivial ?_
          refine l_endsC w1 w2 hq2 hr (fun hb A' hA' => ?_) (fun A' hk hA' => ?_) 8 0 A2 rfl (fun g hg => rfl) (fun f hf => by omega)
          · refine ⟨A', B, rfl, by rw [edA_n (fun z => hb z.2.2.2.2)], ⟨fun g h1 h2 h3 => (hA' g h3).trans (hFd.1 g h1 h2 h3), fun i h1 h2 => by rw [hA' 25 (by decide)]; exact hFd.2 i h1 h2⟩, FmJ_rf⟩
          · have hle : ∀ f, f < 8 → prQ x f ≤ prQ y f := fun f hf => (hk f hf).1
            have hed : edQ x y := ⟨hpx, hpy, w1, w2, hle⟩
            have b1 := prQ_b hq2 w1
            have b2' := prQ_b hr w2
            have hFd' : FmEd A A' := ⟨fun g h1 h2 h3 => (hA' g h3).trans (hFd.1 g h1 h2 h3), fun i h1 h2 => by rw [hA' 25 (by decide)]; exact hFd.2 i h1 h2⟩
            have hS' : RS 6 A' P [] := RS_fr hS (by rw [hFd'.1 4 (by decide) (by decide) (by decide)]) (by rw [hFd'.1 5 (by decide) (by decide) (by decide)]) (by rw [hFd'.1 6 (by decide) (by decide) (by decide)])
            have hhp := m_hasProgram (B := B) hS' (okG_len hP)
            have hsb : SBx 30 0 A' (bxQ (prQ x) (prQ y)) := fun f hf => by
              obtain ⟨-, k1, k2⟩ := hk f hf
              rw [Nat.zero_add, k1, k2]
              have := b1 f hf
              have := b2' f hf
              exact ⟨ti _ (by omega), ti _ (by omega)⟩
            rw [edA_y hed]
            refine R_go 9999 rfl rfl trivial ?_
            refine R_br rfl rfl (fun _ => ?_) (fun h => absurd (by decide) h)
            refine R_go 9999 rfl rfl trivial ?_
            refine R_cvr rfl hhp rfl rfl rfl rfl rfl (Nat.le_of_ble_eq_true rfl) rfl ?_
            by_cases hPe : P = []
            · rw [if_pos hPe, isE.2 hPe]
              refine R_br rfl rfl (fun _ => ?_) (fun h => absurd rfl h)
              refine R_go 9999 rfl rfl trivial ?_
              refine R_ri rfl rfl ?_
              exact ⟨A', B, rfl, rfl, hFd', FmJ_rf⟩
            · rw [if_neg hPe, isE.1 hPe]
              have heo := m_endsOver (B := B) (s := 6) (g := 30) (fr := 0) (Or.inr ⟨rfl, Nat.le_refl _⟩) (bxQ_99 b1 b2' hle) hsb (okG_ne hP hPe) hS'
              refine R_br rfl rfl (fun h => absurd h (by decide)) (fun _ => ?_)
              refine R_go 9999 rfl rfl trivial ?_
              refine R_cv rfl heo rfl rfl rfl rfl rfl (Nat.le_of_ble_eq_true rfl) rfl ?_
              rintro r h' ⟨A3, B3, rfl, rfl, hF3, hJ3⟩
              refine R_ri rfl rfl ?_
              refine ⟨A3, B3, rfl, rfl, ⟨fun g h1 h2 h3 => (hF3.1 g h1 (by simp)).trans (hFd'.1 g h1 h2 h3), fun i h1 h2 => by rw [hF3.1 25 (by decide) (by simp)]; exact hFd'.2 i h1 h2⟩, hJ3⟩
        · rw [b2_0 w2]
          refine R_br rfl rfl (fun _ => ?_) (fun h => absurd rfl h)
          refine R_go 9999 rfl rfl trivial ?_
          refine R_ri rfl rfl ?_
          exact ⟨A2, B, rfl, by rw [edA_n (fun z => w2 z.2.2.2.1)], hFd, FmJ_rf⟩
      · rw [b2_0 w1]
        refine R_br rfl rfl (fun _ => ?_) (fun h => absurd rfl h)
        refine R_go 9999 rfl rfl trivial ?_
        refine R_ri rfl rfl ?_
        exact ⟨A2, B, rfl, by rw [edA_n (fun z => w1 z.2.2.1)], hFd, FmJ_rf⟩
    · have hFd : FmEd A A2 := ⟨fun g h1 h2 h3 => (hF2.1 g (by simp; exact h2)).trans (hF1.1 g (by simp; exact h2)), fun i h1 h2 => (hF2.2 25 i h2).trans (hF1.2 25 i h1)⟩
      refine R_br rfl rfl (fun _ => ?_) (fun h => absurd rfl h)
      refine R_go 9999 rfl rfl trivial ?_
      refine R_ri rfl rfl ?_
      exact ⟨A2, B, rfl, by rw [edA_n (fun z => hpy z.2.1)], hFd, FmJ_rf⟩
  · have hFd : FmEd A A1 := ⟨fun g h1 h2 h3 => hF1.1 g (by simp; exact h2), fun i h1 h2 => hF1.2 25 i h1⟩
    refine R_br rfl rfl (fun _ => ?_) (fun h => absurd rfl h)
    refine R_go 9999 rfl rfl trivial ?_
    refine R_ri rfl rfl ?_
    exact ⟨A1, B, rfl, by rw [edA_n (fun z => hpx z.1)], hFd, FmJ_rf⟩
