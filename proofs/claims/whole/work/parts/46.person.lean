theorem lN_tn {n : Nat} (h : n < 2 ^ 63) : (lN n).toInt = n := by
  exact Int64.toInt_ofNat_of_lt h
theorem j_div {a b : Nat} (ha : a < 2 ^ 63) (hb : b < 2 ^ 63) : lN a / lN b = lN (a / b) := by
  apply Int64.toInt_inj.mp
  have h1 := lN_tn ha
  have h2 := lN_tn hb
  have h3 : a / b < 2 ^ 63 := Nat.lt_of_le_of_lt (Nat.div_le_self a b) ha
  rw [Int64.toInt_div, h1, h2, lN_tn h3, Int.tdiv_eq_ediv_of_nonneg (by omega), ← Int.natCast_ediv]
  generalize a / b = c at *
  exact Int.bmod_eq_of_le (by omega) (by omega)
theorem j_rem {a b : Nat} (ha : a < 2 ^ 63) (hb : b < 2 ^ 63) : lN a - lN a / lN b * lN b = lN (a % b) := by
  rw [j_div ha hb, lN_mul, lN_sub (Nat.div_mul_le_self a b)]
  congr 1
  have := Nat.div_add_mod' a b
  omega
def fig (n f : Nat) : Nat := n / 100 ^ f % 100
def okF (v : Nat) : Prop := v ≤ 20 ∨ v = 99
def prS (x : Int64) : Prop := 0 ≤ x.toInt ∧ x.toInt < 10000000000000000 ∧ ∀ f, f < 8 → okF (fig x.toInt.toNat f)
def prQ (x : Int64) (f : Nat) : Nat := fig x.toInt.toNat f
theorem jn_of {x : Int64} (h : 0 ≤ x.toInt) : ∃ n, n < 2 ^ 63 ∧ x = lN n ∧ x.toInt = n := by
  have := x.toInt_lt
  refine ⟨x.toInt.toNat, by omega, ?_, by omega⟩
  apply Int64.toInt_inj.mp
  rw [lN_tn (by omega)]
  omega
theorem fig_s (n k : Nat) : n / 100 ^ k / 100 = n / 100 ^ (k + 1) := by rw [Nat.div_div_eq_div_mul, Nat.pow_succ]
def PRd (p : Nat) (A : FI) (B : FJ) (x : Int64) : Option AV → AH → Prop := fun r h' => ∃ A', h' = hp A' B ∧ Fi [25] p A A' ∧ ((prS x ∧ r = some (.inl 1) ∧ RPn p A' (prQ x)) ∨ (¬ prS x ∧ r = some (.inl 0)))
theorem l_read {p : Nat} {B : FJ} {A0 : FI} {x : Int64} {n : Nat} (hx : x = lN n) (hn : n < 10000000000000000) : ∀ (j k : Nat) (A : FI), k + j = 8 → Fi [25] p A0 A → (∀ f, f < k → A 25 p f = (if fig n f = 99 then -1 else nI (fig n f)) ∧ okF (fig n f)) → ∀ o, Rn 0 mtX6_read 21 [some (.inr (.inr (some (24, p)))), some (.inr (.inl x)), none, some (.inr (.inl (lN (n / 100 ^ k)))), none, some (.inl (nI k)), o] [] (hp A B) (PRd p A0 B x) := by
  have hxi : x.toInt = n := by rw [hx, lN_tn (by omega)]
  intro j
  induction j with
  | zero =>
    intro k A hk hF hA o
    have : k = 8 := by omega
    subst this
    repeat' (first
        | (refine R_br rfl rfl (fun hbr => absurd hbr (by first | decide | (with_reducible assumption))) (fun _ => ?_))
        | (refine R_br rfl rfl (fun _ => ?_) (fun hbr => absurd (by first | decide | (with_reducible assumption)) hbr))
        | (refine R_br rfl rfl (fun _ => ?_) (fun _ => ?_))
        | (refine R_ri rfl rfl ?_)
        | (refine R_rz rfl rfl (Or.inl rfl) ?_)
        | (refine R_rz rfl rfl (Or.inr rfl) ?_)
        | (refine R_rz rfl rfl (b2_01 _) ?_)
        | (refine R_rl rfl rfl ?_)
        | (refine R_rv rfl rfl ?_)
        | (refine R_sw _ rfl rfl rfl ?_)
        | (refine R_go 9999 rfl rfl trivial ?_)
        | (refine R_go 9999 rfl rfl (by first | (show _ ∨ _; decide) | (show (_ ∨ _) ∧ (_ ∨ _); decide) | (show (_ ∨ _) ∧ (_ ∨ _) ∧ (_ ∨ _); decide)) ?_)
        | (refine R_go 9999 rfl rfl ?_ ?_))
    refine ⟨A, rfl, hF, Or.inl ⟨⟨by omega, by omega, fun f hf => by rw [show x.toInt.toNat = n by omega]; exact (hA f hf).2⟩, rfl, fun f hf => ?_⟩⟩
    unfold prQ
    rw [show x.toInt.toNat = n by omega]
    exact hA f hf
  | succ j ih =>
    intro k A hk hF hA o
    have tk := ti k (by omega)
    have ck : (nI k).toNatClampNeg = k := nI_clamp (by omega)
    have hm : n / 100 ^ k < 2 ^ 63 := Nat.lt_of_le_of_lt (Nat.div_le_self _ _) (by omega)
    have e1 : (lN (n / 100 ^ k) - lN (n / 100 ^ k) / 100 * 100).toInt32 = nI (fig n k) := by
      rw [show (100 : Int64) = lN 100 from rfl, j_rem hm (by decide), lN_i]; rfl
    have e2 : lN (n / 100 ^ k) / 100 = lN (n / 100 ^ (k + 1)) := by
      rw [show (100 : Int64) = lN 100 from rfl, j_div hm (by decide), fig_s]
    have hfl : fig n k < 100 := Nat.mod_lt _ (by decide)
    have tf := ti (fig n k) (by omega)
    have hv : vp_in (nI k) 8 := vpN (n := 8) (by omega) rfl
    have hgo : okF (fig n k) → ∀ w, w = (if fig n k = 99 then -1 else nI (fig n k)) → ∀ o, Rn 0 mtX6_read 21 [some (.inr (.inr (some (24, p)))), some (.inr (.inl x)), none, some (.inr (.inl (lN (n / 100 ^ (k + 1))))), none, some (.inl (nI (k + 1))), o] [] (hp (up3 A 25 p k w) B) (PRd p A0 B x) := by
      intro hok w hw o
      refine ih (k + 1) _ (by omega) (Fi_up hF (by decide)) (fun f hf => ?_) o
      by_cases e : f = k
      · subst e; rw [up3_self]; exact ⟨hw, hok⟩
      · rw [up3_s e]; exact hA f (by omega)
    refine R_go 9999 rfl rfl trivial ?_
    refine R_br rfl rfl (fun h => absurd h (by (simp only [i_eq, i_lt, i_le, Int32.reduceToInt, true_and, and_true, false_and, and_false, or_false, false_or, or_true, true_or, ne_eq] at *; first | done | omega))) (fun _ => ?_)
    refine R_go 9999 rfl rfl (show ¬ (100 : Int64) = 0 by decide) ?_
    rw [e1]
    by_cases h20 : fig n k ≤ 20
    · have n99 : ¬ nI (fig n k) = 99 := by (simp only [i_eq, i_lt, i_le, Int32.reduceToInt, true_and, and_true, false_and, and_false, or_false, false_or, or_true, true_or, ne_eq] at *; first | done | omega)
      refine R_br rfl rfl (fun _ => ?_) (fun h => absurd (by (simp only [i_eq, i_lt, i_le, Int32.reduceToInt, true_and, and_true, false_and, and_false, or_false, false_or, or_true, true_or, ne_eq] at *; first | done | omega)) h)
      refine R_go 9999 rfl rfl trivial ?_
      refine R_br rfl rfl (fun h => absurd h n99) (fun _ => ?_)
      refine R_go 21 rfl rfl ⟨by decide, hv⟩ ?_
      rw [ck, e2, nI_1]
      exact hgo (Or.inl h20) _ (by rw [if_neg (by omega)]) _
    · by_cases h99 : fig n k = 99
      · have n99 : nI (fig n k) = 99 := by rw [h99]; rfl
        refine R_br rfl rfl (fun h => absurd h (by (simp only [i_eq, i_lt, i_le, Int32.reduceToInt, true_and, and_true, false_and, and_false, or_false, false_or, or_true, true_or, ne_eq] at *; first | done | omega))) (fun _ => ?_)
        refine R_go 9999 rfl rfl trivial ?_
        refine R_br rfl rfl (fun _ => ?_) (fun h => absurd n99 h)
        refine R_go 9999 rfl rfl trivial ?_
        refine R_br rfl rfl (fun _ => ?_) (fun h => absurd n99 h)
        refine R_go 21 rfl rfl ⟨by decide, hv⟩ ?_
        rw [ck, e2, nI_1]
        exact hgo (Or.inr h99) _ (by rw [if_pos h99]) _
      · have n99 : ¬ nI (fig n k) = 99 := by (simp only [i_eq, i_lt, i_le, Int32.reduceToInt, true_and, and_true, false_and, and_false, or_false, false_or, or_true, true_or, ne_eq] at *; first | done | omega)
        refine R_br rfl rfl (fun h => absurd h (by (simp only [i_eq, i_lt, i_le, Int32.reduceToInt, true_and, and_true, false_and, and_false, or_false, false_or, or_true, true_or, ne_eq] at *; first | done | omega))) (fun _ => ?_)
        refine R_go 9999 rfl rfl trivial ?_
        refine R_br rfl rfl (fun h => absurd h n99) (fun _ => ?_)
        repeat' (first
            | (refine R_br rfl rfl (fun hbr => absurd hbr (by first | decide | (with_reducible assumption))) (fun _ => ?_))
            | (refine R_br rfl rfl (fun _ => ?_) (fun hbr => absurd (by first | decide | (with_reducible assumption)) hbr))
            | (refine R_br rfl rfl (fun _ => ?_) (fun _ => ?_))
            | (refine R_ri rfl rfl ?_)
            | (refine R_rz rfl rfl (Or.inl rfl) ?_)
            | (refine R_rz rfl rfl (Or.inr rfl) ?_)
            | (refine R_rz rfl rfl (b2_01 _) ?_)
            | (refine R_rl rfl rfl ?_)
            | (refine R_rv rfl rfl ?_)
            | (refine R_sw _ rfl rfl rfl ?_)
            | (refine R_go 9999 rfl rfl trivial ?_)
            | (refine R_go 9999 rfl rfl (by first | (show _ ∨ _; decide) | (show (_ ∨ _) ∧ (_ ∨ _); decide) | (show (_ ∨ _) ∧ (_ ∨ _) ∧ (_ ∨ _); decide)) ?_)
            | (refine R_go 9999 rfl rfl ?_ ?_))
        refine ⟨A, rfl, hF, Or.inr ⟨fun hp => ?_, rfl⟩⟩
        have := hp.2.2 k (by omega)
        rw [show x.toInt.toNat = n by omega] at this
        unfold okF at this
        omega
theorem m_read {p : Nat} {A : FI} {B : FJ} (x : Int64) : MV 0 1 mtX6_read [.inr (.inr (some (24, p))), .inr (.inl x)] (hp A B) (PRd p A B x) := by
  refine MV_of caX6_read (L := [some (.inr (.inr (some (24, p)))), some (.inr (.inl x)), none, none, none, none, none]) rfl rfl ?_
  refine R_go 9999 rfl rfl trivial ?_
  by_cases h0 : x.toInt < 0
  · refine R_br rfl rfl (fun _ => ?_) (fun h => absurd (by rw [lg_cmp_lt, j_lt]; exact h0) h)
    repeat' (first
        | (refine R_br rfl rfl (fun hbr => absurd hbr (by first | decide | (with_reducible assumption))) (fun _ => ?_))
        | (refine R_br rfl rfl (fun _ => ?_) (fun hbr => absurd (by first | decide | (with_reducible assumption)) hbr))
        | (refine R_br rfl rfl (fun _ => ?_) (fun _ => ?_))
        | (refine R_ri rfl rfl ?_)
        | (refine R_rz rfl rfl (Or.inl rfl) ?_)
        | (refine R_rz rfl rfl (Or.inr rfl) ?_)
        | (refine R_rz rfl rfl (b2_01 _) ?_)
        | (refine R_rl rfl rfl ?_)
        | (refine R_rv rfl rfl ?_)
        | (refine R_sw _ rfl rfl rfl ?_)
        | (refine R_go 9999 rfl rfl trivial ?_)
        | (refine R_go 9999 rfl rfl (by first | (show _ ∨ _; decide) | (show (_ ∨ _) ∧ (_ ∨ _); decide) | (show (_ ∨ _) ∧ (_ ∨ _) ∧ (_ ∨ _); decide)) ?_)
        | (refine R_go 9999 rfl rfl ?_ ?_))
    exact ⟨A, rfl, Fi_rf, Or.inr ⟨fun hp => by have := hp.1; omega, rfl⟩⟩
  · refine R_br rfl rfl (fun h => absurd h (by rw [lg_cmp_lt, j_lt]; exact h0)) (fun _ => ?_)
    refine R_go 9999 rfl rfl trivial ?_
    by_cases h1 : x.toInt < 10000000000000000
    · refine R_br rfl rfl (fun _ => ?_) (fun h => absurd (by rw [lg_cmp_le, j_le]; simp only [Int64.reduceToInt]; omega) h)
      obtain ⟨n, hn, hx, hi⟩ := jn_of (x := x) (by omega)
      refine R_go 21 rfl rfl trivial ?_
      have := l_read (p := p) (B := B) (A0 := A) hx (by omega) 8 0 A rfl Fi_rf (fun f hf => by omega) none
      rw [show n / 100 ^ 0 = n by simp, ← hx] at this
      exact this
    · refine R_br rfl rfl (fun h => absurd h (by rw [lg_cmp_le, j_le]; simp only [Int64.reduceToInt]; omega)) (fun _ => ?_)
      repeat' (first
          | (refine R_br rfl rfl (fun hbr => absurd hbr (by first | decide | (with_reducible assumption))) (fun _ => ?_))
          | (refine R_br rfl rfl (fun _ => ?_) (fun hbr => absurd (by first | decide | (with_reducible assumption)) hbr))
          | (refine R_br rfl rfl (fun _ => ?_) (fun _ => ?_))
          | (refine R_ri rfl rfl ?_)
          | (refine R_rz rfl rfl (Or.inl rfl) ?_)
          | (refine R_rz rfl rfl (Or.inr rfl) ?_)
          | (refine R_rz rfl rfl (b2_01 _) ?_)
          | (refine R_rl rfl rfl ?_)
          | (refine R_rv rfl rfl ?_)
          | (refine R_sw _ rfl rfl rfl ?_)
          | (refine R_go 9999 rfl rfl trivial ?_)
          | (refine R_go 9999 rfl rfl (by first | (show _ ∨ _; decide) | (show (_ ∨ _) ∧ (_ ∨ _); decide) | (show (_ ∨ _) ∧ (_ ∨ _) ∧ (_ ∨ _); decide)) ?_)
          | (refine R_go 9999 rfl rfl ?_ ?_))
      exact ⟨A, rfl, Fi_rf, Or.inr ⟨fun hp => by have := hp.2.1; omega, rfl⟩⟩
def PTp (A : FI) (B : FJ) (x : Int64) : Option AV → AH → Prop := fun r h' => ∃ A', h' = hp A' B ∧ FmO 31 [52] [] A A' ∧ ((prS x ∧ r = some (.inl 1) ∧ RPm A' (prQ x)) ∨ (¬ prS x ∧ r = some (.inl 0)))
theorem l_takeBad {B : FJ} {A0 : FI} {x : Int64} (hx : ¬ prS x) : ∀ (j k : Nat) (A : FI) (y : Int64), k + j = 8 → FmO 31 [52] [] A0 A → Rn 1 mtX12_takePerson 18 [some (.inr (.inr (some (31, 0)))), some (.inr (.inl x)), none, some (.inr (.inl y)), none, some (.inl 0), some (.inl (nI k))] [] (hp A B) (PTp A0 B x) := by
  intro j
  induction j with
  | zero =>
    intro k A y hk hF
    have : k = 8 := by omega
    subst this
    repeat' (first
        | (refine R_br rfl rfl (fun hbr => absurd hbr (by first | decide | (with_reducible assumption))) (fun _ => ?_))
        | (refine R_br rfl rfl (fun _ => ?_) (fun hbr => absurd (by first | decide | (with_reducible assumption)) hbr))
        | (refine R_br rfl rfl (fun _ => ?_) (fun _ => ?_))
        | (refine R_ri rfl rfl ?_)
        | (refine R_rz rfl rfl (Or.inl rfl) ?_)
        | (refine R_rz rfl rfl (Or.inr rfl) ?_)
        | (refine R_rz rfl rfl (b2_01 _) ?_)
        | (refine R_rl rfl rfl ?_)
        | (refine R_rv rfl rfl ?_)
        | (refine R_sw _ rfl rfl rfl ?_)
        | (refine R_go 9999 rfl rfl trivial ?_)
        | (refine R_go 9999 rfl rfl (by first | (show _ ∨ _; decide) | (show (_ ∨ _) ∧ (_ ∨ _); decide) | (show (_ ∨ _) ∧ (_ ∨ _) ∧ (_ ∨ _); decide)) ?_)
        | (refine R_go 9999 rfl rfl ?_ ?_))
    exact ⟨A, rfl, hF, Or.inr ⟨hx, rfl⟩⟩
  | succ j ih =>
    intro k A y hk hF
    have tk := ti k (by omega)
    refine R_go 9999 rfl rfl trivial ?_
    refine R_br rfl rfl (fun h => absurd h (by (simp only [i_eq, i_lt, i_le, Int32.reduceToInt, true_and, and_true, false_and, and_false, or_false, false_or, or_true, true_or, ne_eq] at *; first | done | omega))) (fun _ => ?_)
    refine R_go 9999 rfl rfl ⟨by decide, vpN (n := 8) (by omega) rfl, (show ¬ (100 : Int64) = 0 by decide)⟩ ?_
    refine R_br rfl rfl (fun _ => ?_) (fun h => absurd rfl h)
    refine R_go 18 rfl rfl trivial ?_
    rw [nI_1]
    exact ih (k + 1) _ _ (by omega) (FmO_tr hF (by first | exact FmO_rf | (repeat' (first | exact FmO_rf | (with_reducible assumption) | (refine FmO_up ?_ (by decide)) | (refine FmO_ug ?_ (by decide) (by decide))))))
theorem l_takeOk {B : FJ} {A0 : FI} {x : Int64} {n : Nat} (hx : x = lN n) (hn : n < 2 ^ 63) : ∀ (j k : Nat) (A : FI), k + j = 8 → FmO 31 [52] [] A0 A → (∀ f, f < k → A 52 0 f = nI (fig n f) ∧ okF (fig n f)) → Rn 1 mtX12_takePerson 18 [some (.inr (.inr (some (31, 0)))), some (.inr (.inl x)), none, some (.inr (.inl (lN (n / 100 ^ k)))), none, some (.inl 1), some (.inl (nI k))] [] (hp A B) (PTp A0 B x) := by
  have hxi : x.toInt = n := by rw [hx, lN_tn (by omega)]
  intro j
  induction j with
  | zero =>
    intro k A hk hF hA
    have : k = 8 := by omega
    subst this
    refine R_go 9999 rfl rfl trivial ?_
    refine R_br rfl rfl (fun _ => ?_) (fun h => absurd (by decide) h)
    refine R_go 9999 rfl rfl trivial ?_
    refine R_br rfl rfl (fun h => absurd h (by decide)) (fun _ => ?_)
    refine R_go 9999 rfl rfl trivial ?_
    by_cases hz : n < 10000000000000000
    · have e : n / 100 ^ 8 = 0 := Nat.div_eq_of_lt (by show n < 100 ^ 8; omega)
      refine R_br rfl rfl (fun _ => ?_) (fun h => absurd (by rw [e]; decide) h)
      repeat' (first
          | (refine R_br rfl rfl (fun hbr => absurd hbr (by first | decide | (with_reducible assumption))) (fun _ => ?_))
          | (refine R_br rfl rfl (fun _ => ?_) (fun hbr => absurd (by first | decide | (with_reducible assumption)) hbr))
          | (refine R_br rfl rfl (fun _ => ?_) (fun _ => ?_))
          | (refine R_ri rfl rfl ?_)
          | (refine R_rz rfl rfl (Or.inl rfl) ?_)
          | (refine R_rz rfl rfl (Or.inr rfl) ?_)
          | (refine R_rz rfl rfl (b2_01 _) ?_)
          | (refine R_rl rfl rfl ?_)
          | (refine R_rv rfl rfl ?_)
          | (refine R_sw _ rfl rfl rfl ?_)
          | (refine R_go 9999 rfl rfl trivial ?_)
          | (refine R_go 9999 rfl rfl (by first | (show _ ∨ _; decide) | (show (_ ∨ _) ∧ (_ ∨ _); decide) | (show (_ ∨ _) ∧ (_ ∨ _) ∧ (_ ∨ _); decide)) ?_)
          | (refine R_go 9999 rfl rfl ?_ ?_))
      refine ⟨A, rfl, hF, Or.inl ⟨⟨by omega, by omega, fun f hf => by rw [show x.toInt.toNat = n by omega]; exact (hA f hf).2⟩, rfl, fun f hf => ?_⟩⟩
      unfold prQ
      rw [show x.toInt.toNat = n by omega]
      exact hA f hf
    · have e : ¬ n / 100 ^ 8 = 0 := by
        have : 1 ≤ n / 100 ^ 8 := (Nat.le_div_iff_mul_le (by decide)).mpr (by omega)
        omega
      have hl : n / 100 ^ 8 < 2 ^ 63 := Nat.lt_of_le_of_lt (Nat.div_le_self _ _) hn
      have e2 : ¬ lg_cmp (lN (n / 100 ^ 8)) 0 = 0 := by
        rw [lg_cmp_eq, j_eq, lN_tn hl]
        simp only [Int64.reduceToInt]
        omega
      refine R_br rfl rfl (fun h => absurd h e2) (fun _ => ?_)
      repeat' (first
          | (refine R_br rfl rfl (fun hbr => absurd hbr (by first | decide | (with_reducible assumption))) (fun _ => ?_))
          | (refine R_br rfl rfl (fun _ => ?_) (fun hbr => absurd (by first | decide | (with_reducible assumption)) hbr))
          | (refine R_br rfl rfl (fun _ => ?_) (fun _ => ?_))
          | (refine R_ri rfl rfl ?_)
          | (refine R_rz rfl rfl (Or.inl rfl) ?_)
          | (refine R_rz rfl rfl (Or.inr rfl) ?_)
          | (refine R_rz rfl rfl (b2_01 _) ?_)
          | (refine R_rl rfl rfl ?_)
          | (refine R_rv rfl rfl ?_)
          | (refine R_sw _ rfl rfl rfl ?_)
          | (refine R_go 9999 rfl rfl trivial ?_)
          | (refine R_go 9999 rfl rfl (by first | (show _ ∨ _; decide) | (show (_ ∨ _) ∧ (_ ∨ _); decide) | (show (_ ∨ _) ∧ (_ ∨ _) ∧ (_ ∨ _); decide)) ?_)
          | (refine R_go 9999 rfl rfl ?_ ?_))
      exact ⟨A, rfl, hF, Or.inr ⟨fun hp => by have := hp.2.1; omega, rfl⟩⟩
  | succ j ih =>
    intro k A hk hF hA
    have tk := ti k (by omega)
    have ck : (nI k).toNatClampNeg = k := nI_clamp (by omega)
    have hm : n / 100 ^ k < 2 ^ 63 := Nat.lt_of_le_of_lt (Nat.div_le_self _ _) hn
    have e1 : (lN (n / 100 ^ k) - lN (n / 100 ^ k) / 100 * 100).toInt32 = nI (fig n k) := by
      rw [show (100 : Int64) = lN 100 from rfl, j_rem hm (by decide), lN_i]; rfl
    have e2 : lN (n / 100 ^ k) / 100 = lN (n / 100 ^ (k + 1)) := by
      rw [show (100 : Int64) = lN 100 from rfl, j_div hm (by decide), fig_s]
    have hfl : fig n k < 100 := Nat.mod_lt _ (by decide)
    have tf := ti (fig n k) (by omega)
    have hv : vp_in (nI k) 8 := vpN (n := 8) (by omega) rfl
    have hF2 : FmO 31 [52] [] A0 (up3 A 52 0 k (nI (fig n k))) := FmO_tr hF (by first | exact FmO_rf | (repeat' (first | exact FmO_rf | (with_reducible assumption) | (refine FmO_up ?_ (by decide)) | (refine FmO_ug ?_ (by decide) (by decide)))))
    have hgo : okF (fig n k) → Rn 1 mtX12_takePerson 18 [some (.inr (.inr (some (31, 0)))), some (.inr (.inl x)), none, some (.inr (.inl (lN (n / 100 ^ (k + 1))))), none, some (.inl 1), some (.inl (nI (k + 1)))] [] (hp (up3 A 52 0 k (nI (fig n k))) B) (PTp A0 B x) := by
      intro hok
      refine ih (k + 1) _ (by omega) hF2 (fun f hf => ?_)
      by_cases e : f = k
      · subst e; rw [up3_self]; exact ⟨rfl, hok⟩
      · rw [up3_s e]; exact hA f (by omega)
    refine R_go 9999 rfl rfl trivial ?_
    refine R_br rfl rfl (fun h => absurd h (by (simp only [i_eq, i_lt, i_le, Int32.reduceToInt, true_and, and_true, false_and, and_false, or_false, false_or, or_true, true_or, ne_eq] at *; first | done | omega))) (fun _ => ?_)
    refine R_go 9999 rfl rfl ⟨by decide, hv, (show ¬ (100 : Int64) = 0 by decide)⟩ ?_
    rw [ck, e1, e2]
    refine R_br rfl rfl (fun h => absurd h (by decide)) (fun _ => ?_)
    refine R_go 9999 rfl rfl hv ?_
    rw [ck, up3_self]
    by_cases h20 : fig n k ≤ 20
    · refine R_csr rfl (m_inT (nI (fig n k)) 0 20 (by simp only [Int64.reduceToInt]; omega) _ _) rfl rfl rfl (Nat.le_of_ble_eq_true rfl) rfl ?_
      refine R_br rfl rfl (fun h => absurd h (by decide)) (fun _ => ?_)
      refine R_go 18 rfl rfl trivial ?_
      rw [nI_1]
      exact hgo (Or.inl h20)
    · refine R_csr rfl (m_inF (nI (fig n k)) 0 20 (by simp only [Int64.reduceToInt]; omega) _ _) rfl rfl rfl (Nat.le_of_ble_eq_true rfl) rfl ?_
      refine R_br rfl rfl (fun _ => ?_) (fun h => absurd rfl h)
      refine R_go 9999 rfl rfl hv ?_
      rw [ck, up3_self]
      by_cases h99 : fig n k = 99
      · have n99 : nI (fig n k) = 99 := by rw [h99]; rfl
        refine R_br rfl rfl (fun _ => ?_) (fun h => absurd n99 h)
        refine R_go 18 rfl rfl trivial ?_
        rw [nI_1]
        exact hgo (Or.inr h99)
      · have n99 : ¬ nI (fig n k) = 99 := by (simp only [i_eq, i_lt, i_le, Int32.reduceToInt, true_and, and_true, false_and, and_false, or_false, false_or, or_true, true_or, ne_eq] at *; first | done | omega)
        refine R_br rfl rfl (fun h => absurd h n99) (fun _ => ?_)
        refine R_go 18 rfl rfl trivial ?_
        rw [nI_1]
        refine l_takeBad (fun hp => ?_) j (k + 1) _ _ (by omega) hF2
        have := hp.2.2 k (by omega)
        rw [show x.toInt.toNat = n by omega] at this
        unfold okF at this
        omega
theorem m_takePerson {A : FI} {B : FJ} (x : Int64) : MV 1 1 mtX12_takePerson [.inr (.inr (some (31, 0))), .inr (.inl x)] (hp A B) (PTp A B x) := by
  refine MV_of caX12_takePerson (L := [some (.inr (.inr (some (31, 0)))), some (.inr (.inl x)), none, none, none, none, none]) rfl rfl ?_
  refine R_go 9999 rfl rfl trivial ?_
  by_cases h0 : x.toInt < 0
  · refine R_br rfl rfl (fun _ => ?_) (fun h => absurd (by rw [lg_cmp_lt, j_lt]; exact h0) h)
    refine R_go 18 rfl rfl trivial ?_
    exact l_takeBad (fun hp => by have := hp.1; omega) 8 0 A x rfl FmO_rf
  · refine R_br rfl rfl (fun h => absurd h (by rw [lg_cmp_lt, j_lt]; exact h0)) (fun _ => ?_)
    obtain ⟨n, hn, hx, hi⟩ := jn_of (x := x) (by omega)
    refine R_go 18 rfl rfl trivial ?_
    have := l_takeOk (B := B) (A0 := A) hx hn 8 0 A rfl FmO_rf (fun f hf => by omega)
    rw [show n / 100 ^ 0 = n by simp, ← hx] at this
    exact this
