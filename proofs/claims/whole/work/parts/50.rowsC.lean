abbrev Rw : Type := (Nat → Nat) × Int32
def d0 : Rw := (fun _ => 0, 0)
noncomputable def reS (P : List (List Tk × Nat)) (q : Nat → Nat) : Int32 := if P = [] then -1 else nI (rnS q 0 P).1
/-- ROWS, as the class holds them -/
def RCR (A : FI) (P : List (List Tk × Nat)) (R : List Rw) : Prop := A 18 0 3 = nI R.length ∧ R.length ≤ 24 ∧ ∀ i, i < R.length → RPn i A (R.getD i d0).1 ∧ A 20 0 i = (R.getD i d0).2 ∧ A 21 0 i = reS P (R.getD i d0).1
theorem RCR_fr {A A' : FI} {P : List (List Tk × Nat)} {R : List Rw} (h : RCR A P R) (h18 : A' 18 0 3 = A 18 0 3) (h20 : A' 20 = A 20) (h21 : A' 21 = A 21) (h25 : ∀ i, i < 24 → A' 25 i = A 25 i) : RCR A' P R := ⟨by rw [h18]; exact h.1, h.2.1, fun i hi => by
  have := h.2.2 i hi
  have h2 := h.2.1
  refine ⟨fun f hf => ?_, by rw [h20]; exact this.2.1, by rw [h21]; exact this.2.2⟩
  rw [h25 i (by omega)]
  exact this.1 f hf⟩
theorem m_putP {p f : Nat} (hf : f < 8) (x : Int32) (A : FI) (B : FJ) : MV 1 2 mtX6_put [.inr (.inr (some (24, p))), .inl (nI f), .inl x] (hp A B) (Ret none (hp (up3 A 25 p f x) B)) := by
  have cf : (nI f).toNatClampNeg = f := nI_clamp (by omega)
  refine MV_of caX6_put (L := [some (.inr (.inr (some (24, p)))), some (.inl (nI f)), some (.inl x)]) rfl rfl ?_
  repeat' (first
      | (refine R_br rfl rfl (fun hbr => absurd hbr (by first | decide | (with_reducible assumption))) (fun _ => ?_))
      | (refine R_br rfl rfl (fun _ => ?_) (fun hbr => absurd (by first | decide | (with_reducible assumption)) hbr))
      | (refine R_br rfl rfl (fun _ => ?_) (fun _ => ?_))
      | (refine R_ri rfl rfl ?_)
      | (refine R_rz rfl rfl (Or.inl rfl) ?_)
      | (refine R_rz rfl rfl (Or.inr rfl) ?_)
      | (refine R_rz rfl rfl (b2_01 _) ?_)
      | (refine R_rl rfl rfl ?_)
      | (refine R_rv rfl rfl ?_)
      | (refine R_csr rfl (m_isFieldT f hf _ _) rfl rfl rfl (Nat.le_of_ble_eq_true rfl) rfl ?_)
      | (refine R_sw _ rfl rfl rfl ?_)
      | (refine R_go 9999 rfl rfl trivial ?_)
      | (refine R_go 9999 rfl rfl (by first | (show _ ∨ _; decide) | (show (_ ∨ _) ∧ (_ ∨ _); decide) | (show (_ ∨ _) ∧ (_ ∨ _) ∧ (_ ∨ _); decide)) ?_)
      | (refine R_go 9999 rfl rfl ?_ ?_))
  · exact vpN (n := 8) hf rfl
  · rw [cf]; exact ret_v rfl
theorem l_copyP {p s : Nat} (hne : s ≠ p) {q : Nat → Nat} (B : FJ) (A0 : FI) : ∀ (m k : Nat) (A : FI), k + m = 8 → RPn s A q → Fi [25] p A0 A → (∀ f, f < k → A 25 p f = (if q f = 99 then -1 else nI (q f))) → Rn 2 mtX6_copy 2 [some (.inr (.inr (some (24, p)))), some (.inr (.inr (some (24, s)))), some (.inl (nI k))] [] (hp A B) (fun r h' => ∃ A', r = none ∧ h' = hp A' B ∧ Fi [25] p A0 A' ∧ RPn p A' q) := by
  intro m
  induction m with
  | zero =>
    intro k A hk hq hF hA
    have : k = 8 := by omega
    subst this
    repeat' (first
        | (refine R_br rfl rfl (fun hbr => absurd hbr (by first | decide | (with_reducible assumption))) (fun _ => ?_))
        | (refine R_br rfl rfl (fun _ => ?_) (fun hbr => absurd (by first | decide | (with_reducible assumption)) hbr))
        | (refine R_br rfl rfl (fun _ => ?_) (fun _ => ?_))
        | (refine R_ri rfl rfl ?_)
        | (refine R_rz rfl rfl (Or.inl rfl) ?_)
        | (refine R_rz rfl rfl (Or.inr rfl) ?_)
        | (refine R_rz rfl rfl (b2_01 _) ?_)
        | (refine R_rl rfl rfl ?_)
        | (refine R_rv rfl rfl ?_)
        | (refine R_sw _ rfl rfl rfl ?_)
        | (refine R_go 9999 rfl rfl trivial ?_)
        | (refine R_go 9999 rfl rfl (by first | (show _ ∨ _; decide) | (show (_ ∨ _) ∧ (_ ∨ _); decide) | (show (_ ∨ _) ∧ (_ ∨ _) ∧ (_ ∨ _); decide)) ?_)
        | (refine R_go 9999 rfl rfl ?_ ?_))
    exact ⟨A, rfl, rfl, hF, fun f hf => ⟨hA f hf, (hq f hf).2⟩⟩
  | succ m ih =>
    intro k A hk hq hF hA
    have tk := ti k (by omega)
    have ck : (nI k).toNatClampNeg = k := nI_clamp (by omega)
    have hnp := m_numP (B := B) hq k (by omega)
    refine R_go 9999 rfl rfl trivial ?_
    refine R_br rfl rfl (fun h => absurd h (by (simp only [i_eq, i_lt, i_le, Int32.reduceToInt, true_and, and_true, false_and, and_false, or_false, false_or, or_true, true_or, ne_eq] at *; first | done | omega))) (fun _ => ?_)
    repeat' (first
        | (refine R_stop 2 rfl rfl ?_)
        | (refine R_br rfl rfl (fun hbr => absurd hbr (by first | decide | (with_reducible assumption))) (fun _ => ?_))
        | (refine R_br rfl rfl (fun _ => ?_) (fun hbr => absurd (by first | decide | (with_reducible assumption)) hbr))
        | (refine R_br rfl rfl (fun _ => ?_) (fun _ => ?_))
        | (refine R_ri rfl rfl ?_)
        | (refine R_rz rfl rfl (Or.inl rfl) ?_)
        | (refine R_rz rfl rfl (Or.inr rfl) ?_)
        | (refine R_rz rfl rfl (b2_01 _) ?_)
        | (refine R_rl rfl rfl ?_)
        | (refine R_rv rfl rfl ?_)
        | (refine R_cvr rfl (hnp) rfl rfl rfl rfl rfl (Nat.le_of_ble_eq_true rfl) rfl ?_)
        | (refine R_sw _ rfl rfl rfl ?_)
        | (refine R_go 2 rfl rfl trivial ?_)
        | (refine R_go 2 rfl rfl (by first | (show _ ∨ _; decide) | (show (_ ∨ _) ∧ (_ ∨ _); decide) | (show (_ ∨ _) ∧ (_ ∨ _) ∧ (_ ∨ _); decide)) ?_)
        | (refine R_go 2 rfl rfl ?_ ?_))
    · exact vpN (n := 8) (by omega) rfl
    · refine ⟨?_, trivial⟩
      rw [ck, nI_1]
      refine ih (k + 1) _ (by omega) (fun f hf => by rw [up3_i hne]; exact hq f hf) (Fi_up hF (by decide)) (fun f hf => ?_)
      by_cases e : f = k
      · subst e; rw [up3_self]
      · rw [up3_s e]; exact hA f (by omega)
theorem m_copyP {p s : Nat} (hne : s ≠ p) {q : Nat → Nat} {A : FI} {B : FJ} (hq : RPn s A q) : MV 2 1 mtX6_copy [.inr (.inr (some (24, p))), .inr (.inr (some (24, s)))] (hp A B) (fun r h' => ∃ A', r = none ∧ h' = hp A' B ∧ Fi [25] p A A' ∧ RPn p A' q) := by
  refine MV_of caX6_copy (L := [some (.inr (.inr (some (24, p)))), some (.inr (.inr (some (24, s)))), none]) rfl rfl ?_
  refine R_go 2 rfl rfl trivial ?_
  exact l_copyP hne B A 8 0 A rfl hq Fi_rf (fun f hf => by omega)
def whS (q : Nat → Nat) (n : Nat) : Prop := ∀ f, f < n → q f ≠ 99
theorem l_isWholeP {p : Nat} {q : Nat → Nat} {A : FI} {B : FJ} (hq : RPn p A q) : ∀ (m k : Nat), k + m = 8 → whS q k → Rn 0 mtX6_isWhole 2 [some (.inr (.inr (some (24, p)))), some (.inl (nI k))] [] (hp A B) (Ret (some (.inl (b2 (whS q 8)))) (hp A B)) := by
  intro m
  induction m with
  | zero =>
    intro k hk hs
    have : k = 8 := by omega
    subst this
    repeat' (first
        | (refine R_br rfl rfl (fun hbr => absurd hbr (by first | decide | (with_reducible assumption))) (fun _ => ?_))
        | (refine R_br rfl rfl (fun _ => ?_) (fun hbr => absurd (by first | decide | (with_reducible assumption)) hbr))
        | (refine R_br rfl rfl (fun _ => ?_) (fun _ => ?_))
        | (refine R_ri rfl rfl ?_)
        | (refine R_rz rfl rfl (Or.inl rfl) ?_)
        | (refine R_rz rfl rfl (Or.inr rfl) ?_)
        | (refine R_rz rfl rfl (b2_01 _) ?_)
        | (refine R_rl rfl rfl ?_)
        | (refine R_rv rfl rfl ?_)
        | (refine R_sw _ rfl rfl rfl ?_)
        | (refine R_go 9999 rfl rfl trivial ?_)
        | (refine R_go 9999 rfl rfl (by first | (show _ ∨ _; decide) | (show (_ ∨ _) ∧ (_ ∨ _); decide) | (show (_ ∨ _) ∧ (_ ∨ _) ∧ (_ ∨ _); decide)) ?_)
        | (refine R_go 9999 rfl rfl ?_ ?_))
    exact ret_y hs rfl
  | succ m ih =>
    intro k hk hs
    have tk := ti k (by omega)
    have ck : (nI k).toNatClampNeg = k := nI_clamp (by omega)
    obtain ⟨e1, e2⟩ := hq k (by omega)
    refine R_go 9999 rfl rfl trivial ?_
    refine R_br rfl rfl (fun h => absurd h (by (simp only [i_eq, i_lt, i_le, Int32.reduceToInt, true_and, and_true, false_and, and_false, or_false, false_or, or_true, true_or, ne_eq] at *; first | done | omega))) (fun _ => ?_)
    refine R_go 9999 rfl rfl (vpN (n := 8) (by omega) rfl) ?_
    rw [ck, e1]
    by_cases h99 : q k = 99
    · rw [if_pos h99]
      repeat' (first
          | (refine R_br rfl rfl (fun hbr => absurd hbr (by first | decide | (with_reducible assumption))) (fun _ => ?_))
          | (refine R_br rfl rfl (fun _ => ?_) (fun hbr => absurd (by first | decide | (with_reducible assumption)) hbr))
          | (refine R_br rfl rfl (fun _ => ?_) (fun _ => ?_))
          | (refine R_ri rfl rfl ?_)
          | (refine R_rz rfl rfl (Or.inl rfl) ?_)
          | (refine R_rz rfl rfl (Or.inr rfl) ?_)
          | (refine R_rz rfl rfl (b2_01 _) ?_)
          | (refine R_rl rfl rfl ?_)
          | (refine R_rv rfl rfl ?_)
          | (refine R_sw _ rfl rfl rfl ?_)
          | (refine R_go 9999 rfl rfl trivial ?_)
          | (refine R_go 9999 rfl rfl (by first | (show _ ∨ _; decide) | (show (_ ∨ _) ∧ (_ ∨ _); decide) | (show (_ ∨ _) ∧ (_ ∨ _) ∧ (_ ∨ _); decide)) ?_)
          | (refine R_go 9999 rfl rfl ?_ ?_))
      exact ret_n (fun z => z k (by omega) h99) rfl
    · rw [if_neg h99]
      have tq := ti (q k) (by omega)
      have n1 : ¬ nI (q k) = -1 := by (simp only [i_eq, i_lt, i_le, Int32.reduceToInt, true_and, and_true, false_and, and_false, or_false, false_or, or_true, true_or, ne_eq] at *; first | done | omega)
      repeat' (first
          | (refine R_stop 2 rfl rfl ?_)
          | (refine R_br rfl rfl (fun hbr => absurd hbr (by first | decide | (with_reducible assumption))) (fun _ => ?_))
          | (refine R_br rfl rfl (fun _ => ?_) (fun hbr => absurd (by first | decide | (with_reducible assumption)) hbr))
          | (refine R_br rfl rfl (fun _ => ?_) (fun _ => ?_))
          | (refine R_ri rfl rfl ?_)
          | (refine R_rz rfl rfl (Or.inl rfl) ?_)
          | (refine R_rz rfl rfl (Or.inr rfl) ?_)
          | (refine R_rz rfl rfl (b2_01 _) ?_)
          | (refine R_rl rfl rfl ?_)
          | (refine R_rv rfl rfl ?_)
          | (refine R_sw _ rfl rfl rfl ?_)
          | (refine R_go 2 rfl rfl trivial ?_)
          | (refine R_go 2 rfl rfl (by first | (show _ ∨ _; decide) | (show (_ ∨ _) ∧ (_ ∨ _); decide) | (show (_ ∨ _) ∧ (_ ∨ _) ∧ (_ ∨ _); decide)) ?_)
          | (refine R_go 2 rfl rfl ?_ ?_))
      refine ⟨?_, trivial⟩
      rw [nI_1]
      refine ih (k + 1) (by omega) (fun f hf => ?_)
      by_cases e : f = k
      · subst e; exact h99
      · exact hs f (by omega)
theorem m_isWholeP {p : Nat} {q : Nat → Nat} {A : FI} {B : FJ} (hq : RPn p A q) : MV 0 0 mtX6_isWhole [.inr (.inr (some (24, p)))] (hp A B) (Ret (some (.inl (b2 (whS q 8)))) (hp A B)) := by
  refine MV_of caX6_isWhole (L := [some (.inr (.inr (some (24, p)))), none]) rfl rfl ?_
  refine R_go 2 rfl rfl trivial ?_
  exact l_isWholeP hq 8 0 rfl (fun f hf => by omega)
theorem m_sizeR {n : Nat} {A : FI} {B : FJ} (h : A 18 0 3 = nI n) : MV 0 0 mtX1_size [.inr (.inr (some (18, 0)))] (hp A B) (Ret (some (.inl (nI n))) (hp A B)) := by
  refine MV_of caX1_size (L := [some (.inr (.inr (some (18, 0))))]) rfl rfl ?_
  repeat' (first
      | (refine R_br rfl rfl (fun hbr => absurd hbr (by first | decide | (with_reducible assumption))) (fun _ => ?_))
      | (refine R_br rfl rfl (fun _ => ?_) (fun hbr => absurd (by first | decide | (with_reducible assumption)) hbr))
      | (refine R_br rfl rfl (fun _ => ?_) (fun _ => ?_))
      | (refine R_ri rfl rfl ?_)
      | (refine R_rz rfl rfl (Or.inl rfl) ?_)
      | (refine R_rz rfl rfl (Or.inr rfl) ?_)
      | (refine R_rz rfl rfl (b2_01 _) ?_)
      | (refine R_rl rfl rfl ?_)
      | (refine R_rv rfl rfl ?_)
      | (refine R_sw _ rfl rfl rfl ?_)
      | (refine R_go 9999 rfl rfl trivial ?_)
      | (refine R_go 9999 rfl rfl (by first | (show _ ∨ _; decide) | (show (_ ∨ _) ∧ (_ ∨ _); decide) | (show (_ ∨ _) ∧ (_ ∨ _) ∧ (_ ∨ _); decide)) ?_)
      | (refine R_go 9999 rfl rfl ?_ ?_))
  exact ret_i h rfl
theorem m_isRowHere {n : Nat} {A : FI} {B : FJ} (h : A 18 0 3 = nI n) (hn : n ≤ 24) (k : Nat) (hk : k < n) : MV 0 1 mtX1_isRowHere [.inr (.inr (some (18, 0))), .inl (nI k)] (hp A B) (Ret (some (.inl 1)) (hp A B)) := by
  have tk := ti k (by omega)
  have tn := ti n (by omega)
  refine MV_of caX1_isRowHere (L := [some (.inr (.inr (some (18, 0)))), some (.inl (nI k))]) rfl rfl ?_
  repeat' (first
      | (refine R_br rfl rfl (fun hbr => absurd hbr (by first | decide | (with_reducible assumption) | (simp only [h]; first | decide | (with_reducible assumption)) | (simp only [i_eq, i_lt, i_le, Int32.reduceToInt, ne_eq, up3_self, nI_1, h]; first | done | omega))) (fun _ => ?_))
      | (refine R_br rfl rfl (fun _ => ?_) (fun hbr => absurd (by first | decide | (with_reducible assumption) | (simp only [h]; first | decide | (with_reducible assumption)) | (simp only [i_eq, i_lt, i_le, Int32.reduceToInt, ne_eq, up3_self, nI_1, h]; first | done | omega)) hbr))
      | (refine R_br rfl rfl (fun _ => ?_) (fun _ => ?_))
      | (refine R_ri rfl rfl ?_)
      | (refine R_rz rfl rfl (Or.inl rfl) ?_)
      | (refine R_rz rfl rfl (Or.inr rfl) ?_)
      | (refine R_rz rfl rfl (b2_01 _) ?_)
      | (refine R_rl rfl rfl ?_)
      | (refine R_rv rfl rfl ?_)
      | (refine R_sw _ rfl rfl rfl ?_)
      | (refine R_go 9999 rfl rfl trivial ?_)
      | (refine R_go 9999 rfl rfl (by first | (show _ ∨ _; decide) | (show (_ ∨ _) ∧ (_ ∨ _); decide) | (show (_ ∨ _) ∧ (_ ∨ _) ∧ (_ ∨ _); decide)) ?_)
      | (refine R_go 9999 rfl rfl ?_ ?_))
  exact ret_i rfl rfl
theorem m_ended {n : Nat} {A : FI} {B : FJ} (h : A 18 0 3 = nI n) (hn : n ≤ 24) (k : Nat) (hk : k < n) : MV 1 1 mtX1_ended [.inr (.inr (some (18, 0))), .inl (nI k)] (hp A B) (Ret (some (.inl (A 21 0 k))) (hp A B)) := by
  have ck : (nI k).toNatClampNeg = k := nI_clamp (by omega)
  refine MV_of caX1_ended (L := [some (.inr (.inr (some (18, 0)))), some (.inl (nI k))]) rfl rfl ?_
  repeat' (first
      | (refine R_br rfl rfl (fun hbr => absurd hbr (by first | decide | (with_reducible assumption))) (fun _ => ?_))
      | (refine R_br rfl rfl (fun _ => ?_) (fun hbr => absurd (by first | decide | (with_reducible assumption)) hbr))
      | (refine R_br rfl rfl (fun _ => ?_) (fun _ => ?_))
      | (refine R_ri rfl rfl ?_)
      | (refine R_rz rfl rfl (Or.inl rfl) ?_)
      | (refine R_rz rfl rfl (Or.inr rfl) ?_)
      | (refine R_rz rfl rfl (b2_01 _) ?_)
      | (refine R_rl rfl rfl ?_)
      | (refine R_rv rfl rfl ?_)
      | (refine R_cvr rfl (m_isRowHere h hn k hk) rfl rfl rfl rfl rfl (Nat.le_of_ble_eq_true rfl) rfl ?_)
      | (refine R_sw _ rfl rfl rfl ?_)
      | (refine R_go 9999 rfl rfl trivial ?_)
      | (refine R_go 9999 rfl rfl (by first | (show _ ∨ _; decide) | (show (_ ∨ _) ∧ (_ ∨ _); decide) | (show (_ ∨ _) ∧ (_ ∨ _) ∧ (_ ∨ _); decide)) ?_)
      | (refine R_go 9999 rfl rfl ?_ ?_))
  · exact vpN (n := 24) (by omega) rfl
  · rw [ck]; exact ret_i rfl rfl
theorem m_numR {n : Nat} {A : FI} {B : FJ} (h : A 18 0 3 = nI n) (hn : n ≤ 24) (k : Nat) (hk : k < n) {q : Nat → Nat} (hq : RPn k A q) (f : Nat) (hf : f < 8) : MV 2 2 mtX1_number [.inr (.inr (some (18, 0))), .inl (nI k), .inl (nI f)] (hp A B) (Ret (some (.inl (if q f = 99 then -1 else nI (q f)))) (hp A B)) := by
  have ck : (nI k).toNatClampNeg = k := nI_clamp (by omega)
  have hv : vp_in (nI k) 24 := vpN (n := 24) (by omega) rfl
  refine MV_of caX1_number (L := [some (.inr (.inr (some (18, 0)))), some (.inl (nI k)), some (.inl (nI f))]) rfl rfl ?_
  refine R_go 9999 rfl rfl trivial ?_
  refine R_cvr rfl (m_isRowHere h hn k hk) rfl rfl rfl rfl rfl (Nat.le_of_ble_eq_true rfl) rfl ?_
  refine R_br rfl rfl (fun h => absurd h (by decide)) (fun _ => ?_)
  refine R_go 9999 rfl rfl ⟨hv, hv⟩ ?_
  rw [ck]
  repeat' (first
      | (refine R_br rfl rfl (fun hbr => absurd hbr (by first | decide | (with_reducible assumption))) (fun _ => ?_))
      | (refine R_br rfl rfl (fun _ => ?_) (fun hbr => absurd (by first | decide | (with_reducible assumption)) hbr))
      | (refine R_br rfl rfl (fun _ => ?_) (fun _ => ?_))
      | (refine R_ri rfl rfl ?_)
      | (refine R_rz rfl rfl (Or.inl rfl) ?_)
      | (refine R_rz rfl rfl (Or.inr rfl) ?_)
      | (refine R_rz rfl rfl (b2_01 _) ?_)
      | (refine R_rl rfl rfl ?_)
      | (refine R_rv rfl rfl ?_)
      | (refine R_cvr rfl (m_numP hq f hf) rfl rfl rfl rfl rfl (Nat.le_of_ble_eq_true rfl) rfl ?_)
      | (refine R_sw _ rfl rfl rfl ?_)
      | (refine R_go 9999 rfl rfl trivial ?_)
      | (refine R_go 9999 rfl rfl (by first | (show _ ∨ _; decide) | (show (_ ∨ _) ∧ (_ ∨ _); decide) | (show (_ ∨ _) ∧ (_ ∨ _) ∧ (_ ∨ _); decide)) ?_)
      | (refine R_go 9999 rfl rfl ?_ ?_))
  exact ret_i rfl rfl
theorem m_isWholeR {n : Nat} {A : FI} {B : FJ} (h : A 18 0 3 = nI n) (hn : n ≤ 24) (k : Nat) (hk : k < n) {q : Nat → Nat} (hq : RPn k A q) : MV 1 1 mtX1_isWhole [.inr (.inr (some (18, 0))), .inl (nI k)] (hp A B) (Ret (some (.inl (b2 (whS q 8)))) (hp A B)) := by
  have ck : (nI k).toNatClampNeg = k := nI_clamp (by omega)
  have hv : vp_in (nI k) 24 := vpN (n := 24) (by omega) rfl
  refine MV_of caX1_isWhole (L := [some (.inr (.inr (some (18, 0)))), some (.inl (nI k))]) rfl rfl ?_
  refine R_go 9999 rfl rfl trivial ?_
  refine R_cvr rfl (m_isRowHere h hn k hk) rfl rfl rfl rfl rfl (Nat.le_of_ble_eq_true rfl) rfl ?_
  refine R_br rfl rfl (fun h => absurd h (by decide)) (fun _ => ?_)
  refine R_go 9999 rfl rfl ⟨hv, hv⟩ ?_
  rw [ck]
  have hw := m_isWholeP (B := B) hq
  by_cases hz : whS q 8
  · rw [b2_1 hz] at hw ⊢
    repeat' (first
        | (refine R_br rfl rfl (fun hbr => absurd hbr (by first | decide | (with_reducible assumption))) (fun _ => ?_))
        | (refine R_br rfl rfl (fun _ => ?_) (fun hbr => absurd (by first | decide | (with_reducible assumption)) hbr))
        | (refine R_br rfl rfl (fun _ => ?_) (fun _ => ?_))
        | (refine R_ri rfl rfl ?_)
        | (refine R_rz rfl rfl (Or.inl rfl) ?_)
        | (refine R_rz rfl rfl (Or.inr rfl) ?_)
        | (refine R_rz rfl rfl (b2_01 _) ?_)
        | (refine R_rl rfl rfl ?_)
        | (refine R_rv rfl rfl ?_)
        | (refine R_cvr rfl (hw) rfl rfl rfl rfl rfl (Nat.le_of_ble_eq_true rfl) rfl ?_)
        | (refine R_sw _ rfl rfl rfl ?_)
        | (refine R_go 9999 rfl rfl trivial ?_)
        | (refine R_go 9999 rfl rfl (by first | (show _ ∨ _; decide) | (show (_ ∨ _) ∧ (_ ∨ _); decide) | (show (_ ∨ _) ∧ (_ ∨ _) ∧ (_ ∨ _); decide)) ?_)
        | (refine R_go 9999 rfl rfl ?_ ?_))
    exact ret_i rfl rfl
  · rw [b2_0 hz] at hw ⊢
    repeat' (first
        | (refine R_br rfl rfl (fun hbr => absurd hbr (by first | decide | (with_reducible assumption))) (fun _ => ?_))
        | (refine R_br rfl rfl (fun _ => ?_) (fun hbr => absurd (by first | decide | (with_reducible assumption)) hbr))
        | (refine R_br rfl rfl (fun _ => ?_) (fun _ => ?_))
        | (refine R_ri rfl rfl ?_)
        | (refine R_rz rfl rfl (Or.inl rfl) ?_)
        | (refine R_rz rfl rfl (Or.inr rfl) ?_)
        | (refine R_rz rfl rfl (b2_01 _) ?_)
        | (refine R_rl rfl rfl ?_)
        | (refine R_rv rfl rfl ?_)
        | (refine R_cvr rfl (hw) rfl rfl rfl rfl rfl (Nat.le_of_ble_eq_true rfl) rfl ?_)
        | (refine R_sw _ rfl rfl rfl ?_)
        | (refine R_go 9999 rfl rfl trivial ?_)
        | (refine R_go 9999 rfl rfl (by first | (show _ ∨ _; decide) | (show (_ ∨ _) ∧ (_ ∨ _); decide) | (show (_ ∨ _) ∧ (_ ∨ _) ∧ (_ ∨ _); decide)) ?_)
        | (refine R_go 9999 rfl rfl ?_ ?_))
    exact ret_i rfl rfl
theorem m_copyTo {n : Nat} {A : FI} {B : FJ} (h : A 18 0 3 = nI n) (hn : n ≤ 24) (k : Nat) (hk : k < n) {q : Nat → Nat} (hq : RPn k A q) {p : Nat} (hpk : 24 ≤ p) : MV 3 2 mtX1_copyTo [.inr (.inr (some (18, 0))), .inl (nI k), .inr (.inr (some (24, p)))] (hp A B) (fun r h' => ∃ A', r = none ∧ h' = hp A' B ∧ Fi [25] p A A' ∧ RPn p A' q) := by
  have ck : (nI k).toNatClampNeg = k := nI_clamp (by omega)
  have hv : vp_in (nI k) 24 := vpN (n := 24) (by omega) rfl
  refine MV_of caX1_copyTo (L := [some (.inr (.inr (some (18, 0)))), some (.inl (nI k)), some (.inr (.inr (some (24, p))))]) rfl rfl ?_
  refine R_go 9999 rfl rfl trivial ?_
  refine R_cvr rfl (m_isRowHere h hn k hk) rfl rfl rfl rfl rfl (Nat.le_of_ble_eq_true rfl) rfl ?_
  refine R_br rfl rfl (fun h => absurd h (by decide)) (fun _ => ?_)
  refine R_go 9999 rfl rfl ⟨hv, hv⟩ ?_
  rw [ck]
  refine R_cv rfl (m_copyP (by omega) hq) rfl rfl rfl rfl rfl (Nat.le_of_ble_eq_true rfl) rfl ?_
  rintro r h' ⟨A', rfl, rfl, a, b⟩
  repeat' (first
      | (refine R_br rfl rfl (fun hbr => absurd hbr (by first | decide | (with_reducible assumption))) (fun _ => ?_))
      | (refine R_br rfl rfl (fun _ => ?_) (fun hbr => absurd (by first | decide | (with_reducible assumption)) hbr))
      | (refine R_br rfl rfl (fun _ => ?_) (fun _ => ?_))
      | (refine R_ri rfl rfl ?_)
      | (refine R_rz rfl rfl (Or.inl rfl) ?_)
      | (refine R_rz rfl rfl (Or.inr rfl) ?_)
      | (refine R_rz rfl rfl (b2_01 _) ?_)
      | (refine R_rl rfl rfl ?_)
      | (refine R_rv rfl rfl ?_)
      | (refine R_sw _ rfl rfl rfl ?_)
      | (refine R_go 9999 rfl rfl trivial ?_)
      | (refine R_go 9999 rfl rfl (by first | (show _ ∨ _; decide) | (show (_ ∨ _) ∧ (_ ∨ _); decide) | (show (_ ∨ _) ∧ (_ ∨ _) ∧ (_ ∨ _); decide)) ?_)
      | (refine R_go 9999 rfl rfl ?_ ?_))
  exact ⟨A', rfl, rfl, a, b⟩
theorem m_isRowC {n : Nat} {A : FI} {B : FJ} (h : A 18 0 3 = nI n) (hn : n ≤ 24) (x : Int32) : MV 1 1 mtX11_isRow [.inr (.inr (some (0, 0))), .inl x] (hp A B) (Ret (some (.inl (b2 (0 ≤ x.toInt ∧ x.toInt < n)))) (hp A B)) := by
  have tn := ti n (by omega)
  refine MV_of caX11_isRow (L := [some (.inr (.inr (some (0, 0)))), some (.inl x)]) rfl rfl ?_
  repeat' (first
      | (refine R_br rfl rfl (fun hbr => absurd hbr (by first | decide | (with_reducible assumption))) (fun _ => ?_))
      | (refine R_br rfl rfl (fun _ => ?_) (fun hbr => absurd (by first | decide | (with_reducible assumption)) hbr))
      | (refine R_br rfl rfl (fun _ => ?_) (fun _ => ?_))
      | (refine R_ri rfl rfl ?_)
      | (refine R_rz rfl rfl (Or.inl rfl) ?_)
      | (refine R_rz rfl rfl (Or.inr rfl) ?_)
      | (refine R_rz rfl rfl (b2_01 _) ?_)
      | (refine R_rl rfl rfl ?_)
      | (refine R_rv rfl rfl ?_)
      | (refine R_cvr rfl (m_sizeR h) rfl rfl rfl rfl rfl (Nat.le_of_ble_eq_true rfl) rfl ?_)
      | (refine R_sw _ rfl rfl rfl ?_)
      | (refine R_go 9999 rfl rfl trivial ?_)
      | (refine R_go 9999 rfl rfl (by first | (show _ ∨ _; decide) | (show (_ ∨ _) ∧ (_ ∨ _); decide) | (show (_ ∨ _) ∧ (_ ∨ _) ∧ (_ ∨ _); decide)) ?_)
      | (refine R_go 9999 rfl rfl ?_ ?_))
  all_goals first | exact ret_y (by (simp only [i_eq, i_lt, i_le, Int32.reduceToInt, true_and, and_true, false_and, and_false, or_false, false_or, or_true, true_or, ne_eq] at *; first | done | omega)) rfl | exact ret_n (by (simp only [i_eq, i_lt, i_le, Int32.reduceToInt, true_and, and_true, false_and, and_false, or_false, false_or, or_true, true_or, ne_eq] at *; first | done | omega)) rfl
/-- came.add -/
theorem m_addR {P : List (List Tk × Nat)} {R : List Rw} {A : FI} {B : FJ} (h : RCR A P R) (hl : R.length < 24) {q : Nat → Nat} (hq : RPn 26 A q) (o : Int32) : MV 3 3 mtX1_add [.inr (.inr (some (18, 0))), .inr (.inr (some (24, 26))), .inl o, .inl (reS P q)] (hp A B) (fun r h' => ∃ A', r = none ∧ h' = hp A' B ∧ Fm [18, 20, 21, 25] A A' ∧ (∀ i, 24 ≤ i → A' 25 i = A 25 i) ∧ RCR A' P (R ++ [(q, o)])) := by
  obtain ⟨e3, h24, hr⟩ := h
  have tn := ti R.length (by omega)
  have cn : (nI R.length).toNatClampNeg = R.length := nI_clamp (by omega)
  have hv : vp_in (nI R.length) 24 := vpN (n := 24) (by omega) rfl
  refine MV_of caX1_add (L := [some (.inr (.inr (some (18, 0)))), some (.inr (.inr (some (24, 26)))), some (.inl o), some (.inl (reS P q))]) rfl rfl ?_
  refine R_go 9999 rfl rfl trivial ?_
  refine R_br rfl rfl (fun h => absurd h (by rw [e3]; (simp only [i_eq, i_lt, i_le, Int32.reduceToInt, true_and, and_true, false_and, and_false, or_false, false_or, or_true, true_or, ne_eq] at *; first | done | omega))) (fun _ => ?_)
  refine R_go 9999 rfl rfl ?_ ?_
  · rw [e3]; exact ⟨hv, hv⟩
  rw [e3, cn]
  refine R_cv rfl (m_copyP (p := R.length) (s := 26) (by omega) hq) rfl rfl rfl rfl rfl (Nat.le_of_ble_eq_true rfl) rfl ?_
  rintro r h' ⟨A1, rfl, rfl, hF, hq1⟩
  have f18 : A1 18 0 3 = nI R.length := by rw [hF.1 18 (by decide)]; exact e3
  have f18a : ∀ x, up3 A1 20 0 R.length x 18 0 3 = nI R.length := fun x => by rw [up3_g (by decide)]; exact f18
  have f18b : ∀ x y, up3 (up3 A1 20 0 R.length x) 21 0 R.length y 18 0 3 = nI R.length := fun x y => by rw [up3_g (by decide), up3_g (by decide)]; exact f18
  repeat' (first
      | (refine R_br rfl rfl (fun hbr => absurd hbr (by first | decide | (with_reducible assumption))) (fun _ => ?_))
      | (refine R_br rfl rfl (fun _ => ?_) (fun hbr => absurd (by first | decide | (with_reducible assumption)) hbr))
      | (refine R_br rfl rfl (fun _ => ?_) (fun _ => ?_))
      | (refine R_ri rfl rfl ?_)
      | (refine R_rz rfl rfl (Or.inl rfl) ?_)
      | (refine R_rz rfl rfl (Or.inr rfl) ?_)
      | (refine R_rz rfl rfl (b2_01 _) ?_)
      | (refine R_rl rfl rfl ?_)
      | (refine R_rv rfl rfl ?_)
      | (refine R_sw _ rfl rfl rfl ?_)
      | (refine R_go 9999 rfl rfl trivial ?_)
      | (refine R_go 9999 rfl rfl (by first | (show _ ∨ _; decide) | (show (_ ∨ _) ∧ (_ ∨ _); decide) | (show (_ ∨ _) ∧ (_ ∨ _) ∧ (_ ∨ _); decide)) ?_)
      | (refine R_go 9999 rfl rfl ?_ ?_))
  · rw [f18, cn, f18a]; exact ⟨hv, hv⟩
  · rw [f18, cn, f18a, cn, f18b, nI_1]
    refine ⟨_, rfl, rfl, fun g hg => ?_, fun i hi => ?_, ?_, by simp; omega, fun i hi => ?_⟩
    · simp only [List.mem_cons, List.not_mem_nil, or_false, not_or] at hg
      rw [up3_g hg.1, up3_g hg.2.2.1, up3_g hg.2.1, hF.1 g (by simp; exact hg.2.2.2)]
    · rw [up3_g (by decide), up3_g (by decide), up3_g (by decide), hF.2 25 i (by omega)]
    · rw [up3_self]; simp
    · rw [List.length_append, List.length_singleton] at hi
      by_cases e : i = R.length
      · subst e
        rw [gd_e]
        refine ⟨fun f hf => ?_, ?_, ?_⟩
        · rw [up3_g (by decide), up3_g (by decide), up3_g (by decide)]; exact hq1 f hf
        · rw [up3_g (by decide), up3_g (by decide), up3_self]
        · rw [up3_g (by decide), up3_self]
      · have := hr i (by omega)
        rw [gd_l (by omega)]
        refine ⟨fun f hf => ?_, ?_, ?_⟩
        · rw [up3_g (by decide), up3_g (by decide), up3_g (by decide), hF.2 25 i e]; exact this.1 f hf
        · rw [up3_g (by decide), up3_g (by decide), up3_s e, hF.1 20 (by decide)]; exact this.2.1
        · rw [up3_g (by decide), up3_s e, up3_g (by decide), hF.1 21 (by decide)]; exact this.2.2
