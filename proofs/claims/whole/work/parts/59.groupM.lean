def RME (A : FI) (P : List (List Tk × Nat)) (R : List Rw) : Prop := ∀ i, i < R.length → A 62 0 i = nI (rnS (R.getD i d0).1 0 P).1
abbrev FmV (A A' : FI) : Prop := FmO 31 [50, 51, 52, 62] [36] A A'
theorem l_runAllM {P : List (List Tk × Nat)} {R : List Rw} (hP : okP P) (A0 : FI) (B0 : FJ) : ∀ (m k : Nat) (A : FI) (B : FJ), k + m = R.length → RMG A P → RMR A R → FmV A0 A → FmJ [49] B0 B → (∀ i, i < k → A 62 0 i = nI (rnS (R.getD i d0).1 0 P).1) → Rn 3 mtX12_runAll 2 [some (.inr (.inr (some (31, 0)))), some (.inl (nI k))] [] (hp A B) (fun r h' => ∃ A' B', r = none ∧ h' = hp A' B' ∧ FmV A0 A' ∧ FmJ [49] B0 B' ∧ RME A' P R) := by
  intro m
  induction m with
  | zero =>
    intro k A B hk hG hR hF hJ hA
    have ek : R.length = k := by omega
    have n1 : A 31 0 52 ≤ nI k := by rw [hR.1, ek]; exact Int32.le_refl _
    refine R_go 9999 rfl rfl trivial ?_
    refine R_br rfl rfl (fun _ => ?_) (fun h => absurd n1 h)
    repeat' (first
        | (refine R_br rfl rfl (fun hbr => absurd hbr (by first | decide | (with_reducible assumption))) (fun _ => ?_))
        | (refine R_br rfl rfl (fun _ => ?_) (fun hbr => absurd (by first | decide | (with_reducible assumption)) hbr))
        | (refine R_br rfl rfl (fun _ => ?_) (fun _ => ?_))
        | (refine R_ri rfl rfl ?_)
        | (refine R_rz rfl rfl (Or.inl rfl) ?_)
        | (refine R_rz rfl rfl (Or.inr rfl) ?_)
        | (refine R_rz rfl rfl (b2_01 _) ?_)
        | (refine R_rl rfl rfl ?_)
        | (refine R_rv rfl rfl ?_)
        | (refine R_sw _ rfl rfl rfl ?_)
        | (refine R_go 9999 rfl rfl trivial ?_)
        | (refine R_go 9999 rfl rfl (by first | (show _ ∨ _; decide) | (show (_ ∨ _) ∧ (_ ∨ _); decide) | (show (_ ∨ _) ∧ (_ ∨ _) ∧ (_ ∨ _); decide)) ?_)
        | (refine R_go 9999 rfl rfl ?_ ?_))
    exact ⟨A, B, rfl, rfl, hF, hJ, fun i hi => hA i (by omega)⟩
  | succ m ih =>
    intro k A B hk hG hR hF hJ hA
    have h24 := hR.2.1
    have tk := ti k (by omega)
    have tl := ti R.length (by omega)
    have ck : (nI k).toNatClampNeg = k := nI_clamp (by omega)
    refine R_go 9999 rfl rfl trivial ?_
    refine R_br rfl rfl (fun h => absurd h (by rw [hR.1]; (simp only [i_eq, i_lt, i_le, Int32.reduceToInt, true_and, and_true, false_and, and_false, or_false, false_or, or_true, true_or, ne_eq] at *; first | done | omega))) (fun _ => ?_)
    refine R_go 9999 rfl rfl trivial ?_
    refine R_cv rfl (m_takeRow (show k < R.length by omega) hR) rfl rfl rfl rfl rfl (Nat.le_of_ble_eq_true rfl) rfl ?_
    rintro z h' ⟨A1, rfl, rfl, hF1, hq⟩
    refine R_go 9999 rfl rfl trivial ?_
    refine R_cv rfl (m_runWho hP (RMG_fr hG hF1 (by decide) (by decide)) hq) rfl rfl rfl rfl rfl (Nat.le_of_ble_eq_true rfl) rfl ?_
    rintro z h' ⟨A2, B2, rfl, rfl, -, hF2, hJ2⟩
    have hF3 : FmV A (up3 A2 62 0 k (nI (rnS (R.getD k d0).1 0 P).1)) := FmO_ug (FmO_tr (FmO_w hF1 (by decide) (by decide)) (FmO_w hF2 (by decide) (by decide))) (by decide) (by decide)
    refine R_go 2 rfl rfl (vpN (n := 24) (by omega) rfl) ?_
    rw [ck, nI_1]
    refine ih (k + 1) _ B2 (by omega) (RMG_fr hG hF3 (by decide) (by decide)) (RMR_fr hR hF3 (by decide) (by decide)) (FmO_tr hF hF3) (FmJ_tr hJ hJ2) (fun i hi => ?_)
    by_cases e : i = k
    · subst e; rw [up3_self]
    · rw [up3_s e, hF2.1 62 (by decide) (by decide), hF1.1 62 (by decide) (by decide)]; exact hA i (by omega)
theorem m_runAllM {P : List (List Tk × Nat)} {R : List Rw} (hP : okP P) {A : FI} {B : FJ} (hG : RMG A P) (hR : RMR A R) : MV 3 0 mtX12_runAll [.inr (.inr (some (31, 0)))] (hp A B) (fun r h' => ∃ A' B', r = none ∧ h' = hp A' B' ∧ FmV A A' ∧ FmJ [49] B B' ∧ RME A' P R) := by
  refine MV_of caX12_runAll (L := [some (.inr (.inr (some (31, 0)))), none]) rfl rfl ?_
  refine R_go 2 rfl rfl trivial ?_
  exact l_runAllM hP A B R.length 0 A B (by omega) hG hR FmO_rf FmJ_rf (fun i hi => by omega)
/-- told, and within a span or not -/
def cgP (f a b : Nat) (wi : Bool) (q : Nat → Nat) : Prop := q f ≠ 99 ∧ ((a ≤ q f ∧ q f ≤ b) ↔ wi = true)
noncomputable def gcM (R : List Rw) (f a b : Nat) (wi : Bool) : Nat → Nat
  | 0 => 0
  | n + 1 => gcM R f a b wi n + @ite _ (cgP f a b wi (R.getD n d0).1) (Classical.propDecidable _) 1 0
noncomputable def gcL (P : List (List Tk × Nat)) (R : List Rw) (f a b : Nat) (wi : Bool) : Nat → Nat
  | 0 => 0
  | n + 1 => gcL P R f a b wi n + @ite _ (cgP f a b wi (R.getD n d0).1 ∧ (rnS (R.getD n d0).1 0 P).1 = 1) (Classical.propDecidable _) 1 0
theorem ite_y {p : Prop} (h : p) (a b : Nat) : @ite _ p (Classical.propDecidable _) a b = a := @if_pos _ (Classical.propDecidable _) h _ _ _
theorem ite_n {p : Prop} (h : ¬ p) (a b : Nat) : @ite _ p (Classical.propDecidable _) a b = b := @if_neg _ (Classical.propDecidable _) h _ _ _
theorem gcM_y {R : List Rw} {f a b n : Nat} {wi : Bool} (h : cgP f a b wi (R.getD n d0).1) : gcM R f a b wi (n + 1) = gcM R f a b wi n + 1 := by rw [gcM, ite_y h]
theorem gcM_n {R : List Rw} {f a b n : Nat} {wi : Bool} (h : ¬ cgP f a b wi (R.getD n d0).1) : gcM R f a b wi (n + 1) = gcM R f a b wi n := by rw [gcM, ite_n h]; rfl
theorem gcL_y {P : List (List Tk × Nat)} {R : List Rw} {f a b n : Nat} {wi : Bool} (h : cgP f a b wi (R.getD n d0).1) (h1 : (rnS (R.getD n d0).1 0 P).1 = 1) : gcL P R f a b wi (n + 1) = gcL P R f a b wi n + 1 := by rw [gcL, ite_y ⟨h, h1⟩]
theorem gcL_n {P : List (List Tk × Nat)} {R : List Rw} {f a b n : Nat} {wi : Bool} (h : ¬ (cgP f a b wi (R.getD n d0).1 ∧ (rnS (R.getD n d0).1 0 P).1 = 1)) : gcL P R f a b wi (n + 1) = gcL P R f a b wi n := by rw [gcL, ite_n h]; rfl
theorem gcM_le (R : List Rw) (f a b : Nat) (wi : Bool) (n : Nat) : gcM R f a b wi n ≤ n := by
  induction n with
  | zero => exact Nat.le_refl _
  | succ n ih =>
    by_cases h : cgP f a b wi (R.getD n d0).1
    · rw [gcM_y h]; omega
    · rw [gcM_n h]; omega
theorem gcL_le (P : List (List Tk × Nat)) (R : List Rw) (f a b : Nat) (wi : Bool) (n : Nat) : gcL P R f a b wi n ≤ gcM R f a b wi n := by
  induction n with
  | zero => exact Nat.le_refl _
  | succ n ih =>
    by_cases h : cgP f a b wi (R.getD n d0).1
    · rw [gcM_y h]
      by_cases h1 : (rnS (R.getD n d0).1 0 P).1 = 1
      · rw [gcL_y h h1]; omega
      · rw [gcL_n (fun z => h1 z.2)]; omega
    · rw [gcM_n h, gcL_n (fun z => h z.1)]; exact ih
theorem isA_0 {P : List (List Tk × Nat)} (r : Rw) : isA P 0 r := ⟨fun z => by omega, fun z => by omega⟩
theorem isA_1 {P : List (List Tk × Nat)} (r : Rw) : isA P 1 r ↔ (rnS r.1 0 P).1 = 1 := ⟨fun z => z.1 (Or.inl rfl), fun z => ⟨fun _ => z, fun y => by omega⟩⟩
theorem cgP_v {f v : Nat} (hv : v ≤ 20) (q : Nat → Nat) : cgP f v v true q ↔ q f = v := by
  unfold cgP
  simp only [iff_true]
  omega
theorem gcM_mb {P : List (List Tk × Nat)} {R : List Rw} {f v : Nat} (hv : v ≤ 20) (n : Nat) : gcM R f v v true n = mbN P R f v 0 n := by
  induction n with
  | zero => rfl
  | succ n ih =>
    by_cases h : (R.getD n d0).1 f = v
    · rw [gcM_y ((cgP_v hv _).mpr h), mbN_y ⟨h, isA_0 _⟩, ih]
    · rw [gcM_n (fun z => h ((cgP_v hv _).mp z)), mbN_n (fun z => h z.1), ih]
theorem gcL_mb {P : List (List Tk × Nat)} {R : List Rw} {f v : Nat} (hv : v ≤ 20) (n : Nat) : gcL P R f v v true n = mbN P R f v 1 n := by
  induction n with
  | zero => rfl
  | succ n ih =>
    by_cases h : (R.getD n d0).1 f = v
    · by_cases h1 : (rnS (R.getD n d0).1 0 P).1 = 1
      · rw [gcL_y ((cgP_v hv _).mpr h) h1, mbN_y ⟨h, (isA_1 _).mpr h1⟩, ih]
      · rw [gcL_n (fun z => h1 z.2), mbN_n (fun z => h1 ((isA_1 _).mp z.2)), ih]
    · rw [gcL_n (fun z => h ((cgP_v hv _).mp z.1)), mbN_n (fun z => h z.1), ih]
theorem l_countGroup {P : List (List Tk × Nat)} {R : List Rw} (hP : okP P) (f a b : Nat) (wi : Bool) (hf : f < 8) (ha : a ≤ 20) (hb : b ≤ 20) (A0 : FI) (B : FJ) : ∀ (m k : Nat) (A : FI), k + m = R.length → RMR A R → RME A P R → FmO 31 [] [56, 57] A0 A → A 31 0 56 = nI (gcM R f a b wi k) → A 31 0 57 = nI (gcL P R f a b wi k) → ∀ o, Rn 1 mtX12_countGroup 13 [some (.inr (.inr (some (31, 0)))), some (.inl (nI f)), some (.inl (nI a)), some (.inl (nI b)), some (.inl (bI wi)), some (.inl (nI k)), o] [] (hp A B) (fun r h' => ∃ A', r = none ∧ h' = hp A' B ∧ FmO 31 [] [56, 57] A0 A' ∧ A' 31 0 56 = nI (gcM R f a b wi R.length) ∧ A' 31 0 57 = nI (gcL P R f a b wi R.length)) := by
  intro m
  induction m with
  | zero =>
    intro k A hk hR hE hF e1 e2 o
    have ek : R.length = k := by omega
    have n1 : A 31 0 52 ≤ nI k := by rw [hR.1, ek]; exact Int32.le_refl _
    refine R_go 9999 rfl rfl trivial ?_
    refine R_br rfl rfl (fun _ => ?_) (fun h => absurd n1 h)
    repeat' (first
        | (refine R_br rfl rfl (fun hbr => absurd hbr (by first | decide | (with_reducible assumption))) (fun _ => ?_))
        | (refine R_br rfl rfl (fun _ => ?_) (fun hbr => absurd (by first | decide | (with_reducible assumption)) hbr))
        | (refine R_br rfl rfl (fun _ => ?_) (fun _ => ?_))
        | (refine R_ri rfl rfl ?_)
        | (refine R_rz rfl rfl (Or.inl rfl) ?_)
        | (refine R_rz rfl rfl (Or.inr rfl) ?_)
        | (refine R_rz rfl rfl (b2_01 _) ?_)
        | (refine R_rl rfl rfl ?_)
        | (refine R_rv rfl rfl ?_)
        | (refine R_sw _ rfl rfl rfl ?_)
        | (refine R_go 9999 rfl rfl trivial ?_)
        | (refine R_go 9999 rfl rfl (by first | (show _ ∨ _; decide) | (show (_ ∨ _) ∧ (_ ∨ _); decide) | (show (_ ∨ _) ∧ (_ ∨ _) ∧ (_ ∨ _); decide)) ?_)
        | (refine R_go 9999 rfl rfl ?_ ?_))
    exact ⟨A, rfl, rfl, hF, by rw [ek]; exact e1, by rw [ek]; exact e2⟩
  | succ m ih =>
    intro k A hk hR hE hF e1 e2 o
    have h24 := hR.2.1
    have tk := ti k (by omega)
    have tl := ti R.length (by omega)
    have ck : (nI k).toNatClampNeg = k := nI_clamp (by omega)
    have hvk : vp_in (nI k) 24 := vpN (n := 24) (by omega) rfl
    have em : (8 : Int32) * nI k + nI f = nI (8 * k + f) := by rw [show (8 : Int32) * nI k = nI (8 * k) from pk_mul 8 k, nI_add]
    have hvm : vp_in (nI (8 * k + f)) 192 := vpN (n := 192) (by omega) rfl
    have cm : (nI (8 * k + f)).toNatClampNeg = 8 * k + f := nI_clamp (by omega)
    obtain ⟨hq, -⟩ := hR.2.2 k (by omega)
    obtain ⟨eq, hqo⟩ := hq f hf
    have e62 := hE k (by omega)
    have hrl := rnS_le hP (R.getD k d0).1
    have tr := ti (rnS (R.getD k d0).1 0 P).1 (by omega)
    unfold okF at hqo
    have tq := ti ((R.getD k d0).1 f) (by omega)
    have ta := ti a (by omega)
    have tb := ti b (by omega)
    have hno : ¬ cgP f a b wi (R.getD k d0).1 → ∀ o, Rn 1 mtX12_countGroup 13 [some (.inr (.inr (some (31, 0)))), some (.inl (nI f)), some (.inl (nI a)), some (.inl (nI b)), some (.inl (bI wi)), some (.inl (nI (k + 1))), o] [] (hp A B) (fun r h' => ∃ A', r = none ∧ h' = hp A' B ∧ FmO 31 [] [56, 57] A0 A' ∧ A' 31 0 56 = nI (gcM R f a b wi R.length) ∧ A' 31 0 57 = nI (gcL P R f a b wi R.length)) := fun hn o => ih (k + 1) A (by omega) hR hE hF (by rw [gcM_n hn]; exact e1) (by rw [gcL_n (fun z => hn z.1)]; exact e2) o
    refine R_go 9999 rfl rfl trivial ?_
    refine R_br rfl rfl (fun h => absurd h (by rw [hR.1]; (simp only [i_eq, i_lt, i_le, Int32.reduceToInt, true_and, and_true, false_and, and_false, or_false, false_or, or_true, true_or, ne_eq] at *; first | done | omega))) (fun _ => ?_)
    refine R_go 9999 rfl rfl (by rw [em]; exact hvm) ?_
    rw [em, cm, eq]
    by_cases h99 : (R.getD k d0).1 f = 99
    · have n99 : nI ((R.getD k d0).1 f) = 99 := by rw [h99]; rfl
      refine R_br rfl rfl (fun _ => ?_) (fun h => absurd n99 h)
      refine R_go 13 rfl rfl trivial ?_
      rw [nI_1]
      exact hno (fun z => z.1 h99) _
    · have n99 : ¬ nI ((R.getD k d0).1 f) = 99 := by (simp only [i_eq, i_lt, i_le, Int32.reduceToInt, true_and, and_true, false_and, and_false, or_false, false_or, or_true, true_or, ne_eq] at *; first | done | omega)
      refine R_br rfl rfl (fun h => absurd h n99) (fun _ => ?_)
      refine R_go 9999 rfl rfl trivial ?_
      have hgo : ∀ x : Int32, (x = bI wi ↔ cgP f a b wi (R.getD k d0).1) → Rn 1 mtX12_countGroup 53 [some (.inr (.inr (some (31, 0)))), some (.inl (nI f)), some (.inl (nI a)), some (.inl (nI b)), some (.inl (bI wi)), some (.inl (nI k)), some (.inl (nI ((R.getD k d0).1 f)))] [.inl x] (hp A B) (fun r h' => ∃ A', r = none ∧ h' = hp A' B ∧ FmO 31 [] [56, 57] A0 A' ∧ A' 31 0 56 = nI (gcM R f a b wi R.length) ∧ A' 31 0 57 = nI (gcL P R f a b wi R.length)) := by
        intro x hx
        refine R_go 9999 rfl rfl trivial ?_
        by_cases hc : cgP f a b wi (R.getD k d0).1
        · refine R_br rfl rfl (fun _ => ?_) (fun h => absurd (hx.mpr hc) h)
          have g57 : ∀ y, up3 A 31 0 56 y 31 0 57 = nI (gcL P R f a b wi k) := fun y => by rw [up3_s (by decide)]; exact e2
          have g62 : ∀ y, up3 A 31 0 56 y 62 0 k = nI (rnS (R.getD k d0).1 0 P).1 := fun y => by rw [up3_g (by decide)]; exact e62
          have hF2 : ∀ y z, FmO 31 [] [56, 57] A (up3 (up3 A 31 0 56 y) 31 0 57 z) := fun y z => (by first | exact FmO_rf | (repeat' (first | exact FmO_rf | (with_reducible assumption) | (refine FmO_up ?_ (by decide)) | (refine FmO_ug ?_ (by decide) (by decide)))))
          refine R_go 9999 rfl rfl hvk ?_
          dsimp only [fgt]
          rw [ck, e1, nI_1, g57, g62]
          by_cases h1 : (rnS (R.getD k d0).1 0 P).1 = 1
          · have n1 : nI (rnS (R.getD k d0).1 0 P).1 = 1 := by rw [h1]; rfl
            refine R_br rfl rfl (fun _ => ?_) (fun h => absurd n1 h)
            refine R_go 13 rfl rfl trivial ?_
            rw [nI_1, nI_1]
            exact ih (k + 1) _ (by omega) (RMR_fr hR (hF2 _ _) (by decide) (by decide)) (fun i hi => by rw [up3_g (by decide), up3_g (by decide)]; exact hE i hi) (FmO_tr hF (hF2 _ _)) (by rw [up3_s (by decide), up3_self, gcM_y hc]) (by rw [up3_self, gcL_y hc h1]) _
          · have n1 : ¬ nI (rnS (R.getD k d0).1 0 P).1 = 1 := by (simp only [i_eq, i_lt, i_le, Int32.reduceToInt, true_and, and_true, false_and, and_false, or_false, false_or, or_true, true_or, ne_eq] at *; first | done | omega)
            refine R_br rfl rfl (fun h => absurd h n1) (fun _ => ?_)
            refine R_go 13 rfl rfl trivial ?_
            rw [show nI (gcL P R f a b wi k) + 0 = nI (gcL P R f a b wi k) from nI_add _ 0, nI_1]
            exact ih (k + 1) _ (by omega) (RMR_fr hR (hF2 _ _) (by decide) (by decide)) (fun i hi => by rw [up3_g (by decide), up3_g (by decide)]; exact hE i hi) (FmO_tr hF (hF2 _ _)) (by rw [up3_s (by decide), up3_self, gcM_y hc]) (by rw [up3_self, gcL_n (fun z => h1 z.2)]) _
        · refine R_br rfl rfl (fun h => absurd (hx.mp h) hc) (fun _ => ?_)
          refine R_go 13 rfl rfl trivial ?_
          rw [nI_1]
          exact hno hc _
      by_cases hin : a ≤ (R.getD k d0).1 f ∧ (R.getD k d0).1 f ≤ b
      · refine R_csr rfl (m_inT (nI ((R.getD k d0).1 f)) (nI a).toInt64 (nI b).toInt64 (by rw [i_l, i_l]; omega) _ _) rfl rfl rfl (Nat.le_of_ble_eq_true rfl) rfl ?_
        refine hgo 1 ?_
        unfold cgP
        cases wi with
        | true => simp only [iff_true, bI]; exact ⟨fun _ => ⟨h99, hin⟩, fun _ => rfl⟩
        | false => exact ⟨fun z => absurd z (by decide), fun z => absurd (z.2.mp hin) (by decide)⟩
      · refine R_csr rfl (m_inF (nI ((R.getD k d0).1 f)) (nI a).toInt64 (nI b).toInt64 (by rw [i_l, i_l]; omega) _ _) rfl rfl rfl (Nat.le_of_ble_eq_true rfl) rfl ?_
        refine hgo 0 ?_
        unfold cgP
        cases wi with
        | true => exact ⟨fun z => absurd z (by decide), fun z => absurd (z.2.mpr rfl) hin⟩
        | false => exact ⟨fun _ => ⟨h99, ⟨fun z => absurd z hin, fun z => absurd z (by decide)⟩⟩, fun _ => rfl⟩
theorem m_countGroup {P : List (List Tk × Nat)} {R : List Rw} (hP : okP P) (f a b : Nat) (wi : Bool) (hf : f < 8) (ha : a ≤ 20) (hb : b ≤ 20) {A : FI} {B : FJ} (hR : RMR A R) (hE : RME A P R) : MV 1 4 mtX12_countGroup [.inr (.inr (some (31, 0))), .inl (nI f), .inl (nI a), .inl (nI b), .inl (bI wi)] (hp A B) (fun r h' => ∃ A', r = none ∧ h' = hp A' B ∧ FmO 31 [] [56, 57] A A' ∧ A' 31 0 56 = nI (gcM R f a b wi R.length) ∧ A' 31 0 57 = nI (gcL P R f a b wi R.length)) := by
  refine MV_of caX12_countGroup (L := [some (.inr (.inr (some (31, 0)))), some (.inl (nI f)), some (.inl (nI a)), some (.inl (nI b)), some (.inl (bI wi)), none, none]) rfl rfl ?_
  refine R_go 13 rfl rfl trivial ?_
  have hF : FmO 31 [] [56, 57] A (up3 (up3 A 31 0 56 0) 31 0 57 0) := (by first | exact FmO_rf | (repeat' (first | exact FmO_rf | (with_reducible assumption) | (refine FmO_up ?_ (by decide)) | (refine FmO_ug ?_ (by decide) (by decide)))))
  refine R_mono (fun r h' z => ?_) (l_countGroup hP f a b wi hf ha hb _ B R.length 0 _ (by omega) (RMR_fr hR hF (by decide) (by decide)) (fun i hi => by rw [up3_g (by decide), up3_g (by decide)]; exact hE i hi) FmO_rf (by rw [up3_s (by decide), up3_self]; rfl) (by rw [up3_self]; rfl) none)
  obtain ⟨A', a1, a2, a3, a4⟩ := z
  exact ⟨A', a1, a2, FmO_tr hF a3, a4⟩
