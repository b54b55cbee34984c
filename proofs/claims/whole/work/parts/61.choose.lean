theorem l_groupOf {P : List (List Tk × Nat)} {R : List Rw} (hP : okP P) (f v w : Nat) (hf : f < 8) (hv : v ≤ 20) (hw : w ≤ 3) {A : FI} {B : FJ} (hR : RMR A R) (hE : RME A P R) : ∀ (m k : Nat), k + m = R.length → ∀ o, Rn 4 mtX12_groupOf 10 [some (.inr (.inr (some (31, 0)))), some (.inl (nI f)), some (.inl (nI v)), some (.inl (nI w)), some (.inl (nI (mbN P R f v w k))), some (.inl (nI k)), o] [] (hp A B) (Ret (some (.inl (nI (mbN P R f v w R.length)))) (hp A B)) := by
  intro m
  have h24 := hR.2.1
  induction m with
  | zero =>
    intro k hk o
    have ek : R.length = k := by omega
    have n1 : A 31 0 52 ≤ nI k := by rw [hR.1, ek]; exact Int32.le_refl _
    refine R_go 9999 rfl rfl trivial ?_
    refine R_br rfl rfl (fun _ => ?_) (fun h => absurd n1 h)
    repeat' (first
        | (refine R_br rfl rfl (fun hbr => absurd hbr (by first | decide | (with_reducible assumption))) (fun _ => ?_))
        | (refine R_br rfl rfl (fun _ => ?_) (fun hbr => absurd (by first | decide | (with_reducible assumption)) hbr))
        | (refine R_br rfl rfl (fun _ => ?_) (fun _ => ?_))
        | (refine R_ri rfl rfl ?_)
        | (refine R_rz rfl rfl (Or.inl rfl) ?_)
        | (refine R_rz rfl rfl (Or.inr rfl) ?_)
        | (refine R_rz rfl rfl (b2_01 _) ?_)
        | (refine R_rl rfl rfl ?_)
        | (refine R_rv rfl rfl ?_)
        | (refine R_sw _ rfl rfl rfl ?_)
        | (refine R_go 9999 rfl rfl trivial ?_)
        | (refine R_go 9999 rfl rfl (by first | (show _ ∨ _; decide) | (show (_ ∨ _) ∧ (_ ∨ _); decide) | (show (_ ∨ _) ∧ (_ ∨ _) ∧ (_ ∨ _); decide)) ?_)
        | (refine R_go 9999 rfl rfl ?_ ?_))
    rw [ek]; exact ret_i rfl rfl
  | succ m ih =>
    intro k hk o
    have tk := ti k (by omega)
    have tl := ti R.length (by omega)
    have tv := ti v (by omega)
    have ck : (nI k).toNatClampNeg = k := nI_clamp (by omega)
    have hvk : vp_in (nI k) 24 := vpN (n := 24) (by omega) rfl
    have em : (8 : Int32) * nI k + nI f = nI (8 * k + f) := by rw [show (8 : Int32) * nI k = nI (8 * k) from pk_mul 8 k, nI_add]
    have hvm : vp_in (nI (8 * k + f)) 192 := vpN (n := 192) (by omega) rfl
    have cm : (nI (8 * k + f)).toNatClampNeg = 8 * k + f := nI_clamp (by omega)
    obtain ⟨hq, e61⟩ := hR.2.2 k (by omega)
    obtain ⟨eq, hqo⟩ := hq f hf
    have e62 := hE k (by omega)
    have hrl := rnS_le hP (R.getD k d0).1
    have tr := ti (rnS (R.getD k d0).1 0 P).1 (by omega)
    unfold okF at hqo
    have tq := ti ((R.getD k d0).1 f) (by omega)
    have hyes : ((R.getD k d0).1 f = v ∧ isA P w (R.getD k d0)) → ∀ o, Rn 4 mtX12_groupOf 10 [some (.inr (.inr (some (31, 0)))), some (.inl (nI f)), some (.inl (nI v)), some (.inl (nI w)), some (.inl (nI (mbN P R f v w k) + 1)), some (.inl (nI k + 1)), o] [] (hp A B) (Ret (some (.inl (nI (mbN P R f v w R.length)))) (hp A B)) := fun h o => by
      rw [nI_1, nI_1, ← mbN_y h]
      exact ih (k + 1) (by omega) o
    have hno : ¬ ((R.getD k d0).1 f = v ∧ isA P w (R.getD k d0)) → ∀ o, Rn 4 mtX12_groupOf 10 [some (.inr (.inr (some (31, 0)))), some (.inl (nI f)), some (.inl (nI v)), some (.inl (nI w)), some (.inl (nI (mbN P R f v w k) + 0)), some (.inl (nI k + 1)), o] [] (hp A B) (Ret (some (.inl (nI (mbN P R f v w R.length)))) (hp A B)) := fun h o => by
      rw [nI_1, show nI (mbN P R f v w k) + 0 = nI (mbN P R f v w k) from nI_add _ 0, ← mbN_n h]
      exact ih (k + 1) (by omega) o
    refine R_go 9999 rfl rfl trivial ?_
    refine R_br rfl rfl (fun h => absurd h (by rw [hR.1]; (simp only [i_eq, i_lt, i_le, Int32.reduceToInt, true_and, and_true, false_and, and_false, or_false, false_or, or_true, true_or, ne_eq] at *; first | done | omega))) (fun _ => ?_)
    refine R_go 9999 rfl rfl (by rw [em]; exact hvm) ?_
    rw [em, cm, eq]
    by_cases hvf : (R.getD k d0).1 f = v
    · have n1 : nI ((R.getD k d0).1 f) = nI v := by rw [hvf]
      refine R_br rfl rfl (fun _ => ?_) (fun h => absurd n1 h)
      have hlet : ∀ {Q : Option AV → AH → Prop} (o : Option AV), ((rnS (R.getD k d0).1 0 P).1 = 1 → Rn 4 mtX12_groupOf 52 [some (.inr (.inr (some (31, 0)))), some (.inl (nI f)), some (.inl (nI v)), some (.inl (nI w)), some (.inl (nI (mbN P R f v w k))), some (.inl (nI k)), o] [] (hp A B) Q) → (¬ (rnS (R.getD k d0).1 0 P).1 = 1 → Rn 4 mtX12_groupOf 72 [some (.inr (.inr (some (31, 0)))), some (.inl (nI f)), some (.inl (nI v)), some (.inl (nI w)), some (.inl (nI (mbN P R f v w k))), some (.inl (nI k)), o] [] (hp A B) Q) → Rn 4 mtX12_groupOf 41 [some (.inr (.inr (some (31, 0)))), some (.inl (nI f)), some (.inl (nI v)), some (.inl (nI w)), some (.inl (nI (mbN P R f v w k))), some (.inl (nI k)), o] [] (hp A B) Q := by
        intro Q o k1 k2
        refine R_go 9999 rfl rfl hvk ?_
        rw [ck, e62]
        refine R_br rfl rfl (fun h => k1 (by (simp only [i_eq, i_lt, i_le, Int32.reduceToInt, true_and, and_true, false_and, and_false, or_false, false_or, or_true, true_or, ne_eq] at *; first | done | omega))) (fun h => k2 (fun z => h (by rw [z]; rfl)))
      have hgood : ∀ {Q : Option AV → AH → Prop} (o : Option AV), ((R.getD k d0).2 = 1 → Rn 4 mtX12_groupOf 68 [some (.inr (.inr (some (31, 0)))), some (.inl (nI f)), some (.inl (nI v)), some (.inl (nI w)), some (.inl (nI (mbN P R f v w k))), some (.inl (nI k)), o] [] (hp A B) Q) → (¬ (R.getD k d0).2 = 1 → Rn 4 mtX12_groupOf 72 [some (.inr (.inr (some (31, 0)))), some (.inl (nI f)), some (.inl (nI v)), some (.inl (nI w)), some (.inl (nI (mbN P R f v w k))), some (.inl (nI k)), o] [] (hp A B) Q) → Rn 4 mtX12_groupOf 57 [some (.inr (.inr (some (31, 0)))), some (.inl (nI f)), some (.inl (nI v)), some (.inl (nI w)), some (.inl (nI (mbN P R f v w k))), some (.inl (nI k)), o] [] (hp A B) Q := by
        intro Q o k1 k2
        refine R_go 9999 rfl rfl hvk ?_
        rw [ck, e61]
        exact R_br rfl rfl k1 k2
      have h68 : isA P w (R.getD k d0) → ∀ o, Rn 4 mtX12_groupOf 68 [some (.inr (.inr (some (31, 0)))), some (.inl (nI f)), some (.inl (nI v)), some (.inl (nI w)), some (.inl (nI (mbN P R f v w k))), some (.inl (nI k)), o] [] (hp A B) (Ret (some (.inl (nI (mbN P R f v w R.length)))) (hp A B)) := by
        intro hi o
        refine R_go 9999 rfl rfl trivial ?_
        refine R_br rfl rfl (fun h => absurd h (by decide)) (fun _ => ?_)
        refine R_go 10 rfl rfl trivial ?_
        exact hyes ⟨hvf, hi⟩ _
      have h72 : ¬ isA P w (R.getD k d0) → ∀ o, Rn 4 mtX12_groupOf 72 [some (.inr (.inr (some (31, 0)))), some (.inl (nI f)), some (.inl (nI v)), some (.inl (nI w)), some (.inl (nI (mbN P R f v w k))), some (.inl (nI k)), o] [] (hp A B) (Ret (some (.inl (nI (mbN P R f v w R.length)))) (hp A B)) := by
        intro hi o
        refine R_go 9999 rfl rfl trivial ?_
        refine R_br rfl rfl (fun _ => ?_) (fun h => absurd rfl h)
        refine R_go 10 rfl rfl trivial ?_
        exact hno (fun z => hi z.2) _
      have hd2 : ¬ (2 : Int32) = 0 := by decide
      refine R_go 9999 rfl rfl hd2 ?_
      rcases (show w = 0 ∨ w = 1 ∨ w = 2 ∨ w = 3 by omega) with rfl | rfl | rfl | rfl
      · refine R_br rfl rfl (fun _ => ?_) (fun h => absurd (by decide) h)
        refine R_go 9999 rfl rfl trivial ?_
        refine R_br rfl rfl (fun _ => h68 (isA_0 _) _) (fun h => absurd (by decide) h)
      · refine R_br rfl rfl (fun h => absurd h (by decide)) (fun _ => ?_)
        refine hlet _ (fun h => ?_) (fun h => h72 (fun z => h ((isA_1 _).mp z)) _)
        refine R_go 9999 rfl rfl trivial ?_
        refine R_br rfl rfl (fun _ => h68 ((isA_1 _).mpr h) _) (fun h => absurd (by decide) h)
      · refine R_br rfl rfl (fun _ => ?_) (fun h => absurd (by decide) h)
        refine R_go 9999 rfl rfl trivial ?_
        refine R_br rfl rfl (fun h => absurd h (by decide)) (fun _ => ?_)
        exact hgood _ (fun h => h68 ⟨fun z => by omega, fun _ => h⟩ _) (fun h => h72 (fun z => h (z.2 (Or.inl rfl))) _)
      · refine R_br rfl rfl (fun h => absurd h (by decide)) (fun _ => ?_)
        refine hlet _ (fun h => ?_) (fun h => h72 (fun z => h (z.1 (Or.inr rfl))) _)
        refine R_go 9999 rfl rfl trivial ?_
        refine R_br rfl rfl (fun h => absurd h (by decide)) (fun _ => ?_)
        exact hgood _ (fun h2 => h68 ⟨fun _ => h, fun _ => h2⟩ _) (fun h2 => h72 (fun z => h2 (z.2 (Or.inr rfl))) _)
    · have n1 : ¬ nI ((R.getD k d0).1 f) = nI v := by (simp only [i_eq, i_lt, i_le, Int32.reduceToInt, true_and, and_true, false_and, and_false, or_false, false_or, or_true, true_or, ne_eq] at *; first | done | omega)
      refine R_br rfl rfl (fun h => absurd h n1) (fun _ => ?_)
      refine R_go 9999 rfl rfl trivial ?_
      refine R_br rfl rfl (fun _ => ?_) (fun h => absurd rfl h)
      refine R_go 10 rfl rfl trivial ?_
      exact hno (fun z => hvf z.1) _
theorem m_groupOf {P : List (List Tk × Nat)} {R : List Rw} (hP : okP P) (f v w : Nat) (hf : f < 8) (hv : v ≤ 20) (hw : w ≤ 3) {A : FI} {B : FJ} (hG : RMG A P) (hR : RMR A R) : MV 4 3 mtX12_groupOf [.inr (.inr (some (31, 0))), .inl (nI f), .inl (nI v), .inl (nI w)] (hp A B) (fun r h' => ∃ A' B', h' = hp A' B' ∧ r = some (.inl (nI (mbN P R f v w R.length))) ∧ FmZ A A' ∧ FmJ [49] B B') := by
  refine MV_of caX12_groupOf (L := [some (.inr (.inr (some (31, 0)))), some (.inl (nI f)), some (.inl (nI v)), some (.inl (nI w)), none, none, none]) rfl rfl ?_
  refine R_go 9999 rfl rfl trivial ?_
  refine R_cv rfl (m_runAllM hP hG hR) rfl rfl rfl rfl rfl (Nat.le_of_ble_eq_true rfl) rfl ?_
  rintro z h' ⟨A1, B1, rfl, rfl, hF1, hJ1, hE1⟩
  refine R_go 10 rfl rfl trivial ?_
  refine R_mono (fun r h' z => ?_) (l_groupOf hP f v w hf hv hw (RMR_fr hR hF1 (by decide) (by decide)) hE1 R.length 0 (by omega) none)
  obtain ⟨rfl, rfl⟩ := z
  exact ⟨A1, B1, rfl, rfl, FmO_w hF1 (by decide) (by decide), hJ1⟩
theorem m_groupM {P : List (List Tk × Nat)} {R : List Rw} (hP : okG P) (f v k : Int32) {A : FI} {B : FJ} (hG : RMG A P) (hR : RMR A R) : MV 5 3 mtX12_group [.inr (.inr (some (31, 0))), .inl f, .inl v, .inl k] (hp A B) (fun r h' => ∃ A' B', h' = hp A' B' ∧ r = some (.inl (grA P R f v k)) ∧ FmZ A A' ∧ FmJ [49] B B') := by
  refine MV_of caX12_group (L := [some (.inr (.inr (some (31, 0)))), some (.inl f), some (.inl v), some (.inl k)]) rfl rfl ?_
  unfold grA
  by_cases h1 : 0 ≤ f.toInt ∧ f.toInt < 8
  · rw [if_pos h1]
    obtain ⟨a, ha, rfl⟩ := vp_in_of (x := f) (n := 8) (vp_of h1.1 (by omega)) (by decide)
    by_cases hv : 0 ≤ v.toInt ∧ v.toInt ≤ 20
    · by_cases hk : 0 ≤ k.toInt ∧ k.toInt ≤ 3
      · rw [if_pos ⟨hv, hk⟩]
        obtain ⟨b, hb, rfl⟩ := vp_in_of (x := v) (n := 21) (vp_of hv.1 (by omega)) (by decide)
        obtain ⟨c, hc, rfl⟩ := vp_in_of (x := k) (n := 4) (vp_of hk.1 (by omega)) (by decide)
        rw [nI_clamp (show a < 2 ^ 31 by omega), nI_clamp (show b < 2 ^ 31 by omega), nI_clamp (show c < 2 ^ 31 by omega)]
        have hin := m_inT (nI c) 0 3 (by simp only [Int64.reduceToInt]; exact hk) A B
        by_cases h3 : P = []
        · rw [if_pos h3]
          have n1 : A 31 0 21 = 0 := by rw [hG.1, isE.2 h3]; rfl
          repeat' (first
              | (refine R_br rfl rfl (fun hbr => absurd hbr (by first | decide | (with_reducible assumption))) (fun _ => ?_))
              | (refine R_br rfl rfl (fun _ => ?_) (fun hbr => absurd (by first | decide | (with_reducible assumption)) hbr))
              | (refine R_br rfl rfl (fun _ => ?_) (fun _ => ?_))
              | (refine R_ri rfl rfl ?_)
              | (refine R_rz rfl rfl (Or.inl rfl) ?_)
              | (refine R_rz rfl rfl (Or.inr rfl) ?_)
              | (refine R_rz rfl rfl (b2_01 _) ?_)
              | (refine R_rl rfl rfl ?_)
              | (refine R_rv rfl rfl ?_)
              | (refine R_csr rfl (m_isFieldMT a ha _ _) rfl rfl rfl (Nat.le_of_ble_eq_true rfl) rfl ?_)
              | (refine R_csr rfl (m_isNumberT _ hv _ _) rfl rfl rfl (Nat.le_of_ble_eq_true rfl) rfl ?_)
              | (refine R_csr rfl (hin) rfl rfl rfl (Nat.le_of_ble_eq_true rfl) rfl ?_)
              | (refine R_sw _ rfl rfl rfl ?_)
              | (refine R_go 9999 rfl rfl trivial ?_)
              | (refine R_go 9999 rfl rfl (by first | (show _ ∨ _; decide) | (show (_ ∨ _) ∧ (_ ∨ _); decide) | (show (_ ∨ _) ∧ (_ ∨ _) ∧ (_ ∨ _); decide)) ?_)
              | (refine R_go 9999 rfl rfl ?_ ?_))
          exact ⟨A, B, rfl, rfl, FmO_rf, FmJ_rf⟩
        · rw [if_neg h3]
          have n1 : ¬ A 31 0 21 = 0 := by rw [hG.1, isE.1 h3]; decide
          repeat' (first
              | (refine R_br rfl rfl (fun hbr => absurd hbr (by first | decide | (with_reducible assumption))) (fun _ => ?_))
              | (refine R_br rfl rfl (fun _ => ?_) (fun hbr => absurd (by first | decide | (with_reducible assumption)) hbr))
              | (refine R_br rfl rfl (fun _ => ?_) (fun _ => ?_))
              | (refine R_ri rfl rfl ?_)
              | (refine R_rz rfl rfl (Or.inl rfl) ?_)
              | (refine R_rz rfl rfl (Or.inr rfl) ?_)
              | (refine R_rz rfl rfl (b2_01 _) ?_)
              | (refine R_rl rfl rfl ?_)
              | (refine R_rv rfl rfl ?_)
              | (refine R_csr rfl (m_isFieldMT a ha _ _) rfl rfl rfl (Nat.le_of_ble_eq_true rfl) rfl ?_)
              | (refine R_csr rfl (m_isNumberT _ hv _ _) rfl rfl rfl (Nat.le_of_ble_eq_true rfl) rfl ?_)
              | (refine R_csr rfl (hin) rfl rfl rfl (Nat.le_of_ble_eq_true rfl) rfl ?_)
              | (refine R_cv rfl (m_groupOf (okG_ne hP h3) a b c ha (by omega) (by omega) hG hR) rfl rfl rfl rfl rfl (Nat.le_of_ble_eq_true rfl) rfl ?_)
              | (refine R_sw _ rfl rfl rfl ?_)
              | (refine R_go 9999 rfl rfl trivial ?_)
              | (refine R_go 9999 rfl rfl (by first | (show _ ∨ _; decide) | (show (_ ∨ _) ∧ (_ ∨ _); decide) | (show (_ ∨ _) ∧ (_ ∨ _) ∧ (_ ∨ _); decide)) ?_)
              | (refine R_go 9999 rfl rfl ?_ ?_))
          rintro z h' ⟨A1, B1, rfl, rfl, hF1, hJ1⟩
          repeat' (first
              | (refine R_br rfl rfl (fun hbr => absurd hbr (by first | decide | (with_reducible assumption))) (fun _ => ?_))
              | (refine R_br rfl rfl (fun _ => ?_) (fun hbr => absurd (by first | decide | (with_reducible assumption)) hbr))
              | (refine R_br rfl rfl (fun _ => ?_) (fun _ => ?_))
              | (refine R_ri rfl rfl ?_)
              | (refine R_rz rfl rfl (Or.inl rfl) ?_)
              | (refine R_rz rfl rfl (Or.inr rfl) ?_)
              | (refine R_rz rfl rfl (b2_01 _) ?_)
              | (refine R_rl rfl rfl ?_)
              | (refine R_rv rfl rfl ?_)
              | (refine R_sw _ rfl rfl rfl ?_)
              | (refine R_go 9999 rfl rfl trivial ?_)
              | (refine R_go 9999 rfl rfl (by first | (show _ ∨ _; decide) | (show (_ ∨ _) ∧ (_ ∨ _); decide) | (show (_ ∨ _) ∧ (_ ∨ _) ∧ (_ ∨ _); decide)) ?_)
              | (refine R_go 9999 rfl rfl ?_ ?_))
          exact ⟨A1, B1, rfl, rfl, hF1, hJ1⟩
      · rw [if_neg (fun z => hk z.2)]
        repeat' (first
            | (refine R_br rfl rfl (fun hbr => absurd hbr (by first | decide | (with_reducible assumption))) (fun _ => ?_))
            | (refine R_br rfl rfl (fun _ => ?_) (fun hbr => absurd (by first | decide | (with_reducible assumption)) hbr))
            | (refine R_br rfl rfl (fun _ => ?_) (fun _ => ?_))
            | (refine R_ri rfl rfl ?_)
            | (refine R_rz rfl rfl (Or.inl rfl) ?_)
            | (refine R_rz rfl rfl (Or.inr rfl) ?_)
            | (refine R_rz rfl rfl (b2_01 _) ?_)
            | (refine R_rl rfl rfl ?_)
            | (refine R_rv rfl rfl ?_)
            | (refine R_csr rfl (m_isFieldMT a ha _ _) rfl rfl rfl (Nat.le_of_ble_eq_true rfl) rfl ?_)
            | (refine R_csr rfl (m_isNumberT _ hv _ _) rfl rfl rfl (Nat.le_of_ble_eq_true rfl) rfl ?_)
            | (refine R_csr rfl (m_inF k 0 3 (by simp only [Int64.reduceToInt]; exact hk) _ _) rfl rfl rfl (Nat.le_of_ble_eq_true rfl) rfl ?_)
            | (refine R_sw _ rfl rfl rfl ?_)
            | (refine R_go 9999 rfl rfl trivial ?_)
            | (refine R_go 9999 rfl rfl (by first | (show _ ∨ _; decide) | (show (_ ∨ _) ∧ (_ ∨ _); decide) | (show (_ ∨ _) ∧ (_ ∨ _) ∧ (_ ∨ _); decide)) ?_)
            | (refine R_go 9999 rfl rfl ?_ ?_))
        exact ⟨A, B, rfl, rfl, FmO_rf, FmJ_rf⟩
    · rw [if_neg (fun z => hv z.1)]
      repeat' (first
          | (refine R_br rfl rfl (fun hbr => absurd hbr (by first | decide | (with_reducible assumption))) (fun _ => ?_))
          | (refine R_br rfl rfl (fun _ => ?_) (fun hbr => absurd (by first | decide | (with_reducible assumption)) hbr))
          | (refine R_br rfl rfl (fun _ => ?_) (fun _ => ?_))
          | (refine R_ri rfl rfl ?_)
          | (refine R_rz rfl rfl (Or.inl rfl) ?_)
          | (refine R_rz rfl rfl (Or.inr rfl) ?_)
          | (refine R_rz rfl rfl (b2_01 _) ?_)
          | (refine R_rl rfl rfl ?_)
          | (refine R_rv rfl rfl ?_)
          | (refine R_csr rfl (m_isFieldMT a ha _ _) rfl rfl rfl (Nat.le_of_ble_eq_true rfl) rfl ?_)
          | (refine R_csr rfl (m_isNumberF _ hv _ _) rfl rfl rfl (Nat.le_of_ble_eq_true rfl) rfl ?_)
          | (refine R_sw _ rfl rfl rfl ?_)
          | (refine R_go 9999 rfl rfl trivial ?_)
          | (refine R_go 9999 rfl rfl (by first | (show _ ∨ _; decide) | (show (_ ∨ _) ∧ (_ ∨ _); decide) | (show (_ ∨ _) ∧ (_ ∨ _) ∧ (_ ∨ _); decide)) ?_)
          | (refine R_go 9999 rfl rfl ?_ ?_))
      exact ⟨A, B, rfl, rfl, FmO_rf, FmJ_rf⟩
  · rw [if_neg h1]
    repeat' (first
        | (refine R_br rfl rfl (fun hbr => absurd hbr (by first | decide | (with_reducible assumption))) (fun _ => ?_))
        | (refine R_br rfl rfl (fun _ => ?_) (fun hbr => absurd (by first | decide | (with_reducible assumption)) hbr))
        | (refine R_br rfl rfl (fun _ => ?_) (fun _ => ?_))
        | (refine R_ri rfl rfl ?_)
        | (refine R_rz rfl rfl (Or.inl rfl) ?_)
        | (refine R_rz rfl rfl (Or.inr rfl) ?_)
        | (refine R_rz rfl rfl (b2_01 _) ?_)
        | (refine R_rl rfl rfl ?_)
        | (refine R_rv rfl rfl ?_)
        | (refine R_csr rfl (m_isFieldMN f h1 _ _) rfl rfl rfl (Nat.le_of_ble_eq_true rfl) rfl ?_)
        | (refine R_sw _ rfl rfl rfl ?_)
        | (refine R_go 9999 rfl rfl trivial ?_)
        | (refine R_go 9999 rfl rfl (by first | (show _ ∨ _; decide) | (show (_ ∨ _) ∧ (_ ∨ _); decide) | (show (_ ∨ _) ∧ (_ ∨ _) ∧ (_ ∨ _); decide)) ?_)
        | (refine R_go 9999 rfl rfl ?_ ?_))
    exact ⟨A, B, rfl, rfl, FmO_rf, FmJ_rf⟩
/-- binomial -/
def bin : Nat → Nat → Nat
  | _, 0 => 1
  | 0, _ + 1 => 0
  | n + 1, k + 1 => bin n k + bin n (k + 1)
theorem bin_z (n : Nat) : bin n 0 = 1 := by cases n <;> rfl
theorem bin_s (n k : Nat) : bin (n + 1) (k + 1) = bin n k + bin n (k + 1) := rfl
theorem bin_gt : ∀ (n k : Nat), n < k → bin n k = 0 := by
  intro n
  induction n with
  | zero => intro k h; cases k with
    | zero => omega
    | succ k => rfl
  | succ n ih => intro k h; cases k with
    | zero => omega
    | succ k => rw [bin_s, ih k (by omega), ih (k + 1) (by omega)]
theorem bin_pos : ∀ (n k : Nat), k ≤ n → 0 < bin n k := by
  intro n
  induction n with
  | zero => intro k h; have : k = 0 := by omega
            subst this; decide
  | succ n ih => intro k h; cases k with
    | zero => rw [bin_z]; decide
    | succ k => rw [bin_s]; have := ih k (by omega); omega
theorem bin_le : ∀ (n k : Nat), bin n k ≤ 2 ^ n := by
  intro n
  induction n with
  | zero => intro k; cases k with
    | zero => decide
    | succ k => exact Nat.zero_le _
  | succ n ih => intro k; cases k with
    | zero => rw [bin_z]; exact Nat.one_le_two_pow
    | succ k => rw [bin_s, Nat.pow_succ]; have := ih k; have := ih (k + 1); omega
theorem bin_ab : ∀ (n k : Nat), (k + 1) * bin (n + 1) (k + 1) = (n + 1) * bin n k := by
  intro n
  induction n with
  | zero => intro k; cases k with
    | zero => rfl
    | succ k => simp [bin]
  | succ n ih =>
    intro k
    cases k with
    | zero =>
      have := ih 0
      rw [bin_z] at this
      rw [bin_s, bin_z]
      omega
    | succ j =>
      have h1 := ih j
      have h2 := ih (j + 1)
      rw [bin_s (n + 1) (j + 1)]
      have h3 := bin_s n j
      generalize bin (n + 1) (j + 1) = X at *
      generalize bin (n + 1) (j + 1 + 1) = Y at *
      generalize bin n j = U at *
      generalize bin n (j + 1) = V at *
      subst h3
      have e1 : (j + 1 + 1) * (U + V + Y) = ((j + 1) * (U + V) + (U + V)) + (j + 1 + 1) * Y := by
        rw [Nat.mul_add, Nat.add_mul (j + 1) 1]; omega
      rw [e1, h1, h2, Nat.add_mul (n + 1) 1, Nat.mul_add (n + 1) U V]
      omega
theorem bin_nx {n i : Nat} (h : i ≤ n) : (i + 1) * bin n (i + 1) = (n - i) * bin n i := by
  have h1 := bin_ab n i
  rw [bin_s, Nat.mul_add] at h1
  have e : (n + 1) * bin n i = (i + 1) * bin n i + (n - i) * bin n i := by
    rw [← Nat.add_mul]; congr 1; omega
  omega
