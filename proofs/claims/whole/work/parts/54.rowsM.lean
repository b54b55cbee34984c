def stR (LS : List (List Tk)) : Int32 × List (List Tk) := if LS.length = 0 then (-103, LS) else (nI (LS.length - 1), LS.dropLast)
theorem gd_dl {α : Type} (l : List α) (d : α) (j : Nat) (hj : j < l.length - 1) : l.dropLast.getD j d = l.getD j d := by
  simp [List.getD_eq_getElem?_getD, List.getElem?_dropLast, hj, List.getElem?_eq_getElem (show j < l.length by omega)]
theorem m_strikeM {LS : List (List Tk)} {A : FI} {B : FJ} (hR : RML A LS) (h6 : LS.length ≤ 6) : MV 0 0 mtX12_strike [.inr (.inr (some (31, 0)))] (hp A B) (fun r h' => ∃ A', h' = hp A' B ∧ r = some (.inl (stR LS).1) ∧ RML A' (stR LS).2 ∧ FmO 31 [] [28] A A') := by
  refine MV_of caX12_strike (L := [some (.inr (.inr (some (31, 0))))]) rfl rfl ?_
  obtain ⟨e, h⟩ := hR
  unfold stR
  by_cases h0 : LS.length = 0
  · rw [if_pos h0]
    have n1 : A 31 0 28 = 0 := by rw [e, h0]; rfl
    repeat' (first
        | (refine R_br rfl rfl (fun hbr => absurd hbr (by first | decide | (with_reducible assumption))) (fun _ => ?_))
        | (refine R_br rfl rfl (fun _ => ?_) (fun hbr => absurd (by first | decide | (with_reducible assumption)) hbr))
        | (refine R_br rfl rfl (fun _ => ?_) (fun _ => ?_))
        | (refine R_ri rfl rfl ?_)
        | (refine R_rz rfl rfl (Or.inl rfl) ?_)
        | (refine R_rz rfl rfl (Or.inr rfl) ?_)
        | (refine R_rz rfl rfl (b2_01 _) ?_)
        | (refine R_rl rfl rfl ?_)
        | (refine R_rv rfl rfl ?_)
        | (refine R_sw _ rfl rfl rfl ?_)
        | (refine R_go 9999 rfl rfl trivial ?_)
        | (refine R_go 9999 rfl rfl (by first | (show _ ∨ _; decide) | (show (_ ∨ _) ∧ (_ ∨ _); decide) | (show (_ ∨ _) ∧ (_ ∨ _) ∧ (_ ∨ _); decide)) ?_)
        | (refine R_go 9999 rfl rfl ?_ ?_))
    exact ⟨A, rfl, rfl, ⟨e, h⟩, FmO_rf⟩
  · rw [if_neg h0]
    obtain ⟨n, hn⟩ : ∃ n, LS.length = n + 1 := ⟨LS.length - 1, by omega⟩
    have tn := ti (n + 1) (by omega)
    have e' : A 31 0 28 = nI (n + 1) := by rw [e, hn]
    have n1 : ¬ A 31 0 28 = 0 := by rw [e']; (simp only [i_eq, i_lt, i_le, Int32.reduceToInt, true_and, and_true, false_and, and_false, or_false, false_or, or_true, true_or, ne_eq] at *; first | done | omega)
    repeat' (first
        | (refine R_br rfl rfl (fun hbr => absurd hbr (by first | decide | (with_reducible assumption))) (fun _ => ?_))
        | (refine R_br rfl rfl (fun _ => ?_) (fun hbr => absurd (by first | decide | (with_reducible assumption)) hbr))
        | (refine R_br rfl rfl (fun _ => ?_) (fun _ => ?_))
        | (refine R_ri rfl rfl ?_)
        | (refine R_rz rfl rfl (Or.inl rfl) ?_)
        | (refine R_rz rfl rfl (Or.inr rfl) ?_)
        | (refine R_rz rfl rfl (b2_01 _) ?_)
        | (refine R_rl rfl rfl ?_)
        | (refine R_rv rfl rfl ?_)
        | (refine R_sw _ rfl rfl rfl ?_)
        | (refine R_go 9999 rfl rfl trivial ?_)
        | (refine R_go 9999 rfl rfl (by first | (show _ ∨ _; decide) | (show (_ ∨ _) ∧ (_ ∨ _); decide) | (show (_ ∨ _) ∧ (_ ∨ _) ∧ (_ ∨ _); decide)) ?_)
        | (refine R_go 9999 rfl rfl ?_ ?_))
    rw [e', nI_pred, up3_self]
    refine ⟨_, rfl, by rw [hn]; rfl, ⟨by rw [up3_self]; simp [hn], fun j hj => ?_⟩, (by first | exact FmO_rf | (repeat' (first | exact FmO_rf | (with_reducible assumption) | (refine FmO_up ?_ (by decide)) | (refine FmO_ug ?_ (by decide) (by decide)))))⟩
    rw [List.length_dropLast] at hj
    rw [up3_g (by decide), up3_g (by decide), up3_g (by decide), gd_dl _ _ _ hj]
    exact h j (by omega)
theorem m_strikeC {LS : List (List Tk)} {A : FI} {B : FJ} (hR : RCL A LS) (h6 : LS.length ≤ 6) : MV 1 0 mtX11_strike [.inr (.inr (some (0, 0)))] (hp A B) (fun r h' => ∃ A', h' = hp A' B ∧ r = some (.inl (stR LS).1) ∧ RCL A' (stR LS).2 ∧ FmO 1 [] [2] A A') := by
  refine MV_of caX11_strike (L := [some (.inr (.inr (some (0, 0))))]) rfl rfl ?_
  obtain ⟨e, h⟩ := hR
  unfold stR
  have tl := ti LS.length (by omega)
  by_cases h0 : LS.length = 0
  · rw [if_pos h0]
    have n1 : nI LS.length = 0 := by rw [h0]; rfl
    repeat' (first
        | (refine R_br rfl rfl (fun hbr => absurd hbr (by first | decide | (with_reducible assumption))) (fun _ => ?_))
        | (refine R_br rfl rfl (fun _ => ?_) (fun hbr => absurd (by first | decide | (with_reducible assumption)) hbr))
        | (refine R_br rfl rfl (fun _ => ?_) (fun _ => ?_))
        | (refine R_ri rfl rfl ?_)
        | (refine R_rz rfl rfl (Or.inl rfl) ?_)
        | (refine R_rz rfl rfl (Or.inr rfl) ?_)
        | (refine R_rz rfl rfl (b2_01 _) ?_)
        | (refine R_rl rfl rfl ?_)
        | (refine R_rv rfl rfl ?_)
        | (refine R_cvr rfl (m_lawsC e) rfl rfl rfl rfl rfl (Nat.le_of_ble_eq_true rfl) rfl ?_)
        | (refine R_sw _ rfl rfl rfl ?_)
        | (refine R_go 9999 rfl rfl trivial ?_)
        | (refine R_go 9999 rfl rfl (by first | (show _ ∨ _; decide) | (show (_ ∨ _) ∧ (_ ∨ _); decide) | (show (_ ∨ _) ∧ (_ ∨ _) ∧ (_ ∨ _); decide)) ?_)
        | (refine R_go 9999 rfl rfl ?_ ?_))
    exact ⟨A, rfl, rfl, ⟨e, h⟩, FmO_rf⟩
  · rw [if_neg h0]
    obtain ⟨n, hn⟩ : ∃ n, LS.length = n + 1 := ⟨LS.length - 1, by omega⟩
    have tn := ti (n + 1) (by omega)
    have e' : A 1 0 2 = nI (n + 1) := by rw [e, hn]
    have n1 : ¬ nI LS.length = 0 := by (simp only [i_eq, i_lt, i_le, Int32.reduceToInt, true_and, and_true, false_and, and_false, or_false, false_or, or_true, true_or, ne_eq] at *; first | done | omega)
    have hd : MV 0 0 mtX3_dropLaw [.inr (.inr (some (1, 0)))] (hp A B) (Ret none (hp (up3 A 1 0 2 (nI n)) B)) := by
      refine MV_of caX3_dropLaw (L := [some (.inr (.inr (some (1, 0))))]) rfl rfl ?_
      repeat' (first
          | (refine R_br rfl rfl (fun hbr => absurd hbr (by first | decide | (with_reducible assumption) | (simp only [e']; first | decide | (with_reducible assumption)) | (simp only [i_eq, i_lt, i_le, Int32.reduceToInt, ne_eq, up3_self, nI_1, e']; first | done | omega))) (fun _ => ?_))
          | (refine R_br rfl rfl (fun _ => ?_) (fun hbr => absurd (by first | decide | (with_reducible assumption) | (simp only [e']; first | decide | (with_reducible assumption)) | (simp only [i_eq, i_lt, i_le, Int32.reduceToInt, ne_eq, up3_self, nI_1, e']; first | done | omega)) hbr))
          | (refine R_br rfl rfl (fun _ => ?_) (fun _ => ?_))
          | (refine R_ri rfl rfl ?_)
          | (refine R_rz rfl rfl (Or.inl rfl) ?_)
          | (refine R_rz rfl rfl (Or.inr rfl) ?_)
          | (refine R_rz rfl rfl (b2_01 _) ?_)
          | (refine R_rl rfl rfl ?_)
          | (refine R_rv rfl rfl ?_)
          | (refine R_sw _ rfl rfl rfl ?_)
          | (refine R_go 9999 rfl rfl trivial ?_)
          | (refine R_go 9999 rfl rfl (by first | (show _ ∨ _; decide) | (show (_ ∨ _) ∧ (_ ∨ _); decide) | (show (_ ∨ _) ∧ (_ ∨ _) ∧ (_ ∨ _); decide)) ?_)
          | (refine R_go 9999 rfl rfl ?_ ?_))
      rw [e', nI_pred]; exact ret_v rfl
    have e2 : up3 A 1 0 2 (nI n) 1 0 2 = nI n := up3_self
    repeat' (first
        | (refine R_br rfl rfl (fun hbr => absurd hbr (by first | decide | (with_reducible assumption))) (fun _ => ?_))
        | (refine R_br rfl rfl (fun _ => ?_) (fun hbr => absurd (by first | decide | (with_reducible assumption)) hbr))
        | (refine R_br rfl rfl (fun _ => ?_) (fun _ => ?_))
        | (refine R_ri rfl rfl ?_)
        | (refine R_rz rfl rfl (Or.inl rfl) ?_)
        | (refine R_rz rfl rfl (Or.inr rfl) ?_)
        | (refine R_rz rfl rfl (b2_01 _) ?_)
        | (refine R_rl rfl rfl ?_)
        | (refine R_rv rfl rfl ?_)
        | (refine R_cvr rfl (m_lawsC e) rfl rfl rfl rfl rfl (Nat.le_of_ble_eq_true rfl) rfl ?_)
        | (refine R_cvv rfl (hd) rfl rfl rfl rfl rfl (Nat.le_of_ble_eq_true rfl) rfl ?_)
        | (refine R_cvr rfl (m_lawsC e2) rfl rfl rfl rfl rfl (Nat.le_of_ble_eq_true rfl) rfl ?_)
        | (refine R_sw _ rfl rfl rfl ?_)
        | (refine R_go 9999 rfl rfl trivial ?_)
        | (refine R_go 9999 rfl rfl (by first | (show _ ∨ _; decide) | (show (_ ∨ _) ∧ (_ ∨ _); decide) | (show (_ ∨ _) ∧ (_ ∨ _) ∧ (_ ∨ _); decide)) ?_)
        | (refine R_go 9999 rfl rfl ?_ ?_))
    refine ⟨_, rfl, by rw [hn]; rfl, ⟨by rw [up3_self]; simp [hn], fun j hj => ?_⟩, (by first | exact FmO_rf | (repeat' (first | exact FmO_rf | (with_reducible assumption) | (refine FmO_up ?_ (by decide)) | (refine FmO_ug ?_ (by decide) (by decide)))))⟩
    rw [List.length_dropLast] at hj
    rw [gd_dl _ _ _ hj]
    exact RS_fr (h j (by omega)) (by rw [up3_g (by decide)]) (by rw [up3_g (by decide)]) (by rw [up3_g (by decide)])
/-- ROWS, as the reference holds them -/
def RMR (A : FI) (R : List Rw) : Prop := A 31 0 52 = nI R.length ∧ R.length ≤ 24 ∧ ∀ i, i < R.length → (∀ f, f < 8 → A 60 0 (8 * i + f) = nI ((R.getD i d0).1 f) ∧ okF ((R.getD i d0).1 f)) ∧ A 61 0 i = (R.getD i d0).2
theorem RMR_fr {A A' : FI} {R : List Rw} {gs ss : List Nat} (h : RMR A R) (hF : FmO 31 gs ss A A') (h1 : 60 ∉ gs ∧ 61 ∉ gs) (h2 : 52 ∉ ss) : RMR A' R := ⟨by rw [hF.2 52 h2]; exact h.1, h.2.1, fun i hi => by rw [hF.1 60 (by decide) h1.1, hF.1 61 (by decide) h1.2]; exact h.2.2 i hi⟩
noncomputable def rowA (R : List Rw) (x : Int64) (o : Int32) : Int32 × List Rw := @ite _ (prS x ∧ -1 ≤ o.toInt ∧ o.toInt ≤ 1) (Classical.propDecidable _) (if R.length = 24 then (-104, R) else (nI (R.length + 1), R ++ [(prQ x, o)])) (-102, R)
theorem rowA_y {R : List Rw} {x : Int64} {o : Int32} (h : prS x ∧ -1 ≤ o.toInt ∧ o.toInt ≤ 1) : rowA R x o = if R.length = 24 then (-104, R) else (nI (R.length + 1), R ++ [(prQ x, o)]) := @if_pos _ (Classical.propDecidable _) h _ _ _
theorem rowA_n {R : List Rw} {x : Int64} {o : Int32} (h : ¬ (prS x ∧ -1 ≤ o.toInt ∧ o.toInt ≤ 1)) : rowA R x o = (-102, R) := @if_neg _ (Classical.propDecidable _) h _ _ _
theorem l_rowM {n : Nat} (hn : n < 24) {q : Nat → Nat} {o : Int32} {x : Int64} {Q : Option AV → AH → Prop} (A0 : FI) (B : FJ) (hq : RPm A0 q) (h52 : A0 31 0 52 = nI n) (kk : ∀ A, FmO 31 [60] [] A0 A → (∀ f, f < 8 → A 60 0 (8 * n + f) = nI (q f)) → (∀ i, i < 8 * n → A 60 0 i = A0 60 0 i) → Rn 2 mtX12_row 73 [some (.inr (.inr (some (31, 0)))), some (.inr (.inl x)), none, some (.inl o), some (.inl 8)] [] (hp A B) Q) : ∀ (m k : Nat) (A : FI), k + m = 8 → FmO 31 [60] [] A0 A → (∀ f, f < k → A 60 0 (8 * n + f) = nI (q f)) → (∀ i, i < 8 * n → A 60 0 i = A0 60 0 i) → Rn 2 mtX12_row 38 [some (.inr (.inr (some (31, 0)))), some (.inr (.inl x)), none, some (.inl o), some (.inl (nI k))] [] (hp A B) Q := by
  intro m
  induction m with
  | zero =>
    intro k A hk hF hA hB
    have : k = 8 := by omega
    subst this
    refine R_go 9999 rfl rfl trivial ?_
    refine R_br rfl rfl (fun _ => ?_) (fun h => absurd (by decide) h)
    exact kk A hF hA hB
  | succ m ih =>
    intro k A hk hF hA hB
    have tk := ti k (by omega)
    have ck : (nI k).toNatClampNeg = k := nI_clamp (by omega)
    have hv : vp_in (nI k) 8 := vpN (n := 8) (by omega) rfl
    have e52 : A 31 0 52 = nI n := by rw [hF.2 52 (by simp)]; exact h52
    have e52w : A 52 0 k = nI (q k) := by rw [hF.1 52 (by decide) (by decide)]; exact (hq k (by omega)).1
    have em : (8 : Int32) * nI n + nI k = nI (8 * n + k) := by rw [show (8 : Int32) * nI n = nI (8 * n) from pk_mul 8 n, nI_add]
    have hvm : vp_in (nI (8 * n + k)) 192 := vpN (n := 192) (by omega) rfl
    have cm : (nI (8 * n + k)).toNatClampNeg = 8 * n + k := nI_clamp (by omega)
    refine R_go 9999 rfl rfl trivial ?_
    refine R_br rfl rfl (fun h => absurd h (by (simp only [i_eq, i_lt, i_le, Int32.reduceToInt, true_and, and_true, false_and, and_false, or_false, false_or, or_true, true_or, ne_eq] at *; first | done | omega))) (fun _ => ?_)
    refine R_go 38 rfl rfl ?_ ?_
    · rw [e52, em]; exact ⟨hvm, hv⟩
    rw [e52, em, cm, ck, e52w, nI_1]
    refine ih (k + 1) _ (by omega) (FmO_tr hF (by first | exact FmO_rf | (repeat' (first | exact FmO_rf | (with_reducible assumption) | (refine FmO_up ?_ (by decide)) | (refine FmO_ug ?_ (by decide) (by decide)))))) (fun f hf => ?_) (fun i hi => ?_)
    · by_cases e : f = k
      · subst e; rw [up3_self]
      · rw [up3_s (by omega)]; exact hA f (by omega)
    · rw [up3_s (by omega)]; exact hB i hi
theorem m_rowM {R : List Rw} {A : FI} {B : FJ} (hR : RMR A R) (x : Int64) (o : Int32) : MV 2 2 mtX12_row [.inr (.inr (some (31, 0))), .inr (.inl x), .inl o] (hp A B) (fun r h' => ∃ A', h' = hp A' B ∧ r = some (.inl (rowA R x o).1) ∧ RMR A' (rowA R x o).2 ∧ FmO 31 [52, 60, 61] [52] A A') := by
  refine MV_of caX12_row (L := [some (.inr (.inr (some (31, 0)))), some (.inr (.inl x)), none, some (.inl o), none]) rfl rfl ?_
  refine R_go 9999 rfl rfl trivial ?_
  refine R_cv rfl (m_takePerson x) rfl rfl rfl rfl rfl (Nat.le_of_ble_eq_true rfl) rfl ?_
  rintro r h' ⟨A1, rfl, hF1, ⟨hps, rfl, hq⟩ | ⟨hps, rfl⟩⟩
  · have hF1' : FmO 31 [52, 60, 61] [52] A A1 := FmO_w hF1 (by decide) (by decide)
    have hR1 := RMR_fr hR hF1 (by decide) (by decide)
    have h24 := hR.2.1
    have e52 := hR1.1
    have tn := ti R.length (by omega)
    by_cases ho : -1 ≤ o.toInt ∧ o.toInt ≤ 1
    · rw [rowA_y ⟨hps, ho⟩]
      have hin := m_inT o (-1) 1 (by simp only [Int64.reduceToInt]; exact ho) A1 B
      by_cases hf : R.length = 24
      · rw [if_pos hf]
        have n1 : A1 31 0 52 = 24 := by rw [e52, hf]; rfl
        repeat' (first
            | (refine R_br rfl rfl (fun hbr => absurd hbr (by first | decide | (with_reducible assumption))) (fun _ => ?_))
            | (refine R_br rfl rfl (fun _ => ?_) (fun hbr => absurd (by first | decide | (with_reducible assumption)) hbr))
            | (refine R_br rfl rfl (fun _ => ?_) (fun _ => ?_))
            | (refine R_ri rfl rfl ?_)
            | (refine R_rz rfl rfl (Or.inl rfl) ?_)
            | (refine R_rz rfl rfl (Or.inr rfl) ?_)
            | (refine R_rz rfl rfl (b2_01 _) ?_)
            | (refine R_rl rfl rfl ?_)
            | (refine R_rv rfl rfl ?_)
            | (refine R_csr rfl (hin) rfl rfl rfl (Nat.le_of_ble_eq_true rfl) rfl ?_)
            | (refine R_sw _ rfl rfl rfl ?_)
            | (refine R_go 9999 rfl rfl trivial ?_)
            | (refine R_go 9999 rfl rfl (by first | (show _ ∨ _; decide) | (show (_ ∨ _) ∧ (_ ∨ _); decide) | (show (_ ∨ _) ∧ (_ ∨ _) ∧ (_ ∨ _); decide)) ?_)
            | (refine R_go 9999 rfl rfl ?_ ?_))
        exact ⟨A1, rfl, rfl, hR1, hF1'⟩
      · rw [if_neg hf]
        have n1 : ¬ A1 31 0 52 = 24 := by rw [e52]; (simp only [i_eq, i_lt, i_le, Int32.reduceToInt, true_and, and_true, false_and, and_false, or_false, false_or, or_true, true_or, ne_eq] at *; first | done | omega)
        have cn : (nI R.length).toNatClampNeg = R.length := nI_clamp (by omega)
        refine R_br rfl rfl (fun h => absurd h (by decide)) (fun _ => ?_)
        refine R_go 9999 rfl rfl trivial ?_
        refine R_csr rfl hin rfl rfl rfl (Nat.le_of_ble_eq_true rfl) rfl ?_
        refine R_br rfl rfl (fun h => absurd h (by decide)) (fun _ => ?_)
        refine R_go 9999 rfl rfl trivial ?_
        refine R_br rfl rfl (fun h => absurd h n1) (fun _ => ?_)
        refine R_go 38 rfl rfl trivial ?_
        refine l_rowM (n := R.length) (by omega) A1 B hq e52 (fun A2 hF2 h8 hlo => ?_) 8 0 A1 rfl FmO_rf (fun f hf => by omega) (fun i _ => rfl)
        have f52 : A2 31 0 52 = nI R.length := by rw [hF2.2 52 (by simp)]; exact e52
        have f52' : ∀ y, up3 A2 61 0 R.length y 31 0 52 = nI R.length := fun y => by rw [up3_g (by decide)]; exact f52
        refine R_go 9999 rfl rfl (by rw [f52]; exact vpN (n := 24) (by omega) rfl) ?_
        refine R_ri rfl rfl ?_
        rw [f52, cn, f52', nI_1, up3_self]
        refine ⟨_, rfl, rfl, ⟨by rw [up3_self]; simp, by simp; omega, fun i hi => ?_⟩, FmO_up (FmO_ug (FmO_tr hF1' (FmO_w hF2 (by decide) (by decide))) (by decide) (by decide)) (by decide)⟩
        rw [List.length_append, List.length_singleton] at hi
        rw [up3_g (show 60 ≠ 31 by decide), up3_g (show 60 ≠ 61 by decide), up3_g (show 61 ≠ 31 by decide)]
        by_cases e : i = R.length
        · subst e
          rw [gd_e]
          exact ⟨fun f hf => ⟨h8 f hf, (hq f hf).2⟩, up3_self⟩
        · rw [gd_l (by omega), up3_s e, hF2.1 61 (by decide) (by decide)]
          obtain ⟨z1, z2⟩ := hR1.2.2 i (by omega)
          refine ⟨fun f hf => ?_, z2⟩
          rw [hlo _ (by omega)]
          exact z1 f hf
    · rw [rowA_n (fun z => ho z.2)]
      repeat' (first
          | (refine R_br rfl rfl (fun hbr => absurd hbr (by first | decide | (with_reducible assumption))) (fun _ => ?_))
          | (refine R_br rfl rfl (fun _ => ?_) (fun hbr => absurd (by first | decide | (with_reducible assumption)) hbr))
          | (refine R_br rfl rfl (fun _ => ?_) (fun _ => ?_))
          | (refine R_ri rfl rfl ?_)
          | (refine R_rz rfl rfl (Or.inl rfl) ?_)
          | (refine R_rz rfl rfl (Or.inr rfl) ?_)
          | (refine R_rz rfl rfl (b2_01 _) ?_)
          | (refine R_rl rfl rfl ?_)
          | (refine R_rv rfl rfl ?_)
          | (refine R_csr rfl (m_inF o (-1) 1 (by simp only [Int64.reduceToInt]; exact ho) _ _) rfl rfl rfl (Nat.le_of_ble_eq_true rfl) rfl ?_)
          | (refine R_sw _ rfl rfl rfl ?_)
          | (refine R_go 9999 rfl rfl trivial ?_)
          | (refine R_go 9999 rfl rfl (by first | (show _ ∨ _; decide) | (show (_ ∨ _) ∧ (_ ∨ _); decide) | (show (_ ∨ _) ∧ (_ ∨ _) ∧ (_ ∨ _); decide)) ?_)
          | (refine R_go 9999 rfl rfl ?_ ?_))
      exact ⟨A1, rfl, rfl, hR1, hF1'⟩
  · rw [rowA_n (fun z => hps z.1)]
    repeat' (first
        | (refine R_br rfl rfl (fun hbr => absurd hbr (by first | decide | (with_reducible assumption))) (fun _ => ?_))
        | (refine R_br rfl rfl (fun _ => ?_) (fun hbr => absurd (by first | decide | (with_reducible assumption)) hbr))
        | (refine R_br rfl rfl (fun _ => ?_) (fun _ => ?_))
        | (refine R_ri rfl rfl ?_)
        | (refine R_rz rfl rfl (Or.inl rfl) ?_)
        | (refine R_rz rfl rfl (Or.inr rfl) ?_)
        | (refine R_rz rfl rfl (b2_01 _) ?_)
        | (refine R_rl rfl rfl ?_)
        | (refine R_rv rfl rfl ?_)
        | (refine R_sw _ rfl rfl rfl ?_)
        | (refine R_go 9999 rfl rfl trivial ?_)
        | (refine R_go 9999 rfl rfl (by first | (show _ ∨ _; decide) | (show (_ ∨ _) ∧ (_ ∨ _); decide) | (show (_ ∨ _) ∧ (_ ∨ _) ∧ (_ ∨ _); decide)) ?_)
        | (refine R_go 9999 rfl rfl ?_ ?_))
    exact ⟨A1, rfl, rfl, RMR_fr hR hF1 (by decide) (by decide), FmO_w hF1 (by decide) (by decide)⟩
