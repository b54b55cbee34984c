theorem sw_out {pc : Nat} {d lo hi : Int} {offs : Array Int} {w : Int} {t : Nat} (h : w < lo ∨ hi < w) (e : toN ((pc : Int) + d) = some t) : swN pc d lo hi offs w = some t := by unfold swN; rw [if_pos h]; exact e
theorem m_countC {F : FS} {p : List Nat} {P : List (List Tk × Nat)} {LS : List (List Tk)} {R : List Rw} {sk md : Nat} {A : FI} {B : FJ} (hC : ClR A F p P LS R sk md) (x : Int32) : MV 1 1 mtX11_count [.inr (.inr (some (0, 0))), .inl x] (hp A B) (Ret (some (.inl (cnA p P LS R sk md x))) (hp A B)) := by
  obtain ⟨a, b, c, d, e, f, g⟩ := hC
  have enm : nmO (P, [], []) = nms (flP P) := by
    unfold nmO
    dsimp only
    rw [nmL_fl, show nms [] = [] from rfl, List.append_nil]
  have s4 : A 4 6 4 = nI (nms (flP P)).length := by have := c.2.2.2.1; rw [enm] at this; exact this
  refine MV_of caX11_count (L := [some (.inr (.inr (some (0, 0)))), some (.inl x)]) rfl rfl ?_
  unfold cnA
  by_cases hx : 0 ≤ x.toInt ∧ x.toInt ≤ 6
  · rw [if_pos hx]
    obtain ⟨j, hj, rfl⟩ := vp_in_of (x := x) (n := 7) (vp_of hx.1 (by omega)) (by decide)
    rw [nI_clamp (show j < 2 ^ 31 by omega)]
    rcases (show j = 0 ∨ j = 1 ∨ j = 2 ∨ j = 3 ∨ j = 4 ∨ j = 5 ∨ j = 6 by omega) with rfl | rfl | rfl | rfl | rfl | rfl | rfl
    · refine R_go 9999 rfl rfl trivial ?_
      refine R_sw _ rfl rfl rfl ?_
      refine R_go 9999 rfl rfl trivial ?_
      refine R_cvr rfl (m_linesS c.2.2.2.2) rfl rfl rfl rfl rfl (Nat.le_of_ble_eq_true rfl) rfl ?_
      exact R_ri rfl rfl (ret_i rfl rfl)
    · refine R_go 9999 rfl rfl trivial ?_
      refine R_sw _ rfl rfl rfl ?_
      refine R_go 9999 rfl rfl trivial ?_
      refine R_cvr rfl (m_lawsC d.1) rfl rfl rfl rfl rfl (Nat.le_of_ble_eq_true rfl) rfl ?_
      exact R_ri rfl rfl (ret_i rfl rfl)
    · refine R_go 9999 rfl rfl trivial ?_
      refine R_sw _ rfl rfl rfl ?_
      refine R_go 9999 rfl rfl trivial ?_
      refine R_cvr rfl (m_sizeR e.1) rfl rfl rfl rfl rfl (Nat.le_of_ble_eq_true rfl) rfl ?_
      exact R_ri rfl rfl (ret_i rfl rfl)
    · refine R_go 9999 rfl rfl trivial ?_
      refine R_sw _ rfl rfl rfl ?_
      refine R_go 9999 rfl rfl trivial ?_
      refine R_cvr rfl (m_sizeC b) rfl rfl rfl rfl rfl (Nat.le_of_ble_eq_true rfl) rfl ?_
      exact R_ri rfl rfl (ret_i rfl rfl)
    · refine R_go 9999 rfl rfl trivial ?_
      refine R_sw _ rfl rfl rfl ?_
      refine R_go 9999 rfl rfl trivial ?_
      refine R_cvr rfl (m_numbers s4) rfl rfl rfl rfl rfl (Nat.le_of_ble_eq_true rfl) rfl ?_
      exact R_ri rfl rfl (ret_i rfl rfl)
    · refine R_go 9999 rfl rfl trivial ?_
      refine R_sw _ rfl rfl rfl ?_
      refine R_go 9999 rfl rfl trivial ?_
      try dsimp only [fgt, fpt]
      rw [f]
      exact R_ri rfl rfl (ret_i rfl rfl)
    · refine R_go 9999 rfl rfl trivial ?_
      refine R_sw _ rfl rfl rfl ?_
      refine R_go 9999 rfl rfl trivial ?_
      try dsimp only [fgt, fpt]
      rw [g]
      exact R_ri rfl rfl (ret_i rfl rfl)
  · rw [if_neg hx]
    refine R_go 9999 rfl rfl trivial ?_
    refine R_sw x.toInt rfl rfl (sw_out (by omega) rfl) ?_
    repeat' (first
        | (refine R_br rfl rfl (fun hbr => absurd hbr (by first | decide | (with_reducible assumption))) (fun _ => ?_))
        | (refine R_br rfl rfl (fun _ => ?_) (fun hbr => absurd (by first | decide | (with_reducible assumption)) hbr))
        | (refine R_br rfl rfl (fun _ => ?_) (fun _ => ?_))
        | (refine R_ri rfl rfl ?_)
        | (refine R_rz rfl rfl (Or.inl rfl) ?_)
        | (refine R_rz rfl rfl (Or.inr rfl) ?_)
        | (refine R_rz rfl rfl (b2_01 _) ?_)
        | (refine R_rl rfl rfl ?_)
        | (refine R_rv rfl rfl ?_)
        | (refine R_sw _ rfl rfl rfl ?_)
        | (refine R_go 9999 rfl rfl trivial ?_)
        | (refine R_go 9999 rfl rfl (by first | (show _ ∨ _; decide) | (show (_ ∨ _) ∧ (_ ∨ _); decide) | (show (_ ∨ _) ∧ (_ ∨ _) ∧ (_ ∨ _); decide)) ?_)
        | (refine R_go 9999 rfl rfl ?_ ?_))
    exact ret_i rfl rfl
theorem cnA_n (p : List Nat) (P : List (List Tk × Nat)) (LS : List (List Tk)) (R : List Rw) (sk md : Nat) {j : Nat} (hj : j < 7) : cnA p P LS R sk md (nI j) = cnT p P LS R sk md j := by
  have tj := ti j (by omega)
  unfold cnA
  rw [if_pos (by omega), nI_clamp (show j < 2 ^ 31 by omega)]
def FGo (A : FI) (B : FJ) (x : Int64) : Option AV → AH → Prop := fun r h' => ∃ A' B', h' = hp A' B' ∧ r = some (.inr (.inl x)) ∧ Fm3 A A' ∧ FmJ [11] B B'
theorem l_foldG {F : FS} {P : List (List Tk × Nat)} {LS : List (List Tk)} {q : Nat → Nat} (hP : okG P) (hL : okL LS) (hW : WFF F) (h0 : Int64) {A0 : FI} {B0 : FJ} (hS : RS 6 A0 P []) (hR : RCL A0 LS) (hM : RCF A0 F) (hq : RPn 26 A0 q) : ∀ (m k : Nat) (A : FI) (B : FJ), k + m = 3 → Fm3 A0 A → FmJ [11] B0 B → Rn 5 mtX11_foldedGuest 5 [some (.inr (.inr (some (0, 0)))), some (.inr (.inl h0)), none, some (.inr (.inl (dgG F P LS q k h0))), none, some (.inl (nI k))] [] (hp A B) (FGo A0 B0 (dgG F P LS q 3 h0)) := by
  intro m
  induction m with
  | zero =>
    intro k A B hk hF hJ
    have : k = 3 := by omega
    subst this
    refine R_go 9999 rfl rfl trivial ?_
    refine R_br rfl rfl (fun _ => ?_) (fun h => absurd (by decide) h)
    refine R_go 9999 rfl rfl trivial ?_
    refine R_rl rfl rfl ?_
    exact ⟨A, B, rfl, rfl, hF, hJ⟩
  | succ m ih =>
    intro k A B hk hF hJ
    have tk := ti k (by omega)
    refine R_go 9999 rfl rfl trivial ?_
    refine R_br rfl rfl (fun h => absurd h (by (simp only [i_eq, i_lt, i_le, Int32.reduceToInt, true_and, and_true, false_and, and_false, or_false, false_or, or_true, true_or, ne_eq] at *; first | done | omega))) (fun _ => ?_)
    refine R_go 9999 rfl rfl trivial ?_
    refine R_cv rfl (m_ranGuest (B := B) k (by omega) hP hL hW (RS_3 hS hF) (RCL_3 hR hF) (fun g hg => by rw [FmO_Fm hF (by decide)]; exact hM g hg) (RPn_3 hq hF)) rfl rfl rfl rfl rfl (Nat.le_of_ble_eq_true rfl) rfl ?_
    rintro r h' ⟨A1, B1, rfl, rfl, hF1, hJ1⟩
    refine R_go 9999 rfl rfl trivial ?_
    refine R_csr rfl (m_foldC _ _ A1 B1) rfl rfl rfl (Nat.le_of_ble_eq_true rfl) rfl ?_
    refine R_go 5 rfl rfl trivial ?_
    rw [nI_1]
    exact ih (k + 1) A1 B1 (by omega) (FmO_tr hF hF1) (FmJ_tr hJ hJ1)
theorem m_foldG {F : FS} {P : List (List Tk × Nat)} {LS : List (List Tk)} {q : Nat → Nat} (hP : okG P) (hL : okL LS) (hW : WFF F) (h0 : Int64) {A : FI} {B : FJ} (hS : RS 6 A P []) (hR : RCL A LS) (hM : RCF A F) (hq : RPn 26 A q) : MV 5 1 mtX11_foldedGuest [.inr (.inr (some (0, 0))), .inr (.inl h0)] (hp A B) (FGo A B (dgG F P LS q 3 h0)) := by
  refine MV_of caX11_foldedGuest (L := [some (.inr (.inr (some (0, 0)))), some (.inr (.inl h0)), none, none, none, none]) rfl rfl ?_
  refine R_go 5 rfl rfl trivial ?_
  exact l_foldG hP hL hW h0 hS hR hM hq 3 0 A B rfl FmO_rf FmJ_rf
abbrev dgL (h : Int64) (o3 : Option AV) : List (Option AV) := [some (.inr (.inr (some (0, 0)))), some (.inr (.inl h)), none, o3]
theorem l_dg1 {h : Int64} {B : FJ} {A0 : FI} {Q : Option AV → AH → Prop} (kend : ∀ A, FmD A0 A → RPn 26 A (fun _ => 0) → Rn 6 mtX11_digest 41 (dgL h (some (.inl (nI 8)))) [] (hp A B) Q) : ∀ (m k : Nat) (A : FI), k + m = 8 → FmD A0 A → (∀ f, f < k → A 25 26 f = nI 0) → Rn 6 mtX11_digest 20 (dgL h (some (.inl (nI k)))) [] (hp A B) Q := by
  intro m
  induction m with
  | zero =>
    intro k A hk hF hq
    have : k = 8 := by omega
    subst this
    refine R_go 9999 rfl rfl trivial ?_
    refine R_br rfl rfl (fun _ => ?_) (fun h => absurd (by decide) h)
    exact kend A hF (RPn_20 (fun f hf => ⟨hq f hf, Nat.zero_le _⟩))
  | succ m ih =>
    intro k A hk hF hq
    have tk := ti k (by omega)
    refine R_go 9999 rfl rfl trivial ?_
    refine R_br rfl rfl (fun h => absurd h (by (simp only [i_eq, i_lt, i_le, Int32.reduceToInt, true_and, and_true, false_and, and_false, or_false, false_or, or_true, true_or, ne_eq] at *; first | done | omega))) (fun _ => ?_)
    refine R_go 9999 rfl rfl trivial ?_
    refine R_cvv rfl (m_putP (p := 26) (f := k) (by omega) 0 A B) rfl rfl rfl rfl rfl (Nat.le_of_ble_eq_true rfl) rfl ?_
    refine R_go 20 rfl rfl trivial ?_
    rw [nI_1]
    refine ih (k + 1) _ (by omega) (FmD_tr hF FmD_p) (fun f hf => ?_)
    by_cases e : f = k
    · subst e; exact up3_self
    · rw [up3_s e]; exact hq f (by omega)
theorem l_dg2 {F : FS} (hW : WFF F) {h : Int64} {B : FJ} {A0 : FI} (hM : RCF A0 F) {Q : Option AV → AH → Prop} (kend : ∀ A, FmD A0 A → RPn 26 A F.2.2.1 → Rn 6 mtX11_digest 78 (dgL h (some (.inl (nI 8)))) [] (hp A B) Q) : ∀ (m k : Nat) (A : FI), k + m = 8 → FmD A0 A → (∀ f, f < k → A 25 26 f = nI (F.2.2.1 f)) → Rn 6 mtX11_digest 49 (dgL h (some (.inl (nI k)))) [] (hp A B) Q := by
  intro m
  induction m with
  | zero =>
    intro k A hk hF hq
    have : k = 8 := by omega
    subst this
    refine R_go 9999 rfl rfl trivial ?_
    refine R_br rfl rfl (fun _ => ?_) (fun h => absurd (by decide) h)
    exact kend A hF (RPn_20 (fun f hf => ⟨hq f hf, (hW.1 f hf).2.2.1⟩))
  | succ m ih =>
    intro k A hk hF hq
    have tk := ti k (by omega)
    have htold := m_told k 2 (by omega) (by decide) A B
    rw [hF.1 2 (by decide) (by decide) (by decide) (by decide) (by decide), (hM k (by omega)).2.2.1] at htold
    refine R_go 9999 rfl rfl trivial ?_
    refine R_br rfl rfl (fun h => absurd h (by (simp only [i_eq, i_lt, i_le, Int32.reduceToInt, true_and, and_true, false_and, and_false, or_false, false_or, or_true, true_or, ne_eq] at *; first | done | omega))) (fun _ => ?_)
    refine R_go 9999 rfl rfl trivial ?_
    refine R_cvr rfl htold rfl rfl rfl rfl rfl (Nat.le_of_ble_eq_true rfl) rfl ?_
    refine R_cvv rfl (m_putP (p := 26) (f := k) (by omega) (nI (F.2.2.1 k)) A B) rfl rfl rfl rfl rfl (Nat.le_of_ble_eq_true rfl) rfl ?_
    refine R_go 49 rfl rfl trivial ?_
    rw [nI_1]
    refine ih (k + 1) _ (by omega) (FmD_tr hF FmD_p) (fun f hf => ?_)
    by_cases e : f = k
    · subst e; exact up3_self
    · rw [up3_s e]; exact hq f (by omega)
theorem l_dg3 {F : FS} {P : List (List Tk × Nat)} {R : List Rw} {h0 : Int64} {A : FI} {B : FJ} (hz : okW (whW F P R)) (hr : WCr A B (whW F P R)) {Q : Option AV → AH → Prop} (kend : ∀ o3, Rn 6 mtX11_digest 129 (dgL (dgW F P R 6 h0) o3) [] (hp A B) Q) : ∀ (m k : Nat), k + m = 6 → Rn 6 mtX11_digest 104 (dgL (dgW F P R k h0) (some (.inl (nI k)))) [] (hp A B) Q := by
  intro m
  induction m with
  | zero =>
    intro k hk
    have : k = 6 := by omega
    subst this
    refine R_go 9999 rfl rfl trivial ?_
    refine R_br rfl rfl (fun _ => ?_) (fun h => absurd (by decide) h)
    exact kend _
  | succ m ih =>
    intro k hk
    have tk := ti k (by omega)
    refine R_go 9999 rfl rfl trivial ?_
    refine R_br rfl rfl (fun h => absurd h (by (simp only [i_eq, i_lt, i_le, Int32.reduceToInt, true_and, and_true, false_and, and_false, or_false, false_or, or_true, true_or, ne_eq] at *; first | done | omega))) (fun _ => ?_)
    refine R_go 9999 rfl rfl trivial ?_
    refine R_cvr rfl (m_whereTold hz hr k (by omega)) rfl rfl rfl rfl rfl (Nat.le_of_ble_eq_true rfl) rfl ?_
    refine R_go 9999 rfl rfl trivial ?_
    refine R_csr rfl (m_foldC _ _ A B) rfl rfl rfl (Nat.le_of_ble_eq_true rfl) rfl ?_
    refine R_go 104 rfl rfl trivial ?_
    rw [nI_1]
    exact ih (k + 1) (by omega)
theorem l_dg4 {F : FS} {p : List Nat} {P : List (List Tk × Nat)} {LS : List (List Tk)} {R : List Rw} {sk md : Nat} {h0 : Int64} {A : FI} {B : FJ} (hC : ClR A F p P LS R sk md) {Q : Option AV → AH → Prop} (kend : Q (some (.inr (.inl (dgC p P LS R sk md 7 h0)))) (hp A B)) : ∀ (m k : Nat), k + m = 7 → Rn 6 mtX11_digest 140 (dgL (dgC p P LS R sk md k h0) (some (.inl (nI k)))) [] (hp A B) Q := by
  intro m
  induction m with
  | zero =>
    intro k hk
    have : k = 7 := by omega
    subst this
    refine R_go 9999 rfl rfl trivial ?_
    refine R_br rfl rfl (fun _ => ?_) (fun h => absurd (by decide) h)
    refine R_go 9999 rfl rfl trivial ?_
    exact R_rl rfl rfl kend
  | succ m ih =>
    intro k hk
    have tk := ti k (by omega)
    have hcn := m_countC (B := B) hC (nI k)
    rw [cnA_n _ _ _ _ _ _ (by omega)] at hcn
    refine R_go 9999 rfl rfl trivial ?_
    refine R_br rfl rfl (fun h => absurd h (by (simp only [i_eq, i_lt, i_le, Int32.reduceToInt, true_and, and_true, false_and, and_false, or_false, false_or, or_true, true_or, ne_eq] at *; first | done | omega))) (fun _ => ?_)
    refine R_go 9999 rfl rfl trivial ?_
    refine R_cvr rfl hcn rfl rfl rfl rfl rfl (Nat.le_of_ble_eq_true rfl) rfl ?_
    refine R_go 9999 rfl rfl trivial ?_
    refine R_csr rfl (m_foldC _ _ A B) rfl rfl rfl (Nat.le_of_ble_eq_true rfl) rfl ?_
    refine R_go 140 rfl rfl trivial ?_
    rw [nI_1]
    exact ih (k + 1) (by omega)
theorem dgW_0 (F : FS) (P : List (List Tk × Nat)) (R : List Rw) (h : Int64) : dgW F P R 0 h = h := rfl
theorem m_digestC {F : FS} {p : List Nat} {P : List (List Tk × Nat)} {LS : List (List Tk)} {R : List Rw} {sk md : Nat} (hW : WFF F) (hw : WFP p) (hL : okL LS) (hP : okG P) {A : FI} {B : FJ} (hC : ClR A F p P LS R sk md) : MV 6 0 mtX11_digest [.inr (.inr (some (0, 0)))] (hp A B) (fun r h' => ∃ A' B', h' = hp A' B' ∧ r = some (.inr (.inl (dgA F p P LS R sk md))) ∧ FmD A A' ∧ FmJ [11, 18] B B') := by
  refine MV_of caX11_digest (L := [some (.inr (.inr (some (0, 0)))), none, none, none]) rfl rfl ?_
  unfold dgA
  have hf1 := m_foldF (B := B) hW hC.1 307
  generalize dgF F 32 307 = h1 at *
  have hf2 := m_foldR (B := B) hC.2.2.2.2.1 h1
  generalize dgR P R R.length h1 = h2 at *
  refine R_go 9999 rfl rfl trivial ?_
  refine R_cvr rfl hf1 rfl rfl rfl rfl rfl (Nat.le_of_ble_eq_true rfl) rfl ?_
  refine R_cvr rfl hf2 rfl rfl rfl rfl rfl (Nat.le_of_ble_eq_true rfl) rfl ?_
  refine R_go 20 rfl rfl trivial ?_
  refine l_dg1 (A0 := A) (fun A1 hF1 hq1 => ?_) 8 0 A rfl FmD_rf (fun f hf => by omega)
  have hC1 := ClR_fr hC hF1
  have hf3 := m_foldG (B := B) hP hL hW h2 hC1.2.2.1 hC1.2.2.2.1 hC1.1 hq1
  generalize dgG F P LS (fun _ => 0) 3 h2 = h3 at *
  refine R_go 9999 rfl rfl trivial ?_
  refine R_cv rfl hf3 rfl rfl rfl rfl rfl (Nat.le_of_ble_eq_true rfl) rfl ?_
  rintro r h' ⟨A2, B2, rfl, rfl, hF2, hJ2⟩
  have hF02 := FmD_tr hF1 (FmD_3 hF2)
  have hC2 := ClR_fr hC hF02
  refine R_go 49 rfl rfl trivial ?_
  refine l_dg2 (A0 := A2) hW hC2.1 (fun A3 hF3 hq3 => ?_) 8 0 A2 rfl FmD_rf (fun f hf => by omega)
  have hF03 := FmD_tr hF02 hF3
  have hC3 := ClR_fr hC hF03
  have hf4 := m_foldG (B := B2) hP hL hW h3 hC3.2.2.1 hC3.2.2.2.1 hC3.1 hq3
  generalize dgG F P LS F.2.2.1 3 h3 = h4 at *
  refine R_go 9999 rfl rfl trivial ?_
  refine R_cv rfl hf4 rfl rfl rfl rfl rfl (Nat.le_of_ble_eq_true rfl) rfl ?_
  rintro r h' ⟨A4, B4, rfl, rfl, hF4, hJ4⟩
  have hF04 := FmD_tr hF03 (FmD_3 hF4)
  have hC4 := ClR_fr hC hF04
  have hJ04 : FmJ [11, 18] B B4 := FmJ_tr (FmJ_w hJ2 (by decide)) (FmJ_w hJ4 (by decide))
  have rest : ∀ (A5 : FI) (B5 : FJ) (h : Int64) (o3 : Option AV), FmD A A5 → FmJ [11, 18] B B5 → Rn 6 mtX11_digest 129 (dgL h o3) [] (hp A5 B5) (fun r h' => ∃ A' B', h' = hp A' B' ∧ r = some (.inr (.inl (dgC p P LS R sk md 7 (dgP p p.length h)))) ∧ FmD A A' ∧ FmJ [11, 18] B B') := fun A5 B5 h o3 hF5 hJ5 => by
    have hC5 := ClR_fr hC hF5
    refine R_go 9999 rfl rfl trivial ?_
    refine R_cvr rfl (m_foldP (B := B5) hC5.2.1 hw _) rfl rfl rfl rfl rfl (Nat.le_of_ble_eq_true rfl) rfl ?_
    refine R_go 140 rfl rfl trivial ?_
    exact l_dg4 hC5 ⟨A5, B5, rfl, rfl, hF5, hJ5⟩ 7 0 rfl
  refine R_go 9999 rfl rfl trivial ?_
  refine R_cvr rfl (m_hasProgram (B := B4) hC4.2.2.1 (okG_len hP)) rfl rfl rfl rfl rfl (Nat.le_of_ble_eq_true rfl) rfl ?_
  by_cases hPe : P = []
  · rw [isE.2 hPe, if_pos hPe, dgW_0]
    refine R_br rfl rfl (fun _ => ?_) (fun h => absurd rfl h)
    exact rest A4 B4 h4 _ hF04 hJ04
  · rw [isE.1 hPe, if_neg hPe]
    refine R_br rfl rfl (fun h => absurd h (by decide)) (fun _ => ?_)
    refine R_go 9999 rfl rfl trivial ?_
    refine R_cv rfl (m_fgg (B := B4) (okG_ne hP hPe) hW hC4.2.2.2.2.1 hC4.1) rfl rfl rfl rfl rfl (Nat.le_of_ble_eq_true rfl) rfl ?_
    rintro r h' ⟨A5, B5, rfl, rfl, hF5, hJ5, hr5⟩
    have hd3 := l_dg3 (h0 := h4) (whW_ok hW hC4.2.2.2.2.1.2.1) hr5 (fun o3 => rest A5 B5 (dgW F P R 6 h4) o3 (FmD_tr hF04 (FmD_U hF5)) (FmJ_tr hJ04 (FmJ_w hJ5 (by decide)))) 6 0 rfl
    rw [dgW_0] at hd3
    refine R_go 104 rfl rfl trivial ?_
    exact hd3
