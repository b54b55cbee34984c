/-- all that the reference holds but SOUGHT -/
def MlR (A : FI) (F : FS) (p : List Nat) (P : List (List Tk × Nat)) (LS : List (List Tk)) (R : List Rw) (sk md : Nat) : Prop := RMF A F ∧ RMP A p ∧ RMG A P ∧ RML A LS ∧ RMR A R ∧ A 31 0 45 = nI sk ∧ A 31 0 68 = nI md
abbrev FmDm (A A' : FI) : Prop := FmO 31 [50, 51, 52, 53, 54, 62] [36, 56, 57, 62, 63, 64, 65, 66, 67] A A'
theorem MlR_fr {A A' : FI} {F : FS} {p : List Nat} {P : List (List Tk × Nat)} {LS : List (List Tk)} {R : List Rw} {sk md : Nat} (h : MlR A F p P LS R sk md) (hF : FmDm A A') : MlR A' F p P LS R sk md := by
  obtain ⟨a, b, c, d, e, f, g⟩ := h
  exact ⟨RMF_fr a hF (by decide), ⟨by rw [hF.2 5 (by decide)]; exact b.1, b.2.1, fun k hk => by rw [hF.1 36 (by decide) (by decide)]; exact b.2.2 k hk⟩, RMG_fr c hF (by decide) (by decide), RML_fr d hF (by decide) (by decide), RMR_fr e hF (by decide) (by decide), by rw [hF.2 45 (by decide)]; exact f, by rw [hF.2 68 (by decide)]; exact g⟩
theorem m_countOf {F : FS} {p : List Nat} {P : List (List Tk × Nat)} {LS : List (List Tk)} {R : List Rw} {sk md : Nat} (hP : okG P) {A : FI} {B : FJ} (hC : MlR A F p P LS R sk md) (x : Int32) : MV 1 1 mtX12_countOf [.inr (.inr (some (31, 0))), .inl x] (hp A B) (Ret (some (.inl (cnA p P LS R sk md x))) (hp A B)) := by
  obtain ⟨a, b, c, d, e, f, g⟩ := hC
  refine MV_of caX12_countOf (L := [some (.inr (.inr (some (31, 0)))), some (.inl x)]) rfl rfl ?_
  unfold cnA
  by_cases hx : 0 ≤ x.toInt ∧ x.toInt ≤ 6
  · rw [if_pos hx]
    obtain ⟨j, hj, rfl⟩ := vp_in_of (x := x) (n := 7) (vp_of hx.1 (by omega)) (by decide)
    rw [nI_clamp (show j < 2 ^ 31 by omega)]
    rcases (show j = 0 ∨ j = 1 ∨ j = 2 ∨ j = 3 ∨ j = 4 ∨ j = 5 ∨ j = 6 by omega) with rfl | rfl | rfl | rfl | rfl | rfl | rfl
    · refine R_go 9999 rfl rfl trivial ?_
      refine R_sw _ rfl rfl rfl ?_
      refine R_go 9999 rfl rfl trivial ?_
      try dsimp only [fgt, fpt]
      rw [c.2.2.2.2.2.2]
      exact R_ri rfl rfl (ret_i rfl rfl)
    · refine R_go 9999 rfl rfl trivial ?_
      refine R_sw _ rfl rfl rfl ?_
      refine R_go 9999 rfl rfl trivial ?_
      try dsimp only [fgt, fpt]
      rw [d.1]
      exact R_ri rfl rfl (ret_i rfl rfl)
    · refine R_go 9999 rfl rfl trivial ?_
      refine R_sw _ rfl rfl rfl ?_
      refine R_go 9999 rfl rfl trivial ?_
      try dsimp only [fgt, fpt]
      rw [e.1]
      exact R_ri rfl rfl (ret_i rfl rfl)
    · refine R_go 9999 rfl rfl trivial ?_
      refine R_sw _ rfl rfl rfl ?_
      refine R_go 9999 rfl rfl trivial ?_
      try dsimp only [fgt, fpt]
      rw [b.1]
      exact R_ri rfl rfl (ret_i rfl rfl)
    · refine R_go 9999 rfl rfl trivial ?_
      refine R_sw _ rfl rfl rfl ?_
      refine R_go 9999 rfl rfl trivial ?_
      refine R_cvr rfl (m_numberMany (B := B) hP c) rfl rfl rfl rfl rfl (Nat.le_of_ble_eq_true rfl) rfl ?_
      exact R_ri rfl rfl (ret_i rfl rfl)
    · refine R_go 9999 rfl rfl trivial ?_
      refine R_sw _ rfl rfl rfl ?_
      refine R_go 9999 rfl rfl trivial ?_
      try dsimp only [fgt, fpt]
      rw [f]
      exact R_ri rfl rfl (ret_i rfl rfl)
    · refine R_go 9999 rfl rfl trivial ?_
      refine R_sw _ rfl rfl rfl ?_
      refine R_go 9999 rfl rfl trivial ?_
      try dsimp only [fgt, fpt]
      rw [g]
      exact R_ri rfl rfl (ret_i rfl rfl)
  · rw [if_neg hx]
    refine R_go 9999 rfl rfl trivial ?_
    refine R_sw x.toInt rfl rfl (sw_out (by omega) rfl) ?_
    repeat' (first
        | (refine R_br rfl rfl (fun hbr => absurd hbr (by first | decide | (with_reducible assumption))) (fun _ => ?_))
        | (refine R_br rfl rfl (fun _ => ?_) (fun hbr => absurd (by first | decide | (with_reducible assumption)) hbr))
        | (refine R_br rfl rfl (fun _ => ?_) (fun _ => ?_))
        | (refine R_ri rfl rfl ?_)
        | (refine R_rz rfl rfl (Or.inl rfl) ?_)
        | (refine R_rz rfl rfl (Or.inr rfl) ?_)
        | (refine R_rz rfl rfl (b2_01 _) ?_)
        | (refine R_rl rfl rfl ?_)
        | (refine R_rv rfl rfl ?_)
        | (refine R_sw _ rfl rfl rfl ?_)
        | (refine R_go 9999 rfl rfl trivial ?_)
        | (refine R_go 9999 rfl rfl (by first | (show _ ∨ _; decide) | (show (_ ∨ _) ∧ (_ ∨ _); decide) | (show (_ ∨ _) ∧ (_ ∨ _) ∧ (_ ∨ _); decide)) ?_)
        | (refine R_go 9999 rfl rfl ?_ ?_))
    exact ret_i rfl rfl
theorem m_countM {F : FS} {p : List Nat} {P : List (List Tk × Nat)} {LS : List (List Tk)} {R : List Rw} {sk md : Nat} (hP : okG P) {A : FI} {B : FJ} (hC : MlR A F p P LS R sk md) (x : Int32) : MV 2 1 mtX12_count [.inr (.inr (some (31, 0))), .inl x] (hp A B) (Ret (some (.inl (cnA p P LS R sk md x))) (hp A B)) := by
  refine MV_of caX12_count (L := [some (.inr (.inr (some (31, 0)))), some (.inl x)]) rfl rfl ?_
  refine R_go 9999 rfl rfl trivial ?_
  refine R_cvr rfl (m_countOf (B := B) hP hC x) rfl rfl rfl rfl rfl (Nat.le_of_ble_eq_true rfl) rfl ?_
  exact R_ri rfl rfl (ret_i rfl rfl)
def FmHs (B B' : FJ) : Prop := (∀ g, g ≠ 31 → g ≠ 49 → B' g = B g) ∧ ∀ s, s ≠ 71 → B' 31 0 s = B 31 0 s
theorem FmHs_rf {B : FJ} : FmHs B B := ⟨fun _ _ _ => rfl, fun _ _ => rfl⟩
theorem FmHs_tr {B B1 B2 : FJ} (a : FmHs B B1) (b : FmHs B1 B2) : FmHs B B2 := ⟨fun g h1 h2 => (b.1 g h1 h2).trans (a.1 g h1 h2), fun s h => (b.2 s h).trans (a.2 s h)⟩
theorem FmHs_J {B B' : FJ} (h : FmJ [49] B B') : FmHs B B' := ⟨fun g _ h2 => h g (by simpa using h2), fun s _ => by rw [h 31 (by decide)]⟩
theorem FmHs_u {B : FJ} {x : Int64} : FmHs B (up3 B 31 0 71 x) := ⟨fun g h1 _ => up3_g h1, fun s hs => up3_s hs⟩
theorem m_tellH (v : Int64) {A : FI} {B : FJ} {h : Int64} (e : B 31 0 71 = h) : MV 0 1 mtX12_tell [.inr (.inr (some (31, 0))), .inr (.inl v)] (hp A B) (Ret none (hp A (up3 B 31 0 71 (foH h v)))) := by
  refine MV_of caX12_tell (L := [some (.inr (.inr (some (31, 0)))), some (.inr (.inl v)), none]) rfl rfl ?_
  refine R_go 9999 rfl rfl trivial ?_
  try dsimp only [fgt, fpt]
  rw [e]
  exact R_rv rfl rfl (ret_v rfl)
theorem tvN_at (F : FS) {f w : Nat} (hw : w < 4) : tvN F (4 * f + w) = (if w = 0 then F.1 else if w = 1 then F.2.1 else if w = 2 then F.2.2.1 else F.2.2.2) f := by
  unfold tvN
  rw [show (4 * f + w) % 4 = w by omega, show (4 * f + w) / 4 = f by omega]
abbrev dmL (i : Nat) (o2 o3 o4 : Option AV) : List (Option AV) := [some (.inr (.inr (some (31, 0)))), some (.inl (nI i)), o2, o3, o4]
theorem l_hF1 {F : FS} (hW : WFF F) {f : Nat} (hf : f < 8) {A : FI} (hM : RMF A F) {h0 : Int64} {B0 : FJ} {Q : Option AV → AH → Prop} (kend : ∀ B, FmHs B0 B → B 31 0 71 = dgF F (4 * f + 4) h0 → Rn 6 mtX12_digest 39 (dmL f (some (.inl (nI 4))) none none) [] (hp A B) Q) : ∀ (m w : Nat) (B : FJ), w + m = 4 → FmHs B0 B → B 31 0 71 = dgF F (4 * f + w) h0 → Rn 6 mtX12_digest 17 (dmL f (some (.inl (nI w))) none none) [] (hp A B) Q := by
  intro m
  induction m with
  | zero =>
    intro w B hw hJ he
    have : w = 4 := by omega
    subst this
    refine R_go 9999 rfl rfl trivial ?_
    refine R_br rfl rfl (fun _ => ?_) (fun h => absurd (by decide) h)
    exact kend B hJ he
  | succ m ih =>
    intro w B hw hJ he
    have tw := ti w (by omega)
    have hb := tvN_b hW (i := 4 * f + w) (by omega)
    have ht := m_toldM (B := B) hM f w hf (by omega)
    rw [← tvN_at F (by omega)] at ht
    refine R_go 9999 rfl rfl trivial ?_
    refine R_br rfl rfl (fun h => absurd h (by (simp only [i_eq, i_lt, i_le, Int32.reduceToInt, true_and, and_true, false_and, and_false, or_false, false_or, or_true, true_or, ne_eq] at *; first | done | omega))) (fun _ => ?_)
    refine R_go 9999 rfl rfl trivial ?_
    refine R_cvr rfl ht rfl rfl rfl rfl rfl (Nat.le_of_ble_eq_true rfl) rfl ?_
    refine R_go 9999 rfl rfl trivial ?_
    rw [nI_l (by omega)]
    refine R_cvv rfl (m_tellH _ he) rfl rfl rfl rfl rfl (Nat.le_of_ble_eq_true rfl) rfl ?_
    refine R_go 17 rfl rfl trivial ?_
    rw [nI_1]
    exact ih (w + 1) _ (by omega) (FmHs_tr hJ FmHs_u) up3_self
theorem l_hF2 {F : FS} (hW : WFF F) {A : FI} (hM : RMF A F) {h0 : Int64} {B0 : FJ} {Q : Option AV → AH → Prop} (kend : ∀ B o2, FmHs B0 B → B 31 0 71 = dgF F 32 h0 → Rn 6 mtX12_digest 45 (dmL 8 o2 none none) [] (hp A B) Q) : ∀ (m f : Nat) (B : FJ), f + m = 8 → FmHs B0 B → B 31 0 71 = dgF F (4 * f) h0 → ∀ o2, Rn 6 mtX12_digest 9 (dmL f o2 none none) [] (hp A B) Q := by
  intro m
  induction m with
  | zero =>
    intro f B hf hJ he o2
    have : f = 8 := by omega
    subst this
    refine R_go 9999 rfl rfl trivial ?_
    refine R_br rfl rfl (fun _ => ?_) (fun h => absurd (by decide) h)
    exact kend B o2 hJ he
  | succ m ih =>
    intro f B hf hJ he o2
    have tf := ti f (by omega)
    refine R_go 9999 rfl rfl trivial ?_
    refine R_br rfl rfl (fun h => absurd h (by (simp only [i_eq, i_lt, i_le, Int32.reduceToInt, true_and, and_true, false_and, and_false, or_false, false_or, or_true, true_or, ne_eq] at *; first | done | omega))) (fun _ => ?_)
    refine R_go 17 rfl rfl trivial ?_
    refine l_hF1 (B0 := B) hW (by omega) hM (fun B1 hJ1 he1 => ?_) 4 0 B rfl FmHs_rf he
    refine R_go 9 rfl rfl trivial ?_
    rw [nI_1]
    exact ih (f + 1) B1 (by omega) (FmHs_tr hJ hJ1) he1 _
theorem l_hP {q : Nat → Nat} {r : Nat} (hr : r < 24) {A : FI} {B : FJ} (hv : ∀ f, f < 8 → A 60 0 (8 * r + f) = nI (q f) ∧ q f ≤ 99) {Q : Option AV → AH → Prop} (kend : ∀ o4, Rn 6 mtX12_digest 92 (dmL r (some (.inr (.inl (lN (poN q 8 0))))) none o4) [] (hp A B) Q) : ∀ (k s : Nat), k ≤ 8 → poN q k s = poN q 8 0 → Rn 6 mtX12_digest 61 (dmL r (some (.inr (.inl (lN s)))) none (some (.inl (nI k - 1)))) [] (hp A B) Q := by
  intro k
  induction k with
  | zero =>
    intro s hk he
    refine R_go 9999 rfl rfl trivial ?_
    refine R_br rfl rfl (fun _ => ?_) (fun h => absurd (by decide) h)
    have e : s = poN q 8 0 := he
    rw [e]
    exact kend _
  | succ k ih =>
    intro s hk he
    have tk := ti k (by omega)
    obtain ⟨a1, a2⟩ := hv k (by omega)
    have i1 : (8 : Int32) * nI r + nI k = nI (8 * r + k) := by rw [show (8 : Int32) * nI r = nI (8 * r) from pk_mul 8 r, nI_add]
    have c1 : (nI (8 * r + k)).toNatClampNeg = 8 * r + k := nI_clamp (by omega)
    have hv1 : vp_in (nI (8 * r + k)) 192 := vpN (n := 192) (by omega) rfl
    rw [nI_pred]
    refine R_go 9999 rfl rfl trivial ?_
    refine R_br rfl rfl (fun h => absurd h (by (simp only [i_eq, i_lt, i_le, Int32.reduceToInt, true_and, and_true, false_and, and_false, or_false, false_or, or_true, true_or, ne_eq] at *; first | done | omega))) (fun _ => ?_)
    refine R_go 61 rfl rfl (by rw [i1]; exact hv1) ?_
    rw [i1, c1, a1, nI_l (by omega), show 100 * lN s = lN (100 * s) by rw [← lN_mul]; rfl, lN_add, show nI k + -1 = nI k - 1 from (Int32.sub_eq_add_neg _ _).symm]
    exact ih (100 * s + q k) (by omega) he
theorem l_hR {F : FS} {p : List Nat} {P : List (List Tk × Nat)} {LS : List (List Tk)} {R : List Rw} {sk md : Nat} (hP : okG P) {h0 : Int64} {A0 : FI} {B0 : FJ} (hC : MlR A0 F p P LS R sk md) {Q : Option AV → AH → Prop} (kend : ∀ A B i o2 o3 o4, FmDm A0 A → FmHs B0 B → B 31 0 71 = dgR P R R.length h0 → Rn 6 mtX12_digest 137 (dmL i o2 o3 o4) [] (hp A B) Q) : ∀ (m k : Nat) (A : FI) (B : FJ), k + m = R.length → FmDm A0 A → FmHs B0 B → B 31 0 71 = dgR P R k h0 → ∀ o2 o3 o4, Rn 6 mtX12_digest 47 (dmL k o2 o3 o4) [] (hp A B) Q := by
  intro m
  have h24 := hC.2.2.2.2.1.2.1
  induction m with
  | zero =>
    intro k A B hk hF hJ he o2 o3 o4
    have ek : k = R.length := by omega
    subst ek
    have hR := (MlR_fr hC hF).2.2.2.2.1
    refine R_go 9999 rfl rfl trivial ?_
    try dsimp only [fgt, fpt]
    rw [hR.1]
    refine R_br rfl rfl (fun _ => ?_) (fun h => absurd (Int32.le_refl _) h)
    exact kend A B _ o2 o3 o4 hF hJ he
  | succ m ih =>
    intro k A B hk hF hJ he o2 o3 o4
    have hCk := MlR_fr hC hF
    have hR := hCk.2.2.2.2.1
    have hG := hCk.2.2.1
    have tk := ti k (by omega)
    have tr := ti R.length (by omega)
    have ck : (nI k).toNatClampNeg = k := nI_clamp (by omega)
    have hvk : vp_in (nI k) 24 := vpN (n := 24) (by omega) rfl
    obtain ⟨hw, e61⟩ := hR.2.2 k (by omega)
    have es : dgR P R (k + 1) h0 = foH (foH (foH (dgR P R k h0) (lN (poN (R.getD k d0).1 8 0))) (R.getD k d0).2.toInt64) (reS P (R.getD k d0).1).toInt64 := rfl
    refine R_go 9999 rfl rfl trivial ?_
    try dsimp only [fgt, fpt]
    rw [hR.1]
    refine R_br rfl rfl (fun h => absurd h (by (simp only [i_eq, i_lt, i_le, Int32.reduceToInt, true_and, and_true, false_and, and_false, or_false, false_or, or_true, true_or, ne_eq] at *; first | done | omega))) (fun _ => ?_)
    refine R_go 61 rfl rfl trivial ?_
    refine l_hP (q := (R.getD k d0).1) (by omega) (fun f hf => ⟨(hw f hf).1, by have := (hw f hf).2; unfold okF at this; omega⟩) (fun o4' => ?_) 8 0 (by omega) rfl
    refine R_go 9999 rfl rfl trivial ?_
    refine R_cvv rfl (m_tellH _ he) rfl rfl rfl rfl rfl (Nat.le_of_ble_eq_true rfl) rfl ?_
    refine R_go 9999 rfl rfl hvk ?_
    rw [ck, e61]
    refine R_cvv rfl (m_tellH _ up3_self) rfl rfl rfl rfl rfl (Nat.le_of_ble_eq_true rfl) rfl ?_
    rw [up3_up]
    have fin : ∀ (x : Int64) (A1 : FI) (B1 : FJ), x = (reS P (R.getD k d0).1).toInt64 → FmDm A A1 → FmHs B B1 → B1 31 0 71 = foH (foH (dgR P R k h0) (lN (poN (R.getD k d0).1 8 0))) (R.getD k d0).2.toInt64 → Rn 6 mtX12_digest 128 (dmL k (some (.inr (.inl (lN (poN (R.getD k d0).1 8 0))))) none o4') [.inr (.inl x), .inr (.inr (some (31, 0)))] (hp A1 B1) Q := fun x A1 B1 hx hF1 hJ1 he1 => by
      refine R_cvv rfl (m_tellH _ he1) rfl rfl rfl rfl rfl (Nat.le_of_ble_eq_true rfl) rfl ?_
      refine R_go 47 rfl rfl trivial ?_
      rw [nI_1]
      exact ih (k + 1) A1 _ (by omega) (FmO_tr hF hF1) (FmHs_tr hJ (FmHs_tr hJ1 FmHs_u)) (by rw [up3_self, es, hx]) _ _ _
    refine R_go 9999 rfl rfl trivial ?_
    try dsimp only [fgt, fpt]
    rw [hG.1]
    by_cases hPe : P = []
    · rw [isE.2 hPe]
      refine R_br rfl rfl (fun _ => ?_) (fun h => absurd rfl h)
      refine R_go 128 rfl rfl trivial ?_
      exact fin (-1) A _ (by rw [show reS P (R.getD k d0).1 = -1 from if_pos hPe]; decide) FmO_rf FmHs_u up3_self
    · rw [isE.1 hPe]
      have hPo := okG_ne hP hPe
      have hrl := rnS_le hPo (R.getD k d0).1
      refine R_br rfl rfl (fun h => absurd h (by decide)) (fun _ => ?_)
      refine R_go 9999 rfl rfl trivial ?_
      refine R_cv rfl (m_endOf (r := k) (by omega) hPo hG hR) rfl rfl rfl rfl rfl (Nat.le_of_ble_eq_true rfl) rfl ?_
      rintro z h' ⟨A1, B1, rfl, rfl, hF1, hJ1⟩
      refine R_go 128 rfl rfl trivial ?_
      exact fin _ A1 B1 (by rw [reS_y hPe]) (FmO_w hF1 (by decide) (by decide)) (FmHs_tr FmHs_u (FmHs_J hJ1)) (by rw [hJ1 31 (by decide)]; exact up3_self)
