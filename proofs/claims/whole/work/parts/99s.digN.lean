theorem dgG_3 (F : FS) (P : List (List Tk × Nat)) (LS : List (List Tk)) (q : Nat → Nat) (h : Int64) : dgG F P LS q 3 h = foH (foH (foH h (tlG F P LS q 0).toInt64) (tlG F P LS q 1).toInt64) (tlG F P LS q 2).toInt64 := by
  unfold dgG
  rw [itN, itN, itN, itN]
def TWo (A : FI) (B : FJ) (x : Int64) : Option AV → AH → Prop := fun r h' => ∃ A' B', r = none ∧ h' = hp A' B' ∧ FmDm A A' ∧ FmHs B B' ∧ B' 31 0 71 = x ∧ A' 52 = A 52
theorem m_tellWho {F : FS} {p : List Nat} {P : List (List Tk × Nat)} {LS : List (List Tk)} {R : List Rw} {sk md : Nat} {q : Nat → Nat} (hP : okG P) (hL : okL LS) (hW : WFF F) {A : FI} {B : FJ} {h : Int64} (hC : MlR A F p P LS R sk md) (hq : RPm A q) (he : B 31 0 71 = h) : MV 4 0 mtX12_tellWho [.inr (.inr (some (31, 0)))] (hp A B) (TWo A B (dgG F P LS q 3 h)) := by
  refine MV_of caX12_tellWho (L := [some (.inr (.inr (some (31, 0))))]) rfl rfl ?_
  rw [dgG_3]
  have k46 : ∀ (A1 : FI) (B1 : FJ) (h1 : Int64), FmT A A1 → FmHs B B1 → B1 31 0 71 = h1 → Rn 4 mtX12_tellWho 46 [some (.inr (.inr (some (31, 0))))] [] (hp A1 B1) (TWo A B (foH h1 (tlG F P LS q 2).toInt64)) := fun A1 B1 h1 hF1 hJ1 he1 => by
    have hC1 := MlR_fr hC (FmO_w hF1 (by decide) (by decide))
    have h2 := m_toldOf (B := B1) (q := q) 2 (by omega) (fun z => absurd rfl z) hL hW hC1.2.2.1 hC1.2.2.2.1 hC1.1 (RPm_fr hq hF1 (by decide))
    rw [show tlS F P LS q 2 = tlG F P LS q 2 from by unfold tlG; rw [if_neg (fun z => absurd z.1 (by decide))]] at h2
    refine R_go 9999 rfl rfl trivial ?_
    refine R_cv rfl h2 rfl rfl rfl rfl rfl (Nat.le_of_ble_eq_true rfl) rfl ?_
    rintro r h' ⟨A2, B2, rfl, rfl, hF2, hJ2⟩
    refine R_go 9999 rfl rfl trivial ?_
    refine R_cvv rfl (m_tellH _ (h := h1) (by rw [hJ2 31 (by decide)]; exact he1)) rfl rfl rfl rfl rfl (Nat.le_of_ble_eq_true rfl) rfl ?_
    refine R_rv rfl rfl ?_
    exact ⟨A2, _, rfl, rfl, FmO_tr (FmO_w hF1 (by decide) (by decide)) (FmO_w hF2 (by decide) (by decide)), FmHs_tr hJ1 (FmHs_tr (FmHs_J hJ2) FmHs_u), up3_self, by rw [hF2.1 52 (by decide) (by decide), hF1.1 52 (by decide) (by decide)]⟩
  refine R_go 9999 rfl rfl trivial ?_
  try dsimp only [fgt, fpt]
  rw [hC.2.2.1.1]
  by_cases hPe : P = []
  · rw [isE.2 hPe]
    have g0 : (tlG F P LS q 0).toInt64 = -1 := by unfold tlG; rw [if_pos ⟨by decide, hPe⟩]; decide
    have g1 : (tlG F P LS q 1).toInt64 = -1 := by unfold tlG; rw [if_pos ⟨by decide, hPe⟩]; decide
    rw [g0, g1]
    refine R_br rfl rfl (fun _ => ?_) (fun h => absurd rfl h)
    refine R_go 9999 rfl rfl trivial ?_
    refine R_cvv rfl (m_tellH _ he) rfl rfl rfl rfl rfl (Nat.le_of_ble_eq_true rfl) rfl ?_
    refine R_go 9999 rfl rfl trivial ?_
    try dsimp only [fgt, fpt]
    rw [hC.2.2.1.1, isE.2 hPe]
    refine R_br rfl rfl (fun _ => ?_) (fun h => absurd rfl h)
    refine R_go 9999 rfl rfl trivial ?_
    refine R_cvv rfl (m_tellH _ up3_self) rfl rfl rfl rfl rfl (Nat.le_of_ble_eq_true rfl) rfl ?_
    rw [up3_up]
    exact k46 A _ _ FmO_rf FmHs_u up3_self
  · rw [isE.1 hPe]
    have hPo := okG_ne hP hPe
    have e0 : tlS F P LS q 0 = tlG F P LS q 0 := by unfold tlG; rw [if_neg (fun z => hPe z.2)]
    have e1 : tlS F P LS q 1 = tlG F P LS q 1 := by unfold tlG; rw [if_neg (fun z => hPe z.2)]
    have t0 := m_toldOf (B := B) (q := q) 0 (by omega) (fun _ => hPo) hL hW hC.2.2.1 hC.2.2.2.1 hC.1 hq
    rw [e0] at t0
    refine R_br rfl rfl (fun h => absurd h (by decide)) (fun _ => ?_)
    refine R_go 9999 rfl rfl trivial ?_
    refine R_cv rfl t0 rfl rfl rfl rfl rfl (Nat.le_of_ble_eq_true rfl) rfl ?_
    rintro r h' ⟨A1, B1, rfl, rfl, hF1, hJ1⟩
    have hC1 := MlR_fr hC (FmO_w hF1 (by decide) (by decide))
    refine R_go 9999 rfl rfl trivial ?_
    refine R_cvv rfl (m_tellH _ (h := h) (by rw [hJ1 31 (by decide)]; exact he)) rfl rfl rfl rfl rfl (Nat.le_of_ble_eq_true rfl) rfl ?_
    generalize hB2 : up3 B1 31 0 71 (foH h (tlG F P LS q 0).toInt64) = B2
    have hJ02 : FmHs B B2 := by rw [← hB2]; exact FmHs_tr (FmHs_J hJ1) FmHs_u
    have he2 : B2 31 0 71 = foH h (tlG F P LS q 0).toInt64 := by rw [← hB2]; exact up3_self
    clear hB2
    have t1 := m_toldOf (B := B2) (q := q) 1 (by omega) (fun _ => hPo) hL hW hC1.2.2.1 hC1.2.2.2.1 hC1.1 (RPm_fr hq hF1 (by decide))
    rw [e1] at t1
    refine R_go 9999 rfl rfl trivial ?_
    try dsimp only [fgt, fpt]
    rw [hC1.2.2.1.1, isE.1 hPe]
    refine R_br rfl rfl (fun h => absurd h (by decide)) (fun _ => ?_)
    refine R_go 9999 rfl rfl trivial ?_
    refine R_cv rfl t1 rfl rfl rfl rfl rfl (Nat.le_of_ble_eq_true rfl) rfl ?_
    rintro r h' ⟨A3, B3, rfl, rfl, hF3, hJ3⟩
    refine R_go 9999 rfl rfl trivial ?_
    refine R_cvv rfl (m_tellH _ (h := foH h (tlG F P LS q 0).toInt64) (by rw [hJ3 31 (by decide)]; exact he2)) rfl rfl rfl rfl rfl (Nat.le_of_ble_eq_true rfl) rfl ?_
    exact k46 A3 _ _ (FmO_tr hF1 hF3) (FmHs_tr hJ02 (FmHs_tr (FmHs_J hJ3) FmHs_u)) up3_self
theorem l_dw0 {B : FJ} {A0 : FI} {o2 o3 o4 : Option AV} {Q : Option AV → AH → Prop} (kend : ∀ A i, FmO 31 [52] [] A0 A → RPm A (fun _ => 0) → Rn 6 mtX12_digest 158 (dmL i o2 o3 o4) [] (hp A B) Q) : ∀ (m k : Nat) (A : FI), k + m = 8 → FmO 31 [52] [] A0 A → (∀ f, f < k → A 52 0 f = nI 0) → Rn 6 mtX12_digest 139 (dmL k o2 o3 o4) [] (hp A B) Q := by
  intro m
  induction m with
  | zero =>
    intro k A hk hF hq
    have : k = 8 := by omega
    subst this
    refine R_go 9999 rfl rfl trivial ?_
    refine R_br rfl rfl (fun _ => ?_) (fun h => absurd (by decide) h)
    exact kend A 8 hF (fun f hf => ⟨hq f hf, Or.inl (Nat.zero_le _)⟩)
  | succ m ih =>
    intro k A hk hF hq
    have tk := ti k (by omega)
    have ck : (nI k).toNatClampNeg = k := nI_clamp (by omega)
    have hvk : vp_in (nI k) 8 := vpN (n := 8) (by omega) rfl
    refine R_go 9999 rfl rfl trivial ?_
    refine R_br rfl rfl (fun h => absurd h (by (simp only [i_eq, i_lt, i_le, Int32.reduceToInt, true_and, and_true, false_and, and_false, or_false, false_or, or_true, true_or, ne_eq] at *; first | done | omega))) (fun _ => ?_)
    refine R_go 139 rfl rfl hvk ?_
    rw [ck, nI_1]
    refine ih (k + 1) _ (by omega) (FmO_tr hF (by first | exact FmO_rf | (repeat' (first | exact FmO_rf | (with_reducible assumption) | (refine FmO_up ?_ (by decide)) | (refine FmO_ug ?_ (by decide) (by decide)))))) (fun f hf => ?_)
    by_cases e : f = k
    · subst e; exact up3_self
    · rw [up3_s e]; exact hq f (by omega)
theorem l_dw1 {F : FS} (hW : WFF F) {B : FJ} {A0 : FI} (hM : RMF A0 F) {o2 o3 o4 : Option AV} {Q : Option AV → AH → Prop} (kend : ∀ A i, FmO 31 [52] [] A0 A → RPm A F.2.2.1 → Rn 6 mtX12_digest 188 (dmL i o2 o3 o4) [] (hp A B) Q) : ∀ (m k : Nat) (A : FI), k + m = 8 → FmO 31 [52] [] A0 A → (∀ f, f < k → A 52 0 f = nI (F.2.2.1 f)) → Rn 6 mtX12_digest 164 (dmL k o2 o3 o4) [] (hp A B) Q := by
  intro m
  induction m with
  | zero =>
    intro k A hk hF hq
    have : k = 8 := by omega
    subst this
    refine R_go 9999 rfl rfl trivial ?_
    refine R_br rfl rfl (fun _ => ?_) (fun h => absurd (by decide) h)
    exact kend A 8 hF (fun f hf => ⟨hq f hf, Or.inl (hW.1 f hf).2.2.1⟩)
  | succ m ih =>
    intro k A hk hF hq
    have tk := ti k (by omega)
    have ck : (nI k).toNatClampNeg = k := nI_clamp (by omega)
    have hvk : vp_in (nI k) 8 := vpN (n := 8) (by omega) rfl
    refine R_go 9999 rfl rfl trivial ?_
    refine R_br rfl rfl (fun h => absurd h (by (simp only [i_eq, i_lt, i_le, Int32.reduceToInt, true_and, and_true, false_and, and_false, or_false, false_or, or_true, true_or, ne_eq] at *; first | done | omega))) (fun _ => ?_)
    refine R_go 164 rfl rfl ⟨hvk, hvk⟩ ?_
    rw [ck, nI_1, hF.1 34 (by decide) (by decide), (hM k (by omega)).2.2.1]
    refine ih (k + 1) _ (by omega) (FmO_tr hF (by first | exact FmO_rf | (repeat' (first | exact FmO_rf | (with_reducible assumption) | (refine FmO_up ?_ (by decide)) | (refine FmO_ug ?_ (by decide) (by decide)))))) (fun f hf => ?_)
    by_cases e : f = k
    · subst e; exact up3_self
    · rw [up3_s e]; exact hq f (by omega)
theorem l_dw3 {F : FS} {p : List Nat} {P : List (List Tk × Nat)} {LS : List (List Tk)} {R : List Rw} {sk md : Nat} (hPo : okP P) (hPe : P ≠ []) (hW : WFF F) {h0 : Int64} {A0 : FI} {B0 : FJ} (hC : MlR A0 F p P LS R sk md) {o2 o3 o4 : Option AV} {Q : Option AV → AH → Prop} (kend : ∀ A B i, FmDm A0 A → FmHs B0 B → B 31 0 71 = dgW F P R 6 h0 → Rn 6 mtX12_digest 223 (dmL i o2 o3 o4) [] (hp A B) Q) : ∀ (m k : Nat) (A : FI) (B : FJ), k + m = 6 → FmDm A0 A → FmHs B0 B → B 31 0 71 = dgW F P R k h0 → Rn 6 mtX12_digest 194 (dmL k o2 o3 o4) [] (hp A B) Q := by
  intro m
  induction m with
  | zero =>
    intro k A B hk hF hJ he
    have : k = 6 := by omega
    subst this
    refine R_go 9999 rfl rfl trivial ?_
    refine R_br rfl rfl (fun _ => ?_) (fun h => absurd (by decide) h)
    exact kend A B 6 hF hJ he
  | succ m ih =>
    intro k A B hk hF hJ he
    have hCk := MlR_fr hC hF
    have tk := ti k (by omega)
    refine R_go 9999 rfl rfl trivial ?_
    refine R_br rfl rfl (fun h => absurd h (by (simp only [i_eq, i_lt, i_le, Int32.reduceToInt, true_and, and_true, false_and, and_false, or_false, false_or, or_true, true_or, ne_eq] at *; first | done | omega))) (fun _ => ?_)
    refine R_go 9999 rfl rfl trivial ?_
    try dsimp only [fgt, fpt]
    rw [hCk.2.2.1.1, isE.1 hPe]
    refine R_br rfl rfl (fun h => absurd h (by decide)) (fun _ => ?_)
    refine R_go 9999 rfl rfl trivial ?_
    refine R_cv rfl (m_whereOf (B := B) hPo hW hCk.2.2.1 hCk.2.2.2.2.1 hCk.1 k (by omega)) rfl rfl rfl rfl rfl (Nat.le_of_ble_eq_true rfl) rfl ?_
    rintro r h' ⟨A1, B1, rfl, rfl, hF1, hJ1⟩
    refine R_go 9999 rfl rfl trivial ?_
    refine R_cvv rfl (m_tellH _ (h := dgW F P R k h0) (by rw [hJ1 31 (by decide)]; exact he)) rfl rfl rfl rfl rfl (Nat.le_of_ble_eq_true rfl) rfl ?_
    refine R_go 194 rfl rfl trivial ?_
    rw [nI_1]
    exact ih (k + 1) A1 _ (by omega) (FmO_tr hF (FmO_w hF1 (by decide) (by decide))) (FmHs_tr hJ (FmHs_tr (FmHs_J hJ1) FmHs_u)) up3_self
theorem l_dw4 {F : FS} {p : List Nat} {P : List (List Tk × Nat)} {LS : List (List Tk)} {R : List Rw} {sk md : Nat} (hw : WFP p) {h0 : Int64} {A : FI} {B0 : FJ} (hC : MlR A F p P LS R sk md) {o2 o3 o4 : Option AV} {Q : Option AV → AH → Prop} (kend : ∀ B i, FmHs B0 B → B 31 0 71 = dgP p p.length h0 → Rn 6 mtX12_digest 250 (dmL i o2 o3 o4) [] (hp A B) Q) : ∀ (m k : Nat) (B : FJ), k + m = p.length → FmHs B0 B → B 31 0 71 = dgP p k h0 → Rn 6 mtX12_digest 225 (dmL k o2 o3 o4) [] (hp A B) Q := by
  intro m
  have h80 := hC.2.1.2.1
  induction m with
  | zero =>
    intro k B hk hJ he
    have ek : k = p.length := by omega
    subst ek
    refine R_go 9999 rfl rfl trivial ?_
    try dsimp only [fgt, fpt]
    rw [hC.2.1.1]
    refine R_br rfl rfl (fun _ => ?_) (fun h => absurd (Int32.le_refl _) h)
    exact kend B _ hJ he
  | succ m ih =>
    intro k B hk hJ he
    have tk := ti k (by omega)
    have tr := ti p.length (by omega)
    have ck : (nI k).toNatClampNeg = k := nI_clamp (by omega)
    have hvk : vp_in (nI k) 80 := vpN (n := 80) (by omega) rfl
    have hb := hw _ (gd_in (show k < p.length by omega))
    refine R_go 9999 rfl rfl trivial ?_
    try dsimp only [fgt, fpt]
    rw [hC.2.1.1]
    refine R_br rfl rfl (fun h => absurd h (by (simp only [i_eq, i_lt, i_le, Int32.reduceToInt, true_and, and_true, false_and, and_false, or_false, false_or, or_true, true_or, ne_eq] at *; first | done | omega))) (fun _ => ?_)
    refine R_go 9999 rfl rfl hvk ?_
    rw [ck, hC.2.1.2.2 k (by omega), nI_l (by omega)]
    refine R_cvv rfl (m_tellH _ he) rfl rfl rfl rfl rfl (Nat.le_of_ble_eq_true rfl) rfl ?_
    refine R_go 225 rfl rfl trivial ?_
    rw [nI_1]
    exact ih (k + 1) _ (by omega) (FmHs_tr hJ FmHs_u) up3_self
theorem l_dw5 {F : FS} {p : List Nat} {P : List (List Tk × Nat)} {LS : List (List Tk)} {R : List Rw} {sk md : Nat} (hP : okG P) {h0 : Int64} {A : FI} {B0 : FJ} (hC : MlR A F p P LS R sk md) {o2 o3 o4 : Option AV} {Q : Option AV → AH → Prop} (kend : ∀ B, FmHs B0 B → Q (some (.inr (.inl (dgC p P LS R sk md 7 h0)))) (hp A B)) : ∀ (m k : Nat) (B : FJ), k + m = 7 → FmHs B0 B → B 31 0 71 = dgC p P LS R sk md k h0 → Rn 6 mtX12_digest 252 (dmL k o2 o3 o4) [] (hp A B) Q := by
  intro m
  induction m with
  | zero =>
    intro k B hk hJ he
    have : k = 7 := by omega
    subst this
    refine R_go 9999 rfl rfl trivial ?_
    refine R_br rfl rfl (fun _ => ?_) (fun h => absurd (by decide) h)
    refine R_go 9999 rfl rfl trivial ?_
    try dsimp only [fgt, fpt]
    rw [he]
    exact R_rl rfl rfl (kend B hJ)
  | succ m ih =>
    intro k B hk hJ he
    have tk := ti k (by omega)
    have hcn := m_countOf (B := B) hP hC (nI k)
    rw [cnA_n _ _ _ _ _ _ (by omega)] at hcn
    refine R_go 9999 rfl rfl trivial ?_
    refine R_br rfl rfl (fun h => absurd h (by (simp only [i_eq, i_lt, i_le, Int32.reduceToInt, true_and, and_true, false_and, and_false, or_false, false_or, or_true, true_or, ne_eq] at *; first | done | omega))) (fun _ => ?_)
    refine R_go 9999 rfl rfl trivial ?_
    refine R_cvr rfl hcn rfl rfl rfl rfl rfl (Nat.le_of_ble_eq_true rfl) rfl ?_
    refine R_go 9999 rfl rfl trivial ?_
    refine R_cvv rfl (m_tellH _ he) rfl rfl rfl rfl rfl (Nat.le_of_ble_eq_true rfl) rfl ?_
    refine R_go 252 rfl rfl trivial ?_
    rw [nI_1]
    exact ih (k + 1) _ (by omega) (FmHs_tr hJ FmHs_u) up3_self
theorem m_digestM {F : FS} {p : List Nat} {P : List (List Tk × Nat)} {LS : List (List Tk)} {R : List Rw} {sk md : Nat} (hW : WFF F) (hw : WFP p) (hL : okL LS) (hP : okG P) {A : FI} {B : FJ} (hC : MlR A F p P LS R sk md) : MV 6 0 mtX12_digest [.inr (.inr (some (31, 0)))] (hp A B) (fun r h' => ∃ A' B', h' = hp A' B' ∧ r = some (.inr (.inl (dgA F p P LS R sk md))) ∧ FmDm A A' ∧ FmHs B B') := by
  refine MV_of caX12_digest (L := [some (.inr (.inr (some (31, 0)))), none, none, none, none]) rfl rfl ?_
  unfold dgA
  generalize hh1 : dgF F 32 307 = h1
  generalize hh2 : dgR P R R.length h1 = h2
  generalize hh3 : dgG F P LS (fun _ => 0) 3 h2 = h3
  generalize hh4 : dgG F P LS F.2.2.1 3 h3 = h4
  refine R_go 9 rfl rfl trivial ?_
  refine l_hF2 (B0 := B) (h0 := 307) hW hC.1 (fun B1 o2 hJ1 he1 => ?_) 8 0 _ rfl FmHs_u up3_self none
  rw [hh1] at he1
  refine R_go 47 rfl rfl trivial ?_
  refine l_hR (A0 := A) (B0 := B1) (h0 := h1) hP hC (fun A2 B2 i p2 p3 p4 hF2 hJ2 he2 => ?_) R.length 0 A B1 (by omega) FmO_rf FmHs_rf he1 _ _ _
  rw [hh2] at he2
  have hJ02 := FmHs_tr hJ1 hJ2
  refine R_go 139 rfl rfl trivial ?_
  refine l_dw0 (A0 := A2) (fun A3 i3 hF3 hq3 => ?_) 8 0 A2 rfl FmO_rf (fun f hf => by omega)
  have hF03 : FmDm A A3 := FmO_tr hF2 (FmO_w hF3 (by decide) (by decide))
  have hC3 := MlR_fr hC hF03
  have ht3 := m_tellWho (B := B2) hP hL hW hC3 hq3 he2
  rw [hh3] at ht3
  refine R_go 9999 rfl rfl trivial ?_
  refine R_cv rfl ht3 rfl rfl rfl rfl rfl (Nat.le_of_ble_eq_true rfl) rfl ?_
  rintro r h' ⟨A4, B4, rfl, rfl, hF4, hJ4, he4, -⟩
  have hF04 := FmO_tr hF03 hF4
  have hC4 := MlR_fr hC hF04
  refine R_go 164 rfl rfl trivial ?_
  refine l_dw1 (A0 := A4) hW hC4.1 (fun A5 i5 hF5 hq5 => ?_) 8 0 A4 rfl FmO_rf (fun f hf => by omega)
  have hF05 : FmDm A A5 := FmO_tr hF04 (FmO_w hF5 (by decide) (by decide))
  have hC5 := MlR_fr hC hF05
  have ht5 := m_tellWho (B := B4) hP hL hW hC5 hq5 he4
  rw [hh4] at ht5
  refine R_go 9999 rfl rfl trivial ?_
  refine R_cv rfl ht5 rfl rfl rfl rfl rfl (Nat.le_of_ble_eq_true rfl) rfl ?_
  rintro r h' ⟨A6, B6, rfl, rfl, hF6, hJ6, he6, -⟩
  have hF06 := FmO_tr hF05 hF6
  have hC6 := MlR_fr hC hF06
  have hJ06 := FmHs_tr hJ02 (FmHs_tr hJ4 hJ6)
  have rest : ∀ (A7 : FI) (B7 : FJ) (h5 : Int64) (i : Nat), FmDm A A7 → FmHs B B7 → B7 31 0 71 = h5 → Rn 6 mtX12_digest 223 (dmL i p2 p3 p4) [] (hp A7 B7) (fun r h' => ∃ A' B', h' = hp A' B' ∧ r = some (.inr (.inl (dgC p P LS R sk md 7 (dgP p p.length h5)))) ∧ FmDm A A' ∧ FmHs B B') := fun A7 B7 h5 i hF7 hJ7 he7 => by
    have hC7 := MlR_fr hC hF7
    refine R_go 225 rfl rfl trivial ?_
    refine l_dw4 (B0 := B7) (h0 := h5) hw hC7 (fun B8 i8 hJ8 he8 => ?_) p.length 0 B7 (by omega) FmHs_rf he7
    refine R_go 252 rfl rfl trivial ?_
    exact l_dw5 (B0 := B8) hP hC7 (fun B9 hJ9 => ⟨A7, B9, rfl, rfl, hF7, FmHs_tr hJ7 (FmHs_tr hJ8 hJ9)⟩) 7 0 B8 rfl FmHs_rf he8
  by_cases hPe : P = []
  · rw [if_pos hPe, dgW_0]
    refine R_go 9999 rfl rfl trivial ?_
    refine R_br rfl rfl (fun h => absurd h (by decide)) (fun _ => ?_)
    refine R_go 9999 rfl rfl trivial ?_
    try dsimp only [fgt, fpt]
    rw [hC6.2.2.1.1, isE.2 hPe]
    refine R_br rfl rfl (fun _ => ?_) (fun h => absurd rfl h)
    exact rest A6 B6 h4 0 hF06 hJ06 he6
  · rw [if_neg hPe]
    have hd3 := l_dw3 (A0 := A6) (B0 := B6) (h0 := h4) (o2 := p2) (o3 := p3) (o4 := p4) (okG_ne hP hPe) hPe hW hC6 (fun A7 B7 i hF7 hJ7 he7 => rest A7 B7 (dgW F P R 6 h4) i (FmO_tr hF06 hF7) (FmHs_tr hJ06 hJ7) he7) 6 0 A6 B6 rfl FmO_rf FmHs_rf (by rw [dgW_0]; exact he6)
    refine R_go 194 rfl rfl trivial ?_
    exact hd3
