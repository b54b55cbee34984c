def foH (h n : Int64) : Int64 := 31 * h + n
def tvN (F : FS) (i : Nat) : Nat := (if i % 4 = 0 then F.1 else if i % 4 = 1 then F.2.1 else if i % 4 = 2 then F.2.2.1 else F.2.2.2) (i / 4)
def dgF (F : FS) (n : Nat) (h : Int64) : Int64 := itN (fun i h => foH h (lN (tvN F i))) n h
noncomputable def dgR (P : List (List Tk × Nat)) (R : List Rw) (n : Nat) (h : Int64) : Int64 := itN (fun r h => foH (foH (foH h (lN (poN (R.getD r d0).1 8 0))) (R.getD r d0).2.toInt64) (reS P (R.getD r d0).1).toInt64) n h
noncomputable def dgG (F : FS) (P : List (List Tk × Nat)) (LS : List (List Tk)) (q : Nat → Nat) (n : Nat) (h : Int64) : Int64 := itN (fun w h => foH h (tlG F P LS q w).toInt64) n h
noncomputable def dgW (F : FS) (P : List (List Tk × Nat)) (R : List Rw) (n : Nat) (h : Int64) : Int64 := itN (fun w h => foH h (whT (whW F P R) w).toInt64) n h
def dgP (p : List Nat) (n : Nat) (h : Int64) : Int64 := itN (fun k h => foH h (lN (p.getD k 0))) n h
/-- COUNT -/
def cnT (p : List Nat) (P : List (List Tk × Nat)) (LS : List (List Tk)) (R : List Rw) (sk md : Nat) (w : Nat) : Int32 := if w = 0 then nI P.length else if w = 1 then nI LS.length else if w = 2 then nI R.length else if w = 3 then nI p.length else if w = 4 then nI (nms (flP P)).length else if w = 5 then nI sk else nI md
def cnA (p : List Nat) (P : List (List Tk × Nat)) (LS : List (List Tk)) (R : List Rw) (sk md : Nat) (x : Int32) : Int32 := if 0 ≤ x.toInt ∧ x.toInt ≤ 6 then cnT p P LS R sk md x.toNatClampNeg else -102
def dgC (p : List Nat) (P : List (List Tk × Nat)) (LS : List (List Tk)) (R : List Rw) (sk md : Nat) (n : Nat) (h : Int64) : Int64 := itN (fun w h => foH h (cnT p P LS R sk md w).toInt64) n h
noncomputable def dgA (F : FS) (p : List Nat) (P : List (List Tk × Nat)) (LS : List (List Tk)) (R : List Rw) (sk md : Nat) : Int64 :=
  dgC p P LS R sk md 7 (dgP p p.length (dgW F P R (if P = [] then 0 else 6) (dgG F P LS F.2.2.1 3 (dgG F P LS (fun _ => 0) 3 (dgR P R R.length (dgF F 32 307))))))
theorem m_foldC (a b : Int64) (A : FI) (B : FJ) : MS 0 2 mtX11_fold [.inr (.inl a), .inr (.inl b)] (hp A B) (Ret (some (.inr (.inl (foH a b)))) (hp A B)) := by
  refine MS_of caX11_fold (L := [some (.inr (.inl a)), none, some (.inr (.inl b)), none]) rfl rfl ?_
  refine R_go 9999 rfl rfl trivial ?_
  exact R_rl rfl rfl (ret_l rfl rfl)
theorem told_i {A : FI} {F : FS} (hR : RCF A F) {i : Nat} (hi : i < 32) : A 2 0 i = nI (tvN F i) := by
  obtain ⟨a, b, c, d⟩ := hR (i / 4) (by omega)
  unfold tvN
  rcases (show i % 4 = 0 ∨ i % 4 = 1 ∨ i % 4 = 2 ∨ i % 4 = 3 by omega) with h | h | h | h
  · rw [h, if_pos rfl, ← a]; congr 1; omega
  · rw [h, if_neg (by decide), if_pos rfl, ← b]; congr 1; omega
  · rw [h, if_neg (by decide), if_neg (by decide), if_pos rfl, ← c]; congr 1; omega
  · rw [h, if_neg (by decide), if_neg (by decide), if_neg (by decide), ← d]; congr 1; omega
theorem tvN_b {F : FS} (hW : WFF F) {i : Nat} (hi : i < 32) : tvN F i ≤ 99 := by
  have h := hW.1 (i / 4) (by omega)
  unfold tvN
  (repeat' split) <;> omega
theorem l_foldF {F : FS} (hW : WFF F) {A : FI} {B : FJ} (hR : RCF A F) (h0 : Int64) : ∀ (m k : Nat), k + m = 32 → Rn 1 mtX3_folded 5 [some (.inr (.inr (some (1, 0)))), some (.inr (.inl h0)), none, some (.inr (.inl (dgF F k h0))), none, some (.inl (nI k))] [] (hp A B) (Ret (some (.inr (.inl (dgF F 32 h0)))) (hp A B)) := by
  intro m
  induction m with
  | zero =>
    intro k hk
    have : k = 32 := by omega
    subst this
    refine R_go 9999 rfl rfl trivial ?_
    refine R_br rfl rfl (fun _ => ?_) (fun h => absurd (by decide) h)
    refine R_go 9999 rfl rfl trivial ?_
    exact R_rl rfl rfl (ret_l rfl rfl)
  | succ m ih =>
    intro k hk
    have tk := ti k (by omega)
    have ck : (nI k).toNatClampNeg = k := nI_clamp (by omega)
    have hvk : vp_in (nI k) 32 := vpN (n := 32) (by omega) rfl
    have tl : (Int32.ofNat (kd 2).snd).toInt = 32 := by decide
    have hb := tvN_b hW (i := k) (by omega)
    refine R_go 9999 rfl rfl trivial ?_
    refine R_br rfl rfl (fun h => absurd h (by (simp only [i_eq, i_lt, i_le, Int32.reduceToInt, true_and, and_true, false_and, and_false, or_false, false_or, or_true, true_or, ne_eq] at *; first | done | omega))) (fun _ => ?_)
    refine R_go 9999 rfl rfl hvk ?_
    rw [ck, told_i hR (by omega), nI_l (by omega)]
    refine R_csr rfl (m_foldC _ _ A B) rfl rfl rfl (Nat.le_of_ble_eq_true rfl) rfl ?_
    refine R_go 5 rfl rfl trivial ?_
    rw [nI_1]
    exact ih (k + 1) (by omega)
theorem m_foldF {F : FS} (hW : WFF F) {A : FI} {B : FJ} (hR : RCF A F) (h0 : Int64) : MV 1 1 mtX3_folded [.inr (.inr (some (1, 0))), .inr (.inl h0)] (hp A B) (Ret (some (.inr (.inl (dgF F 32 h0)))) (hp A B)) := by
  refine MV_of caX3_folded (L := [some (.inr (.inr (some (1, 0)))), some (.inr (.inl h0)), none, none, none, none]) rfl rfl ?_
  refine R_go 5 rfl rfl trivial ?_
  exact l_foldF hW hR h0 32 0 rfl
theorem l_toldP {p : Nat} {q : Nat → Nat} {A : FI} {B : FJ} (hq : RPn p A q) : ∀ (k r : Nat), k ≤ 8 → Rn 0 mtX6_told 5 [some (.inr (.inr (some (24, p)))), some (.inr (.inl (lN r))), none, some (.inl (nI k - 1))] [] (hp A B) (Ret (some (.inr (.inl (lN (poN q k r))))) (hp A B)) := by
  intro k
  induction k with
  | zero =>
    intro r hk
    refine R_go 9999 rfl rfl trivial ?_
    refine R_br rfl rfl (fun _ => ?_) (fun h => absurd (by decide) h)
    repeat' (first
        | (refine R_br rfl rfl (fun hbr => absurd hbr (by first | decide | (with_reducible assumption))) (fun _ => ?_))
        | (refine R_br rfl rfl (fun _ => ?_) (fun hbr => absurd (by first | decide | (with_reducible assumption)) hbr))
        | (refine R_br rfl rfl (fun _ => ?_) (fun _ => ?_))
        | (refine R_ri rfl rfl ?_)
        | (refine R_rz rfl rfl (Or.inl rfl) ?_)
        | (refine R_rz rfl rfl (Or.inr rfl) ?_)
        | (refine R_rz rfl rfl (b2_01 _) ?_)
        | (refine R_rl rfl rfl ?_)
        | (refine R_rv rfl rfl ?_)
        | (refine R_sw _ rfl rfl rfl ?_)
        | (refine R_go 9999 rfl rfl trivial ?_)
        | (refine R_go 9999 rfl rfl (by first | (show _ ∨ _; decide) | (show (_ ∨ _) ∧ (_ ∨ _); decide) | (show (_ ∨ _) ∧ (_ ∨ _) ∧ (_ ∨ _); decide)) ?_)
        | (refine R_go 9999 rfl rfl ?_ ?_))
    exact ret_l rfl rfl
  | succ k ih =>
    intro r hk
    have tk := ti k (by omega)
    obtain ⟨a1, a2⟩ := hq k (by omega)
    have ep : poN q (k + 1) r = poN q k (100 * r + q k) := rfl
    rw [ep]
    have ihk := ih (100 * r + q k) (by omega)
    have ck : (nI k).toNatClampNeg = k := nI_clamp (by omega)
    have hvk : vp_in (nI k) 8 := vpN (n := 8) (by omega) rfl
    have q99 : q k ≤ 99 := by rcases a2 with h | h <;> omega
    have fin : ∀ s : Int32, s = nI (q k) → Rn 0 mtX6_told 35 [some (.inr (.inr (some (24, p)))), some (.inr (.inl (lN r))), none, some (.inl (nI k))] [.inl s, .inr (.inl (lN r * 100))] (hp A B) (Ret (some (.inr (.inl (lN (poN q k (100 * r + q k)))))) (hp A B)) := fun s hs => by
      rw [hs]
      refine R_go 5 rfl rfl trivial ?_
      rw [nI_l (by omega), show lN r * 100 = lN (100 * r) by rw [Nat.mul_comm, ← lN_mul]; rfl, lN_add, show nI k + -1 = nI k - 1 from (Int32.sub_eq_add_neg _ _).symm]
      exact ihk
    rw [nI_pred]
    refine R_go 9999 rfl rfl trivial ?_
    refine R_br rfl rfl (fun h => absurd h (by (simp only [i_eq, i_lt, i_le, Int32.reduceToInt, true_and, and_true, false_and, and_false, or_false, false_or, or_true, true_or, ne_eq] at *; first | done | omega))) (fun _ => ?_)
    refine R_go 9999 rfl rfl hvk ?_
    rw [ck, a1]
    by_cases h9 : q k = 99
    · rw [if_pos h9]
      refine R_br rfl rfl (fun _ => ?_) (fun h => absurd rfl h)
      refine R_go 35 rfl rfl trivial ?_
      exact fin 99 (by rw [h9]; rfl)
    · rw [if_neg h9]
      refine R_br rfl rfl (fun h => absurd h (nI_nn (by omega))) (fun _ => ?_)
      refine R_go 35 rfl rfl hvk ?_
      rw [ck, a1, if_neg h9]
      exact fin _ rfl
theorem m_toldQ {p : Nat} {q : Nat → Nat} {A : FI} {B : FJ} (hq : RPn p A q) : MV 0 0 mtX6_told [.inr (.inr (some (24, p)))] (hp A B) (Ret (some (.inr (.inl (lN (poN q 8 0))))) (hp A B)) := by
  refine MV_of caX6_told (L := [some (.inr (.inr (some (24, p)))), none, none, none]) rfl rfl ?_
  refine R_go 5 rfl rfl trivial ?_
  exact l_toldP hq 8 0 (by omega)
theorem l_foldR {P : List (List Tk × Nat)} {R : List Rw} {A : FI} {B : FJ} (hR : RCR A P R) (h0 : Int64) : ∀ (m k : Nat), k + m = R.length → Rn 1 mtX1_folded 5 [some (.inr (.inr (some (18, 0)))), some (.inr (.inl h0)), none, some (.inr (.inl (dgR P R k h0))), none, some (.inl (nI k))] [] (hp A B) (Ret (some (.inr (.inl (dgR P R R.length h0)))) (hp A B)) := by
  intro m
  have h24 := hR.2.1
  induction m with
  | zero =>
    intro k hk
    have ek : k = R.length := by omega
    subst ek
    refine R_go 9999 rfl rfl trivial ?_
    try dsimp only [fgt, fpt]
    rw [hR.1]
    refine R_br rfl rfl (fun _ => ?_) (fun h => absurd (Int32.le_refl _) h)
    refine R_go 9999 rfl rfl trivial ?_
    exact R_rl rfl rfl (ret_l rfl rfl)
  | succ m ih =>
    intro k hk
    have tk := ti k (by omega)
    have tr := ti R.length (by omega)
    have ck : (nI k).toNatClampNeg = k := nI_clamp (by omega)
    have hvk : vp_in (nI k) 24 := vpN (n := 24) (by omega) rfl
    obtain ⟨hq, e20, e21⟩ := hR.2.2 k (by omega)
    refine R_go 9999 rfl rfl trivial ?_
    try dsimp only [fgt, fpt]
    rw [hR.1]
    refine R_br rfl rfl (fun h => absurd h (by (simp only [i_eq, i_lt, i_le, Int32.reduceToInt, true_and, and_true, false_and, and_false, or_false, false_or, or_true, true_or, ne_eq] at *; first | done | omega))) (fun _ => ?_)
    refine R_go 9999 rfl rfl trivial ?_
    refine R_br rfl rfl (fun h => absurd h (by (simp only [i_eq, i_lt, i_le, Int32.reduceToInt, true_and, and_true, false_and, and_false, or_false, false_or, or_true, true_or, ne_eq] at *; first | done | omega))) (fun _ => ?_)
    refine R_go 9999 rfl rfl ⟨hvk, hvk⟩ ?_
    rw [ck]
    refine R_cvr rfl (m_toldQ (B := B) hq) rfl rfl rfl rfl rfl (Nat.le_of_ble_eq_true rfl) rfl ?_
    refine R_csr rfl (m_foldC _ _ A B) rfl rfl rfl (Nat.le_of_ble_eq_true rfl) rfl ?_
    refine R_go 9999 rfl rfl hvk ?_
    rw [ck, e20]
    refine R_csr rfl (m_foldC _ _ A B) rfl rfl rfl (Nat.le_of_ble_eq_true rfl) rfl ?_
    refine R_go 9999 rfl rfl hvk ?_
    rw [ck, e21]
    refine R_csr rfl (m_foldC _ _ A B) rfl rfl rfl (Nat.le_of_ble_eq_true rfl) rfl ?_
    refine R_go 5 rfl rfl trivial ?_
    rw [nI_1]
    exact ih (k + 1) (by omega)
theorem m_foldR {P : List (List Tk × Nat)} {R : List Rw} {A : FI} {B : FJ} (hR : RCR A P R) (h0 : Int64) : MV 1 1 mtX1_folded [.inr (.inr (some (18, 0))), .inr (.inl h0)] (hp A B) (Ret (some (.inr (.inl (dgR P R R.length h0)))) (hp A B)) := by
  refine MV_of caX1_folded (L := [some (.inr (.inr (some (18, 0)))), some (.inr (.inl h0)), none, none, none, none]) rfl rfl ?_
  refine R_go 5 rfl rfl trivial ?_
  exact l_foldR hR h0 R.length 0 (by omega)
theorem l_foldP {p : List Nat} {A : FI} {B : FJ} (hR : RCP A p) (hw : WFP p) (h0 : Int64) : ∀ (m k : Nat), k + m = p.length → Rn 1 mtX5_folded 5 [some (.inr (.inr (some (8, 0)))), some (.inr (.inl h0)), none, some (.inr (.inl (dgP p k h0))), none, some (.inl (nI k))] [] (hp A B) (Ret (some (.inr (.inl (dgP p p.length h0)))) (hp A B)) := by
  intro m
  have h80 := hR.2.1
  induction m with
  | zero =>
    intro k hk
    have ek : k = p.length := by omega
    subst ek
    refine R_go 9999 rfl rfl trivial ?_
    try dsimp only [fgt, fpt]
    rw [hR.1]
    refine R_br rfl rfl (fun _ => ?_) (fun h => absurd (Int32.le_refl _) h)
    refine R_go 9999 rfl rfl trivial ?_
    exact R_rl rfl rfl (ret_l rfl rfl)
  | succ m ih =>
    intro k hk
    have tk := ti k (by omega)
    have tr := ti p.length (by omega)
    have ck : (nI k).toNatClampNeg = k := nI_clamp (by omega)
    have hvk : vp_in (nI k) 80 := vpN (n := 80) (by omega) rfl
    have hb := hw _ (gd_in (show k < p.length by omega))
    refine R_go 9999 rfl rfl trivial ?_
    try dsimp only [fgt, fpt]
    rw [hR.1]
    refine R_br rfl rfl (fun h => absurd h (by (simp only [i_eq, i_lt, i_le, Int32.reduceToInt, true_and, and_true, false_and, and_false, or_false, false_or, or_true, true_or, ne_eq] at *; first | done | omega))) (fun _ => ?_)
    refine R_go 9999 rfl rfl trivial ?_
    refine R_br rfl rfl (fun h => absurd h (by (simp only [i_eq, i_lt, i_le, Int32.reduceToInt, true_and, and_true, false_and, and_false, or_false, false_or, or_true, true_or, ne_eq] at *; first | done | omega))) (fun _ => ?_)
    refine R_go 9999 rfl rfl hvk ?_
    rw [ck, hR.2.2 k (by omega), nI_l (by omega)]
    refine R_csr rfl (m_foldC _ _ A B) rfl rfl rfl (Nat.le_of_ble_eq_true rfl) rfl ?_
    refine R_go 5 rfl rfl trivial ?_
    rw [nI_1]
    exact ih (k + 1) (by omega)
theorem m_foldP {p : List Nat} {A : FI} {B : FJ} (hR : RCP A p) (hw : WFP p) (h0 : Int64) : MV 1 1 mtX5_folded [.inr (.inr (some (8, 0))), .inr (.inl h0)] (hp A B) (Ret (some (.inr (.inl (dgP p p.length h0)))) (hp A B)) := by
  refine MV_of caX5_folded (L := [some (.inr (.inr (some (8, 0)))), some (.inr (.inl h0)), none, none, none, none]) rfl rfl ?_
  refine R_go 5 rfl rfl trivial ?_
  exact l_foldP hR hw h0 p.length 0 (by omega)
/-- all that the class holds but SOUGHT -/
def ClR (A : FI) (F : FS) (p : List Nat) (P : List (List Tk × Nat)) (LS : List (List Tk)) (R : List Rw) (sk md : Nat) : Prop := RCF A F ∧ RCP A p ∧ RS 6 A P [] ∧ RCL A LS ∧ RCR A P R ∧ A 0 0 13 = nI sk ∧ A 0 0 14 = nI md
def FmD (A A' : FI) : Prop := (∀ g, g ≠ 10 → g ≠ 18 → g ≠ 22 → g ≠ 23 → g ≠ 25 → A' g = A g) ∧ (∀ i, i ≠ 26 → A' 25 i = A 25 i) ∧ ∀ s, s ∉ [6, 7, 8, 9, 10, 13] → A' 18 0 s = A 18 0 s
theorem FmD_rf {A : FI} : FmD A A := ⟨fun _ _ _ _ _ _ => rfl, fun _ _ => rfl, fun _ _ => rfl⟩
theorem FmD_tr {A A1 A2 : FI} (a : FmD A A1) (b : FmD A1 A2) : FmD A A2 := ⟨fun g h1 h2 h3 h4 h5 => (b.1 g h1 h2 h3 h4 h5).trans (a.1 g h1 h2 h3 h4 h5), fun i h => (b.2.1 i h).trans (a.2.1 i h), fun s h => (b.2.2 s h).trans (a.2.2 s h)⟩
theorem FmD_3 {A A' : FI} (h : Fm3 A A') : FmD A A' := ⟨fun g h1 _ _ _ _ => FmO_Fm h h1, fun i _ => by rw [FmO_Fm h (by decide)], fun s _ => by rw [FmO_Fm h (by decide)]⟩
theorem FmD_U {A A' : FI} (h : FmU A A') : FmD A A' := ⟨fun g _ h2 h3 h4 _ => h.1 g h2 (fun z => by simp only [List.mem_cons, List.not_mem_nil, or_false] at z; omega), fun i _ => by rw [h.1 25 (by decide) (by decide)], fun s hs => h.2 s hs⟩
theorem FmD_p {A : FI} {f : Nat} {x : Int32} : FmD A (up3 A 25 26 f x) := ⟨fun g _ _ _ _ h5 => up3_g h5, fun i hi => up3_i hi, fun s _ => by rw [up3_g (by decide)]⟩
theorem ClR_fr {A A' : FI} {F : FS} {p : List Nat} {P : List (List Tk × Nat)} {LS : List (List Tk)} {R : List Rw} {sk md : Nat} (h : ClR A F p P LS R sk md) (hF : FmD A A') : ClR A' F p P LS R sk md := by
  obtain ⟨a, b, c, d, e, f, g⟩ := h
  have h' : ∀ g, g ≠ 10 → g ≠ 18 → g ≠ 22 → g ≠ 23 → g ≠ 25 → A' g = A g := hF.1
  refine ⟨fun k hk => by rw [h' 2 (by decide) (by decide) (by decide) (by decide) (by decide)]; exact a k hk, ⟨by rw [h' 8 (by decide) (by decide) (by decide) (by decide) (by decide)]; exact b.1, b.2.1, fun k hk => by rw [h' 9 (by decide) (by decide) (by decide) (by decide) (by decide)]; exact b.2.2 k hk⟩, RS_fr c (by rw [h' 4 (by decide) (by decide) (by decide) (by decide) (by decide)]) (by rw [h' 5 (by decide) (by decide) (by decide) (by decide) (by decide)]) (by rw [h' 6 (by decide) (by decide) (by decide) (by decide) (by decide)]), ⟨by rw [h' 1 (by decide) (by decide) (by decide) (by decide) (by decide)]; exact d.1, fun j hj => RS_fr (d.2 j hj) (by rw [h' 4 (by decide) (by decide) (by decide) (by decide) (by decide)]) (by rw [h' 5 (by decide) (by decide) (by decide) (by decide) (by decide)]) (by rw [h' 6 (by decide) (by decide) (by decide) (by decide) (by decide)])⟩, RCR_fr e (hF.2.2 3 (by decide)) (h' 20 (by decide) (by decide) (by decide) (by decide) (by decide)) (h' 21 (by decide) (by decide) (by decide) (by decide) (by decide)) (fun i hi => hF.2.1 i (by omega)), by rw [h' 0 (by decide) (by decide) (by decide) (by decide) (by decide)]; exact f, by rw [h' 0 (by decide) (by decide) (by decide) (by decide) (by decide)]; exact g⟩
