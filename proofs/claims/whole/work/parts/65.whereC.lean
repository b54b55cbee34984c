theorem cgT {f a b : Nat} {q : Nat → Nat} : cgP f a b true q ↔ q f ≠ 99 ∧ a ≤ q f ∧ q f ≤ b := by unfold cgP; simp
theorem cgF {f a b : Nat} {q : Nat → Nat} : cgP f a b false q ↔ q f ≠ 99 ∧ ¬ (a ≤ q f ∧ q f ≤ b) := by unfold cgP; simp
/-- all rows told as they should be -/
def okR (R : List Rw) : Prop := ∀ i, i < R.length → ∀ f, f < 8 → okF ((R.getD i d0).1 f)
theorem gcM_ad {R : List Rw} {f a b : Nat} (h : a ≤ b) (n : Nat) : gcM R f a (b + 1) true n = gcM R f a b true n + gcM R f (b + 1) (b + 1) true n := by
  induction n with
  | zero => rfl
  | succ n ih =>
    by_cases h1 : cgP f a b true (R.getD n d0).1
    · have h1' := cgT.mp h1
      rw [gcM_y h1, gcM_y (cgT.mpr ⟨h1'.1, by omega, by omega⟩), gcM_n (fun z => by have := cgT.mp z; omega), ih]
      omega
    · by_cases h2 : cgP f (b + 1) (b + 1) true (R.getD n d0).1
      · have h2' := cgT.mp h2
        rw [gcM_n h1, gcM_y h2, gcM_y (cgT.mpr ⟨h2'.1, by omega, by omega⟩), ih]
        omega
      · rw [gcM_n h1, gcM_n h2, gcM_n (fun z => by
          have z := cgT.mp z
          by_cases e : (R.getD n d0).1 f = b + 1
          · exact h2 (cgT.mpr ⟨z.1, by omega, by omega⟩)
          · exact h1 (cgT.mpr ⟨z.1, by omega, by omega⟩)), ih]
theorem gcL_ad {P : List (List Tk × Nat)} {R : List Rw} {f a b : Nat} (h : a ≤ b) (n : Nat) : gcL P R f a (b + 1) true n = gcL P R f a b true n + gcL P R f (b + 1) (b + 1) true n := by
  induction n with
  | zero => rfl
  | succ n ih =>
    by_cases hl : (rnS (R.getD n d0).1 0 P).1 = 1
    · by_cases h1 : cgP f a b true (R.getD n d0).1
      · have h1' := cgT.mp h1
        rw [gcL_y h1 hl, gcL_y (cgT.mpr ⟨h1'.1, by omega, by omega⟩) hl, gcL_n (fun z => by have := cgT.mp z.1; omega), ih]
        omega
      · by_cases h2 : cgP f (b + 1) (b + 1) true (R.getD n d0).1
        · have h2' := cgT.mp h2
          rw [gcL_n (fun z => h1 z.1), gcL_y h2 hl, gcL_y (cgT.mpr ⟨h2'.1, by omega, by omega⟩) hl, ih]
          omega
        · rw [gcL_n (fun z => h1 z.1), gcL_n (fun z => h2 z.1), gcL_n (fun z => by
            have z := cgT.mp z.1
            by_cases e : (R.getD n d0).1 f = b + 1
            · exact h2 (cgT.mpr ⟨z.1, by omega, by omega⟩)
            · exact h1 (cgT.mpr ⟨z.1, by omega, by omega⟩)), ih]
    · rw [gcL_n (fun z => hl z.2), gcL_n (fun z => hl z.2), gcL_n (fun z => hl z.2), ih]
theorem gcM_tf {R : List Rw} {f a b : Nat} (hf : f < 8) (hR : okR R) (n : Nat) (hn : n ≤ R.length) : gcM R f a b true n + gcM R f a b false n = gcM R f 0 20 true n := by
  induction n with
  | zero => rfl
  | succ n ih =>
    have ih := ih (by omega)
    have ho := hR n (by omega) f hf
    unfold okF at ho
    by_cases h9 : (R.getD n d0).1 f = 99
    · rw [gcM_n (fun z => (cgT.mp z).1 h9), gcM_n (fun z => (cgF.mp z).1 h9), gcM_n (fun z => (cgT.mp z).1 h9), ih]
    · rw [gcM_y (a := 0) (b := 20) (cgT.mpr ⟨h9, by omega, by omega⟩)]
      by_cases h1 : a ≤ (R.getD n d0).1 f ∧ (R.getD n d0).1 f ≤ b
      · rw [gcM_y (cgT.mpr ⟨h9, h1⟩), gcM_n (fun z => (cgF.mp z).2 h1)]; omega
      · rw [gcM_n (fun z => h1 (cgT.mp z).2), gcM_y (cgF.mpr ⟨h9, h1⟩)]; omega
theorem gcL_tf {P : List (List Tk × Nat)} {R : List Rw} {f a b : Nat} (hf : f < 8) (hR : okR R) (n : Nat) (hn : n ≤ R.length) : gcL P R f a b true n + gcL P R f a b false n = gcL P R f 0 20 true n := by
  induction n with
  | zero => rfl
  | succ n ih =>
    have ih := ih (by omega)
    have ho := hR n (by omega) f hf
    unfold okF at ho
    by_cases hl : (rnS (R.getD n d0).1 0 P).1 = 1
    · by_cases h9 : (R.getD n d0).1 f = 99
      · rw [gcL_n (fun z => (cgT.mp z.1).1 h9), gcL_n (fun z => (cgF.mp z.1).1 h9), gcL_n (fun z => (cgT.mp z.1).1 h9), ih]
      · rw [gcL_y (a := 0) (b := 20) (cgT.mpr ⟨h9, by omega, by omega⟩) hl]
        by_cases h1 : a ≤ (R.getD n d0).1 f ∧ (R.getD n d0).1 f ≤ b
        · rw [gcL_y (cgT.mpr ⟨h9, h1⟩) hl, gcL_n (fun z => (cgF.mp z.1).2 h1)]; omega
        · rw [gcL_n (fun z => h1 (cgT.mp z.1).2), gcL_y (cgF.mpr ⟨h9, h1⟩) hl]; omega
    · rw [gcL_n (fun z => hl z.2), gcL_n (fun z => hl z.2), gcL_n (fun z => hl z.2), ih]
abbrev FmU (A A' : FI) : Prop := FmO 18 [22, 23] [6, 7, 8, 9, 10, 13] A A'
abbrev FmU0 (A A' : FI) : Prop := FmO 18 [22, 23] [6, 7] A A'
theorem FmU0_U {A A' : FI} (h : FmU0 A A') : FmU A A' := FmO_w h (by decide) (by decide)
theorem RCR_U {A A' : FI} {P : List (List Tk × Nat)} {R : List Rw} (h : RCR A P R) (hF : FmU A A') : RCR A' P R := RCR_fr h (hF.2 3 (by decide)) (hF.1 20 (by decide) (by decide)) (hF.1 21 (by decide) (by decide)) (fun i _ => by rw [hF.1 25 (by decide) (by decide)])
def TLy (A : FI) (P : List (List Tk × Nat)) (R : List Rw) (f n : Nat) : Prop := A 18 0 6 = nI (gcM R f 0 20 true n) ∧ A 18 0 7 = nI (gcL P R f 0 20 true n) ∧ ∀ v, v ≤ 20 → A 22 0 v = nI (gcM R f v v true n) ∧ A 23 0 v = nI (gcL P R f v v true n)
theorem l_tally0 {f : Nat} (B : FJ) (A0 : FI) {Q : Option AV → AH → Prop} (kk : ∀ A, FmO 18 [22, 23] [] A0 A → (∀ v, v ≤ 20 → A 22 0 v = 0 ∧ A 23 0 v = 0) → Rn 3 mtX1_tally 38 [some (.inr (.inr (some (18, 0)))), some (.inl (nI f)), some (.inl 21), none, none] [] (hp A B) Q) : ∀ (m k : Nat) (A : FI), k + m = 21 → FmO 18 [22, 23] [] A0 A → (∀ v, v < k → A 22 0 v = 0 ∧ A 23 0 v = 0) → Rn 3 mtX1_tally 12 [some (.inr (.inr (some (18, 0)))), some (.inl (nI f)), some (.inl (nI k)), none, none] [] (hp A B) Q := by
  intro m
  induction m with
  | zero =>
    intro k A hk hF hA
    have : k = 21 := by omega
    subst this
    refine R_go 9999 rfl rfl trivial ?_
    refine R_br rfl rfl (fun _ => ?_) (fun h => absurd (by decide) h)
    exact kk A hF (fun v hv => hA v (by omega))
  | succ m ih =>
    intro k A hk hF hA
    have tk := ti k (by omega)
    have ck : (nI k).toNatClampNeg = k := nI_clamp (by omega)
    have hv : vp_in (nI k) 21 := vpN (n := 21) (by omega) rfl
    refine R_go 9999 rfl rfl trivial ?_
    refine R_br rfl rfl (fun h => absurd h (by (simp only [i_eq, i_lt, i_le, Int32.reduceToInt, true_and, and_true, false_and, and_false, or_false, false_or, or_true, true_or, ne_eq] at *; first | done | omega))) (fun _ => ?_)
    refine R_go 12 rfl rfl ⟨hv, hv⟩ ?_
    rw [ck, nI_1]
    refine ih (k + 1) _ (by omega) (FmO_tr hF (by first | exact FmO_rf | (repeat' (first | exact FmO_rf | (with_reducible assumption) | (refine FmO_up ?_ (by decide)) | (refine FmO_ug ?_ (by decide) (by decide)))))) (fun v hv => ?_)
    by_cases e : v = k
    · subst e; rw [up3_g (by decide), up3_self, up3_self]; exact ⟨rfl, rfl⟩
    · rw [up3_g (show 22 ≠ 23 by decide), up3_s e, up3_s e, up3_g (show 23 ≠ 22 by decide)]; exact hA v (by omega)
theorem l_tally1 {P : List (List Tk × Nat)} {R : List Rw} {f : Nat} (hf : f < 8) (hP : okP P) (B : FJ) (A0 : FI) : ∀ (m k : Nat) (A : FI), k + m = R.length → RCR A P R → FmU0 A0 A → TLy A P R f k → ∀ o3 o4, Rn 3 mtX1_tally 40 [some (.inr (.inr (some (18, 0)))), some (.inl (nI f)), some (.inl (nI k)), o3, o4] [] (hp A B) (fun r h' => ∃ A', r = none ∧ h' = hp A' B ∧ FmU0 A0 A' ∧ TLy A' P R f R.length) := by
  intro m
  induction m with
  | zero =>
    intro k A hk hR hF hT o3 o4
    have ek : R.length = k := by omega
    have n1 : A 18 0 3 ≤ nI k := by rw [hR.1, ek]; exact Int32.le_refl _
    refine R_go 9999 rfl rfl trivial ?_
    refine R_br rfl rfl (fun _ => ?_) (fun h => absurd n1 h)
    repeat' (first
        | (refine R_br rfl rfl (fun hbr => absurd hbr (by first | decide | (with_reducible assumption))) (fun _ => ?_))
        | (refine R_br rfl rfl (fun _ => ?_) (fun hbr => absurd (by first | decide | (with_reducible assumption)) hbr))
        | (refine R_br rfl rfl (fun _ => ?_) (fun _ => ?_))
        | (refine R_ri rfl rfl ?_)
        | (refine R_rz rfl rfl (Or.inl rfl) ?_)
        | (refine R_rz rfl rfl (Or.inr rfl) ?_)
        | (refine R_rz rfl rfl (b2_01 _) ?_)
        | (refine R_rl rfl rfl ?_)
        | (refine R_rv rfl rfl ?_)
        | (refine R_sw _ rfl rfl rfl ?_)
        | (refine R_go 9999 rfl rfl trivial ?_)
        | (refine R_go 9999 rfl rfl (by first | (show _ ∨ _; decide) | (show (_ ∨ _) ∧ (_ ∨ _); decide) | (show (_ ∨ _) ∧ (_ ∨ _) ∧ (_ ∨ _); decide)) ?_)
        | (refine R_go 9999 rfl rfl ?_ ?_))
    exact ⟨A, rfl, rfl, hF, by rw [ek]; exact hT⟩
  | succ m ih =>
    intro k A hk hR hF hT o3 o4
    have h24 := hR.2.1
    have tk := ti k (by omega)
    have tl := ti R.length (by omega)
    have ck : (nI k).toNatClampNeg = k := nI_clamp (by omega)
    have hvk : vp_in (nI k) 24 := vpN (n := 24) (by omega) rfl
    obtain ⟨hq, -, e21⟩ := hR.2.2 k (by omega)
    rw [reS_y (okP_ne hP)] at e21
    have hrl := rnS_le hP (R.getD k d0).1
    have tr := ti (rnS (R.getD k d0).1 0 P).1 (by omega)
    have hnr := m_numR (B := B) hR.1 h24 k (by omega) hq f hf
    have hqo := (hq f hf).2
    obtain ⟨t6, t7, t22⟩ := hT
    refine R_go 9999 rfl rfl trivial ?_
    refine R_br rfl rfl (fun h => absurd h (by rw [hR.1]; (simp only [i_eq, i_lt, i_le, Int32.reduceToInt, true_and, and_true, false_and, and_false, or_false, false_or, or_true, true_or, ne_eq] at *; first | done | omega))) (fun _ => ?_)
    refine R_go 9999 rfl rfl trivial ?_
    refine R_br rfl rfl (fun h => absurd h (by (simp only [i_eq, i_lt, i_le, Int32.reduceToInt, true_and, and_true, false_and, and_false, or_false, false_or, or_true, true_or, ne_eq] at *; first | done | omega))) (fun _ => ?_)
    refine R_go 9999 rfl rfl trivial ?_
    refine R_cvr rfl hnr rfl rfl rfl rfl rfl (Nat.le_of_ble_eq_true rfl) rfl ?_
    refine R_go 9999 rfl rfl trivial ?_
    by_cases h9 : (R.getD k d0).1 f = 99
    · rw [if_pos h9]
      refine R_br rfl rfl (fun _ => ?_) (fun h => absurd (by decide) h)
      refine R_go 40 rfl rfl trivial ?_
      rw [nI_1]
      refine ih (k + 1) A (by omega) hR hF ⟨?_, ?_, fun v hv => ⟨?_, ?_⟩⟩ _ o4
      · rw [gcM_n (fun z => (cgT.mp z).1 h9)]; exact t6
      · rw [gcL_n (fun z => (cgT.mp z.1).1 h9)]; exact t7
      · rw [gcM_n (fun z => (cgT.mp z).1 h9)]; exact (t22 v hv).1
      · rw [gcL_n (fun z => (cgT.mp z.1).1 h9)]; exact (t22 v hv).2
    · rw [if_neg h9]
      generalize hvv : (R.getD k d0).1 f = w at *
      have hw20 : w ≤ 20 := by omega
      have tw := ti w (by omega)
      have cw : (nI w).toNatClampNeg = w := nI_clamp (by omega)
      have hvw : vp_in (nI w) 21 := vpN (n := 21) (by omega) rfl
      have hcy : ∀ v, cgP f v v true (R.getD k d0).1 ↔ w = v := fun v => by rw [cgT, hvv]; omega
      have hc20 : cgP f 0 20 true (R.getD k d0).1 := cgT.mpr ⟨by rw [hvv]; exact h9, by omega, by rw [hvv]; exact hw20⟩
      refine R_br rfl rfl (fun h => absurd h (by (simp only [i_eq, i_lt, i_le, Int32.reduceToInt, true_and, and_true, false_and, and_false, or_false, false_or, or_true, true_or, ne_eq] at *; first | done | omega))) (fun _ => ?_)
      refine R_go 9999 rfl rfl trivial ?_
      refine R_br rfl rfl (fun h => absurd h (by (simp only [i_eq, i_lt, i_le, Int32.reduceToInt, true_and, and_true, false_and, and_false, or_false, false_or, or_true, true_or, ne_eq] at *; first | done | omega))) (fun _ => ?_)
      refine R_go 9999 rfl rfl hvk ?_
      rw [ck, e21]
      have hfin : ∀ (y : Nat), (y = 0 ∨ y = 1) → (y = 1 ↔ (rnS (R.getD k d0).1 0 P).1 = 1) → Rn 3 mtX1_tally 86 [some (.inr (.inr (some (18, 0)))), some (.inl (nI f)), some (.inl (nI k)), some (.inl (nI w)), o4] [.inl (nI y)] (hp A B) (fun r h' => ∃ A', r = none ∧ h' = hp A' B ∧ FmU0 A0 A' ∧ TLy A' P R f R.length) := by
        intro y hy hyl
        have hly : ∀ v, gcL P R f v v true (k + 1) = gcL P R f v v true k + (if v = w then y else 0) := by
          intro v
          by_cases e : v = w
          · rw [if_pos e]
            rcases hy with rfl | rfl
            · rw [gcL_n (fun z => by have := hyl.mpr z.2; omega)]; rfl
            · rw [gcL_y ((hcy v).mpr e.symm) (hyl.mp rfl)]
          · rw [if_neg e, gcL_n (fun z => e ((hcy v).mp z.1).symm)]; rfl
        have hmy : ∀ v, gcM R f v v true (k + 1) = gcM R f v v true k + (if v = w then 1 else 0) := by
          intro v
          by_cases e : v = w
          · rw [if_pos e, gcM_y ((hcy v).mpr e.symm)]
          · rw [if_neg e, gcM_n (fun z => e ((hcy v).mp z).symm)]; rfl
        have hly0 : gcL P R f 0 20 true (k + 1) = gcL P R f 0 20 true k + y := by
          rcases hy with rfl | rfl
          · rw [gcL_n (fun z => by have := hyl.mpr z.2; omega)]; rfl
          · rw [gcL_y hc20 (hyl.mp rfl)]
        have hb : MS 0 1 mtX11_bit [.inl (nI y)] (hp A B) (Ret (some (.inl (nI y))) (hp A B)) := m_bit (nI y) (by rcases hy with rfl | rfl; exact Or.inl rfl; exact Or.inr rfl) A B
        refine R_csr rfl hb rfl rfl rfl (Nat.le_of_ble_eq_true rfl) rfl ?_
        refine R_go 40 rfl rfl ?_ ?_
        · exact ⟨hvw, hvw, hvw, hvw⟩
        obtain ⟨z1, z2⟩ := t22 w hw20
        rw [cw, z1, up3_g (show 23 ≠ 22 by decide), z2, up3_g (show 18 ≠ 23 by decide), up3_g (show 18 ≠ 22 by decide), t6, up3_s (show 7 ≠ 6 by decide), up3_g (show 18 ≠ 23 by decide), up3_g (show 18 ≠ 22 by decide), t7, nI_1, nI_1, nI_1, nI_add, nI_add]
        have hF1 : FmU0 A (up3 (up3 (up3 (up3 A 22 0 w (nI (gcM R f w w true k + 1))) 23 0 w (nI (gcL P R f w w true k + y))) 18 0 6 (nI (gcM R f 0 20 true k + 1))) 18 0 7 (nI (gcL P R f 0 20 true k + y))) := (by first | exact FmO_rf | (repeat' (first | exact FmO_rf | (with_reducible assumption) | (refine FmO_up ?_ (by decide)) | (refine FmO_ug ?_ (by decide) (by decide)))))
        refine ih (k + 1) _ (by omega) (RCR_U hR (FmU0_U hF1)) (FmO_tr hF hF1) ⟨?_, ?_, fun v hv => ⟨?_, ?_⟩⟩ _ _
        · rw [up3_s (by decide), up3_self, gcM_y hc20]
        · rw [up3_self, hly0]
        · rw [up3_g (by decide), up3_g (by decide), up3_g (by decide), hmy v]
          by_cases e : v = w
          · subst e; rw [up3_self, if_pos rfl]
          · rw [up3_s e, if_neg e]; exact (t22 v hv).1
        · rw [up3_g (by decide), up3_g (by decide), hly v]
          by_cases e : v = w
          · subst e; rw [up3_self, if_pos rfl]
          · rw [up3_s e, if_neg e, up3_g (by decide)]; exact (t22 v hv).2
      by_cases h1 : (rnS (R.getD k d0).1 0 P).1 = 1
      · have n1 : nI (rnS (R.getD k d0).1 0 P).1 = 1 := by rw [h1]; rfl
        refine R_br rfl rfl (fun _ => ?_) (fun h => absurd n1 h)
        refine R_go 86 rfl rfl trivial ?_
        exact hfin 1 (Or.inr rfl) ⟨fun _ => h1, fun _ => rfl⟩
      · have n1 : ¬ nI (rnS (R.getD k d0).1 0 P).1 = 1 := by (simp only [i_eq, i_lt, i_le, Int32.reduceToInt, true_and, and_true, false_and, and_false, or_false, false_or, or_true, true_or, ne_eq] at *; first | done | omega)
        refine R_br rfl rfl (fun h => absurd h n1) (fun _ => ?_)
        refine R_go 86 rfl rfl trivial ?_
        exact hfin 0 (Or.inl rfl) ⟨fun z => by omega, fun z => absurd z h1⟩
theorem m_tally {P : List (List Tk × Nat)} {R : List Rw} {f : Nat} (hf : f < 8) (hP : okP P) {A : FI} {B : FJ} (hR : RCR A P R) : MV 3 1 mtX1_tally [.inr (.inr (some (18, 0))), .inl (nI f)] (hp A B) (fun r h' => ∃ A', r = none ∧ h' = hp A' B ∧ FmU0 A A' ∧ TLy A' P R f R.length) := by
  refine MV_of caX1_tally (L := [some (.inr (.inr (some (18, 0)))), some (.inl (nI f)), none, none, none]) rfl rfl ?_
  refine R_go 12 rfl rfl trivial ?_
  have hF1 : FmU0 A (up3 (up3 A 18 0 6 0) 18 0 7 0) := (by first | exact FmO_rf | (repeat' (first | exact FmO_rf | (with_reducible assumption) | (refine FmO_up ?_ (by decide)) | (refine FmO_ug ?_ (by decide) (by decide)))))
  refine l_tally0 B _ (fun A1 hF2 h0 => ?_) 21 0 _ rfl FmO_rf (fun v hv => by omega)
  have hF3 : FmU0 A A1 := FmO_tr hF1 (FmO_w hF2 (by decide) (by decide))
  refine R_go 40 rfl rfl trivial ?_
  exact l_tally1 hf hP B A R.length 0 A1 (by omega) (RCR_U hR (FmU0_U hF3)) hF3 ⟨by rw [hF2.2 6 (by simp), up3_s (by decide), up3_self]; rfl, by rw [hF2.2 7 (by simp), up3_self]; rfl, fun v hv => ⟨(h0 v hv).1, (h0 v hv).2⟩⟩ none none
