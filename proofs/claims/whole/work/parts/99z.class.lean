def pcX1_init (c : Nat → Nat) : Nat → Nat := (cI (cI (cI (cI (cI c 19) 20) 21) 22) 23)
def pCX1_init (c : Nat → Nat) (C : FR) (i : Nat) : FR := (up3 (up3 (up3 (up3 (up3 C 18 i 0 (some (19, (c 19)))) 18 i 1 (some (20, (c 20)))) 18 i 2 (some (21, (c 21)))) 18 i 4 (some (22, (c 22)))) 18 i 5 (some (23, (c 23))))
def ncX1_init (c : Nat → Nat) : Nat → Nat := cCm (pcX1_init c) 24
def nCX1_init (c : Nat → Nat) (C : FR) (i : Nat) : FR := CCm (pcX1_init c) (pCX1_init c C i) (c 19) 24
theorem i_Ca {c : Nat → Nat} {A : FI} {B : FJ} {C : FR} {i : Nat} (h : Cln c A B C) (hi : i < c 18) : M 2 53 330 mtX1_init [.inr (.inr (some (18, i)))] (c, A, B, C) (fun r h' => r = none ∧ h' = (ncX1_init c, A, B, nCX1_init c C i) ∧ Cln (ncX1_init c) A B (nCX1_init c C i)) := by
  have hf : Cln (pcX1_init c) A B (pCX1_init c C i) := (Cln_r (Cln_n 23 (Cln_r (Cln_n 22 (Cln_r (Cln_n 21 (Cln_r (Cln_n 20 (Cln_r (Cln_n 19 h) hi)) hi)) hi)) hi)) hi)
  refine MI_of caX1_init (L := [some (.inr (.inr (some (18, i)))), none]) rfl rfl ?_
  refine G_go 9999 rfl rfl trivial ?_
  refine s_objInit rfl oiX1 qw_oi qw_oc (by decide) (Nat.zero_le _) ?_
  refine G_go 9999 rfl rfl trivial ?_
  refine G_an 19 h rfl rfl (by decide) rfl (Or.inl rfl) (NOK_w nkX1_9) (by decide) (by decide) (by decide) (by decide) (by decide) ?_
  refine G_pr rfl fdX1_11 rfl (by decide) (by decide) rfl ?_
  refine G_go 9999 rfl rfl trivial ?_
  refine G_na 20 (Cln_r (Cln_n 19 h) hi) rfl rfl (Or.inl ⟨rfl, rfl⟩) acI (by decide) (by decide) (by decide) (by decide) (by decide) ?_
  refine G_pr rfl fdX1_17 rfl (by decide) (by decide) rfl ?_
  refine G_go 9999 rfl rfl trivial ?_
  refine G_na 21 (Cln_r (Cln_n 20 (Cln_r (Cln_n 19 h) hi)) hi) rfl rfl (Or.inl ⟨rfl, rfl⟩) acI (by decide) (by decide) (by decide) (by decide) (by decide) ?_
  refine G_pr rfl fdX1_21 rfl (by decide) (by decide) rfl ?_
  refine G_go 9999 rfl rfl trivial ?_
  refine G_na 22 (Cln_r (Cln_n 21 (Cln_r (Cln_n 20 (Cln_r (Cln_n 19 h) hi)) hi)) hi) rfl rfl (Or.inl ⟨rfl, rfl⟩) acI (by decide) (by decide) (by decide) (by decide) (by decide) ?_
  refine G_pr rfl fdX1_24 rfl (by decide) (by decide) rfl ?_
  refine G_go 9999 rfl rfl trivial ?_
  refine G_na 23 (Cln_r (Cln_n 22 (Cln_r (Cln_n 21 (Cln_r (Cln_n 20 (Cln_r (Cln_n 19 h) hi)) hi)) hi)) hi) rfl rfl (Or.inl ⟨rfl, rfl⟩) acI (by decide) (by decide) (by decide) (by decide) (by decide) ?_
  refine G_pr rfl fdX1_27 rfl (by decide) (by decide) rfl ?_
  refine G_go 47 rfl rfl trivial ?_
  have hR : pCX1_init c C i 18 i 0 = some (19, c 19) := by simp [pCX1_init, up3]
  have hf0 : Cln (cCm (pcX1_init c) 0) A B (CCm (pcX1_init c) (pCX1_init c C i) (c 19) 0) := by rw [cCm_0]; exact hf
  have hl := l_came (kc := 53) (ks := 330) (i := i) (a := c 19) hR (Nat.lt_succ_self (c 19)) 24 0 5 114 rfl hf0 (by decide) (by decide)
  rw [cCm_0] at hl
  exact hl
def pcX3_init (c : Nat → Nat) : Nat → Nat := (cI (cI c 2) 3)
def pCX3_init (c : Nat → Nat) (C : FR) (i : Nat) : FR := (up3 (up3 C 1 i 0 (some (2, (c 2)))) 1 i 1 (some (3, (c 3))))
def ncX3_init (c : Nat → Nat) : Nat → Nat := cFm (pcX3_init c) 6
def nCX3_init (c : Nat → Nat) (C : FR) (i : Nat) : FR := CFm (pcX3_init c) (pCX3_init c C i) (c 3) 6
theorem i_Fo {c : Nat → Nat} {A : FI} {B : FJ} {C : FR} {i : Nat} (h : Cln c A B C) (hi : i < c 1) : M 2 26 1526 mtX3_init [.inr (.inr (some (1, i)))] (c, A, B, C) (fun r h' => r = none ∧ h' = (ncX3_init c, (AFm A (c 2) 8), B, nCX3_init c C i) ∧ Cln (ncX3_init c) (AFm A (c 2) 8) B (nCX3_init c C i)) := by
  have hf : Cln (pcX3_init c) A B (pCX3_init c C i) := (Cln_r (Cln_n 3 (Cln_r (Cln_n 2 h) hi)) hi)
  refine MI_of caX3_init (L := [some (.inr (.inr (some (1, i)))), none]) rfl rfl ?_
  refine G_go 9999 rfl rfl trivial ?_
  refine s_objInit rfl oiX3 qw_oi qw_oc (by decide) (Nat.zero_le _) ?_
  refine G_go 9999 rfl rfl trivial ?_
  refine G_na 2 h rfl rfl (Or.inl ⟨rfl, rfl⟩) acI (by decide) (by decide) (by decide) (by decide) (by decide) ?_
  refine G_pr rfl fdX3_9 rfl (by decide) (by decide) rfl ?_
  refine G_go 9999 rfl rfl trivial ?_
  refine G_an 3 (Cln_r (Cln_n 2 h) hi) rfl rfl (by decide) rfl (Or.inr rfl) (NOK_w nkX3_15) (by decide) (by decide) (by decide) (by decide) (by decide) ?_
  refine G_pr rfl fdX3_17 rfl (by decide) (by decide) rfl ?_
  refine G_go 23 rfl rfl trivial ?_
  have hR0 : pCX3_init c C i 1 i 0 = some (2, c 2) := by simp [pCX3_init, up3]
  have hR1 : pCX3_init c C i 1 i 1 = some (3, c 3) := by simp [pCX3_init, up3]
  refine l_form1 (C := pCX3_init c C i) (c := pcX3_init c) (A := A) hR0 (Nat.lt_succ_self (c 2)) 8 0 rfl hf (fun hg => ?_)
  refine G_go 60 rfl rfl trivial ?_
  have hf0 : Cln (cFm (pcX3_init c) 0) (AFm A (c 2) 8) B (CFm (pcX3_init c) (pCX3_init c C i) (c 3) 0) := by rw [cFm_0]; exact hg
  have hl := l_form2 (kc := 26) (ks := 1526) (i := i) (a := c 3) hR1 (Nat.lt_succ_self (c 3)) 6 0 2 38 rfl hf0 (by decide) (by decide)
  rw [cFm_0] at hl
  exact hl
def ncX11_init (c : Nat → Nat) : Nat → Nat := (cI (ncX6_init (cI (ncX6_init (cI (ncX0_init (cI (ncX2_init (cI (ncX4_init (cI (ncX1_init (cI (ncX8_init (cI (ncX9_init (cI (ncX10_init (cI (ncX7_init (cI (ncX5_init (cI (ncX3_init (cI c 1)) 8)) 4)) 10)) 12)) 15)) 18)) 26)) 28)) 29)) 24)) 24)) 30)
def nCX11_init (c : Nat → Nat) (C : FR) (i : Nat) : FR := (up3 (up3 (nCX6_init (cI (ncX6_init (cI (ncX0_init (cI (ncX2_init (cI (ncX4_init (cI (ncX1_init (cI (ncX8_init (cI (ncX9_init (cI (ncX10_init (cI (ncX7_init (cI (ncX5_init (cI (ncX3_init (cI c 1)) 8)) 4)) 10)) 12)) 15)) 18)) 26)) 28)) 29)) 24)) 24) (up3 (nCX6_init (cI (ncX0_init (cI (ncX2_init (cI (ncX4_init (cI (ncX1_init (cI (ncX8_init (cI (ncX9_init (cI (ncX10_init (cI (ncX7_init (cI (ncX5_init (cI (ncX3_init (cI c 1)) 8)) 4)) 10)) 12)) 15)) 18)) 26)) 28)) 29)) 24) (up3 (nCX0_init (cI (ncX2_init (cI (ncX4_init (cI (ncX1_init (cI (ncX8_init (cI (ncX9_init (cI (ncX10_init (cI (ncX7_init (cI (ncX5_init (cI (ncX3_init (cI c 1)) 8)) 4)) 10)) 12)) 15)) 18)) 26)) 28)) 29) (up3 (nCX2_init (cI (ncX4_init (cI (ncX1_init (cI (ncX8_init (cI (ncX9_init (cI (ncX10_init (cI (ncX7_init (cI (ncX5_init (cI (ncX3_init (cI c 1)) 8)) 4)) 10)) 12)) 15)) 18)) 26)) 28) (up3 (nCX4_init (cI (ncX1_init (cI (ncX8_init (cI (ncX9_init (cI (ncX10_init (cI (ncX7_init (cI (ncX5_init (cI (ncX3_init (cI c 1)) 8)) 4)) 10)) 12)) 15)) 18)) 26) (up3 (nCX1_init (cI (ncX8_init (cI (ncX9_init (cI (ncX10_init (cI (ncX7_init (cI (ncX5_init (cI (ncX3_init (cI c 1)) 8)) 4)) 10)) 12)) 15)) 18) (up3 (nCX8_init (cI (ncX9_init (cI (ncX10_init (cI (ncX7_init (cI (ncX5_init (cI (ncX3_init (cI c 1)) 8)) 4)) 10)) 12)) 15) (up3 (nCX9_init (cI (ncX10_init (cI (ncX7_init (cI (ncX5_init (cI (ncX3_init (cI c 1)) 8)) 4)) 10)) 12) (up3 (nCX10_init (cI (ncX7_init (cI (ncX5_init (cI (ncX3_init (cI c 1)) 8)) 4)) 10) (up3 (nCX7_init (cI (ncX5_init (cI (ncX3_init (cI c 1)) 8)) 4) (up3 (nCX5_init (cI (ncX3_init (cI c 1)) 8) (up3 (nCX3_init (cI c 1) C (c 1)) 0 i 0 (some (1, (c 1)))) (c 8)) 0 i 1 (some (8, (c 8)))) (c 4 + 6)) 0 i 2 (some (4, (c 4 + 6)))) (c 10)) 0 i 3 (some (10, (c 10)))) (c 12)) 0 i 4 (some (12, (c 12)))) (c 15)) 0 i 5 (some (15, (c 15)))) (c 18)) 0 i 6 (some (18, (c 18)))) (c 26)) 0 i 7 (some (26, (c 26)))) (c 28)) 0 i 8 (some (28, (c 28)))) (c 29)) 0 i 9 (some (29, (c 29)))) (c 24 + 26)) 0 i 10 (some (24, (c 24 + 26)))) (c 24 + 27)) 0 i 11 (some (24, (c 24 + 27)))) 0 i 12 (some (30, (c 30))))
theorem i_X {c : Nat → Nat} {A : FI} {B : FJ} {C : FR} {i : Nat} (h : Cln c A B C) (hi : i < c 0) : M 3 108 5157 mtX11_init [.inr (.inr (some (0, i)))] (c, A, B, C) (fun r h' => r = none ∧ h' = (ncX11_init c, (AFm A (c 2) 8), (up3 (up3 B 15 (c 15) 7 (-1)) 15 (c 15) 8 (-1)), nCX11_init c C i) ∧ Cln (ncX11_init c) (AFm A (c 2) 8) (up3 (up3 B 15 (c 15) 7 (-1)) 15 (c 15) 8 (-1)) (nCX11_init c C i)) := by
  refine MI_of caX11_init (L := [some (.inr (.inr (some (0, i))))]) rfl rfl ?_
  refine G_go 9999 rfl rfl trivial ?_
  refine s_objInit rfl oiX11 qw_oi qw_oc (by decide) (Nat.zero_le _) ?_
  refine G_go 9999 rfl rfl trivial ?_
  refine G_new 1 h rfl rfl (by decide) nkX11_7 (by decide) (by decide) ?_
  refine G_go 9999 rfl rfl trivial ?_
  refine s_init (mt2 := mtX3_init) rfl lkX11_9 caX3_init (i_Fo (Cln_n 1 h) (Nat.lt_succ_self _)) rfl rfl (by decide) ⟨by decide, by decide⟩ (Nat.le_of_ble_eq_true rfl) ?_
  rintro r1 h1 ⟨rfl, rfl, h⟩
  refine G_pr rfl fdX11_10 rfl (by decide) (by decide) rfl ?_
  refine G_go 9999 rfl rfl trivial ?_
  refine G_new 8 (Cln_r h hi) rfl rfl (by decide) nkX11_16 (by decide) (by decide) ?_
  refine G_go 9999 rfl rfl trivial ?_
  refine s_init (mt2 := mtX5_init) rfl lkX11_18 caX5_init (i_Pg (Cln_n 8 (Cln_r h hi)) (Nat.lt_succ_self _)) rfl rfl (by decide) ⟨by decide, by decide⟩ (Nat.le_of_ble_eq_true rfl) ?_
  rintro r1 h1 ⟨rfl, rfl, h⟩
  refine G_pr rfl fdX11_19 rfl (by decide) (by decide) rfl ?_
  refine G_go 9999 rfl rfl trivial ?_
  refine G_new 4 (Cln_r h hi) rfl rfl (by decide) nkX11_23 (by decide) (by decide) ?_
  refine G_go 9999 rfl rfl trivial ?_
  refine s_init (mt2 := mtX7_init) rfl lkX11_25 caX7_init (i_S (Cln_n 4 (Cln_r h hi)) (Nat.lt_succ_self _)) rfl rfl (by decide) ⟨by decide, by decide⟩ (Nat.le_of_ble_eq_true rfl) ?_
  rintro r1 h1 ⟨rfl, rfl, h⟩
  refine G_pr rfl fdX11_26 rfl (by decide) (by decide) rfl ?_
  refine G_go 9999 rfl rfl trivial ?_
  refine G_new 10 (Cln_r h hi) rfl rfl (by decide) nkX11_30 (by decide) (by decide) ?_
  refine G_go 9999 rfl rfl trivial ?_
  refine s_init (mt2 := mtX10_init) rfl lkX11_32 caX10_init (i_W (Cln_n 10 (Cln_r h hi)) (Nat.lt_succ_self _)) rfl rfl (by decide) ⟨by decide, by decide⟩ (Nat.le_of_ble_eq_true rfl) ?_
  rintro r1 h1 ⟨rfl, rfl, h⟩
  refine G_pr rfl fdX11_33 rfl (by decide) (by decide) rfl ?_
  refine G_go 9999 rfl rfl trivial ?_
  refine G_new 12 (Cln_r h hi) rfl rfl (by decide) nkX11_37 (by decide) (by decide) ?_
  refine G_go 9999 rfl rfl trivial ?_
  refine s_init (mt2 := mtX9_init) rfl lkX11_39 caX9_init (i_Sp (Cln_n 12 (Cln_r h hi)) (Nat.lt_succ_self _)) rfl rfl (by decide) ⟨by decide, by decide⟩ (Nat.le_of_ble_eq_true rfl) ?_
  rintro r1 h1 ⟨rfl, rfl, h⟩
  refine G_pr rfl fdX11_40 rfl (by decide) (by decide) rfl ?_
  refine G_go 9999 rfl rfl trivial ?_
  refine G_new 15 (Cln_r h hi) rfl rfl (by decide) nkX11_44 (by decide) (by decide) ?_
  refine G_go 9999 rfl rfl trivial ?_
  refine s_init (mt2 := mtX8_init) rfl lkX11_46 caX8_init (i_Se (Cln_n 15 (Cln_r h hi)) (Nat.lt_succ_self _)) rfl rfl (by decide) ⟨by decide, by decide⟩ (Nat.le_of_ble_eq_true rfl) ?_
  rintro r1 h1 ⟨rfl, rfl, h⟩
  refine G_pr rfl fdX11_47 rfl (by decide) (by decide) rfl ?_
  refine G_go 9999 rfl rfl trivial ?_
  refine G_new 18 (Cln_r h hi) rfl rfl (by decide) nkX11_51 (by decide) (by decide) ?_
  refine G_go 9999 rfl rfl trivial ?_
  refine s_init (mt2 := mtX1_init) rfl lkX11_53 caX1_init (i_Ca (Cln_n 18 (Cln_r h hi)) (Nat.lt_succ_self _)) rfl rfl (by decide) ⟨by decide, by decide⟩ (Nat.le_of_ble_eq_true rfl) ?_
  rintro r1 h1 ⟨rfl, rfl, h⟩
  refine G_pr rfl fdX11_54 rfl (by decide) (by decide) rfl ?_
  refine G_go 9999 rfl rfl trivial ?_
  refine G_new 26 (Cln_r h hi) rfl rfl (by decide) nkX11_58 (by decide) (by decide) ?_
  refine G_go 9999 rfl rfl trivial ?_
  refine s_init (mt2 := mtX4_init) rfl lkX11_60 caX4_init (i_Me (Cln_n 26 (Cln_r h hi)) (Nat.lt_succ_self _)) rfl rfl (by decide) ⟨by decide, by decide⟩ (Nat.le_of_ble_eq_true rfl) ?_
  rintro r1 h1 ⟨rfl, rfl, h⟩
  refine G_pr rfl fdX11_61 rfl (by decide) (by decide) rfl ?_
  refine G_go 9999 rfl rfl trivial ?_
  refine G_new 28 (Cln_r h hi) rfl rfl (by decide) nkX11_65 (by decide) (by decide) ?_
  refine G_go 9999 rfl rfl trivial ?_
  refine s_init (mt2 := mtX2_init) rfl lkX11_67 caX2_init (i_Ch (Cln_n 28 (Cln_r h hi)) (Nat.lt_succ_self _)) rfl rfl (by decide) ⟨by decide, by decide⟩ (Nat.le_of_ble_eq_true rfl) ?_
  rintro r1 h1 ⟨rfl, rfl, h⟩
  refine G_pr rfl fdX11_68 rfl (by decide) (by decide) rfl ?_
  refine G_go 9999 rfl rfl trivial ?_
  refine G_new 29 (Cln_r h hi) rfl rfl (by decide) nkX11_72 (by decide) (by decide) ?_
  refine G_go 9999 rfl rfl trivial ?_
  refine s_init (mt2 := mtX0_init) rfl lkX11_74 caX0_init (i_As (Cln_n 29 (Cln_r h hi)) (Nat.lt_succ_self _)) rfl rfl (by decide) ⟨by decide, by decide⟩ (Nat.le_of_ble_eq_true rfl) ?_
  rintro r1 h1 ⟨rfl, rfl, h⟩
  refine G_pr rfl fdX11_75 rfl (by decide) (by decide) rfl ?_
  refine G_go 9999 rfl rfl trivial ?_
  refine G_new 24 (Cln_r h hi) rfl rfl (by decide) nkX11_79 (by decide) (by decide) ?_
  refine G_go 9999 rfl rfl trivial ?_
  refine s_init (mt2 := mtX6_init) rfl lkX11_81 caX6_init (i_P (Cln_n 24 (Cln_r h hi)) (Nat.lt_succ_self _)) rfl rfl (by decide) ⟨by decide, by decide⟩ (Nat.le_of_ble_eq_true rfl) ?_
  rintro r1 h1 ⟨rfl, rfl, h⟩
  refine G_pr rfl fdX11_82 rfl (by decide) (by decide) rfl ?_
  refine G_go 9999 rfl rfl trivial ?_
  refine G_new 24 (Cln_r h hi) rfl rfl (by decide) nkX11_79 (by decide) (by decide) ?_
  refine G_go 9999 rfl rfl trivial ?_
  refine s_init (mt2 := mtX6_init) rfl lkX11_81 caX6_init (i_P (Cln_n 24 (Cln_r h hi)) (Nat.lt_succ_self _)) rfl rfl (by decide) ⟨by decide, by decide⟩ (Nat.le_of_ble_eq_true rfl) ?_
  rintro r1 h1 ⟨rfl, rfl, h⟩
  refine G_pr rfl fdX11_86 rfl (by decide) (by decide) rfl ?_
  refine G_go 9999 rfl rfl trivial ?_
  refine G_na 30 (Cln_r h hi) rfl rfl (Or.inl ⟨rfl, rfl⟩) acI (by decide) (by decide) (by decide) (by decide) (by decide) ?_
  refine G_pr rfl fdX11_89 rfl (by decide) (by decide) rfl ?_
  exact s_return rfl rfl (by decide) (by decide) ⟨rfl, rfl, (Cln_r (Cln_n 30 (Cln_r h hi)) hi)⟩
-- cells, slots of the class 108 5157 3
