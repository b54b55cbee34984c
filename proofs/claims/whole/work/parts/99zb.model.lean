def pcX12_init (c : Nat → Nat) : Nat → Nat := (cI (cI (cI (cI (cI (cI (cI (cI (cI (cI (cI (cI (cI (cI (cI (cI (cI (cI (cI (cI (cI (cI (cI (cI (cI (cI (cI (cI (cI (cI (cI (cI (cI c 32) 33) 34) 35) 36) 37) 38) 39) 40) 41) 42) 43) 44) 45) 46) 47) 48) 49) 50) 51) 52) 53) 54) 55) 56) 57) 58) 59) 60) 61) 62) 63) 64)
def pCX12_init (c : Nat → Nat) (C : FR) (i : Nat) : FR := (up3 (up3 (up3 (up3 (up3 (up3 (up3 (up3 (up3 (up3 (up3 (up3 (up3 (up3 (up3 (up3 (up3 (up3 (up3 (up3 (up3 (up3 (up3 (up3 (up3 (up3 (up3 (up3 (up3 (up3 (up3 (up3 (up3 C 31 i 0 (some (32, (c 32)))) 31 i 1 (some (33, (c 33)))) 31 i 2 (some (34, (c 34)))) 31 i 3 (some (35, (c 35)))) 31 i 4 (some (36, (c 36)))) 31 i 13 (some (37, (c 37)))) 31 i 14 (some (38, (c 38)))) 31 i 16 (some (39, (c 39)))) 31 i 17 (some (40, (c 40)))) 31 i 19 (some (41, (c 41)))) 31 i 22 (some (42, (c 42)))) 31 i 23 (some (43, (c 43)))) 31 i 25 (some (44, (c 44)))) 31 i 26 (some (45, (c 45)))) 31 i 29 (some (46, (c 46)))) 31 i 30 (some (47, (c 47)))) 31 i 31 (some (48, (c 48)))) 31 i 32 (some (49, (c 49)))) 31 i 33 (some (50, (c 50)))) 31 i 34 (some (51, (c 51)))) 31 i 35 (some (52, (c 52)))) 31 i 37 (some (53, (c 53)))) 31 i 38 (some (54, (c 54)))) 31 i 39 (some (55, (c 55)))) 31 i 40 (some (56, (c 56)))) 31 i 42 (some (57, (c 57)))) 31 i 43 (some (58, (c 58)))) 31 i 44 (some (59, (c 59)))) 31 i 53 (some (60, (c 60)))) 31 i 54 (some (61, (c 61)))) 31 i 55 (some (62, (c 62)))) 31 i 69 (some (63, (c 63)))) 31 i 70 (some (64, (c 64))))
def ncX12_init (c : Nat → Nat) : Nat → Nat := (pcX12_init c)
def nCX12_init (c : Nat → Nat) (C : FR) (i : Nat) : FR := (pCX12_init c C i)
theorem i_Mo {c : Nat → Nat} {A : FI} {B : FJ} {C : FR} {i : Nat} (h : Cln c A B C) (hi : i < c 31) : M 1 33 5867 mtX12_init [.inr (.inr (some (31, i)))] (c, A, B, C) (fun r h' => r = none ∧ h' = (ncX12_init c, (AMm A (c 34) (c 35) 8), B, nCX12_init c C i) ∧ Cln (ncX12_init c) (AMm A (c 34) (c 35) 8) B (nCX12_init c C i)) := by
  have hf : Cln (pcX12_init c) A B (pCX12_init c C i) := (Cln_r (Cln_n 64 (Cln_r (Cln_n 63 (Cln_r (Cln_n 62 (Cln_r (Cln_n 61 (Cln_r (Cln_n 60 (Cln_r (Cln_n 59 (Cln_r (Cln_n 58 (Cln_r (Cln_n 57 (Cln_r (Cln_n 56 (Cln_r (Cln_n 55 (Cln_r (Cln_n 54 (Cln_r (Cln_n 53 (Cln_r (Cln_n 52 (Cln_r (Cln_n 51 (Cln_r (Cln_n 50 (Cln_r (Cln_n 49 (Cln_r (Cln_n 48 (Cln_r (Cln_n 47 (Cln_r (Cln_n 46 (Cln_r (Cln_n 45 (Cln_r (Cln_n 44 (Cln_r (Cln_n 43 (Cln_r (Cln_n 42 (Cln_r (Cln_n 41 (Cln_r (Cln_n 40 (Cln_r (Cln_n 39 (Cln_r (Cln_n 38 (Cln_r (Cln_n 37 (Cln_r (Cln_n 36 (Cln_r (Cln_n 35 (Cln_r (Cln_n 34 (Cln_r (Cln_n 33 (Cln_r (Cln_n 32 h) hi)) hi)) hi)) hi)) hi)) hi)) hi)) hi)) hi)) hi)) hi)) hi)) hi)) hi)) hi)) hi)) hi)) hi)) hi)) hi)) hi)) hi)) hi)) hi)) hi)) hi)) hi)) hi)) hi)) hi)) hi)) hi)) hi)
  refine MI_of caX12_init (L := [some (.inr (.inr (some (31, i)))), none]) rfl rfl ?_
  refine G_go 9999 rfl rfl trivial ?_
  refine s_objInit rfl oiX12 qw_oi qw_oc (by decide) (Nat.zero_le _) ?_
  refine G_go 9999 rfl rfl trivial ?_
  refine G_na 32 h rfl rfl (Or.inl ⟨rfl, rfl⟩) acI (by decide) (by decide) (by decide) (by decide) (by decide) ?_
  refine G_pr rfl fdX12_7 rfl (by decide) (by decide) rfl ?_
  refine G_go 9999 rfl rfl trivial ?_
  refine G_na 33 (Cln_r (Cln_n 32 h) hi) rfl rfl (Or.inl ⟨rfl, rfl⟩) acI (by decide) (by decide) (by decide) (by decide) (by decide) ?_
  refine G_pr rfl fdX12_13 rfl (by decide) (by decide) rfl ?_
  refine G_go 9999 rfl rfl trivial ?_
  refine G_na 34 (Cln_r (Cln_n 33 (Cln_r (Cln_n 32 h) hi)) hi) rfl rfl (Or.inl ⟨rfl, rfl⟩) acI (by decide) (by decide) (by decide) (by decide) (by decide) ?_
  refine G_pr rfl fdX12_16 rfl (by decide) (by decide) rfl ?_
  refine G_go 9999 rfl rfl trivial ?_
  refine G_na 35 (Cln_r (Cln_n 34 (Cln_r (Cln_n 33 (Cln_r (Cln_n 32 h) hi)) hi)) hi) rfl rfl (Or.inl ⟨rfl, rfl⟩) acI (by decide) (by decide) (by decide) (by decide) (by decide) ?_
  refine G_pr rfl fdX12_19 rfl (by decide) (by decide) rfl ?_
  refine G_go 9999 rfl rfl trivial ?_
  refine G_na 36 (Cln_r (Cln_n 35 (Cln_r (Cln_n 34 (Cln_r (Cln_n 33 (Cln_r (Cln_n 32 h) hi)) hi)) hi)) hi) rfl rfl (Or.inl ⟨rfl, rfl⟩) acI (by decide) (by decide) (by decide) (by decide) (by decide) ?_
  refine G_pr rfl fdX12_22 rfl (by decide) (by decide) rfl ?_
  refine G_go 9999 rfl rfl trivial ?_
  refine G_na 37 (Cln_r (Cln_n 36 (Cln_r (Cln_n 35 (Cln_r (Cln_n 34 (Cln_r (Cln_n 33 (Cln_r (Cln_n 32 h) hi)) hi)) hi)) hi)) hi) rfl rfl (Or.inl ⟨rfl, rfl⟩) acI (by decide) (by decide) (by decide) (by decide) (by decide) ?_
  refine G_pr rfl fdX12_25 rfl (by decide) (by decide) rfl ?_
  refine G_go 9999 rfl rfl trivial ?_
  refine G_na 38 (Cln_r (Cln_n 37 (Cln_r (Cln_n 36 (Cln_r (Cln_n 35 (Cln_r (Cln_n 34 (Cln_r (Cln_n 33 (Cln_r (Cln_n 32 h) hi)) hi)) hi)) hi)) hi)) hi) rfl rfl (Or.inl ⟨rfl, rfl⟩) acI (by decide) (by decide) (by decide) (by decide) (by decide) ?_
  refine G_pr rfl fdX12_28 rfl (by decide) (by decide) rfl ?_
  refine G_go 9999 rfl rfl trivial ?_
  refine G_na 39 (Cln_r (Cln_n 38 (Cln_r (Cln_n 37 (Cln_r (Cln_n 36 (Cln_r (Cln_n 35 (Cln_r (Cln_n 34 (Cln_r (Cln_n 33 (Cln_r (Cln_n 32 h) hi)) hi)) hi)) hi)) hi)) hi)) hi) rfl rfl (Or.inl ⟨rfl, rfl⟩) acI (by decide) (by decide) (by decide) (by decide) (by decide) ?_
  refine G_pr rfl fdX12_31 rfl (by decide) (by decide) rfl ?_
  refine G_go 9999 rfl rfl trivial ?_
  refine G_na 40 (Cln_r (Cln_n 39 (Cln_r (Cln_n 38 (Cln_r (Cln_n 37 (Cln_r (Cln_n 36 (Cln_r (Cln_n 35 (Cln_r (Cln_n 34 (Cln_r (Cln_n 33 (Cln_r (Cln_n 32 h) hi)) hi)) hi)) hi)) hi)) hi)) hi)) hi) rfl rfl (Or.inl ⟨rfl, rfl⟩) acI (by decide) (by decide) (by decide) (by decide) (by decide) ?_
  refine G_pr rfl fdX12_34 rfl (by decide) (by decide) rfl ?_
  refine G_go 9999 rfl rfl trivial ?_
  refine G_na 41 (Cln_r (Cln_n 40 (Cln_r (Cln_n 39 (Cln_r (Cln_n 38 (Cln_r (Cln_n 37 (Cln_r (Cln_n 36 (Cln_r (Cln_n 35 (Cln_r (Cln_n 34 (Cln_r (Cln_n 33 (Cln_r (Cln_n 32 h) hi)) hi)) hi)) hi)) hi)) hi)) hi)) hi)) hi) rfl rfl (Or.inl ⟨rfl, rfl⟩) acI (by decide) (by decide) (by decide) (by decide) (by decide) ?_
  refine G_pr rfl fdX12_37 rfl (by decide) (by decide) rfl ?_
  refine G_go 9999 rfl rfl trivial ?_
  refine G_na 42 (Cln_r (Cln_n 41 (Cln_r (Cln_n 40 (Cln_r (Cln_n 39 (Cln_r (Cln_n 38 (Cln_r (Cln_n 37 (Cln_r (Cln_n 36 (Cln_r (Cln_n 35 (Cln_r (Cln_n 34 (Cln_r (Cln_n 33 (Cln_r (Cln_n 32 h) hi)) hi)) hi)) hi)) hi)) hi)) hi)) hi)) hi)) hi) rfl rfl (Or.inl ⟨rfl, rfl⟩) acI (by decide) (by decide) (by decide) (by decide) (by decide) ?_
  refine G_pr rfl fdX12_40 rfl (by decide) (by decide) rfl ?_
  refine G_go 9999 rfl rfl trivial ?_
  refine G_na 43 (Cln_r (Cln_n 42 (Cln_r (Cln_n 41 (Cln_r (Cln_n 40 (Cln_r (Cln_n 39 (Cln_r (Cln_n 38 (Cln_r (Cln_n 37 (Cln_r (Cln_n 36 (Cln_r (Cln_n 35 (Cln_r (Cln_n 34 (Cln_r (Cln_n 33 (Cln_r (Cln_n 32 h) hi)) hi)) hi)) hi)) hi)) hi)) hi)) hi)) hi)) hi)) hi) rfl rfl (Or.inl ⟨rfl, rfl⟩) acI (by decide) (by decide) (by decide) (by decide) (by decide) ?_
  refine G_pr rfl fdX12_43 rfl (by decide) (by decide) rfl ?_
  refine G_go 9999 rfl rfl trivial ?_
  refine G_na 44 (Cln_r (Cln_n 43 (Cln_r (Cln_n 42 (Cln_r (Cln_n 41 (Cln_r (Cln_n 40 (Cln_r (Cln_n 39 (Cln_r (Cln_n 38 (Cln_r (Cln_n 37 (Cln_r (Cln_n 36 (Cln_r (Cln_n 35 (Cln_r (Cln_n 34 (Cln_r (Cln_n 33 (Cln_r (Cln_n 32 h) hi)) hi)) hi)) hi)) hi)) hi)) hi)) hi)) hi)) hi)) hi)) hi) rfl rfl (Or.inl ⟨rfl, rfl⟩) acI (by decide) (by decide) (by decide) (by decide) (by decide) ?_
  refine G_pr rfl fdX12_46 rfl (by decide) (by decide) rfl ?_
  refine G_go 9999 rfl rfl trivial ?_
  refine G_na 45 (Cln_r (Cln_n 44 (Cln_r (Cln_n 43 (Cln_r (Cln_n 42 (Cln_r (Cln_n 41 (Cln_r (Cln_n 40 (Cln_r (Cln_n 39 (Cln_r (Cln_n 38 (Cln_r (Cln_n 37 (Cln_r (Cln_n 36 (Cln_r (Cln_n 35 (Cln_r (Cln_n 34 (Cln_r (Cln_n 33 (Cln_r (Cln_n 32 h) hi)) hi)) hi)) hi)) hi)) hi)) hi)) hi)) hi)) hi)) hi)) hi)) hi) rfl rfl (Or.inl ⟨rfl, rfl⟩) acI (by decide) (by decide) (by decide) (by decide) (by decide) ?_
  refine G_pr rfl fdX12_49 rfl (by decide) (by decide) rfl ?_
  refine G_go 9999 rfl rfl trivial ?_
  refine G_na 46 (Cln_r (Cln_n 45 (Cln_r (Cln_n 44 (Cln_r (Cln_n 43 (Cln_r (Cln_n 42 (Cln_r (Cln_n 41 (Cln_r (Cln_n 40 (Cln_r (Cln_n 39 (Cln_r (Cln_n 38 (Cln_r (Cln_n 37 (Cln_r (Cln_n 36 (Cln_r (Cln_n 35 (Cln_r (Cln_n 34 (Cln_r (Cln_n 33 (Cln_r (Cln_n 32 h) hi)) hi)) hi)) hi)) hi)) hi)) hi)) hi)) hi)) hi)) hi)) hi)) hi)) hi) rfl rfl (Or.inl ⟨rfl, rfl⟩) acI (by decide) (by decide) (by decide) (by decide) (by decide) ?_
  refine G_pr rfl fdX12_52 rfl (by decide) (by decide) rfl ?_
  refine G_go 9999 rfl rfl trivial ?_
  refine G_na 47 (Cln_r (Cln_n 46 (Cln_r (Cln_n 45 (Cln_r (Cln_n 44 (Cln_r (Cln_n 43 (Cln_r (Cln_n 42 (Cln_r (Cln_n 41 (Cln_r (Cln_n 40 (Cln_r (Cln_n 39 (Cln_r (Cln_n 38 (Cln_r (Cln_n 37 (Cln_r (Cln_n 36 (Cln_r (Cln_n 35 (Cln_r (Cln_n 34 (Cln_r (Cln_n 33 (Cln_r (Cln_n 32 h) hi)) hi)) hi)) hi)) hi)) hi)) hi)) hi)) hi)) hi)) hi)) hi)) hi)) hi)) hi) rfl rfl (Or.inl ⟨rfl, rfl⟩) acI (by decide) (by decide) (by decide) (by decide) (by decide) ?_
  refine G_pr rfl fdX12_55 rfl (by decide) (by decide) rfl ?_
  refine G_go 9999 rfl rfl trivial ?_
  refine G_na 48 (Cln_r (Cln_n 47 (Cln_r (Cln_n 46 (Cln_r (Cln_n 45 (Cln_r (Cln_n 44 (Cln_r (Cln_n 43 (Cln_r (Cln_n 42 (Cln_r (Cln_n 41 (Cln_r (Cln_n 40 (Cln_r (Cln_n 39 (Cln_r (Cln_n 38 (Cln_r (Cln_n 37 (Cln_r (Cln_n 36 (Cln_r (Cln_n 35 (Cln_r (Cln_n 34 (Cln_r (Cln_n 33 (Cln_r (Cln_n 32 h) hi)) hi)) hi)) hi)) hi)) hi)) hi)) hi)) hi)) hi)) hi)) hi)) hi)) hi)) hi)) hi) rfl rfl (Or.inl ⟨rfl, rfl⟩) acI (by decide) (by decide) (by decide) (by decide) (by decide) ?_
  refine G_pr rfl fdX12_58 rfl (by decide) (by decide) rfl ?_
  refine G_go 9999 rfl rfl trivial ?_
  refine G_na 49 (Cln_r (Cln_n 48 (Cln_r (Cln_n 47 (Cln_r (Cln_n 46 (Cln_r (Cln_n 45 (Cln_r (Cln_n 44 (Cln_r (Cln_n 43 (Cln_r (Cln_n 42 (Cln_r (Cln_n 41 (Cln_r (Cln_n 40 (Cln_r (Cln_n 39 (Cln_r (Cln_n 38 (Cln_r (Cln_n 37 (Cln_r (Cln_n 36 (Cln_r (Cln_n 35 (Cln_r (Cln_n 34 (Cln_r (Cln_n 33 (Cln_r (Cln_n 32 h) hi)) hi)) hi)) hi)) hi)) hi)) hi)) hi)) hi)) hi)) hi)) hi)) hi)) hi)) hi)) hi)) hi) rfl rfl (Or.inr (Or.inl ⟨rfl, rfl⟩)) acJ (by decide) (by decide) (by decide) (by decide) (by decide) ?_
  refine G_pr rfl fdX12_61 rfl (by decide) (by decide) rfl ?_
  refine G_go 9999 rfl rfl trivial ?_
  refine G_na 50 (Cln_r (Cln_n 49 (Cln_r (Cln_n 48 (Cln_r (Cln_n 47 (Cln_r (Cln_n 46 (Cln_r (Cln_n 45 (Cln_r (Cln_n 44 (Cln_r (Cln_n 43 (Cln_r (Cln_n 42 (Cln_r (Cln_n 41 (Cln_r (Cln_n 40 (Cln_r (Cln_n 39 (Cln_r (Cln_n 38 (Cln_r (Cln_n 37 (Cln_r (Cln_n 36 (Cln_r (Cln_n 35 (Cln_r (Cln_n 34 (Cln_r (Cln_n 33 (Cln_r (Cln_n 32 h) hi)) hi)) hi)) hi)) hi)) hi)) hi)) hi)) hi)) hi)) hi)) hi)) hi)) hi)) hi)) hi)) hi)) hi) rfl rfl (Or.inr (Or.inr ⟨rfl, rfl⟩)) acZ (by decide) (by decide) (by decide) (by decide) (by decide) ?_
  refine G_pr rfl fdX12_65 rfl (by decide) (by decide) rfl ?_
  refine G_go 9999 rfl rfl trivial ?_
  refine G_na 51 (Cln_r (Cln_n 50 (Cln_r (Cln_n 49 (Cln_r (Cln_n 48 (Cln_r (Cln_n 47 (Cln_r (Cln_n 46 (Cln_r (Cln_n 45 (Cln_r (Cln_n 44 (Cln_r (Cln_n 43 (Cln_r (Cln_n 42 (Cln_r (Cln_n 41 (Cln_r (Cln_n 40 (Cln_r (Cln_n 39 (Cln_r (Cln_n 38 (Cln_r (Cln_n 37 (Cln_r (Cln_n 36 (Cln_r (Cln_n 35 (Cln_r (Cln_n 34 (Cln_r (Cln_n 33 (Cln_r (Cln_n 32 h) hi)) hi)) hi)) hi)) hi)) hi)) hi)) hi)) hi)) hi)) hi)) hi)) hi)) hi)) hi)) hi)) hi)) hi)) hi) rfl rfl (Or.inl ⟨rfl, rfl⟩) acI (by decide) (by decide) (by decide) (by decide) (by decide) ?_
  refine G_pr rfl fdX12_69 rfl (by decide) (by decide) rfl ?_
  refine G_go 9999 rfl rfl trivial ?_
  refine G_na 52 (Cln_r (Cln_n 51 (Cln_r (Cln_n 50 (Cln_r (Cln_n 49 (Cln_r (Cln_n 48 (Cln_r (Cln_n 47 (Cln_r (Cln_n 46 (Cln_r (Cln_n 45 (Cln_r (Cln_n 44 (Cln_r (Cln_n 43 (Cln_r (Cln_n 42 (Cln_r (Cln_n 41 (Cln_r (Cln_n 40 (Cln_r (Cln_n 39 (Cln_r (Cln_n 38 (Cln_r (Cln_n 37 (Cln_r (Cln_n 36 (Cln_r (Cln_n 35 (Cln_r (Cln_n 34 (Cln_r (Cln_n 33 (Cln_r (Cln_n 32 h) hi)) hi)) hi)) hi)) hi)) hi)) hi)) hi)) hi)) hi)) hi)) hi)) hi)) hi)) hi)) hi)) hi)) hi)) hi)) hi) rfl rfl (Or.inl ⟨rfl, rfl⟩) acI (by decide) (by decide) (by decide) (by decide) (by decide) ?_
  refine G_pr rfl fdX12_72 rfl (by decide) (by decide) rfl ?_
  refine G_go 9999 rfl rfl trivial ?_
  refine G_na 53 (Cln_r (Cln_n 52 (Cln_r (Cln_n 51 (Cln_r (Cln_n 50 (Cln_r (Cln_n 49 (Cln_r (Cln_n 48 (Cln_r (Cln_n 47 (Cln_r (Cln_n 46 (Cln_r (Cln_n 45 (Cln_r (Cln_n 44 (Cln_r (Cln_n 43 (Cln_r (Cln_n 42 (Cln_r (Cln_n 41 (Cln_r (Cln_n 40 (Cln_r (Cln_n 39 (Cln_r (Cln_n 38 (Cln_r (Cln_n 37 (Cln_r (Cln_n 36 (Cln_r (Cln_n 35 (Cln_r (Cln_n 34 (Cln_r (Cln_n 33 (Cln_r (Cln_n 32 h) hi)) hi)) hi)) hi)) hi)) hi)) hi)) hi)) hi)) hi)) hi)) hi)) hi)) hi)) hi)) hi)) hi)) hi)) hi)) hi)) hi) rfl rfl (Or.inl ⟨rfl, rfl⟩) acI (by decide) (by decide) (by decide) (by decide) (by decide) ?_
  refine G_pr rfl fdX12_75 rfl (by decide) (by decide) rfl ?_
  refine G_go 9999 rfl rfl trivial ?_
  refine G_na 54 (Cln_r (Cln_n 53 (Cln_r (Cln_n 52 (Cln_r (Cln_n 51 (Cln_r (Cln_n 50 (Cln_r (Cln_n 49 (Cln_r (Cln_n 48 (Cln_r (Cln_n 47 (Cln_r (Cln_n 46 (Cln_r (Cln_n 45 (Cln_r (Cln_n 44 (Cln_r (Cln_n 43 (Cln_r (Cln_n 42 (Cln_r (Cln_n 41 (Cln_r (Cln_n 40 (Cln_r (Cln_n 39 (Cln_r (Cln_n 38 (Cln_r (Cln_n 37 (Cln_r (Cln_n 36 (Cln_r (Cln_n 35 (Cln_r (Cln_n 34 (Cln_r (Cln_n 33 (Cln_r (Cln_n 32 h) hi)) hi)) hi)) hi)) hi)) hi)) hi)) hi)) hi)) hi)) hi)) hi)) hi)) hi)) hi)) hi)) hi)) hi)) hi)) hi)) hi)) hi) rfl rfl (Or.inl ⟨rfl, rfl⟩) acI (by decide) (by decide) (by decide) (by decide) (by decide) ?_
  refine G_pr rfl fdX12_78 rfl (by decide) (by decide) rfl ?_
  refine G_go 9999 rfl rfl trivial ?_
  refine G_na 55 (Cln_r (Cln_n 54 (Cln_r (Cln_n 53 (Cln_r (Cln_n 52 (Cln_r (Cln_n 51 (Cln_r (Cln_n 50 (Cln_r (Cln_n 49 (Cln_r (Cln_n 48 (Cln_r (Cln_n 47 (Cln_r (Cln_n 46 (Cln_r (Cln_n 45 (Cln_r (Cln_n 44 (Cln_r (Cln_n 43 (Cln_r (Cln_n 42 (Cln_r (Cln_n 41 (Cln_r (Cln_n 40 (Cln_r (Cln_n 39 (Cln_r (Cln_n 38 (Cln_r (Cln_n 37 (Cln_r (Cln_n 36 (Cln_r (Cln_n 35 (Cln_r (Cln_n 34 (Cln_r (Cln_n 33 (Cln_r (Cln_n 32 h) hi)) hi)) hi)) hi)) hi)) hi)) hi)) hi)) hi)) hi)) hi)) hi)) hi)) hi)) hi)) hi)) hi)) hi)) hi)) hi)) hi)) hi)) hi) rfl rfl (Or.inl ⟨rfl, rfl⟩) acI (by decide) (by decide) (by decide) (by decide) (by decide) ?_
  refine G_pr rfl fdX12_81 rfl (by decide) (by decide) rfl ?_
  refine G_go 9999 rfl rfl trivial ?_
  refine G_na 56 (Cln_r (Cln_n 55 (Cln_r (Cln_n 54 (Cln_r (Cln_n 53 (Cln_r (Cln_n 52 (Cln_r (Cln_n 51 (Cln_r (Cln_n 50 (Cln_r (Cln_n 49 (Cln_r (Cln_n 48 (Cln_r (Cln_n 47 (Cln_r (Cln_n 46 (Cln_r (Cln_n 45 (Cln_r (Cln_n 44 (Cln_r (Cln_n 43 (Cln_r (Cln_n 42 (Cln_r (Cln_n 41 (Cln_r (Cln_n 40 (Cln_r (Cln_n 39 (Cln_r (Cln_n 38 (Cln_r (Cln_n 37 (Cln_r (Cln_n 36 (Cln_r (Cln_n 35 (Cln_r (Cln_n 34 (Cln_r (Cln_n 33 (Cln_r (Cln_n 32 h) hi)) hi)) hi)) hi)) hi)) hi)) hi)) hi)) hi)) hi)) hi)) hi)) hi)) hi)) hi)) hi)) hi)) hi)) hi)) hi)) hi)) hi)) hi)) hi) rfl rfl (Or.inl ⟨rfl, rfl⟩) acI (by decide) (by decide) (by decide) (by decide) (by decide) ?_
  refine G_pr rfl fdX12_84 rfl (by decide) (by decide) rfl ?_
  refine G_go 9999 rfl rfl trivial ?_
  refine G_na 57 (Cln_r (Cln_n 56 (Cln_r (Cln_n 55 (Cln_r (Cln_n 54 (Cln_r (Cln_n 53 (Cln_r (Cln_n 52 (Cln_r (Cln_n 51 (Cln_r (Cln_n 50 (Cln_r (Cln_n 49 (Cln_r (Cln_n 48 (Cln_r (Cln_n 47 (Cln_r (Cln_n 46 (Cln_r (Cln_n 45 (Cln_r (Cln_n 44 (Cln_r (Cln_n 43 (Cln_r (Cln_n 42 (Cln_r (Cln_n 41 (Cln_r (Cln_n 40 (Cln_r (Cln_n 39 (Cln_r (Cln_n 38 (Cln_r (Cln_n 37 (Cln_r (Cln_n 36 (Cln_r (Cln_n 35 (Cln_r (Cln_n 34 (Cln_r (Cln_n 33 (Cln_r (Cln_n 32 h) hi)) hi)) hi)) hi)) hi)) hi)) hi)) hi)) hi)) hi)) hi)) hi)) hi)) hi)) hi)) hi)) hi)) hi)) hi)) hi)) hi)) hi)) hi)) hi)) hi) rfl rfl (Or.inr (Or.inr ⟨rfl, rfl⟩)) acZ (by decide) (by decide) (by decide) (by decide) (by decide) ?_
  refine G_pr rfl fdX12_87 rfl (by decide) (by decide) rfl ?_
  refine G_go 9999 rfl rfl trivial ?_
  refine G_na 58 (Cln_r (Cln_n 57 (Cln_r (Cln_n 56 (Cln_r (Cln_n 55 (Cln_r (Cln_n 54 (Cln_r (Cln_n 53 (Cln_r (Cln_n 52 (Cln_r (Cln_n 51 (Cln_r (Cln_n 50 (Cln_r (Cln_n 49 (Cln_r (Cln_n 48 (Cln_r (Cln_n 47 (Cln_r (Cln_n 46 (Cln_r (Cln_n 45 (Cln_r (Cln_n 44 (Cln_r (Cln_n 43 (Cln_r (Cln_n 42 (Cln_r (Cln_n 41 (Cln_r (Cln_n 40 (Cln_r (Cln_n 39 (Cln_r (Cln_n 38 (Cln_r (Cln_n 37 (Cln_r (Cln_n 36 (Cln_r (Cln_n 35 (Cln_r (Cln_n 34 (Cln_r (Cln_n 33 (Cln_r (Cln_n 32 h) hi)) hi)) hi)) hi)) hi)) hi)) hi)) hi)) hi)) hi)) hi)) hi)) hi)) hi)) hi)) hi)) hi)) hi)) hi)) hi)) hi)) hi)) hi)) hi)) hi)) hi) rfl rfl (Or.inr (Or.inl ⟨rfl, rfl⟩)) acJ (by decide) (by decide) (by decide) (by decide) (by decide) ?_
  refine G_pr rfl fdX12_90 rfl (by decide) (by decide) rfl ?_
  refine G_go 9999 rfl rfl trivial ?_
  refine G_na 59 (Cln_r (Cln_n 58 (Cln_r (Cln_n 57 (Cln_r (Cln_n 56 (Cln_r (Cln_n 55 (Cln_r (Cln_n 54 (Cln_r (Cln_n 53 (Cln_r (Cln_n 52 (Cln_r (Cln_n 51 (Cln_r (Cln_n 50 (Cln_r (Cln_n 49 (Cln_r (Cln_n 48 (Cln_r (Cln_n 47 (Cln_r (Cln_n 46 (Cln_r (Cln_n 45 (Cln_r (Cln_n 44 (Cln_r (Cln_n 43 (Cln_r (Cln_n 42 (Cln_r (Cln_n 41 (Cln_r (Cln_n 40 (Cln_r (Cln_n 39 (Cln_r (Cln_n 38 (Cln_r (Cln_n 37 (Cln_r (Cln_n 36 (Cln_r (Cln_n 35 (Cln_r (Cln_n 34 (Cln_r (Cln_n 33 (Cln_r (Cln_n 32 h) hi)) hi)) hi)) hi)) hi)) hi)) hi)) hi)) hi)) hi)) hi)) hi)) hi)) hi)) hi)) hi)) hi)) hi)) hi)) hi)) hi)) hi)) hi)) hi)) hi)) hi)) hi) rfl rfl (Or.inr (Or.inl ⟨rfl, rfl⟩)) acJ (by decide) (by decide) (by decide) (by decide) (by decide) ?_
  refine G_pr rfl fdX12_93 rfl (by decide) (by decide) rfl ?_
  refine G_go 9999 rfl rfl trivial ?_
  refine G_na 60 (Cln_r (Cln_n 59 (Cln_r (Cln_n 58 (Cln_r (Cln_n 57 (Cln_r (Cln_n 56 (Cln_r (Cln_n 55 (Cln_r (Cln_n 54 (Cln_r (Cln_n 53 (Cln_r (Cln_n 52 (Cln_r (Cln_n 51 (Cln_r (Cln_n 50 (Cln_r (Cln_n 49 (Cln_r (Cln_n 48 (Cln_r (Cln_n 47 (Cln_r (Cln_n 46 (Cln_r (Cln_n 45 (Cln_r (Cln_n 44 (Cln_r (Cln_n 43 (Cln_r (Cln_n 42 (Cln_r (Cln_n 41 (Cln_r (Cln_n 40 (Cln_r (Cln_n 39 (Cln_r (Cln_n 38 (Cln_r (Cln_n 37 (Cln_r (Cln_n 36 (Cln_r (Cln_n 35 (Cln_r (Cln_n 34 (Cln_r (Cln_n 33 (Cln_r (Cln_n 32 h) hi)) hi)) hi)) hi)) hi)) hi)) hi)) hi)) hi)) hi)) hi)) hi)) hi)) hi)) hi)) hi)) hi)) hi)) hi)) hi)) hi)) hi)) hi)) hi)) hi)) hi)) hi)) hi) rfl rfl (Or.inl ⟨rfl, rfl⟩) acI (by decide) (by decide) (by decide) (by decide) (by decide) ?_
  refine G_pr rfl fdX12_96 rfl (by decide) (by decide) rfl ?_
  refine G_go 9999 rfl rfl trivial ?_
  refine G_na 61 (Cln_r (Cln_n 60 (Cln_r (Cln_n 59 (Cln_r (Cln_n 58 (Cln_r (Cln_n 57 (Cln_r (Cln_n 56 (Cln_r (Cln_n 55 (Cln_r (Cln_n 54 (Cln_r (Cln_n 53 (Cln_r (Cln_n 52 (Cln_r (Cln_n 51 (Cln_r (Cln_n 50 (Cln_r (Cln_n 49 (Cln_r (Cln_n 48 (Cln_r (Cln_n 47 (Cln_r (Cln_n 46 (Cln_r (Cln_n 45 (Cln_r (Cln_n 44 (Cln_r (Cln_n 43 (Cln_r (Cln_n 42 (Cln_r (Cln_n 41 (Cln_r (Cln_n 40 (Cln_r (Cln_n 39 (Cln_r (Cln_n 38 (Cln_r (Cln_n 37 (Cln_r (Cln_n 36 (Cln_r (Cln_n 35 (Cln_r (Cln_n 34 (Cln_r (Cln_n 33 (Cln_r (Cln_n 32 h) hi)) hi)) hi)) hi)) hi)) hi)) hi)) hi)) hi)) hi)) hi)) hi)) hi)) hi)) hi)) hi)) hi)) hi)) hi)) hi)) hi)) hi)) hi)) hi)) hi)) hi)) hi)) hi)) hi) rfl rfl (Or.inl ⟨rfl, rfl⟩) acI (by decide) (by decide) (by decide) (by decide) (by decide) ?_
  refine G_pr rfl fdX12_99 rfl (by decide) (by decide) rfl ?_
  refine G_go 9999 rfl rfl trivial ?_
  refine G_na 62 (Cln_r (Cln_n 61 (Cln_r (Cln_n 60 (Cln_r (Cln_n 59 (Cln_r (Cln_n 58 (Cln_r (Cln_n 57 (Cln_r (Cln_n 56 (Cln_r (Cln_n 55 (Cln_r (Cln_n 54 (Cln_r (Cln_n 53 (Cln_r (Cln_n 52 (Cln_r (Cln_n 51 (Cln_r (Cln_n 50 (Cln_r (Cln_n 49 (Cln_r (Cln_n 48 (Cln_r (Cln_n 47 (Cln_r (Cln_n 46 (Cln_r (Cln_n 45 (Cln_r (Cln_n 44 (Cln_r (Cln_n 43 (Cln_r (Cln_n 42 (Cln_r (Cln_n 41 (Cln_r (Cln_n 40 (Cln_r (Cln_n 39 (Cln_r (Cln_n 38 (Cln_r (Cln_n 37 (Cln_r (Cln_n 36 (Cln_r (Cln_n 35 (Cln_r (Cln_n 34 (Cln_r (Cln_n 33 (Cln_r (Cln_n 32 h) hi)) hi)) hi)) hi)) hi)) hi)) hi)) hi)) hi)) hi)) hi)) hi)) hi)) hi)) hi)) hi)) hi)) hi)) hi)) hi)) hi)) hi)) hi)) hi)) hi)) hi)) hi)) hi)) hi)) hi) rfl rfl (Or.inl ⟨rfl, rfl⟩) acI (by decide) (by decide) (by decide) (by decide) (by decide) ?_
  refine G_pr rfl fdX12_102 rfl (by decide) (by decide) rfl ?_
  refine G_go 9999 rfl rfl trivial ?_
  refine G_na 63 (Cln_r (Cln_n 62 (Cln_r (Cln_n 61 (Cln_r (Cln_n 60 (Cln_r (Cln_n 59 (Cln_r (Cln_n 58 (Cln_r (Cln_n 57 (Cln_r (Cln_n 56 (Cln_r (Cln_n 55 (Cln_r (Cln_n 54 (Cln_r (Cln_n 53 (Cln_r (Cln_n 52 (Cln_r (Cln_n 51 (Cln_r (Cln_n 50 (Cln_r (Cln_n 49 (Cln_r (Cln_n 48 (Cln_r (Cln_n 47 (Cln_r (Cln_n 46 (Cln_r (Cln_n 45 (Cln_r (Cln_n 44 (Cln_r (Cln_n 43 (Cln_r (Cln_n 42 (Cln_r (Cln_n 41 (Cln_r (Cln_n 40 (Cln_r (Cln_n 39 (Cln_r (Cln_n 38 (Cln_r (Cln_n 37 (Cln_r (Cln_n 36 (Cln_r (Cln_n 35 (Cln_r (Cln_n 34 (Cln_r (Cln_n 33 (Cln_r (Cln_n 32 h) hi)) hi)) hi)) hi)) hi)) hi)) hi)) hi)) hi)) hi)) hi)) hi)) hi)) hi)) hi)) hi)) hi)) hi)) hi)) hi)) hi)) hi)) hi)) hi)) hi)) hi)) hi)) hi)) hi)) hi)) hi) rfl rfl (Or.inl ⟨rfl, rfl⟩) acI (by decide) (by decide) (by decide) (by decide) (by decide) ?_
  refine G_pr rfl fdX12_105 rfl (by decide) (by decide) rfl ?_
  refine G_go 9999 rfl rfl trivial ?_
  refine G_na 64 (Cln_r (Cln_n 63 (Cln_r (Cln_n 62 (Cln_r (Cln_n 61 (Cln_r (Cln_n 60 (Cln_r (Cln_n 59 (Cln_r (Cln_n 58 (Cln_r (Cln_n 57 (Cln_r (Cln_n 56 (Cln_r (Cln_n 55 (Cln_r (Cln_n 54 (Cln_r (Cln_n 53 (Cln_r (Cln_n 52 (Cln_r (Cln_n 51 (Cln_r (Cln_n 50 (Cln_r (Cln_n 49 (Cln_r (Cln_n 48 (Cln_r (Cln_n 47 (Cln_r (Cln_n 46 (Cln_r (Cln_n 45 (Cln_r (Cln_n 44 (Cln_r (Cln_n 43 (Cln_r (Cln_n 42 (Cln_r (Cln_n 41 (Cln_r (Cln_n 40 (Cln_r (Cln_n 39 (Cln_r (Cln_n 38 (Cln_r (Cln_n 37 (Cln_r (Cln_n 36 (Cln_r (Cln_n 35 (Cln_r (Cln_n 34 (Cln_r (Cln_n 33 (Cln_r (Cln_n 32 h) hi)) hi)) hi)) hi)) hi)) hi)) hi)) hi)) hi)) hi)) hi)) hi)) hi)) hi)) hi)) hi)) hi)) hi)) hi)) hi)) hi)) hi)) hi)) hi)) hi)) hi)) hi)) hi)) hi)) hi)) hi)) hi) rfl rfl (Or.inl ⟨rfl, rfl⟩) acI (by decide) (by decide) (by decide) (by decide) (by decide) ?_
  refine G_pr rfl fdX12_108 rfl (by decide) (by decide) rfl ?_
  refine G_go 274 rfl rfl trivial ?_
  have hR0 : pCX12_init c C i 31 i 2 = some (34, c 34) := by simp [pCX12_init, up3]
  have hR1 : pCX12_init c C i 31 i 3 = some (35, c 35) := by simp [pCX12_init, up3]
  exact l_model (C := pCX12_init c C i) (c := pcX12_init c) (A := A) hR0 hR1 (Nat.lt_succ_self (c 34)) (Nat.lt_succ_self (c 35)) 8 0 rfl hf (by decide) (by decide)
-- cells, slots of the reference 33 5867
