def cZ : Nat → Nat := cI (fun _ => 0) 0
def cE1 : Nat → Nat := ncX11_init cZ
def CE1 : FR := nCX11_init cZ (fun _ _ _ => none) 0
def AE1 : FI := AFm (fun _ _ _ => 0) 0 8
def BE : FJ := up3 (up3 (fun _ _ _ => 0) 15 0 7 (-1)) 15 0 8 (-1)
def cE : Nat → Nat := ncX12_init (cI cE1 31)
def CE : FR := nCX12_init (cI cE1 31) CE1 0
def AE : FI := AMm AE1 0 0 8
/-- the class is made, from an empty heap and its object -/
theorem i_X0 : M 3 108 5157 mtX11_init [.inr (.inr (some (0, 0)))] (cZ, (fun _ _ _ => 0), (fun _ _ _ => 0), (fun _ _ _ => none)) (fun r h' => r = none ∧ h' = (cE1, AE1, BE, CE1) ∧ Cln cE1 AE1 BE CE1) := i_X (c := cZ) (i := 0) (fun _ _ _ _ => ⟨rfl, rfl, rfl⟩) (by decide)
/-- the reference is made, behind the class and its own object -/
theorem i_M0 (h : Cln cE1 AE1 BE CE1) : M 1 33 5867 mtX12_init [.inr (.inr (some (31, 0)))] (cI cE1 31, AE1, BE, CE1) (fun r h' => r = none ∧ h' = (cE, AE, BE, CE) ∧ Cln cE AE BE CE) := i_Mo (c := cI cE1 31) (i := 0) (Cln_n 31 h) (by decide)

def Z65 (c : Nat → Nat) : Prop := ∀ g, 65 ≤ g → c g = 0
theorem Z65_I {c : Nat → Nat} {k : Nat} (hk : k < 65) (h : Z65 c) : Z65 (cI c k) := fun g hg => by
  rw [cI_n (show g ≠ k by omega)]
  exact h g hg
theorem Z65_C {c : Nat → Nat} {k : Nat} (h : Z65 c) : Z65 (cCm c k) := fun g hg => by
  unfold cCm
  rw [if_neg (by omega), if_neg (by omega)]
  exact h g hg
theorem Z65_F {c : Nat → Nat} {k : Nat} (h : Z65 c) : Z65 (cFm c k) := fun g hg => by
  unfold cFm
  rw [if_neg (by omega), if_neg (by omega), if_neg (by omega), if_neg (by omega)]
  exact h g hg
theorem Z65_E : Z65 cE := by
  unfold cE ncX12_init pcX12_init cE1 ncX11_init cZ
  simp only [ncX6_init, ncX5_init, ncX7_init, ncX10_init, ncX9_init, ncX8_init, ncX4_init, ncX0_init, ncX2_init, ncX1_init, pcX1_init, ncX3_init, pcX3_init]
  repeat' (first | exact (fun _ _ => rfl) | refine Z65_I (by decide) ?_ | refine Z65_C ?_ | refine Z65_F ?_)
theorem cE_65 : ∀ g, g < 65 → cE g = cnt0 g := by decide +kernel
theorem cnt0_65 : Z65 cnt0 := fun g hg => by
  unfold cnt0
  have e : ∀ k, k < 65 → Nat.beq g k = false := fun k hk => by
    cases hb : Nat.beq g k
    · rfl
    · exact absurd (Nat.eq_of_beq_eq_true hb) (by omega)
  rw [e 4 (by decide), e 5 (by decide), e 6 (by decide), e 7 (by decide), e 24 (by decide), e 25 (by decide)]
  have e2 : Nat.ble g 64 = false := by
    cases hb : Nat.ble g 64
    · rfl
    · exact absurd (Nat.le_of_ble_eq_true hb) (by omega)
  rw [e2]
  rfl
theorem cE_eq : cE = cnt0 := by
  funext g
  by_cases h : g < 65
  · exact cE_65 g h
  · rw [Z65_E g (by omega), cnt0_65 g (by omega)]
theorem ag0 : ∀ i, i < 1 → ∀ s, s < 15 → CE 0 i s = C0 0 i s := by decide +kernel
theorem ag1 : ∀ i, i < 1 → ∀ s, s < 3 → CE 1 i s = C0 1 i s := by decide +kernel
theorem ag2 : ∀ i s, CE 2 i s = C0 2 i s := fun _ _ => rfl
theorem ag3 : ∀ i, i < 1 → ∀ s, s < 6 → CE 3 i s = C0 3 i s := by decide +kernel
theorem ag4 : ∀ i, i < 7 → ∀ s, s < 8 → CE 4 i s = C0 4 i s := by decide +kernel
theorem ag5 : ∀ i s, CE 5 i s = C0 5 i s := fun _ _ => rfl
theorem ag6 : ∀ i s, CE 6 i s = C0 6 i s := fun _ _ => rfl
theorem ag7 : ∀ i s, CE 7 i s = C0 7 i s := fun _ _ => rfl
theorem ag8 : ∀ i, i < 1 → ∀ s, s < 9 → CE 8 i s = C0 8 i s := by decide +kernel
theorem ag9 : ∀ i s, CE 9 i s = C0 9 i s := fun _ _ => rfl
theorem ag10 : ∀ i, i < 1 → ∀ s, s < 4 → CE 10 i s = C0 10 i s := by decide +kernel
theorem ag11 : ∀ i s, CE 11 i s = C0 11 i s := fun _ _ => rfl
theorem ag12 : ∀ i, i < 1 → ∀ s, s < 3 → CE 12 i s = C0 12 i s := by decide +kernel
theorem ag13 : ∀ i s, CE 13 i s = C0 13 i s := fun _ _ => rfl
theorem ag14 : ∀ i s, CE 14 i s = C0 14 i s := fun _ _ => rfl
theorem ag15 : ∀ i, i < 1 → ∀ s, s < 9 → CE 15 i s = C0 15 i s := by decide +kernel
theorem ag16 : ∀ i s, CE 16 i s = C0 16 i s := fun _ _ => rfl
theorem ag17 : ∀ i s, CE 17 i s = C0 17 i s := fun _ _ => rfl
theorem ag18 : ∀ i, i < 1 → ∀ s, s < 14 → CE 18 i s = C0 18 i s := by decide +kernel
theorem ag19 : ∀ i, i < 1 → ∀ s, s < 24 → CE 19 i s = C0 19 i s := by decide +kernel
theorem ag20 : ∀ i s, CE 20 i s = C0 20 i s := fun _ _ => rfl
theorem ag21 : ∀ i s, CE 21 i s = C0 21 i s := fun _ _ => rfl
theorem ag22 : ∀ i s, CE 22 i s = C0 22 i s := fun _ _ => rfl
theorem ag23 : ∀ i s, CE 23 i s = C0 23 i s := fun _ _ => rfl
theorem ag24 : ∀ i, i < 28 → ∀ s, s < 1 → CE 24 i s = C0 24 i s := by decide +kernel
theorem ag25 : ∀ i s, CE 25 i s = C0 25 i s := fun _ _ => rfl
theorem ag26 : ∀ i, i < 1 → ∀ s, s < 6 → CE 26 i s = C0 26 i s := by decide +kernel
theorem ag27 : ∀ i s, CE 27 i s = C0 27 i s := fun _ _ => rfl
theorem ag28 : ∀ i, i < 1 → ∀ s, s < 3 → CE 28 i s = C0 28 i s := by decide +kernel
theorem ag29 : ∀ i, i < 1 → ∀ s, s < 6 → CE 29 i s = C0 29 i s := by decide +kernel
theorem ag30 : ∀ i s, CE 30 i s = C0 30 i s := fun _ _ => rfl
theorem ag31 : ∀ i, i < 1 → ∀ s, s < 72 → CE 31 i s = C0 31 i s := by decide +kernel
theorem ag32 : ∀ i s, CE 32 i s = C0 32 i s := fun _ _ => rfl
theorem ag33 : ∀ i s, CE 33 i s = C0 33 i s := fun _ _ => rfl
theorem ag34 : ∀ i s, CE 34 i s = C0 34 i s := fun _ _ => rfl
theorem ag35 : ∀ i s, CE 35 i s = C0 35 i s := fun _ _ => rfl
theorem ag36 : ∀ i s, CE 36 i s = C0 36 i s := fun _ _ => rfl
theorem ag37 : ∀ i s, CE 37 i s = C0 37 i s := fun _ _ => rfl
theorem ag38 : ∀ i s, CE 38 i s = C0 38 i s := fun _ _ => rfl
theorem ag39 : ∀ i s, CE 39 i s = C0 39 i s := fun _ _ => rfl
theorem ag40 : ∀ i s, CE 40 i s = C0 40 i s := fun _ _ => rfl
theorem ag41 : ∀ i s, CE 41 i s = C0 41 i s := fun _ _ => rfl
theorem ag42 : ∀ i s, CE 42 i s = C0 42 i s := fun _ _ => rfl
theorem ag43 : ∀ i s, CE 43 i s = C0 43 i s := fun _ _ => rfl
theorem ag44 : ∀ i s, CE 44 i s = C0 44 i s := fun _ _ => rfl
theorem ag45 : ∀ i s, CE 45 i s = C0 45 i s := fun _ _ => rfl
theorem ag46 : ∀ i s, CE 46 i s = C0 46 i s := fun _ _ => rfl
theorem ag47 : ∀ i s, CE 47 i s = C0 47 i s := fun _ _ => rfl
theorem ag48 : ∀ i s, CE 48 i s = C0 48 i s := fun _ _ => rfl
theorem ag49 : ∀ i s, CE 49 i s = C0 49 i s := fun _ _ => rfl
theorem ag50 : ∀ i s, CE 50 i s = C0 50 i s := fun _ _ => rfl
theorem ag51 : ∀ i s, CE 51 i s = C0 51 i s := fun _ _ => rfl
theorem ag52 : ∀ i s, CE 52 i s = C0 52 i s := fun _ _ => rfl
theorem ag53 : ∀ i s, CE 53 i s = C0 53 i s := fun _ _ => rfl
theorem ag54 : ∀ i s, CE 54 i s = C0 54 i s := fun _ _ => rfl
theorem ag55 : ∀ i s, CE 55 i s = C0 55 i s := fun _ _ => rfl
theorem ag56 : ∀ i s, CE 56 i s = C0 56 i s := fun _ _ => rfl
theorem ag57 : ∀ i s, CE 57 i s = C0 57 i s := fun _ _ => rfl
theorem ag58 : ∀ i s, CE 58 i s = C0 58 i s := fun _ _ => rfl
theorem ag59 : ∀ i s, CE 59 i s = C0 59 i s := fun _ _ => rfl
theorem ag60 : ∀ i s, CE 60 i s = C0 60 i s := fun _ _ => rfl
theorem ag61 : ∀ i s, CE 61 i s = C0 61 i s := fun _ _ => rfl
theorem ag62 : ∀ i s, CE 62 i s = C0 62 i s := fun _ _ => rfl
theorem ag63 : ∀ i s, CE 63 i s = C0 63 i s := fun _ _ => rfl
theorem ag64 : ∀ i s, CE 64 i s = C0 64 i s := fun _ _ => rfl
theorem agE {g i s : Nat} (hi : i < cnt0 g) (hs : s < (kd g).2) : CE g i s = C0 g i s := by
  match g, hi, hs with
  | 0, hi, hs => exact ag0 i hi s hs
  | 1, hi, hs => exact ag1 i hi s hs
  | 2, hi, hs => exact ag2 i s
  | 3, hi, hs => exact ag3 i hi s hs
  | 4, hi, hs => exact ag4 i hi s hs
  | 5, hi, hs => exact ag5 i s
  | 6, hi, hs => exact ag6 i s
  | 7, hi, hs => exact ag7 i s
  | 8, hi, hs => exact ag8 i hi s hs
  | 9, hi, hs => exact ag9 i s
  | 10, hi, hs => exact ag10 i hi s hs
  | 11, hi, hs => exact ag11 i s
  | 12, hi, hs => exact ag12 i hi s hs
  | 13, hi, hs => exact ag13 i s
  | 14, hi, hs => exact ag14 i s
  | 15, hi, hs => exact ag15 i hi s hs
  | 16, hi, hs => exact ag16 i s
  | 17, hi, hs => exact ag17 i s
  | 18, hi, hs => exact ag18 i hi s hs
  | 19, hi, hs => exact ag19 i hi s hs
  | 20, hi, hs => exact ag20 i s
  | 21, hi, hs => exact ag21 i s
  | 22, hi, hs => exact ag22 i s
  | 23, hi, hs => exact ag23 i s
  | 24, hi, hs => exact ag24 i hi s hs
  | 25, hi, hs => exact ag25 i s
  | 26, hi, hs => exact ag26 i hi s hs
  | 27, hi, hs => exact ag27 i s
  | 28, hi, hs => exact ag28 i hi s hs
  | 29, hi, hs => exact ag29 i hi s hs
  | 30, hi, hs => exact ag30 i s
  | 31, hi, hs => exact ag31 i hi s hs
  | 32, hi, hs => exact ag32 i s
  | 33, hi, hs => exact ag33 i s
  | 34, hi, hs => exact ag34 i s
  | 35, hi, hs => exact ag35 i s
  | 36, hi, hs => exact ag36 i s
  | 37, hi, hs => exact ag37 i s
  | 38, hi, hs => exact ag38 i s
  | 39, hi, hs => exact ag39 i s
  | 40, hi, hs => exact ag40 i s
  | 41, hi, hs => exact ag41 i s
  | 42, hi, hs => exact ag42 i s
  | 43, hi, hs => exact ag43 i s
  | 44, hi, hs => exact ag44 i s
  | 45, hi, hs => exact ag45 i s
  | 46, hi, hs => exact ag46 i s
  | 47, hi, hs => exact ag47 i s
  | 48, hi, hs => exact ag48 i s
  | 49, hi, hs => exact ag49 i s
  | 50, hi, hs => exact ag50 i s
  | 51, hi, hs => exact ag51 i s
  | 52, hi, hs => exact ag52 i s
  | 53, hi, hs => exact ag53 i s
  | 54, hi, hs => exact ag54 i s
  | 55, hi, hs => exact ag55 i s
  | 56, hi, hs => exact ag56 i s
  | 57, hi, hs => exact ag57 i s
  | 58, hi, hs => exact ag58 i s
  | 59, hi, hs => exact ag59 i s
  | 60, hi, hs => exact ag60 i s
  | 61, hi, hs => exact ag61 i s
  | 62, hi, hs => exact ag62 i s
  | 63, hi, hs => exact ag63 i s
  | 64, hi, hs => exact ag64 i s
  | g + 65, hi, _ => exact absurd hi (by rw [cnt0_65 (g + 65) (by omega)]; omega)
