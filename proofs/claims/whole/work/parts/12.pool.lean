def lkf {α : Type} (i : Nat) : List (Nat × α) → Option α
  | [] => none
  | (j, a) :: t => bif Nat.beq j i then some a else lkf i t
theorem lkf_mem {α : Type} {i : Nat} {a : α} : ∀ {l : List (Nat × α)}, lkf i l = some a → (i, a) ∈ l := by
  intro l
  induction l with
  | nil => intro h; cases h
  | cons e t ih =>
    obtain ⟨j, b⟩ := e
    intro h
    unfold lkf at h
    cases hb : Nat.beq j i with
    | true =>
      rw [hb] at h
      have hj := Nat.eq_of_beq_eq_true hb
      have : b = a := by simpa using h
      rw [hj, this]
      exact List.mem_cons_self
    | false =>
      rw [hb] at h
      exact List.mem_cons_of_mem _ (ih h)
def entF0 : List (Nat × Nat × Nat) := [(9, 0, 0), (15, 1, 0), (18, 2, 0), (21, 3, 0), (24, 4, 0), (27, 5, 0)]
theorem fdX0_9 : FOK 0 9 0 0 := ⟨TX0, 6, rfl, by decide, inX0, (wt2 51 (by decide +kernel) (by decide +kernel)), rfl, rfl, tyX0_ok, nmX0, fun _ => rfl, fun h => absurd h (by decide), fun h => absurd h (by decide), fun _ => rfl, fun h => absurd h (by decide), fun h => absurd h (by decide)⟩
theorem fdX0_15 : FOK 0 15 1 0 := ⟨TX0, 6, rfl, by decide, inX0, (wt2 52 (by decide +kernel) (by decide +kernel)), rfl, rfl, tyX0_ok, nmX0, fun _ => rfl, fun h => absurd h (by decide), fun h => absurd h (by decide), fun _ => rfl, fun h => absurd h (by decide), fun h => absurd h (by decide)⟩
theorem fdX0_18 : FOK 0 18 2 0 := ⟨TX0, 6, rfl, by decide, inX0, (wt2 53 (by decide +kernel) (by decide +kernel)), rfl, rfl, tyX0_ok, nmX0, fun _ => rfl, fun h => absurd h (by decide), fun h => absurd h (by decide), fun _ => rfl, fun h => absurd h (by decide), fun h => absurd h (by decide)⟩
theorem fdX0_21 : FOK 0 21 3 0 := ⟨TX0, 6, rfl, by decide, inX0, (wt2 54 (by decide +kernel) (by decide +kernel)), rfl, rfl, tyX0_ok, nmX0, fun _ => rfl, fun h => absurd h (by decide), fun h => absurd h (by decide), fun _ => rfl, fun h => absurd h (by decide), fun h => absurd h (by decide)⟩
theorem fdX0_24 : FOK 0 24 4 0 := ⟨TX0, 6, rfl, by decide, inX0, (wt2 55 (by decide +kernel) (by decide +kernel)), rfl, rfl, tyX0_ok, nmX0, fun _ => rfl, fun h => absurd h (by decide), fun h => absurd h (by decide), fun _ => rfl, fun h => absurd h (by decide), fun h => absurd h (by decide)⟩
theorem fdX0_27 : FOK 0 27 5 0 := ⟨TX0, 6, rfl, by decide, inX0, (wt2 56 (by decide +kernel) (by decide +kernel)), rfl, rfl, tyX0_ok, nmX0, fun _ => rfl, fun h => absurd h (by decide), fun h => absurd h (by decide), fun _ => rfl, fun h => absurd h (by decide), fun h => absurd h (by decide)⟩
theorem okF0 : ∀ e ∈ entF0, FOK 0 e.1 e.2.1 e.2.2 := by
  intro e he
  simp only [entF0, List.mem_cons, List.not_mem_nil, or_false] at he
  rcases he with rfl | rfl | rfl | rfl | rfl | rfl
  · exact fdX0_9
  · exact fdX0_15
  · exact fdX0_18
  · exact fdX0_21
  · exact fdX0_24
  · exact fdX0_27
def entF1 : List (Nat × Nat × Nat) := [(11, 0, 3), (17, 1, 3), (21, 2, 3), (24, 4, 3), (27, 5, 3), (31, 3, 0), (96, 8, 0), (99, 13, 0), (117, 6, 0), (120, 7, 0), (130, 12, 2), (134, 11, 2), (137, 9, 0), (140, 10, 0)]
theorem fdX1_11 : FOK 1 11 0 3 := ⟨TX1, 14, rfl, by decide, inX1, (wt1 199 (by decide +kernel) (by decide +kernel)), rfl, rfl, tyX1_ok, nmX1, fun h => absurd h (by decide), fun _ => rfl, fun h => absurd h (by decide), fun h => absurd h (by decide), fun h => absurd h (by decide), fun _ => Or.inr ⟨_, rfl⟩⟩
theorem fdX1_17 : FOK 1 17 1 3 := ⟨TX1, 14, rfl, by decide, inX1, (wt1 200 (by decide +kernel) (by decide +kernel)), rfl, rfl, tyX1_ok, nmX1, fun h => absurd h (by decide), fun _ => rfl, fun h => absurd h (by decide), fun h => absurd h (by decide), fun h => absurd h (by decide), fun _ => Or.inr ⟨_, rfl⟩⟩
theorem fdX1_21 : FOK 1 21 2 3 := ⟨TX1, 14, rfl, by decide, inX1, (wt1 201 (by decide +kernel) (by decide +kernel)), rfl, rfl, tyX1_ok, nmX1, fun h => absurd h (by decide), fun _ => rfl, fun h => absurd h (by decide), fun h => absurd h (by decide), fun h => absurd h (by decide), fun _ => Or.inr ⟨_, rfl⟩⟩
theorem fdX1_24 : FOK 1 24 4 3 := ⟨TX1, 14, rfl, by decide, inX1, (wt1 203 (by decide +kernel) (by decide +kernel)), rfl, rfl, tyX1_ok, nmX1, fun h => absurd h (by decide), fun _ => rfl, fun h => absurd h (by decide), fun h => absurd h (by decide), fun h => absurd h (by decide), fun _ => Or.inr ⟨_, rfl⟩⟩
theorem fdX1_27 : FOK 1 27 5 3 := ⟨TX1, 14, rfl, by decide, inX1, (wt1 204 (by decide +kernel) (by decide +kernel)), rfl, rfl, tyX1_ok, nmX1, fun h => absurd h (by decide), fun _ => rfl, fun h => absurd h (by decide), fun h => absurd h (by decide), fun h => absurd h (by decide), fun _ => Or.inr ⟨_, rfl⟩⟩
theorem fdX1_31 : FOK 1 31 3 0 := ⟨TX1, 14, rfl, by decide, inX1, (wt1 202 (by decide +kernel) (by decide +kernel)), rfl, rfl, tyX1_ok, nmX1, fun _ => rfl, fun h => absurd h (by decide), fun h => absurd h (by decide), fun _ => rfl, fun h => absurd h (by decide), fun h => absurd h (by decide)⟩
theorem fdX1_96 : FOK 1 96 8 0 := ⟨TX1, 14, rfl, by decide, inX1, (wt1 207 (by decide +kernel) (by decide +kernel)), rfl, rfl, tyX1_ok, nmX1, fun _ => rfl, fun h => absurd h (by decide), fun h => absurd h (by decide), fun _ => rfl, fun h => absurd h (by decide), fun h => absurd h (by decide)⟩
theorem fdX1_99 : FOK 1 99 13 0 := ⟨TX1, 14, rfl, by decide, inX1, (wt1 212 (by decide +kernel) (by decide +kernel)), rfl, rfl, tyX1_ok, nmX1, fun _ => rfl, fun h => absurd h (by decide), fun h => absurd h (by decide), fun _ => rfl, fun h => absurd h (by decide), fun h => absurd h (by decide)⟩
theorem fdX1_117 : FOK 1 117 6 0 := ⟨TX1, 14, rfl, by decide, inX1, (wt1 205 (by decide +kernel) (by decide +kernel)), rfl, rfl, tyX1_ok, nmX1, fun _ => rfl, fun h => absurd h (by decide), fun h => absurd h (by decide), fun _ => rfl, fun h => absurd h (by decide), fun h => absurd h (by decide)⟩
theorem fdX1_120 : FOK 1 120 7 0 := ⟨TX1, 14, rfl, by decide, inX1, (wt1 206 (by decide +kernel) (by decide +kernel)), rfl, rfl, tyX1_ok, nmX1, fun _ => rfl, fun h => absurd h (by decide), fun h => absurd h (by decide), fun _ => rfl, fun h => absurd h (by decide), fun h => absurd h (by decide)⟩
theorem fdX1_130 : FOK 1 130 12 2 := ⟨TX1, 14, rfl, by decide, inX1, (wt1 211 (by decide +kernel) (by decide +kernel)), rfl, rfl, tyX1_ok, nmX1, fun _ => rfl, fun h => absurd h (by decide), fun h => absurd h (by decide), fun h => absurd h (by decide), fun _ => rfl, fun h => absurd h (by decide)⟩
theorem fdX1_134 : FOK 1 134 11 2 := ⟨TX1, 14, rfl, by decide, inX1, (wt1 210 (by decide +kernel) (by decide +kernel)), rfl, rfl, tyX1_ok, nmX1, fun _ => rfl, fun h => absurd h (by decide), fun h => absurd h (by decide), fun h => absurd h (by decide), fun _ => rfl, fun h => absurd h (by decide)⟩
theorem fdX1_137 : FOK 1 137 9 0 := ⟨TX1, 14, rfl, by decide, inX1, (wt1 208 (by decide +kernel) (by decide +kernel)), rfl, rfl, tyX1_ok, nmX1, fun _ => rfl, fun h => absurd h (by decide), fun h => absurd h (by decide), fun _ => rfl, fun h => absurd h (by decide), fun h => absurd h (by decide)⟩
theorem fdX1_140 : FOK 1 140 10 0 := ⟨TX1, 14, rfl, by decide, inX1, (wt1 209 (by decide +kernel) (by decide +kernel)), rfl, rfl, tyX1_ok, nmX1, fun _ => rfl, fun h => absurd h (by decide), fun h => absurd h (by decide), fun _ => rfl, fun h => absurd h (by decide), fun h => absurd h (by decide)⟩
theorem okF1 : ∀ e ∈ entF1, FOK 1 e.1 e.2.1 e.2.2 := by
  intro e he
  simp only [entF1, List.mem_cons, List.not_mem_nil, or_false] at he
  rcases he with rfl | rfl | rfl | rfl | rfl | rfl | rfl | rfl | rfl | rfl | rfl | rfl | rfl | rfl
  · exact fdX1_11
  · exact fdX1_17
  · exact fdX1_21
  · exact fdX1_24
  · exact fdX1_27
  · exact fdX1_31
  · exact fdX1_96
  · exact fdX1_99
  · exact fdX1_117
  · exact fdX1_120
  · exact fdX1_130
  · exact fdX1_134
  · exact fdX1_137
  · exact fdX1_140
def entF2 : List (Nat × Nat × Nat) := [(12, 0, 3), (18, 1, 3), (21, 2, 0)]
theorem fdX2_12 : FOK 2 12 0 3 := ⟨TX2, 3, rfl, by decide, inX2, (wt2 35 (by decide +kernel) (by decide +kernel)), rfl, rfl, tyX2_ok, nmX2, fun h => absurd h (by decide), fun _ => rfl, fun h => absurd h (by decide), fun h => absurd h (by decide), fun h => absurd h (by decide), fun _ => Or.inl ⟨_, rfl⟩⟩
theorem fdX2_18 : FOK 2 18 1 3 := ⟨TX2, 3, rfl, by decide, inX2, (wt2 36 (by decide +kernel) (by decide +kernel)), rfl, rfl, tyX2_ok, nmX2, fun h => absurd h (by decide), fun _ => rfl, fun h => absurd h (by decide), fun h => absurd h (by decide), fun h => absurd h (by decide), fun _ => Or.inl ⟨_, rfl⟩⟩
theorem fdX2_21 : FOK 2 21 2 0 := ⟨TX2, 3, rfl, by decide, inX2, (wt2 37 (by decide +kernel) (by decide +kernel)), rfl, rfl, tyX2_ok, nmX2, fun _ => rfl, fun h => absurd h (by decide), fun h => absurd h (by decide), fun _ => rfl, fun h => absurd h (by decide), fun h => absurd h (by decide)⟩
theorem okF2 : ∀ e ∈ entF2, FOK 2 e.1 e.2.1 e.2.2 := by
  intro e he
  simp only [entF2, List.mem_cons, List.not_mem_nil, or_false] at he
  rcases he with rfl | rfl | rfl
  · exact fdX2_12
  · exact fdX2_18
  · exact fdX2_21
def entF3 : List (Nat × Nat × Nat) := [(9, 0, 3), (17, 1, 3), (44, 2, 0)]
theorem fdX3_9 : FOK 3 9 0 3 := ⟨TX3, 3, rfl, by decide, inX3, (wt1 64 (by decide +kernel) (by decide +kernel)), rfl, rfl, tyX3_ok, nmX3, fun h => absurd h (by decide), fun _ => rfl, fun h => absurd h (by decide), fun h => absurd h (by decide), fun h => absurd h (by decide), fun _ => Or.inr ⟨_, rfl⟩⟩
theorem fdX3_17 : FOK 3 17 1 3 := ⟨TX3, 3, rfl, by decide, inX3, (wt1 65 (by decide +kernel) (by decide +kernel)), rfl, rfl, tyX3_ok, nmX3, fun h => absurd h (by decide), fun _ => rfl, fun h => absurd h (by decide), fun h => absurd h (by decide), fun h => absurd h (by decide), fun _ => Or.inr ⟨_, rfl⟩⟩
theorem fdX3_44 : FOK 3 44 2 0 := ⟨TX3, 3, rfl, by decide, inX3, (wt1 66 (by decide +kernel) (by decide +kernel)), rfl, rfl, tyX3_ok, nmX3, fun _ => rfl, fun h => absurd h (by decide), fun h => absurd h (by decide), fun _ => rfl, fun h => absurd h (by decide), fun h => absurd h (by decide)⟩
theorem okF3 : ∀ e ∈ entF3, FOK 3 e.1 e.2.1 e.2.2 := by
  intro e he
  simp only [entF3, List.mem_cons, List.not_mem_nil, or_false] at he
  rcases he with rfl | rfl | rfl
  · exact fdX3_9
  · exact fdX3_17
  · exact fdX3_44
def entF4 : List (Nat × Nat × Nat) := [(9, 0, 3), (15, 1, 0), (23, 2, 0), (34, 5, 0), (47, 3, 0), (50, 4, 0)]
theorem fdX4_9 : FOK 4 9 0 3 := ⟨TX4, 6, rfl, by decide, inX4, (wt2 8 (by decide +kernel) (by decide +kernel)), rfl, rfl, tyX4_ok, nmX4, fun h => absurd h (by decide), fun _ => rfl, fun h => absurd h (by decide), fun h => absurd h (by decide), fun h => absurd h (by decide), fun _ => Or.inr ⟨_, rfl⟩⟩
theorem fdX4_15 : FOK 4 15 1 0 := ⟨TX4, 6, rfl, by decide, inX4, (wt2 9 (by decide +kernel) (by decide +kernel)), rfl, rfl, tyX4_ok, nmX4, fun _ => rfl, fun h => absurd h (by decide), fun h => absurd h (by decide), fun _ => rfl, fun h => absurd h (by decide), fun h => absurd h (by decide)⟩
theorem fdX4_23 : FOK 4 23 2 0 := ⟨TX4, 6, rfl, by decide, inX4, (wt2 10 (by decide +kernel) (by decide +kernel)), rfl, rfl, tyX4_ok, nmX4, fun _ => rfl, fun h => absurd h (by decide), fun h => absurd h (by decide), fun _ => rfl, fun h => absurd h (by decide), fun h => absurd h (by decide)⟩
theorem fdX4_34 : FOK 4 34 5 0 := ⟨TX4, 6, rfl, by decide, inX4, (wt2 13 (by decide +kernel) (by decide +kernel)), rfl, rfl, tyX4_ok, nmX4, fun _ => rfl, fun h => absurd h (by decide), fun h => absurd h (by decide), fun _ => rfl, fun h => absurd h (by decide), fun h => absurd h (by decide)⟩
theorem fdX4_47 : FOK 4 47 3 0 := ⟨TX4, 6, rfl, by decide, inX4, (wt2 11 (by decide +kernel) (by decide +kernel)), rfl, rfl, tyX4_ok, nmX4, fun _ => rfl, fun h => absurd h (by decide), fun h => absurd h (by decide), fun _ => rfl, fun h => absurd h (by decide), fun h => absurd h (by decide)⟩
theorem fdX4_50 : FOK 4 50 4 0 := ⟨TX4, 6, rfl, by decide, inX4, (wt2 12 (by decide +kernel) (by decide +kernel)), rfl, rfl, tyX4_ok, nmX4, fun _ => rfl, fun h => absurd h (by decide), fun h => absurd h (by decide), fun _ => rfl, fun h => absurd h (by decide), fun h => absurd h (by decide)⟩
theorem okF4 : ∀ e ∈ entF4, FOK 4 e.1 e.2.1 e.2.2 := by
  intro e he
  simp only [entF4, List.mem_cons, List.not_mem_nil, or_false] at he
  rcases he with rfl | rfl | rfl | rfl | rfl | rfl
  · exact fdX4_9
  · exact fdX4_15
  · exact fdX4_23
  · exact fdX4_34
  · exact fdX4_47
  · exact fdX4_50
def entF5 : List (Nat × Nat × Nat) := [(9, 0, 3), (25, 1, 0), (37, 3, 0), (40, 4, 0), (43, 6, 1), (47, 2, 0), (50, 5, 0), (53, 7, 1), (56, 8, 1)]
theorem fdX5_9 : FOK 5 9 0 3 := ⟨TX5, 9, rfl, by decide, inX5, (wt1 80 (by decide +kernel) (by decide +kernel)), rfl, rfl, tyX5_ok, nmX5, fun h => absurd h (by decide), fun _ => rfl, fun h => absurd h (by decide), fun h => absurd h (by decide), fun h => absurd h (by decide), fun _ => Or.inr ⟨_, rfl⟩⟩
theorem fdX5_25 : FOK 5 25 1 0 := ⟨TX5, 9, rfl, by decide, inX5, (wt1 81 (by decide +kernel) (by decide +kernel)), rfl, rfl, tyX5_ok, nmX5, fun _ => rfl, fun h => absurd h (by decide), fun h => absurd h (by decide), fun _ => rfl, fun h => absurd h (by decide), fun h => absurd h (by decide)⟩
theorem fdX5_37 : FOK 5 37 3 0 := ⟨TX5, 9, rfl, by decide, inX5, (wt1 83 (by decide +kernel) (by decide +kernel)), rfl, rfl, tyX5_ok, nmX5, fun _ => rfl, fun h => absurd h (by decide), fun h => absurd h (by decide), fun _ => rfl, fun h => absurd h (by decide), fun h => absurd h (by decide)⟩
theorem fdX5_40 : FOK 5 40 4 0 := ⟨TX5, 9, rfl, by decide, inX5, (wt1 84 (by decide +kernel) (by decide +kernel)), rfl, rfl, tyX5_ok, nmX5, fun _ => rfl, fun h => absurd h (by decide), fun h => absurd h (by decide), fun _ => rfl, fun h => absurd h (by decide), fun h => absurd h (by decide)⟩
theorem fdX5_43 : FOK 5 43 6 1 := ⟨TX5, 9, rfl, by decide, inX5, (wt1 86 (by decide +kernel) (by decide +kernel)), rfl, rfl, tyX5_ok, nmX5, fun _ => rfl, fun h => absurd h (by decide), fun _ => rfl, fun h => absurd h (by decide), fun h => absurd h (by decide), fun h => absurd h (by decide)⟩
theorem fdX5_47 : FOK 5 47 2 0 := ⟨TX5, 9, rfl, by decide, inX5, (wt1 82 (by decide +kernel) (by decide +kernel)), rfl, rfl, tyX5_ok, nmX5, fun _ => rfl, fun h => absurd h (by decide), fun h => absurd h (by decide), fun _ => rfl, fun h => absurd h (by decide), fun h => absurd h (by decide)⟩
theorem fdX5_50 : FOK 5 50 5 0 := ⟨TX5, 9, rfl, by decide, inX5, (wt1 85 (by decide +kernel) (by decide +kernel)), rfl, rfl, tyX5_ok, nmX5, fun _ => rfl, fun h => absurd h (by decide), fun h => absurd h (by decide), fun _ => rfl, fun h => absurd h (by decide), fun h => absurd h (by decide)⟩
theorem fdX5_53 : FOK 5 53 7 1 := ⟨TX5, 9, rfl, by decide, inX5, (wt1 87 (by decide +kernel) (by decide +kernel)), rfl, rfl, tyX5_ok, nmX5, fun _ => rfl, fun h => absurd h (by decide), fun _ => rfl, fun h => absurd h (by decide), fun h => absurd h (by decide), fun h => absurd h (by decide)⟩
theorem fdX5_56 : FOK 5 56 8 1 := ⟨TX5, 9, rfl, by decide, inX5, (wt1 88 (by decide +kernel) (by decide +kernel)), rfl, rfl, tyX5_ok, nmX5, fun _ => rfl, fun h => absurd h (by decide), fun _ => rfl, fun h => absurd h (by decide), fun h => absurd h (by decide), fun h => absurd h (by decide)⟩
theorem okF5 : ∀ e ∈ entF5, FOK 5 e.1 e.2.1 e.2.2 := by
  intro e he
  simp only [entF5, List.mem_cons, List.not_mem_nil, or_false] at he
  rcases he with rfl | rfl | rfl | rfl | rfl | rfl | rfl | rfl | rfl
  · exact fdX5_9
  · exact fdX5_25
  · exact fdX5_37
  · exact fdX5_40
  · exact fdX5_43
  · exact fdX5_47
  · exact fdX5_50
  · exact fdX5_53
  · exact fdX5_56
def entF6 : List (Nat × Nat × Nat) := [(9, 0, 3)]
theorem fdX6_9 : FOK 6 9 0 3 := ⟨TX6, 1, rfl, by decide, inX6, (wt1 195 (by decide +kernel) (by decide +kernel)), rfl, rfl, tyX6_ok, nmX6, fun h => absurd h (by decide), fun _ => rfl, fun h => absurd h (by decide), fun h => absurd h (by decide), fun h => absurd h (by decide), fun _ => Or.inr ⟨_, rfl⟩⟩
theorem okF6 : ∀ e ∈ entF6, FOK 6 e.1 e.2.1 e.2.2 := by
  intro e he
  simp only [entF6, List.mem_cons, List.not_mem_nil, or_false] at he
  subst he
  exact fdX6_9
def entF7 : List (Nat × Nat × Nat) := [(9, 0, 3), (15, 1, 3), (18, 2, 3), (21, 3, 0), (25, 4, 0), (28, 5, 0), (31, 6, 0), (34, 7, 0)]
theorem fdX7_9 : FOK 7 9 0 3 := ⟨TX7, 8, rfl, by decide, inX7, (wt1 38 (by decide +kernel) (by decide +kernel)), rfl, rfl, tyX7_ok, nmX7, fun h => absurd h (by decide), fun _ => rfl, fun h => absurd h (by decide), fun h => absurd h (by decide), fun h => absurd h (by decide), fun _ => Or.inr ⟨_, rfl⟩⟩
theorem fdX7_15 : FOK 7 15 1 3 := ⟨TX7, 8, rfl, by decide, inX7, (wt1 39 (by decide +kernel) (by decide +kernel)), rfl, rfl, tyX7_ok, nmX7, fun h => absurd h (by decide), fun _ => rfl, fun h => absurd h (by decide), fun h => absurd h (by decide), fun h => absurd h (by decide), fun _ => Or.inr ⟨_, rfl⟩⟩
theorem fdX7_18 : FOK 7 18 2 3 := ⟨TX7, 8, rfl, by decide, inX7, (wt1 40 (by decide +kernel) (by decide +kernel)), rfl, rfl, tyX7_ok, nmX7, fun h => absurd h (by decide), fun _ => rfl, fun h => absurd h (by decide), fun h => absurd h (by decide), fun h => absurd h (by decide), fun _ => Or.inr ⟨_, rfl⟩⟩
theorem fdX7_21 : FOK 7 21 3 0 := ⟨TX7, 8, rfl, by decide, inX7, (wt1 41 (by decide +kernel) (by decide +kernel)), rfl, rfl, tyX7_ok, nmX7, fun _ => rfl, fun h => absurd h (by decide), fun h => absurd h (by decide), fun _ => rfl, fun h => absurd h (by decide), fun h => absurd h (by decide)⟩
theorem fdX7_25 : FOK 7 25 4 0 := ⟨TX7, 8, rfl, by decide, inX7, (wt1 42 (by decide +kernel) (by decide +kernel)), rfl, rfl, tyX7_ok, nmX7, fun _ => rfl, fun h => absurd h (by decide), fun h => absurd h (by decide), fun _ => rfl, fun h => absurd h (by decide), fun h => absurd h (by decide)⟩
theorem fdX7_28 : FOK 7 28 5 0 := ⟨TX7, 8, rfl, by decide, inX7, (wt1 43 (by decide +kernel) (by decide +kernel)), rfl, rfl, tyX7_ok, nmX7, fun _ => rfl, fun h => absurd h (by decide), fun h => absurd h (by decide), fun _ => rfl, fun h => absurd h (by decide), fun h => absurd h (by decide)⟩
theorem fdX7_31 : FOK 7 31 6 0 := ⟨TX7, 8, rfl, by decide, inX7, (wt1 44 (by decide +kernel) (by decide +kernel)), rfl, rfl, tyX7_ok, nmX7, fun _ => rfl, fun h => absurd h (by decide), fun h => absurd h (by decide), fun _ => rfl, fun h => absurd h (by decide), fun h => absurd h (by decide)⟩
theorem fdX7_34 : FOK 7 34 7 0 := ⟨TX7, 8, rfl, by decide, inX7, (wt1 45 (by decide +kernel) (by decide +kernel)), rfl, rfl, tyX7_ok, nmX7, fun _ => rfl, fun h => absurd h (by decide), fun h => absurd h (by decide), fun _ => rfl, fun h => absurd h (by decide), fun h => absurd h (by decide)⟩
theorem okF7 : ∀ e ∈ entF7, FOK 7 e.1 e.2.1 e.2.2 := by
  intro e he
  simp only [entF7, List.mem_cons, List.not_mem_nil, or_false] at he
  rcases he with rfl | rfl | rfl | rfl | rfl | rfl | rfl | rfl
  · exact fdX7_9
  · exact fdX7_15
  · exact fdX7_18
  · exact fdX7_21
  · exact fdX7_25
  · exact fdX7_28
  · exact fdX7_31
  · exact fdX7_34
def entF8 : List (Nat × Nat × Nat) := [(11, 0, 3), (15, 1, 3), (21, 7, 2), (25, 8, 2), (32, 3, 0), (36, 4, 0), (47, 6, 0), (58, 5, 0), (61, 2, 0)]
theorem fdX8_11 : FOK 8 11 0 3 := ⟨TX8, 9, rfl, by decide, inX8, (wt1 153 (by decide +kernel) (by decide +kernel)), rfl, rfl, tyX8_ok, nmX8, fun h => absurd h (by decide), fun _ => rfl, fun h => absurd h (by decide), fun h => absurd h (by decide), fun h => absurd h (by decide), fun _ => Or.inr ⟨_, rfl⟩⟩
theorem fdX8_15 : FOK 8 15 1 3 := ⟨TX8, 9, rfl, by decide, inX8, (wt1 154 (by decide +kernel) (by decide +kernel)), rfl, rfl, tyX8_ok, nmX8, fun h => absurd h (by decide), fun _ => rfl, fun h => absurd h (by decide), fun h => absurd h (by decide), fun h => absurd h (by decide), fun _ => Or.inr ⟨_, rfl⟩⟩
theorem fdX8_21 : FOK 8 21 7 2 := ⟨TX8, 9, rfl, by decide, inX8, (wt1 160 (by decide +kernel) (by decide +kernel)), rfl, rfl, tyX8_ok, nmX8, fun _ => rfl, fun h => absurd h (by decide), fun h => absurd h (by decide), fun h => absurd h (by decide), fun _ => rfl, fun h => absurd h (by decide)⟩
theorem fdX8_25 : FOK 8 25 8 2 := ⟨TX8, 9, rfl, by decide, inX8, (wt1 161 (by decide +kernel) (by decide +kernel)), rfl, rfl, tyX8_ok, nmX8, fun _ => rfl, fun h => absurd h (by decide), fun h => absurd h (by decide), fun h => absurd h (by decide), fun _ => rfl, fun h => absurd h (by decide)⟩
theorem fdX8_32 : FOK 8 32 3 0 := ⟨TX8, 9, rfl, by decide, inX8, (wt1 156 (by decide +kernel) (by decide +kernel)), rfl, rfl, tyX8_ok, nmX8, fun _ => rfl, fun h => absurd h (by decide), fun h => absurd h (by decide), fun _ => rfl, fun h => absurd h (by decide), fun h => absurd h (by decide)⟩
theorem fdX8_36 : FOK 8 36 4 0 := ⟨TX8, 9, rfl, by decide, inX8, (wt1 157 (by decide +kernel) (by decide +kernel)), rfl, rfl, tyX8_ok, nmX8, fun _ => rfl, fun h => absurd h (by decide), fun h => absurd h (by decide), fun _ => rfl, fun h => absurd h (by decide), fun h => absurd h (by decide)⟩
theorem fdX8_47 : FOK 8 47 6 0 := ⟨TX8, 9, rfl, by decide, inX8, (wt1 159 (by decide +kernel) (by decide +kernel)), rfl, rfl, tyX8_ok, nmX8, fun _ => rfl, fun h => absurd h (by decide), fun h => absurd h (by decide), fun _ => rfl, fun h => absurd h (by decide), fun h => absurd h (by decide)⟩
theorem fdX8_58 : FOK 8 58 5 0 := ⟨TX8, 9, rfl, by decide, inX8, (wt1 158 (by decide +kernel) (by decide +kernel)), rfl, rfl, tyX8_ok, nmX8, fun _ => rfl, fun h => absurd h (by decide), fun h => absurd h (by decide), fun _ => rfl, fun h => absurd h (by decide), fun h => absurd h (by decide)⟩
theorem fdX8_61 : FOK 8 61 2 0 := ⟨TX8, 9, rfl, by decide, inX8, (wt1 155 (by decide +kernel) (by decide +kernel)), rfl, rfl, tyX8_ok, nmX8, fun _ => rfl, fun h => absurd h (by decide), fun h => absurd h (by decide), fun _ => rfl, fun h => absurd h (by decide), fun h => absurd h (by decide)⟩
theorem okF8 : ∀ e ∈ entF8, FOK 8 e.1 e.2.1 e.2.2 := by
  intro e he
  simp only [entF8, List.mem_cons, List.not_mem_nil, or_false] at he
  rcases he with rfl | rfl | rfl | rfl | rfl | rfl | rfl | rfl | rfl
  · exact fdX8_11
  · exact fdX8_15
  · exact fdX8_21
  · exact fdX8_25
  · exact fdX8_32
  · exact fdX8_36
  · exact fdX8_47
  · exact fdX8_58
  · exact fdX8_61
def entF9 : List (Nat × Nat × Nat) := [(9, 0, 3), (15, 1, 3), (18, 2, 0)]
theorem fdX9_9 : FOK 9 9 0 3 := ⟨TX9, 3, rfl, by decide, inX9, (wt1 136 (by decide +kernel) (by decide +kernel)), rfl, rfl, tyX9_ok, nmX9, fun h => absurd h (by decide), fun _ => rfl, fun h => absurd h (by decide), fun h => absurd h (by decide), fun h => absurd h (by decide), fun _ => Or.inr ⟨_, rfl⟩⟩
theorem fdX9_15 : FOK 9 15 1 3 := ⟨TX9, 3, rfl, by decide, inX9, (wt1 137 (by decide +kernel) (by decide +kernel)), rfl, rfl, tyX9_ok, nmX9, fun h => absurd h (by decide), fun _ => rfl, fun h => absurd h (by decide), fun h => absurd h (by decide), fun h => absurd h (by decide), fun _ => Or.inr ⟨_, rfl⟩⟩
theorem fdX9_18 : FOK 9 18 2 0 := ⟨TX9, 3, rfl, by decide, inX9, (wt1 138 (by decide +kernel) (by decide +kernel)), rfl, rfl, tyX9_ok, nmX9, fun _ => rfl, fun h => absurd h (by decide), fun h => absurd h (by decide), fun _ => rfl, fun h => absurd h (by decide), fun h => absurd h (by decide)⟩
theorem okF9 : ∀ e ∈ entF9, FOK 9 e.1 e.2.1 e.2.2 := by
  intro e he
  simp only [entF9, List.mem_cons, List.not_mem_nil, or_false] at he
  rcases he with rfl | rfl | rfl
  · exact fdX9_9
  · exact fdX9_15
  · exact fdX9_18
def entF10 : List (Nat × Nat × Nat) := [(9, 0, 3), (15, 1, 0), (19, 2, 1), (23, 3, 0)]
theorem fdX10_9 : FOK 10 9 0 3 := ⟨TX10, 4, rfl, by decide, inX10, (wt1 116 (by decide +kernel) (by decide +kernel)), rfl, rfl, tyX10_ok, nmX10, fun h => absurd h (by decide), fun _ => rfl, fun h => absurd h (by decide), fun h => absurd h (by decide), fun h => absurd h (by decide), fun _ => Or.inr ⟨_, rfl⟩⟩
theorem fdX10_15 : FOK 10 15 1 0 := ⟨TX10, 4, rfl, by decide, inX10, (wt1 117 (by decide +kernel) (by decide +kernel)), rfl, rfl, tyX10_ok, nmX10, fun _ => rfl, fun h => absurd h (by decide), fun h => absurd h (by decide), fun _ => rfl, fun h => absurd h (by decide), fun h => absurd h (by decide)⟩
theorem fdX10_19 : FOK 10 19 2 1 := ⟨TX10, 4, rfl, by decide, inX10, (wt1 118 (by decide +kernel) (by decide +kernel)), rfl, rfl, tyX10_ok, nmX10, fun _ => rfl, fun h => absurd h (by decide), fun _ => rfl, fun h => absurd h (by decide), fun h => absurd h (by decide), fun h => absurd h (by decide)⟩
theorem fdX10_23 : FOK 10 23 3 0 := ⟨TX10, 4, rfl, by decide, inX10, (wt1 119 (by decide +kernel) (by decide +kernel)), rfl, rfl, tyX10_ok, nmX10, fun _ => rfl, fun h => absurd h (by decide), fun h => absurd h (by decide), fun _ => rfl, fun h => absurd h (by decide), fun h => absurd h (by decide)⟩
theorem okF10 : ∀ e ∈ entF10, FOK 10 e.1 e.2.1 e.2.2 := by
  intro e he
  simp only [entF10, List.mem_cons, List.not_mem_nil, or_false] at he
  rcases he with rfl | rfl | rfl | rfl
  · exact fdX10_9
  · exact fdX10_15
  · exact fdX10_19
  · exact fdX10_23
def entF11 : List (Nat × Nat × Nat) := [(10, 0, 3), (19, 1, 3), (26, 2, 3), (33, 3, 3), (40, 4, 3), (47, 5, 3), (54, 6, 3), (61, 7, 3), (68, 8, 3), (75, 9, 3), (82, 10, 3), (86, 11, 3), (89, 12, 3), (179, 13, 0), (263, 14, 0)]
theorem fdX11_10 : FOK 11 10 0 3 := ⟨TX11, 15, rfl, by decide, inX11, (wt2 72 (by decide +kernel) (by decide +kernel)), rfl, rfl, tyX11_ok, nmX11, fun h => absurd h (by decide), fun _ => rfl, fun h => absurd h (by decide), fun h => absurd h (by decide), fun h => absurd h (by decide), fun _ => Or.inl ⟨_, rfl⟩⟩
theorem fdX11_19 : FOK 11 19 1 3 := ⟨TX11, 15, rfl, by decide, inX11, (wt2 73 (by decide +kernel) (by decide +kernel)), rfl, rfl, tyX11_ok, nmX11, fun h => absurd h (by decide), fun _ => rfl, fun h => absurd h (by decide), fun h => absurd h (by decide), fun h => absurd h (by decide), fun _ => Or.inl ⟨_, rfl⟩⟩
theorem fdX11_26 : FOK 11 26 2 3 := ⟨TX11, 15, rfl, by decide, inX11, (wt2 74 (by decide +kernel) (by decide +kernel)), rfl, rfl, tyX11_ok, nmX11, fun h => absurd h (by decide), fun _ => rfl, fun h => absurd h (by decide), fun h => absurd h (by decide), fun h => absurd h (by decide), fun _ => Or.inl ⟨_, rfl⟩⟩
theorem fdX11_33 : FOK 11 33 3 3 := ⟨TX11, 15, rfl, by decide, inX11, (wt2 75 (by decide +kernel) (by decide +kernel)), rfl, rfl, tyX11_ok, nmX11, fun h => absurd h (by decide), fun _ => rfl, fun h => absurd h (by decide), fun h => absurd h (by decide), fun h => absurd h (by decide), fun _ => Or.inl ⟨_, rfl⟩⟩
theorem fdX11_40 : FOK 11 40 4 3 := ⟨TX11, 15, rfl, by decide, inX11, (wt2 76 (by decide +kernel) (by decide +kernel)), rfl, rfl, tyX11_ok, nmX11, fun h => absurd h (by decide), fun _ => rfl, fun h => absurd h (by decide), fun h => absurd h (by decide), fun h => absurd h (by decide), fun _ => Or.inl ⟨_, rfl⟩⟩
theorem fdX11_47 : FOK 11 47 5 3 := ⟨TX11, 15, rfl, by decide, inX11, (wt2 77 (by decide +kernel) (by decide +kernel)), rfl, rfl, tyX11_ok, nmX11, fun h => absurd h (by decide), fun _ => rfl, fun h => absurd h (by decide), fun h => absurd h (by decide), fun h => absurd h (by decide), fun _ => Or.inl ⟨_, rfl⟩⟩
theorem fdX11_54 : FOK 11 54 6 3 := ⟨TX11, 15, rfl, by decide, inX11, (wt2 78 (by decide +kernel) (by decide +kernel)), rfl, rfl, tyX11_ok, nmX11, fun h => absurd h (by decide), fun _ => rfl, fun h => absurd h (by decide), fun h => absurd h (by decide), fun h => absurd h (by decide), fun _ => Or.inl ⟨_, rfl⟩⟩
theorem fdX11_61 : FOK 11 61 7 3 := ⟨TX11, 15, rfl, by decide, inX11, (wt2 79 (by decide +kernel) (by decide +kernel)), rfl, rfl, tyX11_ok, nmX11, fun h => absurd h (by decide), fun _ => rfl, fun h => absurd h (by decide), fun h => absurd h (by decide), fun h => absurd h (by decide), fun _ => Or.inl ⟨_, rfl⟩⟩
theorem fdX11_68 : FOK 11 68 8 3 := ⟨TX11, 15, rfl, by decide, inX11, (wt2 80 (by decide +kernel) (by decide +kernel)), rfl, rfl, tyX11_ok, nmX11, fun h => absurd h (by decide), fun _ => rfl, fun h => absurd h (by decide), fun h => absurd h (by decide), fun h => absurd h (by decide), fun _ => Or.inl ⟨_, rfl⟩⟩
theorem fdX11_75 : FOK 11 75 9 3 := ⟨TX11, 15, rfl, by decide, inX11, (wt2 81 (by decide +kernel) (by decide +kernel)), rfl, rfl, tyX11_ok, nmX11, fun h => absurd h (by decide), fun _ => rfl, fun h => absurd h (by decide), fun h => absurd h (by decide), fun h => absurd h (by decide), fun _ => Or.inl ⟨_, rfl⟩⟩
theorem fdX11_82 : FOK 11 82 10 3 := ⟨TX11, 15, rfl, by decide, inX11, (wt2 82 (by decide +kernel) (by decide +kernel)), rfl, rfl, tyX11_ok, nmX11, fun h => absurd h (by decide), fun _ => rfl, fun h => absurd h (by decide), fun h => absurd h (by decide), fun h => absurd h (by decide), fun _ => Or.inl ⟨_, rfl⟩⟩
theorem fdX11_86 : FOK 11 86 11 3 := ⟨TX11, 15, rfl, by decide, inX11, (wt2 83 (by decide +kernel) (by decide +kernel)), rfl, rfl, tyX11_ok, nmX11, fun h => absurd h (by decide), fun _ => rfl, fun h => absurd h (by decide), fun h => absurd h (by decide), fun h => absurd h (by decide), fun _ => Or.inl ⟨_, rfl⟩⟩
theorem fdX11_89 : FOK 11 89 12 3 := ⟨TX11, 15, rfl, by decide, inX11, (wt2 84 (by decide +kernel) (by decide +kernel)), rfl, rfl, tyX11_ok, nmX11, fun h => absurd h (by decide), fun _ => rfl, fun h => absurd h (by decide), fun h => absurd h (by decide), fun h => absurd h (by decide), fun _ => Or.inr ⟨_, rfl⟩⟩
theorem fdX11_179 : FOK 11 179 13 0 := ⟨TX11, 15, rfl, by decide, inX11, (wt2 85 (by decide +kernel) (by decide +kernel)), rfl, rfl, tyX11_ok, nmX11, fun _ => rfl, fun h => absurd h (by decide), fun h => absurd h (by decide), fun _ => rfl, fun h => absurd h (by decide), fun h => absurd h (by decide)⟩
theorem fdX11_263 : FOK 11 263 14 0 := ⟨TX11, 15, rfl, by decide, inX11, (wt2 86 (by decide +kernel) (by decide +kernel)), rfl, rfl, tyX11_ok, nmX11, fun _ => rfl, fun h => absurd h (by decide), fun h => absurd h (by decide), fun _ => rfl, fun h => absurd h (by decide), fun h => absurd h (by decide)⟩
theorem okF11 : ∀ e ∈ entF11, FOK 11 e.1 e.2.1 e.2.2 := by
  intro e he
  simp only [entF11, List.mem_cons, List.not_mem_nil, or_false] at he
  rcases he with rfl | rfl | rfl | rfl | rfl | rfl | rfl | rfl | rfl | rfl | rfl | rfl | rfl | rfl | rfl
  · exact fdX11_10
  · exact fdX11_19
  · exact fdX11_26
  · exact fdX11_33
  · exact fdX11_40
  · exact fdX11_47
  · exact fdX11_54
  · exact fdX11_61
  · exact fdX11_68
  · exact fdX11_75
  · exact fdX11_82
  · exact fdX11_86
  · exact fdX11_89
  · exact fdX11_179
  · exact fdX11_263
def entF12 : List (Nat × Nat × Nat) := [(7, 0, 3), (13, 1, 3), (16, 2, 3), (19, 3, 3), (22, 4, 3), (25, 13, 3), (28, 14, 3), (31, 16, 3), (34, 17, 3), (37, 19, 3), (40, 22, 3), (43, 23, 3), (46, 25, 3), (49, 26, 3), (52, 29, 3), (55, 30, 3), (58, 31, 3), (61, 32, 3), (65, 33, 3), (69, 34, 3), (72, 35, 3), (75, 37, 3), (78, 38, 3), (81, 39, 3), (84, 40, 3), (87, 42, 3), (90, 43, 3), (93, 44, 3), (96, 53, 3), (99, 54, 3), (102, 55, 3), (105, 69, 3), (108, 70, 3), (142, 5, 0), (146, 15, 0), (149, 20, 0), (164, 6, 0), (171, 7, 0), (174, 10, 1), (178, 11, 1), (181, 8, 1), (184, 9, 0), (203, 18, 0), (213, 21, 1), (216, 24, 0), (219, 27, 0), (222, 28, 0), (237, 36, 0), (278, 41, 0), (281, 46, 0), (284, 47, 0), (287, 48, 0), (290, 49, 1), (303, 50, 2), (307, 51, 2), (316, 45, 0), (326, 52, 0), (338, 56, 0), (341, 57, 0), (357, 58, 0), (360, 59, 0), (363, 60, 0), (366, 61, 0), (392, 62, 0), (395, 67, 0), (398, 66, 0), (401, 65, 0), (404, 63, 0), (407, 64, 0), (427, 68, 0), (461, 71, 2)]
theorem fdX12_7 : FOK 12 7 0 3 := ⟨TX12, 72, rfl, by decide, inX12, (wt5 78 (by decide +kernel) (by decide +kernel)), rfl, rfl, tyX12_ok, nmX12, fun h => absurd h (by decide), fun _ => rfl, fun h => absurd h (by decide), fun h => absurd h (by decide), fun h => absurd h (by decide), fun _ => Or.inr ⟨_, rfl⟩⟩
theorem fdX12_13 : FOK 12 13 1 3 := ⟨TX12, 72, rfl, by decide, inX12, (wt5 79 (by decide +kernel) (by decide +kernel)), rfl, rfl, tyX12_ok, nmX12, fun h => absurd h (by decide), fun _ => rfl, fun h => absurd h (by decide), fun h => absurd h (by decide), fun h => absurd h (by decide), fun _ => Or.inr ⟨_, rfl⟩⟩
theorem fdX12_16 : FOK 12 16 2 3 := ⟨TX12, 72, rfl, by decide, inX12, (wt5 80 (by decide +kernel) (by decide +kernel)), rfl, rfl, tyX12_ok, nmX12, fun h => absurd h (by decide), fun _ => rfl, fun h => absurd h (by decide), fun h => absurd h (by decide), fun h => absurd h (by decide), fun _ => Or.inr ⟨_, rfl⟩⟩
theorem fdX12_19 : FOK 12 19 3 3 := ⟨TX12, 72, rfl, by decide, inX12, (wt5 81 (by decide +kernel) (by decide +kernel)), rfl, rfl, tyX12_ok, nmX12, fun h => absurd h (by decide), fun _ => rfl, fun h => absurd h (by decide), fun h => absurd h (by decide), fun h => absurd h (by decide), fun _ => Or.inr ⟨_, rfl⟩⟩
theorem fdX12_22 : FOK 12 22 4 3 := ⟨TX12, 72, rfl, by decide, inX12, (wt5 82 (by decide +kernel) (by decide +kernel)), rfl, rfl, tyX12_ok, nmX12, fun h => absurd h (by decide), fun _ => rfl, fun h => absurd h (by decide), fun h => absurd h (by decide), fun h => absurd h (by decide), fun _ => Or.inr ⟨_, rfl⟩⟩
theorem fdX12_25 : FOK 12 25 13 3 := ⟨TX12, 72, rfl, by decide, inX12, (wt5 90 (by decide +kernel) (by decide +kernel)), rfl, rfl, tyX12_ok, nmX12, fun h => absurd h (by decide), fun _ => rfl, fun h => absurd h (by decide), fun h => absurd h (by decide), fun h => absurd h (by decide), fun _ => Or.inr ⟨_, rfl⟩⟩
theorem fdX12_28 : FOK 12 28 14 3 := ⟨TX12, 72, rfl, by decide, inX12, (wt5 91 (by decide +kernel) (by decide +kernel)), rfl, rfl, tyX12_ok, nmX12, fun h => absurd h (by decide), fun _ => rfl, fun h => absurd h (by decide), fun h => absurd h (by decide), fun h => absurd h (by decide), fun _ => Or.inr ⟨_, rfl⟩⟩
theorem fdX12_31 : FOK 12 31 16 3 := ⟨TX12, 72, rfl, by decide, inX12, (wt5 93 (by decide +kernel) (by decide +kernel)), rfl, rfl, tyX12_ok, nmX12, fun h => absurd h (by decide), fun _ => rfl, fun h => absurd h (by decide), fun h => absurd h (by decide), fun h => absurd h (by decide), fun _ => Or.inr ⟨_, rfl⟩⟩
theorem fdX12_34 : FOK 12 34 17 3 := ⟨TX12, 72, rfl, by decide, inX12, (wt5 94 (by decide +kernel) (by decide +kernel)), rfl, rfl, tyX12_ok, nmX12, fun h => absurd h (by decide), fun _ => rfl, fun h => absurd h (by decide), fun h => absurd h (by decide), fun h => absurd h (by decide), fun _ => Or.inr ⟨_, rfl⟩⟩
theorem fdX12_37 : FOK 12 37 19 3 := ⟨TX12, 72, rfl, by decide, inX12, (wt5 96 (by decide +kernel) (by decide +kernel)), rfl, rfl, tyX12_ok, nmX12, fun h => absurd h (by decide), fun _ => rfl, fun h => absurd h (by decide), fun h => absurd h (by decide), fun h => absurd h (by decide), fun _ => Or.inr ⟨_, rfl⟩⟩
theorem fdX12_40 : FOK 12 40 22 3 := ⟨TX12, 72, rfl, by decide, inX12, (wt5 99 (by decide +kernel) (by decide +kernel)), rfl, rfl, tyX12_ok, nmX12, fun h => absurd h (by decide), fun _ => rfl, fun h => absurd h (by decide), fun h => absurd h (by decide), fun h => absurd h (by decide), fun _ => Or.inr ⟨_, rfl⟩⟩
theorem fdX12_43 : FOK 12 43 23 3 := ⟨TX12, 72, rfl, by decide, inX12, (wt5 100 (by decide +kernel) (by decide +kernel)), rfl, rfl, tyX12_ok, nmX12, fun h => absurd h (by decide), fun _ => rfl, fun h => absurd h (by decide), fun h => absurd h (by decide), fun h => absurd h (by decide), fun _ => Or.inr ⟨_, rfl⟩⟩
theorem fdX12_46 : FOK 12 46 25 3 := ⟨TX12, 72, rfl, by decide, inX12, (wt5 102 (by decide +kernel) (by decide +kernel)), rfl, rfl, tyX12_ok, nmX12, fun h => absurd h (by decide), fun _ => rfl, fun h => absurd h (by decide), fun h => absurd h (by decide), fun h => absurd h (by decide), fun _ => Or.inr ⟨_, rfl⟩⟩
theorem fdX12_49 : FOK 12 49 26 3 := ⟨TX12, 72, rfl, by decide, inX12, (wt5 103 (by decide +kernel) (by decide +kernel)), rfl, rfl, tyX12_ok, nmX12, fun h => absurd h (by decide), fun _ => rfl, fun h => absurd h (by decide), fun h => absurd h (by decide), fun h => absurd h (by decide), fun _ => Or.inr ⟨_, rfl⟩⟩
theorem fdX12_52 : FOK 12 52 29 3 := ⟨TX12, 72, rfl, by decide, inX12, (wt5 106 (by decide +kernel) (by decide +kernel)), rfl, rfl, tyX12_ok, nmX12, fun h => absurd h (by decide), fun _ => rfl, fun h => absurd h (by decide), fun h => absurd h (by decide), fun h => absurd h (by decide), fun _ => Or.inr ⟨_, rfl⟩⟩
theorem fdX12_55 : FOK 12 55 30 3 := ⟨TX12, 72, rfl, by decide, inX12, (wt5 107 (by decide +kernel) (by decide +kernel)), rfl, rfl, tyX12_ok, nmX12, fun h => absurd h (by decide), fun _ => rfl, fun h => absurd h (by decide), fun h => absurd h (by decide), fun h => absurd h (by decide), fun _ => Or.inr ⟨_, rfl⟩⟩
theorem fdX12_58 : FOK 12 58 31 3 := ⟨TX12, 72, rfl, by decide, inX12, (wt5 108 (by decide +kernel) (by decide +kernel)), rfl, rfl, tyX12_ok, nmX12, fun h => absurd h (by decide), fun _ => rfl, fun h => absurd h (by decide), fun h => absurd h (by decide), fun h => absurd h (by decide), fun _ => Or.inr ⟨_, rfl⟩⟩
theorem fdX12_61 : FOK 12 61 32 3 := ⟨TX12, 72, rfl, by decide, inX12, (wt5 109 (by decide +kernel) (by decide +kernel)), rfl, rfl, tyX12_ok, nmX12, fun h => absurd h (by decide), fun _ => rfl, fun h => absurd h (by decide), fun h => absurd h (by decide), fun h => absurd h (by decide), fun _ => Or.inr ⟨_, rfl⟩⟩
theorem fdX12_65 : FOK 12 65 33 3 := ⟨TX12, 72, rfl, by decide, inX12, (wt5 110 (by decide +kernel) (by decide +kernel)), rfl, rfl, tyX12_ok, nmX12, fun h => absurd h (by decide), fun _ => rfl, fun h => absurd h (by decide), fun h => absurd h (by decide), fun h => absurd h (by decide), fun _ => Or.inr ⟨_, rfl⟩⟩
theorem fdX12_69 : FOK 12 69 34 3 := ⟨TX12, 72, rfl, by decide, inX12, (wt5 111 (by decide +kernel) (by decide +kernel)), rfl, rfl, tyX12_ok, nmX12, fun h => absurd h (by decide), fun _ => rfl, fun h => absurd h (by decide), fun h => absurd h (by decide), fun h => absurd h (by decide), fun _ => Or.inr ⟨_, rfl⟩⟩
theorem fdX12_72 : FOK 12 72 35 3 := ⟨TX12, 72, rfl, by decide, inX12, (wt5 112 (by decide +kernel) (by decide +kernel)), rfl, rfl, tyX12_ok, nmX12, fun h => absurd h (by decide), fun _ => rfl, fun h => absurd h (by decide), fun h => absurd h (by decide), fun h => absurd h (by decide), fun _ => Or.inr ⟨_, rfl⟩⟩
theorem fdX12_75 : FOK 12 75 37 3 := ⟨TX12, 72, rfl, by decide, inX12, (wt5 114 (by decide +kernel) (by decide +kernel)), rfl, rfl, tyX12_ok, nmX12, fun h => absurd h (by decide), fun _ => rfl, fun h => absurd h (by decide), fun h => absurd h (by decide), fun h => absurd h (by decide), fun _ => Or.inr ⟨_, rfl⟩⟩
theorem fdX12_78 : FOK 12 78 38 3 := ⟨TX12, 72, rfl, by decide, inX12, (wt5 115 (by decide +kernel) (by decide +kernel)), rfl, rfl, tyX12_ok, nmX12, fun h => absurd h (by decide), fun _ => rfl, fun h => absurd h (by decide), fun h => absurd h (by decide), fun h => absurd h (by decide), fun _ => Or.inr ⟨_, rfl⟩⟩
theorem fdX12_81 : FOK 12 81 39 3 := ⟨TX12, 72, rfl, by decide, inX12, (wt5 116 (by decide +kernel) (by decide +kernel)), rfl, rfl, tyX12_ok, nmX12, fun h => absurd h (by decide), fun _ => rfl, fun h => absurd h (by decide), fun h => absurd h (by decide), fun h => absurd h (by decide), fun _ => Or.inr ⟨_, rfl⟩⟩
theorem fdX12_84 : FOK 12 84 40 3 := ⟨TX12, 72, rfl, by decide, inX12, (wt5 117 (by decide +kernel) (by decide +kernel)), rfl, rfl, tyX12_ok, nmX12, fun h => absurd h (by decide), fun _ => rfl, fun h => absurd h (by decide), fun h => absurd h (by decide), fun h => absurd h (by decide), fun _ => Or.inr ⟨_, rfl⟩⟩
theorem fdX12_87 : FOK 12 87 42 3 := ⟨TX12, 72, rfl, by decide, inX12, (wt5 119 (by decide +kernel) (by decide +kernel)), rfl, rfl, tyX12_ok, nmX12, fun h => absurd h (by decide), fun _ => rfl, fun h => absurd h (by decide), fun h => absurd h (by decide), fun h => absurd h (by decide), fun _ => Or.inr ⟨_, rfl⟩⟩
theorem fdX12_90 : FOK 12 90 43 3 := ⟨TX12, 72, rfl, by decide, inX12, (wt5 120 (by decide +kernel) (by decide +kernel)), rfl, rfl, tyX12_ok, nmX12, fun h => absurd h (by decide), fun _ => rfl, fun h => absurd h (by decide), fun h => absurd h (by decide), fun h => absurd h (by decide), fun _ => Or.inr ⟨_, rfl⟩⟩
theorem fdX12_93 : FOK 12 93 44 3 := ⟨TX12, 72, rfl, by decide, inX12, (wt5 121 (by decide +kernel) (by decide +kernel)), rfl, rfl, tyX12_ok, nmX12, fun h => absurd h (by decide), fun _ => rfl, fun h => absurd h (by decide), fun h => absurd h (by decide), fun h => absurd h (by decide), fun _ => Or.inr ⟨_, rfl⟩⟩
theorem fdX12_96 : FOK 12 96 53 3 := ⟨TX12, 72, rfl, by decide, inX12, (wt5 130 (by decide +kernel) (by decide +kernel)), rfl, rfl, tyX12_ok, nmX12, fun h => absurd h (by decide), fun _ => rfl, fun h => absurd h (by decide), fun h => absurd h (by decide), fun h => absurd h (by decide), fun _ => Or.inr ⟨_, rfl⟩⟩
theorem fdX12_99 : FOK 12 99 54 3 := ⟨TX12, 72, rfl, by decide, inX12, (wt5 131 (by decide +kernel) (by decide +kernel)), rfl, rfl, tyX12_ok, nmX12, fun h => absurd h (by decide), fun _ => rfl, fun h => absurd h (by decide), fun h => absurd h (by decide), fun h => absurd h (by decide), fun _ => Or.inr ⟨_, rfl⟩⟩
theorem fdX12_102 : FOK 12 102 55 3 := ⟨TX12, 72, rfl, by decide, inX12, (wt5 132 (by decide +kernel) (by decide +kernel)), rfl, rfl, tyX12_ok, nmX12, fun h => absurd h (by decide), fun _ => rfl, fun h => absurd h (by decide), fun h => absurd h (by decide), fun h => absurd h (by decide), fun _ => Or.inr ⟨_, rfl⟩⟩
theorem fdX12_105 : FOK 12 105 69 3 := ⟨TX12, 72, rfl, by decide, inX12, (wt5 146 (by decide +kernel) (by decide +kernel)), rfl, rfl, tyX12_ok, nmX12, fun h => absurd h (by decide), fun _ => rfl, fun h => absurd h (by decide), fun h => absurd h (by decide), fun h => absurd h (by decide), fun _ => Or.inr ⟨_, rfl⟩⟩
theorem fdX12_108 : FOK 12 108 70 3 := ⟨TX12, 72, rfl, by decide, inX12, (wt5 147 (by decide +kernel) (by decide +kernel)), rfl, rfl, tyX12_ok, nmX12, fun h => absurd h (by decide), fun _ => rfl, fun h => absurd h (by decide), fun h => absurd h (by decide), fun h => absurd h (by decide), fun _ => Or.inr ⟨_, rfl⟩⟩
theorem fdX12_142 : FOK 12 142 5 0 := ⟨TX12, 72, rfl, by decide, inX12, (wt5 83 (by decide +kernel) (by decide +kernel)), rfl, rfl, tyX12_ok, nmX12, fun _ => rfl, fun h => absurd h (by decide), fun h => absurd h (by decide), fun _ => rfl, fun h => absurd h (by decide), fun h => absurd h (by decide)⟩
theorem fdX12_146 : FOK 12 146 15 0 := ⟨TX12, 72, rfl, by decide, inX12, (wt5 92 (by decide +kernel) (by decide +kernel)), rfl, rfl, tyX12_ok, nmX12, fun _ => rfl, fun h => absurd h (by decide), fun h => absurd h (by decide), fun _ => rfl, fun h => absurd h (by decide), fun h => absurd h (by decide)⟩
theorem fdX12_149 : FOK 12 149 20 0 := ⟨TX12, 72, rfl, by decide, inX12, (wt5 97 (by decide +kernel) (by decide +kernel)), rfl, rfl, tyX12_ok, nmX12, fun _ => rfl, fun h => absurd h (by decide), fun h => absurd h (by decide), fun _ => rfl, fun h => absurd h (by decide), fun h => absurd h (by decide)⟩
theorem fdX12_164 : FOK 12 164 6 0 := ⟨TX12, 72, rfl, by decide, inX12, (wt5 84 (by decide +kernel) (by decide +kernel)), rfl, rfl, tyX12_ok, nmX12, fun _ => rfl, fun h => absurd h (by decide), fun h => absurd h (by decide), fun _ => rfl, fun h => absurd h (by decide), fun h => absurd h (by decide)⟩
theorem fdX12_171 : FOK 12 171 7 0 := ⟨TX12, 72, rfl, by decide, inX12, (wt5 85 (by decide +kernel) (by decide +kernel)), rfl, rfl, tyX12_ok, nmX12, fun _ => rfl, fun h => absurd h (by decide), fun h => absurd h (by decide), fun _ => rfl, fun h => absurd h (by decide), fun h => absurd h (by decide)⟩
theorem fdX12_174 : FOK 12 174 10 1 := ⟨TX12, 72, rfl, by decide, inX12, (wt5 88 (by decide +kernel) (by decide +kernel)), rfl, rfl, tyX12_ok, nmX12, fun _ => rfl, fun h => absurd h (by decide), fun _ => rfl, fun h => absurd h (by decide), fun h => absurd h (by decide), fun h => absurd h (by decide)⟩
theorem fdX12_178 : FOK 12 178 11 1 := ⟨TX12, 72, rfl, by decide, inX12, (wt5 89 (by decide +kernel) (by decide +kernel)), rfl, rfl, tyX12_ok, nmX12, fun _ => rfl, fun h => absurd h (by decide), fun _ => rfl, fun h => absurd h (by decide), fun h => absurd h (by decide), fun h => absurd h (by decide)⟩
theorem fdX12_181 : FOK 12 181 8 1 := ⟨TX12, 72, rfl, by decide, inX12, (wt5 86 (by decide +kernel) (by decide +kernel)), rfl, rfl, tyX12_ok, nmX12, fun _ => rfl, fun h => absurd h (by decide), fun _ => rfl, fun h => absurd h (by decide), fun h => absurd h (by decide), fun h => absurd h (by decide)⟩
theorem fdX12_184 : FOK 12 184 9 0 := ⟨TX12, 72, rfl, by decide, inX12, (wt5 87 (by decide +kernel) (by decide +kernel)), rfl, rfl, tyX12_ok, nmX12, fun _ => rfl, fun h => absurd h (by decide), fun h => absurd h (by decide), fun _ => rfl, fun h => absurd h (by decide), fun h => absurd h (by decide)⟩
theorem fdX12_203 : FOK 12 203 18 0 := ⟨TX12, 72, rfl, by decide, inX12, (wt5 95 (by decide +kernel) (by decide +kernel)), rfl, rfl, tyX12_ok, nmX12, fun _ => rfl, fun h => absurd h (by decide), fun h => absurd h (by decide), fun _ => rfl, fun h => absurd h (by decide), fun h => absurd h (by decide)⟩
theorem fdX12_213 : FOK 12 213 21 1 := ⟨TX12, 72, rfl, by decide, inX12, (wt5 98 (by decide +kernel) (by decide +kernel)), rfl, rfl, tyX12_ok, nmX12, fun _ => rfl, fun h => absurd h (by decide), fun _ => rfl, fun h => absurd h (by decide), fun h => absurd h (by decide), fun h => absurd h (by decide)⟩
theorem fdX12_216 : FOK 12 216 24 0 := ⟨TX12, 72, rfl, by decide, inX12, (wt5 101 (by decide +kernel) (by decide +kernel)), rfl, rfl, tyX12_ok, nmX12, fun _ => rfl, fun h => absurd h (by decide), fun h => absurd h (by decide), fun _ => rfl, fun h => absurd h (by decide), fun h => absurd h (by decide)⟩
theorem fdX12_219 : FOK 12 219 27 0 := ⟨TX12, 72, rfl, by decide, inX12, (wt5 104 (by decide +kernel) (by decide +kernel)), rfl, rfl, tyX12_ok, nmX12, fun _ => rfl, fun h => absurd h (by decide), fun h => absurd h (by decide), fun _ => rfl, fun h => absurd h (by decide), fun h => absurd h (by decide)⟩
theorem fdX12_222 : FOK 12 222 28 0 := ⟨TX12, 72, rfl, by decide, inX12, (wt5 105 (by decide +kernel) (by decide +kernel)), rfl, rfl, tyX12_ok, nmX12, fun _ => rfl, fun h => absurd h (by decide), fun h => absurd h (by decide), fun _ => rfl, fun h => absurd h (by decide), fun h => absurd h (by decide)⟩
theorem fdX12_237 : FOK 12 237 36 0 := ⟨TX12, 72, rfl, by decide, inX12, (wt5 113 (by decide +kernel) (by decide +kernel)), rfl, rfl, tyX12_ok, nmX12, fun _ => rfl, fun h => absurd h (by decide), fun h => absurd h (by decide), fun _ => rfl, fun h => absurd h (by decide), fun h => absurd h (by decide)⟩
theorem fdX12_278 : FOK 12 278 41 0 := ⟨TX12, 72, rfl, by decide, inX12, (wt5 118 (by decide +kernel) (by decide +kernel)), rfl, rfl, tyX12_ok, nmX12, fun _ => rfl, fun h => absurd h (by decide), fun h => absurd h (by decide), fun _ => rfl, fun h => absurd h (by decide), fun h => absurd h (by decide)⟩
theorem fdX12_281 : FOK 12 281 46 0 := ⟨TX12, 72, rfl, by decide, inX12, (wt5 123 (by decide +kernel) (by decide +kernel)), rfl, rfl, tyX12_ok, nmX12, fun _ => rfl, fun h => absurd h (by decide), fun h => absurd h (by decide), fun _ => rfl, fun h => absurd h (by decide), fun h => absurd h (by decide)⟩
theorem fdX12_284 : FOK 12 284 47 0 := ⟨TX12, 72, rfl, by decide, inX12, (wt5 124 (by decide +kernel) (by decide +kernel)), rfl, rfl, tyX12_ok, nmX12, fun _ => rfl, fun h => absurd h (by decide), fun h => absurd h (by decide), fun _ => rfl, fun h => absurd h (by decide), fun h => absurd h (by decide)⟩
theorem fdX12_287 : FOK 12 287 48 0 := ⟨TX12, 72, rfl, by decide, inX12, (wt5 125 (by decide +kernel) (by decide +kernel)), rfl, rfl, tyX12_ok, nmX12, fun _ => rfl, fun h => absurd h (by decide), fun h => absurd h (by decide), fun _ => rfl, fun h => absurd h (by decide), fun h => absurd h (by decide)⟩
theorem fdX12_290 : FOK 12 290 49 1 := ⟨TX12, 72, rfl, by decide, inX12, (wt5 126 (by decide +kernel) (by decide +kernel)), rfl, rfl, tyX12_ok, nmX12, fun _ => rfl, fun h => absurd h (by decide), fun _ => rfl, fun h => absurd h (by decide), fun h => absurd h (by decide), fun h => absurd h (by decide)⟩
theorem fdX12_303 : FOK 12 303 50 2 := ⟨TX12, 72, rfl, by decide, inX12, (wt5 127 (by decide +kernel) (by decide +kernel)), rfl, rfl, tyX12_ok, nmX12, fun _ => rfl, fun h => absurd h (by decide), fun h => absurd h (by decide), fun h => absurd h (by decide), fun _ => rfl, fun h => absurd h (by decide)⟩
theorem fdX12_307 : FOK 12 307 51 2 := ⟨TX12, 72, rfl, by decide, inX12, (wt5 128 (by decide +kernel) (by decide +kernel)), rfl, rfl, tyX12_ok, nmX12, fun _ => rfl, fun h => absurd h (by decide), fun h => absurd h (by decide), fun h => absurd h (by decide), fun _ => rfl, fun h => absurd h (by decide)⟩
theorem fdX12_316 : FOK 12 316 45 0 := ⟨TX12, 72, rfl, by decide, inX12, (wt5 122 (by decide +kernel) (by decide +kernel)), rfl, rfl, tyX12_ok, nmX12, fun _ => rfl, fun h => absurd h (by decide), fun h => absurd h (by decide), fun _ => rfl, fun h => absurd h (by decide), fun h => absurd h (by decide)⟩
theorem fdX12_326 : FOK 12 326 52 0 := ⟨TX12, 72, rfl, by decide, inX12, (wt5 129 (by decide +kernel) (by decide +kernel)), rfl, rfl, tyX12_ok, nmX12, fun _ => rfl, fun h => absurd h (by decide), fun h => absurd h (by decide), fun _ => rfl, fun h => absurd h (by decide), fun h => absurd h (by decide)⟩
theorem fdX12_338 : FOK 12 338 56 0 := ⟨TX12, 72, rfl, by decide, inX12, (wt5 133 (by decide +kernel) (by decide +kernel)), rfl, rfl, tyX12_ok, nmX12, fun _ => rfl, fun h => absurd h (by decide), fun h => absurd h (by decide), fun _ => rfl, fun h => absurd h (by decide), fun h => absurd h (by decide)⟩
theorem fdX12_341 : FOK 12 341 57 0 := ⟨TX12, 72, rfl, by decide, inX12, (wt5 134 (by decide +kernel) (by decide +kernel)), rfl, rfl, tyX12_ok, nmX12, fun _ => rfl, fun h => absurd h (by decide), fun h => absurd h (by decide), fun _ => rfl, fun h => absurd h (by decide), fun h => absurd h (by decide)⟩
theorem fdX12_357 : FOK 12 357 58 0 := ⟨TX12, 72, rfl, by decide, inX12, (wt5 135 (by decide +kernel) (by decide +kernel)), rfl, rfl, tyX12_ok, nmX12, fun _ => rfl, fun h => absurd h (by decide), fun h => absurd h (by decide), fun _ => rfl, fun h => absurd h (by decide), fun h => absurd h (by decide)⟩
theorem fdX12_360 : FOK 12 360 59 0 := ⟨TX12, 72, rfl, by decide, inX12, (wt5 136 (by decide +kernel) (by decide +kernel)), rfl, rfl, tyX12_ok, nmX12, fun _ => rfl, fun h => absurd h (by decide), fun h => absurd h (by decide), fun _ => rfl, fun h => absurd h (by decide), fun h => absurd h (by decide)⟩
theorem fdX12_363 : FOK 12 363 60 0 := ⟨TX12, 72, rfl, by decide, inX12, (wt5 137 (by decide +kernel) (by decide +kernel)), rfl, rfl, tyX12_ok, nmX12, fun _ => rfl, fun h => absurd h (by decide), fun h => absurd h (by decide), fun _ => rfl, fun h => absurd h (by decide), fun h => absurd h (by decide)⟩
theorem fdX12_366 : FOK 12 366 61 0 := ⟨TX12, 72, rfl, by decide, inX12, (wt5 138 (by decide +kernel) (by decide +kernel)), rfl, rfl, tyX12_ok, nmX12, fun _ => rfl, fun h => absurd h (by decide), fun h => absurd h (by decide), fun _ => rfl, fun h => absurd h (by decide), fun h => absurd h (by decide)⟩
theorem fdX12_392 : FOK 12 392 62 0 := ⟨TX12, 72, rfl, by decide, inX12, (wt5 139 (by decide +kernel) (by decide +kernel)), rfl, rfl, tyX12_ok, nmX12, fun _ => rfl, fun h => absurd h (by decide), fun h => absurd h (by decide), fun _ => rfl, fun h => absurd h (by decide), fun h => absurd h (by decide)⟩
theorem fdX12_395 : FOK 12 395 67 0 := ⟨TX12, 72, rfl, by decide, inX12, (wt5 144 (by decide +kernel) (by decide +kernel)), rfl, rfl, tyX12_ok, nmX12, fun _ => rfl, fun h => absurd h (by decide), fun h => absurd h (by decide), fun _ => rfl, fun h => absurd h (by decide), fun h => absurd h (by decide)⟩
theorem fdX12_398 : FOK 12 398 66 0 := ⟨TX12, 72, rfl, by decide, inX12, (wt5 143 (by decide +kernel) (by decide +kernel)), rfl, rfl, tyX12_ok, nmX12, fun _ => rfl, fun h => absurd h (by decide), fun h => absurd h (by decide), fun _ => rfl, fun h => absurd h (by decide), fun h => absurd h (by decide)⟩
theorem fdX12_401 : FOK 12 401 65 0 := ⟨TX12, 72, rfl, by decide, inX12, (wt5 142 (by decide +kernel) (by decide +kernel)), rfl, rfl, tyX12_ok, nmX12, fun _ => rfl, fun h => absurd h (by decide), fun h => absurd h (by decide), fun _ => rfl, fun h => absurd h (by decide), fun h => absurd h (by decide)⟩
theorem fdX12_404 : FOK 12 404 63 0 := ⟨TX12, 72, rfl, by decide, inX12, (wt5 140 (by decide +kernel) (by decide +kernel)), rfl, rfl, tyX12_ok, nmX12, fun _ => rfl, fun h => absurd h (by decide), fun h => absurd h (by decide), fun _ => rfl, fun h => absurd h (by decide), fun h => absurd h (by decide)⟩
theorem fdX12_407 : FOK 12 407 64 0 := ⟨TX12, 72, rfl, by decide, inX12, (wt5 141 (by decide +kernel) (by decide +kernel)), rfl, rfl, tyX12_ok, nmX12, fun _ => rfl, fun h => absurd h (by decide), fun h => absurd h (by decide), fun _ => rfl, fun h => absurd h (by decide), fun h => absurd h (by decide)⟩
theorem fdX12_427 : FOK 12 427 68 0 := ⟨TX12, 72, rfl, by decide, inX12, (wt5 145 (by decide +kernel) (by decide +kernel)), rfl, rfl, tyX12_ok, nmX12, fun _ => rfl, fun h => absurd h (by decide), fun h => absurd h (by decide), fun _ => rfl, fun h => absurd h (by decide), fun h => absurd h (by decide)⟩
theorem fdX12_461 : FOK 12 461 71 2 := ⟨TX12, 72, rfl, by decide, inX12, (wt5 148 (by decide +kernel) (by decide +kernel)), rfl, rfl, tyX12_ok, nmX12, fun _ => rfl, fun h => absurd h (by decide), fun h => absurd h (by decide), fun h => absurd h (by decide), fun _ => rfl, fun h => absurd h (by decide)⟩
theorem okF12 : ∀ e ∈ entF12, FOK 12 e.1 e.2.1 e.2.2 := by
  intro e he
  simp only [entF12, List.mem_cons, List.not_mem_nil, or_false] at he
  rcases he with rfl | rfl | rfl | rfl | rfl | rfl | rfl | rfl | rfl | rfl | rfl | rfl | rfl | rfl | rfl | rfl | rfl | rfl | rfl | rfl | rfl | rfl | rfl | rfl | rfl | rfl | rfl | rfl | rfl | rfl | rfl | rfl | rfl | rfl | rfl | rfl | rfl | rfl | rfl | rfl | rfl | rfl | rfl | rfl | rfl | rfl | rfl | rfl | rfl | rfl | rfl | rfl | rfl | rfl | rfl | rfl | rfl | rfl | rfl | rfl | rfl | rfl | rfl | rfl | rfl | rfl | rfl | rfl | rfl | rfl | rfl
  · exact fdX12_7
  · exact fdX12_13
  · exact fdX12_16
  · exact fdX12_19
  · exact fdX12_22
  · exact fdX12_25
  · exact fdX12_28
  · exact fdX12_31
  · exact fdX12_34
  · exact fdX12_37
  · exact fdX12_40
  · exact fdX12_43
  · exact fdX12_46
  · exact fdX12_49
  · exact fdX12_52
  · exact fdX12_55
  · exact fdX12_58
  · exact fdX12_61
  · exact fdX12_65
  · exact fdX12_69
  · exact fdX12_72
  · exact fdX12_75
  · exact fdX12_78
  · exact fdX12_81
  · exact fdX12_84
  · exact fdX12_87
  · exact fdX12_90
  · exact fdX12_93
  · exact fdX12_96
  · exact fdX12_99
  · exact fdX12_102
  · exact fdX12_105
  · exact fdX12_108
  · exact fdX12_142
  · exact fdX12_146
  · exact fdX12_149
  · exact fdX12_164
  · exact fdX12_171
  · exact fdX12_174
  · exact fdX12_178
  · exact fdX12_181
  · exact fdX12_184
  · exact fdX12_203
  · exact fdX12_213
  · exact fdX12_216
  · exact fdX12_219
  · exact fdX12_222
  · exact fdX12_237
  · exact fdX12_278
  · exact fdX12_281
  · exact fdX12_284
  · exact fdX12_287
  · exact fdX12_290
  · exact fdX12_303
  · exact fdX12_307
  · exact fdX12_316
  · exact fdX12_326
  · exact fdX12_338
  · exact fdX12_341
  · exact fdX12_357
  · exact fdX12_360
  · exact fdX12_363
  · exact fdX12_366
  · exact fdX12_392
  · exact fdX12_395
  · exact fdX12_398
  · exact fdX12_401
  · exact fdX12_404
  · exact fdX12_407
  · exact fdX12_427
  · exact fdX12_461
def entF (k : Nat) : List (Nat × Nat × Nat) := match k with
  | 0 => entF0
  | 1 => entF1
  | 2 => entF2
  | 3 => entF3
  | 4 => entF4
  | 5 => entF5
  | 6 => entF6
  | 7 => entF7
  | 8 => entF8
  | 9 => entF9
  | 10 => entF10
  | 11 => entF11
  | 12 => entF12
  | _ => []
def cpF (k i : Nat) : Option (Nat × Nat) := lkf i (entF k)
theorem cpF_ok {k i s tc : Nat} (h : cpF k i = some (s, tc)) : FOK k i s tc := by
  have h1 := lkf_mem h
  match k, h1 with
  | 0, h1 => exact okF0 _ h1
  | 1, h1 => exact okF1 _ h1
  | 2, h1 => exact okF2 _ h1
  | 3, h1 => exact okF3 _ h1
  | 4, h1 => exact okF4 _ h1
  | 5, h1 => exact okF5 _ h1
  | 6, h1 => exact okF6 _ h1
  | 7, h1 => exact okF7 _ h1
  | 8, h1 => exact okF8 _ h1
  | 9, h1 => exact okF9 _ h1
  | 10, h1 => exact okF10 _ h1
  | 11, h1 => exact okF11 _ h1
  | 12, h1 => exact okF12 _ h1
  | n + 13, h1 => exact absurd h1 List.not_mem_nil
def entL5 : List (Nat × Int64) := [(23, 255)]
theorem okL5 : ∀ e ∈ entL5, Cond.constantLong (cnm 5) e.1 e.2 ∈ TW := by
  intro e he
  simp only [entL5, List.mem_cons, List.not_mem_nil, or_false] at he
  subst he
  exact (wt2 183 (by decide +kernel) (by decide +kernel))
def entL6 : List (Nat × Int64) := [(15, 9999999999999999), (17, 100)]
theorem okL6 : ∀ e ∈ entL6, Cond.constantLong (cnm 6) e.1 e.2 ∈ TW := by
  intro e he
  simp only [entL6, List.mem_cons, List.not_mem_nil, or_false] at he
  rcases he with rfl | rfl
  · exact (wt3 136 (by decide +kernel) (by decide +kernel))
  · exact (wt3 137 (by decide +kernel) (by decide +kernel))
def entL8 : List (Nat × Int64) := [(19, -1), (99, 100)]
theorem okL8 : ∀ e ∈ entL8, Cond.constantLong (cnm 8) e.1 e.2 ∈ TW := by
  intro e he
  simp only [entL8, List.mem_cons, List.not_mem_nil, or_false] at he
  rcases he with rfl | rfl
  · exact (wt1 152 (by decide +kernel) (by decide +kernel))
  · exact (wt3 232 (by decide +kernel) (by decide +kernel))
def entL10 : List (Nat × Int64) := [(60, 2)]
theorem okL10 : ∀ e ∈ entL10, Cond.constantLong (cnm 10) e.1 e.2 ∈ TW := by
  intro e he
  simp only [entL10, List.mem_cons, List.not_mem_nil, or_false] at he
  subst he
  exact (wt3 90 (by decide +kernel) (by decide +kernel))
def entL11 : List (Nat × Int64) := [(190, -2), (294, 307), (324, 31)]
theorem okL11 : ∀ e ∈ entL11, Cond.constantLong (cnm 11) e.1 e.2 ∈ TW := by
  intro e he
  simp only [entL11, List.mem_cons, List.not_mem_nil, or_false] at he
  rcases he with rfl | rfl | rfl
  · exact (wt4 16 (by decide +kernel) (by decide +kernel))
  · exact (wt5 43 (by decide +kernel) (by decide +kernel))
  · exact (wt5 51 (by decide +kernel) (by decide +kernel))
def entL12 : List (Nat × Int64) := [(111, 7), (121, 3), (123, 4), (125, 20), (127, 99), (140, 255), (160, 97), (162, 104), (167, 48), (169, 57), (243, 100), (256, 2), (314, 2000), (322, -2), (324, -1), (413, 5), (421, 9), (446, 10), (448, 17), (459, 31), (468, 307)]
theorem okL12 : ∀ e ∈ entL12, Cond.constantLong (cnm 12) e.1 e.2 ∈ TW := by
  intro e he
  simp only [entL12, List.mem_cons, List.not_mem_nil, or_false] at he
  rcases he with rfl | rfl | rfl | rfl | rfl | rfl | rfl | rfl | rfl | rfl | rfl | rfl | rfl | rfl | rfl | rfl | rfl | rfl | rfl | rfl | rfl
  · exact (wt6 61 (by decide +kernel) (by decide +kernel))
  · exact (wt6 65 (by decide +kernel) (by decide +kernel))
  · exact (wt6 66 (by decide +kernel) (by decide +kernel))
  · exact (wt6 67 (by decide +kernel) (by decide +kernel))
  · exact (wt6 68 (by decide +kernel) (by decide +kernel))
  · exact (wt6 93 (by decide +kernel) (by decide +kernel))
  · exact (wt6 118 (by decide +kernel) (by decide +kernel))
  · exact (wt6 119 (by decide +kernel) (by decide +kernel))
  · exact (wt6 124 (by decide +kernel) (by decide +kernel))
  · exact (wt6 125 (by decide +kernel) (by decide +kernel))
  · exact (wt6 162 (by decide +kernel) (by decide +kernel))
  · exact (wt6 163 (by decide +kernel) (by decide +kernel))
  · exact (wt6 194 (by decide +kernel) (by decide +kernel))
  · exact (wt7 1 (by decide +kernel) (by decide +kernel))
  · exact (wt7 2 (by decide +kernel) (by decide +kernel))
  · exact (wt7 78 (by decide +kernel) (by decide +kernel))
  · exact (wt7 91 (by decide +kernel) (by decide +kernel))
  · exact (wt7 118 (by decide +kernel) (by decide +kernel))
  · exact (wt7 119 (by decide +kernel) (by decide +kernel))
  · exact (wt7 156 (by decide +kernel) (by decide +kernel))
  · exact (wt7 151 (by decide +kernel) (by decide +kernel))
def entL15 : List (Nat × Int64) := [(27, 4294967295)]
theorem okL15 : ∀ e ∈ entL15, Cond.constantLong (cnm 15) e.1 e.2 ∈ TW := by
  intro e he
  simp only [entL15, List.mem_cons, List.not_mem_nil, or_false] at he
  subst he
  exact (wt7 161 (by decide +kernel) (by decide +kernel))
def entL (k : Nat) : List (Nat × Int64) := match k with
  | 5 => entL5
  | 6 => entL6
  | 8 => entL8
  | 10 => entL10
  | 11 => entL11
  | 12 => entL12
  | 15 => entL15
  | _ => []
def cpL (k i : Nat) : Option Int64 := lkf i (entL k)
theorem cpL_ok {k i : Nat} {z : Int64} (h : cpL k i = some z) : Cond.constantLong (cnm k) i z ∈ TW := by
  have h1 := lkf_mem h
  unfold entL at h1
  split at h1
  · exact okL5 _ h1
  · exact okL6 _ h1
  · exact okL8 _ h1
  · exact okL10 _ h1
  · exact okL11 _ h1
  · exact okL12 _ h1
  · exact okL15 _ h1
  · exact absurd h1 List.not_mem_nil
def entY0 : List (Nat × MethodName) := [(3, objectInit), (30, yX0_weighOthers), (34, yX0_met), (38, yJ6_bitCount_0f7a4), (44, yJ9_max_7cf53), (50, yX0_isSameShare), (54, yX11_bit)]
theorem lkX0_3 : LK 0 3 objectInit := Or.inl (wt2 50 (by decide +kernel) (by decide +kernel))
theorem lkX0_30 : LK 0 30 yX0_weighOthers := Or.inl (wt4 161 (by decide +kernel) (by decide +kernel))
theorem lkX0_34 : LK 0 34 yX0_met := Or.inl (wt4 165 (by decide +kernel) (by decide +kernel))
theorem lkX0_38 : LK 0 38 yJ6_bitCount_0f7a4 := Or.inl (wt4 173 (by decide +kernel) (by decide +kernel))
theorem lkX0_44 : LK 0 44 yJ9_max_7cf53 := Or.inl (wt4 179 (by decide +kernel) (by decide +kernel))
theorem lkX0_50 : LK 0 50 yX0_isSameShare := Or.inl (wt4 169 (by decide +kernel) (by decide +kernel))
theorem lkX0_54 : LK 0 54 yX11_bit := Or.inr ⟨"AlikeUnlike", List.mem_of_getElem? (i := 28) (by decide +kernel)⟩
theorem okY0 : ∀ e ∈ entY0, LK 0 e.1 e.2 := by
  intro e he
  simp only [entY0, List.mem_cons, List.not_mem_nil, or_false] at he
  rcases he with rfl | rfl | rfl | rfl | rfl | rfl | rfl
  · exact lkX0_3
  · exact lkX0_30
  · exact lkX0_34
  · exact lkX0_38
  · exact lkX0_44
  · exact lkX0_50
  · exact lkX0_54
def entY1 : List (Nat × MethodName) := [(3, objectInit), (30, yX6_init), (35, yX6_copy), (39, yX10_walk), (45, yX1_isRowHere), (49, yX6_number), (53, yX6_isWhole), (57, yX6_told), (61, yX11_fold), (65, yX1_number), (68, yX1_isAs), (72, yX11_bit), (76, yX1_ended), (79, yX1_members), (83, yJ9_abs_0f7a4), (88, yX1_gapAbove), (92, yX11_choose), (102, yX3_counts), (107, yX1_tally), (111, yX3_told), (113, yX1_lookAlong), (123, yJ9_max_7cf53), (126, yX1_keepIfGreater), (143, yX11_lowest)]
theorem lkX1_3 : LK 1 3 objectInit := Or.inl (wt1 187 (by decide +kernel) (by decide +kernel))
theorem lkX1_30 : LK 1 30 yX6_init := Or.inr ⟨"AlikeUnlike", List.mem_of_getElem? (i := 6) (by decide +kernel)⟩
theorem lkX1_35 : LK 1 35 yX6_copy := Or.inl (wt4 43 (by decide +kernel) (by decide +kernel))
theorem lkX1_39 : LK 1 39 yX10_walk := Or.inl (wt3 60 (by decide +kernel) (by decide +kernel))
theorem lkX1_45 : LK 1 45 yX1_isRowHere := Or.inl (wt4 60 (by decide +kernel) (by decide +kernel))
theorem lkX1_49 : LK 1 49 yX6_number := Or.inl (wt4 76 (by decide +kernel) (by decide +kernel))
theorem lkX1_53 : LK 1 53 yX6_isWhole := Or.inl (wt4 239 (by decide +kernel) (by decide +kernel))
theorem lkX1_57 : LK 1 57 yX6_told := Or.inl (wt5 56 (by decide +kernel) (by decide +kernel))
theorem lkX1_61 : LK 1 61 yX11_fold := Or.inr ⟨"AlikeUnlike", List.mem_of_getElem? (i := 31) (by decide +kernel)⟩
theorem lkX1_65 : LK 1 65 yX1_number := Or.inl (wt4 72 (by decide +kernel) (by decide +kernel))
theorem lkX1_68 : LK 1 68 yX1_isAs := Or.inl (wt4 77 (by decide +kernel) (by decide +kernel))
theorem lkX1_72 : LK 1 72 yX11_bit := Or.inr ⟨"AlikeUnlike", List.mem_of_getElem? (i := 25) (by decide +kernel)⟩
theorem lkX1_76 : LK 1 76 yX1_ended := Or.inl (wt4 81 (by decide +kernel) (by decide +kernel))
theorem lkX1_79 : LK 1 79 yX1_members := Or.inl (wt4 95 (by decide +kernel) (by decide +kernel))
theorem lkX1_83 : LK 1 83 yJ9_abs_0f7a4 := Or.inl (wt4 100 (by decide +kernel) (by decide +kernel))
theorem lkX1_88 : LK 1 88 yX1_gapAbove := Or.inl (wt4 117 (by decide +kernel) (by decide +kernel))
theorem lkX1_92 : LK 1 92 yX11_choose := Or.inr ⟨"AlikeUnlike", List.mem_of_getElem? (i := 26) (by decide +kernel)⟩
theorem lkX1_102 : LK 1 102 yX3_counts := Or.inl (wt4 130 (by decide +kernel) (by decide +kernel))
theorem lkX1_107 : LK 1 107 yX1_tally := Or.inl (wt4 131 (by decide +kernel) (by decide +kernel))
theorem lkX1_111 : LK 1 111 yX3_told := Or.inl (wt4 135 (by decide +kernel) (by decide +kernel))
theorem lkX1_113 : LK 1 113 yX1_lookAlong := Or.inl (wt4 136 (by decide +kernel) (by decide +kernel))
theorem lkX1_123 : LK 1 123 yJ9_max_7cf53 := Or.inl (wt4 140 (by decide +kernel) (by decide +kernel))
theorem lkX1_126 : LK 1 126 yX1_keepIfGreater := Or.inl (wt4 141 (by decide +kernel) (by decide +kernel))
theorem lkX1_143 : LK 1 143 yX11_lowest := Or.inr ⟨"AlikeUnlike", List.mem_of_getElem? (i := 27) (by decide +kernel)⟩
theorem okY1 : ∀ e ∈ entY1, LK 1 e.1 e.2 := by
  intro e he
  simp only [entY1, List.mem_cons, List.not_mem_nil, or_false] at he
  rcases he with rfl | rfl | rfl | rfl | rfl | rfl | rfl | rfl | rfl | rfl | rfl | rfl | rfl | rfl | rfl | rfl | rfl | rfl | rfl | rfl | rfl | rfl | rfl | rfl
  · exact lkX1_3
  · exact lkX1_30
  · exact lkX1_35
  · exact lkX1_39
  · exact lkX1_45
  · exact lkX1_49
  · exact lkX1_53
  · exact lkX1_57
  · exact lkX1_61
  · exact lkX1_65
  · exact lkX1_68
  · exact lkX1_72
  · exact lkX1_76
  · exact lkX1_79
  · exact lkX1_83
  · exact lkX1_88
  · exact lkX1_92
  · exact lkX1_102
  · exact lkX1_107
  · exact lkX1_111
  · exact lkX1_113
  · exact lkX1_123
  · exact lkX1_126
  · exact lkX1_143
def entY2 : List (Nat × MethodName) := [(3, objectInit), (11, yX6_init), (25, yX2_goThrough), (29, yX6_number), (33, yX10_walk), (39, yX3_keepsLaws), (45, yX6_copy), (49, yX3_changes), (53, yX3_told), (57, yX3_isInSpan), (61, yX6_put), (65, yJ9_abs_0f7a4)]
theorem lkX2_3 : LK 2 3 objectInit := Or.inl (wt2 32 (by decide +kernel) (by decide +kernel))
theorem lkX2_11 : LK 2 11 yX6_init := Or.inr ⟨"AlikeUnlike", List.mem_of_getElem? (i := 9) (by decide +kernel)⟩
theorem lkX2_25 : LK 2 25 yX2_goThrough := Or.inl (wt5 8 (by decide +kernel) (by decide +kernel))
theorem lkX2_29 : LK 2 29 yX6_number := Or.inl (wt5 15 (by decide +kernel) (by decide +kernel))
theorem lkX2_33 : LK 2 33 yX10_walk := Or.inl (wt5 12 (by decide +kernel) (by decide +kernel))
theorem lkX2_39 : LK 2 39 yX3_keepsLaws := Or.inl (wt5 13 (by decide +kernel) (by decide +kernel))
theorem lkX2_45 : LK 2 45 yX6_copy := Or.inl (wt5 14 (by decide +kernel) (by decide +kernel))
theorem lkX2_49 : LK 2 49 yX3_changes := Or.inl (wt5 16 (by decide +kernel) (by decide +kernel))
theorem lkX2_53 : LK 2 53 yX3_told := Or.inl (wt5 17 (by decide +kernel) (by decide +kernel))
theorem lkX2_57 : LK 2 57 yX3_isInSpan := Or.inl (wt5 18 (by decide +kernel) (by decide +kernel))
theorem lkX2_61 : LK 2 61 yX6_put := Or.inl (wt5 19 (by decide +kernel) (by decide +kernel))
theorem lkX2_65 : LK 2 65 yJ9_abs_0f7a4 := Or.inl (wt5 23 (by decide +kernel) (by decide +kernel))
theorem okY2 : ∀ e ∈ entY2, LK 2 e.1 e.2 := by
  intro e he
  simp only [entY2, List.mem_cons, List.not_mem_nil, or_false] at he
  rcases he with rfl | rfl | rfl | rfl | rfl | rfl | rfl | rfl | rfl | rfl | rfl | rfl
  · exact lkX2_3
  · exact lkX2_11
  · exact lkX2_25
  · exact lkX2_29
  · exact lkX2_33
  · exact lkX2_39
  · exact lkX2_45
  · exact lkX2_49
  · exact lkX2_53
  · exact lkX2_57
  · exact lkX2_61
  · exact lkX2_65
def entY3 : List (Nat × MethodName) := [(3, objectInit), (21, yX7_init), (22, yX11_isField), (26, yX3_told), (29, yX3_changes), (32, yX3_otherMays), (36, yX11_bit), (40, yX3_isOfKind), (48, yX7_write), (52, yX6_number), (57, yX3_isInSpan), (60, yX10_walk), (66, yX9_endsOver), (72, yX9_wasNever), (76, yX11_fold)]
theorem lkX3_3 : LK 3 3 objectInit := Or.inl (wt1 30 (by decide +kernel) (by decide +kernel))
theorem lkX3_21 : LK 3 21 yX7_init := Or.inr ⟨"AlikeUnlike", List.mem_of_getElem? (i := 0) (by decide +kernel)⟩
theorem lkX3_22 : LK 3 22 yX11_isField := Or.inr ⟨"AlikeUnlike", List.mem_of_getElem? (i := 12) (by decide +kernel)⟩
theorem lkX3_26 : LK 3 26 yX3_told := Or.inl (wt2 129 (by decide +kernel) (by decide +kernel))
theorem lkX3_29 : LK 3 29 yX3_changes := Or.inl (wt2 138 (by decide +kernel) (by decide +kernel))
theorem lkX3_32 : LK 3 32 yX3_otherMays := Or.inl (wt2 142 (by decide +kernel) (by decide +kernel))
theorem lkX3_36 : LK 3 36 yX11_bit := Or.inr ⟨"AlikeUnlike", List.mem_of_getElem? (i := 13) (by decide +kernel)⟩
theorem lkX3_40 : LK 3 40 yX3_isOfKind := Or.inl (wt2 170 (by decide +kernel) (by decide +kernel))
theorem lkX3_48 : LK 3 48 yX7_write := Or.inl (wt3 119 (by decide +kernel) (by decide +kernel))
theorem lkX3_52 : LK 3 52 yX6_number := Or.inl (wt3 150 (by decide +kernel) (by decide +kernel))
theorem lkX3_57 : LK 3 57 yX3_isInSpan := Or.inl (wt3 151 (by decide +kernel) (by decide +kernel))
theorem lkX3_60 : LK 3 60 yX10_walk := Or.inl (wt3 159 (by decide +kernel) (by decide +kernel))
theorem lkX3_66 : LK 3 66 yX9_endsOver := Or.inl (wt3 196 (by decide +kernel) (by decide +kernel))
theorem lkX3_72 : LK 3 72 yX9_wasNever := Or.inl (wt3 223 (by decide +kernel) (by decide +kernel))
theorem lkX3_76 : LK 3 76 yX11_fold := Or.inr ⟨"AlikeUnlike", List.mem_of_getElem? (i := 30) (by decide +kernel)⟩
theorem okY3 : ∀ e ∈ entY3, LK 3 e.1 e.2 := by
  intro e he
  simp only [entY3, List.mem_cons, List.not_mem_nil, or_false] at he
  rcases he with rfl | rfl | rfl | rfl | rfl | rfl | rfl | rfl | rfl | rfl | rfl | rfl | rfl | rfl | rfl
  · exact lkX3_3
  · exact lkX3_21
  · exact lkX3_22
  · exact lkX3_26
  · exact lkX3_29
  · exact lkX3_32
  · exact lkX3_36
  · exact lkX3_40
  · exact lkX3_48
  · exact lkX3_52
  · exact lkX3_57
  · exact lkX3_60
  · exact lkX3_66
  · exact lkX3_72
  · exact lkX3_76
def entY4 : List (Nat × MethodName) := [(3, objectInit), (19, yX4_gather), (26, yX4_isEven), (30, yX4_keep), (37, yX7_numbers), (43, yX4_tryNumber), (53, yX1_size), (57, yX1_number), (61, yX7_number), (64, yX7_putNumber), (68, yJ9_abs_0f7a4), (73, yX1_person), (77, yX10_walk), (83, yX11_bit)]
theorem lkX4_3 : LK 4 3 objectInit := Or.inl (wt2 7 (by decide +kernel) (by decide +kernel))
theorem lkX4_19 : LK 4 19 yX4_gather := Or.inl (wt4 192 (by decide +kernel) (by decide +kernel))
theorem lkX4_26 : LK 4 26 yX4_isEven := Or.inl (wt4 198 (by decide +kernel) (by decide +kernel))
theorem lkX4_30 : LK 4 30 yX4_keep := Or.inl (wt4 208 (by decide +kernel) (by decide +kernel))
theorem lkX4_37 : LK 4 37 yX7_numbers := Or.inl (wt4 212 (by decide +kernel) (by decide +kernel))
theorem lkX4_43 : LK 4 43 yX4_tryNumber := Or.inl (wt4 216 (by decide +kernel) (by decide +kernel))
theorem lkX4_53 : LK 4 53 yX1_size := Or.inl (wt4 196 (by decide +kernel) (by decide +kernel))
theorem lkX4_57 : LK 4 57 yX1_number := Or.inl (wt4 197 (by decide +kernel) (by decide +kernel))
theorem lkX4_61 : LK 4 61 yX7_number := Or.inl (wt4 220 (by decide +kernel) (by decide +kernel))
theorem lkX4_64 : LK 4 64 yX7_putNumber := Or.inl (wt4 221 (by decide +kernel) (by decide +kernel))
theorem lkX4_68 : LK 4 68 yJ9_abs_0f7a4 := Or.inl (wt4 222 (by decide +kernel) (by decide +kernel))
theorem lkX4_73 : LK 4 73 yX1_person := Or.inl (wt4 202 (by decide +kernel) (by decide +kernel))
theorem lkX4_77 : LK 4 77 yX10_walk := Or.inl (wt4 206 (by decide +kernel) (by decide +kernel))
theorem lkX4_83 : LK 4 83 yX11_bit := Or.inr ⟨"AlikeUnlike", List.mem_of_getElem? (i := 29) (by decide +kernel)⟩
theorem okY4 : ∀ e ∈ entY4, LK 4 e.1 e.2 := by
  intro e he
  simp only [entY4, List.mem_cons, List.not_mem_nil, or_false] at he
  rcases he with rfl | rfl | rfl | rfl | rfl | rfl | rfl | rfl | rfl | rfl | rfl | rfl | rfl | rfl
  · exact lkX4_3
  · exact lkX4_19
  · exact lkX4_26
  · exact lkX4_30
  · exact lkX4_37
  · exact lkX4_43
  · exact lkX4_53
  · exact lkX4_57
  · exact lkX4_61
  · exact lkX4_64
  · exact lkX4_68
  · exact lkX4_73
  · exact lkX4_77
  · exact lkX4_83
def entY5 : List (Nat × MethodName) := [(3, objectInit), (15, yX5_letterOf), (19, yX11_bit), (29, yX11_fold), (33, yX5_firstFault), (59, yX5_takes), (63, yX5_takesFactor), (66, yX5_takesUnit), (69, yX11_isDigit), (72, yX5_goesOn), (75, yX5_takesBehindUnit), (78, yX5_takesBehindFactor), (81, yX11_isFieldLetter), (84, yX11_isComparison)]
theorem lkX5_3 : LK 5 3 objectInit := Or.inl (wt1 79 (by decide +kernel) (by decide +kernel))
theorem lkX5_15 : LK 5 15 yX5_letterOf := Or.inl (wt2 180 (by decide +kernel) (by decide +kernel))
theorem lkX5_19 : LK 5 19 yX11_bit := Or.inr ⟨"AlikeUnlike", List.mem_of_getElem? (i := 14) (by decide +kernel)⟩
theorem lkX5_29 : LK 5 29 yX11_fold := Or.inr ⟨"AlikeUnlike", List.mem_of_getElem? (i := 32) (by decide +kernel)⟩
theorem lkX5_33 : LK 5 33 yX5_firstFault := Or.inl (wt3 10 (by decide +kernel) (by decide +kernel))
theorem lkX5_59 : LK 5 59 yX5_takes := Or.inl (wt2 209 (by decide +kernel) (by decide +kernel))
theorem lkX5_63 : LK 5 63 yX5_takesFactor := Or.inl (wt2 213 (by decide +kernel) (by decide +kernel))
theorem lkX5_66 : LK 5 66 yX5_takesUnit := Or.inl (wt2 221 (by decide +kernel) (by decide +kernel))
theorem lkX5_69 : LK 5 69 yX11_isDigit := Or.inr ⟨"AlikeUnlike", List.mem_of_getElem? (i := 15) (by decide +kernel)⟩
theorem lkX5_72 : LK 5 72 yX5_goesOn := Or.inl (wt2 217 (by decide +kernel) (by decide +kernel))
theorem lkX5_75 : LK 5 75 yX5_takesBehindUnit := Or.inl (wt2 231 (by decide +kernel) (by decide +kernel))
theorem lkX5_78 : LK 5 78 yX5_takesBehindFactor := Or.inl (wt2 235 (by decide +kernel) (by decide +kernel))
theorem lkX5_81 : LK 5 81 yX11_isFieldLetter := Or.inr ⟨"AlikeUnlike", List.mem_of_getElem? (i := 16) (by decide +kernel)⟩
theorem lkX5_84 : LK 5 84 yX11_isComparison := Or.inr ⟨"AlikeUnlike", List.mem_of_getElem? (i := 17) (by decide +kernel)⟩
theorem okY5 : ∀ e ∈ entY5, LK 5 e.1 e.2 := by
  intro e he
  simp only [entY5, List.mem_cons, List.not_mem_nil, or_false] at he
  rcases he with rfl | rfl | rfl | rfl | rfl | rfl | rfl | rfl | rfl | rfl | rfl | rfl | rfl | rfl
  · exact lkX5_3
  · exact lkX5_15
  · exact lkX5_19
  · exact lkX5_29
  · exact lkX5_33
  · exact lkX5_59
  · exact lkX5_63
  · exact lkX5_66
  · exact lkX5_69
  · exact lkX5_72
  · exact lkX5_75
  · exact lkX5_78
  · exact lkX5_81
  · exact lkX5_84
def entY6 : List (Nat × MethodName) := [(3, objectInit), (19, yX11_isField), (23, yX6_number)]
theorem lkX6_3 : LK 6 3 objectInit := Or.inl (wt1 194 (by decide +kernel) (by decide +kernel))
theorem lkX6_19 : LK 6 19 yX11_isField := Or.inr ⟨"AlikeUnlike", List.mem_of_getElem? (i := 20) (by decide +kernel)⟩
theorem lkX6_23 : LK 6 23 yX6_number := Or.inl (wt4 47 (by decide +kernel) (by decide +kernel))
theorem okY6 : ∀ e ∈ entY6, LK 6 e.1 e.2 := by
  intro e he
  simp only [entY6, List.mem_cons, List.not_mem_nil, or_false] at he
  rcases he with rfl | rfl | rfl
  · exact lkX6_3
  · exact lkX6_19
  · exact lkX6_23
def entY7 : List (Nat × MethodName) := [(3, objectInit), (37, yX5_size), (42, yX5_letter), (46, yX7_take), (50, yX7_release), (54, yX11_isDigit), (58, yX7_takeDigit), (61, yX11_isFieldLetter), (64, yX7_add), (67, yX7_hold), (70, yJ9_max_7cf53), (76, yX7_rank), (79, yX7_number), (82, yX7_putNumber)]
theorem lkX7_3 : LK 7 3 objectInit := Or.inl (wt1 37 (by decide +kernel) (by decide +kernel))
theorem lkX7_37 : LK 7 37 yX5_size := Or.inl (wt3 15 (by decide +kernel) (by decide +kernel))
theorem lkX7_42 : LK 7 42 yX5_letter := Or.inl (wt3 16 (by decide +kernel) (by decide +kernel))
theorem lkX7_46 : LK 7 46 yX7_take := Or.inl (wt3 20 (by decide +kernel) (by decide +kernel))
theorem lkX7_50 : LK 7 50 yX7_release := Or.inl (wt3 46 (by decide +kernel) (by decide +kernel))
theorem lkX7_54 : LK 7 54 yX11_isDigit := Or.inr ⟨"AlikeUnlike", List.mem_of_getElem? (i := 18) (by decide +kernel)⟩
theorem lkX7_58 : LK 7 58 yX7_takeDigit := Or.inl (wt3 25 (by decide +kernel) (by decide +kernel))
theorem lkX7_61 : LK 7 61 yX11_isFieldLetter := Or.inr ⟨"AlikeUnlike", List.mem_of_getElem? (i := 19) (by decide +kernel)⟩
theorem lkX7_64 : LK 7 64 yX7_add := Or.inl (wt3 29 (by decide +kernel) (by decide +kernel))
theorem lkX7_67 : LK 7 67 yX7_hold := Or.inl (wt3 42 (by decide +kernel) (by decide +kernel))
theorem lkX7_70 : LK 7 70 yJ9_max_7cf53 := Or.inl (wt3 53 (by decide +kernel) (by decide +kernel))
theorem lkX7_76 : LK 7 76 yX7_rank := Or.inl (wt3 50 (by decide +kernel) (by decide +kernel))
theorem lkX7_79 : LK 7 79 yX7_number := Or.inl (wt3 33 (by decide +kernel) (by decide +kernel))
theorem lkX7_82 : LK 7 82 yX7_putNumber := Or.inl (wt3 37 (by decide +kernel) (by decide +kernel))
theorem okY7 : ∀ e ∈ entY7, LK 7 e.1 e.2 := by
  intro e he
  simp only [entY7, List.mem_cons, List.not_mem_nil, or_false] at he
  rcases he with rfl | rfl | rfl | rfl | rfl | rfl | rfl | rfl | rfl | rfl | rfl | rfl | rfl | rfl
  · exact lkX7_3
  · exact lkX7_37
  · exact lkX7_42
  · exact lkX7_46
  · exact lkX7_50
  · exact lkX7_54
  · exact lkX7_58
  · exact lkX7_61
  · exact lkX7_64
  · exact lkX7_67
  · exact lkX7_70
  · exact lkX7_76
  · exact lkX7_79
  · exact lkX7_82
def entY8 : List (Nat × MethodName) := [(5, objectInit), (28, yX8_begin), (39, yX8_widestOf), (43, yX8_isSettled), (50, yX8_pointOf), (54, yX8_cut), (64, yX3_counts), (70, yX3_told), (74, yX8_hasNoMore), (77, yX3_barsBox), (81, yX9_endsOver), (87, yX11_isField), (90, arraycopyName), (96, yX8_halve)]
theorem lkX8_5 : LK 8 5 objectInit := Or.inl (wt1 151 (by decide +kernel) (by decide +kernel))
theorem lkX8_28 : LK 8 28 yX8_begin := Or.inl (wt3 173 (by decide +kernel) (by decide +kernel))
theorem lkX8_39 : LK 8 39 yX8_widestOf := Or.inl (wt3 179 (by decide +kernel) (by decide +kernel))
theorem lkX8_43 : LK 8 43 yX8_isSettled := Or.inl (wt3 183 (by decide +kernel) (by decide +kernel))
theorem lkX8_50 : LK 8 50 yX8_pointOf := Or.inl (wt3 228 (by decide +kernel) (by decide +kernel))
theorem lkX8_54 : LK 8 54 yX8_cut := Or.inl (wt3 233 (by decide +kernel) (by decide +kernel))
theorem lkX8_64 : LK 8 64 yX3_counts := Or.inl (wt3 177 (by decide +kernel) (by decide +kernel))
theorem lkX8_70 : LK 8 70 yX3_told := Or.inl (wt3 178 (by decide +kernel) (by decide +kernel))
theorem lkX8_74 : LK 8 74 yX8_hasNoMore := Or.inl (wt3 187 (by decide +kernel) (by decide +kernel))
theorem lkX8_77 : LK 8 77 yX3_barsBox := Or.inl (wt3 192 (by decide +kernel) (by decide +kernel))
theorem lkX8_81 : LK 8 81 yX9_endsOver := Or.inl (wt3 227 (by decide +kernel) (by decide +kernel))
theorem lkX8_87 : LK 8 87 yX11_isField := Or.inr ⟨"AlikeUnlike", List.mem_of_getElem? (i := 22) (by decide +kernel)⟩
theorem lkX8_90 : LK 8 90 arraycopyName := Or.inl (wt3 237 (by decide +kernel) (by decide +kernel))
theorem lkX8_96 : LK 8 96 yX8_halve := Or.inl (wt4 0 (by decide +kernel) (by decide +kernel))
theorem okY8 : ∀ e ∈ entY8, LK 8 e.1 e.2 := by
  intro e he
  simp only [entY8, List.mem_cons, List.not_mem_nil, or_false] at he
  rcases he with rfl | rfl | rfl | rfl | rfl | rfl | rfl | rfl | rfl | rfl | rfl | rfl | rfl | rfl
  · exact lkX8_5
  · exact lkX8_28
  · exact lkX8_39
  · exact lkX8_43
  · exact lkX8_50
  · exact lkX8_54
  · exact lkX8_64
  · exact lkX8_70
  · exact lkX8_74
  · exact lkX8_77
  · exact lkX8_81
  · exact lkX8_87
  · exact lkX8_90
  · exact lkX8_96
def entY9 : List (Nat × MethodName) := [(3, objectInit), (22, yX7_size), (28, yX7_code), (32, yX7_number), (35, yX9_push), (39, yX11_isField), (43, yX9_turn), (46, yX9_join), (50, yJ9_min_f86c9), (56, yJ9_max_f86c9), (59, yX11_bit)]
theorem lkX9_3 : LK 9 3 objectInit := Or.inl (wt1 135 (by decide +kernel) (by decide +kernel))
theorem lkX9_22 : LK 9 22 yX7_size := Or.inl (wt3 200 (by decide +kernel) (by decide +kernel))
theorem lkX9_28 : LK 9 28 yX7_code := Or.inl (wt3 201 (by decide +kernel) (by decide +kernel))
theorem lkX9_32 : LK 9 32 yX7_number := Or.inl (wt3 202 (by decide +kernel) (by decide +kernel))
theorem lkX9_35 : LK 9 35 yX9_push := Or.inl (wt3 203 (by decide +kernel) (by decide +kernel))
theorem lkX9_39 : LK 9 39 yX11_isField := Or.inr ⟨"AlikeUnlike", List.mem_of_getElem? (i := 23) (by decide +kernel)⟩
theorem lkX9_43 : LK 9 43 yX9_turn := Or.inl (wt3 208 (by decide +kernel) (by decide +kernel))
theorem lkX9_46 : LK 9 46 yX9_join := Or.inl (wt3 212 (by decide +kernel) (by decide +kernel))
theorem lkX9_50 : LK 9 50 yJ9_min_f86c9 := Or.inl (wt3 216 (by decide +kernel) (by decide +kernel))
theorem lkX9_56 : LK 9 56 yJ9_max_f86c9 := Or.inl (wt3 219 (by decide +kernel) (by decide +kernel))
theorem lkX9_59 : LK 9 59 yX11_bit := Or.inr ⟨"AlikeUnlike", List.mem_of_getElem? (i := 24) (by decide +kernel)⟩
theorem okY9 : ∀ e ∈ entY9, LK 9 e.1 e.2 := by
  intro e he
  simp only [entY9, List.mem_cons, List.not_mem_nil, or_false] at he
  rcases he with rfl | rfl | rfl | rfl | rfl | rfl | rfl | rfl | rfl | rfl | rfl
  · exact lkX9_3
  · exact lkX9_22
  · exact lkX9_28
  · exact lkX9_32
  · exact lkX9_35
  · exact lkX9_39
  · exact lkX9_43
  · exact lkX9_46
  · exact lkX9_50
  · exact lkX9_56
  · exact lkX9_59
def entY10 : List (Nat × MethodName) := [(3, objectInit), (26, yX7_size), (32, yX7_code), (36, yX7_number), (39, yX10_push), (43, yX6_number), (46, yX10_pushField), (50, yX10_turn), (53, yX10_join), (56, yX10_endsLine), (62, yX10_joined), (66, yX11_isComparison)]
theorem lkX10_3 : LK 10 3 objectInit := Or.inl (wt1 115 (by decide +kernel) (by decide +kernel))
theorem lkX10_26 : LK 10 26 yX7_size := Or.inl (wt3 64 (by decide +kernel) (by decide +kernel))
theorem lkX10_32 : LK 10 32 yX7_code := Or.inl (wt3 68 (by decide +kernel) (by decide +kernel))
theorem lkX10_36 : LK 10 36 yX7_number := Or.inl (wt3 72 (by decide +kernel) (by decide +kernel))
theorem lkX10_39 : LK 10 39 yX10_push := Or.inl (wt3 73 (by decide +kernel) (by decide +kernel))
theorem lkX10_43 : LK 10 43 yX6_number := Or.inl (wt3 77 (by decide +kernel) (by decide +kernel))
theorem lkX10_46 : LK 10 46 yX10_pushField := Or.inl (wt3 82 (by decide +kernel) (by decide +kernel))
theorem lkX10_50 : LK 10 50 yX10_turn := Or.inl (wt3 86 (by decide +kernel) (by decide +kernel))
theorem lkX10_53 : LK 10 53 yX10_join := Or.inl (wt3 91 (by decide +kernel) (by decide +kernel))
theorem lkX10_56 : LK 10 56 yX10_endsLine := Or.inl (wt3 99 (by decide +kernel) (by decide +kernel))
theorem lkX10_62 : LK 10 62 yX10_joined := Or.inl (wt3 95 (by decide +kernel) (by decide +kernel))
theorem lkX10_66 : LK 10 66 yX11_isComparison := Or.inr ⟨"AlikeUnlike", List.mem_of_getElem? (i := 21) (by decide +kernel)⟩
theorem okY10 : ∀ e ∈ entY10, LK 10 e.1 e.2 := by
  intro e he
  simp only [entY10, List.mem_cons, List.not_mem_nil, or_false] at he
  rcases he with rfl | rfl | rfl | rfl | rfl | rfl | rfl | rfl | rfl | rfl | rfl | rfl
  · exact lkX10_3
  · exact lkX10_26
  · exact lkX10_32
  · exact lkX10_36
  · exact lkX10_39
  · exact lkX10_43
  · exact lkX10_46
  · exact lkX10_50
  · exact lkX10_53
  · exact lkX10_56
  · exact lkX10_62
  · exact lkX10_66
def entY11 : List (Nat × MethodName) := [(1, objectInit), (9, yX3_init), (18, yX5_init), (25, yX7_init), (32, yX10_init), (39, yX9_init), (46, yX8_init), (53, yX1_init), (60, yX4_init), (67, yX2_init), (74, yX0_init), (81, yX6_init), (93, yX11_isField), (97, yX3_fits), (101, yX3_allows), (104, yX3_told), (108, yX3_tell), (112, yX3_isOfKind), (116, yX3_counts), (119, yX3_changes), (122, yX11_bit), (126, yX5_lettersIn), (130, yX5_size), (134, yX5_append), (138, yX5_clear), (141, yX5_firstFault), (145, yX5_isWhole), (148, yX7_write), (152, yX1_runAll), (156, yX7_lines), (159, yX3_laws), (162, yX3_addLaw), (165, yX3_dropLaw), (168, yX6_read), (172, yX11_hasProgram), (176, yX11_ranGuest), (183, yX8_over), (187, yX8_tallied), (192, yX8_shown), (196, yX6_isWhole), (198, yX6_number), (201, yX9_endsOver), (205, yX1_size), (206, yX10_walk), (210, yX1_add), (214, yX11_isRow), (217, yX1_ended), (220, yX1_members), (224, yX11_refusalOfGroups), (228, yX1_gapAbove), (232, yX1_gapBelow), (235, yX11_lowest), (239, yX1_dealsAsGreat), (242, yX11_choose), (246, yX1_findGreatestGap), (250, yX1_whereTold), (253, yX11_isShortCount), (256, yX0_weigh), (260, yX0_answered), (266, yX4_find), (270, yX4_found), (273, yX11_wasRefused), (276, yX1_copyTo), (280, yX2_find), (283, yX2_number), (284, yX3_isInSpan), (287, yX6_put), (291, yX7_numbers), (296, yX3_folded), (300, yX1_folded), (301, yX11_foldedGuest), (304, yX11_fold), (308, yX5_folded), (309, yX11_count), (312, yX1_isWhole), (313, yX3_isInSpans), (317, yX3_keepsLaws), (321, yX10_line), (326, yX11_commonDivisor)]
theorem lkX11_1 : LK 11 1 objectInit := Or.inl (wt1 22 (by decide +kernel) (by decide +kernel))
theorem lkX11_9 : LK 11 9 yX3_init := Or.inl (wt1 27 (by decide +kernel) (by decide +kernel))
theorem lkX11_18 : LK 11 18 yX5_init := Or.inr ⟨"AlikeUnlike", List.mem_of_getElem? (i := 1) (by decide +kernel)⟩
theorem lkX11_25 : LK 11 25 yX7_init := Or.inr ⟨"AlikeUnlike", List.mem_of_getElem? (i := 2) (by decide +kernel)⟩
theorem lkX11_32 : LK 11 32 yX10_init := Or.inr ⟨"AlikeUnlike", List.mem_of_getElem? (i := 3) (by decide +kernel)⟩
theorem lkX11_39 : LK 11 39 yX9_init := Or.inr ⟨"AlikeUnlike", List.mem_of_getElem? (i := 4) (by decide +kernel)⟩
theorem lkX11_46 : LK 11 46 yX8_init := Or.inr ⟨"AlikeUnlike", List.mem_of_getElem? (i := 5) (by decide +kernel)⟩
theorem lkX11_53 : LK 11 53 yX1_init := Or.inl (wt1 184 (by decide +kernel) (by decide +kernel))
theorem lkX11_60 : LK 11 60 yX4_init := Or.inr ⟨"AlikeUnlike", List.mem_of_getElem? (i := 7) (by decide +kernel)⟩
theorem lkX11_67 : LK 11 67 yX2_init := Or.inr ⟨"AlikeUnlike", List.mem_of_getElem? (i := 8) (by decide +kernel)⟩
theorem lkX11_74 : LK 11 74 yX0_init := Or.inr ⟨"AlikeUnlike", List.mem_of_getElem? (i := 10) (by decide +kernel)⟩
theorem lkX11_81 : LK 11 81 yX6_init := Or.inr ⟨"AlikeUnlike", List.mem_of_getElem? (i := 11) (by decide +kernel)⟩
theorem lkX11_93 : LK 11 93 yX11_isField := Or.inl (wt2 122 (by decide +kernel) (by decide +kernel))
theorem lkX11_97 : LK 11 97 yX3_fits := Or.inl (wt2 125 (by decide +kernel) (by decide +kernel))
theorem lkX11_101 : LK 11 101 yX3_allows := Or.inl (wt2 134 (by decide +kernel) (by decide +kernel))
theorem lkX11_104 : LK 11 104 yX3_told := Or.inl (wt2 149 (by decide +kernel) (by decide +kernel))
theorem lkX11_108 : LK 11 108 yX3_tell := Or.inl (wt2 150 (by decide +kernel) (by decide +kernel))
theorem lkX11_112 : LK 11 112 yX3_isOfKind := Or.inl (wt2 158 (by decide +kernel) (by decide +kernel))
theorem lkX11_116 : LK 11 116 yX3_counts := Or.inl (wt2 166 (by decide +kernel) (by decide +kernel))
theorem lkX11_119 : LK 11 119 yX3_changes := Or.inl (wt2 171 (by decide +kernel) (by decide +kernel))
theorem lkX11_122 : LK 11 122 yX11_bit := Or.inl (wt2 172 (by decide +kernel) (by decide +kernel))
theorem lkX11_126 : LK 11 126 yX5_lettersIn := Or.inl (wt2 177 (by decide +kernel) (by decide +kernel))
theorem lkX11_130 : LK 11 130 yX5_size := Or.inl (wt2 185 (by decide +kernel) (by decide +kernel))
theorem lkX11_134 : LK 11 134 yX5_append := Or.inl (wt2 189 (by decide +kernel) (by decide +kernel))
theorem lkX11_138 : LK 11 138 yX5_clear := Or.inl (wt2 197 (by decide +kernel) (by decide +kernel))
theorem lkX11_141 : LK 11 141 yX5_firstFault := Or.inl (wt2 205 (by decide +kernel) (by decide +kernel))
theorem lkX11_145 : LK 11 145 yX5_isWhole := Or.inl (wt3 6 (by decide +kernel) (by decide +kernel))
theorem lkX11_148 : LK 11 148 yX7_write := Or.inl (wt3 11 (by decide +kernel) (by decide +kernel))
theorem lkX11_152 : LK 11 152 yX1_runAll := Or.inl (wt3 56 (by decide +kernel) (by decide +kernel))
theorem lkX11_156 : LK 11 156 yX7_lines := Or.inl (wt3 103 (by decide +kernel) (by decide +kernel))
theorem lkX11_159 : LK 11 159 yX3_laws := Or.inl (wt3 111 (by decide +kernel) (by decide +kernel))
theorem lkX11_162 : LK 11 162 yX3_addLaw := Or.inl (wt3 115 (by decide +kernel) (by decide +kernel))
theorem lkX11_165 : LK 11 165 yX3_dropLaw := Or.inl (wt3 124 (by decide +kernel) (by decide +kernel))
theorem lkX11_168 : LK 11 168 yX6_read := Or.inl (wt3 132 (by decide +kernel) (by decide +kernel))
theorem lkX11_172 : LK 11 172 yX11_hasProgram := Or.inl (wt3 138 (by decide +kernel) (by decide +kernel))
theorem lkX11_176 : LK 11 176 yX11_ranGuest := Or.inl (wt3 142 (by decide +kernel) (by decide +kernel))
theorem lkX11_183 : LK 11 183 yX8_over := Or.inl (wt3 169 (by decide +kernel) (by decide +kernel))
theorem lkX11_187 : LK 11 187 yX8_tallied := Or.inl (wt4 8 (by decide +kernel) (by decide +kernel))
theorem lkX11_192 : LK 11 192 yX8_shown := Or.inl (wt4 17 (by decide +kernel) (by decide +kernel))
theorem lkX11_196 : LK 11 196 yX6_isWhole := Or.inl (wt4 25 (by decide +kernel) (by decide +kernel))
theorem lkX11_198 : LK 11 198 yX6_number := Or.inl (wt4 29 (by decide +kernel) (by decide +kernel))
theorem lkX11_201 : LK 11 201 yX9_endsOver := Or.inl (wt4 30 (by decide +kernel) (by decide +kernel))
theorem lkX11_205 : LK 11 205 yX1_size := Or.inl (wt4 35 (by decide +kernel) (by decide +kernel))
theorem lkX11_206 : LK 11 206 yX10_walk := Or.inl (wt3 160 (by decide +kernel) (by decide +kernel))
theorem lkX11_210 : LK 11 210 yX1_add := Or.inl (wt4 39 (by decide +kernel) (by decide +kernel))
theorem lkX11_214 : LK 11 214 yX11_isRow := Or.inl (wt4 52 (by decide +kernel) (by decide +kernel))
theorem lkX11_217 : LK 11 217 yX1_ended := Or.inl (wt4 56 (by decide +kernel) (by decide +kernel))
theorem lkX11_220 : LK 11 220 yX1_members := Or.inl (wt4 68 (by decide +kernel) (by decide +kernel))
theorem lkX11_224 : LK 11 224 yX11_refusalOfGroups := Or.inl (wt4 87 (by decide +kernel) (by decide +kernel))
theorem lkX11_228 : LK 11 228 yX1_gapAbove := Or.inl (wt4 96 (by decide +kernel) (by decide +kernel))
theorem lkX11_232 : LK 11 232 yX1_gapBelow := Or.inl (wt4 91 (by decide +kernel) (by decide +kernel))
theorem lkX11_235 : LK 11 235 yX11_lowest := Or.inl (wt4 103 (by decide +kernel) (by decide +kernel))
theorem lkX11_239 : LK 11 239 yX1_dealsAsGreat := Or.inl (wt4 113 (by decide +kernel) (by decide +kernel))
theorem lkX11_242 : LK 11 242 yX11_choose := Or.inl (wt4 121 (by decide +kernel) (by decide +kernel))
theorem lkX11_246 : LK 11 246 yX1_findGreatestGap := Or.inl (wt4 126 (by decide +kernel) (by decide +kernel))
theorem lkX11_250 : LK 11 250 yX1_whereTold := Or.inl (wt4 145 (by decide +kernel) (by decide +kernel))
theorem lkX11_253 : LK 11 253 yX11_isShortCount := Or.inl (wt4 154 (by decide +kernel) (by decide +kernel))
theorem lkX11_256 : LK 11 256 yX0_weigh := Or.inl (wt4 157 (by decide +kernel) (by decide +kernel))
theorem lkX11_260 : LK 11 260 yX0_answered := Or.inl (wt4 180 (by decide +kernel) (by decide +kernel))
theorem lkX11_266 : LK 11 266 yX4_find := Or.inl (wt4 188 (by decide +kernel) (by decide +kernel))
theorem lkX11_270 : LK 11 270 yX4_found := Or.inl (wt4 223 (by decide +kernel) (by decide +kernel))
theorem lkX11_273 : LK 11 273 yX11_wasRefused := Or.inl (wt4 231 (by decide +kernel) (by decide +kernel))
theorem lkX11_276 : LK 11 276 yX1_copyTo := Or.inl (wt5 0 (by decide +kernel) (by decide +kernel))
theorem lkX11_280 : LK 11 280 yX2_find := Or.inl (wt5 4 (by decide +kernel) (by decide +kernel))
theorem lkX11_283 : LK 11 283 yX2_number := Or.inl (wt5 24 (by decide +kernel) (by decide +kernel))
theorem lkX11_284 : LK 11 284 yX3_isInSpan := Or.inl (wt5 32 (by decide +kernel) (by decide +kernel))
theorem lkX11_287 : LK 11 287 yX6_put := Or.inl (wt5 33 (by decide +kernel) (by decide +kernel))
theorem lkX11_291 : LK 11 291 yX7_numbers := Or.inl (wt5 38 (by decide +kernel) (by decide +kernel))
theorem lkX11_296 : LK 11 296 yX3_folded := Or.inl (wt5 44 (by decide +kernel) (by decide +kernel))
theorem lkX11_300 : LK 11 300 yX1_folded := Or.inl (wt5 52 (by decide +kernel) (by decide +kernel))
theorem lkX11_301 : LK 11 301 yX11_foldedGuest := Or.inl (wt5 61 (by decide +kernel) (by decide +kernel))
theorem lkX11_304 : LK 11 304 yX11_fold := Or.inl (wt5 65 (by decide +kernel) (by decide +kernel))
theorem lkX11_308 : LK 11 308 yX5_folded := Or.inl (wt5 66 (by decide +kernel) (by decide +kernel))
theorem lkX11_309 : LK 11 309 yX11_count := Or.inl (wt5 71 (by decide +kernel) (by decide +kernel))
theorem lkX11_312 : LK 11 312 yX1_isWhole := Or.inl (wt4 235 (by decide +kernel) (by decide +kernel))
theorem lkX11_313 : LK 11 313 yX3_isInSpans := Or.inl (wt3 146 (by decide +kernel) (by decide +kernel))
theorem lkX11_317 : LK 11 317 yX3_keepsLaws := Or.inl (wt3 155 (by decide +kernel) (by decide +kernel))
theorem lkX11_321 : LK 11 321 yX10_line := Or.inl (wt3 161 (by decide +kernel) (by decide +kernel))
theorem lkX11_326 : LK 11 326 yX11_commonDivisor := Or.inl (wt4 106 (by decide +kernel) (by decide +kernel))
theorem okY11 : ∀ e ∈ entY11, LK 11 e.1 e.2 := by
  intro e he
  simp only [entY11, List.mem_cons, List.not_mem_nil, or_false] at he
  rcases he with rfl | rfl | rfl | rfl | rfl | rfl | rfl | rfl | rfl | rfl | rfl | rfl | rfl | rfl | rfl | rfl | rfl | rfl | rfl | rfl | rfl | rfl | rfl | rfl | rfl | rfl | rfl | rfl | rfl | rfl | rfl | rfl | rfl | rfl | rfl | rfl | rfl | rfl | rfl | rfl | rfl | rfl | rfl | rfl | rfl | rfl | rfl | rfl | rfl | rfl | rfl | rfl | rfl | rfl | rfl | rfl | rfl | rfl | rfl | rfl | rfl | rfl | rfl | rfl | rfl | rfl | rfl | rfl | rfl | rfl | rfl | rfl | rfl | rfl | rfl | rfl | rfl | rfl | rfl
  · exact lkX11_1
  · exact lkX11_9
  · exact lkX11_18
  · exact lkX11_25
  · exact lkX11_32
  · exact lkX11_39
  · exact lkX11_46
  · exact lkX11_53
  · exact lkX11_60
  · exact lkX11_67
  · exact lkX11_74
  · exact lkX11_81
  · exact lkX11_93
  · exact lkX11_97
  · exact lkX11_101
  · exact lkX11_104
  · exact lkX11_108
  · exact lkX11_112
  · exact lkX11_116
  · exact lkX11_119
  · exact lkX11_122
  · exact lkX11_126
  · exact lkX11_130
  · exact lkX11_134
  · exact lkX11_138
  · exact lkX11_141
  · exact lkX11_145
  · exact lkX11_148
  · exact lkX11_152
  · exact lkX11_156
  · exact lkX11_159
  · exact lkX11_162
  · exact lkX11_165
  · exact lkX11_168
  · exact lkX11_172
  · exact lkX11_176
  · exact lkX11_183
  · exact lkX11_187
  · exact lkX11_192
  · exact lkX11_196
  · exact lkX11_198
  · exact lkX11_201
  · exact lkX11_205
  · exact lkX11_206
  · exact lkX11_210
  · exact lkX11_214
  · exact lkX11_217
  · exact lkX11_220
  · exact lkX11_224
  · exact lkX11_228
  · exact lkX11_232
  · exact lkX11_235
  · exact lkX11_239
  · exact lkX11_242
  · exact lkX11_246
  · exact lkX11_250
  · exact lkX11_253
  · exact lkX11_256
  · exact lkX11_260
  · exact lkX11_266
  · exact lkX11_270
  · exact lkX11_273
  · exact lkX11_276
  · exact lkX11_280
  · exact lkX11_283
  · exact lkX11_284
  · exact lkX11_287
  · exact lkX11_291
  · exact lkX11_296
  · exact lkX11_300
  · exact lkX11_301
  · exact lkX11_304
  · exact lkX11_308
  · exact lkX11_309
  · exact lkX11_312
  · exact lkX11_313
  · exact lkX11_317
  · exact lkX11_321
  · exact lkX11_326
def entY12 : List (Nat × MethodName) := [(1, objectInit), (113, yX12_in), (117, yX12_isField), (129, yX12_mayMany), (133, yX12_told), (137, yX12_counts), (152, yX12_lay), (156, yX12_layDown), (187, yX12_takeUnit), (190, yX12_await), (193, yX12_goOn), (197, yX12_goFactor), (200, yX12_goBehind), (206, yX12_go), (209, yX12_faultOf), (225, yX12_compared), (229, yX12_joined), (233, yX12_holds), (240, yX12_takeLaw), (245, yX12_couldCome), (249, yX12_runWho), (252, yX12_takePerson), (258, yX12_toldOf), (261, yX12_multiply), (264, yX12_spanned), (268, yX12_both), (271, yX12_onBox), (275, yX12_endsOf), (293, yX12_isDone), (296, yX12_widest), (299, yX12_boxPerson), (310, yX12_push), (319, yX12_search), (329, yX12_takeRow), (332, yX12_isRow), (335, yX12_endOf), (344, yX12_runAll), (347, yX12_isNumber), (350, yX12_groupOf), (353, yX12_countGroup), (369, yX12_takeGroups), (372, yX12_common), (376, yX12_gapRefusal), (380, yX12_gapOf), (384, yX12_part), (388, yX12_choose), (410, yX12_findWhere), (415, yX12_whereOf), (418, yX12_asked), (423, yX12_mostLet), (430, yX12_isNought), (434, yX12_numberMany), (437, yX12_numberAt), (440, yX12_mayAt), (443, yX12_price), (450, yX12_isRefused), (453, yX12_leastPrice), (456, yX12_countOf), (464, yX12_tell), (470, yX12_tellWho)]
theorem lkX12_1 : LK 12 1 objectInit := Or.inl (wt5 77 (by decide +kernel) (by decide +kernel))
theorem lkX12_113 : LK 12 113 yX12_in := Or.inl (wt6 62 (by decide +kernel) (by decide +kernel))
theorem lkX12_117 : LK 12 117 yX12_isField := Or.inl (wt6 58 (by decide +kernel) (by decide +kernel))
theorem lkX12_129 : LK 12 129 yX12_mayMany := Or.inl (wt6 69 (by decide +kernel) (by decide +kernel))
theorem lkX12_133 : LK 12 133 yX12_told := Or.inl (wt6 73 (by decide +kernel) (by decide +kernel))
theorem lkX12_137 : LK 12 137 yX12_counts := Or.inl (wt6 85 (by decide +kernel) (by decide +kernel))
theorem lkX12_152 : LK 12 152 yX12_lay := Or.inl (wt6 120 (by decide +kernel) (by decide +kernel))
theorem lkX12_156 : LK 12 156 yX12_layDown := Or.inl (wt6 134 (by decide +kernel) (by decide +kernel))
theorem lkX12_187 : LK 12 187 yX12_takeUnit := Or.inl (wt6 114 (by decide +kernel) (by decide +kernel))
theorem lkX12_190 : LK 12 190 yX12_await := Or.inl (wt6 130 (by decide +kernel) (by decide +kernel))
theorem lkX12_193 : LK 12 193 yX12_goOn := Or.inl (wt6 138 (by decide +kernel) (by decide +kernel))
theorem lkX12_197 : LK 12 197 yX12_goFactor := Or.inl (wt6 110 (by decide +kernel) (by decide +kernel))
theorem lkX12_200 : LK 12 200 yX12_goBehind := Or.inl (wt6 126 (by decide +kernel) (by decide +kernel))
theorem lkX12_206 : LK 12 206 yX12_go := Or.inl (wt6 106 (by decide +kernel) (by decide +kernel))
theorem lkX12_209 : LK 12 209 yX12_faultOf := Or.inl (wt6 102 (by decide +kernel) (by decide +kernel))
theorem lkX12_225 : LK 12 225 yX12_compared := Or.inl (wt6 180 (by decide +kernel) (by decide +kernel))
theorem lkX12_229 : LK 12 229 yX12_joined := Or.inl (wt6 183 (by decide +kernel) (by decide +kernel))
theorem lkX12_233 : LK 12 233 yX12_holds := Or.inl (wt6 176 (by decide +kernel) (by decide +kernel))
theorem lkX12_240 : LK 12 240 yX12_takeLaw := Or.inl (wt6 172 (by decide +kernel) (by decide +kernel))
theorem lkX12_245 : LK 12 245 yX12_couldCome := Or.inl (wt6 168 (by decide +kernel) (by decide +kernel))
theorem lkX12_249 : LK 12 249 yX12_runWho := Or.inl (wt6 186 (by decide +kernel) (by decide +kernel))
theorem lkX12_252 : LK 12 252 yX12_takePerson := Or.inl (wt6 158 (by decide +kernel) (by decide +kernel))
theorem lkX12_258 : LK 12 258 yX12_toldOf := Or.inl (wt6 164 (by decide +kernel) (by decide +kernel))
theorem lkX12_261 : LK 12 261 yX12_multiply := Or.inl (wt6 207 (by decide +kernel) (by decide +kernel))
theorem lkX12_264 : LK 12 264 yX12_spanned := Or.inl (wt6 211 (by decide +kernel) (by decide +kernel))
theorem lkX12_268 : LK 12 268 yX12_both := Or.inl (wt6 214 (by decide +kernel) (by decide +kernel))
theorem lkX12_271 : LK 12 271 yX12_onBox := Or.inl (wt6 203 (by decide +kernel) (by decide +kernel))
theorem lkX12_275 : LK 12 275 yX12_endsOf := Or.inl (wt6 217 (by decide +kernel) (by decide +kernel))
theorem lkX12_293 : LK 12 293 yX12_isDone := Or.inl (wt6 199 (by decide +kernel) (by decide +kernel))
theorem lkX12_296 : LK 12 296 yX12_widest := Or.inl (wt6 221 (by decide +kernel) (by decide +kernel))
theorem lkX12_299 : LK 12 299 yX12_boxPerson := Or.inl (wt6 225 (by decide +kernel) (by decide +kernel))
theorem lkX12_310 : LK 12 310 yX12_push := Or.inl (wt6 229 (by decide +kernel) (by decide +kernel))
theorem lkX12_319 : LK 12 319 yX12_search := Or.inl (wt6 195 (by decide +kernel) (by decide +kernel))
theorem lkX12_329 : LK 12 329 yX12_takeRow := Or.inl (wt7 23 (by decide +kernel) (by decide +kernel))
theorem lkX12_332 : LK 12 332 yX12_isRow := Or.inl (wt7 15 (by decide +kernel) (by decide +kernel))
theorem lkX12_335 : LK 12 335 yX12_endOf := Or.inl (wt7 19 (by decide +kernel) (by decide +kernel))
theorem lkX12_344 : LK 12 344 yX12_runAll := Or.inl (wt7 38 (by decide +kernel) (by decide +kernel))
theorem lkX12_347 : LK 12 347 yX12_isNumber := Or.inl (wt7 31 (by decide +kernel) (by decide +kernel))
theorem lkX12_350 : LK 12 350 yX12_groupOf := Or.inl (wt7 34 (by decide +kernel) (by decide +kernel))
theorem lkX12_353 : LK 12 353 yX12_countGroup := Or.inl (wt7 54 (by decide +kernel) (by decide +kernel))
theorem lkX12_369 : LK 12 369 yX12_takeGroups := Or.inl (wt7 50 (by decide +kernel) (by decide +kernel))
theorem lkX12_372 : LK 12 372 yX12_common := Or.inl (wt7 64 (by decide +kernel) (by decide +kernel))
theorem lkX12_376 : LK 12 376 yX12_gapRefusal := Or.inl (wt7 46 (by decide +kernel) (by decide +kernel))
theorem lkX12_380 : LK 12 380 yX12_gapOf := Or.inl (wt7 58 (by decide +kernel) (by decide +kernel))
theorem lkX12_384 : LK 12 384 yX12_part := Or.inl (wt7 61 (by decide +kernel) (by decide +kernel))
theorem lkX12_388 : LK 12 388 yX12_choose := Or.inl (wt7 71 (by decide +kernel) (by decide +kernel))
theorem lkX12_410 : LK 12 410 yX12_findWhere := Or.inl (wt7 83 (by decide +kernel) (by decide +kernel))
theorem lkX12_415 : LK 12 415 yX12_whereOf := Or.inl (wt7 79 (by decide +kernel) (by decide +kernel))
theorem lkX12_418 : LK 12 418 yX12_asked := Or.inl (wt7 95 (by decide +kernel) (by decide +kernel))
theorem lkX12_423 : LK 12 423 yX12_mostLet := Or.inl (wt7 92 (by decide +kernel) (by decide +kernel))
theorem lkX12_430 : LK 12 430 yX12_isNought := Or.inl (wt7 102 (by decide +kernel) (by decide +kernel))
theorem lkX12_434 : LK 12 434 yX12_numberMany := Or.inl (wt7 106 (by decide +kernel) (by decide +kernel))
theorem lkX12_437 : LK 12 437 yX12_numberAt := Or.inl (wt7 110 (by decide +kernel) (by decide +kernel))
theorem lkX12_440 : LK 12 440 yX12_mayAt := Or.inl (wt7 128 (by decide +kernel) (by decide +kernel))
theorem lkX12_443 : LK 12 443 yX12_price := Or.inl (wt7 132 (by decide +kernel) (by decide +kernel))
theorem lkX12_450 : LK 12 450 yX12_isRefused := Or.inl (wt7 120 (by decide +kernel) (by decide +kernel))
theorem lkX12_453 : LK 12 453 yX12_leastPrice := Or.inl (wt7 124 (by decide +kernel) (by decide +kernel))
theorem lkX12_456 : LK 12 456 yX12_countOf := Or.inl (wt7 143 (by decide +kernel) (by decide +kernel))
theorem lkX12_464 : LK 12 464 yX12_tell := Or.inl (wt7 152 (by decide +kernel) (by decide +kernel))
theorem lkX12_470 : LK 12 470 yX12_tellWho := Or.inl (wt7 157 (by decide +kernel) (by decide +kernel))
theorem okY12 : ∀ e ∈ entY12, LK 12 e.1 e.2 := by
  intro e he
  simp only [entY12, List.mem_cons, List.not_mem_nil, or_false] at he
  rcases he with rfl | rfl | rfl | rfl | rfl | rfl | rfl | rfl | rfl | rfl | rfl | rfl | rfl | rfl | rfl | rfl | rfl | rfl | rfl | rfl | rfl | rfl | rfl | rfl | rfl | rfl | rfl | rfl | rfl | rfl | rfl | rfl | rfl | rfl | rfl | rfl | rfl | rfl | rfl | rfl | rfl | rfl | rfl | rfl | rfl | rfl | rfl | rfl | rfl | rfl | rfl | rfl | rfl | rfl | rfl | rfl | rfl | rfl | rfl | rfl
  · exact lkX12_1
  · exact lkX12_113
  · exact lkX12_117
  · exact lkX12_129
  · exact lkX12_133
  · exact lkX12_137
  · exact lkX12_152
  · exact lkX12_156
  · exact lkX12_187
  · exact lkX12_190
  · exact lkX12_193
  · exact lkX12_197
  · exact lkX12_200
  · exact lkX12_206
  · exact lkX12_209
  · exact lkX12_225
  · exact lkX12_229
  · exact lkX12_233
  · exact lkX12_240
  · exact lkX12_245
  · exact lkX12_249
  · exact lkX12_252
  · exact lkX12_258
  · exact lkX12_261
  · exact lkX12_264
  · exact lkX12_268
  · exact lkX12_271
  · exact lkX12_275
  · exact lkX12_293
  · exact lkX12_296
  · exact lkX12_299
  · exact lkX12_310
  · exact lkX12_319
  · exact lkX12_329
  · exact lkX12_332
  · exact lkX12_335
  · exact lkX12_344
  · exact lkX12_347
  · exact lkX12_350
  · exact lkX12_353
  · exact lkX12_369
  · exact lkX12_372
  · exact lkX12_376
  · exact lkX12_380
  · exact lkX12_384
  · exact lkX12_388
  · exact lkX12_410
  · exact lkX12_415
  · exact lkX12_418
  · exact lkX12_423
  · exact lkX12_430
  · exact lkX12_434
  · exact lkX12_437
  · exact lkX12_440
  · exact lkX12_443
  · exact lkX12_450
  · exact lkX12_453
  · exact lkX12_456
  · exact lkX12_464
  · exact lkX12_470
def entY15 : List (Nat × MethodName) := [(9, yX11_init), (12, yX12_init), (13, yX11_field), (17, yX12_field), (18, yX11_as), (22, yX12_as), (23, yX11_asks), (26, yX12_asks), (29, yX11_letters), (33, yX12_letters), (34, yX11_blank), (38, yX12_blank), (39, yX11_fault), (43, yX12_fault), (44, yX11_program), (47, yX12_program), (48, yX11_law), (51, yX12_law), (52, yX11_strike), (55, yX12_strike), (56, yX11_run), (60, yX12_run), (61, yX11_seek), (64, yX12_seek), (65, yX11_sought), (68, yX12_sought), (69, yX11_pair), (73, yX12_pair), (74, yX11_ends), (78, yX12_ends), (79, yX11_row), (82, yX12_row), (83, yX11_end), (86, yX12_end), (87, yX11_group), (90, yX12_group), (91, yX11_gap), (95, yX12_gap), (96, yX11_odds), (99, yX12_odds), (100, yX11_where), (103, yX12_where), (104, yX11_askings), (108, yX12_askings), (109, yX11_mend), (112, yX12_mend), (113, yX11_refused), (116, yX12_refused), (117, yX11_sameFor), (120, yX12_sameFor), (121, yX11_count), (124, yX12_count), (125, yX11_digest), (129, yX12_digest)]
theorem lkX15_9 : LK 15 9 yX11_init := Or.inl (wt1 19 (by decide +kernel) (by decide +kernel))
theorem lkX15_12 : LK 15 12 yX12_init := Or.inl (wt5 74 (by decide +kernel) (by decide +kernel))
theorem lkX15_13 : LK 15 13 yX11_field := Or.inl (wt2 118 (by decide +kernel) (by decide +kernel))
theorem lkX15_17 : LK 15 17 yX12_field := Or.inl (wt6 54 (by decide +kernel) (by decide +kernel))
theorem lkX15_18 : LK 15 18 yX11_as := Or.inl (wt2 154 (by decide +kernel) (by decide +kernel))
theorem lkX15_22 : LK 15 22 yX12_as := Or.inl (wt6 77 (by decide +kernel) (by decide +kernel))
theorem lkX15_23 : LK 15 23 yX11_asks := Or.inl (wt2 162 (by decide +kernel) (by decide +kernel))
theorem lkX15_26 : LK 15 26 yX12_asks := Or.inl (wt6 81 (by decide +kernel) (by decide +kernel))
theorem lkX15_29 : LK 15 29 yX11_letters := Or.inl (wt2 173 (by decide +kernel) (by decide +kernel))
theorem lkX15_33 : LK 15 33 yX12_letters := Or.inl (wt6 89 (by decide +kernel) (by decide +kernel))
theorem lkX15_34 : LK 15 34 yX11_blank := Or.inl (wt2 193 (by decide +kernel) (by decide +kernel))
theorem lkX15_38 : LK 15 38 yX12_blank := Or.inl (wt6 94 (by decide +kernel) (by decide +kernel))
theorem lkX15_39 : LK 15 39 yX11_fault := Or.inl (wt2 201 (by decide +kernel) (by decide +kernel))
theorem lkX15_43 : LK 15 43 yX12_fault := Or.inl (wt6 98 (by decide +kernel) (by decide +kernel))
theorem lkX15_44 : LK 15 44 yX11_program := Or.inl (wt3 2 (by decide +kernel) (by decide +kernel))
theorem lkX15_47 : LK 15 47 yX12_program := Or.inl (wt6 142 (by decide +kernel) (by decide +kernel))
theorem lkX15_48 : LK 15 48 yX11_law := Or.inl (wt3 107 (by decide +kernel) (by decide +kernel))
theorem lkX15_51 : LK 15 51 yX12_law := Or.inl (wt6 146 (by decide +kernel) (by decide +kernel))
theorem lkX15_52 : LK 15 52 yX11_strike := Or.inl (wt3 120 (by decide +kernel) (by decide +kernel))
theorem lkX15_55 : LK 15 55 yX12_strike := Or.inl (wt6 150 (by decide +kernel) (by decide +kernel))
theorem lkX15_56 : LK 15 56 yX11_run := Or.inl (wt3 128 (by decide +kernel) (by decide +kernel))
theorem lkX15_60 : LK 15 60 yX12_run := Or.inl (wt6 154 (by decide +kernel) (by decide +kernel))
theorem lkX15_61 : LK 15 61 yX11_seek := Or.inl (wt3 165 (by decide +kernel) (by decide +kernel))
theorem lkX15_64 : LK 15 64 yX12_seek := Or.inl (wt6 190 (by decide +kernel) (by decide +kernel))
theorem lkX15_65 : LK 15 65 yX11_sought := Or.inl (wt4 4 (by decide +kernel) (by decide +kernel))
theorem lkX15_68 : LK 15 68 yX12_sought := Or.inl (wt6 233 (by decide +kernel) (by decide +kernel))
theorem lkX15_69 : LK 15 69 yX11_pair := Or.inl (wt4 12 (by decide +kernel) (by decide +kernel))
theorem lkX15_73 : LK 15 73 yX12_pair := Or.inl (wt6 237 (by decide +kernel) (by decide +kernel))
theorem lkX15_74 : LK 15 74 yX11_ends := Or.inl (wt4 21 (by decide +kernel) (by decide +kernel))
theorem lkX15_78 : LK 15 78 yX12_ends := Or.inl (wt7 3 (by decide +kernel) (by decide +kernel))
theorem lkX15_79 : LK 15 79 yX11_row := Or.inl (wt4 31 (by decide +kernel) (by decide +kernel))
theorem lkX15_82 : LK 15 82 yX12_row := Or.inl (wt7 7 (by decide +kernel) (by decide +kernel))
theorem lkX15_83 : LK 15 83 yX11_end := Or.inl (wt4 48 (by decide +kernel) (by decide +kernel))
theorem lkX15_86 : LK 15 86 yX12_end := Or.inl (wt7 11 (by decide +kernel) (by decide +kernel))
theorem lkX15_87 : LK 15 87 yX11_group := Or.inl (wt4 64 (by decide +kernel) (by decide +kernel))
theorem lkX15_90 : LK 15 90 yX12_group := Or.inl (wt7 27 (by decide +kernel) (by decide +kernel))
theorem lkX15_91 : LK 15 91 yX11_gap := Or.inl (wt4 83 (by decide +kernel) (by decide +kernel))
theorem lkX15_95 : LK 15 95 yX12_gap := Or.inl (wt7 42 (by decide +kernel) (by decide +kernel))
theorem lkX15_96 : LK 15 96 yX11_odds := Or.inl (wt4 109 (by decide +kernel) (by decide +kernel))
theorem lkX15_99 : LK 15 99 yX12_odds := Or.inl (wt7 67 (by decide +kernel) (by decide +kernel))
theorem lkX15_100 : LK 15 100 yX11_where := Or.inl (wt4 122 (by decide +kernel) (by decide +kernel))
theorem lkX15_103 : LK 15 103 yX12_where := Or.inl (wt7 74 (by decide +kernel) (by decide +kernel))
theorem lkX15_104 : LK 15 104 yX11_askings := Or.inl (wt4 150 (by decide +kernel) (by decide +kernel))
theorem lkX15_108 : LK 15 108 yX12_askings := Or.inl (wt7 87 (by decide +kernel) (by decide +kernel))
theorem lkX15_109 : LK 15 109 yX11_mend := Or.inl (wt4 184 (by decide +kernel) (by decide +kernel))
theorem lkX15_112 : LK 15 112 yX12_mend := Or.inl (wt7 98 (by decide +kernel) (by decide +kernel))
theorem lkX15_113 : LK 15 113 yX11_refused := Or.inl (wt4 227 (by decide +kernel) (by decide +kernel))
theorem lkX15_116 : LK 15 116 yX12_refused := Or.inl (wt7 114 (by decide +kernel) (by decide +kernel))
theorem lkX15_117 : LK 15 117 yX11_sameFor := Or.inl (wt5 28 (by decide +kernel) (by decide +kernel))
theorem lkX15_120 : LK 15 120 yX12_sameFor := Or.inl (wt7 135 (by decide +kernel) (by decide +kernel))
theorem lkX15_121 : LK 15 121 yX11_count := Or.inl (wt5 34 (by decide +kernel) (by decide +kernel))
theorem lkX15_124 : LK 15 124 yX12_count := Or.inl (wt7 139 (by decide +kernel) (by decide +kernel))
theorem lkX15_125 : LK 15 125 yX11_digest := Or.inl (wt5 39 (by decide +kernel) (by decide +kernel))
theorem lkX15_129 : LK 15 129 yX12_digest := Or.inl (wt7 147 (by decide +kernel) (by decide +kernel))
theorem okY15 : ∀ e ∈ entY15, LK 15 e.1 e.2 := by
  intro e he
  simp only [entY15, List.mem_cons, List.not_mem_nil, or_false] at he
  rcases he with rfl | rfl | rfl | rfl | rfl | rfl | rfl | rfl | rfl | rfl | rfl | rfl | rfl | rfl | rfl | rfl | rfl | rfl | rfl | rfl | rfl | rfl | rfl | rfl | rfl | rfl | rfl | rfl | rfl | rfl | rfl | rfl | rfl | rfl | rfl | rfl | rfl | rfl | rfl | rfl | rfl | rfl | rfl | rfl | rfl | rfl | rfl | rfl | rfl | rfl | rfl | rfl | rfl | rfl
  · exact lkX15_9
  · exact lkX15_12
  · exact lkX15_13
  · exact lkX15_17
  · exact lkX15_18
  · exact lkX15_22
  · exact lkX15_23
  · exact lkX15_26
  · exact lkX15_29
  · exact lkX15_33
  · exact lkX15_34
  · exact lkX15_38
  · exact lkX15_39
  · exact lkX15_43
  · exact lkX15_44
  · exact lkX15_47
  · exact lkX15_48
  · exact lkX15_51
  · exact lkX15_52
  · exact lkX15_55
  · exact lkX15_56
  · exact lkX15_60
  · exact lkX15_61
  · exact lkX15_64
  · exact lkX15_65
  · exact lkX15_68
  · exact lkX15_69
  · exact lkX15_73
  · exact lkX15_74
  · exact lkX15_78
  · exact lkX15_79
  · exact lkX15_82
  · exact lkX15_83
  · exact lkX15_86
  · exact lkX15_87
  · exact lkX15_90
  · exact lkX15_91
  · exact lkX15_95
  · exact lkX15_96
  · exact lkX15_99
  · exact lkX15_100
  · exact lkX15_103
  · exact lkX15_104
  · exact lkX15_108
  · exact lkX15_109
  · exact lkX15_112
  · exact lkX15_113
  · exact lkX15_116
  · exact lkX15_117
  · exact lkX15_120
  · exact lkX15_121
  · exact lkX15_124
  · exact lkX15_125
  · exact lkX15_129
def entY (k : Nat) : List (Nat × MethodName) := match k with
  | 0 => entY0
  | 1 => entY1
  | 2 => entY2
  | 3 => entY3
  | 4 => entY4
  | 5 => entY5
  | 6 => entY6
  | 7 => entY7
  | 8 => entY8
  | 9 => entY9
  | 10 => entY10
  | 11 => entY11
  | 12 => entY12
  | 15 => entY15
  | _ => []
def cpY (k i : Nat) : Option MethodName := lkf i (entY k)
theorem lk_ok {k i : Nat} {y : MethodName} (h : cpY k i = some y) : LK k i y := by
  have h1 := lkf_mem h
  unfold entY at h1
  split at h1
  · exact okY0 _ h1
  · exact okY1 _ h1
  · exact okY2 _ h1
  · exact okY3 _ h1
  · exact okY4 _ h1
  · exact okY5 _ h1
  · exact okY6 _ h1
  · exact okY7 _ h1
  · exact okY8 _ h1
  · exact okY9 _ h1
  · exact okY10 _ h1
  · exact okY11 _ h1
  · exact okY12 _ h1
  · exact okY15 _ h1
  · exact absurd h1 List.not_mem_nil
