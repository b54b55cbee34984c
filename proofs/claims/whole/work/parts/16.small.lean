noncomputable def b2 (p : Prop) : Int32 := @ite _ p (Classical.propDecidable p) 1 0
theorem b2_1 {p : Prop} (h : p) : b2 p = 1 := by unfold b2; exact @if_pos p (Classical.propDecidable p) h Int32 1 0
theorem b2_0 {p : Prop} (h : ¬ p) : b2 p = 0 := by unfold b2; exact @if_neg p (Classical.propDecidable p) h Int32 1 0
theorem b2_01 (p : Prop) : b2 p = 0 ∨ b2 p = 1 := by
  rcases Classical.em p with h | h
  · exact Or.inr (b2_1 h)
  · exact Or.inl (b2_0 h)
theorem b2_n {p : Prop} (h : b2 p = 0) : ¬ p := by intro hp; rw [b2_1 hp] at h; exact absurd h (by decide)
theorem b2_y {p : Prop} (h : ¬ b2 p = 0) : p := by
  rcases Classical.em p with hp | hp
  · exact hp
  · exact absurd (b2_0 hp) h
/-- a comparison of ints as one of whole numbers -/
theorem i_lt {a b : Int32} : a < b ↔ a.toInt < b.toInt := Int32.lt_iff_toInt_lt
theorem i_le {a b : Int32} : a ≤ b ↔ a.toInt ≤ b.toInt := Int32.le_iff_toInt_le
theorem i_eq {a b : Int32} : a = b ↔ a.toInt = b.toInt := Int32.toInt_inj.symm
theorem vp_of {x : Int32} {n : Nat} (h0 : 0 ≤ x.toInt) (h1 : x.toInt < n) : vp_in x n := vp_in_iff.mpr ⟨h0, h1⟩
theorem m_isField (f : Int32) (A : FI) (B : FJ) : MS 0 1 mtX11_isField [.inl f] (hp A B) (Ret (some (.inl (b2 (0 ≤ f ∧ f < 8)))) (hp A B)) := by
  refine MS_of caX11_isField (L := [some (.inl f)]) rfl rfl ?_
  repeat' (first
      | (refine R_br rfl rfl (fun h => absurd h (by first | decide | (with_reducible assumption))) (fun _ => ?_))
      | (refine R_br rfl rfl (fun _ => ?_) (fun h => absurd (by first | decide | (with_reducible assumption)) h))
      | (refine R_br rfl rfl (fun _ => ?_) (fun _ => ?_))
      | (refine R_ri rfl rfl ?_)
      | (refine R_rz rfl rfl (Or.inl rfl) ?_)
      | (refine R_rz rfl rfl (Or.inr rfl) ?_)
      | (refine R_rz rfl rfl (b2_01 _) ?_)
      | (refine R_rl rfl rfl ?_)
      | (refine R_rv rfl rfl ?_)
      | (refine R_sw _ rfl rfl rfl ?_)
      | (refine R_go 9999 rfl rfl trivial ?_)
      | (refine R_go 9999 rfl rfl ?_ ?_))
  all_goals (refine ret_i ?_ rfl; symm)
  · exact b2_0 (fun z => by simp only [i_lt, i_le, Int32.reduceToInt] at *; omega)
  · exact b2_0 (fun z => by simp only [i_lt, i_le, Int32.reduceToInt] at *; omega)
  · exact b2_1 (by simp only [i_lt, i_le, Int32.reduceToInt] at *; omega)
theorem m_bit (f : Int32) (hf : f = 0 ∨ f = 1) (A : FI) (B : FJ) : MS 0 1 mtX11_bit [.inl f] (hp A B) (Ret (some (.inl f)) (hp A B)) := by
  refine MS_of caX11_bit (L := [some (.inl f)]) rfl rfl ?_
  repeat' (first
      | (refine R_br rfl rfl (fun h => absurd h (by first | decide | (with_reducible assumption))) (fun _ => ?_))
      | (refine R_br rfl rfl (fun _ => ?_) (fun h => absurd (by first | decide | (with_reducible assumption)) h))
      | (refine R_br rfl rfl (fun _ => ?_) (fun _ => ?_))
      | (refine R_ri rfl rfl ?_)
      | (refine R_rz rfl rfl (Or.inl rfl) ?_)
      | (refine R_rz rfl rfl (Or.inr rfl) ?_)
      | (refine R_rz rfl rfl (b2_01 _) ?_)
      | (refine R_rl rfl rfl ?_)
      | (refine R_rv rfl rfl ?_)
      | (refine R_sw _ rfl rfl rfl ?_)
      | (refine R_go 9999 rfl rfl trivial ?_)
      | (refine R_go 9999 rfl rfl ?_ ?_))
  · rename_i h; exact ret_i h.symm rfl
  · rename_i h; exact ret_i (hf.resolve_left h).symm rfl
theorem m_number (i : Nat) (f : Int32) (A : FI) (B : FJ) : MV 1 1 mtX6_number [.inr (.inr (some (24, i))), .inl f] (hp A B) (Ret (some (.inl (if 0 ≤ f ∧ f < 8 then A 25 i f.toNatClampNeg else -1))) (hp A B)) := by
  refine MV_of caX6_number (L := [some (.inr (.inr (some (24, i)))), some (.inl f)]) rfl rfl ?_
  repeat' (first
      | (refine R_br rfl rfl (fun h => absurd h (by first | decide | (with_reducible assumption))) (fun _ => ?_))
      | (refine R_br rfl rfl (fun _ => ?_) (fun h => absurd (by first | decide | (with_reducible assumption)) h))
      | (refine R_br rfl rfl (fun _ => ?_) (fun _ => ?_))
      | (refine R_ri rfl rfl ?_)
      | (refine R_rz rfl rfl (Or.inl rfl) ?_)
      | (refine R_rz rfl rfl (Or.inr rfl) ?_)
      | (refine R_rz rfl rfl (b2_01 _) ?_)
      | (refine R_rl rfl rfl ?_)
      | (refine R_rv rfl rfl ?_)
      | (refine R_csr rfl (m_isField f _ _) rfl rfl rfl (Nat.le_of_ble_eq_true rfl) rfl ?_)
      | (refine R_sw _ rfl rfl rfl ?_)
      | (refine R_go 9999 rfl rfl trivial ?_)
      | (refine R_go 9999 rfl rfl ?_ ?_))
  · rename_i h; exact ret_i (if_neg (b2_n h)).symm rfl
  · rename_i h; have h := b2_y h; exact vp_of (by simp only [i_lt, i_le, Int32.reduceToInt] at h; omega) (by simp only [i_lt, i_le, Int32.reduceToInt] at h; exact h.2)
  · rename_i h; exact ret_i (if_pos (b2_y h)).symm rfl
