def b2 (p : Prop) [Decidable p] : Int32 := if p then 1 else 0
theorem b2_01 (p : Prop) [Decidable p] : b2 p = 0 ∨ b2 p = 1 := by unfold b2; split <;> simp
theorem m_isField (d : Nat) (f : Int32) (A : FI) (B : FJ) : MS d 1 mtX11_isField [.inl f] (hp A B) (Ret (some (.inl (b2 (0 ≤ f ∧ f < 8)))) (hp A B)) := by
  refine MS_of caX11_isField (L := [some (.inl f)]) rfl rfl ?_
  repeat' (first
    | (refine R_br rfl rfl (fun _ => ?_) (fun _ => ?_))
    | (refine R_rz rfl rfl (Or.inl rfl) ?_)
    | (refine R_rz rfl rfl (Or.inr rfl) ?_)
    | (refine R_go 9999 rfl rfl trivial ?_))
  all_goals (refine ret_i ?_ rfl; simp_all [b2])
  all_goals trace_state
  all_goals sorry
theorem m_number (d i : Nat) (f : Int32) (A : FI) (B : FJ) : MV (d + 1) 1 mtX6_number [.inr (.inr (some (24, i))), .inl f] (hp A B) (Ret (some (.inl (if 0 ≤ f ∧ f < 8 then A 25 i f.toNatClampNeg else -1))) (hp A B)) := by
  refine MV_of caX6_number (L := [some (.inr (.inr (some (24, i)))), some (.inl f)]) rfl rfl ?_
  repeat' (first
    | (refine R_br rfl rfl (fun _ => ?_) (fun _ => ?_))
    | (refine R_ri rfl rfl ?_)
    | (refine R_csr rfl (m_isField d f _ _) rfl rfl rfl (Nat.le_refl _) rfl ?_)
    | (refine R_go 9999 rfl rfl trivial ?_)
    | (refine R_go 9999 rfl rfl ?_ ?_))
  all_goals trace_state
  all_goals sorry
