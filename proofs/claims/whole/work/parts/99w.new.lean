theorem nkX11_7 : NOK 11 7 3 3 := ⟨TX3, rfl, inX3, tyX3_ok, (wt1 25 (by decide +kernel) (by decide +kernel)), (wt1 26 (by decide +kernel) (by decide +kernel)), (wt1 2 (by decide +kernel) (by decide +kernel)), fun j hj => by
  match j, hj with
  | 0, _ => rfl
  | 1, _ => rfl
  | 2, _ => rfl
  | z + 3, hz => exact absurd hz (by omega)⟩
theorem nkX3_15 : NOK 3 15 7 8 := ⟨TX7, rfl, inX7, tyX7_ok, (wt1 31 (by decide +kernel) (by decide +kernel)), (wt1 33 (by decide +kernel) (by decide +kernel)), (wt1 3 (by decide +kernel) (by decide +kernel)), fun j hj => by
  match j, hj with
  | 0, _ => rfl
  | 1, _ => rfl
  | 2, _ => rfl
  | 3, _ => rfl
  | 4, _ => rfl
  | 5, _ => rfl
  | 6, _ => rfl
  | 7, _ => rfl
  | z + 8, hz => exact absurd hz (by omega)⟩
theorem nkX11_16 : NOK 11 16 5 9 := ⟨TX5, rfl, inX5, tyX5_ok, (wt1 74 (by decide +kernel) (by decide +kernel)), (wt1 75 (by decide +kernel) (by decide +kernel)), (wt1 4 (by decide +kernel) (by decide +kernel)), fun j hj => by
  match j, hj with
  | 0, _ => rfl
  | 1, _ => rfl
  | 2, _ => rfl
  | 3, _ => rfl
  | 4, _ => rfl
  | 5, _ => rfl
  | 6, _ => rfl
  | 7, _ => rfl
  | 8, _ => rfl
  | z + 9, hz => exact absurd hz (by omega)⟩
theorem nkX11_23 : NOK 11 23 7 8 := ⟨TX7, rfl, inX7, tyX7_ok, (wt1 108 (by decide +kernel) (by decide +kernel)), (wt1 33 (by decide +kernel) (by decide +kernel)), (wt1 3 (by decide +kernel) (by decide +kernel)), fun j hj => by
  match j, hj with
  | 0, _ => rfl
  | 1, _ => rfl
  | 2, _ => rfl
  | 3, _ => rfl
  | 4, _ => rfl
  | 5, _ => rfl
  | 6, _ => rfl
  | 7, _ => rfl
  | z + 8, hz => exact absurd hz (by omega)⟩
theorem nkX11_30 : NOK 11 30 10 4 := ⟨TX10, rfl, inX10, tyX10_ok, (wt1 110 (by decide +kernel) (by decide +kernel)), (wt1 111 (by decide +kernel) (by decide +kernel)), (wt1 5 (by decide +kernel) (by decide +kernel)), fun j hj => by
  match j, hj with
  | 0, _ => rfl
  | 1, _ => rfl
  | 2, _ => rfl
  | 3, _ => rfl
  | z + 4, hz => exact absurd hz (by omega)⟩
theorem nkX11_37 : NOK 11 37 9 3 := ⟨TX9, rfl, inX9, tyX9_ok, (wt1 130 (by decide +kernel) (by decide +kernel)), (wt1 131 (by decide +kernel) (by decide +kernel)), (wt1 6 (by decide +kernel) (by decide +kernel)), fun j hj => by
  match j, hj with
  | 0, _ => rfl
  | 1, _ => rfl
  | 2, _ => rfl
  | z + 3, hz => exact absurd hz (by omega)⟩
theorem nkX11_44 : NOK 11 44 8 9 := ⟨TX8, rfl, inX8, tyX8_ok, (wt1 146 (by decide +kernel) (by decide +kernel)), (wt1 147 (by decide +kernel) (by decide +kernel)), (wt1 7 (by decide +kernel) (by decide +kernel)), fun j hj => by
  match j, hj with
  | 0, _ => rfl
  | 1, _ => rfl
  | 2, _ => rfl
  | 3, _ => rfl
  | 4, _ => rfl
  | 5, _ => rfl
  | 6, _ => rfl
  | 7, _ => rfl
  | 8, _ => rfl
  | z + 9, hz => exact absurd hz (by omega)⟩
theorem nkX11_51 : NOK 11 51 1 14 := ⟨TX1, rfl, inX1, tyX1_ok, (wt1 182 (by decide +kernel) (by decide +kernel)), (wt1 183 (by decide +kernel) (by decide +kernel)), (wt1 8 (by decide +kernel) (by decide +kernel)), fun j hj => by
  match j, hj with
  | 0, _ => rfl
  | 1, _ => rfl
  | 2, _ => rfl
  | 3, _ => rfl
  | 4, _ => rfl
  | 5, _ => rfl
  | 6, _ => rfl
  | 7, _ => rfl
  | 8, _ => rfl
  | 9, _ => rfl
  | 10, _ => rfl
  | 11, _ => rfl
  | 12, _ => rfl
  | 13, _ => rfl
  | z + 14, hz => exact absurd hz (by omega)⟩
theorem nkX1_9 : NOK 1 9 6 1 := ⟨TX6, rfl, inX6, tyX6_ok, (wt1 188 (by decide +kernel) (by decide +kernel)), (wt1 190 (by decide +kernel) (by decide +kernel)), (wt1 9 (by decide +kernel) (by decide +kernel)), fun j hj => by
  match j, hj with
  | 0, _ => rfl
  | z + 1, hz => exact absurd hz (by omega)⟩
theorem nkX11_58 : NOK 11 58 4 6 := ⟨TX4, rfl, inX4, tyX4_ok, (wt2 2 (by decide +kernel) (by decide +kernel)), (wt2 3 (by decide +kernel) (by decide +kernel)), (wt1 10 (by decide +kernel) (by decide +kernel)), fun j hj => by
  match j, hj with
  | 0, _ => rfl
  | 1, _ => rfl
  | 2, _ => rfl
  | 3, _ => rfl
  | 4, _ => rfl
  | 5, _ => rfl
  | z + 6, hz => exact absurd hz (by omega)⟩
theorem nkX11_65 : NOK 11 65 2 3 := ⟨TX2, rfl, inX2, tyX2_ok, (wt2 27 (by decide +kernel) (by decide +kernel)), (wt2 28 (by decide +kernel) (by decide +kernel)), (wt1 11 (by decide +kernel) (by decide +kernel)), fun j hj => by
  match j, hj with
  | 0, _ => rfl
  | 1, _ => rfl
  | 2, _ => rfl
  | z + 3, hz => exact absurd hz (by omega)⟩
theorem nkX2_9 : NOK 2 9 6 1 := ⟨TX6, rfl, inX6, tyX6_ok, (wt2 33 (by decide +kernel) (by decide +kernel)), (wt1 190 (by decide +kernel) (by decide +kernel)), (wt1 9 (by decide +kernel) (by decide +kernel)), fun j hj => by
  match j, hj with
  | 0, _ => rfl
  | z + 1, hz => exact absurd hz (by omega)⟩
theorem nkX11_72 : NOK 11 72 0 6 := ⟨TX0, rfl, inX0, tyX0_ok, (wt2 45 (by decide +kernel) (by decide +kernel)), (wt2 46 (by decide +kernel) (by decide +kernel)), (wt1 12 (by decide +kernel) (by decide +kernel)), fun j hj => by
  match j, hj with
  | 0, _ => rfl
  | 1, _ => rfl
  | 2, _ => rfl
  | 3, _ => rfl
  | 4, _ => rfl
  | 5, _ => rfl
  | z + 6, hz => exact absurd hz (by omega)⟩
theorem nkX11_79 : NOK 11 79 6 1 := ⟨TX6, rfl, inX6, tyX6_ok, (wt2 70 (by decide +kernel) (by decide +kernel)), (wt1 190 (by decide +kernel) (by decide +kernel)), (wt1 9 (by decide +kernel) (by decide +kernel)), fun j hj => by
  match j, hj with
  | 0, _ => rfl
  | z + 1, hz => exact absurd hz (by omega)⟩
theorem oiX11 : Cond.methodLink (cnm 11) 1 objectInit ∈ TW := (wt1 22 (by decide +kernel) (by decide +kernel))
theorem oiX3 : Cond.methodLink (cnm 3) 3 objectInit ∈ TW := (wt1 30 (by decide +kernel) (by decide +kernel))
theorem oiX7 : Cond.methodLink (cnm 7) 3 objectInit ∈ TW := (wt1 37 (by decide +kernel) (by decide +kernel))
theorem oiX5 : Cond.methodLink (cnm 5) 3 objectInit ∈ TW := (wt1 79 (by decide +kernel) (by decide +kernel))
theorem oiX10 : Cond.methodLink (cnm 10) 3 objectInit ∈ TW := (wt1 115 (by decide +kernel) (by decide +kernel))
theorem oiX9 : Cond.methodLink (cnm 9) 3 objectInit ∈ TW := (wt1 135 (by decide +kernel) (by decide +kernel))
theorem oiX8 : Cond.methodLink (cnm 8) 5 objectInit ∈ TW := (wt1 151 (by decide +kernel) (by decide +kernel))
theorem oiX1 : Cond.methodLink (cnm 1) 3 objectInit ∈ TW := (wt1 187 (by decide +kernel) (by decide +kernel))
theorem oiX6 : Cond.methodLink (cnm 6) 3 objectInit ∈ TW := (wt1 194 (by decide +kernel) (by decide +kernel))
theorem oiX4 : Cond.methodLink (cnm 4) 3 objectInit ∈ TW := (wt2 7 (by decide +kernel) (by decide +kernel))
theorem oiX2 : Cond.methodLink (cnm 2) 3 objectInit ∈ TW := (wt2 32 (by decide +kernel) (by decide +kernel))
theorem oiX0 : Cond.methodLink (cnm 0) 3 objectInit ∈ TW := (wt2 50 (by decide +kernel) (by decide +kernel))
theorem oiX12 : Cond.methodLink (cnm 12) 1 objectInit ∈ TW := (wt5 77 (by decide +kernel) (by decide +kernel))
theorem acI : Cond.arrayClass Jvm.ClassFile.FieldType.int ∈ TW := (wt1 63 (by decide +kernel) (by decide +kernel))
theorem acJ : Cond.arrayClass Jvm.ClassFile.FieldType.long ∈ TW := (wt1 129 (by decide +kernel) (by decide +kernel))
theorem acZ : Cond.arrayClass Jvm.ClassFile.FieldType.boolean ∈ TW := (wt1 181 (by decide +kernel) (by decide +kernel))
section CN
variable {d kc ks u v : Nat} {mt : MI} {pc nx tg : Nat} {k0 : Int32} {L : List (Option AV)} {S : List AV} {Q : Option AV → AH → Prop}
theorem G_go (sp : Nat) {h : AH} {cs : List Prop} {pc' : Nat} {L' : List (Option AV)} {S' : List AV} {h' : AH} (hb : blk 200 sp mt pc L S h [] = (cs, pc', L', S', h')) (hn : Nat.beq pc pc' = false) (hc : allP cs) (k : R d kc ks u v mt pc' L' S' h' Q) : R d kc ks u v mt pc L S h Q := blk_ok hb hc k
/-- nothing lies where nothing was made -/
def Cln (c : Nat → Nat) (A : FI) (B : FJ) (C : FR) : Prop := ∀ g i s, c g ≤ i → A g i s = 0 ∧ B g i s = 0 ∧ C g i s = none
def cI (c : Nat → Nat) (g : Nat) : Nat → Nat := fun z => if z = g then c g + 1 else c z
theorem clr_id {α : Type} {f : Nat → Nat → Nat → α} {g i : Nat} {x : α} (h : ∀ s, f g i s = x) : clr f g i x = f := by
  funext g' i' s'
  unfold clr
  by_cases h1 : g' = g
  · subst h1
    by_cases h2 : i' = i
    · subst h2; simp [h]
    · simp [h2]
  · simp [h1]
theorem hnew_cl {c : Nat → Nat} {A : FI} {B : FJ} {C : FR} {g : Nat} (h : Cln c A B C) : hnew (c, A, B, C) g = (cI c g, A, B, C) := by
  unfold hnew cI
  rw [clr_id (fun s => (h g (c g) s (Nat.le_refl _)).1), clr_id (fun s => (h g (c g) s (Nat.le_refl _)).2.1), clr_id (fun s => (h g (c g) s (Nat.le_refl _)).2.2)]
theorem Cln_n {c : Nat → Nat} {A : FI} {B : FJ} {C : FR} (g : Nat) (h : Cln c A B C) : Cln (cI c g) A B C := fun g' i s hi => h g' i s (by
  unfold cI at hi
  by_cases e : g' = g
  · subst e; rw [if_pos rfl] at hi; omega
  · rw [if_neg e] at hi; exact hi)
theorem cI_s {c : Nat → Nat} {g : Nat} : cI c g g = c g + 1 := if_pos rfl
theorem cI_n {c : Nat → Nat} {g z : Nat} (h : z ≠ g) : cI c g z = c z := if_neg h
theorem Cln_r {c : Nat → Nat} {A : FI} {B : FJ} {C : FR} {g i s : Nat} {x : Option (Nat × Nat)} (h : Cln c A B C) (hi : i < c g) : Cln c A B (up3 C g i s x) := fun g' i' s' hi' => ⟨(h g' i' s' hi').1, (h g' i' s' hi').2.1, by
  by_cases e : g' = g ∧ i' = i
  · rw [e.1, e.2] at hi'; omega
  · by_cases e1 : g' = g
    · rw [up3_i (fun z => e ⟨e1, z⟩)]; exact (h g' i' s' hi').2.2
    · rw [up3_g e1]; exact (h g' i' s' hi').2.2⟩
theorem G_na {c : Nat → Nat} {A : FI} {B : FJ} {C : FR} (g : Nat) {kk N : Nat} {at1 : ArrayType} {x : Int32} (hcl : Cln c A B C) (hp : mt.2.2 pc = some (.newarray at1, 2, nx, tg, k0)) (hk : kd g = (kk, N)) (hat : (at1 = .int ∧ kk = 13) ∨ (at1 = .long ∧ kk = 14) ∨ (at1 = .boolean ∧ kk = 15)) (harr : Cond.arrayClass (newarray.typeOf at1) ∈ TW) (hx0 : ¬ x < 0) (hxN : x.toNatClampNeg = N) (hb : N * 8 ≤ 536870912) (hu : u + 1 ≤ kc) (hv : v + N ≤ ks)
    (k : R d kc ks (u + 1) (v + N) mt nx L (.inr (.inr (some (g, c g))) :: S) (cI c g, A, B, C) Q) : R d kc ks u v mt pc L (.inl x :: S) (c, A, B, C) Q := s_newarray hp hk hat harr hx0 hxN hb hu hv (by rw [hnew_cl hcl]; exact k)
theorem G_new {c : Nat → Nat} {A : FI} {B : FJ} {C : FR} (g : Nat) {idx ci N : Nat} (hcl : Cln c A B C) (hp : mt.2.2 pc = some (.new idx, 3, nx, tg, k0)) (hk : kd g = (ci, N)) (h13 : ci < 13) (hN : NOK mt.2.1 idx ci N) (hu : u + 1 ≤ kc) (hv : v + N ≤ ks)
    (k : R d kc ks (u + 1) (v + N) mt nx L (.inr (.inr (some (g, c g))) :: S) (cI c g, A, B, C) Q) : R d kc ks u v mt pc L S (c, A, B, C) Q := s_new hp hk h13 hN hu hv (by rw [hnew_cl hcl]; exact k)
end CN
theorem MI_of {d kc ks n : Nat} {mt : MI} {As : List AV} {L : List (Option AV)} {h : AH} {Q : Option AV → AH → Prop} (hc : CI mt n) (hL : eL As ++ pad (mt.1.2.2.1 - wsum As) = L) (hw : Nat.ble (wsum As) mt.1.2.2.1 = true) (k : R d kc ks 0 0 mt 0 L [] h Q) : M d kc ks mt As h Q := M_of hc.1.1 (Nat.le_of_ble_eq_true hw) (by rw [hL]; exact k)
/-- a Person is made -/
theorem i_P {c : Nat → Nat} {A : FI} {B : FJ} {C : FR} {i : Nat} (h : Cln c A B C) : M 1 1 8 mtX6_init [.inr (.inr (some (24, i)))] (c, A, B, C) (fun r h' => r = none ∧ h' = (cI c 25, A, B, up3 C 24 i 0 (some (25, c 25)))) := by
  refine MI_of caX6_init (L := [some (.inr (.inr (some (24, i))))]) rfl rfl ?_
  refine G_go 9999 rfl rfl trivial ?_
  refine s_objInit rfl oiX6 qw_oi qw_oc (by decide) (Nat.zero_le _) ?_
  refine G_go 9999 rfl rfl trivial ?_
  refine G_na 25 h rfl rfl (Or.inl ⟨rfl, rfl⟩) acI (by decide) (by decide) (by decide) (by decide) (by decide) ?_
  refine G_go 9999 rfl rfl trivial ?_
  exact s_return rfl rfl (by decide) (by decide) ⟨rfl, rfl⟩
theorem i_Pg {c : Nat → Nat} {A : FI} {B : FJ} {C : FR} {i : Nat} (h : Cln c A B C) : M 1 1 80 mtX5_init [.inr (.inr (some (8, i)))] (c, A, B, C) (fun r h' => r = none ∧ h' = (cI c 9, A, B, up3 C 8 i 0 (some (9, c 9)))) := by
  refine MI_of caX5_init (L := [some (.inr (.inr (some (8, i))))]) rfl rfl ?_
  refine G_go 9999 rfl rfl trivial ?_
  refine s_objInit rfl oiX5 qw_oi qw_oc (by decide) (Nat.zero_le _) ?_
  refine G_go 9999 rfl rfl trivial ?_
  refine G_na 9 h rfl rfl (Or.inl ⟨rfl, rfl⟩) acI (by decide) (by decide) (by decide) (by decide) (by decide) ?_
  refine G_go 9999 rfl rfl trivial ?_
  exact s_return rfl rfl (by decide) (by decide) ⟨rfl, rfl⟩
