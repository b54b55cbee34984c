theorem nkX11_7 : NOK 11 7 3 3 := ⟨TX3, rfl, inX3, tyX3_ok, (wt1 25 (by decide +kernel) (by decide +kernel)), (wt1 26 (by decide +kernel) (by decide +kernel)), (wt1 2 (by decide +kernel) (by decide +kernel)), fun j hj => by
  match j, hj with
  | 0, _ => rfl
  | 1, _ => rfl
  | 2, _ => rfl
  | z + 3, hz => exact absurd hz (by omega)⟩
theorem nkX3_15 : NOK 3 15 7 8 := ⟨TX7, rfl, inX7, tyX7_ok, (wt1 31 (by decide +kernel) (by decide +kernel)), (wt1 33 (by decide +kernel) (by decide +kernel)), (wt1 3 (by decide +kernel) (by decide +kernel)), fun j hj => by
  match j, hj with
  | 0, _ => rfl
  | 1, _ => rfl
  | 2, _ => rfl
  | 3, _ => rfl
  | 4, _ => rfl
  | 5, _ => rfl
  | 6, _ => rfl
  | 7, _ => rfl
  | z + 8, hz => exact absurd hz (by omega)⟩
theorem nkX11_16 : NOK 11 16 5 9 := ⟨TX5, rfl, inX5, tyX5_ok, (wt1 74 (by decide +kernel) (by decide +kernel)), (wt1 75 (by decide +kernel) (by decide +kernel)), (wt1 4 (by decide +kernel) (by decide +kernel)), fun j hj => by
  match j, hj with
  | 0, _ => rfl
  | 1, _ => rfl
  | 2, _ => rfl
  | 3, _ => rfl
  | 4, _ => rfl
  | 5, _ => rfl
  | 6, _ => rfl
  | 7, _ => rfl
  | 8, _ => rfl
  | z + 9, hz => exact absurd hz (by omega)⟩
theorem nkX11_23 : NOK 11 23 7 8 := ⟨TX7, rfl, inX7, tyX7_ok, (wt1 108 (by decide +kernel) (by decide +kernel)), (wt1 33 (by decide +kernel) (by decide +kernel)), (wt1 3 (by decide +kernel) (by decide +kernel)), fun j hj => by
  match j, hj with
  | 0, _ => rfl
  | 1, _ => rfl
  | 2, _ => rfl
  | 3, _ => rfl
  | 4, _ => rfl
  | 5, _ => rfl
  | 6, _ => rfl
  | 7, _ => rfl
  | z + 8, hz => exact absurd hz (by omega)⟩
theorem nkX11_30 : NOK 11 30 10 4 := ⟨TX10, rfl, inX10, tyX10_ok, (wt1 110 (by decide +kernel) (by decide +kernel)), (wt1 111 (by decide +kernel) (by decide +kernel)), (wt1 5 (by decide +kernel) (by decide +kernel)), fun j hj => by
  match j, hj with
  | 0, _ => rfl
  | 1, _ => rfl
  | 2, _ => rfl
  | 3, _ => rfl
  | z + 4, hz => exact absurd hz (by omega)⟩
theorem nkX11_37 : NOK 11 37 9 3 := ⟨TX9, rfl, inX9, tyX9_ok, (wt1 130 (by decide +kernel) (by decide +kernel)), (wt1 131 (by decide +kernel) (by decide +kernel)), (wt1 6 (by decide +kernel) (by decide +kernel)), fun j hj => by
  match j, hj with
  | 0, _ => rfl
  | 1, _ => rfl
  | 2, _ => rfl
  | z + 3, hz => exact absurd hz (by omega)⟩
theorem nkX11_44 : NOK 11 44 8 9 := ⟨TX8, rfl, inX8, tyX8_ok, (wt1 146 (by decide +kernel) (by decide +kernel)), (wt1 147 (by decide +kernel) (by decide +kernel)), (wt1 7 (by decide +kernel) (by decide +kernel)), fun j hj => by
  match j, hj with
  | 0, _ => rfl
  | 1, _ => rfl
  | 2, _ => rfl
  | 3, _ => rfl
  | 4, _ => rfl
  | 5, _ => rfl
  | 6, _ => rfl
  | 7, _ => rfl
  | 8, _ => rfl
  | z + 9, hz => exact absurd hz (by omega)⟩
theorem nkX11_51 : NOK 11 51 1 14 := ⟨TX1, rfl, inX1, tyX1_ok, (wt1 182 (by decide +kernel) (by decide +kernel)), (wt1 183 (by decide +kernel) (by decide +kernel)), (wt1 8 (by decide +kernel) (by decide +kernel)), fun j hj => by
  match j, hj with
  | 0, _ => rfl
  | 1, _ => rfl
  | 2, _ => rfl
  | 3, _ => rfl
  | 4, _ => rfl
  | 5, _ => rfl
  | 6, _ => rfl
  | 7, _ => rfl
  | 8, _ => rfl
  | 9, _ => rfl
  | 10, _ => rfl
  | 11, _ => rfl
  | 12, _ => rfl
  | 13, _ => rfl
  | z + 14, hz => exact absurd hz (by omega)⟩
theorem nkX1_9 : NOK 1 9 6 1 := ⟨TX6, rfl, inX6, tyX6_ok, (wt1 188 (by decide +kernel) (by decide +kernel)), (wt1 190 (by decide +kernel) (by decide +kernel)), (wt1 9 (by decide +kernel) (by decide +kernel)), fun j hj => by
  match j, hj with
  | 0, _ => rfl
  | z + 1, hz => exact absurd hz (by omega)⟩
theorem nkX11_58 : NOK 11 58 4 6 := ⟨TX4, rfl, inX4, tyX4_ok, (wt2 2 (by decide +kernel) (by decide +kernel)), (wt2 3 (by decide +kernel) (by decide +kernel)), (wt1 10 (by decide +kernel) (by decide +kernel)), fun j hj => by
  match j, hj with
  | 0, _ => rfl
  | 1, _ => rfl
  | 2, _ => rfl
  | 3, _ => rfl
  | 4, _ => rfl
  | 5, _ => rfl
  | z + 6, hz => exact absurd hz (by omega)⟩
theorem nkX11_65 : NOK 11 65 2 3 := ⟨TX2, rfl, inX2, tyX2_ok, (wt2 27 (by decide +kernel) (by decide +kernel)), (wt2 28 (by decide +kernel) (by decide +kernel)), (wt1 11 (by decide +kernel) (by decide +kernel)), fun j hj => by
  match j, hj with
  | 0, _ => rfl
  | 1, _ => rfl
  | 2, _ => rfl
  | z + 3, hz => exact absurd hz (by omega)⟩
theorem nkX2_9 : NOK 2 9 6 1 := ⟨TX6, rfl, inX6, tyX6_ok, (wt2 33 (by decide +kernel) (by decide +kernel)), (wt1 190 (by decide +kernel) (by decide +kernel)), (wt1 9 (by decide +kernel) (by decide +kernel)), fun j hj => by
  match j, hj with
  | 0, _ => rfl
  | z + 1, hz => exact absurd hz (by omega)⟩
theorem nkX11_72 : NOK 11 72 0 6 := ⟨TX0, rfl, inX0, tyX0_ok, (wt2 45 (by decide +kernel) (by decide +kernel)), (wt2 46 (by decide +kernel) (by decide +kernel)), (wt1 12 (by decide +kernel) (by decide +kernel)), fun j hj => by
  match j, hj with
  | 0, _ => rfl
  | 1, _ => rfl
  | 2, _ => rfl
  | 3, _ => rfl
  | 4, _ => rfl
  | 5, _ => rfl
  | z + 6, hz => exact absurd hz (by omega)⟩
theorem nkX11_79 : NOK 11 79 6 1 := ⟨TX6, rfl, inX6, tyX6_ok, (wt2 70 (by decide +kernel) (by decide +kernel)), (wt1 190 (by decide +kernel) (by decide +kernel)), (wt1 9 (by decide +kernel) (by decide +kernel)), fun j hj => by
  match j, hj with
  | 0, _ => rfl
  | z + 1, hz => exact absurd hz (by omega)⟩
theorem oiX11 : Cond.methodLink (cnm 11) 1 objectInit ∈ TW := (wt1 22 (by decide +kernel) (by decide +kernel))
theorem oiX3 : Cond.methodLink (cnm 3) 3 objectInit ∈ TW := (wt1 30 (by decide +kernel) (by decide +kernel))
theorem oiX7 : Cond.methodLink (cnm 7) 3 objectInit ∈ TW := (wt1 37 (by decide +kernel) (by decide +kernel))
theorem oiX5 : Cond.methodLink (cnm 5) 3 objectInit ∈ TW := (wt1 79 (by decide +kernel) (by decide +kernel))
theorem oiX10 : Cond.methodLink (cnm 10) 3 objectInit ∈ TW := (wt1 115 (by decide +kernel) (by decide +kernel))
theorem oiX9 : Cond.methodLink (cnm 9) 3 objectInit ∈ TW := (wt1 135 (by decide +kernel) (by decide +kernel))
theorem oiX8 : Cond.methodLink (cnm 8) 5 objectInit ∈ TW := (wt1 151 (by decide +kernel) (by decide +kernel))
theorem oiX1 : Cond.methodLink (cnm 1) 3 objectInit ∈ TW := (wt1 187 (by decide +kernel) (by decide +kernel))
theorem oiX6 : Cond.methodLink (cnm 6) 3 objectInit ∈ TW := (wt1 194 (by decide +kernel) (by decide +kernel))
theorem oiX4 : Cond.methodLink (cnm 4) 3 objectInit ∈ TW := (wt2 7 (by decide +kernel) (by decide +kernel))
theorem oiX2 : Cond.methodLink (cnm 2) 3 objectInit ∈ TW := (wt2 32 (by decide +kernel) (by decide +kernel))
theorem oiX0 : Cond.methodLink (cnm 0) 3 objectInit ∈ TW := (wt2 50 (by decide +kernel) (by decide +kernel))
theorem oiX12 : Cond.methodLink (cnm 12) 1 objectInit ∈ TW := (wt5 77 (by decide +kernel) (by decide +kernel))
theorem acI : Cond.arrayClass Jvm.ClassFile.FieldType.int ∈ TW := (wt1 63 (by decide +kernel) (by decide +kernel))
theorem acJ : Cond.arrayClass Jvm.ClassFile.FieldType.long ∈ TW := (wt1 129 (by decide +kernel) (by decide +kernel))
theorem acZ : Cond.arrayClass Jvm.ClassFile.FieldType.boolean ∈ TW := (wt1 181 (by decide +kernel) (by decide +kernel))
section CN
variable {d kc ks u v : Nat} {mt : MI} {pc nx tg : Nat} {k0 : Int32} {L : List (Option AV)} {S : List AV} {Q : Option AV → AH → Prop}
theorem G_go (sp : Nat) {h : AH} {cs : List Prop} {pc' : Nat} {L' : List (Option AV)} {S' : List AV} {h' : AH} (hb : blk 200 sp mt pc L S h [] = (cs, pc', L', S', h')) (hn : Nat.beq pc pc' = false) (hc : allP cs) (k : R d kc ks u v mt pc' L' S' h' Q) : R d kc ks u v mt pc L S h Q := blk_ok hb hc k
/-- nothing lies where nothing was made -/
def Cln (c : Nat → Nat) (A : FI) (B : FJ) (C : FR) : Prop := ∀ g i s, c g ≤ i → A g i s = 0 ∧ B g i s = 0 ∧ C g i s = none
def cI (c : Nat → Nat) (g : Nat) : Nat → Nat := fun z => if z = g then c g + 1 else c z
theorem clr_id {α : Type} {f : Nat → Nat → Nat → α} {g i : Nat} {x : α} (h : ∀ s, f g i s = x) : clr f g i x = f := by
  funext g' i' s'
  unfold clr
  by_cases h1 : g' = g
  · subst h1
    by_cases h2 : i' = i
    · subst h2; simp [h]
    · simp [h2]
  · simp [h1]
theorem hnew_cl {c : Nat → Nat} {A : FI} {B : FJ} {C : FR} {g : Nat} (h : Cln c A B C) : hnew (c, A, B, C) g = (cI c g, A, B, C) := by
  unfold hnew cI
  rw [clr_id (fun s => (h g (c g) s (Nat.le_refl _)).1), clr_id (fun s => (h g (c g) s (Nat.le_refl _)).2.1), clr_id (fun s => (h g (c g) s (Nat.le_refl _)).2.2)]
theorem Cln_n {c : Nat → Nat} {A : FI} {B : FJ} {C : FR} (g : Nat) (h : Cln c A B C) : Cln (cI c g) A B C := fun g' i s hi => h g' i s (by
  unfold cI at hi
  by_cases e : g' = g
  · subst e; rw [if_pos rfl] at hi; omega
  · rw [if_neg e] at hi; exact hi)
theorem cI_s {c : Nat → Nat} {g : Nat} : cI c g g = c g + 1 := if_pos rfl
theorem cI_n {c : Nat → Nat} {g z : Nat} (h : z ≠ g) : cI c g z = c z := if_neg h
theorem Cln_r {c : Nat → Nat} {A : FI} {B : FJ} {C : FR} {g i s : Nat} {x : Option (Nat × Nat)} (h : Cln c A B C) (hi : i < c g) : Cln c A B (up3 C g i s x) := fun g' i' s' hi' => ⟨(h g' i' s' hi').1, (h g' i' s' hi').2.1, by
  by_cases e : g' = g ∧ i' = i
  · rw [e.1, e.2] at hi'; omega
  · by_cases e1 : g' = g
    · rw [up3_i (fun z => e ⟨e1, z⟩)]; exact (h g' i' s' hi').2.2
    · rw [up3_g e1]; exact (h g' i' s' hi').2.2⟩
theorem G_na {c : Nat → Nat} {A : FI} {B : FJ} {C : FR} (g : Nat) {kk N : Nat} {at1 : ArrayType} {x : Int32} (hcl : Cln c A B C) (hp : mt.2.2 pc = some (.newarray at1, 2, nx, tg, k0)) (hk : kd g = (kk, N)) (hat : (at1 = .int ∧ kk = 13) ∨ (at1 = .long ∧ kk = 14) ∨ (at1 = .boolean ∧ kk = 15)) (harr : Cond.arrayClass (newarray.typeOf at1) ∈ TW) (hx0 : ¬ x < 0) (hxN : x.toNatClampNeg = N) (hb : N * 8 ≤ 536870912) (hu : u + 1 ≤ kc) (hv : v + N ≤ ks)
    (k : R d kc ks (u + 1) (v + N) mt nx L (.inr (.inr (some (g, c g))) :: S) (cI c g, A, B, C) Q) : R d kc ks u v mt pc L (.inl x :: S) (c, A, B, C) Q := s_newarray hp hk hat harr hx0 hxN hb hu hv (by rw [hnew_cl hcl]; exact k)
theorem G_new {c : Nat → Nat} {A : FI} {B : FJ} {C : FR} (g : Nat) {idx ci N : Nat} (hcl : Cln c A B C) (hp : mt.2.2 pc = some (.new idx, 3, nx, tg, k0)) (hk : kd g = (ci, N)) (h13 : ci < 13) (hN : NOK mt.2.1 idx ci N) (hu : u + 1 ≤ kc) (hv : v + N ≤ ks)
    (k : R d kc ks (u + 1) (v + N) mt nx L (.inr (.inr (some (g, c g))) :: S) (cI c g, A, B, C) Q) : R d kc ks u v mt pc L S (c, A, B, C) Q := s_new hp hk h13 hN hu hv (by rw [hnew_cl hcl]; exact k)
end CN
theorem MI_of {d kc ks n : Nat} {mt : MI} {As : List AV} {L : List (Option AV)} {h : AH} {Q : Option AV → AH → Prop} (hc : CI mt n) (hL : eL As ++ pad (mt.1.2.2.1 - wsum As) = L) (hw : Nat.ble (wsum As) mt.1.2.2.1 = true) (k : R d kc ks 0 0 mt 0 L [] h Q) : M d kc ks mt As h Q := M_of hc.1.1 (Nat.le_of_ble_eq_true hw) (by rw [hL]; exact k)
theorem Cln_j {c : Nat → Nat} {A : FI} {B : FJ} {C : FR} {g i s : Nat} {x : Int64} (h : Cln c A B C) (hi : i < c g) : Cln c A (up3 B g i s x) C := fun g' i' s' hi' => ⟨(h g' i' s' hi').1, by
  by_cases e : g' = g ∧ i' = i
  · rw [e.1, e.2] at hi'; omega
  · by_cases e1 : g' = g
    · rw [up3_i (fun z => e ⟨e1, z⟩)]; exact (h g' i' s' hi').2.1
    · rw [up3_g e1]; exact (h g' i' s' hi').2.1, (h g' i' s' hi').2.2⟩
theorem Cln_i {c : Nat → Nat} {A : FI} {B : FJ} {C : FR} {g i s : Nat} {x : Int32} (h : Cln c A B C) (hi : i < c g) : Cln c (up3 A g i s x) B C := fun g' i' s' hi' => ⟨by
  by_cases e : g' = g ∧ i' = i
  · rw [e.1, e.2] at hi'; omega
  · by_cases e1 : g' = g
    · rw [up3_i (fun z => e ⟨e1, z⟩)]; exact (h g' i' s' hi').1
    · rw [up3_g e1]; exact (h g' i' s' hi').1, (h g' i' s' hi').2⟩
theorem G_pr {d kc ks u v : Nat} {mt : MI} {pc nx tg : Nat} {k0 : Int32} {L : List (Option AV)} {S : List AV} {Q : Option AV → AH → Prop} {c : Nat → Nat} {A : FI} {B : FJ} {C : FR} {idx g i s n : Nat} {x : Option (Nat × Nat)} (hp : mt.2.2 pc = some (.putfield idx, 3, nx, tg, k0)) (hf : FOK mt.2.1 idx s 3) (hk : kd g = (mt.2.1, n)) (h13 : mt.2.1 < 13) (hs : s < n) (hnm : mt.1.1.name = "<init>")
    (k : R d kc ks u v mt nx L S (c, A, B, up3 C g i s x) Q) : R d kc ks u v mt pc L (.inr (.inr x) :: .inr (.inr (some (g, i))) :: S) (c, A, B, C) Q := s_putfield hp hf hk h13 hs rfl (fun _ => hnm) k
theorem G_an {d kc ks u v : Nat} {mt : MI} {pc nx tg : Nat} {k0 : Int32} {L : List (Option AV)} {S : List AV} {Q : Option AV → AH → Prop} {c : Nat → Nat} {A : FI} {B : FJ} {C : FR} (g : Nat) {idx kk N : Nat} {W : String} {x : Int32} (hcl : Cln c A B C) (hp : mt.2.2 pc = some (.anewarray idx, 3, nx, tg, k0)) (hk : kd g = (kk, N)) (h16 : 16 ≤ kk) (hC : aty kk = .object W) (hCn : W = "AlikeUnlike$Person" ∨ W = "AlikeUnlike$Script") (hw : Cond.classLink (cnm mt.2.1) idx W ∈ TW) (hx0 : ¬ x < 0) (hxN : x.toNatClampNeg = N) (hb : N * 4 ≤ 536870912) (hu : u + 1 ≤ kc) (hv : v + N ≤ ks)
    (k : R d kc ks (u + 1) (v + N) mt nx L (.inr (.inr (some (g, c g))) :: S) (cI c g, A, B, C) Q) : R d kc ks u v mt pc L (.inl x :: S) (c, A, B, C) Q := s_anewarray hp hk h16 hC hCn hw hx0 hxN hb hu hv (by rw [hnew_cl hcl]; exact k)
theorem NOK_w {k idx ci N : Nat} (h : NOK k idx ci N) : Cond.classLink (cnm k) idx (cnm ci) ∈ TW := h.elim fun _ h => h.2.2.2.1
theorem NOK_c {k idx ci N : Nat} (h : NOK k idx ci N) : ∃ T, cls[ci]? = some (cnm ci, T, N) := h.elim fun T h => ⟨T, h.1⟩
def ncX6_init (c : Nat → Nat) : Nat → Nat := (cI c 25)
def nCX6_init (c : Nat → Nat) (C : FR) (i : Nat) : FR := (up3 C 24 i 0 (some (25, (c 25))))
theorem i_P {c : Nat → Nat} {A : FI} {B : FJ} {C : FR} {i : Nat} (h : Cln c A B C) (hi : i < c 24) : M 1 1 8 mtX6_init [.inr (.inr (some (24, i)))] (c, A, B, C) (fun r h' => r = none ∧ h' = (ncX6_init c, A, B, nCX6_init c C i) ∧ Cln (ncX6_init c) A B (nCX6_init c C i)) := by
  refine MI_of caX6_init (L := [some (.inr (.inr (some (24, i))))]) rfl rfl ?_
  refine G_go 9999 rfl rfl trivial ?_
  refine s_objInit rfl oiX6 qw_oi qw_oc (by decide) (Nat.zero_le _) ?_
  refine G_go 9999 rfl rfl trivial ?_
  refine G_na 25 h rfl rfl (Or.inl ⟨rfl, rfl⟩) acI (by decide) (by decide) (by decide) (by decide) (by decide) ?_
  refine G_pr rfl fdX6_9 rfl (by decide) (by decide) rfl ?_
  exact s_return rfl rfl (by decide) (by decide) ⟨rfl, rfl, (Cln_r (Cln_n 25 h) hi)⟩
def ncX5_init (c : Nat → Nat) : Nat → Nat := (cI c 9)
def nCX5_init (c : Nat → Nat) (C : FR) (i : Nat) : FR := (up3 C 8 i 0 (some (9, (c 9))))
theorem i_Pg {c : Nat → Nat} {A : FI} {B : FJ} {C : FR} {i : Nat} (h : Cln c A B C) (hi : i < c 8) : M 1 1 80 mtX5_init [.inr (.inr (some (8, i)))] (c, A, B, C) (fun r h' => r = none ∧ h' = (ncX5_init c, A, B, nCX5_init c C i) ∧ Cln (ncX5_init c) A B (nCX5_init c C i)) := by
  refine MI_of caX5_init (L := [some (.inr (.inr (some (8, i))))]) rfl rfl ?_
  refine G_go 9999 rfl rfl trivial ?_
  refine s_objInit rfl oiX5 qw_oi qw_oc (by decide) (Nat.zero_le _) ?_
  refine G_go 9999 rfl rfl trivial ?_
  refine G_na 9 h rfl rfl (Or.inl ⟨rfl, rfl⟩) acI (by decide) (by decide) (by decide) (by decide) (by decide) ?_
  refine G_pr rfl fdX5_9 rfl (by decide) (by decide) rfl ?_
  exact s_return rfl rfl (by decide) (by decide) ⟨rfl, rfl, (Cln_r (Cln_n 9 h) hi)⟩
def ncX7_init (c : Nat → Nat) : Nat → Nat := (cI (cI (cI c 5) 6) 7)
def nCX7_init (c : Nat → Nat) (C : FR) (i : Nat) : FR := (up3 (up3 (up3 C 4 i 0 (some (5, (c 5)))) 4 i 1 (some (6, (c 6)))) 4 i 2 (some (7, (c 7))))
theorem i_S {c : Nat → Nat} {A : FI} {B : FJ} {C : FR} {i : Nat} (h : Cln c A B C) (hi : i < c 4) : M 1 3 240 mtX7_init [.inr (.inr (some (4, i)))] (c, A, B, C) (fun r h' => r = none ∧ h' = (ncX7_init c, A, B, nCX7_init c C i) ∧ Cln (ncX7_init c) A B (nCX7_init c C i)) := by
  refine MI_of caX7_init (L := [some (.inr (.inr (some (4, i))))]) rfl rfl ?_
  refine G_go 9999 rfl rfl trivial ?_
  refine s_objInit rfl oiX7 qw_oi qw_oc (by decide) (Nat.zero_le _) ?_
  refine G_go 9999 rfl rfl trivial ?_
  refine G_na 5 h rfl rfl (Or.inl ⟨rfl, rfl⟩) acI (by decide) (by decide) (by decide) (by decide) (by decide) ?_
  refine G_pr rfl fdX7_9 rfl (by decide) (by decide) rfl ?_
  refine G_go 9999 rfl rfl trivial ?_
  refine G_na 6 (Cln_r (Cln_n 5 h) hi) rfl rfl (Or.inl ⟨rfl, rfl⟩) acI (by decide) (by decide) (by decide) (by decide) (by decide) ?_
  refine G_pr rfl fdX7_15 rfl (by decide) (by decide) rfl ?_
  refine G_go 9999 rfl rfl trivial ?_
  refine G_na 7 (Cln_r (Cln_n 6 (Cln_r (Cln_n 5 h) hi)) hi) rfl rfl (Or.inl ⟨rfl, rfl⟩) acI (by decide) (by decide) (by decide) (by decide) (by decide) ?_
  refine G_pr rfl fdX7_18 rfl (by decide) (by decide) rfl ?_
  exact s_return rfl rfl (by decide) (by decide) ⟨rfl, rfl, (Cln_r (Cln_n 7 (Cln_r (Cln_n 6 (Cln_r (Cln_n 5 h) hi)) hi)) hi)⟩
def ncX10_init (c : Nat → Nat) : Nat → Nat := (cI c 11)
def nCX10_init (c : Nat → Nat) (C : FR) (i : Nat) : FR := (up3 C 10 i 0 (some (11, (c 11))))
theorem i_W {c : Nat → Nat} {A : FI} {B : FJ} {C : FR} {i : Nat} (h : Cln c A B C) (hi : i < c 10) : M 1 1 80 mtX10_init [.inr (.inr (some (10, i)))] (c, A, B, C) (fun r h' => r = none ∧ h' = (ncX10_init c, A, B, nCX10_init c C i) ∧ Cln (ncX10_init c) A B (nCX10_init c C i)) := by
  refine MI_of caX10_init (L := [some (.inr (.inr (some (10, i))))]) rfl rfl ?_
  refine G_go 9999 rfl rfl trivial ?_
  refine s_objInit rfl oiX10 qw_oi qw_oc (by decide) (Nat.zero_le _) ?_
  refine G_go 9999 rfl rfl trivial ?_
  refine G_na 11 h rfl rfl (Or.inr (Or.inl ⟨rfl, rfl⟩)) acJ (by decide) (by decide) (by decide) (by decide) (by decide) ?_
  refine G_pr rfl fdX10_9 rfl (by decide) (by decide) rfl ?_
  exact s_return rfl rfl (by decide) (by decide) ⟨rfl, rfl, (Cln_r (Cln_n 11 h) hi)⟩
def ncX9_init (c : Nat → Nat) : Nat → Nat := (cI (cI c 13) 14)
def nCX9_init (c : Nat → Nat) (C : FR) (i : Nat) : FR := (up3 (up3 C 12 i 0 (some (13, (c 13)))) 12 i 1 (some (14, (c 14))))
theorem i_Sp {c : Nat → Nat} {A : FI} {B : FJ} {C : FR} {i : Nat} (h : Cln c A B C) (hi : i < c 12) : M 1 2 160 mtX9_init [.inr (.inr (some (12, i)))] (c, A, B, C) (fun r h' => r = none ∧ h' = (ncX9_init c, A, B, nCX9_init c C i) ∧ Cln (ncX9_init c) A B (nCX9_init c C i)) := by
  refine MI_of caX9_init (L := [some (.inr (.inr (some (12, i))))]) rfl rfl ?_
  refine G_go 9999 rfl rfl trivial ?_
  refine s_objInit rfl oiX9 qw_oi qw_oc (by decide) (Nat.zero_le _) ?_
  refine G_go 9999 rfl rfl trivial ?_
  refine G_na 13 h rfl rfl (Or.inr (Or.inl ⟨rfl, rfl⟩)) acJ (by decide) (by decide) (by decide) (by decide) (by decide) ?_
  refine G_pr rfl fdX9_9 rfl (by decide) (by decide) rfl ?_
  refine G_go 9999 rfl rfl trivial ?_
  refine G_na 14 (Cln_r (Cln_n 13 h) hi) rfl rfl (Or.inr (Or.inl ⟨rfl, rfl⟩)) acJ (by decide) (by decide) (by decide) (by decide) (by decide) ?_
  refine G_pr rfl fdX9_15 rfl (by decide) (by decide) rfl ?_
  exact s_return rfl rfl (by decide) (by decide) ⟨rfl, rfl, (Cln_r (Cln_n 14 (Cln_r (Cln_n 13 h) hi)) hi)⟩
def ncX4_init (c : Nat → Nat) : Nat → Nat := (cI c 27)
def nCX4_init (c : Nat → Nat) (C : FR) (i : Nat) : FR := (up3 C 26 i 0 (some (27, (c 27))))
theorem i_Me {c : Nat → Nat} {A : FI} {B : FJ} {C : FR} {i : Nat} (h : Cln c A B C) (hi : i < c 26) : M 1 1 24 mtX4_init [.inr (.inr (some (26, i)))] (c, A, B, C) (fun r h' => r = none ∧ h' = (ncX4_init c, A, B, nCX4_init c C i) ∧ Cln (ncX4_init c) A B (nCX4_init c C i)) := by
  refine MI_of caX4_init (L := [some (.inr (.inr (some (26, i))))]) rfl rfl ?_
  refine G_go 9999 rfl rfl trivial ?_
  refine s_objInit rfl oiX4 qw_oi qw_oc (by decide) (Nat.zero_le _) ?_
  refine G_go 9999 rfl rfl trivial ?_
  refine G_na 27 h rfl rfl (Or.inl ⟨rfl, rfl⟩) acI (by decide) (by decide) (by decide) (by decide) (by decide) ?_
  refine G_pr rfl fdX4_9 rfl (by decide) (by decide) rfl ?_
  exact s_return rfl rfl (by decide) (by decide) ⟨rfl, rfl, (Cln_r (Cln_n 27 h) hi)⟩
def ncX0_init (c : Nat → Nat) : Nat → Nat := c
def nCX0_init (c : Nat → Nat) (C : FR) (i : Nat) : FR := C
theorem i_As {c : Nat → Nat} {A : FI} {B : FJ} {C : FR} {i : Nat} (h : Cln c A B C) (hi : i < c 29) : M 1 0 0 mtX0_init [.inr (.inr (some (29, i)))] (c, A, B, C) (fun r h' => r = none ∧ h' = (ncX0_init c, A, B, nCX0_init c C i) ∧ Cln (ncX0_init c) A B (nCX0_init c C i)) := by
  refine MI_of caX0_init (L := [some (.inr (.inr (some (29, i))))]) rfl rfl ?_
  refine G_go 9999 rfl rfl trivial ?_
  refine s_objInit rfl oiX0 qw_oi qw_oc (by decide) (Nat.zero_le _) ?_
  exact s_return rfl rfl (by decide) (by decide) ⟨rfl, rfl, h⟩
def ncX2_init (c : Nat → Nat) : Nat → Nat := (ncX6_init (cI (ncX6_init (cI c 24)) 24))
def nCX2_init (c : Nat → Nat) (C : FR) (i : Nat) : FR := (up3 (nCX6_init (cI (ncX6_init (cI c 24)) 24) (up3 (nCX6_init (cI c 24) C (c 24)) 28 i 0 (some (24, (c 24)))) (c 24 + 1)) 28 i 1 (some (24, (c 24 + 1))))
theorem i_Ch {c : Nat → Nat} {A : FI} {B : FJ} {C : FR} {i : Nat} (h : Cln c A B C) (hi : i < c 28) : M 2 4 18 mtX2_init [.inr (.inr (some (28, i)))] (c, A, B, C) (fun r h' => r = none ∧ h' = (ncX2_init c, A, B, nCX2_init c C i) ∧ Cln (ncX2_init c) A B (nCX2_init c C i)) := by
  refine MI_of caX2_init (L := [some (.inr (.inr (some (28, i))))]) rfl rfl ?_
  refine G_go 9999 rfl rfl trivial ?_
  refine s_objInit rfl oiX2 qw_oi qw_oc (by decide) (Nat.zero_le _) ?_
  refine G_go 9999 rfl rfl trivial ?_
  refine G_new 24 h rfl rfl (by decide) nkX2_9 (by decide) (by decide) ?_
  refine G_go 9999 rfl rfl trivial ?_
  refine s_init (mt2 := mtX6_init) rfl lkX2_11 caX6_init (i_P (Cln_n 24 h) (Nat.lt_succ_self _)) rfl rfl (by decide) ⟨by decide, by decide⟩ (Nat.le_of_ble_eq_true rfl) ?_
  rintro r1 h1 ⟨rfl, rfl, h⟩
  refine G_pr rfl fdX2_12 rfl (by decide) (by decide) rfl ?_
  refine G_go 9999 rfl rfl trivial ?_
  refine G_new 24 (Cln_r h hi) rfl rfl (by decide) nkX2_9 (by decide) (by decide) ?_
  refine G_go 9999 rfl rfl trivial ?_
  refine s_init (mt2 := mtX6_init) rfl lkX2_11 caX6_init (i_P (Cln_n 24 (Cln_r h hi)) (Nat.lt_succ_self _)) rfl rfl (by decide) ⟨by decide, by decide⟩ (Nat.le_of_ble_eq_true rfl) ?_
  rintro r1 h1 ⟨rfl, rfl, h⟩
  refine G_pr rfl fdX2_18 rfl (by decide) (by decide) rfl ?_
  exact s_return rfl rfl (by decide) (by decide) ⟨rfl, rfl, (Cln_r h hi)⟩
def ncX8_init (c : Nat → Nat) : Nat → Nat := (cI (cI c 16) 17)
def nCX8_init (c : Nat → Nat) (C : FR) (i : Nat) : FR := (up3 (up3 C 15 i 0 (some (16, (c 16)))) 15 i 1 (some (17, (c 17))))
theorem i_Se {c : Nat → Nat} {A : FI} {B : FJ} {C : FR} {i : Nat} (h : Cln c A B C) (hi : i < c 15) : M 1 2 2600 mtX8_init [.inr (.inr (some (15, i)))] (c, A, B, C) (fun r h' => r = none ∧ h' = (ncX8_init c, A, (up3 (up3 B 15 i 7 (-1)) 15 i 8 (-1)), nCX8_init c C i) ∧ Cln (ncX8_init c) A (up3 (up3 B 15 i 7 (-1)) 15 i 8 (-1)) (nCX8_init c C i)) := by
  refine MI_of caX8_init (L := [some (.inr (.inr (some (15, i))))]) rfl rfl ?_
  refine G_go 9999 rfl rfl trivial ?_
  refine s_objInit rfl oiX8 qw_oi qw_oc (by decide) (Nat.zero_le _) ?_
  refine G_go 9999 rfl rfl trivial ?_
  refine G_na 16 h rfl rfl (Or.inl ⟨rfl, rfl⟩) acI (by decide) (by decide) (by decide) (by decide) (by decide) ?_
  refine G_pr rfl fdX8_11 rfl (by decide) (by decide) rfl ?_
  refine G_go 9999 rfl rfl trivial ?_
  refine G_na 17 (Cln_r (Cln_n 16 h) hi) rfl rfl (Or.inr (Or.inr ⟨rfl, rfl⟩)) acZ (by decide) (by decide) (by decide) (by decide) (by decide) ?_
  refine G_pr rfl fdX8_15 rfl (by decide) (by decide) rfl ?_
  refine G_go 9999 rfl rfl trivial ?_
  exact s_return rfl rfl (by decide) (by decide) ⟨rfl, rfl, (Cln_j (Cln_j (Cln_r (Cln_n 17 (Cln_r (Cln_n 16 h) hi)) hi) hi) hi)⟩
