theorem qw_math : Cond.initialized "java/lang/Math" ∈ TW := wt1 14 (by decide +kernel) (by decide +kernel)
theorem qw_abs_s : Cond.static Lib.Math.abs.name ∈ TW := wt4 101 (by decide +kernel) (by decide +kernel)
theorem qw_abs_c : Cond.code Lib.Math.abs.name Lib.Math.abs.code 1 (some .int) ∈ TW := wt4 102 (by decide +kernel) (by decide +kernel)
theorem qm_X1_83 : Cond.methodLink (cnm 1) 83 Lib.Math.abs.name ∈ TW := wt4 100 (by decide +kernel) (by decide +kernel)
theorem qm_X4_68 : Cond.methodLink (cnm 4) 68 Lib.Math.abs.name ∈ TW := wt4 222 (by decide +kernel) (by decide +kernel)
theorem qm_X2_65 : Cond.methodLink (cnm 2) 65 Lib.Math.abs.name ∈ TW := wt5 23 (by decide +kernel) (by decide +kernel)
theorem qw_max_s : Cond.static Lib.Math.max.name ∈ TW := wt3 54 (by decide +kernel) (by decide +kernel)
theorem qw_max_c : Cond.code Lib.Math.max.name Lib.Math.max.code 2 (some .int) ∈ TW := wt3 55 (by decide +kernel) (by decide +kernel)
theorem qm_X7_70 : Cond.methodLink (cnm 7) 70 Lib.Math.max.name ∈ TW := wt3 53 (by decide +kernel) (by decide +kernel)
theorem qm_X1_123 : Cond.methodLink (cnm 1) 123 Lib.Math.max.name ∈ TW := wt4 140 (by decide +kernel) (by decide +kernel)
theorem qm_X0_44 : Cond.methodLink (cnm 0) 44 Lib.Math.max.name ∈ TW := wt4 179 (by decide +kernel) (by decide +kernel)
theorem qw_maxl_s : Cond.static Lib.MathLoose.max_long.x ∈ TW := wt3 220 (by decide +kernel) (by decide +kernel)
theorem qw_maxl_c : Cond.code Lib.MathLoose.max_long.x Lib.MathLoose.max_long.code 4 (some .long) ∈ TW := wt3 221 (by decide +kernel) (by decide +kernel)
theorem qm_X9_56 : Cond.methodLink (cnm 9) 56 Lib.MathLoose.max_long.x ∈ TW := wt3 219 (by decide +kernel) (by decide +kernel)
theorem qw_minl_s : Cond.static Lib.MathLoose.min_long.x ∈ TW := wt3 217 (by decide +kernel) (by decide +kernel)
theorem qw_minl_c : Cond.code Lib.MathLoose.min_long.x Lib.MathLoose.min_long.code 4 (some .long) ∈ TW := wt3 218 (by decide +kernel) (by decide +kernel)
theorem qm_X9_50 : Cond.methodLink (cnm 9) 50 Lib.MathLoose.min_long.x ∈ TW := wt3 216 (by decide +kernel) (by decide +kernel)
theorem qw_acn : Cond.native arraycopyName ∈ TW := wt3 239 (by decide +kernel) (by decide +kernel)
theorem qw_acs : Cond.static arraycopyName ∈ TW := wt3 238 (by decide +kernel) (by decide +kernel)
theorem qw_acl : Cond.methodLink (cnm 8) 90 arraycopyName ∈ TW := wt3 237 (by decide +kernel) (by decide +kernel)
theorem qw_sys : Cond.initialized "java/lang/System" ∈ TW := wt1 15 (by decide +kernel) (by decide +kernel)
theorem qw_oi : Cond.instanceMethod objectInit ∈ TW := wt1 23 (by decide +kernel) (by decide +kernel)
theorem qw_oc : Cond.code objectInit ⟨#[0xb1]⟩ 1 none ∈ TW := wt1 24 (by decide +kernel) (by decide +kernel)
def toN (z : Int) : Option Nat := match z with
  | .ofNat n => some n
  | .negSucc _ => none
theorem toN_ok {z : Int} {n : Nat} (h : toN z = some n) : z = (n : Int) := by
  cases z with
  | ofNat m => cases h; rfl
  | negSucc m => cases h
/-- where a tableswitch goes -/
def swN (pc : Nat) (dflt lo hi : Int) (offs : Array Int) (w : Int) : Option Nat := if w < lo ∨ hi < w then toN ((pc : Int) + dflt) else match offs[(w - lo).toNat]? with
  | some off => toN ((pc : Int) + off)
  | none => none
section SW
variable {d kc ks u v : Nat} {mt : MI} {pc nx tg : Nat} {k0 : Int32} {L : List (Option AV)} {S : List AV} {h : AH} {Q : Option AV → AH → Prop}
theorem R_sw {dflt lo hi : Int} {offs : Array Int} {len tgt : Nat} {x : Int32} (w : Int) (hw : x.toInt = w) (hp : mt.2.2 pc = some (.tableswitch dflt lo hi offs, len, nx, tg, k0)) (ht : swN pc dflt lo hi offs w = some tgt) (k : R d kc ks u v mt tgt L S h Q) : R d kc ks u v mt pc L (.inl x :: S) h Q := by
  intro l p e s m args below meth c A D G0 G H locs ls F I hS hL hl
  obtain ⟨hm, hx, hb, hr, hml, hown, hts, hlk, hnm⟩ := id F
  obtain ⟨hdg, hnx, htg, hck⟩ := hm.1 _ _ _ _ _ _ hp
  have kk := k l p e s m args below meth c A D G0 G H locs ls F I (ok_tl hS) hL hl
  unfold swN at ht
  split at ht
  · rename_i ho
    exact lv_tableOut hx hb hdg (by rw [hw]; exact ho) (toN_ok ht) kk
  · rename_i ho
    split at ht
    · rename_i off hoff
      exact lv_tableIn hx hb hdg (by rw [hw]; exact fun z => ho (Or.inl z)) (by rw [hw]; exact fun z => ho (Or.inr z)) (by rw [hw]; exact hoff) (toN_ok ht) kk
    · cases ht
theorem R_lk {dflt : Int} {ps : Array (Int × Int)} {len tgt : Nat} {x : Int32} (w : Int) (hw : x.toInt = w) (hp : mt.2.2 pc = some (.lookupswitch dflt ps, len, nx, tg, k0)) (hs : (ps.toList.zip (ps.toList.drop 1)).all (fun (a, next) => a.1 < next.1) = true) (ht : toN ((pc : Int) + Op.lookupswitch.offset ps.toList dflt w) = some tgt) (k : R d kc ks u v mt tgt L S h Q) : R d kc ks u v mt pc L (.inl x :: S) h Q := by
  intro l p e s m args below meth c A D G0 G H locs ls F I hS hL hl
  obtain ⟨hm, hx, hb, hr, hml, hown, hts, hlk, hnm⟩ := id F
  obtain ⟨hdg, hnx, htg, hck⟩ := hm.1 _ _ _ _ _ _ hp
  exact lv_lookup hx hb hdg hs (by rw [hw]) (toN_ok ht) (k l p e s m args below meth c A D G0 G H locs ls F I (ok_tl hS) hL hl)
theorem R_mabs {idx : Nat} {x : Int32} (hp : mt.2.2 pc = some (.invokestatic idx, 3, nx, tg, k0)) (hl1 : Cond.methodLink (cnm mt.2.1) idx Lib.Math.abs.name ∈ TW) (hd : 1 ≤ d) (hu : u ≤ kc) (hv : v ≤ ks) (hS8 : Nat.ble (S.map acat).sum 8 = true) (k : R d kc ks u v mt nx L (.inl (if 0 ≤ x then x else 0 - x) :: S) h Q) : R d kc ks u v mt pc L (.inl x :: S) h Q := by
  intro l p e s m args below meth c A D G0 G H locs ls F I hS hL hl
  obtain ⟨hm, hx, hb, hr, hml, hown, hts, hlk, hnm⟩ := id F
  obtain ⟨hdg, hnx, htg, hck⟩ := hm.1 _ _ _ _ _ _ hp
  subst hnx
  have h8 := Nat.le_of_ble_eq_true hS8
  exact va_mabs hx hb (by rw [hml]; exact hl.1.symm) hown (hts _ hl1) (hts _ qw_abs_s) (hts _ qw_math) (hts _ qw_abs_c) hd (by rw [acat_sum]; show _ ≤ 64 * d; omega) hu hv hdg (k l p e s m args below meth c A D G0 G H locs ls F I (ok_cs okv_i (ok_tl hS)) hL hl)
theorem R_mmax {idx : Nat} {x y : Int32} (hp : mt.2.2 pc = some (.invokestatic idx, 3, nx, tg, k0)) (hl1 : Cond.methodLink (cnm mt.2.1) idx Lib.Math.max.name ∈ TW) (hd : 1 ≤ d) (hu : u ≤ kc) (hv : v ≤ ks) (hS8 : Nat.ble (S.map acat).sum 8 = true) (k : R d kc ks u v mt nx L (.inl (if x < y then y else x) :: S) h Q) : R d kc ks u v mt pc L (.inl y :: .inl x :: S) h Q := by
  intro l p e s m args below meth c A D G0 G H locs ls F I hS hL hl
  obtain ⟨hm, hx, hb, hr, hml, hown, hts, hlk, hnm⟩ := id F
  obtain ⟨hdg, hnx, htg, hck⟩ := hm.1 _ _ _ _ _ _ hp
  subst hnx
  have h8 := Nat.le_of_ble_eq_true hS8
  exact va_mmax hx hb (by rw [hml]; exact hl.1.symm) hown (hts _ hl1) (hts _ qw_max_s) (hts _ qw_math) (hts _ qw_max_c) hd (by rw [acat_sum]; show _ ≤ 64 * d; omega) hu hv hdg (k l p e s m args below meth c A D G0 G H locs ls F I (ok_cs okv_i (ok_tl (ok_tl hS))) hL hl)
theorem R_mmaxl {idx : Nat} {x y : Int64} (hp : mt.2.2 pc = some (.invokestatic idx, 3, nx, tg, k0)) (hl1 : Cond.methodLink (cnm mt.2.1) idx Lib.MathLoose.max_long.x ∈ TW) (hd : 1 ≤ d) (hu : u ≤ kc) (hv : v ≤ ks) (hS8 : Nat.ble (S.map acat).sum 8 = true) (k : R d kc ks u v mt nx L (.inr (.inl (if y < x then x else y)) :: S) h Q) : R d kc ks u v mt pc L (.inr (.inl y) :: .inr (.inl x) :: S) h Q := by
  intro l p e s m args below meth c A D G0 G H locs ls F I hS hL hl
  obtain ⟨hm, hx, hb, hr, hml, hown, hts, hlk, hnm⟩ := id F
  obtain ⟨hdg, hnx, htg, hck⟩ := hm.1 _ _ _ _ _ _ hp
  subst hnx
  have h8 := Nat.le_of_ble_eq_true hS8
  exact va_mmax_long hx hb (by rw [hml]; exact hl.1.symm) hown (hts _ hl1) (hts _ qw_maxl_s) (hts _ qw_math) (hts _ qw_maxl_c) hd (by rw [acat_sum]; show _ ≤ 64 * d; omega) hu hv hdg (k l p e s m args below meth c A D G0 G H locs ls F I (ok_cs okv_l (ok_tl (ok_tl hS))) hL hl)
theorem R_mminl {idx : Nat} {x y : Int64} (hp : mt.2.2 pc = some (.invokestatic idx, 3, nx, tg, k0)) (hl1 : Cond.methodLink (cnm mt.2.1) idx Lib.MathLoose.min_long.x ∈ TW) (hd : 1 ≤ d) (hu : u ≤ kc) (hv : v ≤ ks) (hS8 : Nat.ble (S.map acat).sum 8 = true) (k : R d kc ks u v mt nx L (.inr (.inl (if y < x then y else x)) :: S) h Q) : R d kc ks u v mt pc L (.inr (.inl y) :: .inr (.inl x) :: S) h Q := by
  intro l p e s m args below meth c A D G0 G H locs ls F I hS hL hl
  obtain ⟨hm, hx, hb, hr, hml, hown, hts, hlk, hnm⟩ := id F
  obtain ⟨hdg, hnx, htg, hck⟩ := hm.1 _ _ _ _ _ _ hp
  subst hnx
  have h8 := Nat.le_of_ble_eq_true hS8
  exact va_mmin_long hx hb (by rw [hml]; exact hl.1.symm) hown (hts _ hl1) (hts _ qw_minl_s) (hts _ qw_math) (hts _ qw_minl_c) hd (by rw [acat_sum]; show _ ≤ 64 * d; omega) hu hv hdg (k l p e s m args below meth c A D G0 G H locs ls F I (ok_cs okv_l (ok_tl (ok_tl hS))) hL hl)
end SW
/-- a stop of the walk: the head of a loop -/
def Stop (P : Prop) : Prop := P ∧ True
def frc : List (Option AV) → Option (List (Option AV))
  | [] => some []
  | o :: t => match frc t with
    | none => none
    | some t' => match o with
      | none => some (none :: t')
      | some v => some (some v :: t')
theorem frc_eq : ∀ {L L' : List (Option AV)}, frc L = some L' → L' = L := by
  intro L
  induction L with
  | nil => intro L' h; cases h; rfl
  | cons o t ih =>
    intro L' h
    unfold frc at h
    split at h
    · cases h
    · rename_i t' ht
      have := ih ht
      subst this
      split at h <;> (cases h; rfl)
theorem R_stop (sp : Nat) {d : Nat} {mt : MI} {pc : Nat} {L L' : List (Option AV)} {S : List AV} {h : AH} {Q : Option AV → AH → Prop} (hn : Nat.beq pc sp = true) (hL : frc L = some L') (k : Stop (Rn d mt sp L' S h Q)) : Rn d mt pc L S h Q := by
  have := frc_eq hL
  subst this
  have := Nat.eq_of_beq_eq_true hn
  subst this
  exact k.1
