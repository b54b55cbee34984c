def mRn (sort : Nat) : List Nat → Ct × Os → Nat × (Ct × Os)
  | [], z => (0, z)
  | c :: t, z => match cM sort c z.1 with
    | none => (0, z)
    | some k' => ((mRn sort t (k', eM c z.1 z.2)).1 + 1, (mRn sort t (k', eM c z.1 z.2)).2)
def o0 : Os := ([], [], [])
theorem mRn_c (sort : Nat) : ∀ (t : List Nat) (a b : Ct) (o : Os), krl a b → (cRn sort t a).1 = (mRn sort t (b, o)).1 ∧ krl (cRn sort t a).2 (mRn sort t (b, o)).2.1 := by
  intro t
  induction t with
  | nil => intro a b o h; exact ⟨rfl, h⟩
  | cons c t ih =>
    intro a b o h
    have hr := cC_r sort c a b h
    rw [cRn, mRn]
    cases hc : cC sort c a with
    | none =>
      rw [hc] at hr
      have hr : cM sort c b = none := hr
      simp only [hr]
      exact ⟨trivial, h⟩
    | some k' =>
      rw [hc] at hr
      obtain ⟨y, hy, hk⟩ := hr
      have := ih k' y (eM c b o) hk
      simp only [hy]
      exact ⟨by rw [this.1], this.2⟩
theorem mRn_le (sort : Nat) (t : List Nat) (z : Ct × Os) : (mRn sort t z).1 ≤ t.length := by
  rw [← (mRn_c sort t z.1 z.1 z.2 (krl_rf _)).1]
  exact cRn_le sort t z.1
theorem krl_sy {a b : Ct} (h : krl a b) : krl b a := ⟨h.1.symm, h.2.1.symm, h.2.2.1.symm, fun x y => by have := h.2.2.2 (by rw [h.1]; exact x) (by rw [h.1]; exact y); exact ⟨this.1.symm, this.2.symm⟩⟩
theorem krl_tr {a b c : Ct} (h : krl a b) (g : krl b c) : krl a c := ⟨h.1.trans g.1, h.2.1.trans g.2.1, h.2.2.1.trans g.2.2.1, fun x y => by have u := h.2.2.2 x y; have v := g.2.2.2 (by rw [← h.1]; exact x) (by rw [← h.1]; exact y); exact ⟨u.1.trans v.1, u.2.trans v.2⟩⟩
theorem eM_k {c : Nat} {a b : Ct} {o : Os} (h : krl a b) : eM c a o = eM c b o := by
  unfold eM
  rw [← h.1]
  by_cases z : a.1 = 2 ∨ a.1 = 3
  · rw [(h.2.2.2 (by omega) (by omega)).2]
  · rw [if_neg (show ¬ a.1 = 2 by omega), if_neg (show ¬ a.1 = 2 by omega), if_neg (show ¬ a.1 = 3 by omega), if_neg (show ¬ a.1 = 3 by omega)]
theorem mRn_k (sort : Nat) : ∀ (t : List Nat) (a b : Ct) (o : Os), krl a b → (mRn sort t (a, o)).1 = (mRn sort t (b, o)).1 ∧ krl (mRn sort t (a, o)).2.1 (mRn sort t (b, o)).2.1 ∧ (mRn sort t (a, o)).2.2 = (mRn sort t (b, o)).2.2 := by
  intro t
  induction t with
  | nil => intro a b o h; exact ⟨rfl, h, rfl⟩
  | cons c t ih =>
    intro a b o h
    have h1 := cC_r sort c a a (krl_rf a)
    have h2 := cC_r sort c a b h
    rw [mRn, mRn]
    cases hc : cC sort c a with
    | none =>
      rw [hc] at h1 h2
      have h1 : cM sort c a = none := h1
      have h2 : cM sort c b = none := h2
      simp only [h1, h2]
      exact ⟨trivial, h, trivial⟩
    | some k' =>
      rw [hc] at h1 h2
      obtain ⟨y, hy, hk⟩ := h1
      obtain ⟨y2, hy2, hk2⟩ := h2
      have := ih y y2 (eM c b o) (krl_tr (krl_sy hk) hk2)
      simp only [hy, hy2, eM_k (c := c) (o := o) h]
      exact ⟨by rw [this.1], this.2⟩
theorem cM_un {sort c : Nat} {k k' : Ct} (h : cM sort c k = some k') (hu : 1 ≤ k.1 → k.1 ≤ 3 → k.2.2.1 ≤ 3) : (1 ≤ k'.1 → k'.1 ≤ 3 → k'.2.2.1 ≤ 3) ∧ k'.2.1 ≤ k.2.1 + 1 := by
  obtain ⟨st, dep, un, rt, bg, ls⟩ := k
  dsimp only at hu
  unfold cM fM bM uC oC at h
  dsimp only at h
  repeat' split at h
  all_goals first | (cases h; done) | (cases h; exact ⟨fun x y => by dsimp only at x y hu ⊢; omega, by dsimp only; omega⟩) | (cases h; exact ⟨fun x y => by dsimp only at x y hu ⊢; split at x <;> omega, by dsimp only; omega⟩)
theorem PV_0 : PV k0 o0 := ⟨rfl, ⟨0, [], rfl, Or.inl ⟨rfl, rfl, rfl, fun w hw => by simp [o0] at hw, fun _ => ⟨rfl, rfl⟩, rfl⟩⟩, Or.inl ⟨by decide, fun l hl => by simp [o0] at hl⟩⟩
def FMp (kS : Ct) (A : FI) (B : FJ) (sort : Nat) (p : List Nat) : Option AV → AH → Prop := fun r h' => ∃ A', h' = hp A' B ∧ FmP A A' ∧ r = some (.inl (nI (mRn sort p (kS, o0)).1)) ∧ ((mRn sort p (kS, o0)).1 = p.length → RKM A' (mRn sort p (kS, o0)).2.1 ∧ ROM A' (mRn sort p (kS, o0)).2.2)
theorem RMP_fr {A A' : FI} {p : List Nat} (h : RMP A p) (hF : FmP A A') : RMP A' p := ⟨by rw [hF.2 5 (by decide)]; exact h.1, h.2.1, fun k hk => by rw [hF.1 36 (by decide) (by decide)]; exact h.2.2 k hk⟩
theorem l_faultOf (kS : Ct) (B : FJ) (A0 : FI) (sort : Nat) (hs : sort ≤ 1) (p : List Nat) (hw : ∀ x ∈ p, x ≤ 255) : ∀ (t pre : List Nat) (k : Ct) (o : Os) (A : FI), p = pre ++ t → RMP A p → FmP A0 A → PV k o → k.2.1 ≤ pre.length → (1 ≤ k.1 → k.1 ≤ 3 → k.2.2.1 ≤ 3) → szO o ≤ pre.length → o.1.length ≤ pre.length → RKM A k → ROM A o → (mRn sort p (kS, o0)).1 = pre.length + (mRn sort t (k, o)).1 → (mRn sort p (kS, o0)).2 = (mRn sort t (k, o)).2 → Rn 6 mtX12_faultOf 42 [some (.inr (.inr (some (31, 0)))), some (.inl (nI sort)), some (.inl (nI pre.length))] [] (hp A B) (FMp kS A0 B sort p) := by
  intro t
  induction t with
  | nil =>
    intro pre k o A hp1 hR hF hP hd hu hz hl2 hk ho h1 h2
    have hlen : pre.length = p.length := by rw [hp1]; simp
    have hl := hR.2.1
    have tp := ti p.length (by omega)
    have e1 := hR.1
    rw [mRn] at h1 h2
    rw [hlen] at h1 ⊢
    have n1 : nI p.length ≤ nI p.length := Int32.le_refl _
    refine R_go 9999 rfl rfl trivial ?_
    refine R_br rfl rfl (fun _ => ?_) (fun h => absurd n1 (by rw [e1] at h; exact h))
    repeat' (first
        | (refine R_br rfl rfl (fun h => absurd h (by first | decide | (with_reducible assumption))) (fun _ => ?_))
        | (refine R_br rfl rfl (fun _ => ?_) (fun h => absurd (by first | decide | (with_reducible assumption)) h))
        | (refine R_br rfl rfl (fun _ => ?_) (fun _ => ?_))
        | (refine R_ri rfl rfl ?_)
        | (refine R_rz rfl rfl (Or.inl rfl) ?_)
        | (refine R_rz rfl rfl (Or.inr rfl) ?_)
        | (refine R_rz rfl rfl (b2_01 _) ?_)
        | (refine R_rl rfl rfl ?_)
        | (refine R_rv rfl rfl ?_)
        | (refine R_sw _ rfl rfl rfl ?_)
        | (refine R_go 9999 rfl rfl trivial ?_)
        | (refine R_go 9999 rfl rfl (by first | (show _ ∨ _; decide) | (show (_ ∨ _) ∧ (_ ∨ _); decide) | (show (_ ∨ _) ∧ (_ ∨ _) ∧ (_ ∨ _); decide)) ?_)
        | (refine R_go 9999 rfl rfl ?_ ?_))
    exact ⟨A, rfl, hF, by rw [h1]; rfl, fun _ => by rw [h2]; exact ⟨hk, ho⟩⟩
  | cons c t ih =>
    intro pre k o A hp1 hR hF hP hd hu hz hl2 hk ho h1 h2
    have hl := hR.2.1
    have hlen : pre.length < p.length := by rw [hp1]; simp
    have tp := ti p.length (by omega)
    have tq := ti pre.length (by omega)
    have e1 := hR.1
    have ec : A 36 0 pre.length = nI c := by
      rw [hR.2.2 _ hlen, hp1]
      congr 1
      simp [List.getD_eq_getElem?_getD]
    have hc : c ≤ 255 := hw c (by rw [hp1]; simp)
    have cl : (nI pre.length).toNatClampNeg = pre.length := nI_clamp (by omega)
    refine R_go 9999 rfl rfl trivial ?_
    refine R_br rfl rfl (fun h => absurd h (by rw [e1]; (simp only [i_eq, i_lt, i_le, Int32.reduceToInt, true_and, and_true, false_and, and_false, or_false, false_or, or_true, true_or, ne_eq] at *; first | done | omega))) (fun _ => ?_)
    refine R_go 9999 rfl rfl (vpN (n := 80) (by omega) rfl) ?_
    rw [cl, ec]
    refine R_cv rfl (m_go sort c k o hc hs (by omega) hu hk ho (by omega) (by omega) hP) rfl rfl rfl rfl rfl (Nat.le_of_ble_eq_true rfl) rfl ?_
    rintro r h' ⟨A', rfl, hF', hm⟩
    rw [mRn] at h1 h2
    cases hcc : cM sort c k with
    | none =>
      rw [hcc] at hm
      simp only [hcc] at h1 h2
      subst hm
      repeat' (first
          | (refine R_br rfl rfl (fun h => absurd h (by first | decide | (with_reducible assumption))) (fun _ => ?_))
          | (refine R_br rfl rfl (fun _ => ?_) (fun h => absurd (by first | decide | (with_reducible assumption)) h))
          | (refine R_br rfl rfl (fun _ => ?_) (fun _ => ?_))
          | (refine R_ri rfl rfl ?_)
          | (refine R_rz rfl rfl (Or.inl rfl) ?_)
          | (refine R_rz rfl rfl (Or.inr rfl) ?_)
          | (refine R_rz rfl rfl (b2_01 _) ?_)
          | (refine R_rl rfl rfl ?_)
          | (refine R_rv rfl rfl ?_)
          | (refine R_sw _ rfl rfl rfl ?_)
          | (refine R_go 9999 rfl rfl trivial ?_)
          | (refine R_go 9999 rfl rfl (by first | (show _ ∨ _; decide) | (show (_ ∨ _) ∧ (_ ∨ _); decide) | (show (_ ∨ _) ∧ (_ ∨ _) ∧ (_ ∨ _); decide)) ?_)
          | (refine R_go 9999 rfl rfl ?_ ?_))
      exact ⟨A', rfl, FmO_tr hF hF', by rw [h1]; rfl, fun z => by rw [h1] at z; simp at z; omega⟩
    | some k' =>
      rw [hcc] at hm
      simp only [hcc] at h1 h2
      obtain ⟨rfl, hm, hmo⟩ := hm
      have hun := cM_un hcc hu
      have hsz := sz_eM c k o
      have hln := ln_eM c k o
      have hcur : o.2.1.length ≤ 79 := by simp only [szO, flat, List.length_append] at hz; omega
      repeat' (first
          | (refine R_stop 42 rfl rfl ?_)
          | (refine R_br rfl rfl (fun h => absurd h (by first | decide | (with_reducible assumption))) (fun _ => ?_))
          | (refine R_br rfl rfl (fun _ => ?_) (fun h => absurd (by first | decide | (with_reducible assumption)) h))
          | (refine R_br rfl rfl (fun _ => ?_) (fun _ => ?_))
          | (refine R_ri rfl rfl ?_)
          | (refine R_rz rfl rfl (Or.inl rfl) ?_)
          | (refine R_rz rfl rfl (Or.inr rfl) ?_)
          | (refine R_rz rfl rfl (b2_01 _) ?_)
          | (refine R_rl rfl rfl ?_)
          | (refine R_rv rfl rfl ?_)
          | (refine R_sw _ rfl rfl rfl ?_)
          | (refine R_go 42 rfl rfl trivial ?_)
          | (refine R_go 42 rfl rfl (by first | (show _ ∨ _; decide) | (show (_ ∨ _) ∧ (_ ∨ _); decide) | (show (_ ∨ _) ∧ (_ ∨ _) ∧ (_ ∨ _); decide)) ?_)
          | (refine R_go 42 rfl rfl ?_ ?_))
      refine ⟨?_, trivial⟩
      rw [nI_1, show pre.length + 1 = (pre ++ [c]).length by simp]
      exact ih (pre ++ [c]) k' (eM c k o) A' (by rw [hp1]; simp) (RMP_fr hR hF') (FmO_tr hF hF') (PV_step hcur hcc hP) (by simp; omega) hun.1 (by simp; omega) (by simp; omega) hm hmo (by rw [h1]; simp; omega) h2
theorem ROM_0 {A : FI} (h1 : A 31 0 15 = 0) (h2 : A 31 0 18 = 0) (h3 : A 31 0 20 = 0) : ROM A o0 := ⟨h1, al_nil, al_nil, h2, al_nil, al_nil, h3, al_nil, fun w hw => by simp [o0] at hw⟩
theorem m_faultOf {A : FI} {B : FJ} (sort : Nat) (p : List Nat) (hs : sort ≤ 1) (hw : ∀ x ∈ p, x ≤ 255) (hR : RMP A p) : MV 6 1 mtX12_faultOf [.inr (.inr (some (31, 0))), .inl (nI sort)] (hp A B) (fun r h' => ∃ A' k', h' = hp A' B ∧ FmP A A' ∧ r = some (.inl (nI (cRn sort p k0).1)) ∧ ((cRn sort p k0).1 = p.length → krl (cRn sort p k0).2 k' ∧ RKM A' k' ∧ ROM A' (mRn sort p (k0, o0)).2.2)) := by
  refine MV_of caX12_faultOf (L := [some (.inr (.inr (some (31, 0)))), some (.inl (nI sort)), none]) rfl rfl ?_
  obtain ⟨u, -, hu⟩ := wb_of32 (A 31 0 9)
  have hkr : krl k0 (0, 0, u, false, false, false) := ⟨rfl, rfl, rfl, fun x _ => by cases x⟩
  have h1 := mRn_c sort p k0 k0 o0 (krl_rf _)
  have h2 := mRn_k sort p k0 (0, 0, u, false, false, false) o0 hkr
  have hPV : PV (0, 0, u, false, false, false) o0 := ⟨rfl, ⟨0, [], rfl, Or.inl ⟨rfl, rfl, rfl, fun w hw => by simp [o0] at hw, fun _ => ⟨rfl, rfl⟩, rfl⟩⟩, Or.inl ⟨show (0 : Nat) ≠ 7 by decide, fun l hl => by simp [o0] at hl⟩⟩
  repeat' (first
      | (refine R_stop 42 rfl rfl ?_)
      | (refine R_br rfl rfl (fun h => absurd h (by first | decide | (with_reducible assumption))) (fun _ => ?_))
      | (refine R_br rfl rfl (fun _ => ?_) (fun h => absurd (by first | decide | (with_reducible assumption)) h))
      | (refine R_br rfl rfl (fun _ => ?_) (fun _ => ?_))
      | (refine R_ri rfl rfl ?_)
      | (refine R_rz rfl rfl (Or.inl rfl) ?_)
      | (refine R_rz rfl rfl (Or.inr rfl) ?_)
      | (refine R_rz rfl rfl (b2_01 _) ?_)
      | (refine R_rl rfl rfl ?_)
      | (refine R_rv rfl rfl ?_)
      | (refine R_sw _ rfl rfl rfl ?_)
      | (refine R_go 42 rfl rfl trivial ?_)
      | (refine R_go 42 rfl rfl (by first | (show _ ∨ _; decide) | (show (_ ∨ _) ∧ (_ ∨ _); decide) | (show (_ ∨ _) ∧ (_ ∨ _) ∧ (_ ∨ _); decide)) ?_)
      | (refine R_go 42 rfl rfl ?_ ?_))
  refine ⟨R_weak (L' := [some (.inr (.inr (some (31, 0)))), some (.inl (nI sort)), some (.inl (nI 0))]) (by simp [lsub, nI_0]) ?_, trivial⟩
  refine R_mono ?_ (l_faultOf (0, 0, u, false, false, false) B A sort hs p hw p [] (0, 0, u, false, false, false) o0 _ rfl (RMP_fr hR (by first | exact FmO_rf | (repeat' (first | exact FmO_rf | (with_reducible assumption) | (refine FmO_up ?_ (by decide)) | (refine FmO_ug ?_ (by decide) (by decide)))))) (by first | exact FmO_rf | (repeat' (first | exact FmO_rf | (with_reducible assumption) | (refine FmO_up ?_ (by decide)) | (refine FmO_ug ?_ (by decide) (by decide))))) hPV (Nat.le_refl _) (fun x _ => by cases x) (Nat.le_refl _) (Nat.le_refl _) ?_ (ROM_0 ?_ ?_ ?_) (by simp) rfl)
  · rintro r h' ⟨A', a1, a2, a3, a4⟩
    refine ⟨A', (mRn sort p ((0, 0, u, false, false, false), o0)).2.1, a1, a2, by rw [a3, h1.1, h2.1], fun z => ?_⟩
    have := a4 (by rw [← h2.1, ← h1.1]; exact z)
    rw [← h2.2.2] at this
    exact ⟨krl_tr h1.2 h2.2.1, this.1, this.2⟩
  · exact ⟨by simp [up3]; rfl, by simp [up3]; rfl, by simp [up3]; rfl, by simp [up3, hu], by simp [up3]; rfl, by simp [up3]; rfl⟩
  · simp [up3]
  · simp [up3]
  · simp [up3]
def faultS (p : List Nat) (x : Int32) : Int32 := if x = 0 then nI (cRn 0 p k0).1 else if x = 1 then nI (cRn 1 p k0).1 else -102
theorem m_faultM {A : FI} {B : FJ} (p : List Nat) (x : Int32) (hw : ∀ x ∈ p, x ≤ 255) (hR : RMP A p) : MV 7 1 mtX12_fault [.inr (.inr (some (31, 0))), .inl x] (hp A B) (fun r h' => ∃ A', h' = hp A' B ∧ FmP A A' ∧ r = some (.inl (faultS p x))) := by
  refine MV_of caX12_fault (L := [some (.inr (.inr (some (31, 0)))), some (.inl x)]) rfl rfl ?_
  unfold faultS
  by_cases h0 : x = 0
  · subst h0
    rw [if_pos rfl]
    repeat' (first
        | (refine R_br rfl rfl (fun h => absurd h (by first | decide | (with_reducible assumption))) (fun _ => ?_))
        | (refine R_br rfl rfl (fun _ => ?_) (fun h => absurd (by first | decide | (with_reducible assumption)) h))
        | (refine R_br rfl rfl (fun _ => ?_) (fun _ => ?_))
        | (refine R_ri rfl rfl ?_)
        | (refine R_rz rfl rfl (Or.inl rfl) ?_)
        | (refine R_rz rfl rfl (Or.inr rfl) ?_)
        | (refine R_rz rfl rfl (b2_01 _) ?_)
        | (refine R_rl rfl rfl ?_)
        | (refine R_rv rfl rfl ?_)
        | (refine R_csr rfl (m_inT 0 0 1 (by simp) _ _) rfl rfl rfl (Nat.le_of_ble_eq_true rfl) rfl ?_)
        | (refine R_cv rfl (m_faultOf 0 p (by decide) hw hR) rfl rfl rfl rfl rfl (Nat.le_of_ble_eq_true rfl) rfl ?_)
        | (refine R_sw _ rfl rfl rfl ?_)
        | (refine R_go 9999 rfl rfl trivial ?_)
        | (refine R_go 9999 rfl rfl (by first | (show _ ∨ _; decide) | (show (_ ∨ _) ∧ (_ ∨ _); decide) | (show (_ ∨ _) ∧ (_ ∨ _) ∧ (_ ∨ _); decide)) ?_)
        | (refine R_go 9999 rfl rfl ?_ ?_))
    rintro r h' ⟨A', k', rfl, a2, rfl, -⟩
    repeat' (first
        | (refine R_br rfl rfl (fun h => absurd h (by first | decide | (with_reducible assumption))) (fun _ => ?_))
        | (refine R_br rfl rfl (fun _ => ?_) (fun h => absurd (by first | decide | (with_reducible assumption)) h))
        | (refine R_br rfl rfl (fun _ => ?_) (fun _ => ?_))
        | (refine R_ri rfl rfl ?_)
        | (refine R_rz rfl rfl (Or.inl rfl) ?_)
        | (refine R_rz rfl rfl (Or.inr rfl) ?_)
        | (refine R_rz rfl rfl (b2_01 _) ?_)
        | (refine R_rl rfl rfl ?_)
        | (refine R_rv rfl rfl ?_)
        | (refine R_sw _ rfl rfl rfl ?_)
        | (refine R_go 9999 rfl rfl trivial ?_)
        | (refine R_go 9999 rfl rfl (by first | (show _ ∨ _; decide) | (show (_ ∨ _) ∧ (_ ∨ _); decide) | (show (_ ∨ _) ∧ (_ ∨ _) ∧ (_ ∨ _); decide)) ?_)
        | (refine R_go 9999 rfl rfl ?_ ?_))
    exact ⟨A', rfl, a2, rfl⟩
  · rw [if_neg h0]
    by_cases h1 : x = 1
    · subst h1
      rw [if_pos rfl]
      repeat' (first
          | (refine R_br rfl rfl (fun h => absurd h (by first | decide | (with_reducible assumption))) (fun _ => ?_))
          | (refine R_br rfl rfl (fun _ => ?_) (fun h => absurd (by first | decide | (with_reducible assumption)) h))
          | (refine R_br rfl rfl (fun _ => ?_) (fun _ => ?_))
          | (refine R_ri rfl rfl ?_)
          | (refine R_rz rfl rfl (Or.inl rfl) ?_)
          | (refine R_rz rfl rfl (Or.inr rfl) ?_)
          | (refine R_rz rfl rfl (b2_01 _) ?_)
          | (refine R_rl rfl rfl ?_)
          | (refine R_rv rfl rfl ?_)
          | (refine R_csr rfl (m_inT 1 0 1 (by simp) _ _) rfl rfl rfl (Nat.le_of_ble_eq_true rfl) rfl ?_)
          | (refine R_cv rfl (m_faultOf 1 p (by decide) hw hR) rfl rfl rfl rfl rfl (Nat.le_of_ble_eq_true rfl) rfl ?_)
          | (refine R_sw _ rfl rfl rfl ?_)
          | (refine R_go 9999 rfl rfl trivial ?_)
          | (refine R_go 9999 rfl rfl (by first | (show _ ∨ _; decide) | (show (_ ∨ _) ∧ (_ ∨ _); decide) | (show (_ ∨ _) ∧ (_ ∨ _) ∧ (_ ∨ _); decide)) ?_)
          | (refine R_go 9999 rfl rfl ?_ ?_))
      rintro r h' ⟨A', k', rfl, a2, rfl, -⟩
      repeat' (first
          | (refine R_br rfl rfl (fun h => absurd h (by first | decide | (with_reducible assumption))) (fun _ => ?_))
          | (refine R_br rfl rfl (fun _ => ?_) (fun h => absurd (by first | decide | (with_reducible assumption)) h))
          | (refine R_br rfl rfl (fun _ => ?_) (fun _ => ?_))
          | (refine R_ri rfl rfl ?_)
          | (refine R_rz rfl rfl (Or.inl rfl) ?_)
          | (refine R_rz rfl rfl (Or.inr rfl) ?_)
          | (refine R_rz rfl rfl (b2_01 _) ?_)
          | (refine R_rl rfl rfl ?_)
          | (refine R_rv rfl rfl ?_)
          | (refine R_sw _ rfl rfl rfl ?_)
          | (refine R_go 9999 rfl rfl trivial ?_)
          | (refine R_go 9999 rfl rfl (by first | (show _ ∨ _; decide) | (show (_ ∨ _) ∧ (_ ∨ _); decide) | (show (_ ∨ _) ∧ (_ ∨ _) ∧ (_ ∨ _); decide)) ?_)
          | (refine R_go 9999 rfl rfl ?_ ?_))
      exact ⟨A', rfl, a2, rfl⟩
    · rw [if_neg h1]
      repeat' (first
          | (refine R_br rfl rfl (fun h => absurd h (by first | decide | (with_reducible assumption))) (fun _ => ?_))
          | (refine R_br rfl rfl (fun _ => ?_) (fun h => absurd (by first | decide | (with_reducible assumption)) h))
          | (refine R_br rfl rfl (fun _ => ?_) (fun _ => ?_))
          | (refine R_ri rfl rfl ?_)
          | (refine R_rz rfl rfl (Or.inl rfl) ?_)
          | (refine R_rz rfl rfl (Or.inr rfl) ?_)
          | (refine R_rz rfl rfl (b2_01 _) ?_)
          | (refine R_rl rfl rfl ?_)
          | (refine R_rv rfl rfl ?_)
          | (refine R_csr rfl (m_inF x 0 1 (by simp only [Int64.reduceToInt]; simp only [i_eq, Int32.reduceToInt] at h0 h1; omega) _ _) rfl rfl rfl (Nat.le_of_ble_eq_true rfl) rfl ?_)
          | (refine R_sw _ rfl rfl rfl ?_)
          | (refine R_go 9999 rfl rfl trivial ?_)
          | (refine R_go 9999 rfl rfl (by first | (show _ ∨ _; decide) | (show (_ ∨ _) ∧ (_ ∨ _); decide) | (show (_ ∨ _) ∧ (_ ∨ _) ∧ (_ ∨ _); decide)) ?_)
          | (refine R_go 9999 rfl rfl ?_ ?_))
      exact ⟨A, rfl, FmO_rf, rfl⟩
theorem m_faultC {A : FI} {B : FJ} (p : List Nat) (x : Int32) (hw : ∀ x ∈ p, x ≤ 255) (hR : RCP A p) : MV 5 1 mtX11_fault [.inr (.inr (some (0, 0))), .inl x] (hp A B) (fun r h' => ∃ A', h' = hp A' B ∧ FmO 8 [] [2, 3, 4, 5, 6, 7, 8] A A' ∧ r = some (.inl (faultS p x))) := by
  refine MV_of caX11_fault (L := [some (.inr (.inr (some (0, 0)))), some (.inl x)]) rfl rfl ?_
  unfold faultS
  by_cases h0 : x = 0
  · subst h0
    rw [if_pos rfl]
    repeat' (first
        | (refine R_br rfl rfl (fun h => absurd h (by first | decide | (with_reducible assumption))) (fun _ => ?_))
        | (refine R_br rfl rfl (fun _ => ?_) (fun h => absurd (by first | decide | (with_reducible assumption)) h))
        | (refine R_br rfl rfl (fun _ => ?_) (fun _ => ?_))
        | (refine R_ri rfl rfl ?_)
        | (refine R_rz rfl rfl (Or.inl rfl) ?_)
        | (refine R_rz rfl rfl (Or.inr rfl) ?_)
        | (refine R_rz rfl rfl (b2_01 _) ?_)
        | (refine R_rl rfl rfl ?_)
        | (refine R_rv rfl rfl ?_)
        | (refine R_cv rfl (m_firstFaultC 0 p (by decide) hw hR) rfl rfl rfl rfl rfl (Nat.le_of_ble_eq_true rfl) rfl ?_)
        | (refine R_sw _ rfl rfl rfl ?_)
        | (refine R_go 9999 rfl rfl trivial ?_)
        | (refine R_go 9999 rfl rfl (by first | (show _ ∨ _; decide) | (show (_ ∨ _) ∧ (_ ∨ _); decide) | (show (_ ∨ _) ∧ (_ ∨ _) ∧ (_ ∨ _); decide)) ?_)
        | (refine R_go 9999 rfl rfl ?_ ?_))
    rintro r h' ⟨A', rfl, a2, rfl, -⟩
    repeat' (first
        | (refine R_br rfl rfl (fun h => absurd h (by first | decide | (with_reducible assumption))) (fun _ => ?_))
        | (refine R_br rfl rfl (fun _ => ?_) (fun h => absurd (by first | decide | (with_reducible assumption)) h))
        | (refine R_br rfl rfl (fun _ => ?_) (fun _ => ?_))
        | (refine R_ri rfl rfl ?_)
        | (refine R_rz rfl rfl (Or.inl rfl) ?_)
        | (refine R_rz rfl rfl (Or.inr rfl) ?_)
        | (refine R_rz rfl rfl (b2_01 _) ?_)
        | (refine R_rl rfl rfl ?_)
        | (refine R_rv rfl rfl ?_)
        | (refine R_sw _ rfl rfl rfl ?_)
        | (refine R_go 9999 rfl rfl trivial ?_)
        | (refine R_go 9999 rfl rfl (by first | (show _ ∨ _; decide) | (show (_ ∨ _) ∧ (_ ∨ _); decide) | (show (_ ∨ _) ∧ (_ ∨ _) ∧ (_ ∨ _); decide)) ?_)
        | (refine R_go 9999 rfl rfl ?_ ?_))
    exact ⟨A', rfl, a2, rfl⟩
  · rw [if_neg h0]
    by_cases h1 : x = 1
    · subst h1
      rw [if_pos rfl]
      repeat' (first
          | (refine R_br rfl rfl (fun h => absurd h (by first | decide | (with_reducible assumption))) (fun _ => ?_))
          | (refine R_br rfl rfl (fun _ => ?_) (fun h => absurd (by first | decide | (with_reducible assumption)) h))
          | (refine R_br rfl rfl (fun _ => ?_) (fun _ => ?_))
          | (refine R_ri rfl rfl ?_)
          | (refine R_rz rfl rfl (Or.inl rfl) ?_)
          | (refine R_rz rfl rfl (Or.inr rfl) ?_)
          | (refine R_rz rfl rfl (b2_01 _) ?_)
          | (refine R_rl rfl rfl ?_)
          | (refine R_rv rfl rfl ?_)
          | (refine R_cv rfl (m_firstFaultC 1 p (by decide) hw hR) rfl rfl rfl rfl rfl (Nat.le_of_ble_eq_true rfl) rfl ?_)
          | (refine R_sw _ rfl rfl rfl ?_)
          | (refine R_go 9999 rfl rfl trivial ?_)
          | (refine R_go 9999 rfl rfl (by first | (show _ ∨ _; decide) | (show (_ ∨ _) ∧ (_ ∨ _); decide) | (show (_ ∨ _) ∧ (_ ∨ _) ∧ (_ ∨ _); decide)) ?_)
          | (refine R_go 9999 rfl rfl ?_ ?_))
      rintro r h' ⟨A', rfl, a2, rfl, -⟩
      repeat' (first
          | (refine R_br rfl rfl (fun h => absurd h (by first | decide | (with_reducible assumption))) (fun _ => ?_))
          | (refine R_br rfl rfl (fun _ => ?_) (fun h => absurd (by first | decide | (with_reducible assumption)) h))
          | (refine R_br rfl rfl (fun _ => ?_) (fun _ => ?_))
          | (refine R_ri rfl rfl ?_)
          | (refine R_rz rfl rfl (Or.inl rfl) ?_)
          | (refine R_rz rfl rfl (Or.inr rfl) ?_)
          | (refine R_rz rfl rfl (b2_01 _) ?_)
          | (refine R_rl rfl rfl ?_)
          | (refine R_rv rfl rfl ?_)
          | (refine R_sw _ rfl rfl rfl ?_)
          | (refine R_go 9999 rfl rfl trivial ?_)
          | (refine R_go 9999 rfl rfl (by first | (show _ ∨ _; decide) | (show (_ ∨ _) ∧ (_ ∨ _); decide) | (show (_ ∨ _) ∧ (_ ∨ _) ∧ (_ ∨ _); decide)) ?_)
          | (refine R_go 9999 rfl rfl ?_ ?_))
      exact ⟨A', rfl, a2, rfl⟩
    · rw [if_neg h1]
      repeat' (first
          | (refine R_br rfl rfl (fun h => absurd h (by first | decide | (with_reducible assumption))) (fun _ => ?_))
          | (refine R_br rfl rfl (fun _ => ?_) (fun h => absurd (by first | decide | (with_reducible assumption)) h))
          | (refine R_br rfl rfl (fun _ => ?_) (fun _ => ?_))
          | (refine R_ri rfl rfl ?_)
          | (refine R_rz rfl rfl (Or.inl rfl) ?_)
          | (refine R_rz rfl rfl (Or.inr rfl) ?_)
          | (refine R_rz rfl rfl (b2_01 _) ?_)
          | (refine R_rl rfl rfl ?_)
          | (refine R_rv rfl rfl ?_)
          | (refine R_sw _ rfl rfl rfl ?_)
          | (refine R_go 9999 rfl rfl trivial ?_)
          | (refine R_go 9999 rfl rfl (by first | (show _ ∨ _; decide) | (show (_ ∨ _) ∧ (_ ∨ _); decide) | (show (_ ∨ _) ∧ (_ ∨ _) ∧ (_ ∨ _); decide)) ?_)
          | (refine R_go 9999 rfl rfl ?_ ?_))
      exact ⟨A, rfl, FmO_rf, rfl⟩
