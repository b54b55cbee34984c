def cRn (sort : Nat) : List Nat → Ct → Nat × Ct
  | [], k => (0, k)
  | c :: t, k => match cC sort c k with
    | none => (0, k)
    | some k' => ((cRn sort t k').1 + 1, (cRn sort t k').2)
def k0 : Ct := (0, 0, 0, false, false, false)
theorem cRn_le (sort : Nat) : ∀ (t : List Nat) (k : Ct), (cRn sort t k).1 ≤ t.length := by
  intro t
  induction t with
  | nil => intro k; exact Nat.le_refl _
  | cons c t ih =>
    intro k
    rw [cRn]
    split
    · exact Nat.zero_le _
    · rename_i k' _
      have := ih k'
      simp only [List.length_cons]
      omega
theorem uC_ok {sort c dep un : Nat} {rt bg ls : Bool} {k' : Ct} (h : uC c dep un rt bg ls = some k') (hu : un ≤ 3) (hs : sort ≤ 1) : okC sort k' ∧ k'.2.1 ≤ dep + 1 := by
  unfold uC at h
  repeat' split at h
  all_goals first | (cases h; done) | (cases h; exact ⟨⟨hs, by dsimp only; omega, hu, fun z => by dsimp only at z; omega⟩, by dsimp only; omega⟩)
theorem oC_ok {sort c dep un : Nat} {rt bg ls : Bool} {k' : Ct} (h : oC sort c dep un rt bg ls = some k') (hu : un ≤ 3) (hs : sort ≤ 1) : okC sort k' ∧ k'.2.1 ≤ dep + 1 := by
  unfold oC at h
  repeat' split at h
  all_goals first | (cases h; done) | (cases h; exact ⟨⟨hs, by dsimp only; omega, hu, fun z => by dsimp only at z; omega⟩, by dsimp only; omega⟩)
theorem bC_ok {sort c dep un : Nat} {rt bg ls : Bool} {k' : Ct} (h : bC sort c dep un rt bg ls = some k') (hu : un ≤ 3) (hs : sort ≤ 1) : okC sort k' ∧ k'.2.1 ≤ dep + 1 := by
  unfold bC at h
  repeat' split at h
  all_goals first | (cases h; done) | exact oC_ok h (by omega) hs | (cases h; exact ⟨⟨hs, by dsimp only; omega, by dsimp only; omega, fun z => by dsimp only at z; omega⟩, by dsimp only; omega⟩)
theorem fC_ok {sort c dep un : Nat} {rt bg ls : Bool} {k' : Ct} (h : fC sort c dep un rt bg ls = some k') (hu : un ≤ 3) (hs : sort ≤ 1) : okC sort k' ∧ k'.2.1 ≤ dep + 1 := by
  unfold fC at h
  repeat' split at h
  all_goals first | (cases h; done) | exact uC_ok h (by omega) hs | (cases h; exact ⟨⟨hs, by dsimp only; omega, by dsimp only; omega, fun z => by dsimp only at z; omega⟩, by dsimp only; omega⟩)
theorem cC_ok {sort c : Nat} {k k' : Ct} (h : cC sort c k = some k') (ho : okC sort k) : okC sort k' ∧ k'.2.1 ≤ k.2.1 + 1 := by
  obtain ⟨st, dep, un, rt, bg, ls⟩ := k
  obtain ⟨o1, o2, o3, o4⟩ := ho
  dsimp only at o2 o3 o4
  unfold cC at h
  dsimp only at h
  repeat' split at h
  all_goals first | (cases h; done) | exact fC_ok h o3 o1 | exact uC_ok h o3 o1 | exact bC_ok h o3 o1 | exact oC_ok h o3 o1 | skip
  all_goals first
    | (cases h; exact ⟨⟨o1, by dsimp only; omega, o3, fun z => by dsimp only at z; omega⟩, by dsimp only; omega⟩)
    | (cases h; exact ⟨⟨o1, by dsimp only; split <;> omega, o3, fun _ => o4 (by omega)⟩, by dsimp only; omega⟩)
theorem cRn_ok {sort : Nat} : ∀ (t : List Nat) (k : Ct), okC sort k → okC sort (cRn sort t k).2 ∧ (cRn sort t k).2.2.1 ≤ k.2.1 + t.length := by
  intro t
  induction t with
  | nil => intro k h; exact ⟨h, Nat.le_refl _⟩
  | cons c t ih =>
    intro k h
    rw [cRn]
    split
    · exact ⟨h, Nat.le_add_right _ _⟩
    · rename_i k' hk'
      have h1 := cC_ok hk' h
      have h2 := ih k' h1.1
      refine ⟨h2.1, ?_⟩
      have := h2.2
      have := h1.2
      simp only [List.length_cons]
      omega
def FFp (A : FI) (B : FJ) (sort n : Nat) (p : List Nat) : Option AV → AH → Prop := fun r h' => ∃ A', h' = hp A' B ∧ FmO 8 [] [2, 3, 4, 5, 6, 7, 8] A A' ∧ r = some (.inl (nI n)) ∧ ((cRn sort p k0).1 = p.length → RPC A' sort (cRn sort p k0).2)
theorem RCP_fr {A A' : FI} {p : List Nat} (h : RCP A p) (hF : FmO 8 [] [2, 3, 4, 5, 6, 7, 8] A A') : RCP A' p := ⟨by rw [hF.2 1 (by decide)]; exact h.1, h.2.1, fun k hk => by rw [hF.1 9 (by decide) (by decide)]; exact h.2.2 k hk⟩
theorem l_firstFaultC (B : FJ) (A0 : FI) (sort : Nat) (p : List Nat) (hw : ∀ x ∈ p, x ≤ 255) : ∀ (t pre : List Nat) (k : Ct) (A : FI), p = pre ++ t → RCP A p → FmO 8 [] [2, 3, 4, 5, 6, 7, 8] A0 A → okC sort k → k.2.1 ≤ pre.length → RPC A sort k → (cRn sort p k0).1 = pre.length + (cRn sort t k).1 → (cRn sort p k0).2 = (cRn sort t k).2 → Rn 4 mtX5_firstFault 45 [some (.inr (.inr (some (8, 0)))), some (.inl (nI sort)), some (.inl (nI pre.length))] [] (hp A B) (FFp A0 B sort (cRn sort p k0).1 p) := by
  intro t
  induction t with
  | nil =>
    intro pre k A hp1 hR hF ho hd hk h1 h2
    have hlen : pre.length = p.length := by rw [hp1]; simp
    have hl := hR.2.1
    have tp := ti p.length (by omega)
    have e1 := hR.1
    rw [cRn] at h1 h2
    rw [hlen] at h1 ⊢
    have n1 : nI p.length ≤ nI p.length := Int32.le_refl _
    refine R_go 9999 rfl rfl trivial ?_
    refine R_br rfl rfl (fun _ => ?_) (fun h => absurd n1 (by rw [e1] at h; exact h))
    repeat' (first
        | (refine R_br rfl rfl (fun h => absurd h (by first | decide | (with_reducible assumption))) (fun _ => ?_))
        | (refine R_br rfl rfl (fun _ => ?_) (fun h => absurd (by first | decide | (with_reducible assumption)) h))
        | (refine R_br rfl rfl (fun _ => ?_) (fun _ => ?_))
        | (refine R_ri rfl rfl ?_)
        | (refine R_rz rfl rfl (Or.inl rfl) ?_)
        | (refine R_rz rfl rfl (Or.inr rfl) ?_)
        | (refine R_rz rfl rfl (b2_01 _) ?_)
        | (refine R_rl rfl rfl ?_)
        | (refine R_rv rfl rfl ?_)
        | (refine R_sw _ rfl rfl rfl ?_)
        | (refine R_go 9999 rfl rfl trivial ?_)
        | (refine R_go 9999 rfl rfl (by first | (show _ ∨ _; decide) | (show (_ ∨ _) ∧ (_ ∨ _); decide) | (show (_ ∨ _) ∧ (_ ∨ _) ∧ (_ ∨ _); decide)) ?_)
        | (refine R_go 9999 rfl rfl ?_ ?_))
    exact ⟨A, rfl, hF, by rw [e1, h1]; rfl, fun _ => by rw [h2]; exact hk⟩
  | cons c t ih =>
    intro pre k A hp1 hR hF ho hd hk h1 h2
    have hl := hR.2.1
    have hlen : pre.length < p.length := by rw [hp1]; simp
    have tp := ti p.length (by omega)
    have tq := ti pre.length (by omega)
    have e1 := hR.1
    have ec : A 9 0 pre.length = nI c := by
      rw [hR.2.2 _ hlen, hp1]
      congr 1
      simp [List.getD_eq_getElem?_getD]
    have hc : c ≤ 255 := hw c (by rw [hp1]; simp)
    have cl : (nI pre.length).toNatClampNeg = pre.length := nI_clamp (by omega)
    refine R_go 9999 rfl rfl trivial ?_
    refine R_br rfl rfl (fun h => absurd h (by rw [e1]; (simp only [i_eq, i_lt, i_le, Int32.reduceToInt, true_and, and_true, false_and, and_false, or_false, false_or, or_true, true_or, ne_eq] at *; first | done | omega))) (fun _ => ?_)
    refine R_go 9999 rfl rfl trivial ?_
    refine R_br rfl rfl (fun h => absurd h (by (simp only [i_eq, i_lt, i_le, Int32.reduceToInt, true_and, and_true, false_and, and_false, or_false, false_or, or_true, true_or, ne_eq] at *; first | done | omega))) (fun _ => ?_)
    refine R_go 9999 rfl rfl (vpN (n := 80) (by omega) rfl) ?_
    rw [cl, ec]
    refine R_cv rfl (m_takes sort c k hc (by omega) ho hk) rfl rfl rfl rfl rfl (Nat.le_of_ble_eq_true rfl) rfl ?_
    rintro r h' ⟨A', rfl, hF', hm⟩
    rw [cRn] at h1 h2
    cases hcc : cC sort c k with
    | none =>
      rw [hcc] at hm h1 h2
      subst hm
      repeat' (first
          | (refine R_br rfl rfl (fun h => absurd h (by first | decide | (with_reducible assumption))) (fun _ => ?_))
          | (refine R_br rfl rfl (fun _ => ?_) (fun h => absurd (by first | decide | (with_reducible assumption)) h))
          | (refine R_br rfl rfl (fun _ => ?_) (fun _ => ?_))
          | (refine R_ri rfl rfl ?_)
          | (refine R_rz rfl rfl (Or.inl rfl) ?_)
          | (refine R_rz rfl rfl (Or.inr rfl) ?_)
          | (refine R_rz rfl rfl (b2_01 _) ?_)
          | (refine R_rl rfl rfl ?_)
          | (refine R_rv rfl rfl ?_)
          | (refine R_sw _ rfl rfl rfl ?_)
          | (refine R_go 9999 rfl rfl trivial ?_)
          | (refine R_go 9999 rfl rfl (by first | (show _ ∨ _; decide) | (show (_ ∨ _) ∧ (_ ∨ _); decide) | (show (_ ∨ _) ∧ (_ ∨ _) ∧ (_ ∨ _); decide)) ?_)
          | (refine R_go 9999 rfl rfl ?_ ?_))
      exact ⟨A', rfl, FmO_tr hF hF', by rw [h1]; rfl, fun z => by rw [h1] at z; simp at z; omega⟩
    | some k' =>
      rw [hcc] at hm h1 h2
      obtain ⟨rfl, hm⟩ := hm
      have hok := cC_ok hcc ho
      repeat' (first
          | (refine R_stop 45 rfl rfl ?_)
          | (refine R_br rfl rfl (fun h => absurd h (by first | decide | (with_reducible assumption))) (fun _ => ?_))
          | (refine R_br rfl rfl (fun _ => ?_) (fun h => absurd (by first | decide | (with_reducible assumption)) h))
          | (refine R_br rfl rfl (fun _ => ?_) (fun _ => ?_))
          | (refine R_ri rfl rfl ?_)
          | (refine R_rz rfl rfl (Or.inl rfl) ?_)
          | (refine R_rz rfl rfl (Or.inr rfl) ?_)
          | (refine R_rz rfl rfl (b2_01 _) ?_)
          | (refine R_rl rfl rfl ?_)
          | (refine R_rv rfl rfl ?_)
          | (refine R_sw _ rfl rfl rfl ?_)
          | (refine R_go 45 rfl rfl trivial ?_)
          | (refine R_go 45 rfl rfl (by first | (show _ ∨ _; decide) | (show (_ ∨ _) ∧ (_ ∨ _); decide) | (show (_ ∨ _) ∧ (_ ∨ _) ∧ (_ ∨ _); decide)) ?_)
          | (refine R_go 45 rfl rfl ?_ ?_))
      refine ⟨?_, trivial⟩
      rw [nI_1, show pre.length + 1 = (pre ++ [c]).length by simp]
      exact ih (pre ++ [c]) k' A' (by rw [hp1]; simp) (RCP_fr hR hF') (FmO_tr hF hF') hok.1 (by simp; omega) hm (by rw [h1]; simp; omega) h2
theorem okC_k0 {sort : Nat} (h : sort ≤ 1) : okC sort k0 := ⟨h, by decide, by decide, fun z => by simp [k0] at z⟩
theorem m_firstFaultC {A : FI} {B : FJ} (sort : Nat) (p : List Nat) (hs : sort ≤ 1) (hw : ∀ x ∈ p, x ≤ 255) (hR : RCP A p) : MV 4 1 mtX5_firstFault [.inr (.inr (some (8, 0))), .inl (nI sort)] (hp A B) (FFp A B sort (cRn sort p k0).1 p) := by
  refine MV_of caX5_firstFault (L := [some (.inr (.inr (some (8, 0)))), some (.inl (nI sort)), none]) rfl rfl ?_
  rcases (show sort = 0 ∨ sort = 1 by omega) with rfl | rfl
  all_goals
    repeat' (first
        | (refine R_stop 45 rfl rfl ?_)
        | (refine R_br rfl rfl (fun h => absurd h (by first | decide | (with_reducible assumption))) (fun _ => ?_))
        | (refine R_br rfl rfl (fun _ => ?_) (fun h => absurd (by first | decide | (with_reducible assumption)) h))
        | (refine R_br rfl rfl (fun _ => ?_) (fun _ => ?_))
        | (refine R_ri rfl rfl ?_)
        | (refine R_rz rfl rfl (Or.inl rfl) ?_)
        | (refine R_rz rfl rfl (Or.inr rfl) ?_)
        | (refine R_rz rfl rfl (b2_01 _) ?_)
        | (refine R_rl rfl rfl ?_)
        | (refine R_rv rfl rfl ?_)
        | (refine R_sw _ rfl rfl rfl ?_)
        | (refine R_go 45 rfl rfl trivial ?_)
        | (refine R_go 45 rfl rfl (by first | (show _ ∨ _; decide) | (show (_ ∨ _) ∧ (_ ∨ _); decide) | (show (_ ∨ _) ∧ (_ ∨ _) ∧ (_ ∨ _); decide)) ?_)
        | (refine R_go 45 rfl rfl ?_ ?_))
  all_goals refine ⟨?_, trivial⟩
  · exact l_firstFaultC B A 0 p hw p [] k0 _ rfl (RCP_fr hR (by first | exact FmO_rf | (repeat' (first | exact FmO_rf | (with_reducible assumption) | (refine FmO_up ?_ (by decide)) | (refine FmO_ug ?_ (by decide) (by decide)))))) (by first | exact FmO_rf | (repeat' (first | exact FmO_rf | (with_reducible assumption) | (refine FmO_up ?_ (by decide)) | (refine FmO_ug ?_ (by decide) (by decide))))) (okC_k0 hs) (Nat.le_refl _) ⟨by simp [up3], by simp [up3, k0]; rfl, by simp [up3, k0]; rfl, by simp [up3, k0]; rfl, by simp [up3, k0]; rfl, by simp [up3, k0]; rfl, by simp [up3, k0]; rfl⟩ (by simp) rfl
  · exact l_firstFaultC B A 1 p hw p [] k0 _ rfl (RCP_fr hR (by first | exact FmO_rf | (repeat' (first | exact FmO_rf | (with_reducible assumption) | (refine FmO_up ?_ (by decide)) | (refine FmO_ug ?_ (by decide) (by decide)))))) (by first | exact FmO_rf | (repeat' (first | exact FmO_rf | (with_reducible assumption) | (refine FmO_up ?_ (by decide)) | (refine FmO_ug ?_ (by decide) (by decide))))) (okC_k0 hs) (Nat.le_refl _) ⟨by simp [up3], by simp [up3, k0]; rfl, by simp [up3, k0]; rfl, by simp [up3, k0]; rfl, by simp [up3, k0]; rfl, by simp [up3, k0]; rfl, by simp [up3, k0]; rfl⟩ (by simp) rfl
/-- whether the letters are a PROGRAM (0), a LAW (1) -/
def whC (sort : Nat) (p : List Nat) : Prop := (cRn sort p k0).1 = p.length ∧ ((sort = 0 ∧ (cRn sort p k0).2.1 = 7) ∨ (sort = 1 ∧ (cRn sort p k0).2.2.1 = 0 ∧ ((((cRn sort p k0).2.1 = 2 ∨ (cRn sort p k0).2.1 = 3) ∧ (cRn sort p k0).2.2.2.2.1 = true) ∨ (cRn sort p k0).2.1 = 4)))
theorem m_isWhole {A : FI} {B : FJ} (sort : Nat) (p : List Nat) (hs : sort ≤ 1) (hw : ∀ x ∈ p, x ≤ 255) (hR : RCP A p) : MV 5 1 mtX5_isWhole [.inr (.inr (some (8, 0))), .inl (nI sort)] (hp A B) (fun r h' => ∃ A', h' = hp A' B ∧ FmO 8 [] [2, 3, 4, 5, 6, 7, 8] A A' ∧ r = some (.inl (b2 (whC sort p)))) := by
  refine MV_of caX5_isWhole (L := [some (.inr (.inr (some (8, 0)))), some (.inl (nI sort)), none]) rfl rfl ?_
  have hl := hR.2.1
  have hle := cRn_le sort p k0
  have hok := cRn_ok p k0 (okC_k0 hs)
  repeat' (first
      | (refine R_br rfl rfl (fun h => absurd h (by first | decide | (with_reducible assumption))) (fun _ => ?_))
      | (refine R_br rfl rfl (fun _ => ?_) (fun h => absurd (by first | decide | (with_reducible assumption)) h))
      | (refine R_br rfl rfl (fun _ => ?_) (fun _ => ?_))
      | (refine R_ri rfl rfl ?_)
      | (refine R_rz rfl rfl (Or.inl rfl) ?_)
      | (refine R_rz rfl rfl (Or.inr rfl) ?_)
      | (refine R_rz rfl rfl (b2_01 _) ?_)
      | (refine R_rl rfl rfl ?_)
      | (refine R_rv rfl rfl ?_)
      | (refine R_cv rfl (m_firstFaultC sort p hs hw hR) rfl rfl rfl rfl rfl (Nat.le_of_ble_eq_true rfl) rfl ?_)
      | (refine R_sw _ rfl rfl rfl ?_)
      | (refine R_go 9999 rfl rfl trivial ?_)
      | (refine R_go 9999 rfl rfl (by first | (show _ ∨ _; decide) | (show (_ ∨ _) ∧ (_ ∨ _); decide) | (show (_ ∨ _) ∧ (_ ∨ _) ∧ (_ ∨ _); decide)) ?_)
      | (refine R_go 9999 rfl rfl ?_ ?_))
  rintro r h' ⟨A', rfl, hF, rfl, hk⟩
  have e1 := (RCP_fr hR hF).1
  have t1 := ti p.length (by omega)
  have t2 := ti (cRn sort p k0).1 (by omega)
  by_cases h1 : (cRn sort p k0).1 = p.length
  · have hk := hk h1
    rw [h1]
    have hwc : whC sort p ↔ ((sort = 0 ∧ (cRn sort p k0).2.1 = 7) ∨ (sort = 1 ∧ (cRn sort p k0).2.2.1 = 0 ∧ ((((cRn sort p k0).2.1 = 2 ∨ (cRn sort p k0).2.1 = 3) ∧ (cRn sort p k0).2.2.2.2.1 = true) ∨ (cRn sort p k0).2.1 = 4))) := ⟨fun z => z.2, fun z => ⟨h1, z⟩⟩
    rw [b2_c hwc]
    obtain ⟨e2, e3, e4, e5, e6, e7, e8⟩ := hk
    obtain ⟨⟨o1, o2, o3, o4⟩, o5⟩ := hok
    generalize cRn sort p k0 = z at *
    obtain ⟨n, st, dep, un, rt, bg, ls⟩ := z
    dsimp only [k0] at *
    have t3 := ti st (by omega)
    have t4 := ti dep (by omega)
    have n1 : nI p.length = A' 8 0 1 := e1.symm
    rcases (show sort = 0 ∨ sort = 1 by omega) with rfl | rfl
    ·
      repeat' (first
          | (refine R_br rfl rfl (fun h => absurd h (by first | decide | (with_reducible assumption) | (simp only [i_eq, i_lt, i_le, Int32.reduceToInt, ne_eq, up3_self, nI_1, e3]; first | done | omega))) (fun _ => ?_))
          | (refine R_br rfl rfl (fun _ => ?_) (fun h => absurd (by first | decide | (with_reducible assumption) | (simp only [i_eq, i_lt, i_le, Int32.reduceToInt, ne_eq, up3_self, nI_1, e3]; first | done | omega)) h))
          | (refine R_br rfl rfl (fun _ => ?_) (fun _ => ?_))
          | (refine R_ri rfl rfl ?_)
          | (refine R_rz rfl rfl (Or.inl rfl) ?_)
          | (refine R_rz rfl rfl (Or.inr rfl) ?_)
          | (refine R_rz rfl rfl (b2_01 _) ?_)
          | (refine R_rl rfl rfl ?_)
          | (refine R_rv rfl rfl ?_)
          | (refine R_sw _ rfl rfl rfl ?_)
          | (refine R_go 9999 rfl rfl trivial ?_)
          | (refine R_go 9999 rfl rfl (by first | (show _ ∨ _; decide) | (show (_ ∨ _) ∧ (_ ∨ _); decide) | (show (_ ∨ _) ∧ (_ ∨ _) ∧ (_ ∨ _); decide)) ?_)
          | (refine R_go 9999 rfl rfl ?_ ?_))
      · exact ⟨A', rfl, hF, by rw [b2_1]; rename_i h; simp only [e3] at h; left; (simp only [i_eq, i_lt, i_le, Int32.reduceToInt, true_and, and_true, false_and, and_false, or_false, false_or, or_true, true_or, ne_eq] at *; first | done | omega)⟩
      · exact ⟨A', rfl, hF, by rw [b2_0]; rename_i h; simp only [e3] at h; (simp only [i_eq, i_lt, i_le, Int32.reduceToInt, true_and, and_true, false_and, and_false, or_false, false_or, or_true, true_or, ne_eq] at *; first | done | omega)⟩
    · cases rt with
      | true =>
        have n6 : ¬ A' 8 0 6 = 0 := by rw [e6]; decide
        repeat' (first
            | (refine R_br rfl rfl (fun h => absurd h (by first | decide | (with_reducible assumption) | (simp only [i_eq, i_lt, i_le, Int32.reduceToInt, ne_eq, up3_self, nI_1, e3, e4]; first | done | omega))) (fun _ => ?_))
            | (refine R_br rfl rfl (fun _ => ?_) (fun h => absurd (by first | decide | (with_reducible assumption) | (simp only [i_eq, i_lt, i_le, Int32.reduceToInt, ne_eq, up3_self, nI_1, e3, e4]; first | done | omega)) h))
            | (refine R_br rfl rfl (fun _ => ?_) (fun _ => ?_))
            | (refine R_ri rfl rfl ?_)
            | (refine R_rz rfl rfl (Or.inl rfl) ?_)
            | (refine R_rz rfl rfl (Or.inr rfl) ?_)
            | (refine R_rz rfl rfl (b2_01 _) ?_)
            | (refine R_rl rfl rfl ?_)
            | (refine R_rv rfl rfl ?_)
            | (refine R_sw _ rfl rfl rfl ?_)
            | (refine R_go 9999 rfl rfl trivial ?_)
            | (refine R_go 9999 rfl rfl (by first | (show _ ∨ _; decide) | (show (_ ∨ _) ∧ (_ ∨ _); decide) | (show (_ ∨ _) ∧ (_ ∨ _) ∧ (_ ∨ _); decide)) ?_)
            | (refine R_go 9999 rfl rfl ?_ ?_))
        all_goals (simp only [e3, e4] at *)
        all_goals first
          | exact ⟨A', rfl, hF, by rw [b2_1 (by (simp only [i_eq, i_lt, i_le, Int32.reduceToInt, true_and, and_true, false_and, and_false, or_false, false_or, or_true, true_or, ne_eq] at *; first | done | omega))]⟩
          | exact ⟨A', rfl, hF, by rw [b2_0 (by (simp only [i_eq, i_lt, i_le, Int32.reduceToInt, true_and, and_true, false_and, and_false, or_false, false_or, or_true, true_or, ne_eq] at *; first | done | omega))]⟩
      | false =>
        have n6 : A' 8 0 6 = 0 := by rw [e6]; decide
        repeat' (first
            | (refine R_br rfl rfl (fun h => absurd h (by first | decide | (with_reducible assumption) | (simp only [i_eq, i_lt, i_le, Int32.reduceToInt, ne_eq, up3_self, nI_1, e3, e4]; first | done | omega))) (fun _ => ?_))
            | (refine R_br rfl rfl (fun _ => ?_) (fun h => absurd (by first | decide | (with_reducible assumption) | (simp only [i_eq, i_lt, i_le, Int32.reduceToInt, ne_eq, up3_self, nI_1, e3, e4]; first | done | omega)) h))
            | (refine R_br rfl rfl (fun _ => ?_) (fun _ => ?_))
            | (refine R_ri rfl rfl ?_)
            | (refine R_rz rfl rfl (Or.inl rfl) ?_)
            | (refine R_rz rfl rfl (Or.inr rfl) ?_)
            | (refine R_rz rfl rfl (b2_01 _) ?_)
            | (refine R_rl rfl rfl ?_)
            | (refine R_rv rfl rfl ?_)
            | (refine R_sw _ rfl rfl rfl ?_)
            | (refine R_go 9999 rfl rfl trivial ?_)
            | (refine R_go 9999 rfl rfl (by first | (show _ ∨ _; decide) | (show (_ ∨ _) ∧ (_ ∨ _); decide) | (show (_ ∨ _) ∧ (_ ∨ _) ∧ (_ ∨ _); decide)) ?_)
            | (refine R_go 9999 rfl rfl ?_ ?_))
        all_goals (simp only [e3, e4, Bool.false_eq_true] at *)
        all_goals first
          | exact ⟨A', rfl, hF, by rw [b2_1 (by (simp only [i_eq, i_lt, i_le, Int32.reduceToInt, true_and, and_true, false_and, and_false, or_false, false_or, or_true, true_or, ne_eq] at *; first | done | omega))]⟩
          | exact ⟨A', rfl, hF, by rw [b2_0 (by (simp only [i_eq, i_lt, i_le, Int32.reduceToInt, true_and, and_true, false_and, and_false, or_false, false_or, or_true, true_or, ne_eq] at *; first | done | omega))]⟩
  · have n1 : ¬ nI (cRn sort p k0).1 = A' 8 0 1 := by rw [e1]; (simp only [i_eq, i_lt, i_le, Int32.reduceToInt, true_and, and_true, false_and, and_false, or_false, false_or, or_true, true_or, ne_eq] at *; first | done | omega)
    repeat' (first
        | (refine R_br rfl rfl (fun h => absurd h (by first | decide | (with_reducible assumption))) (fun _ => ?_))
        | (refine R_br rfl rfl (fun _ => ?_) (fun h => absurd (by first | decide | (with_reducible assumption)) h))
        | (refine R_br rfl rfl (fun _ => ?_) (fun _ => ?_))
        | (refine R_ri rfl rfl ?_)
        | (refine R_rz rfl rfl (Or.inl rfl) ?_)
        | (refine R_rz rfl rfl (Or.inr rfl) ?_)
        | (refine R_rz rfl rfl (b2_01 _) ?_)
        | (refine R_rl rfl rfl ?_)
        | (refine R_rv rfl rfl ?_)
        | (refine R_sw _ rfl rfl rfl ?_)
        | (refine R_go 9999 rfl rfl trivial ?_)
        | (refine R_go 9999 rfl rfl (by first | (show _ ∨ _; decide) | (show (_ ∨ _) ∧ (_ ∨ _); decide) | (show (_ ∨ _) ∧ (_ ∨ _) ∧ (_ ∨ _); decide)) ?_)
        | (refine R_go 9999 rfl rfl ?_ ?_))
    exact ⟨A', rfl, hF, by rw [b2_0 (fun z => h1 z.1)]⟩
