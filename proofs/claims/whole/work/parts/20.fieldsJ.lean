theorem RMF_put4 {A : FI} {F F' : FS} (hR : RMF A F) (a : Nat) (ha : a < 8) (ho : ∀ f, f ≠ a → F'.1 f = F.1 f ∧ F'.2.1 f = F.2.1 f ∧ F'.2.2.1 f = F.2.2.1 f ∧ F'.2.2.2 f = F.2.2.2 f) : RMF (up3 (up3 (up3 (up3 A 32 0 a (nI (F'.1 a))) 33 0 a (nI (F'.2.1 a))) 34 0 a (nI (F'.2.2.1 a))) 35 0 a (nI (F'.2.2.2 a))) F' := by
  intro f hf
  have h := hR f hf
  by_cases e : f = a
  · subst e
    simp [up3]
  · have := ho f e
    simp [up3, e, this, h]
theorem RMF_put5 {A : FI} {F F' : FS} {x0 x1 x2 x3 : Int32} (hR : RMF A F) (a : Nat) (ha : a < 8) (ho : ∀ f, f ≠ a → F'.1 f = F.1 f ∧ F'.2.1 f = F.2.1 f ∧ F'.2.2.1 f = F.2.2.1 f ∧ F'.2.2.2 f = F.2.2.2 f) (h0 : x0 = nI (F'.1 a)) (h1 : x1 = nI (F'.2.1 a)) (h2 : x2 = nI (F'.2.2.1 a)) (h3 : x3 = nI (F'.2.2.2 a)) : RMF (up3 (up3 (up3 (up3 A 32 0 a x0) 33 0 a x1) 34 0 a x2) 35 0 a x3) F' := by
  rw [h0, h1, h2, h3]; exact RMF_put4 hR a ha ho
theorem up3_g {α : Type} {A : Nat → Nat → Nat → α} {g i s g' : Nat} {x : α} (h : g' ≠ g) : up3 A g i s x g' = A g' := by simp [up3, h]
theorem m_fieldM {A : FI} {B : FJ} {F : FS} (hR : RMF A F) (hW : WFF F) (f w v : Int32) : MV 2 3 mtX12_field [.inr (.inr (some (31, 0))), .inl f, .inl w, .inl v] (hp A B) (fun r h' => ∃ A', h' = hp A' B ∧ r = some (.inl (fieldS F f w v).1) ∧ RMF A' (fieldS F f w v).2 ∧ Fm [32, 33, 34, 35] A A') := by
  refine MV_of caX12_field (L := [some (.inr (.inr (some (31, 0)))), some (.inl f), some (.inl w), some (.inl v), none, none]) rfl rfl ?_
  by_cases hf : 0 ≤ f.toInt ∧ f.toInt < 8
  · obtain ⟨a, ha, rfl⟩ := vp_in_of (x := f) (n := 8) (vp_of hf.1 (by omega)) (by decide)
    have ca : (nI a).toNatClampNeg = a := nI_clamp (by omega)
    by_cases hw : 0 ≤ w.toInt ∧ w.toInt ≤ 3
    · obtain ⟨b, hb, rfl⟩ := vp_in_of (x := w) (n := 4) (vp_of hw.1 (by omega)) (by decide)
      have hv : 0 ≤ (nI a).toInt ∧ (nI a).toInt < 8 ∧ 0 ≤ (nI b).toInt ∧ (nI b).toInt ≤ 3 := ⟨hf.1, hf.2, hw.1, hw.2⟩
      have cb : (nI b).toNatClampNeg = b := nI_clamp (by omega)
      have tb := ti b (by omega)
      have h0 := hW.1 a ha
      have e := hR a ha
      have t0 := ti (F.1 a) (by omega)
      have t1 := ti (F.2.1 a) (by omega)
      have t2 := ti (F.2.2.1 a) (by omega)
      have t3 := ti (mayN F 8) (by have := mayN_le F 8; omega)
      have hin : ∀ (A : FI) (B : FJ), MS 0 3 mtX12_in [.inr (.inl (nI b).toInt64), .inr (.inl 0), .inr (.inl 3)] (hp A B) (Ret (some (.inl 1)) (hp A B)) := fun A B => by
        have h := m_inI (nI b) 0 3 A B
        rwa [b2_1 (by simp only [Int64.reduceToInt]; exact hw)] at h
      have hfm : ∀ x0 x1 x2 x3 : Int32, Fm [32, 33, 34, 35] A (up3 (up3 (up3 (up3 A 32 0 a x0) 33 0 a x1) 34 0 a x2) 35 0 a x3) := fun x0 x1 x2 x3 g hg => by
        simp only [List.mem_cons, List.not_mem_nil, or_false, not_or] at hg
        simp [up3, hg]
      have hout : ¬ fitS F a b v → ∃ A', (cnt0, A, B, C0) = hp A' B ∧ some (Sum.inl (-102)) = some (Sum.inl (fieldS F (nI a) (nI b) v).1 : AV) ∧ RMF A' (fieldS F (nI a) (nI b) v).2 ∧ Fm [32, 33, 34, 35] A A' := fun h => by
        rw [fieldS_out hv (by rw [ca, cb]; exact h)]
        exact ⟨A, rfl, rfl, hR, Fm_rf⟩
      have hst : fitS F a b v → ((b = 3 ∧ F.1 a ≠ 3) ∨ (b = 0 ∧ v.toInt = 3 ∧ F.1 a ≠ 3 ∧ mayN F 8 = 3)) → ∃ A', (cnt0, A, B, C0) = hp A' B ∧ some (Sum.inl (-103)) = some (Sum.inl (fieldS F (nI a) (nI b) v).1 : AV) ∧ RMF A' (fieldS F (nI a) (nI b) v).2 ∧ Fm [32, 33, 34, 35] A A' := fun h h2 => by
        rw [fieldS_in hv (by rw [ca, cb]; exact h), ca, if_pos (by rw [tb]; omega)]
        exact ⟨A, rfl, rfl, hR, Fm_rf⟩
      have hok : fitS F a b v → ¬ ((b = 3 ∧ F.1 a ≠ 3) ∨ (b = 0 ∧ v.toInt = 3 ∧ F.1 a ≠ 3 ∧ mayN F 8 = 3)) → ∀ x0 x1 x2 x3 : Int32, x0 = (if b = 0 then v else nI (F.1 a)) → x1 = (if b = 1 then v else nI (F.2.1 a)) → x2 = (if b = 2 then v else nI (F.2.2.1 a)) → x3 = (if b = 3 then v else nI (F.2.2.2 a)) → ∃ A', (cnt0, up3 (up3 (up3 (up3 A 32 0 a x0) 33 0 a x1) 34 0 a x2) 35 0 a x3, B, C0) = hp A' B ∧ some (Sum.inl (nI ((if b = 0 then F.1 else if b = 1 then F.2.1 else if b = 2 then F.2.2.1 else F.2.2.2) a))) = some (Sum.inl (fieldS F (nI a) (nI b) v).1 : AV) ∧ RMF A' (fieldS F (nI a) (nI b) v).2 ∧ Fm [32, 33, 34, 35] A A' := fun h h2 x0 x1 x2 x3 hx0 hx1 hx2 hx3 => by
        have hvn : v = nI v.toNatClampNeg := nI_cl v (by unfold fitS at h; omega)
        have e00 : ((b : Int) = 0) ↔ b = 0 := by omega
        have e01 : ((b : Int) = 1) ↔ b = 1 := by omega
        have e02 : ((b : Int) = 2) ↔ b = 2 := by omega
        have e03 : ((b : Int) = 3) ↔ b = 3 := by omega
        have hfs := fieldS_in (v := v) hv (by rw [ca, cb]; exact h)
        rw [if_neg (by rw [ca, tb]; omega), ca, tb] at hfs
        simp only [e00, e01, e02, e03] at hfs
        rw [hfs]
        have hself : ∀ g : Nat → Nat, va_up g a v.toNatClampNeg a = v.toNatClampNeg := fun g => by simp [va_up]
        refine ⟨_, rfl, rfl, RMF_put5 hR a ha (fun f hf => ?_) ?_ ?_ ?_ ?_, hfm _ _ _ _⟩
        · rcases (show b = 0 ∨ b = 1 ∨ b = 2 ∨ b = 3 by omega) with rfl | rfl | rfl | rfl <;> simp [va_up, hf]
        · rw [hx0]; by_cases z : b = 0 <;> simp [z, hself, ← hvn]
        · rw [hx1]; by_cases z : b = 1 <;> simp [z, hself, ← hvn]
        · rw [hx2]; by_cases z : b = 2 <;> simp [z, hself, ← hvn]
        · rw [hx3]; by_cases z : b = 3 <;> simp [z, hself, ← hvn]
      clear hfm
      have e1 : A 32 0 (nI a).toNatClampNeg = nI (F.1 a) := by rw [ca]; exact e.1
      have y1 : ∀ x, up3 A 32 0 a x 33 0 a = nI (F.2.1 a) := fun x => by rw [up3_g (by decide)]; exact e.2.1
      have y2 : ∀ x y, up3 (up3 A 32 0 a x) 33 0 a y 34 0 a = nI (F.2.2.1 a) := fun x y => by rw [up3_g (by decide), up3_g (by decide)]; exact e.2.2.1
      have y3 : ∀ x y z, up3 (up3 (up3 A 32 0 a x) 33 0 a y) 34 0 a z 35 0 a = nI (F.2.2.2 a) := fun x y z => by rw [up3_g (by decide), up3_g (by decide), up3_g (by decide)]; exact e.2.2.2
      have m3 : nI (mayN F 8) = 3 ↔ mayN F 8 = 3 := nI_eq (by have := mayN_le F 8; omega) (by decide)
      have k3 : nI (F.1 a) = 3 ↔ F.1 a = 3 := nI_eq (by omega) (by decide)
      have v3 : v = 3 ↔ v.toInt = 3 := i_eq
      have q1 : A 34 0 (nI a).toNatClampNeg = nI (F.2.2.1 a) := by rw [ca]; exact e.2.2.1
      have q2 : A 33 0 (nI a).toNatClampNeg = nI (F.2.1 a) := by rw [ca]; exact e.2.1
      have hfin : ∀ (lo hi : Int64), (fitS F a b v ↔ (lo.toInt ≤ v.toInt ∧ v.toInt ≤ hi.toInt)) → ∀ (A : FI) (B : FJ), (fitS F a b v → MS 0 3 mtX12_in [.inr (.inl v.toInt64), .inr (.inl lo), .inr (.inl hi)] (hp A B) (Ret (some (.inl 1)) (hp A B))) ∧ (¬ fitS F a b v → MS 0 3 mtX12_in [.inr (.inl v.toInt64), .inr (.inl lo), .inr (.inl hi)] (hp A B) (Ret (some (.inl 0)) (hp A B))) := fun lo hi hiff A B => by
        have h := m_inI v lo hi A B
        refine ⟨fun z => ?_, fun z => ?_⟩
        · rwa [b2_1 (hiff.mp z)] at h
        · rwa [b2_0 (fun y => z (hiff.mpr y))] at h
      rcases (show b = 0 ∨ b = 1 ∨ b = 2 ∨ b = 3 by omega) with rfl | rfl | rfl | rfl
      · have hi0 := hfin 0 4 (by simp [fitS, i_l, t1, t2])
        clear hfin
        by_cases hfit : fitS F a 0 v
        · have hi1 := fun A B => (hi0 A B).1 hfit
          clear hi0 hout
          repeat' (first
              | (refine R_br rfl rfl (fun h => absurd h (by first | decide | (with_reducible assumption))) (fun _ => ?_))
              | (refine R_br rfl rfl (fun _ => ?_) (fun h => absurd (by first | decide | (with_reducible assumption)) h))
              | (refine R_br rfl rfl (fun _ => ?_) (fun _ => ?_))
              | (refine R_ri rfl rfl ?_)
              | (refine R_rz rfl rfl (Or.inl rfl) ?_)
              | (refine R_rz rfl rfl (Or.inr rfl) ?_)
              | (refine R_rz rfl rfl (b2_01 _) ?_)
              | (refine R_rl rfl rfl ?_)
              | (refine R_rv rfl rfl ?_)
              | (refine R_csr rfl (m_isFieldMT a ha _ _) rfl rfl rfl (Nat.le_of_ble_eq_true rfl) rfl ?_)
              | (refine R_csr rfl (hin _ _) rfl rfl rfl (Nat.le_of_ble_eq_true rfl) rfl ?_)
              | (rw [q1])
              | (rw [q2])
              | (refine R_csr rfl (hi1 _ _) rfl rfl rfl (Nat.le_of_ble_eq_true rfl) rfl ?_)
              | (refine R_cvr rfl (m_mayMany hR hW) rfl rfl rfl rfl rfl (Nat.le_of_ble_eq_true rfl) rfl ?_)
              | (refine R_cvr rfl (m_toldM hR a 0 ha (by decide)) rfl rfl rfl rfl rfl (Nat.le_of_ble_eq_true rfl) rfl ?_)
              | (refine R_sw _ rfl rfl rfl ?_)
              | (refine R_go 9999 rfl rfl trivial ?_)
              | (refine R_go 9999 rfl rfl ?_ ?_))
          all_goals first | exact vpN ha rfl | exact ⟨vpN ha rfl, vpN ha rfl⟩ | skip
          all_goals first
            | (refine hst hfit ?_; simp only [e1, v3, k3, m3, true_and, and_true, false_and, and_false, or_false, false_or, ne_eq] at * <;> omega)
            | (rw [ca]; refine hok hfit ?_ _ _ _ _ ?_ ?_ ?_ ?_)
          all_goals first | (simp only [e1, v3, k3, m3, true_and, and_true, false_and, and_false, or_false, false_or, ne_eq] at * <;> omega) | simp [y1, y2, y3, e.1, e.2.1, e.2.2.1, e.2.2.2, up3_g]
        · have hi1 := fun A B => (hi0 A B).2 hfit
          clear hi0 hok hst
          repeat' (first
              | (refine R_br rfl rfl (fun h => absurd h (by first | decide | (with_reducible assumption))) (fun _ => ?_))
              | (refine R_br rfl rfl (fun _ => ?_) (fun h => absurd (by first | decide | (with_reducible assumption)) h))
              | (refine R_br rfl rfl (fun _ => ?_) (fun _ => ?_))
              | (refine R_ri rfl rfl ?_)
              | (refine R_rz rfl rfl (Or.inl rfl) ?_)
              | (refine R_rz rfl rfl (Or.inr rfl) ?_)
              | (refine R_rz rfl rfl (b2_01 _) ?_)
              | (refine R_rl rfl rfl ?_)
              | (refine R_rv rfl rfl ?_)
              | (refine R_csr rfl (m_isFieldMT a ha _ _) rfl rfl rfl (Nat.le_of_ble_eq_true rfl) rfl ?_)
              | (refine R_csr rfl (hin _ _) rfl rfl rfl (Nat.le_of_ble_eq_true rfl) rfl ?_)
              | (rw [q1])
              | (rw [q2])
              | (refine R_csr rfl (hi1 _ _) rfl rfl rfl (Nat.le_of_ble_eq_true rfl) rfl ?_)
              | (refine R_sw _ rfl rfl rfl ?_)
              | (refine R_go 9999 rfl rfl trivial ?_)
              | (refine R_go 9999 rfl rfl ?_ ?_))
          all_goals first | exact vpN ha rfl | exact hout hfit
      · have hi0 := hfin 0 (nI (F.2.2.1 a)).toInt64 (by simp [fitS, i_l, t1, t2])
        clear hfin
        by_cases hfit : fitS F a 1 v
        · have hi1 := fun A B => (hi0 A B).1 hfit
          clear hi0 hout
          repeat' (first
              | (refine R_br rfl rfl (fun h => absurd h (by first | decide | (with_reducible assumption))) (fun _ => ?_))
              | (refine R_br rfl rfl (fun _ => ?_) (fun h => absurd (by first | decide | (with_reducible assumption)) h))
              | (refine R_br rfl rfl (fun _ => ?_) (fun _ => ?_))
              | (refine R_ri rfl rfl ?_)
              | (refine R_rz rfl rfl (Or.inl rfl) ?_)
              | (refine R_rz rfl rfl (Or.inr rfl) ?_)
              | (refine R_rz rfl rfl (b2_01 _) ?_)
              | (refine R_rl rfl rfl ?_)
              | (refine R_rv rfl rfl ?_)
              | (refine R_csr rfl (m_isFieldMT a ha _ _) rfl rfl rfl (Nat.le_of_ble_eq_true rfl) rfl ?_)
              | (refine R_csr rfl (hin _ _) rfl rfl rfl (Nat.le_of_ble_eq_true rfl) rfl ?_)
              | (rw [q1])
              | (rw [q2])
              | (refine R_csr rfl (hi1 _ _) rfl rfl rfl (Nat.le_of_ble_eq_true rfl) rfl ?_)
              | (refine R_cvr rfl (m_mayMany hR hW) rfl rfl rfl rfl rfl (Nat.le_of_ble_eq_true rfl) rfl ?_)
              | (refine R_cvr rfl (m_toldM hR a 1 ha (by decide)) rfl rfl rfl rfl rfl (Nat.le_of_ble_eq_true rfl) rfl ?_)
              | (refine R_sw _ rfl rfl rfl ?_)
              | (refine R_go 9999 rfl rfl trivial ?_)
              | (refine R_go 9999 rfl rfl ?_ ?_))
          all_goals first | exact vpN ha rfl | exact ⟨vpN ha rfl, vpN ha rfl⟩ | skip
          all_goals first
            | (refine hst hfit ?_; simp only [e1, v3, k3, m3, true_and, and_true, false_and, and_false, or_false, false_or, ne_eq] at * <;> omega)
            | (rw [ca]; refine hok hfit ?_ _ _ _ _ ?_ ?_ ?_ ?_)
          all_goals first | (simp only [e1, v3, k3, m3, true_and, and_true, false_and, and_false, or_false, false_or, ne_eq] at * <;> omega) | simp [y1, y2, y3, e.1, e.2.1, e.2.2.1, e.2.2.2, up3_g]
        · have hi1 := fun A B => (hi0 A B).2 hfit
          clear hi0 hok hst
          repeat' (first
              | (refine R_br rfl rfl (fun h => absurd h (by first | decide | (with_reducible assumption))) (fun _ => ?_))
              | (refine R_br rfl rfl (fun _ => ?_) (fun h => absurd (by first | decide | (with_reducible assumption)) h))
              | (refine R_br rfl rfl (fun _ => ?_) (fun _ => ?_))
              | (refine R_ri rfl rfl ?_)
              | (refine R_rz rfl rfl (Or.inl rfl) ?_)
              | (refine R_rz rfl rfl (Or.inr rfl) ?_)
              | (refine R_rz rfl rfl (b2_01 _) ?_)
              | (refine R_rl rfl rfl ?_)
              | (refine R_rv rfl rfl ?_)
              | (refine R_csr rfl (m_isFieldMT a ha _ _) rfl rfl rfl (Nat.le_of_ble_eq_true rfl) rfl ?_)
              | (refine R_csr rfl (hin _ _) rfl rfl rfl (Nat.le_of_ble_eq_true rfl) rfl ?_)
              | (rw [q1])
              | (rw [q2])
              | (refine R_csr rfl (hi1 _ _) rfl rfl rfl (Nat.le_of_ble_eq_true rfl) rfl ?_)
              | (refine R_sw _ rfl rfl rfl ?_)
              | (refine R_go 9999 rfl rfl trivial ?_)
              | (refine R_go 9999 rfl rfl ?_ ?_))
          all_goals first | exact vpN ha rfl | exact hout hfit
      · have hi0 := hfin (nI (F.2.1 a)).toInt64 20 (by simp [fitS, i_l, t1, t2])
        clear hfin
        by_cases hfit : fitS F a 2 v
        · have hi1 := fun A B => (hi0 A B).1 hfit
          clear hi0 hout
          repeat' (first
              | (refine R_br rfl rfl (fun h => absurd h (by first | decide | (with_reducible assumption))) (fun _ => ?_))
              | (refine R_br rfl rfl (fun _ => ?_) (fun h => absurd (by first | decide | (with_reducible assumption)) h))
              | (refine R_br rfl rfl (fun _ => ?_) (fun _ => ?_))
              | (refine R_ri rfl rfl ?_)
              | (refine R_rz rfl rfl (Or.inl rfl) ?_)
              | (refine R_rz rfl rfl (Or.inr rfl) ?_)
              | (refine R_rz rfl rfl (b2_01 _) ?_)
              | (refine R_rl rfl rfl ?_)
              | (refine R_rv rfl rfl ?_)
              | (refine R_csr rfl (m_isFieldMT a ha _ _) rfl rfl rfl (Nat.le_of_ble_eq_true rfl) rfl ?_)
              | (refine R_csr rfl (hin _ _) rfl rfl rfl (Nat.le_of_ble_eq_true rfl) rfl ?_)
              | (rw [q1])
              | (rw [q2])
              | (refine R_csr rfl (hi1 _ _) rfl rfl rfl (Nat.le_of_ble_eq_true rfl) rfl ?_)
              | (refine R_cvr rfl (m_mayMany hR hW) rfl rfl rfl rfl rfl (Nat.le_of_ble_eq_true rfl) rfl ?_)
              | (refine R_cvr rfl (m_toldM hR a 2 ha (by decide)) rfl rfl rfl rfl rfl (Nat.le_of_ble_eq_true rfl) rfl ?_)
              | (refine R_sw _ rfl rfl rfl ?_)
              | (refine R_go 9999 rfl rfl trivial ?_)
              | (refine R_go 9999 rfl rfl ?_ ?_))
          all_goals first | exact vpN ha rfl | exact ⟨vpN ha rfl, vpN ha rfl⟩ | skip
          all_goals first
            | (refine hst hfit ?_; simp only [e1, v3, k3, m3, true_and, and_true, false_and, and_false, or_false, false_or, ne_eq] at * <;> omega)
            | (rw [ca]; refine hok hfit ?_ _ _ _ _ ?_ ?_ ?_ ?_)
          all_goals first | (simp only [e1, v3, k3, m3, true_and, and_true, false_and, and_false, or_false, false_or, ne_eq] at * <;> omega) | simp [y1, y2, y3, e.1, e.2.1, e.2.2.1, e.2.2.2, up3_g]
        · have hi1 := fun A B => (hi0 A B).2 hfit
          clear hi0 hok hst
          repeat' (first
              | (refine R_br rfl rfl (fun h => absurd h (by first | decide | (with_reducible assumption))) (fun _ => ?_))
              | (refine R_br rfl rfl (fun _ => ?_) (fun h => absurd (by first | decide | (with_reducible assumption)) h))
              | (refine R_br rfl rfl (fun _ => ?_) (fun _ => ?_))
              | (refine R_ri rfl rfl ?_)
              | (refine R_rz rfl rfl (Or.inl rfl) ?_)
              | (refine R_rz rfl rfl (Or.inr rfl) ?_)
              | (refine R_rz rfl rfl (b2_01 _) ?_)
              | (refine R_rl rfl rfl ?_)
              | (refine R_rv rfl rfl ?_)
              | (refine R_csr rfl (m_isFieldMT a ha _ _) rfl rfl rfl (Nat.le_of_ble_eq_true rfl) rfl ?_)
              | (refine R_csr rfl (hin _ _) rfl rfl rfl (Nat.le_of_ble_eq_true rfl) rfl ?_)
              | (rw [q1])
              | (rw [q2])
              | (refine R_csr rfl (hi1 _ _) rfl rfl rfl (Nat.le_of_ble_eq_true rfl) rfl ?_)
              | (refine R_sw _ rfl rfl rfl ?_)
              | (refine R_go 9999 rfl rfl trivial ?_)
              | (refine R_go 9999 rfl rfl ?_ ?_))
          all_goals first | exact vpN ha rfl | exact hout hfit
      · have hi0 := hfin 1 99 (by simp [fitS, i_l, t1, t2])
        clear hfin
        by_cases hfit : fitS F a 3 v
        · have hi1 := fun A B => (hi0 A B).1 hfit
          clear hi0 hout
          repeat' (first
              | (refine R_br rfl rfl (fun h => absurd h (by first | decide | (with_reducible assumption))) (fun _ => ?_))
              | (refine R_br rfl rfl (fun _ => ?_) (fun h => absurd (by first | decide | (with_reducible assumption)) h))
              | (refine R_br rfl rfl (fun _ => ?_) (fun _ => ?_))
              | (refine R_ri rfl rfl ?_)
              | (refine R_rz rfl rfl (Or.inl rfl) ?_)
              | (refine R_rz rfl rfl (Or.inr rfl) ?_)
              | (refine R_rz rfl rfl (b2_01 _) ?_)
              | (refine R_rl rfl rfl ?_)
              | (refine R_rv rfl rfl ?_)
              | (refine R_csr rfl (m_isFieldMT a ha _ _) rfl rfl rfl (Nat.le_of_ble_eq_true rfl) rfl ?_)
              | (refine R_csr rfl (hin _ _) rfl rfl rfl (Nat.le_of_ble_eq_true rfl) rfl ?_)
              | (rw [q1])
              | (rw [q2])
              | (refine R_csr rfl (hi1 _ _) rfl rfl rfl (Nat.le_of_ble_eq_true rfl) rfl ?_)
              | (refine R_cvr rfl (m_mayMany hR hW) rfl rfl rfl rfl rfl (Nat.le_of_ble_eq_true rfl) rfl ?_)
              | (refine R_cvr rfl (m_toldM hR a 3 ha (by decide)) rfl rfl rfl rfl rfl (Nat.le_of_ble_eq_true rfl) rfl ?_)
              | (refine R_sw _ rfl rfl rfl ?_)
              | (refine R_go 9999 rfl rfl trivial ?_)
              | (refine R_go 9999 rfl rfl ?_ ?_))
          all_goals first | exact vpN ha rfl | exact ⟨vpN ha rfl, vpN ha rfl⟩ | skip
          all_goals first
            | (refine hst hfit ?_; simp only [e1, v3, k3, m3, true_and, and_true, false_and, and_false, or_false, false_or, ne_eq] at * <;> omega)
            | (rw [ca]; refine hok hfit ?_ _ _ _ _ ?_ ?_ ?_ ?_)
          all_goals first | (simp only [e1, v3, k3, m3, true_and, and_true, false_and, and_false, or_false, false_or, ne_eq] at * <;> omega) | simp [y1, y2, y3, e.1, e.2.1, e.2.2.1, e.2.2.2, up3_g]
        · have hi1 := fun A B => (hi0 A B).2 hfit
          clear hi0 hok hst
          repeat' (first
              | (refine R_br rfl rfl (fun h => absurd h (by first | decide | (with_reducible assumption))) (fun _ => ?_))
              | (refine R_br rfl rfl (fun _ => ?_) (fun h => absurd (by first | decide | (with_reducible assumption)) h))
              | (refine R_br rfl rfl (fun _ => ?_) (fun _ => ?_))
              | (refine R_ri rfl rfl ?_)
              | (refine R_rz rfl rfl (Or.inl rfl) ?_)
              | (refine R_rz rfl rfl (Or.inr rfl) ?_)
              | (refine R_rz rfl rfl (b2_01 _) ?_)
              | (refine R_rl rfl rfl ?_)
              | (refine R_rv rfl rfl ?_)
              | (refine R_csr rfl (m_isFieldMT a ha _ _) rfl rfl rfl (Nat.le_of_ble_eq_true rfl) rfl ?_)
              | (refine R_csr rfl (hin _ _) rfl rfl rfl (Nat.le_of_ble_eq_true rfl) rfl ?_)
              | (rw [q1])
              | (rw [q2])
              | (refine R_csr rfl (hi1 _ _) rfl rfl rfl (Nat.le_of_ble_eq_true rfl) rfl ?_)
              | (refine R_sw _ rfl rfl rfl ?_)
              | (refine R_go 9999 rfl rfl trivial ?_)
              | (refine R_go 9999 rfl rfl ?_ ?_))
          all_goals first | exact vpN ha rfl | exact hout hfit
    · rw [fieldS_no (by omega)]
      have hin : ∀ (A : FI) (B : FJ), MS 0 3 mtX12_in [.inr (.inl w.toInt64), .inr (.inl 0), .inr (.inl 3)] (hp A B) (Ret (some (.inl 0)) (hp A B)) := fun A B => by
        have h := m_inI w 0 3 A B
        rwa [b2_0 (by simp only [Int64.reduceToInt]; exact hw)] at h
      repeat' (first
          | (refine R_br rfl rfl (fun h => absurd h (by first | decide | (with_reducible assumption))) (fun _ => ?_))
          | (refine R_br rfl rfl (fun _ => ?_) (fun h => absurd (by first | decide | (with_reducible assumption)) h))
          | (refine R_br rfl rfl (fun _ => ?_) (fun _ => ?_))
          | (refine R_ri rfl rfl ?_)
          | (refine R_rz rfl rfl (Or.inl rfl) ?_)
          | (refine R_rz rfl rfl (Or.inr rfl) ?_)
          | (refine R_rz rfl rfl (b2_01 _) ?_)
          | (refine R_rl rfl rfl ?_)
          | (refine R_rv rfl rfl ?_)
          | (refine R_csr rfl (m_isFieldMT a ha _ _) rfl rfl rfl (Nat.le_of_ble_eq_true rfl) rfl ?_)
          | (refine R_csr rfl (hin _ _) rfl rfl rfl (Nat.le_of_ble_eq_true rfl) rfl ?_)
          | (refine R_sw _ rfl rfl rfl ?_)
          | (refine R_go 9999 rfl rfl trivial ?_)
          | (refine R_go 9999 rfl rfl ?_ ?_))
      exact ⟨A, rfl, rfl, hR, Fm_rf⟩
  · rw [fieldS_no (by omega)]
    repeat' (first
        | (refine R_br rfl rfl (fun h => absurd h (by first | decide | (with_reducible assumption))) (fun _ => ?_))
        | (refine R_br rfl rfl (fun _ => ?_) (fun h => absurd (by first | decide | (with_reducible assumption)) h))
        | (refine R_br rfl rfl (fun _ => ?_) (fun _ => ?_))
        | (refine R_ri rfl rfl ?_)
        | (refine R_rz rfl rfl (Or.inl rfl) ?_)
        | (refine R_rz rfl rfl (Or.inr rfl) ?_)
        | (refine R_rz rfl rfl (b2_01 _) ?_)
        | (refine R_rl rfl rfl ?_)
        | (refine R_rv rfl rfl ?_)
        | (refine R_csr rfl (m_isFieldMN f hf _ _) rfl rfl rfl (Nat.le_of_ble_eq_true rfl) rfl ?_)
        | (refine R_sw _ rfl rfl rfl ?_)
        | (refine R_go 9999 rfl rfl trivial ?_)
        | (refine R_go 9999 rfl rfl ?_ ?_))
    exact ⟨A, rfl, rfl, hR, Fm_rf⟩
