theorem shS_1 {F : Nat → Nat} {f : Nat} : shS F (-1) f ↔ (F f ≠ 1 ∧ F f ≠ 2) := by
  unfold shS
  constructor
  · rintro (⟨-, h⟩ | ⟨h, -⟩)
    · exact h
    · exact absurd rfl h
  · intro h; exact Or.inl ⟨rfl, h⟩
theorem nI_n1 {f : Nat} (hf : f < 8) : ¬ nI f = -1 := fun e => by
  have h1 := ti f (by omega)
  rw [e] at h1
  have : (-1 : Int32).toInt = -1 := by decide
  omega
theorem shS_f {F : Nat → Nat} {f g : Nat} (hg : g < 8) (hf : f < 8) : shS F (nI g) f ↔ f ≠ g := by
  unfold shS
  constructor
  · rintro (⟨h, -⟩ | ⟨-, h⟩)
    · exact absurd h (nI_n1 hg)
    · intro e; exact h (by rw [e])
  · intro h; exact Or.inr ⟨nI_n1 hg, fun e => h (nI_ij (by omega) (by omega) e).symm⟩
def siP (A : FI) (F : FS) (mo : Int32) (k : Nat) : Prop := (∀ f, f < k → A 57 0 f = b2 (shS F.1 mo f)) ∧ ∀ f, f < k → A 56 0 (4 * f) = nI (F.2.1 f) ∧ A 56 0 (4 * f + 1) = nI (F.2.2.1 f) ∧ A 56 0 (4 * f + 2) = nI (F.2.1 f) ∧ A 56 0 (4 * f + 3) = nI (F.2.2.1 f)
theorem l_si {mo : Int32} {F : FS} {bx : Nat} (hmo : mo = -1 ∨ ∃ f, f < 8 ∧ mo = nI f) (hW : WFF F) {A0 : FI} {B : FJ} {Q : Option AV → AH → Prop} (kend : ∀ A, FmO 31 [56, 57] [] A0 A → siP A F mo 8 → Rn 4 mtX12_search 130 (seL mo bx (some (.inl (nI 8))) none) [] (hp A B) Q) : ∀ (m k : Nat) (A : FI), k + m = 8 → FmO 31 [56, 57] [] A0 A → RMF A F → siP A F mo k → Rn 4 mtX12_search 27 (seL mo bx (some (.inl (nI k))) none) [] (hp A B) Q := by
  intro m
  induction m with
  | zero =>
    intro k A hk hF hM hs
    have : k = 8 := by omega
    subst this
    refine R_go 9999 rfl rfl trivial ?_
    refine R_br rfl rfl (fun _ => ?_) (fun h => absurd (by decide) h)
    exact kend A hF hs
  | succ m ih =>
    intro k A hk hF hM hs
    have tk := ti k (by omega)
    have hk8 : k < 8 := by omega
    have ck : (nI k).toNatClampNeg = k := nI_clamp (by omega)
    have hvk : vp_in (nI k) 8 := vpN (n := 8) (by omega) rfl
    have i0 : (4 : Int32) * nI k = nI (4 * k) := pk_mul 4 k
    have i1 : nI (4 * k) + 1 = nI (4 * k + 1) := nI_1 _
    have i2 : nI (4 * k) + 2 = nI (4 * k + 2) := nI_add _ 2
    have i3 : nI (4 * k) + 3 = nI (4 * k + 3) := nI_add _ 3
    have c0 : (nI (4 * k)).toNatClampNeg = 4 * k := nI_clamp (by omega)
    have c1 : (nI (4 * k + 1)).toNatClampNeg = 4 * k + 1 := nI_clamp (by omega)
    have c2 : (nI (4 * k + 2)).toNatClampNeg = 4 * k + 2 := nI_clamp (by omega)
    have c3 : (nI (4 * k + 3)).toNatClampNeg = 4 * k + 3 := nI_clamp (by omega)
    have v0 : vp_in (nI (4 * k)) 3200 := vpN (n := 3200) (by omega) rfl
    have v1 : vp_in (nI (4 * k + 1)) 3200 := vpN (n := 3200) (by omega) rfl
    have v2 : vp_in (nI (4 * k + 2)) 3200 := vpN (n := 3200) (by omega) rfl
    have v3 : vp_in (nI (4 * k + 3)) 3200 := vpN (n := 3200) (by omega) rfl
    obtain ⟨-, e33, e34, -⟩ := hM k hk8
    have st : ∀ w : Int32, w = b2 (shS F.1 mo k) → Rn 4 mtX12_search 61 (seL mo bx (some (.inl (nI k))) none) [.inl w, .inl (nI k), .inr (.inr (some (57, 0)))] (hp A B) Q := fun w hw => by
      have hw01 : w = 0 ∨ w = 1 := by rw [hw]; exact b2_01 _
      refine R_go 27 rfl rfl ?_ ?_
      · rw [i0, i1, i2, i3]; exact ⟨v3, hvk, v2, hvk, v1, hvk, v0, hvk, hvk, hw01⟩
      rw [i0, i1, i2, i3, ck, c0, c1, c2, c3, nI_1]
      have q33 : ∀ g i s x (A : FI), g ≠ 33 → up3 A g i s x 33 = A 33 := fun g i s x A h => up3_g (fun e => h e.symm)
      have q34 : ∀ g i s x (A : FI), g ≠ 34 → up3 A g i s x 34 = A 34 := fun g i s x A h => up3_g (fun e => h e.symm)
      simp only [q33 57 _ _ _ _ (by decide), q33 56 _ _ _ _ (by decide), q34 57 _ _ _ _ (by decide), q34 56 _ _ _ _ (by decide), e33, e34]
      refine ih (k + 1) _ (by omega) (FmO_tr hF (by first | exact FmO_rf | (repeat' (first | exact FmO_rf | (with_reducible assumption) | (refine FmO_up ?_ (by decide)) | (refine FmO_ug ?_ (by decide) (by decide)))))) (RMF_fr (gs := [56, 57]) (ss := []) hM (by first | exact FmO_rf | (repeat' (first | exact FmO_rf | (with_reducible assumption) | (refine FmO_up ?_ (by decide)) | (refine FmO_ug ?_ (by decide) (by decide))))) (by decide)) ⟨fun f hf => ?_, fun f hf => ?_⟩
      · rw [up3_g (by decide), up3_g (by decide), up3_g (by decide), up3_g (by decide)]
        by_cases g : f = k
        · subst g; rw [up3_self]; exact hw
        · rw [up3_s g]; exact hs.1 f (by omega)
      · by_cases g : f = k
        · subst g
          refine ⟨?_, ?_, ?_, up3_self⟩
          · rw [up3_s (by omega), up3_s (by omega), up3_s (by omega)]; exact up3_self
          · rw [up3_s (by omega), up3_s (by omega)]; exact up3_self
          · rw [up3_s (by omega)]; exact up3_self
        · have := hs.2 f (by omega)
          rw [up3_s (by omega), up3_s (by omega), up3_s (by omega), up3_s (by omega), up3_s (by omega), up3_s (by omega), up3_s (by omega), up3_s (by omega), up3_s (by omega), up3_s (by omega), up3_s (by omega), up3_s (by omega), up3_s (by omega), up3_s (by omega), up3_s (by omega), up3_s (by omega), up3_g (show 56 ≠ 57 by decide)]
          exact this
    refine R_go 9999 rfl rfl trivial ?_
    refine R_br rfl rfl (fun h => absurd h (by (simp only [i_eq, i_lt, i_le, Int32.reduceToInt, true_and, and_true, false_and, and_false, or_false, false_or, or_true, true_or, ne_eq] at *; first | done | omega))) (fun _ => ?_)
    refine R_go 9999 rfl rfl trivial ?_
    rcases hmo with rfl | ⟨g, hg, rfl⟩
    · refine R_br rfl rfl (fun _ => ?_) (fun h => absurd rfl h)
      refine R_go 9999 rfl rfl trivial ?_
      refine R_cvr rfl (m_countsM hM hW k hk8) rfl rfl rfl rfl rfl (Nat.le_of_ble_eq_true rfl) rfl ?_
      refine R_go 61 rfl rfl trivial ?_
      exact st _ (b2_c shS_1.symm)
    · refine R_br rfl rfl (fun h => absurd h (nI_n1 hg)) (fun _ => ?_)
      refine R_go 9999 rfl rfl trivial ?_
      by_cases e : k = g
      · refine R_br rfl rfl (fun _ => ?_) (fun h => absurd (by rw [e]) h)
        refine R_go 61 rfl rfl trivial ?_
        exact st 0 (b2_0 (fun z => (shS_f hg hk8).mp z e)).symm
      · refine R_br rfl rfl (fun h => absurd (nI_ij (by omega) (by omega) h) e) (fun _ => ?_)
        refine R_go 61 rfl rfl trivial ?_
        exact st 1 (b2_1 ((shS_f hg hk8).mpr e)).symm
def SKn (A0 : FI) (B0 : FJ) (z : Int32 × Tl × Option Bo) : Option AV → AH → Prop := fun r h' => ∃ A' B', r = some (.inl z.1) ∧ h' = hp A' B' ∧ FmO 31 [51, 53, 54, 55, 56, 57] [41, 46, 47, 48, 49] A0 A' ∧ FmJ [31, 58, 59] B0 B' ∧ RKm A' B' z.2.1 (z.2.2.map prB)
theorem m_search {mo : Int32} {F : FS} {LS : List (List Tk)} {P : List (List Tk × Nat)} {bx : Nat} (hbx : bx ≤ 2000) (hmo : mo = -1 ∨ ∃ f, f < 8 ∧ mo = nI f) (hW : WFF F) (hL : okL LS) (hP : okP P) {A : FI} {B : FJ} (hM : RMF A F) (hR : RML A LS) (hG : RMG A P) : MV 4 2 mtX12_search [.inr (.inr (some (31, 0))), .inl mo, .inl (nI bx)] (hp A B) (SKn A B (skS (shS F.1 mo) (fun b => dnS b LS P mo) bx [stB F.2.1 F.2.2.1] (0, 0, 0))) := by
  refine MV_of caX12_search (L := seL mo bx none none) rfl rfl ?_
  refine R_go 27 rfl rfl (Or.inl rfl) ?_
  generalize hA1 : up3 (up3 (up3 (up3 (up3 A 31 0 46 0) 31 0 47 0) 31 0 48 0) 31 0 49 0) 31 0 41 1 = A1
  have hF1 : FmO 31 [] [41, 46, 47, 48, 49] A A1 := by rw [← hA1]; exact (by first | exact FmO_rf | (repeat' (first | exact FmO_rf | (with_reducible assumption) | (refine FmO_up ?_ (by decide)) | (refine FmO_ug ?_ (by decide) (by decide)))))
  have e41 : A1 31 0 41 = nI 1 := by rw [← hA1]; exact up3_self
  have e49 : A1 31 0 49 = 0 := by rw [← hA1, up3_s (by decide)]; exact up3_self
  have e48 : A1 31 0 48 = 0 := by rw [← hA1, up3_s (by decide), up3_s (by decide)]; exact up3_self
  have e47 : A1 31 0 47 = 0 := by rw [← hA1, up3_s (by decide), up3_s (by decide), up3_s (by decide)]; exact up3_self
  have e46 : A1 31 0 46 = 0 := by rw [← hA1, up3_s (by decide), up3_s (by decide), up3_s (by decide), up3_s (by decide)]; exact up3_self
  clear hA1
  refine l_si (A0 := A1) hmo hW (fun A2 hF2 hs => ?_) 8 0 A1 rfl FmO_rf (RMF_fr hM hF1 (by decide)) ⟨fun f hf => by omega, fun f hf => by omega⟩
  have hF02 : FmO 31 [51, 53, 54, 55, 56, 57] [41, 46, 47, 48, 49] A A2 := FmO_tr (FmO_w hF1 (by decide) (by decide)) (FmO_w hF2 (by decide) (by decide))
  have hbx0 : bxM A2 0 (stB F.2.1 F.2.2.1) := fun s hs' f hf => by
    obtain ⟨a1, a2, a3, a4⟩ := hs.2 f hf
    have hw := hW.1 f hf
    have t1 := ti (F.2.1 f) (by omega)
    have t2 := ti (F.2.2.1 f) (by omega)
    rcases (show s = 0 ∨ s = 1 by omega) with rfl | rfl
    · rw [show 32 * 0 + 4 * f + 2 * 0 = 4 * f by omega, a1, a2]; exact ⟨t1, t2⟩
    · rw [show 32 * 0 + 4 * f + 2 * 1 = 4 * f + 2 by omega, a3, a4]; exact ⟨t1, t2⟩
  refine R_mono (fun r h' z => ?_) (l_search (A0 := A2) (B0 := B) (sh := shS F.1 mo) hbx hmo hL hP bx [stB F.2.1 F.2.2.1] (0, 0, 0) A2 B (by dsimp only; omega) (st_ok (fun f hf => ⟨(hW.1 f hf).2.1, (hW.1 f hf).2.2.1⟩)) ⟨hbx0, trivial⟩ (by rw [hF2.2 41 (by decide)]; exact e41) (by rw [hF2.2 46 (by decide)]; exact e46) (by rw [hF2.2 47 (by decide)]; exact e47) (by rw [hF2.2 48 (by decide)]; exact e48) (by rw [hF2.2 49 (by decide)]; exact e49) (RML_fr hR hF02 (by decide) (by decide)) (RMG_fr hG hF02 (by decide) (by decide)) hs.1 FmO_rf FmJ_rf _ _)
  obtain ⟨A', B', q1, q2, q3, q4, q5⟩ := z
  exact ⟨A', B', q1, q2, FmO_tr hF02 (FmO_w q3 (by decide) (by decide)), q4, q5⟩
