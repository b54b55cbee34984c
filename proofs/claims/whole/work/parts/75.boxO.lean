theorem SBm_fr {sd : Nat} {A A' : FI} {bx : Nat → Int × Int} {gs ss : List Nat} (h : SBm sd A bx) (hF : FmO 31 gs ss A A') (hg : 55 ∉ gs) : SBm sd A' bx := fun f hf => by rw [hF.1 55 (by decide) hg]; exact h f hf
theorem lp_onBox {gr go fr to sd : Nat} (hg : (gr = 42 ∧ go = 43) ∨ (gr = 53 ∧ go = 54)) (hsd : sd ≤ 1) {bx : Nat → Int × Int} (h99 : b99 bx) {Q : Option AV → AH → Prop} (hto : to ≤ 80) : ∀ (l : List Tk) (i : Nat) (z : Bx) (y y' : Nat × List Nat) (A : FI) (B : FJ), i + l.length = to → (∀ k, k < l.length → A gr 0 (i + k) = nI (l.getD k (0, 0)).1 ∧ A go 0 (i + k) = nI (l.getD k (0, 0)).2) → SBm sd A bx → wfs y l = some y' → bty z y → RXM A B z → z.1.length + z.2.length + l.length ≤ 80 → (∀ A' B' o9 o10, RXM A' B' (bsl bx z l) → bty (bsl bx z l) y' → FmBx A A' → FmJ [58, 59] B B' → Rn 1 mtX12_onBox 9 (obL gr go fr to sd (bsl bx z l) to o9 o10) [] (hp A' B') Q) → ∀ o9 o10, Rn 1 mtX12_onBox 9 (obL gr go fr to sd z i o9 o10) [] (hp A B) Q := by
  intro l
  induction l with
  | nil =>
    intro i z y y' A B hi hc hq hw hz hR hl kk o9 o10
    cases hw
    have : i = to := by simpa using hi
    subst this
    exact kk A B o9 o10 hR hz FmO_rf FmJ_rf
  | cons t l ih =>
    intro i z y y' A B hi hc hq hw hz hR hl kk o9 o10
    simp only [List.length_cons] at hl hi
    unfold wfs at hw
    cases hw1 : wst y t with
    | none => rw [hw1] at hw; cases hw
    | some y1 =>
      rw [hw1] at hw
      dsimp only at hw
      have h0 := hc 0 (by simp)
      refine st_onBox hg hsd t i z y y1 hto (by omega) (by simpa using h0.1) (by simpa using h0.2) hq hw1 hz hR (by omega) (fun A' B' p8 p9 hR' hF hJ => ?_) o9 o10
      have hlen := bst_len (bx := bx) z t
      have hgr : A' gr = A gr := by rcases hg with ⟨rfl, rfl⟩ | ⟨rfl, rfl⟩ <;> exact hF.1 _ (by decide) (by decide)
      have hgo : A' go = A go := by rcases hg with ⟨rfl, rfl⟩ | ⟨rfl, rfl⟩ <;> exact hF.1 _ (by decide) (by decide)
      refine ih (i + 1) (bst bx z t) y1 y' A' B' (by omega) (fun k hk => ?_) (SBm_fr hq hF (by decide)) hw (bst_ty h99 hz hw1) hR' (by omega) (fun A2 B2 p1 p2 a b c d => kk A2 B2 p1 p2 a b (FmO_tr hF c) (FmJ_tr hJ d)) p8 p9
      have := hc (k + 1) (by simpa using hk)
      rw [hgr, hgo, show i + 1 + k = i + (k + 1) by omega]
      simpa [List.getD_eq_getElem?_getD] using this
def OBo (A : FI) (B : FJ) (v : Nat) : Option AV → AH → Prop := fun r h' => ∃ A' B', h' = hp A' B' ∧ r = some (.inl (nI v)) ∧ FmBx A A' ∧ FmJ [58, 59] B B'
theorem trB_le {bx : Nat → Int × Int} {z : Bx} {y y' : Nat × List Nat} (h99 : b99 bx) : ∀ (l : List Tk), bty z y → wfs y l = some y' → bty (bsl bx z l) y' := by
  intro l
  induction l generalizing z y with
  | nil => intro hz hw; cases hw; exact hz
  | cons t l ih =>
    intro hz hw
    unfold wfs at hw
    cases hw1 : wst y t with
    | none => rw [hw1] at hw; cases hw
    | some y1 =>
      rw [hw1] at hw
      exact ih (bst_ty h99 hz hw1) hw
theorem trB_2 {bx : Nat → Int × Int} {l : List Tk} (h99 : b99 bx) (hw : wfs (0, []) l = some (1, [])) : trB bx l ≤ 2 := by
  obtain ⟨v, hv, hv2⟩ := bty_1 (trB_le (z := ([], [])) (y := (0, [])) h99 l ⟨trivial, rfl, fun v hv => by simp at hv⟩ hw)
  unfold trB
  rw [hv]
  exact hv2
theorem m_onBox {gr go fr to sd : Nat} (hg : (gr = 42 ∧ go = 43) ∨ (gr = 53 ∧ go = 54)) (hsd : sd ≤ 1) {A : FI} {B : FJ} {bx : Nat → Int × Int} (h99 : b99 bx) (l : List Tk) (hto : to ≤ 80) (hl : fr + l.length = to) (hc : ∀ k, k < l.length → A gr 0 (fr + k) = nI (l.getD k (0, 0)).1 ∧ A go 0 (fr + k) = nI (l.getD k (0, 0)).2) (hq : SBm sd A bx) (hw : wfs (0, []) l = some (1, [])) : MV 1 5 mtX12_onBox [.inr (.inr (some (31, 0))), .inr (.inr (some (gr, 0))), .inr (.inr (some (go, 0))), .inl (nI fr), .inl (nI to), .inl (nI sd)] (hp A B) (OBo A B (trB bx l)) := by
  refine MV_of caX12_onBox (L := [some (.inr (.inr (some (31, 0)))), some (.inr (.inr (some (gr, 0)))), some (.inr (.inr (some (go, 0)))), some (.inl (nI fr)), some (.inl (nI to)), some (.inl (nI sd)), none, none, none, none, none, none]) rfl rfl ?_
  refine R_go 9 rfl rfl trivial ?_
  refine lp_onBox hg hsd h99 hto l fr ([], []) (0, []) (1, []) A B hl hc hq hw ⟨trivial, rfl, fun v hv => by simp at hv⟩ ⟨jl_nil, jl_nil, al_nil⟩ (by simp; omega) (fun A1 B1 o9 o10 hR1 ht hF hJ => ?_) none none
  obtain ⟨v, hv, hv2⟩ := bty_1 ht
  have hhv : trB bx l = v := by unfold trB; rw [hv]; rfl
  rw [hv] at hR1 ⊢
  have e1 : A1 51 0 (0 : Int32).toNatClampNeg = nI v := (RXM_t1 hR1).1
  have n1 : nI to ≤ nI to := Int32.le_refl _
  repeat' (first
      | (refine R_br rfl rfl (fun hbr => absurd hbr (by first | decide | (with_reducible assumption))) (fun _ => ?_))
      | (refine R_br rfl rfl (fun _ => ?_) (fun hbr => absurd (by first | decide | (with_reducible assumption)) hbr))
      | (refine R_br rfl rfl (fun _ => ?_) (fun _ => ?_))
      | (refine R_ri rfl rfl ?_)
      | (refine R_rz rfl rfl (Or.inl rfl) ?_)
      | (refine R_rz rfl rfl (Or.inr rfl) ?_)
      | (refine R_rz rfl rfl (b2_01 _) ?_)
      | (refine R_rl rfl rfl ?_)
      | (refine R_rv rfl rfl ?_)
      | (refine R_sw _ rfl rfl rfl ?_)
      | (refine R_go 9999 rfl rfl trivial ?_)
      | (refine R_go 9999 rfl rfl (by first | (show _ ∨ _; decide) | (show (_ ∨ _) ∧ (_ ∨ _); decide) | (show (_ ∨ _) ∧ (_ ∨ _) ∧ (_ ∨ _); decide)) ?_)
      | (refine R_go 9999 rfl rfl ?_ ?_))
  · exact vpN (a := 0) (n := 81) (by decide) rfl
  · rw [e1, hhv]
    exact ⟨A1, B1, rfl, rfl, hF, hJ⟩
