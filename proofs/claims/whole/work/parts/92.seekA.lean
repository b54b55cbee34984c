/-- SEEKs told, what the last one counted, its pair -/
abbrev SQ : Type := Nat × Tl × Option (Nat × Nat)
noncomputable def skR (F : FS) (LS : List (List Tk)) (P : List (List Tk × Nat)) (f bx : Int32) : Int32 × Tl × Option Bo := skS (shS F.1 f) (fun b => dnS b LS P f) bx.toNatClampNeg [stB F.2.1 F.2.2.1] (0, 0, 0)
noncomputable def seA (F : FS) (LS : List (List Tk)) (P : List (List Tk × Nat)) (q : SQ) (f bx : Int32) : Int32 × SQ :=
  if f ≠ -1 ∧ ¬ (0 ≤ f.toInt ∧ f.toInt < 8) then (-101, q)
  else if ¬ (1 ≤ bx.toInt ∧ bx.toInt ≤ 2000) then (-102, q)
  else if P = [] ∨ 40 ≤ q.1 then (-103, q)
  else ((skR F LS P f bx).1, q.1 + 1, (skR F LS P f bx).2.1, (skR F LS P f bx).2.2.map prB)
def RKC (A : FI) (B : FJ) (q : SQ) : Prop := A 0 0 13 = nI q.1 ∧ RKc A B q.2.1 q.2.2
def RKw (A : FI) (B : FJ) (q : SQ) : Prop := A 31 0 45 = nI q.1 ∧ RKm A B q.2.1 q.2.2
theorem FmO_x {g0 g1 : Nat} {gs1 gs ss ts : List Nat} {A A' : FI} (h : FmO g1 gs1 ss A A') (h1 : g0 ≠ g1) (h2 : g1 ∈ gs) (h3 : ∀ x ∈ gs1, x ∈ gs) (h4 : g0 ∉ gs1) : FmO g0 gs ts A A' := ⟨fun g _ hg => h.1 g (fun e => hg (e ▸ h2)) (fun z => hg (h3 g z)), fun s _ => by rw [h.1 g0 h1 h4]⟩
abbrev SeC (A : FI) (B : FJ) (z : Int32 × SQ) : Option AV → AH → Prop := fun r h' => ∃ A' B', h' = hp A' B' ∧ r = some (.inl z.1) ∧ FmO 0 [12, 15, 16, 17] [13] A A' ∧ FmJ [13, 14, 15] B B' ∧ RKC A' B' z.2
abbrev SeM (A : FI) (B : FJ) (z : Int32 × SQ) : Option AV → AH → Prop := fun r h' => ∃ A' B', h' = hp A' B' ∧ r = some (.inl z.1) ∧ FmO 31 [51, 53, 54, 55, 56, 57] [41, 45, 46, 47, 48, 49] A A' ∧ FmJ [31, 58, 59] B B' ∧ RKw A' B' z.2
theorem fm_cs {f : Int32} (h : ¬ (f ≠ -1 ∧ ¬ (0 ≤ f.toInt ∧ f.toInt < 8))) : f = -1 ∨ ∃ g, g < 8 ∧ f = nI g := by
  by_cases e : f = -1
  · exact Or.inl e
  · have h2 : 0 ≤ f.toInt ∧ f.toInt < 8 := Classical.byContradiction (fun z => h ⟨e, z⟩)
    refine Or.inr ⟨f.toNatClampNeg, ?_, nI_cl f h2.1⟩
    have := nI_cl f h2.1
    have t : (f.toNatClampNeg : Int) = f.toInt := by
      have h3 : f.toNatClampNeg = f.toInt.toNat := rfl
      omega
    omega
theorem bx_cs {x : Int32} (h : 1 ≤ x.toInt ∧ x.toInt ≤ 2000) : x = nI x.toNatClampNeg ∧ x.toNatClampNeg ≤ 2000 := by
  refine ⟨nI_cl x (by omega), ?_⟩
  have h3 : x.toNatClampNeg = x.toInt.toNat := rfl
  omega
theorem i_n1 {f : Int32} (h : 0 ≤ f.toInt) : f ≠ -1 := fun e => by
  rw [e] at h
  have : (-1 : Int32).toInt = -1 := by decide
  omega
theorem m_seekC {F : FS} {P : List (List Tk × Nat)} {LS : List (List Tk)} {q : SQ} {A : FI} {B : FJ} (f bx : Int32) (hP : okG P) (hL : okL LS) (hW : WFF F) (hR : RCF A F) (hRL : RCL A LS) (hS : RS 6 A P []) (hK : RKC A B q) (hq : q.1 ≤ 40) : MV 6 2 mtX11_seek [.inr (.inr (some (0, 0))), .inl f, .inl bx] (hp A B) (SeC A B (seA F LS P q f bx)) := by
  have tq := ti q.1 (by omega)
  have h13 := hK.1
  refine MV_of caX11_seek (L := [some (.inr (.inr (some (0, 0)))), some (.inl f), some (.inl bx)]) rfl rfl ?_
  unfold seA
  have k15 : ¬ (f ≠ -1 ∧ ¬ (0 ≤ f.toInt ∧ f.toInt < 8)) → Rn 6 mtX11_seek 15 [some (.inr (.inr (some (0, 0)))), some (.inl f), some (.inl bx)] [] (hp A B) (SeC A B (if ¬ (1 ≤ bx.toInt ∧ bx.toInt ≤ 2000) then (-102, q) else if P = [] ∨ 40 ≤ q.1 then (-103, q) else ((skR F LS P f bx).1, q.1 + 1, (skR F LS P f bx).2.1, (skR F LS P f bx).2.2.map prB))) := fun hf => by
    by_cases hb : 1 ≤ bx.toInt ∧ bx.toInt ≤ 2000
    · rw [if_neg (fun z => z hb)]
      obtain ⟨eb, hb2⟩ := bx_cs hb
      refine R_go 9999 rfl rfl trivial ?_
      refine R_br rfl rfl (fun h => absurd h (by (simp only [i_eq, i_lt, i_le, Int32.reduceToInt, true_and, and_true, false_and, and_false, or_false, false_or, or_true, true_or, ne_eq] at *; first | done | omega))) (fun _ => ?_)
      refine R_go 9999 rfl rfl trivial ?_
      refine R_br rfl rfl (fun _ => ?_) (fun h => absurd (by (simp only [i_eq, i_lt, i_le, Int32.reduceToInt, true_and, and_true, false_and, and_false, or_false, false_or, or_true, true_or, ne_eq] at *; first | done | omega)) h)
      refine R_go 9999 rfl rfl trivial ?_
      refine R_cvr rfl (m_hasProgram (B := B) hS (okG_len hP)) rfl rfl rfl rfl rfl (Nat.le_of_ble_eq_true rfl) rfl ?_
      by_cases hPe : P = []
      · rw [isE.2 hPe, if_pos (Or.inl hPe)]
        refine R_br rfl rfl (fun _ => ?_) (fun h => absurd rfl h)
        refine R_go 9999 rfl rfl trivial ?_
        refine R_ri rfl rfl ?_
        exact ⟨A, B, rfl, rfl, FmO_rf, FmJ_rf, hK⟩
      · rw [isE.1 hPe]
        refine R_br rfl rfl (fun h => absurd h (by decide)) (fun _ => ?_)
        refine R_go 9999 rfl rfl trivial ?_
        try dsimp only [fgt, fpt]
        rw [h13]
        by_cases h40 : 40 ≤ q.1
        · rw [if_pos (Or.inr h40)]
          refine R_br rfl rfl (fun h => absurd h (by (simp only [i_eq, i_lt, i_le, Int32.reduceToInt, true_and, and_true, false_and, and_false, or_false, false_or, or_true, true_or, ne_eq] at *; first | done | omega))) (fun _ => ?_)
          refine R_go 9999 rfl rfl trivial ?_
          refine R_ri rfl rfl ?_
          exact ⟨A, B, rfl, rfl, FmO_rf, FmJ_rf, hK⟩
        · rw [if_neg (fun z => z.elim hPe h40)]
          refine R_br rfl rfl (fun _ => ?_) (fun h => absurd (by (simp only [i_eq, i_lt, i_le, Int32.reduceToInt, true_and, and_true, false_and, and_false, or_false, false_or, or_true, true_or, ne_eq] at *; first | done | omega)) h)
          refine R_go 9999 rfl rfl trivial ?_
          try dsimp only [fgt, fpt]
          rw [h13, nI_1]
          generalize hA1 : up3 A 0 0 13 (nI (q.1 + 1)) = A1
          have hF1 : FmO 0 [] [13] A A1 := by rw [← hA1]; exact (by first | exact FmO_rf | (repeat' (first | exact FmO_rf | (with_reducible assumption) | (refine FmO_up ?_ (by decide)) | (refine FmO_ug ?_ (by decide) (by decide)))))
          have e13 : A1 0 0 13 = nI (q.1 + 1) := by rw [← hA1]; exact up3_self
          clear hA1
          have hov := m_over (mo := f) (bx := bx.toNatClampNeg) (B := B) hb2 (fm_cs hf) hW hL (okG_ne hP hPe) (A := A1) (F := F) (LS := LS) (P := P) (fun f hf => by rw [hF1.1 2 (by decide) (by simp)]; exact hR f hf) ⟨by rw [hF1.1 1 (by decide) (by simp)]; exact hRL.1, fun j hj => RS_fr (hRL.2 j hj) (by rw [hF1.1 4 (by decide) (by simp)]) (by rw [hF1.1 5 (by decide) (by simp)]) (by rw [hF1.1 6 (by decide) (by simp)])⟩ (RS_fr hS (by rw [hF1.1 4 (by decide) (by simp)]) (by rw [hF1.1 5 (by decide) (by simp)]) (by rw [hF1.1 6 (by decide) (by simp)]))
          rw [← eb] at hov
          refine R_cv rfl hov rfl rfl rfl rfl rfl (Nat.le_of_ble_eq_true rfl) rfl ?_
          rintro r h' ⟨A2, B2, rfl, rfl, hF2, hJ2, hK2⟩
          refine R_ri rfl rfl ?_
          have hF02 : FmO 0 [12, 15, 16, 17] [13] A A2 := FmO_tr (FmO_w hF1 (by decide) (by decide)) (FmO_x hF2 (by decide) (by decide) (by decide) (by decide))
          exact ⟨A2, B2, rfl, rfl, hF02, hJ2, by rw [hF2.1 0 (by decide) (by decide)]; exact e13, hK2⟩
    · rw [if_pos hb]
      refine R_go 9999 rfl rfl trivial ?_
      by_cases hb1 : bx.toInt < 1
      · refine R_br rfl rfl (fun _ => ?_) (fun h => absurd (by (simp only [i_eq, i_lt, i_le, Int32.reduceToInt, true_and, and_true, false_and, and_false, or_false, false_or, or_true, true_or, ne_eq] at *; first | done | omega)) h)
        refine R_go 9999 rfl rfl trivial ?_
        refine R_ri rfl rfl ?_
        exact ⟨A, B, rfl, rfl, FmO_rf, FmJ_rf, hK⟩
      · refine R_br rfl rfl (fun h => absurd h (by (simp only [i_eq, i_lt, i_le, Int32.reduceToInt, true_and, and_true, false_and, and_false, or_false, false_or, or_true, true_or, ne_eq] at *; first | done | omega))) (fun _ => ?_)
        refine R_go 9999 rfl rfl trivial ?_
        refine R_br rfl rfl (fun h => absurd h (by (simp only [i_eq, i_lt, i_le, Int32.reduceToInt, true_and, and_true, false_and, and_false, or_false, false_or, or_true, true_or, ne_eq] at *; first | done | omega))) (fun _ => ?_)
        refine R_go 9999 rfl rfl trivial ?_
        refine R_ri rfl rfl ?_
        exact ⟨A, B, rfl, rfl, FmO_rf, FmJ_rf, hK⟩
  refine R_go 9999 rfl rfl trivial ?_
  by_cases hm : f = -1
  · have hn : ¬ (f ≠ -1 ∧ ¬ (0 ≤ f.toInt ∧ f.toInt < 8)) := fun z => z.1 hm
    rw [if_neg hn]
    refine R_br rfl rfl (fun _ => k15 hn) (fun h => absurd hm h)
  · refine R_br rfl rfl (fun h => absurd h hm) (fun _ => ?_)
    refine R_go 9999 rfl rfl trivial ?_
    by_cases hf : 0 ≤ f.toInt ∧ f.toInt < 8
    · have hn : ¬ (f ≠ -1 ∧ ¬ (0 ≤ f.toInt ∧ f.toInt < 8)) := fun z => z.2 hf
      rw [if_neg hn]
      obtain ⟨g, hg, rfl⟩ := (fm_cs hn).resolve_left hm
      refine R_csr rfl (m_isFieldT g hg _ _) rfl rfl rfl (Nat.le_of_ble_eq_true rfl) rfl ?_
      exact R_br rfl rfl (fun h => absurd h (by decide)) (fun _ => k15 hn)
    · rw [if_pos ⟨hm, hf⟩]
      refine R_csr rfl (m_isFieldN f hf _ _) rfl rfl rfl (Nat.le_of_ble_eq_true rfl) rfl ?_
      refine R_br rfl rfl (fun _ => ?_) (fun h => absurd rfl h)
      refine R_go 9999 rfl rfl trivial ?_
      refine R_ri rfl rfl ?_
      exact ⟨A, B, rfl, rfl, FmO_rf, FmJ_rf, hK⟩
theorem m_seekM {F : FS} {P : List (List Tk × Nat)} {LS : List (List Tk)} {q : SQ} {A : FI} {B : FJ} (f bx : Int32) (hP : okG P) (hL : okL LS) (hW : WFF F) (hR : RMF A F) (hRL : RML A LS) (hG : RMG A P) (hK : RKw A B q) (hq : q.1 ≤ 40) : MV 5 2 mtX12_seek [.inr (.inr (some (31, 0))), .inl f, .inl bx] (hp A B) (SeM A B (seA F LS P q f bx)) := by
  have tq := ti q.1 (by omega)
  have h45 := hK.1
  have l1 : (1 : Int64).toInt = 1 := by decide
  have l2 : (2000 : Int64).toInt = 2000 := by decide
  refine MV_of caX12_seek (L := [some (.inr (.inr (some (31, 0)))), some (.inl f), some (.inl bx)]) rfl rfl ?_
  unfold seA
  have k15 : ¬ (f ≠ -1 ∧ ¬ (0 ≤ f.toInt ∧ f.toInt < 8)) → Rn 5 mtX12_seek 15 [some (.inr (.inr (some (31, 0)))), some (.inl f), some (.inl bx)] [] (hp A B) (SeM A B (if ¬ (1 ≤ bx.toInt ∧ bx.toInt ≤ 2000) then (-102, q) else if P = [] ∨ 40 ≤ q.1 then (-103, q) else ((skR F LS P f bx).1, q.1 + 1, (skR F LS P f bx).2.1, (skR F LS P f bx).2.2.map prB))) := fun hf => by
    refine R_go 9999 rfl rfl trivial ?_
    by_cases hb : 1 ≤ bx.toInt ∧ bx.toInt ≤ 2000
    · rw [if_neg (fun z => z hb)]
      obtain ⟨eb, hb2⟩ := bx_cs hb
      refine R_csr rfl (m_inT bx 1 2000 (by rw [l1, l2]; exact hb) A B) rfl rfl rfl (Nat.le_of_ble_eq_true rfl) rfl ?_
      refine R_br rfl rfl (fun h => absurd h (by decide)) (fun _ => ?_)
      refine R_go 9999 rfl rfl trivial ?_
      try dsimp only [fgt, fpt]
      rw [hG.1]
      by_cases hPe : P = []
      · rw [isE.2 hPe, if_pos (Or.inl hPe)]
        refine R_br rfl rfl (fun _ => ?_) (fun h => absurd rfl h)
        refine R_go 9999 rfl rfl trivial ?_
        refine R_ri rfl rfl ?_
        exact ⟨A, B, rfl, rfl, FmO_rf, FmJ_rf, hK⟩
      · rw [isE.1 hPe]
        refine R_br rfl rfl (fun h => absurd h (by decide)) (fun _ => ?_)
        refine R_go 9999 rfl rfl trivial ?_
        try dsimp only [fgt, fpt]
        rw [h45]
        by_cases h40 : 40 ≤ q.1
        · rw [if_pos (Or.inr h40)]
          refine R_br rfl rfl (fun _ => ?_) (fun h => absurd (by rw [show q.1 = 40 by omega]; rfl) h)
          refine R_go 9999 rfl rfl trivial ?_
          refine R_ri rfl rfl ?_
          exact ⟨A, B, rfl, rfl, FmO_rf, FmJ_rf, hK⟩
        · rw [if_neg (fun z => z.elim hPe h40)]
          have n40 : ¬ nI q.1 = 40 := fun e => by have := nI_ij (a := q.1) (b := 40) (by omega) (by omega) e; omega
          refine R_br rfl rfl (fun h => absurd h n40) (fun _ => ?_)
          refine R_go 9999 rfl rfl trivial ?_
          try dsimp only [fgt, fpt]
          rw [h45, nI_1]
          generalize hA1 : up3 A 31 0 45 (nI (q.1 + 1)) = A1
          have hF1 : FmO 31 [] [45] A A1 := by rw [← hA1]; exact (by first | exact FmO_rf | (repeat' (first | exact FmO_rf | (with_reducible assumption) | (refine FmO_up ?_ (by decide)) | (refine FmO_ug ?_ (by decide) (by decide)))))
          have e45 : A1 31 0 45 = nI (q.1 + 1) := by rw [← hA1]; exact up3_self
          clear hA1
          have hov := m_search (mo := f) (bx := bx.toNatClampNeg) (B := B) hb2 (fm_cs hf) hW hL (okG_ne hP hPe) (RMF_fr hR hF1 (by decide)) (RML_fr hRL hF1 (by decide) (by decide)) (RMG_fr hG hF1 (by decide) (by decide))
          rw [← eb] at hov
          refine R_cv rfl hov rfl rfl rfl rfl rfl (Nat.le_of_ble_eq_true rfl) rfl ?_
          rintro r h' ⟨A2, B2, rfl, rfl, hF2, hJ2, hK2⟩
          refine R_ri rfl rfl ?_
          exact ⟨A2, B2, rfl, rfl, FmO_tr (FmO_w hF1 (by decide) (by decide)) (FmO_w hF2 (by decide) (by decide)), hJ2, by rw [hF2.2 45 (by decide)]; exact e45, hK2⟩
    · rw [if_pos hb]
      refine R_csr rfl (m_inF bx 1 2000 (by rw [l1, l2]; exact hb) A B) rfl rfl rfl (Nat.le_of_ble_eq_true rfl) rfl ?_
      refine R_br rfl rfl (fun _ => ?_) (fun h => absurd rfl h)
      refine R_go 9999 rfl rfl trivial ?_
      refine R_ri rfl rfl ?_
      exact ⟨A, B, rfl, rfl, FmO_rf, FmJ_rf, hK⟩
  refine R_go 9999 rfl rfl trivial ?_
  by_cases hm : f = -1
  · have hn : ¬ (f ≠ -1 ∧ ¬ (0 ≤ f.toInt ∧ f.toInt < 8)) := fun z => z.1 hm
    rw [if_neg hn]
    refine R_br rfl rfl (fun _ => k15 hn) (fun h => absurd hm h)
  · refine R_br rfl rfl (fun h => absurd h hm) (fun _ => ?_)
    refine R_go 9999 rfl rfl trivial ?_
    by_cases hf : 0 ≤ f.toInt ∧ f.toInt < 8
    · have hn : ¬ (f ≠ -1 ∧ ¬ (0 ≤ f.toInt ∧ f.toInt < 8)) := fun z => z.2 hf
      rw [if_neg hn]
      obtain ⟨g, hg, rfl⟩ := (fm_cs hn).resolve_left hm
      refine R_csr rfl (m_isFieldMT g hg _ _) rfl rfl rfl (Nat.le_of_ble_eq_true rfl) rfl ?_
      exact R_br rfl rfl (fun h => absurd h (by decide)) (fun _ => k15 hn)
    · rw [if_pos ⟨hm, hf⟩]
      refine R_csr rfl (m_isFieldMN f hf _ _) rfl rfl rfl (Nat.le_of_ble_eq_true rfl) rfl ?_
      refine R_br rfl rfl (fun _ => ?_) (fun h => absurd rfl h)
      refine R_go 9999 rfl rfl trivial ?_
      refine R_ri rfl rfl ?_
      exact ⟨A, B, rfl, rfl, FmO_rf, FmJ_rf, hK⟩
def soA (q : SQ) (w : Int32) : Int32 := if ¬ (0 ≤ w.toInt ∧ w.toInt ≤ 2) then -102 else if q.1 = 0 then -103 else if w = 0 then nI q.2.1.1 else if w = 1 then nI q.2.1.2.1 else nI q.2.1.2.2
def paA (q : SQ) (w : Int32) : Int64 := if ¬ (0 ≤ w.toInt ∧ w.toInt ≤ 1) then -2 else match q.2.2 with
  | none => -1
  | some p => if w = 0 then lN p.1 else lN p.2
theorem m_tallied {A : FI} {B : FJ} {c : Tl} {pr : Option (Nat × Nat)} (hK : RKc A B c pr) (w : Int32) : MV 0 1 mtX8_tallied [.inr (.inr (some (15, 0))), .inl w] (hp A B) (Ret (some (.inl (if w = 0 then nI c.1 else if w = 1 then nI c.2.1 else nI c.2.2))) (hp A B)) := by
  refine MV_of caX8_tallied (L := [some (.inr (.inr (some (15, 0)))), some (.inl w)]) rfl rfl ?_
  by_cases h0 : w = 0
  · rw [if_pos h0, ← hK.1]; subst h0
    repeat' (first
        | (refine R_br rfl rfl (fun hbr => absurd hbr (by first | decide | (with_reducible assumption))) (fun _ => ?_))
        | (refine R_br rfl rfl (fun _ => ?_) (fun hbr => absurd (by first | decide | (with_reducible assumption)) hbr))
        | (refine R_br rfl rfl (fun _ => ?_) (fun _ => ?_))
        | (refine R_ri rfl rfl ?_)
        | (refine R_rz rfl rfl (Or.inl rfl) ?_)
        | (refine R_rz rfl rfl (Or.inr rfl) ?_)
        | (refine R_rz rfl rfl (b2_01 _) ?_)
        | (refine R_rl rfl rfl ?_)
        | (refine R_rv rfl rfl ?_)
        | (refine R_sw _ rfl rfl rfl ?_)
        | (refine R_go 9999 rfl rfl trivial ?_)
        | (refine R_go 9999 rfl rfl (by first | (show _ ∨ _; decide) | (show (_ ∨ _) ∧ (_ ∨ _); decide) | (show (_ ∨ _) ∧ (_ ∨ _) ∧ (_ ∨ _); decide)) ?_)
        | (refine R_go 9999 rfl rfl ?_ ?_))
    exact ret_i rfl rfl
  · rw [if_neg h0]
    by_cases h1 : w = 1
    · rw [if_pos h1, ← hK.2.1]; subst h1
      repeat' (first
          | (refine R_br rfl rfl (fun hbr => absurd hbr (by first | decide | (with_reducible assumption))) (fun _ => ?_))
          | (refine R_br rfl rfl (fun _ => ?_) (fun hbr => absurd (by first | decide | (with_reducible assumption)) hbr))
          | (refine R_br rfl rfl (fun _ => ?_) (fun _ => ?_))
          | (refine R_ri rfl rfl ?_)
          | (refine R_rz rfl rfl (Or.inl rfl) ?_)
          | (refine R_rz rfl rfl (Or.inr rfl) ?_)
          | (refine R_rz rfl rfl (b2_01 _) ?_)
          | (refine R_rl rfl rfl ?_)
          | (refine R_rv rfl rfl ?_)
          | (refine R_sw _ rfl rfl rfl ?_)
          | (refine R_go 9999 rfl rfl trivial ?_)
          | (refine R_go 9999 rfl rfl (by first | (show _ ∨ _; decide) | (show (_ ∨ _) ∧ (_ ∨ _); decide) | (show (_ ∨ _) ∧ (_ ∨ _) ∧ (_ ∨ _); decide)) ?_)
          | (refine R_go 9999 rfl rfl ?_ ?_))
      exact ret_i rfl rfl
    · rw [if_neg h1, ← hK.2.2.1]
      repeat' (first
          | (refine R_br rfl rfl (fun hbr => absurd hbr (by first | decide | (with_reducible assumption))) (fun _ => ?_))
          | (refine R_br rfl rfl (fun _ => ?_) (fun hbr => absurd (by first | decide | (with_reducible assumption)) hbr))
          | (refine R_br rfl rfl (fun _ => ?_) (fun _ => ?_))
          | (refine R_ri rfl rfl ?_)
          | (refine R_rz rfl rfl (Or.inl rfl) ?_)
          | (refine R_rz rfl rfl (Or.inr rfl) ?_)
          | (refine R_rz rfl rfl (b2_01 _) ?_)
          | (refine R_rl rfl rfl ?_)
          | (refine R_rv rfl rfl ?_)
          | (refine R_sw _ rfl rfl rfl ?_)
          | (refine R_go 9999 rfl rfl trivial ?_)
          | (refine R_go 9999 rfl rfl (by first | (show _ ∨ _; decide) | (show (_ ∨ _) ∧ (_ ∨ _); decide) | (show (_ ∨ _) ∧ (_ ∨ _) ∧ (_ ∨ _); decide)) ?_)
          | (refine R_go 9999 rfl rfl ?_ ?_))
      exact ret_i rfl rfl
theorem m_shown {A : FI} {B : FJ} (w : Int32) : MV 0 1 mtX8_shown [.inr (.inr (some (15, 0))), .inl w] (hp A B) (Ret (some (.inr (.inl (if w = 0 then B 15 0 7 else B 15 0 8)))) (hp A B)) := by
  refine MV_of caX8_shown (L := [some (.inr (.inr (some (15, 0)))), some (.inl w)]) rfl rfl ?_
  by_cases h0 : w = 0
  · rw [if_pos h0]; subst h0
    repeat' (first
        | (refine R_br rfl rfl (fun hbr => absurd hbr (by first | decide | (with_reducible assumption))) (fun _ => ?_))
        | (refine R_br rfl rfl (fun _ => ?_) (fun hbr => absurd (by first | decide | (with_reducible assumption)) hbr))
        | (refine R_br rfl rfl (fun _ => ?_) (fun _ => ?_))
        | (refine R_ri rfl rfl ?_)
        | (refine R_rz rfl rfl (Or.inl rfl) ?_)
        | (refine R_rz rfl rfl (Or.inr rfl) ?_)
        | (refine R_rz rfl rfl (b2_01 _) ?_)
        | (refine R_rl rfl rfl ?_)
        | (refine R_rv rfl rfl ?_)
        | (refine R_sw _ rfl rfl rfl ?_)
        | (refine R_go 9999 rfl rfl trivial ?_)
        | (refine R_go 9999 rfl rfl (by first | (show _ ∨ _; decide) | (show (_ ∨ _) ∧ (_ ∨ _); decide) | (show (_ ∨ _) ∧ (_ ∨ _) ∧ (_ ∨ _); decide)) ?_)
        | (refine R_go 9999 rfl rfl ?_ ?_))
    exact ret_l rfl rfl
  · rw [if_neg h0]
    repeat' (first
        | (refine R_br rfl rfl (fun hbr => absurd hbr (by first | decide | (with_reducible assumption))) (fun _ => ?_))
        | (refine R_br rfl rfl (fun _ => ?_) (fun hbr => absurd (by first | decide | (with_reducible assumption)) hbr))
        | (refine R_br rfl rfl (fun _ => ?_) (fun _ => ?_))
        | (refine R_ri rfl rfl ?_)
        | (refine R_rz rfl rfl (Or.inl rfl) ?_)
        | (refine R_rz rfl rfl (Or.inr rfl) ?_)
        | (refine R_rz rfl rfl (b2_01 _) ?_)
        | (refine R_rl rfl rfl ?_)
        | (refine R_rv rfl rfl ?_)
        | (refine R_sw _ rfl rfl rfl ?_)
        | (refine R_go 9999 rfl rfl trivial ?_)
        | (refine R_go 9999 rfl rfl (by first | (show _ ∨ _; decide) | (show (_ ∨ _) ∧ (_ ∨ _); decide) | (show (_ ∨ _) ∧ (_ ∨ _) ∧ (_ ∨ _); decide)) ?_)
        | (refine R_go 9999 rfl rfl ?_ ?_))
    exact ret_l rfl rfl
theorem m_soughtC {A : FI} {B : FJ} {q : SQ} (hK : RKC A B q) (hq : q.1 ≤ 40) (w : Int32) : MV 1 1 mtX11_sought [.inr (.inr (some (0, 0))), .inl w] (hp A B) (Ret (some (.inl (soA q w))) (hp A B)) := by
  have h13 := hK.1
  have ht := m_tallied hK.2 w
  refine MV_of caX11_sought (L := [some (.inr (.inr (some (0, 0)))), some (.inl w)]) rfl rfl ?_
  unfold soA
  refine R_go 9999 rfl rfl trivial ?_
  by_cases h0 : w.toInt < 0
  · rw [if_pos (by omega)]
    refine R_br rfl rfl (fun _ => ?_) (fun h => absurd (by (simp only [i_eq, i_lt, i_le, Int32.reduceToInt, true_and, and_true, false_and, and_false, or_false, false_or, or_true, true_or, ne_eq] at *; first | done | omega)) h)
    repeat' (first
        | (refine R_br rfl rfl (fun hbr => absurd hbr (by first | decide | (with_reducible assumption))) (fun _ => ?_))
        | (refine R_br rfl rfl (fun _ => ?_) (fun hbr => absurd (by first | decide | (with_reducible assumption)) hbr))
        | (refine R_br rfl rfl (fun _ => ?_) (fun _ => ?_))
        | (refine R_ri rfl rfl ?_)
        | (refine R_rz rfl rfl (Or.inl rfl) ?_)
        | (refine R_rz rfl rfl (Or.inr rfl) ?_)
        | (refine R_rz rfl rfl (b2_01 _) ?_)
        | (refine R_rl rfl rfl ?_)
        | (refine R_rv rfl rfl ?_)
        | (refine R_sw _ rfl rfl rfl ?_)
        | (refine R_go 9999 rfl rfl trivial ?_)
        | (refine R_go 9999 rfl rfl (by first | (show _ ∨ _; decide) | (show (_ ∨ _) ∧ (_ ∨ _); decide) | (show (_ ∨ _) ∧ (_ ∨ _) ∧ (_ ∨ _); decide)) ?_)
        | (refine R_go 9999 rfl rfl ?_ ?_))
    exact ret_i rfl rfl
  refine R_br rfl rfl (fun h => absurd h (by (simp only [i_eq, i_lt, i_le, Int32.reduceToInt, true_and, and_true, false_and, and_false, or_false, false_or, or_true, true_or, ne_eq] at *; first | done | omega))) (fun _ => ?_)
  refine R_go 9999 rfl rfl trivial ?_
  by_cases h2 : w.toInt ≤ 2
  · rw [if_neg (by omega)]
    refine R_br rfl rfl (fun _ => ?_) (fun h => absurd (by (simp only [i_eq, i_lt, i_le, Int32.reduceToInt, true_and, and_true, false_and, and_false, or_false, false_or, or_true, true_or, ne_eq] at *; first | done | omega)) h)
    refine R_go 9999 rfl rfl trivial ?_
    try dsimp only [fgt, fpt]
    rw [h13]
    by_cases hz : q.1 = 0
    · rw [if_pos hz]
      refine R_br rfl rfl (fun _ => ?_) (fun h => absurd (by rw [hz]; rfl) h)
      repeat' (first
          | (refine R_br rfl rfl (fun hbr => absurd hbr (by first | decide | (with_reducible assumption))) (fun _ => ?_))
          | (refine R_br rfl rfl (fun _ => ?_) (fun hbr => absurd (by first | decide | (with_reducible assumption)) hbr))
          | (refine R_br rfl rfl (fun _ => ?_) (fun _ => ?_))
          | (refine R_ri rfl rfl ?_)
          | (refine R_rz rfl rfl (Or.inl rfl) ?_)
          | (refine R_rz rfl rfl (Or.inr rfl) ?_)
          | (refine R_rz rfl rfl (b2_01 _) ?_)
          | (refine R_rl rfl rfl ?_)
          | (refine R_rv rfl rfl ?_)
          | (refine R_sw _ rfl rfl rfl ?_)
          | (refine R_go 9999 rfl rfl trivial ?_)
          | (refine R_go 9999 rfl rfl (by first | (show _ ∨ _; decide) | (show (_ ∨ _) ∧ (_ ∨ _); decide) | (show (_ ∨ _) ∧ (_ ∨ _) ∧ (_ ∨ _); decide)) ?_)
          | (refine R_go 9999 rfl rfl ?_ ?_))
      exact ret_i rfl rfl
    · rw [if_neg hz]
      refine R_br rfl rfl (fun h => absurd (nI_ij (b := 0) (by omega) (by omega) h) hz) (fun _ => ?_)
      refine R_go 9999 rfl rfl trivial ?_
      refine R_cvr rfl ht rfl rfl rfl rfl rfl (Nat.le_of_ble_eq_true rfl) rfl ?_
      refine R_ri rfl rfl ?_
      exact ret_i rfl rfl
  · rw [if_pos (by omega)]
    refine R_br rfl rfl (fun h => absurd h (by (simp only [i_eq, i_lt, i_le, Int32.reduceToInt, true_and, and_true, false_and, and_false, or_false, false_or, or_true, true_or, ne_eq] at *; first | done | omega))) (fun _ => ?_)
    repeat' (first
        | (refine R_br rfl rfl (fun hbr => absurd hbr (by first | decide | (with_reducible assumption))) (fun _ => ?_))
        | (refine R_br rfl rfl (fun _ => ?_) (fun hbr => absurd (by first | decide | (with_reducible assumption)) hbr))
        | (refine R_br rfl rfl (fun _ => ?_) (fun _ => ?_))
        | (refine R_ri rfl rfl ?_)
        | (refine R_rz rfl rfl (Or.inl rfl) ?_)
        | (refine R_rz rfl rfl (Or.inr rfl) ?_)
        | (refine R_rz rfl rfl (b2_01 _) ?_)
        | (refine R_rl rfl rfl ?_)
        | (refine R_rv rfl rfl ?_)
        | (refine R_sw _ rfl rfl rfl ?_)
        | (refine R_go 9999 rfl rfl trivial ?_)
        | (refine R_go 9999 rfl rfl (by first | (show _ ∨ _; decide) | (show (_ ∨ _) ∧ (_ ∨ _); decide) | (show (_ ∨ _) ∧ (_ ∨ _) ∧ (_ ∨ _); decide)) ?_)
        | (refine R_go 9999 rfl rfl ?_ ?_))
    exact ret_i rfl rfl
theorem m_soughtM {A : FI} {B : FJ} {q : SQ} (hK : RKw A B q) (hq : q.1 ≤ 40) (w : Int32) : MV 1 1 mtX12_sought [.inr (.inr (some (31, 0))), .inl w] (hp A B) (Ret (some (.inl (soA q w))) (hp A B)) := by
  obtain ⟨h45, h46, h47, h48, -⟩ := hK
  have l1 : (0 : Int64).toInt = 0 := by decide
  have l2 : (2 : Int64).toInt = 2 := by decide
  refine MV_of caX12_sought (L := [some (.inr (.inr (some (31, 0)))), some (.inl w)]) rfl rfl ?_
  unfold soA
  refine R_go 9999 rfl rfl trivial ?_
  by_cases h2 : 0 ≤ w.toInt ∧ w.toInt ≤ 2
  · rw [if_neg (fun z => z h2)]
    refine R_csr rfl (m_inT w 0 2 (by rw [l1, l2]; exact h2) A B) rfl rfl rfl (Nat.le_of_ble_eq_true rfl) rfl ?_
    refine R_br rfl rfl (fun h => absurd h (by decide)) (fun _ => ?_)
    refine R_go 9999 rfl rfl trivial ?_
    try dsimp only [fgt, fpt]
    rw [h45]
    by_cases hz : q.1 = 0
    · rw [if_pos hz]
      refine R_br rfl rfl (fun _ => ?_) (fun h => absurd (by rw [hz]; rfl) h)
      repeat' (first
          | (refine R_br rfl rfl (fun hbr => absurd hbr (by first | decide | (with_reducible assumption))) (fun _ => ?_))
          | (refine R_br rfl rfl (fun _ => ?_) (fun hbr => absurd (by first | decide | (with_reducible assumption)) hbr))
          | (refine R_br rfl rfl (fun _ => ?_) (fun _ => ?_))
          | (refine R_ri rfl rfl ?_)
          | (refine R_rz rfl rfl (Or.inl rfl) ?_)
          | (refine R_rz rfl rfl (Or.inr rfl) ?_)
          | (refine R_rz rfl rfl (b2_01 _) ?_)
          | (refine R_rl rfl rfl ?_)
          | (refine R_rv rfl rfl ?_)
          | (refine R_sw _ rfl rfl rfl ?_)
          | (refine R_go 9999 rfl rfl trivial ?_)
          | (refine R_go 9999 rfl rfl (by first | (show _ ∨ _; decide) | (show (_ ∨ _) ∧ (_ ∨ _); decide) | (show (_ ∨ _) ∧ (_ ∨ _) ∧ (_ ∨ _); decide)) ?_)
          | (refine R_go 9999 rfl rfl ?_ ?_))
      exact ret_i rfl rfl
    · rw [if_neg hz]
      refine R_br rfl rfl (fun h => absurd (nI_ij (b := 0) (by omega) (by omega) h) hz) (fun _ => ?_)
      by_cases h0 : w = 0
      · rw [if_pos h0, ← h46]; subst h0
        repeat' (first
            | (refine R_br rfl rfl (fun hbr => absurd hbr (by first | decide | (with_reducible assumption))) (fun _ => ?_))
            | (refine R_br rfl rfl (fun _ => ?_) (fun hbr => absurd (by first | decide | (with_reducible assumption)) hbr))
            | (refine R_br rfl rfl (fun _ => ?_) (fun _ => ?_))
            | (refine R_ri rfl rfl ?_)
            | (refine R_rz rfl rfl (Or.inl rfl) ?_)
            | (refine R_rz rfl rfl (Or.inr rfl) ?_)
            | (refine R_rz rfl rfl (b2_01 _) ?_)
            | (refine R_rl rfl rfl ?_)
            | (refine R_rv rfl rfl ?_)
            | (refine R_sw _ rfl rfl rfl ?_)
            | (refine R_go 9999 rfl rfl trivial ?_)
            | (refine R_go 9999 rfl rfl (by first | (show _ ∨ _; decide) | (show (_ ∨ _) ∧ (_ ∨ _); decide) | (show (_ ∨ _) ∧ (_ ∨ _) ∧ (_ ∨ _); decide)) ?_)
            | (refine R_go 9999 rfl rfl ?_ ?_))
        exact ret_i rfl rfl
      · rw [if_neg h0]
        by_cases h1 : w = 1
        · rw [if_pos h1, ← h47]; subst h1
          repeat' (first
              | (refine R_br rfl rfl (fun hbr => absurd hbr (by first | decide | (with_reducible assumption))) (fun _ => ?_))
              | (refine R_br rfl rfl (fun _ => ?_) (fun hbr => absurd (by first | decide | (with_reducible assumption)) hbr))
              | (refine R_br rfl rfl (fun _ => ?_) (fun _ => ?_))
              | (refine R_ri rfl rfl ?_)
              | (refine R_rz rfl rfl (Or.inl rfl) ?_)
              | (refine R_rz rfl rfl (Or.inr rfl) ?_)
              | (refine R_rz rfl rfl (b2_01 _) ?_)
              | (refine R_rl rfl rfl ?_)
              | (refine R_rv rfl rfl ?_)
              | (refine R_sw _ rfl rfl rfl ?_)
              | (refine R_go 9999 rfl rfl trivial ?_)
              | (refine R_go 9999 rfl rfl (by first | (show _ ∨ _; decide) | (show (_ ∨ _) ∧ (_ ∨ _); decide) | (show (_ ∨ _) ∧ (_ ∨ _) ∧ (_ ∨ _); decide)) ?_)
              | (refine R_go 9999 rfl rfl ?_ ?_))
          exact ret_i rfl rfl
        · rw [if_neg h1, ← h48]
          repeat' (first
              | (refine R_br rfl rfl (fun hbr => absurd hbr (by first | decide | (with_reducible assumption))) (fun _ => ?_))
              | (refine R_br rfl rfl (fun _ => ?_) (fun hbr => absurd (by first | decide | (with_reducible assumption)) hbr))
              | (refine R_br rfl rfl (fun _ => ?_) (fun _ => ?_))
              | (refine R_ri rfl rfl ?_)
              | (refine R_rz rfl rfl (Or.inl rfl) ?_)
              | (refine R_rz rfl rfl (Or.inr rfl) ?_)
              | (refine R_rz rfl rfl (b2_01 _) ?_)
              | (refine R_rl rfl rfl ?_)
              | (refine R_rv rfl rfl ?_)
              | (refine R_sw _ rfl rfl rfl ?_)
              | (refine R_go 9999 rfl rfl trivial ?_)
              | (refine R_go 9999 rfl rfl (by first | (show _ ∨ _; decide) | (show (_ ∨ _) ∧ (_ ∨ _); decide) | (show (_ ∨ _) ∧ (_ ∨ _) ∧ (_ ∨ _); decide)) ?_)
              | (refine R_go 9999 rfl rfl ?_ ?_))
          exact ret_i rfl rfl
  · rw [if_pos h2]
    refine R_csr rfl (m_inF w 0 2 (by rw [l1, l2]; exact h2) A B) rfl rfl rfl (Nat.le_of_ble_eq_true rfl) rfl ?_
    refine R_br rfl rfl (fun _ => ?_) (fun h => absurd rfl h)
    repeat' (first
        | (refine R_br rfl rfl (fun hbr => absurd hbr (by first | decide | (with_reducible assumption))) (fun _ => ?_))
        | (refine R_br rfl rfl (fun _ => ?_) (fun hbr => absurd (by first | decide | (with_reducible assumption)) hbr))
        | (refine R_br rfl rfl (fun _ => ?_) (fun _ => ?_))
        | (refine R_ri rfl rfl ?_)
        | (refine R_rz rfl rfl (Or.inl rfl) ?_)
        | (refine R_rz rfl rfl (Or.inr rfl) ?_)
        | (refine R_rz rfl rfl (b2_01 _) ?_)
        | (refine R_rl rfl rfl ?_)
        | (refine R_rv rfl rfl ?_)
        | (refine R_sw _ rfl rfl rfl ?_)
        | (refine R_go 9999 rfl rfl trivial ?_)
        | (refine R_go 9999 rfl rfl (by first | (show _ ∨ _; decide) | (show (_ ∨ _) ∧ (_ ∨ _); decide) | (show (_ ∨ _) ∧ (_ ∨ _) ∧ (_ ∨ _); decide)) ?_)
        | (refine R_go 9999 rfl rfl ?_ ?_))
    exact ret_i rfl rfl
theorem m_pairC {A : FI} {B : FJ} {q : SQ} (hK : RKC A B q) (w : Int32) : MV 1 1 mtX11_pair [.inr (.inr (some (0, 0))), .inl w] (hp A B) (Ret (some (.inr (.inl (paA q w)))) (hp A B)) := by
  obtain ⟨-, -, -, -, e1, e2⟩ := hK
  refine MV_of caX11_pair (L := [some (.inr (.inr (some (0, 0)))), some (.inl w)]) rfl rfl ?_
  unfold paA
  refine R_go 9999 rfl rfl trivial ?_
  by_cases h0 : w.toInt < 0
  · rw [if_pos (by omega)]
    refine R_br rfl rfl (fun _ => ?_) (fun h => absurd (by (simp only [i_eq, i_lt, i_le, Int32.reduceToInt, true_and, and_true, false_and, and_false, or_false, false_or, or_true, true_or, ne_eq] at *; first | done | omega)) h)
    repeat' (first
        | (refine R_br rfl rfl (fun hbr => absurd hbr (by first | decide | (with_reducible assumption))) (fun _ => ?_))
        | (refine R_br rfl rfl (fun _ => ?_) (fun hbr => absurd (by first | decide | (with_reducible assumption)) hbr))
        | (refine R_br rfl rfl (fun _ => ?_) (fun _ => ?_))
        | (refine R_ri rfl rfl ?_)
        | (refine R_rz rfl rfl (Or.inl rfl) ?_)
        | (refine R_rz rfl rfl (Or.inr rfl) ?_)
        | (refine R_rz rfl rfl (b2_01 _) ?_)
        | (refine R_rl rfl rfl ?_)
        | (refine R_rv rfl rfl ?_)
        | (refine R_sw _ rfl rfl rfl ?_)
        | (refine R_go 9999 rfl rfl trivial ?_)
        | (refine R_go 9999 rfl rfl (by first | (show _ ∨ _; decide) | (show (_ ∨ _) ∧ (_ ∨ _); decide) | (show (_ ∨ _) ∧ (_ ∨ _) ∧ (_ ∨ _); decide)) ?_)
        | (refine R_go 9999 rfl rfl ?_ ?_))
    exact ret_l rfl rfl
  refine R_br rfl rfl (fun h => absurd h (by (simp only [i_eq, i_lt, i_le, Int32.reduceToInt, true_and, and_true, false_and, and_false, or_false, false_or, or_true, true_or, ne_eq] at *; first | done | omega))) (fun _ => ?_)
  refine R_go 9999 rfl rfl trivial ?_
  by_cases h2 : w.toInt ≤ 1
  · rw [if_neg (by omega)]
    refine R_br rfl rfl (fun _ => ?_) (fun h => absurd (by (simp only [i_eq, i_lt, i_le, Int32.reduceToInt, true_and, and_true, false_and, and_false, or_false, false_or, or_true, true_or, ne_eq] at *; first | done | omega)) h)
    refine R_go 9999 rfl rfl trivial ?_
    refine R_cvr rfl (m_shown w) rfl rfl rfl rfl rfl (Nat.le_of_ble_eq_true rfl) rfl ?_
    refine R_rl rfl rfl ?_
    refine ret_l ?_ rfl
    cases hpq : q.2.2 with
    | none =>
      obtain ⟨a1, a2⟩ := e1 hpq
      rw [a1, a2]
      split <;> rfl
    | some p =>
      obtain ⟨a1, a2⟩ := e2 p hpq
      rw [a1, a2]
  · rw [if_pos (by omega)]
    refine R_br rfl rfl (fun h => absurd h (by (simp only [i_eq, i_lt, i_le, Int32.reduceToInt, true_and, and_true, false_and, and_false, or_false, false_or, or_true, true_or, ne_eq] at *; first | done | omega))) (fun _ => ?_)
    repeat' (first
        | (refine R_br rfl rfl (fun hbr => absurd hbr (by first | decide | (with_reducible assumption))) (fun _ => ?_))
        | (refine R_br rfl rfl (fun _ => ?_) (fun hbr => absurd (by first | decide | (with_reducible assumption)) hbr))
        | (refine R_br rfl rfl (fun _ => ?_) (fun _ => ?_))
        | (refine R_ri rfl rfl ?_)
        | (refine R_rz rfl rfl (Or.inl rfl) ?_)
        | (refine R_rz rfl rfl (Or.inr rfl) ?_)
        | (refine R_rz rfl rfl (b2_01 _) ?_)
        | (refine R_rl rfl rfl ?_)
        | (refine R_rv rfl rfl ?_)
        | (refine R_sw _ rfl rfl rfl ?_)
        | (refine R_go 9999 rfl rfl trivial ?_)
        | (refine R_go 9999 rfl rfl (by first | (show _ ∨ _; decide) | (show (_ ∨ _) ∧ (_ ∨ _); decide) | (show (_ ∨ _) ∧ (_ ∨ _) ∧ (_ ∨ _); decide)) ?_)
        | (refine R_go 9999 rfl rfl ?_ ?_))
    exact ret_l rfl rfl
theorem m_pairM {A : FI} {B : FJ} {q : SQ} (hK : RKw A B q) (w : Int32) : MV 1 1 mtX12_pair [.inr (.inr (some (31, 0))), .inl w] (hp A B) (Ret (some (.inr (.inl (paA q w)))) (hp A B)) := by
  obtain ⟨-, -, -, -, e1, e2⟩ := hK
  have l1 : (0 : Int64).toInt = 0 := by decide
  have l2 : (1 : Int64).toInt = 1 := by decide
  refine MV_of caX12_pair (L := [some (.inr (.inr (some (31, 0)))), some (.inl w)]) rfl rfl ?_
  unfold paA
  refine R_go 9999 rfl rfl trivial ?_
  by_cases h2 : 0 ≤ w.toInt ∧ w.toInt ≤ 1
  · rw [if_neg (fun z => z h2)]
    refine R_csr rfl (m_inT w 0 1 (by rw [l1, l2]; exact h2) A B) rfl rfl rfl (Nat.le_of_ble_eq_true rfl) rfl ?_
    refine R_br rfl rfl (fun h => absurd h (by decide)) (fun _ => ?_)
    refine R_go 9999 rfl rfl trivial ?_
    try dsimp only [fgt, fpt]
    cases hpq : q.2.2 with
    | none =>
      rw [e1 hpq]
      refine R_br rfl rfl (fun _ => ?_) (fun h => absurd rfl h)
      repeat' (first
          | (refine R_br rfl rfl (fun hbr => absurd hbr (by first | decide | (with_reducible assumption))) (fun _ => ?_))
          | (refine R_br rfl rfl (fun _ => ?_) (fun hbr => absurd (by first | decide | (with_reducible assumption)) hbr))
          | (refine R_br rfl rfl (fun _ => ?_) (fun _ => ?_))
          | (refine R_ri rfl rfl ?_)
          | (refine R_rz rfl rfl (Or.inl rfl) ?_)
          | (refine R_rz rfl rfl (Or.inr rfl) ?_)
          | (refine R_rz rfl rfl (b2_01 _) ?_)
          | (refine R_rl rfl rfl ?_)
          | (refine R_rv rfl rfl ?_)
          | (refine R_sw _ rfl rfl rfl ?_)
          | (refine R_go 9999 rfl rfl trivial ?_)
          | (refine R_go 9999 rfl rfl (by first | (show _ ∨ _; decide) | (show (_ ∨ _) ∧ (_ ∨ _); decide) | (show (_ ∨ _) ∧ (_ ∨ _) ∧ (_ ∨ _); decide)) ?_)
          | (refine R_go 9999 rfl rfl ?_ ?_))
      exact ret_l rfl rfl
    | some p =>
      obtain ⟨a0, a1, a2⟩ := e2 p hpq
      rw [a0]
      refine R_br rfl rfl (fun h => absurd h (by decide)) (fun _ => ?_)
      dsimp only
      by_cases h0 : w = 0
      · rw [if_pos h0, ← a1]; subst h0
        repeat' (first
            | (refine R_br rfl rfl (fun hbr => absurd hbr (by first | decide | (with_reducible assumption))) (fun _ => ?_))
            | (refine R_br rfl rfl (fun _ => ?_) (fun hbr => absurd (by first | decide | (with_reducible assumption)) hbr))
            | (refine R_br rfl rfl (fun _ => ?_) (fun _ => ?_))
            | (refine R_ri rfl rfl ?_)
            | (refine R_rz rfl rfl (Or.inl rfl) ?_)
            | (refine R_rz rfl rfl (Or.inr rfl) ?_)
            | (refine R_rz rfl rfl (b2_01 _) ?_)
            | (refine R_rl rfl rfl ?_)
            | (refine R_rv rfl rfl ?_)
            | (refine R_sw _ rfl rfl rfl ?_)
            | (refine R_go 9999 rfl rfl trivial ?_)
            | (refine R_go 9999 rfl rfl (by first | (show _ ∨ _; decide) | (show (_ ∨ _) ∧ (_ ∨ _); decide) | (show (_ ∨ _) ∧ (_ ∨ _) ∧ (_ ∨ _); decide)) ?_)
            | (refine R_go 9999 rfl rfl ?_ ?_))
        exact ret_l rfl rfl
      · rw [if_neg h0, ← a2]
        repeat' (first
            | (refine R_br rfl rfl (fun hbr => absurd hbr (by first | decide | (with_reducible assumption))) (fun _ => ?_))
            | (refine R_br rfl rfl (fun _ => ?_) (fun hbr => absurd (by first | decide | (with_reducible assumption)) hbr))
            | (refine R_br rfl rfl (fun _ => ?_) (fun _ => ?_))
            | (refine R_ri rfl rfl ?_)
            | (refine R_rz rfl rfl (Or.inl rfl) ?_)
            | (refine R_rz rfl rfl (Or.inr rfl) ?_)
            | (refine R_rz rfl rfl (b2_01 _) ?_)
            | (refine R_rl rfl rfl ?_)
            | (refine R_rv rfl rfl ?_)
            | (refine R_sw _ rfl rfl rfl ?_)
            | (refine R_go 9999 rfl rfl trivial ?_)
            | (refine R_go 9999 rfl rfl (by first | (show _ ∨ _; decide) | (show (_ ∨ _) ∧ (_ ∨ _); decide) | (show (_ ∨ _) ∧ (_ ∨ _) ∧ (_ ∨ _); decide)) ?_)
            | (refine R_go 9999 rfl rfl ?_ ?_))
        exact ret_l rfl rfl
  · rw [if_pos h2]
    refine R_csr rfl (m_inF w 0 1 (by rw [l1, l2]; exact h2) A B) rfl rfl rfl (Nat.le_of_ble_eq_true rfl) rfl ?_
    refine R_br rfl rfl (fun _ => ?_) (fun h => absurd rfl h)
    repeat' (first
        | (refine R_br rfl rfl (fun hbr => absurd hbr (by first | decide | (with_reducible assumption))) (fun _ => ?_))
        | (refine R_br rfl rfl (fun _ => ?_) (fun hbr => absurd (by first | decide | (with_reducible assumption)) hbr))
        | (refine R_br rfl rfl (fun _ => ?_) (fun _ => ?_))
        | (refine R_ri rfl rfl ?_)
        | (refine R_rz rfl rfl (Or.inl rfl) ?_)
        | (refine R_rz rfl rfl (Or.inr rfl) ?_)
        | (refine R_rz rfl rfl (b2_01 _) ?_)
        | (refine R_rl rfl rfl ?_)
        | (refine R_rv rfl rfl ?_)
        | (refine R_sw _ rfl rfl rfl ?_)
        | (refine R_go 9999 rfl rfl trivial ?_)
        | (refine R_go 9999 rfl rfl (by first | (show _ ∨ _; decide) | (show (_ ∨ _) ∧ (_ ∨ _); decide) | (show (_ ∨ _) ∧ (_ ∨ _) ∧ (_ ∨ _); decide)) ?_)
        | (refine R_go 9999 rfl rfl ?_ ?_))
    exact ret_l rfl rfl
