noncomputable def prF (p : List Nat) (P : List (List Tk × Nat)) : Int32 × List Nat × List (List Tk × Nat) := @ite _ (whC 0 p) (Classical.propDecidable _) (nI (oF 0 p).1.length, [], (oF 0 p).1) (-103, p, P)
theorem prF_ok (p : List Nat) (P : List (List Tk × Nat)) : prR p P (prF p P).1 (prF p P).2.1 (prF p P).2.2 := by
  unfold prF
  rcases Classical.em (whC 0 p) with h | h
  · rw [ite_py h]; exact Or.inl ⟨h, rfl, rfl, rfl⟩
  · rw [ite_pn h]; exact Or.inr ⟨h, rfl, rfl, rfl⟩
theorem prF_iv {p : List Nat} {P : List (List Tk × Nat)} (hp' : WFP p) (hP : okG P) (hl : p.length ≤ 80) : WFP (prF p P).2.1 ∧ okG (prF p P).2.2 := by
  unfold prF
  rcases Classical.em (whC 0 p) with h | h
  · rw [ite_py h]; exact ⟨(fun x hx => by cases hx), Or.inr (okP_F h hl)⟩
  · rw [ite_pn h]; exact ⟨hp', hP⟩
noncomputable def lwF (p : List Nat) (LS : List (List Tk)) : Int32 × List Nat × List (List Tk) := @ite _ (whC 1 p) (Classical.propDecidable _) (if LS.length < 6 then (nI LS.length, [], LS ++ [(ldn 17 (oF 1 p)).2.1]) else (-104, p, LS)) (-103, p, LS)
theorem lwF_ok {p : List Nat} {LS : List (List Tk)} (h6 : LS.length ≤ 6) : lwR p LS (lwF p LS).1 (lwF p LS).2.1 (lwF p LS).2.2 := by
  unfold lwF
  rcases Classical.em (whC 1 p) with h | h
  · rw [ite_py h]
    by_cases hl : LS.length < 6
    · rw [if_pos hl]; exact Or.inl ⟨h, hl, rfl, rfl, rfl⟩
    · rw [if_neg hl]; exact Or.inr (Or.inl ⟨h, by omega, rfl, rfl, rfl⟩)
  · rw [ite_pn h]; exact Or.inr (Or.inr ⟨h, rfl, rfl, rfl⟩)
theorem lwR_unq {p : List Nat} {LS : List (List Tk)} {r r2 : Int32} {p' p2 : List Nat} {L' L2 : List (List Tk)} (a : lwR p LS r p' L') (b : lwR p LS r2 p2 L2) : r = r2 ∧ p' = p2 ∧ L' = L2 := by
  rcases a with ⟨a, al, rfl, rfl, rfl⟩ | ⟨a, al, rfl, rfl, rfl⟩ | ⟨a, rfl, rfl, rfl⟩ <;> rcases b with ⟨b, bl, rfl, rfl, rfl⟩ | ⟨b, bl, rfl, rfl, rfl⟩ | ⟨b, rfl, rfl, rfl⟩
  all_goals first
    | exact ⟨rfl, rfl, rfl⟩
    | exact absurd a b
    | exact absurd b a
    | omega
theorem lwF_iv {p : List Nat} {LS : List (List Tk)} (hp' : WFP p) (hL : okL LS) (hl : p.length ≤ 80) : WFP (lwF p LS).2.1 ∧ okL (lwF p LS).2.2 := by
  unfold lwF
  rcases Classical.em (whC 1 p) with h | h
  · rw [ite_py h]
    by_cases h6 : LS.length < 6
    · rw [if_pos h6]
      refine ⟨(fun x hx => by cases hx), ?_, fun j hj => ?_⟩
      · dsimp only; rw [List.length_append]; simp only [List.length_cons, List.length_nil]; omega
      · dsimp only at hj ⊢
        rw [List.length_append] at hj
        simp only [List.length_cons, List.length_nil] at hj
        by_cases e : j < LS.length
        · rw [gd_l e]; exact hL.2 j e
        · have : j = LS.length := by omega
          subst this
          rw [gd_e]
          obtain ⟨l, e1, e2, e3, -⟩ := law_ok h hl
          rw [e1]
          exact ⟨e2, e3⟩
    · rw [if_neg h6]; exact ⟨hp', hL⟩
  · rw [ite_pn h]; exact ⟨hp', hL⟩
theorem sq_strike {S : SS} (hS : ivS S) : StpQ mtX11_strike mtX12_strike 0 [] S := by
  obtain ⟨F, p, P, LS, R, q, md⟩ := S
  obtain ⟨iF, ip, iP, iL, iq, im⟩ := hS
  replace iL : okL LS := iL
  have iL' : okL (stR LS).2 := by
    unfold stR
    by_cases h : LS.length = 0
    · rw [if_pos h]; exact iL
    · rw [if_neg h]
      refine ⟨by dsimp only; rw [List.length_dropLast]; have := iL.1; omega, fun j hj => ?_⟩
      dsimp only at hj ⊢
      rw [List.length_dropLast] at hj
      have e : LS.dropLast.getD j [] = LS.getD j [] := by
        rw [List.getD_eq_getElem?_getD, List.getD_eq_getElem?_getD, List.getElem?_dropLast, if_pos hj]
      rw [e]
      exact iL.2 j (by omega)
  refine ⟨(stR LS).1, (F, p, P, (stR LS).2, R, q, md), ⟨iF, ip, iP, iL', iq, im⟩, fun A B hC hM => ⟨1, _, by decide, m_strikeC hC.1.2.2.2.1 iL.1, ?_⟩, fun A B hC hM => ⟨0, _, by decide, m_strikeM hM.1.2.2.2.1 iL.1, ?_⟩⟩
  · rintro r h' ⟨A1, rfl, rfl, h1, hF⟩
    have hg : ∀ g, g ≠ 1 → A1 g = A g := fun g hg => hF.1 g hg (by simp)
    obtain ⟨⟨a, b, c, -, r, x, y⟩, k⟩ := hC
    refine ⟨A1, B, rfl, rfl, ⟨⟨fun f hf => by rw [hg 2 (by decide)]; exact a f hf, ⟨by rw [hg 8 (by decide)]; exact b.1, b.2.1, fun k hk => by rw [hg 9 (by decide)]; exact b.2.2 k hk⟩, RS_fr c (by rw [hg 4 (by decide)]) (by rw [hg 5 (by decide)]) (by rw [hg 6 (by decide)]), h1, RCR_fr r (by rw [hg 18 (by decide)]) (hg 20 (by decide)) (hg 21 (by decide)) (fun i _ => by rw [hg 25 (by decide)]), by rw [hg 0 (by decide)]; exact x, by rw [hg 0 (by decide)]; exact y⟩, ?_⟩, RMs_hi hM (fun g h => hg g (by omega)) rfl⟩
    unfold RKc
    rw [hg 15 (by decide)]
    exact k
  · rintro r h' ⟨A1, rfl, rfl, h1, hO⟩
    obtain ⟨⟨a, b, c, -, r, x, y⟩, k1, k2, k3, k4, k5⟩ := hM
    exact ⟨A1, B, rfl, rfl, RCs_lo hC (lo31 hO (by decide)) rfl, ⟨RMF_fr a hO (by decide), ⟨by rw [hO.2 5 (by decide)]; exact b.1, b.2.1, fun k hk => by rw [hO.1 36 (by decide) (by decide)]; exact b.2.2 k hk⟩, RMG_fr c hO (by decide) (by decide), h1, RMR_fr r hO (by decide) (by decide), by rw [hO.2 45 (by decide)]; exact x, by rw [hO.2 68 (by decide)]; exact y⟩, by rw [hO.2 46 (by decide)]; exact k1, by rw [hO.2 47 (by decide)]; exact k2, by rw [hO.2 48 (by decide)]; exact k3, fun h => by rw [hO.2 49 (by decide)]; exact k4 h, fun q h => by rw [hO.2 49 (by decide)]; exact k5 q h⟩
theorem sq_row {S : SS} (hS : ivS S) (x : Int64) (o : Int32) : StpQ mtX11_row mtX12_row 2 [.inr (.inl x), .inl o] S := by
  obtain ⟨F, p, P, LS, R, q, md⟩ := S
  obtain ⟨iF, ip, iP, iL, iq, im⟩ := hS
  refine ⟨(rowA R x o).1, (F, p, P, LS, (rowA R x o).2, q, md), ⟨iF, ip, iP, iL, iq, im⟩, fun A B hC hM => ⟨4, _, by decide, m_rowC iP hC.1.2.2.1 hC.1.2.2.2.2.1 x o, ?_⟩, fun A B hC hM => ⟨2, _, by decide, m_rowM hM.1.2.2.2.2.1 x o, ?_⟩⟩
  · rintro r h' ⟨A1, B1, rfl, rfl, h1, hF, -, hJ⟩
    have hg : ∀ g, g ≠ 10 → g ≠ 18 → g ≠ 20 → g ≠ 21 → g ≠ 25 → A1 g = A g := fun g h1 h2 h3 h4 h5 => hF g (by simp [h1, h2, h3, h4, h5])
    obtain ⟨⟨a, b, c, d, -, x, y⟩, k⟩ := hC
    refine ⟨A1, B1, rfl, rfl, ⟨⟨fun f hf => by rw [hg 2 (by decide) (by decide) (by decide) (by decide) (by decide)]; exact a f hf, ⟨by rw [hg 8 (by decide) (by decide) (by decide) (by decide) (by decide)]; exact b.1, b.2.1, fun k hk => by rw [hg 9 (by decide) (by decide) (by decide) (by decide) (by decide)]; exact b.2.2 k hk⟩, RS_fr c (by rw [hg 4 (by decide) (by decide) (by decide) (by decide) (by decide)]) (by rw [hg 5 (by decide) (by decide) (by decide) (by decide) (by decide)]) (by rw [hg 6 (by decide) (by decide) (by decide) (by decide) (by decide)]), ⟨by rw [hg 1 (by decide) (by decide) (by decide) (by decide) (by decide)]; exact d.1, fun j hj => RS_fr (d.2 j hj) (by rw [hg 4 (by decide) (by decide) (by decide) (by decide) (by decide)]) (by rw [hg 5 (by decide) (by decide) (by decide) (by decide) (by decide)]) (by rw [hg 6 (by decide) (by decide) (by decide) (by decide) (by decide)])⟩, h1, by rw [hg 0 (by decide) (by decide) (by decide) (by decide) (by decide)]; exact x, by rw [hg 0 (by decide) (by decide) (by decide) (by decide) (by decide)]; exact y⟩, ?_⟩, RMs_hi hM (fun g h => hg g (by omega) (by omega) (by omega) (by omega) (by omega)) (hJ 31 (by decide))⟩
    unfold RKc
    rw [hg 15 (by decide) (by decide) (by decide) (by decide) (by decide), hJ 15 (by decide)]
    exact k
  · rintro r h' ⟨A1, rfl, rfl, h1, hO⟩
    obtain ⟨⟨a, b, c, d, -, x, y⟩, k1, k2, k3, k4, k5⟩ := hM
    exact ⟨A1, B, rfl, rfl, RCs_lo hC (lo31 hO (by decide)) rfl, ⟨RMF_fr a hO (by decide), ⟨by rw [hO.2 5 (by decide)]; exact b.1, b.2.1, fun k hk => by rw [hO.1 36 (by decide) (by decide)]; exact b.2.2 k hk⟩, RMG_fr c hO (by decide) (by decide), RML_fr d hO (by decide) (by decide), h1, by rw [hO.2 45 (by decide)]; exact x, by rw [hO.2 68 (by decide)]; exact y⟩, by rw [hO.2 46 (by decide)]; exact k1, by rw [hO.2 47 (by decide)]; exact k2, by rw [hO.2 48 (by decide)]; exact k3, fun h => by rw [hO.2 49 (by decide)]; exact k4 h, fun q h => by rw [hO.2 49 (by decide)]; exact k5 q h⟩
theorem sq_program {S : SS} (hS : ivS S) (hpl : S.2.1.length ≤ 80) : StpQ mtX11_program mtX12_program 0 [] S := by
  obtain ⟨F, p, P, LS, R, q, md⟩ := S
  obtain ⟨iF, ip, iP, iL, iq, im⟩ := hS
  obtain ⟨ip', iP'⟩ := prF_iv ip iP hpl
  have hok := prF_ok p P
  refine ⟨(prF p P).1, (F, (prF p P).2.1, (prF p P).2.2, LS, R, q, md), ⟨iF, ip', iP', iL, iq, im⟩, fun A B hC hM => ⟨6, _, by decide, m_programC hC.1.2.1 ip hC.1.2.2.1 hC.1.2.2.2.1 iL.1 hC.1.2.2.2.2.1, ?_⟩, fun A B hC hM => ⟨7, _, by decide, m_programM hM.1.2.1 ip hM.1.2.2.1, ?_⟩⟩
  · rintro r h' ⟨A1, B1, r', p', P', rfl, rfl, hpr, h1, h2, h3, h4, hF, hJ⟩
    obtain ⟨rfl, rfl, rfl⟩ := prR_un hpr hok
    have hg : ∀ g, g ∉ [4, 5, 6, 7, 8, 10, 21] → A1 g = A g := hF
    obtain ⟨⟨a, b, c, d, r, x, y⟩, k⟩ := hC
    refine ⟨A1, B1, rfl, rfl, ⟨⟨fun f hf => by rw [hg 2 (by decide)]; exact a f hf, h1, h2, h3, h4, by rw [hg 0 (by decide)]; exact x, by rw [hg 0 (by decide)]; exact y⟩, ?_⟩, RMs_hi hM (fun g h => hg g (fun z => by simp only [List.mem_cons, List.not_mem_nil, or_false] at z; omega)) (hJ 31 (by decide))⟩
    unfold RKc
    rw [hg 15 (by decide), hJ 15 (by decide)]
    exact k
  · rintro r h' ⟨A1, r', p', P', rfl, rfl, hpr, h1, h2, hO⟩
    obtain ⟨rfl, rfl, rfl⟩ := prR_un hpr hok
    obtain ⟨⟨a, b, c, d, r, x, y⟩, k1, k2, k3, k4, k5⟩ := hM
    exact ⟨A1, B, rfl, rfl, RCs_lo hC (lo31 hO (by decide)) rfl, ⟨RMF_fr a hO (by decide), h1, h2, RML_fr d hO (by decide) (by decide), RMR_fr r hO (by decide) (by decide), by rw [hO.2 45 (by decide)]; exact x, by rw [hO.2 68 (by decide)]; exact y⟩, by rw [hO.2 46 (by decide)]; exact k1, by rw [hO.2 47 (by decide)]; exact k2, by rw [hO.2 48 (by decide)]; exact k3, fun h => by rw [hO.2 49 (by decide)]; exact k4 h, fun q h => by rw [hO.2 49 (by decide)]; exact k5 q h⟩
theorem sq_law {S : SS} (hS : ivS S) (hpl : S.2.1.length ≤ 80) : StpQ mtX11_law mtX12_law 0 [] S := by
  obtain ⟨F, p, P, LS, R, q, md⟩ := S
  obtain ⟨iF, ip, iP, iL, iq, im⟩ := hS
  obtain ⟨ip', iL'⟩ := lwF_iv ip iL hpl
  have hok := lwF_ok (p := p) iL.1
  refine ⟨(lwF p LS).1, (F, (lwF p LS).2.1, P, (lwF p LS).2.2, R, q, md), ⟨iF, ip', iP, iL', iq, im⟩, fun A B hC hM => ⟨6, _, by decide, m_lawC hC.1.2.1 ip hC.1.2.2.1 hC.1.2.2.2.1 iL.1, ?_⟩, fun A B hC hM => ⟨7, _, by decide, m_lawM hM.1.2.1 ip hM.1.2.2.2.1 iL, ?_⟩⟩
  · rintro r h' ⟨A1, r', p', L', rfl, rfl, hpr, h1, h2, h3, hF⟩
    obtain ⟨rfl, rfl, rfl⟩ := lwR_unq hpr hok
    have hg : ∀ g, g ∉ [1, 4, 5, 6, 7, 8] → A1 g = A g := hF
    obtain ⟨⟨a, b, c, d, r, x, y⟩, k⟩ := hC
    refine ⟨A1, B, rfl, rfl, ⟨⟨fun f hf => by rw [hg 2 (by decide)]; exact a f hf, h1, h2, h3, RCR_fr r (by rw [hg 18 (by decide)]) (hg 20 (by decide)) (hg 21 (by decide)) (fun i _ => by rw [hg 25 (by decide)]), by rw [hg 0 (by decide)]; exact x, by rw [hg 0 (by decide)]; exact y⟩, ?_⟩, RMs_hi hM (fun g h => hg g (fun z => by simp only [List.mem_cons, List.not_mem_nil, or_false] at z; omega)) rfl⟩
    unfold RKc
    rw [hg 15 (by decide)]
    exact k
  · rintro r h' ⟨A1, r', p', L', rfl, rfl, hpr, h1, h2, hO⟩
    obtain ⟨rfl, rfl, rfl⟩ := lwR_unq hpr hok
    obtain ⟨⟨a, b, c, d, r, x, y⟩, k1, k2, k3, k4, k5⟩ := hM
    exact ⟨A1, B, rfl, rfl, RCs_lo hC (lo31 hO (by decide)) rfl, ⟨RMF_fr a hO (by decide), h1, RMG_fr c hO (by decide) (by decide), h2, RMR_fr r hO (by decide) (by decide), by rw [hO.2 45 (by decide)]; exact x, by rw [hO.2 68 (by decide)]; exact y⟩, by rw [hO.2 46 (by decide)]; exact k1, by rw [hO.2 47 (by decide)]; exact k2, by rw [hO.2 48 (by decide)]; exact k3, fun h => by rw [hO.2 49 (by decide)]; exact k4 h, fun q h => by rw [hO.2 49 (by decide)]; exact k5 q h⟩
theorem seA_40 {F : FS} {LS : List (List Tk)} {P : List (List Tk × Nat)} {q : SQ} (h : q.1 ≤ 40) (f bx : Int32) : (seA F LS P q f bx).2.1 ≤ 40 := by
  unfold seA
  by_cases h1 : f ≠ -1 ∧ ¬ (0 ≤ f.toInt ∧ f.toInt < 8)
  · rw [if_pos h1]; exact h
  · rw [if_neg h1]
    by_cases h2 : ¬ (1 ≤ bx.toInt ∧ bx.toInt ≤ 2000)
    · rw [if_pos h2]; exact h
    · rw [if_neg h2]
      by_cases h3 : P = [] ∨ 40 ≤ q.1
      · rw [if_pos h3]; exact h
      · rw [if_neg h3]
        have : ¬ 40 ≤ q.1 := fun z => h3 (Or.inr z)
        dsimp only; omega
theorem sq_seek {S : SS} (hS : ivS S) (f bx : Int32) : StpQ mtX11_seek mtX12_seek 2 [.inl f, .inl bx] S := by
  obtain ⟨F, p, P, LS, R, q, md⟩ := S
  obtain ⟨iF, ip, iP, iL, iq, im⟩ := hS
  have i40 := seA_40 (F := F) (LS := LS) (P := P) (q := q) iq f bx
  refine ⟨(seA F LS P q f bx).1, (F, p, P, LS, R, (seA F LS P q f bx).2, md), ⟨iF, ip, iP, iL, i40, im⟩, fun A B hC hM => ⟨6, _, by decide, m_seekC f bx iP iL iF hC.1.1 hC.1.2.2.2.1 hC.1.2.2.1 ⟨hC.1.2.2.2.2.2.1, hC.2⟩ iq, ?_⟩, fun A B hC hM => ⟨5, _, by decide, m_seekM f bx iP iL iF hM.1.1 hM.1.2.2.2.1 hM.1.2.2.1 ⟨hM.1.2.2.2.2.2.1, hM.2⟩ iq, ?_⟩⟩
  · rintro r h' ⟨A1, B1, rfl, rfl, hF, hJ, hK⟩
    have hg : ∀ g, g ≠ 0 → g ∉ [12, 15, 16, 17] → A1 g = A g := hF.1
    obtain ⟨⟨a, b, c, d, r, x, y⟩, k⟩ := hC
    exact ⟨A1, B1, rfl, rfl, ⟨⟨fun f hf => by rw [hg 2 (by decide) (by decide)]; exact a f hf, ⟨by rw [hg 8 (by decide) (by decide)]; exact b.1, b.2.1, fun k hk => by rw [hg 9 (by decide) (by decide)]; exact b.2.2 k hk⟩, RS_fr c (by rw [hg 4 (by decide) (by decide)]) (by rw [hg 5 (by decide) (by decide)]) (by rw [hg 6 (by decide) (by decide)]), ⟨by rw [hg 1 (by decide) (by decide)]; exact d.1, fun j hj => RS_fr (d.2 j hj) (by rw [hg 4 (by decide) (by decide)]) (by rw [hg 5 (by decide) (by decide)]) (by rw [hg 6 (by decide) (by decide)])⟩, RCR_fr r (by rw [hg 18 (by decide) (by decide)]) (hg 20 (by decide) (by decide)) (hg 21 (by decide) (by decide)) (fun i _ => by rw [hg 25 (by decide) (by decide)]), hK.1, by rw [hF.2 14 (by decide)]; exact y⟩, hK.2⟩, RMs_hi hM (fun g h => hg g (by omega) (fun z => by simp only [List.mem_cons, List.not_mem_nil, or_false] at z; omega)) (hJ 31 (by decide))⟩
  · rintro r h' ⟨A1, B1, rfl, rfl, hO, hJ, hK⟩
    obtain ⟨⟨a, b, c, d, r, x, y⟩, -⟩ := hM
    exact ⟨A1, B1, rfl, rfl, RCs_lo hC (lo31 hO (by decide)) (hJ 15 (by decide)), ⟨RMF_fr a hO (by decide), ⟨by rw [hO.2 5 (by decide)]; exact b.1, b.2.1, fun k hk => by rw [hO.1 36 (by decide) (by decide)]; exact b.2.2 k hk⟩, RMG_fr c hO (by decide) (by decide), RML_fr d hO (by decide) (by decide), RMR_fr r hO (by decide) (by decide), hK.1, by rw [hO.2 68 (by decide)]; exact y⟩, hK.2⟩
theorem mdA_20 {P : List (List Tk × Nat)} {R : List Rw} {n : Nat} (h : n ≤ 20) (f v w k : Int32) : (mdA P R n f v w k).2 ≤ 20 := by
  unfold mdA
  by_cases h1 : rfA P R f v w (decide (0 ≤ k.toInt ∧ k.toInt ≤ 2)) ≠ 0
  · rw [if_pos h1]; exact h
  · rw [if_neg h1]
    by_cases h2 : 20 ≤ n
    · rw [if_pos h2]; exact h
    · rw [if_neg h2]; dsimp only; omega
theorem sq_mend {S : SS} (hS : ivS S) (f v w k : Int32) : StpQ mtX11_mend mtX12_mend 4 [.inl f, .inl v, .inl w, .inl k] S := by
  obtain ⟨F, p, P, LS, R, q, md⟩ := S
  obtain ⟨iF, ip, iP, iL, iq, im⟩ := hS
  have i20 := mdA_20 (P := P) (R := R) (n := md) im f v w k
  refine ⟨(mdA P R md f v w k).1, (F, p, P, LS, R, q, (mdA P R md f v w k).2), ⟨iF, ip, iP, iL, iq, i20⟩, fun A B hC hM => ⟨6, _, by decide, m_mendC iP hC.1.2.2.1 hC.1.2.2.2.2.1 hC.1.2.2.2.2.2.2 im f v w k, ?_⟩, fun A B hC hM => ⟨6, _, by decide, m_mendM iP hM.1.2.2.1 hM.1.2.2.2.2.1 hM.1.2.2.2.2.2.2 im f v w k, ?_⟩⟩
  · rintro r h' ⟨A1, B1, rfl, rfl, hF, hJ, h14⟩
    have hg : ∀ g, g ≠ 0 → g ∉ [10, 26, 27] → A1 g = A g := hF.1
    obtain ⟨⟨a, b, c, d, r, x, y⟩, k⟩ := hC
    refine ⟨A1, B1, rfl, rfl, ⟨⟨fun f hf => by rw [hg 2 (by decide) (by decide)]; exact a f hf, ⟨by rw [hg 8 (by decide) (by decide)]; exact b.1, b.2.1, fun k hk => by rw [hg 9 (by decide) (by decide)]; exact b.2.2 k hk⟩, RS_fr c (by rw [hg 4 (by decide) (by decide)]) (by rw [hg 5 (by decide) (by decide)]) (by rw [hg 6 (by decide) (by decide)]), ⟨by rw [hg 1 (by decide) (by decide)]; exact d.1, fun j hj => RS_fr (d.2 j hj) (by rw [hg 4 (by decide) (by decide)]) (by rw [hg 5 (by decide) (by decide)]) (by rw [hg 6 (by decide) (by decide)])⟩, RCR_fr r (by rw [hg 18 (by decide) (by decide)]) (hg 20 (by decide) (by decide)) (hg 21 (by decide) (by decide)) (fun i _ => by rw [hg 25 (by decide) (by decide)]), by rw [hF.2 13 (by decide)]; exact x, h14⟩, ?_⟩, RMs_hi hM (fun g h => hg g (by omega) (fun z => by simp only [List.mem_cons, List.not_mem_nil, or_false] at z; omega)) (hJ 31 (by decide))⟩
    unfold RKc
    rw [hg 15 (by decide) (by decide), hJ 15 (by decide)]
    exact k
  · rintro r h' ⟨A1, B1, rfl, rfl, hO, hJ, hG, h68⟩
    obtain ⟨⟨a, b, c, d, r, x, y⟩, k1, k2, k3, k4, k5⟩ := hM
    exact ⟨A1, B1, rfl, rfl, RCs_lo hC (lo31 hO (by decide)) (hJ 15 (by decide)), ⟨RMF_fr a hO (by decide), ⟨by rw [hO.2 5 (by decide)]; exact b.1, b.2.1, fun k hk => by rw [hO.1 36 (by decide) (by decide)]; exact b.2.2 k hk⟩, hG, RML_fr d hO (by decide) (by decide), RMR_fr r hO (by decide) (by decide), by rw [hO.2 45 (by decide)]; exact x, h68⟩, by rw [hO.2 46 (by decide)]; exact k1, by rw [hO.2 47 (by decide)]; exact k2, by rw [hO.2 48 (by decide)]; exact k3, fun h => by rw [hO.2 49 (by decide)]; exact k4 h, fun q h => by rw [hO.2 49 (by decide), hJ 31 (by decide)]; exact k5 q h⟩
