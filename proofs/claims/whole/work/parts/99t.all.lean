/-- FIELDS, page, program, laws, rows, SOUGHT, MENDs -/
abbrev SS : Type := FS × List Nat × List (List Tk × Nat) × List (List Tk) × List Rw × SQ × Nat
def ivS (S : SS) : Prop := WFF S.1 ∧ WFP S.2.1 ∧ okG S.2.2.1 ∧ okL S.2.2.2.1 ∧ S.2.2.2.2.2.1.1 ≤ 40 ∧ S.2.2.2.2.2.2 ≤ 20
def RCs (A : FI) (B : FJ) (S : SS) : Prop := ClR A S.1 S.2.1 S.2.2.1 S.2.2.2.1 S.2.2.2.2.1 S.2.2.2.2.2.1.1 S.2.2.2.2.2.2 ∧ RKc A B S.2.2.2.2.2.1.2.1 S.2.2.2.2.2.1.2.2
def RMs (A : FI) (B : FJ) (S : SS) : Prop := MlR A S.1 S.2.1 S.2.2.1 S.2.2.2.1 S.2.2.2.2.1 S.2.2.2.2.2.1.1 S.2.2.2.2.2.2 ∧ RKm A B S.2.2.2.2.2.1.2.1 S.2.2.2.2.2.1.2.2
theorem RMs_hi {A A' : FI} {B B' : FJ} {S : SS} (h : RMs A B S) (e : ∀ g, 31 ≤ g → A' g = A g) (eB : B' 31 = B 31) : RMs A' B' S := by
  obtain ⟨⟨a, b, c, d, r, x, y⟩, k1, k2, k3, k4, k5⟩ := h
  obtain ⟨c1, c2, c3, c4, c5, c6, c7⟩ := c
  refine ⟨⟨fun f hf => by rw [e 32 (by decide), e 33 (by decide), e 34 (by decide), e 35 (by decide)]; exact a f hf, ⟨by rw [e 31 (by decide)]; exact b.1, b.2.1, fun k hk => by rw [e 36 (by decide)]; exact b.2.2 k hk⟩, ⟨by rw [e 31 (by decide)]; exact c1, by rw [e 42 (by decide)]; exact c2, by rw [e 43 (by decide)]; exact c3, by rw [e 31 (by decide)]; exact c4, by rw [e 44 (by decide)]; exact c5, by rw [e 45 (by decide)]; exact c6, by rw [e 31 (by decide)]; exact c7⟩, ⟨by rw [e 31 (by decide)]; exact d.1, fun j hj => by rw [e 46 (by decide), e 47 (by decide), e 48 (by decide)]; exact d.2 j hj⟩, ⟨by rw [e 31 (by decide)]; exact r.1, r.2.1, fun i hi => by rw [e 60 (by decide), e 61 (by decide)]; exact r.2.2 i hi⟩, by rw [e 31 (by decide)]; exact x, by rw [e 31 (by decide)]; exact y⟩, by rw [e 31 (by decide)]; exact k1, by rw [e 31 (by decide)]; exact k2, by rw [e 31 (by decide)]; exact k3, fun h => by rw [e 31 (by decide)]; exact k4 h, fun q h => by rw [e 31 (by decide), eB]; exact k5 q h⟩
theorem RCs_k {A A' : FI} {B B' : FJ} {F : FS} {p : List Nat} {P : List (List Tk × Nat)} {LS : List (List Tk)} {R : List Rw} {q : SQ} {md : Nat} (h : RCs A B (F, p, P, LS, R, q, md)) (e : ∀ g ∈ [1, 2, 4, 5, 6, 9, 20, 21], A' g = A g) (e8 : A' 8 0 1 = A 8 0 1) (e18 : A' 18 0 3 = A 18 0 3) (e25 : ∀ i, i < 24 → A' 25 i = A 25 i) (e13 : A' 0 0 13 = A 0 0 13) (e14 : A' 0 0 14 = A 0 0 14) (e15 : A' 15 = A 15) (b15 : B' 15 = B 15) : RCs A' B' (F, p, P, LS, R, q, md) := by
  obtain ⟨⟨a, b, c, d, r, x, y⟩, k⟩ := h
  refine ⟨⟨fun f hf => by rw [e 2 (by decide)]; exact a f hf, ⟨by rw [e8]; exact b.1, b.2.1, fun k hk => by rw [e 9 (by decide)]; exact b.2.2 k hk⟩, RS_fr c (by rw [e 4 (by decide)]) (by rw [e 5 (by decide)]) (by rw [e 6 (by decide)]), ⟨by rw [e 1 (by decide)]; exact d.1, fun j hj => RS_fr (d.2 j hj) (by rw [e 4 (by decide)]) (by rw [e 5 (by decide)]) (by rw [e 6 (by decide)])⟩, RCR_fr r e18 (e 20 (by decide)) (e 21 (by decide)) e25, by rw [e13]; exact x, by rw [e14]; exact y⟩, ?_⟩
  unfold RKc
  rw [e15, b15]
  exact k
theorem RCs_lo {A A' : FI} {B B' : FJ} {S : SS} (h : RCs A B S) (e : ∀ g, g ≤ 30 → A' g = A g) (eB : B' 15 = B 15) : RCs A' B' S := by
  obtain ⟨F, p, P, LS, R, q, md⟩ := S
  exact RCs_k h (fun g hg => e g (by simp only [List.mem_cons, List.not_mem_nil, or_false] at hg; omega)) (by rw [e 8 (by decide)]) (by rw [e 18 (by decide)]) (fun i _ => by rw [e 25 (by decide)]) (by rw [e 0 (by decide)]) (by rw [e 0 (by decide)]) (e 15 (by decide)) eB
theorem lo31 {A A' : FI} {gs ss : List Nat} (hF : FmO 31 gs ss A A') (hg : ∀ x ∈ gs, 31 ≤ x) : ∀ g, g ≤ 30 → A' g = A g := fun g h => hF.1 g (by omega) (fun z => by have := hg g z; omega)
/-- what the reference keeps -/
theorem RMs_k {A A' : FI} {B B' : FJ} {S : SS} {gs ss : List Nat} (h : RMs A B S) (hF : FmO 31 gs ss A A') (h1 : ∀ x ∈ [32, 33, 34, 35, 36, 42, 43, 44, 45, 46, 47, 48, 60, 61], x ∉ gs) (h2 : ∀ x ∈ [5, 21, 24, 27, 28, 45, 46, 47, 48, 49, 52, 68], x ∉ ss) (b50 : B' 31 0 50 = B 31 0 50) (b51 : B' 31 0 51 = B 31 0 51) : RMs A' B' S := by
  obtain ⟨⟨a, b, c, d, r, x, y⟩, k1, k2, k3, k4, k5⟩ := h
  refine ⟨⟨RMF_fr a hF ⟨h1 32 (by decide), h1 33 (by decide), h1 34 (by decide), h1 35 (by decide)⟩, ⟨by rw [hF.2 5 (h2 5 (by decide))]; exact b.1, b.2.1, fun k hk => by rw [hF.1 36 (by decide) (h1 36 (by decide))]; exact b.2.2 k hk⟩, RMG_fr c hF ⟨h1 42 (by decide), h1 43 (by decide), h1 44 (by decide), h1 45 (by decide)⟩ ⟨h2 21 (by decide), h2 24 (by decide), h2 27 (by decide)⟩, RML_fr d hF ⟨h1 46 (by decide), h1 47 (by decide), h1 48 (by decide)⟩ (h2 28 (by decide)), RMR_fr r hF ⟨h1 60 (by decide), h1 61 (by decide)⟩ (h2 52 (by decide)), by rw [hF.2 45 (h2 45 (by decide))]; exact x, by rw [hF.2 68 (h2 68 (by decide))]; exact y⟩, by rw [hF.2 46 (h2 46 (by decide))]; exact k1, by rw [hF.2 47 (h2 47 (by decide))]; exact k2, by rw [hF.2 48 (h2 48 (by decide))]; exact k3, fun h => by rw [hF.2 49 (h2 49 (by decide))]; exact k4 h, fun q h => by rw [hF.2 49 (h2 49 (by decide)), b50, b51]; exact k5 q h⟩
/-- a call on both sides -/
def StpQ (mt1 mt2 : MI) (n : Nat) (As : List AV) (S : SS) : Prop := ∃ (a : Int32) (S' : SS), ivS S' ∧ (∀ A B, RCs A B S → RMs A B S → ∃ d Q1, d ≤ 14 ∧ MV d n mt1 (.inr (.inr (some (0, 0))) :: As) (hp A B) Q1 ∧ ∀ r h', Q1 r h' → ∃ A1 B1, h' = hp A1 B1 ∧ r = some (.inl a) ∧ RCs A1 B1 S' ∧ RMs A1 B1 S) ∧ (∀ A B, RCs A B S' → RMs A B S → ∃ d Q2, d ≤ 14 ∧ MV d n mt2 (.inr (.inr (some (31, 0))) :: As) (hp A B) Q2 ∧ ∀ r h', Q2 r h' → ∃ A2 B2, h' = hp A2 B2 ∧ r = some (.inl a) ∧ RCs A2 B2 S' ∧ RMs A2 B2 S')
def StpL (mt1 mt2 : MI) (n : Nat) (As : List AV) (S : SS) : Prop := ∃ (a : Int64) (S' : SS), ivS S' ∧ (∀ A B, RCs A B S → RMs A B S → ∃ d Q1, d ≤ 14 ∧ MV d n mt1 (.inr (.inr (some (0, 0))) :: As) (hp A B) Q1 ∧ ∀ r h', Q1 r h' → ∃ A1 B1, h' = hp A1 B1 ∧ r = some (.inr (.inl a)) ∧ RCs A1 B1 S' ∧ RMs A1 B1 S) ∧ (∀ A B, RCs A B S' → RMs A B S → ∃ d Q2, d ≤ 14 ∧ MV d n mt2 (.inr (.inr (some (31, 0))) :: As) (hp A B) Q2 ∧ ∀ r h', Q2 r h' → ∃ A2 B2, h' = hp A2 B2 ∧ r = some (.inr (.inl a)) ∧ RCs A2 B2 S' ∧ RMs A2 B2 S')
theorem sq_field {S : SS} (hS : ivS S) (f w v : Int32) : StpQ mtX11_field mtX12_field 3 [.inl f, .inl w, .inl v] S := by
  obtain ⟨F, p, P, LS, R, q, md⟩ := S
  obtain ⟨iF, ip, iP, iL, iq, im⟩ := hS
  refine ⟨(fieldS F f w v).1, ((fieldS F f w v).2, p, P, LS, R, q, md), ⟨fieldS_wf iF f w v, ip, iP, iL, iq, im⟩, fun A B hC hM => ⟨5, _, by decide, m_fieldC hC.1.1 iF f w v, ?_⟩, fun A B hC hM => ⟨2, _, by decide, m_fieldM hM.1.1 iF f w v, ?_⟩⟩
  · rintro r h' ⟨A1, rfl, rfl, h1, hF⟩
    have hg : ∀ g, g ≠ 2 → A1 g = A g := fun g hg => hF g (by simpa using hg)
    obtain ⟨⟨-, b, c, d, r, x, y⟩, k⟩ := hC
    refine ⟨A1, B, rfl, rfl, ⟨⟨h1, ⟨by rw [hg 8 (by decide)]; exact b.1, b.2.1, fun k hk => by rw [hg 9 (by decide)]; exact b.2.2 k hk⟩, RS_fr c (by rw [hg 4 (by decide)]) (by rw [hg 5 (by decide)]) (by rw [hg 6 (by decide)]), ⟨by rw [hg 1 (by decide)]; exact d.1, fun j hj => RS_fr (d.2 j hj) (by rw [hg 4 (by decide)]) (by rw [hg 5 (by decide)]) (by rw [hg 6 (by decide)])⟩, RCR_fr r (by rw [hg 18 (by decide)]) (hg 20 (by decide)) (hg 21 (by decide)) (fun i _ => by rw [hg 25 (by decide)]), by rw [hg 0 (by decide)]; exact x, by rw [hg 0 (by decide)]; exact y⟩, ?_⟩, RMs_hi hM (fun g h => hg g (by omega)) rfl⟩
    unfold RKc
    rw [hg 15 (by decide)]
    exact k
  · rintro r h' ⟨A1, rfl, rfl, h1, hF⟩
    have hg : ∀ g, g ≠ 32 → g ≠ 33 → g ≠ 34 → g ≠ 35 → A1 g = A g := fun g h1 h2 h3 h4 => hF g (by simp [h1, h2, h3, h4])
    have hO : FmO 31 [32, 33, 34, 35] [] A A1 := ⟨fun g _ hg' => hF g hg', fun s _ => by rw [hg 31 (by decide) (by decide) (by decide) (by decide)]⟩
    obtain ⟨⟨-, b, c, d, r, x, y⟩, k⟩ := hM
    refine ⟨A1, B, rfl, rfl, RCs_lo hC (lo31 hO (by decide)) rfl, ⟨h1, ⟨by rw [hO.2 5 (by simp)]; exact b.1, b.2.1, fun k hk => by rw [hO.1 36 (by decide) (by decide)]; exact b.2.2 k hk⟩, RMG_fr c hO (by decide) (by decide), RML_fr d hO (by decide) (by decide), RMR_fr r hO (by decide) (by decide), by rw [hO.2 45 (by simp)]; exact x, by rw [hO.2 68 (by simp)]; exact y⟩, ?_⟩
    unfold RKm
    rw [hg 31 (by decide) (by decide) (by decide) (by decide)]
    exact k
theorem sq_as {S : SS} (hS : ivS S) (f k : Int32) : StpQ mtX11_as mtX12_as 2 [.inl f, .inl k] S := by
  obtain ⟨F, p, P, LS, R, q, md⟩ := S
  refine ⟨(asS F f k), (F, p, P, LS, R, q, md), hS, fun A B hC hM => ⟨3, _, by decide, m_asC hC.1.1 hS.1 f k, ?_⟩, fun A B hC hM => ⟨2, _, by decide, m_asM hM.1.1 hS.1 f k, ?_⟩⟩
  · rintro r h' ⟨rfl, rfl⟩; exact ⟨A, B, rfl, rfl, hC, hM⟩
  · rintro r h' ⟨rfl, rfl⟩; exact ⟨A, B, rfl, rfl, hC, hM⟩
theorem sq_asks {S : SS} (hS : ivS S) (f k : Int32) : StpQ mtX11_asks mtX12_asks 2 [.inl f, .inl k] S := by
  obtain ⟨F, p, P, LS, R, q, md⟩ := S
  refine ⟨(asksS F f k), (F, p, P, LS, R, q, md), hS, fun A B hC hM => ⟨4, _, by decide, m_asksC hC.1.1 hS.1 f k, ?_⟩, fun A B hC hM => ⟨2, _, by decide, m_asksM hM.1.1 hS.1 f k, ?_⟩⟩
  · rintro r h' ⟨rfl, rfl⟩; exact ⟨A, B, rfl, rfl, hC, hM⟩
  · rintro r h' ⟨rfl, rfl⟩; exact ⟨A, B, rfl, rfl, hC, hM⟩
theorem bts_ok {n : Nat} : ∀ (k m : Nat), cs8 n k = some m → ∀ x ∈ bts n m, 1 ≤ x ∧ x ≤ 126
  | 0, m, h => by cases h; intro x hx; cases hx
  | k + 1, m, h => by
    rw [cs8] at h
    cases hc : cs8 n k with
    | none => rw [hc] at h; cases h
    | some m' =>
      rw [hc] at h
      have h' : (if 126 < bt8 n k then none else if m' < k ∧ bt8 n k ≠ 0 then none else some (m' + (if bt8 n k ≠ 0 then 1 else 0))) = some m := h
      have ih := bts_ok k m' hc
      have hle := cs8_le hc
      by_cases h1 : 126 < bt8 n k
      · rw [if_pos h1] at h'; cases h'
      · rw [if_neg h1] at h'
        by_cases h2 : m' < k ∧ bt8 n k ≠ 0
        · rw [if_pos h2] at h'; cases h'
        · rw [if_neg h2] at h'
          injection h' with h'
          by_cases h3 : bt8 n k ≠ 0
          · rw [if_pos h3] at h'
            have hk : m' = k := by omega
            subst hk
            rw [← h', bts_s]
            intro x hx
            rcases List.mem_append.mp hx with hx | hx
            · exact ih x hx
            · have : x = bt8 n m' := by simpa using hx
              omega
          · rw [if_neg h3, Nat.add_zero] at h'
            rw [← h']; exact ih
theorem lett_ok {p : List Nat} (h : WFP p) (n : Nat) : WFP (lettS p n).2 := by
  unfold lettS
  cases hc : cs8 n 8 with
  | none => exact h
  | some m =>
    dsimp only
    by_cases h8 : 80 < p.length + m
    · rw [if_pos h8]; exact h
    · rw [if_neg h8]
      intro x hx
      rcases List.mem_append.mp hx with hx | hx
      · exact h x hx
      · exact bts_ok 8 m hc x hx
theorem sq_letters {S : SS} (hS : ivS S) (x : Int64) : StpQ mtX11_letters mtX12_letters 1 [.inr (.inl x)] S := by
  obtain ⟨F, p, P, LS, R, q, md⟩ := S
  obtain ⟨iF, ip, iP, iL, iq, im⟩ := hS
  obtain ⟨n, hn, rfl⟩ := wb_of x
  refine ⟨(lettS p n).1, (F, (lettS p n).2, P, LS, R, q, md), ⟨iF, lett_ok ip n, iP, iL, iq, im⟩, fun A B hC hM => ⟨2, _, by decide, m_lettersC hC.1.2.1 n hn, ?_⟩, fun A B hC hM => ⟨0, _, by decide, m_lettersM hM.1.2.1 n hn, ?_⟩⟩
  · rintro r h' ⟨A1, rfl, rfl, h1, hF⟩
    have hg : ∀ g, g ≠ 8 → g ≠ 9 → A1 g = A g := fun g h1 h2 => hF g (by simp [h1, h2])
    obtain ⟨⟨a, -, c, d, r, x, y⟩, k⟩ := hC
    refine ⟨A1, B, rfl, rfl, ⟨⟨fun f hf => by rw [hg 2 (by decide) (by decide)]; exact a f hf, h1, RS_fr c (by rw [hg 4 (by decide) (by decide)]) (by rw [hg 5 (by decide) (by decide)]) (by rw [hg 6 (by decide) (by decide)]), ⟨by rw [hg 1 (by decide) (by decide)]; exact d.1, fun j hj => RS_fr (d.2 j hj) (by rw [hg 4 (by decide) (by decide)]) (by rw [hg 5 (by decide) (by decide)]) (by rw [hg 6 (by decide) (by decide)])⟩, RCR_fr r (by rw [hg 18 (by decide) (by decide)]) (hg 20 (by decide) (by decide)) (hg 21 (by decide) (by decide)) (fun i _ => by rw [hg 25 (by decide) (by decide)]), by rw [hg 0 (by decide) (by decide)]; exact x, by rw [hg 0 (by decide) (by decide)]; exact y⟩, ?_⟩, RMs_hi hM (fun g h => hg g (by omega) (by omega)) rfl⟩
    unfold RKc
    rw [hg 15 (by decide) (by decide)]
    exact k
  · rintro r h' ⟨A1, rfl, rfl, h1, hF⟩
    have hO : FmO 31 [36] [5] A A1 := hF
    obtain ⟨⟨a, -, c, d, r, x, y⟩, k1, k2, k3, k4, k5⟩ := hM
    exact ⟨A1, B, rfl, rfl, RCs_lo hC (lo31 hO (by decide)) rfl, ⟨RMF_fr a hO (by decide), h1, RMG_fr c hO (by decide) (by decide), RML_fr d hO (by decide) (by decide), RMR_fr r hO (by decide) (by decide), by rw [hO.2 45 (by decide)]; exact x, by rw [hO.2 68 (by decide)]; exact y⟩, by rw [hO.2 46 (by decide)]; exact k1, by rw [hO.2 47 (by decide)]; exact k2, by rw [hO.2 48 (by decide)]; exact k3, fun h => by rw [hO.2 49 (by decide)]; exact k4 h, fun q h => by rw [hO.2 49 (by decide)]; exact k5 q h⟩
