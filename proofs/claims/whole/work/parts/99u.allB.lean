theorem sq_blank {S : SS} (hS : ivS S) : StpQ mtX11_blank mtX12_blank 0 [] S := by
  obtain ⟨F, p, P, LS, R, q, md⟩ := S
  obtain ⟨iF, ip, iP, iL, iq, im⟩ := hS
  refine ⟨(nI p.length), (F, [], P, LS, R, q, md), ⟨iF, (fun x hx => by cases hx), iP, iL, iq, im⟩, fun A B hC hM => ⟨1, _, by decide, m_blankC hC.1.2.1, ?_⟩, fun A B hC hM => ⟨0, _, by decide, m_blankM hM.1.2.1, ?_⟩⟩
  · rintro r h' ⟨A1, rfl, rfl, h1, hF⟩
    have hg : ∀ g, g ≠ 8 → g ≠ 9 → A1 g = A g := fun g h1 h2 => hF g (by simp [h1, h2])
    obtain ⟨⟨a, -, c, d, r, x, y⟩, k⟩ := hC
    refine ⟨A1, B, rfl, rfl, ⟨⟨fun f hf => by rw [hg 2 (by decide) (by decide)]; exact a f hf, h1, RS_fr c (by rw [hg 4 (by decide) (by decide)]) (by rw [hg 5 (by decide) (by decide)]) (by rw [hg 6 (by decide) (by decide)]), ⟨by rw [hg 1 (by decide) (by decide)]; exact d.1, fun j hj => RS_fr (d.2 j hj) (by rw [hg 4 (by decide) (by decide)]) (by rw [hg 5 (by decide) (by decide)]) (by rw [hg 6 (by decide) (by decide)])⟩, RCR_fr r (by rw [hg 18 (by decide) (by decide)]) (hg 20 (by decide) (by decide)) (hg 21 (by decide) (by decide)) (fun i _ => by rw [hg 25 (by decide) (by decide)]), by rw [hg 0 (by decide) (by decide)]; exact x, by rw [hg 0 (by decide) (by decide)]; exact y⟩, ?_⟩, RMs_hi hM (fun g h => hg g (by omega) (by omega)) rfl⟩
    unfold RKc
    rw [hg 15 (by decide) (by decide)]
    exact k
  · rintro r h' ⟨rfl, rfl⟩
    have hO : FmO 31 [] [5] A (up3 A 31 0 5 0) := (by first | exact FmO_rf | (repeat' (first | exact FmO_rf | (with_reducible assumption) | (refine FmO_up ?_ (by decide)) | (refine FmO_ug ?_ (by decide) (by decide)))))
    obtain ⟨⟨a, -, c, d, r, x, y⟩, k1, k2, k3, k4, k5⟩ := hM
    exact ⟨_, B, rfl, rfl, RCs_lo hC (lo31 hO (by decide)) rfl, ⟨RMF_fr a hO (by decide), ⟨by rw [up3_self]; rfl, Nat.zero_le _, fun k hk => absurd hk (Nat.not_lt_zero _)⟩, RMG_fr c hO (by decide) (by decide), RML_fr d hO (by decide) (by decide), RMR_fr r hO (by decide) (by decide), by rw [hO.2 45 (by decide)]; exact x, by rw [hO.2 68 (by decide)]; exact y⟩, by rw [hO.2 46 (by decide)]; exact k1, by rw [hO.2 47 (by decide)]; exact k2, by rw [hO.2 48 (by decide)]; exact k3, fun h => by rw [hO.2 49 (by decide)]; exact k4 h, fun q h => by rw [hO.2 49 (by decide)]; exact k5 q h⟩
theorem sq_fault {S : SS} (hS : ivS S) (x : Int32) : StpQ mtX11_fault mtX12_fault 1 [.inl x] S := by
  obtain ⟨F, p, P, LS, R, q, md⟩ := S
  obtain ⟨iF, ip, iP, iL, iq, im⟩ := hS
  refine ⟨(faultS p x), (F, p, P, LS, R, q, md), ⟨iF, ip, iP, iL, iq, im⟩, fun A B hC hM => ⟨5, _, by decide, m_faultC p x (WFP_255 ip) hC.1.2.1, ?_⟩, fun A B hC hM => ⟨7, _, by decide, m_faultM p x (WFP_255 ip) hM.1.2.1, ?_⟩⟩
  · rintro r h' ⟨A1, rfl, hF, rfl⟩
    have hg : ∀ g, g ≠ 8 → A1 g = A g := fun g hg => hF.1 g hg (by simp)
    exact ⟨A1, B, rfl, rfl, RCs_k hC (fun g hgm => hg g (by simp only [List.mem_cons, List.not_mem_nil, or_false] at hgm; omega)) (hF.2 1 (by decide)) (by rw [hg 18 (by decide)]) (fun i _ => by rw [hg 25 (by decide)]) (by rw [hg 0 (by decide)]) (by rw [hg 0 (by decide)]) (hg 15 (by decide)) rfl, RMs_hi hM (fun g h => hg g (by omega)) rfl⟩
  · rintro r h' ⟨A1, rfl, hF, rfl⟩
    exact ⟨A1, B, rfl, rfl, RCs_lo hC (lo31 hF (by decide)) rfl, RMs_k hM hF (by decide) (by decide) rfl rfl⟩
theorem sq_run {S : SS} (hS : ivS S) (x : Int64) (w : Int32) : StpQ mtX11_run mtX12_run 2 [.inr (.inl x), .inl w] S := by
  obtain ⟨F, p, P, LS, R, q, md⟩ := S
  obtain ⟨iF, ip, iP, iL, iq, im⟩ := hS
  refine ⟨(runA F P LS x w), (F, p, P, LS, R, q, md), ⟨iF, ip, iP, iL, iq, im⟩, fun A B hC hM => ⟨5, _, by decide, m_runC x w iP iL iF hC.1.2.2.1 hC.1.2.2.2.1 hC.1.1, ?_⟩, fun A B hC hM => ⟨4, _, by decide, m_runM x w iP iL iF hM.1.2.2.1 hM.1.2.2.2.1 hM.1.1, ?_⟩⟩
  · rintro r h' ⟨A1, B1, rfl, rfl, hF, hJ⟩
    exact ⟨A1, B1, rfl, rfl, RCs_k hC (fun g hgm => hF.1 g (by simp only [List.mem_cons, List.not_mem_nil, or_false] at hgm; omega) (by simp only [List.mem_cons, List.not_mem_nil, or_false] at hgm; omega)) (by rw [hF.1 8 (by decide) (by decide)]) (by rw [hF.1 18 (by decide) (by decide)]) (fun i hi => hF.2 i (by omega) (by omega)) (by rw [hF.1 0 (by decide) (by decide)]) (by rw [hF.1 0 (by decide) (by decide)]) (hF.1 15 (by decide) (by decide)) (hJ 15 (by decide)), RMs_hi hM (fun g h => hF.1 g (by omega) (by omega)) (hJ 31 (by decide))⟩
  · rintro r h' ⟨A1, B1, rfl, rfl, hF, hJ⟩
    exact ⟨A1, B1, rfl, rfl, RCs_lo hC (lo31 hF (by decide)) (hJ 15 (by decide)), RMs_k hM hF (by decide) (by decide) (by rw [hJ 31 (by decide)]) (by rw [hJ 31 (by decide)])⟩
theorem sq_ends {S : SS} (hS : ivS S) (x y : Int64) : StpQ mtX11_ends mtX12_ends 2 [.inr (.inl x), .inr (.inl y)] S := by
  obtain ⟨F, p, P, LS, R, q, md⟩ := S
  obtain ⟨iF, ip, iP, iL, iq, im⟩ := hS
  refine ⟨(edA P x y), (F, p, P, LS, R, q, md), ⟨iF, ip, iP, iL, iq, im⟩, fun A B hC hM => ⟨5, _, by decide, m_endsC x y iP hC.1.2.2.1, ?_⟩, fun A B hC hM => ⟨3, _, by decide, m_endsM x y iP hM.1.2.2.1, ?_⟩⟩
  · rintro r h' ⟨A1, B1, rfl, rfl, hF, hJ⟩
    have hg : ∀ g, g ≠ 12 → g ≠ 25 → g ≠ 30 → A1 g = A g := hF.1
    exact ⟨A1, B1, rfl, rfl, RCs_k hC (fun g hgm => by simp only [List.mem_cons, List.not_mem_nil, or_false] at hgm; exact hg g (by omega) (by omega) (by omega)) (by rw [hg 8 (by decide) (by decide) (by decide)]) (by rw [hg 18 (by decide) (by decide) (by decide)]) (fun i hi => hF.2 i (by omega) (by omega)) (by rw [hg 0 (by decide) (by decide) (by decide)]) (by rw [hg 0 (by decide) (by decide) (by decide)]) (hg 15 (by decide) (by decide) (by decide)) (hJ 15 (by decide)), RMs_hi hM (fun g h => hg g (by omega) (by omega) (by omega)) (hJ 31 (by decide))⟩
  · rintro r h' ⟨A1, B1, rfl, rfl, hF, hJ⟩
    exact ⟨A1, B1, rfl, rfl, RCs_lo hC (lo31 hF (by decide)) (hJ 15 (by decide)), RMs_k hM hF (by decide) (by decide) (by rw [hJ 31 (by decide)]) (by rw [hJ 31 (by decide)])⟩
theorem sq_end {S : SS} (hS : ivS S) (x : Int32) : StpQ mtX11_end mtX12_end 1 [.inl x] S := by
  obtain ⟨F, p, P, LS, R, q, md⟩ := S
  obtain ⟨iF, ip, iP, iL, iq, im⟩ := hS
  refine ⟨(endA P R x), (F, p, P, LS, R, q, md), ⟨iF, ip, iP, iL, iq, im⟩, fun A B hC hM => ⟨2, _, by decide, m_endC iP hC.1.2.2.1 hC.1.2.2.2.2.1 x, ?_⟩, fun A B hC hM => ⟨4, _, by decide, m_endM iP hM.1.2.2.1 hM.1.2.2.2.2.1 x, ?_⟩⟩
  · rintro r h' ⟨rfl, rfl⟩; exact ⟨A, B, rfl, rfl, hC, hM⟩
  · rintro r h' ⟨A1, B1, rfl, rfl, hF, hJ⟩
    exact ⟨A1, B1, rfl, rfl, RCs_lo hC (lo31 hF (by decide)) (hJ 15 (by decide)), RMs_k hM hF (by decide) (by decide) (by rw [hJ 31 (by decide)]) (by rw [hJ 31 (by decide)])⟩
theorem sq_group {S : SS} (hS : ivS S) (f v k : Int32) : StpQ mtX11_group mtX12_group 3 [.inl f, .inl v, .inl k] S := by
  obtain ⟨F, p, P, LS, R, q, md⟩ := S
  obtain ⟨iF, ip, iP, iL, iq, im⟩ := hS
  refine ⟨(grA P R f v k), (F, p, P, LS, R, q, md), ⟨iF, ip, iP, iL, iq, im⟩, fun A B hC hM => ⟨4, _, by decide, m_groupC iP hC.1.2.2.1 hC.1.2.2.2.2.1 f v k, ?_⟩, fun A B hC hM => ⟨5, _, by decide, m_groupM iP f v k hM.1.2.2.1 hM.1.2.2.2.2.1, ?_⟩⟩
  · rintro r h' ⟨rfl, rfl⟩; exact ⟨A, B, rfl, rfl, hC, hM⟩
  · rintro r h' ⟨A1, B1, rfl, rfl, hF, hJ⟩
    exact ⟨A1, B1, rfl, rfl, RCs_lo hC (lo31 hF (by decide)) (hJ 15 (by decide)), RMs_k hM hF (by decide) (by decide) (by rw [hJ 31 (by decide)]) (by rw [hJ 31 (by decide)])⟩
theorem sq_gap {S : SS} (hS : ivS S) (f v w k : Int32) : StpQ mtX11_gap mtX12_gap 4 [.inl f, .inl v, .inl w, .inl k] S := by
  obtain ⟨F, p, P, LS, R, q, md⟩ := S
  obtain ⟨iF, ip, iP, iL, iq, im⟩ := hS
  refine ⟨(gapA P R f v w k), (F, p, P, LS, R, q, md), ⟨iF, ip, iP, iL, iq, im⟩, fun A B hC hM => ⟨6, _, by decide, m_gapC iP hC.1.2.2.1 hC.1.2.2.2.2.1 f v w k, ?_⟩, fun A B hC hM => ⟨6, _, by decide, m_gapM iP f v w k hM.1.2.2.1 hM.1.2.2.2.2.1, ?_⟩⟩
  · rintro r h' ⟨rfl, rfl⟩; exact ⟨A, B, rfl, rfl, hC, hM⟩
  · rintro r h' ⟨A1, B1, rfl, rfl, hF, hJ⟩
    exact ⟨A1, B1, rfl, rfl, RCs_lo hC (lo31 hF (by decide)) (hJ 15 (by decide)), RMs_k hM hF (by decide) (by decide) (by rw [hJ 31 (by decide)]) (by rw [hJ 31 (by decide)])⟩
theorem sq_odds {S : SS} (hS : ivS S) (f v w k : Int32) : StpQ mtX11_odds mtX12_odds 4 [.inl f, .inl v, .inl w, .inl k] S := by
  obtain ⟨F, p, P, LS, R, q, md⟩ := S
  obtain ⟨iF, ip, iP, iL, iq, im⟩ := hS
  refine ⟨(oddsA P R f v w k), (F, p, P, LS, R, q, md), ⟨iF, ip, iP, iL, iq, im⟩, fun A B hC hM => ⟨6, _, by decide, m_oddsC iP hC.1.2.2.1 hC.1.2.2.2.2.1 f v w k, ?_⟩, fun A B hC hM => ⟨6, _, by decide, m_oddsM iP f v w k hM.1.2.2.1 hM.1.2.2.2.2.1, ?_⟩⟩
  · rintro r h' ⟨rfl, rfl⟩; exact ⟨A, B, rfl, rfl, hC, hM⟩
  · rintro r h' ⟨A1, B1, rfl, rfl, hF, hJ⟩
    exact ⟨A1, B1, rfl, rfl, RCs_lo hC (lo31 hF (by decide)) (hJ 15 (by decide)), RMs_k hM hF (by decide) (by decide) (by rw [hJ 31 (by decide)]) (by rw [hJ 31 (by decide)])⟩
theorem sq_where {S : SS} (hS : ivS S) (x : Int32) : StpQ mtX11_where mtX12_where 1 [.inl x] S := by
  obtain ⟨F, p, P, LS, R, q, md⟩ := S
  obtain ⟨iF, ip, iP, iL, iq, im⟩ := hS
  refine ⟨(whA F P R x), (F, p, P, LS, R, q, md), ⟨iF, ip, iP, iL, iq, im⟩, fun A B hC hM => ⟨5, _, by decide, m_whereC iP iF hC.1.2.2.1 hC.1.2.2.2.2.1 hC.1.1 x, ?_⟩, fun A B hC hM => ⟨6, _, by decide, m_whereM iP iF hM.1.2.2.1 hM.1.2.2.2.2.1 hM.1.1 x, ?_⟩⟩
  · rintro r h' ⟨A1, B1, rfl, rfl, hF, hJ⟩
    have hg : ∀ g, g ≠ 18 → g ≠ 22 → g ≠ 23 → A1 g = A g := fun g h1 h2 h3 => hF.1 g h1 (by simp [h2, h3])
    exact ⟨A1, B1, rfl, rfl, RCs_k hC (fun g hgm => by simp only [List.mem_cons, List.not_mem_nil, or_false] at hgm; exact hg g (by omega) (by omega) (by omega)) (by rw [hg 8 (by decide) (by decide) (by decide)]) (hF.2 3 (by decide)) (fun i hi => by rw [hg 25 (by decide) (by decide) (by decide)]) (by rw [hg 0 (by decide) (by decide) (by decide)]) (by rw [hg 0 (by decide) (by decide) (by decide)]) (hg 15 (by decide) (by decide) (by decide)) (hJ 15 (by decide)), RMs_hi hM (fun g h => hg g (by omega) (by omega) (by omega)) (hJ 31 (by decide))⟩
  · rintro r h' ⟨A1, B1, rfl, rfl, hF, hJ⟩
    exact ⟨A1, B1, rfl, rfl, RCs_lo hC (lo31 hF (by decide)) (hJ 15 (by decide)), RMs_k hM hF (by decide) (by decide) (by rw [hJ 31 (by decide)]) (by rw [hJ 31 (by decide)])⟩
theorem sq_askings {S : SS} (hS : ivS S) (s g b h c w : Int32) : StpQ mtX11_askings mtX12_askings 6 [.inl s, .inl g, .inl b, .inl h, .inl c, .inl w] S := by
  obtain ⟨F, p, P, LS, R, q, md⟩ := S
  refine ⟨(akA s g b h c w), (F, p, P, LS, R, q, md), hS, fun A B hC hM => ⟨4, _, by decide, m_askC s g b h c w A B, ?_⟩, fun A B hC hM => ⟨2, _, by decide, m_askM s g b h c w A B, ?_⟩⟩
  · rintro r h' ⟨A1, rfl, rfl, hF⟩
    have hg : ∀ g, g ≠ 29 → A1 g = A g := fun g h1 => hF.1 g h1 (by simp)
    exact ⟨A1, B, rfl, rfl, RCs_k hC (fun g hgm => by simp only [List.mem_cons, List.not_mem_nil, or_false] at hgm; exact hg g (by omega)) (by rw [hg 8 (by decide)]) (by rw [hg 18 (by decide)]) (fun i hi => by rw [hg 25 (by decide)]) (by rw [hg 0 (by decide)]) (by rw [hg 0 (by decide)]) (hg 15 (by decide)) rfl, RMs_hi hM (fun g h => hg g (by omega)) rfl⟩
  · rintro r h' ⟨rfl, rfl⟩; exact ⟨A, B, rfl, rfl, hC, hM⟩
theorem sq_refused {S : SS} (hS : ivS S) (x w : Int32) : StpQ mtX11_refused mtX12_refused 2 [.inl x, .inl w] S := by
  obtain ⟨F, p, P, LS, R, q, md⟩ := S
  obtain ⟨iF, ip, iP, iL, iq, im⟩ := hS
  refine ⟨(rdA F LS P R x w), (F, p, P, LS, R, q, md), ⟨iF, ip, iP, iL, iq, im⟩, fun A B hC hM => ⟨14, _, by decide, m_refusedC iF iL iP hC.1.1 hC.1.2.2.2.1 hC.1.2.2.1 hC.1.2.2.2.2.1 x w, ?_⟩, fun A B hC hM => ⟨4, _, by decide, m_refusedM iF iL iP hM.1.1 hM.1.2.2.2.1 hM.1.2.2.1 hM.1.2.2.2.2.1 x w, ?_⟩⟩
  · rintro r h' ⟨A1, B1, rfl, rfl, hF, hJ⟩
    have hg : ∀ g, g ≠ 10 → g ≠ 25 → g ≠ 28 → A1 g = A g := hF.1
    exact ⟨A1, B1, rfl, rfl, RCs_k hC (fun g hgm => by simp only [List.mem_cons, List.not_mem_nil, or_false] at hgm; exact hg g (by omega) (by omega) (by omega)) (by rw [hg 8 (by decide) (by decide) (by decide)]) (by rw [hg 18 (by decide) (by decide) (by decide)]) (fun i hi => hF.2 i hi) (by rw [hg 0 (by decide) (by decide) (by decide)]) (by rw [hg 0 (by decide) (by decide) (by decide)]) (hg 15 (by decide) (by decide) (by decide)) (hJ 15 (by decide)), RMs_hi hM (fun g h => hg g (by omega) (by omega) (by omega)) (hJ 31 (by decide))⟩
  · rintro r h' ⟨A1, B1, rfl, rfl, hF, hJ⟩
    exact ⟨A1, B1, rfl, rfl, RCs_lo hC (lo31 hF (by decide)) (hJ 15 (by decide)), RMs_k hM hF (by decide) (by decide) (by rw [hJ 31 (by decide)]) (by rw [hJ 31 (by decide)])⟩
theorem sq_sameFor {S : SS} (hS : ivS S) (x f v : Int32) : StpQ mtX11_sameFor mtX12_sameFor 3 [.inl x, .inl f, .inl v] S := by
  obtain ⟨F, p, P, LS, R, q, md⟩ := S
  obtain ⟨iF, ip, iP, iL, iq, im⟩ := hS
  refine ⟨(sfA F LS P R x f v), (F, p, P, LS, R, q, md), ⟨iF, ip, iP, iL, iq, im⟩, fun A B hC hM => ⟨14, _, by decide, m_sameForC iF iL iP hC.1.1 hC.1.2.2.2.1 hC.1.2.2.1 hC.1.2.2.2.2.1 x f v, ?_⟩, fun A B hC hM => ⟨4, _, by decide, m_sameForM iF iL iP hM.1.1 hM.1.2.2.2.1 hM.1.2.2.1 hM.1.2.2.2.2.1 x f v, ?_⟩⟩
  · rintro r h' ⟨A1, B1, rfl, rfl, hF, hJ⟩
    have hg : ∀ g, g ≠ 10 → g ≠ 25 → g ≠ 28 → A1 g = A g := hF.1
    exact ⟨A1, B1, rfl, rfl, RCs_k hC (fun g hgm => by simp only [List.mem_cons, List.not_mem_nil, or_false] at hgm; exact hg g (by omega) (by omega) (by omega)) (by rw [hg 8 (by decide) (by decide) (by decide)]) (by rw [hg 18 (by decide) (by decide) (by decide)]) (fun i hi => hF.2 i hi) (by rw [hg 0 (by decide) (by decide) (by decide)]) (by rw [hg 0 (by decide) (by decide) (by decide)]) (hg 15 (by decide) (by decide) (by decide)) (hJ 15 (by decide)), RMs_hi hM (fun g h => hg g (by omega) (by omega) (by omega)) (hJ 31 (by decide))⟩
  · rintro r h' ⟨A1, B1, rfl, rfl, hF, hJ⟩
    exact ⟨A1, B1, rfl, rfl, RCs_lo hC (lo31 hF (by decide)) (hJ 15 (by decide)), RMs_k hM hF (by decide) (by decide) (by rw [hJ 31 (by decide)]) (by rw [hJ 31 (by decide)])⟩
theorem sq_count {S : SS} (hS : ivS S) (x : Int32) : StpQ mtX11_count mtX12_count 1 [.inl x] S := by
  obtain ⟨F, p, P, LS, R, q, md⟩ := S
  refine ⟨(cnA p P LS R q.1 md x), (F, p, P, LS, R, q, md), hS, fun A B hC hM => ⟨1, _, by decide, m_countC hC.1 x, ?_⟩, fun A B hC hM => ⟨2, _, by decide, m_countM hS.2.2.1 hM.1 x, ?_⟩⟩
  · rintro r h' ⟨rfl, rfl⟩; exact ⟨A, B, rfl, rfl, hC, hM⟩
  · rintro r h' ⟨rfl, rfl⟩; exact ⟨A, B, rfl, rfl, hC, hM⟩
theorem sq_digest {S : SS} (hS : ivS S) : StpL mtX11_digest mtX12_digest 0 [] S := by
  obtain ⟨F, p, P, LS, R, q, md⟩ := S
  obtain ⟨iF, ip, iP, iL, iq, im⟩ := hS
  refine ⟨(dgA F p P LS R q.1 md), (F, p, P, LS, R, q, md), ⟨iF, ip, iP, iL, iq, im⟩, fun A B hC hM => ⟨6, _, by decide, m_digestC iF ip iL iP hC.1, ?_⟩, fun A B hC hM => ⟨6, _, by decide, m_digestM iF ip iL iP hM.1, ?_⟩⟩
  · rintro r h' ⟨A1, B1, rfl, rfl, hF, hJ⟩
    have hC1 := ClR_fr hC.1 hF
    refine ⟨A1, B1, rfl, rfl, ⟨hC1, ?_⟩, RMs_hi hM (fun g h => hF.1 g (by omega) (by omega) (by omega) (by omega) (by omega)) (hJ 31 (by decide))⟩
    have k := hC.2
    unfold RKc at k ⊢
    rw [hF.1 15 (by decide) (by decide) (by decide) (by decide) (by decide), hJ 15 (by decide)]
    exact k
  · rintro r h' ⟨A1, B1, rfl, rfl, hF, hJ⟩
    exact ⟨A1, B1, rfl, rfl, RCs_lo hC (lo31 hF (by decide)) (hJ.1 15 (by decide) (by decide)), RMs_k hM hF (by decide) (by decide) (hJ.2 50 (by decide)) (hJ.2 51 (by decide))⟩
theorem sq_sought {S : SS} (hS : ivS S) (x : Int32) : StpQ mtX11_sought mtX12_sought 1 [.inl x] S := by
  obtain ⟨F, p, P, LS, R, q, md⟩ := S
  obtain ⟨iF, ip, iP, iL, iq, im⟩ := hS
  refine ⟨(soA q x), (F, p, P, LS, R, q, md), ⟨iF, ip, iP, iL, iq, im⟩, fun A B hC hM => ⟨1, _, by decide, m_soughtC ⟨hC.1.2.2.2.2.2.1, hC.2⟩ iq x, ?_⟩, fun A B hC hM => ⟨1, _, by decide, m_soughtM ⟨hM.1.2.2.2.2.2.1, hM.2⟩ iq x, ?_⟩⟩
  · rintro r h' ⟨rfl, rfl⟩; exact ⟨A, B, rfl, rfl, hC, hM⟩
  · rintro r h' ⟨rfl, rfl⟩; exact ⟨A, B, rfl, rfl, hC, hM⟩
theorem sq_pair {S : SS} (hS : ivS S) (x : Int32) : StpL mtX11_pair mtX12_pair 1 [.inl x] S := by
  obtain ⟨F, p, P, LS, R, q, md⟩ := S
  refine ⟨(paA q x), (F, p, P, LS, R, q, md), hS, fun A B hC hM => ⟨1, _, by decide, m_pairC ⟨hC.1.2.2.2.2.2.1, hC.2⟩ x, ?_⟩, fun A B hC hM => ⟨1, _, by decide, m_pairM ⟨hM.1.2.2.2.2.2.1, hM.2⟩ x, ?_⟩⟩
  · rintro r h' ⟨rfl, rfl⟩; exact ⟨A, B, rfl, rfl, hC, hM⟩
  · rintro r h' ⟨rfl, rfl⟩; exact ⟨A, B, rfl, rfl, hC, hM⟩
