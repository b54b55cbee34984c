theorem ti_le {a b : Nat} (ha : a < 2147483648) (hb : b < 2147483648) : nI a ≤ nI b ↔ a ≤ b := by
  have h1 := ti a ha
  have h2 := ti b hb
  simp only [i_le]
  omega
theorem n99_i {a : Nat} (ha : a < 2147483648) : nI a = 99 ↔ a = 99 := by
  have h1 := ti a ha
  constructor
  · intro h
    rw [h] at h1
    have : (99 : Int32).toInt = 99 := by decide
    omega
  · intro h; rw [h]; rfl
theorem m_endsM {P : List (List Tk × Nat)} {A : FI} {B : FJ} (x y : Int64) (hP : okG P) (hG : RMG A P) : MV 3 2 mtX12_ends [.inr (.inr (some (31, 0))), .inr (.inl x), .inr (.inl y)] (hp A B) (fun r h' => ∃ A' B', h' = hp A' B' ∧ r = some (.inl (edA P x y)) ∧ FmO 31 [51, 52, 55] [] A A' ∧ FmJ [58, 59] B B') := by
  refine MV_of caX12_ends (L := [some (.inr (.inr (some (31, 0)))), some (.inr (.inl x)), none, some (.inr (.inl y)), none, none, none]) rfl rfl ?_
  refine R_go 9999 rfl rfl trivial ?_
  refine R_cv rfl (m_takePerson x) rfl rfl rfl rfl rfl (Nat.le_of_ble_eq_true rfl) rfl ?_
  rintro r0 h' ⟨A1, rfl, hF1, hx⟩
  obtain ⟨w, rfl, hw⟩ : ∃ w, r0 = some (.inl w) ∧ w = b2 (prS x) := by
    rcases hx with ⟨h1, h2, -⟩ | ⟨h1, h2⟩
    · exact ⟨1, h2, by rw [b2_1 h1]⟩
    · exact ⟨0, h2, by rw [b2_0 h1]⟩
  have hx1 : prS x → RPm A1 (prQ x) := fun h => by
    rcases hx with ⟨-, -, h3⟩ | ⟨h1, -⟩
    · exact h3
    · exact absurd h h1
  subst hw
  refine R_go 10 rfl rfl trivial ?_
  refine l_ed1 (A0 := A1) (fun A2 hF2 h2 => ?_) 8 0 A1 rfl FmO_rf (fun f hf => by omega)
  have main : ∀ (A3 : FI) (c : Prop) (hi : Nat → Int32), FmO 31 [52] [] A2 A3 → (c → prS x ∧ prS y) → (prS x → prS y → c) → (prS y → c → ∀ f, f < 8 → hi f = nI (prQ y f) ∧ okF (prQ y f)) → (∀ f, f < 8 → A3 52 0 f = hi f) → Rn 3 mtX12_ends 62 (edM x y (some (.inl (b2 c))) (some (.inl (nI 0)))) [] (hp A3 B) (fun r h' => ∃ A' B', h' = hp A' B' ∧ r = some (.inl (edA P x y)) ∧ FmO 31 [51, 52, 55] [] A A' ∧ FmJ [58, 59] B B') := by
    intro A3 c hi hF3 hc1 hc2 hc3 h52
    have hA03 : FmO 31 [51, 52, 55] [] A A3 := FmO_tr (FmO_tr (FmO_w hF1 (by decide) (by decide)) (FmO_w hF2 (by decide) (by decide))) (FmO_w hF3 (by decide) (by decide))
    have hlo : ∀ f, f < 8 → A3 55 0 (4 * f) = A1 52 0 f := fun f hf => by rw [hF3.1 55 (by decide) (by decide)]; exact h2 f hf
    have hst : b2 c = b2 (okE c (fun f => A1 52 0 f) hi 0) := b2_c ⟨fun h => ⟨h, fun f hf => by omega⟩, fun h => h.1⟩
    rw [hst]
    refine l_ed2 (A0 := A3) (lo := fun f => A1 52 0 f) h52 (fun A4 hF4 k1 k2 => ?_) 8 0 A3 rfl FmO_rf hlo (fun f hf => by omega)
    have hA04 : FmO 31 [51, 52, 55] [] A A4 := FmO_tr hA03 (FmO_w hF4 (by decide) (by decide))
    have hG4 := RMG_fr hG hA04 (by decide) (by decide)
    have heq : okE c (fun f => A1 52 0 f) hi 8 ↔ edQ x y := by
      constructor
      · rintro ⟨hc, hf⟩
        obtain ⟨px, py⟩ := hc1 hc
        have q1 := hx1 px
        have q2 := hc3 py hc
        have hle : ∀ f, f < 8 → prQ x f ≤ prQ y f ∧ prQ y f ≠ 99 := fun f h8 => by
          obtain ⟨z1, z2⟩ := hf f h8
          obtain ⟨a1, a2⟩ := q1 f h8
          obtain ⟨b1, b2'⟩ := q2 f h8
          unfold okF at b2'
          dsimp only at z1
          rw [a1, b1, ti_le (by omega) (by omega)] at z1
          rw [b1] at z2
          exact ⟨z1, fun e => z2 ((n99_i (by omega)).mpr e)⟩
        refine ⟨px, py, fun f h8 => ?_, fun f h8 => (hle f h8).2, fun f h8 => (hle f h8).1⟩
        have := hle f h8
        have b2' := (q2 f h8).2
        unfold okF at b2'
        omega
      · rintro ⟨px, py, w1, w2, hle⟩
        have hc := hc2 px py
        refine ⟨hc, fun f h8 => ?_⟩
        obtain ⟨a1, a2⟩ := hx1 px f h8
        obtain ⟨b1, b2'⟩ := hc3 py hc f h8
        unfold okF at b2'
        dsimp only
        rw [a1, b1, ti_le (by omega) (by omega)]
        exact ⟨hle f h8, fun e => w2 f h8 ((n99_i (by omega)).mp e)⟩
    rw [b2_c heq]
    refine R_go 9999 rfl rfl trivial ?_
    rcases Classical.em (edQ x y) with g | g
    · rw [b2_1 g, edA_y g]
      refine R_br rfl rfl (fun h => absurd h (by decide)) (fun _ => ?_)
      refine R_go 9999 rfl rfl trivial ?_
      by_cases hPe : P = []
      · rw [if_pos hPe]
        refine R_br rfl rfl (fun _ => ?_) (fun h => absurd (by rw [hG4.1, isE.2 hPe]; rfl) h)
        refine R_go 9999 rfl rfl trivial ?_
        refine R_ri rfl rfl ?_
        exact ⟨A4, B, rfl, rfl, hA04, FmJ_rf⟩
      · rw [if_neg hPe]
        obtain ⟨px, py, w1, w2, hle⟩ := g
        have q1 := hx1 px
        have q2 := hc3 py (hc2 px py)
        have u1 : ∀ f, f < 8 → prQ x f ≤ 20 := fun f h8 => by
          have := (q1 f h8).2
          have := w1 f h8
          omega
        have u2 : ∀ f, f < 8 → prQ y f ≤ 20 := fun f h8 => by
          have b := (q2 f h8).2
          have := w2 f h8
          unfold okF at b
          omega
        have hsb : SBm 0 A4 (bxQ (prQ x) (prQ y)) := fun f h8 => by
          have a1 := (q1 f h8).1
          have b1 := (q2 f h8).1
          have := u1 f h8
          have := u2 f h8
          rw [show 4 * f + 2 * 0 = 4 * f by omega, k1 f h8, k2 f h8, b1, a1]
          exact ⟨ti _ (by omega), ti _ (by omega)⟩
        have heo := m_endsOf (B := B) (sd := 0) (by omega) (bxQ_99 u1 u2 hle) (okG_ne hP hPe) hG4 hsb
        refine R_br rfl rfl (fun h => absurd h (by rw [hG4.1, isE.1 hPe]; decide)) (fun _ => ?_)
        refine R_go 9999 rfl rfl trivial ?_
        refine R_cv rfl heo rfl rfl rfl rfl rfl (Nat.le_of_ble_eq_true rfl) rfl ?_
        rintro r h' ⟨A5, B5, rfl, rfl, hF5, hJ5⟩
        refine R_go 9999 rfl rfl trivial ?_
        refine R_ri rfl rfl ?_
        exact ⟨A5, B5, rfl, rfl, FmO_tr hA04 (FmO_w hF5 (by decide) (by decide)), hJ5⟩
    · rw [b2_0 g, edA_n g]
      refine R_br rfl rfl (fun _ => ?_) (fun h => absurd rfl h)
      refine R_go 9999 rfl rfl trivial ?_
      refine R_ri rfl rfl ?_
      exact ⟨A4, B, rfl, rfl, hA04, FmJ_rf⟩
  refine R_go 9999 rfl rfl trivial ?_
  rcases Classical.em (prS x) with px | px
  · rw [b2_1 px]
    refine R_br rfl rfl (fun h => absurd h (by decide)) (fun _ => ?_)
    refine R_go 9999 rfl rfl trivial ?_
    refine R_cv rfl (m_takePerson y) rfl rfl rfl rfl rfl (Nat.le_of_ble_eq_true rfl) rfl ?_
    rintro r1 h' ⟨A3, rfl, hF3, ⟨py, rfl, hq⟩ | ⟨py, rfl⟩⟩
    · refine R_br rfl rfl (fun h => absurd h (by decide)) (fun _ => ?_)
      refine R_go 62 rfl rfl trivial ?_
      have := main A3 True (fun f => A3 52 0 f) hF3 (fun _ => ⟨px, py⟩) (fun _ _ => trivial) (fun _ _ f hf => hq f hf) (fun f hf => rfl)
      rw [b2_1 trivial] at this
      exact this
    · refine R_br rfl rfl (fun _ => ?_) (fun h => absurd rfl h)
      refine R_go 62 rfl rfl trivial ?_
      have := main A3 False (fun f => A3 52 0 f) hF3 (fun z => z.elim) (fun _ z => absurd z py) (fun z => absurd z py) (fun f hf => rfl)
      rw [b2_0 id] at this
      exact this
  · rw [b2_0 px]
    refine R_br rfl rfl (fun _ => ?_) (fun h => absurd rfl h)
    refine R_go 62 rfl rfl trivial ?_
    have := main A2 False (fun f => A2 52 0 f) FmO_rf (fun z => z.elim) (fun z => absurd z px) (fun _ z => z.elim) (fun f hf => rfl)
    rw [b2_0 id] at this
    exact this
