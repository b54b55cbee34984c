def mB (a : Int) : Prop := -1 ≤ a ∧ a ≤ 40
theorem stX_b {set g b h c p r q s : Nat} {a : Int} (ha : mB a) (h9 : p + r + q + s ≤ 40) : mB (stX set g b h c p r q s a) := by
  unfold mB at *
  unfold stX
  split
  · split
    · omega
    · exact ha
  · exact ha
theorem ml3_b {set g b h c p r q : Nat} {a : Int} (ha : mB a) (h9 : p + r + q + c ≤ 36) : mB (ml3 set g b h c p r q a) := itN_b ha (N := c + 1) (fun n a hn h => stX_b h (by omega)) _ (Nat.le_refl _)
theorem ml2_b {set g b h c p r : Nat} {a : Int} (ha : mB a) (h9 : p + r + h + c ≤ 36) : mB (ml2 set g b h c p r a) := itN_b ha (N := h + 1) (fun n a hn h => ml3_b h (by omega)) _ (Nat.le_refl _)
theorem ml1_b {set g b h c p : Nat} {a : Int} (ha : mB a) (h9 : p + b + h + c ≤ 36) : mB (ml1 set g b h c p a) := itN_b ha (N := b + 1) (fun n a hn h => ml2_b h (by omega)) _ (Nat.le_refl _)
theorem ml_b {set g b h c : Nat} (h9 : g + b + h + c ≤ 36) : mB (ml set g b h c) := itN_b (by unfold mB; decide) (N := g + 1) (fun n a hn h => ml1_b h (by omega)) _ (Nat.le_refl _)
abbrev mlG (set g b h c : Nat) (v5 v6 v7 v8 v9 v10 : Option AV) : List (Option AV) := [some (.inl (nI set)), some (.inl (nI g)), some (.inl (nI b)), some (.inl (nI h)), some (.inl (nI c)), v5, v6, v7, v8, v9, v10]
abbrev vN (n : Nat) : Option AV := some (.inl (nI n))
abbrev vE (x : Int) : Option AV := some (.inl (eI x))
theorem l_ml3 {set g b h c p r q : Nat} (hs8 : set < 8) {A : FI} {B : FJ} {a : Int} (ha : mB a) (h9 : g ≤ 9 ∧ b ≤ 9 ∧ h ≤ 9 ∧ c ≤ 9) (hp' : p ≤ g ∧ r ≤ b ∧ q ≤ h) {Q : Option AV → AH → Prop} (kend : ∀ o10, Rn 1 mtX12_mostLet 228 (mlG set g b h c (vE (ml3 set g b h c p r q a)) (vN p) (vN r) (vN q) (vN (c + 1)) o10) [] (hp A B) Q) : ∀ (m s : Nat), s + m = c + 1 → ∀ o10, Rn 1 mtX12_mostLet 33 (mlG set g b h c (vE (itN (fun s a => stX set g b h c p r q s a) s a)) (vN p) (vN r) (vN q) (vN s) o10) [] (hp A B) Q := by
  intro m
  induction m with
  | zero =>
    intro s hm o10
    have : s = c + 1 := by omega
    subst this
    have tc := ti c (by omega)
    have tc1 := ti (c + 1) (by omega)
    refine R_go 9999 rfl rfl trivial ?_
    refine R_br rfl rfl (fun _ => ?_) (fun h => absurd (by (simp only [i_eq, i_lt, i_le, Int32.reduceToInt, true_and, and_true, false_and, and_false, or_false, false_or, or_true, true_or, ne_eq] at *; first | done | omega)) h)
    exact kend o10
  | succ m ih =>
    intro s hm o10
    have hb : mB (itN (fun s a => stX set g b h c p r q s a) s a) := itN_b ha (N := c + 1) (fun n a hn h => stX_b h (by omega)) s (by omega)
    exact i_ml hs8 hb h9 ⟨hp'.1, hp'.2.1, hp'.2.2, by omega⟩ (fun o10 => ih (s + 1) (by omega) o10) o10
theorem l_ml2 {set g b h c p r : Nat} (hs8 : set < 8) {A : FI} {B : FJ} {a : Int} (ha : mB a) (h9 : g ≤ 9 ∧ b ≤ 9 ∧ h ≤ 9 ∧ c ≤ 9) (hp' : p ≤ g ∧ r ≤ b) {Q : Option AV → AH → Prop} (kend : ∀ o9 o10, Rn 1 mtX12_mostLet 234 (mlG set g b h c (vE (ml2 set g b h c p r a)) (vN p) (vN r) (vN (h + 1)) o9 o10) [] (hp A B) Q) : ∀ (m q : Nat), q + m = h + 1 → ∀ o9 o10, Rn 1 mtX12_mostLet 24 (mlG set g b h c (vE (itN (fun q a => ml3 set g b h c p r q a) q a)) (vN p) (vN r) (vN q) o9 o10) [] (hp A B) Q := by
  intro m
  induction m with
  | zero =>
    intro q hm o9 o10
    have : q = h + 1 := by omega
    subst this
    have tc := ti h (by omega)
    have tc1 := ti (h + 1) (by omega)
    refine R_go 9999 rfl rfl trivial ?_
    refine R_br rfl rfl (fun _ => ?_) (fun h => absurd (by (simp only [i_eq, i_lt, i_le, Int32.reduceToInt, true_and, and_true, false_and, and_false, or_false, false_or, or_true, true_or, ne_eq] at *; first | done | omega)) h)
    exact kend o9 o10
  | succ m ih =>
    intro q hm o9 o10
    have tc := ti h (by omega)
    have tq := ti q (by omega)
    have hb : mB (itN (fun q a => ml3 set g b h c p r q a) q a) := itN_b ha (N := h + 1) (fun n a hn h => ml3_b h (by omega)) q (by omega)
    refine R_go 9999 rfl rfl trivial ?_
    refine R_br rfl rfl (fun h => absurd h (by (simp only [i_eq, i_lt, i_le, Int32.reduceToInt, true_and, and_true, false_and, and_false, or_false, false_or, or_true, true_or, ne_eq] at *; first | done | omega))) (fun _ => ?_)
    refine R_go 33 rfl rfl trivial ?_
    refine l_ml3 hs8 hb h9 ⟨hp'.1, hp'.2, by omega⟩ (fun o10 => ?_) (c + 1) 0 (by omega) o10
    refine R_go 24 rfl rfl trivial ?_
    rw [nI_1]
    exact ih (q + 1) (by omega) _ _
theorem l_ml1 {set g b h c p : Nat} (hs8 : set < 8) {A : FI} {B : FJ} {a : Int} (ha : mB a) (h9 : g ≤ 9 ∧ b ≤ 9 ∧ h ≤ 9 ∧ c ≤ 9) (hp' : p ≤ g) {Q : Option AV → AH → Prop} (kend : ∀ o8 o9 o10, Rn 1 mtX12_mostLet 240 (mlG set g b h c (vE (ml1 set g b h c p a)) (vN p) (vN (b + 1)) o8 o9 o10) [] (hp A B) Q) : ∀ (m r : Nat), r + m = b + 1 → ∀ o8 o9 o10, Rn 1 mtX12_mostLet 15 (mlG set g b h c (vE (itN (fun r a => ml2 set g b h c p r a) r a)) (vN p) (vN r) o8 o9 o10) [] (hp A B) Q := by
  intro m
  induction m with
  | zero =>
    intro r hm o8 o9 o10
    have : r = b + 1 := by omega
    subst this
    have tc := ti b (by omega)
    have tc1 := ti (b + 1) (by omega)
    refine R_go 9999 rfl rfl trivial ?_
    refine R_br rfl rfl (fun _ => ?_) (fun h => absurd (by (simp only [i_eq, i_lt, i_le, Int32.reduceToInt, true_and, and_true, false_and, and_false, or_false, false_or, or_true, true_or, ne_eq] at *; first | done | omega)) h)
    exact kend o8 o9 o10
  | succ m ih =>
    intro r hm o8 o9 o10
    have tc := ti b (by omega)
    have tq := ti r (by omega)
    have hb : mB (itN (fun r a => ml2 set g b h c p r a) r a) := itN_b ha (N := b + 1) (fun n a hn h => ml2_b h (by omega)) r (by omega)
    refine R_go 9999 rfl rfl trivial ?_
    refine R_br rfl rfl (fun h => absurd h (by (simp only [i_eq, i_lt, i_le, Int32.reduceToInt, true_and, and_true, false_and, and_false, or_false, false_or, or_true, true_or, ne_eq] at *; first | done | omega))) (fun _ => ?_)
    refine R_go 24 rfl rfl trivial ?_
    refine l_ml2 hs8 hb h9 ⟨hp', by omega⟩ (fun o9 o10 => ?_) (h + 1) 0 (by omega) o9 o10
    refine R_go 15 rfl rfl trivial ?_
    rw [nI_1]
    exact ih (r + 1) (by omega) _ _ _
theorem l_ml {set g b h c : Nat} (hs8 : set < 8) {A : FI} {B : FJ} (h9 : g ≤ 9 ∧ b ≤ 9 ∧ h ≤ 9 ∧ c ≤ 9) : ∀ (m p : Nat), p + m = g + 1 → ∀ o7 o8 o9 o10, Rn 1 mtX12_mostLet 6 (mlG set g b h c (vE (itN (fun p a => ml1 set g b h c p a) p (-1))) (vN p) o7 o8 o9 o10) [] (hp A B) (Ret (some (.inl (eI (ml set g b h c)))) (hp A B)) := by
  intro m
  induction m with
  | zero =>
    intro p hm o7 o8 o9 o10
    have : p = g + 1 := by omega
    subst this
    have tc := ti g (by omega)
    have tc1 := ti (g + 1) (by omega)
    refine R_go 9999 rfl rfl trivial ?_
    refine R_br rfl rfl (fun _ => ?_) (fun h => absurd (by (simp only [i_eq, i_lt, i_le, Int32.reduceToInt, true_and, and_true, false_and, and_false, or_false, false_or, or_true, true_or, ne_eq] at *; first | done | omega)) h)
    repeat' (first
        | (refine R_br rfl rfl (fun hbr => absurd hbr (by first | decide | (with_reducible assumption))) (fun _ => ?_))
        | (refine R_br rfl rfl (fun _ => ?_) (fun hbr => absurd (by first | decide | (with_reducible assumption)) hbr))
        | (refine R_br rfl rfl (fun _ => ?_) (fun _ => ?_))
        | (refine R_ri rfl rfl ?_)
        | (refine R_rz rfl rfl (Or.inl rfl) ?_)
        | (refine R_rz rfl rfl (Or.inr rfl) ?_)
        | (refine R_rz rfl rfl (b2_01 _) ?_)
        | (refine R_rl rfl rfl ?_)
        | (refine R_rv rfl rfl ?_)
        | (refine R_sw _ rfl rfl rfl ?_)
        | (refine R_go 9999 rfl rfl trivial ?_)
        | (refine R_go 9999 rfl rfl (by first | (show _ ∨ _; decide) | (show (_ ∨ _) ∧ (_ ∨ _); decide) | (show (_ ∨ _) ∧ (_ ∨ _) ∧ (_ ∨ _); decide)) ?_)
        | (refine R_go 9999 rfl rfl ?_ ?_))
    exact ret_i rfl rfl
  | succ m ih =>
    intro p hm o7 o8 o9 o10
    have tc := ti g (by omega)
    have tq := ti p (by omega)
    have hb : mB (itN (fun p a => ml1 set g b h c p a) p (-1)) := itN_b (by unfold mB; decide) (N := g + 1) (fun n a hn h => ml1_b h (by omega)) p (by omega)
    refine R_go 9999 rfl rfl trivial ?_
    refine R_br rfl rfl (fun h => absurd h (by (simp only [i_eq, i_lt, i_le, Int32.reduceToInt, true_and, and_true, false_and, and_false, or_false, false_or, or_true, true_or, ne_eq] at *; first | done | omega))) (fun _ => ?_)
    refine R_go 15 rfl rfl trivial ?_
    refine l_ml1 hs8 hb h9 (by omega) (fun o8 o9 o10 => ?_) (b + 1) 0 (by omega) o8 o9 o10
    refine R_go 6 rfl rfl trivial ?_
    rw [nI_1]
    exact ih (p + 1) (by omega) _ _ _ _
theorem m_mostLet {set g b h c : Nat} (hs8 : set < 8) (h9 : g ≤ 9 ∧ b ≤ 9 ∧ h ≤ 9 ∧ c ≤ 9) (A : FI) (B : FJ) : MS 1 5 mtX12_mostLet [.inl (nI set), .inl (nI g), .inl (nI b), .inl (nI h), .inl (nI c)] (hp A B) (Ret (some (.inl (eI (ml set g b h c)))) (hp A B)) := by
  refine MS_of caX12_mostLet (L := mlG set g b h c none none none none none none) rfl rfl ?_
  refine R_go 6 rfl rfl trivial ?_
  exact l_ml hs8 h9 (g + 1) 0 (by omega) none none none none
theorem pp_e : ∀ n, n < 8 → ((nI n &&& 1) + ((nI n >>> ((1 : Int32) &&& 31)) &&& 1) + ((nI n >>> ((2 : Int32) &&& 31)) &&& 1)) = nI (ppN n) := by decide
theorem pp_3 : ∀ n, n < 8 → ppN n ≤ 3 := by decide
theorem ip_e : ∀ set, set < 8 → ∀ n, n < 8 → ((nI n &&& nI set) = nI n ↔ isP n set = true) := by decide
theorem fe_b (set g b h c : Nat) (hs : set < 8) : ∀ n, n ≤ 8 → -1 ≤ itN (fun part w => feS set g b h c part w) n (-1) ∧ itN (fun part w => feS set g b h c part w) n (-1) ≤ 3 := fun n hn => itN_b (P := fun w => -1 ≤ w ∧ w ≤ 3) (by decide) (N := 8) (fun n a hn h => by
  have := pp_3 n hn
  unfold feS
  split <;> omega) n hn
abbrev feL (set g b h c : Nat) (w o7 : Int32) (o8 o9 o10 o11 : Option AV) : List (Option AV) := [some (.inr (.inr (some (31, 0)))), vN set, vN g, vN b, vN h, vN c, some (.inl w), some (.inl o7), o8, o9, o10, o11]
theorem l_fe {set g b h c : Nat} (hs8 : set < 8) (h9 : g ≤ 9 ∧ b ≤ 9 ∧ h ≤ 9 ∧ c ≤ 9) {A : FI} {B : FJ} (w o7 : Int32) : ∀ (m n : Nat), n + m = set + 1 → ∀ o10 o11, Rn 2 mtX12_askings 125 (feL set g b h c w o7 (vE (itN (fun part w => feS set g b h c part w) n (-1))) (vN n) o10 o11) [] (hp A B) (Ret (some (.inl (eI (fe set g b h c)))) (hp A B)) := by
  intro m
  induction m with
  | zero =>
    intro n hm o10 o11
    have : n = set + 1 := by omega
    subst this
    have tc := ti set (by omega)
    have tc1 := ti (set + 1) (by omega)
    refine R_go 9999 rfl rfl trivial ?_
    refine R_br rfl rfl (fun _ => ?_) (fun h => absurd (by (simp only [i_eq, i_lt, i_le, Int32.reduceToInt, true_and, and_true, false_and, and_false, or_false, false_or, or_true, true_or, ne_eq] at *; first | done | omega)) h)
    repeat' (first
        | (refine R_br rfl rfl (fun hbr => absurd hbr (by first | decide | (with_reducible assumption))) (fun _ => ?_))
        | (refine R_br rfl rfl (fun _ => ?_) (fun hbr => absurd (by first | decide | (with_reducible assumption)) hbr))
        | (refine R_br rfl rfl (fun _ => ?_) (fun _ => ?_))
        | (refine R_ri rfl rfl ?_)
        | (refine R_rz rfl rfl (Or.inl rfl) ?_)
        | (refine R_rz rfl rfl (Or.inr rfl) ?_)
        | (refine R_rz rfl rfl (b2_01 _) ?_)
        | (refine R_rl rfl rfl ?_)
        | (refine R_rv rfl rfl ?_)
        | (refine R_sw _ rfl rfl rfl ?_)
        | (refine R_go 9999 rfl rfl trivial ?_)
        | (refine R_go 9999 rfl rfl (by first | (show _ ∨ _; decide) | (show (_ ∨ _) ∧ (_ ∨ _); decide) | (show (_ ∨ _) ∧ (_ ∨ _) ∧ (_ ∨ _); decide)) ?_)
        | (refine R_go 9999 rfl rfl ?_ ?_))
    exact ret_i rfl rfl
  | succ m ih =>
    intro n hm o10 o11
    have tc := ti set (by omega)
    have tn := ti n (by omega)
    have hb := fe_b set g b h c hs8 n (by omega)
    have ih1 := ih (n + 1) (by omega)
    have e1 : itN (fun part w => feS set g b h c part w) (n + 1) (-1) = feS set g b h c n (itN (fun part w => feS set g b h c part w) n (-1)) := rfl
    rw [e1] at ih1
    generalize itN (fun part w => feS set g b h c part w) n (-1) = x at *
    have tx := e_t (x := x) (by omega) (by omega)
    have hpp := pp_3 n (by omega)
    have hpe := pp_e n (by omega)
    have hip := ip_e set hs8 n (by omega)
    have hml := ml_b (set := set - n) (g := g) (b := b) (h := h) (c := c) (by omega)
    unfold mB at hml
    have hm1 := m_mostLet (set := set - n) (by omega) h9 A B
    have tp := ti (ppN n) (by omega)
    have est : feS set g b h c n x = if isP n set = true ∧ (x = -1 ∨ (ppN n : Int) < x) ∧ ml (set - n) g b h c ≠ -1 then (ppN n : Int) else x := rfl
    rw [est] at ih1
    generalize ml (set - n) g b h c = y at *
    generalize ppN n = pn at *
    have no : ¬ (isP n set = true ∧ (x = -1 ∨ (pn : Int) < x) ∧ y ≠ -1) → Rn 2 mtX12_askings 194 (feL set g b h c w o7 (vE x) (vN n) (vN pn) o11) [] (hp A B) (Ret (some (.inl (eI (fe set g b h c)))) (hp A B)) := fun hn => by
      rw [if_neg hn] at ih1
      refine R_go 9999 rfl rfl trivial ?_
      refine R_br rfl rfl (fun _ => ?_) (fun h => absurd rfl h)
      refine R_go 125 rfl rfl trivial ?_
      rw [nI_1]
      exact ih1 _ _
    refine R_go 9999 rfl rfl trivial ?_
    refine R_br rfl rfl (fun h => absurd h (by (simp only [i_eq, i_lt, i_le, Int32.reduceToInt, true_and, and_true, false_and, and_false, or_false, false_or, or_true, true_or, ne_eq] at *; first | done | omega))) (fun _ => ?_)
    refine R_go 9999 rfl rfl trivial ?_
    rw [hpe]
    by_cases h1 : isP n set = true
    · refine R_br rfl rfl (fun _ => ?_) (fun h => absurd (hip.mpr h1) h)
      have k173 : (x = -1 ∨ (pn : Int) < x) → Rn 2 mtX12_askings 173 (feL set g b h c w o7 (vE x) (vN n) (vN pn) o11) [] (hp A B) (Ret (some (.inl (eI (fe set g b h c)))) (hp A B)) := fun h2 => by
        refine R_go 9999 rfl rfl trivial ?_
        rw [nI_sub (by omega)]
        refine R_csr rfl hm1 rfl rfl rfl (Nat.le_of_ble_eq_true rfl) rfl ?_
        refine R_go 9999 rfl rfl trivial ?_
        by_cases hy : y = -1
        · refine R_br rfl rfl (fun _ => ?_) (fun h => absurd ((e_m1 (by omega) (by omega)).mpr hy) h)
          exact no (fun z => z.2.2 hy)
        · refine R_br rfl rfl (fun h => absurd ((e_m1 (by omega) (by omega)).mp h) hy) (fun _ => ?_)
          rw [if_pos ⟨h1, h2, hy⟩] at ih1
          refine R_go 9999 rfl rfl trivial ?_
          refine R_br rfl rfl (fun h => absurd h (by decide)) (fun _ => ?_)
          refine R_go 125 rfl rfl trivial ?_
          rw [nI_1, e_n (n := pn) (by omega)]
          exact ih1 _ _
      refine R_go 9999 rfl rfl trivial ?_
      by_cases hx : x = -1
      · exact R_br rfl rfl (fun _ => k173 (Or.inl hx)) (fun h => absurd ((e_m1 (by omega) (by omega)).mpr hx) h)
      · refine R_br rfl rfl (fun h => absurd ((e_m1 (by omega) (by omega)).mp h) hx) (fun _ => ?_)
        refine R_go 9999 rfl rfl trivial ?_
        by_cases hlt : (pn : Int) < x
        · exact R_br rfl rfl (fun h => absurd h (by rw [i_le, tx, tp]; omega)) (fun _ => k173 (Or.inr hlt))
        · refine R_br rfl rfl (fun _ => ?_) (fun h => absurd (by rw [i_le, tx, tp]; omega) h)
          exact no (fun z => z.2.1.elim hx hlt)
    · refine R_br rfl rfl (fun h => absurd (hip.mp h) h1) (fun _ => ?_)
      exact no (fun z => h1 z.1)
theorem m_askM (set g b h c w : Int32) (A : FI) (B : FJ) : MV 2 6 mtX12_askings [.inr (.inr (some (31, 0))), .inl set, .inl g, .inl b, .inl h, .inl c, .inl w] (hp A B) (Ret (some (.inl (akA set g b h c w))) (hp A B)) := by
  have l0 : (0 : Int64).toInt = 0 := by decide
  have l2 : (2 : Int64).toInt = 2 := by decide
  have l7 : (7 : Int64).toInt = 7 := by decide
  have l9 : (9 : Int64).toInt = 9 := by decide
  refine MV_of caX12_askings (L := [some (.inr (.inr (some (31, 0)))), some (.inl set), some (.inl g), some (.inl b), some (.inl h), some (.inl c), some (.inl w), none, none, none, none, none]) rfl rfl ?_
  have bad : ¬ okK set g b h c w → Rn 2 mtX12_askings 75 [some (.inr (.inr (some (31, 0)))), some (.inl set), some (.inl g), some (.inl b), some (.inl h), some (.inl c), some (.inl w), none, none, none, none, none] [] (hp A B) (Ret (some (.inl (akA set g b h c w))) (hp A B)) := fun hn => by
    rw [akA_n hn]
    refine R_go 9999 rfl rfl trivial ?_
    refine R_ri rfl rfl ?_
    exact ret_i rfl rfl
  refine R_go 9999 rfl rfl trivial ?_
  rcases Classical.em (0 ≤ set.toInt ∧ set.toInt ≤ 7) with k1 | k1
  · refine R_csr rfl (m_inT set 0 7 (by rw [l0, l7]; exact k1) A B) rfl rfl rfl (Nat.le_of_ble_eq_true rfl) rfl ?_
    refine R_br rfl rfl (fun h => absurd h (by decide)) (fun _ => ?_)
    refine R_go 9999 rfl rfl trivial ?_
    rcases Classical.em (0 ≤ g.toInt ∧ g.toInt ≤ 9) with kg | kg
    · refine R_csr rfl (m_inT g 0 9 (by rw [l0, l9]; exact kg) A B) rfl rfl rfl (Nat.le_of_ble_eq_true rfl) rfl ?_
      refine R_br rfl rfl (fun h => absurd h (by decide)) (fun _ => ?_)
      refine R_go 9999 rfl rfl trivial ?_
      rcases Classical.em (0 ≤ b.toInt ∧ b.toInt ≤ 9) with kb | kb
      · refine R_csr rfl (m_inT b 0 9 (by rw [l0, l9]; exact kb) A B) rfl rfl rfl (Nat.le_of_ble_eq_true rfl) rfl ?_
        refine R_br rfl rfl (fun h => absurd h (by decide)) (fun _ => ?_)
        refine R_go 9999 rfl rfl trivial ?_
        rcases Classical.em (0 ≤ h.toInt ∧ h.toInt ≤ 9) with kh | kh
        · refine R_csr rfl (m_inT h 0 9 (by rw [l0, l9]; exact kh) A B) rfl rfl rfl (Nat.le_of_ble_eq_true rfl) rfl ?_
          refine R_br rfl rfl (fun h => absurd h (by decide)) (fun _ => ?_)
          refine R_go 9999 rfl rfl trivial ?_
          rcases Classical.em (0 ≤ c.toInt ∧ c.toInt ≤ 9) with kc | kc
          · refine R_csr rfl (m_inT c 0 9 (by rw [l0, l9]; exact kc) A B) rfl rfl rfl (Nat.le_of_ble_eq_true rfl) rfl ?_
            refine R_br rfl rfl (fun h => absurd h (by decide)) (fun _ => ?_)
            refine R_go 9999 rfl rfl trivial ?_
            rcases Classical.em (0 ≤ w.toInt ∧ w.toInt ≤ 2) with kw | kw
            · refine R_csr rfl (m_inT w 0 2 (by rw [l0, l2]; exact kw) A B) rfl rfl rfl (Nat.le_of_ble_eq_true rfl) rfl ?_
              refine R_br rfl rfl (fun h => absurd h (by decide)) (fun _ => ?_)
              rw [akA_y ⟨k1, kw, kg, kb, kh, kc⟩]
              obtain ⟨es, ls⟩ := sm_cs (n := 7) k1
              obtain ⟨eg, lg⟩ := sm_cs (n := 9) kg
              obtain ⟨eb, lb⟩ := sm_cs (n := 9) kb
              obtain ⟨eh, lh⟩ := sm_cs (n := 9) kh
              obtain ⟨ec, lc⟩ := sm_cs (n := 9) kc
              generalize set.toNatClampNeg = s' at *
              generalize g.toNatClampNeg = g' at *
              generalize b.toNatClampNeg = b' at *
              generalize h.toNatClampNeg = h' at *
              generalize c.toNatClampNeg = c' at *
              subst es eg eb eh ec
              have hml := ml_b (set := s') (g := g') (b := b') (h := h') (c := c') (by omega)
              unfold mB at hml
              have hw1 := wg_1 s' g' b' h' c'
              have hw0 := wg_0 s' g' b' h' c'
              have hfe := fe_eq (g := g') (b := b') (h := h') (c := c') (show s' < 8 by omega)
              refine R_go 9999 rfl rfl trivial ?_
              refine R_csr rfl (m_mostLet (set := s') (by omega) ⟨lg, lb, lh, lc⟩ A B) rfl rfl rfl (Nat.le_of_ble_eq_true rfl) rfl ?_
              refine R_go 9999 rfl rfl trivial ?_
              by_cases w2 : w.toInt < 2
              · refine R_br rfl rfl (fun h => absurd h (by (simp only [i_eq, i_lt, i_le, Int32.reduceToInt, true_and, and_true, false_and, and_false, or_false, false_or, or_true, true_or, ne_eq] at *; first | done | omega))) (fun _ => ?_)
                refine R_go 9999 rfl rfl trivial ?_
                by_cases w1 : w = 1
                · refine R_br rfl rfl (fun _ => ?_) (fun h => absurd w1 h)
                  refine R_go 9999 rfl rfl trivial ?_
                  refine R_ri rfl rfl ?_
                  refine ret_i ?_ rfl
                  subst w1
                  unfold akS
                  rw [if_neg (by decide), if_pos rfl, hw1]
                · have w0 : w = 0 := i_eq.mpr (by
                    have : w.toInt ≠ 1 := fun e => w1 (i_eq.mpr e)
                    have z0 : (0 : Int32).toInt = 0 := by decide
                    omega)
                  refine R_br rfl rfl (fun h => absurd h w1) (fun _ => ?_)
                  refine R_go 9999 rfl rfl trivial ?_
                  unfold akS
                  rw [if_pos w0]
                  by_cases hy : ml s' g' b' h' c' = -1
                  · refine R_br rfl rfl (fun _ => ?_) (fun h => absurd ((e_m1 (by omega) (by omega)).mpr hy) h)
                    rw [if_neg (fun z => hw0.mp z (by rw [hw1]; exact hy))]
                    repeat' (first
                        | (refine R_br rfl rfl (fun hbr => absurd hbr (by first | decide | (with_reducible assumption))) (fun _ => ?_))
                        | (refine R_br rfl rfl (fun _ => ?_) (fun hbr => absurd (by first | decide | (with_reducible assumption)) hbr))
                        | (refine R_br rfl rfl (fun _ => ?_) (fun _ => ?_))
                        | (refine R_ri rfl rfl ?_)
                        | (refine R_rz rfl rfl (Or.inl rfl) ?_)
                        | (refine R_rz rfl rfl (Or.inr rfl) ?_)
                        | (refine R_rz rfl rfl (b2_01 _) ?_)
                        | (refine R_rl rfl rfl ?_)
                        | (refine R_rv rfl rfl ?_)
                        | (refine R_sw _ rfl rfl rfl ?_)
                        | (refine R_go 9999 rfl rfl trivial ?_)
                        | (refine R_go 9999 rfl rfl (by first | (show _ ∨ _; decide) | (show (_ ∨ _) ∧ (_ ∨ _); decide) | (show (_ ∨ _) ∧ (_ ∨ _) ∧ (_ ∨ _); decide)) ?_)
                        | (refine R_go 9999 rfl rfl ?_ ?_))
                    exact ret_i rfl rfl
                  · refine R_br rfl rfl (fun h => absurd ((e_m1 (by omega) (by omega)).mp h) hy) (fun _ => ?_)
                    rw [if_pos (hw0.mpr (by rw [hw1]; exact hy))]
                    repeat' (first
                        | (refine R_br rfl rfl (fun hbr => absurd hbr (by first | decide | (with_reducible assumption))) (fun _ => ?_))
                        | (refine R_br rfl rfl (fun _ => ?_) (fun hbr => absurd (by first | decide | (with_reducible assumption)) hbr))
                        | (refine R_br rfl rfl (fun _ => ?_) (fun _ => ?_))
                        | (refine R_ri rfl rfl ?_)
                        | (refine R_rz rfl rfl (Or.inl rfl) ?_)
                        | (refine R_rz rfl rfl (Or.inr rfl) ?_)
                        | (refine R_rz rfl rfl (b2_01 _) ?_)
                        | (refine R_rl rfl rfl ?_)
                        | (refine R_rv rfl rfl ?_)
                        | (refine R_sw _ rfl rfl rfl ?_)
                        | (refine R_go 9999 rfl rfl trivial ?_)
                        | (refine R_go 9999 rfl rfl (by first | (show _ ∨ _; decide) | (show (_ ∨ _) ∧ (_ ∨ _); decide) | (show (_ ∨ _) ∧ (_ ∨ _) ∧ (_ ∨ _); decide)) ?_)
                        | (refine R_go 9999 rfl rfl ?_ ?_))
                    exact ret_i rfl rfl
              · refine R_br rfl rfl (fun _ => ?_) (fun h => absurd (by (simp only [i_eq, i_lt, i_le, Int32.reduceToInt, true_and, and_true, false_and, and_false, or_false, false_or, or_true, true_or, ne_eq] at *; first | done | omega)) h)
                have w0 : ¬ w = 0 := fun e => by rw [e] at w2; exact w2 (by decide)
                have w1 : ¬ w = 1 := fun e => by rw [e] at w2; exact w2 (by decide)
                refine R_go 125 rfl rfl trivial ?_
                unfold akS
                rw [if_neg w0, if_neg w1, ← hfe]
                exact l_fe (by omega) ⟨lg, lb, lh, lc⟩ w _ (s' + 1) 0 (by omega) none none
            · refine R_csr rfl (m_inF w 0 2 (by rw [l0, l2]; exact kw) A B) rfl rfl rfl (Nat.le_of_ble_eq_true rfl) rfl ?_
              exact R_br rfl rfl (fun _ => bad (fun z => kw z.2.1)) (fun h => absurd rfl h)
          · refine R_csr rfl (m_inF c 0 9 (by rw [l0, l9]; exact kc) A B) rfl rfl rfl (Nat.le_of_ble_eq_true rfl) rfl ?_
            exact R_br rfl rfl (fun _ => bad (fun z => kc z.2.2.2.2.2)) (fun h => absurd rfl h)
        · refine R_csr rfl (m_inF h 0 9 (by rw [l0, l9]; exact kh) A B) rfl rfl rfl (Nat.le_of_ble_eq_true rfl) rfl ?_
          exact R_br rfl rfl (fun _ => bad (fun z => kh z.2.2.2.2.1)) (fun h => absurd rfl h)
      · refine R_csr rfl (m_inF b 0 9 (by rw [l0, l9]; exact kb) A B) rfl rfl rfl (Nat.le_of_ble_eq_true rfl) rfl ?_
        exact R_br rfl rfl (fun _ => bad (fun z => kb z.2.2.2.1)) (fun h => absurd rfl h)
    · refine R_csr rfl (m_inF g 0 9 (by rw [l0, l9]; exact kg) A B) rfl rfl rfl (Nat.le_of_ble_eq_true rfl) rfl ?_
      exact R_br rfl rfl (fun _ => bad (fun z => kg z.2.2.1)) (fun h => absurd rfl h)
  · refine R_csr rfl (m_inF set 0 7 (by rw [l0, l7]; exact k1) A B) rfl rfl rfl (Nat.le_of_ble_eq_true rfl) rfl ?_
    exact R_br rfl rfl (fun _ => bad (fun z => k1 z.1)) (fun h => absurd rfl h)
