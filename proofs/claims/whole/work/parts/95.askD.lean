theorem wg2_00 (set g b h c : Nat) (a : Int × Int) : wg2 set g b h c 0 0 a = a := by
  have h3 : ∀ q a, wg3 set g b h c 0 0 q a = a := fun q a => by
    unfold wg3
    generalize c + 1 = n
    induction n with
    | zero => rfl
    | succ n ih => rw [itN, ih]; exact st_no _ (fun z => Nat.lt_irrefl 0 z.1)
  unfold wg2
  generalize h + 1 = n
  induction n with
  | zero => rfl
  | succ n ih => rw [itN, ih]; exact h3 _ _
abbrev wgL (set g b h c p r : Nat) : List (Option AV) := [some (.inr (.inr (some (29, 0)))), some (.inl (nI set)), some (.inl (nI g)), some (.inl (nI b)), some (.inl (nI h)), some (.inl (nI c)), some (.inl (nI p)), some (.inl (nI r))]
theorem l_wr {set g b h c p : Nat} (hs8 : set < 8) {A0 : FI} {B : FJ} {a : Int × Int} (hG : AsG A0 g b h c) (ha : aB a) (h9 : g ≤ 9 ∧ b ≤ 9 ∧ h ≤ 9 ∧ c ≤ 9) (hp' : p ≤ g) {Q : Option AV → AH → Prop} (kend : ∀ A', FmO 29 [] [4, 5] A0 A' → AsR A' (wg1 set g b h c p a) → Rn 3 mtX0_weigh 74 (wgL set g b h c p (b + 1)) [] (hp A' B) Q) : ∀ (m r : Nat) (A : FI), r + m = b + 1 → 0 < p + r → FmO 29 [] [4, 5] A0 A → AsR A (itN (fun r a => wg2 set g b h c p r a) r a) → Rn 3 mtX0_weigh 53 (wgL set g b h c p r) [] (hp A B) Q := by
  intro m
  induction m with
  | zero =>
    intro r A hm h1 hF hA
    have : r = b + 1 := by omega
    subst this
    have tc := ti b (by omega)
    have tc1 := ti (b + 1) (by omega)
    refine R_go 9999 rfl rfl trivial ?_
    refine R_br rfl rfl (fun _ => ?_) (fun h => absurd (by (simp only [i_eq, i_lt, i_le, Int32.reduceToInt, true_and, and_true, false_and, and_false, or_false, false_or, or_true, true_or, ne_eq] at *; first | done | omega)) h)
    exact kend A hF hA
  | succ m ih =>
    intro r A hm h1 hF hA
    have tc := ti b (by omega)
    have tr := ti r (by omega)
    have hb : aB (itN (fun r a => wg2 set g b h c p r a) r a) := itN_b ha (N := b + 1) (fun n a hn h => wg2_b h (by omega)) r (by omega)
    refine R_go 9999 rfl rfl trivial ?_
    refine R_br rfl rfl (fun h => absurd h (by (simp only [i_eq, i_lt, i_le, Int32.reduceToInt, true_and, and_true, false_and, and_false, or_false, false_or, or_true, true_or, ne_eq] at *; first | done | omega))) (fun _ => ?_)
    refine R_go 9999 rfl rfl trivial ?_
    refine R_cv rfl (m_weighOthers (B := B) hs8 (AsG_fr hG hF) hA hb h9 ⟨hp', by omega⟩ h1) rfl rfl rfl rfl rfl (Nat.le_of_ble_eq_true rfl) rfl ?_
    rintro v h' ⟨A', rfl, rfl, hF', hA'⟩
    refine R_go 53 rfl rfl trivial ?_
    rw [nI_1]
    exact ih (r + 1) A' (by omega) (by omega) (FmO_tr hF hF') hA'
abbrev wgK (set g b h c p : Nat) (o7 : Option AV) : List (Option AV) := [some (.inr (.inr (some (29, 0)))), some (.inl (nI set)), some (.inl (nI g)), some (.inl (nI b)), some (.inl (nI h)), some (.inl (nI c)), some (.inl (nI p)), o7]
theorem l_wp {set g b h c : Nat} (hs8 : set < 8) {A0 : FI} {B : FJ} (hG : AsG A0 g b h c) (h9 : g ≤ 9 ∧ b ≤ 9 ∧ h ≤ 9 ∧ c ≤ 9) {Q : Option AV → AH → Prop} (kend : ∀ A', FmO 29 [] [4, 5] A0 A' → AsR A' (wg set g b h c) → Q none (hp A' B)) : ∀ (m p : Nat) (A : FI), p + m = g + 1 → FmO 29 [] [4, 5] A0 A → AsR A (itN (fun p a => wg1 set g b h c p a) p (-1, -1)) → ∀ o7, Rn 3 mtX0_weigh 35 (wgK set g b h c p o7) [] (hp A B) Q := by
  intro m
  induction m with
  | zero =>
    intro p A hm hF hA o7
    have : p = g + 1 := by omega
    subst this
    have tc := ti g (by omega)
    have tc1 := ti (g + 1) (by omega)
    refine R_go 9999 rfl rfl trivial ?_
    refine R_br rfl rfl (fun _ => ?_) (fun h => absurd (by (simp only [i_eq, i_lt, i_le, Int32.reduceToInt, true_and, and_true, false_and, and_false, or_false, false_or, or_true, true_or, ne_eq] at *; first | done | omega)) h)
    refine R_rv rfl rfl ?_
    exact kend A hF hA
  | succ m ih =>
    intro p A hm hF hA o7
    have tc := ti g (by omega)
    have tr := ti p (by omega)
    have hb : aB (itN (fun p a => wg1 set g b h c p a) p (-1, -1)) := itN_b (by unfold aB; decide) (N := g + 1) (fun n a hn h => wg1_b h (by omega)) p (by omega)
    have nx : ∀ A', FmO 29 [] [4, 5] A A' → AsR A' (wg1 set g b h c p (itN (fun p a => wg1 set g b h c p a) p (-1, -1))) → Rn 3 mtX0_weigh 74 (wgL set g b h c p (b + 1)) [] (hp A' B) Q := fun A' hF' hA' => by
      refine R_go 35 rfl rfl trivial ?_
      rw [nI_1]
      exact ih (p + 1) A' (by omega) (FmO_tr hF hF') hA' _
    refine R_go 9999 rfl rfl trivial ?_
    refine R_br rfl rfl (fun h => absurd h (by (simp only [i_eq, i_lt, i_le, Int32.reduceToInt, true_and, and_true, false_and, and_false, or_false, false_or, or_true, true_or, ne_eq] at *; first | done | omega))) (fun _ => ?_)
    refine R_go 9999 rfl rfl trivial ?_
    by_cases hq : p = 0
    · subst hq
      refine R_br rfl rfl (fun _ => ?_) (fun h => absurd rfl h)
      refine R_go 53 rfl rfl trivial ?_
      exact l_wr hs8 (AsG_fr hG hF) hb h9 (by omega) nx b 1 A (by omega) (by omega) FmO_rf (by rw [show itN (fun r a => wg2 set g b h c 0 r a) 1 (itN (fun p a => wg1 set g b h c p a) 0 (-1, -1)) = itN (fun p a => wg1 set g b h c p a) 0 (-1, -1) from wg2_00 _ _ _ _ _ _]; exact hA)
    · refine R_br rfl rfl (fun h => absurd (nI_ij (b := 0) (by omega) (by omega) h) hq) (fun _ => ?_)
      refine R_go 53 rfl rfl trivial ?_
      exact l_wr hs8 (AsG_fr hG hF) hb h9 (by omega) nx (b + 1) 0 A (by omega) (by omega) FmO_rf hA
theorem m_weigh {set g b h c : Nat} (hs8 : set < 8) (h9 : g ≤ 9 ∧ b ≤ 9 ∧ h ≤ 9 ∧ c ≤ 9) (A : FI) (B : FJ) : MV 3 5 mtX0_weigh [.inr (.inr (some (29, 0))), .inl (nI set), .inl (nI g), .inl (nI b), .inl (nI h), .inl (nI c)] (hp A B) (fun v h' => ∃ A', v = none ∧ h' = hp A' B ∧ FmO 29 [] [0, 1, 2, 3, 4, 5] A A' ∧ AsR A' (wg set g b h c)) := by
  refine MV_of caX0_weigh (L := [some (.inr (.inr (some (29, 0)))), some (.inl (nI set)), some (.inl (nI g)), some (.inl (nI b)), some (.inl (nI h)), some (.inl (nI c)), none, none]) rfl rfl ?_
  refine R_go 35 rfl rfl trivial ?_
  generalize hA1 : up3 (up3 (up3 (up3 (up3 (up3 A 29 0 0 (nI g)) 29 0 1 (nI b)) 29 0 2 (nI h)) 29 0 3 (nI c)) 29 0 4 (-1)) 29 0 5 (-1) = A1
  have hF1 : FmO 29 [] [0, 1, 2, 3, 4, 5] A A1 := by rw [← hA1]; exact (by first | exact FmO_rf | (repeat' (first | exact FmO_rf | (with_reducible assumption) | (refine FmO_up ?_ (by decide)) | (refine FmO_ug ?_ (by decide) (by decide)))))
  have e5 : A1 29 0 5 = eI (-1) := by rw [← hA1]; exact up3_self
  have e4 : A1 29 0 4 = eI (-1) := by rw [← hA1, up3_s (by decide)]; exact up3_self
  have hG : AsG A1 g b h c := by
    refine ⟨?_, ?_, ?_, ?_⟩
    · rw [← hA1, up3_s (by decide), up3_s (by decide), up3_s (by decide), up3_s (by decide), up3_s (by decide)]; exact up3_self
    · rw [← hA1, up3_s (by decide), up3_s (by decide), up3_s (by decide), up3_s (by decide)]; exact up3_self
    · rw [← hA1, up3_s (by decide), up3_s (by decide), up3_s (by decide)]; exact up3_self
    · rw [← hA1, up3_s (by decide), up3_s (by decide)]; exact up3_self
  clear hA1
  exact l_wp hs8 hG h9 (fun A' hF hA' => ⟨A', rfl, rfl, FmO_tr hF1 (FmO_w hF (by decide) (by decide)), hA'⟩) (g + 1) 0 A1 (by omega) FmO_rf ⟨e4, e5⟩ none
/-- what ASKINGS answers -/
def okK (set g b h c w : Int32) : Prop := (0 ≤ set.toInt ∧ set.toInt ≤ 7) ∧ (0 ≤ w.toInt ∧ w.toInt ≤ 2) ∧ (0 ≤ g.toInt ∧ g.toInt ≤ 9) ∧ (0 ≤ b.toInt ∧ b.toInt ≤ 9) ∧ (0 ≤ h.toInt ∧ h.toInt ≤ 9) ∧ (0 ≤ c.toInt ∧ c.toInt ≤ 9)
def akS (a : Int × Int) (w : Int32) : Int32 := if w = 0 then (if a.2 = 0 then 1 else 0) else if w = 1 then eI a.1 else eI a.2
noncomputable def akA (set g b h c w : Int32) : Int32 := @ite _ (okK set g b h c w) (Classical.propDecidable _) (akS (wg set.toNatClampNeg g.toNatClampNeg b.toNatClampNeg h.toNatClampNeg c.toNatClampNeg) w) (-102)
theorem akA_y {set g b h c w : Int32} (hk : okK set g b h c w) : akA set g b h c w = akS (wg set.toNatClampNeg g.toNatClampNeg b.toNatClampNeg h.toNatClampNeg c.toNatClampNeg) w := by unfold akA; exact @if_pos _ (Classical.propDecidable _) hk _ _ _
theorem akA_n {set g b h c w : Int32} (hk : ¬ okK set g b h c w) : akA set g b h c w = -102 := by unfold akA; exact @if_neg _ (Classical.propDecidable _) hk _ _ _
theorem m_answered {A : FI} {B : FJ} {a : Int × Int} (hA : AsR A a) (ha : aB a) (w : Int32) : MV 1 1 mtX0_answered [.inr (.inr (some (29, 0))), .inl w] (hp A B) (Ret (some (.inl (akS a w))) (hp A B)) := by
  obtain ⟨e4, e5⟩ := hA
  unfold aB at ha
  have t2 := e_t (x := a.2) (by omega) (by omega)
  refine MV_of caX0_answered (L := [some (.inr (.inr (some (29, 0)))), some (.inl w)]) rfl rfl ?_
  unfold akS
  by_cases h0 : w = 0
  · subst h0
    rw [if_pos rfl]
    refine R_go 9999 rfl rfl trivial ?_
    refine R_br rfl rfl (fun _ => ?_) (fun h => absurd rfl h)
    refine R_go 9999 rfl rfl trivial ?_
    try dsimp only [fgt, fpt]
    rw [e5]
    by_cases hz : a.2 = 0
    · rw [if_pos hz]
      refine R_br rfl rfl (fun _ => ?_) (fun h => absurd (by rw [hz]; rfl) h)
      refine R_go 9999 rfl rfl trivial ?_
      refine R_csr rfl (m_bitI 1 (by omega) A B) rfl rfl rfl (Nat.le_of_ble_eq_true rfl) rfl ?_
      refine R_ri rfl rfl ?_
      exact ret_i rfl rfl
    · rw [if_neg hz]
      have hn : ¬ eI a.2 = 0 := fun e => by rw [e] at t2; exact hz t2.symm
      refine R_br rfl rfl (fun h => absurd h hn) (fun _ => ?_)
      refine R_go 9999 rfl rfl trivial ?_
      refine R_csr rfl (m_bitI 0 (by omega) A B) rfl rfl rfl (Nat.le_of_ble_eq_true rfl) rfl ?_
      refine R_ri rfl rfl ?_
      exact ret_i rfl rfl
  · rw [if_neg h0]
    by_cases h1 : w = 1
    · rw [if_pos h1, ← e4]; subst h1
      repeat' (first
          | (refine R_br rfl rfl (fun hbr => absurd hbr (by first | decide | (with_reducible assumption))) (fun _ => ?_))
          | (refine R_br rfl rfl (fun _ => ?_) (fun hbr => absurd (by first | decide | (with_reducible assumption)) hbr))
          | (refine R_br rfl rfl (fun _ => ?_) (fun _ => ?_))
          | (refine R_ri rfl rfl ?_)
          | (refine R_rz rfl rfl (Or.inl rfl) ?_)
          | (refine R_rz rfl rfl (Or.inr rfl) ?_)
          | (refine R_rz rfl rfl (b2_01 _) ?_)
          | (refine R_rl rfl rfl ?_)
          | (refine R_rv rfl rfl ?_)
          | (refine R_sw _ rfl rfl rfl ?_)
          | (refine R_go 9999 rfl rfl trivial ?_)
          | (refine R_go 9999 rfl rfl (by first | (show _ ∨ _; decide) | (show (_ ∨ _) ∧ (_ ∨ _); decide) | (show (_ ∨ _) ∧ (_ ∨ _) ∧ (_ ∨ _); decide)) ?_)
          | (refine R_go 9999 rfl rfl ?_ ?_))
      exact ret_i rfl rfl
    · rw [if_neg h1, ← e5]
      repeat' (first
          | (refine R_br rfl rfl (fun hbr => absurd hbr (by first | decide | (with_reducible assumption))) (fun _ => ?_))
          | (refine R_br rfl rfl (fun _ => ?_) (fun hbr => absurd (by first | decide | (with_reducible assumption)) hbr))
          | (refine R_br rfl rfl (fun _ => ?_) (fun _ => ?_))
          | (refine R_ri rfl rfl ?_)
          | (refine R_rz rfl rfl (Or.inl rfl) ?_)
          | (refine R_rz rfl rfl (Or.inr rfl) ?_)
          | (refine R_rz rfl rfl (b2_01 _) ?_)
          | (refine R_rl rfl rfl ?_)
          | (refine R_rv rfl rfl ?_)
          | (refine R_sw _ rfl rfl rfl ?_)
          | (refine R_go 9999 rfl rfl trivial ?_)
          | (refine R_go 9999 rfl rfl (by first | (show _ ∨ _; decide) | (show (_ ∨ _) ∧ (_ ∨ _); decide) | (show (_ ∨ _) ∧ (_ ∨ _) ∧ (_ ∨ _); decide)) ?_)
          | (refine R_go 9999 rfl rfl ?_ ?_))
      exact ret_i rfl rfl
theorem m_shortC (n : Int32) (A : FI) (B : FJ) : MS 0 1 mtX11_isShortCount [.inl n] (hp A B) (Ret (some (.inl (b2 (0 ≤ n.toInt ∧ n.toInt ≤ 9)))) (hp A B)) := by
  refine MS_of caX11_isShortCount (L := [some (.inl n)]) rfl rfl ?_
  repeat' (first
      | (refine R_br rfl rfl (fun hbr => absurd hbr (by first | decide | (with_reducible assumption))) (fun _ => ?_))
      | (refine R_br rfl rfl (fun _ => ?_) (fun hbr => absurd (by first | decide | (with_reducible assumption)) hbr))
      | (refine R_br rfl rfl (fun _ => ?_) (fun _ => ?_))
      | (refine R_ri rfl rfl ?_)
      | (refine R_rz rfl rfl (Or.inl rfl) ?_)
      | (refine R_rz rfl rfl (Or.inr rfl) ?_)
      | (refine R_rz rfl rfl (b2_01 _) ?_)
      | (refine R_rl rfl rfl ?_)
      | (refine R_rv rfl rfl ?_)
      | (refine R_sw _ rfl rfl rfl ?_)
      | (refine R_go 9999 rfl rfl trivial ?_)
      | (refine R_go 9999 rfl rfl (by first | (show _ ∨ _; decide) | (show (_ ∨ _) ∧ (_ ∨ _); decide) | (show (_ ∨ _) ∧ (_ ∨ _) ∧ (_ ∨ _); decide)) ?_)
      | (refine R_go 9999 rfl rfl ?_ ?_))
  all_goals first | exact ret_y (by (simp only [i_eq, i_lt, i_le, Int32.reduceToInt, true_and, and_true, false_and, and_false, or_false, false_or, or_true, true_or, ne_eq] at *; first | done | omega)) rfl | exact ret_n (by (simp only [i_eq, i_lt, i_le, Int32.reduceToInt, true_and, and_true, false_and, and_false, or_false, false_or, or_true, true_or, ne_eq] at *; first | done | omega)) rfl
theorem sm_cs {x : Int32} {n : Nat} (h : 0 ≤ x.toInt ∧ x.toInt ≤ n) : x = nI x.toNatClampNeg ∧ x.toNatClampNeg ≤ n := by
  refine ⟨nI_cl x (by omega), ?_⟩
  have h3 : x.toNatClampNeg = x.toInt.toNat := rfl
  omega
theorem m_askC (set g b h c w : Int32) (A : FI) (B : FJ) : MV 4 6 mtX11_askings [.inr (.inr (some (0, 0))), .inl set, .inl g, .inl b, .inl h, .inl c, .inl w] (hp A B) (fun r h' => ∃ A', h' = hp A' B ∧ r = some (.inl (akA set g b h c w)) ∧ FmO 29 [] [0, 1, 2, 3, 4, 5] A A') := by
  refine MV_of caX11_askings (L := [some (.inr (.inr (some (0, 0)))), some (.inl set), some (.inl g), some (.inl b), some (.inl h), some (.inl c), some (.inl w)]) rfl rfl ?_
  have no : ¬ okK set g b h c w → (fun (r : Option AV) (h' : AH) => ∃ A', h' = hp A' B ∧ r = some (.inl (akA set g b h c w)) ∧ FmO 29 [] [0, 1, 2, 3, 4, 5] A A') (some (.inl (-102))) (hp A B) := fun hn => ⟨A, rfl, by rw [akA_n hn], FmO_rf⟩
  by_cases k1 : 0 ≤ set.toInt ∧ set.toInt ≤ 7
  · by_cases k2 : 0 ≤ w.toInt ∧ w.toInt ≤ 2
    · have hh : Rn 4 mtX11_askings 24 [some (.inr (.inr (some (0, 0)))), some (.inl set), some (.inl g), some (.inl b), some (.inl h), some (.inl c), some (.inl w)] [] (hp A B) (fun r h' => ∃ A', h' = hp A' B ∧ r = some (.inl (akA set g b h c w)) ∧ FmO 29 [] [0, 1, 2, 3, 4, 5] A A') := by
        have bad : ¬ okK set g b h c w → Rn 4 mtX11_askings 54 [some (.inr (.inr (some (0, 0)))), some (.inl set), some (.inl g), some (.inl b), some (.inl h), some (.inl c), some (.inl w)] [] (hp A B) (fun r h' => ∃ A', h' = hp A' B ∧ r = some (.inl (akA set g b h c w)) ∧ FmO 29 [] [0, 1, 2, 3, 4, 5] A A') := fun hn => by
          refine R_go 9999 rfl rfl trivial ?_
          refine R_ri rfl rfl ?_
          exact no hn
        refine R_go 9999 rfl rfl trivial ?_
        refine R_csr rfl (m_shortC g A B) rfl rfl rfl (Nat.le_of_ble_eq_true rfl) rfl ?_
        rcases Classical.em (0 ≤ g.toInt ∧ g.toInt ≤ 9) with kg | kg
        · rw [b2_1 kg]
          refine R_br rfl rfl (fun h => absurd h (by decide)) (fun _ => ?_)
          refine R_go 9999 rfl rfl trivial ?_
          refine R_csr rfl (m_shortC b A B) rfl rfl rfl (Nat.le_of_ble_eq_true rfl) rfl ?_
          rcases Classical.em (0 ≤ b.toInt ∧ b.toInt ≤ 9) with kb | kb
          · rw [b2_1 kb]
            refine R_br rfl rfl (fun h => absurd h (by decide)) (fun _ => ?_)
            refine R_go 9999 rfl rfl trivial ?_
            refine R_csr rfl (m_shortC h A B) rfl rfl rfl (Nat.le_of_ble_eq_true rfl) rfl ?_
            rcases Classical.em (0 ≤ h.toInt ∧ h.toInt ≤ 9) with kh | kh
            · rw [b2_1 kh]
              refine R_br rfl rfl (fun h => absurd h (by decide)) (fun _ => ?_)
              refine R_go 9999 rfl rfl trivial ?_
              refine R_csr rfl (m_shortC c A B) rfl rfl rfl (Nat.le_of_ble_eq_true rfl) rfl ?_
              rcases Classical.em (0 ≤ c.toInt ∧ c.toInt ≤ 9) with kc | kc
              · rw [b2_1 kc]
                refine R_br rfl rfl (fun h => absurd h (by decide)) (fun _ => ?_)
                refine R_go 9999 rfl rfl trivial ?_
                rw [akA_y ⟨k1, k2, kg, kb, kh, kc⟩]
                obtain ⟨es, ls⟩ := sm_cs (n := 7) k1
                obtain ⟨eg, lg⟩ := sm_cs (n := 9) kg
                obtain ⟨eb, lb⟩ := sm_cs (n := 9) kb
                obtain ⟨eh, lh⟩ := sm_cs (n := 9) kh
                obtain ⟨ec, lc⟩ := sm_cs (n := 9) kc
                have hw := m_weigh (set := set.toNatClampNeg) (by omega) ⟨lg, lb, lh, lc⟩ A B
                rw [← es, ← eg, ← eb, ← eh, ← ec] at hw
                refine R_cv rfl hw rfl rfl rfl rfl rfl (Nat.le_of_ble_eq_true rfl) rfl ?_
                rintro v h' ⟨A', rfl, rfl, hF, hA'⟩
                have hb : aB (wg set.toNatClampNeg g.toNatClampNeg b.toNatClampNeg h.toNatClampNeg c.toNatClampNeg) := itN_b (by unfold aB; decide) (N := g.toNatClampNeg + 1) (fun n a hn h => wg1_b h (by omega)) _ (Nat.le_refl _)
                refine R_go 9999 rfl rfl trivial ?_
                refine R_cvr rfl (m_answered hA' hb w) rfl rfl rfl rfl rfl (Nat.le_of_ble_eq_true rfl) rfl ?_
                refine R_ri rfl rfl ?_
                exact ⟨A', rfl, rfl, hF⟩
              · rw [b2_0 kc]
                exact R_br rfl rfl (fun _ => bad (fun z => kc z.2.2.2.2.2)) (fun h => absurd rfl h)
            · rw [b2_0 kh]
              exact R_br rfl rfl (fun _ => bad (fun z => kh z.2.2.2.2.1)) (fun h => absurd rfl h)
          · rw [b2_0 kb]
            exact R_br rfl rfl (fun _ => bad (fun z => kb z.2.2.2.1)) (fun h => absurd rfl h)
        · rw [b2_0 kg]
          exact R_br rfl rfl (fun _ => bad (fun z => kg z.2.2.1)) (fun h => absurd rfl h)
      refine R_go 9999 rfl rfl trivial ?_
      refine R_br rfl rfl (fun h => absurd h (by (simp only [i_eq, i_lt, i_le, Int32.reduceToInt, true_and, and_true, false_and, and_false, or_false, false_or, or_true, true_or, ne_eq] at *; first | done | omega))) (fun _ => ?_)
      refine R_go 9999 rfl rfl trivial ?_
      refine R_br rfl rfl (fun h => absurd h (by (simp only [i_eq, i_lt, i_le, Int32.reduceToInt, true_and, and_true, false_and, and_false, or_false, false_or, or_true, true_or, ne_eq] at *; first | done | omega))) (fun _ => ?_)
      refine R_go 9999 rfl rfl trivial ?_
      refine R_br rfl rfl (fun h => absurd h (by (simp only [i_eq, i_lt, i_le, Int32.reduceToInt, true_and, and_true, false_and, and_false, or_false, false_or, or_true, true_or, ne_eq] at *; first | done | omega))) (fun _ => ?_)
      refine R_go 9999 rfl rfl trivial ?_
      exact R_br rfl rfl (fun _ => hh) (fun h => absurd (by (simp only [i_eq, i_lt, i_le, Int32.reduceToInt, true_and, and_true, false_and, and_false, or_false, false_or, or_true, true_or, ne_eq] at *; first | done | omega)) h)
    · have hn : ¬ okK set g b h c w := fun z => k2 z.2.1
      repeat' (first
          | (refine R_br rfl rfl (fun hbr => absurd hbr (by first | decide | (with_reducible assumption) | (simp only [i_eq, i_lt, i_le, Int32.reduceToInt, ne_eq, up3_self, nI_1]; first | done | omega))) (fun _ => ?_))
          | (refine R_br rfl rfl (fun _ => ?_) (fun hbr => absurd (by first | decide | (with_reducible assumption) | (simp only [i_eq, i_lt, i_le, Int32.reduceToInt, ne_eq, up3_self, nI_1]; first | done | omega)) hbr))
          | (refine R_br rfl rfl (fun _ => ?_) (fun _ => ?_))
          | (refine R_ri rfl rfl ?_)
          | (refine R_rz rfl rfl (Or.inl rfl) ?_)
          | (refine R_rz rfl rfl (Or.inr rfl) ?_)
          | (refine R_rz rfl rfl (b2_01 _) ?_)
          | (refine R_rl rfl rfl ?_)
          | (refine R_rv rfl rfl ?_)
          | (refine R_sw _ rfl rfl rfl ?_)
          | (refine R_go 9999 rfl rfl trivial ?_)
          | (refine R_go 9999 rfl rfl (by first | (show _ ∨ _; decide) | (show (_ ∨ _) ∧ (_ ∨ _); decide) | (show (_ ∨ _) ∧ (_ ∨ _) ∧ (_ ∨ _); decide)) ?_)
          | (refine R_go 9999 rfl rfl ?_ ?_))
      all_goals first | exact no hn | (exfalso; (simp only [i_eq, i_lt, i_le, Int32.reduceToInt, true_and, and_true, false_and, and_false, or_false, false_or, or_true, true_or, ne_eq] at *; first | done | omega))
  · have hn : ¬ okK set g b h c w := fun z => k1 z.1
    repeat' (first
        | (refine R_br rfl rfl (fun hbr => absurd hbr (by first | decide | (with_reducible assumption) | (simp only [i_eq, i_lt, i_le, Int32.reduceToInt, ne_eq, up3_self, nI_1]; first | done | omega))) (fun _ => ?_))
        | (refine R_br rfl rfl (fun _ => ?_) (fun hbr => absurd (by first | decide | (with_reducible assumption) | (simp only [i_eq, i_lt, i_le, Int32.reduceToInt, ne_eq, up3_self, nI_1]; first | done | omega)) hbr))
        | (refine R_br rfl rfl (fun _ => ?_) (fun _ => ?_))
        | (refine R_ri rfl rfl ?_)
        | (refine R_rz rfl rfl (Or.inl rfl) ?_)
        | (refine R_rz rfl rfl (Or.inr rfl) ?_)
        | (refine R_rz rfl rfl (b2_01 _) ?_)
        | (refine R_rl rfl rfl ?_)
        | (refine R_rv rfl rfl ?_)
        | (refine R_sw _ rfl rfl rfl ?_)
        | (refine R_go 9999 rfl rfl trivial ?_)
        | (refine R_go 9999 rfl rfl (by first | (show _ ∨ _; decide) | (show (_ ∨ _) ∧ (_ ∨ _); decide) | (show (_ ∨ _) ∧ (_ ∨ _) ∧ (_ ∨ _); decide)) ?_)
        | (refine R_go 9999 rfl rfl ?_ ?_))
    all_goals first | exact no hn | (exfalso; (simp only [i_eq, i_lt, i_le, Int32.reduceToInt, true_and, and_true, false_and, and_false, or_false, false_or, or_true, true_or, ne_eq] at *; first | done | omega))
