theorem R_ra {d : Nat} {mt : MI} {pc nx tg : Nat} {k0 : Int32} {L : List (Option AV)} {h : AH} {Q : Option AV → AH → Prop} {r : Option (Nat × Nat)} {C : String} (hp : mt.2.2 pc = some (.areturn, 1, nx, tg, k0)) (hr : mt.1.2.2.2 = some (.object C)) (hq : Q (some (.inr (.inr r))) h) : Rn d mt pc L [.inr (.inr r)] h Q := s_areturn hp hr (Nat.le_refl _) (Nat.le_refl _) hq
theorem m_person {n : Nat} {A : FI} {B : FJ} (h : A 18 0 3 = nI n) (hn : n ≤ 24) (k : Nat) (hk : k < n) : MV 1 1 mtX1_person [.inr (.inr (some (18, 0))), .inl (nI k)] (hp A B) (Ret (some (.inr (.inr (some (24, k))))) (hp A B)) := by
  have ck : (nI k).toNatClampNeg = k := nI_clamp (by omega)
  have hv : vp_in (nI k) 24 := vpN (n := 24) (by omega) rfl
  refine MV_of caX1_person (L := [some (.inr (.inr (some (18, 0)))), some (.inl (nI k))]) rfl rfl ?_
  refine R_go 9999 rfl rfl trivial ?_
  refine R_cvr rfl (m_isRowHere h hn k hk) rfl rfl rfl rfl rfl (Nat.le_of_ble_eq_true rfl) rfl ?_
  refine R_br rfl rfl (fun h => absurd h (by decide)) (fun _ => ?_)
  refine R_go 9999 rfl rfl hv ?_
  rw [ck]
  exact R_ra rfl rfl ⟨rfl, rfl⟩
/-- the ROWS of a group -/
def gl (R : List Rw) (f v : Nat) : Nat → List Nat
  | 0 => []
  | n + 1 => if (R.getD n d0).1 f = v then gl R f v n ++ [n] else gl R f v n
theorem gl_y {R : List Rw} {f v n : Nat} (h : (R.getD n d0).1 f = v) : gl R f v (n + 1) = gl R f v n ++ [n] := by rw [gl, if_pos h]
theorem gl_n {R : List Rw} {f v n : Nat} (h : ¬ (R.getD n d0).1 f = v) : gl R f v (n + 1) = gl R f v n := by rw [gl, if_neg h]
theorem gl_len (P : List (List Tk × Nat)) (R : List Rw) (f v : Nat) : ∀ n, (gl R f v n).length = mbN P R f v 0 n
  | 0 => rfl
  | n + 1 => by
    by_cases h : (R.getD n d0).1 f = v
    · rw [gl_y h, mbN_y ⟨h, isA_0 _⟩, List.length_append, gl_len P R f v n]; rfl
    · rw [gl_n h, mbN_n (fun z => h z.1), gl_len P R f v n]
theorem gl_lt {R : List Rw} {f v : Nat} : ∀ {n : Nat}, ∀ x ∈ gl R f v n, x < n
  | 0, x, h => by cases h
  | n + 1, x, h => by
    by_cases e : (R.getD n d0).1 f = v
    · rw [gl_y e] at h
      rcases List.mem_append.mp h with h | h
      · have := gl_lt x h; omega
      · have : x = n := by simpa using h
        omega
    · rw [gl_n e] at h
      have := gl_lt x h; omega
theorem gl_dis {R : List Rw} {f v w : Nat} (hne : v ≠ w) : ∀ n, (gl R f v n).length + (gl R f w n).length ≤ n
  | 0 => Nat.le_refl _
  | n + 1 => by
    have := gl_dis (R := R) (f := f) hne n
    by_cases h : (R.getD n d0).1 f = v
    · rw [gl_y h, gl_n (fun z => hne (h.symm.trans z)), List.length_append]; simp only [List.length_cons, List.length_nil]; omega
    · by_cases h2 : (R.getD n d0).1 f = w
      · rw [gl_n h, gl_y h2, List.length_append]; simp only [List.length_cons, List.length_nil]; omega
      · rw [gl_n h, gl_n h2]; omega
theorem gl_mono {R : List Rw} {f v : Nat} (n : Nat) : ∀ m, (gl R f v n).length ≤ (gl R f v (n + m)).length
  | 0 => Nat.le_refl _
  | m + 1 => by
    have := gl_mono (R := R) (f := f) (v := v) n m
    rw [show n + (m + 1) = (n + m) + 1 by omega]
    by_cases h : (R.getD (n + m) d0).1 f = v
    · rw [gl_y h, List.length_append]; omega
    · rw [gl_n h]; exact this
theorem gl_eq {R : List Rw} {f v n : Nat} : ∀ m, (gl R f v (n + m)).length ≤ (gl R f v n).length → gl R f v (n + m) = gl R f v n
  | 0, _ => rfl
  | m + 1, h => by
    rw [show n + (m + 1) = (n + m) + 1 by omega] at h ⊢
    by_cases e : (R.getD (n + m) d0).1 f = v
    · rw [gl_y e, List.length_append] at h
      have := gl_mono (R := R) (f := f) (v := v) n m
      simp only [List.length_cons, List.length_nil] at h
      omega
    · rw [gl_n e] at h ⊢
      exact gl_eq m h
/-- LET ones of the first k of these rows -/
noncomputable def ltN (P : List (List Tk × Nat)) (R : List Rw) (L : List Nat) : Nat → Nat
  | 0 => 0
  | n + 1 => ltN P R L n + (if (rnS (R.getD (L.getD n 0) d0).1 0 P).1 = 1 then 1 else 0)
theorem ltN_le (P : List (List Tk × Nat)) (R : List Rw) (L : List Nat) : ∀ n, ltN P R L n ≤ n
  | 0 => Nat.le_refl _
  | n + 1 => by
    have := ltN_le P R L n
    rw [ltN]
    split <;> omega
theorem ltN_mo (P : List (List Tk × Nat)) (R : List Rw) (L : List Nat) {a : Nat} : ∀ {b : Nat}, a ≤ b → ltN P R L a ≤ ltN P R L b
  | 0, h => by rw [show a = 0 by omega]; exact Nat.le_refl _
  | b + 1, h => by
    by_cases e : a = b + 1
    · rw [e]; exact Nat.le_refl _
    · have := ltN_mo P R L (a := a) (b := b) (by omega)
      rw [ltN]; omega
theorem ltN_c {P : List (List Tk × Nat)} {R : List Rw} {L L' : List Nat} : ∀ n, (∀ k, k < n → L.getD k 0 = L'.getD k 0) → ltN P R L n = ltN P R L' n
  | 0, _ => rfl
  | n + 1, h => by rw [ltN, ltN, ltN_c n (fun k hk => h k (by omega)), h n (by omega)]
theorem ltN_a {P : List (List Tk × Nat)} {R : List Rw} {a b : List Nat} : ∀ n, n ≤ b.length → ltN P R (a ++ b) (a.length + n) = ltN P R a a.length + ltN P R b n
  | 0, _ => by
    rw [Nat.add_zero]
    exact ltN_c _ (fun k hk => by simp [List.getD_eq_getElem?_getD, List.getElem?_append_left hk])
  | n + 1, h => by
    rw [show a.length + (n + 1) = (a.length + n) + 1 by omega, ltN, ltN, ltN_a n (by omega)]
    rw [show (a ++ b).getD (a.length + n) 0 = b.getD n 0 by rw [List.getD_eq_getElem?_getD, List.getD_eq_getElem?_getD, List.getElem?_append_right (Nat.le_add_right _ _), Nat.add_sub_cancel_left]]
    omega
theorem ltN_gl (P : List (List Tk × Nat)) (R : List Rw) (f v : Nat) : ∀ n, ltN P R (gl R f v n) (gl R f v n).length = mbN P R f v 1 n
  | 0 => rfl
  | n + 1 => by
    by_cases h : (R.getD n d0).1 f = v
    · rw [gl_y h, List.length_append]
      have e := ltN_a (P := P) (R := R) (a := gl R f v n) (b := [n]) 1 (by simp)
      simp only [List.length_cons, List.length_nil] at e ⊢
      rw [e, ltN_gl P R f v n]
      by_cases h2 : (rnS (R.getD n d0).1 0 P).1 = 1
      · rw [mbN_y ⟨h, (isA_1 _).mpr h2⟩]
        have : ltN P R [n] 1 = 1 := by rw [ltN, ltN, show ([n] : List Nat).getD 0 0 = n from rfl]; simp only [h2, if_true, if_false]
        omega
      · rw [mbN_n (fun z => h2 ((isA_1 _).mp z.2))]
        have : ltN P R [n] 1 = 0 := by rw [ltN, ltN, show ([n] : List Nat).getD 0 0 = n from rfl]; simp only [h2, if_true, if_false]
        omega
    · rw [gl_n h, mbN_n (fun z => h z.1), ltN_gl P R f v n]
def MrR (A : FI) (L : List Nat) : Prop := A 26 0 1 = nI L.length ∧ al (A 27 0) L
abbrev gaL (f v k : Nat) : List (Option AV) := [some (.inr (.inr (some (26, 0)))), some (.inr (.inr (some (18, 0)))), some (.inl (nI f)), some (.inl (nI v)), some (.inl (nI k))]
def GAo (A : FI) (B : FJ) (L : List Nat) : Option AV → AH → Prop := fun r h' => ∃ A', r = none ∧ h' = hp A' B ∧ FmO 26 [27] [1] A A' ∧ MrR A' L
theorem l_gather {P : List (List Tk × Nat)} {R : List Rw} {f v : Nat} (hf : f < 8) (hv : v ≤ 20) {L : List Nat} (hL : L.length + (gl R f v R.length).length ≤ 24) {A0 : FI} {B : FJ} (hR : RCR A0 P R) : ∀ (m k : Nat) (A : FI), k + m = R.length → FmO 26 [27] [1] A0 A → MrR A (L ++ gl R f v k) → Rn 3 mtX4_gather 3 (gaL f v k) [] (hp A B) (GAo A0 B (L ++ gl R f v R.length)) := by
  intro m
  induction m with
  | zero =>
    intro k A hk hF hM
    have ek : k = R.length := by omega
    subst ek
    have h18 : A 18 0 3 = nI R.length := by rw [hF.1 18 (by decide) (by decide)]; exact hR.1
    refine R_go 9999 rfl rfl trivial ?_
    refine R_cvr rfl (m_sizeR h18) rfl rfl rfl rfl rfl (Nat.le_of_ble_eq_true rfl) rfl ?_
    refine R_br rfl rfl (fun _ => ?_) (fun h => absurd (Int32.le_refl _) h)
    refine R_rv rfl rfl ?_
    exact ⟨A, rfl, rfl, hF, hM⟩
  | succ m ih =>
    intro k A hk hF hM
    have h24 := hR.2.1
    have h18 : A 18 0 3 = nI R.length := by rw [hF.1 18 (by decide) (by decide)]; exact hR.1
    have hlen := gl_mono (R := R) (f := f) (v := v) k (m + 1)
    rw [hk] at hlen
    have tk := ti k (by omega)
    have tr := ti R.length (by omega)
    have tl := ti (L ++ gl R f v k).length (by rw [List.length_append]; omega)
    have hq : RPn k A (R.getD k d0).1 := fun f hf => by rw [hF.1 25 (by decide) (by decide)]; exact (hR.2.2 k (by omega)).1 f hf
    obtain ⟨e1, e2⟩ := hM
    refine R_go 9999 rfl rfl trivial ?_
    refine R_cvr rfl (m_sizeR h18) rfl rfl rfl rfl rfl (Nat.le_of_ble_eq_true rfl) rfl ?_
    refine R_br rfl rfl (fun h => absurd h (by (simp only [i_eq, i_lt, i_le, Int32.reduceToInt, true_and, and_true, false_and, and_false, or_false, false_or, or_true, true_or, ne_eq] at *; first | done | omega))) (fun _ => ?_)
    refine R_go 9999 rfl rfl trivial ?_
    try dsimp only [fgt, fpt]
    rw [e1]
    by_cases h24' : (L ++ gl R f v k).length < 24
    · refine R_br rfl rfl (fun h => absurd h (by (simp only [i_eq, i_lt, i_le, Int32.reduceToInt, true_and, and_true, false_and, and_false, or_false, false_or, or_true, true_or, ne_eq] at *; first | done | omega))) (fun _ => ?_)
      refine R_go 9999 rfl rfl trivial ?_
      refine R_cvr rfl (m_numR h18 h24 k (by omega) hq f hf) rfl rfl rfl rfl rfl (Nat.le_of_ble_eq_true rfl) rfl ?_
      refine R_go 9999 rfl rfl trivial ?_
      have hqb := (hq f hf).2
      have tv := ti v (by omega)
      have tq := ti ((R.getD k d0).1 f) (by omega)
      by_cases hvf : (R.getD k d0).1 f = v
      · have n1 : (if (R.getD k d0).1 f = 99 then (-1 : Int32) else nI ((R.getD k d0).1 f)) = nI v := by rw [if_neg (by omega), hvf]
        have cl : (nI (L ++ gl R f v k).length).toNatClampNeg = (L ++ gl R f v k).length := nI_clamp (by omega)
        have hvl : vp_in (nI (L ++ gl R f v k).length) 24 := vpN (n := 24) (by omega) rfl
        refine R_br rfl rfl (fun _ => ?_) (fun h => absurd n1 h)
        refine R_go 3 rfl rfl (by rw [e1]; exact hvl) ?_
        rw [e1, cl, up3_g (show 26 ≠ 27 by decide), e1, nI_1, nI_1]
        refine ih (k + 1) _ (by omega) (FmO_tr hF (by first | exact FmO_rf | (repeat' (first | exact FmO_rf | (with_reducible assumption) | (refine FmO_up ?_ (by decide)) | (refine FmO_ug ?_ (by decide) (by decide)))))) ?_
        rw [gl_y hvf, ← List.append_assoc]
        refine ⟨?_, ?_⟩
        · rw [up3_self]; congr 1; simp only [List.length_append, List.length_cons, List.length_nil]
        · rw [up3_g (by decide)]
          exact al_push e2 up3_self (fun j hj => up3_s (by omega))
      · have n1 : ¬ (if (R.getD k d0).1 f = 99 then (-1 : Int32) else nI ((R.getD k d0).1 f)) = nI v := by
          intro e
          by_cases h99 : (R.getD k d0).1 f = 99
          · rw [if_pos h99] at e
            rw [← e] at tv
            have : (-1 : Int32).toInt = -1 := by decide
            omega
          · rw [if_neg h99] at e
            exact hvf (nI_ij (by omega) (by omega) e)
        refine R_br rfl rfl (fun h => absurd h n1) (fun _ => ?_)
        refine R_go 3 rfl rfl trivial ?_
        rw [nI_1]
        refine ih (k + 1) A (by omega) hF ?_
        rw [gl_n hvf]
        exact ⟨e1, e2⟩
    · refine R_br rfl rfl (fun _ => ?_) (fun h => absurd (by (simp only [i_eq, i_lt, i_le, Int32.reduceToInt, true_and, and_true, false_and, and_false, or_false, false_or, or_true, true_or, ne_eq] at *; first | done | omega)) h)
      refine R_rv rfl rfl ?_
      have heq : gl R f v R.length = gl R f v k := by
        rw [← hk]
        refine gl_eq (m + 1) ?_
        rw [hk]
        rw [List.length_append] at h24'
        omega
      rw [heq]
      exact ⟨A, rfl, rfl, hF, e1, e2⟩
theorem m_gather {P : List (List Tk × Nat)} {R : List Rw} {f v : Nat} (hf : f < 8) (hv : v ≤ 20) {L : List Nat} (hL : L.length + (gl R f v R.length).length ≤ 24) {A : FI} {B : FJ} (hR : RCR A P R) (hM : MrR A L) : MV 3 3 mtX4_gather [.inr (.inr (some (26, 0))), .inr (.inr (some (18, 0))), .inl (nI f), .inl (nI v)] (hp A B) (GAo A B (L ++ gl R f v R.length)) := by
  refine MV_of caX4_gather (L := [some (.inr (.inr (some (26, 0)))), some (.inr (.inr (some (18, 0)))), some (.inl (nI f)), some (.inl (nI v)), none]) rfl rfl ?_
  refine R_go 3 rfl rfl trivial ?_
  exact l_gather hf hv hL hR R.length 0 A (by omega) FmO_rf (by rw [show gl R f v 0 = [] from rfl, List.append_nil]; exact hM)
abbrev ieL (x y k : Int32) (o7 o8 : Option AV) : List (Option AV) := [some (.inr (.inr (some (26, 0)))), some (.inr (.inr (some (4, 6)))), some (.inr (.inr (some (10, 0)))), some (.inr (.inr (some (18, 0)))), some (.inl x), some (.inl y), some (.inl k), o7, o8]
def IEo (A : FI) (B : FJ) (x : Prop) : Option AV → AH → Prop := fun r h' => ∃ A' B', h' = hp A' B' ∧ r = some (.inl (b2 x)) ∧ FmO 10 [] [1, 2, 3] A A' ∧ FmJ [11] B B'
theorem l_isEven {P P0 : List (List Tk × Nat)} {R : List Rw} (hP : okP P) {L : List Nat} {fs : Nat} (hfs : fs ≤ L.length) (h24 : L.length ≤ 24) (hLb : ∀ k, k < L.length → L.getD k 0 < R.length) {A0 : FI} {B0 : FJ} (hR : RCR A0 P0 R) (hS : RS 6 A0 P []) (hM : MrR A0 L) (h2 : A0 26 0 2 = nI fs) : ∀ (m k : Nat) (A : FI) (B : FJ), k + m = L.length → FmO 10 [] [1, 2, 3] A0 A → FmJ [11] B0 B → ∀ o7 o8, Rn 3 mtX4_isEven 9 (ieL (nI (ltN P R L (min k fs))) (nI (ltN P R L k - ltN P R L (min k fs))) (nI k) o7 o8) [] (hp A B) (IEo A0 B0 (ltN P R L fs * (L.length - fs) = (ltN P R L L.length - ltN P R L fs) * fs)) := by
  intro m
  induction m with
  | zero =>
    intro k A B hk hF hJ o7 o8
    have ek : k = L.length := by omega
    subst ek
    have e1 : A 26 0 1 = nI L.length := by rw [hF.1 26 (by decide) (by simp)]; exact hM.1
    have e2 : A 26 0 2 = nI fs := by rw [hF.1 26 (by decide) (by simp)]; exact h2
    have l1 := ltN_le P R L fs
    have l2 := ltN_le P R L L.length
    have q1 := m24 (a := ltN P R L fs) (b := L.length - fs) (by omega) (by omega)
    have q2 := m24 (a := ltN P R L L.length - ltN P R L fs) (b := fs) (by omega) (by omega)
    have hmin : min L.length fs = fs := by omega
    refine R_go 9999 rfl rfl trivial ?_
    try dsimp only [fgt, fpt]
    rw [e1]
    refine R_br rfl rfl (fun _ => ?_) (fun h => absurd (Int32.le_refl _) h)
    refine R_go 9999 rfl rfl trivial ?_
    try dsimp only [fgt, fpt]
    rw [hmin, e1, e2, nI_sub hfs, pk_mul, pk_mul]
    by_cases he : ltN P R L fs * (L.length - fs) = (ltN P R L L.length - ltN P R L fs) * fs
    · refine R_br rfl rfl (fun _ => ?_) (fun h => absurd (by rw [he]) h)
      repeat' (first
          | (refine R_br rfl rfl (fun hbr => absurd hbr (by first | decide | (with_reducible assumption))) (fun _ => ?_))
          | (refine R_br rfl rfl (fun _ => ?_) (fun hbr => absurd (by first | decide | (with_reducible assumption)) hbr))
          | (refine R_br rfl rfl (fun _ => ?_) (fun _ => ?_))
          | (refine R_ri rfl rfl ?_)
          | (refine R_rz rfl rfl (Or.inl rfl) ?_)
          | (refine R_rz rfl rfl (Or.inr rfl) ?_)
          | (refine R_rz rfl rfl (b2_01 _) ?_)
          | (refine R_rl rfl rfl ?_)
          | (refine R_rv rfl rfl ?_)
          | (refine R_sw _ rfl rfl rfl ?_)
          | (refine R_go 9999 rfl rfl trivial ?_)
          | (refine R_go 9999 rfl rfl (by first | (show _ ∨ _; decide) | (show (_ ∨ _) ∧ (_ ∨ _); decide) | (show (_ ∨ _) ∧ (_ ∨ _) ∧ (_ ∨ _); decide)) ?_)
          | (refine R_go 9999 rfl rfl ?_ ?_))
      exact ⟨A, B, rfl, by rw [b2_1 he], hF, hJ⟩
    · refine R_br rfl rfl (fun h => absurd (nI_ij (by omega) (by omega) h) he) (fun _ => ?_)
      repeat' (first
          | (refine R_br rfl rfl (fun hbr => absurd hbr (by first | decide | (with_reducible assumption))) (fun _ => ?_))
          | (refine R_br rfl rfl (fun _ => ?_) (fun hbr => absurd (by first | decide | (with_reducible assumption)) hbr))
          | (refine R_br rfl rfl (fun _ => ?_) (fun _ => ?_))
          | (refine R_ri rfl rfl ?_)
          | (refine R_rz rfl rfl (Or.inl rfl) ?_)
          | (refine R_rz rfl rfl (Or.inr rfl) ?_)
          | (refine R_rz rfl rfl (b2_01 _) ?_)
          | (refine R_rl rfl rfl ?_)
          | (refine R_rv rfl rfl ?_)
          | (refine R_sw _ rfl rfl rfl ?_)
          | (refine R_go 9999 rfl rfl trivial ?_)
          | (refine R_go 9999 rfl rfl (by first | (show _ ∨ _; decide) | (show (_ ∨ _) ∧ (_ ∨ _); decide) | (show (_ ∨ _) ∧ (_ ∨ _) ∧ (_ ∨ _); decide)) ?_)
          | (refine R_go 9999 rfl rfl ?_ ?_))
      exact ⟨A, B, rfl, by rw [b2_0 he], hF, hJ⟩
  | succ m ih =>
    intro k A B hk hF hJ o7 o8
    have e1 : A 26 0 1 = nI L.length := by rw [hF.1 26 (by decide) (by simp)]; exact hM.1
    have e2 : A 26 0 2 = nI fs := by rw [hF.1 26 (by decide) (by simp)]; exact h2
    have e27 : A 27 0 k = nI (L.getD k 0) := by rw [hF.1 27 (by decide) (by simp)]; exact hM.2 k (by omega)
    have h18 : A 18 0 3 = nI R.length := by rw [hF.1 18 (by decide) (by simp)]; exact hR.1
    have r24 := hR.2.1
    have hlk := hLb k (by omega)
    have hq : RPn (L.getD k 0) A (R.getD (L.getD k 0) d0).1 := fun f hf => by rw [hF.1 25 (by decide) (by simp)]; exact (hR.2.2 _ hlk).1 f hf
    have hS1 : RS 6 A P [] := RS_fr hS (by rw [hF.1 4 (by decide) (by simp)]) (by rw [hF.1 5 (by decide) (by simp)]) (by rw [hF.1 6 (by decide) (by simp)])
    have tk := ti k (by omega)
    have tl := ti L.length (by omega)
    have tf := ti fs (by omega)
    have ck : (nI k).toNatClampNeg = k := nI_clamp (by omega)
    have hvk : vp_in (nI k) 24 := vpN (n := 24) (by omega) rfl
    refine R_go 9999 rfl rfl trivial ?_
    try dsimp only [fgt, fpt]
    rw [e1]
    refine R_br rfl rfl (fun h => absurd h (by (simp only [i_eq, i_lt, i_le, Int32.reduceToInt, true_and, and_true, false_and, and_false, or_false, false_or, or_true, true_or, ne_eq] at *; first | done | omega))) (fun _ => ?_)
    refine R_go 9999 rfl rfl trivial ?_
    refine R_br rfl rfl (fun h => absurd h (by (simp only [i_eq, i_lt, i_le, Int32.reduceToInt, true_and, and_true, false_and, and_false, or_false, false_or, or_true, true_or, ne_eq] at *; first | done | omega))) (fun _ => ?_)
    refine R_go 9999 rfl rfl hvk ?_
    rw [ck, e27]
    refine R_cvr rfl (m_person h18 r24 _ hlk) rfl rfl rfl rfl rfl (Nat.le_of_ble_eq_true rfl) rfl ?_
    refine R_go 9999 rfl rfl trivial ?_
    refine R_cv rfl (m_walkP hP hS1 hq) rfl rfl rfl rfl rfl (Nat.le_of_ble_eq_true rfl) rfl ?_
    rintro r h' ⟨A1, B1, rfl, rfl, -, hF1, hJ1⟩
    have hrl := rnS_le hP (R.getD (L.getD k 0) d0).1
    have f2 : A1 26 0 2 = nI fs := by rw [hF1.1 26 (by decide) (by simp)]; exact e2
    have es : ltN P R L (k + 1) = ltN P R L k + (if (rnS (R.getD (L.getD k 0) d0).1 0 P).1 = 1 then 1 else 0) := rfl
    have lk := ltN_le P R L k
    have main : ∀ b : Nat, b ≤ 1 → b = (if (rnS (R.getD (L.getD k 0) d0).1 0 P).1 = 1 then 1 else 0) → ∀ o8, Rn 3 mtX4_isEven 59 (ieL (nI (ltN P R L (min k fs))) (nI (ltN P R L k - ltN P R L (min k fs))) (nI k) (some (.inr (.inr (some (24, L.getD k 0))))) o8) [.inl (nI b)] (hp A1 B1) (IEo A0 B0 (ltN P R L fs * (L.length - fs) = (ltN P R L L.length - ltN P R L fs) * fs)) := fun b hb1 hb o8 => by
      rw [← hb] at es
      have ihk := ih (k + 1) A1 B1 (by omega) (FmO_tr hF hF1) (FmJ_tr hJ hJ1)
      refine R_csr rfl (m_bitI b hb1 A1 B1) rfl rfl rfl (Nat.le_of_ble_eq_true rfl) rfl ?_
      refine R_go 9999 rfl rfl trivial ?_
      try dsimp only [fgt, fpt]
      rw [f2]
      by_cases hkf : k < fs
      · rw [show min k fs = k by omega]
        rw [show min (k + 1) fs = k + 1 by omega, es, show ltN P R L k + b - (ltN P R L k + b) = 0 by omega] at ihk
        rw [show ltN P R L k - ltN P R L k = 0 by omega]
        refine R_br rfl rfl (fun h => absurd h (by (simp only [i_eq, i_lt, i_le, Int32.reduceToInt, true_and, and_true, false_and, and_false, or_false, false_or, or_true, true_or, ne_eq] at *; first | done | omega))) (fun _ => ?_)
        refine R_go 9 rfl rfl trivial ?_
        rw [nI_add, nI_1]
        exact ihk _ _
      · have hmn : min k fs = fs := by omega
        have lf := ltN_le P R L fs
        have lm : ltN P R L fs ≤ ltN P R L k := ltN_mo P R L (by omega)
        rw [hmn]
        rw [show min (k + 1) fs = fs by omega, es, show ltN P R L k + b - ltN P R L fs = (ltN P R L k - ltN P R L fs) + b by omega] at ihk
        refine R_br rfl rfl (fun _ => ?_) (fun h => absurd (by (simp only [i_eq, i_lt, i_le, Int32.reduceToInt, true_and, and_true, false_and, and_false, or_false, false_or, or_true, true_or, ne_eq] at *; first | done | omega)) h)
        refine R_go 9 rfl rfl trivial ?_
        rw [nI_add, nI_1]
        exact ihk _ _
    refine R_go 9999 rfl rfl trivial ?_
    have tr := ti (rnS (R.getD (L.getD k 0) d0).1 0 P).1 (by omega)
    by_cases h1 : (rnS (R.getD (L.getD k 0) d0).1 0 P).1 = 1
    · refine R_br rfl rfl (fun _ => ?_) (fun h => absurd (by rw [h1]; rfl) h)
      refine R_go 59 rfl rfl trivial ?_
      exact main 1 (by omega) (by rw [if_pos h1]) _
    · refine R_br rfl rfl (fun h => absurd (nI_ij (b := 1) (by omega) (by omega) h) h1) (fun _ => ?_)
      refine R_go 59 rfl rfl trivial ?_
      exact main 0 (by omega) (by rw [if_neg h1]) _
