/-- what a condition comes to: 0, 1, 2 (something MISSING was read) -/
def hldS (q : Nat → Nat) (l : List Tk) : Nat := (evl q ([], []) l).2.headD 0
/-- RUN: the END (2: the host), which LINE -/
def rnS (q : Nat → Nat) : Nat → List (List Tk × Nat) → Nat × Int32
  | _, [] => (2, -1)
  | k, [l] => (l.2, nI k)
  | k, l :: m :: t => if hldS q l.1 = 0 then rnS q (k + 1) (m :: t) else if hldS q l.1 = 2 then (2, -1) else (l.2, nI k)
theorem typ_1 {z : Ev} (h : typ z (1, [])) : ∃ v, z = ([], [v]) ∧ v ≤ 2 := by
  obtain ⟨z1, z2⟩ := z
  obtain ⟨h1, h2, h3⟩ := h
  dsimp only at h1 h2 h3
  have e1 : z1 = [] := List.eq_nil_of_length_eq_zero h1
  obtain ⟨v, u, rfl⟩ := len1 h2 (by decide)
  have e2 : u = [] := by cases u with
    | nil => rfl
    | cons _ _ => simp at h2
  subst e1 e2
  exact ⟨v, rfl, h3 v (by simp)⟩
theorem RW_1 {A : FI} {B : FJ} {v : Nat} (h : RW A B ([], [v])) : B 11 0 0 = lN v ∧ A 10 0 1 = 1 := by
  obtain ⟨h1, h2, -⟩ := RW_tru h
  exact ⟨h1, h2⟩
theorem RW_0 {A : FI} {B : FJ} (h1 : A 10 0 1 = 0) (h2 : A 10 0 2 = 0) : RW A B ([], []) := ⟨[], trivial, jl_nil, h1, h2⟩
theorem m_endsLine {A : FI} {B : FJ} (v : Nat) (hv : v ≤ 2) (hR : RW A B ([], [v])) : MV 0 0 mtX10_endsLine [.inr (.inr (some (10, 0)))] (hp A B) (Ret (some (.inl (if v = 0 then 0 else 1))) (hp (if v = 0 then up3 (up3 A 10 0 1 0) 10 0 3 (A 10 0 3 + 1) else if v = 2 then up3 (up3 A 10 0 1 0) 10 0 3 (-1) else up3 A 10 0 1 0) B)) := by
  obtain ⟨e1, e2⟩ := RW_1 hR
  have f3 : up3 A 10 0 1 0 10 0 3 = A 10 0 3 := by rw [up3_s (by decide)]
  have c0 : B 11 0 (0 : Int32).toNatClampNeg = lN v := e1
  refine MV_of caX10_endsLine (L := [some (.inr (.inr (some (10, 0)))), none, none]) rfl rfl ?_
  refine R_go 9999 rfl rfl trivial ?_
  refine R_br rfl rfl (fun _ => ?_) (fun h => absurd e2 h)
  refine R_go 9999 rfl rfl (vpN (a := 0) (n := 80) (by decide) rfl) ?_
  rw [c0]
  rcases (show v = 0 ∨ v = 1 ∨ v = 2 by omega) with rfl | rfl | rfl
  ·
    repeat' (first
        | (refine R_br rfl rfl (fun hbr => absurd hbr (by first | decide | (with_reducible assumption))) (fun _ => ?_))
        | (refine R_br rfl rfl (fun _ => ?_) (fun hbr => absurd (by first | decide | (with_reducible assumption)) hbr))
        | (refine R_br rfl rfl (fun _ => ?_) (fun _ => ?_))
        | (refine R_ri rfl rfl ?_)
        | (refine R_rz rfl rfl (Or.inl rfl) ?_)
        | (refine R_rz rfl rfl (Or.inr rfl) ?_)
        | (refine R_rz rfl rfl (b2_01 _) ?_)
        | (refine R_rl rfl rfl ?_)
        | (refine R_rv rfl rfl ?_)
        | (refine R_sw _ rfl rfl rfl ?_)
        | (refine R_go 9999 rfl rfl trivial ?_)
        | (refine R_go 9999 rfl rfl (by first | (show _ ∨ _; decide) | (show (_ ∨ _) ∧ (_ ∨ _); decide) | (show (_ ∨ _) ∧ (_ ∨ _) ∧ (_ ∨ _); decide)) ?_)
        | (refine R_go 9999 rfl rfl ?_ ?_))
    rw [f3]; exact ret_i rfl rfl
  ·
    repeat' (first
        | (refine R_br rfl rfl (fun hbr => absurd hbr (by first | decide | (with_reducible assumption))) (fun _ => ?_))
        | (refine R_br rfl rfl (fun _ => ?_) (fun hbr => absurd (by first | decide | (with_reducible assumption)) hbr))
        | (refine R_br rfl rfl (fun _ => ?_) (fun _ => ?_))
        | (refine R_ri rfl rfl ?_)
        | (refine R_rz rfl rfl (Or.inl rfl) ?_)
        | (refine R_rz rfl rfl (Or.inr rfl) ?_)
        | (refine R_rz rfl rfl (b2_01 _) ?_)
        | (refine R_rl rfl rfl ?_)
        | (refine R_rv rfl rfl ?_)
        | (refine R_sw _ rfl rfl rfl ?_)
        | (refine R_go 9999 rfl rfl trivial ?_)
        | (refine R_go 9999 rfl rfl (by first | (show _ ∨ _; decide) | (show (_ ∨ _) ∧ (_ ∨ _); decide) | (show (_ ∨ _) ∧ (_ ∨ _) ∧ (_ ∨ _); decide)) ?_)
        | (refine R_go 9999 rfl rfl ?_ ?_))
    exact ret_i rfl rfl
  ·
    repeat' (first
        | (refine R_br rfl rfl (fun hbr => absurd hbr (by first | decide | (with_reducible assumption))) (fun _ => ?_))
        | (refine R_br rfl rfl (fun _ => ?_) (fun hbr => absurd (by first | decide | (with_reducible assumption)) hbr))
        | (refine R_br rfl rfl (fun _ => ?_) (fun _ => ?_))
        | (refine R_ri rfl rfl ?_)
        | (refine R_rz rfl rfl (Or.inl rfl) ?_)
        | (refine R_rz rfl rfl (Or.inr rfl) ?_)
        | (refine R_rz rfl rfl (b2_01 _) ?_)
        | (refine R_rl rfl rfl ?_)
        | (refine R_rv rfl rfl ?_)
        | (refine R_sw _ rfl rfl rfl ?_)
        | (refine R_go 9999 rfl rfl trivial ?_)
        | (refine R_go 9999 rfl rfl (by first | (show _ ∨ _; decide) | (show (_ ∨ _) ∧ (_ ∨ _); decide) | (show (_ ∨ _) ∧ (_ ∨ _) ∧ (_ ∨ _); decide)) ?_)
        | (refine R_go 9999 rfl rfl ?_ ?_))
    exact ret_i rfl rfl
def WKp (A : FI) (B : FJ) (x : Nat × Int32) : Option AV → AH → Prop := fun r h' => ∃ A' B', h' = hp A' B' ∧ r = some (.inl (nI x.1)) ∧ A' 10 0 3 = x.2 ∧ FmO 10 [] [1, 2, 3] A A' ∧ FmJ [11] B B'
theorem WKp_tr {A A1 : FI} {B B1 : FJ} {x : Nat × Int32} {r : Option AV} {h' : AH} (a : FmO 10 [] [1, 2, 3] A A1) (b : FmJ [11] B B1) (k : WKp A1 B1 x r h') : WKp A B x r h' := by
  obtain ⟨A', B', k1, k2, k3, k4, k5⟩ := k
  exact ⟨A', B', k1, k2, k3, FmO_tr a k4, FmJ_tr b k5⟩
theorem FmW_3 {A A' : FI} (h : FmW A A') : FmO 10 [] [1, 2, 3] A A' := FmO_w h (by decide) (by decide)
/-- at a code that ends a line -/
theorem st_end {s p : Nat} {A : FI} {B : FJ} {cl nl : List Nat} {q : Nat → Nat} {Q : Option AV → AH → Prop} (i c : Nat) (hS : SW s p A cl nl q) (hi : i < cl.length) (hc : cl.getD i 0 = c) (h1 : 16 ≤ c) (h2 : c < 20) (k18 : 18 ≤ c → Q (some (.inl (nI (c - 18)))) (hp A B)) (k16 : c < 18 → Rn 2 mtX10_walk 121 (wkL s p i (some (.inl (nI c)))) [] (hp A B) Q) (o : Option AV) : Rn 2 mtX10_walk 17 (wkL s p i o) [] (hp A B) Q := by
  obtain ⟨s1, s2, s3, s4, s5, s6, s7⟩ := hS
  have tI := ti i (by omega)
  have tl := ti cl.length (by omega)
  have tc := ti c (by omega)
  have hcd := m_codeC (B := B) s1 s2 s5 i hi
  rw [hc] at hcd
  have n33 : ¬ nI c = 33 := by (simp only [i_eq, i_lt, i_le, Int32.reduceToInt, true_and, and_true, false_and, and_false, or_false, false_or, or_true, true_or, ne_eq] at *; first | done | omega)
  refine R_go 9999 rfl rfl trivial ?_
  refine R_cvr rfl (m_sizeS s2) rfl rfl rfl rfl rfl (Nat.le_of_ble_eq_true rfl) rfl ?_
  refine R_br rfl rfl (fun h => absurd h (by (simp only [i_eq, i_lt, i_le, Int32.reduceToInt, true_and, and_true, false_and, and_false, or_false, false_or, or_true, true_or, ne_eq] at *; first | done | omega))) (fun _ => ?_)
  refine R_go 9999 rfl rfl trivial ?_
  refine R_cvr rfl hcd rfl rfl rfl rfl rfl (Nat.le_of_ble_eq_true rfl) rfl ?_
  by_cases h18 : 18 ≤ c
  ·
    repeat' (first
        | (refine R_br rfl rfl (fun hbr => absurd hbr (by first | decide | (with_reducible assumption) | (simp only [i_eq, i_lt, i_le, Int32.reduceToInt, ne_eq, up3_self, nI_1]; first | done | omega))) (fun _ => ?_))
        | (refine R_br rfl rfl (fun _ => ?_) (fun hbr => absurd (by first | decide | (with_reducible assumption) | (simp only [i_eq, i_lt, i_le, Int32.reduceToInt, ne_eq, up3_self, nI_1]; first | done | omega)) hbr))
        | (refine R_br rfl rfl (fun _ => ?_) (fun _ => ?_))
        | (refine R_ri rfl rfl ?_)
        | (refine R_rz rfl rfl (Or.inl rfl) ?_)
        | (refine R_rz rfl rfl (Or.inr rfl) ?_)
        | (refine R_rz rfl rfl (b2_01 _) ?_)
        | (refine R_rl rfl rfl ?_)
        | (refine R_rv rfl rfl ?_)
        | (refine R_sw _ rfl rfl rfl ?_)
        | (refine R_go 9999 rfl rfl trivial ?_)
        | (refine R_go 9999 rfl rfl (by first | (show _ ∨ _; decide) | (show (_ ∨ _) ∧ (_ ∨ _); decide) | (show (_ ∨ _) ∧ (_ ∨ _) ∧ (_ ∨ _); decide)) ?_)
        | (refine R_go 9999 rfl rfl ?_ ?_))
    rw [show nI c - 18 = nI (c - 18) from nI_sub (b := 18) h18]
    exact k18 h18
  ·
    repeat' (first
        | (refine R_stop 121 rfl rfl ?_)
        | (refine R_br rfl rfl (fun hbr => absurd hbr (by first | decide | (with_reducible assumption) | (simp only [i_eq, i_lt, i_le, Int32.reduceToInt, ne_eq, up3_self, nI_1]; first | done | omega))) (fun _ => ?_))
        | (refine R_br rfl rfl (fun _ => ?_) (fun hbr => absurd (by first | decide | (with_reducible assumption) | (simp only [i_eq, i_lt, i_le, Int32.reduceToInt, ne_eq, up3_self, nI_1]; first | done | omega)) hbr))
        | (refine R_br rfl rfl (fun _ => ?_) (fun _ => ?_))
        | (refine R_ri rfl rfl ?_)
        | (refine R_rz rfl rfl (Or.inl rfl) ?_)
        | (refine R_rz rfl rfl (Or.inr rfl) ?_)
        | (refine R_rz rfl rfl (b2_01 _) ?_)
        | (refine R_rl rfl rfl ?_)
        | (refine R_rv rfl rfl ?_)
        | (refine R_sw _ rfl rfl rfl ?_)
        | (refine R_go 121 rfl rfl trivial ?_)
        | (refine R_go 121 rfl rfl (by first | (show _ ∨ _; decide) | (show (_ ∨ _) ∧ (_ ∨ _); decide) | (show (_ ∨ _) ∧ (_ ∨ _) ∧ (_ ∨ _); decide)) ?_)
        | (refine R_go 121 rfl rfl ?_ ?_))
    exact ⟨k16 (by omega), trivial⟩
theorem l_walkP {s p : Nat} {cl nl : List Nat} {q : Nat → Nat} : ∀ (dn : List (List Tk × Nat)) (d i n k : Nat) (A : FI) (B : FJ), SW s p A cl nl q → (∀ j, j < (encL n (dn ++ [([], d)])).length → i + j < cl.length ∧ cl.getD (i + j) 0 = (encL n (dn ++ [([], d)])).getD j 0) → (∀ j, j < (nmL dn).length → n + j < nl.length ∧ nl.getD (n + j) 0 = (nmL dn).getD j 0) → allW dn → d ≤ 1 → RW A B ([], []) → A 10 0 3 = nI k → k ≤ i → ∀ o, Rn 2 mtX10_walk 17 (wkL s p i o) [] (hp A B) (WKp A B (rnS q k (dn ++ [([], d)]))) := by
  intro dn
  induction dn with
  | nil =>
    intro d i n k A B hS hc hn hW hd hR hk hki o
    have h0 := hc 0 (by simp [encL, enc])
    refine st_end i (18 + d) hS (by simpa using h0.1) (by simpa [encL, enc] using h0.2) (by omega) (by omega) (fun _ => ?_) (fun z => by omega) o
    exact ⟨A, B, rfl, by rw [show 18 + d - 18 = d by omega]; rfl, hk, FmO_rf, FmJ_rf⟩
  | cons l t ih =>
    intro d i n k A B hS hc hn hW hd hR hk hki o
    obtain ⟨w1, w2, w3⟩ := hW l List.mem_cons_self
    have hcl := hS.2.2.2.2.1
    have he : encL n ((l :: t) ++ [([], d)]) = enc n l.1 ++ ((16 + l.2) :: encL (n + (nms l.1).length) (t ++ [([], d)])) := by
      rw [List.cons_append, encL, if_neg w1]
    rw [he] at hc
    rw [nmL_s] at hn
    have hll : (enc n l.1).length = l.1.length := enc_len _ _
    have hrn : rnS q k ((l :: t) ++ [([], d)]) = if hldS q l.1 = 0 then rnS q (k + 1) (t ++ [([], d)]) else if hldS q l.1 = 2 then (2, -1) else (l.2, nI k) := by
      cases t with
      | nil => rfl
      | cons m t' => rfl
    have hlast := hc (l.1.length) (by simp [hll])
    have hge : (enc n l.1 ++ ((16 + l.2) :: encL (n + (nms l.1).length) (t ++ [([], d)]))).getD l.1.length 0 = 16 + l.2 := by
      simp [List.getD_eq_getElem?_getD, ← hll]
    rw [hge] at hlast
    refine l_walkT l.1 i n ([], []) (0, []) (1, []) A B hS (fun j hj => ?_) (fun j hj => ?_) w2 ⟨rfl, rfl, fun v hv => by simp at hv⟩ hR ?_ (fun A1 B1 o1 hR1 ht hF hJ => ?_) o
    · have := hc j (by simp [hll]; omega)
      refine ⟨this.1, ?_⟩
      rw [this.2]
      simp [List.getD_eq_getElem?_getD, List.getElem?_append_left (show j < (enc n l.1).length by omega)]
    · have := hn j (by simp; omega)
      refine ⟨this.1, ?_⟩
      rw [this.2]
      simp [List.getD_eq_getElem?_getD, List.getElem?_append_left hj]
    · simp; omega
    · obtain ⟨v, hv, hv2⟩ := typ_1 ht
      have hhv : hldS q l.1 = v := by unfold hldS; rw [hv]; rfl
      rw [hv] at hR1
      have e3 : A1 10 0 3 = nI k := by rw [hF.2 3 (by decide)]; exact hk
      have e2 : A1 10 0 2 = 0 := by obtain ⟨ys, -, -, -, z⟩ := hR1; exact z
      refine st_end (i + l.1.length) (16 + l.2) (SW_fr hS hF) hlast.1 hlast.2 (by omega) (by omega) (fun z => by omega) (fun _ => ?_) o1
      rw [hrn, hhv]
      by_cases h0 : v = 0
      · subst h0
        rw [if_pos rfl]
        repeat' (first
            | (refine R_stop 17 rfl rfl ?_)
            | (refine R_br rfl rfl (fun hbr => absurd hbr (by first | decide | (with_reducible assumption))) (fun _ => ?_))
            | (refine R_br rfl rfl (fun _ => ?_) (fun hbr => absurd (by first | decide | (with_reducible assumption)) hbr))
            | (refine R_br rfl rfl (fun _ => ?_) (fun _ => ?_))
            | (refine R_ri rfl rfl ?_)
            | (refine R_rz rfl rfl (Or.inl rfl) ?_)
            | (refine R_rz rfl rfl (Or.inr rfl) ?_)
            | (refine R_rz rfl rfl (b2_01 _) ?_)
            | (refine R_rl rfl rfl ?_)
            | (refine R_rv rfl rfl ?_)
            | (refine R_cvr rfl (m_endsLine 0 (by decide) hR1) rfl rfl rfl rfl rfl (Nat.le_of_ble_eq_true rfl) rfl ?_)
            | (refine R_sw _ rfl rfl rfl ?_)
            | (refine R_go 17 rfl rfl trivial ?_)
            | (refine R_go 17 rfl rfl (by first | (show _ ∨ _; decide) | (show (_ ∨ _) ∧ (_ ∨ _); decide) | (show (_ ∨ _) ∧ (_ ∨ _) ∧ (_ ∨ _); decide)) ?_)
            | (refine R_go 17 rfl rfl ?_ ?_))
        refine ⟨?_, trivial⟩
        rw [nI_1, if_pos rfl, e3, nI_1]
        have hA2 : FmO 10 [] [1, 2, 3] A (up3 (up3 A1 10 0 1 0) 10 0 3 (nI (k + 1))) := FmO_tr (FmW_3 hF) (by first | exact FmO_rf | (repeat' (first | exact FmO_rf | (with_reducible assumption) | (refine FmO_up ?_ (by decide)) | (refine FmO_ug ?_ (by decide) (by decide)))))
        refine R_mono (fun r h' z => WKp_tr hA2 hJ z) (ih d (i + l.1.length + 1) (n + (nms l.1).length) (k + 1) _ B1 (SW_fr hS hA2) (fun j hj => ?_) (fun j hj => ?_) (fun x hx => hW x (List.mem_cons_of_mem _ hx)) hd (RW_0 (by rw [up3_s (by decide), up3_self]) (by rw [up3_s (by decide), up3_s (by decide)]; exact e2)) up3_self (by omega) _)
        · have := hc (l.1.length + 1 + j) (by simp [hll]; omega)
          rw [show i + l.1.length + 1 + j = i + (l.1.length + 1 + j) by omega]
          refine ⟨this.1, ?_⟩
          rw [this.2]
          simp [List.getD_eq_getElem?_getD, List.getElem?_append_right (show (enc n l.1).length ≤ l.1.length + 1 + j by omega), hll, show l.1.length + 1 + j - l.1.length = j + 1 by omega]
        · have := hn ((nms l.1).length + j) (by simp; omega)
          rw [show n + (nms l.1).length + j = n + ((nms l.1).length + j) by omega]
          refine ⟨this.1, ?_⟩
          rw [this.2]
          simp [List.getD_eq_getElem?_getD, List.getElem?_append_right]
      · have hme := m_endsLine v hv2 hR1
        rw [if_neg h0, if_neg h0] at hme
        rw [if_neg h0]
        by_cases h2 : v = 2
        · rw [if_pos h2]
          rw [if_pos h2] at hme
          repeat' (first
              | (refine R_br rfl rfl (fun hbr => absurd hbr (by first | decide | (with_reducible assumption) | (simp only [up3_self]; first | decide | (with_reducible assumption)) | (simp only [i_eq, i_lt, i_le, Int32.reduceToInt, ne_eq, up3_self, nI_1, up3_self]; first | done | omega))) (fun _ => ?_))
              | (refine R_br rfl rfl (fun _ => ?_) (fun hbr => absurd (by first | decide | (with_reducible assumption) | (simp only [up3_self]; first | decide | (with_reducible assumption)) | (simp only [i_eq, i_lt, i_le, Int32.reduceToInt, ne_eq, up3_self, nI_1, up3_self]; first | done | omega)) hbr))
              | (refine R_br rfl rfl (fun _ => ?_) (fun _ => ?_))
              | (refine R_ri rfl rfl ?_)
              | (refine R_rz rfl rfl (Or.inl rfl) ?_)
              | (refine R_rz rfl rfl (Or.inr rfl) ?_)
              | (refine R_rz rfl rfl (b2_01 _) ?_)
              | (refine R_rl rfl rfl ?_)
              | (refine R_rv rfl rfl ?_)
              | (refine R_cvr rfl (hme) rfl rfl rfl rfl rfl (Nat.le_of_ble_eq_true rfl) rfl ?_)
              | (refine R_sw _ rfl rfl rfl ?_)
              | (refine R_go 9999 rfl rfl trivial ?_)
              | (refine R_go 9999 rfl rfl (by first | (show _ ∨ _; decide) | (show (_ ∨ _) ∧ (_ ∨ _); decide) | (show (_ ∨ _) ∧ (_ ∨ _) ∧ (_ ∨ _); decide)) ?_)
              | (refine R_go 9999 rfl rfl ?_ ?_))
          exact ⟨_, _, rfl, rfl, up3_self, FmO_tr (FmW_3 hF) (by first | exact FmO_rf | (repeat' (first | exact FmO_rf | (with_reducible assumption) | (refine FmO_up ?_ (by decide)) | (refine FmO_ug ?_ (by decide) (by decide))))), hJ⟩
        · rw [if_neg h2]
          rw [if_neg h2] at hme
          have tk := ti k (by have := hlast.1; omega)
          have n3 : ¬ up3 A1 10 0 1 0 10 0 3 = -1 := by rw [up3_s (by decide), e3]; (simp only [i_eq, i_lt, i_le, Int32.reduceToInt, true_and, and_true, false_and, and_false, or_false, false_or, or_true, true_or, ne_eq] at *; first | done | omega)
          repeat' (first
              | (refine R_br rfl rfl (fun hbr => absurd hbr (by first | decide | (with_reducible assumption))) (fun _ => ?_))
              | (refine R_br rfl rfl (fun _ => ?_) (fun hbr => absurd (by first | decide | (with_reducible assumption)) hbr))
              | (refine R_br rfl rfl (fun _ => ?_) (fun _ => ?_))
              | (refine R_ri rfl rfl ?_)
              | (refine R_rz rfl rfl (Or.inl rfl) ?_)
              | (refine R_rz rfl rfl (Or.inr rfl) ?_)
              | (refine R_rz rfl rfl (b2_01 _) ?_)
              | (refine R_rl rfl rfl ?_)
              | (refine R_rv rfl rfl ?_)
              | (refine R_cvr rfl (hme) rfl rfl rfl rfl rfl (Nat.le_of_ble_eq_true rfl) rfl ?_)
              | (refine R_sw _ rfl rfl rfl ?_)
              | (refine R_go 9999 rfl rfl trivial ?_)
              | (refine R_go 9999 rfl rfl (by first | (show _ ∨ _; decide) | (show (_ ∨ _) ∧ (_ ∨ _); decide) | (show (_ ∨ _) ∧ (_ ∨ _) ∧ (_ ∨ _); decide)) ?_)
              | (refine R_go 9999 rfl rfl ?_ ?_))
          rw [show nI (16 + l.2) - 16 = nI l.2 from by have := nI_sub (a := 16 + l.2) (b := 16) (by omega); rw [show 16 + l.2 - 16 = l.2 by omega] at this; exact this]
          exact ⟨_, _, rfl, rfl, by rw [up3_s (by decide)]; exact e3, FmO_tr (FmW_3 hF) (by first | exact FmO_rf | (repeat' (first | exact FmO_rf | (with_reducible assumption) | (refine FmO_up ?_ (by decide)) | (refine FmO_ug ?_ (by decide) (by decide))))), hJ⟩
/-- a Script, written -/
def RS (i : Nat) (A : FI) (dn : List (List Tk × Nat)) (cur : List Tk) : Prop := al (A 5 i) (cdO (dn, cur, [])) ∧ A 4 i 3 = nI (cdO (dn, cur, [])).length ∧ al (A 6 i) (nmO (dn, cur, [])) ∧ A 4 i 4 = nI (nmO (dn, cur, [])).length ∧ A 4 i 5 = nI dn.length
theorem RS_of {i : Nat} {A : FI} {o : Os} (h : RSO i A o) : RS i A o.1 o.2.1 := by
  obtain ⟨a1, a2, a3, a4, a5, -⟩ := h
  exact ⟨a1, a2, a3, a4, a5⟩
/-- a person's numbers -/
def RPn (p : Nat) (A : FI) (q : Nat → Nat) : Prop := ∀ f, f < 8 → A 25 p f = (if q f = 99 then -1 else nI (q f)) ∧ (q f ≤ 20 ∨ q f = 99)
def okP (P : List (List Tk × Nat)) : Prop := (∃ dn d, P = dn ++ [([], d)] ∧ d ≤ 1 ∧ allW dn) ∧ szk (P, [], []) ≤ 80
theorem szk_cd {dn : List (List Tk × Nat)} {cur : List Tk} (h : szk (dn, cur, []) ≤ 80) : (cdO (dn, cur, [])).length ≤ 80 ∧ (nmO (dn, cur, [])).length ≤ 80 := by
  have h1 := cdO_len (dn, cur, [])
  have h2 := nmO_le (dn, cur, [])
  simp only [szk, ln1, szO, List.length_nil] at h
  dsimp only at h1
  omega
theorem m_walkP {s p : Nat} {A : FI} {B : FJ} {P : List (List Tk × Nat)} {q : Nat → Nat} (hP : okP P) (hS : RS s A P []) (hq : RPn p A q) : MV 2 2 mtX10_walk [.inr (.inr (some (10, 0))), .inr (.inr (some (4, s))), .inr (.inr (some (24, p)))] (hp A B) (WKp A B (rnS q 0 P)) := by
  obtain ⟨⟨dn, d, rfl, hd, hW⟩, hz⟩ := hP
  obtain ⟨a1, a2, a3, a4, a5⟩ := hS
  obtain ⟨z1, z2⟩ := szk_cd hz
  refine MV_of caX10_walk (L := [some (.inr (.inr (some (10, 0)))), some (.inr (.inr (some (4, s)))), some (.inr (.inr (some (24, p)))), none, none]) rfl rfl ?_
  have hF : FmO 10 [] [1, 2, 3] A (up3 (up3 (up3 A 10 0 1 0) 10 0 2 0) 10 0 3 0) := (by first | exact FmO_rf | (repeat' (first | exact FmO_rf | (with_reducible assumption) | (refine FmO_up ?_ (by decide)) | (refine FmO_ug ?_ (by decide) (by decide)))))
  repeat' (first
      | (refine R_stop 17 rfl rfl ?_)
      | (refine R_br rfl rfl (fun hbr => absurd hbr (by first | decide | (with_reducible assumption))) (fun _ => ?_))
      | (refine R_br rfl rfl (fun _ => ?_) (fun hbr => absurd (by first | decide | (with_reducible assumption)) hbr))
      | (refine R_br rfl rfl (fun _ => ?_) (fun _ => ?_))
      | (refine R_ri rfl rfl ?_)
      | (refine R_rz rfl rfl (Or.inl rfl) ?_)
      | (refine R_rz rfl rfl (Or.inr rfl) ?_)
      | (refine R_rz rfl rfl (b2_01 _) ?_)
      | (refine R_rl rfl rfl ?_)
      | (refine R_rv rfl rfl ?_)
      | (refine R_sw _ rfl rfl rfl ?_)
      | (refine R_go 17 rfl rfl trivial ?_)
      | (refine R_go 17 rfl rfl (by first | (show _ ∨ _; decide) | (show (_ ∨ _) ∧ (_ ∨ _); decide) | (show (_ ∨ _) ∧ (_ ∨ _) ∧ (_ ∨ _); decide)) ?_)
      | (refine R_go 17 rfl rfl ?_ ?_))
  refine ⟨R_weak (L' := wkL s p 0 none) (by simp [lsub, nI_0]) ?_, trivial⟩
  refine R_mono (fun r h' z => WKp_tr hF FmJ_rf z) (l_walkP (cl := cdO (dn ++ [([], d)], [], [])) (nl := nmO (dn ++ [([], d)], [], [])) dn d 0 0 0 _ B (SW_fr ⟨a1, a2, a3, a4, z1, z2, hq⟩ hF) (fun j hj => ?_) (fun j hj => ?_) hW hd (RW_0 (by rw [up3_s (by decide), up3_s (by decide), up3_self]) (by rw [up3_s (by decide), up3_self])) up3_self (Nat.le_refl _) none)
  · have e : cdO (dn ++ [([], d)], [], []) = encL 0 (dn ++ [([], d)]) := by simp [cdO, enc]
    rw [e, Nat.zero_add]; exact ⟨hj, rfl⟩
  · have e : nmO (dn ++ [([], d)], [], []) = nmL dn := by simp [nmO, nmL, nms]
    rw [e, Nat.zero_add]; exact ⟨hj, rfl⟩
theorem m_walkL {s p : Nat} {A : FI} {B : FJ} {l : List Tk} {q : Nat → Nat} (hl : wfs (0, []) l = some (1, [])) (hz : l.length ≤ 80) (hS : RS s A [] l) (hq : RPn p A q) : MV 2 2 mtX10_walk [.inr (.inr (some (10, 0))), .inr (.inr (some (4, s))), .inr (.inr (some (24, p)))] (hp A B) (fun r h' => ∃ A' B', h' = hp A' B' ∧ r = some (.inl (nI (hldS q l))) ∧ FmO 10 [] [1, 2, 3] A A' ∧ FmJ [11] B B') := by
  obtain ⟨a1, a2, a3, a4, a5⟩ := hS
  have ec : cdO ([], l, []) = enc 0 l := by simp [cdO, encL, nmL, nms]
  have en : nmO ([], l, []) = nms l := by simp [nmO, nmL, nms]
  rw [ec] at a1 a2
  rw [en] at a3 a4
  have z1 : (enc 0 l).length = l.length := enc_len _ _
  have z2 := nms_le l
  refine MV_of caX10_walk (L := [some (.inr (.inr (some (10, 0)))), some (.inr (.inr (some (4, s)))), some (.inr (.inr (some (24, p)))), none, none]) rfl rfl ?_
  have hF : FmO 10 [] [1, 2, 3] A (up3 (up3 (up3 A 10 0 1 0) 10 0 2 0) 10 0 3 0) := (by first | exact FmO_rf | (repeat' (first | exact FmO_rf | (with_reducible assumption) | (refine FmO_up ?_ (by decide)) | (refine FmO_ug ?_ (by decide) (by decide)))))
  have hS0 := SW_fr (q := q) (p := p) ⟨a1, a2, a3, a4, by omega, by omega, hq⟩ hF
  repeat' (first
      | (refine R_stop 17 rfl rfl ?_)
      | (refine R_br rfl rfl (fun hbr => absurd hbr (by first | decide | (with_reducible assumption))) (fun _ => ?_))
      | (refine R_br rfl rfl (fun _ => ?_) (fun hbr => absurd (by first | decide | (with_reducible assumption)) hbr))
      | (refine R_br rfl rfl (fun _ => ?_) (fun _ => ?_))
      | (refine R_ri rfl rfl ?_)
      | (refine R_rz rfl rfl (Or.inl rfl) ?_)
      | (refine R_rz rfl rfl (Or.inr rfl) ?_)
      | (refine R_rz rfl rfl (b2_01 _) ?_)
      | (refine R_rl rfl rfl ?_)
      | (refine R_rv rfl rfl ?_)
      | (refine R_sw _ rfl rfl rfl ?_)
      | (refine R_go 17 rfl rfl trivial ?_)
      | (refine R_go 17 rfl rfl (by first | (show _ ∨ _; decide) | (show (_ ∨ _) ∧ (_ ∨ _); decide) | (show (_ ∨ _) ∧ (_ ∨ _) ∧ (_ ∨ _); decide)) ?_)
      | (refine R_go 17 rfl rfl ?_ ?_))
  refine ⟨R_weak (L' := wkL s p 0 none) (by simp [lsub, nI_0]) ?_, trivial⟩
  refine l_walkT l 0 0 ([], []) (0, []) (1, []) _ B hS0 (fun j hj => ?_) (fun j hj => ?_) hl ⟨rfl, rfl, fun v hv => by simp at hv⟩ (RW_0 (by rw [up3_s (by decide), up3_s (by decide), up3_self]) (by rw [up3_s (by decide), up3_self])) (by simpa using hz) (fun A1 B1 o1 hR1 ht hF1 hJ => ?_) none
  · rw [Nat.zero_add]; exact ⟨by omega, rfl⟩
  · rw [Nat.zero_add]; exact ⟨hj, rfl⟩
  · obtain ⟨v, hv, hv2⟩ := typ_1 ht
    have hhv : hldS q l = v := by unfold hldS; rw [hv]; rfl
    rw [hv] at hR1
    obtain ⟨e1, e2⟩ := RW_1 hR1
    have c0 : B1 11 0 (0 : Int32).toNatClampNeg = lN v := e1
    have hs1 : A1 4 s 3 = nI l.length := by rw [hF1.1 4 (by decide) (by simp), ← z1]; exact hS0.2.1
    have n1 : nI l.length ≤ nI (0 + l.length) := by rw [Nat.zero_add]; exact Int32.le_refl _
    repeat' (first
        | (refine R_br rfl rfl (fun hbr => absurd hbr (by first | decide | (with_reducible assumption))) (fun _ => ?_))
        | (refine R_br rfl rfl (fun _ => ?_) (fun hbr => absurd (by first | decide | (with_reducible assumption)) hbr))
        | (refine R_br rfl rfl (fun _ => ?_) (fun _ => ?_))
        | (refine R_ri rfl rfl ?_)
        | (refine R_rz rfl rfl (Or.inl rfl) ?_)
        | (refine R_rz rfl rfl (Or.inr rfl) ?_)
        | (refine R_rz rfl rfl (b2_01 _) ?_)
        | (refine R_rl rfl rfl ?_)
        | (refine R_rv rfl rfl ?_)
        | (refine R_cvr rfl (m_sizeS hs1) rfl rfl rfl rfl rfl (Nat.le_of_ble_eq_true rfl) rfl ?_)
        | (refine R_sw _ rfl rfl rfl ?_)
        | (refine R_go 9999 rfl rfl trivial ?_)
        | (refine R_go 9999 rfl rfl (by first | (show _ ∨ _; decide) | (show (_ ∨ _) ∧ (_ ∨ _); decide) | (show (_ ∨ _) ∧ (_ ∨ _) ∧ (_ ∨ _); decide)) ?_)
        | (refine R_go 9999 rfl rfl ?_ ?_))
    · exact vpN (a := 0) (n := 80) (by decide) rfl
    · rw [c0, lN_i, hhv]
      exact ⟨A1, B1, rfl, rfl, FmO_tr hF (FmW_3 hF1), hJ⟩
