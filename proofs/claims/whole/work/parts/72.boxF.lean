theorem l_boxP {s g fr : Nat} {cl nl : List Nat} {bx : Nat → Int × Int} (hg : (g = 16 ∧ fr + 16 ≤ 2592) ∨ (g = 30 ∧ fr + 16 ≤ 16)) (h99 : b99 bx) : ∀ (dn : List (List Tk × Nat)) (d i n r : Nat) (A : FI) (B : FJ), SX s A cl nl → SBx g fr A bx → (∀ j, j < (encL n (dn ++ [([], d)])).length → i + j < cl.length ∧ cl.getD (i + j) 0 = (encL n (dn ++ [([], d)])).getD j 0) → (∀ j, j < (nmL dn).length → n + j < nl.length ∧ nl.getD (n + j) 0 = (nmL dn).getD j 0) → allW dn → d ≤ 1 → r ≤ 3 → RX A B [] → ∀ o, Rn 2 mtX9_endsOver 27 (exL s g fr r i o) [] (hp A B) (EnP A B (enS bx r (dn ++ [([], d)]))) := by
  intro dn
  induction dn with
  | nil =>
    intro d i n r A B hS hx hc hn hW hd hr hR o
    have h0 := hc 0 (by simp [encL, enc])
    refine st_boxE i (18 + d) hS (by simpa using h0.1) (by simpa [encL, enc] using h0.2) (by omega) (by omega) hr (fun _ => ?_) (fun z => by omega) o
    exact ⟨A, B, rfl, by rw [show 18 + d - 18 = d by omega]; rfl, FmO_rf, FmJ_rf⟩
  | cons l t ih =>
    intro d i n r A B hS hx hc hn hW hd hr hR o
    obtain ⟨w1, w2, w3⟩ := hW l List.mem_cons_self
    have hcl := hS.2.2.2.2.1
    have he : encL n ((l :: t) ++ [([], d)]) = enc n l.1 ++ ((16 + l.2) :: encL (n + (nms l.1).length) (t ++ [([], d)])) := by
      rw [List.cons_append, encL, if_neg w1]
    rw [he] at hc
    rw [nmL_s] at hn
    have hll : (enc n l.1).length = l.1.length := enc_len _ _
    have hrn : enS bx r ((l :: t) ++ [([], d)]) = if trB bx l.1 = 1 then ob r l.2 else enS bx (if trB bx l.1 = 0 then r else ob r l.2) (t ++ [([], d)]) := by
      cases t with
      | nil => rfl
      | cons m t' => rfl
    have hlast := hc (l.1.length) (by simp [hll])
    have hge : (enc n l.1 ++ ((16 + l.2) :: encL (n + (nms l.1).length) (t ++ [([], d)]))).getD l.1.length 0 = 16 + l.2 := by
      simp [List.getD_eq_getElem?_getD, ← hll]
    rw [hge] at hlast
    refine l_boxT hg h99 l.1 i n ([], []) (0, []) (1, []) A B hS hx (fun j hj => ?_) (fun j hj => ?_) w2 ⟨trivial, rfl, fun v hv => by simp at hv⟩ hR ?_ (fun A1 B1 o1 hR1 ht hF hJ => ?_) o
    · have := hc j (by simp [hll]; omega)
      refine ⟨this.1, ?_⟩
      rw [this.2]
      simp [List.getD_eq_getElem?_getD, List.getElem?_append_left (show j < (enc n l.1).length by omega)]
    · have := hn j (by simp; omega)
      refine ⟨this.1, ?_⟩
      rw [this.2]
      simp [List.getD_eq_getElem?_getD, List.getElem?_append_left hj]
    · simp; omega
    · obtain ⟨v, hv, hv2⟩ := bty_1 ht
      have hhv : trB bx l.1 = v := by unfold trB; rw [hv]; rfl
      rw [hv] at hR1
      have hR2 : RX A1 B1 [tp v] := hR1
      refine st_boxE (i + l.1.length) (16 + l.2) (SX_fr hS hF) hlast.1 hlast.2 (by omega) (by omega) hr (fun z => by omega) (fun _ => ?_) o1
      rw [hrn, hhv]
      refine st_boxF (i + l.1.length) l.2 v (by omega) hr hv2 (by omega) hR2 (fun h1 => ?_) (fun h0 => ?_)
      · rw [if_pos h1]
        exact ⟨A1, B1, rfl, rfl, hF, hJ⟩
      · rw [if_neg h0]
        have hA2 : FmSp A (up3 A1 12 0 2 0) := FmO_tr hF (by first | exact FmO_rf | (repeat' (first | exact FmO_rf | (with_reducible assumption) | (refine FmO_up ?_ (by decide)) | (refine FmO_ug ?_ (by decide) (by decide)))))
        refine R_mono (fun r h' z => EnP_tr hA2 hJ z) (ih d (i + l.1.length + 1) (n + (nms l.1).length) (if v = 0 then r else ob r l.2) _ B1 (SX_fr hS hA2) (SBx_fr hx (by omega) hA2) (fun j hj => ?_) (fun j hj => ?_) (fun x hx => hW x (List.mem_cons_of_mem _ hx)) hd ?_ (RX_0 up3_self) _)
        · have := hc (l.1.length + 1 + j) (by simp [hll]; omega)
          rw [show i + l.1.length + 1 + j = i + (l.1.length + 1 + j) by omega]
          refine ⟨this.1, ?_⟩
          rw [this.2]
          simp [List.getD_eq_getElem?_getD, List.getElem?_append_right (show (enc n l.1).length ≤ l.1.length + 1 + j by omega), hll, show l.1.length + 1 + j - l.1.length = j + 1 by omega]
        · have := hn ((nms l.1).length + j) (by simp; omega)
          rw [show n + (nms l.1).length + j = n + ((nms l.1).length + j) by omega]
          refine ⟨this.1, ?_⟩
          rw [this.2]
          simp [List.getD_eq_getElem?_getD, List.getElem?_append_right]
        · by_cases hz : v = 0
          · rw [if_pos hz]; exact hr
          · rw [if_neg hz]; exact ob_le hr (by omega)
theorem m_endsOver {s g fr : Nat} {A : FI} {B : FJ} {P : List (List Tk × Nat)} {bx : Nat → Int × Int} (hg : (g = 16 ∧ fr + 16 ≤ 2592) ∨ (g = 30 ∧ fr + 16 ≤ 16)) (h99 : b99 bx) (hx : SBx g fr A bx) (hP : okP P) (hS : RS s A P []) : MV 2 3 mtX9_endsOver [.inr (.inr (some (12, 0))), .inr (.inr (some (4, s))), .inr (.inr (some (g, 0))), .inl (nI fr)] (hp A B) (EnP A B (enS bx 0 P)) := by
  obtain ⟨⟨dn, d, rfl, hd, hW⟩, hz⟩ := hP
  obtain ⟨a1, a2, a3, a4, a5⟩ := hS
  obtain ⟨z1, z2⟩ := szk_cd hz
  have hF : FmSp A (up3 A 12 0 2 0) := (by first | exact FmO_rf | (repeat' (first | exact FmO_rf | (with_reducible assumption) | (refine FmO_up ?_ (by decide)) | (refine FmO_ug ?_ (by decide) (by decide)))))
  have tf := ti fr (by omega)
  refine MV_of caX9_endsOver (L := [some (.inr (.inr (some (12, 0)))), some (.inr (.inr (some (4, s)))), some (.inr (.inr (some (g, 0)))), some (.inl (nI fr)), none, none, none]) rfl rfl ?_
  have fin : Rn 2 mtX9_endsOver 27 (exL s g fr 0 0 none) [] (hp (up3 A 12 0 2 0) B) (EnP A B (enS bx 0 (dn ++ [([], d)]))) := by
    refine R_mono (fun r h' z => EnP_tr hF FmJ_rf z) (l_boxP hg h99 (cl := cdO (dn ++ [([], d)], [], [])) (nl := nmO (dn ++ [([], d)], [], [])) dn d 0 0 0 _ B (SX_fr ⟨a1, a2, a3, a4, z1, z2⟩ hF) (SBx_fr hx (by omega) hF) (fun j hj => ?_) (fun j hj => ?_) hW hd (by omega) (RX_0 up3_self) none)
    · have e : cdO (dn ++ [([], d)], [], []) = encL 0 (dn ++ [([], d)]) := by simp [cdO, enc]
      rw [e, Nat.zero_add]; exact ⟨hj, rfl⟩
    · have e : nmO (dn ++ [([], d)], [], []) = nmL dn := by simp [nmO, nmL, nms]
      rw [e, Nat.zero_add]; exact ⟨hj, rfl⟩
  rcases hg with ⟨rfl, hfr⟩ | ⟨rfl, hfr⟩
  ·
    have tk : (Int32.ofNat (kd 16).snd - 16).toInt = 2576 := by decide
    repeat' (first
        | (refine R_stop 27 rfl rfl ?_)
        | (refine R_br rfl rfl (fun hbr => absurd hbr (by first | decide | (with_reducible assumption) | (simp only [i_eq, i_lt, i_le, Int32.reduceToInt, ne_eq, up3_self, nI_1]; first | done | omega))) (fun _ => ?_))
        | (refine R_br rfl rfl (fun _ => ?_) (fun hbr => absurd (by first | decide | (with_reducible assumption) | (simp only [i_eq, i_lt, i_le, Int32.reduceToInt, ne_eq, up3_self, nI_1]; first | done | omega)) hbr))
        | (refine R_br rfl rfl (fun _ => ?_) (fun _ => ?_))
        | (refine R_ri rfl rfl ?_)
        | (refine R_rz rfl rfl (Or.inl rfl) ?_)
        | (refine R_rz rfl rfl (Or.inr rfl) ?_)
        | (refine R_rz rfl rfl (b2_01 _) ?_)
        | (refine R_rl rfl rfl ?_)
        | (refine R_rv rfl rfl ?_)
        | (refine R_sw _ rfl rfl rfl ?_)
        | (refine R_go 27 rfl rfl trivial ?_)
        | (refine R_go 27 rfl rfl (by first | (show _ ∨ _; decide) | (show (_ ∨ _) ∧ (_ ∨ _); decide) | (show (_ ∨ _) ∧ (_ ∨ _) ∧ (_ ∨ _); decide)) ?_)
        | (refine R_go 27 rfl rfl ?_ ?_))
    exact ⟨fin, trivial⟩
  ·
    have tk : (Int32.ofNat (kd 30).snd - 16).toInt = 0 := by decide
    repeat' (first
        | (refine R_stop 27 rfl rfl ?_)
        | (refine R_br rfl rfl (fun hbr => absurd hbr (by first | decide | (with_reducible assumption) | (simp only [i_eq, i_lt, i_le, Int32.reduceToInt, ne_eq, up3_self, nI_1]; first | done | omega))) (fun _ => ?_))
        | (refine R_br rfl rfl (fun _ => ?_) (fun hbr => absurd (by first | decide | (with_reducible assumption) | (simp only [i_eq, i_lt, i_le, Int32.reduceToInt, ne_eq, up3_self, nI_1]; first | done | omega)) hbr))
        | (refine R_br rfl rfl (fun _ => ?_) (fun _ => ?_))
        | (refine R_ri rfl rfl ?_)
        | (refine R_rz rfl rfl (Or.inl rfl) ?_)
        | (refine R_rz rfl rfl (Or.inr rfl) ?_)
        | (refine R_rz rfl rfl (b2_01 _) ?_)
        | (refine R_rl rfl rfl ?_)
        | (refine R_rv rfl rfl ?_)
        | (refine R_sw _ rfl rfl rfl ?_)
        | (refine R_go 27 rfl rfl trivial ?_)
        | (refine R_go 27 rfl rfl (by first | (show _ ∨ _; decide) | (show (_ ∨ _) ∧ (_ ∨ _); decide) | (show (_ ∨ _) ∧ (_ ∨ _) ∧ (_ ∨ _); decide)) ?_)
        | (refine R_go 27 rfl rfl ?_ ?_))
    exact ⟨fin, trivial⟩
/-- a law over a box: its truth is left on the pile -/
theorem m_endsOverL {s g fr : Nat} {A : FI} {B : FJ} {l : List Tk} {bx : Nat → Int × Int} (hg : (g = 16 ∧ fr + 16 ≤ 2592) ∨ (g = 30 ∧ fr + 16 ≤ 16)) (h99 : b99 bx) (hx : SBx g fr A bx) (hl : wfs (0, []) l = some (1, [])) (hz : l.length ≤ 80) (hS : RS s A [] l) : MV 2 3 mtX9_endsOver [.inr (.inr (some (12, 0))), .inr (.inr (some (4, s))), .inr (.inr (some (g, 0))), .inl (nI fr)] (hp A B) (fun r h' => ∃ A' B', h' = hp A' B' ∧ (∃ x, r = some (.inl x)) ∧ RX A' B' [tp (trB bx l)] ∧ trB bx l ≤ 2 ∧ FmSp A A' ∧ FmJ [13, 14] B B') := by
  obtain ⟨a1, a2, a3, a4, a5⟩ := hS
  have hF : FmSp A (up3 A 12 0 2 0) := (by first | exact FmO_rf | (repeat' (first | exact FmO_rf | (with_reducible assumption) | (refine FmO_up ?_ (by decide)) | (refine FmO_ug ?_ (by decide) (by decide)))))
  have tf := ti fr (by omega)
  have ec : cdO ([], l, []) = enc 0 l := by simp [cdO, encL, nmL, nms]
  have en : nmO ([], l, []) = nms l := by simp [nmO, nmL, nms]
  have zc : (cdO ([], l, [])).length ≤ 80 := by rw [ec, enc_len]; exact hz
  have hnn : (nmO ([], l, [])).length ≤ 80 := by rw [en]; exact Nat.le_trans (nms_le l) hz
  refine MV_of caX9_endsOver (L := [some (.inr (.inr (some (12, 0)))), some (.inr (.inr (some (4, s)))), some (.inr (.inr (some (g, 0)))), some (.inl (nI fr)), none, none, none]) rfl rfl ?_
  have hS0 : SX s (up3 A 12 0 2 0) (cdO ([], l, [])) (nmO ([], l, [])) := SX_fr ⟨a1, a2, a3, a4, zc, hnn⟩ hF
  have fin : Rn 2 mtX9_endsOver 27 (exL s g fr 0 0 none) [] (hp (up3 A 12 0 2 0) B) (fun r h' => ∃ A' B', h' = hp A' B' ∧ (∃ x, r = some (.inl x)) ∧ RX A' B' [tp (trB bx l)] ∧ trB bx l ≤ 2 ∧ FmSp A A' ∧ FmJ [13, 14] B B') := by
    refine l_boxT hg h99 l 0 0 ([], []) (0, []) (1, []) _ B hS0 (SBx_fr hx (by omega) hF) (fun j hj => ?_) (fun j hj => ?_) hl ⟨trivial, rfl, fun v hv => by simp at hv⟩ (RX_0 up3_self) (by simpa using hz) (fun A1 B1 o1 hR1 ht hF1 hJ => ?_) none
    · rw [ec, Nat.zero_add]; exact ⟨by rw [enc_len]; exact hj, rfl⟩
    · rw [en, Nat.zero_add]; exact ⟨hj, rfl⟩
    · obtain ⟨v, hv, hv2⟩ := bty_1 ht
      have hhv : trB bx l = v := by unfold trB; rw [hv]; rfl
      rw [hv] at hR1
      have hR2 : RX A1 B1 [tp v] := hR1
      obtain ⟨s1, s2, -, -, s5, -⟩ := SX_fr hS0 hF1
      have tl := ti l.length (by omega)
      have e80 : (cdO ([], l, [])).length = l.length := by rw [ec, enc_len]
      rw [e80] at s2
      rw [Nat.zero_add]
      refine R_go 9999 rfl rfl trivial ?_
      refine R_cvr rfl (m_sizeS s2) rfl rfl rfl rfl rfl (Nat.le_of_ble_eq_true rfl) rfl ?_
      refine R_br rfl rfl (fun _ => ?_) (fun h => absurd (Int32.le_refl _) h)
      repeat' (first
          | (refine R_br rfl rfl (fun hbr => absurd hbr (by first | decide | (with_reducible assumption))) (fun _ => ?_))
          | (refine R_br rfl rfl (fun _ => ?_) (fun hbr => absurd (by first | decide | (with_reducible assumption)) hbr))
          | (refine R_br rfl rfl (fun _ => ?_) (fun _ => ?_))
          | (refine R_ri rfl rfl ?_)
          | (refine R_rz rfl rfl (Or.inl rfl) ?_)
          | (refine R_rz rfl rfl (Or.inr rfl) ?_)
          | (refine R_rz rfl rfl (b2_01 _) ?_)
          | (refine R_rl rfl rfl ?_)
          | (refine R_rv rfl rfl ?_)
          | (refine R_sw _ rfl rfl rfl ?_)
          | (refine R_go 9999 rfl rfl trivial ?_)
          | (refine R_go 9999 rfl rfl (by first | (show _ ∨ _; decide) | (show (_ ∨ _) ∧ (_ ∨ _); decide) | (show (_ ∨ _) ∧ (_ ∨ _) ∧ (_ ∨ _); decide)) ?_)
          | (refine R_go 9999 rfl rfl ?_ ?_))
      exact ⟨A1, B1, rfl, ⟨_, rfl⟩, by rw [hhv]; exact hR2, by rw [hhv]; exact hv2, FmO_tr hF hF1, hJ⟩
  rcases hg with ⟨rfl, hfr⟩ | ⟨rfl, hfr⟩
  ·
    have tk : (Int32.ofNat (kd 16).snd - 16).toInt = 2576 := by decide
    repeat' (first
        | (refine R_stop 27 rfl rfl ?_)
        | (refine R_br rfl rfl (fun hbr => absurd hbr (by first | decide | (with_reducible assumption) | (simp only [i_eq, i_lt, i_le, Int32.reduceToInt, ne_eq, up3_self, nI_1]; first | done | omega))) (fun _ => ?_))
        | (refine R_br rfl rfl (fun _ => ?_) (fun hbr => absurd (by first | decide | (with_reducible assumption) | (simp only [i_eq, i_lt, i_le, Int32.reduceToInt, ne_eq, up3_self, nI_1]; first | done | omega)) hbr))
        | (refine R_br rfl rfl (fun _ => ?_) (fun _ => ?_))
        | (refine R_ri rfl rfl ?_)
        | (refine R_rz rfl rfl (Or.inl rfl) ?_)
        | (refine R_rz rfl rfl (Or.inr rfl) ?_)
        | (refine R_rz rfl rfl (b2_01 _) ?_)
        | (refine R_rl rfl rfl ?_)
        | (refine R_rv rfl rfl ?_)
        | (refine R_sw _ rfl rfl rfl ?_)
        | (refine R_go 27 rfl rfl trivial ?_)
        | (refine R_go 27 rfl rfl (by first | (show _ ∨ _; decide) | (show (_ ∨ _) ∧ (_ ∨ _); decide) | (show (_ ∨ _) ∧ (_ ∨ _) ∧ (_ ∨ _); decide)) ?_)
        | (refine R_go 27 rfl rfl ?_ ?_))
    exact ⟨fin, trivial⟩
  ·
    have tk : (Int32.ofNat (kd 30).snd - 16).toInt = 0 := by decide
    repeat' (first
        | (refine R_stop 27 rfl rfl ?_)
        | (refine R_br rfl rfl (fun hbr => absurd hbr (by first | decide | (with_reducible assumption) | (simp only [i_eq, i_lt, i_le, Int32.reduceToInt, ne_eq, up3_self, nI_1]; first | done | omega))) (fun _ => ?_))
        | (refine R_br rfl rfl (fun _ => ?_) (fun hbr => absurd (by first | decide | (with_reducible assumption) | (simp only [i_eq, i_lt, i_le, Int32.reduceToInt, ne_eq, up3_self, nI_1]; first | done | omega)) hbr))
        | (refine R_br rfl rfl (fun _ => ?_) (fun _ => ?_))
        | (refine R_ri rfl rfl ?_)
        | (refine R_rz rfl rfl (Or.inl rfl) ?_)
        | (refine R_rz rfl rfl (Or.inr rfl) ?_)
        | (refine R_rz rfl rfl (b2_01 _) ?_)
        | (refine R_rl rfl rfl ?_)
        | (refine R_rv rfl rfl ?_)
        | (refine R_sw _ rfl rfl rfl ?_)
        | (refine R_go 27 rfl rfl trivial ?_)
        | (refine R_go 27 rfl rfl (by first | (show _ ∨ _; decide) | (show (_ ∨ _) ∧ (_ ∨ _); decide) | (show (_ ∨ _) ∧ (_ ∨ _) ∧ (_ ∨ _); decide)) ?_)
        | (refine R_go 27 rfl rfl ?_ ?_))
    exact ⟨fin, trivial⟩
theorem m_wasNever {A : FI} {B : FJ} {v : Nat} (hv : v ≤ 2) (hR : RX A B [tp v]) : MV 0 0 mtX9_wasNever [.inr (.inr (some (12, 0)))] (hp A B) (Ret (some (.inl (if v = 0 then 1 else 0))) (hp A B)) := by
  obtain ⟨e1, e2, e3, -⟩ := RX_1 hR
  have c1 : B 14 0 (0 : Int32).toNatClampNeg = jI (tp v).2 := e2
  have hv0 : vp_in (0 : Int32) 80 := vpN (a := 0) (n := 80) (by decide) rfl
  refine MV_of caX9_wasNever (L := [some (.inr (.inr (some (12, 0))))]) rfl rfl ?_
  refine R_go 9999 rfl rfl hv0 ?_
  rw [c1]
  rcases (show v = 0 ∨ v = 1 ∨ v = 2 by omega) with e | e | e <;> subst e
  ·
    refine R_br rfl rfl (fun _ => ?_) (fun h => absurd (by decide) h)
    repeat' (first
        | (refine R_br rfl rfl (fun hbr => absurd hbr (by first | decide | (with_reducible assumption))) (fun _ => ?_))
        | (refine R_br rfl rfl (fun _ => ?_) (fun hbr => absurd (by first | decide | (with_reducible assumption)) hbr))
        | (refine R_br rfl rfl (fun _ => ?_) (fun _ => ?_))
        | (refine R_ri rfl rfl ?_)
        | (refine R_rz rfl rfl (Or.inl rfl) ?_)
        | (refine R_rz rfl rfl (Or.inr rfl) ?_)
        | (refine R_rz rfl rfl (b2_01 _) ?_)
        | (refine R_rl rfl rfl ?_)
        | (refine R_rv rfl rfl ?_)
        | (refine R_sw _ rfl rfl rfl ?_)
        | (refine R_go 9999 rfl rfl trivial ?_)
        | (refine R_go 9999 rfl rfl (by first | (show _ ∨ _; decide) | (show (_ ∨ _) ∧ (_ ∨ _); decide) | (show (_ ∨ _) ∧ (_ ∨ _) ∧ (_ ∨ _); decide)) ?_)
        | (refine R_go 9999 rfl rfl ?_ ?_))
    exact ret_i rfl rfl
  ·
    refine R_br rfl rfl (fun h => absurd h (by decide)) (fun _ => ?_)
    repeat' (first
        | (refine R_br rfl rfl (fun hbr => absurd hbr (by first | decide | (with_reducible assumption))) (fun _ => ?_))
        | (refine R_br rfl rfl (fun _ => ?_) (fun hbr => absurd (by first | decide | (with_reducible assumption)) hbr))
        | (refine R_br rfl rfl (fun _ => ?_) (fun _ => ?_))
        | (refine R_ri rfl rfl ?_)
        | (refine R_rz rfl rfl (Or.inl rfl) ?_)
        | (refine R_rz rfl rfl (Or.inr rfl) ?_)
        | (refine R_rz rfl rfl (b2_01 _) ?_)
        | (refine R_rl rfl rfl ?_)
        | (refine R_rv rfl rfl ?_)
        | (refine R_sw _ rfl rfl rfl ?_)
        | (refine R_go 9999 rfl rfl trivial ?_)
        | (refine R_go 9999 rfl rfl (by first | (show _ ∨ _; decide) | (show (_ ∨ _) ∧ (_ ∨ _); decide) | (show (_ ∨ _) ∧ (_ ∨ _) ∧ (_ ∨ _); decide)) ?_)
        | (refine R_go 9999 rfl rfl ?_ ?_))
    exact ret_i rfl rfl
  ·
    refine R_br rfl rfl (fun h => absurd h (by decide)) (fun _ => ?_)
    repeat' (first
        | (refine R_br rfl rfl (fun hbr => absurd hbr (by first | decide | (with_reducible assumption))) (fun _ => ?_))
        | (refine R_br rfl rfl (fun _ => ?_) (fun hbr => absurd (by first | decide | (with_reducible assumption)) hbr))
        | (refine R_br rfl rfl (fun _ => ?_) (fun _ => ?_))
        | (refine R_ri rfl rfl ?_)
        | (refine R_rz rfl rfl (Or.inl rfl) ?_)
        | (refine R_rz rfl rfl (Or.inr rfl) ?_)
        | (refine R_rz rfl rfl (b2_01 _) ?_)
        | (refine R_rl rfl rfl ?_)
        | (refine R_rv rfl rfl ?_)
        | (refine R_sw _ rfl rfl rfl ?_)
        | (refine R_go 9999 rfl rfl trivial ?_)
        | (refine R_go 9999 rfl rfl (by first | (show _ ∨ _; decide) | (show (_ ∨ _) ∧ (_ ∨ _); decide) | (show (_ ∨ _) ∧ (_ ∨ _) ∧ (_ ∨ _); decide)) ?_)
        | (refine R_go 9999 rfl rfl ?_ ?_))
    exact ret_i rfl rfl
