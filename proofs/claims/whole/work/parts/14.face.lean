abbrev Rn (d : Nat) (mt : MI) (pc : Nat) (L : List (Option AV)) (S : List AV) (h : AH) (Q : Option AV → AH → Prop) : Prop := R d 0 0 0 0 mt pc L S h Q
def MS (d n : Nat) (mt : MI) (As : List AV) (h : AH) (Q : Option AV → AH → Prop) : Prop := CS mt n ∧ M d 0 0 mt As h Q
def MV (d n : Nat) (mt : MI) (As : List AV) (h : AH) (Q : Option AV → AH → Prop) : Prop := CV mt n ∧ M d 0 0 mt As h Q
section FA
variable {d d2 n : Nat} {mt mt2 : MI} {pc nx tg : Nat} {k0 : Int32} {L : List (Option AV)} {S S0 As : List AV} {h : AH} {Q Q1 : Option AV → AH → Prop}
theorem MS_of (hc : CS mt n) (hL : eL As ++ pad (mt.1.2.2.1 - wsum As) = L) (hw : Nat.ble (wsum As) mt.1.2.2.1 = true) (k : Rn d mt 0 L [] h Q) : MS d n mt As h Q := ⟨hc, M_of hc.1.1 (Nat.le_of_ble_eq_true hw) (by rw [hL]; exact k)⟩
theorem MV_of (hc : CV mt n) (hL : eL As ++ pad (mt.1.2.2.1 - wsum As) = L) (hw : Nat.ble (wsum As) mt.1.2.2.1 = true) (k : Rn d mt 0 L [] h Q) : MV d n mt As h Q := ⟨hc, M_of hc.1.1 (Nat.le_of_ble_eq_true hw) (by rw [hL]; exact k)⟩
/-- a static call -/
theorem R_cs {idx : Nat} (hp : mt.2.2 pc = some (.invokestatic idx, 3, nx, tg, k0)) (hM : MS d2 n mt2 As h Q1) (hl : cpY mt.2.1 idx = some mt2.1.1) (hs : S0 = As.reverse ++ S) (hn : As.length = n) (hd : d2 + 1 ≤ d) (hS8 : Nat.ble (S.map acat).sum 8 = true)
    (k : ∀ r h', Q1 r h' → Rn d mt nx L (r.toList ++ S) h' Q) : Rn d mt pc L S0 h Q := s_static hp (lk_ok hl) hM.1 hM.2 hs hn hd ⟨Nat.le_refl _, Nat.le_refl _⟩ (Nat.le_of_ble_eq_true hS8) k
/-- a call of an instance's method -/
theorem R_cv {idx g i : Nat} (hp : mt.2.2 pc = some (.invokevirtual idx, 3, nx, tg, k0)) (hM : MV d2 n mt2 (.inr (.inr (some (g, i))) :: As) h Q1) (hl : cpY mt.2.1 idx = some mt2.1.1) (hs : S0 = As.reverse ++ .inr (.inr (some (g, i))) :: S) (hn : As.length = n) (hk : (kd g).1 = mt2.2.1) (h13 : Nat.ble (mt2.2.1 + 1) 13 = true) (hd : d2 + 1 ≤ d) (hS8 : Nat.ble (S.map acat).sum 8 = true)
    (k : ∀ r h', Q1 r h' → Rn d mt nx L (r.toList ++ S) h' Q) : Rn d mt pc L S0 h Q := s_virtual hp (lk_ok hl) hM.1 hM.2 hs hn (kd_eq hk rfl) (Nat.le_of_ble_eq_true h13) rfl hd ⟨Nat.le_refl _, Nat.le_refl _⟩ (Nat.le_of_ble_eq_true hS8) k
theorem R_ri {x : Int32} (hp : mt.2.2 pc = some (.ireturn, 1, nx, tg, k0)) (hr : mt.1.2.2.2 = some .int) (hq : Q (some (.inl x)) h) : Rn d mt pc L [.inl x] h Q := s_ireturn hp (Or.inl hr) (Nat.le_refl _) (Nat.le_refl _) hq
theorem R_rz {x : Int32} (hp : mt.2.2 pc = some (.ireturn, 1, nx, tg, k0)) (hr : mt.1.2.2.2 = some .boolean) (hx : x = 0 ∨ x = 1) (hq : Q (some (.inl x)) h) : Rn d mt pc L [.inl x] h Q := s_ireturn hp (Or.inr ⟨hr, hx⟩) (Nat.le_refl _) (Nat.le_refl _) hq
theorem R_rl {x : Int64} (hp : mt.2.2 pc = some (.lreturn, 1, nx, tg, k0)) (hr : mt.1.2.2.2 = some .long) (hq : Q (some (.inr (.inl x))) h) : Rn d mt pc L [.inr (.inl x)] h Q := s_lreturn hp hr (Nat.le_refl _) (Nat.le_refl _) hq
theorem R_rv (hp : mt.2.2 pc = some (.return_, 1, nx, tg, k0)) (hr : mt.1.2.2.2 = none) (hq : Q none h) : Rn d mt pc L [] h Q := s_return hp hr (Nat.le_refl _) (Nat.le_refl _) hq
end FA
/-- straight on, at least one step -/
theorem R_go (sp : Nat) {d : Nat} {mt : MI} {pc : Nat} {L : List (Option AV)} {S : List AV} {h : AH} {Q : Option AV → AH → Prop} {cs : List Prop} {pc' : Nat} {L' : List (Option AV)} {S' : List AV} {h' : AH} (hb : blk 200 sp mt pc L S h [] = (cs, pc', L', S', h')) (hn : Nat.beq pc pc' = false) (hc : allP cs) (k : Rn d mt pc' L' S' h' Q) : Rn d mt pc L S h Q := blk_ok hb hc k
def Ret (x : Option AV) (y : AH) : Option AV → AH → Prop := fun r h' => r = x ∧ h' = y
theorem R_csr {d d2 n : Nat} {mt mt2 : MI} {pc nx tg : Nat} {k0 : Int32} {L : List (Option AV)} {S S0 As : List AV} {h h1 : AH} {Q : Option AV → AH → Prop} {idx : Nat} {x : AV} (hp : mt.2.2 pc = some (.invokestatic idx, 3, nx, tg, k0)) (hM : MS d2 n mt2 As h (Ret (some x) h1)) (hl : cpY mt.2.1 idx = some mt2.1.1) (hs : S0 = As.reverse ++ S) (hn : As.length = n) (hd : d2 + 1 ≤ d) (hS8 : Nat.ble (S.map acat).sum 8 = true)
    (k : Rn d mt nx L (x :: S) h1 Q) : Rn d mt pc L S0 h Q := R_cs hp hM hl hs hn hd hS8 (fun r h' e => by obtain ⟨rfl, rfl⟩ := e; exact k)
theorem R_csv {d d2 n : Nat} {mt mt2 : MI} {pc nx tg : Nat} {k0 : Int32} {L : List (Option AV)} {S S0 As : List AV} {h h1 : AH} {Q : Option AV → AH → Prop} {idx : Nat} (hp : mt.2.2 pc = some (.invokestatic idx, 3, nx, tg, k0)) (hM : MS d2 n mt2 As h (Ret none h1)) (hl : cpY mt.2.1 idx = some mt2.1.1) (hs : S0 = As.reverse ++ S) (hn : As.length = n) (hd : d2 + 1 ≤ d) (hS8 : Nat.ble (S.map acat).sum 8 = true)
    (k : Rn d mt nx L S h1 Q) : Rn d mt pc L S0 h Q := R_cs hp hM hl hs hn hd hS8 (fun r h' e => by obtain ⟨rfl, rfl⟩ := e; exact k)
theorem R_cvr {d d2 n : Nat} {mt mt2 : MI} {pc nx tg : Nat} {k0 : Int32} {L : List (Option AV)} {S S0 As : List AV} {h h1 : AH} {Q : Option AV → AH → Prop} {idx g i : Nat} {x : AV} (hp : mt.2.2 pc = some (.invokevirtual idx, 3, nx, tg, k0)) (hM : MV d2 n mt2 (.inr (.inr (some (g, i))) :: As) h (Ret (some x) h1)) (hl : cpY mt.2.1 idx = some mt2.1.1) (hs : S0 = As.reverse ++ .inr (.inr (some (g, i))) :: S) (hn : As.length = n) (hk : (kd g).1 = mt2.2.1) (h13 : Nat.ble (mt2.2.1 + 1) 13 = true) (hd : d2 + 1 ≤ d) (hS8 : Nat.ble (S.map acat).sum 8 = true)
    (k : Rn d mt nx L (x :: S) h1 Q) : Rn d mt pc L S0 h Q := R_cv hp hM hl hs hn hk h13 hd hS8 (fun r h' e => by obtain ⟨rfl, rfl⟩ := e; exact k)
theorem R_cvv {d d2 n : Nat} {mt mt2 : MI} {pc nx tg : Nat} {k0 : Int32} {L : List (Option AV)} {S S0 As : List AV} {h h1 : AH} {Q : Option AV → AH → Prop} {idx g i : Nat} (hp : mt.2.2 pc = some (.invokevirtual idx, 3, nx, tg, k0)) (hM : MV d2 n mt2 (.inr (.inr (some (g, i))) :: As) h (Ret none h1)) (hl : cpY mt.2.1 idx = some mt2.1.1) (hs : S0 = As.reverse ++ .inr (.inr (some (g, i))) :: S) (hn : As.length = n) (hk : (kd g).1 = mt2.2.1) (h13 : Nat.ble (mt2.2.1 + 1) 13 = true) (hd : d2 + 1 ≤ d) (hS8 : Nat.ble (S.map acat).sum 8 = true)
    (k : Rn d mt nx L S h1 Q) : Rn d mt pc L S0 h Q := R_cv hp hM hl hs hn hk h13 hd hS8 (fun r h' e => by obtain ⟨rfl, rfl⟩ := e; exact k)
theorem ret_i {x y : Int32} {h h' : AH} (a : x = y) (b : h = h') : Ret (some (.inl y)) h' (some (.inl x)) h := ⟨by rw [a], b⟩
theorem ret_l {x y : Int64} {h h' : AH} (a : x = y) (b : h = h') : Ret (some (.inr (.inl y))) h' (some (.inr (.inl x))) h := ⟨by rw [a], b⟩
theorem ret_v {h h' : AH} (b : h = h') : Ret none h' none h := ⟨rfl, b⟩
