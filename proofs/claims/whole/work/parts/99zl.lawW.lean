theorem kn_of {k idx ci N : Nat} {s : State} {args : Array Value} (h : NOK k idx ci N) (hts : ∀ w ∈ TW, w.before args s = true) : ∃ (cC : ClassId) (iS : Nat → Nat), ∀ q, cls[ci]? = some q → u_Kn s q.1 q.2.1 q.2.2 cC iS := by
  obtain ⟨T, h1, h2, -, -, h3, -⟩ := h
  obtain ⟨cC, iS, hk⟩ := u_known hts h2 (hts _ h3)
  exact ⟨cC, iS, fun q hq => by rw [h1] at hq; cases hq; exact hk⟩
theorem kn_all {s : State} {args : Array Value} (hts : ∀ w ∈ TW, w.before args s = true) : ∀ c : Nat, ∃ (x : ClassId × (Nat → Nat)), ∀ q, cls[c]? = some q → u_Kn s q.1 q.2.1 q.2.2 x.1 x.2 := by
  intro c
  have f : ∀ {k idx ci N : Nat}, NOK k idx ci N → ∃ (x : ClassId × (Nat → Nat)), ∀ q, cls[ci]? = some q → u_Kn s q.1 q.2.1 q.2.2 x.1 x.2 := fun h => by
    obtain ⟨a, b, hk⟩ := kn_of h hts
    exact ⟨(a, b), hk⟩
  match c with
  | 0 => exact f nkX11_72
  | 1 => exact f nkX11_51
  | 2 => exact f nkX11_65
  | 3 => exact f nkX11_7
  | 4 => exact f nkX11_58
  | 5 => exact f nkX11_16
  | 6 => exact f nkX1_9
  | 7 => exact f nkX3_15
  | 8 => exact f nkX11_44
  | 9 => exact f nkX11_37
  | 10 => exact f nkX11_30
  | 11 => exact f nkX15_7
  | 12 => exact f nkX15_10
  | z + 13 => exact ⟨(0, fun _ => 0), fun q hq => absurd hq (by simp [cls])⟩
theorem NW_on : ∀ w ∈ NW, w.onTables = true := by decide
abbrev G00 : Gh := ([], fun _ => 0, fun _ => 0, [])
theorem iv_begin {s : State} {args : Array Value} (hts : ∀ w ∈ lw_tbl, w.before args s = true) (ht : ∀ w ∈ TW, w.before args s = true) : ∃ D, Iv (fre s) D G00 G00 ((fun _ => 0), (fun _ _ _ => 0), (fun _ _ _ => 0), (fun _ _ _ => none)) s s.heap [] := by
  obtain ⟨f, hf⟩ : ∃ f : Nat → ClassId × (Nat → Nat), ∀ c q, cls[c]? = some q → u_Kn s q.1 q.2.1 q.2.2 (f c).1 (f c).2 := ⟨fun c => Classical.choose (kn_all ht c), fun c => Classical.choose_spec (kn_all ht c)⟩
  refine ⟨(fun c => (f c).1, fun c => (f c).2), ⟨⟨fun c q hq => hf c q hq, fun k q hq => by simp at hq⟩, fun w hw => va_Nw.of (NW_on w hw) (hts w (NW_in w hw)), va_AO.of (hts _ (wu1 189 (by decide +kernel))), va_AO.of (hts _ (wu1 32 (by decide +kernel)))⟩, fun q h => h, fun k q hq => by simp [gw] at hq, ⟨fun i j p q hp => by simp [gw] at hp, fun k q hq => by simp [gw] at hq⟩, va_S.rf, ⟨List.nodup_nil, fun q => ⟨fun h => (by cases h), fun h => absurd h (Nat.not_lt_zero _)⟩, fun q hq => (by cases hq), fun q hq => (by cases hq)⟩, ext_rf⟩
section LT
variable {p : Program} {l : Launch} {e : Env} {s : State} {m : MethodId} {below : List Frame} {meth : Method} {c : Code} {b N : Nat} {xs : Nat → Int32} {Z : State → Prop}
theorem law_all (F : LwA p s m c b N xs) (hts : ∀ w ∈ lw_tbl, w.before #[Value.ref b] s = true) (hN : N ≤ 3584) (hret : ∀ H ls, W p l e room_1 s m #[Value.ref b] below meth c H [] 600000 7302250 Z (F0 m 1131 ls [.int 1])) : W p l e room_1 s m #[Value.ref b] below meth c s.heap [] 0 0 Z (entryFrame m ([Value.ref b] : List Value).toArray 4) := by
  have hl := lv_entry ([.ref b]) (n := 4) (Nat.le_of_ble_eq_true rfl)
  rw [lg_entry_eq]
  generalize (lg_sl ([.ref b]) ++ List.replicate (4 - (lg_sl ([.ref b])).length) Slot.unset).toArray = ls at hl ⊢
  obtain ⟨D, I⟩ := iv_begin hts F.2.2.2.2.1
  have K : U p l e s m below meth c b Z 0 0 0 [none, none, none] [] ((fun _ => 0), (fun _ _ _ => 0), (fun _ _ _ => 0), (fun _ _ _ => none)) := by
    refine u_new (g := 0) F (by decide +kernel) rfl (by decide) nkX15_7 (Nat.le_of_ble_eq_true rfl) (Nat.le_of_ble_eq_true rfl) ?_
    rw [hnew_cl (fun _ _ _ _ => ⟨rfl, rfl, rfl⟩)]
    refine u_dup F (by decide +kernel) ?_
    refine u_init F (by decide +kernel) lkX15_9 caX11_init i_X0 (by decide) ⟨Nat.le_of_ble_eq_true rfl, Nat.le_of_ble_eq_true rfl⟩ (Nat.le_of_ble_eq_true rfl) ?_
    rintro r h' ⟨rfl, rfl, hc1⟩
    refine u_st1 F (by decide +kernel) ?_
    refine u_new (g := 31) F (by decide +kernel) rfl (by decide) nkX15_10 (Nat.le_of_ble_eq_true rfl) (Nat.le_of_ble_eq_true rfl) ?_
    rw [hnew_cl hc1]
    refine u_dup F (by decide +kernel) ?_
    refine u_init F (by decide +kernel) lkX15_12 caX12_init (i_M0 hc1) (by decide) ⟨Nat.le_of_ble_eq_true rfl, Nat.le_of_ble_eq_true rfl⟩ (Nat.le_of_ble_eq_true rfl) ?_
    rintro r h' ⟨rfl, rfl, hc2⟩
    refine u_st2 F (by decide +kernel) ?_
    exact u_fin F (Nat.le_of_ble_eq_true rfl) (Nat.le_of_ble_eq_true rfl) (l_law F hN (law_end F hret) (N + 7) 0 AE BE S00 (by omega) (by omega) iv_00 rc_00 rm_00)
  exact K D G00 s.heap ls [] I (fun x hx => by cases hx) (fun x hx => by simp at hx) hl
end LT
