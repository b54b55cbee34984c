/-- the state at the beginning -/
def S00 : SS := ((fun _ => 0, fun _ => 0, fun _ => 9, fun _ => 1), [], [], [], [], (0, (0, 0, 0), none), 0)
theorem iv_00 : ivS S00 := ⟨⟨fun f _ => ⟨(by show (0 : Nat) ≤ 4; decide), (by show (0 : Nat) ≤ 9; decide), (by show (9 : Nat) ≤ 20; decide), (by show (1 : Nat) ≤ 1; decide), (by show (1 : Nat) ≤ 99; decide)⟩, by decide⟩, fun x hx => (by cases hx), Or.inl rfl, ⟨by decide, fun j hj => (by cases hj)⟩, by decide, by decide⟩
theorem rcf_00 : RCF AE S00.1 := by
  show ∀ f, f < 8 → AE 2 0 (f * 4) = nI 0 ∧ AE 2 0 (f * 4 + 1) = nI 0 ∧ AE 2 0 (f * 4 + 2) = nI 9 ∧ AE 2 0 (f * 4 + 3) = nI 1
  decide +kernel
theorem rmf_00 : RMF AE S00.1 := by
  show ∀ f, f < 8 → AE 32 0 f = nI 0 ∧ AE 33 0 f = nI 0 ∧ AE 34 0 f = nI 9 ∧ AE 35 0 f = nI 1
  decide +kernel
theorem rc_00 : RCs AE BE S00 := ⟨⟨rcf_00, ⟨by decide +kernel, by decide, fun k hk => (by cases hk)⟩, ⟨fun k hk => (by cases hk), by decide +kernel, fun k hk => (by cases hk), by decide +kernel, by decide +kernel⟩, ⟨by decide +kernel, fun k hk => (by cases hk)⟩, ⟨by decide +kernel, by decide, fun k hk => (by cases hk)⟩, by decide +kernel, by decide +kernel⟩, by decide +kernel, by decide +kernel, by decide +kernel, fun _ => ⟨by decide +kernel, by decide +kernel⟩, fun q hq => (by cases hq)⟩
theorem rm_00 : RMs AE BE S00 := ⟨⟨rmf_00, ⟨by decide +kernel, by decide, fun k hk => (by cases hk)⟩, ⟨by decide +kernel, fun k hk => (by cases hk), fun k hk => (by cases hk), by decide +kernel, fun k hk => (by cases hk), fun k hk => (by cases hk), by decide +kernel⟩, ⟨by decide +kernel, fun k hk => (by cases hk)⟩, ⟨by decide +kernel, by decide, fun k hk => (by cases hk)⟩, by decide +kernel, by decide +kernel⟩, by decide +kernel, by decide +kernel, by decide +kernel, fun _ => by decide +kernel, fun q hq => (by cases hq)⟩
