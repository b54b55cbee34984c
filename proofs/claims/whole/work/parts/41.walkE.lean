def SW (s p : Nat) (A : FI) (cl nl : List Nat) (q : Nat → Nat) : Prop := al (A 5 s) cl ∧ A 4 s 3 = nI cl.length ∧ al (A 6 s) nl ∧ A 4 s 4 = nI nl.length ∧ cl.length ≤ 80 ∧ nl.length ≤ 80 ∧ ∀ f, f < 8 → A 25 p f = (if q f = 99 then -1 else nI (q f)) ∧ (q f ≤ 20 ∨ q f = 99)
theorem SW_fr {s p : Nat} {A A' : FI} {cl nl : List Nat} {q : Nat → Nat} {ss : List Nat} (h : SW s p A cl nl q) (hF : FmO 10 [] ss A A') : SW s p A' cl nl q := by
  obtain ⟨a, b, c, d, e, f, g⟩ := h
  have h4 := hF.1 4 (by decide) (by simp)
  have h5 := hF.1 5 (by decide) (by simp)
  have h6 := hF.1 6 (by decide) (by simp)
  have h25 := hF.1 25 (by decide) (by simp)
  refine ⟨by rw [h5]; exact a, by rw [h4]; exact b, by rw [h6]; exact c, by rw [h4]; exact d, e, f, fun k hk => by rw [h25]; exact g k hk⟩
theorem m_codeC {s : Nat} {A : FI} {B : FJ} {cl : List Nat} (h1 : al (A 5 s) cl) (h2 : A 4 s 3 = nI cl.length) (hl : cl.length ≤ 80) (k : Nat) (hk : k < cl.length) : MV 0 1 mtX7_code [.inr (.inr (some (4, s))), .inl (nI k)] (hp A B) (Ret (some (.inl (nI (cl.getD k 0)))) (hp A B)) := by
  have tk := ti k (by omega)
  have tl := ti cl.length (by omega)
  have c1 : (nI k).toNatClampNeg = k := nI_clamp (by omega)
  refine MV_of caX7_code (L := [some (.inr (.inr (some (4, s)))), some (.inl (nI k))]) rfl rfl ?_
  repeat' (first
      | (refine R_br rfl rfl (fun hbr => absurd hbr (by first | decide | (with_reducible assumption) | (simp only [h2]; first | decide | (with_reducible assumption)) | (simp only [i_eq, i_lt, i_le, Int32.reduceToInt, ne_eq, up3_self, nI_1, h2]; first | done | omega))) (fun _ => ?_))
      | (refine R_br rfl rfl (fun _ => ?_) (fun hbr => absurd (by first | decide | (with_reducible assumption) | (simp only [h2]; first | decide | (with_reducible assumption)) | (simp only [i_eq, i_lt, i_le, Int32.reduceToInt, ne_eq, up3_self, nI_1, h2]; first | done | omega)) hbr))
      | (refine R_br rfl rfl (fun _ => ?_) (fun _ => ?_))
      | (refine R_ri rfl rfl ?_)
      | (refine R_rz rfl rfl (Or.inl rfl) ?_)
      | (refine R_rz rfl rfl (Or.inr rfl) ?_)
      | (refine R_rz rfl rfl (b2_01 _) ?_)
      | (refine R_rl rfl rfl ?_)
      | (refine R_rv rfl rfl ?_)
      | (refine R_sw _ rfl rfl rfl ?_)
      | (refine R_go 9999 rfl rfl trivial ?_)
      | (refine R_go 9999 rfl rfl (by first | (show _ ∨ _; decide) | (show (_ ∨ _) ∧ (_ ∨ _); decide) | (show (_ ∨ _) ∧ (_ ∨ _) ∧ (_ ∨ _); decide)) ?_)
      | (refine R_go 9999 rfl rfl ?_ ?_))
  · exact vpN (n := 80) (by omega) rfl
  · rw [c1, h1 k hk]; exact ret_i rfl rfl
theorem m_sizeS {s n : Nat} {A : FI} {B : FJ} (h2 : A 4 s 3 = nI n) : MV 0 0 mtX7_size [.inr (.inr (some (4, s)))] (hp A B) (Ret (some (.inl (nI n))) (hp A B)) := by
  refine MV_of caX7_size (L := [some (.inr (.inr (some (4, s))))]) rfl rfl ?_
  repeat' (first
      | (refine R_br rfl rfl (fun hbr => absurd hbr (by first | decide | (with_reducible assumption))) (fun _ => ?_))
      | (refine R_br rfl rfl (fun _ => ?_) (fun hbr => absurd (by first | decide | (with_reducible assumption)) hbr))
      | (refine R_br rfl rfl (fun _ => ?_) (fun _ => ?_))
      | (refine R_ri rfl rfl ?_)
      | (refine R_rz rfl rfl (Or.inl rfl) ?_)
      | (refine R_rz rfl rfl (Or.inr rfl) ?_)
      | (refine R_rz rfl rfl (b2_01 _) ?_)
      | (refine R_rl rfl rfl ?_)
      | (refine R_rv rfl rfl ?_)
      | (refine R_sw _ rfl rfl rfl ?_)
      | (refine R_go 9999 rfl rfl trivial ?_)
      | (refine R_go 9999 rfl rfl (by first | (show _ ∨ _; decide) | (show (_ ∨ _) ∧ (_ ∨ _); decide) | (show (_ ∨ _) ∧ (_ ∨ _) ∧ (_ ∨ _); decide)) ?_)
      | (refine R_go 9999 rfl rfl ?_ ?_))
  exact ret_i h2 rfl
theorem m_numP {p : Nat} {A : FI} {B : FJ} {q : Nat → Nat} (h : ∀ f, f < 8 → A 25 p f = (if q f = 99 then -1 else nI (q f)) ∧ (q f ≤ 20 ∨ q f = 99)) (f : Nat) (hf : f < 8) : MV 1 1 mtX6_number [.inr (.inr (some (24, p))), .inl (nI f)] (hp A B) (Ret (some (.inl (if q f = 99 then -1 else nI (q f)))) (hp A B)) := by
  have := m_number p (nI f) A B
  rwa [if_pos (show (0 : Int32) ≤ nI f ∧ nI f < 8 from nI_01 hf (Nat.le_of_ble_eq_true rfl)), nI_clamp (by omega), (h f hf).1] at this
theorem RW_len {A : FI} {B : FJ} {z : Ev} (h : RW A B z) : A 10 0 1 = nI (z.1.length + z.2.length) := by
  obtain ⟨ys, -, -, e, -⟩ := h
  exact e
theorem RW_psh {A : FI} {B : FJ} {z : Ev} (h : RW A B z) (x v : Int64) (g : Bool) (hx : g = false → x = v) : RW (up3 (if g = true then up3 A 10 0 2 1 else A) 10 0 1 (nI (z.1.length + z.2.length + 1))) (up3 B 11 0 (z.1.length + z.2.length) x) ((v, g) :: z.1, z.2) := by
  obtain ⟨ys, h1, h2, h3, h4⟩ := h
  have hl := sml_len h1
  refine ⟨x :: ys, ⟨hx, h1⟩, ?_, ?_, ?_⟩
  · rw [List.cons_append, List.reverse_cons]
    exact jl_up h2 (by simp [hl, Nat.add_comm])
  · rw [up3_self]; congr 1; simp only [List.length_cons]; omega
  · rw [up3_s (by decide), List.any_cons]
    cases g with
    | true => rw [if_pos rfl, up3_self]; rfl
    | false => rw [if_neg (by decide), h4]; rfl
theorem RW_ari {A : FI} {B : FJ} {b a : Int64 × Bool} {r : List (Int64 × Bool)} {u : List Nat} (h : RW A B (b :: a :: r, u)) : ∃ ya yb g, B 11 0 (r.length + u.length) = ya ∧ B 11 0 (r.length + u.length + 1) = yb ∧ A 10 0 2 = bI g ∧ A 10 0 1 = nI (r.length + u.length + 2) ∧ ∀ x v, (a.2 = false → b.2 = false → ya = a.1 → yb = b.1 → x = v) → RW (up3 A 10 0 1 (nI (r.length + u.length + 1))) (up3 B 11 0 (r.length + u.length) x) ((v, a.2 || b.2) :: r, u) := by
  obtain ⟨ys, h1, h2, h3, h4⟩ := h
  have hl := sml_len h1
  obtain ⟨yb, ya, yr, rfl⟩ := len2 hl (by simp)
  obtain ⟨hb, ha, hr⟩ := h1
  have hlr := sml_len hr
  dsimp only at h2 h3 h4
  have hj : jl (B 11 0) ((yr ++ u.map lN).reverse ++ [ya, yb]) := by simpa using h2
  have hn : (yr ++ u.map lN).reverse.length = r.length + u.length := by simp [hlr, Nat.add_comm]
  obtain ⟨e1, e2⟩ := jl_last2 hj
  rw [hn] at e1 e2
  refine ⟨ya, yb, _, e1, e2, h4, by rw [h3]; congr 1; simp only [List.length_cons]; omega, fun x v hx => ⟨x :: yr, ⟨fun z => ?_, hr⟩, ?_, ?_, ?_⟩⟩
  · dsimp only at z ⊢
    have z1 : a.2 = false := by cases h : a.2 <;> simp [h] at z ⊢
    have z2 : b.2 = false := by cases h : b.2 <;> simp [h] at z ⊢
    exact hx z1 z2 (ha z1) (hb z2)
  · rw [List.cons_append, List.reverse_cons]
    exact jl_up (jl_init hj) (by rw [hn])
  · rw [up3_self]; congr 1; simp only [List.length_cons]; omega
  · rw [up3_s (by decide), h4, any_c, List.any_cons]
theorem RW_cmp {A : FI} {B : FJ} {b a : Int64 × Bool} {u : List Nat} (h : RW A B ([b, a], u)) : ∃ ya yb, B 11 0 u.length = ya ∧ B 11 0 (u.length + 1) = yb ∧ A 10 0 2 = bI (a.2 || b.2) ∧ A 10 0 1 = nI (u.length + 2) ∧ (a.2 = false → ya = a.1) ∧ (b.2 = false → yb = b.1) ∧ ∀ A' B' v, A' 10 0 1 = nI (u.length + 1) → A' 10 0 2 = 0 → (∀ k, k < u.length → B' 11 0 k = B 11 0 k) → B' 11 0 u.length = lN v → RW A' B' ([], v :: u) := by
  obtain ⟨ys, h1, h2, h3, h4⟩ := h
  have hl := sml_len h1
  obtain ⟨yb, ya, yr, rfl⟩ := len2 hl (by simp)
  have : yr = [] := by cases yr with
    | nil => rfl
    | cons _ _ => simp at hl
  subst this
  obtain ⟨hb, ha, hr⟩ := h1
  dsimp only at h2 h3 h4
  have hj : jl (B 11 0) ((u.map lN).reverse ++ [ya, yb]) := by simpa using h2
  have hn : (u.map lN).reverse.length = u.length := by simp
  obtain ⟨e1, e2⟩ := jl_last2 hj
  rw [hn] at e1 e2
  refine ⟨ya, yb, e1, e2, by rw [h4, any_c]; simp, by rw [h3]; congr 1; simp only [List.length_cons, List.length_nil]; omega, ha, hb, fun A' B' v q1 q2 q3 q4 => ⟨[], trivial, ?_, ?_, ?_⟩⟩
  · rw [List.nil_append, List.map_cons, List.reverse_cons]
    intro k hk
    rw [List.length_append, hn, List.length_singleton] at hk
    by_cases e : k = u.length
    · subst e
      have := gd_e (l := (u.map lN).reverse) (x := lN v) (d := (0 : Int64))
      rw [hn] at this
      rw [q4, this]
    · rw [q3 k (by omega), gd_l (by rw [hn]; omega)]
      exact (jl_init hj) k (by rw [hn]; omega)
  · rw [q1]; congr 1; simp only [List.length_cons, List.length_nil]; omega
  · rw [q2]; rfl
theorem RW_tru {A : FI} {B : FJ} {u : List Nat} {a : Nat} (h : RW A B ([], a :: u)) : B 11 0 u.length = lN a ∧ A 10 0 1 = nI (u.length + 1) ∧ ∀ v, RW A (up3 B 11 0 u.length (lN v)) ([], v :: u) := by
  obtain ⟨ys, h1, h2, h3, h4⟩ := h
  have hl := sml_len h1
  have : ys = [] := List.eq_nil_of_length_eq_zero hl
  subst this
  have hj : jl (B 11 0) ((u.map lN).reverse ++ [lN a]) := by simpa using h2
  have hn : (u.map lN).reverse.length = u.length := by simp
  have e1 := jl_last hj
  rw [hn] at e1
  refine ⟨e1, by rw [h3]; congr 1; simp only [List.length_cons, List.length_nil]; omega, fun v => ⟨[], trivial, ?_, by rw [h3]; rfl, h4⟩⟩
  rw [List.nil_append, List.map_cons, List.reverse_cons]
  exact jl_up (jl_init hj) (by rw [hn])
theorem RW_tr2 {A : FI} {B : FJ} {u : List Nat} {a b : Nat} (h : RW A B ([], b :: a :: u)) : B 11 0 u.length = lN a ∧ B 11 0 (u.length + 1) = lN b ∧ A 10 0 1 = nI (u.length + 2) ∧ A 10 0 2 = bI false ∧ ∀ v, RW (up3 A 10 0 1 (nI (u.length + 1))) (up3 B 11 0 u.length (lN v)) ([], v :: u) := by
  obtain ⟨ys, h1, h2, h3, h4⟩ := h
  have hl := sml_len h1
  have : ys = [] := List.eq_nil_of_length_eq_zero hl
  subst this
  have hj : jl (B 11 0) ((u.map lN).reverse ++ [lN a, lN b]) := by simpa using h2
  have hn : (u.map lN).reverse.length = u.length := by simp
  obtain ⟨e1, e2⟩ := jl_last2 hj
  rw [hn] at e1 e2
  refine ⟨e1, e2, by rw [h3]; congr 1; simp only [List.length_cons, List.length_nil]; omega, h4, fun v => ⟨[], trivial, ?_, ?_, ?_⟩⟩
  · rw [List.nil_append, List.map_cons, List.reverse_cons]
    exact jl_up (jl_init hj) (by rw [hn])
  · rw [up3_self]; congr 1; simp only [List.length_cons, List.length_nil]; omega
  · rw [up3_s (by decide)]; exact h4
