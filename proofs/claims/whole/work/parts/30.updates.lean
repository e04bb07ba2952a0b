/-! one number changed on both sides -/
theorem BRel.ut {V : VT} {s : Nat → Int32} (h : BRel V 6 s) (x : Int32) : BRel (upV V 6 1 x) 6 (upd s 1 x) := by
  obtain ⟨h0, h1, h2, h3, h4, h5, h6, h7, h8, h9, h10⟩ := h
  refine ⟨?_, ?_, ?_, ?_, ?_, ?_, ?_, fun i hi => ?_, fun i hi => ?_, fun i hi => ?_, fun i hi hp => ?_⟩
  · rw [pk_un (by omega), upV_eq, if_neg (by omega)]; exact h0
  · rw [pk_us, upV_eq, if_pos ⟨rfl, rfl⟩]
  · rw [pk_un (by omega), upV_eq, if_neg (by omega)]; exact h2
  · rw [pk_un (by omega), upV_eq, if_neg (by omega)]; exact h3
  · rw [pk_un (by omega), upV_eq, if_neg (by omega)]; exact h4
  · rw [pk_un (by omega), upV_eq, if_neg (by omega)]; exact h5
  · rw [pk_un (by omega), upV_eq, if_neg (by omega)]; exact h6
  · rw [pk_un (by omega), upV_eq, if_neg (by omega)]; exact h7 i hi
  · rw [pk_un (by omega), upV_eq, if_neg (by omega)]; exact h8 i hi
  · rw [pk_un (by omega), upV_eq, if_neg (by omega)]; exact h9 i hi
  · rw [pk_un (by omega)] at hp
    rw [pk_un (by omega), pk_un (by omega), upV_eq, if_neg (by omega), upV_eq, if_neg (by omega)]
    exact h10 i hi hp
theorem BRel.uf {V : VT} {s : Nat → Int32} (h : BRel V 6 s) (x : Int32) : BRel (upV V 6 2 x) 6 (upd s 2 x) := by
  obtain ⟨h0, h1, h2, h3, h4, h5, h6, h7, h8, h9, h10⟩ := h
  refine ⟨?_, ?_, ?_, ?_, ?_, ?_, ?_, fun i hi => ?_, fun i hi => ?_, fun i hi => ?_, fun i hi hp => ?_⟩
  · rw [pk_un (by omega), upV_eq, if_neg (by omega)]; exact h0
  · rw [pk_un (by omega), upV_eq, if_neg (by omega)]; exact h1
  · rw [pk_us, upV_eq, if_pos ⟨rfl, rfl⟩]
  · rw [pk_un (by omega), upV_eq, if_neg (by omega)]; exact h3
  · rw [pk_un (by omega), upV_eq, if_neg (by omega)]; exact h4
  · rw [pk_un (by omega), upV_eq, if_neg (by omega)]; exact h5
  · rw [pk_un (by omega), upV_eq, if_neg (by omega)]; exact h6
  · rw [pk_un (by omega), upV_eq, if_neg (by omega)]; exact h7 i hi
  · rw [pk_un (by omega), upV_eq, if_neg (by omega)]; exact h8 i hi
  · rw [pk_un (by omega), upV_eq, if_neg (by omega)]; exact h9 i hi
  · rw [pk_un (by omega)] at hp
    rw [pk_un (by omega), pk_un (by omega), upV_eq, if_neg (by omega), upV_eq, if_neg (by omega)]
    exact h10 i hi hp
theorem BRel.uy {V : VT} {s : Nat → Int32} (h : BRel V 6 s) (x : Int32) : BRel (upV V 6 3 x) 6 (upd s 3 x) := by
  obtain ⟨h0, h1, h2, h3, h4, h5, h6, h7, h8, h9, h10⟩ := h
  refine ⟨?_, ?_, ?_, ?_, ?_, ?_, ?_, fun i hi => ?_, fun i hi => ?_, fun i hi => ?_, fun i hi hp => ?_⟩
  · rw [pk_un (by omega), upV_eq, if_neg (by omega)]; exact h0
  · rw [pk_un (by omega), upV_eq, if_neg (by omega)]; exact h1
  · rw [pk_un (by omega), upV_eq, if_neg (by omega)]; exact h2
  · rw [pk_us, upV_eq, if_pos ⟨rfl, rfl⟩]
  · rw [pk_un (by omega), upV_eq, if_neg (by omega)]; exact h4
  · rw [pk_un (by omega), upV_eq, if_neg (by omega)]; exact h5
  · rw [pk_un (by omega), upV_eq, if_neg (by omega)]; exact h6
  · rw [pk_un (by omega), upV_eq, if_neg (by omega)]; exact h7 i hi
  · rw [pk_un (by omega), upV_eq, if_neg (by omega)]; exact h8 i hi
  · rw [pk_un (by omega), upV_eq, if_neg (by omega)]; exact h9 i hi
  · rw [pk_un (by omega)] at hp
    rw [pk_un (by omega), pk_un (by omega), upV_eq, if_neg (by omega), upV_eq, if_neg (by omega)]
    exact h10 i hi hp
theorem BRel.uu {V : VT} {s : Nat → Int32} (h : BRel V 6 s) (x : Int32) : BRel (upV V 6 4 x) 6 (upd s 4 x) := by
  obtain ⟨h0, h1, h2, h3, h4, h5, h6, h7, h8, h9, h10⟩ := h
  refine ⟨?_, ?_, ?_, ?_, ?_, ?_, ?_, fun i hi => ?_, fun i hi => ?_, fun i hi => ?_, fun i hi hp => ?_⟩
  · rw [pk_un (by omega), upV_eq, if_neg (by omega)]; exact h0
  · rw [pk_un (by omega), upV_eq, if_neg (by omega)]; exact h1
  · rw [pk_un (by omega), upV_eq, if_neg (by omega)]; exact h2
  · rw [pk_un (by omega), upV_eq, if_neg (by omega)]; exact h3
  · rw [pk_us, upV_eq, if_pos ⟨rfl, rfl⟩]
  · rw [pk_un (by omega), upV_eq, if_neg (by omega)]; exact h5
  · rw [pk_un (by omega), upV_eq, if_neg (by omega)]; exact h6
  · rw [pk_un (by omega), upV_eq, if_neg (by omega)]; exact h7 i hi
  · rw [pk_un (by omega), upV_eq, if_neg (by omega)]; exact h8 i hi
  · rw [pk_un (by omega), upV_eq, if_neg (by omega)]; exact h9 i hi
  · rw [pk_un (by omega)] at hp
    rw [pk_un (by omega), pk_un (by omega), upV_eq, if_neg (by omega), upV_eq, if_neg (by omega)]
    exact h10 i hi hp
theorem BRel.ua {V : VT} {s : Nat → Int32} (h : BRel V 6 s) (x : Int32) : BRel (upV V 6 5 x) 6 (upd s 5 x) := by
  obtain ⟨h0, h1, h2, h3, h4, h5, h6, h7, h8, h9, h10⟩ := h
  refine ⟨?_, ?_, ?_, ?_, ?_, ?_, ?_, fun i hi => ?_, fun i hi => ?_, fun i hi => ?_, fun i hi hp => ?_⟩
  · rw [pk_un (by omega), upV_eq, if_neg (by omega)]; exact h0
  · rw [pk_un (by omega), upV_eq, if_neg (by omega)]; exact h1
  · rw [pk_un (by omega), upV_eq, if_neg (by omega)]; exact h2
  · rw [pk_un (by omega), upV_eq, if_neg (by omega)]; exact h3
  · rw [pk_un (by omega), upV_eq, if_neg (by omega)]; exact h4
  · rw [pk_us, upV_eq, if_pos ⟨rfl, rfl⟩]
  · rw [pk_un (by omega), upV_eq, if_neg (by omega)]; exact h6
  · rw [pk_un (by omega), upV_eq, if_neg (by omega)]; exact h7 i hi
  · rw [pk_un (by omega), upV_eq, if_neg (by omega)]; exact h8 i hi
  · rw [pk_un (by omega), upV_eq, if_neg (by omega)]; exact h9 i hi
  · rw [pk_un (by omega)] at hp
    rw [pk_un (by omega), pk_un (by omega), upV_eq, if_neg (by omega), upV_eq, if_neg (by omega)]
    exact h10 i hi hp
theorem BRel.ub {V : VT} {s : Nat → Int32} (h : BRel V 6 s) (x : Int32) : BRel (upV V 6 6 x) 6 (upd s 6 x) := by
  obtain ⟨h0, h1, h2, h3, h4, h5, h6, h7, h8, h9, h10⟩ := h
  refine ⟨?_, ?_, ?_, ?_, ?_, ?_, ?_, fun i hi => ?_, fun i hi => ?_, fun i hi => ?_, fun i hi hp => ?_⟩
  · rw [pk_un (by omega), upV_eq, if_neg (by omega)]; exact h0
  · rw [pk_un (by omega), upV_eq, if_neg (by omega)]; exact h1
  · rw [pk_un (by omega), upV_eq, if_neg (by omega)]; exact h2
  · rw [pk_un (by omega), upV_eq, if_neg (by omega)]; exact h3
  · rw [pk_un (by omega), upV_eq, if_neg (by omega)]; exact h4
  · rw [pk_un (by omega), upV_eq, if_neg (by omega)]; exact h5
  · rw [pk_us, upV_eq, if_pos ⟨rfl, rfl⟩]
  · rw [pk_un (by omega), upV_eq, if_neg (by omega)]; exact h7 i hi
  · rw [pk_un (by omega), upV_eq, if_neg (by omega)]; exact h8 i hi
  · rw [pk_un (by omega), upV_eq, if_neg (by omega)]; exact h9 i hi
  · rw [pk_un (by omega)] at hp
    rw [pk_un (by omega), pk_un (by omega), upV_eq, if_neg (by omega), upV_eq, if_neg (by omega)]
    exact h10 i hi hp
theorem BRel.ud {V : VT} {s : Nat → Int32} (h : BRel V 6 s) {k : Nat} (hk : k < 10) (x : Int32) : BRel (upV V 8 k x) 6 (upd s (7 + k) x) := by
  obtain ⟨h0, h1, h2, h3, h4, h5, h6, h7, h8, h9, h10⟩ := h
  refine ⟨?_, ?_, ?_, ?_, ?_, ?_, ?_, fun i hi => ?_, fun i hi => ?_, fun i hi => ?_, fun i hi hp => ?_⟩
  · rw [pk_un (by omega), upV_eq, if_neg (by omega)]; exact h0
  · rw [pk_un (by omega), upV_eq, if_neg (by omega)]; exact h1
  · rw [pk_un (by omega), upV_eq, if_neg (by omega)]; exact h2
  · rw [pk_un (by omega), upV_eq, if_neg (by omega)]; exact h3
  · rw [pk_un (by omega), upV_eq, if_neg (by omega)]; exact h4
  · rw [pk_un (by omega), upV_eq, if_neg (by omega)]; exact h5
  · rw [pk_un (by omega), upV_eq, if_neg (by omega)]; exact h6
  · by_cases e : i = k
    · subst e
      rw [pk_us, upV_eq, if_pos ⟨rfl, rfl⟩]
    · rw [pk_un (by omega), upV_eq, if_neg (by omega)]
      exact h7 i hi
  · rw [pk_un (by omega), upV_eq, if_neg (by omega)]; exact h8 i hi
  · rw [pk_un (by omega), upV_eq, if_neg (by omega)]; exact h9 i hi
  · rw [pk_un (by omega)] at hp
    rw [pk_un (by omega), pk_un (by omega), upV_eq, if_neg (by omega), upV_eq, if_neg (by omega)]
    exact h10 i hi hp
theorem BRel.us {V : VT} {s : Nat → Int32} (h : BRel V 6 s) {k : Nat} (hk : k < 8) (x : Int32) : BRel (upV V 9 k x) 6 (upd s (17 + 2 * k) x) := by
  obtain ⟨h0, h1, h2, h3, h4, h5, h6, h7, h8, h9, h10⟩ := h
  refine ⟨?_, ?_, ?_, ?_, ?_, ?_, ?_, fun i hi => ?_, fun i hi => ?_, fun i hi => ?_, fun i hi hp => ?_⟩
  · rw [pk_un (by omega), upV_eq, if_neg (by omega)]; exact h0
  · rw [pk_un (by omega), upV_eq, if_neg (by omega)]; exact h1
  · rw [pk_un (by omega), upV_eq, if_neg (by omega)]; exact h2
  · rw [pk_un (by omega), upV_eq, if_neg (by omega)]; exact h3
  · rw [pk_un (by omega), upV_eq, if_neg (by omega)]; exact h4
  · rw [pk_un (by omega), upV_eq, if_neg (by omega)]; exact h5
  · rw [pk_un (by omega), upV_eq, if_neg (by omega)]; exact h6
  · rw [pk_un (by omega), upV_eq, if_neg (by omega)]; exact h7 i hi
  · by_cases e : i = k
    · subst e
      rw [pk_us, upV_eq, if_pos ⟨rfl, rfl⟩]
    · rw [pk_un (by omega), upV_eq, if_neg (by omega)]
      exact h8 i hi
  · rw [pk_un (by omega), upV_eq, if_neg (by omega)]; exact h9 i hi
  · rw [pk_un (by omega)] at hp
    rw [pk_un (by omega), pk_un (by omega), upV_eq, if_neg (by omega), upV_eq, if_neg (by omega)]
    exact h10 i hi hp
theorem BRel.uc {V : VT} {s : Nat → Int32} (h : BRel V 6 s) {k : Nat} (hk : k < 8) (x : Int32) : BRel (upV V 10 k x) 6 (upd s (18 + 2 * k) x) := by
  obtain ⟨h0, h1, h2, h3, h4, h5, h6, h7, h8, h9, h10⟩ := h
  refine ⟨?_, ?_, ?_, ?_, ?_, ?_, ?_, fun i hi => ?_, fun i hi => ?_, fun i hi => ?_, fun i hi hp => ?_⟩
  · rw [pk_un (by omega), upV_eq, if_neg (by omega)]; exact h0
  · rw [pk_un (by omega), upV_eq, if_neg (by omega)]; exact h1
  · rw [pk_un (by omega), upV_eq, if_neg (by omega)]; exact h2
  · rw [pk_un (by omega), upV_eq, if_neg (by omega)]; exact h3
  · rw [pk_un (by omega), upV_eq, if_neg (by omega)]; exact h4
  · rw [pk_un (by omega), upV_eq, if_neg (by omega)]; exact h5
  · rw [pk_un (by omega), upV_eq, if_neg (by omega)]; exact h6
  · rw [pk_un (by omega), upV_eq, if_neg (by omega)]; exact h7 i hi
  · rw [pk_un (by omega), upV_eq, if_neg (by omega)]; exact h8 i hi
  · by_cases e : i = k
    · subst e
      rw [pk_us, upV_eq, if_pos ⟨rfl, rfl⟩]
    · rw [pk_un (by omega), upV_eq, if_neg (by omega)]
      exact h9 i hi
  · rw [pk_un (by omega)] at hp
    rw [pk_un (by omega), pk_un (by omega), upV_eq, if_neg (by omega), upV_eq, if_neg (by omega)]
    exact h10 i hi hp
theorem SOk.ut {s : Nat → Int32} (h : SOk s) {x : Int32} (hx : x = 0 ∨ x = 1) : SOk (upd s 1 x) := by
  obtain ⟨h1, h2, h3, h4, h5, h6, h7, h8, h9, h10, h11⟩ := h
  refine ⟨?_, ?_, ?_, ?_, ?_, ?_, fun i hi => ?_, fun i j hi hj => ?_, fun i hi => ?_, fun i hi => ?_, fun i hi => ?_⟩
  · rw [pk_un (by omega)]; exact h1
  · rw [pk_us]; exact hx
  · rw [pk_un (by omega)]; exact h3
  · rw [pk_un (by omega)]; exact h4
  · rw [pk_un (by omega)]; exact h5
  · rw [pk_un (by omega)]; exact h6
  · rw [pk_un (by omega)]; exact h7 i hi
  · rw [pk_un (by omega), pk_un (by omega)]; exact h8 i j hi hj
  · rw [pk_un (by omega)]; exact h9 i hi
  · rw [pk_un (by omega)]; exact h10 i hi
  · rw [pk_un (by omega)]; exact h11 i hi
theorem SOk.uf {s : Nat → Int32} (h : SOk s) {x : Int32} (hx : ∃ k, 1 ≤ k ∧ k ≤ 99 ∧ x = nI k) : SOk (upd s 2 x) := by
  obtain ⟨h1, h2, h3, h4, h5, h6, h7, h8, h9, h10, h11⟩ := h
  refine ⟨?_, ?_, ?_, ?_, ?_, ?_, fun i hi => ?_, fun i j hi hj => ?_, fun i hi => ?_, fun i hi => ?_, fun i hi => ?_⟩
  · rw [pk_un (by omega)]; exact h1
  · rw [pk_un (by omega)]; exact h2
  · rw [pk_us]; exact hx
  · rw [pk_un (by omega)]; exact h4
  · rw [pk_un (by omega)]; exact h5
  · rw [pk_un (by omega)]; exact h6
  · rw [pk_un (by omega)]; exact h7 i hi
  · rw [pk_un (by omega), pk_un (by omega)]; exact h8 i j hi hj
  · rw [pk_un (by omega)]; exact h9 i hi
  · rw [pk_un (by omega)]; exact h10 i hi
  · rw [pk_un (by omega)]; exact h11 i hi
theorem SOk.uy {s : Nat → Int32} (h : SOk s) {x : Int32} (hx : ∃ k, k ≤ 9999 ∧ x = nI k) : SOk (upd s 3 x) := by
  obtain ⟨h1, h2, h3, h4, h5, h6, h7, h8, h9, h10, h11⟩ := h
  refine ⟨?_, ?_, ?_, ?_, ?_, ?_, fun i hi => ?_, fun i j hi hj => ?_, fun i hi => ?_, fun i hi => ?_, fun i hi => ?_⟩
  · rw [pk_un (by omega)]; exact h1
  · rw [pk_un (by omega)]; exact h2
  · rw [pk_un (by omega)]; exact h3
  · rw [pk_us]; exact hx
  · rw [pk_un (by omega)]; exact h5
  · rw [pk_un (by omega)]; exact h6
  · rw [pk_un (by omega)]; exact h7 i hi
  · rw [pk_un (by omega), pk_un (by omega)]; exact h8 i j hi hj
  · rw [pk_un (by omega)]; exact h9 i hi
  · rw [pk_un (by omega)]; exact h10 i hi
  · rw [pk_un (by omega)]; exact h11 i hi
theorem SOk.uu {s : Nat → Int32} (h : SOk s) {x : Int32}  : SOk (upd s 4 x) := by
  obtain ⟨h1, h2, h3, h4, h5, h6, h7, h8, h9, h10, h11⟩ := h
  refine ⟨?_, ?_, ?_, ?_, ?_, ?_, fun i hi => ?_, fun i j hi hj => ?_, fun i hi => ?_, fun i hi => ?_, fun i hi => ?_⟩
  · rw [pk_un (by omega)]; exact h1
  · rw [pk_un (by omega)]; exact h2
  · rw [pk_un (by omega)]; exact h3
  · rw [pk_un (by omega)]; exact h4
  · rw [pk_un (by omega)]; exact h5
  · rw [pk_un (by omega)]; exact h6
  · rw [pk_un (by omega)]; exact h7 i hi
  · rw [pk_un (by omega), pk_un (by omega)]; exact h8 i j hi hj
  · rw [pk_un (by omega)]; exact h9 i hi
  · rw [pk_un (by omega)]; exact h10 i hi
  · rw [pk_un (by omega)]; exact h11 i hi
theorem SOk.ua {s : Nat → Int32} (h : SOk s) {x : Int32} (hx : ∃ k, 1 ≤ k ∧ k ≤ 9 ∧ x = nI k) : SOk (upd s 5 x) := by
  obtain ⟨h1, h2, h3, h4, h5, h6, h7, h8, h9, h10, h11⟩ := h
  refine ⟨?_, ?_, ?_, ?_, ?_, ?_, fun i hi => ?_, fun i j hi hj => ?_, fun i hi => ?_, fun i hi => ?_, fun i hi => ?_⟩
  · rw [pk_un (by omega)]; exact h1
  · rw [pk_un (by omega)]; exact h2
  · rw [pk_un (by omega)]; exact h3
  · rw [pk_un (by omega)]; exact h4
  · rw [pk_us]; exact hx
  · rw [pk_un (by omega)]; exact h6
  · rw [pk_un (by omega)]; exact h7 i hi
  · rw [pk_un (by omega), pk_un (by omega)]; exact h8 i j hi hj
  · rw [pk_un (by omega)]; exact h9 i hi
  · rw [pk_un (by omega)]; exact h10 i hi
  · rw [pk_un (by omega)]; exact h11 i hi
theorem SOk.ub {s : Nat → Int32} (h : SOk s) {x : Int32} (hx : ∃ k, k ≤ 9 ∧ x = nI k) : SOk (upd s 6 x) := by
  obtain ⟨h1, h2, h3, h4, h5, h6, h7, h8, h9, h10, h11⟩ := h
  refine ⟨?_, ?_, ?_, ?_, ?_, ?_, fun i hi => ?_, fun i j hi hj => ?_, fun i hi => ?_, fun i hi => ?_, fun i hi => ?_⟩
  · rw [pk_un (by omega)]; exact h1
  · rw [pk_un (by omega)]; exact h2
  · rw [pk_un (by omega)]; exact h3
  · rw [pk_un (by omega)]; exact h4
  · rw [pk_un (by omega)]; exact h5
  · rw [pk_us]; exact hx
  · rw [pk_un (by omega)]; exact h7 i hi
  · rw [pk_un (by omega), pk_un (by omega)]; exact h8 i j hi hj
  · rw [pk_un (by omega)]; exact h9 i hi
  · rw [pk_un (by omega)]; exact h10 i hi
  · rw [pk_un (by omega)]; exact h11 i hi
theorem SOk.ud {s : Nat → Int32} (h : SOk s) {k : Nat} (hk : k < 10) {x : Int32} (hx : ∃ y, y < 32768 ∧ x = nI y) (hu : ∀ i, i < 10 → i ≠ k → s (7 + i) ≠ x) : SOk (upd s (7 + k) x) := by
  obtain ⟨h1, h2, h3, h4, h5, h6, h7, h8, h9, h10, h11⟩ := h
  refine ⟨?_, ?_, ?_, ?_, ?_, ?_, fun i hi => ?_, fun i j hi hj => ?_, fun i hi => ?_, fun i hi => ?_, fun i hi => ?_⟩
  · rw [pk_un (by omega)]; exact h1
  · rw [pk_un (by omega)]; exact h2
  · rw [pk_un (by omega)]; exact h3
  · rw [pk_un (by omega)]; exact h4
  · rw [pk_un (by omega)]; exact h5
  · rw [pk_un (by omega)]; exact h6
  · by_cases e : i = k
    · subst e
      rw [pk_us]; exact Or.inr hx
    · rw [pk_un (by omega)]; exact h7 i hi
  · by_cases e1 : i = k <;> by_cases e2 : j = k
    · intro _ _; omega
    · subst e1
      rw [pk_us, pk_un (by omega)]
      intro z; exact absurd z.symm (hu j hj e2)
    · subst e2
      rw [pk_un (by omega), pk_us]
      intro z; exact absurd z (hu i hi e1)
    · rw [pk_un (by omega), pk_un (by omega)]
      exact h8 i j hi hj
  · rw [pk_un (by omega)]; exact h9 i hi
  · rw [pk_un (by omega)]; exact h10 i hi
  · rw [pk_un (by omega)]; exact h11 i hi
theorem SOk.us {s : Nat → Int32} (h : SOk s) {k : Nat} (hk : k < 8) {x : Int32} (hx : ∃ y, y < 32768 ∧ x = nI y) : SOk (upd s (17 + 2 * k) x) := by
  obtain ⟨h1, h2, h3, h4, h5, h6, h7, h8, h9, h10, h11⟩ := h
  refine ⟨?_, ?_, ?_, ?_, ?_, ?_, fun i hi => ?_, fun i j hi hj => ?_, fun i hi => ?_, fun i hi => ?_, fun i hi => ?_⟩
  · rw [pk_un (by omega)]; exact h1
  · rw [pk_un (by omega)]; exact h2
  · rw [pk_un (by omega)]; exact h3
  · rw [pk_un (by omega)]; exact h4
  · rw [pk_un (by omega)]; exact h5
  · rw [pk_un (by omega)]; exact h6
  · rw [pk_un (by omega)]; exact h7 i hi
  · rw [pk_un (by omega), pk_un (by omega)]; exact h8 i j hi hj
  · by_cases e : i = k
    · subst e
      rw [pk_us]; exact hx
    · rw [pk_un (by omega)]; exact h9 i hi
  · rw [pk_un (by omega)]; exact h10 i hi
  · rw [pk_un (by omega)]; exact h11 i hi
theorem SOk.uc {s : Nat → Int32} (h : SOk s) {k : Nat} (hk : k < 8) {x : Int32} (hx : ∃ k, k ≤ 9 ∧ x = nI k) : SOk (upd s (18 + 2 * k) x) := by
  obtain ⟨h1, h2, h3, h4, h5, h6, h7, h8, h9, h10, h11⟩ := h
  refine ⟨?_, ?_, ?_, ?_, ?_, ?_, fun i hi => ?_, fun i j hi hj => ?_, fun i hi => ?_, fun i hi => ?_, fun i hi => ?_⟩
  · rw [pk_un (by omega)]; exact h1
  · rw [pk_un (by omega)]; exact h2
  · rw [pk_un (by omega)]; exact h3
  · rw [pk_un (by omega)]; exact h4
  · rw [pk_un (by omega)]; exact h5
  · rw [pk_un (by omega)]; exact h6
  · rw [pk_un (by omega)]; exact h7 i hi
  · rw [pk_un (by omega), pk_un (by omega)]; exact h8 i j hi hj
  · rw [pk_un (by omega)]; exact h9 i hi
  · by_cases e : i = k
    · subst e
      rw [pk_us]; exact hx
    · rw [pk_un (by omega)]; exact h10 i hi
  · rw [pk_un (by omega)]; exact h11 i hi
theorem hfFU2 : 200 ≤ FU := Nat.le_of_ble_eq_true rfl
theorem gt_n {k : Nat} (h : k < 2 ^ 31) : (-1001 : Int32) < nI k := Int32.lt_of_lt_of_le (by decide) (nI_nn h)
theorem rel_begins (fu : Nat) (hf : 200 ≤ fu) {V : VT} (hR : RelV V) : RelV (f_X8_begins fu V) := rel_beg hR (fun a _ h _ => (beg_m fu (by omega) V).2.1 a h) (fun j _ => by rw [(beg_m fu (by omega) V).2.1 48 (by decide)])
theorem push_R (fu : Nat) (hf : 200 ≤ fu) {V : VT} (hR : RelV V) : p_X2_push fu V 0 ∧ ∀ a, ¬ (a = 4 ∨ a = 5 ∨ (20 ≤ a ∧ a < 48)) → f_X2_push fu V 0 a = V a := by
  obtain ⟨⟨hB, hO⟩, -, ⟨h, hst, hh, hC, -, -⟩, -⟩ := hR
  obtain ⟨a, -, b⟩ := push_c fu (by omega) hB hO.b1 hh hC
  exact ⟨a, b⟩
theorem cd_R (fu : Nat) (hf : 200 ≤ fu) {V V1 : VT} {s' : Nat → Int32} (hR : RelV V) (h1 : ∀ a, ¬ (6 ≤ a ∧ a < 13) → a ≠ 1 → V1 a = f_X2_push fu V 0 a) (h2 : BRel V1 6 s') : CD V V1 s' := cd_of fu (by omega) hR.1.1 hR.1.2 hR.2.2.1 h1 h2
theorem sim_fin (fu : Nat) (hf : 200 ≤ fu) {V V1 X : VT} {s' : Nat → Int32} {ans : Int32} (hR : RelV V) (hc : CD V V1 s') (hs : SOk s') (ha : -1001 < ans) (h1 : ∀ a, a ≠ 48 → a ≠ 49 → a ≠ 50 → X a = V1 a) (h2 : ∀ i, i < 49 → X 50 i = V1 49 i) (h3 : ∀ i, i < 49 → X 49 i = s' i) (h4 : ∀ j, j < 3 → X 48 j = V1 48 j) : p_X8_acted fu X ans ∧ (f_X8_acted fu X ans).1 = ans ∧ RelV (f_X8_acted fu X ans).2 := by
  obtain ⟨h, hst, hh, -, hM, -⟩ := hR.2.2.1
  obtain ⟨a1, a2, a3⟩ := md_of fu hf hh (hM.cong (hc.2.2 52 (by omega)) (by rw [hc.2.2 48 (by omega)])) ha h1 h2 h3 h4
  exact ⟨a1, a2, rel_mut hR hc a3 hs⟩
/-- the model began, and one of its 49 numbers was changed -/
theorem sim_up (fu : Nat) (hf : 200 ≤ fu) {V V1 : VT} {k : Nat} {x : Int32} {ans : Int32} (hR : RelV V) (hc : CD V V1 (upd (V 49) k x)) (hs : SOk (upd (V 49) k x)) (ha : -1001 < ans) : p_X8_acted fu (upV (f_X8_begins fu V1) 49 k x) ans ∧ (f_X8_acted fu (upV (f_X8_begins fu V1) 49 k x) ans).1 = ans ∧ RelV (f_X8_acted fu (upV (f_X8_begins fu V1) 49 k x) ans).2 := by
  obtain ⟨b1, b2, b3⟩ := beg_m fu (by omega) V1
  refine sim_fin fu hf hR hc hs ha (fun a g1 g2 g3 => ?_) (fun i hi => ?_) (fun i hi => ?_) (fun j hj => ?_)
  · rw [upV_ne _ _ _ g2, b2 _ g3]
  · rw [upV_ne _ _ _ (by decide), b3 i hi]
  · rw [upV_at, b2 _ (by decide), hc.2.2 49 (by omega)]
  · rw [upV_ne _ _ _ (by decide), b2 _ (by decide)]
