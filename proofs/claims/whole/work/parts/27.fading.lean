/-! fading -/
/-- a place's sign as the upper rows see it -/
def upN (s : Nat → Int32) (i : Nat) : Nat := if s 1 = 0 then sgN s i % 512 else sgN s i / 64
def fdS (s : Nat → Int32) (i : Nat) : Int32 := if s (18 + 2 * i) ≤ 0 then 0 else if nI (pcN (upN s i)) < s 6 then 0 else 1
theorem upN_lt {s : Nat → Int32} {i : Nat} (h : sgN s i < 32768) : upN s i < 32768 := by unfold upN; split <;> omega
theorem and511 {x : Nat} (h : x < 2 ^ 32) : nI x &&& 511 = nI (x % 512) := pk_andN h 9 (by decide)
theorem fadA {V : VT} {s : Nat → Int32} (hB : BRel V 6 s) (hO : SOk s) {i : Nat} (h : i < 8) : f_X0_fades V 0 (nI i) = fdS s i := by
  obtain ⟨x, hx, hsx⟩ := hO.2.2.2.2.2.2.2.2.1 i h
  have hsg : sgN s i = x := by unfold sgN; rw [hsx, nI_clamp (by omega)]
  have e1 : f_X0_coatsAt V 0 (nI i) = s (18 + 2 * i) := by unfold f_X0_coatsAt; rw [at8 V _ h]; exact (hB.2.2.2.2.2.2.2.2.2.1 i h).symm
  have e2 : f_X0_signAt V 0 (nI i) = nI x := by unfold f_X0_signAt; rw [at8 V _ h, ← hsx]; exact (hB.2.2.2.2.2.2.2.2.1 i h).symm
  have e3 : V (6 + 7 * 0) 6 = s 6 := hB.2.2.2.2.2.2.1.symm
  have e4 : f_X0_way V 0 = s 1 := by
    unfold f_X0_way
    rw [show V (6 + 7 * 0) 1 = s 1 from hB.2.1.symm]
    rcases hO.2.1 with t | t <;> rw [t] <;> rfl
  have e5 : f_X6_darkInUpperRows V (nI x) (s 1) = nI (pcN (upN s i)) := by
    unfold f_X6_darkInUpperRows upN
    rw [hsg]
    have j1 : jushr (nI x) 6 = nI (x / 64) := ju_n (by omega) 6 6 (s_u 6 (by decide))
    by_cases t : s 1 = 0
    · rw [if_pos t, if_pos t, and511 (by omega), bc_n V (by omega)]
    · rw [if_neg t, if_neg t, j1, and511 (by omega), Nat.mod_eq_of_lt (by omega), bc_n V (by omega)]
  unfold f_X0_fades fdS
  rw [e1, e2, e3, e4, e5]
theorem fadM (fu : Nat) (hf : 20 ≤ fu) {V : VT} (hO : SOk (V 49)) {i : Nat} (h : i < 8) : p_X8_fades fu V (nI i) ∧ f_X8_fades fu V (nI i) = fdS (V 49) i := by
  obtain ⟨h1, h2⟩ := sg_ok hO h
  obtain ⟨c1, c2⟩ := ctM V h
  obtain ⟨g1, g2⟩ := sgM V h
  have d1 := dark_n fu (by omega) V (show sgN (V 49) i % 512 < 32768 by omega)
  have d2 := dark_n fu (by omega) V (show sgN (V 49) i / 64 < 32768 by omega)
  have j1 : nI (sgN (V 49) i) >>> (6 &&& 31) = nI (sgN (V 49) i / 64) := pk_shrN (by omega) _ 6 (s_l 6 (by decide))
  have j2 : nI (sgN (V 49) i) &&& 511 = nI (sgN (V 49) i % 512) := and511 (by omega)
  unfold p_X8_fades f_X8_fades fdS upN
  rw [g2, h1, c2, j1, j2, z1, z6]
  rcases hO.2.1 with t | t
  · simp [t, g1, c1, d1]
  · simp [t, g1, c1, d2]
theorem bar_l (fu : Nat) (hf : 20 ≤ fu) {V : VT} {P : Nat} (hB : BRel V 6 (V 49)) (hO : SOk (V 49)) (hP8 : P ≤ 8) (hP : V 49 0 = nI P) : ∀ (w i : Nat) (x y : Int32), i ≤ P → P - i < w → (x = nI 10 ∧ y = -1 ∨ ∃ k, k ≤ 9 ∧ x = nI k ∧ y = nI k) → p_X7_bareIn_l1 fu V w x (nI i) ∧ p_X8_bareIn_l1 fu V w y (nI i) ∧ f_X7_bareIn_l1 fu V w x (nI i) = f_X8_bareIn_l1 fu V w y (nI i) := by
  intro w
  induction w with
  | zero => intro i x y hi h; omega
  | succ w ih =>
    intro i x y hi h hxy
    have hP6 := cpl6 hB hP
    rcases Nat.lt_or_ge i P with hlt | hge
    · have hc : ¬ nI P ≤ nI i := nI_ge hlt (by omega)
      have c7 := ctA hB (i := i) (by omega)
      obtain ⟨c81, c82⟩ := ctM V (i := i) (by omega)
      have f7 := fadA hB hO (i := i) (by omega)
      have f8 := fadM fu hf hO (i := i) (by omega)
      obtain ⟨c, hc9, hcc⟩ := ct_ok hO (i := i) (by omega)
      rw [hcc] at c7 c82
      by_cases q : fdS (V 49) i = 0
      · have hn := ih (i + 1) x y (by omega) (by omega) hxy
        simp [f_X7_bareIn_l1, p_X7_bareIn_l1, f_X8_bareIn_l1, p_X8_bareIn_l1, hP6, hP, hc, f7, f8, q, nI_1, hn]
      · rcases hxy with ⟨rfl, rfl⟩ | ⟨k, hk, rfl, rfl⟩
        · have hn := ih (i + 1) (nI c) (nI c) (by omega) (by omega) (Or.inr ⟨c, hc9, rfl, rfl⟩)
          have l1 : nI c < nI 10 := nI_lt (by omega) (by decide)
          have l2 : (-1 : Int32) < 0 := by decide
          simp [f_X7_bareIn_l1, p_X7_bareIn_l1, f_X8_bareIn_l1, p_X8_bareIn_l1, hP6, hP, hc, f7, f8, q, c7, c81, c82, l1, l2, nI_1, hn]
        · have l2 : ¬ nI k < 0 := nI_pos (by omega)
          rcases Nat.lt_or_ge c k with r | r
          · have hn := ih (i + 1) (nI c) (nI c) (by omega) (by omega) (Or.inr ⟨c, hc9, rfl, rfl⟩)
            have l1 : nI c < nI k := nI_lt r (by omega)
            have l3 : ¬ nI k ≤ nI c := nI_ge r (by omega)
            simp [f_X7_bareIn_l1, p_X7_bareIn_l1, f_X8_bareIn_l1, p_X8_bareIn_l1, hP6, hP, hc, f7, f8, q, c7, c81, c82, l1, l2, l3, nI_1, hn]
          · have hn := ih (i + 1) (nI k) (nI k) (by omega) (by omega) (Or.inr ⟨k, hk, rfl, rfl⟩)
            have l1 : ¬ nI c < nI k := nI_nlt r (by omega)
            have l3 : nI k ≤ nI c := nI_le r (by omega)
            simp [f_X7_bareIn_l1, p_X7_bareIn_l1, f_X8_bareIn_l1, p_X8_bareIn_l1, hP6, hP, hc, f7, f8, q, c7, c81, c82, l1, l2, l3, nI_1, hn]
    · have he : i = P := by omega
      subst he
      have hc : nI i ≤ nI i := nI_le (Nat.le_refl _) (by omega)
      rcases hxy with ⟨rfl, rfl⟩ | ⟨k, hk, rfl, rfl⟩
      · have l1 : ¬ nI 10 ≤ 9 := by decide
        have l2 : f_X8_orNone V (-1) = -1004 := rfl
        simp [f_X7_bareIn_l1, p_X7_bareIn_l1, f_X8_bareIn_l1, p_X8_bareIn_l1, hP6, hP, hc, l1, l2]
      · have l1 : nI k ≤ 9 := nI_le (b := 9) hk (by decide)
        have l2 : f_X8_orNone V (nI k) = nI k := by unfold f_X8_orNone; rw [if_pos (nI_nn (by omega))]
        simp [f_X7_bareIn_l1, p_X7_bareIn_l1, f_X8_bareIn_l1, p_X8_bareIn_l1, hP6, hP, hc, l1, l2]
theorem sim_bareIn (V : VT) (hR : RelV V) : (p_X7_bareIn FU V) ∧ (p_X8_bareIn FU V) ∧ (f_X7_bareIn FU V) = (f_X8_bareIn FU V) ∧ RelV V := by
  obtain ⟨⟨hB, hO⟩, -⟩ := id hR
  obtain ⟨P, hP8, hP⟩ := hO.1
  have hf := hfFU
  have e := bar_l FU hf hB hO hP8 hP FU 0 (nI 10) (-1) (by omega) (Nat.lt_of_lt_of_le (by omega) hf) (Or.inl ⟨rfl, rfl⟩)
  exact ⟨e.1, e.2.1, e.2.2, hR⟩
theorem sim_clearText (V : VT) (hR : RelV V) : True ∧ True ∧ (f_X7_clearText V).1 = (f_X8_clearText (f_X7_clearText V).2).1 ∧ RelV (f_X8_clearText (f_X7_clearText V).2).2 := by
  obtain ⟨hN, hS, hH, ⟨n, h1, h2, h3, h4⟩⟩ := hR
  unfold f_X7_clearText f_X8_clearText
  dsimp only
  have k1 : ∀ a, a ≠ 2 → a ≠ 48 → upV (upV V 2 0 0) 48 2 0 a = V a := fun a g1 g2 => by rw [upV_ne _ _ _ g2, upV_ne _ _ _ g1]
  have k2 : ∀ j, j ≠ 2 → upV (upV V 2 0 0) 48 2 0 48 j = V 48 j := fun j g => by rw [upV_eq, if_neg (fun z => g z.2), upV_ne _ _ _ (by decide)]
  refine ⟨trivial, trivial, ?_, hN.cong (fun a ha => k1 a (by omega) (by omega)), hS.cong (fun a ha => k1 a (by omega) (by omega)) (k2 0 (by decide)), hH.cong (fun a ha => k1 a (by omega) (by omega)) (k2 1 (by decide)), ?_⟩
  · rw [upV_ne _ _ _ (by decide), h2, h3]
  · refine ⟨0, by omega, ?_, ?_, fun i hi => absurd hi (Nat.not_lt_zero _)⟩
    · rw [upV_ne _ _ _ (by decide), upV_eq, if_pos ⟨rfl, rfl⟩]; rfl
    · rw [upV_eq, if_pos ⟨rfl, rfl⟩]; rfl
