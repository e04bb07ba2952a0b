theorem set_l (fu : Nat) {V : VT} (hB : BRel V 6 (V 49)) (hO : SOk (V 49)) : ∀ (w i : Nat) (x : Int32), i ≤ 10 → 10 - i < w → p_X3_asSet_l1 fu V 0 w x (nI i) ∧ p_X8_drawnSet_l1 fu V w x (nI i) ∧ f_X3_asSet_l1 fu V 0 w x (nI i) = f_X8_drawnSet_l1 fu V w x (nI i) := by
  intro w
  induction w with
  | zero => intro i x hi h; omega
  | succ w ih =>
    intro i x hi h
    rcases Nat.lt_or_ge i 10 with hlt | hge
    · have hc : ¬ nI 10 ≤ nI i := nI_ge hlt (by decide)
      have hc2 : ¬ (10 : Int32) ≤ nI i := hc
      have r2 : V 8 i = V 49 (7 + i) := row2 V hB hlt
      have d := drawn_n V hlt
      have k : (nI i).toNatClampNeg = i := nI_clamp (by omega)
      have v : vp_in (nI i) 10 := vp_in_nI hlt (by decide)
      by_cases q : V 49 (7 + i) = -1
      · have hn := ih (i + 1) x (by omega) (by omega)
        have q0 : ¬ (0 : Int32) ≤ -1 := by decide
        simp [f_X3_asSet_l1, p_X3_asSet_l1, f_X8_drawnSet_l1, p_X8_drawnSet_l1, hc, hc2, r2, d, k, v, q, nI_1, hn]
      · have hn := ih (i + 1) (x ||| (1 <<< (nI i &&& 31))) (by omega) (by omega)
        have q0 : (0 : Int32) ≤ V 49 (7 + i) := by rw [(hO.dr hlt q).1]; exact nI_nn (by have := (hO.dr hlt q).2; omega)
        simp [f_X3_asSet_l1, p_X3_asSet_l1, f_X8_drawnSet_l1, p_X8_drawnSet_l1, hc, hc2, r2, d, k, v, q, q0, nI_1, hn]
    · have he : i = 10 := by omega
      subst he
      have hc : nI 10 ≤ nI 10 := nI_le (Nat.le_refl _) (by omega)
      have hc2 : (10 : Int32) ≤ nI 10 := hc
      simp [f_X3_asSet_l1, p_X3_asSet_l1, f_X8_drawnSet_l1, p_X8_drawnSet_l1, hc, hc2]
theorem all_l (fu : Nat) {V : VT} {P : Nat} (hB : BRel V 6 (V 49)) (hP8 : P ≤ 8) (hP : V 49 0 = nI P) : ∀ (w i : Nat) (x : Int32), i ≤ P → P - i < w → p_X0_allCoats_l1 fu V 0 w x (nI i) ∧ p_X8_paintedOr_l1 fu V 1 w x (nI i) ∧ f_X0_allCoats_l1 fu V 0 w x (nI i) = f_X8_paintedOr_l1 fu V 1 w x (nI i) := by
  intro w
  induction w with
  | zero => intro i x hi h; omega
  | succ w ih =>
    intro i x hi h
    have hP6 := cpl6 hB hP
    rcases Nat.lt_or_ge i P with hlt | hge
    · have hc : ¬ nI P ≤ nI i := nI_ge hlt (by omega)
      have c7 := ctA hB (i := i) (by omega)
      have c8 := ctM V (i := i) (by omega)
      have hn := ih (i + 1) (x + V 49 (18 + 2 * i)) (by omega) (by omega)
      simp [f_X0_allCoats_l1, p_X0_allCoats_l1, f_X8_paintedOr_l1, p_X8_paintedOr_l1, hP6, hP, hc, c7, c8, nI_1, hn]
    · have he : i = P := by omega
      subst he
      have hc : nI i ≤ nI i := nI_le (Nat.le_refl _) (by omega)
      simp [f_X0_allCoats_l1, p_X0_allCoats_l1, f_X8_paintedOr_l1, p_X8_paintedOr_l1, hP6, hP, hc]
theorem wit_l (fu : Nat) {V : VT} {P : Nat} (hB : BRel V 6 (V 49)) (hP8 : P ≤ 8) (hP : V 49 0 = nI P) : ∀ (w i : Nat) (x : Int32), i ≤ P → P - i < w → p_X0_placesWithCoats_l1 fu V 0 w x (nI i) ∧ p_X8_paintedOr_l1 fu V 0 w x (nI i) ∧ f_X0_placesWithCoats_l1 fu V 0 w x (nI i) = f_X8_paintedOr_l1 fu V 0 w x (nI i) := by
  intro w
  induction w with
  | zero => intro i x hi h; omega
  | succ w ih =>
    intro i x hi h
    have hP6 := cpl6 hB hP
    rcases Nat.lt_or_ge i P with hlt | hge
    · have hc : ¬ nI P ≤ nI i := nI_ge hlt (by omega)
      have c7 := ctA hB (i := i) (by omega)
      have c8 := ctM V (i := i) (by omega)
      by_cases q : V 49 (18 + 2 * i) ≤ 0
      · have hn := ih (i + 1) x (by omega) (by omega)
        simp [f_X0_placesWithCoats_l1, p_X0_placesWithCoats_l1, f_X8_paintedOr_l1, p_X8_paintedOr_l1, hP6, hP, hc, c7, c8, q, nI_1, hn]
      · have hn := ih (i + 1) (x + 1) (by omega) (by omega)
        simp [f_X0_placesWithCoats_l1, p_X0_placesWithCoats_l1, f_X8_paintedOr_l1, p_X8_paintedOr_l1, hP6, hP, hc, c7, c8, q, nI_1, hn]
    · have he : i = P := by omega
      subst he
      have hc : nI i ≤ nI i := nI_le (Nat.le_refl _) (by omega)
      simp [f_X0_placesWithCoats_l1, p_X0_placesWithCoats_l1, f_X8_paintedOr_l1, p_X8_paintedOr_l1, hP6, hP, hc]
theorem c11 (b : Int32) : b < 0 ∨ nI 11 ≤ b ∨ b = 0 ∨ b = 1 ∨ b = 2 ∨ b = 3 ∨ b = 4 ∨ b = 5 ∨ b = 6 ∨ b = 7 ∨ b = 8 ∨ b = 9 ∨ b = 10 := by
  rcases pk_ix b (n := 11) (by decide) with h | h | ⟨j, hj, rfl⟩
  · exact Or.inl h
  · exact Or.inr (Or.inl h)
  · have k : ∀ j, j < 11 → nI j = 0 ∨ nI j = 1 ∨ nI j = 2 ∨ nI j = 3 ∨ nI j = 4 ∨ nI j = 5 ∨ nI j = 6 ∨ nI j = 7 ∨ nI j = 8 ∨ nI j = 9 ∨ nI j = 10 := by decide +kernel
    exact Or.inr (Or.inr (k j hj))
theorem c20 (b : Int32) (h : nI 11 ≤ b) : (b < 20 ∧ b ≠ 20 ∧ b ≠ 21) ∨ (21 < b ∧ b ≠ 20 ∧ b ≠ 21) ∨ b = 20 ∨ b = 21 := by
  rcases pk_ix b (n := 22) (by decide) with g | g | ⟨j, hj, rfl⟩
  · exact absurd (Int32.lt_of_lt_of_le g (by decide : (0 : Int32) ≤ nI 11)) (i32_nl h)
  · exact Or.inr (Or.inl ⟨lt_le (n := 21) (by decide) g, ne_hi g _ (by decide), ne_hi g _ (by decide)⟩)
  · have k : ∀ j, j < 22 → (nI j < 20 ∧ nI j ≠ 20 ∧ nI j ≠ 21) ∨ nI j = 20 ∨ nI j = 21 := by decide +kernel
    rcases k j hj with q | q | q
    · exact Or.inl q
    · exact Or.inr (Or.inr (Or.inl q))
    · exact Or.inr (Or.inr (Or.inr q))
theorem sim_count (V : VT) (a : Int32) (hR : RelV V) : (p_X7_count FU V a) ∧ (p_X8_count FU V a) ∧ (f_X7_count FU V a) = (f_X8_count FU V a) ∧ RelV V := by
  obtain ⟨⟨hB, hO⟩, ⟨hs1, hs2, -⟩, ⟨n, hst, hn4, hC, hM, -⟩, ⟨tn, ht1, ht2, ht3, -⟩⟩ := id hR
  obtain ⟨P, hP8, hP⟩ := hO.1
  revert hR
  generalize hfu : FU = fu
  have hf : 20 ≤ fu := hfu ▸ hfFU
  intro hR
  have hP6 := cpl6 hB hP
  have e1 := set_l fu hB hO fu 0 0 (by omega) (by omega)
  have e2 := all_l fu hB hP8 hP fu 0 0 (by omega) (by omega)
  have e3 := wit_l fu hB hP8 hP fu 0 0 (by omega) (by omega)
  have n0 : nI 0 = (0 : Int32) := rfl
  rw [n0] at e1 e2 e3
  have q1 := hB.2.1.symm
  have q2 := hB.2.2.1.symm
  have q3 := hB.2.2.2.1.symm
  have q4 := hB.2.2.2.2.1.symm
  have hh : V 4 0 = V 48 1 := hC.1.trans hM.1.symm
  have ht : V 2 0 = V 48 2 := ht2.trans ht3.symm
  have ha2 : f_X7_asNumber V (V 49 1) = V 49 1 := by
    unfold f_X7_asNumber
    rcases hO.2.1 with t | t <;> rw [t] <;> rfl
  rcases c11 a with h | h | rfl | rfl | rfl | rfl | rfl | rfl | rfl | rfl | rfl | rfl | rfl
  · have n := ne_lo h
    have i1 : f_X8_in V a 20 21 = 0 := in_lo V (Int32.lt_trans h (by decide))
    simp [p_X7_count, p_X8_count, f_X7_count, f_X8_count, n 0 (by decide), n 1 (by decide), n 2 (by decide), n 3 (by decide), n 4 (by decide), n 5 (by decide), n 6 (by decide), n 7 (by decide), n 8 (by decide), n 9 (by decide), n 10 (by decide), n 20 (by decide), n 21 (by decide), i1, hR]
  · have n := ne_hi h
    rcases c20 a h with ⟨g1, g2, g3⟩ | ⟨g1, g2, g3⟩ | rfl | rfl
    · have i1 : f_X8_in V a 20 21 = 0 := in_lo V g1
      simp [p_X7_count, p_X8_count, f_X7_count, f_X8_count, n 0 (by decide), n 1 (by decide), n 2 (by decide), n 3 (by decide), n 4 (by decide), n 5 (by decide), n 6 (by decide), n 7 (by decide), n 8 (by decide), n 9 (by decide), n 10 (by decide), g2, g3, i1, hR]
    · have i1 : f_X8_in V a 20 21 = 0 := in_hi V g1
      simp [p_X7_count, p_X8_count, f_X7_count, f_X8_count, n 0 (by decide), n 1 (by decide), n 2 (by decide), n 3 (by decide), n 4 (by decide), n 5 (by decide), n 6 (by decide), n 7 (by decide), n 8 (by decide), n 9 (by decide), n 10 (by decide), g2, g3, i1, hR]
    · have s0 : f_X0_setting V 0 0 = V 49 5 := stA0 hB
      have v0 : vp_in (5 : Int32) 49 := vp_in_nI (n := 5) (by decide) (by decide)
      have k0 : (5 : Int32).toNatClampNeg = 5 := rfl
      simp [p_X7_count, p_X8_count, f_X7_count, f_X8_count, show f_X8_in V 20 20 21 = 1 from rfl, s0, v0, k0, hR]
    · have s0 : f_X0_setting V 0 1 = V 49 6 := stA1 hB
      have v0 : vp_in (6 : Int32) 49 := vp_in_nI (n := 6) (by decide) (by decide)
      have k0 : (6 : Int32).toNatClampNeg = 6 := rfl
      simp [p_X7_count, p_X8_count, f_X7_count, f_X8_count, show f_X8_in V 21 20 21 = 1 from rfl, s0, v0, k0, hR]
  all_goals simp [p_X7_count, p_X8_count, f_X7_count, f_X8_count, p_X3_asSet, f_X3_asSet, p_X8_drawnSet, f_X8_drawnSet, p_X0_allCoats, f_X0_allCoats, p_X0_placesWithCoats, f_X0_placesWithCoats, p_X8_paintedOr, f_X8_paintedOr, e1, e2, e3, hP6, hP, q1, q2, q3, q4, hh, ht, hs1, hR]
  all_goals first | exact ha2 | rfl | skip
