/-! letterOf -/
theorem oft_l (fu : Nat) {V : VT} {P : Nat} (hB : BRel V 6 (V 49)) (hP8 : P ≤ 8) (hP : V 49 0 = nI P) (a : Int32) : ∀ (w i : Nat) (x : Int32), i ≤ P → P - i < w → p_X0_timesWanted_l1 fu V 0 a w x (nI i) ∧ p_X8_often_l1 fu V a w x (nI i) ∧ f_X0_timesWanted_l1 fu V 0 a w x (nI i) = f_X8_often_l1 fu V a w x (nI i) := by
  intro w
  induction w with
  | zero => intro i x hi h; omega
  | succ w ih =>
    intro i x hi h
    have hP6 := cpl6 hB hP
    rcases Nat.lt_or_ge i P with hlt | hge
    · have hc : ¬ nI P ≤ nI i := nI_ge hlt (by omega)
      obtain ⟨l7, l8⟩ := ltA hB hP8 hP hlt
      have x33 : ((33 : Int32) + nI i).toNatClampNeg = 33 + i := by rw [show (33 : Int32) = nI 33 from rfl, nI_add, nI_clamp (by omega)]
      have x41 : ((41 : Int32) + nI i).toNatClampNeg = 41 + i := by rw [show (41 : Int32) = nI 41 from rfl, nI_add, nI_clamp (by omega)]
      have v33 : vp_in ((33 : Int32) + nI i) 49 := by rw [show (33 : Int32) = nI 33 from rfl, nI_add]; exact vp_in_nI (by omega) (by decide)
      have v41 : vp_in ((41 : Int32) + nI i) 49 := by rw [show (41 : Int32) = nI 41 from rfl, nI_add]; exact vp_in_nI (by omega) (by decide)
      have hn := fun x => ih (i + 1) x (by omega) (by omega)
      rw [f_X0_timesWanted_l1, p_X0_timesWanted_l1, f_X8_often_l1, p_X8_often_l1, hP6, z0, hP, l7, l8, x33, x41, nI_1]
      by_cases q1 : V 49 (33 + i) = a
      · by_cases q2 : V 49 (41 + i) = a
        · have n := hn (x + 1 + 1)
          rw [if_neg hc, if_neg hc, if_pos q1, if_pos q1, if_pos q2, if_pos q2]
          exact ⟨⟨fun z => absurd z hc, fun _ => ⟨fun _ => ⟨fun _ => n.1, fun z => absurd q2 z⟩, fun z => absurd q1 z⟩⟩, ⟨fun z => absurd z hc, fun _ => ⟨v33, fun _ => ⟨v41, fun _ => n.2.1, fun z => absurd q2 z⟩, fun z => absurd q1 z⟩⟩, n.2.2⟩
        · have n := hn (x + 1 + 0)
          rw [if_neg hc, if_neg hc, if_pos q1, if_pos q1, if_neg q2, if_neg q2]
          exact ⟨⟨fun z => absurd z hc, fun _ => ⟨fun _ => ⟨fun z => absurd z q2, fun _ => n.1⟩, fun z => absurd q1 z⟩⟩, ⟨fun z => absurd z hc, fun _ => ⟨v33, fun _ => ⟨v41, fun z => absurd z q2, fun _ => n.2.1⟩, fun z => absurd q1 z⟩⟩, n.2.2⟩
      · by_cases q2 : V 49 (41 + i) = a
        · have n := hn (x + 0 + 1)
          rw [if_neg hc, if_neg hc, if_neg q1, if_neg q1, if_pos q2, if_pos q2]
          exact ⟨⟨fun z => absurd z hc, fun _ => ⟨fun z => absurd z q1, fun _ => ⟨fun _ => n.1, fun z => absurd q2 z⟩⟩⟩, ⟨fun z => absurd z hc, fun _ => ⟨v33, fun z => absurd z q1, fun _ => ⟨v41, fun _ => n.2.1, fun z => absurd q2 z⟩⟩⟩, n.2.2⟩
        · have n := hn (x + 0 + 0)
          rw [if_neg hc, if_neg hc, if_neg q1, if_neg q1, if_neg q2, if_neg q2]
          exact ⟨⟨fun z => absurd z hc, fun _ => ⟨fun z => absurd z q1, fun _ => ⟨fun z => absurd z q2, fun _ => n.1⟩⟩⟩, ⟨fun z => absurd z hc, fun _ => ⟨v33, fun z => absurd z q1, fun _ => ⟨v41, fun z => absurd z q2, fun _ => n.2.1⟩⟩⟩, n.2.2⟩
    · have he : i = P := by omega
      subst he
      have hc : nI i ≤ nI i := nI_le (Nat.le_refl _) (by omega)
      rw [f_X0_timesWanted_l1, p_X0_timesWanted_l1, f_X8_often_l1, p_X8_often_l1, hP6, z0, hP, if_pos hc, if_pos hc]
      exact ⟨⟨fun _ => trivial, fun z => absurd hc z⟩, ⟨fun _ => trivial, fun z => absurd hc z⟩, rfl⟩
theorem c6hi {c : Int32} (h : nI 6 ≤ c) : ¬ c < 0 ∧ ¬ c ≤ 5 := by
  rw [Int32.le_iff_toInt_le, nI_toInt (by decide)] at h
  rw [Int32.lt_iff_toInt_lt, Int32.le_iff_toInt_le]
  have h0 : (0 : Int32).toInt = 0 := rfl
  have h2 : (5 : Int32).toInt = 5 := rfl
  rw [h0, h2]
  omega
theorem nr_own {s : Nat → Int32} (hO : SOk s) {x y : Nat} (hx : x < 32768) (hy : y < 10) (hd : s (7 + y) ≠ -1) : ∃ k, k < 10 ∧ (nrS s x 10 10).1 = nI k := by
  rcases nrS_ok s x 10 10 (Nat.le_refl _) with ⟨-, -, e3⟩ | ⟨k, a1, -, -, a4, -⟩
  · have h1 := e3 y hy (by omega) hd
    have h2 := pcN_le (xor_lt hx (hO.dr hy hd).2)
    omega
  · exact ⟨k, a1, a4⟩
theorem nr_one (s : Nat → Int32) (x e : Nat) : (nrS s x e 10).1 = -1 ∨ ∃ k, k < 10 ∧ (nrS s x e 10).1 = nI k := by
  rcases nrS_ok s x e 10 (Nat.le_refl _) with ⟨e1, -, -⟩ | ⟨k, a1, -, -, a4, -⟩
  · exact Or.inl e1
  · exact Or.inr ⟨k, a1, a4⟩
theorem simG_letterOf (fu : Nat) (hf : 200 ≤ fu) (V : VT) (a b : Int32) (hR : RelV V) : (p_X7_letterOf fu V a b) ∧ (p_X8_letterOf fu V a b) ∧ (f_X7_letterOf fu V a b) = (f_X8_letterOf fu V a b) ∧ RelV V := by
  obtain ⟨⟨hB, hO⟩, -⟩ := id hR
  obtain ⟨P, hP8, hP⟩ := hO.1
  rcases lt2 a with ha | ⟨x, hx, rfl, ha⟩
  · exact ⟨by simp [p_X7_letterOf, ha], by simp [p_X8_letterOf, ha], by simp [f_X7_letterOf, f_X8_letterOf, ha], hR⟩
  obtain ⟨d1, d2⟩ := drawn_n V hx
  have h7 := has_n V hB hx
  rcases c6 b with h | h | h
  · have i8 : f_X8_in V b 0 5 = 0 := in_lo V h
    exact ⟨by simp [p_X7_letterOf, ha, h], by simp [p_X8_letterOf, ha, i8], by simp [f_X7_letterOf, f_X8_letterOf, ha, h, i8], hR⟩
  · have i8 : f_X8_in V b 0 5 = 0 := in_hi V (lt_le (n := 5) (by decide) h)
    obtain ⟨k1, k2⟩ := c6hi h
    exact ⟨by simp [p_X7_letterOf, ha, k1, k2], by simp [p_X8_letterOf, ha, i8], by simp [f_X7_letterOf, f_X8_letterOf, ha, k1, k2, i8], hR⟩
  have i8 : f_X8_in V b 0 5 = 1 := by
    rcases h with rfl | rfl | rfl | rfl | rfl | rfl <;> exact in_ok V (by decide) (by decide)
  have k1 : ¬ b < 0 := by
    rcases h with rfl | rfl | rfl | rfl | rfl | rfl <;> decide
  have k2 : b ≤ 5 := by
    rcases h with rfl | rfl | rfl | rfl | rfl | rfl <;> decide
  by_cases b5 : b = 5
  · obtain ⟨o1, o2, o3⟩ := oft_l fu hB hP8 hP (nI x) fu 0 0 (by omega) (by omega)
    have zz : nI 0 = (0 : Int32) := rfl
    rw [zz] at o1 o2 o3
    subst b5
    exact ⟨by simp [p_X7_letterOf, p_X0_timesWanted, ha, o1], by simp [p_X8_letterOf, p_X8_often, ha, i8, o2], by simp [f_X7_letterOf, f_X8_letterOf, f_X0_timesWanted, f_X8_often, ha, i8, o3], hR⟩
  by_cases da : V 49 (7 + x) = -1
  · rw [if_pos da] at h7
    rw [da] at d2
    have dn0 : ¬ (0 : Int32) ≤ -1 := by decide
    exact ⟨by simp [p_X7_letterOf, ha, k1, k2, b5, h7], by simp [p_X8_letterOf, ha, i8, b5, d1, d2, dn0], by simp [f_X7_letterOf, f_X8_letterOf, ha, k1, k2, i8, b5, h7, d2, dn0], hR⟩
  rw [if_neg da] at h7
  have s7 := sfor_n V hB hx
  obtain ⟨gx, gx2⟩ := hO.dr hx da
  obtain ⟨t1, t2⟩ := turned_n fu (by omega) V gx2
  have t7 := turn_n V gx2
  have tl := tnN_lt gx2
  obtain ⟨w1, w2⟩ := dark_n fu (by omega) V gx2
  have w7 := bc_n V gx2
  obtain ⟨n1, n2⟩ := near_n fu (by omega) V hB hO tl
  obtain ⟨r1, r2⟩ := read_n fu (by omega) V hO tl
  obtain ⟨e1, e2⟩ := near_e fu (by omega) V hB hO gx2 hx
  obtain ⟨o1, o2⟩ := other_m fu (by omega) V hO hx da
  obtain ⟨k, kk1, kk2⟩ := nr_own hO tl hx da
  have fo : f_X7_foundOrNot V (nI k) = nI k := by unfold f_X7_foundOrNot; rw [if_neg (nI_neg1 (by omega))]
  have fo2 := found_or V (nr_one (V 49) (dn (V 49) x) x)
  rw [gx] at d2 s7
  rw [kk2] at n2 r2
  have dp : (0 : Int32) ≤ nI (dn (V 49) x) := nI_nn (by omega)
  rcases h with rfl | rfl | rfl | rfl | rfl | rfl
  · exact ⟨by simp [p_X7_letterOf, ha, h7], by simp [p_X8_letterOf, ha, i8, d1, d2, dp], by simp [f_X7_letterOf, f_X8_letterOf, ha, i8, h7, s7, d2, dp], hR⟩
  · exact ⟨by simp [p_X7_letterOf, ha, h7], by simp [p_X8_letterOf, ha, i8, d1, d2, dp, t1], by simp [f_X7_letterOf, f_X8_letterOf, ha, i8, h7, s7, d2, dp, t2, t7], hR⟩
  · exact ⟨by simp [p_X7_letterOf, ha, h7], by simp [p_X8_letterOf, ha, i8, d1, d2, dp, w1], by simp [f_X7_letterOf, f_X8_letterOf, ha, i8, h7, s7, d2, dp, w2, w7], hR⟩
  · exact ⟨by simp [p_X7_letterOf, ha, h7, s7, t7, n1], by simp [p_X8_letterOf, ha, i8, d1, d2, dp, t1, t2, r1], by simp [f_X7_letterOf, f_X8_letterOf, ha, i8, h7, s7, d2, dp, t2, t7, n2, r2, fo], hR⟩
  · exact ⟨by simp [p_X7_letterOf, ha, h7, s7, e1], by simp [p_X8_letterOf, ha, i8, d1, d2, dp, o1], by simp [f_X7_letterOf, f_X8_letterOf, ha, i8, h7, s7, d2, dp, e2, o2, fo2], hR⟩
  · exact absurd rfl b5
