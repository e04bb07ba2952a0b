/-! reads, words, counts, fading -/
theorem pl6 {V : VT} {P : Nat} (hB : BRel V 6 (V 49)) (hP : V 49 0 = nI P) : V (6 + 7 * 0) 0 = nI P := cpl hB hP
theorem oot_lo (V : VT) {a : Int32} (h : a < 0) : f_X7_isOneOfTwo V a = 0 := by
  unfold f_X7_isOneOfTwo
  rw [if_neg (ne_lo h _ (by decide)), if_neg (ne_lo h _ (by decide))]
theorem oot_hi (V : VT) {a : Int32} (h : nI 2 ≤ a) : f_X7_isOneOfTwo V a = 0 := by
  unfold f_X7_isOneOfTwo
  rw [if_neg (ne_hi h _ (by decide)), if_neg (ne_hi h _ (by decide))]
theorem i01_lo (V : VT) {a : Int32} (h : a < 0) : f_X8_in V a 0 1 = 0 := in_lo V h
theorem i01_hi (V : VT) {a : Int32} (h : nI 2 ≤ a) : f_X8_in V a 0 1 = 0 := in_hi V (lt_le (n := 1) (by decide) h)
theorem sim_reads (V : VT) (a : Int32) (b : Int32) (hR : RelV V) : (p_X7_reads FU V a b) ∧ (p_X8_reads FU V a b) ∧ (f_X7_reads FU V a b) = (f_X8_reads FU V a b) ∧ RelV V := by
  obtain ⟨⟨hB, hO⟩, -⟩ := id hR
  obtain ⟨P, hP8, hP⟩ := hO.1
  revert hR
  generalize hfu : FU = fu
  have hf : 20 ≤ fu := hfu ▸ hfFU
  intro hR
  have w0 : Way 0 0 := Or.inl ⟨rfl, rfl⟩
  have w1 : Way 1 1 := Or.inr ⟨rfl, rfl⟩
  have hP6 := cpl6 hB hP
  have hT := hB.2.1.symm
  rcases c2 a with h | h | ha | ha
  · simp [p_X7_reads, p_X8_reads, f_X7_reads, f_X8_reads, oot_lo V h, i01_lo V h, hR]
  · simp [p_X7_reads, p_X8_reads, f_X7_reads, f_X8_reads, oot_hi V h, i01_hi V h, hR]
  all_goals
    rcases pk_ix b (n := P) (by omega) with g | g | ⟨i, hi, rfl⟩
    · simp [p_X7_reads, p_X8_reads, f_X7_reads, f_X8_reads, f_X7_isOneOfTwo, f_X8_in, ha, i32_nle g, hR]
    · have g2 : ¬ b < nI P := i32_nl g
      simp [p_X7_reads, p_X8_reads, f_X7_reads, f_X8_reads, f_X7_isOneOfTwo, f_X8_in, ha, hP6, hP, g2, hR]
    · have g1 : (0 : Int32) ≤ nI i := nI_nn (by omega)
      have g2 : nI i < nI P := nI_lt hi (by omega)
      have a0 := raA fu hf hB hO (i := i) (by omega) w0
      have m0 := raM fu hf hO (i := i) (by omega) w0
      have a1 := raA fu hf hB hO (i := P - 1 - i) (by omega) w1
      have m1 := raM fu hf hO (i := P - 1 - i) (by omega) w1
      have r0 := (found_or V (raS_ok (V 49) i 0))
      have r1 := (found_or V (raS_ok (V 49) (P - 1 - i) 1))
      have rv := rev_n hP8 hi
      rcases hO.2.1 with t | t
      · rw [t] at hT
        simp [p_X7_reads, p_X8_reads, f_X7_reads, f_X8_reads, f_X7_isOneOfTwo, f_X7_otherWay, f_X8_in, f_X0_way, f_X0_fromLeft, ha, hP6, hP, hT, t, g1, g2, a0, a1, m0, m1, r0, r1, rv, hR]
      · rw [t] at hT
        simp [p_X7_reads, p_X8_reads, f_X7_reads, f_X8_reads, f_X7_isOneOfTwo, f_X7_otherWay, f_X8_in, f_X0_way, f_X0_fromLeft, ha, hP6, hP, hT, t, g1, g2, a0, a1, m0, m1, r0, r1, rv, hR]
theorem mis_l (fu : Nat) (hf : 20 ≤ fu) {V : VT} {P : Nat} (hB : BRel V 6 (V 49)) (hO : SOk (V 49)) (hP8 : P ≤ 8) (hP : V 49 0 = nI P) {wI : Int32} {wN : Nat} (hw : Way wI wN) : ∀ (w i : Nat) (x : Int32), i ≤ P → P - i < w → p_X0_misread_l1 fu V 0 wI w x (nI i) ∧ p_X8_wrong_l1 fu V wI w x (nI i) ∧ f_X0_misread_l1 fu V 0 wI w x (nI i) = f_X8_wrong_l1 fu V wI w x (nI i) := by
  intro w
  induction w with
  | zero => intro i x hi h; omega
  | succ w ih =>
    intro i x hi h
    have hP6 := cpl6 hB hP
    rcases Nat.lt_or_ge i P with hlt | hge
    · have hc : ¬ nI P ≤ nI i := nI_ge hlt (by omega)
      have r7 := raA fu hf hB hO (i := i) (by omega) hw
      have r8 := raM fu hf hO (i := i) (by omega) hw
      have l7 := wnA hB hP8 hP hlt hw
      have l8 := wnM hP8 hP hlt hw
      by_cases q : raS (V 49) i wN = V 49 (wix P i wN)
      · have hn := ih (i + 1) x (by omega) (by omega)
        simp [f_X0_misread_l1, p_X0_misread_l1, f_X8_wrong_l1, p_X8_wrong_l1, hP6, hP, hc, r7, r8, l7, l8, q, nI_1, hn]
      · have hn := ih (i + 1) (x + 1) (by omega) (by omega)
        simp [f_X0_misread_l1, p_X0_misread_l1, f_X8_wrong_l1, p_X8_wrong_l1, hP6, hP, hc, r7, r8, l7, l8, q, nI_1, hn]
    · have he : i = P := by omega
      subst he
      have hc : nI i ≤ nI i := nI_le (Nat.le_refl _) (by omega)
      simp [f_X0_misread_l1, p_X0_misread_l1, f_X8_wrong_l1, p_X8_wrong_l1, hP6, hP, hc]
theorem sim_word (V : VT) (a : Int32) (b : Int32) (hR : RelV V) : (p_X7_word FU V a b) ∧ (p_X8_word FU V a b) ∧ (f_X7_word FU V a b) = (f_X8_word FU V a b) ∧ RelV V := by
  obtain ⟨⟨hB, hO⟩, -⟩ := id hR
  obtain ⟨P, hP8, hP⟩ := hO.1
  revert hR
  generalize hfu : FU = fu
  have hf : 20 ≤ fu := hfu ▸ hfFU
  intro hR
  have w0 : Way 0 0 := Or.inl ⟨rfl, rfl⟩
  have w1 : Way 1 1 := Or.inr ⟨rfl, rfl⟩
  have hP6 := cpl6 hB hP
  have hT := hB.2.1.symm
  have h9 : (9 : Int32) + nI P = nI (9 + P) := by rw [show (9 : Int32) = nI 9 from rfl, nI_add]
  have hwy : f_X0_way V 0 = V 49 1 := by
    unfold f_X0_way
    rw [show V (6 + 7 * 0) 1 = V 49 1 from hT]
    rcases hO.2.1 with t | t <;> rw [t] <;> rfl
  have e0 := mis_l fu hf hB hO hP8 hP w0 fu 0 0 (by omega) (by omega)
  have e1 := mis_l fu hf hB hO hP8 hP w1 fu 0 0 (by omega) (by omega)
  have n0 : nI 0 = (0 : Int32) := rfl
  rw [n0] at e0 e1
  rcases c2 a with h | h | ha | ha
  · simp [p_X7_word, p_X8_word, f_X7_word, f_X8_word, oot_lo V h, i01_lo V h, hR]
  · simp [p_X7_word, p_X8_word, f_X7_word, f_X8_word, oot_hi V h, i01_hi V h, hR]
  all_goals
    subst ha
    rcases c3 b with g | g | rfl | rfl | rfl
    · have n1 := ne_lo g 0 (by decide)
      have n2 := ne_lo g 1 (by decide)
      have n3 := ne_lo g 2 (by decide)
      have n4 : b < 10 := Int32.lt_trans g (by decide)
      have i1 : f_X8_in V b 0 2 = 0 := in_lo V g
      have i2 : f_X8_in V b 10 (9 + nI P) = 0 := in_lo V n4
      simp [p_X7_word, p_X8_word, f_X7_word, f_X8_word, f_X7_isOneOfTwo, show f_X8_in V 0 0 1 = 1 from rfl, show f_X8_in V 1 0 1 = 1 from rfl, n1, n2, n3, n4, i1, i2, hP, hR]
    · have n1 := ne_hi g 0 (by decide)
      have n2 := ne_hi g 1 (by decide)
      have n3 := ne_hi g 2 (by decide)
      have i1 : f_X8_in V b 0 2 = 0 := in_hi V (lt_le (n := 2) (by decide) g)
      rcases pk_ix b (n := 10 + P) (by omega) with k | k | ⟨j, hj, rfl⟩
      · exact absurd (Int32.lt_of_lt_of_le k (by decide : (0 : Int32) ≤ nI 3)) (i32_nl g)
      · have n4 : ¬ b < 10 := i32_nl (Int32.le_trans (nI_le (a := 10) (b := 10 + P) (by omega) (by omega)) k)
        have n5 : ¬ b - 10 < nI P := by
          have k1 := Int32.le_iff_toInt_le.mp k
          rw [nI_toInt (by omega)] at k1
          intro z
          rw [Int32.lt_iff_toInt_lt, nI_toInt (by omega), Int32.toInt_sub] at z
          have hb := Int32.toInt_lt b
          have : (10 : Int32).toInt = 10 := rfl
          rw [Int.bmod_eq_of_le (by omega) (by omega)] at z
          omega
        have i2 : f_X8_in V b 10 (9 + nI P) = 0 := by rw [h9]; exact in_hi V (lt_le (n := 9 + P) (by omega) (by rw [show 9 + P + 1 = 10 + P by omega]; exact k))
        simp [p_X7_word, p_X8_word, f_X7_word, f_X8_word, f_X7_isOneOfTwo, show f_X8_in V 0 0 1 = 1 from rfl, show f_X8_in V 1 0 1 = 1 from rfl, n1, n2, n3, n4, n5, i1, i2, hP, hP6, hR]
      · rcases Nat.lt_or_ge j 10 with q | q
        · have n4 : nI j < (10 : Int32) := nI_lt (b := 10) q (by decide)
          have i2 : f_X8_in V (nI j) 10 (9 + nI P) = 0 := in_lo V n4
          simp [p_X7_word, p_X8_word, f_X7_word, f_X8_word, f_X7_isOneOfTwo, show f_X8_in V 0 0 1 = 1 from rfl, show f_X8_in V 1 0 1 = 1 from rfl, n1, n2, n3, n4, i1, i2, hP, hR]
        · have n4 : ¬ nI j < (10 : Int32) := nI_nlt (b := 10) q (by omega)
          have s1 : nI j - 10 = nI (j - 10) := pk_sub (b := 10) q
          have n5 : nI (j - 10) < nI P := nI_lt (by omega) (by omega)
          have i2 : f_X8_in V (nI j) 10 (9 + nI P) = 1 := by rw [h9]; exact in_n V (lo := 10) q (by omega) (by omega)
          have lt := ltA hB hP8 hP (i := j - 10) (by omega)
          have x0 : (33 : Int32) + nI j - 10 = nI (33 + (j - 10)) := by rw [show (33 : Int32) = nI 33 from rfl, show (10 : Int32) = nI 10 from rfl, nI_add, pk_sub (by omega), show 33 + j - 10 = 33 + (j - 10) by omega]
          have x1 : (41 : Int32) + nI j - 10 = nI (41 + (j - 10)) := by rw [show (41 : Int32) = nI 41 from rfl, show (10 : Int32) = nI 10 from rfl, nI_add, pk_sub (by omega), show 41 + j - 10 = 41 + (j - 10) by omega]
          have v0 : vp_in (nI (33 + (j - 10))) 49 := vp_in_nI (by omega) (by decide)
          have v1 : vp_in (nI (41 + (j - 10))) 49 := vp_in_nI (by omega) (by decide)
          have k0 : (nI (33 + (j - 10))).toNatClampNeg = 33 + (j - 10) := nI_clamp (by omega)
          have k1 : (nI (41 + (j - 10))).toNatClampNeg = 41 + (j - 10) := nI_clamp (by omega)
          simp [p_X7_word, p_X8_word, f_X7_word, f_X8_word, f_X7_isOneOfTwo, show f_X8_in V 0 0 1 = 1 from rfl, show f_X8_in V 1 0 1 = 1 from rfl, n1, n2, n3, n4, s1, n5, i1, i2, hP, hP6, lt, x0, x1, v0, v1, k0, k1, hR]
    all_goals
      simp [p_X7_word, p_X8_word, f_X7_word, f_X8_word, f_X7_isOneOfTwo, f_X7_asNumber, show f_X8_in V 0 0 1 = 1 from rfl, show f_X8_in V 1 0 1 = 1 from rfl, show f_X8_in V 0 0 2 = 1 from rfl, show f_X8_in V 1 0 2 = 1 from rfl, show f_X8_in V 2 0 2 = 1 from rfl, p_X0_misread, f_X0_misread, p_X8_wrong, f_X8_wrong, e0, e1, hwy, hR]
      try congr
