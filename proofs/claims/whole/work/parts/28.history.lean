/-! boards copied; the history of both sides -/
theorem cpn (fu : Nat) (hf : 20 ≤ fu) (V : VT) (q1 q2 n : Nat) (hq : q1 ≠ q2) (hn : n ≤ 10) : p_X4_copy fu V q1 n q2 n ∧ (∀ a, a ≠ q2 → f_X4_copy fu V q1 n q2 n a = V a) ∧ ∀ i, i < n → f_X4_copy fu V q1 n q2 n q2 i = V q1 i := by
  refine ⟨pf_copy_p fu V q1 q2 n hq (by omega) (by omega), fun a ha => ?_, fun i hi => ?_⟩
  · rw [pf_copy fu V q1 q2 n hq (by omega) (by omega), stR_ne _ _ ha]
  · rw [pf_copy fu V q1 q2 n hq (by omega) (by omega), stR_at, if_pos hi]
theorem cf_1 (fu : Nat) (hf : 20 ≤ fu) (V : VT) (j j2 : Nat) (h : j ≠ j2) : p_X3_copyFrom fu V j j2 ∧ p_X4_copy fu (f_X3_copyFrom fu V j j2) (6 + 7 * j2 + 3) 8 (6 + 7 * j + 3) 8 ∧ p_X4_copy fu (f_X4_copy fu (f_X3_copyFrom fu V j j2) (6 + 7 * j2 + 3) 8 (6 + 7 * j + 3) 8) (6 + 7 * j2 + 4) 8 (6 + 7 * j + 4) 8 ∧ (∀ a, ¬ (6 + 7 * j + 2 ≤ a ∧ a < 6 + 7 * j + 5) → v_X0_copyFrom_1 fu V j j2 a = V a) ∧ (∀ i, i < 10 → v_X0_copyFrom_1 fu V j j2 (6 + 7 * j + 2) i = V (6 + 7 * j2 + 2) i) ∧ (∀ i, i < 8 → v_X0_copyFrom_1 fu V j j2 (6 + 7 * j + 3) i = V (6 + 7 * j2 + 3) i) ∧ (∀ i, i < 8 → v_X0_copyFrom_1 fu V j j2 (6 + 7 * j + 4) i = V (6 + 7 * j2 + 4) i) := by
  unfold p_X3_copyFrom v_X0_copyFrom_1 f_X3_copyFrom
  obtain ⟨pA, nA, iA⟩ := cpn fu hf V (6 + 7 * j2 + 2) (6 + 7 * j + 2) 10 (by omega) (by omega)
  generalize f_X4_copy fu V (6 + 7 * j2 + 2) 10 (6 + 7 * j + 2) 10 = A at *
  obtain ⟨pB, nB, iB⟩ := cpn fu hf A (6 + 7 * j2 + 3) (6 + 7 * j + 3) 8 (by omega) (by omega)
  generalize f_X4_copy fu A (6 + 7 * j2 + 3) 8 (6 + 7 * j + 3) 8 = B at *
  obtain ⟨pC, nC, iC⟩ := cpn fu hf B (6 + 7 * j2 + 4) (6 + 7 * j + 4) 8 (by omega) (by omega)
  generalize f_X4_copy fu B (6 + 7 * j2 + 4) 8 (6 + 7 * j + 4) 8 = C at *
  refine ⟨pA, pB, pC, fun a ha => ?_, fun i hi => ?_, fun i hi => ?_, fun i hi => ?_⟩
  · rw [nC _ (by omega), nB _ (by omega), nA _ (by omega)]
  · rw [nC _ (by omega), nB _ (by omega), iA _ hi]
  · rw [nC _ (by omega), iB _ hi, nA _ (by omega)]
  · rw [iC _ hi, nB _ (by omega), nA _ (by omega)]
theorem cf_2 (fu : Nat) (hf : 20 ≤ fu) (V : VT) (j j2 : Nat) (h : j ≠ j2) : p_X4_copy fu (v_X0_copyFrom_1 fu V j j2) (6 + 7 * j2 + 5) 8 (6 + 7 * j + 5) 8 ∧ p_X4_copy fu (f_X4_copy fu (v_X0_copyFrom_1 fu V j j2) (6 + 7 * j2 + 5) 8 (6 + 7 * j + 5) 8) (6 + 7 * j2 + 6) 8 (6 + 7 * j + 6) 8 ∧ (∀ a, ¬ (6 + 7 * j + 5 ≤ a ∧ a < 6 + 7 * j + 7) → v_X0_copyFrom_2 fu V j j2 a = v_X0_copyFrom_1 fu V j j2 a) ∧ (∀ i, i < 8 → v_X0_copyFrom_2 fu V j j2 (6 + 7 * j + 5) i = v_X0_copyFrom_1 fu V j j2 (6 + 7 * j2 + 5) i) ∧ (∀ i, i < 8 → v_X0_copyFrom_2 fu V j j2 (6 + 7 * j + 6) i = v_X0_copyFrom_1 fu V j j2 (6 + 7 * j2 + 6) i) := by
  unfold v_X0_copyFrom_2
  generalize v_X0_copyFrom_1 fu V j j2 = X
  obtain ⟨pA, nA, iA⟩ := cpn fu hf X (6 + 7 * j2 + 5) (6 + 7 * j + 5) 8 (by omega) (by omega)
  generalize f_X4_copy fu X (6 + 7 * j2 + 5) 8 (6 + 7 * j + 5) 8 = A at *
  obtain ⟨pB, nB, iB⟩ := cpn fu hf A (6 + 7 * j2 + 6) (6 + 7 * j + 6) 8 (by omega) (by omega)
  generalize f_X4_copy fu A (6 + 7 * j2 + 6) 8 (6 + 7 * j + 6) 8 = B at *
  refine ⟨pA, pB, fun a ha => ?_, fun i hi => ?_, fun i hi => ?_⟩
  · rw [nB _ (by omega), nA _ (by omega)]
  · rw [nB _ (by omega), iA _ hi]
  · rw [iB _ hi, nA _ (by omega)]
theorem cf_3 (fu : Nat) (V : VT) (j j2 : Nat) (h : j ≠ j2) : (∀ a, a ≠ 6 + 7 * j → v_X0_copyFrom_3 fu V j j2 a = v_X0_copyFrom_2 fu V j j2 a) ∧ v_X0_copyFrom_3 fu V j j2 (6 + 7 * j) = upd (upd (v_X0_copyFrom_2 fu V j j2 (6 + 7 * j)) 5 (v_X0_copyFrom_2 fu V j j2 (6 + 7 * j2) 5)) 6 (v_X0_copyFrom_2 fu V j j2 (6 + 7 * j2) 6) := by
  unfold v_X0_copyFrom_3
  generalize v_X0_copyFrom_2 fu V j j2 = X
  have hq : 6 + 7 * j2 ≠ 6 + 7 * j := by omega
  refine ⟨fun a ha => ?_, ?_⟩
  · simp only [upV_ne _ _ _ ha]
  · simp only [upV_at, upV_ne _ _ _ hq]
theorem cf_5 (fu : Nat) (V : VT) (j j2 : Nat) (h : j ≠ j2) : (∀ a, a ≠ 6 + 7 * j → v_X0_copyFrom_5 fu V j j2 a = v_X0_copyFrom_3 fu V j j2 a) ∧ v_X0_copyFrom_5 fu V j j2 (6 + 7 * j) = upd (upd (upd (upd (v_X0_copyFrom_3 fu V j j2 (6 + 7 * j)) 0 (v_X0_copyFrom_3 fu V j j2 (6 + 7 * j2) 0)) 1 (v_X0_copyFrom_3 fu V j j2 (6 + 7 * j2) 1)) 2 (v_X0_copyFrom_3 fu V j j2 (6 + 7 * j2) 2)) 3 (v_X0_copyFrom_3 fu V j j2 (6 + 7 * j2) 3) := by
  unfold v_X0_copyFrom_5 v_X0_copyFrom_4
  generalize v_X0_copyFrom_3 fu V j j2 = X
  have hq : 6 + 7 * j2 ≠ 6 + 7 * j := by omega
  refine ⟨fun a ha => ?_, ?_⟩
  · simp only [upV_ne _ _ _ ha]
  · simp only [upV_at, upV_ne _ _ _ hq]
theorem copy_B (fu : Nat) (hf : 20 ≤ fu) (V : VT) (j j2 : Nat) (h : j ≠ j2) {s : Nat → Int32} (hB : BRel V (6 + 7 * j2) s) (hs : isB (s 1)) : p_X0_copyFrom fu V j j2 ∧ BRel (f_X0_copyFrom fu V j j2) (6 + 7 * j) s ∧ ∀ a, ¬ (6 + 7 * j ≤ a ∧ a < 6 + 7 * j + 7) → f_X0_copyFrom fu V j j2 a = V a := by
  obtain ⟨a1, a2, a3, a4, a5, a6, a7⟩ := cf_1 fu hf V j j2 h
  obtain ⟨b1, b2, b3, b4, b5⟩ := cf_2 fu hf V j j2 h
  obtain ⟨d1, d2⟩ := cf_3 fu V j j2 h
  obtain ⟨c1, c2⟩ := cf_5 fu V j j2 h
  have hq : 6 + 7 * j2 ≠ 6 + 7 * j := by omega
  have s2 : v_X0_copyFrom_2 fu V j j2 (6 + 7 * j2) = V (6 + 7 * j2) := by rw [b3 _ (by omega), a4 _ (by omega)]
  have s3 : v_X0_copyFrom_3 fu V j j2 (6 + 7 * j2) = V (6 + 7 * j2) := by rw [d1 _ hq, s2]
  have s5 : v_X0_copyFrom_5 fu V j j2 (6 + 7 * j2) = V (6 + 7 * j2) := by rw [c1 _ hq, s3]
  rw [s2] at d2
  rw [s3, d2] at c2
  have e : ∀ a, a ≠ 6 + 7 * j → f_X0_copyFrom fu V j j2 a = v_X0_copyFrom_2 fu V j j2 a := fun a ha => by unfold f_X0_copyFrom; rw [upV_ne _ _ _ ha, c1 _ ha, d1 _ ha]
  have e0 := upV_at (v_X0_copyFrom_5 fu V j j2) (6 + 7 * j) 4 (v_X0_copyFrom_5 fu V j j2 (6 + 7 * j2) 4)
  rw [c2, s5] at e0
  have e0 : f_X0_copyFrom fu V j j2 (6 + 7 * j) = _ := (show f_X0_copyFrom fu V j j2 (6 + 7 * j) = upV (v_X0_copyFrom_5 fu V j j2) (6 + 7 * j) 4 (V (6 + 7 * j2) 4) (6 + 7 * j) by unfold f_X0_copyFrom; rw [s5]).trans e0
  obtain ⟨h0, h1, h2, h3, h4, h5, h6, h7, h8, h9, h10⟩ := hB
  refine ⟨?_, ⟨?_, ?_, ?_, ?_, ?_, ?_, ?_, fun i hi => ?_, fun i hi => ?_, fun i hi => ?_, fun i hi hp => ?_⟩, fun a ha => ?_⟩
  · unfold p_X0_copyFrom
    exact ⟨a1, a2, a3, b1, b2, by rw [upV_ne _ _ _ hq, s3, ← h1]; exact hs⟩
  · rw [e0, h0]; simp [upd]
  · rw [e0, h1]; simp [upd]
  · rw [e0, h2]; simp [upd]
  · rw [e0, h3]; simp [upd]
  · rw [e0, h4]; simp [upd]
  · rw [e0, h5]; simp [upd]
  · rw [e0, h6]; simp [upd]
  · rw [e _ (by omega), b3 _ (by omega), a5 _ hi]; exact h7 i hi
  · rw [e _ (by omega), b3 _ (by omega), a6 _ hi]; exact h8 i hi
  · rw [e _ (by omega), b3 _ (by omega), a7 _ hi]; exact h9 i hi
  · rw [e _ (by omega), e _ (by omega), b4 _ hi, b5 _ hi, a4 _ (by omega), a4 _ (by omega)]; exact h10 i hi hp
  · rw [e _ (by omega), b3 _ (by omega), a4 _ (by omega)]
def pushN (h : Nat) : Nat := if h < 4 then h + 1 else 4
def pushS (h : Nat) (hst : Nat → Nat → Int32) (s : Nat → Int32) : Nat → Nat → Int32 := if h < 4 then (fun k => if k = h then s else hst k) else (fun k => if k = 3 then s else hst (k + 1))
theorem pushN_le (h : Nat) : pushN h ≤ 4 := by unfold pushN; split <;> omega
theorem pushS_ok {h : Nat} {hst : Nat → Nat → Int32} {s : Nat → Int32} (hh : h ≤ 4) (hs : SOk s) (hk : ∀ k, k < h → SOk (hst k)) : ∀ k, k < pushN h → SOk (pushS h hst s k) := by
  intro k hk2
  unfold pushN at hk2
  unfold pushS
  by_cases q : h < 4
  · rw [if_pos q] at hk2 ⊢
    by_cases r : k = h
    · simp only [r, if_true]; exact hs
    · simp only [r, if_false]; exact hk k (by omega)
  · rw [if_neg q] at hk2 ⊢
    by_cases r : k = 3
    · simp only [r, if_true]; exact hs
    · simp only [r, if_false]; exact hk _ (by omega)
theorem move_c (fu : Nat) (hf : 20 ≤ fu) {V : VT} (hP : HPerm V) : p_X2_moveOldestToEnd fu V ∧ (∀ a, a ≠ 5 → f_X2_moveOldestToEnd fu V a = V a) ∧ f_X2_moveOldestToEnd fu V 5 0 = V 5 1 ∧ f_X2_moveOldestToEnd fu V 5 1 = V 5 2 ∧ f_X2_moveOldestToEnd fu V 5 2 = V 5 3 ∧ f_X2_moveOldestToEnd fu V 5 3 = V 5 0 := by
  obtain ⟨w, rfl⟩ : ∃ w, fu = w + 4 := ⟨fu - 4, by omega⟩
  generalize hfu : w + 4 = fu
  obtain ⟨j0, -, h0, e0, f0, -⟩ := hP.at (k := 0) (by decide)
  obtain ⟨j1, -, h1, e1, f1, -⟩ := hP.at (k := 1) (by decide)
  obtain ⟨j2, -, h2, e2, f2, -⟩ := hP.at (k := 2) (by decide)
  obtain ⟨j3, -, h3, e3, f3, -⟩ := hP.at (k := 3) (by decide)
  have n4 : ¬ nI 4 = 0 := by decide
  have q1 : ¬ nI 4 ≤ 1 := by decide
  have q2 : ¬ nI 4 ≤ 2 := by decide
  have q3 : ¬ nI 4 ≤ 3 := by decide
  have q4 : nI 4 ≤ 4 := by decide
  have t1 : (1 : Int32) + 1 = 2 := rfl
  have t2 : (2 : Int32) + 1 = 3 := rfl
  have t3 : (3 : Int32) + 1 = 4 := rfl
  have u1 : ((1 : Int32) - 1).toNatClampNeg = 0 := rfl
  have u2 : ((2 : Int32) - 1).toNatClampNeg = 1 := rfl
  have u3 : ((3 : Int32) - 1).toNatClampNeg = 2 := rfl
  have u4 : (nI 4 - 1).toNatClampNeg = 3 := rfl
  have i0 : vp_in ((1 : Int32) - 1) 4 := vp_in_nI (n := 0) (by decide) (by decide)
  have i1 : vp_in (1 : Int32) 4 := vp_in_nI (n := 1) (by decide) (by decide)
  have i1' : vp_in ((2 : Int32) - 1) 4 := vp_in_nI (n := 1) (by decide) (by decide)
  have i2 : vp_in (2 : Int32) 4 := vp_in_nI (n := 2) (by decide) (by decide)
  have i2' : vp_in ((3 : Int32) - 1) 4 := vp_in_nI (n := 2) (by decide) (by decide)
  have i3 : vp_in (3 : Int32) 4 := vp_in_nI (n := 3) (by decide) (by decide)
  have i4 : vp_in (nI 4 - 1) 4 := vp_in_nI (n := 3) (by decide) (by decide)
  have hl : p_X2_moveOldestToEnd_l1 fu (w + 4) V j0 1 ∧ f_X2_moveOldestToEnd_l1 fu (w + 4) V j0 1 = upV (upV (upV (upV V 5 0 (nI j1)) 5 1 (nI j2)) 5 2 (nI j3)) 5 3 (nI j0) := by
    rw [f_X2_moveOldestToEnd_l1, p_X2_moveOldestToEnd_l1, if_neg q1, t1, u1, z1, f1]
    rw [f_X2_moveOldestToEnd_l1, p_X2_moveOldestToEnd_l1, if_neg q2, t2, u2, z2, show (upV V 5 0 (nI j1) 5 2).toNatClampNeg = j2 by rw [upV_eq, if_neg (by decide), f2]]
    rw [f_X2_moveOldestToEnd_l1, p_X2_moveOldestToEnd_l1, if_neg q3, t3, u3, z3, show (upV (upV V 5 0 (nI j1)) 5 1 (nI j2) 5 3).toNatClampNeg = j3 by rw [upV_eq, if_neg (by decide), upV_eq, if_neg (by decide), f3]]
    rw [f_X2_moveOldestToEnd_l1, p_X2_moveOldestToEnd_l1, if_pos q4, u4]
    exact ⟨⟨fun z => absurd z q1, fun _ => ⟨i1, h1, i0, fun z => absurd z q2, fun _ => ⟨i2, h2, i1', fun z => absurd z q3, fun _ => ⟨i3, h3, i2', fun _ => i4, fun z => absurd q4 z⟩⟩⟩⟩, rfl⟩
  unfold p_X2_moveOldestToEnd f_X2_moveOldestToEnd
  rw [z0, f0, if_neg n4]
  rw [show f_X2_moveOldestToEnd_l1 fu fu V j0 1 = f_X2_moveOldestToEnd_l1 fu (w + 4) V j0 1 by rw [hfu], hl.2]
  refine ⟨⟨fun z => absurd z n4, fun _ => ⟨h0, by have := hl.1; rw [hfu] at this; exact this⟩⟩, fun a ha => ?_, ?_, ?_, ?_, ?_⟩
  · simp only [upV_ne _ _ _ ha]
  · rw [e1]; simp [upV_eq]
  · rw [e2]; simp [upV_eq]
  · rw [e3]; simp [upV_eq]
  · rw [e0]; simp [upV_eq]
theorem push_c (fu : Nat) (hf : 20 ≤ fu) {V : VT} {s : Nat → Int32} (hB : BRel V 6 s) (hs : isB (s 1)) {h : Nat} {hst : Nat → Nat → Int32} (hh : h ≤ 4) (hC : HC V h hst) : p_X2_push fu V 0 ∧ HC (f_X2_push fu V 0) (pushN h) (pushS h hst s) ∧ ∀ a, ¬ (a = 4 ∨ a = 5 ∨ (20 ≤ a ∧ a < 48)) → f_X2_push fu V 0 a = V a := by
  have hB0 : BRel V (6 + 7 * 0) s := hB
  obtain ⟨hn, hP, hbs⟩ := hC
  rcases Nat.lt_or_ge h 4 with q | q
  · obtain ⟨j, j1, j2, j3, j4, j5⟩ := hP.at q
    have q1 : V 4 0 < nI 4 := by rw [hn]; exact nI_lt q (by decide)
    have q2 : ¬ V 4 0 < 0 := by rw [hn]; exact nI_pos (by omega)
    have t : (V 5 (V 4 0).toNatClampNeg).toNatClampNeg = j := by rw [hn, nI_clamp (by omega), j4]
    obtain ⟨c1, c2, c3⟩ := copy_B fu hf V j 0 (by omega) hB0 hs
    unfold p_X2_push f_X2_push v_X2_push_1 pushN pushS
    rw [if_pos q1, if_neg q2, t, if_pos q, if_pos q, c3 4 (by omega), hn, nI_1]
    refine ⟨⟨fun _ => ⟨fun _ => trivial, fun _ => ⟨j2, c1⟩⟩, fun z => absurd (hn ▸ q1) z⟩, ⟨?_, ?_, fun k hk => ?_⟩, fun a ha => ?_⟩
    · rw [upV_eq, if_pos ⟨rfl, rfl⟩]
    · unfold HPerm
      rw [upV_ne _ _ _ (by decide), c3 5 (by omega)]
      exact hP
    · have hk5 : hb (upV (f_X0_copyFrom fu V j 0) 4 0 (nI (h + 1))) k = hb V k := by
        unfold hb
        rw [upV_ne _ _ _ (by decide), c3 5 (by omega)]
      rw [hk5]
      obtain ⟨i, i1, i2, i3, i4, i5⟩ := hP.at (k := k) (by omega)
      by_cases r : k = h
      · subst r
        simp only [if_true]
        rw [j5]
        exact c2.cong (fun _ _ => rfl) (fun r hr => upV_ne _ _ _ (by omega))
      · simp only [r, if_false]
        have hij : i ≠ j := fun z => r (hP.2 k h (by omega) q (by rw [i3, j3, z]))
        have := hbs k (by omega)
        rw [i5] at this ⊢
        exact this.cong (fun _ _ => rfl) (fun r hr => by rw [upV_ne _ _ _ (by omega), c3 _ (by omega)])
    · rw [upV_ne _ _ _ (by omega), c3 _ (by omega)]
  · have h4 : h = 4 := by omega
    subst h4
    obtain ⟨m1, m2, m30, m31, m32, m33⟩ := move_c fu hf hP
    obtain ⟨j, j1, j2, j3, j4, j5⟩ := hP.at (k := 0) (by decide)
    have q1 : ¬ V 4 0 < nI 4 := by rw [hn]; decide
    have hX0 : ∀ a, a ≠ 4 → a ≠ 5 → upV (f_X2_moveOldestToEnd fu V) 4 0 (nI 4 - 1) a = V a := fun a g1 g2 => by rw [upV_ne _ _ _ g1, m2 _ g2]
    have hX4 : upV (f_X2_moveOldestToEnd fu V) 4 0 (nI 4 - 1) 4 0 = nI 3 := by rw [upV_eq, if_pos ⟨rfl, rfl⟩]; rfl
    have hX5 : upV (f_X2_moveOldestToEnd fu V) 4 0 (nI 4 - 1) 5 = f_X2_moveOldestToEnd fu V 5 := upV_ne _ _ _ (by decide)
    have hX53 : upV (f_X2_moveOldestToEnd fu V) 4 0 (nI 4 - 1) 5 3 = V 5 0 := by rw [hX5]; exact m33
    have hX50 : upV (f_X2_moveOldestToEnd fu V) 4 0 (nI 4 - 1) 5 0 = V 5 1 := by rw [hX5]; exact m30
    have hX51 : upV (f_X2_moveOldestToEnd fu V) 4 0 (nI 4 - 1) 5 1 = V 5 2 := by rw [hX5]; exact m31
    have hX52 : upV (f_X2_moveOldestToEnd fu V) 4 0 (nI 4 - 1) 5 2 = V 5 3 := by rw [hX5]; exact m32
    unfold p_X2_push f_X2_push v_X2_push_2 pushN pushS
    generalize upV (f_X2_moveOldestToEnd fu V) 4 0 (nI 4 - 1) = X at *
    have q2 : ¬ X 4 0 < 0 := by rw [hX4]; decide
    have q3 : ¬ nI 4 ≤ X 4 0 := by rw [hX4]; decide
    have t : (X 5 (X 4 0).toNatClampNeg).toNatClampNeg = j := by rw [hX4, nI_clamp (by decide), hX53, j4]
    have hBX : BRel X (6 + 7 * 0) s := hB0.cong (fun _ _ => rfl) (fun r hr => hX0 _ (by omega) (by omega))
    obtain ⟨c1, c2, c3⟩ := copy_B fu hf X j 0 (by omega) hBX hs
    have hsh : ∀ k, k < 3 → X 5 k = V 5 (k + 1) := fun k hk => by
      rcases (show k = 0 ∨ k = 1 ∨ k = 2 by omega) with rfl | rfl | rfl
      · exact hX50
      · exact hX51
      · exact hX52
    rw [if_neg q1, if_neg q2, if_neg q3, t, if_neg (by decide), if_neg (by decide), c3 4 (by omega), hX4, nI_1]
    refine ⟨⟨fun z => absurd z q1, fun _ => ⟨m1, fun z => absurd z (by decide), fun _ => ⟨fun z => absurd z (by decide), fun _ => ⟨j2, c1⟩⟩⟩⟩, ⟨?_, ?_, fun k hk => ?_⟩, fun a ha => ?_⟩
    · rw [upV_eq, if_pos ⟨rfl, rfl⟩]
    · have e5 : upV (f_X0_copyFrom fu X j 0) 4 0 (nI (3 + 1)) 5 = X 5 := by rw [upV_ne _ _ _ (by decide), c3 5 (by omega)]
      unfold HPerm
      rw [e5]
      refine ⟨fun k hk => ?_, fun a b ha hb2 hab => ?_⟩
      · rcases Nat.lt_or_ge k 3 with r | r
        · rw [hsh k r]; exact hP.1 _ (by omega)
        · rw [show k = 3 by omega, hX53]; exact hP.1 _ (by decide)
      · rcases Nat.lt_or_ge a 3 with r | r <;> rcases Nat.lt_or_ge b 3 with r2 | r2
        · rw [hsh a r, hsh b r2] at hab
          have := hP.2 _ _ (by omega) (by omega) hab
          omega
        · rw [hsh a r, show b = 3 by omega, hX53] at hab
          have := hP.2 _ _ (by omega) (by omega) hab
          omega
        · rw [hsh b r2, show a = 3 by omega, hX53] at hab
          have := hP.2 _ _ (by omega) (by omega) hab
          omega
        · omega
    · have e5 : upV (f_X0_copyFrom fu X j 0) 4 0 (nI (3 + 1)) 5 = X 5 := by rw [upV_ne _ _ _ (by decide), c3 5 (by omega)]
      rcases Nat.lt_or_ge k 3 with r | r
      · have r3 : ¬ k = 3 := by omega
        simp only [r3, if_false]
        obtain ⟨i, i1, i2, i3, i4, i5⟩ := hP.at (k := k + 1) (by omega)
        have hij : i ≠ j := fun z => by have := hP.2 (k + 1) 0 (by omega) (by decide) (by rw [i3, j3, z]); omega
        have e6 : hb (upV (f_X0_copyFrom fu X j 0) 4 0 (nI (3 + 1))) k = 6 + 7 * i := by
          unfold hb
          rw [e5, hsh k r, i4]
        rw [e6]
        have := hbs (k + 1) (by omega)
        rw [i5] at this
        exact this.cong (fun _ _ => rfl) (fun r hr => by rw [upV_ne _ _ _ (by omega), c3 _ (by omega), hX0 _ (by omega) (by omega)])
      · have r3 : k = 3 := by omega
        subst r3
        simp only [if_true]
        have e6 : hb (upV (f_X0_copyFrom fu X j 0) 4 0 (nI (3 + 1))) 3 = 6 + 7 * j := by
          unfold hb
          rw [e5, hX53, j4]
        rw [e6]
        exact c2.cong (fun _ _ => rfl) (fun r hr => upV_ne _ _ _ (by omega))
    · rw [upV_ne _ _ _ (by omega), c3 _ (by omega), hX0 _ (by omega) (by omega)]
