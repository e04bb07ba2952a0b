theorem simG_paint (fu : Nat) (hf : 200 ≤ fu) (V : VT) (a : Int32) (hR : RelV V) : (p_X7_paint fu V a) ∧ (p_X8_paint fu (f_X7_paint fu V a).2 a) ∧ (f_X7_paint fu V a).1 = (f_X8_paint fu (f_X7_paint fu V a).2 a).1 ∧ RelV (f_X8_paint fu (f_X7_paint fu V a).2 a).2 := by
  obtain ⟨⟨hB, hO⟩, -⟩ := id hR
  obtain ⟨P, hP8, hP⟩ := hO.1
  obtain ⟨pp, pw⟩ := push_R fu hf hR
  obtain ⟨b1, b2, b3⟩ := beg_m fu (by omega) V
  have hPb : f_X8_begins fu V 49 0 = nI P := by rw [b2 49 (by decide)]; exact hP
  have pb := isP_b (f_X8_begins fu V) a
  rcases pk_ix a (n := P) (by omega) with h | h | ⟨i, hi, rfl⟩
  · have e7 : f_X7_paint fu V a = (-1001, V) := by simp [f_X7_paint, hasP_lo V h]
    have e8 : f_X8_paint fu V a = (-1001, f_X8_begins fu V) := by simp [f_X8_paint, isP_lo _ h]
    rw [e7]
    rw [e8]
    exact ⟨by simp [p_X7_paint, hasP_lo V h], by simp [p_X8_paint, isP_lo _ h, b1, pb], rfl, rel_begins fu hf hR⟩
  · have e7 : f_X7_paint fu V a = (-1001, V) := by simp [f_X7_paint, hasP_hi hB hP h]
    have e8 : f_X8_paint fu V a = (-1001, f_X8_begins fu V) := by simp [f_X8_paint, isP_hi hP8 hPb h]
    rw [e7]
    rw [e8]
    exact ⟨by simp [p_X7_paint, hasP_hi hB hP h], by simp [p_X8_paint, isP_hi hP8 hPb h, b1, pb], rfl, rel_begins fu hf hR⟩
  · have n7 := hasP_n hB hP8 hP hi
    have n8 := isP_n hP8 hPb hi
    have k8 : i < 8 := by omega
    obtain ⟨c, c1, c2⟩ := ct_ok hO k8
    have c7 := ctA hB k8
    obtain ⟨c8p, c8⟩ := ctM (f_X8_begins fu V) k8
    rw [b2 _ (by decide)] at c8
    rw [c2] at c7 c8
    rcases Nat.lt_or_ge c 9 with r | r
    · have r7 : nI c < 9 := nI_lt (b := 9) r (by decide)
      have r8 : ¬ nI c = 9 := fun z => by have := (nI_eq (a := c) (b := 9) (by omega) (by decide)).mp z; omega
      have wB : BRel (f_X2_push fu V 0) 6 (V 49) := hB.cong (fun _ _ => rfl) (fun r hr => pw _ (by omega))
      have h7 : f_X0_coat (f_X2_push fu V 0) 0 (nI i) (nI c + 1) = upV (f_X2_push fu V 0) 10 i (nI (c + 1)) := by
        unfold f_X0_coat f_X4_put
        rw [if_neg (nI_pos (by omega)), if_neg (nI_ge k8 (by decide)), nI_clamp (by omega), nI_1]
      rw [nI_1] at h7
      have e7 : f_X7_paint fu V (nI i) = (nI (c + 1), upV (f_X2_push fu V 0) 10 i (nI (c + 1))) := by simp [f_X7_paint, n7, c7, r7, h7, nI_1]
      have hc : CD V (upV (f_X2_push fu V 0) 10 i (nI (c + 1))) (upd (V 49) (18 + 2 * i) (nI (c + 1))) := cd_R fu hf hR (fun a h _ => by rw [upV_ne _ _ _ (by omega)]) (BRel.uc wB k8 _)
      rw [e7]
      dsimp only
      generalize upV (f_X2_push fu V 0) 10 i (nI (c + 1)) = V1 at *
      obtain ⟨d1, d2, d3⟩ := beg_m fu (by omega) V1
      have V155 : V1 49 = V 49 := hc.2.2 49 (by omega)
      have hPd : f_X8_begins fu V1 49 0 = nI P := by rw [d2 49 (by decide), V155]; exact hP
      have n8 := isP_n hP8 hPd hi
      have pb := isP_b (f_X8_begins fu V1) (nI i)
      obtain ⟨c8p, c8⟩ := ctM (f_X8_begins fu V1) k8
      rw [d2 _ (by decide), V155, c2] at c8
      have x18 : ((17 : Int32) + 2 * nI i + 1).toNatClampNeg = 18 + 2 * i := by rw [ix18, nI_clamp (by omega)]
      have v18 : vp_in ((17 : Int32) + 2 * nI i + 1) 49 := by rw [ix18]; exact vp_in_nI (by omega) (by decide)
      have ep : v_X8_paint_1 fu V1 (nI i) = upV (f_X8_begins fu V1) 49 (18 + 2 * i) (nI (c + 1)) := by
        unfold v_X8_paint_1
        rw [x18, d2 _ (by decide), V155, c2, nI_1]
      obtain ⟨g8p, g8⟩ := ctM (upV (f_X8_begins fu V1) 49 (18 + 2 * i) (nI (c + 1))) k8
      rw [upV_eq, if_pos ⟨rfl, rfl⟩] at g8
      obtain ⟨a1, a2, a3⟩ := sim_up fu hf (ans := nI (c + 1)) hR hc (hO.uc k8 ⟨c + 1, by omega, rfl⟩) (gt_n (by omega))
      refine ⟨by simp [p_X7_paint, n7, c7, r7, pp], ?_, ?_, ?_⟩
      · simp [p_X8_paint, n8, d1, pb, c8p, c8, r8, v18, ep, g8p, g8, a1]
      · simp [f_X8_paint, n8, c8, r8, ep, g8, a2]
      · simp [f_X8_paint, n8, c8, r8, ep, g8, a3]
    · have h9 : c = 9 := by omega
      subst h9
      have r7 : ¬ nI 9 < 9 := by decide
      have r8 : nI 9 = 9 := rfl
      have e7 : f_X7_paint fu V (nI i) = (-1003, V) := by simp [f_X7_paint, n7, c7, r7]
      have e8 : f_X8_paint fu V (nI i) = (-1003, f_X8_begins fu V) := by simp [f_X8_paint, n8, c8, r8]
      rw [e7]
      rw [e8]
      exact ⟨by simp [p_X7_paint, n7, c7, r7], by simp [p_X8_paint, n8, b1, pb, c8p, c8, r8], rfl, rel_begins fu hf hR⟩
theorem simG_set (fu : Nat) (hf : 200 ≤ fu) (V : VT) (a b : Int32) (hR : RelV V) : (p_X7_set fu V a b) ∧ (p_X8_set fu (f_X7_set fu V a b).2 a b) ∧ (f_X7_set fu V a b).1 = (f_X8_set fu (f_X7_set fu V a b).2 a b).1 ∧ RelV (f_X8_set fu (f_X7_set fu V a b).2 a b).2 := by
  obtain ⟨⟨hB, hO⟩, -⟩ := id hR
  obtain ⟨pp, pw⟩ := push_R fu hf hR
  obtain ⟨b1, b2, b3⟩ := beg_m fu (by omega) V
  have wB : BRel (f_X2_push fu V 0) 6 (V 49) := hB.cong (fun _ _ => rfl) (fun r hr => pw _ (by omega))
  have bad : f_X7_set fu V a b = (-1001, V) → f_X8_set fu V a b = (-1001, f_X8_begins fu V) → p_X7_set fu V a b → p_X8_set fu V a b → (p_X7_set fu V a b) ∧ (p_X8_set fu (f_X7_set fu V a b).2 a b) ∧ (f_X7_set fu V a b).1 = (f_X8_set fu (f_X7_set fu V a b).2 a b).1 ∧ RelV (f_X8_set fu (f_X7_set fu V a b).2 a b).2 := by
    intro e7 e8 p7 p8
    rw [e7]
    rw [e8]
    exact ⟨p7, p8, rfl, rel_begins fu hf hR⟩
  have put0 : ∀ x, f_X0_changeSetting (f_X2_push fu V 0) 0 0 x = upV (f_X2_push fu V 0) 6 5 x := fun x => by
    unfold f_X0_changeSetting
    rw [if_pos rfl]
  have put1 : ∀ x, f_X0_changeSetting (f_X2_push fu V 0) 0 1 x = upV (f_X2_push fu V 0) 6 6 x := fun x => by
    unfold f_X0_changeSetting
    rw [if_neg (by decide)]
  have sA0 : f_X0_setting (f_X2_push fu V 0) 0 0 = V 49 5 := by
    unfold f_X0_setting
    rw [if_pos rfl]
    exact wB.2.2.2.2.2.1.symm
  have sA1 : f_X0_setting (f_X2_push fu V 0) 0 1 = V 49 6 := by
    unfold f_X0_setting
    rw [if_neg (by decide)]
    exact wB.2.2.2.2.2.2.1.symm
  have i00 : ∀ U : VT, f_X8_in U 0 0 1 = 1 := fun _ => rfl
  have i10 : ∀ U : VT, f_X8_in U 1 0 1 = 1 := fun _ => rfl
  have v5 : vp_in (5 : Int32) 49 := vp_in_nI (n := 5) (by decide) (by decide)
  have v6 : vp_in (6 : Int32) 49 := vp_in_nI (n := 6) (by decide) (by decide)
  rcases c2 a with h | h | rfl | rfl
  · have g8 : f_X8_in (f_X8_begins fu V) a 0 1 = 0 := i01_lo _ h
    exact bad (by simp [f_X7_set, oot_lo V h]) (by simp [f_X8_set, g8]) (by simp [p_X7_set, oot_lo V h]) (by simp [p_X8_set, g8, b1])
  · have g8 : f_X8_in (f_X8_begins fu V) a 0 1 = 0 := i01_hi _ h
    exact bad (by simp [f_X7_set, oot_hi V h]) (by simp [f_X8_set, g8]) (by simp [p_X7_set, oot_hi V h]) (by simp [p_X8_set, g8, b1])
  · rcases pk_ix b (n := 10) (by decide) with h | h | ⟨k, hk, rfl⟩
    · have q1 : ¬ (9 : Int32) < b := i32_nl (Int32.le_of_lt (Int32.lt_trans h (by decide)))
      have q2 : ¬ (1 : Int32) ≤ b := i32_nle (Int32.lt_trans h (by decide))
      have g8 : f_X8_in (f_X8_begins fu V) b 1 9 = 0 := in_lo _ (Int32.lt_trans h (by decide))
      exact bad (by simp [f_X7_set, f_X7_isOneOfTwo, q1, q2]) (by simp [f_X8_set, i00, g8]) (by simp [p_X7_set, f_X7_isOneOfTwo, q1, q2]) (by simp [p_X8_set, i00, g8, b1])
    · have q1 : (9 : Int32) < b := lt_le (n := 9) (by decide) h
      have g8 : f_X8_in (f_X8_begins fu V) b 1 9 = 0 := in_hi _ q1
      exact bad (by simp [f_X7_set, f_X7_isOneOfTwo, q1]) (by simp [f_X8_set, i00, g8]) (by simp [p_X7_set, f_X7_isOneOfTwo, q1]) (by simp [p_X8_set, i00, g8, b1])
    · have q1 : ¬ (9 : Int32) < nI k := nI_nlt (a := 9) (by omega) (by omega)
      rcases Nat.eq_zero_or_pos k with r | r
      · subst r
        have q2 : ¬ (1 : Int32) ≤ nI 0 := by decide
        have g8 : f_X8_in (f_X8_begins fu V) (nI 0) 1 9 = 0 := rfl
        exact bad (by simp [f_X7_set, f_X7_isOneOfTwo, q1, q2]) (by simp [f_X8_set, i00, g8]) (by simp [p_X7_set, f_X7_isOneOfTwo, q1, q2]) (by simp [p_X8_set, i00, g8, b1])
      · have q2 : (1 : Int32) ≤ nI k := nI_le (a := 1) r (by omega)
        have e7 : f_X7_set fu V 0 (nI k) = (V 49 5, upV (f_X2_push fu V 0) 6 5 (nI k)) := by simp [f_X7_set, f_X7_isOneOfTwo, q1, q2, sA0, put0]
        have hc : CD V (upV (f_X2_push fu V 0) 6 5 (nI k)) (upd (V 49) 5 (nI k)) := cd_R fu hf hR (fun a h _ => by rw [upV_ne _ _ _ (by omega)]) (BRel.ua wB _)
        rw [e7]
        dsimp only
        generalize upV (f_X2_push fu V 0) 6 5 (nI k) = V1 at *
        obtain ⟨d1, d2, d3⟩ := beg_m fu (by omega) V1
        have V155 : V1 49 = V 49 := hc.2.2 49 (by omega)
        have g8 : f_X8_in (f_X8_begins fu V1) (nI k) 1 9 = 1 := in_n _ (lo := 1) (hi := 9) r (by omega) (by decide)
        have eb : f_X8_begins fu V1 49 5 = V 49 5 := by rw [d2 _ (by decide), V155]
        obtain ⟨y, y1, y2, y3⟩ := hO.2.2.2.2.1
        obtain ⟨a1, a2, a3⟩ := sim_up fu hf (ans := V 49 5) hR hc (hO.ua ⟨k, r, by omega, rfl⟩) (by rw [y3]; exact gt_n (by omega))
        refine ⟨by simp [p_X7_set, f_X7_isOneOfTwo, q1, q2, pp], ?_, ?_, ?_⟩
        · simp [p_X8_set, i00, g8, d1, v5, z5, eb, a1]
        · simp [f_X8_set, i00, g8, z5, eb, a2]
        · simp [f_X8_set, v_X8_set_1, i00, g8, z5, eb, a3]
  · rcases pk_ix b (n := 10) (by decide) with h | h | ⟨k, hk, rfl⟩
    · have q1 : ¬ (9 : Int32) < b := i32_nl (Int32.le_of_lt (Int32.lt_trans h (by decide)))
      have q2 : ¬ (0 : Int32) ≤ b := i32_nle h
      have g8 : f_X8_in (f_X8_begins fu V) b 0 9 = 0 := in_lo _ h
      exact bad (by simp [f_X7_set, f_X7_isOneOfTwo, q1, q2]) (by simp [f_X8_set, i10, g8]) (by simp [p_X7_set, f_X7_isOneOfTwo, q1, q2]) (by simp [p_X8_set, i10, g8, b1])
    · have q1 : (9 : Int32) < b := lt_le (n := 9) (by decide) h
      have g8 : f_X8_in (f_X8_begins fu V) b 0 9 = 0 := in_hi _ q1
      exact bad (by simp [f_X7_set, f_X7_isOneOfTwo, q1]) (by simp [f_X8_set, i10, g8]) (by simp [p_X7_set, f_X7_isOneOfTwo, q1]) (by simp [p_X8_set, i10, g8, b1])
    · have q1 : ¬ (9 : Int32) < nI k := nI_nlt (a := 9) (by omega) (by omega)
      have q2 : (0 : Int32) ≤ nI k := nI_nn (by omega)
      have e7 : f_X7_set fu V 1 (nI k) = (V 49 6, upV (f_X2_push fu V 0) 6 6 (nI k)) := by simp [f_X7_set, f_X7_isOneOfTwo, q1, q2, sA1, put1]
      have hc : CD V (upV (f_X2_push fu V 0) 6 6 (nI k)) (upd (V 49) 6 (nI k)) := cd_R fu hf hR (fun a h _ => by rw [upV_ne _ _ _ (by omega)]) (BRel.ub wB _)
      rw [e7]
      dsimp only
      generalize upV (f_X2_push fu V 0) 6 6 (nI k) = V1 at *
      obtain ⟨d1, d2, d3⟩ := beg_m fu (by omega) V1
      have V155 : V1 49 = V 49 := hc.2.2 49 (by omega)
      have g8 : f_X8_in (f_X8_begins fu V1) (nI k) 0 9 = 1 := in_n _ (lo := 0) (hi := 9) (Nat.zero_le _) (by omega) (by decide)
      have eb : f_X8_begins fu V1 49 6 = V 49 6 := by rw [d2 _ (by decide), V155]
      obtain ⟨y, y1, y3⟩ := hO.2.2.2.2.2.1
      obtain ⟨a1, a2, a3⟩ := sim_up fu hf (ans := V 49 6) hR hc (hO.ub ⟨k, by omega, rfl⟩) (by rw [y3]; exact gt_n (by omega))
      refine ⟨by simp [p_X7_set, f_X7_isOneOfTwo, q1, q2, pp], ?_, ?_, ?_⟩
      · simp [p_X8_set, i10, g8, d1, v6, z6, eb, a1]
      · simp [f_X8_set, i10, g8, z6, eb, a2]
      · simp [f_X8_set, v_X8_set_1, i10, g8, z6, eb, a3]
