/-! calls that change the board -/
theorem frc (V : VT) (a : Int32) : (f_X7_isForce V a = 0 ∧ f_X8_in V a 1 99 = 0) ∨ (f_X7_isForce V a = 1 ∧ f_X8_in V a 1 99 = 1 ∧ ∃ k, 1 ≤ k ∧ k ≤ 99 ∧ a = nI k) := by
  rcases pk_ix a (n := 100) (by decide) with h | h | ⟨j, hj, rfl⟩
  · have h1 : a < 1 := Int32.lt_trans h (by decide)
    exact Or.inl ⟨by unfold f_X7_isForce; rw [if_pos h1], in_lo V h1⟩
  · have h2 : 99 < a := lt_le (n := 99) (by decide) h
    refine Or.inl ⟨?_, in_hi V h2⟩
    unfold f_X7_isForce
    rw [if_pos h2, ite_self]
  · rcases Nat.eq_zero_or_pos j with q | q
    · subst q
      exact Or.inl ⟨rfl, rfl⟩
    · have h1 : ¬ nI j < 1 := nI_nlt (b := 1) q (by omega)
      have h2 : ¬ 99 < nI j := nI_nlt (a := 99) (by omega) (by omega)
      exact Or.inr ⟨by unfold f_X7_isForce; rw [if_neg h1, if_neg h2], in_ok V h1 h2, j, q, by omega, rfl⟩
theorem simG_oil (fu : Nat) (hf : 200 ≤ fu) (V : VT) (a : Int32) (hR : RelV V) : (p_X7_oil fu V a) ∧ (p_X8_oil fu (f_X7_oil fu V a).2 a) ∧ (f_X7_oil fu V a).1 = (f_X8_oil fu (f_X7_oil fu V a).2 a).1 ∧ RelV (f_X8_oil fu (f_X7_oil fu V a).2 a).2 := by
  obtain ⟨⟨hB, hO⟩, -⟩ := id hR
  obtain ⟨pp, pw⟩ := push_R fu hf hR
  rcases frc V a with ⟨g7, g8⟩ | ⟨g7, g8, k, k1, k2, rfl⟩
  · have e7 : f_X7_oil fu V a = (-1001, V) := by simp [f_X7_oil, g7]
    have g8' : f_X8_in (f_X8_begins fu V) a 1 99 = 0 := g8
    have e8 : f_X8_oil fu V a = (-1001, f_X8_begins fu V) := by simp [f_X8_oil, g8']
    rw [e7]
    rw [e8]
    exact ⟨by simp [p_X7_oil, g7], by simp [p_X8_oil, g8', (beg_m fu (by omega) V).1], rfl, rel_begins fu hf hR⟩
  · have hc : CD V (upV (f_X2_push fu V 0) 6 2 (nI k)) (upd (V 49) 2 (nI k)) := cd_R fu hf hR (fun a h _ => upV_ne _ _ _ (by omega)) (BRel.uf (hB.cong (fun _ _ => rfl) (fun r hr => pw _ (by omega))) _)
    have e7 : f_X7_oil fu V (nI k) = (V 49 2, upV (f_X2_push fu V 0) 6 2 (nI k)) := by simp [f_X7_oil, g7, pw 6 (by omega), hB.2.2.1]
    obtain ⟨j, j1, j2, j3⟩ := hO.2.2.1
    obtain ⟨a1, a2, a3⟩ := sim_up fu hf (ans := V 49 2) hR hc (hO.uf ⟨k, k1, k2, rfl⟩) (by rw [j3]; exact gt_n (by omega))
    obtain ⟨b1, b2, b3⟩ := beg_m fu (by omega) (upV (f_X2_push fu V 0) 6 2 (nI k))
    have eb : f_X8_begins fu (upV (f_X2_push fu V 0) 6 2 (nI k)) 49 2 = V 49 2 := by rw [b2 _ (by decide), hc.2.2 49 (by omega)]
    have g8' : f_X8_in (f_X8_begins fu (upV (f_X2_push fu V 0) 6 2 (nI k))) (nI k) 1 99 = 1 := g8
    rw [e7]
    dsimp only
    refine ⟨by simp [p_X7_oil, g7, pp], ?_, ?_, ?_⟩
    · simp [p_X8_oil, g8', b1, z2, eb, a1]
    · simp [f_X8_oil, g8', z2, eb, a2]
    · simp [f_X8_oil, v_X8_oil_1, g8', z2, eb, a3]
theorem simG_sign (fu : Nat) (hf : 200 ≤ fu) (V : VT) (a b : Int32) (hR : RelV V) : (p_X7_sign fu V a b) ∧ (p_X8_sign fu (f_X7_sign fu V a b).2 a b) ∧ (f_X7_sign fu V a b).1 = (f_X8_sign fu (f_X7_sign fu V a b).2 a b).1 ∧ RelV (f_X8_sign fu (f_X7_sign fu V a b).2 a b).2 := by
  obtain ⟨⟨hB, hO⟩, -⟩ := id hR
  obtain ⟨P, hP8, hP⟩ := hO.1
  obtain ⟨pp, pw⟩ := push_R fu hf hR
  obtain ⟨b1, b2, b3⟩ := beg_m fu (by omega) V
  have hPb : f_X8_begins fu V 49 0 = nI P := by rw [b2 49 (by decide)]; exact hP
  have pb := isP_b (f_X8_begins fu V) a
  rcases pk_ix a (n := P) (by omega) with h | h | ⟨i, hi, rfl⟩
  · have e7 : f_X7_sign fu V a b = (-1001, V) := by simp [f_X7_sign, hasP_lo V h]
    have e8 : f_X8_sign fu V a b = (-1001, f_X8_begins fu V) := by simp [f_X8_sign, isP_lo _ h]
    rw [e7]
    rw [e8]
    exact ⟨by simp [p_X7_sign, hasP_lo V h], by simp [p_X8_sign, isP_lo _ h, b1, pb], rfl, rel_begins fu hf hR⟩
  · have e7 : f_X7_sign fu V a b = (-1001, V) := by simp [f_X7_sign, hasP_hi hB hP h]
    have e8 : f_X8_sign fu V a b = (-1001, f_X8_begins fu V) := by simp [f_X8_sign, isP_hi hP8 hPb h]
    rw [e7]
    rw [e8]
    exact ⟨by simp [p_X7_sign, hasP_hi hB hP h], by simp [p_X8_sign, isP_hi hP8 hPb h, b1, pb], rfl, rel_begins fu hf hR⟩
  · have n7 := hasP_n hB hP8 hP hi
    have n8 := isP_n hP8 hPb hi
    rcases pk_ix b (n := 32768) (by decide) with h | h | ⟨x, hx, rfl⟩
    · have i7 : f_X7_isSign V b = 0 := by unfold f_X7_isSign; rw [if_pos h]
      have i8 : f_X8_in (f_X8_begins fu V) b 0 32767 = 0 := in_lo _ h
      have e7 : f_X7_sign fu V (nI i) b = (-1001, V) := by simp [f_X7_sign, n7, i7]
      have e8 : f_X8_sign fu V (nI i) b = (-1001, f_X8_begins fu V) := by simp [f_X8_sign, n8, i8]
      rw [e7]
      rw [e8]
      exact ⟨by simp [p_X7_sign, n7, i7], by simp [p_X8_sign, n8, i8, b1, pb], rfl, rel_begins fu hf hR⟩
    · have i7 : f_X7_isSign V b = 0 := by unfold f_X7_isSign; rw [if_pos (show (32768 : Int32) ≤ b from h), ite_self]
      have i8 : f_X8_in (f_X8_begins fu V) b 0 32767 = 0 := in_hi _ (lt_le (n := 32767) (by decide) h)
      have e7 : f_X7_sign fu V (nI i) b = (-1001, V) := by simp [f_X7_sign, n7, i7]
      have e8 : f_X8_sign fu V (nI i) b = (-1001, f_X8_begins fu V) := by simp [f_X8_sign, n8, i8]
      rw [e7]
      rw [e8]
      exact ⟨by simp [p_X7_sign, n7, i7], by simp [p_X8_sign, n8, i8, b1, pb], rfl, rel_begins fu hf hR⟩
    · have i7 : f_X7_isSign V (nI x) = 1 := by unfold f_X7_isSign; rw [if_neg (nI_pos (by omega)), if_neg (show ¬ (32768 : Int32) ≤ nI x from nI_ge (b := 32768) hx (by decide))]
      have k8 : i < 8 := by omega
      have hW : ∀ a, 6 ≤ a → a < 13 → f_X2_push fu V 0 a = V a := fun a _ _ => pw a (by omega)
      have wB : BRel (f_X2_push fu V 0) 6 (V 49) := hB.cong (fun _ _ => rfl) (fun r hr => pw _ (by omega))
      have s7 : f_X0_signAt (f_X2_push fu V 0) 0 (nI i) = V 49 (17 + 2 * i) := by unfold f_X0_signAt; rw [at8 _ _ k8]; exact (wB.2.2.2.2.2.2.2.2.1 i k8).symm
      have put1 : f_X4_put (f_X2_push fu V 0) (6 + 7 * 0 + 3) 8 (nI i) (nI x) = upV (f_X2_push fu V 0) 9 i (nI x) := by
        unfold f_X4_put
        rw [if_neg (nI_pos (by omega)), if_neg (nI_ge k8 (by decide)), nI_clamp (by omega)]
      have st7 : upV (f_X2_push fu V 0) 9 i (nI x) (6 + 7 * 0) 5 = V 49 5 := by
        rw [upV_ne _ _ _ (by decide)]
        exact wB.2.2.2.2.2.1.symm
      have h7 : f_X0_hang (f_X2_push fu V 0) 0 (nI i) (nI x) = upV (upV (f_X2_push fu V 0) 9 i (nI x)) 10 i (V 49 5) := by
        unfold f_X0_hang f_X0_coat
        rw [put1, st7]
        unfold f_X4_put
        rw [if_neg (nI_pos (by omega)), if_neg (nI_ge k8 (by decide)), nI_clamp (by omega)]
      have e7 : f_X7_sign fu V (nI i) (nI x) = (V 49 (17 + 2 * i), upV (upV (f_X2_push fu V 0) 9 i (nI x)) 10 i (V 49 5)) := by simp [f_X7_sign, n7, i7, s7, h7]
      have hc : CD V (upV (upV (f_X2_push fu V 0) 9 i (nI x)) 10 i (V 49 5)) (upd (upd (V 49) (17 + 2 * i) (nI x)) (18 + 2 * i) (V 49 5)) := cd_R fu hf hR (fun a h _ => by rw [upV_ne _ _ _ (by omega), upV_ne _ _ _ (by omega)]) (BRel.uc (BRel.us wB k8 _) k8 _)
      rw [e7]
      dsimp only
      generalize upV (upV (f_X2_push fu V 0) 9 i (nI x)) 10 i (V 49 5) = V1 at *
      obtain ⟨d1, d2, d3⟩ := beg_m fu (by omega) V1
      have V155 : V1 49 = V 49 := hc.2.2 49 (by omega)
      have hPd : f_X8_begins fu V1 49 0 = nI P := by rw [d2 49 (by decide), V155]; exact hP
      have n8 := isP_n hP8 hPd hi
      have pb := isP_b (f_X8_begins fu V1) (nI i)
      have i8 : f_X8_in (f_X8_begins fu V1) (nI x) 0 32767 = 1 := in_n _ (lo := 0) (hi := 32767) (Nat.zero_le _) (by omega) (by decide)
      obtain ⟨s8p, s8⟩ := sgM (f_X8_begins fu V1) k8
      have ly : f_X8_lays (f_X8_begins fu V1) (nI i) (nI x) = upV (upV (f_X8_begins fu V1) 49 (17 + 2 * i) (nI x)) 49 (18 + 2 * i) (V 49 5) := by
        unfold f_X8_lays v_X8_lays_1
        rw [ix18, ix17, nI_clamp (by omega), nI_clamp (by omega), z5, upV_eq, if_neg (by omega), d2 _ (by decide), V155]
      have lp : p_X8_lays (f_X8_begins fu V1) (nI i) (nI x) := by
        unfold p_X8_lays
        rw [ix18, ix17]
        exact ⟨vp_in_nI (by omega) (by decide), vp_in_nI (by omega) (by decide)⟩
      obtain ⟨y, y1, y2⟩ := hO.2.2.2.2.2.2.2.2.1 i k8
      obtain ⟨c, c1, c2, c3⟩ := hO.2.2.2.2.1
      rw [d2 _ (by decide), V155] at s8
      obtain ⟨a1, a2, a3⟩ := sim_fin fu hf (X := upV (upV (f_X8_begins fu V1) 49 (17 + 2 * i) (nI x)) 49 (18 + 2 * i) (V 49 5)) (ans := V 49 (17 + 2 * i)) hR hc (SOk.uc (SOk.us hO k8 ⟨x, hx, rfl⟩) k8 ⟨c, c2, c3⟩) (by rw [y2]; exact gt_n (by omega)) (fun a g1 g2 g3 => by rw [upV_ne _ _ _ g2, upV_ne _ _ _ g2, d2 _ g3]) (fun i hi => by rw [upV_ne _ _ _ (by decide), upV_ne _ _ _ (by decide), d3 i hi]) (fun i hi => by rw [upV_at, upV_at, d2 _ (by decide), V155]) (fun j hj => by rw [upV_ne _ _ _ (by decide), upV_ne _ _ _ (by decide), d2 _ (by decide)])
      refine ⟨by simp [p_X7_sign, n7, i7, pp], ?_, ?_, ?_⟩
      · simp [p_X8_sign, n8, i8, d1, pb, s8p, lp, s8, ly, a1]
      · simp [f_X8_sign, n8, i8, s8, ly, a2]
      · simp [f_X8_sign, n8, i8, s8, ly, a3]
