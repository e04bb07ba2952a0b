theorem simG_gust (fu : Nat) (hf : 200 ≤ fu) (V : VT) (a : Int32) (hR : RelV V) : (p_X7_gust fu V a) ∧ (p_X8_gust fu (f_X7_gust fu V a).2 a) ∧ (f_X7_gust fu V a).1 = (f_X8_gust fu (f_X7_gust fu V a).2 a).1 ∧ RelV (f_X8_gust fu (f_X7_gust fu V a).2 a).2 := by
  obtain ⟨⟨hB, hO⟩, -⟩ := id hR
  obtain ⟨pp, pw⟩ := push_R fu hf hR
  have wB : BRel (f_X2_push fu V 0) 6 (V 49) := hB.cong (fun _ _ => rfl) (fun r hr => pw _ (by omega))
  rcases frc V a with ⟨g7, g8⟩ | ⟨g7, g8, k, k1, k2, rfl⟩
  · have e7 : f_X7_gust fu V a = (-1001, V) := by simp [f_X7_gust, g7]
    have g8' : f_X8_in (f_X8_begins fu V) a 1 99 = 0 := g8
    have e8 : f_X8_gust fu V a = (-1001, f_X8_begins fu V) := by simp [f_X8_gust, g8']
    rw [e7]
    rw [e8]
    exact ⟨by simp [p_X7_gust, g7], by simp [p_X8_gust, g8', (beg_m fu (by omega) V).1], rfl, rel_begins fu hf hR⟩
  · obtain ⟨j, j1, j2, j3⟩ := hO.2.2.1
    have w2 : f_X2_push fu V 0 6 2 = nI j := by rw [← j3]; exact wB.2.2.1.symm
    have w1 : f_X2_push fu V 0 6 1 = V 49 1 := wB.2.1.symm
    have w4 : f_X2_push fu V 0 6 4 = V 49 4 := wB.2.2.2.2.1.symm
    rcases Nat.lt_or_ge k j with q | q
    · have q1 : ¬ nI j ≤ nI k := nI_ge q (by omega)
      have e7 : f_X7_gust fu V (nI k) = (0, f_X2_push fu V 0) := by simp [f_X7_gust, g7, w2, q1]
      have hc : CD V (f_X2_push fu V 0) (V 49) := cd_R fu hf hR (fun a h _ => rfl) wB
      rw [e7]
      dsimp only
      generalize f_X2_push fu V 0 = V1 at *
      obtain ⟨d1, d2, d3⟩ := beg_m fu (by omega) V1
      have V155 : V1 49 = V 49 := hc.2.2 49 (by omega)
      have g8' : f_X8_in (f_X8_begins fu V1) (nI k) 1 99 = 1 := g8
      have eb : f_X8_begins fu V1 49 2 = nI j := by rw [d2 _ (by decide), V155, j3]
      obtain ⟨a1, a2, a3⟩ := sim_fin fu hf (X := f_X8_begins fu V1) (ans := 0) hR hc hO (by decide) (fun a _ _ g3 => d2 _ g3) d3 (fun i hi => by rw [d2 _ (by decide), V155]) (fun j hj => by rw [d2 _ (by decide)])
      refine ⟨by simp [p_X7_gust, g7, pp], ?_, ?_, ?_⟩
      · simp [p_X8_gust, g8', d1, z2, eb, q1, a1]
      · simp [f_X8_gust, g8', z2, eb, q1, a2]
      · simp [f_X8_gust, g8', z2, eb, q1, a3]
    · have q1 : nI j ≤ nI k := nI_le q (by omega)
      -- the new stiffness
      obtain ⟨st, s1, s2, s3, s4⟩ : ∃ st, 1 ≤ st ∧ st ≤ 99 ∧ (if 1 < nI j - 1 then nI j - 1 else (1 : Int32)) = nI st ∧ (if nI j ≤ 1 then (1 : Int32) else nI j - 1) = nI st := by
        rcases Nat.lt_or_ge j 2 with r | r
        · have hj1 : j = 1 := by omega
          subst hj1
          exact ⟨1, by omega, by omega, rfl, rfl⟩
        · refine ⟨j - 1, by omega, by omega, ?_, ?_⟩
          · rw [show (1 : Int32) = nI 1 from rfl, pk_sub j1]
            rcases Nat.lt_or_ge 2 j with r2 | r2
            · rw [if_pos (nI_lt (by omega) (by omega))]
            · rw [if_neg (nI_nlt (by omega) (by omega)), show j - 1 = 1 by omega]
          · rw [show (1 : Int32) = nI 1 from rfl, if_neg (nI_ge (by omega) (by omega)), pk_sub j1]
      obtain ⟨t, t1, t2⟩ : ∃ t : Int32, (t = 0 ∨ t = 1) ∧ f_X0_turnRound (f_X2_push fu V 0) 0 = upV (upV (upV (f_X2_push fu V 0) 6 1 t) 6 4 (V 49 4 + 1)) 6 2 (nI st) ∧ 1 - V 49 1 = t := by
        rcases hO.2.1 with t | t
        · refine ⟨1, Or.inr rfl, ?_, by rw [t]; rfl⟩
          unfold f_X0_turnRound v_X0_turnRound_1
          rw [if_pos (show f_X2_push fu V 0 (6 + 7 * 0) 1 = 0 from w1.trans t)]
          simp only [Nat.mul_zero, Nat.add_zero]
          rw [show upV (f_X2_push fu V 0) 6 1 1 6 4 = V 49 4 by rw [upV_eq, if_neg (by decide), w4]]
          rw [show upV (upV (f_X2_push fu V 0) 6 1 1) 6 4 (V 49 4 + 1) 6 2 = nI j by rw [upV_eq, if_neg (by decide), upV_eq, if_neg (by decide), w2], s3]
        · refine ⟨0, Or.inl rfl, ?_, by rw [t]; rfl⟩
          unfold f_X0_turnRound v_X0_turnRound_2
          rw [if_neg (show ¬ f_X2_push fu V 0 (6 + 7 * 0) 1 = 0 by rw [show f_X2_push fu V 0 (6 + 7 * 0) 1 = 1 from w1.trans t]; decide)]
          simp only [Nat.mul_zero, Nat.add_zero]
          rw [show upV (f_X2_push fu V 0) 6 1 0 6 4 = V 49 4 by rw [upV_eq, if_neg (by decide), w4]]
          rw [show upV (upV (f_X2_push fu V 0) 6 1 0) 6 4 (V 49 4 + 1) 6 2 = nI j by rw [upV_eq, if_neg (by decide), upV_eq, if_neg (by decide), w2], s3]
      obtain ⟨t2, t3⟩ := t2
      have e7 : f_X7_gust fu V (nI k) = (1, upV (upV (upV (f_X2_push fu V 0) 6 1 t) 6 4 (V 49 4 + 1)) 6 2 (nI st)) := by simp [f_X7_gust, g7, w2, q1, t2]
      have hc : CD V (upV (upV (upV (f_X2_push fu V 0) 6 1 t) 6 4 (V 49 4 + 1)) 6 2 (nI st)) (upd (upd (upd (V 49) 1 t) 4 (V 49 4 + 1)) 2 (nI st)) := cd_R fu hf hR (fun a h _ => by rw [upV_ne _ _ _ (by omega), upV_ne _ _ _ (by omega), upV_ne _ _ _ (by omega)]) (BRel.uf (BRel.uu (BRel.ut wB _) _) _)
      rw [e7]
      dsimp only
      generalize upV (upV (upV (f_X2_push fu V 0) 6 1 t) 6 4 (V 49 4 + 1)) 6 2 (nI st) = V1 at *
      obtain ⟨d1, d2, d3⟩ := beg_m fu (by omega) V1
      have V155 : V1 49 = V 49 := hc.2.2 49 (by omega)
      have g8' : f_X8_in (f_X8_begins fu V1) (nI k) 1 99 = 1 := g8
      have eb : f_X8_begins fu V1 49 2 = nI j := by rw [d2 _ (by decide), V155, j3]
      have ev : v_X8_gust_1 fu V1 = upV (upV (f_X8_begins fu V1) 49 1 t) 49 4 (V 49 4 + 1) := by
        unfold v_X8_gust_1
        rw [z1, z4, upV_eq _ _ _ 49 4, if_neg (by decide), d2 _ (by decide), V155, t3]
      have ev2 : upV (upV (f_X8_begins fu V1) 49 1 t) 49 4 (V 49 4 + 1) 49 2 = nI j := by rw [upV_eq, if_neg (by decide), upV_eq, if_neg (by decide), eb]
      obtain ⟨a1, a2, a3⟩ := sim_fin fu hf (X := upV (upV (upV (f_X8_begins fu V1) 49 1 t) 49 4 (V 49 4 + 1)) 49 2 (nI st)) (ans := 1) hR hc (SOk.uf (SOk.uu (SOk.ut hO t1)) ⟨st, s1, s2, rfl⟩) (by decide) (fun a _ g2 g3 => by rw [upV_ne _ _ _ g2, upV_ne _ _ _ g2, upV_ne _ _ _ g2, d2 _ g3]) (fun i hi => by rw [upV_ne _ _ _ (by decide), upV_ne _ _ _ (by decide), upV_ne _ _ _ (by decide), d3 i hi]) (fun i hi => by rw [upV_at, upV_at, upV_at, d2 _ (by decide), V155]) (fun j hj => by rw [upV_ne _ _ _ (by decide), upV_ne _ _ _ (by decide), upV_ne _ _ _ (by decide), d2 _ (by decide)])
      by_cases r : nI j ≤ 1
      · rw [if_pos r] at s4
        rw [← s4] at a1 a2 a3
        refine ⟨by simp [p_X7_gust, g7, pp], ?_, ?_, ?_⟩
        · simp [p_X8_gust, g8', d1, z2, eb, q1, ev, ev2, r, a1]
        · simp [f_X8_gust, g8', z2, eb, q1, ev, ev2, r, a2]
        · simp [f_X8_gust, g8', z2, eb, q1, ev, ev2, r, a3]
      · rw [if_neg r] at s4
        rw [← s4] at a1 a2 a3
        refine ⟨by simp [p_X7_gust, g7, pp], ?_, ?_, ?_⟩
        · simp [p_X8_gust, g8', d1, z2, eb, q1, ev, ev2, r, a1]
        · simp [f_X8_gust, g8', z2, eb, q1, ev, ev2, r, a2]
        · simp [f_X8_gust, v_X8_gust_2, g8', z2, eb, q1, ev, ev2, r, a3]
