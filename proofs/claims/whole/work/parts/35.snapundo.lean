/-! snapshot, undo, type -/
theorem kp_l (fu : Nat) : ∀ (w : Nat) (V : VT) (k : Nat), k ≤ 49 → 49 - k < w → p_X8_keep_l1 fu w V (nI k) ∧ f_X8_keep_l1 fu w V (nI k) = (V 49 0, upV (stR V 51 (fun i => if k ≤ i ∧ i < 49 then V 49 i else V 51 i)) 48 0 1) := by
  intro w
  induction w with
  | zero => intro V k hk h; omega
  | succ w ih =>
    intro V k hk h
    rw [f_X8_keep_l1, p_X8_keep_l1]
    rcases Nat.lt_or_ge k 49 with hlt | hge
    · have hc : ¬ (49 : Int32) ≤ nI k := nI_ge (b := 49) hlt (by decide)
      rw [if_neg hc, nI_clamp (by omega), nI_1]
      obtain ⟨h1, h2⟩ := ih (upV V 51 k (V 49 k)) (k + 1) (by omega) (by omega)
      refine ⟨⟨fun z => absurd z hc, fun _ => ⟨vp_in_nI hlt (by decide), vp_in_nI hlt (by decide), h1⟩⟩, ?_⟩
      rw [h2, upV_st V 51, stR_st, stR_at, stR_ne _ _ (by decide)]
      congr 2
      congr 1
      funext i
      by_cases hi : i = k
      · subst hi
        rw [if_neg (by omega), if_pos (by omega), pk_us]
      · by_cases h3 : k + 1 ≤ i ∧ i < 49
        · rw [if_pos h3, if_pos (by omega)]
        · rw [if_neg h3, if_neg (by omega), pk_un hi]
    · have he : k = 49 := by omega
      subst he
      have hc : (49 : Int32) ≤ nI 49 := by decide
      have e : (fun i => if 49 ≤ i ∧ i < 49 then V 49 i else V 51 i) = V 51 := by
        funext i
        rw [if_neg (by omega)]
      rw [if_pos hc, e, stR_self, z0, upV_ne _ _ _ (show (49 : Nat) ≠ 48 by decide)]
      exact ⟨⟨fun _ => trivial, fun z => absurd hc z⟩, rfl⟩
theorem simG_keep (fu : Nat) (hf : 200 ≤ fu) (V : VT) (hR : RelV V) : (p_X7_keep fu V) ∧ (p_X8_keep fu (f_X7_keep fu V).2) ∧ (f_X7_keep fu V).1 = (f_X8_keep fu (f_X7_keep fu V).2).1 ∧ RelV (f_X8_keep fu (f_X7_keep fu V).2).2 := by
  obtain ⟨⟨hB, hO⟩, hS, hH, hT⟩ := id hR
  obtain ⟨c1, c2, c3⟩ := copy_B fu (by omega) V 1 0 (by decide) (s := V 49) hB hO.b1
  obtain ⟨k1, k2⟩ := kp_l fu fu (f_X7_keep fu V).2 0 (by omega) (by omega)
  rw [show nI 0 = (0 : Int32) from rfl] at k1 k2
  have e8 : f_X8_keep fu (f_X7_keep fu V).2 = _ := k2
  rw [e8]
  have u1 : ∀ a, a ≠ 0 → ¬ (13 ≤ a ∧ a < 20) → (f_X7_keep fu V).2 a = V a := fun a g1 g2 => by unfold f_X7_keep; dsimp only; rw [upV_ne _ _ _ g1, c3 a g2]
  have u0 : (f_X7_keep fu V).2 0 0 = 1 := by unfold f_X7_keep; dsimp only; rw [upV_eq, if_pos ⟨rfl, rfl⟩]
  have e7 : (f_X7_keep fu V).1 = V 49 0 := by
    unfold f_X7_keep
    dsimp only
    rw [upV_ne _ _ _ (by decide), c3 (6 + 7 * 0) (by omega)]
    exact hB.1.symm
  have hB2 : BRel (f_X7_keep fu V).2 13 (V 49) := BRel.cong (s := V 49) c2 (fun _ _ => rfl) (fun r hr => by unfold f_X7_keep; dsimp only; rw [upV_ne _ _ _ (by omega)])
  refine ⟨c1, k1, ?_, ?_⟩
  · rw [e7]; dsimp only; rw [u1 49 (by decide) (by omega)]
  · dsimp only
    generalize hV1 : (f_X7_keep fu V).2 = V1 at *
    have w1 : ∀ a, a ≠ 48 → a ≠ 51 → upV (stR V1 51 (fun i => if 0 ≤ i ∧ i < 49 then V1 49 i else V1 51 i)) 48 0 1 a = V1 a := fun a g1 g2 => by rw [upV_ne _ _ _ g1, stR_ne _ _ g2]
    have w2 : ∀ j, j ≠ 0 → upV (stR V1 51 (fun i => if 0 ≤ i ∧ i < 49 then V1 49 i else V1 51 i)) 48 0 1 48 j = V 48 j := fun j g => by rw [upV_eq, if_neg (fun z => g z.2), stR_ne _ _ (by decide), u1 48 (by decide) (by omega)]
    have w3 : ∀ i, i < 49 → upV (stR V1 51 (fun i => if 0 ≤ i ∧ i < 49 then V1 49 i else V1 51 i)) 48 0 1 51 i = V 49 i := fun i hi => by rw [upV_ne _ _ _ (by decide), stR_at, if_pos ⟨Nat.zero_le _, hi⟩, u1 49 (by decide) (by omega)]
    have w0 : upV (stR V1 51 (fun i => if 0 ≤ i ∧ i < 49 then V1 49 i else V1 51 i)) 48 0 1 48 0 = 1 := by rw [upV_eq, if_pos ⟨rfl, rfl⟩]
    refine ⟨hR.1.cong (fun a ha => by rw [w1 a (by omega) (by omega), u1 a (by omega) (by omega)]), ⟨?_, ?_, fun _ => ⟨?_, ?_⟩⟩, hH.cong (fun a ha => by rw [w1 a (by omega) (by omega), u1 a (by omega) (by omega)]) (w2 1 (by decide)), hT.cong (fun a ha => by rw [w1 a (by omega) (by omega), u1 a (by omega) (by omega)]) (w2 2 (by decide))⟩
    · rw [w0, w1 0 (by decide) (by decide), u0]
    · rw [w1 0 (by decide) (by decide), u0]; exact Or.inr rfl
    · exact hB2.cong (fun i hi => w3 i hi) (fun r hr => w1 _ (by omega) (by omega))
    · exact hO.cong (fun i hi => w3 i hi)
theorem res_l (fu : Nat) {ans : Int32} {G : Nat → Int32} : ∀ (w : Nat) (V : VT) (k : Nat), k ≤ 49 → 49 - k < w → (∀ i, i < 49 → V 51 i = G i) → (∀ i, i < k → V 49 i = G i) → G 0 = ans → p_X8_acted fu (stR V 49 (fun i => if i < 49 then G i else V 49 i)) ans → p_X8_restore_l1 fu w V (nI k) ∧ f_X8_restore_l1 fu w V (nI k) = f_X8_acted fu (stR V 49 (fun i => if i < 49 then G i else V 49 i)) ans := by
  intro w
  induction w with
  | zero => intro V k hk h; omega
  | succ w ih =>
    intro V k hk h hG hK h0 hp
    rw [f_X8_restore_l1, p_X8_restore_l1]
    rcases Nat.lt_or_ge k 49 with hlt | hge
    · have hc : ¬ (49 : Int32) ≤ nI k := nI_ge (b := 49) hlt (by decide)
      rw [if_neg hc, nI_clamp (by omega), nI_1]
      have e : stR (upV V 49 k (V 51 k)) 49 (fun i => if i < 49 then G i else upV V 49 k (V 51 k) 49 i) = stR V 49 (fun i => if i < 49 then G i else V 49 i) := by
        rw [upV_st V 49, stR_st, stR_at]
        congr 1
        funext i
        by_cases q : i < 49
        · rw [if_pos q, if_pos q]
        · rw [if_neg q, if_neg q, pk_un (by omega)]
      obtain ⟨h1, h2⟩ := ih (upV V 49 k (V 51 k)) (k + 1) (by omega) (by omega) (fun i hi => by rw [upV_ne _ _ _ (by decide)]; exact hG i hi) (fun i hi => by
        rw [upV_at]
        by_cases q : i = k
        · subst q; rw [pk_us]; exact hG i hlt
        · rw [pk_un q]; exact hK i (by omega)) h0 (by rw [e]; exact hp)
      rw [e] at h2
      exact ⟨⟨fun z => absurd z hc, fun _ => ⟨vp_in_nI hlt (by decide), vp_in_nI hlt (by decide), h1⟩⟩, h2⟩
    · have he : k = 49 := by omega
      subst he
      have hc : (49 : Int32) ≤ nI 49 := by decide
      have e : stR V 49 (fun i => if i < 49 then G i else V 49 i) = V := by
        rw [show (fun i => if i < 49 then G i else V 49 i) = V 49 from by
          funext i
          by_cases q : i < 49
          · rw [if_pos q]; exact (hK i q).symm
          · rw [if_neg q], stR_self]
      rw [e] at hp ⊢
      have e0 : V 49 0 = ans := by rw [hK 0 (by decide)]; exact h0
      rw [if_pos hc, z0, e0]
      exact ⟨⟨fun _ => hp, fun z => absurd hc z⟩, rfl⟩
theorem simG_restore (fu : Nat) (hf : 200 ≤ fu) (V : VT) (hR : RelV V) : (p_X7_restore fu V) ∧ (p_X8_restore fu (f_X7_restore fu V).2) ∧ (f_X7_restore fu V).1 = (f_X8_restore fu (f_X7_restore fu V).2).1 ∧ RelV (f_X8_restore fu (f_X7_restore fu V).2).2 := by
  obtain ⟨⟨hB, hO⟩, ⟨hs1, hs2, hs3⟩, -, -⟩ := id hR
  obtain ⟨pp, pw⟩ := push_R fu hf hR
  obtain ⟨b1, b2, b3⟩ := beg_m fu (by omega) V
  rcases hs2 with q | q
  · have e7 : f_X7_restore fu V = (-1002, V) := by simp [f_X7_restore, q]
    have g : f_X8_begins fu V 48 0 = 0 := by rw [b2 _ (by decide), hs1, q]
    have e8 : f_X8_restore fu V = (-1002, f_X8_begins fu V) := by simp [f_X8_restore, g]
    rw [e7]
    rw [e8]
    exact ⟨by simp [p_X7_restore, q], by simp [p_X8_restore, b1, g], rfl, rel_begins fu hf hR⟩
  · obtain ⟨sB, sO⟩ := hs3 q
    have wB : BRel (f_X2_push fu V 0) 13 (V 51) := sB.cong (fun _ _ => rfl) (fun r hr => pw _ (by omega))
    obtain ⟨c1, c2, c3⟩ := copy_B fu (by omega) (f_X2_push fu V 0) 0 1 (by decide) (s := V 51) wB sO.b1
    have hc : CD V (f_X0_copyFrom fu (f_X2_push fu V 0) 0 1) (V 51) := cd_R fu hf hR (fun a h _ => c3 a (by omega)) c2
    have e7 : f_X7_restore fu V = (V 51 0, f_X0_copyFrom fu (f_X2_push fu V 0) 0 1) := by
      simp [f_X7_restore, q]
      exact c2.1.symm
    rw [e7]
    dsimp only
    have p7 : p_X7_restore fu V := by simp [p_X7_restore, q, pp, c1]
    generalize f_X0_copyFrom fu (f_X2_push fu V 0) 0 1 = V1 at *
    obtain ⟨d1, d2, d3⟩ := beg_m fu (by omega) V1
    have V155 : V1 49 = V 49 := hc.2.2 49 (by omega)
    have V157 : f_X8_begins fu V1 51 = V 51 := by rw [d2 _ (by decide), hc.2.2 51 (by omega)]
    have g : f_X8_begins fu V1 48 0 = 1 := by rw [d2 _ (by decide), hc.2.2 48 (by omega), hs1, q]
    obtain ⟨P, hP8, hP⟩ := sO.1
    obtain ⟨a1, a2, a3⟩ := sim_fin fu hf (X := stR (f_X8_begins fu V1) 49 (fun i => if i < 49 then V 51 i else f_X8_begins fu V1 49 i)) (ans := V 51 0) hR hc sO (by rw [hP]; exact gt_n (by omega)) (fun a _ g2 g3 => by rw [stR_ne _ _ g2, d2 _ g3]) (fun i hi => by rw [stR_ne _ _ (by decide), d3 i hi]) (fun i hi => by rw [stR_at, if_pos hi]) (fun j hj => by rw [stR_ne _ _ (by decide), d2 _ (by decide)])
    obtain ⟨l1, l2⟩ := res_l fu (ans := V 51 0) (G := V 51) fu (f_X8_begins fu V1) 0 (by omega) (by omega) (fun i hi => by rw [V157]) (fun i hi => absurd hi (Nat.not_lt_zero _)) rfl a1
    rw [show nI 0 = (0 : Int32) from rfl] at l1 l2
    have e8 : f_X8_restore fu V1 = f_X8_acted fu (stR (f_X8_begins fu V1) 49 (fun i => if i < 49 then V 51 i else f_X8_begins fu V1 49 i)) (V 51 0) := by
      rw [← l2]; simp [f_X8_restore, g]
    rw [e8]
    exact ⟨p7, by simp [p_X8_restore, d1, g, l1], a2.symm, a3⟩
theorem und_l (fu : Nat) {h : Nat} (hh : h < 4) : ∀ (w : Nat) (V : VT) (k : Nat), k ≤ 49 → 49 - k < w → V 48 1 = nI h → p_X8_undo_l1 fu w V (nI k) ∧ f_X8_undo_l1 fu w V (nI k) = (nI h, stR V 49 (fun i => if k ≤ i ∧ i < 49 then V 52 (49 * h + i) else V 49 i)) := by
  intro w
  induction w with
  | zero => intro V k hk h; omega
  | succ w ih =>
    intro V k hk hw hV
    rw [f_X8_undo_l1, p_X8_undo_l1, hV]
    rcases Nat.lt_or_ge k 49 with hlt | hge
    · have hc : ¬ (49 : Int32) ≤ nI k := nI_ge (b := 49) hlt (by decide)
      have hx : (49 : Int32) * nI h + nI k = nI (49 * h + k) := by rw [show (49 : Int32) = nI 49 from rfl, pk_mul, nI_add]
      rw [if_neg hc, hx, nI_clamp (n := k) (by omega), nI_clamp (n := 49 * h + k) (by omega), nI_1]
      obtain ⟨h1, h2⟩ := ih (upV V 49 k (V 52 (49 * h + k))) (k + 1) (by omega) (by omega) (by rw [upV_ne _ _ _ (by decide)]; exact hV)
      refine ⟨⟨fun z => absurd z hc, fun _ => ⟨vp_in_nI (by omega) (by decide), vp_in_nI hlt (by decide), h1⟩⟩, ?_⟩
      rw [h2, upV_st V 49, stR_st, stR_at, stR_ne _ _ (by decide)]
      congr 2
      funext i
      by_cases hi : i = k
      · subst hi
        rw [if_neg (by omega), if_pos (by omega), pk_us]
      · by_cases h3 : k + 1 ≤ i ∧ i < 49
        · rw [if_pos h3, if_pos (by omega)]
        · rw [if_neg h3, if_neg (by omega), pk_un hi]
    · have he : k = 49 := by omega
      subst he
      have hc : (49 : Int32) ≤ nI 49 := by decide
      have e : (fun i => if 49 ≤ i ∧ i < 49 then V 52 (49 * h + i) else V 49 i) = V 49 := by
        funext i
        rw [if_neg (by omega)]
      rw [if_pos hc, e, stR_self]
      exact ⟨⟨fun _ => trivial, fun z => absurd hc z⟩, rfl⟩
theorem simG_undo (fu : Nat) (hf : 200 ≤ fu) (V : VT) (hR : RelV V) : (p_X7_undo fu V) ∧ (p_X8_undo fu (f_X7_undo fu V).2) ∧ (f_X7_undo fu V).1 = (f_X8_undo fu (f_X7_undo fu V).2).1 ∧ RelV (f_X8_undo fu (f_X7_undo fu V).2).2 := by
  obtain ⟨⟨hB, hO⟩, hS, ⟨h, hst, hh, ⟨hn, hP, hbs⟩, ⟨hm, hv⟩, hk⟩, hT⟩ := id hR
  rcases Nat.eq_zero_or_pos h with q | q
  · subst q
    have e7 : f_X7_undo fu V = (-1002, V) := by simp [f_X7_undo, hn, show nI 0 = (0 : Int32) from rfl]
    have e8 : f_X8_undo fu V = (-1002, V) := by simp [f_X8_undo, hm, show nI 0 = (0 : Int32) from rfl]
    rw [e7]
    rw [e8]
    exact ⟨by simp [p_X7_undo, hn, show nI 0 = (0 : Int32) from rfl], by simp [p_X8_undo, hm, show nI 0 = (0 : Int32) from rfl], rfl, hR⟩
  · obtain ⟨g, rfl⟩ : ∃ g, h = g + 1 := ⟨h - 1, by omega⟩
    have n0 : ¬ nI (g + 1) = 0 := nI_ne0 q (by omega)
    have n1 : ¬ nI (g + 1) ≤ 0 := nI_nle q (by omega)
    have n4 : ¬ nI 4 < nI (g + 1) := nI_nlt hh (by omega)
    have m1 : nI (g + 1) - 1 = nI g := pk_sub (a := g + 1) (b := 1) (by omega)
    have hX5 : upV V 4 0 (nI g) 5 = V 5 := upV_ne _ _ _ (by decide)
    have hX4 : upV V 4 0 (nI g) 4 0 = nI g := by rw [upV_eq, if_pos ⟨rfl, rfl⟩]
    have hX : ∀ a, a ≠ 4 → upV V 4 0 (nI g) a = V a := fun a ha => upV_ne _ _ _ ha
    obtain ⟨j, j1, j2, j3, j4, j5⟩ := hP.at (k := g) (by omega)
    have hbg := hbs g (by omega)
    rw [j5] at hbg
    have t : (upV V 4 0 (nI g) 5 (upV V 4 0 (nI g) 4 0).toNatClampNeg).toNatClampNeg = j := by rw [hX4, nI_clamp (by omega), hX5, j4]
    have vi : vp_in (upV V 4 0 (nI g) 4 0) 4 := by rw [hX4]; exact vp_in_nI (by omega) (by decide)
    obtain ⟨c1, c2, c3⟩ := copy_B fu (by omega) (upV V 4 0 (nI g)) 0 j (by omega) (s := hst g) (hbg.cong (fun _ _ => rfl) (fun r hr => hX _ (by omega))) (hk g (by omega)).b1
    have e7 : f_X7_undo fu V = (nI g, f_X0_copyFrom fu (upV V 4 0 (nI g)) 0 j) := by
      have : f_X2_popInto fu V 0 = f_X0_copyFrom fu (upV V 4 0 (nI g)) 0 j := by
        unfold f_X2_popInto v_X2_popInto_1
        rw [hn, if_neg n1, if_neg n4, m1, t]
      simp only [f_X7_undo, hn, n0, if_false, this]
      rw [c3 4 (by omega), hX4]
    have p7 : p_X7_undo fu V := by
      refine ⟨fun _ => trivial, fun _ => ?_⟩
      unfold p_X2_popInto
      rw [hn, m1, t]
      exact ⟨fun _ => trivial, fun _ => ⟨fun _ => trivial, fun _ => ⟨vi, by omega, c1⟩⟩⟩
    rw [e7]
    dsimp only
    have u1 : ∀ a, a ≠ 4 → ¬ (6 ≤ a ∧ a < 13) → f_X0_copyFrom fu (upV V 4 0 (nI g)) 0 j a = V a := fun a g1 g2 => by rw [c3 a (by omega), hX a g1]
    have u4 : f_X0_copyFrom fu (upV V 4 0 (nI g)) 0 j 4 0 = nI g := by rw [c3 4 (by omega), hX4]
    generalize f_X0_copyFrom fu (upV V 4 0 (nI g)) 0 j = V1 at *
    have e1 : V1 48 1 = nI (g + 1) := by rw [u1 48 (by decide) (by omega), hm]
    obtain ⟨l1, l2⟩ := und_l fu (h := g) (by omega) fu (upV V1 48 1 (nI g)) 0 (by omega) (by omega) (by rw [upV_eq, if_pos ⟨rfl, rfl⟩])
    rw [show nI 0 = (0 : Int32) from rfl] at l1 l2
    have e8 : f_X8_undo fu V1 = (nI g, stR (upV V1 48 1 (nI g)) 49 (fun i => if 0 ≤ i ∧ i < 49 then (upV V1 48 1 (nI g)) 52 (49 * g + i) else (upV V1 48 1 (nI g)) 49 i)) := by
      rw [← l2]
      simp only [f_X8_undo, e1, n0, if_false, m1]
    rw [e8]
    have w55 : ∀ i, i < 49 → stR (upV V1 48 1 (nI g)) 49 (fun i => if 0 ≤ i ∧ i < 49 then (upV V1 48 1 (nI g)) 52 (49 * g + i) else (upV V1 48 1 (nI g)) 49 i) 49 i = hst g i := fun i hi => by
      rw [stR_at, if_pos ⟨Nat.zero_le _, hi⟩, upV_ne _ _ _ (by decide), u1 52 (by decide) (by omega)]
      exact hv g i (by omega) hi
    have w1 : ∀ a, a ≠ 48 → a ≠ 49 → stR (upV V1 48 1 (nI g)) 49 (fun i => if 0 ≤ i ∧ i < 49 then (upV V1 48 1 (nI g)) 52 (49 * g + i) else (upV V1 48 1 (nI g)) 49 i) a = V1 a := fun a g1 g2 => by rw [stR_ne _ _ g2, upV_ne _ _ _ g1]
    have w54 : ∀ j, j ≠ 1 → stR (upV V1 48 1 (nI g)) 49 (fun i => if 0 ≤ i ∧ i < 49 then (upV V1 48 1 (nI g)) 52 (49 * g + i) else (upV V1 48 1 (nI g)) 49 i) 48 j = V 48 j := fun j g1 => by rw [stR_ne _ _ (by decide), upV_eq, if_neg (fun z => g1 z.2), u1 48 (by decide) (by omega)]
    have w541 : stR (upV V1 48 1 (nI g)) 49 (fun i => if 0 ≤ i ∧ i < 49 then (upV V1 48 1 (nI g)) 52 (49 * g + i) else (upV V1 48 1 (nI g)) 49 i) 48 1 = nI g := by rw [stR_ne _ _ (by decide), upV_eq, if_pos ⟨rfl, rfl⟩]
    have e54 : (48 : Nat) ≠ 4 := by decide
    refine ⟨p7, ⟨fun _ => trivial, fun _ => by rw [e1, m1]; exact l1⟩, rfl, ?_⟩
    dsimp only
    generalize stR (upV V1 48 1 (nI g)) 49 (fun i => if 0 ≤ i ∧ i < 49 then (upV V1 48 1 (nI g)) 52 (49 * g + i) else (upV V1 48 1 (nI g)) 49 i) = V2 at *
    refine ⟨⟨c2.cong (fun i hi => w55 i hi) (fun r hr => w1 _ (by omega) (by omega)), (hk g (by omega)).cong (fun i hi => w55 i hi)⟩, hS.cong (fun a ha => by rw [w1 a (by omega) (by omega), u1 a (by omega) (by omega)]) (w54 0 (by decide)), ⟨g, hst, by omega, ⟨by rw [w1 4 (by decide) (by decide), u4], ?_, fun k hk2 => ?_⟩, ⟨w541, fun k i hk2 hi => by rw [w1 52 (by decide) (by decide), u1 52 (by decide) (by omega)]; exact hv k i (by omega) hi⟩, fun k hk2 => hk k (by omega)⟩, hT.cong (fun a ha => by rw [w1 a (by omega) (by omega), u1 a (by omega) (by omega)]) (w54 2 (by decide))⟩
    · unfold HPerm
      rw [w1 5 (by decide) (by decide), u1 5 (by decide) (by omega)]
      exact hP
    · have e5 : hb V2 k = hb V k := by
        unfold hb
        rw [w1 5 (by decide) (by decide), u1 5 (by decide) (by omega)]
      rw [e5]
      obtain ⟨i, i1, i2, i3, i4, i5⟩ := hP.at (k := k) (by omega)
      have := hbs k (by omega)
      rw [i5] at this ⊢
      exact this.cong (fun _ _ => rfl) (fun r hr => by rw [w1 _ (by omega) (by omega), u1 _ (by omega) (by omega)])
