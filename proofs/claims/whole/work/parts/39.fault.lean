theorem udr_l (fu : Nat) {V M : VT} {s t : Nat → Int32} {n W : Nat} (hB : BRel V 6 (V 49)) (hO : SOk (V 49)) (hM : M 49 = V 49) (h2 : V 2 0 = nI n) (h3 : ∀ i, i < n → V 3 i = t i) (m2 : M 48 2 = nI n) (m7 : M 48 7 = nI W) (m3 : ∀ i, i < n → M 53 i = t i) (hc : Ch t n) (hW : W < n) (hl : ∀ i, i < n → i ≠ W → Lt t n i) (hne : ¬ Lt t n W) : ∀ (w i : Nat), i ≤ n → n - i < w → p_X5_undrawnFault_l1 fu V 0 w (nI i) ∧ p_X8_areWords_l1 fu w M (nI i) ∧ ((∃ p, p < n ∧ f_X5_undrawnFault_l1 fu V 0 w (nI i) = nI (10 * p + 3) ∧ f_X8_areWords_l1 fu w M (nI i) = (0, brk M p 3)) ∨ (f_X5_undrawnFault_l1 fu V 0 w (nI i) = -1 ∧ f_X8_areWords_l1 fu w M (nI i) = (1, M))) := by
  have hn := hc.1
  intro w
  induction w with
  | zero => intro i hi h; omega
  | succ w ih =>
    intro i hi h
    rw [f_X5_undrawnFault_l1, p_X5_undrawnFault_l1, f_X8_areWords_l1, p_X8_areWords_l1, h2, m2, m7, nI_1]
    rcases Nat.lt_or_ge i n with q | q
    · have b1 : ¬ nI n ≤ nI i := nI_ge q (by omega)
      obtain ⟨r1, r2, r3⟩ := ih (i + 1) (by omega) (by omega)
      rw [if_neg b1, if_neg b1, nI_clamp (by omega), m3 i q]
      by_cases e : i = W
      · subst e
        have l1 : f_X5_letterAt V (nI i) = -1 := la_n h2 h3 hc (by omega) hne
        rw [if_pos l1, if_pos rfl]
        exact ⟨⟨fun z => absurd z b1, fun _ => ⟨fun _ => r1, fun z => absurd l1 z⟩⟩, ⟨fun z => absurd z b1, fun _ => ⟨fun _ => r2, fun z => absurd rfl z⟩⟩, r3⟩
      · obtain ⟨-, k, k1, k2⟩ := hl i q e
        have l1 := la_y h2 h3 hn q k1 k2
        have l2 : ¬ nI k = -1 := nI_neg1 (by omega)
        have e1 : ¬ nI i = nI W := fun z => e ((nI_eq (by omega) (by omega)).mp z)
        have e2 : t i - 97 = nI k := by rw [k2, show (97 : Int32) = nI 97 from rfl, pk_sub (by omega), show 97 + k - 97 = k by omega]
        have v : vp_in (nI i) 30 := vp_in_nI (by omega) (by decide)
        obtain ⟨d1, d2⟩ := drawn_n M k1
        rw [hM] at d2
        rw [l1, if_neg l2, if_neg e1, e2, has_n V hB k1, d2]
        by_cases g : V 49 (7 + k) = -1
        · have g2 : ¬ (0 : Int32) ≤ V 49 (7 + k) := by rw [g]; decide
          rw [if_pos g, if_pos rfl, if_neg g2]
          refine ⟨⟨fun z => absurd z b1, fun _ => ⟨fun z => absurd z l2, fun _ => ⟨fun _ => trivial, fun z => absurd rfl z⟩⟩⟩, ⟨fun z => absurd z b1, fun _ => ⟨fun z => absurd z e1, fun _ => ⟨v, d1, fun z => absurd z g2, fun _ => Or.inl rfl⟩⟩⟩, Or.inl ⟨i, q, ?_, rfl⟩⟩
          unfold f_X5_codeOf
          rw [show (10 : Int32) = nI 10 from rfl, show (3 : Int32) = nI 3 from rfl, pk_mul, nI_add]
        · have g2 : (0 : Int32) ≤ V 49 (7 + k) := by rw [(hO.dr k1 g).1]; exact nI_nn (by have := (hO.dr k1 g).2; omega)
          have g3 : ¬ (1 : Int32) = 0 := by decide
          rw [if_neg g, if_neg g3, if_pos g2]
          exact ⟨⟨fun z => absurd z b1, fun _ => ⟨fun z => absurd z l2, fun _ => ⟨fun z => absurd z g3, fun _ => r1⟩⟩⟩, ⟨fun z => absurd z b1, fun _ => ⟨fun z => absurd z e1, fun _ => ⟨v, d1, fun _ => r2, fun z => absurd g2 z⟩⟩⟩, r3⟩
    · have he : i = n := by omega
      subst he
      have b1 : nI i ≤ nI i := nI_le (Nat.le_refl _) (by omega)
      rw [if_pos b1, if_pos b1]
      exact ⟨⟨fun _ => trivial, fun z => absurd b1 z⟩, ⟨fun _ => trivial, fun z => absurd b1 z⟩, Or.inr ⟨rfl, rfl⟩⟩
theorem txt_b (fu : Nat) (hf : 200 ≤ fu) {V M : VT} {n : Nat} (hB : BRel V 6 (V 49)) (hO : SOk (V 49)) (hM : M 49 = V 49) (h2 : V 2 0 = nI n) (h3 : ∀ i, i < n → V 3 i = V 53 i) (m2 : M 48 2 = nI n) (m3 : M 53 = V 53) (hc : Ch (V 53) n) :
    p_X5_faultCode fu V 0 ∧ p_X8_areWords fu M ∧ ((∃ p r U, p ≤ 30 ∧ 1 ≤ r ∧ r ≤ 3 ∧ f_X5_faultCode fu V 0 = nI (10 * p + r) ∧ f_X8_areWords fu M = (0, U) ∧ U 48 5 = nI p ∧ U 48 6 = nI r ∧ (∀ a, a ≠ 48 → U a = M a) ∧ ∀ j, j < 5 → U 48 j = M 48 j) ∨ (∃ W, 1 ≤ W ∧ W ≤ 8 ∧ n = 2 * W + 1 ∧ p_X5_firstLength fu V ∧ f_X5_firstLength fu V = nI W ∧ f_X5_faultCode fu V 0 = -1 ∧ f_X8_areWords fu M = (1, upV M 48 7 (nI W)) ∧ (∀ i, i < n → i ≠ W → Lt (V 53) n i))) := by
  obtain ⟨a1, a2, a3⟩ := form_b fu hf (t := V 53) h2 h3 m2 (fun i _ => by rw [m3]) hc
  unfold p_X5_faultCode f_X5_faultCode p_X8_areWords f_X8_areWords
  rcases a3 with ⟨p, r, U, p1, r1, r2, b1, b2, b3, b4⟩ | ⟨W, W1, W2, W3, b1, b2, b3, b4, b5, b6⟩
  · have c1 : ¬ f_X5_formFault fu V = -1 := by rw [b1]; exact nI_neg1 (by omega)
    rw [if_neg c1, b2, if_pos rfl]
    refine ⟨⟨a1, fun z => absurd z c1, fun _ => trivial⟩, ⟨a2, fun _ => trivial, fun z => absurd rfl z⟩, Or.inl ⟨p, r, brk U p r, p1, r1, r2, b1, rfl, brk_5 _ _ _, brk_6 _ _ _, fun a ha => by rw [brk_ne _ _ _ ha, b3 a ha], fun j hj => by rw [brk_54 _ _ _ hj, b4 j hj]⟩⟩
  · obtain ⟨u1, u2, u3⟩ := udr_l fu (V := V) (M := upV M 48 7 (nI W)) (s := V 49) (t := V 53) (n := n) (W := W) hB hO (by rw [upV_ne _ _ _ (by decide), hM]) h2 h3 (by rw [upV_eq, if_neg (by decide), m2]) (by rw [upV_eq, if_pos ⟨rfl, rfl⟩]) (fun i _ => by rw [upV_ne _ _ _ (by decide), m3]) hc (by omega) b5 b6 fu 0 (by omega) (by have := hc.1; omega)
    rw [show nI 0 = (0 : Int32) from rfl] at u1 u2 u3
    have g3 : ¬ (1 : Int32) = 0 := by decide
    rw [if_pos b3, b4, if_neg g3]
    refine ⟨⟨a1, fun _ => u1, fun z => absurd b3 z⟩, ⟨a2, fun z => absurd z g3, fun _ => u2⟩, ?_⟩
    rcases u3 with ⟨p, p1, p2, p3⟩ | ⟨p2, p3⟩
    · have := hc.1
      refine Or.inl ⟨p, 3, _, by omega, by omega, by omega, p2, p3, brk_5 _ _ _, brk_6 _ _ _, fun a ha => by rw [brk_ne _ _ _ ha, upV_ne _ _ _ ha], fun j hj => by rw [brk_54 _ _ _ hj, upV_eq, if_neg (by omega)]⟩
    · exact Or.inr ⟨W, W1, W2, W3, b1, b2, p2, p3, b5⟩
theorem simG_fault (fu : Nat) (hf : 200 ≤ fu) (V : VT) (a : Int32) (hR : RelV V) : (p_X7_fault fu V a) ∧ (p_X8_fault fu V a) ∧ (f_X7_fault fu V a) = (f_X8_fault fu V a).1 ∧ RelV (f_X8_fault fu V a).2 := by
  obtain ⟨⟨hB, hO⟩, -, -, ⟨n, n1, n2, n3, n4⟩⟩ := id hR
  have hc : Ch (V 53) n := ⟨n1, fun i hi => (n4 i hi).2⟩
  obtain ⟨a1, a2, a3⟩ := txt_b fu hf hB hO rfl n2 (fun i hi => (n4 i hi).1) n3 rfl hc
  have m10 : ¬ (1 : Int32) = 0 := by decide
  have i00 : f_X8_in V 0 0 1 = 1 := rfl
  have i10 : f_X8_in V 1 0 1 = 1 := rfl
  have o0 : f_X7_isOneOfTwo V 0 = 1 := rfl
  have o1 : f_X7_isOneOfTwo V 1 = 1 := rfl
  rcases c2 a with h | h | rfl | rfl
  · have g7 := oot_lo V h
    have g8 := i01_lo V h
    have e8 : f_X8_fault fu V a = (-1001, V) := by simp [f_X8_fault, g8]
    rw [e8]
    exact ⟨by simp [p_X7_fault, g7], by simp [p_X8_fault, g8], by simp [f_X7_fault, g7], hR⟩
  · have g7 := oot_hi V h
    have g8 := i01_hi V h
    have e8 : f_X8_fault fu V a = (-1001, V) := by simp [f_X8_fault, g8]
    rw [e8]
    exact ⟨by simp [p_X7_fault, g7], by simp [p_X8_fault, g8], by simp [f_X7_fault, g7], hR⟩
  all_goals
    rcases a3 with ⟨p, r, U, p1, r1, r2, b1, b2, b3, b4, b5, b6⟩ | ⟨W, W1, W2, W3, b0, b1, b2, b3, b4⟩
    · have c1 : ¬ nI (10 * p + r) = -1 := nI_neg1 (by omega)
      have d1 : nI (10 * p + r) / 10 = nI p := by rw [show (10 : Int32) = nI 10 from rfl, pk_div (by omega) (by decide) (by decide), show (10 * p + r) / 10 = p by omega]
      have d2 : nI (10 * p + r) - nI p * 10 = nI r := by rw [show (10 : Int32) = nI 10 from rfl, pk_mul, pk_sub (by omega), show 10 * p + r - p * 10 = r by omega]
      have hU : RelV U := rel_beg hR (fun a h _ _ => b5 a h) (fun j hj => b6 j (by omega))
      refine ⟨by simp [p_X7_fault, o0, o1, a1], by simp [p_X8_fault, i00, i10, a2], ?_, ?_⟩
      · simp [f_X7_fault, f_X8_fault, f_X5_placeIn, f_X5_reasonIn, o0, o1, i00, i10, b1, b2, c1, d1, d2, b3, b4]
      · simp [f_X8_fault, i00, i10, b2, hU]
    · have hU : RelV (upV V 48 7 (nI W)) := rel_beg hR (fun a h _ _ => upV_ne _ _ _ h) (fun j hj => by rw [upV_eq, if_neg (by omega)])
      refine ⟨by simp [p_X7_fault, o0, o1, a1], by simp [p_X8_fault, i00, i10, a2], ?_, ?_⟩
      · simp [f_X7_fault, f_X8_fault, o0, o1, i00, i10, b2, b3]
      · simp [f_X8_fault, i00, i10, b3, hU]
