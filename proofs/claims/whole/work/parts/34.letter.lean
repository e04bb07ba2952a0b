/-- who is drawn so -/
theorem das_l (fu : Nat) {V : VT} (hB : BRel V 6 (V 49)) (x : Nat) : ∀ (w i : Nat), i ≤ 10 → 10 - i < w → p_X3_drawnAs_l1 fu V 0 (nI x) w (nI i) ∧ ((∃ k, i ≤ k ∧ k < 10 ∧ V 49 (7 + k) = nI x ∧ f_X3_drawnAs_l1 fu V 0 (nI x) w (nI i) = nI k) ∨ ((∀ k, i ≤ k → k < 10 → V 49 (7 + k) ≠ nI x) ∧ f_X3_drawnAs_l1 fu V 0 (nI x) w (nI i) = -1)) := by
  intro w
  induction w with
  | zero => intro i hi h; omega
  | succ w ih =>
    intro i hi h
    rw [f_X3_drawnAs_l1, p_X3_drawnAs_l1]
    rcases Nat.lt_or_ge i 10 with hlt | hge
    · have hc : ¬ nI 10 ≤ nI i := nI_ge hlt (by decide)
      rw [if_neg hc, nI_clamp (by omega), row2 V hB hlt, nI_1]
      have v : vp_in (nI i) 10 := vp_in_nI hlt (by decide)
      by_cases q : V 49 (7 + i) = nI x
      · rw [if_pos q]
        exact ⟨⟨fun z => absurd z hc, fun _ => ⟨v, fun _ => trivial, fun z => absurd q z⟩⟩, Or.inl ⟨i, Nat.le_refl _, hlt, q, rfl⟩⟩
      · rw [if_neg q]
        obtain ⟨h1, h2⟩ := ih (i + 1) (by omega) (by omega)
        refine ⟨⟨fun z => absurd z hc, fun _ => ⟨v, fun z => absurd z q, fun _ => h1⟩⟩, ?_⟩
        rcases h2 with ⟨k, a1, a2, a3, a4⟩ | ⟨a1, a2⟩
        · exact Or.inl ⟨k, by omega, a2, a3, a4⟩
        · refine Or.inr ⟨fun k g1 g2 => ?_, a2⟩
          rcases Nat.eq_or_lt_of_le g1 with r | r
          · subst r; exact q
          · exact a1 k r g2
    · have he : i = 10 := by omega
      subst he
      have hc : nI 10 ≤ nI 10 := nI_le (Nat.le_refl _) (by decide)
      rw [if_pos hc]
      exact ⟨⟨fun _ => trivial, fun z => absurd hc z⟩, Or.inr ⟨fun k g1 g2 => by omega, rfl⟩⟩
/-- the model's loop, where no other is drawn so -/
theorem let_a (fu : Nat) {B : VT} {L x : Nat} (hL : L < 10) (hn : ∀ k, k < 10 → k ≠ L → B 49 (7 + k) ≠ nI x) (ha : p_X8_acted fu (upV B 49 (7 + L) (nI x)) (B 49 (7 + L))) : ∀ (w i : Nat), i ≤ 10 → 10 - i < w → p_X8_letter_l1 fu (nI L) (nI x) w B (nI i) ∧ f_X8_letter_l1 fu (nI L) (nI x) w B (nI i) = f_X8_acted fu (upV B 49 (7 + L) (nI x)) (B 49 (7 + L)) := by
  obtain ⟨d1, d2⟩ := drawn_n B hL
  have x7 : (7 + nI L : Int32) = nI (7 + L) := by rw [show (7 : Int32) = nI 7 from rfl, nI_add]
  intro w
  induction w with
  | zero => intro i hi h; omega
  | succ w ih =>
    intro i hi h
    rw [f_X8_letter_l1, p_X8_letter_l1, x7, nI_clamp (by omega), d2]
    rcases Nat.lt_or_ge i 10 with hlt | hge
    · have hc : ¬ (10 : Int32) ≤ nI i := nI_ge (b := 10) hlt (by decide)
      obtain ⟨e1, e2⟩ := drawn_n B hlt
      obtain ⟨h1, h2⟩ := ih (i + 1) (by omega) (by omega)
      rw [if_neg hc, nI_1, e2]
      by_cases q : i = L
      · have q1 : nI i = nI L := by rw [q]
        rw [if_pos q1]
        exact ⟨⟨fun z => absurd z hc, fun _ => ⟨fun _ => h1, fun z => absurd q1 z⟩⟩, h2⟩
      · have q1 : ¬ nI i = nI L := fun z => q ((nI_eq (by omega) (by omega)).mp z)
        have q2 := hn i hlt q
        rw [if_neg q1, if_neg q2]
        exact ⟨⟨fun z => absurd z hc, fun _ => ⟨fun z => absurd z q1, fun _ => ⟨e1, fun z => absurd z q2, fun _ => h1⟩⟩⟩, h2⟩
    · have he : i = 10 := by omega
      subst he
      have hc : (10 : Int32) ≤ nI 10 := by decide
      rw [if_pos hc]
      exact ⟨⟨fun _ => ⟨d1, vp_in_nI (by omega) (by decide), ha⟩, fun z => absurd hc z⟩, rfl⟩
/-- and where another is -/
theorem let_b (fu : Nat) {B : VT} {L x : Nat} (hL : L < 10) : ∀ (w i : Nat), i ≤ 10 → 10 - i < w → (∃ k, i ≤ k ∧ k < 10 ∧ k ≠ L ∧ B 49 (7 + k) = nI x) → p_X8_letter_l1 fu (nI L) (nI x) w B (nI i) ∧ f_X8_letter_l1 fu (nI L) (nI x) w B (nI i) = (-1002, B) := by
  intro w
  induction w with
  | zero => intro i hi h; omega
  | succ w ih =>
    intro i hi h hk
    rw [f_X8_letter_l1, p_X8_letter_l1]
    obtain ⟨k, g1, g2, g3, g4⟩ := hk
    have hlt : i < 10 := by omega
    have hc : ¬ (10 : Int32) ≤ nI i := nI_ge (b := 10) hlt (by decide)
    obtain ⟨e1, e2⟩ := drawn_n B hlt
    rw [if_neg hc, nI_1, e2]
    by_cases q : i = L
    · have q1 : nI i = nI L := by rw [q]
      obtain ⟨h1, h2⟩ := ih (i + 1) (by omega) (by omega) ⟨k, by omega, g2, g3, g4⟩
      rw [if_pos q1]
      exact ⟨⟨fun z => absurd z hc, fun _ => ⟨fun _ => h1, fun z => absurd q1 z⟩⟩, h2⟩
    · have q1 : ¬ nI i = nI L := fun z => q ((nI_eq (by omega) (by omega)).mp z)
      rw [if_neg q1]
      by_cases q2 : B 49 (7 + i) = nI x
      · rw [if_pos q2]
        exact ⟨⟨fun z => absurd z hc, fun _ => ⟨fun z => absurd z q1, fun _ => ⟨e1, fun _ => trivial, fun z => absurd q2 z⟩⟩⟩, rfl⟩
      · have : i ≠ k := fun z => q2 (z ▸ g4)
        obtain ⟨h1, h2⟩ := ih (i + 1) (by omega) (by omega) ⟨k, by omega, g2, g3, g4⟩
        rw [if_neg q2]
        exact ⟨⟨fun z => absurd z hc, fun _ => ⟨fun z => absurd z q1, fun _ => ⟨e1, fun z => absurd z q2, fun _ => h1⟩⟩⟩, h2⟩
theorem simG_letter (fu : Nat) (hf : 200 ≤ fu) (V : VT) (a b : Int32) (hR : RelV V) : (p_X7_letter fu V a b) ∧ (p_X8_letter fu (f_X7_letter fu V a b).2 a b) ∧ (f_X7_letter fu V a b).1 = (f_X8_letter fu (f_X7_letter fu V a b).2 a b).1 ∧ RelV (f_X8_letter fu (f_X7_letter fu V a b).2 a b).2 := by
  obtain ⟨⟨hB, hO⟩, -⟩ := id hR
  obtain ⟨pp, pw⟩ := push_R fu hf hR
  obtain ⟨b1, b2, b3⟩ := beg_m fu (by omega) V
  have bad : ∀ r, f_X7_letter fu V a b = (r, V) → f_X8_letter fu V a b = (r, f_X8_begins fu V) → p_X7_letter fu V a b → p_X8_letter fu V a b → (p_X7_letter fu V a b) ∧ (p_X8_letter fu (f_X7_letter fu V a b).2 a b) ∧ (f_X7_letter fu V a b).1 = (f_X8_letter fu (f_X7_letter fu V a b).2 a b).1 ∧ RelV (f_X8_letter fu (f_X7_letter fu V a b).2 a b).2 := by
    intro r e7 e8 p7 p8
    rw [e7]
    rw [e8]
    exact ⟨p7, p8, rfl, rel_begins fu hf hR⟩
  rcases pk_ix a (n := 10) (by decide) with h | h | ⟨L, hL, rfl⟩
  · have g8 : f_X8_in (f_X8_begins fu V) a 0 9 = 0 := in_lo _ h
    exact bad (-1001) (by simp [f_X7_letter, isL_lo V h]) (by simp [f_X8_letter, g8]) (by simp [p_X7_letter, isL_lo V h]) (by simp [p_X8_letter, g8, b1])
  · have g8 : f_X8_in (f_X8_begins fu V) a 0 9 = 0 := in_hi _ (lt_le (n := 9) (by decide) h)
    exact bad (-1001) (by simp [f_X7_letter, isL_hi V h]) (by simp [f_X8_letter, g8]) (by simp [p_X7_letter, isL_hi V h]) (by simp [p_X8_letter, g8, b1])
  · have g7 := isL_n V hL
    have g8 : ∀ U : VT, f_X8_in U (nI L) 0 9 = 1 := fun U => in_n U (lo := 0) (hi := 9) (Nat.zero_le _) (by omega) (by decide)
    rcases pk_ix b (n := 32768) (by decide) with h | h | ⟨x, hx, rfl⟩
    · have i7 : f_X7_isSign V b = 0 := by unfold f_X7_isSign; rw [if_pos h]
      have i8 : f_X8_in (f_X8_begins fu V) b 0 32767 = 0 := in_lo _ h
      exact bad (-1001) (by simp [f_X7_letter, g7, i7]) (by simp [f_X8_letter, g8, i8]) (by simp [p_X7_letter, g7, i7]) (by simp [p_X8_letter, g8, i8, b1])
    · have i7 : f_X7_isSign V b = 0 := by unfold f_X7_isSign; rw [if_pos (show (32768 : Int32) ≤ b from h), ite_self]
      have i8 : f_X8_in (f_X8_begins fu V) b 0 32767 = 0 := in_hi _ (lt_le (n := 32767) (by decide) h)
      exact bad (-1001) (by simp [f_X7_letter, g7, i7]) (by simp [f_X8_letter, g8, i8]) (by simp [p_X7_letter, g7, i7]) (by simp [p_X8_letter, g8, i8, b1])
    · have i7 : f_X7_isSign V (nI x) = 1 := by unfold f_X7_isSign; rw [if_neg (nI_pos (by omega)), if_neg (show ¬ (32768 : Int32) ≤ nI x from nI_ge (b := 32768) hx (by decide))]
      have i8 : ∀ U : VT, f_X8_in U (nI x) 0 32767 = 1 := fun U => in_n U (lo := 0) (hi := 32767) (Nat.zero_le _) (by omega) (by decide)
      obtain ⟨d1, d2⟩ := das_l fu hB x fu 0 (by omega) (by omega)
      rw [show nI 0 = (0 : Int32) from rfl] at d1 d2
      have good : (∀ k, k < 10 → k ≠ L → V 49 (7 + k) ≠ nI x) → f_X7_letter fu V (nI L) (nI x) = ((f_X3_signFor (f_X2_push fu V 0) 0 (nI L)), (f_X3_draw (f_X2_push fu V 0) 0 (nI L) (nI x))) → p_X7_letter fu V (nI L) (nI x) → (p_X7_letter fu V (nI L) (nI x)) ∧ (p_X8_letter fu (f_X7_letter fu V (nI L) (nI x)).2 (nI L) (nI x)) ∧ (f_X7_letter fu V (nI L) (nI x)).1 = (f_X8_letter fu (f_X7_letter fu V (nI L) (nI x)).2 (nI L) (nI x)).1 ∧ RelV (f_X8_letter fu (f_X7_letter fu V (nI L) (nI x)).2 (nI L) (nI x)).2 := by
        intro hno e7 p7
        have wB : BRel (f_X2_push fu V 0) 6 (V 49) := hB.cong (fun _ _ => rfl) (fun r hr => pw _ (by omega))
        have s7 : f_X3_signFor (f_X2_push fu V 0) 0 (nI L) = V 49 (7 + L) := by
          unfold f_X3_signFor
          rw [if_neg (nI_pos (by omega)), if_neg (nI_ge hL (by decide)), nI_clamp (by omega)]
          exact (wB.2.2.2.2.2.2.2.1 L hL).symm
        have h7 : f_X3_draw (f_X2_push fu V 0) 0 (nI L) (nI x) = upV (f_X2_push fu V 0) 8 L (nI x) := by
          unfold f_X3_draw f_X4_put
          rw [if_neg (nI_pos (by omega)), if_neg (nI_ge hL (by decide)), nI_clamp (by omega)]
        have hc : CD V (upV (f_X2_push fu V 0) 8 L (nI x)) (upd (V 49) (7 + L) (nI x)) := cd_R fu hf hR (fun a h _ => by rw [upV_ne _ _ _ (by omega)]) (BRel.ud wB hL _)
        rw [s7, h7] at e7
        rw [e7]
        dsimp only
        generalize upV (f_X2_push fu V 0) 8 L (nI x) = V1 at *
        obtain ⟨c1, c2, c3⟩ := beg_m fu (by omega) V1
        have V155 : V1 49 = V 49 := hc.2.2 49 (by omega)
        have hgt : -1001 < V 49 (7 + L) := by
          rcases hO.2.2.2.2.2.2.1 L hL with t | ⟨y, y1, y2⟩
          · rw [t]; decide
          · rw [y2]; exact gt_n (by omega)
        obtain ⟨a1, a2, a3⟩ := sim_up fu hf (ans := V 49 (7 + L)) hR hc (hO.ud hL ⟨x, hx, rfl⟩ hno) hgt
        have eb : f_X8_begins fu V1 49 = V 49 := by rw [c2 _ (by decide), V155]
        obtain ⟨l1, l2⟩ := let_a fu (B := f_X8_begins fu V1) hL (by rw [eb]; exact hno) (by rw [eb]; exact a1) fu 0 (by omega) (by omega)
        rw [show nI 0 = (0 : Int32) from rfl] at l1 l2
        rw [eb] at l2
        have e8 : f_X8_letter fu V1 (nI L) (nI x) = f_X8_acted fu (upV (f_X8_begins fu V1) 49 (7 + L) (nI x)) (V 49 (7 + L)) := by
          rw [← l2]; simp [f_X8_letter, g8, i8]
        rw [e8]
        exact ⟨p7, by simp [p_X8_letter, g8, i8, c1, l1], a2.symm, a3⟩
      rcases d2 with ⟨k, k1, k2, k3, k4⟩ | ⟨k1, k2⟩
      · have n1 : ¬ nI k = -1 := nI_neg1 (by omega)
        have fd : f_X3_drawnAs fu V 0 (nI x) = nI k := k4
        have pd : p_X3_drawnAs fu V 0 (nI x) := d1
        by_cases q : k = L
        · subst q
          refine good (fun j j1 j2 j3 => j2 (hO.2.2.2.2.2.2.2.1 j k j1 k2 (by rw [j3, k3]) (by rw [j3]; exact nI_neg1 (by omega)))) (by simp [f_X7_letter, g7, i7, fd, n1]) (by simp [p_X7_letter, g7, i7, pd, fd, n1, pp])
        · have q1 : ¬ nI k = nI L := fun z => q ((nI_eq (by omega) (by omega)).mp z)
          obtain ⟨l1, l2⟩ := let_b fu (B := f_X8_begins fu V) (x := x) hL fu 0 (by omega) (by omega) ⟨k, by omega, k2, q, by rw [b2 _ (by decide)]; exact k3⟩
          rw [show nI 0 = (0 : Int32) from rfl] at l1 l2
          exact bad (-1002) (by simp [f_X7_letter, g7, i7, fd, n1, q1]) (by simp [f_X8_letter, g8, i8, l2]) (by simp [p_X7_letter, g7, i7, pd, fd, n1, q1]) (by simp [p_X8_letter, g8, i8, b1, l1])
      · have fd : f_X3_drawnAs fu V 0 (nI x) = -1 := k2
        have pd : p_X3_drawnAs fu V 0 (nI x) := d1
        exact good (fun j j1 j2 => k1 j (by omega) j1) (by simp [f_X7_letter, g7, i7, fd]) (by simp [p_X7_letter, g7, i7, pd, fd, pp])
