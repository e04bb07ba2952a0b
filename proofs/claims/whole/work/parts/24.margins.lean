/-! margins of both sides; the class's small reads -/
def mgS (s : Nat → Int32) (x L : Nat) : Int32 := nI (lsS s x L 10) - nI (pcN (x ^^^ dn s L))
theorem row2 (V : VT) (hB : BRel V 6 (V 49)) {k : Nat} (hk : k < 10) : V (6 + 7 * 0 + 2) k = V 49 (7 + k) := (hB.2.2.2.2.2.2.2.1 k hk).symm
theorem sfor_n (V : VT) (hB : BRel V 6 (V 49)) {k : Nat} (hk : k < 10) : f_X3_signFor V 0 (nI k) = V 49 (7 + k) := by
  unfold f_X3_signFor
  rw [if_neg (nI_pos (by omega)), if_neg (nI_ge hk (by decide)), nI_clamp (by omega), row2 V hB hk]
theorem has_n (V : VT) (hB : BRel V 6 (V 49)) {k : Nat} (hk : k < 10) : f_X3_has V 0 (nI k) = if V 49 (7 + k) = -1 then 0 else 1 := by
  unfold f_X3_has
  rw [sfor_n V hB hk]
theorem marg_c (fu : Nat) (V : VT) (hB : BRel V 6 (V 49)) (hO : SOk (V 49)) {x L : Nat} (hx : x < 32768) (hL : L < 10) (hd : V 49 (7 + L) ≠ -1) : ∀ (w i : Nat), i ≤ 10 → 10 - i < w →
    p_X3_marginOf_l1 fu V 0 (nI x) (nI L) w (nI (lsS (V 49) x L i)) (nI i) ∧ f_X3_marginOf_l1 fu V 0 (nI x) (nI L) w (nI (lsS (V 49) x L i)) (nI i) = mgS (V 49) x L := by
  intro w
  induction w with
  | zero => intro i hi h; omega
  | succ w ih =>
    intro i hi h
    rw [f_X3_marginOf_l1, p_X3_marginOf_l1]
    rcases Nat.lt_or_ge i 10 with hlt | hge
    · have hc : ¬ nI 10 ≤ nI i := nI_ge hlt (by decide)
      have hv : V (6 + 7 * 0 + 2) (nI i).toNatClampNeg = V 49 (7 + i) := by rw [nI_clamp (by omega), row2 V hB hlt]
      have hin : vp_in (nI i) 10 := vp_in_nI hlt (by decide)
      have hn := ih (i + 1) (by omega) (by omega)
      have hl := lsS_le (V 49) x L i
      rw [if_neg hc, hv]
      by_cases h1 : i = L
      · have h1' : nI i = nI L := by rw [h1]
        have hs : lsS (V 49) x L (i + 1) = lsS (V 49) x L i := by rw [lsS, if_neg (fun q => q.1 h1)]
        rw [hs] at hn
        rw [if_pos h1', nI_1]
        exact ⟨⟨fun z => absurd z hc, fun _ => ⟨fun _ => hn.1, fun z => absurd h1' z⟩⟩, hn.2⟩
      · have h1' : ¬ nI i = nI L := fun z => h1 ((nI_eq (by omega) (by omega)).mp z)
        rw [if_neg h1']
        by_cases h2 : V 49 (7 + i) = -1
        · have hs : lsS (V 49) x L (i + 1) = lsS (V 49) x L i := by rw [lsS, if_neg (fun q => q.2.1 h2)]
          rw [hs] at hn
          rw [if_pos h2, nI_1]
          exact ⟨⟨fun z => absurd z hc, fun _ => ⟨fun z => absurd z h1', fun _ => ⟨hin, fun _ => hn.1, fun z => absurd h2 z⟩⟩⟩, hn.2⟩
        · obtain ⟨g1, g2⟩ := hO.dr hlt h2
          have hp := pcN_le (xor_lt hx g2)
          have hbc : f_J6_bitCount_0f7a4 V (nI x ^^^ V 49 (7 + i)) = nI (pcN (x ^^^ dn (V 49) i)) := by rw [g1, nx_xor, bc_n V (xor_lt hx g2)]
          rw [if_neg h2, hbc, nI_1]
          have hs : (if nI (pcN (x ^^^ dn (V 49) i)) < nI (lsS (V 49) x L i) then nI (pcN (x ^^^ dn (V 49) i)) else nI (lsS (V 49) x L i)) = nI (lsS (V 49) x L (i + 1)) := by
            rw [lsS]
            by_cases h3 : pcN (x ^^^ dn (V 49) i) < lsS (V 49) x L i
            · rw [if_pos (nI_lt h3 (by omega)), if_pos ⟨h1, h2, h3⟩]
            · rw [if_neg (nI_nlt (by omega) (by omega)), if_neg (fun q => h3 q.2.2)]
          rw [hs]
          exact ⟨⟨fun z => absurd z hc, fun _ => ⟨fun z => absurd z h1', fun _ => ⟨hin, fun z => absurd z h2, fun _ => ⟨hin, hn.1⟩⟩⟩⟩, hn.2⟩
    · have he2 : i = 10 := by omega
      subst he2
      have hc : nI 10 ≤ nI 10 := nI_le (Nat.le_refl _) (by decide)
      obtain ⟨g1, g2⟩ := hO.dr hL hd
      rw [if_pos hc, sfor_n V hB hL, g1, nx_xor, bc_n V (xor_lt hx g2)]
      exact ⟨⟨fun _ => trivial, fun z => absurd hc z⟩, rfl⟩
theorem margin_c (fu : Nat) (hf : 20 ≤ fu) (V : VT) (hB : BRel V 6 (V 49)) (hO : SOk (V 49)) {x L : Nat} (hx : x < 32768) (hL : L < 10) (hd : V 49 (7 + L) ≠ -1) : p_X3_marginOf fu V 0 (nI x) (nI L) ∧ f_X3_marginOf fu V 0 (nI x) (nI L) = mgS (V 49) x L := marg_c fu V hB hO hx hL hd fu 0 (by omega) (by omega)
theorem marg_m (fu : Nat) (hf : 20 ≤ fu) (V : VT) (hO : SOk (V 49)) {x L : Nat} (hx : x < 32768) (hL : L < 10) (hd : V 49 (7 + L) ≠ -1) : ∀ (w i : Nat), i ≤ 10 → 10 - i < w →
    p_X8_margin_l1 fu V (nI x) (nI L) w (nI (lsS (V 49) x L i)) (nI i) ∧ f_X8_margin_l1 fu V (nI x) (nI L) w (nI (lsS (V 49) x L i)) (nI i) = mgS (V 49) x L := by
  intro w
  induction w with
  | zero => intro i hi h; omega
  | succ w ih =>
    intro i hi h
    rw [f_X8_margin_l1, p_X8_margin_l1]
    rcases Nat.lt_or_ge i 10 with hlt | hge
    · have hc : ¬ (10 : Int32) ≤ nI i := nI_ge (b := 10) hlt (by decide)
      obtain ⟨d1, d2⟩ := drawn_n V hlt
      have hn := ih (i + 1) (by omega) (by omega)
      have hl := lsS_le (V 49) x L i
      have h15 : nI (lsS (V 49) x L i) ≤ 15 := nI_le (b := 15) hl (by decide)
      rw [if_neg hc, d2]
      by_cases h1 : i = L
      · have h1' : nI i = nI L := by rw [h1]
        have hs : lsS (V 49) x L (i + 1) = lsS (V 49) x L i := by rw [lsS, if_neg (fun q => q.1 h1)]
        rw [hs] at hn
        rw [if_pos h1', if_pos h15, nI_1]
        exact ⟨⟨fun z => absurd z hc, fun _ => ⟨fun _ => ⟨fun _ => hn.1, fun z => absurd h15 z⟩, fun z => absurd h1' z⟩⟩, hn.2⟩
      · have h1' : ¬ nI i = nI L := fun z => h1 ((nI_eq (by omega) (by omega)).mp z)
        rw [if_neg h1']
        by_cases h2 : V 49 (7 + i) = -1
        · have hs : lsS (V 49) x L (i + 1) = lsS (V 49) x L i := by rw [lsS, if_neg (fun q => q.2.1 h2)]
          rw [hs] at hn
          have h2' : ¬ (0 : Int32) ≤ V 49 (7 + i) := by rw [h2]; decide
          rw [if_neg h2', if_pos h15, nI_1]
          exact ⟨⟨fun z => absurd z hc, fun _ => ⟨fun z => absurd z h1', fun _ => ⟨d1, fun z => absurd z h2', fun _ => ⟨fun _ => hn.1, fun z => absurd h15 z⟩⟩⟩⟩, hn.2⟩
        · obtain ⟨g1, g2⟩ := hO.dr hlt h2
          have hp := pcN_le (xor_lt hx g2)
          have h2' : (0 : Int32) ≤ V 49 (7 + i) := by rw [g1]; exact nI_nn (by omega)
          have hdk := dark_n fu (by omega) V (xor_lt hx g2)
          have hbc : V 49 (7 + i) ^^^ nI x = nI (x ^^^ dn (V 49) i) := by rw [g1, nx_xor, Nat.xor_comm]
          rw [if_pos h2', hbc, hdk.2]
          by_cases h3 : lsS (V 49) x L i ≤ pcN (x ^^^ dn (V 49) i)
          · have h3' : nI (lsS (V 49) x L i) ≤ nI (pcN (x ^^^ dn (V 49) i)) := nI_le h3 (by omega)
            have hs : lsS (V 49) x L (i + 1) = lsS (V 49) x L i := by rw [lsS, if_neg (fun q => by have := q.2.2; omega)]
            rw [hs] at hn
            rw [if_pos h3', nI_1]
            exact ⟨⟨fun z => absurd z hc, fun _ => ⟨fun z => absurd z h1', fun _ => ⟨d1, fun _ => ⟨d1, hdk.1, fun _ => hn.1, fun z => absurd h3' z⟩, fun z => absurd h2' z⟩⟩⟩, hn.2⟩
          · have h3' : ¬ nI (lsS (V 49) x L i) ≤ nI (pcN (x ^^^ dn (V 49) i)) := nI_ge (by omega) (by omega)
            have hs : lsS (V 49) x L (i + 1) = pcN (x ^^^ dn (V 49) i) := by rw [lsS, if_pos ⟨h1, h2, by omega⟩]
            rw [hs] at hn
            rw [if_neg h3', nI_1]
            exact ⟨⟨fun z => absurd z hc, fun _ => ⟨fun z => absurd z h1', fun _ => ⟨d1, fun _ => ⟨d1, hdk.1, fun z => absurd z h3', fun _ => hn.1⟩, fun z => absurd h2' z⟩⟩⟩, hn.2⟩
    · have he2 : i = 10 := by omega
      subst he2
      have hc : (10 : Int32) ≤ nI 10 := by decide
      obtain ⟨g1, g2⟩ := hO.dr hL hd
      obtain ⟨d1, d2⟩ := drawn_n V hL
      have hdk := dark_n fu (by omega) V (xor_lt hx g2)
      have hbc : V 49 (7 + L) ^^^ nI x = nI (x ^^^ dn (V 49) L) := by rw [g1, nx_xor, Nat.xor_comm]
      rw [if_pos hc, d2, hbc, hdk.2]
      exact ⟨⟨fun _ => ⟨d1, hdk.1⟩, fun z => absurd hc z⟩, rfl⟩
theorem margin_m (fu : Nat) (hf : 20 ≤ fu) (V : VT) (hO : SOk (V 49)) {x L : Nat} (hx : x < 32768) (hL : L < 10) (hd : V 49 (7 + L) ≠ -1) : p_X8_margin fu V (nI x) (nI L) ∧ f_X8_margin fu V (nI x) (nI L) = mgS (V 49) x L := marg_m fu hf V hO hx hL hd fu 0 (by omega) (by omega)
/-- the other letter that is nearest -/
theorem othr_m (fu : Nat) (hf : 20 ≤ fu) (V : VT) (hO : SOk (V 49)) {L : Nat} (hL : L < 10) (hd : V 49 (7 + L) ≠ -1) : ∀ (w i : Nat), i ≤ 10 → 10 - i < w →
    p_X8_nearest_l1 fu V (nI L) w (nrS (V 49) (dn (V 49) L) L i).1 (nI (nrS (V 49) (dn (V 49) L) L i).2) (nI i) ∧ f_X8_nearest_l1 fu V (nI L) w (nrS (V 49) (dn (V 49) L) L i).1 (nI (nrS (V 49) (dn (V 49) L) L i).2) (nI i) = (nrS (V 49) (dn (V 49) L) L 10).1 := by
  obtain ⟨gL1, gL2⟩ := hO.dr hL hd
  obtain ⟨dL1, dL2⟩ := drawn_n V hL
  intro w
  induction w with
  | zero => intro i hi h; omega
  | succ w ih =>
    intro i hi h
    rw [f_X8_nearest_l1, p_X8_nearest_l1]
    rcases Nat.lt_or_ge i 10 with hlt | hge
    · have hc : ¬ (10 : Int32) ≤ nI i := nI_ge (b := 10) hlt (by decide)
      obtain ⟨d1, d2⟩ := drawn_n V hlt
      have hn := ih (i + 1) (by omega) (by omega)
      have hl := nrS_le (V 49) (dn (V 49) L) L i
      have h16 : nI (nrS (V 49) (dn (V 49) L) L i).2 ≤ 16 := nI_le (b := 16) hl (by decide)
      rw [if_neg hc, d2, dL2]
      by_cases h1 : i = L
      · have h1' : nI i = nI L := by rw [h1]
        have hs : nrS (V 49) (dn (V 49) L) L (i + 1) = nrS (V 49) (dn (V 49) L) L i := by rw [nrS, if_neg (fun q => q.1 h1)]
        rw [hs] at hn
        rw [if_pos h1', if_pos h16, nI_1]
        exact ⟨⟨fun z => absurd z hc, fun _ => ⟨fun _ => ⟨fun _ => hn.1, fun z => absurd h16 z⟩, fun z => absurd h1' z⟩⟩, hn.2⟩
      · have h1' : ¬ nI i = nI L := fun z => h1 ((nI_eq (by omega) (by omega)).mp z)
        rw [if_neg h1']
        by_cases h2 : V 49 (7 + i) = -1
        · have hs : nrS (V 49) (dn (V 49) L) L (i + 1) = nrS (V 49) (dn (V 49) L) L i := by rw [nrS, if_neg (fun q => q.2.1 h2)]
          rw [hs] at hn
          have h2' : ¬ (0 : Int32) ≤ V 49 (7 + i) := by rw [h2]; decide
          rw [if_neg h2', if_pos h16, nI_1]
          exact ⟨⟨fun z => absurd z hc, fun _ => ⟨fun z => absurd z h1', fun _ => ⟨d1, fun z => absurd z h2', fun _ => ⟨fun _ => hn.1, fun z => absurd h16 z⟩⟩⟩⟩, hn.2⟩
        · obtain ⟨g1, g2⟩ := hO.dr hlt h2
          have hp := pcN_le (xor_lt gL2 g2)
          have h2' : (0 : Int32) ≤ V 49 (7 + i) := by rw [g1]; exact nI_nn (by omega)
          have hdk := dark_n fu (by omega) V (xor_lt gL2 g2)
          have hbc : V 49 (7 + i) ^^^ V 49 (7 + L) = nI (dn (V 49) L ^^^ dn (V 49) i) := by rw [g1, gL1, nx_xor, Nat.xor_comm]
          rw [if_pos h2', hbc, hdk.2]
          by_cases h3 : (nrS (V 49) (dn (V 49) L) L i).2 ≤ pcN (dn (V 49) L ^^^ dn (V 49) i)
          · have h3' : nI (nrS (V 49) (dn (V 49) L) L i).2 ≤ nI (pcN (dn (V 49) L ^^^ dn (V 49) i)) := nI_le h3 (by omega)
            have hs : nrS (V 49) (dn (V 49) L) L (i + 1) = nrS (V 49) (dn (V 49) L) L i := by rw [nrS, if_neg (fun q => by have := q.2.2; omega)]
            rw [hs] at hn
            rw [if_pos h3', nI_1]
            exact ⟨⟨fun z => absurd z hc, fun _ => ⟨fun z => absurd z h1', fun _ => ⟨d1, fun _ => ⟨d1, dL1, hdk.1, fun _ => hn.1, fun z => absurd h3' z⟩, fun z => absurd h2' z⟩⟩⟩, hn.2⟩
          · have h3' : ¬ nI (nrS (V 49) (dn (V 49) L) L i).2 ≤ nI (pcN (dn (V 49) L ^^^ dn (V 49) i)) := nI_ge (by omega) (by omega)
            have hs : nrS (V 49) (dn (V 49) L) L (i + 1) = (nI i, pcN (dn (V 49) L ^^^ dn (V 49) i)) := by rw [nrS, if_pos ⟨h1, h2, by omega⟩]
            rw [hs] at hn
            rw [if_neg h3', nI_1]
            exact ⟨⟨fun z => absurd z hc, fun _ => ⟨fun z => absurd z h1', fun _ => ⟨d1, fun _ => ⟨d1, dL1, hdk.1, fun z => absurd z h3', fun _ => hn.1⟩, fun z => absurd h2' z⟩⟩⟩, hn.2⟩
    · have he2 : i = 10 := by omega
      subst he2
      have hc : (10 : Int32) ≤ nI 10 := by decide
      rw [if_pos hc]
      exact ⟨⟨fun _ => trivial, fun z => absurd hc z⟩, rfl⟩
theorem other_m (fu : Nat) (hf : 20 ≤ fu) (V : VT) (hO : SOk (V 49)) {L : Nat} (hL : L < 10) (hd : V 49 (7 + L) ≠ -1) : p_X8_nearest fu V (nI L) ∧ f_X8_nearest fu V (nI L) = (nrS (V 49) (dn (V 49) L) L 10).1 := othr_m fu hf V hO hL hd fu 0 (by omega) (by omega)
/-- the loop's answer is a drawn letter or none -/
theorem nrS_ok (s : Nat → Int32) (x e : Nat) : ∀ i, i ≤ 10 → ((nrS s x e i).1 = -1 ∧ (nrS s x e i).2 = 16 ∧ ∀ k, k < i → k ≠ e → s (7 + k) ≠ -1 → 16 ≤ pcN (x ^^^ dn s k)) ∨ ∃ k, k < i ∧ k ≠ e ∧ s (7 + k) ≠ -1 ∧ (nrS s x e i).1 = nI k ∧ (nrS s x e i).2 = pcN (x ^^^ dn s k) ∧ (∀ k', k' < i → k' ≠ e → s (7 + k') ≠ -1 → pcN (x ^^^ dn s k) ≤ pcN (x ^^^ dn s k')) ∧ ∀ k', k' < k → k' ≠ e → s (7 + k') ≠ -1 → pcN (x ^^^ dn s k) < pcN (x ^^^ dn s k') := by
  intro i
  induction i with
  | zero => intro _; exact Or.inl ⟨rfl, rfl, fun k hk => absurd hk (Nat.not_lt_zero _)⟩
  | succ i ih =>
    intro hi
    have h := ih (by omega)
    rw [nrS]
    by_cases c : i ≠ e ∧ s (7 + i) ≠ -1 ∧ pcN (x ^^^ dn s i) < (nrS s x e i).2
    · rw [if_pos c]
      refine Or.inr ⟨i, by omega, c.1, c.2.1, rfl, rfl, fun k' h1 h2 h3 => ?_, fun k' h1 h2 h3 => ?_⟩
      · rcases Nat.lt_or_ge k' i with q | q
        · rcases h with ⟨-, e2, e3⟩ | ⟨k, a1, a2, a3, a4, a5, a6, a7⟩
          · have := e3 k' q h2 h3
            have := c.2.2
            omega
          · have := a6 k' q h2 h3
            have := c.2.2
            omega
        · have : k' = i := by omega
          subst this
          exact Nat.le_refl _
      · rcases h with ⟨-, e2, e3⟩ | ⟨k, a1, a2, a3, a4, a5, a6, a7⟩
        · have := e3 k' h1 h2 h3
          have := c.2.2
          omega
        · have := a6 k' h1 h2 h3
          have := c.2.2
          omega
    · rw [if_neg c]
      have hi2 : i ≠ e → s (7 + i) ≠ -1 → (nrS s x e i).2 ≤ pcN (x ^^^ dn s i) := fun h1 h2 => by
        rcases Nat.lt_or_ge (pcN (x ^^^ dn s i)) (nrS s x e i).2 with q | q
        · exact absurd ⟨h1, h2, q⟩ c
        · exact q
      rcases h with ⟨e1, e2, e3⟩ | ⟨k, a1, a2, a3, a4, a5, a6, a7⟩
      · refine Or.inl ⟨e1, e2, fun k h1 h2 h3 => ?_⟩
        rcases Nat.lt_or_ge k i with q | q
        · exact e3 k q h2 h3
        · have : k = i := by omega
          subst this
          have := hi2 h2 h3
          omega
      · refine Or.inr ⟨k, by omega, a2, a3, a4, a5, fun k' h1 h2 h3 => ?_, a7⟩
        rcases Nat.lt_or_ge k' i with q | q
        · exact a6 k' q h2 h3
        · have : k' = i := by omega
          subst this
          have := hi2 h2 h3
          omega
