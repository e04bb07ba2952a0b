/-! letters: read as, margins: the loops of both sides -/
/-- the sign of a letter, as a number -/
def dn (s : Nat → Int32) (k : Nat) : Nat := (s (7 + k)).toNatClampNeg
theorem SOk.dr {s : Nat → Int32} (h : SOk s) {k : Nat} (hk : k < 10) (hd : s (7 + k) ≠ -1) : s (7 + k) = nI (dn s k) ∧ dn s k < 32768 := by
  rcases h.2.2.2.2.2.2.1 k hk with h1 | ⟨x, hx, h1⟩
  · exact absurd h1 hd
  · unfold dn
    rw [h1, nI_clamp (by omega)]
    exact ⟨rfl, hx⟩
/-- the nearest of the first i letters but e, and its distance -/
def nrS (s : Nat → Int32) (x e : Nat) : Nat → Int32 × Nat
  | 0 => (-1, 16)
  | i + 1 => if i ≠ e ∧ s (7 + i) ≠ -1 ∧ pcN (x ^^^ dn s i) < (nrS s x e i).2 then (nI i, pcN (x ^^^ dn s i)) else nrS s x e i
theorem nrS_le (s : Nat → Int32) (x e : Nat) : ∀ i, (nrS s x e i).2 ≤ 16
  | 0 => Nat.le_refl _
  | i + 1 => by
    have h := nrS_le s x e i
    rw [nrS]
    split
    · rename_i q
      have := q.2.2
      dsimp only
      omega
    · exact h
/-- the least distance of the first i letters but L (at most 15) -/
def lsS (s : Nat → Int32) (x L : Nat) : Nat → Nat
  | 0 => 15
  | i + 1 => if i ≠ L ∧ s (7 + i) ≠ -1 ∧ pcN (x ^^^ dn s i) < lsS s x L i then pcN (x ^^^ dn s i) else lsS s x L i
theorem lsS_le (s : Nat → Int32) (x L : Nat) : ∀ i, lsS s x L i ≤ 15
  | 0 => Nat.le_refl _
  | i + 1 => by
    have h := lsS_le s x L i
    rw [lsS]
    split
    · rename_i q
      have := q.2.2
      omega
    · exact h
theorem nI_neg1 {n : Nat} (h : n < 2 ^ 31) : nI n ≠ -1 := fun e => by
  have h1 := nI_pos h
  rw [e] at h1
  exact h1 (by decide)
theorem nI_nn {n : Nat} (h : n < 2 ^ 31) : (0 : Int32) ≤ nI n := nI_pos' h
theorem near_c (fu : Nat) (V : VT) (hB : BRel V 6 (V 49)) (hO : SOk (V 49)) {x : Nat} (hx : x < 32768) (ex : Int32) (e : Nat) (he : ∀ i, i < 10 → (nI i = ex ↔ i = e)) : ∀ (w i : Nat), i ≤ 10 → 10 - i < w →
    p_X3_nearest_l1 fu V 0 (nI x) ex w (nrS (V 49) x e i).1 (nI (nrS (V 49) x e i).2) (nI i) ∧ f_X3_nearest_l1 fu V 0 (nI x) ex w (nrS (V 49) x e i).1 (nI (nrS (V 49) x e i).2) (nI i) = (nrS (V 49) x e 10).1 := by
  intro w
  induction w with
  | zero => intro i hi h; omega
  | succ w ih =>
    intro i hi h
    rw [f_X3_nearest_l1, p_X3_nearest_l1]
    rcases Nat.lt_or_ge i 10 with hlt | hge
    · have hc : ¬ nI 10 ≤ nI i := nI_ge hlt (by decide)
      have hd : V (6 + 7 * 0 + 2) (nI i).toNatClampNeg = V 49 (7 + i) := by
        rw [nI_clamp (by omega)]
        exact (hB.2.2.2.2.2.2.2.1 i hlt).symm
      have hin : vp_in (nI i) 10 := vp_in_nI hlt (by decide)
      have hn := ih (i + 1) (by omega) (by omega)
      rw [if_neg hc, hd]
      by_cases h1 : i = e
      · have h1' := (he i hlt).mpr h1
        have hs : nrS (V 49) x e (i + 1) = nrS (V 49) x e i := by rw [nrS, if_neg (fun q => q.1 h1)]
        rw [hs] at hn
        rw [if_pos h1', nI_1]
        exact ⟨⟨fun z => absurd z hc, fun _ => ⟨hin, fun _ => hn.1, fun z => absurd h1' z⟩⟩, hn.2⟩
      · have h1' : ¬ nI i = ex := fun z => h1 ((he i hlt).mp z)
        rw [if_neg h1']
        by_cases h2 : V 49 (7 + i) = -1
        · have hs : nrS (V 49) x e (i + 1) = nrS (V 49) x e i := by rw [nrS, if_neg (fun q => q.2.1 h2)]
          rw [hs] at hn
          rw [if_pos h2, nI_1]
          exact ⟨⟨fun z => absurd z hc, fun _ => ⟨hin, fun z => absurd z h1', fun _ => ⟨hin, fun _ => hn.1, fun z => absurd h2 z⟩⟩⟩, hn.2⟩
        · obtain ⟨g1, g2⟩ := hO.dr hlt h2
          have hl := nrS_le (V 49) x e i
          have hp := pcN_le (xor_lt hx g2)
          rw [if_neg h2]
          have hbc : f_J6_bitCount_0f7a4 V (nI x ^^^ V 49 (7 + i)) = nI (pcN (x ^^^ dn (V 49) i)) := by rw [g1, nx_xor, bc_n V (xor_lt hx g2)]
          rw [hbc]
          by_cases h3 : (nrS (V 49) x e i).2 ≤ pcN (x ^^^ dn (V 49) i)
          · have h3' : nI (nrS (V 49) x e i).2 ≤ nI (pcN (x ^^^ dn (V 49) i)) := nI_le h3 (by omega)
            have hs : nrS (V 49) x e (i + 1) = nrS (V 49) x e i := by rw [nrS, if_neg (fun q => by have := q.2.2; omega)]
            rw [hs] at hn
            rw [if_pos h3', nI_1]
            exact ⟨⟨fun z => absurd z hc, fun _ => ⟨hin, fun z => absurd z h1', fun _ => ⟨hin, fun z => absurd z h2, fun _ => ⟨fun _ => hn.1, fun z => absurd h3' z⟩⟩⟩⟩, hn.2⟩
          · have h3' : ¬ nI (nrS (V 49) x e i).2 ≤ nI (pcN (x ^^^ dn (V 49) i)) := nI_ge (by omega) (by omega)
            have hs : nrS (V 49) x e (i + 1) = (nI i, pcN (x ^^^ dn (V 49) i)) := by rw [nrS, if_pos ⟨h1, h2, by omega⟩]
            rw [hs] at hn
            rw [if_neg h3', nI_1]
            exact ⟨⟨fun z => absurd z hc, fun _ => ⟨hin, fun z => absurd z h1', fun _ => ⟨hin, fun z => absurd z h2, fun _ => ⟨fun z => absurd z h3', fun _ => hn.1⟩⟩⟩⟩, hn.2⟩
    · have he2 : i = 10 := by omega
      subst he2
      have hc : nI 10 ≤ nI 10 := nI_le (Nat.le_refl _) (by decide)
      rw [if_pos hc]
      exact ⟨⟨fun _ => trivial, fun z => absurd hc z⟩, rfl⟩
theorem near_n (fu : Nat) (hf : 20 ≤ fu) (V : VT) (hB : BRel V 6 (V 49)) (hO : SOk (V 49)) {x : Nat} (hx : x < 32768) : p_X3_nearest fu V 0 (nI x) (-1) ∧ f_X3_nearest fu V 0 (nI x) (-1) = (nrS (V 49) x 10 10).1 :=
  near_c fu V hB hO hx (-1) 10 (fun i hi => ⟨fun z => absurd z (nI_neg1 (by omega)), fun z => by omega⟩) fu 0 (by omega) (by omega)
theorem near_e (fu : Nat) (hf : 20 ≤ fu) (V : VT) (hB : BRel V 6 (V 49)) (hO : SOk (V 49)) {x L : Nat} (hx : x < 32768) (hL : L < 10) : p_X3_nearest fu V 0 (nI x) (nI L) ∧ f_X3_nearest fu V 0 (nI x) (nI L) = (nrS (V 49) x L 10).1 :=
  near_c fu V hB hO hx (nI L) L (fun i hi => nI_eq (by omega) (by omega)) fu 0 (by omega) (by omega)
theorem drawn_n (V : VT) {k : Nat} (hk : k < 10) : p_X8_drawn V (nI k) ∧ f_X8_drawn V (nI k) = V 49 (7 + k) := by
  unfold p_X8_drawn f_X8_drawn
  rw [show (7 : Int32) = nI 7 from rfl, nI_add, nI_clamp (by omega)]
  exact ⟨vp_in_nI (by omega) (by decide), rfl⟩
theorem near_m (fu : Nat) (hf : 20 ≤ fu) (V : VT) (hO : SOk (V 49)) {x : Nat} (hx : x < 32768) : ∀ (w i : Nat), i ≤ 10 → 10 - i < w →
    p_X8_readAs_l1 fu V (nI x) w (nrS (V 49) x 10 i).1 (nI (nrS (V 49) x 10 i).2) (nI i) ∧ f_X8_readAs_l1 fu V (nI x) w (nrS (V 49) x 10 i).1 (nI (nrS (V 49) x 10 i).2) (nI i) = (nrS (V 49) x 10 10).1 := by
  intro w
  induction w with
  | zero => intro i hi h; omega
  | succ w ih =>
    intro i hi h
    rw [f_X8_readAs_l1, p_X8_readAs_l1]
    rcases Nat.lt_or_ge i 10 with hlt | hge
    · have hc : ¬ (10 : Int32) ≤ nI i := nI_ge (b := 10) hlt (by decide)
      obtain ⟨d1, d2⟩ := drawn_n V hlt
      have hn := ih (i + 1) (by omega) (by omega)
      have hl := nrS_le (V 49) x 10 i
      rw [if_neg hc, d2]
      by_cases h2 : V 49 (7 + i) = -1
      · have hs : nrS (V 49) x 10 (i + 1) = nrS (V 49) x 10 i := by rw [nrS, if_neg (fun q => q.2.1 h2)]
        rw [hs] at hn
        have h2' : ¬ (0 : Int32) ≤ V 49 (7 + i) := by rw [h2]; decide
        have h3' : nI (nrS (V 49) x 10 i).2 ≤ 16 := nI_le (b := 16) hl (by decide)
        rw [if_neg h2', if_pos h3', nI_1]
        exact ⟨⟨fun z => absurd z hc, fun _ => ⟨d1, fun z => absurd z h2', fun _ => ⟨fun _ => hn.1, fun z => absurd h3' z⟩⟩⟩, hn.2⟩
      · obtain ⟨g1, g2⟩ := hO.dr hlt h2
        have hp := pcN_le (xor_lt hx g2)
        have h2' : (0 : Int32) ≤ V 49 (7 + i) := by rw [g1]; exact nI_nn (by omega)
        have hdk := dark_n fu (by omega) V (xor_lt hx g2)
        have hbc : V 49 (7 + i) ^^^ nI x = nI (x ^^^ dn (V 49) i) := by rw [g1, nx_xor, Nat.xor_comm]
        rw [if_pos h2', hbc, hdk.2]
        by_cases h3 : (nrS (V 49) x 10 i).2 ≤ pcN (x ^^^ dn (V 49) i)
        · have h3' : nI (nrS (V 49) x 10 i).2 ≤ nI (pcN (x ^^^ dn (V 49) i)) := nI_le h3 (by omega)
          have hs : nrS (V 49) x 10 (i + 1) = nrS (V 49) x 10 i := by rw [nrS, if_neg (fun q => by have := q.2.2; omega)]
          rw [hs] at hn
          rw [if_pos h3', nI_1]
          exact ⟨⟨fun z => absurd z hc, fun _ => ⟨d1, fun _ => ⟨d1, hdk.1, fun _ => hn.1, fun z => absurd h3' z⟩, fun z => absurd h2' z⟩⟩, hn.2⟩
        · have h3' : ¬ nI (nrS (V 49) x 10 i).2 ≤ nI (pcN (x ^^^ dn (V 49) i)) := nI_ge (by omega) (by omega)
          have hs : nrS (V 49) x 10 (i + 1) = (nI i, pcN (x ^^^ dn (V 49) i)) := by rw [nrS, if_pos ⟨by omega, h2, by omega⟩]
          rw [hs] at hn
          rw [if_neg h3', nI_1]
          exact ⟨⟨fun z => absurd z hc, fun _ => ⟨d1, fun _ => ⟨d1, hdk.1, fun z => absurd z h3', fun _ => hn.1⟩, fun z => absurd h2' z⟩⟩, hn.2⟩
    · have he2 : i = 10 := by omega
      subst he2
      have hc : (10 : Int32) ≤ nI 10 := by decide
      rw [if_pos hc]
      exact ⟨⟨fun _ => trivial, fun z => absurd hc z⟩, rfl⟩
theorem read_n (fu : Nat) (hf : 20 ≤ fu) (V : VT) (hO : SOk (V 49)) {x : Nat} (hx : x < 32768) : p_X8_readAs fu V (nI x) ∧ f_X8_readAs fu V (nI x) = (nrS (V 49) x 10 10).1 := near_m fu hf V hO hx fu 0 (by omega) (by omega)
