/-! the class's composer, over any numbers s that its board holds -/
theorem near_cs {s : Nat → Int32} (fu : Nat) (V : VT) (hB : BRel V 6 s) (hO : SOk s) {x : Nat} (hx : x < 32768) (ex : Int32) (e : Nat) (he : ∀ i, i < 10 → (nI i = ex ↔ i = e)) : ∀ (w i : Nat), i ≤ 10 → 10 - i < w →
    p_X3_nearest_l1 fu V 0 (nI x) ex w (nrS s x e i).1 (nI (nrS s x e i).2) (nI i) ∧ f_X3_nearest_l1 fu V 0 (nI x) ex w (nrS s x e i).1 (nI (nrS s x e i).2) (nI i) = (nrS s x e 10).1 := by
  intro w
  induction w with
  | zero => intro i hi h; omega
  | succ w ih =>
    intro i hi h
    rw [f_X3_nearest_l1, p_X3_nearest_l1]
    rcases Nat.lt_or_ge i 10 with hlt | hge
    · have hc : ¬ nI 10 ≤ nI i := nI_ge hlt (by decide)
      have hd : V (6 + 7 * 0 + 2) (nI i).toNatClampNeg = s (7 + i) := by
        rw [nI_clamp (by omega)]
        exact (hB.2.2.2.2.2.2.2.1 i hlt).symm
      have hin : vp_in (nI i) 10 := vp_in_nI hlt (by decide)
      have hn := ih (i + 1) (by omega) (by omega)
      rw [if_neg hc, hd]
      by_cases h1 : i = e
      · have h1' := (he i hlt).mpr h1
        have hs : nrS s x e (i + 1) = nrS s x e i := by rw [nrS, if_neg (fun q => q.1 h1)]
        rw [hs] at hn
        rw [if_pos h1', nI_1]
        exact ⟨⟨fun z => absurd z hc, fun _ => ⟨hin, fun _ => hn.1, fun z => absurd h1' z⟩⟩, hn.2⟩
      · have h1' : ¬ nI i = ex := fun z => h1 ((he i hlt).mp z)
        rw [if_neg h1']
        by_cases h2 : s (7 + i) = -1
        · have hs : nrS s x e (i + 1) = nrS s x e i := by rw [nrS, if_neg (fun q => q.2.1 h2)]
          rw [hs] at hn
          rw [if_pos h2, nI_1]
          exact ⟨⟨fun z => absurd z hc, fun _ => ⟨hin, fun z => absurd z h1', fun _ => ⟨hin, fun _ => hn.1, fun z => absurd h2 z⟩⟩⟩, hn.2⟩
        · obtain ⟨g1, g2⟩ := hO.dr hlt h2
          have hl := nrS_le s x e i
          have hp := pcN_le (xor_lt hx g2)
          rw [if_neg h2]
          have hbc : f_J6_bitCount_0f7a4 V (nI x ^^^ s (7 + i)) = nI (pcN (x ^^^ dn s i)) := by rw [g1, nx_xor, bc_n V (xor_lt hx g2)]
          rw [hbc]
          by_cases h3 : (nrS s x e i).2 ≤ pcN (x ^^^ dn s i)
          · have h3' : nI (nrS s x e i).2 ≤ nI (pcN (x ^^^ dn s i)) := nI_le h3 (by omega)
            have hs : nrS s x e (i + 1) = nrS s x e i := by rw [nrS, if_neg (fun q => by have := q.2.2; omega)]
            rw [hs] at hn
            rw [if_pos h3', nI_1]
            exact ⟨⟨fun z => absurd z hc, fun _ => ⟨hin, fun z => absurd z h1', fun _ => ⟨hin, fun z => absurd z h2, fun _ => ⟨fun _ => hn.1, fun z => absurd h3' z⟩⟩⟩⟩, hn.2⟩
          · have h3' : ¬ nI (nrS s x e i).2 ≤ nI (pcN (x ^^^ dn s i)) := nI_ge (by omega) (by omega)
            have hs : nrS s x e (i + 1) = (nI i, pcN (x ^^^ dn s i)) := by rw [nrS, if_pos ⟨h1, h2, by omega⟩]
            rw [hs] at hn
            rw [if_neg h3', nI_1]
            exact ⟨⟨fun z => absurd z hc, fun _ => ⟨hin, fun z => absurd z h1', fun _ => ⟨hin, fun z => absurd z h2, fun _ => ⟨fun z => absurd z h3', fun _ => hn.1⟩⟩⟩⟩, hn.2⟩
    · have he2 : i = 10 := by omega
      subst he2
      have hc : nI 10 ≤ nI 10 := nI_le (Nat.le_refl _) (by decide)
      rw [if_pos hc]
      exact ⟨⟨fun _ => trivial, fun z => absurd hc z⟩, rfl⟩
theorem near_ns {s : Nat → Int32} (fu : Nat) (hf : 20 ≤ fu) (V : VT) (hB : BRel V 6 s) (hO : SOk s) {x : Nat} (hx : x < 32768) : p_X3_nearest fu V 0 (nI x) (-1) ∧ f_X3_nearest fu V 0 (nI x) (-1) = (nrS s x 10 10).1 :=
  near_cs fu V hB hO hx (-1) 10 (fun i hi => ⟨fun z => absurd z (nI_neg1 (by omega)), fun z => by omega⟩) fu 0 (by omega) (by omega)
theorem row2s {s : Nat → Int32} (V : VT) (hB : BRel V 6 s) {k : Nat} (hk : k < 10) : V (6 + 7 * 0 + 2) k = s (7 + k) := (hB.2.2.2.2.2.2.2.1 k hk).symm
theorem sfor_ns {s : Nat → Int32} (V : VT) (hB : BRel V 6 s) {k : Nat} (hk : k < 10) : f_X3_signFor V 0 (nI k) = s (7 + k) := by
  unfold f_X3_signFor
  rw [if_neg (nI_pos (by omega)), if_neg (nI_ge hk (by decide)), nI_clamp (by omega), row2s V hB hk]
theorem has_ns {s : Nat → Int32} (V : VT) (hB : BRel V 6 s) {k : Nat} (hk : k < 10) : f_X3_has V 0 (nI k) = if s (7 + k) = -1 then 0 else 1 := by
  unfold f_X3_has
  rw [sfor_ns V hB hk]
theorem marg_cs {s : Nat → Int32} (fu : Nat) (V : VT) (hB : BRel V 6 s) (hO : SOk s) {x L : Nat} (hx : x < 32768) (hL : L < 10) (hd : s (7 + L) ≠ -1) : ∀ (w i : Nat), i ≤ 10 → 10 - i < w →
    p_X3_marginOf_l1 fu V 0 (nI x) (nI L) w (nI (lsS s x L i)) (nI i) ∧ f_X3_marginOf_l1 fu V 0 (nI x) (nI L) w (nI (lsS s x L i)) (nI i) = mgS s x L := by
  intro w
  induction w with
  | zero => intro i hi h; omega
  | succ w ih =>
    intro i hi h
    rw [f_X3_marginOf_l1, p_X3_marginOf_l1]
    rcases Nat.lt_or_ge i 10 with hlt | hge
    · have hc : ¬ nI 10 ≤ nI i := nI_ge hlt (by decide)
      have hv : V (6 + 7 * 0 + 2) (nI i).toNatClampNeg = s (7 + i) := by rw [nI_clamp (by omega), row2s V hB hlt]
      have hin : vp_in (nI i) 10 := vp_in_nI hlt (by decide)
      have hn := ih (i + 1) (by omega) (by omega)
      have hl := lsS_le s x L i
      rw [if_neg hc, hv]
      by_cases h1 : i = L
      · have h1' : nI i = nI L := by rw [h1]
        have hs : lsS s x L (i + 1) = lsS s x L i := by rw [lsS, if_neg (fun q => q.1 h1)]
        rw [hs] at hn
        rw [if_pos h1', nI_1]
        exact ⟨⟨fun z => absurd z hc, fun _ => ⟨fun _ => hn.1, fun z => absurd h1' z⟩⟩, hn.2⟩
      · have h1' : ¬ nI i = nI L := fun z => h1 ((nI_eq (by omega) (by omega)).mp z)
        rw [if_neg h1']
        by_cases h2 : s (7 + i) = -1
        · have hs : lsS s x L (i + 1) = lsS s x L i := by rw [lsS, if_neg (fun q => q.2.1 h2)]
          rw [hs] at hn
          rw [if_pos h2, nI_1]
          exact ⟨⟨fun z => absurd z hc, fun _ => ⟨fun z => absurd z h1', fun _ => ⟨hin, fun _ => hn.1, fun z => absurd h2 z⟩⟩⟩, hn.2⟩
        · obtain ⟨g1, g2⟩ := hO.dr hlt h2
          have hp := pcN_le (xor_lt hx g2)
          have hbc : f_J6_bitCount_0f7a4 V (nI x ^^^ s (7 + i)) = nI (pcN (x ^^^ dn s i)) := by rw [g1, nx_xor, bc_n V (xor_lt hx g2)]
          rw [if_neg h2, hbc, nI_1]
          have hs : (if nI (pcN (x ^^^ dn s i)) < nI (lsS s x L i) then nI (pcN (x ^^^ dn s i)) else nI (lsS s x L i)) = nI (lsS s x L (i + 1)) := by
            rw [lsS]
            by_cases h3 : pcN (x ^^^ dn s i) < lsS s x L i
            · rw [if_pos (nI_lt h3 (by omega)), if_pos ⟨h1, h2, h3⟩]
            · rw [if_neg (nI_nlt (by omega) (by omega)), if_neg (fun q => h3 q.2.2)]
          rw [hs]
          exact ⟨⟨fun z => absurd z hc, fun _ => ⟨fun z => absurd z h1', fun _ => ⟨hin, fun z => absurd z h2, fun _ => ⟨hin, hn.1⟩⟩⟩⟩, hn.2⟩
    · have he2 : i = 10 := by omega
      subst he2
      have hc : nI 10 ≤ nI 10 := nI_le (Nat.le_refl _) (by decide)
      obtain ⟨g1, g2⟩ := hO.dr hL hd
      rw [if_pos hc, sfor_ns V hB hL, g1, nx_xor, bc_n V (xor_lt hx g2)]
      exact ⟨⟨fun _ => trivial, fun z => absurd hc z⟩, rfl⟩
theorem margin_cs {s : Nat → Int32} (fu : Nat) (hf : 20 ≤ fu) (V : VT) (hB : BRel V 6 s) (hO : SOk s) {x L : Nat} (hx : x < 32768) (hL : L < 10) (hd : s (7 + L) ≠ -1) : p_X3_marginOf fu V 0 (nI x) (nI L) ∧ f_X3_marginOf fu V 0 (nI x) (nI L) = mgS s x L := marg_cs fu V hB hO hx hL hd fu 0 (by omega) (by omega)
theorem lead_ns {s : Nat → Int32} (fu : Nat) (hf : 20 ≤ fu) (V : VT) (hB : BRel V 6 s) (hO : SOk s) {x L : Nat} (hx : x < 32768) (hL : L < 10) (hd : s (7 + L) ≠ -1) : p_X3_leadOf fu V 0 (nI x) (nI L) ∧ f_X3_leadOf fu V 0 (nI x) (nI L) = lI (ldS s x L) := by
  obtain ⟨m1, m2⟩ := margin_cs fu hf V hB hO hx hL hd
  obtain ⟨n1, n2⟩ := near_ns fu hf V hB hO hx
  have hls := lsS_le s x L 10
  have hpc := pcN_le (xor_lt hx (hO.dr hL hd).2)
  unfold p_X3_leadOf f_X3_leadOf
  rw [m2, n2]
  unfold mgS
  rcases Nat.lt_trichotomy (pcN (x ^^^ dn s L)) (lsS s x L 10) with w | w | w
  · have g := (nr_iff hO hx hL).mpr (ls_nr hd w hL)
    have e : nI (lsS s x L 10) - nI (pcN (x ^^^ dn s L)) = nI (lsS s x L 10 - pcN (x ^^^ dn s L)) := pk_sub (by omega)
    have q : 0 < nI (lsS s x L 10 - pcN (x ^^^ dn s L)) := nI_lt (a := 0) (by omega) (by omega)
    rw [e, if_pos q]
    refine ⟨⟨m1, fun _ => trivial, fun z => absurd q z⟩, ?_⟩
    unfold ldS lI
    rw [if_pos g, show (1 : Int32) = nI 1 from rfl, pk_sub (by omega), show lsS s x L 10 - pcN (x ^^^ dn s L) + 1 - 1 = lsS s x L 10 - pcN (x ^^^ dn s L) by omega]
  · have e : nI (lsS s x L 10) - nI (pcN (x ^^^ dn s L)) = 0 := by rw [w, pk_sub (Nat.le_refl _), Nat.sub_self]; rfl
    have q : ¬ (0 : Int32) < 0 := by decide
    rw [e, if_neg q, if_pos rfl]
    refine ⟨⟨m1, fun z => absurd z q, fun _ => ⟨fun _ => n1, fun z => absurd rfl z⟩⟩, ?_⟩
    unfold ldS lI
    by_cases g : (nrS s x 10 10).1 = nI L
    · rw [if_pos g, if_pos g, w, Nat.sub_self]; rfl
    · rw [if_neg g, if_neg g]; rfl
  · have q0 : nI (lsS s x L 10) - nI (pcN (x ^^^ dn s L)) < 0 := pk_sneg (by omega) w
    have q1 : ¬ 0 < nI (lsS s x L 10) - nI (pcN (x ^^^ dn s L)) := i32_nl (Int32.le_of_lt q0)
    have q2 : ¬ nI (lsS s x L 10) - nI (pcN (x ^^^ dn s L)) = 0 := fun z => by rw [z] at q0; exact absurd q0 (by decide)
    have g : ¬ (nrS s x 10 10).1 = nI L := fun z => by
      have := nr_ls hO hx hL ((nr_iff hO hx hL).mp z)
      omega
    rw [if_neg q1, if_neg q2]
    refine ⟨⟨m1, fun z => absurd z q1, fun _ => ⟨fun z => absurd z q2, fun _ => trivial⟩⟩, ?_⟩
    unfold ldS
    rw [if_neg g]; rfl
theorem cpls {V : VT} {P : Nat} {s : Nat → Int32} (hB : BRel V 6 s) (hP : s 0 = nI P) : V (6 + 7 * 0) 0 = nI P := by
  show V 6 0 = nI P
  rw [← hB.1]
  exact hP
theorem ltAs {V : VT} {P : Nat} {s : Nat → Int32} (hB : BRel V 6 s) (hP8 : P ≤ 8) (hP : s 0 = nI P) {i : Nat} (h : i < P) : f_X0_letterIn V 0 0 (nI i) = s (33 + i) ∧ f_X0_letterIn V 0 1 (nI i) = s (41 + i) := by
  have h1 := hB.2.2.2.2.2.2.2.2.2.2 i (by omega) (by rw [hP]; exact nI_lt h (by omega))
  unfold f_X0_letterIn
  rw [if_pos rfl, if_neg (by decide), at8 V _ (by omega), at8 V _ (by omega)]
  exact ⟨h1.1.symm, h1.2.symm⟩
theorem wnAs {V : VT} {P : Nat} {s : Nat → Int32} (hB : BRel V 6 s) (hP8 : P ≤ 8) (hP : s 0 = nI P) {i : Nat} (h : i < P) {wI : Int32} {w : Nat} (hw : Way wI w) : f_X0_wantedAt V 0 (nI i) wI = s (wix P i w) := by
  unfold f_X0_wantedAt f_X0_fromLeft wix
  rcases hw with ⟨rfl, rfl⟩ | ⟨rfl, rfl⟩
  · rw [if_pos rfl, if_pos rfl]
    exact (ltAs hB hP8 hP h).1
  · rw [if_neg (by decide), if_neg (by decide), cpls hB hP, rev_n hP8 h]
    exact (ltAs hB hP8 hP (i := P - 1 - i) (by omega)).2
section SX
variable {V : VT} {a b u v : Nat} {s : Nat → Int32}
theorem nd_ns (fu : Nat) (hf : 20 ≤ fu) (hB : BRel V 6 s) (hO : SOk s) (ha : a < 10) (hb : b < 10) (hda : s (7 + a) ≠ -1) (hdb : s (7 + b) ≠ -1) (h0 : V 1 0 = 1) (h1 : V 1 1 = nI a) (h2 : V 1 2 = nI b) (h3 : V 1 3 = nI (dn s a)) (h4 : V 1 4 = nI (tnN (dn s b))) {c m k M : Nat} {st : Int32 × Nat} (hc : c ≤ 15) (hk : k < 2 ^ (15 - c)) (hst : st.2 ≤ 16) (hM : M = min (ldS s (2 ^ c * k + dn s a % 2 ^ c) a) (ldS s (tnN (2 ^ c * k + tnN (dn s b) % 2 ^ c)) b))
    {C : VT} (hC : st.2 < M → 0 ≤ nI c - 1 → (p_X1_settleAs (f_X1_settle fu m) (p_X1_settle fu m) (SV V st) (nI c - 1) (nI (2 ^ c * k)) 0 ∧ p_X1_settleAs (f_X1_settle fu m) (p_X1_settle fu m) (f_X1_settleAs (f_X1_settle fu m) (SV V st) (nI c - 1) (nI (2 ^ c * k)) 0) (nI c - 1) (nI (2 ^ c * k)) 1) ∧ f_X1_settleAs (f_X1_settle fu m) (f_X1_settleAs (f_X1_settle fu m) (SV V st) (nI c - 1) (nI (2 ^ c * k)) 0) (nI c - 1) (nI (2 ^ c * k)) 1 = C) :
    p_X1_settle fu (m + 1) (SV V st) (nI c - 1) (nI (2 ^ c * k)) ∧ f_X1_settle fu (m + 1) (SV V st) (nI c - 1) (nI (2 ^ c * k)) = if st.2 < M then (if 0 ≤ nI c - 1 then C else SV V (nI (2 ^ c * k), M)) else SV V st := by
  have e15 : ¬ (15 : Int32) ≤ nI c - 1 := by
    rw [show (15 : Int32) = nI 15 from rfl, show (1 : Int32) = nI 1 from rfl, Int32.le_iff_toInt_le, nI_toInt (by decide), pk_sub_toInt (by omega) (by decide)]
    omega
  have hmod : ∀ w, w % 2 ^ c < 2 ^ c := fun w => Nat.mod_lt _ (Nat.two_pow_pos c)
  have hB2 : BRel (SV V st) 6 s := hB.cong (fun _ _ => rfl) (fun r hr => SV_ne _ _ (by omega))
  have k1 := lt15 hc hk (hmod (dn s a))
  have k2 := lt15 hc hk (hmod (tnN (dn s b)))
  have L1 := lead_ns fu hf (SV V st) hB2 hO k1 ha hda
  have L2 := lead_ns fu hf (SV V st) hB2 hO (tnN_lt k2) hb hdb
  have T2 := turn_n (SV V st) k2
  have n0 : ¬ (1 : Int32) = 0 := by decide
  have b1 := ld_lt (s := s) (2 ^ c * k + dn s a % 2 ^ c) a
  have b2 := ld_lt (s := s) (tnN (2 ^ c * k + tnN (dn s b) % 2 ^ c)) b
  rw [f_X1_settle, p_X1_settle]
  rw [op_n hc, SV_j _ _ (show 0 < 5 by decide), SV_j _ _ (show 1 < 5 by decide), SV_j _ _ (show 2 < 5 by decide), SV_j _ _ (show 3 < 5 by decide), SV_j _ _ (show 4 < 5 by decide), SV_6, h0, h1, h2, h3, h4, mk_n, mk_n, T2, L1.2, L2.2, mn_I b1 b2, ← hM]
  have cm : lI (ldS s (2 ^ c * k + dn s a % 2 ^ c) a) ≤ lI st.2 ↔ ldS s (2 ^ c * k + dn s a % 2 ^ c) a ≤ st.2 := lI_le (by omega) (by omega)
  have cm2 : lI st.2 < lI M ↔ st.2 < M := lI_lt (by omega) (by omega)
  rw [if_neg e15]
  by_cases g1 : ldS s (2 ^ c * k + dn s a % 2 ^ c) a ≤ st.2
  · have g1' := cm.mpr g1
    rw [if_pos g1', if_neg (by omega)]
    exact ⟨⟨fun z => absurd z e15, fun _ => ⟨n0, n0, L1.1, fun _ => trivial, fun z => absurd g1' z⟩⟩, rfl⟩
  · have g1' : ¬ lI (ldS s (2 ^ c * k + dn s a % 2 ^ c) a) ≤ lI st.2 := fun z => g1 (cm.mp z)
    rw [if_neg g1']
    by_cases g2 : st.2 < M
    · have g2' := cm2.mpr g2
      rw [if_pos g2', if_pos g2]
      by_cases g3 : 0 ≤ nI c - 1
      · obtain ⟨c1, c2⟩ := hC g2 g3
        rw [if_pos g3, if_pos g3]
        exact ⟨⟨fun z => absurd z e15, fun _ => ⟨n0, n0, L1.1, fun z => absurd z g1', fun _ => ⟨n0, L2.1, fun _ => ⟨fun _ => c1, fun z => absurd g3 z⟩, fun z => absurd g2' z⟩⟩⟩, c2⟩
      · rw [if_neg g3, if_neg g3]
        exact ⟨⟨fun z => absurd z e15, fun _ => ⟨n0, n0, L1.1, fun z => absurd z g1', fun _ => ⟨n0, L2.1, fun _ => ⟨fun z => absurd z g3, fun _ => trivial⟩, fun z => absurd g2' z⟩⟩⟩, SV_SV V st (nI (2 ^ c * k), M)⟩
    · have g2' : ¬ lI st.2 < lI M := fun z => g2 (cm2.mp z)
      rw [if_neg g2', if_neg g2]
      exact ⟨⟨fun z => absurd z e15, fun _ => ⟨n0, n0, L1.1, fun z => absurd z g1', fun _ => ⟨n0, L2.1, fun z => absurd z g2', fun _ => trivial⟩⟩⟩, rfl⟩
theorem set_ns (fu : Nat) (hf : 20 ≤ fu) (hB : BRel V 6 s) (hO : SOk s) (ha : a < 10) (hb : b < 10) (hda : s (7 + a) ≠ -1) (hdb : s (7 + b) ≠ -1) (h0 : V 1 0 = 1) (h1 : V 1 1 = nI a) (h2 : V 1 2 = nI b) (h3 : V 1 3 = nI (dn s a)) (h4 : V 1 4 = nI (tnN (dn s b))) : ∀ (c n k : Nat) (st : Int32 × Nat), c ≤ 15 → c < n → k < 2 ^ (15 - c) → st.2 ≤ 16 → p_X1_settle fu n (SV V st) (nI c - 1) (nI (2 ^ c * k)) ∧ f_X1_settle fu n (SV V st) (nI c - 1) (nI (2 ^ c * k)) = SV V (TT s a b (dn s a) (tnN (dn s b)) c k st) := by
  have hu := (hO.dr ha hda).2
  have hv := tnN_lt (hO.dr hb hdb).2
  intro c
  induction c with
  | zero =>
    intro n k st hc hn hk hst
    obtain ⟨m, rfl⟩ : ∃ m, n = m + 1 := ⟨n - 1, by omega⟩
    have g3 : ¬ (0 : Int32) ≤ nI 0 - 1 := by decide
    obtain ⟨r1, r2⟩ := nd_ns fu hf hB hO ha hb hda hdb h0 h1 h2 h3 h4 (c := 0) (m := m) (k := k) (st := st) hc hk hst rfl (C := V) (fun _ z => absurd z g3)
    refine ⟨r1, ?_⟩
    rw [r2, if_neg g3, TT]
    unfold scS
    rw [Nat.pow_zero, Nat.one_mul, Nat.mod_one, Nat.mod_one, Nat.add_zero]
    split <;> rfl
  | succ c ih =>
    intro n k st hc hn hk hst
    obtain ⟨m, rfl⟩ : ∃ m, n = m + 1 := ⟨n - 1, by omega⟩
    have e : 2 ^ (15 - c) = 2 * 2 ^ (15 - (c + 1)) := by rw [show 15 - c = 15 - (c + 1) + 1 by omega, Nat.pow_succ, Nat.mul_comm]
    have ec : nI (c + 1) - 1 = nI c := by rw [show (1 : Int32) = nI 1 from rfl, pk_sub (by omega), show c + 1 - 1 = c by omega]
    have g3 : (0 : Int32) ≤ nI (c + 1) - 1 := by rw [ec]; exact nI_nn (by omega)
    have z0 : nI 0 = (0 : Int32) := rfl
    have z1 : nI 1 = (1 : Int32) := rfl
    have s0 := sa_n (V := V) (u := dn s a) (v := tnN (dn s b)) fu m (c := c) (k := k) (β := 0) (by omega) (by decide) hu hv h3 h4 st (st' := TT s a b (dn s a) (tnN (dn s b)) c (2 * k) st) (fun _ => by rw [Nat.add_zero]; exact ih m (2 * k) st (by omega) (by omega) (by omega) hst)
    rw [z0] at s0
    obtain ⟨s01, s02⟩ := s0
    have hst1 : (if bt (dn s a) c = 0 ∨ bt (tnN (dn s b)) c = 0 then TT s a b (dn s a) (tnN (dn s b)) c (2 * k) st else st).2 ≤ 16 := by
      split
      · exact TT_le _ _ _ _ _ _ _ _ hst
      · exact hst
    have s1 := sa_n (V := V) (u := dn s a) (v := tnN (dn s b)) fu m (c := c) (k := k) (β := 1) (by omega) (by decide) hu hv h3 h4 (if bt (dn s a) c = 0 ∨ bt (tnN (dn s b)) c = 0 then TT s a b (dn s a) (tnN (dn s b)) c (2 * k) st else st) (fun _ => ih m (2 * k + 1) _ (by omega) (by omega) (by omega) hst1)
    rw [z1] at s1
    obtain ⟨s11, s12⟩ := s1
    obtain ⟨r1, r2⟩ := nd_ns fu hf hB hO ha hb hda hdb h0 h1 h2 h3 h4 (c := c + 1) (m := m) (k := k) (st := st) hc hk hst rfl (C := SV V (TT s a b (dn s a) (tnN (dn s b)) (c + 1) k st)) (fun _ _ => by
      rw [ec, s02, s12, TT]
      exact ⟨⟨s01, s11⟩, rfl⟩)
    refine ⟨r1, ?_⟩
    rw [r2, if_pos g3]
    by_cases g : st.2 < min (ldS s (2 ^ (c + 1) * k + dn s a % 2 ^ (c + 1)) a) (ldS s (tnN (2 ^ (c + 1) * k + tnN (dn s b) % 2 ^ (c + 1))) b)
    · rw [if_pos g]
    · rw [if_neg g, TT_prune _ _ _ _ _ _ _ _ (fun x hx => Nat.le_trans (bnd hO ha hb hda hdb hc hk hx) (Nat.le_of_not_lt g))]
end SX
theorem find_ns {s : Nat → Int32} (fu : Nat) (hf : 20 ≤ fu) {V : VT} (hB : BRel V 6 s) (hO : SOk s) {a b : Nat} (ha : a < 10) (hb : b < 10) (hda : s (7 + a) ≠ -1) (hdb : s (7 + b) ≠ -1) : p_X1_find fu V (nI a) (nI b) ∧ ∃ V', f_X1_find fu V (nI a) (nI b) = (if (BE s a b).2 = 0 then 0 else 1, V') ∧ (∀ r, r ≠ 1 → V' r = V r) ∧ V' 1 5 = (BE s a b).1 ∧ V' 1 6 = lI (BE s a b).2 := by
  have hX : ∀ X : VT, (∀ a, a ≠ 1 → X a = V a) → BRel X 6 s := fun X h => hB.cong (fun _ _ => rfl) (fun r hr => h _ (by omega))
  have hh : ∀ X : VT, (∀ a, a ≠ 1 → X a = V a) → ∀ k, k < 10 → s (7 + k) ≠ -1 → f_X3_has X 0 (nI k) = 1 := fun X h k hk hd => by
    rw [has_ns X (hX X h) hk, if_neg hd]
  have hs : ∀ X : VT, (∀ a, a ≠ 1 → X a = V a) → ∀ k, k < 10 → s (7 + k) ≠ -1 → f_X3_signFor X 0 (nI k) = nI (dn s k) := fun X h k hk hd => by
    rw [sfor_ns X (hX X h) hk, ← (hO.dr hk hd).1]
  have u1 : ∀ (X : VT) (i : Nat) (x : Int32), (∀ a, a ≠ 1 → X a = V a) → ∀ a, a ≠ 1 → upV X 1 i x a = V a := fun X i x h a ha => by rw [upV_ne _ _ _ ha, h a ha]
  have W2 := u1 _ 6 (-1) (u1 V 5 (-1) (fun _ _ => rfl))
  have W5 := u1 _ 2 (nI b) (u1 _ 1 (nI a) (u1 _ 0 1 W2))
  have fa := hh _ W2 a ha hda
  have fb := hh _ W2 b hb hdb
  have n10 : ¬ (1 : Int32) = 0 := by decide
  unfold p_X1_find f_X1_find v_X1_find_2
  rw [fa, fb, if_neg n10, if_neg n10]
  unfold v_X1_find_1
  rw [hs _ W5 a ha hda]
  have W6 := u1 _ 3 (nI (dn s a)) W5
  rw [hs _ W6 b hb hdb, turn_n _ (hO.dr hb hdb).2]
  have W7 := u1 _ 4 (nI (tnN (dn s b))) W6
  -- the base
  have eS : SV (upV (upV (upV (upV (upV (upV (upV V 1 5 (-1)) 1 6 (-1)) 1 0 1) 1 1 (nI a)) 1 2 (nI b)) 1 3 (nI (dn s a))) 1 4 (nI (tnN (dn s b)))) (-1, 0) = upV (upV (upV (upV (upV (upV (upV V 1 5 (-1)) 1 6 (-1)) 1 0 1) 1 1 (nI a)) 1 2 (nI b)) 1 3 (nI (dn s a))) 1 4 (nI (tnN (dn s b))) := by
    funext r j
    unfold SV
    simp only [upV_eq]
    have l0 : lI 0 = -1 := rfl
    by_cases h6 : r = 1 ∧ j = 6
    · obtain ⟨rfl, rfl⟩ := h6
      simp [l0]
    · by_cases h5 : r = 1 ∧ j = 5
      · obtain ⟨rfl, rfl⟩ := h5
        simp
      · simp [h5, h6]
  have r0 : upV (upV (upV (upV (upV (upV (upV V 1 5 (-1)) 1 6 (-1)) 1 0 1) 1 1 (nI a)) 1 2 (nI b)) 1 3 (nI (dn s a))) 1 4 (nI (tnN (dn s b))) 1 0 = 1 := by simp [upV_eq]
  have r1 : upV (upV (upV (upV (upV (upV (upV V 1 5 (-1)) 1 6 (-1)) 1 0 1) 1 1 (nI a)) 1 2 (nI b)) 1 3 (nI (dn s a))) 1 4 (nI (tnN (dn s b))) 1 1 = nI a := by simp [upV_eq]
  have r2 : upV (upV (upV (upV (upV (upV (upV V 1 5 (-1)) 1 6 (-1)) 1 0 1) 1 1 (nI a)) 1 2 (nI b)) 1 3 (nI (dn s a))) 1 4 (nI (tnN (dn s b))) 1 2 = nI b := by simp [upV_eq]
  have r3 : upV (upV (upV (upV (upV (upV (upV V 1 5 (-1)) 1 6 (-1)) 1 0 1) 1 1 (nI a)) 1 2 (nI b)) 1 3 (nI (dn s a))) 1 4 (nI (tnN (dn s b))) 1 3 = nI (dn s a) := by simp [upV_eq]
  have r4 : upV (upV (upV (upV (upV (upV (upV V 1 5 (-1)) 1 6 (-1)) 1 0 1) 1 1 (nI a)) 1 2 (nI b)) 1 3 (nI (dn s a))) 1 4 (nI (tnN (dn s b))) 1 4 = nI (tnN (dn s b)) := by simp [upV_eq]
  generalize upV (upV (upV (upV (upV (upV (upV V 1 5 (-1)) 1 6 (-1)) 1 0 1) 1 1 (nI a)) 1 2 (nI b)) 1 3 (nI (dn s a))) 1 4 (nI (tnN (dn s b))) = X at *
  obtain ⟨x1, x2⟩ := set_ns (V := X) fu hf (hX X W7) hO ha hb hda hdb r0 r1 r2 r3 r4 15 20 0 (-1, 0) (by decide) (by decide) (by decide) (by decide)
  rw [Nat.mul_zero, show nI 15 - 1 = 14 from rfl, show nI 0 = (0 : Int32) from rfl, eS] at x1 x2
  rw [x2]
  refine ⟨⟨fun z => absurd z n10, fun _ => ⟨fun z => absurd z n10, fun _ => x1⟩⟩, SV X (BE s a b), ?_, fun r hr => by rw [SV_ne _ _ hr, W7 r hr], SV_5 _ _, SV_6 _ _⟩
  show (if SV X (BE s a b) 1 5 = -1 then ((0 : Int32), SV X (BE s a b)) else (1, SV X (BE s a b))) = _
  rw [SV_5]
  rcases BE_ok s a b with ⟨q1, q2⟩ | ⟨⟨x, q0, q1⟩, q2⟩
  · rw [if_pos q1, if_pos q2]
  · rw [if_neg (by rw [q1]; exact nI_neg1 (by omega)), if_neg (by omega)]
theorem find_0s {s : Nat → Int32} (fu : Nat) {V : VT} (hB : BRel V 6 s) {a b : Nat} (ha : a < 10) (hb : b < 10) (h : s (7 + a) = -1 ∨ s (7 + b) = -1) : p_X1_find fu V (nI a) (nI b) ∧ ∃ V', f_X1_find fu V (nI a) (nI b) = (0, V') ∧ ∀ r, r ≠ 1 → V' r = V r := by
  have W : ∀ r, r ≠ 1 → upV (upV V 1 5 (-1)) 1 6 (-1) r = V r := fun r hr => by rw [upV_ne _ _ _ hr, upV_ne _ _ _ hr]
  have hB2 : BRel (upV (upV V 1 5 (-1)) 1 6 (-1)) 6 s := hB.cong (fun _ _ => rfl) (fun r hr => W _ (by omega))
  have n10 : ¬ (1 : Int32) = 0 := by decide
  have fa := has_ns _ hB2 ha
  have fb := has_ns _ hB2 hb
  unfold p_X1_find f_X1_find
  rw [fa, fb]
  by_cases qa : s (7 + a) = -1
  · rw [if_pos qa, if_pos rfl]
    exact ⟨⟨fun _ => trivial, fun z => absurd rfl z⟩, _, rfl, W⟩
  · have qb := h.resolve_left qa
    rw [if_neg qa, if_pos qb, if_neg n10, if_pos rfl]
    exact ⟨⟨fun z => absurd z n10, fun _ => ⟨fun _ => trivial, fun z => absurd rfl z⟩⟩, _, rfl, W⟩
