/-! places, words: what both sides read -/
theorem z0 : (0 : Int32).toNatClampNeg = 0 := rfl
theorem z1 : (1 : Int32).toNatClampNeg = 1 := rfl
theorem z2 : (2 : Int32).toNatClampNeg = 2 := rfl
theorem z3 : (3 : Int32).toNatClampNeg = 3 := rfl
theorem z4 : (4 : Int32).toNatClampNeg = 4 := rfl
theorem z5 : (5 : Int32).toNatClampNeg = 5 := rfl
theorem z6 : (6 : Int32).toNatClampNeg = 6 := rfl
theorem lt_le {n : Nat} (hn : n + 1 < 2 ^ 31) {x : Int32} (h : nI (n + 1) ≤ x) : nI n < x := by
  rw [Int32.le_iff_toInt_le, nI_toInt (by omega)] at h
  rw [Int32.lt_iff_toInt_lt, nI_toInt (by omega)]
  omega
theorem in_lo (V : VT) {a lo hi : Int32} (h : a < lo) : f_X8_in V a lo hi = 0 := by unfold f_X8_in; rw [if_pos h]
theorem in_hi (V : VT) {a lo hi : Int32} (h : hi < a) : f_X8_in V a lo hi = 0 := by
  unfold f_X8_in
  by_cases q : a < lo
  · rw [if_pos q]
  · rw [if_neg q, if_pos h]
theorem in_ok (V : VT) {a lo hi : Int32} (h1 : ¬ a < lo) (h2 : ¬ hi < a) : f_X8_in V a lo hi = 1 := by unfold f_X8_in; rw [if_neg h1, if_neg h2]
theorem in_n (V : VT) {k lo hi : Nat} (h1 : lo ≤ k) (h2 : k ≤ hi) (h3 : hi < 2 ^ 31) : f_X8_in V (nI k) (nI lo) (nI hi) = 1 := in_ok V (nI_nlt h1 (by omega)) (nI_nlt h2 h3)
theorem in_b (V : VT) (a lo hi : Int32) : isB (f_X8_in V a lo hi) := by
  unfold f_X8_in isB
  split
  · exact Or.inl rfl
  · split
    · exact Or.inl rfl
    · exact Or.inr rfl
theorem isL_lo (V : VT) {a : Int32} (h : a < 0) : f_X7_isLetter V a = 0 := by unfold f_X7_isLetter; rw [if_pos h]
theorem isL_hi (V : VT) {a : Int32} (h : nI 10 ≤ a) : f_X7_isLetter V a = 0 := by
  unfold f_X7_isLetter
  by_cases q : a < 0
  · rw [if_pos q]
  · rw [if_neg q, if_pos (show (10 : Int32) ≤ a from h)]
theorem isL_n (V : VT) {k : Nat} (h : k < 10) : f_X7_isLetter V (nI k) = 1 := by unfold f_X7_isLetter; rw [if_neg (nI_pos (by omega)), if_neg (show ¬ (10 : Int32) ≤ nI k from nI_ge (b := 10) h (by decide))]
section PL
variable {V : VT} {P : Nat} (hB : BRel V 6 (V 49)) (hO : SOk (V 49)) (hP8 : P ≤ 8) (hP : V 49 0 = nI P)
theorem cpl (hB : BRel V 6 (V 49)) (hP : V 49 0 = nI P) : V (6 + 7 * 0) 0 = nI P := by
  show V 6 0 = nI P
  rw [← hB.1]
  exact hP
theorem cpl6 (hB : BRel V 6 (V 49)) (hP : V 49 0 = nI P) : V 6 0 = nI P := cpl hB hP
theorem hasP_lo (V : VT) {a : Int32} (h : a < 0) : f_X0_hasPlace V 0 a = 0 := by unfold f_X0_hasPlace; rw [if_pos h]
theorem hasP_hi (hB : BRel V 6 (V 49)) (hP : V 49 0 = nI P) {a : Int32} (h : nI P ≤ a) : f_X0_hasPlace V 0 a = 0 := by
  unfold f_X0_hasPlace
  rw [cpl hB hP]
  by_cases q : a < 0
  · rw [if_pos q]
  · rw [if_neg q, if_pos h]
theorem hasP_n (hB : BRel V 6 (V 49)) (hP8 : P ≤ 8) (hP : V 49 0 = nI P) {i : Nat} (h : i < P) : f_X0_hasPlace V 0 (nI i) = 1 := by
  unfold f_X0_hasPlace
  rw [cpl hB hP, if_neg (nI_pos (by omega)), if_neg (nI_ge h (by omega))]
theorem isP_b (V : VT) (a : Int32) : p_X8_isPlace V a := in_b V _ _ _
theorem isP_lo (V : VT) {a : Int32} (h : a < 0) : f_X8_isPlace V a = 0 := in_lo V h
theorem isP_hi (hP8 : P ≤ 8) (hP : V 49 0 = nI P) {a : Int32} (h : nI P ≤ a) : f_X8_isPlace V a = 0 := by
  unfold f_X8_isPlace
  rw [z0, hP]
  rcases Nat.eq_zero_or_pos P with q | q
  · subst q
    by_cases r : a < 0
    · exact in_lo V r
    · refine in_hi V ?_
      have h0 : (nI 0 - 1 : Int32) < 0 := by decide
      rw [Int32.lt_iff_toInt_lt] at h0 r ⊢
      have : (0 : Int32).toInt = 0 := rfl
      omega
  · rw [show (1 : Int32) = nI 1 from rfl, pk_sub q]
    exact in_hi V (lt_le (n := P - 1) (by omega) (by rw [show P - 1 + 1 = P by omega]; exact h))
theorem isP_n (hP8 : P ≤ 8) (hP : V 49 0 = nI P) {i : Nat} (h : i < P) : f_X8_isPlace V (nI i) = 1 := by
  unfold f_X8_isPlace
  rw [z0, hP, show (1 : Int32) = nI 1 from rfl, pk_sub (by omega), show (0 : Int32) = nI 0 from rfl]
  exact in_n V (Nat.zero_le _) (by omega) (by omega)
theorem at8 (V : VT) (q : Nat) {i : Nat} (h : i < 8) : f_X4_at V q 8 (nI i) = V q i := by
  unfold f_X4_at
  rw [if_neg (nI_pos (by omega)), if_neg (nI_ge h (by decide)), nI_clamp (by omega)]
theorem at2 (V : VT) (q : Nat) {i : Nat} (h : i < 2) : f_X4_at V q 2 (nI i) = V q i := by
  unfold f_X4_at
  rw [if_neg (nI_pos (by omega)), if_neg (nI_ge h (by decide)), nI_clamp (by omega)]
theorem sgA (hB : BRel V 6 (V 49)) {i : Nat} (h : i < 8) : f_X0_signAt V 0 (nI i) = V 49 (17 + 2 * i) := by
  unfold f_X0_signAt
  rw [at8 V _ h]
  exact (hB.2.2.2.2.2.2.2.2.1 i h).symm
theorem ctA (hB : BRel V 6 (V 49)) {i : Nat} (h : i < 8) : f_X0_coatsAt V 0 (nI i) = V 49 (18 + 2 * i) := by
  unfold f_X0_coatsAt
  rw [at8 V _ h]
  exact (hB.2.2.2.2.2.2.2.2.2.1 i h).symm
theorem stA0 (hB : BRel V 6 (V 49)) : f_X0_setting V 0 0 = V 49 5 := by
  unfold f_X0_setting
  rw [if_pos rfl]
  exact hB.2.2.2.2.2.1.symm
theorem stA1 (hB : BRel V 6 (V 49)) : f_X0_setting V 0 1 = V 49 6 := by
  unfold f_X0_setting
  rw [if_neg (by decide)]
  exact hB.2.2.2.2.2.2.1.symm
theorem ix17 (i : Nat) : (17 : Int32) + 2 * nI i = nI (17 + 2 * i) := by rw [show (17 : Int32) = nI 17 from rfl, show (2 : Int32) = nI 2 from rfl, pk_mul, nI_add]
theorem ix18 (i : Nat) : (17 : Int32) + 2 * nI i + 1 = nI (18 + 2 * i) := by rw [ix17, show (1 : Int32) = nI 1 from rfl, nI_add, show 17 + 2 * i + 1 = 18 + 2 * i by omega]
theorem sgM (V : VT) {i : Nat} (h : i < 8) : p_X8_signOf V (nI i) ∧ f_X8_signOf V (nI i) = V 49 (17 + 2 * i) := by
  unfold p_X8_signOf f_X8_signOf
  rw [ix17, nI_clamp (by omega)]
  exact ⟨vp_in_nI (by omega) (by decide), rfl⟩
theorem ctM (V : VT) {i : Nat} (h : i < 8) : p_X8_coats V (nI i) ∧ f_X8_coats V (nI i) = V 49 (18 + 2 * i) := by
  unfold p_X8_coats f_X8_coats
  rw [ix18, nI_clamp (by omega)]
  exact ⟨vp_in_nI (by omega) (by decide), rfl⟩
/-- a way: 0 or 1 -/
def Way (wI : Int32) (w : Nat) : Prop := (wI = 0 ∧ w = 0) ∨ (wI = 1 ∧ w = 1)
def wix (P i w : Nat) : Nat := if w = 0 then 33 + i else 41 + (P - 1 - i)
theorem ltA (hB : BRel V 6 (V 49)) (hP8 : P ≤ 8) (hP : V 49 0 = nI P) {i : Nat} (h : i < P) : f_X0_letterIn V 0 0 (nI i) = V 49 (33 + i) ∧ f_X0_letterIn V 0 1 (nI i) = V 49 (41 + i) := by
  have h1 := hB.2.2.2.2.2.2.2.2.2.2 i (by omega) (by rw [hP]; exact nI_lt h (by omega))
  unfold f_X0_letterIn
  rw [if_pos rfl, if_neg (by decide), at8 V _ (by omega), at8 V _ (by omega)]
  exact ⟨h1.1.symm, h1.2.symm⟩
theorem rev_n (hP8 : P ≤ 8) {i : Nat} (h : i < P) : nI P - 1 - nI i = nI (P - 1 - i) := by rw [show (1 : Int32) = nI 1 from rfl, pk_sub (by omega), pk_sub (by omega)]
theorem wnA (hB : BRel V 6 (V 49)) (hP8 : P ≤ 8) (hP : V 49 0 = nI P) {i : Nat} (h : i < P) {wI : Int32} {w : Nat} (hw : Way wI w) : f_X0_wantedAt V 0 (nI i) wI = V 49 (wix P i w) := by
  unfold f_X0_wantedAt f_X0_fromLeft wix
  rcases hw with ⟨rfl, rfl⟩ | ⟨rfl, rfl⟩
  · rw [if_pos rfl, if_pos rfl]
    exact (ltA hB hP8 hP h).1
  · rw [if_neg (by decide), if_neg (by decide), cpl hB hP, rev_n hP8 h]
    exact (ltA hB hP8 hP (i := P - 1 - i) (by omega)).2
theorem wnM (hP8 : P ≤ 8) (hP : V 49 0 = nI P) {i : Nat} (h : i < P) {wI : Int32} {w : Nat} (hw : Way wI w) : p_X8_wanted V (nI i) wI ∧ f_X8_wanted V (nI i) wI = V 49 (wix P i w) := by
  unfold p_X8_wanted f_X8_wanted wix
  rcases hw with ⟨rfl, rfl⟩ | ⟨rfl, rfl⟩
  · rw [if_pos rfl, if_pos rfl, show (33 : Int32) + 8 * 0 = nI 33 from rfl, nI_add, nI_clamp (by omega)]
    exact ⟨⟨fun _ => vp_in_nI (by omega) (by decide), fun z => absurd rfl z⟩, rfl⟩
  · rw [if_neg (by decide), if_neg (by decide), z0, hP, rev_n hP8 h, show (33 : Int32) + 8 * 1 = nI 41 from rfl, nI_add 41 (P - 1 - i), nI_clamp (by omega)]
    exact ⟨⟨fun z => absurd z (by decide), fun _ => vp_in_nI (by omega) (by decide)⟩, rfl⟩
theorem wix_lt (hP8 : P ≤ 8) {i w : Nat} (h : i < P) : ∃ j, j < 16 ∧ wix P i w = 33 + j := by
  unfold wix
  split
  · exact ⟨i, by omega, rfl⟩
  · exact ⟨8 + (P - 1 - i), by omega, by omega⟩
/-- the letter wanted, as a number -/
theorem wn_ok (hO : SOk (V 49)) (hP8 : P ≤ 8) {i w : Nat} (h : i < P) : ∃ k, k < 10 ∧ V 49 (wix P i w) = nI k := by
  obtain ⟨j, h1, h2⟩ := wix_lt hP8 h (w := w)
  rw [h2]
  exact hO.2.2.2.2.2.2.2.2.2.2 j h1
def sgN (s : Nat → Int32) (i : Nat) : Nat := (s (17 + 2 * i)).toNatClampNeg
theorem sg_ok (hO : SOk (V 49)) {i : Nat} (h : i < 8) : V 49 (17 + 2 * i) = nI (sgN (V 49) i) ∧ sgN (V 49) i < 32768 := by
  obtain ⟨x, h1, h2⟩ := hO.2.2.2.2.2.2.2.2.1 i h
  unfold sgN
  rw [h2, nI_clamp (by omega)]
  exact ⟨rfl, h1⟩
theorem ct_ok (hO : SOk (V 49)) {i : Nat} (h : i < 8) : ∃ k, k ≤ 9 ∧ V 49 (18 + 2 * i) = nI k := hO.2.2.2.2.2.2.2.2.2.1 i h
def svN (s : Nat → Int32) (i w : Nat) : Nat := if w = 0 then sgN s i else tnN (sgN s i)
theorem sv_lt (hO : SOk (V 49)) {i w : Nat} (h : i < 8) : svN (V 49) i w < 32768 := by
  have := (sg_ok hO h).2
  unfold svN
  split
  · exact this
  · exact tnN_lt this
theorem seenA (hB : BRel V 6 (V 49)) (hO : SOk (V 49)) {i : Nat} (h : i < 8) {wI : Int32} {w : Nat} (hw : Way wI w) : f_X6_seen V (f_X0_signAt V 0 (nI i)) wI = nI (svN (V 49) i w) := by
  obtain ⟨h1, h2⟩ := sg_ok hO h
  rw [sgA hB h, h1]
  unfold f_X6_seen svN
  rcases hw with ⟨rfl, rfl⟩ | ⟨rfl, rfl⟩
  · rw [if_pos rfl, if_pos rfl]
  · rw [if_neg (by decide), if_neg (by decide), turn_n V h2]
theorem sbM (fu : Nat) (hf : 20 ≤ fu) (hO : SOk (V 49)) {i : Nat} (h : i < 8) {wI : Int32} {w : Nat} (hw : Way wI w) : p_X8_signBy fu V (nI i) wI ∧ f_X8_signBy fu V (nI i) wI = nI (svN (V 49) i w) := by
  obtain ⟨h1, h2⟩ := sg_ok hO h
  obtain ⟨h3, h4⟩ := sgM V h
  have ht := turned_n fu (by omega) V h2
  unfold p_X8_signBy f_X8_signBy svN
  rw [h4, h1]
  rcases hw with ⟨rfl, rfl⟩ | ⟨rfl, rfl⟩
  · rw [if_pos rfl, if_pos rfl]
    exact ⟨⟨fun _ => h3, fun z => absurd rfl z⟩, rfl⟩
  · rw [if_neg (by decide), if_neg (by decide)]
    exact ⟨⟨fun z => absurd z (by decide), fun _ => ⟨h3, ht.1⟩⟩, ht.2⟩
def raS (s : Nat → Int32) (i w : Nat) : Int32 := if s (18 + 2 * i) = 0 then -1 else (nrS s (svN s i w) 10 10).1
theorem raA (fu : Nat) (hf : 20 ≤ fu) (hB : BRel V 6 (V 49)) (hO : SOk (V 49)) {i : Nat} (h : i < 8) {wI : Int32} {w : Nat} (hw : Way wI w) : p_X0_readAt fu V 0 (nI i) wI ∧ f_X0_readAt fu V 0 (nI i) wI = raS (V 49) i w := by
  obtain ⟨k, h1, h2⟩ := ct_ok hO h
  have hn := near_n fu hf V hB hO (sv_lt hO h (w := w))
  unfold p_X0_readAt f_X0_readAt raS
  rw [ctA hB h, h2, seenA hB hO h hw]
  rcases Nat.eq_zero_or_pos k with q | q
  · subst q
    rw [if_pos (by decide), if_pos nI_0]
    exact ⟨⟨fun _ => trivial, fun z => absurd (by decide) z⟩, rfl⟩
  · rw [if_neg (nI_nle q (by omega)), if_neg (nI_ne0 q (by omega))]
    exact ⟨⟨fun _ => trivial, fun _ => hn.1⟩, hn.2⟩
theorem raM (fu : Nat) (hf : 20 ≤ fu) (hO : SOk (V 49)) {i : Nat} (h : i < 8) {wI : Int32} {w : Nat} (hw : Way wI w) : p_X8_readAt fu V (nI i) wI ∧ f_X8_readAt fu V (nI i) wI = raS (V 49) i w := by
  obtain ⟨c1, c2⟩ := ctM V h
  obtain ⟨s1, s2⟩ := sbM fu hf hO h hw
  have hn := read_n fu hf V hO (sv_lt hO h (w := w))
  unfold p_X8_readAt f_X8_readAt raS
  rw [c2, s2]
  by_cases q : V 49 (18 + 2 * i) = 0
  · rw [if_pos q, if_pos q]
    exact ⟨⟨c1, fun _ => trivial, fun z => absurd q z⟩, rfl⟩
  · rw [if_neg q, if_neg q]
    exact ⟨⟨c1, fun _ => trivial, fun _ => ⟨s1, hn.1⟩⟩, hn.2⟩
theorem raS_ok (s : Nat → Int32) (i w : Nat) : raS s i w = -1 ∨ ∃ k, k < 10 ∧ raS s i w = nI k := by
  unfold raS
  split
  · exact Or.inl rfl
  · rcases nrS_ok s (svN s i w) 10 10 (by omega) with h | ⟨k, h1, -, -, h2, -⟩
    · exact Or.inl h.1
    · exact Or.inr ⟨k, h1, h2⟩
theorem found_or (V : VT) {x : Int32} (h : x = -1 ∨ ∃ k, k < 10 ∧ x = nI k) : f_X7_foundOrNot V x = f_X8_orNone V x := by
  unfold f_X7_foundOrNot f_X8_orNone
  rcases h with rfl | ⟨k, h1, rfl⟩
  · rfl
  · rw [if_neg (nI_neg1 (by omega)), if_pos (nI_nn (by omega))]
def mnS (s : Nat → Int32) (P i w : Nat) : Int32 := if s (7 + (s (wix P i w)).toNatClampNeg) = -1 then -1004 else mgS s (svN s i w) (s (wix P i w)).toNatClampNeg
theorem mnA (fu : Nat) (hf : 20 ≤ fu) (hB : BRel V 6 (V 49)) (hO : SOk (V 49)) (hP8 : P ≤ 8) (hP : V 49 0 = nI P) {i : Nat} (h : i < P) {wI : Int32} {w : Nat} (hw : Way wI w) : p_X7_marginOrNot fu V (nI i) wI ∧ f_X7_marginOrNot fu V (nI i) wI = mnS (V 49) P i w := by
  obtain ⟨k, k1, k2⟩ := wn_ok hO hP8 h (w := w)
  unfold p_X7_marginOrNot f_X7_marginOrNot p_X0_marginAt f_X0_marginAt mnS
  rw [wnA hB hP8 hP h hw, k2, nI_clamp (by omega), has_n V hB k1, seenA hB hO (by omega) hw]
  by_cases q : V 49 (7 + k) = -1
  · rw [if_pos q, if_pos rfl, if_pos q]
    exact ⟨⟨fun _ => trivial, fun z => absurd rfl z⟩, rfl⟩
  · have hm := margin_c fu hf V hB hO (sv_lt hO (i := i) (w := w) (by omega)) k1 q
    rw [if_neg q, if_neg (by decide), if_neg q]
    exact ⟨⟨fun _ => trivial, fun _ => hm.1⟩, hm.2⟩
theorem mnM (fu : Nat) (hf : 20 ≤ fu) (hO : SOk (V 49)) (hP8 : P ≤ 8) (hP : V 49 0 = nI P) {i : Nat} (h : i < P) {wI : Int32} {w : Nat} (hw : Way wI w) : p_X8_drawn V (f_X8_wanted V (nI i) wI) ∧ (0 ≤ f_X8_drawn V (f_X8_wanted V (nI i) wI) → p_X8_margin fu V (f_X8_signBy fu V (nI i) wI) (f_X8_wanted V (nI i) wI)) ∧ (if 0 ≤ f_X8_drawn V (f_X8_wanted V (nI i) wI) then f_X8_margin fu V (f_X8_signBy fu V (nI i) wI) (f_X8_wanted V (nI i) wI) else -1004) = mnS (V 49) P i w := by
  obtain ⟨k, k1, k2⟩ := wn_ok hO hP8 h (w := w)
  obtain ⟨d1, d2⟩ := drawn_n V k1
  unfold mnS
  rw [(wnM hP8 hP h hw).2, k2, nI_clamp (by omega), d2, (sbM fu hf hO (i := i) (by omega) hw).2]
  by_cases q : V 49 (7 + k) = -1
  · have q' : ¬ (0 : Int32) ≤ V 49 (7 + k) := by rw [q]; decide
    rw [if_neg q', if_pos q]
    exact ⟨d1, fun z => absurd z q', rfl⟩
  · have hm := margin_m fu hf V hO (sv_lt hO (i := i) (w := w) (by omega)) k1 q
    have g := hO.dr k1 q
    have q' : (0 : Int32) ≤ V 49 (7 + k) := by rw [g.1]; exact nI_nn (by omega)
    rw [if_pos q', if_neg q]
    exact ⟨d1, fun _ => hm.1, hm.2⟩
end PL
theorem ne_lo {b : Int32} (h : b < 0) (k : Int32) (hk : ¬ k < 0) : b ≠ k := by rintro rfl; exact hk h
theorem ne_hi {b : Int32} {n : Nat} (h : nI n ≤ b) (k : Int32) (hk : ¬ nI n ≤ k) : b ≠ k := by rintro rfl; exact hk h
theorem c3 (b : Int32) : b < 0 ∨ nI 3 ≤ b ∨ b = 0 ∨ b = 1 ∨ b = 2 := by
  rcases pk_ix b (n := 3) (by decide) with h | h | ⟨j, hj, rfl⟩
  · exact Or.inl h
  · exact Or.inr (Or.inl h)
  · rcases (show j = 0 ∨ j = 1 ∨ j = 2 by omega) with rfl | rfl | rfl
    · exact Or.inr (Or.inr (Or.inl rfl))
    · exact Or.inr (Or.inr (Or.inr (Or.inl rfl)))
    · exact Or.inr (Or.inr (Or.inr (Or.inr rfl)))
theorem c2 (b : Int32) : b < 0 ∨ nI 2 ≤ b ∨ b = 0 ∨ b = 1 := by
  rcases pk_ix b (n := 2) (by decide) with h | h | ⟨j, hj, rfl⟩
  · exact Or.inl h
  · exact Or.inr (Or.inl h)
  · rcases (show j = 0 ∨ j = 1 by omega) with rfl | rfl
    · exact Or.inr (Or.inr (Or.inl rfl))
    · exact Or.inr (Or.inr (Or.inr rfl))
theorem c6 (b : Int32) : b < 0 ∨ nI 6 ≤ b ∨ b = 0 ∨ b = 1 ∨ b = 2 ∨ b = 3 ∨ b = 4 ∨ b = 5 := by
  rcases pk_ix b (n := 6) (by decide) with h | h | ⟨j, hj, rfl⟩
  · exact Or.inl h
  · exact Or.inr (Or.inl h)
  · rcases (show j = 0 ∨ j = 1 ∨ j = 2 ∨ j = 3 ∨ j = 4 ∨ j = 5 by omega) with rfl | rfl | rfl | rfl | rfl | rfl
    · exact Or.inr (Or.inr (Or.inl rfl))
    · exact Or.inr (Or.inr (Or.inr (Or.inl rfl)))
    · exact Or.inr (Or.inr (Or.inr (Or.inr (Or.inl rfl))))
    · exact Or.inr (Or.inr (Or.inr (Or.inr (Or.inr (Or.inl rfl)))))
    · exact Or.inr (Or.inr (Or.inr (Or.inr (Or.inr (Or.inr (Or.inl rfl))))))
    · exact Or.inr (Or.inr (Or.inr (Or.inr (Or.inr (Or.inr (Or.inr rfl))))))
theorem c8 (b : Int32) : b < 0 ∨ nI 8 ≤ b ∨ b = 0 ∨ b = 1 ∨ b = 2 ∨ b = 3 ∨ b = 4 ∨ b = 5 ∨ b = 6 ∨ b = 7 := by
  rcases pk_ix b (n := 8) (by decide) with h | h | ⟨j, hj, rfl⟩
  · exact Or.inl h
  · exact Or.inr (Or.inl h)
  · rcases (show j = 0 ∨ j = 1 ∨ j = 2 ∨ j = 3 ∨ j = 4 ∨ j = 5 ∨ j = 6 ∨ j = 7 by omega) with rfl | rfl | rfl | rfl | rfl | rfl | rfl | rfl
    · exact Or.inr (Or.inr (Or.inl rfl))
    · exact Or.inr (Or.inr (Or.inr (Or.inl rfl)))
    · exact Or.inr (Or.inr (Or.inr (Or.inr (Or.inl rfl))))
    · exact Or.inr (Or.inr (Or.inr (Or.inr (Or.inr (Or.inl rfl)))))
    · exact Or.inr (Or.inr (Or.inr (Or.inr (Or.inr (Or.inr (Or.inl rfl))))))
    · exact Or.inr (Or.inr (Or.inr (Or.inr (Or.inr (Or.inr (Or.inr (Or.inl rfl)))))))
    · exact Or.inr (Or.inr (Or.inr (Or.inr (Or.inr (Or.inr (Or.inr (Or.inr (Or.inl rfl))))))))
    · exact Or.inr (Or.inr (Or.inr (Or.inr (Or.inr (Or.inr (Or.inr (Or.inr (Or.inr rfl))))))))
theorem pl_p7 (fu : Nat) (hf : 20 ≤ fu) {V : VT} {P : Nat} (hB : BRel V 6 (V 49)) (hO : SOk (V 49)) (hP8 : P ≤ 8) (hP : V 49 0 = nI P) (a b : Int32) : p_X7_placeOf fu V a b := by
  have w0 : Way 0 0 := Or.inl ⟨rfl, rfl⟩
  have w1 : Way 1 1 := Or.inr ⟨rfl, rfl⟩
  rcases pk_ix a (n := P) (by omega) with h | h | ⟨i, hi, rfl⟩
  · simp [p_X7_placeOf, hasP_lo V h]
  · simp [p_X7_placeOf, hasP_hi hB hP h]
  · simp [p_X7_placeOf, hasP_n hB hP8 hP hi, raA fu hf hB hO (i := i) (by omega) w0, raA fu hf hB hO (i := i) (by omega) w1, mnA fu hf hB hO hP8 hP hi w0, mnA fu hf hB hO hP8 hP hi w1]
theorem pl_p8 (fu : Nat) (hf : 20 ≤ fu) {V : VT} {P : Nat} (hO : SOk (V 49)) (hP8 : P ≤ 8) (hP : V 49 0 = nI P) (a b : Int32) : p_X8_placeOf fu V a b := by
  have w0 : Way 0 0 := Or.inl ⟨rfl, rfl⟩
  have w1 : Way 1 1 := Or.inr ⟨rfl, rfl⟩
  rcases pk_ix a (n := P) (by omega) with h | h | ⟨i, hi, rfl⟩
  · simp [p_X8_placeOf, isP_b, isP_lo V h]
  · simp [p_X8_placeOf, isP_b, isP_hi hP8 hP h]
  · have m0 := mnM fu hf hO hP8 hP hi w0
    have m1 := mnM fu hf hO hP8 hP hi w1
    rcases c8 b with g | g | rfl | rfl | rfl | rfl | rfl | rfl | rfl | rfl
    · simp [p_X8_placeOf, isP_b, in_lo V g]
    · simp [p_X8_placeOf, isP_b, in_hi V (show (7 : Int32) < b from lt_le (n := 7) (by decide) g)]
    all_goals simp [p_X8_placeOf, isP_b, (sgM V (i := i) (by omega)).1, (ctM V (i := i) (by omega)).1, (raM fu hf hO (i := i) (by omega) w0).1, (raM fu hf hO (i := i) (by omega) w1).1, (wnM hP8 hP hi w0).1, (wnM hP8 hP hi w1).1, (sbM fu hf hO (i := i) (by omega) w0).1, (sbM fu hf hO (i := i) (by omega) w1).1, m0.1, m1.1]
    · exact fun _ _ => m0.2.1
    · exact fun _ _ => m1.2.1
theorem pl_f (fu : Nat) (hf : 20 ≤ fu) {V : VT} {P : Nat} (hB : BRel V 6 (V 49)) (hO : SOk (V 49)) (hP8 : P ≤ 8) (hP : V 49 0 = nI P) (a b : Int32) : f_X7_placeOf fu V a b = f_X8_placeOf fu V a b := by
  have w0 : Way 0 0 := Or.inl ⟨rfl, rfl⟩
  have w1 : Way 1 1 := Or.inr ⟨rfl, rfl⟩
  rcases pk_ix a (n := P) (by omega) with h | h | ⟨i, hi, rfl⟩
  · simp [f_X7_placeOf, f_X8_placeOf, hasP_lo V h, isP_lo V h]
  · simp [f_X7_placeOf, f_X8_placeOf, hasP_hi hB hP h, isP_hi hP8 hP h]
  · have m0 := (mnM fu hf hO hP8 hP hi w0).2.2
    have m1 := (mnM fu hf hO hP8 hP hi w1).2.2
    have a0 := (mnA fu hf hB hO hP8 hP hi w0).2
    have a1 := (mnA fu hf hB hO hP8 hP hi w1).2
    have h1 : ¬ (1 : Int32) = 0 := by decide
    have r0 := (found_or V (raS_ok (V 49) i 0))
    have r1 := (found_or V (raS_ok (V 49) i 1))
    have k0 : ((0:Int32) - 0/2*2) = 0 := by decide
    rcases c8 b with g | g | rfl | rfl | rfl | rfl | rfl | rfl | rfl | rfl
    · unfold f_X7_placeOf f_X8_placeOf
      rw [hasP_n hB hP8 hP hi, isP_n hP8 hP hi, if_neg h1, if_neg h1]
      rw [in_lo V g, if_pos rfl, if_neg (ne_lo g _ (by decide)), if_neg (ne_lo g _ (by decide)), if_neg (ne_lo g _ (by decide)), if_neg (ne_lo g _ (by decide)), if_neg (ne_lo g _ (by decide)), if_neg (ne_lo g _ (by decide)), if_neg (ne_lo g _ (by decide)), if_neg (ne_lo g _ (by decide))]
    · unfold f_X7_placeOf f_X8_placeOf
      rw [hasP_n hB hP8 hP hi, isP_n hP8 hP hi, if_neg h1, if_neg h1]
      rw [in_hi V (show (7 : Int32) < b from lt_le (n := 7) (by decide) g), if_pos rfl, if_neg (ne_hi g _ (by decide)), if_neg (ne_hi g _ (by decide)), if_neg (ne_hi g _ (by decide)), if_neg (ne_hi g _ (by decide)), if_neg (ne_hi g _ (by decide)), if_neg (ne_hi g _ (by decide)), if_neg (ne_hi g _ (by decide)), if_neg (ne_hi g _ (by decide))]
    all_goals simp [f_X7_placeOf, f_X8_placeOf, f_X8_in, hasP_n hB hP8 hP hi, isP_n hP8 hP hi, sgA hB (i := i) (by omega), (sgM V (i := i) (by omega)).2, ctA hB (i := i) (by omega), (ctM V (i := i) (by omega)).2, (raA fu hf hB hO (i := i) (by omega) w0).2, (raA fu hf hB hO (i := i) (by omega) w1).2, (raM fu hf hO (i := i) (by omega) w0).2, (raM fu hf hO (i := i) (by omega) w1).2, r0, r1, wnA hB hP8 hP hi w0, wnA hB hP8 hP hi w1]
    · exact (wnM hP8 hP hi w0).2.symm
    · exact (wnM hP8 hP hi w1).2.symm
    · exact a0.trans m0.symm
    · exact a1.trans m1.symm
theorem hfFU : 20 ≤ FU := Nat.le_of_ble_eq_true rfl
theorem sim_placeOf (V : VT) (a : Int32) (b : Int32) (hR : RelV V) : (p_X7_placeOf FU V a b) ∧ (p_X8_placeOf FU V a b) ∧ (f_X7_placeOf FU V a b) = (f_X8_placeOf FU V a b) ∧ RelV V := by
  obtain ⟨⟨hB, hO⟩, -⟩ := id hR
  obtain ⟨P, hP8, hP⟩ := hO.1
  exact ⟨pl_p7 FU hfFU hB hO hP8 hP a b, pl_p8 FU hfFU hO hP8 hP a b, pl_f FU hfFU hB hO hP8 hP a b, hR⟩
