theorem vfB_n {r : UInt32} (h : vfB r = true) : vf_n32 r := by unfold vf_n32; unfold vfB at h; exact of_decide_eq_true h
theorem boE_ok (fu : Nat) (V : VT) {p1 x : UInt32} {e r : Int32} (h : boE p1 x e = some r) : (vf_n32 (FP.fsub x FP.fconst1) ∧ vf_n32 (FP.fmul (FP.fsub x FP.fconst1) 1258291200)) ∧ (if 0 ≤ (Op.cmpValue (FP.fcmp p1 FP.fconst0) CmpOp.g) then (((0 : Int32) ||| (e <<< (23 &&& 31))) ||| (FP.f2i (FP.fmul (FP.fsub x FP.fconst1) 1258291200))) else ((((-2147483648) : Int32) ||| (e <<< (23 &&& 31))) ||| (FP.f2i (FP.fmul (FP.fsub x FP.fconst1) 1258291200)))) = r := by
  unfold boE at h
  by_cases g : (vfB (FP.fsub x FP.fconst1) && vfB (FP.fmul (FP.fsub x FP.fconst1) 1258291200)) = true
  · rw [if_pos g] at h
    rw [Bool.and_eq_true] at g
    exact ⟨⟨vfB_n g.1, vfB_n g.2⟩, Option.some.inj h⟩
  · rw [if_neg g] at h
    exact absurd h (by intro z; cases z)
theorem bo2_ok (fu : Nat) (V : VT) (p1 : UInt32) : ∀ (w w' : Nat) (x : UInt32) (e k r : Int32), w ≤ w' → bo2 p1 w x e k = some r → p_X7_bitsOf_l2 fu V p1 w' x e k ∧ f_X7_bitsOf_l2 fu V p1 w' x e k = r := by
  intro w
  induction w with
  | zero => intro w' x e k r _ h; cases h
  | succ w ih =>
    intro w' x e k r hw h
    obtain ⟨u, rfl⟩ : ∃ u, w' = u + 1 := ⟨w' - 1, by omega⟩
    rw [bo2] at h
    rw [f_X7_bitsOf_l2, p_X7_bitsOf_l2]
    by_cases g1 : 16 ≤ k
    · rw [if_pos g1] at h
      obtain ⟨a, b⟩ := boE_ok fu V h
      rw [if_pos g1]
      exact ⟨⟨fun _ => a, fun z => absurd g1 z⟩, b⟩
    · rw [if_neg g1] at h
      rw [if_neg g1]
      by_cases g2 : 0 ≤ (Op.cmpValue (FP.fcmp x FP.fconst1) CmpOp.g)
      · rw [if_pos g2] at h
        obtain ⟨a, b⟩ := boE_ok fu V h
        rw [if_pos g2]
        exact ⟨⟨fun z => absurd z g1, fun _ => ⟨fun _ => a, fun z => absurd g2 z⟩⟩, b⟩
      · rw [if_neg g2] at h
        rw [if_neg g2]
        by_cases g3 : vfB (FP.fmul x FP.fconst2) = true
        · rw [if_pos g3] at h
          obtain ⟨a, b⟩ := ih u _ _ _ _ (by omega) h
          exact ⟨⟨fun z => absurd z g1, fun _ => ⟨fun z => absurd z g2, fun _ => ⟨vfB_n g3, a⟩⟩⟩, b⟩
        · rw [if_neg g3] at h
          cases h
theorem bo1_ok (fu : Nat) (hf : 20 ≤ fu) (V : VT) (p1 : UInt32) : ∀ (w w' : Nat) (x : UInt32) (e k r : Int32), w ≤ w' → bo1 p1 w x e k = some r → p_X7_bitsOf_l1 fu V p1 w' x e k ∧ f_X7_bitsOf_l1 fu V p1 w' x e k = r := by
  intro w
  induction w with
  | zero => intro w' x e k r _ h; cases h
  | succ w ih =>
    intro w' x e k r hw h
    obtain ⟨u, rfl⟩ : ∃ u, w' = u + 1 := ⟨w' - 1, by omega⟩
    rw [bo1] at h
    rw [f_X7_bitsOf_l1, p_X7_bitsOf_l1]
    by_cases g1 : 16 ≤ k
    · rw [if_pos g1] at h
      obtain ⟨a, b⟩ := bo2_ok fu V p1 18 fu _ _ _ _ (by omega) h
      rw [if_pos g1]
      exact ⟨⟨fun _ => a, fun z => absurd g1 z⟩, b⟩
    · rw [if_neg g1] at h
      rw [if_neg g1]
      by_cases g2 : (Op.cmpValue (FP.fcmp x FP.fconst2) CmpOp.l) < 0
      · rw [if_pos g2] at h
        obtain ⟨a, b⟩ := bo2_ok fu V p1 18 fu _ _ _ _ (by omega) h
        rw [if_pos g2]
        exact ⟨⟨fun z => absurd z g1, fun _ => ⟨fun _ => a, fun z => absurd g2 z⟩⟩, b⟩
      · rw [if_neg g2] at h
        rw [if_neg g2]
        by_cases g3 : vfB (FP.fdiv x FP.fconst2) = true
        · rw [if_pos g3] at h
          obtain ⟨a, b⟩ := ih u _ _ _ _ (by omega) h
          exact ⟨⟨fun z => absurd z g1, fun _ => ⟨fun z => absurd z g2, fun _ => ⟨vfB_n g3, a⟩⟩⟩, b⟩
        · rw [if_neg g3] at h
          cases h
theorem bo_ok (fu : Nat) (hf : 20 ≤ fu) (V : VT) {p1 : UInt32} {r : Int32} (h : bo p1 = some r) : p_X7_bitsOf fu V p1 ∧ f_X7_bitsOf fu V p1 = r := by
  unfold bo at h
  unfold p_X7_bitsOf f_X7_bitsOf
  by_cases g1 : (Op.cmpValue (FP.fcmp p1 FP.fconst0) CmpOp.l) = 0
  · rw [if_pos g1] at h
    rw [if_pos g1]
    exact ⟨⟨fun _ => trivial, fun z => absurd g1 z⟩, Option.some.inj h⟩
  · rw [if_neg g1] at h
    rw [if_neg g1]
    by_cases g2 : 0 ≤ (Op.cmpValue (FP.fcmp p1 FP.fconst0) CmpOp.g)
    · rw [if_pos g2] at h
      rw [if_pos g2]
      obtain ⟨a, b⟩ := bo1_ok fu hf V p1 18 fu _ _ _ _ (by omega) h
      exact ⟨⟨fun z => absurd z g1, fun _ => ⟨fun _ => a, fun z => absurd g2 z⟩⟩, b⟩
    · rw [if_neg g2] at h
      rw [if_neg g2]
      obtain ⟨a, b⟩ := bo1_ok fu hf V p1 18 fu _ _ _ _ (by omega) h
      exact ⟨⟨fun z => absurd z g1, fun _ => ⟨fun z => absurd z g2, fun _ => a⟩⟩, b⟩
theorem fl_V (V U : VT) (x : UInt32) : f_Jxf58ca_floatToIntBits_5c35a V x = f_Jxf58ca_floatToIntBits_5c35a U x := rfl
theorem q_bits (fu : Nat) (hf : 20 ≤ fu) (V : VT) {P m : Nat} (h1 : 1 ≤ P) (h8 : P ≤ 8) (ha : 240 ≤ m + 30 * P) (hb : m ≤ 240 + 30 * P) : vf_n32 (FP.fdiv (FP.i2f (nI m - nI 240)) (FP.i2f (2 * nI P))) ∧ p_X7_bitsOf fu V (FP.fdiv (FP.i2f (nI m - nI 240)) (FP.i2f (2 * nI P))) ∧ f_X7_bitsOf fu V (FP.fdiv (FP.i2f (nI m - nI 240)) (FP.i2f (2 * nI P))) = f_Jxf58ca_floatToIntBits_5c35a V (FP.fdiv (FP.i2f (nI m - nI 240)) (FP.i2f (2 * nI P))) := by
  have h := chq_ok h1 h8 ha hb
  unfold chq at h
  rw [Bool.and_eq_true] at h
  generalize FP.fdiv (FP.i2f (nI m - nI 240)) (FP.i2f (2 * nI P)) = x at *
  obtain ⟨a, b⟩ := h
  rw [fl_V _ V] at b
  obtain ⟨c, d⟩ := bo_ok fu hf V (of_decide_eq_true b)
  exact ⟨vfB_n a, c, d⟩
/-- the margin of a place, or 0 -/
def mzS (s : Nat → Int32) (P i w : Nat) : Int32 := if s (7 + (s (wix P i w)).toNatClampNeg) = -1 then 0 else mgS s (svN s i w) (s (wix P i w)).toNatClampNeg
def smS (s : Nat → Int32) (P : Nat) : Nat → Int32
  | 0 => 0
  | i + 1 => smS s P i + (mzS s P i 0 + mzS s P i 1)
section QU
variable {V : VT} {P : Nat}
theorem mz_ab (hO : SOk (V 49)) (hP8 : P ≤ 8) {i w : Nat} (h : i < P) : ∃ a b, a ≤ 15 ∧ b ≤ 15 ∧ mzS (V 49) P i w = nI a - nI b := by
  obtain ⟨k, k1, k2⟩ := wn_ok hO hP8 h (w := w)
  unfold mzS
  rw [k2, nI_clamp (by omega)]
  by_cases q : V 49 (7 + k) = -1
  · rw [if_pos q]; exact ⟨0, 0, by omega, by omega, rfl⟩
  · rw [if_neg q]
    exact ⟨_, _, lsS_le _ _ _ _, pcN_le (xor_lt (sv_lt hO (i := i) (w := w) (by omega)) (hO.dr k1 q).2), rfl⟩
theorem sub_i4 (x y z u : Int32) : (x - y) + (z - u) = (x + z) - (y + u) := by grind
theorem sub_e4 (x y z w : Int32) (h : x + z = w + y) : x - y = w - z := by grind
theorem sub_add4 (a b c d : Nat) : (nI a - nI b) + (nI c - nI d) = nI (a + c) - nI (b + d) := by rw [← nI_add, ← nI_add]; exact sub_i4 _ _ _ _
theorem sm_ab (hO : SOk (V 49)) (hP8 : P ≤ 8) : ∀ i, i ≤ P → ∃ a b, a ≤ 30 * i ∧ b ≤ 30 * i ∧ smS (V 49) P i = nI a - nI b
  | 0, _ => ⟨0, 0, by omega, by omega, rfl⟩
  | i + 1, h => by
    obtain ⟨a, b, h1, h2, h3⟩ := sm_ab hO hP8 i (by omega)
    obtain ⟨c, d, g1, g2, g3⟩ := mz_ab hO hP8 (w := 0) (show i < P by omega)
    obtain ⟨e, f, k1, k2, k3⟩ := mz_ab hO hP8 (w := 1) (show i < P by omega)
    rw [smS, h3, g3, k3, sub_add4, sub_add4]
    exact ⟨_, _, by omega, by omega, rfl⟩
theorem mzA (fu : Nat) (hf : 20 ≤ fu) (hB : BRel V 6 (V 49)) (hO : SOk (V 49)) (hP8 : P ≤ 8) (hP : V 49 0 = nI P) {i : Nat} (h : i < P) {wI : Int32} {w : Nat} (hw : Way wI w) : p_X7_marginOrZero fu V (nI i) wI ∧ f_X7_marginOrZero fu V (nI i) wI = mzS (V 49) P i w := by
  obtain ⟨k, k1, k2⟩ := wn_ok hO hP8 h (w := w)
  unfold p_X7_marginOrZero f_X7_marginOrZero p_X0_marginAt f_X0_marginAt mzS
  rw [wnA hB hP8 hP h hw, k2, nI_clamp (by omega), has_n V hB k1, seenA hB hO (by omega) hw]
  by_cases q : V 49 (7 + k) = -1
  · rw [if_pos q, if_pos rfl, if_pos q]
    exact ⟨⟨fun _ => trivial, fun z => absurd rfl z⟩, rfl⟩
  · have hm := margin_c fu hf V hB hO (sv_lt hO (i := i) (w := w) (by omega)) k1 q
    rw [if_neg q, if_neg (by decide), if_neg q]
    exact ⟨⟨fun _ => trivial, fun _ => hm.1⟩, hm.2⟩
theorem qu_c (fu : Nat) (hf : 20 ≤ fu) (hB : BRel V 6 (V 49)) (hO : SOk (V 49)) (hP8 : P ≤ 8) (hP : V 49 0 = nI P) (hv : vf_n32 (FP.fdiv (FP.i2f (smS (V 49) P P)) (FP.i2f (2 * nI P))) ∧ p_X7_bitsOf fu V (FP.fdiv (FP.i2f (smS (V 49) P P)) (FP.i2f (2 * nI P)))) : ∀ (w i : Nat), i ≤ P → P - i < w → p_X7_quality_l1 fu V w (smS (V 49) P i) (nI i) ∧ f_X7_quality_l1 fu V w (smS (V 49) P i) (nI i) = f_X7_bitsOf fu V (FP.fdiv (FP.i2f (smS (V 49) P P)) (FP.i2f (2 * nI P))) := by
  have w0 : Way 0 0 := Or.inl ⟨rfl, rfl⟩
  have w1 : Way 1 1 := Or.inr ⟨rfl, rfl⟩
  intro w
  induction w with
  | zero => intro i hi h; omega
  | succ w ih =>
    intro i hi h
    rw [f_X7_quality_l1, p_X7_quality_l1, cpl hB hP]
    rcases Nat.lt_or_ge i P with q | q
    · have b1 : ¬ nI P ≤ nI i := nI_ge q (by omega)
      obtain ⟨m1, m2⟩ := mzA fu hf hB hO hP8 hP q w0
      obtain ⟨m3, m4⟩ := mzA fu hf hB hO hP8 hP q w1
      obtain ⟨r1, r2⟩ := ih (i + 1) (by omega) (by omega)
      rw [if_neg b1, m2, m4, nI_1]
      exact ⟨⟨fun z => absurd z b1, fun _ => ⟨m1, m3, r1⟩⟩, r2⟩
    · have e : i = P := by omega
      subst e
      have b1 : nI i ≤ nI i := nI_le (Nat.le_refl _) (by omega)
      rw [if_pos b1]
      exact ⟨⟨fun _ => hv, fun z => absurd b1 z⟩, rfl⟩
theorem qu_s (fu : Nat) (hf : 20 ≤ fu) (hO : SOk (V 49)) (hP8 : P ≤ 8) (hP : V 49 0 = nI P) {i : Nat} (h : i < P) {wI : Int32} {w : Nat} (hw : Way wI w) (fw : Nat) (x : Int32) (j : Nat) (hj : j < 2 * P) (h1 : nI j / 2 = nI i) (h2 : nI j - nI i * 2 = wI) (hp : p_X8_quality_l1 fu V fw (x + mzS (V 49) P i w) (nI (j + 1))) : p_X8_quality_l1 fu V (fw + 1) x (nI j) ∧ f_X8_quality_l1 fu V (fw + 1) x (nI j) = f_X8_quality_l1 fu V fw (x + mzS (V 49) P i w) (nI (j + 1)) := by
  obtain ⟨k, k1, k2⟩ := wn_ok hO hP8 h (w := w)
  obtain ⟨a1, a2⟩ := wnM hP8 hP h hw
  obtain ⟨s1, s2⟩ := sbM fu hf hO (i := i) (by omega) hw
  obtain ⟨d1, d2⟩ := drawn_n V k1
  have x2 : 2 * nI P = nI (2 * P) := by rw [show (2 : Int32) = nI 2 from rfl, pk_mul]
  have b1 : ¬ nI (2 * P) ≤ nI j := nI_ge hj (by omega)
  rw [f_X8_quality_l1, p_X8_quality_l1, z0, hP, x2, h1, h2, if_neg b1, a2, k2, d2, s2, nI_1]
  unfold mzS at hp ⊢
  rw [k2, nI_clamp (by omega)] at hp ⊢
  by_cases q : V 49 (7 + k) = -1
  · have q2 : ¬ (0 : Int32) ≤ V 49 (7 + k) := by rw [q]; decide
    rw [if_pos q] at hp ⊢
    rw [if_neg q2]
    exact ⟨⟨fun z => absurd z b1, fun _ => ⟨a1, d1, fun z => absurd z q2, fun _ => hp⟩⟩, rfl⟩
  · have g := hO.dr k1 q
    have q2 : (0 : Int32) ≤ V 49 (7 + k) := by rw [g.1]; exact nI_nn (by omega)
    have hm := margin_m fu hf V hO (sv_lt hO (i := i) (w := w) (by omega)) k1 q
    rw [if_neg q] at hp ⊢
    rw [if_pos q2, hm.2]
    exact ⟨⟨fun z => absurd z b1, fun _ => ⟨a1, d1, fun _ => ⟨s1, hm.1, hp⟩, fun z => absurd q2 z⟩⟩, rfl⟩
theorem qu_m (fu : Nat) (hf : 20 ≤ fu) (hO : SOk (V 49)) (hP8 : P ≤ 8) (hP : V 49 0 = nI P) (hv : vf_n32 (FP.fdiv (FP.i2f (smS (V 49) P P)) (FP.i2f (2 * nI P)))) : ∀ (w i : Nat), i ≤ P → 2 * (P - i) < w → p_X8_quality_l1 fu V w (smS (V 49) P i) (nI (2 * i)) ∧ f_X8_quality_l1 fu V w (smS (V 49) P i) (nI (2 * i)) = f_Jxf58ca_floatToIntBits_5c35a V (FP.fdiv (FP.i2f (smS (V 49) P P)) (FP.i2f (2 * nI P))) := by
  have w0 : Way 0 0 := Or.inl ⟨rfl, rfl⟩
  have w1 : Way 1 1 := Or.inr ⟨rfl, rfl⟩
  intro w
  induction w using Nat.strongRecOn with
  | ind w ih =>
    intro i hi h
    rcases Nat.lt_or_ge i P with q | q
    · obtain ⟨u, rfl⟩ : ∃ u, w = u + 1 + 1 := ⟨w - 2, by omega⟩
      obtain ⟨r1, r2⟩ := ih u (by omega) (i + 1) (by omega) (by omega)
      rw [smS, ← Int32.add_assoc] at r1 r2
      have e1 : nI (2 * i) / 2 = nI i := by rw [show (2 : Int32) = nI 2 from rfl, pk_div (by omega) (by decide) (by decide), show 2 * i / 2 = i by omega]
      have e2 : nI (2 * i) - nI i * 2 = 0 := by rw [show (2 : Int32) = nI 2 from rfl, pk_mul, pk_sub (by omega), show 2 * i - i * 2 = 0 by omega]; rfl
      have e3 : nI (2 * i + 1) / 2 = nI i := by rw [show (2 : Int32) = nI 2 from rfl, pk_div (by omega) (by decide) (by decide), show (2 * i + 1) / 2 = i by omega]
      have e4 : nI (2 * i + 1) - nI i * 2 = 1 := by rw [show (2 : Int32) = nI 2 from rfl, pk_mul, pk_sub (by omega), show 2 * i + 1 - i * 2 = 1 by omega]; rfl
      obtain ⟨s3, s4⟩ := qu_s fu hf hO hP8 hP q w1 u (smS (V 49) P i + mzS (V 49) P i 0) (2 * i + 1) (by omega) e3 e4 r1
      obtain ⟨s1, s2⟩ := qu_s fu hf hO hP8 hP q w0 (u + 1) (smS (V 49) P i) (2 * i) (by omega) e1 e2 s3
      exact ⟨s1, s2.trans (s4.trans r2)⟩
    · have e : i = P := by omega
      subst e
      obtain ⟨u, rfl⟩ : ∃ u, w = u + 1 := ⟨w - 1, by omega⟩
      have x2 : 2 * nI i = nI (2 * i) := by rw [show (2 : Int32) = nI 2 from rfl, pk_mul]
      have b1 : nI (2 * i) ≤ nI (2 * i) := nI_le (Nat.le_refl _) (by omega)
      rw [x2] at hv ⊢
      rw [f_X8_quality_l1, p_X8_quality_l1, z0, hP, x2, if_pos b1]
      exact ⟨⟨fun _ => hv, fun z => absurd b1 z⟩, rfl⟩
end QU
theorem simG_quality (fu : Nat) (hf : 200 ≤ fu) (V : VT) (hR : RelV V) : (p_X7_quality fu V) ∧ (p_X8_quality fu V) ∧ (f_X7_quality fu V) = (f_X8_quality fu V) ∧ RelV V := by
  obtain ⟨⟨hB, hO⟩, -⟩ := id hR
  obtain ⟨P, hP8, hP⟩ := hO.1
  have hP6 := cpl hB hP
  rcases Nat.eq_zero_or_pos P with q | q
  · subst q
    have hP6' : V 6 0 = 0 := hP6
    have hP' : V 49 0 = 0 := hP
    exact ⟨by simp [p_X7_quality, hP6'], by simp [p_X8_quality, hP'], by simp [f_X7_quality, f_X8_quality, hP6', hP'], hR⟩
  · have n0 : ¬ nI P = 0 := nI_ne0 q (by omega)
    obtain ⟨a, b, h1, h2, h3⟩ := sm_ab hO hP8 P (Nat.le_refl _)
    have e : smS (V 49) P P = nI (a + 240 - b) - nI 240 := by
      rw [h3]
      exact sub_e4 _ _ _ _ (by rw [nI_add, nI_add, show a + 240 - b + b = a + 240 by omega])
    obtain ⟨v1, v2, v3⟩ := q_bits fu (by omega) V q hP8 (m := a + 240 - b) (by omega) (by omega)
    rw [← e] at v1 v2 v3
    have c := qu_c fu (by omega) hB hO hP8 hP ⟨v1, v2⟩ fu 0 (by omega) (by omega)
    have m := qu_m fu (by omega) hO hP8 hP v1 fu 0 (by omega) (by omega)
    refine ⟨⟨fun _ => trivial, fun _ => c.1⟩, ⟨fun _ => trivial, fun _ => m.1⟩, ?_, hR⟩
    unfold f_X7_quality f_X8_quality
    rw [hP6, z0, hP, if_neg n0, if_neg n0]
    exact c.2.trans (v3.trans m.2.symm)
