/-! the model's way through the tree -/
theorem and_sp {k b d : Nat} (hb : b < 2 ^ k) (hd : d < 2 ^ k) (a c : Nat) : (2 ^ k * a + b) &&& (2 ^ k * c + d) = 2 ^ k * (a &&& c) + (b &&& d) := by
  have h := Nat.div_add_mod ((2 ^ k * a + b) &&& (2 ^ k * c + d)) (2 ^ k)
  rw [Nat.and_div_two_pow, Nat.and_mod_two_pow, div_lo hb, div_lo hd, Nat.mul_add_mod, Nat.mul_add_mod, Nat.mod_eq_of_lt hb, Nat.mod_eq_of_lt hd] at h
  exact h.symm
theorem and_lo (k a m : Nat) : (2 ^ k * a) &&& m = 2 ^ k * (a &&& m / 2 ^ k) := by
  have h := and_sp (k := k) (b := 0) (d := m % 2 ^ k) (Nat.two_pow_pos k) (Nat.mod_lt _ (Nat.two_pow_pos k)) a (m / 2 ^ k)
  rw [Nat.add_zero, Nat.div_add_mod, Nat.zero_and, Nat.add_zero] at h
  exact h
theorem sub_xor : ∀ (n M A : Nat), M < n → A &&& M = A → A + (M ^^^ A) = M
  | 0, M, A, h, _ => absurd h (Nat.not_lt_zero _)
  | n + 1, M, A, h, hA => by
    rcases Nat.eq_zero_or_pos M with q | q
    · subst q
      rw [Nat.and_zero] at hA
      subst hA
      rfl
    · have h1 : A / 2 &&& M / 2 = A / 2 := by rw [← Nat.and_div_two, hA]
      have ih := sub_xor n (M / 2) (A / 2) (by omega) h1
      have h2 : (M ^^^ A) / 2 = M / 2 ^^^ A / 2 := Nat.xor_div_two
      have h3 := bt_xor M A 0
      have h4 : A % 2 &&& M % 2 = A % 2 := by
        have := @Nat.and_mod_two_pow A M 1
        rw [Nat.pow_one, hA] at this
        exact this.symm
      unfold bt at h3
      rw [Nat.pow_zero, Nat.div_one, Nat.div_one, Nat.div_one] at h3
      have h5 : A % 2 ≤ M % 2 := by rw [← h4]; exact Nat.and_le_right
      rw [← h2] at ih
      omega
theorem hi_and {n M A : Nat} (hM : M < 2 ^ n) (hA : A &&& M = A) : (2 ^ n - ((M - A) + 1)) &&& M = A := by
  have hx := sub_xor (M + 1) M A (Nat.lt_succ_self _) hA
  have hD : M - A = M ^^^ A := by omega
  have hDl : M ^^^ A < 2 ^ n := by omega
  rw [hD]
  apply Nat.eq_of_testBit_eq
  intro i
  rw [Nat.testBit_and, Nat.testBit_two_pow_sub_succ hDl, Nat.testBit_xor]
  have h1 : A.testBit i = (A.testBit i && M.testBit i) := by rw [← Nat.testBit_and, hA]
  by_cases hi : i < n
  · rw [decide_eq_true hi]
    revert h1
    cases A.testBit i <;> cases M.testBit i <;> decide
  · have hf : M.testBit i = false := Nat.testBit_lt_two_pow (Nat.lt_of_lt_of_le hM (Nat.pow_le_pow_right (by decide) (Nat.le_of_not_lt hi)))
    rw [h1, hf]
    simp
theorem nI_wrap (a : Nat) : nI (2 ^ 32 + a) = nI a := by
  apply Int32.toBitVec_inj.1
  show BitVec.ofNat 32 (2 ^ 32 + a) = BitVec.ofNat 32 a
  apply BitVec.eq_of_toNat_eq
  rw [BitVec.toNat_ofNat, BitVec.toNat_ofNat, Nat.add_mod_left]
/-- the next part of a mask -/
theorem nx_n {c M A r : Nat} (hc : c ≤ 14) (hM : M < 32768) (hA : A &&& M = A) (hr : r < 2 ^ c) : (nI (2 ^ (c + 1) * A + r) - nI (2 ^ (c + 1) * M + (2 ^ c + r))) &&& nI (2 ^ (c + 1) * M + (2 ^ c + r)) = nI (2 ^ (c + 1) * A + 2 ^ c) := by
  have hx := sub_xor (M + 1) M A (Nat.lt_succ_self _) hA
  have hAM : A ≤ M := by omega
  have h32 : 2 ^ (c + 1) * 2 ^ (31 - c) = 2 ^ 32 := by rw [← Nat.pow_add, show c + 1 + (31 - c) = 32 by omega]
  have hMn : M < 2 ^ (31 - c) := Nat.lt_of_lt_of_le hM (by
    have : 2 ^ 15 ≤ 2 ^ (31 - c) := Nat.pow_le_pow_right (by decide) (by omega)
    exact this)
  have hcl : 2 ^ c + r < 2 ^ (c + 1) := by rw [Nat.pow_succ]; omega
  have hc2 : 2 ^ (c + 1) = 2 * 2 ^ c := by rw [Nat.pow_succ, Nat.mul_comm]
  have hmul : 2 ^ (c + 1) * M < 2 ^ 32 := by rw [← h32]; exact (Nat.mul_lt_mul_left (Nat.two_pow_pos _)).mpr hMn
  -- the difference
  have e1 : 2 ^ 32 + (2 ^ (c + 1) * A + r) - (2 ^ (c + 1) * M + (2 ^ c + r)) = 2 ^ (c + 1) * (2 ^ (31 - c) - ((M - A) + 1)) + 2 ^ c := by
    have g1 : 2 ^ (c + 1) * (2 ^ (31 - c) - ((M - A) + 1)) = 2 ^ 32 - (2 ^ (c + 1) * (M - A) + 2 ^ (c + 1)) := by rw [Nat.mul_sub, h32, Nat.mul_add, Nat.mul_one]
    have g2 : 2 ^ (c + 1) * (M - A) = 2 ^ (c + 1) * M - 2 ^ (c + 1) * A := Nat.mul_sub _ _ _
    have g3 : 2 ^ (c + 1) * A ≤ 2 ^ (c + 1) * M := Nat.mul_le_mul_left _ hAM
    have g4 : 2 ^ (c + 1) * (M - A) + 2 ^ (c + 1) ≤ 2 ^ 32 := by
      have : 2 ^ (c + 1) * ((M - A) + 1) ≤ 2 ^ (c + 1) * 2 ^ (31 - c) := Nat.mul_le_mul_left _ (by omega)
      rw [h32, Nat.mul_add, Nat.mul_one] at this
      exact this
    rw [g1]
    omega
  have hle : 2 ^ (c + 1) * M + (2 ^ c + r) ≤ 2 ^ 32 + (2 ^ (c + 1) * A + r) := by
    have : 2 ^ (c + 1) * (M + 1) ≤ 2 ^ (c + 1) * 2 ^ (31 - c) := Nat.mul_le_mul_left _ hMn
    rw [h32, Nat.mul_add, Nat.mul_one] at this
    omega
  have hcc : 2 ^ c < 2 ^ (c + 1) := by have := Nat.two_pow_pos c; omega
  have hlow : 2 ^ c &&& (2 ^ c + r) = 2 ^ c := by
    have := and_sp (k := c) (b := 0) (d := r) (Nat.two_pow_pos c) hr 1 1
    rw [Nat.mul_one, Nat.add_zero, Nat.zero_and, Nat.add_zero] at this
    rw [this]
    exact Nat.mul_one _
  rw [← nI_wrap (2 ^ (c + 1) * A + r), pk_sub hle, e1, fa_and, and_sp hcc hcl, hi_and hMn hA, hlow]
def MV (V : VT) (st : Int32 × Nat) : VT := upV (upV V 48 3 st.1) 48 4 (lI st.2)
theorem MV_ne (V : VT) (st : Int32 × Nat) {a : Nat} (h : a ≠ 48) : MV V st a = V a := by unfold MV; rw [upV_ne _ _ _ h, upV_ne _ _ _ h]
theorem MV_j (V : VT) (st : Int32 × Nat) {j : Nat} (h : j ≠ 3) (h2 : j ≠ 4) : MV V st 48 j = V 48 j := by unfold MV; rw [upV_eq, if_neg (fun z => h2 z.2), upV_eq, if_neg (fun z => h z.2)]
theorem MV_4 (V : VT) (st : Int32 × Nat) : MV V st 48 4 = lI st.2 := by unfold MV; rw [upV_eq, if_pos ⟨rfl, rfl⟩]
theorem MV_3 (V : VT) (st : Int32 × Nat) : MV V st 48 3 = st.1 := by unfold MV; rw [upV_eq, if_neg (by decide), upV_eq, if_pos ⟨rfl, rfl⟩]
theorem MV_MV (V : VT) (st st' : Int32 × Nat) : upV (upV (MV V st) 48 3 st'.1) 48 4 (lI st'.2) = MV V st' := by
  funext a j
  unfold MV
  simp only [upV_eq]
  by_cases h1 : a = 48 ∧ j = 4
  · simp [h1]
  · by_cases h2 : a = 48 ∧ j = 3
    · simp [h2]
    · simp [h1, h2]
theorem try_n (fu : Nat) (hf : 20 ≤ fu) {V : VT} (hO : SOk (V 49)) {a b x : Nat} (ha : a < 10) (hb : b < 10) (hda : V 49 (7 + a) ≠ -1) (hdb : V 49 (7 + b) ≠ -1) (hx : x < 32768) (st : Int32 × Nat) (hst : st.2 ≤ 16) : p_X8_tries fu (MV V st) (nI x) (nI a) (nI b) ∧ f_X8_tries fu (MV V st) (nI x) (nI a) (nI b) = MV V (if st.2 < scS (V 49) a b x then (nI x, scS (V 49) a b x) else st) := by
  have e55 : MV V st 49 = V 49 := MV_ne _ _ (by decide)
  have hO2 : SOk (MV V st 49) := by rw [e55]; exact hO
  have ht := tnN_lt hx
  have R1 := read_n fu hf (MV V st) hO2 hx
  have R2 := read_n fu hf (MV V st) hO2 ht
  have T := turned_n fu (by omega) (MV V st) hx
  have M1 := margin_m fu hf (MV V st) hO2 hx ha (by rw [e55]; exact hda)
  have M2 := margin_m fu hf (MV V st) hO2 ht hb (by rw [e55]; exact hdb)
  rw [e55] at R1 R2 M1 M2
  have b1 := ld_lt (s := V 49) x a
  have b2 := ld_lt (s := V 49) (tnN x) b
  unfold p_X8_tries f_X8_tries
  rw [T.2, R1.2, R2.2, M1.2, M2.2, MV_4]
  by_cases g1 : (nrS (V 49) x 10 10).1 = nI a
  · rw [if_pos g1, mg_ld hO hx ha g1]
    by_cases g2 : (nrS (V 49) (tnN x) 10 10).1 = nI b
    · rw [if_pos g2, mg_ld hO ht hb g2]
      refine ⟨⟨R1.1, fun _ => ⟨T.1, R2.1, fun _ => ⟨M1.1, M2.1⟩, fun z => absurd g2 z⟩, fun z => absurd g1 z⟩, ?_⟩
      by_cases g3 : ldS (V 49) (tnN x) b ≤ ldS (V 49) x a
      · have es : scS (V 49) a b x = ldS (V 49) (tnN x) b := Nat.min_eq_right g3
        rw [if_pos ((lI_le (by omega) (by omega)).mpr g3), es]
        by_cases g4 : ldS (V 49) (tnN x) b ≤ st.2
        · rw [if_pos ((lI_le (by omega) (by omega)).mpr g4), if_neg (by omega)]
        · rw [if_neg (fun z => g4 ((lI_le (by omega) (by omega)).mp z)), if_pos (by omega)]
          exact MV_MV V st (nI x, ldS (V 49) (tnN x) b)
      · have es : scS (V 49) a b x = ldS (V 49) x a := Nat.min_eq_left (by omega)
        rw [if_neg (fun z => g3 ((lI_le (by omega) (by omega)).mp z)), es]
        by_cases g4 : ldS (V 49) x a ≤ st.2
        · rw [if_pos ((lI_le (by omega) (by omega)).mpr g4), if_neg (by omega)]
        · rw [if_neg (fun z => g4 ((lI_le (by omega) (by omega)).mp z)), if_pos (by omega)]
          exact MV_MV V st (nI x, ldS (V 49) x a)
    · have es : scS (V 49) a b x = 0 := by
        have : ldS (V 49) (tnN x) b = 0 := by unfold ldS; rw [if_neg g2]
        unfold scS
        rw [this, Nat.min_zero]
      rw [if_neg g2, es, if_neg (Nat.not_lt_zero _)]
      exact ⟨⟨R1.1, fun _ => ⟨T.1, R2.1, fun z => absurd z g2, fun _ => trivial⟩, fun z => absurd g1 z⟩, rfl⟩
  · have es : scS (V 49) a b x = 0 := by
      have : ldS (V 49) x a = 0 := by unfold ldS; rw [if_neg g1]
      unfold scS
      rw [this, Nat.zero_min]
    rw [if_neg g1, es, if_neg (Nat.not_lt_zero _)]
    exact ⟨⟨R1.1, fun z => absurd z g1, fun _ => trivial⟩, rfl⟩
/-- what the tree's part may hold -/
def Cons (u v c k : Nat) : Prop := ∀ i, i < 15 - c → bt k i = bt u (c + i) ∨ bt k i = bt v (c + i)
theorem Cons.down {u v c k β : Nat} (h : Cons u v (c + 1) k) (hb : β < 2) (hc : c < 15) (hβ : bt u c = β ∨ bt v c = β) : Cons u v c (2 * k + β) := by
  intro i hi
  rcases Nat.eq_zero_or_pos i with q | q
  · subst q
    have : bt (2 * k + β) 0 = β := by unfold bt; rw [Nat.pow_zero, Nat.div_one]; omega
    rw [this, Nat.add_zero]
    exact hβ.imp Eq.symm Eq.symm
  · have e : bt (2 * k + β) i = bt k (i - 1) := by
      have := bt_hi (c := 1) q (2 * k + β)
      rw [this, Nat.pow_one, show (2 * k + β) / 2 = k by omega]
    have := h (i - 1) (by omega)
    rw [show c + 1 + (i - 1) = c + i by omega] at this
    rw [e]
    exact this
def NC (m : Nat) : Nat → Nat
  | 0 => 1
  | c + 1 => if bt m c = 1 then 2 * NC m c else NC m c
theorem NC_le (m : Nat) : ∀ c, NC m c ≤ 2 ^ c
  | 0 => Nat.le_refl _
  | c + 1 => by
    have := NC_le m c
    rw [NC, Nat.pow_succ]
    split <;> omega
theorem tb_bt (x i : Nat) : x.testBit i = decide (bt x i = 1) := Nat.testBit_eq_decide_div_mod_eq
theorem same_n (u v : Nat) : nI u &&& (nI (u ^^^ v) ^^^ -1) = nI (u &&& v) := by
  apply Int32.toBitVec_inj.1
  show BitVec.ofNat 32 u &&& (BitVec.ofNat 32 (u ^^^ v) ^^^ BitVec.allOnes 32) = BitVec.ofNat 32 (u &&& v)
  apply BitVec.eq_of_getLsbD_eq
  intro i hi
  simp only [BitVec.getLsbD_and, BitVec.getLsbD_xor, BitVec.getLsbD_ofNat, BitVec.getLsbD_allOnes, hi, decide_true, Bool.true_and, Nat.testBit_xor, Nat.testBit_and]
  cases u.testBit i <;> cases v.testBit i <;> rfl
theorem leaf_n {u v k : Nat} (hu : u < 32768) (hv : v < 32768) (hk : k < 32768) (h : Cons u v 0 k) : (u &&& v) ||| (k &&& (u ^^^ v)) = k := by
  apply Nat.eq_of_testBit_eq
  intro i
  rw [Nat.testBit_or, Nat.testBit_and, Nat.testBit_and, Nat.testBit_xor]
  rcases Nat.lt_or_ge i 15 with q | q
  · have := h i (by omega)
    rw [Nat.zero_add] at this
    rw [tb_bt, tb_bt, tb_bt]
    have b1 := bt_le u i
    have b2 := bt_le v i
    have b3 := bt_le k i
    generalize bt u i = x at *
    generalize bt v i = y at *
    generalize bt k i = z at *
    rcases (show x = 0 ∨ x = 1 by omega) with rfl | rfl <;> rcases (show y = 0 ∨ y = 1 by omega) with rfl | rfl <;> rcases (show z = 0 ∨ z = 1 by omega) with rfl | rfl <;> first | rfl | (exfalso; omega)
  · have big : ∀ w, w < 32768 → w.testBit i = false := fun w hw => Nat.testBit_lt_two_pow (Nat.lt_of_lt_of_le (show w < 2 ^ 15 from hw) (Nat.pow_le_pow_right (by decide) q))
    rw [big u hu, big v hv, big k hk]
    rfl
