/-! signs composed: the tree of them, and the class's way through it -/
theorem bt_lo {c i : Nat} (h : i < c) (k r : Nat) : bt (2 ^ c * k + r) i = bt r i := by
  unfold bt
  obtain ⟨d, rfl⟩ : ∃ d, c = i + 1 + d := ⟨c - i - 1, by omega⟩
  have e : 2 ^ (i + 1 + d) * k = 2 ^ i * (2 * (2 ^ d * k)) := by
    rw [Nat.pow_add, Nat.pow_add, Nat.pow_one, Nat.mul_assoc, Nat.mul_assoc]
  rw [e, Nat.mul_add_div (Nat.two_pow_pos i)]
  omega
theorem bt_hi {c i : Nat} (h : c ≤ i) (x : Nat) : bt x i = bt (x / 2 ^ c) (i - c) := by
  unfold bt
  rw [Nat.div_div_eq_div_mul, ← Nat.pow_add, show c + (i - c) = i by omega]
theorem bt_mod {c i : Nat} (h : i < c) (u : Nat) : bt (u % 2 ^ c) i = bt u i := by
  have := bt_lo h (u / 2 ^ c) (u % 2 ^ c)
  rw [Nat.div_add_mod] at this
  exact this.symm
theorem div_lo {c k r : Nat} (h : r < 2 ^ c) : (2 ^ c * k + r) / 2 ^ c = k := by rw [Nat.mul_add_div (Nat.two_pow_pos c), Nat.div_eq_of_lt h, Nat.add_zero]
def scS (s : Nat → Int32) (a b x : Nat) : Nat := min (ldS s x a) (ldS s (tnN x) b)
def TT (s : Nat → Int32) (a b u v : Nat) : Nat → Nat → Int32 × Nat → Int32 × Nat
  | 0, k, st => if st.2 < scS s a b k then (nI k, scS s a b k) else st
  | c + 1, k, st =>
    if bt u c = 1 ∨ bt v c = 1 then TT s a b u v c (2 * k + 1) (if bt u c = 0 ∨ bt v c = 0 then TT s a b u v c (2 * k) st else st) else (if bt u c = 0 ∨ bt v c = 0 then TT s a b u v c (2 * k) st else st)
theorem sc_le (s : Nat → Int32) (a b x : Nat) : scS s a b x ≤ 16 := by
  unfold scS
  have := ld_lt (s := s) x a
  omega
theorem TT_prune (s : Nat → Int32) (a b u v : Nat) : ∀ (c k : Nat) (st : Int32 × Nat), (∀ x, x / 2 ^ c = k → scS s a b x ≤ st.2) → TT s a b u v c k st = st
  | 0, k, st, h => by
    have := h k (by rw [Nat.pow_zero, Nat.div_one])
    rw [TT, if_neg (by omega)]
  | c + 1, k, st, h => by
    have hx : ∀ β, β < 2 → ∀ x, x / 2 ^ c = 2 * k + β → scS s a b x ≤ st.2 := fun β hb x hx => h x (by rw [Nat.pow_succ, ← Nat.div_div_eq_div_mul, hx]; omega)
    have h0 := TT_prune s a b u v c (2 * k) st (hx 0 (by decide))
    have h1 := TT_prune s a b u v c (2 * k + 1) st (hx 1 (by decide))
    rw [TT, h0, ite_self, h1, ite_self]
theorem TT_le (s : Nat → Int32) (a b u v : Nat) : ∀ (c k : Nat) (st : Int32 × Nat), st.2 ≤ 16 → (TT s a b u v c k st).2 ≤ 16
  | 0, k, st, h => by
    rw [TT]
    split
    · exact sc_le s a b k
    · exact h
  | c + 1, k, st, h => by
    have h0 := TT_le s a b u v c (2 * k) st h
    rw [TT]
    split
    · refine TT_le s a b u v c _ _ ?_
      split
      · exact h0
      · exact h
    · split
      · exact h0
      · exact h
/-- what the best is -/
def Bst (st : Int32 × Nat) : Prop := (st.1 = -1 ∧ st.2 = 0) ∨ ((∃ x, x < 32768 ∧ st.1 = nI x) ∧ 0 < st.2)
theorem TT_ok (s : Nat → Int32) (a b u v : Nat) : ∀ (c k : Nat) (st : Int32 × Nat), c ≤ 15 → k < 2 ^ (15 - c) → Bst st → Bst (TT s a b u v c k st)
  | 0, k, st, _, hk, h => by
    rw [TT]
    split
    · exact Or.inr ⟨⟨k, hk, rfl⟩, by dsimp only; omega⟩
    · exact h
  | c + 1, k, st, hc, hk, h => by
    have e : 2 ^ (15 - c) = 2 * 2 ^ (15 - (c + 1)) := by rw [show 15 - c = 15 - (c + 1) + 1 by omega, Nat.pow_succ, Nat.mul_comm]
    have h0 := TT_ok s a b u v c (2 * k) st (by omega) (by omega) h
    rw [TT]
    split
    · refine TT_ok s a b u v c _ _ (by omega) (by omega) ?_
      split
      · exact h0
      · exact h
    · split
      · exact h0
      · exact h
theorem lt15 {c k r : Nat} (hc : c ≤ 15) (hk : k < 2 ^ (15 - c)) (hr : r < 2 ^ c) : 2 ^ c * k + r < 32768 := by
  have e : 2 ^ c * 2 ^ (15 - c) = 32768 := by rw [← Nat.pow_add, show c + (15 - c) = 15 by omega]
  have : 2 ^ c * (k + 1) ≤ 2 ^ c * 2 ^ (15 - c) := Nat.mul_le_mul_left _ hk
  rw [e, Nat.mul_add, Nat.mul_one] at this
  omega
/-- the bound of a part of the tree -/
theorem bnd {s : Nat → Int32} (hO : SOk s) {a b c k x : Nat} (ha : a < 10) (hb : b < 10) (hda : s (7 + a) ≠ -1) (hdb : s (7 + b) ≠ -1) (hc : c ≤ 15) (hk : k < 2 ^ (15 - c)) (hx : x / 2 ^ c = k) : scS s a b x ≤ min (ldS s (2 ^ c * k + dn s a % 2 ^ c) a) (ldS s (tnN (2 ^ c * k + tnN (dn s b) % 2 ^ c)) b) := by
  have hm : ∀ u, u % 2 ^ c < 2 ^ c := fun u => Nat.mod_lt _ (Nat.two_pow_pos c)
  have hx2 : x = 2 ^ c * k + x % 2 ^ c := by rw [← hx, Nat.div_add_mod]
  have hx3 : x < 32768 := by rw [hx2]; exact lt15 hc hk (hm x)
  have bits : ∀ u i, i < 15 → (i < c ∧ bt (2 ^ c * k + u % 2 ^ c) i = bt u i) ∨ bt x i = bt (2 ^ c * k + u % 2 ^ c) i := fun u i hi => by
    rcases Nat.lt_or_ge i c with q | q
    · exact Or.inl ⟨q, by rw [bt_lo q, bt_mod q]⟩
    · refine Or.inr ?_
      rw [bt_hi q, bt_hi q (2 ^ c * k + u % 2 ^ c), hx, div_lo (hm u)]
  have g1 : ldS s x a ≤ ldS s (2 ^ c * k + dn s a % 2 ^ c) a := ld_le hO hx3 (lt15 hc hk (hm _)) ha (fun i hi => (bits (dn s a) i hi).elim (fun z => Or.inr z.2) Or.inl)
  have hdb2 := (hO.dr hb hdb).2
  have g2 : ldS s (tnN x) b ≤ ldS s (tnN (2 ^ c * k + tnN (dn s b) % 2 ^ c)) b := ld_le hO (tnN_lt hx3) (tnN_lt (lt15 hc hk (hm _))) hb (fun i hi => by
    rw [bt_tn _ hi, bt_tn _ hi]
    rcases bits (tnN (dn s b)) (14 - i) (by omega) with z | z
    · refine Or.inr ?_
      rw [z.2, bt_tn _ (by omega), show 14 - (14 - i) = i by omega]
    · exact Or.inl z)
  unfold scS
  omega
def SV (V : VT) (st : Int32 × Nat) : VT := upV (upV V 1 5 st.1) 1 6 (lI st.2)
theorem SV_ne (V : VT) (st : Int32 × Nat) {a : Nat} (h : a ≠ 1) : SV V st a = V a := by unfold SV; rw [upV_ne _ _ _ h, upV_ne _ _ _ h]
theorem SV_j (V : VT) (st : Int32 × Nat) {j : Nat} (h : j < 5) : SV V st 1 j = V 1 j := by unfold SV; rw [upV_eq, if_neg (by omega), upV_eq, if_neg (by omega)]
theorem SV_6 (V : VT) (st : Int32 × Nat) : SV V st 1 6 = lI st.2 := by unfold SV; rw [upV_eq, if_pos ⟨rfl, rfl⟩]
theorem SV_5 (V : VT) (st : Int32 × Nat) : SV V st 1 5 = st.1 := by unfold SV; rw [upV_eq, if_neg (by decide), upV_eq, if_pos ⟨rfl, rfl⟩]
theorem SV_SV (V : VT) (st st' : Int32 × Nat) : upV (upV (SV V st) 1 5 st'.1) 1 6 (lI st'.2) = SV V st' := by
  funext a j
  unfold SV
  simp only [upV_eq]
  by_cases h1 : a = 1 ∧ j = 6
  · simp [h1]
  · by_cases h2 : a = 1 ∧ j = 5
    · simp [h2]
    · simp [h1, h2]
theorem mn_I {a b : Nat} (ha : a ≤ 16) (hb : b ≤ 16) : (if lI b < lI a then lI b else lI a) = lI (min a b) := by
  by_cases h : b < a
  · rw [if_pos ((lI_lt (by omega) (by omega)).mpr h), Nat.min_eq_right (by omega)]
  · rw [if_neg (fun z => h ((lI_lt (by omega) (by omega)).mp z)), Nat.min_eq_left (by omega)]
theorem op_n {c : Nat} (h : c ≤ 15) : ((1 : Int32) <<< ((nI c - 1 + 1) &&& 31)) - 1 = nI (2 ^ c - 1) := by
  have e1 : nI c - 1 + 1 = nI c := Int32.sub_add_cancel _ _
  have hp : 2 ^ c ≤ 2 ^ 15 := Nat.pow_le_pow_right (by decide) h
  have e2 : (1 : Int32) <<< (nI c &&& 31) = nI (1 * 2 ^ c) := shl_n (n := 1) _ c (s_l c (by omega)) (by omega)
  rw [e1, e2, Nat.one_mul, show (1 : Int32) = nI 1 from rfl, pk_sub (Nat.two_pow_pos c)]
theorem mk_n {c k u : Nat} : nI (2 ^ c * k) ||| (nI u &&& nI (2 ^ c - 1)) = nI (2 ^ c * k + u % 2 ^ c) := by
  rw [fa_and, Nat.and_two_pow_sub_one_eq_mod, fa_or, ← Nat.two_pow_add_eq_or_of_lt (Nat.mod_lt _ (Nat.two_pow_pos c))]
theorem bit_n {c u : Nat} (hc : c < 32) (hu : u < 2 ^ 32) : (jushr (nI u) (nI c)) &&& 1 = nI (bt u c) := by
  rw [ju_n hu (nI c) c (s_u c hc)]
  unfold bt
  exact pk_andN (Nat.lt_of_le_of_lt (Nat.div_le_self _ _) hu) 1 (by decide)
section SE
variable {V : VT} {a b u v : Nat}
theorem sa_n (fu n : Nat) {c k β : Nat} (hc : c < 15) (hb : β < 2) (hu : u < 32768) (hv : v < 32768) (h3 : V 1 3 = nI u) (h4 : V 1 4 = nI v) (st : Int32 × Nat) {st' : Int32 × Nat}
    (ih : (bt u c = β ∨ bt v c = β) → p_X1_settle fu n (SV V st) (nI c - 1) (nI (2 ^ c * (2 * k + β))) ∧ f_X1_settle fu n (SV V st) (nI c - 1) (nI (2 ^ c * (2 * k + β))) = SV V st') : p_X1_settleAs (f_X1_settle fu n) (p_X1_settle fu n) (SV V st) (nI c) (nI (2 ^ (c + 1) * k)) (nI β) ∧ f_X1_settleAs (f_X1_settle fu n) (SV V st) (nI c) (nI (2 ^ (c + 1) * k)) (nI β) = SV V (if bt u c = β ∨ bt v c = β then st' else st) := by
  have hp : β * 2 ^ c < 2 ^ (c + 1) := by
    have := Nat.two_pow_pos c
    rw [Nat.pow_succ]
    rcases (show β = 0 ∨ β = 1 by omega) with e | e <;> subst e <;> omega
  have h15 : 2 ^ c ≤ 2 ^ 15 := Nat.pow_le_pow_right (by decide) (by omega)
  have e1 : nI (2 ^ (c + 1) * k) ||| (nI β <<< (nI c &&& 31)) = nI (2 ^ c * (2 * k + β)) := by
    rw [shl_n (n := β) _ c (s_l c (by omega)) (by rcases (show β = 0 ∨ β = 1 by omega) with e | e <;> subst e <;> omega), fa_or, ← Nat.two_pow_add_eq_or_of_lt hp, Nat.pow_succ, Nat.mul_add, Nat.mul_comm β, Nat.mul_assoc]
  have q : ∀ w, nI (bt w c) = nI β ↔ bt w c = β := fun w => nI_eq (by have := bt_le w c; omega) (by omega)
  unfold p_X1_settleAs f_X1_settleAs
  rw [SV_j _ _ (by decide), SV_j _ _ (by decide), h3, h4, bit_n (by omega) (by omega), bit_n (by omega) (by omega), e1]
  by_cases g1 : bt u c = β
  · obtain ⟨i1, i2⟩ := ih (Or.inl g1)
    have g1' := (q u).mpr g1
    rw [if_pos g1', if_pos (Or.inl g1)]
    exact ⟨⟨fun _ => i1, fun z => absurd g1' z⟩, i2⟩
  · have g1' : ¬ nI (bt u c) = nI β := fun z => g1 ((q u).mp z)
    rw [if_neg g1']
    by_cases g2 : bt v c = β
    · obtain ⟨i1, i2⟩ := ih (Or.inr g2)
      have g2' := (q v).mpr g2
      rw [if_pos g2', if_pos (Or.inr g2)]
      exact ⟨⟨fun z => absurd z g1', fun _ => ⟨fun _ => i1, fun z => absurd g2' z⟩⟩, i2⟩
    · have g2' : ¬ nI (bt v c) = nI β := fun z => g2 ((q v).mp z)
      rw [if_neg g2', if_neg (fun z => z.elim g1 g2)]
      exact ⟨⟨fun z => absurd z g1', fun _ => ⟨fun z => absurd z g2', fun _ => trivial⟩⟩, rfl⟩
theorem nd_n (fu : Nat) (hf : 20 ≤ fu) (hB : BRel V 6 (V 49)) (hO : SOk (V 49)) (ha : a < 10) (hb : b < 10) (hda : V 49 (7 + a) ≠ -1) (hdb : V 49 (7 + b) ≠ -1) (h0 : V 1 0 = 1) (h1 : V 1 1 = nI a) (h2 : V 1 2 = nI b) (h3 : V 1 3 = nI (dn (V 49) a)) (h4 : V 1 4 = nI (tnN (dn (V 49) b))) {c m k M : Nat} {st : Int32 × Nat} (hc : c ≤ 15) (hk : k < 2 ^ (15 - c)) (hst : st.2 ≤ 16) (hM : M = min (ldS (V 49) (2 ^ c * k + dn (V 49) a % 2 ^ c) a) (ldS (V 49) (tnN (2 ^ c * k + tnN (dn (V 49) b) % 2 ^ c)) b))
    {C : VT} (hC : st.2 < M → 0 ≤ nI c - 1 → (p_X1_settleAs (f_X1_settle fu m) (p_X1_settle fu m) (SV V st) (nI c - 1) (nI (2 ^ c * k)) 0 ∧ p_X1_settleAs (f_X1_settle fu m) (p_X1_settle fu m) (f_X1_settleAs (f_X1_settle fu m) (SV V st) (nI c - 1) (nI (2 ^ c * k)) 0) (nI c - 1) (nI (2 ^ c * k)) 1) ∧ f_X1_settleAs (f_X1_settle fu m) (f_X1_settleAs (f_X1_settle fu m) (SV V st) (nI c - 1) (nI (2 ^ c * k)) 0) (nI c - 1) (nI (2 ^ c * k)) 1 = C) :
    p_X1_settle fu (m + 1) (SV V st) (nI c - 1) (nI (2 ^ c * k)) ∧ f_X1_settle fu (m + 1) (SV V st) (nI c - 1) (nI (2 ^ c * k)) = if st.2 < M then (if 0 ≤ nI c - 1 then C else SV V (nI (2 ^ c * k), M)) else SV V st := by
  have e15 : ¬ (15 : Int32) ≤ nI c - 1 := by
    rw [show (15 : Int32) = nI 15 from rfl, show (1 : Int32) = nI 1 from rfl, Int32.le_iff_toInt_le, nI_toInt (by decide), pk_sub_toInt (by omega) (by decide)]
    omega
  have hmod : ∀ w, w % 2 ^ c < 2 ^ c := fun w => Nat.mod_lt _ (Nat.two_pow_pos c)
  have hB2 : BRel (SV V st) 6 (SV V st 49) := by rw [SV_ne _ _ (by decide)]; exact hB.cong (fun _ _ => rfl) (fun r hr => SV_ne _ _ (by omega))
  have e55 : SV V st 49 = V 49 := SV_ne _ _ (by decide)
  have hO2 : SOk (SV V st 49) := by rw [e55]; exact hO
  have k1 := lt15 hc hk (hmod (dn (V 49) a))
  have k2 := lt15 hc hk (hmod (tnN (dn (V 49) b)))
  have L1 := lead_n fu hf (SV V st) hB2 hO2 k1 ha (by rw [e55]; exact hda)
  have L2 := lead_n fu hf (SV V st) hB2 hO2 (tnN_lt k2) hb (by rw [e55]; exact hdb)
  have T2 := turn_n (SV V st) k2
  rw [e55] at L1 L2
  have n0 : ¬ (1 : Int32) = 0 := by decide
  have b1 := ld_lt (s := V 49) (2 ^ c * k + dn (V 49) a % 2 ^ c) a
  have b2 := ld_lt (s := V 49) (tnN (2 ^ c * k + tnN (dn (V 49) b) % 2 ^ c)) b
  rw [f_X1_settle, p_X1_settle]
  rw [op_n hc, SV_j _ _ (show 0 < 5 by decide), SV_j _ _ (show 1 < 5 by decide), SV_j _ _ (show 2 < 5 by decide), SV_j _ _ (show 3 < 5 by decide), SV_j _ _ (show 4 < 5 by decide), SV_6, h0, h1, h2, h3, h4, mk_n, mk_n, T2, L1.2, L2.2, mn_I b1 b2, ← hM]
  have cm : lI (ldS (V 49) (2 ^ c * k + dn (V 49) a % 2 ^ c) a) ≤ lI st.2 ↔ ldS (V 49) (2 ^ c * k + dn (V 49) a % 2 ^ c) a ≤ st.2 := lI_le (by omega) (by omega)
  have cm2 : lI st.2 < lI M ↔ st.2 < M := lI_lt (by omega) (by omega)
  rw [if_neg e15]
  by_cases g1 : ldS (V 49) (2 ^ c * k + dn (V 49) a % 2 ^ c) a ≤ st.2
  · have g1' := cm.mpr g1
    rw [if_pos g1', if_neg (by omega)]
    exact ⟨⟨fun z => absurd z e15, fun _ => ⟨n0, n0, L1.1, fun _ => trivial, fun z => absurd g1' z⟩⟩, rfl⟩
  · have g1' : ¬ lI (ldS (V 49) (2 ^ c * k + dn (V 49) a % 2 ^ c) a) ≤ lI st.2 := fun z => g1 (cm.mp z)
    rw [if_neg g1']
    by_cases g2 : st.2 < M
    · have g2' := cm2.mpr g2
      rw [if_pos g2', if_pos g2]
      by_cases g3 : 0 ≤ nI c - 1
      · obtain ⟨c1, c2⟩ := hC g2 g3
        rw [if_pos g3, if_pos g3]
        exact ⟨⟨fun z => absurd z e15, fun _ => ⟨n0, n0, L1.1, fun z => absurd z g1', fun _ => ⟨n0, L2.1, fun _ => ⟨fun _ => c1, fun z => absurd g3 z⟩, fun z => absurd g2' z⟩⟩⟩, c2⟩
      · rw [if_neg g3, if_neg g3]
        exact ⟨⟨fun z => absurd z e15, fun _ => ⟨n0, n0, L1.1, fun z => absurd z g1', fun _ => ⟨n0, L2.1, fun _ => ⟨fun z => absurd z g3, fun _ => trivial⟩, fun z => absurd g2' z⟩⟩⟩, SV_SV V st (nI (2 ^ c * k), M)⟩
    · have g2' : ¬ lI st.2 < lI M := fun z => g2 (cm2.mp z)
      rw [if_neg g2', if_neg g2]
      exact ⟨⟨fun z => absurd z e15, fun _ => ⟨n0, n0, L1.1, fun z => absurd z g1', fun _ => ⟨n0, L2.1, fun z => absurd z g2', fun _ => trivial⟩⟩⟩, rfl⟩
theorem set_n (fu : Nat) (hf : 20 ≤ fu) (hB : BRel V 6 (V 49)) (hO : SOk (V 49)) (ha : a < 10) (hb : b < 10) (hda : V 49 (7 + a) ≠ -1) (hdb : V 49 (7 + b) ≠ -1) (h0 : V 1 0 = 1) (h1 : V 1 1 = nI a) (h2 : V 1 2 = nI b) (h3 : V 1 3 = nI (dn (V 49) a)) (h4 : V 1 4 = nI (tnN (dn (V 49) b))) : ∀ (c n k : Nat) (st : Int32 × Nat), c ≤ 15 → c < n → k < 2 ^ (15 - c) → st.2 ≤ 16 → p_X1_settle fu n (SV V st) (nI c - 1) (nI (2 ^ c * k)) ∧ f_X1_settle fu n (SV V st) (nI c - 1) (nI (2 ^ c * k)) = SV V (TT (V 49) a b (dn (V 49) a) (tnN (dn (V 49) b)) c k st) := by
  have hu := (hO.dr ha hda).2
  have hv := tnN_lt (hO.dr hb hdb).2
  intro c
  induction c with
  | zero =>
    intro n k st hc hn hk hst
    obtain ⟨m, rfl⟩ : ∃ m, n = m + 1 := ⟨n - 1, by omega⟩
    have g3 : ¬ (0 : Int32) ≤ nI 0 - 1 := by decide
    obtain ⟨r1, r2⟩ := nd_n fu hf hB hO ha hb hda hdb h0 h1 h2 h3 h4 (c := 0) (m := m) (k := k) (st := st) hc hk hst rfl (C := V) (fun _ z => absurd z g3)
    refine ⟨r1, ?_⟩
    rw [r2, if_neg g3, TT]
    unfold scS
    rw [Nat.pow_zero, Nat.one_mul, Nat.mod_one, Nat.mod_one, Nat.add_zero]
    split <;> rfl
  | succ c ih =>
    intro n k st hc hn hk hst
    obtain ⟨m, rfl⟩ : ∃ m, n = m + 1 := ⟨n - 1, by omega⟩
    have e : 2 ^ (15 - c) = 2 * 2 ^ (15 - (c + 1)) := by rw [show 15 - c = 15 - (c + 1) + 1 by omega, Nat.pow_succ, Nat.mul_comm]
    have ec : nI (c + 1) - 1 = nI c := by rw [show (1 : Int32) = nI 1 from rfl, pk_sub (by omega), show c + 1 - 1 = c by omega]
    have g3 : (0 : Int32) ≤ nI (c + 1) - 1 := by rw [ec]; exact nI_nn (by omega)
    have z0 : nI 0 = (0 : Int32) := rfl
    have z1 : nI 1 = (1 : Int32) := rfl
    have s0 := sa_n (V := V) (u := dn (V 49) a) (v := tnN (dn (V 49) b)) fu m (c := c) (k := k) (β := 0) (by omega) (by decide) hu hv h3 h4 st (st' := TT (V 49) a b (dn (V 49) a) (tnN (dn (V 49) b)) c (2 * k) st) (fun _ => by rw [Nat.add_zero]; exact ih m (2 * k) st (by omega) (by omega) (by omega) hst)
    rw [z0] at s0
    obtain ⟨s01, s02⟩ := s0
    have hst1 : (if bt (dn (V 49) a) c = 0 ∨ bt (tnN (dn (V 49) b)) c = 0 then TT (V 49) a b (dn (V 49) a) (tnN (dn (V 49) b)) c (2 * k) st else st).2 ≤ 16 := by
      split
      · exact TT_le _ _ _ _ _ _ _ _ hst
      · exact hst
    have s1 := sa_n (V := V) (u := dn (V 49) a) (v := tnN (dn (V 49) b)) fu m (c := c) (k := k) (β := 1) (by omega) (by decide) hu hv h3 h4 (if bt (dn (V 49) a) c = 0 ∨ bt (tnN (dn (V 49) b)) c = 0 then TT (V 49) a b (dn (V 49) a) (tnN (dn (V 49) b)) c (2 * k) st else st) (fun _ => ih m (2 * k + 1) _ (by omega) (by omega) (by omega) hst1)
    rw [z1] at s1
    obtain ⟨s11, s12⟩ := s1
    obtain ⟨r1, r2⟩ := nd_n fu hf hB hO ha hb hda hdb h0 h1 h2 h3 h4 (c := c + 1) (m := m) (k := k) (st := st) hc hk hst rfl (C := SV V (TT (V 49) a b (dn (V 49) a) (tnN (dn (V 49) b)) (c + 1) k st)) (fun _ _ => by
      rw [ec, s02, s12, TT]
      exact ⟨⟨s01, s11⟩, rfl⟩)
    refine ⟨r1, ?_⟩
    rw [r2, if_pos g3]
    by_cases g : st.2 < min (ldS (V 49) (2 ^ (c + 1) * k + dn (V 49) a % 2 ^ (c + 1)) a) (ldS (V 49) (tnN (2 ^ (c + 1) * k + tnN (dn (V 49) b) % 2 ^ (c + 1))) b)
    · rw [if_pos g]
    · rw [if_neg g, TT_prune _ _ _ _ _ _ _ _ (fun x hx => Nat.le_trans (bnd hO ha hb hda hdb hc hk hx) (Nat.le_of_not_lt g))]
end SE
/-- the best of two letters -/
def BE (s : Nat → Int32) (a b : Nat) : Int32 × Nat := TT s a b (dn s a) (tnN (dn s b)) 15 0 (-1, 0)
theorem BE_ok (s : Nat → Int32) (a b : Nat) : Bst (BE s a b) := TT_ok _ _ _ _ _ _ _ _ (by decide) (by decide) (Or.inl ⟨rfl, rfl⟩)
theorem BE_le (s : Nat → Int32) (a b : Nat) : (BE s a b).2 ≤ 16 := TT_le _ _ _ _ _ _ _ _ (by decide)
/-- the class finds it -/
theorem find_n (fu : Nat) (hf : 20 ≤ fu) {V : VT} (hB : BRel V 6 (V 49)) (hO : SOk (V 49)) {a b : Nat} (ha : a < 10) (hb : b < 10) (hda : V 49 (7 + a) ≠ -1) (hdb : V 49 (7 + b) ≠ -1) : p_X1_find fu V (nI a) (nI b) ∧ ∃ V', f_X1_find fu V (nI a) (nI b) = (if (BE (V 49) a b).2 = 0 then 0 else 1, V') ∧ (∀ r, r ≠ 1 → V' r = V r) ∧ V' 1 5 = (BE (V 49) a b).1 ∧ V' 1 6 = lI (BE (V 49) a b).2 := by
  have f0 : ∀ (X : VT) (r : Nat), (∀ a, a ≠ 1 → X a = V a) → r ≠ 1 → X r = V r := fun X r h hr => h r hr
  have hX : ∀ X : VT, (∀ a, a ≠ 1 → X a = V a) → BRel X 6 (X 49) ∧ SOk (X 49) := fun X h => by
    rw [h 49 (by decide)]
    exact ⟨hB.cong (fun _ _ => rfl) (fun r hr => h _ (by omega)), hO⟩
  have hh : ∀ X : VT, (∀ a, a ≠ 1 → X a = V a) → ∀ k, k < 10 → V 49 (7 + k) ≠ -1 → f_X3_has X 0 (nI k) = 1 := fun X h k hk hd => by
    rw [has_n X (hX X h).1 hk, h 49 (by decide), if_neg hd]
  have hs : ∀ X : VT, (∀ a, a ≠ 1 → X a = V a) → ∀ k, k < 10 → V 49 (7 + k) ≠ -1 → f_X3_signFor X 0 (nI k) = nI (dn (V 49) k) := fun X h k hk hd => by
    rw [sfor_n X (hX X h).1 hk, h 49 (by decide), ← (hO.dr hk hd).1]
  have u1 : ∀ (X : VT) (i : Nat) (x : Int32), (∀ a, a ≠ 1 → X a = V a) → ∀ a, a ≠ 1 → upV X 1 i x a = V a := fun X i x h a ha => by rw [upV_ne _ _ _ ha, h a ha]
  have W2 := u1 _ 6 (-1) (u1 V 5 (-1) (fun _ _ => rfl))
  have W5 := u1 _ 2 (nI b) (u1 _ 1 (nI a) (u1 _ 0 1 W2))
  have fa := hh _ W2 a ha hda
  have fb := hh _ W2 b hb hdb
  have n10 : ¬ (1 : Int32) = 0 := by decide
  unfold p_X1_find f_X1_find v_X1_find_2
  rw [fa, fb, if_neg n10, if_neg n10]
  unfold v_X1_find_1
  rw [hs _ W5 a ha hda]
  have W6 := u1 _ 3 (nI (dn (V 49) a)) W5
  rw [hs _ W6 b hb hdb, turn_n _ (hO.dr hb hdb).2]
  have W7 := u1 _ 4 (nI (tnN (dn (V 49) b))) W6
  -- the base
  have eS : SV (upV (upV (upV (upV (upV (upV (upV V 1 5 (-1)) 1 6 (-1)) 1 0 1) 1 1 (nI a)) 1 2 (nI b)) 1 3 (nI (dn (V 49) a))) 1 4 (nI (tnN (dn (V 49) b)))) (-1, 0) = upV (upV (upV (upV (upV (upV (upV V 1 5 (-1)) 1 6 (-1)) 1 0 1) 1 1 (nI a)) 1 2 (nI b)) 1 3 (nI (dn (V 49) a))) 1 4 (nI (tnN (dn (V 49) b))) := by
    funext r j
    unfold SV
    simp only [upV_eq]
    have l0 : lI 0 = -1 := rfl
    by_cases h6 : r = 1 ∧ j = 6
    · obtain ⟨rfl, rfl⟩ := h6
      simp [l0]
    · by_cases h5 : r = 1 ∧ j = 5
      · obtain ⟨rfl, rfl⟩ := h5
        simp
      · simp [h5, h6]
  have r0 : upV (upV (upV (upV (upV (upV (upV V 1 5 (-1)) 1 6 (-1)) 1 0 1) 1 1 (nI a)) 1 2 (nI b)) 1 3 (nI (dn (V 49) a))) 1 4 (nI (tnN (dn (V 49) b))) 1 0 = 1 := by simp [upV_eq]
  have r1 : upV (upV (upV (upV (upV (upV (upV V 1 5 (-1)) 1 6 (-1)) 1 0 1) 1 1 (nI a)) 1 2 (nI b)) 1 3 (nI (dn (V 49) a))) 1 4 (nI (tnN (dn (V 49) b))) 1 1 = nI a := by simp [upV_eq]
  have r2 : upV (upV (upV (upV (upV (upV (upV V 1 5 (-1)) 1 6 (-1)) 1 0 1) 1 1 (nI a)) 1 2 (nI b)) 1 3 (nI (dn (V 49) a))) 1 4 (nI (tnN (dn (V 49) b))) 1 2 = nI b := by simp [upV_eq]
  have r3 : upV (upV (upV (upV (upV (upV (upV V 1 5 (-1)) 1 6 (-1)) 1 0 1) 1 1 (nI a)) 1 2 (nI b)) 1 3 (nI (dn (V 49) a))) 1 4 (nI (tnN (dn (V 49) b))) 1 3 = nI (dn (V 49) a) := by simp [upV_eq]
  have r4 : upV (upV (upV (upV (upV (upV (upV V 1 5 (-1)) 1 6 (-1)) 1 0 1) 1 1 (nI a)) 1 2 (nI b)) 1 3 (nI (dn (V 49) a))) 1 4 (nI (tnN (dn (V 49) b))) 1 4 = nI (tnN (dn (V 49) b)) := by simp [upV_eq]
  generalize upV (upV (upV (upV (upV (upV (upV V 1 5 (-1)) 1 6 (-1)) 1 0 1) 1 1 (nI a)) 1 2 (nI b)) 1 3 (nI (dn (V 49) a))) 1 4 (nI (tnN (dn (V 49) b))) = X at *
  have e55 : X 49 = V 49 := W7 49 (by decide)
  obtain ⟨x1, x2⟩ := set_n (V := X) fu hf (hX X W7).1 (hX X W7).2 ha hb (by rw [e55]; exact hda) (by rw [e55]; exact hdb) r0 r1 r2 (by rw [e55]; exact r3) (by rw [e55]; exact r4) 15 20 0 (-1, 0) (by decide) (by decide) (by decide) (by decide)
  rw [Nat.mul_zero, show nI 15 - 1 = 14 from rfl, show nI 0 = (0 : Int32) from rfl, eS] at x1 x2
  rw [e55] at x2
  rw [x2]
  refine ⟨⟨fun z => absurd z n10, fun _ => ⟨fun z => absurd z n10, fun _ => x1⟩⟩, SV X (BE (V 49) a b), ?_, fun r hr => by rw [SV_ne _ _ hr, W7 r hr], SV_5 _ _, SV_6 _ _⟩
  show (if SV X (BE (V 49) a b) 1 5 = -1 then ((0 : Int32), SV X (BE (V 49) a b)) else (1, SV X (BE (V 49) a b))) = _
  rw [SV_5]
  rcases BE_ok (V 49) a b with ⟨q1, q2⟩ | ⟨⟨x, q0, q1⟩, q2⟩
  · rw [if_pos q1, if_pos q2]
  · rw [if_neg (by rw [q1]; exact nI_neg1 (by omega)), if_neg (by omega)]
theorem find_0 (fu : Nat) {V : VT} (hB : BRel V 6 (V 49)) {a b : Nat} (ha : a < 10) (hb : b < 10) (h : V 49 (7 + a) = -1 ∨ V 49 (7 + b) = -1) : p_X1_find fu V (nI a) (nI b) ∧ ∃ V', f_X1_find fu V (nI a) (nI b) = (0, V') ∧ ∀ r, r ≠ 1 → V' r = V r := by
  have W : ∀ r, r ≠ 1 → upV (upV V 1 5 (-1)) 1 6 (-1) r = V r := fun r hr => by rw [upV_ne _ _ _ hr, upV_ne _ _ _ hr]
  have hB2 : BRel (upV (upV V 1 5 (-1)) 1 6 (-1)) 6 (upV (upV V 1 5 (-1)) 1 6 (-1) 49) := by
    rw [W 49 (by decide)]
    exact hB.cong (fun _ _ => rfl) (fun r hr => W _ (by omega))
  have n10 : ¬ (1 : Int32) = 0 := by decide
  have fa := has_n _ hB2 ha
  have fb := has_n _ hB2 hb
  rw [W 49 (by decide)] at fa fb
  unfold p_X1_find f_X1_find
  rw [fa, fb]
  by_cases qa : V 49 (7 + a) = -1
  · rw [if_pos qa, if_pos rfl]
    exact ⟨⟨fun _ => trivial, fun z => absurd rfl z⟩, _, rfl, W⟩
  · have qb := h.resolve_left qa
    rw [if_neg qa, if_pos qb, if_neg n10, if_pos rfl]
    exact ⟨⟨fun z => absurd z n10, fun _ => ⟨fun _ => trivial, fun z => absurd rfl z⟩⟩, _, rfl, W⟩
