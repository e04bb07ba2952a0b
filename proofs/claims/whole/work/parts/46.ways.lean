theorem mask_bit {u v i : Nat} (h : bt (u ^^^ v) i = 0) : bt u i = bt v i := by
  rw [bt_xor] at h
  have := bt_le u i
  have := bt_le v i
  omega
theorem mask_bit1 {u v i : Nat} (h : bt (u ^^^ v) i = 1) : (bt u i = 0 ∨ bt v i = 0) ∧ (bt u i = 1 ∨ bt v i = 1) := by
  rw [bt_xor] at h
  have := bt_le u i
  have := bt_le v i
  omega
theorem half_n (m c : Nat) : m / 2 ^ c = 2 * (m / 2 ^ (c + 1)) + bt m c := by
  unfold bt
  rw [Nat.pow_succ, ← Nat.div_div_eq_div_mul]
  omega
theorem modp_n (m c : Nat) : m % 2 ^ (c + 1) = m % 2 ^ c + 2 ^ c * bt m c := by
  unfold bt
  rw [Nat.mod_pow_succ]
theorem and2_n (k M β γ : Nat) (hβ : β < 2) (hγ : γ < 2) : (2 * k + β) &&& (2 * M + γ) = 2 * (k &&& M) + (β &&& γ) := and_sp (k := 1) hβ hγ k M
theorem l1_st (fu : Nat) {V T : VT} {a b m sg q x : Int32} (w : Nat) (h : T = f_X8_tries fu V (sg ||| q) a b) (hp : p_X8_tries fu V (sg ||| q) a b) (hx : x = (q - m) &&& m) : (p_X8_composes_l1 fu a b w T m sg x (if x = 0 then 0 else 1) → p_X8_composes_l1 fu a b (w + 1) V m sg q 1) ∧ f_X8_composes_l1 fu a b (w + 1) V m sg q 1 = f_X8_composes_l1 fu a b w T m sg x (if x = 0 then 0 else 1) := by
  have n0 : ¬ (1 : Int32) = 0 := by decide
  rw [f_X8_composes_l1, p_X8_composes_l1, if_neg n0, ← h, ← hx]
  by_cases g : x = 0
  · rw [if_pos g, if_pos g]
    exact ⟨fun z => ⟨fun y => absurd y n0, fun _ => ⟨hp, fun _ => z, fun y => absurd g y⟩⟩, rfl⟩
  · rw [if_neg g, if_neg g]
    exact ⟨fun z => ⟨fun y => absurd y n0, fun _ => ⟨hp, fun y => absurd y g, fun _ => z⟩⟩, rfl⟩
section ND
variable {V : VT} {a b : Nat}
theorem node_m (fu : Nat) (hf : 20 ≤ fu) (hO : SOk (V 49)) (ha : a < 10) (hb : b < 10) (hda : V 49 (7 + a) ≠ -1) (hdb : V 49 (7 + b) ≠ -1) {u v m : Nat} (hu : u < 32768) (hv : v < 32768) (hm : m = u ^^^ v) : ∀ (c k w : Nat) (st : Int32 × Nat), c ≤ 15 → k < 2 ^ (15 - c) → Cons u v c k → st.2 ≤ 16 →
    (p_X8_composes_l1 fu (nI a) (nI b) w (MV V (TT (V 49) a b u v c k st)) (nI m) (nI (u &&& v)) ((nI (2 ^ c * (k &&& m / 2 ^ c) + m % 2 ^ c) - nI m) &&& nI m) (if ((nI (2 ^ c * (k &&& m / 2 ^ c) + m % 2 ^ c) - nI m) &&& nI m) = 0 then 0 else 1) → p_X8_composes_l1 fu (nI a) (nI b) (w + NC m c) (MV V st) (nI m) (nI (u &&& v)) (nI (2 ^ c * (k &&& m / 2 ^ c))) 1) ∧ f_X8_composes_l1 fu (nI a) (nI b) (w + NC m c) (MV V st) (nI m) (nI (u &&& v)) (nI (2 ^ c * (k &&& m / 2 ^ c))) 1 = f_X8_composes_l1 fu (nI a) (nI b) w (MV V (TT (V 49) a b u v c k st)) (nI m) (nI (u &&& v)) ((nI (2 ^ c * (k &&& m / 2 ^ c) + m % 2 ^ c) - nI m) &&& nI m) (if ((nI (2 ^ c * (k &&& m / 2 ^ c) + m % 2 ^ c) - nI m) &&& nI m) = 0 then 0 else 1) := by
  have hm15 : m < 32768 := by rw [hm]; exact xor_lt hu hv
  intro c
  induction c with
  | zero =>
    intro k w st hc hk hC hst
    have hk2 : k < 32768 := hk
    rw [Nat.pow_zero, Nat.one_mul, Nat.div_one, Nat.mod_one, Nat.add_zero]
    have es : nI (u &&& v) ||| nI (k &&& m) = nI k := by rw [fa_or, hm, leaf_n hu hv hk2 hC]
    obtain ⟨t1, t2⟩ := try_n fu hf hO ha hb hda hdb hk2 st hst
    have et : MV V (TT (V 49) a b u v 0 k st) = f_X8_tries fu (MV V st) (nI (u &&& v) ||| nI (k &&& m)) (nI a) (nI b) := by rw [es, t2, TT]
    exact l1_st fu w et (by rw [es]; exact t1) rfl
  | succ c ih =>
    intro k w st hc hk hC hst
    have e : 2 ^ (15 - c) = 2 * 2 ^ (15 - (c + 1)) := by rw [show 15 - c = 15 - (c + 1) + 1 by omega, Nat.pow_succ, Nat.mul_comm]
    have hp : 2 ^ (c + 1) = 2 ^ c * 2 := Nat.pow_succ ..
    have hmc := bt_le m c
    have hN : NC m (c + 1) = if bt m c = 1 then 2 * NC m c else NC m c := rfl
    rcases (show bt m c = 0 ∨ bt m c = 1 by omega) with g | g
    · -- both have the cell alike
      have guv : bt u c = bt v c := mask_bit (by rw [← hm]; exact g)
      have hβ := bt_le u c
      have key : ∀ β, β < 2 → bt u c = β → TT (V 49) a b u v (c + 1) k st = TT (V 49) a b u v c (2 * k + β) st := fun β h1 h2 => by
        rw [TT, ← guv, h2]
        rcases (show β = 0 ∨ β = 1 by omega) with r | r
        · subst r
          rw [if_neg (by decide), if_pos (Or.inl rfl), Nat.add_zero]
        · subst r
          rw [if_pos (Or.inl rfl), if_neg (by decide)]
      have eA : 2 ^ (c + 1) * (k &&& m / 2 ^ (c + 1)) = 2 ^ c * ((2 * k + bt u c) &&& m / 2 ^ c) := by
        rw [half_n m c, g, and2_n k (m / 2 ^ (c + 1)) (bt u c) 0 (by omega) (by decide), Nat.and_zero, hp, Nat.mul_assoc]; rfl
      have eM : m % 2 ^ (c + 1) = m % 2 ^ c := by rw [modp_n, g, Nat.mul_zero, Nat.add_zero]
      have := ih (2 * k + bt u c) w st (by omega) (by omega) (hC.down (by omega) (by omega) (Or.inl rfl)) hst
      have hN0 : NC m (c + 1) = NC m c := by rw [hN, if_neg (by omega)]
      rw [key (bt u c) (by omega) rfl, eA, eM, hN0]
      exact this
    · -- the cell is open
      obtain ⟨g0, g1⟩ := mask_bit1 (u := u) (v := v) (i := c) (by rw [← hm]; exact g)
      have eT : TT (V 49) a b u v (c + 1) k st = TT (V 49) a b u v c (2 * k + 1) (TT (V 49) a b u v c (2 * k) st) := by
        rw [TT, if_pos g1, if_pos g0]
      have eA0 : 2 ^ (c + 1) * (k &&& m / 2 ^ (c + 1)) = 2 ^ c * ((2 * k + 0) &&& m / 2 ^ c) := by
        rw [half_n m c, g, and2_n k (m / 2 ^ (c + 1)) 0 1 (by decide) (by decide), Nat.zero_and, hp, Nat.mul_assoc]; rfl
      have eA1 : 2 ^ (c + 1) * (k &&& m / 2 ^ (c + 1)) + 2 ^ c = 2 ^ c * ((2 * k + 1) &&& m / 2 ^ c) := by
        rw [half_n m c, g, and2_n k (m / 2 ^ (c + 1)) 1 1 (by decide) (by decide), Nat.and_self, Nat.mul_add, Nat.mul_one, hp, Nat.mul_assoc]
      have eM : m % 2 ^ (c + 1) = m % 2 ^ c + 2 ^ c := by rw [modp_n, g, Nat.mul_one]
      have em : m = 2 ^ (c + 1) * (m / 2 ^ (c + 1)) + (2 ^ c + m % 2 ^ c) := by
        have := Nat.div_add_mod m (2 ^ (c + 1))
        rw [eM] at this
        omega
      have nx := nx_n (c := c) (M := m / 2 ^ (c + 1)) (A := k &&& m / 2 ^ (c + 1)) (r := m % 2 ^ c) (by omega) (Nat.lt_of_le_of_lt (Nat.div_le_self _ _) hm15) (by rw [Nat.and_assoc, Nat.and_self]) (Nat.mod_lt _ (Nat.two_pow_pos c))
      rw [← em] at nx
      obtain ⟨p1, f1⟩ := ih (2 * k + 0) (w + NC m c) st (by omega) (by omega) (hC.down (by decide) (by omega) g0) hst
      rw [← eA0, nx] at p1 f1
      have hbig : 2 ^ (c + 1) * (k &&& m / 2 ^ (c + 1)) + 2 ^ c < 2 ^ 31 := by
        have h1 : 2 ^ (c + 1) * (k &&& m / 2 ^ (c + 1)) ≤ 2 ^ (c + 1) * (m / 2 ^ (c + 1)) := Nat.mul_le_mul_left _ Nat.and_le_right
        omega
      have nz : ¬ nI (2 ^ (c + 1) * (k &&& m / 2 ^ (c + 1)) + 2 ^ c) = 0 := nI_ne0 (by have := Nat.two_pow_pos c; omega) hbig
      rw [if_neg nz, eA1] at p1 f1
      obtain ⟨p2, f2⟩ := ih (2 * k + 1) w (TT (V 49) a b u v c (2 * k + 0) st) (by omega) (by omega) (hC.down (by decide) (by omega) g1) (TT_le _ _ _ _ _ _ _ _ hst)
      have eq2 : 2 ^ (c + 1) * (k &&& m / 2 ^ (c + 1)) + m % 2 ^ (c + 1) = 2 ^ c * ((2 * k + 1) &&& m / 2 ^ c) + m % 2 ^ c := by rw [← eA1, eM]; omega
      have hN1 : w + NC m (c + 1) = w + NC m c + NC m c := by rw [hN, if_pos g]; omega
      rw [eT, eq2, hN1]
      exact ⟨fun hp => p1 (p2 hp), f1.trans f2⟩
/-- the model finds it -/
theorem comp_n (fu : Nat) (hf : 40000 ≤ fu) (hO : SOk (V 49)) (ha : a < 10) (hb : b < 10) (hda : V 49 (7 + a) ≠ -1) (hdb : V 49 (7 + b) ≠ -1) : p_X8_composes fu V (nI a) (nI b) ∧ f_X8_composes fu V (nI a) (nI b) = (if (BE (V 49) a b).2 = 0 then 0 else 1, MV V (BE (V 49) a b)) := by
  obtain ⟨g1, g2⟩ := hO.dr ha hda
  obtain ⟨g3, g4⟩ := hO.dr hb hdb
  obtain ⟨d1, d2⟩ := drawn_n V ha
  obtain ⟨d3, d4⟩ := drawn_n V hb
  have T := turned_n fu (by omega) V g4
  rw [g1] at d2
  rw [g3] at d4
  have hv := tnN_lt g4
  have eV : upV (upV V 48 3 (-1)) 48 4 (-1) = MV V (-1, 0) := rfl
  obtain ⟨w, hw⟩ : ∃ w, fu = w + 1 + NC (dn (V 49) a ^^^ tnN (dn (V 49) b)) 15 := ⟨fu - 1 - NC (dn (V 49) a ^^^ tnN (dn (V 49) b)) 15, by have h := NC_le (dn (V 49) a ^^^ tnN (dn (V 49) b)) 15; rw [show 2 ^ 15 = 32768 from rfl] at h; omega⟩
  obtain ⟨n1, n2⟩ := node_m fu (by omega) hO ha hb hda hdb g2 hv rfl 15 0 (w + 1) (-1, 0) (by decide) (by decide) (fun i hi => by omega) (by decide)
  have m15 : (dn (V 49) a ^^^ tnN (dn (V 49) b)) % 2 ^ 15 = dn (V 49) a ^^^ tnN (dn (V 49) b) := Nat.mod_eq_of_lt (xor_lt g2 hv)
  rw [Nat.zero_and, Nat.mul_zero, Nat.zero_add, m15, Int32.sub_self, show ∀ x : Int32, (0 : Int32) &&& x = 0 from fun x => Int32.zero_and, if_pos rfl, ← hw] at n1 n2
  unfold p_X8_composes f_X8_composes
  rw [d2, d4, T.2, nx_xor, same_n, eV, show (0 : Int32) = nI 0 from rfl]
  rw [show (0 : Int32) = nI 0 from rfl] at n1 n2
  have fin : p_X8_composes_l1 fu (nI a) (nI b) (w + 1) (MV V (BE (V 49) a b)) (nI (dn (V 49) a ^^^ tnN (dn (V 49) b))) (nI (dn (V 49) a &&& tnN (dn (V 49) b))) (nI 0) (nI 0) ∧ f_X8_composes_l1 fu (nI a) (nI b) (w + 1) (MV V (BE (V 49) a b)) (nI (dn (V 49) a ^^^ tnN (dn (V 49) b))) (nI (dn (V 49) a &&& tnN (dn (V 49) b))) (nI 0) (nI 0) = (if (BE (V 49) a b).2 = 0 then 0 else 1, MV V (BE (V 49) a b)) := by
    have z : nI 0 = (0 : Int32) := rfl
    rw [f_X8_composes_l1, p_X8_composes_l1, if_pos z, MV_3]
    refine ⟨⟨fun _ => trivial, fun y => absurd z y⟩, ?_⟩
    rcases BE_ok (V 49) a b with ⟨q1, q2⟩ | ⟨⟨x, q0, q1⟩, q2⟩
    · rw [q1, if_pos (by decide), if_pos q2]
    · rw [q1, if_neg (nI_pos (by omega)), if_neg (by omega)]
  exact ⟨⟨d1, d3, T.1, n1 fin.1⟩, n2.trans fin.2⟩
end ND
