theorem ji2c_n {k : Nat} (h : k < 65536) : ji2c (nI k) = nI k := by
  unfold ji2c
  rw [pk_char, pk_tn (by omega), Nat.mod_eq_of_lt h]
theorem simG_type (V : VT) (a : Int32) (hR : RelV V) : True ∧ (p_X8_type (f_X7_type V a).2 a) ∧ (f_X7_type V a).1 = (f_X8_type (f_X7_type V a).2 a).1 ∧ RelV (f_X8_type (f_X7_type V a).2 a).2 := by
  obtain ⟨hN, hS, hH, ⟨n, h1, h2, h3, h4⟩⟩ := id hR
  refine ⟨trivial, ?_⟩
  have bad : ∀ r, f_X7_type V a = (r, V) → f_X8_type V a = (r, V) → p_X8_type V a → (p_X8_type (f_X7_type V a).2 a) ∧ (f_X7_type V a).1 = (f_X8_type (f_X7_type V a).2 a).1 ∧ RelV (f_X8_type (f_X7_type V a).2 a).2 := by
    intro r e7 e8 p8
    rw [e7]
    rw [e8]
    exact ⟨p8, rfl, hR⟩
  rcases pk_ix a (n := 127) (by decide) with h | h | ⟨c, hc, rfl⟩
  · have q1 : a < 32 := Int32.lt_trans h (by decide)
    have i8 : f_X8_in V a 32 126 = 0 := in_lo V q1
    exact bad (-1001) (by simp [f_X7_type, q1]) (by simp [f_X8_type, i8]) (by simp [p_X8_type, i8])
  · have q2 : (126 : Int32) < a := lt_le (n := 126) (by decide) h
    have q1 : ¬ a < 32 := i32_nl (Int32.le_of_lt (Int32.lt_trans (by decide) q2))
    have q3 : ¬ a ≤ 126 := i32_nle q2
    have i8 : f_X8_in V a 32 126 = 0 := in_hi V q2
    exact bad (-1001) (by simp [f_X7_type, q1, q3]) (by simp [f_X8_type, i8]) (by simp [p_X8_type, i8])
  · rcases Nat.lt_or_ge c 32 with r | r
    · have q1 : nI c < 32 := nI_lt (b := 32) r (by decide)
      have i8 : f_X8_in V (nI c) 32 126 = 0 := in_lo V q1
      exact bad (-1001) (by simp [f_X7_type, q1]) (by simp [f_X8_type, i8]) (by simp [p_X8_type, i8])
    · have q1 : ¬ nI c < 32 := nI_nlt (b := 32) r (by omega)
      have q3 : nI c ≤ 126 := nI_le (b := 126) (by omega) (by decide)
      have i8 : ∀ U : VT, f_X8_in U (nI c) 32 126 = 1 := fun U => in_n U (lo := 32) (hi := 126) r (by omega) (by decide)
      rcases Nat.lt_or_ge n 30 with k | k
      · have k1 : nI n < 30 := nI_lt (b := 30) k (by decide)
        have k2 : ¬ nI n < 0 := nI_pos (by omega)
        have k3 : ¬ nI 30 ≤ nI n := nI_ge k (by decide)
        have k4 : ¬ nI n = 30 := fun z => by have := (nI_eq (a := n) (b := 30) (by omega) (by decide)).mp z; omega
        have ap : f_X5_append V (ji2c (nI c)) = upV (upV V 3 n (nI c)) 2 0 (nI (n + 1)) := by
          unfold f_X5_append
          rw [ji2c_n (by omega), h2, if_neg k2, if_neg k3, nI_clamp (by omega), upV_ne _ _ _ (show (2 : Nat) ≠ 3 by decide), h2, nI_1]
        have e7 : f_X7_type V (nI c) = (nI (n + 1), upV (upV V 3 n (nI c)) 2 0 (nI (n + 1))) := by
          simp only [f_X7_type, q1, q3, h2, k1, if_true, if_false, ap]
          rw [upV_eq, if_pos ⟨rfl, rfl⟩]
        rw [e7]
        dsimp only
        have u1 : ∀ a, a ≠ 2 → a ≠ 3 → upV (upV V 3 n (nI c)) 2 0 (nI (n + 1)) a = V a := fun a g1 g2 => by rw [upV_ne _ _ _ g1, upV_ne _ _ _ g2]
        have u2 : upV (upV V 3 n (nI c)) 2 0 (nI (n + 1)) 2 0 = nI (n + 1) := by rw [upV_eq, if_pos ⟨rfl, rfl⟩]
        have u3 : upV (upV V 3 n (nI c)) 2 0 (nI (n + 1)) 3 = upd (V 3) n (nI c) := by rw [upV_ne _ _ _ (by decide), upV_at]
        generalize upV (upV V 3 n (nI c)) 2 0 (nI (n + 1)) = V1 at *
        have m2 : V1 48 2 = nI n := by rw [u1 48 (by decide) (by decide), h3]
        have e8 : f_X8_type V1 (nI c) = (nI (n + 1), upV (upV V1 53 n (nI c)) 48 2 (nI (n + 1))) := by
          simp only [f_X8_type, i8, show ¬ (1 : Int32) = 0 by decide, m2, k4, if_false]
          rw [nI_clamp (by omega), upV_ne V1 _ _ (show (48 : Nat) ≠ 53 by decide), m2, nI_1, upV_eq, if_pos ⟨rfl, rfl⟩]
        rw [e8]
        have w1 : ∀ a, a ≠ 2 → a ≠ 3 → a ≠ 48 → a ≠ 53 → upV (upV V1 53 n (nI c)) 48 2 (nI (n + 1)) a = V a := fun a g1 g2 g3 g4 => by rw [upV_ne _ _ _ g3, upV_ne _ _ _ g4, u1 a g1 g2]
        have w2 : ∀ j, j ≠ 2 → upV (upV V1 53 n (nI c)) 48 2 (nI (n + 1)) 48 j = V 48 j := fun j g => by rw [upV_eq, if_neg (fun z => g z.2), upV_ne _ _ _ (by decide), u1 48 (by decide) (by decide)]
        refine ⟨?_, rfl, hN.cong (fun a ha => w1 a (by omega) (by omega) (by omega) (by omega)), hS.cong (fun a ha => w1 a (by omega) (by omega) (by omega) (by omega)) (w2 0 (by decide)), hH.cong (fun a ha => w1 a (by omega) (by omega) (by omega) (by omega)) (w2 1 (by decide)), ⟨n + 1, by omega, ?_, ?_, fun i hi => ?_⟩⟩
        · refine ⟨fun _ => trivial, fun _ => ⟨fun _ => trivial, fun _ => ?_⟩⟩
          rw [m2]
          exact vp_in_nI k (by decide)
        · dsimp only; rw [upV_ne _ _ _ (by decide), upV_ne _ _ _ (by decide), u2]
        · dsimp only; rw [upV_eq, if_pos ⟨rfl, rfl⟩]
        · dsimp only; rw [upV_ne _ _ _ (show (3 : Nat) ≠ 48 by decide), upV_ne _ _ _ (show (3 : Nat) ≠ 53 by decide), u3, upV_ne _ _ _ (show (53 : Nat) ≠ 48 by decide), upV_at, u1 53 (by decide) (by decide)]
          by_cases e : i = n
          · subst e
            rw [pk_us, pk_us]
            exact ⟨rfl, c, r, by omega, rfl⟩
          · rw [pk_un e, pk_un e]
            exact h4 i (by omega)
      · have e30 : n = 30 := by omega
        subst e30
        have k1 : ¬ nI 30 < 30 := by decide
        have k2 : nI 30 = 30 := rfl
        exact bad (-1003) (by simp [f_X7_type, q1, q3, h2, k1]) (by simp [f_X8_type, i8, h3, k2]) (by simp [p_X8_type, i8, h3, k2])
/-! days -/
theorem fdS_3 (s : Nat → Int32) (D : Int32) (i : Nat) : fdS (upd s 3 D) i = fdS s i := by
  unfold fdS upN sgN
  rw [pk_un (by omega), pk_un (by omega), pk_un (by omega), pk_un (by omega)]
theorem fdS_cong {s s' : Nat → Int32} (h : ∀ i, i < 49 → s' i = s i) {i : Nat} (hi : i < 8) : fdS s' i = fdS s i := by
  unfold fdS upN sgN
  rw [h _ (by omega), h 1 (by omega), h 6 (by omega), h (17 + 2 * i) (by omega)]
theorem fdS_pos {s : Nat → Int32} {i : Nat} (h : fdS s i ≠ 0) : ¬ s (18 + 2 * i) ≤ 0 := fun z => h (by unfold fdS; rw [if_pos z])
theorem upd_comm (f : Nat → Int32) {i j : Nat} (x y : Int32) (h : i ≠ j) : upd (upd f i x) j y = upd (upd f j y) i x := by
  funext k
  by_cases h1 : k = i
  · subst h1; rw [pk_un h, pk_us, pk_us]
  · by_cases h2 : k = j
    · subst h2; rw [pk_us, pk_un h1, pk_us]
    · rw [pk_un h2, pk_un h1, pk_un h1, pk_un h2]
theorem day_l (fu : Nat) (hf : 20 ≤ fu) {P : Nat} (hP8 : P ≤ 8) (p1 D x3 : Int32) (hD : ∃ k, k ≤ 9999 ∧ D = nI k) : ∀ (w i X Y : Nat) (V1 V2 : VT) (s : Nat → Int32), i ≤ P → P - i < w → s 0 = nI P → SOk s → BRel V1 6 (upd s 3 D) → (∀ k, k < 49 → V2 49 k = s k) →
    ∃ (s' : Nat → Int32) (c : Nat) (V1' V2' : VT), c ≤ P - i ∧ s' 0 = nI P ∧ s' 3 = s 3 ∧ SOk s' ∧ BRel V1' 6 (upd s' 3 D) ∧ (∀ k, k < 49 → V2' 49 k = s' k) ∧ (∀ a, a ≠ 10 → V1' a = V1 a) ∧ (∀ a, a ≠ 49 → V2' a = V2 a) ∧
      p_X0_fadeOneDay_l1 fu 0 w V1 (nI X) (nI i) ∧ f_X0_fadeOneDay_l1 fu 0 w V1 (nI X) (nI i) = (nI (X + c), upV V1' 6 3 (D + 1)) ∧
      (∀ k : VT → Int32 → Int32 → Prop, k V2' (nI (Y + c)) (x3 + 1) → p_X8_pass_l2 fu p1 k w V2 (nI Y) x3 (nI i)) ∧ ∀ k, f_X8_pass_l2 fu p1 k w V2 (nI Y) x3 (nI i) = k V2' (nI (Y + c)) (x3 + 1) := by
  intro w
  induction w with
  | zero => intro i X Y V1 V2 s hi h; omega
  | succ w ih =>
    intro i X Y V1 V2 s hi h h0 hO hB hV2
    have hOD : SOk (upd s 3 D) := hO.uy hD
    have e0 : V1 6 0 = nI P := by rw [← hB.1, pk_un (by decide), h0]
    have e3 : V1 6 3 = D := by rw [← hB.2.2.2.1, pk_us]
    have m0 : V2 49 0 = nI P := by rw [hV2 0 (by decide), h0]
    have hO2 : SOk (V2 49) := hO.cong hV2
    rcases Nat.lt_or_ge i P with hlt | hge
    · have k8 : i < 8 := by omega
      have hc : ¬ nI P ≤ nI i := nI_ge hlt (by omega)
      have f7 := fadA hB hOD k8
      rw [fdS_3] at f7
      obtain ⟨f8p, f8⟩ := fadM fu hf hO2 k8
      rw [fdS_cong hV2 k8] at f8
      by_cases q : fdS s i = 0
      · obtain ⟨s', c, V1', V2', a1, a2, a3, a4, a5, a6, a7, a8, a9, a10, a11, a12⟩ := ih (i + 1) X Y V1 V2 s (by omega) (by omega) h0 hO hB hV2
        refine ⟨s', c, V1', V2', by omega, a2, a3, a4, a5, a6, a7, a8, ?_, ?_, fun k hk => ?_, fun k => ?_⟩
        · simp [p_X0_fadeOneDay_l1, e0, hc, f7, q, nI_1, a9]
        · simp [f_X0_fadeOneDay_l1, e0, hc, f7, q, nI_1, a10]
        · simp [p_X8_pass_l2, z0, m0, hc, f8p, f8, q, nI_1, a11 k hk]
        · simp [f_X8_pass_l2, z0, m0, hc, f8, q, nI_1, a12 k]
      · obtain ⟨cc, c1, c2⟩ := hO.2.2.2.2.2.2.2.2.2.1 i k8
        have cp := fdS_pos q
        have c0 : 0 < cc := by
          rcases Nat.eq_zero_or_pos cc with r | r
          · subst r; exact absurd (by rw [c2]; exact (by decide : nI 0 ≤ 0)) cp
          · exact r
        have cm : nI cc - 1 = nI (cc - 1) := pk_sub (a := cc) (b := 1) c0
        have ct7 : f_X0_coatsAt V1 0 (nI i) = nI cc := by
          unfold f_X0_coatsAt
          rw [at8 V1 _ k8, ← c2]
          have := hB.2.2.2.2.2.2.2.2.2.1 i k8
          rw [pk_un (by omega)] at this
          exact this.symm
        have h7 : f_X0_coat V1 0 (nI i) (nI (cc - 1)) = upV V1 10 i (nI (cc - 1)) := by
          unfold f_X0_coat f_X4_put
          rw [if_neg (nI_pos (by omega)), if_neg (nI_ge k8 (by decide)), nI_clamp (by omega)]
        have x18 : ((17 : Int32) + 2 * nI i + 1).toNatClampNeg = 18 + 2 * i := by rw [ix18, nI_clamp (by omega)]
        have v18 : vp_in ((17 : Int32) + 2 * nI i + 1) 49 := by rw [ix18]; exact vp_in_nI (by omega) (by decide)
        have m18 : V2 49 (18 + 2 * i) = nI cc := by rw [hV2 _ (by omega), c2]
        have hB' : BRel (upV V1 10 i (nI (cc - 1))) 6 (upd (upd s (18 + 2 * i) (nI (cc - 1))) 3 D) := by
          rw [upd_comm _ _ _ (by omega)]
          exact BRel.uc hB k8 _
        obtain ⟨s', c, V1', V2', a1, a2, a3, a4, a5, a6, a7, a8, a9, a10, a11, a12⟩ := ih (i + 1) (X + 1) (Y + 1) (upV V1 10 i (nI (cc - 1))) (upV V2 49 (18 + 2 * i) (nI (cc - 1))) (upd s (18 + 2 * i) (nI (cc - 1))) (by omega) (by omega) (by rw [pk_un (by omega)]; exact h0) (hO.uc k8 ⟨cc - 1, by omega, rfl⟩) hB' (fun k hk => by
          rw [upV_at]
          by_cases r : k = 18 + 2 * i
          · subst r; rw [pk_us, pk_us]
          · rw [pk_un r, pk_un r]; exact hV2 k hk)
        refine ⟨s', c + 1, V1', V2', by omega, a2, ?_, a4, a5, a6, fun a ha => ?_, fun a ha => ?_, ?_, ?_, fun k hk => ?_, fun k => ?_⟩
        · rw [a3, pk_un (by omega)]
        · rw [a7 a ha, upV_ne _ _ _ ha]
        · rw [a8 a ha, upV_ne _ _ _ ha]
        · simp [p_X0_fadeOneDay_l1, e0, hc, f7, q, ct7, cm, h7, nI_1, a9]
        · rw [show X + (c + 1) = X + 1 + c by omega]
          simp [f_X0_fadeOneDay_l1, e0, hc, f7, q, ct7, cm, h7, nI_1, a10]
        · rw [show Y + (c + 1) = Y + 1 + c by omega] at hk
          simp [p_X8_pass_l2, z0, m0, hc, f8p, f8, q, x18, v18, m18, cm, nI_1, a11 k hk]
        · rw [show Y + (c + 1) = Y + 1 + c by omega]
          simp [f_X8_pass_l2, z0, m0, hc, f8, q, x18, m18, cm, nI_1, a12 k]
    · have he : i = P := by omega
      subst he
      have hc : nI i ≤ nI i := nI_le (Nat.le_refl _) (by omega)
      refine ⟨s, 0, V1, V2, by omega, h0, rfl, hO, hB, hV2, fun _ _ => rfl, fun _ _ => rfl, ?_, ?_, fun k hk => ?_, fun k => ?_⟩
      · simp [p_X0_fadeOneDay_l1, e0, hc]
      · simp [f_X0_fadeOneDay_l1, e0, e3, hc]
      · exact ⟨fun _ => hk, fun z => absurd (by rw [z0, m0]; exact hc) z⟩
      · simp [f_X8_pass_l2, z0, m0, hc]
