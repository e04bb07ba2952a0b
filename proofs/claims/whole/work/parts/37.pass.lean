theorem pas_l (fu : Nat) (hf : 200 ≤ fu) {P dd dy : Nat} (hP8 : P ≤ 8) (hdd : dd ≤ 20) (hy : dy + dd ≤ 9999) : ∀ (w d X : Nat) (V1 V2 : VT) (s : Nat → Int32), d ≤ dd → dd - d < w → s 0 = nI P → s 3 = nI dy → SOk s → BRel V1 6 (upd s 3 (nI (dy + d))) → (∀ k, k < 49 → V2 49 k = s k) →
    ∃ (s' : Nat → Int32) (c : Nat) (V1' V2' : VT), c ≤ P * (dd - d) ∧ s' 0 = nI P ∧ s' 3 = nI dy ∧ SOk s' ∧ BRel V1' 6 (upd s' 3 (nI (dy + dd))) ∧ (∀ k, k < 49 → V2' 49 k = s' k) ∧ (∀ a, ¬ (6 ≤ a ∧ a < 13) → V1' a = V1 a) ∧ (∀ a, a ≠ 49 → V2' a = V2 a) ∧
      p_X7_pass_l1 fu (nI dd) w V1 (nI X) (nI d) ∧ f_X7_pass_l1 fu (nI dd) w V1 (nI X) (nI d) = (nI (X + c), V1') ∧
      (p_X8_acted fu (upV V2' 49 3 (nI (dy + dd))) (nI (X + c)) → p_X8_pass_l1 fu (nI dd) w V2 (nI X) (nI d)) ∧ f_X8_pass_l1 fu (nI dd) w V2 (nI X) (nI d) = f_X8_acted fu (upV V2' 49 3 (nI (dy + dd))) (nI (X + c)) := by
  intro w
  induction w with
  | zero => intro d X V1 V2 s hd h; omega
  | succ w ih =>
    intro d X V1 V2 s hd h h0 h3 hO hB hV2
    rcases Nat.lt_or_ge d dd with hlt | hge
    · have hc : ¬ nI dd ≤ nI d := nI_ge hlt (by omega)
      obtain ⟨s', c, V1', V2', a1, a2, a3, a4, a5, a6, a7, a8, a9, a10, a11, a12⟩ := day_l fu (by omega) hP8 (nI dd) (nI (dy + d)) (nI d) ⟨dy + d, by omega, rfl⟩ fu 0 0 X V1 V2 s (by omega) (by omega) h0 hO hB hV2
      rw [show nI 0 = (0 : Int32) from rfl] at a9 a10 a11 a12
      rw [Nat.zero_add, nI_1] at a10
      have hB' : BRel (upV V1' 6 3 (nI (dy + d + 1))) 6 (upd s' 3 (nI (dy + (d + 1)))) := by
        have := BRel.uy a5 (nI (dy + d + 1))
        have e : upd (upd s' 3 (nI (dy + d))) 3 (nI (dy + d + 1)) = upd s' 3 (nI (dy + (d + 1))) := by
          funext k
          by_cases r : k = 3
          · subst r; rw [pk_us, pk_us]; rfl
          · rw [pk_un r, pk_un r, pk_un r]
        rw [e] at this
        exact this
      obtain ⟨s2, c2, W1, W2, b1, b2, b3, b4, b5, b6, b7, b8, b9, b10, b11, b12⟩ := ih (d + 1) (X + c) (upV V1' 6 3 (nI (dy + d + 1))) V2' s' (by omega) (by omega) a2 (by rw [a3, h3]) a4 hB' a6
      have hcc : c + c2 ≤ P * (dd - d) := by
        have e : dd - d = (dd - (d + 1)) + 1 := by omega
        rw [e, Nat.mul_add, Nat.mul_one]
        omega
      refine ⟨s2, c + c2, W1, W2, hcc, b2, b3, b4, b5, b6, fun a ha => ?_, fun a ha => ?_, ?_, ?_, fun hp => ?_, ?_⟩
      · rw [b7 a ha, upV_ne _ _ _ (by omega), a7 a (by omega)]
      · rw [b8 a ha, a8 a ha]
      · rw [p_X7_pass_l1]
        unfold p_X0_fadeOneDay f_X0_fadeOneDay
        rw [a10, nI_1]
        dsimp only
        rw [nI_add]
        exact ⟨fun z => absurd z hc, fun _ => ⟨a9, b9⟩⟩
      · rw [f_X7_pass_l1, if_neg hc]
        unfold f_X0_fadeOneDay
        rw [a10, nI_1]
        dsimp only
        rw [nI_add, b10, Nat.add_assoc]
      · rw [p_X8_pass_l1]
        refine ⟨fun z => absurd z hc, fun _ => a11 _ ?_⟩
        rw [nI_1]
        rw [← Nat.add_assoc] at hp
        exact b11 hp
      · rw [f_X8_pass_l1, if_neg hc, a12, nI_1]
        rw [← Nat.add_assoc]
        exact b12
    · have he : d = dd := by omega
      subst he
      have hc : nI d ≤ nI d := nI_le (Nat.le_refl _) (by omega)
      have e3 : V2 49 (3 : Int32).toNatClampNeg + nI d = nI (dy + d) := by rw [z3, hV2 3 (by decide), h3, nI_add]
      refine ⟨s, 0, V1, V2, by omega, h0, h3, hO, hB, hV2, fun _ _ => rfl, fun _ _ => rfl, ?_, ?_, fun hp => ?_, ?_⟩
      · rw [p_X7_pass_l1]
        exact ⟨fun _ => trivial, fun z => absurd hc z⟩
      · rw [f_X7_pass_l1, if_pos hc]; rfl
      · rw [p_X8_pass_l1, e3, z3]
        exact ⟨fun _ => hp, fun z => absurd hc z⟩
      · rw [f_X8_pass_l1, if_pos hc, e3, z3]; rfl
theorem simG_pass (fu : Nat) (hf : 200 ≤ fu) (V : VT) (a : Int32) (hR : RelV V) : (p_X7_pass fu V a) ∧ (p_X8_pass fu (f_X7_pass fu V a).2 a) ∧ (f_X7_pass fu V a).1 = (f_X8_pass fu (f_X7_pass fu V a).2 a).1 ∧ RelV (f_X8_pass fu (f_X7_pass fu V a).2 a).2 := by
  obtain ⟨⟨hB, hO⟩, -⟩ := id hR
  obtain ⟨P, hP8, hP⟩ := hO.1
  obtain ⟨dy, y1, y2⟩ := hO.2.2.2.1
  obtain ⟨pp, pw⟩ := push_R fu hf hR
  obtain ⟨b1, b2, b3⟩ := beg_m fu (by omega) V
  have e63 : V (6 + 7 * 0) 3 = nI dy := by rw [← y2]; exact hB.2.2.2.1.symm
  have m3 : f_X8_begins fu V 49 3 = nI dy := by rw [b2 _ (by decide), y2]
  have bad : ∀ r, f_X7_pass fu V a = (r, V) → f_X8_pass fu V a = (r, f_X8_begins fu V) → p_X7_pass fu V a → p_X8_pass fu V a → (p_X7_pass fu V a) ∧ (p_X8_pass fu (f_X7_pass fu V a).2 a) ∧ (f_X7_pass fu V a).1 = (f_X8_pass fu (f_X7_pass fu V a).2 a).1 ∧ RelV (f_X8_pass fu (f_X7_pass fu V a).2 a).2 := by
    intro r e7 e8 p7 p8
    rw [e7]
    rw [e8]
    exact ⟨p7, p8, rfl, rel_begins fu hf hR⟩
  rcases pk_ix a (n := 21) (by decide) with h | h | ⟨dd, hdd, rfl⟩
  · have q1 : a < 1 := Int32.lt_trans h (by decide)
    have i8 : f_X8_in (f_X8_begins fu V) a 1 20 = 0 := in_lo _ q1
    exact bad (-1001) (by simp [f_X7_pass, q1]) (by simp [f_X8_pass, i8]) (by simp [p_X7_pass, q1]) (by simp [p_X8_pass, i8, b1])
  · have q2 : (20 : Int32) < a := lt_le (n := 20) (by decide) h
    have q1 : ¬ a < 1 := i32_nl (Int32.le_of_lt (Int32.lt_trans (by decide) q2))
    have q3 : ¬ a ≤ 20 := i32_nle q2
    have i8 : f_X8_in (f_X8_begins fu V) a 1 20 = 0 := in_hi _ q2
    exact bad (-1001) (by simp [f_X7_pass, q1, q3]) (by simp [f_X8_pass, i8]) (by simp [p_X7_pass, q1, q3]) (by simp [p_X8_pass, i8, b1])
  · rcases Nat.eq_zero_or_pos dd with r | r
    · subst r
      have q1 : nI 0 < 1 := by decide
      have i8 : f_X8_in (f_X8_begins fu V) (nI 0) 1 20 = 0 := in_lo _ q1
      exact bad (-1001) (by simp [f_X7_pass, q1]) (by simp [f_X8_pass, i8]) (by simp [p_X7_pass, q1]) (by simp [p_X8_pass, i8, b1])
    · have q1 : ¬ nI dd < 1 := nI_nlt (b := 1) r (by omega)
      have q3 : nI dd ≤ 20 := nI_le (b := 20) (by omega) (by decide)
      have i8 : ∀ U : VT, f_X8_in U (nI dd) 1 20 = 1 := fun U => in_n U (lo := 1) (hi := 20) r (by omega) (by decide)
      have n1 : ¬ (1 : Int32) = 0 := by decide
      rcases Nat.lt_or_ge 9999 (dy + dd) with k | k
      · have q4 : ¬ nI (dy + dd) ≤ 9999 := nI_ge (b := dy + dd) (a := 9999) k (by omega)
        have e7 : f_X7_pass fu V (nI dd) = (-1003, V) := by
          unfold f_X7_pass
          rw [if_neg q1, if_pos q3, e63, nI_add, if_neg q4]
        have e8 : f_X8_pass fu V (nI dd) = (-1003, f_X8_begins fu V) := by
          unfold f_X8_pass
          rw [i8, if_neg n1, z3, m3, nI_add, if_neg q4]
        refine bad (-1003) e7 e8 ?_ ?_
        · unfold p_X7_pass
          rw [e63, nI_add]
          exact ⟨fun _ => trivial, fun _ => ⟨fun _ => ⟨fun z => absurd z q4, fun _ => trivial⟩, fun _ => trivial⟩⟩
        · unfold p_X8_pass
          rw [z3, m3, nI_add]
          exact ⟨b1, fun _ => trivial, fun _ => ⟨fun z => absurd z q4, fun _ => trivial⟩⟩
      · have q4 : nI (dy + dd) ≤ 9999 := nI_le (a := dy + dd) (b := 9999) k (by decide)
        have wB : BRel (f_X2_push fu V 0) 6 (upd (V 49) 3 (nI (dy + 0))) := by
          have : upd (V 49) 3 (nI (dy + 0)) = V 49 := by
            funext j
            by_cases e : j = 3
            · subst e; rw [pk_us, y2]; rfl
            · rw [pk_un e]
          rw [this]
          exact hB.cong (fun _ _ => rfl) (fun r hr => pw _ (by omega))
        have n0 : nI 0 = (0 : Int32) := rfl
        have e7 : f_X7_pass fu V (nI dd) = f_X7_pass_l1 fu (nI dd) fu (f_X2_push fu V 0) 0 0 := by
          unfold f_X7_pass
          rw [if_neg q1, if_pos q3, e63, nI_add, if_pos q4]
        -- the class's end alone
        obtain ⟨zs, zc, Z, zV, zz1, zz2, zz3, zz4, zz5, zz6, z7, zz8, z9, z10, zz11, zz12⟩ := pas_l fu hf hP8 (by omega) k fu 0 0 (f_X2_push fu V 0) V (V 49) (by omega) (by omega) hP y2 hO wB (fun _ _ => rfl)
        rw [n0] at z9 z10
        have p7 : p_X7_pass fu V (nI dd) := by
          unfold p_X7_pass
          rw [e63, nI_add]
          exact ⟨fun _ => trivial, fun _ => ⟨fun _ => ⟨fun _ => ⟨pp, z9⟩, fun z => absurd q4 z⟩, fun z => absurd q3 z⟩⟩
        rw [e7]
        have eZ : (f_X7_pass_l1 fu (nI dd) fu (f_X2_push fu V 0) 0 0).2 = Z := by rw [z10]
        obtain ⟨d1, d2, d3⟩ := beg_m fu (by omega) Z
        have Z55 : Z 49 = V 49 := by rw [z7 49 (by omega), pw 49 (by omega)]
        obtain ⟨s', c, V1', V2', a1, a2, a3, a4, a5, a6, a7, a8, a9, a10, a11, a12⟩ := pas_l fu hf hP8 (by omega) k fu 0 0 (f_X2_push fu V 0) (f_X8_begins fu Z) (V 49) (by omega) (by omega) hP y2 hO wB (fun i hi => by rw [d2 _ (by decide), Z55])
        rw [n0] at a9 a10 a11 a12
        have eV1 : V1' = Z := by rw [← eZ, a10]
        subst eV1
        rw [eZ, a10]
        dsimp only
        have hc : CD V V1' (upd s' 3 (nI (dy + dd))) := cd_R fu hf hR (fun a h _ => a7 a h) a5
        have hsm : 0 + c ≤ 160 := by
          have : P * (dd - 0) ≤ 8 * 20 := Nat.mul_le_mul hP8 (by omega)
          omega
        obtain ⟨g1, g2, g3⟩ := sim_fin fu hf (X := upV V2' 49 3 (nI (dy + dd))) (ans := nI (0 + c)) hR hc (a4.uy ⟨dy + dd, k, rfl⟩) (gt_n (by omega)) (fun a _ h2 h3 => by rw [upV_ne _ _ _ h2, a8 a h2, d2 _ h3]) (fun i hi => by rw [upV_ne _ _ _ (by decide), a8 _ (by decide), d3 i hi]) (fun i hi => by
          rw [upV_at]
          by_cases e : i = 3
          · subst e; rw [pk_us, pk_us]
          · rw [pk_un e, pk_un e]; exact a6 i hi) (fun j hj => by rw [upV_ne _ _ _ (by decide), a8 _ (by decide), d2 _ (by decide)])
        have mm3 : f_X8_begins fu V1' 49 3 = nI dy := by rw [d2 _ (by decide), Z55, y2]
        have e8 : f_X8_pass fu V1' (nI dd) = f_X8_acted fu (upV V2' 49 3 (nI (dy + dd))) (nI (0 + c)) := by
          rw [← a12]
          unfold f_X8_pass
          rw [i8, if_neg n1, z3, mm3, nI_add, if_pos q4]
        rw [e8]
        refine ⟨p7, ?_, g2.symm, g3⟩
        unfold p_X8_pass
        rw [z3, mm3, nI_add, i8]
        exact ⟨d1, fun z => absurd z n1, fun _ => ⟨fun _ => a11 g1, fun z => absurd q4 z⟩⟩
