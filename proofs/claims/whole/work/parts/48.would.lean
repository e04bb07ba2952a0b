/-! what would be: composed, goesWith -/
theorem lt2 (a : Int32) : (∀ V : VT, f_X7_isLetter V a = 0 ∧ f_X8_in V a 0 9 = 0) ∨ ∃ k, k < 10 ∧ a = nI k ∧ ∀ V : VT, f_X7_isLetter V a = 1 ∧ f_X8_in V a 0 9 = 1 := by
  rcases pk_ix a (n := 10) (by decide) with h | h | ⟨k, hk, rfl⟩
  · exact Or.inl fun V => ⟨isL_lo V h, in_lo V h⟩
  · exact Or.inl fun V => ⟨isL_hi V h, in_hi V (lt_le (n := 9) (by decide) h)⟩
  · exact Or.inr ⟨k, hk, rfl, fun V => ⟨isL_n V hk, in_n V (lo := 0) (hi := 9) (Nat.zero_le _) (by omega) (by decide)⟩⟩
theorem neg1 {s : Nat → Int32} (hO : SOk s) {k : Nat} (hk : k < 10) : s (7 + k) < 0 ↔ s (7 + k) = -1 := by
  constructor
  · intro h
    by_cases q : s (7 + k) = -1
    · exact q
    · obtain ⟨g1, g2⟩ := hO.dr hk q
      rw [g1] at h
      exact absurd h (nI_pos (by omega))
  · intro h
    rw [h]
    decide
theorem ar_n {V : VT} (hO : SOk (V 49)) {x y : Nat} (hx : x < 10) (hy : y < 10) : p_X8_areDrawn V (nI x) (nI y) ∧ f_X8_areDrawn V (nI x) (nI y) = if V 49 (7 + x) = -1 then 0 else if V 49 (7 + y) = -1 then 0 else 1 := by
  obtain ⟨d1, d2⟩ := drawn_n V hx
  obtain ⟨e1, e2⟩ := drawn_n V hy
  unfold p_X8_areDrawn f_X8_areDrawn
  refine ⟨⟨d1, fun _ => trivial, fun _ => e1⟩, ?_⟩
  rw [d2, e2]
  by_cases g : V 49 (7 + x) = -1
  · rw [if_pos ((neg1 hO hx).mpr g), if_pos g]
  · rw [if_neg (fun z => g ((neg1 hO hx).mp z)), if_neg g]
    by_cases g2 : V 49 (7 + y) = -1
    · rw [if_pos ((neg1 hO hy).mpr g2), if_pos g2]
    · rw [if_neg (fun z => g2 ((neg1 hO hy).mp z)), if_neg g2]
theorem or_n (V : VT) : f_X8_orNone V (-1) = -1004 := rfl
theorem or_p (V : VT) {n : Nat} (h : n < 2 ^ 31) : f_X8_orNone V (nI n) = nI n := by unfold f_X8_orNone; rw [if_pos (nI_nn h)]
theorem lI_0 : lI 0 = -1 := rfl
theorem lI_s {n : Nat} (h : 0 < n) : lI n = nI (n - 1) := by unfold lI; rw [show (1 : Int32) = nI 1 from rfl, pk_sub (by omega)]
theorem rel_mv {V V' : VT} (hR : RelV V) (h : ∀ r, r ≠ 1 → V' r = V r) (st : Int32 × Nat) : RelV (MV V' st) := rel_beg hR (fun a h1 _ h3 => by rw [MV_ne _ _ h1, h a h3]) (fun j hj => by rw [MV_j _ _ (by omega) (by omega), h 48 (by decide)])
theorem c3hi {c : Int32} (h : nI 3 ≤ c) : ¬ c < 0 ∧ ¬ c ≤ 2 := by
  rw [Int32.le_iff_toInt_le, nI_toInt (by decide)] at h
  rw [Int32.lt_iff_toInt_lt, Int32.le_iff_toInt_le]
  have h0 : (0 : Int32).toInt = 0 := rfl
  have h2 : (2 : Int32).toInt = 2 := rfl
  rw [h0, h2]
  omega
theorem cc3 (c : Int32) : (c < 0 ∧ ∀ V : VT, f_X8_in V c 0 2 = 0) ∨ (¬ c < 0 ∧ ¬ c ≤ 2 ∧ ∀ V : VT, f_X8_in V c 0 2 = 0) ∨ (¬ c < 0 ∧ c ≤ 2 ∧ (∀ V : VT, f_X8_in V c 0 2 = 1) ∧ (c = 0 ∨ c = 1 ∨ c = 2)) := by
  rcases c3 c with h | h | h
  · exact Or.inl ⟨h, fun V => in_lo V h⟩
  · exact Or.inr (Or.inl ⟨(c3hi h).1, (c3hi h).2, fun V => in_hi V (lt_le (n := 2) (by decide) h)⟩)
  · refine Or.inr (Or.inr ?_)
    rcases h with rfl | rfl | rfl
    · exact ⟨by decide, by decide, fun V => in_ok V (by decide) (by decide), Or.inl rfl⟩
    · exact ⟨by decide, by decide, fun V => in_ok V (by decide) (by decide), Or.inr (Or.inl rfl)⟩
    · exact ⟨by decide, by decide, fun V => in_ok V (by decide) (by decide), Or.inr (Or.inr rfl)⟩
theorem simG_composed (fu : Nat) (hf : 40000 ≤ fu) (V : VT) (a b c : Int32) (hR : RelV V) : (p_X7_composed fu V a b c) ∧ (p_X8_composed fu (f_X7_composed fu V a b c).2 a b c) ∧ (f_X7_composed fu V a b c).1 = (f_X8_composed fu (f_X7_composed fu V a b c).2 a b c).1 ∧ RelV (f_X8_composed fu (f_X7_composed fu V a b c).2 a b c).2 := by
  obtain ⟨⟨hB, hO⟩, -⟩ := id hR
  have bad : ∀ r : Int32, f_X7_composed fu V a b c = (r, V) → f_X8_composed fu V a b c = (r, V) → p_X7_composed fu V a b c → p_X8_composed fu V a b c → (p_X7_composed fu V a b c) ∧ (p_X8_composed fu (f_X7_composed fu V a b c).2 a b c) ∧ (f_X7_composed fu V a b c).1 = (f_X8_composed fu (f_X7_composed fu V a b c).2 a b c).1 ∧ RelV (f_X8_composed fu (f_X7_composed fu V a b c).2 a b c).2 := fun r e7 e8 q7 q8 => by
    rw [e7]
    dsimp only
    rw [e8]
    exact ⟨q7, q8, rfl, hR⟩
  rcases lt2 a with ha | ⟨x, hx, rfl, ha⟩
  · exact bad (-1001) (by simp [f_X7_composed, ha]) (by simp [f_X8_composed, ha]) (by simp [p_X7_composed, ha]) (by simp [p_X8_composed, ha])
  rcases lt2 b with hb | ⟨y, hy, rfl, hb⟩
  · exact bad (-1001) (by simp [f_X7_composed, ha, hb]) (by simp [f_X8_composed, ha, hb]) (by simp [p_X7_composed, ha, hb]) (by simp [p_X8_composed, ha, hb])
  rcases cc3 c with ⟨k1, k3⟩ | ⟨k1, k2, k3⟩ | ⟨k1, k2, k3, hc⟩
  · exact bad (-1001) (by simp [f_X7_composed, ha, hb, k1]) (by simp [f_X8_composed, ha, hb, k3]) (by simp [p_X7_composed, ha, hb, k1]) (by simp [p_X8_composed, ha, hb, k3])
  · exact bad (-1001) (by simp [f_X7_composed, ha, hb, k1, k2]) (by simp [f_X8_composed, ha, hb, k3]) (by simp [p_X7_composed, ha, hb, k1, k2]) (by simp [p_X8_composed, ha, hb, k3])
  have h1 := has_n V hB hx
  have h2 := has_n V hB hy
  obtain ⟨r1, r2⟩ := ar_n hO hx hy
  by_cases da : V 49 (7 + x) = -1
  · rw [if_pos da] at h1 r2
    exact bad (-1002) (by simp [f_X7_composed, ha, hb, k1, k2, h1]) (by simp [f_X8_composed, ha, hb, k3, r2]) (by simp [p_X7_composed, ha, hb, k1, k2, h1]) (by simp [p_X8_composed, ha, hb, k3, r1, r2])
  rw [if_neg da] at h1 r2
  by_cases db : V 49 (7 + y) = -1
  · rw [if_pos db] at h2 r2
    exact bad (-1002) (by simp [f_X7_composed, ha, hb, k1, k2, h1, h2]) (by simp [f_X8_composed, ha, hb, k3, r2]) (by simp [p_X7_composed, ha, hb, k1, k2, h1, h2]) (by simp [p_X8_composed, ha, hb, k3, r1, r2])
  rw [if_neg db] at h2 r2
  obtain ⟨gx, gx2⟩ := hO.dr hx da
  obtain ⟨gy, gy2⟩ := hO.dr hy db
  by_cases c2 : c = 2
  · subst c2
    have sx := (sfor_n V hB hx).trans gx
    have sy := (sfor_n V hB hy).trans gy
    obtain ⟨dx1, dx2⟩ := drawn_n V hx
    obtain ⟨dy1, dy2⟩ := drawn_n V hy
    rw [gx] at dx2
    rw [gy] at dy2
    obtain ⟨t1, t2⟩ := turned_n fu (by omega) V gy2
    have xl := xor_lt gx2 (tnN_lt gy2)
    obtain ⟨w1, w2⟩ := dark_n fu (by omega) V xl
    exact bad (nI (pcN (dn (V 49) x ^^^ tnN (dn (V 49) y)))) (by simp [f_X7_composed, ha, hb, k1, k2, h1, h2, sx, sy, turn_n V gy2, nx_xor, bc_n V xl]) (by simp [f_X8_composed, ha, hb, k3, r2, dx2, dy2, t2, nx_xor, w2]) (by simp [p_X7_composed, ha, hb, k1, k2, h1, h2]) (by simp [p_X8_composed, ha, hb, k3, r1, r2, dx1, dx2, dy1, dy2, t1, t2, nx_xor, w1])
  obtain ⟨fp, V', fe, fr, f5, f6⟩ := find_n fu (by omega) hB hO hx hy da db
  have e55 : V' 49 = V 49 := fr 49 (by decide)
  have hO' : SOk (V' 49) := by rw [e55]; exact hO
  obtain ⟨r1', r2'⟩ := ar_n hO' hx hy
  rw [e55, if_neg da, if_neg db] at r2'
  obtain ⟨mp, me⟩ := comp_n fu hf hO' hx hy (by rw [e55]; exact da) (by rw [e55]; exact db)
  rw [e55] at me
  have hR2 := rel_mv hR fr (BE (V 49) x y)
  have m3 := MV_3 V' (BE (V 49) x y)
  have m4 := MV_4 V' (BE (V 49) x y)
  have q7 : p_X7_composed fu V (nI x) (nI y) c := by simp [p_X7_composed, ha, hb, k1, k2, h1, h2, c2, fp]
  have q8 : p_X8_composed fu V' (nI x) (nI y) c := by simp [p_X8_composed, ha, hb, k3, r1', r2', c2, mp]
  have hc2 : c = 0 ∨ c = 1 := by rcases hc with h | h | h; exact Or.inl h; exact Or.inr h; exact absurd h c2
  have fin : ∀ r : Int32, f_X7_composed fu V (nI x) (nI y) c = (r, V') → f_X8_composed fu V' (nI x) (nI y) c = (r, MV V' (BE (V 49) x y)) → (p_X7_composed fu V (nI x) (nI y) c) ∧ (p_X8_composed fu (f_X7_composed fu V (nI x) (nI y) c).2 (nI x) (nI y) c) ∧ (f_X7_composed fu V (nI x) (nI y) c).1 = (f_X8_composed fu (f_X7_composed fu V (nI x) (nI y) c).2 (nI x) (nI y) c).1 ∧ RelV (f_X8_composed fu (f_X7_composed fu V (nI x) (nI y) c).2 (nI x) (nI y) c).2 := fun r e7 e8 => by
    rw [e7]
    dsimp only
    rw [e8]
    exact ⟨q7, q8, rfl, hR2⟩
  have nk : ∀ z : Nat, z < 2 ^ 31 → ∀ U : VT, f_X8_orNone U (nI z) = nI z := fun z hz U => or_p U hz
  rcases BE_ok (V 49) x y with ⟨q1, q2⟩ | ⟨⟨z, hz, q1⟩, q2⟩
  · rw [q2, if_pos rfl] at fe me
    rw [q1] at m3
    rw [q2, lI_0] at m4
    refine fin (-1004) (by simp [f_X7_composed, ha, hb, k1, k2, h1, h2, c2, fe]) ?_
    rcases hc2 with rfl | rfl
    · simp [f_X8_composed, ha, hb, k3, r2', me, m3, or_n]
    · simp [f_X8_composed, ha, hb, k3, r2', me, m4, or_n]
  · have q2' : ¬ (BE (V 49) x y).2 = 0 := by omega
    have le := BE_le (V 49) x y
    rw [if_neg q2'] at fe me
    rw [q1] at m3 f5
    rw [lI_s q2] at m4 f6
    rcases hc2 with rfl | rfl
    · exact fin (nI z) (by simp [f_X7_composed, ha, hb, h1, h2, fe, f5]) (by simp [f_X8_composed, ha, hb, k3, r2', me, m3, nk z (by omega)])
    · exact fin (nI ((BE (V 49) x y).2 - 1)) (by simp [f_X7_composed, ha, hb, h1, h2, fe, f6]) (by simp [f_X8_composed, ha, hb, k3, r2', me, m4, nk ((BE (V 49) x y).2 - 1) (by omega)])
/-- the partner, of the first i letters, and its lead -/
def gwS (s : Nat → Int32) (L : Nat) : Nat → Int32 × Nat
  | 0 => (-1, 0)
  | i + 1 => if s (7 + i) ≠ -1 ∧ (gwS s L i).2 < (BE s L i).2 then (nI i, (BE s L i).2) else gwS s L i
theorem gw_ok (s : Nat → Int32) (L : Nat) : ∀ i, i ≤ 10 → ((gwS s L i).1 = -1 ∨ ∃ k, k < 10 ∧ (gwS s L i).1 = nI k) ∧ (gwS s L i).2 ≤ 16
  | 0, _ => ⟨Or.inl rfl, Nat.zero_le _⟩
  | i + 1, h => by
    have ih := gw_ok s L i (by omega)
    rw [gwS]
    split
    · exact ⟨Or.inr ⟨i, by omega, rfl⟩, BE_le s L i⟩
    · exact ih
theorem gw_c (fu : Nat) (hf : 20 ≤ fu) {s : Nat → Int32} (hO : SOk s) {L : Nat} (hL : L < 10) (hd : s (7 + L) ≠ -1) : ∀ (w i : Nat) (V : VT), BRel V 6 s → i ≤ 10 → 10 - i < w → p_X7_goesWith_l1 fu (nI L) w V (gwS s L i).1 (lI (gwS s L i).2) (nI i) ∧ ∃ V', f_X7_goesWith_l1 fu (nI L) w V (gwS s L i).1 (lI (gwS s L i).2) (nI i) = (f_X8_orNone V (gwS s L 10).1, V') ∧ ∀ r, r ≠ 1 → V' r = V r := by
  intro w
  induction w with
  | zero => intro i V hB hi h; omega
  | succ w ih =>
    intro i V hB hi h
    rw [f_X7_goesWith_l1, p_X7_goesWith_l1]
    rcases Nat.lt_or_ge i 10 with hlt | hge
    · have hc : ¬ (10 : Int32) ≤ nI i := nI_ge (b := 10) hlt (by decide)
      rw [if_neg hc, nI_1]
      have nxt : ∀ V', (∀ r, r ≠ 1 → V' r = V r) → p_X7_goesWith_l1 fu (nI L) w V' (gwS s L (i + 1)).1 (lI (gwS s L (i + 1)).2) (nI (i + 1)) ∧ ∃ V'', f_X7_goesWith_l1 fu (nI L) w V' (gwS s L (i + 1)).1 (lI (gwS s L (i + 1)).2) (nI (i + 1)) = (f_X8_orNone V (gwS s L 10).1, V'') ∧ ∀ r, r ≠ 1 → V'' r = V r := fun V' hr => by
        obtain ⟨i1, V'', i2, i3⟩ := ih (i + 1) V' (hB.cong (fun _ _ => rfl) (fun r hr' => hr _ (by omega))) (by omega) (by omega)
        exact ⟨i1, V'', i2, fun r hr' => (i3 r hr').trans (hr r hr')⟩
      by_cases q : s (7 + i) = -1
      · obtain ⟨fp, V', fe, fr⟩ := find_0s fu hB hL hlt (Or.inr q)
        have e : gwS s L (i + 1) = gwS s L i := by rw [gwS, if_neg (fun z => z.1 q)]
        have n := nxt V' fr
        rw [e] at n
        have fe1 : (f_X1_find fu V (nI L) (nI i)).1 = 0 := by rw [fe]
        have fe2 : (f_X1_find fu V (nI L) (nI i)).2 = V' := by rw [fe]
        rw [fe1, fe2, if_pos rfl]
        exact ⟨⟨fun z => absurd z hc, fun _ => ⟨fp, fun _ => n.1, fun z => absurd rfl z⟩⟩, n.2⟩
      · obtain ⟨fp, V', fe, fr, f5, f6⟩ := find_ns fu hf hB hO hL hlt hd q
        have n := nxt V' fr
        have l1 := BE_le s L i
        have l2 := (gw_ok s L i (by omega)).2
        have fe2 : (f_X1_find fu V (nI L) (nI i)).2 = V' := by rw [fe]
        by_cases g0 : (BE s L i).2 = 0
        · have e : gwS s L (i + 1) = gwS s L i := by rw [gwS, if_neg (fun z => by have := z.2; omega)]
          rw [e] at n
          have fe1 : (f_X1_find fu V (nI L) (nI i)).1 = 0 := by rw [fe]; exact if_pos g0
          rw [fe1, fe2, if_pos rfl]
          exact ⟨⟨fun z => absurd z hc, fun _ => ⟨fp, fun _ => n.1, fun z => absurd rfl z⟩⟩, n.2⟩
        · have n10 : ¬ (1 : Int32) = 0 := by decide
          have fe1 : (f_X1_find fu V (nI L) (nI i)).1 = 1 := by rw [fe]; exact if_neg g0
          rw [fe1, fe2, if_neg n10, f6]
          by_cases g1 : (BE s L i).2 ≤ (gwS s L i).2
          · have g1' : lI (BE s L i).2 ≤ lI (gwS s L i).2 := (lI_le (by omega) (by omega)).mpr g1
            have e : gwS s L (i + 1) = gwS s L i := by rw [gwS, if_neg (fun z => by have := z.2; omega)]
            rw [e] at n
            rw [if_pos g1']
            exact ⟨⟨fun z => absurd z hc, fun _ => ⟨fp, fun z => absurd z n10, fun _ => ⟨fun _ => n.1, fun z => absurd g1' z⟩⟩⟩, n.2⟩
          · have g1' : ¬ lI (BE s L i).2 ≤ lI (gwS s L i).2 := fun z => g1 ((lI_le (by omega) (by omega)).mp z)
            have e : gwS s L (i + 1) = (nI i, (BE s L i).2) := by rw [gwS, if_pos ⟨q, by omega⟩]
            rw [e] at n
            rw [if_neg g1']
            exact ⟨⟨fun z => absurd z hc, fun _ => ⟨fp, fun z => absurd z n10, fun _ => ⟨fun z => absurd z g1', fun _ => n.1⟩⟩⟩, n.2⟩
    · have he : i = 10 := by omega
      subst he
      have hc : (10 : Int32) ≤ nI 10 := nI_le (Nat.le_refl _) (by decide)
      rw [if_pos hc]
      exact ⟨⟨fun _ => trivial, fun z => absurd hc z⟩, V, by rw [found_or V (gw_ok s L 10 (Nat.le_refl _)).1], fun _ _ => rfl⟩
theorem gw_m (fu : Nat) (hf : 40000 ≤ fu) {s : Nat → Int32} (hO : SOk s) {L : Nat} (hL : L < 10) (hd : s (7 + L) ≠ -1) : ∀ (w i : Nat) (V : VT), V 49 = s → i ≤ 10 → 10 - i < w → p_X8_goesWith_l1 fu (nI L) w V (gwS s L i).1 (lI (gwS s L i).2) (nI i) ∧ ∃ V', f_X8_goesWith_l1 fu (nI L) w V (gwS s L i).1 (lI (gwS s L i).2) (nI i) = (f_X8_orNone V (gwS s L 10).1, V') ∧ (∀ r, r ≠ 48 → V' r = V r) ∧ ∀ j, j < 3 → V' 48 j = V 48 j := by
  intro w
  induction w with
  | zero => intro i V hV hi h; omega
  | succ w ih =>
    intro i V hV hi h
    rw [f_X8_goesWith_l1, p_X8_goesWith_l1]
    rcases Nat.lt_or_ge i 10 with hlt | hge
    · have hc : ¬ (10 : Int32) ≤ nI i := nI_ge (b := 10) hlt (by decide)
      obtain ⟨d1, d2⟩ := drawn_n V hlt
      rw [hV] at d2
      have hOV : SOk (V 49) := by rw [hV]; exact hO
      rw [if_neg hc, nI_1, d2]
      by_cases q : s (7 + i) = -1
      · have e : gwS s L (i + 1) = gwS s L i := by rw [gwS, if_neg (fun z => z.1 q)]
        have n := ih (i + 1) V hV (by omega) (by omega)
        rw [e] at n
        have q0 := (neg1 hO hlt).mpr q
        rw [if_pos q0]
        exact ⟨⟨fun z => absurd z hc, fun _ => ⟨d1, fun _ => n.1, fun z => absurd q0 z⟩⟩, n.2⟩
      · have q0 : ¬ s (7 + i) < 0 := fun z => q ((neg1 hO hlt).mp z)
        obtain ⟨mp, me⟩ := comp_n fu hf hOV hL hlt (by rw [hV]; exact hd) (by rw [hV]; exact q)
        rw [hV] at me
        have l1 := BE_le s L i
        have l2 := (gw_ok s L i (by omega)).2
        have n : p_X8_goesWith_l1 fu (nI L) w (MV V (BE s L i)) (gwS s L (i + 1)).1 (lI (gwS s L (i + 1)).2) (nI (i + 1)) ∧ ∃ V'', f_X8_goesWith_l1 fu (nI L) w (MV V (BE s L i)) (gwS s L (i + 1)).1 (lI (gwS s L (i + 1)).2) (nI (i + 1)) = (f_X8_orNone V (gwS s L 10).1, V'') ∧ (∀ r, r ≠ 48 → V'' r = V r) ∧ ∀ j, j < 3 → V'' 48 j = V 48 j := by
          obtain ⟨i1, V'', i2, i3, i4⟩ := ih (i + 1) (MV V (BE s L i)) (by rw [MV_ne _ _ (by decide)]; exact hV) (by omega) (by omega)
          exact ⟨i1, V'', i2, fun r hr => by rw [i3 r hr, MV_ne _ _ hr], fun j hj => by rw [i4 j hj, MV_j _ _ (by omega) (by omega)]⟩
        have me2 : (f_X8_composes fu V (nI L) (nI i)).2 = MV V (BE s L i) := by rw [me]
        rw [if_neg q0]
        by_cases g0 : (BE s L i).2 = 0
        · have e : gwS s L (i + 1) = gwS s L i := by rw [gwS, if_neg (fun z => by have := z.2; omega)]
          rw [e] at n
          have me1 : (f_X8_composes fu V (nI L) (nI i)).1 = 0 := by rw [me]; exact if_pos g0
          rw [me1, me2, if_pos rfl]
          exact ⟨⟨fun z => absurd z hc, fun _ => ⟨d1, fun z => absurd z q0, fun _ => ⟨mp, fun _ => n.1, fun z => absurd rfl z⟩⟩⟩, n.2⟩
        · have n10 : ¬ (1 : Int32) = 0 := by decide
          have me1 : (f_X8_composes fu V (nI L) (nI i)).1 = 1 := by rw [me]; exact if_neg g0
          rw [me1, me2, if_neg n10, MV_4]
          by_cases g1 : (BE s L i).2 ≤ (gwS s L i).2
          · have g1' : lI (BE s L i).2 ≤ lI (gwS s L i).2 := (lI_le (by omega) (by omega)).mpr g1
            have e : gwS s L (i + 1) = gwS s L i := by rw [gwS, if_neg (fun z => by have := z.2; omega)]
            rw [e] at n
            rw [if_pos g1']
            exact ⟨⟨fun z => absurd z hc, fun _ => ⟨d1, fun z => absurd z q0, fun _ => ⟨mp, fun z => absurd z n10, fun _ => ⟨fun _ => n.1, fun z => absurd g1' z⟩⟩⟩⟩, n.2⟩
          · have g1' : ¬ lI (BE s L i).2 ≤ lI (gwS s L i).2 := fun z => g1 ((lI_le (by omega) (by omega)).mp z)
            have e : gwS s L (i + 1) = (nI i, (BE s L i).2) := by rw [gwS, if_pos ⟨q, by omega⟩]
            rw [e] at n
            rw [if_neg g1']
            exact ⟨⟨fun z => absurd z hc, fun _ => ⟨d1, fun z => absurd z q0, fun _ => ⟨mp, fun z => absurd z n10, fun _ => ⟨fun z => absurd z g1', fun _ => n.1⟩⟩⟩⟩, n.2⟩
    · have he : i = 10 := by omega
      subst he
      have hc : (10 : Int32) ≤ nI 10 := nI_le (Nat.le_refl _) (by decide)
      rw [if_pos hc]
      exact ⟨⟨fun _ => trivial, fun z => absurd hc z⟩, V, rfl, fun _ _ => rfl, fun _ _ => rfl⟩
theorem simG_goesWith (fu : Nat) (hf : 40000 ≤ fu) (V : VT) (a : Int32) (hR : RelV V) : (p_X7_goesWith fu V a) ∧ (p_X8_goesWith fu (f_X7_goesWith fu V a).2 a) ∧ (f_X7_goesWith fu V a).1 = (f_X8_goesWith fu (f_X7_goesWith fu V a).2 a).1 ∧ RelV (f_X8_goesWith fu (f_X7_goesWith fu V a).2 a).2 := by
  obtain ⟨⟨hB, hO⟩, -⟩ := id hR
  rcases lt2 a with ha | ⟨x, hx, rfl, ha⟩
  · have e7 : f_X7_goesWith fu V a = (-1001, V) := by simp [f_X7_goesWith, ha]
    have e8 : f_X8_goesWith fu V a = (-1001, V) := by simp [f_X8_goesWith, ha]
    rw [e7]
    dsimp only
    rw [e8]
    exact ⟨by simp [p_X7_goesWith, ha], by simp [p_X8_goesWith, ha], rfl, hR⟩
  have h1 := has_n V hB hx
  obtain ⟨d1, d2⟩ := drawn_n V hx
  by_cases da : V 49 (7 + x) = -1
  · rw [if_pos da] at h1
    rw [da] at d2
    have dn0 : ¬ (0 : Int32) ≤ -1 := by decide
    have e7 : f_X7_goesWith fu V (nI x) = (-1002, V) := by simp [f_X7_goesWith, ha, h1]
    have e8 : f_X8_goesWith fu V (nI x) = (-1002, V) := by simp [f_X8_goesWith, ha, d2, dn0]
    rw [e7]
    dsimp only
    rw [e8]
    exact ⟨by simp [p_X7_goesWith, ha, h1], by simp [p_X8_goesWith, ha, d1, d2, dn0], rfl, hR⟩
  rw [if_neg da] at h1
  have z0 : nI 0 = (0 : Int32) := rfl
  obtain ⟨c1, V', c2, c3⟩ := gw_c fu (by omega) hO hx da fu 0 V hB (by omega) (by omega)
  obtain ⟨w1, V2, w2, w3, w4⟩ := gw_m fu hf hO hx da fu 0 V' (c3 49 (by decide)) (by omega) (by omega)
  rw [gwS, lI_0, z0] at c1 c2 w1 w2
  dsimp only at c1 c2 w1 w2
  have n10 : ¬ (1 : Int32) = 0 := by decide
  have e7 : f_X7_goesWith fu V (nI x) = (f_X8_orNone V (gwS (V 49) x 10).1, V') := by unfold f_X7_goesWith; rw [(ha V).1, h1, if_neg n10, if_neg n10]; exact c2
  have q7 : p_X7_goesWith fu V (nI x) := by unfold p_X7_goesWith; rw [(ha V).1, h1]; exact ⟨fun z => absurd z n10, fun _ => ⟨fun z => absurd z n10, fun _ => c1⟩⟩
  obtain ⟨d1', d2'⟩ := drawn_n V' hx
  rw [c3 49 (by decide)] at d2'
  have dp : 0 ≤ V 49 (7 + x) := by rw [(hO.dr hx da).1]; exact nI_nn (by have := (hO.dr hx da).2; omega)
  have e8 : f_X8_goesWith fu V' (nI x) = (f_X8_orNone V (gwS (V 49) x 10).1, V2) := by unfold f_X8_goesWith; rw [(ha V').2, if_neg n10, d2', if_pos dp]; exact w2
  have q8 : p_X8_goesWith fu V' (nI x) := by unfold p_X8_goesWith; rw [(ha V').2, d2']; exact ⟨fun z => absurd z n10, fun _ => ⟨d1', fun _ => w1, fun z => absurd dp z⟩⟩
  rw [e7]
  dsimp only
  rw [e8]
  exact ⟨q7, q8, rfl, rel_beg hR (fun a h1 h2 h3 => (w3 a h1).trans (c3 a h3)) (fun j hj => (w4 j hj).trans (congrFun (c3 48 (by decide)) j))⟩
