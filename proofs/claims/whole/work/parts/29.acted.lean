/-! the model's history -/
theorem beg_l (fu : Nat) : ∀ (w : Nat) (V : VT) (k : Nat), k ≤ 49 → 49 - k < w → p_X8_begins_l1 fu w V (nI k) ∧ f_X8_begins_l1 fu w V (nI k) = stR V 50 (fun i => if k ≤ i ∧ i < 49 then V 49 i else V 50 i) := by
  intro w
  induction w with
  | zero => intro V k hk h; omega
  | succ w ih =>
    intro V k hk h
    rw [f_X8_begins_l1, p_X8_begins_l1]
    rcases Nat.lt_or_ge k 49 with hlt | hge
    · have hc : ¬ (49 : Int32) ≤ nI k := nI_ge (b := 49) hlt (by decide)
      rw [if_neg hc, nI_clamp (by omega), nI_1]
      obtain ⟨h1, h2⟩ := ih (upV V 50 k (V 49 k)) (k + 1) (by omega) (by omega)
      refine ⟨⟨fun z => absurd z hc, fun _ => ⟨vp_in_nI hlt (by decide), vp_in_nI hlt (by decide), h1⟩⟩, ?_⟩
      rw [h2, upV_st, stR_st, stR_at, stR_ne _ _ (by decide)]
      congr 1
      funext i
      by_cases hi : i = k
      · subst hi
        rw [if_neg (by omega), if_pos (by omega), pk_us]
      · by_cases h3 : k + 1 ≤ i ∧ i < 49
        · rw [if_pos h3, if_pos (by omega)]
        · rw [if_neg h3, if_neg (by omega), pk_un hi]
    · have he : k = 49 := by omega
      subst he
      have hc : (49 : Int32) ≤ nI 49 := by decide
      rw [if_pos hc]
      refine ⟨⟨fun _ => trivial, fun z => absurd hc z⟩, ?_⟩
      have e : (fun i => if 49 ≤ i ∧ i < 49 then V 49 i else V 50 i) = V 50 := by
        funext i
        rw [if_neg (by omega)]
      rw [e, stR_self]
theorem beg_m (fu : Nat) (hf : 70 ≤ fu) (V : VT) : p_X8_begins fu V ∧ (∀ a, a ≠ 50 → f_X8_begins fu V a = V a) ∧ ∀ i, i < 49 → f_X8_begins fu V 50 i = V 49 i := by
  obtain ⟨h1, h2⟩ := beg_l fu fu V 0 (by omega) (by omega)
  unfold p_X8_begins f_X8_begins
  have n0 : nI 0 = (0 : Int32) := rfl
  rw [n0] at h1 h2
  refine ⟨h1, fun a ha => ?_, fun i hi => ?_⟩
  · rw [h2, stR_ne _ _ ha]
  · rw [h2, stR_at, if_pos ⟨Nat.zero_le _, hi⟩]
theorem act_l3 (fu : Nat) (ans : Int32) {h : Nat} (hh : h < 4) : ∀ (w : Nat) (V : VT) (k : Nat), V 48 1 = nI h → k ≤ 49 → 49 - k < w → p_X8_acted_l3 fu ans w V (nI k) ∧ f_X8_acted_l3 fu ans w V (nI k) = (ans, upV (stR V 52 (fun t => if 49 * h + k ≤ t ∧ t < 49 * h + 49 then V 50 (t - 49 * h) else V 52 t)) 48 1 (nI (h + 1))) := by
  intro w
  induction w with
  | zero => intro V k _ hk h; omega
  | succ w ih =>
    intro V k hV hk hw
    rw [f_X8_acted_l3, p_X8_acted_l3, hV]
    rcases Nat.lt_or_ge k 49 with hlt | hge
    · have hc : ¬ (49 : Int32) ≤ nI k := nI_ge (b := 49) hlt (by decide)
      have hx : (49 : Int32) * nI h + nI k = nI (49 * h + k) := by rw [show (49 : Int32) = nI 49 from rfl, pk_mul, nI_add]
      rw [if_neg hc, nI_1, hx, nI_clamp (n := k) (by omega), nI_clamp (n := 49 * h + k) (by omega)]
      obtain ⟨h1, h2⟩ := ih (upV V 52 (49 * h + k) (V 50 k)) (k + 1) (by rw [upV_ne _ _ _ (by decide)]; exact hV) (by omega) (by omega)
      refine ⟨⟨fun z => absurd z hc, fun _ => ⟨vp_in_nI hlt (by decide), vp_in_nI (by omega) (by decide), h1⟩⟩, ?_⟩
      rw [h2, upV_st V 52, stR_st, stR_at, stR_ne _ _ (by decide)]
      congr 2
      congr 1
      funext i
      by_cases hi : i = 49 * h + k
      · subst hi
        rw [if_neg (by omega), if_pos (by omega), pk_us, show 49 * h + k - 49 * h = k by omega]
      · by_cases h3 : 49 * h + (k + 1) ≤ i ∧ i < 49 * h + 49
        · rw [if_pos h3, if_pos (by omega)]
        · rw [if_neg h3, if_neg (by omega), pk_un hi]
    · have he : k = 49 := by omega
      subst he
      have hc : (49 : Int32) ≤ nI 49 := by decide
      rw [if_pos hc, show nI h + 1 = nI (h + 1) by rw [nI_1]]
      refine ⟨⟨fun _ => trivial, fun z => absurd hc z⟩, ?_⟩
      have e : (fun t => if 49 * h + 49 ≤ t ∧ t < 49 * h + 49 then V 50 (t - 49 * h) else V 52 t) = V 52 := by
        funext i
        rw [if_neg (by omega)]
      rw [e, stR_self]
theorem act_l2 (fu : Nat) (ans : Int32) : ∀ (w : Nat) (V : VT) (k : Nat), k ≤ 147 → 147 - k < w → (p_X8_acted_l3 fu ans fu (upV (stR V 52 (fun t => if k ≤ t ∧ t < 147 then V 52 (t + 49) else V 52 t)) 48 1 (V 48 1 - 1)) 0 → p_X8_acted_l2 fu ans w V (nI k)) ∧ f_X8_acted_l2 fu ans w V (nI k) = f_X8_acted_l3 fu ans fu (upV (stR V 52 (fun t => if k ≤ t ∧ t < 147 then V 52 (t + 49) else V 52 t)) 48 1 (V 48 1 - 1)) 0 := by
  intro w
  induction w with
  | zero => intro V k hk h; omega
  | succ w ih =>
    intro V k hk hw
    rw [f_X8_acted_l2, p_X8_acted_l2]
    rcases Nat.lt_or_ge k 147 with hlt | hge
    · have hc : ¬ (147 : Int32) ≤ nI k := nI_ge (b := 147) hlt (by decide)
      have hx : nI k + (49 : Int32) = nI (k + 49) := by rw [show (49 : Int32) = nI 49 from rfl, nI_add]
      rw [if_neg hc, nI_1, hx, nI_clamp (n := k) (by omega), nI_clamp (n := k + 49) (by omega)]
      obtain ⟨h1, h2⟩ := ih (upV V 52 k (V 52 (k + 49))) (k + 1) (by omega) (by omega)
      have e : upV (stR (upV V 52 k (V 52 (k + 49))) 52 (fun t => if k + 1 ≤ t ∧ t < 147 then (upV V 52 k (V 52 (k + 49))) 52 (t + 49) else (upV V 52 k (V 52 (k + 49))) 52 t)) 48 1 ((upV V 52 k (V 52 (k + 49))) 48 1 - 1) = upV (stR V 52 (fun t => if k ≤ t ∧ t < 147 then V 52 (t + 49) else V 52 t)) 48 1 (V 48 1 - 1) := by
        rw [upV_st V 52, stR_st, stR_at, stR_ne _ _ (by decide)]
        congr 2
        funext i
        by_cases hi : i = k
        · subst hi
          rw [if_neg (by omega), if_pos (by omega), pk_us]
        · by_cases h3 : k + 1 ≤ i ∧ i < 147
          · rw [if_pos h3, if_pos (by omega), pk_un (by omega)]
          · rw [if_neg h3, if_neg (by omega), pk_un hi]
      rw [e] at h1 h2
      exact ⟨fun hp => ⟨fun z => absurd z hc, fun _ => ⟨vp_in_nI (by omega) (by decide), vp_in_nI (by omega) (by decide), h1 hp⟩⟩, h2⟩
    · have he : k = 147 := by omega
      subst he
      have hc : (147 : Int32) ≤ nI 147 := by decide
      have e : (fun t => if 147 ≤ t ∧ t < 147 then V 52 (t + 49) else V 52 t) = V 52 := by
        funext i
        rw [if_neg (by omega)]
      rw [if_pos hc, e, stR_self]
      exact ⟨fun hp => ⟨fun _ => hp, fun z => absurd hc z⟩, rfl⟩
theorem act_m (fu : Nat) (hf : 200 ≤ fu) {V : VT} {h : Nat} {hst : Nat → Nat → Int32} (hh : h ≤ 4) (hM : HM V h hst) {s : Nat → Int32} (hs : ∀ i, i < 49 → V 50 i = s i) {ans : Int32} (ha : -1001 < ans) : p_X8_acted fu V ans ∧ (f_X8_acted fu V ans).1 = ans ∧ HM (f_X8_acted fu V ans).2 (pushN h) (pushS h hst s) ∧ (∀ a, a ≠ 48 → a ≠ 52 → (f_X8_acted fu V ans).2 a = V a) ∧ ∀ j, j ≠ 1 → (f_X8_acted fu V ans).2 48 j = V 48 j := by
  obtain ⟨hn, hv⟩ := hM
  unfold p_X8_acted f_X8_acted
  rw [if_pos ha, hn]
  have n0 : nI 0 = (0 : Int32) := rfl
  rcases Nat.lt_or_ge h 4 with q | q
  · have q1 : ¬ nI h = 4 := fun z => by have := (nI_eq (a := h) (b := 4) (by omega) (by decide)).mp z; omega
    obtain ⟨h1, h2⟩ := act_l3 fu ans q fu V 0 hn (by omega) (by omega)
    rw [n0] at h1 h2
    rw [if_neg q1, h2]
    refine ⟨⟨fun _ => ⟨fun z => absurd z q1, fun _ => h1⟩, fun z => absurd ha z⟩, rfl, ⟨?_, fun k i hk hi => ?_⟩, fun a g1 g2 => ?_, fun j g => ?_⟩
    · dsimp only; unfold pushN; rw [if_pos q, upV_eq, if_pos ⟨rfl, rfl⟩]
    · unfold pushN at hk
      rw [if_pos q] at hk
      dsimp only
      rw [upV_ne _ _ _ (by decide), stR_at]
      unfold pushS
      rw [if_pos q]
      by_cases r : k = h
      · subst r
        simp only [if_true]
        rw [if_pos (by omega), show 49 * k + i - 49 * k = i by omega, hs i hi]
      · simp only [r, if_false]
        rw [if_neg (by omega)]
        exact hv k i (by omega) hi
    · dsimp only; rw [upV_ne _ _ _ g1, stR_ne _ _ g2]
    · dsimp only; rw [upV_eq, if_neg (fun z => g z.2), stR_ne _ _ (by decide)]
  · have h4 : h = 4 := by omega
    subst h4
    have q1 : nI 4 = 4 := rfl
    obtain ⟨h1, h2⟩ := act_l2 fu ans fu V 0 (by omega) (by omega)
    rw [n0] at h1 h2
    rw [hn, show nI 4 - 1 = nI 3 from rfl] at h1 h2
    obtain ⟨h3, h5⟩ := act_l3 fu ans (h := 3) (by decide) fu (upV (stR V 52 (fun t => if 0 ≤ t ∧ t < 147 then V 52 (t + 49) else V 52 t)) 48 1 (nI 3)) 0 (by rw [upV_eq, if_pos ⟨rfl, rfl⟩]) (by omega) (by omega)
    rw [n0] at h3 h5
    rw [if_pos q1, h2, h5]
    refine ⟨⟨fun _ => ⟨fun _ => h1 h3, fun z => absurd q1 z⟩, fun z => absurd ha z⟩, rfl, ⟨?_, fun k i hk hi => ?_⟩, fun a g1 g2 => ?_, fun j g => ?_⟩
    · dsimp only; unfold pushN; rw [if_neg (by decide), upV_eq, if_pos ⟨rfl, rfl⟩]
    · unfold pushN at hk
      rw [if_neg (by decide)] at hk
      dsimp only
      rw [upV_ne _ _ _ (by decide), stR_at]
      unfold pushS
      rw [upV_ne _ _ _ (show (50 : Nat) ≠ 48 by decide), upV_ne _ _ _ (show (52 : Nat) ≠ 48 by decide), stR_at, stR_ne _ _ (show (50 : Nat) ≠ 52 by decide)]
      simp only [show ¬ (4 < 4) by decide, if_false]
      by_cases r : k = 3
      · subst r
        simp only [if_true]
        rw [if_pos (by omega), show 49 * 3 + i - 49 * 3 = i by omega, hs i hi]
      · simp only [r, if_false]
        rw [if_neg (by omega), if_pos (by omega), show 49 * k + i + 49 = 49 * (k + 1) + i by omega]
        exact hv (k + 1) i (by omega) hi
    · dsimp only; rw [upV_ne _ _ _ g1, stR_ne _ _ g2, upV_ne _ _ _ g1, stR_ne _ _ g2]
    · dsimp only; rw [upV_eq, if_neg (fun z => g z.2), stR_ne _ _ (by decide), upV_eq, if_neg (fun z => g z.2), stR_ne _ _ (by decide)]
/-- the class went to s', its history one longer -/
def CD (V V1 : VT) (s' : Nat → Int32) : Prop := BRel V1 6 s' ∧ (∀ h hst, h ≤ 4 → HC V h hst → HC V1 (pushN h) (pushS h hst (V 49))) ∧ ∀ a, a = 0 ∨ a = 2 ∨ a = 3 ∨ (13 ≤ a ∧ a < 20) ∨ 48 ≤ a → V1 a = V a
/-- the model did too -/
def MD (V V2 : VT) (s' : Nat → Int32) : Prop := (∀ i, i < 49 → V2 49 i = s' i) ∧ (∀ h hst, h ≤ 4 → HM V h hst → HM V2 (pushN h) (pushS h hst (V 49))) ∧ (∀ a, a < 48 ∨ a = 51 ∨ a = 53 → V2 a = V a) ∧ V2 48 0 = V 48 0 ∧ V2 48 2 = V 48 2
theorem rel_mut {V V1 V2 : VT} {s' : Nat → Int32} (hR : RelV V) (hc : CD V V1 s') (hm : MD V1 V2 s') (hs : SOk s') : RelV V2 := by
  obtain ⟨⟨hB, hO⟩, hS, ⟨h, hst, hh, hC, hM, hk⟩, hT⟩ := hR
  obtain ⟨c1, c2, c3⟩ := hc
  obtain ⟨m1, m2, m3, m4, m5⟩ := hm
  refine ⟨⟨c1.cong (fun i hi => m1 i hi) (fun r hr => m3 _ (by omega)), hs.cong (fun i hi => m1 i hi)⟩, ?_, ⟨pushN h, pushS h hst (V 49), pushN_le h, ?_, ?_, pushS_ok hh hO hk⟩, ?_⟩
  · exact hS.cong (fun a ha => by rw [m3 a (by omega), c3 a (by omega)]) (by rw [m4, c3 48 (by omega)])
  · exact (c2 h hst hh hC).cong (pushN_le h) (fun a ha => m3 a (by omega))
  · have := m2 h hst hh (hM.cong (c3 52 (by omega)) (by rw [c3 48 (by omega)]))
    rw [c3 49 (by omega)] at this
    exact this
  · exact hT.cong (fun a ha => by rw [m3 a (by omega), c3 a (by omega)]) (by rw [m5, c3 48 (by omega)])
theorem rel_beg {V V2 : VT} (hR : RelV V) (h1 : ∀ a, a ≠ 48 → a ≠ 50 → a ≠ 1 → V2 a = V a) (h2 : ∀ j, j < 3 → V2 48 j = V 48 j) : RelV V2 :=
  ⟨hR.1.cong (fun a ha => h1 a (by omega) (by omega) (by omega)), hR.2.1.cong (fun a ha => h1 a (by omega) (by omega) (by omega)) (h2 0 (by decide)), hR.2.2.1.cong (fun a ha => h1 a (by omega) (by omega) (by omega)) (h2 1 (by decide)), hR.2.2.2.cong (fun a ha => h1 a (by omega) (by omega) (by omega)) (h2 2 (by decide))⟩
theorem SOk.b1 {s : Nat → Int32} (h : SOk s) : isB (s 1) := h.2.1
/-- the class pushed, then changed its board -/
theorem cd_of (fu : Nat) (hf : 20 ≤ fu) {V V1 : VT} {s' : Nat → Int32} (hB : BRel V 6 (V 49)) (hO : SOk (V 49)) (hH : HistR V) (h1 : ∀ a, ¬ (6 ≤ a ∧ a < 13) → a ≠ 1 → V1 a = f_X2_push fu V 0 a) (h2 : BRel V1 6 s') : CD V V1 s' := by
  refine ⟨h2, fun h hst hh hC => ?_, ?_⟩
  · obtain ⟨-, p2, -⟩ := push_c fu hf hB hO.b1 hh hC
    exact p2.cong (pushN_le h) (fun a ha => h1 a (by omega) (by omega))
  · obtain ⟨h, hst, hh, hC, -, -⟩ := hH
    obtain ⟨-, -, p3⟩ := push_c fu hf hB hO.b1 hh hC
    intro a ha
    rw [h1 a (by omega) (by omega), p3 a (by omega)]
/-- the model began, changed its 49 numbers, and acted -/
theorem md_of (fu : Nat) (hf : 200 ≤ fu) {V X : VT} {s' : Nat → Int32} {ans : Int32} {h : Nat} {hst : Nat → Nat → Int32} (hh : h ≤ 4) (hM : HM V h hst) (ha : -1001 < ans) (h1 : ∀ a, a ≠ 48 → a ≠ 49 → a ≠ 50 → X a = V a) (h2 : ∀ i, i < 49 → X 50 i = V 49 i) (h3 : ∀ i, i < 49 → X 49 i = s' i) (h4 : ∀ j, j < 3 → X 48 j = V 48 j) : p_X8_acted fu X ans ∧ (f_X8_acted fu X ans).1 = ans ∧ MD V (f_X8_acted fu X ans).2 s' := by
  have hMX : ∀ h hst, HM V h hst → HM X h hst := fun h hst hM => hM.cong (h1 52 (by decide) (by decide) (by decide)) (h4 1 (by decide))
  obtain ⟨a1, a2, a3, a4, a5⟩ := act_m fu hf hh (hMX h hst hM) h2 ha
  refine ⟨a1, a2, fun i hi => ?_, fun h hst hh hM => ?_, fun a ha => ?_, ?_, ?_⟩
  · rw [a4 49 (by decide) (by decide)]; exact h3 i hi
  · exact (act_m fu hf hh (hMX h hst hM) h2 ha).2.2.1
  · rw [a4 a (by omega) (by omega)]; exact h1 a (by omega) (by omega) (by omega)
  · rw [a5 0 (by decide)]; exact h4 0 (by decide)
  · rw [a5 2 (by decide)]; exact h4 2 (by decide)
