/-! read -/
theorem rd_c (fu : Nat) {t : Nat → Int32} {n L : Nat} (hL : L ≤ 8) (hn : n = 2 * L + 1) (hl : ∀ i, i < n → i ≠ L → Lt t n i) : ∀ (w i : Nat) (X : VT), i ≤ L → L - i < w → X 6 0 = nI L → X 2 0 = nI n → (∀ i, i < n → X 3 i = t i) → p_X7_read_l1 fu w X (nI i) ∧ f_X7_read_l1 fu w X (nI i) = (nI L, stR (stR X 11 (fun j => if i ≤ j ∧ j < L then t j - 97 else X 11 j)) 12 (fun j => if i ≤ j ∧ j < L then t (L + 1 + j) - 97 else X 12 j)) := by
  have la : ∀ (X : VT) i, X 2 0 = nI n → (∀ i, i < n → X 3 i = t i) → i < n → i ≠ L → f_X5_letterAt X (nI i) = t i - 97 := fun X i h2 h3 hi hne => by
    obtain ⟨-, k, k1, k2⟩ := hl i hi hne
    rw [la_y h2 h3 (by omega) hi k1 k2, k2, show (97 : Int32) = nI 97 from rfl, pk_sub (by omega), show 97 + k - 97 = k by omega]
  intro w
  induction w with
  | zero => intro i X hi h; omega
  | succ w ih =>
    intro i X hi h h6 h2 h3
    rw [f_X7_read_l1, p_X7_read_l1, show X (6 + 7 * 0) 0 = nI L from h6]
    rcases Nat.lt_or_ge i L with q | q
    · have b1 : ¬ nI L ≤ nI i := nI_ge q (by omega)
      have put1 : ∀ (Y : VT) (r : Nat) x, f_X4_put Y r 8 (nI i) x = upV Y r i x := fun Y r x => by
        unfold f_X4_put
        rw [if_neg (nI_pos (by omega)), if_neg (nI_ge (show i < 8 by omega) (by decide)), nI_clamp (by omega)]
      have e1 : v_X7_read_1 (nI i) X = upV (upV X 11 i (t i - 97)) 12 i (t (L + 1 + i) - 97) := by
        unfold v_X7_read_1
        rw [put1, put1, la X i h2 h3 (by omega) (by omega)]
        show upV (upV X 11 i (t i - 97)) 12 i (f_X5_letterAt (upV X 11 i (t i - 97)) (upV X 11 i (t i - 97) 6 0 + 1 + nI i)) = _
        rw [upV_ne X _ _ (show (6 : Nat) ≠ 11 by decide), h6, nI_1, nI_add, la _ _ (by rw [upV_ne _ _ _ (by decide)]; exact h2) (fun i hi => by rw [upV_ne _ _ _ (by decide)]; exact h3 i hi) (by omega) (by omega)]
      obtain ⟨r1, r2⟩ := ih (i + 1) (upV (upV X 11 i (t i - 97)) 12 i (t (L + 1 + i) - 97)) (by omega) (by omega) (by rw [upV_ne _ _ _ (by decide), upV_ne _ _ _ (by decide)]; exact h6) (by rw [upV_ne _ _ _ (by decide), upV_ne _ _ _ (by decide)]; exact h2) (fun i hi => by rw [upV_ne _ _ _ (by decide), upV_ne _ _ _ (by decide)]; exact h3 i hi)
      rw [if_neg b1, e1, nI_1]
      refine ⟨⟨fun z => absurd z b1, fun _ => r1⟩, ?_⟩
      rw [r2]
      congr 1
      funext a
      by_cases ha : a = 12
      · subst ha
        rw [stR_at, stR_at]
        funext j
        rw [upV_at, upV_ne _ _ _ (show (12 : Nat) ≠ 11 by decide)]
        by_cases hj : j = i
        · subst hj
          rw [if_neg (by omega), if_pos (by omega), pk_us]
        · rw [pk_un hj]
          by_cases h3 : i + 1 ≤ j ∧ j < L
          · rw [if_pos h3, if_pos (by omega)]
          · rw [if_neg h3, if_neg (by omega)]
      · rw [stR_ne _ _ ha, stR_ne _ _ ha]
        by_cases hb : a = 11
        · subst hb
          rw [stR_at, stR_at]
          funext j
          rw [upV_ne _ _ _ (show (11 : Nat) ≠ 12 by decide), upV_at]
          by_cases hj : j = i
          · subst hj
            rw [if_neg (by omega), if_pos (by omega), pk_us]
          · rw [pk_un hj]
            by_cases h3 : i + 1 ≤ j ∧ j < L
            · rw [if_pos h3, if_pos (by omega)]
            · rw [if_neg h3, if_neg (by omega)]
        · rw [stR_ne _ _ hb, stR_ne _ _ hb, upV_ne _ _ _ ha, upV_ne _ _ _ hb]
    · have hie : i = L := by omega
      subst hie
      have b1 : nI i ≤ nI i := nI_le (Nat.le_refl _) (by omega)
      rw [if_pos b1]
      refine ⟨⟨fun _ => trivial, fun z => absurd b1 z⟩, ?_⟩
      rw [show (fun j => if i ≤ j ∧ j < i then t j - 97 else X 11 j) = X 11 from by funext j; rw [if_neg (by omega)]]
      rw [show (fun j => if i ≤ j ∧ j < i then t (i + 1 + j) - 97 else X 12 j) = X 12 from by funext j; rw [if_neg (by omega)]]
      rw [stR_self, stR_self]
def q4 (V : VT) (k : Nat) (A B : Int32) : VT := upV (upV (upV (upV V 49 (17 + 2 * k) 0) 49 (18 + 2 * k) 0) 49 (33 + k) A) 49 (41 + k) B
theorem q4_ne (V : VT) (k : Nat) (A B : Int32) {a : Nat} (h : a ≠ 49) : q4 V k A B a = V a := by unfold q4; rw [upV_ne _ _ _ h, upV_ne _ _ _ h, upV_ne _ _ _ h, upV_ne _ _ _ h]
theorem q4_55 (V : VT) (k : Nat) (A B : Int32) (j : Nat) : q4 V k A B 49 j = if j = 41 + k then B else if j = 33 + k then A else if j = 18 + 2 * k then 0 else if j = 17 + 2 * k then 0 else V 49 j := by
  unfold q4
  simp only [upV_eq, true_and]
theorem rd_m (fu : Nat) {t : Nat → Int32} {n L : Nat} (hL : L ≤ 8) (hn : n = 2 * L + 1) : ∀ (w k : Nat) (X : VT), k ≤ 8 → 8 - k < w → X 48 7 = nI L → (∀ i, i < n → X 53 i = t i) → ∃ U : VT, (p_X8_acted fu U (nI L) → p_X8_read_l1 fu w X (nI k)) ∧ f_X8_read_l1 fu w X (nI k) = f_X8_acted fu U (nI L) ∧ (∀ a, a ≠ 49 → U a = X a) ∧ (∀ j, j < 17 → U 49 j = X 49 j) ∧ (∀ i, i < 8 → k ≤ i → U 49 (17 + 2 * i) = 0 ∧ U 49 (18 + 2 * i) = 0 ∧ U 49 (33 + i) = (if i < L then t i - 97 else 0) ∧ U 49 (41 + i) = (if i < L then t (L + 1 + i) - 97 else 0)) ∧ (∀ i, i < k → U 49 (17 + 2 * i) = X 49 (17 + 2 * i) ∧ U 49 (18 + 2 * i) = X 49 (18 + 2 * i) ∧ U 49 (33 + i) = X 49 (33 + i) ∧ U 49 (41 + i) = X 49 (41 + i)) := by
  intro w
  induction w with
  | zero => intro k X hk h; omega
  | succ w ih =>
    intro k X hk h h7 h9
    rw [f_X8_read_l1, p_X8_read_l1]
    rcases Nat.lt_or_ge k 8 with q | q
    · have b1 : ¬ (8 : Int32) ≤ nI k := nI_ge (b := 8) q (by decide)
      have x33 : (33 : Int32) + nI k = nI (33 + k) := by rw [show (33 : Int32) = nI 33 from rfl, nI_add]
      have x41 : (41 : Int32) + nI k = nI (41 + k) := by rw [show (41 : Int32) = nI 41 from rfl, nI_add]
      have v17 : vp_in (nI (17 + 2 * k)) 49 := vp_in_nI (by omega) (by decide)
      have v18 : vp_in (nI (18 + 2 * k)) 49 := vp_in_nI (by omega) (by decide)
      have v33 : vp_in (nI (33 + k)) 49 := vp_in_nI (by omega) (by decide)
      have v41 : vp_in (nI (41 + k)) 49 := vp_in_nI (by omega) (by decide)
      have step : ∀ A B, (∃ U : VT, (p_X8_acted fu U (nI L) → p_X8_read_l1 fu w (q4 X k A B) (nI (k + 1))) ∧ f_X8_read_l1 fu w (q4 X k A B) (nI (k + 1)) = f_X8_acted fu U (nI L) ∧ (∀ a, a ≠ 49 → U a = X a) ∧ (∀ j, j < 17 → U 49 j = X 49 j) ∧ (∀ i, i < 8 → k + 1 ≤ i → U 49 (17 + 2 * i) = 0 ∧ U 49 (18 + 2 * i) = 0 ∧ U 49 (33 + i) = (if i < L then t i - 97 else 0) ∧ U 49 (41 + i) = (if i < L then t (L + 1 + i) - 97 else 0)) ∧ (U 49 (17 + 2 * k) = 0 ∧ U 49 (18 + 2 * k) = 0 ∧ U 49 (33 + k) = A ∧ U 49 (41 + k) = B) ∧ (∀ i, i < k → U 49 (17 + 2 * i) = X 49 (17 + 2 * i) ∧ U 49 (18 + 2 * i) = X 49 (18 + 2 * i) ∧ U 49 (33 + i) = X 49 (33 + i) ∧ U 49 (41 + i) = X 49 (41 + i))) := by
        intro A B
        obtain ⟨U, u1, u2, u3, u4, u5, u6⟩ := ih (k + 1) (q4 X k A B) (by omega) (by omega) (by rw [q4_ne _ _ _ _ (by decide)]; exact h7) (fun i hi => by rw [q4_ne _ _ _ _ (by decide)]; exact h9 i hi)
        refine ⟨U, u1, u2, fun a ha => by rw [u3 a ha, q4_ne _ _ _ _ ha], fun j hj => by rw [u4 j hj, q4_55, if_neg (by omega), if_neg (by omega), if_neg (by omega), if_neg (by omega)], u5, ?_, fun i hi => ?_⟩
        · obtain ⟨c1, c2, c3, c4⟩ := u6 k (by omega)
          rw [c1, c2, c3, c4, q4_55, q4_55, q4_55, q4_55]
          refine ⟨?_, ?_, ?_, ?_⟩
          · rw [if_neg (by omega), if_neg (by omega), if_neg (by omega), if_pos rfl]
          · rw [if_neg (by omega), if_neg (by omega), if_pos rfl]
          · rw [if_neg (by omega), if_pos rfl]
          · rw [if_pos rfl]
        · obtain ⟨c1, c2, c3, c4⟩ := u6 i (by omega)
          rw [c1, c2, c3, c4, q4_55, q4_55, q4_55, q4_55]
          refine ⟨?_, ?_, ?_, ?_⟩ <;> rw [if_neg (by omega), if_neg (by omega), if_neg (by omega), if_neg (by omega)]
      have e0 : upV (upV X 49 (17 + 2 * k) 0) 49 (18 + 2 * k) 0 48 7 = nI L := by rw [upV_ne _ _ _ (by decide), upV_ne _ _ _ (by decide), h7]
      rw [if_neg b1, nI_1]
      unfold v_X8_read_5 v_X8_read_4 v_X8_read_3 v_X8_read_2
      rw [ix18, ix17, x33, x41, nI_clamp (n := 17 + 2 * k) (by omega), nI_clamp (n := 18 + 2 * k) (by omega), nI_clamp (n := 33 + k) (by omega), nI_clamp (n := 41 + k) (by omega), nI_clamp (n := k) (by omega), e0]
      have e1 : ∀ A, upV (upV (upV X 49 (17 + 2 * k) 0) 49 (18 + 2 * k) 0) 49 (33 + k) A 48 7 = nI L := fun A => by rw [upV_ne _ _ _ (by decide), e0]
      have e2 : ∀ A j, upV (upV (upV X 49 (17 + 2 * k) 0) 49 (18 + 2 * k) 0) 49 (33 + k) A 53 j = X 53 j := fun A j => by rw [upV_ne _ _ _ (by decide), upV_ne _ _ _ (by decide), upV_ne _ _ _ (by decide)]
      have e3 : ∀ j, upV (upV X 49 (17 + 2 * k) 0) 49 (18 + 2 * k) 0 53 j = X 53 j := fun j => by rw [upV_ne _ _ _ (by decide), upV_ne _ _ _ (by decide)]
      rw [e1, e1, e2, e2, e3]
      rcases Nat.lt_or_ge k L with r | r
      · have b2 : ¬ nI L ≤ nI k := nI_ge r (by omega)
        have xx : (nI L + 1 + nI k) = nI (L + 1 + k) := by rw [nI_1, nI_add]
        have v30 : vp_in (nI k) 30 := vp_in_nI (by omega) (by decide)
        have v30' : vp_in (nI (L + 1 + k)) 30 := vp_in_nI (by omega) (by decide)
        rw [if_neg b2, if_neg b2, xx, nI_clamp (n := L + 1 + k) (by omega), h9 k (by omega), h9 (L + 1 + k) (by omega)]
        obtain ⟨U, u1, u2, u3, u4, u5, u6, u7⟩ := step (t k - 97) (t (L + 1 + k) - 97)
        refine ⟨U, fun hp => ⟨fun z => absurd z b1, fun _ => ⟨v17, v18, fun z => absurd z b2, fun _ => ⟨v30, v33, fun z => absurd z b2, fun _ => ⟨v30', v41, u1 hp⟩⟩⟩⟩, u2, u3, u4, fun i hi hki => ?_, u7⟩
        rcases Nat.eq_or_lt_of_le hki with w | w
        · subst w
          rw [if_pos r, if_pos r]
          exact u6
        · exact u5 i hi w
      · have b2 : nI L ≤ nI k := nI_le r (by omega)
        rw [if_pos b2, if_pos b2]
        obtain ⟨U, u1, u2, u3, u4, u5, u6, u7⟩ := step 0 0
        refine ⟨U, fun hp => ⟨fun z => absurd z b1, fun _ => ⟨v17, v18, fun _ => ⟨v33, fun _ => ⟨v41, u1 hp⟩, fun z => absurd b2 z⟩, fun z => absurd b2 z⟩⟩, u2, u3, u4, fun i hi hki => ?_, u7⟩
        rcases Nat.eq_or_lt_of_le hki with w | w
        · subst w
          rw [if_neg (by omega), if_neg (by omega)]
          exact u6
        · exact u5 i hi w
    · have hie : k = 8 := by omega
      subst hie
      have b1 : (8 : Int32) ≤ nI 8 := by decide
      rw [if_pos b1, h7]
      exact ⟨X, fun hp => ⟨fun _ => hp, fun z => absurd b1 z⟩, rfl, fun _ _ => rfl, fun _ _ => rfl, fun i h1 h2 => by omega, fun _ _ => ⟨rfl, rfl, rfl, rfl⟩⟩
theorem simG_read (fu : Nat) (hf : 200 ≤ fu) (V : VT) (hR : RelV V) : (p_X7_read fu V) ∧ (p_X8_read fu (f_X7_read fu V).2) ∧ (f_X7_read fu V).1 = (f_X8_read fu (f_X7_read fu V).2).1 ∧ RelV (f_X8_read fu (f_X7_read fu V).2).2 := by
  obtain ⟨⟨hB, hO⟩, -, -, ⟨n, n1, n2, n3, n4⟩⟩ := id hR
  have hc : Ch (V 53) n := ⟨n1, fun i hi => (n4 i hi).2⟩
  have h3 : ∀ i, i < n → V 3 i = V 53 i := fun i hi => (n4 i hi).1
  obtain ⟨pp, pw⟩ := push_R fu hf hR
  have m10 : ¬ (1 : Int32) = 0 := by decide
  have n0 : nI 0 = (0 : Int32) := rfl
  have mod : ∀ V1 : VT, V1 48 = V 48 → V1 49 = V 49 → V1 53 = V 53 → _ := fun V1 q54 q55 q59 => txt_b fu hf (V := V) (M := f_X8_begins fu V1) hB hO (by rw [(beg_m fu (by omega) V1).2.1 _ (by decide), q55]) n2 h3 (by rw [(beg_m fu (by omega) V1).2.1 _ (by decide), q54]; exact n3) (by rw [(beg_m fu (by omega) V1).2.1 _ (by decide), q59]) hc
  obtain ⟨a1, a2, a3⟩ := mod V rfl rfl rfl
  obtain ⟨b1, b2, b3⟩ := beg_m fu (by omega) V
  rcases a3 with ⟨p, r, U, p1, r1, r2, g1, g2, -, -, g5, g6⟩ | ⟨L, W1, W2, W3, g0, g1, g2, g3, g4⟩
  · have c1 : ¬ f_X5_faultCode fu V 0 = -1 := by rw [g1]; exact nI_neg1 (by omega)
    have e7 : f_X7_read fu V = (-1002, V) := by simp [f_X7_read, c1]
    have e8 : f_X8_read fu V = (-1002, U) := by simp [f_X8_read, g2]
    rw [e7]
    rw [e8]
    refine ⟨⟨a1, fun z => absurd z c1, fun _ => trivial⟩, ⟨b1, a2, fun _ => trivial, fun z => absurd (by rw [g2]) z⟩, rfl, rel_beg (V2 := U) hR (fun a h1 h2 _ => by rw [g5 a h1, b2 a h2]) (fun j hj => by rw [g6 j (by omega), b2 _ (by decide)])⟩
  · -- the class
    have wB : BRel (f_X2_push fu V 0) 6 (V 49) := hB.cong (fun _ _ => rfl) (fun r hr => pw _ (by omega))
    obtain ⟨-, -, f3⟩ := form_b fu hf (V := f_X2_push fu V 0) (M := f_X8_begins fu V) (t := V 53) (n := n) (by rw [pw 2 (by omega)]; exact n2) (fun i hi => by rw [pw 3 (by omega)]; exact h3 i hi) (by rw [b2 _ (by decide)]; exact n3) (fun i hi => by rw [b2 _ (by decide)]) hc
    have hfl : p_X5_firstLength fu (f_X2_push fu V 0) ∧ f_X5_firstLength fu (f_X2_push fu V 0) = nI L := by
      rcases f3 with ⟨p, r, U, -, -, -, -, k2, -, -⟩ | ⟨L', -, -, k3, k4, k5, -⟩
      · exfalso
        unfold f_X8_areWords at g3
        rw [k2, if_pos rfl] at g3
        exact absurd (congrArg Prod.fst g3) (by show ¬ (0 : Int32) = 1; decide)
      · have : L' = L := by omega
        subst this
        exact ⟨k4, k5⟩
    obtain ⟨fl1, fl2⟩ := hfl
    -- renewed
    have rn : p_X0_renew fu (f_X2_push fu V 0) 0 (nI L) ∧ f_X0_renew fu (f_X2_push fu V 0) 0 (nI L) 6 = upd (upd (f_X2_push fu V 0 6) 0 (nI L)) 1 0 ∧ (∀ i, i < 8 → f_X0_renew fu (f_X2_push fu V 0) 0 (nI L) 9 i = 0) ∧ (∀ i, i < 8 → f_X0_renew fu (f_X2_push fu V 0) 0 (nI L) 10 i = 0) ∧ ∀ a, a ≠ 6 → a ≠ 9 → a ≠ 10 → f_X0_renew fu (f_X2_push fu V 0) 0 (nI L) a = f_X2_push fu V 0 a := by
      unfold p_X0_renew f_X0_renew v_X0_renew_1
      simp only [Nat.mul_zero, Nat.add_zero]
      refine ⟨⟨pf_fill_p fu _ 9 8 0 (by decide) (by omega), pf_fill_p fu _ 10 8 0 (by decide) (by omega)⟩, ?_, fun i hi => ?_, fun i hi => ?_, fun a h6 h9 h10 => ?_⟩
      · rw [pf_fill fu _ 10 8 0 (by decide) (by omega), stR_ne _ _ (by decide), pf_fill fu _ 9 8 0 (by decide) (by omega), stR_ne _ _ (by decide), upV_at, upV_at]
      · rw [pf_fill fu _ 10 8 0 (by decide) (by omega), stR_ne _ _ (by decide), pf_fill fu _ 9 8 0 (by decide) (by omega), stR_at, if_pos hi]
      · rw [pf_fill fu _ 10 8 0 (by decide) (by omega), stR_at, if_pos hi]
      · rw [pf_fill fu _ 10 8 0 (by decide) (by omega), stR_ne _ _ h10, pf_fill fu _ 9 8 0 (by decide) (by omega), stR_ne _ _ h9, upV_ne _ _ _ h6, upV_ne _ _ _ h6]
    obtain ⟨rn1, rn2, rn3, rn4, rn5⟩ := rn
    have e7 : f_X7_read fu V = f_X7_read_l1 fu fu (f_X0_renew fu (f_X2_push fu V 0) 0 (nI L)) 0 := by
      unfold f_X7_read
      rw [if_pos g2, fl2]
    obtain ⟨q1, q2⟩ := rd_c fu (t := V 53) (n := n) (L := L) W2 W3 g4 fu 0 (f_X0_renew fu (f_X2_push fu V 0) 0 (nI L)) (by omega) (by omega) (by rw [rn2]; simp [upd]) (by rw [rn5 2 (by decide) (by decide) (by decide), pw 2 (by omega)]; exact n2) (fun i hi => by rw [rn5 3 (by decide) (by decide) (by decide), pw 3 (by omega)]; exact h3 i hi)
    rw [n0] at q1 q2
    have p7 : p_X7_read fu V := ⟨a1, fun _ => ⟨pp, fl1, by rw [fl2]; exact ⟨rn1, q1⟩⟩, fun z => absurd g2 z⟩
    rw [e7, q2]
    dsimp only
    generalize hX : f_X0_renew fu (f_X2_push fu V 0) 0 (nI L) = X at *
    have y11 : ∀ j, j < L → stR (stR X 11 (fun j => if 0 ≤ j ∧ j < L then V 53 j - 97 else X 11 j)) 12 (fun j => if 0 ≤ j ∧ j < L then V 53 (L + 1 + j) - 97 else X 12 j) 11 j = V 53 j - 97 := fun j hj => by rw [stR_ne _ _ (by decide), stR_at, if_pos ⟨Nat.zero_le _, hj⟩]
    have y12 : ∀ j, j < L → stR (stR X 11 (fun j => if 0 ≤ j ∧ j < L then V 53 j - 97 else X 11 j)) 12 (fun j => if 0 ≤ j ∧ j < L then V 53 (L + 1 + j) - 97 else X 12 j) 12 j = V 53 (L + 1 + j) - 97 := fun j hj => by rw [stR_at, if_pos ⟨Nat.zero_le _, hj⟩]
    have yne : ∀ a, a ≠ 11 → a ≠ 12 → stR (stR X 11 (fun j => if 0 ≤ j ∧ j < L then V 53 j - 97 else X 11 j)) 12 (fun j => if 0 ≤ j ∧ j < L then V 53 (L + 1 + j) - 97 else X 12 j) a = X a := fun a h1 h2 => by rw [stR_ne _ _ h2, stR_ne _ _ h1]
    generalize stR (stR X 11 (fun j => if 0 ≤ j ∧ j < L then V 53 j - 97 else X 11 j)) 12 (fun j => if 0 ≤ j ∧ j < L then V 53 (L + 1 + j) - 97 else X 12 j) = V1 at *
    have fr : ∀ a, ¬ (6 ≤ a ∧ a < 13) → V1 a = f_X2_push fu V 0 a := fun a h => by rw [yne a (by omega) (by omega), rn5 a (by omega) (by omega) (by omega)]
    have f55 : V1 49 = V 49 := by rw [fr 49 (by omega), pw 49 (by omega)]
    have f54 : V1 48 = V 48 := by rw [fr 48 (by omega), pw 48 (by omega)]
    have f59 : V1 53 = V 53 := by rw [fr 53 (by omega), pw 53 (by omega)]
    -- the model
    obtain ⟨c1, c2, c3⟩ := mod V1 f54 f55 f59
    obtain ⟨d1, d2, d3⟩ := beg_m fu (by omega) V1
    rcases c3 with ⟨p, r, U, kp1, kp2, kp3, k1, -⟩ | ⟨L', -, -, k3, -, -, -, k7, -⟩
    · rw [g2] at k1
      exact absurd k1.symm (nI_neg1 (by omega))
    · have : L' = L := by omega
      subst this
      have e5 : upV (f_X8_begins fu V1) 48 7 (nI L') 48 7 = nI L' := by rw [upV_eq, if_pos ⟨rfl, rfl⟩]
      have ev : v_X8_read_1 fu V1 = upV (upV (f_X8_begins fu V1) 48 7 (nI L')) 49 0 (nI L') := by
        unfold v_X8_read_1
        rw [k7, z0]
        dsimp only
        rw [e5]
      have e8 : f_X8_read fu V1 = f_X8_read_l1 fu fu (upV (upV (upV (f_X8_begins fu V1) 48 7 (nI L')) 49 0 (nI L')) 49 1 0) 0 := by
        unfold f_X8_read
        rw [k7, if_neg m10, ev, z1]
      have p8 : p_X8_read_l1 fu fu (upV (upV (upV (f_X8_begins fu V1) 48 7 (nI L')) 49 0 (nI L')) 49 1 0) 0 → p_X8_read fu V1 := fun hp => by
        unfold p_X8_read
        rw [k7, ev, z1]
        exact ⟨d1, c2, fun z => absurd z m10, fun _ => hp⟩
      rw [e8]
      have h54 : ∀ j, j < 5 → f_X8_begins fu V1 48 j = V1 48 j := fun j _ => by rw [d2 _ (by decide)]
      have h55 : f_X8_begins fu V1 49 = V 49 := by rw [d2 _ (by decide), f55]
      have hne : ∀ a, a ≠ 50 → f_X8_begins fu V1 a = V1 a := d2
      generalize f_X8_begins fu V1 = M at *
      have Y54 : upV (upV (upV M 48 7 (nI L')) 49 0 (nI L')) 49 1 0 48 7 = nI L' := by rw [upV_ne _ _ _ (by decide), upV_ne _ _ _ (by decide), e5]
      have Y55 : ∀ j, upV (upV (upV M 48 7 (nI L')) 49 0 (nI L')) 49 1 0 49 j = if j = 1 then 0 else if j = 0 then nI L' else V 49 j := fun j => by
        rw [upV_eq, upV_eq, upV_ne M _ _ (show (49 : Nat) ≠ 48 by decide), h55]
        simp only [true_and]
      have Yne : ∀ a, a ≠ 48 → a ≠ 49 → upV (upV (upV M 48 7 (nI L')) 49 0 (nI L')) 49 1 0 a = M a := fun a h1 h2 => by rw [upV_ne _ _ _ h2, upV_ne _ _ _ h2, upV_ne _ _ _ h1]
      have Yj : ∀ j, j < 5 → upV (upV (upV M 48 7 (nI L')) 49 0 (nI L')) 49 1 0 48 j = M 48 j := fun j hj => by rw [upV_ne _ _ _ (by decide), upV_ne _ _ _ (by decide), upV_eq, if_neg (by omega)]
      obtain ⟨U, u1, u2, u3, u4, u5, u6⟩ := rd_m fu (t := V 53) (n := n) (L := L') W2 W3 fu 0 (upV (upV (upV M 48 7 (nI L')) 49 0 (nI L')) 49 1 0) (by omega) (by omega) Y54 (fun i hi => by rw [Yne _ (by decide) (by decide), hne _ (by decide), f59])
      rw [n0] at u1 u2
      have U0 : U 49 0 = nI L' := by rw [u4 0 (by decide), Y55, if_neg (by decide), if_pos rfl]
      have U1 : U 49 1 = 0 := by rw [u4 1 (by decide), Y55, if_pos rfl]
      have Uj : ∀ j, 2 ≤ j → j < 17 → U 49 j = V 49 j := fun j h1 h2 => by rw [u4 j h2, Y55, if_neg (by omega), if_neg (by omega)]
      have lw : ∀ i, i < n → i ≠ L' → ∃ k, k < 10 ∧ V 53 i - 97 = nI k := fun i hi hne => by
        obtain ⟨-, k, k1, k2⟩ := g4 i hi hne
        exact ⟨k, k1, by rw [k2, show (97 : Int32) = nI 97 from rfl, pk_sub (by omega), show 97 + k - 97 = k by omega]⟩
      have wB2 := wB
      obtain ⟨-, -, w2, w3, w4, w5, w6, w7, -, -, -⟩ := wB2
      have x6 : V1 6 = upd (upd (f_X2_push fu V 0 6) 0 (nI L')) 1 0 := by rw [yne 6 (by decide) (by decide)]; exact rn2
      have hB1 : BRel V1 6 (U 49) := by
        refine ⟨?_, ?_, ?_, ?_, ?_, ?_, ?_, fun i hi => ?_, fun i hi => ?_, fun i hi => ?_, fun i hi hp => ?_⟩
        · rw [U0, x6, pk_un (by decide), pk_us]
        · rw [U1, x6, pk_us]
        · rw [Uj 2 (by decide) (by decide), x6, pk_un (by decide), pk_un (by decide)]; exact w2
        · rw [Uj 3 (by decide) (by decide), x6, pk_un (by decide), pk_un (by decide)]; exact w3
        · rw [Uj 4 (by decide) (by decide), x6, pk_un (by decide), pk_un (by decide)]; exact w4
        · rw [Uj 5 (by decide) (by decide), x6, pk_un (by decide), pk_un (by decide)]; exact w5
        · rw [Uj 6 (by decide) (by decide), x6, pk_un (by decide), pk_un (by decide)]; exact w6
        · rw [Uj _ (by omega) (by omega), yne 8 (by decide) (by decide), rn5 8 (by decide) (by decide) (by decide)]; exact w7 i hi
        · rw [(u5 i hi (Nat.zero_le _)).1, yne 9 (by decide) (by decide)]; exact (rn3 i hi).symm
        · rw [(u5 i hi (Nat.zero_le _)).2.1, yne 10 (by decide) (by decide)]; exact (rn4 i hi).symm
        · rw [U0] at hp
          have hi2 : i < L' := by
            rcases Nat.lt_or_ge i L' with w | w
            · exact w
            · exact absurd hp (nI_nlt w (by omega))
          obtain ⟨-, -, e3, e4⟩ := u5 i hi (Nat.zero_le _)
          rw [if_pos hi2] at e3 e4
          rw [e3, e4]
          exact ⟨(y11 i hi2).symm, (y12 i hi2).symm⟩
      have hO1 : SOk (U 49) := by
        obtain ⟨o1, o2, o3, o4, o5, o6, o7, o8, o9, o10, o11⟩ := hO
        refine ⟨⟨L', W2, U0⟩, Or.inl U1, ?_, ?_, ?_, ?_, fun i hi => ?_, fun i j hi hj => ?_, fun i hi => ?_, fun i hi => ?_, fun i hi => ?_⟩
        · rw [Uj 2 (by decide) (by decide)]; exact o3
        · rw [Uj 3 (by decide) (by decide)]; exact o4
        · rw [Uj 5 (by decide) (by decide)]; exact o5
        · rw [Uj 6 (by decide) (by decide)]; exact o6
        · rw [Uj _ (by omega) (by omega)]; exact o7 i hi
        · rw [Uj _ (by omega) (by omega), Uj _ (by omega) (by omega)]; exact o8 i j hi hj
        · exact ⟨0, by decide, (u5 i hi (Nat.zero_le _)).1⟩
        · exact ⟨0, by decide, (u5 i hi (Nat.zero_le _)).2.1⟩
        · rcases Nat.lt_or_ge i 8 with w | w
          · rw [(u5 i w (Nat.zero_le _)).2.2.1]
            by_cases r : i < L'
            · rw [if_pos r]; exact lw i (by omega) (by omega)
            · rw [if_neg r]; exact ⟨0, by decide, rfl⟩
          · have := (u5 (i - 8) (by omega) (Nat.zero_le _)).2.2.2
            rw [show 41 + (i - 8) = 33 + i by omega] at this
            rw [this]
            by_cases r : i - 8 < L'
            · rw [if_pos r]; exact lw _ (by omega) (by omega)
            · rw [if_neg r]; exact ⟨0, by decide, rfl⟩
      have hcd : CD V V1 (U 49) := cd_R fu hf hR (fun a h _ => fr a h) hB1
      obtain ⟨s1, s2, s3⟩ := sim_fin fu hf (X := U) (ans := nI L') hR hcd hO1 (gt_n (by omega)) (fun a h1 h2 h3 => by rw [u3 a h2, Yne a h1 h2, hne a h3]) (fun i hi => by rw [u3 50 (by decide), Yne 50 (by decide) (by decide), d3 i hi]) (fun i hi => rfl) (fun j hj => by rw [u3 48 (by decide), Yj j (by omega), h54 j (by omega)])
      rw [u2]
      exact ⟨p7, p8 (u1 s1), s2.symm, s3⟩
