/-! texts -/
def Lt (t : Nat → Int32) (n i : Nat) : Prop := i < n ∧ ∃ k, k < 10 ∧ t i = nI (97 + k)
def Ch (t : Nat → Int32) (n : Nat) : Prop := n ≤ 30 ∧ ∀ i, i < n → ∃ c, 32 ≤ c ∧ c ≤ 126 ∧ t i = nI c
section TX
variable {V : VT} {t : Nat → Int32} {n : Nat}
theorem at30 (h3 : ∀ i, i < n → V 3 i = t i) (hn : n ≤ 30) {i : Nat} (h : i < n) : f_X4_at V 3 30 (nI i) = t i := by
  unfold f_X4_at
  rw [if_neg (nI_pos (by omega)), if_neg (nI_ge (show i < 30 by omega) (by decide)), nI_clamp (by omega)]
  exact h3 i h
theorem la_y (h2 : V 2 0 = nI n) (h3 : ∀ i, i < n → V 3 i = t i) (hn : n ≤ 30) {i k : Nat} (h : i < n) (hk : k < 10) (ht : t i = nI (97 + k)) : f_X5_letterAt V (nI i) = nI k := by
  have e : nI (97 + k) - 97 = nI k := by rw [show (97 : Int32) = nI 97 from rfl, pk_sub (by omega), show 97 + k - 97 = k by omega]
  unfold f_X5_letterAt
  rw [at30 h3 hn h, h2, if_neg (nI_ge h (by omega)), ht, e, if_neg (nI_pos (by omega)), if_neg (show ¬ (10 : Int32) ≤ nI k from nI_ge (b := 10) hk (by decide))]
theorem la_n (h2 : V 2 0 = nI n) (h3 : ∀ i, i < n → V 3 i = t i) (hc : Ch t n) {i : Nat} (hi : i < 2 ^ 30) (h : ¬ Lt t n i) : f_X5_letterAt V (nI i) = -1 := by
  obtain ⟨hn, hch⟩ := hc
  unfold f_X5_letterAt
  rw [h2]
  rcases Nat.lt_or_ge i n with q | q
  · obtain ⟨c, c1, c2, c3⟩ := hch i q
    rw [if_neg (nI_ge q (by omega)), at30 h3 hn q, c3]
    rcases Nat.lt_or_ge c 97 with r | r
    · rw [if_pos (show nI c - 97 < 0 from pk_sneg (a := c) (b := 97) (by decide) r)]
    · have e : nI c - 97 = nI (c - 97) := pk_sub (a := c) (b := 97) r
      have r2 : 10 ≤ c - 97 := by
        rcases Nat.lt_or_ge (c - 97) 10 with w | w
        · exact absurd ⟨q, c - 97, w, by rw [c3, show 97 + (c - 97) = c by omega]⟩ h
        · exact w
      rw [e, if_neg (nI_pos (by omega)), if_pos (show (10 : Int32) ≤ nI (c - 97) from nI_le (a := 10) r2 (by omega))]
  · rw [if_pos (nI_le q (by omega))]
theorem lf_l (fu : Nat) (h2 : V 2 0 = nI n) (h3 : ∀ i, i < n → V 3 i = t i) (hc : Ch t n) {a e : Nat} (he : e ≤ n ∨ e = a) (ha : a < 100) (hl : ∀ j, a ≤ j → j < e → Lt t n j) (hne : ¬ Lt t n e) : ∀ (w i : Nat), a ≤ i → i ≤ e → e - i < w → p_X5_lettersFrom_l1 fu V (nI a) w (nI i) ∧ f_X5_lettersFrom_l1 fu V (nI a) w (nI i) = nI (e - a) := by
  have hn := hc.1
  intro w
  induction w with
  | zero => intro i _ hi h; omega
  | succ w ih =>
    intro i hai hi h
    rw [f_X5_lettersFrom_l1, p_X5_lettersFrom_l1, h2]
    rcases Nat.lt_or_ge i e with q | q
    · obtain ⟨q1, k, k1, k2⟩ := hl i hai q
      have b1 : ¬ nI n ≤ nI i := nI_ge q1 (by omega)
      have b2 : ¬ f_X5_letterAt V (nI i) = -1 := by rw [la_y h2 h3 hn q1 k1 k2]; exact nI_neg1 (by omega)
      obtain ⟨r1, r2⟩ := ih (i + 1) (by omega) (by omega) (by omega)
      rw [if_neg b1, if_neg b2, nI_1]
      exact ⟨⟨fun z => absurd z b1, fun _ => ⟨fun z => absurd z b2, fun _ => r1⟩⟩, r2⟩
    · have hie : i = e := by omega
      subst hie
      have b2 : f_X5_letterAt V (nI i) = -1 := la_n h2 h3 hc (by omega) hne
      have e1 : nI i - nI a = nI (i - a) := pk_sub hai
      rw [if_pos b2, e1, ite_self]
      exact ⟨⟨fun _ => trivial, fun _ => ⟨fun _ => trivial, fun z => absurd b2 z⟩⟩, rfl⟩
theorem ml_y (h2 : V 48 2 = nI n) (h3 : ∀ i, i < n → V 53 i = t i) (hn : n ≤ 30) {i : Nat} (h : Lt t n i) : p_X8_isLetter V (nI i) ∧ f_X8_isLetter V (nI i) = 1 := by
  obtain ⟨q, k, k1, k2⟩ := h
  have b1 : ¬ nI n ≤ nI i := nI_ge q (by omega)
  have b2 : f_X8_in V (nI (97 + k)) 97 106 = 1 := in_n V (lo := 97) (hi := 106) (by omega) (by omega) (by decide)
  unfold p_X8_isLetter f_X8_isLetter
  rw [h2, if_neg b1, nI_clamp (by omega), h3 i q, k2, b2, if_neg (by decide)]
  exact ⟨⟨fun _ => trivial, fun _ => vp_in_nI (by omega) (by decide)⟩, rfl⟩
theorem ml_n (h2 : V 48 2 = nI n) (h3 : ∀ i, i < n → V 53 i = t i) (hc : Ch t n) {i : Nat} (hi : i < 2 ^ 30) (h : ¬ Lt t n i) : p_X8_isLetter V (nI i) ∧ f_X8_isLetter V (nI i) = 0 := by
  obtain ⟨hn, hch⟩ := hc
  unfold p_X8_isLetter f_X8_isLetter
  rw [h2]
  rcases Nat.lt_or_ge i n with q | q
  · obtain ⟨c, c1, c2, c3⟩ := hch i q
    have b1 : ¬ nI n ≤ nI i := nI_ge q (by omega)
    rw [if_neg b1, nI_clamp (by omega), h3 i q, c3]
    have b2 : f_X8_in V (nI c) 97 106 = 0 := by
      rcases Nat.lt_or_ge c 97 with r | r
      · exact in_lo V (nI_lt (b := 97) r (by decide))
      · rcases Nat.lt_or_ge 106 c with r2 | r2
        · exact in_hi V (nI_lt (a := 106) r2 (by omega))
        · exact absurd ⟨q, c - 97, by omega, by rw [c3, show 97 + (c - 97) = c by omega]⟩ h
    rw [b2, if_pos rfl]
    exact ⟨⟨fun _ => trivial, fun _ => vp_in_nI (by omega) (by decide)⟩, rfl⟩
  · have b1 : nI n ≤ nI i := nI_le q (by omega)
    rw [if_pos b1]
    exact ⟨⟨fun _ => trivial, fun z => absurd b1 z⟩, rfl⟩
/-- what breaks makes -/
def brk (V : VT) (p r : Nat) : VT := upV (upV V 48 5 (nI p)) 48 6 (nI r)
theorem brk_e (V : VT) (p r : Nat) : f_X8_breaks V (nI p) (nI r) = (0, brk V p r) := rfl
theorem l2_m (fu : Nat) (h2 : V 48 2 = nI n) (h3 : ∀ i, i < n → V 53 i = t i) (hc : Ch t n) {F E : Nat} (hF : F ≤ 8) (h7 : V 48 7 = nI F) (hE : E ≤ 2 * F + 1) (hEn : ¬ Lt t n E ∨ E = 2 * F + 1) (hl : ∀ j, F < j → j < E → Lt t n j) : ∀ (w i : Nat), F < i → i ≤ E → E - i < w → p_X8_isForm_l2 fu w V (nI i) ∧ f_X8_isForm_l2 fu w V (nI i) = if E = 2 * F + 1 ∧ E = n then (1, V) else (0, brk V E 1) := by
  have hn := hc.1
  have x2 : 2 * V 48 7 = nI (2 * F) := by rw [h7, show (2 : Int32) = nI 2 from rfl, pk_mul]
  intro w
  induction w with
  | zero => intro i _ hi h; omega
  | succ w ih =>
    intro i hFi hi h
    rw [f_X8_isForm_l2, p_X8_isForm_l2, x2, h2, nI_1, nI_1]
    rcases Nat.lt_or_ge i E with q | q
    · obtain ⟨m1, m2⟩ := ml_y h2 h3 hn (hl i hFi q)
      have b1 : ¬ f_X8_isLetter V (nI i) = 0 := by rw [m2]; decide
      have b2 : ¬ nI (2 * F) < nI i := nI_nlt (by omega) (by omega)
      obtain ⟨r1, r2⟩ := ih (i + 1) (by omega) (by omega) (by omega)
      rw [if_neg b1, if_neg b2]
      exact ⟨⟨m1, fun z => absurd z b1, fun _ => ⟨fun z => absurd z b2, fun _ => r1⟩⟩, r2⟩
    · have hie : i = E := by omega
      subst hie
      have eN : (nI i = nI (2 * F + 1)) ↔ i = 2 * F + 1 := nI_eq (by omega) (by omega)
      have eM : (nI i = nI n) ↔ i = n := nI_eq (by omega) (by omega)
      have res : (if nI i = nI (2 * F + 1) then (if nI i = nI n then ((1 : Int32), V) else (if (f_X8_breaks V (nI i) 1).1 = 0 then (0, (f_X8_breaks V (nI i) 1).2) else (1, (f_X8_breaks V (nI i) 1).2))) else (if (f_X8_breaks V (nI i) 1).1 = 0 then (0, (f_X8_breaks V (nI i) 1).2) else (1, (f_X8_breaks V (nI i) 1).2))) = if i = 2 * F + 1 ∧ i = n then (1, V) else (0, brk V i 1) := by
        have bb : f_X8_breaks V (nI i) 1 = (0, brk V i 1) := rfl
        rw [bb]
        simp only [eN, eM, if_true]
        by_cases g1 : i = 2 * F + 1 <;> by_cases g2 : i = n <;> simp [g1, g2]
        all_goals (intros; omega)
      rcases Classical.em (Lt t n i) with g | g
      · obtain ⟨m1, m2⟩ := ml_y h2 h3 hn g
        have b1 : ¬ f_X8_isLetter V (nI i) = 0 := by rw [m2]; decide
        have g2 : i = 2 * F + 1 := hEn.resolve_left (fun z => z g)
        have b2 : nI (2 * F) < nI i := nI_lt (by omega) (by omega)
        rw [if_neg b1, if_pos b2]
        exact ⟨⟨m1, fun z => absurd z b1, fun _ => ⟨fun _ => trivial, fun z => absurd b2 z⟩⟩, res⟩
      · obtain ⟨m1, m2⟩ := ml_n h2 h3 hc (by omega) g
        rw [if_pos m2]
        exact ⟨⟨m1, fun _ => trivial, fun z => absurd m2 z⟩, res⟩
theorem l1_a (fu : Nat) (h2 : V 48 2 = nI n) (h3 : ∀ i, i < n → V 53 i = t i) (hc : Ch t n) (hl : ∀ j, j ≤ 8 → Lt t n j) : ∀ (w i : Nat), i ≤ 8 → 8 - i < w → p_X8_isForm_l1 fu w V (nI i) ∧ f_X8_isForm_l1 fu w V (nI i) = (0, brk V 8 2) := by
  intro w
  induction w with
  | zero => intro i hi h; omega
  | succ w ih =>
    intro i hi h
    obtain ⟨m1, m2⟩ := ml_y h2 h3 hc.1 (hl i hi)
    have b1 : ¬ f_X8_isLetter V (nI i) = 0 := by rw [m2]; decide
    rw [f_X8_isForm_l1, p_X8_isForm_l1, if_neg b1]
    rcases Nat.lt_or_ge i 8 with q | q
    · have b2 : ¬ nI i = 8 := fun z => by have := (nI_eq (a := i) (b := 8) (by omega) (by decide)).mp z; omega
      obtain ⟨r1, r2⟩ := ih (i + 1) (by omega) (by omega)
      rw [if_neg b2, nI_1]
      exact ⟨⟨m1, fun z => absurd z b1, fun _ => ⟨fun z => absurd z b2, fun _ => r1⟩⟩, r2⟩
    · have e8 : i = 8 := by omega
      subst e8
      have b2 : nI 8 = 8 := rfl
      rw [if_pos b2]
      exact ⟨⟨m1, fun z => absurd z b1, fun _ => ⟨fun _ => Or.inl rfl, fun z => absurd b2 z⟩⟩, rfl⟩
theorem l1_b (fu : Nat) (h2 : V 48 2 = nI n) (h3 : ∀ i, i < n → V 53 i = t i) (hc : Ch t n) {F : Nat} (hF : F ≤ 8) (hl : ∀ j, j < F → Lt t n j) (hne : ¬ Lt t n F) {r : Int32 × VT}
    (hbad : (F = 0 ∨ F = n ∨ t F ≠ 47) → r = (0, brk (upV V 48 7 (nI F)) F 1))
    (hgood : F ≠ 0 → F ≠ n → t F = 47 → p_X8_isForm_l2 fu fu (upV V 48 7 (nI F)) (nI (F + 1)) ∧ f_X8_isForm_l2 fu fu (upV V 48 7 (nI F)) (nI (F + 1)) = r) (hFn : F ≤ n) : ∀ (w i : Nat), i ≤ F → F - i < w → p_X8_isForm_l1 fu w V (nI i) ∧ f_X8_isForm_l1 fu w V (nI i) = r := by
  have hn := hc.1
  intro w
  induction w with
  | zero => intro i hi h; omega
  | succ w ih =>
    intro i hi h
    rw [f_X8_isForm_l1, p_X8_isForm_l1]
    rcases Nat.lt_or_ge i F with q | q
    · obtain ⟨m1, m2⟩ := ml_y h2 h3 hn (hl i q)
      have b1 : ¬ f_X8_isLetter V (nI i) = 0 := by rw [m2]; decide
      have b2 : ¬ nI i = 8 := fun z => by have := (nI_eq (a := i) (b := 8) (by omega) (by decide)).mp z; omega
      obtain ⟨r1, r2⟩ := ih (i + 1) (by omega) (by omega)
      rw [if_neg b1, if_neg b2, nI_1]
      exact ⟨⟨m1, fun z => absurd z b1, fun _ => ⟨fun z => absurd z b2, fun _ => r1⟩⟩, r2⟩
    · have hie : i = F := by omega
      subst hie
      obtain ⟨m1, m2⟩ := ml_n h2 h3 hc (by omega) hne
      have u2 : upV V 48 7 (nI i) 48 2 = nI n := by rw [upV_eq, if_neg (by decide), h2]
      have bb : f_X8_breaks (upV V 48 7 (nI i)) (nI i) 1 = (0, brk (upV V 48 7 (nI i)) i 1) := rfl
      rw [if_pos m2, u2, nI_1, nI_clamp (by omega), upV_ne V 7 (nI i) (show (53 : Nat) ≠ 48 by decide), bb]
      have ib : isB ((0 : Int32), brk (upV V 48 7 (nI i)) i 1).1 := Or.inl rfl
      by_cases g0 : i = 0
      · have g0' : nI i = 0 := by rw [g0]; rfl
        rw [if_pos g0', hbad (Or.inl g0)]
        exact ⟨⟨m1, fun _ => ⟨fun _ => ib, fun z => absurd g0' z⟩, fun z => absurd m2 z⟩, rfl⟩
      · have g0' : ¬ nI i = 0 := nI_ne0 (by omega) (by omega)
        rw [if_neg g0']
        by_cases g1 : i = n
        · have g1' : nI i = nI n := by rw [g1]
          rw [if_pos g1', hbad (Or.inr (Or.inl g1))]
          exact ⟨⟨m1, fun _ => ⟨fun z => absurd z g0', fun _ => ⟨fun _ => ib, fun z => absurd g1' z⟩⟩, fun z => absurd m2 z⟩, rfl⟩
        · have g1' : ¬ nI i = nI n := fun z => g1 ((nI_eq (by omega) (by omega)).mp z)
          have v30 : vp_in (nI i) 30 := vp_in_nI (by omega) (by decide)
          rw [if_neg g1', h3 i (by omega)]
          by_cases g2 : t i = 47
          · obtain ⟨r1, r2⟩ := hgood g0 g1 g2
            rw [if_pos g2]
            exact ⟨⟨m1, fun _ => ⟨fun z => absurd z g0', fun _ => ⟨fun z => absurd z g1', fun _ => ⟨v30, fun _ => r1, fun z => absurd g2 z⟩⟩⟩, fun z => absurd m2 z⟩, r2⟩
          · rw [if_neg g2, hbad (Or.inr (Or.inr g2))]
            exact ⟨⟨m1, fun _ => ⟨fun z => absurd z g0', fun _ => ⟨fun z => absurd z g1', fun _ => ⟨v30, fun z => absurd z g2, fun _ => ib⟩⟩⟩, fun z => absurd m2 z⟩, rfl⟩
end TX
theorem brk_ne (V : VT) (p r : Nat) {a : Nat} (h : a ≠ 48) : brk V p r a = V a := by unfold brk; rw [upV_ne _ _ _ h, upV_ne _ _ _ h]
theorem brk_54 (V : VT) (p r : Nat) {j : Nat} (h : j < 5) : brk V p r 48 j = V 48 j := by unfold brk; rw [upV_eq, if_neg (by omega), upV_eq, if_neg (by omega)]
theorem brk_5 (V : VT) (p r : Nat) : brk V p r 48 5 = nI p := by unfold brk; rw [upV_eq, if_neg (by decide), upV_eq, if_pos ⟨rfl, rfl⟩]
theorem brk_6 (V : VT) (p r : Nat) : brk V p r 48 6 = nI r := by unfold brk; rw [upV_eq, if_pos ⟨rfl, rfl⟩]
/-- the text's form, both sides -/
theorem form_b (fu : Nat) (hf : 200 ≤ fu) {V M : VT} {t : Nat → Int32} {n : Nat} (h2 : V 2 0 = nI n) (h3 : ∀ i, i < n → V 3 i = t i) (m2 : M 48 2 = nI n) (m3 : ∀ i, i < n → M 53 i = t i) (hc : Ch t n) :
    p_X5_formFault fu V ∧ p_X8_isForm fu M ∧ ((∃ p r U, p ≤ 30 ∧ 1 ≤ r ∧ r ≤ 3 ∧ f_X5_formFault fu V = nI (10 * p + r) ∧ f_X8_isForm fu M = (0, brk U p r) ∧ (∀ a, a ≠ 48 → U a = M a) ∧ ∀ j, j < 5 → U 48 j = M 48 j) ∨ (∃ W, 1 ≤ W ∧ W ≤ 8 ∧ n = 2 * W + 1 ∧ p_X5_firstLength fu V ∧ f_X5_firstLength fu V = nI W ∧ f_X5_formFault fu V = -1 ∧ f_X8_isForm fu M = (1, upV M 48 7 (nI W)) ∧ (∀ i, i < n → i ≠ W → Lt t n i) ∧ ¬ Lt t n W)) := by
  have hn := hc.1
  have n0 : nI 0 = (0 : Int32) := rfl
  obtain ⟨F, F1, F2⟩ := pk_least (fun k => ¬ Lt t n k) ⟨n, fun z => absurd z.1 (Nat.lt_irrefl _)⟩
  have F2' : ∀ j, j < F → Lt t n j := fun j hj => Classical.not_not.mp (F2 j hj)
  have hFn : F ≤ n := by
    rcases Nat.lt_or_ge n F with q | q
    · exact absurd (F2' n q).1 (Nat.lt_irrefl _)
    · exact q
  obtain ⟨f1, f2⟩ := lf_l fu h2 h3 hc (a := 0) (e := F) (Or.inl hFn) (by omega) (fun j _ hj => F2' j hj) F1 fu 0 (by omega) (by omega) (by omega)
  rw [n0, Nat.sub_zero] at f2
  rw [n0] at f1
  have f2' : f_X5_firstLength fu V = nI F := f2
  have f1' : p_X5_firstLength fu V := f1
  unfold p_X5_formFault f_X5_formFault
  rw [f2']
  rcases Nat.lt_or_ge 8 F with q | q
  · have b1 : ¬ nI F ≤ 8 := nI_ge (a := 8) q (by omega)
    obtain ⟨g1, g2⟩ := l1_a fu m2 m3 hc (fun j hj => F2' j (by omega)) fu 0 (by omega) (by omega)
    rw [n0] at g1 g2
    rw [if_neg b1]
    exact ⟨⟨f1', fun z => absurd z b1, fun _ => trivial⟩, g1, Or.inl ⟨8, 2, M, by omega, by omega, by omega, rfl, g2, fun _ _ => rfl, fun _ _ => rfl⟩⟩
  · have b1 : nI F ≤ 8 := nI_le (b := 8) q (by decide)
    have cod : ∀ p, f_X5_codeOf V (nI p) 1 = nI (10 * p + 1) := fun p => by
      unfold f_X5_codeOf
      rw [show (10 : Int32) = nI 10 from rfl, show (1 : Int32) = nI 1 from rfl, pk_mul, nI_add]
    have uf : ∀ a, a ≠ 48 → upV M 48 7 (nI F) a = M a := fun a ha => upV_ne _ _ _ ha
    have uj : ∀ j, j < 5 → upV M 48 7 (nI F) 48 j = M 48 j := fun j hj => by rw [upV_eq, if_neg (by omega)]
    rw [if_pos b1, nI_1]
    by_cases g0 : F = 0
    · have g0' : nI F = 0 := by rw [g0]; rfl
      obtain ⟨k1, k2⟩ := l1_b fu m2 m3 hc q F2' F1 (fun _ => rfl) (fun z => absurd g0 z) hFn fu 0 (by omega) (by omega)
      rw [n0] at k1 k2
      rw [if_pos g0', cod]
      exact ⟨⟨f1', fun _ => ⟨fun _ => trivial, fun z => absurd g0' z⟩, fun z => absurd b1 z⟩, k1, Or.inl ⟨F, 1, _, by omega, by omega, by omega, rfl, k2, uf, uj⟩⟩
    · have g0' : ¬ nI F = 0 := nI_ne0 (by omega) (by omega)
      rw [if_neg g0']
      by_cases g1 : F ≠ n ∧ t F = 47
      · obtain ⟨g1, g2⟩ := g1
        have sl : f_X5_isSlash V (nI F) = 1 := by
          unfold f_X5_isSlash
          rw [h2, if_neg (nI_ge (show F < n by omega) (by omega)), at30 h3 hn (by omega), g2, if_pos rfl]
        have sl0 : ¬ f_X5_isSlash V (nI F) = 0 := by rw [sl]; decide
        obtain ⟨S, S1, S2⟩ := pk_least (fun k => ¬ Lt t n (F + 1 + k)) ⟨n, fun z => absurd z.1 (by omega)⟩
        have S2' : ∀ j, j < S → Lt t n (F + 1 + j) := fun j hj => Classical.not_not.mp (S2 j hj)
        have hSn : S = 0 ∨ F + 1 + S ≤ n := by
          rcases Nat.eq_zero_or_pos S with w | w
          · exact Or.inl w
          · have := (S2' (S - 1) (by omega)).1
            exact Or.inr (by omega)
        obtain ⟨s1, s2⟩ := lf_l fu h2 h3 hc (a := F + 1) (e := F + 1 + S) (by omega) (by omega) (fun j j1 j2 => by rw [show j = F + 1 + (j - (F + 1)) by omega]; exact S2' _ (by omega)) S1 fu (F + 1) (by omega) (by omega) (by omega)
        rw [show F + 1 + S - (F + 1) = S by omega] at s2
        have s2' : f_X5_lettersFrom fu V (nI (F + 1)) = nI S := s2
        have s1' : p_X5_lettersFrom fu V (nI (F + 1)) := s1
        -- the smaller of the two lengths
        have mn : (if nI S < nI F then nI S else nI F) = nI (min S F) := by
          rcases Nat.lt_or_ge S F with w | w
          · rw [if_pos (nI_lt w (by omega)), Nat.min_eq_left (by omega)]
          · rw [if_neg (nI_nlt w (by omega)), Nat.min_eq_right w]
        have hSb : S ≤ 30 := by omega
        have l2 := l2_m (V := upV M 48 7 (nI F)) fu (by rw [uj 2 (by decide)]; exact m2) (fun i hi => by rw [uf 53 (by decide)]; exact m3 i hi) hc q (by rw [upV_eq, if_pos ⟨rfl, rfl⟩]) (E := F + 1 + min S F) (by omega) (by
          rcases Nat.lt_or_ge S F with w | w
          · rw [Nat.min_eq_left (by omega)]; exact Or.inl S1
          · rw [Nat.min_eq_right w]; exact Or.inr (by omega)) (fun j j1 j2 => by rw [show j = F + 1 + (j - (F + 1)) by omega]; exact S2' _ (by omega)) fu (F + 1) (by omega) (by omega) (by omega)
        obtain ⟨k1, k2⟩ := l1_b fu m2 m3 hc q F2' F1 (r := if F + 1 + min S F = 2 * F + 1 ∧ F + 1 + min S F = n then (1, upV M 48 7 (nI F)) else (0, brk (upV M 48 7 (nI F)) (F + 1 + min S F) 1)) (fun z => z.elim (fun z => absurd z g0) (fun z => z.elim (fun z => absurd z g1) (fun z => absurd g2 z))) (fun _ _ _ => l2) hFn fu 0 (by omega) (by omega)
        rw [n0] at k1 k2
        rw [if_neg sl0, s2', mn, nI_add, h2, cod]
        have pp : p_X5_firstLength fu V ∧ (nI F ≤ 8 → (nI F = 0 → True) ∧ (¬ nI F = 0 → (f_X5_isSlash V (nI F) = 0 → True) ∧ (¬ f_X5_isSlash V (nI F) = 0 → p_X5_lettersFrom fu V (nI (F + 1))))) ∧ (¬ nI F ≤ 8 → True) := ⟨f1', fun _ => ⟨fun _ => trivial, fun _ => ⟨fun _ => trivial, fun _ => s1'⟩⟩, fun _ => trivial⟩
        refine ⟨pp, k1, ?_⟩
        by_cases g3 : S = F
        · subst g3
          rw [if_pos rfl]
          rw [Nat.min_self] at k2 ⊢
          by_cases g4 : S + 1 + S = n
          · have g4' : nI (S + 1 + S) = nI n := by rw [g4]
            rw [if_pos ⟨by omega, g4⟩] at k2
            rw [if_pos g4']
            refine Or.inr ⟨S, by omega, q, by omega, f1', rfl, rfl, k2, fun i hi hne => ?_, F1⟩
            rcases Nat.lt_or_ge i S with w | w
            · exact F2' i w
            · rw [show i = S + 1 + (i - (S + 1)) by omega]; exact S2' _ (by omega)
          · have g4' : ¬ nI (S + 1 + S) = nI n := fun z => g4 ((nI_eq (by omega) (by omega)).mp z)
            rw [if_neg (fun z => g4 z.2)] at k2
            rw [if_neg g4']
            exact Or.inl ⟨S + 1 + S, 1, _, by omega, by omega, by omega, rfl, k2, uf, uj⟩
        · have g3' : ¬ nI S = nI F := fun z => g3 ((nI_eq (by omega) (by omega)).mp z)
          rw [if_neg g3']
          have g5 : ¬ (F + 1 + min S F = 2 * F + 1 ∧ F + 1 + min S F = n) := fun ⟨z1, z2⟩ => by
            have := (S2' F (by omega)).1
            omega
          rw [if_neg g5] at k2
          exact Or.inl ⟨F + 1 + min S F, 1, _, by omega, by omega, by omega, rfl, k2, uf, uj⟩
      · have sl : f_X5_isSlash V (nI F) = 0 := by
          unfold f_X5_isSlash
          rw [h2]
          by_cases w : F = n
          · rw [if_pos (nI_le (by omega) (by omega))]
          · rw [if_neg (nI_ge (show F < n by omega) (by omega)), at30 h3 hn (by omega), if_neg (fun z => g1 ⟨w, z⟩)]
        obtain ⟨k1, k2⟩ := l1_b fu m2 m3 hc q F2' F1 (fun _ => rfl) (fun _ z1 z2 => absurd ⟨z1, z2⟩ g1) hFn fu 0 (by omega) (by omega)
        rw [n0] at k1 k2
        rw [if_pos sl, cod]
        exact ⟨⟨f1', fun _ => ⟨fun _ => trivial, fun _ => ⟨fun _ => trivial, fun z => absurd sl z⟩⟩, fun z => absurd b1 z⟩, k1, Or.inl ⟨F, 1, _, by omega, by omega, by omega, rfl, k2, uf, uj⟩⟩
