/-! pure facts: rows of numbers, filled and copied -/
def stR (V : VT) (q : Nat) (g : Nat → Int32) : VT := fun a => if a = q then g else V a
theorem stR_at (V : VT) (q : Nat) (g : Nat → Int32) : stR V q g q = g := by simp [stR]
theorem stR_ne (V : VT) {q a : Nat} (g : Nat → Int32) (h : a ≠ q) : stR V q g a = V a := by simp [stR, h]
theorem stR_self (V : VT) (q : Nat) : stR V q (V q) = V := by
  funext a
  by_cases h : a = q
  · subst h; simp [stR]
  · simp [stR, h]
theorem stR_st (V : VT) (q : Nat) (g g' : Nat → Int32) : stR (stR V q g) q g' = stR V q g' := by
  funext a
  by_cases h : a = q <;> simp [stR, h]
theorem upV_st (V : VT) (q i : Nat) (x : Int32) : upV V q i x = stR V q (upd (V q) i x) := by
  funext a
  by_cases h : a = q
  · subst h; simp [upV, stR]
  · simp [upV, stR, h]
theorem upV_at (V : VT) (q i : Nat) (x : Int32) : upV V q i x q = upd (V q) i x := by simp [upV]
theorem upV_ne (V : VT) {q a : Nat} (i : Nat) (x : Int32) (h : a ≠ q) : upV V q i x a = V a := by simp [upV, h]
theorem upV_eq (V : VT) (q i a j : Nat) (x : Int32) : upV V q i x a j = if a = q ∧ j = i then x else V a j := by
  by_cases h : a = q
  · subst h
    by_cases hj : j = i <;> simp [upV, upd, hj]
  · simp [upV, h]
theorem pf_fill_l (fu q n : Nat) (x : Int32) (hn : n < 2 ^ 31) : ∀ (w : Nat) (V : VT) (k : Nat), k ≤ n → n - k < w → p_X4_fill_l1 fu q n x w V (nI k) ∧ f_X4_fill_l1 fu q n x w V (nI k) = stR V q (fun i => if k ≤ i ∧ i < n then x else V q i) := by
  intro w
  induction w with
  | zero => intro V k hk h; omega
  | succ w ih =>
    intro V k hk h
    rw [f_X4_fill_l1, p_X4_fill_l1]
    rcases Nat.lt_or_ge k n with hlt | hge
    · have hc : ¬ nI n ≤ nI k := nI_ge hlt hn
      rw [if_neg hc, nI_clamp (by omega), nI_1]
      obtain ⟨h1, h2⟩ := ih (upV V q k x) (k + 1) (by omega) (by omega)
      refine ⟨⟨fun _ => trivial, fun _ => ⟨vp_in_nI hlt hn, h1⟩⟩, ?_⟩
      rw [h2, upV_st, stR_st, stR_at]
      congr 1
      funext i
      by_cases hi : i = k
      · subst hi
        rw [if_neg (by omega), if_pos (by omega), pk_us]
      · by_cases h3 : k + 1 ≤ i ∧ i < n
        · rw [if_pos h3, if_pos (by omega)]
        · rw [if_neg h3, if_neg (by omega), pk_un hi]
    · have he : k = n := by omega
      subst he
      have hc : nI k ≤ nI k := nI_le (Nat.le_refl _) hn
      rw [if_pos hc]
      refine ⟨⟨fun _ => trivial, fun h => absurd hc h⟩, ?_⟩
      have e : (fun i => if k ≤ i ∧ i < k then x else V q i) = V q := by
        funext i
        rw [if_neg (by omega)]
      rw [e, stR_self]
theorem pf_fill_p (fu : Nat) (V : VT) (q n : Nat) (x : Int32) (hn : n < 2 ^ 31) (hf : n < fu) : p_X4_fill fu V q n x := (pf_fill_l fu q n x hn fu V 0 (by omega) (by omega)).1
theorem pf_fill (fu : Nat) (V : VT) (q n : Nat) (x : Int32) (hn : n < 2 ^ 31) (hf : n < fu) : f_X4_fill fu V q n x = stR V q (fun i => if i < n then x else V q i) := by
  have h := (pf_fill_l fu q n x hn fu V 0 (by omega) (by omega)).2
  simp only [Nat.zero_le, true_and] at h
  exact h
theorem pf_fill_in (fu : Nat) (V : VT) (q n : Nat) (x : Int32) (hn : n < 2 ^ 31) (hf : n < fu) {i : Nat} (hi : i < n) : f_X4_fill fu V q n x q i = x := by
  rw [pf_fill fu V q n x hn hf, stR_at, if_pos hi]
theorem pf_copy_l (fu q1 q2 n : Nat) (hq : q1 ≠ q2) (hn : n < 2 ^ 31) : ∀ (w : Nat) (V : VT) (k : Nat), k ≤ n → n - k < w → p_X4_copy_l1 fu q1 n q2 n w V (nI k) ∧ f_X4_copy_l1 fu q1 n q2 n w V (nI k) = stR V q2 (fun i => if k ≤ i ∧ i < n then V q1 i else V q2 i) := by
  intro w
  induction w with
  | zero => intro V k hk h; omega
  | succ w ih =>
    intro V k hk h
    rw [f_X4_copy_l1, p_X4_copy_l1]
    rcases Nat.lt_or_ge k n with hlt | hge
    · have hc : ¬ nI n ≤ nI k := nI_ge hlt hn
      rw [if_neg hc, if_neg hc, nI_clamp (by omega), nI_1]
      obtain ⟨h1, h2⟩ := ih (upV V q2 k (V q1 k)) (k + 1) (by omega) (by omega)
      refine ⟨⟨fun _ => trivial, fun _ => ⟨fun _ => trivial, fun _ => ⟨vp_in_nI hlt hn, vp_in_nI hlt hn, h1⟩⟩⟩, ?_⟩
      rw [h2, upV_st, stR_st, stR_at, stR_ne _ _ hq]
      congr 1
      funext i
      by_cases hi : i = k
      · subst hi
        rw [if_neg (by omega), if_pos (by omega), pk_us]
      · by_cases h3 : k + 1 ≤ i ∧ i < n
        · rw [if_pos h3, if_pos (by omega)]
        · rw [if_neg h3, if_neg (by omega), pk_un hi]
    · have he : k = n := by omega
      subst he
      have hc : nI k ≤ nI k := nI_le (Nat.le_refl _) hn
      rw [if_pos hc]
      refine ⟨⟨fun _ => trivial, fun h => absurd hc h⟩, ?_⟩
      have e : (fun i => if k ≤ i ∧ i < k then V q1 i else V q2 i) = V q2 := by
        funext i
        rw [if_neg (by omega)]
      rw [e, stR_self]
theorem pf_copy_p (fu : Nat) (V : VT) (q1 q2 n : Nat) (hq : q1 ≠ q2) (hn : n < 2 ^ 31) (hf : n < fu) : p_X4_copy fu V q1 n q2 n := (pf_copy_l fu q1 q2 n hq hn fu V 0 (by omega) (by omega)).1
theorem pf_copy (fu : Nat) (V : VT) (q1 q2 n : Nat) (hq : q1 ≠ q2) (hn : n < 2 ^ 31) (hf : n < fu) : f_X4_copy fu V q1 n q2 n = stR V q2 (fun i => if i < n then V q1 i else V q2 i) := by
  have h := (pf_copy_l fu q1 q2 n hq hn fu V 0 (by omega) (by omega)).2
  simp only [Nat.zero_le, true_and] at h
  exact h
