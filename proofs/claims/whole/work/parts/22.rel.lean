/-! the relation of the class's rows and the model's -/
/-- a board of the class (its first row q) holds what the model's 49 numbers say -/
def BRel (V : VT) (q : Nat) (s : Nat → Int32) : Prop :=
  s 0 = V q 0 ∧ s 1 = V q 1 ∧ s 2 = V q 2 ∧ s 3 = V q 3 ∧ s 4 = V q 4 ∧ s 5 = V q 5 ∧ s 6 = V q 6 ∧
  (∀ i, i < 10 → s (7 + i) = V (q + 2) i) ∧ (∀ i, i < 8 → s (17 + 2 * i) = V (q + 3) i) ∧ (∀ i, i < 8 → s (18 + 2 * i) = V (q + 4) i) ∧
  (∀ i, i < 8 → nI i < s 0 → s (33 + i) = V (q + 5) i ∧ s (41 + i) = V (q + 6) i)
/-- what 49 numbers of the model always are -/
def SOk (s : Nat → Int32) : Prop :=
  (∃ P, P ≤ 8 ∧ s 0 = nI P) ∧ (s 1 = 0 ∨ s 1 = 1) ∧ (∃ k, 1 ≤ k ∧ k ≤ 99 ∧ s 2 = nI k) ∧ (∃ k, k ≤ 9999 ∧ s 3 = nI k) ∧
  (∃ k, 1 ≤ k ∧ k ≤ 9 ∧ s 5 = nI k) ∧ (∃ k, k ≤ 9 ∧ s 6 = nI k) ∧
  (∀ i, i < 10 → s (7 + i) = -1 ∨ ∃ x, x < 32768 ∧ s (7 + i) = nI x) ∧
  (∀ i j, i < 10 → j < 10 → s (7 + i) = s (7 + j) → s (7 + i) ≠ -1 → i = j) ∧
  (∀ i, i < 8 → ∃ x, x < 32768 ∧ s (17 + 2 * i) = nI x) ∧ (∀ i, i < 8 → ∃ k, k ≤ 9 ∧ s (18 + 2 * i) = nI k) ∧
  (∀ i, i < 16 → ∃ k, k < 10 ∧ s (33 + i) = nI k)
def NowR (V : VT) : Prop := BRel V 6 (V 49) ∧ SOk (V 49)
def SnapR (V : VT) : Prop := V 48 0 = V 0 0 ∧ isB (V 0 0) ∧ (V 0 0 = 1 → BRel V 13 (V 51) ∧ SOk (V 51))
def HPerm (V : VT) : Prop := (∀ k, k < 4 → ∃ j, 2 ≤ j ∧ j < 6 ∧ V 5 k = nI j) ∧ ∀ a b, a < 4 → b < 4 → V 5 a = V 5 b → a = b
def hb (V : VT) (k : Nat) : Nat := 6 + 7 * (V 5 k).toNatClampNeg
def HC (V : VT) (h : Nat) (hst : Nat → Nat → Int32) : Prop := V 4 0 = nI h ∧ HPerm V ∧ ∀ k, k < h → BRel V (hb V k) (hst k)
def HM (V : VT) (h : Nat) (hst : Nat → Nat → Int32) : Prop := V 48 1 = nI h ∧ ∀ k i, k < h → i < 49 → V 52 (49 * k + i) = hst k i
def HistR (V : VT) : Prop := ∃ (h : Nat) (hst : Nat → Nat → Int32), h ≤ 4 ∧ HC V h hst ∧ HM V h hst ∧ ∀ k, k < h → SOk (hst k)
def TextR (V : VT) : Prop := ∃ n, n ≤ 30 ∧ V 2 0 = nI n ∧ V 48 2 = nI n ∧ ∀ i, i < n → V 3 i = V 53 i ∧ ∃ c, 32 ≤ c ∧ c ≤ 126 ∧ V 53 i = nI c
def RelV (V : VT) : Prop := NowR V ∧ SnapR V ∧ HistR V ∧ TextR V
theorem BRel.cong {V V' : VT} {q : Nat} {s s' : Nat → Int32} (h : BRel V q s) (hs : ∀ i, i < 49 → s' i = s i) (hv : ∀ r, r < 7 → V' (q + r) = V (q + r)) : BRel V' q s' := by
  obtain ⟨h0, h1, h2, h3, h4, h5, h6, h7, h8, h9, h10⟩ := h
  have v0 := hv 0 (by omega)
  rw [Nat.add_zero] at v0
  refine ⟨?_, ?_, ?_, ?_, ?_, ?_, ?_, fun i hi => ?_, fun i hi => ?_, fun i hi => ?_, fun i hi hp => ?_⟩
  · rw [hs 0 (by omega), v0]; exact h0
  · rw [hs 1 (by omega), v0]; exact h1
  · rw [hs 2 (by omega), v0]; exact h2
  · rw [hs 3 (by omega), v0]; exact h3
  · rw [hs 4 (by omega), v0]; exact h4
  · rw [hs 5 (by omega), v0]; exact h5
  · rw [hs 6 (by omega), v0]; exact h6
  · rw [hs _ (by omega), hv 2 (by omega)]; exact h7 i hi
  · rw [hs _ (by omega), hv 3 (by omega)]; exact h8 i hi
  · rw [hs _ (by omega), hv 4 (by omega)]; exact h9 i hi
  · rw [hs 0 (by omega)] at hp
    rw [hs _ (by omega), hs _ (by omega), hv 5 (by omega), hv 6 (by omega)]
    exact h10 i hi hp
theorem SOk.cong {s s' : Nat → Int32} (h : SOk s) (hs : ∀ i, i < 49 → s' i = s i) : SOk s' := by
  obtain ⟨h1, h2, h3, h4, h5, h6, h7, h8, h9, h10, h11⟩ := h
  refine ⟨?_, ?_, ?_, ?_, ?_, ?_, fun i hi => ?_, fun i j hi hj => ?_, fun i hi => ?_, fun i hi => ?_, fun i hi => ?_⟩
  · rw [hs 0 (by omega)]; exact h1
  · rw [hs 1 (by omega)]; exact h2
  · rw [hs 2 (by omega)]; exact h3
  · rw [hs 3 (by omega)]; exact h4
  · rw [hs 5 (by omega)]; exact h5
  · rw [hs 6 (by omega)]; exact h6
  · rw [hs _ (by omega)]; exact h7 i hi
  · rw [hs _ (by omega), hs _ (by omega)]; exact h8 i j hi hj
  · rw [hs _ (by omega)]; exact h9 i hi
  · rw [hs _ (by omega)]; exact h10 i hi
  · rw [hs _ (by omega)]; exact h11 i hi
theorem NowR.cong {V V' : VT} (h : NowR V) (hv : ∀ a, (6 ≤ a ∧ a < 13) ∨ a = 49 → V' a = V a) : NowR V' := by
  have e : V' 49 = V 49 := hv 49 (Or.inr rfl)
  refine ⟨?_, by rw [e]; exact h.2⟩
  rw [e]
  exact h.1.cong (fun _ _ => rfl) (fun r hr => hv _ (Or.inl (by omega)))
theorem SnapR.cong {V V' : VT} (h : SnapR V) (hv : ∀ a, a = 0 ∨ (13 ≤ a ∧ a < 20) ∨ a = 51 → V' a = V a) (h54 : V' 48 0 = V 48 0) : SnapR V' := by
  have e0 : V' 0 = V 0 := hv 0 (by omega)
  have e : V' 51 = V 51 := hv 51 (by omega)
  refine ⟨by rw [h54, e0]; exact h.1, by rw [e0]; exact h.2.1, fun h1 => ?_⟩
  rw [e0] at h1
  obtain ⟨a, b⟩ := h.2.2 h1
  rw [e]
  exact ⟨a.cong (fun _ _ => rfl) (fun r hr => hv _ (by omega)), b⟩
theorem HPerm.at {V : VT} (h : HPerm V) {k : Nat} (hk : k < 4) : ∃ j, 2 ≤ j ∧ j < 6 ∧ V 5 k = nI j ∧ (V 5 k).toNatClampNeg = j ∧ hb V k = 6 + 7 * j := by
  obtain ⟨j, h1, h2, h3⟩ := h.1 k hk
  refine ⟨j, h1, h2, h3, ?_, ?_⟩
  · rw [h3, nI_clamp (by omega)]
  · unfold hb; rw [h3, nI_clamp (by omega)]
theorem HC.cong {V V' : VT} {n : Nat} {hst : Nat → Nat → Int32} (h : HC V n hst) (hn : n ≤ 4) (hv : ∀ a, a = 4 ∨ a = 5 ∨ (20 ≤ a ∧ a < 48) → V' a = V a) : HC V' n hst := by
  have e5 : V' 5 = V 5 := hv 5 (by omega)
  refine ⟨by rw [hv 4 (by omega)]; exact h.1, ?_, fun k hk => ?_⟩
  · unfold HPerm; rw [e5]; exact h.2.1
  · obtain ⟨j, h1, h2, h3, h4, h5⟩ := h.2.1.at (k := k) (by omega)
    have e : hb V' k = hb V k := by unfold hb; rw [e5]
    rw [e]
    exact (h.2.2 k hk).cong (fun _ _ => rfl) (fun r hr => hv _ (by omega))
theorem HM.cong {V V' : VT} {n : Nat} {hst : Nat → Nat → Int32} (h : HM V n hst) (h58 : V' 52 = V 52) (h54 : V' 48 1 = V 48 1) : HM V' n hst := ⟨by rw [h54]; exact h.1, fun k i hk hi => by rw [h58]; exact h.2 k i hk hi⟩
theorem HistR.cong {V V' : VT} (h : HistR V) (hv : ∀ a, a = 4 ∨ a = 5 ∨ (20 ≤ a ∧ a < 48) ∨ a = 52 → V' a = V a) (h54 : V' 48 1 = V 48 1) : HistR V' := by
  obtain ⟨n, hst, h1, h2, h3, h4⟩ := h
  exact ⟨n, hst, h1, h2.cong h1 (fun a ha => hv a (by omega)), h3.cong (hv 52 (by omega)) h54, h4⟩
theorem TextR.cong {V V' : VT} (h : TextR V) (hv : ∀ a, a = 2 ∨ a = 3 ∨ a = 53 → V' a = V a) (h54 : V' 48 2 = V 48 2) : TextR V' := by
  obtain ⟨n, h1, h2, h3, h4⟩ := h
  exact ⟨n, h1, by rw [hv 2 (by omega)]; exact h2, by rw [h54]; exact h3, fun i hi => by rw [hv 3 (by omega), hv 53 (by omega)]; exact h4 i hi⟩
