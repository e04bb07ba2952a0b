/-! the start: the classes that the tables know, both constructors, one table (wip/whole/gen/start.py) -/
def stL : List Cond := [.instantiable RX0 12, .instantiable RX1 7, .instantiable RX2 2, .instantiable RX3 1, .instantiable RX5 2, .instantiable RX7 6, .instantiable RX8 13, .arrayClass .int, .arrayOver (.object RX0)]
set_option maxRecDepth 100000 in
theorem stL_in : ∀ w ∈ stL, w ∈ lw_tbl := in_at [58, 151, 120, 64, 137, 50, 591, 73, 126] rfl
set_option maxRecDepth 100000 in
theorem nwL_in : ∀ w ∈ nwL, w ∈ lw_tbl := in_at [59, 75, 79, 81, 85, 87, 89, 91, 93, 127, 130, 138, 144, 152, 162, 164] rfl
theorem stW {s : State} {av : Array Value} (hts : ∀ w ∈ lw_tbl, w.before av s = true) {w : Cond} (i : Nat) (h : stL[i]? = some w) : w.before av s = true := hts w (stL_in w (List.mem_of_getElem? h))
theorem st_K {s : State} {av : Array Value} (hts : ∀ w ∈ lw_tbl, w.before av s = true) : ∃ (D : va_G) (cI cB : ClassId), KN D cI cB s := by
  obtain ⟨c0, i0, hk0⟩ := u_known (C := RX0) (T := TX0) (N := 12) (n := 12) hts inX0 (stW hts 0 rfl)
  obtain ⟨c1, i1, hk1⟩ := u_known (C := RX1) (T := TX1) (N := 7) (n := 7) hts inX1 (stW hts 1 rfl)
  obtain ⟨c2, i2, hk2⟩ := u_known (C := RX2) (T := TX2) (N := 2) (n := 2) hts inX2 (stW hts 2 rfl)
  obtain ⟨c3, i3, hk3⟩ := u_known (C := RX3) (T := TX3) (N := 1) (n := 1) hts inX3 (stW hts 3 rfl)
  obtain ⟨c4, i4, hk4⟩ := u_known (C := RX5) (T := TX5) (N := 2) (n := 2) hts inX5 (stW hts 4 rfl)
  obtain ⟨c5, i5, hk5⟩ := u_known (C := RX7) (T := TX7) (N := 6) (n := 6) hts inX7 (stW hts 5 rfl)
  obtain ⟨c6, i6, hk6⟩ := u_known (C := RX8) (T := TX8) (N := 13) (n := 13) hts inX8 (stW hts 6 rfl)
  obtain ⟨cI, kI, compI, f1, f2, f3⟩ := Cond.arrayClass_spec (stW hts (w := .arrayClass .int) 7 rfl)
  obtain ⟨comp, cB, kB, g1, g2, g3, g4, g5⟩ := Cond.arrayOver_spec (stW hts (w := .arrayOver (.object RX0)) 8 rfl)
  refine ⟨(fun k => if k = 0 then c0 else if k = 1 then c1 else if k = 2 then c2 else if k = 3 then c3 else if k = 4 then c4 else if k = 5 then c5 else c6, fun k => if k = 0 then i0 else if k = 1 then i1 else if k = 2 then i2 else if k = 3 then i3 else if k = 4 then i4 else if k = 5 then i5 else i6), cI, cB, ⟨?_, ?_⟩, ?_⟩
  · intro k q hq
    match k, hq with
    | 0, hq => cases hq; exact hk0
    | 1, hq => cases hq; exact hk1
    | 2, hq => cases hq; exact hk2
    | 3, hq => cases hq; exact hk3
    | 4, hq => cases hq; exact hk4
    | 5, hq => cases hq; exact hk5
    | 6, hq => cases hq; exact hk6
    | k + 7, hq => simp [vwCl] at hq
  · intro k q hq
    match k, hq with
    | 0, hq => cases hq; exact ⟨fun n z => ⟨fun k h => (by cases h), kI, f2, compI, f3⟩, f1⟩
    | 1, hq => cases hq; exact ⟨fun n z => ⟨fun k h => (by cases h), kB, g3, comp, g4⟩, kB, comp, g3, g4, g1, g5⟩
    | k + 2, hq => simp [tys2] at hq
  · exact ⟨fun w hw => va_Nw.of (nwL_on w hw) (hts w (nwL_in w hw)), va_AO.of (stW hts (w := .arrayOver (.object RX0)) 8 rfl)⟩
theorem vq_cong (c : ClassId) (n : Nat) {f g : Nat → Option Nat} (h : ∀ k, k < n → f k = g k) : vp_cell c (n, .inr (.inr (.inr (.inr f)))) = vp_cell c (n, .inr (.inr (.inr (.inr g)))) := by
  rw [vp_cell_q, vp_cell_q]
  unfold arrV
  have e : (fun j : Fin n => va_rf (f j.val)) = fun j : Fin n => va_rf (g j.val) := by
    funext j
    rw [h j.val j.isLt]
  rw [e]
theorem rel_0 {V : VT} (h0 : V 0 0 = 0) (h54 : ∀ j, j < 3 → V 48 j = 0) (h2 : V 2 0 = 0) (h4 : V 4 0 = 0) (h5 : ∀ k, k < 4 → V 5 k = nI (k + 2)) (h60 : V 6 0 = 0) (h61 : V 6 1 = 0) (h62 : V 6 2 = 20) (h63 : V 6 3 = 0) (h64 : V 6 4 = 0) (h8 : ∀ i, i < 10 → V 8 i = -1) (h9 : ∀ i, i < 8 → V 9 i = 0) (h10 : ∀ i, i < 8 → V 10 i = 0) (h130 : V 6 5 = 4) (h131 : V 6 6 = 3) (h55 : ∀ i, i < 49 → V 49 i = if i = 2 then 20 else if i = 5 then 4 else if i = 6 then 3 else if 7 ≤ i ∧ i < 17 then -1 else 0) : RelV V := by
  have z : ∀ i, i < 49 → i ≠ 2 → i ≠ 5 → i ≠ 6 → ¬ (7 ≤ i ∧ i < 17) → V 49 i = 0 := fun i a b c d e => by rw [h55 i a, if_neg b, if_neg c, if_neg d, if_neg e]
  have n1 : ∀ i, i < 10 → V 49 (7 + i) = -1 := fun i hi => by rw [h55 _ (by omega), if_neg (by omega), if_neg (by omega), if_neg (by omega), if_pos (by omega)]
  have e0 : V 49 0 = 0 := z 0 (by decide) (by decide) (by decide) (by decide) (by decide)
  have e2 : V 49 2 = 20 := by rw [h55 2 (by decide), if_pos rfl]
  have e5 : V 49 5 = 4 := by rw [h55 5 (by decide), if_neg (by decide), if_pos rfl]
  have e6 : V 49 6 = 3 := by rw [h55 6 (by decide), if_neg (by decide), if_neg (by decide), if_pos rfl]
  refine ⟨⟨?_, ?_⟩, ?_, ?_, ?_⟩
  · refine ⟨by rw [e0, h60], by rw [z 1 (by decide) (by decide) (by decide) (by decide) (by decide), h61], by rw [e2, h62], by rw [z 3 (by decide) (by decide) (by decide) (by decide) (by decide), h63], by rw [z 4 (by decide) (by decide) (by decide) (by decide) (by decide), h64], by rw [e5]; exact h130.symm, by rw [e6]; exact h131.symm, fun i hi => by rw [n1 i hi]; exact (h8 i hi).symm, fun i hi => by rw [z _ (by omega) (by omega) (by omega) (by omega) (by omega)]; exact (h9 i hi).symm, fun i hi => by rw [z _ (by omega) (by omega) (by omega) (by omega) (by omega)]; exact (h10 i hi).symm, fun i hi hp => ?_⟩
    rw [e0] at hp
    exact absurd hp (nI_pos (by omega))
  · refine ⟨⟨0, by decide, e0⟩, Or.inl (z 1 (by decide) (by decide) (by decide) (by decide) (by decide)), ⟨20, by decide, by decide, e2⟩, ⟨0, by decide, z 3 (by decide) (by decide) (by decide) (by decide) (by decide)⟩, ⟨4, by decide, by decide, e5⟩, ⟨3, by decide, e6⟩, fun i hi => Or.inl (n1 i hi), fun i j hi hj _ hn => absurd (n1 i hi) hn, fun i hi => ⟨0, by decide, z _ (by omega) (by omega) (by omega) (by omega) (by omega)⟩, fun i hi => ⟨0, by decide, z _ (by omega) (by omega) (by omega) (by omega) (by omega)⟩, fun i hi => ⟨0, by decide, z _ (by omega) (by omega) (by omega) (by omega) (by omega)⟩⟩
  · refine ⟨by rw [h54 0 (by decide), h0], Or.inl h0, fun q => ?_⟩
    rw [h0] at q
    exact absurd q (by decide)
  · refine ⟨0, fun _ _ => 0, by decide, ⟨h4, ⟨fun k hk => ⟨k + 2, by omega, by omega, h5 k hk⟩, fun a b ha hb h => ?_⟩, fun k hk => absurd hk (Nat.not_lt_zero _)⟩, ⟨h54 1 (by decide), fun k i hk => absurd hk (Nat.not_lt_zero _)⟩, fun k hk => absurd hk (Nat.not_lt_zero _)⟩
    rw [h5 a ha, h5 b hb] at h
    have := (nI_eq (a := a + 2) (b := b + 2) (by omega) (by omega)).mp h
    omega
  · exact ⟨0, by decide, h2, h54 2 (by decide), fun i hi => absurd hi (Nat.not_lt_zero _)⟩
