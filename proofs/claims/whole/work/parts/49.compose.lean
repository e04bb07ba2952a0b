/-! compose, composeAll -/
/-- the best sign of a place: -1 and 0 if there is none -/
def bpS (s : Nat → Int32) (P i : Nat) : Int32 × Nat := if s (7 + (s (wix P i 0)).toNatClampNeg) = -1 ∨ s (7 + (s (wix P i 1)).toNatClampNeg) = -1 then (-1, 0) else BE s (s (wix P i 0)).toNatClampNeg (s (wix P i 1)).toNatClampNeg
theorem bp_ok (s : Nat → Int32) (P i : Nat) : Bst (bpS s P i) := by
  unfold bpS
  split
  · exact Or.inl ⟨rfl, rfl⟩
  · exact BE_ok _ _ _
theorem wn_s {s : Nat → Int32} (hO : SOk s) {P : Nat} (hP8 : P ≤ 8) {i : Nat} (w : Nat) (h : i < P) : (s (wix P i w)).toNatClampNeg < 10 ∧ s (wix P i w) = nI (s (wix P i w)).toNatClampNeg := by
  obtain ⟨j, h1, h2⟩ := wix_lt hP8 h (w := w)
  rw [h2]
  obtain ⟨k, k1, k2⟩ := hO.2.2.2.2.2.2.2.2.2.2 j h1
  rw [k2, nI_clamp (by omega)]
  exact ⟨k1, rfl⟩
/-- the class finds the best of a place -/
theorem ff_n (fu : Nat) (hf : 20 ≤ fu) {V : VT} {s : Nat → Int32} (hB : BRel V 6 s) (hO : SOk s) {P : Nat} (hP8 : P ≤ 8) (hP : s 0 = nI P) {i : Nat} (hi : i < P) : p_X7_findFor fu V (nI i) ∧ ∃ V', f_X7_findFor fu V (nI i) = (if (bpS s P i).2 = 0 then 0 else 1, V') ∧ (∀ r, r ≠ 1 → V' r = V r) ∧ ((bpS s P i).2 ≠ 0 → V' 1 5 = (bpS s P i).1) := by
  obtain ⟨a1, a2⟩ := wn_s hO hP8 0 hi
  obtain ⟨b1, b2⟩ := wn_s hO hP8 1 hi
  have w0 : f_X0_wantedAt V 0 (nI i) 0 = nI (s (wix P i 0)).toNatClampNeg := (wnAs hB hP8 hP hi (Or.inl ⟨rfl, rfl⟩)).trans a2
  have w1 : f_X0_wantedAt V 0 (nI i) 1 = nI (s (wix P i 1)).toNatClampNeg := (wnAs hB hP8 hP hi (Or.inr ⟨rfl, rfl⟩)).trans b2
  unfold p_X7_findFor f_X7_findFor bpS
  rw [w0, w1]
  by_cases g : s (7 + (s (wix P i 0)).toNatClampNeg) = -1 ∨ s (7 + (s (wix P i 1)).toNatClampNeg) = -1
  · obtain ⟨fp, V', fe, fr⟩ := find_0s fu hB a1 b1 g
    rw [if_pos g, fe]
    exact ⟨⟨fp, Or.inl rfl⟩, V', rfl, fr, fun z => absurd rfl z⟩
  · obtain ⟨fp, V', fe, fr, f5, -⟩ := find_ns fu hf hB hO a1 b1 (fun z => g (Or.inl z)) (fun z => g (Or.inr z))
    rw [if_neg g, fe]
    refine ⟨⟨fp, ?_⟩, V', rfl, fr, fun _ => f5⟩
    dsimp only
    split
    · exact Or.inl rfl
    · exact Or.inr rfl
/-- the model does too -/
theorem ca_n (fu : Nat) (hf : 40000 ≤ fu) {V : VT} (hO : SOk (V 49)) {P : Nat} (hP8 : P ≤ 8) (hP : V 49 0 = nI P) {i : Nat} (hi : i < P) : p_X8_composesAt fu V (nI i) ∧ ∃ V', f_X8_composesAt fu V (nI i) = (if (bpS (V 49) P i).2 = 0 then 0 else 1, V') ∧ (∀ r, r ≠ 48 → V' r = V r) ∧ (∀ j, j < 3 → V' 48 j = V 48 j) ∧ ((bpS (V 49) P i).2 ≠ 0 → V' 48 3 = (bpS (V 49) P i).1) := by
  obtain ⟨a1, a2⟩ := wn_s hO hP8 0 hi
  obtain ⟨b1, b2⟩ := wn_s hO hP8 1 hi
  obtain ⟨x0, x1⟩ := wnM hP8 hP hi (wI := 0) (w := 0) (Or.inl ⟨rfl, rfl⟩)
  obtain ⟨y0, y1⟩ := wnM hP8 hP hi (wI := 1) (w := 1) (Or.inr ⟨rfl, rfl⟩)
  rw [a2] at x1
  rw [b2] at y1
  obtain ⟨r1, r2⟩ := ar_n hO a1 b1
  have n10 : ¬ (1 : Int32) = 0 := by decide
  unfold p_X8_composesAt f_X8_composesAt bpS
  rw [x1, y1]
  by_cases g1 : V 49 (7 + (V 49 (wix P i 0)).toNatClampNeg) = -1
  · rw [if_pos g1] at r2
    rw [if_pos (Or.inl g1), r2, if_pos rfl]
    exact ⟨⟨x0, y0, r1, fun _ => trivial, fun z => absurd rfl z⟩, V, rfl, fun _ _ => rfl, fun _ _ => rfl, fun z => absurd rfl z⟩
  by_cases g2 : V 49 (7 + (V 49 (wix P i 1)).toNatClampNeg) = -1
  · rw [if_neg g1, if_pos g2] at r2
    rw [if_pos (Or.inr g2), r2, if_pos rfl]
    exact ⟨⟨x0, y0, r1, fun _ => trivial, fun z => absurd rfl z⟩, V, rfl, fun _ _ => rfl, fun _ _ => rfl, fun z => absurd rfl z⟩
  obtain ⟨mp, me⟩ := comp_n fu hf hO a1 b1 g1 g2
  rw [if_neg g1, if_neg g2] at r2
  have g12 : ¬ (V 49 (7 + (V 49 (wix P i 0)).toNatClampNeg) = -1 ∨ V 49 (7 + (V 49 (wix P i 1)).toNatClampNeg) = -1) := fun z => z.elim g1 g2
  rw [if_neg g12, r2, if_neg n10, me]
  refine ⟨⟨x0, y0, r1, fun z => absurd z n10, fun _ => mp⟩, MV V (BE (V 49) (V 49 (wix P i 0)).toNatClampNeg (V 49 (wix P i 1)).toNatClampNeg), ?_, fun r hr => MV_ne _ _ hr, fun j hj => MV_j _ _ (by omega) (by omega), fun _ => MV_3 _ _⟩
  dsimp only
  by_cases g : (BE (V 49) (V 49 (wix P i 0)).toNatClampNeg (V 49 (wix P i 1)).toNatClampNeg).2 = 0
  · rw [if_pos g, if_pos rfl]
  · rw [if_neg g, if_neg n10]
theorem hg_n {V : VT} {s : Nat → Int32} (hB : BRel V 6 s) {i : Nat} (hi : i < 8) (x : Int32) : f_X0_hang V 0 (nI i) x = upV (upV V 9 i x) 10 i (s 5) ∧ BRel (upV (upV V 9 i x) 10 i (s 5)) 6 (upd (upd s (17 + 2 * i) x) (18 + 2 * i) (s 5)) := by
  refine ⟨?_, BRel.uc (BRel.us hB hi x) hi _⟩
  have put1 : f_X4_put V (6 + 7 * 0 + 3) 8 (nI i) x = upV V 9 i x := by
    unfold f_X4_put
    rw [if_neg (nI_pos (by omega)), if_neg (nI_ge hi (by decide)), nI_clamp (by omega)]
  have st7 : upV V 9 i x (6 + 7 * 0) 5 = s 5 := by
    rw [upV_ne _ _ _ (by decide)]
    exact hB.2.2.2.2.2.1.symm
  unfold f_X0_hang f_X0_coat
  rw [put1, st7]
  unfold f_X4_put
  rw [if_neg (nI_pos (by omega)), if_neg (nI_ge hi (by decide)), nI_clamp (by omega)]
theorem ly_n (V : VT) {i : Nat} (hi : i < 8) (x : Int32) : p_X8_lays V (nI i) x ∧ f_X8_lays V (nI i) x = upV (upV V 49 (17 + 2 * i) x) 49 (18 + 2 * i) (V 49 5) := by
  unfold p_X8_lays f_X8_lays v_X8_lays_1
  rw [ix18, ix17, nI_clamp (by omega), nI_clamp (by omega), z5, upV_eq V 49, if_neg (by omega)]
  exact ⟨⟨vp_in_nI (by omega) (by decide), vp_in_nI (by omega) (by decide)⟩, rfl⟩
theorem simG_compose (fu : Nat) (hf : 40000 ≤ fu) (V : VT) (a : Int32) (hR : RelV V) : (p_X7_compose fu V a) ∧ (p_X8_compose fu (f_X7_compose fu V a).2 a) ∧ (f_X7_compose fu V a).1 = (f_X8_compose fu (f_X7_compose fu V a).2 a).1 ∧ RelV (f_X8_compose fu (f_X7_compose fu V a).2 a).2 := by
  obtain ⟨⟨hB, hO⟩, -⟩ := id hR
  obtain ⟨P, hP8, hP⟩ := hO.1
  obtain ⟨b1, b2, b3⟩ := beg_m fu (by omega) V
  have hPb : f_X8_begins fu V 49 0 = nI P := by rw [b2 49 (by decide)]; exact hP
  have pb := isP_b (f_X8_begins fu V) a
  have n10 : ¬ (1 : Int32) = 0 := by decide
  rcases pk_ix a (n := P) (by omega) with h | h | ⟨i, hi, rfl⟩
  · have e7 : f_X7_compose fu V a = (-1001, V) := by simp [f_X7_compose, hasP_lo V h]
    have e8 : f_X8_compose fu V a = (-1001, f_X8_begins fu V) := by simp [f_X8_compose, isP_lo _ h]
    rw [e7]
    dsimp only
    rw [e8]
    exact ⟨by simp [p_X7_compose, hasP_lo V h], by simp [p_X8_compose, isP_lo _ h, b1, pb], rfl, rel_begins fu (by omega) hR⟩
  · have e7 : f_X7_compose fu V a = (-1001, V) := by simp [f_X7_compose, hasP_hi hB hP h]
    have e8 : f_X8_compose fu V a = (-1001, f_X8_begins fu V) := by simp [f_X8_compose, isP_hi hP8 hPb h]
    rw [e7]
    dsimp only
    rw [e8]
    exact ⟨by simp [p_X7_compose, hasP_hi hB hP h], by simp [p_X8_compose, isP_hi hP8 hPb h, b1, pb], rfl, rel_begins fu (by omega) hR⟩
  have n7 := hasP_n hB hP8 hP hi
  have k8 : i < 8 := by omega
  obtain ⟨fp, V', fe, fr, f5⟩ := ff_n fu (by omega) hB hO hP8 hP hi
  have V'49 : V' 49 = V 49 := fr 49 (by decide)
  rcases bp_ok (V 49) P i with ⟨q1, q2⟩ | ⟨⟨x, hx, q1⟩, q2⟩
  · rw [if_pos q2] at fe
    have fe1 : (f_X7_findFor fu V (nI i)).1 = 0 := by rw [fe]
    have fe2 : (f_X7_findFor fu V (nI i)).2 = V' := by rw [fe]
    have e7 : f_X7_compose fu V (nI i) = (-1002, V') := by unfold f_X7_compose; rw [n7, if_neg n10, fe1, fe2, if_pos rfl]
    have q7 : p_X7_compose fu V (nI i) := by unfold p_X7_compose; rw [n7, fe1, fe2]; exact ⟨fun z => absurd z n10, fun _ => ⟨fp, fun _ => trivial, fun z => absurd rfl z⟩⟩
    obtain ⟨d1, d2, d3⟩ := beg_m fu (by omega) V'
    have B55 : f_X8_begins fu V' 49 = V 49 := by rw [d2 49 (by decide), V'49]
    have hPd : f_X8_begins fu V' 49 0 = nI P := by rw [B55]; exact hP
    have n8 := isP_n hP8 hPd hi
    have pb := isP_b (f_X8_begins fu V') (nI i)
    obtain ⟨cp, X, ce, cr, cj, -⟩ := ca_n fu hf (V := f_X8_begins fu V') (by rw [B55]; exact hO) hP8 hPd hi
    rw [B55, if_pos q2] at ce
    have ce1 : (f_X8_composesAt fu (f_X8_begins fu V') (nI i)).1 = 0 := by rw [ce]
    have ce2 : (f_X8_composesAt fu (f_X8_begins fu V') (nI i)).2 = X := by rw [ce]
    have e8 : f_X8_compose fu V' (nI i) = (-1002, X) := by unfold f_X8_compose; rw [n8, if_neg n10, ce1, ce2, if_pos rfl]
    have q8 : p_X8_compose fu V' (nI i) := by unfold p_X8_compose; rw [n8, ce1, ce2]; exact ⟨d1, pb, fun z => absurd z n10, fun _ => ⟨cp, fun _ => trivial, fun z => absurd rfl z⟩⟩
    rw [e7]
    dsimp only
    rw [e8]
    exact ⟨q7, q8, rfl, rel_beg hR (fun a h1 h2 h3 => (cr a h1).trans ((d2 a h2).trans (fr a h3))) (fun j hj => (cj j hj).trans ((congrFun (d2 48 (by decide)) j).trans (congrFun (fr 48 (by decide)) j)))⟩
  · have q2' : ¬ (bpS (V 49) P i).2 = 0 := by omega
    rw [if_neg q2'] at fe
    have fe1 : (f_X7_findFor fu V (nI i)).1 = 1 := by rw [fe]
    have fe2 : (f_X7_findFor fu V (nI i)).2 = V' := by rw [fe]
    have hR' : RelV V' := rel_beg hR (fun a _ _ h3 => fr a h3) (fun j _ => by rw [fr 48 (by decide)])
    obtain ⟨pp, pw⟩ := push_R fu (by omega) hR'
    have wB : BRel (f_X2_push fu V' 0) 6 (V 49) := hB.cong (fun _ _ => rfl) (fun r hr => by rw [pw _ (by omega), fr _ (by omega)])
    have p15 : f_X2_push fu V' 0 1 5 = nI x := by rw [pw 1 (by omega), f5 q2', q1]
    obtain ⟨h7, hB7⟩ := hg_n wB k8 (nI x)
    have h15 : upV (upV (f_X2_push fu V' 0) 9 i (nI x)) 10 i (V 49 5) 1 5 = nI x := by rw [upV_ne _ _ _ (by decide), upV_ne _ _ _ (by decide), p15]
    have e7 : f_X7_compose fu V (nI i) = (nI x, upV (upV (f_X2_push fu V' 0) 9 i (nI x)) 10 i (V 49 5)) := by
      unfold f_X7_compose
      rw [n7, if_neg n10, fe1, fe2, if_neg n10, p15, h7, h15]
    have q7 : p_X7_compose fu V (nI i) := by unfold p_X7_compose; rw [n7, fe1, fe2]; exact ⟨fun z => absurd z n10, fun _ => ⟨fp, fun z => absurd z n10, fun _ => pp⟩⟩
    have hc : CD V' (upV (upV (f_X2_push fu V' 0) 9 i (nI x)) 10 i (V 49 5)) (upd (upd (V 49) (17 + 2 * i) (nI x)) (18 + 2 * i) (V 49 5)) := cd_R fu (by omega) hR' (fun a h _ => by rw [upV_ne _ _ _ (by omega), upV_ne _ _ _ (by omega)]) hB7
    rw [e7]
    dsimp only
    generalize upV (upV (f_X2_push fu V' 0) 9 i (nI x)) 10 i (V 49 5) = W at *
    obtain ⟨d1, d2, d3⟩ := beg_m fu (by omega) W
    have W55 : W 49 = V 49 := by rw [hc.2.2 49 (by omega), V'49]
    have B55 : f_X8_begins fu W 49 = V 49 := by rw [d2 49 (by decide), W55]
    have hPd : f_X8_begins fu W 49 0 = nI P := by rw [B55]; exact hP
    have n8 := isP_n hP8 hPd hi
    have pb := isP_b (f_X8_begins fu W) (nI i)
    obtain ⟨cp, X, ce, cr, cj, c3⟩ := ca_n fu hf (V := f_X8_begins fu W) (by rw [B55]; exact hO) hP8 hPd hi
    rw [B55, if_neg q2'] at ce
    rw [B55, q1] at c3
    have c3 := c3 q2'
    obtain ⟨l1, l2⟩ := ly_n X k8 (nI x)
    have X55 : X 49 = V 49 := by rw [cr 49 (by decide), B55]
    rw [X55] at l2
    have ce1 : (f_X8_composesAt fu (f_X8_begins fu W) (nI i)).1 = 1 := by rw [ce]
    have ce2 : (f_X8_composesAt fu (f_X8_begins fu W) (nI i)).2 = X := by rw [ce]
    have ev : v_X8_compose_1 fu W (nI i) = upV (upV X 49 (17 + 2 * i) (nI x)) 49 (18 + 2 * i) (V 49 5) := by
      unfold v_X8_compose_1
      rw [ce2, c3, l2]
    have e54 : upV (upV X 49 (17 + 2 * i) (nI x)) 49 (18 + 2 * i) (V 49 5) 48 3 = nI x := by rw [upV_ne _ _ _ (by decide), upV_ne _ _ _ (by decide), c3]
    obtain ⟨c, c1, c2, c4⟩ := hO.2.2.2.2.1
    obtain ⟨a1, a2, a3⟩ := sim_fin fu (by omega) (X := upV (upV X 49 (17 + 2 * i) (nI x)) 49 (18 + 2 * i) (V 49 5)) (ans := nI x) hR' hc (SOk.uc (SOk.us hO k8 ⟨x, hx, rfl⟩) k8 ⟨c, c2, c4⟩) (gt_n (by omega)) (fun a g1 g2 g3 => by rw [upV_ne _ _ _ g2, upV_ne _ _ _ g2, cr a g1, d2 _ g3]) (fun i hi => by rw [upV_ne _ _ _ (by decide), upV_ne _ _ _ (by decide), cr _ (by decide), d3 i hi]) (fun i hi => by rw [upV_at, upV_at, X55]) (fun j hj => by rw [upV_ne _ _ _ (by decide), upV_ne _ _ _ (by decide), cj j hj, d2 _ (by decide)])
    have e8 : f_X8_compose fu W (nI i) = f_X8_acted fu (upV (upV X 49 (17 + 2 * i) (nI x)) 49 (18 + 2 * i) (V 49 5)) (nI x) := by
      unfold f_X8_compose
      rw [n8, if_neg n10, ce1, if_neg n10, ev, e54]
    have q8 : p_X8_compose fu W (nI i) := by
      unfold p_X8_compose
      rw [n8, ce1, ce2, ev, e54, c3]
      exact ⟨d1, pb, fun z => absurd z n10, fun _ => ⟨cp, fun z => absurd z n10, fun _ => ⟨l1, a1⟩⟩⟩
    rw [e8, a2]
    exact ⟨q7, q8, rfl, a3⟩
/-- after the first i places -/
def caS (s : Nat → Int32) (P : Nat) : Nat → (Nat → Int32) × Nat
  | 0 => (s, 0)
  | i + 1 => if (bpS (caS s P i).1 P i).2 = 0 then caS s P i else (upd (upd (caS s P i).1 (17 + 2 * i) (bpS (caS s P i).1 P i).1) (18 + 2 * i) ((caS s P i).1 5), (caS s P i).2 + 1)
theorem cs_ok {s : Nat → Int32} (hO : SOk s) {P : Nat} (hP8 : P ≤ 8) (hP : s 0 = nI P) : ∀ i, i ≤ P → SOk (caS s P i).1 ∧ (caS s P i).1 0 = nI P ∧ (caS s P i).2 ≤ i
  | 0, _ => ⟨hO, hP, Nat.le_refl _⟩
  | i + 1, h => by
    obtain ⟨h1, h2, h3⟩ := cs_ok hO hP8 hP i (by omega)
    rw [caS]
    split
    · exact ⟨h1, h2, by omega⟩
    · rename_i q
      dsimp only
      rcases bp_ok (caS s P i).1 P i with ⟨-, q2⟩ | ⟨⟨x, hx, q1⟩, -⟩
      · exact absurd q2 q
      · obtain ⟨c, c1, c2, c4⟩ := h1.2.2.2.2.1
        rw [q1]
        exact ⟨SOk.uc (SOk.us h1 (by omega) ⟨x, hx, rfl⟩) (by omega) ⟨c, c2, c4⟩, by rw [pk_un (by omega), pk_un (by omega)]; exact h2, by omega⟩
theorem cs_c (fu : Nat) (hf : 20 ≤ fu) {s : Nat → Int32} (hO : SOk s) {P : Nat} (hP8 : P ≤ 8) (hP : s 0 = nI P) : ∀ (w i : Nat) (V : VT), BRel V 6 (caS s P i).1 → i ≤ P → P - i < w → p_X7_composeAll_l1 fu w V (nI (caS s P i).2) (nI i) ∧ ∃ V', f_X7_composeAll_l1 fu w V (nI (caS s P i).2) (nI i) = (nI (caS s P P).2, V') ∧ BRel V' 6 (caS s P P).1 ∧ ∀ r, ¬ (6 ≤ r ∧ r < 13) → r ≠ 1 → V' r = V r := by
  intro w
  induction w with
  | zero => intro i V hB hi h; omega
  | succ w ih =>
    intro i V hB hi h
    obtain ⟨o1, o2, o3⟩ := cs_ok hO hP8 hP i hi
    rw [f_X7_composeAll_l1, p_X7_composeAll_l1, cpls hB o2]
    rcases Nat.lt_or_ge i P with hlt | hge
    · have hc : ¬ nI P ≤ nI i := nI_ge hlt (by omega)
      have k8 : i < 8 := by omega
      obtain ⟨fp, V', fe, fr, f5⟩ := ff_n fu hf hB o1 hP8 o2 hlt
      have wB : BRel V' 6 (caS s P i).1 := hB.cong (fun _ _ => rfl) (fun r hr => fr _ (by omega))
      have n10 : ¬ (1 : Int32) = 0 := by decide
      rw [if_neg hc, nI_1, nI_1]
      rcases bp_ok (caS s P i).1 P i with ⟨q1, q2⟩ | ⟨⟨x, hx, q1⟩, q2⟩
      · have e : caS s P (i + 1) = caS s P i := by rw [caS, if_pos q2]
        obtain ⟨i1, V'', i2, i3, i4⟩ := ih (i + 1) V' (by rw [e]; exact wB) (by omega) (by omega)
        rw [e] at i1 i2
        rw [if_pos q2] at fe
        have fe1 : (f_X7_findFor fu V (nI i)).1 = 0 := by rw [fe]
        have fe2 : (f_X7_findFor fu V (nI i)).2 = V' := by rw [fe]
        rw [fe1, fe2, if_pos rfl]
        exact ⟨⟨fun z => absurd z hc, fun _ => ⟨fp, fun _ => i1, fun z => absurd rfl z⟩⟩, V'', i2, i3, fun r h1 h2 => (i4 r h1 h2).trans (fr r h2)⟩
      · have q2' : ¬ (bpS (caS s P i).1 P i).2 = 0 := by omega
        have e : caS s P (i + 1) = (upd (upd (caS s P i).1 (17 + 2 * i) (nI x)) (18 + 2 * i) ((caS s P i).1 5), (caS s P i).2 + 1) := by rw [caS, if_neg q2', q1]
        obtain ⟨h7, hB7⟩ := hg_n wB k8 (nI x)
        have f5' := f5 q2'
        rw [q1] at f5'
        obtain ⟨i1, V'', i2, i3, i4⟩ := ih (i + 1) _ (by rw [e]; exact hB7) (by omega) (by omega)
        rw [e] at i1 i2
        rw [if_neg q2'] at fe
        have fe1 : (f_X7_findFor fu V (nI i)).1 = 1 := by rw [fe]
        have fe2 : (f_X7_findFor fu V (nI i)).2 = V' := by rw [fe]
        dsimp only at i1 i2
        rw [fe1, fe2, if_neg n10, f5', h7]
        exact ⟨⟨fun z => absurd z hc, fun _ => ⟨fp, fun z => absurd z n10, fun _ => i1⟩⟩, V'', i2, i3, fun r h1 h2 => by rw [i4 r h1 h2, upV_ne _ _ _ (by omega), upV_ne _ _ _ (by omega), fr r h2]⟩
    · have he : i = P := by omega
      subst he
      have hc : nI i ≤ nI i := nI_le (Nat.le_refl _) (by omega)
      rw [if_pos hc]
      exact ⟨⟨fun _ => trivial, fun z => absurd hc z⟩, V, rfl, hB, fun _ _ _ => rfl⟩
theorem cs_m (fu : Nat) (hf : 40000 ≤ fu) {s : Nat → Int32} (hO : SOk s) {P : Nat} (hP8 : P ≤ 8) (hP : s 0 = nI P) : ∀ (w i : Nat) (V : VT), V 49 = (caS s P i).1 → i ≤ P → P - i < w → ∃ X, (p_X8_acted fu X (nI (caS s P P).2) → p_X8_composeAll_l1 fu w V (nI (caS s P i).2) (nI i)) ∧ f_X8_composeAll_l1 fu w V (nI (caS s P i).2) (nI i) = f_X8_acted fu X (nI (caS s P P).2) ∧ X 49 = (caS s P P).1 ∧ (∀ r, r ≠ 48 → r ≠ 49 → X r = V r) ∧ ∀ j, j < 3 → X 48 j = V 48 j := by
  intro w
  induction w with
  | zero => intro i V hV hi h; omega
  | succ w ih =>
    intro i V hV hi h
    obtain ⟨o1, o2, o3⟩ := cs_ok hO hP8 hP i hi
    have hV0 : V 49 0 = nI P := by rw [hV]; exact o2
    have hOV : SOk (V 49) := by rw [hV]; exact o1
    rw [f_X8_composeAll_l1, p_X8_composeAll_l1, z0, hV0]
    rcases Nat.lt_or_ge i P with hlt | hge
    · have hc : ¬ nI P ≤ nI i := nI_ge hlt (by omega)
      have k8 : i < 8 := by omega
      obtain ⟨cp, V', ce, cr, cj, c3⟩ := ca_n fu hf hOV hP8 hV0 hlt
      rw [hV] at ce c3
      have n10 : ¬ (1 : Int32) = 0 := by decide
      rw [if_neg hc, nI_1, nI_1]
      have V'49 : V' 49 = (caS s P i).1 := by rw [cr 49 (by decide), hV]
      rcases bp_ok (caS s P i).1 P i with ⟨q1, q2⟩ | ⟨⟨x, hx, q1⟩, q2⟩
      · have e : caS s P (i + 1) = caS s P i := by rw [caS, if_pos q2]
        obtain ⟨X, i1, i2, i3, i4, i5⟩ := ih (i + 1) V' (by rw [e]; exact V'49) (by omega) (by omega)
        rw [e] at i1 i2
        rw [if_pos q2] at ce
        have ce1 : (f_X8_composesAt fu V (nI i)).1 = 0 := by rw [ce]
        have ce2 : (f_X8_composesAt fu V (nI i)).2 = V' := by rw [ce]
        rw [ce1, ce2, if_pos rfl]
        exact ⟨X, fun hp => ⟨fun z => absurd z hc, fun _ => ⟨cp, fun _ => i1 hp, fun z => absurd rfl z⟩⟩, i2, i3, fun r h1 h2 => (i4 r h1 h2).trans (cr r h1), fun j hj => (i5 j hj).trans (cj j hj)⟩
      · have q2' : ¬ (bpS (caS s P i).1 P i).2 = 0 := by omega
        have e : caS s P (i + 1) = (upd (upd (caS s P i).1 (17 + 2 * i) (nI x)) (18 + 2 * i) ((caS s P i).1 5), (caS s P i).2 + 1) := by rw [caS, if_neg q2', q1]
        obtain ⟨l1, l2⟩ := ly_n V' k8 (nI x)
        have c3' := c3 q2'
        rw [q1] at c3'
        have e55 : upV (upV V' 49 (17 + 2 * i) (nI x)) 49 (18 + 2 * i) (V' 49 5) 49 = (caS s P (i + 1)).1 := by rw [e, upV_at, upV_at, V'49]
        obtain ⟨X, i1, i2, i3, i4, i5⟩ := ih (i + 1) _ e55 (by omega) (by omega)
        rw [e] at i1 i2
        rw [if_neg q2'] at ce
        have ce1 : (f_X8_composesAt fu V (nI i)).1 = 1 := by rw [ce]
        have ce2 : (f_X8_composesAt fu V (nI i)).2 = V' := by rw [ce]
        dsimp only at i1 i2
        rw [ce1, ce2, if_neg n10, c3', l2]
        exact ⟨X, fun hp => ⟨fun z => absurd z hc, fun _ => ⟨cp, fun z => absurd z n10, fun _ => ⟨l1, i1 hp⟩⟩⟩, i2, i3, fun r h1 h2 => by rw [i4 r h1 h2, upV_ne _ _ _ h2, upV_ne _ _ _ h2, cr r h1], fun j hj => by rw [i5 j hj, upV_ne _ _ _ (by decide), upV_ne _ _ _ (by decide), cj j hj]⟩
    · have he : i = P := by omega
      subst he
      have hc : nI i ≤ nI i := nI_le (Nat.le_refl _) (by omega)
      rw [if_pos hc]
      exact ⟨V, fun hp => ⟨fun _ => hp, fun z => absurd hc z⟩, rfl, hV, fun _ _ _ => rfl, fun _ _ => rfl⟩
theorem simG_composeAll (fu : Nat) (hf : 40000 ≤ fu) (V : VT) (hR : RelV V) : (p_X7_composeAll fu V) ∧ (p_X8_composeAll fu (f_X7_composeAll fu V).2) ∧ (f_X7_composeAll fu V).1 = (f_X8_composeAll fu (f_X7_composeAll fu V).2).1 ∧ RelV (f_X8_composeAll fu (f_X7_composeAll fu V).2).2 := by
  obtain ⟨⟨hB, hO⟩, -⟩ := id hR
  obtain ⟨P, hP8, hP⟩ := hO.1
  have hP6 := cpl hB hP
  obtain ⟨pp, pw⟩ := push_R fu (by omega) hR
  have zz : nI 0 = (0 : Int32) := rfl
  rcases Nat.eq_zero_or_pos P with q | q
  · subst q
    obtain ⟨b1, b2, b3⟩ := beg_m fu (by omega) V
    have hPb : f_X8_begins fu V 49 (0 : Int32).toNatClampNeg = 0 := by rw [z0, b2 49 (by decide)]; exact hP
    have e7 : f_X7_composeAll fu V = (-1002, V) := by unfold f_X7_composeAll; rw [if_pos (hP6.trans zz)]
    have e8 : f_X8_composeAll fu V = (-1002, f_X8_begins fu V) := by unfold f_X8_composeAll; rw [if_pos hPb]
    have q7 : p_X7_composeAll fu V := ⟨fun _ => trivial, fun z => absurd (hP6.trans zz) z⟩
    have q8 : p_X8_composeAll fu V := ⟨b1, fun _ => trivial, fun z => absurd hPb z⟩
    rw [e7]
    dsimp only
    rw [e8]
    exact ⟨q7, q8, rfl, rel_begins fu (by omega) hR⟩
  · have n0 : ¬ nI P = 0 := nI_ne0 q (by omega)
    have wB : BRel (f_X2_push fu V 0) 6 (caS (V 49) P 0).1 := hB.cong (fun _ _ => rfl) (fun r hr => pw _ (by omega))
    obtain ⟨c1, W, c2, c3, c4⟩ := cs_c fu (by omega) hO hP8 hP fu 0 (f_X2_push fu V 0) wB (by omega) (by omega)
    have cz : (caS (V 49) P 0).2 = 0 := rfl
    rw [cz, zz] at c1 c2
    have e7 : f_X7_composeAll fu V = (nI (caS (V 49) P P).2, W) := by unfold f_X7_composeAll; rw [hP6, if_neg n0]; exact c2
    have q7 : p_X7_composeAll fu V := by unfold p_X7_composeAll; rw [hP6]; exact ⟨fun z => absurd z n0, fun _ => ⟨pp, c1⟩⟩
    have hc : CD V W (caS (V 49) P P).1 := cd_R fu (by omega) hR c4 c3
    obtain ⟨o1, o2, o3⟩ := cs_ok hO hP8 hP P (Nat.le_refl _)
    rw [e7]
    dsimp only
    obtain ⟨d1, d2, d3⟩ := beg_m fu (by omega) W
    have B55 : f_X8_begins fu W 49 = V 49 := by rw [d2 49 (by decide), hc.2.2 49 (by omega)]
    obtain ⟨X, m1, m2, m3, m4, m5⟩ := cs_m fu hf hO hP8 hP fu 0 (f_X8_begins fu W) B55 (by omega) (by omega)
    rw [cz, zz] at m1 m2
    obtain ⟨a1, a2, a3⟩ := sim_fin fu (by omega) (X := X) (ans := nI (caS (V 49) P P).2) hR hc o1 (gt_n (by omega)) (fun a g1 g2 g3 => by rw [m4 a g1 g2, d2 a g3]) (fun i hi => by rw [m4 50 (by decide) (by decide), d3 i hi]) (fun i hi => by rw [m3]) (fun j hj => by rw [m5 j hj, d2 48 (by decide)])
    have e8 : f_X8_composeAll fu W = f_X8_acted fu X (nI (caS (V 49) P P).2) := by unfold f_X8_composeAll; rw [z0, B55, hP, if_neg n0]; exact m2
    have q8 : p_X8_composeAll fu W := by unfold p_X8_composeAll; rw [z0, B55, hP]; exact ⟨d1, fun z => absurd z n0, fun _ => m1 a1⟩
    rw [e8, a2]
    exact ⟨q7, q8, rfl, a3⟩
