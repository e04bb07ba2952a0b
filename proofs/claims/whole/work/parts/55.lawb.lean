/-! the law's calls, one by one (wip/whole/gen/law2.py) -/
set_option maxHeartbeats 8000000 in
set_option maxRecDepth 100000 in
theorem law_count {p : Program} {l : Launch} {e : Env} {s : State} {m : MethodId} {below : List Frame} {meth : Method} {c : Code} {D : va_G} {cI cB : ClassId} {ad : Nat → Nat} {b L : Nat} {xs : Nat → Int32} (C0 : lw_At p s m meth c b L xs) (hKN : KN D cI cB s) (hA : adOk ad (fun q : Nat => s.heap.size ≤ q)) {i : Nat} {V : VT} (hR : RelV V) {H : Heap} {locs : List Loc} (hP : wP D cI cB ad V H) (hS : va_S (fun q : Nat => s.heap.size ≤ q) s.heap H locs) {ls : Array Slot} (hl : lv_has ls 4 [(0, .ref b), (1, .ref (ad 0)), (2, .ref (ad 48)), (3, .int (nI i))]) (v1 : vp_in (nI i + 1) L) (kk : ∀ (V' : VT) (H' : Heap) (locs' : List Loc), RelV V' → wP D cI cB ad V' H' → va_S (fun q : Nat => s.heap.size ≤ q) s.heap H' locs' → W p l e room_1 s m #[Value.ref b] below meth c H' locs' 54 767 (lw_Z below #[Value.ref b] s) (F0 m 733 ls [])) : W p l e room_1 s m #[Value.ref b] below meth c H locs 54 767 (lw_Z below #[Value.ref b] s) (F0 m 507 ls []) := by
  obtain ⟨hx, hb, hr, hml, hown, hts0, hX, hbl, hlocks, hgv⟩ := C0
  have hts : ∀ w ∈ wsL_law, w.before #[Value.ref b] s = true := fun w h => hts0 w (wsL_law_in w h)
  have hK := hKN.1
  have hbA : ¬ (fun q : Nat => s.heap.size ≤ q) b := Nat.not_le.mpr hbl
  refine lv_aload_n hx hb dL_law_507 rfl (lv_at hl 1 rfl) ?_
  refine lv_aload_n hx hb dL_law_508 rfl (lv_at hl 0 rfl) ?_
  refine lv_iload_n hx hb dL_law_509 rfl (lv_at hl 3 rfl) ?_
  refine lv_iconst (v := 1) hx hb dL_law_510 (by decide) ?_
  refine lv_iadd hx hb dL_law_511 ?_
  refine va_sld hx hb hX hbl hbA hS v1 dL_law_512 ?_
  obtain ⟨hp7, hp8, hEq, hR2⟩ := sim_count V (xs (nI i + 1).toNatClampNeg) hR
  refine k_VR (nL := 4) (As := [.int (xs (nI i + 1).toNatClampNeg)]) (rest := []) (q := 0) ⟨hx, hb, hml, hown, hts⟩ hKN hP hS (m_X7_count l D cI cB ad FU V (xs (nI i + 1).toNatClampNeg) hp7) (cwV 1 hts gL_law_X7_count rfl rfl rfl (by decide +kernel) ⟨(Nat.le_of_ble_eq_true rfl), (Nat.le_of_ble_eq_true rfl)⟩) (c_preV hP hKN (q := 0) (ci := 5) (fs := [.ref (ad 6), .ref (ad 13), .ref (ad 4), .ref (ad 2), .ref (ad 1), .int (V 0 0)]) (by decide) (ce_tb ad cI cB (V 0)) rfl rfl) rfl hl.1 rfl (Nat.le_of_ble_eq_true rfl) dL_law_513 ⟨(Nat.le_of_ble_eq_true rfl), (Nat.le_of_ble_eq_true rfl)⟩ (fun H locs hP hS => ?_)
  refine lv_aload_n hx hb dL_law_516 rfl (lv_at hl 2 rfl) ?_
  refine lv_aload_n hx hb dL_law_517 rfl (lv_at hl 0 rfl) ?_
  refine lv_iload_n hx hb dL_law_518 rfl (lv_at hl 3 rfl) ?_
  refine lv_iconst (v := 1) hx hb dL_law_519 (by decide) ?_
  refine lv_iadd hx hb dL_law_520 ?_
  refine va_sld hx hb hX hbl hbA hS v1 dL_law_521 ?_
  refine k_VR (nL := 4) (As := [.int (xs (nI i + 1).toNatClampNeg)]) (rest := [.int (f_X7_count FU V (xs (nI i + 1).toNatClampNeg))]) (q := 48) ⟨hx, hb, hml, hown, hts⟩ hKN hP hS (m_X8_count l D cI cB ad FU V (xs (nI i + 1).toNatClampNeg) hp8) (cwV 1 hts gL_law_X8_count rfl rfl rfl (by decide +kernel) ⟨(Nat.le_of_ble_eq_true rfl), (Nat.le_of_ble_eq_true rfl)⟩) (c_preV hP hKN (q := 48) (ci := 6) (fs := [.ref (ad 49), .ref (ad 50), .ref (ad 51), .int ((V 48) 0), .ref (ad 52), .int ((V 48) 1), .ref (ad 53), .int ((V 48) 2), .int ((V 48) 3), .int ((V 48) 4), .int ((V 48) 5), .int ((V 48) 6), .int ((V 48) 7)]) (by decide) (ce_md ad cI cB (V 48)) rfl rfl) rfl hl.1 rfl (Nat.le_of_ble_eq_true rfl) dL_law_522 ⟨(Nat.le_of_ble_eq_true rfl), (Nat.le_of_ble_eq_true rfl)⟩ (fun H locs hP hS => ?_)
  refine lv_icmp_eq (tgt := 733) hx hb dL_law_525 (by decide) (fun _ => ?_) (fun hc => absurd hEq hc)
  exact kk _ H locs hR2 hP hS
set_option maxHeartbeats 8000000 in
set_option maxRecDepth 100000 in
theorem law_composed {p : Program} {l : Launch} {e : Env} {s : State} {m : MethodId} {below : List Frame} {meth : Method} {c : Code} {D : va_G} {cI cB : ClassId} {ad : Nat → Nat} {b L : Nat} {xs : Nat → Int32} (C0 : lw_At p s m meth c b L xs) (hKN : KN D cI cB s) (hA : adOk ad (fun q : Nat => s.heap.size ≤ q)) {i : Nat} {V : VT} (hR : RelV V) {H : Heap} {locs : List Loc} (hP : wP D cI cB ad V H) (hS : va_S (fun q : Nat => s.heap.size ≤ q) s.heap H locs) {ls : Array Slot} (hl : lv_has ls 4 [(0, .ref b), (1, .ref (ad 0)), (2, .ref (ad 48)), (3, .int (nI i))]) (v1 : vp_in (nI i + 1) L) (v2 : vp_in (nI i + 2) L) (v3 : vp_in (nI i + 3) L) (kk : ∀ (V' : VT) (H' : Heap) (locs' : List Loc), RelV V' → wP D cI cB ad V' H' → va_S (fun q : Nat => s.heap.size ≤ q) s.heap H' locs' → W p l e room_1 s m #[Value.ref b] below meth c H' locs' 54 767 (lw_Z below #[Value.ref b] s) (F0 m 733 ls [])) : W p l e room_1 s m #[Value.ref b] below meth c H locs 54 767 (lw_Z below #[Value.ref b] s) (F0 m 530 ls []) := by
  obtain ⟨hx, hb, hr, hml, hown, hts0, hX, hbl, hlocks, hgv⟩ := C0
  have hts : ∀ w ∈ wsL_law, w.before #[Value.ref b] s = true := fun w h => hts0 w (wsL_law_in w h)
  have hK := hKN.1
  have hbA : ¬ (fun q : Nat => s.heap.size ≤ q) b := Nat.not_le.mpr hbl
  refine lv_aload_n hx hb dL_law_530 rfl (lv_at hl 1 rfl) ?_
  refine lv_aload_n hx hb dL_law_531 rfl (lv_at hl 0 rfl) ?_
  refine lv_iload_n hx hb dL_law_532 rfl (lv_at hl 3 rfl) ?_
  refine lv_iconst (v := 1) hx hb dL_law_533 (by decide) ?_
  refine lv_iadd hx hb dL_law_534 ?_
  refine va_sld hx hb hX hbl hbA hS v1 dL_law_535 ?_
  refine lv_aload_n hx hb dL_law_536 rfl (lv_at hl 0 rfl) ?_
  refine lv_iload_n hx hb dL_law_537 rfl (lv_at hl 3 rfl) ?_
  refine lv_iconst (v := 2) hx hb dL_law_538 (by decide) ?_
  refine lv_iadd hx hb dL_law_539 ?_
  refine va_sld hx hb hX hbl hbA hS v2 dL_law_540 ?_
  refine lv_aload_n hx hb dL_law_541 rfl (lv_at hl 0 rfl) ?_
  refine lv_iload_n hx hb dL_law_542 rfl (lv_at hl 3 rfl) ?_
  refine lv_iconst (v := 3) hx hb dL_law_543 (by decide) ?_
  refine lv_iadd hx hb dL_law_544 ?_
  refine va_sld hx hb hX hbl hbA hS v3 dL_law_545 ?_
  obtain ⟨hp7, hp8, hEq, hR2⟩ := sim_composed V (xs (nI i + 1).toNatClampNeg) (xs (nI i + 2).toNatClampNeg) (xs (nI i + 3).toNatClampNeg) hR
  refine k_VWi (nL := 4) (As := [.int (xs (nI i + 1).toNatClampNeg), .int (xs (nI i + 2).toNatClampNeg), .int (xs (nI i + 3).toNatClampNeg)]) (rest := []) (q := 0) ⟨hx, hb, hml, hown, hts⟩ hKN hP hS (m_X7_composed l D cI cB ad hA FU V (xs (nI i + 1).toNatClampNeg) (xs (nI i + 2).toNatClampNeg) (xs (nI i + 3).toNatClampNeg) hp7) (cwV 3 hts gL_law_X7_composed rfl rfl rfl (by decide +kernel) ⟨(Nat.le_of_ble_eq_true rfl), (Nat.le_of_ble_eq_true rfl)⟩) (c_preV hP hKN (q := 0) (ci := 5) (fs := [.ref (ad 6), .ref (ad 13), .ref (ad 4), .ref (ad 2), .ref (ad 1), .int (V 0 0)]) (by decide) (ce_tb ad cI cB (V 0)) rfl rfl) rfl hl.1 rfl (Nat.le_of_ble_eq_true rfl) dL_law_546 ⟨(Nat.le_of_ble_eq_true rfl), (Nat.le_of_ble_eq_true rfl)⟩ (fun H locs hP hS => ?_)
  refine lv_aload_n hx hb dL_law_549 rfl (lv_at hl 2 rfl) ?_
  refine lv_aload_n hx hb dL_law_550 rfl (lv_at hl 0 rfl) ?_
  refine lv_iload_n hx hb dL_law_551 rfl (lv_at hl 3 rfl) ?_
  refine lv_iconst (v := 1) hx hb dL_law_552 (by decide) ?_
  refine lv_iadd hx hb dL_law_553 ?_
  refine va_sld hx hb hX hbl hbA hS v1 dL_law_554 ?_
  refine lv_aload_n hx hb dL_law_555 rfl (lv_at hl 0 rfl) ?_
  refine lv_iload_n hx hb dL_law_556 rfl (lv_at hl 3 rfl) ?_
  refine lv_iconst (v := 2) hx hb dL_law_557 (by decide) ?_
  refine lv_iadd hx hb dL_law_558 ?_
  refine va_sld hx hb hX hbl hbA hS v2 dL_law_559 ?_
  refine lv_aload_n hx hb dL_law_560 rfl (lv_at hl 0 rfl) ?_
  refine lv_iload_n hx hb dL_law_561 rfl (lv_at hl 3 rfl) ?_
  refine lv_iconst (v := 3) hx hb dL_law_562 (by decide) ?_
  refine lv_iadd hx hb dL_law_563 ?_
  refine va_sld hx hb hX hbl hbA hS v3 dL_law_564 ?_
  refine k_VWi (nL := 4) (As := [.int (xs (nI i + 1).toNatClampNeg), .int (xs (nI i + 2).toNatClampNeg), .int (xs (nI i + 3).toNatClampNeg)]) (rest := [.int (f_X7_composed FU V (xs (nI i + 1).toNatClampNeg) (xs (nI i + 2).toNatClampNeg) (xs (nI i + 3).toNatClampNeg)).1]) (q := 48) ⟨hx, hb, hml, hown, hts⟩ hKN hP hS (m_X8_composed l D cI cB ad hA FU ((f_X7_composed FU V (xs (nI i + 1).toNatClampNeg) (xs (nI i + 2).toNatClampNeg) (xs (nI i + 3).toNatClampNeg)).2) (xs (nI i + 1).toNatClampNeg) (xs (nI i + 2).toNatClampNeg) (xs (nI i + 3).toNatClampNeg) hp8) (cwV 3 hts gL_law_X8_composed rfl rfl rfl (by decide +kernel) ⟨(Nat.le_of_ble_eq_true rfl), (Nat.le_of_ble_eq_true rfl)⟩) (c_preV hP hKN (q := 48) (ci := 6) (fs := [.ref (ad 49), .ref (ad 50), .ref (ad 51), .int ((((f_X7_composed FU V (xs (nI i + 1).toNatClampNeg) (xs (nI i + 2).toNatClampNeg) (xs (nI i + 3).toNatClampNeg)).2) 48) 0), .ref (ad 52), .int ((((f_X7_composed FU V (xs (nI i + 1).toNatClampNeg) (xs (nI i + 2).toNatClampNeg) (xs (nI i + 3).toNatClampNeg)).2) 48) 1), .ref (ad 53), .int ((((f_X7_composed FU V (xs (nI i + 1).toNatClampNeg) (xs (nI i + 2).toNatClampNeg) (xs (nI i + 3).toNatClampNeg)).2) 48) 2), .int ((((f_X7_composed FU V (xs (nI i + 1).toNatClampNeg) (xs (nI i + 2).toNatClampNeg) (xs (nI i + 3).toNatClampNeg)).2) 48) 3), .int ((((f_X7_composed FU V (xs (nI i + 1).toNatClampNeg) (xs (nI i + 2).toNatClampNeg) (xs (nI i + 3).toNatClampNeg)).2) 48) 4), .int ((((f_X7_composed FU V (xs (nI i + 1).toNatClampNeg) (xs (nI i + 2).toNatClampNeg) (xs (nI i + 3).toNatClampNeg)).2) 48) 5), .int ((((f_X7_composed FU V (xs (nI i + 1).toNatClampNeg) (xs (nI i + 2).toNatClampNeg) (xs (nI i + 3).toNatClampNeg)).2) 48) 6), .int ((((f_X7_composed FU V (xs (nI i + 1).toNatClampNeg) (xs (nI i + 2).toNatClampNeg) (xs (nI i + 3).toNatClampNeg)).2) 48) 7)]) (by decide) (ce_md ad cI cB (((f_X7_composed FU V (xs (nI i + 1).toNatClampNeg) (xs (nI i + 2).toNatClampNeg) (xs (nI i + 3).toNatClampNeg)).2) 48)) rfl rfl) rfl hl.1 rfl (Nat.le_of_ble_eq_true rfl) dL_law_565 ⟨(Nat.le_of_ble_eq_true rfl), (Nat.le_of_ble_eq_true rfl)⟩ (fun H locs hP hS => ?_)
  refine lv_icmp_eq (tgt := 733) hx hb dL_law_568 (by decide) (fun _ => ?_) (fun hc => absurd hEq hc)
  exact kk _ H locs hR2 hP hS
set_option maxHeartbeats 8000000 in
set_option maxRecDepth 100000 in
theorem law_goesWith {p : Program} {l : Launch} {e : Env} {s : State} {m : MethodId} {below : List Frame} {meth : Method} {c : Code} {D : va_G} {cI cB : ClassId} {ad : Nat → Nat} {b L : Nat} {xs : Nat → Int32} (C0 : lw_At p s m meth c b L xs) (hKN : KN D cI cB s) (hA : adOk ad (fun q : Nat => s.heap.size ≤ q)) {i : Nat} {V : VT} (hR : RelV V) {H : Heap} {locs : List Loc} (hP : wP D cI cB ad V H) (hS : va_S (fun q : Nat => s.heap.size ≤ q) s.heap H locs) {ls : Array Slot} (hl : lv_has ls 4 [(0, .ref b), (1, .ref (ad 0)), (2, .ref (ad 48)), (3, .int (nI i))]) (v1 : vp_in (nI i + 1) L) (kk : ∀ (V' : VT) (H' : Heap) (locs' : List Loc), RelV V' → wP D cI cB ad V' H' → va_S (fun q : Nat => s.heap.size ≤ q) s.heap H' locs' → W p l e room_1 s m #[Value.ref b] below meth c H' locs' 54 767 (lw_Z below #[Value.ref b] s) (F0 m 733 ls [])) : W p l e room_1 s m #[Value.ref b] below meth c H locs 54 767 (lw_Z below #[Value.ref b] s) (F0 m 573 ls []) := by
  obtain ⟨hx, hb, hr, hml, hown, hts0, hX, hbl, hlocks, hgv⟩ := C0
  have hts : ∀ w ∈ wsL_law, w.before #[Value.ref b] s = true := fun w h => hts0 w (wsL_law_in w h)
  have hK := hKN.1
  have hbA : ¬ (fun q : Nat => s.heap.size ≤ q) b := Nat.not_le.mpr hbl
  refine lv_aload_n hx hb dL_law_573 rfl (lv_at hl 1 rfl) ?_
  refine lv_aload_n hx hb dL_law_574 rfl (lv_at hl 0 rfl) ?_
  refine lv_iload_n hx hb dL_law_575 rfl (lv_at hl 3 rfl) ?_
  refine lv_iconst (v := 1) hx hb dL_law_576 (by decide) ?_
  refine lv_iadd hx hb dL_law_577 ?_
  refine va_sld hx hb hX hbl hbA hS v1 dL_law_578 ?_
  obtain ⟨hp7, hp8, hEq, hR2⟩ := sim_goesWith V (xs (nI i + 1).toNatClampNeg) hR
  refine k_VWi (nL := 4) (As := [.int (xs (nI i + 1).toNatClampNeg)]) (rest := []) (q := 0) ⟨hx, hb, hml, hown, hts⟩ hKN hP hS (m_X7_goesWith l D cI cB ad hA FU V (xs (nI i + 1).toNatClampNeg) hp7) (cwV 1 hts gL_law_X7_goesWith rfl rfl rfl (by decide +kernel) ⟨(Nat.le_of_ble_eq_true rfl), (Nat.le_of_ble_eq_true rfl)⟩) (c_preV hP hKN (q := 0) (ci := 5) (fs := [.ref (ad 6), .ref (ad 13), .ref (ad 4), .ref (ad 2), .ref (ad 1), .int (V 0 0)]) (by decide) (ce_tb ad cI cB (V 0)) rfl rfl) rfl hl.1 rfl (Nat.le_of_ble_eq_true rfl) dL_law_579 ⟨(Nat.le_of_ble_eq_true rfl), (Nat.le_of_ble_eq_true rfl)⟩ (fun H locs hP hS => ?_)
  refine lv_aload_n hx hb dL_law_582 rfl (lv_at hl 2 rfl) ?_
  refine lv_aload_n hx hb dL_law_583 rfl (lv_at hl 0 rfl) ?_
  refine lv_iload_n hx hb dL_law_584 rfl (lv_at hl 3 rfl) ?_
  refine lv_iconst (v := 1) hx hb dL_law_585 (by decide) ?_
  refine lv_iadd hx hb dL_law_586 ?_
  refine va_sld hx hb hX hbl hbA hS v1 dL_law_587 ?_
  refine k_VWi (nL := 4) (As := [.int (xs (nI i + 1).toNatClampNeg)]) (rest := [.int (f_X7_goesWith FU V (xs (nI i + 1).toNatClampNeg)).1]) (q := 48) ⟨hx, hb, hml, hown, hts⟩ hKN hP hS (m_X8_goesWith l D cI cB ad hA FU ((f_X7_goesWith FU V (xs (nI i + 1).toNatClampNeg)).2) (xs (nI i + 1).toNatClampNeg) hp8) (cwV 1 hts gL_law_X8_goesWith rfl rfl rfl (by decide +kernel) ⟨(Nat.le_of_ble_eq_true rfl), (Nat.le_of_ble_eq_true rfl)⟩) (c_preV hP hKN (q := 48) (ci := 6) (fs := [.ref (ad 49), .ref (ad 50), .ref (ad 51), .int ((((f_X7_goesWith FU V (xs (nI i + 1).toNatClampNeg)).2) 48) 0), .ref (ad 52), .int ((((f_X7_goesWith FU V (xs (nI i + 1).toNatClampNeg)).2) 48) 1), .ref (ad 53), .int ((((f_X7_goesWith FU V (xs (nI i + 1).toNatClampNeg)).2) 48) 2), .int ((((f_X7_goesWith FU V (xs (nI i + 1).toNatClampNeg)).2) 48) 3), .int ((((f_X7_goesWith FU V (xs (nI i + 1).toNatClampNeg)).2) 48) 4), .int ((((f_X7_goesWith FU V (xs (nI i + 1).toNatClampNeg)).2) 48) 5), .int ((((f_X7_goesWith FU V (xs (nI i + 1).toNatClampNeg)).2) 48) 6), .int ((((f_X7_goesWith FU V (xs (nI i + 1).toNatClampNeg)).2) 48) 7)]) (by decide) (ce_md ad cI cB (((f_X7_goesWith FU V (xs (nI i + 1).toNatClampNeg)).2) 48)) rfl rfl) rfl hl.1 rfl (Nat.le_of_ble_eq_true rfl) dL_law_588 ⟨(Nat.le_of_ble_eq_true rfl), (Nat.le_of_ble_eq_true rfl)⟩ (fun H locs hP hS => ?_)
  refine lv_icmp_eq (tgt := 733) hx hb dL_law_591 (by decide) (fun _ => ?_) (fun hc => absurd hEq hc)
  exact kk _ H locs hR2 hP hS
set_option maxHeartbeats 8000000 in
set_option maxRecDepth 100000 in
theorem law_quality {p : Program} {l : Launch} {e : Env} {s : State} {m : MethodId} {below : List Frame} {meth : Method} {c : Code} {D : va_G} {cI cB : ClassId} {ad : Nat → Nat} {b L : Nat} {xs : Nat → Int32} (C0 : lw_At p s m meth c b L xs) (hKN : KN D cI cB s) (hA : adOk ad (fun q : Nat => s.heap.size ≤ q)) {i : Nat} {V : VT} (hR : RelV V) {H : Heap} {locs : List Loc} (hP : wP D cI cB ad V H) (hS : va_S (fun q : Nat => s.heap.size ≤ q) s.heap H locs) {ls : Array Slot} (hl : lv_has ls 4 [(0, .ref b), (1, .ref (ad 0)), (2, .ref (ad 48)), (3, .int (nI i))])  (kk : ∀ (V' : VT) (H' : Heap) (locs' : List Loc), RelV V' → wP D cI cB ad V' H' → va_S (fun q : Nat => s.heap.size ≤ q) s.heap H' locs' → W p l e room_1 s m #[Value.ref b] below meth c H' locs' 54 767 (lw_Z below #[Value.ref b] s) (F0 m 733 ls [])) : W p l e room_1 s m #[Value.ref b] below meth c H locs 54 767 (lw_Z below #[Value.ref b] s) (F0 m 596 ls []) := by
  obtain ⟨hx, hb, hr, hml, hown, hts0, hX, hbl, hlocks, hgv⟩ := C0
  have hts : ∀ w ∈ wsL_law, w.before #[Value.ref b] s = true := fun w h => hts0 w (wsL_law_in w h)
  have hK := hKN.1
  have hbA : ¬ (fun q : Nat => s.heap.size ≤ q) b := Nat.not_le.mpr hbl
  refine lv_aload_n hx hb dL_law_596 rfl (lv_at hl 1 rfl) ?_
  obtain ⟨hp7, hp8, hEq, hR2⟩ := sim_quality V  hR
  refine k_VR (nL := 4) (As := []) (rest := []) (q := 0) ⟨hx, hb, hml, hown, hts⟩ hKN hP hS (m_X7_quality l D cI cB ad FU V  hp7) (cwV 0 hts gL_law_X7_quality rfl rfl rfl (by decide +kernel) ⟨(Nat.le_of_ble_eq_true rfl), (Nat.le_of_ble_eq_true rfl)⟩) (c_preV hP hKN (q := 0) (ci := 5) (fs := [.ref (ad 6), .ref (ad 13), .ref (ad 4), .ref (ad 2), .ref (ad 1), .int (V 0 0)]) (by decide) (ce_tb ad cI cB (V 0)) rfl rfl) rfl hl.1 rfl (Nat.le_of_ble_eq_true rfl) dL_law_597 ⟨(Nat.le_of_ble_eq_true rfl), (Nat.le_of_ble_eq_true rfl)⟩ (fun H locs hP hS => ?_)
  refine lv_aload_n hx hb dL_law_600 rfl (lv_at hl 2 rfl) ?_
  refine k_VR (nL := 4) (As := []) (rest := [.int (f_X7_quality FU V)]) (q := 48) ⟨hx, hb, hml, hown, hts⟩ hKN hP hS (m_X8_quality l D cI cB ad FU V  hp8) (cwV 0 hts gL_law_X8_quality rfl rfl rfl (by decide +kernel) ⟨(Nat.le_of_ble_eq_true rfl), (Nat.le_of_ble_eq_true rfl)⟩) (c_preV hP hKN (q := 48) (ci := 6) (fs := [.ref (ad 49), .ref (ad 50), .ref (ad 51), .int ((V 48) 0), .ref (ad 52), .int ((V 48) 1), .ref (ad 53), .int ((V 48) 2), .int ((V 48) 3), .int ((V 48) 4), .int ((V 48) 5), .int ((V 48) 6), .int ((V 48) 7)]) (by decide) (ce_md ad cI cB (V 48)) rfl rfl) rfl hl.1 rfl (Nat.le_of_ble_eq_true rfl) dL_law_601 ⟨(Nat.le_of_ble_eq_true rfl), (Nat.le_of_ble_eq_true rfl)⟩ (fun H locs hP hS => ?_)
  refine lv_icmp_eq (tgt := 733) hx hb dL_law_604 (by decide) (fun _ => ?_) (fun hc => absurd hEq hc)
  exact kk _ H locs hR2 hP hS
set_option maxHeartbeats 8000000 in
set_option maxRecDepth 100000 in
theorem law_bareIn {p : Program} {l : Launch} {e : Env} {s : State} {m : MethodId} {below : List Frame} {meth : Method} {c : Code} {D : va_G} {cI cB : ClassId} {ad : Nat → Nat} {b L : Nat} {xs : Nat → Int32} (C0 : lw_At p s m meth c b L xs) (hKN : KN D cI cB s) (hA : adOk ad (fun q : Nat => s.heap.size ≤ q)) {i : Nat} {V : VT} (hR : RelV V) {H : Heap} {locs : List Loc} (hP : wP D cI cB ad V H) (hS : va_S (fun q : Nat => s.heap.size ≤ q) s.heap H locs) {ls : Array Slot} (hl : lv_has ls 4 [(0, .ref b), (1, .ref (ad 0)), (2, .ref (ad 48)), (3, .int (nI i))])  (kk : ∀ (V' : VT) (H' : Heap) (locs' : List Loc), RelV V' → wP D cI cB ad V' H' → va_S (fun q : Nat => s.heap.size ≤ q) s.heap H' locs' → W p l e room_1 s m #[Value.ref b] below meth c H' locs' 54 767 (lw_Z below #[Value.ref b] s) (F0 m 733 ls [])) : W p l e room_1 s m #[Value.ref b] below meth c H locs 54 767 (lw_Z below #[Value.ref b] s) (F0 m 609 ls []) := by
  obtain ⟨hx, hb, hr, hml, hown, hts0, hX, hbl, hlocks, hgv⟩ := C0
  have hts : ∀ w ∈ wsL_law, w.before #[Value.ref b] s = true := fun w h => hts0 w (wsL_law_in w h)
  have hK := hKN.1
  have hbA : ¬ (fun q : Nat => s.heap.size ≤ q) b := Nat.not_le.mpr hbl
  refine lv_aload_n hx hb dL_law_609 rfl (lv_at hl 1 rfl) ?_
  obtain ⟨hp7, hp8, hEq, hR2⟩ := sim_bareIn V  hR
  refine k_VR (nL := 4) (As := []) (rest := []) (q := 0) ⟨hx, hb, hml, hown, hts⟩ hKN hP hS (m_X7_bareIn l D cI cB ad FU V  hp7) (cwV 0 hts gL_law_X7_bareIn rfl rfl rfl (by decide +kernel) ⟨(Nat.le_of_ble_eq_true rfl), (Nat.le_of_ble_eq_true rfl)⟩) (c_preV hP hKN (q := 0) (ci := 5) (fs := [.ref (ad 6), .ref (ad 13), .ref (ad 4), .ref (ad 2), .ref (ad 1), .int (V 0 0)]) (by decide) (ce_tb ad cI cB (V 0)) rfl rfl) rfl hl.1 rfl (Nat.le_of_ble_eq_true rfl) dL_law_610 ⟨(Nat.le_of_ble_eq_true rfl), (Nat.le_of_ble_eq_true rfl)⟩ (fun H locs hP hS => ?_)
  refine lv_aload_n hx hb dL_law_613 rfl (lv_at hl 2 rfl) ?_
  refine k_VR (nL := 4) (As := []) (rest := [.int (f_X7_bareIn FU V)]) (q := 48) ⟨hx, hb, hml, hown, hts⟩ hKN hP hS (m_X8_bareIn l D cI cB ad FU V  hp8) (cwV 0 hts gL_law_X8_bareIn rfl rfl rfl (by decide +kernel) ⟨(Nat.le_of_ble_eq_true rfl), (Nat.le_of_ble_eq_true rfl)⟩) (c_preV hP hKN (q := 48) (ci := 6) (fs := [.ref (ad 49), .ref (ad 50), .ref (ad 51), .int ((V 48) 0), .ref (ad 52), .int ((V 48) 1), .ref (ad 53), .int ((V 48) 2), .int ((V 48) 3), .int ((V 48) 4), .int ((V 48) 5), .int ((V 48) 6), .int ((V 48) 7)]) (by decide) (ce_md ad cI cB (V 48)) rfl rfl) rfl hl.1 rfl (Nat.le_of_ble_eq_true rfl) dL_law_614 ⟨(Nat.le_of_ble_eq_true rfl), (Nat.le_of_ble_eq_true rfl)⟩ (fun H locs hP hS => ?_)
  refine lv_icmp_eq (tgt := 733) hx hb dL_law_617 (by decide) (fun _ => ?_) (fun hc => absurd hEq hc)
  exact kk _ H locs hR2 hP hS
set_option maxHeartbeats 8000000 in
set_option maxRecDepth 100000 in
theorem law_keep {p : Program} {l : Launch} {e : Env} {s : State} {m : MethodId} {below : List Frame} {meth : Method} {c : Code} {D : va_G} {cI cB : ClassId} {ad : Nat → Nat} {b L : Nat} {xs : Nat → Int32} (C0 : lw_At p s m meth c b L xs) (hKN : KN D cI cB s) (hA : adOk ad (fun q : Nat => s.heap.size ≤ q)) {i : Nat} {V : VT} (hR : RelV V) {H : Heap} {locs : List Loc} (hP : wP D cI cB ad V H) (hS : va_S (fun q : Nat => s.heap.size ≤ q) s.heap H locs) {ls : Array Slot} (hl : lv_has ls 4 [(0, .ref b), (1, .ref (ad 0)), (2, .ref (ad 48)), (3, .int (nI i))])  (kk : ∀ (V' : VT) (H' : Heap) (locs' : List Loc), RelV V' → wP D cI cB ad V' H' → va_S (fun q : Nat => s.heap.size ≤ q) s.heap H' locs' → W p l e room_1 s m #[Value.ref b] below meth c H' locs' 54 767 (lw_Z below #[Value.ref b] s) (F0 m 733 ls [])) : W p l e room_1 s m #[Value.ref b] below meth c H locs 54 767 (lw_Z below #[Value.ref b] s) (F0 m 622 ls []) := by
  obtain ⟨hx, hb, hr, hml, hown, hts0, hX, hbl, hlocks, hgv⟩ := C0
  have hts : ∀ w ∈ wsL_law, w.before #[Value.ref b] s = true := fun w h => hts0 w (wsL_law_in w h)
  have hK := hKN.1
  have hbA : ¬ (fun q : Nat => s.heap.size ≤ q) b := Nat.not_le.mpr hbl
  refine lv_aload_n hx hb dL_law_622 rfl (lv_at hl 1 rfl) ?_
  obtain ⟨hp7, hp8, hEq, hR2⟩ := sim_keep V  hR
  refine k_VWi (nL := 4) (As := []) (rest := []) (q := 0) ⟨hx, hb, hml, hown, hts⟩ hKN hP hS (m_X7_keep l D cI cB ad hA FU V  hp7) (cwV 0 hts gL_law_X7_keep rfl rfl rfl (by decide +kernel) ⟨(Nat.le_of_ble_eq_true rfl), (Nat.le_of_ble_eq_true rfl)⟩) (c_preV hP hKN (q := 0) (ci := 5) (fs := [.ref (ad 6), .ref (ad 13), .ref (ad 4), .ref (ad 2), .ref (ad 1), .int (V 0 0)]) (by decide) (ce_tb ad cI cB (V 0)) rfl rfl) rfl hl.1 rfl (Nat.le_of_ble_eq_true rfl) dL_law_623 ⟨(Nat.le_of_ble_eq_true rfl), (Nat.le_of_ble_eq_true rfl)⟩ (fun H locs hP hS => ?_)
  refine lv_aload_n hx hb dL_law_626 rfl (lv_at hl 2 rfl) ?_
  refine k_VWi (nL := 4) (As := []) (rest := [.int (f_X7_keep FU V).1]) (q := 48) ⟨hx, hb, hml, hown, hts⟩ hKN hP hS (m_X8_keep l D cI cB ad hA FU ((f_X7_keep FU V).2)  hp8) (cwV 0 hts gL_law_X8_keep rfl rfl rfl (by decide +kernel) ⟨(Nat.le_of_ble_eq_true rfl), (Nat.le_of_ble_eq_true rfl)⟩) (c_preV hP hKN (q := 48) (ci := 6) (fs := [.ref (ad 49), .ref (ad 50), .ref (ad 51), .int ((((f_X7_keep FU V).2) 48) 0), .ref (ad 52), .int ((((f_X7_keep FU V).2) 48) 1), .ref (ad 53), .int ((((f_X7_keep FU V).2) 48) 2), .int ((((f_X7_keep FU V).2) 48) 3), .int ((((f_X7_keep FU V).2) 48) 4), .int ((((f_X7_keep FU V).2) 48) 5), .int ((((f_X7_keep FU V).2) 48) 6), .int ((((f_X7_keep FU V).2) 48) 7)]) (by decide) (ce_md ad cI cB (((f_X7_keep FU V).2) 48)) rfl rfl) rfl hl.1 rfl (Nat.le_of_ble_eq_true rfl) dL_law_627 ⟨(Nat.le_of_ble_eq_true rfl), (Nat.le_of_ble_eq_true rfl)⟩ (fun H locs hP hS => ?_)
  refine lv_icmp_eq (tgt := 733) hx hb dL_law_630 (by decide) (fun _ => ?_) (fun hc => absurd hEq hc)
  exact kk _ H locs hR2 hP hS
set_option maxHeartbeats 8000000 in
set_option maxRecDepth 100000 in
theorem law_restore {p : Program} {l : Launch} {e : Env} {s : State} {m : MethodId} {below : List Frame} {meth : Method} {c : Code} {D : va_G} {cI cB : ClassId} {ad : Nat → Nat} {b L : Nat} {xs : Nat → Int32} (C0 : lw_At p s m meth c b L xs) (hKN : KN D cI cB s) (hA : adOk ad (fun q : Nat => s.heap.size ≤ q)) {i : Nat} {V : VT} (hR : RelV V) {H : Heap} {locs : List Loc} (hP : wP D cI cB ad V H) (hS : va_S (fun q : Nat => s.heap.size ≤ q) s.heap H locs) {ls : Array Slot} (hl : lv_has ls 4 [(0, .ref b), (1, .ref (ad 0)), (2, .ref (ad 48)), (3, .int (nI i))])  (kk : ∀ (V' : VT) (H' : Heap) (locs' : List Loc), RelV V' → wP D cI cB ad V' H' → va_S (fun q : Nat => s.heap.size ≤ q) s.heap H' locs' → W p l e room_1 s m #[Value.ref b] below meth c H' locs' 54 767 (lw_Z below #[Value.ref b] s) (F0 m 733 ls [])) : W p l e room_1 s m #[Value.ref b] below meth c H locs 54 767 (lw_Z below #[Value.ref b] s) (F0 m 635 ls []) := by
  obtain ⟨hx, hb, hr, hml, hown, hts0, hX, hbl, hlocks, hgv⟩ := C0
  have hts : ∀ w ∈ wsL_law, w.before #[Value.ref b] s = true := fun w h => hts0 w (wsL_law_in w h)
  have hK := hKN.1
  have hbA : ¬ (fun q : Nat => s.heap.size ≤ q) b := Nat.not_le.mpr hbl
  refine lv_aload_n hx hb dL_law_635 rfl (lv_at hl 1 rfl) ?_
  obtain ⟨hp7, hp8, hEq, hR2⟩ := sim_restore V  hR
  refine k_VWi (nL := 4) (As := []) (rest := []) (q := 0) ⟨hx, hb, hml, hown, hts⟩ hKN hP hS (m_X7_restore l D cI cB ad hA FU V  hp7) (cwV 0 hts gL_law_X7_restore rfl rfl rfl (by decide +kernel) ⟨(Nat.le_of_ble_eq_true rfl), (Nat.le_of_ble_eq_true rfl)⟩) (c_preV hP hKN (q := 0) (ci := 5) (fs := [.ref (ad 6), .ref (ad 13), .ref (ad 4), .ref (ad 2), .ref (ad 1), .int (V 0 0)]) (by decide) (ce_tb ad cI cB (V 0)) rfl rfl) rfl hl.1 rfl (Nat.le_of_ble_eq_true rfl) dL_law_636 ⟨(Nat.le_of_ble_eq_true rfl), (Nat.le_of_ble_eq_true rfl)⟩ (fun H locs hP hS => ?_)
  refine lv_aload_n hx hb dL_law_639 rfl (lv_at hl 2 rfl) ?_
  refine k_VWi (nL := 4) (As := []) (rest := [.int (f_X7_restore FU V).1]) (q := 48) ⟨hx, hb, hml, hown, hts⟩ hKN hP hS (m_X8_restore l D cI cB ad hA FU ((f_X7_restore FU V).2)  hp8) (cwV 0 hts gL_law_X8_restore rfl rfl rfl (by decide +kernel) ⟨(Nat.le_of_ble_eq_true rfl), (Nat.le_of_ble_eq_true rfl)⟩) (c_preV hP hKN (q := 48) (ci := 6) (fs := [.ref (ad 49), .ref (ad 50), .ref (ad 51), .int ((((f_X7_restore FU V).2) 48) 0), .ref (ad 52), .int ((((f_X7_restore FU V).2) 48) 1), .ref (ad 53), .int ((((f_X7_restore FU V).2) 48) 2), .int ((((f_X7_restore FU V).2) 48) 3), .int ((((f_X7_restore FU V).2) 48) 4), .int ((((f_X7_restore FU V).2) 48) 5), .int ((((f_X7_restore FU V).2) 48) 6), .int ((((f_X7_restore FU V).2) 48) 7)]) (by decide) (ce_md ad cI cB (((f_X7_restore FU V).2) 48)) rfl rfl) rfl hl.1 rfl (Nat.le_of_ble_eq_true rfl) dL_law_640 ⟨(Nat.le_of_ble_eq_true rfl), (Nat.le_of_ble_eq_true rfl)⟩ (fun H locs hP hS => ?_)
  refine lv_icmp_eq (tgt := 733) hx hb dL_law_643 (by decide) (fun _ => ?_) (fun hc => absurd hEq hc)
  exact kk _ H locs hR2 hP hS
set_option maxHeartbeats 8000000 in
set_option maxRecDepth 100000 in
theorem law_undo {p : Program} {l : Launch} {e : Env} {s : State} {m : MethodId} {below : List Frame} {meth : Method} {c : Code} {D : va_G} {cI cB : ClassId} {ad : Nat → Nat} {b L : Nat} {xs : Nat → Int32} (C0 : lw_At p s m meth c b L xs) (hKN : KN D cI cB s) (hA : adOk ad (fun q : Nat => s.heap.size ≤ q)) {i : Nat} {V : VT} (hR : RelV V) {H : Heap} {locs : List Loc} (hP : wP D cI cB ad V H) (hS : va_S (fun q : Nat => s.heap.size ≤ q) s.heap H locs) {ls : Array Slot} (hl : lv_has ls 4 [(0, .ref b), (1, .ref (ad 0)), (2, .ref (ad 48)), (3, .int (nI i))])  (kk : ∀ (V' : VT) (H' : Heap) (locs' : List Loc), RelV V' → wP D cI cB ad V' H' → va_S (fun q : Nat => s.heap.size ≤ q) s.heap H' locs' → W p l e room_1 s m #[Value.ref b] below meth c H' locs' 54 767 (lw_Z below #[Value.ref b] s) (F0 m 733 ls [])) : W p l e room_1 s m #[Value.ref b] below meth c H locs 54 767 (lw_Z below #[Value.ref b] s) (F0 m 648 ls []) := by
  obtain ⟨hx, hb, hr, hml, hown, hts0, hX, hbl, hlocks, hgv⟩ := C0
  have hts : ∀ w ∈ wsL_law, w.before #[Value.ref b] s = true := fun w h => hts0 w (wsL_law_in w h)
  have hK := hKN.1
  have hbA : ¬ (fun q : Nat => s.heap.size ≤ q) b := Nat.not_le.mpr hbl
  refine lv_aload_n hx hb dL_law_648 rfl (lv_at hl 1 rfl) ?_
  obtain ⟨hp7, hp8, hEq, hR2⟩ := sim_undo V  hR
  refine k_VWi (nL := 4) (As := []) (rest := []) (q := 0) ⟨hx, hb, hml, hown, hts⟩ hKN hP hS (m_X7_undo l D cI cB ad hA FU V  hp7) (cwV 0 hts gL_law_X7_undo rfl rfl rfl (by decide +kernel) ⟨(Nat.le_of_ble_eq_true rfl), (Nat.le_of_ble_eq_true rfl)⟩) (c_preV hP hKN (q := 0) (ci := 5) (fs := [.ref (ad 6), .ref (ad 13), .ref (ad 4), .ref (ad 2), .ref (ad 1), .int (V 0 0)]) (by decide) (ce_tb ad cI cB (V 0)) rfl rfl) rfl hl.1 rfl (Nat.le_of_ble_eq_true rfl) dL_law_649 ⟨(Nat.le_of_ble_eq_true rfl), (Nat.le_of_ble_eq_true rfl)⟩ (fun H locs hP hS => ?_)
  refine lv_aload_n hx hb dL_law_652 rfl (lv_at hl 2 rfl) ?_
  refine k_VWi (nL := 4) (As := []) (rest := [.int (f_X7_undo FU V).1]) (q := 48) ⟨hx, hb, hml, hown, hts⟩ hKN hP hS (m_X8_undo l D cI cB ad hA FU ((f_X7_undo FU V).2)  hp8) (cwV 0 hts gL_law_X8_undo rfl rfl rfl (by decide +kernel) ⟨(Nat.le_of_ble_eq_true rfl), (Nat.le_of_ble_eq_true rfl)⟩) (c_preV hP hKN (q := 48) (ci := 6) (fs := [.ref (ad 49), .ref (ad 50), .ref (ad 51), .int ((((f_X7_undo FU V).2) 48) 0), .ref (ad 52), .int ((((f_X7_undo FU V).2) 48) 1), .ref (ad 53), .int ((((f_X7_undo FU V).2) 48) 2), .int ((((f_X7_undo FU V).2) 48) 3), .int ((((f_X7_undo FU V).2) 48) 4), .int ((((f_X7_undo FU V).2) 48) 5), .int ((((f_X7_undo FU V).2) 48) 6), .int ((((f_X7_undo FU V).2) 48) 7)]) (by decide) (ce_md ad cI cB (((f_X7_undo FU V).2) 48)) rfl rfl) rfl hl.1 rfl (Nat.le_of_ble_eq_true rfl) dL_law_653 ⟨(Nat.le_of_ble_eq_true rfl), (Nat.le_of_ble_eq_true rfl)⟩ (fun H locs hP hS => ?_)
  refine lv_icmp_eq (tgt := 733) hx hb dL_law_656 (by decide) (fun _ => ?_) (fun hc => absurd hEq hc)
  exact kk _ H locs hR2 hP hS
set_option maxHeartbeats 8000000 in
set_option maxRecDepth 100000 in
theorem law_type {p : Program} {l : Launch} {e : Env} {s : State} {m : MethodId} {below : List Frame} {meth : Method} {c : Code} {D : va_G} {cI cB : ClassId} {ad : Nat → Nat} {b L : Nat} {xs : Nat → Int32} (C0 : lw_At p s m meth c b L xs) (hKN : KN D cI cB s) (hA : adOk ad (fun q : Nat => s.heap.size ≤ q)) {i : Nat} {V : VT} (hR : RelV V) {H : Heap} {locs : List Loc} (hP : wP D cI cB ad V H) (hS : va_S (fun q : Nat => s.heap.size ≤ q) s.heap H locs) {ls : Array Slot} (hl : lv_has ls 4 [(0, .ref b), (1, .ref (ad 0)), (2, .ref (ad 48)), (3, .int (nI i))]) (v1 : vp_in (nI i + 1) L) (kk : ∀ (V' : VT) (H' : Heap) (locs' : List Loc), RelV V' → wP D cI cB ad V' H' → va_S (fun q : Nat => s.heap.size ≤ q) s.heap H' locs' → W p l e room_1 s m #[Value.ref b] below meth c H' locs' 54 767 (lw_Z below #[Value.ref b] s) (F0 m 733 ls [])) : W p l e room_1 s m #[Value.ref b] below meth c H locs 54 767 (lw_Z below #[Value.ref b] s) (F0 m 661 ls []) := by
  obtain ⟨hx, hb, hr, hml, hown, hts0, hX, hbl, hlocks, hgv⟩ := C0
  have hts : ∀ w ∈ wsL_law, w.before #[Value.ref b] s = true := fun w h => hts0 w (wsL_law_in w h)
  have hK := hKN.1
  have hbA : ¬ (fun q : Nat => s.heap.size ≤ q) b := Nat.not_le.mpr hbl
  refine lv_aload_n hx hb dL_law_661 rfl (lv_at hl 1 rfl) ?_
  refine lv_aload_n hx hb dL_law_662 rfl (lv_at hl 0 rfl) ?_
  refine lv_iload_n hx hb dL_law_663 rfl (lv_at hl 3 rfl) ?_
  refine lv_iconst (v := 1) hx hb dL_law_664 (by decide) ?_
  refine lv_iadd hx hb dL_law_665 ?_
  refine va_sld hx hb hX hbl hbA hS v1 dL_law_666 ?_
  obtain ⟨hp7, hp8, hEq, hR2⟩ := sim_type V (xs (nI i + 1).toNatClampNeg) hR
  refine k_VWi (nL := 4) (As := [.int (xs (nI i + 1).toNatClampNeg)]) (rest := []) (q := 0) ⟨hx, hb, hml, hown, hts⟩ hKN hP hS (m_X7_type l D cI cB ad hA V (xs (nI i + 1).toNatClampNeg)) (cwV 1 hts gL_law_X7_type rfl rfl rfl (by decide +kernel) ⟨(Nat.le_of_ble_eq_true rfl), (Nat.le_of_ble_eq_true rfl)⟩) (c_preV hP hKN (q := 0) (ci := 5) (fs := [.ref (ad 6), .ref (ad 13), .ref (ad 4), .ref (ad 2), .ref (ad 1), .int (V 0 0)]) (by decide) (ce_tb ad cI cB (V 0)) rfl rfl) rfl hl.1 rfl (Nat.le_of_ble_eq_true rfl) dL_law_667 ⟨(Nat.le_of_ble_eq_true rfl), (Nat.le_of_ble_eq_true rfl)⟩ (fun H locs hP hS => ?_)
  refine lv_aload_n hx hb dL_law_670 rfl (lv_at hl 2 rfl) ?_
  refine lv_aload_n hx hb dL_law_671 rfl (lv_at hl 0 rfl) ?_
  refine lv_iload_n hx hb dL_law_672 rfl (lv_at hl 3 rfl) ?_
  refine lv_iconst (v := 1) hx hb dL_law_673 (by decide) ?_
  refine lv_iadd hx hb dL_law_674 ?_
  refine va_sld hx hb hX hbl hbA hS v1 dL_law_675 ?_
  refine k_VWi (nL := 4) (As := [.int (xs (nI i + 1).toNatClampNeg)]) (rest := [.int (f_X7_type V (xs (nI i + 1).toNatClampNeg)).1]) (q := 48) ⟨hx, hb, hml, hown, hts⟩ hKN hP hS (m_X8_type l D cI cB ad hA ((f_X7_type V (xs (nI i + 1).toNatClampNeg)).2) (xs (nI i + 1).toNatClampNeg) hp8) (cwV 1 hts gL_law_X8_type rfl rfl rfl (by decide +kernel) ⟨(Nat.le_of_ble_eq_true rfl), (Nat.le_of_ble_eq_true rfl)⟩) (c_preV hP hKN (q := 48) (ci := 6) (fs := [.ref (ad 49), .ref (ad 50), .ref (ad 51), .int ((((f_X7_type V (xs (nI i + 1).toNatClampNeg)).2) 48) 0), .ref (ad 52), .int ((((f_X7_type V (xs (nI i + 1).toNatClampNeg)).2) 48) 1), .ref (ad 53), .int ((((f_X7_type V (xs (nI i + 1).toNatClampNeg)).2) 48) 2), .int ((((f_X7_type V (xs (nI i + 1).toNatClampNeg)).2) 48) 3), .int ((((f_X7_type V (xs (nI i + 1).toNatClampNeg)).2) 48) 4), .int ((((f_X7_type V (xs (nI i + 1).toNatClampNeg)).2) 48) 5), .int ((((f_X7_type V (xs (nI i + 1).toNatClampNeg)).2) 48) 6), .int ((((f_X7_type V (xs (nI i + 1).toNatClampNeg)).2) 48) 7)]) (by decide) (ce_md ad cI cB (((f_X7_type V (xs (nI i + 1).toNatClampNeg)).2) 48)) rfl rfl) rfl hl.1 rfl (Nat.le_of_ble_eq_true rfl) dL_law_676 ⟨(Nat.le_of_ble_eq_true rfl), (Nat.le_of_ble_eq_true rfl)⟩ (fun H locs hP hS => ?_)
  refine lv_icmp_eq (tgt := 733) hx hb dL_law_679 (by decide) (fun _ => ?_) (fun hc => absurd hEq hc)
  exact kk _ H locs hR2 hP hS
set_option maxHeartbeats 8000000 in
set_option maxRecDepth 100000 in
theorem law_clearText {p : Program} {l : Launch} {e : Env} {s : State} {m : MethodId} {below : List Frame} {meth : Method} {c : Code} {D : va_G} {cI cB : ClassId} {ad : Nat → Nat} {b L : Nat} {xs : Nat → Int32} (C0 : lw_At p s m meth c b L xs) (hKN : KN D cI cB s) (hA : adOk ad (fun q : Nat => s.heap.size ≤ q)) {i : Nat} {V : VT} (hR : RelV V) {H : Heap} {locs : List Loc} (hP : wP D cI cB ad V H) (hS : va_S (fun q : Nat => s.heap.size ≤ q) s.heap H locs) {ls : Array Slot} (hl : lv_has ls 4 [(0, .ref b), (1, .ref (ad 0)), (2, .ref (ad 48)), (3, .int (nI i))])  (kk : ∀ (V' : VT) (H' : Heap) (locs' : List Loc), RelV V' → wP D cI cB ad V' H' → va_S (fun q : Nat => s.heap.size ≤ q) s.heap H' locs' → W p l e room_1 s m #[Value.ref b] below meth c H' locs' 54 767 (lw_Z below #[Value.ref b] s) (F0 m 733 ls [])) : W p l e room_1 s m #[Value.ref b] below meth c H locs 54 767 (lw_Z below #[Value.ref b] s) (F0 m 684 ls []) := by
  obtain ⟨hx, hb, hr, hml, hown, hts0, hX, hbl, hlocks, hgv⟩ := C0
  have hts : ∀ w ∈ wsL_law, w.before #[Value.ref b] s = true := fun w h => hts0 w (wsL_law_in w h)
  have hK := hKN.1
  have hbA : ¬ (fun q : Nat => s.heap.size ≤ q) b := Nat.not_le.mpr hbl
  refine lv_aload_n hx hb dL_law_684 rfl (lv_at hl 1 rfl) ?_
  obtain ⟨hp7, hp8, hEq, hR2⟩ := sim_clearText V  hR
  refine k_VWi (nL := 4) (As := []) (rest := []) (q := 0) ⟨hx, hb, hml, hown, hts⟩ hKN hP hS (m_X7_clearText l D cI cB ad hA V ) (cwV 0 hts gL_law_X7_clearText rfl rfl rfl (by decide +kernel) ⟨(Nat.le_of_ble_eq_true rfl), (Nat.le_of_ble_eq_true rfl)⟩) (c_preV hP hKN (q := 0) (ci := 5) (fs := [.ref (ad 6), .ref (ad 13), .ref (ad 4), .ref (ad 2), .ref (ad 1), .int (V 0 0)]) (by decide) (ce_tb ad cI cB (V 0)) rfl rfl) rfl hl.1 rfl (Nat.le_of_ble_eq_true rfl) dL_law_685 ⟨(Nat.le_of_ble_eq_true rfl), (Nat.le_of_ble_eq_true rfl)⟩ (fun H locs hP hS => ?_)
  refine lv_aload_n hx hb dL_law_688 rfl (lv_at hl 2 rfl) ?_
  refine k_VWi (nL := 4) (As := []) (rest := [.int (f_X7_clearText V).1]) (q := 48) ⟨hx, hb, hml, hown, hts⟩ hKN hP hS (m_X8_clearText l D cI cB ad hA ((f_X7_clearText V).2) ) (cwV 0 hts gL_law_X8_clearText rfl rfl rfl (by decide +kernel) ⟨(Nat.le_of_ble_eq_true rfl), (Nat.le_of_ble_eq_true rfl)⟩) (c_preV hP hKN (q := 48) (ci := 6) (fs := [.ref (ad 49), .ref (ad 50), .ref (ad 51), .int ((((f_X7_clearText V).2) 48) 0), .ref (ad 52), .int ((((f_X7_clearText V).2) 48) 1), .ref (ad 53), .int ((((f_X7_clearText V).2) 48) 2), .int ((((f_X7_clearText V).2) 48) 3), .int ((((f_X7_clearText V).2) 48) 4), .int ((((f_X7_clearText V).2) 48) 5), .int ((((f_X7_clearText V).2) 48) 6), .int ((((f_X7_clearText V).2) 48) 7)]) (by decide) (ce_md ad cI cB (((f_X7_clearText V).2) 48)) rfl rfl) rfl hl.1 rfl (Nat.le_of_ble_eq_true rfl) dL_law_689 ⟨(Nat.le_of_ble_eq_true rfl), (Nat.le_of_ble_eq_true rfl)⟩ (fun H locs hP hS => ?_)
  refine lv_icmp_eq (tgt := 733) hx hb dL_law_692 (by decide) (fun _ => ?_) (fun hc => absurd hEq hc)
  exact kk _ H locs hR2 hP hS
set_option maxHeartbeats 8000000 in
set_option maxRecDepth 100000 in
theorem law_fault {p : Program} {l : Launch} {e : Env} {s : State} {m : MethodId} {below : List Frame} {meth : Method} {c : Code} {D : va_G} {cI cB : ClassId} {ad : Nat → Nat} {b L : Nat} {xs : Nat → Int32} (C0 : lw_At p s m meth c b L xs) (hKN : KN D cI cB s) (hA : adOk ad (fun q : Nat => s.heap.size ≤ q)) {i : Nat} {V : VT} (hR : RelV V) {H : Heap} {locs : List Loc} (hP : wP D cI cB ad V H) (hS : va_S (fun q : Nat => s.heap.size ≤ q) s.heap H locs) {ls : Array Slot} (hl : lv_has ls 4 [(0, .ref b), (1, .ref (ad 0)), (2, .ref (ad 48)), (3, .int (nI i))]) (v1 : vp_in (nI i + 1) L) (kk : ∀ (V' : VT) (H' : Heap) (locs' : List Loc), RelV V' → wP D cI cB ad V' H' → va_S (fun q : Nat => s.heap.size ≤ q) s.heap H' locs' → W p l e room_1 s m #[Value.ref b] below meth c H' locs' 54 767 (lw_Z below #[Value.ref b] s) (F0 m 733 ls [])) : W p l e room_1 s m #[Value.ref b] below meth c H locs 54 767 (lw_Z below #[Value.ref b] s) (F0 m 697 ls []) := by
  obtain ⟨hx, hb, hr, hml, hown, hts0, hX, hbl, hlocks, hgv⟩ := C0
  have hts : ∀ w ∈ wsL_law, w.before #[Value.ref b] s = true := fun w h => hts0 w (wsL_law_in w h)
  have hK := hKN.1
  have hbA : ¬ (fun q : Nat => s.heap.size ≤ q) b := Nat.not_le.mpr hbl
  refine lv_aload_n hx hb dL_law_697 rfl (lv_at hl 1 rfl) ?_
  refine lv_aload_n hx hb dL_law_698 rfl (lv_at hl 0 rfl) ?_
  refine lv_iload_n hx hb dL_law_699 rfl (lv_at hl 3 rfl) ?_
  refine lv_iconst (v := 1) hx hb dL_law_700 (by decide) ?_
  refine lv_iadd hx hb dL_law_701 ?_
  refine va_sld hx hb hX hbl hbA hS v1 dL_law_702 ?_
  obtain ⟨hp7, hp8, hEq, hR2⟩ := sim_fault V (xs (nI i + 1).toNatClampNeg) hR
  refine k_VR (nL := 4) (As := [.int (xs (nI i + 1).toNatClampNeg)]) (rest := []) (q := 0) ⟨hx, hb, hml, hown, hts⟩ hKN hP hS (m_X7_fault l D cI cB ad FU V (xs (nI i + 1).toNatClampNeg) hp7) (cwV 1 hts gL_law_X7_fault rfl rfl rfl (by decide +kernel) ⟨(Nat.le_of_ble_eq_true rfl), (Nat.le_of_ble_eq_true rfl)⟩) (c_preV hP hKN (q := 0) (ci := 5) (fs := [.ref (ad 6), .ref (ad 13), .ref (ad 4), .ref (ad 2), .ref (ad 1), .int (V 0 0)]) (by decide) (ce_tb ad cI cB (V 0)) rfl rfl) rfl hl.1 rfl (Nat.le_of_ble_eq_true rfl) dL_law_703 ⟨(Nat.le_of_ble_eq_true rfl), (Nat.le_of_ble_eq_true rfl)⟩ (fun H locs hP hS => ?_)
  refine lv_aload_n hx hb dL_law_706 rfl (lv_at hl 2 rfl) ?_
  refine lv_aload_n hx hb dL_law_707 rfl (lv_at hl 0 rfl) ?_
  refine lv_iload_n hx hb dL_law_708 rfl (lv_at hl 3 rfl) ?_
  refine lv_iconst (v := 1) hx hb dL_law_709 (by decide) ?_
  refine lv_iadd hx hb dL_law_710 ?_
  refine va_sld hx hb hX hbl hbA hS v1 dL_law_711 ?_
  refine k_VWi (nL := 4) (As := [.int (xs (nI i + 1).toNatClampNeg)]) (rest := [.int (f_X7_fault FU V (xs (nI i + 1).toNatClampNeg))]) (q := 48) ⟨hx, hb, hml, hown, hts⟩ hKN hP hS (m_X8_fault l D cI cB ad hA FU V (xs (nI i + 1).toNatClampNeg) hp8) (cwV 1 hts gL_law_X8_fault rfl rfl rfl (by decide +kernel) ⟨(Nat.le_of_ble_eq_true rfl), (Nat.le_of_ble_eq_true rfl)⟩) (c_preV hP hKN (q := 48) (ci := 6) (fs := [.ref (ad 49), .ref (ad 50), .ref (ad 51), .int ((V 48) 0), .ref (ad 52), .int ((V 48) 1), .ref (ad 53), .int ((V 48) 2), .int ((V 48) 3), .int ((V 48) 4), .int ((V 48) 5), .int ((V 48) 6), .int ((V 48) 7)]) (by decide) (ce_md ad cI cB (V 48)) rfl rfl) rfl hl.1 rfl (Nat.le_of_ble_eq_true rfl) dL_law_712 ⟨(Nat.le_of_ble_eq_true rfl), (Nat.le_of_ble_eq_true rfl)⟩ (fun H locs hP hS => ?_)
  refine lv_icmp_eq (tgt := 733) hx hb dL_law_715 (by decide) (fun _ => ?_) (fun hc => absurd hEq hc)
  exact kk _ H locs hR2 hP hS
set_option maxHeartbeats 8000000 in
set_option maxRecDepth 100000 in
theorem law_read {p : Program} {l : Launch} {e : Env} {s : State} {m : MethodId} {below : List Frame} {meth : Method} {c : Code} {D : va_G} {cI cB : ClassId} {ad : Nat → Nat} {b L : Nat} {xs : Nat → Int32} (C0 : lw_At p s m meth c b L xs) (hKN : KN D cI cB s) (hA : adOk ad (fun q : Nat => s.heap.size ≤ q)) {i : Nat} {V : VT} (hR : RelV V) {H : Heap} {locs : List Loc} (hP : wP D cI cB ad V H) (hS : va_S (fun q : Nat => s.heap.size ≤ q) s.heap H locs) {ls : Array Slot} (hl : lv_has ls 4 [(0, .ref b), (1, .ref (ad 0)), (2, .ref (ad 48)), (3, .int (nI i))])  (kk : ∀ (V' : VT) (H' : Heap) (locs' : List Loc), RelV V' → wP D cI cB ad V' H' → va_S (fun q : Nat => s.heap.size ≤ q) s.heap H' locs' → W p l e room_1 s m #[Value.ref b] below meth c H' locs' 54 767 (lw_Z below #[Value.ref b] s) (F0 m 733 ls [])) : W p l e room_1 s m #[Value.ref b] below meth c H locs 54 767 (lw_Z below #[Value.ref b] s) (F0 m 720 ls []) := by
  obtain ⟨hx, hb, hr, hml, hown, hts0, hX, hbl, hlocks, hgv⟩ := C0
  have hts : ∀ w ∈ wsL_law, w.before #[Value.ref b] s = true := fun w h => hts0 w (wsL_law_in w h)
  have hK := hKN.1
  have hbA : ¬ (fun q : Nat => s.heap.size ≤ q) b := Nat.not_le.mpr hbl
  refine lv_aload_n hx hb dL_law_720 rfl (lv_at hl 1 rfl) ?_
  obtain ⟨hp7, hp8, hEq, hR2⟩ := sim_read V  hR
  refine k_VWi (nL := 4) (As := []) (rest := []) (q := 0) ⟨hx, hb, hml, hown, hts⟩ hKN hP hS (m_X7_read l D cI cB ad hA FU V  hp7) (cwV 0 hts gL_law_X7_read rfl rfl rfl (by decide +kernel) ⟨(Nat.le_of_ble_eq_true rfl), (Nat.le_of_ble_eq_true rfl)⟩) (c_preV hP hKN (q := 0) (ci := 5) (fs := [.ref (ad 6), .ref (ad 13), .ref (ad 4), .ref (ad 2), .ref (ad 1), .int (V 0 0)]) (by decide) (ce_tb ad cI cB (V 0)) rfl rfl) rfl hl.1 rfl (Nat.le_of_ble_eq_true rfl) dL_law_721 ⟨(Nat.le_of_ble_eq_true rfl), (Nat.le_of_ble_eq_true rfl)⟩ (fun H locs hP hS => ?_)
  refine lv_aload_n hx hb dL_law_724 rfl (lv_at hl 2 rfl) ?_
  refine k_VWi (nL := 4) (As := []) (rest := [.int (f_X7_read FU V).1]) (q := 48) ⟨hx, hb, hml, hown, hts⟩ hKN hP hS (m_X8_read l D cI cB ad hA FU ((f_X7_read FU V).2)  hp8) (cwV 0 hts gL_law_X8_read rfl rfl rfl (by decide +kernel) ⟨(Nat.le_of_ble_eq_true rfl), (Nat.le_of_ble_eq_true rfl)⟩) (c_preV hP hKN (q := 48) (ci := 6) (fs := [.ref (ad 49), .ref (ad 50), .ref (ad 51), .int ((((f_X7_read FU V).2) 48) 0), .ref (ad 52), .int ((((f_X7_read FU V).2) 48) 1), .ref (ad 53), .int ((((f_X7_read FU V).2) 48) 2), .int ((((f_X7_read FU V).2) 48) 3), .int ((((f_X7_read FU V).2) 48) 4), .int ((((f_X7_read FU V).2) 48) 5), .int ((((f_X7_read FU V).2) 48) 6), .int ((((f_X7_read FU V).2) 48) 7)]) (by decide) (ce_md ad cI cB (((f_X7_read FU V).2) 48)) rfl rfl) rfl hl.1 rfl (Nat.le_of_ble_eq_true rfl) dL_law_725 ⟨(Nat.le_of_ble_eq_true rfl), (Nat.le_of_ble_eq_true rfl)⟩ (fun H locs hP hS => ?_)
  refine lv_icmp_eq (tgt := 733) hx hb dL_law_728 (by decide) (fun _ => ?_) (fun hc => absurd hEq hc)
  exact kk _ H locs hR2 hP hS
