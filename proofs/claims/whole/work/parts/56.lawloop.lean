/-! the law's loop (wip/whole/gen/law2.py) -/
theorem lw_le4 {L i : Nat} (hL : L ≤ 2048) (hi : i ≤ L + 4) (h : ¬ Int32.ofNat L - 4 < nI i) : i + 4 ≤ L := by
  rcases Nat.lt_or_ge L (i + 4) with q | q
  · refine absurd ?_ h
    have h1 : (nI L - nI 4).toInt = (L : Int) - (4 : Nat) := pk_sub_toInt (by omega) (by omega)
    have h2 : (nI i).toInt = (i : Int) := nI_toInt (by omega)
    show nI L - nI 4 < nI i
    rw [Int32.lt_iff_toInt_lt, h1, h2]
    omega
  · exact q
set_option maxHeartbeats 8000000 in
set_option maxRecDepth 100000 in
/-- THE LAW'S LOOP: at its head, with i ints read, both systems agree -/
theorem law_loop {p : Program} {l : Launch} {e : Env} {s : State} {m : MethodId} {below : List Frame} {meth : Method} {c : Code} {D : va_G} {cI cB : ClassId} {ad : Nat → Nat} {b L : Nat} {xs : Nat → Int32} (hL : L ≤ 2048) (C0 : lw_At p s m meth c b L xs) (hKN : KN D cI cB s) (hAd : adOk ad (fun q : Nat => s.heap.size ≤ q)) :
    ∀ (n i : Nat) (V : VT), L + 5 ≤ i + n → i ≤ L + 4 → RelV V → ∀ (H : Heap) (locs : List Loc), wP D cI cB ad V H → va_S (fun q : Nat => s.heap.size ≤ q) s.heap H locs → ∀ (ls : Array Slot), lv_has ls 4 [(0, .ref b), (1, .ref (ad 0)), (2, .ref (ad 48)), (3, .int (nI i))] → W p l e room_1 s m #[Value.ref b] below meth c H locs 54 767 (lw_Z below #[Value.ref b] s) (F0 m 18 ls []) := by
  have hd0 := Drawn.sameBut.refl s.drawn lw_cs
  obtain ⟨hx, hb, hr, hml, hown, hts0, hX, hbl, hlocks, hgv⟩ := id C0
  have hbA : ¬ (fun q : Nat => s.heap.size ≤ q) b := Nat.not_le.mpr hbl
  intro n
  induction n with
  | zero => intro i V h1 h2; exact absurd h1 (by omega)
  | succ n ih =>
    intro i V hin hiL hR H locs hP hS ls hl
    refine lv_iload_n hx hb dL_law_18 rfl (lv_at hl 3 rfl) ?_
    refine lv_aload_n hx hb dL_law_19 rfl (lv_at hl 0 rfl) ?_
    refine va_slen hx hb hX hbl hbA hS dL_law_20 ?_
    refine lv_iconst (v := 4) hx hb dL_law_21 (by decide) ?_
    refine lv_isub hx hb dL_law_22 ?_
    refine lv_icmp_gt (tgt := 739) hx hb dL_law_23 (by decide) (fun c1 => ?_) (fun c1 => ?_)
    · refine lv_iconst (v := 1) hx hb dL_law_739 (by decide) ?_
      refine va_forget (fun q hq => hS.2.2 q hq) ?_
      refine W.widen (k := 600000) (n := 7302250) (Nat.le_of_ble_eq_true rfl) (Nat.le_of_ble_eq_true rfl) ?_
      refine W.base ?_
      exact lw_ret hd0 hx hb hr hlocks dL_law_740
    · have hi4 : i + 4 ≤ L := lw_le4 hL hiL c1
      have v0 : vp_in (nI i) L := vp_in_nI (by omega) (by omega)
      have v1 : vp_in (nI i + 1) L := by rw [show (1 : Int32) = nI 1 from rfl, nI_add]; exact vp_in_nI (by omega) (by omega)
      have v2 : vp_in (nI i + 2) L := by rw [show (2 : Int32) = nI 2 from rfl, nI_add]; exact vp_in_nI (by omega) (by omega)
      have v3 : vp_in (nI i + 3) L := by rw [show (3 : Int32) = nI 3 from rfl, nI_add]; exact vp_in_nI (by omega) (by omega)
      have fin : ∀ (V' : VT) (H' : Heap) (locs' : List Loc), RelV V' → wP D cI cB ad V' H' → va_S (fun q : Nat => s.heap.size ≤ q) s.heap H' locs' → W p l e room_1 s m #[Value.ref b] below meth c H' locs' 54 767 (lw_Z below #[Value.ref b] s) (F0 m 733 ls []) := fun V' H' locs' hR2 hP hS => by
        refine lv_iinc (v := nI (i + 4)) (lv' := [(3, .int (nI (i + 4))), (0, .ref b), (1, .ref (ad 0)), (2, .ref (ad 48))]) hx hb dL_law_733 hl (k := 3) rfl (nI_add i 4) (by decide) rfl (fun ls hl => ?_)
        refine lv_goto (tgt := 18) hx hb dL_law_736 (by decide) ?_
        exact ih (i + 4) V' (by omega) (by omega) hR2 H' locs' hP hS ls (lv_sub hl [1, 2, 3, 0] rfl)
      refine lv_aload_n hx hb dL_law_26 rfl (lv_at hl 0 rfl) ?_
      refine lv_iload_n hx hb dL_law_27 rfl (lv_at hl 3 rfl) ?_
      refine va_sld hx hb hX hbl hbA hS v0 dL_law_28 ?_
      refine lv_bipush (v := 31) hx hb dL_law_29 (by decide) ?_
      refine lv_iand hx hb dL_law_31 ?_
      refine lv_topi (fun k ek => ?_)
      by_cases k0 : k = 0
      · refine lv_tableIn (off := 116) (tgt := 148) hx hb dL_law_32 (by rw [k0]; decide) (by rw [k0]; decide) (by rw [k0]; rfl) (by decide) ?_
        exact law_letter C0 hKN hAd hR hP hS hl v1 v2 fin
      by_cases k1 : k = 1
      · refine lv_tableIn (off := 149) (tgt := 181) hx hb dL_law_32 (by rw [k1]; decide) (by rw [k1]; decide) (by rw [k1]; rfl) (by decide) ?_
        exact law_sign C0 hKN hAd hR hP hS hl v1 v2 fin
      by_cases k2 : k = 2
      · refine lv_tableIn (off := 182) (tgt := 214) hx hb dL_law_32 (by rw [k2]; decide) (by rw [k2]; decide) (by rw [k2]; rfl) (by decide) ?_
        exact law_compose C0 hKN hAd hR hP hS hl v1 fin
      by_cases k3 : k = 3
      · refine lv_tableIn (off := 205) (tgt := 237) hx hb dL_law_32 (by rw [k3]; decide) (by rw [k3]; decide) (by rw [k3]; rfl) (by decide) ?_
        exact law_composeAll C0 hKN hAd hR hP hS hl  fin
      by_cases k4 : k = 4
      · refine lv_tableIn (off := 218) (tgt := 250) hx hb dL_law_32 (by rw [k4]; decide) (by rw [k4]; decide) (by rw [k4]; rfl) (by decide) ?_
        exact law_paint C0 hKN hAd hR hP hS hl v1 fin
      by_cases k5 : k = 5
      · refine lv_tableIn (off := 241) (tgt := 273) hx hb dL_law_32 (by rw [k5]; decide) (by rw [k5]; decide) (by rw [k5]; rfl) (by decide) ?_
        exact law_gust C0 hKN hAd hR hP hS hl v1 fin
      by_cases k6 : k = 6
      · refine lv_tableIn (off := 264) (tgt := 296) hx hb dL_law_32 (by rw [k6]; decide) (by rw [k6]; decide) (by rw [k6]; rfl) (by decide) ?_
        exact law_oil C0 hKN hAd hR hP hS hl v1 fin
      by_cases k7 : k = 7
      · refine lv_tableIn (off := 287) (tgt := 319) hx hb dL_law_32 (by rw [k7]; decide) (by rw [k7]; decide) (by rw [k7]; rfl) (by decide) ?_
        exact law_pass C0 hKN hAd hR hP hS hl v1 fin
      by_cases k8 : k = 8
      · refine lv_tableIn (off := 310) (tgt := 342) hx hb dL_law_32 (by rw [k8]; decide) (by rw [k8]; decide) (by rw [k8]; rfl) (by decide) ?_
        exact law_set C0 hKN hAd hR hP hS hl v1 v2 fin
      by_cases k9 : k = 9
      · refine lv_tableIn (off := 343) (tgt := 375) hx hb dL_law_32 (by rw [k9]; decide) (by rw [k9]; decide) (by rw [k9]; rfl) (by decide) ?_
        exact law_letterOf C0 hKN hAd hR hP hS hl v1 v2 fin
      by_cases k10 : k = 10
      · refine lv_tableIn (off := 376) (tgt := 408) hx hb dL_law_32 (by rw [k10]; decide) (by rw [k10]; decide) (by rw [k10]; rfl) (by decide) ?_
        exact law_placeOf C0 hKN hAd hR hP hS hl v1 v2 fin
      by_cases k11 : k = 11
      · refine lv_tableIn (off := 409) (tgt := 441) hx hb dL_law_32 (by rw [k11]; decide) (by rw [k11]; decide) (by rw [k11]; rfl) (by decide) ?_
        exact law_reads C0 hKN hAd hR hP hS hl v1 v2 fin
      by_cases k12 : k = 12
      · refine lv_tableIn (off := 442) (tgt := 474) hx hb dL_law_32 (by rw [k12]; decide) (by rw [k12]; decide) (by rw [k12]; rfl) (by decide) ?_
        exact law_word C0 hKN hAd hR hP hS hl v1 v2 fin
      by_cases k13 : k = 13
      · refine lv_tableIn (off := 475) (tgt := 507) hx hb dL_law_32 (by rw [k13]; decide) (by rw [k13]; decide) (by rw [k13]; rfl) (by decide) ?_
        exact law_count C0 hKN hAd hR hP hS hl v1 fin
      by_cases k14 : k = 14
      · refine lv_tableIn (off := 498) (tgt := 530) hx hb dL_law_32 (by rw [k14]; decide) (by rw [k14]; decide) (by rw [k14]; rfl) (by decide) ?_
        exact law_composed C0 hKN hAd hR hP hS hl v1 v2 v3 fin
      by_cases k15 : k = 15
      · refine lv_tableIn (off := 541) (tgt := 573) hx hb dL_law_32 (by rw [k15]; decide) (by rw [k15]; decide) (by rw [k15]; rfl) (by decide) ?_
        exact law_goesWith C0 hKN hAd hR hP hS hl v1 fin
      by_cases k16 : k = 16
      · refine lv_tableIn (off := 564) (tgt := 596) hx hb dL_law_32 (by rw [k16]; decide) (by rw [k16]; decide) (by rw [k16]; rfl) (by decide) ?_
        exact law_quality C0 hKN hAd hR hP hS hl  fin
      by_cases k17 : k = 17
      · refine lv_tableIn (off := 577) (tgt := 609) hx hb dL_law_32 (by rw [k17]; decide) (by rw [k17]; decide) (by rw [k17]; rfl) (by decide) ?_
        exact law_bareIn C0 hKN hAd hR hP hS hl  fin
      by_cases k18 : k = 18
      · refine lv_tableIn (off := 590) (tgt := 622) hx hb dL_law_32 (by rw [k18]; decide) (by rw [k18]; decide) (by rw [k18]; rfl) (by decide) ?_
        exact law_keep C0 hKN hAd hR hP hS hl  fin
      by_cases k19 : k = 19
      · refine lv_tableIn (off := 603) (tgt := 635) hx hb dL_law_32 (by rw [k19]; decide) (by rw [k19]; decide) (by rw [k19]; rfl) (by decide) ?_
        exact law_restore C0 hKN hAd hR hP hS hl  fin
      by_cases k20 : k = 20
      · refine lv_tableIn (off := 616) (tgt := 648) hx hb dL_law_32 (by rw [k20]; decide) (by rw [k20]; decide) (by rw [k20]; rfl) (by decide) ?_
        exact law_undo C0 hKN hAd hR hP hS hl  fin
      by_cases k21 : k = 21
      · refine lv_tableIn (off := 629) (tgt := 661) hx hb dL_law_32 (by rw [k21]; decide) (by rw [k21]; decide) (by rw [k21]; rfl) (by decide) ?_
        exact law_type C0 hKN hAd hR hP hS hl v1 fin
      by_cases k22 : k = 22
      · refine lv_tableIn (off := 652) (tgt := 684) hx hb dL_law_32 (by rw [k22]; decide) (by rw [k22]; decide) (by rw [k22]; rfl) (by decide) ?_
        exact law_clearText C0 hKN hAd hR hP hS hl  fin
      by_cases k23 : k = 23
      · refine lv_tableIn (off := 665) (tgt := 697) hx hb dL_law_32 (by rw [k23]; decide) (by rw [k23]; decide) (by rw [k23]; rfl) (by decide) ?_
        exact law_fault C0 hKN hAd hR hP hS hl v1 fin
      by_cases k24 : k = 24
      · refine lv_tableIn (off := 688) (tgt := 720) hx hb dL_law_32 (by rw [k24]; decide) (by rw [k24]; decide) (by rw [k24]; rfl) (by decide) ?_
        exact law_read C0 hKN hAd hR hP hS hl  fin
      refine lv_tableOut (tgt := 733) hx hb dL_law_32 (by have e0 := lv_neT (k := 0) (a := 0) k0 rfl; have e1 := lv_neT (k := 1) (a := 1) k1 rfl; have e2 := lv_neT (k := 2) (a := 2) k2 rfl; have e3 := lv_neT (k := 3) (a := 3) k3 rfl; have e4 := lv_neT (k := 4) (a := 4) k4 rfl; have e5 := lv_neT (k := 5) (a := 5) k5 rfl; have e6 := lv_neT (k := 6) (a := 6) k6 rfl; have e7 := lv_neT (k := 7) (a := 7) k7 rfl; have e8 := lv_neT (k := 8) (a := 8) k8 rfl; have e9 := lv_neT (k := 9) (a := 9) k9 rfl; have e10 := lv_neT (k := 10) (a := 10) k10 rfl; have e11 := lv_neT (k := 11) (a := 11) k11 rfl; have e12 := lv_neT (k := 12) (a := 12) k12 rfl; have e13 := lv_neT (k := 13) (a := 13) k13 rfl; have e14 := lv_neT (k := 14) (a := 14) k14 rfl; have e15 := lv_neT (k := 15) (a := 15) k15 rfl; have e16 := lv_neT (k := 16) (a := 16) k16 rfl; have e17 := lv_neT (k := 17) (a := 17) k17 rfl; have e18 := lv_neT (k := 18) (a := 18) k18 rfl; have e19 := lv_neT (k := 19) (a := 19) k19 rfl; have e20 := lv_neT (k := 20) (a := 20) k20 rfl; have e21 := lv_neT (k := 21) (a := 21) k21 rfl; have e22 := lv_neT (k := 22) (a := 22) k22 rfl; have e23 := lv_neT (k := 23) (a := 23) k23 rfl; have e24 := lv_neT (k := 24) (a := 24) k24 rfl; omega) (by decide) ?_
      exact fin V H locs hR hP hS
