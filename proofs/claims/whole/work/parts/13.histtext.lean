/-! contracts by program (wip/whole/gen): f_ what a method answers or makes of the table, p_ what it needs, m_ the contract -/
def f_X2_moveOldestToEnd_l1 (fu : Nat)  : Nat → VT → Nat → Int32 → VT
  | 0, V1, j1_1, x2_1 => V1
  | w1 + 1, V1, j1_1, x2_1 => (if (nI 4) ≤ x2_1 then (upV V1 5 ((nI 4) - 1).toNatClampNeg (nI j1_1)) else (f_X2_moveOldestToEnd_l1 fu  w1 (upV V1 5 (x2_1 - 1).toNatClampNeg (nI ((V1 5 x2_1.toNatClampNeg).toNatClampNeg))) j1_1 (x2_1 + 1)))
def p_X2_moveOldestToEnd_l1 (fu : Nat)  : Nat → VT → Nat → Int32 → Prop
  | 0, _, _, _ => False
  | w1 + 1, V1, j1_1, x2_1 => (((nI 4) ≤ x2_1 → (vp_in ((nI 4) - 1) 4)) ∧ (¬ ((nI 4) ≤ x2_1) → ((vp_in x2_1 4) ∧ (((V1 5 x2_1.toNatClampNeg).toNatClampNeg < 6) ∧ ((vp_in (x2_1 - 1) 4) ∧ (p_X2_moveOldestToEnd_l1 fu  w1 (upV V1 5 (x2_1 - 1).toNatClampNeg (nI ((V1 5 x2_1.toNatClampNeg).toNatClampNeg))) j1_1 (x2_1 + 1)))))))
def f_X2_moveOldestToEnd (fu : Nat) (V : VT)  : VT := (if (nI 4) = 0 then V else (f_X2_moveOldestToEnd_l1 fu  fu V ((V 5 (0 : Int32).toNatClampNeg).toNatClampNeg) 1))
def p_X2_moveOldestToEnd (fu : Nat) (V : VT)  : Prop := (((nI 4) = 0 → True) ∧ (¬ ((nI 4) = 0) → (((V 5 (0 : Int32).toNatClampNeg).toNatClampNeg < 6) ∧ (p_X2_moveOldestToEnd_l1 fu  fu V ((V 5 (0 : Int32).toNatClampNeg).toNatClampNeg) 1))))
set_option maxHeartbeats 4000000 in
set_option maxRecDepth 100000 in
theorem m_X2_moveOldestToEnd (l : Launch) (D : va_G) (cI cB : ClassId) (ad : Nat → Nat) {A : Nat → Prop} (hA : adOk ad A) (fu : Nat) (V : VT)   (hp : p_X2_moveOldestToEnd fu V ) : Met l yX2_moveOldestToEnd wsX2_moveOldestToEnd ({ frames := 0, cells := 0, slots := 0, locals := 0 }) (cP D cI cB ad V [.ref (ad 4)]) (cWv D cI cB ad A (f_X2_moveOldestToEnd fu V)) 0 0 A := by
  refine Met.ofW (cc := cX2_moveOldestToEnd) (maxL := 3) (ret := none) (by decide +kernel) rfl ?_
  intro p e s m args below meth c s₁ B hml hv
  obtain ⟨rfl, hP, hKN⟩ := hv
  have hK := hKN.1
  have hx := B.exec
  have hb := B.bytes
  have hr := B.returns
  have hts := atoms_spec (ws := wsX2_moveOldestToEnd) B.pre
  have hown : s.vm.findClass RX2 = some m.cls := findClass_of_methodNamed B.named
  have hlocks := B.notSynchronized
  have hS : va_S A s.heap s.heap [] := va_S.rf
  have hl := lv_entry ([.ref (ad 4)]) (n := 3) (Nat.le_of_ble_eq_true rfl)
  rw [lg_entry_eq]
  generalize (lg_sl ([.ref (ad 4)]) ++ List.replicate (3 - (lg_sl ([.ref (ad 4)])).length) Slot.unset).toArray = ls at hl ⊢
  have hl : lv_has ls 3 [(0, .ref (ad 4))] := hl
  have hE : f_X2_moveOldestToEnd fu V = (if (nI 4) = 0 then V else (f_X2_moveOldestToEnd_l1 fu  fu V ((V 5 (0 : Int32).toNatClampNeg).toNatClampNeg) 1)) := rfl
  refine lv_aload_n hx hb dX2_moveOldestToEnd_0 rfl (lv_at hl 0 rfl) ?_
  refine x_get (ci := 2) (fs := [.ref (ad 5), .int ((V 4) 0)]) (q := 4) (v := .ref (ad 5)) (N := 2) hx hb hts (fun _ h => List.mem_cons_of_mem _ (List.mem_append_right _ h)) hown hK hP (by decide) (ce_hs ad cI cB (V 4)) rfl 0 (by decide) (hts (.fieldLink RX2 11 "TurnedBoards$History" "states" "[LTurnedBoards$Board;") (List.mem_of_getElem? (i := 1) rfl)) rfl rfl dX2_moveOldestToEnd_1 ?_
  refine x_alen5 hx hb hK hP dX2_moveOldestToEnd_4 ?_
  refine lv_if_ne (tgt := 9) hx hb dX2_moveOldestToEnd_5 (by decide) (fun c1 => ?_) (fun c1 => ?_)
  · have hE := hE.trans (if_neg c1)
    have hp := pc_bn hp c1
    refine lv_aload_n hx hb dX2_moveOldestToEnd_9 rfl (lv_at hl 0 rfl) ?_
    refine x_get (ci := 2) (fs := [.ref (ad 5), .int ((V 4) 0)]) (q := 4) (v := .ref (ad 5)) (N := 2) hx hb hts (fun _ h => List.mem_cons_of_mem _ (List.mem_append_right _ h)) hown hK hP (by decide) (ce_hs ad cI cB (V 4)) rfl 0 (by decide) (hts (.fieldLink RX2 11 "TurnedBoards$History" "states" "[LTurnedBoards$Board;") (List.mem_of_getElem? (i := 1) rfl)) rfl rfl dX2_moveOldestToEnd_10 ?_
    refine lv_iconst (v := 0) hx hb dX2_moveOldestToEnd_13 (by decide) ?_
    obtain ⟨hn1, hp⟩ := hp
    refine x_aald hx hb hK hP (vp_lit (i := 0) (n := 4) (by decide) (by decide)) dX2_moveOldestToEnd_14 ?_
    refine lv_astore_n (lv' := [(1, .ref (ad (6 + 7 * ((V 5 (0 : Int32).toNatClampNeg).toNatClampNeg)))), (0, .ref (ad 4))]) hx hb dX2_moveOldestToEnd_15 rfl hl (by decide) rfl (fun ls hl => ?_)
    refine lv_iconst (v := 1) hx hb dX2_moveOldestToEnd_16 (by decide) ?_
    refine lv_istore_n (lv' := [(2, .int 1), (1, .ref (ad (6 + 7 * ((V 5 (0 : Int32).toNatClampNeg).toNatClampNeg)))), (0, .ref (ad 4))]) hx hb dX2_moveOldestToEnd_17 rfl hl (by decide) rfl (fun ls hl => ?_)
    have L1 : ∀ (w1 : Nat) (V1 : VT) (j1_1 : Nat) (x2_1 : Int32), j1_1 < 6 → f_X2_moveOldestToEnd fu V = f_X2_moveOldestToEnd_l1 fu  w1 V1 j1_1 x2_1 → p_X2_moveOldestToEnd_l1 fu  w1 V1 j1_1 x2_1 → ∀ (H : Heap) (locs : List Loc), wP D cI cB ad V1 H → va_S A s.heap H locs → ∀ (ls : Array Slot), lv_has ls 3 [(0, .ref (ad 4)), (1, .ref (ad (6 + 7 * j1_1))), (2, .int x2_1)] → W p l e (headSpec wsX2_moveOldestToEnd ({ frames := 0, cells := 0, slots := 0, locals := 0 })).room s m ([.ref (ad 4)] : List Value).toArray below meth c H locs 0 0 (MQ below (cWv D cI cB ad A (f_X2_moveOldestToEnd fu V)) ([.ref (ad 4)] : List Value).toArray s 0 0 A) (F0 m 18 ls []) := by
      intro w1
      induction w1 with
      | zero => intro V1 j1_1 x2_1 hj1_1 hE hp; exact hp.elim
      | succ w1 ih1 =>
        intro V1 j1_1 x2_1 hj1_1 hE hp H locs hP hS ls hl
        rw [f_X2_moveOldestToEnd_l1] at hE
        rw [p_X2_moveOldestToEnd_l1] at hp
        refine lv_iload_n hx hb dX2_moveOldestToEnd_18 rfl (lv_at hl 2 rfl) ?_
        refine lv_aload_n hx hb dX2_moveOldestToEnd_19 rfl (lv_at hl 0 rfl) ?_
        refine x_get (ci := 2) (fs := [.ref (ad 5), .int ((V1 4) 0)]) (q := 4) (v := .ref (ad 5)) (N := 2) hx hb hts (fun _ h => List.mem_cons_of_mem _ (List.mem_append_right _ h)) hown hK hP (by decide) (ce_hs ad cI cB (V1 4)) rfl 0 (by decide) (hts (.fieldLink RX2 11 "TurnedBoards$History" "states" "[LTurnedBoards$Board;") (List.mem_of_getElem? (i := 1) rfl)) rfl rfl dX2_moveOldestToEnd_20 ?_
        refine x_alen5 hx hb hK hP dX2_moveOldestToEnd_23 ?_
        refine lv_icmp_ge (tgt := 47) hx hb dX2_moveOldestToEnd_24 (by decide) (fun c2 => ?_) (fun c2 => ?_)
        · have hE := hE.trans (if_pos c2)
          have hp := pc_br hp c2
          refine lv_aload_n hx hb dX2_moveOldestToEnd_47 rfl (lv_at hl 0 rfl) ?_
          refine x_get (ci := 2) (fs := [.ref (ad 5), .int ((V1 4) 0)]) (q := 4) (v := .ref (ad 5)) (N := 2) hx hb hts (fun _ h => List.mem_cons_of_mem _ (List.mem_append_right _ h)) hown hK hP (by decide) (ce_hs ad cI cB (V1 4)) rfl 0 (by decide) (hts (.fieldLink RX2 11 "TurnedBoards$History" "states" "[LTurnedBoards$Board;") (List.mem_of_getElem? (i := 1) rfl)) rfl rfl dX2_moveOldestToEnd_48 ?_
          refine lv_aload_n hx hb dX2_moveOldestToEnd_51 rfl (lv_at hl 0 rfl) ?_
          refine x_get (ci := 2) (fs := [.ref (ad 5), .int ((V1 4) 0)]) (q := 4) (v := .ref (ad 5)) (N := 2) hx hb hts (fun _ h => List.mem_cons_of_mem _ (List.mem_append_right _ h)) hown hK hP (by decide) (ce_hs ad cI cB (V1 4)) rfl 0 (by decide) (hts (.fieldLink RX2 11 "TurnedBoards$History" "states" "[LTurnedBoards$Board;") (List.mem_of_getElem? (i := 1) rfl)) rfl rfl dX2_moveOldestToEnd_52 ?_
          refine x_alen5 hx hb hK hP dX2_moveOldestToEnd_55 ?_
          refine lv_iconst (v := 1) hx hb dX2_moveOldestToEnd_56 (by decide) ?_
          refine lv_isub hx hb dX2_moveOldestToEnd_57 ?_
          refine lv_aload_n hx hb dX2_moveOldestToEnd_58 rfl (lv_at hl 1 rfl) ?_
          have hn2 := hp
          refine x_aast (j := j1_1) hx hb hK hP hA hS hj1_1 hn2 dX2_moveOldestToEnd_59 (fun H locs hP hS => ?_)
          exact W.vret hx hb hr (fun t ht hW => ⟨⟨(upV V1 5 ((nI 4) - 1).toNatClampNeg (nI j1_1)), rfl, hE.symm, by dsimp only; rw [ht]; exact hP⟩, hS.F ht⟩) hS.2.2 dX2_moveOldestToEnd_60
        · have hE := hE.trans (if_neg c2)
          have hp := pc_bn hp c2
          refine lv_aload_n hx hb dX2_moveOldestToEnd_27 rfl (lv_at hl 0 rfl) ?_
          refine x_get (ci := 2) (fs := [.ref (ad 5), .int ((V1 4) 0)]) (q := 4) (v := .ref (ad 5)) (N := 2) hx hb hts (fun _ h => List.mem_cons_of_mem _ (List.mem_append_right _ h)) hown hK hP (by decide) (ce_hs ad cI cB (V1 4)) rfl 0 (by decide) (hts (.fieldLink RX2 11 "TurnedBoards$History" "states" "[LTurnedBoards$Board;") (List.mem_of_getElem? (i := 1) rfl)) rfl rfl dX2_moveOldestToEnd_28 ?_
          refine lv_iload_n hx hb dX2_moveOldestToEnd_31 rfl (lv_at hl 2 rfl) ?_
          refine lv_iconst (v := 1) hx hb dX2_moveOldestToEnd_32 (by decide) ?_
          refine lv_isub hx hb dX2_moveOldestToEnd_33 ?_
          refine lv_aload_n hx hb dX2_moveOldestToEnd_34 rfl (lv_at hl 0 rfl) ?_
          refine x_get (ci := 2) (fs := [.ref (ad 5), .int ((V1 4) 0)]) (q := 4) (v := .ref (ad 5)) (N := 2) hx hb hts (fun _ h => List.mem_cons_of_mem _ (List.mem_append_right _ h)) hown hK hP (by decide) (ce_hs ad cI cB (V1 4)) rfl 0 (by decide) (hts (.fieldLink RX2 11 "TurnedBoards$History" "states" "[LTurnedBoards$Board;") (List.mem_of_getElem? (i := 1) rfl)) rfl rfl dX2_moveOldestToEnd_35 ?_
          refine lv_iload_n hx hb dX2_moveOldestToEnd_38 rfl (lv_at hl 2 rfl) ?_
          obtain ⟨hn3, hp⟩ := hp
          obtain ⟨hn4, hp⟩ := hp
          refine x_aald hx hb hK hP hn3 dX2_moveOldestToEnd_39 ?_
          obtain ⟨hn5, hp⟩ := hp
          refine x_aast (j := (V1 5 x2_1.toNatClampNeg).toNatClampNeg) hx hb hK hP hA hS hn4 hn5 dX2_moveOldestToEnd_40 (fun H locs hP hS => ?_)
          refine lv_iinc (v := (x2_1 + 1)) (lv' := [(2, .int (x2_1 + 1)), (0, .ref (ad 4)), (1, .ref (ad (6 + 7 * j1_1)))]) hx hb dX2_moveOldestToEnd_41 hl (k := 2) rfl (by rfl) (by decide) rfl (fun ls hl => ?_)
          refine lv_goto (tgt := 18) hx hb dX2_moveOldestToEnd_44 (by decide) ?_
          exact ih1 (upV V1 5 (x2_1 - 1).toNatClampNeg (nI ((V1 5 x2_1.toNatClampNeg).toNatClampNeg))) j1_1 (x2_1 + 1) hj1_1 hE hp H locs hP hS ls (lv_sub hl [1, 2, 0] rfl)
    exact L1 fu V ((V 5 (0 : Int32).toNatClampNeg).toNatClampNeg) 1 hn1 hE hp _ _ hP hS _ (lv_sub hl [2, 1, 0] rfl)
  · have hE := hE.trans (if_pos c1)
    exact W.vret hx hb hr (fun t ht hW => ⟨⟨V, rfl, hE.symm, by dsimp only; rw [ht]; exact hP⟩, hS.F ht⟩) hS.2.2 dX2_moveOldestToEnd_8
def v_X2_push_1 (fu : Nat) (V : VT) (j2 : Nat) : VT := (upV (f_X0_copyFrom fu V ((V 5 (V 4 0).toNatClampNeg).toNatClampNeg) j2) 4 0 (((f_X0_copyFrom fu V ((V 5 (V 4 0).toNatClampNeg).toNatClampNeg) j2) 4 0) + 1))
def v_X2_push_2 (fu : Nat) (V : VT) (j2 : Nat) : VT := (f_X0_copyFrom fu (upV (f_X2_moveOldestToEnd fu V) 4 0 ((nI 4) - 1)) (((upV (f_X2_moveOldestToEnd fu V) 4 0 ((nI 4) - 1)) 5 ((upV (f_X2_moveOldestToEnd fu V) 4 0 ((nI 4) - 1)) 4 0).toNatClampNeg).toNatClampNeg) j2)
def f_X2_push (fu : Nat) (V : VT) (j2 : Nat) : VT := (if (V 4 0) < (nI 4) then (if (V 4 0) < 0 then V else (v_X2_push_1 fu V j2)) else (if ((upV (f_X2_moveOldestToEnd fu V) 4 0 ((nI 4) - 1)) 4 0) < 0 then (upV (f_X2_moveOldestToEnd fu V) 4 0 ((nI 4) - 1)) else (if (nI 4) ≤ ((upV (f_X2_moveOldestToEnd fu V) 4 0 ((nI 4) - 1)) 4 0) then (upV (f_X2_moveOldestToEnd fu V) 4 0 ((nI 4) - 1)) else (upV (v_X2_push_2 fu V j2) 4 0 (((v_X2_push_2 fu V j2) 4 0) + 1)))))
def p_X2_push (fu : Nat) (V : VT) (j2 : Nat) : Prop := (((V 4 0) < (nI 4) → (((V 4 0) < 0 → True) ∧ (¬ ((V 4 0) < 0) → (((V 5 (V 4 0).toNatClampNeg).toNatClampNeg < 6) ∧ (p_X0_copyFrom fu V ((V 5 (V 4 0).toNatClampNeg).toNatClampNeg) j2))))) ∧ (¬ ((V 4 0) < (nI 4)) → ((p_X2_moveOldestToEnd fu V ) ∧ ((((upV (f_X2_moveOldestToEnd fu V) 4 0 ((nI 4) - 1)) 4 0) < 0 → True) ∧ (¬ (((upV (f_X2_moveOldestToEnd fu V) 4 0 ((nI 4) - 1)) 4 0) < 0) → (((nI 4) ≤ ((upV (f_X2_moveOldestToEnd fu V) 4 0 ((nI 4) - 1)) 4 0) → True) ∧ (¬ ((nI 4) ≤ ((upV (f_X2_moveOldestToEnd fu V) 4 0 ((nI 4) - 1)) 4 0)) → ((((upV (f_X2_moveOldestToEnd fu V) 4 0 ((nI 4) - 1)) 5 ((upV (f_X2_moveOldestToEnd fu V) 4 0 ((nI 4) - 1)) 4 0).toNatClampNeg).toNatClampNeg < 6) ∧ (p_X0_copyFrom fu (upV (f_X2_moveOldestToEnd fu V) 4 0 ((nI 4) - 1)) (((upV (f_X2_moveOldestToEnd fu V) 4 0 ((nI 4) - 1)) 5 ((upV (f_X2_moveOldestToEnd fu V) 4 0 ((nI 4) - 1)) 4 0).toNatClampNeg).toNatClampNeg) j2)))))))))
set_option maxHeartbeats 4000000 in
set_option maxRecDepth 100000 in
theorem m_X2_push (l : Launch) (D : va_G) (cI cB : ClassId) (ad : Nat → Nat) {A : Nat → Prop} (hA : adOk ad A) (fu : Nat) (V : VT) (j2 : Nat) (hj2 : j2 < 6) (hp : p_X2_push fu V j2) : Met l yX2_push wsX2_push ({ frames := 3, cells := 0, slots := 0, locals := 64 }) (cP D cI cB ad V [.ref (ad 4), .ref (ad (6 + 7 * j2))]) (cWv D cI cB ad A (f_X2_push fu V j2)) 0 0 A := by
  refine Met.ofW (cc := cX2_push) (maxL := 3) (ret := none) (by decide +kernel) rfl ?_
  intro p e s m args below meth c s₁ B hml hv
  obtain ⟨rfl, hP, hKN⟩ := hv
  have hK := hKN.1
  have hx := B.exec
  have hb := B.bytes
  have hr := B.returns
  have hts := atoms_spec (ws := wsX2_push) B.pre
  have hown : s.vm.findClass RX2 = some m.cls := findClass_of_methodNamed B.named
  have hlocks := B.notSynchronized
  have hS : va_S A s.heap s.heap [] := va_S.rf
  have hl := lv_entry ([.ref (ad 4), .ref (ad (6 + 7 * j2))]) (n := 3) (Nat.le_of_ble_eq_true rfl)
  rw [lg_entry_eq]
  generalize (lg_sl ([.ref (ad 4), .ref (ad (6 + 7 * j2))]) ++ List.replicate (3 - (lg_sl ([.ref (ad 4), .ref (ad (6 + 7 * j2))])).length) Slot.unset).toArray = ls at hl ⊢
  have hl : lv_has ls 3 [(0, .ref (ad 4)), (1, .ref (ad (6 + 7 * j2)))] := hl
  have hE : f_X2_push fu V j2 = (if (V 4 0) < (nI 4) then (if (V 4 0) < 0 then V else (v_X2_push_1 fu V j2)) else (if ((upV (f_X2_moveOldestToEnd fu V) 4 0 ((nI 4) - 1)) 4 0) < 0 then (upV (f_X2_moveOldestToEnd fu V) 4 0 ((nI 4) - 1)) else (if (nI 4) ≤ ((upV (f_X2_moveOldestToEnd fu V) 4 0 ((nI 4) - 1)) 4 0) then (upV (f_X2_moveOldestToEnd fu V) 4 0 ((nI 4) - 1)) else (upV (v_X2_push_2 fu V j2) 4 0 (((v_X2_push_2 fu V j2) 4 0) + 1))))) := rfl
  refine lv_aload_n hx hb dX2_push_0 rfl (lv_at hl 0 rfl) ?_
  refine x_get (ci := 2) (fs := [.ref (ad 5), .int ((V 4) 0)]) (q := 4) (v := .int (V 4 0)) (N := 2) hx hb hts (fun _ h => List.mem_cons_of_mem _ (List.mem_append_left _ (List.mem_append_left _ (List.mem_append_right _ h)))) hown hK hP (by decide) (ce_hs ad cI cB (V 4)) rfl 1 (by decide) (hts (.fieldLink RX2 17 "TurnedBoards$History" "size" "I") (List.mem_of_getElem? (i := 1) rfl)) rfl rfl dX2_push_1 ?_
  refine lv_aload_n hx hb dX2_push_4 rfl (lv_at hl 0 rfl) ?_
  refine x_get (ci := 2) (fs := [.ref (ad 5), .int ((V 4) 0)]) (q := 4) (v := .ref (ad 5)) (N := 2) hx hb hts (fun _ h => List.mem_cons_of_mem _ (List.mem_append_left _ (List.mem_append_left _ (List.mem_append_right _ h)))) hown hK hP (by decide) (ce_hs ad cI cB (V 4)) rfl 0 (by decide) (hts (.fieldLink RX2 11 "TurnedBoards$History" "states" "[LTurnedBoards$Board;") (List.mem_of_getElem? (i := 2) rfl)) rfl rfl dX2_push_5 ?_
  refine x_alen5 hx hb hK hP dX2_push_8 ?_
  refine lv_icmp_lt (tgt := 27) hx hb dX2_push_9 (by decide) (fun c1 => ?_) (fun c1 => ?_)
  · have hE := hE.trans (if_pos c1)
    have hp := pc_br hp c1
    refine lv_aload_n hx hb dX2_push_27 rfl (lv_at hl 0 rfl) ?_
    refine x_get (ci := 2) (fs := [.ref (ad 5), .int ((V 4) 0)]) (q := 4) (v := .int (V 4 0)) (N := 2) hx hb hts (fun _ h => List.mem_cons_of_mem _ (List.mem_append_left _ (List.mem_append_left _ (List.mem_append_right _ h)))) hown hK hP (by decide) (ce_hs ad cI cB (V 4)) rfl 1 (by decide) (hts (.fieldLink RX2 17 "TurnedBoards$History" "size" "I") (List.mem_of_getElem? (i := 1) rfl)) rfl rfl dX2_push_28 ?_
    refine lv_if_lt (tgt := 58) hx hb dX2_push_31 (by decide) (fun c2 => ?_) (fun c2 => ?_)
    · have hE := hE.trans (if_pos c2)
      refine lv_null hx hb dX2_push_58 ?_
      refine lv_astore_nN (lv' := [(2, .null), (0, .ref (ad 4)), (1, .ref (ad (6 + 7 * j2)))]) hx hb dX2_push_59 rfl hl (by decide) rfl (fun ls hl => ?_)
      refine lv_aload_nN hx hb dX2_push_60 rfl (lv_at hl 0 rfl) ?_
      refine lv_ifnullN (tgt := 79) hx hb dX2_push_61 (by decide) ?_
      exact W.vret hx hb hr (fun t ht hW => ⟨⟨V, rfl, hE.symm, by dsimp only; rw [ht]; exact hP⟩, hS.F ht⟩) hS.2.2 dX2_push_79
    · have hE := hE.trans (if_neg c2)
      have hp := pc_bn hp c2
      refine lv_aload_n hx hb dX2_push_34 rfl (lv_at hl 0 rfl) ?_
      refine x_get (ci := 2) (fs := [.ref (ad 5), .int ((V 4) 0)]) (q := 4) (v := .int (V 4 0)) (N := 2) hx hb hts (fun _ h => List.mem_cons_of_mem _ (List.mem_append_left _ (List.mem_append_left _ (List.mem_append_right _ h)))) hown hK hP (by decide) (ce_hs ad cI cB (V 4)) rfl 1 (by decide) (hts (.fieldLink RX2 17 "TurnedBoards$History" "size" "I") (List.mem_of_getElem? (i := 1) rfl)) rfl rfl dX2_push_35 ?_
      refine lv_aload_n hx hb dX2_push_38 rfl (lv_at hl 0 rfl) ?_
      refine x_get (ci := 2) (fs := [.ref (ad 5), .int ((V 4) 0)]) (q := 4) (v := .ref (ad 5)) (N := 2) hx hb hts (fun _ h => List.mem_cons_of_mem _ (List.mem_append_left _ (List.mem_append_left _ (List.mem_append_right _ h)))) hown hK hP (by decide) (ce_hs ad cI cB (V 4)) rfl 0 (by decide) (hts (.fieldLink RX2 11 "TurnedBoards$History" "states" "[LTurnedBoards$Board;") (List.mem_of_getElem? (i := 2) rfl)) rfl rfl dX2_push_39 ?_
      refine x_alen5 hx hb hK hP dX2_push_42 ?_
      refine lv_icmp_ge (tgt := 58) hx hb dX2_push_43 (by decide) (fun hc => absurd hc (i32_nle c1)) (fun _ => ?_)
      refine lv_aload_n hx hb dX2_push_46 rfl (lv_at hl 0 rfl) ?_
      refine x_get (ci := 2) (fs := [.ref (ad 5), .int ((V 4) 0)]) (q := 4) (v := .ref (ad 5)) (N := 2) hx hb hts (fun _ h => List.mem_cons_of_mem _ (List.mem_append_left _ (List.mem_append_left _ (List.mem_append_right _ h)))) hown hK hP (by decide) (ce_hs ad cI cB (V 4)) rfl 0 (by decide) (hts (.fieldLink RX2 11 "TurnedBoards$History" "states" "[LTurnedBoards$Board;") (List.mem_of_getElem? (i := 2) rfl)) rfl rfl dX2_push_47 ?_
      refine lv_aload_n hx hb dX2_push_50 rfl (lv_at hl 0 rfl) ?_
      refine x_get (ci := 2) (fs := [.ref (ad 5), .int ((V 4) 0)]) (q := 4) (v := .int (V 4 0)) (N := 2) hx hb hts (fun _ h => List.mem_cons_of_mem _ (List.mem_append_left _ (List.mem_append_left _ (List.mem_append_right _ h)))) hown hK hP (by decide) (ce_hs ad cI cB (V 4)) rfl 1 (by decide) (hts (.fieldLink RX2 17 "TurnedBoards$History" "size" "I") (List.mem_of_getElem? (i := 1) rfl)) rfl rfl dX2_push_51 ?_
      obtain ⟨hn1, hp⟩ := hp
      refine x_aald hx hb hK hP (vp_of c2 c1 (by decide)) dX2_push_54 ?_
      refine lv_goto (tgt := 59) hx hb dX2_push_55 (by decide) ?_
      refine lv_astore_n (lv' := [(2, .ref (ad (6 + 7 * ((V 5 (V 4 0).toNatClampNeg).toNatClampNeg)))), (0, .ref (ad 4)), (1, .ref (ad (6 + 7 * j2)))]) hx hb dX2_push_59 rfl hl (by decide) rfl (fun ls hl => ?_)
      refine lv_aload_n hx hb dX2_push_60 rfl (lv_at hl 0 rfl) ?_
      refine lv_ifnull hx hb dX2_push_61 ?_
      refine lv_aload_n hx hb dX2_push_64 rfl (lv_at hl 0 rfl) ?_
      refine lv_aload_n hx hb dX2_push_65 rfl (lv_at hl 2 rfl) ?_
      have hn2 := hp
      refine k_VWv (As := [.ref (ad (6 + 7 * j2))]) (rest := []) (q := (6 + 7 * ((V 5 (V 4 0).toNatClampNeg).toNatClampNeg))) ⟨hx, hb, hml, hown, hts⟩ hKN hP hS (m_X0_copyFrom l D cI cB ad hA fu V ((V 5 (V 4 0).toNatClampNeg).toNatClampNeg) j2 hn1 hj2 hn2) (cwV 1 hts gX2_push_X0_copyFrom rfl rfl rfl (by decide +kernel) ⟨(Nat.le_of_ble_eq_true rfl), (Nat.le_of_ble_eq_true rfl)⟩) (c_preV hP hKN (q := (6 + 7 * ((V 5 (V 4 0).toNatClampNeg).toNatClampNeg))) (ci := 0) (fs := [.ref (ad (6 + 7 * ((V 5 (V 4 0).toNatClampNeg).toNatClampNeg) + 1)), .ref (ad (6 + 7 * ((V 5 (V 4 0).toNatClampNeg).toNatClampNeg) + 3)), .ref (ad (6 + 7 * ((V 5 (V 4 0).toNatClampNeg).toNatClampNeg) + 4)), .ref (ad (6 + 7 * ((V 5 (V 4 0).toNatClampNeg).toNatClampNeg) + 5)), .ref (ad (6 + 7 * ((V 5 (V 4 0).toNatClampNeg).toNatClampNeg) + 6)), .int ((V (6 + 7 * ((V 5 (V 4 0).toNatClampNeg).toNatClampNeg))) 5), .int ((V (6 + 7 * ((V 5 (V 4 0).toNatClampNeg).toNatClampNeg))) 6), .int ((V (6 + 7 * ((V 5 (V 4 0).toNatClampNeg).toNatClampNeg))) 0), .int ((V (6 + 7 * ((V 5 (V 4 0).toNatClampNeg).toNatClampNeg))) 1), .int ((V (6 + 7 * ((V 5 (V 4 0).toNatClampNeg).toNatClampNeg))) 2), .int ((V (6 + 7 * ((V 5 (V 4 0).toNatClampNeg).toNatClampNeg))) 3), .int ((V (6 + 7 * ((V 5 (V 4 0).toNatClampNeg).toNatClampNeg))) 4)]) (by have := hn1; omega) (ce_bd ad cI cB hn1 (V (6 + 7 * ((V 5 (V 4 0).toNatClampNeg).toNatClampNeg)))) rfl rfl) rfl hl.1 rfl (Nat.le_of_ble_eq_true rfl) dX2_push_66 ⟨Nat.zero_le _, Nat.zero_le _⟩ (fun H locs hP hS => ?_)
      refine lv_aload_n hx hb dX2_push_69 rfl (lv_at hl 1 rfl) ?_
      refine lv_dup hx hb dX2_push_70 rfl ?_
      refine x_get (ci := 2) (fs := [.ref (ad 5), .int (((f_X0_copyFrom fu V ((V 5 (V 4 0).toNatClampNeg).toNatClampNeg) j2) 4) 0)]) (q := 4) (v := .int ((f_X0_copyFrom fu V ((V 5 (V 4 0).toNatClampNeg).toNatClampNeg) j2) 4 0)) (N := 2) hx hb hts (fun _ h => List.mem_cons_of_mem _ (List.mem_append_left _ (List.mem_append_left _ (List.mem_append_right _ h)))) hown hK hP (by decide) (ce_hs ad cI cB ((f_X0_copyFrom fu V ((V 5 (V 4 0).toNatClampNeg).toNatClampNeg) j2) 4)) rfl 1 (by decide) (hts (.fieldLink RX2 17 "TurnedBoards$History" "size" "I") (List.mem_of_getElem? (i := 1) rfl)) rfl rfl dX2_push_71 ?_
      refine lv_iconst (v := 1) hx hb dX2_push_74 (by decide) ?_
      refine lv_iadd hx hb dX2_push_75 ?_
      refine x_put (ci := 2) (fs := [.ref (ad 5), .int (((f_X0_copyFrom fu V ((V 5 (V 4 0).toNatClampNeg).toNatClampNeg) j2) 4) 0)]) (q := 4) (v := .int (((f_X0_copyFrom fu V ((V 5 (V 4 0).toNatClampNeg).toNatClampNeg) j2) 4 0) + 1)) (ty := .int) (N := 2) hx hb hts (fun _ h => List.mem_cons_of_mem _ (List.mem_append_left _ (List.mem_append_left _ (List.mem_append_right _ h)))) tyX2 tyX2_ok nmX2 hown hK hP hA hS (by decide) (ce_hs ad cI cB ((f_X0_copyFrom fu V ((V 5 (V 4 0).toNatClampNeg).toNatClampNeg) j2) 4)) rfl 1 (by decide) (hts (.fieldLink RX2 17 "TurnedBoards$History" "size" "I") (List.mem_of_getElem? (i := 1) rfl)) rfl rfl (by decide +kernel) rfl rfl (Nat.le_of_ble_eq_true rfl) 0 (((f_X0_copyFrom fu V ((V 5 (V 4 0).toNatClampNeg).toNatClampNeg) j2) 4 0) + 1) ((ce_hs ad cI cB (upd ((f_X0_copyFrom fu V ((V 5 (V 4 0).toNatClampNeg).toNatClampNeg) j2) 4) 0 (((f_X0_copyFrom fu V ((V 5 (V 4 0).toNatClampNeg).toNatClampNeg) j2) 4 0) + 1))).trans rfl) dX2_push_76 (fun H locs hP hS => ?_)
      have hP : wP D cI cB ad (v_X2_push_1 fu V j2) H := hP
      exact W.vret hx hb hr (fun t ht hW => ⟨⟨(v_X2_push_1 fu V j2), rfl, hE.symm, by dsimp only; rw [ht]; exact hP⟩, hS.F ht⟩) hS.2.2 dX2_push_79
  · have hE := hE.trans (if_neg c1)
    have hp := pc_bn hp c1
    refine lv_aload_n hx hb dX2_push_12 rfl (lv_at hl 0 rfl) ?_
    obtain ⟨hn3, hp⟩ := hp
    refine k_VWv (As := []) (rest := []) (q := 4) ⟨hx, hb, hml, hown, hts⟩ hKN hP hS (m_X2_moveOldestToEnd l D cI cB ad hA fu V hn3) (cwV 0 hts gX2_push_X2_moveOldestToEnd rfl rfl rfl (by decide +kernel) ⟨(Nat.le_of_ble_eq_true rfl), (Nat.le_of_ble_eq_true rfl)⟩) (c_preV hP hKN (q := 4) (ci := 2) (fs := [.ref (ad 5), .int ((V 4) 0)]) (by decide) (ce_hs ad cI cB (V 4)) rfl rfl) rfl hl.1 rfl (Nat.le_of_ble_eq_true rfl) dX2_push_13 ⟨Nat.zero_le _, Nat.zero_le _⟩ (fun H locs hP hS => ?_)
    refine lv_aload_n hx hb dX2_push_16 rfl (lv_at hl 0 rfl) ?_
    refine lv_aload_n hx hb dX2_push_17 rfl (lv_at hl 0 rfl) ?_
    refine x_get (ci := 2) (fs := [.ref (ad 5), .int (((f_X2_moveOldestToEnd fu V) 4) 0)]) (q := 4) (v := .ref (ad 5)) (N := 2) hx hb hts (fun _ h => List.mem_cons_of_mem _ (List.mem_append_left _ (List.mem_append_left _ (List.mem_append_right _ h)))) hown hK hP (by decide) (ce_hs ad cI cB ((f_X2_moveOldestToEnd fu V) 4)) rfl 0 (by decide) (hts (.fieldLink RX2 11 "TurnedBoards$History" "states" "[LTurnedBoards$Board;") (List.mem_of_getElem? (i := 2) rfl)) rfl rfl dX2_push_18 ?_
    refine x_alen5 hx hb hK hP dX2_push_21 ?_
    refine lv_iconst (v := 1) hx hb dX2_push_22 (by decide) ?_
    refine lv_isub hx hb dX2_push_23 ?_
    refine x_put (ci := 2) (fs := [.ref (ad 5), .int (((f_X2_moveOldestToEnd fu V) 4) 0)]) (q := 4) (v := .int ((nI 4) - 1)) (ty := .int) (N := 2) hx hb hts (fun _ h => List.mem_cons_of_mem _ (List.mem_append_left _ (List.mem_append_left _ (List.mem_append_right _ h)))) tyX2 tyX2_ok nmX2 hown hK hP hA hS (by decide) (ce_hs ad cI cB ((f_X2_moveOldestToEnd fu V) 4)) rfl 1 (by decide) (hts (.fieldLink RX2 17 "TurnedBoards$History" "size" "I") (List.mem_of_getElem? (i := 1) rfl)) rfl rfl (by decide +kernel) rfl rfl (Nat.le_of_ble_eq_true rfl) 0 ((nI 4) - 1) ((ce_hs ad cI cB (upd ((f_X2_moveOldestToEnd fu V) 4) 0 ((nI 4) - 1))).trans rfl) dX2_push_24 (fun H locs hP hS => ?_)
    refine lv_aload_n hx hb dX2_push_27 rfl (lv_at hl 0 rfl) ?_
    refine x_get (ci := 2) (fs := [.ref (ad 5), .int (((upV (f_X2_moveOldestToEnd fu V) 4 0 ((nI 4) - 1)) 4) 0)]) (q := 4) (v := .int ((upV (f_X2_moveOldestToEnd fu V) 4 0 ((nI 4) - 1)) 4 0)) (N := 2) hx hb hts (fun _ h => List.mem_cons_of_mem _ (List.mem_append_left _ (List.mem_append_left _ (List.mem_append_right _ h)))) hown hK hP (by decide) (ce_hs ad cI cB ((upV (f_X2_moveOldestToEnd fu V) 4 0 ((nI 4) - 1)) 4)) rfl 1 (by decide) (hts (.fieldLink RX2 17 "TurnedBoards$History" "size" "I") (List.mem_of_getElem? (i := 1) rfl)) rfl rfl dX2_push_28 ?_
    refine lv_if_lt (tgt := 58) hx hb dX2_push_31 (by decide) (fun c3 => ?_) (fun c3 => ?_)
    · have hE := hE.trans (if_pos c3)
      refine lv_null hx hb dX2_push_58 ?_
      refine lv_astore_nN (lv' := [(2, .null), (0, .ref (ad 4)), (1, .ref (ad (6 + 7 * j2)))]) hx hb dX2_push_59 rfl hl (by decide) rfl (fun ls hl => ?_)
      refine lv_aload_nN hx hb dX2_push_60 rfl (lv_at hl 0 rfl) ?_
      refine lv_ifnullN (tgt := 79) hx hb dX2_push_61 (by decide) ?_
      exact W.vret hx hb hr (fun t ht hW => ⟨⟨(upV (f_X2_moveOldestToEnd fu V) 4 0 ((nI 4) - 1)), rfl, hE.symm, by dsimp only; rw [ht]; exact hP⟩, hS.F ht⟩) hS.2.2 dX2_push_79
    · have hE := hE.trans (if_neg c3)
      have hp := pc_bn hp c3
      refine lv_aload_n hx hb dX2_push_34 rfl (lv_at hl 0 rfl) ?_
      refine x_get (ci := 2) (fs := [.ref (ad 5), .int (((upV (f_X2_moveOldestToEnd fu V) 4 0 ((nI 4) - 1)) 4) 0)]) (q := 4) (v := .int ((upV (f_X2_moveOldestToEnd fu V) 4 0 ((nI 4) - 1)) 4 0)) (N := 2) hx hb hts (fun _ h => List.mem_cons_of_mem _ (List.mem_append_left _ (List.mem_append_left _ (List.mem_append_right _ h)))) hown hK hP (by decide) (ce_hs ad cI cB ((upV (f_X2_moveOldestToEnd fu V) 4 0 ((nI 4) - 1)) 4)) rfl 1 (by decide) (hts (.fieldLink RX2 17 "TurnedBoards$History" "size" "I") (List.mem_of_getElem? (i := 1) rfl)) rfl rfl dX2_push_35 ?_
      refine lv_aload_n hx hb dX2_push_38 rfl (lv_at hl 0 rfl) ?_
      refine x_get (ci := 2) (fs := [.ref (ad 5), .int (((upV (f_X2_moveOldestToEnd fu V) 4 0 ((nI 4) - 1)) 4) 0)]) (q := 4) (v := .ref (ad 5)) (N := 2) hx hb hts (fun _ h => List.mem_cons_of_mem _ (List.mem_append_left _ (List.mem_append_left _ (List.mem_append_right _ h)))) hown hK hP (by decide) (ce_hs ad cI cB ((upV (f_X2_moveOldestToEnd fu V) 4 0 ((nI 4) - 1)) 4)) rfl 0 (by decide) (hts (.fieldLink RX2 11 "TurnedBoards$History" "states" "[LTurnedBoards$Board;") (List.mem_of_getElem? (i := 2) rfl)) rfl rfl dX2_push_39 ?_
      refine x_alen5 hx hb hK hP dX2_push_42 ?_
      refine lv_icmp_ge (tgt := 58) hx hb dX2_push_43 (by decide) (fun c4 => ?_) (fun c4 => ?_)
      · have hE := hE.trans (if_pos c4)
        refine lv_null hx hb dX2_push_58 ?_
        refine lv_astore_nN (lv' := [(2, .null), (0, .ref (ad 4)), (1, .ref (ad (6 + 7 * j2)))]) hx hb dX2_push_59 rfl hl (by decide) rfl (fun ls hl => ?_)
        refine lv_aload_nN hx hb dX2_push_60 rfl (lv_at hl 0 rfl) ?_
        refine lv_ifnullN (tgt := 79) hx hb dX2_push_61 (by decide) ?_
        exact W.vret hx hb hr (fun t ht hW => ⟨⟨(upV (f_X2_moveOldestToEnd fu V) 4 0 ((nI 4) - 1)), rfl, hE.symm, by dsimp only; rw [ht]; exact hP⟩, hS.F ht⟩) hS.2.2 dX2_push_79
      · have hE := hE.trans (if_neg c4)
        have hp := pc_bn hp c4
        refine lv_aload_n hx hb dX2_push_46 rfl (lv_at hl 0 rfl) ?_
        refine x_get (ci := 2) (fs := [.ref (ad 5), .int (((upV (f_X2_moveOldestToEnd fu V) 4 0 ((nI 4) - 1)) 4) 0)]) (q := 4) (v := .ref (ad 5)) (N := 2) hx hb hts (fun _ h => List.mem_cons_of_mem _ (List.mem_append_left _ (List.mem_append_left _ (List.mem_append_right _ h)))) hown hK hP (by decide) (ce_hs ad cI cB ((upV (f_X2_moveOldestToEnd fu V) 4 0 ((nI 4) - 1)) 4)) rfl 0 (by decide) (hts (.fieldLink RX2 11 "TurnedBoards$History" "states" "[LTurnedBoards$Board;") (List.mem_of_getElem? (i := 2) rfl)) rfl rfl dX2_push_47 ?_
        refine lv_aload_n hx hb dX2_push_50 rfl (lv_at hl 0 rfl) ?_
        refine x_get (ci := 2) (fs := [.ref (ad 5), .int (((upV (f_X2_moveOldestToEnd fu V) 4 0 ((nI 4) - 1)) 4) 0)]) (q := 4) (v := .int ((upV (f_X2_moveOldestToEnd fu V) 4 0 ((nI 4) - 1)) 4 0)) (N := 2) hx hb hts (fun _ h => List.mem_cons_of_mem _ (List.mem_append_left _ (List.mem_append_left _ (List.mem_append_right _ h)))) hown hK hP (by decide) (ce_hs ad cI cB ((upV (f_X2_moveOldestToEnd fu V) 4 0 ((nI 4) - 1)) 4)) rfl 1 (by decide) (hts (.fieldLink RX2 17 "TurnedBoards$History" "size" "I") (List.mem_of_getElem? (i := 1) rfl)) rfl rfl dX2_push_51 ?_
        obtain ⟨hn4, hp⟩ := hp
        refine x_aald hx hb hK hP (vp_of c3 (i32_lt c4) (by decide)) dX2_push_54 ?_
        refine lv_goto (tgt := 59) hx hb dX2_push_55 (by decide) ?_
        refine lv_astore_n (lv' := [(2, .ref (ad (6 + 7 * (((upV (f_X2_moveOldestToEnd fu V) 4 0 ((nI 4) - 1)) 5 ((upV (f_X2_moveOldestToEnd fu V) 4 0 ((nI 4) - 1)) 4 0).toNatClampNeg).toNatClampNeg)))), (0, .ref (ad 4)), (1, .ref (ad (6 + 7 * j2)))]) hx hb dX2_push_59 rfl hl (by decide) rfl (fun ls hl => ?_)
        refine lv_aload_n hx hb dX2_push_60 rfl (lv_at hl 0 rfl) ?_
        refine lv_ifnull hx hb dX2_push_61 ?_
        refine lv_aload_n hx hb dX2_push_64 rfl (lv_at hl 0 rfl) ?_
        refine lv_aload_n hx hb dX2_push_65 rfl (lv_at hl 2 rfl) ?_
        have hn5 := hp
        refine k_VWv (As := [.ref (ad (6 + 7 * j2))]) (rest := []) (q := (6 + 7 * (((upV (f_X2_moveOldestToEnd fu V) 4 0 ((nI 4) - 1)) 5 ((upV (f_X2_moveOldestToEnd fu V) 4 0 ((nI 4) - 1)) 4 0).toNatClampNeg).toNatClampNeg))) ⟨hx, hb, hml, hown, hts⟩ hKN hP hS (m_X0_copyFrom l D cI cB ad hA fu (upV (f_X2_moveOldestToEnd fu V) 4 0 ((nI 4) - 1)) (((upV (f_X2_moveOldestToEnd fu V) 4 0 ((nI 4) - 1)) 5 ((upV (f_X2_moveOldestToEnd fu V) 4 0 ((nI 4) - 1)) 4 0).toNatClampNeg).toNatClampNeg) j2 hn4 hj2 hn5) (cwV 1 hts gX2_push_X0_copyFrom rfl rfl rfl (by decide +kernel) ⟨(Nat.le_of_ble_eq_true rfl), (Nat.le_of_ble_eq_true rfl)⟩) (c_preV hP hKN (q := (6 + 7 * (((upV (f_X2_moveOldestToEnd fu V) 4 0 ((nI 4) - 1)) 5 ((upV (f_X2_moveOldestToEnd fu V) 4 0 ((nI 4) - 1)) 4 0).toNatClampNeg).toNatClampNeg))) (ci := 0) (fs := [.ref (ad (6 + 7 * (((upV (f_X2_moveOldestToEnd fu V) 4 0 ((nI 4) - 1)) 5 ((upV (f_X2_moveOldestToEnd fu V) 4 0 ((nI 4) - 1)) 4 0).toNatClampNeg).toNatClampNeg) + 1)), .ref (ad (6 + 7 * (((upV (f_X2_moveOldestToEnd fu V) 4 0 ((nI 4) - 1)) 5 ((upV (f_X2_moveOldestToEnd fu V) 4 0 ((nI 4) - 1)) 4 0).toNatClampNeg).toNatClampNeg) + 3)), .ref (ad (6 + 7 * (((upV (f_X2_moveOldestToEnd fu V) 4 0 ((nI 4) - 1)) 5 ((upV (f_X2_moveOldestToEnd fu V) 4 0 ((nI 4) - 1)) 4 0).toNatClampNeg).toNatClampNeg) + 4)), .ref (ad (6 + 7 * (((upV (f_X2_moveOldestToEnd fu V) 4 0 ((nI 4) - 1)) 5 ((upV (f_X2_moveOldestToEnd fu V) 4 0 ((nI 4) - 1)) 4 0).toNatClampNeg).toNatClampNeg) + 5)), .ref (ad (6 + 7 * (((upV (f_X2_moveOldestToEnd fu V) 4 0 ((nI 4) - 1)) 5 ((upV (f_X2_moveOldestToEnd fu V) 4 0 ((nI 4) - 1)) 4 0).toNatClampNeg).toNatClampNeg) + 6)), .int (((upV (f_X2_moveOldestToEnd fu V) 4 0 ((nI 4) - 1)) (6 + 7 * (((upV (f_X2_moveOldestToEnd fu V) 4 0 ((nI 4) - 1)) 5 ((upV (f_X2_moveOldestToEnd fu V) 4 0 ((nI 4) - 1)) 4 0).toNatClampNeg).toNatClampNeg))) 5), .int (((upV (f_X2_moveOldestToEnd fu V) 4 0 ((nI 4) - 1)) (6 + 7 * (((upV (f_X2_moveOldestToEnd fu V) 4 0 ((nI 4) - 1)) 5 ((upV (f_X2_moveOldestToEnd fu V) 4 0 ((nI 4) - 1)) 4 0).toNatClampNeg).toNatClampNeg))) 6), .int (((upV (f_X2_moveOldestToEnd fu V) 4 0 ((nI 4) - 1)) (6 + 7 * (((upV (f_X2_moveOldestToEnd fu V) 4 0 ((nI 4) - 1)) 5 ((upV (f_X2_moveOldestToEnd fu V) 4 0 ((nI 4) - 1)) 4 0).toNatClampNeg).toNatClampNeg))) 0), .int (((upV (f_X2_moveOldestToEnd fu V) 4 0 ((nI 4) - 1)) (6 + 7 * (((upV (f_X2_moveOldestToEnd fu V) 4 0 ((nI 4) - 1)) 5 ((upV (f_X2_moveOldestToEnd fu V) 4 0 ((nI 4) - 1)) 4 0).toNatClampNeg).toNatClampNeg))) 1), .int (((upV (f_X2_moveOldestToEnd fu V) 4 0 ((nI 4) - 1)) (6 + 7 * (((upV (f_X2_moveOldestToEnd fu V) 4 0 ((nI 4) - 1)) 5 ((upV (f_X2_moveOldestToEnd fu V) 4 0 ((nI 4) - 1)) 4 0).toNatClampNeg).toNatClampNeg))) 2), .int (((upV (f_X2_moveOldestToEnd fu V) 4 0 ((nI 4) - 1)) (6 + 7 * (((upV (f_X2_moveOldestToEnd fu V) 4 0 ((nI 4) - 1)) 5 ((upV (f_X2_moveOldestToEnd fu V) 4 0 ((nI 4) - 1)) 4 0).toNatClampNeg).toNatClampNeg))) 3), .int (((upV (f_X2_moveOldestToEnd fu V) 4 0 ((nI 4) - 1)) (6 + 7 * (((upV (f_X2_moveOldestToEnd fu V) 4 0 ((nI 4) - 1)) 5 ((upV (f_X2_moveOldestToEnd fu V) 4 0 ((nI 4) - 1)) 4 0).toNatClampNeg).toNatClampNeg))) 4)]) (by have := hn4; omega) (ce_bd ad cI cB hn4 ((upV (f_X2_moveOldestToEnd fu V) 4 0 ((nI 4) - 1)) (6 + 7 * (((upV (f_X2_moveOldestToEnd fu V) 4 0 ((nI 4) - 1)) 5 ((upV (f_X2_moveOldestToEnd fu V) 4 0 ((nI 4) - 1)) 4 0).toNatClampNeg).toNatClampNeg)))) rfl rfl) rfl hl.1 rfl (Nat.le_of_ble_eq_true rfl) dX2_push_66 ⟨Nat.zero_le _, Nat.zero_le _⟩ (fun H locs hP hS => ?_)
        have hP : wP D cI cB ad (v_X2_push_2 fu V j2) H := hP
        refine lv_aload_n hx hb dX2_push_69 rfl (lv_at hl 1 rfl) ?_
        refine lv_dup hx hb dX2_push_70 rfl ?_
        refine x_get (ci := 2) (fs := [.ref (ad 5), .int (((v_X2_push_2 fu V j2) 4) 0)]) (q := 4) (v := .int ((v_X2_push_2 fu V j2) 4 0)) (N := 2) hx hb hts (fun _ h => List.mem_cons_of_mem _ (List.mem_append_left _ (List.mem_append_left _ (List.mem_append_right _ h)))) hown hK hP (by decide) (ce_hs ad cI cB ((v_X2_push_2 fu V j2) 4)) rfl 1 (by decide) (hts (.fieldLink RX2 17 "TurnedBoards$History" "size" "I") (List.mem_of_getElem? (i := 1) rfl)) rfl rfl dX2_push_71 ?_
        refine lv_iconst (v := 1) hx hb dX2_push_74 (by decide) ?_
        refine lv_iadd hx hb dX2_push_75 ?_
        refine x_put (ci := 2) (fs := [.ref (ad 5), .int (((v_X2_push_2 fu V j2) 4) 0)]) (q := 4) (v := .int (((v_X2_push_2 fu V j2) 4 0) + 1)) (ty := .int) (N := 2) hx hb hts (fun _ h => List.mem_cons_of_mem _ (List.mem_append_left _ (List.mem_append_left _ (List.mem_append_right _ h)))) tyX2 tyX2_ok nmX2 hown hK hP hA hS (by decide) (ce_hs ad cI cB ((v_X2_push_2 fu V j2) 4)) rfl 1 (by decide) (hts (.fieldLink RX2 17 "TurnedBoards$History" "size" "I") (List.mem_of_getElem? (i := 1) rfl)) rfl rfl (by decide +kernel) rfl rfl (Nat.le_of_ble_eq_true rfl) 0 (((v_X2_push_2 fu V j2) 4 0) + 1) ((ce_hs ad cI cB (upd ((v_X2_push_2 fu V j2) 4) 0 (((v_X2_push_2 fu V j2) 4 0) + 1))).trans rfl) dX2_push_76 (fun H locs hP hS => ?_)
        exact W.vret hx hb hr (fun t ht hW => ⟨⟨(upV (v_X2_push_2 fu V j2) 4 0 (((v_X2_push_2 fu V j2) 4 0) + 1)), rfl, hE.symm, by dsimp only; rw [ht]; exact hP⟩, hS.F ht⟩) hS.2.2 dX2_push_79
def v_X2_popInto_1 (fu : Nat) (V : VT) (j2 : Nat) : VT := (f_X0_copyFrom fu (upV V 4 0 ((V 4 0) - 1)) j2 (((upV V 4 0 ((V 4 0) - 1)) 5 ((upV V 4 0 ((V 4 0) - 1)) 4 0).toNatClampNeg).toNatClampNeg))
def f_X2_popInto (fu : Nat) (V : VT) (j2 : Nat) : VT := (if (V 4 0) ≤ 0 then V else (if (nI 4) < (V 4 0) then V else (v_X2_popInto_1 fu V j2)))
def p_X2_popInto (fu : Nat) (V : VT) (j2 : Nat) : Prop := (((V 4 0) ≤ 0 → True) ∧ (¬ ((V 4 0) ≤ 0) → (((nI 4) < (V 4 0) → True) ∧ (¬ ((nI 4) < (V 4 0)) → ((vp_in ((upV V 4 0 ((V 4 0) - 1)) 4 0) 4) ∧ ((((upV V 4 0 ((V 4 0) - 1)) 5 ((upV V 4 0 ((V 4 0) - 1)) 4 0).toNatClampNeg).toNatClampNeg < 6) ∧ (p_X0_copyFrom fu (upV V 4 0 ((V 4 0) - 1)) j2 (((upV V 4 0 ((V 4 0) - 1)) 5 ((upV V 4 0 ((V 4 0) - 1)) 4 0).toNatClampNeg).toNatClampNeg))))))))
set_option maxHeartbeats 4000000 in
set_option maxRecDepth 100000 in
theorem m_X2_popInto (l : Launch) (D : va_G) (cI cB : ClassId) (ad : Nat → Nat) {A : Nat → Prop} (hA : adOk ad A) (fu : Nat) (V : VT) (j2 : Nat) (hj2 : j2 < 6) (hp : p_X2_popInto fu V j2) : Met l yX2_popInto wsX2_popInto ({ frames := 3, cells := 0, slots := 0, locals := 64 }) (cP D cI cB ad V [.ref (ad 4), .ref (ad (6 + 7 * j2))]) (cWv D cI cB ad A (f_X2_popInto fu V j2)) 0 0 A := by
  refine Met.ofW (cc := cX2_popInto) (maxL := 2) (ret := none) (by decide +kernel) rfl ?_
  intro p e s m args below meth c s₁ B hml hv
  obtain ⟨rfl, hP, hKN⟩ := hv
  have hK := hKN.1
  have hx := B.exec
  have hb := B.bytes
  have hr := B.returns
  have hts := atoms_spec (ws := wsX2_popInto) B.pre
  have hown : s.vm.findClass RX2 = some m.cls := findClass_of_methodNamed B.named
  have hlocks := B.notSynchronized
  have hS : va_S A s.heap s.heap [] := va_S.rf
  have hl := lv_entry ([.ref (ad 4), .ref (ad (6 + 7 * j2))]) (n := 2) (Nat.le_of_ble_eq_true rfl)
  rw [lg_entry_eq]
  generalize (lg_sl ([.ref (ad 4), .ref (ad (6 + 7 * j2))]) ++ List.replicate (2 - (lg_sl ([.ref (ad 4), .ref (ad (6 + 7 * j2))])).length) Slot.unset).toArray = ls at hl ⊢
  have hl : lv_has ls 2 [(0, .ref (ad 4)), (1, .ref (ad (6 + 7 * j2)))] := hl
  have hE : f_X2_popInto fu V j2 = (if (V 4 0) ≤ 0 then V else (if (nI 4) < (V 4 0) then V else (v_X2_popInto_1 fu V j2))) := rfl
  refine lv_aload_n hx hb dX2_popInto_0 rfl (lv_at hl 1 rfl) ?_
  refine lv_ifnull hx hb dX2_popInto_1 ?_
  refine lv_aload_n hx hb dX2_popInto_4 rfl (lv_at hl 0 rfl) ?_
  refine x_get (ci := 2) (fs := [.ref (ad 5), .int ((V 4) 0)]) (q := 4) (v := .int (V 4 0)) (N := 2) hx hb hts (fun _ h => List.mem_cons_of_mem _ (List.mem_append_left _ (List.mem_append_left _ (List.mem_append_right _ h)))) hown hK hP (by decide) (ce_hs ad cI cB (V 4)) rfl 1 (by decide) (hts (.fieldLink RX2 17 "TurnedBoards$History" "size" "I") (List.mem_of_getElem? (i := 1) rfl)) rfl rfl dX2_popInto_5 ?_
  refine lv_if_le (tgt := 46) hx hb dX2_popInto_8 (by decide) (fun c1 => ?_) (fun c1 => ?_)
  · have hE := hE.trans (if_pos c1)
    exact W.vret hx hb hr (fun t ht hW => ⟨⟨V, rfl, hE.symm, by dsimp only; rw [ht]; exact hP⟩, hS.F ht⟩) hS.2.2 dX2_popInto_46
  · have hE := hE.trans (if_neg c1)
    have hp := pc_bn hp c1
    refine lv_aload_n hx hb dX2_popInto_11 rfl (lv_at hl 0 rfl) ?_
    refine x_get (ci := 2) (fs := [.ref (ad 5), .int ((V 4) 0)]) (q := 4) (v := .int (V 4 0)) (N := 2) hx hb hts (fun _ h => List.mem_cons_of_mem _ (List.mem_append_left _ (List.mem_append_left _ (List.mem_append_right _ h)))) hown hK hP (by decide) (ce_hs ad cI cB (V 4)) rfl 1 (by decide) (hts (.fieldLink RX2 17 "TurnedBoards$History" "size" "I") (List.mem_of_getElem? (i := 1) rfl)) rfl rfl dX2_popInto_12 ?_
    refine lv_aload_n hx hb dX2_popInto_15 rfl (lv_at hl 0 rfl) ?_
    refine x_get (ci := 2) (fs := [.ref (ad 5), .int ((V 4) 0)]) (q := 4) (v := .ref (ad 5)) (N := 2) hx hb hts (fun _ h => List.mem_cons_of_mem _ (List.mem_append_left _ (List.mem_append_left _ (List.mem_append_right _ h)))) hown hK hP (by decide) (ce_hs ad cI cB (V 4)) rfl 0 (by decide) (hts (.fieldLink RX2 11 "TurnedBoards$History" "states" "[LTurnedBoards$Board;") (List.mem_of_getElem? (i := 2) rfl)) rfl rfl dX2_popInto_16 ?_
    refine x_alen5 hx hb hK hP dX2_popInto_19 ?_
    refine lv_icmp_gt (tgt := 46) hx hb dX2_popInto_20 (by decide) (fun c2 => ?_) (fun c2 => ?_)
    · have hE := hE.trans (if_pos c2)
      exact W.vret hx hb hr (fun t ht hW => ⟨⟨V, rfl, hE.symm, by dsimp only; rw [ht]; exact hP⟩, hS.F ht⟩) hS.2.2 dX2_popInto_46
    · have hE := hE.trans (if_neg c2)
      have hp := pc_bn hp c2
      refine lv_aload_n hx hb dX2_popInto_23 rfl (lv_at hl 0 rfl) ?_
      refine lv_dup hx hb dX2_popInto_24 rfl ?_
      refine x_get (ci := 2) (fs := [.ref (ad 5), .int ((V 4) 0)]) (q := 4) (v := .int (V 4 0)) (N := 2) hx hb hts (fun _ h => List.mem_cons_of_mem _ (List.mem_append_left _ (List.mem_append_left _ (List.mem_append_right _ h)))) hown hK hP (by decide) (ce_hs ad cI cB (V 4)) rfl 1 (by decide) (hts (.fieldLink RX2 17 "TurnedBoards$History" "size" "I") (List.mem_of_getElem? (i := 1) rfl)) rfl rfl dX2_popInto_25 ?_
      refine lv_iconst (v := 1) hx hb dX2_popInto_28 (by decide) ?_
      refine lv_isub hx hb dX2_popInto_29 ?_
      refine x_put (ci := 2) (fs := [.ref (ad 5), .int ((V 4) 0)]) (q := 4) (v := .int ((V 4 0) - 1)) (ty := .int) (N := 2) hx hb hts (fun _ h => List.mem_cons_of_mem _ (List.mem_append_left _ (List.mem_append_left _ (List.mem_append_right _ h)))) tyX2 tyX2_ok nmX2 hown hK hP hA hS (by decide) (ce_hs ad cI cB (V 4)) rfl 1 (by decide) (hts (.fieldLink RX2 17 "TurnedBoards$History" "size" "I") (List.mem_of_getElem? (i := 1) rfl)) rfl rfl (by decide +kernel) rfl rfl (Nat.le_of_ble_eq_true rfl) 0 ((V 4 0) - 1) ((ce_hs ad cI cB (upd (V 4) 0 ((V 4 0) - 1))).trans rfl) dX2_popInto_30 (fun H locs hP hS => ?_)
      refine lv_aload_n hx hb dX2_popInto_33 rfl (lv_at hl 1 rfl) ?_
      refine lv_aload_n hx hb dX2_popInto_34 rfl (lv_at hl 0 rfl) ?_
      refine x_get (ci := 2) (fs := [.ref (ad 5), .int (((upV V 4 0 ((V 4 0) - 1)) 4) 0)]) (q := 4) (v := .ref (ad 5)) (N := 2) hx hb hts (fun _ h => List.mem_cons_of_mem _ (List.mem_append_left _ (List.mem_append_left _ (List.mem_append_right _ h)))) hown hK hP (by decide) (ce_hs ad cI cB ((upV V 4 0 ((V 4 0) - 1)) 4)) rfl 0 (by decide) (hts (.fieldLink RX2 11 "TurnedBoards$History" "states" "[LTurnedBoards$Board;") (List.mem_of_getElem? (i := 2) rfl)) rfl rfl dX2_popInto_35 ?_
      refine lv_aload_n hx hb dX2_popInto_38 rfl (lv_at hl 0 rfl) ?_
      refine x_get (ci := 2) (fs := [.ref (ad 5), .int (((upV V 4 0 ((V 4 0) - 1)) 4) 0)]) (q := 4) (v := .int ((upV V 4 0 ((V 4 0) - 1)) 4 0)) (N := 2) hx hb hts (fun _ h => List.mem_cons_of_mem _ (List.mem_append_left _ (List.mem_append_left _ (List.mem_append_right _ h)))) hown hK hP (by decide) (ce_hs ad cI cB ((upV V 4 0 ((V 4 0) - 1)) 4)) rfl 1 (by decide) (hts (.fieldLink RX2 17 "TurnedBoards$History" "size" "I") (List.mem_of_getElem? (i := 1) rfl)) rfl rfl dX2_popInto_39 ?_
      obtain ⟨hn1, hp⟩ := hp
      obtain ⟨hn2, hp⟩ := hp
      refine x_aald hx hb hK hP hn1 dX2_popInto_42 ?_
      have hn3 := hp
      refine k_VWv (As := [.ref (ad (6 + 7 * (((upV V 4 0 ((V 4 0) - 1)) 5 ((upV V 4 0 ((V 4 0) - 1)) 4 0).toNatClampNeg).toNatClampNeg)))]) (rest := []) (q := (6 + 7 * j2)) ⟨hx, hb, hml, hown, hts⟩ hKN hP hS (m_X0_copyFrom l D cI cB ad hA fu (upV V 4 0 ((V 4 0) - 1)) j2 (((upV V 4 0 ((V 4 0) - 1)) 5 ((upV V 4 0 ((V 4 0) - 1)) 4 0).toNatClampNeg).toNatClampNeg) hj2 hn2 hn3) (cwV 1 hts gX2_popInto_X0_copyFrom rfl rfl rfl (by decide +kernel) ⟨(Nat.le_of_ble_eq_true rfl), (Nat.le_of_ble_eq_true rfl)⟩) (c_preV hP hKN (q := (6 + 7 * j2)) (ci := 0) (fs := [.ref (ad (6 + 7 * j2 + 1)), .ref (ad (6 + 7 * j2 + 3)), .ref (ad (6 + 7 * j2 + 4)), .ref (ad (6 + 7 * j2 + 5)), .ref (ad (6 + 7 * j2 + 6)), .int (((upV V 4 0 ((V 4 0) - 1)) (6 + 7 * j2)) 5), .int (((upV V 4 0 ((V 4 0) - 1)) (6 + 7 * j2)) 6), .int (((upV V 4 0 ((V 4 0) - 1)) (6 + 7 * j2)) 0), .int (((upV V 4 0 ((V 4 0) - 1)) (6 + 7 * j2)) 1), .int (((upV V 4 0 ((V 4 0) - 1)) (6 + 7 * j2)) 2), .int (((upV V 4 0 ((V 4 0) - 1)) (6 + 7 * j2)) 3), .int (((upV V 4 0 ((V 4 0) - 1)) (6 + 7 * j2)) 4)]) (by have := hj2; omega) (ce_bd ad cI cB hj2 ((upV V 4 0 ((V 4 0) - 1)) (6 + 7 * j2))) rfl rfl) rfl hl.1 rfl (Nat.le_of_ble_eq_true rfl) dX2_popInto_43 ⟨Nat.zero_le _, Nat.zero_le _⟩ (fun H locs hP hS => ?_)
      have hP : wP D cI cB ad (v_X2_popInto_1 fu V j2) H := hP
      exact W.vret hx hb hr (fun t ht hW => ⟨⟨(v_X2_popInto_1 fu V j2), rfl, hE.symm, by dsimp only; rw [ht]; exact hP⟩, hS.F ht⟩) hS.2.2 dX2_popInto_46
def f_X5_placeIn (V : VT) (p1 : Int32) : Int32 := (p1 / 10)
set_option maxHeartbeats 4000000 in
set_option maxRecDepth 100000 in
theorem m_X5_placeIn (l : Launch) (D : va_G) (cI cB : ClassId) (ad : Nat → Nat) (V : VT) (p1 : Int32)  : Met l yX5_placeIn wsX5_placeIn ({ frames := 0, cells := 0, slots := 0, locals := 0 }) (cP D cI cB ad V [.int p1]) (cR (f_X5_placeIn V p1)) 0 0 (fun _ => False) := by
  refine Met.ofW (cc := cX5_placeIn) (maxL := 1) (ret := (some .int)) (by decide +kernel) rfl ?_
  intro p e s m args below meth c s₁ B hml hv
  obtain ⟨rfl, hP, hKN⟩ := hv
  have hK := hKN.1
  have hx := B.exec
  have hb := B.bytes
  have hr := B.returns
  have hts := atoms_spec (ws := wsX5_placeIn) B.pre
  have hown : s.vm.findClass RX5 = some m.cls := findClass_of_methodNamed B.named
  have hlocks := B.notSynchronized
  have hS : va_S (fun _ => False) s.heap s.heap [] := va_S.rf
  have hl := lv_entry ([.int p1]) (n := 1) (Nat.le_of_ble_eq_true rfl)
  rw [lg_entry_eq]
  generalize (lg_sl ([.int p1]) ++ List.replicate (1 - (lg_sl ([.int p1])).length) Slot.unset).toArray = ls at hl ⊢
  have hl : lv_has ls 1 [(0, .int p1)] := hl
  have hE : f_X5_placeIn V p1 = (p1 / 10) := rfl
  refine lv_iload_n hx hb dX5_placeIn_0 rfl (lv_at hl 0 rfl) ?_
  refine lv_bipush (v := 10) hx hb dX5_placeIn_1 (by decide) ?_
  refine lv_idiv hx hb dX5_placeIn_3 (by decide) ?_
  exact W.iret (v := (p1 / 10)) hx hb hr (fun t ht hW => ⟨⟨(p1 / 10), (), rfl, hE.symm, trivial⟩, hS.F ht⟩) hS.2.2 dX5_placeIn_4
def f_X5_reasonIn (V : VT) (p1 : Int32) : Int32 := (p1 - p1 / 10 * 10)
set_option maxHeartbeats 4000000 in
set_option maxRecDepth 100000 in
theorem m_X5_reasonIn (l : Launch) (D : va_G) (cI cB : ClassId) (ad : Nat → Nat) (V : VT) (p1 : Int32)  : Met l yX5_reasonIn wsX5_reasonIn ({ frames := 0, cells := 0, slots := 0, locals := 0 }) (cP D cI cB ad V [.int p1]) (cR (f_X5_reasonIn V p1)) 0 0 (fun _ => False) := by
  refine Met.ofW (cc := cX5_reasonIn) (maxL := 1) (ret := (some .int)) (by decide +kernel) rfl ?_
  intro p e s m args below meth c s₁ B hml hv
  obtain ⟨rfl, hP, hKN⟩ := hv
  have hK := hKN.1
  have hx := B.exec
  have hb := B.bytes
  have hr := B.returns
  have hts := atoms_spec (ws := wsX5_reasonIn) B.pre
  have hown : s.vm.findClass RX5 = some m.cls := findClass_of_methodNamed B.named
  have hlocks := B.notSynchronized
  have hS : va_S (fun _ => False) s.heap s.heap [] := va_S.rf
  have hl := lv_entry ([.int p1]) (n := 1) (Nat.le_of_ble_eq_true rfl)
  rw [lg_entry_eq]
  generalize (lg_sl ([.int p1]) ++ List.replicate (1 - (lg_sl ([.int p1])).length) Slot.unset).toArray = ls at hl ⊢
  have hl : lv_has ls 1 [(0, .int p1)] := hl
  have hE : f_X5_reasonIn V p1 = (p1 - p1 / 10 * 10) := rfl
  refine lv_iload_n hx hb dX5_reasonIn_0 rfl (lv_at hl 0 rfl) ?_
  refine lv_bipush (v := 10) hx hb dX5_reasonIn_1 (by decide) ?_
  refine lv_irem hx hb dX5_reasonIn_3 (by decide) ?_
  exact W.iret (v := (p1 - p1 / 10 * 10)) hx hb hr (fun t ht hW => ⟨⟨(p1 - p1 / 10 * 10), (), rfl, hE.symm, trivial⟩, hS.F ht⟩) hS.2.2 dX5_reasonIn_4
def f_X5_codeOf (V : VT) (p1 : Int32) (p2 : Int32) : Int32 := ((10 * p1) + p2)
set_option maxHeartbeats 4000000 in
set_option maxRecDepth 100000 in
theorem m_X5_codeOf (l : Launch) (D : va_G) (cI cB : ClassId) (ad : Nat → Nat) (V : VT) (p1 : Int32) (p2 : Int32)  : Met l yX5_codeOf wsX5_codeOf ({ frames := 0, cells := 0, slots := 0, locals := 0 }) (cP D cI cB ad V [.int p1, .int p2]) (cR (f_X5_codeOf V p1 p2)) 0 0 (fun _ => False) := by
  refine Met.ofW (cc := cX5_codeOf) (maxL := 2) (ret := (some .int)) (by decide +kernel) rfl ?_
  intro p e s m args below meth c s₁ B hml hv
  obtain ⟨rfl, hP, hKN⟩ := hv
  have hK := hKN.1
  have hx := B.exec
  have hb := B.bytes
  have hr := B.returns
  have hts := atoms_spec (ws := wsX5_codeOf) B.pre
  have hown : s.vm.findClass RX5 = some m.cls := findClass_of_methodNamed B.named
  have hlocks := B.notSynchronized
  have hS : va_S (fun _ => False) s.heap s.heap [] := va_S.rf
  have hl := lv_entry ([.int p1, .int p2]) (n := 2) (Nat.le_of_ble_eq_true rfl)
  rw [lg_entry_eq]
  generalize (lg_sl ([.int p1, .int p2]) ++ List.replicate (2 - (lg_sl ([.int p1, .int p2])).length) Slot.unset).toArray = ls at hl ⊢
  have hl : lv_has ls 2 [(0, .int p1), (1, .int p2)] := hl
  have hE : f_X5_codeOf V p1 p2 = ((10 * p1) + p2) := rfl
  refine lv_bipush (v := 10) hx hb dX5_codeOf_0 (by decide) ?_
  refine lv_iload_n hx hb dX5_codeOf_2 rfl (lv_at hl 0 rfl) ?_
  refine lv_imul hx hb dX5_codeOf_3 ?_
  refine lv_iload_n hx hb dX5_codeOf_4 rfl (lv_at hl 1 rfl) ?_
  refine lv_iadd hx hb dX5_codeOf_5 ?_
  exact W.iret (v := ((10 * p1) + p2)) hx hb hr (fun t ht hW => ⟨⟨((10 * p1) + p2), (), rfl, hE.symm, trivial⟩, hS.F ht⟩) hS.2.2 dX5_codeOf_6
def f_X5_append (V : VT) (p1 : Int32) : VT := (if (V 2 0) < 0 then V else (if (nI 30) ≤ (V 2 0) then V else (upV (upV V 3 (V 2 0).toNatClampNeg p1) 2 0 (((upV V 3 (V 2 0).toNatClampNeg p1) 2 0) + 1))))
set_option maxHeartbeats 4000000 in
set_option maxRecDepth 100000 in
theorem m_X5_append (l : Launch) (D : va_G) (cI cB : ClassId) (ad : Nat → Nat) {A : Nat → Prop} (hA : adOk ad A) (V : VT) (p1 : Int32)  : Met l yX5_append wsX5_append ({ frames := 0, cells := 0, slots := 0, locals := 0 }) (cP D cI cB ad V [.ref (ad 2), .int p1]) (cWv D cI cB ad A (f_X5_append V p1)) 0 0 A := by
  refine Met.ofW (cc := cX5_append) (maxL := 2) (ret := none) (by decide +kernel) rfl ?_
  intro p e s m args below meth c s₁ B hml hv
  obtain ⟨rfl, hP, hKN⟩ := hv
  have hK := hKN.1
  have hx := B.exec
  have hb := B.bytes
  have hr := B.returns
  have hts := atoms_spec (ws := wsX5_append) B.pre
  have hown : s.vm.findClass RX5 = some m.cls := findClass_of_methodNamed B.named
  have hlocks := B.notSynchronized
  have hS : va_S A s.heap s.heap [] := va_S.rf
  have hl := lv_entry ([.ref (ad 2), .int p1]) (n := 2) (Nat.le_of_ble_eq_true rfl)
  rw [lg_entry_eq]
  generalize (lg_sl ([.ref (ad 2), .int p1]) ++ List.replicate (2 - (lg_sl ([.ref (ad 2), .int p1])).length) Slot.unset).toArray = ls at hl ⊢
  have hl : lv_has ls 2 [(0, .ref (ad 2)), (1, .int p1)] := hl
  have hE : f_X5_append V p1 = (if (V 2 0) < 0 then V else (if (nI 30) ≤ (V 2 0) then V else (upV (upV V 3 (V 2 0).toNatClampNeg p1) 2 0 (((upV V 3 (V 2 0).toNatClampNeg p1) 2 0) + 1)))) := rfl
  refine lv_aload_n hx hb dX5_append_0 rfl (lv_at hl 0 rfl) ?_
  refine x_get (ci := 4) (fs := [.ref (ad 3), .int ((V 2) 0)]) (q := 2) (v := .int (V 2 0)) (N := 2) hx hb hts (fun _ h => List.mem_cons_of_mem _ (List.mem_append_right _ h)) hown hK hP (by decide) (ce_sc ad cI cB (V 2)) rfl 1 (by decide) (hts (.fieldLink RX5 15 "TurnedBoards$Script" "length" "I") (List.mem_of_getElem? (i := 1) rfl)) rfl rfl dX5_append_1 ?_
  refine lv_if_lt (tgt := 39) hx hb dX5_append_4 (by decide) (fun c1 => ?_) (fun c1 => ?_)
  · have hE := hE.trans (if_pos c1)
    exact W.vret hx hb hr (fun t ht hW => ⟨⟨V, rfl, hE.symm, by dsimp only; rw [ht]; exact hP⟩, hS.F ht⟩) hS.2.2 dX5_append_39
  · have hE := hE.trans (if_neg c1)
    refine lv_aload_n hx hb dX5_append_7 rfl (lv_at hl 0 rfl) ?_
    refine x_get (ci := 4) (fs := [.ref (ad 3), .int ((V 2) 0)]) (q := 2) (v := .int (V 2 0)) (N := 2) hx hb hts (fun _ h => List.mem_cons_of_mem _ (List.mem_append_right _ h)) hown hK hP (by decide) (ce_sc ad cI cB (V 2)) rfl 1 (by decide) (hts (.fieldLink RX5 15 "TurnedBoards$Script" "length" "I") (List.mem_of_getElem? (i := 1) rfl)) rfl rfl dX5_append_8 ?_
    refine lv_aload_n hx hb dX5_append_11 rfl (lv_at hl 0 rfl) ?_
    refine x_get (ci := 4) (fs := [.ref (ad 3), .int ((V 2) 0)]) (q := 2) (v := .ref (ad 3)) (N := 2) hx hb hts (fun _ h => List.mem_cons_of_mem _ (List.mem_append_right _ h)) hown hK hP (by decide) (ce_sc ad cI cB (V 2)) rfl 0 (by decide) (hts (.fieldLink RX5 9 "TurnedBoards$Script" "characters" "[I") (List.mem_of_getElem? (i := 2) rfl)) rfl rfl dX5_append_12 ?_
    refine x_alen hx hb hK hP ⟨by decide, fun _ => rfl, by decide⟩ dX5_append_15 ?_
    refine lv_icmp_ge (tgt := 39) hx hb dX5_append_16 (by decide) (fun c2 => ?_) (fun c2 => ?_)
    · have hE := hE.trans (if_pos c2)
      exact W.vret hx hb hr (fun t ht hW => ⟨⟨V, rfl, hE.symm, by dsimp only; rw [ht]; exact hP⟩, hS.F ht⟩) hS.2.2 dX5_append_39
    · have hE := hE.trans (if_neg c2)
      refine lv_aload_n hx hb dX5_append_19 rfl (lv_at hl 0 rfl) ?_
      refine x_get (ci := 4) (fs := [.ref (ad 3), .int ((V 2) 0)]) (q := 2) (v := .ref (ad 3)) (N := 2) hx hb hts (fun _ h => List.mem_cons_of_mem _ (List.mem_append_right _ h)) hown hK hP (by decide) (ce_sc ad cI cB (V 2)) rfl 0 (by decide) (hts (.fieldLink RX5 9 "TurnedBoards$Script" "characters" "[I") (List.mem_of_getElem? (i := 2) rfl)) rfl rfl dX5_append_20 ?_
      refine lv_aload_n hx hb dX5_append_23 rfl (lv_at hl 0 rfl) ?_
      refine x_get (ci := 4) (fs := [.ref (ad 3), .int ((V 2) 0)]) (q := 2) (v := .int (V 2 0)) (N := 2) hx hb hts (fun _ h => List.mem_cons_of_mem _ (List.mem_append_right _ h)) hown hK hP (by decide) (ce_sc ad cI cB (V 2)) rfl 1 (by decide) (hts (.fieldLink RX5 15 "TurnedBoards$Script" "length" "I") (List.mem_of_getElem? (i := 1) rfl)) rfl rfl dX5_append_24 ?_
      refine lv_iload_n hx hb dX5_append_27 rfl (lv_at hl 1 rfl) ?_
      refine x_iast hx hb hK hP hA hS ⟨by decide, fun _ => rfl, by decide⟩ (vp_of c1 (i32_lt c2) (by decide)) dX5_append_28 (fun H locs hP hS => ?_)
      refine lv_aload_n hx hb dX5_append_29 rfl (lv_at hl 0 rfl) ?_
      refine lv_dup hx hb dX5_append_30 rfl ?_
      refine x_get (ci := 4) (fs := [.ref (ad 3), .int (((upV V 3 (V 2 0).toNatClampNeg p1) 2) 0)]) (q := 2) (v := .int ((upV V 3 (V 2 0).toNatClampNeg p1) 2 0)) (N := 2) hx hb hts (fun _ h => List.mem_cons_of_mem _ (List.mem_append_right _ h)) hown hK hP (by decide) (ce_sc ad cI cB ((upV V 3 (V 2 0).toNatClampNeg p1) 2)) rfl 1 (by decide) (hts (.fieldLink RX5 15 "TurnedBoards$Script" "length" "I") (List.mem_of_getElem? (i := 1) rfl)) rfl rfl dX5_append_31 ?_
      refine lv_iconst (v := 1) hx hb dX5_append_34 (by decide) ?_
      refine lv_iadd hx hb dX5_append_35 ?_
      refine x_put (ci := 4) (fs := [.ref (ad 3), .int (((upV V 3 (V 2 0).toNatClampNeg p1) 2) 0)]) (q := 2) (v := .int (((upV V 3 (V 2 0).toNatClampNeg p1) 2 0) + 1)) (ty := .int) (N := 2) hx hb hts (fun _ h => List.mem_cons_of_mem _ (List.mem_append_right _ h)) tyX5 tyX5_ok nmX5 hown hK hP hA hS (by decide) (ce_sc ad cI cB ((upV V 3 (V 2 0).toNatClampNeg p1) 2)) rfl 1 (by decide) (hts (.fieldLink RX5 15 "TurnedBoards$Script" "length" "I") (List.mem_of_getElem? (i := 1) rfl)) rfl rfl (by decide +kernel) rfl rfl (Nat.le_of_ble_eq_true rfl) 0 (((upV V 3 (V 2 0).toNatClampNeg p1) 2 0) + 1) ((ce_sc ad cI cB (upd ((upV V 3 (V 2 0).toNatClampNeg p1) 2) 0 (((upV V 3 (V 2 0).toNatClampNeg p1) 2 0) + 1))).trans rfl) dX5_append_36 (fun H locs hP hS => ?_)
      exact W.vret hx hb hr (fun t ht hW => ⟨⟨(upV (upV V 3 (V 2 0).toNatClampNeg p1) 2 0 (((upV V 3 (V 2 0).toNatClampNeg p1) 2 0) + 1)), rfl, hE.symm, by dsimp only; rw [ht]; exact hP⟩, hS.F ht⟩) hS.2.2 dX5_append_39
def f_X5_letterAt (V : VT) (p1 : Int32) : Int32 := (if (V 2 0) ≤ p1 then (-1) else (if ((f_X4_at V 3 30 p1) - 97) < 0 then (-1) else (if 10 ≤ ((f_X4_at V 3 30 p1) - 97) then (-1) else ((f_X4_at V 3 30 p1) - 97))))
set_option maxHeartbeats 4000000 in
set_option maxRecDepth 100000 in
theorem m_X5_letterAt (l : Launch) (D : va_G) (cI cB : ClassId) (ad : Nat → Nat) (V : VT) (p1 : Int32)  : Met l yX5_letterAt wsX5_letterAt ({ frames := 1, cells := 0, slots := 0, locals := 21 }) (cP D cI cB ad V [.ref (ad 2), .int p1]) (cR (f_X5_letterAt V p1)) 0 0 (fun _ => False) := by
  refine Met.ofW (cc := cX5_letterAt) (maxL := 3) (ret := (some .int)) (by decide +kernel) rfl ?_
  intro p e s m args below meth c s₁ B hml hv
  obtain ⟨rfl, hP, hKN⟩ := hv
  have hK := hKN.1
  have hx := B.exec
  have hb := B.bytes
  have hr := B.returns
  have hts := atoms_spec (ws := wsX5_letterAt) B.pre
  have hown : s.vm.findClass RX5 = some m.cls := findClass_of_methodNamed B.named
  have hlocks := B.notSynchronized
  have hS : va_S (fun _ => False) s.heap s.heap [] := va_S.rf
  have hl := lv_entry ([.ref (ad 2), .int p1]) (n := 3) (Nat.le_of_ble_eq_true rfl)
  rw [lg_entry_eq]
  generalize (lg_sl ([.ref (ad 2), .int p1]) ++ List.replicate (3 - (lg_sl ([.ref (ad 2), .int p1])).length) Slot.unset).toArray = ls at hl ⊢
  have hl : lv_has ls 3 [(0, .ref (ad 2)), (1, .int p1)] := hl
  have hE : f_X5_letterAt V p1 = (if (V 2 0) ≤ p1 then (-1) else (if ((f_X4_at V 3 30 p1) - 97) < 0 then (-1) else (if 10 ≤ ((f_X4_at V 3 30 p1) - 97) then (-1) else ((f_X4_at V 3 30 p1) - 97)))) := rfl
  refine lv_iload_n hx hb dX5_letterAt_0 rfl (lv_at hl 1 rfl) ?_
  refine lv_aload_n hx hb dX5_letterAt_1 rfl (lv_at hl 0 rfl) ?_
  refine x_get (ci := 4) (fs := [.ref (ad 3), .int ((V 2) 0)]) (q := 2) (v := .int (V 2 0)) (N := 2) hx hb hts (fun _ h => List.mem_cons_of_mem _ (List.mem_append_right _ h)) hown hK hP (by decide) (ce_sc ad cI cB (V 2)) rfl 1 (by decide) (hts (.fieldLink RX5 15 "TurnedBoards$Script" "length" "I") (List.mem_of_getElem? (i := 1) rfl)) rfl rfl dX5_letterAt_2 ?_
  refine lv_icmp_ge (tgt := 22) hx hb dX5_letterAt_5 (by decide) (fun c1 => ?_) (fun c1 => ?_)
  · have hE := hE.trans (if_pos c1)
    refine lv_iconst (v := (-1)) hx hb dX5_letterAt_22 (by decide) ?_
    refine lv_istore_n (lv' := [(2, .int (-1)), (0, .ref (ad 2)), (1, .int p1)]) hx hb dX5_letterAt_23 rfl hl (by decide) rfl (fun ls hl => ?_)
    refine lv_iload_n hx hb dX5_letterAt_24 rfl (lv_at hl 0 rfl) ?_
    refine lv_if_lt (tgt := 38) hx hb dX5_letterAt_25 (by decide) (fun _ => ?_) (fun hc => absurd (by decide) hc)
    refine lv_iconst (v := (-1)) hx hb dX5_letterAt_38 (by decide) ?_
    exact W.iret (v := (-1)) hx hb hr (fun t ht hW => ⟨⟨(-1), (), rfl, hE.symm, trivial⟩, hS.F ht⟩) hS.2.2 dX5_letterAt_39
  · have hE := hE.trans (if_neg c1)
    refine lv_aload_n hx hb dX5_letterAt_8 rfl (lv_at hl 0 rfl) ?_
    refine x_get (ci := 4) (fs := [.ref (ad 3), .int ((V 2) 0)]) (q := 2) (v := .ref (ad 3)) (N := 2) hx hb hts (fun _ h => List.mem_cons_of_mem _ (List.mem_append_right _ h)) hown hK hP (by decide) (ce_sc ad cI cB (V 2)) rfl 0 (by decide) (hts (.fieldLink RX5 9 "TurnedBoards$Script" "characters" "[I") (List.mem_of_getElem? (i := 2) rfl)) rfl rfl dX5_letterAt_9 ?_
    refine lv_iload_n hx hb dX5_letterAt_12 rfl (lv_at hl 1 rfl) ?_
    refine k_SR (As := [.ref (ad 3), .int p1]) (rest := []) ⟨hx, hb, hml, hown, hts⟩ hKN hP hS (m_X4_at l D cI cB 54 (cellOf ad cI cB) ad V 3 30 p1 ⟨by decide, fun _ => rfl, by decide⟩) (va_cwS 2 hts gX5_letterAt_X4_at rfl rfl rfl (by decide +kernel) ⟨(Nat.le_of_ble_eq_true rfl), (Nat.le_of_ble_eq_true rfl)⟩) rfl hl.1 rfl (Nat.le_of_ble_eq_true rfl) dX5_letterAt_13 ⟨Nat.zero_le _, Nat.zero_le _⟩ (fun H locs hP hS => ?_)
    refine lv_bipush (v := 97) hx hb dX5_letterAt_16 (by decide) ?_
    refine lv_isub hx hb dX5_letterAt_18 ?_
    refine lv_goto (tgt := 23) hx hb dX5_letterAt_19 (by decide) ?_
    refine lv_istore_n (lv' := [(2, .int ((f_X4_at V 3 30 p1) - 97)), (0, .ref (ad 2)), (1, .int p1)]) hx hb dX5_letterAt_23 rfl hl (by decide) rfl (fun ls hl => ?_)
    refine lv_iload_n hx hb dX5_letterAt_24 rfl (lv_at hl 0 rfl) ?_
    refine lv_if_lt (tgt := 38) hx hb dX5_letterAt_25 (by decide) (fun c2 => ?_) (fun c2 => ?_)
    · have hE := hE.trans (if_pos c2)
      refine lv_iconst (v := (-1)) hx hb dX5_letterAt_38 (by decide) ?_
      exact W.iret (v := (-1)) hx hb hr (fun t ht hW => ⟨⟨(-1), (), rfl, hE.symm, trivial⟩, hS.F ht⟩) hS.2.2 dX5_letterAt_39
    · have hE := hE.trans (if_neg c2)
      refine lv_iload_n hx hb dX5_letterAt_28 rfl (lv_at hl 0 rfl) ?_
      refine lv_bipush (v := 10) hx hb dX5_letterAt_29 (by decide) ?_
      refine lv_icmp_ge (tgt := 38) hx hb dX5_letterAt_31 (by decide) (fun c3 => ?_) (fun c3 => ?_)
      · have hE := hE.trans (if_pos c3)
        refine lv_iconst (v := (-1)) hx hb dX5_letterAt_38 (by decide) ?_
        exact W.iret (v := (-1)) hx hb hr (fun t ht hW => ⟨⟨(-1), (), rfl, hE.symm, trivial⟩, hS.F ht⟩) hS.2.2 dX5_letterAt_39
      · have hE := hE.trans (if_neg c3)
        refine lv_iload_n hx hb dX5_letterAt_34 rfl (lv_at hl 0 rfl) ?_
        refine lv_goto (tgt := 39) hx hb dX5_letterAt_35 (by decide) ?_
        exact W.iret (v := ((f_X4_at V 3 30 p1) - 97)) hx hb hr (fun t ht hW => ⟨⟨((f_X4_at V 3 30 p1) - 97), (), rfl, hE.symm, trivial⟩, hS.F ht⟩) hS.2.2 dX5_letterAt_39
def f_X5_isSlash (V : VT) (p1 : Int32) : Int32 := (if (V 2 0) ≤ p1 then 0 else (if (f_X4_at V 3 30 p1) = 47 then 1 else 0))
set_option maxHeartbeats 4000000 in
set_option maxRecDepth 100000 in
theorem m_X5_isSlash (l : Launch) (D : va_G) (cI cB : ClassId) (ad : Nat → Nat) (V : VT) (p1 : Int32)  : Met l yX5_isSlash wsX5_isSlash ({ frames := 1, cells := 0, slots := 0, locals := 21 }) (cP D cI cB ad V [.ref (ad 2), .int p1]) (cR (f_X5_isSlash V p1)) 0 0 (fun _ => False) := by
  refine Met.ofW (cc := cX5_isSlash) (maxL := 2) (ret := (some .boolean)) (by decide +kernel) rfl ?_
  intro p e s m args below meth c s₁ B hml hv
  obtain ⟨rfl, hP, hKN⟩ := hv
  have hK := hKN.1
  have hx := B.exec
  have hb := B.bytes
  have hr := B.returns
  have hts := atoms_spec (ws := wsX5_isSlash) B.pre
  have hown : s.vm.findClass RX5 = some m.cls := findClass_of_methodNamed B.named
  have hlocks := B.notSynchronized
  have hS : va_S (fun _ => False) s.heap s.heap [] := va_S.rf
  have hl := lv_entry ([.ref (ad 2), .int p1]) (n := 2) (Nat.le_of_ble_eq_true rfl)
  rw [lg_entry_eq]
  generalize (lg_sl ([.ref (ad 2), .int p1]) ++ List.replicate (2 - (lg_sl ([.ref (ad 2), .int p1])).length) Slot.unset).toArray = ls at hl ⊢
  have hl : lv_has ls 2 [(0, .ref (ad 2)), (1, .int p1)] := hl
  have hE : f_X5_isSlash V p1 = (if (V 2 0) ≤ p1 then 0 else (if (f_X4_at V 3 30 p1) = 47 then 1 else 0)) := rfl
  refine lv_iload_n hx hb dX5_isSlash_0 rfl (lv_at hl 1 rfl) ?_
  refine lv_aload_n hx hb dX5_isSlash_1 rfl (lv_at hl 0 rfl) ?_
  refine x_get (ci := 4) (fs := [.ref (ad 3), .int ((V 2) 0)]) (q := 2) (v := .int (V 2 0)) (N := 2) hx hb hts (fun _ h => List.mem_cons_of_mem _ (List.mem_append_right _ h)) hown hK hP (by decide) (ce_sc ad cI cB (V 2)) rfl 1 (by decide) (hts (.fieldLink RX5 15 "TurnedBoards$Script" "length" "I") (List.mem_of_getElem? (i := 1) rfl)) rfl rfl dX5_isSlash_2 ?_
  refine lv_icmp_ge (tgt := 25) hx hb dX5_isSlash_5 (by decide) (fun c1 => ?_) (fun c1 => ?_)
  · have hE := hE.trans (if_pos c1)
    refine lv_iconst (v := 0) hx hb dX5_isSlash_25 (by decide) ?_
    exact W.zret (v := 0) hx hb hr rfl (fun t ht hW => ⟨⟨0, (), rfl, hE.symm, trivial⟩, hS.F ht⟩) hS.2.2 dX5_isSlash_26
  · have hE := hE.trans (if_neg c1)
    refine lv_aload_n hx hb dX5_isSlash_8 rfl (lv_at hl 0 rfl) ?_
    refine x_get (ci := 4) (fs := [.ref (ad 3), .int ((V 2) 0)]) (q := 2) (v := .ref (ad 3)) (N := 2) hx hb hts (fun _ h => List.mem_cons_of_mem _ (List.mem_append_right _ h)) hown hK hP (by decide) (ce_sc ad cI cB (V 2)) rfl 0 (by decide) (hts (.fieldLink RX5 9 "TurnedBoards$Script" "characters" "[I") (List.mem_of_getElem? (i := 2) rfl)) rfl rfl dX5_isSlash_9 ?_
    refine lv_iload_n hx hb dX5_isSlash_12 rfl (lv_at hl 1 rfl) ?_
    refine k_SR (As := [.ref (ad 3), .int p1]) (rest := []) ⟨hx, hb, hml, hown, hts⟩ hKN hP hS (m_X4_at l D cI cB 54 (cellOf ad cI cB) ad V 3 30 p1 ⟨by decide, fun _ => rfl, by decide⟩) (va_cwS 2 hts gX5_isSlash_X4_at rfl rfl rfl (by decide +kernel) ⟨(Nat.le_of_ble_eq_true rfl), (Nat.le_of_ble_eq_true rfl)⟩) rfl hl.1 rfl (Nat.le_of_ble_eq_true rfl) dX5_isSlash_13 ⟨Nat.zero_le _, Nat.zero_le _⟩ (fun H locs hP hS => ?_)
    refine lv_bipush (v := 47) hx hb dX5_isSlash_16 (by decide) ?_
    refine lv_icmp_ne (tgt := 25) hx hb dX5_isSlash_18 (by decide) (fun c2 => ?_) (fun c2 => ?_)
    · have hE := hE.trans (if_neg c2)
      refine lv_iconst (v := 0) hx hb dX5_isSlash_25 (by decide) ?_
      exact W.zret (v := 0) hx hb hr rfl (fun t ht hW => ⟨⟨0, (), rfl, hE.symm, trivial⟩, hS.F ht⟩) hS.2.2 dX5_isSlash_26
    · have hE := hE.trans (if_pos c2)
      refine lv_iconst (v := 1) hx hb dX5_isSlash_21 (by decide) ?_
      refine lv_goto (tgt := 26) hx hb dX5_isSlash_22 (by decide) ?_
      exact W.zret (v := 1) hx hb hr rfl (fun t ht hW => ⟨⟨1, (), rfl, hE.symm, trivial⟩, hS.F ht⟩) hS.2.2 dX5_isSlash_26
def f_X5_lettersFrom_l1 (fu : Nat) (V : VT) (p1 : Int32) : Nat → Int32 → Int32
  | 0, x2_1 => 0
  | w1 + 1, x2_1 => (if (V 2 0) ≤ x2_1 then (x2_1 - p1) else (if (f_X5_letterAt V x2_1) = (-1) then (x2_1 - p1) else (f_X5_lettersFrom_l1 fu V p1 w1 (x2_1 + 1))))
def p_X5_lettersFrom_l1 (fu : Nat) (V : VT) (p1 : Int32) : Nat → Int32 → Prop
  | 0, _ => False
  | w1 + 1, x2_1 => (((V 2 0) ≤ x2_1 → True) ∧ (¬ ((V 2 0) ≤ x2_1) → (((f_X5_letterAt V x2_1) = (-1) → True) ∧ (¬ ((f_X5_letterAt V x2_1) = (-1)) → (p_X5_lettersFrom_l1 fu V p1 w1 (x2_1 + 1))))))
def f_X5_lettersFrom (fu : Nat) (V : VT) (p1 : Int32) : Int32 := (f_X5_lettersFrom_l1 fu V p1 fu p1)
def p_X5_lettersFrom (fu : Nat) (V : VT) (p1 : Int32) : Prop := (p_X5_lettersFrom_l1 fu V p1 fu p1)
set_option maxHeartbeats 4000000 in
set_option maxRecDepth 100000 in
theorem m_X5_lettersFrom (l : Launch) (D : va_G) (cI cB : ClassId) (ad : Nat → Nat) (fu : Nat) (V : VT) (p1 : Int32)  (hp : p_X5_lettersFrom fu V p1) : Met l yX5_lettersFrom wsX5_lettersFrom ({ frames := 2, cells := 0, slots := 0, locals := 43 }) (cP D cI cB ad V [.ref (ad 2), .int p1]) (cR (f_X5_lettersFrom fu V p1)) 0 0 (fun _ => False) := by
  refine Met.ofW (cc := cX5_lettersFrom) (maxL := 3) (ret := (some .int)) (by decide +kernel) rfl ?_
  intro p e s m args below meth c s₁ B hml hv
  obtain ⟨rfl, hP, hKN⟩ := hv
  have hK := hKN.1
  have hx := B.exec
  have hb := B.bytes
  have hr := B.returns
  have hts := atoms_spec (ws := wsX5_lettersFrom) B.pre
  have hown : s.vm.findClass RX5 = some m.cls := findClass_of_methodNamed B.named
  have hlocks := B.notSynchronized
  have hS : va_S (fun _ => False) s.heap s.heap [] := va_S.rf
  have hl := lv_entry ([.ref (ad 2), .int p1]) (n := 3) (Nat.le_of_ble_eq_true rfl)
  rw [lg_entry_eq]
  generalize (lg_sl ([.ref (ad 2), .int p1]) ++ List.replicate (3 - (lg_sl ([.ref (ad 2), .int p1])).length) Slot.unset).toArray = ls at hl ⊢
  have hl : lv_has ls 3 [(0, .ref (ad 2)), (1, .int p1)] := hl
  have hE : f_X5_lettersFrom fu V p1 = (f_X5_lettersFrom_l1 fu V p1 fu p1) := rfl
  refine lv_iload_n hx hb dX5_lettersFrom_0 rfl (lv_at hl 1 rfl) ?_
  refine lv_istore_n (lv' := [(2, .int p1), (0, .ref (ad 2)), (1, .int p1)]) hx hb dX5_lettersFrom_1 rfl hl (by decide) rfl (fun ls hl => ?_)
  have L1 : ∀ (w1 : Nat) (x2_1 : Int32), f_X5_lettersFrom fu V p1 = f_X5_lettersFrom_l1 fu V p1 w1 x2_1 → p_X5_lettersFrom_l1 fu V p1 w1 x2_1 → ∀ (H : Heap) (locs : List Loc), wP D cI cB ad V H → va_S (fun _ => False) s.heap H locs → ∀ (ls : Array Slot), lv_has ls 3 [(0, .ref (ad 2)), (1, .int p1), (2, .int x2_1)] → W p l e (headSpec wsX5_lettersFrom ({ frames := 2, cells := 0, slots := 0, locals := 43 })).room s m ([.ref (ad 2), .int p1] : List Value).toArray below meth c H locs 0 0 (MQ below (cR (f_X5_lettersFrom fu V p1)) ([.ref (ad 2), .int p1] : List Value).toArray s 0 0 (fun _ => False)) (F0 m 2 ls []) := by
    intro w1
    induction w1 with
    | zero => intro x2_1 hE hp; exact hp.elim
    | succ w1 ih1 =>
      intro x2_1 hE hp H locs hP hS ls hl
      rw [f_X5_lettersFrom_l1] at hE
      rw [p_X5_lettersFrom_l1] at hp
      refine lv_iload_n hx hb dX5_lettersFrom_2 rfl (lv_at hl 2 rfl) ?_
      refine lv_aload_n hx hb dX5_lettersFrom_3 rfl (lv_at hl 0 rfl) ?_
      refine x_get (ci := 4) (fs := [.ref (ad 3), .int ((V 2) 0)]) (q := 2) (v := .int (V 2 0)) (N := 2) hx hb hts (fun _ h => List.mem_cons_of_mem _ (List.mem_append_right _ h)) hown hK hP (by decide) (ce_sc ad cI cB (V 2)) rfl 1 (by decide) (hts (.fieldLink RX5 15 "TurnedBoards$Script" "length" "I") (List.mem_of_getElem? (i := 1) rfl)) rfl rfl dX5_lettersFrom_4 ?_
      refine lv_icmp_ge (tgt := 25) hx hb dX5_lettersFrom_7 (by decide) (fun c1 => ?_) (fun c1 => ?_)
      · have hE := hE.trans (if_pos c1)
        refine lv_iload_n hx hb dX5_lettersFrom_25 rfl (lv_at hl 2 rfl) ?_
        refine lv_iload_n hx hb dX5_lettersFrom_26 rfl (lv_at hl 1 rfl) ?_
        refine lv_isub hx hb dX5_lettersFrom_27 ?_
        exact W.iret (v := (x2_1 - p1)) hx hb hr (fun t ht hW => ⟨⟨(x2_1 - p1), (), rfl, hE.symm, trivial⟩, hS.F ht⟩) hS.2.2 dX5_lettersFrom_28
      · have hE := hE.trans (if_neg c1)
        have hp := pc_bn hp c1
        refine lv_aload_n hx hb dX5_lettersFrom_10 rfl (lv_at hl 0 rfl) ?_
        refine lv_iload_n hx hb dX5_lettersFrom_11 rfl (lv_at hl 2 rfl) ?_
        refine k_VR (As := [.int x2_1]) (rest := []) (q := 2) ⟨hx, hb, hml, hown, hts⟩ hKN hP hS (m_X5_letterAt l D cI cB ad V x2_1) (cwV 1 hts gX5_lettersFrom_X5_letterAt rfl rfl rfl (by decide +kernel) ⟨(Nat.le_of_ble_eq_true rfl), (Nat.le_of_ble_eq_true rfl)⟩) (c_preV hP hKN (q := 2) (ci := 4) (fs := [.ref (ad 3), .int ((V 2) 0)]) (by decide) (ce_sc ad cI cB (V 2)) rfl rfl) rfl hl.1 rfl (Nat.le_of_ble_eq_true rfl) dX5_lettersFrom_12 ⟨Nat.zero_le _, Nat.zero_le _⟩ (fun H locs hP hS => ?_)
        refine lv_iconst (v := (-1)) hx hb dX5_lettersFrom_15 (by decide) ?_
        refine lv_icmp_eq (tgt := 25) hx hb dX5_lettersFrom_16 (by decide) (fun c2 => ?_) (fun c2 => ?_)
        · have hE := hE.trans (if_pos c2)
          refine lv_iload_n hx hb dX5_lettersFrom_25 rfl (lv_at hl 2 rfl) ?_
          refine lv_iload_n hx hb dX5_lettersFrom_26 rfl (lv_at hl 1 rfl) ?_
          refine lv_isub hx hb dX5_lettersFrom_27 ?_
          exact W.iret (v := (x2_1 - p1)) hx hb hr (fun t ht hW => ⟨⟨(x2_1 - p1), (), rfl, hE.symm, trivial⟩, hS.F ht⟩) hS.2.2 dX5_lettersFrom_28
        · have hE := hE.trans (if_neg c2)
          have hp := pc_bn hp c2
          refine lv_iinc (v := (x2_1 + 1)) (lv' := [(2, .int (x2_1 + 1)), (0, .ref (ad 2)), (1, .int p1)]) hx hb dX5_lettersFrom_19 hl (k := 2) rfl (by rfl) (by decide) rfl (fun ls hl => ?_)
          refine lv_goto (tgt := 2) hx hb dX5_lettersFrom_22 (by decide) ?_
          exact ih1 (x2_1 + 1) hE hp H locs hP hS ls (lv_sub hl [1, 2, 0] rfl)
  exact L1 fu p1 hE hp _ _ hP hS _ (lv_sub hl [1, 2, 0] rfl)
def f_X5_firstLength (fu : Nat) (V : VT)  : Int32 := (f_X5_lettersFrom fu V 0)
def p_X5_firstLength (fu : Nat) (V : VT)  : Prop := (p_X5_lettersFrom fu V 0)
set_option maxHeartbeats 4000000 in
set_option maxRecDepth 100000 in
theorem m_X5_firstLength (l : Launch) (D : va_G) (cI cB : ClassId) (ad : Nat → Nat) (fu : Nat) (V : VT)   (hp : p_X5_firstLength fu V ) : Met l yX5_firstLength wsX5_firstLength ({ frames := 3, cells := 0, slots := 0, locals := 65 }) (cP D cI cB ad V [.ref (ad 2)]) (cR (f_X5_firstLength fu V)) 0 0 (fun _ => False) := by
  refine Met.ofW (cc := cX5_firstLength) (maxL := 1) (ret := (some .int)) (by decide +kernel) rfl ?_
  intro p e s m args below meth c s₁ B hml hv
  obtain ⟨rfl, hP, hKN⟩ := hv
  have hK := hKN.1
  have hx := B.exec
  have hb := B.bytes
  have hr := B.returns
  have hts := atoms_spec (ws := wsX5_firstLength) B.pre
  have hown : s.vm.findClass RX5 = some m.cls := findClass_of_methodNamed B.named
  have hlocks := B.notSynchronized
  have hS : va_S (fun _ => False) s.heap s.heap [] := va_S.rf
  have hl := lv_entry ([.ref (ad 2)]) (n := 1) (Nat.le_of_ble_eq_true rfl)
  rw [lg_entry_eq]
  generalize (lg_sl ([.ref (ad 2)]) ++ List.replicate (1 - (lg_sl ([.ref (ad 2)])).length) Slot.unset).toArray = ls at hl ⊢
  have hl : lv_has ls 1 [(0, .ref (ad 2))] := hl
  have hE : f_X5_firstLength fu V = (f_X5_lettersFrom fu V 0) := rfl
  refine lv_aload_n hx hb dX5_firstLength_0 rfl (lv_at hl 0 rfl) ?_
  refine lv_iconst (v := 0) hx hb dX5_firstLength_1 (by decide) ?_
  have hn1 := hp
  refine k_VR (As := [.int 0]) (rest := []) (q := 2) ⟨hx, hb, hml, hown, hts⟩ hKN hP hS (m_X5_lettersFrom l D cI cB ad fu V 0 hn1) (cwV 1 hts gX5_firstLength_X5_lettersFrom rfl rfl rfl (by decide +kernel) ⟨(Nat.le_of_ble_eq_true rfl), (Nat.le_of_ble_eq_true rfl)⟩) (c_preV hP hKN (q := 2) (ci := 4) (fs := [.ref (ad 3), .int ((V 2) 0)]) (by decide) (ce_sc ad cI cB (V 2)) rfl rfl) rfl hl.1 rfl (Nat.le_of_ble_eq_true rfl) dX5_firstLength_2 ⟨Nat.zero_le _, Nat.zero_le _⟩ (fun H locs hP hS => ?_)
  exact W.iret (v := (f_X5_lettersFrom fu V 0)) hx hb hr (fun t ht hW => ⟨⟨(f_X5_lettersFrom fu V 0), (), rfl, hE.symm, trivial⟩, hS.F ht⟩) hS.2.2 dX5_firstLength_5
def f_X5_formFault (fu : Nat) (V : VT)  : Int32 := (if (f_X5_firstLength fu V) ≤ 8 then (if (f_X5_firstLength fu V) = 0 then (f_X5_codeOf V (f_X5_firstLength fu V) 1) else (if (f_X5_isSlash V (f_X5_firstLength fu V)) = 0 then (f_X5_codeOf V (f_X5_firstLength fu V) 1) else (if (f_X5_lettersFrom fu V ((f_X5_firstLength fu V) + 1)) = (f_X5_firstLength fu V) then (if (((f_X5_firstLength fu V) + 1) + (if (f_X5_lettersFrom fu V ((f_X5_firstLength fu V) + 1)) < (f_X5_firstLength fu V) then (f_X5_lettersFrom fu V ((f_X5_firstLength fu V) + 1)) else (f_X5_firstLength fu V))) = (V 2 0) then (-1) else (f_X5_codeOf V (((f_X5_firstLength fu V) + 1) + (if (f_X5_lettersFrom fu V ((f_X5_firstLength fu V) + 1)) < (f_X5_firstLength fu V) then (f_X5_lettersFrom fu V ((f_X5_firstLength fu V) + 1)) else (f_X5_firstLength fu V))) 1)) else (f_X5_codeOf V (((f_X5_firstLength fu V) + 1) + (if (f_X5_lettersFrom fu V ((f_X5_firstLength fu V) + 1)) < (f_X5_firstLength fu V) then (f_X5_lettersFrom fu V ((f_X5_firstLength fu V) + 1)) else (f_X5_firstLength fu V))) 1)))) else (f_X5_codeOf V 8 2))
def p_X5_formFault (fu : Nat) (V : VT)  : Prop := ((p_X5_firstLength fu V ) ∧ (((f_X5_firstLength fu V) ≤ 8 → (((f_X5_firstLength fu V) = 0 → True) ∧ (¬ ((f_X5_firstLength fu V) = 0) → (((f_X5_isSlash V (f_X5_firstLength fu V)) = 0 → True) ∧ (¬ ((f_X5_isSlash V (f_X5_firstLength fu V)) = 0) → (p_X5_lettersFrom fu V ((f_X5_firstLength fu V) + 1))))))) ∧ (¬ ((f_X5_firstLength fu V) ≤ 8) → True)))
set_option maxHeartbeats 4000000 in
set_option maxRecDepth 100000 in
theorem m_X5_formFault (l : Launch) (D : va_G) (cI cB : ClassId) (ad : Nat → Nat) (fu : Nat) (V : VT)   (hp : p_X5_formFault fu V ) : Met l yX5_formFault wsX5_formFault ({ frames := 4, cells := 0, slots := 0, locals := 85 }) (cP D cI cB ad V [.ref (ad 2)]) (cR (f_X5_formFault fu V)) 0 0 (fun _ => False) := by
  refine Met.ofW (cc := cX5_formFault) (maxL := 4) (ret := (some .int)) (by decide +kernel) rfl ?_
  intro p e s m args below meth c s₁ B hml hv
  obtain ⟨rfl, hP, hKN⟩ := hv
  have hK := hKN.1
  have hx := B.exec
  have hb := B.bytes
  have hr := B.returns
  have hts := atoms_spec (ws := wsX5_formFault) B.pre
  have hown : s.vm.findClass RX5 = some m.cls := findClass_of_methodNamed B.named
  have hlocks := B.notSynchronized
  have hS : va_S (fun _ => False) s.heap s.heap [] := va_S.rf
  have hl := lv_entry ([.ref (ad 2)]) (n := 4) (Nat.le_of_ble_eq_true rfl)
  rw [lg_entry_eq]
  generalize (lg_sl ([.ref (ad 2)]) ++ List.replicate (4 - (lg_sl ([.ref (ad 2)])).length) Slot.unset).toArray = ls at hl ⊢
  have hl : lv_has ls 4 [(0, .ref (ad 2))] := hl
  have hE : f_X5_formFault fu V = (if (f_X5_firstLength fu V) ≤ 8 then (if (f_X5_firstLength fu V) = 0 then (f_X5_codeOf V (f_X5_firstLength fu V) 1) else (if (f_X5_isSlash V (f_X5_firstLength fu V)) = 0 then (f_X5_codeOf V (f_X5_firstLength fu V) 1) else (if (f_X5_lettersFrom fu V ((f_X5_firstLength fu V) + 1)) = (f_X5_firstLength fu V) then (if (((f_X5_firstLength fu V) + 1) + (if (f_X5_lettersFrom fu V ((f_X5_firstLength fu V) + 1)) < (f_X5_firstLength fu V) then (f_X5_lettersFrom fu V ((f_X5_firstLength fu V) + 1)) else (f_X5_firstLength fu V))) = (V 2 0) then (-1) else (f_X5_codeOf V (((f_X5_firstLength fu V) + 1) + (if (f_X5_lettersFrom fu V ((f_X5_firstLength fu V) + 1)) < (f_X5_firstLength fu V) then (f_X5_lettersFrom fu V ((f_X5_firstLength fu V) + 1)) else (f_X5_firstLength fu V))) 1)) else (f_X5_codeOf V (((f_X5_firstLength fu V) + 1) + (if (f_X5_lettersFrom fu V ((f_X5_firstLength fu V) + 1)) < (f_X5_firstLength fu V) then (f_X5_lettersFrom fu V ((f_X5_firstLength fu V) + 1)) else (f_X5_firstLength fu V))) 1)))) else (f_X5_codeOf V 8 2)) := rfl
  refine lv_aload_n hx hb dX5_formFault_0 rfl (lv_at hl 0 rfl) ?_
  obtain ⟨hn1, hp⟩ := hp
  refine k_VR (As := []) (rest := []) (q := 2) ⟨hx, hb, hml, hown, hts⟩ hKN hP hS (m_X5_firstLength l D cI cB ad fu V hn1) (cwV 0 hts gX5_formFault_X5_firstLength rfl rfl rfl (by decide +kernel) ⟨(Nat.le_of_ble_eq_true rfl), (Nat.le_of_ble_eq_true rfl)⟩) (c_preV hP hKN (q := 2) (ci := 4) (fs := [.ref (ad 3), .int ((V 2) 0)]) (by decide) (ce_sc ad cI cB (V 2)) rfl rfl) rfl hl.1 rfl (Nat.le_of_ble_eq_true rfl) dX5_formFault_1 ⟨Nat.zero_le _, Nat.zero_le _⟩ (fun H locs hP hS => ?_)
  refine lv_istore_n (lv' := [(1, .int (f_X5_firstLength fu V)), (0, .ref (ad 2))]) hx hb dX5_formFault_4 rfl hl (by decide) rfl (fun ls hl => ?_)
  refine lv_iload_n hx hb dX5_formFault_5 rfl (lv_at hl 0 rfl) ?_
  refine lv_bipush (v := 8) hx hb dX5_formFault_6 (by decide) ?_
  refine lv_icmp_le (tgt := 18) hx hb dX5_formFault_8 (by decide) (fun c1 => ?_) (fun c1 => ?_)
  · have hE := hE.trans (if_pos c1)
    have hp := pc_br hp c1
    refine lv_iload_n hx hb dX5_formFault_18 rfl (lv_at hl 0 rfl) ?_
    refine lv_if_eq (tgt := 30) hx hb dX5_formFault_19 (by decide) (fun c2 => ?_) (fun c2 => ?_)
    · have hE := hE.trans (if_pos c2)
      refine lv_iload_n hx hb dX5_formFault_30 rfl (lv_at hl 0 rfl) ?_
      refine lv_iconst (v := 1) hx hb dX5_formFault_31 (by decide) ?_
      refine k_SR (As := [.int (f_X5_firstLength fu V), .int 1]) (rest := []) ⟨hx, hb, hml, hown, hts⟩ hKN hP hS (m_X5_codeOf l D cI cB ad V (f_X5_firstLength fu V) 1) (va_cwS 2 hts gX5_formFault_X5_codeOf rfl rfl rfl (by decide +kernel) ⟨(Nat.le_of_ble_eq_true rfl), (Nat.le_of_ble_eq_true rfl)⟩) rfl hl.1 rfl (Nat.le_of_ble_eq_true rfl) dX5_formFault_32 ⟨Nat.zero_le _, Nat.zero_le _⟩ (fun H locs hP hS => ?_)
      exact W.iret (v := (f_X5_codeOf V (f_X5_firstLength fu V) 1)) hx hb hr (fun t ht hW => ⟨⟨(f_X5_codeOf V (f_X5_firstLength fu V) 1), (), rfl, hE.symm, trivial⟩, hS.F ht⟩) hS.2.2 dX5_formFault_35
    · have hE := hE.trans (if_neg c2)
      have hp := pc_bn hp c2
      refine lv_aload_n hx hb dX5_formFault_22 rfl (lv_at hl 1 rfl) ?_
      refine lv_iload_n hx hb dX5_formFault_23 rfl (lv_at hl 0 rfl) ?_
      refine k_VR (As := [.int (f_X5_firstLength fu V)]) (rest := []) (q := 2) ⟨hx, hb, hml, hown, hts⟩ hKN hP hS (m_X5_isSlash l D cI cB ad V (f_X5_firstLength fu V)) (cwV 1 hts gX5_formFault_X5_isSlash rfl rfl rfl (by decide +kernel) ⟨(Nat.le_of_ble_eq_true rfl), (Nat.le_of_ble_eq_true rfl)⟩) (c_preV hP hKN (q := 2) (ci := 4) (fs := [.ref (ad 3), .int ((V 2) 0)]) (by decide) (ce_sc ad cI cB (V 2)) rfl rfl) rfl hl.1 rfl (Nat.le_of_ble_eq_true rfl) dX5_formFault_24 ⟨Nat.zero_le _, Nat.zero_le _⟩ (fun H locs hP hS => ?_)
      refine lv_if_ne (tgt := 36) hx hb dX5_formFault_27 (by decide) (fun c3 => ?_) (fun c3 => ?_)
      · have hE := hE.trans (if_neg c3)
        have hp := pc_bn hp c3
        refine lv_aload_n hx hb dX5_formFault_36 rfl (lv_at hl 1 rfl) ?_
        refine lv_iload_n hx hb dX5_formFault_37 rfl (lv_at hl 0 rfl) ?_
        refine lv_iconst (v := 1) hx hb dX5_formFault_38 (by decide) ?_
        refine lv_iadd hx hb dX5_formFault_39 ?_
        have hn2 := hp
        refine k_VR (As := [.int ((f_X5_firstLength fu V) + 1)]) (rest := []) (q := 2) ⟨hx, hb, hml, hown, hts⟩ hKN hP hS (m_X5_lettersFrom l D cI cB ad fu V ((f_X5_firstLength fu V) + 1) hn2) (cwV 1 hts gX5_formFault_X5_lettersFrom rfl rfl rfl (by decide +kernel) ⟨(Nat.le_of_ble_eq_true rfl), (Nat.le_of_ble_eq_true rfl)⟩) (c_preV hP hKN (q := 2) (ci := 4) (fs := [.ref (ad 3), .int ((V 2) 0)]) (by decide) (ce_sc ad cI cB (V 2)) rfl rfl) rfl hl.1 rfl (Nat.le_of_ble_eq_true rfl) dX5_formFault_40 ⟨Nat.zero_le _, Nat.zero_le _⟩ (fun H locs hP hS => ?_)
        refine lv_istore_n (lv' := [(2, .int (f_X5_lettersFrom fu V ((f_X5_firstLength fu V) + 1))), (1, .int (f_X5_firstLength fu V)), (0, .ref (ad 2))]) hx hb dX5_formFault_43 rfl hl (by decide) rfl (fun ls hl => ?_)
        refine lv_iload_n hx hb dX5_formFault_44 rfl (lv_at hl 1 rfl) ?_
        refine lv_iconst (v := 1) hx hb dX5_formFault_45 (by decide) ?_
        refine lv_iadd hx hb dX5_formFault_46 ?_
        refine lv_iload_n hx hb dX5_formFault_47 rfl (lv_at hl 1 rfl) ?_
        refine lv_iload_n hx hb dX5_formFault_48 rfl (lv_at hl 0 rfl) ?_
        refine va_mmin hx hb (hml.trans hl.1.symm) hown (hts (.methodLink RX5 51 Lib.Math.min.name) (List.mem_of_getElem? (i := 1) rfl)) (hts (.static Lib.Math.min.name) (List.mem_of_getElem? (i := 2) rfl)) (hts (.initialized "java/lang/Math") (List.mem_of_getElem? (i := 3) rfl)) (hts (.code Lib.Math.min.name Lib.Math.min.code 2 (some .int)) (List.mem_of_getElem? (i := 4) rfl)) (Nat.le_of_ble_eq_true rfl) (Nat.le_of_ble_eq_true rfl) (Nat.zero_le _) (Nat.zero_le _) dX5_formFault_49 ?_
        refine lv_iadd hx hb dX5_formFault_52 ?_
        refine lv_istore_n (lv' := [(3, .int (((f_X5_firstLength fu V) + 1) + (if (f_X5_lettersFrom fu V ((f_X5_firstLength fu V) + 1)) < (f_X5_firstLength fu V) then (f_X5_lettersFrom fu V ((f_X5_firstLength fu V) + 1)) else (f_X5_firstLength fu V)))), (2, .int (f_X5_lettersFrom fu V ((f_X5_firstLength fu V) + 1))), (1, .int (f_X5_firstLength fu V)), (0, .ref (ad 2))]) hx hb dX5_formFault_53 rfl hl (by decide) rfl (fun ls hl => ?_)
        refine lv_iload_n hx hb dX5_formFault_54 rfl (lv_at hl 1 rfl) ?_
        refine lv_iload_n hx hb dX5_formFault_55 rfl (lv_at hl 2 rfl) ?_
        refine lv_icmp_ne (tgt := 71) hx hb dX5_formFault_56 (by decide) (fun c4 => ?_) (fun c4 => ?_)
        · have hE := hE.trans (if_neg c4)
          refine lv_iload_n hx hb dX5_formFault_71 rfl (lv_at hl 0 rfl) ?_
          refine lv_iconst (v := 1) hx hb dX5_formFault_72 (by decide) ?_
          refine k_SR (As := [.int (((f_X5_firstLength fu V) + 1) + (if (f_X5_lettersFrom fu V ((f_X5_firstLength fu V) + 1)) < (f_X5_firstLength fu V) then (f_X5_lettersFrom fu V ((f_X5_firstLength fu V) + 1)) else (f_X5_firstLength fu V))), .int 1]) (rest := []) ⟨hx, hb, hml, hown, hts⟩ hKN hP hS (m_X5_codeOf l D cI cB ad V (((f_X5_firstLength fu V) + 1) + (if (f_X5_lettersFrom fu V ((f_X5_firstLength fu V) + 1)) < (f_X5_firstLength fu V) then (f_X5_lettersFrom fu V ((f_X5_firstLength fu V) + 1)) else (f_X5_firstLength fu V))) 1) (va_cwS 2 hts gX5_formFault_X5_codeOf rfl rfl rfl (by decide +kernel) ⟨(Nat.le_of_ble_eq_true rfl), (Nat.le_of_ble_eq_true rfl)⟩) rfl hl.1 rfl (Nat.le_of_ble_eq_true rfl) dX5_formFault_73 ⟨Nat.zero_le _, Nat.zero_le _⟩ (fun H locs hP hS => ?_)
          exact W.iret (v := (f_X5_codeOf V (((f_X5_firstLength fu V) + 1) + (if (f_X5_lettersFrom fu V ((f_X5_firstLength fu V) + 1)) < (f_X5_firstLength fu V) then (f_X5_lettersFrom fu V ((f_X5_firstLength fu V) + 1)) else (f_X5_firstLength fu V))) 1)) hx hb hr (fun t ht hW => ⟨⟨(f_X5_codeOf V (((f_X5_firstLength fu V) + 1) + (if (f_X5_lettersFrom fu V ((f_X5_firstLength fu V) + 1)) < (f_X5_firstLength fu V) then (f_X5_lettersFrom fu V ((f_X5_firstLength fu V) + 1)) else (f_X5_firstLength fu V))) 1), (), rfl, hE.symm, trivial⟩, hS.F ht⟩) hS.2.2 dX5_formFault_76
        · have hE := hE.trans (if_pos c4)
          refine lv_iload_n hx hb dX5_formFault_59 rfl (lv_at hl 0 rfl) ?_
          refine lv_aload_n hx hb dX5_formFault_60 rfl (lv_at hl 3 rfl) ?_
          refine x_get (ci := 4) (fs := [.ref (ad 3), .int ((V 2) 0)]) (q := 2) (v := .int (V 2 0)) (N := 2) hx hb hts (fun _ h => List.mem_cons_of_mem _ (List.mem_append_right _ h)) hown hK hP (by decide) (ce_sc ad cI cB (V 2)) rfl 1 (by decide) (hts (.fieldLink RX5 15 "TurnedBoards$Script" "length" "I") (List.mem_of_getElem? (i := 5) rfl)) rfl rfl dX5_formFault_61 ?_
          refine lv_icmp_ne (tgt := 71) hx hb dX5_formFault_64 (by decide) (fun c5 => ?_) (fun c5 => ?_)
          · have hE := hE.trans (if_neg c5)
            refine lv_iload_n hx hb dX5_formFault_71 rfl (lv_at hl 0 rfl) ?_
            refine lv_iconst (v := 1) hx hb dX5_formFault_72 (by decide) ?_
            refine k_SR (As := [.int (((f_X5_firstLength fu V) + 1) + (if (f_X5_lettersFrom fu V ((f_X5_firstLength fu V) + 1)) < (f_X5_firstLength fu V) then (f_X5_lettersFrom fu V ((f_X5_firstLength fu V) + 1)) else (f_X5_firstLength fu V))), .int 1]) (rest := []) ⟨hx, hb, hml, hown, hts⟩ hKN hP hS (m_X5_codeOf l D cI cB ad V (((f_X5_firstLength fu V) + 1) + (if (f_X5_lettersFrom fu V ((f_X5_firstLength fu V) + 1)) < (f_X5_firstLength fu V) then (f_X5_lettersFrom fu V ((f_X5_firstLength fu V) + 1)) else (f_X5_firstLength fu V))) 1) (va_cwS 2 hts gX5_formFault_X5_codeOf rfl rfl rfl (by decide +kernel) ⟨(Nat.le_of_ble_eq_true rfl), (Nat.le_of_ble_eq_true rfl)⟩) rfl hl.1 rfl (Nat.le_of_ble_eq_true rfl) dX5_formFault_73 ⟨Nat.zero_le _, Nat.zero_le _⟩ (fun H locs hP hS => ?_)
            exact W.iret (v := (f_X5_codeOf V (((f_X5_firstLength fu V) + 1) + (if (f_X5_lettersFrom fu V ((f_X5_firstLength fu V) + 1)) < (f_X5_firstLength fu V) then (f_X5_lettersFrom fu V ((f_X5_firstLength fu V) + 1)) else (f_X5_firstLength fu V))) 1)) hx hb hr (fun t ht hW => ⟨⟨(f_X5_codeOf V (((f_X5_firstLength fu V) + 1) + (if (f_X5_lettersFrom fu V ((f_X5_firstLength fu V) + 1)) < (f_X5_firstLength fu V) then (f_X5_lettersFrom fu V ((f_X5_firstLength fu V) + 1)) else (f_X5_firstLength fu V))) 1), (), rfl, hE.symm, trivial⟩, hS.F ht⟩) hS.2.2 dX5_formFault_76
          · have hE := hE.trans (if_pos c5)
            refine lv_iconst (v := (-1)) hx hb dX5_formFault_67 (by decide) ?_
            refine lv_goto (tgt := 76) hx hb dX5_formFault_68 (by decide) ?_
            exact W.iret (v := (-1)) hx hb hr (fun t ht hW => ⟨⟨(-1), (), rfl, hE.symm, trivial⟩, hS.F ht⟩) hS.2.2 dX5_formFault_76
      · have hE := hE.trans (if_pos c3)
        refine lv_iload_n hx hb dX5_formFault_30 rfl (lv_at hl 0 rfl) ?_
        refine lv_iconst (v := 1) hx hb dX5_formFault_31 (by decide) ?_
        refine k_SR (As := [.int (f_X5_firstLength fu V), .int 1]) (rest := []) ⟨hx, hb, hml, hown, hts⟩ hKN hP hS (m_X5_codeOf l D cI cB ad V (f_X5_firstLength fu V) 1) (va_cwS 2 hts gX5_formFault_X5_codeOf rfl rfl rfl (by decide +kernel) ⟨(Nat.le_of_ble_eq_true rfl), (Nat.le_of_ble_eq_true rfl)⟩) rfl hl.1 rfl (Nat.le_of_ble_eq_true rfl) dX5_formFault_32 ⟨Nat.zero_le _, Nat.zero_le _⟩ (fun H locs hP hS => ?_)
        exact W.iret (v := (f_X5_codeOf V (f_X5_firstLength fu V) 1)) hx hb hr (fun t ht hW => ⟨⟨(f_X5_codeOf V (f_X5_firstLength fu V) 1), (), rfl, hE.symm, trivial⟩, hS.F ht⟩) hS.2.2 dX5_formFault_35
  · have hE := hE.trans (if_neg c1)
    refine lv_bipush (v := 8) hx hb dX5_formFault_11 (by decide) ?_
    refine lv_iconst (v := 2) hx hb dX5_formFault_13 (by decide) ?_
    refine k_SR (As := [.int 8, .int 2]) (rest := []) ⟨hx, hb, hml, hown, hts⟩ hKN hP hS (m_X5_codeOf l D cI cB ad V 8 2) (va_cwS 2 hts gX5_formFault_X5_codeOf rfl rfl rfl (by decide +kernel) ⟨(Nat.le_of_ble_eq_true rfl), (Nat.le_of_ble_eq_true rfl)⟩) rfl hl.1 rfl (Nat.le_of_ble_eq_true rfl) dX5_formFault_14 ⟨Nat.zero_le _, Nat.zero_le _⟩ (fun H locs hP hS => ?_)
    exact W.iret (v := (f_X5_codeOf V 8 2)) hx hb hr (fun t ht hW => ⟨⟨(f_X5_codeOf V 8 2), (), rfl, hE.symm, trivial⟩, hS.F ht⟩) hS.2.2 dX5_formFault_17
def f_X5_undrawnFault_l1 (fu : Nat) (V : VT) (j2 : Nat) : Nat → Int32 → Int32
  | 0, x2_1 => 0
  | w1 + 1, x2_1 => (if (V 2 0) ≤ x2_1 then (-1) else (if (f_X5_letterAt V x2_1) = (-1) then (f_X5_undrawnFault_l1 fu V j2 w1 (x2_1 + 1)) else (if (f_X3_has V j2 (f_X5_letterAt V x2_1)) = 0 then (f_X5_codeOf V x2_1 3) else (f_X5_undrawnFault_l1 fu V j2 w1 (x2_1 + 1)))))
def p_X5_undrawnFault_l1 (fu : Nat) (V : VT) (j2 : Nat) : Nat → Int32 → Prop
  | 0, _ => False
  | w1 + 1, x2_1 => (((V 2 0) ≤ x2_1 → True) ∧ (¬ ((V 2 0) ≤ x2_1) → (((f_X5_letterAt V x2_1) = (-1) → (p_X5_undrawnFault_l1 fu V j2 w1 (x2_1 + 1))) ∧ (¬ ((f_X5_letterAt V x2_1) = (-1)) → (((f_X3_has V j2 (f_X5_letterAt V x2_1)) = 0 → True) ∧ (¬ ((f_X3_has V j2 (f_X5_letterAt V x2_1)) = 0) → (p_X5_undrawnFault_l1 fu V j2 w1 (x2_1 + 1))))))))
def f_X5_undrawnFault (fu : Nat) (V : VT) (j2 : Nat) : Int32 := (f_X5_undrawnFault_l1 fu V j2 fu 0)
def p_X5_undrawnFault (fu : Nat) (V : VT) (j2 : Nat) : Prop := (p_X5_undrawnFault_l1 fu V j2 fu 0)
set_option maxHeartbeats 4000000 in
set_option maxRecDepth 100000 in
theorem m_X5_undrawnFault (l : Launch) (D : va_G) (cI cB : ClassId) (ad : Nat → Nat) (fu : Nat) (V : VT) (j2 : Nat) (hj2 : j2 < 6) (hp : p_X5_undrawnFault fu V j2) : Met l yX5_undrawnFault wsX5_undrawnFault ({ frames := 2, cells := 0, slots := 0, locals := 43 }) (cP D cI cB ad V [.ref (ad 2), .ref (ad (6 + 7 * j2 + 1))]) (cR (f_X5_undrawnFault fu V j2)) 0 0 (fun _ => False) := by
  refine Met.ofW (cc := cX5_undrawnFault) (maxL := 4) (ret := (some .int)) (by decide +kernel) rfl ?_
  intro p e s m args below meth c s₁ B hml hv
  obtain ⟨rfl, hP, hKN⟩ := hv
  have hK := hKN.1
  have hx := B.exec
  have hb := B.bytes
  have hr := B.returns
  have hts := atoms_spec (ws := wsX5_undrawnFault) B.pre
  have hown : s.vm.findClass RX5 = some m.cls := findClass_of_methodNamed B.named
  have hlocks := B.notSynchronized
  have hS : va_S (fun _ => False) s.heap s.heap [] := va_S.rf
  have hl := lv_entry ([.ref (ad 2), .ref (ad (6 + 7 * j2 + 1))]) (n := 4) (Nat.le_of_ble_eq_true rfl)
  rw [lg_entry_eq]
  generalize (lg_sl ([.ref (ad 2), .ref (ad (6 + 7 * j2 + 1))]) ++ List.replicate (4 - (lg_sl ([.ref (ad 2), .ref (ad (6 + 7 * j2 + 1))])).length) Slot.unset).toArray = ls at hl ⊢
  have hl : lv_has ls 4 [(0, .ref (ad 2)), (1, .ref (ad (6 + 7 * j2 + 1)))] := hl
  have hE : f_X5_undrawnFault fu V j2 = (f_X5_undrawnFault_l1 fu V j2 fu 0) := rfl
  refine lv_iconst (v := 0) hx hb dX5_undrawnFault_0 (by decide) ?_
  refine lv_istore_n (lv' := [(2, .int 0), (0, .ref (ad 2)), (1, .ref (ad (6 + 7 * j2 + 1)))]) hx hb dX5_undrawnFault_1 rfl hl (by decide) rfl (fun ls hl => ?_)
  have L1 : ∀ (w1 : Nat) (x2_1 : Int32), f_X5_undrawnFault fu V j2 = f_X5_undrawnFault_l1 fu V j2 w1 x2_1 → p_X5_undrawnFault_l1 fu V j2 w1 x2_1 → ∀ (H : Heap) (locs : List Loc), wP D cI cB ad V H → va_S (fun _ => False) s.heap H locs → ∀ (ls : Array Slot), lv_has ls 4 [(0, .ref (ad 2)), (1, .ref (ad (6 + 7 * j2 + 1))), (2, .int x2_1)] → W p l e (headSpec wsX5_undrawnFault ({ frames := 2, cells := 0, slots := 0, locals := 43 })).room s m ([.ref (ad 2), .ref (ad (6 + 7 * j2 + 1))] : List Value).toArray below meth c H locs 0 0 (MQ below (cR (f_X5_undrawnFault fu V j2)) ([.ref (ad 2), .ref (ad (6 + 7 * j2 + 1))] : List Value).toArray s 0 0 (fun _ => False)) (F0 m 2 ls []) := by
    intro w1
    induction w1 with
    | zero => intro x2_1 hE hp; exact hp.elim
    | succ w1 ih1 =>
      intro x2_1 hE hp H locs hP hS ls hl
      rw [f_X5_undrawnFault_l1] at hE
      rw [p_X5_undrawnFault_l1] at hp
      refine lv_iload_n hx hb dX5_undrawnFault_2 rfl (lv_at hl 2 rfl) ?_
      refine lv_aload_n hx hb dX5_undrawnFault_3 rfl (lv_at hl 0 rfl) ?_
      refine x_get (ci := 4) (fs := [.ref (ad 3), .int ((V 2) 0)]) (q := 2) (v := .int (V 2 0)) (N := 2) hx hb hts (fun _ h => List.mem_cons_of_mem _ (List.mem_append_left _ (List.mem_append_right _ h))) hown hK hP (by decide) (ce_sc ad cI cB (V 2)) rfl 1 (by decide) (hts (.fieldLink RX5 15 "TurnedBoards$Script" "length" "I") (List.mem_of_getElem? (i := 1) rfl)) rfl rfl dX5_undrawnFault_4 ?_
      refine lv_icmp_ge (tgt := 45) hx hb dX5_undrawnFault_7 (by decide) (fun c1 => ?_) (fun c1 => ?_)
      · have hE := hE.trans (if_pos c1)
        refine lv_iconst (v := (-1)) hx hb dX5_undrawnFault_45 (by decide) ?_
        exact W.iret (v := (-1)) hx hb hr (fun t ht hW => ⟨⟨(-1), (), rfl, hE.symm, trivial⟩, hS.F ht⟩) hS.2.2 dX5_undrawnFault_46
      · have hE := hE.trans (if_neg c1)
        have hp := pc_bn hp c1
        refine lv_aload_n hx hb dX5_undrawnFault_10 rfl (lv_at hl 0 rfl) ?_
        refine lv_iload_n hx hb dX5_undrawnFault_11 rfl (lv_at hl 2 rfl) ?_
        refine k_VR (As := [.int x2_1]) (rest := []) (q := 2) ⟨hx, hb, hml, hown, hts⟩ hKN hP hS (m_X5_letterAt l D cI cB ad V x2_1) (cwV 1 hts gX5_undrawnFault_X5_letterAt rfl rfl rfl (by decide +kernel) ⟨(Nat.le_of_ble_eq_true rfl), (Nat.le_of_ble_eq_true rfl)⟩) (c_preV hP hKN (q := 2) (ci := 4) (fs := [.ref (ad 3), .int ((V 2) 0)]) (by decide) (ce_sc ad cI cB (V 2)) rfl rfl) rfl hl.1 rfl (Nat.le_of_ble_eq_true rfl) dX5_undrawnFault_12 ⟨Nat.zero_le _, Nat.zero_le _⟩ (fun H locs hP hS => ?_)
        refine lv_istore_n (lv' := [(3, .int (f_X5_letterAt V x2_1)), (0, .ref (ad 2)), (1, .ref (ad (6 + 7 * j2 + 1))), (2, .int x2_1)]) hx hb dX5_undrawnFault_15 rfl hl (by decide) rfl (fun ls hl => ?_)
        refine lv_iload_n hx hb dX5_undrawnFault_16 rfl (lv_at hl 0 rfl) ?_
        refine lv_iconst (v := (-1)) hx hb dX5_undrawnFault_17 (by decide) ?_
        refine lv_icmp_eq (tgt := 39) hx hb dX5_undrawnFault_18 (by decide) (fun c2 => ?_) (fun c2 => ?_)
        · have hE := hE.trans (if_pos c2)
          have hp := pc_br hp c2
          refine lv_iinc (v := (x2_1 + 1)) (lv' := [(2, .int (x2_1 + 1)), (3, .int (f_X5_letterAt V x2_1)), (0, .ref (ad 2)), (1, .ref (ad (6 + 7 * j2 + 1)))]) hx hb dX5_undrawnFault_39 hl (k := 3) rfl (by rfl) (by decide) rfl (fun ls hl => ?_)
          refine lv_goto (tgt := 2) hx hb dX5_undrawnFault_42 (by decide) ?_
          exact ih1 (x2_1 + 1) hE hp H locs hP hS ls (lv_sub hl [2, 3, 0] rfl)
        · have hE := hE.trans (if_neg c2)
          have hp := pc_bn hp c2
          refine lv_aload_n hx hb dX5_undrawnFault_21 rfl (lv_at hl 2 rfl) ?_
          refine lv_ifnull hx hb dX5_undrawnFault_22 ?_
          refine lv_aload_n hx hb dX5_undrawnFault_25 rfl (lv_at hl 2 rfl) ?_
          refine lv_iload_n hx hb dX5_undrawnFault_26 rfl (lv_at hl 0 rfl) ?_
          refine k_VR (As := [.int (f_X5_letterAt V x2_1)]) (rest := []) (q := (6 + 7 * j2 + 1)) ⟨hx, hb, hml, hown, hts⟩ hKN hP hS (m_X3_has l D cI cB ad V j2 (f_X5_letterAt V x2_1) hj2) (cwV 1 hts gX5_undrawnFault_X3_has rfl rfl rfl (by decide +kernel) ⟨(Nat.le_of_ble_eq_true rfl), (Nat.le_of_ble_eq_true rfl)⟩) (c_preV hP hKN (q := (6 + 7 * j2 + 1)) (ci := 3) (fs := [.ref (ad (6 + 7 * j2 + 2))]) (by have := hj2; omega) (ce_lt ad cI cB hj2 (V (6 + 7 * j2 + 1))) rfl rfl) rfl hl.1 rfl (Nat.le_of_ble_eq_true rfl) dX5_undrawnFault_27 ⟨Nat.zero_le _, Nat.zero_le _⟩ (fun H locs hP hS => ?_)
          refine lv_if_ne (tgt := 39) hx hb dX5_undrawnFault_30 (by decide) (fun c3 => ?_) (fun c3 => ?_)
          · have hE := hE.trans (if_neg c3)
            have hp := pc_bn hp c3
            refine lv_iinc (v := (x2_1 + 1)) (lv' := [(2, .int (x2_1 + 1)), (3, .int (f_X5_letterAt V x2_1)), (0, .ref (ad 2)), (1, .ref (ad (6 + 7 * j2 + 1)))]) hx hb dX5_undrawnFault_39 hl (k := 3) rfl (by rfl) (by decide) rfl (fun ls hl => ?_)
            refine lv_goto (tgt := 2) hx hb dX5_undrawnFault_42 (by decide) ?_
            exact ih1 (x2_1 + 1) hE hp H locs hP hS ls (lv_sub hl [2, 3, 0] rfl)
          · have hE := hE.trans (if_pos c3)
            refine lv_iload_n hx hb dX5_undrawnFault_33 rfl (lv_at hl 3 rfl) ?_
            refine lv_iconst (v := 3) hx hb dX5_undrawnFault_34 (by decide) ?_
            refine k_SR (As := [.int x2_1, .int 3]) (rest := []) ⟨hx, hb, hml, hown, hts⟩ hKN hP hS (m_X5_codeOf l D cI cB ad V x2_1 3) (va_cwS 2 hts gX5_undrawnFault_X5_codeOf rfl rfl rfl (by decide +kernel) ⟨(Nat.le_of_ble_eq_true rfl), (Nat.le_of_ble_eq_true rfl)⟩) rfl hl.1 rfl (Nat.le_of_ble_eq_true rfl) dX5_undrawnFault_35 ⟨Nat.zero_le _, Nat.zero_le _⟩ (fun H locs hP hS => ?_)
            exact W.iret (v := (f_X5_codeOf V x2_1 3)) hx hb hr (fun t ht hW => ⟨⟨(f_X5_codeOf V x2_1 3), (), rfl, hE.symm, trivial⟩, hS.F ht⟩) hS.2.2 dX5_undrawnFault_38
  exact L1 fu 0 hE hp _ _ hP hS _ (lv_sub hl [1, 2, 0] rfl)
def f_X5_faultCode (fu : Nat) (V : VT) (j2 : Nat) : Int32 := (if (f_X5_formFault fu V) = (-1) then (f_X5_undrawnFault fu V j2) else (f_X5_formFault fu V))
def p_X5_faultCode (fu : Nat) (V : VT) (j2 : Nat) : Prop := ((p_X5_formFault fu V ) ∧ (((f_X5_formFault fu V) = (-1) → (p_X5_undrawnFault fu V j2)) ∧ (¬ ((f_X5_formFault fu V) = (-1)) → True)))
set_option maxHeartbeats 4000000 in
set_option maxRecDepth 100000 in
theorem m_X5_faultCode (l : Launch) (D : va_G) (cI cB : ClassId) (ad : Nat → Nat) (fu : Nat) (V : VT) (j2 : Nat) (hj2 : j2 < 6) (hp : p_X5_faultCode fu V j2) : Met l yX5_faultCode wsX5_faultCode ({ frames := 5, cells := 0, slots := 0, locals := 108 }) (cP D cI cB ad V [.ref (ad 2), .ref (ad (6 + 7 * j2 + 1))]) (cR (f_X5_faultCode fu V j2)) 0 0 (fun _ => False) := by
  refine Met.ofW (cc := cX5_faultCode) (maxL := 3) (ret := (some .int)) (by decide +kernel) rfl ?_
  intro p e s m args below meth c s₁ B hml hv
  obtain ⟨rfl, hP, hKN⟩ := hv
  have hK := hKN.1
  have hx := B.exec
  have hb := B.bytes
  have hr := B.returns
  have hts := atoms_spec (ws := wsX5_faultCode) B.pre
  have hown : s.vm.findClass RX5 = some m.cls := findClass_of_methodNamed B.named
  have hlocks := B.notSynchronized
  have hS : va_S (fun _ => False) s.heap s.heap [] := va_S.rf
  have hl := lv_entry ([.ref (ad 2), .ref (ad (6 + 7 * j2 + 1))]) (n := 3) (Nat.le_of_ble_eq_true rfl)
  rw [lg_entry_eq]
  generalize (lg_sl ([.ref (ad 2), .ref (ad (6 + 7 * j2 + 1))]) ++ List.replicate (3 - (lg_sl ([.ref (ad 2), .ref (ad (6 + 7 * j2 + 1))])).length) Slot.unset).toArray = ls at hl ⊢
  have hl : lv_has ls 3 [(0, .ref (ad 2)), (1, .ref (ad (6 + 7 * j2 + 1)))] := hl
  have hE : f_X5_faultCode fu V j2 = (if (f_X5_formFault fu V) = (-1) then (f_X5_undrawnFault fu V j2) else (f_X5_formFault fu V)) := rfl
  refine lv_aload_n hx hb dX5_faultCode_0 rfl (lv_at hl 0 rfl) ?_
  obtain ⟨hn1, hp⟩ := hp
  refine k_VR (As := []) (rest := []) (q := 2) ⟨hx, hb, hml, hown, hts⟩ hKN hP hS (m_X5_formFault l D cI cB ad fu V hn1) (cwV 0 hts gX5_faultCode_X5_formFault rfl rfl rfl (by decide +kernel) ⟨(Nat.le_of_ble_eq_true rfl), (Nat.le_of_ble_eq_true rfl)⟩) (c_preV hP hKN (q := 2) (ci := 4) (fs := [.ref (ad 3), .int ((V 2) 0)]) (by decide) (ce_sc ad cI cB (V 2)) rfl rfl) rfl hl.1 rfl (Nat.le_of_ble_eq_true rfl) dX5_faultCode_1 ⟨Nat.zero_le _, Nat.zero_le _⟩ (fun H locs hP hS => ?_)
  refine lv_istore_n (lv' := [(2, .int (f_X5_formFault fu V)), (0, .ref (ad 2)), (1, .ref (ad (6 + 7 * j2 + 1)))]) hx hb dX5_faultCode_4 rfl hl (by decide) rfl (fun ls hl => ?_)
  refine lv_iload_n hx hb dX5_faultCode_5 rfl (lv_at hl 0 rfl) ?_
  refine lv_iconst (v := (-1)) hx hb dX5_faultCode_6 (by decide) ?_
  refine lv_icmp_ne (tgt := 18) hx hb dX5_faultCode_7 (by decide) (fun c1 => ?_) (fun c1 => ?_)
  · have hE := hE.trans (if_neg c1)
    refine lv_iload_n hx hb dX5_faultCode_18 rfl (lv_at hl 0 rfl) ?_
    exact W.iret (v := (f_X5_formFault fu V)) hx hb hr (fun t ht hW => ⟨⟨(f_X5_formFault fu V), (), rfl, hE.symm, trivial⟩, hS.F ht⟩) hS.2.2 dX5_faultCode_19
  · have hE := hE.trans (if_pos c1)
    have hp := pc_br hp c1
    refine lv_aload_n hx hb dX5_faultCode_10 rfl (lv_at hl 1 rfl) ?_
    refine lv_aload_n hx hb dX5_faultCode_11 rfl (lv_at hl 2 rfl) ?_
    have hn2 := hp
    refine k_VR (As := [.ref (ad (6 + 7 * j2 + 1))]) (rest := []) (q := 2) ⟨hx, hb, hml, hown, hts⟩ hKN hP hS (m_X5_undrawnFault l D cI cB ad fu V j2 hj2 hn2) (cwV 1 hts gX5_faultCode_X5_undrawnFault rfl rfl rfl (by decide +kernel) ⟨(Nat.le_of_ble_eq_true rfl), (Nat.le_of_ble_eq_true rfl)⟩) (c_preV hP hKN (q := 2) (ci := 4) (fs := [.ref (ad 3), .int ((V 2) 0)]) (by decide) (ce_sc ad cI cB (V 2)) rfl rfl) rfl hl.1 rfl (Nat.le_of_ble_eq_true rfl) dX5_faultCode_12 ⟨Nat.zero_le _, Nat.zero_le _⟩ (fun H locs hP hS => ?_)
    refine lv_goto (tgt := 19) hx hb dX5_faultCode_15 (by decide) ?_
    exact W.iret (v := (f_X5_undrawnFault fu V j2)) hx hb hr (fun t ht hW => ⟨⟨(f_X5_undrawnFault fu V j2), (), rfl, hE.symm, trivial⟩, hS.F ht⟩) hS.2.2 dX5_faultCode_19
