/-! contracts by program (wip/whole/gen): f_ what a method answers or makes of the table, p_ what it needs, m_ the contract -/
def f_X3_signFor (V : VT) (j : Nat) (p1 : Int32) : Int32 := (if p1 < 0 then (-1) else (if (nI 10) ≤ p1 then (-1) else (V (6 + 7 * j + 2) p1.toNatClampNeg)))
set_option maxHeartbeats 4000000 in
set_option maxRecDepth 100000 in
theorem m_X3_signFor (l : Launch) (D : va_G) (cI cB : ClassId) (ad : Nat → Nat) (V : VT) (j : Nat) (p1 : Int32) (hj : j < 6) : Met l yX3_signFor wsX3_signFor ({ frames := 0, cells := 0, slots := 0, locals := 0 }) (cP D cI cB ad V [.ref (ad (6 + 7 * j + 1)), .int p1]) (cR (f_X3_signFor V j p1)) 0 0 (fun _ => False) := by
  refine Met.ofW (cc := cX3_signFor) (maxL := 2) (ret := (some .int)) (by decide +kernel) rfl ?_
  intro p e s m args below meth c s₁ B hml hv
  obtain ⟨rfl, hP, hKN⟩ := hv
  have hK := hKN.1
  have hx := B.exec
  have hb := B.bytes
  have hr := B.returns
  have hts := atoms_spec (ws := wsX3_signFor) B.pre
  have hown : s.vm.findClass RX3 = some m.cls := findClass_of_methodNamed B.named
  have hlocks := B.notSynchronized
  have hS : va_S (fun _ => False) s.heap s.heap [] := va_S.rf
  have hl := lv_entry ([.ref (ad (6 + 7 * j + 1)), .int p1]) (n := 2) (Nat.le_of_ble_eq_true rfl)
  rw [lg_entry_eq]
  generalize (lg_sl ([.ref (ad (6 + 7 * j + 1)), .int p1]) ++ List.replicate (2 - (lg_sl ([.ref (ad (6 + 7 * j + 1)), .int p1])).length) Slot.unset).toArray = ls at hl ⊢
  have hl : lv_has ls 2 [(0, .ref (ad (6 + 7 * j + 1))), (1, .int p1)] := hl
  have hE : f_X3_signFor V j p1 = (if p1 < 0 then (-1) else (if (nI 10) ≤ p1 then (-1) else (V (6 + 7 * j + 2) p1.toNatClampNeg))) := rfl
  refine lv_iload_n hx hb dX3_signFor_0 rfl (lv_at hl 1 rfl) ?_
  refine lv_if_lt (tgt := 22) hx hb dX3_signFor_1 (by decide) (fun c1 => ?_) (fun c1 => ?_)
  · have hE := hE.trans (if_pos c1)
    refine lv_iconst (v := (-1)) hx hb dX3_signFor_22 (by decide) ?_
    exact W.iret (v := (-1)) hx hb hr (fun t ht hW => ⟨⟨(-1), (), rfl, hE.symm, trivial⟩, hS.F ht⟩) hS.2.2 dX3_signFor_23
  · have hE := hE.trans (if_neg c1)
    refine lv_iload_n hx hb dX3_signFor_4 rfl (lv_at hl 1 rfl) ?_
    refine lv_aload_n hx hb dX3_signFor_5 rfl (lv_at hl 0 rfl) ?_
    refine x_get (ci := 3) (fs := [.ref (ad (6 + 7 * j + 2))]) (q := (6 + 7 * j + 1)) (v := .ref (ad (6 + 7 * j + 2))) (N := 1) hx hb hts (fun _ h => List.mem_cons_of_mem _ (List.mem_append_right _ h)) hown hK hP (by have := hj; omega) (ce_lt ad cI cB hj (V (6 + 7 * j + 1))) rfl 0 (by decide) (hts (.fieldLink RX3 9 "TurnedBoards$Letters" "drawn" "[I") (List.mem_of_getElem? (i := 1) rfl)) rfl rfl dX3_signFor_6 ?_
    refine x_alen hx hb hK hP (rw_bd ad cI cB (j := j) (r := 2) hj (by decide) (fun _ => rfl)) dX3_signFor_9 ?_
    refine lv_icmp_ge (tgt := 22) hx hb dX3_signFor_10 (by decide) (fun c2 => ?_) (fun c2 => ?_)
    · have hE := hE.trans (if_pos c2)
      refine lv_iconst (v := (-1)) hx hb dX3_signFor_22 (by decide) ?_
      exact W.iret (v := (-1)) hx hb hr (fun t ht hW => ⟨⟨(-1), (), rfl, hE.symm, trivial⟩, hS.F ht⟩) hS.2.2 dX3_signFor_23
    · have hE := hE.trans (if_neg c2)
      refine lv_aload_n hx hb dX3_signFor_13 rfl (lv_at hl 0 rfl) ?_
      refine x_get (ci := 3) (fs := [.ref (ad (6 + 7 * j + 2))]) (q := (6 + 7 * j + 1)) (v := .ref (ad (6 + 7 * j + 2))) (N := 1) hx hb hts (fun _ h => List.mem_cons_of_mem _ (List.mem_append_right _ h)) hown hK hP (by have := hj; omega) (ce_lt ad cI cB hj (V (6 + 7 * j + 1))) rfl 0 (by decide) (hts (.fieldLink RX3 9 "TurnedBoards$Letters" "drawn" "[I") (List.mem_of_getElem? (i := 1) rfl)) rfl rfl dX3_signFor_14 ?_
      refine lv_iload_n hx hb dX3_signFor_17 rfl (lv_at hl 1 rfl) ?_
      refine x_iald hx hb hK hP (rw_bd ad cI cB (j := j) (r := 2) hj (by decide) (fun _ => rfl)) (vp_of c1 (i32_lt c2) (by decide)) dX3_signFor_18 ?_
      refine lv_goto (tgt := 23) hx hb dX3_signFor_19 (by decide) ?_
      exact W.iret (v := (V (6 + 7 * j + 2) p1.toNatClampNeg)) hx hb hr (fun t ht hW => ⟨⟨(V (6 + 7 * j + 2) p1.toNatClampNeg), (), rfl, hE.symm, trivial⟩, hS.F ht⟩) hS.2.2 dX3_signFor_23
def f_X3_has (V : VT) (j : Nat) (p1 : Int32) : Int32 := (if (f_X3_signFor V j p1) = (-1) then 0 else 1)
set_option maxHeartbeats 4000000 in
set_option maxRecDepth 100000 in
theorem m_X3_has (l : Launch) (D : va_G) (cI cB : ClassId) (ad : Nat → Nat) (V : VT) (j : Nat) (p1 : Int32) (hj : j < 6) : Met l yX3_has wsX3_has ({ frames := 1, cells := 0, slots := 0, locals := 21 }) (cP D cI cB ad V [.ref (ad (6 + 7 * j + 1)), .int p1]) (cR (f_X3_has V j p1)) 0 0 (fun _ => False) := by
  refine Met.ofW (cc := cX3_has) (maxL := 2) (ret := (some .boolean)) (by decide +kernel) rfl ?_
  intro p e s m args below meth c s₁ B hml hv
  obtain ⟨rfl, hP, hKN⟩ := hv
  have hK := hKN.1
  have hx := B.exec
  have hb := B.bytes
  have hr := B.returns
  have hts := atoms_spec (ws := wsX3_has) B.pre
  have hown : s.vm.findClass RX3 = some m.cls := findClass_of_methodNamed B.named
  have hlocks := B.notSynchronized
  have hS : va_S (fun _ => False) s.heap s.heap [] := va_S.rf
  have hl := lv_entry ([.ref (ad (6 + 7 * j + 1)), .int p1]) (n := 2) (Nat.le_of_ble_eq_true rfl)
  rw [lg_entry_eq]
  generalize (lg_sl ([.ref (ad (6 + 7 * j + 1)), .int p1]) ++ List.replicate (2 - (lg_sl ([.ref (ad (6 + 7 * j + 1)), .int p1])).length) Slot.unset).toArray = ls at hl ⊢
  have hl : lv_has ls 2 [(0, .ref (ad (6 + 7 * j + 1))), (1, .int p1)] := hl
  have hE : f_X3_has V j p1 = (if (f_X3_signFor V j p1) = (-1) then 0 else 1) := rfl
  refine lv_aload_n hx hb dX3_has_0 rfl (lv_at hl 0 rfl) ?_
  refine lv_iload_n hx hb dX3_has_1 rfl (lv_at hl 1 rfl) ?_
  refine k_VR (As := [.int p1]) (rest := []) (q := (6 + 7 * j + 1)) ⟨hx, hb, hml, hown, hts⟩ hKN hP hS (m_X3_signFor l D cI cB ad V j p1 hj) (cwV 1 hts gX3_has_X3_signFor rfl rfl rfl (by decide +kernel) ⟨(Nat.le_of_ble_eq_true rfl), (Nat.le_of_ble_eq_true rfl)⟩) (c_preV hP hKN (q := (6 + 7 * j + 1)) (ci := 3) (fs := [.ref (ad (6 + 7 * j + 2))]) (by have := hj; omega) (ce_lt ad cI cB hj (V (6 + 7 * j + 1))) rfl rfl) rfl hl.1 rfl (Nat.le_of_ble_eq_true rfl) dX3_has_2 ⟨Nat.zero_le _, Nat.zero_le _⟩ (fun H locs hP hS => ?_)
  refine lv_iconst (v := (-1)) hx hb dX3_has_5 (by decide) ?_
  refine lv_icmp_eq (tgt := 13) hx hb dX3_has_6 (by decide) (fun c1 => ?_) (fun c1 => ?_)
  · have hE := hE.trans (if_pos c1)
    refine lv_iconst (v := 0) hx hb dX3_has_13 (by decide) ?_
    exact W.zret (v := 0) hx hb hr rfl (fun t ht hW => ⟨⟨0, (), rfl, hE.symm, trivial⟩, hS.F ht⟩) hS.2.2 dX3_has_14
  · have hE := hE.trans (if_neg c1)
    refine lv_iconst (v := 1) hx hb dX3_has_9 (by decide) ?_
    refine lv_goto (tgt := 14) hx hb dX3_has_10 (by decide) ?_
    exact W.zret (v := 1) hx hb hr rfl (fun t ht hW => ⟨⟨1, (), rfl, hE.symm, trivial⟩, hS.F ht⟩) hS.2.2 dX3_has_14
def f_X3_draw (V : VT) (j : Nat) (p1 : Int32) (p2 : Int32) : VT := (f_X4_put V (6 + 7 * j + 2) 10 p1 p2)
set_option maxHeartbeats 4000000 in
set_option maxRecDepth 100000 in
theorem m_X3_draw (l : Launch) (D : va_G) (cI cB : ClassId) (ad : Nat → Nat) {A : Nat → Prop} (hA : adOk ad A) (V : VT) (j : Nat) (p1 : Int32) (p2 : Int32) (hj : j < 6) : Met l yX3_draw wsX3_draw ({ frames := 1, cells := 0, slots := 0, locals := 22 }) (cP D cI cB ad V [.ref (ad (6 + 7 * j + 1)), .int p1, .int p2]) (cWv D cI cB ad A (f_X3_draw V j p1 p2)) 0 0 A := by
  refine Met.ofW (cc := cX3_draw) (maxL := 3) (ret := none) (by decide +kernel) rfl ?_
  intro p e s m args below meth c s₁ B hml hv
  obtain ⟨rfl, hP, hKN⟩ := hv
  have hK := hKN.1
  have hx := B.exec
  have hb := B.bytes
  have hr := B.returns
  have hts := atoms_spec (ws := wsX3_draw) B.pre
  have hown : s.vm.findClass RX3 = some m.cls := findClass_of_methodNamed B.named
  have hlocks := B.notSynchronized
  have hS : va_S A s.heap s.heap [] := va_S.rf
  have hl := lv_entry ([.ref (ad (6 + 7 * j + 1)), .int p1, .int p2]) (n := 3) (Nat.le_of_ble_eq_true rfl)
  rw [lg_entry_eq]
  generalize (lg_sl ([.ref (ad (6 + 7 * j + 1)), .int p1, .int p2]) ++ List.replicate (3 - (lg_sl ([.ref (ad (6 + 7 * j + 1)), .int p1, .int p2])).length) Slot.unset).toArray = ls at hl ⊢
  have hl : lv_has ls 3 [(0, .ref (ad (6 + 7 * j + 1))), (1, .int p1), (2, .int p2)] := hl
  have hE : f_X3_draw V j p1 p2 = (f_X4_put V (6 + 7 * j + 2) 10 p1 p2) := rfl
  refine lv_aload_n hx hb dX3_draw_0 rfl (lv_at hl 0 rfl) ?_
  refine x_get (ci := 3) (fs := [.ref (ad (6 + 7 * j + 2))]) (q := (6 + 7 * j + 1)) (v := .ref (ad (6 + 7 * j + 2))) (N := 1) hx hb hts (fun _ h => List.mem_cons_of_mem _ (List.mem_append_right _ h)) hown hK hP (by have := hj; omega) (ce_lt ad cI cB hj (V (6 + 7 * j + 1))) rfl 0 (by decide) (hts (.fieldLink RX3 9 "TurnedBoards$Letters" "drawn" "[I") (List.mem_of_getElem? (i := 1) rfl)) rfl rfl dX3_draw_1 ?_
  refine lv_iload_n hx hb dX3_draw_4 rfl (lv_at hl 1 rfl) ?_
  refine lv_iload_n hx hb dX3_draw_5 rfl (lv_at hl 2 rfl) ?_
  refine k_SWv (As := [.ref (ad (6 + 7 * j + 2)), .int p1, .int p2]) (rest := []) ⟨hx, hb, hml, hown, hts⟩ hKN hP hS (m_X4_put l D cI cB 54 (cellOf ad cI cB) ad hA V (6 + 7 * j + 2) 10 p1 p2 (rw_bd ad cI cB (j := j) (r := 2) hj (by decide) (fun _ => rfl))) (va_cwS 3 hts gX3_draw_X4_put rfl rfl rfl (by decide +kernel) ⟨(Nat.le_of_ble_eq_true rfl), (Nat.le_of_ble_eq_true rfl)⟩) rfl hl.1 rfl (Nat.le_of_ble_eq_true rfl) dX3_draw_6 ⟨Nat.zero_le _, Nat.zero_le _⟩ (fun H locs hP hS => ?_)
  exact W.vret hx hb hr (fun t ht hW => ⟨⟨(f_X4_put V (6 + 7 * j + 2) 10 p1 p2), rfl, hE.symm, by dsimp only; rw [ht]; exact hP⟩, hS.F ht⟩) hS.2.2 dX3_draw_9
def f_X3_drawnAs_l1 (fu : Nat) (V : VT) (j : Nat) (p1 : Int32) : Nat → Int32 → Int32
  | 0, x2_1 => 0
  | w1 + 1, x2_1 => (if (nI 10) ≤ x2_1 then (-1) else (if (V (6 + 7 * j + 2) x2_1.toNatClampNeg) = p1 then x2_1 else (f_X3_drawnAs_l1 fu V j p1 w1 (x2_1 + 1))))
def p_X3_drawnAs_l1 (fu : Nat) (V : VT) (j : Nat) (p1 : Int32) : Nat → Int32 → Prop
  | 0, _ => False
  | w1 + 1, x2_1 => (((nI 10) ≤ x2_1 → True) ∧ (¬ ((nI 10) ≤ x2_1) → ((vp_in x2_1 10) ∧ (((V (6 + 7 * j + 2) x2_1.toNatClampNeg) = p1 → True) ∧ (¬ ((V (6 + 7 * j + 2) x2_1.toNatClampNeg) = p1) → (p_X3_drawnAs_l1 fu V j p1 w1 (x2_1 + 1)))))))
def f_X3_drawnAs (fu : Nat) (V : VT) (j : Nat) (p1 : Int32) : Int32 := (f_X3_drawnAs_l1 fu V j p1 fu 0)
def p_X3_drawnAs (fu : Nat) (V : VT) (j : Nat) (p1 : Int32) : Prop := (p_X3_drawnAs_l1 fu V j p1 fu 0)
set_option maxHeartbeats 4000000 in
set_option maxRecDepth 100000 in
theorem m_X3_drawnAs (l : Launch) (D : va_G) (cI cB : ClassId) (ad : Nat → Nat) (fu : Nat) (V : VT) (j : Nat) (p1 : Int32) (hj : j < 6) (hp : p_X3_drawnAs fu V j p1) : Met l yX3_drawnAs wsX3_drawnAs ({ frames := 0, cells := 0, slots := 0, locals := 0 }) (cP D cI cB ad V [.ref (ad (6 + 7 * j + 1)), .int p1]) (cR (f_X3_drawnAs fu V j p1)) 0 0 (fun _ => False) := by
  refine Met.ofW (cc := cX3_drawnAs) (maxL := 3) (ret := (some .int)) (by decide +kernel) rfl ?_
  intro p e s m args below meth c s₁ B hml hv
  obtain ⟨rfl, hP, hKN⟩ := hv
  have hK := hKN.1
  have hx := B.exec
  have hb := B.bytes
  have hr := B.returns
  have hts := atoms_spec (ws := wsX3_drawnAs) B.pre
  have hown : s.vm.findClass RX3 = some m.cls := findClass_of_methodNamed B.named
  have hlocks := B.notSynchronized
  have hS : va_S (fun _ => False) s.heap s.heap [] := va_S.rf
  have hl := lv_entry ([.ref (ad (6 + 7 * j + 1)), .int p1]) (n := 3) (Nat.le_of_ble_eq_true rfl)
  rw [lg_entry_eq]
  generalize (lg_sl ([.ref (ad (6 + 7 * j + 1)), .int p1]) ++ List.replicate (3 - (lg_sl ([.ref (ad (6 + 7 * j + 1)), .int p1])).length) Slot.unset).toArray = ls at hl ⊢
  have hl : lv_has ls 3 [(0, .ref (ad (6 + 7 * j + 1))), (1, .int p1)] := hl
  have hE : f_X3_drawnAs fu V j p1 = (f_X3_drawnAs_l1 fu V j p1 fu 0) := rfl
  refine lv_iconst (v := 0) hx hb dX3_drawnAs_0 (by decide) ?_
  refine lv_istore_n (lv' := [(2, .int 0), (0, .ref (ad (6 + 7 * j + 1))), (1, .int p1)]) hx hb dX3_drawnAs_1 rfl hl (by decide) rfl (fun ls hl => ?_)
  have L1 : ∀ (w1 : Nat) (x2_1 : Int32), f_X3_drawnAs fu V j p1 = f_X3_drawnAs_l1 fu V j p1 w1 x2_1 → p_X3_drawnAs_l1 fu V j p1 w1 x2_1 → ∀ (H : Heap) (locs : List Loc), wP D cI cB ad V H → va_S (fun _ => False) s.heap H locs → ∀ (ls : Array Slot), lv_has ls 3 [(0, .ref (ad (6 + 7 * j + 1))), (1, .int p1), (2, .int x2_1)] → W p l e (headSpec wsX3_drawnAs ({ frames := 0, cells := 0, slots := 0, locals := 0 })).room s m ([.ref (ad (6 + 7 * j + 1)), .int p1] : List Value).toArray below meth c H locs 0 0 (MQ below (cR (f_X3_drawnAs fu V j p1)) ([.ref (ad (6 + 7 * j + 1)), .int p1] : List Value).toArray s 0 0 (fun _ => False)) (F0 m 2 ls []) := by
    intro w1
    induction w1 with
    | zero => intro x2_1 hE hp; exact hp.elim
    | succ w1 ih1 =>
      intro x2_1 hE hp H locs hP hS ls hl
      rw [f_X3_drawnAs_l1] at hE
      rw [p_X3_drawnAs_l1] at hp
      refine lv_iload_n hx hb dX3_drawnAs_2 rfl (lv_at hl 2 rfl) ?_
      refine lv_aload_n hx hb dX3_drawnAs_3 rfl (lv_at hl 0 rfl) ?_
      refine x_get (ci := 3) (fs := [.ref (ad (6 + 7 * j + 2))]) (q := (6 + 7 * j + 1)) (v := .ref (ad (6 + 7 * j + 2))) (N := 1) hx hb hts (fun _ h => List.mem_cons_of_mem _ (List.mem_append_right _ h)) hown hK hP (by have := hj; omega) (ce_lt ad cI cB hj (V (6 + 7 * j + 1))) rfl 0 (by decide) (hts (.fieldLink RX3 9 "TurnedBoards$Letters" "drawn" "[I") (List.mem_of_getElem? (i := 1) rfl)) rfl rfl dX3_drawnAs_4 ?_
      refine x_alen hx hb hK hP (rw_bd ad cI cB (j := j) (r := 2) hj (by decide) (fun _ => rfl)) dX3_drawnAs_7 ?_
      refine lv_icmp_ge (tgt := 29) hx hb dX3_drawnAs_8 (by decide) (fun c1 => ?_) (fun c1 => ?_)
      · have hE := hE.trans (if_pos c1)
        refine lv_iconst (v := (-1)) hx hb dX3_drawnAs_29 (by decide) ?_
        exact W.iret (v := (-1)) hx hb hr (fun t ht hW => ⟨⟨(-1), (), rfl, hE.symm, trivial⟩, hS.F ht⟩) hS.2.2 dX3_drawnAs_30
      · have hE := hE.trans (if_neg c1)
        have hp := pc_bn hp c1
        refine lv_aload_n hx hb dX3_drawnAs_11 rfl (lv_at hl 0 rfl) ?_
        refine x_get (ci := 3) (fs := [.ref (ad (6 + 7 * j + 2))]) (q := (6 + 7 * j + 1)) (v := .ref (ad (6 + 7 * j + 2))) (N := 1) hx hb hts (fun _ h => List.mem_cons_of_mem _ (List.mem_append_right _ h)) hown hK hP (by have := hj; omega) (ce_lt ad cI cB hj (V (6 + 7 * j + 1))) rfl 0 (by decide) (hts (.fieldLink RX3 9 "TurnedBoards$Letters" "drawn" "[I") (List.mem_of_getElem? (i := 1) rfl)) rfl rfl dX3_drawnAs_12 ?_
        refine lv_iload_n hx hb dX3_drawnAs_15 rfl (lv_at hl 2 rfl) ?_
        obtain ⟨hn1, hp⟩ := hp
        refine x_iald hx hb hK hP (rw_bd ad cI cB (j := j) (r := 2) hj (by decide) (fun _ => rfl)) hn1 dX3_drawnAs_16 ?_
        refine lv_iload_n hx hb dX3_drawnAs_17 rfl (lv_at hl 1 rfl) ?_
        refine lv_icmp_ne (tgt := 23) hx hb dX3_drawnAs_18 (by decide) (fun c2 => ?_) (fun c2 => ?_)
        · have hE := hE.trans (if_neg c2)
          have hp := pc_bn hp c2
          refine lv_iinc (v := (x2_1 + 1)) (lv' := [(2, .int (x2_1 + 1)), (0, .ref (ad (6 + 7 * j + 1))), (1, .int p1)]) hx hb dX3_drawnAs_23 hl (k := 2) rfl (by rfl) (by decide) rfl (fun ls hl => ?_)
          refine lv_goto (tgt := 2) hx hb dX3_drawnAs_26 (by decide) ?_
          exact ih1 (x2_1 + 1) hE hp H locs hP hS ls (lv_sub hl [1, 2, 0] rfl)
        · have hE := hE.trans (if_pos c2)
          refine lv_iload_n hx hb dX3_drawnAs_21 rfl (lv_at hl 2 rfl) ?_
          exact W.iret (v := x2_1) hx hb hr (fun t ht hW => ⟨⟨x2_1, (), rfl, hE.symm, trivial⟩, hS.F ht⟩) hS.2.2 dX3_drawnAs_22
  exact L1 fu 0 hE hp _ _ hP hS _ (lv_sub hl [1, 2, 0] rfl)
def f_X3_asSet_l1 (fu : Nat) (V : VT) (j : Nat) : Nat → Int32 → Int32 → Int32
  | 0, x1_1, x2_1 => 0
  | w1 + 1, x1_1, x2_1 => (if (nI 10) ≤ x2_1 then x1_1 else (if (V (6 + 7 * j + 2) x2_1.toNatClampNeg) = (-1) then (f_X3_asSet_l1 fu V j w1 x1_1 (x2_1 + 1)) else (f_X3_asSet_l1 fu V j w1 (x1_1 ||| (1 <<< (x2_1 &&& 31))) (x2_1 + 1))))
def p_X3_asSet_l1 (fu : Nat) (V : VT) (j : Nat) : Nat → Int32 → Int32 → Prop
  | 0, _, _ => False
  | w1 + 1, x1_1, x2_1 => (((nI 10) ≤ x2_1 → True) ∧ (¬ ((nI 10) ≤ x2_1) → ((vp_in x2_1 10) ∧ (((V (6 + 7 * j + 2) x2_1.toNatClampNeg) = (-1) → (p_X3_asSet_l1 fu V j w1 x1_1 (x2_1 + 1))) ∧ (¬ ((V (6 + 7 * j + 2) x2_1.toNatClampNeg) = (-1)) → (p_X3_asSet_l1 fu V j w1 (x1_1 ||| (1 <<< (x2_1 &&& 31))) (x2_1 + 1)))))))
def f_X3_asSet (fu : Nat) (V : VT) (j : Nat) : Int32 := (f_X3_asSet_l1 fu V j fu 0 0)
def p_X3_asSet (fu : Nat) (V : VT) (j : Nat) : Prop := (p_X3_asSet_l1 fu V j fu 0 0)
set_option maxHeartbeats 4000000 in
set_option maxRecDepth 100000 in
theorem m_X3_asSet (l : Launch) (D : va_G) (cI cB : ClassId) (ad : Nat → Nat) (fu : Nat) (V : VT) (j : Nat) (hj : j < 6) (hp : p_X3_asSet fu V j) : Met l yX3_asSet wsX3_asSet ({ frames := 0, cells := 0, slots := 0, locals := 0 }) (cP D cI cB ad V [.ref (ad (6 + 7 * j + 1))]) (cR (f_X3_asSet fu V j)) 0 0 (fun _ => False) := by
  refine Met.ofW (cc := cX3_asSet) (maxL := 3) (ret := (some .int)) (by decide +kernel) rfl ?_
  intro p e s m args below meth c s₁ B hml hv
  obtain ⟨rfl, hP, hKN⟩ := hv
  have hK := hKN.1
  have hx := B.exec
  have hb := B.bytes
  have hr := B.returns
  have hts := atoms_spec (ws := wsX3_asSet) B.pre
  have hown : s.vm.findClass RX3 = some m.cls := findClass_of_methodNamed B.named
  have hlocks := B.notSynchronized
  have hS : va_S (fun _ => False) s.heap s.heap [] := va_S.rf
  have hl := lv_entry ([.ref (ad (6 + 7 * j + 1))]) (n := 3) (Nat.le_of_ble_eq_true rfl)
  rw [lg_entry_eq]
  generalize (lg_sl ([.ref (ad (6 + 7 * j + 1))]) ++ List.replicate (3 - (lg_sl ([.ref (ad (6 + 7 * j + 1))])).length) Slot.unset).toArray = ls at hl ⊢
  have hl : lv_has ls 3 [(0, .ref (ad (6 + 7 * j + 1)))] := hl
  have hE : f_X3_asSet fu V j = (f_X3_asSet_l1 fu V j fu 0 0) := rfl
  refine lv_iconst (v := 0) hx hb dX3_asSet_0 (by decide) ?_
  refine lv_istore_n (lv' := [(1, .int 0), (0, .ref (ad (6 + 7 * j + 1)))]) hx hb dX3_asSet_1 rfl hl (by decide) rfl (fun ls hl => ?_)
  refine lv_iconst (v := 0) hx hb dX3_asSet_2 (by decide) ?_
  refine lv_istore_n (lv' := [(2, .int 0), (1, .int 0), (0, .ref (ad (6 + 7 * j + 1)))]) hx hb dX3_asSet_3 rfl hl (by decide) rfl (fun ls hl => ?_)
  have L1 : ∀ (w1 : Nat) (x1_1 : Int32) (x2_1 : Int32), f_X3_asSet fu V j = f_X3_asSet_l1 fu V j w1 x1_1 x2_1 → p_X3_asSet_l1 fu V j w1 x1_1 x2_1 → ∀ (H : Heap) (locs : List Loc), wP D cI cB ad V H → va_S (fun _ => False) s.heap H locs → ∀ (ls : Array Slot), lv_has ls 3 [(0, .ref (ad (6 + 7 * j + 1))), (1, .int x1_1), (2, .int x2_1)] → W p l e (headSpec wsX3_asSet ({ frames := 0, cells := 0, slots := 0, locals := 0 })).room s m ([.ref (ad (6 + 7 * j + 1))] : List Value).toArray below meth c H locs 0 0 (MQ below (cR (f_X3_asSet fu V j)) ([.ref (ad (6 + 7 * j + 1))] : List Value).toArray s 0 0 (fun _ => False)) (F0 m 4 ls []) := by
    intro w1
    induction w1 with
    | zero => intro x1_1 x2_1 hE hp; exact hp.elim
    | succ w1 ih1 =>
      intro x1_1 x2_1 hE hp H locs hP hS ls hl
      rw [f_X3_asSet_l1] at hE
      rw [p_X3_asSet_l1] at hp
      refine lv_iload_n hx hb dX3_asSet_4 rfl (lv_at hl 2 rfl) ?_
      refine lv_aload_n hx hb dX3_asSet_5 rfl (lv_at hl 0 rfl) ?_
      refine x_get (ci := 3) (fs := [.ref (ad (6 + 7 * j + 2))]) (q := (6 + 7 * j + 1)) (v := .ref (ad (6 + 7 * j + 2))) (N := 1) hx hb hts (fun _ h => List.mem_cons_of_mem _ (List.mem_append_right _ h)) hown hK hP (by have := hj; omega) (ce_lt ad cI cB hj (V (6 + 7 * j + 1))) rfl 0 (by decide) (hts (.fieldLink RX3 9 "TurnedBoards$Letters" "drawn" "[I") (List.mem_of_getElem? (i := 1) rfl)) rfl rfl dX3_asSet_6 ?_
      refine x_alen hx hb hK hP (rw_bd ad cI cB (j := j) (r := 2) hj (by decide) (fun _ => rfl)) dX3_asSet_9 ?_
      refine lv_icmp_ge (tgt := 35) hx hb dX3_asSet_10 (by decide) (fun c1 => ?_) (fun c1 => ?_)
      · have hE := hE.trans (if_pos c1)
        refine lv_iload_n hx hb dX3_asSet_35 rfl (lv_at hl 1 rfl) ?_
        exact W.iret (v := x1_1) hx hb hr (fun t ht hW => ⟨⟨x1_1, (), rfl, hE.symm, trivial⟩, hS.F ht⟩) hS.2.2 dX3_asSet_36
      · have hE := hE.trans (if_neg c1)
        have hp := pc_bn hp c1
        refine lv_aload_n hx hb dX3_asSet_13 rfl (lv_at hl 0 rfl) ?_
        refine x_get (ci := 3) (fs := [.ref (ad (6 + 7 * j + 2))]) (q := (6 + 7 * j + 1)) (v := .ref (ad (6 + 7 * j + 2))) (N := 1) hx hb hts (fun _ h => List.mem_cons_of_mem _ (List.mem_append_right _ h)) hown hK hP (by have := hj; omega) (ce_lt ad cI cB hj (V (6 + 7 * j + 1))) rfl 0 (by decide) (hts (.fieldLink RX3 9 "TurnedBoards$Letters" "drawn" "[I") (List.mem_of_getElem? (i := 1) rfl)) rfl rfl dX3_asSet_14 ?_
        refine lv_iload_n hx hb dX3_asSet_17 rfl (lv_at hl 2 rfl) ?_
        obtain ⟨hn1, hp⟩ := hp
        refine x_iald hx hb hK hP (rw_bd ad cI cB (j := j) (r := 2) hj (by decide) (fun _ => rfl)) hn1 dX3_asSet_18 ?_
        refine lv_iconst (v := (-1)) hx hb dX3_asSet_19 (by decide) ?_
        refine lv_icmp_eq (tgt := 29) hx hb dX3_asSet_20 (by decide) (fun c2 => ?_) (fun c2 => ?_)
        · have hE := hE.trans (if_pos c2)
          have hp := pc_br hp c2
          refine lv_iinc (v := (x2_1 + 1)) (lv' := [(2, .int (x2_1 + 1)), (0, .ref (ad (6 + 7 * j + 1))), (1, .int x1_1)]) hx hb dX3_asSet_29 hl (k := 2) rfl (by rfl) (by decide) rfl (fun ls hl => ?_)
          refine lv_goto (tgt := 4) hx hb dX3_asSet_32 (by decide) ?_
          exact ih1 x1_1 (x2_1 + 1) hE hp H locs hP hS ls (lv_sub hl [1, 2, 0] rfl)
        · have hE := hE.trans (if_neg c2)
          have hp := pc_bn hp c2
          refine lv_iload_n hx hb dX3_asSet_23 rfl (lv_at hl 1 rfl) ?_
          refine lv_iconst (v := 1) hx hb dX3_asSet_24 (by decide) ?_
          refine lv_iload_n hx hb dX3_asSet_25 rfl (lv_at hl 2 rfl) ?_
          refine lv_ishl hx hb dX3_asSet_26 ?_
          refine lv_ior hx hb dX3_asSet_27 ?_
          refine lv_istore_n (lv' := [(1, .int (x1_1 ||| (1 <<< (x2_1 &&& 31)))), (0, .ref (ad (6 + 7 * j + 1))), (2, .int x2_1)]) hx hb dX3_asSet_28 rfl hl (by decide) rfl (fun ls hl => ?_)
          refine lv_iinc (v := (x2_1 + 1)) (lv' := [(2, .int (x2_1 + 1)), (1, .int (x1_1 ||| (1 <<< (x2_1 &&& 31)))), (0, .ref (ad (6 + 7 * j + 1)))]) hx hb dX3_asSet_29 hl (k := 2) rfl (by rfl) (by decide) rfl (fun ls hl => ?_)
          refine lv_goto (tgt := 4) hx hb dX3_asSet_32 (by decide) ?_
          exact ih1 (x1_1 ||| (1 <<< (x2_1 &&& 31))) (x2_1 + 1) hE hp H locs hP hS ls (lv_sub hl [2, 1, 0] rfl)
  exact L1 fu 0 0 hE hp _ _ hP hS _ (lv_sub hl [2, 1, 0] rfl)
def f_X3_nearest_l1 (fu : Nat) (V : VT) (j : Nat) (p1 : Int32) (p2 : Int32) : Nat → Int32 → Int32 → Int32 → Int32
  | 0, x3_1, x4_1, x5_1 => 0
  | w1 + 1, x3_1, x4_1, x5_1 => (if (nI 10) ≤ x5_1 then x3_1 else (if x5_1 = p2 then (f_X3_nearest_l1 fu V j p1 p2 w1 x3_1 x4_1 (x5_1 + 1)) else (if (V (6 + 7 * j + 2) x5_1.toNatClampNeg) = (-1) then (f_X3_nearest_l1 fu V j p1 p2 w1 x3_1 x4_1 (x5_1 + 1)) else (if x4_1 ≤ (f_J6_bitCount_0f7a4 V (p1 ^^^ (V (6 + 7 * j + 2) x5_1.toNatClampNeg))) then (f_X3_nearest_l1 fu V j p1 p2 w1 x3_1 x4_1 (x5_1 + 1)) else (f_X3_nearest_l1 fu V j p1 p2 w1 x5_1 (f_J6_bitCount_0f7a4 V (p1 ^^^ (V (6 + 7 * j + 2) x5_1.toNatClampNeg))) (x5_1 + 1))))))
def p_X3_nearest_l1 (fu : Nat) (V : VT) (j : Nat) (p1 : Int32) (p2 : Int32) : Nat → Int32 → Int32 → Int32 → Prop
  | 0, _, _, _ => False
  | w1 + 1, x3_1, x4_1, x5_1 => (((nI 10) ≤ x5_1 → True) ∧ (¬ ((nI 10) ≤ x5_1) → ((vp_in x5_1 10) ∧ ((x5_1 = p2 → (p_X3_nearest_l1 fu V j p1 p2 w1 x3_1 x4_1 (x5_1 + 1))) ∧ (¬ (x5_1 = p2) → ((vp_in x5_1 10) ∧ (((V (6 + 7 * j + 2) x5_1.toNatClampNeg) = (-1) → (p_X3_nearest_l1 fu V j p1 p2 w1 x3_1 x4_1 (x5_1 + 1))) ∧ (¬ ((V (6 + 7 * j + 2) x5_1.toNatClampNeg) = (-1)) → ((x4_1 ≤ (f_J6_bitCount_0f7a4 V (p1 ^^^ (V (6 + 7 * j + 2) x5_1.toNatClampNeg))) → (p_X3_nearest_l1 fu V j p1 p2 w1 x3_1 x4_1 (x5_1 + 1))) ∧ (¬ (x4_1 ≤ (f_J6_bitCount_0f7a4 V (p1 ^^^ (V (6 + 7 * j + 2) x5_1.toNatClampNeg)))) → (p_X3_nearest_l1 fu V j p1 p2 w1 x5_1 (f_J6_bitCount_0f7a4 V (p1 ^^^ (V (6 + 7 * j + 2) x5_1.toNatClampNeg))) (x5_1 + 1))))))))))))
def f_X3_nearest (fu : Nat) (V : VT) (j : Nat) (p1 : Int32) (p2 : Int32) : Int32 := (f_X3_nearest_l1 fu V j p1 p2 fu (-1) 16 0)
def p_X3_nearest (fu : Nat) (V : VT) (j : Nat) (p1 : Int32) (p2 : Int32) : Prop := (p_X3_nearest_l1 fu V j p1 p2 fu (-1) 16 0)
set_option maxHeartbeats 4000000 in
set_option maxRecDepth 100000 in
theorem m_X3_nearest (l : Launch) (D : va_G) (cI cB : ClassId) (ad : Nat → Nat) (fu : Nat) (V : VT) (j : Nat) (p1 : Int32) (p2 : Int32) (hj : j < 6) (hp : p_X3_nearest fu V j p1 p2) : Met l yX3_nearest wsX3_nearest ({ frames := 1, cells := 0, slots := 0, locals := 20 }) (cP D cI cB ad V [.ref (ad (6 + 7 * j + 1)), .int p1, .int p2]) (cR (f_X3_nearest fu V j p1 p2)) 0 0 (fun _ => False) := by
  refine Met.ofW (cc := cX3_nearest) (maxL := 7) (ret := (some .int)) (by decide +kernel) rfl ?_
  intro p e s m args below meth c s₁ B hml hv
  obtain ⟨rfl, hP, hKN⟩ := hv
  have hK := hKN.1
  have hx := B.exec
  have hb := B.bytes
  have hr := B.returns
  have hts := atoms_spec (ws := wsX3_nearest) B.pre
  have hown : s.vm.findClass RX3 = some m.cls := findClass_of_methodNamed B.named
  have hlocks := B.notSynchronized
  have hS : va_S (fun _ => False) s.heap s.heap [] := va_S.rf
  have hl := lv_entry ([.ref (ad (6 + 7 * j + 1)), .int p1, .int p2]) (n := 7) (Nat.le_of_ble_eq_true rfl)
  rw [lg_entry_eq]
  generalize (lg_sl ([.ref (ad (6 + 7 * j + 1)), .int p1, .int p2]) ++ List.replicate (7 - (lg_sl ([.ref (ad (6 + 7 * j + 1)), .int p1, .int p2])).length) Slot.unset).toArray = ls at hl ⊢
  have hl : lv_has ls 7 [(0, .ref (ad (6 + 7 * j + 1))), (1, .int p1), (2, .int p2)] := hl
  have hE : f_X3_nearest fu V j p1 p2 = (f_X3_nearest_l1 fu V j p1 p2 fu (-1) 16 0) := rfl
  refine lv_iconst (v := (-1)) hx hb dX3_nearest_0 (by decide) ?_
  refine lv_istore_n (lv' := [(3, .int (-1)), (0, .ref (ad (6 + 7 * j + 1))), (1, .int p1), (2, .int p2)]) hx hb dX3_nearest_1 rfl hl (by decide) rfl (fun ls hl => ?_)
  refine lv_bipush (v := 16) hx hb dX3_nearest_2 (by decide) ?_
  refine lv_istore (lv' := [(4, .int 16), (3, .int (-1)), (0, .ref (ad (6 + 7 * j + 1))), (1, .int p1), (2, .int p2)]) hx hb dX3_nearest_4 hl (by decide) rfl (fun ls hl => ?_)
  refine lv_iconst (v := 0) hx hb dX3_nearest_6 (by decide) ?_
  refine lv_istore (lv' := [(5, .int 0), (4, .int 16), (3, .int (-1)), (0, .ref (ad (6 + 7 * j + 1))), (1, .int p1), (2, .int p2)]) hx hb dX3_nearest_7 hl (by decide) rfl (fun ls hl => ?_)
  have L1 : ∀ (w1 : Nat) (x3_1 : Int32) (x4_1 : Int32) (x5_1 : Int32), f_X3_nearest fu V j p1 p2 = f_X3_nearest_l1 fu V j p1 p2 w1 x3_1 x4_1 x5_1 → p_X3_nearest_l1 fu V j p1 p2 w1 x3_1 x4_1 x5_1 → ∀ (H : Heap) (locs : List Loc), wP D cI cB ad V H → va_S (fun _ => False) s.heap H locs → ∀ (ls : Array Slot), lv_has ls 7 [(0, .ref (ad (6 + 7 * j + 1))), (1, .int p1), (2, .int p2), (3, .int x3_1), (4, .int x4_1), (5, .int x5_1)] → W p l e (headSpec wsX3_nearest ({ frames := 1, cells := 0, slots := 0, locals := 20 })).room s m ([.ref (ad (6 + 7 * j + 1)), .int p1, .int p2] : List Value).toArray below meth c H locs 0 0 (MQ below (cR (f_X3_nearest fu V j p1 p2)) ([.ref (ad (6 + 7 * j + 1)), .int p1, .int p2] : List Value).toArray s 0 0 (fun _ => False)) (F0 m 9 ls []) := by
    intro w1
    induction w1 with
    | zero => intro x3_1 x4_1 x5_1 hE hp; exact hp.elim
    | succ w1 ih1 =>
      intro x3_1 x4_1 x5_1 hE hp H locs hP hS ls hl
      rw [f_X3_nearest_l1] at hE
      rw [p_X3_nearest_l1] at hp
      refine lv_iload hx hb dX3_nearest_9 (lv_at hl 5 rfl) ?_
      refine lv_aload_n hx hb dX3_nearest_11 rfl (lv_at hl 0 rfl) ?_
      refine x_get (ci := 3) (fs := [.ref (ad (6 + 7 * j + 2))]) (q := (6 + 7 * j + 1)) (v := .ref (ad (6 + 7 * j + 2))) (N := 1) hx hb hts (fun _ h => List.mem_cons_of_mem _ (List.mem_append_right _ h)) hown hK hP (by have := hj; omega) (ce_lt ad cI cB hj (V (6 + 7 * j + 1))) rfl 0 (by decide) (hts (.fieldLink RX3 9 "TurnedBoards$Letters" "drawn" "[I") (List.mem_of_getElem? (i := 1) rfl)) rfl rfl dX3_nearest_12 ?_
      refine x_alen hx hb hK hP (rw_bd ad cI cB (j := j) (r := 2) hj (by decide) (fun _ => rfl)) dX3_nearest_15 ?_
      refine lv_icmp_ge (tgt := 70) hx hb dX3_nearest_16 (by decide) (fun c1 => ?_) (fun c1 => ?_)
      · have hE := hE.trans (if_pos c1)
        refine lv_iload_n hx hb dX3_nearest_70 rfl (lv_at hl 3 rfl) ?_
        exact W.iret (v := x3_1) hx hb hr (fun t ht hW => ⟨⟨x3_1, (), rfl, hE.symm, trivial⟩, hS.F ht⟩) hS.2.2 dX3_nearest_71
      · have hE := hE.trans (if_neg c1)
        have hp := pc_bn hp c1
        refine lv_iload_n hx hb dX3_nearest_19 rfl (lv_at hl 1 rfl) ?_
        refine lv_aload_n hx hb dX3_nearest_20 rfl (lv_at hl 0 rfl) ?_
        refine x_get (ci := 3) (fs := [.ref (ad (6 + 7 * j + 2))]) (q := (6 + 7 * j + 1)) (v := .ref (ad (6 + 7 * j + 2))) (N := 1) hx hb hts (fun _ h => List.mem_cons_of_mem _ (List.mem_append_right _ h)) hown hK hP (by have := hj; omega) (ce_lt ad cI cB hj (V (6 + 7 * j + 1))) rfl 0 (by decide) (hts (.fieldLink RX3 9 "TurnedBoards$Letters" "drawn" "[I") (List.mem_of_getElem? (i := 1) rfl)) rfl rfl dX3_nearest_21 ?_
        refine lv_iload hx hb dX3_nearest_24 (lv_at hl 5 rfl) ?_
        obtain ⟨hn1, hp⟩ := hp
        refine x_iald hx hb hK hP (rw_bd ad cI cB (j := j) (r := 2) hj (by decide) (fun _ => rfl)) hn1 dX3_nearest_26 ?_
        refine lv_ixor hx hb dX3_nearest_27 ?_
        refine k_SR (As := [.int (p1 ^^^ (V (6 + 7 * j + 2) x5_1.toNatClampNeg))]) (rest := []) ⟨hx, hb, hml, hown, hts⟩ hKN hP hS (m_J6_bitCount_0f7a4 l D cI cB ad V (p1 ^^^ (V (6 + 7 * j + 2) x5_1.toNatClampNeg))) (va_cwS 1 hts gX3_nearest_J6_bitCount_0f7a4 rfl rfl rfl (by decide +kernel) ⟨(Nat.le_of_ble_eq_true rfl), (Nat.le_of_ble_eq_true rfl)⟩) rfl hl.1 rfl (Nat.le_of_ble_eq_true rfl) dX3_nearest_28 ⟨Nat.zero_le _, Nat.zero_le _⟩ (fun H locs hP hS => ?_)
        refine lv_istore (lv' := [(6, .int (f_J6_bitCount_0f7a4 V (p1 ^^^ (V (6 + 7 * j + 2) x5_1.toNatClampNeg)))), (0, .ref (ad (6 + 7 * j + 1))), (1, .int p1), (2, .int p2), (3, .int x3_1), (4, .int x4_1), (5, .int x5_1)]) hx hb dX3_nearest_31 hl (by decide) rfl (fun ls hl => ?_)
        refine lv_iload hx hb dX3_nearest_33 (lv_at hl 6 rfl) ?_
        refine lv_iload_n hx hb dX3_nearest_35 rfl (lv_at hl 3 rfl) ?_
        refine lv_icmp_eq (tgt := 64) hx hb dX3_nearest_36 (by decide) (fun c2 => ?_) (fun c2 => ?_)
        · have hE := hE.trans (if_pos c2)
          have hp := pc_br hp c2
          refine lv_iinc (v := (x5_1 + 1)) (lv' := [(5, .int (x5_1 + 1)), (6, .int (f_J6_bitCount_0f7a4 V (p1 ^^^ (V (6 + 7 * j + 2) x5_1.toNatClampNeg)))), (0, .ref (ad (6 + 7 * j + 1))), (1, .int p1), (2, .int p2), (3, .int x3_1), (4, .int x4_1)]) hx hb dX3_nearest_64 hl (k := 6) rfl (by rfl) (by decide) rfl (fun ls hl => ?_)
          refine lv_goto (tgt := 9) hx hb dX3_nearest_67 (by decide) ?_
          exact ih1 x3_1 x4_1 (x5_1 + 1) hE hp H locs hP hS ls (lv_sub hl [2, 3, 4, 5, 6, 0] rfl)
        · have hE := hE.trans (if_neg c2)
          have hp := pc_bn hp c2
          refine lv_aload_n hx hb dX3_nearest_39 rfl (lv_at hl 1 rfl) ?_
          refine x_get (ci := 3) (fs := [.ref (ad (6 + 7 * j + 2))]) (q := (6 + 7 * j + 1)) (v := .ref (ad (6 + 7 * j + 2))) (N := 1) hx hb hts (fun _ h => List.mem_cons_of_mem _ (List.mem_append_right _ h)) hown hK hP (by have := hj; omega) (ce_lt ad cI cB hj (V (6 + 7 * j + 1))) rfl 0 (by decide) (hts (.fieldLink RX3 9 "TurnedBoards$Letters" "drawn" "[I") (List.mem_of_getElem? (i := 1) rfl)) rfl rfl dX3_nearest_40 ?_
          refine lv_iload hx hb dX3_nearest_43 (lv_at hl 6 rfl) ?_
          obtain ⟨hn2, hp⟩ := hp
          refine x_iald hx hb hK hP (rw_bd ad cI cB (j := j) (r := 2) hj (by decide) (fun _ => rfl)) hn2 dX3_nearest_45 ?_
          refine lv_iconst (v := (-1)) hx hb dX3_nearest_46 (by decide) ?_
          refine lv_icmp_eq (tgt := 64) hx hb dX3_nearest_47 (by decide) (fun c3 => ?_) (fun c3 => ?_)
          · have hE := hE.trans (if_pos c3)
            have hp := pc_br hp c3
            refine lv_iinc (v := (x5_1 + 1)) (lv' := [(5, .int (x5_1 + 1)), (6, .int (f_J6_bitCount_0f7a4 V (p1 ^^^ (V (6 + 7 * j + 2) x5_1.toNatClampNeg)))), (0, .ref (ad (6 + 7 * j + 1))), (1, .int p1), (2, .int p2), (3, .int x3_1), (4, .int x4_1)]) hx hb dX3_nearest_64 hl (k := 6) rfl (by rfl) (by decide) rfl (fun ls hl => ?_)
            refine lv_goto (tgt := 9) hx hb dX3_nearest_67 (by decide) ?_
            exact ih1 x3_1 x4_1 (x5_1 + 1) hE hp H locs hP hS ls (lv_sub hl [2, 3, 4, 5, 6, 0] rfl)
          · have hE := hE.trans (if_neg c3)
            have hp := pc_bn hp c3
            refine lv_iload hx hb dX3_nearest_50 (lv_at hl 0 rfl) ?_
            refine lv_iload hx hb dX3_nearest_52 (lv_at hl 5 rfl) ?_
            refine lv_icmp_ge (tgt := 64) hx hb dX3_nearest_54 (by decide) (fun c4 => ?_) (fun c4 => ?_)
            · have hE := hE.trans (if_pos c4)
              have hp := pc_br hp c4
              refine lv_iinc (v := (x5_1 + 1)) (lv' := [(5, .int (x5_1 + 1)), (6, .int (f_J6_bitCount_0f7a4 V (p1 ^^^ (V (6 + 7 * j + 2) x5_1.toNatClampNeg)))), (0, .ref (ad (6 + 7 * j + 1))), (1, .int p1), (2, .int p2), (3, .int x3_1), (4, .int x4_1)]) hx hb dX3_nearest_64 hl (k := 6) rfl (by rfl) (by decide) rfl (fun ls hl => ?_)
              refine lv_goto (tgt := 9) hx hb dX3_nearest_67 (by decide) ?_
              exact ih1 x3_1 x4_1 (x5_1 + 1) hE hp H locs hP hS ls (lv_sub hl [2, 3, 4, 5, 6, 0] rfl)
            · have hE := hE.trans (if_neg c4)
              have hp := pc_bn hp c4
              refine lv_iload hx hb dX3_nearest_57 (lv_at hl 6 rfl) ?_
              refine lv_istore_n (lv' := [(3, .int x5_1), (6, .int (f_J6_bitCount_0f7a4 V (p1 ^^^ (V (6 + 7 * j + 2) x5_1.toNatClampNeg)))), (0, .ref (ad (6 + 7 * j + 1))), (1, .int p1), (2, .int p2), (4, .int x4_1), (5, .int x5_1)]) hx hb dX3_nearest_59 rfl hl (by decide) rfl (fun ls hl => ?_)
              refine lv_iload hx hb dX3_nearest_60 (lv_at hl 1 rfl) ?_
              refine lv_istore (lv' := [(4, .int (f_J6_bitCount_0f7a4 V (p1 ^^^ (V (6 + 7 * j + 2) x5_1.toNatClampNeg)))), (3, .int x5_1), (6, .int (f_J6_bitCount_0f7a4 V (p1 ^^^ (V (6 + 7 * j + 2) x5_1.toNatClampNeg)))), (0, .ref (ad (6 + 7 * j + 1))), (1, .int p1), (2, .int p2), (5, .int x5_1)]) hx hb dX3_nearest_62 hl (by decide) rfl (fun ls hl => ?_)
              refine lv_iinc (v := (x5_1 + 1)) (lv' := [(5, .int (x5_1 + 1)), (4, .int (f_J6_bitCount_0f7a4 V (p1 ^^^ (V (6 + 7 * j + 2) x5_1.toNatClampNeg)))), (3, .int x5_1), (6, .int (f_J6_bitCount_0f7a4 V (p1 ^^^ (V (6 + 7 * j + 2) x5_1.toNatClampNeg)))), (0, .ref (ad (6 + 7 * j + 1))), (1, .int p1), (2, .int p2)]) hx hb dX3_nearest_64 hl (k := 6) rfl (by rfl) (by decide) rfl (fun ls hl => ?_)
              refine lv_goto (tgt := 9) hx hb dX3_nearest_67 (by decide) ?_
              exact ih1 x5_1 (f_J6_bitCount_0f7a4 V (p1 ^^^ (V (6 + 7 * j + 2) x5_1.toNatClampNeg))) (x5_1 + 1) hE hp H locs hP hS ls (lv_sub hl [4, 5, 6, 2, 1, 0] rfl)
  exact L1 fu (-1) 16 0 hE hp _ _ hP hS _ (lv_sub hl [3, 4, 5, 2, 1, 0] rfl)
def f_X3_marginOf_l1 (fu : Nat) (V : VT) (j : Nat) (p1 : Int32) (p2 : Int32) : Nat → Int32 → Int32 → Int32
  | 0, x3_1, x4_1 => 0
  | w1 + 1, x3_1, x4_1 => (if (nI 10) ≤ x4_1 then (x3_1 - (f_J6_bitCount_0f7a4 V (p1 ^^^ (f_X3_signFor V j p2)))) else (if x4_1 = p2 then (f_X3_marginOf_l1 fu V j p1 p2 w1 x3_1 (x4_1 + 1)) else (if (V (6 + 7 * j + 2) x4_1.toNatClampNeg) = (-1) then (f_X3_marginOf_l1 fu V j p1 p2 w1 x3_1 (x4_1 + 1)) else (f_X3_marginOf_l1 fu V j p1 p2 w1 (if (f_J6_bitCount_0f7a4 V (p1 ^^^ (V (6 + 7 * j + 2) x4_1.toNatClampNeg))) < x3_1 then (f_J6_bitCount_0f7a4 V (p1 ^^^ (V (6 + 7 * j + 2) x4_1.toNatClampNeg))) else x3_1) (x4_1 + 1)))))
def p_X3_marginOf_l1 (fu : Nat) (V : VT) (j : Nat) (p1 : Int32) (p2 : Int32) : Nat → Int32 → Int32 → Prop
  | 0, _, _ => False
  | w1 + 1, x3_1, x4_1 => (((nI 10) ≤ x4_1 → True) ∧ (¬ ((nI 10) ≤ x4_1) → ((x4_1 = p2 → (p_X3_marginOf_l1 fu V j p1 p2 w1 x3_1 (x4_1 + 1))) ∧ (¬ (x4_1 = p2) → ((vp_in x4_1 10) ∧ (((V (6 + 7 * j + 2) x4_1.toNatClampNeg) = (-1) → (p_X3_marginOf_l1 fu V j p1 p2 w1 x3_1 (x4_1 + 1))) ∧ (¬ ((V (6 + 7 * j + 2) x4_1.toNatClampNeg) = (-1)) → ((vp_in x4_1 10) ∧ (p_X3_marginOf_l1 fu V j p1 p2 w1 (if (f_J6_bitCount_0f7a4 V (p1 ^^^ (V (6 + 7 * j + 2) x4_1.toNatClampNeg))) < x3_1 then (f_J6_bitCount_0f7a4 V (p1 ^^^ (V (6 + 7 * j + 2) x4_1.toNatClampNeg))) else x3_1) (x4_1 + 1))))))))))
def f_X3_marginOf (fu : Nat) (V : VT) (j : Nat) (p1 : Int32) (p2 : Int32) : Int32 := (f_X3_marginOf_l1 fu V j p1 p2 fu 15 0)
def p_X3_marginOf (fu : Nat) (V : VT) (j : Nat) (p1 : Int32) (p2 : Int32) : Prop := (p_X3_marginOf_l1 fu V j p1 p2 fu 15 0)
set_option maxHeartbeats 4000000 in
set_option maxRecDepth 100000 in
theorem m_X3_marginOf (l : Launch) (D : va_G) (cI cB : ClassId) (ad : Nat → Nat) (fu : Nat) (V : VT) (j : Nat) (p1 : Int32) (p2 : Int32) (hj : j < 6) (hp : p_X3_marginOf fu V j p1 p2) : Met l yX3_marginOf wsX3_marginOf ({ frames := 1, cells := 0, slots := 0, locals := 21 }) (cP D cI cB ad V [.ref (ad (6 + 7 * j + 1)), .int p1, .int p2]) (cR (f_X3_marginOf fu V j p1 p2)) 0 0 (fun _ => False) := by
  refine Met.ofW (cc := cX3_marginOf) (maxL := 5) (ret := (some .int)) (by decide +kernel) rfl ?_
  intro p e s m args below meth c s₁ B hml hv
  obtain ⟨rfl, hP, hKN⟩ := hv
  have hK := hKN.1
  have hx := B.exec
  have hb := B.bytes
  have hr := B.returns
  have hts := atoms_spec (ws := wsX3_marginOf) B.pre
  have hown : s.vm.findClass RX3 = some m.cls := findClass_of_methodNamed B.named
  have hlocks := B.notSynchronized
  have hS : va_S (fun _ => False) s.heap s.heap [] := va_S.rf
  have hl := lv_entry ([.ref (ad (6 + 7 * j + 1)), .int p1, .int p2]) (n := 5) (Nat.le_of_ble_eq_true rfl)
  rw [lg_entry_eq]
  generalize (lg_sl ([.ref (ad (6 + 7 * j + 1)), .int p1, .int p2]) ++ List.replicate (5 - (lg_sl ([.ref (ad (6 + 7 * j + 1)), .int p1, .int p2])).length) Slot.unset).toArray = ls at hl ⊢
  have hl : lv_has ls 5 [(0, .ref (ad (6 + 7 * j + 1))), (1, .int p1), (2, .int p2)] := hl
  have hE : f_X3_marginOf fu V j p1 p2 = (f_X3_marginOf_l1 fu V j p1 p2 fu 15 0) := rfl
  refine lv_bipush (v := 15) hx hb dX3_marginOf_0 (by decide) ?_
  refine lv_istore_n (lv' := [(3, .int 15), (0, .ref (ad (6 + 7 * j + 1))), (1, .int p1), (2, .int p2)]) hx hb dX3_marginOf_2 rfl hl (by decide) rfl (fun ls hl => ?_)
  refine lv_iconst (v := 0) hx hb dX3_marginOf_3 (by decide) ?_
  refine lv_istore (lv' := [(4, .int 0), (3, .int 15), (0, .ref (ad (6 + 7 * j + 1))), (1, .int p1), (2, .int p2)]) hx hb dX3_marginOf_4 hl (by decide) rfl (fun ls hl => ?_)
  have L1 : ∀ (w1 : Nat) (x3_1 : Int32) (x4_1 : Int32), f_X3_marginOf fu V j p1 p2 = f_X3_marginOf_l1 fu V j p1 p2 w1 x3_1 x4_1 → p_X3_marginOf_l1 fu V j p1 p2 w1 x3_1 x4_1 → ∀ (H : Heap) (locs : List Loc), wP D cI cB ad V H → va_S (fun _ => False) s.heap H locs → ∀ (ls : Array Slot), lv_has ls 5 [(0, .ref (ad (6 + 7 * j + 1))), (1, .int p1), (2, .int p2), (3, .int x3_1), (4, .int x4_1)] → W p l e (headSpec wsX3_marginOf ({ frames := 1, cells := 0, slots := 0, locals := 21 })).room s m ([.ref (ad (6 + 7 * j + 1)), .int p1, .int p2] : List Value).toArray below meth c H locs 0 0 (MQ below (cR (f_X3_marginOf fu V j p1 p2)) ([.ref (ad (6 + 7 * j + 1)), .int p1, .int p2] : List Value).toArray s 0 0 (fun _ => False)) (F0 m 6 ls []) := by
    intro w1
    induction w1 with
    | zero => intro x3_1 x4_1 hE hp; exact hp.elim
    | succ w1 ih1 =>
      intro x3_1 x4_1 hE hp H locs hP hS ls hl
      rw [f_X3_marginOf_l1] at hE
      rw [p_X3_marginOf_l1] at hp
      refine lv_iload hx hb dX3_marginOf_6 (lv_at hl 4 rfl) ?_
      refine lv_aload_n hx hb dX3_marginOf_8 rfl (lv_at hl 0 rfl) ?_
      refine x_get (ci := 3) (fs := [.ref (ad (6 + 7 * j + 2))]) (q := (6 + 7 * j + 1)) (v := .ref (ad (6 + 7 * j + 2))) (N := 1) hx hb hts (fun _ h => List.mem_cons_of_mem _ (List.mem_append_right _ h)) hown hK hP (by have := hj; omega) (ce_lt ad cI cB hj (V (6 + 7 * j + 1))) rfl 0 (by decide) (hts (.fieldLink RX3 9 "TurnedBoards$Letters" "drawn" "[I") (List.mem_of_getElem? (i := 1) rfl)) rfl rfl dX3_marginOf_9 ?_
      refine x_alen hx hb hK hP (rw_bd ad cI cB (j := j) (r := 2) hj (by decide) (fun _ => rfl)) dX3_marginOf_12 ?_
      refine lv_icmp_ge (tgt := 56) hx hb dX3_marginOf_13 (by decide) (fun c1 => ?_) (fun c1 => ?_)
      · have hE := hE.trans (if_pos c1)
        refine lv_iload_n hx hb dX3_marginOf_56 rfl (lv_at hl 3 rfl) ?_
        refine lv_iload_n hx hb dX3_marginOf_57 rfl (lv_at hl 1 rfl) ?_
        refine lv_aload_n hx hb dX3_marginOf_58 rfl (lv_at hl 0 rfl) ?_
        refine lv_iload_n hx hb dX3_marginOf_59 rfl (lv_at hl 2 rfl) ?_
        refine k_VR (As := [.int p2]) (rest := [.int p1, .int x3_1]) (q := (6 + 7 * j + 1)) ⟨hx, hb, hml, hown, hts⟩ hKN hP hS (m_X3_signFor l D cI cB ad V j p2 hj) (cwV 1 hts gX3_marginOf_X3_signFor rfl rfl rfl (by decide +kernel) ⟨(Nat.le_of_ble_eq_true rfl), (Nat.le_of_ble_eq_true rfl)⟩) (c_preV hP hKN (q := (6 + 7 * j + 1)) (ci := 3) (fs := [.ref (ad (6 + 7 * j + 2))]) (by have := hj; omega) (ce_lt ad cI cB hj (V (6 + 7 * j + 1))) rfl rfl) rfl hl.1 rfl (Nat.le_of_ble_eq_true rfl) dX3_marginOf_60 ⟨Nat.zero_le _, Nat.zero_le _⟩ (fun H locs hP hS => ?_)
        refine lv_ixor hx hb dX3_marginOf_63 ?_
        refine k_SR (As := [.int (p1 ^^^ (f_X3_signFor V j p2))]) (rest := [.int x3_1]) ⟨hx, hb, hml, hown, hts⟩ hKN hP hS (m_J6_bitCount_0f7a4 l D cI cB ad V (p1 ^^^ (f_X3_signFor V j p2))) (va_cwS 1 hts gX3_marginOf_J6_bitCount_0f7a4 rfl rfl rfl (by decide +kernel) ⟨(Nat.le_of_ble_eq_true rfl), (Nat.le_of_ble_eq_true rfl)⟩) rfl hl.1 rfl (Nat.le_of_ble_eq_true rfl) dX3_marginOf_64 ⟨Nat.zero_le _, Nat.zero_le _⟩ (fun H locs hP hS => ?_)
        refine lv_isub hx hb dX3_marginOf_67 ?_
        exact W.iret (v := (x3_1 - (f_J6_bitCount_0f7a4 V (p1 ^^^ (f_X3_signFor V j p2))))) hx hb hr (fun t ht hW => ⟨⟨(x3_1 - (f_J6_bitCount_0f7a4 V (p1 ^^^ (f_X3_signFor V j p2)))), (), rfl, hE.symm, trivial⟩, hS.F ht⟩) hS.2.2 dX3_marginOf_68
      · have hE := hE.trans (if_neg c1)
        have hp := pc_bn hp c1
        refine lv_iload hx hb dX3_marginOf_16 (lv_at hl 4 rfl) ?_
        refine lv_iload_n hx hb dX3_marginOf_18 rfl (lv_at hl 2 rfl) ?_
        refine lv_icmp_eq (tgt := 50) hx hb dX3_marginOf_19 (by decide) (fun c2 => ?_) (fun c2 => ?_)
        · have hE := hE.trans (if_pos c2)
          have hp := pc_br hp c2
          refine lv_iinc (v := (x4_1 + 1)) (lv' := [(4, .int (x4_1 + 1)), (0, .ref (ad (6 + 7 * j + 1))), (1, .int p1), (2, .int p2), (3, .int x3_1)]) hx hb dX3_marginOf_50 hl (k := 4) rfl (by rfl) (by decide) rfl (fun ls hl => ?_)
          refine lv_goto (tgt := 6) hx hb dX3_marginOf_53 (by decide) ?_
          exact ih1 x3_1 (x4_1 + 1) hE hp H locs hP hS ls (lv_sub hl [1, 2, 3, 4, 0] rfl)
        · have hE := hE.trans (if_neg c2)
          have hp := pc_bn hp c2
          refine lv_aload_n hx hb dX3_marginOf_22 rfl (lv_at hl 0 rfl) ?_
          refine x_get (ci := 3) (fs := [.ref (ad (6 + 7 * j + 2))]) (q := (6 + 7 * j + 1)) (v := .ref (ad (6 + 7 * j + 2))) (N := 1) hx hb hts (fun _ h => List.mem_cons_of_mem _ (List.mem_append_right _ h)) hown hK hP (by have := hj; omega) (ce_lt ad cI cB hj (V (6 + 7 * j + 1))) rfl 0 (by decide) (hts (.fieldLink RX3 9 "TurnedBoards$Letters" "drawn" "[I") (List.mem_of_getElem? (i := 1) rfl)) rfl rfl dX3_marginOf_23 ?_
          refine lv_iload hx hb dX3_marginOf_26 (lv_at hl 4 rfl) ?_
          obtain ⟨hn1, hp⟩ := hp
          refine x_iald hx hb hK hP (rw_bd ad cI cB (j := j) (r := 2) hj (by decide) (fun _ => rfl)) hn1 dX3_marginOf_28 ?_
          refine lv_iconst (v := (-1)) hx hb dX3_marginOf_29 (by decide) ?_
          refine lv_icmp_eq (tgt := 50) hx hb dX3_marginOf_30 (by decide) (fun c3 => ?_) (fun c3 => ?_)
          · have hE := hE.trans (if_pos c3)
            have hp := pc_br hp c3
            refine lv_iinc (v := (x4_1 + 1)) (lv' := [(4, .int (x4_1 + 1)), (0, .ref (ad (6 + 7 * j + 1))), (1, .int p1), (2, .int p2), (3, .int x3_1)]) hx hb dX3_marginOf_50 hl (k := 4) rfl (by rfl) (by decide) rfl (fun ls hl => ?_)
            refine lv_goto (tgt := 6) hx hb dX3_marginOf_53 (by decide) ?_
            exact ih1 x3_1 (x4_1 + 1) hE hp H locs hP hS ls (lv_sub hl [1, 2, 3, 4, 0] rfl)
          · have hE := hE.trans (if_neg c3)
            have hp := pc_bn hp c3
            refine lv_iload_n hx hb dX3_marginOf_33 rfl (lv_at hl 3 rfl) ?_
            refine lv_iload_n hx hb dX3_marginOf_34 rfl (lv_at hl 1 rfl) ?_
            refine lv_aload_n hx hb dX3_marginOf_35 rfl (lv_at hl 0 rfl) ?_
            refine x_get (ci := 3) (fs := [.ref (ad (6 + 7 * j + 2))]) (q := (6 + 7 * j + 1)) (v := .ref (ad (6 + 7 * j + 2))) (N := 1) hx hb hts (fun _ h => List.mem_cons_of_mem _ (List.mem_append_right _ h)) hown hK hP (by have := hj; omega) (ce_lt ad cI cB hj (V (6 + 7 * j + 1))) rfl 0 (by decide) (hts (.fieldLink RX3 9 "TurnedBoards$Letters" "drawn" "[I") (List.mem_of_getElem? (i := 1) rfl)) rfl rfl dX3_marginOf_36 ?_
            refine lv_iload hx hb dX3_marginOf_39 (lv_at hl 4 rfl) ?_
            obtain ⟨hn2, hp⟩ := hp
            refine x_iald hx hb hK hP (rw_bd ad cI cB (j := j) (r := 2) hj (by decide) (fun _ => rfl)) hn2 dX3_marginOf_41 ?_
            refine lv_ixor hx hb dX3_marginOf_42 ?_
            refine k_SR (As := [.int (p1 ^^^ (V (6 + 7 * j + 2) x4_1.toNatClampNeg))]) (rest := [.int x3_1]) ⟨hx, hb, hml, hown, hts⟩ hKN hP hS (m_J6_bitCount_0f7a4 l D cI cB ad V (p1 ^^^ (V (6 + 7 * j + 2) x4_1.toNatClampNeg))) (va_cwS 1 hts gX3_marginOf_J6_bitCount_0f7a4 rfl rfl rfl (by decide +kernel) ⟨(Nat.le_of_ble_eq_true rfl), (Nat.le_of_ble_eq_true rfl)⟩) rfl hl.1 rfl (Nat.le_of_ble_eq_true rfl) dX3_marginOf_43 ⟨Nat.zero_le _, Nat.zero_le _⟩ (fun H locs hP hS => ?_)
            refine va_mmin hx hb (hml.trans hl.1.symm) hown (hts (.methodLink RX3 30 Lib.Math.min.name) (List.mem_of_getElem? (i := 2) rfl)) (hts (.static Lib.Math.min.name) (List.mem_of_getElem? (i := 3) rfl)) (hts (.initialized "java/lang/Math") (List.mem_of_getElem? (i := 4) rfl)) (hts (.code Lib.Math.min.name Lib.Math.min.code 2 (some .int)) (List.mem_of_getElem? (i := 5) rfl)) (Nat.le_of_ble_eq_true rfl) (Nat.le_of_ble_eq_true rfl) (Nat.zero_le _) (Nat.zero_le _) dX3_marginOf_46 ?_
            refine lv_istore_n (lv' := [(3, .int (if (f_J6_bitCount_0f7a4 V (p1 ^^^ (V (6 + 7 * j + 2) x4_1.toNatClampNeg))) < x3_1 then (f_J6_bitCount_0f7a4 V (p1 ^^^ (V (6 + 7 * j + 2) x4_1.toNatClampNeg))) else x3_1)), (0, .ref (ad (6 + 7 * j + 1))), (1, .int p1), (2, .int p2), (4, .int x4_1)]) hx hb dX3_marginOf_49 rfl hl (by decide) rfl (fun ls hl => ?_)
            refine lv_iinc (v := (x4_1 + 1)) (lv' := [(4, .int (x4_1 + 1)), (3, .int (if (f_J6_bitCount_0f7a4 V (p1 ^^^ (V (6 + 7 * j + 2) x4_1.toNatClampNeg))) < x3_1 then (f_J6_bitCount_0f7a4 V (p1 ^^^ (V (6 + 7 * j + 2) x4_1.toNatClampNeg))) else x3_1)), (0, .ref (ad (6 + 7 * j + 1))), (1, .int p1), (2, .int p2)]) hx hb dX3_marginOf_50 hl (k := 4) rfl (by rfl) (by decide) rfl (fun ls hl => ?_)
            refine lv_goto (tgt := 6) hx hb dX3_marginOf_53 (by decide) ?_
            exact ih1 (if (f_J6_bitCount_0f7a4 V (p1 ^^^ (V (6 + 7 * j + 2) x4_1.toNatClampNeg))) < x3_1 then (f_J6_bitCount_0f7a4 V (p1 ^^^ (V (6 + 7 * j + 2) x4_1.toNatClampNeg))) else x3_1) (x4_1 + 1) hE hp H locs hP hS ls (lv_sub hl [2, 3, 4, 1, 0] rfl)
  exact L1 fu 15 0 hE hp _ _ hP hS _ (lv_sub hl [2, 3, 4, 1, 0] rfl)
def f_X3_leadOf (fu : Nat) (V : VT) (j : Nat) (p1 : Int32) (p2 : Int32) : Int32 := (if 0 < (f_X3_marginOf fu V j p1 p2) then (f_X3_marginOf fu V j p1 p2) else (if (f_X3_marginOf fu V j p1 p2) = 0 then (if (f_X3_nearest fu V j p1 (-1)) = p2 then (f_X3_marginOf fu V j p1 p2) else (-1)) else (-1)))
def p_X3_leadOf (fu : Nat) (V : VT) (j : Nat) (p1 : Int32) (p2 : Int32) : Prop := ((p_X3_marginOf fu V j p1 p2) ∧ ((0 < (f_X3_marginOf fu V j p1 p2) → True) ∧ (¬ (0 < (f_X3_marginOf fu V j p1 p2)) → (((f_X3_marginOf fu V j p1 p2) = 0 → (p_X3_nearest fu V j p1 (-1))) ∧ (¬ ((f_X3_marginOf fu V j p1 p2) = 0) → True)))))
set_option maxHeartbeats 4000000 in
set_option maxRecDepth 100000 in
theorem m_X3_leadOf (l : Launch) (D : va_G) (cI cB : ClassId) (ad : Nat → Nat) (fu : Nat) (V : VT) (j : Nat) (p1 : Int32) (p2 : Int32) (hj : j < 6) (hp : p_X3_leadOf fu V j p1 p2) : Met l yX3_leadOf wsX3_leadOf ({ frames := 2, cells := 0, slots := 0, locals := 46 }) (cP D cI cB ad V [.ref (ad (6 + 7 * j + 1)), .int p1, .int p2]) (cR (f_X3_leadOf fu V j p1 p2)) 0 0 (fun _ => False) := by
  refine Met.ofW (cc := cX3_leadOf) (maxL := 4) (ret := (some .int)) (by decide +kernel) rfl ?_
  intro p e s m args below meth c s₁ B hml hv
  obtain ⟨rfl, hP, hKN⟩ := hv
  have hK := hKN.1
  have hx := B.exec
  have hb := B.bytes
  have hr := B.returns
  have hts := atoms_spec (ws := wsX3_leadOf) B.pre
  have hown : s.vm.findClass RX3 = some m.cls := findClass_of_methodNamed B.named
  have hlocks := B.notSynchronized
  have hS : va_S (fun _ => False) s.heap s.heap [] := va_S.rf
  have hl := lv_entry ([.ref (ad (6 + 7 * j + 1)), .int p1, .int p2]) (n := 4) (Nat.le_of_ble_eq_true rfl)
  rw [lg_entry_eq]
  generalize (lg_sl ([.ref (ad (6 + 7 * j + 1)), .int p1, .int p2]) ++ List.replicate (4 - (lg_sl ([.ref (ad (6 + 7 * j + 1)), .int p1, .int p2])).length) Slot.unset).toArray = ls at hl ⊢
  have hl : lv_has ls 4 [(0, .ref (ad (6 + 7 * j + 1))), (1, .int p1), (2, .int p2)] := hl
  have hE : f_X3_leadOf fu V j p1 p2 = (if 0 < (f_X3_marginOf fu V j p1 p2) then (f_X3_marginOf fu V j p1 p2) else (if (f_X3_marginOf fu V j p1 p2) = 0 then (if (f_X3_nearest fu V j p1 (-1)) = p2 then (f_X3_marginOf fu V j p1 p2) else (-1)) else (-1))) := rfl
  refine lv_aload_n hx hb dX3_leadOf_0 rfl (lv_at hl 0 rfl) ?_
  refine lv_iload_n hx hb dX3_leadOf_1 rfl (lv_at hl 1 rfl) ?_
  refine lv_iload_n hx hb dX3_leadOf_2 rfl (lv_at hl 2 rfl) ?_
  obtain ⟨hn1, hp⟩ := hp
  refine k_VR (As := [.int p1, .int p2]) (rest := []) (q := (6 + 7 * j + 1)) ⟨hx, hb, hml, hown, hts⟩ hKN hP hS (m_X3_marginOf l D cI cB ad fu V j p1 p2 hj hn1) (cwV 2 hts gX3_leadOf_X3_marginOf rfl rfl rfl (by decide +kernel) ⟨(Nat.le_of_ble_eq_true rfl), (Nat.le_of_ble_eq_true rfl)⟩) (c_preV hP hKN (q := (6 + 7 * j + 1)) (ci := 3) (fs := [.ref (ad (6 + 7 * j + 2))]) (by have := hj; omega) (ce_lt ad cI cB hj (V (6 + 7 * j + 1))) rfl rfl) rfl hl.1 rfl (Nat.le_of_ble_eq_true rfl) dX3_leadOf_3 ⟨Nat.zero_le _, Nat.zero_le _⟩ (fun H locs hP hS => ?_)
  refine lv_istore_n (lv' := [(3, .int (f_X3_marginOf fu V j p1 p2)), (0, .ref (ad (6 + 7 * j + 1))), (1, .int p1), (2, .int p2)]) hx hb dX3_leadOf_6 rfl hl (by decide) rfl (fun ls hl => ?_)
  refine lv_iload_n hx hb dX3_leadOf_7 rfl (lv_at hl 0 rfl) ?_
  refine lv_if_gt (tgt := 25) hx hb dX3_leadOf_8 (by decide) (fun c1 => ?_) (fun c1 => ?_)
  · have hE := hE.trans (if_pos c1)
    refine lv_iload_n hx hb dX3_leadOf_25 rfl (lv_at hl 0 rfl) ?_
    refine lv_goto (tgt := 30) hx hb dX3_leadOf_26 (by decide) ?_
    exact W.iret (v := (f_X3_marginOf fu V j p1 p2)) hx hb hr (fun t ht hW => ⟨⟨(f_X3_marginOf fu V j p1 p2), (), rfl, hE.symm, trivial⟩, hS.F ht⟩) hS.2.2 dX3_leadOf_30
  · have hE := hE.trans (if_neg c1)
    have hp := pc_bn hp c1
    refine lv_iload_n hx hb dX3_leadOf_11 rfl (lv_at hl 0 rfl) ?_
    refine lv_if_ne (tgt := 29) hx hb dX3_leadOf_12 (by decide) (fun c2 => ?_) (fun c2 => ?_)
    · have hE := hE.trans (if_neg c2)
      refine lv_iconst (v := (-1)) hx hb dX3_leadOf_29 (by decide) ?_
      exact W.iret (v := (-1)) hx hb hr (fun t ht hW => ⟨⟨(-1), (), rfl, hE.symm, trivial⟩, hS.F ht⟩) hS.2.2 dX3_leadOf_30
    · have hE := hE.trans (if_pos c2)
      have hp := pc_br hp c2
      refine lv_aload_n hx hb dX3_leadOf_15 rfl (lv_at hl 1 rfl) ?_
      refine lv_iload_n hx hb dX3_leadOf_16 rfl (lv_at hl 2 rfl) ?_
      refine lv_iconst (v := (-1)) hx hb dX3_leadOf_17 (by decide) ?_
      have hn2 := hp
      refine k_VR (As := [.int p1, .int (-1)]) (rest := []) (q := (6 + 7 * j + 1)) ⟨hx, hb, hml, hown, hts⟩ hKN hP hS (m_X3_nearest l D cI cB ad fu V j p1 (-1) hj hn2) (cwV 2 hts gX3_leadOf_X3_nearest rfl rfl rfl (by decide +kernel) ⟨(Nat.le_of_ble_eq_true rfl), (Nat.le_of_ble_eq_true rfl)⟩) (c_preV hP hKN (q := (6 + 7 * j + 1)) (ci := 3) (fs := [.ref (ad (6 + 7 * j + 2))]) (by have := hj; omega) (ce_lt ad cI cB hj (V (6 + 7 * j + 1))) rfl rfl) rfl hl.1 rfl (Nat.le_of_ble_eq_true rfl) dX3_leadOf_18 ⟨Nat.zero_le _, Nat.zero_le _⟩ (fun H locs hP hS => ?_)
      refine lv_iload_n hx hb dX3_leadOf_21 rfl (lv_at hl 3 rfl) ?_
      refine lv_icmp_ne (tgt := 29) hx hb dX3_leadOf_22 (by decide) (fun c3 => ?_) (fun c3 => ?_)
      · have hE := hE.trans (if_neg c3)
        refine lv_iconst (v := (-1)) hx hb dX3_leadOf_29 (by decide) ?_
        exact W.iret (v := (-1)) hx hb hr (fun t ht hW => ⟨⟨(-1), (), rfl, hE.symm, trivial⟩, hS.F ht⟩) hS.2.2 dX3_leadOf_30
      · have hE := hE.trans (if_pos c3)
        refine lv_iload_n hx hb dX3_leadOf_25 rfl (lv_at hl 0 rfl) ?_
        refine lv_goto (tgt := 30) hx hb dX3_leadOf_26 (by decide) ?_
        exact W.iret (v := (f_X3_marginOf fu V j p1 p2)) hx hb hr (fun t ht hW => ⟨⟨(f_X3_marginOf fu V j p1 p2), (), rfl, hE.symm, trivial⟩, hS.F ht⟩) hS.2.2 dX3_leadOf_30
def f_X3_copyFrom (fu : Nat) (V : VT) (j : Nat) (j2 : Nat) : VT := (f_X4_copy fu V (6 + 7 * j2 + 2) 10 (6 + 7 * j + 2) 10)
def p_X3_copyFrom (fu : Nat) (V : VT) (j : Nat) (j2 : Nat) : Prop := (p_X4_copy fu V (6 + 7 * j2 + 2) 10 (6 + 7 * j + 2) 10)
set_option maxHeartbeats 4000000 in
set_option maxRecDepth 100000 in
theorem m_X3_copyFrom (l : Launch) (D : va_G) (cI cB : ClassId) (ad : Nat → Nat) {A : Nat → Prop} (hA : adOk ad A) (fu : Nat) (V : VT) (j : Nat) (j2 : Nat) (hj : j < 6) (hj2 : j2 < 6) (hp : p_X3_copyFrom fu V j j2) : Met l yX3_copyFrom wsX3_copyFrom ({ frames := 1, cells := 0, slots := 0, locals := 22 }) (cP D cI cB ad V [.ref (ad (6 + 7 * j + 1)), .ref (ad (6 + 7 * j2 + 1))]) (cWv D cI cB ad A (f_X3_copyFrom fu V j j2)) 0 0 A := by
  refine Met.ofW (cc := cX3_copyFrom) (maxL := 2) (ret := none) (by decide +kernel) rfl ?_
  intro p e s m args below meth c s₁ B hml hv
  obtain ⟨rfl, hP, hKN⟩ := hv
  have hK := hKN.1
  have hx := B.exec
  have hb := B.bytes
  have hr := B.returns
  have hts := atoms_spec (ws := wsX3_copyFrom) B.pre
  have hown : s.vm.findClass RX3 = some m.cls := findClass_of_methodNamed B.named
  have hlocks := B.notSynchronized
  have hS : va_S A s.heap s.heap [] := va_S.rf
  have hl := lv_entry ([.ref (ad (6 + 7 * j + 1)), .ref (ad (6 + 7 * j2 + 1))]) (n := 2) (Nat.le_of_ble_eq_true rfl)
  rw [lg_entry_eq]
  generalize (lg_sl ([.ref (ad (6 + 7 * j + 1)), .ref (ad (6 + 7 * j2 + 1))]) ++ List.replicate (2 - (lg_sl ([.ref (ad (6 + 7 * j + 1)), .ref (ad (6 + 7 * j2 + 1))])).length) Slot.unset).toArray = ls at hl ⊢
  have hl : lv_has ls 2 [(0, .ref (ad (6 + 7 * j + 1))), (1, .ref (ad (6 + 7 * j2 + 1)))] := hl
  have hE : f_X3_copyFrom fu V j j2 = (f_X4_copy fu V (6 + 7 * j2 + 2) 10 (6 + 7 * j + 2) 10) := rfl
  refine lv_aload_n hx hb dX3_copyFrom_0 rfl (lv_at hl 1 rfl) ?_
  refine lv_ifnull hx hb dX3_copyFrom_1 ?_
  refine lv_aload_n hx hb dX3_copyFrom_4 rfl (lv_at hl 1 rfl) ?_
  refine x_get (ci := 3) (fs := [.ref (ad (6 + 7 * j2 + 2))]) (q := (6 + 7 * j2 + 1)) (v := .ref (ad (6 + 7 * j2 + 2))) (N := 1) hx hb hts (fun _ h => List.mem_cons_of_mem _ (List.mem_append_right _ h)) hown hK hP (by have := hj2; omega) (ce_lt ad cI cB hj2 (V (6 + 7 * j2 + 1))) rfl 0 (by decide) (hts (.fieldLink RX3 9 "TurnedBoards$Letters" "drawn" "[I") (List.mem_of_getElem? (i := 1) rfl)) rfl rfl dX3_copyFrom_5 ?_
  refine lv_aload_n hx hb dX3_copyFrom_8 rfl (lv_at hl 0 rfl) ?_
  refine x_get (ci := 3) (fs := [.ref (ad (6 + 7 * j + 2))]) (q := (6 + 7 * j + 1)) (v := .ref (ad (6 + 7 * j + 2))) (N := 1) hx hb hts (fun _ h => List.mem_cons_of_mem _ (List.mem_append_right _ h)) hown hK hP (by have := hj; omega) (ce_lt ad cI cB hj (V (6 + 7 * j + 1))) rfl 0 (by decide) (hts (.fieldLink RX3 9 "TurnedBoards$Letters" "drawn" "[I") (List.mem_of_getElem? (i := 1) rfl)) rfl rfl dX3_copyFrom_9 ?_
  have hn1 := hp
  refine k_SWv (As := [.ref (ad (6 + 7 * j2 + 2)), .ref (ad (6 + 7 * j + 2))]) (rest := []) ⟨hx, hb, hml, hown, hts⟩ hKN hP hS (m_X4_copy l D cI cB 54 (cellOf ad cI cB) ad hA fu V (6 + 7 * j2 + 2) 10 (6 + 7 * j + 2) 10 (rw_bd ad cI cB (j := j2) (r := 2) hj2 (by decide) (fun _ => rfl)) (rw_bd ad cI cB (j := j) (r := 2) hj (by decide) (fun _ => rfl)) hn1) (va_cwS 2 hts gX3_copyFrom_X4_copy rfl rfl rfl (by decide +kernel) ⟨(Nat.le_of_ble_eq_true rfl), (Nat.le_of_ble_eq_true rfl)⟩) rfl hl.1 rfl (Nat.le_of_ble_eq_true rfl) dX3_copyFrom_12 ⟨Nat.zero_le _, Nat.zero_le _⟩ (fun H locs hP hS => ?_)
  exact W.vret hx hb hr (fun t ht hW => ⟨⟨(f_X4_copy fu V (6 + 7 * j2 + 2) 10 (6 + 7 * j + 2) 10), rfl, hE.symm, by dsimp only; rw [ht]; exact hP⟩, hS.F ht⟩) hS.2.2 dX3_copyFrom_15
