/-! contracts by program (wip/whole/gen): f_ what a method answers or makes of the table, p_ what it needs, m_ the contract -/
def a_J6_bitCount_0f7a4_23 (p1 : Int32) : Int32 := (((p1 - ((jushr p1 1) &&& 1431655765)) &&& 858993459) + ((jushr (p1 - ((jushr p1 1) &&& 1431655765)) 2) &&& 858993459))
def a_J6_bitCount_0f7a4_33 (p1 : Int32) : Int32 := (((a_J6_bitCount_0f7a4_23 p1) + (jushr (a_J6_bitCount_0f7a4_23 p1) 4)) &&& 252645135)
def a_J6_bitCount_0f7a4_40 (p1 : Int32) : Int32 := ((a_J6_bitCount_0f7a4_33 p1) + (jushr (a_J6_bitCount_0f7a4_33 p1) 8))
def a_J6_bitCount_0f7a4_47 (p1 : Int32) : Int32 := ((a_J6_bitCount_0f7a4_40 p1) + (jushr (a_J6_bitCount_0f7a4_40 p1) 16))
def f_J6_bitCount_0f7a4 (V : VT) (p1 : Int32) : Int32 := ((a_J6_bitCount_0f7a4_47 p1) &&& 63)
set_option maxHeartbeats 4000000 in
set_option maxRecDepth 100000 in
theorem m_J6_bitCount_0f7a4 (l : Launch) (D : va_G) (cI cB : ClassId) (ad : Nat → Nat) (V : VT) (p1 : Int32)  : Met l yJ6_bitCount_0f7a4 wsJ6_bitCount_0f7a4 ({ frames := 0, cells := 0, slots := 0, locals := 0 }) (cP D cI cB ad V [.int p1]) (cR (f_J6_bitCount_0f7a4 V p1)) 0 0 (fun _ => False) := by
  refine Met.ofW (cc := cJ6_bitCount_0f7a4) (maxL := 1) (ret := (some .int)) (by decide +kernel) rfl ?_
  intro p e s m args below meth c s₁ B hml hv
  obtain ⟨rfl, hP, hKN⟩ := hv
  have hK := hKN.1
  have hx := B.exec
  have hb := B.bytes
  have hr := B.returns
  have hts := atoms_spec (ws := wsJ6_bitCount_0f7a4) B.pre
  have hown : s.vm.findClass RJ6 = some m.cls := findClass_of_methodNamed B.named
  have hlocks := B.notSynchronized
  have hS : va_S (fun _ => False) s.heap s.heap [] := va_S.rf
  have hl := lv_entry ([.int p1]) (n := 1) (Nat.le_of_ble_eq_true rfl)
  rw [lg_entry_eq]
  generalize (lg_sl ([.int p1]) ++ List.replicate (1 - (lg_sl ([.int p1])).length) Slot.unset).toArray = ls at hl ⊢
  have hl : lv_has ls 1 [(0, .int p1)] := hl
  have hE : f_J6_bitCount_0f7a4 V p1 = ((a_J6_bitCount_0f7a4_47 p1) &&& 63) := rfl
  refine lv_iload_n hx hb dJ6_bitCount_0f7a4_0 rfl (lv_at hl 0 rfl) ?_
  refine lv_iload_n hx hb dJ6_bitCount_0f7a4_1 rfl (lv_at hl 0 rfl) ?_
  refine lv_iconst (v := 1) hx hb dJ6_bitCount_0f7a4_2 (by decide) ?_
  refine lv_iushr (v := jushr p1 1) hx hb dJ6_bitCount_0f7a4_3 rfl ?_
  refine lv_ldcw (v := 1431655765) hx hb hown (hts (.constant RJ6 265 (1431655765)) (List.mem_of_getElem? (i := 1) rfl)) dJ6_bitCount_0f7a4_4 ?_
  refine lv_iand hx hb dJ6_bitCount_0f7a4_7 ?_
  refine lv_isub hx hb dJ6_bitCount_0f7a4_8 ?_
  refine lv_istore_n (lv' := [(0, .int (p1 - ((jushr p1 1) &&& 1431655765)))]) hx hb dJ6_bitCount_0f7a4_9 rfl hl (by decide) rfl (fun ls hl => ?_)
  refine lv_iload_n hx hb dJ6_bitCount_0f7a4_10 rfl (lv_at hl 0 rfl) ?_
  refine lv_ldcw (v := 858993459) hx hb hown (hts (.constant RJ6 266 (858993459)) (List.mem_of_getElem? (i := 2) rfl)) dJ6_bitCount_0f7a4_11 ?_
  refine lv_iand hx hb dJ6_bitCount_0f7a4_14 ?_
  refine lv_iload_n hx hb dJ6_bitCount_0f7a4_15 rfl (lv_at hl 0 rfl) ?_
  refine lv_iconst (v := 2) hx hb dJ6_bitCount_0f7a4_16 (by decide) ?_
  refine lv_iushr (v := jushr (p1 - ((jushr p1 1) &&& 1431655765)) 2) hx hb dJ6_bitCount_0f7a4_17 rfl ?_
  refine lv_ldcw (v := 858993459) hx hb hown (hts (.constant RJ6 266 (858993459)) (List.mem_of_getElem? (i := 2) rfl)) dJ6_bitCount_0f7a4_18 ?_
  refine lv_iand hx hb dJ6_bitCount_0f7a4_21 ?_
  refine lv_iadd hx hb dJ6_bitCount_0f7a4_22 ?_
  refine lv_istore_n (lv' := [(0, .int (a_J6_bitCount_0f7a4_23 p1))]) hx hb dJ6_bitCount_0f7a4_23 rfl hl (by decide) rfl (fun ls hl => ?_)
  refine lv_iload_n hx hb dJ6_bitCount_0f7a4_24 rfl (lv_at hl 0 rfl) ?_
  refine lv_iload_n hx hb dJ6_bitCount_0f7a4_25 rfl (lv_at hl 0 rfl) ?_
  refine lv_iconst (v := 4) hx hb dJ6_bitCount_0f7a4_26 (by decide) ?_
  refine lv_iushr (v := jushr (a_J6_bitCount_0f7a4_23 p1) 4) hx hb dJ6_bitCount_0f7a4_27 rfl ?_
  refine lv_iadd hx hb dJ6_bitCount_0f7a4_28 ?_
  refine lv_ldcw (v := 252645135) hx hb hown (hts (.constant RJ6 267 (252645135)) (List.mem_of_getElem? (i := 3) rfl)) dJ6_bitCount_0f7a4_29 ?_
  refine lv_iand hx hb dJ6_bitCount_0f7a4_32 ?_
  refine lv_istore_n (lv' := [(0, .int (a_J6_bitCount_0f7a4_33 p1))]) hx hb dJ6_bitCount_0f7a4_33 rfl hl (by decide) rfl (fun ls hl => ?_)
  refine lv_iload_n hx hb dJ6_bitCount_0f7a4_34 rfl (lv_at hl 0 rfl) ?_
  refine lv_iload_n hx hb dJ6_bitCount_0f7a4_35 rfl (lv_at hl 0 rfl) ?_
  refine lv_bipush (v := 8) hx hb dJ6_bitCount_0f7a4_36 (by decide) ?_
  refine lv_iushr (v := jushr (a_J6_bitCount_0f7a4_33 p1) 8) hx hb dJ6_bitCount_0f7a4_38 rfl ?_
  refine lv_iadd hx hb dJ6_bitCount_0f7a4_39 ?_
  refine lv_istore_n (lv' := [(0, .int (a_J6_bitCount_0f7a4_40 p1))]) hx hb dJ6_bitCount_0f7a4_40 rfl hl (by decide) rfl (fun ls hl => ?_)
  refine lv_iload_n hx hb dJ6_bitCount_0f7a4_41 rfl (lv_at hl 0 rfl) ?_
  refine lv_iload_n hx hb dJ6_bitCount_0f7a4_42 rfl (lv_at hl 0 rfl) ?_
  refine lv_bipush (v := 16) hx hb dJ6_bitCount_0f7a4_43 (by decide) ?_
  refine lv_iushr (v := jushr (a_J6_bitCount_0f7a4_40 p1) 16) hx hb dJ6_bitCount_0f7a4_45 rfl ?_
  refine lv_iadd hx hb dJ6_bitCount_0f7a4_46 ?_
  refine lv_istore_n (lv' := [(0, .int (a_J6_bitCount_0f7a4_47 p1))]) hx hb dJ6_bitCount_0f7a4_47 rfl hl (by decide) rfl (fun ls hl => ?_)
  refine lv_iload_n hx hb dJ6_bitCount_0f7a4_48 rfl (lv_at hl 0 rfl) ?_
  refine lv_bipush (v := 63) hx hb dJ6_bitCount_0f7a4_49 (by decide) ?_
  refine lv_iand hx hb dJ6_bitCount_0f7a4_51 ?_
  exact W.iret (v := ((a_J6_bitCount_0f7a4_47 p1) &&& 63)) hx hb hr (fun t ht hW => ⟨⟨((a_J6_bitCount_0f7a4_47 p1) &&& 63), (), rfl, hE.symm, trivial⟩, hS.F ht⟩) hS.2.2 dJ6_bitCount_0f7a4_52
def f_Jxf58ca_isNaN_12338 (V : VT) (p1 : UInt32) : Int32 := (if (Op.cmpValue (FP.fcmp p1 p1) CmpOp.l) = 0 then 0 else 1)
set_option maxHeartbeats 4000000 in
set_option maxRecDepth 100000 in
theorem m_Jxf58ca_isNaN_12338 (l : Launch) (D : va_G) (cI cB : ClassId) (ad : Nat → Nat) (V : VT) (p1 : UInt32)  : Met l yJxf58ca_isNaN_12338 wsJxf58ca_isNaN_12338 ({ frames := 0, cells := 0, slots := 0, locals := 0 }) (cP D cI cB ad V [.float p1]) (cR (f_Jxf58ca_isNaN_12338 V p1)) 0 0 (fun _ => False) := by
  refine va_MetF (cc := cJxf58ca_isNaN_12338) (maxL := 1) (ret := (some .boolean)) (by decide +kernel) rfl ?_
  intro p e s m args below meth c s₁ B hml hv
  obtain ⟨rfl, hP, hKN⟩ := hv
  have hK := hKN.1
  have hx := B.exec
  have hb := B.bytes
  have hr := B.returns
  have hts := atoms_spec (ws := wsJxf58ca_isNaN_12338) B.pre
  have hown : s.vm.findClass RJxf58ca = some m.cls := findClass_of_methodNamed B.named
  have hlocks := B.notSynchronized
  have hS : va_S (fun _ => False) s.heap s.heap [] := va_S.rf
  have hl := lv_entry ([.float p1]) (n := 1) (Nat.le_of_ble_eq_true rfl)
  rw [lg_entry_eq]
  generalize (lg_sl ([.float p1]) ++ List.replicate (1 - (lg_sl ([.float p1])).length) Slot.unset).toArray = ls at hl ⊢
  have hl : lv_has ls 1 [(0, .float p1)] := hl
  have hE : f_Jxf58ca_isNaN_12338 V p1 = (if (Op.cmpValue (FP.fcmp p1 p1) CmpOp.l) = 0 then 0 else 1) := rfl
  refine lv_fload_n hx hb dJxf58ca_isNaN_12338_0 rfl (lv_at hl 0 rfl) ?_
  refine lv_fload_n hx hb dJxf58ca_isNaN_12338_1 rfl (lv_at hl 0 rfl) ?_
  refine lv_fcmp hx hb dJxf58ca_isNaN_12338_2 ?_
  refine lv_if_eq (tgt := 10) hx hb dJxf58ca_isNaN_12338_3 (by decide) (fun c1 => ?_) (fun c1 => ?_)
  · have hE := hE.trans (if_pos c1)
    refine lv_iconst (v := 0) hx hb dJxf58ca_isNaN_12338_10 (by decide) ?_
    exact W.zret (v := 0) hx hb hr rfl (fun t ht hW => ⟨⟨0, (), rfl, hE.symm, trivial⟩, hS.F ht⟩) hS.2.2 dJxf58ca_isNaN_12338_11
  · have hE := hE.trans (if_neg c1)
    refine lv_iconst (v := 1) hx hb dJxf58ca_isNaN_12338_6 (by decide) ?_
    refine lv_goto (tgt := 11) hx hb dJxf58ca_isNaN_12338_7 (by decide) ?_
    exact W.zret (v := 1) hx hb hr rfl (fun t ht hW => ⟨⟨1, (), rfl, hE.symm, trivial⟩, hS.F ht⟩) hS.2.2 dJxf58ca_isNaN_12338_11
def f_Jxf58ca_floatToIntBits_5c35a (V : VT) (p1 : UInt32) : Int32 := (if (f_Jxf58ca_isNaN_12338 V p1) = 0 then (p1).toInt32 else 2143289344)
set_option maxHeartbeats 4000000 in
set_option maxRecDepth 100000 in
theorem m_Jxf58ca_floatToIntBits_5c35a (l : Launch) (D : va_G) (cI cB : ClassId) (ad : Nat → Nat) (V : VT) (p1 : UInt32)  : Met l yJxf58ca_floatToIntBits_5c35a wsJxf58ca_floatToIntBits_5c35a ({ frames := 1, cells := 0, slots := 0, locals := 20 }) (cP D cI cB ad V [.float p1]) (cR (f_Jxf58ca_floatToIntBits_5c35a V p1)) 0 0 (fun _ => False) := by
  refine va_MetF (cc := cJxf58ca_floatToIntBits_5c35a) (maxL := 1) (ret := (some .int)) (by decide +kernel) rfl ?_
  intro p e s m args below meth c s₁ B hml hv
  obtain ⟨rfl, hP, hKN⟩ := hv
  have hK := hKN.1
  have hx := B.exec
  have hb := B.bytes
  have hr := B.returns
  have hts := atoms_spec (ws := wsJxf58ca_floatToIntBits_5c35a) B.pre
  have hown : s.vm.findClass RJxf58ca = some m.cls := findClass_of_methodNamed B.named
  have hlocks := B.notSynchronized
  have hS : va_S (fun _ => False) s.heap s.heap [] := va_S.rf
  have hl := lv_entry ([.float p1]) (n := 1) (Nat.le_of_ble_eq_true rfl)
  rw [lg_entry_eq]
  generalize (lg_sl ([.float p1]) ++ List.replicate (1 - (lg_sl ([.float p1])).length) Slot.unset).toArray = ls at hl ⊢
  have hl : lv_has ls 1 [(0, .float p1)] := hl
  have hE : f_Jxf58ca_floatToIntBits_5c35a V p1 = (if (f_Jxf58ca_isNaN_12338 V p1) = 0 then (p1).toInt32 else 2143289344) := rfl
  refine lv_fload_n hx hb dJxf58ca_floatToIntBits_5c35a_0 rfl (lv_at hl 0 rfl) ?_
  refine k_SR (As := [.float p1]) (rest := []) ⟨hx, hb, hml, hown, hts⟩ hKN hP hS (m_Jxf58ca_isNaN_12338 l D cI cB ad V p1) (va_cwS 1 hts gJxf58ca_floatToIntBits_5c35a_Jxf58ca_isNaN_12338 rfl rfl rfl (by decide +kernel) ⟨(Nat.le_of_ble_eq_true rfl), (Nat.le_of_ble_eq_true rfl)⟩) rfl hl.1 rfl (Nat.le_of_ble_eq_true rfl) dJxf58ca_floatToIntBits_5c35a_1 ⟨Nat.zero_le _, Nat.zero_le _⟩ (fun H locs hP hS => ?_)
  refine lv_if_ne (tgt := 12) hx hb dJxf58ca_floatToIntBits_5c35a_4 (by decide) (fun c1 => ?_) (fun c1 => ?_)
  · have hE := hE.trans (if_neg c1)
    refine lv_ldc (v := 2143289344) hx hb hown (hts (.constant RJxf58ca 77 (2143289344)) (List.mem_of_getElem? (i := 5) rfl)) dJxf58ca_floatToIntBits_5c35a_12 ?_
    exact W.iret (v := 2143289344) hx hb hr (fun t ht hW => ⟨⟨2143289344, (), rfl, hE.symm, trivial⟩, hS.F ht⟩) hS.2.2 dJxf58ca_floatToIntBits_5c35a_14
  · have hE := hE.trans (if_pos c1)
    refine lv_fload_n hx hb dJxf58ca_floatToIntBits_5c35a_7 rfl (lv_at hl 0 rfl) ?_
    refine vn_f2i hx hb (hml.trans hl.1.symm) hown (hts (.methodLink RJxf58ca 74 ⟨"java/lang/Float", "floatToRawIntBits", "(F)I"⟩) (List.mem_of_getElem? (i := 1) rfl)) (hts (.native ⟨"java/lang/Float", "floatToRawIntBits", "(F)I"⟩) (List.mem_of_getElem? (i := 2) rfl)) (hts (.static ⟨"java/lang/Float", "floatToRawIntBits", "(F)I"⟩) (List.mem_of_getElem? (i := 3) rfl)) (hts (.initialized "java/lang/Float") (List.mem_of_getElem? (i := 4) rfl)) (Nat.le_of_ble_eq_true rfl) (Nat.le_of_ble_eq_true rfl) dJxf58ca_floatToIntBits_5c35a_8 ?_
    exact W.iret (v := (p1).toInt32) hx hb hr (fun t ht hW => ⟨⟨(p1).toInt32, (), rfl, hE.symm, trivial⟩, hS.F ht⟩) hS.2.2 dJxf58ca_floatToIntBits_5c35a_11
def f_X4_at (V : VT) (q1 : Nat) (n1 : Nat) (p2 : Int32) : Int32 := (if p2 < 0 then (-1) else (if (nI n1) ≤ p2 then (-1) else (V q1 p2.toNatClampNeg)))
set_option maxHeartbeats 4000000 in
set_option maxRecDepth 100000 in
theorem m_X4_at (l : Launch) (D : va_G) (cI cB : ClassId) (N : Nat) (cl : LC) (ad : Nat → Nat) (V : VT) (q1 : Nat) (n1 : Nat) (p2 : Int32) (hr1 : isRw N cl cI q1 n1) : Met l yX4_at wsX4_at ({ frames := 0, cells := 0, slots := 0, locals := 0 }) (cG D cI cB N cl ad V [.ref (ad q1), .int p2]) (cR (f_X4_at V q1 n1 p2)) 0 0 (fun _ => False) := by
  refine Met.ofW (cc := cX4_at) (maxL := 2) (ret := (some .int)) (by decide +kernel) rfl ?_
  intro p e s m args below meth c s₁ B hml hv
  obtain ⟨rfl, hP, hKN⟩ := hv
  have hK := hKN.1
  have hx := B.exec
  have hb := B.bytes
  have hr := B.returns
  have hts := atoms_spec (ws := wsX4_at) B.pre
  have hown : s.vm.findClass RX4 = some m.cls := findClass_of_methodNamed B.named
  have hlocks := B.notSynchronized
  have hS : va_S (fun _ => False) s.heap s.heap [] := va_S.rf
  have hl := lv_entry ([.ref (ad q1), .int p2]) (n := 2) (Nat.le_of_ble_eq_true rfl)
  rw [lg_entry_eq]
  generalize (lg_sl ([.ref (ad q1), .int p2]) ++ List.replicate (2 - (lg_sl ([.ref (ad q1), .int p2])).length) Slot.unset).toArray = ls at hl ⊢
  have hl : lv_has ls 2 [(0, .ref (ad q1)), (1, .int p2)] := hl
  have hE : f_X4_at V q1 n1 p2 = (if p2 < 0 then (-1) else (if (nI n1) ≤ p2 then (-1) else (V q1 p2.toNatClampNeg))) := rfl
  refine lv_aload_n hx hb dX4_at_0 rfl (lv_at hl 0 rfl) ?_
  refine lv_ifnull hx hb dX4_at_1 ?_
  refine lv_iload_n hx hb dX4_at_4 rfl (lv_at hl 1 rfl) ?_
  refine lv_if_lt (tgt := 20) hx hb dX4_at_5 (by decide) (fun c1 => ?_) (fun c1 => ?_)
  · have hE := hE.trans (if_pos c1)
    refine lv_iconst (v := (-1)) hx hb dX4_at_20 (by decide) ?_
    exact W.iret (v := (-1)) hx hb hr (fun t ht hW => ⟨⟨(-1), (), rfl, hE.symm, trivial⟩, hS.F ht⟩) hS.2.2 dX4_at_21
  · have hE := hE.trans (if_neg c1)
    refine lv_iload_n hx hb dX4_at_8 rfl (lv_at hl 1 rfl) ?_
    refine lv_aload_n hx hb dX4_at_9 rfl (lv_at hl 0 rfl) ?_
    refine x_alen hx hb hK hP hr1 dX4_at_10 ?_
    refine lv_icmp_ge (tgt := 20) hx hb dX4_at_11 (by decide) (fun c2 => ?_) (fun c2 => ?_)
    · have hE := hE.trans (if_pos c2)
      refine lv_iconst (v := (-1)) hx hb dX4_at_20 (by decide) ?_
      exact W.iret (v := (-1)) hx hb hr (fun t ht hW => ⟨⟨(-1), (), rfl, hE.symm, trivial⟩, hS.F ht⟩) hS.2.2 dX4_at_21
    · have hE := hE.trans (if_neg c2)
      refine lv_aload_n hx hb dX4_at_14 rfl (lv_at hl 0 rfl) ?_
      refine lv_iload_n hx hb dX4_at_15 rfl (lv_at hl 1 rfl) ?_
      refine x_iald hx hb hK hP hr1 (vp_of3 c1 c2 hr1.2.2) dX4_at_16 ?_
      refine lv_goto (tgt := 21) hx hb dX4_at_17 (by decide) ?_
      exact W.iret (v := (V q1 p2.toNatClampNeg)) hx hb hr (fun t ht hW => ⟨⟨(V q1 p2.toNatClampNeg), (), rfl, hE.symm, trivial⟩, hS.F ht⟩) hS.2.2 dX4_at_21
def f_X4_put (V : VT) (q1 : Nat) (n1 : Nat) (p2 : Int32) (p3 : Int32) : VT := (if p2 < 0 then V else (if (nI n1) ≤ p2 then V else (upV V q1 p2.toNatClampNeg p3)))
set_option maxHeartbeats 4000000 in
set_option maxRecDepth 100000 in
theorem m_X4_put (l : Launch) (D : va_G) (cI cB : ClassId) (N : Nat) (cl : LC) (ad : Nat → Nat) {A : Nat → Prop} (hA : adG N ad A) (V : VT) (q1 : Nat) (n1 : Nat) (p2 : Int32) (p3 : Int32) (hr1 : isRw N cl cI q1 n1) : Met l yX4_put wsX4_put ({ frames := 0, cells := 0, slots := 0, locals := 0 }) (cG D cI cB N cl ad V [.ref (ad q1), .int p2, .int p3]) (cGv D N cl ad A (f_X4_put V q1 n1 p2 p3)) 0 0 A := by
  refine Met.ofW (cc := cX4_put) (maxL := 3) (ret := none) (by decide +kernel) rfl ?_
  intro p e s m args below meth c s₁ B hml hv
  obtain ⟨rfl, hP, hKN⟩ := hv
  have hK := hKN.1
  have hx := B.exec
  have hb := B.bytes
  have hr := B.returns
  have hts := atoms_spec (ws := wsX4_put) B.pre
  have hown : s.vm.findClass RX4 = some m.cls := findClass_of_methodNamed B.named
  have hlocks := B.notSynchronized
  have hS : va_S A s.heap s.heap [] := va_S.rf
  have hl := lv_entry ([.ref (ad q1), .int p2, .int p3]) (n := 3) (Nat.le_of_ble_eq_true rfl)
  rw [lg_entry_eq]
  generalize (lg_sl ([.ref (ad q1), .int p2, .int p3]) ++ List.replicate (3 - (lg_sl ([.ref (ad q1), .int p2, .int p3])).length) Slot.unset).toArray = ls at hl ⊢
  have hl : lv_has ls 3 [(0, .ref (ad q1)), (1, .int p2), (2, .int p3)] := hl
  have hE : f_X4_put V q1 n1 p2 p3 = (if p2 < 0 then V else (if (nI n1) ≤ p2 then V else (upV V q1 p2.toNatClampNeg p3))) := rfl
  refine lv_aload_n hx hb dX4_put_0 rfl (lv_at hl 0 rfl) ?_
  refine lv_ifnull hx hb dX4_put_1 ?_
  refine lv_iload_n hx hb dX4_put_4 rfl (lv_at hl 1 rfl) ?_
  refine lv_if_lt (tgt := 18) hx hb dX4_put_5 (by decide) (fun c1 => ?_) (fun c1 => ?_)
  · have hE := hE.trans (if_pos c1)
    exact W.vret hx hb hr (fun t ht hW => ⟨⟨V, rfl, hE.symm, by dsimp only; rw [ht]; exact hP⟩, hS.F ht⟩) hS.2.2 dX4_put_18
  · have hE := hE.trans (if_neg c1)
    refine lv_iload_n hx hb dX4_put_8 rfl (lv_at hl 1 rfl) ?_
    refine lv_aload_n hx hb dX4_put_9 rfl (lv_at hl 0 rfl) ?_
    refine x_alen hx hb hK hP hr1 dX4_put_10 ?_
    refine lv_icmp_ge (tgt := 18) hx hb dX4_put_11 (by decide) (fun c2 => ?_) (fun c2 => ?_)
    · have hE := hE.trans (if_pos c2)
      exact W.vret hx hb hr (fun t ht hW => ⟨⟨V, rfl, hE.symm, by dsimp only; rw [ht]; exact hP⟩, hS.F ht⟩) hS.2.2 dX4_put_18
    · have hE := hE.trans (if_neg c2)
      refine lv_aload_n hx hb dX4_put_14 rfl (lv_at hl 0 rfl) ?_
      refine lv_iload_n hx hb dX4_put_15 rfl (lv_at hl 1 rfl) ?_
      refine lv_iload_n hx hb dX4_put_16 rfl (lv_at hl 2 rfl) ?_
      refine x_iast hx hb hK hP hA hS hr1 (vp_of3 c1 c2 hr1.2.2) dX4_put_17 (fun H locs hP hS => ?_)
      exact W.vret hx hb hr (fun t ht hW => ⟨⟨(upV V q1 p2.toNatClampNeg p3), rfl, hE.symm, by dsimp only; rw [ht]; exact hP⟩, hS.F ht⟩) hS.2.2 dX4_put_18
def f_X4_fill_l1 (fu : Nat) (q1 : Nat) (n1 : Nat) (p2 : Int32) : Nat → VT → Int32 → VT
  | 0, V1, x2_1 => V1
  | w1 + 1, V1, x2_1 => (if (nI n1) ≤ x2_1 then V1 else (f_X4_fill_l1 fu q1 n1 p2 w1 (upV V1 q1 x2_1.toNatClampNeg p2) (x2_1 + 1)))
def p_X4_fill_l1 (fu : Nat) (q1 : Nat) (n1 : Nat) (p2 : Int32) : Nat → VT → Int32 → Prop
  | 0, _, _ => False
  | w1 + 1, V1, x2_1 => (((nI n1) ≤ x2_1 → True) ∧ (¬ ((nI n1) ≤ x2_1) → ((vp_in x2_1 n1) ∧ (p_X4_fill_l1 fu q1 n1 p2 w1 (upV V1 q1 x2_1.toNatClampNeg p2) (x2_1 + 1)))))
def f_X4_fill (fu : Nat) (V : VT) (q1 : Nat) (n1 : Nat) (p2 : Int32) : VT := (f_X4_fill_l1 fu q1 n1 p2 fu V 0)
def p_X4_fill (fu : Nat) (V : VT) (q1 : Nat) (n1 : Nat) (p2 : Int32) : Prop := (p_X4_fill_l1 fu q1 n1 p2 fu V 0)
set_option maxHeartbeats 4000000 in
set_option maxRecDepth 100000 in
theorem m_X4_fill (l : Launch) (D : va_G) (cI cB : ClassId) (N : Nat) (cl : LC) (ad : Nat → Nat) {A : Nat → Prop} (hA : adG N ad A) (fu : Nat) (V : VT) (q1 : Nat) (n1 : Nat) (p2 : Int32) (hr1 : isRw N cl cI q1 n1) (hp : p_X4_fill fu V q1 n1 p2) : Met l yX4_fill wsX4_fill ({ frames := 0, cells := 0, slots := 0, locals := 0 }) (cG D cI cB N cl ad V [.ref (ad q1), .int p2]) (cGv D N cl ad A (f_X4_fill fu V q1 n1 p2)) 0 0 A := by
  refine Met.ofW (cc := cX4_fill) (maxL := 3) (ret := none) (by decide +kernel) rfl ?_
  intro p e s m args below meth c s₁ B hml hv
  obtain ⟨rfl, hP, hKN⟩ := hv
  have hK := hKN.1
  have hx := B.exec
  have hb := B.bytes
  have hr := B.returns
  have hts := atoms_spec (ws := wsX4_fill) B.pre
  have hown : s.vm.findClass RX4 = some m.cls := findClass_of_methodNamed B.named
  have hlocks := B.notSynchronized
  have hS : va_S A s.heap s.heap [] := va_S.rf
  have hl := lv_entry ([.ref (ad q1), .int p2]) (n := 3) (Nat.le_of_ble_eq_true rfl)
  rw [lg_entry_eq]
  generalize (lg_sl ([.ref (ad q1), .int p2]) ++ List.replicate (3 - (lg_sl ([.ref (ad q1), .int p2])).length) Slot.unset).toArray = ls at hl ⊢
  have hl : lv_has ls 3 [(0, .ref (ad q1)), (1, .int p2)] := hl
  have hE : f_X4_fill fu V q1 n1 p2 = (f_X4_fill_l1 fu q1 n1 p2 fu V 0) := rfl
  refine lv_aload_n hx hb dX4_fill_0 rfl (lv_at hl 0 rfl) ?_
  refine lv_ifnull hx hb dX4_fill_1 ?_
  refine lv_iconst (v := 0) hx hb dX4_fill_4 (by decide) ?_
  refine lv_istore_n (lv' := [(2, .int 0), (0, .ref (ad q1)), (1, .int p2)]) hx hb dX4_fill_5 rfl hl (by decide) rfl (fun ls hl => ?_)
  have L1 : ∀ (w1 : Nat) (V1 : VT) (x2_1 : Int32), f_X4_fill fu V q1 n1 p2 = f_X4_fill_l1 fu q1 n1 p2 w1 V1 x2_1 → p_X4_fill_l1 fu q1 n1 p2 w1 V1 x2_1 → ∀ (H : Heap) (locs : List Loc), wG D N cl ad V1 H → va_S A s.heap H locs → ∀ (ls : Array Slot), lv_has ls 3 [(0, .ref (ad q1)), (1, .int p2), (2, .int x2_1)] → W p l e (headSpec wsX4_fill ({ frames := 0, cells := 0, slots := 0, locals := 0 })).room s m ([.ref (ad q1), .int p2] : List Value).toArray below meth c H locs 0 0 (MQ below (cGv D N cl ad A (f_X4_fill fu V q1 n1 p2)) ([.ref (ad q1), .int p2] : List Value).toArray s 0 0 A) (F0 m 6 ls []) := by
    intro w1
    induction w1 with
    | zero => intro V1 x2_1 hE hp; exact hp.elim
    | succ w1 ih1 =>
      intro V1 x2_1 hE hp H locs hP hS ls hl
      rw [f_X4_fill_l1] at hE
      rw [p_X4_fill_l1] at hp
      refine lv_iload_n hx hb dX4_fill_6 rfl (lv_at hl 2 rfl) ?_
      refine lv_aload_n hx hb dX4_fill_7 rfl (lv_at hl 0 rfl) ?_
      refine x_alen hx hb hK hP hr1 dX4_fill_8 ?_
      refine lv_icmp_ge (tgt := 22) hx hb dX4_fill_9 (by decide) (fun c1 => ?_) (fun c1 => ?_)
      · have hE := hE.trans (if_pos c1)
        exact W.vret hx hb hr (fun t ht hW => ⟨⟨V1, rfl, hE.symm, by dsimp only; rw [ht]; exact hP⟩, hS.F ht⟩) hS.2.2 dX4_fill_22
      · have hE := hE.trans (if_neg c1)
        have hp := pc_bn hp c1
        refine lv_aload_n hx hb dX4_fill_12 rfl (lv_at hl 0 rfl) ?_
        refine lv_iload_n hx hb dX4_fill_13 rfl (lv_at hl 2 rfl) ?_
        refine lv_iload_n hx hb dX4_fill_14 rfl (lv_at hl 1 rfl) ?_
        obtain ⟨hn1, hp⟩ := hp
        refine x_iast hx hb hK hP hA hS hr1 hn1 dX4_fill_15 (fun H locs hP hS => ?_)
        refine lv_iinc (v := (x2_1 + 1)) (lv' := [(2, .int (x2_1 + 1)), (0, .ref (ad q1)), (1, .int p2)]) hx hb dX4_fill_16 hl (k := 2) rfl (by rfl) (by decide) rfl (fun ls hl => ?_)
        refine lv_goto (tgt := 6) hx hb dX4_fill_19 (by decide) ?_
        exact ih1 (upV V1 q1 x2_1.toNatClampNeg p2) (x2_1 + 1) hE hp H locs hP hS ls (lv_sub hl [1, 2, 0] rfl)
  exact L1 fu V 0 hE hp _ _ hP hS _ (lv_sub hl [1, 2, 0] rfl)
def f_X4_copy_l1 (fu : Nat) (q1 : Nat) (n1 : Nat) (q2 : Nat) (n2 : Nat) : Nat → VT → Int32 → VT
  | 0, V1, x2_1 => V1
  | w1 + 1, V1, x2_1 => (if (nI n1) ≤ x2_1 then V1 else (if (nI n2) ≤ x2_1 then V1 else (f_X4_copy_l1 fu q1 n1 q2 n2 w1 (upV V1 q2 x2_1.toNatClampNeg (V1 q1 x2_1.toNatClampNeg)) (x2_1 + 1))))
def p_X4_copy_l1 (fu : Nat) (q1 : Nat) (n1 : Nat) (q2 : Nat) (n2 : Nat) : Nat → VT → Int32 → Prop
  | 0, _, _ => False
  | w1 + 1, V1, x2_1 => (((nI n1) ≤ x2_1 → True) ∧ (¬ ((nI n1) ≤ x2_1) → (((nI n2) ≤ x2_1 → True) ∧ (¬ ((nI n2) ≤ x2_1) → ((vp_in x2_1 n1) ∧ ((vp_in x2_1 n2) ∧ (p_X4_copy_l1 fu q1 n1 q2 n2 w1 (upV V1 q2 x2_1.toNatClampNeg (V1 q1 x2_1.toNatClampNeg)) (x2_1 + 1))))))))
def f_X4_copy (fu : Nat) (V : VT) (q1 : Nat) (n1 : Nat) (q2 : Nat) (n2 : Nat) : VT := (f_X4_copy_l1 fu q1 n1 q2 n2 fu V 0)
def p_X4_copy (fu : Nat) (V : VT) (q1 : Nat) (n1 : Nat) (q2 : Nat) (n2 : Nat) : Prop := (p_X4_copy_l1 fu q1 n1 q2 n2 fu V 0)
set_option maxHeartbeats 4000000 in
set_option maxRecDepth 100000 in
theorem m_X4_copy (l : Launch) (D : va_G) (cI cB : ClassId) (N : Nat) (cl : LC) (ad : Nat → Nat) {A : Nat → Prop} (hA : adG N ad A) (fu : Nat) (V : VT) (q1 : Nat) (n1 : Nat) (q2 : Nat) (n2 : Nat) (hr1 : isRw N cl cI q1 n1) (hr2 : isRw N cl cI q2 n2) (hp : p_X4_copy fu V q1 n1 q2 n2) : Met l yX4_copy wsX4_copy ({ frames := 0, cells := 0, slots := 0, locals := 0 }) (cG D cI cB N cl ad V [.ref (ad q1), .ref (ad q2)]) (cGv D N cl ad A (f_X4_copy fu V q1 n1 q2 n2)) 0 0 A := by
  refine Met.ofW (cc := cX4_copy) (maxL := 3) (ret := none) (by decide +kernel) rfl ?_
  intro p e s m args below meth c s₁ B hml hv
  obtain ⟨rfl, hP, hKN⟩ := hv
  have hK := hKN.1
  have hx := B.exec
  have hb := B.bytes
  have hr := B.returns
  have hts := atoms_spec (ws := wsX4_copy) B.pre
  have hown : s.vm.findClass RX4 = some m.cls := findClass_of_methodNamed B.named
  have hlocks := B.notSynchronized
  have hS : va_S A s.heap s.heap [] := va_S.rf
  have hl := lv_entry ([.ref (ad q1), .ref (ad q2)]) (n := 3) (Nat.le_of_ble_eq_true rfl)
  rw [lg_entry_eq]
  generalize (lg_sl ([.ref (ad q1), .ref (ad q2)]) ++ List.replicate (3 - (lg_sl ([.ref (ad q1), .ref (ad q2)])).length) Slot.unset).toArray = ls at hl ⊢
  have hl : lv_has ls 3 [(0, .ref (ad q1)), (1, .ref (ad q2))] := hl
  have hE : f_X4_copy fu V q1 n1 q2 n2 = (f_X4_copy_l1 fu q1 n1 q2 n2 fu V 0) := rfl
  refine lv_aload_n hx hb dX4_copy_0 rfl (lv_at hl 0 rfl) ?_
  refine lv_ifnull hx hb dX4_copy_1 ?_
  refine lv_aload_n hx hb dX4_copy_4 rfl (lv_at hl 1 rfl) ?_
  refine lv_ifnull hx hb dX4_copy_5 ?_
  refine lv_iconst (v := 0) hx hb dX4_copy_8 (by decide) ?_
  refine lv_istore_n (lv' := [(2, .int 0), (0, .ref (ad q1)), (1, .ref (ad q2))]) hx hb dX4_copy_9 rfl hl (by decide) rfl (fun ls hl => ?_)
  have L1 : ∀ (w1 : Nat) (V1 : VT) (x2_1 : Int32), f_X4_copy fu V q1 n1 q2 n2 = f_X4_copy_l1 fu q1 n1 q2 n2 w1 V1 x2_1 → p_X4_copy_l1 fu q1 n1 q2 n2 w1 V1 x2_1 → ∀ (H : Heap) (locs : List Loc), wG D N cl ad V1 H → va_S A s.heap H locs → ∀ (ls : Array Slot), lv_has ls 3 [(0, .ref (ad q1)), (1, .ref (ad q2)), (2, .int x2_1)] → W p l e (headSpec wsX4_copy ({ frames := 0, cells := 0, slots := 0, locals := 0 })).room s m ([.ref (ad q1), .ref (ad q2)] : List Value).toArray below meth c H locs 0 0 (MQ below (cGv D N cl ad A (f_X4_copy fu V q1 n1 q2 n2)) ([.ref (ad q1), .ref (ad q2)] : List Value).toArray s 0 0 A) (F0 m 10 ls []) := by
    intro w1
    induction w1 with
    | zero => intro V1 x2_1 hE hp; exact hp.elim
    | succ w1 ih1 =>
      intro V1 x2_1 hE hp H locs hP hS ls hl
      rw [f_X4_copy_l1] at hE
      rw [p_X4_copy_l1] at hp
      refine lv_iload_n hx hb dX4_copy_10 rfl (lv_at hl 2 rfl) ?_
      refine lv_aload_n hx hb dX4_copy_11 rfl (lv_at hl 0 rfl) ?_
      refine x_alen hx hb hK hP hr1 dX4_copy_12 ?_
      refine lv_icmp_ge (tgt := 34) hx hb dX4_copy_13 (by decide) (fun c1 => ?_) (fun c1 => ?_)
      · have hE := hE.trans (if_pos c1)
        exact W.vret hx hb hr (fun t ht hW => ⟨⟨V1, rfl, hE.symm, by dsimp only; rw [ht]; exact hP⟩, hS.F ht⟩) hS.2.2 dX4_copy_34
      · have hE := hE.trans (if_neg c1)
        have hp := pc_bn hp c1
        refine lv_iload_n hx hb dX4_copy_16 rfl (lv_at hl 2 rfl) ?_
        refine lv_aload_n hx hb dX4_copy_17 rfl (lv_at hl 1 rfl) ?_
        refine x_alen hx hb hK hP hr2 dX4_copy_18 ?_
        refine lv_icmp_ge (tgt := 34) hx hb dX4_copy_19 (by decide) (fun c2 => ?_) (fun c2 => ?_)
        · have hE := hE.trans (if_pos c2)
          exact W.vret hx hb hr (fun t ht hW => ⟨⟨V1, rfl, hE.symm, by dsimp only; rw [ht]; exact hP⟩, hS.F ht⟩) hS.2.2 dX4_copy_34
        · have hE := hE.trans (if_neg c2)
          have hp := pc_bn hp c2
          refine lv_aload_n hx hb dX4_copy_22 rfl (lv_at hl 1 rfl) ?_
          refine lv_iload_n hx hb dX4_copy_23 rfl (lv_at hl 2 rfl) ?_
          refine lv_aload_n hx hb dX4_copy_24 rfl (lv_at hl 0 rfl) ?_
          refine lv_iload_n hx hb dX4_copy_25 rfl (lv_at hl 2 rfl) ?_
          obtain ⟨hn1, hp⟩ := hp
          refine x_iald hx hb hK hP hr1 hn1 dX4_copy_26 ?_
          obtain ⟨hn2, hp⟩ := hp
          refine x_iast hx hb hK hP hA hS hr2 hn2 dX4_copy_27 (fun H locs hP hS => ?_)
          refine lv_iinc (v := (x2_1 + 1)) (lv' := [(2, .int (x2_1 + 1)), (0, .ref (ad q1)), (1, .ref (ad q2))]) hx hb dX4_copy_28 hl (k := 2) rfl (by rfl) (by decide) rfl (fun ls hl => ?_)
          refine lv_goto (tgt := 10) hx hb dX4_copy_31 (by decide) ?_
          exact ih1 (upV V1 q2 x2_1.toNatClampNeg (V1 q1 x2_1.toNatClampNeg)) (x2_1 + 1) hE hp H locs hP hS ls (lv_sub hl [1, 2, 0] rfl)
  exact L1 fu V 0 hE hp _ _ hP hS _ (lv_sub hl [1, 2, 0] rfl)
def a_X6_turn_15 (p1 : Int32) : Int32 := (((p1 &&& 21845) <<< (1 &&& 31)) ||| ((jushr p1 1) &&& 21845))
def a_X6_turn_31 (p1 : Int32) : Int32 := ((((a_X6_turn_15 p1) &&& 13107) <<< (2 &&& 31)) ||| ((jushr (a_X6_turn_15 p1) 2) &&& 13107))
def a_X6_turn_47 (p1 : Int32) : Int32 := ((((a_X6_turn_31 p1) &&& 3855) <<< (4 &&& 31)) ||| ((jushr (a_X6_turn_31 p1) 4) &&& 3855))
def a_X6_turn_65 (p1 : Int32) : Int32 := ((((a_X6_turn_47 p1) &&& 255) <<< (8 &&& 31)) ||| ((jushr (a_X6_turn_47 p1) 8) &&& 255))
def f_X6_turn (V : VT) (p1 : Int32) : Int32 := (jushr (a_X6_turn_65 p1) 1)
set_option maxHeartbeats 4000000 in
set_option maxRecDepth 100000 in
theorem m_X6_turn (l : Launch) (D : va_G) (cI cB : ClassId) (ad : Nat → Nat) (V : VT) (p1 : Int32)  : Met l yX6_turn wsX6_turn ({ frames := 0, cells := 0, slots := 0, locals := 0 }) (cP D cI cB ad V [.int p1]) (cR (f_X6_turn V p1)) 0 0 (fun _ => False) := by
  refine Met.ofW (cc := cX6_turn) (maxL := 2) (ret := (some .int)) (by decide +kernel) rfl ?_
  intro p e s m args below meth c s₁ B hml hv
  obtain ⟨rfl, hP, hKN⟩ := hv
  have hK := hKN.1
  have hx := B.exec
  have hb := B.bytes
  have hr := B.returns
  have hts := atoms_spec (ws := wsX6_turn) B.pre
  have hown : s.vm.findClass RX6 = some m.cls := findClass_of_methodNamed B.named
  have hlocks := B.notSynchronized
  have hS : va_S (fun _ => False) s.heap s.heap [] := va_S.rf
  have hl := lv_entry ([.int p1]) (n := 2) (Nat.le_of_ble_eq_true rfl)
  rw [lg_entry_eq]
  generalize (lg_sl ([.int p1]) ++ List.replicate (2 - (lg_sl ([.int p1])).length) Slot.unset).toArray = ls at hl ⊢
  have hl : lv_has ls 2 [(0, .int p1)] := hl
  have hE : f_X6_turn V p1 = (jushr (a_X6_turn_65 p1) 1) := rfl
  refine lv_iload_n hx hb dX6_turn_0 rfl (lv_at hl 0 rfl) ?_
  refine lv_sipush (v := 21845) hx hb dX6_turn_1 (by decide) ?_
  refine lv_iand hx hb dX6_turn_4 ?_
  refine lv_iconst (v := 1) hx hb dX6_turn_5 (by decide) ?_
  refine lv_ishl hx hb dX6_turn_6 ?_
  refine lv_iload_n hx hb dX6_turn_7 rfl (lv_at hl 0 rfl) ?_
  refine lv_iconst (v := 1) hx hb dX6_turn_8 (by decide) ?_
  refine lv_iushr (v := jushr p1 1) hx hb dX6_turn_9 rfl ?_
  refine lv_sipush (v := 21845) hx hb dX6_turn_10 (by decide) ?_
  refine lv_iand hx hb dX6_turn_13 ?_
  refine lv_ior hx hb dX6_turn_14 ?_
  refine lv_istore_n (lv' := [(1, .int (a_X6_turn_15 p1)), (0, .int p1)]) hx hb dX6_turn_15 rfl hl (by decide) rfl (fun ls hl => ?_)
  refine lv_iload_n hx hb dX6_turn_16 rfl (lv_at hl 0 rfl) ?_
  refine lv_sipush (v := 13107) hx hb dX6_turn_17 (by decide) ?_
  refine lv_iand hx hb dX6_turn_20 ?_
  refine lv_iconst (v := 2) hx hb dX6_turn_21 (by decide) ?_
  refine lv_ishl hx hb dX6_turn_22 ?_
  refine lv_iload_n hx hb dX6_turn_23 rfl (lv_at hl 0 rfl) ?_
  refine lv_iconst (v := 2) hx hb dX6_turn_24 (by decide) ?_
  refine lv_iushr (v := jushr (a_X6_turn_15 p1) 2) hx hb dX6_turn_25 rfl ?_
  refine lv_sipush (v := 13107) hx hb dX6_turn_26 (by decide) ?_
  refine lv_iand hx hb dX6_turn_29 ?_
  refine lv_ior hx hb dX6_turn_30 ?_
  refine lv_istore_n (lv' := [(1, .int (a_X6_turn_31 p1)), (0, .int p1)]) hx hb dX6_turn_31 rfl hl (by decide) rfl (fun ls hl => ?_)
  refine lv_iload_n hx hb dX6_turn_32 rfl (lv_at hl 0 rfl) ?_
  refine lv_sipush (v := 3855) hx hb dX6_turn_33 (by decide) ?_
  refine lv_iand hx hb dX6_turn_36 ?_
  refine lv_iconst (v := 4) hx hb dX6_turn_37 (by decide) ?_
  refine lv_ishl hx hb dX6_turn_38 ?_
  refine lv_iload_n hx hb dX6_turn_39 rfl (lv_at hl 0 rfl) ?_
  refine lv_iconst (v := 4) hx hb dX6_turn_40 (by decide) ?_
  refine lv_iushr (v := jushr (a_X6_turn_31 p1) 4) hx hb dX6_turn_41 rfl ?_
  refine lv_sipush (v := 3855) hx hb dX6_turn_42 (by decide) ?_
  refine lv_iand hx hb dX6_turn_45 ?_
  refine lv_ior hx hb dX6_turn_46 ?_
  refine lv_istore_n (lv' := [(1, .int (a_X6_turn_47 p1)), (0, .int p1)]) hx hb dX6_turn_47 rfl hl (by decide) rfl (fun ls hl => ?_)
  refine lv_iload_n hx hb dX6_turn_48 rfl (lv_at hl 0 rfl) ?_
  refine lv_sipush (v := 255) hx hb dX6_turn_49 (by decide) ?_
  refine lv_iand hx hb dX6_turn_52 ?_
  refine lv_bipush (v := 8) hx hb dX6_turn_53 (by decide) ?_
  refine lv_ishl hx hb dX6_turn_55 ?_
  refine lv_iload_n hx hb dX6_turn_56 rfl (lv_at hl 0 rfl) ?_
  refine lv_bipush (v := 8) hx hb dX6_turn_57 (by decide) ?_
  refine lv_iushr (v := jushr (a_X6_turn_47 p1) 8) hx hb dX6_turn_59 rfl ?_
  refine lv_sipush (v := 255) hx hb dX6_turn_60 (by decide) ?_
  refine lv_iand hx hb dX6_turn_63 ?_
  refine lv_ior hx hb dX6_turn_64 ?_
  refine lv_istore_n (lv' := [(1, .int (a_X6_turn_65 p1)), (0, .int p1)]) hx hb dX6_turn_65 rfl hl (by decide) rfl (fun ls hl => ?_)
  refine lv_iload_n hx hb dX6_turn_66 rfl (lv_at hl 0 rfl) ?_
  refine lv_iconst (v := 1) hx hb dX6_turn_67 (by decide) ?_
  refine lv_iushr (v := jushr (a_X6_turn_65 p1) 1) hx hb dX6_turn_68 rfl ?_
  exact W.iret (v := (jushr (a_X6_turn_65 p1) 1)) hx hb hr (fun t ht hW => ⟨⟨(jushr (a_X6_turn_65 p1) 1), (), rfl, hE.symm, trivial⟩, hS.F ht⟩) hS.2.2 dX6_turn_69
def f_X6_seen (V : VT) (p1 : Int32) (p2 : Int32) : Int32 := (if p2 = 0 then p1 else (f_X6_turn V p1))
set_option maxHeartbeats 4000000 in
set_option maxRecDepth 100000 in
theorem m_X6_seen (l : Launch) (D : va_G) (cI cB : ClassId) (ad : Nat → Nat) (V : VT) (p1 : Int32) (p2 : Int32)  : Met l yX6_seen wsX6_seen ({ frames := 1, cells := 0, slots := 0, locals := 21 }) (cP D cI cB ad V [.int p1, .int p2]) (cR (f_X6_seen V p1 p2)) 0 0 (fun _ => False) := by
  refine Met.ofW (cc := cX6_seen) (maxL := 2) (ret := (some .int)) (by decide +kernel) rfl ?_
  intro p e s m args below meth c s₁ B hml hv
  obtain ⟨rfl, hP, hKN⟩ := hv
  have hK := hKN.1
  have hx := B.exec
  have hb := B.bytes
  have hr := B.returns
  have hts := atoms_spec (ws := wsX6_seen) B.pre
  have hown : s.vm.findClass RX6 = some m.cls := findClass_of_methodNamed B.named
  have hlocks := B.notSynchronized
  have hS : va_S (fun _ => False) s.heap s.heap [] := va_S.rf
  have hl := lv_entry ([.int p1, .int p2]) (n := 2) (Nat.le_of_ble_eq_true rfl)
  rw [lg_entry_eq]
  generalize (lg_sl ([.int p1, .int p2]) ++ List.replicate (2 - (lg_sl ([.int p1, .int p2])).length) Slot.unset).toArray = ls at hl ⊢
  have hl : lv_has ls 2 [(0, .int p1), (1, .int p2)] := hl
  have hE : f_X6_seen V p1 p2 = (if p2 = 0 then p1 else (f_X6_turn V p1)) := rfl
  refine lv_iload_n hx hb dX6_seen_0 rfl (lv_at hl 1 rfl) ?_
  refine lv_if_ne (tgt := 8) hx hb dX6_seen_1 (by decide) (fun c1 => ?_) (fun c1 => ?_)
  · have hE := hE.trans (if_neg c1)
    refine lv_iload_n hx hb dX6_seen_8 rfl (lv_at hl 0 rfl) ?_
    refine k_SR (As := [.int p1]) (rest := []) ⟨hx, hb, hml, hown, hts⟩ hKN hP hS (m_X6_turn l D cI cB ad V p1) (va_cwS 1 hts gX6_seen_X6_turn rfl rfl rfl (by decide +kernel) ⟨(Nat.le_of_ble_eq_true rfl), (Nat.le_of_ble_eq_true rfl)⟩) rfl hl.1 rfl (Nat.le_of_ble_eq_true rfl) dX6_seen_9 ⟨Nat.zero_le _, Nat.zero_le _⟩ (fun H locs hP hS => ?_)
    exact W.iret (v := (f_X6_turn V p1)) hx hb hr (fun t ht hW => ⟨⟨(f_X6_turn V p1), (), rfl, hE.symm, trivial⟩, hS.F ht⟩) hS.2.2 dX6_seen_12
  · have hE := hE.trans (if_pos c1)
    refine lv_iload_n hx hb dX6_seen_4 rfl (lv_at hl 0 rfl) ?_
    refine lv_goto (tgt := 12) hx hb dX6_seen_5 (by decide) ?_
    exact W.iret (v := p1) hx hb hr (fun t ht hW => ⟨⟨p1, (), rfl, hE.symm, trivial⟩, hS.F ht⟩) hS.2.2 dX6_seen_12
def f_X6_darkInUpperRows (V : VT) (p1 : Int32) (p2 : Int32) : Int32 := (if p2 = 0 then (f_J6_bitCount_0f7a4 V (p1 &&& 511)) else (f_J6_bitCount_0f7a4 V ((jushr p1 6) &&& 511)))
set_option maxHeartbeats 4000000 in
set_option maxRecDepth 100000 in
theorem m_X6_darkInUpperRows (l : Launch) (D : va_G) (cI cB : ClassId) (ad : Nat → Nat) (V : VT) (p1 : Int32) (p2 : Int32)  : Met l yX6_darkInUpperRows wsX6_darkInUpperRows ({ frames := 1, cells := 0, slots := 0, locals := 20 }) (cP D cI cB ad V [.int p1, .int p2]) (cR (f_X6_darkInUpperRows V p1 p2)) 0 0 (fun _ => False) := by
  refine Met.ofW (cc := cX6_darkInUpperRows) (maxL := 2) (ret := (some .int)) (by decide +kernel) rfl ?_
  intro p e s m args below meth c s₁ B hml hv
  obtain ⟨rfl, hP, hKN⟩ := hv
  have hK := hKN.1
  have hx := B.exec
  have hb := B.bytes
  have hr := B.returns
  have hts := atoms_spec (ws := wsX6_darkInUpperRows) B.pre
  have hown : s.vm.findClass RX6 = some m.cls := findClass_of_methodNamed B.named
  have hlocks := B.notSynchronized
  have hS : va_S (fun _ => False) s.heap s.heap [] := va_S.rf
  have hl := lv_entry ([.int p1, .int p2]) (n := 2) (Nat.le_of_ble_eq_true rfl)
  rw [lg_entry_eq]
  generalize (lg_sl ([.int p1, .int p2]) ++ List.replicate (2 - (lg_sl ([.int p1, .int p2])).length) Slot.unset).toArray = ls at hl ⊢
  have hl : lv_has ls 2 [(0, .int p1), (1, .int p2)] := hl
  have hE : f_X6_darkInUpperRows V p1 p2 = (if p2 = 0 then (f_J6_bitCount_0f7a4 V (p1 &&& 511)) else (f_J6_bitCount_0f7a4 V ((jushr p1 6) &&& 511))) := rfl
  refine lv_iload_n hx hb dX6_darkInUpperRows_0 rfl (lv_at hl 1 rfl) ?_
  refine lv_if_ne (tgt := 8) hx hb dX6_darkInUpperRows_1 (by decide) (fun c1 => ?_) (fun c1 => ?_)
  · have hE := hE.trans (if_neg c1)
    refine lv_iload_n hx hb dX6_darkInUpperRows_8 rfl (lv_at hl 0 rfl) ?_
    refine lv_bipush (v := 6) hx hb dX6_darkInUpperRows_9 (by decide) ?_
    refine lv_iushr (v := jushr p1 6) hx hb dX6_darkInUpperRows_11 rfl ?_
    refine lv_sipush (v := 511) hx hb dX6_darkInUpperRows_12 (by decide) ?_
    refine lv_iand hx hb dX6_darkInUpperRows_15 ?_
    refine k_SR (As := [.int ((jushr p1 6) &&& 511)]) (rest := []) ⟨hx, hb, hml, hown, hts⟩ hKN hP hS (m_J6_bitCount_0f7a4 l D cI cB ad V ((jushr p1 6) &&& 511)) (va_cwS 1 hts gX6_darkInUpperRows_J6_bitCount_0f7a4 rfl rfl rfl (by decide +kernel) ⟨(Nat.le_of_ble_eq_true rfl), (Nat.le_of_ble_eq_true rfl)⟩) rfl hl.1 rfl (Nat.le_of_ble_eq_true rfl) dX6_darkInUpperRows_16 ⟨Nat.zero_le _, Nat.zero_le _⟩ (fun H locs hP hS => ?_)
    exact W.iret (v := (f_J6_bitCount_0f7a4 V ((jushr p1 6) &&& 511))) hx hb hr (fun t ht hW => ⟨⟨(f_J6_bitCount_0f7a4 V ((jushr p1 6) &&& 511)), (), rfl, hE.symm, trivial⟩, hS.F ht⟩) hS.2.2 dX6_darkInUpperRows_19
  · have hE := hE.trans (if_pos c1)
    refine lv_iload_n hx hb dX6_darkInUpperRows_4 rfl (lv_at hl 0 rfl) ?_
    refine lv_goto (tgt := 12) hx hb dX6_darkInUpperRows_5 (by decide) ?_
    refine lv_sipush (v := 511) hx hb dX6_darkInUpperRows_12 (by decide) ?_
    refine lv_iand hx hb dX6_darkInUpperRows_15 ?_
    refine k_SR (As := [.int (p1 &&& 511)]) (rest := []) ⟨hx, hb, hml, hown, hts⟩ hKN hP hS (m_J6_bitCount_0f7a4 l D cI cB ad V (p1 &&& 511)) (va_cwS 1 hts gX6_darkInUpperRows_J6_bitCount_0f7a4 rfl rfl rfl (by decide +kernel) ⟨(Nat.le_of_ble_eq_true rfl), (Nat.le_of_ble_eq_true rfl)⟩) rfl hl.1 rfl (Nat.le_of_ble_eq_true rfl) dX6_darkInUpperRows_16 ⟨Nat.zero_le _, Nat.zero_le _⟩ (fun H locs hP hS => ?_)
    exact W.iret (v := (f_J6_bitCount_0f7a4 V (p1 &&& 511))) hx hb hr (fun t ht hW => ⟨⟨(f_J6_bitCount_0f7a4 V (p1 &&& 511)), (), rfl, hE.symm, trivial⟩, hS.F ht⟩) hS.2.2 dX6_darkInUpperRows_19
