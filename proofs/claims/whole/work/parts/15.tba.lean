/-! contracts by program (wip/whole/gen): f_ what a method answers or makes of the table, p_ what it needs, m_ the contract -/
def f_X7_isLetter (V : VT) (p1 : Int32) : Int32 := (if p1 < 0 then 0 else (if 10 ≤ p1 then 0 else 1))
set_option maxHeartbeats 4000000 in
set_option maxRecDepth 100000 in
theorem m_X7_isLetter (l : Launch) (D : va_G) (cI cB : ClassId) (ad : Nat → Nat) (V : VT) (p1 : Int32)  : Met l yX7_isLetter wsX7_isLetter ({ frames := 0, cells := 0, slots := 0, locals := 0 }) (cP D cI cB ad V [.int p1]) (cR (f_X7_isLetter V p1)) 0 0 (fun _ => False) := by
  refine Met.ofW (cc := cX7_isLetter) (maxL := 1) (ret := (some .boolean)) (by decide +kernel) rfl ?_
  intro p e s m args below meth c s₁ B hml hv
  obtain ⟨rfl, hP, hKN⟩ := hv
  have hK := hKN.1
  have hx := B.exec
  have hb := B.bytes
  have hr := B.returns
  have hts := atoms_spec (ws := wsX7_isLetter) B.pre
  have hown : s.vm.findClass RX7 = some m.cls := findClass_of_methodNamed B.named
  have hlocks := B.notSynchronized
  have hS : va_S (fun _ => False) s.heap s.heap [] := va_S.rf
  have hl := lv_entry ([.int p1]) (n := 1) (Nat.le_of_ble_eq_true rfl)
  rw [lg_entry_eq]
  generalize (lg_sl ([.int p1]) ++ List.replicate (1 - (lg_sl ([.int p1])).length) Slot.unset).toArray = ls at hl ⊢
  have hl : lv_has ls 1 [(0, .int p1)] := hl
  have hE : f_X7_isLetter V p1 = (if p1 < 0 then 0 else (if 10 ≤ p1 then 0 else 1)) := rfl
  refine lv_iload_n hx hb dX7_isLetter_0 rfl (lv_at hl 0 rfl) ?_
  refine lv_if_lt (tgt := 14) hx hb dX7_isLetter_1 (by decide) (fun c1 => ?_) (fun c1 => ?_)
  · have hE := hE.trans (if_pos c1)
    refine lv_iconst (v := 0) hx hb dX7_isLetter_14 (by decide) ?_
    exact W.zret (v := 0) hx hb hr rfl (fun t ht hW => ⟨⟨0, (), rfl, hE.symm, trivial⟩, hS.F ht⟩) hS.2.2 dX7_isLetter_15
  · have hE := hE.trans (if_neg c1)
    refine lv_iload_n hx hb dX7_isLetter_4 rfl (lv_at hl 0 rfl) ?_
    refine lv_bipush (v := 10) hx hb dX7_isLetter_5 (by decide) ?_
    refine lv_icmp_ge (tgt := 14) hx hb dX7_isLetter_7 (by decide) (fun c2 => ?_) (fun c2 => ?_)
    · have hE := hE.trans (if_pos c2)
      refine lv_iconst (v := 0) hx hb dX7_isLetter_14 (by decide) ?_
      exact W.zret (v := 0) hx hb hr rfl (fun t ht hW => ⟨⟨0, (), rfl, hE.symm, trivial⟩, hS.F ht⟩) hS.2.2 dX7_isLetter_15
    · have hE := hE.trans (if_neg c2)
      refine lv_iconst (v := 1) hx hb dX7_isLetter_10 (by decide) ?_
      refine lv_goto (tgt := 15) hx hb dX7_isLetter_11 (by decide) ?_
      exact W.zret (v := 1) hx hb hr rfl (fun t ht hW => ⟨⟨1, (), rfl, hE.symm, trivial⟩, hS.F ht⟩) hS.2.2 dX7_isLetter_15
def f_X7_isSign (V : VT) (p1 : Int32) : Int32 := (if p1 < 0 then 0 else (if 32768 ≤ p1 then 0 else 1))
set_option maxHeartbeats 4000000 in
set_option maxRecDepth 100000 in
theorem m_X7_isSign (l : Launch) (D : va_G) (cI cB : ClassId) (ad : Nat → Nat) (V : VT) (p1 : Int32)  : Met l yX7_isSign wsX7_isSign ({ frames := 0, cells := 0, slots := 0, locals := 0 }) (cP D cI cB ad V [.int p1]) (cR (f_X7_isSign V p1)) 0 0 (fun _ => False) := by
  refine Met.ofW (cc := cX7_isSign) (maxL := 1) (ret := (some .boolean)) (by decide +kernel) rfl ?_
  intro p e s m args below meth c s₁ B hml hv
  obtain ⟨rfl, hP, hKN⟩ := hv
  have hK := hKN.1
  have hx := B.exec
  have hb := B.bytes
  have hr := B.returns
  have hts := atoms_spec (ws := wsX7_isSign) B.pre
  have hown : s.vm.findClass RX7 = some m.cls := findClass_of_methodNamed B.named
  have hlocks := B.notSynchronized
  have hS : va_S (fun _ => False) s.heap s.heap [] := va_S.rf
  have hl := lv_entry ([.int p1]) (n := 1) (Nat.le_of_ble_eq_true rfl)
  rw [lg_entry_eq]
  generalize (lg_sl ([.int p1]) ++ List.replicate (1 - (lg_sl ([.int p1])).length) Slot.unset).toArray = ls at hl ⊢
  have hl : lv_has ls 1 [(0, .int p1)] := hl
  have hE : f_X7_isSign V p1 = (if p1 < 0 then 0 else (if 32768 ≤ p1 then 0 else 1)) := rfl
  refine lv_iload_n hx hb dX7_isSign_0 rfl (lv_at hl 0 rfl) ?_
  refine lv_if_lt (tgt := 15) hx hb dX7_isSign_1 (by decide) (fun c1 => ?_) (fun c1 => ?_)
  · have hE := hE.trans (if_pos c1)
    refine lv_iconst (v := 0) hx hb dX7_isSign_15 (by decide) ?_
    exact W.zret (v := 0) hx hb hr rfl (fun t ht hW => ⟨⟨0, (), rfl, hE.symm, trivial⟩, hS.F ht⟩) hS.2.2 dX7_isSign_16
  · have hE := hE.trans (if_neg c1)
    refine lv_iload_n hx hb dX7_isSign_4 rfl (lv_at hl 0 rfl) ?_
    refine lv_ldcw (v := 32768) hx hb hown (hts (.constant RX7 262 (32768)) (List.mem_of_getElem? (i := 1) rfl)) dX7_isSign_5 ?_
    refine lv_icmp_ge (tgt := 15) hx hb dX7_isSign_8 (by decide) (fun c2 => ?_) (fun c2 => ?_)
    · have hE := hE.trans (if_pos c2)
      refine lv_iconst (v := 0) hx hb dX7_isSign_15 (by decide) ?_
      exact W.zret (v := 0) hx hb hr rfl (fun t ht hW => ⟨⟨0, (), rfl, hE.symm, trivial⟩, hS.F ht⟩) hS.2.2 dX7_isSign_16
    · have hE := hE.trans (if_neg c2)
      refine lv_iconst (v := 1) hx hb dX7_isSign_11 (by decide) ?_
      refine lv_goto (tgt := 16) hx hb dX7_isSign_12 (by decide) ?_
      exact W.zret (v := 1) hx hb hr rfl (fun t ht hW => ⟨⟨1, (), rfl, hE.symm, trivial⟩, hS.F ht⟩) hS.2.2 dX7_isSign_16
def f_X7_isForce (V : VT) (p1 : Int32) : Int32 := (if p1 < 1 then 0 else (if 99 < p1 then 0 else 1))
set_option maxHeartbeats 4000000 in
set_option maxRecDepth 100000 in
theorem m_X7_isForce (l : Launch) (D : va_G) (cI cB : ClassId) (ad : Nat → Nat) (V : VT) (p1 : Int32)  : Met l yX7_isForce wsX7_isForce ({ frames := 0, cells := 0, slots := 0, locals := 0 }) (cP D cI cB ad V [.int p1]) (cR (f_X7_isForce V p1)) 0 0 (fun _ => False) := by
  refine Met.ofW (cc := cX7_isForce) (maxL := 1) (ret := (some .boolean)) (by decide +kernel) rfl ?_
  intro p e s m args below meth c s₁ B hml hv
  obtain ⟨rfl, hP, hKN⟩ := hv
  have hK := hKN.1
  have hx := B.exec
  have hb := B.bytes
  have hr := B.returns
  have hts := atoms_spec (ws := wsX7_isForce) B.pre
  have hown : s.vm.findClass RX7 = some m.cls := findClass_of_methodNamed B.named
  have hlocks := B.notSynchronized
  have hS : va_S (fun _ => False) s.heap s.heap [] := va_S.rf
  have hl := lv_entry ([.int p1]) (n := 1) (Nat.le_of_ble_eq_true rfl)
  rw [lg_entry_eq]
  generalize (lg_sl ([.int p1]) ++ List.replicate (1 - (lg_sl ([.int p1])).length) Slot.unset).toArray = ls at hl ⊢
  have hl : lv_has ls 1 [(0, .int p1)] := hl
  have hE : f_X7_isForce V p1 = (if p1 < 1 then 0 else (if 99 < p1 then 0 else 1)) := rfl
  refine lv_iload_n hx hb dX7_isForce_0 rfl (lv_at hl 0 rfl) ?_
  refine lv_iconst (v := 1) hx hb dX7_isForce_1 (by decide) ?_
  refine lv_icmp_lt (tgt := 15) hx hb dX7_isForce_2 (by decide) (fun c1 => ?_) (fun c1 => ?_)
  · have hE := hE.trans (if_pos c1)
    refine lv_iconst (v := 0) hx hb dX7_isForce_15 (by decide) ?_
    exact W.zret (v := 0) hx hb hr rfl (fun t ht hW => ⟨⟨0, (), rfl, hE.symm, trivial⟩, hS.F ht⟩) hS.2.2 dX7_isForce_16
  · have hE := hE.trans (if_neg c1)
    refine lv_iload_n hx hb dX7_isForce_5 rfl (lv_at hl 0 rfl) ?_
    refine lv_bipush (v := 99) hx hb dX7_isForce_6 (by decide) ?_
    refine lv_icmp_gt (tgt := 15) hx hb dX7_isForce_8 (by decide) (fun c2 => ?_) (fun c2 => ?_)
    · have hE := hE.trans (if_pos c2)
      refine lv_iconst (v := 0) hx hb dX7_isForce_15 (by decide) ?_
      exact W.zret (v := 0) hx hb hr rfl (fun t ht hW => ⟨⟨0, (), rfl, hE.symm, trivial⟩, hS.F ht⟩) hS.2.2 dX7_isForce_16
    · have hE := hE.trans (if_neg c2)
      refine lv_iconst (v := 1) hx hb dX7_isForce_11 (by decide) ?_
      refine lv_goto (tgt := 16) hx hb dX7_isForce_12 (by decide) ?_
      exact W.zret (v := 1) hx hb hr rfl (fun t ht hW => ⟨⟨1, (), rfl, hE.symm, trivial⟩, hS.F ht⟩) hS.2.2 dX7_isForce_16
def f_X7_isOneOfTwo (V : VT) (p1 : Int32) : Int32 := (if p1 = 0 then 1 else (if p1 = 1 then 1 else 0))
set_option maxHeartbeats 4000000 in
set_option maxRecDepth 100000 in
theorem m_X7_isOneOfTwo (l : Launch) (D : va_G) (cI cB : ClassId) (ad : Nat → Nat) (V : VT) (p1 : Int32)  : Met l yX7_isOneOfTwo wsX7_isOneOfTwo ({ frames := 0, cells := 0, slots := 0, locals := 0 }) (cP D cI cB ad V [.int p1]) (cR (f_X7_isOneOfTwo V p1)) 0 0 (fun _ => False) := by
  refine Met.ofW (cc := cX7_isOneOfTwo) (maxL := 1) (ret := (some .boolean)) (by decide +kernel) rfl ?_
  intro p e s m args below meth c s₁ B hml hv
  obtain ⟨rfl, hP, hKN⟩ := hv
  have hK := hKN.1
  have hx := B.exec
  have hb := B.bytes
  have hr := B.returns
  have hts := atoms_spec (ws := wsX7_isOneOfTwo) B.pre
  have hown : s.vm.findClass RX7 = some m.cls := findClass_of_methodNamed B.named
  have hlocks := B.notSynchronized
  have hS : va_S (fun _ => False) s.heap s.heap [] := va_S.rf
  have hl := lv_entry ([.int p1]) (n := 1) (Nat.le_of_ble_eq_true rfl)
  rw [lg_entry_eq]
  generalize (lg_sl ([.int p1]) ++ List.replicate (1 - (lg_sl ([.int p1])).length) Slot.unset).toArray = ls at hl ⊢
  have hl : lv_has ls 1 [(0, .int p1)] := hl
  have hE : f_X7_isOneOfTwo V p1 = (if p1 = 0 then 1 else (if p1 = 1 then 1 else 0)) := rfl
  refine lv_iload_n hx hb dX7_isOneOfTwo_0 rfl (lv_at hl 0 rfl) ?_
  refine lv_if_eq (tgt := 9) hx hb dX7_isOneOfTwo_1 (by decide) (fun c1 => ?_) (fun c1 => ?_)
  · have hE := hE.trans (if_pos c1)
    refine lv_iconst (v := 1) hx hb dX7_isOneOfTwo_9 (by decide) ?_
    refine lv_goto (tgt := 14) hx hb dX7_isOneOfTwo_10 (by decide) ?_
    exact W.zret (v := 1) hx hb hr rfl (fun t ht hW => ⟨⟨1, (), rfl, hE.symm, trivial⟩, hS.F ht⟩) hS.2.2 dX7_isOneOfTwo_14
  · have hE := hE.trans (if_neg c1)
    refine lv_iload_n hx hb dX7_isOneOfTwo_4 rfl (lv_at hl 0 rfl) ?_
    refine lv_iconst (v := 1) hx hb dX7_isOneOfTwo_5 (by decide) ?_
    refine lv_icmp_ne (tgt := 13) hx hb dX7_isOneOfTwo_6 (by decide) (fun c2 => ?_) (fun c2 => ?_)
    · have hE := hE.trans (if_neg c2)
      refine lv_iconst (v := 0) hx hb dX7_isOneOfTwo_13 (by decide) ?_
      exact W.zret (v := 0) hx hb hr rfl (fun t ht hW => ⟨⟨0, (), rfl, hE.symm, trivial⟩, hS.F ht⟩) hS.2.2 dX7_isOneOfTwo_14
    · have hE := hE.trans (if_pos c2)
      refine lv_iconst (v := 1) hx hb dX7_isOneOfTwo_9 (by decide) ?_
      refine lv_goto (tgt := 14) hx hb dX7_isOneOfTwo_10 (by decide) ?_
      exact W.zret (v := 1) hx hb hr rfl (fun t ht hW => ⟨⟨1, (), rfl, hE.symm, trivial⟩, hS.F ht⟩) hS.2.2 dX7_isOneOfTwo_14
def f_X7_otherWay (V : VT) (p1 : Int32) : Int32 := (if p1 = 0 then 1 else 0)
set_option maxHeartbeats 4000000 in
set_option maxRecDepth 100000 in
theorem m_X7_otherWay (l : Launch) (D : va_G) (cI cB : ClassId) (ad : Nat → Nat) (V : VT) (p1 : Int32)  : Met l yX7_otherWay wsX7_otherWay ({ frames := 0, cells := 0, slots := 0, locals := 0 }) (cP D cI cB ad V [.int p1]) (cR (f_X7_otherWay V p1)) 0 0 (fun _ => False) := by
  refine Met.ofW (cc := cX7_otherWay) (maxL := 1) (ret := (some .int)) (by decide +kernel) rfl ?_
  intro p e s m args below meth c s₁ B hml hv
  obtain ⟨rfl, hP, hKN⟩ := hv
  have hK := hKN.1
  have hx := B.exec
  have hb := B.bytes
  have hr := B.returns
  have hts := atoms_spec (ws := wsX7_otherWay) B.pre
  have hown : s.vm.findClass RX7 = some m.cls := findClass_of_methodNamed B.named
  have hlocks := B.notSynchronized
  have hS : va_S (fun _ => False) s.heap s.heap [] := va_S.rf
  have hl := lv_entry ([.int p1]) (n := 1) (Nat.le_of_ble_eq_true rfl)
  rw [lg_entry_eq]
  generalize (lg_sl ([.int p1]) ++ List.replicate (1 - (lg_sl ([.int p1])).length) Slot.unset).toArray = ls at hl ⊢
  have hl : lv_has ls 1 [(0, .int p1)] := hl
  have hE : f_X7_otherWay V p1 = (if p1 = 0 then 1 else 0) := rfl
  refine lv_iload_n hx hb dX7_otherWay_0 rfl (lv_at hl 0 rfl) ?_
  refine lv_if_ne (tgt := 8) hx hb dX7_otherWay_1 (by decide) (fun c1 => ?_) (fun c1 => ?_)
  · have hE := hE.trans (if_neg c1)
    refine lv_iconst (v := 0) hx hb dX7_otherWay_8 (by decide) ?_
    exact W.iret (v := 0) hx hb hr (fun t ht hW => ⟨⟨0, (), rfl, hE.symm, trivial⟩, hS.F ht⟩) hS.2.2 dX7_otherWay_9
  · have hE := hE.trans (if_pos c1)
    refine lv_iconst (v := 1) hx hb dX7_otherWay_4 (by decide) ?_
    refine lv_goto (tgt := 9) hx hb dX7_otherWay_5 (by decide) ?_
    exact W.iret (v := 1) hx hb hr (fun t ht hW => ⟨⟨1, (), rfl, hE.symm, trivial⟩, hS.F ht⟩) hS.2.2 dX7_otherWay_9
def f_X7_asNumber (V : VT) (p1 : Int32) : Int32 := (if p1 = 0 then 0 else 1)
set_option maxHeartbeats 4000000 in
set_option maxRecDepth 100000 in
theorem m_X7_asNumber (l : Launch) (D : va_G) (cI cB : ClassId) (ad : Nat → Nat) (V : VT) (p1 : Int32)  : Met l yX7_asNumber wsX7_asNumber ({ frames := 0, cells := 0, slots := 0, locals := 0 }) (cP D cI cB ad V [.int p1]) (cR (f_X7_asNumber V p1)) 0 0 (fun _ => False) := by
  refine Met.ofW (cc := cX7_asNumber) (maxL := 1) (ret := (some .int)) (by decide +kernel) rfl ?_
  intro p e s m args below meth c s₁ B hml hv
  obtain ⟨rfl, hP, hKN⟩ := hv
  have hK := hKN.1
  have hx := B.exec
  have hb := B.bytes
  have hr := B.returns
  have hts := atoms_spec (ws := wsX7_asNumber) B.pre
  have hown : s.vm.findClass RX7 = some m.cls := findClass_of_methodNamed B.named
  have hlocks := B.notSynchronized
  have hS : va_S (fun _ => False) s.heap s.heap [] := va_S.rf
  have hl := lv_entry ([.int p1]) (n := 1) (Nat.le_of_ble_eq_true rfl)
  rw [lg_entry_eq]
  generalize (lg_sl ([.int p1]) ++ List.replicate (1 - (lg_sl ([.int p1])).length) Slot.unset).toArray = ls at hl ⊢
  have hl : lv_has ls 1 [(0, .int p1)] := hl
  have hE : f_X7_asNumber V p1 = (if p1 = 0 then 0 else 1) := rfl
  refine lv_iload_n hx hb dX7_asNumber_0 rfl (lv_at hl 0 rfl) ?_
  refine lv_if_eq (tgt := 8) hx hb dX7_asNumber_1 (by decide) (fun c1 => ?_) (fun c1 => ?_)
  · have hE := hE.trans (if_pos c1)
    refine lv_iconst (v := 0) hx hb dX7_asNumber_8 (by decide) ?_
    exact W.iret (v := 0) hx hb hr (fun t ht hW => ⟨⟨0, (), rfl, hE.symm, trivial⟩, hS.F ht⟩) hS.2.2 dX7_asNumber_9
  · have hE := hE.trans (if_neg c1)
    refine lv_iconst (v := 1) hx hb dX7_asNumber_4 (by decide) ?_
    refine lv_goto (tgt := 9) hx hb dX7_asNumber_5 (by decide) ?_
    exact W.iret (v := 1) hx hb hr (fun t ht hW => ⟨⟨1, (), rfl, hE.symm, trivial⟩, hS.F ht⟩) hS.2.2 dX7_asNumber_9
def f_X7_foundOrNot (V : VT) (p1 : Int32) : Int32 := (if p1 = (-1) then (-1004) else p1)
set_option maxHeartbeats 4000000 in
set_option maxRecDepth 100000 in
theorem m_X7_foundOrNot (l : Launch) (D : va_G) (cI cB : ClassId) (ad : Nat → Nat) (V : VT) (p1 : Int32)  : Met l yX7_foundOrNot wsX7_foundOrNot ({ frames := 0, cells := 0, slots := 0, locals := 0 }) (cP D cI cB ad V [.int p1]) (cR (f_X7_foundOrNot V p1)) 0 0 (fun _ => False) := by
  refine Met.ofW (cc := cX7_foundOrNot) (maxL := 1) (ret := (some .int)) (by decide +kernel) rfl ?_
  intro p e s m args below meth c s₁ B hml hv
  obtain ⟨rfl, hP, hKN⟩ := hv
  have hK := hKN.1
  have hx := B.exec
  have hb := B.bytes
  have hr := B.returns
  have hts := atoms_spec (ws := wsX7_foundOrNot) B.pre
  have hown : s.vm.findClass RX7 = some m.cls := findClass_of_methodNamed B.named
  have hlocks := B.notSynchronized
  have hS : va_S (fun _ => False) s.heap s.heap [] := va_S.rf
  have hl := lv_entry ([.int p1]) (n := 1) (Nat.le_of_ble_eq_true rfl)
  rw [lg_entry_eq]
  generalize (lg_sl ([.int p1]) ++ List.replicate (1 - (lg_sl ([.int p1])).length) Slot.unset).toArray = ls at hl ⊢
  have hl : lv_has ls 1 [(0, .int p1)] := hl
  have hE : f_X7_foundOrNot V p1 = (if p1 = (-1) then (-1004) else p1) := rfl
  refine lv_iload_n hx hb dX7_foundOrNot_0 rfl (lv_at hl 0 rfl) ?_
  refine lv_iconst (v := (-1)) hx hb dX7_foundOrNot_1 (by decide) ?_
  refine lv_icmp_ne (tgt := 11) hx hb dX7_foundOrNot_2 (by decide) (fun c1 => ?_) (fun c1 => ?_)
  · have hE := hE.trans (if_neg c1)
    refine lv_iload_n hx hb dX7_foundOrNot_11 rfl (lv_at hl 0 rfl) ?_
    exact W.iret (v := p1) hx hb hr (fun t ht hW => ⟨⟨p1, (), rfl, hE.symm, trivial⟩, hS.F ht⟩) hS.2.2 dX7_foundOrNot_12
  · have hE := hE.trans (if_pos c1)
    refine lv_sipush (v := (-1004)) hx hb dX7_foundOrNot_5 (by decide) ?_
    refine lv_goto (tgt := 12) hx hb dX7_foundOrNot_8 (by decide) ?_
    exact W.iret (v := (-1004)) hx hb hr (fun t ht hW => ⟨⟨(-1004), (), rfl, hE.symm, trivial⟩, hS.F ht⟩) hS.2.2 dX7_foundOrNot_12
def f_X7_bitsOf_l2 (fu : Nat) (V : VT) (p1 : UInt32) : Nat → UInt32 → Int32 → Int32 → Int32
  | 0, x1_2, x2_2, x3_2 => 0
  | w2 + 1, x1_2, x2_2, x3_2 => (if 16 ≤ x3_2 then (if 0 ≤ (Op.cmpValue (FP.fcmp p1 FP.fconst0) CmpOp.g) then (((0 : Int32) ||| (x2_2 <<< (23 &&& 31))) ||| (FP.f2i (FP.fmul (FP.fsub x1_2 FP.fconst1) 1258291200))) else ((((-2147483648) : Int32) ||| (x2_2 <<< (23 &&& 31))) ||| (FP.f2i (FP.fmul (FP.fsub x1_2 FP.fconst1) 1258291200)))) else (if 0 ≤ (Op.cmpValue (FP.fcmp x1_2 FP.fconst1) CmpOp.g) then (if 0 ≤ (Op.cmpValue (FP.fcmp p1 FP.fconst0) CmpOp.g) then (((0 : Int32) ||| (x2_2 <<< (23 &&& 31))) ||| (FP.f2i (FP.fmul (FP.fsub x1_2 FP.fconst1) 1258291200))) else ((((-2147483648) : Int32) ||| (x2_2 <<< (23 &&& 31))) ||| (FP.f2i (FP.fmul (FP.fsub x1_2 FP.fconst1) 1258291200)))) else (f_X7_bitsOf_l2 fu V p1 w2 (FP.fmul x1_2 FP.fconst2) (x2_2 + (-1)) (x3_2 + 1))))
def p_X7_bitsOf_l2 (fu : Nat) (V : VT) (p1 : UInt32) : Nat → UInt32 → Int32 → Int32 → Prop
  | 0, _, _, _ => False
  | w2 + 1, x1_2, x2_2, x3_2 => ((16 ≤ x3_2 → ((vf_n32 (FP.fsub x1_2 FP.fconst1)) ∧ (vf_n32 (FP.fmul (FP.fsub x1_2 FP.fconst1) 1258291200)))) ∧ (¬ (16 ≤ x3_2) → ((0 ≤ (Op.cmpValue (FP.fcmp x1_2 FP.fconst1) CmpOp.g) → ((vf_n32 (FP.fsub x1_2 FP.fconst1)) ∧ (vf_n32 (FP.fmul (FP.fsub x1_2 FP.fconst1) 1258291200)))) ∧ (¬ (0 ≤ (Op.cmpValue (FP.fcmp x1_2 FP.fconst1) CmpOp.g)) → ((vf_n32 (FP.fmul x1_2 FP.fconst2)) ∧ (p_X7_bitsOf_l2 fu V p1 w2 (FP.fmul x1_2 FP.fconst2) (x2_2 + (-1)) (x3_2 + 1)))))))
def f_X7_bitsOf_l1 (fu : Nat) (V : VT) (p1 : UInt32) : Nat → UInt32 → Int32 → Int32 → Int32
  | 0, x1_1, x2_1, x3_1 => 0
  | w1 + 1, x1_1, x2_1, x3_1 => (if 16 ≤ x3_1 then (f_X7_bitsOf_l2 fu V p1 fu x1_1 x2_1 0) else (if (Op.cmpValue (FP.fcmp x1_1 FP.fconst2) CmpOp.l) < 0 then (f_X7_bitsOf_l2 fu V p1 fu x1_1 x2_1 0) else (f_X7_bitsOf_l1 fu V p1 w1 (FP.fdiv x1_1 FP.fconst2) (x2_1 + 1) (x3_1 + 1))))
def p_X7_bitsOf_l1 (fu : Nat) (V : VT) (p1 : UInt32) : Nat → UInt32 → Int32 → Int32 → Prop
  | 0, _, _, _ => False
  | w1 + 1, x1_1, x2_1, x3_1 => ((16 ≤ x3_1 → (p_X7_bitsOf_l2 fu V p1 fu x1_1 x2_1 0)) ∧ (¬ (16 ≤ x3_1) → (((Op.cmpValue (FP.fcmp x1_1 FP.fconst2) CmpOp.l) < 0 → (p_X7_bitsOf_l2 fu V p1 fu x1_1 x2_1 0)) ∧ (¬ ((Op.cmpValue (FP.fcmp x1_1 FP.fconst2) CmpOp.l) < 0) → ((vf_n32 (FP.fdiv x1_1 FP.fconst2)) ∧ (p_X7_bitsOf_l1 fu V p1 w1 (FP.fdiv x1_1 FP.fconst2) (x2_1 + 1) (x3_1 + 1)))))))
def f_X7_bitsOf (fu : Nat) (V : VT) (p1 : UInt32) : Int32 := (if (Op.cmpValue (FP.fcmp p1 FP.fconst0) CmpOp.l) = 0 then 0 else (if 0 ≤ (Op.cmpValue (FP.fcmp p1 FP.fconst0) CmpOp.g) then (f_X7_bitsOf_l1 fu V p1 fu p1 127 0) else (f_X7_bitsOf_l1 fu V p1 fu (FP.fneg p1) 127 0)))
def p_X7_bitsOf (fu : Nat) (V : VT) (p1 : UInt32) : Prop := (((Op.cmpValue (FP.fcmp p1 FP.fconst0) CmpOp.l) = 0 → True) ∧ (¬ ((Op.cmpValue (FP.fcmp p1 FP.fconst0) CmpOp.l) = 0) → ((0 ≤ (Op.cmpValue (FP.fcmp p1 FP.fconst0) CmpOp.g) → (p_X7_bitsOf_l1 fu V p1 fu p1 127 0)) ∧ (¬ (0 ≤ (Op.cmpValue (FP.fcmp p1 FP.fconst0) CmpOp.g)) → (p_X7_bitsOf_l1 fu V p1 fu (FP.fneg p1) 127 0)))))
set_option maxHeartbeats 4000000 in
set_option maxRecDepth 100000 in
theorem m_X7_bitsOf (l : Launch) (D : va_G) (cI cB : ClassId) (ad : Nat → Nat) (fu : Nat) (V : VT) (p1 : UInt32)  (hp : p_X7_bitsOf fu V p1) : Met l yX7_bitsOf wsX7_bitsOf ({ frames := 0, cells := 0, slots := 0, locals := 0 }) (cP D cI cB ad V [.float p1]) (cR (f_X7_bitsOf fu V p1)) 0 0 (fun _ => False) := by
  refine Met.ofW (cc := cX7_bitsOf) (maxL := 4) (ret := (some .int)) (by decide +kernel) rfl ?_
  intro p e s m args below meth c s₁ B hml hv
  obtain ⟨rfl, hP, hKN⟩ := hv
  have hK := hKN.1
  have hx := B.exec
  have hb := B.bytes
  have hr := B.returns
  have hts := atoms_spec (ws := wsX7_bitsOf) B.pre
  have hown : s.vm.findClass RX7 = some m.cls := findClass_of_methodNamed B.named
  have hlocks := B.notSynchronized
  have hS : va_S (fun _ => False) s.heap s.heap [] := va_S.rf
  have hl := lv_entry ([.float p1]) (n := 4) (Nat.le_of_ble_eq_true rfl)
  rw [lg_entry_eq]
  generalize (lg_sl ([.float p1]) ++ List.replicate (4 - (lg_sl ([.float p1])).length) Slot.unset).toArray = ls at hl ⊢
  have hl : lv_has ls 4 [(0, .float p1)] := hl
  have hE : f_X7_bitsOf fu V p1 = (if (Op.cmpValue (FP.fcmp p1 FP.fconst0) CmpOp.l) = 0 then 0 else (if 0 ≤ (Op.cmpValue (FP.fcmp p1 FP.fconst0) CmpOp.g) then (f_X7_bitsOf_l1 fu V p1 fu p1 127 0) else (f_X7_bitsOf_l1 fu V p1 fu (FP.fneg p1) 127 0))) := rfl
  refine lv_fload_n hx hb dX7_bitsOf_0 rfl (lv_at hl 0 rfl) ?_
  refine lv_fconst0 hx hb dX7_bitsOf_1 ?_
  refine lv_fcmp hx hb dX7_bitsOf_2 ?_
  refine lv_if_ne (tgt := 8) hx hb dX7_bitsOf_3 (by decide) (fun c1 => ?_) (fun c1 => ?_)
  · have hE := hE.trans (if_neg c1)
    have hp := pc_bn hp c1
    refine lv_fload_n hx hb dX7_bitsOf_8 rfl (lv_at hl 0 rfl) ?_
    refine lv_fconst0 hx hb dX7_bitsOf_9 ?_
    refine lv_fcmp hx hb dX7_bitsOf_10 ?_
    refine lv_if_ge (tgt := 19) hx hb dX7_bitsOf_11 (by decide) (fun c2 => ?_) (fun c2 => ?_)
    · have hE := hE.trans (if_pos c2)
      have hp := pc_br hp c2
      refine lv_fload_n hx hb dX7_bitsOf_19 rfl (lv_at hl 0 rfl) ?_
      refine lv_fstore_n (lv' := [(1, .float p1), (0, .float p1)]) hx hb dX7_bitsOf_20 rfl hl (by decide) rfl (fun ls hl => ?_)
      refine lv_bipush (v := 127) hx hb dX7_bitsOf_21 (by decide) ?_
      refine lv_istore_n (lv' := [(2, .int 127), (1, .float p1), (0, .float p1)]) hx hb dX7_bitsOf_23 rfl hl (by decide) rfl (fun ls hl => ?_)
      refine lv_iconst (v := 0) hx hb dX7_bitsOf_24 (by decide) ?_
      refine lv_istore_n (lv' := [(3, .int 0), (2, .int 127), (1, .float p1), (0, .float p1)]) hx hb dX7_bitsOf_25 rfl hl (by decide) rfl (fun ls hl => ?_)
      have L1 : ∀ (w1 : Nat) (x1_1 : UInt32) (x2_1 : Int32) (x3_1 : Int32), f_X7_bitsOf fu V p1 = f_X7_bitsOf_l1 fu V p1 w1 x1_1 x2_1 x3_1 → p_X7_bitsOf_l1 fu V p1 w1 x1_1 x2_1 x3_1 → ∀ (H : Heap) (locs : List Loc), wP D cI cB ad V H → va_S (fun _ => False) s.heap H locs → ∀ (ls : Array Slot), lv_has ls 4 [(0, .float p1), (1, .float x1_1), (2, .int x2_1), (3, .int x3_1)] → W p l e (headSpec wsX7_bitsOf ({ frames := 0, cells := 0, slots := 0, locals := 0 })).room s m ([.float p1] : List Value).toArray below meth c H locs 0 0 (MQ below (cR (f_X7_bitsOf fu V p1)) ([.float p1] : List Value).toArray s 0 0 (fun _ => False)) (F0 m 26 ls []) := by
        intro w1
        induction w1 with
        | zero => intro x1_1 x2_1 x3_1 hE hp; exact hp.elim
        | succ w1 ih1 =>
          intro x1_1 x2_1 x3_1 hE hp H locs hP hS ls hl
          rw [f_X7_bitsOf_l1] at hE
          rw [p_X7_bitsOf_l1] at hp
          refine lv_iload_n hx hb dX7_bitsOf_26 rfl (lv_at hl 3 rfl) ?_
          refine lv_bipush (v := 16) hx hb dX7_bitsOf_27 (by decide) ?_
          refine lv_icmp_ge (tgt := 51) hx hb dX7_bitsOf_29 (by decide) (fun c3 => ?_) (fun c3 => ?_)
          · have hE := hE.trans (if_pos c3)
            have hp := pc_br hp c3
            refine lv_iconst (v := 0) hx hb dX7_bitsOf_51 (by decide) ?_
            refine lv_istore_n (lv' := [(3, .int 0), (0, .float p1), (1, .float x1_1), (2, .int x2_1)]) hx hb dX7_bitsOf_52 rfl hl (by decide) rfl (fun ls hl => ?_)
            have L2 : ∀ (w2 : Nat) (x1_2 : UInt32) (x2_2 : Int32) (x3_2 : Int32), f_X7_bitsOf fu V p1 = f_X7_bitsOf_l2 fu V p1 w2 x1_2 x2_2 x3_2 → p_X7_bitsOf_l2 fu V p1 w2 x1_2 x2_2 x3_2 → ∀ (H : Heap) (locs : List Loc), wP D cI cB ad V H → va_S (fun _ => False) s.heap H locs → ∀ (ls : Array Slot), lv_has ls 4 [(0, .float p1), (1, .float x1_2), (2, .int x2_2), (3, .int x3_2)] → W p l e (headSpec wsX7_bitsOf ({ frames := 0, cells := 0, slots := 0, locals := 0 })).room s m ([.float p1] : List Value).toArray below meth c H locs 0 0 (MQ below (cR (f_X7_bitsOf fu V p1)) ([.float p1] : List Value).toArray s 0 0 (fun _ => False)) (F0 m 53 ls []) := by
              intro w2
              induction w2 with
              | zero => intro x1_2 x2_2 x3_2 hE hp; exact hp.elim
              | succ w2 ih2 =>
                intro x1_2 x2_2 x3_2 hE hp H locs hP hS ls hl
                rw [f_X7_bitsOf_l2] at hE
                rw [p_X7_bitsOf_l2] at hp
                refine lv_iload_n hx hb dX7_bitsOf_53 rfl (lv_at hl 3 rfl) ?_
                refine lv_bipush (v := 16) hx hb dX7_bitsOf_54 (by decide) ?_
                refine lv_icmp_ge (tgt := 78) hx hb dX7_bitsOf_56 (by decide) (fun c4 => ?_) (fun c4 => ?_)
                · have hE := hE.trans (if_pos c4)
                  have hp := pc_br hp c4
                  refine lv_fload_n hx hb dX7_bitsOf_78 rfl (lv_at hl 1 rfl) ?_
                  refine lv_fconst1 hx hb dX7_bitsOf_79 ?_
                  obtain ⟨hn1, hp⟩ := hp
                  refine lv_fsub hx hb dX7_bitsOf_80 hn1 ?_
                  refine lv_ldcwf (v := 1258291200) hx hb hown (hts (.constantFloat RX7 263 (1258291200)) (List.mem_of_getElem? (i := 1) rfl)) dX7_bitsOf_81 ?_
                  have hn2 := hp
                  refine lv_fmul hx hb dX7_bitsOf_84 hn2 ?_
                  refine lv_f2i hx hb dX7_bitsOf_85 ?_
                  refine lv_istore_n (lv' := [(3, .int (FP.f2i (FP.fmul (FP.fsub x1_2 FP.fconst1) 1258291200))), (0, .float p1), (1, .float x1_2), (2, .int x2_2)]) hx hb dX7_bitsOf_86 rfl hl (by decide) rfl (fun ls hl => ?_)
                  refine lv_fload_n hx hb dX7_bitsOf_87 rfl (lv_at hl 1 rfl) ?_
                  refine lv_fconst0 hx hb dX7_bitsOf_88 ?_
                  refine lv_fcmp hx hb dX7_bitsOf_89 ?_
                  refine lv_if_ge (tgt := 99) hx hb dX7_bitsOf_90 (by decide) (fun c5 => ?_) (fun c5 => ?_)
                  · have hE := hE.trans (if_pos c5)
                    refine lv_iconst (v := 0) hx hb dX7_bitsOf_99 (by decide) ?_
                    refine lv_iload_n hx hb dX7_bitsOf_100 rfl (lv_at hl 3 rfl) ?_
                    refine lv_bipush (v := 23) hx hb dX7_bitsOf_101 (by decide) ?_
                    refine lv_ishl hx hb dX7_bitsOf_103 ?_
                    refine lv_ior hx hb dX7_bitsOf_104 ?_
                    refine lv_iload_n hx hb dX7_bitsOf_105 rfl (lv_at hl 0 rfl) ?_
                    refine lv_ior hx hb dX7_bitsOf_106 ?_
                    exact W.iret (v := (((0 : Int32) ||| (x2_2 <<< (23 &&& 31))) ||| (FP.f2i (FP.fmul (FP.fsub x1_2 FP.fconst1) 1258291200)))) hx hb hr (fun t ht hW => ⟨⟨(((0 : Int32) ||| (x2_2 <<< (23 &&& 31))) ||| (FP.f2i (FP.fmul (FP.fsub x1_2 FP.fconst1) 1258291200))), (), rfl, hE.symm, trivial⟩, hS.F ht⟩) hS.2.2 dX7_bitsOf_107
                  · have hE := hE.trans (if_neg c5)
                    refine lv_ldcw (v := (-2147483648)) hx hb hown (hts (.constant RX7 264 (-2147483648)) (List.mem_of_getElem? (i := 2) rfl)) dX7_bitsOf_93 ?_
                    refine lv_goto (tgt := 100) hx hb dX7_bitsOf_96 (by decide) ?_
                    refine lv_iload_n hx hb dX7_bitsOf_100 rfl (lv_at hl 3 rfl) ?_
                    refine lv_bipush (v := 23) hx hb dX7_bitsOf_101 (by decide) ?_
                    refine lv_ishl hx hb dX7_bitsOf_103 ?_
                    refine lv_ior hx hb dX7_bitsOf_104 ?_
                    refine lv_iload_n hx hb dX7_bitsOf_105 rfl (lv_at hl 0 rfl) ?_
                    refine lv_ior hx hb dX7_bitsOf_106 ?_
                    exact W.iret (v := ((((-2147483648) : Int32) ||| (x2_2 <<< (23 &&& 31))) ||| (FP.f2i (FP.fmul (FP.fsub x1_2 FP.fconst1) 1258291200)))) hx hb hr (fun t ht hW => ⟨⟨((((-2147483648) : Int32) ||| (x2_2 <<< (23 &&& 31))) ||| (FP.f2i (FP.fmul (FP.fsub x1_2 FP.fconst1) 1258291200))), (), rfl, hE.symm, trivial⟩, hS.F ht⟩) hS.2.2 dX7_bitsOf_107
                · have hE := hE.trans (if_neg c4)
                  have hp := pc_bn hp c4
                  refine lv_fload_n hx hb dX7_bitsOf_59 rfl (lv_at hl 1 rfl) ?_
                  refine lv_fconst1 hx hb dX7_bitsOf_60 ?_
                  refine lv_fcmp hx hb dX7_bitsOf_61 ?_
                  refine lv_if_ge (tgt := 78) hx hb dX7_bitsOf_62 (by decide) (fun c6 => ?_) (fun c6 => ?_)
                  · have hE := hE.trans (if_pos c6)
                    have hp := pc_br hp c6
                    refine lv_fload_n hx hb dX7_bitsOf_78 rfl (lv_at hl 1 rfl) ?_
                    refine lv_fconst1 hx hb dX7_bitsOf_79 ?_
                    obtain ⟨hn3, hp⟩ := hp
                    refine lv_fsub hx hb dX7_bitsOf_80 hn3 ?_
                    refine lv_ldcwf (v := 1258291200) hx hb hown (hts (.constantFloat RX7 263 (1258291200)) (List.mem_of_getElem? (i := 1) rfl)) dX7_bitsOf_81 ?_
                    have hn4 := hp
                    refine lv_fmul hx hb dX7_bitsOf_84 hn4 ?_
                    refine lv_f2i hx hb dX7_bitsOf_85 ?_
                    refine lv_istore_n (lv' := [(3, .int (FP.f2i (FP.fmul (FP.fsub x1_2 FP.fconst1) 1258291200))), (0, .float p1), (1, .float x1_2), (2, .int x2_2)]) hx hb dX7_bitsOf_86 rfl hl (by decide) rfl (fun ls hl => ?_)
                    refine lv_fload_n hx hb dX7_bitsOf_87 rfl (lv_at hl 1 rfl) ?_
                    refine lv_fconst0 hx hb dX7_bitsOf_88 ?_
                    refine lv_fcmp hx hb dX7_bitsOf_89 ?_
                    refine lv_if_ge (tgt := 99) hx hb dX7_bitsOf_90 (by decide) (fun c7 => ?_) (fun c7 => ?_)
                    · have hE := hE.trans (if_pos c7)
                      refine lv_iconst (v := 0) hx hb dX7_bitsOf_99 (by decide) ?_
                      refine lv_iload_n hx hb dX7_bitsOf_100 rfl (lv_at hl 3 rfl) ?_
                      refine lv_bipush (v := 23) hx hb dX7_bitsOf_101 (by decide) ?_
                      refine lv_ishl hx hb dX7_bitsOf_103 ?_
                      refine lv_ior hx hb dX7_bitsOf_104 ?_
                      refine lv_iload_n hx hb dX7_bitsOf_105 rfl (lv_at hl 0 rfl) ?_
                      refine lv_ior hx hb dX7_bitsOf_106 ?_
                      exact W.iret (v := (((0 : Int32) ||| (x2_2 <<< (23 &&& 31))) ||| (FP.f2i (FP.fmul (FP.fsub x1_2 FP.fconst1) 1258291200)))) hx hb hr (fun t ht hW => ⟨⟨(((0 : Int32) ||| (x2_2 <<< (23 &&& 31))) ||| (FP.f2i (FP.fmul (FP.fsub x1_2 FP.fconst1) 1258291200))), (), rfl, hE.symm, trivial⟩, hS.F ht⟩) hS.2.2 dX7_bitsOf_107
                    · have hE := hE.trans (if_neg c7)
                      refine lv_ldcw (v := (-2147483648)) hx hb hown (hts (.constant RX7 264 (-2147483648)) (List.mem_of_getElem? (i := 2) rfl)) dX7_bitsOf_93 ?_
                      refine lv_goto (tgt := 100) hx hb dX7_bitsOf_96 (by decide) ?_
                      refine lv_iload_n hx hb dX7_bitsOf_100 rfl (lv_at hl 3 rfl) ?_
                      refine lv_bipush (v := 23) hx hb dX7_bitsOf_101 (by decide) ?_
                      refine lv_ishl hx hb dX7_bitsOf_103 ?_
                      refine lv_ior hx hb dX7_bitsOf_104 ?_
                      refine lv_iload_n hx hb dX7_bitsOf_105 rfl (lv_at hl 0 rfl) ?_
                      refine lv_ior hx hb dX7_bitsOf_106 ?_
                      exact W.iret (v := ((((-2147483648) : Int32) ||| (x2_2 <<< (23 &&& 31))) ||| (FP.f2i (FP.fmul (FP.fsub x1_2 FP.fconst1) 1258291200)))) hx hb hr (fun t ht hW => ⟨⟨((((-2147483648) : Int32) ||| (x2_2 <<< (23 &&& 31))) ||| (FP.f2i (FP.fmul (FP.fsub x1_2 FP.fconst1) 1258291200))), (), rfl, hE.symm, trivial⟩, hS.F ht⟩) hS.2.2 dX7_bitsOf_107
                  · have hE := hE.trans (if_neg c6)
                    have hp := pc_bn hp c6
                    refine lv_fload_n hx hb dX7_bitsOf_65 rfl (lv_at hl 1 rfl) ?_
                    refine lv_fconst2 hx hb dX7_bitsOf_66 ?_
                    obtain ⟨hn5, hp⟩ := hp
                    refine lv_fmul hx hb dX7_bitsOf_67 hn5 ?_
                    refine lv_fstore_n (lv' := [(1, .float (FP.fmul x1_2 FP.fconst2)), (0, .float p1), (2, .int x2_2), (3, .int x3_2)]) hx hb dX7_bitsOf_68 rfl hl (by decide) rfl (fun ls hl => ?_)
                    refine lv_iinc (v := (x2_2 + (-1))) (lv' := [(2, .int (x2_2 + (-1))), (1, .float (FP.fmul x1_2 FP.fconst2)), (0, .float p1), (3, .int x3_2)]) hx hb dX7_bitsOf_69 hl (k := 2) rfl (by rfl) (by decide) rfl (fun ls hl => ?_)
                    refine lv_iinc (v := (x3_2 + 1)) (lv' := [(3, .int (x3_2 + 1)), (2, .int (x2_2 + (-1))), (1, .float (FP.fmul x1_2 FP.fconst2)), (0, .float p1)]) hx hb dX7_bitsOf_72 hl (k := 3) rfl (by rfl) (by decide) rfl (fun ls hl => ?_)
                    refine lv_goto (tgt := 53) hx hb dX7_bitsOf_75 (by decide) ?_
                    exact ih2 (FP.fmul x1_2 FP.fconst2) (x2_2 + (-1)) (x3_2 + 1) hE hp H locs hP hS ls (lv_sub hl [3, 2, 1, 0] rfl)
            exact L2 fu x1_1 x2_1 0 hE hp _ _ hP hS _ (lv_sub hl [1, 2, 3, 0] rfl)
          · have hE := hE.trans (if_neg c3)
            have hp := pc_bn hp c3
            refine lv_fload_n hx hb dX7_bitsOf_32 rfl (lv_at hl 1 rfl) ?_
            refine lv_fconst2 hx hb dX7_bitsOf_33 ?_
            refine lv_fcmp hx hb dX7_bitsOf_34 ?_
            refine lv_if_lt (tgt := 51) hx hb dX7_bitsOf_35 (by decide) (fun c8 => ?_) (fun c8 => ?_)
            · have hE := hE.trans (if_pos c8)
              have hp := pc_br hp c8
              refine lv_iconst (v := 0) hx hb dX7_bitsOf_51 (by decide) ?_
              refine lv_istore_n (lv' := [(3, .int 0), (0, .float p1), (1, .float x1_1), (2, .int x2_1)]) hx hb dX7_bitsOf_52 rfl hl (by decide) rfl (fun ls hl => ?_)
              have L2 : ∀ (w2 : Nat) (x1_2 : UInt32) (x2_2 : Int32) (x3_2 : Int32), f_X7_bitsOf fu V p1 = f_X7_bitsOf_l2 fu V p1 w2 x1_2 x2_2 x3_2 → p_X7_bitsOf_l2 fu V p1 w2 x1_2 x2_2 x3_2 → ∀ (H : Heap) (locs : List Loc), wP D cI cB ad V H → va_S (fun _ => False) s.heap H locs → ∀ (ls : Array Slot), lv_has ls 4 [(0, .float p1), (1, .float x1_2), (2, .int x2_2), (3, .int x3_2)] → W p l e (headSpec wsX7_bitsOf ({ frames := 0, cells := 0, slots := 0, locals := 0 })).room s m ([.float p1] : List Value).toArray below meth c H locs 0 0 (MQ below (cR (f_X7_bitsOf fu V p1)) ([.float p1] : List Value).toArray s 0 0 (fun _ => False)) (F0 m 53 ls []) := by
                intro w2
                induction w2 with
                | zero => intro x1_2 x2_2 x3_2 hE hp; exact hp.elim
                | succ w2 ih2 =>
                  intro x1_2 x2_2 x3_2 hE hp H locs hP hS ls hl
                  rw [f_X7_bitsOf_l2] at hE
                  rw [p_X7_bitsOf_l2] at hp
                  refine lv_iload_n hx hb dX7_bitsOf_53 rfl (lv_at hl 3 rfl) ?_
                  refine lv_bipush (v := 16) hx hb dX7_bitsOf_54 (by decide) ?_
                  refine lv_icmp_ge (tgt := 78) hx hb dX7_bitsOf_56 (by decide) (fun c9 => ?_) (fun c9 => ?_)
                  · have hE := hE.trans (if_pos c9)
                    have hp := pc_br hp c9
                    refine lv_fload_n hx hb dX7_bitsOf_78 rfl (lv_at hl 1 rfl) ?_
                    refine lv_fconst1 hx hb dX7_bitsOf_79 ?_
                    obtain ⟨hn6, hp⟩ := hp
                    refine lv_fsub hx hb dX7_bitsOf_80 hn6 ?_
                    refine lv_ldcwf (v := 1258291200) hx hb hown (hts (.constantFloat RX7 263 (1258291200)) (List.mem_of_getElem? (i := 1) rfl)) dX7_bitsOf_81 ?_
                    have hn7 := hp
                    refine lv_fmul hx hb dX7_bitsOf_84 hn7 ?_
                    refine lv_f2i hx hb dX7_bitsOf_85 ?_
                    refine lv_istore_n (lv' := [(3, .int (FP.f2i (FP.fmul (FP.fsub x1_2 FP.fconst1) 1258291200))), (0, .float p1), (1, .float x1_2), (2, .int x2_2)]) hx hb dX7_bitsOf_86 rfl hl (by decide) rfl (fun ls hl => ?_)
                    refine lv_fload_n hx hb dX7_bitsOf_87 rfl (lv_at hl 1 rfl) ?_
                    refine lv_fconst0 hx hb dX7_bitsOf_88 ?_
                    refine lv_fcmp hx hb dX7_bitsOf_89 ?_
                    refine lv_if_ge (tgt := 99) hx hb dX7_bitsOf_90 (by decide) (fun c10 => ?_) (fun c10 => ?_)
                    · have hE := hE.trans (if_pos c10)
                      refine lv_iconst (v := 0) hx hb dX7_bitsOf_99 (by decide) ?_
                      refine lv_iload_n hx hb dX7_bitsOf_100 rfl (lv_at hl 3 rfl) ?_
                      refine lv_bipush (v := 23) hx hb dX7_bitsOf_101 (by decide) ?_
                      refine lv_ishl hx hb dX7_bitsOf_103 ?_
                      refine lv_ior hx hb dX7_bitsOf_104 ?_
                      refine lv_iload_n hx hb dX7_bitsOf_105 rfl (lv_at hl 0 rfl) ?_
                      refine lv_ior hx hb dX7_bitsOf_106 ?_
                      exact W.iret (v := (((0 : Int32) ||| (x2_2 <<< (23 &&& 31))) ||| (FP.f2i (FP.fmul (FP.fsub x1_2 FP.fconst1) 1258291200)))) hx hb hr (fun t ht hW => ⟨⟨(((0 : Int32) ||| (x2_2 <<< (23 &&& 31))) ||| (FP.f2i (FP.fmul (FP.fsub x1_2 FP.fconst1) 1258291200))), (), rfl, hE.symm, trivial⟩, hS.F ht⟩) hS.2.2 dX7_bitsOf_107
                    · have hE := hE.trans (if_neg c10)
                      refine lv_ldcw (v := (-2147483648)) hx hb hown (hts (.constant RX7 264 (-2147483648)) (List.mem_of_getElem? (i := 2) rfl)) dX7_bitsOf_93 ?_
                      refine lv_goto (tgt := 100) hx hb dX7_bitsOf_96 (by decide) ?_
                      refine lv_iload_n hx hb dX7_bitsOf_100 rfl (lv_at hl 3 rfl) ?_
                      refine lv_bipush (v := 23) hx hb dX7_bitsOf_101 (by decide) ?_
                      refine lv_ishl hx hb dX7_bitsOf_103 ?_
                      refine lv_ior hx hb dX7_bitsOf_104 ?_
                      refine lv_iload_n hx hb dX7_bitsOf_105 rfl (lv_at hl 0 rfl) ?_
                      refine lv_ior hx hb dX7_bitsOf_106 ?_
                      exact W.iret (v := ((((-2147483648) : Int32) ||| (x2_2 <<< (23 &&& 31))) ||| (FP.f2i (FP.fmul (FP.fsub x1_2 FP.fconst1) 1258291200)))) hx hb hr (fun t ht hW => ⟨⟨((((-2147483648) : Int32) ||| (x2_2 <<< (23 &&& 31))) ||| (FP.f2i (FP.fmul (FP.fsub x1_2 FP.fconst1) 1258291200))), (), rfl, hE.symm, trivial⟩, hS.F ht⟩) hS.2.2 dX7_bitsOf_107
                  · have hE := hE.trans (if_neg c9)
                    have hp := pc_bn hp c9
                    refine lv_fload_n hx hb dX7_bitsOf_59 rfl (lv_at hl 1 rfl) ?_
                    refine lv_fconst1 hx hb dX7_bitsOf_60 ?_
                    refine lv_fcmp hx hb dX7_bitsOf_61 ?_
                    refine lv_if_ge (tgt := 78) hx hb dX7_bitsOf_62 (by decide) (fun c11 => ?_) (fun c11 => ?_)
                    · have hE := hE.trans (if_pos c11)
                      have hp := pc_br hp c11
                      refine lv_fload_n hx hb dX7_bitsOf_78 rfl (lv_at hl 1 rfl) ?_
                      refine lv_fconst1 hx hb dX7_bitsOf_79 ?_
                      obtain ⟨hn8, hp⟩ := hp
                      refine lv_fsub hx hb dX7_bitsOf_80 hn8 ?_
                      refine lv_ldcwf (v := 1258291200) hx hb hown (hts (.constantFloat RX7 263 (1258291200)) (List.mem_of_getElem? (i := 1) rfl)) dX7_bitsOf_81 ?_
                      have hn9 := hp
                      refine lv_fmul hx hb dX7_bitsOf_84 hn9 ?_
                      refine lv_f2i hx hb dX7_bitsOf_85 ?_
                      refine lv_istore_n (lv' := [(3, .int (FP.f2i (FP.fmul (FP.fsub x1_2 FP.fconst1) 1258291200))), (0, .float p1), (1, .float x1_2), (2, .int x2_2)]) hx hb dX7_bitsOf_86 rfl hl (by decide) rfl (fun ls hl => ?_)
                      refine lv_fload_n hx hb dX7_bitsOf_87 rfl (lv_at hl 1 rfl) ?_
                      refine lv_fconst0 hx hb dX7_bitsOf_88 ?_
                      refine lv_fcmp hx hb dX7_bitsOf_89 ?_
                      refine lv_if_ge (tgt := 99) hx hb dX7_bitsOf_90 (by decide) (fun c12 => ?_) (fun c12 => ?_)
                      · have hE := hE.trans (if_pos c12)
                        refine lv_iconst (v := 0) hx hb dX7_bitsOf_99 (by decide) ?_
                        refine lv_iload_n hx hb dX7_bitsOf_100 rfl (lv_at hl 3 rfl) ?_
                        refine lv_bipush (v := 23) hx hb dX7_bitsOf_101 (by decide) ?_
                        refine lv_ishl hx hb dX7_bitsOf_103 ?_
                        refine lv_ior hx hb dX7_bitsOf_104 ?_
                        refine lv_iload_n hx hb dX7_bitsOf_105 rfl (lv_at hl 0 rfl) ?_
                        refine lv_ior hx hb dX7_bitsOf_106 ?_
                        exact W.iret (v := (((0 : Int32) ||| (x2_2 <<< (23 &&& 31))) ||| (FP.f2i (FP.fmul (FP.fsub x1_2 FP.fconst1) 1258291200)))) hx hb hr (fun t ht hW => ⟨⟨(((0 : Int32) ||| (x2_2 <<< (23 &&& 31))) ||| (FP.f2i (FP.fmul (FP.fsub x1_2 FP.fconst1) 1258291200))), (), rfl, hE.symm, trivial⟩, hS.F ht⟩) hS.2.2 dX7_bitsOf_107
                      · have hE := hE.trans (if_neg c12)
                        refine lv_ldcw (v := (-2147483648)) hx hb hown (hts (.constant RX7 264 (-2147483648)) (List.mem_of_getElem? (i := 2) rfl)) dX7_bitsOf_93 ?_
                        refine lv_goto (tgt := 100) hx hb dX7_bitsOf_96 (by decide) ?_
                        refine lv_iload_n hx hb dX7_bitsOf_100 rfl (lv_at hl 3 rfl) ?_
                        refine lv_bipush (v := 23) hx hb dX7_bitsOf_101 (by decide) ?_
                        refine lv_ishl hx hb dX7_bitsOf_103 ?_
                        refine lv_ior hx hb dX7_bitsOf_104 ?_
                        refine lv_iload_n hx hb dX7_bitsOf_105 rfl (lv_at hl 0 rfl) ?_
                        refine lv_ior hx hb dX7_bitsOf_106 ?_
                        exact W.iret (v := ((((-2147483648) : Int32) ||| (x2_2 <<< (23 &&& 31))) ||| (FP.f2i (FP.fmul (FP.fsub x1_2 FP.fconst1) 1258291200)))) hx hb hr (fun t ht hW => ⟨⟨((((-2147483648) : Int32) ||| (x2_2 <<< (23 &&& 31))) ||| (FP.f2i (FP.fmul (FP.fsub x1_2 FP.fconst1) 1258291200))), (), rfl, hE.symm, trivial⟩, hS.F ht⟩) hS.2.2 dX7_bitsOf_107
                    · have hE := hE.trans (if_neg c11)
                      have hp := pc_bn hp c11
                      refine lv_fload_n hx hb dX7_bitsOf_65 rfl (lv_at hl 1 rfl) ?_
                      refine lv_fconst2 hx hb dX7_bitsOf_66 ?_
                      obtain ⟨hn10, hp⟩ := hp
                      refine lv_fmul hx hb dX7_bitsOf_67 hn10 ?_
                      refine lv_fstore_n (lv' := [(1, .float (FP.fmul x1_2 FP.fconst2)), (0, .float p1), (2, .int x2_2), (3, .int x3_2)]) hx hb dX7_bitsOf_68 rfl hl (by decide) rfl (fun ls hl => ?_)
                      refine lv_iinc (v := (x2_2 + (-1))) (lv' := [(2, .int (x2_2 + (-1))), (1, .float (FP.fmul x1_2 FP.fconst2)), (0, .float p1), (3, .int x3_2)]) hx hb dX7_bitsOf_69 hl (k := 2) rfl (by rfl) (by decide) rfl (fun ls hl => ?_)
                      refine lv_iinc (v := (x3_2 + 1)) (lv' := [(3, .int (x3_2 + 1)), (2, .int (x2_2 + (-1))), (1, .float (FP.fmul x1_2 FP.fconst2)), (0, .float p1)]) hx hb dX7_bitsOf_72 hl (k := 3) rfl (by rfl) (by decide) rfl (fun ls hl => ?_)
                      refine lv_goto (tgt := 53) hx hb dX7_bitsOf_75 (by decide) ?_
                      exact ih2 (FP.fmul x1_2 FP.fconst2) (x2_2 + (-1)) (x3_2 + 1) hE hp H locs hP hS ls (lv_sub hl [3, 2, 1, 0] rfl)
              exact L2 fu x1_1 x2_1 0 hE hp _ _ hP hS _ (lv_sub hl [1, 2, 3, 0] rfl)
            · have hE := hE.trans (if_neg c8)
              have hp := pc_bn hp c8
              refine lv_fload_n hx hb dX7_bitsOf_38 rfl (lv_at hl 1 rfl) ?_
              refine lv_fconst2 hx hb dX7_bitsOf_39 ?_
              obtain ⟨hn11, hp⟩ := hp
              refine lv_fdiv hx hb dX7_bitsOf_40 hn11 ?_
              refine lv_fstore_n (lv' := [(1, .float (FP.fdiv x1_1 FP.fconst2)), (0, .float p1), (2, .int x2_1), (3, .int x3_1)]) hx hb dX7_bitsOf_41 rfl hl (by decide) rfl (fun ls hl => ?_)
              refine lv_iinc (v := (x2_1 + 1)) (lv' := [(2, .int (x2_1 + 1)), (1, .float (FP.fdiv x1_1 FP.fconst2)), (0, .float p1), (3, .int x3_1)]) hx hb dX7_bitsOf_42 hl (k := 2) rfl (by rfl) (by decide) rfl (fun ls hl => ?_)
              refine lv_iinc (v := (x3_1 + 1)) (lv' := [(3, .int (x3_1 + 1)), (2, .int (x2_1 + 1)), (1, .float (FP.fdiv x1_1 FP.fconst2)), (0, .float p1)]) hx hb dX7_bitsOf_45 hl (k := 3) rfl (by rfl) (by decide) rfl (fun ls hl => ?_)
              refine lv_goto (tgt := 26) hx hb dX7_bitsOf_48 (by decide) ?_
              exact ih1 (FP.fdiv x1_1 FP.fconst2) (x2_1 + 1) (x3_1 + 1) hE hp H locs hP hS ls (lv_sub hl [3, 2, 1, 0] rfl)
      exact L1 fu p1 127 0 hE hp _ _ hP hS _ (lv_sub hl [3, 2, 1, 0] rfl)
    · have hE := hE.trans (if_neg c2)
      have hp := pc_bn hp c2
      refine lv_fload_n hx hb dX7_bitsOf_14 rfl (lv_at hl 0 rfl) ?_
      refine lv_fneg hx hb dX7_bitsOf_15 ?_
      refine lv_goto (tgt := 20) hx hb dX7_bitsOf_16 (by decide) ?_
      refine lv_fstore_n (lv' := [(1, .float (FP.fneg p1)), (0, .float p1)]) hx hb dX7_bitsOf_20 rfl hl (by decide) rfl (fun ls hl => ?_)
      refine lv_bipush (v := 127) hx hb dX7_bitsOf_21 (by decide) ?_
      refine lv_istore_n (lv' := [(2, .int 127), (1, .float (FP.fneg p1)), (0, .float p1)]) hx hb dX7_bitsOf_23 rfl hl (by decide) rfl (fun ls hl => ?_)
      refine lv_iconst (v := 0) hx hb dX7_bitsOf_24 (by decide) ?_
      refine lv_istore_n (lv' := [(3, .int 0), (2, .int 127), (1, .float (FP.fneg p1)), (0, .float p1)]) hx hb dX7_bitsOf_25 rfl hl (by decide) rfl (fun ls hl => ?_)
      have L1 : ∀ (w1 : Nat) (x1_1 : UInt32) (x2_1 : Int32) (x3_1 : Int32), f_X7_bitsOf fu V p1 = f_X7_bitsOf_l1 fu V p1 w1 x1_1 x2_1 x3_1 → p_X7_bitsOf_l1 fu V p1 w1 x1_1 x2_1 x3_1 → ∀ (H : Heap) (locs : List Loc), wP D cI cB ad V H → va_S (fun _ => False) s.heap H locs → ∀ (ls : Array Slot), lv_has ls 4 [(0, .float p1), (1, .float x1_1), (2, .int x2_1), (3, .int x3_1)] → W p l e (headSpec wsX7_bitsOf ({ frames := 0, cells := 0, slots := 0, locals := 0 })).room s m ([.float p1] : List Value).toArray below meth c H locs 0 0 (MQ below (cR (f_X7_bitsOf fu V p1)) ([.float p1] : List Value).toArray s 0 0 (fun _ => False)) (F0 m 26 ls []) := by
        intro w1
        induction w1 with
        | zero => intro x1_1 x2_1 x3_1 hE hp; exact hp.elim
        | succ w1 ih1 =>
          intro x1_1 x2_1 x3_1 hE hp H locs hP hS ls hl
          rw [f_X7_bitsOf_l1] at hE
          rw [p_X7_bitsOf_l1] at hp
          refine lv_iload_n hx hb dX7_bitsOf_26 rfl (lv_at hl 3 rfl) ?_
          refine lv_bipush (v := 16) hx hb dX7_bitsOf_27 (by decide) ?_
          refine lv_icmp_ge (tgt := 51) hx hb dX7_bitsOf_29 (by decide) (fun c13 => ?_) (fun c13 => ?_)
          · have hE := hE.trans (if_pos c13)
            have hp := pc_br hp c13
            refine lv_iconst (v := 0) hx hb dX7_bitsOf_51 (by decide) ?_
            refine lv_istore_n (lv' := [(3, .int 0), (0, .float p1), (1, .float x1_1), (2, .int x2_1)]) hx hb dX7_bitsOf_52 rfl hl (by decide) rfl (fun ls hl => ?_)
            have L2 : ∀ (w2 : Nat) (x1_2 : UInt32) (x2_2 : Int32) (x3_2 : Int32), f_X7_bitsOf fu V p1 = f_X7_bitsOf_l2 fu V p1 w2 x1_2 x2_2 x3_2 → p_X7_bitsOf_l2 fu V p1 w2 x1_2 x2_2 x3_2 → ∀ (H : Heap) (locs : List Loc), wP D cI cB ad V H → va_S (fun _ => False) s.heap H locs → ∀ (ls : Array Slot), lv_has ls 4 [(0, .float p1), (1, .float x1_2), (2, .int x2_2), (3, .int x3_2)] → W p l e (headSpec wsX7_bitsOf ({ frames := 0, cells := 0, slots := 0, locals := 0 })).room s m ([.float p1] : List Value).toArray below meth c H locs 0 0 (MQ below (cR (f_X7_bitsOf fu V p1)) ([.float p1] : List Value).toArray s 0 0 (fun _ => False)) (F0 m 53 ls []) := by
              intro w2
              induction w2 with
              | zero => intro x1_2 x2_2 x3_2 hE hp; exact hp.elim
              | succ w2 ih2 =>
                intro x1_2 x2_2 x3_2 hE hp H locs hP hS ls hl
                rw [f_X7_bitsOf_l2] at hE
                rw [p_X7_bitsOf_l2] at hp
                refine lv_iload_n hx hb dX7_bitsOf_53 rfl (lv_at hl 3 rfl) ?_
                refine lv_bipush (v := 16) hx hb dX7_bitsOf_54 (by decide) ?_
                refine lv_icmp_ge (tgt := 78) hx hb dX7_bitsOf_56 (by decide) (fun c14 => ?_) (fun c14 => ?_)
                · have hE := hE.trans (if_pos c14)
                  have hp := pc_br hp c14
                  refine lv_fload_n hx hb dX7_bitsOf_78 rfl (lv_at hl 1 rfl) ?_
                  refine lv_fconst1 hx hb dX7_bitsOf_79 ?_
                  obtain ⟨hn12, hp⟩ := hp
                  refine lv_fsub hx hb dX7_bitsOf_80 hn12 ?_
                  refine lv_ldcwf (v := 1258291200) hx hb hown (hts (.constantFloat RX7 263 (1258291200)) (List.mem_of_getElem? (i := 1) rfl)) dX7_bitsOf_81 ?_
                  have hn13 := hp
                  refine lv_fmul hx hb dX7_bitsOf_84 hn13 ?_
                  refine lv_f2i hx hb dX7_bitsOf_85 ?_
                  refine lv_istore_n (lv' := [(3, .int (FP.f2i (FP.fmul (FP.fsub x1_2 FP.fconst1) 1258291200))), (0, .float p1), (1, .float x1_2), (2, .int x2_2)]) hx hb dX7_bitsOf_86 rfl hl (by decide) rfl (fun ls hl => ?_)
                  refine lv_fload_n hx hb dX7_bitsOf_87 rfl (lv_at hl 1 rfl) ?_
                  refine lv_fconst0 hx hb dX7_bitsOf_88 ?_
                  refine lv_fcmp hx hb dX7_bitsOf_89 ?_
                  refine lv_if_ge (tgt := 99) hx hb dX7_bitsOf_90 (by decide) (fun c15 => ?_) (fun c15 => ?_)
                  · have hE := hE.trans (if_pos c15)
                    refine lv_iconst (v := 0) hx hb dX7_bitsOf_99 (by decide) ?_
                    refine lv_iload_n hx hb dX7_bitsOf_100 rfl (lv_at hl 3 rfl) ?_
                    refine lv_bipush (v := 23) hx hb dX7_bitsOf_101 (by decide) ?_
                    refine lv_ishl hx hb dX7_bitsOf_103 ?_
                    refine lv_ior hx hb dX7_bitsOf_104 ?_
                    refine lv_iload_n hx hb dX7_bitsOf_105 rfl (lv_at hl 0 rfl) ?_
                    refine lv_ior hx hb dX7_bitsOf_106 ?_
                    exact W.iret (v := (((0 : Int32) ||| (x2_2 <<< (23 &&& 31))) ||| (FP.f2i (FP.fmul (FP.fsub x1_2 FP.fconst1) 1258291200)))) hx hb hr (fun t ht hW => ⟨⟨(((0 : Int32) ||| (x2_2 <<< (23 &&& 31))) ||| (FP.f2i (FP.fmul (FP.fsub x1_2 FP.fconst1) 1258291200))), (), rfl, hE.symm, trivial⟩, hS.F ht⟩) hS.2.2 dX7_bitsOf_107
                  · have hE := hE.trans (if_neg c15)
                    refine lv_ldcw (v := (-2147483648)) hx hb hown (hts (.constant RX7 264 (-2147483648)) (List.mem_of_getElem? (i := 2) rfl)) dX7_bitsOf_93 ?_
                    refine lv_goto (tgt := 100) hx hb dX7_bitsOf_96 (by decide) ?_
                    refine lv_iload_n hx hb dX7_bitsOf_100 rfl (lv_at hl 3 rfl) ?_
                    refine lv_bipush (v := 23) hx hb dX7_bitsOf_101 (by decide) ?_
                    refine lv_ishl hx hb dX7_bitsOf_103 ?_
                    refine lv_ior hx hb dX7_bitsOf_104 ?_
                    refine lv_iload_n hx hb dX7_bitsOf_105 rfl (lv_at hl 0 rfl) ?_
                    refine lv_ior hx hb dX7_bitsOf_106 ?_
                    exact W.iret (v := ((((-2147483648) : Int32) ||| (x2_2 <<< (23 &&& 31))) ||| (FP.f2i (FP.fmul (FP.fsub x1_2 FP.fconst1) 1258291200)))) hx hb hr (fun t ht hW => ⟨⟨((((-2147483648) : Int32) ||| (x2_2 <<< (23 &&& 31))) ||| (FP.f2i (FP.fmul (FP.fsub x1_2 FP.fconst1) 1258291200))), (), rfl, hE.symm, trivial⟩, hS.F ht⟩) hS.2.2 dX7_bitsOf_107
                · have hE := hE.trans (if_neg c14)
                  have hp := pc_bn hp c14
                  refine lv_fload_n hx hb dX7_bitsOf_59 rfl (lv_at hl 1 rfl) ?_
                  refine lv_fconst1 hx hb dX7_bitsOf_60 ?_
                  refine lv_fcmp hx hb dX7_bitsOf_61 ?_
                  refine lv_if_ge (tgt := 78) hx hb dX7_bitsOf_62 (by decide) (fun c16 => ?_) (fun c16 => ?_)
                  · have hE := hE.trans (if_pos c16)
                    have hp := pc_br hp c16
                    refine lv_fload_n hx hb dX7_bitsOf_78 rfl (lv_at hl 1 rfl) ?_
                    refine lv_fconst1 hx hb dX7_bitsOf_79 ?_
                    obtain ⟨hn14, hp⟩ := hp
                    refine lv_fsub hx hb dX7_bitsOf_80 hn14 ?_
                    refine lv_ldcwf (v := 1258291200) hx hb hown (hts (.constantFloat RX7 263 (1258291200)) (List.mem_of_getElem? (i := 1) rfl)) dX7_bitsOf_81 ?_
                    have hn15 := hp
                    refine lv_fmul hx hb dX7_bitsOf_84 hn15 ?_
                    refine lv_f2i hx hb dX7_bitsOf_85 ?_
                    refine lv_istore_n (lv' := [(3, .int (FP.f2i (FP.fmul (FP.fsub x1_2 FP.fconst1) 1258291200))), (0, .float p1), (1, .float x1_2), (2, .int x2_2)]) hx hb dX7_bitsOf_86 rfl hl (by decide) rfl (fun ls hl => ?_)
                    refine lv_fload_n hx hb dX7_bitsOf_87 rfl (lv_at hl 1 rfl) ?_
                    refine lv_fconst0 hx hb dX7_bitsOf_88 ?_
                    refine lv_fcmp hx hb dX7_bitsOf_89 ?_
                    refine lv_if_ge (tgt := 99) hx hb dX7_bitsOf_90 (by decide) (fun c17 => ?_) (fun c17 => ?_)
                    · have hE := hE.trans (if_pos c17)
                      refine lv_iconst (v := 0) hx hb dX7_bitsOf_99 (by decide) ?_
                      refine lv_iload_n hx hb dX7_bitsOf_100 rfl (lv_at hl 3 rfl) ?_
                      refine lv_bipush (v := 23) hx hb dX7_bitsOf_101 (by decide) ?_
                      refine lv_ishl hx hb dX7_bitsOf_103 ?_
                      refine lv_ior hx hb dX7_bitsOf_104 ?_
                      refine lv_iload_n hx hb dX7_bitsOf_105 rfl (lv_at hl 0 rfl) ?_
                      refine lv_ior hx hb dX7_bitsOf_106 ?_
                      exact W.iret (v := (((0 : Int32) ||| (x2_2 <<< (23 &&& 31))) ||| (FP.f2i (FP.fmul (FP.fsub x1_2 FP.fconst1) 1258291200)))) hx hb hr (fun t ht hW => ⟨⟨(((0 : Int32) ||| (x2_2 <<< (23 &&& 31))) ||| (FP.f2i (FP.fmul (FP.fsub x1_2 FP.fconst1) 1258291200))), (), rfl, hE.symm, trivial⟩, hS.F ht⟩) hS.2.2 dX7_bitsOf_107
                    · have hE := hE.trans (if_neg c17)
                      refine lv_ldcw (v := (-2147483648)) hx hb hown (hts (.constant RX7 264 (-2147483648)) (List.mem_of_getElem? (i := 2) rfl)) dX7_bitsOf_93 ?_
                      refine lv_goto (tgt := 100) hx hb dX7_bitsOf_96 (by decide) ?_
                      refine lv_iload_n hx hb dX7_bitsOf_100 rfl (lv_at hl 3 rfl) ?_
                      refine lv_bipush (v := 23) hx hb dX7_bitsOf_101 (by decide) ?_
                      refine lv_ishl hx hb dX7_bitsOf_103 ?_
                      refine lv_ior hx hb dX7_bitsOf_104 ?_
                      refine lv_iload_n hx hb dX7_bitsOf_105 rfl (lv_at hl 0 rfl) ?_
                      refine lv_ior hx hb dX7_bitsOf_106 ?_
                      exact W.iret (v := ((((-2147483648) : Int32) ||| (x2_2 <<< (23 &&& 31))) ||| (FP.f2i (FP.fmul (FP.fsub x1_2 FP.fconst1) 1258291200)))) hx hb hr (fun t ht hW => ⟨⟨((((-2147483648) : Int32) ||| (x2_2 <<< (23 &&& 31))) ||| (FP.f2i (FP.fmul (FP.fsub x1_2 FP.fconst1) 1258291200))), (), rfl, hE.symm, trivial⟩, hS.F ht⟩) hS.2.2 dX7_bitsOf_107
                  · have hE := hE.trans (if_neg c16)
                    have hp := pc_bn hp c16
                    refine lv_fload_n hx hb dX7_bitsOf_65 rfl (lv_at hl 1 rfl) ?_
                    refine lv_fconst2 hx hb dX7_bitsOf_66 ?_
                    obtain ⟨hn16, hp⟩ := hp
                    refine lv_fmul hx hb dX7_bitsOf_67 hn16 ?_
                    refine lv_fstore_n (lv' := [(1, .float (FP.fmul x1_2 FP.fconst2)), (0, .float p1), (2, .int x2_2), (3, .int x3_2)]) hx hb dX7_bitsOf_68 rfl hl (by decide) rfl (fun ls hl => ?_)
                    refine lv_iinc (v := (x2_2 + (-1))) (lv' := [(2, .int (x2_2 + (-1))), (1, .float (FP.fmul x1_2 FP.fconst2)), (0, .float p1), (3, .int x3_2)]) hx hb dX7_bitsOf_69 hl (k := 2) rfl (by rfl) (by decide) rfl (fun ls hl => ?_)
                    refine lv_iinc (v := (x3_2 + 1)) (lv' := [(3, .int (x3_2 + 1)), (2, .int (x2_2 + (-1))), (1, .float (FP.fmul x1_2 FP.fconst2)), (0, .float p1)]) hx hb dX7_bitsOf_72 hl (k := 3) rfl (by rfl) (by decide) rfl (fun ls hl => ?_)
                    refine lv_goto (tgt := 53) hx hb dX7_bitsOf_75 (by decide) ?_
                    exact ih2 (FP.fmul x1_2 FP.fconst2) (x2_2 + (-1)) (x3_2 + 1) hE hp H locs hP hS ls (lv_sub hl [3, 2, 1, 0] rfl)
            exact L2 fu x1_1 x2_1 0 hE hp _ _ hP hS _ (lv_sub hl [1, 2, 3, 0] rfl)
          · have hE := hE.trans (if_neg c13)
            have hp := pc_bn hp c13
            refine lv_fload_n hx hb dX7_bitsOf_32 rfl (lv_at hl 1 rfl) ?_
            refine lv_fconst2 hx hb dX7_bitsOf_33 ?_
            refine lv_fcmp hx hb dX7_bitsOf_34 ?_
            refine lv_if_lt (tgt := 51) hx hb dX7_bitsOf_35 (by decide) (fun c18 => ?_) (fun c18 => ?_)
            · have hE := hE.trans (if_pos c18)
              have hp := pc_br hp c18
              refine lv_iconst (v := 0) hx hb dX7_bitsOf_51 (by decide) ?_
              refine lv_istore_n (lv' := [(3, .int 0), (0, .float p1), (1, .float x1_1), (2, .int x2_1)]) hx hb dX7_bitsOf_52 rfl hl (by decide) rfl (fun ls hl => ?_)
              have L2 : ∀ (w2 : Nat) (x1_2 : UInt32) (x2_2 : Int32) (x3_2 : Int32), f_X7_bitsOf fu V p1 = f_X7_bitsOf_l2 fu V p1 w2 x1_2 x2_2 x3_2 → p_X7_bitsOf_l2 fu V p1 w2 x1_2 x2_2 x3_2 → ∀ (H : Heap) (locs : List Loc), wP D cI cB ad V H → va_S (fun _ => False) s.heap H locs → ∀ (ls : Array Slot), lv_has ls 4 [(0, .float p1), (1, .float x1_2), (2, .int x2_2), (3, .int x3_2)] → W p l e (headSpec wsX7_bitsOf ({ frames := 0, cells := 0, slots := 0, locals := 0 })).room s m ([.float p1] : List Value).toArray below meth c H locs 0 0 (MQ below (cR (f_X7_bitsOf fu V p1)) ([.float p1] : List Value).toArray s 0 0 (fun _ => False)) (F0 m 53 ls []) := by
                intro w2
                induction w2 with
                | zero => intro x1_2 x2_2 x3_2 hE hp; exact hp.elim
                | succ w2 ih2 =>
                  intro x1_2 x2_2 x3_2 hE hp H locs hP hS ls hl
                  rw [f_X7_bitsOf_l2] at hE
                  rw [p_X7_bitsOf_l2] at hp
                  refine lv_iload_n hx hb dX7_bitsOf_53 rfl (lv_at hl 3 rfl) ?_
                  refine lv_bipush (v := 16) hx hb dX7_bitsOf_54 (by decide) ?_
                  refine lv_icmp_ge (tgt := 78) hx hb dX7_bitsOf_56 (by decide) (fun c19 => ?_) (fun c19 => ?_)
                  · have hE := hE.trans (if_pos c19)
                    have hp := pc_br hp c19
                    refine lv_fload_n hx hb dX7_bitsOf_78 rfl (lv_at hl 1 rfl) ?_
                    refine lv_fconst1 hx hb dX7_bitsOf_79 ?_
                    obtain ⟨hn17, hp⟩ := hp
                    refine lv_fsub hx hb dX7_bitsOf_80 hn17 ?_
                    refine lv_ldcwf (v := 1258291200) hx hb hown (hts (.constantFloat RX7 263 (1258291200)) (List.mem_of_getElem? (i := 1) rfl)) dX7_bitsOf_81 ?_
                    have hn18 := hp
                    refine lv_fmul hx hb dX7_bitsOf_84 hn18 ?_
                    refine lv_f2i hx hb dX7_bitsOf_85 ?_
                    refine lv_istore_n (lv' := [(3, .int (FP.f2i (FP.fmul (FP.fsub x1_2 FP.fconst1) 1258291200))), (0, .float p1), (1, .float x1_2), (2, .int x2_2)]) hx hb dX7_bitsOf_86 rfl hl (by decide) rfl (fun ls hl => ?_)
                    refine lv_fload_n hx hb dX7_bitsOf_87 rfl (lv_at hl 1 rfl) ?_
                    refine lv_fconst0 hx hb dX7_bitsOf_88 ?_
                    refine lv_fcmp hx hb dX7_bitsOf_89 ?_
                    refine lv_if_ge (tgt := 99) hx hb dX7_bitsOf_90 (by decide) (fun c20 => ?_) (fun c20 => ?_)
                    · have hE := hE.trans (if_pos c20)
                      refine lv_iconst (v := 0) hx hb dX7_bitsOf_99 (by decide) ?_
                      refine lv_iload_n hx hb dX7_bitsOf_100 rfl (lv_at hl 3 rfl) ?_
                      refine lv_bipush (v := 23) hx hb dX7_bitsOf_101 (by decide) ?_
                      refine lv_ishl hx hb dX7_bitsOf_103 ?_
                      refine lv_ior hx hb dX7_bitsOf_104 ?_
                      refine lv_iload_n hx hb dX7_bitsOf_105 rfl (lv_at hl 0 rfl) ?_
                      refine lv_ior hx hb dX7_bitsOf_106 ?_
                      exact W.iret (v := (((0 : Int32) ||| (x2_2 <<< (23 &&& 31))) ||| (FP.f2i (FP.fmul (FP.fsub x1_2 FP.fconst1) 1258291200)))) hx hb hr (fun t ht hW => ⟨⟨(((0 : Int32) ||| (x2_2 <<< (23 &&& 31))) ||| (FP.f2i (FP.fmul (FP.fsub x1_2 FP.fconst1) 1258291200))), (), rfl, hE.symm, trivial⟩, hS.F ht⟩) hS.2.2 dX7_bitsOf_107
                    · have hE := hE.trans (if_neg c20)
                      refine lv_ldcw (v := (-2147483648)) hx hb hown (hts (.constant RX7 264 (-2147483648)) (List.mem_of_getElem? (i := 2) rfl)) dX7_bitsOf_93 ?_
                      refine lv_goto (tgt := 100) hx hb dX7_bitsOf_96 (by decide) ?_
                      refine lv_iload_n hx hb dX7_bitsOf_100 rfl (lv_at hl 3 rfl) ?_
                      refine lv_bipush (v := 23) hx hb dX7_bitsOf_101 (by decide) ?_
                      refine lv_ishl hx hb dX7_bitsOf_103 ?_
                      refine lv_ior hx hb dX7_bitsOf_104 ?_
                      refine lv_iload_n hx hb dX7_bitsOf_105 rfl (lv_at hl 0 rfl) ?_
                      refine lv_ior hx hb dX7_bitsOf_106 ?_
                      exact W.iret (v := ((((-2147483648) : Int32) ||| (x2_2 <<< (23 &&& 31))) ||| (FP.f2i (FP.fmul (FP.fsub x1_2 FP.fconst1) 1258291200)))) hx hb hr (fun t ht hW => ⟨⟨((((-2147483648) : Int32) ||| (x2_2 <<< (23 &&& 31))) ||| (FP.f2i (FP.fmul (FP.fsub x1_2 FP.fconst1) 1258291200))), (), rfl, hE.symm, trivial⟩, hS.F ht⟩) hS.2.2 dX7_bitsOf_107
                  · have hE := hE.trans (if_neg c19)
                    have hp := pc_bn hp c19
                    refine lv_fload_n hx hb dX7_bitsOf_59 rfl (lv_at hl 1 rfl) ?_
                    refine lv_fconst1 hx hb dX7_bitsOf_60 ?_
                    refine lv_fcmp hx hb dX7_bitsOf_61 ?_
                    refine lv_if_ge (tgt := 78) hx hb dX7_bitsOf_62 (by decide) (fun c21 => ?_) (fun c21 => ?_)
                    · have hE := hE.trans (if_pos c21)
                      have hp := pc_br hp c21
                      refine lv_fload_n hx hb dX7_bitsOf_78 rfl (lv_at hl 1 rfl) ?_
                      refine lv_fconst1 hx hb dX7_bitsOf_79 ?_
                      obtain ⟨hn19, hp⟩ := hp
                      refine lv_fsub hx hb dX7_bitsOf_80 hn19 ?_
                      refine lv_ldcwf (v := 1258291200) hx hb hown (hts (.constantFloat RX7 263 (1258291200)) (List.mem_of_getElem? (i := 1) rfl)) dX7_bitsOf_81 ?_
                      have hn20 := hp
                      refine lv_fmul hx hb dX7_bitsOf_84 hn20 ?_
                      refine lv_f2i hx hb dX7_bitsOf_85 ?_
                      refine lv_istore_n (lv' := [(3, .int (FP.f2i (FP.fmul (FP.fsub x1_2 FP.fconst1) 1258291200))), (0, .float p1), (1, .float x1_2), (2, .int x2_2)]) hx hb dX7_bitsOf_86 rfl hl (by decide) rfl (fun ls hl => ?_)
                      refine lv_fload_n hx hb dX7_bitsOf_87 rfl (lv_at hl 1 rfl) ?_
                      refine lv_fconst0 hx hb dX7_bitsOf_88 ?_
                      refine lv_fcmp hx hb dX7_bitsOf_89 ?_
                      refine lv_if_ge (tgt := 99) hx hb dX7_bitsOf_90 (by decide) (fun c22 => ?_) (fun c22 => ?_)
                      · have hE := hE.trans (if_pos c22)
                        refine lv_iconst (v := 0) hx hb dX7_bitsOf_99 (by decide) ?_
                        refine lv_iload_n hx hb dX7_bitsOf_100 rfl (lv_at hl 3 rfl) ?_
                        refine lv_bipush (v := 23) hx hb dX7_bitsOf_101 (by decide) ?_
                        refine lv_ishl hx hb dX7_bitsOf_103 ?_
                        refine lv_ior hx hb dX7_bitsOf_104 ?_
                        refine lv_iload_n hx hb dX7_bitsOf_105 rfl (lv_at hl 0 rfl) ?_
                        refine lv_ior hx hb dX7_bitsOf_106 ?_
                        exact W.iret (v := (((0 : Int32) ||| (x2_2 <<< (23 &&& 31))) ||| (FP.f2i (FP.fmul (FP.fsub x1_2 FP.fconst1) 1258291200)))) hx hb hr (fun t ht hW => ⟨⟨(((0 : Int32) ||| (x2_2 <<< (23 &&& 31))) ||| (FP.f2i (FP.fmul (FP.fsub x1_2 FP.fconst1) 1258291200))), (), rfl, hE.symm, trivial⟩, hS.F ht⟩) hS.2.2 dX7_bitsOf_107
                      · have hE := hE.trans (if_neg c22)
                        refine lv_ldcw (v := (-2147483648)) hx hb hown (hts (.constant RX7 264 (-2147483648)) (List.mem_of_getElem? (i := 2) rfl)) dX7_bitsOf_93 ?_
                        refine lv_goto (tgt := 100) hx hb dX7_bitsOf_96 (by decide) ?_
                        refine lv_iload_n hx hb dX7_bitsOf_100 rfl (lv_at hl 3 rfl) ?_
                        refine lv_bipush (v := 23) hx hb dX7_bitsOf_101 (by decide) ?_
                        refine lv_ishl hx hb dX7_bitsOf_103 ?_
                        refine lv_ior hx hb dX7_bitsOf_104 ?_
                        refine lv_iload_n hx hb dX7_bitsOf_105 rfl (lv_at hl 0 rfl) ?_
                        refine lv_ior hx hb dX7_bitsOf_106 ?_
                        exact W.iret (v := ((((-2147483648) : Int32) ||| (x2_2 <<< (23 &&& 31))) ||| (FP.f2i (FP.fmul (FP.fsub x1_2 FP.fconst1) 1258291200)))) hx hb hr (fun t ht hW => ⟨⟨((((-2147483648) : Int32) ||| (x2_2 <<< (23 &&& 31))) ||| (FP.f2i (FP.fmul (FP.fsub x1_2 FP.fconst1) 1258291200))), (), rfl, hE.symm, trivial⟩, hS.F ht⟩) hS.2.2 dX7_bitsOf_107
                    · have hE := hE.trans (if_neg c21)
                      have hp := pc_bn hp c21
                      refine lv_fload_n hx hb dX7_bitsOf_65 rfl (lv_at hl 1 rfl) ?_
                      refine lv_fconst2 hx hb dX7_bitsOf_66 ?_
                      obtain ⟨hn21, hp⟩ := hp
                      refine lv_fmul hx hb dX7_bitsOf_67 hn21 ?_
                      refine lv_fstore_n (lv' := [(1, .float (FP.fmul x1_2 FP.fconst2)), (0, .float p1), (2, .int x2_2), (3, .int x3_2)]) hx hb dX7_bitsOf_68 rfl hl (by decide) rfl (fun ls hl => ?_)
                      refine lv_iinc (v := (x2_2 + (-1))) (lv' := [(2, .int (x2_2 + (-1))), (1, .float (FP.fmul x1_2 FP.fconst2)), (0, .float p1), (3, .int x3_2)]) hx hb dX7_bitsOf_69 hl (k := 2) rfl (by rfl) (by decide) rfl (fun ls hl => ?_)
                      refine lv_iinc (v := (x3_2 + 1)) (lv' := [(3, .int (x3_2 + 1)), (2, .int (x2_2 + (-1))), (1, .float (FP.fmul x1_2 FP.fconst2)), (0, .float p1)]) hx hb dX7_bitsOf_72 hl (k := 3) rfl (by rfl) (by decide) rfl (fun ls hl => ?_)
                      refine lv_goto (tgt := 53) hx hb dX7_bitsOf_75 (by decide) ?_
                      exact ih2 (FP.fmul x1_2 FP.fconst2) (x2_2 + (-1)) (x3_2 + 1) hE hp H locs hP hS ls (lv_sub hl [3, 2, 1, 0] rfl)
              exact L2 fu x1_1 x2_1 0 hE hp _ _ hP hS _ (lv_sub hl [1, 2, 3, 0] rfl)
            · have hE := hE.trans (if_neg c18)
              have hp := pc_bn hp c18
              refine lv_fload_n hx hb dX7_bitsOf_38 rfl (lv_at hl 1 rfl) ?_
              refine lv_fconst2 hx hb dX7_bitsOf_39 ?_
              obtain ⟨hn22, hp⟩ := hp
              refine lv_fdiv hx hb dX7_bitsOf_40 hn22 ?_
              refine lv_fstore_n (lv' := [(1, .float (FP.fdiv x1_1 FP.fconst2)), (0, .float p1), (2, .int x2_1), (3, .int x3_1)]) hx hb dX7_bitsOf_41 rfl hl (by decide) rfl (fun ls hl => ?_)
              refine lv_iinc (v := (x2_1 + 1)) (lv' := [(2, .int (x2_1 + 1)), (1, .float (FP.fdiv x1_1 FP.fconst2)), (0, .float p1), (3, .int x3_1)]) hx hb dX7_bitsOf_42 hl (k := 2) rfl (by rfl) (by decide) rfl (fun ls hl => ?_)
              refine lv_iinc (v := (x3_1 + 1)) (lv' := [(3, .int (x3_1 + 1)), (2, .int (x2_1 + 1)), (1, .float (FP.fdiv x1_1 FP.fconst2)), (0, .float p1)]) hx hb dX7_bitsOf_45 hl (k := 3) rfl (by rfl) (by decide) rfl (fun ls hl => ?_)
              refine lv_goto (tgt := 26) hx hb dX7_bitsOf_48 (by decide) ?_
              exact ih1 (FP.fdiv x1_1 FP.fconst2) (x2_1 + 1) (x3_1 + 1) hE hp H locs hP hS ls (lv_sub hl [3, 2, 1, 0] rfl)
      exact L1 fu (FP.fneg p1) 127 0 hE hp _ _ hP hS _ (lv_sub hl [3, 2, 1, 0] rfl)
  · have hE := hE.trans (if_pos c1)
    refine lv_iconst (v := 0) hx hb dX7_bitsOf_6 (by decide) ?_
    exact W.iret (v := 0) hx hb hr (fun t ht hW => ⟨⟨0, (), rfl, hE.symm, trivial⟩, hS.F ht⟩) hS.2.2 dX7_bitsOf_7
def f_X7_marginOrNot (fu : Nat) (V : VT) (p1 : Int32) (p2 : Int32) : Int32 := (if (f_X3_has V 0 (f_X0_wantedAt V 0 p1 p2)) = 0 then (-1004) else (f_X0_marginAt fu V 0 p1 p2))
def p_X7_marginOrNot (fu : Nat) (V : VT) (p1 : Int32) (p2 : Int32) : Prop := (((f_X3_has V 0 (f_X0_wantedAt V 0 p1 p2)) = 0 → True) ∧ (¬ ((f_X3_has V 0 (f_X0_wantedAt V 0 p1 p2)) = 0) → (p_X0_marginAt fu V 0 p1 p2)))
set_option maxHeartbeats 4000000 in
set_option maxRecDepth 100000 in
theorem m_X7_marginOrNot (l : Launch) (D : va_G) (cI cB : ClassId) (ad : Nat → Nat) (fu : Nat) (V : VT) (p1 : Int32) (p2 : Int32)  (hp : p_X7_marginOrNot fu V p1 p2) : Met l yX7_marginOrNot wsX7_marginOrNot ({ frames := 4, cells := 0, slots := 0, locals := 87 }) (cP D cI cB ad V [.ref (ad 0), .int p1, .int p2]) (cR (f_X7_marginOrNot fu V p1 p2)) 0 0 (fun _ => False) := by
  refine Met.ofW (cc := cX7_marginOrNot) (maxL := 3) (ret := (some .int)) (by decide +kernel) rfl ?_
  intro p e s m args below meth c s₁ B hml hv
  obtain ⟨rfl, hP, hKN⟩ := hv
  have hK := hKN.1
  have hx := B.exec
  have hb := B.bytes
  have hr := B.returns
  have hts := atoms_spec (ws := wsX7_marginOrNot) B.pre
  have hown : s.vm.findClass RX7 = some m.cls := findClass_of_methodNamed B.named
  have hlocks := B.notSynchronized
  have hS : va_S (fun _ => False) s.heap s.heap [] := va_S.rf
  have hl := lv_entry ([.ref (ad 0), .int p1, .int p2]) (n := 3) (Nat.le_of_ble_eq_true rfl)
  rw [lg_entry_eq]
  generalize (lg_sl ([.ref (ad 0), .int p1, .int p2]) ++ List.replicate (3 - (lg_sl ([.ref (ad 0), .int p1, .int p2])).length) Slot.unset).toArray = ls at hl ⊢
  have hl : lv_has ls 3 [(0, .ref (ad 0)), (1, .int p1), (2, .int p2)] := hl
  have hE : f_X7_marginOrNot fu V p1 p2 = (if (f_X3_has V 0 (f_X0_wantedAt V 0 p1 p2)) = 0 then (-1004) else (f_X0_marginAt fu V 0 p1 p2)) := rfl
  refine lv_aload_n hx hb dX7_marginOrNot_0 rfl (lv_at hl 0 rfl) ?_
  refine x_get (ci := 5) (fs := [.ref (ad 6), .ref (ad 13), .ref (ad 4), .ref (ad 2), .ref (ad 1), .int ((V 0) 0)]) (q := 0) (v := .ref (ad 6)) (N := 6) hx hb hts (fun _ h => List.mem_cons_of_mem _ (List.mem_append_left _ (List.mem_append_left _ (List.mem_append_right _ h)))) hown hK hP (by decide) (ce_tb ad cI cB (V 0)) rfl 0 (by decide) (hts (.fieldLink RX7 10 "TurnedBoards" "now" "LTurnedBoards$Board;") (List.mem_of_getElem? (i := 1) rfl)) rfl rfl dX7_marginOrNot_1 ?_
  refine x_getN (ci := 0) (fs := [.ref (ad (6 + 7 * 0 + 1)), .ref (ad (6 + 7 * 0 + 3)), .ref (ad (6 + 7 * 0 + 4)), .ref (ad (6 + 7 * 0 + 5)), .ref (ad (6 + 7 * 0 + 6)), .int ((V (6 + 7 * 0)) 5), .int ((V (6 + 7 * 0)) 6), .int ((V (6 + 7 * 0)) 0), .int ((V (6 + 7 * 0)) 1), .int ((V (6 + 7 * 0)) 2), .int ((V (6 + 7 * 0)) 3), .int ((V (6 + 7 * 0)) 4)]) (q := (6 + 7 * 0)) (v := .ref (ad (6 + 7 * 0 + 1))) (N := 12) hx hb hts (fun _ h => List.mem_cons_of_mem _ (List.mem_append_left _ (List.mem_append_right _ h))) hown hK hP (by decide) (ce_bd ad cI cB (by decide : 0 < 6) (V (6 + 7 * 0))) rfl 0 (by decide) (hKN.2.1 (.fieldLinkNest RX7 51 "TurnedBoards$Board" "letters" "LTurnedBoards$Letters;" "TurnedBoards") (List.mem_of_getElem? (i := 1) rfl)) rfl rfl dX7_marginOrNot_4 ?_
  refine lv_aload_n hx hb dX7_marginOrNot_7 rfl (lv_at hl 0 rfl) ?_
  refine x_get (ci := 5) (fs := [.ref (ad 6), .ref (ad 13), .ref (ad 4), .ref (ad 2), .ref (ad 1), .int ((V 0) 0)]) (q := 0) (v := .ref (ad 6)) (N := 6) hx hb hts (fun _ h => List.mem_cons_of_mem _ (List.mem_append_left _ (List.mem_append_left _ (List.mem_append_right _ h)))) hown hK hP (by decide) (ce_tb ad cI cB (V 0)) rfl 0 (by decide) (hts (.fieldLink RX7 10 "TurnedBoards" "now" "LTurnedBoards$Board;") (List.mem_of_getElem? (i := 1) rfl)) rfl rfl dX7_marginOrNot_8 ?_
  refine lv_iload_n hx hb dX7_marginOrNot_11 rfl (lv_at hl 1 rfl) ?_
  refine lv_iload_n hx hb dX7_marginOrNot_12 rfl (lv_at hl 2 rfl) ?_
  refine k_VR (As := [.int p1, .int p2]) (rest := [.ref (ad (6 + 7 * 0 + 1))]) (q := (6 + 7 * 0)) ⟨hx, hb, hml, hown, hts⟩ hKN hP hS (m_X0_wantedAt l D cI cB ad V 0 p1 p2 (by decide : 0 < 6)) (cwV 2 hts gX7_marginOrNot_X0_wantedAt rfl rfl rfl (by decide +kernel) ⟨(Nat.le_of_ble_eq_true rfl), (Nat.le_of_ble_eq_true rfl)⟩) (c_preV hP hKN (q := (6 + 7 * 0)) (ci := 0) (fs := [.ref (ad (6 + 7 * 0 + 1)), .ref (ad (6 + 7 * 0 + 3)), .ref (ad (6 + 7 * 0 + 4)), .ref (ad (6 + 7 * 0 + 5)), .ref (ad (6 + 7 * 0 + 6)), .int ((V (6 + 7 * 0)) 5), .int ((V (6 + 7 * 0)) 6), .int ((V (6 + 7 * 0)) 0), .int ((V (6 + 7 * 0)) 1), .int ((V (6 + 7 * 0)) 2), .int ((V (6 + 7 * 0)) 3), .int ((V (6 + 7 * 0)) 4)]) (by decide) (ce_bd ad cI cB (by decide : 0 < 6) (V (6 + 7 * 0))) rfl rfl) rfl hl.1 rfl (Nat.le_of_ble_eq_true rfl) dX7_marginOrNot_13 ⟨Nat.zero_le _, Nat.zero_le _⟩ (fun H locs hP hS => ?_)
  refine k_VR (As := [.int (f_X0_wantedAt V 0 p1 p2)]) (rest := []) (q := (6 + 7 * 0 + 1)) ⟨hx, hb, hml, hown, hts⟩ hKN hP hS (m_X3_has l D cI cB ad V 0 (f_X0_wantedAt V 0 p1 p2) (by decide : 0 < 6)) (cwV 1 hts gX7_marginOrNot_X3_has rfl rfl rfl (by decide +kernel) ⟨(Nat.le_of_ble_eq_true rfl), (Nat.le_of_ble_eq_true rfl)⟩) (c_preV hP hKN (q := (6 + 7 * 0 + 1)) (ci := 3) (fs := [.ref (ad (6 + 7 * 0 + 2))]) (by decide) (ce_lt ad cI cB (by decide : 0 < 6) (V (6 + 7 * 0 + 1))) rfl rfl) rfl hl.1 rfl (Nat.le_of_ble_eq_true rfl) dX7_marginOrNot_16 ⟨Nat.zero_le _, Nat.zero_le _⟩ (fun H locs hP hS => ?_)
  refine lv_if_eq (tgt := 34) hx hb dX7_marginOrNot_19 (by decide) (fun c1 => ?_) (fun c1 => ?_)
  · have hE := hE.trans (if_pos c1)
    refine lv_sipush (v := (-1004)) hx hb dX7_marginOrNot_34 (by decide) ?_
    exact W.iret (v := (-1004)) hx hb hr (fun t ht hW => ⟨⟨(-1004), (), rfl, hE.symm, trivial⟩, hS.F ht⟩) hS.2.2 dX7_marginOrNot_37
  · have hE := hE.trans (if_neg c1)
    have hp := pc_bn hp c1
    refine lv_aload_n hx hb dX7_marginOrNot_22 rfl (lv_at hl 0 rfl) ?_
    refine x_get (ci := 5) (fs := [.ref (ad 6), .ref (ad 13), .ref (ad 4), .ref (ad 2), .ref (ad 1), .int ((V 0) 0)]) (q := 0) (v := .ref (ad 6)) (N := 6) hx hb hts (fun _ h => List.mem_cons_of_mem _ (List.mem_append_left _ (List.mem_append_left _ (List.mem_append_right _ h)))) hown hK hP (by decide) (ce_tb ad cI cB (V 0)) rfl 0 (by decide) (hts (.fieldLink RX7 10 "TurnedBoards" "now" "LTurnedBoards$Board;") (List.mem_of_getElem? (i := 1) rfl)) rfl rfl dX7_marginOrNot_23 ?_
    refine lv_iload_n hx hb dX7_marginOrNot_26 rfl (lv_at hl 1 rfl) ?_
    refine lv_iload_n hx hb dX7_marginOrNot_27 rfl (lv_at hl 2 rfl) ?_
    have hn1 := hp
    refine k_VR (As := [.int p1, .int p2]) (rest := []) (q := (6 + 7 * 0)) ⟨hx, hb, hml, hown, hts⟩ hKN hP hS (m_X0_marginAt l D cI cB ad fu V 0 p1 p2 (by decide : 0 < 6) hn1) (cwV 2 hts gX7_marginOrNot_X0_marginAt rfl rfl rfl (by decide +kernel) ⟨(Nat.le_of_ble_eq_true rfl), (Nat.le_of_ble_eq_true rfl)⟩) (c_preV hP hKN (q := (6 + 7 * 0)) (ci := 0) (fs := [.ref (ad (6 + 7 * 0 + 1)), .ref (ad (6 + 7 * 0 + 3)), .ref (ad (6 + 7 * 0 + 4)), .ref (ad (6 + 7 * 0 + 5)), .ref (ad (6 + 7 * 0 + 6)), .int ((V (6 + 7 * 0)) 5), .int ((V (6 + 7 * 0)) 6), .int ((V (6 + 7 * 0)) 0), .int ((V (6 + 7 * 0)) 1), .int ((V (6 + 7 * 0)) 2), .int ((V (6 + 7 * 0)) 3), .int ((V (6 + 7 * 0)) 4)]) (by decide) (ce_bd ad cI cB (by decide : 0 < 6) (V (6 + 7 * 0))) rfl rfl) rfl hl.1 rfl (Nat.le_of_ble_eq_true rfl) dX7_marginOrNot_28 ⟨Nat.zero_le _, Nat.zero_le _⟩ (fun H locs hP hS => ?_)
    refine lv_goto (tgt := 37) hx hb dX7_marginOrNot_31 (by decide) ?_
    exact W.iret (v := (f_X0_marginAt fu V 0 p1 p2)) hx hb hr (fun t ht hW => ⟨⟨(f_X0_marginAt fu V 0 p1 p2), (), rfl, hE.symm, trivial⟩, hS.F ht⟩) hS.2.2 dX7_marginOrNot_37
def f_X7_marginOrZero (fu : Nat) (V : VT) (p1 : Int32) (p2 : Int32) : Int32 := (if (f_X3_has V 0 (f_X0_wantedAt V 0 p1 p2)) = 0 then 0 else (f_X0_marginAt fu V 0 p1 p2))
def p_X7_marginOrZero (fu : Nat) (V : VT) (p1 : Int32) (p2 : Int32) : Prop := (((f_X3_has V 0 (f_X0_wantedAt V 0 p1 p2)) = 0 → True) ∧ (¬ ((f_X3_has V 0 (f_X0_wantedAt V 0 p1 p2)) = 0) → (p_X0_marginAt fu V 0 p1 p2)))
set_option maxHeartbeats 4000000 in
set_option maxRecDepth 100000 in
theorem m_X7_marginOrZero (l : Launch) (D : va_G) (cI cB : ClassId) (ad : Nat → Nat) (fu : Nat) (V : VT) (p1 : Int32) (p2 : Int32)  (hp : p_X7_marginOrZero fu V p1 p2) : Met l yX7_marginOrZero wsX7_marginOrZero ({ frames := 4, cells := 0, slots := 0, locals := 87 }) (cP D cI cB ad V [.ref (ad 0), .int p1, .int p2]) (cR (f_X7_marginOrZero fu V p1 p2)) 0 0 (fun _ => False) := by
  refine Met.ofW (cc := cX7_marginOrZero) (maxL := 3) (ret := (some .int)) (by decide +kernel) rfl ?_
  intro p e s m args below meth c s₁ B hml hv
  obtain ⟨rfl, hP, hKN⟩ := hv
  have hK := hKN.1
  have hx := B.exec
  have hb := B.bytes
  have hr := B.returns
  have hts := atoms_spec (ws := wsX7_marginOrZero) B.pre
  have hown : s.vm.findClass RX7 = some m.cls := findClass_of_methodNamed B.named
  have hlocks := B.notSynchronized
  have hS : va_S (fun _ => False) s.heap s.heap [] := va_S.rf
  have hl := lv_entry ([.ref (ad 0), .int p1, .int p2]) (n := 3) (Nat.le_of_ble_eq_true rfl)
  rw [lg_entry_eq]
  generalize (lg_sl ([.ref (ad 0), .int p1, .int p2]) ++ List.replicate (3 - (lg_sl ([.ref (ad 0), .int p1, .int p2])).length) Slot.unset).toArray = ls at hl ⊢
  have hl : lv_has ls 3 [(0, .ref (ad 0)), (1, .int p1), (2, .int p2)] := hl
  have hE : f_X7_marginOrZero fu V p1 p2 = (if (f_X3_has V 0 (f_X0_wantedAt V 0 p1 p2)) = 0 then 0 else (f_X0_marginAt fu V 0 p1 p2)) := rfl
  refine lv_aload_n hx hb dX7_marginOrZero_0 rfl (lv_at hl 0 rfl) ?_
  refine x_get (ci := 5) (fs := [.ref (ad 6), .ref (ad 13), .ref (ad 4), .ref (ad 2), .ref (ad 1), .int ((V 0) 0)]) (q := 0) (v := .ref (ad 6)) (N := 6) hx hb hts (fun _ h => List.mem_cons_of_mem _ (List.mem_append_left _ (List.mem_append_left _ (List.mem_append_right _ h)))) hown hK hP (by decide) (ce_tb ad cI cB (V 0)) rfl 0 (by decide) (hts (.fieldLink RX7 10 "TurnedBoards" "now" "LTurnedBoards$Board;") (List.mem_of_getElem? (i := 1) rfl)) rfl rfl dX7_marginOrZero_1 ?_
  refine x_getN (ci := 0) (fs := [.ref (ad (6 + 7 * 0 + 1)), .ref (ad (6 + 7 * 0 + 3)), .ref (ad (6 + 7 * 0 + 4)), .ref (ad (6 + 7 * 0 + 5)), .ref (ad (6 + 7 * 0 + 6)), .int ((V (6 + 7 * 0)) 5), .int ((V (6 + 7 * 0)) 6), .int ((V (6 + 7 * 0)) 0), .int ((V (6 + 7 * 0)) 1), .int ((V (6 + 7 * 0)) 2), .int ((V (6 + 7 * 0)) 3), .int ((V (6 + 7 * 0)) 4)]) (q := (6 + 7 * 0)) (v := .ref (ad (6 + 7 * 0 + 1))) (N := 12) hx hb hts (fun _ h => List.mem_cons_of_mem _ (List.mem_append_left _ (List.mem_append_right _ h))) hown hK hP (by decide) (ce_bd ad cI cB (by decide : 0 < 6) (V (6 + 7 * 0))) rfl 0 (by decide) (hKN.2.1 (.fieldLinkNest RX7 51 "TurnedBoards$Board" "letters" "LTurnedBoards$Letters;" "TurnedBoards") (List.mem_of_getElem? (i := 1) rfl)) rfl rfl dX7_marginOrZero_4 ?_
  refine lv_aload_n hx hb dX7_marginOrZero_7 rfl (lv_at hl 0 rfl) ?_
  refine x_get (ci := 5) (fs := [.ref (ad 6), .ref (ad 13), .ref (ad 4), .ref (ad 2), .ref (ad 1), .int ((V 0) 0)]) (q := 0) (v := .ref (ad 6)) (N := 6) hx hb hts (fun _ h => List.mem_cons_of_mem _ (List.mem_append_left _ (List.mem_append_left _ (List.mem_append_right _ h)))) hown hK hP (by decide) (ce_tb ad cI cB (V 0)) rfl 0 (by decide) (hts (.fieldLink RX7 10 "TurnedBoards" "now" "LTurnedBoards$Board;") (List.mem_of_getElem? (i := 1) rfl)) rfl rfl dX7_marginOrZero_8 ?_
  refine lv_iload_n hx hb dX7_marginOrZero_11 rfl (lv_at hl 1 rfl) ?_
  refine lv_iload_n hx hb dX7_marginOrZero_12 rfl (lv_at hl 2 rfl) ?_
  refine k_VR (As := [.int p1, .int p2]) (rest := [.ref (ad (6 + 7 * 0 + 1))]) (q := (6 + 7 * 0)) ⟨hx, hb, hml, hown, hts⟩ hKN hP hS (m_X0_wantedAt l D cI cB ad V 0 p1 p2 (by decide : 0 < 6)) (cwV 2 hts gX7_marginOrZero_X0_wantedAt rfl rfl rfl (by decide +kernel) ⟨(Nat.le_of_ble_eq_true rfl), (Nat.le_of_ble_eq_true rfl)⟩) (c_preV hP hKN (q := (6 + 7 * 0)) (ci := 0) (fs := [.ref (ad (6 + 7 * 0 + 1)), .ref (ad (6 + 7 * 0 + 3)), .ref (ad (6 + 7 * 0 + 4)), .ref (ad (6 + 7 * 0 + 5)), .ref (ad (6 + 7 * 0 + 6)), .int ((V (6 + 7 * 0)) 5), .int ((V (6 + 7 * 0)) 6), .int ((V (6 + 7 * 0)) 0), .int ((V (6 + 7 * 0)) 1), .int ((V (6 + 7 * 0)) 2), .int ((V (6 + 7 * 0)) 3), .int ((V (6 + 7 * 0)) 4)]) (by decide) (ce_bd ad cI cB (by decide : 0 < 6) (V (6 + 7 * 0))) rfl rfl) rfl hl.1 rfl (Nat.le_of_ble_eq_true rfl) dX7_marginOrZero_13 ⟨Nat.zero_le _, Nat.zero_le _⟩ (fun H locs hP hS => ?_)
  refine k_VR (As := [.int (f_X0_wantedAt V 0 p1 p2)]) (rest := []) (q := (6 + 7 * 0 + 1)) ⟨hx, hb, hml, hown, hts⟩ hKN hP hS (m_X3_has l D cI cB ad V 0 (f_X0_wantedAt V 0 p1 p2) (by decide : 0 < 6)) (cwV 1 hts gX7_marginOrZero_X3_has rfl rfl rfl (by decide +kernel) ⟨(Nat.le_of_ble_eq_true rfl), (Nat.le_of_ble_eq_true rfl)⟩) (c_preV hP hKN (q := (6 + 7 * 0 + 1)) (ci := 3) (fs := [.ref (ad (6 + 7 * 0 + 2))]) (by decide) (ce_lt ad cI cB (by decide : 0 < 6) (V (6 + 7 * 0 + 1))) rfl rfl) rfl hl.1 rfl (Nat.le_of_ble_eq_true rfl) dX7_marginOrZero_16 ⟨Nat.zero_le _, Nat.zero_le _⟩ (fun H locs hP hS => ?_)
  refine lv_if_eq (tgt := 34) hx hb dX7_marginOrZero_19 (by decide) (fun c1 => ?_) (fun c1 => ?_)
  · have hE := hE.trans (if_pos c1)
    refine lv_iconst (v := 0) hx hb dX7_marginOrZero_34 (by decide) ?_
    exact W.iret (v := 0) hx hb hr (fun t ht hW => ⟨⟨0, (), rfl, hE.symm, trivial⟩, hS.F ht⟩) hS.2.2 dX7_marginOrZero_35
  · have hE := hE.trans (if_neg c1)
    have hp := pc_bn hp c1
    refine lv_aload_n hx hb dX7_marginOrZero_22 rfl (lv_at hl 0 rfl) ?_
    refine x_get (ci := 5) (fs := [.ref (ad 6), .ref (ad 13), .ref (ad 4), .ref (ad 2), .ref (ad 1), .int ((V 0) 0)]) (q := 0) (v := .ref (ad 6)) (N := 6) hx hb hts (fun _ h => List.mem_cons_of_mem _ (List.mem_append_left _ (List.mem_append_left _ (List.mem_append_right _ h)))) hown hK hP (by decide) (ce_tb ad cI cB (V 0)) rfl 0 (by decide) (hts (.fieldLink RX7 10 "TurnedBoards" "now" "LTurnedBoards$Board;") (List.mem_of_getElem? (i := 1) rfl)) rfl rfl dX7_marginOrZero_23 ?_
    refine lv_iload_n hx hb dX7_marginOrZero_26 rfl (lv_at hl 1 rfl) ?_
    refine lv_iload_n hx hb dX7_marginOrZero_27 rfl (lv_at hl 2 rfl) ?_
    have hn1 := hp
    refine k_VR (As := [.int p1, .int p2]) (rest := []) (q := (6 + 7 * 0)) ⟨hx, hb, hml, hown, hts⟩ hKN hP hS (m_X0_marginAt l D cI cB ad fu V 0 p1 p2 (by decide : 0 < 6) hn1) (cwV 2 hts gX7_marginOrZero_X0_marginAt rfl rfl rfl (by decide +kernel) ⟨(Nat.le_of_ble_eq_true rfl), (Nat.le_of_ble_eq_true rfl)⟩) (c_preV hP hKN (q := (6 + 7 * 0)) (ci := 0) (fs := [.ref (ad (6 + 7 * 0 + 1)), .ref (ad (6 + 7 * 0 + 3)), .ref (ad (6 + 7 * 0 + 4)), .ref (ad (6 + 7 * 0 + 5)), .ref (ad (6 + 7 * 0 + 6)), .int ((V (6 + 7 * 0)) 5), .int ((V (6 + 7 * 0)) 6), .int ((V (6 + 7 * 0)) 0), .int ((V (6 + 7 * 0)) 1), .int ((V (6 + 7 * 0)) 2), .int ((V (6 + 7 * 0)) 3), .int ((V (6 + 7 * 0)) 4)]) (by decide) (ce_bd ad cI cB (by decide : 0 < 6) (V (6 + 7 * 0))) rfl rfl) rfl hl.1 rfl (Nat.le_of_ble_eq_true rfl) dX7_marginOrZero_28 ⟨Nat.zero_le _, Nat.zero_le _⟩ (fun H locs hP hS => ?_)
    refine lv_goto (tgt := 35) hx hb dX7_marginOrZero_31 (by decide) ?_
    exact W.iret (v := (f_X0_marginAt fu V 0 p1 p2)) hx hb hr (fun t ht hW => ⟨⟨(f_X0_marginAt fu V 0 p1 p2), (), rfl, hE.symm, trivial⟩, hS.F ht⟩) hS.2.2 dX7_marginOrZero_35
def f_X7_findFor (fu : Nat) (V : VT) (p1 : Int32) : Int32 × VT := ((f_X1_find fu V (f_X0_wantedAt V 0 p1 0) (f_X0_wantedAt V 0 p1 1)).1, (f_X1_find fu V (f_X0_wantedAt V 0 p1 0) (f_X0_wantedAt V 0 p1 1)).2)
def p_X7_findFor (fu : Nat) (V : VT) (p1 : Int32) : Prop := ((p_X1_find fu V (f_X0_wantedAt V 0 p1 0) (f_X0_wantedAt V 0 p1 1)) ∧ (isB ((f_X1_find fu V (f_X0_wantedAt V 0 p1 0) (f_X0_wantedAt V 0 p1 1)).1)))
set_option maxHeartbeats 4000000 in
set_option maxRecDepth 100000 in
theorem m_X7_findFor (l : Launch) (D : va_G) (cI cB : ClassId) (ad : Nat → Nat) {A : Nat → Prop} (hA : adOk ad A) (fu : Nat) (V : VT) (p1 : Int32)  (hp : p_X7_findFor fu V p1) : Met l yX7_findFor wsX7_findFor ({ frames := 45, cells := 0, slots := 0, locals := 1076 }) (cP D cI cB ad V [.ref (ad 0), .int p1]) (cWi D cI cB ad A (f_X7_findFor fu V p1)) 0 0 A := by
  refine Met.ofW (cc := cX7_findFor) (maxL := 2) (ret := (some .boolean)) (by decide +kernel) rfl ?_
  intro p e s m args below meth c s₁ B hml hv
  obtain ⟨rfl, hP, hKN⟩ := hv
  have hK := hKN.1
  have hx := B.exec
  have hb := B.bytes
  have hr := B.returns
  have hts := atoms_spec (ws := wsX7_findFor) B.pre
  have hown : s.vm.findClass RX7 = some m.cls := findClass_of_methodNamed B.named
  have hlocks := B.notSynchronized
  have hS : va_S A s.heap s.heap [] := va_S.rf
  have hl := lv_entry ([.ref (ad 0), .int p1]) (n := 2) (Nat.le_of_ble_eq_true rfl)
  rw [lg_entry_eq]
  generalize (lg_sl ([.ref (ad 0), .int p1]) ++ List.replicate (2 - (lg_sl ([.ref (ad 0), .int p1])).length) Slot.unset).toArray = ls at hl ⊢
  have hl : lv_has ls 2 [(0, .ref (ad 0)), (1, .int p1)] := hl
  have hE : f_X7_findFor fu V p1 = ((f_X1_find fu V (f_X0_wantedAt V 0 p1 0) (f_X0_wantedAt V 0 p1 1)).1, (f_X1_find fu V (f_X0_wantedAt V 0 p1 0) (f_X0_wantedAt V 0 p1 1)).2) := rfl
  refine lv_aload_n hx hb dX7_findFor_0 rfl (lv_at hl 0 rfl) ?_
  refine x_get (ci := 5) (fs := [.ref (ad 6), .ref (ad 13), .ref (ad 4), .ref (ad 2), .ref (ad 1), .int ((V 0) 0)]) (q := 0) (v := .ref (ad 1)) (N := 6) hx hb hts (fun _ h => List.mem_cons_of_mem _ (List.mem_append_left _ (List.mem_append_left _ (List.mem_append_left _ (List.mem_append_right _ h))))) hown hK hP (by decide) (ce_tb ad cI cB (V 0)) rfl 4 (by decide) (hts (.fieldLink RX7 36 "TurnedBoards" "composer" "LTurnedBoards$Composer;") (List.mem_of_getElem? (i := 1) rfl)) rfl rfl dX7_findFor_1 ?_
  refine lv_aload_n hx hb dX7_findFor_4 rfl (lv_at hl 0 rfl) ?_
  refine x_get (ci := 5) (fs := [.ref (ad 6), .ref (ad 13), .ref (ad 4), .ref (ad 2), .ref (ad 1), .int ((V 0) 0)]) (q := 0) (v := .ref (ad 6)) (N := 6) hx hb hts (fun _ h => List.mem_cons_of_mem _ (List.mem_append_left _ (List.mem_append_left _ (List.mem_append_left _ (List.mem_append_right _ h))))) hown hK hP (by decide) (ce_tb ad cI cB (V 0)) rfl 0 (by decide) (hts (.fieldLink RX7 10 "TurnedBoards" "now" "LTurnedBoards$Board;") (List.mem_of_getElem? (i := 2) rfl)) rfl rfl dX7_findFor_5 ?_
  refine x_getN (ci := 0) (fs := [.ref (ad (6 + 7 * 0 + 1)), .ref (ad (6 + 7 * 0 + 3)), .ref (ad (6 + 7 * 0 + 4)), .ref (ad (6 + 7 * 0 + 5)), .ref (ad (6 + 7 * 0 + 6)), .int ((V (6 + 7 * 0)) 5), .int ((V (6 + 7 * 0)) 6), .int ((V (6 + 7 * 0)) 0), .int ((V (6 + 7 * 0)) 1), .int ((V (6 + 7 * 0)) 2), .int ((V (6 + 7 * 0)) 3), .int ((V (6 + 7 * 0)) 4)]) (q := (6 + 7 * 0)) (v := .ref (ad (6 + 7 * 0 + 1))) (N := 12) hx hb hts (fun _ h => List.mem_cons_of_mem _ (List.mem_append_left _ (List.mem_append_left _ (List.mem_append_right _ h)))) hown hK hP (by decide) (ce_bd ad cI cB (by decide : 0 < 6) (V (6 + 7 * 0))) rfl 0 (by decide) (hKN.2.1 (.fieldLinkNest RX7 51 "TurnedBoards$Board" "letters" "LTurnedBoards$Letters;" "TurnedBoards") (List.mem_of_getElem? (i := 1) rfl)) rfl rfl dX7_findFor_8 ?_
  refine lv_aload_n hx hb dX7_findFor_11 rfl (lv_at hl 0 rfl) ?_
  refine x_get (ci := 5) (fs := [.ref (ad 6), .ref (ad 13), .ref (ad 4), .ref (ad 2), .ref (ad 1), .int ((V 0) 0)]) (q := 0) (v := .ref (ad 6)) (N := 6) hx hb hts (fun _ h => List.mem_cons_of_mem _ (List.mem_append_left _ (List.mem_append_left _ (List.mem_append_left _ (List.mem_append_right _ h))))) hown hK hP (by decide) (ce_tb ad cI cB (V 0)) rfl 0 (by decide) (hts (.fieldLink RX7 10 "TurnedBoards" "now" "LTurnedBoards$Board;") (List.mem_of_getElem? (i := 2) rfl)) rfl rfl dX7_findFor_12 ?_
  refine lv_iload_n hx hb dX7_findFor_15 rfl (lv_at hl 1 rfl) ?_
  refine lv_iconst (v := 0) hx hb dX7_findFor_16 (by decide) ?_
  refine k_VR (As := [.int p1, .int 0]) (rest := [.ref (ad (6 + 7 * 0 + 1)), .ref (ad 1)]) (q := (6 + 7 * 0)) ⟨hx, hb, hml, hown, hts⟩ hKN hP hS (m_X0_wantedAt l D cI cB ad V 0 p1 0 (by decide : 0 < 6)) (cwV 2 hts gX7_findFor_X0_wantedAt rfl rfl rfl (by decide +kernel) ⟨(Nat.le_of_ble_eq_true rfl), (Nat.le_of_ble_eq_true rfl)⟩) (c_preV hP hKN (q := (6 + 7 * 0)) (ci := 0) (fs := [.ref (ad (6 + 7 * 0 + 1)), .ref (ad (6 + 7 * 0 + 3)), .ref (ad (6 + 7 * 0 + 4)), .ref (ad (6 + 7 * 0 + 5)), .ref (ad (6 + 7 * 0 + 6)), .int ((V (6 + 7 * 0)) 5), .int ((V (6 + 7 * 0)) 6), .int ((V (6 + 7 * 0)) 0), .int ((V (6 + 7 * 0)) 1), .int ((V (6 + 7 * 0)) 2), .int ((V (6 + 7 * 0)) 3), .int ((V (6 + 7 * 0)) 4)]) (by decide) (ce_bd ad cI cB (by decide : 0 < 6) (V (6 + 7 * 0))) rfl rfl) rfl hl.1 rfl (Nat.le_of_ble_eq_true rfl) dX7_findFor_17 ⟨Nat.zero_le _, Nat.zero_le _⟩ (fun H locs hP hS => ?_)
  refine lv_aload_n hx hb dX7_findFor_20 rfl (lv_at hl 0 rfl) ?_
  refine x_get (ci := 5) (fs := [.ref (ad 6), .ref (ad 13), .ref (ad 4), .ref (ad 2), .ref (ad 1), .int ((V 0) 0)]) (q := 0) (v := .ref (ad 6)) (N := 6) hx hb hts (fun _ h => List.mem_cons_of_mem _ (List.mem_append_left _ (List.mem_append_left _ (List.mem_append_left _ (List.mem_append_right _ h))))) hown hK hP (by decide) (ce_tb ad cI cB (V 0)) rfl 0 (by decide) (hts (.fieldLink RX7 10 "TurnedBoards" "now" "LTurnedBoards$Board;") (List.mem_of_getElem? (i := 2) rfl)) rfl rfl dX7_findFor_21 ?_
  refine lv_iload_n hx hb dX7_findFor_24 rfl (lv_at hl 1 rfl) ?_
  refine lv_iconst (v := 1) hx hb dX7_findFor_25 (by decide) ?_
  refine k_VR (As := [.int p1, .int 1]) (rest := [.int (f_X0_wantedAt V 0 p1 0), .ref (ad (6 + 7 * 0 + 1)), .ref (ad 1)]) (q := (6 + 7 * 0)) ⟨hx, hb, hml, hown, hts⟩ hKN hP hS (m_X0_wantedAt l D cI cB ad V 0 p1 1 (by decide : 0 < 6)) (cwV 2 hts gX7_findFor_X0_wantedAt rfl rfl rfl (by decide +kernel) ⟨(Nat.le_of_ble_eq_true rfl), (Nat.le_of_ble_eq_true rfl)⟩) (c_preV hP hKN (q := (6 + 7 * 0)) (ci := 0) (fs := [.ref (ad (6 + 7 * 0 + 1)), .ref (ad (6 + 7 * 0 + 3)), .ref (ad (6 + 7 * 0 + 4)), .ref (ad (6 + 7 * 0 + 5)), .ref (ad (6 + 7 * 0 + 6)), .int ((V (6 + 7 * 0)) 5), .int ((V (6 + 7 * 0)) 6), .int ((V (6 + 7 * 0)) 0), .int ((V (6 + 7 * 0)) 1), .int ((V (6 + 7 * 0)) 2), .int ((V (6 + 7 * 0)) 3), .int ((V (6 + 7 * 0)) 4)]) (by decide) (ce_bd ad cI cB (by decide : 0 < 6) (V (6 + 7 * 0))) rfl rfl) rfl hl.1 rfl (Nat.le_of_ble_eq_true rfl) dX7_findFor_26 ⟨Nat.zero_le _, Nat.zero_le _⟩ (fun H locs hP hS => ?_)
  obtain ⟨hn1, hp⟩ := hp
  refine k_VWi (As := [.ref (ad (6 + 7 * 0 + 1)), .int (f_X0_wantedAt V 0 p1 0), .int (f_X0_wantedAt V 0 p1 1)]) (rest := []) (q := 1) ⟨hx, hb, hml, hown, hts⟩ hKN hP hS (m_X1_find l D cI cB ad hA fu V (f_X0_wantedAt V 0 p1 0) (f_X0_wantedAt V 0 p1 1) hn1) (cwV 3 hts gX7_findFor_X1_find rfl rfl rfl (by decide +kernel) ⟨(Nat.le_of_ble_eq_true rfl), (Nat.le_of_ble_eq_true rfl)⟩) (c_preV hP hKN (q := 1) (ci := 1) (fs := [(if (V 1) 0 = 0 then Value.null else Value.ref (ad 7)), .int ((V 1) 1), .int ((V 1) 2), .int ((V 1) 3), .int ((V 1) 4), .int ((V 1) 5), .int ((V 1) 6)]) (by decide) (ce_cm ad cI cB (V 1)) rfl rfl) rfl hl.1 rfl (Nat.le_of_ble_eq_true rfl) dX7_findFor_29 ⟨Nat.zero_le _, Nat.zero_le _⟩ (fun H locs hP hS => ?_)
  have hn2 := hp
  exact W.zret (v := (f_X1_find fu V (f_X0_wantedAt V 0 p1 0) (f_X0_wantedAt V 0 p1 1)).1) hx hb hr hn2.n (fun t ht hW => ⟨⟨(f_X1_find fu V (f_X0_wantedAt V 0 p1 0) (f_X0_wantedAt V 0 p1 1)).1, (f_X1_find fu V (f_X0_wantedAt V 0 p1 0) (f_X0_wantedAt V 0 p1 1)).2, rfl, ⟨(congrArg Prod.fst hE).symm, (congrArg Prod.snd hE).symm⟩, by dsimp only; rw [ht]; exact hP⟩, hS.F ht⟩) hS.2.2 dX7_findFor_32
def f_X7_paint (fu : Nat) (V : VT) (p1 : Int32) : Int32 × VT := (if (f_X0_hasPlace V 0 p1) = 0 then ((-1001), V) else (if (f_X0_coatsAt V 0 p1) < 9 then (((f_X0_coatsAt V 0 p1) + 1), (f_X0_coat (f_X2_push fu V 0) 0 p1 ((f_X0_coatsAt V 0 p1) + 1))) else ((-1003), V)))
def p_X7_paint (fu : Nat) (V : VT) (p1 : Int32) : Prop := (((f_X0_hasPlace V 0 p1) = 0 → True) ∧ (¬ ((f_X0_hasPlace V 0 p1) = 0) → (((f_X0_coatsAt V 0 p1) < 9 → (p_X2_push fu V 0)) ∧ (¬ ((f_X0_coatsAt V 0 p1) < 9) → True))))
set_option maxHeartbeats 4000000 in
set_option maxRecDepth 100000 in
theorem m_X7_paint (l : Launch) (D : va_G) (cI cB : ClassId) (ad : Nat → Nat) {A : Nat → Prop} (hA : adOk ad A) (fu : Nat) (V : VT) (p1 : Int32)  (hp : p_X7_paint fu V p1) : Met l yX7_paint wsX7_paint ({ frames := 4, cells := 0, slots := 0, locals := 86 }) (cP D cI cB ad V [.ref (ad 0), .int p1]) (cWi D cI cB ad A (f_X7_paint fu V p1)) 0 0 A := by
  refine Met.ofW (cc := cX7_paint) (maxL := 3) (ret := (some .int)) (by decide +kernel) rfl ?_
  intro p e s m args below meth c s₁ B hml hv
  obtain ⟨rfl, hP, hKN⟩ := hv
  have hK := hKN.1
  have hx := B.exec
  have hb := B.bytes
  have hr := B.returns
  have hts := atoms_spec (ws := wsX7_paint) B.pre
  have hown : s.vm.findClass RX7 = some m.cls := findClass_of_methodNamed B.named
  have hlocks := B.notSynchronized
  have hS : va_S A s.heap s.heap [] := va_S.rf
  have hl := lv_entry ([.ref (ad 0), .int p1]) (n := 3) (Nat.le_of_ble_eq_true rfl)
  rw [lg_entry_eq]
  generalize (lg_sl ([.ref (ad 0), .int p1]) ++ List.replicate (3 - (lg_sl ([.ref (ad 0), .int p1])).length) Slot.unset).toArray = ls at hl ⊢
  have hl : lv_has ls 3 [(0, .ref (ad 0)), (1, .int p1)] := hl
  have hE : f_X7_paint fu V p1 = (if (f_X0_hasPlace V 0 p1) = 0 then ((-1001), V) else (if (f_X0_coatsAt V 0 p1) < 9 then (((f_X0_coatsAt V 0 p1) + 1), (f_X0_coat (f_X2_push fu V 0) 0 p1 ((f_X0_coatsAt V 0 p1) + 1))) else ((-1003), V))) := rfl
  refine lv_aload_n hx hb dX7_paint_0 rfl (lv_at hl 0 rfl) ?_
  refine x_get (ci := 5) (fs := [.ref (ad 6), .ref (ad 13), .ref (ad 4), .ref (ad 2), .ref (ad 1), .int ((V 0) 0)]) (q := 0) (v := .ref (ad 6)) (N := 6) hx hb hts (fun _ h => List.mem_cons_of_mem _ (List.mem_append_left _ (List.mem_append_left _ (List.mem_append_left _ (List.mem_append_right _ h))))) hown hK hP (by decide) (ce_tb ad cI cB (V 0)) rfl 0 (by decide) (hts (.fieldLink RX7 10 "TurnedBoards" "now" "LTurnedBoards$Board;") (List.mem_of_getElem? (i := 1) rfl)) rfl rfl dX7_paint_1 ?_
  refine lv_iload_n hx hb dX7_paint_4 rfl (lv_at hl 1 rfl) ?_
  refine k_VR (As := [.int p1]) (rest := []) (q := (6 + 7 * 0)) ⟨hx, hb, hml, hown, hts⟩ hKN hP hS (m_X0_hasPlace l D cI cB ad V 0 p1 (by decide : 0 < 6)) (cwV 1 hts gX7_paint_X0_hasPlace rfl rfl rfl (by decide +kernel) ⟨(Nat.le_of_ble_eq_true rfl), (Nat.le_of_ble_eq_true rfl)⟩) (c_preV hP hKN (q := (6 + 7 * 0)) (ci := 0) (fs := [.ref (ad (6 + 7 * 0 + 1)), .ref (ad (6 + 7 * 0 + 3)), .ref (ad (6 + 7 * 0 + 4)), .ref (ad (6 + 7 * 0 + 5)), .ref (ad (6 + 7 * 0 + 6)), .int ((V (6 + 7 * 0)) 5), .int ((V (6 + 7 * 0)) 6), .int ((V (6 + 7 * 0)) 0), .int ((V (6 + 7 * 0)) 1), .int ((V (6 + 7 * 0)) 2), .int ((V (6 + 7 * 0)) 3), .int ((V (6 + 7 * 0)) 4)]) (by decide) (ce_bd ad cI cB (by decide : 0 < 6) (V (6 + 7 * 0))) rfl rfl) rfl hl.1 rfl (Nat.le_of_ble_eq_true rfl) dX7_paint_5 ⟨Nat.zero_le _, Nat.zero_le _⟩ (fun H locs hP hS => ?_)
  refine lv_if_ne (tgt := 15) hx hb dX7_paint_8 (by decide) (fun c1 => ?_) (fun c1 => ?_)
  · have hE := hE.trans (if_neg c1)
    have hp := pc_bn hp c1
    refine lv_aload_n hx hb dX7_paint_15 rfl (lv_at hl 0 rfl) ?_
    refine x_get (ci := 5) (fs := [.ref (ad 6), .ref (ad 13), .ref (ad 4), .ref (ad 2), .ref (ad 1), .int ((V 0) 0)]) (q := 0) (v := .ref (ad 6)) (N := 6) hx hb hts (fun _ h => List.mem_cons_of_mem _ (List.mem_append_left _ (List.mem_append_left _ (List.mem_append_left _ (List.mem_append_right _ h))))) hown hK hP (by decide) (ce_tb ad cI cB (V 0)) rfl 0 (by decide) (hts (.fieldLink RX7 10 "TurnedBoards" "now" "LTurnedBoards$Board;") (List.mem_of_getElem? (i := 1) rfl)) rfl rfl dX7_paint_16 ?_
    refine lv_iload_n hx hb dX7_paint_19 rfl (lv_at hl 1 rfl) ?_
    refine k_VR (As := [.int p1]) (rest := []) (q := (6 + 7 * 0)) ⟨hx, hb, hml, hown, hts⟩ hKN hP hS (m_X0_coatsAt l D cI cB ad V 0 p1 (by decide : 0 < 6)) (cwV 1 hts gX7_paint_X0_coatsAt rfl rfl rfl (by decide +kernel) ⟨(Nat.le_of_ble_eq_true rfl), (Nat.le_of_ble_eq_true rfl)⟩) (c_preV hP hKN (q := (6 + 7 * 0)) (ci := 0) (fs := [.ref (ad (6 + 7 * 0 + 1)), .ref (ad (6 + 7 * 0 + 3)), .ref (ad (6 + 7 * 0 + 4)), .ref (ad (6 + 7 * 0 + 5)), .ref (ad (6 + 7 * 0 + 6)), .int ((V (6 + 7 * 0)) 5), .int ((V (6 + 7 * 0)) 6), .int ((V (6 + 7 * 0)) 0), .int ((V (6 + 7 * 0)) 1), .int ((V (6 + 7 * 0)) 2), .int ((V (6 + 7 * 0)) 3), .int ((V (6 + 7 * 0)) 4)]) (by decide) (ce_bd ad cI cB (by decide : 0 < 6) (V (6 + 7 * 0))) rfl rfl) rfl hl.1 rfl (Nat.le_of_ble_eq_true rfl) dX7_paint_20 ⟨Nat.zero_le _, Nat.zero_le _⟩ (fun H locs hP hS => ?_)
    refine lv_istore_n (lv' := [(2, .int (f_X0_coatsAt V 0 p1)), (0, .ref (ad 0)), (1, .int p1)]) hx hb dX7_paint_23 rfl hl (by decide) rfl (fun ls hl => ?_)
    refine lv_iload_n hx hb dX7_paint_24 rfl (lv_at hl 0 rfl) ?_
    refine lv_bipush (v := 9) hx hb dX7_paint_25 (by decide) ?_
    refine lv_icmp_lt (tgt := 34) hx hb dX7_paint_27 (by decide) (fun c2 => ?_) (fun c2 => ?_)
    · have hE := hE.trans (if_pos c2)
      have hp := pc_br hp c2
      refine lv_aload_n hx hb dX7_paint_34 rfl (lv_at hl 1 rfl) ?_
      refine x_get (ci := 5) (fs := [.ref (ad 6), .ref (ad 13), .ref (ad 4), .ref (ad 2), .ref (ad 1), .int ((V 0) 0)]) (q := 0) (v := .ref (ad 4)) (N := 6) hx hb hts (fun _ h => List.mem_cons_of_mem _ (List.mem_append_left _ (List.mem_append_left _ (List.mem_append_left _ (List.mem_append_right _ h))))) hown hK hP (by decide) (ce_tb ad cI cB (V 0)) rfl 2 (by decide) (hts (.fieldLink RX7 22 "TurnedBoards" "history" "LTurnedBoards$History;") (List.mem_of_getElem? (i := 2) rfl)) rfl rfl dX7_paint_35 ?_
      refine lv_aload_n hx hb dX7_paint_38 rfl (lv_at hl 1 rfl) ?_
      refine x_get (ci := 5) (fs := [.ref (ad 6), .ref (ad 13), .ref (ad 4), .ref (ad 2), .ref (ad 1), .int ((V 0) 0)]) (q := 0) (v := .ref (ad 6)) (N := 6) hx hb hts (fun _ h => List.mem_cons_of_mem _ (List.mem_append_left _ (List.mem_append_left _ (List.mem_append_left _ (List.mem_append_right _ h))))) hown hK hP (by decide) (ce_tb ad cI cB (V 0)) rfl 0 (by decide) (hts (.fieldLink RX7 10 "TurnedBoards" "now" "LTurnedBoards$Board;") (List.mem_of_getElem? (i := 1) rfl)) rfl rfl dX7_paint_39 ?_
      have hn1 := hp
      refine k_VWv (As := [.ref (ad 6)]) (rest := []) (q := 4) ⟨hx, hb, hml, hown, hts⟩ hKN hP hS (m_X2_push l D cI cB ad hA fu V 0 (by decide : 0 < 6) hn1) (cwV 1 hts gX7_paint_X2_push rfl rfl rfl (by decide +kernel) ⟨(Nat.le_of_ble_eq_true rfl), (Nat.le_of_ble_eq_true rfl)⟩) (c_preV hP hKN (q := 4) (ci := 2) (fs := [.ref (ad 5), .int ((V 4) 0)]) (by decide) (ce_hs ad cI cB (V 4)) rfl rfl) rfl hl.1 rfl (Nat.le_of_ble_eq_true rfl) dX7_paint_42 ⟨Nat.zero_le _, Nat.zero_le _⟩ (fun H locs hP hS => ?_)
      refine lv_aload_n hx hb dX7_paint_45 rfl (lv_at hl 1 rfl) ?_
      refine x_get (ci := 5) (fs := [.ref (ad 6), .ref (ad 13), .ref (ad 4), .ref (ad 2), .ref (ad 1), .int (((f_X2_push fu V 0) 0) 0)]) (q := 0) (v := .ref (ad 6)) (N := 6) hx hb hts (fun _ h => List.mem_cons_of_mem _ (List.mem_append_left _ (List.mem_append_left _ (List.mem_append_left _ (List.mem_append_right _ h))))) hown hK hP (by decide) (ce_tb ad cI cB ((f_X2_push fu V 0) 0)) rfl 0 (by decide) (hts (.fieldLink RX7 10 "TurnedBoards" "now" "LTurnedBoards$Board;") (List.mem_of_getElem? (i := 1) rfl)) rfl rfl dX7_paint_46 ?_
      refine lv_iload_n hx hb dX7_paint_49 rfl (lv_at hl 2 rfl) ?_
      refine lv_iload_n hx hb dX7_paint_50 rfl (lv_at hl 0 rfl) ?_
      refine lv_iconst (v := 1) hx hb dX7_paint_51 (by decide) ?_
      refine lv_iadd hx hb dX7_paint_52 ?_
      refine k_VWv (As := [.int p1, .int ((f_X0_coatsAt V 0 p1) + 1)]) (rest := []) (q := (6 + 7 * 0)) ⟨hx, hb, hml, hown, hts⟩ hKN hP hS (m_X0_coat l D cI cB ad hA (f_X2_push fu V 0) 0 p1 ((f_X0_coatsAt V 0 p1) + 1) (by decide : 0 < 6)) (cwV 2 hts gX7_paint_X0_coat rfl rfl rfl (by decide +kernel) ⟨(Nat.le_of_ble_eq_true rfl), (Nat.le_of_ble_eq_true rfl)⟩) (c_preV hP hKN (q := (6 + 7 * 0)) (ci := 0) (fs := [.ref (ad (6 + 7 * 0 + 1)), .ref (ad (6 + 7 * 0 + 3)), .ref (ad (6 + 7 * 0 + 4)), .ref (ad (6 + 7 * 0 + 5)), .ref (ad (6 + 7 * 0 + 6)), .int (((f_X2_push fu V 0) (6 + 7 * 0)) 5), .int (((f_X2_push fu V 0) (6 + 7 * 0)) 6), .int (((f_X2_push fu V 0) (6 + 7 * 0)) 0), .int (((f_X2_push fu V 0) (6 + 7 * 0)) 1), .int (((f_X2_push fu V 0) (6 + 7 * 0)) 2), .int (((f_X2_push fu V 0) (6 + 7 * 0)) 3), .int (((f_X2_push fu V 0) (6 + 7 * 0)) 4)]) (by decide) (ce_bd ad cI cB (by decide : 0 < 6) ((f_X2_push fu V 0) (6 + 7 * 0))) rfl rfl) rfl hl.1 rfl (Nat.le_of_ble_eq_true rfl) dX7_paint_53 ⟨Nat.zero_le _, Nat.zero_le _⟩ (fun H locs hP hS => ?_)
      refine lv_iload_n hx hb dX7_paint_56 rfl (lv_at hl 0 rfl) ?_
      refine lv_iconst (v := 1) hx hb dX7_paint_57 (by decide) ?_
      refine lv_iadd hx hb dX7_paint_58 ?_
      exact W.iret (v := ((f_X0_coatsAt V 0 p1) + 1)) hx hb hr (fun t ht hW => ⟨⟨((f_X0_coatsAt V 0 p1) + 1), (f_X0_coat (f_X2_push fu V 0) 0 p1 ((f_X0_coatsAt V 0 p1) + 1)), rfl, ⟨(congrArg Prod.fst hE).symm, (congrArg Prod.snd hE).symm⟩, by dsimp only; rw [ht]; exact hP⟩, hS.F ht⟩) hS.2.2 dX7_paint_59
    · have hE := hE.trans (if_neg c2)
      refine lv_sipush (v := (-1003)) hx hb dX7_paint_30 (by decide) ?_
      exact W.iret (v := (-1003)) hx hb hr (fun t ht hW => ⟨⟨(-1003), V, rfl, ⟨(congrArg Prod.fst hE).symm, (congrArg Prod.snd hE).symm⟩, by dsimp only; rw [ht]; exact hP⟩, hS.F ht⟩) hS.2.2 dX7_paint_33
  · have hE := hE.trans (if_pos c1)
    refine lv_sipush (v := (-1001)) hx hb dX7_paint_11 (by decide) ?_
    exact W.iret (v := (-1001)) hx hb hr (fun t ht hW => ⟨⟨(-1001), V, rfl, ⟨(congrArg Prod.fst hE).symm, (congrArg Prod.snd hE).symm⟩, by dsimp only; rw [ht]; exact hP⟩, hS.F ht⟩) hS.2.2 dX7_paint_14
def f_X7_sign (fu : Nat) (V : VT) (p1 : Int32) (p2 : Int32) : Int32 × VT := (if (f_X0_hasPlace V 0 p1) = 0 then ((-1001), V) else (if (f_X7_isSign V p2) = 0 then ((-1001), V) else ((f_X0_signAt (f_X2_push fu V 0) 0 p1), (f_X0_hang (f_X2_push fu V 0) 0 p1 p2))))
def p_X7_sign (fu : Nat) (V : VT) (p1 : Int32) (p2 : Int32) : Prop := (((f_X0_hasPlace V 0 p1) = 0 → True) ∧ (¬ ((f_X0_hasPlace V 0 p1) = 0) → (((f_X7_isSign V p2) = 0 → True) ∧ (¬ ((f_X7_isSign V p2) = 0) → (p_X2_push fu V 0)))))
set_option maxHeartbeats 4000000 in
set_option maxRecDepth 100000 in
theorem m_X7_sign (l : Launch) (D : va_G) (cI cB : ClassId) (ad : Nat → Nat) {A : Nat → Prop} (hA : adOk ad A) (fu : Nat) (V : VT) (p1 : Int32) (p2 : Int32)  (hp : p_X7_sign fu V p1 p2) : Met l yX7_sign wsX7_sign ({ frames := 4, cells := 0, slots := 0, locals := 86 }) (cP D cI cB ad V [.ref (ad 0), .int p1, .int p2]) (cWi D cI cB ad A (f_X7_sign fu V p1 p2)) 0 0 A := by
  refine Met.ofW (cc := cX7_sign) (maxL := 4) (ret := (some .int)) (by decide +kernel) rfl ?_
  intro p e s m args below meth c s₁ B hml hv
  obtain ⟨rfl, hP, hKN⟩ := hv
  have hK := hKN.1
  have hx := B.exec
  have hb := B.bytes
  have hr := B.returns
  have hts := atoms_spec (ws := wsX7_sign) B.pre
  have hown : s.vm.findClass RX7 = some m.cls := findClass_of_methodNamed B.named
  have hlocks := B.notSynchronized
  have hS : va_S A s.heap s.heap [] := va_S.rf
  have hl := lv_entry ([.ref (ad 0), .int p1, .int p2]) (n := 4) (Nat.le_of_ble_eq_true rfl)
  rw [lg_entry_eq]
  generalize (lg_sl ([.ref (ad 0), .int p1, .int p2]) ++ List.replicate (4 - (lg_sl ([.ref (ad 0), .int p1, .int p2])).length) Slot.unset).toArray = ls at hl ⊢
  have hl : lv_has ls 4 [(0, .ref (ad 0)), (1, .int p1), (2, .int p2)] := hl
  have hE : f_X7_sign fu V p1 p2 = (if (f_X0_hasPlace V 0 p1) = 0 then ((-1001), V) else (if (f_X7_isSign V p2) = 0 then ((-1001), V) else ((f_X0_signAt (f_X2_push fu V 0) 0 p1), (f_X0_hang (f_X2_push fu V 0) 0 p1 p2)))) := rfl
  refine lv_aload_n hx hb dX7_sign_0 rfl (lv_at hl 0 rfl) ?_
  refine x_get (ci := 5) (fs := [.ref (ad 6), .ref (ad 13), .ref (ad 4), .ref (ad 2), .ref (ad 1), .int ((V 0) 0)]) (q := 0) (v := .ref (ad 6)) (N := 6) hx hb hts (fun _ h => List.mem_cons_of_mem _ (List.mem_append_left _ (List.mem_append_left _ (List.mem_append_left _ (List.mem_append_right _ h))))) hown hK hP (by decide) (ce_tb ad cI cB (V 0)) rfl 0 (by decide) (hts (.fieldLink RX7 10 "TurnedBoards" "now" "LTurnedBoards$Board;") (List.mem_of_getElem? (i := 1) rfl)) rfl rfl dX7_sign_1 ?_
  refine lv_iload_n hx hb dX7_sign_4 rfl (lv_at hl 1 rfl) ?_
  refine k_VR (As := [.int p1]) (rest := []) (q := (6 + 7 * 0)) ⟨hx, hb, hml, hown, hts⟩ hKN hP hS (m_X0_hasPlace l D cI cB ad V 0 p1 (by decide : 0 < 6)) (cwV 1 hts gX7_sign_X0_hasPlace rfl rfl rfl (by decide +kernel) ⟨(Nat.le_of_ble_eq_true rfl), (Nat.le_of_ble_eq_true rfl)⟩) (c_preV hP hKN (q := (6 + 7 * 0)) (ci := 0) (fs := [.ref (ad (6 + 7 * 0 + 1)), .ref (ad (6 + 7 * 0 + 3)), .ref (ad (6 + 7 * 0 + 4)), .ref (ad (6 + 7 * 0 + 5)), .ref (ad (6 + 7 * 0 + 6)), .int ((V (6 + 7 * 0)) 5), .int ((V (6 + 7 * 0)) 6), .int ((V (6 + 7 * 0)) 0), .int ((V (6 + 7 * 0)) 1), .int ((V (6 + 7 * 0)) 2), .int ((V (6 + 7 * 0)) 3), .int ((V (6 + 7 * 0)) 4)]) (by decide) (ce_bd ad cI cB (by decide : 0 < 6) (V (6 + 7 * 0))) rfl rfl) rfl hl.1 rfl (Nat.le_of_ble_eq_true rfl) dX7_sign_5 ⟨Nat.zero_le _, Nat.zero_le _⟩ (fun H locs hP hS => ?_)
  refine lv_if_eq (tgt := 18) hx hb dX7_sign_8 (by decide) (fun c1 => ?_) (fun c1 => ?_)
  · have hE := hE.trans (if_pos c1)
    refine lv_sipush (v := (-1001)) hx hb dX7_sign_18 (by decide) ?_
    exact W.iret (v := (-1001)) hx hb hr (fun t ht hW => ⟨⟨(-1001), V, rfl, ⟨(congrArg Prod.fst hE).symm, (congrArg Prod.snd hE).symm⟩, by dsimp only; rw [ht]; exact hP⟩, hS.F ht⟩) hS.2.2 dX7_sign_21
  · have hE := hE.trans (if_neg c1)
    have hp := pc_bn hp c1
    refine lv_iload_n hx hb dX7_sign_11 rfl (lv_at hl 2 rfl) ?_
    refine k_SR (As := [.int p2]) (rest := []) ⟨hx, hb, hml, hown, hts⟩ hKN hP hS (m_X7_isSign l D cI cB ad V p2) (va_cwS 1 hts gX7_sign_X7_isSign rfl rfl rfl (by decide +kernel) ⟨(Nat.le_of_ble_eq_true rfl), (Nat.le_of_ble_eq_true rfl)⟩) rfl hl.1 rfl (Nat.le_of_ble_eq_true rfl) dX7_sign_12 ⟨Nat.zero_le _, Nat.zero_le _⟩ (fun H locs hP hS => ?_)
    refine lv_if_ne (tgt := 22) hx hb dX7_sign_15 (by decide) (fun c2 => ?_) (fun c2 => ?_)
    · have hE := hE.trans (if_neg c2)
      have hp := pc_bn hp c2
      refine lv_aload_n hx hb dX7_sign_22 rfl (lv_at hl 0 rfl) ?_
      refine x_get (ci := 5) (fs := [.ref (ad 6), .ref (ad 13), .ref (ad 4), .ref (ad 2), .ref (ad 1), .int ((V 0) 0)]) (q := 0) (v := .ref (ad 4)) (N := 6) hx hb hts (fun _ h => List.mem_cons_of_mem _ (List.mem_append_left _ (List.mem_append_left _ (List.mem_append_left _ (List.mem_append_right _ h))))) hown hK hP (by decide) (ce_tb ad cI cB (V 0)) rfl 2 (by decide) (hts (.fieldLink RX7 22 "TurnedBoards" "history" "LTurnedBoards$History;") (List.mem_of_getElem? (i := 2) rfl)) rfl rfl dX7_sign_23 ?_
      refine lv_aload_n hx hb dX7_sign_26 rfl (lv_at hl 0 rfl) ?_
      refine x_get (ci := 5) (fs := [.ref (ad 6), .ref (ad 13), .ref (ad 4), .ref (ad 2), .ref (ad 1), .int ((V 0) 0)]) (q := 0) (v := .ref (ad 6)) (N := 6) hx hb hts (fun _ h => List.mem_cons_of_mem _ (List.mem_append_left _ (List.mem_append_left _ (List.mem_append_left _ (List.mem_append_right _ h))))) hown hK hP (by decide) (ce_tb ad cI cB (V 0)) rfl 0 (by decide) (hts (.fieldLink RX7 10 "TurnedBoards" "now" "LTurnedBoards$Board;") (List.mem_of_getElem? (i := 1) rfl)) rfl rfl dX7_sign_27 ?_
      have hn1 := hp
      refine k_VWv (As := [.ref (ad 6)]) (rest := []) (q := 4) ⟨hx, hb, hml, hown, hts⟩ hKN hP hS (m_X2_push l D cI cB ad hA fu V 0 (by decide : 0 < 6) hn1) (cwV 1 hts gX7_sign_X2_push rfl rfl rfl (by decide +kernel) ⟨(Nat.le_of_ble_eq_true rfl), (Nat.le_of_ble_eq_true rfl)⟩) (c_preV hP hKN (q := 4) (ci := 2) (fs := [.ref (ad 5), .int ((V 4) 0)]) (by decide) (ce_hs ad cI cB (V 4)) rfl rfl) rfl hl.1 rfl (Nat.le_of_ble_eq_true rfl) dX7_sign_30 ⟨Nat.zero_le _, Nat.zero_le _⟩ (fun H locs hP hS => ?_)
      refine lv_aload_n hx hb dX7_sign_33 rfl (lv_at hl 0 rfl) ?_
      refine x_get (ci := 5) (fs := [.ref (ad 6), .ref (ad 13), .ref (ad 4), .ref (ad 2), .ref (ad 1), .int (((f_X2_push fu V 0) 0) 0)]) (q := 0) (v := .ref (ad 6)) (N := 6) hx hb hts (fun _ h => List.mem_cons_of_mem _ (List.mem_append_left _ (List.mem_append_left _ (List.mem_append_left _ (List.mem_append_right _ h))))) hown hK hP (by decide) (ce_tb ad cI cB ((f_X2_push fu V 0) 0)) rfl 0 (by decide) (hts (.fieldLink RX7 10 "TurnedBoards" "now" "LTurnedBoards$Board;") (List.mem_of_getElem? (i := 1) rfl)) rfl rfl dX7_sign_34 ?_
      refine lv_iload_n hx hb dX7_sign_37 rfl (lv_at hl 1 rfl) ?_
      refine k_VR (As := [.int p1]) (rest := []) (q := (6 + 7 * 0)) ⟨hx, hb, hml, hown, hts⟩ hKN hP hS (m_X0_signAt l D cI cB ad (f_X2_push fu V 0) 0 p1 (by decide : 0 < 6)) (cwV 1 hts gX7_sign_X0_signAt rfl rfl rfl (by decide +kernel) ⟨(Nat.le_of_ble_eq_true rfl), (Nat.le_of_ble_eq_true rfl)⟩) (c_preV hP hKN (q := (6 + 7 * 0)) (ci := 0) (fs := [.ref (ad (6 + 7 * 0 + 1)), .ref (ad (6 + 7 * 0 + 3)), .ref (ad (6 + 7 * 0 + 4)), .ref (ad (6 + 7 * 0 + 5)), .ref (ad (6 + 7 * 0 + 6)), .int (((f_X2_push fu V 0) (6 + 7 * 0)) 5), .int (((f_X2_push fu V 0) (6 + 7 * 0)) 6), .int (((f_X2_push fu V 0) (6 + 7 * 0)) 0), .int (((f_X2_push fu V 0) (6 + 7 * 0)) 1), .int (((f_X2_push fu V 0) (6 + 7 * 0)) 2), .int (((f_X2_push fu V 0) (6 + 7 * 0)) 3), .int (((f_X2_push fu V 0) (6 + 7 * 0)) 4)]) (by decide) (ce_bd ad cI cB (by decide : 0 < 6) ((f_X2_push fu V 0) (6 + 7 * 0))) rfl rfl) rfl hl.1 rfl (Nat.le_of_ble_eq_true rfl) dX7_sign_38 ⟨Nat.zero_le _, Nat.zero_le _⟩ (fun H locs hP hS => ?_)
      refine lv_istore_n (lv' := [(3, .int (f_X0_signAt (f_X2_push fu V 0) 0 p1)), (0, .ref (ad 0)), (1, .int p1), (2, .int p2)]) hx hb dX7_sign_41 rfl hl (by decide) rfl (fun ls hl => ?_)
      refine lv_aload_n hx hb dX7_sign_42 rfl (lv_at hl 1 rfl) ?_
      refine x_get (ci := 5) (fs := [.ref (ad 6), .ref (ad 13), .ref (ad 4), .ref (ad 2), .ref (ad 1), .int (((f_X2_push fu V 0) 0) 0)]) (q := 0) (v := .ref (ad 6)) (N := 6) hx hb hts (fun _ h => List.mem_cons_of_mem _ (List.mem_append_left _ (List.mem_append_left _ (List.mem_append_left _ (List.mem_append_right _ h))))) hown hK hP (by decide) (ce_tb ad cI cB ((f_X2_push fu V 0) 0)) rfl 0 (by decide) (hts (.fieldLink RX7 10 "TurnedBoards" "now" "LTurnedBoards$Board;") (List.mem_of_getElem? (i := 1) rfl)) rfl rfl dX7_sign_43 ?_
      refine lv_iload_n hx hb dX7_sign_46 rfl (lv_at hl 2 rfl) ?_
      refine lv_iload_n hx hb dX7_sign_47 rfl (lv_at hl 3 rfl) ?_
      refine k_VWv (As := [.int p1, .int p2]) (rest := []) (q := (6 + 7 * 0)) ⟨hx, hb, hml, hown, hts⟩ hKN hP hS (m_X0_hang l D cI cB ad hA (f_X2_push fu V 0) 0 p1 p2 (by decide : 0 < 6)) (cwV 2 hts gX7_sign_X0_hang rfl rfl rfl (by decide +kernel) ⟨(Nat.le_of_ble_eq_true rfl), (Nat.le_of_ble_eq_true rfl)⟩) (c_preV hP hKN (q := (6 + 7 * 0)) (ci := 0) (fs := [.ref (ad (6 + 7 * 0 + 1)), .ref (ad (6 + 7 * 0 + 3)), .ref (ad (6 + 7 * 0 + 4)), .ref (ad (6 + 7 * 0 + 5)), .ref (ad (6 + 7 * 0 + 6)), .int (((f_X2_push fu V 0) (6 + 7 * 0)) 5), .int (((f_X2_push fu V 0) (6 + 7 * 0)) 6), .int (((f_X2_push fu V 0) (6 + 7 * 0)) 0), .int (((f_X2_push fu V 0) (6 + 7 * 0)) 1), .int (((f_X2_push fu V 0) (6 + 7 * 0)) 2), .int (((f_X2_push fu V 0) (6 + 7 * 0)) 3), .int (((f_X2_push fu V 0) (6 + 7 * 0)) 4)]) (by decide) (ce_bd ad cI cB (by decide : 0 < 6) ((f_X2_push fu V 0) (6 + 7 * 0))) rfl rfl) rfl hl.1 rfl (Nat.le_of_ble_eq_true rfl) dX7_sign_48 ⟨Nat.zero_le _, Nat.zero_le _⟩ (fun H locs hP hS => ?_)
      refine lv_iload_n hx hb dX7_sign_51 rfl (lv_at hl 0 rfl) ?_
      exact W.iret (v := (f_X0_signAt (f_X2_push fu V 0) 0 p1)) hx hb hr (fun t ht hW => ⟨⟨(f_X0_signAt (f_X2_push fu V 0) 0 p1), (f_X0_hang (f_X2_push fu V 0) 0 p1 p2), rfl, ⟨(congrArg Prod.fst hE).symm, (congrArg Prod.snd hE).symm⟩, by dsimp only; rw [ht]; exact hP⟩, hS.F ht⟩) hS.2.2 dX7_sign_52
    · have hE := hE.trans (if_pos c2)
      refine lv_sipush (v := (-1001)) hx hb dX7_sign_18 (by decide) ?_
      exact W.iret (v := (-1001)) hx hb hr (fun t ht hW => ⟨⟨(-1001), V, rfl, ⟨(congrArg Prod.fst hE).symm, (congrArg Prod.snd hE).symm⟩, by dsimp only; rw [ht]; exact hP⟩, hS.F ht⟩) hS.2.2 dX7_sign_21
def f_X7_letter (fu : Nat) (V : VT) (p1 : Int32) (p2 : Int32) : Int32 × VT := (if (f_X7_isLetter V p1) = 0 then ((-1001), V) else (if (f_X7_isSign V p2) = 0 then ((-1001), V) else (if (f_X3_drawnAs fu V 0 p2) = (-1) then ((f_X3_signFor (f_X2_push fu V 0) 0 p1), (f_X3_draw (f_X2_push fu V 0) 0 p1 p2)) else (if (f_X3_drawnAs fu V 0 p2) = p1 then ((f_X3_signFor (f_X2_push fu V 0) 0 p1), (f_X3_draw (f_X2_push fu V 0) 0 p1 p2)) else ((-1002), V)))))
def p_X7_letter (fu : Nat) (V : VT) (p1 : Int32) (p2 : Int32) : Prop := (((f_X7_isLetter V p1) = 0 → True) ∧ (¬ ((f_X7_isLetter V p1) = 0) → (((f_X7_isSign V p2) = 0 → True) ∧ (¬ ((f_X7_isSign V p2) = 0) → ((p_X3_drawnAs fu V 0 p2) ∧ (((f_X3_drawnAs fu V 0 p2) = (-1) → (p_X2_push fu V 0)) ∧ (¬ ((f_X3_drawnAs fu V 0 p2) = (-1)) → (((f_X3_drawnAs fu V 0 p2) = p1 → (p_X2_push fu V 0)) ∧ (¬ ((f_X3_drawnAs fu V 0 p2) = p1) → True)))))))))
set_option maxHeartbeats 4000000 in
set_option maxRecDepth 100000 in
theorem m_X7_letter (l : Launch) (D : va_G) (cI cB : ClassId) (ad : Nat → Nat) {A : Nat → Prop} (hA : adOk ad A) (fu : Nat) (V : VT) (p1 : Int32) (p2 : Int32)  (hp : p_X7_letter fu V p1 p2) : Met l yX7_letter wsX7_letter ({ frames := 4, cells := 0, slots := 0, locals := 86 }) (cP D cI cB ad V [.ref (ad 0), .int p1, .int p2]) (cWi D cI cB ad A (f_X7_letter fu V p1 p2)) 0 0 A := by
  refine Met.ofW (cc := cX7_letter) (maxL := 5) (ret := (some .int)) (by decide +kernel) rfl ?_
  intro p e s m args below meth c s₁ B hml hv
  obtain ⟨rfl, hP, hKN⟩ := hv
  have hK := hKN.1
  have hx := B.exec
  have hb := B.bytes
  have hr := B.returns
  have hts := atoms_spec (ws := wsX7_letter) B.pre
  have hown : s.vm.findClass RX7 = some m.cls := findClass_of_methodNamed B.named
  have hlocks := B.notSynchronized
  have hS : va_S A s.heap s.heap [] := va_S.rf
  have hl := lv_entry ([.ref (ad 0), .int p1, .int p2]) (n := 5) (Nat.le_of_ble_eq_true rfl)
  rw [lg_entry_eq]
  generalize (lg_sl ([.ref (ad 0), .int p1, .int p2]) ++ List.replicate (5 - (lg_sl ([.ref (ad 0), .int p1, .int p2])).length) Slot.unset).toArray = ls at hl ⊢
  have hl : lv_has ls 5 [(0, .ref (ad 0)), (1, .int p1), (2, .int p2)] := hl
  have hE : f_X7_letter fu V p1 p2 = (if (f_X7_isLetter V p1) = 0 then ((-1001), V) else (if (f_X7_isSign V p2) = 0 then ((-1001), V) else (if (f_X3_drawnAs fu V 0 p2) = (-1) then ((f_X3_signFor (f_X2_push fu V 0) 0 p1), (f_X3_draw (f_X2_push fu V 0) 0 p1 p2)) else (if (f_X3_drawnAs fu V 0 p2) = p1 then ((f_X3_signFor (f_X2_push fu V 0) 0 p1), (f_X3_draw (f_X2_push fu V 0) 0 p1 p2)) else ((-1002), V))))) := rfl
  refine lv_iload_n hx hb dX7_letter_0 rfl (lv_at hl 1 rfl) ?_
  refine k_SR (As := [.int p1]) (rest := []) ⟨hx, hb, hml, hown, hts⟩ hKN hP hS (m_X7_isLetter l D cI cB ad V p1) (va_cwS 1 hts gX7_letter_X7_isLetter rfl rfl rfl (by decide +kernel) ⟨(Nat.le_of_ble_eq_true rfl), (Nat.le_of_ble_eq_true rfl)⟩) rfl hl.1 rfl (Nat.le_of_ble_eq_true rfl) dX7_letter_1 ⟨Nat.zero_le _, Nat.zero_le _⟩ (fun H locs hP hS => ?_)
  refine lv_if_eq (tgt := 14) hx hb dX7_letter_4 (by decide) (fun c1 => ?_) (fun c1 => ?_)
  · have hE := hE.trans (if_pos c1)
    refine lv_sipush (v := (-1001)) hx hb dX7_letter_14 (by decide) ?_
    exact W.iret (v := (-1001)) hx hb hr (fun t ht hW => ⟨⟨(-1001), V, rfl, ⟨(congrArg Prod.fst hE).symm, (congrArg Prod.snd hE).symm⟩, by dsimp only; rw [ht]; exact hP⟩, hS.F ht⟩) hS.2.2 dX7_letter_17
  · have hE := hE.trans (if_neg c1)
    have hp := pc_bn hp c1
    refine lv_iload_n hx hb dX7_letter_7 rfl (lv_at hl 2 rfl) ?_
    refine k_SR (As := [.int p2]) (rest := []) ⟨hx, hb, hml, hown, hts⟩ hKN hP hS (m_X7_isSign l D cI cB ad V p2) (va_cwS 1 hts gX7_letter_X7_isSign rfl rfl rfl (by decide +kernel) ⟨(Nat.le_of_ble_eq_true rfl), (Nat.le_of_ble_eq_true rfl)⟩) rfl hl.1 rfl (Nat.le_of_ble_eq_true rfl) dX7_letter_8 ⟨Nat.zero_le _, Nat.zero_le _⟩ (fun H locs hP hS => ?_)
    refine lv_if_ne (tgt := 18) hx hb dX7_letter_11 (by decide) (fun c2 => ?_) (fun c2 => ?_)
    · have hE := hE.trans (if_neg c2)
      have hp := pc_bn hp c2
      refine lv_aload_n hx hb dX7_letter_18 rfl (lv_at hl 0 rfl) ?_
      refine x_get (ci := 5) (fs := [.ref (ad 6), .ref (ad 13), .ref (ad 4), .ref (ad 2), .ref (ad 1), .int ((V 0) 0)]) (q := 0) (v := .ref (ad 6)) (N := 6) hx hb hts (fun _ h => List.mem_cons_of_mem _ (List.mem_append_left _ (List.mem_append_left _ (List.mem_append_left _ (List.mem_append_right _ h))))) hown hK hP (by decide) (ce_tb ad cI cB (V 0)) rfl 0 (by decide) (hts (.fieldLink RX7 10 "TurnedBoards" "now" "LTurnedBoards$Board;") (List.mem_of_getElem? (i := 1) rfl)) rfl rfl dX7_letter_19 ?_
      refine x_getN (ci := 0) (fs := [.ref (ad (6 + 7 * 0 + 1)), .ref (ad (6 + 7 * 0 + 3)), .ref (ad (6 + 7 * 0 + 4)), .ref (ad (6 + 7 * 0 + 5)), .ref (ad (6 + 7 * 0 + 6)), .int ((V (6 + 7 * 0)) 5), .int ((V (6 + 7 * 0)) 6), .int ((V (6 + 7 * 0)) 0), .int ((V (6 + 7 * 0)) 1), .int ((V (6 + 7 * 0)) 2), .int ((V (6 + 7 * 0)) 3), .int ((V (6 + 7 * 0)) 4)]) (q := (6 + 7 * 0)) (v := .ref (ad (6 + 7 * 0 + 1))) (N := 12) hx hb hts (fun _ h => List.mem_cons_of_mem _ (List.mem_append_left _ (List.mem_append_left _ (List.mem_append_right _ h)))) hown hK hP (by decide) (ce_bd ad cI cB (by decide : 0 < 6) (V (6 + 7 * 0))) rfl 0 (by decide) (hKN.2.1 (.fieldLinkNest RX7 51 "TurnedBoards$Board" "letters" "LTurnedBoards$Letters;" "TurnedBoards") (List.mem_of_getElem? (i := 1) rfl)) rfl rfl dX7_letter_22 ?_
      refine lv_iload_n hx hb dX7_letter_25 rfl (lv_at hl 2 rfl) ?_
      obtain ⟨hn1, hp⟩ := hp
      refine k_VR (As := [.int p2]) (rest := []) (q := (6 + 7 * 0 + 1)) ⟨hx, hb, hml, hown, hts⟩ hKN hP hS (m_X3_drawnAs l D cI cB ad fu V 0 p2 (by decide : 0 < 6) hn1) (cwV 1 hts gX7_letter_X3_drawnAs rfl rfl rfl (by decide +kernel) ⟨(Nat.le_of_ble_eq_true rfl), (Nat.le_of_ble_eq_true rfl)⟩) (c_preV hP hKN (q := (6 + 7 * 0 + 1)) (ci := 3) (fs := [.ref (ad (6 + 7 * 0 + 2))]) (by decide) (ce_lt ad cI cB (by decide : 0 < 6) (V (6 + 7 * 0 + 1))) rfl rfl) rfl hl.1 rfl (Nat.le_of_ble_eq_true rfl) dX7_letter_26 ⟨Nat.zero_le _, Nat.zero_le _⟩ (fun H locs hP hS => ?_)
      refine lv_istore_n (lv' := [(3, .int (f_X3_drawnAs fu V 0 p2)), (0, .ref (ad 0)), (1, .int p1), (2, .int p2)]) hx hb dX7_letter_29 rfl hl (by decide) rfl (fun ls hl => ?_)
      refine lv_iload_n hx hb dX7_letter_30 rfl (lv_at hl 0 rfl) ?_
      refine lv_iconst (v := (-1)) hx hb dX7_letter_31 (by decide) ?_
      refine lv_icmp_eq (tgt := 44) hx hb dX7_letter_32 (by decide) (fun c3 => ?_) (fun c3 => ?_)
      · have hE := hE.trans (if_pos c3)
        have hp := pc_br hp c3
        refine lv_aload_n hx hb dX7_letter_44 rfl (lv_at hl 1 rfl) ?_
        refine x_get (ci := 5) (fs := [.ref (ad 6), .ref (ad 13), .ref (ad 4), .ref (ad 2), .ref (ad 1), .int ((V 0) 0)]) (q := 0) (v := .ref (ad 4)) (N := 6) hx hb hts (fun _ h => List.mem_cons_of_mem _ (List.mem_append_left _ (List.mem_append_left _ (List.mem_append_left _ (List.mem_append_right _ h))))) hown hK hP (by decide) (ce_tb ad cI cB (V 0)) rfl 2 (by decide) (hts (.fieldLink RX7 22 "TurnedBoards" "history" "LTurnedBoards$History;") (List.mem_of_getElem? (i := 2) rfl)) rfl rfl dX7_letter_45 ?_
        refine lv_aload_n hx hb dX7_letter_48 rfl (lv_at hl 1 rfl) ?_
        refine x_get (ci := 5) (fs := [.ref (ad 6), .ref (ad 13), .ref (ad 4), .ref (ad 2), .ref (ad 1), .int ((V 0) 0)]) (q := 0) (v := .ref (ad 6)) (N := 6) hx hb hts (fun _ h => List.mem_cons_of_mem _ (List.mem_append_left _ (List.mem_append_left _ (List.mem_append_left _ (List.mem_append_right _ h))))) hown hK hP (by decide) (ce_tb ad cI cB (V 0)) rfl 0 (by decide) (hts (.fieldLink RX7 10 "TurnedBoards" "now" "LTurnedBoards$Board;") (List.mem_of_getElem? (i := 1) rfl)) rfl rfl dX7_letter_49 ?_
        have hn2 := hp
        refine k_VWv (As := [.ref (ad 6)]) (rest := []) (q := 4) ⟨hx, hb, hml, hown, hts⟩ hKN hP hS (m_X2_push l D cI cB ad hA fu V 0 (by decide : 0 < 6) hn2) (cwV 1 hts gX7_letter_X2_push rfl rfl rfl (by decide +kernel) ⟨(Nat.le_of_ble_eq_true rfl), (Nat.le_of_ble_eq_true rfl)⟩) (c_preV hP hKN (q := 4) (ci := 2) (fs := [.ref (ad 5), .int ((V 4) 0)]) (by decide) (ce_hs ad cI cB (V 4)) rfl rfl) rfl hl.1 rfl (Nat.le_of_ble_eq_true rfl) dX7_letter_52 ⟨Nat.zero_le _, Nat.zero_le _⟩ (fun H locs hP hS => ?_)
        refine lv_aload_n hx hb dX7_letter_55 rfl (lv_at hl 1 rfl) ?_
        refine x_get (ci := 5) (fs := [.ref (ad 6), .ref (ad 13), .ref (ad 4), .ref (ad 2), .ref (ad 1), .int (((f_X2_push fu V 0) 0) 0)]) (q := 0) (v := .ref (ad 6)) (N := 6) hx hb hts (fun _ h => List.mem_cons_of_mem _ (List.mem_append_left _ (List.mem_append_left _ (List.mem_append_left _ (List.mem_append_right _ h))))) hown hK hP (by decide) (ce_tb ad cI cB ((f_X2_push fu V 0) 0)) rfl 0 (by decide) (hts (.fieldLink RX7 10 "TurnedBoards" "now" "LTurnedBoards$Board;") (List.mem_of_getElem? (i := 1) rfl)) rfl rfl dX7_letter_56 ?_
        refine x_getN (ci := 0) (fs := [.ref (ad (6 + 7 * 0 + 1)), .ref (ad (6 + 7 * 0 + 3)), .ref (ad (6 + 7 * 0 + 4)), .ref (ad (6 + 7 * 0 + 5)), .ref (ad (6 + 7 * 0 + 6)), .int (((f_X2_push fu V 0) (6 + 7 * 0)) 5), .int (((f_X2_push fu V 0) (6 + 7 * 0)) 6), .int (((f_X2_push fu V 0) (6 + 7 * 0)) 0), .int (((f_X2_push fu V 0) (6 + 7 * 0)) 1), .int (((f_X2_push fu V 0) (6 + 7 * 0)) 2), .int (((f_X2_push fu V 0) (6 + 7 * 0)) 3), .int (((f_X2_push fu V 0) (6 + 7 * 0)) 4)]) (q := (6 + 7 * 0)) (v := .ref (ad (6 + 7 * 0 + 1))) (N := 12) hx hb hts (fun _ h => List.mem_cons_of_mem _ (List.mem_append_left _ (List.mem_append_left _ (List.mem_append_right _ h)))) hown hK hP (by decide) (ce_bd ad cI cB (by decide : 0 < 6) ((f_X2_push fu V 0) (6 + 7 * 0))) rfl 0 (by decide) (hKN.2.1 (.fieldLinkNest RX7 51 "TurnedBoards$Board" "letters" "LTurnedBoards$Letters;" "TurnedBoards") (List.mem_of_getElem? (i := 1) rfl)) rfl rfl dX7_letter_59 ?_
        refine lv_iload_n hx hb dX7_letter_62 rfl (lv_at hl 2 rfl) ?_
        refine k_VR (As := [.int p1]) (rest := []) (q := (6 + 7 * 0 + 1)) ⟨hx, hb, hml, hown, hts⟩ hKN hP hS (m_X3_signFor l D cI cB ad (f_X2_push fu V 0) 0 p1 (by decide : 0 < 6)) (cwV 1 hts gX7_letter_X3_signFor rfl rfl rfl (by decide +kernel) ⟨(Nat.le_of_ble_eq_true rfl), (Nat.le_of_ble_eq_true rfl)⟩) (c_preV hP hKN (q := (6 + 7 * 0 + 1)) (ci := 3) (fs := [.ref (ad (6 + 7 * 0 + 2))]) (by decide) (ce_lt ad cI cB (by decide : 0 < 6) ((f_X2_push fu V 0) (6 + 7 * 0 + 1))) rfl rfl) rfl hl.1 rfl (Nat.le_of_ble_eq_true rfl) dX7_letter_63 ⟨Nat.zero_le _, Nat.zero_le _⟩ (fun H locs hP hS => ?_)
        refine lv_istore (lv' := [(4, .int (f_X3_signFor (f_X2_push fu V 0) 0 p1)), (3, .int (f_X3_drawnAs fu V 0 p2)), (0, .ref (ad 0)), (1, .int p1), (2, .int p2)]) hx hb dX7_letter_66 hl (by decide) rfl (fun ls hl => ?_)
        refine lv_aload_n hx hb dX7_letter_68 rfl (lv_at hl 2 rfl) ?_
        refine x_get (ci := 5) (fs := [.ref (ad 6), .ref (ad 13), .ref (ad 4), .ref (ad 2), .ref (ad 1), .int (((f_X2_push fu V 0) 0) 0)]) (q := 0) (v := .ref (ad 6)) (N := 6) hx hb hts (fun _ h => List.mem_cons_of_mem _ (List.mem_append_left _ (List.mem_append_left _ (List.mem_append_left _ (List.mem_append_right _ h))))) hown hK hP (by decide) (ce_tb ad cI cB ((f_X2_push fu V 0) 0)) rfl 0 (by decide) (hts (.fieldLink RX7 10 "TurnedBoards" "now" "LTurnedBoards$Board;") (List.mem_of_getElem? (i := 1) rfl)) rfl rfl dX7_letter_69 ?_
        refine x_getN (ci := 0) (fs := [.ref (ad (6 + 7 * 0 + 1)), .ref (ad (6 + 7 * 0 + 3)), .ref (ad (6 + 7 * 0 + 4)), .ref (ad (6 + 7 * 0 + 5)), .ref (ad (6 + 7 * 0 + 6)), .int (((f_X2_push fu V 0) (6 + 7 * 0)) 5), .int (((f_X2_push fu V 0) (6 + 7 * 0)) 6), .int (((f_X2_push fu V 0) (6 + 7 * 0)) 0), .int (((f_X2_push fu V 0) (6 + 7 * 0)) 1), .int (((f_X2_push fu V 0) (6 + 7 * 0)) 2), .int (((f_X2_push fu V 0) (6 + 7 * 0)) 3), .int (((f_X2_push fu V 0) (6 + 7 * 0)) 4)]) (q := (6 + 7 * 0)) (v := .ref (ad (6 + 7 * 0 + 1))) (N := 12) hx hb hts (fun _ h => List.mem_cons_of_mem _ (List.mem_append_left _ (List.mem_append_left _ (List.mem_append_right _ h)))) hown hK hP (by decide) (ce_bd ad cI cB (by decide : 0 < 6) ((f_X2_push fu V 0) (6 + 7 * 0))) rfl 0 (by decide) (hKN.2.1 (.fieldLinkNest RX7 51 "TurnedBoards$Board" "letters" "LTurnedBoards$Letters;" "TurnedBoards") (List.mem_of_getElem? (i := 1) rfl)) rfl rfl dX7_letter_72 ?_
        refine lv_iload_n hx hb dX7_letter_75 rfl (lv_at hl 3 rfl) ?_
        refine lv_iload_n hx hb dX7_letter_76 rfl (lv_at hl 4 rfl) ?_
        refine k_VWv (As := [.int p1, .int p2]) (rest := []) (q := (6 + 7 * 0 + 1)) ⟨hx, hb, hml, hown, hts⟩ hKN hP hS (m_X3_draw l D cI cB ad hA (f_X2_push fu V 0) 0 p1 p2 (by decide : 0 < 6)) (cwV 2 hts gX7_letter_X3_draw rfl rfl rfl (by decide +kernel) ⟨(Nat.le_of_ble_eq_true rfl), (Nat.le_of_ble_eq_true rfl)⟩) (c_preV hP hKN (q := (6 + 7 * 0 + 1)) (ci := 3) (fs := [.ref (ad (6 + 7 * 0 + 2))]) (by decide) (ce_lt ad cI cB (by decide : 0 < 6) ((f_X2_push fu V 0) (6 + 7 * 0 + 1))) rfl rfl) rfl hl.1 rfl (Nat.le_of_ble_eq_true rfl) dX7_letter_77 ⟨Nat.zero_le _, Nat.zero_le _⟩ (fun H locs hP hS => ?_)
        refine lv_iload hx hb dX7_letter_80 (lv_at hl 0 rfl) ?_
        exact W.iret (v := (f_X3_signFor (f_X2_push fu V 0) 0 p1)) hx hb hr (fun t ht hW => ⟨⟨(f_X3_signFor (f_X2_push fu V 0) 0 p1), (f_X3_draw (f_X2_push fu V 0) 0 p1 p2), rfl, ⟨(congrArg Prod.fst hE).symm, (congrArg Prod.snd hE).symm⟩, by dsimp only; rw [ht]; exact hP⟩, hS.F ht⟩) hS.2.2 dX7_letter_82
      · have hE := hE.trans (if_neg c3)
        have hp := pc_bn hp c3
        refine lv_iload_n hx hb dX7_letter_35 rfl (lv_at hl 0 rfl) ?_
        refine lv_iload_n hx hb dX7_letter_36 rfl (lv_at hl 2 rfl) ?_
        refine lv_icmp_eq (tgt := 44) hx hb dX7_letter_37 (by decide) (fun c4 => ?_) (fun c4 => ?_)
        · have hE := hE.trans (if_pos c4)
          have hp := pc_br hp c4
          refine lv_aload_n hx hb dX7_letter_44 rfl (lv_at hl 1 rfl) ?_
          refine x_get (ci := 5) (fs := [.ref (ad 6), .ref (ad 13), .ref (ad 4), .ref (ad 2), .ref (ad 1), .int ((V 0) 0)]) (q := 0) (v := .ref (ad 4)) (N := 6) hx hb hts (fun _ h => List.mem_cons_of_mem _ (List.mem_append_left _ (List.mem_append_left _ (List.mem_append_left _ (List.mem_append_right _ h))))) hown hK hP (by decide) (ce_tb ad cI cB (V 0)) rfl 2 (by decide) (hts (.fieldLink RX7 22 "TurnedBoards" "history" "LTurnedBoards$History;") (List.mem_of_getElem? (i := 2) rfl)) rfl rfl dX7_letter_45 ?_
          refine lv_aload_n hx hb dX7_letter_48 rfl (lv_at hl 1 rfl) ?_
          refine x_get (ci := 5) (fs := [.ref (ad 6), .ref (ad 13), .ref (ad 4), .ref (ad 2), .ref (ad 1), .int ((V 0) 0)]) (q := 0) (v := .ref (ad 6)) (N := 6) hx hb hts (fun _ h => List.mem_cons_of_mem _ (List.mem_append_left _ (List.mem_append_left _ (List.mem_append_left _ (List.mem_append_right _ h))))) hown hK hP (by decide) (ce_tb ad cI cB (V 0)) rfl 0 (by decide) (hts (.fieldLink RX7 10 "TurnedBoards" "now" "LTurnedBoards$Board;") (List.mem_of_getElem? (i := 1) rfl)) rfl rfl dX7_letter_49 ?_
          have hn3 := hp
          refine k_VWv (As := [.ref (ad 6)]) (rest := []) (q := 4) ⟨hx, hb, hml, hown, hts⟩ hKN hP hS (m_X2_push l D cI cB ad hA fu V 0 (by decide : 0 < 6) hn3) (cwV 1 hts gX7_letter_X2_push rfl rfl rfl (by decide +kernel) ⟨(Nat.le_of_ble_eq_true rfl), (Nat.le_of_ble_eq_true rfl)⟩) (c_preV hP hKN (q := 4) (ci := 2) (fs := [.ref (ad 5), .int ((V 4) 0)]) (by decide) (ce_hs ad cI cB (V 4)) rfl rfl) rfl hl.1 rfl (Nat.le_of_ble_eq_true rfl) dX7_letter_52 ⟨Nat.zero_le _, Nat.zero_le _⟩ (fun H locs hP hS => ?_)
          refine lv_aload_n hx hb dX7_letter_55 rfl (lv_at hl 1 rfl) ?_
          refine x_get (ci := 5) (fs := [.ref (ad 6), .ref (ad 13), .ref (ad 4), .ref (ad 2), .ref (ad 1), .int (((f_X2_push fu V 0) 0) 0)]) (q := 0) (v := .ref (ad 6)) (N := 6) hx hb hts (fun _ h => List.mem_cons_of_mem _ (List.mem_append_left _ (List.mem_append_left _ (List.mem_append_left _ (List.mem_append_right _ h))))) hown hK hP (by decide) (ce_tb ad cI cB ((f_X2_push fu V 0) 0)) rfl 0 (by decide) (hts (.fieldLink RX7 10 "TurnedBoards" "now" "LTurnedBoards$Board;") (List.mem_of_getElem? (i := 1) rfl)) rfl rfl dX7_letter_56 ?_
          refine x_getN (ci := 0) (fs := [.ref (ad (6 + 7 * 0 + 1)), .ref (ad (6 + 7 * 0 + 3)), .ref (ad (6 + 7 * 0 + 4)), .ref (ad (6 + 7 * 0 + 5)), .ref (ad (6 + 7 * 0 + 6)), .int (((f_X2_push fu V 0) (6 + 7 * 0)) 5), .int (((f_X2_push fu V 0) (6 + 7 * 0)) 6), .int (((f_X2_push fu V 0) (6 + 7 * 0)) 0), .int (((f_X2_push fu V 0) (6 + 7 * 0)) 1), .int (((f_X2_push fu V 0) (6 + 7 * 0)) 2), .int (((f_X2_push fu V 0) (6 + 7 * 0)) 3), .int (((f_X2_push fu V 0) (6 + 7 * 0)) 4)]) (q := (6 + 7 * 0)) (v := .ref (ad (6 + 7 * 0 + 1))) (N := 12) hx hb hts (fun _ h => List.mem_cons_of_mem _ (List.mem_append_left _ (List.mem_append_left _ (List.mem_append_right _ h)))) hown hK hP (by decide) (ce_bd ad cI cB (by decide : 0 < 6) ((f_X2_push fu V 0) (6 + 7 * 0))) rfl 0 (by decide) (hKN.2.1 (.fieldLinkNest RX7 51 "TurnedBoards$Board" "letters" "LTurnedBoards$Letters;" "TurnedBoards") (List.mem_of_getElem? (i := 1) rfl)) rfl rfl dX7_letter_59 ?_
          refine lv_iload_n hx hb dX7_letter_62 rfl (lv_at hl 2 rfl) ?_
          refine k_VR (As := [.int p1]) (rest := []) (q := (6 + 7 * 0 + 1)) ⟨hx, hb, hml, hown, hts⟩ hKN hP hS (m_X3_signFor l D cI cB ad (f_X2_push fu V 0) 0 p1 (by decide : 0 < 6)) (cwV 1 hts gX7_letter_X3_signFor rfl rfl rfl (by decide +kernel) ⟨(Nat.le_of_ble_eq_true rfl), (Nat.le_of_ble_eq_true rfl)⟩) (c_preV hP hKN (q := (6 + 7 * 0 + 1)) (ci := 3) (fs := [.ref (ad (6 + 7 * 0 + 2))]) (by decide) (ce_lt ad cI cB (by decide : 0 < 6) ((f_X2_push fu V 0) (6 + 7 * 0 + 1))) rfl rfl) rfl hl.1 rfl (Nat.le_of_ble_eq_true rfl) dX7_letter_63 ⟨Nat.zero_le _, Nat.zero_le _⟩ (fun H locs hP hS => ?_)
          refine lv_istore (lv' := [(4, .int (f_X3_signFor (f_X2_push fu V 0) 0 p1)), (3, .int (f_X3_drawnAs fu V 0 p2)), (0, .ref (ad 0)), (1, .int p1), (2, .int p2)]) hx hb dX7_letter_66 hl (by decide) rfl (fun ls hl => ?_)
          refine lv_aload_n hx hb dX7_letter_68 rfl (lv_at hl 2 rfl) ?_
          refine x_get (ci := 5) (fs := [.ref (ad 6), .ref (ad 13), .ref (ad 4), .ref (ad 2), .ref (ad 1), .int (((f_X2_push fu V 0) 0) 0)]) (q := 0) (v := .ref (ad 6)) (N := 6) hx hb hts (fun _ h => List.mem_cons_of_mem _ (List.mem_append_left _ (List.mem_append_left _ (List.mem_append_left _ (List.mem_append_right _ h))))) hown hK hP (by decide) (ce_tb ad cI cB ((f_X2_push fu V 0) 0)) rfl 0 (by decide) (hts (.fieldLink RX7 10 "TurnedBoards" "now" "LTurnedBoards$Board;") (List.mem_of_getElem? (i := 1) rfl)) rfl rfl dX7_letter_69 ?_
          refine x_getN (ci := 0) (fs := [.ref (ad (6 + 7 * 0 + 1)), .ref (ad (6 + 7 * 0 + 3)), .ref (ad (6 + 7 * 0 + 4)), .ref (ad (6 + 7 * 0 + 5)), .ref (ad (6 + 7 * 0 + 6)), .int (((f_X2_push fu V 0) (6 + 7 * 0)) 5), .int (((f_X2_push fu V 0) (6 + 7 * 0)) 6), .int (((f_X2_push fu V 0) (6 + 7 * 0)) 0), .int (((f_X2_push fu V 0) (6 + 7 * 0)) 1), .int (((f_X2_push fu V 0) (6 + 7 * 0)) 2), .int (((f_X2_push fu V 0) (6 + 7 * 0)) 3), .int (((f_X2_push fu V 0) (6 + 7 * 0)) 4)]) (q := (6 + 7 * 0)) (v := .ref (ad (6 + 7 * 0 + 1))) (N := 12) hx hb hts (fun _ h => List.mem_cons_of_mem _ (List.mem_append_left _ (List.mem_append_left _ (List.mem_append_right _ h)))) hown hK hP (by decide) (ce_bd ad cI cB (by decide : 0 < 6) ((f_X2_push fu V 0) (6 + 7 * 0))) rfl 0 (by decide) (hKN.2.1 (.fieldLinkNest RX7 51 "TurnedBoards$Board" "letters" "LTurnedBoards$Letters;" "TurnedBoards") (List.mem_of_getElem? (i := 1) rfl)) rfl rfl dX7_letter_72 ?_
          refine lv_iload_n hx hb dX7_letter_75 rfl (lv_at hl 3 rfl) ?_
          refine lv_iload_n hx hb dX7_letter_76 rfl (lv_at hl 4 rfl) ?_
          refine k_VWv (As := [.int p1, .int p2]) (rest := []) (q := (6 + 7 * 0 + 1)) ⟨hx, hb, hml, hown, hts⟩ hKN hP hS (m_X3_draw l D cI cB ad hA (f_X2_push fu V 0) 0 p1 p2 (by decide : 0 < 6)) (cwV 2 hts gX7_letter_X3_draw rfl rfl rfl (by decide +kernel) ⟨(Nat.le_of_ble_eq_true rfl), (Nat.le_of_ble_eq_true rfl)⟩) (c_preV hP hKN (q := (6 + 7 * 0 + 1)) (ci := 3) (fs := [.ref (ad (6 + 7 * 0 + 2))]) (by decide) (ce_lt ad cI cB (by decide : 0 < 6) ((f_X2_push fu V 0) (6 + 7 * 0 + 1))) rfl rfl) rfl hl.1 rfl (Nat.le_of_ble_eq_true rfl) dX7_letter_77 ⟨Nat.zero_le _, Nat.zero_le _⟩ (fun H locs hP hS => ?_)
          refine lv_iload hx hb dX7_letter_80 (lv_at hl 0 rfl) ?_
          exact W.iret (v := (f_X3_signFor (f_X2_push fu V 0) 0 p1)) hx hb hr (fun t ht hW => ⟨⟨(f_X3_signFor (f_X2_push fu V 0) 0 p1), (f_X3_draw (f_X2_push fu V 0) 0 p1 p2), rfl, ⟨(congrArg Prod.fst hE).symm, (congrArg Prod.snd hE).symm⟩, by dsimp only; rw [ht]; exact hP⟩, hS.F ht⟩) hS.2.2 dX7_letter_82
        · have hE := hE.trans (if_neg c4)
          refine lv_sipush (v := (-1002)) hx hb dX7_letter_40 (by decide) ?_
          exact W.iret (v := (-1002)) hx hb hr (fun t ht hW => ⟨⟨(-1002), V, rfl, ⟨(congrArg Prod.fst hE).symm, (congrArg Prod.snd hE).symm⟩, by dsimp only; rw [ht]; exact hP⟩, hS.F ht⟩) hS.2.2 dX7_letter_43
    · have hE := hE.trans (if_pos c2)
      refine lv_sipush (v := (-1001)) hx hb dX7_letter_14 (by decide) ?_
      exact W.iret (v := (-1001)) hx hb hr (fun t ht hW => ⟨⟨(-1001), V, rfl, ⟨(congrArg Prod.fst hE).symm, (congrArg Prod.snd hE).symm⟩, by dsimp only; rw [ht]; exact hP⟩, hS.F ht⟩) hS.2.2 dX7_letter_17
def f_X7_gust (fu : Nat) (V : VT) (p1 : Int32) : Int32 × VT := (if (f_X7_isForce V p1) = 0 then ((-1001), V) else (if ((f_X2_push fu V 0) (6 + 7 * 0) 2) ≤ p1 then (1, (f_X0_turnRound (f_X2_push fu V 0) 0)) else (0, (f_X2_push fu V 0))))
def p_X7_gust (fu : Nat) (V : VT) (p1 : Int32) : Prop := (((f_X7_isForce V p1) = 0 → True) ∧ (¬ ((f_X7_isForce V p1) = 0) → (p_X2_push fu V 0)))
set_option maxHeartbeats 4000000 in
set_option maxRecDepth 100000 in
theorem m_X7_gust (l : Launch) (D : va_G) (cI cB : ClassId) (ad : Nat → Nat) {A : Nat → Prop} (hA : adOk ad A) (fu : Nat) (V : VT) (p1 : Int32)  (hp : p_X7_gust fu V p1) : Met l yX7_gust wsX7_gust ({ frames := 4, cells := 0, slots := 0, locals := 86 }) (cP D cI cB ad V [.ref (ad 0), .int p1]) (cWi D cI cB ad A (f_X7_gust fu V p1)) 0 0 A := by
  refine Met.ofW (cc := cX7_gust) (maxL := 2) (ret := (some .int)) (by decide +kernel) rfl ?_
  intro p e s m args below meth c s₁ B hml hv
  obtain ⟨rfl, hP, hKN⟩ := hv
  have hK := hKN.1
  have hx := B.exec
  have hb := B.bytes
  have hr := B.returns
  have hts := atoms_spec (ws := wsX7_gust) B.pre
  have hown : s.vm.findClass RX7 = some m.cls := findClass_of_methodNamed B.named
  have hlocks := B.notSynchronized
  have hS : va_S A s.heap s.heap [] := va_S.rf
  have hl := lv_entry ([.ref (ad 0), .int p1]) (n := 2) (Nat.le_of_ble_eq_true rfl)
  rw [lg_entry_eq]
  generalize (lg_sl ([.ref (ad 0), .int p1]) ++ List.replicate (2 - (lg_sl ([.ref (ad 0), .int p1])).length) Slot.unset).toArray = ls at hl ⊢
  have hl : lv_has ls 2 [(0, .ref (ad 0)), (1, .int p1)] := hl
  have hE : f_X7_gust fu V p1 = (if (f_X7_isForce V p1) = 0 then ((-1001), V) else (if ((f_X2_push fu V 0) (6 + 7 * 0) 2) ≤ p1 then (1, (f_X0_turnRound (f_X2_push fu V 0) 0)) else (0, (f_X2_push fu V 0)))) := rfl
  refine lv_iload_n hx hb dX7_gust_0 rfl (lv_at hl 1 rfl) ?_
  refine k_SR (As := [.int p1]) (rest := []) ⟨hx, hb, hml, hown, hts⟩ hKN hP hS (m_X7_isForce l D cI cB ad V p1) (va_cwS 1 hts gX7_gust_X7_isForce rfl rfl rfl (by decide +kernel) ⟨(Nat.le_of_ble_eq_true rfl), (Nat.le_of_ble_eq_true rfl)⟩) rfl hl.1 rfl (Nat.le_of_ble_eq_true rfl) dX7_gust_1 ⟨Nat.zero_le _, Nat.zero_le _⟩ (fun H locs hP hS => ?_)
  refine lv_if_ne (tgt := 11) hx hb dX7_gust_4 (by decide) (fun c1 => ?_) (fun c1 => ?_)
  · have hE := hE.trans (if_neg c1)
    have hp := pc_bn hp c1
    refine lv_aload_n hx hb dX7_gust_11 rfl (lv_at hl 0 rfl) ?_
    refine x_get (ci := 5) (fs := [.ref (ad 6), .ref (ad 13), .ref (ad 4), .ref (ad 2), .ref (ad 1), .int ((V 0) 0)]) (q := 0) (v := .ref (ad 4)) (N := 6) hx hb hts (fun _ h => List.mem_cons_of_mem _ (List.mem_append_left _ (List.mem_append_left _ (List.mem_append_left _ (List.mem_append_right _ h))))) hown hK hP (by decide) (ce_tb ad cI cB (V 0)) rfl 2 (by decide) (hts (.fieldLink RX7 22 "TurnedBoards" "history" "LTurnedBoards$History;") (List.mem_of_getElem? (i := 1) rfl)) rfl rfl dX7_gust_12 ?_
    refine lv_aload_n hx hb dX7_gust_15 rfl (lv_at hl 0 rfl) ?_
    refine x_get (ci := 5) (fs := [.ref (ad 6), .ref (ad 13), .ref (ad 4), .ref (ad 2), .ref (ad 1), .int ((V 0) 0)]) (q := 0) (v := .ref (ad 6)) (N := 6) hx hb hts (fun _ h => List.mem_cons_of_mem _ (List.mem_append_left _ (List.mem_append_left _ (List.mem_append_left _ (List.mem_append_right _ h))))) hown hK hP (by decide) (ce_tb ad cI cB (V 0)) rfl 0 (by decide) (hts (.fieldLink RX7 10 "TurnedBoards" "now" "LTurnedBoards$Board;") (List.mem_of_getElem? (i := 2) rfl)) rfl rfl dX7_gust_16 ?_
    have hn1 := hp
    refine k_VWv (As := [.ref (ad 6)]) (rest := []) (q := 4) ⟨hx, hb, hml, hown, hts⟩ hKN hP hS (m_X2_push l D cI cB ad hA fu V 0 (by decide : 0 < 6) hn1) (cwV 1 hts gX7_gust_X2_push rfl rfl rfl (by decide +kernel) ⟨(Nat.le_of_ble_eq_true rfl), (Nat.le_of_ble_eq_true rfl)⟩) (c_preV hP hKN (q := 4) (ci := 2) (fs := [.ref (ad 5), .int ((V 4) 0)]) (by decide) (ce_hs ad cI cB (V 4)) rfl rfl) rfl hl.1 rfl (Nat.le_of_ble_eq_true rfl) dX7_gust_19 ⟨Nat.zero_le _, Nat.zero_le _⟩ (fun H locs hP hS => ?_)
    refine lv_iload_n hx hb dX7_gust_22 rfl (lv_at hl 1 rfl) ?_
    refine lv_aload_n hx hb dX7_gust_23 rfl (lv_at hl 0 rfl) ?_
    refine x_get (ci := 5) (fs := [.ref (ad 6), .ref (ad 13), .ref (ad 4), .ref (ad 2), .ref (ad 1), .int (((f_X2_push fu V 0) 0) 0)]) (q := 0) (v := .ref (ad 6)) (N := 6) hx hb hts (fun _ h => List.mem_cons_of_mem _ (List.mem_append_left _ (List.mem_append_left _ (List.mem_append_left _ (List.mem_append_right _ h))))) hown hK hP (by decide) (ce_tb ad cI cB ((f_X2_push fu V 0) 0)) rfl 0 (by decide) (hts (.fieldLink RX7 10 "TurnedBoards" "now" "LTurnedBoards$Board;") (List.mem_of_getElem? (i := 2) rfl)) rfl rfl dX7_gust_24 ?_
    refine x_getN (ci := 0) (fs := [.ref (ad (6 + 7 * 0 + 1)), .ref (ad (6 + 7 * 0 + 3)), .ref (ad (6 + 7 * 0 + 4)), .ref (ad (6 + 7 * 0 + 5)), .ref (ad (6 + 7 * 0 + 6)), .int (((f_X2_push fu V 0) (6 + 7 * 0)) 5), .int (((f_X2_push fu V 0) (6 + 7 * 0)) 6), .int (((f_X2_push fu V 0) (6 + 7 * 0)) 0), .int (((f_X2_push fu V 0) (6 + 7 * 0)) 1), .int (((f_X2_push fu V 0) (6 + 7 * 0)) 2), .int (((f_X2_push fu V 0) (6 + 7 * 0)) 3), .int (((f_X2_push fu V 0) (6 + 7 * 0)) 4)]) (q := (6 + 7 * 0)) (v := .int ((f_X2_push fu V 0) (6 + 7 * 0) 2)) (N := 12) hx hb hts (fun _ h => List.mem_cons_of_mem _ (List.mem_append_left _ (List.mem_append_left _ (List.mem_append_right _ h)))) hown hK hP (by decide) (ce_bd ad cI cB (by decide : 0 < 6) ((f_X2_push fu V 0) (6 + 7 * 0))) rfl 9 (by decide) (hKN.2.1 (.fieldLinkNest RX7 100 "TurnedBoards$Board" "stiffness" "I" "TurnedBoards") (List.mem_of_getElem? (i := 6) rfl)) rfl rfl dX7_gust_27 ?_
    refine lv_icmp_ge (tgt := 35) hx hb dX7_gust_30 (by decide) (fun c2 => ?_) (fun c2 => ?_)
    · have hE := hE.trans (if_pos c2)
      refine lv_aload_n hx hb dX7_gust_35 rfl (lv_at hl 0 rfl) ?_
      refine x_get (ci := 5) (fs := [.ref (ad 6), .ref (ad 13), .ref (ad 4), .ref (ad 2), .ref (ad 1), .int (((f_X2_push fu V 0) 0) 0)]) (q := 0) (v := .ref (ad 6)) (N := 6) hx hb hts (fun _ h => List.mem_cons_of_mem _ (List.mem_append_left _ (List.mem_append_left _ (List.mem_append_left _ (List.mem_append_right _ h))))) hown hK hP (by decide) (ce_tb ad cI cB ((f_X2_push fu V 0) 0)) rfl 0 (by decide) (hts (.fieldLink RX7 10 "TurnedBoards" "now" "LTurnedBoards$Board;") (List.mem_of_getElem? (i := 2) rfl)) rfl rfl dX7_gust_36 ?_
      refine k_VWv (As := []) (rest := []) (q := (6 + 7 * 0)) ⟨hx, hb, hml, hown, hts⟩ hKN hP hS (m_X0_turnRound l D cI cB ad hA (f_X2_push fu V 0) 0 (by decide : 0 < 6)) (cwV 0 hts gX7_gust_X0_turnRound rfl rfl rfl (by decide +kernel) ⟨(Nat.le_of_ble_eq_true rfl), (Nat.le_of_ble_eq_true rfl)⟩) (c_preV hP hKN (q := (6 + 7 * 0)) (ci := 0) (fs := [.ref (ad (6 + 7 * 0 + 1)), .ref (ad (6 + 7 * 0 + 3)), .ref (ad (6 + 7 * 0 + 4)), .ref (ad (6 + 7 * 0 + 5)), .ref (ad (6 + 7 * 0 + 6)), .int (((f_X2_push fu V 0) (6 + 7 * 0)) 5), .int (((f_X2_push fu V 0) (6 + 7 * 0)) 6), .int (((f_X2_push fu V 0) (6 + 7 * 0)) 0), .int (((f_X2_push fu V 0) (6 + 7 * 0)) 1), .int (((f_X2_push fu V 0) (6 + 7 * 0)) 2), .int (((f_X2_push fu V 0) (6 + 7 * 0)) 3), .int (((f_X2_push fu V 0) (6 + 7 * 0)) 4)]) (by decide) (ce_bd ad cI cB (by decide : 0 < 6) ((f_X2_push fu V 0) (6 + 7 * 0))) rfl rfl) rfl hl.1 rfl (Nat.le_of_ble_eq_true rfl) dX7_gust_39 ⟨Nat.zero_le _, Nat.zero_le _⟩ (fun H locs hP hS => ?_)
      refine lv_iconst (v := 1) hx hb dX7_gust_42 (by decide) ?_
      exact W.iret (v := 1) hx hb hr (fun t ht hW => ⟨⟨1, (f_X0_turnRound (f_X2_push fu V 0) 0), rfl, ⟨(congrArg Prod.fst hE).symm, (congrArg Prod.snd hE).symm⟩, by dsimp only; rw [ht]; exact hP⟩, hS.F ht⟩) hS.2.2 dX7_gust_43
    · have hE := hE.trans (if_neg c2)
      refine lv_iconst (v := 0) hx hb dX7_gust_33 (by decide) ?_
      exact W.iret (v := 0) hx hb hr (fun t ht hW => ⟨⟨0, (f_X2_push fu V 0), rfl, ⟨(congrArg Prod.fst hE).symm, (congrArg Prod.snd hE).symm⟩, by dsimp only; rw [ht]; exact hP⟩, hS.F ht⟩) hS.2.2 dX7_gust_34
  · have hE := hE.trans (if_pos c1)
    refine lv_sipush (v := (-1001)) hx hb dX7_gust_7 (by decide) ?_
    exact W.iret (v := (-1001)) hx hb hr (fun t ht hW => ⟨⟨(-1001), V, rfl, ⟨(congrArg Prod.fst hE).symm, (congrArg Prod.snd hE).symm⟩, by dsimp only; rw [ht]; exact hP⟩, hS.F ht⟩) hS.2.2 dX7_gust_10
def f_X7_oil (fu : Nat) (V : VT) (p1 : Int32) : Int32 × VT := (if (f_X7_isForce V p1) = 0 then ((-1001), V) else (((f_X2_push fu V 0) (6 + 7 * 0) 2), (upV (f_X2_push fu V 0) (6 + 7 * 0) 2 p1)))
def p_X7_oil (fu : Nat) (V : VT) (p1 : Int32) : Prop := (((f_X7_isForce V p1) = 0 → True) ∧ (¬ ((f_X7_isForce V p1) = 0) → (p_X2_push fu V 0)))
set_option maxHeartbeats 4000000 in
set_option maxRecDepth 100000 in
theorem m_X7_oil (l : Launch) (D : va_G) (cI cB : ClassId) (ad : Nat → Nat) {A : Nat → Prop} (hA : adOk ad A) (fu : Nat) (V : VT) (p1 : Int32)  (hp : p_X7_oil fu V p1) : Met l yX7_oil wsX7_oil ({ frames := 4, cells := 0, slots := 0, locals := 86 }) (cP D cI cB ad V [.ref (ad 0), .int p1]) (cWi D cI cB ad A (f_X7_oil fu V p1)) 0 0 A := by
  refine Met.ofW (cc := cX7_oil) (maxL := 3) (ret := (some .int)) (by decide +kernel) rfl ?_
  intro p e s m args below meth c s₁ B hml hv
  obtain ⟨rfl, hP, hKN⟩ := hv
  have hK := hKN.1
  have hx := B.exec
  have hb := B.bytes
  have hr := B.returns
  have hts := atoms_spec (ws := wsX7_oil) B.pre
  have hown : s.vm.findClass RX7 = some m.cls := findClass_of_methodNamed B.named
  have hlocks := B.notSynchronized
  have hS : va_S A s.heap s.heap [] := va_S.rf
  have hl := lv_entry ([.ref (ad 0), .int p1]) (n := 3) (Nat.le_of_ble_eq_true rfl)
  rw [lg_entry_eq]
  generalize (lg_sl ([.ref (ad 0), .int p1]) ++ List.replicate (3 - (lg_sl ([.ref (ad 0), .int p1])).length) Slot.unset).toArray = ls at hl ⊢
  have hl : lv_has ls 3 [(0, .ref (ad 0)), (1, .int p1)] := hl
  have hE : f_X7_oil fu V p1 = (if (f_X7_isForce V p1) = 0 then ((-1001), V) else (((f_X2_push fu V 0) (6 + 7 * 0) 2), (upV (f_X2_push fu V 0) (6 + 7 * 0) 2 p1))) := rfl
  refine lv_iload_n hx hb dX7_oil_0 rfl (lv_at hl 1 rfl) ?_
  refine k_SR (As := [.int p1]) (rest := []) ⟨hx, hb, hml, hown, hts⟩ hKN hP hS (m_X7_isForce l D cI cB ad V p1) (va_cwS 1 hts gX7_oil_X7_isForce rfl rfl rfl (by decide +kernel) ⟨(Nat.le_of_ble_eq_true rfl), (Nat.le_of_ble_eq_true rfl)⟩) rfl hl.1 rfl (Nat.le_of_ble_eq_true rfl) dX7_oil_1 ⟨Nat.zero_le _, Nat.zero_le _⟩ (fun H locs hP hS => ?_)
  refine lv_if_ne (tgt := 11) hx hb dX7_oil_4 (by decide) (fun c1 => ?_) (fun c1 => ?_)
  · have hE := hE.trans (if_neg c1)
    have hp := pc_bn hp c1
    refine lv_aload_n hx hb dX7_oil_11 rfl (lv_at hl 0 rfl) ?_
    refine x_get (ci := 5) (fs := [.ref (ad 6), .ref (ad 13), .ref (ad 4), .ref (ad 2), .ref (ad 1), .int ((V 0) 0)]) (q := 0) (v := .ref (ad 4)) (N := 6) hx hb hts (fun _ h => List.mem_cons_of_mem _ (List.mem_append_left _ (List.mem_append_left _ (List.mem_append_left _ (List.mem_append_right _ h))))) hown hK hP (by decide) (ce_tb ad cI cB (V 0)) rfl 2 (by decide) (hts (.fieldLink RX7 22 "TurnedBoards" "history" "LTurnedBoards$History;") (List.mem_of_getElem? (i := 1) rfl)) rfl rfl dX7_oil_12 ?_
    refine lv_aload_n hx hb dX7_oil_15 rfl (lv_at hl 0 rfl) ?_
    refine x_get (ci := 5) (fs := [.ref (ad 6), .ref (ad 13), .ref (ad 4), .ref (ad 2), .ref (ad 1), .int ((V 0) 0)]) (q := 0) (v := .ref (ad 6)) (N := 6) hx hb hts (fun _ h => List.mem_cons_of_mem _ (List.mem_append_left _ (List.mem_append_left _ (List.mem_append_left _ (List.mem_append_right _ h))))) hown hK hP (by decide) (ce_tb ad cI cB (V 0)) rfl 0 (by decide) (hts (.fieldLink RX7 10 "TurnedBoards" "now" "LTurnedBoards$Board;") (List.mem_of_getElem? (i := 2) rfl)) rfl rfl dX7_oil_16 ?_
    have hn1 := hp
    refine k_VWv (As := [.ref (ad 6)]) (rest := []) (q := 4) ⟨hx, hb, hml, hown, hts⟩ hKN hP hS (m_X2_push l D cI cB ad hA fu V 0 (by decide : 0 < 6) hn1) (cwV 1 hts gX7_oil_X2_push rfl rfl rfl (by decide +kernel) ⟨(Nat.le_of_ble_eq_true rfl), (Nat.le_of_ble_eq_true rfl)⟩) (c_preV hP hKN (q := 4) (ci := 2) (fs := [.ref (ad 5), .int ((V 4) 0)]) (by decide) (ce_hs ad cI cB (V 4)) rfl rfl) rfl hl.1 rfl (Nat.le_of_ble_eq_true rfl) dX7_oil_19 ⟨Nat.zero_le _, Nat.zero_le _⟩ (fun H locs hP hS => ?_)
    refine lv_aload_n hx hb dX7_oil_22 rfl (lv_at hl 0 rfl) ?_
    refine x_get (ci := 5) (fs := [.ref (ad 6), .ref (ad 13), .ref (ad 4), .ref (ad 2), .ref (ad 1), .int (((f_X2_push fu V 0) 0) 0)]) (q := 0) (v := .ref (ad 6)) (N := 6) hx hb hts (fun _ h => List.mem_cons_of_mem _ (List.mem_append_left _ (List.mem_append_left _ (List.mem_append_left _ (List.mem_append_right _ h))))) hown hK hP (by decide) (ce_tb ad cI cB ((f_X2_push fu V 0) 0)) rfl 0 (by decide) (hts (.fieldLink RX7 10 "TurnedBoards" "now" "LTurnedBoards$Board;") (List.mem_of_getElem? (i := 2) rfl)) rfl rfl dX7_oil_23 ?_
    refine x_getN (ci := 0) (fs := [.ref (ad (6 + 7 * 0 + 1)), .ref (ad (6 + 7 * 0 + 3)), .ref (ad (6 + 7 * 0 + 4)), .ref (ad (6 + 7 * 0 + 5)), .ref (ad (6 + 7 * 0 + 6)), .int (((f_X2_push fu V 0) (6 + 7 * 0)) 5), .int (((f_X2_push fu V 0) (6 + 7 * 0)) 6), .int (((f_X2_push fu V 0) (6 + 7 * 0)) 0), .int (((f_X2_push fu V 0) (6 + 7 * 0)) 1), .int (((f_X2_push fu V 0) (6 + 7 * 0)) 2), .int (((f_X2_push fu V 0) (6 + 7 * 0)) 3), .int (((f_X2_push fu V 0) (6 + 7 * 0)) 4)]) (q := (6 + 7 * 0)) (v := .int ((f_X2_push fu V 0) (6 + 7 * 0) 2)) (N := 12) hx hb hts (fun _ h => List.mem_cons_of_mem _ (List.mem_append_left _ (List.mem_append_left _ (List.mem_append_right _ h)))) hown hK hP (by decide) (ce_bd ad cI cB (by decide : 0 < 6) ((f_X2_push fu V 0) (6 + 7 * 0))) rfl 9 (by decide) (hKN.2.1 (.fieldLinkNest RX7 100 "TurnedBoards$Board" "stiffness" "I" "TurnedBoards") (List.mem_of_getElem? (i := 6) rfl)) rfl rfl dX7_oil_26 ?_
    refine lv_istore_n (lv' := [(2, .int ((f_X2_push fu V 0) (6 + 7 * 0) 2)), (0, .ref (ad 0)), (1, .int p1)]) hx hb dX7_oil_29 rfl hl (by decide) rfl (fun ls hl => ?_)
    refine lv_aload_n hx hb dX7_oil_30 rfl (lv_at hl 1 rfl) ?_
    refine x_get (ci := 5) (fs := [.ref (ad 6), .ref (ad 13), .ref (ad 4), .ref (ad 2), .ref (ad 1), .int (((f_X2_push fu V 0) 0) 0)]) (q := 0) (v := .ref (ad 6)) (N := 6) hx hb hts (fun _ h => List.mem_cons_of_mem _ (List.mem_append_left _ (List.mem_append_left _ (List.mem_append_left _ (List.mem_append_right _ h))))) hown hK hP (by decide) (ce_tb ad cI cB ((f_X2_push fu V 0) 0)) rfl 0 (by decide) (hts (.fieldLink RX7 10 "TurnedBoards" "now" "LTurnedBoards$Board;") (List.mem_of_getElem? (i := 2) rfl)) rfl rfl dX7_oil_31 ?_
    refine lv_iload_n hx hb dX7_oil_34 rfl (lv_at hl 2 rfl) ?_
    refine x_putN (ci := 0) (fs := [.ref (ad (6 + 7 * 0 + 1)), .ref (ad (6 + 7 * 0 + 3)), .ref (ad (6 + 7 * 0 + 4)), .ref (ad (6 + 7 * 0 + 5)), .ref (ad (6 + 7 * 0 + 6)), .int (((f_X2_push fu V 0) (6 + 7 * 0)) 5), .int (((f_X2_push fu V 0) (6 + 7 * 0)) 6), .int (((f_X2_push fu V 0) (6 + 7 * 0)) 0), .int (((f_X2_push fu V 0) (6 + 7 * 0)) 1), .int (((f_X2_push fu V 0) (6 + 7 * 0)) 2), .int (((f_X2_push fu V 0) (6 + 7 * 0)) 3), .int (((f_X2_push fu V 0) (6 + 7 * 0)) 4)]) (q := (6 + 7 * 0)) (v := .int p1) (ty := .int) (N := 12) hx hb hts (fun _ h => List.mem_cons_of_mem _ (List.mem_append_left _ (List.mem_append_left _ (List.mem_append_right _ h)))) tyX0 tyX0_ok nmX0 hown hK hP hA hS (by decide) (ce_bd ad cI cB (by decide : 0 < 6) ((f_X2_push fu V 0) (6 + 7 * 0))) rfl 9 (by decide) (hKN.2.1 (.fieldLinkNest RX7 100 "TurnedBoards$Board" "stiffness" "I" "TurnedBoards") (List.mem_of_getElem? (i := 6) rfl)) rfl rfl (by decide +kernel) rfl rfl (Nat.le_of_ble_eq_true rfl) 2 p1 ((ce_bd ad cI cB (by decide : 0 < 6) (upd ((f_X2_push fu V 0) (6 + 7 * 0)) 2 p1)).trans rfl) dX7_oil_35 (fun H locs hP hS => ?_)
    refine lv_iload_n hx hb dX7_oil_38 rfl (lv_at hl 0 rfl) ?_
    exact W.iret (v := ((f_X2_push fu V 0) (6 + 7 * 0) 2)) hx hb hr (fun t ht hW => ⟨⟨((f_X2_push fu V 0) (6 + 7 * 0) 2), (upV (f_X2_push fu V 0) (6 + 7 * 0) 2 p1), rfl, ⟨(congrArg Prod.fst hE).symm, (congrArg Prod.snd hE).symm⟩, by dsimp only; rw [ht]; exact hP⟩, hS.F ht⟩) hS.2.2 dX7_oil_39
  · have hE := hE.trans (if_pos c1)
    refine lv_sipush (v := (-1001)) hx hb dX7_oil_7 (by decide) ?_
    exact W.iret (v := (-1001)) hx hb hr (fun t ht hW => ⟨⟨(-1001), V, rfl, ⟨(congrArg Prod.fst hE).symm, (congrArg Prod.snd hE).symm⟩, by dsimp only; rw [ht]; exact hP⟩, hS.F ht⟩) hS.2.2 dX7_oil_10
def f_X7_pass_l1 (fu : Nat) (p1 : Int32) : Nat → VT → Int32 → Int32 → Int32 × VT
  | 0, V1, x2_1, x3_1 => (0, V1)
  | w1 + 1, V1, x2_1, x3_1 => (if p1 ≤ x3_1 then (x2_1, V1) else (f_X7_pass_l1 fu p1 w1 ((f_X0_fadeOneDay fu V1 0).2) (x2_1 + ((f_X0_fadeOneDay fu V1 0).1)) (x3_1 + 1)))
def p_X7_pass_l1 (fu : Nat) (p1 : Int32) : Nat → VT → Int32 → Int32 → Prop
  | 0, _, _, _ => False
  | w1 + 1, V1, x2_1, x3_1 => ((p1 ≤ x3_1 → True) ∧ (¬ (p1 ≤ x3_1) → ((p_X0_fadeOneDay fu V1 0) ∧ (p_X7_pass_l1 fu p1 w1 ((f_X0_fadeOneDay fu V1 0).2) (x2_1 + ((f_X0_fadeOneDay fu V1 0).1)) (x3_1 + 1)))))
def f_X7_pass (fu : Nat) (V : VT) (p1 : Int32) : Int32 × VT := (if p1 < 1 then ((-1001), V) else (if p1 ≤ 20 then (if ((V (6 + 7 * 0) 3) + p1) ≤ 9999 then (f_X7_pass_l1 fu p1 fu (f_X2_push fu V 0) 0 0) else ((-1003), V)) else ((-1001), V)))
def p_X7_pass (fu : Nat) (V : VT) (p1 : Int32) : Prop := ((p1 < 1 → True) ∧ (¬ (p1 < 1) → ((p1 ≤ 20 → ((((V (6 + 7 * 0) 3) + p1) ≤ 9999 → ((p_X2_push fu V 0) ∧ (p_X7_pass_l1 fu p1 fu (f_X2_push fu V 0) 0 0))) ∧ (¬ (((V (6 + 7 * 0) 3) + p1) ≤ 9999) → True))) ∧ (¬ (p1 ≤ 20) → True))))
set_option maxHeartbeats 4000000 in
set_option maxRecDepth 100000 in
theorem m_X7_pass (l : Launch) (D : va_G) (cI cB : ClassId) (ad : Nat → Nat) {A : Nat → Prop} (hA : adOk ad A) (fu : Nat) (V : VT) (p1 : Int32)  (hp : p_X7_pass fu V p1) : Met l yX7_pass wsX7_pass ({ frames := 4, cells := 0, slots := 0, locals := 86 }) (cP D cI cB ad V [.ref (ad 0), .int p1]) (cWi D cI cB ad A (f_X7_pass fu V p1)) 0 0 A := by
  refine Met.ofW (cc := cX7_pass) (maxL := 4) (ret := (some .int)) (by decide +kernel) rfl ?_
  intro p e s m args below meth c s₁ B hml hv
  obtain ⟨rfl, hP, hKN⟩ := hv
  have hK := hKN.1
  have hx := B.exec
  have hb := B.bytes
  have hr := B.returns
  have hts := atoms_spec (ws := wsX7_pass) B.pre
  have hown : s.vm.findClass RX7 = some m.cls := findClass_of_methodNamed B.named
  have hlocks := B.notSynchronized
  have hS : va_S A s.heap s.heap [] := va_S.rf
  have hl := lv_entry ([.ref (ad 0), .int p1]) (n := 4) (Nat.le_of_ble_eq_true rfl)
  rw [lg_entry_eq]
  generalize (lg_sl ([.ref (ad 0), .int p1]) ++ List.replicate (4 - (lg_sl ([.ref (ad 0), .int p1])).length) Slot.unset).toArray = ls at hl ⊢
  have hl : lv_has ls 4 [(0, .ref (ad 0)), (1, .int p1)] := hl
  have hE : f_X7_pass fu V p1 = (if p1 < 1 then ((-1001), V) else (if p1 ≤ 20 then (if ((V (6 + 7 * 0) 3) + p1) ≤ 9999 then (f_X7_pass_l1 fu p1 fu (f_X2_push fu V 0) 0 0) else ((-1003), V)) else ((-1001), V))) := rfl
  refine lv_iload_n hx hb dX7_pass_0 rfl (lv_at hl 1 rfl) ?_
  refine lv_iconst (v := 1) hx hb dX7_pass_1 (by decide) ?_
  refine lv_icmp_lt (tgt := 11) hx hb dX7_pass_2 (by decide) (fun c1 => ?_) (fun c1 => ?_)
  · have hE := hE.trans (if_pos c1)
    refine lv_sipush (v := (-1001)) hx hb dX7_pass_11 (by decide) ?_
    exact W.iret (v := (-1001)) hx hb hr (fun t ht hW => ⟨⟨(-1001), V, rfl, ⟨(congrArg Prod.fst hE).symm, (congrArg Prod.snd hE).symm⟩, by dsimp only; rw [ht]; exact hP⟩, hS.F ht⟩) hS.2.2 dX7_pass_14
  · have hE := hE.trans (if_neg c1)
    have hp := pc_bn hp c1
    refine lv_iload_n hx hb dX7_pass_5 rfl (lv_at hl 1 rfl) ?_
    refine lv_bipush (v := 20) hx hb dX7_pass_6 (by decide) ?_
    refine lv_icmp_le (tgt := 15) hx hb dX7_pass_8 (by decide) (fun c2 => ?_) (fun c2 => ?_)
    · have hE := hE.trans (if_pos c2)
      have hp := pc_br hp c2
      refine lv_aload_n hx hb dX7_pass_15 rfl (lv_at hl 0 rfl) ?_
      refine x_get (ci := 5) (fs := [.ref (ad 6), .ref (ad 13), .ref (ad 4), .ref (ad 2), .ref (ad 1), .int ((V 0) 0)]) (q := 0) (v := .ref (ad 6)) (N := 6) hx hb hts (fun _ h => List.mem_cons_of_mem _ (List.mem_append_left _ (List.mem_append_left _ (List.mem_append_left _ (List.mem_append_right _ h))))) hown hK hP (by decide) (ce_tb ad cI cB (V 0)) rfl 0 (by decide) (hts (.fieldLink RX7 10 "TurnedBoards" "now" "LTurnedBoards$Board;") (List.mem_of_getElem? (i := 1) rfl)) rfl rfl dX7_pass_16 ?_
      refine x_getN (ci := 0) (fs := [.ref (ad (6 + 7 * 0 + 1)), .ref (ad (6 + 7 * 0 + 3)), .ref (ad (6 + 7 * 0 + 4)), .ref (ad (6 + 7 * 0 + 5)), .ref (ad (6 + 7 * 0 + 6)), .int ((V (6 + 7 * 0)) 5), .int ((V (6 + 7 * 0)) 6), .int ((V (6 + 7 * 0)) 0), .int ((V (6 + 7 * 0)) 1), .int ((V (6 + 7 * 0)) 2), .int ((V (6 + 7 * 0)) 3), .int ((V (6 + 7 * 0)) 4)]) (q := (6 + 7 * 0)) (v := .int (V (6 + 7 * 0) 3)) (N := 12) hx hb hts (fun _ h => List.mem_cons_of_mem _ (List.mem_append_left _ (List.mem_append_left _ (List.mem_append_right _ h)))) hown hK hP (by decide) (ce_bd ad cI cB (by decide : 0 < 6) (V (6 + 7 * 0))) rfl 10 (by decide) (hKN.2.1 (.fieldLinkNest RX7 106 "TurnedBoards$Board" "day" "I" "TurnedBoards") (List.mem_of_getElem? (i := 7) rfl)) rfl rfl dX7_pass_19 ?_
      refine lv_iload_n hx hb dX7_pass_22 rfl (lv_at hl 1 rfl) ?_
      refine lv_iadd hx hb dX7_pass_23 ?_
      refine lv_sipush (v := 9999) hx hb dX7_pass_24 (by decide) ?_
      refine lv_icmp_le (tgt := 34) hx hb dX7_pass_27 (by decide) (fun c3 => ?_) (fun c3 => ?_)
      · have hE := hE.trans (if_pos c3)
        have hp := pc_br hp c3
        refine lv_aload_n hx hb dX7_pass_34 rfl (lv_at hl 0 rfl) ?_
        refine x_get (ci := 5) (fs := [.ref (ad 6), .ref (ad 13), .ref (ad 4), .ref (ad 2), .ref (ad 1), .int ((V 0) 0)]) (q := 0) (v := .ref (ad 4)) (N := 6) hx hb hts (fun _ h => List.mem_cons_of_mem _ (List.mem_append_left _ (List.mem_append_left _ (List.mem_append_left _ (List.mem_append_right _ h))))) hown hK hP (by decide) (ce_tb ad cI cB (V 0)) rfl 2 (by decide) (hts (.fieldLink RX7 22 "TurnedBoards" "history" "LTurnedBoards$History;") (List.mem_of_getElem? (i := 2) rfl)) rfl rfl dX7_pass_35 ?_
        refine lv_aload_n hx hb dX7_pass_38 rfl (lv_at hl 0 rfl) ?_
        refine x_get (ci := 5) (fs := [.ref (ad 6), .ref (ad 13), .ref (ad 4), .ref (ad 2), .ref (ad 1), .int ((V 0) 0)]) (q := 0) (v := .ref (ad 6)) (N := 6) hx hb hts (fun _ h => List.mem_cons_of_mem _ (List.mem_append_left _ (List.mem_append_left _ (List.mem_append_left _ (List.mem_append_right _ h))))) hown hK hP (by decide) (ce_tb ad cI cB (V 0)) rfl 0 (by decide) (hts (.fieldLink RX7 10 "TurnedBoards" "now" "LTurnedBoards$Board;") (List.mem_of_getElem? (i := 1) rfl)) rfl rfl dX7_pass_39 ?_
        obtain ⟨hn1, hp⟩ := hp
        refine k_VWv (As := [.ref (ad 6)]) (rest := []) (q := 4) ⟨hx, hb, hml, hown, hts⟩ hKN hP hS (m_X2_push l D cI cB ad hA fu V 0 (by decide : 0 < 6) hn1) (cwV 1 hts gX7_pass_X2_push rfl rfl rfl (by decide +kernel) ⟨(Nat.le_of_ble_eq_true rfl), (Nat.le_of_ble_eq_true rfl)⟩) (c_preV hP hKN (q := 4) (ci := 2) (fs := [.ref (ad 5), .int ((V 4) 0)]) (by decide) (ce_hs ad cI cB (V 4)) rfl rfl) rfl hl.1 rfl (Nat.le_of_ble_eq_true rfl) dX7_pass_42 ⟨Nat.zero_le _, Nat.zero_le _⟩ (fun H locs hP hS => ?_)
        refine lv_iconst (v := 0) hx hb dX7_pass_45 (by decide) ?_
        refine lv_istore_n (lv' := [(2, .int 0), (0, .ref (ad 0)), (1, .int p1)]) hx hb dX7_pass_46 rfl hl (by decide) rfl (fun ls hl => ?_)
        refine lv_iconst (v := 0) hx hb dX7_pass_47 (by decide) ?_
        refine lv_istore_n (lv' := [(3, .int 0), (2, .int 0), (0, .ref (ad 0)), (1, .int p1)]) hx hb dX7_pass_48 rfl hl (by decide) rfl (fun ls hl => ?_)
        have L1 : ∀ (w1 : Nat) (V1 : VT) (x2_1 : Int32) (x3_1 : Int32), f_X7_pass fu V p1 = f_X7_pass_l1 fu p1 w1 V1 x2_1 x3_1 → p_X7_pass_l1 fu p1 w1 V1 x2_1 x3_1 → ∀ (H : Heap) (locs : List Loc), wP D cI cB ad V1 H → va_S A s.heap H locs → ∀ (ls : Array Slot), lv_has ls 4 [(0, .ref (ad 0)), (1, .int p1), (2, .int x2_1), (3, .int x3_1)] → W p l e (headSpec wsX7_pass ({ frames := 4, cells := 0, slots := 0, locals := 86 })).room s m ([.ref (ad 0), .int p1] : List Value).toArray below meth c H locs 0 0 (MQ below (cWi D cI cB ad A (f_X7_pass fu V p1)) ([.ref (ad 0), .int p1] : List Value).toArray s 0 0 A) (F0 m 49 ls []) := by
          intro w1
          induction w1 with
          | zero => intro V1 x2_1 x3_1 hE hp; exact hp.elim
          | succ w1 ih1 =>
            intro V1 x2_1 x3_1 hE hp H locs hP hS ls hl
            rw [f_X7_pass_l1] at hE
            rw [p_X7_pass_l1] at hp
            refine lv_iload_n hx hb dX7_pass_49 rfl (lv_at hl 3 rfl) ?_
            refine lv_iload_n hx hb dX7_pass_50 rfl (lv_at hl 1 rfl) ?_
            refine lv_icmp_ge (tgt := 70) hx hb dX7_pass_51 (by decide) (fun c4 => ?_) (fun c4 => ?_)
            · have hE := hE.trans (if_pos c4)
              refine lv_iload_n hx hb dX7_pass_70 rfl (lv_at hl 2 rfl) ?_
              exact W.iret (v := x2_1) hx hb hr (fun t ht hW => ⟨⟨x2_1, V1, rfl, ⟨(congrArg Prod.fst hE).symm, (congrArg Prod.snd hE).symm⟩, by dsimp only; rw [ht]; exact hP⟩, hS.F ht⟩) hS.2.2 dX7_pass_71
            · have hE := hE.trans (if_neg c4)
              have hp := pc_bn hp c4
              refine lv_iload_n hx hb dX7_pass_54 rfl (lv_at hl 2 rfl) ?_
              refine lv_aload_n hx hb dX7_pass_55 rfl (lv_at hl 0 rfl) ?_
              refine x_get (ci := 5) (fs := [.ref (ad 6), .ref (ad 13), .ref (ad 4), .ref (ad 2), .ref (ad 1), .int ((V1 0) 0)]) (q := 0) (v := .ref (ad 6)) (N := 6) hx hb hts (fun _ h => List.mem_cons_of_mem _ (List.mem_append_left _ (List.mem_append_left _ (List.mem_append_left _ (List.mem_append_right _ h))))) hown hK hP (by decide) (ce_tb ad cI cB (V1 0)) rfl 0 (by decide) (hts (.fieldLink RX7 10 "TurnedBoards" "now" "LTurnedBoards$Board;") (List.mem_of_getElem? (i := 1) rfl)) rfl rfl dX7_pass_56 ?_
              obtain ⟨hn2, hp⟩ := hp
              refine k_VWi (As := []) (rest := [.int x2_1]) (q := (6 + 7 * 0)) ⟨hx, hb, hml, hown, hts⟩ hKN hP hS (m_X0_fadeOneDay l D cI cB ad hA fu V1 0 (by decide : 0 < 6) hn2) (cwV 0 hts gX7_pass_X0_fadeOneDay rfl rfl rfl (by decide +kernel) ⟨(Nat.le_of_ble_eq_true rfl), (Nat.le_of_ble_eq_true rfl)⟩) (c_preV hP hKN (q := (6 + 7 * 0)) (ci := 0) (fs := [.ref (ad (6 + 7 * 0 + 1)), .ref (ad (6 + 7 * 0 + 3)), .ref (ad (6 + 7 * 0 + 4)), .ref (ad (6 + 7 * 0 + 5)), .ref (ad (6 + 7 * 0 + 6)), .int ((V1 (6 + 7 * 0)) 5), .int ((V1 (6 + 7 * 0)) 6), .int ((V1 (6 + 7 * 0)) 0), .int ((V1 (6 + 7 * 0)) 1), .int ((V1 (6 + 7 * 0)) 2), .int ((V1 (6 + 7 * 0)) 3), .int ((V1 (6 + 7 * 0)) 4)]) (by decide) (ce_bd ad cI cB (by decide : 0 < 6) (V1 (6 + 7 * 0))) rfl rfl) rfl hl.1 rfl (Nat.le_of_ble_eq_true rfl) dX7_pass_59 ⟨Nat.zero_le _, Nat.zero_le _⟩ (fun H locs hP hS => ?_)
              refine lv_iadd hx hb dX7_pass_62 ?_
              refine lv_istore_n (lv' := [(2, .int (x2_1 + ((f_X0_fadeOneDay fu V1 0).1))), (0, .ref (ad 0)), (1, .int p1), (3, .int x3_1)]) hx hb dX7_pass_63 rfl hl (by decide) rfl (fun ls hl => ?_)
              refine lv_iinc (v := (x3_1 + 1)) (lv' := [(3, .int (x3_1 + 1)), (2, .int (x2_1 + ((f_X0_fadeOneDay fu V1 0).1))), (0, .ref (ad 0)), (1, .int p1)]) hx hb dX7_pass_64 hl (k := 3) rfl (by rfl) (by decide) rfl (fun ls hl => ?_)
              refine lv_goto (tgt := 49) hx hb dX7_pass_67 (by decide) ?_
              exact ih1 ((f_X0_fadeOneDay fu V1 0).2) (x2_1 + ((f_X0_fadeOneDay fu V1 0).1)) (x3_1 + 1) hE hp H locs hP hS ls (lv_sub hl [2, 3, 1, 0] rfl)
        exact L1 fu (f_X2_push fu V 0) 0 0 hE hp _ _ hP hS _ (lv_sub hl [2, 3, 1, 0] rfl)
      · have hE := hE.trans (if_neg c3)
        refine lv_sipush (v := (-1003)) hx hb dX7_pass_30 (by decide) ?_
        exact W.iret (v := (-1003)) hx hb hr (fun t ht hW => ⟨⟨(-1003), V, rfl, ⟨(congrArg Prod.fst hE).symm, (congrArg Prod.snd hE).symm⟩, by dsimp only; rw [ht]; exact hP⟩, hS.F ht⟩) hS.2.2 dX7_pass_33
    · have hE := hE.trans (if_neg c2)
      refine lv_sipush (v := (-1001)) hx hb dX7_pass_11 (by decide) ?_
      exact W.iret (v := (-1001)) hx hb hr (fun t ht hW => ⟨⟨(-1001), V, rfl, ⟨(congrArg Prod.fst hE).symm, (congrArg Prod.snd hE).symm⟩, by dsimp only; rw [ht]; exact hP⟩, hS.F ht⟩) hS.2.2 dX7_pass_14
def f_X7_set (fu : Nat) (V : VT) (p1 : Int32) (p2 : Int32) : Int32 × VT := (if (f_X7_isOneOfTwo V p1) = 0 then ((-1001), V) else (if 9 < p2 then ((-1001), V) else (if p1 = 0 then (if 1 ≤ p2 then ((f_X0_setting (f_X2_push fu V 0) 0 p1), (f_X0_changeSetting (f_X2_push fu V 0) 0 p1 p2)) else ((-1001), V)) else (if 0 ≤ p2 then ((f_X0_setting (f_X2_push fu V 0) 0 p1), (f_X0_changeSetting (f_X2_push fu V 0) 0 p1 p2)) else ((-1001), V)))))
def p_X7_set (fu : Nat) (V : VT) (p1 : Int32) (p2 : Int32) : Prop := (((f_X7_isOneOfTwo V p1) = 0 → True) ∧ (¬ ((f_X7_isOneOfTwo V p1) = 0) → ((9 < p2 → True) ∧ (¬ (9 < p2) → ((p1 = 0 → ((1 ≤ p2 → (p_X2_push fu V 0)) ∧ (¬ (1 ≤ p2) → True))) ∧ (¬ (p1 = 0) → ((0 ≤ p2 → (p_X2_push fu V 0)) ∧ (¬ (0 ≤ p2) → True))))))))
set_option maxHeartbeats 4000000 in
set_option maxRecDepth 100000 in
theorem m_X7_set (l : Launch) (D : va_G) (cI cB : ClassId) (ad : Nat → Nat) {A : Nat → Prop} (hA : adOk ad A) (fu : Nat) (V : VT) (p1 : Int32) (p2 : Int32)  (hp : p_X7_set fu V p1 p2) : Met l yX7_set wsX7_set ({ frames := 4, cells := 0, slots := 0, locals := 86 }) (cP D cI cB ad V [.ref (ad 0), .int p1, .int p2]) (cWi D cI cB ad A (f_X7_set fu V p1 p2)) 0 0 A := by
  refine Met.ofW (cc := cX7_set) (maxL := 4) (ret := (some .int)) (by decide +kernel) rfl ?_
  intro p e s m args below meth c s₁ B hml hv
  obtain ⟨rfl, hP, hKN⟩ := hv
  have hK := hKN.1
  have hx := B.exec
  have hb := B.bytes
  have hr := B.returns
  have hts := atoms_spec (ws := wsX7_set) B.pre
  have hown : s.vm.findClass RX7 = some m.cls := findClass_of_methodNamed B.named
  have hlocks := B.notSynchronized
  have hS : va_S A s.heap s.heap [] := va_S.rf
  have hl := lv_entry ([.ref (ad 0), .int p1, .int p2]) (n := 4) (Nat.le_of_ble_eq_true rfl)
  rw [lg_entry_eq]
  generalize (lg_sl ([.ref (ad 0), .int p1, .int p2]) ++ List.replicate (4 - (lg_sl ([.ref (ad 0), .int p1, .int p2])).length) Slot.unset).toArray = ls at hl ⊢
  have hl : lv_has ls 4 [(0, .ref (ad 0)), (1, .int p1), (2, .int p2)] := hl
  have hE : f_X7_set fu V p1 p2 = (if (f_X7_isOneOfTwo V p1) = 0 then ((-1001), V) else (if 9 < p2 then ((-1001), V) else (if p1 = 0 then (if 1 ≤ p2 then ((f_X0_setting (f_X2_push fu V 0) 0 p1), (f_X0_changeSetting (f_X2_push fu V 0) 0 p1 p2)) else ((-1001), V)) else (if 0 ≤ p2 then ((f_X0_setting (f_X2_push fu V 0) 0 p1), (f_X0_changeSetting (f_X2_push fu V 0) 0 p1 p2)) else ((-1001), V))))) := rfl
  refine lv_iload_n hx hb dX7_set_0 rfl (lv_at hl 1 rfl) ?_
  refine k_SR (As := [.int p1]) (rest := []) ⟨hx, hb, hml, hown, hts⟩ hKN hP hS (m_X7_isOneOfTwo l D cI cB ad V p1) (va_cwS 1 hts gX7_set_X7_isOneOfTwo rfl rfl rfl (by decide +kernel) ⟨(Nat.le_of_ble_eq_true rfl), (Nat.le_of_ble_eq_true rfl)⟩) rfl hl.1 rfl (Nat.le_of_ble_eq_true rfl) dX7_set_1 ⟨Nat.zero_le _, Nat.zero_le _⟩ (fun H locs hP hS => ?_)
  refine lv_if_eq (tgt := 26) hx hb dX7_set_4 (by decide) (fun c1 => ?_) (fun c1 => ?_)
  · have hE := hE.trans (if_pos c1)
    refine lv_sipush (v := (-1001)) hx hb dX7_set_26 (by decide) ?_
    exact W.iret (v := (-1001)) hx hb hr (fun t ht hW => ⟨⟨(-1001), V, rfl, ⟨(congrArg Prod.fst hE).symm, (congrArg Prod.snd hE).symm⟩, by dsimp only; rw [ht]; exact hP⟩, hS.F ht⟩) hS.2.2 dX7_set_29
  · have hE := hE.trans (if_neg c1)
    have hp := pc_bn hp c1
    refine lv_iload_n hx hb dX7_set_7 rfl (lv_at hl 2 rfl) ?_
    refine lv_bipush (v := 9) hx hb dX7_set_8 (by decide) ?_
    refine lv_icmp_gt (tgt := 26) hx hb dX7_set_10 (by decide) (fun c2 => ?_) (fun c2 => ?_)
    · have hE := hE.trans (if_pos c2)
      refine lv_sipush (v := (-1001)) hx hb dX7_set_26 (by decide) ?_
      exact W.iret (v := (-1001)) hx hb hr (fun t ht hW => ⟨⟨(-1001), V, rfl, ⟨(congrArg Prod.fst hE).symm, (congrArg Prod.snd hE).symm⟩, by dsimp only; rw [ht]; exact hP⟩, hS.F ht⟩) hS.2.2 dX7_set_29
    · have hE := hE.trans (if_neg c2)
      have hp := pc_bn hp c2
      refine lv_iload_n hx hb dX7_set_13 rfl (lv_at hl 2 rfl) ?_
      refine lv_iload_n hx hb dX7_set_14 rfl (lv_at hl 1 rfl) ?_
      refine lv_if_ne (tgt := 22) hx hb dX7_set_15 (by decide) (fun c3 => ?_) (fun c3 => ?_)
      · have hE := hE.trans (if_neg c3)
        have hp := pc_bn hp c3
        refine lv_iconst (v := 0) hx hb dX7_set_22 (by decide) ?_
        refine lv_icmp_ge (tgt := 30) hx hb dX7_set_23 (by decide) (fun c5 => ?_) (fun c5 => ?_)
        · have hE := hE.trans (if_pos c5)
          have hp := pc_br hp c5
          refine lv_aload_n hx hb dX7_set_30 rfl (lv_at hl 0 rfl) ?_
          refine x_get (ci := 5) (fs := [.ref (ad 6), .ref (ad 13), .ref (ad 4), .ref (ad 2), .ref (ad 1), .int ((V 0) 0)]) (q := 0) (v := .ref (ad 4)) (N := 6) hx hb hts (fun _ h => List.mem_cons_of_mem _ (List.mem_append_left _ (List.mem_append_left _ (List.mem_append_left _ (List.mem_append_right _ h))))) hown hK hP (by decide) (ce_tb ad cI cB (V 0)) rfl 2 (by decide) (hts (.fieldLink RX7 22 "TurnedBoards" "history" "LTurnedBoards$History;") (List.mem_of_getElem? (i := 1) rfl)) rfl rfl dX7_set_31 ?_
          refine lv_aload_n hx hb dX7_set_34 rfl (lv_at hl 0 rfl) ?_
          refine x_get (ci := 5) (fs := [.ref (ad 6), .ref (ad 13), .ref (ad 4), .ref (ad 2), .ref (ad 1), .int ((V 0) 0)]) (q := 0) (v := .ref (ad 6)) (N := 6) hx hb hts (fun _ h => List.mem_cons_of_mem _ (List.mem_append_left _ (List.mem_append_left _ (List.mem_append_left _ (List.mem_append_right _ h))))) hown hK hP (by decide) (ce_tb ad cI cB (V 0)) rfl 0 (by decide) (hts (.fieldLink RX7 10 "TurnedBoards" "now" "LTurnedBoards$Board;") (List.mem_of_getElem? (i := 2) rfl)) rfl rfl dX7_set_35 ?_
          have hn2 := hp
          refine k_VWv (As := [.ref (ad 6)]) (rest := []) (q := 4) ⟨hx, hb, hml, hown, hts⟩ hKN hP hS (m_X2_push l D cI cB ad hA fu V 0 (by decide : 0 < 6) hn2) (cwV 1 hts gX7_set_X2_push rfl rfl rfl (by decide +kernel) ⟨(Nat.le_of_ble_eq_true rfl), (Nat.le_of_ble_eq_true rfl)⟩) (c_preV hP hKN (q := 4) (ci := 2) (fs := [.ref (ad 5), .int ((V 4) 0)]) (by decide) (ce_hs ad cI cB (V 4)) rfl rfl) rfl hl.1 rfl (Nat.le_of_ble_eq_true rfl) dX7_set_38 ⟨Nat.zero_le _, Nat.zero_le _⟩ (fun H locs hP hS => ?_)
          refine lv_aload_n hx hb dX7_set_41 rfl (lv_at hl 0 rfl) ?_
          refine x_get (ci := 5) (fs := [.ref (ad 6), .ref (ad 13), .ref (ad 4), .ref (ad 2), .ref (ad 1), .int (((f_X2_push fu V 0) 0) 0)]) (q := 0) (v := .ref (ad 6)) (N := 6) hx hb hts (fun _ h => List.mem_cons_of_mem _ (List.mem_append_left _ (List.mem_append_left _ (List.mem_append_left _ (List.mem_append_right _ h))))) hown hK hP (by decide) (ce_tb ad cI cB ((f_X2_push fu V 0) 0)) rfl 0 (by decide) (hts (.fieldLink RX7 10 "TurnedBoards" "now" "LTurnedBoards$Board;") (List.mem_of_getElem? (i := 2) rfl)) rfl rfl dX7_set_42 ?_
          refine lv_iload_n hx hb dX7_set_45 rfl (lv_at hl 1 rfl) ?_
          refine k_VR (As := [.int p1]) (rest := []) (q := (6 + 7 * 0)) ⟨hx, hb, hml, hown, hts⟩ hKN hP hS (m_X0_setting l D cI cB ad (f_X2_push fu V 0) 0 p1 (by decide : 0 < 6)) (cwV 1 hts gX7_set_X0_setting rfl rfl rfl (by decide +kernel) ⟨(Nat.le_of_ble_eq_true rfl), (Nat.le_of_ble_eq_true rfl)⟩) (c_preV hP hKN (q := (6 + 7 * 0)) (ci := 0) (fs := [.ref (ad (6 + 7 * 0 + 1)), .ref (ad (6 + 7 * 0 + 3)), .ref (ad (6 + 7 * 0 + 4)), .ref (ad (6 + 7 * 0 + 5)), .ref (ad (6 + 7 * 0 + 6)), .int (((f_X2_push fu V 0) (6 + 7 * 0)) 5), .int (((f_X2_push fu V 0) (6 + 7 * 0)) 6), .int (((f_X2_push fu V 0) (6 + 7 * 0)) 0), .int (((f_X2_push fu V 0) (6 + 7 * 0)) 1), .int (((f_X2_push fu V 0) (6 + 7 * 0)) 2), .int (((f_X2_push fu V 0) (6 + 7 * 0)) 3), .int (((f_X2_push fu V 0) (6 + 7 * 0)) 4)]) (by decide) (ce_bd ad cI cB (by decide : 0 < 6) ((f_X2_push fu V 0) (6 + 7 * 0))) rfl rfl) rfl hl.1 rfl (Nat.le_of_ble_eq_true rfl) dX7_set_46 ⟨Nat.zero_le _, Nat.zero_le _⟩ (fun H locs hP hS => ?_)
          refine lv_istore_n (lv' := [(3, .int (f_X0_setting (f_X2_push fu V 0) 0 p1)), (0, .ref (ad 0)), (1, .int p1), (2, .int p2)]) hx hb dX7_set_49 rfl hl (by decide) rfl (fun ls hl => ?_)
          refine lv_aload_n hx hb dX7_set_50 rfl (lv_at hl 1 rfl) ?_
          refine x_get (ci := 5) (fs := [.ref (ad 6), .ref (ad 13), .ref (ad 4), .ref (ad 2), .ref (ad 1), .int (((f_X2_push fu V 0) 0) 0)]) (q := 0) (v := .ref (ad 6)) (N := 6) hx hb hts (fun _ h => List.mem_cons_of_mem _ (List.mem_append_left _ (List.mem_append_left _ (List.mem_append_left _ (List.mem_append_right _ h))))) hown hK hP (by decide) (ce_tb ad cI cB ((f_X2_push fu V 0) 0)) rfl 0 (by decide) (hts (.fieldLink RX7 10 "TurnedBoards" "now" "LTurnedBoards$Board;") (List.mem_of_getElem? (i := 2) rfl)) rfl rfl dX7_set_51 ?_
          refine lv_iload_n hx hb dX7_set_54 rfl (lv_at hl 2 rfl) ?_
          refine lv_iload_n hx hb dX7_set_55 rfl (lv_at hl 3 rfl) ?_
          refine k_VWv (As := [.int p1, .int p2]) (rest := []) (q := (6 + 7 * 0)) ⟨hx, hb, hml, hown, hts⟩ hKN hP hS (m_X0_changeSetting l D cI cB ad hA (f_X2_push fu V 0) 0 p1 p2 (by decide : 0 < 6)) (cwV 2 hts gX7_set_X0_changeSetting rfl rfl rfl (by decide +kernel) ⟨(Nat.le_of_ble_eq_true rfl), (Nat.le_of_ble_eq_true rfl)⟩) (c_preV hP hKN (q := (6 + 7 * 0)) (ci := 0) (fs := [.ref (ad (6 + 7 * 0 + 1)), .ref (ad (6 + 7 * 0 + 3)), .ref (ad (6 + 7 * 0 + 4)), .ref (ad (6 + 7 * 0 + 5)), .ref (ad (6 + 7 * 0 + 6)), .int (((f_X2_push fu V 0) (6 + 7 * 0)) 5), .int (((f_X2_push fu V 0) (6 + 7 * 0)) 6), .int (((f_X2_push fu V 0) (6 + 7 * 0)) 0), .int (((f_X2_push fu V 0) (6 + 7 * 0)) 1), .int (((f_X2_push fu V 0) (6 + 7 * 0)) 2), .int (((f_X2_push fu V 0) (6 + 7 * 0)) 3), .int (((f_X2_push fu V 0) (6 + 7 * 0)) 4)]) (by decide) (ce_bd ad cI cB (by decide : 0 < 6) ((f_X2_push fu V 0) (6 + 7 * 0))) rfl rfl) rfl hl.1 rfl (Nat.le_of_ble_eq_true rfl) dX7_set_56 ⟨Nat.zero_le _, Nat.zero_le _⟩ (fun H locs hP hS => ?_)
          refine lv_iload_n hx hb dX7_set_59 rfl (lv_at hl 0 rfl) ?_
          exact W.iret (v := (f_X0_setting (f_X2_push fu V 0) 0 p1)) hx hb hr (fun t ht hW => ⟨⟨(f_X0_setting (f_X2_push fu V 0) 0 p1), (f_X0_changeSetting (f_X2_push fu V 0) 0 p1 p2), rfl, ⟨(congrArg Prod.fst hE).symm, (congrArg Prod.snd hE).symm⟩, by dsimp only; rw [ht]; exact hP⟩, hS.F ht⟩) hS.2.2 dX7_set_60
        · have hE := hE.trans (if_neg c5)
          refine lv_sipush (v := (-1001)) hx hb dX7_set_26 (by decide) ?_
          exact W.iret (v := (-1001)) hx hb hr (fun t ht hW => ⟨⟨(-1001), V, rfl, ⟨(congrArg Prod.fst hE).symm, (congrArg Prod.snd hE).symm⟩, by dsimp only; rw [ht]; exact hP⟩, hS.F ht⟩) hS.2.2 dX7_set_29
      · have hE := hE.trans (if_pos c3)
        have hp := pc_br hp c3
        refine lv_iconst (v := 1) hx hb dX7_set_18 (by decide) ?_
        refine lv_goto (tgt := 23) hx hb dX7_set_19 (by decide) ?_
        refine lv_icmp_ge (tgt := 30) hx hb dX7_set_23 (by decide) (fun c4 => ?_) (fun c4 => ?_)
        · have hE := hE.trans (if_pos c4)
          have hp := pc_br hp c4
          refine lv_aload_n hx hb dX7_set_30 rfl (lv_at hl 0 rfl) ?_
          refine x_get (ci := 5) (fs := [.ref (ad 6), .ref (ad 13), .ref (ad 4), .ref (ad 2), .ref (ad 1), .int ((V 0) 0)]) (q := 0) (v := .ref (ad 4)) (N := 6) hx hb hts (fun _ h => List.mem_cons_of_mem _ (List.mem_append_left _ (List.mem_append_left _ (List.mem_append_left _ (List.mem_append_right _ h))))) hown hK hP (by decide) (ce_tb ad cI cB (V 0)) rfl 2 (by decide) (hts (.fieldLink RX7 22 "TurnedBoards" "history" "LTurnedBoards$History;") (List.mem_of_getElem? (i := 1) rfl)) rfl rfl dX7_set_31 ?_
          refine lv_aload_n hx hb dX7_set_34 rfl (lv_at hl 0 rfl) ?_
          refine x_get (ci := 5) (fs := [.ref (ad 6), .ref (ad 13), .ref (ad 4), .ref (ad 2), .ref (ad 1), .int ((V 0) 0)]) (q := 0) (v := .ref (ad 6)) (N := 6) hx hb hts (fun _ h => List.mem_cons_of_mem _ (List.mem_append_left _ (List.mem_append_left _ (List.mem_append_left _ (List.mem_append_right _ h))))) hown hK hP (by decide) (ce_tb ad cI cB (V 0)) rfl 0 (by decide) (hts (.fieldLink RX7 10 "TurnedBoards" "now" "LTurnedBoards$Board;") (List.mem_of_getElem? (i := 2) rfl)) rfl rfl dX7_set_35 ?_
          have hn1 := hp
          refine k_VWv (As := [.ref (ad 6)]) (rest := []) (q := 4) ⟨hx, hb, hml, hown, hts⟩ hKN hP hS (m_X2_push l D cI cB ad hA fu V 0 (by decide : 0 < 6) hn1) (cwV 1 hts gX7_set_X2_push rfl rfl rfl (by decide +kernel) ⟨(Nat.le_of_ble_eq_true rfl), (Nat.le_of_ble_eq_true rfl)⟩) (c_preV hP hKN (q := 4) (ci := 2) (fs := [.ref (ad 5), .int ((V 4) 0)]) (by decide) (ce_hs ad cI cB (V 4)) rfl rfl) rfl hl.1 rfl (Nat.le_of_ble_eq_true rfl) dX7_set_38 ⟨Nat.zero_le _, Nat.zero_le _⟩ (fun H locs hP hS => ?_)
          refine lv_aload_n hx hb dX7_set_41 rfl (lv_at hl 0 rfl) ?_
          refine x_get (ci := 5) (fs := [.ref (ad 6), .ref (ad 13), .ref (ad 4), .ref (ad 2), .ref (ad 1), .int (((f_X2_push fu V 0) 0) 0)]) (q := 0) (v := .ref (ad 6)) (N := 6) hx hb hts (fun _ h => List.mem_cons_of_mem _ (List.mem_append_left _ (List.mem_append_left _ (List.mem_append_left _ (List.mem_append_right _ h))))) hown hK hP (by decide) (ce_tb ad cI cB ((f_X2_push fu V 0) 0)) rfl 0 (by decide) (hts (.fieldLink RX7 10 "TurnedBoards" "now" "LTurnedBoards$Board;") (List.mem_of_getElem? (i := 2) rfl)) rfl rfl dX7_set_42 ?_
          refine lv_iload_n hx hb dX7_set_45 rfl (lv_at hl 1 rfl) ?_
          refine k_VR (As := [.int p1]) (rest := []) (q := (6 + 7 * 0)) ⟨hx, hb, hml, hown, hts⟩ hKN hP hS (m_X0_setting l D cI cB ad (f_X2_push fu V 0) 0 p1 (by decide : 0 < 6)) (cwV 1 hts gX7_set_X0_setting rfl rfl rfl (by decide +kernel) ⟨(Nat.le_of_ble_eq_true rfl), (Nat.le_of_ble_eq_true rfl)⟩) (c_preV hP hKN (q := (6 + 7 * 0)) (ci := 0) (fs := [.ref (ad (6 + 7 * 0 + 1)), .ref (ad (6 + 7 * 0 + 3)), .ref (ad (6 + 7 * 0 + 4)), .ref (ad (6 + 7 * 0 + 5)), .ref (ad (6 + 7 * 0 + 6)), .int (((f_X2_push fu V 0) (6 + 7 * 0)) 5), .int (((f_X2_push fu V 0) (6 + 7 * 0)) 6), .int (((f_X2_push fu V 0) (6 + 7 * 0)) 0), .int (((f_X2_push fu V 0) (6 + 7 * 0)) 1), .int (((f_X2_push fu V 0) (6 + 7 * 0)) 2), .int (((f_X2_push fu V 0) (6 + 7 * 0)) 3), .int (((f_X2_push fu V 0) (6 + 7 * 0)) 4)]) (by decide) (ce_bd ad cI cB (by decide : 0 < 6) ((f_X2_push fu V 0) (6 + 7 * 0))) rfl rfl) rfl hl.1 rfl (Nat.le_of_ble_eq_true rfl) dX7_set_46 ⟨Nat.zero_le _, Nat.zero_le _⟩ (fun H locs hP hS => ?_)
          refine lv_istore_n (lv' := [(3, .int (f_X0_setting (f_X2_push fu V 0) 0 p1)), (0, .ref (ad 0)), (1, .int p1), (2, .int p2)]) hx hb dX7_set_49 rfl hl (by decide) rfl (fun ls hl => ?_)
          refine lv_aload_n hx hb dX7_set_50 rfl (lv_at hl 1 rfl) ?_
          refine x_get (ci := 5) (fs := [.ref (ad 6), .ref (ad 13), .ref (ad 4), .ref (ad 2), .ref (ad 1), .int (((f_X2_push fu V 0) 0) 0)]) (q := 0) (v := .ref (ad 6)) (N := 6) hx hb hts (fun _ h => List.mem_cons_of_mem _ (List.mem_append_left _ (List.mem_append_left _ (List.mem_append_left _ (List.mem_append_right _ h))))) hown hK hP (by decide) (ce_tb ad cI cB ((f_X2_push fu V 0) 0)) rfl 0 (by decide) (hts (.fieldLink RX7 10 "TurnedBoards" "now" "LTurnedBoards$Board;") (List.mem_of_getElem? (i := 2) rfl)) rfl rfl dX7_set_51 ?_
          refine lv_iload_n hx hb dX7_set_54 rfl (lv_at hl 2 rfl) ?_
          refine lv_iload_n hx hb dX7_set_55 rfl (lv_at hl 3 rfl) ?_
          refine k_VWv (As := [.int p1, .int p2]) (rest := []) (q := (6 + 7 * 0)) ⟨hx, hb, hml, hown, hts⟩ hKN hP hS (m_X0_changeSetting l D cI cB ad hA (f_X2_push fu V 0) 0 p1 p2 (by decide : 0 < 6)) (cwV 2 hts gX7_set_X0_changeSetting rfl rfl rfl (by decide +kernel) ⟨(Nat.le_of_ble_eq_true rfl), (Nat.le_of_ble_eq_true rfl)⟩) (c_preV hP hKN (q := (6 + 7 * 0)) (ci := 0) (fs := [.ref (ad (6 + 7 * 0 + 1)), .ref (ad (6 + 7 * 0 + 3)), .ref (ad (6 + 7 * 0 + 4)), .ref (ad (6 + 7 * 0 + 5)), .ref (ad (6 + 7 * 0 + 6)), .int (((f_X2_push fu V 0) (6 + 7 * 0)) 5), .int (((f_X2_push fu V 0) (6 + 7 * 0)) 6), .int (((f_X2_push fu V 0) (6 + 7 * 0)) 0), .int (((f_X2_push fu V 0) (6 + 7 * 0)) 1), .int (((f_X2_push fu V 0) (6 + 7 * 0)) 2), .int (((f_X2_push fu V 0) (6 + 7 * 0)) 3), .int (((f_X2_push fu V 0) (6 + 7 * 0)) 4)]) (by decide) (ce_bd ad cI cB (by decide : 0 < 6) ((f_X2_push fu V 0) (6 + 7 * 0))) rfl rfl) rfl hl.1 rfl (Nat.le_of_ble_eq_true rfl) dX7_set_56 ⟨Nat.zero_le _, Nat.zero_le _⟩ (fun H locs hP hS => ?_)
          refine lv_iload_n hx hb dX7_set_59 rfl (lv_at hl 0 rfl) ?_
          exact W.iret (v := (f_X0_setting (f_X2_push fu V 0) 0 p1)) hx hb hr (fun t ht hW => ⟨⟨(f_X0_setting (f_X2_push fu V 0) 0 p1), (f_X0_changeSetting (f_X2_push fu V 0) 0 p1 p2), rfl, ⟨(congrArg Prod.fst hE).symm, (congrArg Prod.snd hE).symm⟩, by dsimp only; rw [ht]; exact hP⟩, hS.F ht⟩) hS.2.2 dX7_set_60
        · have hE := hE.trans (if_neg c4)
          refine lv_sipush (v := (-1001)) hx hb dX7_set_26 (by decide) ?_
          exact W.iret (v := (-1001)) hx hb hr (fun t ht hW => ⟨⟨(-1001), V, rfl, ⟨(congrArg Prod.fst hE).symm, (congrArg Prod.snd hE).symm⟩, by dsimp only; rw [ht]; exact hP⟩, hS.F ht⟩) hS.2.2 dX7_set_29
