/-! contracts by program (wip/whole/gen): f_ what a method answers or makes of the table, p_ what it needs, m_ the contract -/
def f_X0_hasPlace (V : VT) (j : Nat) (p1 : Int32) : Int32 := (if p1 < 0 then 0 else (if (V (6 + 7 * j) 0) ≤ p1 then 0 else 1))
set_option maxHeartbeats 4000000 in
set_option maxRecDepth 100000 in
theorem m_X0_hasPlace (l : Launch) (D : va_G) (cI cB : ClassId) (ad : Nat → Nat) (V : VT) (j : Nat) (p1 : Int32) (hj : j < 6) : Met l yX0_hasPlace wsX0_hasPlace ({ frames := 0, cells := 0, slots := 0, locals := 0 }) (cP D cI cB ad V [.ref (ad (6 + 7 * j)), .int p1]) (cR (f_X0_hasPlace V j p1)) 0 0 (fun _ => False) := by
  refine Met.ofW (cc := cX0_hasPlace) (maxL := 2) (ret := (some .boolean)) (by decide +kernel) rfl ?_
  intro p e s m args below meth c s₁ B hml hv
  obtain ⟨rfl, hP, hKN⟩ := hv
  have hK := hKN.1
  have hx := B.exec
  have hb := B.bytes
  have hr := B.returns
  have hts := atoms_spec (ws := wsX0_hasPlace) B.pre
  have hown : s.vm.findClass RX0 = some m.cls := findClass_of_methodNamed B.named
  have hlocks := B.notSynchronized
  have hS : va_S (fun _ => False) s.heap s.heap [] := va_S.rf
  have hl := lv_entry ([.ref (ad (6 + 7 * j)), .int p1]) (n := 2) (Nat.le_of_ble_eq_true rfl)
  rw [lg_entry_eq]
  generalize (lg_sl ([.ref (ad (6 + 7 * j)), .int p1]) ++ List.replicate (2 - (lg_sl ([.ref (ad (6 + 7 * j)), .int p1])).length) Slot.unset).toArray = ls at hl ⊢
  have hl : lv_has ls 2 [(0, .ref (ad (6 + 7 * j))), (1, .int p1)] := hl
  have hE : f_X0_hasPlace V j p1 = (if p1 < 0 then 0 else (if (V (6 + 7 * j) 0) ≤ p1 then 0 else 1)) := rfl
  refine lv_iload_n hx hb dX0_hasPlace_0 rfl (lv_at hl 1 rfl) ?_
  refine lv_if_lt (tgt := 16) hx hb dX0_hasPlace_1 (by decide) (fun c1 => ?_) (fun c1 => ?_)
  · have hE := hE.trans (if_pos c1)
    refine lv_iconst (v := 0) hx hb dX0_hasPlace_16 (by decide) ?_
    exact W.zret (v := 0) hx hb hr rfl (fun t ht hW => ⟨⟨0, (), rfl, hE.symm, trivial⟩, hS.F ht⟩) hS.2.2 dX0_hasPlace_17
  · have hE := hE.trans (if_neg c1)
    refine lv_iload_n hx hb dX0_hasPlace_4 rfl (lv_at hl 1 rfl) ?_
    refine lv_aload_n hx hb dX0_hasPlace_5 rfl (lv_at hl 0 rfl) ?_
    refine x_get (ci := 0) (fs := [.ref (ad (6 + 7 * j + 1)), .ref (ad (6 + 7 * j + 3)), .ref (ad (6 + 7 * j + 4)), .ref (ad (6 + 7 * j + 5)), .ref (ad (6 + 7 * j + 6)), .int ((V (6 + 7 * j)) 5), .int ((V (6 + 7 * j)) 6), .int ((V (6 + 7 * j)) 0), .int ((V (6 + 7 * j)) 1), .int ((V (6 + 7 * j)) 2), .int ((V (6 + 7 * j)) 3), .int ((V (6 + 7 * j)) 4)]) (q := (6 + 7 * j)) (v := .int (V (6 + 7 * j) 0)) (N := 12) hx hb hts (fun _ h => List.mem_cons_of_mem _ (List.mem_append_right _ h)) hown hK hP (by have := hj; omega) (ce_bd ad cI cB hj (V (6 + 7 * j))) rfl 7 (by decide) (hts (.fieldLink RX0 38 "TurnedBoards$Board" "places" "I") (List.mem_of_getElem? (i := 1) rfl)) rfl rfl dX0_hasPlace_6 ?_
    refine lv_icmp_ge (tgt := 16) hx hb dX0_hasPlace_9 (by decide) (fun c2 => ?_) (fun c2 => ?_)
    · have hE := hE.trans (if_pos c2)
      refine lv_iconst (v := 0) hx hb dX0_hasPlace_16 (by decide) ?_
      exact W.zret (v := 0) hx hb hr rfl (fun t ht hW => ⟨⟨0, (), rfl, hE.symm, trivial⟩, hS.F ht⟩) hS.2.2 dX0_hasPlace_17
    · have hE := hE.trans (if_neg c2)
      refine lv_iconst (v := 1) hx hb dX0_hasPlace_12 (by decide) ?_
      refine lv_goto (tgt := 17) hx hb dX0_hasPlace_13 (by decide) ?_
      exact W.zret (v := 1) hx hb hr rfl (fun t ht hW => ⟨⟨1, (), rfl, hE.symm, trivial⟩, hS.F ht⟩) hS.2.2 dX0_hasPlace_17
def f_X0_signAt (V : VT) (j : Nat) (p1 : Int32) : Int32 := (f_X4_at V (6 + 7 * j + 3) 8 p1)
set_option maxHeartbeats 4000000 in
set_option maxRecDepth 100000 in
theorem m_X0_signAt (l : Launch) (D : va_G) (cI cB : ClassId) (ad : Nat → Nat) (V : VT) (j : Nat) (p1 : Int32) (hj : j < 6) : Met l yX0_signAt wsX0_signAt ({ frames := 1, cells := 0, slots := 0, locals := 21 }) (cP D cI cB ad V [.ref (ad (6 + 7 * j)), .int p1]) (cR (f_X0_signAt V j p1)) 0 0 (fun _ => False) := by
  refine Met.ofW (cc := cX0_signAt) (maxL := 2) (ret := (some .int)) (by decide +kernel) rfl ?_
  intro p e s m args below meth c s₁ B hml hv
  obtain ⟨rfl, hP, hKN⟩ := hv
  have hK := hKN.1
  have hx := B.exec
  have hb := B.bytes
  have hr := B.returns
  have hts := atoms_spec (ws := wsX0_signAt) B.pre
  have hown : s.vm.findClass RX0 = some m.cls := findClass_of_methodNamed B.named
  have hlocks := B.notSynchronized
  have hS : va_S (fun _ => False) s.heap s.heap [] := va_S.rf
  have hl := lv_entry ([.ref (ad (6 + 7 * j)), .int p1]) (n := 2) (Nat.le_of_ble_eq_true rfl)
  rw [lg_entry_eq]
  generalize (lg_sl ([.ref (ad (6 + 7 * j)), .int p1]) ++ List.replicate (2 - (lg_sl ([.ref (ad (6 + 7 * j)), .int p1])).length) Slot.unset).toArray = ls at hl ⊢
  have hl : lv_has ls 2 [(0, .ref (ad (6 + 7 * j))), (1, .int p1)] := hl
  have hE : f_X0_signAt V j p1 = (f_X4_at V (6 + 7 * j + 3) 8 p1) := rfl
  refine lv_aload_n hx hb dX0_signAt_0 rfl (lv_at hl 0 rfl) ?_
  refine x_get (ci := 0) (fs := [.ref (ad (6 + 7 * j + 1)), .ref (ad (6 + 7 * j + 3)), .ref (ad (6 + 7 * j + 4)), .ref (ad (6 + 7 * j + 5)), .ref (ad (6 + 7 * j + 6)), .int ((V (6 + 7 * j)) 5), .int ((V (6 + 7 * j)) 6), .int ((V (6 + 7 * j)) 0), .int ((V (6 + 7 * j)) 1), .int ((V (6 + 7 * j)) 2), .int ((V (6 + 7 * j)) 3), .int ((V (6 + 7 * j)) 4)]) (q := (6 + 7 * j)) (v := .ref (ad (6 + 7 * j + 3))) (N := 12) hx hb hts (fun _ h => List.mem_cons_of_mem _ (List.mem_append_right _ h)) hown hK hP (by have := hj; omega) (ce_bd ad cI cB hj (V (6 + 7 * j))) rfl 1 (by decide) (hts (.fieldLink RX0 18 "TurnedBoards$Board" "signs" "[I") (List.mem_of_getElem? (i := 1) rfl)) rfl rfl dX0_signAt_1 ?_
  refine lv_iload_n hx hb dX0_signAt_4 rfl (lv_at hl 1 rfl) ?_
  refine k_SR (As := [.ref (ad (6 + 7 * j + 3)), .int p1]) (rest := []) ⟨hx, hb, hml, hown, hts⟩ hKN hP hS (m_X4_at l D cI cB 54 (cellOf ad cI cB) ad V (6 + 7 * j + 3) 8 p1 (rw_bd ad cI cB (j := j) (r := 3) hj (by decide) (fun _ => rfl))) (va_cwS 2 hts gX0_signAt_X4_at rfl rfl rfl (by decide +kernel) ⟨(Nat.le_of_ble_eq_true rfl), (Nat.le_of_ble_eq_true rfl)⟩) rfl hl.1 rfl (Nat.le_of_ble_eq_true rfl) dX0_signAt_5 ⟨Nat.zero_le _, Nat.zero_le _⟩ (fun H locs hP hS => ?_)
  exact W.iret (v := (f_X4_at V (6 + 7 * j + 3) 8 p1)) hx hb hr (fun t ht hW => ⟨⟨(f_X4_at V (6 + 7 * j + 3) 8 p1), (), rfl, hE.symm, trivial⟩, hS.F ht⟩) hS.2.2 dX0_signAt_8
def f_X0_coatsAt (V : VT) (j : Nat) (p1 : Int32) : Int32 := (f_X4_at V (6 + 7 * j + 4) 8 p1)
set_option maxHeartbeats 4000000 in
set_option maxRecDepth 100000 in
theorem m_X0_coatsAt (l : Launch) (D : va_G) (cI cB : ClassId) (ad : Nat → Nat) (V : VT) (j : Nat) (p1 : Int32) (hj : j < 6) : Met l yX0_coatsAt wsX0_coatsAt ({ frames := 1, cells := 0, slots := 0, locals := 21 }) (cP D cI cB ad V [.ref (ad (6 + 7 * j)), .int p1]) (cR (f_X0_coatsAt V j p1)) 0 0 (fun _ => False) := by
  refine Met.ofW (cc := cX0_coatsAt) (maxL := 2) (ret := (some .int)) (by decide +kernel) rfl ?_
  intro p e s m args below meth c s₁ B hml hv
  obtain ⟨rfl, hP, hKN⟩ := hv
  have hK := hKN.1
  have hx := B.exec
  have hb := B.bytes
  have hr := B.returns
  have hts := atoms_spec (ws := wsX0_coatsAt) B.pre
  have hown : s.vm.findClass RX0 = some m.cls := findClass_of_methodNamed B.named
  have hlocks := B.notSynchronized
  have hS : va_S (fun _ => False) s.heap s.heap [] := va_S.rf
  have hl := lv_entry ([.ref (ad (6 + 7 * j)), .int p1]) (n := 2) (Nat.le_of_ble_eq_true rfl)
  rw [lg_entry_eq]
  generalize (lg_sl ([.ref (ad (6 + 7 * j)), .int p1]) ++ List.replicate (2 - (lg_sl ([.ref (ad (6 + 7 * j)), .int p1])).length) Slot.unset).toArray = ls at hl ⊢
  have hl : lv_has ls 2 [(0, .ref (ad (6 + 7 * j))), (1, .int p1)] := hl
  have hE : f_X0_coatsAt V j p1 = (f_X4_at V (6 + 7 * j + 4) 8 p1) := rfl
  refine lv_aload_n hx hb dX0_coatsAt_0 rfl (lv_at hl 0 rfl) ?_
  refine x_get (ci := 0) (fs := [.ref (ad (6 + 7 * j + 1)), .ref (ad (6 + 7 * j + 3)), .ref (ad (6 + 7 * j + 4)), .ref (ad (6 + 7 * j + 5)), .ref (ad (6 + 7 * j + 6)), .int ((V (6 + 7 * j)) 5), .int ((V (6 + 7 * j)) 6), .int ((V (6 + 7 * j)) 0), .int ((V (6 + 7 * j)) 1), .int ((V (6 + 7 * j)) 2), .int ((V (6 + 7 * j)) 3), .int ((V (6 + 7 * j)) 4)]) (q := (6 + 7 * j)) (v := .ref (ad (6 + 7 * j + 4))) (N := 12) hx hb hts (fun _ h => List.mem_cons_of_mem _ (List.mem_append_right _ h)) hown hK hP (by have := hj; omega) (ce_bd ad cI cB hj (V (6 + 7 * j))) rfl 2 (by decide) (hts (.fieldLink RX0 22 "TurnedBoards$Board" "coats" "[I") (List.mem_of_getElem? (i := 1) rfl)) rfl rfl dX0_coatsAt_1 ?_
  refine lv_iload_n hx hb dX0_coatsAt_4 rfl (lv_at hl 1 rfl) ?_
  refine k_SR (As := [.ref (ad (6 + 7 * j + 4)), .int p1]) (rest := []) ⟨hx, hb, hml, hown, hts⟩ hKN hP hS (m_X4_at l D cI cB 54 (cellOf ad cI cB) ad V (6 + 7 * j + 4) 8 p1 (rw_bd ad cI cB (j := j) (r := 4) hj (by decide) (fun _ => rfl))) (va_cwS 2 hts gX0_coatsAt_X4_at rfl rfl rfl (by decide +kernel) ⟨(Nat.le_of_ble_eq_true rfl), (Nat.le_of_ble_eq_true rfl)⟩) rfl hl.1 rfl (Nat.le_of_ble_eq_true rfl) dX0_coatsAt_5 ⟨Nat.zero_le _, Nat.zero_le _⟩ (fun H locs hP hS => ?_)
  exact W.iret (v := (f_X4_at V (6 + 7 * j + 4) 8 p1)) hx hb hr (fun t ht hW => ⟨⟨(f_X4_at V (6 + 7 * j + 4) 8 p1), (), rfl, hE.symm, trivial⟩, hS.F ht⟩) hS.2.2 dX0_coatsAt_8
def f_X0_setting (V : VT) (j : Nat) (p1 : Int32) : Int32 := (if p1 = 0 then (V (6 + 7 * j) 5) else (V (6 + 7 * j) 6))
set_option maxHeartbeats 4000000 in
set_option maxRecDepth 100000 in
theorem m_X0_setting (l : Launch) (D : va_G) (cI cB : ClassId) (ad : Nat → Nat) (V : VT) (j : Nat) (p1 : Int32) (hj : j < 6) : Met l yX0_setting wsX0_setting ({ frames := 0, cells := 0, slots := 0, locals := 0 }) (cP D cI cB ad V [.ref (ad (6 + 7 * j)), .int p1]) (cR (f_X0_setting V j p1)) 0 0 (fun _ => False) := by
  refine Met.ofW (cc := cX0_setting) (maxL := 2) (ret := (some .int)) (by decide +kernel) rfl ?_
  intro p e s m args below meth c s₁ B hml hv
  obtain ⟨rfl, hP, hKN⟩ := hv
  have hK := hKN.1
  have hx := B.exec
  have hb := B.bytes
  have hr := B.returns
  have hts := atoms_spec (ws := wsX0_setting) B.pre
  have hown : s.vm.findClass RX0 = some m.cls := findClass_of_methodNamed B.named
  have hlocks := B.notSynchronized
  have hS : va_S (fun _ => False) s.heap s.heap [] := va_S.rf
  have hl := lv_entry ([.ref (ad (6 + 7 * j)), .int p1]) (n := 2) (Nat.le_of_ble_eq_true rfl)
  rw [lg_entry_eq]
  generalize (lg_sl ([.ref (ad (6 + 7 * j)), .int p1]) ++ List.replicate (2 - (lg_sl ([.ref (ad (6 + 7 * j)), .int p1])).length) Slot.unset).toArray = ls at hl ⊢
  have hl : lv_has ls 2 [(0, .ref (ad (6 + 7 * j))), (1, .int p1)] := hl
  have hE : f_X0_setting V j p1 = (if p1 = 0 then (V (6 + 7 * j) 5) else (V (6 + 7 * j) 6)) := rfl
  refine lv_iload_n hx hb dX0_setting_0 rfl (lv_at hl 1 rfl) ?_
  refine lv_if_ne (tgt := 11) hx hb dX0_setting_1 (by decide) (fun c1 => ?_) (fun c1 => ?_)
  · have hE := hE.trans (if_neg c1)
    refine lv_aload_n hx hb dX0_setting_11 rfl (lv_at hl 0 rfl) ?_
    refine x_get (ci := 0) (fs := [.ref (ad (6 + 7 * j + 1)), .ref (ad (6 + 7 * j + 3)), .ref (ad (6 + 7 * j + 4)), .ref (ad (6 + 7 * j + 5)), .ref (ad (6 + 7 * j + 6)), .int ((V (6 + 7 * j)) 5), .int ((V (6 + 7 * j)) 6), .int ((V (6 + 7 * j)) 0), .int ((V (6 + 7 * j)) 1), .int ((V (6 + 7 * j)) 2), .int ((V (6 + 7 * j)) 3), .int ((V (6 + 7 * j)) 4)]) (q := (6 + 7 * j)) (v := .int (V (6 + 7 * j) 6)) (N := 12) hx hb hts (fun _ h => List.mem_cons_of_mem _ (List.mem_append_right _ h)) hown hK hP (by have := hj; omega) (ce_bd ad cI cB hj (V (6 + 7 * j))) rfl 6 (by decide) (hts (.fieldLink RX0 35 "TurnedBoards$Board" "fadingCells" "I") (List.mem_of_getElem? (i := 2) rfl)) rfl rfl dX0_setting_12 ?_
    exact W.iret (v := (V (6 + 7 * j) 6)) hx hb hr (fun t ht hW => ⟨⟨(V (6 + 7 * j) 6), (), rfl, hE.symm, trivial⟩, hS.F ht⟩) hS.2.2 dX0_setting_15
  · have hE := hE.trans (if_pos c1)
    refine lv_aload_n hx hb dX0_setting_4 rfl (lv_at hl 0 rfl) ?_
    refine x_get (ci := 0) (fs := [.ref (ad (6 + 7 * j + 1)), .ref (ad (6 + 7 * j + 3)), .ref (ad (6 + 7 * j + 4)), .ref (ad (6 + 7 * j + 5)), .ref (ad (6 + 7 * j + 6)), .int ((V (6 + 7 * j)) 5), .int ((V (6 + 7 * j)) 6), .int ((V (6 + 7 * j)) 0), .int ((V (6 + 7 * j)) 1), .int ((V (6 + 7 * j)) 2), .int ((V (6 + 7 * j)) 3), .int ((V (6 + 7 * j)) 4)]) (q := (6 + 7 * j)) (v := .int (V (6 + 7 * j) 5)) (N := 12) hx hb hts (fun _ h => List.mem_cons_of_mem _ (List.mem_append_right _ h)) hown hK hP (by have := hj; omega) (ce_bd ad cI cB hj (V (6 + 7 * j))) rfl 5 (by decide) (hts (.fieldLink RX0 31 "TurnedBoards$Board" "paintedCoats" "I") (List.mem_of_getElem? (i := 1) rfl)) rfl rfl dX0_setting_5 ?_
    refine lv_goto (tgt := 15) hx hb dX0_setting_8 (by decide) ?_
    exact W.iret (v := (V (6 + 7 * j) 5)) hx hb hr (fun t ht hW => ⟨⟨(V (6 + 7 * j) 5), (), rfl, hE.symm, trivial⟩, hS.F ht⟩) hS.2.2 dX0_setting_15
def f_X0_changeSetting (V : VT) (j : Nat) (p1 : Int32) (p2 : Int32) : VT := (if p1 = 0 then (upV V (6 + 7 * j) 5 p2) else (upV V (6 + 7 * j) 6 p2))
set_option maxHeartbeats 4000000 in
set_option maxRecDepth 100000 in
theorem m_X0_changeSetting (l : Launch) (D : va_G) (cI cB : ClassId) (ad : Nat → Nat) {A : Nat → Prop} (hA : adOk ad A) (V : VT) (j : Nat) (p1 : Int32) (p2 : Int32) (hj : j < 6) : Met l yX0_changeSetting wsX0_changeSetting ({ frames := 0, cells := 0, slots := 0, locals := 0 }) (cP D cI cB ad V [.ref (ad (6 + 7 * j)), .int p1, .int p2]) (cWv D cI cB ad A (f_X0_changeSetting V j p1 p2)) 0 0 A := by
  refine Met.ofW (cc := cX0_changeSetting) (maxL := 3) (ret := none) (by decide +kernel) rfl ?_
  intro p e s m args below meth c s₁ B hml hv
  obtain ⟨rfl, hP, hKN⟩ := hv
  have hK := hKN.1
  have hx := B.exec
  have hb := B.bytes
  have hr := B.returns
  have hts := atoms_spec (ws := wsX0_changeSetting) B.pre
  have hown : s.vm.findClass RX0 = some m.cls := findClass_of_methodNamed B.named
  have hlocks := B.notSynchronized
  have hS : va_S A s.heap s.heap [] := va_S.rf
  have hl := lv_entry ([.ref (ad (6 + 7 * j)), .int p1, .int p2]) (n := 3) (Nat.le_of_ble_eq_true rfl)
  rw [lg_entry_eq]
  generalize (lg_sl ([.ref (ad (6 + 7 * j)), .int p1, .int p2]) ++ List.replicate (3 - (lg_sl ([.ref (ad (6 + 7 * j)), .int p1, .int p2])).length) Slot.unset).toArray = ls at hl ⊢
  have hl : lv_has ls 3 [(0, .ref (ad (6 + 7 * j))), (1, .int p1), (2, .int p2)] := hl
  have hE : f_X0_changeSetting V j p1 p2 = (if p1 = 0 then (upV V (6 + 7 * j) 5 p2) else (upV V (6 + 7 * j) 6 p2)) := rfl
  refine lv_iload_n hx hb dX0_changeSetting_0 rfl (lv_at hl 1 rfl) ?_
  refine lv_if_ne (tgt := 12) hx hb dX0_changeSetting_1 (by decide) (fun c1 => ?_) (fun c1 => ?_)
  · have hE := hE.trans (if_neg c1)
    refine lv_aload_n hx hb dX0_changeSetting_12 rfl (lv_at hl 0 rfl) ?_
    refine lv_iload_n hx hb dX0_changeSetting_13 rfl (lv_at hl 2 rfl) ?_
    refine x_put (ci := 0) (fs := [.ref (ad (6 + 7 * j + 1)), .ref (ad (6 + 7 * j + 3)), .ref (ad (6 + 7 * j + 4)), .ref (ad (6 + 7 * j + 5)), .ref (ad (6 + 7 * j + 6)), .int ((V (6 + 7 * j)) 5), .int ((V (6 + 7 * j)) 6), .int ((V (6 + 7 * j)) 0), .int ((V (6 + 7 * j)) 1), .int ((V (6 + 7 * j)) 2), .int ((V (6 + 7 * j)) 3), .int ((V (6 + 7 * j)) 4)]) (q := (6 + 7 * j)) (v := .int p2) (ty := .int) (N := 12) hx hb hts (fun _ h => List.mem_cons_of_mem _ (List.mem_append_right _ h)) tyX0 tyX0_ok nmX0 hown hK hP hA hS (by have := hj; omega) (ce_bd ad cI cB hj (V (6 + 7 * j))) rfl 6 (by decide) (hts (.fieldLink RX0 35 "TurnedBoards$Board" "fadingCells" "I") (List.mem_of_getElem? (i := 2) rfl)) rfl rfl (by decide +kernel) rfl rfl (Nat.le_of_ble_eq_true rfl) 6 p2 ((ce_bd ad cI cB hj (upd (V (6 + 7 * j)) 6 p2)).trans rfl) dX0_changeSetting_14 (fun H locs hP hS => ?_)
    exact W.vret hx hb hr (fun t ht hW => ⟨⟨(upV V (6 + 7 * j) 6 p2), rfl, hE.symm, by dsimp only; rw [ht]; exact hP⟩, hS.F ht⟩) hS.2.2 dX0_changeSetting_17
  · have hE := hE.trans (if_pos c1)
    refine lv_aload_n hx hb dX0_changeSetting_4 rfl (lv_at hl 0 rfl) ?_
    refine lv_iload_n hx hb dX0_changeSetting_5 rfl (lv_at hl 2 rfl) ?_
    refine x_put (ci := 0) (fs := [.ref (ad (6 + 7 * j + 1)), .ref (ad (6 + 7 * j + 3)), .ref (ad (6 + 7 * j + 4)), .ref (ad (6 + 7 * j + 5)), .ref (ad (6 + 7 * j + 6)), .int ((V (6 + 7 * j)) 5), .int ((V (6 + 7 * j)) 6), .int ((V (6 + 7 * j)) 0), .int ((V (6 + 7 * j)) 1), .int ((V (6 + 7 * j)) 2), .int ((V (6 + 7 * j)) 3), .int ((V (6 + 7 * j)) 4)]) (q := (6 + 7 * j)) (v := .int p2) (ty := .int) (N := 12) hx hb hts (fun _ h => List.mem_cons_of_mem _ (List.mem_append_right _ h)) tyX0 tyX0_ok nmX0 hown hK hP hA hS (by have := hj; omega) (ce_bd ad cI cB hj (V (6 + 7 * j))) rfl 5 (by decide) (hts (.fieldLink RX0 31 "TurnedBoards$Board" "paintedCoats" "I") (List.mem_of_getElem? (i := 1) rfl)) rfl rfl (by decide +kernel) rfl rfl (Nat.le_of_ble_eq_true rfl) 5 p2 ((ce_bd ad cI cB hj (upd (V (6 + 7 * j)) 5 p2)).trans rfl) dX0_changeSetting_6 (fun H locs hP hS => ?_)
    refine lv_goto (tgt := 17) hx hb dX0_changeSetting_9 (by decide) ?_
    exact W.vret hx hb hr (fun t ht hW => ⟨⟨(upV V (6 + 7 * j) 5 p2), rfl, hE.symm, by dsimp only; rw [ht]; exact hP⟩, hS.F ht⟩) hS.2.2 dX0_changeSetting_17
def f_X0_way (V : VT) (j : Nat) : Int32 := (if (V (6 + 7 * j) 1) = 0 then 0 else 1)
set_option maxHeartbeats 4000000 in
set_option maxRecDepth 100000 in
theorem m_X0_way (l : Launch) (D : va_G) (cI cB : ClassId) (ad : Nat → Nat) (V : VT) (j : Nat) (hj : j < 6) : Met l yX0_way wsX0_way ({ frames := 0, cells := 0, slots := 0, locals := 0 }) (cP D cI cB ad V [.ref (ad (6 + 7 * j))]) (cR (f_X0_way V j)) 0 0 (fun _ => False) := by
  refine Met.ofW (cc := cX0_way) (maxL := 1) (ret := (some .int)) (by decide +kernel) rfl ?_
  intro p e s m args below meth c s₁ B hml hv
  obtain ⟨rfl, hP, hKN⟩ := hv
  have hK := hKN.1
  have hx := B.exec
  have hb := B.bytes
  have hr := B.returns
  have hts := atoms_spec (ws := wsX0_way) B.pre
  have hown : s.vm.findClass RX0 = some m.cls := findClass_of_methodNamed B.named
  have hlocks := B.notSynchronized
  have hS : va_S (fun _ => False) s.heap s.heap [] := va_S.rf
  have hl := lv_entry ([.ref (ad (6 + 7 * j))]) (n := 1) (Nat.le_of_ble_eq_true rfl)
  rw [lg_entry_eq]
  generalize (lg_sl ([.ref (ad (6 + 7 * j))]) ++ List.replicate (1 - (lg_sl ([.ref (ad (6 + 7 * j))])).length) Slot.unset).toArray = ls at hl ⊢
  have hl : lv_has ls 1 [(0, .ref (ad (6 + 7 * j)))] := hl
  have hE : f_X0_way V j = (if (V (6 + 7 * j) 1) = 0 then 0 else 1) := rfl
  refine lv_aload_n hx hb dX0_way_0 rfl (lv_at hl 0 rfl) ?_
  refine x_get (ci := 0) (fs := [.ref (ad (6 + 7 * j + 1)), .ref (ad (6 + 7 * j + 3)), .ref (ad (6 + 7 * j + 4)), .ref (ad (6 + 7 * j + 5)), .ref (ad (6 + 7 * j + 6)), .int ((V (6 + 7 * j)) 5), .int ((V (6 + 7 * j)) 6), .int ((V (6 + 7 * j)) 0), .int ((V (6 + 7 * j)) 1), .int ((V (6 + 7 * j)) 2), .int ((V (6 + 7 * j)) 3), .int ((V (6 + 7 * j)) 4)]) (q := (6 + 7 * j)) (v := .int (V (6 + 7 * j) 1)) (N := 12) hx hb hts (fun _ h => List.mem_cons_of_mem _ (List.mem_append_right _ h)) hown hK hP (by have := hj; omega) (ce_bd ad cI cB hj (V (6 + 7 * j))) rfl 8 (by decide) (hts (.fieldLink RX0 41 "TurnedBoards$Board" "turned" "Z") (List.mem_of_getElem? (i := 1) rfl)) rfl rfl dX0_way_1 ?_
  refine lv_if_eq (tgt := 11) hx hb dX0_way_4 (by decide) (fun c1 => ?_) (fun c1 => ?_)
  · have hE := hE.trans (if_pos c1)
    refine lv_iconst (v := 0) hx hb dX0_way_11 (by decide) ?_
    exact W.iret (v := 0) hx hb hr (fun t ht hW => ⟨⟨0, (), rfl, hE.symm, trivial⟩, hS.F ht⟩) hS.2.2 dX0_way_12
  · have hE := hE.trans (if_neg c1)
    refine lv_iconst (v := 1) hx hb dX0_way_7 (by decide) ?_
    refine lv_goto (tgt := 12) hx hb dX0_way_8 (by decide) ?_
    exact W.iret (v := 1) hx hb hr (fun t ht hW => ⟨⟨1, (), rfl, hE.symm, trivial⟩, hS.F ht⟩) hS.2.2 dX0_way_12
def f_X0_fromLeft (V : VT) (j : Nat) (p1 : Int32) (p2 : Int32) : Int32 := (if p2 = 0 then p1 else (((V (6 + 7 * j) 0) - 1) - p1))
set_option maxHeartbeats 4000000 in
set_option maxRecDepth 100000 in
theorem m_X0_fromLeft (l : Launch) (D : va_G) (cI cB : ClassId) (ad : Nat → Nat) (V : VT) (j : Nat) (p1 : Int32) (p2 : Int32) (hj : j < 6) : Met l yX0_fromLeft wsX0_fromLeft ({ frames := 0, cells := 0, slots := 0, locals := 0 }) (cP D cI cB ad V [.ref (ad (6 + 7 * j)), .int p1, .int p2]) (cR (f_X0_fromLeft V j p1 p2)) 0 0 (fun _ => False) := by
  refine Met.ofW (cc := cX0_fromLeft) (maxL := 3) (ret := (some .int)) (by decide +kernel) rfl ?_
  intro p e s m args below meth c s₁ B hml hv
  obtain ⟨rfl, hP, hKN⟩ := hv
  have hK := hKN.1
  have hx := B.exec
  have hb := B.bytes
  have hr := B.returns
  have hts := atoms_spec (ws := wsX0_fromLeft) B.pre
  have hown : s.vm.findClass RX0 = some m.cls := findClass_of_methodNamed B.named
  have hlocks := B.notSynchronized
  have hS : va_S (fun _ => False) s.heap s.heap [] := va_S.rf
  have hl := lv_entry ([.ref (ad (6 + 7 * j)), .int p1, .int p2]) (n := 3) (Nat.le_of_ble_eq_true rfl)
  rw [lg_entry_eq]
  generalize (lg_sl ([.ref (ad (6 + 7 * j)), .int p1, .int p2]) ++ List.replicate (3 - (lg_sl ([.ref (ad (6 + 7 * j)), .int p1, .int p2])).length) Slot.unset).toArray = ls at hl ⊢
  have hl : lv_has ls 3 [(0, .ref (ad (6 + 7 * j))), (1, .int p1), (2, .int p2)] := hl
  have hE : f_X0_fromLeft V j p1 p2 = (if p2 = 0 then p1 else (((V (6 + 7 * j) 0) - 1) - p1)) := rfl
  refine lv_iload_n hx hb dX0_fromLeft_0 rfl (lv_at hl 2 rfl) ?_
  refine lv_if_ne (tgt := 8) hx hb dX0_fromLeft_1 (by decide) (fun c1 => ?_) (fun c1 => ?_)
  · have hE := hE.trans (if_neg c1)
    refine lv_aload_n hx hb dX0_fromLeft_8 rfl (lv_at hl 0 rfl) ?_
    refine x_get (ci := 0) (fs := [.ref (ad (6 + 7 * j + 1)), .ref (ad (6 + 7 * j + 3)), .ref (ad (6 + 7 * j + 4)), .ref (ad (6 + 7 * j + 5)), .ref (ad (6 + 7 * j + 6)), .int ((V (6 + 7 * j)) 5), .int ((V (6 + 7 * j)) 6), .int ((V (6 + 7 * j)) 0), .int ((V (6 + 7 * j)) 1), .int ((V (6 + 7 * j)) 2), .int ((V (6 + 7 * j)) 3), .int ((V (6 + 7 * j)) 4)]) (q := (6 + 7 * j)) (v := .int (V (6 + 7 * j) 0)) (N := 12) hx hb hts (fun _ h => List.mem_cons_of_mem _ (List.mem_append_right _ h)) hown hK hP (by have := hj; omega) (ce_bd ad cI cB hj (V (6 + 7 * j))) rfl 7 (by decide) (hts (.fieldLink RX0 38 "TurnedBoards$Board" "places" "I") (List.mem_of_getElem? (i := 1) rfl)) rfl rfl dX0_fromLeft_9 ?_
    refine lv_iconst (v := 1) hx hb dX0_fromLeft_12 (by decide) ?_
    refine lv_isub hx hb dX0_fromLeft_13 ?_
    refine lv_iload_n hx hb dX0_fromLeft_14 rfl (lv_at hl 1 rfl) ?_
    refine lv_isub hx hb dX0_fromLeft_15 ?_
    exact W.iret (v := (((V (6 + 7 * j) 0) - 1) - p1)) hx hb hr (fun t ht hW => ⟨⟨(((V (6 + 7 * j) 0) - 1) - p1), (), rfl, hE.symm, trivial⟩, hS.F ht⟩) hS.2.2 dX0_fromLeft_16
  · have hE := hE.trans (if_pos c1)
    refine lv_iload_n hx hb dX0_fromLeft_4 rfl (lv_at hl 1 rfl) ?_
    refine lv_goto (tgt := 16) hx hb dX0_fromLeft_5 (by decide) ?_
    exact W.iret (v := p1) hx hb hr (fun t ht hW => ⟨⟨p1, (), rfl, hE.symm, trivial⟩, hS.F ht⟩) hS.2.2 dX0_fromLeft_16
def f_X0_letterIn (V : VT) (j : Nat) (p1 : Int32) (p2 : Int32) : Int32 := (if p1 = 0 then (f_X4_at V (6 + 7 * j + 5) 8 p2) else (f_X4_at V (6 + 7 * j + 6) 8 p2))
set_option maxHeartbeats 4000000 in
set_option maxRecDepth 100000 in
theorem m_X0_letterIn (l : Launch) (D : va_G) (cI cB : ClassId) (ad : Nat → Nat) (V : VT) (j : Nat) (p1 : Int32) (p2 : Int32) (hj : j < 6) : Met l yX0_letterIn wsX0_letterIn ({ frames := 1, cells := 0, slots := 0, locals := 21 }) (cP D cI cB ad V [.ref (ad (6 + 7 * j)), .int p1, .int p2]) (cR (f_X0_letterIn V j p1 p2)) 0 0 (fun _ => False) := by
  refine Met.ofW (cc := cX0_letterIn) (maxL := 3) (ret := (some .int)) (by decide +kernel) rfl ?_
  intro p e s m args below meth c s₁ B hml hv
  obtain ⟨rfl, hP, hKN⟩ := hv
  have hK := hKN.1
  have hx := B.exec
  have hb := B.bytes
  have hr := B.returns
  have hts := atoms_spec (ws := wsX0_letterIn) B.pre
  have hown : s.vm.findClass RX0 = some m.cls := findClass_of_methodNamed B.named
  have hlocks := B.notSynchronized
  have hS : va_S (fun _ => False) s.heap s.heap [] := va_S.rf
  have hl := lv_entry ([.ref (ad (6 + 7 * j)), .int p1, .int p2]) (n := 3) (Nat.le_of_ble_eq_true rfl)
  rw [lg_entry_eq]
  generalize (lg_sl ([.ref (ad (6 + 7 * j)), .int p1, .int p2]) ++ List.replicate (3 - (lg_sl ([.ref (ad (6 + 7 * j)), .int p1, .int p2])).length) Slot.unset).toArray = ls at hl ⊢
  have hl : lv_has ls 3 [(0, .ref (ad (6 + 7 * j))), (1, .int p1), (2, .int p2)] := hl
  have hE : f_X0_letterIn V j p1 p2 = (if p1 = 0 then (f_X4_at V (6 + 7 * j + 5) 8 p2) else (f_X4_at V (6 + 7 * j + 6) 8 p2)) := rfl
  refine lv_iload_n hx hb dX0_letterIn_0 rfl (lv_at hl 1 rfl) ?_
  refine lv_if_ne (tgt := 11) hx hb dX0_letterIn_1 (by decide) (fun c1 => ?_) (fun c1 => ?_)
  · have hE := hE.trans (if_neg c1)
    refine lv_aload_n hx hb dX0_letterIn_11 rfl (lv_at hl 0 rfl) ?_
    refine x_get (ci := 0) (fs := [.ref (ad (6 + 7 * j + 1)), .ref (ad (6 + 7 * j + 3)), .ref (ad (6 + 7 * j + 4)), .ref (ad (6 + 7 * j + 5)), .ref (ad (6 + 7 * j + 6)), .int ((V (6 + 7 * j)) 5), .int ((V (6 + 7 * j)) 6), .int ((V (6 + 7 * j)) 0), .int ((V (6 + 7 * j)) 1), .int ((V (6 + 7 * j)) 2), .int ((V (6 + 7 * j)) 3), .int ((V (6 + 7 * j)) 4)]) (q := (6 + 7 * j)) (v := .ref (ad (6 + 7 * j + 6))) (N := 12) hx hb hts (fun _ h => List.mem_cons_of_mem _ (List.mem_append_right _ h)) hown hK hP (by have := hj; omega) (ce_bd ad cI cB hj (V (6 + 7 * j))) rfl 4 (by decide) (hts (.fieldLink RX0 28 "TurnedBoards$Board" "turnedWord" "[I") (List.mem_of_getElem? (i := 2) rfl)) rfl rfl dX0_letterIn_12 ?_
    refine lv_iload_n hx hb dX0_letterIn_15 rfl (lv_at hl 2 rfl) ?_
    refine k_SR (As := [.ref (ad (6 + 7 * j + 6)), .int p2]) (rest := []) ⟨hx, hb, hml, hown, hts⟩ hKN hP hS (m_X4_at l D cI cB 54 (cellOf ad cI cB) ad V (6 + 7 * j + 6) 8 p2 (rw_bd ad cI cB (j := j) (r := 6) hj (by decide) (fun _ => rfl))) (va_cwS 2 hts gX0_letterIn_X4_at rfl rfl rfl (by decide +kernel) ⟨(Nat.le_of_ble_eq_true rfl), (Nat.le_of_ble_eq_true rfl)⟩) rfl hl.1 rfl (Nat.le_of_ble_eq_true rfl) dX0_letterIn_16 ⟨Nat.zero_le _, Nat.zero_le _⟩ (fun H locs hP hS => ?_)
    exact W.iret (v := (f_X4_at V (6 + 7 * j + 6) 8 p2)) hx hb hr (fun t ht hW => ⟨⟨(f_X4_at V (6 + 7 * j + 6) 8 p2), (), rfl, hE.symm, trivial⟩, hS.F ht⟩) hS.2.2 dX0_letterIn_19
  · have hE := hE.trans (if_pos c1)
    refine lv_aload_n hx hb dX0_letterIn_4 rfl (lv_at hl 0 rfl) ?_
    refine x_get (ci := 0) (fs := [.ref (ad (6 + 7 * j + 1)), .ref (ad (6 + 7 * j + 3)), .ref (ad (6 + 7 * j + 4)), .ref (ad (6 + 7 * j + 5)), .ref (ad (6 + 7 * j + 6)), .int ((V (6 + 7 * j)) 5), .int ((V (6 + 7 * j)) 6), .int ((V (6 + 7 * j)) 0), .int ((V (6 + 7 * j)) 1), .int ((V (6 + 7 * j)) 2), .int ((V (6 + 7 * j)) 3), .int ((V (6 + 7 * j)) 4)]) (q := (6 + 7 * j)) (v := .ref (ad (6 + 7 * j + 5))) (N := 12) hx hb hts (fun _ h => List.mem_cons_of_mem _ (List.mem_append_right _ h)) hown hK hP (by have := hj; omega) (ce_bd ad cI cB hj (V (6 + 7 * j))) rfl 3 (by decide) (hts (.fieldLink RX0 25 "TurnedBoards$Board" "uprightWord" "[I") (List.mem_of_getElem? (i := 1) rfl)) rfl rfl dX0_letterIn_5 ?_
    refine lv_goto (tgt := 15) hx hb dX0_letterIn_8 (by decide) ?_
    refine lv_iload_n hx hb dX0_letterIn_15 rfl (lv_at hl 2 rfl) ?_
    refine k_SR (As := [.ref (ad (6 + 7 * j + 5)), .int p2]) (rest := []) ⟨hx, hb, hml, hown, hts⟩ hKN hP hS (m_X4_at l D cI cB 54 (cellOf ad cI cB) ad V (6 + 7 * j + 5) 8 p2 (rw_bd ad cI cB (j := j) (r := 5) hj (by decide) (fun _ => rfl))) (va_cwS 2 hts gX0_letterIn_X4_at rfl rfl rfl (by decide +kernel) ⟨(Nat.le_of_ble_eq_true rfl), (Nat.le_of_ble_eq_true rfl)⟩) rfl hl.1 rfl (Nat.le_of_ble_eq_true rfl) dX0_letterIn_16 ⟨Nat.zero_le _, Nat.zero_le _⟩ (fun H locs hP hS => ?_)
    exact W.iret (v := (f_X4_at V (6 + 7 * j + 5) 8 p2)) hx hb hr (fun t ht hW => ⟨⟨(f_X4_at V (6 + 7 * j + 5) 8 p2), (), rfl, hE.symm, trivial⟩, hS.F ht⟩) hS.2.2 dX0_letterIn_19
def f_X0_wantedAt (V : VT) (j : Nat) (p1 : Int32) (p2 : Int32) : Int32 := (f_X0_letterIn V j p2 (f_X0_fromLeft V j p1 p2))
set_option maxHeartbeats 4000000 in
set_option maxRecDepth 100000 in
theorem m_X0_wantedAt (l : Launch) (D : va_G) (cI cB : ClassId) (ad : Nat → Nat) (V : VT) (j : Nat) (p1 : Int32) (p2 : Int32) (hj : j < 6) : Met l yX0_wantedAt wsX0_wantedAt ({ frames := 2, cells := 0, slots := 0, locals := 43 }) (cP D cI cB ad V [.ref (ad (6 + 7 * j)), .int p1, .int p2]) (cR (f_X0_wantedAt V j p1 p2)) 0 0 (fun _ => False) := by
  refine Met.ofW (cc := cX0_wantedAt) (maxL := 3) (ret := (some .int)) (by decide +kernel) rfl ?_
  intro p e s m args below meth c s₁ B hml hv
  obtain ⟨rfl, hP, hKN⟩ := hv
  have hK := hKN.1
  have hx := B.exec
  have hb := B.bytes
  have hr := B.returns
  have hts := atoms_spec (ws := wsX0_wantedAt) B.pre
  have hown : s.vm.findClass RX0 = some m.cls := findClass_of_methodNamed B.named
  have hlocks := B.notSynchronized
  have hS : va_S (fun _ => False) s.heap s.heap [] := va_S.rf
  have hl := lv_entry ([.ref (ad (6 + 7 * j)), .int p1, .int p2]) (n := 3) (Nat.le_of_ble_eq_true rfl)
  rw [lg_entry_eq]
  generalize (lg_sl ([.ref (ad (6 + 7 * j)), .int p1, .int p2]) ++ List.replicate (3 - (lg_sl ([.ref (ad (6 + 7 * j)), .int p1, .int p2])).length) Slot.unset).toArray = ls at hl ⊢
  have hl : lv_has ls 3 [(0, .ref (ad (6 + 7 * j))), (1, .int p1), (2, .int p2)] := hl
  have hE : f_X0_wantedAt V j p1 p2 = (f_X0_letterIn V j p2 (f_X0_fromLeft V j p1 p2)) := rfl
  refine lv_aload_n hx hb dX0_wantedAt_0 rfl (lv_at hl 0 rfl) ?_
  refine lv_iload_n hx hb dX0_wantedAt_1 rfl (lv_at hl 2 rfl) ?_
  refine lv_aload_n hx hb dX0_wantedAt_2 rfl (lv_at hl 0 rfl) ?_
  refine lv_iload_n hx hb dX0_wantedAt_3 rfl (lv_at hl 1 rfl) ?_
  refine lv_iload_n hx hb dX0_wantedAt_4 rfl (lv_at hl 2 rfl) ?_
  refine k_VR (As := [.int p1, .int p2]) (rest := [.int p2, .ref (ad (6 + 7 * j))]) (q := (6 + 7 * j)) ⟨hx, hb, hml, hown, hts⟩ hKN hP hS (m_X0_fromLeft l D cI cB ad V j p1 p2 hj) (cwV 2 hts gX0_wantedAt_X0_fromLeft rfl rfl rfl (by decide +kernel) ⟨(Nat.le_of_ble_eq_true rfl), (Nat.le_of_ble_eq_true rfl)⟩) (c_preV hP hKN (q := (6 + 7 * j)) (ci := 0) (fs := [.ref (ad (6 + 7 * j + 1)), .ref (ad (6 + 7 * j + 3)), .ref (ad (6 + 7 * j + 4)), .ref (ad (6 + 7 * j + 5)), .ref (ad (6 + 7 * j + 6)), .int ((V (6 + 7 * j)) 5), .int ((V (6 + 7 * j)) 6), .int ((V (6 + 7 * j)) 0), .int ((V (6 + 7 * j)) 1), .int ((V (6 + 7 * j)) 2), .int ((V (6 + 7 * j)) 3), .int ((V (6 + 7 * j)) 4)]) (by have := hj; omega) (ce_bd ad cI cB hj (V (6 + 7 * j))) rfl rfl) rfl hl.1 rfl (Nat.le_of_ble_eq_true rfl) dX0_wantedAt_5 ⟨Nat.zero_le _, Nat.zero_le _⟩ (fun H locs hP hS => ?_)
  refine k_VR (As := [.int p2, .int (f_X0_fromLeft V j p1 p2)]) (rest := []) (q := (6 + 7 * j)) ⟨hx, hb, hml, hown, hts⟩ hKN hP hS (m_X0_letterIn l D cI cB ad V j p2 (f_X0_fromLeft V j p1 p2) hj) (cwV 2 hts gX0_wantedAt_X0_letterIn rfl rfl rfl (by decide +kernel) ⟨(Nat.le_of_ble_eq_true rfl), (Nat.le_of_ble_eq_true rfl)⟩) (c_preV hP hKN (q := (6 + 7 * j)) (ci := 0) (fs := [.ref (ad (6 + 7 * j + 1)), .ref (ad (6 + 7 * j + 3)), .ref (ad (6 + 7 * j + 4)), .ref (ad (6 + 7 * j + 5)), .ref (ad (6 + 7 * j + 6)), .int ((V (6 + 7 * j)) 5), .int ((V (6 + 7 * j)) 6), .int ((V (6 + 7 * j)) 0), .int ((V (6 + 7 * j)) 1), .int ((V (6 + 7 * j)) 2), .int ((V (6 + 7 * j)) 3), .int ((V (6 + 7 * j)) 4)]) (by have := hj; omega) (ce_bd ad cI cB hj (V (6 + 7 * j))) rfl rfl) rfl hl.1 rfl (Nat.le_of_ble_eq_true rfl) dX0_wantedAt_8 ⟨Nat.zero_le _, Nat.zero_le _⟩ (fun H locs hP hS => ?_)
  exact W.iret (v := (f_X0_letterIn V j p2 (f_X0_fromLeft V j p1 p2))) hx hb hr (fun t ht hW => ⟨⟨(f_X0_letterIn V j p2 (f_X0_fromLeft V j p1 p2)), (), rfl, hE.symm, trivial⟩, hS.F ht⟩) hS.2.2 dX0_wantedAt_11
def f_X0_readAt (fu : Nat) (V : VT) (j : Nat) (p1 : Int32) (p2 : Int32) : Int32 := (if (f_X0_coatsAt V j p1) ≤ 0 then (-1) else (f_X3_nearest fu V j (f_X6_seen V (f_X0_signAt V j p1) p2) (-1)))
def p_X0_readAt (fu : Nat) (V : VT) (j : Nat) (p1 : Int32) (p2 : Int32) : Prop := (((f_X0_coatsAt V j p1) ≤ 0 → True) ∧ (¬ ((f_X0_coatsAt V j p1) ≤ 0) → (p_X3_nearest fu V j (f_X6_seen V (f_X0_signAt V j p1) p2) (-1))))
set_option maxHeartbeats 4000000 in
set_option maxRecDepth 100000 in
theorem m_X0_readAt (l : Launch) (D : va_G) (cI cB : ClassId) (ad : Nat → Nat) (fu : Nat) (V : VT) (j : Nat) (p1 : Int32) (p2 : Int32) (hj : j < 6) (hp : p_X0_readAt fu V j p1 p2) : Met l yX0_readAt wsX0_readAt ({ frames := 2, cells := 0, slots := 0, locals := 46 }) (cP D cI cB ad V [.ref (ad (6 + 7 * j)), .int p1, .int p2]) (cR (f_X0_readAt fu V j p1 p2)) 0 0 (fun _ => False) := by
  refine Met.ofW (cc := cX0_readAt) (maxL := 3) (ret := (some .int)) (by decide +kernel) rfl ?_
  intro p e s m args below meth c s₁ B hml hv
  obtain ⟨rfl, hP, hKN⟩ := hv
  have hK := hKN.1
  have hx := B.exec
  have hb := B.bytes
  have hr := B.returns
  have hts := atoms_spec (ws := wsX0_readAt) B.pre
  have hown : s.vm.findClass RX0 = some m.cls := findClass_of_methodNamed B.named
  have hlocks := B.notSynchronized
  have hS : va_S (fun _ => False) s.heap s.heap [] := va_S.rf
  have hl := lv_entry ([.ref (ad (6 + 7 * j)), .int p1, .int p2]) (n := 3) (Nat.le_of_ble_eq_true rfl)
  rw [lg_entry_eq]
  generalize (lg_sl ([.ref (ad (6 + 7 * j)), .int p1, .int p2]) ++ List.replicate (3 - (lg_sl ([.ref (ad (6 + 7 * j)), .int p1, .int p2])).length) Slot.unset).toArray = ls at hl ⊢
  have hl : lv_has ls 3 [(0, .ref (ad (6 + 7 * j))), (1, .int p1), (2, .int p2)] := hl
  have hE : f_X0_readAt fu V j p1 p2 = (if (f_X0_coatsAt V j p1) ≤ 0 then (-1) else (f_X3_nearest fu V j (f_X6_seen V (f_X0_signAt V j p1) p2) (-1))) := rfl
  refine lv_aload_n hx hb dX0_readAt_0 rfl (lv_at hl 0 rfl) ?_
  refine lv_iload_n hx hb dX0_readAt_1 rfl (lv_at hl 1 rfl) ?_
  refine k_VR (As := [.int p1]) (rest := []) (q := (6 + 7 * j)) ⟨hx, hb, hml, hown, hts⟩ hKN hP hS (m_X0_coatsAt l D cI cB ad V j p1 hj) (cwV 1 hts gX0_readAt_X0_coatsAt rfl rfl rfl (by decide +kernel) ⟨(Nat.le_of_ble_eq_true rfl), (Nat.le_of_ble_eq_true rfl)⟩) (c_preV hP hKN (q := (6 + 7 * j)) (ci := 0) (fs := [.ref (ad (6 + 7 * j + 1)), .ref (ad (6 + 7 * j + 3)), .ref (ad (6 + 7 * j + 4)), .ref (ad (6 + 7 * j + 5)), .ref (ad (6 + 7 * j + 6)), .int ((V (6 + 7 * j)) 5), .int ((V (6 + 7 * j)) 6), .int ((V (6 + 7 * j)) 0), .int ((V (6 + 7 * j)) 1), .int ((V (6 + 7 * j)) 2), .int ((V (6 + 7 * j)) 3), .int ((V (6 + 7 * j)) 4)]) (by have := hj; omega) (ce_bd ad cI cB hj (V (6 + 7 * j))) rfl rfl) rfl hl.1 rfl (Nat.le_of_ble_eq_true rfl) dX0_readAt_2 ⟨Nat.zero_le _, Nat.zero_le _⟩ (fun H locs hP hS => ?_)
  refine lv_if_le (tgt := 28) hx hb dX0_readAt_5 (by decide) (fun c1 => ?_) (fun c1 => ?_)
  · have hE := hE.trans (if_pos c1)
    refine lv_iconst (v := (-1)) hx hb dX0_readAt_28 (by decide) ?_
    exact W.iret (v := (-1)) hx hb hr (fun t ht hW => ⟨⟨(-1), (), rfl, hE.symm, trivial⟩, hS.F ht⟩) hS.2.2 dX0_readAt_29
  · have hE := hE.trans (if_neg c1)
    have hp := pc_bn hp c1
    refine lv_aload_n hx hb dX0_readAt_8 rfl (lv_at hl 0 rfl) ?_
    refine x_get (ci := 0) (fs := [.ref (ad (6 + 7 * j + 1)), .ref (ad (6 + 7 * j + 3)), .ref (ad (6 + 7 * j + 4)), .ref (ad (6 + 7 * j + 5)), .ref (ad (6 + 7 * j + 6)), .int ((V (6 + 7 * j)) 5), .int ((V (6 + 7 * j)) 6), .int ((V (6 + 7 * j)) 0), .int ((V (6 + 7 * j)) 1), .int ((V (6 + 7 * j)) 2), .int ((V (6 + 7 * j)) 3), .int ((V (6 + 7 * j)) 4)]) (q := (6 + 7 * j)) (v := .ref (ad (6 + 7 * j + 1))) (N := 12) hx hb hts (fun _ h => List.mem_cons_of_mem _ (List.mem_append_left _ (List.mem_append_right _ h))) hown hK hP (by have := hj; omega) (ce_bd ad cI cB hj (V (6 + 7 * j))) rfl 0 (by decide) (hts (.fieldLink RX0 12 "TurnedBoards$Board" "letters" "LTurnedBoards$Letters;") (List.mem_of_getElem? (i := 1) rfl)) rfl rfl dX0_readAt_9 ?_
    refine lv_aload_n hx hb dX0_readAt_12 rfl (lv_at hl 0 rfl) ?_
    refine lv_iload_n hx hb dX0_readAt_13 rfl (lv_at hl 1 rfl) ?_
    refine k_VR (As := [.int p1]) (rest := [.ref (ad (6 + 7 * j + 1))]) (q := (6 + 7 * j)) ⟨hx, hb, hml, hown, hts⟩ hKN hP hS (m_X0_signAt l D cI cB ad V j p1 hj) (cwV 1 hts gX0_readAt_X0_signAt rfl rfl rfl (by decide +kernel) ⟨(Nat.le_of_ble_eq_true rfl), (Nat.le_of_ble_eq_true rfl)⟩) (c_preV hP hKN (q := (6 + 7 * j)) (ci := 0) (fs := [.ref (ad (6 + 7 * j + 1)), .ref (ad (6 + 7 * j + 3)), .ref (ad (6 + 7 * j + 4)), .ref (ad (6 + 7 * j + 5)), .ref (ad (6 + 7 * j + 6)), .int ((V (6 + 7 * j)) 5), .int ((V (6 + 7 * j)) 6), .int ((V (6 + 7 * j)) 0), .int ((V (6 + 7 * j)) 1), .int ((V (6 + 7 * j)) 2), .int ((V (6 + 7 * j)) 3), .int ((V (6 + 7 * j)) 4)]) (by have := hj; omega) (ce_bd ad cI cB hj (V (6 + 7 * j))) rfl rfl) rfl hl.1 rfl (Nat.le_of_ble_eq_true rfl) dX0_readAt_14 ⟨Nat.zero_le _, Nat.zero_le _⟩ (fun H locs hP hS => ?_)
    refine lv_iload_n hx hb dX0_readAt_17 rfl (lv_at hl 2 rfl) ?_
    refine k_SR (As := [.int (f_X0_signAt V j p1), .int p2]) (rest := [.ref (ad (6 + 7 * j + 1))]) ⟨hx, hb, hml, hown, hts⟩ hKN hP hS (m_X6_seen l D cI cB ad V (f_X0_signAt V j p1) p2) (va_cwS 2 hts gX0_readAt_X6_seen rfl rfl rfl (by decide +kernel) ⟨(Nat.le_of_ble_eq_true rfl), (Nat.le_of_ble_eq_true rfl)⟩) rfl hl.1 rfl (Nat.le_of_ble_eq_true rfl) dX0_readAt_18 ⟨Nat.zero_le _, Nat.zero_le _⟩ (fun H locs hP hS => ?_)
    refine lv_iconst (v := (-1)) hx hb dX0_readAt_21 (by decide) ?_
    have hn1 := hp
    refine k_VR (As := [.int (f_X6_seen V (f_X0_signAt V j p1) p2), .int (-1)]) (rest := []) (q := (6 + 7 * j + 1)) ⟨hx, hb, hml, hown, hts⟩ hKN hP hS (m_X3_nearest l D cI cB ad fu V j (f_X6_seen V (f_X0_signAt V j p1) p2) (-1) hj hn1) (cwV 2 hts gX0_readAt_X3_nearest rfl rfl rfl (by decide +kernel) ⟨(Nat.le_of_ble_eq_true rfl), (Nat.le_of_ble_eq_true rfl)⟩) (c_preV hP hKN (q := (6 + 7 * j + 1)) (ci := 3) (fs := [.ref (ad (6 + 7 * j + 2))]) (by have := hj; omega) (ce_lt ad cI cB hj (V (6 + 7 * j + 1))) rfl rfl) rfl hl.1 rfl (Nat.le_of_ble_eq_true rfl) dX0_readAt_22 ⟨Nat.zero_le _, Nat.zero_le _⟩ (fun H locs hP hS => ?_)
    refine lv_goto (tgt := 29) hx hb dX0_readAt_25 (by decide) ?_
    exact W.iret (v := (f_X3_nearest fu V j (f_X6_seen V (f_X0_signAt V j p1) p2) (-1))) hx hb hr (fun t ht hW => ⟨⟨(f_X3_nearest fu V j (f_X6_seen V (f_X0_signAt V j p1) p2) (-1)), (), rfl, hE.symm, trivial⟩, hS.F ht⟩) hS.2.2 dX0_readAt_29
def f_X0_marginAt (fu : Nat) (V : VT) (j : Nat) (p1 : Int32) (p2 : Int32) : Int32 := (f_X3_marginOf fu V j (f_X6_seen V (f_X0_signAt V j p1) p2) (f_X0_wantedAt V j p1 p2))
def p_X0_marginAt (fu : Nat) (V : VT) (j : Nat) (p1 : Int32) (p2 : Int32) : Prop := (p_X3_marginOf fu V j (f_X6_seen V (f_X0_signAt V j p1) p2) (f_X0_wantedAt V j p1 p2))
set_option maxHeartbeats 4000000 in
set_option maxRecDepth 100000 in
theorem m_X0_marginAt (l : Launch) (D : va_G) (cI cB : ClassId) (ad : Nat → Nat) (fu : Nat) (V : VT) (j : Nat) (p1 : Int32) (p2 : Int32) (hj : j < 6) (hp : p_X0_marginAt fu V j p1 p2) : Met l yX0_marginAt wsX0_marginAt ({ frames := 3, cells := 0, slots := 0, locals := 65 }) (cP D cI cB ad V [.ref (ad (6 + 7 * j)), .int p1, .int p2]) (cR (f_X0_marginAt fu V j p1 p2)) 0 0 (fun _ => False) := by
  refine Met.ofW (cc := cX0_marginAt) (maxL := 3) (ret := (some .int)) (by decide +kernel) rfl ?_
  intro p e s m args below meth c s₁ B hml hv
  obtain ⟨rfl, hP, hKN⟩ := hv
  have hK := hKN.1
  have hx := B.exec
  have hb := B.bytes
  have hr := B.returns
  have hts := atoms_spec (ws := wsX0_marginAt) B.pre
  have hown : s.vm.findClass RX0 = some m.cls := findClass_of_methodNamed B.named
  have hlocks := B.notSynchronized
  have hS : va_S (fun _ => False) s.heap s.heap [] := va_S.rf
  have hl := lv_entry ([.ref (ad (6 + 7 * j)), .int p1, .int p2]) (n := 3) (Nat.le_of_ble_eq_true rfl)
  rw [lg_entry_eq]
  generalize (lg_sl ([.ref (ad (6 + 7 * j)), .int p1, .int p2]) ++ List.replicate (3 - (lg_sl ([.ref (ad (6 + 7 * j)), .int p1, .int p2])).length) Slot.unset).toArray = ls at hl ⊢
  have hl : lv_has ls 3 [(0, .ref (ad (6 + 7 * j))), (1, .int p1), (2, .int p2)] := hl
  have hE : f_X0_marginAt fu V j p1 p2 = (f_X3_marginOf fu V j (f_X6_seen V (f_X0_signAt V j p1) p2) (f_X0_wantedAt V j p1 p2)) := rfl
  refine lv_aload_n hx hb dX0_marginAt_0 rfl (lv_at hl 0 rfl) ?_
  refine x_get (ci := 0) (fs := [.ref (ad (6 + 7 * j + 1)), .ref (ad (6 + 7 * j + 3)), .ref (ad (6 + 7 * j + 4)), .ref (ad (6 + 7 * j + 5)), .ref (ad (6 + 7 * j + 6)), .int ((V (6 + 7 * j)) 5), .int ((V (6 + 7 * j)) 6), .int ((V (6 + 7 * j)) 0), .int ((V (6 + 7 * j)) 1), .int ((V (6 + 7 * j)) 2), .int ((V (6 + 7 * j)) 3), .int ((V (6 + 7 * j)) 4)]) (q := (6 + 7 * j)) (v := .ref (ad (6 + 7 * j + 1))) (N := 12) hx hb hts (fun _ h => List.mem_cons_of_mem _ (List.mem_append_left _ (List.mem_append_right _ h))) hown hK hP (by have := hj; omega) (ce_bd ad cI cB hj (V (6 + 7 * j))) rfl 0 (by decide) (hts (.fieldLink RX0 12 "TurnedBoards$Board" "letters" "LTurnedBoards$Letters;") (List.mem_of_getElem? (i := 1) rfl)) rfl rfl dX0_marginAt_1 ?_
  refine lv_aload_n hx hb dX0_marginAt_4 rfl (lv_at hl 0 rfl) ?_
  refine lv_iload_n hx hb dX0_marginAt_5 rfl (lv_at hl 1 rfl) ?_
  refine k_VR (As := [.int p1]) (rest := [.ref (ad (6 + 7 * j + 1))]) (q := (6 + 7 * j)) ⟨hx, hb, hml, hown, hts⟩ hKN hP hS (m_X0_signAt l D cI cB ad V j p1 hj) (cwV 1 hts gX0_marginAt_X0_signAt rfl rfl rfl (by decide +kernel) ⟨(Nat.le_of_ble_eq_true rfl), (Nat.le_of_ble_eq_true rfl)⟩) (c_preV hP hKN (q := (6 + 7 * j)) (ci := 0) (fs := [.ref (ad (6 + 7 * j + 1)), .ref (ad (6 + 7 * j + 3)), .ref (ad (6 + 7 * j + 4)), .ref (ad (6 + 7 * j + 5)), .ref (ad (6 + 7 * j + 6)), .int ((V (6 + 7 * j)) 5), .int ((V (6 + 7 * j)) 6), .int ((V (6 + 7 * j)) 0), .int ((V (6 + 7 * j)) 1), .int ((V (6 + 7 * j)) 2), .int ((V (6 + 7 * j)) 3), .int ((V (6 + 7 * j)) 4)]) (by have := hj; omega) (ce_bd ad cI cB hj (V (6 + 7 * j))) rfl rfl) rfl hl.1 rfl (Nat.le_of_ble_eq_true rfl) dX0_marginAt_6 ⟨Nat.zero_le _, Nat.zero_le _⟩ (fun H locs hP hS => ?_)
  refine lv_iload_n hx hb dX0_marginAt_9 rfl (lv_at hl 2 rfl) ?_
  refine k_SR (As := [.int (f_X0_signAt V j p1), .int p2]) (rest := [.ref (ad (6 + 7 * j + 1))]) ⟨hx, hb, hml, hown, hts⟩ hKN hP hS (m_X6_seen l D cI cB ad V (f_X0_signAt V j p1) p2) (va_cwS 2 hts gX0_marginAt_X6_seen rfl rfl rfl (by decide +kernel) ⟨(Nat.le_of_ble_eq_true rfl), (Nat.le_of_ble_eq_true rfl)⟩) rfl hl.1 rfl (Nat.le_of_ble_eq_true rfl) dX0_marginAt_10 ⟨Nat.zero_le _, Nat.zero_le _⟩ (fun H locs hP hS => ?_)
  refine lv_aload_n hx hb dX0_marginAt_13 rfl (lv_at hl 0 rfl) ?_
  refine lv_iload_n hx hb dX0_marginAt_14 rfl (lv_at hl 1 rfl) ?_
  refine lv_iload_n hx hb dX0_marginAt_15 rfl (lv_at hl 2 rfl) ?_
  refine k_VR (As := [.int p1, .int p2]) (rest := [.int (f_X6_seen V (f_X0_signAt V j p1) p2), .ref (ad (6 + 7 * j + 1))]) (q := (6 + 7 * j)) ⟨hx, hb, hml, hown, hts⟩ hKN hP hS (m_X0_wantedAt l D cI cB ad V j p1 p2 hj) (cwV 2 hts gX0_marginAt_X0_wantedAt rfl rfl rfl (by decide +kernel) ⟨(Nat.le_of_ble_eq_true rfl), (Nat.le_of_ble_eq_true rfl)⟩) (c_preV hP hKN (q := (6 + 7 * j)) (ci := 0) (fs := [.ref (ad (6 + 7 * j + 1)), .ref (ad (6 + 7 * j + 3)), .ref (ad (6 + 7 * j + 4)), .ref (ad (6 + 7 * j + 5)), .ref (ad (6 + 7 * j + 6)), .int ((V (6 + 7 * j)) 5), .int ((V (6 + 7 * j)) 6), .int ((V (6 + 7 * j)) 0), .int ((V (6 + 7 * j)) 1), .int ((V (6 + 7 * j)) 2), .int ((V (6 + 7 * j)) 3), .int ((V (6 + 7 * j)) 4)]) (by have := hj; omega) (ce_bd ad cI cB hj (V (6 + 7 * j))) rfl rfl) rfl hl.1 rfl (Nat.le_of_ble_eq_true rfl) dX0_marginAt_16 ⟨Nat.zero_le _, Nat.zero_le _⟩ (fun H locs hP hS => ?_)
  have hn1 := hp
  refine k_VR (As := [.int (f_X6_seen V (f_X0_signAt V j p1) p2), .int (f_X0_wantedAt V j p1 p2)]) (rest := []) (q := (6 + 7 * j + 1)) ⟨hx, hb, hml, hown, hts⟩ hKN hP hS (m_X3_marginOf l D cI cB ad fu V j (f_X6_seen V (f_X0_signAt V j p1) p2) (f_X0_wantedAt V j p1 p2) hj hn1) (cwV 2 hts gX0_marginAt_X3_marginOf rfl rfl rfl (by decide +kernel) ⟨(Nat.le_of_ble_eq_true rfl), (Nat.le_of_ble_eq_true rfl)⟩) (c_preV hP hKN (q := (6 + 7 * j + 1)) (ci := 3) (fs := [.ref (ad (6 + 7 * j + 2))]) (by have := hj; omega) (ce_lt ad cI cB hj (V (6 + 7 * j + 1))) rfl rfl) rfl hl.1 rfl (Nat.le_of_ble_eq_true rfl) dX0_marginAt_19 ⟨Nat.zero_le _, Nat.zero_le _⟩ (fun H locs hP hS => ?_)
  exact W.iret (v := (f_X3_marginOf fu V j (f_X6_seen V (f_X0_signAt V j p1) p2) (f_X0_wantedAt V j p1 p2))) hx hb hr (fun t ht hW => ⟨⟨(f_X3_marginOf fu V j (f_X6_seen V (f_X0_signAt V j p1) p2) (f_X0_wantedAt V j p1 p2)), (), rfl, hE.symm, trivial⟩, hS.F ht⟩) hS.2.2 dX0_marginAt_22
def f_X0_misread_l1 (fu : Nat) (V : VT) (j : Nat) (p1 : Int32) : Nat → Int32 → Int32 → Int32
  | 0, x2_1, x3_1 => 0
  | w1 + 1, x2_1, x3_1 => (if (V (6 + 7 * j) 0) ≤ x3_1 then x2_1 else (if (f_X0_readAt fu V j x3_1 p1) = (f_X0_wantedAt V j x3_1 p1) then (f_X0_misread_l1 fu V j p1 w1 x2_1 (x3_1 + 1)) else (f_X0_misread_l1 fu V j p1 w1 (x2_1 + 1) (x3_1 + 1))))
def p_X0_misread_l1 (fu : Nat) (V : VT) (j : Nat) (p1 : Int32) : Nat → Int32 → Int32 → Prop
  | 0, _, _ => False
  | w1 + 1, x2_1, x3_1 => (((V (6 + 7 * j) 0) ≤ x3_1 → True) ∧ (¬ ((V (6 + 7 * j) 0) ≤ x3_1) → ((p_X0_readAt fu V j x3_1 p1) ∧ (((f_X0_readAt fu V j x3_1 p1) = (f_X0_wantedAt V j x3_1 p1) → (p_X0_misread_l1 fu V j p1 w1 x2_1 (x3_1 + 1))) ∧ (¬ ((f_X0_readAt fu V j x3_1 p1) = (f_X0_wantedAt V j x3_1 p1)) → (p_X0_misread_l1 fu V j p1 w1 (x2_1 + 1) (x3_1 + 1)))))))
def f_X0_misread (fu : Nat) (V : VT) (j : Nat) (p1 : Int32) : Int32 := (f_X0_misread_l1 fu V j p1 fu 0 0)
def p_X0_misread (fu : Nat) (V : VT) (j : Nat) (p1 : Int32) : Prop := (p_X0_misread_l1 fu V j p1 fu 0 0)
set_option maxHeartbeats 4000000 in
set_option maxRecDepth 100000 in
theorem m_X0_misread (l : Launch) (D : va_G) (cI cB : ClassId) (ad : Nat → Nat) (fu : Nat) (V : VT) (j : Nat) (p1 : Int32) (hj : j < 6) (hp : p_X0_misread fu V j p1) : Met l yX0_misread wsX0_misread ({ frames := 3, cells := 0, slots := 0, locals := 68 }) (cP D cI cB ad V [.ref (ad (6 + 7 * j)), .int p1]) (cR (f_X0_misread fu V j p1)) 0 0 (fun _ => False) := by
  refine Met.ofW (cc := cX0_misread) (maxL := 4) (ret := (some .int)) (by decide +kernel) rfl ?_
  intro p e s m args below meth c s₁ B hml hv
  obtain ⟨rfl, hP, hKN⟩ := hv
  have hK := hKN.1
  have hx := B.exec
  have hb := B.bytes
  have hr := B.returns
  have hts := atoms_spec (ws := wsX0_misread) B.pre
  have hown : s.vm.findClass RX0 = some m.cls := findClass_of_methodNamed B.named
  have hlocks := B.notSynchronized
  have hS : va_S (fun _ => False) s.heap s.heap [] := va_S.rf
  have hl := lv_entry ([.ref (ad (6 + 7 * j)), .int p1]) (n := 4) (Nat.le_of_ble_eq_true rfl)
  rw [lg_entry_eq]
  generalize (lg_sl ([.ref (ad (6 + 7 * j)), .int p1]) ++ List.replicate (4 - (lg_sl ([.ref (ad (6 + 7 * j)), .int p1])).length) Slot.unset).toArray = ls at hl ⊢
  have hl : lv_has ls 4 [(0, .ref (ad (6 + 7 * j))), (1, .int p1)] := hl
  have hE : f_X0_misread fu V j p1 = (f_X0_misread_l1 fu V j p1 fu 0 0) := rfl
  refine lv_iconst (v := 0) hx hb dX0_misread_0 (by decide) ?_
  refine lv_istore_n (lv' := [(2, .int 0), (0, .ref (ad (6 + 7 * j))), (1, .int p1)]) hx hb dX0_misread_1 rfl hl (by decide) rfl (fun ls hl => ?_)
  refine lv_iconst (v := 0) hx hb dX0_misread_2 (by decide) ?_
  refine lv_istore_n (lv' := [(3, .int 0), (2, .int 0), (0, .ref (ad (6 + 7 * j))), (1, .int p1)]) hx hb dX0_misread_3 rfl hl (by decide) rfl (fun ls hl => ?_)
  have L1 : ∀ (w1 : Nat) (x2_1 : Int32) (x3_1 : Int32), f_X0_misread fu V j p1 = f_X0_misread_l1 fu V j p1 w1 x2_1 x3_1 → p_X0_misread_l1 fu V j p1 w1 x2_1 x3_1 → ∀ (H : Heap) (locs : List Loc), wP D cI cB ad V H → va_S (fun _ => False) s.heap H locs → ∀ (ls : Array Slot), lv_has ls 4 [(0, .ref (ad (6 + 7 * j))), (1, .int p1), (2, .int x2_1), (3, .int x3_1)] → W p l e (headSpec wsX0_misread ({ frames := 3, cells := 0, slots := 0, locals := 68 })).room s m ([.ref (ad (6 + 7 * j)), .int p1] : List Value).toArray below meth c H locs 0 0 (MQ below (cR (f_X0_misread fu V j p1)) ([.ref (ad (6 + 7 * j)), .int p1] : List Value).toArray s 0 0 (fun _ => False)) (F0 m 4 ls []) := by
    intro w1
    induction w1 with
    | zero => intro x2_1 x3_1 hE hp; exact hp.elim
    | succ w1 ih1 =>
      intro x2_1 x3_1 hE hp H locs hP hS ls hl
      rw [f_X0_misread_l1] at hE
      rw [p_X0_misread_l1] at hp
      refine lv_iload_n hx hb dX0_misread_4 rfl (lv_at hl 3 rfl) ?_
      refine lv_aload_n hx hb dX0_misread_5 rfl (lv_at hl 0 rfl) ?_
      refine x_get (ci := 0) (fs := [.ref (ad (6 + 7 * j + 1)), .ref (ad (6 + 7 * j + 3)), .ref (ad (6 + 7 * j + 4)), .ref (ad (6 + 7 * j + 5)), .ref (ad (6 + 7 * j + 6)), .int ((V (6 + 7 * j)) 5), .int ((V (6 + 7 * j)) 6), .int ((V (6 + 7 * j)) 0), .int ((V (6 + 7 * j)) 1), .int ((V (6 + 7 * j)) 2), .int ((V (6 + 7 * j)) 3), .int ((V (6 + 7 * j)) 4)]) (q := (6 + 7 * j)) (v := .int (V (6 + 7 * j) 0)) (N := 12) hx hb hts (fun _ h => List.mem_cons_of_mem _ (List.mem_append_left _ (List.mem_append_right _ h))) hown hK hP (by have := hj; omega) (ce_bd ad cI cB hj (V (6 + 7 * j))) rfl 7 (by decide) (hts (.fieldLink RX0 38 "TurnedBoards$Board" "places" "I") (List.mem_of_getElem? (i := 1) rfl)) rfl rfl dX0_misread_6 ?_
      refine lv_icmp_ge (tgt := 36) hx hb dX0_misread_9 (by decide) (fun c1 => ?_) (fun c1 => ?_)
      · have hE := hE.trans (if_pos c1)
        refine lv_iload_n hx hb dX0_misread_36 rfl (lv_at hl 2 rfl) ?_
        exact W.iret (v := x2_1) hx hb hr (fun t ht hW => ⟨⟨x2_1, (), rfl, hE.symm, trivial⟩, hS.F ht⟩) hS.2.2 dX0_misread_37
      · have hE := hE.trans (if_neg c1)
        have hp := pc_bn hp c1
        refine lv_aload_n hx hb dX0_misread_12 rfl (lv_at hl 0 rfl) ?_
        refine lv_iload_n hx hb dX0_misread_13 rfl (lv_at hl 3 rfl) ?_
        refine lv_iload_n hx hb dX0_misread_14 rfl (lv_at hl 1 rfl) ?_
        obtain ⟨hn1, hp⟩ := hp
        refine k_VR (As := [.int x3_1, .int p1]) (rest := []) (q := (6 + 7 * j)) ⟨hx, hb, hml, hown, hts⟩ hKN hP hS (m_X0_readAt l D cI cB ad fu V j x3_1 p1 hj hn1) (cwV 2 hts gX0_misread_X0_readAt rfl rfl rfl (by decide +kernel) ⟨(Nat.le_of_ble_eq_true rfl), (Nat.le_of_ble_eq_true rfl)⟩) (c_preV hP hKN (q := (6 + 7 * j)) (ci := 0) (fs := [.ref (ad (6 + 7 * j + 1)), .ref (ad (6 + 7 * j + 3)), .ref (ad (6 + 7 * j + 4)), .ref (ad (6 + 7 * j + 5)), .ref (ad (6 + 7 * j + 6)), .int ((V (6 + 7 * j)) 5), .int ((V (6 + 7 * j)) 6), .int ((V (6 + 7 * j)) 0), .int ((V (6 + 7 * j)) 1), .int ((V (6 + 7 * j)) 2), .int ((V (6 + 7 * j)) 3), .int ((V (6 + 7 * j)) 4)]) (by have := hj; omega) (ce_bd ad cI cB hj (V (6 + 7 * j))) rfl rfl) rfl hl.1 rfl (Nat.le_of_ble_eq_true rfl) dX0_misread_15 ⟨Nat.zero_le _, Nat.zero_le _⟩ (fun H locs hP hS => ?_)
        refine lv_aload_n hx hb dX0_misread_18 rfl (lv_at hl 0 rfl) ?_
        refine lv_iload_n hx hb dX0_misread_19 rfl (lv_at hl 3 rfl) ?_
        refine lv_iload_n hx hb dX0_misread_20 rfl (lv_at hl 1 rfl) ?_
        refine k_VR (As := [.int x3_1, .int p1]) (rest := [.int (f_X0_readAt fu V j x3_1 p1)]) (q := (6 + 7 * j)) ⟨hx, hb, hml, hown, hts⟩ hKN hP hS (m_X0_wantedAt l D cI cB ad V j x3_1 p1 hj) (cwV 2 hts gX0_misread_X0_wantedAt rfl rfl rfl (by decide +kernel) ⟨(Nat.le_of_ble_eq_true rfl), (Nat.le_of_ble_eq_true rfl)⟩) (c_preV hP hKN (q := (6 + 7 * j)) (ci := 0) (fs := [.ref (ad (6 + 7 * j + 1)), .ref (ad (6 + 7 * j + 3)), .ref (ad (6 + 7 * j + 4)), .ref (ad (6 + 7 * j + 5)), .ref (ad (6 + 7 * j + 6)), .int ((V (6 + 7 * j)) 5), .int ((V (6 + 7 * j)) 6), .int ((V (6 + 7 * j)) 0), .int ((V (6 + 7 * j)) 1), .int ((V (6 + 7 * j)) 2), .int ((V (6 + 7 * j)) 3), .int ((V (6 + 7 * j)) 4)]) (by have := hj; omega) (ce_bd ad cI cB hj (V (6 + 7 * j))) rfl rfl) rfl hl.1 rfl (Nat.le_of_ble_eq_true rfl) dX0_misread_21 ⟨Nat.zero_le _, Nat.zero_le _⟩ (fun H locs hP hS => ?_)
        refine lv_icmp_eq (tgt := 30) hx hb dX0_misread_24 (by decide) (fun c2 => ?_) (fun c2 => ?_)
        · have hE := hE.trans (if_pos c2)
          have hp := pc_br hp c2
          refine lv_iinc (v := (x3_1 + 1)) (lv' := [(3, .int (x3_1 + 1)), (0, .ref (ad (6 + 7 * j))), (1, .int p1), (2, .int x2_1)]) hx hb dX0_misread_30 hl (k := 3) rfl (by rfl) (by decide) rfl (fun ls hl => ?_)
          refine lv_goto (tgt := 4) hx hb dX0_misread_33 (by decide) ?_
          exact ih1 x2_1 (x3_1 + 1) hE hp H locs hP hS ls (lv_sub hl [1, 2, 3, 0] rfl)
        · have hE := hE.trans (if_neg c2)
          have hp := pc_bn hp c2
          refine lv_iinc (v := (x2_1 + 1)) (lv' := [(2, .int (x2_1 + 1)), (0, .ref (ad (6 + 7 * j))), (1, .int p1), (3, .int x3_1)]) hx hb dX0_misread_27 hl (k := 2) rfl (by rfl) (by decide) rfl (fun ls hl => ?_)
          refine lv_iinc (v := (x3_1 + 1)) (lv' := [(3, .int (x3_1 + 1)), (2, .int (x2_1 + 1)), (0, .ref (ad (6 + 7 * j))), (1, .int p1)]) hx hb dX0_misread_30 hl (k := 3) rfl (by rfl) (by decide) rfl (fun ls hl => ?_)
          refine lv_goto (tgt := 4) hx hb dX0_misread_33 (by decide) ?_
          exact ih1 (x2_1 + 1) (x3_1 + 1) hE hp H locs hP hS ls (lv_sub hl [2, 3, 1, 0] rfl)
  exact L1 fu 0 0 hE hp _ _ hP hS _ (lv_sub hl [2, 3, 1, 0] rfl)
def f_X0_timesWanted_l1 (fu : Nat) (V : VT) (j : Nat) (p1 : Int32) : Nat → Int32 → Int32 → Int32
  | 0, x2_1, x3_1 => 0
  | w1 + 1, x2_1, x3_1 => (if (V (6 + 7 * j) 0) ≤ x3_1 then x2_1 else (if (f_X0_letterIn V j 0 x3_1) = p1 then (if (f_X0_letterIn V j 1 x3_1) = p1 then (f_X0_timesWanted_l1 fu V j p1 w1 ((x2_1 + 1) + 1) (x3_1 + 1)) else (f_X0_timesWanted_l1 fu V j p1 w1 ((x2_1 + 1) + 0) (x3_1 + 1))) else (if (f_X0_letterIn V j 1 x3_1) = p1 then (f_X0_timesWanted_l1 fu V j p1 w1 ((x2_1 + 0) + 1) (x3_1 + 1)) else (f_X0_timesWanted_l1 fu V j p1 w1 ((x2_1 + 0) + 0) (x3_1 + 1)))))
def p_X0_timesWanted_l1 (fu : Nat) (V : VT) (j : Nat) (p1 : Int32) : Nat → Int32 → Int32 → Prop
  | 0, _, _ => False
  | w1 + 1, x2_1, x3_1 => (((V (6 + 7 * j) 0) ≤ x3_1 → True) ∧ (¬ ((V (6 + 7 * j) 0) ≤ x3_1) → (((f_X0_letterIn V j 0 x3_1) = p1 → (((f_X0_letterIn V j 1 x3_1) = p1 → (p_X0_timesWanted_l1 fu V j p1 w1 ((x2_1 + 1) + 1) (x3_1 + 1))) ∧ (¬ ((f_X0_letterIn V j 1 x3_1) = p1) → (p_X0_timesWanted_l1 fu V j p1 w1 ((x2_1 + 1) + 0) (x3_1 + 1))))) ∧ (¬ ((f_X0_letterIn V j 0 x3_1) = p1) → (((f_X0_letterIn V j 1 x3_1) = p1 → (p_X0_timesWanted_l1 fu V j p1 w1 ((x2_1 + 0) + 1) (x3_1 + 1))) ∧ (¬ ((f_X0_letterIn V j 1 x3_1) = p1) → (p_X0_timesWanted_l1 fu V j p1 w1 ((x2_1 + 0) + 0) (x3_1 + 1))))))))
def f_X0_timesWanted (fu : Nat) (V : VT) (j : Nat) (p1 : Int32) : Int32 := (f_X0_timesWanted_l1 fu V j p1 fu 0 0)
def p_X0_timesWanted (fu : Nat) (V : VT) (j : Nat) (p1 : Int32) : Prop := (p_X0_timesWanted_l1 fu V j p1 fu 0 0)
set_option maxHeartbeats 4000000 in
set_option maxRecDepth 100000 in
theorem m_X0_timesWanted (l : Launch) (D : va_G) (cI cB : ClassId) (ad : Nat → Nat) (fu : Nat) (V : VT) (j : Nat) (p1 : Int32) (hj : j < 6) (hp : p_X0_timesWanted fu V j p1) : Met l yX0_timesWanted wsX0_timesWanted ({ frames := 2, cells := 0, slots := 0, locals := 43 }) (cP D cI cB ad V [.ref (ad (6 + 7 * j)), .int p1]) (cR (f_X0_timesWanted fu V j p1)) 0 0 (fun _ => False) := by
  refine Met.ofW (cc := cX0_timesWanted) (maxL := 4) (ret := (some .int)) (by decide +kernel) rfl ?_
  intro p e s m args below meth c s₁ B hml hv
  obtain ⟨rfl, hP, hKN⟩ := hv
  have hK := hKN.1
  have hx := B.exec
  have hb := B.bytes
  have hr := B.returns
  have hts := atoms_spec (ws := wsX0_timesWanted) B.pre
  have hown : s.vm.findClass RX0 = some m.cls := findClass_of_methodNamed B.named
  have hlocks := B.notSynchronized
  have hS : va_S (fun _ => False) s.heap s.heap [] := va_S.rf
  have hl := lv_entry ([.ref (ad (6 + 7 * j)), .int p1]) (n := 4) (Nat.le_of_ble_eq_true rfl)
  rw [lg_entry_eq]
  generalize (lg_sl ([.ref (ad (6 + 7 * j)), .int p1]) ++ List.replicate (4 - (lg_sl ([.ref (ad (6 + 7 * j)), .int p1])).length) Slot.unset).toArray = ls at hl ⊢
  have hl : lv_has ls 4 [(0, .ref (ad (6 + 7 * j))), (1, .int p1)] := hl
  have hE : f_X0_timesWanted fu V j p1 = (f_X0_timesWanted_l1 fu V j p1 fu 0 0) := rfl
  refine lv_iconst (v := 0) hx hb dX0_timesWanted_0 (by decide) ?_
  refine lv_istore_n (lv' := [(2, .int 0), (0, .ref (ad (6 + 7 * j))), (1, .int p1)]) hx hb dX0_timesWanted_1 rfl hl (by decide) rfl (fun ls hl => ?_)
  refine lv_iconst (v := 0) hx hb dX0_timesWanted_2 (by decide) ?_
  refine lv_istore_n (lv' := [(3, .int 0), (2, .int 0), (0, .ref (ad (6 + 7 * j))), (1, .int p1)]) hx hb dX0_timesWanted_3 rfl hl (by decide) rfl (fun ls hl => ?_)
  have L1 : ∀ (w1 : Nat) (x2_1 : Int32) (x3_1 : Int32), f_X0_timesWanted fu V j p1 = f_X0_timesWanted_l1 fu V j p1 w1 x2_1 x3_1 → p_X0_timesWanted_l1 fu V j p1 w1 x2_1 x3_1 → ∀ (H : Heap) (locs : List Loc), wP D cI cB ad V H → va_S (fun _ => False) s.heap H locs → ∀ (ls : Array Slot), lv_has ls 4 [(0, .ref (ad (6 + 7 * j))), (1, .int p1), (2, .int x2_1), (3, .int x3_1)] → W p l e (headSpec wsX0_timesWanted ({ frames := 2, cells := 0, slots := 0, locals := 43 })).room s m ([.ref (ad (6 + 7 * j)), .int p1] : List Value).toArray below meth c H locs 0 0 (MQ below (cR (f_X0_timesWanted fu V j p1)) ([.ref (ad (6 + 7 * j)), .int p1] : List Value).toArray s 0 0 (fun _ => False)) (F0 m 4 ls []) := by
    intro w1
    induction w1 with
    | zero => intro x2_1 x3_1 hE hp; exact hp.elim
    | succ w1 ih1 =>
      intro x2_1 x3_1 hE hp H locs hP hS ls hl
      rw [f_X0_timesWanted_l1] at hE
      rw [p_X0_timesWanted_l1] at hp
      refine lv_iload_n hx hb dX0_timesWanted_4 rfl (lv_at hl 3 rfl) ?_
      refine lv_aload_n hx hb dX0_timesWanted_5 rfl (lv_at hl 0 rfl) ?_
      refine x_get (ci := 0) (fs := [.ref (ad (6 + 7 * j + 1)), .ref (ad (6 + 7 * j + 3)), .ref (ad (6 + 7 * j + 4)), .ref (ad (6 + 7 * j + 5)), .ref (ad (6 + 7 * j + 6)), .int ((V (6 + 7 * j)) 5), .int ((V (6 + 7 * j)) 6), .int ((V (6 + 7 * j)) 0), .int ((V (6 + 7 * j)) 1), .int ((V (6 + 7 * j)) 2), .int ((V (6 + 7 * j)) 3), .int ((V (6 + 7 * j)) 4)]) (q := (6 + 7 * j)) (v := .int (V (6 + 7 * j) 0)) (N := 12) hx hb hts (fun _ h => List.mem_cons_of_mem _ (List.mem_append_right _ h)) hown hK hP (by have := hj; omega) (ce_bd ad cI cB hj (V (6 + 7 * j))) rfl 7 (by decide) (hts (.fieldLink RX0 38 "TurnedBoards$Board" "places" "I") (List.mem_of_getElem? (i := 1) rfl)) rfl rfl dX0_timesWanted_6 ?_
      refine lv_icmp_ge (tgt := 54) hx hb dX0_timesWanted_9 (by decide) (fun c1 => ?_) (fun c1 => ?_)
      · have hE := hE.trans (if_pos c1)
        refine lv_iload_n hx hb dX0_timesWanted_54 rfl (lv_at hl 2 rfl) ?_
        exact W.iret (v := x2_1) hx hb hr (fun t ht hW => ⟨⟨x2_1, (), rfl, hE.symm, trivial⟩, hS.F ht⟩) hS.2.2 dX0_timesWanted_55
      · have hE := hE.trans (if_neg c1)
        have hp := pc_bn hp c1
        refine lv_iload_n hx hb dX0_timesWanted_12 rfl (lv_at hl 2 rfl) ?_
        refine lv_aload_n hx hb dX0_timesWanted_13 rfl (lv_at hl 0 rfl) ?_
        refine lv_iconst (v := 0) hx hb dX0_timesWanted_14 (by decide) ?_
        refine lv_iload_n hx hb dX0_timesWanted_15 rfl (lv_at hl 3 rfl) ?_
        refine k_VR (As := [.int 0, .int x3_1]) (rest := [.int x2_1]) (q := (6 + 7 * j)) ⟨hx, hb, hml, hown, hts⟩ hKN hP hS (m_X0_letterIn l D cI cB ad V j 0 x3_1 hj) (cwV 2 hts gX0_timesWanted_X0_letterIn rfl rfl rfl (by decide +kernel) ⟨(Nat.le_of_ble_eq_true rfl), (Nat.le_of_ble_eq_true rfl)⟩) (c_preV hP hKN (q := (6 + 7 * j)) (ci := 0) (fs := [.ref (ad (6 + 7 * j + 1)), .ref (ad (6 + 7 * j + 3)), .ref (ad (6 + 7 * j + 4)), .ref (ad (6 + 7 * j + 5)), .ref (ad (6 + 7 * j + 6)), .int ((V (6 + 7 * j)) 5), .int ((V (6 + 7 * j)) 6), .int ((V (6 + 7 * j)) 0), .int ((V (6 + 7 * j)) 1), .int ((V (6 + 7 * j)) 2), .int ((V (6 + 7 * j)) 3), .int ((V (6 + 7 * j)) 4)]) (by have := hj; omega) (ce_bd ad cI cB hj (V (6 + 7 * j))) rfl rfl) rfl hl.1 rfl (Nat.le_of_ble_eq_true rfl) dX0_timesWanted_16 ⟨Nat.zero_le _, Nat.zero_le _⟩ (fun H locs hP hS => ?_)
        refine lv_iload_n hx hb dX0_timesWanted_19 rfl (lv_at hl 1 rfl) ?_
        refine lv_icmp_ne (tgt := 27) hx hb dX0_timesWanted_20 (by decide) (fun c2 => ?_) (fun c2 => ?_)
        · have hE := hE.trans (if_neg c2)
          have hp := pc_bn hp c2
          refine lv_iconst (v := 0) hx hb dX0_timesWanted_27 (by decide) ?_
          refine lv_iadd hx hb dX0_timesWanted_28 ?_
          refine lv_istore_n (lv' := [(2, .int (x2_1 + 0)), (0, .ref (ad (6 + 7 * j))), (1, .int p1), (3, .int x3_1)]) hx hb dX0_timesWanted_29 rfl hl (by decide) rfl (fun ls hl => ?_)
          refine lv_iload_n hx hb dX0_timesWanted_30 rfl (lv_at hl 0 rfl) ?_
          refine lv_aload_n hx hb dX0_timesWanted_31 rfl (lv_at hl 1 rfl) ?_
          refine lv_iconst (v := 1) hx hb dX0_timesWanted_32 (by decide) ?_
          refine lv_iload_n hx hb dX0_timesWanted_33 rfl (lv_at hl 3 rfl) ?_
          refine k_VR (As := [.int 1, .int x3_1]) (rest := [.int (x2_1 + 0)]) (q := (6 + 7 * j)) ⟨hx, hb, hml, hown, hts⟩ hKN hP hS (m_X0_letterIn l D cI cB ad V j 1 x3_1 hj) (cwV 2 hts gX0_timesWanted_X0_letterIn rfl rfl rfl (by decide +kernel) ⟨(Nat.le_of_ble_eq_true rfl), (Nat.le_of_ble_eq_true rfl)⟩) (c_preV hP hKN (q := (6 + 7 * j)) (ci := 0) (fs := [.ref (ad (6 + 7 * j + 1)), .ref (ad (6 + 7 * j + 3)), .ref (ad (6 + 7 * j + 4)), .ref (ad (6 + 7 * j + 5)), .ref (ad (6 + 7 * j + 6)), .int ((V (6 + 7 * j)) 5), .int ((V (6 + 7 * j)) 6), .int ((V (6 + 7 * j)) 0), .int ((V (6 + 7 * j)) 1), .int ((V (6 + 7 * j)) 2), .int ((V (6 + 7 * j)) 3), .int ((V (6 + 7 * j)) 4)]) (by have := hj; omega) (ce_bd ad cI cB hj (V (6 + 7 * j))) rfl rfl) rfl hl.1 rfl (Nat.le_of_ble_eq_true rfl) dX0_timesWanted_34 ⟨Nat.zero_le _, Nat.zero_le _⟩ (fun H locs hP hS => ?_)
          refine lv_iload_n hx hb dX0_timesWanted_37 rfl (lv_at hl 2 rfl) ?_
          refine lv_icmp_ne (tgt := 45) hx hb dX0_timesWanted_38 (by decide) (fun c4 => ?_) (fun c4 => ?_)
          · have hE := hE.trans (if_neg c4)
            have hp := pc_bn hp c4
            refine lv_iconst (v := 0) hx hb dX0_timesWanted_45 (by decide) ?_
            refine lv_iadd hx hb dX0_timesWanted_46 ?_
            refine lv_istore_n (lv' := [(2, .int ((x2_1 + 0) + 0)), (0, .ref (ad (6 + 7 * j))), (1, .int p1), (3, .int x3_1)]) hx hb dX0_timesWanted_47 rfl hl (by decide) rfl (fun ls hl => ?_)
            refine lv_iinc (v := (x3_1 + 1)) (lv' := [(3, .int (x3_1 + 1)), (2, .int ((x2_1 + 0) + 0)), (0, .ref (ad (6 + 7 * j))), (1, .int p1)]) hx hb dX0_timesWanted_48 hl (k := 3) rfl (by rfl) (by decide) rfl (fun ls hl => ?_)
            refine lv_goto (tgt := 4) hx hb dX0_timesWanted_51 (by decide) ?_
            exact ih1 ((x2_1 + 0) + 0) (x3_1 + 1) hE hp H locs hP hS ls (lv_sub hl [2, 3, 1, 0] rfl)
          · have hE := hE.trans (if_pos c4)
            have hp := pc_br hp c4
            refine lv_iconst (v := 1) hx hb dX0_timesWanted_41 (by decide) ?_
            refine lv_goto (tgt := 46) hx hb dX0_timesWanted_42 (by decide) ?_
            refine lv_iadd hx hb dX0_timesWanted_46 ?_
            refine lv_istore_n (lv' := [(2, .int ((x2_1 + 0) + 1)), (0, .ref (ad (6 + 7 * j))), (1, .int p1), (3, .int x3_1)]) hx hb dX0_timesWanted_47 rfl hl (by decide) rfl (fun ls hl => ?_)
            refine lv_iinc (v := (x3_1 + 1)) (lv' := [(3, .int (x3_1 + 1)), (2, .int ((x2_1 + 0) + 1)), (0, .ref (ad (6 + 7 * j))), (1, .int p1)]) hx hb dX0_timesWanted_48 hl (k := 3) rfl (by rfl) (by decide) rfl (fun ls hl => ?_)
            refine lv_goto (tgt := 4) hx hb dX0_timesWanted_51 (by decide) ?_
            exact ih1 ((x2_1 + 0) + 1) (x3_1 + 1) hE hp H locs hP hS ls (lv_sub hl [2, 3, 1, 0] rfl)
        · have hE := hE.trans (if_pos c2)
          have hp := pc_br hp c2
          refine lv_iconst (v := 1) hx hb dX0_timesWanted_23 (by decide) ?_
          refine lv_goto (tgt := 28) hx hb dX0_timesWanted_24 (by decide) ?_
          refine lv_iadd hx hb dX0_timesWanted_28 ?_
          refine lv_istore_n (lv' := [(2, .int (x2_1 + 1)), (0, .ref (ad (6 + 7 * j))), (1, .int p1), (3, .int x3_1)]) hx hb dX0_timesWanted_29 rfl hl (by decide) rfl (fun ls hl => ?_)
          refine lv_iload_n hx hb dX0_timesWanted_30 rfl (lv_at hl 0 rfl) ?_
          refine lv_aload_n hx hb dX0_timesWanted_31 rfl (lv_at hl 1 rfl) ?_
          refine lv_iconst (v := 1) hx hb dX0_timesWanted_32 (by decide) ?_
          refine lv_iload_n hx hb dX0_timesWanted_33 rfl (lv_at hl 3 rfl) ?_
          refine k_VR (As := [.int 1, .int x3_1]) (rest := [.int (x2_1 + 1)]) (q := (6 + 7 * j)) ⟨hx, hb, hml, hown, hts⟩ hKN hP hS (m_X0_letterIn l D cI cB ad V j 1 x3_1 hj) (cwV 2 hts gX0_timesWanted_X0_letterIn rfl rfl rfl (by decide +kernel) ⟨(Nat.le_of_ble_eq_true rfl), (Nat.le_of_ble_eq_true rfl)⟩) (c_preV hP hKN (q := (6 + 7 * j)) (ci := 0) (fs := [.ref (ad (6 + 7 * j + 1)), .ref (ad (6 + 7 * j + 3)), .ref (ad (6 + 7 * j + 4)), .ref (ad (6 + 7 * j + 5)), .ref (ad (6 + 7 * j + 6)), .int ((V (6 + 7 * j)) 5), .int ((V (6 + 7 * j)) 6), .int ((V (6 + 7 * j)) 0), .int ((V (6 + 7 * j)) 1), .int ((V (6 + 7 * j)) 2), .int ((V (6 + 7 * j)) 3), .int ((V (6 + 7 * j)) 4)]) (by have := hj; omega) (ce_bd ad cI cB hj (V (6 + 7 * j))) rfl rfl) rfl hl.1 rfl (Nat.le_of_ble_eq_true rfl) dX0_timesWanted_34 ⟨Nat.zero_le _, Nat.zero_le _⟩ (fun H locs hP hS => ?_)
          refine lv_iload_n hx hb dX0_timesWanted_37 rfl (lv_at hl 2 rfl) ?_
          refine lv_icmp_ne (tgt := 45) hx hb dX0_timesWanted_38 (by decide) (fun c3 => ?_) (fun c3 => ?_)
          · have hE := hE.trans (if_neg c3)
            have hp := pc_bn hp c3
            refine lv_iconst (v := 0) hx hb dX0_timesWanted_45 (by decide) ?_
            refine lv_iadd hx hb dX0_timesWanted_46 ?_
            refine lv_istore_n (lv' := [(2, .int ((x2_1 + 1) + 0)), (0, .ref (ad (6 + 7 * j))), (1, .int p1), (3, .int x3_1)]) hx hb dX0_timesWanted_47 rfl hl (by decide) rfl (fun ls hl => ?_)
            refine lv_iinc (v := (x3_1 + 1)) (lv' := [(3, .int (x3_1 + 1)), (2, .int ((x2_1 + 1) + 0)), (0, .ref (ad (6 + 7 * j))), (1, .int p1)]) hx hb dX0_timesWanted_48 hl (k := 3) rfl (by rfl) (by decide) rfl (fun ls hl => ?_)
            refine lv_goto (tgt := 4) hx hb dX0_timesWanted_51 (by decide) ?_
            exact ih1 ((x2_1 + 1) + 0) (x3_1 + 1) hE hp H locs hP hS ls (lv_sub hl [2, 3, 1, 0] rfl)
          · have hE := hE.trans (if_pos c3)
            have hp := pc_br hp c3
            refine lv_iconst (v := 1) hx hb dX0_timesWanted_41 (by decide) ?_
            refine lv_goto (tgt := 46) hx hb dX0_timesWanted_42 (by decide) ?_
            refine lv_iadd hx hb dX0_timesWanted_46 ?_
            refine lv_istore_n (lv' := [(2, .int ((x2_1 + 1) + 1)), (0, .ref (ad (6 + 7 * j))), (1, .int p1), (3, .int x3_1)]) hx hb dX0_timesWanted_47 rfl hl (by decide) rfl (fun ls hl => ?_)
            refine lv_iinc (v := (x3_1 + 1)) (lv' := [(3, .int (x3_1 + 1)), (2, .int ((x2_1 + 1) + 1)), (0, .ref (ad (6 + 7 * j))), (1, .int p1)]) hx hb dX0_timesWanted_48 hl (k := 3) rfl (by rfl) (by decide) rfl (fun ls hl => ?_)
            refine lv_goto (tgt := 4) hx hb dX0_timesWanted_51 (by decide) ?_
            exact ih1 ((x2_1 + 1) + 1) (x3_1 + 1) hE hp H locs hP hS ls (lv_sub hl [2, 3, 1, 0] rfl)
  exact L1 fu 0 0 hE hp _ _ hP hS _ (lv_sub hl [2, 3, 1, 0] rfl)
def f_X0_allCoats_l1 (fu : Nat) (V : VT) (j : Nat) : Nat → Int32 → Int32 → Int32
  | 0, x1_1, x2_1 => 0
  | w1 + 1, x1_1, x2_1 => (if (V (6 + 7 * j) 0) ≤ x2_1 then x1_1 else (f_X0_allCoats_l1 fu V j w1 (x1_1 + (f_X0_coatsAt V j x2_1)) (x2_1 + 1)))
def p_X0_allCoats_l1 (fu : Nat) (V : VT) (j : Nat) : Nat → Int32 → Int32 → Prop
  | 0, _, _ => False
  | w1 + 1, x1_1, x2_1 => (((V (6 + 7 * j) 0) ≤ x2_1 → True) ∧ (¬ ((V (6 + 7 * j) 0) ≤ x2_1) → (p_X0_allCoats_l1 fu V j w1 (x1_1 + (f_X0_coatsAt V j x2_1)) (x2_1 + 1))))
def f_X0_allCoats (fu : Nat) (V : VT) (j : Nat) : Int32 := (f_X0_allCoats_l1 fu V j fu 0 0)
def p_X0_allCoats (fu : Nat) (V : VT) (j : Nat) : Prop := (p_X0_allCoats_l1 fu V j fu 0 0)
set_option maxHeartbeats 4000000 in
set_option maxRecDepth 100000 in
theorem m_X0_allCoats (l : Launch) (D : va_G) (cI cB : ClassId) (ad : Nat → Nat) (fu : Nat) (V : VT) (j : Nat) (hj : j < 6) (hp : p_X0_allCoats fu V j) : Met l yX0_allCoats wsX0_allCoats ({ frames := 2, cells := 0, slots := 0, locals := 42 }) (cP D cI cB ad V [.ref (ad (6 + 7 * j))]) (cR (f_X0_allCoats fu V j)) 0 0 (fun _ => False) := by
  refine Met.ofW (cc := cX0_allCoats) (maxL := 3) (ret := (some .int)) (by decide +kernel) rfl ?_
  intro p e s m args below meth c s₁ B hml hv
  obtain ⟨rfl, hP, hKN⟩ := hv
  have hK := hKN.1
  have hx := B.exec
  have hb := B.bytes
  have hr := B.returns
  have hts := atoms_spec (ws := wsX0_allCoats) B.pre
  have hown : s.vm.findClass RX0 = some m.cls := findClass_of_methodNamed B.named
  have hlocks := B.notSynchronized
  have hS : va_S (fun _ => False) s.heap s.heap [] := va_S.rf
  have hl := lv_entry ([.ref (ad (6 + 7 * j))]) (n := 3) (Nat.le_of_ble_eq_true rfl)
  rw [lg_entry_eq]
  generalize (lg_sl ([.ref (ad (6 + 7 * j))]) ++ List.replicate (3 - (lg_sl ([.ref (ad (6 + 7 * j))])).length) Slot.unset).toArray = ls at hl ⊢
  have hl : lv_has ls 3 [(0, .ref (ad (6 + 7 * j)))] := hl
  have hE : f_X0_allCoats fu V j = (f_X0_allCoats_l1 fu V j fu 0 0) := rfl
  refine lv_iconst (v := 0) hx hb dX0_allCoats_0 (by decide) ?_
  refine lv_istore_n (lv' := [(1, .int 0), (0, .ref (ad (6 + 7 * j)))]) hx hb dX0_allCoats_1 rfl hl (by decide) rfl (fun ls hl => ?_)
  refine lv_iconst (v := 0) hx hb dX0_allCoats_2 (by decide) ?_
  refine lv_istore_n (lv' := [(2, .int 0), (1, .int 0), (0, .ref (ad (6 + 7 * j)))]) hx hb dX0_allCoats_3 rfl hl (by decide) rfl (fun ls hl => ?_)
  have L1 : ∀ (w1 : Nat) (x1_1 : Int32) (x2_1 : Int32), f_X0_allCoats fu V j = f_X0_allCoats_l1 fu V j w1 x1_1 x2_1 → p_X0_allCoats_l1 fu V j w1 x1_1 x2_1 → ∀ (H : Heap) (locs : List Loc), wP D cI cB ad V H → va_S (fun _ => False) s.heap H locs → ∀ (ls : Array Slot), lv_has ls 3 [(0, .ref (ad (6 + 7 * j))), (1, .int x1_1), (2, .int x2_1)] → W p l e (headSpec wsX0_allCoats ({ frames := 2, cells := 0, slots := 0, locals := 42 })).room s m ([.ref (ad (6 + 7 * j))] : List Value).toArray below meth c H locs 0 0 (MQ below (cR (f_X0_allCoats fu V j)) ([.ref (ad (6 + 7 * j))] : List Value).toArray s 0 0 (fun _ => False)) (F0 m 4 ls []) := by
    intro w1
    induction w1 with
    | zero => intro x1_1 x2_1 hE hp; exact hp.elim
    | succ w1 ih1 =>
      intro x1_1 x2_1 hE hp H locs hP hS ls hl
      rw [f_X0_allCoats_l1] at hE
      rw [p_X0_allCoats_l1] at hp
      refine lv_iload_n hx hb dX0_allCoats_4 rfl (lv_at hl 2 rfl) ?_
      refine lv_aload_n hx hb dX0_allCoats_5 rfl (lv_at hl 0 rfl) ?_
      refine x_get (ci := 0) (fs := [.ref (ad (6 + 7 * j + 1)), .ref (ad (6 + 7 * j + 3)), .ref (ad (6 + 7 * j + 4)), .ref (ad (6 + 7 * j + 5)), .ref (ad (6 + 7 * j + 6)), .int ((V (6 + 7 * j)) 5), .int ((V (6 + 7 * j)) 6), .int ((V (6 + 7 * j)) 0), .int ((V (6 + 7 * j)) 1), .int ((V (6 + 7 * j)) 2), .int ((V (6 + 7 * j)) 3), .int ((V (6 + 7 * j)) 4)]) (q := (6 + 7 * j)) (v := .int (V (6 + 7 * j) 0)) (N := 12) hx hb hts (fun _ h => List.mem_cons_of_mem _ (List.mem_append_right _ h)) hown hK hP (by have := hj; omega) (ce_bd ad cI cB hj (V (6 + 7 * j))) rfl 7 (by decide) (hts (.fieldLink RX0 38 "TurnedBoards$Board" "places" "I") (List.mem_of_getElem? (i := 1) rfl)) rfl rfl dX0_allCoats_6 ?_
      refine lv_icmp_ge (tgt := 26) hx hb dX0_allCoats_9 (by decide) (fun c1 => ?_) (fun c1 => ?_)
      · have hE := hE.trans (if_pos c1)
        refine lv_iload_n hx hb dX0_allCoats_26 rfl (lv_at hl 1 rfl) ?_
        exact W.iret (v := x1_1) hx hb hr (fun t ht hW => ⟨⟨x1_1, (), rfl, hE.symm, trivial⟩, hS.F ht⟩) hS.2.2 dX0_allCoats_27
      · have hE := hE.trans (if_neg c1)
        have hp := pc_bn hp c1
        refine lv_iload_n hx hb dX0_allCoats_12 rfl (lv_at hl 1 rfl) ?_
        refine lv_aload_n hx hb dX0_allCoats_13 rfl (lv_at hl 0 rfl) ?_
        refine lv_iload_n hx hb dX0_allCoats_14 rfl (lv_at hl 2 rfl) ?_
        refine k_VR (As := [.int x2_1]) (rest := [.int x1_1]) (q := (6 + 7 * j)) ⟨hx, hb, hml, hown, hts⟩ hKN hP hS (m_X0_coatsAt l D cI cB ad V j x2_1 hj) (cwV 1 hts gX0_allCoats_X0_coatsAt rfl rfl rfl (by decide +kernel) ⟨(Nat.le_of_ble_eq_true rfl), (Nat.le_of_ble_eq_true rfl)⟩) (c_preV hP hKN (q := (6 + 7 * j)) (ci := 0) (fs := [.ref (ad (6 + 7 * j + 1)), .ref (ad (6 + 7 * j + 3)), .ref (ad (6 + 7 * j + 4)), .ref (ad (6 + 7 * j + 5)), .ref (ad (6 + 7 * j + 6)), .int ((V (6 + 7 * j)) 5), .int ((V (6 + 7 * j)) 6), .int ((V (6 + 7 * j)) 0), .int ((V (6 + 7 * j)) 1), .int ((V (6 + 7 * j)) 2), .int ((V (6 + 7 * j)) 3), .int ((V (6 + 7 * j)) 4)]) (by have := hj; omega) (ce_bd ad cI cB hj (V (6 + 7 * j))) rfl rfl) rfl hl.1 rfl (Nat.le_of_ble_eq_true rfl) dX0_allCoats_15 ⟨Nat.zero_le _, Nat.zero_le _⟩ (fun H locs hP hS => ?_)
        refine lv_iadd hx hb dX0_allCoats_18 ?_
        refine lv_istore_n (lv' := [(1, .int (x1_1 + (f_X0_coatsAt V j x2_1))), (0, .ref (ad (6 + 7 * j))), (2, .int x2_1)]) hx hb dX0_allCoats_19 rfl hl (by decide) rfl (fun ls hl => ?_)
        refine lv_iinc (v := (x2_1 + 1)) (lv' := [(2, .int (x2_1 + 1)), (1, .int (x1_1 + (f_X0_coatsAt V j x2_1))), (0, .ref (ad (6 + 7 * j)))]) hx hb dX0_allCoats_20 hl (k := 2) rfl (by rfl) (by decide) rfl (fun ls hl => ?_)
        refine lv_goto (tgt := 4) hx hb dX0_allCoats_23 (by decide) ?_
        exact ih1 (x1_1 + (f_X0_coatsAt V j x2_1)) (x2_1 + 1) hE hp H locs hP hS ls (lv_sub hl [2, 1, 0] rfl)
  exact L1 fu 0 0 hE hp _ _ hP hS _ (lv_sub hl [2, 1, 0] rfl)
def f_X0_placesWithCoats_l1 (fu : Nat) (V : VT) (j : Nat) : Nat → Int32 → Int32 → Int32
  | 0, x1_1, x2_1 => 0
  | w1 + 1, x1_1, x2_1 => (if (V (6 + 7 * j) 0) ≤ x2_1 then x1_1 else (if (f_X0_coatsAt V j x2_1) ≤ 0 then (f_X0_placesWithCoats_l1 fu V j w1 (x1_1 + 0) (x2_1 + 1)) else (f_X0_placesWithCoats_l1 fu V j w1 (x1_1 + 1) (x2_1 + 1))))
def p_X0_placesWithCoats_l1 (fu : Nat) (V : VT) (j : Nat) : Nat → Int32 → Int32 → Prop
  | 0, _, _ => False
  | w1 + 1, x1_1, x2_1 => (((V (6 + 7 * j) 0) ≤ x2_1 → True) ∧ (¬ ((V (6 + 7 * j) 0) ≤ x2_1) → (((f_X0_coatsAt V j x2_1) ≤ 0 → (p_X0_placesWithCoats_l1 fu V j w1 (x1_1 + 0) (x2_1 + 1))) ∧ (¬ ((f_X0_coatsAt V j x2_1) ≤ 0) → (p_X0_placesWithCoats_l1 fu V j w1 (x1_1 + 1) (x2_1 + 1))))))
def f_X0_placesWithCoats (fu : Nat) (V : VT) (j : Nat) : Int32 := (f_X0_placesWithCoats_l1 fu V j fu 0 0)
def p_X0_placesWithCoats (fu : Nat) (V : VT) (j : Nat) : Prop := (p_X0_placesWithCoats_l1 fu V j fu 0 0)
set_option maxHeartbeats 4000000 in
set_option maxRecDepth 100000 in
theorem m_X0_placesWithCoats (l : Launch) (D : va_G) (cI cB : ClassId) (ad : Nat → Nat) (fu : Nat) (V : VT) (j : Nat) (hj : j < 6) (hp : p_X0_placesWithCoats fu V j) : Met l yX0_placesWithCoats wsX0_placesWithCoats ({ frames := 2, cells := 0, slots := 0, locals := 42 }) (cP D cI cB ad V [.ref (ad (6 + 7 * j))]) (cR (f_X0_placesWithCoats fu V j)) 0 0 (fun _ => False) := by
  refine Met.ofW (cc := cX0_placesWithCoats) (maxL := 3) (ret := (some .int)) (by decide +kernel) rfl ?_
  intro p e s m args below meth c s₁ B hml hv
  obtain ⟨rfl, hP, hKN⟩ := hv
  have hK := hKN.1
  have hx := B.exec
  have hb := B.bytes
  have hr := B.returns
  have hts := atoms_spec (ws := wsX0_placesWithCoats) B.pre
  have hown : s.vm.findClass RX0 = some m.cls := findClass_of_methodNamed B.named
  have hlocks := B.notSynchronized
  have hS : va_S (fun _ => False) s.heap s.heap [] := va_S.rf
  have hl := lv_entry ([.ref (ad (6 + 7 * j))]) (n := 3) (Nat.le_of_ble_eq_true rfl)
  rw [lg_entry_eq]
  generalize (lg_sl ([.ref (ad (6 + 7 * j))]) ++ List.replicate (3 - (lg_sl ([.ref (ad (6 + 7 * j))])).length) Slot.unset).toArray = ls at hl ⊢
  have hl : lv_has ls 3 [(0, .ref (ad (6 + 7 * j)))] := hl
  have hE : f_X0_placesWithCoats fu V j = (f_X0_placesWithCoats_l1 fu V j fu 0 0) := rfl
  refine lv_iconst (v := 0) hx hb dX0_placesWithCoats_0 (by decide) ?_
  refine lv_istore_n (lv' := [(1, .int 0), (0, .ref (ad (6 + 7 * j)))]) hx hb dX0_placesWithCoats_1 rfl hl (by decide) rfl (fun ls hl => ?_)
  refine lv_iconst (v := 0) hx hb dX0_placesWithCoats_2 (by decide) ?_
  refine lv_istore_n (lv' := [(2, .int 0), (1, .int 0), (0, .ref (ad (6 + 7 * j)))]) hx hb dX0_placesWithCoats_3 rfl hl (by decide) rfl (fun ls hl => ?_)
  have L1 : ∀ (w1 : Nat) (x1_1 : Int32) (x2_1 : Int32), f_X0_placesWithCoats fu V j = f_X0_placesWithCoats_l1 fu V j w1 x1_1 x2_1 → p_X0_placesWithCoats_l1 fu V j w1 x1_1 x2_1 → ∀ (H : Heap) (locs : List Loc), wP D cI cB ad V H → va_S (fun _ => False) s.heap H locs → ∀ (ls : Array Slot), lv_has ls 3 [(0, .ref (ad (6 + 7 * j))), (1, .int x1_1), (2, .int x2_1)] → W p l e (headSpec wsX0_placesWithCoats ({ frames := 2, cells := 0, slots := 0, locals := 42 })).room s m ([.ref (ad (6 + 7 * j))] : List Value).toArray below meth c H locs 0 0 (MQ below (cR (f_X0_placesWithCoats fu V j)) ([.ref (ad (6 + 7 * j))] : List Value).toArray s 0 0 (fun _ => False)) (F0 m 4 ls []) := by
    intro w1
    induction w1 with
    | zero => intro x1_1 x2_1 hE hp; exact hp.elim
    | succ w1 ih1 =>
      intro x1_1 x2_1 hE hp H locs hP hS ls hl
      rw [f_X0_placesWithCoats_l1] at hE
      rw [p_X0_placesWithCoats_l1] at hp
      refine lv_iload_n hx hb dX0_placesWithCoats_4 rfl (lv_at hl 2 rfl) ?_
      refine lv_aload_n hx hb dX0_placesWithCoats_5 rfl (lv_at hl 0 rfl) ?_
      refine x_get (ci := 0) (fs := [.ref (ad (6 + 7 * j + 1)), .ref (ad (6 + 7 * j + 3)), .ref (ad (6 + 7 * j + 4)), .ref (ad (6 + 7 * j + 5)), .ref (ad (6 + 7 * j + 6)), .int ((V (6 + 7 * j)) 5), .int ((V (6 + 7 * j)) 6), .int ((V (6 + 7 * j)) 0), .int ((V (6 + 7 * j)) 1), .int ((V (6 + 7 * j)) 2), .int ((V (6 + 7 * j)) 3), .int ((V (6 + 7 * j)) 4)]) (q := (6 + 7 * j)) (v := .int (V (6 + 7 * j) 0)) (N := 12) hx hb hts (fun _ h => List.mem_cons_of_mem _ (List.mem_append_right _ h)) hown hK hP (by have := hj; omega) (ce_bd ad cI cB hj (V (6 + 7 * j))) rfl 7 (by decide) (hts (.fieldLink RX0 38 "TurnedBoards$Board" "places" "I") (List.mem_of_getElem? (i := 1) rfl)) rfl rfl dX0_placesWithCoats_6 ?_
      refine lv_icmp_ge (tgt := 34) hx hb dX0_placesWithCoats_9 (by decide) (fun c1 => ?_) (fun c1 => ?_)
      · have hE := hE.trans (if_pos c1)
        refine lv_iload_n hx hb dX0_placesWithCoats_34 rfl (lv_at hl 1 rfl) ?_
        exact W.iret (v := x1_1) hx hb hr (fun t ht hW => ⟨⟨x1_1, (), rfl, hE.symm, trivial⟩, hS.F ht⟩) hS.2.2 dX0_placesWithCoats_35
      · have hE := hE.trans (if_neg c1)
        have hp := pc_bn hp c1
        refine lv_iload_n hx hb dX0_placesWithCoats_12 rfl (lv_at hl 1 rfl) ?_
        refine lv_aload_n hx hb dX0_placesWithCoats_13 rfl (lv_at hl 0 rfl) ?_
        refine lv_iload_n hx hb dX0_placesWithCoats_14 rfl (lv_at hl 2 rfl) ?_
        refine k_VR (As := [.int x2_1]) (rest := [.int x1_1]) (q := (6 + 7 * j)) ⟨hx, hb, hml, hown, hts⟩ hKN hP hS (m_X0_coatsAt l D cI cB ad V j x2_1 hj) (cwV 1 hts gX0_placesWithCoats_X0_coatsAt rfl rfl rfl (by decide +kernel) ⟨(Nat.le_of_ble_eq_true rfl), (Nat.le_of_ble_eq_true rfl)⟩) (c_preV hP hKN (q := (6 + 7 * j)) (ci := 0) (fs := [.ref (ad (6 + 7 * j + 1)), .ref (ad (6 + 7 * j + 3)), .ref (ad (6 + 7 * j + 4)), .ref (ad (6 + 7 * j + 5)), .ref (ad (6 + 7 * j + 6)), .int ((V (6 + 7 * j)) 5), .int ((V (6 + 7 * j)) 6), .int ((V (6 + 7 * j)) 0), .int ((V (6 + 7 * j)) 1), .int ((V (6 + 7 * j)) 2), .int ((V (6 + 7 * j)) 3), .int ((V (6 + 7 * j)) 4)]) (by have := hj; omega) (ce_bd ad cI cB hj (V (6 + 7 * j))) rfl rfl) rfl hl.1 rfl (Nat.le_of_ble_eq_true rfl) dX0_placesWithCoats_15 ⟨Nat.zero_le _, Nat.zero_le _⟩ (fun H locs hP hS => ?_)
        refine lv_if_le (tgt := 25) hx hb dX0_placesWithCoats_18 (by decide) (fun c2 => ?_) (fun c2 => ?_)
        · have hE := hE.trans (if_pos c2)
          have hp := pc_br hp c2
          refine lv_iconst (v := 0) hx hb dX0_placesWithCoats_25 (by decide) ?_
          refine lv_iadd hx hb dX0_placesWithCoats_26 ?_
          refine lv_istore_n (lv' := [(1, .int (x1_1 + 0)), (0, .ref (ad (6 + 7 * j))), (2, .int x2_1)]) hx hb dX0_placesWithCoats_27 rfl hl (by decide) rfl (fun ls hl => ?_)
          refine lv_iinc (v := (x2_1 + 1)) (lv' := [(2, .int (x2_1 + 1)), (1, .int (x1_1 + 0)), (0, .ref (ad (6 + 7 * j)))]) hx hb dX0_placesWithCoats_28 hl (k := 2) rfl (by rfl) (by decide) rfl (fun ls hl => ?_)
          refine lv_goto (tgt := 4) hx hb dX0_placesWithCoats_31 (by decide) ?_
          exact ih1 (x1_1 + 0) (x2_1 + 1) hE hp H locs hP hS ls (lv_sub hl [2, 1, 0] rfl)
        · have hE := hE.trans (if_neg c2)
          have hp := pc_bn hp c2
          refine lv_iconst (v := 1) hx hb dX0_placesWithCoats_21 (by decide) ?_
          refine lv_goto (tgt := 26) hx hb dX0_placesWithCoats_22 (by decide) ?_
          refine lv_iadd hx hb dX0_placesWithCoats_26 ?_
          refine lv_istore_n (lv' := [(1, .int (x1_1 + 1)), (0, .ref (ad (6 + 7 * j))), (2, .int x2_1)]) hx hb dX0_placesWithCoats_27 rfl hl (by decide) rfl (fun ls hl => ?_)
          refine lv_iinc (v := (x2_1 + 1)) (lv' := [(2, .int (x2_1 + 1)), (1, .int (x1_1 + 1)), (0, .ref (ad (6 + 7 * j)))]) hx hb dX0_placesWithCoats_28 hl (k := 2) rfl (by rfl) (by decide) rfl (fun ls hl => ?_)
          refine lv_goto (tgt := 4) hx hb dX0_placesWithCoats_31 (by decide) ?_
          exact ih1 (x1_1 + 1) (x2_1 + 1) hE hp H locs hP hS ls (lv_sub hl [2, 1, 0] rfl)
  exact L1 fu 0 0 hE hp _ _ hP hS _ (lv_sub hl [2, 1, 0] rfl)
def f_X0_fades (V : VT) (j : Nat) (p1 : Int32) : Int32 := (if (f_X0_coatsAt V j p1) ≤ 0 then 0 else (if (f_X6_darkInUpperRows V (f_X0_signAt V j p1) (f_X0_way V j)) < (V (6 + 7 * j) 6) then 0 else 1))
set_option maxHeartbeats 4000000 in
set_option maxRecDepth 100000 in
theorem m_X0_fades (l : Launch) (D : va_G) (cI cB : ClassId) (ad : Nat → Nat) (V : VT) (j : Nat) (p1 : Int32) (hj : j < 6) : Met l yX0_fades wsX0_fades ({ frames := 2, cells := 0, slots := 0, locals := 42 }) (cP D cI cB ad V [.ref (ad (6 + 7 * j)), .int p1]) (cR (f_X0_fades V j p1)) 0 0 (fun _ => False) := by
  refine Met.ofW (cc := cX0_fades) (maxL := 2) (ret := (some .boolean)) (by decide +kernel) rfl ?_
  intro p e s m args below meth c s₁ B hml hv
  obtain ⟨rfl, hP, hKN⟩ := hv
  have hK := hKN.1
  have hx := B.exec
  have hb := B.bytes
  have hr := B.returns
  have hts := atoms_spec (ws := wsX0_fades) B.pre
  have hown : s.vm.findClass RX0 = some m.cls := findClass_of_methodNamed B.named
  have hlocks := B.notSynchronized
  have hS : va_S (fun _ => False) s.heap s.heap [] := va_S.rf
  have hl := lv_entry ([.ref (ad (6 + 7 * j)), .int p1]) (n := 2) (Nat.le_of_ble_eq_true rfl)
  rw [lg_entry_eq]
  generalize (lg_sl ([.ref (ad (6 + 7 * j)), .int p1]) ++ List.replicate (2 - (lg_sl ([.ref (ad (6 + 7 * j)), .int p1])).length) Slot.unset).toArray = ls at hl ⊢
  have hl : lv_has ls 2 [(0, .ref (ad (6 + 7 * j))), (1, .int p1)] := hl
  have hE : f_X0_fades V j p1 = (if (f_X0_coatsAt V j p1) ≤ 0 then 0 else (if (f_X6_darkInUpperRows V (f_X0_signAt V j p1) (f_X0_way V j)) < (V (6 + 7 * j) 6) then 0 else 1)) := rfl
  refine lv_aload_n hx hb dX0_fades_0 rfl (lv_at hl 0 rfl) ?_
  refine lv_iload_n hx hb dX0_fades_1 rfl (lv_at hl 1 rfl) ?_
  refine k_VR (As := [.int p1]) (rest := []) (q := (6 + 7 * j)) ⟨hx, hb, hml, hown, hts⟩ hKN hP hS (m_X0_coatsAt l D cI cB ad V j p1 hj) (cwV 1 hts gX0_fades_X0_coatsAt rfl rfl rfl (by decide +kernel) ⟨(Nat.le_of_ble_eq_true rfl), (Nat.le_of_ble_eq_true rfl)⟩) (c_preV hP hKN (q := (6 + 7 * j)) (ci := 0) (fs := [.ref (ad (6 + 7 * j + 1)), .ref (ad (6 + 7 * j + 3)), .ref (ad (6 + 7 * j + 4)), .ref (ad (6 + 7 * j + 5)), .ref (ad (6 + 7 * j + 6)), .int ((V (6 + 7 * j)) 5), .int ((V (6 + 7 * j)) 6), .int ((V (6 + 7 * j)) 0), .int ((V (6 + 7 * j)) 1), .int ((V (6 + 7 * j)) 2), .int ((V (6 + 7 * j)) 3), .int ((V (6 + 7 * j)) 4)]) (by have := hj; omega) (ce_bd ad cI cB hj (V (6 + 7 * j))) rfl rfl) rfl hl.1 rfl (Nat.le_of_ble_eq_true rfl) dX0_fades_2 ⟨Nat.zero_le _, Nat.zero_le _⟩ (fun H locs hP hS => ?_)
  refine lv_if_le (tgt := 31) hx hb dX0_fades_5 (by decide) (fun c1 => ?_) (fun c1 => ?_)
  · have hE := hE.trans (if_pos c1)
    refine lv_iconst (v := 0) hx hb dX0_fades_31 (by decide) ?_
    exact W.zret (v := 0) hx hb hr rfl (fun t ht hW => ⟨⟨0, (), rfl, hE.symm, trivial⟩, hS.F ht⟩) hS.2.2 dX0_fades_32
  · have hE := hE.trans (if_neg c1)
    refine lv_aload_n hx hb dX0_fades_8 rfl (lv_at hl 0 rfl) ?_
    refine lv_iload_n hx hb dX0_fades_9 rfl (lv_at hl 1 rfl) ?_
    refine k_VR (As := [.int p1]) (rest := []) (q := (6 + 7 * j)) ⟨hx, hb, hml, hown, hts⟩ hKN hP hS (m_X0_signAt l D cI cB ad V j p1 hj) (cwV 1 hts gX0_fades_X0_signAt rfl rfl rfl (by decide +kernel) ⟨(Nat.le_of_ble_eq_true rfl), (Nat.le_of_ble_eq_true rfl)⟩) (c_preV hP hKN (q := (6 + 7 * j)) (ci := 0) (fs := [.ref (ad (6 + 7 * j + 1)), .ref (ad (6 + 7 * j + 3)), .ref (ad (6 + 7 * j + 4)), .ref (ad (6 + 7 * j + 5)), .ref (ad (6 + 7 * j + 6)), .int ((V (6 + 7 * j)) 5), .int ((V (6 + 7 * j)) 6), .int ((V (6 + 7 * j)) 0), .int ((V (6 + 7 * j)) 1), .int ((V (6 + 7 * j)) 2), .int ((V (6 + 7 * j)) 3), .int ((V (6 + 7 * j)) 4)]) (by have := hj; omega) (ce_bd ad cI cB hj (V (6 + 7 * j))) rfl rfl) rfl hl.1 rfl (Nat.le_of_ble_eq_true rfl) dX0_fades_10 ⟨Nat.zero_le _, Nat.zero_le _⟩ (fun H locs hP hS => ?_)
    refine lv_aload_n hx hb dX0_fades_13 rfl (lv_at hl 0 rfl) ?_
    refine k_VR (As := []) (rest := [.int (f_X0_signAt V j p1)]) (q := (6 + 7 * j)) ⟨hx, hb, hml, hown, hts⟩ hKN hP hS (m_X0_way l D cI cB ad V j hj) (cwV 0 hts gX0_fades_X0_way rfl rfl rfl (by decide +kernel) ⟨(Nat.le_of_ble_eq_true rfl), (Nat.le_of_ble_eq_true rfl)⟩) (c_preV hP hKN (q := (6 + 7 * j)) (ci := 0) (fs := [.ref (ad (6 + 7 * j + 1)), .ref (ad (6 + 7 * j + 3)), .ref (ad (6 + 7 * j + 4)), .ref (ad (6 + 7 * j + 5)), .ref (ad (6 + 7 * j + 6)), .int ((V (6 + 7 * j)) 5), .int ((V (6 + 7 * j)) 6), .int ((V (6 + 7 * j)) 0), .int ((V (6 + 7 * j)) 1), .int ((V (6 + 7 * j)) 2), .int ((V (6 + 7 * j)) 3), .int ((V (6 + 7 * j)) 4)]) (by have := hj; omega) (ce_bd ad cI cB hj (V (6 + 7 * j))) rfl rfl) rfl hl.1 rfl (Nat.le_of_ble_eq_true rfl) dX0_fades_14 ⟨Nat.zero_le _, Nat.zero_le _⟩ (fun H locs hP hS => ?_)
    refine k_SR (As := [.int (f_X0_signAt V j p1), .int (f_X0_way V j)]) (rest := []) ⟨hx, hb, hml, hown, hts⟩ hKN hP hS (m_X6_darkInUpperRows l D cI cB ad V (f_X0_signAt V j p1) (f_X0_way V j)) (va_cwS 2 hts gX0_fades_X6_darkInUpperRows rfl rfl rfl (by decide +kernel) ⟨(Nat.le_of_ble_eq_true rfl), (Nat.le_of_ble_eq_true rfl)⟩) rfl hl.1 rfl (Nat.le_of_ble_eq_true rfl) dX0_fades_17 ⟨Nat.zero_le _, Nat.zero_le _⟩ (fun H locs hP hS => ?_)
    refine lv_aload_n hx hb dX0_fades_20 rfl (lv_at hl 0 rfl) ?_
    refine x_get (ci := 0) (fs := [.ref (ad (6 + 7 * j + 1)), .ref (ad (6 + 7 * j + 3)), .ref (ad (6 + 7 * j + 4)), .ref (ad (6 + 7 * j + 5)), .ref (ad (6 + 7 * j + 6)), .int ((V (6 + 7 * j)) 5), .int ((V (6 + 7 * j)) 6), .int ((V (6 + 7 * j)) 0), .int ((V (6 + 7 * j)) 1), .int ((V (6 + 7 * j)) 2), .int ((V (6 + 7 * j)) 3), .int ((V (6 + 7 * j)) 4)]) (q := (6 + 7 * j)) (v := .int (V (6 + 7 * j) 6)) (N := 12) hx hb hts (fun _ h => List.mem_cons_of_mem _ (List.mem_append_right _ h)) hown hK hP (by have := hj; omega) (ce_bd ad cI cB hj (V (6 + 7 * j))) rfl 6 (by decide) (hts (.fieldLink RX0 35 "TurnedBoards$Board" "fadingCells" "I") (List.mem_of_getElem? (i := 1) rfl)) rfl rfl dX0_fades_21 ?_
    refine lv_icmp_lt (tgt := 31) hx hb dX0_fades_24 (by decide) (fun c2 => ?_) (fun c2 => ?_)
    · have hE := hE.trans (if_pos c2)
      refine lv_iconst (v := 0) hx hb dX0_fades_31 (by decide) ?_
      exact W.zret (v := 0) hx hb hr rfl (fun t ht hW => ⟨⟨0, (), rfl, hE.symm, trivial⟩, hS.F ht⟩) hS.2.2 dX0_fades_32
    · have hE := hE.trans (if_neg c2)
      refine lv_iconst (v := 1) hx hb dX0_fades_27 (by decide) ?_
      refine lv_goto (tgt := 32) hx hb dX0_fades_28 (by decide) ?_
      exact W.zret (v := 1) hx hb hr rfl (fun t ht hW => ⟨⟨1, (), rfl, hE.symm, trivial⟩, hS.F ht⟩) hS.2.2 dX0_fades_32
def v_X0_copyFrom_1 (fu : Nat) (V : VT) (j : Nat) (j2 : Nat) : VT := (f_X4_copy fu (f_X4_copy fu (f_X3_copyFrom fu V j j2) (6 + 7 * j2 + 3) 8 (6 + 7 * j + 3) 8) (6 + 7 * j2 + 4) 8 (6 + 7 * j + 4) 8)
def v_X0_copyFrom_2 (fu : Nat) (V : VT) (j : Nat) (j2 : Nat) : VT := (f_X4_copy fu (f_X4_copy fu (v_X0_copyFrom_1 fu V j j2) (6 + 7 * j2 + 5) 8 (6 + 7 * j + 5) 8) (6 + 7 * j2 + 6) 8 (6 + 7 * j + 6) 8)
def v_X0_copyFrom_3 (fu : Nat) (V : VT) (j : Nat) (j2 : Nat) : VT := (upV (upV (v_X0_copyFrom_2 fu V j j2) (6 + 7 * j) 5 ((v_X0_copyFrom_2 fu V j j2) (6 + 7 * j2) 5)) (6 + 7 * j) 6 ((upV (v_X0_copyFrom_2 fu V j j2) (6 + 7 * j) 5 ((v_X0_copyFrom_2 fu V j j2) (6 + 7 * j2) 5)) (6 + 7 * j2) 6))
def v_X0_copyFrom_4 (fu : Nat) (V : VT) (j : Nat) (j2 : Nat) : VT := (upV (upV (v_X0_copyFrom_3 fu V j j2) (6 + 7 * j) 0 ((v_X0_copyFrom_3 fu V j j2) (6 + 7 * j2) 0)) (6 + 7 * j) 1 ((upV (v_X0_copyFrom_3 fu V j j2) (6 + 7 * j) 0 ((v_X0_copyFrom_3 fu V j j2) (6 + 7 * j2) 0)) (6 + 7 * j2) 1))
def v_X0_copyFrom_5 (fu : Nat) (V : VT) (j : Nat) (j2 : Nat) : VT := (upV (upV (v_X0_copyFrom_4 fu V j j2) (6 + 7 * j) 2 ((v_X0_copyFrom_4 fu V j j2) (6 + 7 * j2) 2)) (6 + 7 * j) 3 ((upV (v_X0_copyFrom_4 fu V j j2) (6 + 7 * j) 2 ((v_X0_copyFrom_4 fu V j j2) (6 + 7 * j2) 2)) (6 + 7 * j2) 3))
def f_X0_copyFrom (fu : Nat) (V : VT) (j : Nat) (j2 : Nat) : VT := (upV (v_X0_copyFrom_5 fu V j j2) (6 + 7 * j) 4 ((v_X0_copyFrom_5 fu V j j2) (6 + 7 * j2) 4))
def p_X0_copyFrom (fu : Nat) (V : VT) (j : Nat) (j2 : Nat) : Prop := ((p_X3_copyFrom fu V j j2) ∧ ((p_X4_copy fu (f_X3_copyFrom fu V j j2) (6 + 7 * j2 + 3) 8 (6 + 7 * j + 3) 8) ∧ ((p_X4_copy fu (f_X4_copy fu (f_X3_copyFrom fu V j j2) (6 + 7 * j2 + 3) 8 (6 + 7 * j + 3) 8) (6 + 7 * j2 + 4) 8 (6 + 7 * j + 4) 8) ∧ ((p_X4_copy fu (v_X0_copyFrom_1 fu V j j2) (6 + 7 * j2 + 5) 8 (6 + 7 * j + 5) 8) ∧ ((p_X4_copy fu (f_X4_copy fu (v_X0_copyFrom_1 fu V j j2) (6 + 7 * j2 + 5) 8 (6 + 7 * j + 5) 8) (6 + 7 * j2 + 6) 8 (6 + 7 * j + 6) 8) ∧ (isB ((upV (v_X0_copyFrom_3 fu V j j2) (6 + 7 * j) 0 ((v_X0_copyFrom_3 fu V j j2) (6 + 7 * j2) 0)) (6 + 7 * j2) 1)))))))
set_option maxHeartbeats 4000000 in
set_option maxRecDepth 100000 in
theorem m_X0_copyFrom (l : Launch) (D : va_G) (cI cB : ClassId) (ad : Nat → Nat) {A : Nat → Prop} (hA : adOk ad A) (fu : Nat) (V : VT) (j : Nat) (j2 : Nat) (hj : j < 6) (hj2 : j2 < 6) (hp : p_X0_copyFrom fu V j j2) : Met l yX0_copyFrom wsX0_copyFrom ({ frames := 2, cells := 0, slots := 0, locals := 43 }) (cP D cI cB ad V [.ref (ad (6 + 7 * j)), .ref (ad (6 + 7 * j2))]) (cWv D cI cB ad A (f_X0_copyFrom fu V j j2)) 0 0 A := by
  refine Met.ofW (cc := cX0_copyFrom) (maxL := 2) (ret := none) (by decide +kernel) rfl ?_
  intro p e s m args below meth c s₁ B hml hv
  obtain ⟨rfl, hP, hKN⟩ := hv
  have hK := hKN.1
  have hx := B.exec
  have hb := B.bytes
  have hr := B.returns
  have hts := atoms_spec (ws := wsX0_copyFrom) B.pre
  have hown : s.vm.findClass RX0 = some m.cls := findClass_of_methodNamed B.named
  have hlocks := B.notSynchronized
  have hS : va_S A s.heap s.heap [] := va_S.rf
  have hl := lv_entry ([.ref (ad (6 + 7 * j)), .ref (ad (6 + 7 * j2))]) (n := 2) (Nat.le_of_ble_eq_true rfl)
  rw [lg_entry_eq]
  generalize (lg_sl ([.ref (ad (6 + 7 * j)), .ref (ad (6 + 7 * j2))]) ++ List.replicate (2 - (lg_sl ([.ref (ad (6 + 7 * j)), .ref (ad (6 + 7 * j2))])).length) Slot.unset).toArray = ls at hl ⊢
  have hl : lv_has ls 2 [(0, .ref (ad (6 + 7 * j))), (1, .ref (ad (6 + 7 * j2)))] := hl
  have hE : f_X0_copyFrom fu V j j2 = (upV (v_X0_copyFrom_5 fu V j j2) (6 + 7 * j) 4 ((v_X0_copyFrom_5 fu V j j2) (6 + 7 * j2) 4)) := rfl
  refine lv_aload_n hx hb dX0_copyFrom_0 rfl (lv_at hl 1 rfl) ?_
  refine lv_ifnonnull (tgt := 5) hx hb dX0_copyFrom_1 (by decide) ?_
  refine lv_aload_n hx hb dX0_copyFrom_5 rfl (lv_at hl 0 rfl) ?_
  refine x_get (ci := 0) (fs := [.ref (ad (6 + 7 * j + 1)), .ref (ad (6 + 7 * j + 3)), .ref (ad (6 + 7 * j + 4)), .ref (ad (6 + 7 * j + 5)), .ref (ad (6 + 7 * j + 6)), .int ((V (6 + 7 * j)) 5), .int ((V (6 + 7 * j)) 6), .int ((V (6 + 7 * j)) 0), .int ((V (6 + 7 * j)) 1), .int ((V (6 + 7 * j)) 2), .int ((V (6 + 7 * j)) 3), .int ((V (6 + 7 * j)) 4)]) (q := (6 + 7 * j)) (v := .ref (ad (6 + 7 * j + 1))) (N := 12) hx hb hts (fun _ h => List.mem_cons_of_mem _ (List.mem_append_left _ (List.mem_append_right _ h))) hown hK hP (by have := hj; omega) (ce_bd ad cI cB hj (V (6 + 7 * j))) rfl 0 (by decide) (hts (.fieldLink RX0 12 "TurnedBoards$Board" "letters" "LTurnedBoards$Letters;") (List.mem_of_getElem? (i := 1) rfl)) rfl rfl dX0_copyFrom_6 ?_
  refine lv_aload_n hx hb dX0_copyFrom_9 rfl (lv_at hl 1 rfl) ?_
  refine x_get (ci := 0) (fs := [.ref (ad (6 + 7 * j2 + 1)), .ref (ad (6 + 7 * j2 + 3)), .ref (ad (6 + 7 * j2 + 4)), .ref (ad (6 + 7 * j2 + 5)), .ref (ad (6 + 7 * j2 + 6)), .int ((V (6 + 7 * j2)) 5), .int ((V (6 + 7 * j2)) 6), .int ((V (6 + 7 * j2)) 0), .int ((V (6 + 7 * j2)) 1), .int ((V (6 + 7 * j2)) 2), .int ((V (6 + 7 * j2)) 3), .int ((V (6 + 7 * j2)) 4)]) (q := (6 + 7 * j2)) (v := .ref (ad (6 + 7 * j2 + 1))) (N := 12) hx hb hts (fun _ h => List.mem_cons_of_mem _ (List.mem_append_left _ (List.mem_append_right _ h))) hown hK hP (by have := hj2; omega) (ce_bd ad cI cB hj2 (V (6 + 7 * j2))) rfl 0 (by decide) (hts (.fieldLink RX0 12 "TurnedBoards$Board" "letters" "LTurnedBoards$Letters;") (List.mem_of_getElem? (i := 1) rfl)) rfl rfl dX0_copyFrom_10 ?_
  obtain ⟨hn1, hp⟩ := hp
  refine k_VWv (As := [.ref (ad (6 + 7 * j2 + 1))]) (rest := []) (q := (6 + 7 * j + 1)) ⟨hx, hb, hml, hown, hts⟩ hKN hP hS (m_X3_copyFrom l D cI cB ad hA fu V j j2 hj hj2 hn1) (cwV 1 hts gX0_copyFrom_X3_copyFrom rfl rfl rfl (by decide +kernel) ⟨(Nat.le_of_ble_eq_true rfl), (Nat.le_of_ble_eq_true rfl)⟩) (c_preV hP hKN (q := (6 + 7 * j + 1)) (ci := 3) (fs := [.ref (ad (6 + 7 * j + 2))]) (by have := hj; omega) (ce_lt ad cI cB hj (V (6 + 7 * j + 1))) rfl rfl) rfl hl.1 rfl (Nat.le_of_ble_eq_true rfl) dX0_copyFrom_13 ⟨Nat.zero_le _, Nat.zero_le _⟩ (fun H locs hP hS => ?_)
  refine lv_aload_n hx hb dX0_copyFrom_16 rfl (lv_at hl 1 rfl) ?_
  refine x_get (ci := 0) (fs := [.ref (ad (6 + 7 * j2 + 1)), .ref (ad (6 + 7 * j2 + 3)), .ref (ad (6 + 7 * j2 + 4)), .ref (ad (6 + 7 * j2 + 5)), .ref (ad (6 + 7 * j2 + 6)), .int (((f_X3_copyFrom fu V j j2) (6 + 7 * j2)) 5), .int (((f_X3_copyFrom fu V j j2) (6 + 7 * j2)) 6), .int (((f_X3_copyFrom fu V j j2) (6 + 7 * j2)) 0), .int (((f_X3_copyFrom fu V j j2) (6 + 7 * j2)) 1), .int (((f_X3_copyFrom fu V j j2) (6 + 7 * j2)) 2), .int (((f_X3_copyFrom fu V j j2) (6 + 7 * j2)) 3), .int (((f_X3_copyFrom fu V j j2) (6 + 7 * j2)) 4)]) (q := (6 + 7 * j2)) (v := .ref (ad (6 + 7 * j2 + 3))) (N := 12) hx hb hts (fun _ h => List.mem_cons_of_mem _ (List.mem_append_left _ (List.mem_append_right _ h))) hown hK hP (by have := hj2; omega) (ce_bd ad cI cB hj2 ((f_X3_copyFrom fu V j j2) (6 + 7 * j2))) rfl 1 (by decide) (hts (.fieldLink RX0 18 "TurnedBoards$Board" "signs" "[I") (List.mem_of_getElem? (i := 2) rfl)) rfl rfl dX0_copyFrom_17 ?_
  refine lv_aload_n hx hb dX0_copyFrom_20 rfl (lv_at hl 0 rfl) ?_
  refine x_get (ci := 0) (fs := [.ref (ad (6 + 7 * j + 1)), .ref (ad (6 + 7 * j + 3)), .ref (ad (6 + 7 * j + 4)), .ref (ad (6 + 7 * j + 5)), .ref (ad (6 + 7 * j + 6)), .int (((f_X3_copyFrom fu V j j2) (6 + 7 * j)) 5), .int (((f_X3_copyFrom fu V j j2) (6 + 7 * j)) 6), .int (((f_X3_copyFrom fu V j j2) (6 + 7 * j)) 0), .int (((f_X3_copyFrom fu V j j2) (6 + 7 * j)) 1), .int (((f_X3_copyFrom fu V j j2) (6 + 7 * j)) 2), .int (((f_X3_copyFrom fu V j j2) (6 + 7 * j)) 3), .int (((f_X3_copyFrom fu V j j2) (6 + 7 * j)) 4)]) (q := (6 + 7 * j)) (v := .ref (ad (6 + 7 * j + 3))) (N := 12) hx hb hts (fun _ h => List.mem_cons_of_mem _ (List.mem_append_left _ (List.mem_append_right _ h))) hown hK hP (by have := hj; omega) (ce_bd ad cI cB hj ((f_X3_copyFrom fu V j j2) (6 + 7 * j))) rfl 1 (by decide) (hts (.fieldLink RX0 18 "TurnedBoards$Board" "signs" "[I") (List.mem_of_getElem? (i := 2) rfl)) rfl rfl dX0_copyFrom_21 ?_
  obtain ⟨hn2, hp⟩ := hp
  refine k_SWv (As := [.ref (ad (6 + 7 * j2 + 3)), .ref (ad (6 + 7 * j + 3))]) (rest := []) ⟨hx, hb, hml, hown, hts⟩ hKN hP hS (m_X4_copy l D cI cB 54 (cellOf ad cI cB) ad hA fu (f_X3_copyFrom fu V j j2) (6 + 7 * j2 + 3) 8 (6 + 7 * j + 3) 8 (rw_bd ad cI cB (j := j2) (r := 3) hj2 (by decide) (fun _ => rfl)) (rw_bd ad cI cB (j := j) (r := 3) hj (by decide) (fun _ => rfl)) hn2) (va_cwS 2 hts gX0_copyFrom_X4_copy rfl rfl rfl (by decide +kernel) ⟨(Nat.le_of_ble_eq_true rfl), (Nat.le_of_ble_eq_true rfl)⟩) rfl hl.1 rfl (Nat.le_of_ble_eq_true rfl) dX0_copyFrom_24 ⟨Nat.zero_le _, Nat.zero_le _⟩ (fun H locs hP hS => ?_)
  refine lv_aload_n hx hb dX0_copyFrom_27 rfl (lv_at hl 1 rfl) ?_
  refine x_get (ci := 0) (fs := [.ref (ad (6 + 7 * j2 + 1)), .ref (ad (6 + 7 * j2 + 3)), .ref (ad (6 + 7 * j2 + 4)), .ref (ad (6 + 7 * j2 + 5)), .ref (ad (6 + 7 * j2 + 6)), .int (((f_X4_copy fu (f_X3_copyFrom fu V j j2) (6 + 7 * j2 + 3) 8 (6 + 7 * j + 3) 8) (6 + 7 * j2)) 5), .int (((f_X4_copy fu (f_X3_copyFrom fu V j j2) (6 + 7 * j2 + 3) 8 (6 + 7 * j + 3) 8) (6 + 7 * j2)) 6), .int (((f_X4_copy fu (f_X3_copyFrom fu V j j2) (6 + 7 * j2 + 3) 8 (6 + 7 * j + 3) 8) (6 + 7 * j2)) 0), .int (((f_X4_copy fu (f_X3_copyFrom fu V j j2) (6 + 7 * j2 + 3) 8 (6 + 7 * j + 3) 8) (6 + 7 * j2)) 1), .int (((f_X4_copy fu (f_X3_copyFrom fu V j j2) (6 + 7 * j2 + 3) 8 (6 + 7 * j + 3) 8) (6 + 7 * j2)) 2), .int (((f_X4_copy fu (f_X3_copyFrom fu V j j2) (6 + 7 * j2 + 3) 8 (6 + 7 * j + 3) 8) (6 + 7 * j2)) 3), .int (((f_X4_copy fu (f_X3_copyFrom fu V j j2) (6 + 7 * j2 + 3) 8 (6 + 7 * j + 3) 8) (6 + 7 * j2)) 4)]) (q := (6 + 7 * j2)) (v := .ref (ad (6 + 7 * j2 + 4))) (N := 12) hx hb hts (fun _ h => List.mem_cons_of_mem _ (List.mem_append_left _ (List.mem_append_right _ h))) hown hK hP (by have := hj2; omega) (ce_bd ad cI cB hj2 ((f_X4_copy fu (f_X3_copyFrom fu V j j2) (6 + 7 * j2 + 3) 8 (6 + 7 * j + 3) 8) (6 + 7 * j2))) rfl 2 (by decide) (hts (.fieldLink RX0 22 "TurnedBoards$Board" "coats" "[I") (List.mem_of_getElem? (i := 3) rfl)) rfl rfl dX0_copyFrom_28 ?_
  refine lv_aload_n hx hb dX0_copyFrom_31 rfl (lv_at hl 0 rfl) ?_
  refine x_get (ci := 0) (fs := [.ref (ad (6 + 7 * j + 1)), .ref (ad (6 + 7 * j + 3)), .ref (ad (6 + 7 * j + 4)), .ref (ad (6 + 7 * j + 5)), .ref (ad (6 + 7 * j + 6)), .int (((f_X4_copy fu (f_X3_copyFrom fu V j j2) (6 + 7 * j2 + 3) 8 (6 + 7 * j + 3) 8) (6 + 7 * j)) 5), .int (((f_X4_copy fu (f_X3_copyFrom fu V j j2) (6 + 7 * j2 + 3) 8 (6 + 7 * j + 3) 8) (6 + 7 * j)) 6), .int (((f_X4_copy fu (f_X3_copyFrom fu V j j2) (6 + 7 * j2 + 3) 8 (6 + 7 * j + 3) 8) (6 + 7 * j)) 0), .int (((f_X4_copy fu (f_X3_copyFrom fu V j j2) (6 + 7 * j2 + 3) 8 (6 + 7 * j + 3) 8) (6 + 7 * j)) 1), .int (((f_X4_copy fu (f_X3_copyFrom fu V j j2) (6 + 7 * j2 + 3) 8 (6 + 7 * j + 3) 8) (6 + 7 * j)) 2), .int (((f_X4_copy fu (f_X3_copyFrom fu V j j2) (6 + 7 * j2 + 3) 8 (6 + 7 * j + 3) 8) (6 + 7 * j)) 3), .int (((f_X4_copy fu (f_X3_copyFrom fu V j j2) (6 + 7 * j2 + 3) 8 (6 + 7 * j + 3) 8) (6 + 7 * j)) 4)]) (q := (6 + 7 * j)) (v := .ref (ad (6 + 7 * j + 4))) (N := 12) hx hb hts (fun _ h => List.mem_cons_of_mem _ (List.mem_append_left _ (List.mem_append_right _ h))) hown hK hP (by have := hj; omega) (ce_bd ad cI cB hj ((f_X4_copy fu (f_X3_copyFrom fu V j j2) (6 + 7 * j2 + 3) 8 (6 + 7 * j + 3) 8) (6 + 7 * j))) rfl 2 (by decide) (hts (.fieldLink RX0 22 "TurnedBoards$Board" "coats" "[I") (List.mem_of_getElem? (i := 3) rfl)) rfl rfl dX0_copyFrom_32 ?_
  obtain ⟨hn3, hp⟩ := hp
  refine k_SWv (As := [.ref (ad (6 + 7 * j2 + 4)), .ref (ad (6 + 7 * j + 4))]) (rest := []) ⟨hx, hb, hml, hown, hts⟩ hKN hP hS (m_X4_copy l D cI cB 54 (cellOf ad cI cB) ad hA fu (f_X4_copy fu (f_X3_copyFrom fu V j j2) (6 + 7 * j2 + 3) 8 (6 + 7 * j + 3) 8) (6 + 7 * j2 + 4) 8 (6 + 7 * j + 4) 8 (rw_bd ad cI cB (j := j2) (r := 4) hj2 (by decide) (fun _ => rfl)) (rw_bd ad cI cB (j := j) (r := 4) hj (by decide) (fun _ => rfl)) hn3) (va_cwS 2 hts gX0_copyFrom_X4_copy rfl rfl rfl (by decide +kernel) ⟨(Nat.le_of_ble_eq_true rfl), (Nat.le_of_ble_eq_true rfl)⟩) rfl hl.1 rfl (Nat.le_of_ble_eq_true rfl) dX0_copyFrom_35 ⟨Nat.zero_le _, Nat.zero_le _⟩ (fun H locs hP hS => ?_)
  have hP : wP D cI cB ad (v_X0_copyFrom_1 fu V j j2) H := hP
  refine lv_aload_n hx hb dX0_copyFrom_38 rfl (lv_at hl 1 rfl) ?_
  refine x_get (ci := 0) (fs := [.ref (ad (6 + 7 * j2 + 1)), .ref (ad (6 + 7 * j2 + 3)), .ref (ad (6 + 7 * j2 + 4)), .ref (ad (6 + 7 * j2 + 5)), .ref (ad (6 + 7 * j2 + 6)), .int (((v_X0_copyFrom_1 fu V j j2) (6 + 7 * j2)) 5), .int (((v_X0_copyFrom_1 fu V j j2) (6 + 7 * j2)) 6), .int (((v_X0_copyFrom_1 fu V j j2) (6 + 7 * j2)) 0), .int (((v_X0_copyFrom_1 fu V j j2) (6 + 7 * j2)) 1), .int (((v_X0_copyFrom_1 fu V j j2) (6 + 7 * j2)) 2), .int (((v_X0_copyFrom_1 fu V j j2) (6 + 7 * j2)) 3), .int (((v_X0_copyFrom_1 fu V j j2) (6 + 7 * j2)) 4)]) (q := (6 + 7 * j2)) (v := .ref (ad (6 + 7 * j2 + 5))) (N := 12) hx hb hts (fun _ h => List.mem_cons_of_mem _ (List.mem_append_left _ (List.mem_append_right _ h))) hown hK hP (by have := hj2; omega) (ce_bd ad cI cB hj2 ((v_X0_copyFrom_1 fu V j j2) (6 + 7 * j2))) rfl 3 (by decide) (hts (.fieldLink RX0 25 "TurnedBoards$Board" "uprightWord" "[I") (List.mem_of_getElem? (i := 4) rfl)) rfl rfl dX0_copyFrom_39 ?_
  refine lv_aload_n hx hb dX0_copyFrom_42 rfl (lv_at hl 0 rfl) ?_
  refine x_get (ci := 0) (fs := [.ref (ad (6 + 7 * j + 1)), .ref (ad (6 + 7 * j + 3)), .ref (ad (6 + 7 * j + 4)), .ref (ad (6 + 7 * j + 5)), .ref (ad (6 + 7 * j + 6)), .int (((v_X0_copyFrom_1 fu V j j2) (6 + 7 * j)) 5), .int (((v_X0_copyFrom_1 fu V j j2) (6 + 7 * j)) 6), .int (((v_X0_copyFrom_1 fu V j j2) (6 + 7 * j)) 0), .int (((v_X0_copyFrom_1 fu V j j2) (6 + 7 * j)) 1), .int (((v_X0_copyFrom_1 fu V j j2) (6 + 7 * j)) 2), .int (((v_X0_copyFrom_1 fu V j j2) (6 + 7 * j)) 3), .int (((v_X0_copyFrom_1 fu V j j2) (6 + 7 * j)) 4)]) (q := (6 + 7 * j)) (v := .ref (ad (6 + 7 * j + 5))) (N := 12) hx hb hts (fun _ h => List.mem_cons_of_mem _ (List.mem_append_left _ (List.mem_append_right _ h))) hown hK hP (by have := hj; omega) (ce_bd ad cI cB hj ((v_X0_copyFrom_1 fu V j j2) (6 + 7 * j))) rfl 3 (by decide) (hts (.fieldLink RX0 25 "TurnedBoards$Board" "uprightWord" "[I") (List.mem_of_getElem? (i := 4) rfl)) rfl rfl dX0_copyFrom_43 ?_
  obtain ⟨hn4, hp⟩ := hp
  refine k_SWv (As := [.ref (ad (6 + 7 * j2 + 5)), .ref (ad (6 + 7 * j + 5))]) (rest := []) ⟨hx, hb, hml, hown, hts⟩ hKN hP hS (m_X4_copy l D cI cB 54 (cellOf ad cI cB) ad hA fu (v_X0_copyFrom_1 fu V j j2) (6 + 7 * j2 + 5) 8 (6 + 7 * j + 5) 8 (rw_bd ad cI cB (j := j2) (r := 5) hj2 (by decide) (fun _ => rfl)) (rw_bd ad cI cB (j := j) (r := 5) hj (by decide) (fun _ => rfl)) hn4) (va_cwS 2 hts gX0_copyFrom_X4_copy rfl rfl rfl (by decide +kernel) ⟨(Nat.le_of_ble_eq_true rfl), (Nat.le_of_ble_eq_true rfl)⟩) rfl hl.1 rfl (Nat.le_of_ble_eq_true rfl) dX0_copyFrom_46 ⟨Nat.zero_le _, Nat.zero_le _⟩ (fun H locs hP hS => ?_)
  refine lv_aload_n hx hb dX0_copyFrom_49 rfl (lv_at hl 1 rfl) ?_
  refine x_get (ci := 0) (fs := [.ref (ad (6 + 7 * j2 + 1)), .ref (ad (6 + 7 * j2 + 3)), .ref (ad (6 + 7 * j2 + 4)), .ref (ad (6 + 7 * j2 + 5)), .ref (ad (6 + 7 * j2 + 6)), .int (((f_X4_copy fu (v_X0_copyFrom_1 fu V j j2) (6 + 7 * j2 + 5) 8 (6 + 7 * j + 5) 8) (6 + 7 * j2)) 5), .int (((f_X4_copy fu (v_X0_copyFrom_1 fu V j j2) (6 + 7 * j2 + 5) 8 (6 + 7 * j + 5) 8) (6 + 7 * j2)) 6), .int (((f_X4_copy fu (v_X0_copyFrom_1 fu V j j2) (6 + 7 * j2 + 5) 8 (6 + 7 * j + 5) 8) (6 + 7 * j2)) 0), .int (((f_X4_copy fu (v_X0_copyFrom_1 fu V j j2) (6 + 7 * j2 + 5) 8 (6 + 7 * j + 5) 8) (6 + 7 * j2)) 1), .int (((f_X4_copy fu (v_X0_copyFrom_1 fu V j j2) (6 + 7 * j2 + 5) 8 (6 + 7 * j + 5) 8) (6 + 7 * j2)) 2), .int (((f_X4_copy fu (v_X0_copyFrom_1 fu V j j2) (6 + 7 * j2 + 5) 8 (6 + 7 * j + 5) 8) (6 + 7 * j2)) 3), .int (((f_X4_copy fu (v_X0_copyFrom_1 fu V j j2) (6 + 7 * j2 + 5) 8 (6 + 7 * j + 5) 8) (6 + 7 * j2)) 4)]) (q := (6 + 7 * j2)) (v := .ref (ad (6 + 7 * j2 + 6))) (N := 12) hx hb hts (fun _ h => List.mem_cons_of_mem _ (List.mem_append_left _ (List.mem_append_right _ h))) hown hK hP (by have := hj2; omega) (ce_bd ad cI cB hj2 ((f_X4_copy fu (v_X0_copyFrom_1 fu V j j2) (6 + 7 * j2 + 5) 8 (6 + 7 * j + 5) 8) (6 + 7 * j2))) rfl 4 (by decide) (hts (.fieldLink RX0 28 "TurnedBoards$Board" "turnedWord" "[I") (List.mem_of_getElem? (i := 5) rfl)) rfl rfl dX0_copyFrom_50 ?_
  refine lv_aload_n hx hb dX0_copyFrom_53 rfl (lv_at hl 0 rfl) ?_
  refine x_get (ci := 0) (fs := [.ref (ad (6 + 7 * j + 1)), .ref (ad (6 + 7 * j + 3)), .ref (ad (6 + 7 * j + 4)), .ref (ad (6 + 7 * j + 5)), .ref (ad (6 + 7 * j + 6)), .int (((f_X4_copy fu (v_X0_copyFrom_1 fu V j j2) (6 + 7 * j2 + 5) 8 (6 + 7 * j + 5) 8) (6 + 7 * j)) 5), .int (((f_X4_copy fu (v_X0_copyFrom_1 fu V j j2) (6 + 7 * j2 + 5) 8 (6 + 7 * j + 5) 8) (6 + 7 * j)) 6), .int (((f_X4_copy fu (v_X0_copyFrom_1 fu V j j2) (6 + 7 * j2 + 5) 8 (6 + 7 * j + 5) 8) (6 + 7 * j)) 0), .int (((f_X4_copy fu (v_X0_copyFrom_1 fu V j j2) (6 + 7 * j2 + 5) 8 (6 + 7 * j + 5) 8) (6 + 7 * j)) 1), .int (((f_X4_copy fu (v_X0_copyFrom_1 fu V j j2) (6 + 7 * j2 + 5) 8 (6 + 7 * j + 5) 8) (6 + 7 * j)) 2), .int (((f_X4_copy fu (v_X0_copyFrom_1 fu V j j2) (6 + 7 * j2 + 5) 8 (6 + 7 * j + 5) 8) (6 + 7 * j)) 3), .int (((f_X4_copy fu (v_X0_copyFrom_1 fu V j j2) (6 + 7 * j2 + 5) 8 (6 + 7 * j + 5) 8) (6 + 7 * j)) 4)]) (q := (6 + 7 * j)) (v := .ref (ad (6 + 7 * j + 6))) (N := 12) hx hb hts (fun _ h => List.mem_cons_of_mem _ (List.mem_append_left _ (List.mem_append_right _ h))) hown hK hP (by have := hj; omega) (ce_bd ad cI cB hj ((f_X4_copy fu (v_X0_copyFrom_1 fu V j j2) (6 + 7 * j2 + 5) 8 (6 + 7 * j + 5) 8) (6 + 7 * j))) rfl 4 (by decide) (hts (.fieldLink RX0 28 "TurnedBoards$Board" "turnedWord" "[I") (List.mem_of_getElem? (i := 5) rfl)) rfl rfl dX0_copyFrom_54 ?_
  obtain ⟨hn5, hp⟩ := hp
  refine k_SWv (As := [.ref (ad (6 + 7 * j2 + 6)), .ref (ad (6 + 7 * j + 6))]) (rest := []) ⟨hx, hb, hml, hown, hts⟩ hKN hP hS (m_X4_copy l D cI cB 54 (cellOf ad cI cB) ad hA fu (f_X4_copy fu (v_X0_copyFrom_1 fu V j j2) (6 + 7 * j2 + 5) 8 (6 + 7 * j + 5) 8) (6 + 7 * j2 + 6) 8 (6 + 7 * j + 6) 8 (rw_bd ad cI cB (j := j2) (r := 6) hj2 (by decide) (fun _ => rfl)) (rw_bd ad cI cB (j := j) (r := 6) hj (by decide) (fun _ => rfl)) hn5) (va_cwS 2 hts gX0_copyFrom_X4_copy rfl rfl rfl (by decide +kernel) ⟨(Nat.le_of_ble_eq_true rfl), (Nat.le_of_ble_eq_true rfl)⟩) rfl hl.1 rfl (Nat.le_of_ble_eq_true rfl) dX0_copyFrom_57 ⟨Nat.zero_le _, Nat.zero_le _⟩ (fun H locs hP hS => ?_)
  have hP : wP D cI cB ad (v_X0_copyFrom_2 fu V j j2) H := hP
  refine lv_aload_n hx hb dX0_copyFrom_60 rfl (lv_at hl 0 rfl) ?_
  refine lv_aload_n hx hb dX0_copyFrom_61 rfl (lv_at hl 1 rfl) ?_
  refine x_get (ci := 0) (fs := [.ref (ad (6 + 7 * j2 + 1)), .ref (ad (6 + 7 * j2 + 3)), .ref (ad (6 + 7 * j2 + 4)), .ref (ad (6 + 7 * j2 + 5)), .ref (ad (6 + 7 * j2 + 6)), .int (((v_X0_copyFrom_2 fu V j j2) (6 + 7 * j2)) 5), .int (((v_X0_copyFrom_2 fu V j j2) (6 + 7 * j2)) 6), .int (((v_X0_copyFrom_2 fu V j j2) (6 + 7 * j2)) 0), .int (((v_X0_copyFrom_2 fu V j j2) (6 + 7 * j2)) 1), .int (((v_X0_copyFrom_2 fu V j j2) (6 + 7 * j2)) 2), .int (((v_X0_copyFrom_2 fu V j j2) (6 + 7 * j2)) 3), .int (((v_X0_copyFrom_2 fu V j j2) (6 + 7 * j2)) 4)]) (q := (6 + 7 * j2)) (v := .int ((v_X0_copyFrom_2 fu V j j2) (6 + 7 * j2) 5)) (N := 12) hx hb hts (fun _ h => List.mem_cons_of_mem _ (List.mem_append_left _ (List.mem_append_right _ h))) hown hK hP (by have := hj2; omega) (ce_bd ad cI cB hj2 ((v_X0_copyFrom_2 fu V j j2) (6 + 7 * j2))) rfl 5 (by decide) (hts (.fieldLink RX0 31 "TurnedBoards$Board" "paintedCoats" "I") (List.mem_of_getElem? (i := 6) rfl)) rfl rfl dX0_copyFrom_62 ?_
  refine x_put (ci := 0) (fs := [.ref (ad (6 + 7 * j + 1)), .ref (ad (6 + 7 * j + 3)), .ref (ad (6 + 7 * j + 4)), .ref (ad (6 + 7 * j + 5)), .ref (ad (6 + 7 * j + 6)), .int (((v_X0_copyFrom_2 fu V j j2) (6 + 7 * j)) 5), .int (((v_X0_copyFrom_2 fu V j j2) (6 + 7 * j)) 6), .int (((v_X0_copyFrom_2 fu V j j2) (6 + 7 * j)) 0), .int (((v_X0_copyFrom_2 fu V j j2) (6 + 7 * j)) 1), .int (((v_X0_copyFrom_2 fu V j j2) (6 + 7 * j)) 2), .int (((v_X0_copyFrom_2 fu V j j2) (6 + 7 * j)) 3), .int (((v_X0_copyFrom_2 fu V j j2) (6 + 7 * j)) 4)]) (q := (6 + 7 * j)) (v := .int ((v_X0_copyFrom_2 fu V j j2) (6 + 7 * j2) 5)) (ty := .int) (N := 12) hx hb hts (fun _ h => List.mem_cons_of_mem _ (List.mem_append_left _ (List.mem_append_right _ h))) tyX0 tyX0_ok nmX0 hown hK hP hA hS (by have := hj; omega) (ce_bd ad cI cB hj ((v_X0_copyFrom_2 fu V j j2) (6 + 7 * j))) rfl 5 (by decide) (hts (.fieldLink RX0 31 "TurnedBoards$Board" "paintedCoats" "I") (List.mem_of_getElem? (i := 6) rfl)) rfl rfl (by decide +kernel) rfl rfl (Nat.le_of_ble_eq_true rfl) 5 ((v_X0_copyFrom_2 fu V j j2) (6 + 7 * j2) 5) ((ce_bd ad cI cB hj (upd ((v_X0_copyFrom_2 fu V j j2) (6 + 7 * j)) 5 ((v_X0_copyFrom_2 fu V j j2) (6 + 7 * j2) 5))).trans rfl) dX0_copyFrom_65 (fun H locs hP hS => ?_)
  refine lv_aload_n hx hb dX0_copyFrom_68 rfl (lv_at hl 0 rfl) ?_
  refine lv_aload_n hx hb dX0_copyFrom_69 rfl (lv_at hl 1 rfl) ?_
  refine x_get (ci := 0) (fs := [.ref (ad (6 + 7 * j2 + 1)), .ref (ad (6 + 7 * j2 + 3)), .ref (ad (6 + 7 * j2 + 4)), .ref (ad (6 + 7 * j2 + 5)), .ref (ad (6 + 7 * j2 + 6)), .int (((upV (v_X0_copyFrom_2 fu V j j2) (6 + 7 * j) 5 ((v_X0_copyFrom_2 fu V j j2) (6 + 7 * j2) 5)) (6 + 7 * j2)) 5), .int (((upV (v_X0_copyFrom_2 fu V j j2) (6 + 7 * j) 5 ((v_X0_copyFrom_2 fu V j j2) (6 + 7 * j2) 5)) (6 + 7 * j2)) 6), .int (((upV (v_X0_copyFrom_2 fu V j j2) (6 + 7 * j) 5 ((v_X0_copyFrom_2 fu V j j2) (6 + 7 * j2) 5)) (6 + 7 * j2)) 0), .int (((upV (v_X0_copyFrom_2 fu V j j2) (6 + 7 * j) 5 ((v_X0_copyFrom_2 fu V j j2) (6 + 7 * j2) 5)) (6 + 7 * j2)) 1), .int (((upV (v_X0_copyFrom_2 fu V j j2) (6 + 7 * j) 5 ((v_X0_copyFrom_2 fu V j j2) (6 + 7 * j2) 5)) (6 + 7 * j2)) 2), .int (((upV (v_X0_copyFrom_2 fu V j j2) (6 + 7 * j) 5 ((v_X0_copyFrom_2 fu V j j2) (6 + 7 * j2) 5)) (6 + 7 * j2)) 3), .int (((upV (v_X0_copyFrom_2 fu V j j2) (6 + 7 * j) 5 ((v_X0_copyFrom_2 fu V j j2) (6 + 7 * j2) 5)) (6 + 7 * j2)) 4)]) (q := (6 + 7 * j2)) (v := .int ((upV (v_X0_copyFrom_2 fu V j j2) (6 + 7 * j) 5 ((v_X0_copyFrom_2 fu V j j2) (6 + 7 * j2) 5)) (6 + 7 * j2) 6)) (N := 12) hx hb hts (fun _ h => List.mem_cons_of_mem _ (List.mem_append_left _ (List.mem_append_right _ h))) hown hK hP (by have := hj2; omega) (ce_bd ad cI cB hj2 ((upV (v_X0_copyFrom_2 fu V j j2) (6 + 7 * j) 5 ((v_X0_copyFrom_2 fu V j j2) (6 + 7 * j2) 5)) (6 + 7 * j2))) rfl 6 (by decide) (hts (.fieldLink RX0 35 "TurnedBoards$Board" "fadingCells" "I") (List.mem_of_getElem? (i := 7) rfl)) rfl rfl dX0_copyFrom_70 ?_
  refine x_put (ci := 0) (fs := [.ref (ad (6 + 7 * j + 1)), .ref (ad (6 + 7 * j + 3)), .ref (ad (6 + 7 * j + 4)), .ref (ad (6 + 7 * j + 5)), .ref (ad (6 + 7 * j + 6)), .int (((upV (v_X0_copyFrom_2 fu V j j2) (6 + 7 * j) 5 ((v_X0_copyFrom_2 fu V j j2) (6 + 7 * j2) 5)) (6 + 7 * j)) 5), .int (((upV (v_X0_copyFrom_2 fu V j j2) (6 + 7 * j) 5 ((v_X0_copyFrom_2 fu V j j2) (6 + 7 * j2) 5)) (6 + 7 * j)) 6), .int (((upV (v_X0_copyFrom_2 fu V j j2) (6 + 7 * j) 5 ((v_X0_copyFrom_2 fu V j j2) (6 + 7 * j2) 5)) (6 + 7 * j)) 0), .int (((upV (v_X0_copyFrom_2 fu V j j2) (6 + 7 * j) 5 ((v_X0_copyFrom_2 fu V j j2) (6 + 7 * j2) 5)) (6 + 7 * j)) 1), .int (((upV (v_X0_copyFrom_2 fu V j j2) (6 + 7 * j) 5 ((v_X0_copyFrom_2 fu V j j2) (6 + 7 * j2) 5)) (6 + 7 * j)) 2), .int (((upV (v_X0_copyFrom_2 fu V j j2) (6 + 7 * j) 5 ((v_X0_copyFrom_2 fu V j j2) (6 + 7 * j2) 5)) (6 + 7 * j)) 3), .int (((upV (v_X0_copyFrom_2 fu V j j2) (6 + 7 * j) 5 ((v_X0_copyFrom_2 fu V j j2) (6 + 7 * j2) 5)) (6 + 7 * j)) 4)]) (q := (6 + 7 * j)) (v := .int ((upV (v_X0_copyFrom_2 fu V j j2) (6 + 7 * j) 5 ((v_X0_copyFrom_2 fu V j j2) (6 + 7 * j2) 5)) (6 + 7 * j2) 6)) (ty := .int) (N := 12) hx hb hts (fun _ h => List.mem_cons_of_mem _ (List.mem_append_left _ (List.mem_append_right _ h))) tyX0 tyX0_ok nmX0 hown hK hP hA hS (by have := hj; omega) (ce_bd ad cI cB hj ((upV (v_X0_copyFrom_2 fu V j j2) (6 + 7 * j) 5 ((v_X0_copyFrom_2 fu V j j2) (6 + 7 * j2) 5)) (6 + 7 * j))) rfl 6 (by decide) (hts (.fieldLink RX0 35 "TurnedBoards$Board" "fadingCells" "I") (List.mem_of_getElem? (i := 7) rfl)) rfl rfl (by decide +kernel) rfl rfl (Nat.le_of_ble_eq_true rfl) 6 ((upV (v_X0_copyFrom_2 fu V j j2) (6 + 7 * j) 5 ((v_X0_copyFrom_2 fu V j j2) (6 + 7 * j2) 5)) (6 + 7 * j2) 6) ((ce_bd ad cI cB hj (upd ((upV (v_X0_copyFrom_2 fu V j j2) (6 + 7 * j) 5 ((v_X0_copyFrom_2 fu V j j2) (6 + 7 * j2) 5)) (6 + 7 * j)) 6 ((upV (v_X0_copyFrom_2 fu V j j2) (6 + 7 * j) 5 ((v_X0_copyFrom_2 fu V j j2) (6 + 7 * j2) 5)) (6 + 7 * j2) 6))).trans rfl) dX0_copyFrom_73 (fun H locs hP hS => ?_)
  have hP : wP D cI cB ad (v_X0_copyFrom_3 fu V j j2) H := hP
  refine lv_aload_n hx hb dX0_copyFrom_76 rfl (lv_at hl 0 rfl) ?_
  refine lv_aload_n hx hb dX0_copyFrom_77 rfl (lv_at hl 1 rfl) ?_
  refine x_get (ci := 0) (fs := [.ref (ad (6 + 7 * j2 + 1)), .ref (ad (6 + 7 * j2 + 3)), .ref (ad (6 + 7 * j2 + 4)), .ref (ad (6 + 7 * j2 + 5)), .ref (ad (6 + 7 * j2 + 6)), .int (((v_X0_copyFrom_3 fu V j j2) (6 + 7 * j2)) 5), .int (((v_X0_copyFrom_3 fu V j j2) (6 + 7 * j2)) 6), .int (((v_X0_copyFrom_3 fu V j j2) (6 + 7 * j2)) 0), .int (((v_X0_copyFrom_3 fu V j j2) (6 + 7 * j2)) 1), .int (((v_X0_copyFrom_3 fu V j j2) (6 + 7 * j2)) 2), .int (((v_X0_copyFrom_3 fu V j j2) (6 + 7 * j2)) 3), .int (((v_X0_copyFrom_3 fu V j j2) (6 + 7 * j2)) 4)]) (q := (6 + 7 * j2)) (v := .int ((v_X0_copyFrom_3 fu V j j2) (6 + 7 * j2) 0)) (N := 12) hx hb hts (fun _ h => List.mem_cons_of_mem _ (List.mem_append_left _ (List.mem_append_right _ h))) hown hK hP (by have := hj2; omega) (ce_bd ad cI cB hj2 ((v_X0_copyFrom_3 fu V j j2) (6 + 7 * j2))) rfl 7 (by decide) (hts (.fieldLink RX0 38 "TurnedBoards$Board" "places" "I") (List.mem_of_getElem? (i := 8) rfl)) rfl rfl dX0_copyFrom_78 ?_
  refine x_put (ci := 0) (fs := [.ref (ad (6 + 7 * j + 1)), .ref (ad (6 + 7 * j + 3)), .ref (ad (6 + 7 * j + 4)), .ref (ad (6 + 7 * j + 5)), .ref (ad (6 + 7 * j + 6)), .int (((v_X0_copyFrom_3 fu V j j2) (6 + 7 * j)) 5), .int (((v_X0_copyFrom_3 fu V j j2) (6 + 7 * j)) 6), .int (((v_X0_copyFrom_3 fu V j j2) (6 + 7 * j)) 0), .int (((v_X0_copyFrom_3 fu V j j2) (6 + 7 * j)) 1), .int (((v_X0_copyFrom_3 fu V j j2) (6 + 7 * j)) 2), .int (((v_X0_copyFrom_3 fu V j j2) (6 + 7 * j)) 3), .int (((v_X0_copyFrom_3 fu V j j2) (6 + 7 * j)) 4)]) (q := (6 + 7 * j)) (v := .int ((v_X0_copyFrom_3 fu V j j2) (6 + 7 * j2) 0)) (ty := .int) (N := 12) hx hb hts (fun _ h => List.mem_cons_of_mem _ (List.mem_append_left _ (List.mem_append_right _ h))) tyX0 tyX0_ok nmX0 hown hK hP hA hS (by have := hj; omega) (ce_bd ad cI cB hj ((v_X0_copyFrom_3 fu V j j2) (6 + 7 * j))) rfl 7 (by decide) (hts (.fieldLink RX0 38 "TurnedBoards$Board" "places" "I") (List.mem_of_getElem? (i := 8) rfl)) rfl rfl (by decide +kernel) rfl rfl (Nat.le_of_ble_eq_true rfl) 0 ((v_X0_copyFrom_3 fu V j j2) (6 + 7 * j2) 0) ((ce_bd ad cI cB hj (upd ((v_X0_copyFrom_3 fu V j j2) (6 + 7 * j)) 0 ((v_X0_copyFrom_3 fu V j j2) (6 + 7 * j2) 0))).trans rfl) dX0_copyFrom_81 (fun H locs hP hS => ?_)
  refine lv_aload_n hx hb dX0_copyFrom_84 rfl (lv_at hl 0 rfl) ?_
  refine lv_aload_n hx hb dX0_copyFrom_85 rfl (lv_at hl 1 rfl) ?_
  refine x_get (ci := 0) (fs := [.ref (ad (6 + 7 * j2 + 1)), .ref (ad (6 + 7 * j2 + 3)), .ref (ad (6 + 7 * j2 + 4)), .ref (ad (6 + 7 * j2 + 5)), .ref (ad (6 + 7 * j2 + 6)), .int (((upV (v_X0_copyFrom_3 fu V j j2) (6 + 7 * j) 0 ((v_X0_copyFrom_3 fu V j j2) (6 + 7 * j2) 0)) (6 + 7 * j2)) 5), .int (((upV (v_X0_copyFrom_3 fu V j j2) (6 + 7 * j) 0 ((v_X0_copyFrom_3 fu V j j2) (6 + 7 * j2) 0)) (6 + 7 * j2)) 6), .int (((upV (v_X0_copyFrom_3 fu V j j2) (6 + 7 * j) 0 ((v_X0_copyFrom_3 fu V j j2) (6 + 7 * j2) 0)) (6 + 7 * j2)) 0), .int (((upV (v_X0_copyFrom_3 fu V j j2) (6 + 7 * j) 0 ((v_X0_copyFrom_3 fu V j j2) (6 + 7 * j2) 0)) (6 + 7 * j2)) 1), .int (((upV (v_X0_copyFrom_3 fu V j j2) (6 + 7 * j) 0 ((v_X0_copyFrom_3 fu V j j2) (6 + 7 * j2) 0)) (6 + 7 * j2)) 2), .int (((upV (v_X0_copyFrom_3 fu V j j2) (6 + 7 * j) 0 ((v_X0_copyFrom_3 fu V j j2) (6 + 7 * j2) 0)) (6 + 7 * j2)) 3), .int (((upV (v_X0_copyFrom_3 fu V j j2) (6 + 7 * j) 0 ((v_X0_copyFrom_3 fu V j j2) (6 + 7 * j2) 0)) (6 + 7 * j2)) 4)]) (q := (6 + 7 * j2)) (v := .int ((upV (v_X0_copyFrom_3 fu V j j2) (6 + 7 * j) 0 ((v_X0_copyFrom_3 fu V j j2) (6 + 7 * j2) 0)) (6 + 7 * j2) 1)) (N := 12) hx hb hts (fun _ h => List.mem_cons_of_mem _ (List.mem_append_left _ (List.mem_append_right _ h))) hown hK hP (by have := hj2; omega) (ce_bd ad cI cB hj2 ((upV (v_X0_copyFrom_3 fu V j j2) (6 + 7 * j) 0 ((v_X0_copyFrom_3 fu V j j2) (6 + 7 * j2) 0)) (6 + 7 * j2))) rfl 8 (by decide) (hts (.fieldLink RX0 41 "TurnedBoards$Board" "turned" "Z") (List.mem_of_getElem? (i := 9) rfl)) rfl rfl dX0_copyFrom_86 ?_
  have hn6 := hp
  refine x_put (ci := 0) (fs := [.ref (ad (6 + 7 * j + 1)), .ref (ad (6 + 7 * j + 3)), .ref (ad (6 + 7 * j + 4)), .ref (ad (6 + 7 * j + 5)), .ref (ad (6 + 7 * j + 6)), .int (((upV (v_X0_copyFrom_3 fu V j j2) (6 + 7 * j) 0 ((v_X0_copyFrom_3 fu V j j2) (6 + 7 * j2) 0)) (6 + 7 * j)) 5), .int (((upV (v_X0_copyFrom_3 fu V j j2) (6 + 7 * j) 0 ((v_X0_copyFrom_3 fu V j j2) (6 + 7 * j2) 0)) (6 + 7 * j)) 6), .int (((upV (v_X0_copyFrom_3 fu V j j2) (6 + 7 * j) 0 ((v_X0_copyFrom_3 fu V j j2) (6 + 7 * j2) 0)) (6 + 7 * j)) 0), .int (((upV (v_X0_copyFrom_3 fu V j j2) (6 + 7 * j) 0 ((v_X0_copyFrom_3 fu V j j2) (6 + 7 * j2) 0)) (6 + 7 * j)) 1), .int (((upV (v_X0_copyFrom_3 fu V j j2) (6 + 7 * j) 0 ((v_X0_copyFrom_3 fu V j j2) (6 + 7 * j2) 0)) (6 + 7 * j)) 2), .int (((upV (v_X0_copyFrom_3 fu V j j2) (6 + 7 * j) 0 ((v_X0_copyFrom_3 fu V j j2) (6 + 7 * j2) 0)) (6 + 7 * j)) 3), .int (((upV (v_X0_copyFrom_3 fu V j j2) (6 + 7 * j) 0 ((v_X0_copyFrom_3 fu V j j2) (6 + 7 * j2) 0)) (6 + 7 * j)) 4)]) (q := (6 + 7 * j)) (v := .int ((upV (v_X0_copyFrom_3 fu V j j2) (6 + 7 * j) 0 ((v_X0_copyFrom_3 fu V j j2) (6 + 7 * j2) 0)) (6 + 7 * j2) 1)) (ty := .boolean) (N := 12) hx hb hts (fun _ h => List.mem_cons_of_mem _ (List.mem_append_left _ (List.mem_append_right _ h))) tyX0 tyX0_ok nmX0 hown hK hP hA hS (by have := hj; omega) (ce_bd ad cI cB hj ((upV (v_X0_copyFrom_3 fu V j j2) (6 + 7 * j) 0 ((v_X0_copyFrom_3 fu V j j2) (6 + 7 * j2) 0)) (6 + 7 * j))) rfl 8 (by decide) (hts (.fieldLink RX0 41 "TurnedBoards$Board" "turned" "Z") (List.mem_of_getElem? (i := 9) rfl)) rfl rfl (by decide +kernel) hn6.n hn6.f (Nat.le_of_ble_eq_true rfl) 1 ((upV (v_X0_copyFrom_3 fu V j j2) (6 + 7 * j) 0 ((v_X0_copyFrom_3 fu V j j2) (6 + 7 * j2) 0)) (6 + 7 * j2) 1) ((ce_bd ad cI cB hj (upd ((upV (v_X0_copyFrom_3 fu V j j2) (6 + 7 * j) 0 ((v_X0_copyFrom_3 fu V j j2) (6 + 7 * j2) 0)) (6 + 7 * j)) 1 ((upV (v_X0_copyFrom_3 fu V j j2) (6 + 7 * j) 0 ((v_X0_copyFrom_3 fu V j j2) (6 + 7 * j2) 0)) (6 + 7 * j2) 1))).trans rfl) dX0_copyFrom_89 (fun H locs hP hS => ?_)
  have hP : wP D cI cB ad (v_X0_copyFrom_4 fu V j j2) H := hP
  refine lv_aload_n hx hb dX0_copyFrom_92 rfl (lv_at hl 0 rfl) ?_
  refine lv_aload_n hx hb dX0_copyFrom_93 rfl (lv_at hl 1 rfl) ?_
  refine x_get (ci := 0) (fs := [.ref (ad (6 + 7 * j2 + 1)), .ref (ad (6 + 7 * j2 + 3)), .ref (ad (6 + 7 * j2 + 4)), .ref (ad (6 + 7 * j2 + 5)), .ref (ad (6 + 7 * j2 + 6)), .int (((v_X0_copyFrom_4 fu V j j2) (6 + 7 * j2)) 5), .int (((v_X0_copyFrom_4 fu V j j2) (6 + 7 * j2)) 6), .int (((v_X0_copyFrom_4 fu V j j2) (6 + 7 * j2)) 0), .int (((v_X0_copyFrom_4 fu V j j2) (6 + 7 * j2)) 1), .int (((v_X0_copyFrom_4 fu V j j2) (6 + 7 * j2)) 2), .int (((v_X0_copyFrom_4 fu V j j2) (6 + 7 * j2)) 3), .int (((v_X0_copyFrom_4 fu V j j2) (6 + 7 * j2)) 4)]) (q := (6 + 7 * j2)) (v := .int ((v_X0_copyFrom_4 fu V j j2) (6 + 7 * j2) 2)) (N := 12) hx hb hts (fun _ h => List.mem_cons_of_mem _ (List.mem_append_left _ (List.mem_append_right _ h))) hown hK hP (by have := hj2; omega) (ce_bd ad cI cB hj2 ((v_X0_copyFrom_4 fu V j j2) (6 + 7 * j2))) rfl 9 (by decide) (hts (.fieldLink RX0 45 "TurnedBoards$Board" "stiffness" "I") (List.mem_of_getElem? (i := 10) rfl)) rfl rfl dX0_copyFrom_94 ?_
  refine x_put (ci := 0) (fs := [.ref (ad (6 + 7 * j + 1)), .ref (ad (6 + 7 * j + 3)), .ref (ad (6 + 7 * j + 4)), .ref (ad (6 + 7 * j + 5)), .ref (ad (6 + 7 * j + 6)), .int (((v_X0_copyFrom_4 fu V j j2) (6 + 7 * j)) 5), .int (((v_X0_copyFrom_4 fu V j j2) (6 + 7 * j)) 6), .int (((v_X0_copyFrom_4 fu V j j2) (6 + 7 * j)) 0), .int (((v_X0_copyFrom_4 fu V j j2) (6 + 7 * j)) 1), .int (((v_X0_copyFrom_4 fu V j j2) (6 + 7 * j)) 2), .int (((v_X0_copyFrom_4 fu V j j2) (6 + 7 * j)) 3), .int (((v_X0_copyFrom_4 fu V j j2) (6 + 7 * j)) 4)]) (q := (6 + 7 * j)) (v := .int ((v_X0_copyFrom_4 fu V j j2) (6 + 7 * j2) 2)) (ty := .int) (N := 12) hx hb hts (fun _ h => List.mem_cons_of_mem _ (List.mem_append_left _ (List.mem_append_right _ h))) tyX0 tyX0_ok nmX0 hown hK hP hA hS (by have := hj; omega) (ce_bd ad cI cB hj ((v_X0_copyFrom_4 fu V j j2) (6 + 7 * j))) rfl 9 (by decide) (hts (.fieldLink RX0 45 "TurnedBoards$Board" "stiffness" "I") (List.mem_of_getElem? (i := 10) rfl)) rfl rfl (by decide +kernel) rfl rfl (Nat.le_of_ble_eq_true rfl) 2 ((v_X0_copyFrom_4 fu V j j2) (6 + 7 * j2) 2) ((ce_bd ad cI cB hj (upd ((v_X0_copyFrom_4 fu V j j2) (6 + 7 * j)) 2 ((v_X0_copyFrom_4 fu V j j2) (6 + 7 * j2) 2))).trans rfl) dX0_copyFrom_97 (fun H locs hP hS => ?_)
  refine lv_aload_n hx hb dX0_copyFrom_100 rfl (lv_at hl 0 rfl) ?_
  refine lv_aload_n hx hb dX0_copyFrom_101 rfl (lv_at hl 1 rfl) ?_
  refine x_get (ci := 0) (fs := [.ref (ad (6 + 7 * j2 + 1)), .ref (ad (6 + 7 * j2 + 3)), .ref (ad (6 + 7 * j2 + 4)), .ref (ad (6 + 7 * j2 + 5)), .ref (ad (6 + 7 * j2 + 6)), .int (((upV (v_X0_copyFrom_4 fu V j j2) (6 + 7 * j) 2 ((v_X0_copyFrom_4 fu V j j2) (6 + 7 * j2) 2)) (6 + 7 * j2)) 5), .int (((upV (v_X0_copyFrom_4 fu V j j2) (6 + 7 * j) 2 ((v_X0_copyFrom_4 fu V j j2) (6 + 7 * j2) 2)) (6 + 7 * j2)) 6), .int (((upV (v_X0_copyFrom_4 fu V j j2) (6 + 7 * j) 2 ((v_X0_copyFrom_4 fu V j j2) (6 + 7 * j2) 2)) (6 + 7 * j2)) 0), .int (((upV (v_X0_copyFrom_4 fu V j j2) (6 + 7 * j) 2 ((v_X0_copyFrom_4 fu V j j2) (6 + 7 * j2) 2)) (6 + 7 * j2)) 1), .int (((upV (v_X0_copyFrom_4 fu V j j2) (6 + 7 * j) 2 ((v_X0_copyFrom_4 fu V j j2) (6 + 7 * j2) 2)) (6 + 7 * j2)) 2), .int (((upV (v_X0_copyFrom_4 fu V j j2) (6 + 7 * j) 2 ((v_X0_copyFrom_4 fu V j j2) (6 + 7 * j2) 2)) (6 + 7 * j2)) 3), .int (((upV (v_X0_copyFrom_4 fu V j j2) (6 + 7 * j) 2 ((v_X0_copyFrom_4 fu V j j2) (6 + 7 * j2) 2)) (6 + 7 * j2)) 4)]) (q := (6 + 7 * j2)) (v := .int ((upV (v_X0_copyFrom_4 fu V j j2) (6 + 7 * j) 2 ((v_X0_copyFrom_4 fu V j j2) (6 + 7 * j2) 2)) (6 + 7 * j2) 3)) (N := 12) hx hb hts (fun _ h => List.mem_cons_of_mem _ (List.mem_append_left _ (List.mem_append_right _ h))) hown hK hP (by have := hj2; omega) (ce_bd ad cI cB hj2 ((upV (v_X0_copyFrom_4 fu V j j2) (6 + 7 * j) 2 ((v_X0_copyFrom_4 fu V j j2) (6 + 7 * j2) 2)) (6 + 7 * j2))) rfl 10 (by decide) (hts (.fieldLink RX0 48 "TurnedBoards$Board" "day" "I") (List.mem_of_getElem? (i := 11) rfl)) rfl rfl dX0_copyFrom_102 ?_
  refine x_put (ci := 0) (fs := [.ref (ad (6 + 7 * j + 1)), .ref (ad (6 + 7 * j + 3)), .ref (ad (6 + 7 * j + 4)), .ref (ad (6 + 7 * j + 5)), .ref (ad (6 + 7 * j + 6)), .int (((upV (v_X0_copyFrom_4 fu V j j2) (6 + 7 * j) 2 ((v_X0_copyFrom_4 fu V j j2) (6 + 7 * j2) 2)) (6 + 7 * j)) 5), .int (((upV (v_X0_copyFrom_4 fu V j j2) (6 + 7 * j) 2 ((v_X0_copyFrom_4 fu V j j2) (6 + 7 * j2) 2)) (6 + 7 * j)) 6), .int (((upV (v_X0_copyFrom_4 fu V j j2) (6 + 7 * j) 2 ((v_X0_copyFrom_4 fu V j j2) (6 + 7 * j2) 2)) (6 + 7 * j)) 0), .int (((upV (v_X0_copyFrom_4 fu V j j2) (6 + 7 * j) 2 ((v_X0_copyFrom_4 fu V j j2) (6 + 7 * j2) 2)) (6 + 7 * j)) 1), .int (((upV (v_X0_copyFrom_4 fu V j j2) (6 + 7 * j) 2 ((v_X0_copyFrom_4 fu V j j2) (6 + 7 * j2) 2)) (6 + 7 * j)) 2), .int (((upV (v_X0_copyFrom_4 fu V j j2) (6 + 7 * j) 2 ((v_X0_copyFrom_4 fu V j j2) (6 + 7 * j2) 2)) (6 + 7 * j)) 3), .int (((upV (v_X0_copyFrom_4 fu V j j2) (6 + 7 * j) 2 ((v_X0_copyFrom_4 fu V j j2) (6 + 7 * j2) 2)) (6 + 7 * j)) 4)]) (q := (6 + 7 * j)) (v := .int ((upV (v_X0_copyFrom_4 fu V j j2) (6 + 7 * j) 2 ((v_X0_copyFrom_4 fu V j j2) (6 + 7 * j2) 2)) (6 + 7 * j2) 3)) (ty := .int) (N := 12) hx hb hts (fun _ h => List.mem_cons_of_mem _ (List.mem_append_left _ (List.mem_append_right _ h))) tyX0 tyX0_ok nmX0 hown hK hP hA hS (by have := hj; omega) (ce_bd ad cI cB hj ((upV (v_X0_copyFrom_4 fu V j j2) (6 + 7 * j) 2 ((v_X0_copyFrom_4 fu V j j2) (6 + 7 * j2) 2)) (6 + 7 * j))) rfl 10 (by decide) (hts (.fieldLink RX0 48 "TurnedBoards$Board" "day" "I") (List.mem_of_getElem? (i := 11) rfl)) rfl rfl (by decide +kernel) rfl rfl (Nat.le_of_ble_eq_true rfl) 3 ((upV (v_X0_copyFrom_4 fu V j j2) (6 + 7 * j) 2 ((v_X0_copyFrom_4 fu V j j2) (6 + 7 * j2) 2)) (6 + 7 * j2) 3) ((ce_bd ad cI cB hj (upd ((upV (v_X0_copyFrom_4 fu V j j2) (6 + 7 * j) 2 ((v_X0_copyFrom_4 fu V j j2) (6 + 7 * j2) 2)) (6 + 7 * j)) 3 ((upV (v_X0_copyFrom_4 fu V j j2) (6 + 7 * j) 2 ((v_X0_copyFrom_4 fu V j j2) (6 + 7 * j2) 2)) (6 + 7 * j2) 3))).trans rfl) dX0_copyFrom_105 (fun H locs hP hS => ?_)
  have hP : wP D cI cB ad (v_X0_copyFrom_5 fu V j j2) H := hP
  refine lv_aload_n hx hb dX0_copyFrom_108 rfl (lv_at hl 0 rfl) ?_
  refine lv_aload_n hx hb dX0_copyFrom_109 rfl (lv_at hl 1 rfl) ?_
  refine x_get (ci := 0) (fs := [.ref (ad (6 + 7 * j2 + 1)), .ref (ad (6 + 7 * j2 + 3)), .ref (ad (6 + 7 * j2 + 4)), .ref (ad (6 + 7 * j2 + 5)), .ref (ad (6 + 7 * j2 + 6)), .int (((v_X0_copyFrom_5 fu V j j2) (6 + 7 * j2)) 5), .int (((v_X0_copyFrom_5 fu V j j2) (6 + 7 * j2)) 6), .int (((v_X0_copyFrom_5 fu V j j2) (6 + 7 * j2)) 0), .int (((v_X0_copyFrom_5 fu V j j2) (6 + 7 * j2)) 1), .int (((v_X0_copyFrom_5 fu V j j2) (6 + 7 * j2)) 2), .int (((v_X0_copyFrom_5 fu V j j2) (6 + 7 * j2)) 3), .int (((v_X0_copyFrom_5 fu V j j2) (6 + 7 * j2)) 4)]) (q := (6 + 7 * j2)) (v := .int ((v_X0_copyFrom_5 fu V j j2) (6 + 7 * j2) 4)) (N := 12) hx hb hts (fun _ h => List.mem_cons_of_mem _ (List.mem_append_left _ (List.mem_append_right _ h))) hown hK hP (by have := hj2; omega) (ce_bd ad cI cB hj2 ((v_X0_copyFrom_5 fu V j j2) (6 + 7 * j2))) rfl 11 (by decide) (hts (.fieldLink RX0 51 "TurnedBoards$Board" "turns" "I") (List.mem_of_getElem? (i := 12) rfl)) rfl rfl dX0_copyFrom_110 ?_
  refine x_put (ci := 0) (fs := [.ref (ad (6 + 7 * j + 1)), .ref (ad (6 + 7 * j + 3)), .ref (ad (6 + 7 * j + 4)), .ref (ad (6 + 7 * j + 5)), .ref (ad (6 + 7 * j + 6)), .int (((v_X0_copyFrom_5 fu V j j2) (6 + 7 * j)) 5), .int (((v_X0_copyFrom_5 fu V j j2) (6 + 7 * j)) 6), .int (((v_X0_copyFrom_5 fu V j j2) (6 + 7 * j)) 0), .int (((v_X0_copyFrom_5 fu V j j2) (6 + 7 * j)) 1), .int (((v_X0_copyFrom_5 fu V j j2) (6 + 7 * j)) 2), .int (((v_X0_copyFrom_5 fu V j j2) (6 + 7 * j)) 3), .int (((v_X0_copyFrom_5 fu V j j2) (6 + 7 * j)) 4)]) (q := (6 + 7 * j)) (v := .int ((v_X0_copyFrom_5 fu V j j2) (6 + 7 * j2) 4)) (ty := .int) (N := 12) hx hb hts (fun _ h => List.mem_cons_of_mem _ (List.mem_append_left _ (List.mem_append_right _ h))) tyX0 tyX0_ok nmX0 hown hK hP hA hS (by have := hj; omega) (ce_bd ad cI cB hj ((v_X0_copyFrom_5 fu V j j2) (6 + 7 * j))) rfl 11 (by decide) (hts (.fieldLink RX0 51 "TurnedBoards$Board" "turns" "I") (List.mem_of_getElem? (i := 12) rfl)) rfl rfl (by decide +kernel) rfl rfl (Nat.le_of_ble_eq_true rfl) 4 ((v_X0_copyFrom_5 fu V j j2) (6 + 7 * j2) 4) ((ce_bd ad cI cB hj (upd ((v_X0_copyFrom_5 fu V j j2) (6 + 7 * j)) 4 ((v_X0_copyFrom_5 fu V j j2) (6 + 7 * j2) 4))).trans rfl) dX0_copyFrom_113 (fun H locs hP hS => ?_)
  exact W.vret hx hb hr (fun t ht hW => ⟨⟨(upV (v_X0_copyFrom_5 fu V j j2) (6 + 7 * j) 4 ((v_X0_copyFrom_5 fu V j j2) (6 + 7 * j2) 4)), rfl, hE.symm, by dsimp only; rw [ht]; exact hP⟩, hS.F ht⟩) hS.2.2 dX0_copyFrom_116
def v_X0_renew_1 (fu : Nat) (V : VT) (j : Nat) (p1 : Int32) : VT := (f_X4_fill fu (f_X4_fill fu (upV (upV V (6 + 7 * j) 0 p1) (6 + 7 * j) 1 0) (6 + 7 * j + 3) 8 0) (6 + 7 * j + 4) 8 0)
def f_X0_renew (fu : Nat) (V : VT) (j : Nat) (p1 : Int32) : VT := (v_X0_renew_1 fu V j p1)
def p_X0_renew (fu : Nat) (V : VT) (j : Nat) (p1 : Int32) : Prop := ((p_X4_fill fu (upV (upV V (6 + 7 * j) 0 p1) (6 + 7 * j) 1 0) (6 + 7 * j + 3) 8 0) ∧ (p_X4_fill fu (f_X4_fill fu (upV (upV V (6 + 7 * j) 0 p1) (6 + 7 * j) 1 0) (6 + 7 * j + 3) 8 0) (6 + 7 * j + 4) 8 0))
set_option maxHeartbeats 4000000 in
set_option maxRecDepth 100000 in
theorem m_X0_renew (l : Launch) (D : va_G) (cI cB : ClassId) (ad : Nat → Nat) {A : Nat → Prop} (hA : adOk ad A) (fu : Nat) (V : VT) (j : Nat) (p1 : Int32) (hj : j < 6) (hp : p_X0_renew fu V j p1) : Met l yX0_renew wsX0_renew ({ frames := 1, cells := 0, slots := 0, locals := 22 }) (cP D cI cB ad V [.ref (ad (6 + 7 * j)), .int p1]) (cWv D cI cB ad A (f_X0_renew fu V j p1)) 0 0 A := by
  refine Met.ofW (cc := cX0_renew) (maxL := 2) (ret := none) (by decide +kernel) rfl ?_
  intro p e s m args below meth c s₁ B hml hv
  obtain ⟨rfl, hP, hKN⟩ := hv
  have hK := hKN.1
  have hx := B.exec
  have hb := B.bytes
  have hr := B.returns
  have hts := atoms_spec (ws := wsX0_renew) B.pre
  have hown : s.vm.findClass RX0 = some m.cls := findClass_of_methodNamed B.named
  have hlocks := B.notSynchronized
  have hS : va_S A s.heap s.heap [] := va_S.rf
  have hl := lv_entry ([.ref (ad (6 + 7 * j)), .int p1]) (n := 2) (Nat.le_of_ble_eq_true rfl)
  rw [lg_entry_eq]
  generalize (lg_sl ([.ref (ad (6 + 7 * j)), .int p1]) ++ List.replicate (2 - (lg_sl ([.ref (ad (6 + 7 * j)), .int p1])).length) Slot.unset).toArray = ls at hl ⊢
  have hl : lv_has ls 2 [(0, .ref (ad (6 + 7 * j))), (1, .int p1)] := hl
  have hE : f_X0_renew fu V j p1 = (v_X0_renew_1 fu V j p1) := rfl
  refine lv_aload_n hx hb dX0_renew_0 rfl (lv_at hl 0 rfl) ?_
  refine lv_iload_n hx hb dX0_renew_1 rfl (lv_at hl 1 rfl) ?_
  refine x_put (ci := 0) (fs := [.ref (ad (6 + 7 * j + 1)), .ref (ad (6 + 7 * j + 3)), .ref (ad (6 + 7 * j + 4)), .ref (ad (6 + 7 * j + 5)), .ref (ad (6 + 7 * j + 6)), .int ((V (6 + 7 * j)) 5), .int ((V (6 + 7 * j)) 6), .int ((V (6 + 7 * j)) 0), .int ((V (6 + 7 * j)) 1), .int ((V (6 + 7 * j)) 2), .int ((V (6 + 7 * j)) 3), .int ((V (6 + 7 * j)) 4)]) (q := (6 + 7 * j)) (v := .int p1) (ty := .int) (N := 12) hx hb hts (fun _ h => List.mem_cons_of_mem _ (List.mem_append_right _ h)) tyX0 tyX0_ok nmX0 hown hK hP hA hS (by have := hj; omega) (ce_bd ad cI cB hj (V (6 + 7 * j))) rfl 7 (by decide) (hts (.fieldLink RX0 38 "TurnedBoards$Board" "places" "I") (List.mem_of_getElem? (i := 1) rfl)) rfl rfl (by decide +kernel) rfl rfl (Nat.le_of_ble_eq_true rfl) 0 p1 ((ce_bd ad cI cB hj (upd (V (6 + 7 * j)) 0 p1)).trans rfl) dX0_renew_2 (fun H locs hP hS => ?_)
  refine lv_aload_n hx hb dX0_renew_5 rfl (lv_at hl 0 rfl) ?_
  refine lv_iconst (v := 0) hx hb dX0_renew_6 (by decide) ?_
  refine x_put (ci := 0) (fs := [.ref (ad (6 + 7 * j + 1)), .ref (ad (6 + 7 * j + 3)), .ref (ad (6 + 7 * j + 4)), .ref (ad (6 + 7 * j + 5)), .ref (ad (6 + 7 * j + 6)), .int (((upV V (6 + 7 * j) 0 p1) (6 + 7 * j)) 5), .int (((upV V (6 + 7 * j) 0 p1) (6 + 7 * j)) 6), .int (((upV V (6 + 7 * j) 0 p1) (6 + 7 * j)) 0), .int (((upV V (6 + 7 * j) 0 p1) (6 + 7 * j)) 1), .int (((upV V (6 + 7 * j) 0 p1) (6 + 7 * j)) 2), .int (((upV V (6 + 7 * j) 0 p1) (6 + 7 * j)) 3), .int (((upV V (6 + 7 * j) 0 p1) (6 + 7 * j)) 4)]) (q := (6 + 7 * j)) (v := .int 0) (ty := .boolean) (N := 12) hx hb hts (fun _ h => List.mem_cons_of_mem _ (List.mem_append_right _ h)) tyX0 tyX0_ok nmX0 hown hK hP hA hS (by have := hj; omega) (ce_bd ad cI cB hj ((upV V (6 + 7 * j) 0 p1) (6 + 7 * j))) rfl 8 (by decide) (hts (.fieldLink RX0 41 "TurnedBoards$Board" "turned" "Z") (List.mem_of_getElem? (i := 2) rfl)) rfl rfl (by decide +kernel) rfl rfl (Nat.le_of_ble_eq_true rfl) 1 0 ((ce_bd ad cI cB hj (upd ((upV V (6 + 7 * j) 0 p1) (6 + 7 * j)) 1 0)).trans rfl) dX0_renew_7 (fun H locs hP hS => ?_)
  refine lv_aload_n hx hb dX0_renew_10 rfl (lv_at hl 0 rfl) ?_
  refine x_get (ci := 0) (fs := [.ref (ad (6 + 7 * j + 1)), .ref (ad (6 + 7 * j + 3)), .ref (ad (6 + 7 * j + 4)), .ref (ad (6 + 7 * j + 5)), .ref (ad (6 + 7 * j + 6)), .int (((upV (upV V (6 + 7 * j) 0 p1) (6 + 7 * j) 1 0) (6 + 7 * j)) 5), .int (((upV (upV V (6 + 7 * j) 0 p1) (6 + 7 * j) 1 0) (6 + 7 * j)) 6), .int (((upV (upV V (6 + 7 * j) 0 p1) (6 + 7 * j) 1 0) (6 + 7 * j)) 0), .int (((upV (upV V (6 + 7 * j) 0 p1) (6 + 7 * j) 1 0) (6 + 7 * j)) 1), .int (((upV (upV V (6 + 7 * j) 0 p1) (6 + 7 * j) 1 0) (6 + 7 * j)) 2), .int (((upV (upV V (6 + 7 * j) 0 p1) (6 + 7 * j) 1 0) (6 + 7 * j)) 3), .int (((upV (upV V (6 + 7 * j) 0 p1) (6 + 7 * j) 1 0) (6 + 7 * j)) 4)]) (q := (6 + 7 * j)) (v := .ref (ad (6 + 7 * j + 3))) (N := 12) hx hb hts (fun _ h => List.mem_cons_of_mem _ (List.mem_append_right _ h)) hown hK hP (by have := hj; omega) (ce_bd ad cI cB hj ((upV (upV V (6 + 7 * j) 0 p1) (6 + 7 * j) 1 0) (6 + 7 * j))) rfl 1 (by decide) (hts (.fieldLink RX0 18 "TurnedBoards$Board" "signs" "[I") (List.mem_of_getElem? (i := 3) rfl)) rfl rfl dX0_renew_11 ?_
  refine lv_iconst (v := 0) hx hb dX0_renew_14 (by decide) ?_
  obtain ⟨hn1, hp⟩ := hp
  refine k_SWv (As := [.ref (ad (6 + 7 * j + 3)), .int 0]) (rest := []) ⟨hx, hb, hml, hown, hts⟩ hKN hP hS (m_X4_fill l D cI cB 54 (cellOf ad cI cB) ad hA fu (upV (upV V (6 + 7 * j) 0 p1) (6 + 7 * j) 1 0) (6 + 7 * j + 3) 8 0 (rw_bd ad cI cB (j := j) (r := 3) hj (by decide) (fun _ => rfl)) hn1) (va_cwS 2 hts gX0_renew_X4_fill rfl rfl rfl (by decide +kernel) ⟨(Nat.le_of_ble_eq_true rfl), (Nat.le_of_ble_eq_true rfl)⟩) rfl hl.1 rfl (Nat.le_of_ble_eq_true rfl) dX0_renew_15 ⟨Nat.zero_le _, Nat.zero_le _⟩ (fun H locs hP hS => ?_)
  refine lv_aload_n hx hb dX0_renew_18 rfl (lv_at hl 0 rfl) ?_
  refine x_get (ci := 0) (fs := [.ref (ad (6 + 7 * j + 1)), .ref (ad (6 + 7 * j + 3)), .ref (ad (6 + 7 * j + 4)), .ref (ad (6 + 7 * j + 5)), .ref (ad (6 + 7 * j + 6)), .int (((f_X4_fill fu (upV (upV V (6 + 7 * j) 0 p1) (6 + 7 * j) 1 0) (6 + 7 * j + 3) 8 0) (6 + 7 * j)) 5), .int (((f_X4_fill fu (upV (upV V (6 + 7 * j) 0 p1) (6 + 7 * j) 1 0) (6 + 7 * j + 3) 8 0) (6 + 7 * j)) 6), .int (((f_X4_fill fu (upV (upV V (6 + 7 * j) 0 p1) (6 + 7 * j) 1 0) (6 + 7 * j + 3) 8 0) (6 + 7 * j)) 0), .int (((f_X4_fill fu (upV (upV V (6 + 7 * j) 0 p1) (6 + 7 * j) 1 0) (6 + 7 * j + 3) 8 0) (6 + 7 * j)) 1), .int (((f_X4_fill fu (upV (upV V (6 + 7 * j) 0 p1) (6 + 7 * j) 1 0) (6 + 7 * j + 3) 8 0) (6 + 7 * j)) 2), .int (((f_X4_fill fu (upV (upV V (6 + 7 * j) 0 p1) (6 + 7 * j) 1 0) (6 + 7 * j + 3) 8 0) (6 + 7 * j)) 3), .int (((f_X4_fill fu (upV (upV V (6 + 7 * j) 0 p1) (6 + 7 * j) 1 0) (6 + 7 * j + 3) 8 0) (6 + 7 * j)) 4)]) (q := (6 + 7 * j)) (v := .ref (ad (6 + 7 * j + 4))) (N := 12) hx hb hts (fun _ h => List.mem_cons_of_mem _ (List.mem_append_right _ h)) hown hK hP (by have := hj; omega) (ce_bd ad cI cB hj ((f_X4_fill fu (upV (upV V (6 + 7 * j) 0 p1) (6 + 7 * j) 1 0) (6 + 7 * j + 3) 8 0) (6 + 7 * j))) rfl 2 (by decide) (hts (.fieldLink RX0 22 "TurnedBoards$Board" "coats" "[I") (List.mem_of_getElem? (i := 4) rfl)) rfl rfl dX0_renew_19 ?_
  refine lv_iconst (v := 0) hx hb dX0_renew_22 (by decide) ?_
  have hn2 := hp
  refine k_SWv (As := [.ref (ad (6 + 7 * j + 4)), .int 0]) (rest := []) ⟨hx, hb, hml, hown, hts⟩ hKN hP hS (m_X4_fill l D cI cB 54 (cellOf ad cI cB) ad hA fu (f_X4_fill fu (upV (upV V (6 + 7 * j) 0 p1) (6 + 7 * j) 1 0) (6 + 7 * j + 3) 8 0) (6 + 7 * j + 4) 8 0 (rw_bd ad cI cB (j := j) (r := 4) hj (by decide) (fun _ => rfl)) hn2) (va_cwS 2 hts gX0_renew_X4_fill rfl rfl rfl (by decide +kernel) ⟨(Nat.le_of_ble_eq_true rfl), (Nat.le_of_ble_eq_true rfl)⟩) rfl hl.1 rfl (Nat.le_of_ble_eq_true rfl) dX0_renew_23 ⟨Nat.zero_le _, Nat.zero_le _⟩ (fun H locs hP hS => ?_)
  have hP : wP D cI cB ad (v_X0_renew_1 fu V j p1) H := hP
  exact W.vret hx hb hr (fun t ht hW => ⟨⟨(v_X0_renew_1 fu V j p1), rfl, hE.symm, by dsimp only; rw [ht]; exact hP⟩, hS.F ht⟩) hS.2.2 dX0_renew_26
def f_X0_coat (V : VT) (j : Nat) (p1 : Int32) (p2 : Int32) : VT := (f_X4_put V (6 + 7 * j + 4) 8 p1 p2)
set_option maxHeartbeats 4000000 in
set_option maxRecDepth 100000 in
theorem m_X0_coat (l : Launch) (D : va_G) (cI cB : ClassId) (ad : Nat → Nat) {A : Nat → Prop} (hA : adOk ad A) (V : VT) (j : Nat) (p1 : Int32) (p2 : Int32) (hj : j < 6) : Met l yX0_coat wsX0_coat ({ frames := 1, cells := 0, slots := 0, locals := 22 }) (cP D cI cB ad V [.ref (ad (6 + 7 * j)), .int p1, .int p2]) (cWv D cI cB ad A (f_X0_coat V j p1 p2)) 0 0 A := by
  refine Met.ofW (cc := cX0_coat) (maxL := 3) (ret := none) (by decide +kernel) rfl ?_
  intro p e s m args below meth c s₁ B hml hv
  obtain ⟨rfl, hP, hKN⟩ := hv
  have hK := hKN.1
  have hx := B.exec
  have hb := B.bytes
  have hr := B.returns
  have hts := atoms_spec (ws := wsX0_coat) B.pre
  have hown : s.vm.findClass RX0 = some m.cls := findClass_of_methodNamed B.named
  have hlocks := B.notSynchronized
  have hS : va_S A s.heap s.heap [] := va_S.rf
  have hl := lv_entry ([.ref (ad (6 + 7 * j)), .int p1, .int p2]) (n := 3) (Nat.le_of_ble_eq_true rfl)
  rw [lg_entry_eq]
  generalize (lg_sl ([.ref (ad (6 + 7 * j)), .int p1, .int p2]) ++ List.replicate (3 - (lg_sl ([.ref (ad (6 + 7 * j)), .int p1, .int p2])).length) Slot.unset).toArray = ls at hl ⊢
  have hl : lv_has ls 3 [(0, .ref (ad (6 + 7 * j))), (1, .int p1), (2, .int p2)] := hl
  have hE : f_X0_coat V j p1 p2 = (f_X4_put V (6 + 7 * j + 4) 8 p1 p2) := rfl
  refine lv_aload_n hx hb dX0_coat_0 rfl (lv_at hl 0 rfl) ?_
  refine x_get (ci := 0) (fs := [.ref (ad (6 + 7 * j + 1)), .ref (ad (6 + 7 * j + 3)), .ref (ad (6 + 7 * j + 4)), .ref (ad (6 + 7 * j + 5)), .ref (ad (6 + 7 * j + 6)), .int ((V (6 + 7 * j)) 5), .int ((V (6 + 7 * j)) 6), .int ((V (6 + 7 * j)) 0), .int ((V (6 + 7 * j)) 1), .int ((V (6 + 7 * j)) 2), .int ((V (6 + 7 * j)) 3), .int ((V (6 + 7 * j)) 4)]) (q := (6 + 7 * j)) (v := .ref (ad (6 + 7 * j + 4))) (N := 12) hx hb hts (fun _ h => List.mem_cons_of_mem _ (List.mem_append_right _ h)) hown hK hP (by have := hj; omega) (ce_bd ad cI cB hj (V (6 + 7 * j))) rfl 2 (by decide) (hts (.fieldLink RX0 22 "TurnedBoards$Board" "coats" "[I") (List.mem_of_getElem? (i := 1) rfl)) rfl rfl dX0_coat_1 ?_
  refine lv_iload_n hx hb dX0_coat_4 rfl (lv_at hl 1 rfl) ?_
  refine lv_iload_n hx hb dX0_coat_5 rfl (lv_at hl 2 rfl) ?_
  refine k_SWv (As := [.ref (ad (6 + 7 * j + 4)), .int p1, .int p2]) (rest := []) ⟨hx, hb, hml, hown, hts⟩ hKN hP hS (m_X4_put l D cI cB 54 (cellOf ad cI cB) ad hA V (6 + 7 * j + 4) 8 p1 p2 (rw_bd ad cI cB (j := j) (r := 4) hj (by decide) (fun _ => rfl))) (va_cwS 3 hts gX0_coat_X4_put rfl rfl rfl (by decide +kernel) ⟨(Nat.le_of_ble_eq_true rfl), (Nat.le_of_ble_eq_true rfl)⟩) rfl hl.1 rfl (Nat.le_of_ble_eq_true rfl) dX0_coat_6 ⟨Nat.zero_le _, Nat.zero_le _⟩ (fun H locs hP hS => ?_)
  exact W.vret hx hb hr (fun t ht hW => ⟨⟨(f_X4_put V (6 + 7 * j + 4) 8 p1 p2), rfl, hE.symm, by dsimp only; rw [ht]; exact hP⟩, hS.F ht⟩) hS.2.2 dX0_coat_9
def f_X0_hang (V : VT) (j : Nat) (p1 : Int32) (p2 : Int32) : VT := (f_X0_coat (f_X4_put V (6 + 7 * j + 3) 8 p1 p2) j p1 ((f_X4_put V (6 + 7 * j + 3) 8 p1 p2) (6 + 7 * j) 5))
set_option maxHeartbeats 4000000 in
set_option maxRecDepth 100000 in
theorem m_X0_hang (l : Launch) (D : va_G) (cI cB : ClassId) (ad : Nat → Nat) {A : Nat → Prop} (hA : adOk ad A) (V : VT) (j : Nat) (p1 : Int32) (p2 : Int32) (hj : j < 6) : Met l yX0_hang wsX0_hang ({ frames := 2, cells := 0, slots := 0, locals := 44 }) (cP D cI cB ad V [.ref (ad (6 + 7 * j)), .int p1, .int p2]) (cWv D cI cB ad A (f_X0_hang V j p1 p2)) 0 0 A := by
  refine Met.ofW (cc := cX0_hang) (maxL := 3) (ret := none) (by decide +kernel) rfl ?_
  intro p e s m args below meth c s₁ B hml hv
  obtain ⟨rfl, hP, hKN⟩ := hv
  have hK := hKN.1
  have hx := B.exec
  have hb := B.bytes
  have hr := B.returns
  have hts := atoms_spec (ws := wsX0_hang) B.pre
  have hown : s.vm.findClass RX0 = some m.cls := findClass_of_methodNamed B.named
  have hlocks := B.notSynchronized
  have hS : va_S A s.heap s.heap [] := va_S.rf
  have hl := lv_entry ([.ref (ad (6 + 7 * j)), .int p1, .int p2]) (n := 3) (Nat.le_of_ble_eq_true rfl)
  rw [lg_entry_eq]
  generalize (lg_sl ([.ref (ad (6 + 7 * j)), .int p1, .int p2]) ++ List.replicate (3 - (lg_sl ([.ref (ad (6 + 7 * j)), .int p1, .int p2])).length) Slot.unset).toArray = ls at hl ⊢
  have hl : lv_has ls 3 [(0, .ref (ad (6 + 7 * j))), (1, .int p1), (2, .int p2)] := hl
  have hE : f_X0_hang V j p1 p2 = (f_X0_coat (f_X4_put V (6 + 7 * j + 3) 8 p1 p2) j p1 ((f_X4_put V (6 + 7 * j + 3) 8 p1 p2) (6 + 7 * j) 5)) := rfl
  refine lv_aload_n hx hb dX0_hang_0 rfl (lv_at hl 0 rfl) ?_
  refine x_get (ci := 0) (fs := [.ref (ad (6 + 7 * j + 1)), .ref (ad (6 + 7 * j + 3)), .ref (ad (6 + 7 * j + 4)), .ref (ad (6 + 7 * j + 5)), .ref (ad (6 + 7 * j + 6)), .int ((V (6 + 7 * j)) 5), .int ((V (6 + 7 * j)) 6), .int ((V (6 + 7 * j)) 0), .int ((V (6 + 7 * j)) 1), .int ((V (6 + 7 * j)) 2), .int ((V (6 + 7 * j)) 3), .int ((V (6 + 7 * j)) 4)]) (q := (6 + 7 * j)) (v := .ref (ad (6 + 7 * j + 3))) (N := 12) hx hb hts (fun _ h => List.mem_cons_of_mem _ (List.mem_append_right _ h)) hown hK hP (by have := hj; omega) (ce_bd ad cI cB hj (V (6 + 7 * j))) rfl 1 (by decide) (hts (.fieldLink RX0 18 "TurnedBoards$Board" "signs" "[I") (List.mem_of_getElem? (i := 1) rfl)) rfl rfl dX0_hang_1 ?_
  refine lv_iload_n hx hb dX0_hang_4 rfl (lv_at hl 1 rfl) ?_
  refine lv_iload_n hx hb dX0_hang_5 rfl (lv_at hl 2 rfl) ?_
  refine k_SWv (As := [.ref (ad (6 + 7 * j + 3)), .int p1, .int p2]) (rest := []) ⟨hx, hb, hml, hown, hts⟩ hKN hP hS (m_X4_put l D cI cB 54 (cellOf ad cI cB) ad hA V (6 + 7 * j + 3) 8 p1 p2 (rw_bd ad cI cB (j := j) (r := 3) hj (by decide) (fun _ => rfl))) (va_cwS 3 hts gX0_hang_X4_put rfl rfl rfl (by decide +kernel) ⟨(Nat.le_of_ble_eq_true rfl), (Nat.le_of_ble_eq_true rfl)⟩) rfl hl.1 rfl (Nat.le_of_ble_eq_true rfl) dX0_hang_6 ⟨Nat.zero_le _, Nat.zero_le _⟩ (fun H locs hP hS => ?_)
  refine lv_aload_n hx hb dX0_hang_9 rfl (lv_at hl 0 rfl) ?_
  refine lv_iload_n hx hb dX0_hang_10 rfl (lv_at hl 1 rfl) ?_
  refine lv_aload_n hx hb dX0_hang_11 rfl (lv_at hl 0 rfl) ?_
  refine x_get (ci := 0) (fs := [.ref (ad (6 + 7 * j + 1)), .ref (ad (6 + 7 * j + 3)), .ref (ad (6 + 7 * j + 4)), .ref (ad (6 + 7 * j + 5)), .ref (ad (6 + 7 * j + 6)), .int (((f_X4_put V (6 + 7 * j + 3) 8 p1 p2) (6 + 7 * j)) 5), .int (((f_X4_put V (6 + 7 * j + 3) 8 p1 p2) (6 + 7 * j)) 6), .int (((f_X4_put V (6 + 7 * j + 3) 8 p1 p2) (6 + 7 * j)) 0), .int (((f_X4_put V (6 + 7 * j + 3) 8 p1 p2) (6 + 7 * j)) 1), .int (((f_X4_put V (6 + 7 * j + 3) 8 p1 p2) (6 + 7 * j)) 2), .int (((f_X4_put V (6 + 7 * j + 3) 8 p1 p2) (6 + 7 * j)) 3), .int (((f_X4_put V (6 + 7 * j + 3) 8 p1 p2) (6 + 7 * j)) 4)]) (q := (6 + 7 * j)) (v := .int ((f_X4_put V (6 + 7 * j + 3) 8 p1 p2) (6 + 7 * j) 5)) (N := 12) hx hb hts (fun _ h => List.mem_cons_of_mem _ (List.mem_append_right _ h)) hown hK hP (by have := hj; omega) (ce_bd ad cI cB hj ((f_X4_put V (6 + 7 * j + 3) 8 p1 p2) (6 + 7 * j))) rfl 5 (by decide) (hts (.fieldLink RX0 31 "TurnedBoards$Board" "paintedCoats" "I") (List.mem_of_getElem? (i := 2) rfl)) rfl rfl dX0_hang_12 ?_
  refine k_VWv (As := [.int p1, .int ((f_X4_put V (6 + 7 * j + 3) 8 p1 p2) (6 + 7 * j) 5)]) (rest := []) (q := (6 + 7 * j)) ⟨hx, hb, hml, hown, hts⟩ hKN hP hS (m_X0_coat l D cI cB ad hA (f_X4_put V (6 + 7 * j + 3) 8 p1 p2) j p1 ((f_X4_put V (6 + 7 * j + 3) 8 p1 p2) (6 + 7 * j) 5) hj) (cwV 2 hts gX0_hang_X0_coat rfl rfl rfl (by decide +kernel) ⟨(Nat.le_of_ble_eq_true rfl), (Nat.le_of_ble_eq_true rfl)⟩) (c_preV hP hKN (q := (6 + 7 * j)) (ci := 0) (fs := [.ref (ad (6 + 7 * j + 1)), .ref (ad (6 + 7 * j + 3)), .ref (ad (6 + 7 * j + 4)), .ref (ad (6 + 7 * j + 5)), .ref (ad (6 + 7 * j + 6)), .int (((f_X4_put V (6 + 7 * j + 3) 8 p1 p2) (6 + 7 * j)) 5), .int (((f_X4_put V (6 + 7 * j + 3) 8 p1 p2) (6 + 7 * j)) 6), .int (((f_X4_put V (6 + 7 * j + 3) 8 p1 p2) (6 + 7 * j)) 0), .int (((f_X4_put V (6 + 7 * j + 3) 8 p1 p2) (6 + 7 * j)) 1), .int (((f_X4_put V (6 + 7 * j + 3) 8 p1 p2) (6 + 7 * j)) 2), .int (((f_X4_put V (6 + 7 * j + 3) 8 p1 p2) (6 + 7 * j)) 3), .int (((f_X4_put V (6 + 7 * j + 3) 8 p1 p2) (6 + 7 * j)) 4)]) (by have := hj; omega) (ce_bd ad cI cB hj ((f_X4_put V (6 + 7 * j + 3) 8 p1 p2) (6 + 7 * j))) rfl rfl) rfl hl.1 rfl (Nat.le_of_ble_eq_true rfl) dX0_hang_15 ⟨Nat.zero_le _, Nat.zero_le _⟩ (fun H locs hP hS => ?_)
  exact W.vret hx hb hr (fun t ht hW => ⟨⟨(f_X0_coat (f_X4_put V (6 + 7 * j + 3) 8 p1 p2) j p1 ((f_X4_put V (6 + 7 * j + 3) 8 p1 p2) (6 + 7 * j) 5)), rfl, hE.symm, by dsimp only; rw [ht]; exact hP⟩, hS.F ht⟩) hS.2.2 dX0_hang_18
def v_X0_turnRound_1 (V : VT) (j : Nat) : VT := (upV (upV (upV V (6 + 7 * j) 1 1) (6 + 7 * j) 4 (((upV V (6 + 7 * j) 1 1) (6 + 7 * j) 4) + 1)) (6 + 7 * j) 2 (if 1 < (((upV (upV V (6 + 7 * j) 1 1) (6 + 7 * j) 4 (((upV V (6 + 7 * j) 1 1) (6 + 7 * j) 4) + 1)) (6 + 7 * j) 2) - 1) then (((upV (upV V (6 + 7 * j) 1 1) (6 + 7 * j) 4 (((upV V (6 + 7 * j) 1 1) (6 + 7 * j) 4) + 1)) (6 + 7 * j) 2) - 1) else 1))
def v_X0_turnRound_2 (V : VT) (j : Nat) : VT := (upV (upV (upV V (6 + 7 * j) 1 0) (6 + 7 * j) 4 (((upV V (6 + 7 * j) 1 0) (6 + 7 * j) 4) + 1)) (6 + 7 * j) 2 (if 1 < (((upV (upV V (6 + 7 * j) 1 0) (6 + 7 * j) 4 (((upV V (6 + 7 * j) 1 0) (6 + 7 * j) 4) + 1)) (6 + 7 * j) 2) - 1) then (((upV (upV V (6 + 7 * j) 1 0) (6 + 7 * j) 4 (((upV V (6 + 7 * j) 1 0) (6 + 7 * j) 4) + 1)) (6 + 7 * j) 2) - 1) else 1))
def f_X0_turnRound (V : VT) (j : Nat) : VT := (if (V (6 + 7 * j) 1) = 0 then (v_X0_turnRound_1 V j) else (v_X0_turnRound_2 V j))
set_option maxHeartbeats 4000000 in
set_option maxRecDepth 100000 in
theorem m_X0_turnRound (l : Launch) (D : va_G) (cI cB : ClassId) (ad : Nat → Nat) {A : Nat → Prop} (hA : adOk ad A) (V : VT) (j : Nat) (hj : j < 6) : Met l yX0_turnRound wsX0_turnRound ({ frames := 1, cells := 0, slots := 0, locals := 21 }) (cP D cI cB ad V [.ref (ad (6 + 7 * j))]) (cWv D cI cB ad A (f_X0_turnRound V j)) 0 0 A := by
  refine Met.ofW (cc := cX0_turnRound) (maxL := 1) (ret := none) (by decide +kernel) rfl ?_
  intro p e s m args below meth c s₁ B hml hv
  obtain ⟨rfl, hP, hKN⟩ := hv
  have hK := hKN.1
  have hx := B.exec
  have hb := B.bytes
  have hr := B.returns
  have hts := atoms_spec (ws := wsX0_turnRound) B.pre
  have hown : s.vm.findClass RX0 = some m.cls := findClass_of_methodNamed B.named
  have hlocks := B.notSynchronized
  have hS : va_S A s.heap s.heap [] := va_S.rf
  have hl := lv_entry ([.ref (ad (6 + 7 * j))]) (n := 1) (Nat.le_of_ble_eq_true rfl)
  rw [lg_entry_eq]
  generalize (lg_sl ([.ref (ad (6 + 7 * j))]) ++ List.replicate (1 - (lg_sl ([.ref (ad (6 + 7 * j))])).length) Slot.unset).toArray = ls at hl ⊢
  have hl : lv_has ls 1 [(0, .ref (ad (6 + 7 * j)))] := hl
  have hE : f_X0_turnRound V j = (if (V (6 + 7 * j) 1) = 0 then (v_X0_turnRound_1 V j) else (v_X0_turnRound_2 V j)) := rfl
  refine lv_aload_n hx hb dX0_turnRound_0 rfl (lv_at hl 0 rfl) ?_
  refine lv_aload_n hx hb dX0_turnRound_1 rfl (lv_at hl 0 rfl) ?_
  refine x_get (ci := 0) (fs := [.ref (ad (6 + 7 * j + 1)), .ref (ad (6 + 7 * j + 3)), .ref (ad (6 + 7 * j + 4)), .ref (ad (6 + 7 * j + 5)), .ref (ad (6 + 7 * j + 6)), .int ((V (6 + 7 * j)) 5), .int ((V (6 + 7 * j)) 6), .int ((V (6 + 7 * j)) 0), .int ((V (6 + 7 * j)) 1), .int ((V (6 + 7 * j)) 2), .int ((V (6 + 7 * j)) 3), .int ((V (6 + 7 * j)) 4)]) (q := (6 + 7 * j)) (v := .int (V (6 + 7 * j) 1)) (N := 12) hx hb hts (fun _ h => List.mem_cons_of_mem _ (List.mem_append_right _ h)) hown hK hP (by have := hj; omega) (ce_bd ad cI cB hj (V (6 + 7 * j))) rfl 8 (by decide) (hts (.fieldLink RX0 41 "TurnedBoards$Board" "turned" "Z") (List.mem_of_getElem? (i := 1) rfl)) rfl rfl dX0_turnRound_2 ?_
  refine lv_if_ne (tgt := 12) hx hb dX0_turnRound_5 (by decide) (fun c1 => ?_) (fun c1 => ?_)
  · have hE := hE.trans (if_neg c1)
    refine lv_iconst (v := 0) hx hb dX0_turnRound_12 (by decide) ?_
    refine x_put (ci := 0) (fs := [.ref (ad (6 + 7 * j + 1)), .ref (ad (6 + 7 * j + 3)), .ref (ad (6 + 7 * j + 4)), .ref (ad (6 + 7 * j + 5)), .ref (ad (6 + 7 * j + 6)), .int ((V (6 + 7 * j)) 5), .int ((V (6 + 7 * j)) 6), .int ((V (6 + 7 * j)) 0), .int ((V (6 + 7 * j)) 1), .int ((V (6 + 7 * j)) 2), .int ((V (6 + 7 * j)) 3), .int ((V (6 + 7 * j)) 4)]) (q := (6 + 7 * j)) (v := .int 0) (ty := .boolean) (N := 12) hx hb hts (fun _ h => List.mem_cons_of_mem _ (List.mem_append_right _ h)) tyX0 tyX0_ok nmX0 hown hK hP hA hS (by have := hj; omega) (ce_bd ad cI cB hj (V (6 + 7 * j))) rfl 8 (by decide) (hts (.fieldLink RX0 41 "TurnedBoards$Board" "turned" "Z") (List.mem_of_getElem? (i := 1) rfl)) rfl rfl (by decide +kernel) rfl rfl (Nat.le_of_ble_eq_true rfl) 1 0 ((ce_bd ad cI cB hj (upd (V (6 + 7 * j)) 1 0)).trans rfl) dX0_turnRound_13 (fun H locs hP hS => ?_)
    refine lv_aload_n hx hb dX0_turnRound_16 rfl (lv_at hl 0 rfl) ?_
    refine lv_dup hx hb dX0_turnRound_17 rfl ?_
    refine x_get (ci := 0) (fs := [.ref (ad (6 + 7 * j + 1)), .ref (ad (6 + 7 * j + 3)), .ref (ad (6 + 7 * j + 4)), .ref (ad (6 + 7 * j + 5)), .ref (ad (6 + 7 * j + 6)), .int (((upV V (6 + 7 * j) 1 0) (6 + 7 * j)) 5), .int (((upV V (6 + 7 * j) 1 0) (6 + 7 * j)) 6), .int (((upV V (6 + 7 * j) 1 0) (6 + 7 * j)) 0), .int (((upV V (6 + 7 * j) 1 0) (6 + 7 * j)) 1), .int (((upV V (6 + 7 * j) 1 0) (6 + 7 * j)) 2), .int (((upV V (6 + 7 * j) 1 0) (6 + 7 * j)) 3), .int (((upV V (6 + 7 * j) 1 0) (6 + 7 * j)) 4)]) (q := (6 + 7 * j)) (v := .int ((upV V (6 + 7 * j) 1 0) (6 + 7 * j) 4)) (N := 12) hx hb hts (fun _ h => List.mem_cons_of_mem _ (List.mem_append_right _ h)) hown hK hP (by have := hj; omega) (ce_bd ad cI cB hj ((upV V (6 + 7 * j) 1 0) (6 + 7 * j))) rfl 11 (by decide) (hts (.fieldLink RX0 51 "TurnedBoards$Board" "turns" "I") (List.mem_of_getElem? (i := 2) rfl)) rfl rfl dX0_turnRound_18 ?_
    refine lv_iconst (v := 1) hx hb dX0_turnRound_21 (by decide) ?_
    refine lv_iadd hx hb dX0_turnRound_22 ?_
    refine x_put (ci := 0) (fs := [.ref (ad (6 + 7 * j + 1)), .ref (ad (6 + 7 * j + 3)), .ref (ad (6 + 7 * j + 4)), .ref (ad (6 + 7 * j + 5)), .ref (ad (6 + 7 * j + 6)), .int (((upV V (6 + 7 * j) 1 0) (6 + 7 * j)) 5), .int (((upV V (6 + 7 * j) 1 0) (6 + 7 * j)) 6), .int (((upV V (6 + 7 * j) 1 0) (6 + 7 * j)) 0), .int (((upV V (6 + 7 * j) 1 0) (6 + 7 * j)) 1), .int (((upV V (6 + 7 * j) 1 0) (6 + 7 * j)) 2), .int (((upV V (6 + 7 * j) 1 0) (6 + 7 * j)) 3), .int (((upV V (6 + 7 * j) 1 0) (6 + 7 * j)) 4)]) (q := (6 + 7 * j)) (v := .int (((upV V (6 + 7 * j) 1 0) (6 + 7 * j) 4) + 1)) (ty := .int) (N := 12) hx hb hts (fun _ h => List.mem_cons_of_mem _ (List.mem_append_right _ h)) tyX0 tyX0_ok nmX0 hown hK hP hA hS (by have := hj; omega) (ce_bd ad cI cB hj ((upV V (6 + 7 * j) 1 0) (6 + 7 * j))) rfl 11 (by decide) (hts (.fieldLink RX0 51 "TurnedBoards$Board" "turns" "I") (List.mem_of_getElem? (i := 2) rfl)) rfl rfl (by decide +kernel) rfl rfl (Nat.le_of_ble_eq_true rfl) 4 (((upV V (6 + 7 * j) 1 0) (6 + 7 * j) 4) + 1) ((ce_bd ad cI cB hj (upd ((upV V (6 + 7 * j) 1 0) (6 + 7 * j)) 4 (((upV V (6 + 7 * j) 1 0) (6 + 7 * j) 4) + 1))).trans rfl) dX0_turnRound_23 (fun H locs hP hS => ?_)
    refine lv_aload_n hx hb dX0_turnRound_26 rfl (lv_at hl 0 rfl) ?_
    refine lv_iconst (v := 1) hx hb dX0_turnRound_27 (by decide) ?_
    refine lv_aload_n hx hb dX0_turnRound_28 rfl (lv_at hl 0 rfl) ?_
    refine x_get (ci := 0) (fs := [.ref (ad (6 + 7 * j + 1)), .ref (ad (6 + 7 * j + 3)), .ref (ad (6 + 7 * j + 4)), .ref (ad (6 + 7 * j + 5)), .ref (ad (6 + 7 * j + 6)), .int (((upV (upV V (6 + 7 * j) 1 0) (6 + 7 * j) 4 (((upV V (6 + 7 * j) 1 0) (6 + 7 * j) 4) + 1)) (6 + 7 * j)) 5), .int (((upV (upV V (6 + 7 * j) 1 0) (6 + 7 * j) 4 (((upV V (6 + 7 * j) 1 0) (6 + 7 * j) 4) + 1)) (6 + 7 * j)) 6), .int (((upV (upV V (6 + 7 * j) 1 0) (6 + 7 * j) 4 (((upV V (6 + 7 * j) 1 0) (6 + 7 * j) 4) + 1)) (6 + 7 * j)) 0), .int (((upV (upV V (6 + 7 * j) 1 0) (6 + 7 * j) 4 (((upV V (6 + 7 * j) 1 0) (6 + 7 * j) 4) + 1)) (6 + 7 * j)) 1), .int (((upV (upV V (6 + 7 * j) 1 0) (6 + 7 * j) 4 (((upV V (6 + 7 * j) 1 0) (6 + 7 * j) 4) + 1)) (6 + 7 * j)) 2), .int (((upV (upV V (6 + 7 * j) 1 0) (6 + 7 * j) 4 (((upV V (6 + 7 * j) 1 0) (6 + 7 * j) 4) + 1)) (6 + 7 * j)) 3), .int (((upV (upV V (6 + 7 * j) 1 0) (6 + 7 * j) 4 (((upV V (6 + 7 * j) 1 0) (6 + 7 * j) 4) + 1)) (6 + 7 * j)) 4)]) (q := (6 + 7 * j)) (v := .int ((upV (upV V (6 + 7 * j) 1 0) (6 + 7 * j) 4 (((upV V (6 + 7 * j) 1 0) (6 + 7 * j) 4) + 1)) (6 + 7 * j) 2)) (N := 12) hx hb hts (fun _ h => List.mem_cons_of_mem _ (List.mem_append_right _ h)) hown hK hP (by have := hj; omega) (ce_bd ad cI cB hj ((upV (upV V (6 + 7 * j) 1 0) (6 + 7 * j) 4 (((upV V (6 + 7 * j) 1 0) (6 + 7 * j) 4) + 1)) (6 + 7 * j))) rfl 9 (by decide) (hts (.fieldLink RX0 45 "TurnedBoards$Board" "stiffness" "I") (List.mem_of_getElem? (i := 3) rfl)) rfl rfl dX0_turnRound_29 ?_
    refine lv_iconst (v := 1) hx hb dX0_turnRound_32 (by decide) ?_
    refine lv_isub hx hb dX0_turnRound_33 ?_
    refine va_mmax hx hb (hml.trans hl.1.symm) hown (hts (.methodLink RX0 80 Lib.Math.max.name) (List.mem_of_getElem? (i := 4) rfl)) (hts (.static Lib.Math.max.name) (List.mem_of_getElem? (i := 5) rfl)) (hts (.initialized "java/lang/Math") (List.mem_of_getElem? (i := 6) rfl)) (hts (.code Lib.Math.max.name Lib.Math.max.code 2 (some .int)) (List.mem_of_getElem? (i := 7) rfl)) (Nat.le_of_ble_eq_true rfl) (Nat.le_of_ble_eq_true rfl) (Nat.zero_le _) (Nat.zero_le _) dX0_turnRound_34 ?_
    refine x_put (ci := 0) (fs := [.ref (ad (6 + 7 * j + 1)), .ref (ad (6 + 7 * j + 3)), .ref (ad (6 + 7 * j + 4)), .ref (ad (6 + 7 * j + 5)), .ref (ad (6 + 7 * j + 6)), .int (((upV (upV V (6 + 7 * j) 1 0) (6 + 7 * j) 4 (((upV V (6 + 7 * j) 1 0) (6 + 7 * j) 4) + 1)) (6 + 7 * j)) 5), .int (((upV (upV V (6 + 7 * j) 1 0) (6 + 7 * j) 4 (((upV V (6 + 7 * j) 1 0) (6 + 7 * j) 4) + 1)) (6 + 7 * j)) 6), .int (((upV (upV V (6 + 7 * j) 1 0) (6 + 7 * j) 4 (((upV V (6 + 7 * j) 1 0) (6 + 7 * j) 4) + 1)) (6 + 7 * j)) 0), .int (((upV (upV V (6 + 7 * j) 1 0) (6 + 7 * j) 4 (((upV V (6 + 7 * j) 1 0) (6 + 7 * j) 4) + 1)) (6 + 7 * j)) 1), .int (((upV (upV V (6 + 7 * j) 1 0) (6 + 7 * j) 4 (((upV V (6 + 7 * j) 1 0) (6 + 7 * j) 4) + 1)) (6 + 7 * j)) 2), .int (((upV (upV V (6 + 7 * j) 1 0) (6 + 7 * j) 4 (((upV V (6 + 7 * j) 1 0) (6 + 7 * j) 4) + 1)) (6 + 7 * j)) 3), .int (((upV (upV V (6 + 7 * j) 1 0) (6 + 7 * j) 4 (((upV V (6 + 7 * j) 1 0) (6 + 7 * j) 4) + 1)) (6 + 7 * j)) 4)]) (q := (6 + 7 * j)) (v := .int (if 1 < (((upV (upV V (6 + 7 * j) 1 0) (6 + 7 * j) 4 (((upV V (6 + 7 * j) 1 0) (6 + 7 * j) 4) + 1)) (6 + 7 * j) 2) - 1) then (((upV (upV V (6 + 7 * j) 1 0) (6 + 7 * j) 4 (((upV V (6 + 7 * j) 1 0) (6 + 7 * j) 4) + 1)) (6 + 7 * j) 2) - 1) else 1)) (ty := .int) (N := 12) hx hb hts (fun _ h => List.mem_cons_of_mem _ (List.mem_append_right _ h)) tyX0 tyX0_ok nmX0 hown hK hP hA hS (by have := hj; omega) (ce_bd ad cI cB hj ((upV (upV V (6 + 7 * j) 1 0) (6 + 7 * j) 4 (((upV V (6 + 7 * j) 1 0) (6 + 7 * j) 4) + 1)) (6 + 7 * j))) rfl 9 (by decide) (hts (.fieldLink RX0 45 "TurnedBoards$Board" "stiffness" "I") (List.mem_of_getElem? (i := 3) rfl)) rfl rfl (by decide +kernel) rfl rfl (Nat.le_of_ble_eq_true rfl) 2 (if 1 < (((upV (upV V (6 + 7 * j) 1 0) (6 + 7 * j) 4 (((upV V (6 + 7 * j) 1 0) (6 + 7 * j) 4) + 1)) (6 + 7 * j) 2) - 1) then (((upV (upV V (6 + 7 * j) 1 0) (6 + 7 * j) 4 (((upV V (6 + 7 * j) 1 0) (6 + 7 * j) 4) + 1)) (6 + 7 * j) 2) - 1) else 1) ((ce_bd ad cI cB hj (upd ((upV (upV V (6 + 7 * j) 1 0) (6 + 7 * j) 4 (((upV V (6 + 7 * j) 1 0) (6 + 7 * j) 4) + 1)) (6 + 7 * j)) 2 (if 1 < (((upV (upV V (6 + 7 * j) 1 0) (6 + 7 * j) 4 (((upV V (6 + 7 * j) 1 0) (6 + 7 * j) 4) + 1)) (6 + 7 * j) 2) - 1) then (((upV (upV V (6 + 7 * j) 1 0) (6 + 7 * j) 4 (((upV V (6 + 7 * j) 1 0) (6 + 7 * j) 4) + 1)) (6 + 7 * j) 2) - 1) else 1))).trans rfl) dX0_turnRound_37 (fun H locs hP hS => ?_)
    have hP : wP D cI cB ad (v_X0_turnRound_2 V j) H := hP
    exact W.vret hx hb hr (fun t ht hW => ⟨⟨(v_X0_turnRound_2 V j), rfl, hE.symm, by dsimp only; rw [ht]; exact hP⟩, hS.F ht⟩) hS.2.2 dX0_turnRound_40
  · have hE := hE.trans (if_pos c1)
    refine lv_iconst (v := 1) hx hb dX0_turnRound_8 (by decide) ?_
    refine lv_goto (tgt := 13) hx hb dX0_turnRound_9 (by decide) ?_
    refine x_put (ci := 0) (fs := [.ref (ad (6 + 7 * j + 1)), .ref (ad (6 + 7 * j + 3)), .ref (ad (6 + 7 * j + 4)), .ref (ad (6 + 7 * j + 5)), .ref (ad (6 + 7 * j + 6)), .int ((V (6 + 7 * j)) 5), .int ((V (6 + 7 * j)) 6), .int ((V (6 + 7 * j)) 0), .int ((V (6 + 7 * j)) 1), .int ((V (6 + 7 * j)) 2), .int ((V (6 + 7 * j)) 3), .int ((V (6 + 7 * j)) 4)]) (q := (6 + 7 * j)) (v := .int 1) (ty := .boolean) (N := 12) hx hb hts (fun _ h => List.mem_cons_of_mem _ (List.mem_append_right _ h)) tyX0 tyX0_ok nmX0 hown hK hP hA hS (by have := hj; omega) (ce_bd ad cI cB hj (V (6 + 7 * j))) rfl 8 (by decide) (hts (.fieldLink RX0 41 "TurnedBoards$Board" "turned" "Z") (List.mem_of_getElem? (i := 1) rfl)) rfl rfl (by decide +kernel) rfl rfl (Nat.le_of_ble_eq_true rfl) 1 1 ((ce_bd ad cI cB hj (upd (V (6 + 7 * j)) 1 1)).trans rfl) dX0_turnRound_13 (fun H locs hP hS => ?_)
    refine lv_aload_n hx hb dX0_turnRound_16 rfl (lv_at hl 0 rfl) ?_
    refine lv_dup hx hb dX0_turnRound_17 rfl ?_
    refine x_get (ci := 0) (fs := [.ref (ad (6 + 7 * j + 1)), .ref (ad (6 + 7 * j + 3)), .ref (ad (6 + 7 * j + 4)), .ref (ad (6 + 7 * j + 5)), .ref (ad (6 + 7 * j + 6)), .int (((upV V (6 + 7 * j) 1 1) (6 + 7 * j)) 5), .int (((upV V (6 + 7 * j) 1 1) (6 + 7 * j)) 6), .int (((upV V (6 + 7 * j) 1 1) (6 + 7 * j)) 0), .int (((upV V (6 + 7 * j) 1 1) (6 + 7 * j)) 1), .int (((upV V (6 + 7 * j) 1 1) (6 + 7 * j)) 2), .int (((upV V (6 + 7 * j) 1 1) (6 + 7 * j)) 3), .int (((upV V (6 + 7 * j) 1 1) (6 + 7 * j)) 4)]) (q := (6 + 7 * j)) (v := .int ((upV V (6 + 7 * j) 1 1) (6 + 7 * j) 4)) (N := 12) hx hb hts (fun _ h => List.mem_cons_of_mem _ (List.mem_append_right _ h)) hown hK hP (by have := hj; omega) (ce_bd ad cI cB hj ((upV V (6 + 7 * j) 1 1) (6 + 7 * j))) rfl 11 (by decide) (hts (.fieldLink RX0 51 "TurnedBoards$Board" "turns" "I") (List.mem_of_getElem? (i := 2) rfl)) rfl rfl dX0_turnRound_18 ?_
    refine lv_iconst (v := 1) hx hb dX0_turnRound_21 (by decide) ?_
    refine lv_iadd hx hb dX0_turnRound_22 ?_
    refine x_put (ci := 0) (fs := [.ref (ad (6 + 7 * j + 1)), .ref (ad (6 + 7 * j + 3)), .ref (ad (6 + 7 * j + 4)), .ref (ad (6 + 7 * j + 5)), .ref (ad (6 + 7 * j + 6)), .int (((upV V (6 + 7 * j) 1 1) (6 + 7 * j)) 5), .int (((upV V (6 + 7 * j) 1 1) (6 + 7 * j)) 6), .int (((upV V (6 + 7 * j) 1 1) (6 + 7 * j)) 0), .int (((upV V (6 + 7 * j) 1 1) (6 + 7 * j)) 1), .int (((upV V (6 + 7 * j) 1 1) (6 + 7 * j)) 2), .int (((upV V (6 + 7 * j) 1 1) (6 + 7 * j)) 3), .int (((upV V (6 + 7 * j) 1 1) (6 + 7 * j)) 4)]) (q := (6 + 7 * j)) (v := .int (((upV V (6 + 7 * j) 1 1) (6 + 7 * j) 4) + 1)) (ty := .int) (N := 12) hx hb hts (fun _ h => List.mem_cons_of_mem _ (List.mem_append_right _ h)) tyX0 tyX0_ok nmX0 hown hK hP hA hS (by have := hj; omega) (ce_bd ad cI cB hj ((upV V (6 + 7 * j) 1 1) (6 + 7 * j))) rfl 11 (by decide) (hts (.fieldLink RX0 51 "TurnedBoards$Board" "turns" "I") (List.mem_of_getElem? (i := 2) rfl)) rfl rfl (by decide +kernel) rfl rfl (Nat.le_of_ble_eq_true rfl) 4 (((upV V (6 + 7 * j) 1 1) (6 + 7 * j) 4) + 1) ((ce_bd ad cI cB hj (upd ((upV V (6 + 7 * j) 1 1) (6 + 7 * j)) 4 (((upV V (6 + 7 * j) 1 1) (6 + 7 * j) 4) + 1))).trans rfl) dX0_turnRound_23 (fun H locs hP hS => ?_)
    refine lv_aload_n hx hb dX0_turnRound_26 rfl (lv_at hl 0 rfl) ?_
    refine lv_iconst (v := 1) hx hb dX0_turnRound_27 (by decide) ?_
    refine lv_aload_n hx hb dX0_turnRound_28 rfl (lv_at hl 0 rfl) ?_
    refine x_get (ci := 0) (fs := [.ref (ad (6 + 7 * j + 1)), .ref (ad (6 + 7 * j + 3)), .ref (ad (6 + 7 * j + 4)), .ref (ad (6 + 7 * j + 5)), .ref (ad (6 + 7 * j + 6)), .int (((upV (upV V (6 + 7 * j) 1 1) (6 + 7 * j) 4 (((upV V (6 + 7 * j) 1 1) (6 + 7 * j) 4) + 1)) (6 + 7 * j)) 5), .int (((upV (upV V (6 + 7 * j) 1 1) (6 + 7 * j) 4 (((upV V (6 + 7 * j) 1 1) (6 + 7 * j) 4) + 1)) (6 + 7 * j)) 6), .int (((upV (upV V (6 + 7 * j) 1 1) (6 + 7 * j) 4 (((upV V (6 + 7 * j) 1 1) (6 + 7 * j) 4) + 1)) (6 + 7 * j)) 0), .int (((upV (upV V (6 + 7 * j) 1 1) (6 + 7 * j) 4 (((upV V (6 + 7 * j) 1 1) (6 + 7 * j) 4) + 1)) (6 + 7 * j)) 1), .int (((upV (upV V (6 + 7 * j) 1 1) (6 + 7 * j) 4 (((upV V (6 + 7 * j) 1 1) (6 + 7 * j) 4) + 1)) (6 + 7 * j)) 2), .int (((upV (upV V (6 + 7 * j) 1 1) (6 + 7 * j) 4 (((upV V (6 + 7 * j) 1 1) (6 + 7 * j) 4) + 1)) (6 + 7 * j)) 3), .int (((upV (upV V (6 + 7 * j) 1 1) (6 + 7 * j) 4 (((upV V (6 + 7 * j) 1 1) (6 + 7 * j) 4) + 1)) (6 + 7 * j)) 4)]) (q := (6 + 7 * j)) (v := .int ((upV (upV V (6 + 7 * j) 1 1) (6 + 7 * j) 4 (((upV V (6 + 7 * j) 1 1) (6 + 7 * j) 4) + 1)) (6 + 7 * j) 2)) (N := 12) hx hb hts (fun _ h => List.mem_cons_of_mem _ (List.mem_append_right _ h)) hown hK hP (by have := hj; omega) (ce_bd ad cI cB hj ((upV (upV V (6 + 7 * j) 1 1) (6 + 7 * j) 4 (((upV V (6 + 7 * j) 1 1) (6 + 7 * j) 4) + 1)) (6 + 7 * j))) rfl 9 (by decide) (hts (.fieldLink RX0 45 "TurnedBoards$Board" "stiffness" "I") (List.mem_of_getElem? (i := 3) rfl)) rfl rfl dX0_turnRound_29 ?_
    refine lv_iconst (v := 1) hx hb dX0_turnRound_32 (by decide) ?_
    refine lv_isub hx hb dX0_turnRound_33 ?_
    refine va_mmax hx hb (hml.trans hl.1.symm) hown (hts (.methodLink RX0 80 Lib.Math.max.name) (List.mem_of_getElem? (i := 4) rfl)) (hts (.static Lib.Math.max.name) (List.mem_of_getElem? (i := 5) rfl)) (hts (.initialized "java/lang/Math") (List.mem_of_getElem? (i := 6) rfl)) (hts (.code Lib.Math.max.name Lib.Math.max.code 2 (some .int)) (List.mem_of_getElem? (i := 7) rfl)) (Nat.le_of_ble_eq_true rfl) (Nat.le_of_ble_eq_true rfl) (Nat.zero_le _) (Nat.zero_le _) dX0_turnRound_34 ?_
    refine x_put (ci := 0) (fs := [.ref (ad (6 + 7 * j + 1)), .ref (ad (6 + 7 * j + 3)), .ref (ad (6 + 7 * j + 4)), .ref (ad (6 + 7 * j + 5)), .ref (ad (6 + 7 * j + 6)), .int (((upV (upV V (6 + 7 * j) 1 1) (6 + 7 * j) 4 (((upV V (6 + 7 * j) 1 1) (6 + 7 * j) 4) + 1)) (6 + 7 * j)) 5), .int (((upV (upV V (6 + 7 * j) 1 1) (6 + 7 * j) 4 (((upV V (6 + 7 * j) 1 1) (6 + 7 * j) 4) + 1)) (6 + 7 * j)) 6), .int (((upV (upV V (6 + 7 * j) 1 1) (6 + 7 * j) 4 (((upV V (6 + 7 * j) 1 1) (6 + 7 * j) 4) + 1)) (6 + 7 * j)) 0), .int (((upV (upV V (6 + 7 * j) 1 1) (6 + 7 * j) 4 (((upV V (6 + 7 * j) 1 1) (6 + 7 * j) 4) + 1)) (6 + 7 * j)) 1), .int (((upV (upV V (6 + 7 * j) 1 1) (6 + 7 * j) 4 (((upV V (6 + 7 * j) 1 1) (6 + 7 * j) 4) + 1)) (6 + 7 * j)) 2), .int (((upV (upV V (6 + 7 * j) 1 1) (6 + 7 * j) 4 (((upV V (6 + 7 * j) 1 1) (6 + 7 * j) 4) + 1)) (6 + 7 * j)) 3), .int (((upV (upV V (6 + 7 * j) 1 1) (6 + 7 * j) 4 (((upV V (6 + 7 * j) 1 1) (6 + 7 * j) 4) + 1)) (6 + 7 * j)) 4)]) (q := (6 + 7 * j)) (v := .int (if 1 < (((upV (upV V (6 + 7 * j) 1 1) (6 + 7 * j) 4 (((upV V (6 + 7 * j) 1 1) (6 + 7 * j) 4) + 1)) (6 + 7 * j) 2) - 1) then (((upV (upV V (6 + 7 * j) 1 1) (6 + 7 * j) 4 (((upV V (6 + 7 * j) 1 1) (6 + 7 * j) 4) + 1)) (6 + 7 * j) 2) - 1) else 1)) (ty := .int) (N := 12) hx hb hts (fun _ h => List.mem_cons_of_mem _ (List.mem_append_right _ h)) tyX0 tyX0_ok nmX0 hown hK hP hA hS (by have := hj; omega) (ce_bd ad cI cB hj ((upV (upV V (6 + 7 * j) 1 1) (6 + 7 * j) 4 (((upV V (6 + 7 * j) 1 1) (6 + 7 * j) 4) + 1)) (6 + 7 * j))) rfl 9 (by decide) (hts (.fieldLink RX0 45 "TurnedBoards$Board" "stiffness" "I") (List.mem_of_getElem? (i := 3) rfl)) rfl rfl (by decide +kernel) rfl rfl (Nat.le_of_ble_eq_true rfl) 2 (if 1 < (((upV (upV V (6 + 7 * j) 1 1) (6 + 7 * j) 4 (((upV V (6 + 7 * j) 1 1) (6 + 7 * j) 4) + 1)) (6 + 7 * j) 2) - 1) then (((upV (upV V (6 + 7 * j) 1 1) (6 + 7 * j) 4 (((upV V (6 + 7 * j) 1 1) (6 + 7 * j) 4) + 1)) (6 + 7 * j) 2) - 1) else 1) ((ce_bd ad cI cB hj (upd ((upV (upV V (6 + 7 * j) 1 1) (6 + 7 * j) 4 (((upV V (6 + 7 * j) 1 1) (6 + 7 * j) 4) + 1)) (6 + 7 * j)) 2 (if 1 < (((upV (upV V (6 + 7 * j) 1 1) (6 + 7 * j) 4 (((upV V (6 + 7 * j) 1 1) (6 + 7 * j) 4) + 1)) (6 + 7 * j) 2) - 1) then (((upV (upV V (6 + 7 * j) 1 1) (6 + 7 * j) 4 (((upV V (6 + 7 * j) 1 1) (6 + 7 * j) 4) + 1)) (6 + 7 * j) 2) - 1) else 1))).trans rfl) dX0_turnRound_37 (fun H locs hP hS => ?_)
    have hP : wP D cI cB ad (v_X0_turnRound_1 V j) H := hP
    exact W.vret hx hb hr (fun t ht hW => ⟨⟨(v_X0_turnRound_1 V j), rfl, hE.symm, by dsimp only; rw [ht]; exact hP⟩, hS.F ht⟩) hS.2.2 dX0_turnRound_40
def f_X0_fadeOneDay_l1 (fu : Nat) (j : Nat) : Nat → VT → Int32 → Int32 → Int32 × VT
  | 0, V1, x1_1, x2_1 => (0, V1)
  | w1 + 1, V1, x1_1, x2_1 => (if (V1 (6 + 7 * j) 0) ≤ x2_1 then (x1_1, (upV V1 (6 + 7 * j) 3 ((V1 (6 + 7 * j) 3) + 1))) else (if (f_X0_fades V1 j x2_1) = 0 then (f_X0_fadeOneDay_l1 fu j w1 V1 x1_1 (x2_1 + 1)) else (f_X0_fadeOneDay_l1 fu j w1 (f_X0_coat V1 j x2_1 ((f_X0_coatsAt V1 j x2_1) - 1)) (x1_1 + 1) (x2_1 + 1))))
def p_X0_fadeOneDay_l1 (fu : Nat) (j : Nat) : Nat → VT → Int32 → Int32 → Prop
  | 0, _, _, _ => False
  | w1 + 1, V1, x1_1, x2_1 => (((V1 (6 + 7 * j) 0) ≤ x2_1 → True) ∧ (¬ ((V1 (6 + 7 * j) 0) ≤ x2_1) → (((f_X0_fades V1 j x2_1) = 0 → (p_X0_fadeOneDay_l1 fu j w1 V1 x1_1 (x2_1 + 1))) ∧ (¬ ((f_X0_fades V1 j x2_1) = 0) → (p_X0_fadeOneDay_l1 fu j w1 (f_X0_coat V1 j x2_1 ((f_X0_coatsAt V1 j x2_1) - 1)) (x1_1 + 1) (x2_1 + 1))))))
def f_X0_fadeOneDay (fu : Nat) (V : VT) (j : Nat) : Int32 × VT := (f_X0_fadeOneDay_l1 fu j fu V 0 0)
def p_X0_fadeOneDay (fu : Nat) (V : VT) (j : Nat) : Prop := (p_X0_fadeOneDay_l1 fu j fu V 0 0)
set_option maxHeartbeats 4000000 in
set_option maxRecDepth 100000 in
theorem m_X0_fadeOneDay (l : Launch) (D : va_G) (cI cB : ClassId) (ad : Nat → Nat) {A : Nat → Prop} (hA : adOk ad A) (fu : Nat) (V : VT) (j : Nat) (hj : j < 6) (hp : p_X0_fadeOneDay fu V j) : Met l yX0_fadeOneDay wsX0_fadeOneDay ({ frames := 3, cells := 0, slots := 0, locals := 63 }) (cP D cI cB ad V [.ref (ad (6 + 7 * j))]) (cWi D cI cB ad A (f_X0_fadeOneDay fu V j)) 0 0 A := by
  refine Met.ofW (cc := cX0_fadeOneDay) (maxL := 3) (ret := (some .int)) (by decide +kernel) rfl ?_
  intro p e s m args below meth c s₁ B hml hv
  obtain ⟨rfl, hP, hKN⟩ := hv
  have hK := hKN.1
  have hx := B.exec
  have hb := B.bytes
  have hr := B.returns
  have hts := atoms_spec (ws := wsX0_fadeOneDay) B.pre
  have hown : s.vm.findClass RX0 = some m.cls := findClass_of_methodNamed B.named
  have hlocks := B.notSynchronized
  have hS : va_S A s.heap s.heap [] := va_S.rf
  have hl := lv_entry ([.ref (ad (6 + 7 * j))]) (n := 3) (Nat.le_of_ble_eq_true rfl)
  rw [lg_entry_eq]
  generalize (lg_sl ([.ref (ad (6 + 7 * j))]) ++ List.replicate (3 - (lg_sl ([.ref (ad (6 + 7 * j))])).length) Slot.unset).toArray = ls at hl ⊢
  have hl : lv_has ls 3 [(0, .ref (ad (6 + 7 * j)))] := hl
  have hE : f_X0_fadeOneDay fu V j = (f_X0_fadeOneDay_l1 fu j fu V 0 0) := rfl
  refine lv_iconst (v := 0) hx hb dX0_fadeOneDay_0 (by decide) ?_
  refine lv_istore_n (lv' := [(1, .int 0), (0, .ref (ad (6 + 7 * j)))]) hx hb dX0_fadeOneDay_1 rfl hl (by decide) rfl (fun ls hl => ?_)
  refine lv_iconst (v := 0) hx hb dX0_fadeOneDay_2 (by decide) ?_
  refine lv_istore_n (lv' := [(2, .int 0), (1, .int 0), (0, .ref (ad (6 + 7 * j)))]) hx hb dX0_fadeOneDay_3 rfl hl (by decide) rfl (fun ls hl => ?_)
  have L1 : ∀ (w1 : Nat) (V1 : VT) (x1_1 : Int32) (x2_1 : Int32), f_X0_fadeOneDay fu V j = f_X0_fadeOneDay_l1 fu j w1 V1 x1_1 x2_1 → p_X0_fadeOneDay_l1 fu j w1 V1 x1_1 x2_1 → ∀ (H : Heap) (locs : List Loc), wP D cI cB ad V1 H → va_S A s.heap H locs → ∀ (ls : Array Slot), lv_has ls 3 [(0, .ref (ad (6 + 7 * j))), (1, .int x1_1), (2, .int x2_1)] → W p l e (headSpec wsX0_fadeOneDay ({ frames := 3, cells := 0, slots := 0, locals := 63 })).room s m ([.ref (ad (6 + 7 * j))] : List Value).toArray below meth c H locs 0 0 (MQ below (cWi D cI cB ad A (f_X0_fadeOneDay fu V j)) ([.ref (ad (6 + 7 * j))] : List Value).toArray s 0 0 A) (F0 m 4 ls []) := by
    intro w1
    induction w1 with
    | zero => intro V1 x1_1 x2_1 hE hp; exact hp.elim
    | succ w1 ih1 =>
      intro V1 x1_1 x2_1 hE hp H locs hP hS ls hl
      rw [f_X0_fadeOneDay_l1] at hE
      rw [p_X0_fadeOneDay_l1] at hp
      refine lv_iload_n hx hb dX0_fadeOneDay_4 rfl (lv_at hl 2 rfl) ?_
      refine lv_aload_n hx hb dX0_fadeOneDay_5 rfl (lv_at hl 0 rfl) ?_
      refine x_get (ci := 0) (fs := [.ref (ad (6 + 7 * j + 1)), .ref (ad (6 + 7 * j + 3)), .ref (ad (6 + 7 * j + 4)), .ref (ad (6 + 7 * j + 5)), .ref (ad (6 + 7 * j + 6)), .int ((V1 (6 + 7 * j)) 5), .int ((V1 (6 + 7 * j)) 6), .int ((V1 (6 + 7 * j)) 0), .int ((V1 (6 + 7 * j)) 1), .int ((V1 (6 + 7 * j)) 2), .int ((V1 (6 + 7 * j)) 3), .int ((V1 (6 + 7 * j)) 4)]) (q := (6 + 7 * j)) (v := .int (V1 (6 + 7 * j) 0)) (N := 12) hx hb hts (fun _ h => List.mem_cons_of_mem _ (List.mem_append_right _ h)) hown hK hP (by have := hj; omega) (ce_bd ad cI cB hj (V1 (6 + 7 * j))) rfl 7 (by decide) (hts (.fieldLink RX0 38 "TurnedBoards$Board" "places" "I") (List.mem_of_getElem? (i := 1) rfl)) rfl rfl dX0_fadeOneDay_6 ?_
      refine lv_icmp_ge (tgt := 41) hx hb dX0_fadeOneDay_9 (by decide) (fun c1 => ?_) (fun c1 => ?_)
      · have hE := hE.trans (if_pos c1)
        refine lv_aload_n hx hb dX0_fadeOneDay_41 rfl (lv_at hl 0 rfl) ?_
        refine lv_dup hx hb dX0_fadeOneDay_42 rfl ?_
        refine x_get (ci := 0) (fs := [.ref (ad (6 + 7 * j + 1)), .ref (ad (6 + 7 * j + 3)), .ref (ad (6 + 7 * j + 4)), .ref (ad (6 + 7 * j + 5)), .ref (ad (6 + 7 * j + 6)), .int ((V1 (6 + 7 * j)) 5), .int ((V1 (6 + 7 * j)) 6), .int ((V1 (6 + 7 * j)) 0), .int ((V1 (6 + 7 * j)) 1), .int ((V1 (6 + 7 * j)) 2), .int ((V1 (6 + 7 * j)) 3), .int ((V1 (6 + 7 * j)) 4)]) (q := (6 + 7 * j)) (v := .int (V1 (6 + 7 * j) 3)) (N := 12) hx hb hts (fun _ h => List.mem_cons_of_mem _ (List.mem_append_right _ h)) hown hK hP (by have := hj; omega) (ce_bd ad cI cB hj (V1 (6 + 7 * j))) rfl 10 (by decide) (hts (.fieldLink RX0 48 "TurnedBoards$Board" "day" "I") (List.mem_of_getElem? (i := 2) rfl)) rfl rfl dX0_fadeOneDay_43 ?_
        refine lv_iconst (v := 1) hx hb dX0_fadeOneDay_46 (by decide) ?_
        refine lv_iadd hx hb dX0_fadeOneDay_47 ?_
        refine x_put (ci := 0) (fs := [.ref (ad (6 + 7 * j + 1)), .ref (ad (6 + 7 * j + 3)), .ref (ad (6 + 7 * j + 4)), .ref (ad (6 + 7 * j + 5)), .ref (ad (6 + 7 * j + 6)), .int ((V1 (6 + 7 * j)) 5), .int ((V1 (6 + 7 * j)) 6), .int ((V1 (6 + 7 * j)) 0), .int ((V1 (6 + 7 * j)) 1), .int ((V1 (6 + 7 * j)) 2), .int ((V1 (6 + 7 * j)) 3), .int ((V1 (6 + 7 * j)) 4)]) (q := (6 + 7 * j)) (v := .int ((V1 (6 + 7 * j) 3) + 1)) (ty := .int) (N := 12) hx hb hts (fun _ h => List.mem_cons_of_mem _ (List.mem_append_right _ h)) tyX0 tyX0_ok nmX0 hown hK hP hA hS (by have := hj; omega) (ce_bd ad cI cB hj (V1 (6 + 7 * j))) rfl 10 (by decide) (hts (.fieldLink RX0 48 "TurnedBoards$Board" "day" "I") (List.mem_of_getElem? (i := 2) rfl)) rfl rfl (by decide +kernel) rfl rfl (Nat.le_of_ble_eq_true rfl) 3 ((V1 (6 + 7 * j) 3) + 1) ((ce_bd ad cI cB hj (upd (V1 (6 + 7 * j)) 3 ((V1 (6 + 7 * j) 3) + 1))).trans rfl) dX0_fadeOneDay_48 (fun H locs hP hS => ?_)
        refine lv_iload_n hx hb dX0_fadeOneDay_51 rfl (lv_at hl 1 rfl) ?_
        exact W.iret (v := x1_1) hx hb hr (fun t ht hW => ⟨⟨x1_1, (upV V1 (6 + 7 * j) 3 ((V1 (6 + 7 * j) 3) + 1)), rfl, ⟨(congrArg Prod.fst hE).symm, (congrArg Prod.snd hE).symm⟩, by dsimp only; rw [ht]; exact hP⟩, hS.F ht⟩) hS.2.2 dX0_fadeOneDay_52
      · have hE := hE.trans (if_neg c1)
        have hp := pc_bn hp c1
        refine lv_aload_n hx hb dX0_fadeOneDay_12 rfl (lv_at hl 0 rfl) ?_
        refine lv_iload_n hx hb dX0_fadeOneDay_13 rfl (lv_at hl 2 rfl) ?_
        refine k_VR (As := [.int x2_1]) (rest := []) (q := (6 + 7 * j)) ⟨hx, hb, hml, hown, hts⟩ hKN hP hS (m_X0_fades l D cI cB ad V1 j x2_1 hj) (cwV 1 hts gX0_fadeOneDay_X0_fades rfl rfl rfl (by decide +kernel) ⟨(Nat.le_of_ble_eq_true rfl), (Nat.le_of_ble_eq_true rfl)⟩) (c_preV hP hKN (q := (6 + 7 * j)) (ci := 0) (fs := [.ref (ad (6 + 7 * j + 1)), .ref (ad (6 + 7 * j + 3)), .ref (ad (6 + 7 * j + 4)), .ref (ad (6 + 7 * j + 5)), .ref (ad (6 + 7 * j + 6)), .int ((V1 (6 + 7 * j)) 5), .int ((V1 (6 + 7 * j)) 6), .int ((V1 (6 + 7 * j)) 0), .int ((V1 (6 + 7 * j)) 1), .int ((V1 (6 + 7 * j)) 2), .int ((V1 (6 + 7 * j)) 3), .int ((V1 (6 + 7 * j)) 4)]) (by have := hj; omega) (ce_bd ad cI cB hj (V1 (6 + 7 * j))) rfl rfl) rfl hl.1 rfl (Nat.le_of_ble_eq_true rfl) dX0_fadeOneDay_14 ⟨Nat.zero_le _, Nat.zero_le _⟩ (fun H locs hP hS => ?_)
        refine lv_if_eq (tgt := 35) hx hb dX0_fadeOneDay_17 (by decide) (fun c2 => ?_) (fun c2 => ?_)
        · have hE := hE.trans (if_pos c2)
          have hp := pc_br hp c2
          refine lv_iinc (v := (x2_1 + 1)) (lv' := [(2, .int (x2_1 + 1)), (0, .ref (ad (6 + 7 * j))), (1, .int x1_1)]) hx hb dX0_fadeOneDay_35 hl (k := 2) rfl (by rfl) (by decide) rfl (fun ls hl => ?_)
          refine lv_goto (tgt := 4) hx hb dX0_fadeOneDay_38 (by decide) ?_
          exact ih1 V1 x1_1 (x2_1 + 1) hE hp H locs hP hS ls (lv_sub hl [1, 2, 0] rfl)
        · have hE := hE.trans (if_neg c2)
          have hp := pc_bn hp c2
          refine lv_aload_n hx hb dX0_fadeOneDay_20 rfl (lv_at hl 0 rfl) ?_
          refine lv_iload_n hx hb dX0_fadeOneDay_21 rfl (lv_at hl 2 rfl) ?_
          refine lv_aload_n hx hb dX0_fadeOneDay_22 rfl (lv_at hl 0 rfl) ?_
          refine lv_iload_n hx hb dX0_fadeOneDay_23 rfl (lv_at hl 2 rfl) ?_
          refine k_VR (As := [.int x2_1]) (rest := [.int x2_1, .ref (ad (6 + 7 * j))]) (q := (6 + 7 * j)) ⟨hx, hb, hml, hown, hts⟩ hKN hP hS (m_X0_coatsAt l D cI cB ad V1 j x2_1 hj) (cwV 1 hts gX0_fadeOneDay_X0_coatsAt rfl rfl rfl (by decide +kernel) ⟨(Nat.le_of_ble_eq_true rfl), (Nat.le_of_ble_eq_true rfl)⟩) (c_preV hP hKN (q := (6 + 7 * j)) (ci := 0) (fs := [.ref (ad (6 + 7 * j + 1)), .ref (ad (6 + 7 * j + 3)), .ref (ad (6 + 7 * j + 4)), .ref (ad (6 + 7 * j + 5)), .ref (ad (6 + 7 * j + 6)), .int ((V1 (6 + 7 * j)) 5), .int ((V1 (6 + 7 * j)) 6), .int ((V1 (6 + 7 * j)) 0), .int ((V1 (6 + 7 * j)) 1), .int ((V1 (6 + 7 * j)) 2), .int ((V1 (6 + 7 * j)) 3), .int ((V1 (6 + 7 * j)) 4)]) (by have := hj; omega) (ce_bd ad cI cB hj (V1 (6 + 7 * j))) rfl rfl) rfl hl.1 rfl (Nat.le_of_ble_eq_true rfl) dX0_fadeOneDay_24 ⟨Nat.zero_le _, Nat.zero_le _⟩ (fun H locs hP hS => ?_)
          refine lv_iconst (v := 1) hx hb dX0_fadeOneDay_27 (by decide) ?_
          refine lv_isub hx hb dX0_fadeOneDay_28 ?_
          refine k_VWv (As := [.int x2_1, .int ((f_X0_coatsAt V1 j x2_1) - 1)]) (rest := []) (q := (6 + 7 * j)) ⟨hx, hb, hml, hown, hts⟩ hKN hP hS (m_X0_coat l D cI cB ad hA V1 j x2_1 ((f_X0_coatsAt V1 j x2_1) - 1) hj) (cwV 2 hts gX0_fadeOneDay_X0_coat rfl rfl rfl (by decide +kernel) ⟨(Nat.le_of_ble_eq_true rfl), (Nat.le_of_ble_eq_true rfl)⟩) (c_preV hP hKN (q := (6 + 7 * j)) (ci := 0) (fs := [.ref (ad (6 + 7 * j + 1)), .ref (ad (6 + 7 * j + 3)), .ref (ad (6 + 7 * j + 4)), .ref (ad (6 + 7 * j + 5)), .ref (ad (6 + 7 * j + 6)), .int ((V1 (6 + 7 * j)) 5), .int ((V1 (6 + 7 * j)) 6), .int ((V1 (6 + 7 * j)) 0), .int ((V1 (6 + 7 * j)) 1), .int ((V1 (6 + 7 * j)) 2), .int ((V1 (6 + 7 * j)) 3), .int ((V1 (6 + 7 * j)) 4)]) (by have := hj; omega) (ce_bd ad cI cB hj (V1 (6 + 7 * j))) rfl rfl) rfl hl.1 rfl (Nat.le_of_ble_eq_true rfl) dX0_fadeOneDay_29 ⟨Nat.zero_le _, Nat.zero_le _⟩ (fun H locs hP hS => ?_)
          refine lv_iinc (v := (x1_1 + 1)) (lv' := [(1, .int (x1_1 + 1)), (0, .ref (ad (6 + 7 * j))), (2, .int x2_1)]) hx hb dX0_fadeOneDay_32 hl (k := 1) rfl (by rfl) (by decide) rfl (fun ls hl => ?_)
          refine lv_iinc (v := (x2_1 + 1)) (lv' := [(2, .int (x2_1 + 1)), (1, .int (x1_1 + 1)), (0, .ref (ad (6 + 7 * j)))]) hx hb dX0_fadeOneDay_35 hl (k := 2) rfl (by rfl) (by decide) rfl (fun ls hl => ?_)
          refine lv_goto (tgt := 4) hx hb dX0_fadeOneDay_38 (by decide) ?_
          exact ih1 (f_X0_coat V1 j x2_1 ((f_X0_coatsAt V1 j x2_1) - 1)) (x1_1 + 1) (x2_1 + 1) hE hp H locs hP hS ls (lv_sub hl [2, 1, 0] rfl)
  exact L1 fu V 0 0 hE hp _ _ hP hS _ (lv_sub hl [2, 1, 0] rfl)
