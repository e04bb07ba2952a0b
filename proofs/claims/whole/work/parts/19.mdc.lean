/-! contracts by program (wip/whole/gen): f_ what a method answers or makes of the table, p_ what it needs, m_ the contract -/
def f_X8_word (fu : Nat) (V : VT) (p1 : Int32) (p2 : Int32) : Int32 := (if (f_X8_in V p1 0 1) = 0 then (-1001) else (if (f_X8_in V p2 0 2) = 0 then (if (f_X8_in V p2 10 (9 + (V 49 (0 : Int32).toNatClampNeg))) = 0 then (-1001) else (if p2 = 0 then (if (f_X8_wrong fu V p1) = 0 then 1 else 0) else (if p2 = 1 then (f_X8_wrong fu V p1) else (if p2 = 2 then (if (V 49 (1 : Int32).toNatClampNeg) = p1 then 1 else 0) else (V 49 (((33 + (8 * p1)) + p2) - 10).toNatClampNeg))))) else (if p2 = 0 then (if (f_X8_wrong fu V p1) = 0 then 1 else 0) else (if p2 = 1 then (f_X8_wrong fu V p1) else (if p2 = 2 then (if (V 49 (1 : Int32).toNatClampNeg) = p1 then 1 else 0) else (V 49 (((33 + (8 * p1)) + p2) - 10).toNatClampNeg))))))
def p_X8_word (fu : Nat) (V : VT) (p1 : Int32) (p2 : Int32) : Prop := (((f_X8_in V p1 0 1) = 0 → True) ∧ (¬ ((f_X8_in V p1 0 1) = 0) → (((f_X8_in V p2 0 2) = 0 → (((f_X8_in V p2 10 (9 + (V 49 (0 : Int32).toNatClampNeg))) = 0 → True) ∧ (¬ ((f_X8_in V p2 10 (9 + (V 49 (0 : Int32).toNatClampNeg))) = 0) → ((p2 = 0 → (p_X8_wrong fu V p1)) ∧ (¬ (p2 = 0) → ((p2 = 1 → (p_X8_wrong fu V p1)) ∧ (¬ (p2 = 1) → ((p2 = 2 → True) ∧ (¬ (p2 = 2) → (vp_in (((33 + (8 * p1)) + p2) - 10) 49)))))))))) ∧ (¬ ((f_X8_in V p2 0 2) = 0) → ((p2 = 0 → (p_X8_wrong fu V p1)) ∧ (¬ (p2 = 0) → ((p2 = 1 → (p_X8_wrong fu V p1)) ∧ (¬ (p2 = 1) → ((p2 = 2 → True) ∧ (¬ (p2 = 2) → (vp_in (((33 + (8 * p1)) + p2) - 10) 49)))))))))))
set_option maxHeartbeats 4000000 in
set_option maxRecDepth 100000 in
theorem m_X8_word (l : Launch) (D : va_G) (cI cB : ClassId) (ad : Nat → Nat) (fu : Nat) (V : VT) (p1 : Int32) (p2 : Int32)  (hp : p_X8_word fu V p1 p2) : Met l yX8_word wsX8_word ({ frames := 4, cells := 0, slots := 0, locals := 92 }) (cP D cI cB ad V [.ref (ad 48), .int p1, .int p2]) (cR (f_X8_word fu V p1 p2)) 0 0 (fun _ => False) := by
  refine Met.ofW (cc := cX8_word) (maxL := 3) (ret := (some .int)) (by decide +kernel) rfl ?_
  intro p e s m args below meth c s₁ B hml hv
  obtain ⟨rfl, hP, hKN⟩ := hv
  have hK := hKN.1
  have hx := B.exec
  have hb := B.bytes
  have hr := B.returns
  have hts := atoms_spec (ws := wsX8_word) B.pre
  have hown : s.vm.findClass RX8 = some m.cls := findClass_of_methodNamed B.named
  have hlocks := B.notSynchronized
  have hS : va_S (fun _ => False) s.heap s.heap [] := va_S.rf
  have hl := lv_entry ([.ref (ad 48), .int p1, .int p2]) (n := 3) (Nat.le_of_ble_eq_true rfl)
  rw [lg_entry_eq]
  generalize (lg_sl ([.ref (ad 48), .int p1, .int p2]) ++ List.replicate (3 - (lg_sl ([.ref (ad 48), .int p1, .int p2])).length) Slot.unset).toArray = ls at hl ⊢
  have hl : lv_has ls 3 [(0, .ref (ad 48)), (1, .int p1), (2, .int p2)] := hl
  have hE : f_X8_word fu V p1 p2 = (if (f_X8_in V p1 0 1) = 0 then (-1001) else (if (f_X8_in V p2 0 2) = 0 then (if (f_X8_in V p2 10 (9 + (V 49 (0 : Int32).toNatClampNeg))) = 0 then (-1001) else (if p2 = 0 then (if (f_X8_wrong fu V p1) = 0 then 1 else 0) else (if p2 = 1 then (f_X8_wrong fu V p1) else (if p2 = 2 then (if (V 49 (1 : Int32).toNatClampNeg) = p1 then 1 else 0) else (V 49 (((33 + (8 * p1)) + p2) - 10).toNatClampNeg))))) else (if p2 = 0 then (if (f_X8_wrong fu V p1) = 0 then 1 else 0) else (if p2 = 1 then (f_X8_wrong fu V p1) else (if p2 = 2 then (if (V 49 (1 : Int32).toNatClampNeg) = p1 then 1 else 0) else (V 49 (((33 + (8 * p1)) + p2) - 10).toNatClampNeg)))))) := rfl
  refine lv_iload_n hx hb dX8_word_0 rfl (lv_at hl 1 rfl) ?_
  refine lv_iconst (v := 0) hx hb dX8_word_1 (by decide) ?_
  refine lv_iconst (v := 1) hx hb dX8_word_2 (by decide) ?_
  refine k_SR (As := [.int p1, .int 0, .int 1]) (rest := []) ⟨hx, hb, hml, hown, hts⟩ hKN hP hS (m_X8_in l D cI cB ad V p1 0 1) (va_cwS 3 hts gX8_word_X8_in rfl rfl rfl (by decide +kernel) ⟨(Nat.le_of_ble_eq_true rfl), (Nat.le_of_ble_eq_true rfl)⟩) rfl hl.1 rfl (Nat.le_of_ble_eq_true rfl) dX8_word_3 ⟨Nat.zero_le _, Nat.zero_le _⟩ (fun H locs hP hS => ?_)
  refine lv_if_eq (tgt := 36) hx hb dX8_word_6 (by decide) (fun c1 => ?_) (fun c1 => ?_)
  · have hE := hE.trans (if_pos c1)
    refine lv_sipush (v := (-1001)) hx hb dX8_word_36 (by decide) ?_
    exact W.iret (v := (-1001)) hx hb hr (fun t ht hW => ⟨⟨(-1001), (), rfl, hE.symm, trivial⟩, hS.F ht⟩) hS.2.2 dX8_word_39
  · have hE := hE.trans (if_neg c1)
    have hp := pc_bn hp c1
    refine lv_iload_n hx hb dX8_word_9 rfl (lv_at hl 2 rfl) ?_
    refine lv_iconst (v := 0) hx hb dX8_word_10 (by decide) ?_
    refine lv_iconst (v := 2) hx hb dX8_word_11 (by decide) ?_
    refine k_SR (As := [.int p2, .int 0, .int 2]) (rest := []) ⟨hx, hb, hml, hown, hts⟩ hKN hP hS (m_X8_in l D cI cB ad V p2 0 2) (va_cwS 3 hts gX8_word_X8_in rfl rfl rfl (by decide +kernel) ⟨(Nat.le_of_ble_eq_true rfl), (Nat.le_of_ble_eq_true rfl)⟩) rfl hl.1 rfl (Nat.le_of_ble_eq_true rfl) dX8_word_12 ⟨Nat.zero_le _, Nat.zero_le _⟩ (fun H locs hP hS => ?_)
    refine lv_if_ne (tgt := 40) hx hb dX8_word_15 (by decide) (fun c2 => ?_) (fun c2 => ?_)
    · have hE := hE.trans (if_neg c2)
      have hp := pc_bn hp c2
      refine lv_iload_n hx hb dX8_word_40 rfl (lv_at hl 2 rfl) ?_
      rcases Decidable.em (p2 = 0) with c9 | c9
      · have hE := hE.trans (if_pos c9)
        have hp := pc_br hp c9
        refine lv_tableIn (off := 27) (tgt := 68) hx hb dX8_word_41 (by rw [c9]; decide) (by rw [c9]; decide) (by rw [c9]; rfl) (by decide) ?_
        refine lv_aload_n hx hb dX8_word_68 rfl (lv_at hl 0 rfl) ?_
        refine lv_iload_n hx hb dX8_word_69 rfl (lv_at hl 1 rfl) ?_
        have hn4 := hp
        refine k_VR (As := [.int p1]) (rest := []) (q := 48) ⟨hx, hb, hml, hown, hts⟩ hKN hP hS (m_X8_wrong l D cI cB ad fu V p1 hn4) (cwV 1 hts gX8_word_X8_wrong rfl rfl rfl (by decide +kernel) ⟨(Nat.le_of_ble_eq_true rfl), (Nat.le_of_ble_eq_true rfl)⟩) (c_preV hP hKN (q := 48) (ci := 6) (fs := [.ref (ad 49), .ref (ad 50), .ref (ad 51), .int ((V 48) 0), .ref (ad 52), .int ((V 48) 1), .ref (ad 53), .int ((V 48) 2), .int ((V 48) 3), .int ((V 48) 4), .int ((V 48) 5), .int ((V 48) 6), .int ((V 48) 7)]) (by decide) (ce_md ad cI cB (V 48)) rfl rfl) rfl hl.1 rfl (Nat.le_of_ble_eq_true rfl) dX8_word_70 ⟨Nat.zero_le _, Nat.zero_le _⟩ (fun H locs hP hS => ?_)
        refine lv_if_ne (tgt := 80) hx hb dX8_word_73 (by decide) (fun c10 => ?_) (fun c10 => ?_)
        · have hE := hE.trans (if_neg c10)
          refine lv_iconst (v := 0) hx hb dX8_word_80 (by decide) ?_
          exact W.iret (v := 0) hx hb hr (fun t ht hW => ⟨⟨0, (), rfl, hE.symm, trivial⟩, hS.F ht⟩) hS.2.2 dX8_word_81
        · have hE := hE.trans (if_pos c10)
          refine lv_iconst (v := 1) hx hb dX8_word_76 (by decide) ?_
          refine lv_goto (tgt := 81) hx hb dX8_word_77 (by decide) ?_
          exact W.iret (v := 1) hx hb hr (fun t ht hW => ⟨⟨1, (), rfl, hE.symm, trivial⟩, hS.F ht⟩) hS.2.2 dX8_word_81
      · have hE := hE.trans (if_neg c9)
        have hp := pc_bn hp c9
        rcases Decidable.em (p2 = 1) with c11 | c11
        · have hE := hE.trans (if_pos c11)
          have hp := pc_br hp c11
          refine lv_tableIn (off := 41) (tgt := 82) hx hb dX8_word_41 (by rw [c11]; decide) (by rw [c11]; decide) (by rw [c11]; rfl) (by decide) ?_
          refine lv_aload_n hx hb dX8_word_82 rfl (lv_at hl 0 rfl) ?_
          refine lv_iload_n hx hb dX8_word_83 rfl (lv_at hl 1 rfl) ?_
          have hn5 := hp
          refine k_VR (As := [.int p1]) (rest := []) (q := 48) ⟨hx, hb, hml, hown, hts⟩ hKN hP hS (m_X8_wrong l D cI cB ad fu V p1 hn5) (cwV 1 hts gX8_word_X8_wrong rfl rfl rfl (by decide +kernel) ⟨(Nat.le_of_ble_eq_true rfl), (Nat.le_of_ble_eq_true rfl)⟩) (c_preV hP hKN (q := 48) (ci := 6) (fs := [.ref (ad 49), .ref (ad 50), .ref (ad 51), .int ((V 48) 0), .ref (ad 52), .int ((V 48) 1), .ref (ad 53), .int ((V 48) 2), .int ((V 48) 3), .int ((V 48) 4), .int ((V 48) 5), .int ((V 48) 6), .int ((V 48) 7)]) (by decide) (ce_md ad cI cB (V 48)) rfl rfl) rfl hl.1 rfl (Nat.le_of_ble_eq_true rfl) dX8_word_84 ⟨Nat.zero_le _, Nat.zero_le _⟩ (fun H locs hP hS => ?_)
          exact W.iret (v := (f_X8_wrong fu V p1)) hx hb hr (fun t ht hW => ⟨⟨(f_X8_wrong fu V p1), (), rfl, hE.symm, trivial⟩, hS.F ht⟩) hS.2.2 dX8_word_87
        · have hE := hE.trans (if_neg c11)
          have hp := pc_bn hp c11
          rcases Decidable.em (p2 = 2) with c12 | c12
          · have hE := hE.trans (if_pos c12)
            refine lv_tableIn (off := 47) (tgt := 88) hx hb dX8_word_41 (by rw [c12]; decide) (by rw [c12]; decide) (by rw [c12]; rfl) (by decide) ?_
            refine lv_aload_n hx hb dX8_word_88 rfl (lv_at hl 0 rfl) ?_
            refine x_get (ci := 6) (fs := [.ref (ad 49), .ref (ad 50), .ref (ad 51), .int ((V 48) 0), .ref (ad 52), .int ((V 48) 1), .ref (ad 53), .int ((V 48) 2), .int ((V 48) 3), .int ((V 48) 4), .int ((V 48) 5), .int ((V 48) 6), .int ((V 48) 7)]) (q := 48) (v := .ref (ad 49)) (N := 13) hx hb hts (fun _ h => List.mem_cons_of_mem _ (List.mem_append_right _ h)) hown hK hP (by decide) (ce_md ad cI cB (V 48)) rfl 0 (by decide) (hts (.fieldLink RX8 7 "TurnedBoardsModel" "s" "[I") (List.mem_of_getElem? (i := 1) rfl)) rfl rfl dX8_word_89 ?_
            refine lv_iconst (v := 1) hx hb dX8_word_92 (by decide) ?_
            refine x_iald hx hb hK hP ⟨by decide, fun _ => rfl, by decide⟩ (vp_lit (i := 1) (n := 49) (by decide) (by decide)) dX8_word_93 ?_
            refine lv_iload_n hx hb dX8_word_94 rfl (lv_at hl 1 rfl) ?_
            refine lv_icmp_ne (tgt := 102) hx hb dX8_word_95 (by decide) (fun c13 => ?_) (fun c13 => ?_)
            · have hE := hE.trans (if_neg c13)
              refine lv_iconst (v := 0) hx hb dX8_word_102 (by decide) ?_
              exact W.iret (v := 0) hx hb hr (fun t ht hW => ⟨⟨0, (), rfl, hE.symm, trivial⟩, hS.F ht⟩) hS.2.2 dX8_word_103
            · have hE := hE.trans (if_pos c13)
              refine lv_iconst (v := 1) hx hb dX8_word_98 (by decide) ?_
              refine lv_goto (tgt := 103) hx hb dX8_word_99 (by decide) ?_
              exact W.iret (v := 1) hx hb hr (fun t ht hW => ⟨⟨1, (), rfl, hE.symm, trivial⟩, hS.F ht⟩) hS.2.2 dX8_word_103
          · have hE := hE.trans (if_neg c12)
            have hp := pc_bn hp c12
            refine lv_tableOut (tgt := 104) hx hb dX8_word_41 (by have e0 := lv_neT (k := 0) (a := 0) c9 rfl; have e1 := lv_neT (k := 1) (a := 1) c11 rfl; have e2 := lv_neT (k := 2) (a := 2) c12 rfl; omega) (by decide) ?_
            refine lv_aload_n hx hb dX8_word_104 rfl (lv_at hl 0 rfl) ?_
            refine x_get (ci := 6) (fs := [.ref (ad 49), .ref (ad 50), .ref (ad 51), .int ((V 48) 0), .ref (ad 52), .int ((V 48) 1), .ref (ad 53), .int ((V 48) 2), .int ((V 48) 3), .int ((V 48) 4), .int ((V 48) 5), .int ((V 48) 6), .int ((V 48) 7)]) (q := 48) (v := .ref (ad 49)) (N := 13) hx hb hts (fun _ h => List.mem_cons_of_mem _ (List.mem_append_right _ h)) hown hK hP (by decide) (ce_md ad cI cB (V 48)) rfl 0 (by decide) (hts (.fieldLink RX8 7 "TurnedBoardsModel" "s" "[I") (List.mem_of_getElem? (i := 1) rfl)) rfl rfl dX8_word_105 ?_
            refine lv_bipush (v := 33) hx hb dX8_word_108 (by decide) ?_
            refine lv_bipush (v := 8) hx hb dX8_word_110 (by decide) ?_
            refine lv_iload_n hx hb dX8_word_112 rfl (lv_at hl 1 rfl) ?_
            refine lv_imul hx hb dX8_word_113 ?_
            refine lv_iadd hx hb dX8_word_114 ?_
            refine lv_iload_n hx hb dX8_word_115 rfl (lv_at hl 2 rfl) ?_
            refine lv_iadd hx hb dX8_word_116 ?_
            refine lv_bipush (v := 10) hx hb dX8_word_117 (by decide) ?_
            refine lv_isub hx hb dX8_word_119 ?_
            have hn6 := hp
            refine x_iald hx hb hK hP ⟨by decide, fun _ => rfl, by decide⟩ hn6 dX8_word_120 ?_
            exact W.iret (v := (V 49 (((33 + (8 * p1)) + p2) - 10).toNatClampNeg)) hx hb hr (fun t ht hW => ⟨⟨(V 49 (((33 + (8 * p1)) + p2) - 10).toNatClampNeg), (), rfl, hE.symm, trivial⟩, hS.F ht⟩) hS.2.2 dX8_word_121
    · have hE := hE.trans (if_pos c2)
      have hp := pc_br hp c2
      refine lv_iload_n hx hb dX8_word_18 rfl (lv_at hl 2 rfl) ?_
      refine lv_bipush (v := 10) hx hb dX8_word_19 (by decide) ?_
      refine lv_bipush (v := 9) hx hb dX8_word_21 (by decide) ?_
      refine lv_aload_n hx hb dX8_word_23 rfl (lv_at hl 0 rfl) ?_
      refine x_get (ci := 6) (fs := [.ref (ad 49), .ref (ad 50), .ref (ad 51), .int ((V 48) 0), .ref (ad 52), .int ((V 48) 1), .ref (ad 53), .int ((V 48) 2), .int ((V 48) 3), .int ((V 48) 4), .int ((V 48) 5), .int ((V 48) 6), .int ((V 48) 7)]) (q := 48) (v := .ref (ad 49)) (N := 13) hx hb hts (fun _ h => List.mem_cons_of_mem _ (List.mem_append_right _ h)) hown hK hP (by decide) (ce_md ad cI cB (V 48)) rfl 0 (by decide) (hts (.fieldLink RX8 7 "TurnedBoardsModel" "s" "[I") (List.mem_of_getElem? (i := 1) rfl)) rfl rfl dX8_word_24 ?_
      refine lv_iconst (v := 0) hx hb dX8_word_27 (by decide) ?_
      refine x_iald hx hb hK hP ⟨by decide, fun _ => rfl, by decide⟩ (vp_lit (i := 0) (n := 49) (by decide) (by decide)) dX8_word_28 ?_
      refine lv_iadd hx hb dX8_word_29 ?_
      refine k_SR (As := [.int p2, .int 10, .int (9 + (V 49 (0 : Int32).toNatClampNeg))]) (rest := []) ⟨hx, hb, hml, hown, hts⟩ hKN hP hS (m_X8_in l D cI cB ad V p2 10 (9 + (V 49 (0 : Int32).toNatClampNeg))) (va_cwS 3 hts gX8_word_X8_in rfl rfl rfl (by decide +kernel) ⟨(Nat.le_of_ble_eq_true rfl), (Nat.le_of_ble_eq_true rfl)⟩) rfl hl.1 rfl (Nat.le_of_ble_eq_true rfl) dX8_word_30 ⟨Nat.zero_le _, Nat.zero_le _⟩ (fun H locs hP hS => ?_)
      refine lv_if_ne (tgt := 40) hx hb dX8_word_33 (by decide) (fun c3 => ?_) (fun c3 => ?_)
      · have hE := hE.trans (if_neg c3)
        have hp := pc_bn hp c3
        refine lv_iload_n hx hb dX8_word_40 rfl (lv_at hl 2 rfl) ?_
        rcases Decidable.em (p2 = 0) with c4 | c4
        · have hE := hE.trans (if_pos c4)
          have hp := pc_br hp c4
          refine lv_tableIn (off := 27) (tgt := 68) hx hb dX8_word_41 (by rw [c4]; decide) (by rw [c4]; decide) (by rw [c4]; rfl) (by decide) ?_
          refine lv_aload_n hx hb dX8_word_68 rfl (lv_at hl 0 rfl) ?_
          refine lv_iload_n hx hb dX8_word_69 rfl (lv_at hl 1 rfl) ?_
          have hn1 := hp
          refine k_VR (As := [.int p1]) (rest := []) (q := 48) ⟨hx, hb, hml, hown, hts⟩ hKN hP hS (m_X8_wrong l D cI cB ad fu V p1 hn1) (cwV 1 hts gX8_word_X8_wrong rfl rfl rfl (by decide +kernel) ⟨(Nat.le_of_ble_eq_true rfl), (Nat.le_of_ble_eq_true rfl)⟩) (c_preV hP hKN (q := 48) (ci := 6) (fs := [.ref (ad 49), .ref (ad 50), .ref (ad 51), .int ((V 48) 0), .ref (ad 52), .int ((V 48) 1), .ref (ad 53), .int ((V 48) 2), .int ((V 48) 3), .int ((V 48) 4), .int ((V 48) 5), .int ((V 48) 6), .int ((V 48) 7)]) (by decide) (ce_md ad cI cB (V 48)) rfl rfl) rfl hl.1 rfl (Nat.le_of_ble_eq_true rfl) dX8_word_70 ⟨Nat.zero_le _, Nat.zero_le _⟩ (fun H locs hP hS => ?_)
          refine lv_if_ne (tgt := 80) hx hb dX8_word_73 (by decide) (fun c5 => ?_) (fun c5 => ?_)
          · have hE := hE.trans (if_neg c5)
            refine lv_iconst (v := 0) hx hb dX8_word_80 (by decide) ?_
            exact W.iret (v := 0) hx hb hr (fun t ht hW => ⟨⟨0, (), rfl, hE.symm, trivial⟩, hS.F ht⟩) hS.2.2 dX8_word_81
          · have hE := hE.trans (if_pos c5)
            refine lv_iconst (v := 1) hx hb dX8_word_76 (by decide) ?_
            refine lv_goto (tgt := 81) hx hb dX8_word_77 (by decide) ?_
            exact W.iret (v := 1) hx hb hr (fun t ht hW => ⟨⟨1, (), rfl, hE.symm, trivial⟩, hS.F ht⟩) hS.2.2 dX8_word_81
        · have hE := hE.trans (if_neg c4)
          have hp := pc_bn hp c4
          rcases Decidable.em (p2 = 1) with c6 | c6
          · have hE := hE.trans (if_pos c6)
            have hp := pc_br hp c6
            refine lv_tableIn (off := 41) (tgt := 82) hx hb dX8_word_41 (by rw [c6]; decide) (by rw [c6]; decide) (by rw [c6]; rfl) (by decide) ?_
            refine lv_aload_n hx hb dX8_word_82 rfl (lv_at hl 0 rfl) ?_
            refine lv_iload_n hx hb dX8_word_83 rfl (lv_at hl 1 rfl) ?_
            have hn2 := hp
            refine k_VR (As := [.int p1]) (rest := []) (q := 48) ⟨hx, hb, hml, hown, hts⟩ hKN hP hS (m_X8_wrong l D cI cB ad fu V p1 hn2) (cwV 1 hts gX8_word_X8_wrong rfl rfl rfl (by decide +kernel) ⟨(Nat.le_of_ble_eq_true rfl), (Nat.le_of_ble_eq_true rfl)⟩) (c_preV hP hKN (q := 48) (ci := 6) (fs := [.ref (ad 49), .ref (ad 50), .ref (ad 51), .int ((V 48) 0), .ref (ad 52), .int ((V 48) 1), .ref (ad 53), .int ((V 48) 2), .int ((V 48) 3), .int ((V 48) 4), .int ((V 48) 5), .int ((V 48) 6), .int ((V 48) 7)]) (by decide) (ce_md ad cI cB (V 48)) rfl rfl) rfl hl.1 rfl (Nat.le_of_ble_eq_true rfl) dX8_word_84 ⟨Nat.zero_le _, Nat.zero_le _⟩ (fun H locs hP hS => ?_)
            exact W.iret (v := (f_X8_wrong fu V p1)) hx hb hr (fun t ht hW => ⟨⟨(f_X8_wrong fu V p1), (), rfl, hE.symm, trivial⟩, hS.F ht⟩) hS.2.2 dX8_word_87
          · have hE := hE.trans (if_neg c6)
            have hp := pc_bn hp c6
            rcases Decidable.em (p2 = 2) with c7 | c7
            · have hE := hE.trans (if_pos c7)
              refine lv_tableIn (off := 47) (tgt := 88) hx hb dX8_word_41 (by rw [c7]; decide) (by rw [c7]; decide) (by rw [c7]; rfl) (by decide) ?_
              refine lv_aload_n hx hb dX8_word_88 rfl (lv_at hl 0 rfl) ?_
              refine x_get (ci := 6) (fs := [.ref (ad 49), .ref (ad 50), .ref (ad 51), .int ((V 48) 0), .ref (ad 52), .int ((V 48) 1), .ref (ad 53), .int ((V 48) 2), .int ((V 48) 3), .int ((V 48) 4), .int ((V 48) 5), .int ((V 48) 6), .int ((V 48) 7)]) (q := 48) (v := .ref (ad 49)) (N := 13) hx hb hts (fun _ h => List.mem_cons_of_mem _ (List.mem_append_right _ h)) hown hK hP (by decide) (ce_md ad cI cB (V 48)) rfl 0 (by decide) (hts (.fieldLink RX8 7 "TurnedBoardsModel" "s" "[I") (List.mem_of_getElem? (i := 1) rfl)) rfl rfl dX8_word_89 ?_
              refine lv_iconst (v := 1) hx hb dX8_word_92 (by decide) ?_
              refine x_iald hx hb hK hP ⟨by decide, fun _ => rfl, by decide⟩ (vp_lit (i := 1) (n := 49) (by decide) (by decide)) dX8_word_93 ?_
              refine lv_iload_n hx hb dX8_word_94 rfl (lv_at hl 1 rfl) ?_
              refine lv_icmp_ne (tgt := 102) hx hb dX8_word_95 (by decide) (fun c8 => ?_) (fun c8 => ?_)
              · have hE := hE.trans (if_neg c8)
                refine lv_iconst (v := 0) hx hb dX8_word_102 (by decide) ?_
                exact W.iret (v := 0) hx hb hr (fun t ht hW => ⟨⟨0, (), rfl, hE.symm, trivial⟩, hS.F ht⟩) hS.2.2 dX8_word_103
              · have hE := hE.trans (if_pos c8)
                refine lv_iconst (v := 1) hx hb dX8_word_98 (by decide) ?_
                refine lv_goto (tgt := 103) hx hb dX8_word_99 (by decide) ?_
                exact W.iret (v := 1) hx hb hr (fun t ht hW => ⟨⟨1, (), rfl, hE.symm, trivial⟩, hS.F ht⟩) hS.2.2 dX8_word_103
            · have hE := hE.trans (if_neg c7)
              have hp := pc_bn hp c7
              refine lv_tableOut (tgt := 104) hx hb dX8_word_41 (by have e0 := lv_neT (k := 0) (a := 0) c4 rfl; have e1 := lv_neT (k := 1) (a := 1) c6 rfl; have e2 := lv_neT (k := 2) (a := 2) c7 rfl; omega) (by decide) ?_
              refine lv_aload_n hx hb dX8_word_104 rfl (lv_at hl 0 rfl) ?_
              refine x_get (ci := 6) (fs := [.ref (ad 49), .ref (ad 50), .ref (ad 51), .int ((V 48) 0), .ref (ad 52), .int ((V 48) 1), .ref (ad 53), .int ((V 48) 2), .int ((V 48) 3), .int ((V 48) 4), .int ((V 48) 5), .int ((V 48) 6), .int ((V 48) 7)]) (q := 48) (v := .ref (ad 49)) (N := 13) hx hb hts (fun _ h => List.mem_cons_of_mem _ (List.mem_append_right _ h)) hown hK hP (by decide) (ce_md ad cI cB (V 48)) rfl 0 (by decide) (hts (.fieldLink RX8 7 "TurnedBoardsModel" "s" "[I") (List.mem_of_getElem? (i := 1) rfl)) rfl rfl dX8_word_105 ?_
              refine lv_bipush (v := 33) hx hb dX8_word_108 (by decide) ?_
              refine lv_bipush (v := 8) hx hb dX8_word_110 (by decide) ?_
              refine lv_iload_n hx hb dX8_word_112 rfl (lv_at hl 1 rfl) ?_
              refine lv_imul hx hb dX8_word_113 ?_
              refine lv_iadd hx hb dX8_word_114 ?_
              refine lv_iload_n hx hb dX8_word_115 rfl (lv_at hl 2 rfl) ?_
              refine lv_iadd hx hb dX8_word_116 ?_
              refine lv_bipush (v := 10) hx hb dX8_word_117 (by decide) ?_
              refine lv_isub hx hb dX8_word_119 ?_
              have hn3 := hp
              refine x_iald hx hb hK hP ⟨by decide, fun _ => rfl, by decide⟩ hn3 dX8_word_120 ?_
              exact W.iret (v := (V 49 (((33 + (8 * p1)) + p2) - 10).toNatClampNeg)) hx hb hr (fun t ht hW => ⟨⟨(V 49 (((33 + (8 * p1)) + p2) - 10).toNatClampNeg), (), rfl, hE.symm, trivial⟩, hS.F ht⟩) hS.2.2 dX8_word_121
      · have hE := hE.trans (if_pos c3)
        refine lv_sipush (v := (-1001)) hx hb dX8_word_36 (by decide) ?_
        exact W.iret (v := (-1001)) hx hb hr (fun t ht hW => ⟨⟨(-1001), (), rfl, hE.symm, trivial⟩, hS.F ht⟩) hS.2.2 dX8_word_39
def f_X8_drawnSet_l1 (fu : Nat) (V : VT)  : Nat → Int32 → Int32 → Int32
  | 0, x1_1, x2_1 => 0
  | w1 + 1, x1_1, x2_1 => (if 10 ≤ x2_1 then x1_1 else (if 0 ≤ (f_X8_drawn V x2_1) then (f_X8_drawnSet_l1 fu V  w1 (x1_1 ||| (1 <<< (x2_1 &&& 31))) (x2_1 + 1)) else (f_X8_drawnSet_l1 fu V  w1 (x1_1 ||| 0) (x2_1 + 1))))
def p_X8_drawnSet_l1 (fu : Nat) (V : VT)  : Nat → Int32 → Int32 → Prop
  | 0, _, _ => False
  | w1 + 1, x1_1, x2_1 => ((10 ≤ x2_1 → True) ∧ (¬ (10 ≤ x2_1) → ((p_X8_drawn V x2_1) ∧ ((0 ≤ (f_X8_drawn V x2_1) → (p_X8_drawnSet_l1 fu V  w1 (x1_1 ||| (1 <<< (x2_1 &&& 31))) (x2_1 + 1))) ∧ (¬ (0 ≤ (f_X8_drawn V x2_1)) → (p_X8_drawnSet_l1 fu V  w1 (x1_1 ||| 0) (x2_1 + 1)))))))
def f_X8_drawnSet (fu : Nat) (V : VT)  : Int32 := (f_X8_drawnSet_l1 fu V  fu 0 0)
def p_X8_drawnSet (fu : Nat) (V : VT)  : Prop := (p_X8_drawnSet_l1 fu V  fu 0 0)
set_option maxHeartbeats 4000000 in
set_option maxRecDepth 100000 in
theorem m_X8_drawnSet (l : Launch) (D : va_G) (cI cB : ClassId) (ad : Nat → Nat) (fu : Nat) (V : VT)   (hp : p_X8_drawnSet fu V ) : Met l yX8_drawnSet wsX8_drawnSet ({ frames := 1, cells := 0, slots := 0, locals := 21 }) (cP D cI cB ad V [.ref (ad 48)]) (cR (f_X8_drawnSet fu V)) 0 0 (fun _ => False) := by
  refine Met.ofW (cc := cX8_drawnSet) (maxL := 3) (ret := (some .int)) (by decide +kernel) rfl ?_
  intro p e s m args below meth c s₁ B hml hv
  obtain ⟨rfl, hP, hKN⟩ := hv
  have hK := hKN.1
  have hx := B.exec
  have hb := B.bytes
  have hr := B.returns
  have hts := atoms_spec (ws := wsX8_drawnSet) B.pre
  have hown : s.vm.findClass RX8 = some m.cls := findClass_of_methodNamed B.named
  have hlocks := B.notSynchronized
  have hS : va_S (fun _ => False) s.heap s.heap [] := va_S.rf
  have hl := lv_entry ([.ref (ad 48)]) (n := 3) (Nat.le_of_ble_eq_true rfl)
  rw [lg_entry_eq]
  generalize (lg_sl ([.ref (ad 48)]) ++ List.replicate (3 - (lg_sl ([.ref (ad 48)])).length) Slot.unset).toArray = ls at hl ⊢
  have hl : lv_has ls 3 [(0, .ref (ad 48))] := hl
  have hE : f_X8_drawnSet fu V = (f_X8_drawnSet_l1 fu V  fu 0 0) := rfl
  refine lv_iconst (v := 0) hx hb dX8_drawnSet_0 (by decide) ?_
  refine lv_istore_n (lv' := [(1, .int 0), (0, .ref (ad 48))]) hx hb dX8_drawnSet_1 rfl hl (by decide) rfl (fun ls hl => ?_)
  refine lv_iconst (v := 0) hx hb dX8_drawnSet_2 (by decide) ?_
  refine lv_istore_n (lv' := [(2, .int 0), (1, .int 0), (0, .ref (ad 48))]) hx hb dX8_drawnSet_3 rfl hl (by decide) rfl (fun ls hl => ?_)
  have L1 : ∀ (w1 : Nat) (x1_1 : Int32) (x2_1 : Int32), f_X8_drawnSet fu V = f_X8_drawnSet_l1 fu V  w1 x1_1 x2_1 → p_X8_drawnSet_l1 fu V  w1 x1_1 x2_1 → ∀ (H : Heap) (locs : List Loc), wP D cI cB ad V H → va_S (fun _ => False) s.heap H locs → ∀ (ls : Array Slot), lv_has ls 3 [(0, .ref (ad 48)), (1, .int x1_1), (2, .int x2_1)] → W p l e (headSpec wsX8_drawnSet ({ frames := 1, cells := 0, slots := 0, locals := 21 })).room s m ([.ref (ad 48)] : List Value).toArray below meth c H locs 0 0 (MQ below (cR (f_X8_drawnSet fu V)) ([.ref (ad 48)] : List Value).toArray s 0 0 (fun _ => False)) (F0 m 4 ls []) := by
    intro w1
    induction w1 with
    | zero => intro x1_1 x2_1 hE hp; exact hp.elim
    | succ w1 ih1 =>
      intro x1_1 x2_1 hE hp H locs hP hS ls hl
      rw [f_X8_drawnSet_l1] at hE
      rw [p_X8_drawnSet_l1] at hp
      refine lv_iload_n hx hb dX8_drawnSet_4 rfl (lv_at hl 2 rfl) ?_
      refine lv_bipush (v := 10) hx hb dX8_drawnSet_5 (by decide) ?_
      refine lv_icmp_ge (tgt := 34) hx hb dX8_drawnSet_7 (by decide) (fun c1 => ?_) (fun c1 => ?_)
      · have hE := hE.trans (if_pos c1)
        refine lv_iload_n hx hb dX8_drawnSet_34 rfl (lv_at hl 1 rfl) ?_
        exact W.iret (v := x1_1) hx hb hr (fun t ht hW => ⟨⟨x1_1, (), rfl, hE.symm, trivial⟩, hS.F ht⟩) hS.2.2 dX8_drawnSet_35
      · have hE := hE.trans (if_neg c1)
        have hp := pc_bn hp c1
        refine lv_iload_n hx hb dX8_drawnSet_10 rfl (lv_at hl 1 rfl) ?_
        refine lv_aload_n hx hb dX8_drawnSet_11 rfl (lv_at hl 0 rfl) ?_
        refine lv_iload_n hx hb dX8_drawnSet_12 rfl (lv_at hl 2 rfl) ?_
        obtain ⟨hn1, hp⟩ := hp
        refine k_VR (As := [.int x2_1]) (rest := [.int x1_1]) (q := 48) ⟨hx, hb, hml, hown, hts⟩ hKN hP hS (m_X8_drawn l D cI cB ad V x2_1 hn1) (cwV 1 hts gX8_drawnSet_X8_drawn rfl rfl rfl (by decide +kernel) ⟨(Nat.le_of_ble_eq_true rfl), (Nat.le_of_ble_eq_true rfl)⟩) (c_preV hP hKN (q := 48) (ci := 6) (fs := [.ref (ad 49), .ref (ad 50), .ref (ad 51), .int ((V 48) 0), .ref (ad 52), .int ((V 48) 1), .ref (ad 53), .int ((V 48) 2), .int ((V 48) 3), .int ((V 48) 4), .int ((V 48) 5), .int ((V 48) 6), .int ((V 48) 7)]) (by decide) (ce_md ad cI cB (V 48)) rfl rfl) rfl hl.1 rfl (Nat.le_of_ble_eq_true rfl) dX8_drawnSet_13 ⟨Nat.zero_le _, Nat.zero_le _⟩ (fun H locs hP hS => ?_)
        refine lv_if_ge (tgt := 23) hx hb dX8_drawnSet_16 (by decide) (fun c2 => ?_) (fun c2 => ?_)
        · have hE := hE.trans (if_pos c2)
          have hp := pc_br hp c2
          refine lv_iconst (v := 1) hx hb dX8_drawnSet_23 (by decide) ?_
          refine lv_iload_n hx hb dX8_drawnSet_24 rfl (lv_at hl 2 rfl) ?_
          refine lv_ishl hx hb dX8_drawnSet_25 ?_
          refine lv_ior hx hb dX8_drawnSet_26 ?_
          refine lv_istore_n (lv' := [(1, .int (x1_1 ||| (1 <<< (x2_1 &&& 31)))), (0, .ref (ad 48)), (2, .int x2_1)]) hx hb dX8_drawnSet_27 rfl hl (by decide) rfl (fun ls hl => ?_)
          refine lv_iinc (v := (x2_1 + 1)) (lv' := [(2, .int (x2_1 + 1)), (1, .int (x1_1 ||| (1 <<< (x2_1 &&& 31)))), (0, .ref (ad 48))]) hx hb dX8_drawnSet_28 hl (k := 2) rfl (by rfl) (by decide) rfl (fun ls hl => ?_)
          refine lv_goto (tgt := 4) hx hb dX8_drawnSet_31 (by decide) ?_
          exact ih1 (x1_1 ||| (1 <<< (x2_1 &&& 31))) (x2_1 + 1) hE hp H locs hP hS ls (lv_sub hl [2, 1, 0] rfl)
        · have hE := hE.trans (if_neg c2)
          have hp := pc_bn hp c2
          refine lv_iconst (v := 0) hx hb dX8_drawnSet_19 (by decide) ?_
          refine lv_goto (tgt := 26) hx hb dX8_drawnSet_20 (by decide) ?_
          refine lv_ior hx hb dX8_drawnSet_26 ?_
          refine lv_istore_n (lv' := [(1, .int (x1_1 ||| 0)), (0, .ref (ad 48)), (2, .int x2_1)]) hx hb dX8_drawnSet_27 rfl hl (by decide) rfl (fun ls hl => ?_)
          refine lv_iinc (v := (x2_1 + 1)) (lv' := [(2, .int (x2_1 + 1)), (1, .int (x1_1 ||| 0)), (0, .ref (ad 48))]) hx hb dX8_drawnSet_28 hl (k := 2) rfl (by rfl) (by decide) rfl (fun ls hl => ?_)
          refine lv_goto (tgt := 4) hx hb dX8_drawnSet_31 (by decide) ?_
          exact ih1 (x1_1 ||| 0) (x2_1 + 1) hE hp H locs hP hS ls (lv_sub hl [2, 1, 0] rfl)
  exact L1 fu 0 0 hE hp _ _ hP hS _ (lv_sub hl [2, 1, 0] rfl)
def f_X8_paintedOr_l1 (fu : Nat) (V : VT) (p1 : Int32) : Nat → Int32 → Int32 → Int32
  | 0, x2_1, x3_1 => 0
  | w1 + 1, x2_1, x3_1 => (if (V 49 (0 : Int32).toNatClampNeg) ≤ x3_1 then x2_1 else (if p1 = 0 then (if (f_X8_coats V x3_1) ≤ 0 then (f_X8_paintedOr_l1 fu V p1 w1 (x2_1 + 0) (x3_1 + 1)) else (f_X8_paintedOr_l1 fu V p1 w1 (x2_1 + 1) (x3_1 + 1))) else (f_X8_paintedOr_l1 fu V p1 w1 (x2_1 + (f_X8_coats V x3_1)) (x3_1 + 1))))
def p_X8_paintedOr_l1 (fu : Nat) (V : VT) (p1 : Int32) : Nat → Int32 → Int32 → Prop
  | 0, _, _ => False
  | w1 + 1, x2_1, x3_1 => (((V 49 (0 : Int32).toNatClampNeg) ≤ x3_1 → True) ∧ (¬ ((V 49 (0 : Int32).toNatClampNeg) ≤ x3_1) → ((p1 = 0 → ((p_X8_coats V x3_1) ∧ (((f_X8_coats V x3_1) ≤ 0 → (p_X8_paintedOr_l1 fu V p1 w1 (x2_1 + 0) (x3_1 + 1))) ∧ (¬ ((f_X8_coats V x3_1) ≤ 0) → (p_X8_paintedOr_l1 fu V p1 w1 (x2_1 + 1) (x3_1 + 1)))))) ∧ (¬ (p1 = 0) → ((p_X8_coats V x3_1) ∧ (p_X8_paintedOr_l1 fu V p1 w1 (x2_1 + (f_X8_coats V x3_1)) (x3_1 + 1)))))))
def f_X8_paintedOr (fu : Nat) (V : VT) (p1 : Int32) : Int32 := (f_X8_paintedOr_l1 fu V p1 fu 0 0)
def p_X8_paintedOr (fu : Nat) (V : VT) (p1 : Int32) : Prop := (p_X8_paintedOr_l1 fu V p1 fu 0 0)
set_option maxHeartbeats 4000000 in
set_option maxRecDepth 100000 in
theorem m_X8_paintedOr (l : Launch) (D : va_G) (cI cB : ClassId) (ad : Nat → Nat) (fu : Nat) (V : VT) (p1 : Int32)  (hp : p_X8_paintedOr fu V p1) : Met l yX8_paintedOr wsX8_paintedOr ({ frames := 1, cells := 0, slots := 0, locals := 21 }) (cP D cI cB ad V [.ref (ad 48), .int p1]) (cR (f_X8_paintedOr fu V p1)) 0 0 (fun _ => False) := by
  refine Met.ofW (cc := cX8_paintedOr) (maxL := 4) (ret := (some .int)) (by decide +kernel) rfl ?_
  intro p e s m args below meth c s₁ B hml hv
  obtain ⟨rfl, hP, hKN⟩ := hv
  have hK := hKN.1
  have hx := B.exec
  have hb := B.bytes
  have hr := B.returns
  have hts := atoms_spec (ws := wsX8_paintedOr) B.pre
  have hown : s.vm.findClass RX8 = some m.cls := findClass_of_methodNamed B.named
  have hlocks := B.notSynchronized
  have hS : va_S (fun _ => False) s.heap s.heap [] := va_S.rf
  have hl := lv_entry ([.ref (ad 48), .int p1]) (n := 4) (Nat.le_of_ble_eq_true rfl)
  rw [lg_entry_eq]
  generalize (lg_sl ([.ref (ad 48), .int p1]) ++ List.replicate (4 - (lg_sl ([.ref (ad 48), .int p1])).length) Slot.unset).toArray = ls at hl ⊢
  have hl : lv_has ls 4 [(0, .ref (ad 48)), (1, .int p1)] := hl
  have hE : f_X8_paintedOr fu V p1 = (f_X8_paintedOr_l1 fu V p1 fu 0 0) := rfl
  refine lv_iconst (v := 0) hx hb dX8_paintedOr_0 (by decide) ?_
  refine lv_istore_n (lv' := [(2, .int 0), (0, .ref (ad 48)), (1, .int p1)]) hx hb dX8_paintedOr_1 rfl hl (by decide) rfl (fun ls hl => ?_)
  refine lv_iconst (v := 0) hx hb dX8_paintedOr_2 (by decide) ?_
  refine lv_istore_n (lv' := [(3, .int 0), (2, .int 0), (0, .ref (ad 48)), (1, .int p1)]) hx hb dX8_paintedOr_3 rfl hl (by decide) rfl (fun ls hl => ?_)
  have L1 : ∀ (w1 : Nat) (x2_1 : Int32) (x3_1 : Int32), f_X8_paintedOr fu V p1 = f_X8_paintedOr_l1 fu V p1 w1 x2_1 x3_1 → p_X8_paintedOr_l1 fu V p1 w1 x2_1 x3_1 → ∀ (H : Heap) (locs : List Loc), wP D cI cB ad V H → va_S (fun _ => False) s.heap H locs → ∀ (ls : Array Slot), lv_has ls 4 [(0, .ref (ad 48)), (1, .int p1), (2, .int x2_1), (3, .int x3_1)] → W p l e (headSpec wsX8_paintedOr ({ frames := 1, cells := 0, slots := 0, locals := 21 })).room s m ([.ref (ad 48), .int p1] : List Value).toArray below meth c H locs 0 0 (MQ below (cR (f_X8_paintedOr fu V p1)) ([.ref (ad 48), .int p1] : List Value).toArray s 0 0 (fun _ => False)) (F0 m 4 ls []) := by
    intro w1
    induction w1 with
    | zero => intro x2_1 x3_1 hE hp; exact hp.elim
    | succ w1 ih1 =>
      intro x2_1 x3_1 hE hp H locs hP hS ls hl
      rw [f_X8_paintedOr_l1] at hE
      rw [p_X8_paintedOr_l1] at hp
      refine lv_iload_n hx hb dX8_paintedOr_4 rfl (lv_at hl 3 rfl) ?_
      refine lv_aload_n hx hb dX8_paintedOr_5 rfl (lv_at hl 0 rfl) ?_
      refine x_get (ci := 6) (fs := [.ref (ad 49), .ref (ad 50), .ref (ad 51), .int ((V 48) 0), .ref (ad 52), .int ((V 48) 1), .ref (ad 53), .int ((V 48) 2), .int ((V 48) 3), .int ((V 48) 4), .int ((V 48) 5), .int ((V 48) 6), .int ((V 48) 7)]) (q := 48) (v := .ref (ad 49)) (N := 13) hx hb hts (fun _ h => List.mem_cons_of_mem _ (List.mem_append_right _ h)) hown hK hP (by decide) (ce_md ad cI cB (V 48)) rfl 0 (by decide) (hts (.fieldLink RX8 7 "TurnedBoardsModel" "s" "[I") (List.mem_of_getElem? (i := 1) rfl)) rfl rfl dX8_paintedOr_6 ?_
      refine lv_iconst (v := 0) hx hb dX8_paintedOr_9 (by decide) ?_
      refine x_iald hx hb hK hP ⟨by decide, fun _ => rfl, by decide⟩ (vp_lit (i := 0) (n := 49) (by decide) (by decide)) dX8_paintedOr_10 ?_
      refine lv_icmp_ge (tgt := 48) hx hb dX8_paintedOr_11 (by decide) (fun c1 => ?_) (fun c1 => ?_)
      · have hE := hE.trans (if_pos c1)
        refine lv_iload_n hx hb dX8_paintedOr_48 rfl (lv_at hl 2 rfl) ?_
        exact W.iret (v := x2_1) hx hb hr (fun t ht hW => ⟨⟨x2_1, (), rfl, hE.symm, trivial⟩, hS.F ht⟩) hS.2.2 dX8_paintedOr_49
      · have hE := hE.trans (if_neg c1)
        have hp := pc_bn hp c1
        refine lv_iload_n hx hb dX8_paintedOr_14 rfl (lv_at hl 2 rfl) ?_
        refine lv_iload_n hx hb dX8_paintedOr_15 rfl (lv_at hl 1 rfl) ?_
        refine lv_if_eq (tgt := 27) hx hb dX8_paintedOr_16 (by decide) (fun c2 => ?_) (fun c2 => ?_)
        · have hE := hE.trans (if_pos c2)
          have hp := pc_br hp c2
          refine lv_aload_n hx hb dX8_paintedOr_27 rfl (lv_at hl 0 rfl) ?_
          refine lv_iload_n hx hb dX8_paintedOr_28 rfl (lv_at hl 3 rfl) ?_
          obtain ⟨hn1, hp⟩ := hp
          refine k_VR (As := [.int x3_1]) (rest := [.int x2_1]) (q := 48) ⟨hx, hb, hml, hown, hts⟩ hKN hP hS (m_X8_coats l D cI cB ad V x3_1 hn1) (cwV 1 hts gX8_paintedOr_X8_coats rfl rfl rfl (by decide +kernel) ⟨(Nat.le_of_ble_eq_true rfl), (Nat.le_of_ble_eq_true rfl)⟩) (c_preV hP hKN (q := 48) (ci := 6) (fs := [.ref (ad 49), .ref (ad 50), .ref (ad 51), .int ((V 48) 0), .ref (ad 52), .int ((V 48) 1), .ref (ad 53), .int ((V 48) 2), .int ((V 48) 3), .int ((V 48) 4), .int ((V 48) 5), .int ((V 48) 6), .int ((V 48) 7)]) (by decide) (ce_md ad cI cB (V 48)) rfl rfl) rfl hl.1 rfl (Nat.le_of_ble_eq_true rfl) dX8_paintedOr_29 ⟨Nat.zero_le _, Nat.zero_le _⟩ (fun H locs hP hS => ?_)
          refine lv_if_le (tgt := 39) hx hb dX8_paintedOr_32 (by decide) (fun c3 => ?_) (fun c3 => ?_)
          · have hE := hE.trans (if_pos c3)
            have hp := pc_br hp c3
            refine lv_iconst (v := 0) hx hb dX8_paintedOr_39 (by decide) ?_
            refine lv_iadd hx hb dX8_paintedOr_40 ?_
            refine lv_istore_n (lv' := [(2, .int (x2_1 + 0)), (0, .ref (ad 48)), (1, .int p1), (3, .int x3_1)]) hx hb dX8_paintedOr_41 rfl hl (by decide) rfl (fun ls hl => ?_)
            refine lv_iinc (v := (x3_1 + 1)) (lv' := [(3, .int (x3_1 + 1)), (2, .int (x2_1 + 0)), (0, .ref (ad 48)), (1, .int p1)]) hx hb dX8_paintedOr_42 hl (k := 3) rfl (by rfl) (by decide) rfl (fun ls hl => ?_)
            refine lv_goto (tgt := 4) hx hb dX8_paintedOr_45 (by decide) ?_
            exact ih1 (x2_1 + 0) (x3_1 + 1) hE hp H locs hP hS ls (lv_sub hl [2, 3, 1, 0] rfl)
          · have hE := hE.trans (if_neg c3)
            have hp := pc_bn hp c3
            refine lv_iconst (v := 1) hx hb dX8_paintedOr_35 (by decide) ?_
            refine lv_goto (tgt := 40) hx hb dX8_paintedOr_36 (by decide) ?_
            refine lv_iadd hx hb dX8_paintedOr_40 ?_
            refine lv_istore_n (lv' := [(2, .int (x2_1 + 1)), (0, .ref (ad 48)), (1, .int p1), (3, .int x3_1)]) hx hb dX8_paintedOr_41 rfl hl (by decide) rfl (fun ls hl => ?_)
            refine lv_iinc (v := (x3_1 + 1)) (lv' := [(3, .int (x3_1 + 1)), (2, .int (x2_1 + 1)), (0, .ref (ad 48)), (1, .int p1)]) hx hb dX8_paintedOr_42 hl (k := 3) rfl (by rfl) (by decide) rfl (fun ls hl => ?_)
            refine lv_goto (tgt := 4) hx hb dX8_paintedOr_45 (by decide) ?_
            exact ih1 (x2_1 + 1) (x3_1 + 1) hE hp H locs hP hS ls (lv_sub hl [2, 3, 1, 0] rfl)
        · have hE := hE.trans (if_neg c2)
          have hp := pc_bn hp c2
          refine lv_aload_n hx hb dX8_paintedOr_19 rfl (lv_at hl 0 rfl) ?_
          refine lv_iload_n hx hb dX8_paintedOr_20 rfl (lv_at hl 3 rfl) ?_
          obtain ⟨hn2, hp⟩ := hp
          refine k_VR (As := [.int x3_1]) (rest := [.int x2_1]) (q := 48) ⟨hx, hb, hml, hown, hts⟩ hKN hP hS (m_X8_coats l D cI cB ad V x3_1 hn2) (cwV 1 hts gX8_paintedOr_X8_coats rfl rfl rfl (by decide +kernel) ⟨(Nat.le_of_ble_eq_true rfl), (Nat.le_of_ble_eq_true rfl)⟩) (c_preV hP hKN (q := 48) (ci := 6) (fs := [.ref (ad 49), .ref (ad 50), .ref (ad 51), .int ((V 48) 0), .ref (ad 52), .int ((V 48) 1), .ref (ad 53), .int ((V 48) 2), .int ((V 48) 3), .int ((V 48) 4), .int ((V 48) 5), .int ((V 48) 6), .int ((V 48) 7)]) (by decide) (ce_md ad cI cB (V 48)) rfl rfl) rfl hl.1 rfl (Nat.le_of_ble_eq_true rfl) dX8_paintedOr_21 ⟨Nat.zero_le _, Nat.zero_le _⟩ (fun H locs hP hS => ?_)
          refine lv_goto (tgt := 40) hx hb dX8_paintedOr_24 (by decide) ?_
          refine lv_iadd hx hb dX8_paintedOr_40 ?_
          refine lv_istore_n (lv' := [(2, .int (x2_1 + (f_X8_coats V x3_1))), (0, .ref (ad 48)), (1, .int p1), (3, .int x3_1)]) hx hb dX8_paintedOr_41 rfl hl (by decide) rfl (fun ls hl => ?_)
          refine lv_iinc (v := (x3_1 + 1)) (lv' := [(3, .int (x3_1 + 1)), (2, .int (x2_1 + (f_X8_coats V x3_1))), (0, .ref (ad 48)), (1, .int p1)]) hx hb dX8_paintedOr_42 hl (k := 3) rfl (by rfl) (by decide) rfl (fun ls hl => ?_)
          refine lv_goto (tgt := 4) hx hb dX8_paintedOr_45 (by decide) ?_
          exact ih1 (x2_1 + (f_X8_coats V x3_1)) (x3_1 + 1) hE hp H locs hP hS ls (lv_sub hl [2, 3, 1, 0] rfl)
  exact L1 fu 0 0 hE hp _ _ hP hS _ (lv_sub hl [2, 3, 1, 0] rfl)
def f_X8_count (fu : Nat) (V : VT) (p1 : Int32) : Int32 := (if p1 = 0 then (V 49 (0 : Int32).toNatClampNeg) else (if p1 = 1 then (f_X8_drawnSet fu V) else (if p1 = 2 then (V 49 (1 : Int32).toNatClampNeg) else (if p1 = 3 then (V 49 (2 : Int32).toNatClampNeg) else (if p1 = 4 then (V 49 (3 : Int32).toNatClampNeg) else (if p1 = 5 then (V 49 (4 : Int32).toNatClampNeg) else (if p1 = 6 then (f_X8_paintedOr fu V 1) else (if p1 = 7 then (f_X8_paintedOr fu V 0) else (if p1 = 8 then (V 48 1) else (if p1 = 9 then (V 48 2) else (if p1 = 10 then (if (V 48 0) = 0 then 0 else 1) else (if (f_X8_in V p1 20 21) = 0 then (-1001) else (V 49 ((5 + p1) - 20).toNatClampNeg)))))))))))))
def p_X8_count (fu : Nat) (V : VT) (p1 : Int32) : Prop := ((p1 = 0 → True) ∧ (¬ (p1 = 0) → ((p1 = 1 → (p_X8_drawnSet fu V )) ∧ (¬ (p1 = 1) → ((p1 = 2 → True) ∧ (¬ (p1 = 2) → ((p1 = 3 → True) ∧ (¬ (p1 = 3) → ((p1 = 4 → True) ∧ (¬ (p1 = 4) → ((p1 = 5 → True) ∧ (¬ (p1 = 5) → ((p1 = 6 → (p_X8_paintedOr fu V 1)) ∧ (¬ (p1 = 6) → ((p1 = 7 → (p_X8_paintedOr fu V 0)) ∧ (¬ (p1 = 7) → ((p1 = 8 → True) ∧ (¬ (p1 = 8) → ((p1 = 9 → True) ∧ (¬ (p1 = 9) → ((p1 = 10 → True) ∧ (¬ (p1 = 10) → (((f_X8_in V p1 20 21) = 0 → True) ∧ (¬ ((f_X8_in V p1 20 21) = 0) → (vp_in ((5 + p1) - 20) 49)))))))))))))))))))))))))
set_option maxHeartbeats 4000000 in
set_option maxRecDepth 100000 in
theorem m_X8_count (l : Launch) (D : va_G) (cI cB : ClassId) (ad : Nat → Nat) (fu : Nat) (V : VT) (p1 : Int32)  (hp : p_X8_count fu V p1) : Met l yX8_count wsX8_count ({ frames := 2, cells := 0, slots := 0, locals := 44 }) (cP D cI cB ad V [.ref (ad 48), .int p1]) (cR (f_X8_count fu V p1)) 0 0 (fun _ => False) := by
  refine Met.ofW (cc := cX8_count) (maxL := 2) (ret := (some .int)) (by decide +kernel) rfl ?_
  intro p e s m args below meth c s₁ B hml hv
  obtain ⟨rfl, hP, hKN⟩ := hv
  have hK := hKN.1
  have hx := B.exec
  have hb := B.bytes
  have hr := B.returns
  have hts := atoms_spec (ws := wsX8_count) B.pre
  have hown : s.vm.findClass RX8 = some m.cls := findClass_of_methodNamed B.named
  have hlocks := B.notSynchronized
  have hS : va_S (fun _ => False) s.heap s.heap [] := va_S.rf
  have hl := lv_entry ([.ref (ad 48), .int p1]) (n := 2) (Nat.le_of_ble_eq_true rfl)
  rw [lg_entry_eq]
  generalize (lg_sl ([.ref (ad 48), .int p1]) ++ List.replicate (2 - (lg_sl ([.ref (ad 48), .int p1])).length) Slot.unset).toArray = ls at hl ⊢
  have hl : lv_has ls 2 [(0, .ref (ad 48)), (1, .int p1)] := hl
  have hE : f_X8_count fu V p1 = (if p1 = 0 then (V 49 (0 : Int32).toNatClampNeg) else (if p1 = 1 then (f_X8_drawnSet fu V) else (if p1 = 2 then (V 49 (1 : Int32).toNatClampNeg) else (if p1 = 3 then (V 49 (2 : Int32).toNatClampNeg) else (if p1 = 4 then (V 49 (3 : Int32).toNatClampNeg) else (if p1 = 5 then (V 49 (4 : Int32).toNatClampNeg) else (if p1 = 6 then (f_X8_paintedOr fu V 1) else (if p1 = 7 then (f_X8_paintedOr fu V 0) else (if p1 = 8 then (V 48 1) else (if p1 = 9 then (V 48 2) else (if p1 = 10 then (if (V 48 0) = 0 then 0 else 1) else (if (f_X8_in V p1 20 21) = 0 then (-1001) else (V 49 ((5 + p1) - 20).toNatClampNeg))))))))))))) := rfl
  refine lv_iload_n hx hb dX8_count_0 rfl (lv_at hl 1 rfl) ?_
  rcases Decidable.em (p1 = 0) with c1 | c1
  · have hE := hE.trans (if_pos c1)
    refine lv_tableIn (off := 59) (tgt := 60) hx hb dX8_count_1 (by rw [c1]; decide) (by rw [c1]; decide) (by rw [c1]; rfl) (by decide) ?_
    refine lv_aload_n hx hb dX8_count_60 rfl (lv_at hl 0 rfl) ?_
    refine x_get (ci := 6) (fs := [.ref (ad 49), .ref (ad 50), .ref (ad 51), .int ((V 48) 0), .ref (ad 52), .int ((V 48) 1), .ref (ad 53), .int ((V 48) 2), .int ((V 48) 3), .int ((V 48) 4), .int ((V 48) 5), .int ((V 48) 6), .int ((V 48) 7)]) (q := 48) (v := .ref (ad 49)) (N := 13) hx hb hts (fun _ h => List.mem_cons_of_mem _ (List.mem_append_right _ h)) hown hK hP (by decide) (ce_md ad cI cB (V 48)) rfl 0 (by decide) (hts (.fieldLink RX8 7 "TurnedBoardsModel" "s" "[I") (List.mem_of_getElem? (i := 1) rfl)) rfl rfl dX8_count_61 ?_
    refine lv_iconst (v := 0) hx hb dX8_count_64 (by decide) ?_
    refine x_iald hx hb hK hP ⟨by decide, fun _ => rfl, by decide⟩ (vp_lit (i := 0) (n := 49) (by decide) (by decide)) dX8_count_65 ?_
    exact W.iret (v := (V 49 (0 : Int32).toNatClampNeg)) hx hb hr (fun t ht hW => ⟨⟨(V 49 (0 : Int32).toNatClampNeg), (), rfl, hE.symm, trivial⟩, hS.F ht⟩) hS.2.2 dX8_count_66
  · have hE := hE.trans (if_neg c1)
    have hp := pc_bn hp c1
    rcases Decidable.em (p1 = 1) with c2 | c2
    · have hE := hE.trans (if_pos c2)
      have hp := pc_br hp c2
      refine lv_tableIn (off := 66) (tgt := 67) hx hb dX8_count_1 (by rw [c2]; decide) (by rw [c2]; decide) (by rw [c2]; rfl) (by decide) ?_
      refine lv_aload_n hx hb dX8_count_67 rfl (lv_at hl 0 rfl) ?_
      have hn1 := hp
      refine k_VR (As := []) (rest := []) (q := 48) ⟨hx, hb, hml, hown, hts⟩ hKN hP hS (m_X8_drawnSet l D cI cB ad fu V hn1) (cwV 0 hts gX8_count_X8_drawnSet rfl rfl rfl (by decide +kernel) ⟨(Nat.le_of_ble_eq_true rfl), (Nat.le_of_ble_eq_true rfl)⟩) (c_preV hP hKN (q := 48) (ci := 6) (fs := [.ref (ad 49), .ref (ad 50), .ref (ad 51), .int ((V 48) 0), .ref (ad 52), .int ((V 48) 1), .ref (ad 53), .int ((V 48) 2), .int ((V 48) 3), .int ((V 48) 4), .int ((V 48) 5), .int ((V 48) 6), .int ((V 48) 7)]) (by decide) (ce_md ad cI cB (V 48)) rfl rfl) rfl hl.1 rfl (Nat.le_of_ble_eq_true rfl) dX8_count_68 ⟨Nat.zero_le _, Nat.zero_le _⟩ (fun H locs hP hS => ?_)
      exact W.iret (v := (f_X8_drawnSet fu V)) hx hb hr (fun t ht hW => ⟨⟨(f_X8_drawnSet fu V), (), rfl, hE.symm, trivial⟩, hS.F ht⟩) hS.2.2 dX8_count_71
    · have hE := hE.trans (if_neg c2)
      have hp := pc_bn hp c2
      rcases Decidable.em (p1 = 2) with c3 | c3
      · have hE := hE.trans (if_pos c3)
        refine lv_tableIn (off := 71) (tgt := 72) hx hb dX8_count_1 (by rw [c3]; decide) (by rw [c3]; decide) (by rw [c3]; rfl) (by decide) ?_
        refine lv_aload_n hx hb dX8_count_72 rfl (lv_at hl 0 rfl) ?_
        refine x_get (ci := 6) (fs := [.ref (ad 49), .ref (ad 50), .ref (ad 51), .int ((V 48) 0), .ref (ad 52), .int ((V 48) 1), .ref (ad 53), .int ((V 48) 2), .int ((V 48) 3), .int ((V 48) 4), .int ((V 48) 5), .int ((V 48) 6), .int ((V 48) 7)]) (q := 48) (v := .ref (ad 49)) (N := 13) hx hb hts (fun _ h => List.mem_cons_of_mem _ (List.mem_append_right _ h)) hown hK hP (by decide) (ce_md ad cI cB (V 48)) rfl 0 (by decide) (hts (.fieldLink RX8 7 "TurnedBoardsModel" "s" "[I") (List.mem_of_getElem? (i := 1) rfl)) rfl rfl dX8_count_73 ?_
        refine lv_iconst (v := 1) hx hb dX8_count_76 (by decide) ?_
        refine x_iald hx hb hK hP ⟨by decide, fun _ => rfl, by decide⟩ (vp_lit (i := 1) (n := 49) (by decide) (by decide)) dX8_count_77 ?_
        exact W.iret (v := (V 49 (1 : Int32).toNatClampNeg)) hx hb hr (fun t ht hW => ⟨⟨(V 49 (1 : Int32).toNatClampNeg), (), rfl, hE.symm, trivial⟩, hS.F ht⟩) hS.2.2 dX8_count_78
      · have hE := hE.trans (if_neg c3)
        have hp := pc_bn hp c3
        rcases Decidable.em (p1 = 3) with c4 | c4
        · have hE := hE.trans (if_pos c4)
          refine lv_tableIn (off := 78) (tgt := 79) hx hb dX8_count_1 (by rw [c4]; decide) (by rw [c4]; decide) (by rw [c4]; rfl) (by decide) ?_
          refine lv_aload_n hx hb dX8_count_79 rfl (lv_at hl 0 rfl) ?_
          refine x_get (ci := 6) (fs := [.ref (ad 49), .ref (ad 50), .ref (ad 51), .int ((V 48) 0), .ref (ad 52), .int ((V 48) 1), .ref (ad 53), .int ((V 48) 2), .int ((V 48) 3), .int ((V 48) 4), .int ((V 48) 5), .int ((V 48) 6), .int ((V 48) 7)]) (q := 48) (v := .ref (ad 49)) (N := 13) hx hb hts (fun _ h => List.mem_cons_of_mem _ (List.mem_append_right _ h)) hown hK hP (by decide) (ce_md ad cI cB (V 48)) rfl 0 (by decide) (hts (.fieldLink RX8 7 "TurnedBoardsModel" "s" "[I") (List.mem_of_getElem? (i := 1) rfl)) rfl rfl dX8_count_80 ?_
          refine lv_iconst (v := 2) hx hb dX8_count_83 (by decide) ?_
          refine x_iald hx hb hK hP ⟨by decide, fun _ => rfl, by decide⟩ (vp_lit (i := 2) (n := 49) (by decide) (by decide)) dX8_count_84 ?_
          exact W.iret (v := (V 49 (2 : Int32).toNatClampNeg)) hx hb hr (fun t ht hW => ⟨⟨(V 49 (2 : Int32).toNatClampNeg), (), rfl, hE.symm, trivial⟩, hS.F ht⟩) hS.2.2 dX8_count_85
        · have hE := hE.trans (if_neg c4)
          have hp := pc_bn hp c4
          rcases Decidable.em (p1 = 4) with c5 | c5
          · have hE := hE.trans (if_pos c5)
            refine lv_tableIn (off := 85) (tgt := 86) hx hb dX8_count_1 (by rw [c5]; decide) (by rw [c5]; decide) (by rw [c5]; rfl) (by decide) ?_
            refine lv_aload_n hx hb dX8_count_86 rfl (lv_at hl 0 rfl) ?_
            refine x_get (ci := 6) (fs := [.ref (ad 49), .ref (ad 50), .ref (ad 51), .int ((V 48) 0), .ref (ad 52), .int ((V 48) 1), .ref (ad 53), .int ((V 48) 2), .int ((V 48) 3), .int ((V 48) 4), .int ((V 48) 5), .int ((V 48) 6), .int ((V 48) 7)]) (q := 48) (v := .ref (ad 49)) (N := 13) hx hb hts (fun _ h => List.mem_cons_of_mem _ (List.mem_append_right _ h)) hown hK hP (by decide) (ce_md ad cI cB (V 48)) rfl 0 (by decide) (hts (.fieldLink RX8 7 "TurnedBoardsModel" "s" "[I") (List.mem_of_getElem? (i := 1) rfl)) rfl rfl dX8_count_87 ?_
            refine lv_iconst (v := 3) hx hb dX8_count_90 (by decide) ?_
            refine x_iald hx hb hK hP ⟨by decide, fun _ => rfl, by decide⟩ (vp_lit (i := 3) (n := 49) (by decide) (by decide)) dX8_count_91 ?_
            exact W.iret (v := (V 49 (3 : Int32).toNatClampNeg)) hx hb hr (fun t ht hW => ⟨⟨(V 49 (3 : Int32).toNatClampNeg), (), rfl, hE.symm, trivial⟩, hS.F ht⟩) hS.2.2 dX8_count_92
          · have hE := hE.trans (if_neg c5)
            have hp := pc_bn hp c5
            rcases Decidable.em (p1 = 5) with c6 | c6
            · have hE := hE.trans (if_pos c6)
              refine lv_tableIn (off := 92) (tgt := 93) hx hb dX8_count_1 (by rw [c6]; decide) (by rw [c6]; decide) (by rw [c6]; rfl) (by decide) ?_
              refine lv_aload_n hx hb dX8_count_93 rfl (lv_at hl 0 rfl) ?_
              refine x_get (ci := 6) (fs := [.ref (ad 49), .ref (ad 50), .ref (ad 51), .int ((V 48) 0), .ref (ad 52), .int ((V 48) 1), .ref (ad 53), .int ((V 48) 2), .int ((V 48) 3), .int ((V 48) 4), .int ((V 48) 5), .int ((V 48) 6), .int ((V 48) 7)]) (q := 48) (v := .ref (ad 49)) (N := 13) hx hb hts (fun _ h => List.mem_cons_of_mem _ (List.mem_append_right _ h)) hown hK hP (by decide) (ce_md ad cI cB (V 48)) rfl 0 (by decide) (hts (.fieldLink RX8 7 "TurnedBoardsModel" "s" "[I") (List.mem_of_getElem? (i := 1) rfl)) rfl rfl dX8_count_94 ?_
              refine lv_iconst (v := 4) hx hb dX8_count_97 (by decide) ?_
              refine x_iald hx hb hK hP ⟨by decide, fun _ => rfl, by decide⟩ (vp_lit (i := 4) (n := 49) (by decide) (by decide)) dX8_count_98 ?_
              exact W.iret (v := (V 49 (4 : Int32).toNatClampNeg)) hx hb hr (fun t ht hW => ⟨⟨(V 49 (4 : Int32).toNatClampNeg), (), rfl, hE.symm, trivial⟩, hS.F ht⟩) hS.2.2 dX8_count_99
            · have hE := hE.trans (if_neg c6)
              have hp := pc_bn hp c6
              rcases Decidable.em (p1 = 6) with c7 | c7
              · have hE := hE.trans (if_pos c7)
                have hp := pc_br hp c7
                refine lv_tableIn (off := 99) (tgt := 100) hx hb dX8_count_1 (by rw [c7]; decide) (by rw [c7]; decide) (by rw [c7]; rfl) (by decide) ?_
                refine lv_aload_n hx hb dX8_count_100 rfl (lv_at hl 0 rfl) ?_
                refine lv_iconst (v := 1) hx hb dX8_count_101 (by decide) ?_
                have hn2 := hp
                refine k_VR (As := [.int 1]) (rest := []) (q := 48) ⟨hx, hb, hml, hown, hts⟩ hKN hP hS (m_X8_paintedOr l D cI cB ad fu V 1 hn2) (cwV 1 hts gX8_count_X8_paintedOr rfl rfl rfl (by decide +kernel) ⟨(Nat.le_of_ble_eq_true rfl), (Nat.le_of_ble_eq_true rfl)⟩) (c_preV hP hKN (q := 48) (ci := 6) (fs := [.ref (ad 49), .ref (ad 50), .ref (ad 51), .int ((V 48) 0), .ref (ad 52), .int ((V 48) 1), .ref (ad 53), .int ((V 48) 2), .int ((V 48) 3), .int ((V 48) 4), .int ((V 48) 5), .int ((V 48) 6), .int ((V 48) 7)]) (by decide) (ce_md ad cI cB (V 48)) rfl rfl) rfl hl.1 rfl (Nat.le_of_ble_eq_true rfl) dX8_count_102 ⟨Nat.zero_le _, Nat.zero_le _⟩ (fun H locs hP hS => ?_)
                exact W.iret (v := (f_X8_paintedOr fu V 1)) hx hb hr (fun t ht hW => ⟨⟨(f_X8_paintedOr fu V 1), (), rfl, hE.symm, trivial⟩, hS.F ht⟩) hS.2.2 dX8_count_105
              · have hE := hE.trans (if_neg c7)
                have hp := pc_bn hp c7
                rcases Decidable.em (p1 = 7) with c8 | c8
                · have hE := hE.trans (if_pos c8)
                  have hp := pc_br hp c8
                  refine lv_tableIn (off := 105) (tgt := 106) hx hb dX8_count_1 (by rw [c8]; decide) (by rw [c8]; decide) (by rw [c8]; rfl) (by decide) ?_
                  refine lv_aload_n hx hb dX8_count_106 rfl (lv_at hl 0 rfl) ?_
                  refine lv_iconst (v := 0) hx hb dX8_count_107 (by decide) ?_
                  have hn3 := hp
                  refine k_VR (As := [.int 0]) (rest := []) (q := 48) ⟨hx, hb, hml, hown, hts⟩ hKN hP hS (m_X8_paintedOr l D cI cB ad fu V 0 hn3) (cwV 1 hts gX8_count_X8_paintedOr rfl rfl rfl (by decide +kernel) ⟨(Nat.le_of_ble_eq_true rfl), (Nat.le_of_ble_eq_true rfl)⟩) (c_preV hP hKN (q := 48) (ci := 6) (fs := [.ref (ad 49), .ref (ad 50), .ref (ad 51), .int ((V 48) 0), .ref (ad 52), .int ((V 48) 1), .ref (ad 53), .int ((V 48) 2), .int ((V 48) 3), .int ((V 48) 4), .int ((V 48) 5), .int ((V 48) 6), .int ((V 48) 7)]) (by decide) (ce_md ad cI cB (V 48)) rfl rfl) rfl hl.1 rfl (Nat.le_of_ble_eq_true rfl) dX8_count_108 ⟨Nat.zero_le _, Nat.zero_le _⟩ (fun H locs hP hS => ?_)
                  exact W.iret (v := (f_X8_paintedOr fu V 0)) hx hb hr (fun t ht hW => ⟨⟨(f_X8_paintedOr fu V 0), (), rfl, hE.symm, trivial⟩, hS.F ht⟩) hS.2.2 dX8_count_111
                · have hE := hE.trans (if_neg c8)
                  have hp := pc_bn hp c8
                  rcases Decidable.em (p1 = 8) with c9 | c9
                  · have hE := hE.trans (if_pos c9)
                    refine lv_tableIn (off := 111) (tgt := 112) hx hb dX8_count_1 (by rw [c9]; decide) (by rw [c9]; decide) (by rw [c9]; rfl) (by decide) ?_
                    refine lv_aload_n hx hb dX8_count_112 rfl (lv_at hl 0 rfl) ?_
                    refine x_get (ci := 6) (fs := [.ref (ad 49), .ref (ad 50), .ref (ad 51), .int ((V 48) 0), .ref (ad 52), .int ((V 48) 1), .ref (ad 53), .int ((V 48) 2), .int ((V 48) 3), .int ((V 48) 4), .int ((V 48) 5), .int ((V 48) 6), .int ((V 48) 7)]) (q := 48) (v := .int (V 48 1)) (N := 13) hx hb hts (fun _ h => List.mem_cons_of_mem _ (List.mem_append_right _ h)) hown hK hP (by decide) (ce_md ad cI cB (V 48)) rfl 5 (by decide) (hts (.fieldLink RX8 25 "TurnedBoardsModel" "states" "I") (List.mem_of_getElem? (i := 2) rfl)) rfl rfl dX8_count_113 ?_
                    exact W.iret (v := (V 48 1)) hx hb hr (fun t ht hW => ⟨⟨(V 48 1), (), rfl, hE.symm, trivial⟩, hS.F ht⟩) hS.2.2 dX8_count_116
                  · have hE := hE.trans (if_neg c9)
                    have hp := pc_bn hp c9
                    rcases Decidable.em (p1 = 9) with c10 | c10
                    · have hE := hE.trans (if_pos c10)
                      refine lv_tableIn (off := 116) (tgt := 117) hx hb dX8_count_1 (by rw [c10]; decide) (by rw [c10]; decide) (by rw [c10]; rfl) (by decide) ?_
                      refine lv_aload_n hx hb dX8_count_117 rfl (lv_at hl 0 rfl) ?_
                      refine x_get (ci := 6) (fs := [.ref (ad 49), .ref (ad 50), .ref (ad 51), .int ((V 48) 0), .ref (ad 52), .int ((V 48) 1), .ref (ad 53), .int ((V 48) 2), .int ((V 48) 3), .int ((V 48) 4), .int ((V 48) 5), .int ((V 48) 6), .int ((V 48) 7)]) (q := 48) (v := .int (V 48 2)) (N := 13) hx hb hts (fun _ h => List.mem_cons_of_mem _ (List.mem_append_right _ h)) hown hK hP (by decide) (ce_md ad cI cB (V 48)) rfl 7 (by decide) (hts (.fieldLink RX8 122 "TurnedBoardsModel" "length" "I") (List.mem_of_getElem? (i := 3) rfl)) rfl rfl dX8_count_118 ?_
                      exact W.iret (v := (V 48 2)) hx hb hr (fun t ht hW => ⟨⟨(V 48 2), (), rfl, hE.symm, trivial⟩, hS.F ht⟩) hS.2.2 dX8_count_121
                    · have hE := hE.trans (if_neg c10)
                      have hp := pc_bn hp c10
                      rcases Decidable.em (p1 = 10) with c11 | c11
                      · have hE := hE.trans (if_pos c11)
                        refine lv_tableIn (off := 121) (tgt := 122) hx hb dX8_count_1 (by rw [c11]; decide) (by rw [c11]; decide) (by rw [c11]; rfl) (by decide) ?_
                        refine lv_aload_n hx hb dX8_count_122 rfl (lv_at hl 0 rfl) ?_
                        refine x_get (ci := 6) (fs := [.ref (ad 49), .ref (ad 50), .ref (ad 51), .int ((V 48) 0), .ref (ad 52), .int ((V 48) 1), .ref (ad 53), .int ((V 48) 2), .int ((V 48) 3), .int ((V 48) 4), .int ((V 48) 5), .int ((V 48) 6), .int ((V 48) 7)]) (q := 48) (v := .int (V 48 0)) (N := 13) hx hb hts (fun _ h => List.mem_cons_of_mem _ (List.mem_append_right _ h)) hown hK hP (by decide) (ce_md ad cI cB (V 48)) rfl 3 (by decide) (hts (.fieldLink RX8 125 "TurnedBoardsModel" "isKept" "Z") (List.mem_of_getElem? (i := 4) rfl)) rfl rfl dX8_count_123 ?_
                        refine lv_if_eq (tgt := 133) hx hb dX8_count_126 (by decide) (fun c12 => ?_) (fun c12 => ?_)
                        · have hE := hE.trans (if_pos c12)
                          refine lv_iconst (v := 0) hx hb dX8_count_133 (by decide) ?_
                          exact W.iret (v := 0) hx hb hr (fun t ht hW => ⟨⟨0, (), rfl, hE.symm, trivial⟩, hS.F ht⟩) hS.2.2 dX8_count_134
                        · have hE := hE.trans (if_neg c12)
                          refine lv_iconst (v := 1) hx hb dX8_count_129 (by decide) ?_
                          refine lv_goto (tgt := 134) hx hb dX8_count_130 (by decide) ?_
                          exact W.iret (v := 1) hx hb hr (fun t ht hW => ⟨⟨1, (), rfl, hE.symm, trivial⟩, hS.F ht⟩) hS.2.2 dX8_count_134
                      · have hE := hE.trans (if_neg c11)
                        have hp := pc_bn hp c11
                        refine lv_tableOut (tgt := 135) hx hb dX8_count_1 (by have e0 := lv_neT (k := 0) (a := 0) c1 rfl; have e1 := lv_neT (k := 1) (a := 1) c2 rfl; have e2 := lv_neT (k := 2) (a := 2) c3 rfl; have e3 := lv_neT (k := 3) (a := 3) c4 rfl; have e4 := lv_neT (k := 4) (a := 4) c5 rfl; have e5 := lv_neT (k := 5) (a := 5) c6 rfl; have e6 := lv_neT (k := 6) (a := 6) c7 rfl; have e7 := lv_neT (k := 7) (a := 7) c8 rfl; have e8 := lv_neT (k := 8) (a := 8) c9 rfl; have e9 := lv_neT (k := 9) (a := 9) c10 rfl; have e10 := lv_neT (k := 10) (a := 10) c11 rfl; omega) (by decide) ?_
                        refine lv_iload_n hx hb dX8_count_135 rfl (lv_at hl 1 rfl) ?_
                        refine lv_bipush (v := 20) hx hb dX8_count_136 (by decide) ?_
                        refine lv_bipush (v := 21) hx hb dX8_count_138 (by decide) ?_
                        refine k_SR (As := [.int p1, .int 20, .int 21]) (rest := []) ⟨hx, hb, hml, hown, hts⟩ hKN hP hS (m_X8_in l D cI cB ad V p1 20 21) (va_cwS 3 hts gX8_count_X8_in rfl rfl rfl (by decide +kernel) ⟨(Nat.le_of_ble_eq_true rfl), (Nat.le_of_ble_eq_true rfl)⟩) rfl hl.1 rfl (Nat.le_of_ble_eq_true rfl) dX8_count_140 ⟨Nat.zero_le _, Nat.zero_le _⟩ (fun H locs hP hS => ?_)
                        refine lv_if_eq (tgt := 160) hx hb dX8_count_143 (by decide) (fun c13 => ?_) (fun c13 => ?_)
                        · have hE := hE.trans (if_pos c13)
                          refine lv_sipush (v := (-1001)) hx hb dX8_count_160 (by decide) ?_
                          exact W.iret (v := (-1001)) hx hb hr (fun t ht hW => ⟨⟨(-1001), (), rfl, hE.symm, trivial⟩, hS.F ht⟩) hS.2.2 dX8_count_163
                        · have hE := hE.trans (if_neg c13)
                          have hp := pc_bn hp c13
                          refine lv_aload_n hx hb dX8_count_146 rfl (lv_at hl 0 rfl) ?_
                          refine x_get (ci := 6) (fs := [.ref (ad 49), .ref (ad 50), .ref (ad 51), .int ((V 48) 0), .ref (ad 52), .int ((V 48) 1), .ref (ad 53), .int ((V 48) 2), .int ((V 48) 3), .int ((V 48) 4), .int ((V 48) 5), .int ((V 48) 6), .int ((V 48) 7)]) (q := 48) (v := .ref (ad 49)) (N := 13) hx hb hts (fun _ h => List.mem_cons_of_mem _ (List.mem_append_right _ h)) hown hK hP (by decide) (ce_md ad cI cB (V 48)) rfl 0 (by decide) (hts (.fieldLink RX8 7 "TurnedBoardsModel" "s" "[I") (List.mem_of_getElem? (i := 1) rfl)) rfl rfl dX8_count_147 ?_
                          refine lv_iconst (v := 5) hx hb dX8_count_150 (by decide) ?_
                          refine lv_iload_n hx hb dX8_count_151 rfl (lv_at hl 1 rfl) ?_
                          refine lv_iadd hx hb dX8_count_152 ?_
                          refine lv_bipush (v := 20) hx hb dX8_count_153 (by decide) ?_
                          refine lv_isub hx hb dX8_count_155 ?_
                          have hn4 := hp
                          refine x_iald hx hb hK hP ⟨by decide, fun _ => rfl, by decide⟩ hn4 dX8_count_156 ?_
                          refine lv_goto (tgt := 163) hx hb dX8_count_157 (by decide) ?_
                          exact W.iret (v := (V 49 ((5 + p1) - 20).toNatClampNeg)) hx hb hr (fun t ht hW => ⟨⟨(V 49 ((5 + p1) - 20).toNatClampNeg), (), rfl, hE.symm, trivial⟩, hS.F ht⟩) hS.2.2 dX8_count_163
def f_X8_composed (fu : Nat) (V : VT) (p1 : Int32) (p2 : Int32) (p3 : Int32) : Int32 × VT := (if (f_X8_in V p1 0 9) = 0 then ((-1001), V) else (if (f_X8_in V p2 0 9) = 0 then ((-1001), V) else (if (f_X8_in V p3 0 2) = 0 then ((-1001), V) else (if (f_X8_areDrawn V p1 p2) = 0 then ((-1002), V) else (if p3 = 2 then ((f_X8_dark fu V ((f_X8_drawn V p1) ^^^ (f_X8_turned fu V (f_X8_drawn V p2)))), V) else (if p3 = 0 then ((f_X8_orNone ((f_X8_composes fu V p1 p2).2) (((f_X8_composes fu V p1 p2).2) 48 3)), (f_X8_composes fu V p1 p2).2) else ((f_X8_orNone ((f_X8_composes fu V p1 p2).2) (((f_X8_composes fu V p1 p2).2) 48 4)), (f_X8_composes fu V p1 p2).2)))))))
def p_X8_composed (fu : Nat) (V : VT) (p1 : Int32) (p2 : Int32) (p3 : Int32) : Prop := (((f_X8_in V p1 0 9) = 0 → True) ∧ (¬ ((f_X8_in V p1 0 9) = 0) → (((f_X8_in V p2 0 9) = 0 → True) ∧ (¬ ((f_X8_in V p2 0 9) = 0) → (((f_X8_in V p3 0 2) = 0 → True) ∧ (¬ ((f_X8_in V p3 0 2) = 0) → ((p_X8_areDrawn V p1 p2) ∧ (((f_X8_areDrawn V p1 p2) = 0 → True) ∧ (¬ ((f_X8_areDrawn V p1 p2) = 0) → ((p3 = 2 → ((p_X8_drawn V p1) ∧ ((p_X8_drawn V p2) ∧ ((p_X8_turned fu V (f_X8_drawn V p2)) ∧ (p_X8_dark fu V ((f_X8_drawn V p1) ^^^ (f_X8_turned fu V (f_X8_drawn V p2)))))))) ∧ (¬ (p3 = 2) → (p_X8_composes fu V p1 p2))))))))))))
set_option maxHeartbeats 4000000 in
set_option maxRecDepth 100000 in
theorem m_X8_composed (l : Launch) (D : va_G) (cI cB : ClassId) (ad : Nat → Nat) {A : Nat → Prop} (hA : adOk ad A) (fu : Nat) (V : VT) (p1 : Int32) (p2 : Int32) (p3 : Int32)  (hp : p_X8_composed fu V p1 p2 p3) : Met l yX8_composed wsX8_composed ({ frames := 4, cells := 0, slots := 0, locals := 101 }) (cP D cI cB ad V [.ref (ad 48), .int p1, .int p2, .int p3]) (cWi D cI cB ad A (f_X8_composed fu V p1 p2 p3)) 0 0 A := by
  refine Met.ofW (cc := cX8_composed) (maxL := 5) (ret := (some .int)) (by decide +kernel) rfl ?_
  intro p e s m args below meth c s₁ B hml hv
  obtain ⟨rfl, hP, hKN⟩ := hv
  have hK := hKN.1
  have hx := B.exec
  have hb := B.bytes
  have hr := B.returns
  have hts := atoms_spec (ws := wsX8_composed) B.pre
  have hown : s.vm.findClass RX8 = some m.cls := findClass_of_methodNamed B.named
  have hlocks := B.notSynchronized
  have hS : va_S A s.heap s.heap [] := va_S.rf
  have hl := lv_entry ([.ref (ad 48), .int p1, .int p2, .int p3]) (n := 5) (Nat.le_of_ble_eq_true rfl)
  rw [lg_entry_eq]
  generalize (lg_sl ([.ref (ad 48), .int p1, .int p2, .int p3]) ++ List.replicate (5 - (lg_sl ([.ref (ad 48), .int p1, .int p2, .int p3])).length) Slot.unset).toArray = ls at hl ⊢
  have hl : lv_has ls 5 [(0, .ref (ad 48)), (1, .int p1), (2, .int p2), (3, .int p3)] := hl
  have hE : f_X8_composed fu V p1 p2 p3 = (if (f_X8_in V p1 0 9) = 0 then ((-1001), V) else (if (f_X8_in V p2 0 9) = 0 then ((-1001), V) else (if (f_X8_in V p3 0 2) = 0 then ((-1001), V) else (if (f_X8_areDrawn V p1 p2) = 0 then ((-1002), V) else (if p3 = 2 then ((f_X8_dark fu V ((f_X8_drawn V p1) ^^^ (f_X8_turned fu V (f_X8_drawn V p2)))), V) else (if p3 = 0 then ((f_X8_orNone ((f_X8_composes fu V p1 p2).2) (((f_X8_composes fu V p1 p2).2) 48 3)), (f_X8_composes fu V p1 p2).2) else ((f_X8_orNone ((f_X8_composes fu V p1 p2).2) (((f_X8_composes fu V p1 p2).2) 48 4)), (f_X8_composes fu V p1 p2).2))))))) := rfl
  refine lv_iload_n hx hb dX8_composed_0 rfl (lv_at hl 1 rfl) ?_
  refine lv_iconst (v := 0) hx hb dX8_composed_1 (by decide) ?_
  refine lv_bipush (v := 9) hx hb dX8_composed_2 (by decide) ?_
  refine k_SR (As := [.int p1, .int 0, .int 9]) (rest := []) ⟨hx, hb, hml, hown, hts⟩ hKN hP hS (m_X8_in l D cI cB ad V p1 0 9) (va_cwS 3 hts gX8_composed_X8_in rfl rfl rfl (by decide +kernel) ⟨(Nat.le_of_ble_eq_true rfl), (Nat.le_of_ble_eq_true rfl)⟩) rfl hl.1 rfl (Nat.le_of_ble_eq_true rfl) dX8_composed_4 ⟨Nat.zero_le _, Nat.zero_le _⟩ (fun H locs hP hS => ?_)
  refine lv_if_eq (tgt := 29) hx hb dX8_composed_7 (by decide) (fun c1 => ?_) (fun c1 => ?_)
  · have hE := hE.trans (if_pos c1)
    refine lv_sipush (v := (-1001)) hx hb dX8_composed_29 (by decide) ?_
    exact W.iret (v := (-1001)) hx hb hr (fun t ht hW => ⟨⟨(-1001), V, rfl, ⟨(congrArg Prod.fst hE).symm, (congrArg Prod.snd hE).symm⟩, by dsimp only; rw [ht]; exact hP⟩, hS.F ht⟩) hS.2.2 dX8_composed_32
  · have hE := hE.trans (if_neg c1)
    have hp := pc_bn hp c1
    refine lv_iload_n hx hb dX8_composed_10 rfl (lv_at hl 2 rfl) ?_
    refine lv_iconst (v := 0) hx hb dX8_composed_11 (by decide) ?_
    refine lv_bipush (v := 9) hx hb dX8_composed_12 (by decide) ?_
    refine k_SR (As := [.int p2, .int 0, .int 9]) (rest := []) ⟨hx, hb, hml, hown, hts⟩ hKN hP hS (m_X8_in l D cI cB ad V p2 0 9) (va_cwS 3 hts gX8_composed_X8_in rfl rfl rfl (by decide +kernel) ⟨(Nat.le_of_ble_eq_true rfl), (Nat.le_of_ble_eq_true rfl)⟩) rfl hl.1 rfl (Nat.le_of_ble_eq_true rfl) dX8_composed_14 ⟨Nat.zero_le _, Nat.zero_le _⟩ (fun H locs hP hS => ?_)
    refine lv_if_eq (tgt := 29) hx hb dX8_composed_17 (by decide) (fun c2 => ?_) (fun c2 => ?_)
    · have hE := hE.trans (if_pos c2)
      refine lv_sipush (v := (-1001)) hx hb dX8_composed_29 (by decide) ?_
      exact W.iret (v := (-1001)) hx hb hr (fun t ht hW => ⟨⟨(-1001), V, rfl, ⟨(congrArg Prod.fst hE).symm, (congrArg Prod.snd hE).symm⟩, by dsimp only; rw [ht]; exact hP⟩, hS.F ht⟩) hS.2.2 dX8_composed_32
    · have hE := hE.trans (if_neg c2)
      have hp := pc_bn hp c2
      refine lv_iload_n hx hb dX8_composed_20 rfl (lv_at hl 3 rfl) ?_
      refine lv_iconst (v := 0) hx hb dX8_composed_21 (by decide) ?_
      refine lv_iconst (v := 2) hx hb dX8_composed_22 (by decide) ?_
      refine k_SR (As := [.int p3, .int 0, .int 2]) (rest := []) ⟨hx, hb, hml, hown, hts⟩ hKN hP hS (m_X8_in l D cI cB ad V p3 0 2) (va_cwS 3 hts gX8_composed_X8_in rfl rfl rfl (by decide +kernel) ⟨(Nat.le_of_ble_eq_true rfl), (Nat.le_of_ble_eq_true rfl)⟩) rfl hl.1 rfl (Nat.le_of_ble_eq_true rfl) dX8_composed_23 ⟨Nat.zero_le _, Nat.zero_le _⟩ (fun H locs hP hS => ?_)
      refine lv_if_ne (tgt := 33) hx hb dX8_composed_26 (by decide) (fun c3 => ?_) (fun c3 => ?_)
      · have hE := hE.trans (if_neg c3)
        have hp := pc_bn hp c3
        refine lv_aload_n hx hb dX8_composed_33 rfl (lv_at hl 0 rfl) ?_
        refine lv_iload_n hx hb dX8_composed_34 rfl (lv_at hl 1 rfl) ?_
        refine lv_iload_n hx hb dX8_composed_35 rfl (lv_at hl 2 rfl) ?_
        obtain ⟨hn1, hp⟩ := hp
        refine k_VR (As := [.int p1, .int p2]) (rest := []) (q := 48) ⟨hx, hb, hml, hown, hts⟩ hKN hP hS (m_X8_areDrawn l D cI cB ad V p1 p2 hn1) (cwV 2 hts gX8_composed_X8_areDrawn rfl rfl rfl (by decide +kernel) ⟨(Nat.le_of_ble_eq_true rfl), (Nat.le_of_ble_eq_true rfl)⟩) (c_preV hP hKN (q := 48) (ci := 6) (fs := [.ref (ad 49), .ref (ad 50), .ref (ad 51), .int ((V 48) 0), .ref (ad 52), .int ((V 48) 1), .ref (ad 53), .int ((V 48) 2), .int ((V 48) 3), .int ((V 48) 4), .int ((V 48) 5), .int ((V 48) 6), .int ((V 48) 7)]) (by decide) (ce_md ad cI cB (V 48)) rfl rfl) rfl hl.1 rfl (Nat.le_of_ble_eq_true rfl) dX8_composed_36 ⟨Nat.zero_le _, Nat.zero_le _⟩ (fun H locs hP hS => ?_)
        refine lv_if_ne (tgt := 46) hx hb dX8_composed_39 (by decide) (fun c4 => ?_) (fun c4 => ?_)
        · have hE := hE.trans (if_neg c4)
          have hp := pc_bn hp c4
          refine lv_iload_n hx hb dX8_composed_46 rfl (lv_at hl 3 rfl) ?_
          refine lv_iconst (v := 2) hx hb dX8_composed_47 (by decide) ?_
          refine lv_icmp_ne (tgt := 69) hx hb dX8_composed_48 (by decide) (fun c5 => ?_) (fun c5 => ?_)
          · have hE := hE.trans (if_neg c5)
            have hp := pc_bn hp c5
            refine lv_aload_n hx hb dX8_composed_69 rfl (lv_at hl 0 rfl) ?_
            refine lv_iload_n hx hb dX8_composed_70 rfl (lv_at hl 1 rfl) ?_
            refine lv_iload_n hx hb dX8_composed_71 rfl (lv_at hl 2 rfl) ?_
            have hn6 := hp
            refine k_VWi (As := [.int p1, .int p2]) (rest := []) (q := 48) ⟨hx, hb, hml, hown, hts⟩ hKN hP hS (m_X8_composes l D cI cB ad hA fu V p1 p2 hn6) (cwV 2 hts gX8_composed_X8_composes rfl rfl rfl (by decide +kernel) ⟨(Nat.le_of_ble_eq_true rfl), (Nat.le_of_ble_eq_true rfl)⟩) (c_preV hP hKN (q := 48) (ci := 6) (fs := [.ref (ad 49), .ref (ad 50), .ref (ad 51), .int ((V 48) 0), .ref (ad 52), .int ((V 48) 1), .ref (ad 53), .int ((V 48) 2), .int ((V 48) 3), .int ((V 48) 4), .int ((V 48) 5), .int ((V 48) 6), .int ((V 48) 7)]) (by decide) (ce_md ad cI cB (V 48)) rfl rfl) rfl hl.1 rfl (Nat.le_of_ble_eq_true rfl) dX8_composed_72 ⟨Nat.zero_le _, Nat.zero_le _⟩ (fun H locs hP hS => ?_)
            refine lv_istore (lv' := [(4, .int ((f_X8_composes fu V p1 p2).1)), (0, .ref (ad 48)), (1, .int p1), (2, .int p2), (3, .int p3)]) hx hb dX8_composed_75 hl (by decide) rfl (fun ls hl => ?_)
            refine lv_iload_n hx hb dX8_composed_77 rfl (lv_at hl 4 rfl) ?_
            refine lv_if_ne (tgt := 88) hx hb dX8_composed_78 (by decide) (fun c6 => ?_) (fun c6 => ?_)
            · have hE := hE.trans (if_neg c6)
              refine lv_aload_n hx hb dX8_composed_88 rfl (lv_at hl 1 rfl) ?_
              refine x_get (ci := 6) (fs := [.ref (ad 49), .ref (ad 50), .ref (ad 51), .int ((((f_X8_composes fu V p1 p2).2) 48) 0), .ref (ad 52), .int ((((f_X8_composes fu V p1 p2).2) 48) 1), .ref (ad 53), .int ((((f_X8_composes fu V p1 p2).2) 48) 2), .int ((((f_X8_composes fu V p1 p2).2) 48) 3), .int ((((f_X8_composes fu V p1 p2).2) 48) 4), .int ((((f_X8_composes fu V p1 p2).2) 48) 5), .int ((((f_X8_composes fu V p1 p2).2) 48) 6), .int ((((f_X8_composes fu V p1 p2).2) 48) 7)]) (q := 48) (v := .int (((f_X8_composes fu V p1 p2).2) 48 4)) (N := 13) hx hb hts (fun _ h => List.mem_cons_of_mem _ (List.mem_append_right _ h)) hown hK hP (by decide) (ce_md ad cI cB (((f_X8_composes fu V p1 p2).2) 48)) rfl 9 (by decide) (hts (.fieldLink RX8 42 "TurnedBoardsModel" "composedMargin" "I") (List.mem_of_getElem? (i := 2) rfl)) rfl rfl dX8_composed_89 ?_
              refine k_SR (As := [.int (((f_X8_composes fu V p1 p2).2) 48 4)]) (rest := []) ⟨hx, hb, hml, hown, hts⟩ hKN hP hS (m_X8_orNone l D cI cB ad ((f_X8_composes fu V p1 p2).2) (((f_X8_composes fu V p1 p2).2) 48 4)) (va_cwS 1 hts gX8_composed_X8_orNone rfl rfl rfl (by decide +kernel) ⟨(Nat.le_of_ble_eq_true rfl), (Nat.le_of_ble_eq_true rfl)⟩) rfl hl.1 rfl (Nat.le_of_ble_eq_true rfl) dX8_composed_92 ⟨Nat.zero_le _, Nat.zero_le _⟩ (fun H locs hP hS => ?_)
              exact W.iret (v := (f_X8_orNone ((f_X8_composes fu V p1 p2).2) (((f_X8_composes fu V p1 p2).2) 48 4))) hx hb hr (fun t ht hW => ⟨⟨(f_X8_orNone ((f_X8_composes fu V p1 p2).2) (((f_X8_composes fu V p1 p2).2) 48 4)), (f_X8_composes fu V p1 p2).2, rfl, ⟨(congrArg Prod.fst hE).symm, (congrArg Prod.snd hE).symm⟩, by dsimp only; rw [ht]; exact hP⟩, hS.F ht⟩) hS.2.2 dX8_composed_95
            · have hE := hE.trans (if_pos c6)
              refine lv_aload_n hx hb dX8_composed_81 rfl (lv_at hl 1 rfl) ?_
              refine x_get (ci := 6) (fs := [.ref (ad 49), .ref (ad 50), .ref (ad 51), .int ((((f_X8_composes fu V p1 p2).2) 48) 0), .ref (ad 52), .int ((((f_X8_composes fu V p1 p2).2) 48) 1), .ref (ad 53), .int ((((f_X8_composes fu V p1 p2).2) 48) 2), .int ((((f_X8_composes fu V p1 p2).2) 48) 3), .int ((((f_X8_composes fu V p1 p2).2) 48) 4), .int ((((f_X8_composes fu V p1 p2).2) 48) 5), .int ((((f_X8_composes fu V p1 p2).2) 48) 6), .int ((((f_X8_composes fu V p1 p2).2) 48) 7)]) (q := 48) (v := .int (((f_X8_composes fu V p1 p2).2) 48 3)) (N := 13) hx hb hts (fun _ h => List.mem_cons_of_mem _ (List.mem_append_right _ h)) hown hK hP (by decide) (ce_md ad cI cB (((f_X8_composes fu V p1 p2).2) 48)) rfl 8 (by decide) (hts (.fieldLink RX8 39 "TurnedBoardsModel" "composedSign" "I") (List.mem_of_getElem? (i := 1) rfl)) rfl rfl dX8_composed_82 ?_
              refine lv_goto (tgt := 92) hx hb dX8_composed_85 (by decide) ?_
              refine k_SR (As := [.int (((f_X8_composes fu V p1 p2).2) 48 3)]) (rest := []) ⟨hx, hb, hml, hown, hts⟩ hKN hP hS (m_X8_orNone l D cI cB ad ((f_X8_composes fu V p1 p2).2) (((f_X8_composes fu V p1 p2).2) 48 3)) (va_cwS 1 hts gX8_composed_X8_orNone rfl rfl rfl (by decide +kernel) ⟨(Nat.le_of_ble_eq_true rfl), (Nat.le_of_ble_eq_true rfl)⟩) rfl hl.1 rfl (Nat.le_of_ble_eq_true rfl) dX8_composed_92 ⟨Nat.zero_le _, Nat.zero_le _⟩ (fun H locs hP hS => ?_)
              exact W.iret (v := (f_X8_orNone ((f_X8_composes fu V p1 p2).2) (((f_X8_composes fu V p1 p2).2) 48 3))) hx hb hr (fun t ht hW => ⟨⟨(f_X8_orNone ((f_X8_composes fu V p1 p2).2) (((f_X8_composes fu V p1 p2).2) 48 3)), (f_X8_composes fu V p1 p2).2, rfl, ⟨(congrArg Prod.fst hE).symm, (congrArg Prod.snd hE).symm⟩, by dsimp only; rw [ht]; exact hP⟩, hS.F ht⟩) hS.2.2 dX8_composed_95
          · have hE := hE.trans (if_pos c5)
            have hp := pc_br hp c5
            refine lv_aload_n hx hb dX8_composed_51 rfl (lv_at hl 0 rfl) ?_
            refine lv_iload_n hx hb dX8_composed_52 rfl (lv_at hl 1 rfl) ?_
            obtain ⟨hn2, hp⟩ := hp
            refine k_VR (As := [.int p1]) (rest := []) (q := 48) ⟨hx, hb, hml, hown, hts⟩ hKN hP hS (m_X8_drawn l D cI cB ad V p1 hn2) (cwV 1 hts gX8_composed_X8_drawn rfl rfl rfl (by decide +kernel) ⟨(Nat.le_of_ble_eq_true rfl), (Nat.le_of_ble_eq_true rfl)⟩) (c_preV hP hKN (q := 48) (ci := 6) (fs := [.ref (ad 49), .ref (ad 50), .ref (ad 51), .int ((V 48) 0), .ref (ad 52), .int ((V 48) 1), .ref (ad 53), .int ((V 48) 2), .int ((V 48) 3), .int ((V 48) 4), .int ((V 48) 5), .int ((V 48) 6), .int ((V 48) 7)]) (by decide) (ce_md ad cI cB (V 48)) rfl rfl) rfl hl.1 rfl (Nat.le_of_ble_eq_true rfl) dX8_composed_53 ⟨Nat.zero_le _, Nat.zero_le _⟩ (fun H locs hP hS => ?_)
            refine lv_aload_n hx hb dX8_composed_56 rfl (lv_at hl 0 rfl) ?_
            refine lv_iload_n hx hb dX8_composed_57 rfl (lv_at hl 2 rfl) ?_
            obtain ⟨hn3, hp⟩ := hp
            refine k_VR (As := [.int p2]) (rest := [.int (f_X8_drawn V p1)]) (q := 48) ⟨hx, hb, hml, hown, hts⟩ hKN hP hS (m_X8_drawn l D cI cB ad V p2 hn3) (cwV 1 hts gX8_composed_X8_drawn rfl rfl rfl (by decide +kernel) ⟨(Nat.le_of_ble_eq_true rfl), (Nat.le_of_ble_eq_true rfl)⟩) (c_preV hP hKN (q := 48) (ci := 6) (fs := [.ref (ad 49), .ref (ad 50), .ref (ad 51), .int ((V 48) 0), .ref (ad 52), .int ((V 48) 1), .ref (ad 53), .int ((V 48) 2), .int ((V 48) 3), .int ((V 48) 4), .int ((V 48) 5), .int ((V 48) 6), .int ((V 48) 7)]) (by decide) (ce_md ad cI cB (V 48)) rfl rfl) rfl hl.1 rfl (Nat.le_of_ble_eq_true rfl) dX8_composed_58 ⟨Nat.zero_le _, Nat.zero_le _⟩ (fun H locs hP hS => ?_)
            obtain ⟨hn4, hp⟩ := hp
            refine k_SR (As := [.int (f_X8_drawn V p2)]) (rest := [.int (f_X8_drawn V p1)]) ⟨hx, hb, hml, hown, hts⟩ hKN hP hS (m_X8_turned l D cI cB ad fu V (f_X8_drawn V p2) hn4) (va_cwS 1 hts gX8_composed_X8_turned rfl rfl rfl (by decide +kernel) ⟨(Nat.le_of_ble_eq_true rfl), (Nat.le_of_ble_eq_true rfl)⟩) rfl hl.1 rfl (Nat.le_of_ble_eq_true rfl) dX8_composed_61 ⟨Nat.zero_le _, Nat.zero_le _⟩ (fun H locs hP hS => ?_)
            refine lv_ixor hx hb dX8_composed_64 ?_
            have hn5 := hp
            refine k_SR (As := [.int ((f_X8_drawn V p1) ^^^ (f_X8_turned fu V (f_X8_drawn V p2)))]) (rest := []) ⟨hx, hb, hml, hown, hts⟩ hKN hP hS (m_X8_dark l D cI cB ad fu V ((f_X8_drawn V p1) ^^^ (f_X8_turned fu V (f_X8_drawn V p2))) hn5) (va_cwS 1 hts gX8_composed_X8_dark rfl rfl rfl (by decide +kernel) ⟨(Nat.le_of_ble_eq_true rfl), (Nat.le_of_ble_eq_true rfl)⟩) rfl hl.1 rfl (Nat.le_of_ble_eq_true rfl) dX8_composed_65 ⟨Nat.zero_le _, Nat.zero_le _⟩ (fun H locs hP hS => ?_)
            exact W.iret (v := (f_X8_dark fu V ((f_X8_drawn V p1) ^^^ (f_X8_turned fu V (f_X8_drawn V p2))))) hx hb hr (fun t ht hW => ⟨⟨(f_X8_dark fu V ((f_X8_drawn V p1) ^^^ (f_X8_turned fu V (f_X8_drawn V p2)))), V, rfl, ⟨(congrArg Prod.fst hE).symm, (congrArg Prod.snd hE).symm⟩, by dsimp only; rw [ht]; exact hP⟩, hS.F ht⟩) hS.2.2 dX8_composed_68
        · have hE := hE.trans (if_pos c4)
          refine lv_sipush (v := (-1002)) hx hb dX8_composed_42 (by decide) ?_
          exact W.iret (v := (-1002)) hx hb hr (fun t ht hW => ⟨⟨(-1002), V, rfl, ⟨(congrArg Prod.fst hE).symm, (congrArg Prod.snd hE).symm⟩, by dsimp only; rw [ht]; exact hP⟩, hS.F ht⟩) hS.2.2 dX8_composed_45
      · have hE := hE.trans (if_pos c3)
        refine lv_sipush (v := (-1001)) hx hb dX8_composed_29 (by decide) ?_
        exact W.iret (v := (-1001)) hx hb hr (fun t ht hW => ⟨⟨(-1001), V, rfl, ⟨(congrArg Prod.fst hE).symm, (congrArg Prod.snd hE).symm⟩, by dsimp only; rw [ht]; exact hP⟩, hS.F ht⟩) hS.2.2 dX8_composed_32
def f_X8_goesWith_l1 (fu : Nat) (p1 : Int32) : Nat → VT → Int32 → Int32 → Int32 → Int32 × VT
  | 0, V1, x2_1, x3_1, x4_1 => (0, V1)
  | w1 + 1, V1, x2_1, x3_1, x4_1 => (if 10 ≤ x4_1 then ((f_X8_orNone V1 x2_1), V1) else (if (f_X8_drawn V1 x4_1) < 0 then (f_X8_goesWith_l1 fu p1 w1 V1 x2_1 x3_1 (x4_1 + 1)) else (if ((f_X8_composes fu V1 p1 x4_1).1) = 0 then (f_X8_goesWith_l1 fu p1 w1 ((f_X8_composes fu V1 p1 x4_1).2) x2_1 x3_1 (x4_1 + 1)) else (if (((f_X8_composes fu V1 p1 x4_1).2) 48 4) ≤ x3_1 then (f_X8_goesWith_l1 fu p1 w1 ((f_X8_composes fu V1 p1 x4_1).2) x2_1 x3_1 (x4_1 + 1)) else (f_X8_goesWith_l1 fu p1 w1 ((f_X8_composes fu V1 p1 x4_1).2) x4_1 (((f_X8_composes fu V1 p1 x4_1).2) 48 4) (x4_1 + 1))))))
def p_X8_goesWith_l1 (fu : Nat) (p1 : Int32) : Nat → VT → Int32 → Int32 → Int32 → Prop
  | 0, _, _, _, _ => False
  | w1 + 1, V1, x2_1, x3_1, x4_1 => ((10 ≤ x4_1 → True) ∧ (¬ (10 ≤ x4_1) → ((p_X8_drawn V1 x4_1) ∧ (((f_X8_drawn V1 x4_1) < 0 → (p_X8_goesWith_l1 fu p1 w1 V1 x2_1 x3_1 (x4_1 + 1))) ∧ (¬ ((f_X8_drawn V1 x4_1) < 0) → ((p_X8_composes fu V1 p1 x4_1) ∧ ((((f_X8_composes fu V1 p1 x4_1).1) = 0 → (p_X8_goesWith_l1 fu p1 w1 ((f_X8_composes fu V1 p1 x4_1).2) x2_1 x3_1 (x4_1 + 1))) ∧ (¬ (((f_X8_composes fu V1 p1 x4_1).1) = 0) → (((((f_X8_composes fu V1 p1 x4_1).2) 48 4) ≤ x3_1 → (p_X8_goesWith_l1 fu p1 w1 ((f_X8_composes fu V1 p1 x4_1).2) x2_1 x3_1 (x4_1 + 1))) ∧ (¬ ((((f_X8_composes fu V1 p1 x4_1).2) 48 4) ≤ x3_1) → (p_X8_goesWith_l1 fu p1 w1 ((f_X8_composes fu V1 p1 x4_1).2) x4_1 (((f_X8_composes fu V1 p1 x4_1).2) 48 4) (x4_1 + 1))))))))))))
def f_X8_goesWith (fu : Nat) (V : VT) (p1 : Int32) : Int32 × VT := (if (f_X8_in V p1 0 9) = 0 then ((-1001), V) else (if 0 ≤ (f_X8_drawn V p1) then (f_X8_goesWith_l1 fu p1 fu V (-1) (-1) 0) else ((-1002), V)))
def p_X8_goesWith (fu : Nat) (V : VT) (p1 : Int32) : Prop := (((f_X8_in V p1 0 9) = 0 → True) ∧ (¬ ((f_X8_in V p1 0 9) = 0) → ((p_X8_drawn V p1) ∧ ((0 ≤ (f_X8_drawn V p1) → (p_X8_goesWith_l1 fu p1 fu V (-1) (-1) 0)) ∧ (¬ (0 ≤ (f_X8_drawn V p1)) → True)))))
set_option maxHeartbeats 4000000 in
set_option maxRecDepth 100000 in
theorem m_X8_goesWith (l : Launch) (D : va_G) (cI cB : ClassId) (ad : Nat → Nat) {A : Nat → Prop} (hA : adOk ad A) (fu : Nat) (V : VT) (p1 : Int32)  (hp : p_X8_goesWith fu V p1) : Met l yX8_goesWith wsX8_goesWith ({ frames := 4, cells := 0, slots := 0, locals := 101 }) (cP D cI cB ad V [.ref (ad 48), .int p1]) (cWi D cI cB ad A (f_X8_goesWith fu V p1)) 0 0 A := by
  refine Met.ofW (cc := cX8_goesWith) (maxL := 5) (ret := (some .int)) (by decide +kernel) rfl ?_
  intro p e s m args below meth c s₁ B hml hv
  obtain ⟨rfl, hP, hKN⟩ := hv
  have hK := hKN.1
  have hx := B.exec
  have hb := B.bytes
  have hr := B.returns
  have hts := atoms_spec (ws := wsX8_goesWith) B.pre
  have hown : s.vm.findClass RX8 = some m.cls := findClass_of_methodNamed B.named
  have hlocks := B.notSynchronized
  have hS : va_S A s.heap s.heap [] := va_S.rf
  have hl := lv_entry ([.ref (ad 48), .int p1]) (n := 5) (Nat.le_of_ble_eq_true rfl)
  rw [lg_entry_eq]
  generalize (lg_sl ([.ref (ad 48), .int p1]) ++ List.replicate (5 - (lg_sl ([.ref (ad 48), .int p1])).length) Slot.unset).toArray = ls at hl ⊢
  have hl : lv_has ls 5 [(0, .ref (ad 48)), (1, .int p1)] := hl
  have hE : f_X8_goesWith fu V p1 = (if (f_X8_in V p1 0 9) = 0 then ((-1001), V) else (if 0 ≤ (f_X8_drawn V p1) then (f_X8_goesWith_l1 fu p1 fu V (-1) (-1) 0) else ((-1002), V))) := rfl
  refine lv_iload_n hx hb dX8_goesWith_0 rfl (lv_at hl 1 rfl) ?_
  refine lv_iconst (v := 0) hx hb dX8_goesWith_1 (by decide) ?_
  refine lv_bipush (v := 9) hx hb dX8_goesWith_2 (by decide) ?_
  refine k_SR (As := [.int p1, .int 0, .int 9]) (rest := []) ⟨hx, hb, hml, hown, hts⟩ hKN hP hS (m_X8_in l D cI cB ad V p1 0 9) (va_cwS 3 hts gX8_goesWith_X8_in rfl rfl rfl (by decide +kernel) ⟨(Nat.le_of_ble_eq_true rfl), (Nat.le_of_ble_eq_true rfl)⟩) rfl hl.1 rfl (Nat.le_of_ble_eq_true rfl) dX8_goesWith_4 ⟨Nat.zero_le _, Nat.zero_le _⟩ (fun H locs hP hS => ?_)
  refine lv_if_ne (tgt := 14) hx hb dX8_goesWith_7 (by decide) (fun c1 => ?_) (fun c1 => ?_)
  · have hE := hE.trans (if_neg c1)
    have hp := pc_bn hp c1
    refine lv_aload_n hx hb dX8_goesWith_14 rfl (lv_at hl 0 rfl) ?_
    refine lv_iload_n hx hb dX8_goesWith_15 rfl (lv_at hl 1 rfl) ?_
    obtain ⟨hn1, hp⟩ := hp
    refine k_VR (As := [.int p1]) (rest := []) (q := 48) ⟨hx, hb, hml, hown, hts⟩ hKN hP hS (m_X8_drawn l D cI cB ad V p1 hn1) (cwV 1 hts gX8_goesWith_X8_drawn rfl rfl rfl (by decide +kernel) ⟨(Nat.le_of_ble_eq_true rfl), (Nat.le_of_ble_eq_true rfl)⟩) (c_preV hP hKN (q := 48) (ci := 6) (fs := [.ref (ad 49), .ref (ad 50), .ref (ad 51), .int ((V 48) 0), .ref (ad 52), .int ((V 48) 1), .ref (ad 53), .int ((V 48) 2), .int ((V 48) 3), .int ((V 48) 4), .int ((V 48) 5), .int ((V 48) 6), .int ((V 48) 7)]) (by decide) (ce_md ad cI cB (V 48)) rfl rfl) rfl hl.1 rfl (Nat.le_of_ble_eq_true rfl) dX8_goesWith_16 ⟨Nat.zero_le _, Nat.zero_le _⟩ (fun H locs hP hS => ?_)
    refine lv_if_ge (tgt := 26) hx hb dX8_goesWith_19 (by decide) (fun c2 => ?_) (fun c2 => ?_)
    · have hE := hE.trans (if_pos c2)
      have hp := pc_br hp c2
      refine lv_iconst (v := (-1)) hx hb dX8_goesWith_26 (by decide) ?_
      refine lv_istore_n (lv' := [(2, .int (-1)), (0, .ref (ad 48)), (1, .int p1)]) hx hb dX8_goesWith_27 rfl hl (by decide) rfl (fun ls hl => ?_)
      refine lv_iconst (v := (-1)) hx hb dX8_goesWith_28 (by decide) ?_
      refine lv_istore_n (lv' := [(3, .int (-1)), (2, .int (-1)), (0, .ref (ad 48)), (1, .int p1)]) hx hb dX8_goesWith_29 rfl hl (by decide) rfl (fun ls hl => ?_)
      refine lv_iconst (v := 0) hx hb dX8_goesWith_30 (by decide) ?_
      refine lv_istore (lv' := [(4, .int 0), (3, .int (-1)), (2, .int (-1)), (0, .ref (ad 48)), (1, .int p1)]) hx hb dX8_goesWith_31 hl (by decide) rfl (fun ls hl => ?_)
      have L1 : ∀ (w1 : Nat) (V1 : VT) (x2_1 : Int32) (x3_1 : Int32) (x4_1 : Int32), f_X8_goesWith fu V p1 = f_X8_goesWith_l1 fu p1 w1 V1 x2_1 x3_1 x4_1 → p_X8_goesWith_l1 fu p1 w1 V1 x2_1 x3_1 x4_1 → ∀ (H : Heap) (locs : List Loc), wP D cI cB ad V1 H → va_S A s.heap H locs → ∀ (ls : Array Slot), lv_has ls 5 [(0, .ref (ad 48)), (1, .int p1), (2, .int x2_1), (3, .int x3_1), (4, .int x4_1)] → W p l e (headSpec wsX8_goesWith ({ frames := 4, cells := 0, slots := 0, locals := 101 })).room s m ([.ref (ad 48), .int p1] : List Value).toArray below meth c H locs 0 0 (MQ below (cWi D cI cB ad A (f_X8_goesWith fu V p1)) ([.ref (ad 48), .int p1] : List Value).toArray s 0 0 A) (F0 m 33 ls []) := by
        intro w1
        induction w1 with
        | zero => intro V1 x2_1 x3_1 x4_1 hE hp; exact hp.elim
        | succ w1 ih1 =>
          intro V1 x2_1 x3_1 x4_1 hE hp H locs hP hS ls hl
          rw [f_X8_goesWith_l1] at hE
          rw [p_X8_goesWith_l1] at hp
          refine lv_iload hx hb dX8_goesWith_33 (lv_at hl 4 rfl) ?_
          refine lv_bipush (v := 10) hx hb dX8_goesWith_35 (by decide) ?_
          refine lv_icmp_ge (tgt := 81) hx hb dX8_goesWith_37 (by decide) (fun c3 => ?_) (fun c3 => ?_)
          · have hE := hE.trans (if_pos c3)
            refine lv_iload_n hx hb dX8_goesWith_81 rfl (lv_at hl 2 rfl) ?_
            refine k_SR (As := [.int x2_1]) (rest := []) ⟨hx, hb, hml, hown, hts⟩ hKN hP hS (m_X8_orNone l D cI cB ad V1 x2_1) (va_cwS 1 hts gX8_goesWith_X8_orNone rfl rfl rfl (by decide +kernel) ⟨(Nat.le_of_ble_eq_true rfl), (Nat.le_of_ble_eq_true rfl)⟩) rfl hl.1 rfl (Nat.le_of_ble_eq_true rfl) dX8_goesWith_82 ⟨Nat.zero_le _, Nat.zero_le _⟩ (fun H locs hP hS => ?_)
            exact W.iret (v := (f_X8_orNone V1 x2_1)) hx hb hr (fun t ht hW => ⟨⟨(f_X8_orNone V1 x2_1), V1, rfl, ⟨(congrArg Prod.fst hE).symm, (congrArg Prod.snd hE).symm⟩, by dsimp only; rw [ht]; exact hP⟩, hS.F ht⟩) hS.2.2 dX8_goesWith_85
          · have hE := hE.trans (if_neg c3)
            have hp := pc_bn hp c3
            refine lv_aload_n hx hb dX8_goesWith_40 rfl (lv_at hl 0 rfl) ?_
            refine lv_iload hx hb dX8_goesWith_41 (lv_at hl 4 rfl) ?_
            obtain ⟨hn2, hp⟩ := hp
            refine k_VR (As := [.int x4_1]) (rest := []) (q := 48) ⟨hx, hb, hml, hown, hts⟩ hKN hP hS (m_X8_drawn l D cI cB ad V1 x4_1 hn2) (cwV 1 hts gX8_goesWith_X8_drawn rfl rfl rfl (by decide +kernel) ⟨(Nat.le_of_ble_eq_true rfl), (Nat.le_of_ble_eq_true rfl)⟩) (c_preV hP hKN (q := 48) (ci := 6) (fs := [.ref (ad 49), .ref (ad 50), .ref (ad 51), .int ((V1 48) 0), .ref (ad 52), .int ((V1 48) 1), .ref (ad 53), .int ((V1 48) 2), .int ((V1 48) 3), .int ((V1 48) 4), .int ((V1 48) 5), .int ((V1 48) 6), .int ((V1 48) 7)]) (by decide) (ce_md ad cI cB (V1 48)) rfl rfl) rfl hl.1 rfl (Nat.le_of_ble_eq_true rfl) dX8_goesWith_43 ⟨Nat.zero_le _, Nat.zero_le _⟩ (fun H locs hP hS => ?_)
            refine lv_if_lt (tgt := 75) hx hb dX8_goesWith_46 (by decide) (fun c4 => ?_) (fun c4 => ?_)
            · have hE := hE.trans (if_pos c4)
              have hp := pc_br hp c4
              refine lv_iinc (v := (x4_1 + 1)) (lv' := [(4, .int (x4_1 + 1)), (0, .ref (ad 48)), (1, .int p1), (2, .int x2_1), (3, .int x3_1)]) hx hb dX8_goesWith_75 hl (k := 4) rfl (by rfl) (by decide) rfl (fun ls hl => ?_)
              refine lv_goto (tgt := 33) hx hb dX8_goesWith_78 (by decide) ?_
              exact ih1 V1 x2_1 x3_1 (x4_1 + 1) hE hp H locs hP hS ls (lv_sub hl [1, 2, 3, 4, 0] rfl)
            · have hE := hE.trans (if_neg c4)
              have hp := pc_bn hp c4
              refine lv_aload_n hx hb dX8_goesWith_49 rfl (lv_at hl 0 rfl) ?_
              refine lv_iload_n hx hb dX8_goesWith_50 rfl (lv_at hl 1 rfl) ?_
              refine lv_iload hx hb dX8_goesWith_51 (lv_at hl 4 rfl) ?_
              obtain ⟨hn3, hp⟩ := hp
              refine k_VWi (As := [.int p1, .int x4_1]) (rest := []) (q := 48) ⟨hx, hb, hml, hown, hts⟩ hKN hP hS (m_X8_composes l D cI cB ad hA fu V1 p1 x4_1 hn3) (cwV 2 hts gX8_goesWith_X8_composes rfl rfl rfl (by decide +kernel) ⟨(Nat.le_of_ble_eq_true rfl), (Nat.le_of_ble_eq_true rfl)⟩) (c_preV hP hKN (q := 48) (ci := 6) (fs := [.ref (ad 49), .ref (ad 50), .ref (ad 51), .int ((V1 48) 0), .ref (ad 52), .int ((V1 48) 1), .ref (ad 53), .int ((V1 48) 2), .int ((V1 48) 3), .int ((V1 48) 4), .int ((V1 48) 5), .int ((V1 48) 6), .int ((V1 48) 7)]) (by decide) (ce_md ad cI cB (V1 48)) rfl rfl) rfl hl.1 rfl (Nat.le_of_ble_eq_true rfl) dX8_goesWith_53 ⟨Nat.zero_le _, Nat.zero_le _⟩ (fun H locs hP hS => ?_)
              refine lv_if_eq (tgt := 75) hx hb dX8_goesWith_56 (by decide) (fun c5 => ?_) (fun c5 => ?_)
              · have hE := hE.trans (if_pos c5)
                have hp := pc_br hp c5
                refine lv_iinc (v := (x4_1 + 1)) (lv' := [(4, .int (x4_1 + 1)), (0, .ref (ad 48)), (1, .int p1), (2, .int x2_1), (3, .int x3_1)]) hx hb dX8_goesWith_75 hl (k := 4) rfl (by rfl) (by decide) rfl (fun ls hl => ?_)
                refine lv_goto (tgt := 33) hx hb dX8_goesWith_78 (by decide) ?_
                exact ih1 ((f_X8_composes fu V1 p1 x4_1).2) x2_1 x3_1 (x4_1 + 1) hE hp H locs hP hS ls (lv_sub hl [1, 2, 3, 4, 0] rfl)
              · have hE := hE.trans (if_neg c5)
                have hp := pc_bn hp c5
                refine lv_aload_n hx hb dX8_goesWith_59 rfl (lv_at hl 0 rfl) ?_
                refine x_get (ci := 6) (fs := [.ref (ad 49), .ref (ad 50), .ref (ad 51), .int ((((f_X8_composes fu V1 p1 x4_1).2) 48) 0), .ref (ad 52), .int ((((f_X8_composes fu V1 p1 x4_1).2) 48) 1), .ref (ad 53), .int ((((f_X8_composes fu V1 p1 x4_1).2) 48) 2), .int ((((f_X8_composes fu V1 p1 x4_1).2) 48) 3), .int ((((f_X8_composes fu V1 p1 x4_1).2) 48) 4), .int ((((f_X8_composes fu V1 p1 x4_1).2) 48) 5), .int ((((f_X8_composes fu V1 p1 x4_1).2) 48) 6), .int ((((f_X8_composes fu V1 p1 x4_1).2) 48) 7)]) (q := 48) (v := .int (((f_X8_composes fu V1 p1 x4_1).2) 48 4)) (N := 13) hx hb hts (fun _ h => List.mem_cons_of_mem _ (List.mem_append_right _ h)) hown hK hP (by decide) (ce_md ad cI cB (((f_X8_composes fu V1 p1 x4_1).2) 48)) rfl 9 (by decide) (hts (.fieldLink RX8 42 "TurnedBoardsModel" "composedMargin" "I") (List.mem_of_getElem? (i := 1) rfl)) rfl rfl dX8_goesWith_60 ?_
                refine lv_iload_n hx hb dX8_goesWith_63 rfl (lv_at hl 3 rfl) ?_
                refine lv_icmp_le (tgt := 75) hx hb dX8_goesWith_64 (by decide) (fun c6 => ?_) (fun c6 => ?_)
                · have hE := hE.trans (if_pos c6)
                  have hp := pc_br hp c6
                  refine lv_iinc (v := (x4_1 + 1)) (lv' := [(4, .int (x4_1 + 1)), (0, .ref (ad 48)), (1, .int p1), (2, .int x2_1), (3, .int x3_1)]) hx hb dX8_goesWith_75 hl (k := 4) rfl (by rfl) (by decide) rfl (fun ls hl => ?_)
                  refine lv_goto (tgt := 33) hx hb dX8_goesWith_78 (by decide) ?_
                  exact ih1 ((f_X8_composes fu V1 p1 x4_1).2) x2_1 x3_1 (x4_1 + 1) hE hp H locs hP hS ls (lv_sub hl [1, 2, 3, 4, 0] rfl)
                · have hE := hE.trans (if_neg c6)
                  have hp := pc_bn hp c6
                  refine lv_iload hx hb dX8_goesWith_67 (lv_at hl 4 rfl) ?_
                  refine lv_istore_n (lv' := [(2, .int x4_1), (0, .ref (ad 48)), (1, .int p1), (3, .int x3_1), (4, .int x4_1)]) hx hb dX8_goesWith_69 rfl hl (by decide) rfl (fun ls hl => ?_)
                  refine lv_aload_n hx hb dX8_goesWith_70 rfl (lv_at hl 1 rfl) ?_
                  refine x_get (ci := 6) (fs := [.ref (ad 49), .ref (ad 50), .ref (ad 51), .int ((((f_X8_composes fu V1 p1 x4_1).2) 48) 0), .ref (ad 52), .int ((((f_X8_composes fu V1 p1 x4_1).2) 48) 1), .ref (ad 53), .int ((((f_X8_composes fu V1 p1 x4_1).2) 48) 2), .int ((((f_X8_composes fu V1 p1 x4_1).2) 48) 3), .int ((((f_X8_composes fu V1 p1 x4_1).2) 48) 4), .int ((((f_X8_composes fu V1 p1 x4_1).2) 48) 5), .int ((((f_X8_composes fu V1 p1 x4_1).2) 48) 6), .int ((((f_X8_composes fu V1 p1 x4_1).2) 48) 7)]) (q := 48) (v := .int (((f_X8_composes fu V1 p1 x4_1).2) 48 4)) (N := 13) hx hb hts (fun _ h => List.mem_cons_of_mem _ (List.mem_append_right _ h)) hown hK hP (by decide) (ce_md ad cI cB (((f_X8_composes fu V1 p1 x4_1).2) 48)) rfl 9 (by decide) (hts (.fieldLink RX8 42 "TurnedBoardsModel" "composedMargin" "I") (List.mem_of_getElem? (i := 1) rfl)) rfl rfl dX8_goesWith_71 ?_
                  refine lv_istore_n (lv' := [(3, .int (((f_X8_composes fu V1 p1 x4_1).2) 48 4)), (2, .int x4_1), (0, .ref (ad 48)), (1, .int p1), (4, .int x4_1)]) hx hb dX8_goesWith_74 rfl hl (by decide) rfl (fun ls hl => ?_)
                  refine lv_iinc (v := (x4_1 + 1)) (lv' := [(4, .int (x4_1 + 1)), (3, .int (((f_X8_composes fu V1 p1 x4_1).2) 48 4)), (2, .int x4_1), (0, .ref (ad 48)), (1, .int p1)]) hx hb dX8_goesWith_75 hl (k := 4) rfl (by rfl) (by decide) rfl (fun ls hl => ?_)
                  refine lv_goto (tgt := 33) hx hb dX8_goesWith_78 (by decide) ?_
                  exact ih1 ((f_X8_composes fu V1 p1 x4_1).2) x4_1 (((f_X8_composes fu V1 p1 x4_1).2) 48 4) (x4_1 + 1) hE hp H locs hP hS ls (lv_sub hl [3, 4, 2, 1, 0] rfl)
      exact L1 fu V (-1) (-1) 0 hE hp _ _ hP hS _ (lv_sub hl [3, 4, 2, 1, 0] rfl)
    · have hE := hE.trans (if_neg c2)
      refine lv_sipush (v := (-1002)) hx hb dX8_goesWith_22 (by decide) ?_
      exact W.iret (v := (-1002)) hx hb hr (fun t ht hW => ⟨⟨(-1002), V, rfl, ⟨(congrArg Prod.fst hE).symm, (congrArg Prod.snd hE).symm⟩, by dsimp only; rw [ht]; exact hP⟩, hS.F ht⟩) hS.2.2 dX8_goesWith_25
  · have hE := hE.trans (if_pos c1)
    refine lv_sipush (v := (-1001)) hx hb dX8_goesWith_10 (by decide) ?_
    exact W.iret (v := (-1001)) hx hb hr (fun t ht hW => ⟨⟨(-1001), V, rfl, ⟨(congrArg Prod.fst hE).symm, (congrArg Prod.snd hE).symm⟩, by dsimp only; rw [ht]; exact hP⟩, hS.F ht⟩) hS.2.2 dX8_goesWith_13
def f_X8_quality_l1 (fu : Nat) (V : VT)  : Nat → Int32 → Int32 → Int32
  | 0, x1_1, x2_1 => 0
  | w1 + 1, x1_1, x2_1 => (if (2 * (V 49 (0 : Int32).toNatClampNeg)) ≤ x2_1 then (f_Jxf58ca_floatToIntBits_5c35a V (FP.fdiv (FP.i2f x1_1) (FP.i2f (2 * (V 49 (0 : Int32).toNatClampNeg))))) else (if 0 ≤ (f_X8_drawn V (f_X8_wanted V (x2_1 / 2) (x2_1 - x2_1 / 2 * 2))) then (f_X8_quality_l1 fu V  w1 (x1_1 + (f_X8_margin fu V (f_X8_signBy fu V (x2_1 / 2) (x2_1 - x2_1 / 2 * 2)) (f_X8_wanted V (x2_1 / 2) (x2_1 - x2_1 / 2 * 2)))) (x2_1 + 1)) else (f_X8_quality_l1 fu V  w1 (x1_1 + 0) (x2_1 + 1))))
def p_X8_quality_l1 (fu : Nat) (V : VT)  : Nat → Int32 → Int32 → Prop
  | 0, _, _ => False
  | w1 + 1, x1_1, x2_1 => (((2 * (V 49 (0 : Int32).toNatClampNeg)) ≤ x2_1 → (vf_n32 (FP.fdiv (FP.i2f x1_1) (FP.i2f (2 * (V 49 (0 : Int32).toNatClampNeg)))))) ∧ (¬ ((2 * (V 49 (0 : Int32).toNatClampNeg)) ≤ x2_1) → ((p_X8_wanted V (x2_1 / 2) (x2_1 - x2_1 / 2 * 2)) ∧ ((p_X8_drawn V (f_X8_wanted V (x2_1 / 2) (x2_1 - x2_1 / 2 * 2))) ∧ ((0 ≤ (f_X8_drawn V (f_X8_wanted V (x2_1 / 2) (x2_1 - x2_1 / 2 * 2))) → ((p_X8_signBy fu V (x2_1 / 2) (x2_1 - x2_1 / 2 * 2)) ∧ ((p_X8_margin fu V (f_X8_signBy fu V (x2_1 / 2) (x2_1 - x2_1 / 2 * 2)) (f_X8_wanted V (x2_1 / 2) (x2_1 - x2_1 / 2 * 2))) ∧ (p_X8_quality_l1 fu V  w1 (x1_1 + (f_X8_margin fu V (f_X8_signBy fu V (x2_1 / 2) (x2_1 - x2_1 / 2 * 2)) (f_X8_wanted V (x2_1 / 2) (x2_1 - x2_1 / 2 * 2)))) (x2_1 + 1))))) ∧ (¬ (0 ≤ (f_X8_drawn V (f_X8_wanted V (x2_1 / 2) (x2_1 - x2_1 / 2 * 2)))) → (p_X8_quality_l1 fu V  w1 (x1_1 + 0) (x2_1 + 1))))))))
def f_X8_quality (fu : Nat) (V : VT)  : Int32 := (if (V 49 (0 : Int32).toNatClampNeg) = 0 then (-1004) else (f_X8_quality_l1 fu V  fu 0 0))
def p_X8_quality (fu : Nat) (V : VT)  : Prop := (((V 49 (0 : Int32).toNatClampNeg) = 0 → True) ∧ (¬ ((V 49 (0 : Int32).toNatClampNeg) = 0) → (p_X8_quality_l1 fu V  fu 0 0)))
set_option maxHeartbeats 4000000 in
set_option maxRecDepth 100000 in
theorem m_X8_quality (l : Launch) (D : va_G) (cI cB : ClassId) (ad : Nat → Nat) (fu : Nat) (V : VT)   (hp : p_X8_quality fu V ) : Met l yX8_quality wsX8_quality ({ frames := 2, cells := 0, slots := 0, locals := 47 }) (cP D cI cB ad V [.ref (ad 48)]) (cR (f_X8_quality fu V)) 0 0 (fun _ => False) := by
  refine Met.ofW (cc := cX8_quality) (maxL := 4) (ret := (some .int)) (by decide +kernel) rfl ?_
  intro p e s m args below meth c s₁ B hml hv
  obtain ⟨rfl, hP, hKN⟩ := hv
  have hK := hKN.1
  have hx := B.exec
  have hb := B.bytes
  have hr := B.returns
  have hts := atoms_spec (ws := wsX8_quality) B.pre
  have hown : s.vm.findClass RX8 = some m.cls := findClass_of_methodNamed B.named
  have hlocks := B.notSynchronized
  have hS : va_S (fun _ => False) s.heap s.heap [] := va_S.rf
  have hl := lv_entry ([.ref (ad 48)]) (n := 4) (Nat.le_of_ble_eq_true rfl)
  rw [lg_entry_eq]
  generalize (lg_sl ([.ref (ad 48)]) ++ List.replicate (4 - (lg_sl ([.ref (ad 48)])).length) Slot.unset).toArray = ls at hl ⊢
  have hl : lv_has ls 4 [(0, .ref (ad 48))] := hl
  have hE : f_X8_quality fu V = (if (V 49 (0 : Int32).toNatClampNeg) = 0 then (-1004) else (f_X8_quality_l1 fu V  fu 0 0)) := rfl
  refine lv_aload_n hx hb dX8_quality_0 rfl (lv_at hl 0 rfl) ?_
  refine x_get (ci := 6) (fs := [.ref (ad 49), .ref (ad 50), .ref (ad 51), .int ((V 48) 0), .ref (ad 52), .int ((V 48) 1), .ref (ad 53), .int ((V 48) 2), .int ((V 48) 3), .int ((V 48) 4), .int ((V 48) 5), .int ((V 48) 6), .int ((V 48) 7)]) (q := 48) (v := .ref (ad 49)) (N := 13) hx hb hts (fun _ h => List.mem_cons_of_mem _ (List.mem_append_right _ h)) hown hK hP (by decide) (ce_md ad cI cB (V 48)) rfl 0 (by decide) (hts (.fieldLink RX8 7 "TurnedBoardsModel" "s" "[I") (List.mem_of_getElem? (i := 1) rfl)) rfl rfl dX8_quality_1 ?_
  refine lv_iconst (v := 0) hx hb dX8_quality_4 (by decide) ?_
  refine x_iald hx hb hK hP ⟨by decide, fun _ => rfl, by decide⟩ (vp_lit (i := 0) (n := 49) (by decide) (by decide)) dX8_quality_5 ?_
  refine lv_if_ne (tgt := 13) hx hb dX8_quality_6 (by decide) (fun c1 => ?_) (fun c1 => ?_)
  · have hE := hE.trans (if_neg c1)
    have hp := pc_bn hp c1
    refine lv_iconst (v := 0) hx hb dX8_quality_13 (by decide) ?_
    refine lv_istore_n (lv' := [(1, .int 0), (0, .ref (ad 48))]) hx hb dX8_quality_14 rfl hl (by decide) rfl (fun ls hl => ?_)
    refine lv_iconst (v := 0) hx hb dX8_quality_15 (by decide) ?_
    refine lv_istore_n (lv' := [(2, .int 0), (1, .int 0), (0, .ref (ad 48))]) hx hb dX8_quality_16 rfl hl (by decide) rfl (fun ls hl => ?_)
    have L1 : ∀ (w1 : Nat) (x1_1 : Int32) (x2_1 : Int32), f_X8_quality fu V = f_X8_quality_l1 fu V  w1 x1_1 x2_1 → p_X8_quality_l1 fu V  w1 x1_1 x2_1 → ∀ (H : Heap) (locs : List Loc), wP D cI cB ad V H → va_S (fun _ => False) s.heap H locs → ∀ (ls : Array Slot), lv_has ls 4 [(0, .ref (ad 48)), (1, .int x1_1), (2, .int x2_1)] → W p l e (headSpec wsX8_quality ({ frames := 2, cells := 0, slots := 0, locals := 47 })).room s m ([.ref (ad 48)] : List Value).toArray below meth c H locs 0 0 (MQ below (cR (f_X8_quality fu V)) ([.ref (ad 48)] : List Value).toArray s 0 0 (fun _ => False)) (F0 m 17 ls []) := by
      intro w1
      induction w1 with
      | zero => intro x1_1 x2_1 hE hp; exact hp.elim
      | succ w1 ih1 =>
        intro x1_1 x2_1 hE hp H locs hP hS ls hl
        rw [f_X8_quality_l1] at hE
        rw [p_X8_quality_l1] at hp
        refine lv_iload_n hx hb dX8_quality_17 rfl (lv_at hl 2 rfl) ?_
        refine lv_iconst (v := 2) hx hb dX8_quality_18 (by decide) ?_
        refine lv_aload_n hx hb dX8_quality_19 rfl (lv_at hl 0 rfl) ?_
        refine x_get (ci := 6) (fs := [.ref (ad 49), .ref (ad 50), .ref (ad 51), .int ((V 48) 0), .ref (ad 52), .int ((V 48) 1), .ref (ad 53), .int ((V 48) 2), .int ((V 48) 3), .int ((V 48) 4), .int ((V 48) 5), .int ((V 48) 6), .int ((V 48) 7)]) (q := 48) (v := .ref (ad 49)) (N := 13) hx hb hts (fun _ h => List.mem_cons_of_mem _ (List.mem_append_right _ h)) hown hK hP (by decide) (ce_md ad cI cB (V 48)) rfl 0 (by decide) (hts (.fieldLink RX8 7 "TurnedBoardsModel" "s" "[I") (List.mem_of_getElem? (i := 1) rfl)) rfl rfl dX8_quality_20 ?_
        refine lv_iconst (v := 0) hx hb dX8_quality_23 (by decide) ?_
        refine x_iald hx hb hK hP ⟨by decide, fun _ => rfl, by decide⟩ (vp_lit (i := 0) (n := 49) (by decide) (by decide)) dX8_quality_24 ?_
        refine lv_imul hx hb dX8_quality_25 ?_
        refine lv_icmp_ge (tgt := 76) hx hb dX8_quality_26 (by decide) (fun c2 => ?_) (fun c2 => ?_)
        · have hE := hE.trans (if_pos c2)
          have hp := pc_br hp c2
          refine lv_iload_n hx hb dX8_quality_76 rfl (lv_at hl 1 rfl) ?_
          refine lv_i2f hx hb dX8_quality_77 ?_
          refine lv_fstore_n (lv' := [(2, .float (FP.i2f x1_1)), (0, .ref (ad 48)), (1, .int x1_1)]) hx hb dX8_quality_78 rfl hl (by decide) rfl (fun ls hl => ?_)
          refine lv_iconst (v := 2) hx hb dX8_quality_79 (by decide) ?_
          refine lv_aload_n hx hb dX8_quality_80 rfl (lv_at hl 1 rfl) ?_
          refine x_get (ci := 6) (fs := [.ref (ad 49), .ref (ad 50), .ref (ad 51), .int ((V 48) 0), .ref (ad 52), .int ((V 48) 1), .ref (ad 53), .int ((V 48) 2), .int ((V 48) 3), .int ((V 48) 4), .int ((V 48) 5), .int ((V 48) 6), .int ((V 48) 7)]) (q := 48) (v := .ref (ad 49)) (N := 13) hx hb hts (fun _ h => List.mem_cons_of_mem _ (List.mem_append_right _ h)) hown hK hP (by decide) (ce_md ad cI cB (V 48)) rfl 0 (by decide) (hts (.fieldLink RX8 7 "TurnedBoardsModel" "s" "[I") (List.mem_of_getElem? (i := 1) rfl)) rfl rfl dX8_quality_81 ?_
          refine lv_iconst (v := 0) hx hb dX8_quality_84 (by decide) ?_
          refine x_iald hx hb hK hP ⟨by decide, fun _ => rfl, by decide⟩ (vp_lit (i := 0) (n := 49) (by decide) (by decide)) dX8_quality_85 ?_
          refine lv_imul hx hb dX8_quality_86 ?_
          refine lv_i2f hx hb dX8_quality_87 ?_
          refine lv_fstore_n (lv' := [(3, .float (FP.i2f (2 * (V 49 (0 : Int32).toNatClampNeg)))), (2, .float (FP.i2f x1_1)), (0, .ref (ad 48)), (1, .int x1_1)]) hx hb dX8_quality_88 rfl hl (by decide) rfl (fun ls hl => ?_)
          refine lv_fload_n hx hb dX8_quality_89 rfl (lv_at hl 1 rfl) ?_
          refine lv_fload_n hx hb dX8_quality_90 rfl (lv_at hl 0 rfl) ?_
          have hn1 := hp
          refine lv_fdiv hx hb dX8_quality_91 hn1 ?_
          refine k_SR (As := [.float (FP.fdiv (FP.i2f x1_1) (FP.i2f (2 * (V 49 (0 : Int32).toNatClampNeg))))]) (rest := []) ⟨hx, hb, hml, hown, hts⟩ hKN hP hS (m_Jxf58ca_floatToIntBits_5c35a l D cI cB ad V (FP.fdiv (FP.i2f x1_1) (FP.i2f (2 * (V 49 (0 : Int32).toNatClampNeg))))) (va_cwS 1 hts gX8_quality_Jxf58ca_floatToIntBits_5c35a rfl rfl rfl (by decide +kernel) ⟨(Nat.le_of_ble_eq_true rfl), (Nat.le_of_ble_eq_true rfl)⟩) rfl hl.1 rfl (Nat.le_of_ble_eq_true rfl) dX8_quality_92 ⟨Nat.zero_le _, Nat.zero_le _⟩ (fun H locs hP hS => ?_)
          exact W.iret (v := (f_Jxf58ca_floatToIntBits_5c35a V (FP.fdiv (FP.i2f x1_1) (FP.i2f (2 * (V 49 (0 : Int32).toNatClampNeg)))))) hx hb hr (fun t ht hW => ⟨⟨(f_Jxf58ca_floatToIntBits_5c35a V (FP.fdiv (FP.i2f x1_1) (FP.i2f (2 * (V 49 (0 : Int32).toNatClampNeg))))), (), rfl, hE.symm, trivial⟩, hS.F ht⟩) hS.2.2 dX8_quality_95
        · have hE := hE.trans (if_neg c2)
          have hp := pc_bn hp c2
          refine lv_aload_n hx hb dX8_quality_29 rfl (lv_at hl 0 rfl) ?_
          refine lv_iload_n hx hb dX8_quality_30 rfl (lv_at hl 2 rfl) ?_
          refine lv_iconst (v := 2) hx hb dX8_quality_31 (by decide) ?_
          refine lv_idiv hx hb dX8_quality_32 (by decide) ?_
          refine lv_iload_n hx hb dX8_quality_33 rfl (lv_at hl 2 rfl) ?_
          refine lv_iconst (v := 2) hx hb dX8_quality_34 (by decide) ?_
          refine lv_irem hx hb dX8_quality_35 (by decide) ?_
          obtain ⟨hn2, hp⟩ := hp
          refine k_VR (As := [.int (x2_1 / 2), .int (x2_1 - x2_1 / 2 * 2)]) (rest := []) (q := 48) ⟨hx, hb, hml, hown, hts⟩ hKN hP hS (m_X8_wanted l D cI cB ad V (x2_1 / 2) (x2_1 - x2_1 / 2 * 2) hn2) (cwV 2 hts gX8_quality_X8_wanted rfl rfl rfl (by decide +kernel) ⟨(Nat.le_of_ble_eq_true rfl), (Nat.le_of_ble_eq_true rfl)⟩) (c_preV hP hKN (q := 48) (ci := 6) (fs := [.ref (ad 49), .ref (ad 50), .ref (ad 51), .int ((V 48) 0), .ref (ad 52), .int ((V 48) 1), .ref (ad 53), .int ((V 48) 2), .int ((V 48) 3), .int ((V 48) 4), .int ((V 48) 5), .int ((V 48) 6), .int ((V 48) 7)]) (by decide) (ce_md ad cI cB (V 48)) rfl rfl) rfl hl.1 rfl (Nat.le_of_ble_eq_true rfl) dX8_quality_36 ⟨Nat.zero_le _, Nat.zero_le _⟩ (fun H locs hP hS => ?_)
          refine lv_istore_n (lv' := [(3, .int (f_X8_wanted V (x2_1 / 2) (x2_1 - x2_1 / 2 * 2))), (0, .ref (ad 48)), (1, .int x1_1), (2, .int x2_1)]) hx hb dX8_quality_39 rfl hl (by decide) rfl (fun ls hl => ?_)
          refine lv_iload_n hx hb dX8_quality_40 rfl (lv_at hl 2 rfl) ?_
          refine lv_aload_n hx hb dX8_quality_41 rfl (lv_at hl 1 rfl) ?_
          refine lv_iload_n hx hb dX8_quality_42 rfl (lv_at hl 0 rfl) ?_
          obtain ⟨hn3, hp⟩ := hp
          refine k_VR (As := [.int (f_X8_wanted V (x2_1 / 2) (x2_1 - x2_1 / 2 * 2))]) (rest := [.int x1_1]) (q := 48) ⟨hx, hb, hml, hown, hts⟩ hKN hP hS (m_X8_drawn l D cI cB ad V (f_X8_wanted V (x2_1 / 2) (x2_1 - x2_1 / 2 * 2)) hn3) (cwV 1 hts gX8_quality_X8_drawn rfl rfl rfl (by decide +kernel) ⟨(Nat.le_of_ble_eq_true rfl), (Nat.le_of_ble_eq_true rfl)⟩) (c_preV hP hKN (q := 48) (ci := 6) (fs := [.ref (ad 49), .ref (ad 50), .ref (ad 51), .int ((V 48) 0), .ref (ad 52), .int ((V 48) 1), .ref (ad 53), .int ((V 48) 2), .int ((V 48) 3), .int ((V 48) 4), .int ((V 48) 5), .int ((V 48) 6), .int ((V 48) 7)]) (by decide) (ce_md ad cI cB (V 48)) rfl rfl) rfl hl.1 rfl (Nat.le_of_ble_eq_true rfl) dX8_quality_43 ⟨Nat.zero_le _, Nat.zero_le _⟩ (fun H locs hP hS => ?_)
          refine lv_if_ge (tgt := 53) hx hb dX8_quality_46 (by decide) (fun c3 => ?_) (fun c3 => ?_)
          · have hE := hE.trans (if_pos c3)
            have hp := pc_br hp c3
            refine lv_aload_n hx hb dX8_quality_53 rfl (lv_at hl 1 rfl) ?_
            refine lv_aload_n hx hb dX8_quality_54 rfl (lv_at hl 1 rfl) ?_
            refine lv_iload_n hx hb dX8_quality_55 rfl (lv_at hl 3 rfl) ?_
            refine lv_iconst (v := 2) hx hb dX8_quality_56 (by decide) ?_
            refine lv_idiv hx hb dX8_quality_57 (by decide) ?_
            refine lv_iload_n hx hb dX8_quality_58 rfl (lv_at hl 3 rfl) ?_
            refine lv_iconst (v := 2) hx hb dX8_quality_59 (by decide) ?_
            refine lv_irem hx hb dX8_quality_60 (by decide) ?_
            obtain ⟨hn4, hp⟩ := hp
            refine k_VR (As := [.int (x2_1 / 2), .int (x2_1 - x2_1 / 2 * 2)]) (rest := [.ref (ad 48), .int x1_1]) (q := 48) ⟨hx, hb, hml, hown, hts⟩ hKN hP hS (m_X8_signBy l D cI cB ad fu V (x2_1 / 2) (x2_1 - x2_1 / 2 * 2) hn4) (cwV 2 hts gX8_quality_X8_signBy rfl rfl rfl (by decide +kernel) ⟨(Nat.le_of_ble_eq_true rfl), (Nat.le_of_ble_eq_true rfl)⟩) (c_preV hP hKN (q := 48) (ci := 6) (fs := [.ref (ad 49), .ref (ad 50), .ref (ad 51), .int ((V 48) 0), .ref (ad 52), .int ((V 48) 1), .ref (ad 53), .int ((V 48) 2), .int ((V 48) 3), .int ((V 48) 4), .int ((V 48) 5), .int ((V 48) 6), .int ((V 48) 7)]) (by decide) (ce_md ad cI cB (V 48)) rfl rfl) rfl hl.1 rfl (Nat.le_of_ble_eq_true rfl) dX8_quality_61 ⟨Nat.zero_le _, Nat.zero_le _⟩ (fun H locs hP hS => ?_)
            refine lv_iload_n hx hb dX8_quality_64 rfl (lv_at hl 0 rfl) ?_
            obtain ⟨hn5, hp⟩ := hp
            refine k_VR (As := [.int (f_X8_signBy fu V (x2_1 / 2) (x2_1 - x2_1 / 2 * 2)), .int (f_X8_wanted V (x2_1 / 2) (x2_1 - x2_1 / 2 * 2))]) (rest := [.int x1_1]) (q := 48) ⟨hx, hb, hml, hown, hts⟩ hKN hP hS (m_X8_margin l D cI cB ad fu V (f_X8_signBy fu V (x2_1 / 2) (x2_1 - x2_1 / 2 * 2)) (f_X8_wanted V (x2_1 / 2) (x2_1 - x2_1 / 2 * 2)) hn5) (cwV 2 hts gX8_quality_X8_margin rfl rfl rfl (by decide +kernel) ⟨(Nat.le_of_ble_eq_true rfl), (Nat.le_of_ble_eq_true rfl)⟩) (c_preV hP hKN (q := 48) (ci := 6) (fs := [.ref (ad 49), .ref (ad 50), .ref (ad 51), .int ((V 48) 0), .ref (ad 52), .int ((V 48) 1), .ref (ad 53), .int ((V 48) 2), .int ((V 48) 3), .int ((V 48) 4), .int ((V 48) 5), .int ((V 48) 6), .int ((V 48) 7)]) (by decide) (ce_md ad cI cB (V 48)) rfl rfl) rfl hl.1 rfl (Nat.le_of_ble_eq_true rfl) dX8_quality_65 ⟨Nat.zero_le _, Nat.zero_le _⟩ (fun H locs hP hS => ?_)
            refine lv_iadd hx hb dX8_quality_68 ?_
            refine lv_istore_n (lv' := [(1, .int (x1_1 + (f_X8_margin fu V (f_X8_signBy fu V (x2_1 / 2) (x2_1 - x2_1 / 2 * 2)) (f_X8_wanted V (x2_1 / 2) (x2_1 - x2_1 / 2 * 2))))), (3, .int (f_X8_wanted V (x2_1 / 2) (x2_1 - x2_1 / 2 * 2))), (0, .ref (ad 48)), (2, .int x2_1)]) hx hb dX8_quality_69 rfl hl (by decide) rfl (fun ls hl => ?_)
            refine lv_iinc (v := (x2_1 + 1)) (lv' := [(2, .int (x2_1 + 1)), (1, .int (x1_1 + (f_X8_margin fu V (f_X8_signBy fu V (x2_1 / 2) (x2_1 - x2_1 / 2 * 2)) (f_X8_wanted V (x2_1 / 2) (x2_1 - x2_1 / 2 * 2))))), (3, .int (f_X8_wanted V (x2_1 / 2) (x2_1 - x2_1 / 2 * 2))), (0, .ref (ad 48))]) hx hb dX8_quality_70 hl (k := 3) rfl (by rfl) (by decide) rfl (fun ls hl => ?_)
            refine lv_goto (tgt := 17) hx hb dX8_quality_73 (by decide) ?_
            exact ih1 (x1_1 + (f_X8_margin fu V (f_X8_signBy fu V (x2_1 / 2) (x2_1 - x2_1 / 2 * 2)) (f_X8_wanted V (x2_1 / 2) (x2_1 - x2_1 / 2 * 2)))) (x2_1 + 1) hE hp H locs hP hS ls (lv_sub hl [3, 1, 0] rfl)
          · have hE := hE.trans (if_neg c3)
            have hp := pc_bn hp c3
            refine lv_iconst (v := 0) hx hb dX8_quality_49 (by decide) ?_
            refine lv_goto (tgt := 68) hx hb dX8_quality_50 (by decide) ?_
            refine lv_iadd hx hb dX8_quality_68 ?_
            refine lv_istore_n (lv' := [(1, .int (x1_1 + 0)), (3, .int (f_X8_wanted V (x2_1 / 2) (x2_1 - x2_1 / 2 * 2))), (0, .ref (ad 48)), (2, .int x2_1)]) hx hb dX8_quality_69 rfl hl (by decide) rfl (fun ls hl => ?_)
            refine lv_iinc (v := (x2_1 + 1)) (lv' := [(2, .int (x2_1 + 1)), (1, .int (x1_1 + 0)), (3, .int (f_X8_wanted V (x2_1 / 2) (x2_1 - x2_1 / 2 * 2))), (0, .ref (ad 48))]) hx hb dX8_quality_70 hl (k := 3) rfl (by rfl) (by decide) rfl (fun ls hl => ?_)
            refine lv_goto (tgt := 17) hx hb dX8_quality_73 (by decide) ?_
            exact ih1 (x1_1 + 0) (x2_1 + 1) hE hp H locs hP hS ls (lv_sub hl [3, 1, 0] rfl)
    exact L1 fu 0 0 hE hp _ _ hP hS _ (lv_sub hl [2, 1, 0] rfl)
  · have hE := hE.trans (if_pos c1)
    refine lv_sipush (v := (-1004)) hx hb dX8_quality_9 (by decide) ?_
    exact W.iret (v := (-1004)) hx hb hr (fun t ht hW => ⟨⟨(-1004), (), rfl, hE.symm, trivial⟩, hS.F ht⟩) hS.2.2 dX8_quality_12
def f_X8_bareIn_l1 (fu : Nat) (V : VT)  : Nat → Int32 → Int32 → Int32
  | 0, x1_1, x2_1 => 0
  | w1 + 1, x1_1, x2_1 => (if (V 49 (0 : Int32).toNatClampNeg) ≤ x2_1 then (f_X8_orNone V x1_1) else (if (f_X8_fades fu V x2_1) = 0 then (f_X8_bareIn_l1 fu V  w1 x1_1 (x2_1 + 1)) else (if x1_1 < 0 then (f_X8_bareIn_l1 fu V  w1 (f_X8_coats V x2_1) (x2_1 + 1)) else (if x1_1 ≤ (f_X8_coats V x2_1) then (f_X8_bareIn_l1 fu V  w1 x1_1 (x2_1 + 1)) else (f_X8_bareIn_l1 fu V  w1 (f_X8_coats V x2_1) (x2_1 + 1))))))
def p_X8_bareIn_l1 (fu : Nat) (V : VT)  : Nat → Int32 → Int32 → Prop
  | 0, _, _ => False
  | w1 + 1, x1_1, x2_1 => (((V 49 (0 : Int32).toNatClampNeg) ≤ x2_1 → True) ∧ (¬ ((V 49 (0 : Int32).toNatClampNeg) ≤ x2_1) → ((p_X8_fades fu V x2_1) ∧ (((f_X8_fades fu V x2_1) = 0 → (p_X8_bareIn_l1 fu V  w1 x1_1 (x2_1 + 1))) ∧ (¬ ((f_X8_fades fu V x2_1) = 0) → ((x1_1 < 0 → ((p_X8_coats V x2_1) ∧ (p_X8_bareIn_l1 fu V  w1 (f_X8_coats V x2_1) (x2_1 + 1)))) ∧ (¬ (x1_1 < 0) → ((p_X8_coats V x2_1) ∧ ((x1_1 ≤ (f_X8_coats V x2_1) → (p_X8_bareIn_l1 fu V  w1 x1_1 (x2_1 + 1))) ∧ (¬ (x1_1 ≤ (f_X8_coats V x2_1)) → ((p_X8_coats V x2_1) ∧ (p_X8_bareIn_l1 fu V  w1 (f_X8_coats V x2_1) (x2_1 + 1)))))))))))))
def f_X8_bareIn (fu : Nat) (V : VT)  : Int32 := (f_X8_bareIn_l1 fu V  fu (-1) 0)
def p_X8_bareIn (fu : Nat) (V : VT)  : Prop := (p_X8_bareIn_l1 fu V  fu (-1) 0)
set_option maxHeartbeats 4000000 in
set_option maxRecDepth 100000 in
theorem m_X8_bareIn (l : Launch) (D : va_G) (cI cB : ClassId) (ad : Nat → Nat) (fu : Nat) (V : VT)   (hp : p_X8_bareIn fu V ) : Met l yX8_bareIn wsX8_bareIn ({ frames := 2, cells := 0, slots := 0, locals := 44 }) (cP D cI cB ad V [.ref (ad 48)]) (cR (f_X8_bareIn fu V)) 0 0 (fun _ => False) := by
  refine Met.ofW (cc := cX8_bareIn) (maxL := 3) (ret := (some .int)) (by decide +kernel) rfl ?_
  intro p e s m args below meth c s₁ B hml hv
  obtain ⟨rfl, hP, hKN⟩ := hv
  have hK := hKN.1
  have hx := B.exec
  have hb := B.bytes
  have hr := B.returns
  have hts := atoms_spec (ws := wsX8_bareIn) B.pre
  have hown : s.vm.findClass RX8 = some m.cls := findClass_of_methodNamed B.named
  have hlocks := B.notSynchronized
  have hS : va_S (fun _ => False) s.heap s.heap [] := va_S.rf
  have hl := lv_entry ([.ref (ad 48)]) (n := 3) (Nat.le_of_ble_eq_true rfl)
  rw [lg_entry_eq]
  generalize (lg_sl ([.ref (ad 48)]) ++ List.replicate (3 - (lg_sl ([.ref (ad 48)])).length) Slot.unset).toArray = ls at hl ⊢
  have hl : lv_has ls 3 [(0, .ref (ad 48))] := hl
  have hE : f_X8_bareIn fu V = (f_X8_bareIn_l1 fu V  fu (-1) 0) := rfl
  refine lv_iconst (v := (-1)) hx hb dX8_bareIn_0 (by decide) ?_
  refine lv_istore_n (lv' := [(1, .int (-1)), (0, .ref (ad 48))]) hx hb dX8_bareIn_1 rfl hl (by decide) rfl (fun ls hl => ?_)
  refine lv_iconst (v := 0) hx hb dX8_bareIn_2 (by decide) ?_
  refine lv_istore_n (lv' := [(2, .int 0), (1, .int (-1)), (0, .ref (ad 48))]) hx hb dX8_bareIn_3 rfl hl (by decide) rfl (fun ls hl => ?_)
  have L1 : ∀ (w1 : Nat) (x1_1 : Int32) (x2_1 : Int32), f_X8_bareIn fu V = f_X8_bareIn_l1 fu V  w1 x1_1 x2_1 → p_X8_bareIn_l1 fu V  w1 x1_1 x2_1 → ∀ (H : Heap) (locs : List Loc), wP D cI cB ad V H → va_S (fun _ => False) s.heap H locs → ∀ (ls : Array Slot), lv_has ls 3 [(0, .ref (ad 48)), (1, .int x1_1), (2, .int x2_1)] → W p l e (headSpec wsX8_bareIn ({ frames := 2, cells := 0, slots := 0, locals := 44 })).room s m ([.ref (ad 48)] : List Value).toArray below meth c H locs 0 0 (MQ below (cR (f_X8_bareIn fu V)) ([.ref (ad 48)] : List Value).toArray s 0 0 (fun _ => False)) (F0 m 4 ls []) := by
    intro w1
    induction w1 with
    | zero => intro x1_1 x2_1 hE hp; exact hp.elim
    | succ w1 ih1 =>
      intro x1_1 x2_1 hE hp H locs hP hS ls hl
      rw [f_X8_bareIn_l1] at hE
      rw [p_X8_bareIn_l1] at hp
      refine lv_iload_n hx hb dX8_bareIn_4 rfl (lv_at hl 2 rfl) ?_
      refine lv_aload_n hx hb dX8_bareIn_5 rfl (lv_at hl 0 rfl) ?_
      refine x_get (ci := 6) (fs := [.ref (ad 49), .ref (ad 50), .ref (ad 51), .int ((V 48) 0), .ref (ad 52), .int ((V 48) 1), .ref (ad 53), .int ((V 48) 2), .int ((V 48) 3), .int ((V 48) 4), .int ((V 48) 5), .int ((V 48) 6), .int ((V 48) 7)]) (q := 48) (v := .ref (ad 49)) (N := 13) hx hb hts (fun _ h => List.mem_cons_of_mem _ (List.mem_append_right _ h)) hown hK hP (by decide) (ce_md ad cI cB (V 48)) rfl 0 (by decide) (hts (.fieldLink RX8 7 "TurnedBoardsModel" "s" "[I") (List.mem_of_getElem? (i := 1) rfl)) rfl rfl dX8_bareIn_6 ?_
      refine lv_iconst (v := 0) hx hb dX8_bareIn_9 (by decide) ?_
      refine x_iald hx hb hK hP ⟨by decide, fun _ => rfl, by decide⟩ (vp_lit (i := 0) (n := 49) (by decide) (by decide)) dX8_bareIn_10 ?_
      refine lv_icmp_ge (tgt := 51) hx hb dX8_bareIn_11 (by decide) (fun c1 => ?_) (fun c1 => ?_)
      · have hE := hE.trans (if_pos c1)
        refine lv_iload_n hx hb dX8_bareIn_51 rfl (lv_at hl 1 rfl) ?_
        refine k_SR (As := [.int x1_1]) (rest := []) ⟨hx, hb, hml, hown, hts⟩ hKN hP hS (m_X8_orNone l D cI cB ad V x1_1) (va_cwS 1 hts gX8_bareIn_X8_orNone rfl rfl rfl (by decide +kernel) ⟨(Nat.le_of_ble_eq_true rfl), (Nat.le_of_ble_eq_true rfl)⟩) rfl hl.1 rfl (Nat.le_of_ble_eq_true rfl) dX8_bareIn_52 ⟨Nat.zero_le _, Nat.zero_le _⟩ (fun H locs hP hS => ?_)
        exact W.iret (v := (f_X8_orNone V x1_1)) hx hb hr (fun t ht hW => ⟨⟨(f_X8_orNone V x1_1), (), rfl, hE.symm, trivial⟩, hS.F ht⟩) hS.2.2 dX8_bareIn_55
      · have hE := hE.trans (if_neg c1)
        have hp := pc_bn hp c1
        refine lv_aload_n hx hb dX8_bareIn_14 rfl (lv_at hl 0 rfl) ?_
        refine lv_iload_n hx hb dX8_bareIn_15 rfl (lv_at hl 2 rfl) ?_
        obtain ⟨hn1, hp⟩ := hp
        refine k_VR (As := [.int x2_1]) (rest := []) (q := 48) ⟨hx, hb, hml, hown, hts⟩ hKN hP hS (m_X8_fades l D cI cB ad fu V x2_1 hn1) (cwV 1 hts gX8_bareIn_X8_fades rfl rfl rfl (by decide +kernel) ⟨(Nat.le_of_ble_eq_true rfl), (Nat.le_of_ble_eq_true rfl)⟩) (c_preV hP hKN (q := 48) (ci := 6) (fs := [.ref (ad 49), .ref (ad 50), .ref (ad 51), .int ((V 48) 0), .ref (ad 52), .int ((V 48) 1), .ref (ad 53), .int ((V 48) 2), .int ((V 48) 3), .int ((V 48) 4), .int ((V 48) 5), .int ((V 48) 6), .int ((V 48) 7)]) (by decide) (ce_md ad cI cB (V 48)) rfl rfl) rfl hl.1 rfl (Nat.le_of_ble_eq_true rfl) dX8_bareIn_16 ⟨Nat.zero_le _, Nat.zero_le _⟩ (fun H locs hP hS => ?_)
        refine lv_if_eq (tgt := 43) hx hb dX8_bareIn_19 (by decide) (fun c2 => ?_) (fun c2 => ?_)
        · have hE := hE.trans (if_pos c2)
          have hp := pc_br hp c2
          refine lv_iload_n hx hb dX8_bareIn_43 rfl (lv_at hl 1 rfl) ?_
          refine lv_istore_n (lv' := [(1, .int x1_1), (0, .ref (ad 48)), (2, .int x2_1)]) hx hb dX8_bareIn_44 rfl hl (by decide) rfl (fun ls hl => ?_)
          refine lv_iinc (v := (x2_1 + 1)) (lv' := [(2, .int (x2_1 + 1)), (1, .int x1_1), (0, .ref (ad 48))]) hx hb dX8_bareIn_45 hl (k := 2) rfl (by rfl) (by decide) rfl (fun ls hl => ?_)
          refine lv_goto (tgt := 4) hx hb dX8_bareIn_48 (by decide) ?_
          exact ih1 x1_1 (x2_1 + 1) hE hp H locs hP hS ls (lv_sub hl [2, 1, 0] rfl)
        · have hE := hE.trans (if_neg c2)
          have hp := pc_bn hp c2
          refine lv_iload_n hx hb dX8_bareIn_22 rfl (lv_at hl 1 rfl) ?_
          refine lv_if_lt (tgt := 35) hx hb dX8_bareIn_23 (by decide) (fun c3 => ?_) (fun c3 => ?_)
          · have hE := hE.trans (if_pos c3)
            have hp := pc_br hp c3
            refine lv_aload_n hx hb dX8_bareIn_35 rfl (lv_at hl 0 rfl) ?_
            refine lv_iload_n hx hb dX8_bareIn_36 rfl (lv_at hl 2 rfl) ?_
            obtain ⟨hn2, hp⟩ := hp
            refine k_VR (As := [.int x2_1]) (rest := []) (q := 48) ⟨hx, hb, hml, hown, hts⟩ hKN hP hS (m_X8_coats l D cI cB ad V x2_1 hn2) (cwV 1 hts gX8_bareIn_X8_coats rfl rfl rfl (by decide +kernel) ⟨(Nat.le_of_ble_eq_true rfl), (Nat.le_of_ble_eq_true rfl)⟩) (c_preV hP hKN (q := 48) (ci := 6) (fs := [.ref (ad 49), .ref (ad 50), .ref (ad 51), .int ((V 48) 0), .ref (ad 52), .int ((V 48) 1), .ref (ad 53), .int ((V 48) 2), .int ((V 48) 3), .int ((V 48) 4), .int ((V 48) 5), .int ((V 48) 6), .int ((V 48) 7)]) (by decide) (ce_md ad cI cB (V 48)) rfl rfl) rfl hl.1 rfl (Nat.le_of_ble_eq_true rfl) dX8_bareIn_37 ⟨Nat.zero_le _, Nat.zero_le _⟩ (fun H locs hP hS => ?_)
            refine lv_goto (tgt := 44) hx hb dX8_bareIn_40 (by decide) ?_
            refine lv_istore_n (lv' := [(1, .int (f_X8_coats V x2_1)), (0, .ref (ad 48)), (2, .int x2_1)]) hx hb dX8_bareIn_44 rfl hl (by decide) rfl (fun ls hl => ?_)
            refine lv_iinc (v := (x2_1 + 1)) (lv' := [(2, .int (x2_1 + 1)), (1, .int (f_X8_coats V x2_1)), (0, .ref (ad 48))]) hx hb dX8_bareIn_45 hl (k := 2) rfl (by rfl) (by decide) rfl (fun ls hl => ?_)
            refine lv_goto (tgt := 4) hx hb dX8_bareIn_48 (by decide) ?_
            exact ih1 (f_X8_coats V x2_1) (x2_1 + 1) hE hp H locs hP hS ls (lv_sub hl [2, 1, 0] rfl)
          · have hE := hE.trans (if_neg c3)
            have hp := pc_bn hp c3
            refine lv_aload_n hx hb dX8_bareIn_26 rfl (lv_at hl 0 rfl) ?_
            refine lv_iload_n hx hb dX8_bareIn_27 rfl (lv_at hl 2 rfl) ?_
            obtain ⟨hn3, hp⟩ := hp
            refine k_VR (As := [.int x2_1]) (rest := []) (q := 48) ⟨hx, hb, hml, hown, hts⟩ hKN hP hS (m_X8_coats l D cI cB ad V x2_1 hn3) (cwV 1 hts gX8_bareIn_X8_coats rfl rfl rfl (by decide +kernel) ⟨(Nat.le_of_ble_eq_true rfl), (Nat.le_of_ble_eq_true rfl)⟩) (c_preV hP hKN (q := 48) (ci := 6) (fs := [.ref (ad 49), .ref (ad 50), .ref (ad 51), .int ((V 48) 0), .ref (ad 52), .int ((V 48) 1), .ref (ad 53), .int ((V 48) 2), .int ((V 48) 3), .int ((V 48) 4), .int ((V 48) 5), .int ((V 48) 6), .int ((V 48) 7)]) (by decide) (ce_md ad cI cB (V 48)) rfl rfl) rfl hl.1 rfl (Nat.le_of_ble_eq_true rfl) dX8_bareIn_28 ⟨Nat.zero_le _, Nat.zero_le _⟩ (fun H locs hP hS => ?_)
            refine lv_iload_n hx hb dX8_bareIn_31 rfl (lv_at hl 1 rfl) ?_
            refine lv_icmp_ge (tgt := 43) hx hb dX8_bareIn_32 (by decide) (fun c4 => ?_) (fun c4 => ?_)
            · have hE := hE.trans (if_pos c4)
              have hp := pc_br hp c4
              refine lv_iload_n hx hb dX8_bareIn_43 rfl (lv_at hl 1 rfl) ?_
              refine lv_istore_n (lv' := [(1, .int x1_1), (0, .ref (ad 48)), (2, .int x2_1)]) hx hb dX8_bareIn_44 rfl hl (by decide) rfl (fun ls hl => ?_)
              refine lv_iinc (v := (x2_1 + 1)) (lv' := [(2, .int (x2_1 + 1)), (1, .int x1_1), (0, .ref (ad 48))]) hx hb dX8_bareIn_45 hl (k := 2) rfl (by rfl) (by decide) rfl (fun ls hl => ?_)
              refine lv_goto (tgt := 4) hx hb dX8_bareIn_48 (by decide) ?_
              exact ih1 x1_1 (x2_1 + 1) hE hp H locs hP hS ls (lv_sub hl [2, 1, 0] rfl)
            · have hE := hE.trans (if_neg c4)
              have hp := pc_bn hp c4
              refine lv_aload_n hx hb dX8_bareIn_35 rfl (lv_at hl 0 rfl) ?_
              refine lv_iload_n hx hb dX8_bareIn_36 rfl (lv_at hl 2 rfl) ?_
              obtain ⟨hn4, hp⟩ := hp
              refine k_VR (As := [.int x2_1]) (rest := []) (q := 48) ⟨hx, hb, hml, hown, hts⟩ hKN hP hS (m_X8_coats l D cI cB ad V x2_1 hn4) (cwV 1 hts gX8_bareIn_X8_coats rfl rfl rfl (by decide +kernel) ⟨(Nat.le_of_ble_eq_true rfl), (Nat.le_of_ble_eq_true rfl)⟩) (c_preV hP hKN (q := 48) (ci := 6) (fs := [.ref (ad 49), .ref (ad 50), .ref (ad 51), .int ((V 48) 0), .ref (ad 52), .int ((V 48) 1), .ref (ad 53), .int ((V 48) 2), .int ((V 48) 3), .int ((V 48) 4), .int ((V 48) 5), .int ((V 48) 6), .int ((V 48) 7)]) (by decide) (ce_md ad cI cB (V 48)) rfl rfl) rfl hl.1 rfl (Nat.le_of_ble_eq_true rfl) dX8_bareIn_37 ⟨Nat.zero_le _, Nat.zero_le _⟩ (fun H locs hP hS => ?_)
              refine lv_goto (tgt := 44) hx hb dX8_bareIn_40 (by decide) ?_
              refine lv_istore_n (lv' := [(1, .int (f_X8_coats V x2_1)), (0, .ref (ad 48)), (2, .int x2_1)]) hx hb dX8_bareIn_44 rfl hl (by decide) rfl (fun ls hl => ?_)
              refine lv_iinc (v := (x2_1 + 1)) (lv' := [(2, .int (x2_1 + 1)), (1, .int (f_X8_coats V x2_1)), (0, .ref (ad 48))]) hx hb dX8_bareIn_45 hl (k := 2) rfl (by rfl) (by decide) rfl (fun ls hl => ?_)
              refine lv_goto (tgt := 4) hx hb dX8_bareIn_48 (by decide) ?_
              exact ih1 (f_X8_coats V x2_1) (x2_1 + 1) hE hp H locs hP hS ls (lv_sub hl [2, 1, 0] rfl)
  exact L1 fu (-1) 0 hE hp _ _ hP hS _ (lv_sub hl [2, 1, 0] rfl)
def f_X8_keep_l1 (fu : Nat)  : Nat → VT → Int32 → Int32 × VT
  | 0, V1, x1_1 => (0, V1)
  | w1 + 1, V1, x1_1 => (if 49 ≤ x1_1 then (((upV V1 48 0 1) 49 (0 : Int32).toNatClampNeg), (upV V1 48 0 1)) else (f_X8_keep_l1 fu  w1 (upV V1 51 x1_1.toNatClampNeg (V1 49 x1_1.toNatClampNeg)) (x1_1 + 1)))
def p_X8_keep_l1 (fu : Nat)  : Nat → VT → Int32 → Prop
  | 0, _, _ => False
  | w1 + 1, V1, x1_1 => ((49 ≤ x1_1 → True) ∧ (¬ (49 ≤ x1_1) → ((vp_in x1_1 49) ∧ ((vp_in x1_1 49) ∧ (p_X8_keep_l1 fu  w1 (upV V1 51 x1_1.toNatClampNeg (V1 49 x1_1.toNatClampNeg)) (x1_1 + 1))))))
def f_X8_keep (fu : Nat) (V : VT)  : Int32 × VT := (f_X8_keep_l1 fu  fu V 0)
def p_X8_keep (fu : Nat) (V : VT)  : Prop := (p_X8_keep_l1 fu  fu V 0)
set_option maxHeartbeats 4000000 in
set_option maxRecDepth 100000 in
theorem m_X8_keep (l : Launch) (D : va_G) (cI cB : ClassId) (ad : Nat → Nat) {A : Nat → Prop} (hA : adOk ad A) (fu : Nat) (V : VT)   (hp : p_X8_keep fu V ) : Met l yX8_keep wsX8_keep ({ frames := 0, cells := 0, slots := 0, locals := 0 }) (cP D cI cB ad V [.ref (ad 48)]) (cWi D cI cB ad A (f_X8_keep fu V)) 0 0 A := by
  refine Met.ofW (cc := cX8_keep) (maxL := 2) (ret := (some .int)) (by decide +kernel) rfl ?_
  intro p e s m args below meth c s₁ B hml hv
  obtain ⟨rfl, hP, hKN⟩ := hv
  have hK := hKN.1
  have hx := B.exec
  have hb := B.bytes
  have hr := B.returns
  have hts := atoms_spec (ws := wsX8_keep) B.pre
  have hown : s.vm.findClass RX8 = some m.cls := findClass_of_methodNamed B.named
  have hlocks := B.notSynchronized
  have hS : va_S A s.heap s.heap [] := va_S.rf
  have hl := lv_entry ([.ref (ad 48)]) (n := 2) (Nat.le_of_ble_eq_true rfl)
  rw [lg_entry_eq]
  generalize (lg_sl ([.ref (ad 48)]) ++ List.replicate (2 - (lg_sl ([.ref (ad 48)])).length) Slot.unset).toArray = ls at hl ⊢
  have hl : lv_has ls 2 [(0, .ref (ad 48))] := hl
  have hE : f_X8_keep fu V = (f_X8_keep_l1 fu  fu V 0) := rfl
  refine lv_iconst (v := 0) hx hb dX8_keep_0 (by decide) ?_
  refine lv_istore_n (lv' := [(1, .int 0), (0, .ref (ad 48))]) hx hb dX8_keep_1 rfl hl (by decide) rfl (fun ls hl => ?_)
  have L1 : ∀ (w1 : Nat) (V1 : VT) (x1_1 : Int32), f_X8_keep fu V = f_X8_keep_l1 fu  w1 V1 x1_1 → p_X8_keep_l1 fu  w1 V1 x1_1 → ∀ (H : Heap) (locs : List Loc), wP D cI cB ad V1 H → va_S A s.heap H locs → ∀ (ls : Array Slot), lv_has ls 2 [(0, .ref (ad 48)), (1, .int x1_1)] → W p l e (headSpec wsX8_keep ({ frames := 0, cells := 0, slots := 0, locals := 0 })).room s m ([.ref (ad 48)] : List Value).toArray below meth c H locs 0 0 (MQ below (cWi D cI cB ad A (f_X8_keep fu V)) ([.ref (ad 48)] : List Value).toArray s 0 0 A) (F0 m 2 ls []) := by
    intro w1
    induction w1 with
    | zero => intro V1 x1_1 hE hp; exact hp.elim
    | succ w1 ih1 =>
      intro V1 x1_1 hE hp H locs hP hS ls hl
      rw [f_X8_keep_l1] at hE
      rw [p_X8_keep_l1] at hp
      refine lv_iload_n hx hb dX8_keep_2 rfl (lv_at hl 1 rfl) ?_
      refine lv_bipush (v := 49) hx hb dX8_keep_3 (by decide) ?_
      refine lv_icmp_ge (tgt := 26) hx hb dX8_keep_5 (by decide) (fun c1 => ?_) (fun c1 => ?_)
      · have hE := hE.trans (if_pos c1)
        refine lv_aload_n hx hb dX8_keep_26 rfl (lv_at hl 0 rfl) ?_
        refine lv_iconst (v := 1) hx hb dX8_keep_27 (by decide) ?_
        refine x_put (ci := 6) (fs := [.ref (ad 49), .ref (ad 50), .ref (ad 51), .int ((V1 48) 0), .ref (ad 52), .int ((V1 48) 1), .ref (ad 53), .int ((V1 48) 2), .int ((V1 48) 3), .int ((V1 48) 4), .int ((V1 48) 5), .int ((V1 48) 6), .int ((V1 48) 7)]) (q := 48) (v := .int 1) (ty := .boolean) (N := 13) hx hb hts (fun _ h => List.mem_cons_of_mem _ (List.mem_append_right _ h)) tyX8 tyX8_ok nmX8 hown hK hP hA hS (by decide) (ce_md ad cI cB (V1 48)) rfl 3 (by decide) (hts (.fieldLink RX8 125 "TurnedBoardsModel" "isKept" "Z") (List.mem_of_getElem? (i := 3) rfl)) rfl rfl (by decide +kernel) rfl rfl (Nat.le_of_ble_eq_true rfl) 0 1 ((ce_md ad cI cB (upd (V1 48) 0 1)).trans rfl) dX8_keep_28 (fun H locs hP hS => ?_)
        refine lv_aload_n hx hb dX8_keep_31 rfl (lv_at hl 0 rfl) ?_
        refine x_get (ci := 6) (fs := [.ref (ad 49), .ref (ad 50), .ref (ad 51), .int (((upV V1 48 0 1) 48) 0), .ref (ad 52), .int (((upV V1 48 0 1) 48) 1), .ref (ad 53), .int (((upV V1 48 0 1) 48) 2), .int (((upV V1 48 0 1) 48) 3), .int (((upV V1 48 0 1) 48) 4), .int (((upV V1 48 0 1) 48) 5), .int (((upV V1 48 0 1) 48) 6), .int (((upV V1 48 0 1) 48) 7)]) (q := 48) (v := .ref (ad 49)) (N := 13) hx hb hts (fun _ h => List.mem_cons_of_mem _ (List.mem_append_right _ h)) hown hK hP (by decide) (ce_md ad cI cB ((upV V1 48 0 1) 48)) rfl 0 (by decide) (hts (.fieldLink RX8 7 "TurnedBoardsModel" "s" "[I") (List.mem_of_getElem? (i := 2) rfl)) rfl rfl dX8_keep_32 ?_
        refine lv_iconst (v := 0) hx hb dX8_keep_35 (by decide) ?_
        refine x_iald hx hb hK hP ⟨by decide, fun _ => rfl, by decide⟩ (vp_lit (i := 0) (n := 49) (by decide) (by decide)) dX8_keep_36 ?_
        exact W.iret (v := ((upV V1 48 0 1) 49 (0 : Int32).toNatClampNeg)) hx hb hr (fun t ht hW => ⟨⟨((upV V1 48 0 1) 49 (0 : Int32).toNatClampNeg), (upV V1 48 0 1), rfl, ⟨(congrArg Prod.fst hE).symm, (congrArg Prod.snd hE).symm⟩, by dsimp only; rw [ht]; exact hP⟩, hS.F ht⟩) hS.2.2 dX8_keep_37
      · have hE := hE.trans (if_neg c1)
        have hp := pc_bn hp c1
        refine lv_aload_n hx hb dX8_keep_8 rfl (lv_at hl 0 rfl) ?_
        refine x_get (ci := 6) (fs := [.ref (ad 49), .ref (ad 50), .ref (ad 51), .int ((V1 48) 0), .ref (ad 52), .int ((V1 48) 1), .ref (ad 53), .int ((V1 48) 2), .int ((V1 48) 3), .int ((V1 48) 4), .int ((V1 48) 5), .int ((V1 48) 6), .int ((V1 48) 7)]) (q := 48) (v := .ref (ad 51)) (N := 13) hx hb hts (fun _ h => List.mem_cons_of_mem _ (List.mem_append_right _ h)) hown hK hP (by decide) (ce_md ad cI cB (V1 48)) rfl 2 (by decide) (hts (.fieldLink RX8 16 "TurnedBoardsModel" "kept" "[I") (List.mem_of_getElem? (i := 1) rfl)) rfl rfl dX8_keep_9 ?_
        refine lv_iload_n hx hb dX8_keep_12 rfl (lv_at hl 1 rfl) ?_
        refine lv_aload_n hx hb dX8_keep_13 rfl (lv_at hl 0 rfl) ?_
        refine x_get (ci := 6) (fs := [.ref (ad 49), .ref (ad 50), .ref (ad 51), .int ((V1 48) 0), .ref (ad 52), .int ((V1 48) 1), .ref (ad 53), .int ((V1 48) 2), .int ((V1 48) 3), .int ((V1 48) 4), .int ((V1 48) 5), .int ((V1 48) 6), .int ((V1 48) 7)]) (q := 48) (v := .ref (ad 49)) (N := 13) hx hb hts (fun _ h => List.mem_cons_of_mem _ (List.mem_append_right _ h)) hown hK hP (by decide) (ce_md ad cI cB (V1 48)) rfl 0 (by decide) (hts (.fieldLink RX8 7 "TurnedBoardsModel" "s" "[I") (List.mem_of_getElem? (i := 2) rfl)) rfl rfl dX8_keep_14 ?_
        refine lv_iload_n hx hb dX8_keep_17 rfl (lv_at hl 1 rfl) ?_
        obtain ⟨hn1, hp⟩ := hp
        refine x_iald hx hb hK hP ⟨by decide, fun _ => rfl, by decide⟩ hn1 dX8_keep_18 ?_
        obtain ⟨hn2, hp⟩ := hp
        refine x_iast hx hb hK hP hA hS ⟨by decide, fun _ => rfl, by decide⟩ hn2 dX8_keep_19 (fun H locs hP hS => ?_)
        refine lv_iinc (v := (x1_1 + 1)) (lv' := [(1, .int (x1_1 + 1)), (0, .ref (ad 48))]) hx hb dX8_keep_20 hl (k := 1) rfl (by rfl) (by decide) rfl (fun ls hl => ?_)
        refine lv_goto (tgt := 2) hx hb dX8_keep_23 (by decide) ?_
        exact ih1 (upV V1 51 x1_1.toNatClampNeg (V1 49 x1_1.toNatClampNeg)) (x1_1 + 1) hE hp H locs hP hS ls (lv_sub hl [1, 0] rfl)
  exact L1 fu V 0 hE hp _ _ hP hS _ (lv_sub hl [1, 0] rfl)
def f_X8_restore_l1 (fu : Nat)  : Nat → VT → Int32 → Int32 × VT
  | 0, V1, x1_1 => (0, V1)
  | w1 + 1, V1, x1_1 => (if 49 ≤ x1_1 then ((f_X8_acted fu V1 (V1 49 (0 : Int32).toNatClampNeg)).1, (f_X8_acted fu V1 (V1 49 (0 : Int32).toNatClampNeg)).2) else (f_X8_restore_l1 fu  w1 (upV V1 49 x1_1.toNatClampNeg (V1 51 x1_1.toNatClampNeg)) (x1_1 + 1)))
def p_X8_restore_l1 (fu : Nat)  : Nat → VT → Int32 → Prop
  | 0, _, _ => False
  | w1 + 1, V1, x1_1 => ((49 ≤ x1_1 → (p_X8_acted fu V1 (V1 49 (0 : Int32).toNatClampNeg))) ∧ (¬ (49 ≤ x1_1) → ((vp_in x1_1 49) ∧ ((vp_in x1_1 49) ∧ (p_X8_restore_l1 fu  w1 (upV V1 49 x1_1.toNatClampNeg (V1 51 x1_1.toNatClampNeg)) (x1_1 + 1))))))
def f_X8_restore (fu : Nat) (V : VT)  : Int32 × VT := (if ((f_X8_begins fu V) 48 0) = 0 then ((-1002), (f_X8_begins fu V)) else (f_X8_restore_l1 fu  fu (f_X8_begins fu V) 0))
def p_X8_restore (fu : Nat) (V : VT)  : Prop := ((p_X8_begins fu V ) ∧ ((((f_X8_begins fu V) 48 0) = 0 → True) ∧ (¬ (((f_X8_begins fu V) 48 0) = 0) → (p_X8_restore_l1 fu  fu (f_X8_begins fu V) 0))))
set_option maxHeartbeats 4000000 in
set_option maxRecDepth 100000 in
theorem m_X8_restore (l : Launch) (D : va_G) (cI cB : ClassId) (ad : Nat → Nat) {A : Nat → Prop} (hA : adOk ad A) (fu : Nat) (V : VT)   (hp : p_X8_restore fu V ) : Met l yX8_restore wsX8_restore ({ frames := 1, cells := 0, slots := 0, locals := 22 }) (cP D cI cB ad V [.ref (ad 48)]) (cWi D cI cB ad A (f_X8_restore fu V)) 0 0 A := by
  refine Met.ofW (cc := cX8_restore) (maxL := 2) (ret := (some .int)) (by decide +kernel) rfl ?_
  intro p e s m args below meth c s₁ B hml hv
  obtain ⟨rfl, hP, hKN⟩ := hv
  have hK := hKN.1
  have hx := B.exec
  have hb := B.bytes
  have hr := B.returns
  have hts := atoms_spec (ws := wsX8_restore) B.pre
  have hown : s.vm.findClass RX8 = some m.cls := findClass_of_methodNamed B.named
  have hlocks := B.notSynchronized
  have hS : va_S A s.heap s.heap [] := va_S.rf
  have hl := lv_entry ([.ref (ad 48)]) (n := 2) (Nat.le_of_ble_eq_true rfl)
  rw [lg_entry_eq]
  generalize (lg_sl ([.ref (ad 48)]) ++ List.replicate (2 - (lg_sl ([.ref (ad 48)])).length) Slot.unset).toArray = ls at hl ⊢
  have hl : lv_has ls 2 [(0, .ref (ad 48))] := hl
  have hE : f_X8_restore fu V = (if ((f_X8_begins fu V) 48 0) = 0 then ((-1002), (f_X8_begins fu V)) else (f_X8_restore_l1 fu  fu (f_X8_begins fu V) 0)) := rfl
  refine lv_aload_n hx hb dX8_restore_0 rfl (lv_at hl 0 rfl) ?_
  obtain ⟨hn1, hp⟩ := hp
  refine k_VWv (As := []) (rest := []) (q := 48) ⟨hx, hb, hml, hown, hts⟩ hKN hP hS (m_X8_begins l D cI cB ad hA fu V hn1) (cwV 0 hts gX8_restore_X8_begins rfl rfl rfl (by decide +kernel) ⟨(Nat.le_of_ble_eq_true rfl), (Nat.le_of_ble_eq_true rfl)⟩) (c_preV hP hKN (q := 48) (ci := 6) (fs := [.ref (ad 49), .ref (ad 50), .ref (ad 51), .int ((V 48) 0), .ref (ad 52), .int ((V 48) 1), .ref (ad 53), .int ((V 48) 2), .int ((V 48) 3), .int ((V 48) 4), .int ((V 48) 5), .int ((V 48) 6), .int ((V 48) 7)]) (by decide) (ce_md ad cI cB (V 48)) rfl rfl) rfl hl.1 rfl (Nat.le_of_ble_eq_true rfl) dX8_restore_1 ⟨Nat.zero_le _, Nat.zero_le _⟩ (fun H locs hP hS => ?_)
  refine lv_aload_n hx hb dX8_restore_4 rfl (lv_at hl 0 rfl) ?_
  refine x_get (ci := 6) (fs := [.ref (ad 49), .ref (ad 50), .ref (ad 51), .int (((f_X8_begins fu V) 48) 0), .ref (ad 52), .int (((f_X8_begins fu V) 48) 1), .ref (ad 53), .int (((f_X8_begins fu V) 48) 2), .int (((f_X8_begins fu V) 48) 3), .int (((f_X8_begins fu V) 48) 4), .int (((f_X8_begins fu V) 48) 5), .int (((f_X8_begins fu V) 48) 6), .int (((f_X8_begins fu V) 48) 7)]) (q := 48) (v := .int ((f_X8_begins fu V) 48 0)) (N := 13) hx hb hts (fun _ h => List.mem_cons_of_mem _ (List.mem_append_right _ h)) hown hK hP (by decide) (ce_md ad cI cB ((f_X8_begins fu V) 48)) rfl 3 (by decide) (hts (.fieldLink RX8 125 "TurnedBoardsModel" "isKept" "Z") (List.mem_of_getElem? (i := 1) rfl)) rfl rfl dX8_restore_5 ?_
  refine lv_if_ne (tgt := 15) hx hb dX8_restore_8 (by decide) (fun c1 => ?_) (fun c1 => ?_)
  · have hE := hE.trans (if_neg c1)
    have hp := pc_bn hp c1
    refine lv_iconst (v := 0) hx hb dX8_restore_15 (by decide) ?_
    refine lv_istore_n (lv' := [(1, .int 0), (0, .ref (ad 48))]) hx hb dX8_restore_16 rfl hl (by decide) rfl (fun ls hl => ?_)
    have L1 : ∀ (w1 : Nat) (V1 : VT) (x1_1 : Int32), f_X8_restore fu V = f_X8_restore_l1 fu  w1 V1 x1_1 → p_X8_restore_l1 fu  w1 V1 x1_1 → ∀ (H : Heap) (locs : List Loc), wP D cI cB ad V1 H → va_S A s.heap H locs → ∀ (ls : Array Slot), lv_has ls 2 [(0, .ref (ad 48)), (1, .int x1_1)] → W p l e (headSpec wsX8_restore ({ frames := 1, cells := 0, slots := 0, locals := 22 })).room s m ([.ref (ad 48)] : List Value).toArray below meth c H locs 0 0 (MQ below (cWi D cI cB ad A (f_X8_restore fu V)) ([.ref (ad 48)] : List Value).toArray s 0 0 A) (F0 m 17 ls []) := by
      intro w1
      induction w1 with
      | zero => intro V1 x1_1 hE hp; exact hp.elim
      | succ w1 ih1 =>
        intro V1 x1_1 hE hp H locs hP hS ls hl
        rw [f_X8_restore_l1] at hE
        rw [p_X8_restore_l1] at hp
        refine lv_iload_n hx hb dX8_restore_17 rfl (lv_at hl 1 rfl) ?_
        refine lv_bipush (v := 49) hx hb dX8_restore_18 (by decide) ?_
        refine lv_icmp_ge (tgt := 41) hx hb dX8_restore_20 (by decide) (fun c2 => ?_) (fun c2 => ?_)
        · have hE := hE.trans (if_pos c2)
          have hp := pc_br hp c2
          refine lv_aload_n hx hb dX8_restore_41 rfl (lv_at hl 0 rfl) ?_
          refine lv_aload_n hx hb dX8_restore_42 rfl (lv_at hl 0 rfl) ?_
          refine x_get (ci := 6) (fs := [.ref (ad 49), .ref (ad 50), .ref (ad 51), .int ((V1 48) 0), .ref (ad 52), .int ((V1 48) 1), .ref (ad 53), .int ((V1 48) 2), .int ((V1 48) 3), .int ((V1 48) 4), .int ((V1 48) 5), .int ((V1 48) 6), .int ((V1 48) 7)]) (q := 48) (v := .ref (ad 49)) (N := 13) hx hb hts (fun _ h => List.mem_cons_of_mem _ (List.mem_append_right _ h)) hown hK hP (by decide) (ce_md ad cI cB (V1 48)) rfl 0 (by decide) (hts (.fieldLink RX8 7 "TurnedBoardsModel" "s" "[I") (List.mem_of_getElem? (i := 2) rfl)) rfl rfl dX8_restore_43 ?_
          refine lv_iconst (v := 0) hx hb dX8_restore_46 (by decide) ?_
          refine x_iald hx hb hK hP ⟨by decide, fun _ => rfl, by decide⟩ (vp_lit (i := 0) (n := 49) (by decide) (by decide)) dX8_restore_47 ?_
          have hn2 := hp
          refine k_VWi (As := [.int (V1 49 (0 : Int32).toNatClampNeg)]) (rest := []) (q := 48) ⟨hx, hb, hml, hown, hts⟩ hKN hP hS (m_X8_acted l D cI cB ad hA fu V1 (V1 49 (0 : Int32).toNatClampNeg) hn2) (cwV 1 hts gX8_restore_X8_acted rfl rfl rfl (by decide +kernel) ⟨(Nat.le_of_ble_eq_true rfl), (Nat.le_of_ble_eq_true rfl)⟩) (c_preV hP hKN (q := 48) (ci := 6) (fs := [.ref (ad 49), .ref (ad 50), .ref (ad 51), .int ((V1 48) 0), .ref (ad 52), .int ((V1 48) 1), .ref (ad 53), .int ((V1 48) 2), .int ((V1 48) 3), .int ((V1 48) 4), .int ((V1 48) 5), .int ((V1 48) 6), .int ((V1 48) 7)]) (by decide) (ce_md ad cI cB (V1 48)) rfl rfl) rfl hl.1 rfl (Nat.le_of_ble_eq_true rfl) dX8_restore_48 ⟨Nat.zero_le _, Nat.zero_le _⟩ (fun H locs hP hS => ?_)
          exact W.iret (v := (f_X8_acted fu V1 (V1 49 (0 : Int32).toNatClampNeg)).1) hx hb hr (fun t ht hW => ⟨⟨(f_X8_acted fu V1 (V1 49 (0 : Int32).toNatClampNeg)).1, (f_X8_acted fu V1 (V1 49 (0 : Int32).toNatClampNeg)).2, rfl, ⟨(congrArg Prod.fst hE).symm, (congrArg Prod.snd hE).symm⟩, by dsimp only; rw [ht]; exact hP⟩, hS.F ht⟩) hS.2.2 dX8_restore_51
        · have hE := hE.trans (if_neg c2)
          have hp := pc_bn hp c2
          refine lv_aload_n hx hb dX8_restore_23 rfl (lv_at hl 0 rfl) ?_
          refine x_get (ci := 6) (fs := [.ref (ad 49), .ref (ad 50), .ref (ad 51), .int ((V1 48) 0), .ref (ad 52), .int ((V1 48) 1), .ref (ad 53), .int ((V1 48) 2), .int ((V1 48) 3), .int ((V1 48) 4), .int ((V1 48) 5), .int ((V1 48) 6), .int ((V1 48) 7)]) (q := 48) (v := .ref (ad 49)) (N := 13) hx hb hts (fun _ h => List.mem_cons_of_mem _ (List.mem_append_right _ h)) hown hK hP (by decide) (ce_md ad cI cB (V1 48)) rfl 0 (by decide) (hts (.fieldLink RX8 7 "TurnedBoardsModel" "s" "[I") (List.mem_of_getElem? (i := 2) rfl)) rfl rfl dX8_restore_24 ?_
          refine lv_iload_n hx hb dX8_restore_27 rfl (lv_at hl 1 rfl) ?_
          refine lv_aload_n hx hb dX8_restore_28 rfl (lv_at hl 0 rfl) ?_
          refine x_get (ci := 6) (fs := [.ref (ad 49), .ref (ad 50), .ref (ad 51), .int ((V1 48) 0), .ref (ad 52), .int ((V1 48) 1), .ref (ad 53), .int ((V1 48) 2), .int ((V1 48) 3), .int ((V1 48) 4), .int ((V1 48) 5), .int ((V1 48) 6), .int ((V1 48) 7)]) (q := 48) (v := .ref (ad 51)) (N := 13) hx hb hts (fun _ h => List.mem_cons_of_mem _ (List.mem_append_right _ h)) hown hK hP (by decide) (ce_md ad cI cB (V1 48)) rfl 2 (by decide) (hts (.fieldLink RX8 16 "TurnedBoardsModel" "kept" "[I") (List.mem_of_getElem? (i := 3) rfl)) rfl rfl dX8_restore_29 ?_
          refine lv_iload_n hx hb dX8_restore_32 rfl (lv_at hl 1 rfl) ?_
          obtain ⟨hn3, hp⟩ := hp
          refine x_iald hx hb hK hP ⟨by decide, fun _ => rfl, by decide⟩ hn3 dX8_restore_33 ?_
          obtain ⟨hn4, hp⟩ := hp
          refine x_iast hx hb hK hP hA hS ⟨by decide, fun _ => rfl, by decide⟩ hn4 dX8_restore_34 (fun H locs hP hS => ?_)
          refine lv_iinc (v := (x1_1 + 1)) (lv' := [(1, .int (x1_1 + 1)), (0, .ref (ad 48))]) hx hb dX8_restore_35 hl (k := 1) rfl (by rfl) (by decide) rfl (fun ls hl => ?_)
          refine lv_goto (tgt := 17) hx hb dX8_restore_38 (by decide) ?_
          exact ih1 (upV V1 49 x1_1.toNatClampNeg (V1 51 x1_1.toNatClampNeg)) (x1_1 + 1) hE hp H locs hP hS ls (lv_sub hl [1, 0] rfl)
    exact L1 fu (f_X8_begins fu V) 0 hE hp _ _ hP hS _ (lv_sub hl [1, 0] rfl)
  · have hE := hE.trans (if_pos c1)
    refine lv_sipush (v := (-1002)) hx hb dX8_restore_11 (by decide) ?_
    exact W.iret (v := (-1002)) hx hb hr (fun t ht hW => ⟨⟨(-1002), (f_X8_begins fu V), rfl, ⟨(congrArg Prod.fst hE).symm, (congrArg Prod.snd hE).symm⟩, by dsimp only; rw [ht]; exact hP⟩, hS.F ht⟩) hS.2.2 dX8_restore_14
def f_X8_undo_l1 (fu : Nat)  : Nat → VT → Int32 → Int32 × VT
  | 0, V1, x1_1 => (0, V1)
  | w1 + 1, V1, x1_1 => (if 49 ≤ x1_1 then ((V1 48 1), V1) else (f_X8_undo_l1 fu  w1 (upV V1 49 x1_1.toNatClampNeg (V1 52 ((49 * (V1 48 1)) + x1_1).toNatClampNeg)) (x1_1 + 1)))
def p_X8_undo_l1 (fu : Nat)  : Nat → VT → Int32 → Prop
  | 0, _, _ => False
  | w1 + 1, V1, x1_1 => ((49 ≤ x1_1 → True) ∧ (¬ (49 ≤ x1_1) → ((vp_in ((49 * (V1 48 1)) + x1_1) 196) ∧ ((vp_in x1_1 49) ∧ (p_X8_undo_l1 fu  w1 (upV V1 49 x1_1.toNatClampNeg (V1 52 ((49 * (V1 48 1)) + x1_1).toNatClampNeg)) (x1_1 + 1))))))
def f_X8_undo (fu : Nat) (V : VT)  : Int32 × VT := (if (V 48 1) = 0 then ((-1002), V) else (f_X8_undo_l1 fu  fu (upV V 48 1 ((V 48 1) - 1)) 0))
def p_X8_undo (fu : Nat) (V : VT)  : Prop := (((V 48 1) = 0 → True) ∧ (¬ ((V 48 1) = 0) → (p_X8_undo_l1 fu  fu (upV V 48 1 ((V 48 1) - 1)) 0)))
set_option maxHeartbeats 4000000 in
set_option maxRecDepth 100000 in
theorem m_X8_undo (l : Launch) (D : va_G) (cI cB : ClassId) (ad : Nat → Nat) {A : Nat → Prop} (hA : adOk ad A) (fu : Nat) (V : VT)   (hp : p_X8_undo fu V ) : Met l yX8_undo wsX8_undo ({ frames := 0, cells := 0, slots := 0, locals := 0 }) (cP D cI cB ad V [.ref (ad 48)]) (cWi D cI cB ad A (f_X8_undo fu V)) 0 0 A := by
  refine Met.ofW (cc := cX8_undo) (maxL := 2) (ret := (some .int)) (by decide +kernel) rfl ?_
  intro p e s m args below meth c s₁ B hml hv
  obtain ⟨rfl, hP, hKN⟩ := hv
  have hK := hKN.1
  have hx := B.exec
  have hb := B.bytes
  have hr := B.returns
  have hts := atoms_spec (ws := wsX8_undo) B.pre
  have hown : s.vm.findClass RX8 = some m.cls := findClass_of_methodNamed B.named
  have hlocks := B.notSynchronized
  have hS : va_S A s.heap s.heap [] := va_S.rf
  have hl := lv_entry ([.ref (ad 48)]) (n := 2) (Nat.le_of_ble_eq_true rfl)
  rw [lg_entry_eq]
  generalize (lg_sl ([.ref (ad 48)]) ++ List.replicate (2 - (lg_sl ([.ref (ad 48)])).length) Slot.unset).toArray = ls at hl ⊢
  have hl : lv_has ls 2 [(0, .ref (ad 48))] := hl
  have hE : f_X8_undo fu V = (if (V 48 1) = 0 then ((-1002), V) else (f_X8_undo_l1 fu  fu (upV V 48 1 ((V 48 1) - 1)) 0)) := rfl
  refine lv_aload_n hx hb dX8_undo_0 rfl (lv_at hl 0 rfl) ?_
  refine x_get (ci := 6) (fs := [.ref (ad 49), .ref (ad 50), .ref (ad 51), .int ((V 48) 0), .ref (ad 52), .int ((V 48) 1), .ref (ad 53), .int ((V 48) 2), .int ((V 48) 3), .int ((V 48) 4), .int ((V 48) 5), .int ((V 48) 6), .int ((V 48) 7)]) (q := 48) (v := .int (V 48 1)) (N := 13) hx hb hts (fun _ h => List.mem_cons_of_mem _ (List.mem_append_right _ h)) hown hK hP (by decide) (ce_md ad cI cB (V 48)) rfl 5 (by decide) (hts (.fieldLink RX8 25 "TurnedBoardsModel" "states" "I") (List.mem_of_getElem? (i := 1) rfl)) rfl rfl dX8_undo_1 ?_
  refine lv_if_ne (tgt := 11) hx hb dX8_undo_4 (by decide) (fun c1 => ?_) (fun c1 => ?_)
  · have hE := hE.trans (if_neg c1)
    have hp := pc_bn hp c1
    refine lv_aload_n hx hb dX8_undo_11 rfl (lv_at hl 0 rfl) ?_
    refine lv_dup hx hb dX8_undo_12 rfl ?_
    refine x_get (ci := 6) (fs := [.ref (ad 49), .ref (ad 50), .ref (ad 51), .int ((V 48) 0), .ref (ad 52), .int ((V 48) 1), .ref (ad 53), .int ((V 48) 2), .int ((V 48) 3), .int ((V 48) 4), .int ((V 48) 5), .int ((V 48) 6), .int ((V 48) 7)]) (q := 48) (v := .int (V 48 1)) (N := 13) hx hb hts (fun _ h => List.mem_cons_of_mem _ (List.mem_append_right _ h)) hown hK hP (by decide) (ce_md ad cI cB (V 48)) rfl 5 (by decide) (hts (.fieldLink RX8 25 "TurnedBoardsModel" "states" "I") (List.mem_of_getElem? (i := 1) rfl)) rfl rfl dX8_undo_13 ?_
    refine lv_iconst (v := 1) hx hb dX8_undo_16 (by decide) ?_
    refine lv_isub hx hb dX8_undo_17 ?_
    refine x_put (ci := 6) (fs := [.ref (ad 49), .ref (ad 50), .ref (ad 51), .int ((V 48) 0), .ref (ad 52), .int ((V 48) 1), .ref (ad 53), .int ((V 48) 2), .int ((V 48) 3), .int ((V 48) 4), .int ((V 48) 5), .int ((V 48) 6), .int ((V 48) 7)]) (q := 48) (v := .int ((V 48 1) - 1)) (ty := .int) (N := 13) hx hb hts (fun _ h => List.mem_cons_of_mem _ (List.mem_append_right _ h)) tyX8 tyX8_ok nmX8 hown hK hP hA hS (by decide) (ce_md ad cI cB (V 48)) rfl 5 (by decide) (hts (.fieldLink RX8 25 "TurnedBoardsModel" "states" "I") (List.mem_of_getElem? (i := 1) rfl)) rfl rfl (by decide +kernel) rfl rfl (Nat.le_of_ble_eq_true rfl) 1 ((V 48 1) - 1) ((ce_md ad cI cB (upd (V 48) 1 ((V 48 1) - 1))).trans rfl) dX8_undo_18 (fun H locs hP hS => ?_)
    refine lv_iconst (v := 0) hx hb dX8_undo_21 (by decide) ?_
    refine lv_istore_n (lv' := [(1, .int 0), (0, .ref (ad 48))]) hx hb dX8_undo_22 rfl hl (by decide) rfl (fun ls hl => ?_)
    have L1 : ∀ (w1 : Nat) (V1 : VT) (x1_1 : Int32), f_X8_undo fu V = f_X8_undo_l1 fu  w1 V1 x1_1 → p_X8_undo_l1 fu  w1 V1 x1_1 → ∀ (H : Heap) (locs : List Loc), wP D cI cB ad V1 H → va_S A s.heap H locs → ∀ (ls : Array Slot), lv_has ls 2 [(0, .ref (ad 48)), (1, .int x1_1)] → W p l e (headSpec wsX8_undo ({ frames := 0, cells := 0, slots := 0, locals := 0 })).room s m ([.ref (ad 48)] : List Value).toArray below meth c H locs 0 0 (MQ below (cWi D cI cB ad A (f_X8_undo fu V)) ([.ref (ad 48)] : List Value).toArray s 0 0 A) (F0 m 23 ls []) := by
      intro w1
      induction w1 with
      | zero => intro V1 x1_1 hE hp; exact hp.elim
      | succ w1 ih1 =>
        intro V1 x1_1 hE hp H locs hP hS ls hl
        rw [f_X8_undo_l1] at hE
        rw [p_X8_undo_l1] at hp
        refine lv_iload_n hx hb dX8_undo_23 rfl (lv_at hl 1 rfl) ?_
        refine lv_bipush (v := 49) hx hb dX8_undo_24 (by decide) ?_
        refine lv_icmp_ge (tgt := 55) hx hb dX8_undo_26 (by decide) (fun c2 => ?_) (fun c2 => ?_)
        · have hE := hE.trans (if_pos c2)
          refine lv_aload_n hx hb dX8_undo_55 rfl (lv_at hl 0 rfl) ?_
          refine x_get (ci := 6) (fs := [.ref (ad 49), .ref (ad 50), .ref (ad 51), .int ((V1 48) 0), .ref (ad 52), .int ((V1 48) 1), .ref (ad 53), .int ((V1 48) 2), .int ((V1 48) 3), .int ((V1 48) 4), .int ((V1 48) 5), .int ((V1 48) 6), .int ((V1 48) 7)]) (q := 48) (v := .int (V1 48 1)) (N := 13) hx hb hts (fun _ h => List.mem_cons_of_mem _ (List.mem_append_right _ h)) hown hK hP (by decide) (ce_md ad cI cB (V1 48)) rfl 5 (by decide) (hts (.fieldLink RX8 25 "TurnedBoardsModel" "states" "I") (List.mem_of_getElem? (i := 1) rfl)) rfl rfl dX8_undo_56 ?_
          exact W.iret (v := (V1 48 1)) hx hb hr (fun t ht hW => ⟨⟨(V1 48 1), V1, rfl, ⟨(congrArg Prod.fst hE).symm, (congrArg Prod.snd hE).symm⟩, by dsimp only; rw [ht]; exact hP⟩, hS.F ht⟩) hS.2.2 dX8_undo_59
        · have hE := hE.trans (if_neg c2)
          have hp := pc_bn hp c2
          refine lv_aload_n hx hb dX8_undo_29 rfl (lv_at hl 0 rfl) ?_
          refine x_get (ci := 6) (fs := [.ref (ad 49), .ref (ad 50), .ref (ad 51), .int ((V1 48) 0), .ref (ad 52), .int ((V1 48) 1), .ref (ad 53), .int ((V1 48) 2), .int ((V1 48) 3), .int ((V1 48) 4), .int ((V1 48) 5), .int ((V1 48) 6), .int ((V1 48) 7)]) (q := 48) (v := .ref (ad 49)) (N := 13) hx hb hts (fun _ h => List.mem_cons_of_mem _ (List.mem_append_right _ h)) hown hK hP (by decide) (ce_md ad cI cB (V1 48)) rfl 0 (by decide) (hts (.fieldLink RX8 7 "TurnedBoardsModel" "s" "[I") (List.mem_of_getElem? (i := 2) rfl)) rfl rfl dX8_undo_30 ?_
          refine lv_iload_n hx hb dX8_undo_33 rfl (lv_at hl 1 rfl) ?_
          refine lv_aload_n hx hb dX8_undo_34 rfl (lv_at hl 0 rfl) ?_
          refine x_get (ci := 6) (fs := [.ref (ad 49), .ref (ad 50), .ref (ad 51), .int ((V1 48) 0), .ref (ad 52), .int ((V1 48) 1), .ref (ad 53), .int ((V1 48) 2), .int ((V1 48) 3), .int ((V1 48) 4), .int ((V1 48) 5), .int ((V1 48) 6), .int ((V1 48) 7)]) (q := 48) (v := .ref (ad 52)) (N := 13) hx hb hts (fun _ h => List.mem_cons_of_mem _ (List.mem_append_right _ h)) hown hK hP (by decide) (ce_md ad cI cB (V1 48)) rfl 4 (by decide) (hts (.fieldLink RX8 19 "TurnedBoardsModel" "past" "[I") (List.mem_of_getElem? (i := 3) rfl)) rfl rfl dX8_undo_35 ?_
          refine lv_bipush (v := 49) hx hb dX8_undo_38 (by decide) ?_
          refine lv_aload_n hx hb dX8_undo_40 rfl (lv_at hl 0 rfl) ?_
          refine x_get (ci := 6) (fs := [.ref (ad 49), .ref (ad 50), .ref (ad 51), .int ((V1 48) 0), .ref (ad 52), .int ((V1 48) 1), .ref (ad 53), .int ((V1 48) 2), .int ((V1 48) 3), .int ((V1 48) 4), .int ((V1 48) 5), .int ((V1 48) 6), .int ((V1 48) 7)]) (q := 48) (v := .int (V1 48 1)) (N := 13) hx hb hts (fun _ h => List.mem_cons_of_mem _ (List.mem_append_right _ h)) hown hK hP (by decide) (ce_md ad cI cB (V1 48)) rfl 5 (by decide) (hts (.fieldLink RX8 25 "TurnedBoardsModel" "states" "I") (List.mem_of_getElem? (i := 1) rfl)) rfl rfl dX8_undo_41 ?_
          refine lv_imul hx hb dX8_undo_44 ?_
          refine lv_iload_n hx hb dX8_undo_45 rfl (lv_at hl 1 rfl) ?_
          refine lv_iadd hx hb dX8_undo_46 ?_
          obtain ⟨hn1, hp⟩ := hp
          refine x_iald hx hb hK hP ⟨by decide, fun _ => rfl, by decide⟩ hn1 dX8_undo_47 ?_
          obtain ⟨hn2, hp⟩ := hp
          refine x_iast hx hb hK hP hA hS ⟨by decide, fun _ => rfl, by decide⟩ hn2 dX8_undo_48 (fun H locs hP hS => ?_)
          refine lv_iinc (v := (x1_1 + 1)) (lv' := [(1, .int (x1_1 + 1)), (0, .ref (ad 48))]) hx hb dX8_undo_49 hl (k := 1) rfl (by rfl) (by decide) rfl (fun ls hl => ?_)
          refine lv_goto (tgt := 23) hx hb dX8_undo_52 (by decide) ?_
          exact ih1 (upV V1 49 x1_1.toNatClampNeg (V1 52 ((49 * (V1 48 1)) + x1_1).toNatClampNeg)) (x1_1 + 1) hE hp H locs hP hS ls (lv_sub hl [1, 0] rfl)
    exact L1 fu (upV V 48 1 ((V 48 1) - 1)) 0 hE hp _ _ hP hS _ (lv_sub hl [1, 0] rfl)
  · have hE := hE.trans (if_pos c1)
    refine lv_sipush (v := (-1002)) hx hb dX8_undo_7 (by decide) ?_
    exact W.iret (v := (-1002)) hx hb hr (fun t ht hW => ⟨⟨(-1002), V, rfl, ⟨(congrArg Prod.fst hE).symm, (congrArg Prod.snd hE).symm⟩, by dsimp only; rw [ht]; exact hP⟩, hS.F ht⟩) hS.2.2 dX8_undo_10
def f_X8_type (V : VT) (p1 : Int32) : Int32 × VT := (if (f_X8_in V p1 32 126) = 0 then ((-1001), V) else (if (V 48 2) = 30 then ((-1003), V) else (((upV (upV V 53 (V 48 2).toNatClampNeg p1) 48 2 (((upV V 53 (V 48 2).toNatClampNeg p1) 48 2) + 1)) 48 2), (upV (upV V 53 (V 48 2).toNatClampNeg p1) 48 2 (((upV V 53 (V 48 2).toNatClampNeg p1) 48 2) + 1)))))
def p_X8_type (V : VT) (p1 : Int32) : Prop := (((f_X8_in V p1 32 126) = 0 → True) ∧ (¬ ((f_X8_in V p1 32 126) = 0) → (((V 48 2) = 30 → True) ∧ (¬ ((V 48 2) = 30) → (vp_in (V 48 2) 30)))))
set_option maxHeartbeats 4000000 in
set_option maxRecDepth 100000 in
theorem m_X8_type (l : Launch) (D : va_G) (cI cB : ClassId) (ad : Nat → Nat) {A : Nat → Prop} (hA : adOk ad A) (V : VT) (p1 : Int32)  (hp : p_X8_type V p1) : Met l yX8_type wsX8_type ({ frames := 1, cells := 0, slots := 0, locals := 22 }) (cP D cI cB ad V [.ref (ad 48), .int p1]) (cWi D cI cB ad A (f_X8_type V p1)) 0 0 A := by
  refine Met.ofW (cc := cX8_type) (maxL := 2) (ret := (some .int)) (by decide +kernel) rfl ?_
  intro p e s m args below meth c s₁ B hml hv
  obtain ⟨rfl, hP, hKN⟩ := hv
  have hK := hKN.1
  have hx := B.exec
  have hb := B.bytes
  have hr := B.returns
  have hts := atoms_spec (ws := wsX8_type) B.pre
  have hown : s.vm.findClass RX8 = some m.cls := findClass_of_methodNamed B.named
  have hlocks := B.notSynchronized
  have hS : va_S A s.heap s.heap [] := va_S.rf
  have hl := lv_entry ([.ref (ad 48), .int p1]) (n := 2) (Nat.le_of_ble_eq_true rfl)
  rw [lg_entry_eq]
  generalize (lg_sl ([.ref (ad 48), .int p1]) ++ List.replicate (2 - (lg_sl ([.ref (ad 48), .int p1])).length) Slot.unset).toArray = ls at hl ⊢
  have hl : lv_has ls 2 [(0, .ref (ad 48)), (1, .int p1)] := hl
  have hE : f_X8_type V p1 = (if (f_X8_in V p1 32 126) = 0 then ((-1001), V) else (if (V 48 2) = 30 then ((-1003), V) else (((upV (upV V 53 (V 48 2).toNatClampNeg p1) 48 2 (((upV V 53 (V 48 2).toNatClampNeg p1) 48 2) + 1)) 48 2), (upV (upV V 53 (V 48 2).toNatClampNeg p1) 48 2 (((upV V 53 (V 48 2).toNatClampNeg p1) 48 2) + 1))))) := rfl
  refine lv_iload_n hx hb dX8_type_0 rfl (lv_at hl 1 rfl) ?_
  refine lv_bipush (v := 32) hx hb dX8_type_1 (by decide) ?_
  refine lv_bipush (v := 126) hx hb dX8_type_3 (by decide) ?_
  refine k_SR (As := [.int p1, .int 32, .int 126]) (rest := []) ⟨hx, hb, hml, hown, hts⟩ hKN hP hS (m_X8_in l D cI cB ad V p1 32 126) (va_cwS 3 hts gX8_type_X8_in rfl rfl rfl (by decide +kernel) ⟨(Nat.le_of_ble_eq_true rfl), (Nat.le_of_ble_eq_true rfl)⟩) rfl hl.1 rfl (Nat.le_of_ble_eq_true rfl) dX8_type_5 ⟨Nat.zero_le _, Nat.zero_le _⟩ (fun H locs hP hS => ?_)
  refine lv_if_ne (tgt := 15) hx hb dX8_type_8 (by decide) (fun c1 => ?_) (fun c1 => ?_)
  · have hE := hE.trans (if_neg c1)
    have hp := pc_bn hp c1
    refine lv_aload_n hx hb dX8_type_15 rfl (lv_at hl 0 rfl) ?_
    refine x_get (ci := 6) (fs := [.ref (ad 49), .ref (ad 50), .ref (ad 51), .int ((V 48) 0), .ref (ad 52), .int ((V 48) 1), .ref (ad 53), .int ((V 48) 2), .int ((V 48) 3), .int ((V 48) 4), .int ((V 48) 5), .int ((V 48) 6), .int ((V 48) 7)]) (q := 48) (v := .int (V 48 2)) (N := 13) hx hb hts (fun _ h => List.mem_cons_of_mem _ (List.mem_append_right _ h)) hown hK hP (by decide) (ce_md ad cI cB (V 48)) rfl 7 (by decide) (hts (.fieldLink RX8 122 "TurnedBoardsModel" "length" "I") (List.mem_of_getElem? (i := 1) rfl)) rfl rfl dX8_type_16 ?_
    refine lv_bipush (v := 30) hx hb dX8_type_19 (by decide) ?_
    refine lv_icmp_ne (tgt := 28) hx hb dX8_type_21 (by decide) (fun c2 => ?_) (fun c2 => ?_)
    · have hE := hE.trans (if_neg c2)
      have hp := pc_bn hp c2
      refine lv_aload_n hx hb dX8_type_28 rfl (lv_at hl 0 rfl) ?_
      refine x_get (ci := 6) (fs := [.ref (ad 49), .ref (ad 50), .ref (ad 51), .int ((V 48) 0), .ref (ad 52), .int ((V 48) 1), .ref (ad 53), .int ((V 48) 2), .int ((V 48) 3), .int ((V 48) 4), .int ((V 48) 5), .int ((V 48) 6), .int ((V 48) 7)]) (q := 48) (v := .ref (ad 53)) (N := 13) hx hb hts (fun _ h => List.mem_cons_of_mem _ (List.mem_append_right _ h)) hown hK hP (by decide) (ce_md ad cI cB (V 48)) rfl 6 (by decide) (hts (.fieldLink RX8 22 "TurnedBoardsModel" "text" "[I") (List.mem_of_getElem? (i := 2) rfl)) rfl rfl dX8_type_29 ?_
      refine lv_aload_n hx hb dX8_type_32 rfl (lv_at hl 0 rfl) ?_
      refine x_get (ci := 6) (fs := [.ref (ad 49), .ref (ad 50), .ref (ad 51), .int ((V 48) 0), .ref (ad 52), .int ((V 48) 1), .ref (ad 53), .int ((V 48) 2), .int ((V 48) 3), .int ((V 48) 4), .int ((V 48) 5), .int ((V 48) 6), .int ((V 48) 7)]) (q := 48) (v := .int (V 48 2)) (N := 13) hx hb hts (fun _ h => List.mem_cons_of_mem _ (List.mem_append_right _ h)) hown hK hP (by decide) (ce_md ad cI cB (V 48)) rfl 7 (by decide) (hts (.fieldLink RX8 122 "TurnedBoardsModel" "length" "I") (List.mem_of_getElem? (i := 1) rfl)) rfl rfl dX8_type_33 ?_
      refine lv_iload_n hx hb dX8_type_36 rfl (lv_at hl 1 rfl) ?_
      have hn1 := hp
      refine x_iast hx hb hK hP hA hS ⟨by decide, fun _ => rfl, by decide⟩ hn1 dX8_type_37 (fun H locs hP hS => ?_)
      refine lv_aload_n hx hb dX8_type_38 rfl (lv_at hl 0 rfl) ?_
      refine lv_dup hx hb dX8_type_39 rfl ?_
      refine x_get (ci := 6) (fs := [.ref (ad 49), .ref (ad 50), .ref (ad 51), .int (((upV V 53 (V 48 2).toNatClampNeg p1) 48) 0), .ref (ad 52), .int (((upV V 53 (V 48 2).toNatClampNeg p1) 48) 1), .ref (ad 53), .int (((upV V 53 (V 48 2).toNatClampNeg p1) 48) 2), .int (((upV V 53 (V 48 2).toNatClampNeg p1) 48) 3), .int (((upV V 53 (V 48 2).toNatClampNeg p1) 48) 4), .int (((upV V 53 (V 48 2).toNatClampNeg p1) 48) 5), .int (((upV V 53 (V 48 2).toNatClampNeg p1) 48) 6), .int (((upV V 53 (V 48 2).toNatClampNeg p1) 48) 7)]) (q := 48) (v := .int ((upV V 53 (V 48 2).toNatClampNeg p1) 48 2)) (N := 13) hx hb hts (fun _ h => List.mem_cons_of_mem _ (List.mem_append_right _ h)) hown hK hP (by decide) (ce_md ad cI cB ((upV V 53 (V 48 2).toNatClampNeg p1) 48)) rfl 7 (by decide) (hts (.fieldLink RX8 122 "TurnedBoardsModel" "length" "I") (List.mem_of_getElem? (i := 1) rfl)) rfl rfl dX8_type_40 ?_
      refine lv_iconst (v := 1) hx hb dX8_type_43 (by decide) ?_
      refine lv_iadd hx hb dX8_type_44 ?_
      refine x_put (ci := 6) (fs := [.ref (ad 49), .ref (ad 50), .ref (ad 51), .int (((upV V 53 (V 48 2).toNatClampNeg p1) 48) 0), .ref (ad 52), .int (((upV V 53 (V 48 2).toNatClampNeg p1) 48) 1), .ref (ad 53), .int (((upV V 53 (V 48 2).toNatClampNeg p1) 48) 2), .int (((upV V 53 (V 48 2).toNatClampNeg p1) 48) 3), .int (((upV V 53 (V 48 2).toNatClampNeg p1) 48) 4), .int (((upV V 53 (V 48 2).toNatClampNeg p1) 48) 5), .int (((upV V 53 (V 48 2).toNatClampNeg p1) 48) 6), .int (((upV V 53 (V 48 2).toNatClampNeg p1) 48) 7)]) (q := 48) (v := .int (((upV V 53 (V 48 2).toNatClampNeg p1) 48 2) + 1)) (ty := .int) (N := 13) hx hb hts (fun _ h => List.mem_cons_of_mem _ (List.mem_append_right _ h)) tyX8 tyX8_ok nmX8 hown hK hP hA hS (by decide) (ce_md ad cI cB ((upV V 53 (V 48 2).toNatClampNeg p1) 48)) rfl 7 (by decide) (hts (.fieldLink RX8 122 "TurnedBoardsModel" "length" "I") (List.mem_of_getElem? (i := 1) rfl)) rfl rfl (by decide +kernel) rfl rfl (Nat.le_of_ble_eq_true rfl) 2 (((upV V 53 (V 48 2).toNatClampNeg p1) 48 2) + 1) ((ce_md ad cI cB (upd ((upV V 53 (V 48 2).toNatClampNeg p1) 48) 2 (((upV V 53 (V 48 2).toNatClampNeg p1) 48 2) + 1))).trans rfl) dX8_type_45 (fun H locs hP hS => ?_)
      refine lv_aload_n hx hb dX8_type_48 rfl (lv_at hl 0 rfl) ?_
      refine x_get (ci := 6) (fs := [.ref (ad 49), .ref (ad 50), .ref (ad 51), .int (((upV (upV V 53 (V 48 2).toNatClampNeg p1) 48 2 (((upV V 53 (V 48 2).toNatClampNeg p1) 48 2) + 1)) 48) 0), .ref (ad 52), .int (((upV (upV V 53 (V 48 2).toNatClampNeg p1) 48 2 (((upV V 53 (V 48 2).toNatClampNeg p1) 48 2) + 1)) 48) 1), .ref (ad 53), .int (((upV (upV V 53 (V 48 2).toNatClampNeg p1) 48 2 (((upV V 53 (V 48 2).toNatClampNeg p1) 48 2) + 1)) 48) 2), .int (((upV (upV V 53 (V 48 2).toNatClampNeg p1) 48 2 (((upV V 53 (V 48 2).toNatClampNeg p1) 48 2) + 1)) 48) 3), .int (((upV (upV V 53 (V 48 2).toNatClampNeg p1) 48 2 (((upV V 53 (V 48 2).toNatClampNeg p1) 48 2) + 1)) 48) 4), .int (((upV (upV V 53 (V 48 2).toNatClampNeg p1) 48 2 (((upV V 53 (V 48 2).toNatClampNeg p1) 48 2) + 1)) 48) 5), .int (((upV (upV V 53 (V 48 2).toNatClampNeg p1) 48 2 (((upV V 53 (V 48 2).toNatClampNeg p1) 48 2) + 1)) 48) 6), .int (((upV (upV V 53 (V 48 2).toNatClampNeg p1) 48 2 (((upV V 53 (V 48 2).toNatClampNeg p1) 48 2) + 1)) 48) 7)]) (q := 48) (v := .int ((upV (upV V 53 (V 48 2).toNatClampNeg p1) 48 2 (((upV V 53 (V 48 2).toNatClampNeg p1) 48 2) + 1)) 48 2)) (N := 13) hx hb hts (fun _ h => List.mem_cons_of_mem _ (List.mem_append_right _ h)) hown hK hP (by decide) (ce_md ad cI cB ((upV (upV V 53 (V 48 2).toNatClampNeg p1) 48 2 (((upV V 53 (V 48 2).toNatClampNeg p1) 48 2) + 1)) 48)) rfl 7 (by decide) (hts (.fieldLink RX8 122 "TurnedBoardsModel" "length" "I") (List.mem_of_getElem? (i := 1) rfl)) rfl rfl dX8_type_49 ?_
      exact W.iret (v := ((upV (upV V 53 (V 48 2).toNatClampNeg p1) 48 2 (((upV V 53 (V 48 2).toNatClampNeg p1) 48 2) + 1)) 48 2)) hx hb hr (fun t ht hW => ⟨⟨((upV (upV V 53 (V 48 2).toNatClampNeg p1) 48 2 (((upV V 53 (V 48 2).toNatClampNeg p1) 48 2) + 1)) 48 2), (upV (upV V 53 (V 48 2).toNatClampNeg p1) 48 2 (((upV V 53 (V 48 2).toNatClampNeg p1) 48 2) + 1)), rfl, ⟨(congrArg Prod.fst hE).symm, (congrArg Prod.snd hE).symm⟩, by dsimp only; rw [ht]; exact hP⟩, hS.F ht⟩) hS.2.2 dX8_type_52
    · have hE := hE.trans (if_pos c2)
      refine lv_sipush (v := (-1003)) hx hb dX8_type_24 (by decide) ?_
      exact W.iret (v := (-1003)) hx hb hr (fun t ht hW => ⟨⟨(-1003), V, rfl, ⟨(congrArg Prod.fst hE).symm, (congrArg Prod.snd hE).symm⟩, by dsimp only; rw [ht]; exact hP⟩, hS.F ht⟩) hS.2.2 dX8_type_27
  · have hE := hE.trans (if_pos c1)
    refine lv_sipush (v := (-1001)) hx hb dX8_type_11 (by decide) ?_
    exact W.iret (v := (-1001)) hx hb hr (fun t ht hW => ⟨⟨(-1001), V, rfl, ⟨(congrArg Prod.fst hE).symm, (congrArg Prod.snd hE).symm⟩, by dsimp only; rw [ht]; exact hP⟩, hS.F ht⟩) hS.2.2 dX8_type_14
def f_X8_clearText (V : VT)  : Int32 × VT := ((V 48 2), (upV V 48 2 0))
set_option maxHeartbeats 4000000 in
set_option maxRecDepth 100000 in
theorem m_X8_clearText (l : Launch) (D : va_G) (cI cB : ClassId) (ad : Nat → Nat) {A : Nat → Prop} (hA : adOk ad A) (V : VT)   : Met l yX8_clearText wsX8_clearText ({ frames := 0, cells := 0, slots := 0, locals := 0 }) (cP D cI cB ad V [.ref (ad 48)]) (cWi D cI cB ad A (f_X8_clearText V)) 0 0 A := by
  refine Met.ofW (cc := cX8_clearText) (maxL := 2) (ret := (some .int)) (by decide +kernel) rfl ?_
  intro p e s m args below meth c s₁ B hml hv
  obtain ⟨rfl, hP, hKN⟩ := hv
  have hK := hKN.1
  have hx := B.exec
  have hb := B.bytes
  have hr := B.returns
  have hts := atoms_spec (ws := wsX8_clearText) B.pre
  have hown : s.vm.findClass RX8 = some m.cls := findClass_of_methodNamed B.named
  have hlocks := B.notSynchronized
  have hS : va_S A s.heap s.heap [] := va_S.rf
  have hl := lv_entry ([.ref (ad 48)]) (n := 2) (Nat.le_of_ble_eq_true rfl)
  rw [lg_entry_eq]
  generalize (lg_sl ([.ref (ad 48)]) ++ List.replicate (2 - (lg_sl ([.ref (ad 48)])).length) Slot.unset).toArray = ls at hl ⊢
  have hl : lv_has ls 2 [(0, .ref (ad 48))] := hl
  have hE : f_X8_clearText V = ((V 48 2), (upV V 48 2 0)) := rfl
  refine lv_aload_n hx hb dX8_clearText_0 rfl (lv_at hl 0 rfl) ?_
  refine x_get (ci := 6) (fs := [.ref (ad 49), .ref (ad 50), .ref (ad 51), .int ((V 48) 0), .ref (ad 52), .int ((V 48) 1), .ref (ad 53), .int ((V 48) 2), .int ((V 48) 3), .int ((V 48) 4), .int ((V 48) 5), .int ((V 48) 6), .int ((V 48) 7)]) (q := 48) (v := .int (V 48 2)) (N := 13) hx hb hts (fun _ h => List.mem_cons_of_mem _ (List.mem_append_right _ h)) hown hK hP (by decide) (ce_md ad cI cB (V 48)) rfl 7 (by decide) (hts (.fieldLink RX8 122 "TurnedBoardsModel" "length" "I") (List.mem_of_getElem? (i := 1) rfl)) rfl rfl dX8_clearText_1 ?_
  refine lv_istore_n (lv' := [(1, .int (V 48 2)), (0, .ref (ad 48))]) hx hb dX8_clearText_4 rfl hl (by decide) rfl (fun ls hl => ?_)
  refine lv_aload_n hx hb dX8_clearText_5 rfl (lv_at hl 1 rfl) ?_
  refine lv_iconst (v := 0) hx hb dX8_clearText_6 (by decide) ?_
  refine x_put (ci := 6) (fs := [.ref (ad 49), .ref (ad 50), .ref (ad 51), .int ((V 48) 0), .ref (ad 52), .int ((V 48) 1), .ref (ad 53), .int ((V 48) 2), .int ((V 48) 3), .int ((V 48) 4), .int ((V 48) 5), .int ((V 48) 6), .int ((V 48) 7)]) (q := 48) (v := .int 0) (ty := .int) (N := 13) hx hb hts (fun _ h => List.mem_cons_of_mem _ (List.mem_append_right _ h)) tyX8 tyX8_ok nmX8 hown hK hP hA hS (by decide) (ce_md ad cI cB (V 48)) rfl 7 (by decide) (hts (.fieldLink RX8 122 "TurnedBoardsModel" "length" "I") (List.mem_of_getElem? (i := 1) rfl)) rfl rfl (by decide +kernel) rfl rfl (Nat.le_of_ble_eq_true rfl) 2 0 ((ce_md ad cI cB (upd (V 48) 2 0)).trans rfl) dX8_clearText_7 (fun H locs hP hS => ?_)
  refine lv_iload_n hx hb dX8_clearText_10 rfl (lv_at hl 0 rfl) ?_
  exact W.iret (v := (V 48 2)) hx hb hr (fun t ht hW => ⟨⟨(V 48 2), (upV V 48 2 0), rfl, ⟨(congrArg Prod.fst hE).symm, (congrArg Prod.snd hE).symm⟩, by dsimp only; rw [ht]; exact hP⟩, hS.F ht⟩) hS.2.2 dX8_clearText_11
def f_X8_breaks (V : VT) (p1 : Int32) (p2 : Int32) : Int32 × VT := (0, (upV (upV V 48 5 p1) 48 6 p2))
set_option maxHeartbeats 4000000 in
set_option maxRecDepth 100000 in
theorem m_X8_breaks (l : Launch) (D : va_G) (cI cB : ClassId) (ad : Nat → Nat) {A : Nat → Prop} (hA : adOk ad A) (V : VT) (p1 : Int32) (p2 : Int32)  : Met l yX8_breaks wsX8_breaks ({ frames := 0, cells := 0, slots := 0, locals := 0 }) (cP D cI cB ad V [.ref (ad 48), .int p1, .int p2]) (cWi D cI cB ad A (f_X8_breaks V p1 p2)) 0 0 A := by
  refine Met.ofW (cc := cX8_breaks) (maxL := 3) (ret := (some .boolean)) (by decide +kernel) rfl ?_
  intro p e s m args below meth c s₁ B hml hv
  obtain ⟨rfl, hP, hKN⟩ := hv
  have hK := hKN.1
  have hx := B.exec
  have hb := B.bytes
  have hr := B.returns
  have hts := atoms_spec (ws := wsX8_breaks) B.pre
  have hown : s.vm.findClass RX8 = some m.cls := findClass_of_methodNamed B.named
  have hlocks := B.notSynchronized
  have hS : va_S A s.heap s.heap [] := va_S.rf
  have hl := lv_entry ([.ref (ad 48), .int p1, .int p2]) (n := 3) (Nat.le_of_ble_eq_true rfl)
  rw [lg_entry_eq]
  generalize (lg_sl ([.ref (ad 48), .int p1, .int p2]) ++ List.replicate (3 - (lg_sl ([.ref (ad 48), .int p1, .int p2])).length) Slot.unset).toArray = ls at hl ⊢
  have hl : lv_has ls 3 [(0, .ref (ad 48)), (1, .int p1), (2, .int p2)] := hl
  have hE : f_X8_breaks V p1 p2 = (0, (upV (upV V 48 5 p1) 48 6 p2)) := rfl
  refine lv_aload_n hx hb dX8_breaks_0 rfl (lv_at hl 0 rfl) ?_
  refine lv_iload_n hx hb dX8_breaks_1 rfl (lv_at hl 1 rfl) ?_
  refine x_put (ci := 6) (fs := [.ref (ad 49), .ref (ad 50), .ref (ad 51), .int ((V 48) 0), .ref (ad 52), .int ((V 48) 1), .ref (ad 53), .int ((V 48) 2), .int ((V 48) 3), .int ((V 48) 4), .int ((V 48) 5), .int ((V 48) 6), .int ((V 48) 7)]) (q := 48) (v := .int p1) (ty := .int) (N := 13) hx hb hts (fun _ h => List.mem_cons_of_mem _ (List.mem_append_right _ h)) tyX8 tyX8_ok nmX8 hown hK hP hA hS (by decide) (ce_md ad cI cB (V 48)) rfl 10 (by decide) (hts (.fieldLink RX8 135 "TurnedBoardsModel" "at" "I") (List.mem_of_getElem? (i := 1) rfl)) rfl rfl (by decide +kernel) rfl rfl (Nat.le_of_ble_eq_true rfl) 5 p1 ((ce_md ad cI cB (upd (V 48) 5 p1)).trans rfl) dX8_breaks_2 (fun H locs hP hS => ?_)
  refine lv_aload_n hx hb dX8_breaks_5 rfl (lv_at hl 0 rfl) ?_
  refine lv_iload_n hx hb dX8_breaks_6 rfl (lv_at hl 2 rfl) ?_
  refine x_put (ci := 6) (fs := [.ref (ad 49), .ref (ad 50), .ref (ad 51), .int (((upV V 48 5 p1) 48) 0), .ref (ad 52), .int (((upV V 48 5 p1) 48) 1), .ref (ad 53), .int (((upV V 48 5 p1) 48) 2), .int (((upV V 48 5 p1) 48) 3), .int (((upV V 48 5 p1) 48) 4), .int (((upV V 48 5 p1) 48) 5), .int (((upV V 48 5 p1) 48) 6), .int (((upV V 48 5 p1) 48) 7)]) (q := 48) (v := .int p2) (ty := .int) (N := 13) hx hb hts (fun _ h => List.mem_cons_of_mem _ (List.mem_append_right _ h)) tyX8 tyX8_ok nmX8 hown hK hP hA hS (by decide) (ce_md ad cI cB ((upV V 48 5 p1) 48)) rfl 11 (by decide) (hts (.fieldLink RX8 138 "TurnedBoardsModel" "why" "I") (List.mem_of_getElem? (i := 2) rfl)) rfl rfl (by decide +kernel) rfl rfl (Nat.le_of_ble_eq_true rfl) 6 p2 ((ce_md ad cI cB (upd ((upV V 48 5 p1) 48) 6 p2)).trans rfl) dX8_breaks_7 (fun H locs hP hS => ?_)
  refine lv_iconst (v := 0) hx hb dX8_breaks_10 (by decide) ?_
  exact W.zret (v := 0) hx hb hr rfl (fun t ht hW => ⟨⟨0, (upV (upV V 48 5 p1) 48 6 p2), rfl, ⟨(congrArg Prod.fst hE).symm, (congrArg Prod.snd hE).symm⟩, by dsimp only; rw [ht]; exact hP⟩, hS.F ht⟩) hS.2.2 dX8_breaks_11
def f_X8_isLetter (V : VT) (p1 : Int32) : Int32 := (if (V 48 2) ≤ p1 then 0 else (if (f_X8_in V (V 53 p1.toNatClampNeg) 97 106) = 0 then 0 else 1))
def p_X8_isLetter (V : VT) (p1 : Int32) : Prop := (((V 48 2) ≤ p1 → True) ∧ (¬ ((V 48 2) ≤ p1) → (vp_in p1 30)))
set_option maxHeartbeats 4000000 in
set_option maxRecDepth 100000 in
theorem m_X8_isLetter (l : Launch) (D : va_G) (cI cB : ClassId) (ad : Nat → Nat) (V : VT) (p1 : Int32)  (hp : p_X8_isLetter V p1) : Met l yX8_isLetter wsX8_isLetter ({ frames := 1, cells := 0, slots := 0, locals := 22 }) (cP D cI cB ad V [.ref (ad 48), .int p1]) (cR (f_X8_isLetter V p1)) 0 0 (fun _ => False) := by
  refine Met.ofW (cc := cX8_isLetter) (maxL := 2) (ret := (some .boolean)) (by decide +kernel) rfl ?_
  intro p e s m args below meth c s₁ B hml hv
  obtain ⟨rfl, hP, hKN⟩ := hv
  have hK := hKN.1
  have hx := B.exec
  have hb := B.bytes
  have hr := B.returns
  have hts := atoms_spec (ws := wsX8_isLetter) B.pre
  have hown : s.vm.findClass RX8 = some m.cls := findClass_of_methodNamed B.named
  have hlocks := B.notSynchronized
  have hS : va_S (fun _ => False) s.heap s.heap [] := va_S.rf
  have hl := lv_entry ([.ref (ad 48), .int p1]) (n := 2) (Nat.le_of_ble_eq_true rfl)
  rw [lg_entry_eq]
  generalize (lg_sl ([.ref (ad 48), .int p1]) ++ List.replicate (2 - (lg_sl ([.ref (ad 48), .int p1])).length) Slot.unset).toArray = ls at hl ⊢
  have hl : lv_has ls 2 [(0, .ref (ad 48)), (1, .int p1)] := hl
  have hE : f_X8_isLetter V p1 = (if (V 48 2) ≤ p1 then 0 else (if (f_X8_in V (V 53 p1.toNatClampNeg) 97 106) = 0 then 0 else 1)) := rfl
  refine lv_iload_n hx hb dX8_isLetter_0 rfl (lv_at hl 1 rfl) ?_
  refine lv_aload_n hx hb dX8_isLetter_1 rfl (lv_at hl 0 rfl) ?_
  refine x_get (ci := 6) (fs := [.ref (ad 49), .ref (ad 50), .ref (ad 51), .int ((V 48) 0), .ref (ad 52), .int ((V 48) 1), .ref (ad 53), .int ((V 48) 2), .int ((V 48) 3), .int ((V 48) 4), .int ((V 48) 5), .int ((V 48) 6), .int ((V 48) 7)]) (q := 48) (v := .int (V 48 2)) (N := 13) hx hb hts (fun _ h => List.mem_cons_of_mem _ (List.mem_append_right _ h)) hown hK hP (by decide) (ce_md ad cI cB (V 48)) rfl 7 (by decide) (hts (.fieldLink RX8 122 "TurnedBoardsModel" "length" "I") (List.mem_of_getElem? (i := 1) rfl)) rfl rfl dX8_isLetter_2 ?_
  refine lv_icmp_ge (tgt := 28) hx hb dX8_isLetter_5 (by decide) (fun c1 => ?_) (fun c1 => ?_)
  · have hE := hE.trans (if_pos c1)
    refine lv_iconst (v := 0) hx hb dX8_isLetter_28 (by decide) ?_
    exact W.zret (v := 0) hx hb hr rfl (fun t ht hW => ⟨⟨0, (), rfl, hE.symm, trivial⟩, hS.F ht⟩) hS.2.2 dX8_isLetter_29
  · have hE := hE.trans (if_neg c1)
    have hp := pc_bn hp c1
    refine lv_aload_n hx hb dX8_isLetter_8 rfl (lv_at hl 0 rfl) ?_
    refine x_get (ci := 6) (fs := [.ref (ad 49), .ref (ad 50), .ref (ad 51), .int ((V 48) 0), .ref (ad 52), .int ((V 48) 1), .ref (ad 53), .int ((V 48) 2), .int ((V 48) 3), .int ((V 48) 4), .int ((V 48) 5), .int ((V 48) 6), .int ((V 48) 7)]) (q := 48) (v := .ref (ad 53)) (N := 13) hx hb hts (fun _ h => List.mem_cons_of_mem _ (List.mem_append_right _ h)) hown hK hP (by decide) (ce_md ad cI cB (V 48)) rfl 6 (by decide) (hts (.fieldLink RX8 22 "TurnedBoardsModel" "text" "[I") (List.mem_of_getElem? (i := 2) rfl)) rfl rfl dX8_isLetter_9 ?_
    refine lv_iload_n hx hb dX8_isLetter_12 rfl (lv_at hl 1 rfl) ?_
    have hn1 := hp
    refine x_iald hx hb hK hP ⟨by decide, fun _ => rfl, by decide⟩ hn1 dX8_isLetter_13 ?_
    refine lv_bipush (v := 97) hx hb dX8_isLetter_14 (by decide) ?_
    refine lv_bipush (v := 106) hx hb dX8_isLetter_16 (by decide) ?_
    refine k_SR (As := [.int (V 53 p1.toNatClampNeg), .int 97, .int 106]) (rest := []) ⟨hx, hb, hml, hown, hts⟩ hKN hP hS (m_X8_in l D cI cB ad V (V 53 p1.toNatClampNeg) 97 106) (va_cwS 3 hts gX8_isLetter_X8_in rfl rfl rfl (by decide +kernel) ⟨(Nat.le_of_ble_eq_true rfl), (Nat.le_of_ble_eq_true rfl)⟩) rfl hl.1 rfl (Nat.le_of_ble_eq_true rfl) dX8_isLetter_18 ⟨Nat.zero_le _, Nat.zero_le _⟩ (fun H locs hP hS => ?_)
    refine lv_if_eq (tgt := 28) hx hb dX8_isLetter_21 (by decide) (fun c2 => ?_) (fun c2 => ?_)
    · have hE := hE.trans (if_pos c2)
      refine lv_iconst (v := 0) hx hb dX8_isLetter_28 (by decide) ?_
      exact W.zret (v := 0) hx hb hr rfl (fun t ht hW => ⟨⟨0, (), rfl, hE.symm, trivial⟩, hS.F ht⟩) hS.2.2 dX8_isLetter_29
    · have hE := hE.trans (if_neg c2)
      refine lv_iconst (v := 1) hx hb dX8_isLetter_24 (by decide) ?_
      refine lv_goto (tgt := 29) hx hb dX8_isLetter_25 (by decide) ?_
      exact W.zret (v := 1) hx hb hr rfl (fun t ht hW => ⟨⟨1, (), rfl, hE.symm, trivial⟩, hS.F ht⟩) hS.2.2 dX8_isLetter_29
def f_X8_isForm_l2 (fu : Nat)  : Nat → VT → Int32 → Int32 × VT
  | 0, V2, x1_2 => (0, V2)
  | w2 + 1, V2, x1_2 => (if (f_X8_isLetter V2 x1_2) = 0 then (if x1_2 = ((2 * (V2 48 7)) + 1) then (if x1_2 = (V2 48 2) then (1, V2) else (if ((f_X8_breaks V2 x1_2 1).1) = 0 then (0, (f_X8_breaks V2 x1_2 1).2) else (1, (f_X8_breaks V2 x1_2 1).2))) else (if ((f_X8_breaks V2 x1_2 1).1) = 0 then (0, (f_X8_breaks V2 x1_2 1).2) else (1, (f_X8_breaks V2 x1_2 1).2))) else (if (2 * (V2 48 7)) < x1_2 then (if x1_2 = ((2 * (V2 48 7)) + 1) then (if x1_2 = (V2 48 2) then (1, V2) else (if ((f_X8_breaks V2 x1_2 1).1) = 0 then (0, (f_X8_breaks V2 x1_2 1).2) else (1, (f_X8_breaks V2 x1_2 1).2))) else (if ((f_X8_breaks V2 x1_2 1).1) = 0 then (0, (f_X8_breaks V2 x1_2 1).2) else (1, (f_X8_breaks V2 x1_2 1).2))) else (f_X8_isForm_l2 fu  w2 V2 (x1_2 + 1))))
def p_X8_isForm_l2 (fu : Nat)  : Nat → VT → Int32 → Prop
  | 0, _, _ => False
  | w2 + 1, V2, x1_2 => ((p_X8_isLetter V2 x1_2) ∧ (((f_X8_isLetter V2 x1_2) = 0 → True) ∧ (¬ ((f_X8_isLetter V2 x1_2) = 0) → (((2 * (V2 48 7)) < x1_2 → True) ∧ (¬ ((2 * (V2 48 7)) < x1_2) → (p_X8_isForm_l2 fu  w2 V2 (x1_2 + 1)))))))
def f_X8_isForm_l1 (fu : Nat)  : Nat → VT → Int32 → Int32 × VT
  | 0, V1, x1_1 => (0, V1)
  | w1 + 1, V1, x1_1 => (if (f_X8_isLetter V1 x1_1) = 0 then (if x1_1 = 0 then ((f_X8_breaks (upV V1 48 7 x1_1) x1_1 1).1, (f_X8_breaks (upV V1 48 7 x1_1) x1_1 1).2) else (if x1_1 = ((upV V1 48 7 x1_1) 48 2) then ((f_X8_breaks (upV V1 48 7 x1_1) x1_1 1).1, (f_X8_breaks (upV V1 48 7 x1_1) x1_1 1).2) else (if ((upV V1 48 7 x1_1) 53 x1_1.toNatClampNeg) = 47 then (f_X8_isForm_l2 fu  fu (upV V1 48 7 x1_1) (x1_1 + 1)) else ((f_X8_breaks (upV V1 48 7 x1_1) x1_1 1).1, (f_X8_breaks (upV V1 48 7 x1_1) x1_1 1).2)))) else (if x1_1 = 8 then ((f_X8_breaks V1 x1_1 2).1, (f_X8_breaks V1 x1_1 2).2) else (f_X8_isForm_l1 fu  w1 V1 (x1_1 + 1))))
def p_X8_isForm_l1 (fu : Nat)  : Nat → VT → Int32 → Prop
  | 0, _, _ => False
  | w1 + 1, V1, x1_1 => ((p_X8_isLetter V1 x1_1) ∧ (((f_X8_isLetter V1 x1_1) = 0 → ((x1_1 = 0 → (isB ((f_X8_breaks (upV V1 48 7 x1_1) x1_1 1).1))) ∧ (¬ (x1_1 = 0) → ((x1_1 = ((upV V1 48 7 x1_1) 48 2) → (isB ((f_X8_breaks (upV V1 48 7 x1_1) x1_1 1).1))) ∧ (¬ (x1_1 = ((upV V1 48 7 x1_1) 48 2)) → ((vp_in x1_1 30) ∧ ((((upV V1 48 7 x1_1) 53 x1_1.toNatClampNeg) = 47 → (p_X8_isForm_l2 fu  fu (upV V1 48 7 x1_1) (x1_1 + 1))) ∧ (¬ (((upV V1 48 7 x1_1) 53 x1_1.toNatClampNeg) = 47) → (isB ((f_X8_breaks (upV V1 48 7 x1_1) x1_1 1).1)))))))))) ∧ (¬ ((f_X8_isLetter V1 x1_1) = 0) → ((x1_1 = 8 → (isB ((f_X8_breaks V1 x1_1 2).1))) ∧ (¬ (x1_1 = 8) → (p_X8_isForm_l1 fu  w1 V1 (x1_1 + 1)))))))
def f_X8_isForm (fu : Nat) (V : VT)  : Int32 × VT := (f_X8_isForm_l1 fu  fu V 0)
def p_X8_isForm (fu : Nat) (V : VT)  : Prop := (p_X8_isForm_l1 fu  fu V 0)
set_option maxHeartbeats 4000000 in
set_option maxRecDepth 100000 in
theorem m_X8_isForm (l : Launch) (D : va_G) (cI cB : ClassId) (ad : Nat → Nat) {A : Nat → Prop} (hA : adOk ad A) (fu : Nat) (V : VT)   (hp : p_X8_isForm fu V ) : Met l yX8_isForm wsX8_isForm ({ frames := 2, cells := 0, slots := 0, locals := 43 }) (cP D cI cB ad V [.ref (ad 48)]) (cWi D cI cB ad A (f_X8_isForm fu V)) 0 0 A := by
  refine Met.ofW (cc := cX8_isForm) (maxL := 2) (ret := (some .boolean)) (by decide +kernel) rfl ?_
  intro p e s m args below meth c s₁ B hml hv
  obtain ⟨rfl, hP, hKN⟩ := hv
  have hK := hKN.1
  have hx := B.exec
  have hb := B.bytes
  have hr := B.returns
  have hts := atoms_spec (ws := wsX8_isForm) B.pre
  have hown : s.vm.findClass RX8 = some m.cls := findClass_of_methodNamed B.named
  have hlocks := B.notSynchronized
  have hS : va_S A s.heap s.heap [] := va_S.rf
  have hl := lv_entry ([.ref (ad 48)]) (n := 2) (Nat.le_of_ble_eq_true rfl)
  rw [lg_entry_eq]
  generalize (lg_sl ([.ref (ad 48)]) ++ List.replicate (2 - (lg_sl ([.ref (ad 48)])).length) Slot.unset).toArray = ls at hl ⊢
  have hl : lv_has ls 2 [(0, .ref (ad 48))] := hl
  have hE : f_X8_isForm fu V = (f_X8_isForm_l1 fu  fu V 0) := rfl
  refine lv_iconst (v := 0) hx hb dX8_isForm_0 (by decide) ?_
  refine lv_istore_n (lv' := [(1, .int 0), (0, .ref (ad 48))]) hx hb dX8_isForm_1 rfl hl (by decide) rfl (fun ls hl => ?_)
  have L1 : ∀ (w1 : Nat) (V1 : VT) (x1_1 : Int32), f_X8_isForm fu V = f_X8_isForm_l1 fu  w1 V1 x1_1 → p_X8_isForm_l1 fu  w1 V1 x1_1 → ∀ (H : Heap) (locs : List Loc), wP D cI cB ad V1 H → va_S A s.heap H locs → ∀ (ls : Array Slot), lv_has ls 2 [(0, .ref (ad 48)), (1, .int x1_1)] → W p l e (headSpec wsX8_isForm ({ frames := 2, cells := 0, slots := 0, locals := 43 })).room s m ([.ref (ad 48)] : List Value).toArray below meth c H locs 0 0 (MQ below (cWi D cI cB ad A (f_X8_isForm fu V)) ([.ref (ad 48)] : List Value).toArray s 0 0 A) (F0 m 2 ls []) := by
    intro w1
    induction w1 with
    | zero => intro V1 x1_1 hE hp; exact hp.elim
    | succ w1 ih1 =>
      intro V1 x1_1 hE hp H locs hP hS ls hl
      rw [f_X8_isForm_l1] at hE
      rw [p_X8_isForm_l1] at hp
      refine lv_aload_n hx hb dX8_isForm_2 rfl (lv_at hl 0 rfl) ?_
      refine lv_iload_n hx hb dX8_isForm_3 rfl (lv_at hl 1 rfl) ?_
      obtain ⟨hn1, hp⟩ := hp
      refine k_VR (As := [.int x1_1]) (rest := []) (q := 48) ⟨hx, hb, hml, hown, hts⟩ hKN hP hS (m_X8_isLetter l D cI cB ad V1 x1_1 hn1) (cwV 1 hts gX8_isForm_X8_isLetter rfl rfl rfl (by decide +kernel) ⟨(Nat.le_of_ble_eq_true rfl), (Nat.le_of_ble_eq_true rfl)⟩) (c_preV hP hKN (q := 48) (ci := 6) (fs := [.ref (ad 49), .ref (ad 50), .ref (ad 51), .int ((V1 48) 0), .ref (ad 52), .int ((V1 48) 1), .ref (ad 53), .int ((V1 48) 2), .int ((V1 48) 3), .int ((V1 48) 4), .int ((V1 48) 5), .int ((V1 48) 6), .int ((V1 48) 7)]) (by decide) (ce_md ad cI cB (V1 48)) rfl rfl) rfl hl.1 rfl (Nat.le_of_ble_eq_true rfl) dX8_isForm_4 ⟨Nat.zero_le _, Nat.zero_le _⟩ (fun H locs hP hS => ?_)
      refine lv_if_eq (tgt := 29) hx hb dX8_isForm_7 (by decide) (fun c1 => ?_) (fun c1 => ?_)
      · have hE := hE.trans (if_pos c1)
        have hp := pc_br hp c1
        refine lv_aload_n hx hb dX8_isForm_29 rfl (lv_at hl 0 rfl) ?_
        refine lv_iload_n hx hb dX8_isForm_30 rfl (lv_at hl 1 rfl) ?_
        refine x_put (ci := 6) (fs := [.ref (ad 49), .ref (ad 50), .ref (ad 51), .int ((V1 48) 0), .ref (ad 52), .int ((V1 48) 1), .ref (ad 53), .int ((V1 48) 2), .int ((V1 48) 3), .int ((V1 48) 4), .int ((V1 48) 5), .int ((V1 48) 6), .int ((V1 48) 7)]) (q := 48) (v := .int x1_1) (ty := .int) (N := 13) hx hb hts (fun _ h => List.mem_cons_of_mem _ (List.mem_append_right _ h)) tyX8 tyX8_ok nmX8 hown hK hP hA hS (by decide) (ce_md ad cI cB (V1 48)) rfl 12 (by decide) (hts (.fieldLink RX8 147 "TurnedBoardsModel" "wide" "I") (List.mem_of_getElem? (i := 1) rfl)) rfl rfl (by decide +kernel) rfl rfl (Nat.le_of_ble_eq_true rfl) 7 x1_1 ((ce_md ad cI cB (upd (V1 48) 7 x1_1)).trans rfl) dX8_isForm_31 (fun H locs hP hS => ?_)
        refine lv_iload_n hx hb dX8_isForm_34 rfl (lv_at hl 1 rfl) ?_
        refine lv_if_eq (tgt := 57) hx hb dX8_isForm_35 (by decide) (fun c2 => ?_) (fun c2 => ?_)
        · have hE := hE.trans (if_pos c2)
          have hp := pc_br hp c2
          refine lv_aload_n hx hb dX8_isForm_57 rfl (lv_at hl 0 rfl) ?_
          refine lv_iload_n hx hb dX8_isForm_58 rfl (lv_at hl 1 rfl) ?_
          refine lv_iconst (v := 1) hx hb dX8_isForm_59 (by decide) ?_
          refine k_VWi (As := [.int x1_1, .int 1]) (rest := []) (q := 48) ⟨hx, hb, hml, hown, hts⟩ hKN hP hS (m_X8_breaks l D cI cB ad hA (upV V1 48 7 x1_1) x1_1 1) (cwV 2 hts gX8_isForm_X8_breaks rfl rfl rfl (by decide +kernel) ⟨(Nat.le_of_ble_eq_true rfl), (Nat.le_of_ble_eq_true rfl)⟩) (c_preV hP hKN (q := 48) (ci := 6) (fs := [.ref (ad 49), .ref (ad 50), .ref (ad 51), .int (((upV V1 48 7 x1_1) 48) 0), .ref (ad 52), .int (((upV V1 48 7 x1_1) 48) 1), .ref (ad 53), .int (((upV V1 48 7 x1_1) 48) 2), .int (((upV V1 48 7 x1_1) 48) 3), .int (((upV V1 48 7 x1_1) 48) 4), .int (((upV V1 48 7 x1_1) 48) 5), .int (((upV V1 48 7 x1_1) 48) 6), .int (((upV V1 48 7 x1_1) 48) 7)]) (by decide) (ce_md ad cI cB ((upV V1 48 7 x1_1) 48)) rfl rfl) rfl hl.1 rfl (Nat.le_of_ble_eq_true rfl) dX8_isForm_60 ⟨Nat.zero_le _, Nat.zero_le _⟩ (fun H locs hP hS => ?_)
          have hn4 := hp
          exact W.zret (v := (f_X8_breaks (upV V1 48 7 x1_1) x1_1 1).1) hx hb hr hn4.n (fun t ht hW => ⟨⟨(f_X8_breaks (upV V1 48 7 x1_1) x1_1 1).1, (f_X8_breaks (upV V1 48 7 x1_1) x1_1 1).2, rfl, ⟨(congrArg Prod.fst hE).symm, (congrArg Prod.snd hE).symm⟩, by dsimp only; rw [ht]; exact hP⟩, hS.F ht⟩) hS.2.2 dX8_isForm_63
        · have hE := hE.trans (if_neg c2)
          have hp := pc_bn hp c2
          refine lv_iload_n hx hb dX8_isForm_38 rfl (lv_at hl 1 rfl) ?_
          refine lv_aload_n hx hb dX8_isForm_39 rfl (lv_at hl 0 rfl) ?_
          refine x_get (ci := 6) (fs := [.ref (ad 49), .ref (ad 50), .ref (ad 51), .int (((upV V1 48 7 x1_1) 48) 0), .ref (ad 52), .int (((upV V1 48 7 x1_1) 48) 1), .ref (ad 53), .int (((upV V1 48 7 x1_1) 48) 2), .int (((upV V1 48 7 x1_1) 48) 3), .int (((upV V1 48 7 x1_1) 48) 4), .int (((upV V1 48 7 x1_1) 48) 5), .int (((upV V1 48 7 x1_1) 48) 6), .int (((upV V1 48 7 x1_1) 48) 7)]) (q := 48) (v := .int ((upV V1 48 7 x1_1) 48 2)) (N := 13) hx hb hts (fun _ h => List.mem_cons_of_mem _ (List.mem_append_right _ h)) hown hK hP (by decide) (ce_md ad cI cB ((upV V1 48 7 x1_1) 48)) rfl 7 (by decide) (hts (.fieldLink RX8 122 "TurnedBoardsModel" "length" "I") (List.mem_of_getElem? (i := 2) rfl)) rfl rfl dX8_isForm_40 ?_
          refine lv_icmp_eq (tgt := 57) hx hb dX8_isForm_43 (by decide) (fun c3 => ?_) (fun c3 => ?_)
          · have hE := hE.trans (if_pos c3)
            have hp := pc_br hp c3
            refine lv_aload_n hx hb dX8_isForm_57 rfl (lv_at hl 0 rfl) ?_
            refine lv_iload_n hx hb dX8_isForm_58 rfl (lv_at hl 1 rfl) ?_
            refine lv_iconst (v := 1) hx hb dX8_isForm_59 (by decide) ?_
            refine k_VWi (As := [.int x1_1, .int 1]) (rest := []) (q := 48) ⟨hx, hb, hml, hown, hts⟩ hKN hP hS (m_X8_breaks l D cI cB ad hA (upV V1 48 7 x1_1) x1_1 1) (cwV 2 hts gX8_isForm_X8_breaks rfl rfl rfl (by decide +kernel) ⟨(Nat.le_of_ble_eq_true rfl), (Nat.le_of_ble_eq_true rfl)⟩) (c_preV hP hKN (q := 48) (ci := 6) (fs := [.ref (ad 49), .ref (ad 50), .ref (ad 51), .int (((upV V1 48 7 x1_1) 48) 0), .ref (ad 52), .int (((upV V1 48 7 x1_1) 48) 1), .ref (ad 53), .int (((upV V1 48 7 x1_1) 48) 2), .int (((upV V1 48 7 x1_1) 48) 3), .int (((upV V1 48 7 x1_1) 48) 4), .int (((upV V1 48 7 x1_1) 48) 5), .int (((upV V1 48 7 x1_1) 48) 6), .int (((upV V1 48 7 x1_1) 48) 7)]) (by decide) (ce_md ad cI cB ((upV V1 48 7 x1_1) 48)) rfl rfl) rfl hl.1 rfl (Nat.le_of_ble_eq_true rfl) dX8_isForm_60 ⟨Nat.zero_le _, Nat.zero_le _⟩ (fun H locs hP hS => ?_)
            have hn5 := hp
            exact W.zret (v := (f_X8_breaks (upV V1 48 7 x1_1) x1_1 1).1) hx hb hr hn5.n (fun t ht hW => ⟨⟨(f_X8_breaks (upV V1 48 7 x1_1) x1_1 1).1, (f_X8_breaks (upV V1 48 7 x1_1) x1_1 1).2, rfl, ⟨(congrArg Prod.fst hE).symm, (congrArg Prod.snd hE).symm⟩, by dsimp only; rw [ht]; exact hP⟩, hS.F ht⟩) hS.2.2 dX8_isForm_63
          · have hE := hE.trans (if_neg c3)
            have hp := pc_bn hp c3
            refine lv_aload_n hx hb dX8_isForm_46 rfl (lv_at hl 0 rfl) ?_
            refine x_get (ci := 6) (fs := [.ref (ad 49), .ref (ad 50), .ref (ad 51), .int (((upV V1 48 7 x1_1) 48) 0), .ref (ad 52), .int (((upV V1 48 7 x1_1) 48) 1), .ref (ad 53), .int (((upV V1 48 7 x1_1) 48) 2), .int (((upV V1 48 7 x1_1) 48) 3), .int (((upV V1 48 7 x1_1) 48) 4), .int (((upV V1 48 7 x1_1) 48) 5), .int (((upV V1 48 7 x1_1) 48) 6), .int (((upV V1 48 7 x1_1) 48) 7)]) (q := 48) (v := .ref (ad 53)) (N := 13) hx hb hts (fun _ h => List.mem_cons_of_mem _ (List.mem_append_right _ h)) hown hK hP (by decide) (ce_md ad cI cB ((upV V1 48 7 x1_1) 48)) rfl 6 (by decide) (hts (.fieldLink RX8 22 "TurnedBoardsModel" "text" "[I") (List.mem_of_getElem? (i := 3) rfl)) rfl rfl dX8_isForm_47 ?_
            refine lv_iload_n hx hb dX8_isForm_50 rfl (lv_at hl 1 rfl) ?_
            obtain ⟨hn2, hp⟩ := hp
            refine x_iald hx hb hK hP ⟨by decide, fun _ => rfl, by decide⟩ hn2 dX8_isForm_51 ?_
            refine lv_bipush (v := 47) hx hb dX8_isForm_52 (by decide) ?_
            refine lv_icmp_eq (tgt := 64) hx hb dX8_isForm_54 (by decide) (fun c4 => ?_) (fun c4 => ?_)
            · have hE := hE.trans (if_pos c4)
              have hp := pc_br hp c4
              refine lv_iinc (v := (x1_1 + 1)) (lv' := [(1, .int (x1_1 + 1)), (0, .ref (ad 48))]) hx hb dX8_isForm_64 hl (k := 1) rfl (by rfl) (by decide) rfl (fun ls hl => ?_)
              have L2 : ∀ (w2 : Nat) (V2 : VT) (x1_2 : Int32), f_X8_isForm fu V = f_X8_isForm_l2 fu  w2 V2 x1_2 → p_X8_isForm_l2 fu  w2 V2 x1_2 → ∀ (H : Heap) (locs : List Loc), wP D cI cB ad V2 H → va_S A s.heap H locs → ∀ (ls : Array Slot), lv_has ls 2 [(0, .ref (ad 48)), (1, .int x1_2)] → W p l e (headSpec wsX8_isForm ({ frames := 2, cells := 0, slots := 0, locals := 43 })).room s m ([.ref (ad 48)] : List Value).toArray below meth c H locs 0 0 (MQ below (cWi D cI cB ad A (f_X8_isForm fu V)) ([.ref (ad 48)] : List Value).toArray s 0 0 A) (F0 m 67 ls []) := by
                intro w2
                induction w2 with
                | zero => intro V2 x1_2 hE hp; exact hp.elim
                | succ w2 ih2 =>
                  intro V2 x1_2 hE hp H locs hP hS ls hl
                  rw [f_X8_isForm_l2] at hE
                  rw [p_X8_isForm_l2] at hp
                  refine lv_aload_n hx hb dX8_isForm_67 rfl (lv_at hl 0 rfl) ?_
                  refine lv_iload_n hx hb dX8_isForm_68 rfl (lv_at hl 1 rfl) ?_
                  obtain ⟨hn3, hp⟩ := hp
                  refine k_VR (As := [.int x1_2]) (rest := []) (q := 48) ⟨hx, hb, hml, hown, hts⟩ hKN hP hS (m_X8_isLetter l D cI cB ad V2 x1_2 hn3) (cwV 1 hts gX8_isForm_X8_isLetter rfl rfl rfl (by decide +kernel) ⟨(Nat.le_of_ble_eq_true rfl), (Nat.le_of_ble_eq_true rfl)⟩) (c_preV hP hKN (q := 48) (ci := 6) (fs := [.ref (ad 49), .ref (ad 50), .ref (ad 51), .int ((V2 48) 0), .ref (ad 52), .int ((V2 48) 1), .ref (ad 53), .int ((V2 48) 2), .int ((V2 48) 3), .int ((V2 48) 4), .int ((V2 48) 5), .int ((V2 48) 6), .int ((V2 48) 7)]) (by decide) (ce_md ad cI cB (V2 48)) rfl rfl) rfl hl.1 rfl (Nat.le_of_ble_eq_true rfl) dX8_isForm_69 ⟨Nat.zero_le _, Nat.zero_le _⟩ (fun H locs hP hS => ?_)
                  refine lv_if_eq (tgt := 91) hx hb dX8_isForm_72 (by decide) (fun c5 => ?_) (fun c5 => ?_)
                  · have hE := hE.trans (if_pos c5)
                    refine lv_iload_n hx hb dX8_isForm_91 rfl (lv_at hl 1 rfl) ?_
                    refine lv_iconst (v := 2) hx hb dX8_isForm_92 (by decide) ?_
                    refine lv_aload_n hx hb dX8_isForm_93 rfl (lv_at hl 0 rfl) ?_
                    refine x_get (ci := 6) (fs := [.ref (ad 49), .ref (ad 50), .ref (ad 51), .int ((V2 48) 0), .ref (ad 52), .int ((V2 48) 1), .ref (ad 53), .int ((V2 48) 2), .int ((V2 48) 3), .int ((V2 48) 4), .int ((V2 48) 5), .int ((V2 48) 6), .int ((V2 48) 7)]) (q := 48) (v := .int (V2 48 7)) (N := 13) hx hb hts (fun _ h => List.mem_cons_of_mem _ (List.mem_append_right _ h)) hown hK hP (by decide) (ce_md ad cI cB (V2 48)) rfl 12 (by decide) (hts (.fieldLink RX8 147 "TurnedBoardsModel" "wide" "I") (List.mem_of_getElem? (i := 1) rfl)) rfl rfl dX8_isForm_94 ?_
                    refine lv_imul hx hb dX8_isForm_97 ?_
                    refine lv_iconst (v := 1) hx hb dX8_isForm_98 (by decide) ?_
                    refine lv_iadd hx hb dX8_isForm_99 ?_
                    refine lv_icmp_ne (tgt := 111) hx hb dX8_isForm_100 (by decide) (fun c6 => ?_) (fun c6 => ?_)
                    · have hE := hE.trans (if_neg c6)
                      refine lv_aload_n hx hb dX8_isForm_111 rfl (lv_at hl 0 rfl) ?_
                      refine lv_iload_n hx hb dX8_isForm_112 rfl (lv_at hl 1 rfl) ?_
                      refine lv_iconst (v := 1) hx hb dX8_isForm_113 (by decide) ?_
                      refine k_VWi (As := [.int x1_2, .int 1]) (rest := []) (q := 48) ⟨hx, hb, hml, hown, hts⟩ hKN hP hS (m_X8_breaks l D cI cB ad hA V2 x1_2 1) (cwV 2 hts gX8_isForm_X8_breaks rfl rfl rfl (by decide +kernel) ⟨(Nat.le_of_ble_eq_true rfl), (Nat.le_of_ble_eq_true rfl)⟩) (c_preV hP hKN (q := 48) (ci := 6) (fs := [.ref (ad 49), .ref (ad 50), .ref (ad 51), .int ((V2 48) 0), .ref (ad 52), .int ((V2 48) 1), .ref (ad 53), .int ((V2 48) 2), .int ((V2 48) 3), .int ((V2 48) 4), .int ((V2 48) 5), .int ((V2 48) 6), .int ((V2 48) 7)]) (by decide) (ce_md ad cI cB (V2 48)) rfl rfl) rfl hl.1 rfl (Nat.le_of_ble_eq_true rfl) dX8_isForm_114 ⟨Nat.zero_le _, Nat.zero_le _⟩ (fun H locs hP hS => ?_)
                      refine lv_if_eq (tgt := 124) hx hb dX8_isForm_117 (by decide) (fun c9 => ?_) (fun c9 => ?_)
                      · have hE := hE.trans (if_pos c9)
                        refine lv_iconst (v := 0) hx hb dX8_isForm_124 (by decide) ?_
                        exact W.zret (v := 0) hx hb hr rfl (fun t ht hW => ⟨⟨0, (f_X8_breaks V2 x1_2 1).2, rfl, ⟨(congrArg Prod.fst hE).symm, (congrArg Prod.snd hE).symm⟩, by dsimp only; rw [ht]; exact hP⟩, hS.F ht⟩) hS.2.2 dX8_isForm_125
                      · have hE := hE.trans (if_neg c9)
                        refine lv_iconst (v := 1) hx hb dX8_isForm_120 (by decide) ?_
                        refine lv_goto (tgt := 125) hx hb dX8_isForm_121 (by decide) ?_
                        exact W.zret (v := 1) hx hb hr rfl (fun t ht hW => ⟨⟨1, (f_X8_breaks V2 x1_2 1).2, rfl, ⟨(congrArg Prod.fst hE).symm, (congrArg Prod.snd hE).symm⟩, by dsimp only; rw [ht]; exact hP⟩, hS.F ht⟩) hS.2.2 dX8_isForm_125
                    · have hE := hE.trans (if_pos c6)
                      refine lv_iload_n hx hb dX8_isForm_103 rfl (lv_at hl 1 rfl) ?_
                      refine lv_aload_n hx hb dX8_isForm_104 rfl (lv_at hl 0 rfl) ?_
                      refine x_get (ci := 6) (fs := [.ref (ad 49), .ref (ad 50), .ref (ad 51), .int ((V2 48) 0), .ref (ad 52), .int ((V2 48) 1), .ref (ad 53), .int ((V2 48) 2), .int ((V2 48) 3), .int ((V2 48) 4), .int ((V2 48) 5), .int ((V2 48) 6), .int ((V2 48) 7)]) (q := 48) (v := .int (V2 48 2)) (N := 13) hx hb hts (fun _ h => List.mem_cons_of_mem _ (List.mem_append_right _ h)) hown hK hP (by decide) (ce_md ad cI cB (V2 48)) rfl 7 (by decide) (hts (.fieldLink RX8 122 "TurnedBoardsModel" "length" "I") (List.mem_of_getElem? (i := 2) rfl)) rfl rfl dX8_isForm_105 ?_
                      refine lv_icmp_eq (tgt := 120) hx hb dX8_isForm_108 (by decide) (fun c7 => ?_) (fun c7 => ?_)
                      · have hE := hE.trans (if_pos c7)
                        refine lv_iconst (v := 1) hx hb dX8_isForm_120 (by decide) ?_
                        refine lv_goto (tgt := 125) hx hb dX8_isForm_121 (by decide) ?_
                        exact W.zret (v := 1) hx hb hr rfl (fun t ht hW => ⟨⟨1, V2, rfl, ⟨(congrArg Prod.fst hE).symm, (congrArg Prod.snd hE).symm⟩, by dsimp only; rw [ht]; exact hP⟩, hS.F ht⟩) hS.2.2 dX8_isForm_125
                      · have hE := hE.trans (if_neg c7)
                        refine lv_aload_n hx hb dX8_isForm_111 rfl (lv_at hl 0 rfl) ?_
                        refine lv_iload_n hx hb dX8_isForm_112 rfl (lv_at hl 1 rfl) ?_
                        refine lv_iconst (v := 1) hx hb dX8_isForm_113 (by decide) ?_
                        refine k_VWi (As := [.int x1_2, .int 1]) (rest := []) (q := 48) ⟨hx, hb, hml, hown, hts⟩ hKN hP hS (m_X8_breaks l D cI cB ad hA V2 x1_2 1) (cwV 2 hts gX8_isForm_X8_breaks rfl rfl rfl (by decide +kernel) ⟨(Nat.le_of_ble_eq_true rfl), (Nat.le_of_ble_eq_true rfl)⟩) (c_preV hP hKN (q := 48) (ci := 6) (fs := [.ref (ad 49), .ref (ad 50), .ref (ad 51), .int ((V2 48) 0), .ref (ad 52), .int ((V2 48) 1), .ref (ad 53), .int ((V2 48) 2), .int ((V2 48) 3), .int ((V2 48) 4), .int ((V2 48) 5), .int ((V2 48) 6), .int ((V2 48) 7)]) (by decide) (ce_md ad cI cB (V2 48)) rfl rfl) rfl hl.1 rfl (Nat.le_of_ble_eq_true rfl) dX8_isForm_114 ⟨Nat.zero_le _, Nat.zero_le _⟩ (fun H locs hP hS => ?_)
                        refine lv_if_eq (tgt := 124) hx hb dX8_isForm_117 (by decide) (fun c8 => ?_) (fun c8 => ?_)
                        · have hE := hE.trans (if_pos c8)
                          refine lv_iconst (v := 0) hx hb dX8_isForm_124 (by decide) ?_
                          exact W.zret (v := 0) hx hb hr rfl (fun t ht hW => ⟨⟨0, (f_X8_breaks V2 x1_2 1).2, rfl, ⟨(congrArg Prod.fst hE).symm, (congrArg Prod.snd hE).symm⟩, by dsimp only; rw [ht]; exact hP⟩, hS.F ht⟩) hS.2.2 dX8_isForm_125
                        · have hE := hE.trans (if_neg c8)
                          refine lv_iconst (v := 1) hx hb dX8_isForm_120 (by decide) ?_
                          refine lv_goto (tgt := 125) hx hb dX8_isForm_121 (by decide) ?_
                          exact W.zret (v := 1) hx hb hr rfl (fun t ht hW => ⟨⟨1, (f_X8_breaks V2 x1_2 1).2, rfl, ⟨(congrArg Prod.fst hE).symm, (congrArg Prod.snd hE).symm⟩, by dsimp only; rw [ht]; exact hP⟩, hS.F ht⟩) hS.2.2 dX8_isForm_125
                  · have hE := hE.trans (if_neg c5)
                    have hp := pc_bn hp c5
                    refine lv_iload_n hx hb dX8_isForm_75 rfl (lv_at hl 1 rfl) ?_
                    refine lv_iconst (v := 2) hx hb dX8_isForm_76 (by decide) ?_
                    refine lv_aload_n hx hb dX8_isForm_77 rfl (lv_at hl 0 rfl) ?_
                    refine x_get (ci := 6) (fs := [.ref (ad 49), .ref (ad 50), .ref (ad 51), .int ((V2 48) 0), .ref (ad 52), .int ((V2 48) 1), .ref (ad 53), .int ((V2 48) 2), .int ((V2 48) 3), .int ((V2 48) 4), .int ((V2 48) 5), .int ((V2 48) 6), .int ((V2 48) 7)]) (q := 48) (v := .int (V2 48 7)) (N := 13) hx hb hts (fun _ h => List.mem_cons_of_mem _ (List.mem_append_right _ h)) hown hK hP (by decide) (ce_md ad cI cB (V2 48)) rfl 12 (by decide) (hts (.fieldLink RX8 147 "TurnedBoardsModel" "wide" "I") (List.mem_of_getElem? (i := 1) rfl)) rfl rfl dX8_isForm_78 ?_
                    refine lv_imul hx hb dX8_isForm_81 ?_
                    refine lv_icmp_gt (tgt := 91) hx hb dX8_isForm_82 (by decide) (fun c10 => ?_) (fun c10 => ?_)
                    · have hE := hE.trans (if_pos c10)
                      refine lv_iload_n hx hb dX8_isForm_91 rfl (lv_at hl 1 rfl) ?_
                      refine lv_iconst (v := 2) hx hb dX8_isForm_92 (by decide) ?_
                      refine lv_aload_n hx hb dX8_isForm_93 rfl (lv_at hl 0 rfl) ?_
                      refine x_get (ci := 6) (fs := [.ref (ad 49), .ref (ad 50), .ref (ad 51), .int ((V2 48) 0), .ref (ad 52), .int ((V2 48) 1), .ref (ad 53), .int ((V2 48) 2), .int ((V2 48) 3), .int ((V2 48) 4), .int ((V2 48) 5), .int ((V2 48) 6), .int ((V2 48) 7)]) (q := 48) (v := .int (V2 48 7)) (N := 13) hx hb hts (fun _ h => List.mem_cons_of_mem _ (List.mem_append_right _ h)) hown hK hP (by decide) (ce_md ad cI cB (V2 48)) rfl 12 (by decide) (hts (.fieldLink RX8 147 "TurnedBoardsModel" "wide" "I") (List.mem_of_getElem? (i := 1) rfl)) rfl rfl dX8_isForm_94 ?_
                      refine lv_imul hx hb dX8_isForm_97 ?_
                      refine lv_iconst (v := 1) hx hb dX8_isForm_98 (by decide) ?_
                      refine lv_iadd hx hb dX8_isForm_99 ?_
                      refine lv_icmp_ne (tgt := 111) hx hb dX8_isForm_100 (by decide) (fun c11 => ?_) (fun c11 => ?_)
                      · have hE := hE.trans (if_neg c11)
                        refine lv_aload_n hx hb dX8_isForm_111 rfl (lv_at hl 0 rfl) ?_
                        refine lv_iload_n hx hb dX8_isForm_112 rfl (lv_at hl 1 rfl) ?_
                        refine lv_iconst (v := 1) hx hb dX8_isForm_113 (by decide) ?_
                        refine k_VWi (As := [.int x1_2, .int 1]) (rest := []) (q := 48) ⟨hx, hb, hml, hown, hts⟩ hKN hP hS (m_X8_breaks l D cI cB ad hA V2 x1_2 1) (cwV 2 hts gX8_isForm_X8_breaks rfl rfl rfl (by decide +kernel) ⟨(Nat.le_of_ble_eq_true rfl), (Nat.le_of_ble_eq_true rfl)⟩) (c_preV hP hKN (q := 48) (ci := 6) (fs := [.ref (ad 49), .ref (ad 50), .ref (ad 51), .int ((V2 48) 0), .ref (ad 52), .int ((V2 48) 1), .ref (ad 53), .int ((V2 48) 2), .int ((V2 48) 3), .int ((V2 48) 4), .int ((V2 48) 5), .int ((V2 48) 6), .int ((V2 48) 7)]) (by decide) (ce_md ad cI cB (V2 48)) rfl rfl) rfl hl.1 rfl (Nat.le_of_ble_eq_true rfl) dX8_isForm_114 ⟨Nat.zero_le _, Nat.zero_le _⟩ (fun H locs hP hS => ?_)
                        refine lv_if_eq (tgt := 124) hx hb dX8_isForm_117 (by decide) (fun c14 => ?_) (fun c14 => ?_)
                        · have hE := hE.trans (if_pos c14)
                          refine lv_iconst (v := 0) hx hb dX8_isForm_124 (by decide) ?_
                          exact W.zret (v := 0) hx hb hr rfl (fun t ht hW => ⟨⟨0, (f_X8_breaks V2 x1_2 1).2, rfl, ⟨(congrArg Prod.fst hE).symm, (congrArg Prod.snd hE).symm⟩, by dsimp only; rw [ht]; exact hP⟩, hS.F ht⟩) hS.2.2 dX8_isForm_125
                        · have hE := hE.trans (if_neg c14)
                          refine lv_iconst (v := 1) hx hb dX8_isForm_120 (by decide) ?_
                          refine lv_goto (tgt := 125) hx hb dX8_isForm_121 (by decide) ?_
                          exact W.zret (v := 1) hx hb hr rfl (fun t ht hW => ⟨⟨1, (f_X8_breaks V2 x1_2 1).2, rfl, ⟨(congrArg Prod.fst hE).symm, (congrArg Prod.snd hE).symm⟩, by dsimp only; rw [ht]; exact hP⟩, hS.F ht⟩) hS.2.2 dX8_isForm_125
                      · have hE := hE.trans (if_pos c11)
                        refine lv_iload_n hx hb dX8_isForm_103 rfl (lv_at hl 1 rfl) ?_
                        refine lv_aload_n hx hb dX8_isForm_104 rfl (lv_at hl 0 rfl) ?_
                        refine x_get (ci := 6) (fs := [.ref (ad 49), .ref (ad 50), .ref (ad 51), .int ((V2 48) 0), .ref (ad 52), .int ((V2 48) 1), .ref (ad 53), .int ((V2 48) 2), .int ((V2 48) 3), .int ((V2 48) 4), .int ((V2 48) 5), .int ((V2 48) 6), .int ((V2 48) 7)]) (q := 48) (v := .int (V2 48 2)) (N := 13) hx hb hts (fun _ h => List.mem_cons_of_mem _ (List.mem_append_right _ h)) hown hK hP (by decide) (ce_md ad cI cB (V2 48)) rfl 7 (by decide) (hts (.fieldLink RX8 122 "TurnedBoardsModel" "length" "I") (List.mem_of_getElem? (i := 2) rfl)) rfl rfl dX8_isForm_105 ?_
                        refine lv_icmp_eq (tgt := 120) hx hb dX8_isForm_108 (by decide) (fun c12 => ?_) (fun c12 => ?_)
                        · have hE := hE.trans (if_pos c12)
                          refine lv_iconst (v := 1) hx hb dX8_isForm_120 (by decide) ?_
                          refine lv_goto (tgt := 125) hx hb dX8_isForm_121 (by decide) ?_
                          exact W.zret (v := 1) hx hb hr rfl (fun t ht hW => ⟨⟨1, V2, rfl, ⟨(congrArg Prod.fst hE).symm, (congrArg Prod.snd hE).symm⟩, by dsimp only; rw [ht]; exact hP⟩, hS.F ht⟩) hS.2.2 dX8_isForm_125
                        · have hE := hE.trans (if_neg c12)
                          refine lv_aload_n hx hb dX8_isForm_111 rfl (lv_at hl 0 rfl) ?_
                          refine lv_iload_n hx hb dX8_isForm_112 rfl (lv_at hl 1 rfl) ?_
                          refine lv_iconst (v := 1) hx hb dX8_isForm_113 (by decide) ?_
                          refine k_VWi (As := [.int x1_2, .int 1]) (rest := []) (q := 48) ⟨hx, hb, hml, hown, hts⟩ hKN hP hS (m_X8_breaks l D cI cB ad hA V2 x1_2 1) (cwV 2 hts gX8_isForm_X8_breaks rfl rfl rfl (by decide +kernel) ⟨(Nat.le_of_ble_eq_true rfl), (Nat.le_of_ble_eq_true rfl)⟩) (c_preV hP hKN (q := 48) (ci := 6) (fs := [.ref (ad 49), .ref (ad 50), .ref (ad 51), .int ((V2 48) 0), .ref (ad 52), .int ((V2 48) 1), .ref (ad 53), .int ((V2 48) 2), .int ((V2 48) 3), .int ((V2 48) 4), .int ((V2 48) 5), .int ((V2 48) 6), .int ((V2 48) 7)]) (by decide) (ce_md ad cI cB (V2 48)) rfl rfl) rfl hl.1 rfl (Nat.le_of_ble_eq_true rfl) dX8_isForm_114 ⟨Nat.zero_le _, Nat.zero_le _⟩ (fun H locs hP hS => ?_)
                          refine lv_if_eq (tgt := 124) hx hb dX8_isForm_117 (by decide) (fun c13 => ?_) (fun c13 => ?_)
                          · have hE := hE.trans (if_pos c13)
                            refine lv_iconst (v := 0) hx hb dX8_isForm_124 (by decide) ?_
                            exact W.zret (v := 0) hx hb hr rfl (fun t ht hW => ⟨⟨0, (f_X8_breaks V2 x1_2 1).2, rfl, ⟨(congrArg Prod.fst hE).symm, (congrArg Prod.snd hE).symm⟩, by dsimp only; rw [ht]; exact hP⟩, hS.F ht⟩) hS.2.2 dX8_isForm_125
                          · have hE := hE.trans (if_neg c13)
                            refine lv_iconst (v := 1) hx hb dX8_isForm_120 (by decide) ?_
                            refine lv_goto (tgt := 125) hx hb dX8_isForm_121 (by decide) ?_
                            exact W.zret (v := 1) hx hb hr rfl (fun t ht hW => ⟨⟨1, (f_X8_breaks V2 x1_2 1).2, rfl, ⟨(congrArg Prod.fst hE).symm, (congrArg Prod.snd hE).symm⟩, by dsimp only; rw [ht]; exact hP⟩, hS.F ht⟩) hS.2.2 dX8_isForm_125
                    · have hE := hE.trans (if_neg c10)
                      have hp := pc_bn hp c10
                      refine lv_iinc (v := (x1_2 + 1)) (lv' := [(1, .int (x1_2 + 1)), (0, .ref (ad 48))]) hx hb dX8_isForm_85 hl (k := 1) rfl (by rfl) (by decide) rfl (fun ls hl => ?_)
                      refine lv_goto (tgt := 67) hx hb dX8_isForm_88 (by decide) ?_
                      exact ih2 V2 (x1_2 + 1) hE hp H locs hP hS ls (lv_sub hl [1, 0] rfl)
              exact L2 fu (upV V1 48 7 x1_1) (x1_1 + 1) hE hp _ _ hP hS _ (lv_sub hl [1, 0] rfl)
            · have hE := hE.trans (if_neg c4)
              have hp := pc_bn hp c4
              refine lv_aload_n hx hb dX8_isForm_57 rfl (lv_at hl 0 rfl) ?_
              refine lv_iload_n hx hb dX8_isForm_58 rfl (lv_at hl 1 rfl) ?_
              refine lv_iconst (v := 1) hx hb dX8_isForm_59 (by decide) ?_
              refine k_VWi (As := [.int x1_1, .int 1]) (rest := []) (q := 48) ⟨hx, hb, hml, hown, hts⟩ hKN hP hS (m_X8_breaks l D cI cB ad hA (upV V1 48 7 x1_1) x1_1 1) (cwV 2 hts gX8_isForm_X8_breaks rfl rfl rfl (by decide +kernel) ⟨(Nat.le_of_ble_eq_true rfl), (Nat.le_of_ble_eq_true rfl)⟩) (c_preV hP hKN (q := 48) (ci := 6) (fs := [.ref (ad 49), .ref (ad 50), .ref (ad 51), .int (((upV V1 48 7 x1_1) 48) 0), .ref (ad 52), .int (((upV V1 48 7 x1_1) 48) 1), .ref (ad 53), .int (((upV V1 48 7 x1_1) 48) 2), .int (((upV V1 48 7 x1_1) 48) 3), .int (((upV V1 48 7 x1_1) 48) 4), .int (((upV V1 48 7 x1_1) 48) 5), .int (((upV V1 48 7 x1_1) 48) 6), .int (((upV V1 48 7 x1_1) 48) 7)]) (by decide) (ce_md ad cI cB ((upV V1 48 7 x1_1) 48)) rfl rfl) rfl hl.1 rfl (Nat.le_of_ble_eq_true rfl) dX8_isForm_60 ⟨Nat.zero_le _, Nat.zero_le _⟩ (fun H locs hP hS => ?_)
              have hn6 := hp
              exact W.zret (v := (f_X8_breaks (upV V1 48 7 x1_1) x1_1 1).1) hx hb hr hn6.n (fun t ht hW => ⟨⟨(f_X8_breaks (upV V1 48 7 x1_1) x1_1 1).1, (f_X8_breaks (upV V1 48 7 x1_1) x1_1 1).2, rfl, ⟨(congrArg Prod.fst hE).symm, (congrArg Prod.snd hE).symm⟩, by dsimp only; rw [ht]; exact hP⟩, hS.F ht⟩) hS.2.2 dX8_isForm_63
      · have hE := hE.trans (if_neg c1)
        have hp := pc_bn hp c1
        refine lv_iload_n hx hb dX8_isForm_10 rfl (lv_at hl 1 rfl) ?_
        refine lv_bipush (v := 8) hx hb dX8_isForm_11 (by decide) ?_
        refine lv_icmp_ne (tgt := 23) hx hb dX8_isForm_13 (by decide) (fun c15 => ?_) (fun c15 => ?_)
        · have hE := hE.trans (if_neg c15)
          have hp := pc_bn hp c15
          refine lv_iinc (v := (x1_1 + 1)) (lv' := [(1, .int (x1_1 + 1)), (0, .ref (ad 48))]) hx hb dX8_isForm_23 hl (k := 1) rfl (by rfl) (by decide) rfl (fun ls hl => ?_)
          refine lv_goto (tgt := 2) hx hb dX8_isForm_26 (by decide) ?_
          exact ih1 V1 (x1_1 + 1) hE hp H locs hP hS ls (lv_sub hl [1, 0] rfl)
        · have hE := hE.trans (if_pos c15)
          have hp := pc_br hp c15
          refine lv_aload_n hx hb dX8_isForm_16 rfl (lv_at hl 0 rfl) ?_
          refine lv_iload_n hx hb dX8_isForm_17 rfl (lv_at hl 1 rfl) ?_
          refine lv_iconst (v := 2) hx hb dX8_isForm_18 (by decide) ?_
          refine k_VWi (As := [.int x1_1, .int 2]) (rest := []) (q := 48) ⟨hx, hb, hml, hown, hts⟩ hKN hP hS (m_X8_breaks l D cI cB ad hA V1 x1_1 2) (cwV 2 hts gX8_isForm_X8_breaks rfl rfl rfl (by decide +kernel) ⟨(Nat.le_of_ble_eq_true rfl), (Nat.le_of_ble_eq_true rfl)⟩) (c_preV hP hKN (q := 48) (ci := 6) (fs := [.ref (ad 49), .ref (ad 50), .ref (ad 51), .int ((V1 48) 0), .ref (ad 52), .int ((V1 48) 1), .ref (ad 53), .int ((V1 48) 2), .int ((V1 48) 3), .int ((V1 48) 4), .int ((V1 48) 5), .int ((V1 48) 6), .int ((V1 48) 7)]) (by decide) (ce_md ad cI cB (V1 48)) rfl rfl) rfl hl.1 rfl (Nat.le_of_ble_eq_true rfl) dX8_isForm_19 ⟨Nat.zero_le _, Nat.zero_le _⟩ (fun H locs hP hS => ?_)
          have hn7 := hp
          exact W.zret (v := (f_X8_breaks V1 x1_1 2).1) hx hb hr hn7.n (fun t ht hW => ⟨⟨(f_X8_breaks V1 x1_1 2).1, (f_X8_breaks V1 x1_1 2).2, rfl, ⟨(congrArg Prod.fst hE).symm, (congrArg Prod.snd hE).symm⟩, by dsimp only; rw [ht]; exact hP⟩, hS.F ht⟩) hS.2.2 dX8_isForm_22
  exact L1 fu V 0 hE hp _ _ hP hS _ (lv_sub hl [1, 0] rfl)
def f_X8_areWords_l1 (fu : Nat)  : Nat → VT → Int32 → Int32 × VT
  | 0, V1, x1_1 => (0, V1)
  | w1 + 1, V1, x1_1 => (if (V1 48 2) ≤ x1_1 then (1, V1) else (if x1_1 = (V1 48 7) then (f_X8_areWords_l1 fu  w1 V1 (x1_1 + 1)) else (if 0 ≤ (f_X8_drawn V1 ((V1 53 x1_1.toNatClampNeg) - 97)) then (f_X8_areWords_l1 fu  w1 V1 (x1_1 + 1)) else ((f_X8_breaks V1 x1_1 3).1, (f_X8_breaks V1 x1_1 3).2))))
def p_X8_areWords_l1 (fu : Nat)  : Nat → VT → Int32 → Prop
  | 0, _, _ => False
  | w1 + 1, V1, x1_1 => (((V1 48 2) ≤ x1_1 → True) ∧ (¬ ((V1 48 2) ≤ x1_1) → ((x1_1 = (V1 48 7) → (p_X8_areWords_l1 fu  w1 V1 (x1_1 + 1))) ∧ (¬ (x1_1 = (V1 48 7)) → ((vp_in x1_1 30) ∧ ((p_X8_drawn V1 ((V1 53 x1_1.toNatClampNeg) - 97)) ∧ ((0 ≤ (f_X8_drawn V1 ((V1 53 x1_1.toNatClampNeg) - 97)) → (p_X8_areWords_l1 fu  w1 V1 (x1_1 + 1))) ∧ (¬ (0 ≤ (f_X8_drawn V1 ((V1 53 x1_1.toNatClampNeg) - 97))) → (isB ((f_X8_breaks V1 x1_1 3).1))))))))))
def f_X8_areWords (fu : Nat) (V : VT)  : Int32 × VT := (if ((f_X8_isForm fu V).1) = 0 then (0, (f_X8_isForm fu V).2) else (f_X8_areWords_l1 fu  fu ((f_X8_isForm fu V).2) 0))
def p_X8_areWords (fu : Nat) (V : VT)  : Prop := ((p_X8_isForm fu V ) ∧ ((((f_X8_isForm fu V).1) = 0 → True) ∧ (¬ (((f_X8_isForm fu V).1) = 0) → (p_X8_areWords_l1 fu  fu ((f_X8_isForm fu V).2) 0))))
set_option maxHeartbeats 4000000 in
set_option maxRecDepth 100000 in
theorem m_X8_areWords (l : Launch) (D : va_G) (cI cB : ClassId) (ad : Nat → Nat) {A : Nat → Prop} (hA : adOk ad A) (fu : Nat) (V : VT)   (hp : p_X8_areWords fu V ) : Met l yX8_areWords wsX8_areWords ({ frames := 3, cells := 0, slots := 0, locals := 64 }) (cP D cI cB ad V [.ref (ad 48)]) (cWi D cI cB ad A (f_X8_areWords fu V)) 0 0 A := by
  refine Met.ofW (cc := cX8_areWords) (maxL := 2) (ret := (some .boolean)) (by decide +kernel) rfl ?_
  intro p e s m args below meth c s₁ B hml hv
  obtain ⟨rfl, hP, hKN⟩ := hv
  have hK := hKN.1
  have hx := B.exec
  have hb := B.bytes
  have hr := B.returns
  have hts := atoms_spec (ws := wsX8_areWords) B.pre
  have hown : s.vm.findClass RX8 = some m.cls := findClass_of_methodNamed B.named
  have hlocks := B.notSynchronized
  have hS : va_S A s.heap s.heap [] := va_S.rf
  have hl := lv_entry ([.ref (ad 48)]) (n := 2) (Nat.le_of_ble_eq_true rfl)
  rw [lg_entry_eq]
  generalize (lg_sl ([.ref (ad 48)]) ++ List.replicate (2 - (lg_sl ([.ref (ad 48)])).length) Slot.unset).toArray = ls at hl ⊢
  have hl : lv_has ls 2 [(0, .ref (ad 48))] := hl
  have hE : f_X8_areWords fu V = (if ((f_X8_isForm fu V).1) = 0 then (0, (f_X8_isForm fu V).2) else (f_X8_areWords_l1 fu  fu ((f_X8_isForm fu V).2) 0)) := rfl
  refine lv_aload_n hx hb dX8_areWords_0 rfl (lv_at hl 0 rfl) ?_
  obtain ⟨hn1, hp⟩ := hp
  refine k_VWi (As := []) (rest := []) (q := 48) ⟨hx, hb, hml, hown, hts⟩ hKN hP hS (m_X8_isForm l D cI cB ad hA fu V hn1) (cwV 0 hts gX8_areWords_X8_isForm rfl rfl rfl (by decide +kernel) ⟨(Nat.le_of_ble_eq_true rfl), (Nat.le_of_ble_eq_true rfl)⟩) (c_preV hP hKN (q := 48) (ci := 6) (fs := [.ref (ad 49), .ref (ad 50), .ref (ad 51), .int ((V 48) 0), .ref (ad 52), .int ((V 48) 1), .ref (ad 53), .int ((V 48) 2), .int ((V 48) 3), .int ((V 48) 4), .int ((V 48) 5), .int ((V 48) 6), .int ((V 48) 7)]) (by decide) (ce_md ad cI cB (V 48)) rfl rfl) rfl hl.1 rfl (Nat.le_of_ble_eq_true rfl) dX8_areWords_1 ⟨Nat.zero_le _, Nat.zero_le _⟩ (fun H locs hP hS => ?_)
  refine lv_if_ne (tgt := 9) hx hb dX8_areWords_4 (by decide) (fun c1 => ?_) (fun c1 => ?_)
  · have hE := hE.trans (if_neg c1)
    have hp := pc_bn hp c1
    refine lv_iconst (v := 0) hx hb dX8_areWords_9 (by decide) ?_
    refine lv_istore_n (lv' := [(1, .int 0), (0, .ref (ad 48))]) hx hb dX8_areWords_10 rfl hl (by decide) rfl (fun ls hl => ?_)
    have L1 : ∀ (w1 : Nat) (V1 : VT) (x1_1 : Int32), f_X8_areWords fu V = f_X8_areWords_l1 fu  w1 V1 x1_1 → p_X8_areWords_l1 fu  w1 V1 x1_1 → ∀ (H : Heap) (locs : List Loc), wP D cI cB ad V1 H → va_S A s.heap H locs → ∀ (ls : Array Slot), lv_has ls 2 [(0, .ref (ad 48)), (1, .int x1_1)] → W p l e (headSpec wsX8_areWords ({ frames := 3, cells := 0, slots := 0, locals := 64 })).room s m ([.ref (ad 48)] : List Value).toArray below meth c H locs 0 0 (MQ below (cWi D cI cB ad A (f_X8_areWords fu V)) ([.ref (ad 48)] : List Value).toArray s 0 0 A) (F0 m 11 ls []) := by
      intro w1
      induction w1 with
      | zero => intro V1 x1_1 hE hp; exact hp.elim
      | succ w1 ih1 =>
        intro V1 x1_1 hE hp H locs hP hS ls hl
        rw [f_X8_areWords_l1] at hE
        rw [p_X8_areWords_l1] at hp
        refine lv_iload_n hx hb dX8_areWords_11 rfl (lv_at hl 1 rfl) ?_
        refine lv_aload_n hx hb dX8_areWords_12 rfl (lv_at hl 0 rfl) ?_
        refine x_get (ci := 6) (fs := [.ref (ad 49), .ref (ad 50), .ref (ad 51), .int ((V1 48) 0), .ref (ad 52), .int ((V1 48) 1), .ref (ad 53), .int ((V1 48) 2), .int ((V1 48) 3), .int ((V1 48) 4), .int ((V1 48) 5), .int ((V1 48) 6), .int ((V1 48) 7)]) (q := 48) (v := .int (V1 48 2)) (N := 13) hx hb hts (fun _ h => List.mem_cons_of_mem _ (List.mem_append_right _ h)) hown hK hP (by decide) (ce_md ad cI cB (V1 48)) rfl 7 (by decide) (hts (.fieldLink RX8 122 "TurnedBoardsModel" "length" "I") (List.mem_of_getElem? (i := 1) rfl)) rfl rfl dX8_areWords_13 ?_
        refine lv_icmp_ge (tgt := 56) hx hb dX8_areWords_16 (by decide) (fun c2 => ?_) (fun c2 => ?_)
        · have hE := hE.trans (if_pos c2)
          refine lv_iconst (v := 1) hx hb dX8_areWords_56 (by decide) ?_
          exact W.zret (v := 1) hx hb hr rfl (fun t ht hW => ⟨⟨1, V1, rfl, ⟨(congrArg Prod.fst hE).symm, (congrArg Prod.snd hE).symm⟩, by dsimp only; rw [ht]; exact hP⟩, hS.F ht⟩) hS.2.2 dX8_areWords_57
        · have hE := hE.trans (if_neg c2)
          have hp := pc_bn hp c2
          refine lv_iload_n hx hb dX8_areWords_19 rfl (lv_at hl 1 rfl) ?_
          refine lv_aload_n hx hb dX8_areWords_20 rfl (lv_at hl 0 rfl) ?_
          refine x_get (ci := 6) (fs := [.ref (ad 49), .ref (ad 50), .ref (ad 51), .int ((V1 48) 0), .ref (ad 52), .int ((V1 48) 1), .ref (ad 53), .int ((V1 48) 2), .int ((V1 48) 3), .int ((V1 48) 4), .int ((V1 48) 5), .int ((V1 48) 6), .int ((V1 48) 7)]) (q := 48) (v := .int (V1 48 7)) (N := 13) hx hb hts (fun _ h => List.mem_cons_of_mem _ (List.mem_append_right _ h)) hown hK hP (by decide) (ce_md ad cI cB (V1 48)) rfl 12 (by decide) (hts (.fieldLink RX8 147 "TurnedBoardsModel" "wide" "I") (List.mem_of_getElem? (i := 2) rfl)) rfl rfl dX8_areWords_21 ?_
          refine lv_icmp_eq (tgt := 50) hx hb dX8_areWords_24 (by decide) (fun c3 => ?_) (fun c3 => ?_)
          · have hE := hE.trans (if_pos c3)
            have hp := pc_br hp c3
            refine lv_iinc (v := (x1_1 + 1)) (lv' := [(1, .int (x1_1 + 1)), (0, .ref (ad 48))]) hx hb dX8_areWords_50 hl (k := 1) rfl (by rfl) (by decide) rfl (fun ls hl => ?_)
            refine lv_goto (tgt := 11) hx hb dX8_areWords_53 (by decide) ?_
            exact ih1 V1 (x1_1 + 1) hE hp H locs hP hS ls (lv_sub hl [1, 0] rfl)
          · have hE := hE.trans (if_neg c3)
            have hp := pc_bn hp c3
            refine lv_aload_n hx hb dX8_areWords_27 rfl (lv_at hl 0 rfl) ?_
            refine lv_aload_n hx hb dX8_areWords_28 rfl (lv_at hl 0 rfl) ?_
            refine x_get (ci := 6) (fs := [.ref (ad 49), .ref (ad 50), .ref (ad 51), .int ((V1 48) 0), .ref (ad 52), .int ((V1 48) 1), .ref (ad 53), .int ((V1 48) 2), .int ((V1 48) 3), .int ((V1 48) 4), .int ((V1 48) 5), .int ((V1 48) 6), .int ((V1 48) 7)]) (q := 48) (v := .ref (ad 53)) (N := 13) hx hb hts (fun _ h => List.mem_cons_of_mem _ (List.mem_append_right _ h)) hown hK hP (by decide) (ce_md ad cI cB (V1 48)) rfl 6 (by decide) (hts (.fieldLink RX8 22 "TurnedBoardsModel" "text" "[I") (List.mem_of_getElem? (i := 3) rfl)) rfl rfl dX8_areWords_29 ?_
            refine lv_iload_n hx hb dX8_areWords_32 rfl (lv_at hl 1 rfl) ?_
            obtain ⟨hn2, hp⟩ := hp
            refine x_iald hx hb hK hP ⟨by decide, fun _ => rfl, by decide⟩ hn2 dX8_areWords_33 ?_
            refine lv_bipush (v := 97) hx hb dX8_areWords_34 (by decide) ?_
            refine lv_isub hx hb dX8_areWords_36 ?_
            obtain ⟨hn3, hp⟩ := hp
            refine k_VR (As := [.int ((V1 53 x1_1.toNatClampNeg) - 97)]) (rest := []) (q := 48) ⟨hx, hb, hml, hown, hts⟩ hKN hP hS (m_X8_drawn l D cI cB ad V1 ((V1 53 x1_1.toNatClampNeg) - 97) hn3) (cwV 1 hts gX8_areWords_X8_drawn rfl rfl rfl (by decide +kernel) ⟨(Nat.le_of_ble_eq_true rfl), (Nat.le_of_ble_eq_true rfl)⟩) (c_preV hP hKN (q := 48) (ci := 6) (fs := [.ref (ad 49), .ref (ad 50), .ref (ad 51), .int ((V1 48) 0), .ref (ad 52), .int ((V1 48) 1), .ref (ad 53), .int ((V1 48) 2), .int ((V1 48) 3), .int ((V1 48) 4), .int ((V1 48) 5), .int ((V1 48) 6), .int ((V1 48) 7)]) (by decide) (ce_md ad cI cB (V1 48)) rfl rfl) rfl hl.1 rfl (Nat.le_of_ble_eq_true rfl) dX8_areWords_37 ⟨Nat.zero_le _, Nat.zero_le _⟩ (fun H locs hP hS => ?_)
            refine lv_if_ge (tgt := 50) hx hb dX8_areWords_40 (by decide) (fun c4 => ?_) (fun c4 => ?_)
            · have hE := hE.trans (if_pos c4)
              have hp := pc_br hp c4
              refine lv_iinc (v := (x1_1 + 1)) (lv' := [(1, .int (x1_1 + 1)), (0, .ref (ad 48))]) hx hb dX8_areWords_50 hl (k := 1) rfl (by rfl) (by decide) rfl (fun ls hl => ?_)
              refine lv_goto (tgt := 11) hx hb dX8_areWords_53 (by decide) ?_
              exact ih1 V1 (x1_1 + 1) hE hp H locs hP hS ls (lv_sub hl [1, 0] rfl)
            · have hE := hE.trans (if_neg c4)
              have hp := pc_bn hp c4
              refine lv_aload_n hx hb dX8_areWords_43 rfl (lv_at hl 0 rfl) ?_
              refine lv_iload_n hx hb dX8_areWords_44 rfl (lv_at hl 1 rfl) ?_
              refine lv_iconst (v := 3) hx hb dX8_areWords_45 (by decide) ?_
              refine k_VWi (As := [.int x1_1, .int 3]) (rest := []) (q := 48) ⟨hx, hb, hml, hown, hts⟩ hKN hP hS (m_X8_breaks l D cI cB ad hA V1 x1_1 3) (cwV 2 hts gX8_areWords_X8_breaks rfl rfl rfl (by decide +kernel) ⟨(Nat.le_of_ble_eq_true rfl), (Nat.le_of_ble_eq_true rfl)⟩) (c_preV hP hKN (q := 48) (ci := 6) (fs := [.ref (ad 49), .ref (ad 50), .ref (ad 51), .int ((V1 48) 0), .ref (ad 52), .int ((V1 48) 1), .ref (ad 53), .int ((V1 48) 2), .int ((V1 48) 3), .int ((V1 48) 4), .int ((V1 48) 5), .int ((V1 48) 6), .int ((V1 48) 7)]) (by decide) (ce_md ad cI cB (V1 48)) rfl rfl) rfl hl.1 rfl (Nat.le_of_ble_eq_true rfl) dX8_areWords_46 ⟨Nat.zero_le _, Nat.zero_le _⟩ (fun H locs hP hS => ?_)
              have hn4 := hp
              exact W.zret (v := (f_X8_breaks V1 x1_1 3).1) hx hb hr hn4.n (fun t ht hW => ⟨⟨(f_X8_breaks V1 x1_1 3).1, (f_X8_breaks V1 x1_1 3).2, rfl, ⟨(congrArg Prod.fst hE).symm, (congrArg Prod.snd hE).symm⟩, by dsimp only; rw [ht]; exact hP⟩, hS.F ht⟩) hS.2.2 dX8_areWords_49
    exact L1 fu ((f_X8_isForm fu V).2) 0 hE hp _ _ hP hS _ (lv_sub hl [1, 0] rfl)
  · have hE := hE.trans (if_pos c1)
    refine lv_iconst (v := 0) hx hb dX8_areWords_7 (by decide) ?_
    exact W.zret (v := 0) hx hb hr rfl (fun t ht hW => ⟨⟨0, (f_X8_isForm fu V).2, rfl, ⟨(congrArg Prod.fst hE).symm, (congrArg Prod.snd hE).symm⟩, by dsimp only; rw [ht]; exact hP⟩, hS.F ht⟩) hS.2.2 dX8_areWords_8
def f_X8_fault (fu : Nat) (V : VT) (p1 : Int32) : Int32 × VT := (if (f_X8_in V p1 0 1) = 0 then ((-1001), V) else (if ((f_X8_areWords fu V).1) = 0 then (if p1 = 0 then ((((f_X8_areWords fu V).2) 48 5), (f_X8_areWords fu V).2) else ((((f_X8_areWords fu V).2) 48 6), (f_X8_areWords fu V).2)) else ((-1004), (f_X8_areWords fu V).2)))
def p_X8_fault (fu : Nat) (V : VT) (p1 : Int32) : Prop := (((f_X8_in V p1 0 1) = 0 → True) ∧ (¬ ((f_X8_in V p1 0 1) = 0) → (p_X8_areWords fu V )))
set_option maxHeartbeats 4000000 in
set_option maxRecDepth 100000 in
theorem m_X8_fault (l : Launch) (D : va_G) (cI cB : ClassId) (ad : Nat → Nat) {A : Nat → Prop} (hA : adOk ad A) (fu : Nat) (V : VT) (p1 : Int32)  (hp : p_X8_fault fu V p1) : Met l yX8_fault wsX8_fault ({ frames := 4, cells := 0, slots := 0, locals := 85 }) (cP D cI cB ad V [.ref (ad 48), .int p1]) (cWi D cI cB ad A (f_X8_fault fu V p1)) 0 0 A := by
  refine Met.ofW (cc := cX8_fault) (maxL := 2) (ret := (some .int)) (by decide +kernel) rfl ?_
  intro p e s m args below meth c s₁ B hml hv
  obtain ⟨rfl, hP, hKN⟩ := hv
  have hK := hKN.1
  have hx := B.exec
  have hb := B.bytes
  have hr := B.returns
  have hts := atoms_spec (ws := wsX8_fault) B.pre
  have hown : s.vm.findClass RX8 = some m.cls := findClass_of_methodNamed B.named
  have hlocks := B.notSynchronized
  have hS : va_S A s.heap s.heap [] := va_S.rf
  have hl := lv_entry ([.ref (ad 48), .int p1]) (n := 2) (Nat.le_of_ble_eq_true rfl)
  rw [lg_entry_eq]
  generalize (lg_sl ([.ref (ad 48), .int p1]) ++ List.replicate (2 - (lg_sl ([.ref (ad 48), .int p1])).length) Slot.unset).toArray = ls at hl ⊢
  have hl : lv_has ls 2 [(0, .ref (ad 48)), (1, .int p1)] := hl
  have hE : f_X8_fault fu V p1 = (if (f_X8_in V p1 0 1) = 0 then ((-1001), V) else (if ((f_X8_areWords fu V).1) = 0 then (if p1 = 0 then ((((f_X8_areWords fu V).2) 48 5), (f_X8_areWords fu V).2) else ((((f_X8_areWords fu V).2) 48 6), (f_X8_areWords fu V).2)) else ((-1004), (f_X8_areWords fu V).2))) := rfl
  refine lv_iload_n hx hb dX8_fault_0 rfl (lv_at hl 1 rfl) ?_
  refine lv_iconst (v := 0) hx hb dX8_fault_1 (by decide) ?_
  refine lv_iconst (v := 1) hx hb dX8_fault_2 (by decide) ?_
  refine k_SR (As := [.int p1, .int 0, .int 1]) (rest := []) ⟨hx, hb, hml, hown, hts⟩ hKN hP hS (m_X8_in l D cI cB ad V p1 0 1) (va_cwS 3 hts gX8_fault_X8_in rfl rfl rfl (by decide +kernel) ⟨(Nat.le_of_ble_eq_true rfl), (Nat.le_of_ble_eq_true rfl)⟩) rfl hl.1 rfl (Nat.le_of_ble_eq_true rfl) dX8_fault_3 ⟨Nat.zero_le _, Nat.zero_le _⟩ (fun H locs hP hS => ?_)
  refine lv_if_ne (tgt := 13) hx hb dX8_fault_6 (by decide) (fun c1 => ?_) (fun c1 => ?_)
  · have hE := hE.trans (if_neg c1)
    have hp := pc_bn hp c1
    refine lv_aload_n hx hb dX8_fault_13 rfl (lv_at hl 0 rfl) ?_
    have hn1 := hp
    refine k_VWi (As := []) (rest := []) (q := 48) ⟨hx, hb, hml, hown, hts⟩ hKN hP hS (m_X8_areWords l D cI cB ad hA fu V hn1) (cwV 0 hts gX8_fault_X8_areWords rfl rfl rfl (by decide +kernel) ⟨(Nat.le_of_ble_eq_true rfl), (Nat.le_of_ble_eq_true rfl)⟩) (c_preV hP hKN (q := 48) (ci := 6) (fs := [.ref (ad 49), .ref (ad 50), .ref (ad 51), .int ((V 48) 0), .ref (ad 52), .int ((V 48) 1), .ref (ad 53), .int ((V 48) 2), .int ((V 48) 3), .int ((V 48) 4), .int ((V 48) 5), .int ((V 48) 6), .int ((V 48) 7)]) (by decide) (ce_md ad cI cB (V 48)) rfl rfl) rfl hl.1 rfl (Nat.le_of_ble_eq_true rfl) dX8_fault_14 ⟨Nat.zero_le _, Nat.zero_le _⟩ (fun H locs hP hS => ?_)
    refine lv_if_eq (tgt := 24) hx hb dX8_fault_17 (by decide) (fun c2 => ?_) (fun c2 => ?_)
    · have hE := hE.trans (if_pos c2)
      refine lv_iload_n hx hb dX8_fault_24 rfl (lv_at hl 1 rfl) ?_
      refine lv_if_ne (tgt := 35) hx hb dX8_fault_25 (by decide) (fun c3 => ?_) (fun c3 => ?_)
      · have hE := hE.trans (if_neg c3)
        refine lv_aload_n hx hb dX8_fault_35 rfl (lv_at hl 0 rfl) ?_
        refine x_get (ci := 6) (fs := [.ref (ad 49), .ref (ad 50), .ref (ad 51), .int ((((f_X8_areWords fu V).2) 48) 0), .ref (ad 52), .int ((((f_X8_areWords fu V).2) 48) 1), .ref (ad 53), .int ((((f_X8_areWords fu V).2) 48) 2), .int ((((f_X8_areWords fu V).2) 48) 3), .int ((((f_X8_areWords fu V).2) 48) 4), .int ((((f_X8_areWords fu V).2) 48) 5), .int ((((f_X8_areWords fu V).2) 48) 6), .int ((((f_X8_areWords fu V).2) 48) 7)]) (q := 48) (v := .int (((f_X8_areWords fu V).2) 48 6)) (N := 13) hx hb hts (fun _ h => List.mem_cons_of_mem _ (List.mem_append_right _ h)) hown hK hP (by decide) (ce_md ad cI cB (((f_X8_areWords fu V).2) 48)) rfl 11 (by decide) (hts (.fieldLink RX8 138 "TurnedBoardsModel" "why" "I") (List.mem_of_getElem? (i := 2) rfl)) rfl rfl dX8_fault_36 ?_
        exact W.iret (v := (((f_X8_areWords fu V).2) 48 6)) hx hb hr (fun t ht hW => ⟨⟨(((f_X8_areWords fu V).2) 48 6), (f_X8_areWords fu V).2, rfl, ⟨(congrArg Prod.fst hE).symm, (congrArg Prod.snd hE).symm⟩, by dsimp only; rw [ht]; exact hP⟩, hS.F ht⟩) hS.2.2 dX8_fault_39
      · have hE := hE.trans (if_pos c3)
        refine lv_aload_n hx hb dX8_fault_28 rfl (lv_at hl 0 rfl) ?_
        refine x_get (ci := 6) (fs := [.ref (ad 49), .ref (ad 50), .ref (ad 51), .int ((((f_X8_areWords fu V).2) 48) 0), .ref (ad 52), .int ((((f_X8_areWords fu V).2) 48) 1), .ref (ad 53), .int ((((f_X8_areWords fu V).2) 48) 2), .int ((((f_X8_areWords fu V).2) 48) 3), .int ((((f_X8_areWords fu V).2) 48) 4), .int ((((f_X8_areWords fu V).2) 48) 5), .int ((((f_X8_areWords fu V).2) 48) 6), .int ((((f_X8_areWords fu V).2) 48) 7)]) (q := 48) (v := .int (((f_X8_areWords fu V).2) 48 5)) (N := 13) hx hb hts (fun _ h => List.mem_cons_of_mem _ (List.mem_append_right _ h)) hown hK hP (by decide) (ce_md ad cI cB (((f_X8_areWords fu V).2) 48)) rfl 10 (by decide) (hts (.fieldLink RX8 135 "TurnedBoardsModel" "at" "I") (List.mem_of_getElem? (i := 1) rfl)) rfl rfl dX8_fault_29 ?_
        refine lv_goto (tgt := 39) hx hb dX8_fault_32 (by decide) ?_
        exact W.iret (v := (((f_X8_areWords fu V).2) 48 5)) hx hb hr (fun t ht hW => ⟨⟨(((f_X8_areWords fu V).2) 48 5), (f_X8_areWords fu V).2, rfl, ⟨(congrArg Prod.fst hE).symm, (congrArg Prod.snd hE).symm⟩, by dsimp only; rw [ht]; exact hP⟩, hS.F ht⟩) hS.2.2 dX8_fault_39
    · have hE := hE.trans (if_neg c2)
      refine lv_sipush (v := (-1004)) hx hb dX8_fault_20 (by decide) ?_
      exact W.iret (v := (-1004)) hx hb hr (fun t ht hW => ⟨⟨(-1004), (f_X8_areWords fu V).2, rfl, ⟨(congrArg Prod.fst hE).symm, (congrArg Prod.snd hE).symm⟩, by dsimp only; rw [ht]; exact hP⟩, hS.F ht⟩) hS.2.2 dX8_fault_23
  · have hE := hE.trans (if_pos c1)
    refine lv_sipush (v := (-1001)) hx hb dX8_fault_9 (by decide) ?_
    exact W.iret (v := (-1001)) hx hb hr (fun t ht hW => ⟨⟨(-1001), V, rfl, ⟨(congrArg Prod.fst hE).symm, (congrArg Prod.snd hE).symm⟩, by dsimp only; rw [ht]; exact hP⟩, hS.F ht⟩) hS.2.2 dX8_fault_12
def v_X8_read_1 (fu : Nat) (V : VT) : VT := (upV ((f_X8_areWords fu (f_X8_begins fu V)).2) 49 (0 : Int32).toNatClampNeg (((f_X8_areWords fu (f_X8_begins fu V)).2) 48 7))
def v_X8_read_2 (x1_1 : Int32) (V1 : VT) : VT := (upV (upV (upV V1 49 (17 + (2 * x1_1)).toNatClampNeg 0) 49 ((17 + (2 * x1_1)) + 1).toNatClampNeg 0) 49 (33 + x1_1).toNatClampNeg 0)
def v_X8_read_3 (x1_1 : Int32) (V1 : VT) : VT := (upV (v_X8_read_2 x1_1 V1) 49 (41 + x1_1).toNatClampNeg (((v_X8_read_2 x1_1 V1) 53 ((((v_X8_read_2 x1_1 V1) 48 7) + 1) + x1_1).toNatClampNeg) - 97))
def v_X8_read_4 (x1_1 : Int32) (V1 : VT) : VT := (upV (upV (upV V1 49 (17 + (2 * x1_1)).toNatClampNeg 0) 49 ((17 + (2 * x1_1)) + 1).toNatClampNeg 0) 49 (33 + x1_1).toNatClampNeg (((upV (upV V1 49 (17 + (2 * x1_1)).toNatClampNeg 0) 49 ((17 + (2 * x1_1)) + 1).toNatClampNeg 0) 53 x1_1.toNatClampNeg) - 97))
def v_X8_read_5 (x1_1 : Int32) (V1 : VT) : VT := (upV (v_X8_read_4 x1_1 V1) 49 (41 + x1_1).toNatClampNeg (((v_X8_read_4 x1_1 V1) 53 ((((v_X8_read_4 x1_1 V1) 48 7) + 1) + x1_1).toNatClampNeg) - 97))
def f_X8_read_l1 (fu : Nat)  : Nat → VT → Int32 → Int32 × VT
  | 0, V1, x1_1 => (0, V1)
  | w1 + 1, V1, x1_1 => (if 8 ≤ x1_1 then ((f_X8_acted fu V1 (V1 48 7)).1, (f_X8_acted fu V1 (V1 48 7)).2) else (if ((upV (upV V1 49 (17 + (2 * x1_1)).toNatClampNeg 0) 49 ((17 + (2 * x1_1)) + 1).toNatClampNeg 0) 48 7) ≤ x1_1 then (if ((v_X8_read_2 x1_1 V1) 48 7) ≤ x1_1 then (f_X8_read_l1 fu  w1 (upV (v_X8_read_2 x1_1 V1) 49 (41 + x1_1).toNatClampNeg 0) (x1_1 + 1)) else (f_X8_read_l1 fu  w1 (v_X8_read_3 x1_1 V1) (x1_1 + 1))) else (if ((v_X8_read_4 x1_1 V1) 48 7) ≤ x1_1 then (f_X8_read_l1 fu  w1 (upV (v_X8_read_4 x1_1 V1) 49 (41 + x1_1).toNatClampNeg 0) (x1_1 + 1)) else (f_X8_read_l1 fu  w1 (v_X8_read_5 x1_1 V1) (x1_1 + 1)))))
def p_X8_read_l1 (fu : Nat)  : Nat → VT → Int32 → Prop
  | 0, _, _ => False
  | w1 + 1, V1, x1_1 => ((8 ≤ x1_1 → (p_X8_acted fu V1 (V1 48 7))) ∧ (¬ (8 ≤ x1_1) → ((vp_in (17 + (2 * x1_1)) 49) ∧ ((vp_in ((17 + (2 * x1_1)) + 1) 49) ∧ ((((upV (upV V1 49 (17 + (2 * x1_1)).toNatClampNeg 0) 49 ((17 + (2 * x1_1)) + 1).toNatClampNeg 0) 48 7) ≤ x1_1 → ((vp_in (33 + x1_1) 49) ∧ ((((v_X8_read_2 x1_1 V1) 48 7) ≤ x1_1 → ((vp_in (41 + x1_1) 49) ∧ (p_X8_read_l1 fu  w1 (upV (v_X8_read_2 x1_1 V1) 49 (41 + x1_1).toNatClampNeg 0) (x1_1 + 1)))) ∧ (¬ (((v_X8_read_2 x1_1 V1) 48 7) ≤ x1_1) → ((vp_in ((((v_X8_read_2 x1_1 V1) 48 7) + 1) + x1_1) 30) ∧ ((vp_in (41 + x1_1) 49) ∧ (p_X8_read_l1 fu  w1 (v_X8_read_3 x1_1 V1) (x1_1 + 1)))))))) ∧ (¬ (((upV (upV V1 49 (17 + (2 * x1_1)).toNatClampNeg 0) 49 ((17 + (2 * x1_1)) + 1).toNatClampNeg 0) 48 7) ≤ x1_1) → ((vp_in x1_1 30) ∧ ((vp_in (33 + x1_1) 49) ∧ ((((v_X8_read_4 x1_1 V1) 48 7) ≤ x1_1 → ((vp_in (41 + x1_1) 49) ∧ (p_X8_read_l1 fu  w1 (upV (v_X8_read_4 x1_1 V1) 49 (41 + x1_1).toNatClampNeg 0) (x1_1 + 1)))) ∧ (¬ (((v_X8_read_4 x1_1 V1) 48 7) ≤ x1_1) → ((vp_in ((((v_X8_read_4 x1_1 V1) 48 7) + 1) + x1_1) 30) ∧ ((vp_in (41 + x1_1) 49) ∧ (p_X8_read_l1 fu  w1 (v_X8_read_5 x1_1 V1) (x1_1 + 1))))))))))))))
def f_X8_read (fu : Nat) (V : VT)  : Int32 × VT := (if ((f_X8_areWords fu (f_X8_begins fu V)).1) = 0 then ((-1002), (f_X8_areWords fu (f_X8_begins fu V)).2) else (f_X8_read_l1 fu  fu (upV (v_X8_read_1 fu V) 49 (1 : Int32).toNatClampNeg 0) 0))
def p_X8_read (fu : Nat) (V : VT)  : Prop := ((p_X8_begins fu V ) ∧ ((p_X8_areWords fu (f_X8_begins fu V) ) ∧ ((((f_X8_areWords fu (f_X8_begins fu V)).1) = 0 → True) ∧ (¬ (((f_X8_areWords fu (f_X8_begins fu V)).1) = 0) → (p_X8_read_l1 fu  fu (upV (v_X8_read_1 fu V) 49 (1 : Int32).toNatClampNeg 0) 0)))))
set_option maxHeartbeats 4000000 in
set_option maxRecDepth 100000 in
theorem m_X8_read (l : Launch) (D : va_G) (cI cB : ClassId) (ad : Nat → Nat) {A : Nat → Prop} (hA : adOk ad A) (fu : Nat) (V : VT)   (hp : p_X8_read fu V ) : Met l yX8_read wsX8_read ({ frames := 4, cells := 0, slots := 0, locals := 85 }) (cP D cI cB ad V [.ref (ad 48)]) (cWi D cI cB ad A (f_X8_read fu V)) 0 0 A := by
  refine Met.ofW (cc := cX8_read) (maxL := 2) (ret := (some .int)) (by decide +kernel) rfl ?_
  intro p e s m args below meth c s₁ B hml hv
  obtain ⟨rfl, hP, hKN⟩ := hv
  have hK := hKN.1
  have hx := B.exec
  have hb := B.bytes
  have hr := B.returns
  have hts := atoms_spec (ws := wsX8_read) B.pre
  have hown : s.vm.findClass RX8 = some m.cls := findClass_of_methodNamed B.named
  have hlocks := B.notSynchronized
  have hS : va_S A s.heap s.heap [] := va_S.rf
  have hl := lv_entry ([.ref (ad 48)]) (n := 2) (Nat.le_of_ble_eq_true rfl)
  rw [lg_entry_eq]
  generalize (lg_sl ([.ref (ad 48)]) ++ List.replicate (2 - (lg_sl ([.ref (ad 48)])).length) Slot.unset).toArray = ls at hl ⊢
  have hl : lv_has ls 2 [(0, .ref (ad 48))] := hl
  have hE : f_X8_read fu V = (if ((f_X8_areWords fu (f_X8_begins fu V)).1) = 0 then ((-1002), (f_X8_areWords fu (f_X8_begins fu V)).2) else (f_X8_read_l1 fu  fu (upV (v_X8_read_1 fu V) 49 (1 : Int32).toNatClampNeg 0) 0)) := rfl
  refine lv_aload_n hx hb dX8_read_0 rfl (lv_at hl 0 rfl) ?_
  obtain ⟨hn1, hp⟩ := hp
  refine k_VWv (As := []) (rest := []) (q := 48) ⟨hx, hb, hml, hown, hts⟩ hKN hP hS (m_X8_begins l D cI cB ad hA fu V hn1) (cwV 0 hts gX8_read_X8_begins rfl rfl rfl (by decide +kernel) ⟨(Nat.le_of_ble_eq_true rfl), (Nat.le_of_ble_eq_true rfl)⟩) (c_preV hP hKN (q := 48) (ci := 6) (fs := [.ref (ad 49), .ref (ad 50), .ref (ad 51), .int ((V 48) 0), .ref (ad 52), .int ((V 48) 1), .ref (ad 53), .int ((V 48) 2), .int ((V 48) 3), .int ((V 48) 4), .int ((V 48) 5), .int ((V 48) 6), .int ((V 48) 7)]) (by decide) (ce_md ad cI cB (V 48)) rfl rfl) rfl hl.1 rfl (Nat.le_of_ble_eq_true rfl) dX8_read_1 ⟨Nat.zero_le _, Nat.zero_le _⟩ (fun H locs hP hS => ?_)
  refine lv_aload_n hx hb dX8_read_4 rfl (lv_at hl 0 rfl) ?_
  obtain ⟨hn2, hp⟩ := hp
  refine k_VWi (As := []) (rest := []) (q := 48) ⟨hx, hb, hml, hown, hts⟩ hKN hP hS (m_X8_areWords l D cI cB ad hA fu (f_X8_begins fu V) hn2) (cwV 0 hts gX8_read_X8_areWords rfl rfl rfl (by decide +kernel) ⟨(Nat.le_of_ble_eq_true rfl), (Nat.le_of_ble_eq_true rfl)⟩) (c_preV hP hKN (q := 48) (ci := 6) (fs := [.ref (ad 49), .ref (ad 50), .ref (ad 51), .int (((f_X8_begins fu V) 48) 0), .ref (ad 52), .int (((f_X8_begins fu V) 48) 1), .ref (ad 53), .int (((f_X8_begins fu V) 48) 2), .int (((f_X8_begins fu V) 48) 3), .int (((f_X8_begins fu V) 48) 4), .int (((f_X8_begins fu V) 48) 5), .int (((f_X8_begins fu V) 48) 6), .int (((f_X8_begins fu V) 48) 7)]) (by decide) (ce_md ad cI cB ((f_X8_begins fu V) 48)) rfl rfl) rfl hl.1 rfl (Nat.le_of_ble_eq_true rfl) dX8_read_5 ⟨Nat.zero_le _, Nat.zero_le _⟩ (fun H locs hP hS => ?_)
  refine lv_if_ne (tgt := 15) hx hb dX8_read_8 (by decide) (fun c1 => ?_) (fun c1 => ?_)
  · have hE := hE.trans (if_neg c1)
    have hp := pc_bn hp c1
    refine lv_aload_n hx hb dX8_read_15 rfl (lv_at hl 0 rfl) ?_
    refine x_get (ci := 6) (fs := [.ref (ad 49), .ref (ad 50), .ref (ad 51), .int ((((f_X8_areWords fu (f_X8_begins fu V)).2) 48) 0), .ref (ad 52), .int ((((f_X8_areWords fu (f_X8_begins fu V)).2) 48) 1), .ref (ad 53), .int ((((f_X8_areWords fu (f_X8_begins fu V)).2) 48) 2), .int ((((f_X8_areWords fu (f_X8_begins fu V)).2) 48) 3), .int ((((f_X8_areWords fu (f_X8_begins fu V)).2) 48) 4), .int ((((f_X8_areWords fu (f_X8_begins fu V)).2) 48) 5), .int ((((f_X8_areWords fu (f_X8_begins fu V)).2) 48) 6), .int ((((f_X8_areWords fu (f_X8_begins fu V)).2) 48) 7)]) (q := 48) (v := .ref (ad 49)) (N := 13) hx hb hts (fun _ h => List.mem_cons_of_mem _ (List.mem_append_right _ h)) hown hK hP (by decide) (ce_md ad cI cB (((f_X8_areWords fu (f_X8_begins fu V)).2) 48)) rfl 0 (by decide) (hts (.fieldLink RX8 7 "TurnedBoardsModel" "s" "[I") (List.mem_of_getElem? (i := 1) rfl)) rfl rfl dX8_read_16 ?_
    refine lv_iconst (v := 0) hx hb dX8_read_19 (by decide) ?_
    refine lv_aload_n hx hb dX8_read_20 rfl (lv_at hl 0 rfl) ?_
    refine x_get (ci := 6) (fs := [.ref (ad 49), .ref (ad 50), .ref (ad 51), .int ((((f_X8_areWords fu (f_X8_begins fu V)).2) 48) 0), .ref (ad 52), .int ((((f_X8_areWords fu (f_X8_begins fu V)).2) 48) 1), .ref (ad 53), .int ((((f_X8_areWords fu (f_X8_begins fu V)).2) 48) 2), .int ((((f_X8_areWords fu (f_X8_begins fu V)).2) 48) 3), .int ((((f_X8_areWords fu (f_X8_begins fu V)).2) 48) 4), .int ((((f_X8_areWords fu (f_X8_begins fu V)).2) 48) 5), .int ((((f_X8_areWords fu (f_X8_begins fu V)).2) 48) 6), .int ((((f_X8_areWords fu (f_X8_begins fu V)).2) 48) 7)]) (q := 48) (v := .int (((f_X8_areWords fu (f_X8_begins fu V)).2) 48 7)) (N := 13) hx hb hts (fun _ h => List.mem_cons_of_mem _ (List.mem_append_right _ h)) hown hK hP (by decide) (ce_md ad cI cB (((f_X8_areWords fu (f_X8_begins fu V)).2) 48)) rfl 12 (by decide) (hts (.fieldLink RX8 147 "TurnedBoardsModel" "wide" "I") (List.mem_of_getElem? (i := 2) rfl)) rfl rfl dX8_read_21 ?_
    refine x_iast hx hb hK hP hA hS ⟨by decide, fun _ => rfl, by decide⟩ (vp_lit (i := 0) (n := 49) (by decide) (by decide)) dX8_read_24 (fun H locs hP hS => ?_)
    have hP : wP D cI cB ad (v_X8_read_1 fu V) H := hP
    refine lv_aload_n hx hb dX8_read_25 rfl (lv_at hl 0 rfl) ?_
    refine x_get (ci := 6) (fs := [.ref (ad 49), .ref (ad 50), .ref (ad 51), .int (((v_X8_read_1 fu V) 48) 0), .ref (ad 52), .int (((v_X8_read_1 fu V) 48) 1), .ref (ad 53), .int (((v_X8_read_1 fu V) 48) 2), .int (((v_X8_read_1 fu V) 48) 3), .int (((v_X8_read_1 fu V) 48) 4), .int (((v_X8_read_1 fu V) 48) 5), .int (((v_X8_read_1 fu V) 48) 6), .int (((v_X8_read_1 fu V) 48) 7)]) (q := 48) (v := .ref (ad 49)) (N := 13) hx hb hts (fun _ h => List.mem_cons_of_mem _ (List.mem_append_right _ h)) hown hK hP (by decide) (ce_md ad cI cB ((v_X8_read_1 fu V) 48)) rfl 0 (by decide) (hts (.fieldLink RX8 7 "TurnedBoardsModel" "s" "[I") (List.mem_of_getElem? (i := 1) rfl)) rfl rfl dX8_read_26 ?_
    refine lv_iconst (v := 1) hx hb dX8_read_29 (by decide) ?_
    refine lv_iconst (v := 0) hx hb dX8_read_30 (by decide) ?_
    refine x_iast hx hb hK hP hA hS ⟨by decide, fun _ => rfl, by decide⟩ (vp_lit (i := 1) (n := 49) (by decide) (by decide)) dX8_read_31 (fun H locs hP hS => ?_)
    refine lv_iconst (v := 0) hx hb dX8_read_32 (by decide) ?_
    refine lv_istore_n (lv' := [(1, .int 0), (0, .ref (ad 48))]) hx hb dX8_read_33 rfl hl (by decide) rfl (fun ls hl => ?_)
    have L1 : ∀ (w1 : Nat) (V1 : VT) (x1_1 : Int32), f_X8_read fu V = f_X8_read_l1 fu  w1 V1 x1_1 → p_X8_read_l1 fu  w1 V1 x1_1 → ∀ (H : Heap) (locs : List Loc), wP D cI cB ad V1 H → va_S A s.heap H locs → ∀ (ls : Array Slot), lv_has ls 2 [(0, .ref (ad 48)), (1, .int x1_1)] → W p l e (headSpec wsX8_read ({ frames := 4, cells := 0, slots := 0, locals := 85 })).room s m ([.ref (ad 48)] : List Value).toArray below meth c H locs 0 0 (MQ below (cWi D cI cB ad A (f_X8_read fu V)) ([.ref (ad 48)] : List Value).toArray s 0 0 A) (F0 m 34 ls []) := by
      intro w1
      induction w1 with
      | zero => intro V1 x1_1 hE hp; exact hp.elim
      | succ w1 ih1 =>
        intro V1 x1_1 hE hp H locs hP hS ls hl
        rw [f_X8_read_l1] at hE
        rw [p_X8_read_l1] at hp
        refine lv_iload_n hx hb dX8_read_34 rfl (lv_at hl 1 rfl) ?_
        refine lv_bipush (v := 8) hx hb dX8_read_35 (by decide) ?_
        refine lv_icmp_ge (tgt := 139) hx hb dX8_read_37 (by decide) (fun c2 => ?_) (fun c2 => ?_)
        · have hE := hE.trans (if_pos c2)
          have hp := pc_br hp c2
          refine lv_aload_n hx hb dX8_read_139 rfl (lv_at hl 0 rfl) ?_
          refine lv_aload_n hx hb dX8_read_140 rfl (lv_at hl 0 rfl) ?_
          refine x_get (ci := 6) (fs := [.ref (ad 49), .ref (ad 50), .ref (ad 51), .int ((V1 48) 0), .ref (ad 52), .int ((V1 48) 1), .ref (ad 53), .int ((V1 48) 2), .int ((V1 48) 3), .int ((V1 48) 4), .int ((V1 48) 5), .int ((V1 48) 6), .int ((V1 48) 7)]) (q := 48) (v := .int (V1 48 7)) (N := 13) hx hb hts (fun _ h => List.mem_cons_of_mem _ (List.mem_append_right _ h)) hown hK hP (by decide) (ce_md ad cI cB (V1 48)) rfl 12 (by decide) (hts (.fieldLink RX8 147 "TurnedBoardsModel" "wide" "I") (List.mem_of_getElem? (i := 2) rfl)) rfl rfl dX8_read_141 ?_
          have hn3 := hp
          refine k_VWi (As := [.int (V1 48 7)]) (rest := []) (q := 48) ⟨hx, hb, hml, hown, hts⟩ hKN hP hS (m_X8_acted l D cI cB ad hA fu V1 (V1 48 7) hn3) (cwV 1 hts gX8_read_X8_acted rfl rfl rfl (by decide +kernel) ⟨(Nat.le_of_ble_eq_true rfl), (Nat.le_of_ble_eq_true rfl)⟩) (c_preV hP hKN (q := 48) (ci := 6) (fs := [.ref (ad 49), .ref (ad 50), .ref (ad 51), .int ((V1 48) 0), .ref (ad 52), .int ((V1 48) 1), .ref (ad 53), .int ((V1 48) 2), .int ((V1 48) 3), .int ((V1 48) 4), .int ((V1 48) 5), .int ((V1 48) 6), .int ((V1 48) 7)]) (by decide) (ce_md ad cI cB (V1 48)) rfl rfl) rfl hl.1 rfl (Nat.le_of_ble_eq_true rfl) dX8_read_144 ⟨Nat.zero_le _, Nat.zero_le _⟩ (fun H locs hP hS => ?_)
          exact W.iret (v := (f_X8_acted fu V1 (V1 48 7)).1) hx hb hr (fun t ht hW => ⟨⟨(f_X8_acted fu V1 (V1 48 7)).1, (f_X8_acted fu V1 (V1 48 7)).2, rfl, ⟨(congrArg Prod.fst hE).symm, (congrArg Prod.snd hE).symm⟩, by dsimp only; rw [ht]; exact hP⟩, hS.F ht⟩) hS.2.2 dX8_read_147
        · have hE := hE.trans (if_neg c2)
          have hp := pc_bn hp c2
          refine lv_aload_n hx hb dX8_read_40 rfl (lv_at hl 0 rfl) ?_
          refine x_get (ci := 6) (fs := [.ref (ad 49), .ref (ad 50), .ref (ad 51), .int ((V1 48) 0), .ref (ad 52), .int ((V1 48) 1), .ref (ad 53), .int ((V1 48) 2), .int ((V1 48) 3), .int ((V1 48) 4), .int ((V1 48) 5), .int ((V1 48) 6), .int ((V1 48) 7)]) (q := 48) (v := .ref (ad 49)) (N := 13) hx hb hts (fun _ h => List.mem_cons_of_mem _ (List.mem_append_right _ h)) hown hK hP (by decide) (ce_md ad cI cB (V1 48)) rfl 0 (by decide) (hts (.fieldLink RX8 7 "TurnedBoardsModel" "s" "[I") (List.mem_of_getElem? (i := 1) rfl)) rfl rfl dX8_read_41 ?_
          refine lv_bipush (v := 17) hx hb dX8_read_44 (by decide) ?_
          refine lv_iconst (v := 2) hx hb dX8_read_46 (by decide) ?_
          refine lv_iload_n hx hb dX8_read_47 rfl (lv_at hl 1 rfl) ?_
          refine lv_imul hx hb dX8_read_48 ?_
          refine lv_iadd hx hb dX8_read_49 ?_
          refine lv_iconst (v := 0) hx hb dX8_read_50 (by decide) ?_
          obtain ⟨hn4, hp⟩ := hp
          refine x_iast hx hb hK hP hA hS ⟨by decide, fun _ => rfl, by decide⟩ hn4 dX8_read_51 (fun H locs hP hS => ?_)
          refine lv_aload_n hx hb dX8_read_52 rfl (lv_at hl 0 rfl) ?_
          refine x_get (ci := 6) (fs := [.ref (ad 49), .ref (ad 50), .ref (ad 51), .int (((upV V1 49 (17 + (2 * x1_1)).toNatClampNeg 0) 48) 0), .ref (ad 52), .int (((upV V1 49 (17 + (2 * x1_1)).toNatClampNeg 0) 48) 1), .ref (ad 53), .int (((upV V1 49 (17 + (2 * x1_1)).toNatClampNeg 0) 48) 2), .int (((upV V1 49 (17 + (2 * x1_1)).toNatClampNeg 0) 48) 3), .int (((upV V1 49 (17 + (2 * x1_1)).toNatClampNeg 0) 48) 4), .int (((upV V1 49 (17 + (2 * x1_1)).toNatClampNeg 0) 48) 5), .int (((upV V1 49 (17 + (2 * x1_1)).toNatClampNeg 0) 48) 6), .int (((upV V1 49 (17 + (2 * x1_1)).toNatClampNeg 0) 48) 7)]) (q := 48) (v := .ref (ad 49)) (N := 13) hx hb hts (fun _ h => List.mem_cons_of_mem _ (List.mem_append_right _ h)) hown hK hP (by decide) (ce_md ad cI cB ((upV V1 49 (17 + (2 * x1_1)).toNatClampNeg 0) 48)) rfl 0 (by decide) (hts (.fieldLink RX8 7 "TurnedBoardsModel" "s" "[I") (List.mem_of_getElem? (i := 1) rfl)) rfl rfl dX8_read_53 ?_
          refine lv_bipush (v := 17) hx hb dX8_read_56 (by decide) ?_
          refine lv_iconst (v := 2) hx hb dX8_read_58 (by decide) ?_
          refine lv_iload_n hx hb dX8_read_59 rfl (lv_at hl 1 rfl) ?_
          refine lv_imul hx hb dX8_read_60 ?_
          refine lv_iadd hx hb dX8_read_61 ?_
          refine lv_iconst (v := 1) hx hb dX8_read_62 (by decide) ?_
          refine lv_iadd hx hb dX8_read_63 ?_
          refine lv_iconst (v := 0) hx hb dX8_read_64 (by decide) ?_
          obtain ⟨hn5, hp⟩ := hp
          refine x_iast hx hb hK hP hA hS ⟨by decide, fun _ => rfl, by decide⟩ hn5 dX8_read_65 (fun H locs hP hS => ?_)
          refine lv_aload_n hx hb dX8_read_66 rfl (lv_at hl 0 rfl) ?_
          refine x_get (ci := 6) (fs := [.ref (ad 49), .ref (ad 50), .ref (ad 51), .int (((upV (upV V1 49 (17 + (2 * x1_1)).toNatClampNeg 0) 49 ((17 + (2 * x1_1)) + 1).toNatClampNeg 0) 48) 0), .ref (ad 52), .int (((upV (upV V1 49 (17 + (2 * x1_1)).toNatClampNeg 0) 49 ((17 + (2 * x1_1)) + 1).toNatClampNeg 0) 48) 1), .ref (ad 53), .int (((upV (upV V1 49 (17 + (2 * x1_1)).toNatClampNeg 0) 49 ((17 + (2 * x1_1)) + 1).toNatClampNeg 0) 48) 2), .int (((upV (upV V1 49 (17 + (2 * x1_1)).toNatClampNeg 0) 49 ((17 + (2 * x1_1)) + 1).toNatClampNeg 0) 48) 3), .int (((upV (upV V1 49 (17 + (2 * x1_1)).toNatClampNeg 0) 49 ((17 + (2 * x1_1)) + 1).toNatClampNeg 0) 48) 4), .int (((upV (upV V1 49 (17 + (2 * x1_1)).toNatClampNeg 0) 49 ((17 + (2 * x1_1)) + 1).toNatClampNeg 0) 48) 5), .int (((upV (upV V1 49 (17 + (2 * x1_1)).toNatClampNeg 0) 49 ((17 + (2 * x1_1)) + 1).toNatClampNeg 0) 48) 6), .int (((upV (upV V1 49 (17 + (2 * x1_1)).toNatClampNeg 0) 49 ((17 + (2 * x1_1)) + 1).toNatClampNeg 0) 48) 7)]) (q := 48) (v := .ref (ad 49)) (N := 13) hx hb hts (fun _ h => List.mem_cons_of_mem _ (List.mem_append_right _ h)) hown hK hP (by decide) (ce_md ad cI cB ((upV (upV V1 49 (17 + (2 * x1_1)).toNatClampNeg 0) 49 ((17 + (2 * x1_1)) + 1).toNatClampNeg 0) 48)) rfl 0 (by decide) (hts (.fieldLink RX8 7 "TurnedBoardsModel" "s" "[I") (List.mem_of_getElem? (i := 1) rfl)) rfl rfl dX8_read_67 ?_
          refine lv_bipush (v := 33) hx hb dX8_read_70 (by decide) ?_
          refine lv_iload_n hx hb dX8_read_72 rfl (lv_at hl 1 rfl) ?_
          refine lv_iadd hx hb dX8_read_73 ?_
          refine lv_iload_n hx hb dX8_read_74 rfl (lv_at hl 1 rfl) ?_
          refine lv_aload_n hx hb dX8_read_75 rfl (lv_at hl 0 rfl) ?_
          refine x_get (ci := 6) (fs := [.ref (ad 49), .ref (ad 50), .ref (ad 51), .int (((upV (upV V1 49 (17 + (2 * x1_1)).toNatClampNeg 0) 49 ((17 + (2 * x1_1)) + 1).toNatClampNeg 0) 48) 0), .ref (ad 52), .int (((upV (upV V1 49 (17 + (2 * x1_1)).toNatClampNeg 0) 49 ((17 + (2 * x1_1)) + 1).toNatClampNeg 0) 48) 1), .ref (ad 53), .int (((upV (upV V1 49 (17 + (2 * x1_1)).toNatClampNeg 0) 49 ((17 + (2 * x1_1)) + 1).toNatClampNeg 0) 48) 2), .int (((upV (upV V1 49 (17 + (2 * x1_1)).toNatClampNeg 0) 49 ((17 + (2 * x1_1)) + 1).toNatClampNeg 0) 48) 3), .int (((upV (upV V1 49 (17 + (2 * x1_1)).toNatClampNeg 0) 49 ((17 + (2 * x1_1)) + 1).toNatClampNeg 0) 48) 4), .int (((upV (upV V1 49 (17 + (2 * x1_1)).toNatClampNeg 0) 49 ((17 + (2 * x1_1)) + 1).toNatClampNeg 0) 48) 5), .int (((upV (upV V1 49 (17 + (2 * x1_1)).toNatClampNeg 0) 49 ((17 + (2 * x1_1)) + 1).toNatClampNeg 0) 48) 6), .int (((upV (upV V1 49 (17 + (2 * x1_1)).toNatClampNeg 0) 49 ((17 + (2 * x1_1)) + 1).toNatClampNeg 0) 48) 7)]) (q := 48) (v := .int ((upV (upV V1 49 (17 + (2 * x1_1)).toNatClampNeg 0) 49 ((17 + (2 * x1_1)) + 1).toNatClampNeg 0) 48 7)) (N := 13) hx hb hts (fun _ h => List.mem_cons_of_mem _ (List.mem_append_right _ h)) hown hK hP (by decide) (ce_md ad cI cB ((upV (upV V1 49 (17 + (2 * x1_1)).toNatClampNeg 0) 49 ((17 + (2 * x1_1)) + 1).toNatClampNeg 0) 48)) rfl 12 (by decide) (hts (.fieldLink RX8 147 "TurnedBoardsModel" "wide" "I") (List.mem_of_getElem? (i := 2) rfl)) rfl rfl dX8_read_76 ?_
          refine lv_icmp_ge (tgt := 94) hx hb dX8_read_79 (by decide) (fun c3 => ?_) (fun c3 => ?_)
          · have hE := hE.trans (if_pos c3)
            have hp := pc_br hp c3
            refine lv_iconst (v := 0) hx hb dX8_read_94 (by decide) ?_
            obtain ⟨hn6, hp⟩ := hp
            refine x_iast hx hb hK hP hA hS ⟨by decide, fun _ => rfl, by decide⟩ hn6 dX8_read_95 (fun H locs hP hS => ?_)
            have hP : wP D cI cB ad (v_X8_read_2 x1_1 V1) H := hP
            refine lv_aload_n hx hb dX8_read_96 rfl (lv_at hl 0 rfl) ?_
            refine x_get (ci := 6) (fs := [.ref (ad 49), .ref (ad 50), .ref (ad 51), .int (((v_X8_read_2 x1_1 V1) 48) 0), .ref (ad 52), .int (((v_X8_read_2 x1_1 V1) 48) 1), .ref (ad 53), .int (((v_X8_read_2 x1_1 V1) 48) 2), .int (((v_X8_read_2 x1_1 V1) 48) 3), .int (((v_X8_read_2 x1_1 V1) 48) 4), .int (((v_X8_read_2 x1_1 V1) 48) 5), .int (((v_X8_read_2 x1_1 V1) 48) 6), .int (((v_X8_read_2 x1_1 V1) 48) 7)]) (q := 48) (v := .ref (ad 49)) (N := 13) hx hb hts (fun _ h => List.mem_cons_of_mem _ (List.mem_append_right _ h)) hown hK hP (by decide) (ce_md ad cI cB ((v_X8_read_2 x1_1 V1) 48)) rfl 0 (by decide) (hts (.fieldLink RX8 7 "TurnedBoardsModel" "s" "[I") (List.mem_of_getElem? (i := 1) rfl)) rfl rfl dX8_read_97 ?_
            refine lv_bipush (v := 41) hx hb dX8_read_100 (by decide) ?_
            refine lv_iload_n hx hb dX8_read_102 rfl (lv_at hl 1 rfl) ?_
            refine lv_iadd hx hb dX8_read_103 ?_
            refine lv_iload_n hx hb dX8_read_104 rfl (lv_at hl 1 rfl) ?_
            refine lv_aload_n hx hb dX8_read_105 rfl (lv_at hl 0 rfl) ?_
            refine x_get (ci := 6) (fs := [.ref (ad 49), .ref (ad 50), .ref (ad 51), .int (((v_X8_read_2 x1_1 V1) 48) 0), .ref (ad 52), .int (((v_X8_read_2 x1_1 V1) 48) 1), .ref (ad 53), .int (((v_X8_read_2 x1_1 V1) 48) 2), .int (((v_X8_read_2 x1_1 V1) 48) 3), .int (((v_X8_read_2 x1_1 V1) 48) 4), .int (((v_X8_read_2 x1_1 V1) 48) 5), .int (((v_X8_read_2 x1_1 V1) 48) 6), .int (((v_X8_read_2 x1_1 V1) 48) 7)]) (q := 48) (v := .int ((v_X8_read_2 x1_1 V1) 48 7)) (N := 13) hx hb hts (fun _ h => List.mem_cons_of_mem _ (List.mem_append_right _ h)) hown hK hP (by decide) (ce_md ad cI cB ((v_X8_read_2 x1_1 V1) 48)) rfl 12 (by decide) (hts (.fieldLink RX8 147 "TurnedBoardsModel" "wide" "I") (List.mem_of_getElem? (i := 2) rfl)) rfl rfl dX8_read_106 ?_
            refine lv_icmp_ge (tgt := 131) hx hb dX8_read_109 (by decide) (fun c4 => ?_) (fun c4 => ?_)
            · have hE := hE.trans (if_pos c4)
              have hp := pc_br hp c4
              refine lv_iconst (v := 0) hx hb dX8_read_131 (by decide) ?_
              obtain ⟨hn7, hp⟩ := hp
              refine x_iast hx hb hK hP hA hS ⟨by decide, fun _ => rfl, by decide⟩ hn7 dX8_read_132 (fun H locs hP hS => ?_)
              refine lv_iinc (v := (x1_1 + 1)) (lv' := [(1, .int (x1_1 + 1)), (0, .ref (ad 48))]) hx hb dX8_read_133 hl (k := 1) rfl (by rfl) (by decide) rfl (fun ls hl => ?_)
              refine lv_goto (tgt := 34) hx hb dX8_read_136 (by decide) ?_
              exact ih1 (upV (v_X8_read_2 x1_1 V1) 49 (41 + x1_1).toNatClampNeg 0) (x1_1 + 1) hE hp H locs hP hS ls (lv_sub hl [1, 0] rfl)
            · have hE := hE.trans (if_neg c4)
              have hp := pc_bn hp c4
              refine lv_aload_n hx hb dX8_read_112 rfl (lv_at hl 0 rfl) ?_
              refine x_get (ci := 6) (fs := [.ref (ad 49), .ref (ad 50), .ref (ad 51), .int (((v_X8_read_2 x1_1 V1) 48) 0), .ref (ad 52), .int (((v_X8_read_2 x1_1 V1) 48) 1), .ref (ad 53), .int (((v_X8_read_2 x1_1 V1) 48) 2), .int (((v_X8_read_2 x1_1 V1) 48) 3), .int (((v_X8_read_2 x1_1 V1) 48) 4), .int (((v_X8_read_2 x1_1 V1) 48) 5), .int (((v_X8_read_2 x1_1 V1) 48) 6), .int (((v_X8_read_2 x1_1 V1) 48) 7)]) (q := 48) (v := .ref (ad 53)) (N := 13) hx hb hts (fun _ h => List.mem_cons_of_mem _ (List.mem_append_right _ h)) hown hK hP (by decide) (ce_md ad cI cB ((v_X8_read_2 x1_1 V1) 48)) rfl 6 (by decide) (hts (.fieldLink RX8 22 "TurnedBoardsModel" "text" "[I") (List.mem_of_getElem? (i := 3) rfl)) rfl rfl dX8_read_113 ?_
              refine lv_aload_n hx hb dX8_read_116 rfl (lv_at hl 0 rfl) ?_
              refine x_get (ci := 6) (fs := [.ref (ad 49), .ref (ad 50), .ref (ad 51), .int (((v_X8_read_2 x1_1 V1) 48) 0), .ref (ad 52), .int (((v_X8_read_2 x1_1 V1) 48) 1), .ref (ad 53), .int (((v_X8_read_2 x1_1 V1) 48) 2), .int (((v_X8_read_2 x1_1 V1) 48) 3), .int (((v_X8_read_2 x1_1 V1) 48) 4), .int (((v_X8_read_2 x1_1 V1) 48) 5), .int (((v_X8_read_2 x1_1 V1) 48) 6), .int (((v_X8_read_2 x1_1 V1) 48) 7)]) (q := 48) (v := .int ((v_X8_read_2 x1_1 V1) 48 7)) (N := 13) hx hb hts (fun _ h => List.mem_cons_of_mem _ (List.mem_append_right _ h)) hown hK hP (by decide) (ce_md ad cI cB ((v_X8_read_2 x1_1 V1) 48)) rfl 12 (by decide) (hts (.fieldLink RX8 147 "TurnedBoardsModel" "wide" "I") (List.mem_of_getElem? (i := 2) rfl)) rfl rfl dX8_read_117 ?_
              refine lv_iconst (v := 1) hx hb dX8_read_120 (by decide) ?_
              refine lv_iadd hx hb dX8_read_121 ?_
              refine lv_iload_n hx hb dX8_read_122 rfl (lv_at hl 1 rfl) ?_
              refine lv_iadd hx hb dX8_read_123 ?_
              obtain ⟨hn8, hp⟩ := hp
              refine x_iald hx hb hK hP ⟨by decide, fun _ => rfl, by decide⟩ hn8 dX8_read_124 ?_
              refine lv_bipush (v := 97) hx hb dX8_read_125 (by decide) ?_
              refine lv_isub hx hb dX8_read_127 ?_
              refine lv_goto (tgt := 132) hx hb dX8_read_128 (by decide) ?_
              obtain ⟨hn9, hp⟩ := hp
              refine x_iast hx hb hK hP hA hS ⟨by decide, fun _ => rfl, by decide⟩ hn9 dX8_read_132 (fun H locs hP hS => ?_)
              have hP : wP D cI cB ad (v_X8_read_3 x1_1 V1) H := hP
              refine lv_iinc (v := (x1_1 + 1)) (lv' := [(1, .int (x1_1 + 1)), (0, .ref (ad 48))]) hx hb dX8_read_133 hl (k := 1) rfl (by rfl) (by decide) rfl (fun ls hl => ?_)
              refine lv_goto (tgt := 34) hx hb dX8_read_136 (by decide) ?_
              exact ih1 (v_X8_read_3 x1_1 V1) (x1_1 + 1) hE hp H locs hP hS ls (lv_sub hl [1, 0] rfl)
          · have hE := hE.trans (if_neg c3)
            have hp := pc_bn hp c3
            refine lv_aload_n hx hb dX8_read_82 rfl (lv_at hl 0 rfl) ?_
            refine x_get (ci := 6) (fs := [.ref (ad 49), .ref (ad 50), .ref (ad 51), .int (((upV (upV V1 49 (17 + (2 * x1_1)).toNatClampNeg 0) 49 ((17 + (2 * x1_1)) + 1).toNatClampNeg 0) 48) 0), .ref (ad 52), .int (((upV (upV V1 49 (17 + (2 * x1_1)).toNatClampNeg 0) 49 ((17 + (2 * x1_1)) + 1).toNatClampNeg 0) 48) 1), .ref (ad 53), .int (((upV (upV V1 49 (17 + (2 * x1_1)).toNatClampNeg 0) 49 ((17 + (2 * x1_1)) + 1).toNatClampNeg 0) 48) 2), .int (((upV (upV V1 49 (17 + (2 * x1_1)).toNatClampNeg 0) 49 ((17 + (2 * x1_1)) + 1).toNatClampNeg 0) 48) 3), .int (((upV (upV V1 49 (17 + (2 * x1_1)).toNatClampNeg 0) 49 ((17 + (2 * x1_1)) + 1).toNatClampNeg 0) 48) 4), .int (((upV (upV V1 49 (17 + (2 * x1_1)).toNatClampNeg 0) 49 ((17 + (2 * x1_1)) + 1).toNatClampNeg 0) 48) 5), .int (((upV (upV V1 49 (17 + (2 * x1_1)).toNatClampNeg 0) 49 ((17 + (2 * x1_1)) + 1).toNatClampNeg 0) 48) 6), .int (((upV (upV V1 49 (17 + (2 * x1_1)).toNatClampNeg 0) 49 ((17 + (2 * x1_1)) + 1).toNatClampNeg 0) 48) 7)]) (q := 48) (v := .ref (ad 53)) (N := 13) hx hb hts (fun _ h => List.mem_cons_of_mem _ (List.mem_append_right _ h)) hown hK hP (by decide) (ce_md ad cI cB ((upV (upV V1 49 (17 + (2 * x1_1)).toNatClampNeg 0) 49 ((17 + (2 * x1_1)) + 1).toNatClampNeg 0) 48)) rfl 6 (by decide) (hts (.fieldLink RX8 22 "TurnedBoardsModel" "text" "[I") (List.mem_of_getElem? (i := 3) rfl)) rfl rfl dX8_read_83 ?_
            refine lv_iload_n hx hb dX8_read_86 rfl (lv_at hl 1 rfl) ?_
            obtain ⟨hn10, hp⟩ := hp
            refine x_iald hx hb hK hP ⟨by decide, fun _ => rfl, by decide⟩ hn10 dX8_read_87 ?_
            refine lv_bipush (v := 97) hx hb dX8_read_88 (by decide) ?_
            refine lv_isub hx hb dX8_read_90 ?_
            refine lv_goto (tgt := 95) hx hb dX8_read_91 (by decide) ?_
            obtain ⟨hn11, hp⟩ := hp
            refine x_iast hx hb hK hP hA hS ⟨by decide, fun _ => rfl, by decide⟩ hn11 dX8_read_95 (fun H locs hP hS => ?_)
            have hP : wP D cI cB ad (v_X8_read_4 x1_1 V1) H := hP
            refine lv_aload_n hx hb dX8_read_96 rfl (lv_at hl 0 rfl) ?_
            refine x_get (ci := 6) (fs := [.ref (ad 49), .ref (ad 50), .ref (ad 51), .int (((v_X8_read_4 x1_1 V1) 48) 0), .ref (ad 52), .int (((v_X8_read_4 x1_1 V1) 48) 1), .ref (ad 53), .int (((v_X8_read_4 x1_1 V1) 48) 2), .int (((v_X8_read_4 x1_1 V1) 48) 3), .int (((v_X8_read_4 x1_1 V1) 48) 4), .int (((v_X8_read_4 x1_1 V1) 48) 5), .int (((v_X8_read_4 x1_1 V1) 48) 6), .int (((v_X8_read_4 x1_1 V1) 48) 7)]) (q := 48) (v := .ref (ad 49)) (N := 13) hx hb hts (fun _ h => List.mem_cons_of_mem _ (List.mem_append_right _ h)) hown hK hP (by decide) (ce_md ad cI cB ((v_X8_read_4 x1_1 V1) 48)) rfl 0 (by decide) (hts (.fieldLink RX8 7 "TurnedBoardsModel" "s" "[I") (List.mem_of_getElem? (i := 1) rfl)) rfl rfl dX8_read_97 ?_
            refine lv_bipush (v := 41) hx hb dX8_read_100 (by decide) ?_
            refine lv_iload_n hx hb dX8_read_102 rfl (lv_at hl 1 rfl) ?_
            refine lv_iadd hx hb dX8_read_103 ?_
            refine lv_iload_n hx hb dX8_read_104 rfl (lv_at hl 1 rfl) ?_
            refine lv_aload_n hx hb dX8_read_105 rfl (lv_at hl 0 rfl) ?_
            refine x_get (ci := 6) (fs := [.ref (ad 49), .ref (ad 50), .ref (ad 51), .int (((v_X8_read_4 x1_1 V1) 48) 0), .ref (ad 52), .int (((v_X8_read_4 x1_1 V1) 48) 1), .ref (ad 53), .int (((v_X8_read_4 x1_1 V1) 48) 2), .int (((v_X8_read_4 x1_1 V1) 48) 3), .int (((v_X8_read_4 x1_1 V1) 48) 4), .int (((v_X8_read_4 x1_1 V1) 48) 5), .int (((v_X8_read_4 x1_1 V1) 48) 6), .int (((v_X8_read_4 x1_1 V1) 48) 7)]) (q := 48) (v := .int ((v_X8_read_4 x1_1 V1) 48 7)) (N := 13) hx hb hts (fun _ h => List.mem_cons_of_mem _ (List.mem_append_right _ h)) hown hK hP (by decide) (ce_md ad cI cB ((v_X8_read_4 x1_1 V1) 48)) rfl 12 (by decide) (hts (.fieldLink RX8 147 "TurnedBoardsModel" "wide" "I") (List.mem_of_getElem? (i := 2) rfl)) rfl rfl dX8_read_106 ?_
            refine lv_icmp_ge (tgt := 131) hx hb dX8_read_109 (by decide) (fun c5 => ?_) (fun c5 => ?_)
            · have hE := hE.trans (if_pos c5)
              have hp := pc_br hp c5
              refine lv_iconst (v := 0) hx hb dX8_read_131 (by decide) ?_
              obtain ⟨hn12, hp⟩ := hp
              refine x_iast hx hb hK hP hA hS ⟨by decide, fun _ => rfl, by decide⟩ hn12 dX8_read_132 (fun H locs hP hS => ?_)
              refine lv_iinc (v := (x1_1 + 1)) (lv' := [(1, .int (x1_1 + 1)), (0, .ref (ad 48))]) hx hb dX8_read_133 hl (k := 1) rfl (by rfl) (by decide) rfl (fun ls hl => ?_)
              refine lv_goto (tgt := 34) hx hb dX8_read_136 (by decide) ?_
              exact ih1 (upV (v_X8_read_4 x1_1 V1) 49 (41 + x1_1).toNatClampNeg 0) (x1_1 + 1) hE hp H locs hP hS ls (lv_sub hl [1, 0] rfl)
            · have hE := hE.trans (if_neg c5)
              have hp := pc_bn hp c5
              refine lv_aload_n hx hb dX8_read_112 rfl (lv_at hl 0 rfl) ?_
              refine x_get (ci := 6) (fs := [.ref (ad 49), .ref (ad 50), .ref (ad 51), .int (((v_X8_read_4 x1_1 V1) 48) 0), .ref (ad 52), .int (((v_X8_read_4 x1_1 V1) 48) 1), .ref (ad 53), .int (((v_X8_read_4 x1_1 V1) 48) 2), .int (((v_X8_read_4 x1_1 V1) 48) 3), .int (((v_X8_read_4 x1_1 V1) 48) 4), .int (((v_X8_read_4 x1_1 V1) 48) 5), .int (((v_X8_read_4 x1_1 V1) 48) 6), .int (((v_X8_read_4 x1_1 V1) 48) 7)]) (q := 48) (v := .ref (ad 53)) (N := 13) hx hb hts (fun _ h => List.mem_cons_of_mem _ (List.mem_append_right _ h)) hown hK hP (by decide) (ce_md ad cI cB ((v_X8_read_4 x1_1 V1) 48)) rfl 6 (by decide) (hts (.fieldLink RX8 22 "TurnedBoardsModel" "text" "[I") (List.mem_of_getElem? (i := 3) rfl)) rfl rfl dX8_read_113 ?_
              refine lv_aload_n hx hb dX8_read_116 rfl (lv_at hl 0 rfl) ?_
              refine x_get (ci := 6) (fs := [.ref (ad 49), .ref (ad 50), .ref (ad 51), .int (((v_X8_read_4 x1_1 V1) 48) 0), .ref (ad 52), .int (((v_X8_read_4 x1_1 V1) 48) 1), .ref (ad 53), .int (((v_X8_read_4 x1_1 V1) 48) 2), .int (((v_X8_read_4 x1_1 V1) 48) 3), .int (((v_X8_read_4 x1_1 V1) 48) 4), .int (((v_X8_read_4 x1_1 V1) 48) 5), .int (((v_X8_read_4 x1_1 V1) 48) 6), .int (((v_X8_read_4 x1_1 V1) 48) 7)]) (q := 48) (v := .int ((v_X8_read_4 x1_1 V1) 48 7)) (N := 13) hx hb hts (fun _ h => List.mem_cons_of_mem _ (List.mem_append_right _ h)) hown hK hP (by decide) (ce_md ad cI cB ((v_X8_read_4 x1_1 V1) 48)) rfl 12 (by decide) (hts (.fieldLink RX8 147 "TurnedBoardsModel" "wide" "I") (List.mem_of_getElem? (i := 2) rfl)) rfl rfl dX8_read_117 ?_
              refine lv_iconst (v := 1) hx hb dX8_read_120 (by decide) ?_
              refine lv_iadd hx hb dX8_read_121 ?_
              refine lv_iload_n hx hb dX8_read_122 rfl (lv_at hl 1 rfl) ?_
              refine lv_iadd hx hb dX8_read_123 ?_
              obtain ⟨hn13, hp⟩ := hp
              refine x_iald hx hb hK hP ⟨by decide, fun _ => rfl, by decide⟩ hn13 dX8_read_124 ?_
              refine lv_bipush (v := 97) hx hb dX8_read_125 (by decide) ?_
              refine lv_isub hx hb dX8_read_127 ?_
              refine lv_goto (tgt := 132) hx hb dX8_read_128 (by decide) ?_
              obtain ⟨hn14, hp⟩ := hp
              refine x_iast hx hb hK hP hA hS ⟨by decide, fun _ => rfl, by decide⟩ hn14 dX8_read_132 (fun H locs hP hS => ?_)
              have hP : wP D cI cB ad (v_X8_read_5 x1_1 V1) H := hP
              refine lv_iinc (v := (x1_1 + 1)) (lv' := [(1, .int (x1_1 + 1)), (0, .ref (ad 48))]) hx hb dX8_read_133 hl (k := 1) rfl (by rfl) (by decide) rfl (fun ls hl => ?_)
              refine lv_goto (tgt := 34) hx hb dX8_read_136 (by decide) ?_
              exact ih1 (v_X8_read_5 x1_1 V1) (x1_1 + 1) hE hp H locs hP hS ls (lv_sub hl [1, 0] rfl)
    exact L1 fu (upV (v_X8_read_1 fu V) 49 (1 : Int32).toNatClampNeg 0) 0 hE hp _ _ hP hS _ (lv_sub hl [1, 0] rfl)
  · have hE := hE.trans (if_pos c1)
    refine lv_sipush (v := (-1002)) hx hb dX8_read_11 (by decide) ?_
    exact W.iret (v := (-1002)) hx hb hr (fun t ht hW => ⟨⟨(-1002), (f_X8_areWords fu (f_X8_begins fu V)).2, rfl, ⟨(congrArg Prod.fst hE).symm, (congrArg Prod.snd hE).symm⟩, by dsimp only; rw [ht]; exact hP⟩, hS.F ht⟩) hS.2.2 dX8_read_14
