/-! contracts by program (wip/whole/gen): f_ what a method answers or makes of the table, p_ what it needs, m_ the contract -/
def f_X7_letterOf (fu : Nat) (V : VT) (p1 : Int32) (p2 : Int32) : Int32 := (if (f_X7_isLetter V p1) = 0 then (-1001) else (if p2 < 0 then (-1001) else (if p2 ≤ 5 then (if p2 = 5 then (f_X0_timesWanted fu V 0 p1) else (if (f_X3_has V 0 p1) = 0 then (-1004) else (if p2 = 0 then (f_X3_signFor V 0 p1) else (if p2 = 1 then (f_X6_turn V (f_X3_signFor V 0 p1)) else (if p2 = 2 then (f_J6_bitCount_0f7a4 V (f_X3_signFor V 0 p1)) else (if p2 = 3 then (f_X7_foundOrNot V (f_X3_nearest fu V 0 (f_X6_turn V (f_X3_signFor V 0 p1)) (-1))) else (f_X7_foundOrNot V (f_X3_nearest fu V 0 (f_X3_signFor V 0 p1) p1)))))))) else (-1001))))
def p_X7_letterOf (fu : Nat) (V : VT) (p1 : Int32) (p2 : Int32) : Prop := (((f_X7_isLetter V p1) = 0 → True) ∧ (¬ ((f_X7_isLetter V p1) = 0) → ((p2 < 0 → True) ∧ (¬ (p2 < 0) → ((p2 ≤ 5 → ((p2 = 5 → (p_X0_timesWanted fu V 0 p1)) ∧ (¬ (p2 = 5) → (((f_X3_has V 0 p1) = 0 → True) ∧ (¬ ((f_X3_has V 0 p1) = 0) → ((p2 = 0 → True) ∧ (¬ (p2 = 0) → ((p2 = 1 → True) ∧ (¬ (p2 = 1) → ((p2 = 2 → True) ∧ (¬ (p2 = 2) → ((p2 = 3 → (p_X3_nearest fu V 0 (f_X6_turn V (f_X3_signFor V 0 p1)) (-1))) ∧ (¬ (p2 = 3) → (p_X3_nearest fu V 0 (f_X3_signFor V 0 p1) p1)))))))))))))) ∧ (¬ (p2 ≤ 5) → True))))))
set_option maxHeartbeats 4000000 in
set_option maxRecDepth 100000 in
theorem m_X7_letterOf (l : Launch) (D : va_G) (cI cB : ClassId) (ad : Nat → Nat) (fu : Nat) (V : VT) (p1 : Int32) (p2 : Int32)  (hp : p_X7_letterOf fu V p1 p2) : Met l yX7_letterOf wsX7_letterOf ({ frames := 3, cells := 0, slots := 0, locals := 66 }) (cP D cI cB ad V [.ref (ad 0), .int p1, .int p2]) (cR (f_X7_letterOf fu V p1 p2)) 0 0 (fun _ => False) := by
  refine Met.ofW (cc := cX7_letterOf) (maxL := 4) (ret := (some .int)) (by decide +kernel) rfl ?_
  intro p e s m args below meth c s₁ B hml hv
  obtain ⟨rfl, hP, hKN⟩ := hv
  have hK := hKN.1
  have hx := B.exec
  have hb := B.bytes
  have hr := B.returns
  have hts := atoms_spec (ws := wsX7_letterOf) B.pre
  have hown : s.vm.findClass RX7 = some m.cls := findClass_of_methodNamed B.named
  have hlocks := B.notSynchronized
  have hS : va_S (fun _ => False) s.heap s.heap [] := va_S.rf
  have hl := lv_entry ([.ref (ad 0), .int p1, .int p2]) (n := 4) (Nat.le_of_ble_eq_true rfl)
  rw [lg_entry_eq]
  generalize (lg_sl ([.ref (ad 0), .int p1, .int p2]) ++ List.replicate (4 - (lg_sl ([.ref (ad 0), .int p1, .int p2])).length) Slot.unset).toArray = ls at hl ⊢
  have hl : lv_has ls 4 [(0, .ref (ad 0)), (1, .int p1), (2, .int p2)] := hl
  have hE : f_X7_letterOf fu V p1 p2 = (if (f_X7_isLetter V p1) = 0 then (-1001) else (if p2 < 0 then (-1001) else (if p2 ≤ 5 then (if p2 = 5 then (f_X0_timesWanted fu V 0 p1) else (if (f_X3_has V 0 p1) = 0 then (-1004) else (if p2 = 0 then (f_X3_signFor V 0 p1) else (if p2 = 1 then (f_X6_turn V (f_X3_signFor V 0 p1)) else (if p2 = 2 then (f_J6_bitCount_0f7a4 V (f_X3_signFor V 0 p1)) else (if p2 = 3 then (f_X7_foundOrNot V (f_X3_nearest fu V 0 (f_X6_turn V (f_X3_signFor V 0 p1)) (-1))) else (f_X7_foundOrNot V (f_X3_nearest fu V 0 (f_X3_signFor V 0 p1) p1)))))))) else (-1001)))) := rfl
  refine lv_iload_n hx hb dX7_letterOf_0 rfl (lv_at hl 1 rfl) ?_
  refine k_SR (As := [.int p1]) (rest := []) ⟨hx, hb, hml, hown, hts⟩ hKN hP hS (m_X7_isLetter l D cI cB ad V p1) (va_cwS 1 hts gX7_letterOf_X7_isLetter rfl rfl rfl (by decide +kernel) ⟨(Nat.le_of_ble_eq_true rfl), (Nat.le_of_ble_eq_true rfl)⟩) rfl hl.1 rfl (Nat.le_of_ble_eq_true rfl) dX7_letterOf_1 ⟨Nat.zero_le _, Nat.zero_le _⟩ (fun H locs hP hS => ?_)
  refine lv_if_eq (tgt := 16) hx hb dX7_letterOf_4 (by decide) (fun c1 => ?_) (fun c1 => ?_)
  · have hE := hE.trans (if_pos c1)
    refine lv_sipush (v := (-1001)) hx hb dX7_letterOf_16 (by decide) ?_
    exact W.iret (v := (-1001)) hx hb hr (fun t ht hW => ⟨⟨(-1001), (), rfl, hE.symm, trivial⟩, hS.F ht⟩) hS.2.2 dX7_letterOf_19
  · have hE := hE.trans (if_neg c1)
    have hp := pc_bn hp c1
    refine lv_iload_n hx hb dX7_letterOf_7 rfl (lv_at hl 2 rfl) ?_
    refine lv_if_lt (tgt := 16) hx hb dX7_letterOf_8 (by decide) (fun c2 => ?_) (fun c2 => ?_)
    · have hE := hE.trans (if_pos c2)
      refine lv_sipush (v := (-1001)) hx hb dX7_letterOf_16 (by decide) ?_
      exact W.iret (v := (-1001)) hx hb hr (fun t ht hW => ⟨⟨(-1001), (), rfl, hE.symm, trivial⟩, hS.F ht⟩) hS.2.2 dX7_letterOf_19
    · have hE := hE.trans (if_neg c2)
      have hp := pc_bn hp c2
      refine lv_iload_n hx hb dX7_letterOf_11 rfl (lv_at hl 2 rfl) ?_
      refine lv_iconst (v := 5) hx hb dX7_letterOf_12 (by decide) ?_
      refine lv_icmp_le (tgt := 20) hx hb dX7_letterOf_13 (by decide) (fun c3 => ?_) (fun c3 => ?_)
      · have hE := hE.trans (if_pos c3)
        have hp := pc_br hp c3
        refine lv_iload_n hx hb dX7_letterOf_20 rfl (lv_at hl 2 rfl) ?_
        refine lv_iconst (v := 5) hx hb dX7_letterOf_21 (by decide) ?_
        refine lv_icmp_ne (tgt := 34) hx hb dX7_letterOf_22 (by decide) (fun c4 => ?_) (fun c4 => ?_)
        · have hE := hE.trans (if_neg c4)
          have hp := pc_bn hp c4
          refine lv_aload_n hx hb dX7_letterOf_34 rfl (lv_at hl 0 rfl) ?_
          refine x_get (ci := 5) (fs := [.ref (ad 6), .ref (ad 13), .ref (ad 4), .ref (ad 2), .ref (ad 1), .int ((V 0) 0)]) (q := 0) (v := .ref (ad 6)) (N := 6) hx hb hts (fun _ h => List.mem_cons_of_mem _ (List.mem_append_left _ (List.mem_append_left _ (List.mem_append_right _ h)))) hown hK hP (by decide) (ce_tb ad cI cB (V 0)) rfl 0 (by decide) (hts (.fieldLink RX7 10 "TurnedBoards" "now" "LTurnedBoards$Board;") (List.mem_of_getElem? (i := 1) rfl)) rfl rfl dX7_letterOf_35 ?_
          refine x_getN (ci := 0) (fs := [.ref (ad (6 + 7 * 0 + 1)), .ref (ad (6 + 7 * 0 + 3)), .ref (ad (6 + 7 * 0 + 4)), .ref (ad (6 + 7 * 0 + 5)), .ref (ad (6 + 7 * 0 + 6)), .int ((V (6 + 7 * 0)) 5), .int ((V (6 + 7 * 0)) 6), .int ((V (6 + 7 * 0)) 0), .int ((V (6 + 7 * 0)) 1), .int ((V (6 + 7 * 0)) 2), .int ((V (6 + 7 * 0)) 3), .int ((V (6 + 7 * 0)) 4)]) (q := (6 + 7 * 0)) (v := .ref (ad (6 + 7 * 0 + 1))) (N := 12) hx hb hts (fun _ h => List.mem_cons_of_mem _ (List.mem_append_left _ (List.mem_append_right _ h))) hown hK hP (by decide) (ce_bd ad cI cB (by decide : 0 < 6) (V (6 + 7 * 0))) rfl 0 (by decide) (hKN.2.1 (.fieldLinkNest RX7 51 "TurnedBoards$Board" "letters" "LTurnedBoards$Letters;" "TurnedBoards") (List.mem_of_getElem? (i := 1) rfl)) rfl rfl dX7_letterOf_38 ?_
          refine lv_iload_n hx hb dX7_letterOf_41 rfl (lv_at hl 1 rfl) ?_
          refine k_VR (As := [.int p1]) (rest := []) (q := (6 + 7 * 0 + 1)) ⟨hx, hb, hml, hown, hts⟩ hKN hP hS (m_X3_has l D cI cB ad V 0 p1 (by decide : 0 < 6)) (cwV 1 hts gX7_letterOf_X3_has rfl rfl rfl (by decide +kernel) ⟨(Nat.le_of_ble_eq_true rfl), (Nat.le_of_ble_eq_true rfl)⟩) (c_preV hP hKN (q := (6 + 7 * 0 + 1)) (ci := 3) (fs := [.ref (ad (6 + 7 * 0 + 2))]) (by decide) (ce_lt ad cI cB (by decide : 0 < 6) (V (6 + 7 * 0 + 1))) rfl rfl) rfl hl.1 rfl (Nat.le_of_ble_eq_true rfl) dX7_letterOf_42 ⟨Nat.zero_le _, Nat.zero_le _⟩ (fun H locs hP hS => ?_)
          refine lv_if_ne (tgt := 52) hx hb dX7_letterOf_45 (by decide) (fun c5 => ?_) (fun c5 => ?_)
          · have hE := hE.trans (if_neg c5)
            have hp := pc_bn hp c5
            refine lv_aload_n hx hb dX7_letterOf_52 rfl (lv_at hl 0 rfl) ?_
            refine x_get (ci := 5) (fs := [.ref (ad 6), .ref (ad 13), .ref (ad 4), .ref (ad 2), .ref (ad 1), .int ((V 0) 0)]) (q := 0) (v := .ref (ad 6)) (N := 6) hx hb hts (fun _ h => List.mem_cons_of_mem _ (List.mem_append_left _ (List.mem_append_left _ (List.mem_append_right _ h)))) hown hK hP (by decide) (ce_tb ad cI cB (V 0)) rfl 0 (by decide) (hts (.fieldLink RX7 10 "TurnedBoards" "now" "LTurnedBoards$Board;") (List.mem_of_getElem? (i := 1) rfl)) rfl rfl dX7_letterOf_53 ?_
            refine x_getN (ci := 0) (fs := [.ref (ad (6 + 7 * 0 + 1)), .ref (ad (6 + 7 * 0 + 3)), .ref (ad (6 + 7 * 0 + 4)), .ref (ad (6 + 7 * 0 + 5)), .ref (ad (6 + 7 * 0 + 6)), .int ((V (6 + 7 * 0)) 5), .int ((V (6 + 7 * 0)) 6), .int ((V (6 + 7 * 0)) 0), .int ((V (6 + 7 * 0)) 1), .int ((V (6 + 7 * 0)) 2), .int ((V (6 + 7 * 0)) 3), .int ((V (6 + 7 * 0)) 4)]) (q := (6 + 7 * 0)) (v := .ref (ad (6 + 7 * 0 + 1))) (N := 12) hx hb hts (fun _ h => List.mem_cons_of_mem _ (List.mem_append_left _ (List.mem_append_right _ h))) hown hK hP (by decide) (ce_bd ad cI cB (by decide : 0 < 6) (V (6 + 7 * 0))) rfl 0 (by decide) (hKN.2.1 (.fieldLinkNest RX7 51 "TurnedBoards$Board" "letters" "LTurnedBoards$Letters;" "TurnedBoards") (List.mem_of_getElem? (i := 1) rfl)) rfl rfl dX7_letterOf_56 ?_
            refine lv_iload_n hx hb dX7_letterOf_59 rfl (lv_at hl 1 rfl) ?_
            refine k_VR (As := [.int p1]) (rest := []) (q := (6 + 7 * 0 + 1)) ⟨hx, hb, hml, hown, hts⟩ hKN hP hS (m_X3_signFor l D cI cB ad V 0 p1 (by decide : 0 < 6)) (cwV 1 hts gX7_letterOf_X3_signFor rfl rfl rfl (by decide +kernel) ⟨(Nat.le_of_ble_eq_true rfl), (Nat.le_of_ble_eq_true rfl)⟩) (c_preV hP hKN (q := (6 + 7 * 0 + 1)) (ci := 3) (fs := [.ref (ad (6 + 7 * 0 + 2))]) (by decide) (ce_lt ad cI cB (by decide : 0 < 6) (V (6 + 7 * 0 + 1))) rfl rfl) rfl hl.1 rfl (Nat.le_of_ble_eq_true rfl) dX7_letterOf_60 ⟨Nat.zero_le _, Nat.zero_le _⟩ (fun H locs hP hS => ?_)
            refine lv_istore_n (lv' := [(3, .int (f_X3_signFor V 0 p1)), (0, .ref (ad 0)), (1, .int p1), (2, .int p2)]) hx hb dX7_letterOf_63 rfl hl (by decide) rfl (fun ls hl => ?_)
            refine lv_iload_n hx hb dX7_letterOf_64 rfl (lv_at hl 3 rfl) ?_
            rcases Decidable.em (p2 = 0) with c6 | c6
            · have hE := hE.trans (if_pos c6)
              refine lv_tableIn (off := 31) (tgt := 96) hx hb dX7_letterOf_65 (by rw [c6]; decide) (by rw [c6]; decide) (by rw [c6]; rfl) (by decide) ?_
              refine lv_iload_n hx hb dX7_letterOf_96 rfl (lv_at hl 0 rfl) ?_
              exact W.iret (v := (f_X3_signFor V 0 p1)) hx hb hr (fun t ht hW => ⟨⟨(f_X3_signFor V 0 p1), (), rfl, hE.symm, trivial⟩, hS.F ht⟩) hS.2.2 dX7_letterOf_97
            · have hE := hE.trans (if_neg c6)
              have hp := pc_bn hp c6
              rcases Decidable.em (p2 = 1) with c7 | c7
              · have hE := hE.trans (if_pos c7)
                refine lv_tableIn (off := 33) (tgt := 98) hx hb dX7_letterOf_65 (by rw [c7]; decide) (by rw [c7]; decide) (by rw [c7]; rfl) (by decide) ?_
                refine lv_iload_n hx hb dX7_letterOf_98 rfl (lv_at hl 0 rfl) ?_
                refine k_SR (As := [.int (f_X3_signFor V 0 p1)]) (rest := []) ⟨hx, hb, hml, hown, hts⟩ hKN hP hS (m_X6_turn l D cI cB ad V (f_X3_signFor V 0 p1)) (va_cwS 1 hts gX7_letterOf_X6_turn rfl rfl rfl (by decide +kernel) ⟨(Nat.le_of_ble_eq_true rfl), (Nat.le_of_ble_eq_true rfl)⟩) rfl hl.1 rfl (Nat.le_of_ble_eq_true rfl) dX7_letterOf_99 ⟨Nat.zero_le _, Nat.zero_le _⟩ (fun H locs hP hS => ?_)
                exact W.iret (v := (f_X6_turn V (f_X3_signFor V 0 p1))) hx hb hr (fun t ht hW => ⟨⟨(f_X6_turn V (f_X3_signFor V 0 p1)), (), rfl, hE.symm, trivial⟩, hS.F ht⟩) hS.2.2 dX7_letterOf_102
              · have hE := hE.trans (if_neg c7)
                have hp := pc_bn hp c7
                rcases Decidable.em (p2 = 2) with c8 | c8
                · have hE := hE.trans (if_pos c8)
                  refine lv_tableIn (off := 38) (tgt := 103) hx hb dX7_letterOf_65 (by rw [c8]; decide) (by rw [c8]; decide) (by rw [c8]; rfl) (by decide) ?_
                  refine lv_iload_n hx hb dX7_letterOf_103 rfl (lv_at hl 0 rfl) ?_
                  refine k_SR (As := [.int (f_X3_signFor V 0 p1)]) (rest := []) ⟨hx, hb, hml, hown, hts⟩ hKN hP hS (m_J6_bitCount_0f7a4 l D cI cB ad V (f_X3_signFor V 0 p1)) (va_cwS 1 hts gX7_letterOf_J6_bitCount_0f7a4 rfl rfl rfl (by decide +kernel) ⟨(Nat.le_of_ble_eq_true rfl), (Nat.le_of_ble_eq_true rfl)⟩) rfl hl.1 rfl (Nat.le_of_ble_eq_true rfl) dX7_letterOf_104 ⟨Nat.zero_le _, Nat.zero_le _⟩ (fun H locs hP hS => ?_)
                  exact W.iret (v := (f_J6_bitCount_0f7a4 V (f_X3_signFor V 0 p1))) hx hb hr (fun t ht hW => ⟨⟨(f_J6_bitCount_0f7a4 V (f_X3_signFor V 0 p1)), (), rfl, hE.symm, trivial⟩, hS.F ht⟩) hS.2.2 dX7_letterOf_107
                · have hE := hE.trans (if_neg c8)
                  have hp := pc_bn hp c8
                  rcases Decidable.em (p2 = 3) with c9 | c9
                  · have hE := hE.trans (if_pos c9)
                    have hp := pc_br hp c9
                    refine lv_tableIn (off := 43) (tgt := 108) hx hb dX7_letterOf_65 (by rw [c9]; decide) (by rw [c9]; decide) (by rw [c9]; rfl) (by decide) ?_
                    refine lv_aload_n hx hb dX7_letterOf_108 rfl (lv_at hl 1 rfl) ?_
                    refine x_get (ci := 5) (fs := [.ref (ad 6), .ref (ad 13), .ref (ad 4), .ref (ad 2), .ref (ad 1), .int ((V 0) 0)]) (q := 0) (v := .ref (ad 6)) (N := 6) hx hb hts (fun _ h => List.mem_cons_of_mem _ (List.mem_append_left _ (List.mem_append_left _ (List.mem_append_right _ h)))) hown hK hP (by decide) (ce_tb ad cI cB (V 0)) rfl 0 (by decide) (hts (.fieldLink RX7 10 "TurnedBoards" "now" "LTurnedBoards$Board;") (List.mem_of_getElem? (i := 1) rfl)) rfl rfl dX7_letterOf_109 ?_
                    refine x_getN (ci := 0) (fs := [.ref (ad (6 + 7 * 0 + 1)), .ref (ad (6 + 7 * 0 + 3)), .ref (ad (6 + 7 * 0 + 4)), .ref (ad (6 + 7 * 0 + 5)), .ref (ad (6 + 7 * 0 + 6)), .int ((V (6 + 7 * 0)) 5), .int ((V (6 + 7 * 0)) 6), .int ((V (6 + 7 * 0)) 0), .int ((V (6 + 7 * 0)) 1), .int ((V (6 + 7 * 0)) 2), .int ((V (6 + 7 * 0)) 3), .int ((V (6 + 7 * 0)) 4)]) (q := (6 + 7 * 0)) (v := .ref (ad (6 + 7 * 0 + 1))) (N := 12) hx hb hts (fun _ h => List.mem_cons_of_mem _ (List.mem_append_left _ (List.mem_append_right _ h))) hown hK hP (by decide) (ce_bd ad cI cB (by decide : 0 < 6) (V (6 + 7 * 0))) rfl 0 (by decide) (hKN.2.1 (.fieldLinkNest RX7 51 "TurnedBoards$Board" "letters" "LTurnedBoards$Letters;" "TurnedBoards") (List.mem_of_getElem? (i := 1) rfl)) rfl rfl dX7_letterOf_112 ?_
                    refine lv_iload_n hx hb dX7_letterOf_115 rfl (lv_at hl 0 rfl) ?_
                    refine k_SR (As := [.int (f_X3_signFor V 0 p1)]) (rest := [.ref (ad (6 + 7 * 0 + 1))]) ⟨hx, hb, hml, hown, hts⟩ hKN hP hS (m_X6_turn l D cI cB ad V (f_X3_signFor V 0 p1)) (va_cwS 1 hts gX7_letterOf_X6_turn rfl rfl rfl (by decide +kernel) ⟨(Nat.le_of_ble_eq_true rfl), (Nat.le_of_ble_eq_true rfl)⟩) rfl hl.1 rfl (Nat.le_of_ble_eq_true rfl) dX7_letterOf_116 ⟨Nat.zero_le _, Nat.zero_le _⟩ (fun H locs hP hS => ?_)
                    refine lv_iconst (v := (-1)) hx hb dX7_letterOf_119 (by decide) ?_
                    have hn2 := hp
                    refine k_VR (As := [.int (f_X6_turn V (f_X3_signFor V 0 p1)), .int (-1)]) (rest := []) (q := (6 + 7 * 0 + 1)) ⟨hx, hb, hml, hown, hts⟩ hKN hP hS (m_X3_nearest l D cI cB ad fu V 0 (f_X6_turn V (f_X3_signFor V 0 p1)) (-1) (by decide : 0 < 6) hn2) (cwV 2 hts gX7_letterOf_X3_nearest rfl rfl rfl (by decide +kernel) ⟨(Nat.le_of_ble_eq_true rfl), (Nat.le_of_ble_eq_true rfl)⟩) (c_preV hP hKN (q := (6 + 7 * 0 + 1)) (ci := 3) (fs := [.ref (ad (6 + 7 * 0 + 2))]) (by decide) (ce_lt ad cI cB (by decide : 0 < 6) (V (6 + 7 * 0 + 1))) rfl rfl) rfl hl.1 rfl (Nat.le_of_ble_eq_true rfl) dX7_letterOf_120 ⟨Nat.zero_le _, Nat.zero_le _⟩ (fun H locs hP hS => ?_)
                    refine k_SR (As := [.int (f_X3_nearest fu V 0 (f_X6_turn V (f_X3_signFor V 0 p1)) (-1))]) (rest := []) ⟨hx, hb, hml, hown, hts⟩ hKN hP hS (m_X7_foundOrNot l D cI cB ad V (f_X3_nearest fu V 0 (f_X6_turn V (f_X3_signFor V 0 p1)) (-1))) (va_cwS 1 hts gX7_letterOf_X7_foundOrNot rfl rfl rfl (by decide +kernel) ⟨(Nat.le_of_ble_eq_true rfl), (Nat.le_of_ble_eq_true rfl)⟩) rfl hl.1 rfl (Nat.le_of_ble_eq_true rfl) dX7_letterOf_123 ⟨Nat.zero_le _, Nat.zero_le _⟩ (fun H locs hP hS => ?_)
                    exact W.iret (v := (f_X7_foundOrNot V (f_X3_nearest fu V 0 (f_X6_turn V (f_X3_signFor V 0 p1)) (-1)))) hx hb hr (fun t ht hW => ⟨⟨(f_X7_foundOrNot V (f_X3_nearest fu V 0 (f_X6_turn V (f_X3_signFor V 0 p1)) (-1))), (), rfl, hE.symm, trivial⟩, hS.F ht⟩) hS.2.2 dX7_letterOf_126
                  · have hE := hE.trans (if_neg c9)
                    have hp := pc_bn hp c9
                    refine lv_tableOut (tgt := 127) hx hb dX7_letterOf_65 (by have e0 := lv_neT (k := 0) (a := 0) c6 rfl; have e1 := lv_neT (k := 1) (a := 1) c7 rfl; have e2 := lv_neT (k := 2) (a := 2) c8 rfl; have e3 := lv_neT (k := 3) (a := 3) c9 rfl; omega) (by decide) ?_
                    refine lv_aload_n hx hb dX7_letterOf_127 rfl (lv_at hl 1 rfl) ?_
                    refine x_get (ci := 5) (fs := [.ref (ad 6), .ref (ad 13), .ref (ad 4), .ref (ad 2), .ref (ad 1), .int ((V 0) 0)]) (q := 0) (v := .ref (ad 6)) (N := 6) hx hb hts (fun _ h => List.mem_cons_of_mem _ (List.mem_append_left _ (List.mem_append_left _ (List.mem_append_right _ h)))) hown hK hP (by decide) (ce_tb ad cI cB (V 0)) rfl 0 (by decide) (hts (.fieldLink RX7 10 "TurnedBoards" "now" "LTurnedBoards$Board;") (List.mem_of_getElem? (i := 1) rfl)) rfl rfl dX7_letterOf_128 ?_
                    refine x_getN (ci := 0) (fs := [.ref (ad (6 + 7 * 0 + 1)), .ref (ad (6 + 7 * 0 + 3)), .ref (ad (6 + 7 * 0 + 4)), .ref (ad (6 + 7 * 0 + 5)), .ref (ad (6 + 7 * 0 + 6)), .int ((V (6 + 7 * 0)) 5), .int ((V (6 + 7 * 0)) 6), .int ((V (6 + 7 * 0)) 0), .int ((V (6 + 7 * 0)) 1), .int ((V (6 + 7 * 0)) 2), .int ((V (6 + 7 * 0)) 3), .int ((V (6 + 7 * 0)) 4)]) (q := (6 + 7 * 0)) (v := .ref (ad (6 + 7 * 0 + 1))) (N := 12) hx hb hts (fun _ h => List.mem_cons_of_mem _ (List.mem_append_left _ (List.mem_append_right _ h))) hown hK hP (by decide) (ce_bd ad cI cB (by decide : 0 < 6) (V (6 + 7 * 0))) rfl 0 (by decide) (hKN.2.1 (.fieldLinkNest RX7 51 "TurnedBoards$Board" "letters" "LTurnedBoards$Letters;" "TurnedBoards") (List.mem_of_getElem? (i := 1) rfl)) rfl rfl dX7_letterOf_131 ?_
                    refine lv_iload_n hx hb dX7_letterOf_134 rfl (lv_at hl 0 rfl) ?_
                    refine lv_iload_n hx hb dX7_letterOf_135 rfl (lv_at hl 2 rfl) ?_
                    have hn3 := hp
                    refine k_VR (As := [.int (f_X3_signFor V 0 p1), .int p1]) (rest := []) (q := (6 + 7 * 0 + 1)) ⟨hx, hb, hml, hown, hts⟩ hKN hP hS (m_X3_nearest l D cI cB ad fu V 0 (f_X3_signFor V 0 p1) p1 (by decide : 0 < 6) hn3) (cwV 2 hts gX7_letterOf_X3_nearest rfl rfl rfl (by decide +kernel) ⟨(Nat.le_of_ble_eq_true rfl), (Nat.le_of_ble_eq_true rfl)⟩) (c_preV hP hKN (q := (6 + 7 * 0 + 1)) (ci := 3) (fs := [.ref (ad (6 + 7 * 0 + 2))]) (by decide) (ce_lt ad cI cB (by decide : 0 < 6) (V (6 + 7 * 0 + 1))) rfl rfl) rfl hl.1 rfl (Nat.le_of_ble_eq_true rfl) dX7_letterOf_136 ⟨Nat.zero_le _, Nat.zero_le _⟩ (fun H locs hP hS => ?_)
                    refine k_SR (As := [.int (f_X3_nearest fu V 0 (f_X3_signFor V 0 p1) p1)]) (rest := []) ⟨hx, hb, hml, hown, hts⟩ hKN hP hS (m_X7_foundOrNot l D cI cB ad V (f_X3_nearest fu V 0 (f_X3_signFor V 0 p1) p1)) (va_cwS 1 hts gX7_letterOf_X7_foundOrNot rfl rfl rfl (by decide +kernel) ⟨(Nat.le_of_ble_eq_true rfl), (Nat.le_of_ble_eq_true rfl)⟩) rfl hl.1 rfl (Nat.le_of_ble_eq_true rfl) dX7_letterOf_139 ⟨Nat.zero_le _, Nat.zero_le _⟩ (fun H locs hP hS => ?_)
                    exact W.iret (v := (f_X7_foundOrNot V (f_X3_nearest fu V 0 (f_X3_signFor V 0 p1) p1))) hx hb hr (fun t ht hW => ⟨⟨(f_X7_foundOrNot V (f_X3_nearest fu V 0 (f_X3_signFor V 0 p1) p1)), (), rfl, hE.symm, trivial⟩, hS.F ht⟩) hS.2.2 dX7_letterOf_142
          · have hE := hE.trans (if_pos c5)
            refine lv_sipush (v := (-1004)) hx hb dX7_letterOf_48 (by decide) ?_
            exact W.iret (v := (-1004)) hx hb hr (fun t ht hW => ⟨⟨(-1004), (), rfl, hE.symm, trivial⟩, hS.F ht⟩) hS.2.2 dX7_letterOf_51
        · have hE := hE.trans (if_pos c4)
          have hp := pc_br hp c4
          refine lv_aload_n hx hb dX7_letterOf_25 rfl (lv_at hl 0 rfl) ?_
          refine x_get (ci := 5) (fs := [.ref (ad 6), .ref (ad 13), .ref (ad 4), .ref (ad 2), .ref (ad 1), .int ((V 0) 0)]) (q := 0) (v := .ref (ad 6)) (N := 6) hx hb hts (fun _ h => List.mem_cons_of_mem _ (List.mem_append_left _ (List.mem_append_left _ (List.mem_append_right _ h)))) hown hK hP (by decide) (ce_tb ad cI cB (V 0)) rfl 0 (by decide) (hts (.fieldLink RX7 10 "TurnedBoards" "now" "LTurnedBoards$Board;") (List.mem_of_getElem? (i := 1) rfl)) rfl rfl dX7_letterOf_26 ?_
          refine lv_iload_n hx hb dX7_letterOf_29 rfl (lv_at hl 1 rfl) ?_
          have hn1 := hp
          refine k_VR (As := [.int p1]) (rest := []) (q := (6 + 7 * 0)) ⟨hx, hb, hml, hown, hts⟩ hKN hP hS (m_X0_timesWanted l D cI cB ad fu V 0 p1 (by decide : 0 < 6) hn1) (cwV 1 hts gX7_letterOf_X0_timesWanted rfl rfl rfl (by decide +kernel) ⟨(Nat.le_of_ble_eq_true rfl), (Nat.le_of_ble_eq_true rfl)⟩) (c_preV hP hKN (q := (6 + 7 * 0)) (ci := 0) (fs := [.ref (ad (6 + 7 * 0 + 1)), .ref (ad (6 + 7 * 0 + 3)), .ref (ad (6 + 7 * 0 + 4)), .ref (ad (6 + 7 * 0 + 5)), .ref (ad (6 + 7 * 0 + 6)), .int ((V (6 + 7 * 0)) 5), .int ((V (6 + 7 * 0)) 6), .int ((V (6 + 7 * 0)) 0), .int ((V (6 + 7 * 0)) 1), .int ((V (6 + 7 * 0)) 2), .int ((V (6 + 7 * 0)) 3), .int ((V (6 + 7 * 0)) 4)]) (by decide) (ce_bd ad cI cB (by decide : 0 < 6) (V (6 + 7 * 0))) rfl rfl) rfl hl.1 rfl (Nat.le_of_ble_eq_true rfl) dX7_letterOf_30 ⟨Nat.zero_le _, Nat.zero_le _⟩ (fun H locs hP hS => ?_)
          exact W.iret (v := (f_X0_timesWanted fu V 0 p1)) hx hb hr (fun t ht hW => ⟨⟨(f_X0_timesWanted fu V 0 p1), (), rfl, hE.symm, trivial⟩, hS.F ht⟩) hS.2.2 dX7_letterOf_33
      · have hE := hE.trans (if_neg c3)
        refine lv_sipush (v := (-1001)) hx hb dX7_letterOf_16 (by decide) ?_
        exact W.iret (v := (-1001)) hx hb hr (fun t ht hW => ⟨⟨(-1001), (), rfl, hE.symm, trivial⟩, hS.F ht⟩) hS.2.2 dX7_letterOf_19
def f_X7_placeOf (fu : Nat) (V : VT) (p1 : Int32) (p2 : Int32) : Int32 := (if (f_X0_hasPlace V 0 p1) = 0 then (-1001) else (if p2 = 0 then (f_X0_signAt V 0 p1) else (if p2 = 1 then (f_X0_coatsAt V 0 p1) else (if p2 = 2 then (f_X7_foundOrNot V (f_X0_readAt fu V 0 p1 0)) else (if p2 = 3 then (f_X7_foundOrNot V (f_X0_readAt fu V 0 p1 1)) else (if p2 = 4 then (f_X0_wantedAt V 0 p1 0) else (if p2 = 5 then (f_X0_wantedAt V 0 p1 1) else (if p2 = 6 then (f_X7_marginOrNot fu V p1 0) else (if p2 = 7 then (f_X7_marginOrNot fu V p1 1) else (-1001))))))))))
def p_X7_placeOf (fu : Nat) (V : VT) (p1 : Int32) (p2 : Int32) : Prop := (((f_X0_hasPlace V 0 p1) = 0 → True) ∧ (¬ ((f_X0_hasPlace V 0 p1) = 0) → ((p2 = 0 → True) ∧ (¬ (p2 = 0) → ((p2 = 1 → True) ∧ (¬ (p2 = 1) → ((p2 = 2 → (p_X0_readAt fu V 0 p1 0)) ∧ (¬ (p2 = 2) → ((p2 = 3 → (p_X0_readAt fu V 0 p1 1)) ∧ (¬ (p2 = 3) → ((p2 = 4 → True) ∧ (¬ (p2 = 4) → ((p2 = 5 → True) ∧ (¬ (p2 = 5) → ((p2 = 6 → (p_X7_marginOrNot fu V p1 0)) ∧ (¬ (p2 = 6) → ((p2 = 7 → (p_X7_marginOrNot fu V p1 1)) ∧ (¬ (p2 = 7) → True))))))))))))))))))
set_option maxHeartbeats 4000000 in
set_option maxRecDepth 100000 in
theorem m_X7_placeOf (l : Launch) (D : va_G) (cI cB : ClassId) (ad : Nat → Nat) (fu : Nat) (V : VT) (p1 : Int32) (p2 : Int32)  (hp : p_X7_placeOf fu V p1 p2) : Met l yX7_placeOf wsX7_placeOf ({ frames := 5, cells := 0, slots := 0, locals := 109 }) (cP D cI cB ad V [.ref (ad 0), .int p1, .int p2]) (cR (f_X7_placeOf fu V p1 p2)) 0 0 (fun _ => False) := by
  refine Met.ofW (cc := cX7_placeOf) (maxL := 3) (ret := (some .int)) (by decide +kernel) rfl ?_
  intro p e s m args below meth c s₁ B hml hv
  obtain ⟨rfl, hP, hKN⟩ := hv
  have hK := hKN.1
  have hx := B.exec
  have hb := B.bytes
  have hr := B.returns
  have hts := atoms_spec (ws := wsX7_placeOf) B.pre
  have hown : s.vm.findClass RX7 = some m.cls := findClass_of_methodNamed B.named
  have hlocks := B.notSynchronized
  have hS : va_S (fun _ => False) s.heap s.heap [] := va_S.rf
  have hl := lv_entry ([.ref (ad 0), .int p1, .int p2]) (n := 3) (Nat.le_of_ble_eq_true rfl)
  rw [lg_entry_eq]
  generalize (lg_sl ([.ref (ad 0), .int p1, .int p2]) ++ List.replicate (3 - (lg_sl ([.ref (ad 0), .int p1, .int p2])).length) Slot.unset).toArray = ls at hl ⊢
  have hl : lv_has ls 3 [(0, .ref (ad 0)), (1, .int p1), (2, .int p2)] := hl
  have hE : f_X7_placeOf fu V p1 p2 = (if (f_X0_hasPlace V 0 p1) = 0 then (-1001) else (if p2 = 0 then (f_X0_signAt V 0 p1) else (if p2 = 1 then (f_X0_coatsAt V 0 p1) else (if p2 = 2 then (f_X7_foundOrNot V (f_X0_readAt fu V 0 p1 0)) else (if p2 = 3 then (f_X7_foundOrNot V (f_X0_readAt fu V 0 p1 1)) else (if p2 = 4 then (f_X0_wantedAt V 0 p1 0) else (if p2 = 5 then (f_X0_wantedAt V 0 p1 1) else (if p2 = 6 then (f_X7_marginOrNot fu V p1 0) else (if p2 = 7 then (f_X7_marginOrNot fu V p1 1) else (-1001)))))))))) := rfl
  refine lv_aload_n hx hb dX7_placeOf_0 rfl (lv_at hl 0 rfl) ?_
  refine x_get (ci := 5) (fs := [.ref (ad 6), .ref (ad 13), .ref (ad 4), .ref (ad 2), .ref (ad 1), .int ((V 0) 0)]) (q := 0) (v := .ref (ad 6)) (N := 6) hx hb hts (fun _ h => List.mem_cons_of_mem _ (List.mem_append_left _ (List.mem_append_left _ (List.mem_append_right _ h)))) hown hK hP (by decide) (ce_tb ad cI cB (V 0)) rfl 0 (by decide) (hts (.fieldLink RX7 10 "TurnedBoards" "now" "LTurnedBoards$Board;") (List.mem_of_getElem? (i := 1) rfl)) rfl rfl dX7_placeOf_1 ?_
  refine lv_iload_n hx hb dX7_placeOf_4 rfl (lv_at hl 1 rfl) ?_
  refine k_VR (As := [.int p1]) (rest := []) (q := (6 + 7 * 0)) ⟨hx, hb, hml, hown, hts⟩ hKN hP hS (m_X0_hasPlace l D cI cB ad V 0 p1 (by decide : 0 < 6)) (cwV 1 hts gX7_placeOf_X0_hasPlace rfl rfl rfl (by decide +kernel) ⟨(Nat.le_of_ble_eq_true rfl), (Nat.le_of_ble_eq_true rfl)⟩) (c_preV hP hKN (q := (6 + 7 * 0)) (ci := 0) (fs := [.ref (ad (6 + 7 * 0 + 1)), .ref (ad (6 + 7 * 0 + 3)), .ref (ad (6 + 7 * 0 + 4)), .ref (ad (6 + 7 * 0 + 5)), .ref (ad (6 + 7 * 0 + 6)), .int ((V (6 + 7 * 0)) 5), .int ((V (6 + 7 * 0)) 6), .int ((V (6 + 7 * 0)) 0), .int ((V (6 + 7 * 0)) 1), .int ((V (6 + 7 * 0)) 2), .int ((V (6 + 7 * 0)) 3), .int ((V (6 + 7 * 0)) 4)]) (by decide) (ce_bd ad cI cB (by decide : 0 < 6) (V (6 + 7 * 0))) rfl rfl) rfl hl.1 rfl (Nat.le_of_ble_eq_true rfl) dX7_placeOf_5 ⟨Nat.zero_le _, Nat.zero_le _⟩ (fun H locs hP hS => ?_)
  refine lv_if_ne (tgt := 15) hx hb dX7_placeOf_8 (by decide) (fun c1 => ?_) (fun c1 => ?_)
  · have hE := hE.trans (if_neg c1)
    have hp := pc_bn hp c1
    refine lv_iload_n hx hb dX7_placeOf_15 rfl (lv_at hl 2 rfl) ?_
    rcases Decidable.em (p2 = 0) with c2 | c2
    · have hE := hE.trans (if_pos c2)
      refine lv_tableIn (off := 48) (tgt := 64) hx hb dX7_placeOf_16 (by rw [c2]; decide) (by rw [c2]; decide) (by rw [c2]; rfl) (by decide) ?_
      refine lv_aload_n hx hb dX7_placeOf_64 rfl (lv_at hl 0 rfl) ?_
      refine x_get (ci := 5) (fs := [.ref (ad 6), .ref (ad 13), .ref (ad 4), .ref (ad 2), .ref (ad 1), .int ((V 0) 0)]) (q := 0) (v := .ref (ad 6)) (N := 6) hx hb hts (fun _ h => List.mem_cons_of_mem _ (List.mem_append_left _ (List.mem_append_left _ (List.mem_append_right _ h)))) hown hK hP (by decide) (ce_tb ad cI cB (V 0)) rfl 0 (by decide) (hts (.fieldLink RX7 10 "TurnedBoards" "now" "LTurnedBoards$Board;") (List.mem_of_getElem? (i := 1) rfl)) rfl rfl dX7_placeOf_65 ?_
      refine lv_iload_n hx hb dX7_placeOf_68 rfl (lv_at hl 1 rfl) ?_
      refine k_VR (As := [.int p1]) (rest := []) (q := (6 + 7 * 0)) ⟨hx, hb, hml, hown, hts⟩ hKN hP hS (m_X0_signAt l D cI cB ad V 0 p1 (by decide : 0 < 6)) (cwV 1 hts gX7_placeOf_X0_signAt rfl rfl rfl (by decide +kernel) ⟨(Nat.le_of_ble_eq_true rfl), (Nat.le_of_ble_eq_true rfl)⟩) (c_preV hP hKN (q := (6 + 7 * 0)) (ci := 0) (fs := [.ref (ad (6 + 7 * 0 + 1)), .ref (ad (6 + 7 * 0 + 3)), .ref (ad (6 + 7 * 0 + 4)), .ref (ad (6 + 7 * 0 + 5)), .ref (ad (6 + 7 * 0 + 6)), .int ((V (6 + 7 * 0)) 5), .int ((V (6 + 7 * 0)) 6), .int ((V (6 + 7 * 0)) 0), .int ((V (6 + 7 * 0)) 1), .int ((V (6 + 7 * 0)) 2), .int ((V (6 + 7 * 0)) 3), .int ((V (6 + 7 * 0)) 4)]) (by decide) (ce_bd ad cI cB (by decide : 0 < 6) (V (6 + 7 * 0))) rfl rfl) rfl hl.1 rfl (Nat.le_of_ble_eq_true rfl) dX7_placeOf_69 ⟨Nat.zero_le _, Nat.zero_le _⟩ (fun H locs hP hS => ?_)
      exact W.iret (v := (f_X0_signAt V 0 p1)) hx hb hr (fun t ht hW => ⟨⟨(f_X0_signAt V 0 p1), (), rfl, hE.symm, trivial⟩, hS.F ht⟩) hS.2.2 dX7_placeOf_72
    · have hE := hE.trans (if_neg c2)
      have hp := pc_bn hp c2
      rcases Decidable.em (p2 = 1) with c3 | c3
      · have hE := hE.trans (if_pos c3)
        refine lv_tableIn (off := 57) (tgt := 73) hx hb dX7_placeOf_16 (by rw [c3]; decide) (by rw [c3]; decide) (by rw [c3]; rfl) (by decide) ?_
        refine lv_aload_n hx hb dX7_placeOf_73 rfl (lv_at hl 0 rfl) ?_
        refine x_get (ci := 5) (fs := [.ref (ad 6), .ref (ad 13), .ref (ad 4), .ref (ad 2), .ref (ad 1), .int ((V 0) 0)]) (q := 0) (v := .ref (ad 6)) (N := 6) hx hb hts (fun _ h => List.mem_cons_of_mem _ (List.mem_append_left _ (List.mem_append_left _ (List.mem_append_right _ h)))) hown hK hP (by decide) (ce_tb ad cI cB (V 0)) rfl 0 (by decide) (hts (.fieldLink RX7 10 "TurnedBoards" "now" "LTurnedBoards$Board;") (List.mem_of_getElem? (i := 1) rfl)) rfl rfl dX7_placeOf_74 ?_
        refine lv_iload_n hx hb dX7_placeOf_77 rfl (lv_at hl 1 rfl) ?_
        refine k_VR (As := [.int p1]) (rest := []) (q := (6 + 7 * 0)) ⟨hx, hb, hml, hown, hts⟩ hKN hP hS (m_X0_coatsAt l D cI cB ad V 0 p1 (by decide : 0 < 6)) (cwV 1 hts gX7_placeOf_X0_coatsAt rfl rfl rfl (by decide +kernel) ⟨(Nat.le_of_ble_eq_true rfl), (Nat.le_of_ble_eq_true rfl)⟩) (c_preV hP hKN (q := (6 + 7 * 0)) (ci := 0) (fs := [.ref (ad (6 + 7 * 0 + 1)), .ref (ad (6 + 7 * 0 + 3)), .ref (ad (6 + 7 * 0 + 4)), .ref (ad (6 + 7 * 0 + 5)), .ref (ad (6 + 7 * 0 + 6)), .int ((V (6 + 7 * 0)) 5), .int ((V (6 + 7 * 0)) 6), .int ((V (6 + 7 * 0)) 0), .int ((V (6 + 7 * 0)) 1), .int ((V (6 + 7 * 0)) 2), .int ((V (6 + 7 * 0)) 3), .int ((V (6 + 7 * 0)) 4)]) (by decide) (ce_bd ad cI cB (by decide : 0 < 6) (V (6 + 7 * 0))) rfl rfl) rfl hl.1 rfl (Nat.le_of_ble_eq_true rfl) dX7_placeOf_78 ⟨Nat.zero_le _, Nat.zero_le _⟩ (fun H locs hP hS => ?_)
        exact W.iret (v := (f_X0_coatsAt V 0 p1)) hx hb hr (fun t ht hW => ⟨⟨(f_X0_coatsAt V 0 p1), (), rfl, hE.symm, trivial⟩, hS.F ht⟩) hS.2.2 dX7_placeOf_81
      · have hE := hE.trans (if_neg c3)
        have hp := pc_bn hp c3
        rcases Decidable.em (p2 = 2) with c4 | c4
        · have hE := hE.trans (if_pos c4)
          have hp := pc_br hp c4
          refine lv_tableIn (off := 66) (tgt := 82) hx hb dX7_placeOf_16 (by rw [c4]; decide) (by rw [c4]; decide) (by rw [c4]; rfl) (by decide) ?_
          refine lv_aload_n hx hb dX7_placeOf_82 rfl (lv_at hl 0 rfl) ?_
          refine x_get (ci := 5) (fs := [.ref (ad 6), .ref (ad 13), .ref (ad 4), .ref (ad 2), .ref (ad 1), .int ((V 0) 0)]) (q := 0) (v := .ref (ad 6)) (N := 6) hx hb hts (fun _ h => List.mem_cons_of_mem _ (List.mem_append_left _ (List.mem_append_left _ (List.mem_append_right _ h)))) hown hK hP (by decide) (ce_tb ad cI cB (V 0)) rfl 0 (by decide) (hts (.fieldLink RX7 10 "TurnedBoards" "now" "LTurnedBoards$Board;") (List.mem_of_getElem? (i := 1) rfl)) rfl rfl dX7_placeOf_83 ?_
          refine lv_iload_n hx hb dX7_placeOf_86 rfl (lv_at hl 1 rfl) ?_
          refine lv_iconst (v := 0) hx hb dX7_placeOf_87 (by decide) ?_
          have hn1 := hp
          refine k_VR (As := [.int p1, .int 0]) (rest := []) (q := (6 + 7 * 0)) ⟨hx, hb, hml, hown, hts⟩ hKN hP hS (m_X0_readAt l D cI cB ad fu V 0 p1 0 (by decide : 0 < 6) hn1) (cwV 2 hts gX7_placeOf_X0_readAt rfl rfl rfl (by decide +kernel) ⟨(Nat.le_of_ble_eq_true rfl), (Nat.le_of_ble_eq_true rfl)⟩) (c_preV hP hKN (q := (6 + 7 * 0)) (ci := 0) (fs := [.ref (ad (6 + 7 * 0 + 1)), .ref (ad (6 + 7 * 0 + 3)), .ref (ad (6 + 7 * 0 + 4)), .ref (ad (6 + 7 * 0 + 5)), .ref (ad (6 + 7 * 0 + 6)), .int ((V (6 + 7 * 0)) 5), .int ((V (6 + 7 * 0)) 6), .int ((V (6 + 7 * 0)) 0), .int ((V (6 + 7 * 0)) 1), .int ((V (6 + 7 * 0)) 2), .int ((V (6 + 7 * 0)) 3), .int ((V (6 + 7 * 0)) 4)]) (by decide) (ce_bd ad cI cB (by decide : 0 < 6) (V (6 + 7 * 0))) rfl rfl) rfl hl.1 rfl (Nat.le_of_ble_eq_true rfl) dX7_placeOf_88 ⟨Nat.zero_le _, Nat.zero_le _⟩ (fun H locs hP hS => ?_)
          refine k_SR (As := [.int (f_X0_readAt fu V 0 p1 0)]) (rest := []) ⟨hx, hb, hml, hown, hts⟩ hKN hP hS (m_X7_foundOrNot l D cI cB ad V (f_X0_readAt fu V 0 p1 0)) (va_cwS 1 hts gX7_placeOf_X7_foundOrNot rfl rfl rfl (by decide +kernel) ⟨(Nat.le_of_ble_eq_true rfl), (Nat.le_of_ble_eq_true rfl)⟩) rfl hl.1 rfl (Nat.le_of_ble_eq_true rfl) dX7_placeOf_91 ⟨Nat.zero_le _, Nat.zero_le _⟩ (fun H locs hP hS => ?_)
          exact W.iret (v := (f_X7_foundOrNot V (f_X0_readAt fu V 0 p1 0))) hx hb hr (fun t ht hW => ⟨⟨(f_X7_foundOrNot V (f_X0_readAt fu V 0 p1 0)), (), rfl, hE.symm, trivial⟩, hS.F ht⟩) hS.2.2 dX7_placeOf_94
        · have hE := hE.trans (if_neg c4)
          have hp := pc_bn hp c4
          rcases Decidable.em (p2 = 3) with c5 | c5
          · have hE := hE.trans (if_pos c5)
            have hp := pc_br hp c5
            refine lv_tableIn (off := 79) (tgt := 95) hx hb dX7_placeOf_16 (by rw [c5]; decide) (by rw [c5]; decide) (by rw [c5]; rfl) (by decide) ?_
            refine lv_aload_n hx hb dX7_placeOf_95 rfl (lv_at hl 0 rfl) ?_
            refine x_get (ci := 5) (fs := [.ref (ad 6), .ref (ad 13), .ref (ad 4), .ref (ad 2), .ref (ad 1), .int ((V 0) 0)]) (q := 0) (v := .ref (ad 6)) (N := 6) hx hb hts (fun _ h => List.mem_cons_of_mem _ (List.mem_append_left _ (List.mem_append_left _ (List.mem_append_right _ h)))) hown hK hP (by decide) (ce_tb ad cI cB (V 0)) rfl 0 (by decide) (hts (.fieldLink RX7 10 "TurnedBoards" "now" "LTurnedBoards$Board;") (List.mem_of_getElem? (i := 1) rfl)) rfl rfl dX7_placeOf_96 ?_
            refine lv_iload_n hx hb dX7_placeOf_99 rfl (lv_at hl 1 rfl) ?_
            refine lv_iconst (v := 1) hx hb dX7_placeOf_100 (by decide) ?_
            have hn2 := hp
            refine k_VR (As := [.int p1, .int 1]) (rest := []) (q := (6 + 7 * 0)) ⟨hx, hb, hml, hown, hts⟩ hKN hP hS (m_X0_readAt l D cI cB ad fu V 0 p1 1 (by decide : 0 < 6) hn2) (cwV 2 hts gX7_placeOf_X0_readAt rfl rfl rfl (by decide +kernel) ⟨(Nat.le_of_ble_eq_true rfl), (Nat.le_of_ble_eq_true rfl)⟩) (c_preV hP hKN (q := (6 + 7 * 0)) (ci := 0) (fs := [.ref (ad (6 + 7 * 0 + 1)), .ref (ad (6 + 7 * 0 + 3)), .ref (ad (6 + 7 * 0 + 4)), .ref (ad (6 + 7 * 0 + 5)), .ref (ad (6 + 7 * 0 + 6)), .int ((V (6 + 7 * 0)) 5), .int ((V (6 + 7 * 0)) 6), .int ((V (6 + 7 * 0)) 0), .int ((V (6 + 7 * 0)) 1), .int ((V (6 + 7 * 0)) 2), .int ((V (6 + 7 * 0)) 3), .int ((V (6 + 7 * 0)) 4)]) (by decide) (ce_bd ad cI cB (by decide : 0 < 6) (V (6 + 7 * 0))) rfl rfl) rfl hl.1 rfl (Nat.le_of_ble_eq_true rfl) dX7_placeOf_101 ⟨Nat.zero_le _, Nat.zero_le _⟩ (fun H locs hP hS => ?_)
            refine k_SR (As := [.int (f_X0_readAt fu V 0 p1 1)]) (rest := []) ⟨hx, hb, hml, hown, hts⟩ hKN hP hS (m_X7_foundOrNot l D cI cB ad V (f_X0_readAt fu V 0 p1 1)) (va_cwS 1 hts gX7_placeOf_X7_foundOrNot rfl rfl rfl (by decide +kernel) ⟨(Nat.le_of_ble_eq_true rfl), (Nat.le_of_ble_eq_true rfl)⟩) rfl hl.1 rfl (Nat.le_of_ble_eq_true rfl) dX7_placeOf_104 ⟨Nat.zero_le _, Nat.zero_le _⟩ (fun H locs hP hS => ?_)
            exact W.iret (v := (f_X7_foundOrNot V (f_X0_readAt fu V 0 p1 1))) hx hb hr (fun t ht hW => ⟨⟨(f_X7_foundOrNot V (f_X0_readAt fu V 0 p1 1)), (), rfl, hE.symm, trivial⟩, hS.F ht⟩) hS.2.2 dX7_placeOf_107
          · have hE := hE.trans (if_neg c5)
            have hp := pc_bn hp c5
            rcases Decidable.em (p2 = 4) with c6 | c6
            · have hE := hE.trans (if_pos c6)
              refine lv_tableIn (off := 92) (tgt := 108) hx hb dX7_placeOf_16 (by rw [c6]; decide) (by rw [c6]; decide) (by rw [c6]; rfl) (by decide) ?_
              refine lv_aload_n hx hb dX7_placeOf_108 rfl (lv_at hl 0 rfl) ?_
              refine x_get (ci := 5) (fs := [.ref (ad 6), .ref (ad 13), .ref (ad 4), .ref (ad 2), .ref (ad 1), .int ((V 0) 0)]) (q := 0) (v := .ref (ad 6)) (N := 6) hx hb hts (fun _ h => List.mem_cons_of_mem _ (List.mem_append_left _ (List.mem_append_left _ (List.mem_append_right _ h)))) hown hK hP (by decide) (ce_tb ad cI cB (V 0)) rfl 0 (by decide) (hts (.fieldLink RX7 10 "TurnedBoards" "now" "LTurnedBoards$Board;") (List.mem_of_getElem? (i := 1) rfl)) rfl rfl dX7_placeOf_109 ?_
              refine lv_iload_n hx hb dX7_placeOf_112 rfl (lv_at hl 1 rfl) ?_
              refine lv_iconst (v := 0) hx hb dX7_placeOf_113 (by decide) ?_
              refine k_VR (As := [.int p1, .int 0]) (rest := []) (q := (6 + 7 * 0)) ⟨hx, hb, hml, hown, hts⟩ hKN hP hS (m_X0_wantedAt l D cI cB ad V 0 p1 0 (by decide : 0 < 6)) (cwV 2 hts gX7_placeOf_X0_wantedAt rfl rfl rfl (by decide +kernel) ⟨(Nat.le_of_ble_eq_true rfl), (Nat.le_of_ble_eq_true rfl)⟩) (c_preV hP hKN (q := (6 + 7 * 0)) (ci := 0) (fs := [.ref (ad (6 + 7 * 0 + 1)), .ref (ad (6 + 7 * 0 + 3)), .ref (ad (6 + 7 * 0 + 4)), .ref (ad (6 + 7 * 0 + 5)), .ref (ad (6 + 7 * 0 + 6)), .int ((V (6 + 7 * 0)) 5), .int ((V (6 + 7 * 0)) 6), .int ((V (6 + 7 * 0)) 0), .int ((V (6 + 7 * 0)) 1), .int ((V (6 + 7 * 0)) 2), .int ((V (6 + 7 * 0)) 3), .int ((V (6 + 7 * 0)) 4)]) (by decide) (ce_bd ad cI cB (by decide : 0 < 6) (V (6 + 7 * 0))) rfl rfl) rfl hl.1 rfl (Nat.le_of_ble_eq_true rfl) dX7_placeOf_114 ⟨Nat.zero_le _, Nat.zero_le _⟩ (fun H locs hP hS => ?_)
              exact W.iret (v := (f_X0_wantedAt V 0 p1 0)) hx hb hr (fun t ht hW => ⟨⟨(f_X0_wantedAt V 0 p1 0), (), rfl, hE.symm, trivial⟩, hS.F ht⟩) hS.2.2 dX7_placeOf_117
            · have hE := hE.trans (if_neg c6)
              have hp := pc_bn hp c6
              rcases Decidable.em (p2 = 5) with c7 | c7
              · have hE := hE.trans (if_pos c7)
                refine lv_tableIn (off := 102) (tgt := 118) hx hb dX7_placeOf_16 (by rw [c7]; decide) (by rw [c7]; decide) (by rw [c7]; rfl) (by decide) ?_
                refine lv_aload_n hx hb dX7_placeOf_118 rfl (lv_at hl 0 rfl) ?_
                refine x_get (ci := 5) (fs := [.ref (ad 6), .ref (ad 13), .ref (ad 4), .ref (ad 2), .ref (ad 1), .int ((V 0) 0)]) (q := 0) (v := .ref (ad 6)) (N := 6) hx hb hts (fun _ h => List.mem_cons_of_mem _ (List.mem_append_left _ (List.mem_append_left _ (List.mem_append_right _ h)))) hown hK hP (by decide) (ce_tb ad cI cB (V 0)) rfl 0 (by decide) (hts (.fieldLink RX7 10 "TurnedBoards" "now" "LTurnedBoards$Board;") (List.mem_of_getElem? (i := 1) rfl)) rfl rfl dX7_placeOf_119 ?_
                refine lv_iload_n hx hb dX7_placeOf_122 rfl (lv_at hl 1 rfl) ?_
                refine lv_iconst (v := 1) hx hb dX7_placeOf_123 (by decide) ?_
                refine k_VR (As := [.int p1, .int 1]) (rest := []) (q := (6 + 7 * 0)) ⟨hx, hb, hml, hown, hts⟩ hKN hP hS (m_X0_wantedAt l D cI cB ad V 0 p1 1 (by decide : 0 < 6)) (cwV 2 hts gX7_placeOf_X0_wantedAt rfl rfl rfl (by decide +kernel) ⟨(Nat.le_of_ble_eq_true rfl), (Nat.le_of_ble_eq_true rfl)⟩) (c_preV hP hKN (q := (6 + 7 * 0)) (ci := 0) (fs := [.ref (ad (6 + 7 * 0 + 1)), .ref (ad (6 + 7 * 0 + 3)), .ref (ad (6 + 7 * 0 + 4)), .ref (ad (6 + 7 * 0 + 5)), .ref (ad (6 + 7 * 0 + 6)), .int ((V (6 + 7 * 0)) 5), .int ((V (6 + 7 * 0)) 6), .int ((V (6 + 7 * 0)) 0), .int ((V (6 + 7 * 0)) 1), .int ((V (6 + 7 * 0)) 2), .int ((V (6 + 7 * 0)) 3), .int ((V (6 + 7 * 0)) 4)]) (by decide) (ce_bd ad cI cB (by decide : 0 < 6) (V (6 + 7 * 0))) rfl rfl) rfl hl.1 rfl (Nat.le_of_ble_eq_true rfl) dX7_placeOf_124 ⟨Nat.zero_le _, Nat.zero_le _⟩ (fun H locs hP hS => ?_)
                exact W.iret (v := (f_X0_wantedAt V 0 p1 1)) hx hb hr (fun t ht hW => ⟨⟨(f_X0_wantedAt V 0 p1 1), (), rfl, hE.symm, trivial⟩, hS.F ht⟩) hS.2.2 dX7_placeOf_127
              · have hE := hE.trans (if_neg c7)
                have hp := pc_bn hp c7
                rcases Decidable.em (p2 = 6) with c8 | c8
                · have hE := hE.trans (if_pos c8)
                  have hp := pc_br hp c8
                  refine lv_tableIn (off := 112) (tgt := 128) hx hb dX7_placeOf_16 (by rw [c8]; decide) (by rw [c8]; decide) (by rw [c8]; rfl) (by decide) ?_
                  refine lv_aload_n hx hb dX7_placeOf_128 rfl (lv_at hl 0 rfl) ?_
                  refine lv_iload_n hx hb dX7_placeOf_129 rfl (lv_at hl 1 rfl) ?_
                  refine lv_iconst (v := 0) hx hb dX7_placeOf_130 (by decide) ?_
                  have hn3 := hp
                  refine k_VR (As := [.int p1, .int 0]) (rest := []) (q := 0) ⟨hx, hb, hml, hown, hts⟩ hKN hP hS (m_X7_marginOrNot l D cI cB ad fu V p1 0 hn3) (cwV 2 hts gX7_placeOf_X7_marginOrNot rfl rfl rfl (by decide +kernel) ⟨(Nat.le_of_ble_eq_true rfl), (Nat.le_of_ble_eq_true rfl)⟩) (c_preV hP hKN (q := 0) (ci := 5) (fs := [.ref (ad 6), .ref (ad 13), .ref (ad 4), .ref (ad 2), .ref (ad 1), .int ((V 0) 0)]) (by decide) (ce_tb ad cI cB (V 0)) rfl rfl) rfl hl.1 rfl (Nat.le_of_ble_eq_true rfl) dX7_placeOf_131 ⟨Nat.zero_le _, Nat.zero_le _⟩ (fun H locs hP hS => ?_)
                  exact W.iret (v := (f_X7_marginOrNot fu V p1 0)) hx hb hr (fun t ht hW => ⟨⟨(f_X7_marginOrNot fu V p1 0), (), rfl, hE.symm, trivial⟩, hS.F ht⟩) hS.2.2 dX7_placeOf_134
                · have hE := hE.trans (if_neg c8)
                  have hp := pc_bn hp c8
                  rcases Decidable.em (p2 = 7) with c9 | c9
                  · have hE := hE.trans (if_pos c9)
                    have hp := pc_br hp c9
                    refine lv_tableIn (off := 119) (tgt := 135) hx hb dX7_placeOf_16 (by rw [c9]; decide) (by rw [c9]; decide) (by rw [c9]; rfl) (by decide) ?_
                    refine lv_aload_n hx hb dX7_placeOf_135 rfl (lv_at hl 0 rfl) ?_
                    refine lv_iload_n hx hb dX7_placeOf_136 rfl (lv_at hl 1 rfl) ?_
                    refine lv_iconst (v := 1) hx hb dX7_placeOf_137 (by decide) ?_
                    have hn4 := hp
                    refine k_VR (As := [.int p1, .int 1]) (rest := []) (q := 0) ⟨hx, hb, hml, hown, hts⟩ hKN hP hS (m_X7_marginOrNot l D cI cB ad fu V p1 1 hn4) (cwV 2 hts gX7_placeOf_X7_marginOrNot rfl rfl rfl (by decide +kernel) ⟨(Nat.le_of_ble_eq_true rfl), (Nat.le_of_ble_eq_true rfl)⟩) (c_preV hP hKN (q := 0) (ci := 5) (fs := [.ref (ad 6), .ref (ad 13), .ref (ad 4), .ref (ad 2), .ref (ad 1), .int ((V 0) 0)]) (by decide) (ce_tb ad cI cB (V 0)) rfl rfl) rfl hl.1 rfl (Nat.le_of_ble_eq_true rfl) dX7_placeOf_138 ⟨Nat.zero_le _, Nat.zero_le _⟩ (fun H locs hP hS => ?_)
                    exact W.iret (v := (f_X7_marginOrNot fu V p1 1)) hx hb hr (fun t ht hW => ⟨⟨(f_X7_marginOrNot fu V p1 1), (), rfl, hE.symm, trivial⟩, hS.F ht⟩) hS.2.2 dX7_placeOf_141
                  · have hE := hE.trans (if_neg c9)
                    refine lv_tableOut (tgt := 142) hx hb dX7_placeOf_16 (by have e0 := lv_neT (k := 0) (a := 0) c2 rfl; have e1 := lv_neT (k := 1) (a := 1) c3 rfl; have e2 := lv_neT (k := 2) (a := 2) c4 rfl; have e3 := lv_neT (k := 3) (a := 3) c5 rfl; have e4 := lv_neT (k := 4) (a := 4) c6 rfl; have e5 := lv_neT (k := 5) (a := 5) c7 rfl; have e6 := lv_neT (k := 6) (a := 6) c8 rfl; have e7 := lv_neT (k := 7) (a := 7) c9 rfl; omega) (by decide) ?_
                    refine lv_sipush (v := (-1001)) hx hb dX7_placeOf_142 (by decide) ?_
                    exact W.iret (v := (-1001)) hx hb hr (fun t ht hW => ⟨⟨(-1001), (), rfl, hE.symm, trivial⟩, hS.F ht⟩) hS.2.2 dX7_placeOf_145
  · have hE := hE.trans (if_pos c1)
    refine lv_sipush (v := (-1001)) hx hb dX7_placeOf_11 (by decide) ?_
    exact W.iret (v := (-1001)) hx hb hr (fun t ht hW => ⟨⟨(-1001), (), rfl, hE.symm, trivial⟩, hS.F ht⟩) hS.2.2 dX7_placeOf_14
def f_X7_reads (fu : Nat) (V : VT) (p1 : Int32) (p2 : Int32) : Int32 := (if (f_X7_isOneOfTwo V p1) = 0 then (-1001) else (if 0 ≤ p2 then (if p2 < (V (6 + 7 * 0) 0) then (if p1 = 0 then (f_X7_foundOrNot V (f_X0_readAt fu V 0 (f_X0_fromLeft V 0 p2 (f_X0_way V 0)) (f_X0_way V 0))) else (f_X7_foundOrNot V (f_X0_readAt fu V 0 (f_X0_fromLeft V 0 p2 (f_X7_otherWay V (f_X0_way V 0))) (f_X7_otherWay V (f_X0_way V 0))))) else (-1004)) else (-1001)))
def p_X7_reads (fu : Nat) (V : VT) (p1 : Int32) (p2 : Int32) : Prop := (((f_X7_isOneOfTwo V p1) = 0 → True) ∧ (¬ ((f_X7_isOneOfTwo V p1) = 0) → ((0 ≤ p2 → ((p2 < (V (6 + 7 * 0) 0) → ((p1 = 0 → (p_X0_readAt fu V 0 (f_X0_fromLeft V 0 p2 (f_X0_way V 0)) (f_X0_way V 0))) ∧ (¬ (p1 = 0) → (p_X0_readAt fu V 0 (f_X0_fromLeft V 0 p2 (f_X7_otherWay V (f_X0_way V 0))) (f_X7_otherWay V (f_X0_way V 0)))))) ∧ (¬ (p2 < (V (6 + 7 * 0) 0)) → True))) ∧ (¬ (0 ≤ p2) → True))))
set_option maxHeartbeats 4000000 in
set_option maxRecDepth 100000 in
theorem m_X7_reads (l : Launch) (D : va_G) (cI cB : ClassId) (ad : Nat → Nat) (fu : Nat) (V : VT) (p1 : Int32) (p2 : Int32)  (hp : p_X7_reads fu V p1 p2) : Met l yX7_reads wsX7_reads ({ frames := 3, cells := 0, slots := 0, locals := 68 }) (cP D cI cB ad V [.ref (ad 0), .int p1, .int p2]) (cR (f_X7_reads fu V p1 p2)) 0 0 (fun _ => False) := by
  refine Met.ofW (cc := cX7_reads) (maxL := 4) (ret := (some .int)) (by decide +kernel) rfl ?_
  intro p e s m args below meth c s₁ B hml hv
  obtain ⟨rfl, hP, hKN⟩ := hv
  have hK := hKN.1
  have hx := B.exec
  have hb := B.bytes
  have hr := B.returns
  have hts := atoms_spec (ws := wsX7_reads) B.pre
  have hown : s.vm.findClass RX7 = some m.cls := findClass_of_methodNamed B.named
  have hlocks := B.notSynchronized
  have hS : va_S (fun _ => False) s.heap s.heap [] := va_S.rf
  have hl := lv_entry ([.ref (ad 0), .int p1, .int p2]) (n := 4) (Nat.le_of_ble_eq_true rfl)
  rw [lg_entry_eq]
  generalize (lg_sl ([.ref (ad 0), .int p1, .int p2]) ++ List.replicate (4 - (lg_sl ([.ref (ad 0), .int p1, .int p2])).length) Slot.unset).toArray = ls at hl ⊢
  have hl : lv_has ls 4 [(0, .ref (ad 0)), (1, .int p1), (2, .int p2)] := hl
  have hE : f_X7_reads fu V p1 p2 = (if (f_X7_isOneOfTwo V p1) = 0 then (-1001) else (if 0 ≤ p2 then (if p2 < (V (6 + 7 * 0) 0) then (if p1 = 0 then (f_X7_foundOrNot V (f_X0_readAt fu V 0 (f_X0_fromLeft V 0 p2 (f_X0_way V 0)) (f_X0_way V 0))) else (f_X7_foundOrNot V (f_X0_readAt fu V 0 (f_X0_fromLeft V 0 p2 (f_X7_otherWay V (f_X0_way V 0))) (f_X7_otherWay V (f_X0_way V 0))))) else (-1004)) else (-1001))) := rfl
  refine lv_iload_n hx hb dX7_reads_0 rfl (lv_at hl 1 rfl) ?_
  refine k_SR (As := [.int p1]) (rest := []) ⟨hx, hb, hml, hown, hts⟩ hKN hP hS (m_X7_isOneOfTwo l D cI cB ad V p1) (va_cwS 1 hts gX7_reads_X7_isOneOfTwo rfl rfl rfl (by decide +kernel) ⟨(Nat.le_of_ble_eq_true rfl), (Nat.le_of_ble_eq_true rfl)⟩) rfl hl.1 rfl (Nat.le_of_ble_eq_true rfl) dX7_reads_1 ⟨Nat.zero_le _, Nat.zero_le _⟩ (fun H locs hP hS => ?_)
  refine lv_if_eq (tgt := 11) hx hb dX7_reads_4 (by decide) (fun c1 => ?_) (fun c1 => ?_)
  · have hE := hE.trans (if_pos c1)
    refine lv_sipush (v := (-1001)) hx hb dX7_reads_11 (by decide) ?_
    exact W.iret (v := (-1001)) hx hb hr (fun t ht hW => ⟨⟨(-1001), (), rfl, hE.symm, trivial⟩, hS.F ht⟩) hS.2.2 dX7_reads_14
  · have hE := hE.trans (if_neg c1)
    have hp := pc_bn hp c1
    refine lv_iload_n hx hb dX7_reads_7 rfl (lv_at hl 2 rfl) ?_
    refine lv_if_ge (tgt := 15) hx hb dX7_reads_8 (by decide) (fun c2 => ?_) (fun c2 => ?_)
    · have hE := hE.trans (if_pos c2)
      have hp := pc_br hp c2
      refine lv_iload_n hx hb dX7_reads_15 rfl (lv_at hl 2 rfl) ?_
      refine lv_aload_n hx hb dX7_reads_16 rfl (lv_at hl 0 rfl) ?_
      refine x_get (ci := 5) (fs := [.ref (ad 6), .ref (ad 13), .ref (ad 4), .ref (ad 2), .ref (ad 1), .int ((V 0) 0)]) (q := 0) (v := .ref (ad 6)) (N := 6) hx hb hts (fun _ h => List.mem_cons_of_mem _ (List.mem_append_left _ (List.mem_append_left _ (List.mem_append_right _ h)))) hown hK hP (by decide) (ce_tb ad cI cB (V 0)) rfl 0 (by decide) (hts (.fieldLink RX7 10 "TurnedBoards" "now" "LTurnedBoards$Board;") (List.mem_of_getElem? (i := 1) rfl)) rfl rfl dX7_reads_17 ?_
      refine x_getN (ci := 0) (fs := [.ref (ad (6 + 7 * 0 + 1)), .ref (ad (6 + 7 * 0 + 3)), .ref (ad (6 + 7 * 0 + 4)), .ref (ad (6 + 7 * 0 + 5)), .ref (ad (6 + 7 * 0 + 6)), .int ((V (6 + 7 * 0)) 5), .int ((V (6 + 7 * 0)) 6), .int ((V (6 + 7 * 0)) 0), .int ((V (6 + 7 * 0)) 1), .int ((V (6 + 7 * 0)) 2), .int ((V (6 + 7 * 0)) 3), .int ((V (6 + 7 * 0)) 4)]) (q := (6 + 7 * 0)) (v := .int (V (6 + 7 * 0) 0)) (N := 12) hx hb hts (fun _ h => List.mem_cons_of_mem _ (List.mem_append_left _ (List.mem_append_right _ h))) hown hK hP (by decide) (ce_bd ad cI cB (by decide : 0 < 6) (V (6 + 7 * 0))) rfl 7 (by decide) (hKN.2.1 (.fieldLinkNest RX7 88 "TurnedBoards$Board" "places" "I" "TurnedBoards") (List.mem_of_getElem? (i := 4) rfl)) rfl rfl dX7_reads_20 ?_
      refine lv_icmp_lt (tgt := 30) hx hb dX7_reads_23 (by decide) (fun c3 => ?_) (fun c3 => ?_)
      · have hE := hE.trans (if_pos c3)
        have hp := pc_br hp c3
        refine lv_iload_n hx hb dX7_reads_30 rfl (lv_at hl 1 rfl) ?_
        refine lv_if_ne (tgt := 44) hx hb dX7_reads_31 (by decide) (fun c4 => ?_) (fun c4 => ?_)
        · have hE := hE.trans (if_neg c4)
          have hp := pc_bn hp c4
          refine lv_aload_n hx hb dX7_reads_44 rfl (lv_at hl 0 rfl) ?_
          refine x_get (ci := 5) (fs := [.ref (ad 6), .ref (ad 13), .ref (ad 4), .ref (ad 2), .ref (ad 1), .int ((V 0) 0)]) (q := 0) (v := .ref (ad 6)) (N := 6) hx hb hts (fun _ h => List.mem_cons_of_mem _ (List.mem_append_left _ (List.mem_append_left _ (List.mem_append_right _ h)))) hown hK hP (by decide) (ce_tb ad cI cB (V 0)) rfl 0 (by decide) (hts (.fieldLink RX7 10 "TurnedBoards" "now" "LTurnedBoards$Board;") (List.mem_of_getElem? (i := 1) rfl)) rfl rfl dX7_reads_45 ?_
          refine k_VR (As := []) (rest := []) (q := (6 + 7 * 0)) ⟨hx, hb, hml, hown, hts⟩ hKN hP hS (m_X0_way l D cI cB ad V 0 (by decide : 0 < 6)) (cwV 0 hts gX7_reads_X0_way rfl rfl rfl (by decide +kernel) ⟨(Nat.le_of_ble_eq_true rfl), (Nat.le_of_ble_eq_true rfl)⟩) (c_preV hP hKN (q := (6 + 7 * 0)) (ci := 0) (fs := [.ref (ad (6 + 7 * 0 + 1)), .ref (ad (6 + 7 * 0 + 3)), .ref (ad (6 + 7 * 0 + 4)), .ref (ad (6 + 7 * 0 + 5)), .ref (ad (6 + 7 * 0 + 6)), .int ((V (6 + 7 * 0)) 5), .int ((V (6 + 7 * 0)) 6), .int ((V (6 + 7 * 0)) 0), .int ((V (6 + 7 * 0)) 1), .int ((V (6 + 7 * 0)) 2), .int ((V (6 + 7 * 0)) 3), .int ((V (6 + 7 * 0)) 4)]) (by decide) (ce_bd ad cI cB (by decide : 0 < 6) (V (6 + 7 * 0))) rfl rfl) rfl hl.1 rfl (Nat.le_of_ble_eq_true rfl) dX7_reads_48 ⟨Nat.zero_le _, Nat.zero_le _⟩ (fun H locs hP hS => ?_)
          refine k_SR (As := [.int (f_X0_way V 0)]) (rest := []) ⟨hx, hb, hml, hown, hts⟩ hKN hP hS (m_X7_otherWay l D cI cB ad V (f_X0_way V 0)) (va_cwS 1 hts gX7_reads_X7_otherWay rfl rfl rfl (by decide +kernel) ⟨(Nat.le_of_ble_eq_true rfl), (Nat.le_of_ble_eq_true rfl)⟩) rfl hl.1 rfl (Nat.le_of_ble_eq_true rfl) dX7_reads_51 ⟨Nat.zero_le _, Nat.zero_le _⟩ (fun H locs hP hS => ?_)
          refine lv_istore_n (lv' := [(3, .int (f_X7_otherWay V (f_X0_way V 0))), (0, .ref (ad 0)), (1, .int p1), (2, .int p2)]) hx hb dX7_reads_54 rfl hl (by decide) rfl (fun ls hl => ?_)
          refine lv_aload_n hx hb dX7_reads_55 rfl (lv_at hl 1 rfl) ?_
          refine x_get (ci := 5) (fs := [.ref (ad 6), .ref (ad 13), .ref (ad 4), .ref (ad 2), .ref (ad 1), .int ((V 0) 0)]) (q := 0) (v := .ref (ad 6)) (N := 6) hx hb hts (fun _ h => List.mem_cons_of_mem _ (List.mem_append_left _ (List.mem_append_left _ (List.mem_append_right _ h)))) hown hK hP (by decide) (ce_tb ad cI cB (V 0)) rfl 0 (by decide) (hts (.fieldLink RX7 10 "TurnedBoards" "now" "LTurnedBoards$Board;") (List.mem_of_getElem? (i := 1) rfl)) rfl rfl dX7_reads_56 ?_
          refine lv_aload_n hx hb dX7_reads_59 rfl (lv_at hl 1 rfl) ?_
          refine x_get (ci := 5) (fs := [.ref (ad 6), .ref (ad 13), .ref (ad 4), .ref (ad 2), .ref (ad 1), .int ((V 0) 0)]) (q := 0) (v := .ref (ad 6)) (N := 6) hx hb hts (fun _ h => List.mem_cons_of_mem _ (List.mem_append_left _ (List.mem_append_left _ (List.mem_append_right _ h)))) hown hK hP (by decide) (ce_tb ad cI cB (V 0)) rfl 0 (by decide) (hts (.fieldLink RX7 10 "TurnedBoards" "now" "LTurnedBoards$Board;") (List.mem_of_getElem? (i := 1) rfl)) rfl rfl dX7_reads_60 ?_
          refine lv_iload_n hx hb dX7_reads_63 rfl (lv_at hl 3 rfl) ?_
          refine lv_iload_n hx hb dX7_reads_64 rfl (lv_at hl 0 rfl) ?_
          refine k_VR (As := [.int p2, .int (f_X7_otherWay V (f_X0_way V 0))]) (rest := [.ref (ad 6)]) (q := (6 + 7 * 0)) ⟨hx, hb, hml, hown, hts⟩ hKN hP hS (m_X0_fromLeft l D cI cB ad V 0 p2 (f_X7_otherWay V (f_X0_way V 0)) (by decide : 0 < 6)) (cwV 2 hts gX7_reads_X0_fromLeft rfl rfl rfl (by decide +kernel) ⟨(Nat.le_of_ble_eq_true rfl), (Nat.le_of_ble_eq_true rfl)⟩) (c_preV hP hKN (q := (6 + 7 * 0)) (ci := 0) (fs := [.ref (ad (6 + 7 * 0 + 1)), .ref (ad (6 + 7 * 0 + 3)), .ref (ad (6 + 7 * 0 + 4)), .ref (ad (6 + 7 * 0 + 5)), .ref (ad (6 + 7 * 0 + 6)), .int ((V (6 + 7 * 0)) 5), .int ((V (6 + 7 * 0)) 6), .int ((V (6 + 7 * 0)) 0), .int ((V (6 + 7 * 0)) 1), .int ((V (6 + 7 * 0)) 2), .int ((V (6 + 7 * 0)) 3), .int ((V (6 + 7 * 0)) 4)]) (by decide) (ce_bd ad cI cB (by decide : 0 < 6) (V (6 + 7 * 0))) rfl rfl) rfl hl.1 rfl (Nat.le_of_ble_eq_true rfl) dX7_reads_65 ⟨Nat.zero_le _, Nat.zero_le _⟩ (fun H locs hP hS => ?_)
          refine lv_iload_n hx hb dX7_reads_68 rfl (lv_at hl 0 rfl) ?_
          have hn2 := hp
          refine k_VR (As := [.int (f_X0_fromLeft V 0 p2 (f_X7_otherWay V (f_X0_way V 0))), .int (f_X7_otherWay V (f_X0_way V 0))]) (rest := []) (q := (6 + 7 * 0)) ⟨hx, hb, hml, hown, hts⟩ hKN hP hS (m_X0_readAt l D cI cB ad fu V 0 (f_X0_fromLeft V 0 p2 (f_X7_otherWay V (f_X0_way V 0))) (f_X7_otherWay V (f_X0_way V 0)) (by decide : 0 < 6) hn2) (cwV 2 hts gX7_reads_X0_readAt rfl rfl rfl (by decide +kernel) ⟨(Nat.le_of_ble_eq_true rfl), (Nat.le_of_ble_eq_true rfl)⟩) (c_preV hP hKN (q := (6 + 7 * 0)) (ci := 0) (fs := [.ref (ad (6 + 7 * 0 + 1)), .ref (ad (6 + 7 * 0 + 3)), .ref (ad (6 + 7 * 0 + 4)), .ref (ad (6 + 7 * 0 + 5)), .ref (ad (6 + 7 * 0 + 6)), .int ((V (6 + 7 * 0)) 5), .int ((V (6 + 7 * 0)) 6), .int ((V (6 + 7 * 0)) 0), .int ((V (6 + 7 * 0)) 1), .int ((V (6 + 7 * 0)) 2), .int ((V (6 + 7 * 0)) 3), .int ((V (6 + 7 * 0)) 4)]) (by decide) (ce_bd ad cI cB (by decide : 0 < 6) (V (6 + 7 * 0))) rfl rfl) rfl hl.1 rfl (Nat.le_of_ble_eq_true rfl) dX7_reads_69 ⟨Nat.zero_le _, Nat.zero_le _⟩ (fun H locs hP hS => ?_)
          refine k_SR (As := [.int (f_X0_readAt fu V 0 (f_X0_fromLeft V 0 p2 (f_X7_otherWay V (f_X0_way V 0))) (f_X7_otherWay V (f_X0_way V 0)))]) (rest := []) ⟨hx, hb, hml, hown, hts⟩ hKN hP hS (m_X7_foundOrNot l D cI cB ad V (f_X0_readAt fu V 0 (f_X0_fromLeft V 0 p2 (f_X7_otherWay V (f_X0_way V 0))) (f_X7_otherWay V (f_X0_way V 0)))) (va_cwS 1 hts gX7_reads_X7_foundOrNot rfl rfl rfl (by decide +kernel) ⟨(Nat.le_of_ble_eq_true rfl), (Nat.le_of_ble_eq_true rfl)⟩) rfl hl.1 rfl (Nat.le_of_ble_eq_true rfl) dX7_reads_72 ⟨Nat.zero_le _, Nat.zero_le _⟩ (fun H locs hP hS => ?_)
          exact W.iret (v := (f_X7_foundOrNot V (f_X0_readAt fu V 0 (f_X0_fromLeft V 0 p2 (f_X7_otherWay V (f_X0_way V 0))) (f_X7_otherWay V (f_X0_way V 0))))) hx hb hr (fun t ht hW => ⟨⟨(f_X7_foundOrNot V (f_X0_readAt fu V 0 (f_X0_fromLeft V 0 p2 (f_X7_otherWay V (f_X0_way V 0))) (f_X7_otherWay V (f_X0_way V 0)))), (), rfl, hE.symm, trivial⟩, hS.F ht⟩) hS.2.2 dX7_reads_75
        · have hE := hE.trans (if_pos c4)
          have hp := pc_br hp c4
          refine lv_aload_n hx hb dX7_reads_34 rfl (lv_at hl 0 rfl) ?_
          refine x_get (ci := 5) (fs := [.ref (ad 6), .ref (ad 13), .ref (ad 4), .ref (ad 2), .ref (ad 1), .int ((V 0) 0)]) (q := 0) (v := .ref (ad 6)) (N := 6) hx hb hts (fun _ h => List.mem_cons_of_mem _ (List.mem_append_left _ (List.mem_append_left _ (List.mem_append_right _ h)))) hown hK hP (by decide) (ce_tb ad cI cB (V 0)) rfl 0 (by decide) (hts (.fieldLink RX7 10 "TurnedBoards" "now" "LTurnedBoards$Board;") (List.mem_of_getElem? (i := 1) rfl)) rfl rfl dX7_reads_35 ?_
          refine k_VR (As := []) (rest := []) (q := (6 + 7 * 0)) ⟨hx, hb, hml, hown, hts⟩ hKN hP hS (m_X0_way l D cI cB ad V 0 (by decide : 0 < 6)) (cwV 0 hts gX7_reads_X0_way rfl rfl rfl (by decide +kernel) ⟨(Nat.le_of_ble_eq_true rfl), (Nat.le_of_ble_eq_true rfl)⟩) (c_preV hP hKN (q := (6 + 7 * 0)) (ci := 0) (fs := [.ref (ad (6 + 7 * 0 + 1)), .ref (ad (6 + 7 * 0 + 3)), .ref (ad (6 + 7 * 0 + 4)), .ref (ad (6 + 7 * 0 + 5)), .ref (ad (6 + 7 * 0 + 6)), .int ((V (6 + 7 * 0)) 5), .int ((V (6 + 7 * 0)) 6), .int ((V (6 + 7 * 0)) 0), .int ((V (6 + 7 * 0)) 1), .int ((V (6 + 7 * 0)) 2), .int ((V (6 + 7 * 0)) 3), .int ((V (6 + 7 * 0)) 4)]) (by decide) (ce_bd ad cI cB (by decide : 0 < 6) (V (6 + 7 * 0))) rfl rfl) rfl hl.1 rfl (Nat.le_of_ble_eq_true rfl) dX7_reads_38 ⟨Nat.zero_le _, Nat.zero_le _⟩ (fun H locs hP hS => ?_)
          refine lv_goto (tgt := 54) hx hb dX7_reads_41 (by decide) ?_
          refine lv_istore_n (lv' := [(3, .int (f_X0_way V 0)), (0, .ref (ad 0)), (1, .int p1), (2, .int p2)]) hx hb dX7_reads_54 rfl hl (by decide) rfl (fun ls hl => ?_)
          refine lv_aload_n hx hb dX7_reads_55 rfl (lv_at hl 1 rfl) ?_
          refine x_get (ci := 5) (fs := [.ref (ad 6), .ref (ad 13), .ref (ad 4), .ref (ad 2), .ref (ad 1), .int ((V 0) 0)]) (q := 0) (v := .ref (ad 6)) (N := 6) hx hb hts (fun _ h => List.mem_cons_of_mem _ (List.mem_append_left _ (List.mem_append_left _ (List.mem_append_right _ h)))) hown hK hP (by decide) (ce_tb ad cI cB (V 0)) rfl 0 (by decide) (hts (.fieldLink RX7 10 "TurnedBoards" "now" "LTurnedBoards$Board;") (List.mem_of_getElem? (i := 1) rfl)) rfl rfl dX7_reads_56 ?_
          refine lv_aload_n hx hb dX7_reads_59 rfl (lv_at hl 1 rfl) ?_
          refine x_get (ci := 5) (fs := [.ref (ad 6), .ref (ad 13), .ref (ad 4), .ref (ad 2), .ref (ad 1), .int ((V 0) 0)]) (q := 0) (v := .ref (ad 6)) (N := 6) hx hb hts (fun _ h => List.mem_cons_of_mem _ (List.mem_append_left _ (List.mem_append_left _ (List.mem_append_right _ h)))) hown hK hP (by decide) (ce_tb ad cI cB (V 0)) rfl 0 (by decide) (hts (.fieldLink RX7 10 "TurnedBoards" "now" "LTurnedBoards$Board;") (List.mem_of_getElem? (i := 1) rfl)) rfl rfl dX7_reads_60 ?_
          refine lv_iload_n hx hb dX7_reads_63 rfl (lv_at hl 3 rfl) ?_
          refine lv_iload_n hx hb dX7_reads_64 rfl (lv_at hl 0 rfl) ?_
          refine k_VR (As := [.int p2, .int (f_X0_way V 0)]) (rest := [.ref (ad 6)]) (q := (6 + 7 * 0)) ⟨hx, hb, hml, hown, hts⟩ hKN hP hS (m_X0_fromLeft l D cI cB ad V 0 p2 (f_X0_way V 0) (by decide : 0 < 6)) (cwV 2 hts gX7_reads_X0_fromLeft rfl rfl rfl (by decide +kernel) ⟨(Nat.le_of_ble_eq_true rfl), (Nat.le_of_ble_eq_true rfl)⟩) (c_preV hP hKN (q := (6 + 7 * 0)) (ci := 0) (fs := [.ref (ad (6 + 7 * 0 + 1)), .ref (ad (6 + 7 * 0 + 3)), .ref (ad (6 + 7 * 0 + 4)), .ref (ad (6 + 7 * 0 + 5)), .ref (ad (6 + 7 * 0 + 6)), .int ((V (6 + 7 * 0)) 5), .int ((V (6 + 7 * 0)) 6), .int ((V (6 + 7 * 0)) 0), .int ((V (6 + 7 * 0)) 1), .int ((V (6 + 7 * 0)) 2), .int ((V (6 + 7 * 0)) 3), .int ((V (6 + 7 * 0)) 4)]) (by decide) (ce_bd ad cI cB (by decide : 0 < 6) (V (6 + 7 * 0))) rfl rfl) rfl hl.1 rfl (Nat.le_of_ble_eq_true rfl) dX7_reads_65 ⟨Nat.zero_le _, Nat.zero_le _⟩ (fun H locs hP hS => ?_)
          refine lv_iload_n hx hb dX7_reads_68 rfl (lv_at hl 0 rfl) ?_
          have hn1 := hp
          refine k_VR (As := [.int (f_X0_fromLeft V 0 p2 (f_X0_way V 0)), .int (f_X0_way V 0)]) (rest := []) (q := (6 + 7 * 0)) ⟨hx, hb, hml, hown, hts⟩ hKN hP hS (m_X0_readAt l D cI cB ad fu V 0 (f_X0_fromLeft V 0 p2 (f_X0_way V 0)) (f_X0_way V 0) (by decide : 0 < 6) hn1) (cwV 2 hts gX7_reads_X0_readAt rfl rfl rfl (by decide +kernel) ⟨(Nat.le_of_ble_eq_true rfl), (Nat.le_of_ble_eq_true rfl)⟩) (c_preV hP hKN (q := (6 + 7 * 0)) (ci := 0) (fs := [.ref (ad (6 + 7 * 0 + 1)), .ref (ad (6 + 7 * 0 + 3)), .ref (ad (6 + 7 * 0 + 4)), .ref (ad (6 + 7 * 0 + 5)), .ref (ad (6 + 7 * 0 + 6)), .int ((V (6 + 7 * 0)) 5), .int ((V (6 + 7 * 0)) 6), .int ((V (6 + 7 * 0)) 0), .int ((V (6 + 7 * 0)) 1), .int ((V (6 + 7 * 0)) 2), .int ((V (6 + 7 * 0)) 3), .int ((V (6 + 7 * 0)) 4)]) (by decide) (ce_bd ad cI cB (by decide : 0 < 6) (V (6 + 7 * 0))) rfl rfl) rfl hl.1 rfl (Nat.le_of_ble_eq_true rfl) dX7_reads_69 ⟨Nat.zero_le _, Nat.zero_le _⟩ (fun H locs hP hS => ?_)
          refine k_SR (As := [.int (f_X0_readAt fu V 0 (f_X0_fromLeft V 0 p2 (f_X0_way V 0)) (f_X0_way V 0))]) (rest := []) ⟨hx, hb, hml, hown, hts⟩ hKN hP hS (m_X7_foundOrNot l D cI cB ad V (f_X0_readAt fu V 0 (f_X0_fromLeft V 0 p2 (f_X0_way V 0)) (f_X0_way V 0))) (va_cwS 1 hts gX7_reads_X7_foundOrNot rfl rfl rfl (by decide +kernel) ⟨(Nat.le_of_ble_eq_true rfl), (Nat.le_of_ble_eq_true rfl)⟩) rfl hl.1 rfl (Nat.le_of_ble_eq_true rfl) dX7_reads_72 ⟨Nat.zero_le _, Nat.zero_le _⟩ (fun H locs hP hS => ?_)
          exact W.iret (v := (f_X7_foundOrNot V (f_X0_readAt fu V 0 (f_X0_fromLeft V 0 p2 (f_X0_way V 0)) (f_X0_way V 0)))) hx hb hr (fun t ht hW => ⟨⟨(f_X7_foundOrNot V (f_X0_readAt fu V 0 (f_X0_fromLeft V 0 p2 (f_X0_way V 0)) (f_X0_way V 0))), (), rfl, hE.symm, trivial⟩, hS.F ht⟩) hS.2.2 dX7_reads_75
      · have hE := hE.trans (if_neg c3)
        refine lv_sipush (v := (-1004)) hx hb dX7_reads_26 (by decide) ?_
        exact W.iret (v := (-1004)) hx hb hr (fun t ht hW => ⟨⟨(-1004), (), rfl, hE.symm, trivial⟩, hS.F ht⟩) hS.2.2 dX7_reads_29
    · have hE := hE.trans (if_neg c2)
      refine lv_sipush (v := (-1001)) hx hb dX7_reads_11 (by decide) ?_
      exact W.iret (v := (-1001)) hx hb hr (fun t ht hW => ⟨⟨(-1001), (), rfl, hE.symm, trivial⟩, hS.F ht⟩) hS.2.2 dX7_reads_14
def f_X7_word (fu : Nat) (V : VT) (p1 : Int32) (p2 : Int32) : Int32 := (if (f_X7_isOneOfTwo V p1) = 0 then (-1001) else (if p2 = 0 then (if (f_X0_misread fu V 0 p1) = 0 then (f_X7_asNumber V 1) else (f_X7_asNumber V 0)) else (if p2 = 1 then (f_X0_misread fu V 0 p1) else (if p2 = 2 then (if (f_X0_way V 0) = p1 then (f_X7_asNumber V 1) else (f_X7_asNumber V 0)) else (if p2 < 10 then (-1001) else (if (p2 - 10) < (V (6 + 7 * 0) 0) then (f_X0_letterIn V 0 p1 (p2 - 10)) else (-1001)))))))
def p_X7_word (fu : Nat) (V : VT) (p1 : Int32) (p2 : Int32) : Prop := (((f_X7_isOneOfTwo V p1) = 0 → True) ∧ (¬ ((f_X7_isOneOfTwo V p1) = 0) → ((p2 = 0 → (p_X0_misread fu V 0 p1)) ∧ (¬ (p2 = 0) → ((p2 = 1 → (p_X0_misread fu V 0 p1)) ∧ (¬ (p2 = 1) → True))))))
set_option maxHeartbeats 4000000 in
set_option maxRecDepth 100000 in
theorem m_X7_word (l : Launch) (D : va_G) (cI cB : ClassId) (ad : Nat → Nat) (fu : Nat) (V : VT) (p1 : Int32) (p2 : Int32)  (hp : p_X7_word fu V p1 p2) : Met l yX7_word wsX7_word ({ frames := 4, cells := 0, slots := 0, locals := 91 }) (cP D cI cB ad V [.ref (ad 0), .int p1, .int p2]) (cR (f_X7_word fu V p1 p2)) 0 0 (fun _ => False) := by
  refine Met.ofW (cc := cX7_word) (maxL := 3) (ret := (some .int)) (by decide +kernel) rfl ?_
  intro p e s m args below meth c s₁ B hml hv
  obtain ⟨rfl, hP, hKN⟩ := hv
  have hK := hKN.1
  have hx := B.exec
  have hb := B.bytes
  have hr := B.returns
  have hts := atoms_spec (ws := wsX7_word) B.pre
  have hown : s.vm.findClass RX7 = some m.cls := findClass_of_methodNamed B.named
  have hlocks := B.notSynchronized
  have hS : va_S (fun _ => False) s.heap s.heap [] := va_S.rf
  have hl := lv_entry ([.ref (ad 0), .int p1, .int p2]) (n := 3) (Nat.le_of_ble_eq_true rfl)
  rw [lg_entry_eq]
  generalize (lg_sl ([.ref (ad 0), .int p1, .int p2]) ++ List.replicate (3 - (lg_sl ([.ref (ad 0), .int p1, .int p2])).length) Slot.unset).toArray = ls at hl ⊢
  have hl : lv_has ls 3 [(0, .ref (ad 0)), (1, .int p1), (2, .int p2)] := hl
  have hE : f_X7_word fu V p1 p2 = (if (f_X7_isOneOfTwo V p1) = 0 then (-1001) else (if p2 = 0 then (if (f_X0_misread fu V 0 p1) = 0 then (f_X7_asNumber V 1) else (f_X7_asNumber V 0)) else (if p2 = 1 then (f_X0_misread fu V 0 p1) else (if p2 = 2 then (if (f_X0_way V 0) = p1 then (f_X7_asNumber V 1) else (f_X7_asNumber V 0)) else (if p2 < 10 then (-1001) else (if (p2 - 10) < (V (6 + 7 * 0) 0) then (f_X0_letterIn V 0 p1 (p2 - 10)) else (-1001))))))) := rfl
  refine lv_iload_n hx hb dX7_word_0 rfl (lv_at hl 1 rfl) ?_
  refine k_SR (As := [.int p1]) (rest := []) ⟨hx, hb, hml, hown, hts⟩ hKN hP hS (m_X7_isOneOfTwo l D cI cB ad V p1) (va_cwS 1 hts gX7_word_X7_isOneOfTwo rfl rfl rfl (by decide +kernel) ⟨(Nat.le_of_ble_eq_true rfl), (Nat.le_of_ble_eq_true rfl)⟩) rfl hl.1 rfl (Nat.le_of_ble_eq_true rfl) dX7_word_1 ⟨Nat.zero_le _, Nat.zero_le _⟩ (fun H locs hP hS => ?_)
  refine lv_if_ne (tgt := 11) hx hb dX7_word_4 (by decide) (fun c1 => ?_) (fun c1 => ?_)
  · have hE := hE.trans (if_neg c1)
    have hp := pc_bn hp c1
    refine lv_iload_n hx hb dX7_word_11 rfl (lv_at hl 2 rfl) ?_
    rcases Decidable.em (p2 = 0) with c2 | c2
    · have hE := hE.trans (if_pos c2)
      have hp := pc_br hp c2
      refine lv_tableIn (off := 28) (tgt := 40) hx hb dX7_word_12 (by rw [c2]; decide) (by rw [c2]; decide) (by rw [c2]; rfl) (by decide) ?_
      refine lv_aload_n hx hb dX7_word_40 rfl (lv_at hl 0 rfl) ?_
      refine x_get (ci := 5) (fs := [.ref (ad 6), .ref (ad 13), .ref (ad 4), .ref (ad 2), .ref (ad 1), .int ((V 0) 0)]) (q := 0) (v := .ref (ad 6)) (N := 6) hx hb hts (fun _ h => List.mem_cons_of_mem _ (List.mem_append_left _ (List.mem_append_left _ (List.mem_append_right _ h)))) hown hK hP (by decide) (ce_tb ad cI cB (V 0)) rfl 0 (by decide) (hts (.fieldLink RX7 10 "TurnedBoards" "now" "LTurnedBoards$Board;") (List.mem_of_getElem? (i := 1) rfl)) rfl rfl dX7_word_41 ?_
      refine lv_iload_n hx hb dX7_word_44 rfl (lv_at hl 1 rfl) ?_
      have hn1 := hp
      refine k_VR (As := [.int p1]) (rest := []) (q := (6 + 7 * 0)) ⟨hx, hb, hml, hown, hts⟩ hKN hP hS (m_X0_misread l D cI cB ad fu V 0 p1 (by decide : 0 < 6) hn1) (cwV 1 hts gX7_word_X0_misread rfl rfl rfl (by decide +kernel) ⟨(Nat.le_of_ble_eq_true rfl), (Nat.le_of_ble_eq_true rfl)⟩) (c_preV hP hKN (q := (6 + 7 * 0)) (ci := 0) (fs := [.ref (ad (6 + 7 * 0 + 1)), .ref (ad (6 + 7 * 0 + 3)), .ref (ad (6 + 7 * 0 + 4)), .ref (ad (6 + 7 * 0 + 5)), .ref (ad (6 + 7 * 0 + 6)), .int ((V (6 + 7 * 0)) 5), .int ((V (6 + 7 * 0)) 6), .int ((V (6 + 7 * 0)) 0), .int ((V (6 + 7 * 0)) 1), .int ((V (6 + 7 * 0)) 2), .int ((V (6 + 7 * 0)) 3), .int ((V (6 + 7 * 0)) 4)]) (by decide) (ce_bd ad cI cB (by decide : 0 < 6) (V (6 + 7 * 0))) rfl rfl) rfl hl.1 rfl (Nat.le_of_ble_eq_true rfl) dX7_word_45 ⟨Nat.zero_le _, Nat.zero_le _⟩ (fun H locs hP hS => ?_)
      refine lv_if_ne (tgt := 55) hx hb dX7_word_48 (by decide) (fun c3 => ?_) (fun c3 => ?_)
      · have hE := hE.trans (if_neg c3)
        refine lv_iconst (v := 0) hx hb dX7_word_55 (by decide) ?_
        refine k_SR (As := [.int 0]) (rest := []) ⟨hx, hb, hml, hown, hts⟩ hKN hP hS (m_X7_asNumber l D cI cB ad V 0) (va_cwS 1 hts gX7_word_X7_asNumber rfl rfl rfl (by decide +kernel) ⟨(Nat.le_of_ble_eq_true rfl), (Nat.le_of_ble_eq_true rfl)⟩) rfl hl.1 rfl (Nat.le_of_ble_eq_true rfl) dX7_word_56 ⟨Nat.zero_le _, Nat.zero_le _⟩ (fun H locs hP hS => ?_)
        exact W.iret (v := (f_X7_asNumber V 0)) hx hb hr (fun t ht hW => ⟨⟨(f_X7_asNumber V 0), (), rfl, hE.symm, trivial⟩, hS.F ht⟩) hS.2.2 dX7_word_59
      · have hE := hE.trans (if_pos c3)
        refine lv_iconst (v := 1) hx hb dX7_word_51 (by decide) ?_
        refine lv_goto (tgt := 56) hx hb dX7_word_52 (by decide) ?_
        refine k_SR (As := [.int 1]) (rest := []) ⟨hx, hb, hml, hown, hts⟩ hKN hP hS (m_X7_asNumber l D cI cB ad V 1) (va_cwS 1 hts gX7_word_X7_asNumber rfl rfl rfl (by decide +kernel) ⟨(Nat.le_of_ble_eq_true rfl), (Nat.le_of_ble_eq_true rfl)⟩) rfl hl.1 rfl (Nat.le_of_ble_eq_true rfl) dX7_word_56 ⟨Nat.zero_le _, Nat.zero_le _⟩ (fun H locs hP hS => ?_)
        exact W.iret (v := (f_X7_asNumber V 1)) hx hb hr (fun t ht hW => ⟨⟨(f_X7_asNumber V 1), (), rfl, hE.symm, trivial⟩, hS.F ht⟩) hS.2.2 dX7_word_59
    · have hE := hE.trans (if_neg c2)
      have hp := pc_bn hp c2
      rcases Decidable.em (p2 = 1) with c4 | c4
      · have hE := hE.trans (if_pos c4)
        have hp := pc_br hp c4
        refine lv_tableIn (off := 48) (tgt := 60) hx hb dX7_word_12 (by rw [c4]; decide) (by rw [c4]; decide) (by rw [c4]; rfl) (by decide) ?_
        refine lv_aload_n hx hb dX7_word_60 rfl (lv_at hl 0 rfl) ?_
        refine x_get (ci := 5) (fs := [.ref (ad 6), .ref (ad 13), .ref (ad 4), .ref (ad 2), .ref (ad 1), .int ((V 0) 0)]) (q := 0) (v := .ref (ad 6)) (N := 6) hx hb hts (fun _ h => List.mem_cons_of_mem _ (List.mem_append_left _ (List.mem_append_left _ (List.mem_append_right _ h)))) hown hK hP (by decide) (ce_tb ad cI cB (V 0)) rfl 0 (by decide) (hts (.fieldLink RX7 10 "TurnedBoards" "now" "LTurnedBoards$Board;") (List.mem_of_getElem? (i := 1) rfl)) rfl rfl dX7_word_61 ?_
        refine lv_iload_n hx hb dX7_word_64 rfl (lv_at hl 1 rfl) ?_
        have hn2 := hp
        refine k_VR (As := [.int p1]) (rest := []) (q := (6 + 7 * 0)) ⟨hx, hb, hml, hown, hts⟩ hKN hP hS (m_X0_misread l D cI cB ad fu V 0 p1 (by decide : 0 < 6) hn2) (cwV 1 hts gX7_word_X0_misread rfl rfl rfl (by decide +kernel) ⟨(Nat.le_of_ble_eq_true rfl), (Nat.le_of_ble_eq_true rfl)⟩) (c_preV hP hKN (q := (6 + 7 * 0)) (ci := 0) (fs := [.ref (ad (6 + 7 * 0 + 1)), .ref (ad (6 + 7 * 0 + 3)), .ref (ad (6 + 7 * 0 + 4)), .ref (ad (6 + 7 * 0 + 5)), .ref (ad (6 + 7 * 0 + 6)), .int ((V (6 + 7 * 0)) 5), .int ((V (6 + 7 * 0)) 6), .int ((V (6 + 7 * 0)) 0), .int ((V (6 + 7 * 0)) 1), .int ((V (6 + 7 * 0)) 2), .int ((V (6 + 7 * 0)) 3), .int ((V (6 + 7 * 0)) 4)]) (by decide) (ce_bd ad cI cB (by decide : 0 < 6) (V (6 + 7 * 0))) rfl rfl) rfl hl.1 rfl (Nat.le_of_ble_eq_true rfl) dX7_word_65 ⟨Nat.zero_le _, Nat.zero_le _⟩ (fun H locs hP hS => ?_)
        exact W.iret (v := (f_X0_misread fu V 0 p1)) hx hb hr (fun t ht hW => ⟨⟨(f_X0_misread fu V 0 p1), (), rfl, hE.symm, trivial⟩, hS.F ht⟩) hS.2.2 dX7_word_68
      · have hE := hE.trans (if_neg c4)
        rcases Decidable.em (p2 = 2) with c5 | c5
        · have hE := hE.trans (if_pos c5)
          refine lv_tableIn (off := 57) (tgt := 69) hx hb dX7_word_12 (by rw [c5]; decide) (by rw [c5]; decide) (by rw [c5]; rfl) (by decide) ?_
          refine lv_aload_n hx hb dX7_word_69 rfl (lv_at hl 0 rfl) ?_
          refine x_get (ci := 5) (fs := [.ref (ad 6), .ref (ad 13), .ref (ad 4), .ref (ad 2), .ref (ad 1), .int ((V 0) 0)]) (q := 0) (v := .ref (ad 6)) (N := 6) hx hb hts (fun _ h => List.mem_cons_of_mem _ (List.mem_append_left _ (List.mem_append_left _ (List.mem_append_right _ h)))) hown hK hP (by decide) (ce_tb ad cI cB (V 0)) rfl 0 (by decide) (hts (.fieldLink RX7 10 "TurnedBoards" "now" "LTurnedBoards$Board;") (List.mem_of_getElem? (i := 1) rfl)) rfl rfl dX7_word_70 ?_
          refine k_VR (As := []) (rest := []) (q := (6 + 7 * 0)) ⟨hx, hb, hml, hown, hts⟩ hKN hP hS (m_X0_way l D cI cB ad V 0 (by decide : 0 < 6)) (cwV 0 hts gX7_word_X0_way rfl rfl rfl (by decide +kernel) ⟨(Nat.le_of_ble_eq_true rfl), (Nat.le_of_ble_eq_true rfl)⟩) (c_preV hP hKN (q := (6 + 7 * 0)) (ci := 0) (fs := [.ref (ad (6 + 7 * 0 + 1)), .ref (ad (6 + 7 * 0 + 3)), .ref (ad (6 + 7 * 0 + 4)), .ref (ad (6 + 7 * 0 + 5)), .ref (ad (6 + 7 * 0 + 6)), .int ((V (6 + 7 * 0)) 5), .int ((V (6 + 7 * 0)) 6), .int ((V (6 + 7 * 0)) 0), .int ((V (6 + 7 * 0)) 1), .int ((V (6 + 7 * 0)) 2), .int ((V (6 + 7 * 0)) 3), .int ((V (6 + 7 * 0)) 4)]) (by decide) (ce_bd ad cI cB (by decide : 0 < 6) (V (6 + 7 * 0))) rfl rfl) rfl hl.1 rfl (Nat.le_of_ble_eq_true rfl) dX7_word_73 ⟨Nat.zero_le _, Nat.zero_le _⟩ (fun H locs hP hS => ?_)
          refine lv_iload_n hx hb dX7_word_76 rfl (lv_at hl 1 rfl) ?_
          refine lv_icmp_ne (tgt := 84) hx hb dX7_word_77 (by decide) (fun c6 => ?_) (fun c6 => ?_)
          · have hE := hE.trans (if_neg c6)
            refine lv_iconst (v := 0) hx hb dX7_word_84 (by decide) ?_
            refine k_SR (As := [.int 0]) (rest := []) ⟨hx, hb, hml, hown, hts⟩ hKN hP hS (m_X7_asNumber l D cI cB ad V 0) (va_cwS 1 hts gX7_word_X7_asNumber rfl rfl rfl (by decide +kernel) ⟨(Nat.le_of_ble_eq_true rfl), (Nat.le_of_ble_eq_true rfl)⟩) rfl hl.1 rfl (Nat.le_of_ble_eq_true rfl) dX7_word_85 ⟨Nat.zero_le _, Nat.zero_le _⟩ (fun H locs hP hS => ?_)
            exact W.iret (v := (f_X7_asNumber V 0)) hx hb hr (fun t ht hW => ⟨⟨(f_X7_asNumber V 0), (), rfl, hE.symm, trivial⟩, hS.F ht⟩) hS.2.2 dX7_word_88
          · have hE := hE.trans (if_pos c6)
            refine lv_iconst (v := 1) hx hb dX7_word_80 (by decide) ?_
            refine lv_goto (tgt := 85) hx hb dX7_word_81 (by decide) ?_
            refine k_SR (As := [.int 1]) (rest := []) ⟨hx, hb, hml, hown, hts⟩ hKN hP hS (m_X7_asNumber l D cI cB ad V 1) (va_cwS 1 hts gX7_word_X7_asNumber rfl rfl rfl (by decide +kernel) ⟨(Nat.le_of_ble_eq_true rfl), (Nat.le_of_ble_eq_true rfl)⟩) rfl hl.1 rfl (Nat.le_of_ble_eq_true rfl) dX7_word_85 ⟨Nat.zero_le _, Nat.zero_le _⟩ (fun H locs hP hS => ?_)
            exact W.iret (v := (f_X7_asNumber V 1)) hx hb hr (fun t ht hW => ⟨⟨(f_X7_asNumber V 1), (), rfl, hE.symm, trivial⟩, hS.F ht⟩) hS.2.2 dX7_word_88
        · have hE := hE.trans (if_neg c5)
          refine lv_tableOut (tgt := 89) hx hb dX7_word_12 (by have e0 := lv_neT (k := 0) (a := 0) c2 rfl; have e1 := lv_neT (k := 1) (a := 1) c4 rfl; have e2 := lv_neT (k := 2) (a := 2) c5 rfl; omega) (by decide) ?_
          refine lv_iload_n hx hb dX7_word_89 rfl (lv_at hl 2 rfl) ?_
          refine lv_bipush (v := 10) hx hb dX7_word_90 (by decide) ?_
          refine lv_icmp_lt (tgt := 109) hx hb dX7_word_92 (by decide) (fun c7 => ?_) (fun c7 => ?_)
          · have hE := hE.trans (if_pos c7)
            refine lv_sipush (v := (-1001)) hx hb dX7_word_109 (by decide) ?_
            refine lv_goto (tgt := 127) hx hb dX7_word_112 (by decide) ?_
            exact W.iret (v := (-1001)) hx hb hr (fun t ht hW => ⟨⟨(-1001), (), rfl, hE.symm, trivial⟩, hS.F ht⟩) hS.2.2 dX7_word_127
          · have hE := hE.trans (if_neg c7)
            refine lv_iload_n hx hb dX7_word_95 rfl (lv_at hl 2 rfl) ?_
            refine lv_bipush (v := 10) hx hb dX7_word_96 (by decide) ?_
            refine lv_isub hx hb dX7_word_98 ?_
            refine lv_aload_n hx hb dX7_word_99 rfl (lv_at hl 0 rfl) ?_
            refine x_get (ci := 5) (fs := [.ref (ad 6), .ref (ad 13), .ref (ad 4), .ref (ad 2), .ref (ad 1), .int ((V 0) 0)]) (q := 0) (v := .ref (ad 6)) (N := 6) hx hb hts (fun _ h => List.mem_cons_of_mem _ (List.mem_append_left _ (List.mem_append_left _ (List.mem_append_right _ h)))) hown hK hP (by decide) (ce_tb ad cI cB (V 0)) rfl 0 (by decide) (hts (.fieldLink RX7 10 "TurnedBoards" "now" "LTurnedBoards$Board;") (List.mem_of_getElem? (i := 1) rfl)) rfl rfl dX7_word_100 ?_
            refine x_getN (ci := 0) (fs := [.ref (ad (6 + 7 * 0 + 1)), .ref (ad (6 + 7 * 0 + 3)), .ref (ad (6 + 7 * 0 + 4)), .ref (ad (6 + 7 * 0 + 5)), .ref (ad (6 + 7 * 0 + 6)), .int ((V (6 + 7 * 0)) 5), .int ((V (6 + 7 * 0)) 6), .int ((V (6 + 7 * 0)) 0), .int ((V (6 + 7 * 0)) 1), .int ((V (6 + 7 * 0)) 2), .int ((V (6 + 7 * 0)) 3), .int ((V (6 + 7 * 0)) 4)]) (q := (6 + 7 * 0)) (v := .int (V (6 + 7 * 0) 0)) (N := 12) hx hb hts (fun _ h => List.mem_cons_of_mem _ (List.mem_append_left _ (List.mem_append_right _ h))) hown hK hP (by decide) (ce_bd ad cI cB (by decide : 0 < 6) (V (6 + 7 * 0))) rfl 7 (by decide) (hKN.2.1 (.fieldLinkNest RX7 88 "TurnedBoards$Board" "places" "I" "TurnedBoards") (List.mem_of_getElem? (i := 4) rfl)) rfl rfl dX7_word_103 ?_
            refine lv_icmp_lt (tgt := 115) hx hb dX7_word_106 (by decide) (fun c8 => ?_) (fun c8 => ?_)
            · have hE := hE.trans (if_pos c8)
              refine lv_aload_n hx hb dX7_word_115 rfl (lv_at hl 0 rfl) ?_
              refine x_get (ci := 5) (fs := [.ref (ad 6), .ref (ad 13), .ref (ad 4), .ref (ad 2), .ref (ad 1), .int ((V 0) 0)]) (q := 0) (v := .ref (ad 6)) (N := 6) hx hb hts (fun _ h => List.mem_cons_of_mem _ (List.mem_append_left _ (List.mem_append_left _ (List.mem_append_right _ h)))) hown hK hP (by decide) (ce_tb ad cI cB (V 0)) rfl 0 (by decide) (hts (.fieldLink RX7 10 "TurnedBoards" "now" "LTurnedBoards$Board;") (List.mem_of_getElem? (i := 1) rfl)) rfl rfl dX7_word_116 ?_
              refine lv_iload_n hx hb dX7_word_119 rfl (lv_at hl 1 rfl) ?_
              refine lv_iload_n hx hb dX7_word_120 rfl (lv_at hl 2 rfl) ?_
              refine lv_bipush (v := 10) hx hb dX7_word_121 (by decide) ?_
              refine lv_isub hx hb dX7_word_123 ?_
              refine k_VR (As := [.int p1, .int (p2 - 10)]) (rest := []) (q := (6 + 7 * 0)) ⟨hx, hb, hml, hown, hts⟩ hKN hP hS (m_X0_letterIn l D cI cB ad V 0 p1 (p2 - 10) (by decide : 0 < 6)) (cwV 2 hts gX7_word_X0_letterIn rfl rfl rfl (by decide +kernel) ⟨(Nat.le_of_ble_eq_true rfl), (Nat.le_of_ble_eq_true rfl)⟩) (c_preV hP hKN (q := (6 + 7 * 0)) (ci := 0) (fs := [.ref (ad (6 + 7 * 0 + 1)), .ref (ad (6 + 7 * 0 + 3)), .ref (ad (6 + 7 * 0 + 4)), .ref (ad (6 + 7 * 0 + 5)), .ref (ad (6 + 7 * 0 + 6)), .int ((V (6 + 7 * 0)) 5), .int ((V (6 + 7 * 0)) 6), .int ((V (6 + 7 * 0)) 0), .int ((V (6 + 7 * 0)) 1), .int ((V (6 + 7 * 0)) 2), .int ((V (6 + 7 * 0)) 3), .int ((V (6 + 7 * 0)) 4)]) (by decide) (ce_bd ad cI cB (by decide : 0 < 6) (V (6 + 7 * 0))) rfl rfl) rfl hl.1 rfl (Nat.le_of_ble_eq_true rfl) dX7_word_124 ⟨Nat.zero_le _, Nat.zero_le _⟩ (fun H locs hP hS => ?_)
              exact W.iret (v := (f_X0_letterIn V 0 p1 (p2 - 10))) hx hb hr (fun t ht hW => ⟨⟨(f_X0_letterIn V 0 p1 (p2 - 10)), (), rfl, hE.symm, trivial⟩, hS.F ht⟩) hS.2.2 dX7_word_127
            · have hE := hE.trans (if_neg c8)
              refine lv_sipush (v := (-1001)) hx hb dX7_word_109 (by decide) ?_
              refine lv_goto (tgt := 127) hx hb dX7_word_112 (by decide) ?_
              exact W.iret (v := (-1001)) hx hb hr (fun t ht hW => ⟨⟨(-1001), (), rfl, hE.symm, trivial⟩, hS.F ht⟩) hS.2.2 dX7_word_127
  · have hE := hE.trans (if_pos c1)
    refine lv_sipush (v := (-1001)) hx hb dX7_word_7 (by decide) ?_
    exact W.iret (v := (-1001)) hx hb hr (fun t ht hW => ⟨⟨(-1001), (), rfl, hE.symm, trivial⟩, hS.F ht⟩) hS.2.2 dX7_word_10
def f_X7_count (fu : Nat) (V : VT) (p1 : Int32) : Int32 := (if p1 = 0 then (V (6 + 7 * 0) 0) else (if p1 = 1 then (f_X3_asSet fu V 0) else (if p1 = 2 then (f_X7_asNumber V (V (6 + 7 * 0) 1)) else (if p1 = 3 then (V (6 + 7 * 0) 2) else (if p1 = 4 then (V (6 + 7 * 0) 3) else (if p1 = 5 then (V (6 + 7 * 0) 4) else (if p1 = 6 then (f_X0_allCoats fu V 0) else (if p1 = 7 then (f_X0_placesWithCoats fu V 0) else (if p1 = 8 then (V 4 0) else (if p1 = 9 then (V 2 0) else (if p1 = 10 then (f_X7_asNumber V (V 0 0)) else (if p1 = 11 then (-1001) else (if p1 = 12 then (-1001) else (if p1 = 13 then (-1001) else (if p1 = 14 then (-1001) else (if p1 = 15 then (-1001) else (if p1 = 16 then (-1001) else (if p1 = 17 then (-1001) else (if p1 = 18 then (-1001) else (if p1 = 19 then (-1001) else (if p1 = 20 then (f_X0_setting V 0 (p1 - 20)) else (if p1 = 21 then (f_X0_setting V 0 (p1 - 20)) else (-1001)))))))))))))))))))))))
def p_X7_count (fu : Nat) (V : VT) (p1 : Int32) : Prop := ((p1 = 0 → True) ∧ (¬ (p1 = 0) → ((p1 = 1 → (p_X3_asSet fu V 0)) ∧ (¬ (p1 = 1) → ((p1 = 2 → True) ∧ (¬ (p1 = 2) → ((p1 = 3 → True) ∧ (¬ (p1 = 3) → ((p1 = 4 → True) ∧ (¬ (p1 = 4) → ((p1 = 5 → True) ∧ (¬ (p1 = 5) → ((p1 = 6 → (p_X0_allCoats fu V 0)) ∧ (¬ (p1 = 6) → ((p1 = 7 → (p_X0_placesWithCoats fu V 0)) ∧ (¬ (p1 = 7) → True))))))))))))))))
set_option maxHeartbeats 4000000 in
set_option maxRecDepth 100000 in
theorem m_X7_count (l : Launch) (D : va_G) (cI cB : ClassId) (ad : Nat → Nat) (fu : Nat) (V : VT) (p1 : Int32)  (hp : p_X7_count fu V p1) : Met l yX7_count wsX7_count ({ frames := 3, cells := 0, slots := 0, locals := 64 }) (cP D cI cB ad V [.ref (ad 0), .int p1]) (cR (f_X7_count fu V p1)) 0 0 (fun _ => False) := by
  refine Met.ofW (cc := cX7_count) (maxL := 2) (ret := (some .int)) (by decide +kernel) rfl ?_
  intro p e s m args below meth c s₁ B hml hv
  obtain ⟨rfl, hP, hKN⟩ := hv
  have hK := hKN.1
  have hx := B.exec
  have hb := B.bytes
  have hr := B.returns
  have hts := atoms_spec (ws := wsX7_count) B.pre
  have hown : s.vm.findClass RX7 = some m.cls := findClass_of_methodNamed B.named
  have hlocks := B.notSynchronized
  have hS : va_S (fun _ => False) s.heap s.heap [] := va_S.rf
  have hl := lv_entry ([.ref (ad 0), .int p1]) (n := 2) (Nat.le_of_ble_eq_true rfl)
  rw [lg_entry_eq]
  generalize (lg_sl ([.ref (ad 0), .int p1]) ++ List.replicate (2 - (lg_sl ([.ref (ad 0), .int p1])).length) Slot.unset).toArray = ls at hl ⊢
  have hl : lv_has ls 2 [(0, .ref (ad 0)), (1, .int p1)] := hl
  have hE : f_X7_count fu V p1 = (if p1 = 0 then (V (6 + 7 * 0) 0) else (if p1 = 1 then (f_X3_asSet fu V 0) else (if p1 = 2 then (f_X7_asNumber V (V (6 + 7 * 0) 1)) else (if p1 = 3 then (V (6 + 7 * 0) 2) else (if p1 = 4 then (V (6 + 7 * 0) 3) else (if p1 = 5 then (V (6 + 7 * 0) 4) else (if p1 = 6 then (f_X0_allCoats fu V 0) else (if p1 = 7 then (f_X0_placesWithCoats fu V 0) else (if p1 = 8 then (V 4 0) else (if p1 = 9 then (V 2 0) else (if p1 = 10 then (f_X7_asNumber V (V 0 0)) else (if p1 = 11 then (-1001) else (if p1 = 12 then (-1001) else (if p1 = 13 then (-1001) else (if p1 = 14 then (-1001) else (if p1 = 15 then (-1001) else (if p1 = 16 then (-1001) else (if p1 = 17 then (-1001) else (if p1 = 18 then (-1001) else (if p1 = 19 then (-1001) else (if p1 = 20 then (f_X0_setting V 0 (p1 - 20)) else (if p1 = 21 then (f_X0_setting V 0 (p1 - 20)) else (-1001))))))))))))))))))))))) := rfl
  refine lv_iload_n hx hb dX7_count_0 rfl (lv_at hl 1 rfl) ?_
  rcases Decidable.em (p1 = 0) with c1 | c1
  · have hE := hE.trans (if_pos c1)
    refine lv_tableIn (off := 103) (tgt := 104) hx hb dX7_count_1 (by rw [c1]; decide) (by rw [c1]; decide) (by rw [c1]; rfl) (by decide) ?_
    refine lv_aload_n hx hb dX7_count_104 rfl (lv_at hl 0 rfl) ?_
    refine x_get (ci := 5) (fs := [.ref (ad 6), .ref (ad 13), .ref (ad 4), .ref (ad 2), .ref (ad 1), .int ((V 0) 0)]) (q := 0) (v := .ref (ad 6)) (N := 6) hx hb hts (fun _ h => List.mem_cons_of_mem _ (List.mem_append_left _ (List.mem_append_left _ (List.mem_append_left _ (List.mem_append_left _ (List.mem_append_right _ h)))))) hown hK hP (by decide) (ce_tb ad cI cB (V 0)) rfl 0 (by decide) (hts (.fieldLink RX7 10 "TurnedBoards" "now" "LTurnedBoards$Board;") (List.mem_of_getElem? (i := 1) rfl)) rfl rfl dX7_count_105 ?_
    refine x_getN (ci := 0) (fs := [.ref (ad (6 + 7 * 0 + 1)), .ref (ad (6 + 7 * 0 + 3)), .ref (ad (6 + 7 * 0 + 4)), .ref (ad (6 + 7 * 0 + 5)), .ref (ad (6 + 7 * 0 + 6)), .int ((V (6 + 7 * 0)) 5), .int ((V (6 + 7 * 0)) 6), .int ((V (6 + 7 * 0)) 0), .int ((V (6 + 7 * 0)) 1), .int ((V (6 + 7 * 0)) 2), .int ((V (6 + 7 * 0)) 3), .int ((V (6 + 7 * 0)) 4)]) (q := (6 + 7 * 0)) (v := .int (V (6 + 7 * 0) 0)) (N := 12) hx hb hts (fun _ h => List.mem_cons_of_mem _ (List.mem_append_left _ (List.mem_append_left _ (List.mem_append_left _ (List.mem_append_right _ h))))) hown hK hP (by decide) (ce_bd ad cI cB (by decide : 0 < 6) (V (6 + 7 * 0))) rfl 7 (by decide) (hKN.2.1 (.fieldLinkNest RX7 88 "TurnedBoards$Board" "places" "I" "TurnedBoards") (List.mem_of_getElem? (i := 4) rfl)) rfl rfl dX7_count_108 ?_
    exact W.iret (v := (V (6 + 7 * 0) 0)) hx hb hr (fun t ht hW => ⟨⟨(V (6 + 7 * 0) 0), (), rfl, hE.symm, trivial⟩, hS.F ht⟩) hS.2.2 dX7_count_111
  · have hE := hE.trans (if_neg c1)
    have hp := pc_bn hp c1
    rcases Decidable.em (p1 = 1) with c2 | c2
    · have hE := hE.trans (if_pos c2)
      have hp := pc_br hp c2
      refine lv_tableIn (off := 111) (tgt := 112) hx hb dX7_count_1 (by rw [c2]; decide) (by rw [c2]; decide) (by rw [c2]; rfl) (by decide) ?_
      refine lv_aload_n hx hb dX7_count_112 rfl (lv_at hl 0 rfl) ?_
      refine x_get (ci := 5) (fs := [.ref (ad 6), .ref (ad 13), .ref (ad 4), .ref (ad 2), .ref (ad 1), .int ((V 0) 0)]) (q := 0) (v := .ref (ad 6)) (N := 6) hx hb hts (fun _ h => List.mem_cons_of_mem _ (List.mem_append_left _ (List.mem_append_left _ (List.mem_append_left _ (List.mem_append_left _ (List.mem_append_right _ h)))))) hown hK hP (by decide) (ce_tb ad cI cB (V 0)) rfl 0 (by decide) (hts (.fieldLink RX7 10 "TurnedBoards" "now" "LTurnedBoards$Board;") (List.mem_of_getElem? (i := 1) rfl)) rfl rfl dX7_count_113 ?_
      refine x_getN (ci := 0) (fs := [.ref (ad (6 + 7 * 0 + 1)), .ref (ad (6 + 7 * 0 + 3)), .ref (ad (6 + 7 * 0 + 4)), .ref (ad (6 + 7 * 0 + 5)), .ref (ad (6 + 7 * 0 + 6)), .int ((V (6 + 7 * 0)) 5), .int ((V (6 + 7 * 0)) 6), .int ((V (6 + 7 * 0)) 0), .int ((V (6 + 7 * 0)) 1), .int ((V (6 + 7 * 0)) 2), .int ((V (6 + 7 * 0)) 3), .int ((V (6 + 7 * 0)) 4)]) (q := (6 + 7 * 0)) (v := .ref (ad (6 + 7 * 0 + 1))) (N := 12) hx hb hts (fun _ h => List.mem_cons_of_mem _ (List.mem_append_left _ (List.mem_append_left _ (List.mem_append_left _ (List.mem_append_right _ h))))) hown hK hP (by decide) (ce_bd ad cI cB (by decide : 0 < 6) (V (6 + 7 * 0))) rfl 0 (by decide) (hKN.2.1 (.fieldLinkNest RX7 51 "TurnedBoards$Board" "letters" "LTurnedBoards$Letters;" "TurnedBoards") (List.mem_of_getElem? (i := 1) rfl)) rfl rfl dX7_count_116 ?_
      have hn1 := hp
      refine k_VR (As := []) (rest := []) (q := (6 + 7 * 0 + 1)) ⟨hx, hb, hml, hown, hts⟩ hKN hP hS (m_X3_asSet l D cI cB ad fu V 0 (by decide : 0 < 6) hn1) (cwV 0 hts gX7_count_X3_asSet rfl rfl rfl (by decide +kernel) ⟨(Nat.le_of_ble_eq_true rfl), (Nat.le_of_ble_eq_true rfl)⟩) (c_preV hP hKN (q := (6 + 7 * 0 + 1)) (ci := 3) (fs := [.ref (ad (6 + 7 * 0 + 2))]) (by decide) (ce_lt ad cI cB (by decide : 0 < 6) (V (6 + 7 * 0 + 1))) rfl rfl) rfl hl.1 rfl (Nat.le_of_ble_eq_true rfl) dX7_count_119 ⟨Nat.zero_le _, Nat.zero_le _⟩ (fun H locs hP hS => ?_)
      exact W.iret (v := (f_X3_asSet fu V 0)) hx hb hr (fun t ht hW => ⟨⟨(f_X3_asSet fu V 0), (), rfl, hE.symm, trivial⟩, hS.F ht⟩) hS.2.2 dX7_count_122
    · have hE := hE.trans (if_neg c2)
      have hp := pc_bn hp c2
      rcases Decidable.em (p1 = 2) with c3 | c3
      · have hE := hE.trans (if_pos c3)
        refine lv_tableIn (off := 122) (tgt := 123) hx hb dX7_count_1 (by rw [c3]; decide) (by rw [c3]; decide) (by rw [c3]; rfl) (by decide) ?_
        refine lv_aload_n hx hb dX7_count_123 rfl (lv_at hl 0 rfl) ?_
        refine x_get (ci := 5) (fs := [.ref (ad 6), .ref (ad 13), .ref (ad 4), .ref (ad 2), .ref (ad 1), .int ((V 0) 0)]) (q := 0) (v := .ref (ad 6)) (N := 6) hx hb hts (fun _ h => List.mem_cons_of_mem _ (List.mem_append_left _ (List.mem_append_left _ (List.mem_append_left _ (List.mem_append_left _ (List.mem_append_right _ h)))))) hown hK hP (by decide) (ce_tb ad cI cB (V 0)) rfl 0 (by decide) (hts (.fieldLink RX7 10 "TurnedBoards" "now" "LTurnedBoards$Board;") (List.mem_of_getElem? (i := 1) rfl)) rfl rfl dX7_count_124 ?_
        refine x_getN (ci := 0) (fs := [.ref (ad (6 + 7 * 0 + 1)), .ref (ad (6 + 7 * 0 + 3)), .ref (ad (6 + 7 * 0 + 4)), .ref (ad (6 + 7 * 0 + 5)), .ref (ad (6 + 7 * 0 + 6)), .int ((V (6 + 7 * 0)) 5), .int ((V (6 + 7 * 0)) 6), .int ((V (6 + 7 * 0)) 0), .int ((V (6 + 7 * 0)) 1), .int ((V (6 + 7 * 0)) 2), .int ((V (6 + 7 * 0)) 3), .int ((V (6 + 7 * 0)) 4)]) (q := (6 + 7 * 0)) (v := .int (V (6 + 7 * 0) 1)) (N := 12) hx hb hts (fun _ h => List.mem_cons_of_mem _ (List.mem_append_left _ (List.mem_append_left _ (List.mem_append_left _ (List.mem_append_right _ h))))) hown hK hP (by decide) (ce_bd ad cI cB (by decide : 0 < 6) (V (6 + 7 * 0))) rfl 8 (by decide) (hKN.2.1 (.fieldLinkNest RX7 176 "TurnedBoards$Board" "turned" "Z" "TurnedBoards") (List.mem_of_getElem? (i := 5) rfl)) rfl rfl dX7_count_127 ?_
        refine k_SR (As := [.int (V (6 + 7 * 0) 1)]) (rest := []) ⟨hx, hb, hml, hown, hts⟩ hKN hP hS (m_X7_asNumber l D cI cB ad V (V (6 + 7 * 0) 1)) (va_cwS 1 hts gX7_count_X7_asNumber rfl rfl rfl (by decide +kernel) ⟨(Nat.le_of_ble_eq_true rfl), (Nat.le_of_ble_eq_true rfl)⟩) rfl hl.1 rfl (Nat.le_of_ble_eq_true rfl) dX7_count_130 ⟨Nat.zero_le _, Nat.zero_le _⟩ (fun H locs hP hS => ?_)
        exact W.iret (v := (f_X7_asNumber V (V (6 + 7 * 0) 1))) hx hb hr (fun t ht hW => ⟨⟨(f_X7_asNumber V (V (6 + 7 * 0) 1)), (), rfl, hE.symm, trivial⟩, hS.F ht⟩) hS.2.2 dX7_count_133
      · have hE := hE.trans (if_neg c3)
        have hp := pc_bn hp c3
        rcases Decidable.em (p1 = 3) with c4 | c4
        · have hE := hE.trans (if_pos c4)
          refine lv_tableIn (off := 133) (tgt := 134) hx hb dX7_count_1 (by rw [c4]; decide) (by rw [c4]; decide) (by rw [c4]; rfl) (by decide) ?_
          refine lv_aload_n hx hb dX7_count_134 rfl (lv_at hl 0 rfl) ?_
          refine x_get (ci := 5) (fs := [.ref (ad 6), .ref (ad 13), .ref (ad 4), .ref (ad 2), .ref (ad 1), .int ((V 0) 0)]) (q := 0) (v := .ref (ad 6)) (N := 6) hx hb hts (fun _ h => List.mem_cons_of_mem _ (List.mem_append_left _ (List.mem_append_left _ (List.mem_append_left _ (List.mem_append_left _ (List.mem_append_right _ h)))))) hown hK hP (by decide) (ce_tb ad cI cB (V 0)) rfl 0 (by decide) (hts (.fieldLink RX7 10 "TurnedBoards" "now" "LTurnedBoards$Board;") (List.mem_of_getElem? (i := 1) rfl)) rfl rfl dX7_count_135 ?_
          refine x_getN (ci := 0) (fs := [.ref (ad (6 + 7 * 0 + 1)), .ref (ad (6 + 7 * 0 + 3)), .ref (ad (6 + 7 * 0 + 4)), .ref (ad (6 + 7 * 0 + 5)), .ref (ad (6 + 7 * 0 + 6)), .int ((V (6 + 7 * 0)) 5), .int ((V (6 + 7 * 0)) 6), .int ((V (6 + 7 * 0)) 0), .int ((V (6 + 7 * 0)) 1), .int ((V (6 + 7 * 0)) 2), .int ((V (6 + 7 * 0)) 3), .int ((V (6 + 7 * 0)) 4)]) (q := (6 + 7 * 0)) (v := .int (V (6 + 7 * 0) 2)) (N := 12) hx hb hts (fun _ h => List.mem_cons_of_mem _ (List.mem_append_left _ (List.mem_append_left _ (List.mem_append_left _ (List.mem_append_right _ h))))) hown hK hP (by decide) (ce_bd ad cI cB (by decide : 0 < 6) (V (6 + 7 * 0))) rfl 9 (by decide) (hKN.2.1 (.fieldLinkNest RX7 100 "TurnedBoards$Board" "stiffness" "I" "TurnedBoards") (List.mem_of_getElem? (i := 6) rfl)) rfl rfl dX7_count_138 ?_
          exact W.iret (v := (V (6 + 7 * 0) 2)) hx hb hr (fun t ht hW => ⟨⟨(V (6 + 7 * 0) 2), (), rfl, hE.symm, trivial⟩, hS.F ht⟩) hS.2.2 dX7_count_141
        · have hE := hE.trans (if_neg c4)
          have hp := pc_bn hp c4
          rcases Decidable.em (p1 = 4) with c5 | c5
          · have hE := hE.trans (if_pos c5)
            refine lv_tableIn (off := 141) (tgt := 142) hx hb dX7_count_1 (by rw [c5]; decide) (by rw [c5]; decide) (by rw [c5]; rfl) (by decide) ?_
            refine lv_aload_n hx hb dX7_count_142 rfl (lv_at hl 0 rfl) ?_
            refine x_get (ci := 5) (fs := [.ref (ad 6), .ref (ad 13), .ref (ad 4), .ref (ad 2), .ref (ad 1), .int ((V 0) 0)]) (q := 0) (v := .ref (ad 6)) (N := 6) hx hb hts (fun _ h => List.mem_cons_of_mem _ (List.mem_append_left _ (List.mem_append_left _ (List.mem_append_left _ (List.mem_append_left _ (List.mem_append_right _ h)))))) hown hK hP (by decide) (ce_tb ad cI cB (V 0)) rfl 0 (by decide) (hts (.fieldLink RX7 10 "TurnedBoards" "now" "LTurnedBoards$Board;") (List.mem_of_getElem? (i := 1) rfl)) rfl rfl dX7_count_143 ?_
            refine x_getN (ci := 0) (fs := [.ref (ad (6 + 7 * 0 + 1)), .ref (ad (6 + 7 * 0 + 3)), .ref (ad (6 + 7 * 0 + 4)), .ref (ad (6 + 7 * 0 + 5)), .ref (ad (6 + 7 * 0 + 6)), .int ((V (6 + 7 * 0)) 5), .int ((V (6 + 7 * 0)) 6), .int ((V (6 + 7 * 0)) 0), .int ((V (6 + 7 * 0)) 1), .int ((V (6 + 7 * 0)) 2), .int ((V (6 + 7 * 0)) 3), .int ((V (6 + 7 * 0)) 4)]) (q := (6 + 7 * 0)) (v := .int (V (6 + 7 * 0) 3)) (N := 12) hx hb hts (fun _ h => List.mem_cons_of_mem _ (List.mem_append_left _ (List.mem_append_left _ (List.mem_append_left _ (List.mem_append_right _ h))))) hown hK hP (by decide) (ce_bd ad cI cB (by decide : 0 < 6) (V (6 + 7 * 0))) rfl 10 (by decide) (hKN.2.1 (.fieldLinkNest RX7 106 "TurnedBoards$Board" "day" "I" "TurnedBoards") (List.mem_of_getElem? (i := 7) rfl)) rfl rfl dX7_count_146 ?_
            exact W.iret (v := (V (6 + 7 * 0) 3)) hx hb hr (fun t ht hW => ⟨⟨(V (6 + 7 * 0) 3), (), rfl, hE.symm, trivial⟩, hS.F ht⟩) hS.2.2 dX7_count_149
          · have hE := hE.trans (if_neg c5)
            have hp := pc_bn hp c5
            rcases Decidable.em (p1 = 5) with c6 | c6
            · have hE := hE.trans (if_pos c6)
              refine lv_tableIn (off := 149) (tgt := 150) hx hb dX7_count_1 (by rw [c6]; decide) (by rw [c6]; decide) (by rw [c6]; rfl) (by decide) ?_
              refine lv_aload_n hx hb dX7_count_150 rfl (lv_at hl 0 rfl) ?_
              refine x_get (ci := 5) (fs := [.ref (ad 6), .ref (ad 13), .ref (ad 4), .ref (ad 2), .ref (ad 1), .int ((V 0) 0)]) (q := 0) (v := .ref (ad 6)) (N := 6) hx hb hts (fun _ h => List.mem_cons_of_mem _ (List.mem_append_left _ (List.mem_append_left _ (List.mem_append_left _ (List.mem_append_left _ (List.mem_append_right _ h)))))) hown hK hP (by decide) (ce_tb ad cI cB (V 0)) rfl 0 (by decide) (hts (.fieldLink RX7 10 "TurnedBoards" "now" "LTurnedBoards$Board;") (List.mem_of_getElem? (i := 1) rfl)) rfl rfl dX7_count_151 ?_
              refine x_getN (ci := 0) (fs := [.ref (ad (6 + 7 * 0 + 1)), .ref (ad (6 + 7 * 0 + 3)), .ref (ad (6 + 7 * 0 + 4)), .ref (ad (6 + 7 * 0 + 5)), .ref (ad (6 + 7 * 0 + 6)), .int ((V (6 + 7 * 0)) 5), .int ((V (6 + 7 * 0)) 6), .int ((V (6 + 7 * 0)) 0), .int ((V (6 + 7 * 0)) 1), .int ((V (6 + 7 * 0)) 2), .int ((V (6 + 7 * 0)) 3), .int ((V (6 + 7 * 0)) 4)]) (q := (6 + 7 * 0)) (v := .int (V (6 + 7 * 0) 4)) (N := 12) hx hb hts (fun _ h => List.mem_cons_of_mem _ (List.mem_append_left _ (List.mem_append_left _ (List.mem_append_left _ (List.mem_append_right _ h))))) hown hK hP (by decide) (ce_bd ad cI cB (by decide : 0 < 6) (V (6 + 7 * 0))) rfl 11 (by decide) (hKN.2.1 (.fieldLinkNest RX7 179 "TurnedBoards$Board" "turns" "I" "TurnedBoards") (List.mem_of_getElem? (i := 8) rfl)) rfl rfl dX7_count_154 ?_
              exact W.iret (v := (V (6 + 7 * 0) 4)) hx hb hr (fun t ht hW => ⟨⟨(V (6 + 7 * 0) 4), (), rfl, hE.symm, trivial⟩, hS.F ht⟩) hS.2.2 dX7_count_157
            · have hE := hE.trans (if_neg c6)
              have hp := pc_bn hp c6
              rcases Decidable.em (p1 = 6) with c7 | c7
              · have hE := hE.trans (if_pos c7)
                have hp := pc_br hp c7
                refine lv_tableIn (off := 157) (tgt := 158) hx hb dX7_count_1 (by rw [c7]; decide) (by rw [c7]; decide) (by rw [c7]; rfl) (by decide) ?_
                refine lv_aload_n hx hb dX7_count_158 rfl (lv_at hl 0 rfl) ?_
                refine x_get (ci := 5) (fs := [.ref (ad 6), .ref (ad 13), .ref (ad 4), .ref (ad 2), .ref (ad 1), .int ((V 0) 0)]) (q := 0) (v := .ref (ad 6)) (N := 6) hx hb hts (fun _ h => List.mem_cons_of_mem _ (List.mem_append_left _ (List.mem_append_left _ (List.mem_append_left _ (List.mem_append_left _ (List.mem_append_right _ h)))))) hown hK hP (by decide) (ce_tb ad cI cB (V 0)) rfl 0 (by decide) (hts (.fieldLink RX7 10 "TurnedBoards" "now" "LTurnedBoards$Board;") (List.mem_of_getElem? (i := 1) rfl)) rfl rfl dX7_count_159 ?_
                have hn2 := hp
                refine k_VR (As := []) (rest := []) (q := (6 + 7 * 0)) ⟨hx, hb, hml, hown, hts⟩ hKN hP hS (m_X0_allCoats l D cI cB ad fu V 0 (by decide : 0 < 6) hn2) (cwV 0 hts gX7_count_X0_allCoats rfl rfl rfl (by decide +kernel) ⟨(Nat.le_of_ble_eq_true rfl), (Nat.le_of_ble_eq_true rfl)⟩) (c_preV hP hKN (q := (6 + 7 * 0)) (ci := 0) (fs := [.ref (ad (6 + 7 * 0 + 1)), .ref (ad (6 + 7 * 0 + 3)), .ref (ad (6 + 7 * 0 + 4)), .ref (ad (6 + 7 * 0 + 5)), .ref (ad (6 + 7 * 0 + 6)), .int ((V (6 + 7 * 0)) 5), .int ((V (6 + 7 * 0)) 6), .int ((V (6 + 7 * 0)) 0), .int ((V (6 + 7 * 0)) 1), .int ((V (6 + 7 * 0)) 2), .int ((V (6 + 7 * 0)) 3), .int ((V (6 + 7 * 0)) 4)]) (by decide) (ce_bd ad cI cB (by decide : 0 < 6) (V (6 + 7 * 0))) rfl rfl) rfl hl.1 rfl (Nat.le_of_ble_eq_true rfl) dX7_count_162 ⟨Nat.zero_le _, Nat.zero_le _⟩ (fun H locs hP hS => ?_)
                exact W.iret (v := (f_X0_allCoats fu V 0)) hx hb hr (fun t ht hW => ⟨⟨(f_X0_allCoats fu V 0), (), rfl, hE.symm, trivial⟩, hS.F ht⟩) hS.2.2 dX7_count_165
              · have hE := hE.trans (if_neg c7)
                have hp := pc_bn hp c7
                rcases Decidable.em (p1 = 7) with c8 | c8
                · have hE := hE.trans (if_pos c8)
                  have hp := pc_br hp c8
                  refine lv_tableIn (off := 165) (tgt := 166) hx hb dX7_count_1 (by rw [c8]; decide) (by rw [c8]; decide) (by rw [c8]; rfl) (by decide) ?_
                  refine lv_aload_n hx hb dX7_count_166 rfl (lv_at hl 0 rfl) ?_
                  refine x_get (ci := 5) (fs := [.ref (ad 6), .ref (ad 13), .ref (ad 4), .ref (ad 2), .ref (ad 1), .int ((V 0) 0)]) (q := 0) (v := .ref (ad 6)) (N := 6) hx hb hts (fun _ h => List.mem_cons_of_mem _ (List.mem_append_left _ (List.mem_append_left _ (List.mem_append_left _ (List.mem_append_left _ (List.mem_append_right _ h)))))) hown hK hP (by decide) (ce_tb ad cI cB (V 0)) rfl 0 (by decide) (hts (.fieldLink RX7 10 "TurnedBoards" "now" "LTurnedBoards$Board;") (List.mem_of_getElem? (i := 1) rfl)) rfl rfl dX7_count_167 ?_
                  have hn3 := hp
                  refine k_VR (As := []) (rest := []) (q := (6 + 7 * 0)) ⟨hx, hb, hml, hown, hts⟩ hKN hP hS (m_X0_placesWithCoats l D cI cB ad fu V 0 (by decide : 0 < 6) hn3) (cwV 0 hts gX7_count_X0_placesWithCoats rfl rfl rfl (by decide +kernel) ⟨(Nat.le_of_ble_eq_true rfl), (Nat.le_of_ble_eq_true rfl)⟩) (c_preV hP hKN (q := (6 + 7 * 0)) (ci := 0) (fs := [.ref (ad (6 + 7 * 0 + 1)), .ref (ad (6 + 7 * 0 + 3)), .ref (ad (6 + 7 * 0 + 4)), .ref (ad (6 + 7 * 0 + 5)), .ref (ad (6 + 7 * 0 + 6)), .int ((V (6 + 7 * 0)) 5), .int ((V (6 + 7 * 0)) 6), .int ((V (6 + 7 * 0)) 0), .int ((V (6 + 7 * 0)) 1), .int ((V (6 + 7 * 0)) 2), .int ((V (6 + 7 * 0)) 3), .int ((V (6 + 7 * 0)) 4)]) (by decide) (ce_bd ad cI cB (by decide : 0 < 6) (V (6 + 7 * 0))) rfl rfl) rfl hl.1 rfl (Nat.le_of_ble_eq_true rfl) dX7_count_170 ⟨Nat.zero_le _, Nat.zero_le _⟩ (fun H locs hP hS => ?_)
                  exact W.iret (v := (f_X0_placesWithCoats fu V 0)) hx hb hr (fun t ht hW => ⟨⟨(f_X0_placesWithCoats fu V 0), (), rfl, hE.symm, trivial⟩, hS.F ht⟩) hS.2.2 dX7_count_173
                · have hE := hE.trans (if_neg c8)
                  rcases Decidable.em (p1 = 8) with c9 | c9
                  · have hE := hE.trans (if_pos c9)
                    refine lv_tableIn (off := 173) (tgt := 174) hx hb dX7_count_1 (by rw [c9]; decide) (by rw [c9]; decide) (by rw [c9]; rfl) (by decide) ?_
                    refine lv_aload_n hx hb dX7_count_174 rfl (lv_at hl 0 rfl) ?_
                    refine x_get (ci := 5) (fs := [.ref (ad 6), .ref (ad 13), .ref (ad 4), .ref (ad 2), .ref (ad 1), .int ((V 0) 0)]) (q := 0) (v := .ref (ad 4)) (N := 6) hx hb hts (fun _ h => List.mem_cons_of_mem _ (List.mem_append_left _ (List.mem_append_left _ (List.mem_append_left _ (List.mem_append_left _ (List.mem_append_right _ h)))))) hown hK hP (by decide) (ce_tb ad cI cB (V 0)) rfl 2 (by decide) (hts (.fieldLink RX7 22 "TurnedBoards" "history" "LTurnedBoards$History;") (List.mem_of_getElem? (i := 2) rfl)) rfl rfl dX7_count_175 ?_
                    refine x_getN (ci := 2) (fs := [.ref (ad 5), .int ((V 4) 0)]) (q := 4) (v := .int (V 4 0)) (N := 2) hx hb hts (fun _ h => List.mem_cons_of_mem _ (List.mem_append_left _ (List.mem_append_left _ (List.mem_append_right _ h)))) hown hK hP (by decide) (ce_hs ad cI cB (V 4)) rfl 1 (by decide) (hKN.2.1 (.fieldLinkNest RX7 188 "TurnedBoards$History" "size" "I" "TurnedBoards") (List.mem_of_getElem? (i := 10) rfl)) rfl rfl dX7_count_178 ?_
                    exact W.iret (v := (V 4 0)) hx hb hr (fun t ht hW => ⟨⟨(V 4 0), (), rfl, hE.symm, trivial⟩, hS.F ht⟩) hS.2.2 dX7_count_181
                  · have hE := hE.trans (if_neg c9)
                    rcases Decidable.em (p1 = 9) with c10 | c10
                    · have hE := hE.trans (if_pos c10)
                      refine lv_tableIn (off := 181) (tgt := 182) hx hb dX7_count_1 (by rw [c10]; decide) (by rw [c10]; decide) (by rw [c10]; rfl) (by decide) ?_
                      refine lv_aload_n hx hb dX7_count_182 rfl (lv_at hl 0 rfl) ?_
                      refine x_get (ci := 5) (fs := [.ref (ad 6), .ref (ad 13), .ref (ad 4), .ref (ad 2), .ref (ad 1), .int ((V 0) 0)]) (q := 0) (v := .ref (ad 2)) (N := 6) hx hb hts (fun _ h => List.mem_cons_of_mem _ (List.mem_append_left _ (List.mem_append_left _ (List.mem_append_left _ (List.mem_append_left _ (List.mem_append_right _ h)))))) hown hK hP (by decide) (ce_tb ad cI cB (V 0)) rfl 3 (by decide) (hts (.fieldLink RX7 29 "TurnedBoards" "text" "LTurnedBoards$Script;") (List.mem_of_getElem? (i := 3) rfl)) rfl rfl dX7_count_183 ?_
                      refine x_getN (ci := 4) (fs := [.ref (ad 3), .int ((V 2) 0)]) (q := 2) (v := .int (V 2 0)) (N := 2) hx hb hts (fun _ h => List.mem_cons_of_mem _ (List.mem_append_left _ (List.mem_append_right _ h))) hown hK hP (by decide) (ce_sc ad cI cB (V 2)) rfl 1 (by decide) (hKN.2.1 (.fieldLinkNest RX7 191 "TurnedBoards$Script" "length" "I" "TurnedBoards") (List.mem_of_getElem? (i := 12) rfl)) rfl rfl dX7_count_186 ?_
                      exact W.iret (v := (V 2 0)) hx hb hr (fun t ht hW => ⟨⟨(V 2 0), (), rfl, hE.symm, trivial⟩, hS.F ht⟩) hS.2.2 dX7_count_189
                    · have hE := hE.trans (if_neg c10)
                      rcases Decidable.em (p1 = 10) with c11 | c11
                      · have hE := hE.trans (if_pos c11)
                        refine lv_tableIn (off := 189) (tgt := 190) hx hb dX7_count_1 (by rw [c11]; decide) (by rw [c11]; decide) (by rw [c11]; rfl) (by decide) ?_
                        refine lv_aload_n hx hb dX7_count_190 rfl (lv_at hl 0 rfl) ?_
                        refine x_get (ci := 5) (fs := [.ref (ad 6), .ref (ad 13), .ref (ad 4), .ref (ad 2), .ref (ad 1), .int ((V 0) 0)]) (q := 0) (v := .int (V 0 0)) (N := 6) hx hb hts (fun _ h => List.mem_cons_of_mem _ (List.mem_append_left _ (List.mem_append_left _ (List.mem_append_left _ (List.mem_append_left _ (List.mem_append_right _ h)))))) hown hK hP (by decide) (ce_tb ad cI cB (V 0)) rfl 5 (by decide) (hts (.fieldLink RX7 40 "TurnedBoards" "hasSnapshot" "Z") (List.mem_of_getElem? (i := 4) rfl)) rfl rfl dX7_count_191 ?_
                        refine k_SR (As := [.int (V 0 0)]) (rest := []) ⟨hx, hb, hml, hown, hts⟩ hKN hP hS (m_X7_asNumber l D cI cB ad V (V 0 0)) (va_cwS 1 hts gX7_count_X7_asNumber rfl rfl rfl (by decide +kernel) ⟨(Nat.le_of_ble_eq_true rfl), (Nat.le_of_ble_eq_true rfl)⟩) rfl hl.1 rfl (Nat.le_of_ble_eq_true rfl) dX7_count_194 ⟨Nat.zero_le _, Nat.zero_le _⟩ (fun H locs hP hS => ?_)
                        exact W.iret (v := (f_X7_asNumber V (V 0 0))) hx hb hr (fun t ht hW => ⟨⟨(f_X7_asNumber V (V 0 0)), (), rfl, hE.symm, trivial⟩, hS.F ht⟩) hS.2.2 dX7_count_197
                      · have hE := hE.trans (if_neg c11)
                        rcases Decidable.em (p1 = 11) with c12 | c12
                        · have hE := hE.trans (if_pos c12)
                          refine lv_tableIn (off := 209) (tgt := 210) hx hb dX7_count_1 (by rw [c12]; decide) (by rw [c12]; decide) (by rw [c12]; rfl) (by decide) ?_
                          refine lv_sipush (v := (-1001)) hx hb dX7_count_210 (by decide) ?_
                          exact W.iret (v := (-1001)) hx hb hr (fun t ht hW => ⟨⟨(-1001), (), rfl, hE.symm, trivial⟩, hS.F ht⟩) hS.2.2 dX7_count_213
                        · have hE := hE.trans (if_neg c12)
                          rcases Decidable.em (p1 = 12) with c13 | c13
                          · have hE := hE.trans (if_pos c13)
                            refine lv_tableIn (off := 209) (tgt := 210) hx hb dX7_count_1 (by rw [c13]; decide) (by rw [c13]; decide) (by rw [c13]; rfl) (by decide) ?_
                            refine lv_sipush (v := (-1001)) hx hb dX7_count_210 (by decide) ?_
                            exact W.iret (v := (-1001)) hx hb hr (fun t ht hW => ⟨⟨(-1001), (), rfl, hE.symm, trivial⟩, hS.F ht⟩) hS.2.2 dX7_count_213
                          · have hE := hE.trans (if_neg c13)
                            rcases Decidable.em (p1 = 13) with c14 | c14
                            · have hE := hE.trans (if_pos c14)
                              refine lv_tableIn (off := 209) (tgt := 210) hx hb dX7_count_1 (by rw [c14]; decide) (by rw [c14]; decide) (by rw [c14]; rfl) (by decide) ?_
                              refine lv_sipush (v := (-1001)) hx hb dX7_count_210 (by decide) ?_
                              exact W.iret (v := (-1001)) hx hb hr (fun t ht hW => ⟨⟨(-1001), (), rfl, hE.symm, trivial⟩, hS.F ht⟩) hS.2.2 dX7_count_213
                            · have hE := hE.trans (if_neg c14)
                              rcases Decidable.em (p1 = 14) with c15 | c15
                              · have hE := hE.trans (if_pos c15)
                                refine lv_tableIn (off := 209) (tgt := 210) hx hb dX7_count_1 (by rw [c15]; decide) (by rw [c15]; decide) (by rw [c15]; rfl) (by decide) ?_
                                refine lv_sipush (v := (-1001)) hx hb dX7_count_210 (by decide) ?_
                                exact W.iret (v := (-1001)) hx hb hr (fun t ht hW => ⟨⟨(-1001), (), rfl, hE.symm, trivial⟩, hS.F ht⟩) hS.2.2 dX7_count_213
                              · have hE := hE.trans (if_neg c15)
                                rcases Decidable.em (p1 = 15) with c16 | c16
                                · have hE := hE.trans (if_pos c16)
                                  refine lv_tableIn (off := 209) (tgt := 210) hx hb dX7_count_1 (by rw [c16]; decide) (by rw [c16]; decide) (by rw [c16]; rfl) (by decide) ?_
                                  refine lv_sipush (v := (-1001)) hx hb dX7_count_210 (by decide) ?_
                                  exact W.iret (v := (-1001)) hx hb hr (fun t ht hW => ⟨⟨(-1001), (), rfl, hE.symm, trivial⟩, hS.F ht⟩) hS.2.2 dX7_count_213
                                · have hE := hE.trans (if_neg c16)
                                  rcases Decidable.em (p1 = 16) with c17 | c17
                                  · have hE := hE.trans (if_pos c17)
                                    refine lv_tableIn (off := 209) (tgt := 210) hx hb dX7_count_1 (by rw [c17]; decide) (by rw [c17]; decide) (by rw [c17]; rfl) (by decide) ?_
                                    refine lv_sipush (v := (-1001)) hx hb dX7_count_210 (by decide) ?_
                                    exact W.iret (v := (-1001)) hx hb hr (fun t ht hW => ⟨⟨(-1001), (), rfl, hE.symm, trivial⟩, hS.F ht⟩) hS.2.2 dX7_count_213
                                  · have hE := hE.trans (if_neg c17)
                                    rcases Decidable.em (p1 = 17) with c18 | c18
                                    · have hE := hE.trans (if_pos c18)
                                      refine lv_tableIn (off := 209) (tgt := 210) hx hb dX7_count_1 (by rw [c18]; decide) (by rw [c18]; decide) (by rw [c18]; rfl) (by decide) ?_
                                      refine lv_sipush (v := (-1001)) hx hb dX7_count_210 (by decide) ?_
                                      exact W.iret (v := (-1001)) hx hb hr (fun t ht hW => ⟨⟨(-1001), (), rfl, hE.symm, trivial⟩, hS.F ht⟩) hS.2.2 dX7_count_213
                                    · have hE := hE.trans (if_neg c18)
                                      rcases Decidable.em (p1 = 18) with c19 | c19
                                      · have hE := hE.trans (if_pos c19)
                                        refine lv_tableIn (off := 209) (tgt := 210) hx hb dX7_count_1 (by rw [c19]; decide) (by rw [c19]; decide) (by rw [c19]; rfl) (by decide) ?_
                                        refine lv_sipush (v := (-1001)) hx hb dX7_count_210 (by decide) ?_
                                        exact W.iret (v := (-1001)) hx hb hr (fun t ht hW => ⟨⟨(-1001), (), rfl, hE.symm, trivial⟩, hS.F ht⟩) hS.2.2 dX7_count_213
                                      · have hE := hE.trans (if_neg c19)
                                        rcases Decidable.em (p1 = 19) with c20 | c20
                                        · have hE := hE.trans (if_pos c20)
                                          refine lv_tableIn (off := 209) (tgt := 210) hx hb dX7_count_1 (by rw [c20]; decide) (by rw [c20]; decide) (by rw [c20]; rfl) (by decide) ?_
                                          refine lv_sipush (v := (-1001)) hx hb dX7_count_210 (by decide) ?_
                                          exact W.iret (v := (-1001)) hx hb hr (fun t ht hW => ⟨⟨(-1001), (), rfl, hE.symm, trivial⟩, hS.F ht⟩) hS.2.2 dX7_count_213
                                        · have hE := hE.trans (if_neg c20)
                                          rcases Decidable.em (p1 = 20) with c21 | c21
                                          · have hE := hE.trans (if_pos c21)
                                            refine lv_tableIn (off := 197) (tgt := 198) hx hb dX7_count_1 (by rw [c21]; decide) (by rw [c21]; decide) (by rw [c21]; rfl) (by decide) ?_
                                            refine lv_aload_n hx hb dX7_count_198 rfl (lv_at hl 0 rfl) ?_
                                            refine x_get (ci := 5) (fs := [.ref (ad 6), .ref (ad 13), .ref (ad 4), .ref (ad 2), .ref (ad 1), .int ((V 0) 0)]) (q := 0) (v := .ref (ad 6)) (N := 6) hx hb hts (fun _ h => List.mem_cons_of_mem _ (List.mem_append_left _ (List.mem_append_left _ (List.mem_append_left _ (List.mem_append_left _ (List.mem_append_right _ h)))))) hown hK hP (by decide) (ce_tb ad cI cB (V 0)) rfl 0 (by decide) (hts (.fieldLink RX7 10 "TurnedBoards" "now" "LTurnedBoards$Board;") (List.mem_of_getElem? (i := 1) rfl)) rfl rfl dX7_count_199 ?_
                                            refine lv_iload_n hx hb dX7_count_202 rfl (lv_at hl 1 rfl) ?_
                                            refine lv_bipush (v := 20) hx hb dX7_count_203 (by decide) ?_
                                            refine lv_isub hx hb dX7_count_205 ?_
                                            refine k_VR (As := [.int (p1 - 20)]) (rest := []) (q := (6 + 7 * 0)) ⟨hx, hb, hml, hown, hts⟩ hKN hP hS (m_X0_setting l D cI cB ad V 0 (p1 - 20) (by decide : 0 < 6)) (cwV 1 hts gX7_count_X0_setting rfl rfl rfl (by decide +kernel) ⟨(Nat.le_of_ble_eq_true rfl), (Nat.le_of_ble_eq_true rfl)⟩) (c_preV hP hKN (q := (6 + 7 * 0)) (ci := 0) (fs := [.ref (ad (6 + 7 * 0 + 1)), .ref (ad (6 + 7 * 0 + 3)), .ref (ad (6 + 7 * 0 + 4)), .ref (ad (6 + 7 * 0 + 5)), .ref (ad (6 + 7 * 0 + 6)), .int ((V (6 + 7 * 0)) 5), .int ((V (6 + 7 * 0)) 6), .int ((V (6 + 7 * 0)) 0), .int ((V (6 + 7 * 0)) 1), .int ((V (6 + 7 * 0)) 2), .int ((V (6 + 7 * 0)) 3), .int ((V (6 + 7 * 0)) 4)]) (by decide) (ce_bd ad cI cB (by decide : 0 < 6) (V (6 + 7 * 0))) rfl rfl) rfl hl.1 rfl (Nat.le_of_ble_eq_true rfl) dX7_count_206 ⟨Nat.zero_le _, Nat.zero_le _⟩ (fun H locs hP hS => ?_)
                                            exact W.iret (v := (f_X0_setting V 0 (p1 - 20))) hx hb hr (fun t ht hW => ⟨⟨(f_X0_setting V 0 (p1 - 20)), (), rfl, hE.symm, trivial⟩, hS.F ht⟩) hS.2.2 dX7_count_209
                                          · have hE := hE.trans (if_neg c21)
                                            rcases Decidable.em (p1 = 21) with c22 | c22
                                            · have hE := hE.trans (if_pos c22)
                                              refine lv_tableIn (off := 197) (tgt := 198) hx hb dX7_count_1 (by rw [c22]; decide) (by rw [c22]; decide) (by rw [c22]; rfl) (by decide) ?_
                                              refine lv_aload_n hx hb dX7_count_198 rfl (lv_at hl 0 rfl) ?_
                                              refine x_get (ci := 5) (fs := [.ref (ad 6), .ref (ad 13), .ref (ad 4), .ref (ad 2), .ref (ad 1), .int ((V 0) 0)]) (q := 0) (v := .ref (ad 6)) (N := 6) hx hb hts (fun _ h => List.mem_cons_of_mem _ (List.mem_append_left _ (List.mem_append_left _ (List.mem_append_left _ (List.mem_append_left _ (List.mem_append_right _ h)))))) hown hK hP (by decide) (ce_tb ad cI cB (V 0)) rfl 0 (by decide) (hts (.fieldLink RX7 10 "TurnedBoards" "now" "LTurnedBoards$Board;") (List.mem_of_getElem? (i := 1) rfl)) rfl rfl dX7_count_199 ?_
                                              refine lv_iload_n hx hb dX7_count_202 rfl (lv_at hl 1 rfl) ?_
                                              refine lv_bipush (v := 20) hx hb dX7_count_203 (by decide) ?_
                                              refine lv_isub hx hb dX7_count_205 ?_
                                              refine k_VR (As := [.int (p1 - 20)]) (rest := []) (q := (6 + 7 * 0)) ⟨hx, hb, hml, hown, hts⟩ hKN hP hS (m_X0_setting l D cI cB ad V 0 (p1 - 20) (by decide : 0 < 6)) (cwV 1 hts gX7_count_X0_setting rfl rfl rfl (by decide +kernel) ⟨(Nat.le_of_ble_eq_true rfl), (Nat.le_of_ble_eq_true rfl)⟩) (c_preV hP hKN (q := (6 + 7 * 0)) (ci := 0) (fs := [.ref (ad (6 + 7 * 0 + 1)), .ref (ad (6 + 7 * 0 + 3)), .ref (ad (6 + 7 * 0 + 4)), .ref (ad (6 + 7 * 0 + 5)), .ref (ad (6 + 7 * 0 + 6)), .int ((V (6 + 7 * 0)) 5), .int ((V (6 + 7 * 0)) 6), .int ((V (6 + 7 * 0)) 0), .int ((V (6 + 7 * 0)) 1), .int ((V (6 + 7 * 0)) 2), .int ((V (6 + 7 * 0)) 3), .int ((V (6 + 7 * 0)) 4)]) (by decide) (ce_bd ad cI cB (by decide : 0 < 6) (V (6 + 7 * 0))) rfl rfl) rfl hl.1 rfl (Nat.le_of_ble_eq_true rfl) dX7_count_206 ⟨Nat.zero_le _, Nat.zero_le _⟩ (fun H locs hP hS => ?_)
                                              exact W.iret (v := (f_X0_setting V 0 (p1 - 20))) hx hb hr (fun t ht hW => ⟨⟨(f_X0_setting V 0 (p1 - 20)), (), rfl, hE.symm, trivial⟩, hS.F ht⟩) hS.2.2 dX7_count_209
                                            · have hE := hE.trans (if_neg c22)
                                              refine lv_tableOut (tgt := 210) hx hb dX7_count_1 (by have e0 := lv_neT (k := 0) (a := 0) c1 rfl; have e1 := lv_neT (k := 1) (a := 1) c2 rfl; have e2 := lv_neT (k := 2) (a := 2) c3 rfl; have e3 := lv_neT (k := 3) (a := 3) c4 rfl; have e4 := lv_neT (k := 4) (a := 4) c5 rfl; have e5 := lv_neT (k := 5) (a := 5) c6 rfl; have e6 := lv_neT (k := 6) (a := 6) c7 rfl; have e7 := lv_neT (k := 7) (a := 7) c8 rfl; have e8 := lv_neT (k := 8) (a := 8) c9 rfl; have e9 := lv_neT (k := 9) (a := 9) c10 rfl; have e10 := lv_neT (k := 10) (a := 10) c11 rfl; have e11 := lv_neT (k := 11) (a := 11) c12 rfl; have e12 := lv_neT (k := 12) (a := 12) c13 rfl; have e13 := lv_neT (k := 13) (a := 13) c14 rfl; have e14 := lv_neT (k := 14) (a := 14) c15 rfl; have e15 := lv_neT (k := 15) (a := 15) c16 rfl; have e16 := lv_neT (k := 16) (a := 16) c17 rfl; have e17 := lv_neT (k := 17) (a := 17) c18 rfl; have e18 := lv_neT (k := 18) (a := 18) c19 rfl; have e19 := lv_neT (k := 19) (a := 19) c20 rfl; have e20 := lv_neT (k := 20) (a := 20) c21 rfl; have e21 := lv_neT (k := 21) (a := 21) c22 rfl; omega) (by decide) ?_
                                              refine lv_sipush (v := (-1001)) hx hb dX7_count_210 (by decide) ?_
                                              exact W.iret (v := (-1001)) hx hb hr (fun t ht hW => ⟨⟨(-1001), (), rfl, hE.symm, trivial⟩, hS.F ht⟩) hS.2.2 dX7_count_213
def f_X7_quality_l1 (fu : Nat) (V : VT)  : Nat → Int32 → Int32 → Int32
  | 0, x1_1, x2_1 => 0
  | w1 + 1, x1_1, x2_1 => (if (V (6 + 7 * 0) 0) ≤ x2_1 then (f_X7_bitsOf fu V (FP.fdiv (FP.i2f x1_1) (FP.i2f (2 * (V (6 + 7 * 0) 0))))) else (f_X7_quality_l1 fu V  w1 (x1_1 + ((f_X7_marginOrZero fu V x2_1 0) + (f_X7_marginOrZero fu V x2_1 1))) (x2_1 + 1)))
def p_X7_quality_l1 (fu : Nat) (V : VT)  : Nat → Int32 → Int32 → Prop
  | 0, _, _ => False
  | w1 + 1, x1_1, x2_1 => (((V (6 + 7 * 0) 0) ≤ x2_1 → ((vf_n32 (FP.fdiv (FP.i2f x1_1) (FP.i2f (2 * (V (6 + 7 * 0) 0))))) ∧ (p_X7_bitsOf fu V (FP.fdiv (FP.i2f x1_1) (FP.i2f (2 * (V (6 + 7 * 0) 0))))))) ∧ (¬ ((V (6 + 7 * 0) 0) ≤ x2_1) → ((p_X7_marginOrZero fu V x2_1 0) ∧ ((p_X7_marginOrZero fu V x2_1 1) ∧ (p_X7_quality_l1 fu V  w1 (x1_1 + ((f_X7_marginOrZero fu V x2_1 0) + (f_X7_marginOrZero fu V x2_1 1))) (x2_1 + 1))))))
def f_X7_quality (fu : Nat) (V : VT)  : Int32 := (if (V (6 + 7 * 0) 0) = 0 then (-1004) else (f_X7_quality_l1 fu V  fu 0 0))
def p_X7_quality (fu : Nat) (V : VT)  : Prop := (((V (6 + 7 * 0) 0) = 0 → True) ∧ (¬ ((V (6 + 7 * 0) 0) = 0) → (p_X7_quality_l1 fu V  fu 0 0)))
set_option maxHeartbeats 4000000 in
set_option maxRecDepth 100000 in
theorem m_X7_quality (l : Launch) (D : va_G) (cI cB : ClassId) (ad : Nat → Nat) (fu : Nat) (V : VT)   (hp : p_X7_quality fu V ) : Met l yX7_quality wsX7_quality ({ frames := 5, cells := 0, slots := 0, locals := 109 }) (cP D cI cB ad V [.ref (ad 0)]) (cR (f_X7_quality fu V)) 0 0 (fun _ => False) := by
  refine Met.ofW (cc := cX7_quality) (maxL := 3) (ret := (some .int)) (by decide +kernel) rfl ?_
  intro p e s m args below meth c s₁ B hml hv
  obtain ⟨rfl, hP, hKN⟩ := hv
  have hK := hKN.1
  have hx := B.exec
  have hb := B.bytes
  have hr := B.returns
  have hts := atoms_spec (ws := wsX7_quality) B.pre
  have hown : s.vm.findClass RX7 = some m.cls := findClass_of_methodNamed B.named
  have hlocks := B.notSynchronized
  have hS : va_S (fun _ => False) s.heap s.heap [] := va_S.rf
  have hl := lv_entry ([.ref (ad 0)]) (n := 3) (Nat.le_of_ble_eq_true rfl)
  rw [lg_entry_eq]
  generalize (lg_sl ([.ref (ad 0)]) ++ List.replicate (3 - (lg_sl ([.ref (ad 0)])).length) Slot.unset).toArray = ls at hl ⊢
  have hl : lv_has ls 3 [(0, .ref (ad 0))] := hl
  have hE : f_X7_quality fu V = (if (V (6 + 7 * 0) 0) = 0 then (-1004) else (f_X7_quality_l1 fu V  fu 0 0)) := rfl
  refine lv_aload_n hx hb dX7_quality_0 rfl (lv_at hl 0 rfl) ?_
  refine x_get (ci := 5) (fs := [.ref (ad 6), .ref (ad 13), .ref (ad 4), .ref (ad 2), .ref (ad 1), .int ((V 0) 0)]) (q := 0) (v := .ref (ad 6)) (N := 6) hx hb hts (fun _ h => List.mem_cons_of_mem _ (List.mem_append_left _ (List.mem_append_left _ (List.mem_append_right _ h)))) hown hK hP (by decide) (ce_tb ad cI cB (V 0)) rfl 0 (by decide) (hts (.fieldLink RX7 10 "TurnedBoards" "now" "LTurnedBoards$Board;") (List.mem_of_getElem? (i := 1) rfl)) rfl rfl dX7_quality_1 ?_
  refine x_getN (ci := 0) (fs := [.ref (ad (6 + 7 * 0 + 1)), .ref (ad (6 + 7 * 0 + 3)), .ref (ad (6 + 7 * 0 + 4)), .ref (ad (6 + 7 * 0 + 5)), .ref (ad (6 + 7 * 0 + 6)), .int ((V (6 + 7 * 0)) 5), .int ((V (6 + 7 * 0)) 6), .int ((V (6 + 7 * 0)) 0), .int ((V (6 + 7 * 0)) 1), .int ((V (6 + 7 * 0)) 2), .int ((V (6 + 7 * 0)) 3), .int ((V (6 + 7 * 0)) 4)]) (q := (6 + 7 * 0)) (v := .int (V (6 + 7 * 0) 0)) (N := 12) hx hb hts (fun _ h => List.mem_cons_of_mem _ (List.mem_append_left _ (List.mem_append_right _ h))) hown hK hP (by decide) (ce_bd ad cI cB (by decide : 0 < 6) (V (6 + 7 * 0))) rfl 7 (by decide) (hKN.2.1 (.fieldLinkNest RX7 88 "TurnedBoards$Board" "places" "I" "TurnedBoards") (List.mem_of_getElem? (i := 4) rfl)) rfl rfl dX7_quality_4 ?_
  refine lv_if_ne (tgt := 14) hx hb dX7_quality_7 (by decide) (fun c1 => ?_) (fun c1 => ?_)
  · have hE := hE.trans (if_neg c1)
    have hp := pc_bn hp c1
    refine lv_iconst (v := 0) hx hb dX7_quality_14 (by decide) ?_
    refine lv_istore_n (lv' := [(1, .int 0), (0, .ref (ad 0))]) hx hb dX7_quality_15 rfl hl (by decide) rfl (fun ls hl => ?_)
    refine lv_iconst (v := 0) hx hb dX7_quality_16 (by decide) ?_
    refine lv_istore_n (lv' := [(2, .int 0), (1, .int 0), (0, .ref (ad 0))]) hx hb dX7_quality_17 rfl hl (by decide) rfl (fun ls hl => ?_)
    have L1 : ∀ (w1 : Nat) (x1_1 : Int32) (x2_1 : Int32), f_X7_quality fu V = f_X7_quality_l1 fu V  w1 x1_1 x2_1 → p_X7_quality_l1 fu V  w1 x1_1 x2_1 → ∀ (H : Heap) (locs : List Loc), wP D cI cB ad V H → va_S (fun _ => False) s.heap H locs → ∀ (ls : Array Slot), lv_has ls 3 [(0, .ref (ad 0)), (1, .int x1_1), (2, .int x2_1)] → W p l e (headSpec wsX7_quality ({ frames := 5, cells := 0, slots := 0, locals := 109 })).room s m ([.ref (ad 0)] : List Value).toArray below meth c H locs 0 0 (MQ below (cR (f_X7_quality fu V)) ([.ref (ad 0)] : List Value).toArray s 0 0 (fun _ => False)) (F0 m 18 ls []) := by
      intro w1
      induction w1 with
      | zero => intro x1_1 x2_1 hE hp; exact hp.elim
      | succ w1 ih1 =>
        intro x1_1 x2_1 hE hp H locs hP hS ls hl
        rw [f_X7_quality_l1] at hE
        rw [p_X7_quality_l1] at hp
        refine lv_iload_n hx hb dX7_quality_18 rfl (lv_at hl 2 rfl) ?_
        refine lv_aload_n hx hb dX7_quality_19 rfl (lv_at hl 0 rfl) ?_
        refine x_get (ci := 5) (fs := [.ref (ad 6), .ref (ad 13), .ref (ad 4), .ref (ad 2), .ref (ad 1), .int ((V 0) 0)]) (q := 0) (v := .ref (ad 6)) (N := 6) hx hb hts (fun _ h => List.mem_cons_of_mem _ (List.mem_append_left _ (List.mem_append_left _ (List.mem_append_right _ h)))) hown hK hP (by decide) (ce_tb ad cI cB (V 0)) rfl 0 (by decide) (hts (.fieldLink RX7 10 "TurnedBoards" "now" "LTurnedBoards$Board;") (List.mem_of_getElem? (i := 1) rfl)) rfl rfl dX7_quality_20 ?_
        refine x_getN (ci := 0) (fs := [.ref (ad (6 + 7 * 0 + 1)), .ref (ad (6 + 7 * 0 + 3)), .ref (ad (6 + 7 * 0 + 4)), .ref (ad (6 + 7 * 0 + 5)), .ref (ad (6 + 7 * 0 + 6)), .int ((V (6 + 7 * 0)) 5), .int ((V (6 + 7 * 0)) 6), .int ((V (6 + 7 * 0)) 0), .int ((V (6 + 7 * 0)) 1), .int ((V (6 + 7 * 0)) 2), .int ((V (6 + 7 * 0)) 3), .int ((V (6 + 7 * 0)) 4)]) (q := (6 + 7 * 0)) (v := .int (V (6 + 7 * 0) 0)) (N := 12) hx hb hts (fun _ h => List.mem_cons_of_mem _ (List.mem_append_left _ (List.mem_append_right _ h))) hown hK hP (by decide) (ce_bd ad cI cB (by decide : 0 < 6) (V (6 + 7 * 0))) rfl 7 (by decide) (hKN.2.1 (.fieldLinkNest RX7 88 "TurnedBoards$Board" "places" "I" "TurnedBoards") (List.mem_of_getElem? (i := 4) rfl)) rfl rfl dX7_quality_23 ?_
        refine lv_icmp_ge (tgt := 51) hx hb dX7_quality_26 (by decide) (fun c2 => ?_) (fun c2 => ?_)
        · have hE := hE.trans (if_pos c2)
          have hp := pc_br hp c2
          refine lv_iload_n hx hb dX7_quality_51 rfl (lv_at hl 1 rfl) ?_
          refine lv_i2f hx hb dX7_quality_52 ?_
          refine lv_iconst (v := 2) hx hb dX7_quality_53 (by decide) ?_
          refine lv_aload_n hx hb dX7_quality_54 rfl (lv_at hl 0 rfl) ?_
          refine x_get (ci := 5) (fs := [.ref (ad 6), .ref (ad 13), .ref (ad 4), .ref (ad 2), .ref (ad 1), .int ((V 0) 0)]) (q := 0) (v := .ref (ad 6)) (N := 6) hx hb hts (fun _ h => List.mem_cons_of_mem _ (List.mem_append_left _ (List.mem_append_left _ (List.mem_append_right _ h)))) hown hK hP (by decide) (ce_tb ad cI cB (V 0)) rfl 0 (by decide) (hts (.fieldLink RX7 10 "TurnedBoards" "now" "LTurnedBoards$Board;") (List.mem_of_getElem? (i := 1) rfl)) rfl rfl dX7_quality_55 ?_
          refine x_getN (ci := 0) (fs := [.ref (ad (6 + 7 * 0 + 1)), .ref (ad (6 + 7 * 0 + 3)), .ref (ad (6 + 7 * 0 + 4)), .ref (ad (6 + 7 * 0 + 5)), .ref (ad (6 + 7 * 0 + 6)), .int ((V (6 + 7 * 0)) 5), .int ((V (6 + 7 * 0)) 6), .int ((V (6 + 7 * 0)) 0), .int ((V (6 + 7 * 0)) 1), .int ((V (6 + 7 * 0)) 2), .int ((V (6 + 7 * 0)) 3), .int ((V (6 + 7 * 0)) 4)]) (q := (6 + 7 * 0)) (v := .int (V (6 + 7 * 0) 0)) (N := 12) hx hb hts (fun _ h => List.mem_cons_of_mem _ (List.mem_append_left _ (List.mem_append_right _ h))) hown hK hP (by decide) (ce_bd ad cI cB (by decide : 0 < 6) (V (6 + 7 * 0))) rfl 7 (by decide) (hKN.2.1 (.fieldLinkNest RX7 88 "TurnedBoards$Board" "places" "I" "TurnedBoards") (List.mem_of_getElem? (i := 4) rfl)) rfl rfl dX7_quality_58 ?_
          refine lv_imul hx hb dX7_quality_61 ?_
          refine lv_i2f hx hb dX7_quality_62 ?_
          obtain ⟨hn1, hp⟩ := hp
          refine lv_fdiv hx hb dX7_quality_63 hn1 ?_
          have hn2 := hp
          refine k_SR (As := [.float (FP.fdiv (FP.i2f x1_1) (FP.i2f (2 * (V (6 + 7 * 0) 0))))]) (rest := []) ⟨hx, hb, hml, hown, hts⟩ hKN hP hS (m_X7_bitsOf l D cI cB ad fu V (FP.fdiv (FP.i2f x1_1) (FP.i2f (2 * (V (6 + 7 * 0) 0)))) hn2) (va_cwS 1 hts gX7_quality_X7_bitsOf rfl rfl rfl (by decide +kernel) ⟨(Nat.le_of_ble_eq_true rfl), (Nat.le_of_ble_eq_true rfl)⟩) rfl hl.1 rfl (Nat.le_of_ble_eq_true rfl) dX7_quality_64 ⟨Nat.zero_le _, Nat.zero_le _⟩ (fun H locs hP hS => ?_)
          exact W.iret (v := (f_X7_bitsOf fu V (FP.fdiv (FP.i2f x1_1) (FP.i2f (2 * (V (6 + 7 * 0) 0)))))) hx hb hr (fun t ht hW => ⟨⟨(f_X7_bitsOf fu V (FP.fdiv (FP.i2f x1_1) (FP.i2f (2 * (V (6 + 7 * 0) 0))))), (), rfl, hE.symm, trivial⟩, hS.F ht⟩) hS.2.2 dX7_quality_67
        · have hE := hE.trans (if_neg c2)
          have hp := pc_bn hp c2
          refine lv_iload_n hx hb dX7_quality_29 rfl (lv_at hl 1 rfl) ?_
          refine lv_aload_n hx hb dX7_quality_30 rfl (lv_at hl 0 rfl) ?_
          refine lv_iload_n hx hb dX7_quality_31 rfl (lv_at hl 2 rfl) ?_
          refine lv_iconst (v := 0) hx hb dX7_quality_32 (by decide) ?_
          obtain ⟨hn3, hp⟩ := hp
          refine k_VR (As := [.int x2_1, .int 0]) (rest := [.int x1_1]) (q := 0) ⟨hx, hb, hml, hown, hts⟩ hKN hP hS (m_X7_marginOrZero l D cI cB ad fu V x2_1 0 hn3) (cwV 2 hts gX7_quality_X7_marginOrZero rfl rfl rfl (by decide +kernel) ⟨(Nat.le_of_ble_eq_true rfl), (Nat.le_of_ble_eq_true rfl)⟩) (c_preV hP hKN (q := 0) (ci := 5) (fs := [.ref (ad 6), .ref (ad 13), .ref (ad 4), .ref (ad 2), .ref (ad 1), .int ((V 0) 0)]) (by decide) (ce_tb ad cI cB (V 0)) rfl rfl) rfl hl.1 rfl (Nat.le_of_ble_eq_true rfl) dX7_quality_33 ⟨Nat.zero_le _, Nat.zero_le _⟩ (fun H locs hP hS => ?_)
          refine lv_aload_n hx hb dX7_quality_36 rfl (lv_at hl 0 rfl) ?_
          refine lv_iload_n hx hb dX7_quality_37 rfl (lv_at hl 2 rfl) ?_
          refine lv_iconst (v := 1) hx hb dX7_quality_38 (by decide) ?_
          obtain ⟨hn4, hp⟩ := hp
          refine k_VR (As := [.int x2_1, .int 1]) (rest := [.int (f_X7_marginOrZero fu V x2_1 0), .int x1_1]) (q := 0) ⟨hx, hb, hml, hown, hts⟩ hKN hP hS (m_X7_marginOrZero l D cI cB ad fu V x2_1 1 hn4) (cwV 2 hts gX7_quality_X7_marginOrZero rfl rfl rfl (by decide +kernel) ⟨(Nat.le_of_ble_eq_true rfl), (Nat.le_of_ble_eq_true rfl)⟩) (c_preV hP hKN (q := 0) (ci := 5) (fs := [.ref (ad 6), .ref (ad 13), .ref (ad 4), .ref (ad 2), .ref (ad 1), .int ((V 0) 0)]) (by decide) (ce_tb ad cI cB (V 0)) rfl rfl) rfl hl.1 rfl (Nat.le_of_ble_eq_true rfl) dX7_quality_39 ⟨Nat.zero_le _, Nat.zero_le _⟩ (fun H locs hP hS => ?_)
          refine lv_iadd hx hb dX7_quality_42 ?_
          refine lv_iadd hx hb dX7_quality_43 ?_
          refine lv_istore_n (lv' := [(1, .int (x1_1 + ((f_X7_marginOrZero fu V x2_1 0) + (f_X7_marginOrZero fu V x2_1 1)))), (0, .ref (ad 0)), (2, .int x2_1)]) hx hb dX7_quality_44 rfl hl (by decide) rfl (fun ls hl => ?_)
          refine lv_iinc (v := (x2_1 + 1)) (lv' := [(2, .int (x2_1 + 1)), (1, .int (x1_1 + ((f_X7_marginOrZero fu V x2_1 0) + (f_X7_marginOrZero fu V x2_1 1)))), (0, .ref (ad 0))]) hx hb dX7_quality_45 hl (k := 2) rfl (by rfl) (by decide) rfl (fun ls hl => ?_)
          refine lv_goto (tgt := 18) hx hb dX7_quality_48 (by decide) ?_
          exact ih1 (x1_1 + ((f_X7_marginOrZero fu V x2_1 0) + (f_X7_marginOrZero fu V x2_1 1))) (x2_1 + 1) hE hp H locs hP hS ls (lv_sub hl [2, 1, 0] rfl)
    exact L1 fu 0 0 hE hp _ _ hP hS _ (lv_sub hl [2, 1, 0] rfl)
  · have hE := hE.trans (if_pos c1)
    refine lv_sipush (v := (-1004)) hx hb dX7_quality_10 (by decide) ?_
    exact W.iret (v := (-1004)) hx hb hr (fun t ht hW => ⟨⟨(-1004), (), rfl, hE.symm, trivial⟩, hS.F ht⟩) hS.2.2 dX7_quality_13
def f_X7_bareIn_l1 (fu : Nat) (V : VT)  : Nat → Int32 → Int32 → Int32
  | 0, x1_1, x2_1 => 0
  | w1 + 1, x1_1, x2_1 => (if (V (6 + 7 * 0) 0) ≤ x2_1 then (if x1_1 ≤ 9 then x1_1 else (-1004)) else (if (f_X0_fades V 0 x2_1) = 0 then (f_X7_bareIn_l1 fu V  w1 x1_1 (x2_1 + 1)) else (f_X7_bareIn_l1 fu V  w1 (if (f_X0_coatsAt V 0 x2_1) < x1_1 then (f_X0_coatsAt V 0 x2_1) else x1_1) (x2_1 + 1))))
def p_X7_bareIn_l1 (fu : Nat) (V : VT)  : Nat → Int32 → Int32 → Prop
  | 0, _, _ => False
  | w1 + 1, x1_1, x2_1 => (((V (6 + 7 * 0) 0) ≤ x2_1 → True) ∧ (¬ ((V (6 + 7 * 0) 0) ≤ x2_1) → (((f_X0_fades V 0 x2_1) = 0 → (p_X7_bareIn_l1 fu V  w1 x1_1 (x2_1 + 1))) ∧ (¬ ((f_X0_fades V 0 x2_1) = 0) → (p_X7_bareIn_l1 fu V  w1 (if (f_X0_coatsAt V 0 x2_1) < x1_1 then (f_X0_coatsAt V 0 x2_1) else x1_1) (x2_1 + 1))))))
def f_X7_bareIn (fu : Nat) (V : VT)  : Int32 := (f_X7_bareIn_l1 fu V  fu 10 0)
def p_X7_bareIn (fu : Nat) (V : VT)  : Prop := (p_X7_bareIn_l1 fu V  fu 10 0)
set_option maxHeartbeats 4000000 in
set_option maxRecDepth 100000 in
theorem m_X7_bareIn (l : Launch) (D : va_G) (cI cB : ClassId) (ad : Nat → Nat) (fu : Nat) (V : VT)   (hp : p_X7_bareIn fu V ) : Met l yX7_bareIn wsX7_bareIn ({ frames := 3, cells := 0, slots := 0, locals := 63 }) (cP D cI cB ad V [.ref (ad 0)]) (cR (f_X7_bareIn fu V)) 0 0 (fun _ => False) := by
  refine Met.ofW (cc := cX7_bareIn) (maxL := 3) (ret := (some .int)) (by decide +kernel) rfl ?_
  intro p e s m args below meth c s₁ B hml hv
  obtain ⟨rfl, hP, hKN⟩ := hv
  have hK := hKN.1
  have hx := B.exec
  have hb := B.bytes
  have hr := B.returns
  have hts := atoms_spec (ws := wsX7_bareIn) B.pre
  have hown : s.vm.findClass RX7 = some m.cls := findClass_of_methodNamed B.named
  have hlocks := B.notSynchronized
  have hS : va_S (fun _ => False) s.heap s.heap [] := va_S.rf
  have hl := lv_entry ([.ref (ad 0)]) (n := 3) (Nat.le_of_ble_eq_true rfl)
  rw [lg_entry_eq]
  generalize (lg_sl ([.ref (ad 0)]) ++ List.replicate (3 - (lg_sl ([.ref (ad 0)])).length) Slot.unset).toArray = ls at hl ⊢
  have hl : lv_has ls 3 [(0, .ref (ad 0))] := hl
  have hE : f_X7_bareIn fu V = (f_X7_bareIn_l1 fu V  fu 10 0) := rfl
  refine lv_bipush (v := 10) hx hb dX7_bareIn_0 (by decide) ?_
  refine lv_istore_n (lv' := [(1, .int 10), (0, .ref (ad 0))]) hx hb dX7_bareIn_2 rfl hl (by decide) rfl (fun ls hl => ?_)
  refine lv_iconst (v := 0) hx hb dX7_bareIn_3 (by decide) ?_
  refine lv_istore_n (lv' := [(2, .int 0), (1, .int 10), (0, .ref (ad 0))]) hx hb dX7_bareIn_4 rfl hl (by decide) rfl (fun ls hl => ?_)
  have L1 : ∀ (w1 : Nat) (x1_1 : Int32) (x2_1 : Int32), f_X7_bareIn fu V = f_X7_bareIn_l1 fu V  w1 x1_1 x2_1 → p_X7_bareIn_l1 fu V  w1 x1_1 x2_1 → ∀ (H : Heap) (locs : List Loc), wP D cI cB ad V H → va_S (fun _ => False) s.heap H locs → ∀ (ls : Array Slot), lv_has ls 3 [(0, .ref (ad 0)), (1, .int x1_1), (2, .int x2_1)] → W p l e (headSpec wsX7_bareIn ({ frames := 3, cells := 0, slots := 0, locals := 63 })).room s m ([.ref (ad 0)] : List Value).toArray below meth c H locs 0 0 (MQ below (cR (f_X7_bareIn fu V)) ([.ref (ad 0)] : List Value).toArray s 0 0 (fun _ => False)) (F0 m 5 ls []) := by
    intro w1
    induction w1 with
    | zero => intro x1_1 x2_1 hE hp; exact hp.elim
    | succ w1 ih1 =>
      intro x1_1 x2_1 hE hp H locs hP hS ls hl
      rw [f_X7_bareIn_l1] at hE
      rw [p_X7_bareIn_l1] at hp
      refine lv_iload_n hx hb dX7_bareIn_5 rfl (lv_at hl 2 rfl) ?_
      refine lv_aload_n hx hb dX7_bareIn_6 rfl (lv_at hl 0 rfl) ?_
      refine x_get (ci := 5) (fs := [.ref (ad 6), .ref (ad 13), .ref (ad 4), .ref (ad 2), .ref (ad 1), .int ((V 0) 0)]) (q := 0) (v := .ref (ad 6)) (N := 6) hx hb hts (fun _ h => List.mem_cons_of_mem _ (List.mem_append_left _ (List.mem_append_right _ h))) hown hK hP (by decide) (ce_tb ad cI cB (V 0)) rfl 0 (by decide) (hts (.fieldLink RX7 10 "TurnedBoards" "now" "LTurnedBoards$Board;") (List.mem_of_getElem? (i := 1) rfl)) rfl rfl dX7_bareIn_7 ?_
      refine x_getN (ci := 0) (fs := [.ref (ad (6 + 7 * 0 + 1)), .ref (ad (6 + 7 * 0 + 3)), .ref (ad (6 + 7 * 0 + 4)), .ref (ad (6 + 7 * 0 + 5)), .ref (ad (6 + 7 * 0 + 6)), .int ((V (6 + 7 * 0)) 5), .int ((V (6 + 7 * 0)) 6), .int ((V (6 + 7 * 0)) 0), .int ((V (6 + 7 * 0)) 1), .int ((V (6 + 7 * 0)) 2), .int ((V (6 + 7 * 0)) 3), .int ((V (6 + 7 * 0)) 4)]) (q := (6 + 7 * 0)) (v := .int (V (6 + 7 * 0) 0)) (N := 12) hx hb hts (fun _ h => List.mem_cons_of_mem _ (List.mem_append_right _ h)) hown hK hP (by decide) (ce_bd ad cI cB (by decide : 0 < 6) (V (6 + 7 * 0))) rfl 7 (by decide) (hKN.2.1 (.fieldLinkNest RX7 88 "TurnedBoards$Board" "places" "I" "TurnedBoards") (List.mem_of_getElem? (i := 4) rfl)) rfl rfl dX7_bareIn_10 ?_
      refine lv_icmp_ge (tgt := 46) hx hb dX7_bareIn_13 (by decide) (fun c1 => ?_) (fun c1 => ?_)
      · have hE := hE.trans (if_pos c1)
        refine lv_iload_n hx hb dX7_bareIn_46 rfl (lv_at hl 1 rfl) ?_
        refine lv_bipush (v := 9) hx hb dX7_bareIn_47 (by decide) ?_
        refine lv_icmp_le (tgt := 58) hx hb dX7_bareIn_49 (by decide) (fun c2 => ?_) (fun c2 => ?_)
        · have hE := hE.trans (if_pos c2)
          refine lv_iload_n hx hb dX7_bareIn_58 rfl (lv_at hl 1 rfl) ?_
          exact W.iret (v := x1_1) hx hb hr (fun t ht hW => ⟨⟨x1_1, (), rfl, hE.symm, trivial⟩, hS.F ht⟩) hS.2.2 dX7_bareIn_59
        · have hE := hE.trans (if_neg c2)
          refine lv_sipush (v := (-1004)) hx hb dX7_bareIn_52 (by decide) ?_
          refine lv_goto (tgt := 59) hx hb dX7_bareIn_55 (by decide) ?_
          exact W.iret (v := (-1004)) hx hb hr (fun t ht hW => ⟨⟨(-1004), (), rfl, hE.symm, trivial⟩, hS.F ht⟩) hS.2.2 dX7_bareIn_59
      · have hE := hE.trans (if_neg c1)
        have hp := pc_bn hp c1
        refine lv_aload_n hx hb dX7_bareIn_16 rfl (lv_at hl 0 rfl) ?_
        refine x_get (ci := 5) (fs := [.ref (ad 6), .ref (ad 13), .ref (ad 4), .ref (ad 2), .ref (ad 1), .int ((V 0) 0)]) (q := 0) (v := .ref (ad 6)) (N := 6) hx hb hts (fun _ h => List.mem_cons_of_mem _ (List.mem_append_left _ (List.mem_append_right _ h))) hown hK hP (by decide) (ce_tb ad cI cB (V 0)) rfl 0 (by decide) (hts (.fieldLink RX7 10 "TurnedBoards" "now" "LTurnedBoards$Board;") (List.mem_of_getElem? (i := 1) rfl)) rfl rfl dX7_bareIn_17 ?_
        refine lv_iload_n hx hb dX7_bareIn_20 rfl (lv_at hl 2 rfl) ?_
        refine k_VR (As := [.int x2_1]) (rest := []) (q := (6 + 7 * 0)) ⟨hx, hb, hml, hown, hts⟩ hKN hP hS (m_X0_fades l D cI cB ad V 0 x2_1 (by decide : 0 < 6)) (cwV 1 hts gX7_bareIn_X0_fades rfl rfl rfl (by decide +kernel) ⟨(Nat.le_of_ble_eq_true rfl), (Nat.le_of_ble_eq_true rfl)⟩) (c_preV hP hKN (q := (6 + 7 * 0)) (ci := 0) (fs := [.ref (ad (6 + 7 * 0 + 1)), .ref (ad (6 + 7 * 0 + 3)), .ref (ad (6 + 7 * 0 + 4)), .ref (ad (6 + 7 * 0 + 5)), .ref (ad (6 + 7 * 0 + 6)), .int ((V (6 + 7 * 0)) 5), .int ((V (6 + 7 * 0)) 6), .int ((V (6 + 7 * 0)) 0), .int ((V (6 + 7 * 0)) 1), .int ((V (6 + 7 * 0)) 2), .int ((V (6 + 7 * 0)) 3), .int ((V (6 + 7 * 0)) 4)]) (by decide) (ce_bd ad cI cB (by decide : 0 < 6) (V (6 + 7 * 0))) rfl rfl) rfl hl.1 rfl (Nat.le_of_ble_eq_true rfl) dX7_bareIn_21 ⟨Nat.zero_le _, Nat.zero_le _⟩ (fun H locs hP hS => ?_)
        refine lv_if_eq (tgt := 40) hx hb dX7_bareIn_24 (by decide) (fun c3 => ?_) (fun c3 => ?_)
        · have hE := hE.trans (if_pos c3)
          have hp := pc_br hp c3
          refine lv_iinc (v := (x2_1 + 1)) (lv' := [(2, .int (x2_1 + 1)), (0, .ref (ad 0)), (1, .int x1_1)]) hx hb dX7_bareIn_40 hl (k := 2) rfl (by rfl) (by decide) rfl (fun ls hl => ?_)
          refine lv_goto (tgt := 5) hx hb dX7_bareIn_43 (by decide) ?_
          exact ih1 x1_1 (x2_1 + 1) hE hp H locs hP hS ls (lv_sub hl [1, 2, 0] rfl)
        · have hE := hE.trans (if_neg c3)
          have hp := pc_bn hp c3
          refine lv_iload_n hx hb dX7_bareIn_27 rfl (lv_at hl 1 rfl) ?_
          refine lv_aload_n hx hb dX7_bareIn_28 rfl (lv_at hl 0 rfl) ?_
          refine x_get (ci := 5) (fs := [.ref (ad 6), .ref (ad 13), .ref (ad 4), .ref (ad 2), .ref (ad 1), .int ((V 0) 0)]) (q := 0) (v := .ref (ad 6)) (N := 6) hx hb hts (fun _ h => List.mem_cons_of_mem _ (List.mem_append_left _ (List.mem_append_right _ h))) hown hK hP (by decide) (ce_tb ad cI cB (V 0)) rfl 0 (by decide) (hts (.fieldLink RX7 10 "TurnedBoards" "now" "LTurnedBoards$Board;") (List.mem_of_getElem? (i := 1) rfl)) rfl rfl dX7_bareIn_29 ?_
          refine lv_iload_n hx hb dX7_bareIn_32 rfl (lv_at hl 2 rfl) ?_
          refine k_VR (As := [.int x2_1]) (rest := [.int x1_1]) (q := (6 + 7 * 0)) ⟨hx, hb, hml, hown, hts⟩ hKN hP hS (m_X0_coatsAt l D cI cB ad V 0 x2_1 (by decide : 0 < 6)) (cwV 1 hts gX7_bareIn_X0_coatsAt rfl rfl rfl (by decide +kernel) ⟨(Nat.le_of_ble_eq_true rfl), (Nat.le_of_ble_eq_true rfl)⟩) (c_preV hP hKN (q := (6 + 7 * 0)) (ci := 0) (fs := [.ref (ad (6 + 7 * 0 + 1)), .ref (ad (6 + 7 * 0 + 3)), .ref (ad (6 + 7 * 0 + 4)), .ref (ad (6 + 7 * 0 + 5)), .ref (ad (6 + 7 * 0 + 6)), .int ((V (6 + 7 * 0)) 5), .int ((V (6 + 7 * 0)) 6), .int ((V (6 + 7 * 0)) 0), .int ((V (6 + 7 * 0)) 1), .int ((V (6 + 7 * 0)) 2), .int ((V (6 + 7 * 0)) 3), .int ((V (6 + 7 * 0)) 4)]) (by decide) (ce_bd ad cI cB (by decide : 0 < 6) (V (6 + 7 * 0))) rfl rfl) rfl hl.1 rfl (Nat.le_of_ble_eq_true rfl) dX7_bareIn_33 ⟨Nat.zero_le _, Nat.zero_le _⟩ (fun H locs hP hS => ?_)
          refine va_mmin hx hb (hml.trans hl.1.symm) hown (hts (.methodLink RX7 211 Lib.Math.min.name) (List.mem_of_getElem? (i := 2) rfl)) (hts (.static Lib.Math.min.name) (List.mem_of_getElem? (i := 3) rfl)) (hts (.initialized "java/lang/Math") (List.mem_of_getElem? (i := 4) rfl)) (hts (.code Lib.Math.min.name Lib.Math.min.code 2 (some .int)) (List.mem_of_getElem? (i := 5) rfl)) (Nat.le_of_ble_eq_true rfl) (Nat.le_of_ble_eq_true rfl) (Nat.zero_le _) (Nat.zero_le _) dX7_bareIn_36 ?_
          refine lv_istore_n (lv' := [(1, .int (if (f_X0_coatsAt V 0 x2_1) < x1_1 then (f_X0_coatsAt V 0 x2_1) else x1_1)), (0, .ref (ad 0)), (2, .int x2_1)]) hx hb dX7_bareIn_39 rfl hl (by decide) rfl (fun ls hl => ?_)
          refine lv_iinc (v := (x2_1 + 1)) (lv' := [(2, .int (x2_1 + 1)), (1, .int (if (f_X0_coatsAt V 0 x2_1) < x1_1 then (f_X0_coatsAt V 0 x2_1) else x1_1)), (0, .ref (ad 0))]) hx hb dX7_bareIn_40 hl (k := 2) rfl (by rfl) (by decide) rfl (fun ls hl => ?_)
          refine lv_goto (tgt := 5) hx hb dX7_bareIn_43 (by decide) ?_
          exact ih1 (if (f_X0_coatsAt V 0 x2_1) < x1_1 then (f_X0_coatsAt V 0 x2_1) else x1_1) (x2_1 + 1) hE hp H locs hP hS ls (lv_sub hl [2, 1, 0] rfl)
  exact L1 fu 10 0 hE hp _ _ hP hS _ (lv_sub hl [2, 1, 0] rfl)
def f_X7_keep (fu : Nat) (V : VT)  : Int32 × VT := (((upV (f_X0_copyFrom fu V 1 0) 0 0 1) (6 + 7 * 0) 0), (upV (f_X0_copyFrom fu V 1 0) 0 0 1))
def p_X7_keep (fu : Nat) (V : VT)  : Prop := (p_X0_copyFrom fu V 1 0)
set_option maxHeartbeats 4000000 in
set_option maxRecDepth 100000 in
theorem m_X7_keep (l : Launch) (D : va_G) (cI cB : ClassId) (ad : Nat → Nat) {A : Nat → Prop} (hA : adOk ad A) (fu : Nat) (V : VT)   (hp : p_X7_keep fu V ) : Met l yX7_keep wsX7_keep ({ frames := 3, cells := 0, slots := 0, locals := 64 }) (cP D cI cB ad V [.ref (ad 0)]) (cWi D cI cB ad A (f_X7_keep fu V)) 0 0 A := by
  refine Met.ofW (cc := cX7_keep) (maxL := 1) (ret := (some .int)) (by decide +kernel) rfl ?_
  intro p e s m args below meth c s₁ B hml hv
  obtain ⟨rfl, hP, hKN⟩ := hv
  have hK := hKN.1
  have hx := B.exec
  have hb := B.bytes
  have hr := B.returns
  have hts := atoms_spec (ws := wsX7_keep) B.pre
  have hown : s.vm.findClass RX7 = some m.cls := findClass_of_methodNamed B.named
  have hlocks := B.notSynchronized
  have hS : va_S A s.heap s.heap [] := va_S.rf
  have hl := lv_entry ([.ref (ad 0)]) (n := 1) (Nat.le_of_ble_eq_true rfl)
  rw [lg_entry_eq]
  generalize (lg_sl ([.ref (ad 0)]) ++ List.replicate (1 - (lg_sl ([.ref (ad 0)])).length) Slot.unset).toArray = ls at hl ⊢
  have hl : lv_has ls 1 [(0, .ref (ad 0))] := hl
  have hE : f_X7_keep fu V = (((upV (f_X0_copyFrom fu V 1 0) 0 0 1) (6 + 7 * 0) 0), (upV (f_X0_copyFrom fu V 1 0) 0 0 1)) := rfl
  refine lv_aload_n hx hb dX7_keep_0 rfl (lv_at hl 0 rfl) ?_
  refine x_get (ci := 5) (fs := [.ref (ad 6), .ref (ad 13), .ref (ad 4), .ref (ad 2), .ref (ad 1), .int ((V 0) 0)]) (q := 0) (v := .ref (ad 13)) (N := 6) hx hb hts (fun _ h => List.mem_cons_of_mem _ (List.mem_append_left _ (List.mem_append_left _ (List.mem_append_right _ h)))) hown hK hP (by decide) (ce_tb ad cI cB (V 0)) rfl 1 (by decide) (hts (.fieldLink RX7 16 "TurnedBoards" "snapshot" "LTurnedBoards$Board;") (List.mem_of_getElem? (i := 1) rfl)) rfl rfl dX7_keep_1 ?_
  refine lv_aload_n hx hb dX7_keep_4 rfl (lv_at hl 0 rfl) ?_
  refine x_get (ci := 5) (fs := [.ref (ad 6), .ref (ad 13), .ref (ad 4), .ref (ad 2), .ref (ad 1), .int ((V 0) 0)]) (q := 0) (v := .ref (ad 6)) (N := 6) hx hb hts (fun _ h => List.mem_cons_of_mem _ (List.mem_append_left _ (List.mem_append_left _ (List.mem_append_right _ h)))) hown hK hP (by decide) (ce_tb ad cI cB (V 0)) rfl 0 (by decide) (hts (.fieldLink RX7 10 "TurnedBoards" "now" "LTurnedBoards$Board;") (List.mem_of_getElem? (i := 2) rfl)) rfl rfl dX7_keep_5 ?_
  have hn1 := hp
  refine k_VWv (As := [.ref (ad 6)]) (rest := []) (q := (6 + 7 * 1)) ⟨hx, hb, hml, hown, hts⟩ hKN hP hS (m_X0_copyFrom l D cI cB ad hA fu V 1 0 (by decide : 1 < 6) (by decide : 0 < 6) hn1) (cwV 1 hts gX7_keep_X0_copyFrom rfl rfl rfl (by decide +kernel) ⟨(Nat.le_of_ble_eq_true rfl), (Nat.le_of_ble_eq_true rfl)⟩) (c_preV hP hKN (q := (6 + 7 * 1)) (ci := 0) (fs := [.ref (ad (6 + 7 * 1 + 1)), .ref (ad (6 + 7 * 1 + 3)), .ref (ad (6 + 7 * 1 + 4)), .ref (ad (6 + 7 * 1 + 5)), .ref (ad (6 + 7 * 1 + 6)), .int ((V (6 + 7 * 1)) 5), .int ((V (6 + 7 * 1)) 6), .int ((V (6 + 7 * 1)) 0), .int ((V (6 + 7 * 1)) 1), .int ((V (6 + 7 * 1)) 2), .int ((V (6 + 7 * 1)) 3), .int ((V (6 + 7 * 1)) 4)]) (by decide) (ce_bd ad cI cB (by decide : 1 < 6) (V (6 + 7 * 1))) rfl rfl) rfl hl.1 rfl (Nat.le_of_ble_eq_true rfl) dX7_keep_8 ⟨Nat.zero_le _, Nat.zero_le _⟩ (fun H locs hP hS => ?_)
  refine lv_aload_n hx hb dX7_keep_11 rfl (lv_at hl 0 rfl) ?_
  refine lv_iconst (v := 1) hx hb dX7_keep_12 (by decide) ?_
  refine x_put (ci := 5) (fs := [.ref (ad 6), .ref (ad 13), .ref (ad 4), .ref (ad 2), .ref (ad 1), .int (((f_X0_copyFrom fu V 1 0) 0) 0)]) (q := 0) (v := .int 1) (ty := .boolean) (N := 6) hx hb hts (fun _ h => List.mem_cons_of_mem _ (List.mem_append_left _ (List.mem_append_left _ (List.mem_append_right _ h)))) tyX7 tyX7_ok nmX7 hown hK hP hA hS (by decide) (ce_tb ad cI cB ((f_X0_copyFrom fu V 1 0) 0)) rfl 5 (by decide) (hts (.fieldLink RX7 40 "TurnedBoards" "hasSnapshot" "Z") (List.mem_of_getElem? (i := 3) rfl)) rfl rfl (by decide +kernel) rfl rfl (Nat.le_of_ble_eq_true rfl) 0 1 ((ce_tb ad cI cB (upd ((f_X0_copyFrom fu V 1 0) 0) 0 1)).trans rfl) dX7_keep_13 (fun H locs hP hS => ?_)
  refine lv_aload_n hx hb dX7_keep_16 rfl (lv_at hl 0 rfl) ?_
  refine x_get (ci := 5) (fs := [.ref (ad 6), .ref (ad 13), .ref (ad 4), .ref (ad 2), .ref (ad 1), .int (((upV (f_X0_copyFrom fu V 1 0) 0 0 1) 0) 0)]) (q := 0) (v := .ref (ad 6)) (N := 6) hx hb hts (fun _ h => List.mem_cons_of_mem _ (List.mem_append_left _ (List.mem_append_left _ (List.mem_append_right _ h)))) hown hK hP (by decide) (ce_tb ad cI cB ((upV (f_X0_copyFrom fu V 1 0) 0 0 1) 0)) rfl 0 (by decide) (hts (.fieldLink RX7 10 "TurnedBoards" "now" "LTurnedBoards$Board;") (List.mem_of_getElem? (i := 2) rfl)) rfl rfl dX7_keep_17 ?_
  refine x_getN (ci := 0) (fs := [.ref (ad (6 + 7 * 0 + 1)), .ref (ad (6 + 7 * 0 + 3)), .ref (ad (6 + 7 * 0 + 4)), .ref (ad (6 + 7 * 0 + 5)), .ref (ad (6 + 7 * 0 + 6)), .int (((upV (f_X0_copyFrom fu V 1 0) 0 0 1) (6 + 7 * 0)) 5), .int (((upV (f_X0_copyFrom fu V 1 0) 0 0 1) (6 + 7 * 0)) 6), .int (((upV (f_X0_copyFrom fu V 1 0) 0 0 1) (6 + 7 * 0)) 0), .int (((upV (f_X0_copyFrom fu V 1 0) 0 0 1) (6 + 7 * 0)) 1), .int (((upV (f_X0_copyFrom fu V 1 0) 0 0 1) (6 + 7 * 0)) 2), .int (((upV (f_X0_copyFrom fu V 1 0) 0 0 1) (6 + 7 * 0)) 3), .int (((upV (f_X0_copyFrom fu V 1 0) 0 0 1) (6 + 7 * 0)) 4)]) (q := (6 + 7 * 0)) (v := .int ((upV (f_X0_copyFrom fu V 1 0) 0 0 1) (6 + 7 * 0) 0)) (N := 12) hx hb hts (fun _ h => List.mem_cons_of_mem _ (List.mem_append_left _ (List.mem_append_right _ h))) hown hK hP (by decide) (ce_bd ad cI cB (by decide : 0 < 6) ((upV (f_X0_copyFrom fu V 1 0) 0 0 1) (6 + 7 * 0))) rfl 7 (by decide) (hKN.2.1 (.fieldLinkNest RX7 88 "TurnedBoards$Board" "places" "I" "TurnedBoards") (List.mem_of_getElem? (i := 4) rfl)) rfl rfl dX7_keep_20 ?_
  exact W.iret (v := ((upV (f_X0_copyFrom fu V 1 0) 0 0 1) (6 + 7 * 0) 0)) hx hb hr (fun t ht hW => ⟨⟨((upV (f_X0_copyFrom fu V 1 0) 0 0 1) (6 + 7 * 0) 0), (upV (f_X0_copyFrom fu V 1 0) 0 0 1), rfl, ⟨(congrArg Prod.fst hE).symm, (congrArg Prod.snd hE).symm⟩, by dsimp only; rw [ht]; exact hP⟩, hS.F ht⟩) hS.2.2 dX7_keep_23
def f_X7_restore (fu : Nat) (V : VT)  : Int32 × VT := (if (V 0 0) = 0 then ((-1002), V) else (((f_X0_copyFrom fu (f_X2_push fu V 0) 0 1) (6 + 7 * 0) 0), (f_X0_copyFrom fu (f_X2_push fu V 0) 0 1)))
def p_X7_restore (fu : Nat) (V : VT)  : Prop := (((V 0 0) = 0 → True) ∧ (¬ ((V 0 0) = 0) → ((p_X2_push fu V 0) ∧ (p_X0_copyFrom fu (f_X2_push fu V 0) 0 1))))
set_option maxHeartbeats 4000000 in
set_option maxRecDepth 100000 in
theorem m_X7_restore (l : Launch) (D : va_G) (cI cB : ClassId) (ad : Nat → Nat) {A : Nat → Prop} (hA : adOk ad A) (fu : Nat) (V : VT)   (hp : p_X7_restore fu V ) : Met l yX7_restore wsX7_restore ({ frames := 4, cells := 0, slots := 0, locals := 86 }) (cP D cI cB ad V [.ref (ad 0)]) (cWi D cI cB ad A (f_X7_restore fu V)) 0 0 A := by
  refine Met.ofW (cc := cX7_restore) (maxL := 1) (ret := (some .int)) (by decide +kernel) rfl ?_
  intro p e s m args below meth c s₁ B hml hv
  obtain ⟨rfl, hP, hKN⟩ := hv
  have hK := hKN.1
  have hx := B.exec
  have hb := B.bytes
  have hr := B.returns
  have hts := atoms_spec (ws := wsX7_restore) B.pre
  have hown : s.vm.findClass RX7 = some m.cls := findClass_of_methodNamed B.named
  have hlocks := B.notSynchronized
  have hS : va_S A s.heap s.heap [] := va_S.rf
  have hl := lv_entry ([.ref (ad 0)]) (n := 1) (Nat.le_of_ble_eq_true rfl)
  rw [lg_entry_eq]
  generalize (lg_sl ([.ref (ad 0)]) ++ List.replicate (1 - (lg_sl ([.ref (ad 0)])).length) Slot.unset).toArray = ls at hl ⊢
  have hl : lv_has ls 1 [(0, .ref (ad 0))] := hl
  have hE : f_X7_restore fu V = (if (V 0 0) = 0 then ((-1002), V) else (((f_X0_copyFrom fu (f_X2_push fu V 0) 0 1) (6 + 7 * 0) 0), (f_X0_copyFrom fu (f_X2_push fu V 0) 0 1))) := rfl
  refine lv_aload_n hx hb dX7_restore_0 rfl (lv_at hl 0 rfl) ?_
  refine x_get (ci := 5) (fs := [.ref (ad 6), .ref (ad 13), .ref (ad 4), .ref (ad 2), .ref (ad 1), .int ((V 0) 0)]) (q := 0) (v := .int (V 0 0)) (N := 6) hx hb hts (fun _ h => List.mem_cons_of_mem _ (List.mem_append_left _ (List.mem_append_left _ (List.mem_append_left _ (List.mem_append_right _ h))))) hown hK hP (by decide) (ce_tb ad cI cB (V 0)) rfl 5 (by decide) (hts (.fieldLink RX7 40 "TurnedBoards" "hasSnapshot" "Z") (List.mem_of_getElem? (i := 1) rfl)) rfl rfl dX7_restore_1 ?_
  refine lv_if_ne (tgt := 11) hx hb dX7_restore_4 (by decide) (fun c1 => ?_) (fun c1 => ?_)
  · have hE := hE.trans (if_neg c1)
    have hp := pc_bn hp c1
    refine lv_aload_n hx hb dX7_restore_11 rfl (lv_at hl 0 rfl) ?_
    refine x_get (ci := 5) (fs := [.ref (ad 6), .ref (ad 13), .ref (ad 4), .ref (ad 2), .ref (ad 1), .int ((V 0) 0)]) (q := 0) (v := .ref (ad 4)) (N := 6) hx hb hts (fun _ h => List.mem_cons_of_mem _ (List.mem_append_left _ (List.mem_append_left _ (List.mem_append_left _ (List.mem_append_right _ h))))) hown hK hP (by decide) (ce_tb ad cI cB (V 0)) rfl 2 (by decide) (hts (.fieldLink RX7 22 "TurnedBoards" "history" "LTurnedBoards$History;") (List.mem_of_getElem? (i := 2) rfl)) rfl rfl dX7_restore_12 ?_
    refine lv_aload_n hx hb dX7_restore_15 rfl (lv_at hl 0 rfl) ?_
    refine x_get (ci := 5) (fs := [.ref (ad 6), .ref (ad 13), .ref (ad 4), .ref (ad 2), .ref (ad 1), .int ((V 0) 0)]) (q := 0) (v := .ref (ad 6)) (N := 6) hx hb hts (fun _ h => List.mem_cons_of_mem _ (List.mem_append_left _ (List.mem_append_left _ (List.mem_append_left _ (List.mem_append_right _ h))))) hown hK hP (by decide) (ce_tb ad cI cB (V 0)) rfl 0 (by decide) (hts (.fieldLink RX7 10 "TurnedBoards" "now" "LTurnedBoards$Board;") (List.mem_of_getElem? (i := 3) rfl)) rfl rfl dX7_restore_16 ?_
    obtain ⟨hn1, hp⟩ := hp
    refine k_VWv (As := [.ref (ad 6)]) (rest := []) (q := 4) ⟨hx, hb, hml, hown, hts⟩ hKN hP hS (m_X2_push l D cI cB ad hA fu V 0 (by decide : 0 < 6) hn1) (cwV 1 hts gX7_restore_X2_push rfl rfl rfl (by decide +kernel) ⟨(Nat.le_of_ble_eq_true rfl), (Nat.le_of_ble_eq_true rfl)⟩) (c_preV hP hKN (q := 4) (ci := 2) (fs := [.ref (ad 5), .int ((V 4) 0)]) (by decide) (ce_hs ad cI cB (V 4)) rfl rfl) rfl hl.1 rfl (Nat.le_of_ble_eq_true rfl) dX7_restore_19 ⟨Nat.zero_le _, Nat.zero_le _⟩ (fun H locs hP hS => ?_)
    refine lv_aload_n hx hb dX7_restore_22 rfl (lv_at hl 0 rfl) ?_
    refine x_get (ci := 5) (fs := [.ref (ad 6), .ref (ad 13), .ref (ad 4), .ref (ad 2), .ref (ad 1), .int (((f_X2_push fu V 0) 0) 0)]) (q := 0) (v := .ref (ad 6)) (N := 6) hx hb hts (fun _ h => List.mem_cons_of_mem _ (List.mem_append_left _ (List.mem_append_left _ (List.mem_append_left _ (List.mem_append_right _ h))))) hown hK hP (by decide) (ce_tb ad cI cB ((f_X2_push fu V 0) 0)) rfl 0 (by decide) (hts (.fieldLink RX7 10 "TurnedBoards" "now" "LTurnedBoards$Board;") (List.mem_of_getElem? (i := 3) rfl)) rfl rfl dX7_restore_23 ?_
    refine lv_aload_n hx hb dX7_restore_26 rfl (lv_at hl 0 rfl) ?_
    refine x_get (ci := 5) (fs := [.ref (ad 6), .ref (ad 13), .ref (ad 4), .ref (ad 2), .ref (ad 1), .int (((f_X2_push fu V 0) 0) 0)]) (q := 0) (v := .ref (ad 13)) (N := 6) hx hb hts (fun _ h => List.mem_cons_of_mem _ (List.mem_append_left _ (List.mem_append_left _ (List.mem_append_left _ (List.mem_append_right _ h))))) hown hK hP (by decide) (ce_tb ad cI cB ((f_X2_push fu V 0) 0)) rfl 1 (by decide) (hts (.fieldLink RX7 16 "TurnedBoards" "snapshot" "LTurnedBoards$Board;") (List.mem_of_getElem? (i := 4) rfl)) rfl rfl dX7_restore_27 ?_
    have hn2 := hp
    refine k_VWv (As := [.ref (ad 13)]) (rest := []) (q := (6 + 7 * 0)) ⟨hx, hb, hml, hown, hts⟩ hKN hP hS (m_X0_copyFrom l D cI cB ad hA fu (f_X2_push fu V 0) 0 1 (by decide : 0 < 6) (by decide : 1 < 6) hn2) (cwV 1 hts gX7_restore_X0_copyFrom rfl rfl rfl (by decide +kernel) ⟨(Nat.le_of_ble_eq_true rfl), (Nat.le_of_ble_eq_true rfl)⟩) (c_preV hP hKN (q := (6 + 7 * 0)) (ci := 0) (fs := [.ref (ad (6 + 7 * 0 + 1)), .ref (ad (6 + 7 * 0 + 3)), .ref (ad (6 + 7 * 0 + 4)), .ref (ad (6 + 7 * 0 + 5)), .ref (ad (6 + 7 * 0 + 6)), .int (((f_X2_push fu V 0) (6 + 7 * 0)) 5), .int (((f_X2_push fu V 0) (6 + 7 * 0)) 6), .int (((f_X2_push fu V 0) (6 + 7 * 0)) 0), .int (((f_X2_push fu V 0) (6 + 7 * 0)) 1), .int (((f_X2_push fu V 0) (6 + 7 * 0)) 2), .int (((f_X2_push fu V 0) (6 + 7 * 0)) 3), .int (((f_X2_push fu V 0) (6 + 7 * 0)) 4)]) (by decide) (ce_bd ad cI cB (by decide : 0 < 6) ((f_X2_push fu V 0) (6 + 7 * 0))) rfl rfl) rfl hl.1 rfl (Nat.le_of_ble_eq_true rfl) dX7_restore_30 ⟨Nat.zero_le _, Nat.zero_le _⟩ (fun H locs hP hS => ?_)
    refine lv_aload_n hx hb dX7_restore_33 rfl (lv_at hl 0 rfl) ?_
    refine x_get (ci := 5) (fs := [.ref (ad 6), .ref (ad 13), .ref (ad 4), .ref (ad 2), .ref (ad 1), .int (((f_X0_copyFrom fu (f_X2_push fu V 0) 0 1) 0) 0)]) (q := 0) (v := .ref (ad 6)) (N := 6) hx hb hts (fun _ h => List.mem_cons_of_mem _ (List.mem_append_left _ (List.mem_append_left _ (List.mem_append_left _ (List.mem_append_right _ h))))) hown hK hP (by decide) (ce_tb ad cI cB ((f_X0_copyFrom fu (f_X2_push fu V 0) 0 1) 0)) rfl 0 (by decide) (hts (.fieldLink RX7 10 "TurnedBoards" "now" "LTurnedBoards$Board;") (List.mem_of_getElem? (i := 3) rfl)) rfl rfl dX7_restore_34 ?_
    refine x_getN (ci := 0) (fs := [.ref (ad (6 + 7 * 0 + 1)), .ref (ad (6 + 7 * 0 + 3)), .ref (ad (6 + 7 * 0 + 4)), .ref (ad (6 + 7 * 0 + 5)), .ref (ad (6 + 7 * 0 + 6)), .int (((f_X0_copyFrom fu (f_X2_push fu V 0) 0 1) (6 + 7 * 0)) 5), .int (((f_X0_copyFrom fu (f_X2_push fu V 0) 0 1) (6 + 7 * 0)) 6), .int (((f_X0_copyFrom fu (f_X2_push fu V 0) 0 1) (6 + 7 * 0)) 0), .int (((f_X0_copyFrom fu (f_X2_push fu V 0) 0 1) (6 + 7 * 0)) 1), .int (((f_X0_copyFrom fu (f_X2_push fu V 0) 0 1) (6 + 7 * 0)) 2), .int (((f_X0_copyFrom fu (f_X2_push fu V 0) 0 1) (6 + 7 * 0)) 3), .int (((f_X0_copyFrom fu (f_X2_push fu V 0) 0 1) (6 + 7 * 0)) 4)]) (q := (6 + 7 * 0)) (v := .int ((f_X0_copyFrom fu (f_X2_push fu V 0) 0 1) (6 + 7 * 0) 0)) (N := 12) hx hb hts (fun _ h => List.mem_cons_of_mem _ (List.mem_append_left _ (List.mem_append_left _ (List.mem_append_right _ h)))) hown hK hP (by decide) (ce_bd ad cI cB (by decide : 0 < 6) ((f_X0_copyFrom fu (f_X2_push fu V 0) 0 1) (6 + 7 * 0))) rfl 7 (by decide) (hKN.2.1 (.fieldLinkNest RX7 88 "TurnedBoards$Board" "places" "I" "TurnedBoards") (List.mem_of_getElem? (i := 4) rfl)) rfl rfl dX7_restore_37 ?_
    exact W.iret (v := ((f_X0_copyFrom fu (f_X2_push fu V 0) 0 1) (6 + 7 * 0) 0)) hx hb hr (fun t ht hW => ⟨⟨((f_X0_copyFrom fu (f_X2_push fu V 0) 0 1) (6 + 7 * 0) 0), (f_X0_copyFrom fu (f_X2_push fu V 0) 0 1), rfl, ⟨(congrArg Prod.fst hE).symm, (congrArg Prod.snd hE).symm⟩, by dsimp only; rw [ht]; exact hP⟩, hS.F ht⟩) hS.2.2 dX7_restore_40
  · have hE := hE.trans (if_pos c1)
    refine lv_sipush (v := (-1002)) hx hb dX7_restore_7 (by decide) ?_
    exact W.iret (v := (-1002)) hx hb hr (fun t ht hW => ⟨⟨(-1002), V, rfl, ⟨(congrArg Prod.fst hE).symm, (congrArg Prod.snd hE).symm⟩, by dsimp only; rw [ht]; exact hP⟩, hS.F ht⟩) hS.2.2 dX7_restore_10
def f_X7_undo (fu : Nat) (V : VT)  : Int32 × VT := (if (V 4 0) = 0 then ((-1002), V) else (((f_X2_popInto fu V 0) 4 0), (f_X2_popInto fu V 0)))
def p_X7_undo (fu : Nat) (V : VT)  : Prop := (((V 4 0) = 0 → True) ∧ (¬ ((V 4 0) = 0) → (p_X2_popInto fu V 0)))
set_option maxHeartbeats 4000000 in
set_option maxRecDepth 100000 in
theorem m_X7_undo (l : Launch) (D : va_G) (cI cB : ClassId) (ad : Nat → Nat) {A : Nat → Prop} (hA : adOk ad A) (fu : Nat) (V : VT)   (hp : p_X7_undo fu V ) : Met l yX7_undo wsX7_undo ({ frames := 4, cells := 0, slots := 0, locals := 85 }) (cP D cI cB ad V [.ref (ad 0)]) (cWi D cI cB ad A (f_X7_undo fu V)) 0 0 A := by
  refine Met.ofW (cc := cX7_undo) (maxL := 1) (ret := (some .int)) (by decide +kernel) rfl ?_
  intro p e s m args below meth c s₁ B hml hv
  obtain ⟨rfl, hP, hKN⟩ := hv
  have hK := hKN.1
  have hx := B.exec
  have hb := B.bytes
  have hr := B.returns
  have hts := atoms_spec (ws := wsX7_undo) B.pre
  have hown : s.vm.findClass RX7 = some m.cls := findClass_of_methodNamed B.named
  have hlocks := B.notSynchronized
  have hS : va_S A s.heap s.heap [] := va_S.rf
  have hl := lv_entry ([.ref (ad 0)]) (n := 1) (Nat.le_of_ble_eq_true rfl)
  rw [lg_entry_eq]
  generalize (lg_sl ([.ref (ad 0)]) ++ List.replicate (1 - (lg_sl ([.ref (ad 0)])).length) Slot.unset).toArray = ls at hl ⊢
  have hl : lv_has ls 1 [(0, .ref (ad 0))] := hl
  have hE : f_X7_undo fu V = (if (V 4 0) = 0 then ((-1002), V) else (((f_X2_popInto fu V 0) 4 0), (f_X2_popInto fu V 0))) := rfl
  refine lv_aload_n hx hb dX7_undo_0 rfl (lv_at hl 0 rfl) ?_
  refine x_get (ci := 5) (fs := [.ref (ad 6), .ref (ad 13), .ref (ad 4), .ref (ad 2), .ref (ad 1), .int ((V 0) 0)]) (q := 0) (v := .ref (ad 4)) (N := 6) hx hb hts (fun _ h => List.mem_cons_of_mem _ (List.mem_append_left _ (List.mem_append_left _ (List.mem_append_left _ (List.mem_append_right _ h))))) hown hK hP (by decide) (ce_tb ad cI cB (V 0)) rfl 2 (by decide) (hts (.fieldLink RX7 22 "TurnedBoards" "history" "LTurnedBoards$History;") (List.mem_of_getElem? (i := 1) rfl)) rfl rfl dX7_undo_1 ?_
  refine x_getN (ci := 2) (fs := [.ref (ad 5), .int ((V 4) 0)]) (q := 4) (v := .int (V 4 0)) (N := 2) hx hb hts (fun _ h => List.mem_cons_of_mem _ (List.mem_append_left _ (List.mem_append_left _ (List.mem_append_right _ h)))) hown hK hP (by decide) (ce_hs ad cI cB (V 4)) rfl 1 (by decide) (hKN.2.1 (.fieldLinkNest RX7 188 "TurnedBoards$History" "size" "I" "TurnedBoards") (List.mem_of_getElem? (i := 10) rfl)) rfl rfl dX7_undo_4 ?_
  refine lv_if_ne (tgt := 14) hx hb dX7_undo_7 (by decide) (fun c1 => ?_) (fun c1 => ?_)
  · have hE := hE.trans (if_neg c1)
    have hp := pc_bn hp c1
    refine lv_aload_n hx hb dX7_undo_14 rfl (lv_at hl 0 rfl) ?_
    refine x_get (ci := 5) (fs := [.ref (ad 6), .ref (ad 13), .ref (ad 4), .ref (ad 2), .ref (ad 1), .int ((V 0) 0)]) (q := 0) (v := .ref (ad 4)) (N := 6) hx hb hts (fun _ h => List.mem_cons_of_mem _ (List.mem_append_left _ (List.mem_append_left _ (List.mem_append_left _ (List.mem_append_right _ h))))) hown hK hP (by decide) (ce_tb ad cI cB (V 0)) rfl 2 (by decide) (hts (.fieldLink RX7 22 "TurnedBoards" "history" "LTurnedBoards$History;") (List.mem_of_getElem? (i := 1) rfl)) rfl rfl dX7_undo_15 ?_
    refine lv_aload_n hx hb dX7_undo_18 rfl (lv_at hl 0 rfl) ?_
    refine x_get (ci := 5) (fs := [.ref (ad 6), .ref (ad 13), .ref (ad 4), .ref (ad 2), .ref (ad 1), .int ((V 0) 0)]) (q := 0) (v := .ref (ad 6)) (N := 6) hx hb hts (fun _ h => List.mem_cons_of_mem _ (List.mem_append_left _ (List.mem_append_left _ (List.mem_append_left _ (List.mem_append_right _ h))))) hown hK hP (by decide) (ce_tb ad cI cB (V 0)) rfl 0 (by decide) (hts (.fieldLink RX7 10 "TurnedBoards" "now" "LTurnedBoards$Board;") (List.mem_of_getElem? (i := 2) rfl)) rfl rfl dX7_undo_19 ?_
    have hn1 := hp
    refine k_VWv (As := [.ref (ad 6)]) (rest := []) (q := 4) ⟨hx, hb, hml, hown, hts⟩ hKN hP hS (m_X2_popInto l D cI cB ad hA fu V 0 (by decide : 0 < 6) hn1) (cwV 1 hts gX7_undo_X2_popInto rfl rfl rfl (by decide +kernel) ⟨(Nat.le_of_ble_eq_true rfl), (Nat.le_of_ble_eq_true rfl)⟩) (c_preV hP hKN (q := 4) (ci := 2) (fs := [.ref (ad 5), .int ((V 4) 0)]) (by decide) (ce_hs ad cI cB (V 4)) rfl rfl) rfl hl.1 rfl (Nat.le_of_ble_eq_true rfl) dX7_undo_22 ⟨Nat.zero_le _, Nat.zero_le _⟩ (fun H locs hP hS => ?_)
    refine lv_aload_n hx hb dX7_undo_25 rfl (lv_at hl 0 rfl) ?_
    refine x_get (ci := 5) (fs := [.ref (ad 6), .ref (ad 13), .ref (ad 4), .ref (ad 2), .ref (ad 1), .int (((f_X2_popInto fu V 0) 0) 0)]) (q := 0) (v := .ref (ad 4)) (N := 6) hx hb hts (fun _ h => List.mem_cons_of_mem _ (List.mem_append_left _ (List.mem_append_left _ (List.mem_append_left _ (List.mem_append_right _ h))))) hown hK hP (by decide) (ce_tb ad cI cB ((f_X2_popInto fu V 0) 0)) rfl 2 (by decide) (hts (.fieldLink RX7 22 "TurnedBoards" "history" "LTurnedBoards$History;") (List.mem_of_getElem? (i := 1) rfl)) rfl rfl dX7_undo_26 ?_
    refine x_getN (ci := 2) (fs := [.ref (ad 5), .int (((f_X2_popInto fu V 0) 4) 0)]) (q := 4) (v := .int ((f_X2_popInto fu V 0) 4 0)) (N := 2) hx hb hts (fun _ h => List.mem_cons_of_mem _ (List.mem_append_left _ (List.mem_append_left _ (List.mem_append_right _ h)))) hown hK hP (by decide) (ce_hs ad cI cB ((f_X2_popInto fu V 0) 4)) rfl 1 (by decide) (hKN.2.1 (.fieldLinkNest RX7 188 "TurnedBoards$History" "size" "I" "TurnedBoards") (List.mem_of_getElem? (i := 10) rfl)) rfl rfl dX7_undo_29 ?_
    exact W.iret (v := ((f_X2_popInto fu V 0) 4 0)) hx hb hr (fun t ht hW => ⟨⟨((f_X2_popInto fu V 0) 4 0), (f_X2_popInto fu V 0), rfl, ⟨(congrArg Prod.fst hE).symm, (congrArg Prod.snd hE).symm⟩, by dsimp only; rw [ht]; exact hP⟩, hS.F ht⟩) hS.2.2 dX7_undo_32
  · have hE := hE.trans (if_pos c1)
    refine lv_sipush (v := (-1002)) hx hb dX7_undo_10 (by decide) ?_
    exact W.iret (v := (-1002)) hx hb hr (fun t ht hW => ⟨⟨(-1002), V, rfl, ⟨(congrArg Prod.fst hE).symm, (congrArg Prod.snd hE).symm⟩, by dsimp only; rw [ht]; exact hP⟩, hS.F ht⟩) hS.2.2 dX7_undo_13
def f_X7_type (V : VT) (p1 : Int32) : Int32 × VT := (if p1 < 32 then ((-1001), V) else (if p1 ≤ 126 then (if (V 2 0) < 30 then (((f_X5_append V (ji2c p1)) 2 0), (f_X5_append V (ji2c p1))) else ((-1003), V)) else ((-1001), V)))
set_option maxHeartbeats 4000000 in
set_option maxRecDepth 100000 in
theorem m_X7_type (l : Launch) (D : va_G) (cI cB : ClassId) (ad : Nat → Nat) {A : Nat → Prop} (hA : adOk ad A) (V : VT) (p1 : Int32)  : Met l yX7_type wsX7_type ({ frames := 1, cells := 0, slots := 0, locals := 21 }) (cP D cI cB ad V [.ref (ad 0), .int p1]) (cWi D cI cB ad A (f_X7_type V p1)) 0 0 A := by
  refine Met.ofW (cc := cX7_type) (maxL := 2) (ret := (some .int)) (by decide +kernel) rfl ?_
  intro p e s m args below meth c s₁ B hml hv
  obtain ⟨rfl, hP, hKN⟩ := hv
  have hK := hKN.1
  have hx := B.exec
  have hb := B.bytes
  have hr := B.returns
  have hts := atoms_spec (ws := wsX7_type) B.pre
  have hown : s.vm.findClass RX7 = some m.cls := findClass_of_methodNamed B.named
  have hlocks := B.notSynchronized
  have hS : va_S A s.heap s.heap [] := va_S.rf
  have hl := lv_entry ([.ref (ad 0), .int p1]) (n := 2) (Nat.le_of_ble_eq_true rfl)
  rw [lg_entry_eq]
  generalize (lg_sl ([.ref (ad 0), .int p1]) ++ List.replicate (2 - (lg_sl ([.ref (ad 0), .int p1])).length) Slot.unset).toArray = ls at hl ⊢
  have hl : lv_has ls 2 [(0, .ref (ad 0)), (1, .int p1)] := hl
  have hE : f_X7_type V p1 = (if p1 < 32 then ((-1001), V) else (if p1 ≤ 126 then (if (V 2 0) < 30 then (((f_X5_append V (ji2c p1)) 2 0), (f_X5_append V (ji2c p1))) else ((-1003), V)) else ((-1001), V))) := rfl
  refine lv_iload_n hx hb dX7_type_0 rfl (lv_at hl 1 rfl) ?_
  refine lv_bipush (v := 32) hx hb dX7_type_1 (by decide) ?_
  refine lv_icmp_lt (tgt := 12) hx hb dX7_type_3 (by decide) (fun c1 => ?_) (fun c1 => ?_)
  · have hE := hE.trans (if_pos c1)
    refine lv_sipush (v := (-1001)) hx hb dX7_type_12 (by decide) ?_
    exact W.iret (v := (-1001)) hx hb hr (fun t ht hW => ⟨⟨(-1001), V, rfl, ⟨(congrArg Prod.fst hE).symm, (congrArg Prod.snd hE).symm⟩, by dsimp only; rw [ht]; exact hP⟩, hS.F ht⟩) hS.2.2 dX7_type_15
  · have hE := hE.trans (if_neg c1)
    refine lv_iload_n hx hb dX7_type_6 rfl (lv_at hl 1 rfl) ?_
    refine lv_bipush (v := 126) hx hb dX7_type_7 (by decide) ?_
    refine lv_icmp_le (tgt := 16) hx hb dX7_type_9 (by decide) (fun c2 => ?_) (fun c2 => ?_)
    · have hE := hE.trans (if_pos c2)
      refine lv_aload_n hx hb dX7_type_16 rfl (lv_at hl 0 rfl) ?_
      refine x_get (ci := 5) (fs := [.ref (ad 6), .ref (ad 13), .ref (ad 4), .ref (ad 2), .ref (ad 1), .int ((V 0) 0)]) (q := 0) (v := .ref (ad 2)) (N := 6) hx hb hts (fun _ h => List.mem_cons_of_mem _ (List.mem_append_left _ (List.mem_append_right _ h))) hown hK hP (by decide) (ce_tb ad cI cB (V 0)) rfl 3 (by decide) (hts (.fieldLink RX7 29 "TurnedBoards" "text" "LTurnedBoards$Script;") (List.mem_of_getElem? (i := 1) rfl)) rfl rfl dX7_type_17 ?_
      refine x_getN (ci := 4) (fs := [.ref (ad 3), .int ((V 2) 0)]) (q := 2) (v := .int (V 2 0)) (N := 2) hx hb hts (fun _ h => List.mem_cons_of_mem _ (List.mem_append_right _ h)) hown hK hP (by decide) (ce_sc ad cI cB (V 2)) rfl 1 (by decide) (hKN.2.1 (.fieldLinkNest RX7 191 "TurnedBoards$Script" "length" "I" "TurnedBoards") (List.mem_of_getElem? (i := 12) rfl)) rfl rfl dX7_type_20 ?_
      refine lv_bipush (v := 30) hx hb dX7_type_23 (by decide) ?_
      refine lv_icmp_lt (tgt := 32) hx hb dX7_type_25 (by decide) (fun c3 => ?_) (fun c3 => ?_)
      · have hE := hE.trans (if_pos c3)
        refine lv_aload_n hx hb dX7_type_32 rfl (lv_at hl 0 rfl) ?_
        refine x_get (ci := 5) (fs := [.ref (ad 6), .ref (ad 13), .ref (ad 4), .ref (ad 2), .ref (ad 1), .int ((V 0) 0)]) (q := 0) (v := .ref (ad 2)) (N := 6) hx hb hts (fun _ h => List.mem_cons_of_mem _ (List.mem_append_left _ (List.mem_append_right _ h))) hown hK hP (by decide) (ce_tb ad cI cB (V 0)) rfl 3 (by decide) (hts (.fieldLink RX7 29 "TurnedBoards" "text" "LTurnedBoards$Script;") (List.mem_of_getElem? (i := 1) rfl)) rfl rfl dX7_type_33 ?_
        refine lv_iload_n hx hb dX7_type_36 rfl (lv_at hl 1 rfl) ?_
        refine lv_i2c (v := ji2c p1) hx hb dX7_type_37 rfl ?_
        refine k_VWv (As := [.int (ji2c p1)]) (rest := []) (q := 2) ⟨hx, hb, hml, hown, hts⟩ hKN hP hS (m_X5_append l D cI cB ad hA V (ji2c p1)) (cwV 1 hts gX7_type_X5_append rfl rfl rfl (by decide +kernel) ⟨(Nat.le_of_ble_eq_true rfl), (Nat.le_of_ble_eq_true rfl)⟩) (c_preV hP hKN (q := 2) (ci := 4) (fs := [.ref (ad 3), .int ((V 2) 0)]) (by decide) (ce_sc ad cI cB (V 2)) rfl rfl) rfl hl.1 rfl (Nat.le_of_ble_eq_true rfl) dX7_type_38 ⟨Nat.zero_le _, Nat.zero_le _⟩ (fun H locs hP hS => ?_)
        refine lv_aload_n hx hb dX7_type_41 rfl (lv_at hl 0 rfl) ?_
        refine x_get (ci := 5) (fs := [.ref (ad 6), .ref (ad 13), .ref (ad 4), .ref (ad 2), .ref (ad 1), .int (((f_X5_append V (ji2c p1)) 0) 0)]) (q := 0) (v := .ref (ad 2)) (N := 6) hx hb hts (fun _ h => List.mem_cons_of_mem _ (List.mem_append_left _ (List.mem_append_right _ h))) hown hK hP (by decide) (ce_tb ad cI cB ((f_X5_append V (ji2c p1)) 0)) rfl 3 (by decide) (hts (.fieldLink RX7 29 "TurnedBoards" "text" "LTurnedBoards$Script;") (List.mem_of_getElem? (i := 1) rfl)) rfl rfl dX7_type_42 ?_
        refine x_getN (ci := 4) (fs := [.ref (ad 3), .int (((f_X5_append V (ji2c p1)) 2) 0)]) (q := 2) (v := .int ((f_X5_append V (ji2c p1)) 2 0)) (N := 2) hx hb hts (fun _ h => List.mem_cons_of_mem _ (List.mem_append_right _ h)) hown hK hP (by decide) (ce_sc ad cI cB ((f_X5_append V (ji2c p1)) 2)) rfl 1 (by decide) (hKN.2.1 (.fieldLinkNest RX7 191 "TurnedBoards$Script" "length" "I" "TurnedBoards") (List.mem_of_getElem? (i := 12) rfl)) rfl rfl dX7_type_45 ?_
        exact W.iret (v := ((f_X5_append V (ji2c p1)) 2 0)) hx hb hr (fun t ht hW => ⟨⟨((f_X5_append V (ji2c p1)) 2 0), (f_X5_append V (ji2c p1)), rfl, ⟨(congrArg Prod.fst hE).symm, (congrArg Prod.snd hE).symm⟩, by dsimp only; rw [ht]; exact hP⟩, hS.F ht⟩) hS.2.2 dX7_type_48
      · have hE := hE.trans (if_neg c3)
        refine lv_sipush (v := (-1003)) hx hb dX7_type_28 (by decide) ?_
        exact W.iret (v := (-1003)) hx hb hr (fun t ht hW => ⟨⟨(-1003), V, rfl, ⟨(congrArg Prod.fst hE).symm, (congrArg Prod.snd hE).symm⟩, by dsimp only; rw [ht]; exact hP⟩, hS.F ht⟩) hS.2.2 dX7_type_31
    · have hE := hE.trans (if_neg c2)
      refine lv_sipush (v := (-1001)) hx hb dX7_type_12 (by decide) ?_
      exact W.iret (v := (-1001)) hx hb hr (fun t ht hW => ⟨⟨(-1001), V, rfl, ⟨(congrArg Prod.fst hE).symm, (congrArg Prod.snd hE).symm⟩, by dsimp only; rw [ht]; exact hP⟩, hS.F ht⟩) hS.2.2 dX7_type_15
def f_X7_clearText (V : VT)  : Int32 × VT := ((V 2 0), (upV V 2 0 0))
set_option maxHeartbeats 4000000 in
set_option maxRecDepth 100000 in
theorem m_X7_clearText (l : Launch) (D : va_G) (cI cB : ClassId) (ad : Nat → Nat) {A : Nat → Prop} (hA : adOk ad A) (V : VT)   : Met l yX7_clearText wsX7_clearText ({ frames := 0, cells := 0, slots := 0, locals := 0 }) (cP D cI cB ad V [.ref (ad 0)]) (cWi D cI cB ad A (f_X7_clearText V)) 0 0 A := by
  refine Met.ofW (cc := cX7_clearText) (maxL := 2) (ret := (some .int)) (by decide +kernel) rfl ?_
  intro p e s m args below meth c s₁ B hml hv
  obtain ⟨rfl, hP, hKN⟩ := hv
  have hK := hKN.1
  have hx := B.exec
  have hb := B.bytes
  have hr := B.returns
  have hts := atoms_spec (ws := wsX7_clearText) B.pre
  have hown : s.vm.findClass RX7 = some m.cls := findClass_of_methodNamed B.named
  have hlocks := B.notSynchronized
  have hS : va_S A s.heap s.heap [] := va_S.rf
  have hl := lv_entry ([.ref (ad 0)]) (n := 2) (Nat.le_of_ble_eq_true rfl)
  rw [lg_entry_eq]
  generalize (lg_sl ([.ref (ad 0)]) ++ List.replicate (2 - (lg_sl ([.ref (ad 0)])).length) Slot.unset).toArray = ls at hl ⊢
  have hl : lv_has ls 2 [(0, .ref (ad 0))] := hl
  have hE : f_X7_clearText V = ((V 2 0), (upV V 2 0 0)) := rfl
  refine lv_aload_n hx hb dX7_clearText_0 rfl (lv_at hl 0 rfl) ?_
  refine x_get (ci := 5) (fs := [.ref (ad 6), .ref (ad 13), .ref (ad 4), .ref (ad 2), .ref (ad 1), .int ((V 0) 0)]) (q := 0) (v := .ref (ad 2)) (N := 6) hx hb hts (fun _ h => List.mem_cons_of_mem _ (List.mem_append_left _ (List.mem_append_right _ h))) hown hK hP (by decide) (ce_tb ad cI cB (V 0)) rfl 3 (by decide) (hts (.fieldLink RX7 29 "TurnedBoards" "text" "LTurnedBoards$Script;") (List.mem_of_getElem? (i := 1) rfl)) rfl rfl dX7_clearText_1 ?_
  refine x_getN (ci := 4) (fs := [.ref (ad 3), .int ((V 2) 0)]) (q := 2) (v := .int (V 2 0)) (N := 2) hx hb hts (fun _ h => List.mem_cons_of_mem _ (List.mem_append_right _ h)) hown hK hP (by decide) (ce_sc ad cI cB (V 2)) rfl 1 (by decide) (hKN.2.1 (.fieldLinkNest RX7 191 "TurnedBoards$Script" "length" "I" "TurnedBoards") (List.mem_of_getElem? (i := 12) rfl)) rfl rfl dX7_clearText_4 ?_
  refine lv_istore_n (lv' := [(1, .int (V 2 0)), (0, .ref (ad 0))]) hx hb dX7_clearText_7 rfl hl (by decide) rfl (fun ls hl => ?_)
  refine lv_aload_n hx hb dX7_clearText_8 rfl (lv_at hl 1 rfl) ?_
  refine x_get (ci := 5) (fs := [.ref (ad 6), .ref (ad 13), .ref (ad 4), .ref (ad 2), .ref (ad 1), .int ((V 0) 0)]) (q := 0) (v := .ref (ad 2)) (N := 6) hx hb hts (fun _ h => List.mem_cons_of_mem _ (List.mem_append_left _ (List.mem_append_right _ h))) hown hK hP (by decide) (ce_tb ad cI cB (V 0)) rfl 3 (by decide) (hts (.fieldLink RX7 29 "TurnedBoards" "text" "LTurnedBoards$Script;") (List.mem_of_getElem? (i := 1) rfl)) rfl rfl dX7_clearText_9 ?_
  refine lv_iconst (v := 0) hx hb dX7_clearText_12 (by decide) ?_
  refine x_putN (ci := 4) (fs := [.ref (ad 3), .int ((V 2) 0)]) (q := 2) (v := .int 0) (ty := .int) (N := 2) hx hb hts (fun _ h => List.mem_cons_of_mem _ (List.mem_append_right _ h)) tyX5 tyX5_ok nmX5 hown hK hP hA hS (by decide) (ce_sc ad cI cB (V 2)) rfl 1 (by decide) (hKN.2.1 (.fieldLinkNest RX7 191 "TurnedBoards$Script" "length" "I" "TurnedBoards") (List.mem_of_getElem? (i := 12) rfl)) rfl rfl (by decide +kernel) rfl rfl (Nat.le_of_ble_eq_true rfl) 0 0 ((ce_sc ad cI cB (upd (V 2) 0 0)).trans rfl) dX7_clearText_13 (fun H locs hP hS => ?_)
  refine lv_iload_n hx hb dX7_clearText_16 rfl (lv_at hl 0 rfl) ?_
  exact W.iret (v := (V 2 0)) hx hb hr (fun t ht hW => ⟨⟨(V 2 0), (upV V 2 0 0), rfl, ⟨(congrArg Prod.fst hE).symm, (congrArg Prod.snd hE).symm⟩, by dsimp only; rw [ht]; exact hP⟩, hS.F ht⟩) hS.2.2 dX7_clearText_17
def f_X7_fault (fu : Nat) (V : VT) (p1 : Int32) : Int32 := (if (f_X7_isOneOfTwo V p1) = 0 then (-1001) else (if (f_X5_faultCode fu V 0) = (-1) then (-1004) else (if p1 = 0 then (f_X5_placeIn V (f_X5_faultCode fu V 0)) else (f_X5_reasonIn V (f_X5_faultCode fu V 0)))))
def p_X7_fault (fu : Nat) (V : VT) (p1 : Int32) : Prop := (((f_X7_isOneOfTwo V p1) = 0 → True) ∧ (¬ ((f_X7_isOneOfTwo V p1) = 0) → (p_X5_faultCode fu V 0)))
set_option maxHeartbeats 4000000 in
set_option maxRecDepth 100000 in
theorem m_X7_fault (l : Launch) (D : va_G) (cI cB : ClassId) (ad : Nat → Nat) (fu : Nat) (V : VT) (p1 : Int32)  (hp : p_X7_fault fu V p1) : Met l yX7_fault wsX7_fault ({ frames := 6, cells := 0, slots := 0, locals := 130 }) (cP D cI cB ad V [.ref (ad 0), .int p1]) (cR (f_X7_fault fu V p1)) 0 0 (fun _ => False) := by
  refine Met.ofW (cc := cX7_fault) (maxL := 3) (ret := (some .int)) (by decide +kernel) rfl ?_
  intro p e s m args below meth c s₁ B hml hv
  obtain ⟨rfl, hP, hKN⟩ := hv
  have hK := hKN.1
  have hx := B.exec
  have hb := B.bytes
  have hr := B.returns
  have hts := atoms_spec (ws := wsX7_fault) B.pre
  have hown : s.vm.findClass RX7 = some m.cls := findClass_of_methodNamed B.named
  have hlocks := B.notSynchronized
  have hS : va_S (fun _ => False) s.heap s.heap [] := va_S.rf
  have hl := lv_entry ([.ref (ad 0), .int p1]) (n := 3) (Nat.le_of_ble_eq_true rfl)
  rw [lg_entry_eq]
  generalize (lg_sl ([.ref (ad 0), .int p1]) ++ List.replicate (3 - (lg_sl ([.ref (ad 0), .int p1])).length) Slot.unset).toArray = ls at hl ⊢
  have hl : lv_has ls 3 [(0, .ref (ad 0)), (1, .int p1)] := hl
  have hE : f_X7_fault fu V p1 = (if (f_X7_isOneOfTwo V p1) = 0 then (-1001) else (if (f_X5_faultCode fu V 0) = (-1) then (-1004) else (if p1 = 0 then (f_X5_placeIn V (f_X5_faultCode fu V 0)) else (f_X5_reasonIn V (f_X5_faultCode fu V 0))))) := rfl
  refine lv_iload_n hx hb dX7_fault_0 rfl (lv_at hl 1 rfl) ?_
  refine k_SR (As := [.int p1]) (rest := []) ⟨hx, hb, hml, hown, hts⟩ hKN hP hS (m_X7_isOneOfTwo l D cI cB ad V p1) (va_cwS 1 hts gX7_fault_X7_isOneOfTwo rfl rfl rfl (by decide +kernel) ⟨(Nat.le_of_ble_eq_true rfl), (Nat.le_of_ble_eq_true rfl)⟩) rfl hl.1 rfl (Nat.le_of_ble_eq_true rfl) dX7_fault_1 ⟨Nat.zero_le _, Nat.zero_le _⟩ (fun H locs hP hS => ?_)
  refine lv_if_ne (tgt := 11) hx hb dX7_fault_4 (by decide) (fun c1 => ?_) (fun c1 => ?_)
  · have hE := hE.trans (if_neg c1)
    have hp := pc_bn hp c1
    refine lv_aload_n hx hb dX7_fault_11 rfl (lv_at hl 0 rfl) ?_
    refine x_get (ci := 5) (fs := [.ref (ad 6), .ref (ad 13), .ref (ad 4), .ref (ad 2), .ref (ad 1), .int ((V 0) 0)]) (q := 0) (v := .ref (ad 2)) (N := 6) hx hb hts (fun _ h => List.mem_cons_of_mem _ (List.mem_append_left _ (List.mem_append_left _ (List.mem_append_left _ (List.mem_append_right _ h))))) hown hK hP (by decide) (ce_tb ad cI cB (V 0)) rfl 3 (by decide) (hts (.fieldLink RX7 29 "TurnedBoards" "text" "LTurnedBoards$Script;") (List.mem_of_getElem? (i := 1) rfl)) rfl rfl dX7_fault_12 ?_
    refine lv_aload_n hx hb dX7_fault_15 rfl (lv_at hl 0 rfl) ?_
    refine x_get (ci := 5) (fs := [.ref (ad 6), .ref (ad 13), .ref (ad 4), .ref (ad 2), .ref (ad 1), .int ((V 0) 0)]) (q := 0) (v := .ref (ad 6)) (N := 6) hx hb hts (fun _ h => List.mem_cons_of_mem _ (List.mem_append_left _ (List.mem_append_left _ (List.mem_append_left _ (List.mem_append_right _ h))))) hown hK hP (by decide) (ce_tb ad cI cB (V 0)) rfl 0 (by decide) (hts (.fieldLink RX7 10 "TurnedBoards" "now" "LTurnedBoards$Board;") (List.mem_of_getElem? (i := 2) rfl)) rfl rfl dX7_fault_16 ?_
    refine x_getN (ci := 0) (fs := [.ref (ad (6 + 7 * 0 + 1)), .ref (ad (6 + 7 * 0 + 3)), .ref (ad (6 + 7 * 0 + 4)), .ref (ad (6 + 7 * 0 + 5)), .ref (ad (6 + 7 * 0 + 6)), .int ((V (6 + 7 * 0)) 5), .int ((V (6 + 7 * 0)) 6), .int ((V (6 + 7 * 0)) 0), .int ((V (6 + 7 * 0)) 1), .int ((V (6 + 7 * 0)) 2), .int ((V (6 + 7 * 0)) 3), .int ((V (6 + 7 * 0)) 4)]) (q := (6 + 7 * 0)) (v := .ref (ad (6 + 7 * 0 + 1))) (N := 12) hx hb hts (fun _ h => List.mem_cons_of_mem _ (List.mem_append_left _ (List.mem_append_left _ (List.mem_append_right _ h)))) hown hK hP (by decide) (ce_bd ad cI cB (by decide : 0 < 6) (V (6 + 7 * 0))) rfl 0 (by decide) (hKN.2.1 (.fieldLinkNest RX7 51 "TurnedBoards$Board" "letters" "LTurnedBoards$Letters;" "TurnedBoards") (List.mem_of_getElem? (i := 1) rfl)) rfl rfl dX7_fault_19 ?_
    have hn1 := hp
    refine k_VR (As := [.ref (ad (6 + 7 * 0 + 1))]) (rest := []) (q := 2) ⟨hx, hb, hml, hown, hts⟩ hKN hP hS (m_X5_faultCode l D cI cB ad fu V 0 (by decide : 0 < 6) hn1) (cwV 1 hts gX7_fault_X5_faultCode rfl rfl rfl (by decide +kernel) ⟨(Nat.le_of_ble_eq_true rfl), (Nat.le_of_ble_eq_true rfl)⟩) (c_preV hP hKN (q := 2) (ci := 4) (fs := [.ref (ad 3), .int ((V 2) 0)]) (by decide) (ce_sc ad cI cB (V 2)) rfl rfl) rfl hl.1 rfl (Nat.le_of_ble_eq_true rfl) dX7_fault_22 ⟨Nat.zero_le _, Nat.zero_le _⟩ (fun H locs hP hS => ?_)
    refine lv_istore_n (lv' := [(2, .int (f_X5_faultCode fu V 0)), (0, .ref (ad 0)), (1, .int p1)]) hx hb dX7_fault_25 rfl hl (by decide) rfl (fun ls hl => ?_)
    refine lv_iload_n hx hb dX7_fault_26 rfl (lv_at hl 0 rfl) ?_
    refine lv_iconst (v := (-1)) hx hb dX7_fault_27 (by decide) ?_
    refine lv_icmp_ne (tgt := 35) hx hb dX7_fault_28 (by decide) (fun c2 => ?_) (fun c2 => ?_)
    · have hE := hE.trans (if_neg c2)
      refine lv_iload_n hx hb dX7_fault_35 rfl (lv_at hl 2 rfl) ?_
      refine lv_if_ne (tgt := 46) hx hb dX7_fault_36 (by decide) (fun c3 => ?_) (fun c3 => ?_)
      · have hE := hE.trans (if_neg c3)
        refine lv_iload_n hx hb dX7_fault_46 rfl (lv_at hl 0 rfl) ?_
        refine k_SR (As := [.int (f_X5_faultCode fu V 0)]) (rest := []) ⟨hx, hb, hml, hown, hts⟩ hKN hP hS (m_X5_reasonIn l D cI cB ad V (f_X5_faultCode fu V 0)) (va_cwS 1 hts gX7_fault_X5_reasonIn rfl rfl rfl (by decide +kernel) ⟨(Nat.le_of_ble_eq_true rfl), (Nat.le_of_ble_eq_true rfl)⟩) rfl hl.1 rfl (Nat.le_of_ble_eq_true rfl) dX7_fault_47 ⟨Nat.zero_le _, Nat.zero_le _⟩ (fun H locs hP hS => ?_)
        exact W.iret (v := (f_X5_reasonIn V (f_X5_faultCode fu V 0))) hx hb hr (fun t ht hW => ⟨⟨(f_X5_reasonIn V (f_X5_faultCode fu V 0)), (), rfl, hE.symm, trivial⟩, hS.F ht⟩) hS.2.2 dX7_fault_50
      · have hE := hE.trans (if_pos c3)
        refine lv_iload_n hx hb dX7_fault_39 rfl (lv_at hl 0 rfl) ?_
        refine k_SR (As := [.int (f_X5_faultCode fu V 0)]) (rest := []) ⟨hx, hb, hml, hown, hts⟩ hKN hP hS (m_X5_placeIn l D cI cB ad V (f_X5_faultCode fu V 0)) (va_cwS 1 hts gX7_fault_X5_placeIn rfl rfl rfl (by decide +kernel) ⟨(Nat.le_of_ble_eq_true rfl), (Nat.le_of_ble_eq_true rfl)⟩) rfl hl.1 rfl (Nat.le_of_ble_eq_true rfl) dX7_fault_40 ⟨Nat.zero_le _, Nat.zero_le _⟩ (fun H locs hP hS => ?_)
        refine lv_goto (tgt := 50) hx hb dX7_fault_43 (by decide) ?_
        exact W.iret (v := (f_X5_placeIn V (f_X5_faultCode fu V 0))) hx hb hr (fun t ht hW => ⟨⟨(f_X5_placeIn V (f_X5_faultCode fu V 0)), (), rfl, hE.symm, trivial⟩, hS.F ht⟩) hS.2.2 dX7_fault_50
    · have hE := hE.trans (if_pos c2)
      refine lv_sipush (v := (-1004)) hx hb dX7_fault_31 (by decide) ?_
      exact W.iret (v := (-1004)) hx hb hr (fun t ht hW => ⟨⟨(-1004), (), rfl, hE.symm, trivial⟩, hS.F ht⟩) hS.2.2 dX7_fault_34
  · have hE := hE.trans (if_pos c1)
    refine lv_sipush (v := (-1001)) hx hb dX7_fault_7 (by decide) ?_
    exact W.iret (v := (-1001)) hx hb hr (fun t ht hW => ⟨⟨(-1001), (), rfl, hE.symm, trivial⟩, hS.F ht⟩) hS.2.2 dX7_fault_10
def v_X7_read_1 (x1_1 : Int32) (V1 : VT) : VT := (f_X4_put (f_X4_put V1 (6 + 7 * 0 + 5) 8 x1_1 (f_X5_letterAt V1 x1_1)) (6 + 7 * 0 + 6) 8 x1_1 (f_X5_letterAt (f_X4_put V1 (6 + 7 * 0 + 5) 8 x1_1 (f_X5_letterAt V1 x1_1)) ((((f_X4_put V1 (6 + 7 * 0 + 5) 8 x1_1 (f_X5_letterAt V1 x1_1)) (6 + 7 * 0) 0) + 1) + x1_1)))
def f_X7_read_l1 (fu : Nat)  : Nat → VT → Int32 → Int32 × VT
  | 0, V1, x1_1 => (0, V1)
  | w1 + 1, V1, x1_1 => (if (V1 (6 + 7 * 0) 0) ≤ x1_1 then ((V1 (6 + 7 * 0) 0), V1) else (f_X7_read_l1 fu  w1 (v_X7_read_1 x1_1 V1) (x1_1 + 1)))
def p_X7_read_l1 (fu : Nat)  : Nat → VT → Int32 → Prop
  | 0, _, _ => False
  | w1 + 1, V1, x1_1 => (((V1 (6 + 7 * 0) 0) ≤ x1_1 → True) ∧ (¬ ((V1 (6 + 7 * 0) 0) ≤ x1_1) → (p_X7_read_l1 fu  w1 (v_X7_read_1 x1_1 V1) (x1_1 + 1))))
def f_X7_read (fu : Nat) (V : VT)  : Int32 × VT := (if (f_X5_faultCode fu V 0) = (-1) then (f_X7_read_l1 fu  fu (f_X0_renew fu (f_X2_push fu V 0) 0 (f_X5_firstLength fu (f_X2_push fu V 0))) 0) else ((-1002), V))
def p_X7_read (fu : Nat) (V : VT)  : Prop := ((p_X5_faultCode fu V 0) ∧ (((f_X5_faultCode fu V 0) = (-1) → ((p_X2_push fu V 0) ∧ ((p_X5_firstLength fu (f_X2_push fu V 0) ) ∧ ((p_X0_renew fu (f_X2_push fu V 0) 0 (f_X5_firstLength fu (f_X2_push fu V 0))) ∧ (p_X7_read_l1 fu  fu (f_X0_renew fu (f_X2_push fu V 0) 0 (f_X5_firstLength fu (f_X2_push fu V 0))) 0))))) ∧ (¬ ((f_X5_faultCode fu V 0) = (-1)) → True)))
set_option maxHeartbeats 4000000 in
set_option maxRecDepth 100000 in
theorem m_X7_read (l : Launch) (D : va_G) (cI cB : ClassId) (ad : Nat → Nat) {A : Nat → Prop} (hA : adOk ad A) (fu : Nat) (V : VT)   (hp : p_X7_read fu V ) : Met l yX7_read wsX7_read ({ frames := 6, cells := 0, slots := 0, locals := 130 }) (cP D cI cB ad V [.ref (ad 0)]) (cWi D cI cB ad A (f_X7_read fu V)) 0 0 A := by
  refine Met.ofW (cc := cX7_read) (maxL := 2) (ret := (some .int)) (by decide +kernel) rfl ?_
  intro p e s m args below meth c s₁ B hml hv
  obtain ⟨rfl, hP, hKN⟩ := hv
  have hK := hKN.1
  have hx := B.exec
  have hb := B.bytes
  have hr := B.returns
  have hts := atoms_spec (ws := wsX7_read) B.pre
  have hown : s.vm.findClass RX7 = some m.cls := findClass_of_methodNamed B.named
  have hlocks := B.notSynchronized
  have hS : va_S A s.heap s.heap [] := va_S.rf
  have hl := lv_entry ([.ref (ad 0)]) (n := 2) (Nat.le_of_ble_eq_true rfl)
  rw [lg_entry_eq]
  generalize (lg_sl ([.ref (ad 0)]) ++ List.replicate (2 - (lg_sl ([.ref (ad 0)])).length) Slot.unset).toArray = ls at hl ⊢
  have hl : lv_has ls 2 [(0, .ref (ad 0))] := hl
  have hE : f_X7_read fu V = (if (f_X5_faultCode fu V 0) = (-1) then (f_X7_read_l1 fu  fu (f_X0_renew fu (f_X2_push fu V 0) 0 (f_X5_firstLength fu (f_X2_push fu V 0))) 0) else ((-1002), V)) := rfl
  refine lv_aload_n hx hb dX7_read_0 rfl (lv_at hl 0 rfl) ?_
  refine x_get (ci := 5) (fs := [.ref (ad 6), .ref (ad 13), .ref (ad 4), .ref (ad 2), .ref (ad 1), .int ((V 0) 0)]) (q := 0) (v := .ref (ad 2)) (N := 6) hx hb hts (fun _ h => List.mem_cons_of_mem _ (List.mem_append_left _ (List.mem_append_left _ (List.mem_append_left _ (List.mem_append_left _ (List.mem_append_right _ h)))))) hown hK hP (by decide) (ce_tb ad cI cB (V 0)) rfl 3 (by decide) (hts (.fieldLink RX7 29 "TurnedBoards" "text" "LTurnedBoards$Script;") (List.mem_of_getElem? (i := 1) rfl)) rfl rfl dX7_read_1 ?_
  refine lv_aload_n hx hb dX7_read_4 rfl (lv_at hl 0 rfl) ?_
  refine x_get (ci := 5) (fs := [.ref (ad 6), .ref (ad 13), .ref (ad 4), .ref (ad 2), .ref (ad 1), .int ((V 0) 0)]) (q := 0) (v := .ref (ad 6)) (N := 6) hx hb hts (fun _ h => List.mem_cons_of_mem _ (List.mem_append_left _ (List.mem_append_left _ (List.mem_append_left _ (List.mem_append_left _ (List.mem_append_right _ h)))))) hown hK hP (by decide) (ce_tb ad cI cB (V 0)) rfl 0 (by decide) (hts (.fieldLink RX7 10 "TurnedBoards" "now" "LTurnedBoards$Board;") (List.mem_of_getElem? (i := 2) rfl)) rfl rfl dX7_read_5 ?_
  refine x_getN (ci := 0) (fs := [.ref (ad (6 + 7 * 0 + 1)), .ref (ad (6 + 7 * 0 + 3)), .ref (ad (6 + 7 * 0 + 4)), .ref (ad (6 + 7 * 0 + 5)), .ref (ad (6 + 7 * 0 + 6)), .int ((V (6 + 7 * 0)) 5), .int ((V (6 + 7 * 0)) 6), .int ((V (6 + 7 * 0)) 0), .int ((V (6 + 7 * 0)) 1), .int ((V (6 + 7 * 0)) 2), .int ((V (6 + 7 * 0)) 3), .int ((V (6 + 7 * 0)) 4)]) (q := (6 + 7 * 0)) (v := .ref (ad (6 + 7 * 0 + 1))) (N := 12) hx hb hts (fun _ h => List.mem_cons_of_mem _ (List.mem_append_left _ (List.mem_append_left _ (List.mem_append_left _ (List.mem_append_right _ h))))) hown hK hP (by decide) (ce_bd ad cI cB (by decide : 0 < 6) (V (6 + 7 * 0))) rfl 0 (by decide) (hKN.2.1 (.fieldLinkNest RX7 51 "TurnedBoards$Board" "letters" "LTurnedBoards$Letters;" "TurnedBoards") (List.mem_of_getElem? (i := 1) rfl)) rfl rfl dX7_read_8 ?_
  obtain ⟨hn1, hp⟩ := hp
  refine k_VR (As := [.ref (ad (6 + 7 * 0 + 1))]) (rest := []) (q := 2) ⟨hx, hb, hml, hown, hts⟩ hKN hP hS (m_X5_faultCode l D cI cB ad fu V 0 (by decide : 0 < 6) hn1) (cwV 1 hts gX7_read_X5_faultCode rfl rfl rfl (by decide +kernel) ⟨(Nat.le_of_ble_eq_true rfl), (Nat.le_of_ble_eq_true rfl)⟩) (c_preV hP hKN (q := 2) (ci := 4) (fs := [.ref (ad 3), .int ((V 2) 0)]) (by decide) (ce_sc ad cI cB (V 2)) rfl rfl) rfl hl.1 rfl (Nat.le_of_ble_eq_true rfl) dX7_read_11 ⟨Nat.zero_le _, Nat.zero_le _⟩ (fun H locs hP hS => ?_)
  refine lv_iconst (v := (-1)) hx hb dX7_read_14 (by decide) ?_
  refine lv_icmp_eq (tgt := 22) hx hb dX7_read_15 (by decide) (fun c1 => ?_) (fun c1 => ?_)
  · have hE := hE.trans (if_pos c1)
    have hp := pc_br hp c1
    refine lv_aload_n hx hb dX7_read_22 rfl (lv_at hl 0 rfl) ?_
    refine x_get (ci := 5) (fs := [.ref (ad 6), .ref (ad 13), .ref (ad 4), .ref (ad 2), .ref (ad 1), .int ((V 0) 0)]) (q := 0) (v := .ref (ad 4)) (N := 6) hx hb hts (fun _ h => List.mem_cons_of_mem _ (List.mem_append_left _ (List.mem_append_left _ (List.mem_append_left _ (List.mem_append_left _ (List.mem_append_right _ h)))))) hown hK hP (by decide) (ce_tb ad cI cB (V 0)) rfl 2 (by decide) (hts (.fieldLink RX7 22 "TurnedBoards" "history" "LTurnedBoards$History;") (List.mem_of_getElem? (i := 3) rfl)) rfl rfl dX7_read_23 ?_
    refine lv_aload_n hx hb dX7_read_26 rfl (lv_at hl 0 rfl) ?_
    refine x_get (ci := 5) (fs := [.ref (ad 6), .ref (ad 13), .ref (ad 4), .ref (ad 2), .ref (ad 1), .int ((V 0) 0)]) (q := 0) (v := .ref (ad 6)) (N := 6) hx hb hts (fun _ h => List.mem_cons_of_mem _ (List.mem_append_left _ (List.mem_append_left _ (List.mem_append_left _ (List.mem_append_left _ (List.mem_append_right _ h)))))) hown hK hP (by decide) (ce_tb ad cI cB (V 0)) rfl 0 (by decide) (hts (.fieldLink RX7 10 "TurnedBoards" "now" "LTurnedBoards$Board;") (List.mem_of_getElem? (i := 2) rfl)) rfl rfl dX7_read_27 ?_
    obtain ⟨hn2, hp⟩ := hp
    refine k_VWv (As := [.ref (ad 6)]) (rest := []) (q := 4) ⟨hx, hb, hml, hown, hts⟩ hKN hP hS (m_X2_push l D cI cB ad hA fu V 0 (by decide : 0 < 6) hn2) (cwV 1 hts gX7_read_X2_push rfl rfl rfl (by decide +kernel) ⟨(Nat.le_of_ble_eq_true rfl), (Nat.le_of_ble_eq_true rfl)⟩) (c_preV hP hKN (q := 4) (ci := 2) (fs := [.ref (ad 5), .int ((V 4) 0)]) (by decide) (ce_hs ad cI cB (V 4)) rfl rfl) rfl hl.1 rfl (Nat.le_of_ble_eq_true rfl) dX7_read_30 ⟨Nat.zero_le _, Nat.zero_le _⟩ (fun H locs hP hS => ?_)
    refine lv_aload_n hx hb dX7_read_33 rfl (lv_at hl 0 rfl) ?_
    refine x_get (ci := 5) (fs := [.ref (ad 6), .ref (ad 13), .ref (ad 4), .ref (ad 2), .ref (ad 1), .int (((f_X2_push fu V 0) 0) 0)]) (q := 0) (v := .ref (ad 6)) (N := 6) hx hb hts (fun _ h => List.mem_cons_of_mem _ (List.mem_append_left _ (List.mem_append_left _ (List.mem_append_left _ (List.mem_append_left _ (List.mem_append_right _ h)))))) hown hK hP (by decide) (ce_tb ad cI cB ((f_X2_push fu V 0) 0)) rfl 0 (by decide) (hts (.fieldLink RX7 10 "TurnedBoards" "now" "LTurnedBoards$Board;") (List.mem_of_getElem? (i := 2) rfl)) rfl rfl dX7_read_34 ?_
    refine lv_aload_n hx hb dX7_read_37 rfl (lv_at hl 0 rfl) ?_
    refine x_get (ci := 5) (fs := [.ref (ad 6), .ref (ad 13), .ref (ad 4), .ref (ad 2), .ref (ad 1), .int (((f_X2_push fu V 0) 0) 0)]) (q := 0) (v := .ref (ad 2)) (N := 6) hx hb hts (fun _ h => List.mem_cons_of_mem _ (List.mem_append_left _ (List.mem_append_left _ (List.mem_append_left _ (List.mem_append_left _ (List.mem_append_right _ h)))))) hown hK hP (by decide) (ce_tb ad cI cB ((f_X2_push fu V 0) 0)) rfl 3 (by decide) (hts (.fieldLink RX7 29 "TurnedBoards" "text" "LTurnedBoards$Script;") (List.mem_of_getElem? (i := 1) rfl)) rfl rfl dX7_read_38 ?_
    obtain ⟨hn3, hp⟩ := hp
    refine k_VR (As := []) (rest := [.ref (ad 6)]) (q := 2) ⟨hx, hb, hml, hown, hts⟩ hKN hP hS (m_X5_firstLength l D cI cB ad fu (f_X2_push fu V 0) hn3) (cwV 0 hts gX7_read_X5_firstLength rfl rfl rfl (by decide +kernel) ⟨(Nat.le_of_ble_eq_true rfl), (Nat.le_of_ble_eq_true rfl)⟩) (c_preV hP hKN (q := 2) (ci := 4) (fs := [.ref (ad 3), .int (((f_X2_push fu V 0) 2) 0)]) (by decide) (ce_sc ad cI cB ((f_X2_push fu V 0) 2)) rfl rfl) rfl hl.1 rfl (Nat.le_of_ble_eq_true rfl) dX7_read_41 ⟨Nat.zero_le _, Nat.zero_le _⟩ (fun H locs hP hS => ?_)
    obtain ⟨hn4, hp⟩ := hp
    refine k_VWv (As := [.int (f_X5_firstLength fu (f_X2_push fu V 0))]) (rest := []) (q := (6 + 7 * 0)) ⟨hx, hb, hml, hown, hts⟩ hKN hP hS (m_X0_renew l D cI cB ad hA fu (f_X2_push fu V 0) 0 (f_X5_firstLength fu (f_X2_push fu V 0)) (by decide : 0 < 6) hn4) (cwV 1 hts gX7_read_X0_renew rfl rfl rfl (by decide +kernel) ⟨(Nat.le_of_ble_eq_true rfl), (Nat.le_of_ble_eq_true rfl)⟩) (c_preV hP hKN (q := (6 + 7 * 0)) (ci := 0) (fs := [.ref (ad (6 + 7 * 0 + 1)), .ref (ad (6 + 7 * 0 + 3)), .ref (ad (6 + 7 * 0 + 4)), .ref (ad (6 + 7 * 0 + 5)), .ref (ad (6 + 7 * 0 + 6)), .int (((f_X2_push fu V 0) (6 + 7 * 0)) 5), .int (((f_X2_push fu V 0) (6 + 7 * 0)) 6), .int (((f_X2_push fu V 0) (6 + 7 * 0)) 0), .int (((f_X2_push fu V 0) (6 + 7 * 0)) 1), .int (((f_X2_push fu V 0) (6 + 7 * 0)) 2), .int (((f_X2_push fu V 0) (6 + 7 * 0)) 3), .int (((f_X2_push fu V 0) (6 + 7 * 0)) 4)]) (by decide) (ce_bd ad cI cB (by decide : 0 < 6) ((f_X2_push fu V 0) (6 + 7 * 0))) rfl rfl) rfl hl.1 rfl (Nat.le_of_ble_eq_true rfl) dX7_read_44 ⟨Nat.zero_le _, Nat.zero_le _⟩ (fun H locs hP hS => ?_)
    refine lv_iconst (v := 0) hx hb dX7_read_47 (by decide) ?_
    refine lv_istore_n (lv' := [(1, .int 0), (0, .ref (ad 0))]) hx hb dX7_read_48 rfl hl (by decide) rfl (fun ls hl => ?_)
    have L1 : ∀ (w1 : Nat) (V1 : VT) (x1_1 : Int32), f_X7_read fu V = f_X7_read_l1 fu  w1 V1 x1_1 → p_X7_read_l1 fu  w1 V1 x1_1 → ∀ (H : Heap) (locs : List Loc), wP D cI cB ad V1 H → va_S A s.heap H locs → ∀ (ls : Array Slot), lv_has ls 2 [(0, .ref (ad 0)), (1, .int x1_1)] → W p l e (headSpec wsX7_read ({ frames := 6, cells := 0, slots := 0, locals := 130 })).room s m ([.ref (ad 0)] : List Value).toArray below meth c H locs 0 0 (MQ below (cWi D cI cB ad A (f_X7_read fu V)) ([.ref (ad 0)] : List Value).toArray s 0 0 A) (F0 m 49 ls []) := by
      intro w1
      induction w1 with
      | zero => intro V1 x1_1 hE hp; exact hp.elim
      | succ w1 ih1 =>
        intro V1 x1_1 hE hp H locs hP hS ls hl
        rw [f_X7_read_l1] at hE
        rw [p_X7_read_l1] at hp
        refine lv_iload_n hx hb dX7_read_49 rfl (lv_at hl 1 rfl) ?_
        refine lv_aload_n hx hb dX7_read_50 rfl (lv_at hl 0 rfl) ?_
        refine x_get (ci := 5) (fs := [.ref (ad 6), .ref (ad 13), .ref (ad 4), .ref (ad 2), .ref (ad 1), .int ((V1 0) 0)]) (q := 0) (v := .ref (ad 6)) (N := 6) hx hb hts (fun _ h => List.mem_cons_of_mem _ (List.mem_append_left _ (List.mem_append_left _ (List.mem_append_left _ (List.mem_append_left _ (List.mem_append_right _ h)))))) hown hK hP (by decide) (ce_tb ad cI cB (V1 0)) rfl 0 (by decide) (hts (.fieldLink RX7 10 "TurnedBoards" "now" "LTurnedBoards$Board;") (List.mem_of_getElem? (i := 2) rfl)) rfl rfl dX7_read_51 ?_
        refine x_getN (ci := 0) (fs := [.ref (ad (6 + 7 * 0 + 1)), .ref (ad (6 + 7 * 0 + 3)), .ref (ad (6 + 7 * 0 + 4)), .ref (ad (6 + 7 * 0 + 5)), .ref (ad (6 + 7 * 0 + 6)), .int ((V1 (6 + 7 * 0)) 5), .int ((V1 (6 + 7 * 0)) 6), .int ((V1 (6 + 7 * 0)) 0), .int ((V1 (6 + 7 * 0)) 1), .int ((V1 (6 + 7 * 0)) 2), .int ((V1 (6 + 7 * 0)) 3), .int ((V1 (6 + 7 * 0)) 4)]) (q := (6 + 7 * 0)) (v := .int (V1 (6 + 7 * 0) 0)) (N := 12) hx hb hts (fun _ h => List.mem_cons_of_mem _ (List.mem_append_left _ (List.mem_append_left _ (List.mem_append_left _ (List.mem_append_right _ h))))) hown hK hP (by decide) (ce_bd ad cI cB (by decide : 0 < 6) (V1 (6 + 7 * 0))) rfl 7 (by decide) (hKN.2.1 (.fieldLinkNest RX7 88 "TurnedBoards$Board" "places" "I" "TurnedBoards") (List.mem_of_getElem? (i := 4) rfl)) rfl rfl dX7_read_54 ?_
        refine lv_icmp_ge (tgt := 114) hx hb dX7_read_57 (by decide) (fun c2 => ?_) (fun c2 => ?_)
        · have hE := hE.trans (if_pos c2)
          refine lv_aload_n hx hb dX7_read_114 rfl (lv_at hl 0 rfl) ?_
          refine x_get (ci := 5) (fs := [.ref (ad 6), .ref (ad 13), .ref (ad 4), .ref (ad 2), .ref (ad 1), .int ((V1 0) 0)]) (q := 0) (v := .ref (ad 6)) (N := 6) hx hb hts (fun _ h => List.mem_cons_of_mem _ (List.mem_append_left _ (List.mem_append_left _ (List.mem_append_left _ (List.mem_append_left _ (List.mem_append_right _ h)))))) hown hK hP (by decide) (ce_tb ad cI cB (V1 0)) rfl 0 (by decide) (hts (.fieldLink RX7 10 "TurnedBoards" "now" "LTurnedBoards$Board;") (List.mem_of_getElem? (i := 2) rfl)) rfl rfl dX7_read_115 ?_
          refine x_getN (ci := 0) (fs := [.ref (ad (6 + 7 * 0 + 1)), .ref (ad (6 + 7 * 0 + 3)), .ref (ad (6 + 7 * 0 + 4)), .ref (ad (6 + 7 * 0 + 5)), .ref (ad (6 + 7 * 0 + 6)), .int ((V1 (6 + 7 * 0)) 5), .int ((V1 (6 + 7 * 0)) 6), .int ((V1 (6 + 7 * 0)) 0), .int ((V1 (6 + 7 * 0)) 1), .int ((V1 (6 + 7 * 0)) 2), .int ((V1 (6 + 7 * 0)) 3), .int ((V1 (6 + 7 * 0)) 4)]) (q := (6 + 7 * 0)) (v := .int (V1 (6 + 7 * 0) 0)) (N := 12) hx hb hts (fun _ h => List.mem_cons_of_mem _ (List.mem_append_left _ (List.mem_append_left _ (List.mem_append_left _ (List.mem_append_right _ h))))) hown hK hP (by decide) (ce_bd ad cI cB (by decide : 0 < 6) (V1 (6 + 7 * 0))) rfl 7 (by decide) (hKN.2.1 (.fieldLinkNest RX7 88 "TurnedBoards$Board" "places" "I" "TurnedBoards") (List.mem_of_getElem? (i := 4) rfl)) rfl rfl dX7_read_118 ?_
          exact W.iret (v := (V1 (6 + 7 * 0) 0)) hx hb hr (fun t ht hW => ⟨⟨(V1 (6 + 7 * 0) 0), V1, rfl, ⟨(congrArg Prod.fst hE).symm, (congrArg Prod.snd hE).symm⟩, by dsimp only; rw [ht]; exact hP⟩, hS.F ht⟩) hS.2.2 dX7_read_121
        · have hE := hE.trans (if_neg c2)
          have hp := pc_bn hp c2
          refine lv_aload_n hx hb dX7_read_60 rfl (lv_at hl 0 rfl) ?_
          refine x_get (ci := 5) (fs := [.ref (ad 6), .ref (ad 13), .ref (ad 4), .ref (ad 2), .ref (ad 1), .int ((V1 0) 0)]) (q := 0) (v := .ref (ad 6)) (N := 6) hx hb hts (fun _ h => List.mem_cons_of_mem _ (List.mem_append_left _ (List.mem_append_left _ (List.mem_append_left _ (List.mem_append_left _ (List.mem_append_right _ h)))))) hown hK hP (by decide) (ce_tb ad cI cB (V1 0)) rfl 0 (by decide) (hts (.fieldLink RX7 10 "TurnedBoards" "now" "LTurnedBoards$Board;") (List.mem_of_getElem? (i := 2) rfl)) rfl rfl dX7_read_61 ?_
          refine x_getN (ci := 0) (fs := [.ref (ad (6 + 7 * 0 + 1)), .ref (ad (6 + 7 * 0 + 3)), .ref (ad (6 + 7 * 0 + 4)), .ref (ad (6 + 7 * 0 + 5)), .ref (ad (6 + 7 * 0 + 6)), .int ((V1 (6 + 7 * 0)) 5), .int ((V1 (6 + 7 * 0)) 6), .int ((V1 (6 + 7 * 0)) 0), .int ((V1 (6 + 7 * 0)) 1), .int ((V1 (6 + 7 * 0)) 2), .int ((V1 (6 + 7 * 0)) 3), .int ((V1 (6 + 7 * 0)) 4)]) (q := (6 + 7 * 0)) (v := .ref (ad (6 + 7 * 0 + 5))) (N := 12) hx hb hts (fun _ h => List.mem_cons_of_mem _ (List.mem_append_left _ (List.mem_append_left _ (List.mem_append_left _ (List.mem_append_right _ h))))) hown hK hP (by decide) (ce_bd ad cI cB (by decide : 0 < 6) (V1 (6 + 7 * 0))) rfl 3 (by decide) (hKN.2.1 (.fieldLinkNest RX7 243 "TurnedBoards$Board" "uprightWord" "[I" "TurnedBoards") (List.mem_of_getElem? (i := 2) rfl)) rfl rfl dX7_read_64 ?_
          refine lv_iload_n hx hb dX7_read_67 rfl (lv_at hl 1 rfl) ?_
          refine lv_aload_n hx hb dX7_read_68 rfl (lv_at hl 0 rfl) ?_
          refine x_get (ci := 5) (fs := [.ref (ad 6), .ref (ad 13), .ref (ad 4), .ref (ad 2), .ref (ad 1), .int ((V1 0) 0)]) (q := 0) (v := .ref (ad 2)) (N := 6) hx hb hts (fun _ h => List.mem_cons_of_mem _ (List.mem_append_left _ (List.mem_append_left _ (List.mem_append_left _ (List.mem_append_left _ (List.mem_append_right _ h)))))) hown hK hP (by decide) (ce_tb ad cI cB (V1 0)) rfl 3 (by decide) (hts (.fieldLink RX7 29 "TurnedBoards" "text" "LTurnedBoards$Script;") (List.mem_of_getElem? (i := 1) rfl)) rfl rfl dX7_read_69 ?_
          refine lv_iload_n hx hb dX7_read_72 rfl (lv_at hl 1 rfl) ?_
          refine k_VR (As := [.int x1_1]) (rest := [.int x1_1, .ref (ad (6 + 7 * 0 + 5))]) (q := 2) ⟨hx, hb, hml, hown, hts⟩ hKN hP hS (m_X5_letterAt l D cI cB ad V1 x1_1) (cwV 1 hts gX7_read_X5_letterAt rfl rfl rfl (by decide +kernel) ⟨(Nat.le_of_ble_eq_true rfl), (Nat.le_of_ble_eq_true rfl)⟩) (c_preV hP hKN (q := 2) (ci := 4) (fs := [.ref (ad 3), .int ((V1 2) 0)]) (by decide) (ce_sc ad cI cB (V1 2)) rfl rfl) rfl hl.1 rfl (Nat.le_of_ble_eq_true rfl) dX7_read_73 ⟨Nat.zero_le _, Nat.zero_le _⟩ (fun H locs hP hS => ?_)
          refine k_SWv (As := [.ref (ad (6 + 7 * 0 + 5)), .int x1_1, .int (f_X5_letterAt V1 x1_1)]) (rest := []) ⟨hx, hb, hml, hown, hts⟩ hKN hP hS (m_X4_put l D cI cB 54 (cellOf ad cI cB) ad hA V1 (6 + 7 * 0 + 5) 8 x1_1 (f_X5_letterAt V1 x1_1) (rw_bd ad cI cB (j := 0) (r := 5) (by decide : 0 < 6) (by decide) (fun _ => rfl))) (va_cwS 3 hts gX7_read_X4_put rfl rfl rfl (by decide +kernel) ⟨(Nat.le_of_ble_eq_true rfl), (Nat.le_of_ble_eq_true rfl)⟩) rfl hl.1 rfl (Nat.le_of_ble_eq_true rfl) dX7_read_76 ⟨Nat.zero_le _, Nat.zero_le _⟩ (fun H locs hP hS => ?_)
          refine lv_aload_n hx hb dX7_read_79 rfl (lv_at hl 0 rfl) ?_
          refine x_get (ci := 5) (fs := [.ref (ad 6), .ref (ad 13), .ref (ad 4), .ref (ad 2), .ref (ad 1), .int (((f_X4_put V1 (6 + 7 * 0 + 5) 8 x1_1 (f_X5_letterAt V1 x1_1)) 0) 0)]) (q := 0) (v := .ref (ad 6)) (N := 6) hx hb hts (fun _ h => List.mem_cons_of_mem _ (List.mem_append_left _ (List.mem_append_left _ (List.mem_append_left _ (List.mem_append_left _ (List.mem_append_right _ h)))))) hown hK hP (by decide) (ce_tb ad cI cB ((f_X4_put V1 (6 + 7 * 0 + 5) 8 x1_1 (f_X5_letterAt V1 x1_1)) 0)) rfl 0 (by decide) (hts (.fieldLink RX7 10 "TurnedBoards" "now" "LTurnedBoards$Board;") (List.mem_of_getElem? (i := 2) rfl)) rfl rfl dX7_read_80 ?_
          refine x_getN (ci := 0) (fs := [.ref (ad (6 + 7 * 0 + 1)), .ref (ad (6 + 7 * 0 + 3)), .ref (ad (6 + 7 * 0 + 4)), .ref (ad (6 + 7 * 0 + 5)), .ref (ad (6 + 7 * 0 + 6)), .int (((f_X4_put V1 (6 + 7 * 0 + 5) 8 x1_1 (f_X5_letterAt V1 x1_1)) (6 + 7 * 0)) 5), .int (((f_X4_put V1 (6 + 7 * 0 + 5) 8 x1_1 (f_X5_letterAt V1 x1_1)) (6 + 7 * 0)) 6), .int (((f_X4_put V1 (6 + 7 * 0 + 5) 8 x1_1 (f_X5_letterAt V1 x1_1)) (6 + 7 * 0)) 0), .int (((f_X4_put V1 (6 + 7 * 0 + 5) 8 x1_1 (f_X5_letterAt V1 x1_1)) (6 + 7 * 0)) 1), .int (((f_X4_put V1 (6 + 7 * 0 + 5) 8 x1_1 (f_X5_letterAt V1 x1_1)) (6 + 7 * 0)) 2), .int (((f_X4_put V1 (6 + 7 * 0 + 5) 8 x1_1 (f_X5_letterAt V1 x1_1)) (6 + 7 * 0)) 3), .int (((f_X4_put V1 (6 + 7 * 0 + 5) 8 x1_1 (f_X5_letterAt V1 x1_1)) (6 + 7 * 0)) 4)]) (q := (6 + 7 * 0)) (v := .ref (ad (6 + 7 * 0 + 6))) (N := 12) hx hb hts (fun _ h => List.mem_cons_of_mem _ (List.mem_append_left _ (List.mem_append_left _ (List.mem_append_left _ (List.mem_append_right _ h))))) hown hK hP (by decide) (ce_bd ad cI cB (by decide : 0 < 6) ((f_X4_put V1 (6 + 7 * 0 + 5) 8 x1_1 (f_X5_letterAt V1 x1_1)) (6 + 7 * 0))) rfl 4 (by decide) (hKN.2.1 (.fieldLinkNest RX7 256 "TurnedBoards$Board" "turnedWord" "[I" "TurnedBoards") (List.mem_of_getElem? (i := 3) rfl)) rfl rfl dX7_read_83 ?_
          refine lv_iload_n hx hb dX7_read_86 rfl (lv_at hl 1 rfl) ?_
          refine lv_aload_n hx hb dX7_read_87 rfl (lv_at hl 0 rfl) ?_
          refine x_get (ci := 5) (fs := [.ref (ad 6), .ref (ad 13), .ref (ad 4), .ref (ad 2), .ref (ad 1), .int (((f_X4_put V1 (6 + 7 * 0 + 5) 8 x1_1 (f_X5_letterAt V1 x1_1)) 0) 0)]) (q := 0) (v := .ref (ad 2)) (N := 6) hx hb hts (fun _ h => List.mem_cons_of_mem _ (List.mem_append_left _ (List.mem_append_left _ (List.mem_append_left _ (List.mem_append_left _ (List.mem_append_right _ h)))))) hown hK hP (by decide) (ce_tb ad cI cB ((f_X4_put V1 (6 + 7 * 0 + 5) 8 x1_1 (f_X5_letterAt V1 x1_1)) 0)) rfl 3 (by decide) (hts (.fieldLink RX7 29 "TurnedBoards" "text" "LTurnedBoards$Script;") (List.mem_of_getElem? (i := 1) rfl)) rfl rfl dX7_read_88 ?_
          refine lv_aload_n hx hb dX7_read_91 rfl (lv_at hl 0 rfl) ?_
          refine x_get (ci := 5) (fs := [.ref (ad 6), .ref (ad 13), .ref (ad 4), .ref (ad 2), .ref (ad 1), .int (((f_X4_put V1 (6 + 7 * 0 + 5) 8 x1_1 (f_X5_letterAt V1 x1_1)) 0) 0)]) (q := 0) (v := .ref (ad 6)) (N := 6) hx hb hts (fun _ h => List.mem_cons_of_mem _ (List.mem_append_left _ (List.mem_append_left _ (List.mem_append_left _ (List.mem_append_left _ (List.mem_append_right _ h)))))) hown hK hP (by decide) (ce_tb ad cI cB ((f_X4_put V1 (6 + 7 * 0 + 5) 8 x1_1 (f_X5_letterAt V1 x1_1)) 0)) rfl 0 (by decide) (hts (.fieldLink RX7 10 "TurnedBoards" "now" "LTurnedBoards$Board;") (List.mem_of_getElem? (i := 2) rfl)) rfl rfl dX7_read_92 ?_
          refine x_getN (ci := 0) (fs := [.ref (ad (6 + 7 * 0 + 1)), .ref (ad (6 + 7 * 0 + 3)), .ref (ad (6 + 7 * 0 + 4)), .ref (ad (6 + 7 * 0 + 5)), .ref (ad (6 + 7 * 0 + 6)), .int (((f_X4_put V1 (6 + 7 * 0 + 5) 8 x1_1 (f_X5_letterAt V1 x1_1)) (6 + 7 * 0)) 5), .int (((f_X4_put V1 (6 + 7 * 0 + 5) 8 x1_1 (f_X5_letterAt V1 x1_1)) (6 + 7 * 0)) 6), .int (((f_X4_put V1 (6 + 7 * 0 + 5) 8 x1_1 (f_X5_letterAt V1 x1_1)) (6 + 7 * 0)) 0), .int (((f_X4_put V1 (6 + 7 * 0 + 5) 8 x1_1 (f_X5_letterAt V1 x1_1)) (6 + 7 * 0)) 1), .int (((f_X4_put V1 (6 + 7 * 0 + 5) 8 x1_1 (f_X5_letterAt V1 x1_1)) (6 + 7 * 0)) 2), .int (((f_X4_put V1 (6 + 7 * 0 + 5) 8 x1_1 (f_X5_letterAt V1 x1_1)) (6 + 7 * 0)) 3), .int (((f_X4_put V1 (6 + 7 * 0 + 5) 8 x1_1 (f_X5_letterAt V1 x1_1)) (6 + 7 * 0)) 4)]) (q := (6 + 7 * 0)) (v := .int ((f_X4_put V1 (6 + 7 * 0 + 5) 8 x1_1 (f_X5_letterAt V1 x1_1)) (6 + 7 * 0) 0)) (N := 12) hx hb hts (fun _ h => List.mem_cons_of_mem _ (List.mem_append_left _ (List.mem_append_left _ (List.mem_append_left _ (List.mem_append_right _ h))))) hown hK hP (by decide) (ce_bd ad cI cB (by decide : 0 < 6) ((f_X4_put V1 (6 + 7 * 0 + 5) 8 x1_1 (f_X5_letterAt V1 x1_1)) (6 + 7 * 0))) rfl 7 (by decide) (hKN.2.1 (.fieldLinkNest RX7 88 "TurnedBoards$Board" "places" "I" "TurnedBoards") (List.mem_of_getElem? (i := 4) rfl)) rfl rfl dX7_read_95 ?_
          refine lv_iconst (v := 1) hx hb dX7_read_98 (by decide) ?_
          refine lv_iadd hx hb dX7_read_99 ?_
          refine lv_iload_n hx hb dX7_read_100 rfl (lv_at hl 1 rfl) ?_
          refine lv_iadd hx hb dX7_read_101 ?_
          refine k_VR (As := [.int ((((f_X4_put V1 (6 + 7 * 0 + 5) 8 x1_1 (f_X5_letterAt V1 x1_1)) (6 + 7 * 0) 0) + 1) + x1_1)]) (rest := [.int x1_1, .ref (ad (6 + 7 * 0 + 6))]) (q := 2) ⟨hx, hb, hml, hown, hts⟩ hKN hP hS (m_X5_letterAt l D cI cB ad (f_X4_put V1 (6 + 7 * 0 + 5) 8 x1_1 (f_X5_letterAt V1 x1_1)) ((((f_X4_put V1 (6 + 7 * 0 + 5) 8 x1_1 (f_X5_letterAt V1 x1_1)) (6 + 7 * 0) 0) + 1) + x1_1)) (cwV 1 hts gX7_read_X5_letterAt rfl rfl rfl (by decide +kernel) ⟨(Nat.le_of_ble_eq_true rfl), (Nat.le_of_ble_eq_true rfl)⟩) (c_preV hP hKN (q := 2) (ci := 4) (fs := [.ref (ad 3), .int (((f_X4_put V1 (6 + 7 * 0 + 5) 8 x1_1 (f_X5_letterAt V1 x1_1)) 2) 0)]) (by decide) (ce_sc ad cI cB ((f_X4_put V1 (6 + 7 * 0 + 5) 8 x1_1 (f_X5_letterAt V1 x1_1)) 2)) rfl rfl) rfl hl.1 rfl (Nat.le_of_ble_eq_true rfl) dX7_read_102 ⟨Nat.zero_le _, Nat.zero_le _⟩ (fun H locs hP hS => ?_)
          refine k_SWv (As := [.ref (ad (6 + 7 * 0 + 6)), .int x1_1, .int (f_X5_letterAt (f_X4_put V1 (6 + 7 * 0 + 5) 8 x1_1 (f_X5_letterAt V1 x1_1)) ((((f_X4_put V1 (6 + 7 * 0 + 5) 8 x1_1 (f_X5_letterAt V1 x1_1)) (6 + 7 * 0) 0) + 1) + x1_1))]) (rest := []) ⟨hx, hb, hml, hown, hts⟩ hKN hP hS (m_X4_put l D cI cB 54 (cellOf ad cI cB) ad hA (f_X4_put V1 (6 + 7 * 0 + 5) 8 x1_1 (f_X5_letterAt V1 x1_1)) (6 + 7 * 0 + 6) 8 x1_1 (f_X5_letterAt (f_X4_put V1 (6 + 7 * 0 + 5) 8 x1_1 (f_X5_letterAt V1 x1_1)) ((((f_X4_put V1 (6 + 7 * 0 + 5) 8 x1_1 (f_X5_letterAt V1 x1_1)) (6 + 7 * 0) 0) + 1) + x1_1)) (rw_bd ad cI cB (j := 0) (r := 6) (by decide : 0 < 6) (by decide) (fun _ => rfl))) (va_cwS 3 hts gX7_read_X4_put rfl rfl rfl (by decide +kernel) ⟨(Nat.le_of_ble_eq_true rfl), (Nat.le_of_ble_eq_true rfl)⟩) rfl hl.1 rfl (Nat.le_of_ble_eq_true rfl) dX7_read_105 ⟨Nat.zero_le _, Nat.zero_le _⟩ (fun H locs hP hS => ?_)
          have hP : wP D cI cB ad (v_X7_read_1 x1_1 V1) H := hP
          refine lv_iinc (v := (x1_1 + 1)) (lv' := [(1, .int (x1_1 + 1)), (0, .ref (ad 0))]) hx hb dX7_read_108 hl (k := 1) rfl (by rfl) (by decide) rfl (fun ls hl => ?_)
          refine lv_goto (tgt := 49) hx hb dX7_read_111 (by decide) ?_
          exact ih1 (v_X7_read_1 x1_1 V1) (x1_1 + 1) hE hp H locs hP hS ls (lv_sub hl [1, 0] rfl)
    exact L1 fu (f_X0_renew fu (f_X2_push fu V 0) 0 (f_X5_firstLength fu (f_X2_push fu V 0))) 0 hE hp _ _ hP hS _ (lv_sub hl [1, 0] rfl)
  · have hE := hE.trans (if_neg c1)
    refine lv_sipush (v := (-1002)) hx hb dX7_read_18 (by decide) ?_
    exact W.iret (v := (-1002)) hx hb hr (fun t ht hW => ⟨⟨(-1002), V, rfl, ⟨(congrArg Prod.fst hE).symm, (congrArg Prod.snd hE).symm⟩, by dsimp only; rw [ht]; exact hP⟩, hS.F ht⟩) hS.2.2 dX7_read_21
def f_X7_compose (fu : Nat) (V : VT) (p1 : Int32) : Int32 × VT := (if (f_X0_hasPlace V 0 p1) = 0 then ((-1001), V) else (if ((f_X7_findFor fu V p1).1) = 0 then ((-1002), (f_X7_findFor fu V p1).2) else (((f_X0_hang (f_X2_push fu ((f_X7_findFor fu V p1).2) 0) 0 p1 ((f_X2_push fu ((f_X7_findFor fu V p1).2) 0) 1 5)) 1 5), (f_X0_hang (f_X2_push fu ((f_X7_findFor fu V p1).2) 0) 0 p1 ((f_X2_push fu ((f_X7_findFor fu V p1).2) 0) 1 5)))))
def p_X7_compose (fu : Nat) (V : VT) (p1 : Int32) : Prop := (((f_X0_hasPlace V 0 p1) = 0 → True) ∧ (¬ ((f_X0_hasPlace V 0 p1) = 0) → ((p_X7_findFor fu V p1) ∧ ((((f_X7_findFor fu V p1).1) = 0 → True) ∧ (¬ (((f_X7_findFor fu V p1).1) = 0) → (p_X2_push fu ((f_X7_findFor fu V p1).2) 0))))))
set_option maxHeartbeats 4000000 in
set_option maxRecDepth 100000 in
theorem m_X7_compose (l : Launch) (D : va_G) (cI cB : ClassId) (ad : Nat → Nat) {A : Nat → Prop} (hA : adOk ad A) (fu : Nat) (V : VT) (p1 : Int32)  (hp : p_X7_compose fu V p1) : Met l yX7_compose wsX7_compose ({ frames := 46, cells := 0, slots := 0, locals := 1097 }) (cP D cI cB ad V [.ref (ad 0), .int p1]) (cWi D cI cB ad A (f_X7_compose fu V p1)) 0 0 A := by
  refine Met.ofW (cc := cX7_compose) (maxL := 2) (ret := (some .int)) (by decide +kernel) rfl ?_
  intro p e s m args below meth c s₁ B hml hv
  obtain ⟨rfl, hP, hKN⟩ := hv
  have hK := hKN.1
  have hx := B.exec
  have hb := B.bytes
  have hr := B.returns
  have hts := atoms_spec (ws := wsX7_compose) B.pre
  have hown : s.vm.findClass RX7 = some m.cls := findClass_of_methodNamed B.named
  have hlocks := B.notSynchronized
  have hS : va_S A s.heap s.heap [] := va_S.rf
  have hl := lv_entry ([.ref (ad 0), .int p1]) (n := 2) (Nat.le_of_ble_eq_true rfl)
  rw [lg_entry_eq]
  generalize (lg_sl ([.ref (ad 0), .int p1]) ++ List.replicate (2 - (lg_sl ([.ref (ad 0), .int p1])).length) Slot.unset).toArray = ls at hl ⊢
  have hl : lv_has ls 2 [(0, .ref (ad 0)), (1, .int p1)] := hl
  have hE : f_X7_compose fu V p1 = (if (f_X0_hasPlace V 0 p1) = 0 then ((-1001), V) else (if ((f_X7_findFor fu V p1).1) = 0 then ((-1002), (f_X7_findFor fu V p1).2) else (((f_X0_hang (f_X2_push fu ((f_X7_findFor fu V p1).2) 0) 0 p1 ((f_X2_push fu ((f_X7_findFor fu V p1).2) 0) 1 5)) 1 5), (f_X0_hang (f_X2_push fu ((f_X7_findFor fu V p1).2) 0) 0 p1 ((f_X2_push fu ((f_X7_findFor fu V p1).2) 0) 1 5))))) := rfl
  refine lv_aload_n hx hb dX7_compose_0 rfl (lv_at hl 0 rfl) ?_
  refine x_get (ci := 5) (fs := [.ref (ad 6), .ref (ad 13), .ref (ad 4), .ref (ad 2), .ref (ad 1), .int ((V 0) 0)]) (q := 0) (v := .ref (ad 6)) (N := 6) hx hb hts (fun _ h => List.mem_cons_of_mem _ (List.mem_append_left _ (List.mem_append_left _ (List.mem_append_left _ (List.mem_append_left _ (List.mem_append_right _ h)))))) hown hK hP (by decide) (ce_tb ad cI cB (V 0)) rfl 0 (by decide) (hts (.fieldLink RX7 10 "TurnedBoards" "now" "LTurnedBoards$Board;") (List.mem_of_getElem? (i := 1) rfl)) rfl rfl dX7_compose_1 ?_
  refine lv_iload_n hx hb dX7_compose_4 rfl (lv_at hl 1 rfl) ?_
  refine k_VR (As := [.int p1]) (rest := []) (q := (6 + 7 * 0)) ⟨hx, hb, hml, hown, hts⟩ hKN hP hS (m_X0_hasPlace l D cI cB ad V 0 p1 (by decide : 0 < 6)) (cwV 1 hts gX7_compose_X0_hasPlace rfl rfl rfl (by decide +kernel) ⟨(Nat.le_of_ble_eq_true rfl), (Nat.le_of_ble_eq_true rfl)⟩) (c_preV hP hKN (q := (6 + 7 * 0)) (ci := 0) (fs := [.ref (ad (6 + 7 * 0 + 1)), .ref (ad (6 + 7 * 0 + 3)), .ref (ad (6 + 7 * 0 + 4)), .ref (ad (6 + 7 * 0 + 5)), .ref (ad (6 + 7 * 0 + 6)), .int ((V (6 + 7 * 0)) 5), .int ((V (6 + 7 * 0)) 6), .int ((V (6 + 7 * 0)) 0), .int ((V (6 + 7 * 0)) 1), .int ((V (6 + 7 * 0)) 2), .int ((V (6 + 7 * 0)) 3), .int ((V (6 + 7 * 0)) 4)]) (by decide) (ce_bd ad cI cB (by decide : 0 < 6) (V (6 + 7 * 0))) rfl rfl) rfl hl.1 rfl (Nat.le_of_ble_eq_true rfl) dX7_compose_5 ⟨Nat.zero_le _, Nat.zero_le _⟩ (fun H locs hP hS => ?_)
  refine lv_if_ne (tgt := 15) hx hb dX7_compose_8 (by decide) (fun c1 => ?_) (fun c1 => ?_)
  · have hE := hE.trans (if_neg c1)
    have hp := pc_bn hp c1
    refine lv_aload_n hx hb dX7_compose_15 rfl (lv_at hl 0 rfl) ?_
    refine lv_iload_n hx hb dX7_compose_16 rfl (lv_at hl 1 rfl) ?_
    obtain ⟨hn1, hp⟩ := hp
    refine k_VWi (As := [.int p1]) (rest := []) (q := 0) ⟨hx, hb, hml, hown, hts⟩ hKN hP hS (m_X7_findFor l D cI cB ad hA fu V p1 hn1) (cwV 1 hts gX7_compose_X7_findFor rfl rfl rfl (by decide +kernel) ⟨(Nat.le_of_ble_eq_true rfl), (Nat.le_of_ble_eq_true rfl)⟩) (c_preV hP hKN (q := 0) (ci := 5) (fs := [.ref (ad 6), .ref (ad 13), .ref (ad 4), .ref (ad 2), .ref (ad 1), .int ((V 0) 0)]) (by decide) (ce_tb ad cI cB (V 0)) rfl rfl) rfl hl.1 rfl (Nat.le_of_ble_eq_true rfl) dX7_compose_17 ⟨Nat.zero_le _, Nat.zero_le _⟩ (fun H locs hP hS => ?_)
    refine lv_if_ne (tgt := 27) hx hb dX7_compose_20 (by decide) (fun c2 => ?_) (fun c2 => ?_)
    · have hE := hE.trans (if_neg c2)
      have hp := pc_bn hp c2
      refine lv_aload_n hx hb dX7_compose_27 rfl (lv_at hl 0 rfl) ?_
      refine x_get (ci := 5) (fs := [.ref (ad 6), .ref (ad 13), .ref (ad 4), .ref (ad 2), .ref (ad 1), .int ((((f_X7_findFor fu V p1).2) 0) 0)]) (q := 0) (v := .ref (ad 4)) (N := 6) hx hb hts (fun _ h => List.mem_cons_of_mem _ (List.mem_append_left _ (List.mem_append_left _ (List.mem_append_left _ (List.mem_append_left _ (List.mem_append_right _ h)))))) hown hK hP (by decide) (ce_tb ad cI cB (((f_X7_findFor fu V p1).2) 0)) rfl 2 (by decide) (hts (.fieldLink RX7 22 "TurnedBoards" "history" "LTurnedBoards$History;") (List.mem_of_getElem? (i := 2) rfl)) rfl rfl dX7_compose_28 ?_
      refine lv_aload_n hx hb dX7_compose_31 rfl (lv_at hl 0 rfl) ?_
      refine x_get (ci := 5) (fs := [.ref (ad 6), .ref (ad 13), .ref (ad 4), .ref (ad 2), .ref (ad 1), .int ((((f_X7_findFor fu V p1).2) 0) 0)]) (q := 0) (v := .ref (ad 6)) (N := 6) hx hb hts (fun _ h => List.mem_cons_of_mem _ (List.mem_append_left _ (List.mem_append_left _ (List.mem_append_left _ (List.mem_append_left _ (List.mem_append_right _ h)))))) hown hK hP (by decide) (ce_tb ad cI cB (((f_X7_findFor fu V p1).2) 0)) rfl 0 (by decide) (hts (.fieldLink RX7 10 "TurnedBoards" "now" "LTurnedBoards$Board;") (List.mem_of_getElem? (i := 1) rfl)) rfl rfl dX7_compose_32 ?_
      have hn2 := hp
      refine k_VWv (As := [.ref (ad 6)]) (rest := []) (q := 4) ⟨hx, hb, hml, hown, hts⟩ hKN hP hS (m_X2_push l D cI cB ad hA fu ((f_X7_findFor fu V p1).2) 0 (by decide : 0 < 6) hn2) (cwV 1 hts gX7_compose_X2_push rfl rfl rfl (by decide +kernel) ⟨(Nat.le_of_ble_eq_true rfl), (Nat.le_of_ble_eq_true rfl)⟩) (c_preV hP hKN (q := 4) (ci := 2) (fs := [.ref (ad 5), .int ((((f_X7_findFor fu V p1).2) 4) 0)]) (by decide) (ce_hs ad cI cB (((f_X7_findFor fu V p1).2) 4)) rfl rfl) rfl hl.1 rfl (Nat.le_of_ble_eq_true rfl) dX7_compose_35 ⟨Nat.zero_le _, Nat.zero_le _⟩ (fun H locs hP hS => ?_)
      refine lv_aload_n hx hb dX7_compose_38 rfl (lv_at hl 0 rfl) ?_
      refine x_get (ci := 5) (fs := [.ref (ad 6), .ref (ad 13), .ref (ad 4), .ref (ad 2), .ref (ad 1), .int (((f_X2_push fu ((f_X7_findFor fu V p1).2) 0) 0) 0)]) (q := 0) (v := .ref (ad 6)) (N := 6) hx hb hts (fun _ h => List.mem_cons_of_mem _ (List.mem_append_left _ (List.mem_append_left _ (List.mem_append_left _ (List.mem_append_left _ (List.mem_append_right _ h)))))) hown hK hP (by decide) (ce_tb ad cI cB ((f_X2_push fu ((f_X7_findFor fu V p1).2) 0) 0)) rfl 0 (by decide) (hts (.fieldLink RX7 10 "TurnedBoards" "now" "LTurnedBoards$Board;") (List.mem_of_getElem? (i := 1) rfl)) rfl rfl dX7_compose_39 ?_
      refine lv_iload_n hx hb dX7_compose_42 rfl (lv_at hl 1 rfl) ?_
      refine lv_aload_n hx hb dX7_compose_43 rfl (lv_at hl 0 rfl) ?_
      refine x_get (ci := 5) (fs := [.ref (ad 6), .ref (ad 13), .ref (ad 4), .ref (ad 2), .ref (ad 1), .int (((f_X2_push fu ((f_X7_findFor fu V p1).2) 0) 0) 0)]) (q := 0) (v := .ref (ad 1)) (N := 6) hx hb hts (fun _ h => List.mem_cons_of_mem _ (List.mem_append_left _ (List.mem_append_left _ (List.mem_append_left _ (List.mem_append_left _ (List.mem_append_right _ h)))))) hown hK hP (by decide) (ce_tb ad cI cB ((f_X2_push fu ((f_X7_findFor fu V p1).2) 0) 0)) rfl 4 (by decide) (hts (.fieldLink RX7 36 "TurnedBoards" "composer" "LTurnedBoards$Composer;") (List.mem_of_getElem? (i := 3) rfl)) rfl rfl dX7_compose_44 ?_
      refine x_getN (ci := 1) (fs := [(if ((f_X2_push fu ((f_X7_findFor fu V p1).2) 0) 1) 0 = 0 then Value.null else Value.ref (ad 7)), .int (((f_X2_push fu ((f_X7_findFor fu V p1).2) 0) 1) 1), .int (((f_X2_push fu ((f_X7_findFor fu V p1).2) 0) 1) 2), .int (((f_X2_push fu ((f_X7_findFor fu V p1).2) 0) 1) 3), .int (((f_X2_push fu ((f_X7_findFor fu V p1).2) 0) 1) 4), .int (((f_X2_push fu ((f_X7_findFor fu V p1).2) 0) 1) 5), .int (((f_X2_push fu ((f_X7_findFor fu V p1).2) 0) 1) 6)]) (q := 1) (v := .int ((f_X2_push fu ((f_X7_findFor fu V p1).2) 0) 1 5)) (N := 7) hx hb hts (fun _ h => List.mem_cons_of_mem _ (List.mem_append_left _ (List.mem_append_left _ (List.mem_append_left _ (List.mem_append_right _ h))))) hown hK hP (by decide) (ce_cm ad cI cB ((f_X2_push fu ((f_X7_findFor fu V p1).2) 0) 1)) rfl 5 (by decide) (hKN.2.1 (.fieldLinkNest RX7 84 "TurnedBoards$Composer" "best" "I" "TurnedBoards") (List.mem_of_getElem? (i := 14) rfl)) rfl rfl dX7_compose_47 ?_
      refine k_VWv (As := [.int p1, .int ((f_X2_push fu ((f_X7_findFor fu V p1).2) 0) 1 5)]) (rest := []) (q := (6 + 7 * 0)) ⟨hx, hb, hml, hown, hts⟩ hKN hP hS (m_X0_hang l D cI cB ad hA (f_X2_push fu ((f_X7_findFor fu V p1).2) 0) 0 p1 ((f_X2_push fu ((f_X7_findFor fu V p1).2) 0) 1 5) (by decide : 0 < 6)) (cwV 2 hts gX7_compose_X0_hang rfl rfl rfl (by decide +kernel) ⟨(Nat.le_of_ble_eq_true rfl), (Nat.le_of_ble_eq_true rfl)⟩) (c_preV hP hKN (q := (6 + 7 * 0)) (ci := 0) (fs := [.ref (ad (6 + 7 * 0 + 1)), .ref (ad (6 + 7 * 0 + 3)), .ref (ad (6 + 7 * 0 + 4)), .ref (ad (6 + 7 * 0 + 5)), .ref (ad (6 + 7 * 0 + 6)), .int (((f_X2_push fu ((f_X7_findFor fu V p1).2) 0) (6 + 7 * 0)) 5), .int (((f_X2_push fu ((f_X7_findFor fu V p1).2) 0) (6 + 7 * 0)) 6), .int (((f_X2_push fu ((f_X7_findFor fu V p1).2) 0) (6 + 7 * 0)) 0), .int (((f_X2_push fu ((f_X7_findFor fu V p1).2) 0) (6 + 7 * 0)) 1), .int (((f_X2_push fu ((f_X7_findFor fu V p1).2) 0) (6 + 7 * 0)) 2), .int (((f_X2_push fu ((f_X7_findFor fu V p1).2) 0) (6 + 7 * 0)) 3), .int (((f_X2_push fu ((f_X7_findFor fu V p1).2) 0) (6 + 7 * 0)) 4)]) (by decide) (ce_bd ad cI cB (by decide : 0 < 6) ((f_X2_push fu ((f_X7_findFor fu V p1).2) 0) (6 + 7 * 0))) rfl rfl) rfl hl.1 rfl (Nat.le_of_ble_eq_true rfl) dX7_compose_50 ⟨Nat.zero_le _, Nat.zero_le _⟩ (fun H locs hP hS => ?_)
      refine lv_aload_n hx hb dX7_compose_53 rfl (lv_at hl 0 rfl) ?_
      refine x_get (ci := 5) (fs := [.ref (ad 6), .ref (ad 13), .ref (ad 4), .ref (ad 2), .ref (ad 1), .int (((f_X0_hang (f_X2_push fu ((f_X7_findFor fu V p1).2) 0) 0 p1 ((f_X2_push fu ((f_X7_findFor fu V p1).2) 0) 1 5)) 0) 0)]) (q := 0) (v := .ref (ad 1)) (N := 6) hx hb hts (fun _ h => List.mem_cons_of_mem _ (List.mem_append_left _ (List.mem_append_left _ (List.mem_append_left _ (List.mem_append_left _ (List.mem_append_right _ h)))))) hown hK hP (by decide) (ce_tb ad cI cB ((f_X0_hang (f_X2_push fu ((f_X7_findFor fu V p1).2) 0) 0 p1 ((f_X2_push fu ((f_X7_findFor fu V p1).2) 0) 1 5)) 0)) rfl 4 (by decide) (hts (.fieldLink RX7 36 "TurnedBoards" "composer" "LTurnedBoards$Composer;") (List.mem_of_getElem? (i := 3) rfl)) rfl rfl dX7_compose_54 ?_
      refine x_getN (ci := 1) (fs := [(if ((f_X0_hang (f_X2_push fu ((f_X7_findFor fu V p1).2) 0) 0 p1 ((f_X2_push fu ((f_X7_findFor fu V p1).2) 0) 1 5)) 1) 0 = 0 then Value.null else Value.ref (ad 7)), .int (((f_X0_hang (f_X2_push fu ((f_X7_findFor fu V p1).2) 0) 0 p1 ((f_X2_push fu ((f_X7_findFor fu V p1).2) 0) 1 5)) 1) 1), .int (((f_X0_hang (f_X2_push fu ((f_X7_findFor fu V p1).2) 0) 0 p1 ((f_X2_push fu ((f_X7_findFor fu V p1).2) 0) 1 5)) 1) 2), .int (((f_X0_hang (f_X2_push fu ((f_X7_findFor fu V p1).2) 0) 0 p1 ((f_X2_push fu ((f_X7_findFor fu V p1).2) 0) 1 5)) 1) 3), .int (((f_X0_hang (f_X2_push fu ((f_X7_findFor fu V p1).2) 0) 0 p1 ((f_X2_push fu ((f_X7_findFor fu V p1).2) 0) 1 5)) 1) 4), .int (((f_X0_hang (f_X2_push fu ((f_X7_findFor fu V p1).2) 0) 0 p1 ((f_X2_push fu ((f_X7_findFor fu V p1).2) 0) 1 5)) 1) 5), .int (((f_X0_hang (f_X2_push fu ((f_X7_findFor fu V p1).2) 0) 0 p1 ((f_X2_push fu ((f_X7_findFor fu V p1).2) 0) 1 5)) 1) 6)]) (q := 1) (v := .int ((f_X0_hang (f_X2_push fu ((f_X7_findFor fu V p1).2) 0) 0 p1 ((f_X2_push fu ((f_X7_findFor fu V p1).2) 0) 1 5)) 1 5)) (N := 7) hx hb hts (fun _ h => List.mem_cons_of_mem _ (List.mem_append_left _ (List.mem_append_left _ (List.mem_append_left _ (List.mem_append_right _ h))))) hown hK hP (by decide) (ce_cm ad cI cB ((f_X0_hang (f_X2_push fu ((f_X7_findFor fu V p1).2) 0) 0 p1 ((f_X2_push fu ((f_X7_findFor fu V p1).2) 0) 1 5)) 1)) rfl 5 (by decide) (hKN.2.1 (.fieldLinkNest RX7 84 "TurnedBoards$Composer" "best" "I" "TurnedBoards") (List.mem_of_getElem? (i := 14) rfl)) rfl rfl dX7_compose_57 ?_
      exact W.iret (v := ((f_X0_hang (f_X2_push fu ((f_X7_findFor fu V p1).2) 0) 0 p1 ((f_X2_push fu ((f_X7_findFor fu V p1).2) 0) 1 5)) 1 5)) hx hb hr (fun t ht hW => ⟨⟨((f_X0_hang (f_X2_push fu ((f_X7_findFor fu V p1).2) 0) 0 p1 ((f_X2_push fu ((f_X7_findFor fu V p1).2) 0) 1 5)) 1 5), (f_X0_hang (f_X2_push fu ((f_X7_findFor fu V p1).2) 0) 0 p1 ((f_X2_push fu ((f_X7_findFor fu V p1).2) 0) 1 5)), rfl, ⟨(congrArg Prod.fst hE).symm, (congrArg Prod.snd hE).symm⟩, by dsimp only; rw [ht]; exact hP⟩, hS.F ht⟩) hS.2.2 dX7_compose_60
    · have hE := hE.trans (if_pos c2)
      refine lv_sipush (v := (-1002)) hx hb dX7_compose_23 (by decide) ?_
      exact W.iret (v := (-1002)) hx hb hr (fun t ht hW => ⟨⟨(-1002), (f_X7_findFor fu V p1).2, rfl, ⟨(congrArg Prod.fst hE).symm, (congrArg Prod.snd hE).symm⟩, by dsimp only; rw [ht]; exact hP⟩, hS.F ht⟩) hS.2.2 dX7_compose_26
  · have hE := hE.trans (if_pos c1)
    refine lv_sipush (v := (-1001)) hx hb dX7_compose_11 (by decide) ?_
    exact W.iret (v := (-1001)) hx hb hr (fun t ht hW => ⟨⟨(-1001), V, rfl, ⟨(congrArg Prod.fst hE).symm, (congrArg Prod.snd hE).symm⟩, by dsimp only; rw [ht]; exact hP⟩, hS.F ht⟩) hS.2.2 dX7_compose_14
def f_X7_composeAll_l1 (fu : Nat)  : Nat → VT → Int32 → Int32 → Int32 × VT
  | 0, V1, x1_1, x2_1 => (0, V1)
  | w1 + 1, V1, x1_1, x2_1 => (if (V1 (6 + 7 * 0) 0) ≤ x2_1 then (x1_1, V1) else (if ((f_X7_findFor fu V1 x2_1).1) = 0 then (f_X7_composeAll_l1 fu  w1 ((f_X7_findFor fu V1 x2_1).2) x1_1 (x2_1 + 1)) else (f_X7_composeAll_l1 fu  w1 (f_X0_hang ((f_X7_findFor fu V1 x2_1).2) 0 x2_1 (((f_X7_findFor fu V1 x2_1).2) 1 5)) (x1_1 + 1) (x2_1 + 1))))
def p_X7_composeAll_l1 (fu : Nat)  : Nat → VT → Int32 → Int32 → Prop
  | 0, _, _, _ => False
  | w1 + 1, V1, x1_1, x2_1 => (((V1 (6 + 7 * 0) 0) ≤ x2_1 → True) ∧ (¬ ((V1 (6 + 7 * 0) 0) ≤ x2_1) → ((p_X7_findFor fu V1 x2_1) ∧ ((((f_X7_findFor fu V1 x2_1).1) = 0 → (p_X7_composeAll_l1 fu  w1 ((f_X7_findFor fu V1 x2_1).2) x1_1 (x2_1 + 1))) ∧ (¬ (((f_X7_findFor fu V1 x2_1).1) = 0) → (p_X7_composeAll_l1 fu  w1 (f_X0_hang ((f_X7_findFor fu V1 x2_1).2) 0 x2_1 (((f_X7_findFor fu V1 x2_1).2) 1 5)) (x1_1 + 1) (x2_1 + 1)))))))
def f_X7_composeAll (fu : Nat) (V : VT)  : Int32 × VT := (if (V (6 + 7 * 0) 0) = 0 then ((-1002), V) else (f_X7_composeAll_l1 fu  fu (f_X2_push fu V 0) 0 0))
def p_X7_composeAll (fu : Nat) (V : VT)  : Prop := (((V (6 + 7 * 0) 0) = 0 → True) ∧ (¬ ((V (6 + 7 * 0) 0) = 0) → ((p_X2_push fu V 0) ∧ (p_X7_composeAll_l1 fu  fu (f_X2_push fu V 0) 0 0))))
set_option maxHeartbeats 4000000 in
set_option maxRecDepth 100000 in
theorem m_X7_composeAll (l : Launch) (D : va_G) (cI cB : ClassId) (ad : Nat → Nat) {A : Nat → Prop} (hA : adOk ad A) (fu : Nat) (V : VT)   (hp : p_X7_composeAll fu V ) : Met l yX7_composeAll wsX7_composeAll ({ frames := 46, cells := 0, slots := 0, locals := 1097 }) (cP D cI cB ad V [.ref (ad 0)]) (cWi D cI cB ad A (f_X7_composeAll fu V)) 0 0 A := by
  refine Met.ofW (cc := cX7_composeAll) (maxL := 3) (ret := (some .int)) (by decide +kernel) rfl ?_
  intro p e s m args below meth c s₁ B hml hv
  obtain ⟨rfl, hP, hKN⟩ := hv
  have hK := hKN.1
  have hx := B.exec
  have hb := B.bytes
  have hr := B.returns
  have hts := atoms_spec (ws := wsX7_composeAll) B.pre
  have hown : s.vm.findClass RX7 = some m.cls := findClass_of_methodNamed B.named
  have hlocks := B.notSynchronized
  have hS : va_S A s.heap s.heap [] := va_S.rf
  have hl := lv_entry ([.ref (ad 0)]) (n := 3) (Nat.le_of_ble_eq_true rfl)
  rw [lg_entry_eq]
  generalize (lg_sl ([.ref (ad 0)]) ++ List.replicate (3 - (lg_sl ([.ref (ad 0)])).length) Slot.unset).toArray = ls at hl ⊢
  have hl : lv_has ls 3 [(0, .ref (ad 0))] := hl
  have hE : f_X7_composeAll fu V = (if (V (6 + 7 * 0) 0) = 0 then ((-1002), V) else (f_X7_composeAll_l1 fu  fu (f_X2_push fu V 0) 0 0)) := rfl
  refine lv_aload_n hx hb dX7_composeAll_0 rfl (lv_at hl 0 rfl) ?_
  refine x_get (ci := 5) (fs := [.ref (ad 6), .ref (ad 13), .ref (ad 4), .ref (ad 2), .ref (ad 1), .int ((V 0) 0)]) (q := 0) (v := .ref (ad 6)) (N := 6) hx hb hts (fun _ h => List.mem_cons_of_mem _ (List.mem_append_left _ (List.mem_append_left _ (List.mem_append_left _ (List.mem_append_left _ (List.mem_append_right _ h)))))) hown hK hP (by decide) (ce_tb ad cI cB (V 0)) rfl 0 (by decide) (hts (.fieldLink RX7 10 "TurnedBoards" "now" "LTurnedBoards$Board;") (List.mem_of_getElem? (i := 1) rfl)) rfl rfl dX7_composeAll_1 ?_
  refine x_getN (ci := 0) (fs := [.ref (ad (6 + 7 * 0 + 1)), .ref (ad (6 + 7 * 0 + 3)), .ref (ad (6 + 7 * 0 + 4)), .ref (ad (6 + 7 * 0 + 5)), .ref (ad (6 + 7 * 0 + 6)), .int ((V (6 + 7 * 0)) 5), .int ((V (6 + 7 * 0)) 6), .int ((V (6 + 7 * 0)) 0), .int ((V (6 + 7 * 0)) 1), .int ((V (6 + 7 * 0)) 2), .int ((V (6 + 7 * 0)) 3), .int ((V (6 + 7 * 0)) 4)]) (q := (6 + 7 * 0)) (v := .int (V (6 + 7 * 0) 0)) (N := 12) hx hb hts (fun _ h => List.mem_cons_of_mem _ (List.mem_append_left _ (List.mem_append_left _ (List.mem_append_left _ (List.mem_append_right _ h))))) hown hK hP (by decide) (ce_bd ad cI cB (by decide : 0 < 6) (V (6 + 7 * 0))) rfl 7 (by decide) (hKN.2.1 (.fieldLinkNest RX7 88 "TurnedBoards$Board" "places" "I" "TurnedBoards") (List.mem_of_getElem? (i := 4) rfl)) rfl rfl dX7_composeAll_4 ?_
  refine lv_if_ne (tgt := 14) hx hb dX7_composeAll_7 (by decide) (fun c1 => ?_) (fun c1 => ?_)
  · have hE := hE.trans (if_neg c1)
    have hp := pc_bn hp c1
    refine lv_aload_n hx hb dX7_composeAll_14 rfl (lv_at hl 0 rfl) ?_
    refine x_get (ci := 5) (fs := [.ref (ad 6), .ref (ad 13), .ref (ad 4), .ref (ad 2), .ref (ad 1), .int ((V 0) 0)]) (q := 0) (v := .ref (ad 4)) (N := 6) hx hb hts (fun _ h => List.mem_cons_of_mem _ (List.mem_append_left _ (List.mem_append_left _ (List.mem_append_left _ (List.mem_append_left _ (List.mem_append_right _ h)))))) hown hK hP (by decide) (ce_tb ad cI cB (V 0)) rfl 2 (by decide) (hts (.fieldLink RX7 22 "TurnedBoards" "history" "LTurnedBoards$History;") (List.mem_of_getElem? (i := 2) rfl)) rfl rfl dX7_composeAll_15 ?_
    refine lv_aload_n hx hb dX7_composeAll_18 rfl (lv_at hl 0 rfl) ?_
    refine x_get (ci := 5) (fs := [.ref (ad 6), .ref (ad 13), .ref (ad 4), .ref (ad 2), .ref (ad 1), .int ((V 0) 0)]) (q := 0) (v := .ref (ad 6)) (N := 6) hx hb hts (fun _ h => List.mem_cons_of_mem _ (List.mem_append_left _ (List.mem_append_left _ (List.mem_append_left _ (List.mem_append_left _ (List.mem_append_right _ h)))))) hown hK hP (by decide) (ce_tb ad cI cB (V 0)) rfl 0 (by decide) (hts (.fieldLink RX7 10 "TurnedBoards" "now" "LTurnedBoards$Board;") (List.mem_of_getElem? (i := 1) rfl)) rfl rfl dX7_composeAll_19 ?_
    obtain ⟨hn1, hp⟩ := hp
    refine k_VWv (As := [.ref (ad 6)]) (rest := []) (q := 4) ⟨hx, hb, hml, hown, hts⟩ hKN hP hS (m_X2_push l D cI cB ad hA fu V 0 (by decide : 0 < 6) hn1) (cwV 1 hts gX7_composeAll_X2_push rfl rfl rfl (by decide +kernel) ⟨(Nat.le_of_ble_eq_true rfl), (Nat.le_of_ble_eq_true rfl)⟩) (c_preV hP hKN (q := 4) (ci := 2) (fs := [.ref (ad 5), .int ((V 4) 0)]) (by decide) (ce_hs ad cI cB (V 4)) rfl rfl) rfl hl.1 rfl (Nat.le_of_ble_eq_true rfl) dX7_composeAll_22 ⟨Nat.zero_le _, Nat.zero_le _⟩ (fun H locs hP hS => ?_)
    refine lv_iconst (v := 0) hx hb dX7_composeAll_25 (by decide) ?_
    refine lv_istore_n (lv' := [(1, .int 0), (0, .ref (ad 0))]) hx hb dX7_composeAll_26 rfl hl (by decide) rfl (fun ls hl => ?_)
    refine lv_iconst (v := 0) hx hb dX7_composeAll_27 (by decide) ?_
    refine lv_istore_n (lv' := [(2, .int 0), (1, .int 0), (0, .ref (ad 0))]) hx hb dX7_composeAll_28 rfl hl (by decide) rfl (fun ls hl => ?_)
    have L1 : ∀ (w1 : Nat) (V1 : VT) (x1_1 : Int32) (x2_1 : Int32), f_X7_composeAll fu V = f_X7_composeAll_l1 fu  w1 V1 x1_1 x2_1 → p_X7_composeAll_l1 fu  w1 V1 x1_1 x2_1 → ∀ (H : Heap) (locs : List Loc), wP D cI cB ad V1 H → va_S A s.heap H locs → ∀ (ls : Array Slot), lv_has ls 3 [(0, .ref (ad 0)), (1, .int x1_1), (2, .int x2_1)] → W p l e (headSpec wsX7_composeAll ({ frames := 46, cells := 0, slots := 0, locals := 1097 })).room s m ([.ref (ad 0)] : List Value).toArray below meth c H locs 0 0 (MQ below (cWi D cI cB ad A (f_X7_composeAll fu V)) ([.ref (ad 0)] : List Value).toArray s 0 0 A) (F0 m 29 ls []) := by
      intro w1
      induction w1 with
      | zero => intro V1 x1_1 x2_1 hE hp; exact hp.elim
      | succ w1 ih1 =>
        intro V1 x1_1 x2_1 hE hp H locs hP hS ls hl
        rw [f_X7_composeAll_l1] at hE
        rw [p_X7_composeAll_l1] at hp
        refine lv_iload_n hx hb dX7_composeAll_29 rfl (lv_at hl 2 rfl) ?_
        refine lv_aload_n hx hb dX7_composeAll_30 rfl (lv_at hl 0 rfl) ?_
        refine x_get (ci := 5) (fs := [.ref (ad 6), .ref (ad 13), .ref (ad 4), .ref (ad 2), .ref (ad 1), .int ((V1 0) 0)]) (q := 0) (v := .ref (ad 6)) (N := 6) hx hb hts (fun _ h => List.mem_cons_of_mem _ (List.mem_append_left _ (List.mem_append_left _ (List.mem_append_left _ (List.mem_append_left _ (List.mem_append_right _ h)))))) hown hK hP (by decide) (ce_tb ad cI cB (V1 0)) rfl 0 (by decide) (hts (.fieldLink RX7 10 "TurnedBoards" "now" "LTurnedBoards$Board;") (List.mem_of_getElem? (i := 1) rfl)) rfl rfl dX7_composeAll_31 ?_
        refine x_getN (ci := 0) (fs := [.ref (ad (6 + 7 * 0 + 1)), .ref (ad (6 + 7 * 0 + 3)), .ref (ad (6 + 7 * 0 + 4)), .ref (ad (6 + 7 * 0 + 5)), .ref (ad (6 + 7 * 0 + 6)), .int ((V1 (6 + 7 * 0)) 5), .int ((V1 (6 + 7 * 0)) 6), .int ((V1 (6 + 7 * 0)) 0), .int ((V1 (6 + 7 * 0)) 1), .int ((V1 (6 + 7 * 0)) 2), .int ((V1 (6 + 7 * 0)) 3), .int ((V1 (6 + 7 * 0)) 4)]) (q := (6 + 7 * 0)) (v := .int (V1 (6 + 7 * 0) 0)) (N := 12) hx hb hts (fun _ h => List.mem_cons_of_mem _ (List.mem_append_left _ (List.mem_append_left _ (List.mem_append_left _ (List.mem_append_right _ h))))) hown hK hP (by decide) (ce_bd ad cI cB (by decide : 0 < 6) (V1 (6 + 7 * 0))) rfl 7 (by decide) (hKN.2.1 (.fieldLinkNest RX7 88 "TurnedBoards$Board" "places" "I" "TurnedBoards") (List.mem_of_getElem? (i := 4) rfl)) rfl rfl dX7_composeAll_34 ?_
        refine lv_icmp_ge (tgt := 72) hx hb dX7_composeAll_37 (by decide) (fun c2 => ?_) (fun c2 => ?_)
        · have hE := hE.trans (if_pos c2)
          refine lv_iload_n hx hb dX7_composeAll_72 rfl (lv_at hl 1 rfl) ?_
          exact W.iret (v := x1_1) hx hb hr (fun t ht hW => ⟨⟨x1_1, V1, rfl, ⟨(congrArg Prod.fst hE).symm, (congrArg Prod.snd hE).symm⟩, by dsimp only; rw [ht]; exact hP⟩, hS.F ht⟩) hS.2.2 dX7_composeAll_73
        · have hE := hE.trans (if_neg c2)
          have hp := pc_bn hp c2
          refine lv_aload_n hx hb dX7_composeAll_40 rfl (lv_at hl 0 rfl) ?_
          refine lv_iload_n hx hb dX7_composeAll_41 rfl (lv_at hl 2 rfl) ?_
          obtain ⟨hn2, hp⟩ := hp
          refine k_VWi (As := [.int x2_1]) (rest := []) (q := 0) ⟨hx, hb, hml, hown, hts⟩ hKN hP hS (m_X7_findFor l D cI cB ad hA fu V1 x2_1 hn2) (cwV 1 hts gX7_composeAll_X7_findFor rfl rfl rfl (by decide +kernel) ⟨(Nat.le_of_ble_eq_true rfl), (Nat.le_of_ble_eq_true rfl)⟩) (c_preV hP hKN (q := 0) (ci := 5) (fs := [.ref (ad 6), .ref (ad 13), .ref (ad 4), .ref (ad 2), .ref (ad 1), .int ((V1 0) 0)]) (by decide) (ce_tb ad cI cB (V1 0)) rfl rfl) rfl hl.1 rfl (Nat.le_of_ble_eq_true rfl) dX7_composeAll_42 ⟨Nat.zero_le _, Nat.zero_le _⟩ (fun H locs hP hS => ?_)
          refine lv_if_eq (tgt := 66) hx hb dX7_composeAll_45 (by decide) (fun c3 => ?_) (fun c3 => ?_)
          · have hE := hE.trans (if_pos c3)
            have hp := pc_br hp c3
            refine lv_iinc (v := (x2_1 + 1)) (lv' := [(2, .int (x2_1 + 1)), (0, .ref (ad 0)), (1, .int x1_1)]) hx hb dX7_composeAll_66 hl (k := 2) rfl (by rfl) (by decide) rfl (fun ls hl => ?_)
            refine lv_goto (tgt := 29) hx hb dX7_composeAll_69 (by decide) ?_
            exact ih1 ((f_X7_findFor fu V1 x2_1).2) x1_1 (x2_1 + 1) hE hp H locs hP hS ls (lv_sub hl [1, 2, 0] rfl)
          · have hE := hE.trans (if_neg c3)
            have hp := pc_bn hp c3
            refine lv_aload_n hx hb dX7_composeAll_48 rfl (lv_at hl 0 rfl) ?_
            refine x_get (ci := 5) (fs := [.ref (ad 6), .ref (ad 13), .ref (ad 4), .ref (ad 2), .ref (ad 1), .int ((((f_X7_findFor fu V1 x2_1).2) 0) 0)]) (q := 0) (v := .ref (ad 6)) (N := 6) hx hb hts (fun _ h => List.mem_cons_of_mem _ (List.mem_append_left _ (List.mem_append_left _ (List.mem_append_left _ (List.mem_append_left _ (List.mem_append_right _ h)))))) hown hK hP (by decide) (ce_tb ad cI cB (((f_X7_findFor fu V1 x2_1).2) 0)) rfl 0 (by decide) (hts (.fieldLink RX7 10 "TurnedBoards" "now" "LTurnedBoards$Board;") (List.mem_of_getElem? (i := 1) rfl)) rfl rfl dX7_composeAll_49 ?_
            refine lv_iload_n hx hb dX7_composeAll_52 rfl (lv_at hl 2 rfl) ?_
            refine lv_aload_n hx hb dX7_composeAll_53 rfl (lv_at hl 0 rfl) ?_
            refine x_get (ci := 5) (fs := [.ref (ad 6), .ref (ad 13), .ref (ad 4), .ref (ad 2), .ref (ad 1), .int ((((f_X7_findFor fu V1 x2_1).2) 0) 0)]) (q := 0) (v := .ref (ad 1)) (N := 6) hx hb hts (fun _ h => List.mem_cons_of_mem _ (List.mem_append_left _ (List.mem_append_left _ (List.mem_append_left _ (List.mem_append_left _ (List.mem_append_right _ h)))))) hown hK hP (by decide) (ce_tb ad cI cB (((f_X7_findFor fu V1 x2_1).2) 0)) rfl 4 (by decide) (hts (.fieldLink RX7 36 "TurnedBoards" "composer" "LTurnedBoards$Composer;") (List.mem_of_getElem? (i := 3) rfl)) rfl rfl dX7_composeAll_54 ?_
            refine x_getN (ci := 1) (fs := [(if (((f_X7_findFor fu V1 x2_1).2) 1) 0 = 0 then Value.null else Value.ref (ad 7)), .int ((((f_X7_findFor fu V1 x2_1).2) 1) 1), .int ((((f_X7_findFor fu V1 x2_1).2) 1) 2), .int ((((f_X7_findFor fu V1 x2_1).2) 1) 3), .int ((((f_X7_findFor fu V1 x2_1).2) 1) 4), .int ((((f_X7_findFor fu V1 x2_1).2) 1) 5), .int ((((f_X7_findFor fu V1 x2_1).2) 1) 6)]) (q := 1) (v := .int (((f_X7_findFor fu V1 x2_1).2) 1 5)) (N := 7) hx hb hts (fun _ h => List.mem_cons_of_mem _ (List.mem_append_left _ (List.mem_append_left _ (List.mem_append_right _ h)))) hown hK hP (by decide) (ce_cm ad cI cB (((f_X7_findFor fu V1 x2_1).2) 1)) rfl 5 (by decide) (hKN.2.1 (.fieldLinkNest RX7 84 "TurnedBoards$Composer" "best" "I" "TurnedBoards") (List.mem_of_getElem? (i := 14) rfl)) rfl rfl dX7_composeAll_57 ?_
            refine k_VWv (As := [.int x2_1, .int (((f_X7_findFor fu V1 x2_1).2) 1 5)]) (rest := []) (q := (6 + 7 * 0)) ⟨hx, hb, hml, hown, hts⟩ hKN hP hS (m_X0_hang l D cI cB ad hA ((f_X7_findFor fu V1 x2_1).2) 0 x2_1 (((f_X7_findFor fu V1 x2_1).2) 1 5) (by decide : 0 < 6)) (cwV 2 hts gX7_composeAll_X0_hang rfl rfl rfl (by decide +kernel) ⟨(Nat.le_of_ble_eq_true rfl), (Nat.le_of_ble_eq_true rfl)⟩) (c_preV hP hKN (q := (6 + 7 * 0)) (ci := 0) (fs := [.ref (ad (6 + 7 * 0 + 1)), .ref (ad (6 + 7 * 0 + 3)), .ref (ad (6 + 7 * 0 + 4)), .ref (ad (6 + 7 * 0 + 5)), .ref (ad (6 + 7 * 0 + 6)), .int ((((f_X7_findFor fu V1 x2_1).2) (6 + 7 * 0)) 5), .int ((((f_X7_findFor fu V1 x2_1).2) (6 + 7 * 0)) 6), .int ((((f_X7_findFor fu V1 x2_1).2) (6 + 7 * 0)) 0), .int ((((f_X7_findFor fu V1 x2_1).2) (6 + 7 * 0)) 1), .int ((((f_X7_findFor fu V1 x2_1).2) (6 + 7 * 0)) 2), .int ((((f_X7_findFor fu V1 x2_1).2) (6 + 7 * 0)) 3), .int ((((f_X7_findFor fu V1 x2_1).2) (6 + 7 * 0)) 4)]) (by decide) (ce_bd ad cI cB (by decide : 0 < 6) (((f_X7_findFor fu V1 x2_1).2) (6 + 7 * 0))) rfl rfl) rfl hl.1 rfl (Nat.le_of_ble_eq_true rfl) dX7_composeAll_60 ⟨Nat.zero_le _, Nat.zero_le _⟩ (fun H locs hP hS => ?_)
            refine lv_iinc (v := (x1_1 + 1)) (lv' := [(1, .int (x1_1 + 1)), (0, .ref (ad 0)), (2, .int x2_1)]) hx hb dX7_composeAll_63 hl (k := 1) rfl (by rfl) (by decide) rfl (fun ls hl => ?_)
            refine lv_iinc (v := (x2_1 + 1)) (lv' := [(2, .int (x2_1 + 1)), (1, .int (x1_1 + 1)), (0, .ref (ad 0))]) hx hb dX7_composeAll_66 hl (k := 2) rfl (by rfl) (by decide) rfl (fun ls hl => ?_)
            refine lv_goto (tgt := 29) hx hb dX7_composeAll_69 (by decide) ?_
            exact ih1 (f_X0_hang ((f_X7_findFor fu V1 x2_1).2) 0 x2_1 (((f_X7_findFor fu V1 x2_1).2) 1 5)) (x1_1 + 1) (x2_1 + 1) hE hp H locs hP hS ls (lv_sub hl [2, 1, 0] rfl)
    exact L1 fu (f_X2_push fu V 0) 0 0 hE hp _ _ hP hS _ (lv_sub hl [2, 1, 0] rfl)
  · have hE := hE.trans (if_pos c1)
    refine lv_sipush (v := (-1002)) hx hb dX7_composeAll_10 (by decide) ?_
    exact W.iret (v := (-1002)) hx hb hr (fun t ht hW => ⟨⟨(-1002), V, rfl, ⟨(congrArg Prod.fst hE).symm, (congrArg Prod.snd hE).symm⟩, by dsimp only; rw [ht]; exact hP⟩, hS.F ht⟩) hS.2.2 dX7_composeAll_13
def f_X7_composed (fu : Nat) (V : VT) (p1 : Int32) (p2 : Int32) (p3 : Int32) : Int32 × VT := (if (f_X7_isLetter V p1) = 0 then ((-1001), V) else (if (f_X7_isLetter V p2) = 0 then ((-1001), V) else (if p3 < 0 then ((-1001), V) else (if p3 ≤ 2 then (if (f_X3_has V 0 p1) = 0 then ((-1002), V) else (if (f_X3_has V 0 p2) = 0 then ((-1002), V) else (if p3 = 2 then ((f_J6_bitCount_0f7a4 V ((f_X3_signFor V 0 p1) ^^^ (f_X6_turn V (f_X3_signFor V 0 p2)))), V) else (if ((f_X1_find fu V p1 p2).1) = 0 then ((-1004), (f_X1_find fu V p1 p2).2) else (if p3 = 0 then ((((f_X1_find fu V p1 p2).2) 1 5), (f_X1_find fu V p1 p2).2) else ((((f_X1_find fu V p1 p2).2) 1 6), (f_X1_find fu V p1 p2).2)))))) else ((-1001), V)))))
def p_X7_composed (fu : Nat) (V : VT) (p1 : Int32) (p2 : Int32) (p3 : Int32) : Prop := (((f_X7_isLetter V p1) = 0 → True) ∧ (¬ ((f_X7_isLetter V p1) = 0) → (((f_X7_isLetter V p2) = 0 → True) ∧ (¬ ((f_X7_isLetter V p2) = 0) → ((p3 < 0 → True) ∧ (¬ (p3 < 0) → ((p3 ≤ 2 → (((f_X3_has V 0 p1) = 0 → True) ∧ (¬ ((f_X3_has V 0 p1) = 0) → (((f_X3_has V 0 p2) = 0 → True) ∧ (¬ ((f_X3_has V 0 p2) = 0) → ((p3 = 2 → True) ∧ (¬ (p3 = 2) → (p_X1_find fu V p1 p2)))))))) ∧ (¬ (p3 ≤ 2) → True))))))))
set_option maxHeartbeats 4000000 in
set_option maxRecDepth 100000 in
theorem m_X7_composed (l : Launch) (D : va_G) (cI cB : ClassId) (ad : Nat → Nat) {A : Nat → Prop} (hA : adOk ad A) (fu : Nat) (V : VT) (p1 : Int32) (p2 : Int32) (p3 : Int32)  (hp : p_X7_composed fu V p1 p2 p3) : Met l yX7_composed wsX7_composed ({ frames := 45, cells := 0, slots := 0, locals := 1076 }) (cP D cI cB ad V [.ref (ad 0), .int p1, .int p2, .int p3]) (cWi D cI cB ad A (f_X7_composed fu V p1 p2 p3)) 0 0 A := by
  refine Met.ofW (cc := cX7_composed) (maxL := 4) (ret := (some .int)) (by decide +kernel) rfl ?_
  intro p e s m args below meth c s₁ B hml hv
  obtain ⟨rfl, hP, hKN⟩ := hv
  have hK := hKN.1
  have hx := B.exec
  have hb := B.bytes
  have hr := B.returns
  have hts := atoms_spec (ws := wsX7_composed) B.pre
  have hown : s.vm.findClass RX7 = some m.cls := findClass_of_methodNamed B.named
  have hlocks := B.notSynchronized
  have hS : va_S A s.heap s.heap [] := va_S.rf
  have hl := lv_entry ([.ref (ad 0), .int p1, .int p2, .int p3]) (n := 4) (Nat.le_of_ble_eq_true rfl)
  rw [lg_entry_eq]
  generalize (lg_sl ([.ref (ad 0), .int p1, .int p2, .int p3]) ++ List.replicate (4 - (lg_sl ([.ref (ad 0), .int p1, .int p2, .int p3])).length) Slot.unset).toArray = ls at hl ⊢
  have hl : lv_has ls 4 [(0, .ref (ad 0)), (1, .int p1), (2, .int p2), (3, .int p3)] := hl
  have hE : f_X7_composed fu V p1 p2 p3 = (if (f_X7_isLetter V p1) = 0 then ((-1001), V) else (if (f_X7_isLetter V p2) = 0 then ((-1001), V) else (if p3 < 0 then ((-1001), V) else (if p3 ≤ 2 then (if (f_X3_has V 0 p1) = 0 then ((-1002), V) else (if (f_X3_has V 0 p2) = 0 then ((-1002), V) else (if p3 = 2 then ((f_J6_bitCount_0f7a4 V ((f_X3_signFor V 0 p1) ^^^ (f_X6_turn V (f_X3_signFor V 0 p2)))), V) else (if ((f_X1_find fu V p1 p2).1) = 0 then ((-1004), (f_X1_find fu V p1 p2).2) else (if p3 = 0 then ((((f_X1_find fu V p1 p2).2) 1 5), (f_X1_find fu V p1 p2).2) else ((((f_X1_find fu V p1 p2).2) 1 6), (f_X1_find fu V p1 p2).2)))))) else ((-1001), V))))) := rfl
  refine lv_iload_n hx hb dX7_composed_0 rfl (lv_at hl 1 rfl) ?_
  refine k_SR (As := [.int p1]) (rest := []) ⟨hx, hb, hml, hown, hts⟩ hKN hP hS (m_X7_isLetter l D cI cB ad V p1) (va_cwS 1 hts gX7_composed_X7_isLetter rfl rfl rfl (by decide +kernel) ⟨(Nat.le_of_ble_eq_true rfl), (Nat.le_of_ble_eq_true rfl)⟩) rfl hl.1 rfl (Nat.le_of_ble_eq_true rfl) dX7_composed_1 ⟨Nat.zero_le _, Nat.zero_le _⟩ (fun H locs hP hS => ?_)
  refine lv_if_eq (tgt := 23) hx hb dX7_composed_4 (by decide) (fun c1 => ?_) (fun c1 => ?_)
  · have hE := hE.trans (if_pos c1)
    refine lv_sipush (v := (-1001)) hx hb dX7_composed_23 (by decide) ?_
    exact W.iret (v := (-1001)) hx hb hr (fun t ht hW => ⟨⟨(-1001), V, rfl, ⟨(congrArg Prod.fst hE).symm, (congrArg Prod.snd hE).symm⟩, by dsimp only; rw [ht]; exact hP⟩, hS.F ht⟩) hS.2.2 dX7_composed_26
  · have hE := hE.trans (if_neg c1)
    have hp := pc_bn hp c1
    refine lv_iload_n hx hb dX7_composed_7 rfl (lv_at hl 2 rfl) ?_
    refine k_SR (As := [.int p2]) (rest := []) ⟨hx, hb, hml, hown, hts⟩ hKN hP hS (m_X7_isLetter l D cI cB ad V p2) (va_cwS 1 hts gX7_composed_X7_isLetter rfl rfl rfl (by decide +kernel) ⟨(Nat.le_of_ble_eq_true rfl), (Nat.le_of_ble_eq_true rfl)⟩) rfl hl.1 rfl (Nat.le_of_ble_eq_true rfl) dX7_composed_8 ⟨Nat.zero_le _, Nat.zero_le _⟩ (fun H locs hP hS => ?_)
    refine lv_if_eq (tgt := 23) hx hb dX7_composed_11 (by decide) (fun c2 => ?_) (fun c2 => ?_)
    · have hE := hE.trans (if_pos c2)
      refine lv_sipush (v := (-1001)) hx hb dX7_composed_23 (by decide) ?_
      exact W.iret (v := (-1001)) hx hb hr (fun t ht hW => ⟨⟨(-1001), V, rfl, ⟨(congrArg Prod.fst hE).symm, (congrArg Prod.snd hE).symm⟩, by dsimp only; rw [ht]; exact hP⟩, hS.F ht⟩) hS.2.2 dX7_composed_26
    · have hE := hE.trans (if_neg c2)
      have hp := pc_bn hp c2
      refine lv_iload_n hx hb dX7_composed_14 rfl (lv_at hl 3 rfl) ?_
      refine lv_if_lt (tgt := 23) hx hb dX7_composed_15 (by decide) (fun c3 => ?_) (fun c3 => ?_)
      · have hE := hE.trans (if_pos c3)
        refine lv_sipush (v := (-1001)) hx hb dX7_composed_23 (by decide) ?_
        exact W.iret (v := (-1001)) hx hb hr (fun t ht hW => ⟨⟨(-1001), V, rfl, ⟨(congrArg Prod.fst hE).symm, (congrArg Prod.snd hE).symm⟩, by dsimp only; rw [ht]; exact hP⟩, hS.F ht⟩) hS.2.2 dX7_composed_26
      · have hE := hE.trans (if_neg c3)
        have hp := pc_bn hp c3
        refine lv_iload_n hx hb dX7_composed_18 rfl (lv_at hl 3 rfl) ?_
        refine lv_iconst (v := 2) hx hb dX7_composed_19 (by decide) ?_
        refine lv_icmp_le (tgt := 27) hx hb dX7_composed_20 (by decide) (fun c4 => ?_) (fun c4 => ?_)
        · have hE := hE.trans (if_pos c4)
          have hp := pc_br hp c4
          refine lv_aload_n hx hb dX7_composed_27 rfl (lv_at hl 0 rfl) ?_
          refine x_get (ci := 5) (fs := [.ref (ad 6), .ref (ad 13), .ref (ad 4), .ref (ad 2), .ref (ad 1), .int ((V 0) 0)]) (q := 0) (v := .ref (ad 6)) (N := 6) hx hb hts (fun _ h => List.mem_cons_of_mem _ (List.mem_append_left _ (List.mem_append_left _ (List.mem_append_left _ (List.mem_append_right _ h))))) hown hK hP (by decide) (ce_tb ad cI cB (V 0)) rfl 0 (by decide) (hts (.fieldLink RX7 10 "TurnedBoards" "now" "LTurnedBoards$Board;") (List.mem_of_getElem? (i := 1) rfl)) rfl rfl dX7_composed_28 ?_
          refine x_getN (ci := 0) (fs := [.ref (ad (6 + 7 * 0 + 1)), .ref (ad (6 + 7 * 0 + 3)), .ref (ad (6 + 7 * 0 + 4)), .ref (ad (6 + 7 * 0 + 5)), .ref (ad (6 + 7 * 0 + 6)), .int ((V (6 + 7 * 0)) 5), .int ((V (6 + 7 * 0)) 6), .int ((V (6 + 7 * 0)) 0), .int ((V (6 + 7 * 0)) 1), .int ((V (6 + 7 * 0)) 2), .int ((V (6 + 7 * 0)) 3), .int ((V (6 + 7 * 0)) 4)]) (q := (6 + 7 * 0)) (v := .ref (ad (6 + 7 * 0 + 1))) (N := 12) hx hb hts (fun _ h => List.mem_cons_of_mem _ (List.mem_append_left _ (List.mem_append_left _ (List.mem_append_right _ h)))) hown hK hP (by decide) (ce_bd ad cI cB (by decide : 0 < 6) (V (6 + 7 * 0))) rfl 0 (by decide) (hKN.2.1 (.fieldLinkNest RX7 51 "TurnedBoards$Board" "letters" "LTurnedBoards$Letters;" "TurnedBoards") (List.mem_of_getElem? (i := 1) rfl)) rfl rfl dX7_composed_31 ?_
          refine lv_iload_n hx hb dX7_composed_34 rfl (lv_at hl 1 rfl) ?_
          refine k_VR (As := [.int p1]) (rest := []) (q := (6 + 7 * 0 + 1)) ⟨hx, hb, hml, hown, hts⟩ hKN hP hS (m_X3_has l D cI cB ad V 0 p1 (by decide : 0 < 6)) (cwV 1 hts gX7_composed_X3_has rfl rfl rfl (by decide +kernel) ⟨(Nat.le_of_ble_eq_true rfl), (Nat.le_of_ble_eq_true rfl)⟩) (c_preV hP hKN (q := (6 + 7 * 0 + 1)) (ci := 3) (fs := [.ref (ad (6 + 7 * 0 + 2))]) (by decide) (ce_lt ad cI cB (by decide : 0 < 6) (V (6 + 7 * 0 + 1))) rfl rfl) rfl hl.1 rfl (Nat.le_of_ble_eq_true rfl) dX7_composed_35 ⟨Nat.zero_le _, Nat.zero_le _⟩ (fun H locs hP hS => ?_)
          refine lv_if_eq (tgt := 55) hx hb dX7_composed_38 (by decide) (fun c5 => ?_) (fun c5 => ?_)
          · have hE := hE.trans (if_pos c5)
            refine lv_sipush (v := (-1002)) hx hb dX7_composed_55 (by decide) ?_
            exact W.iret (v := (-1002)) hx hb hr (fun t ht hW => ⟨⟨(-1002), V, rfl, ⟨(congrArg Prod.fst hE).symm, (congrArg Prod.snd hE).symm⟩, by dsimp only; rw [ht]; exact hP⟩, hS.F ht⟩) hS.2.2 dX7_composed_58
          · have hE := hE.trans (if_neg c5)
            have hp := pc_bn hp c5
            refine lv_aload_n hx hb dX7_composed_41 rfl (lv_at hl 0 rfl) ?_
            refine x_get (ci := 5) (fs := [.ref (ad 6), .ref (ad 13), .ref (ad 4), .ref (ad 2), .ref (ad 1), .int ((V 0) 0)]) (q := 0) (v := .ref (ad 6)) (N := 6) hx hb hts (fun _ h => List.mem_cons_of_mem _ (List.mem_append_left _ (List.mem_append_left _ (List.mem_append_left _ (List.mem_append_right _ h))))) hown hK hP (by decide) (ce_tb ad cI cB (V 0)) rfl 0 (by decide) (hts (.fieldLink RX7 10 "TurnedBoards" "now" "LTurnedBoards$Board;") (List.mem_of_getElem? (i := 1) rfl)) rfl rfl dX7_composed_42 ?_
            refine x_getN (ci := 0) (fs := [.ref (ad (6 + 7 * 0 + 1)), .ref (ad (6 + 7 * 0 + 3)), .ref (ad (6 + 7 * 0 + 4)), .ref (ad (6 + 7 * 0 + 5)), .ref (ad (6 + 7 * 0 + 6)), .int ((V (6 + 7 * 0)) 5), .int ((V (6 + 7 * 0)) 6), .int ((V (6 + 7 * 0)) 0), .int ((V (6 + 7 * 0)) 1), .int ((V (6 + 7 * 0)) 2), .int ((V (6 + 7 * 0)) 3), .int ((V (6 + 7 * 0)) 4)]) (q := (6 + 7 * 0)) (v := .ref (ad (6 + 7 * 0 + 1))) (N := 12) hx hb hts (fun _ h => List.mem_cons_of_mem _ (List.mem_append_left _ (List.mem_append_left _ (List.mem_append_right _ h)))) hown hK hP (by decide) (ce_bd ad cI cB (by decide : 0 < 6) (V (6 + 7 * 0))) rfl 0 (by decide) (hKN.2.1 (.fieldLinkNest RX7 51 "TurnedBoards$Board" "letters" "LTurnedBoards$Letters;" "TurnedBoards") (List.mem_of_getElem? (i := 1) rfl)) rfl rfl dX7_composed_45 ?_
            refine lv_iload_n hx hb dX7_composed_48 rfl (lv_at hl 2 rfl) ?_
            refine k_VR (As := [.int p2]) (rest := []) (q := (6 + 7 * 0 + 1)) ⟨hx, hb, hml, hown, hts⟩ hKN hP hS (m_X3_has l D cI cB ad V 0 p2 (by decide : 0 < 6)) (cwV 1 hts gX7_composed_X3_has rfl rfl rfl (by decide +kernel) ⟨(Nat.le_of_ble_eq_true rfl), (Nat.le_of_ble_eq_true rfl)⟩) (c_preV hP hKN (q := (6 + 7 * 0 + 1)) (ci := 3) (fs := [.ref (ad (6 + 7 * 0 + 2))]) (by decide) (ce_lt ad cI cB (by decide : 0 < 6) (V (6 + 7 * 0 + 1))) rfl rfl) rfl hl.1 rfl (Nat.le_of_ble_eq_true rfl) dX7_composed_49 ⟨Nat.zero_le _, Nat.zero_le _⟩ (fun H locs hP hS => ?_)
            refine lv_if_ne (tgt := 59) hx hb dX7_composed_52 (by decide) (fun c6 => ?_) (fun c6 => ?_)
            · have hE := hE.trans (if_neg c6)
              have hp := pc_bn hp c6
              refine lv_iload_n hx hb dX7_composed_59 rfl (lv_at hl 3 rfl) ?_
              refine lv_iconst (v := 2) hx hb dX7_composed_60 (by decide) ?_
              refine lv_icmp_ne (tgt := 94) hx hb dX7_composed_61 (by decide) (fun c7 => ?_) (fun c7 => ?_)
              · have hE := hE.trans (if_neg c7)
                have hp := pc_bn hp c7
                refine lv_aload_n hx hb dX7_composed_94 rfl (lv_at hl 0 rfl) ?_
                refine x_get (ci := 5) (fs := [.ref (ad 6), .ref (ad 13), .ref (ad 4), .ref (ad 2), .ref (ad 1), .int ((V 0) 0)]) (q := 0) (v := .ref (ad 1)) (N := 6) hx hb hts (fun _ h => List.mem_cons_of_mem _ (List.mem_append_left _ (List.mem_append_left _ (List.mem_append_left _ (List.mem_append_right _ h))))) hown hK hP (by decide) (ce_tb ad cI cB (V 0)) rfl 4 (by decide) (hts (.fieldLink RX7 36 "TurnedBoards" "composer" "LTurnedBoards$Composer;") (List.mem_of_getElem? (i := 2) rfl)) rfl rfl dX7_composed_95 ?_
                refine lv_aload_n hx hb dX7_composed_98 rfl (lv_at hl 0 rfl) ?_
                refine x_get (ci := 5) (fs := [.ref (ad 6), .ref (ad 13), .ref (ad 4), .ref (ad 2), .ref (ad 1), .int ((V 0) 0)]) (q := 0) (v := .ref (ad 6)) (N := 6) hx hb hts (fun _ h => List.mem_cons_of_mem _ (List.mem_append_left _ (List.mem_append_left _ (List.mem_append_left _ (List.mem_append_right _ h))))) hown hK hP (by decide) (ce_tb ad cI cB (V 0)) rfl 0 (by decide) (hts (.fieldLink RX7 10 "TurnedBoards" "now" "LTurnedBoards$Board;") (List.mem_of_getElem? (i := 1) rfl)) rfl rfl dX7_composed_99 ?_
                refine x_getN (ci := 0) (fs := [.ref (ad (6 + 7 * 0 + 1)), .ref (ad (6 + 7 * 0 + 3)), .ref (ad (6 + 7 * 0 + 4)), .ref (ad (6 + 7 * 0 + 5)), .ref (ad (6 + 7 * 0 + 6)), .int ((V (6 + 7 * 0)) 5), .int ((V (6 + 7 * 0)) 6), .int ((V (6 + 7 * 0)) 0), .int ((V (6 + 7 * 0)) 1), .int ((V (6 + 7 * 0)) 2), .int ((V (6 + 7 * 0)) 3), .int ((V (6 + 7 * 0)) 4)]) (q := (6 + 7 * 0)) (v := .ref (ad (6 + 7 * 0 + 1))) (N := 12) hx hb hts (fun _ h => List.mem_cons_of_mem _ (List.mem_append_left _ (List.mem_append_left _ (List.mem_append_right _ h)))) hown hK hP (by decide) (ce_bd ad cI cB (by decide : 0 < 6) (V (6 + 7 * 0))) rfl 0 (by decide) (hKN.2.1 (.fieldLinkNest RX7 51 "TurnedBoards$Board" "letters" "LTurnedBoards$Letters;" "TurnedBoards") (List.mem_of_getElem? (i := 1) rfl)) rfl rfl dX7_composed_102 ?_
                refine lv_iload_n hx hb dX7_composed_105 rfl (lv_at hl 1 rfl) ?_
                refine lv_iload_n hx hb dX7_composed_106 rfl (lv_at hl 2 rfl) ?_
                have hn1 := hp
                refine k_VWi (As := [.ref (ad (6 + 7 * 0 + 1)), .int p1, .int p2]) (rest := []) (q := 1) ⟨hx, hb, hml, hown, hts⟩ hKN hP hS (m_X1_find l D cI cB ad hA fu V p1 p2 hn1) (cwV 3 hts gX7_composed_X1_find rfl rfl rfl (by decide +kernel) ⟨(Nat.le_of_ble_eq_true rfl), (Nat.le_of_ble_eq_true rfl)⟩) (c_preV hP hKN (q := 1) (ci := 1) (fs := [(if (V 1) 0 = 0 then Value.null else Value.ref (ad 7)), .int ((V 1) 1), .int ((V 1) 2), .int ((V 1) 3), .int ((V 1) 4), .int ((V 1) 5), .int ((V 1) 6)]) (by decide) (ce_cm ad cI cB (V 1)) rfl rfl) rfl hl.1 rfl (Nat.le_of_ble_eq_true rfl) dX7_composed_107 ⟨Nat.zero_le _, Nat.zero_le _⟩ (fun H locs hP hS => ?_)
                refine lv_if_ne (tgt := 117) hx hb dX7_composed_110 (by decide) (fun c8 => ?_) (fun c8 => ?_)
                · have hE := hE.trans (if_neg c8)
                  refine lv_iload_n hx hb dX7_composed_117 rfl (lv_at hl 3 rfl) ?_
                  refine lv_if_ne (tgt := 131) hx hb dX7_composed_118 (by decide) (fun c9 => ?_) (fun c9 => ?_)
                  · have hE := hE.trans (if_neg c9)
                    refine lv_aload_n hx hb dX7_composed_131 rfl (lv_at hl 0 rfl) ?_
                    refine x_get (ci := 5) (fs := [.ref (ad 6), .ref (ad 13), .ref (ad 4), .ref (ad 2), .ref (ad 1), .int ((((f_X1_find fu V p1 p2).2) 0) 0)]) (q := 0) (v := .ref (ad 1)) (N := 6) hx hb hts (fun _ h => List.mem_cons_of_mem _ (List.mem_append_left _ (List.mem_append_left _ (List.mem_append_left _ (List.mem_append_right _ h))))) hown hK hP (by decide) (ce_tb ad cI cB (((f_X1_find fu V p1 p2).2) 0)) rfl 4 (by decide) (hts (.fieldLink RX7 36 "TurnedBoards" "composer" "LTurnedBoards$Composer;") (List.mem_of_getElem? (i := 2) rfl)) rfl rfl dX7_composed_132 ?_
                    refine x_getN (ci := 1) (fs := [(if (((f_X1_find fu V p1 p2).2) 1) 0 = 0 then Value.null else Value.ref (ad 7)), .int ((((f_X1_find fu V p1 p2).2) 1) 1), .int ((((f_X1_find fu V p1 p2).2) 1) 2), .int ((((f_X1_find fu V p1 p2).2) 1) 3), .int ((((f_X1_find fu V p1 p2).2) 1) 4), .int ((((f_X1_find fu V p1 p2).2) 1) 5), .int ((((f_X1_find fu V p1 p2).2) 1) 6)]) (q := 1) (v := .int (((f_X1_find fu V p1 p2).2) 1 6)) (N := 7) hx hb hts (fun _ h => List.mem_cons_of_mem _ (List.mem_append_left _ (List.mem_append_right _ h))) hown hK hP (by decide) (ce_cm ad cI cB (((f_X1_find fu V p1 p2).2) 1)) rfl 6 (by decide) (hKN.2.1 (.fieldLinkNest RX7 198 "TurnedBoards$Composer" "bestLesser" "I" "TurnedBoards") (List.mem_of_getElem? (i := 15) rfl)) rfl rfl dX7_composed_135 ?_
                    exact W.iret (v := (((f_X1_find fu V p1 p2).2) 1 6)) hx hb hr (fun t ht hW => ⟨⟨(((f_X1_find fu V p1 p2).2) 1 6), (f_X1_find fu V p1 p2).2, rfl, ⟨(congrArg Prod.fst hE).symm, (congrArg Prod.snd hE).symm⟩, by dsimp only; rw [ht]; exact hP⟩, hS.F ht⟩) hS.2.2 dX7_composed_138
                  · have hE := hE.trans (if_pos c9)
                    refine lv_aload_n hx hb dX7_composed_121 rfl (lv_at hl 0 rfl) ?_
                    refine x_get (ci := 5) (fs := [.ref (ad 6), .ref (ad 13), .ref (ad 4), .ref (ad 2), .ref (ad 1), .int ((((f_X1_find fu V p1 p2).2) 0) 0)]) (q := 0) (v := .ref (ad 1)) (N := 6) hx hb hts (fun _ h => List.mem_cons_of_mem _ (List.mem_append_left _ (List.mem_append_left _ (List.mem_append_left _ (List.mem_append_right _ h))))) hown hK hP (by decide) (ce_tb ad cI cB (((f_X1_find fu V p1 p2).2) 0)) rfl 4 (by decide) (hts (.fieldLink RX7 36 "TurnedBoards" "composer" "LTurnedBoards$Composer;") (List.mem_of_getElem? (i := 2) rfl)) rfl rfl dX7_composed_122 ?_
                    refine x_getN (ci := 1) (fs := [(if (((f_X1_find fu V p1 p2).2) 1) 0 = 0 then Value.null else Value.ref (ad 7)), .int ((((f_X1_find fu V p1 p2).2) 1) 1), .int ((((f_X1_find fu V p1 p2).2) 1) 2), .int ((((f_X1_find fu V p1 p2).2) 1) 3), .int ((((f_X1_find fu V p1 p2).2) 1) 4), .int ((((f_X1_find fu V p1 p2).2) 1) 5), .int ((((f_X1_find fu V p1 p2).2) 1) 6)]) (q := 1) (v := .int (((f_X1_find fu V p1 p2).2) 1 5)) (N := 7) hx hb hts (fun _ h => List.mem_cons_of_mem _ (List.mem_append_left _ (List.mem_append_right _ h))) hown hK hP (by decide) (ce_cm ad cI cB (((f_X1_find fu V p1 p2).2) 1)) rfl 5 (by decide) (hKN.2.1 (.fieldLinkNest RX7 84 "TurnedBoards$Composer" "best" "I" "TurnedBoards") (List.mem_of_getElem? (i := 14) rfl)) rfl rfl dX7_composed_125 ?_
                    refine lv_goto (tgt := 138) hx hb dX7_composed_128 (by decide) ?_
                    exact W.iret (v := (((f_X1_find fu V p1 p2).2) 1 5)) hx hb hr (fun t ht hW => ⟨⟨(((f_X1_find fu V p1 p2).2) 1 5), (f_X1_find fu V p1 p2).2, rfl, ⟨(congrArg Prod.fst hE).symm, (congrArg Prod.snd hE).symm⟩, by dsimp only; rw [ht]; exact hP⟩, hS.F ht⟩) hS.2.2 dX7_composed_138
                · have hE := hE.trans (if_pos c8)
                  refine lv_sipush (v := (-1004)) hx hb dX7_composed_113 (by decide) ?_
                  exact W.iret (v := (-1004)) hx hb hr (fun t ht hW => ⟨⟨(-1004), (f_X1_find fu V p1 p2).2, rfl, ⟨(congrArg Prod.fst hE).symm, (congrArg Prod.snd hE).symm⟩, by dsimp only; rw [ht]; exact hP⟩, hS.F ht⟩) hS.2.2 dX7_composed_116
              · have hE := hE.trans (if_pos c7)
                refine lv_aload_n hx hb dX7_composed_64 rfl (lv_at hl 0 rfl) ?_
                refine x_get (ci := 5) (fs := [.ref (ad 6), .ref (ad 13), .ref (ad 4), .ref (ad 2), .ref (ad 1), .int ((V 0) 0)]) (q := 0) (v := .ref (ad 6)) (N := 6) hx hb hts (fun _ h => List.mem_cons_of_mem _ (List.mem_append_left _ (List.mem_append_left _ (List.mem_append_left _ (List.mem_append_right _ h))))) hown hK hP (by decide) (ce_tb ad cI cB (V 0)) rfl 0 (by decide) (hts (.fieldLink RX7 10 "TurnedBoards" "now" "LTurnedBoards$Board;") (List.mem_of_getElem? (i := 1) rfl)) rfl rfl dX7_composed_65 ?_
                refine x_getN (ci := 0) (fs := [.ref (ad (6 + 7 * 0 + 1)), .ref (ad (6 + 7 * 0 + 3)), .ref (ad (6 + 7 * 0 + 4)), .ref (ad (6 + 7 * 0 + 5)), .ref (ad (6 + 7 * 0 + 6)), .int ((V (6 + 7 * 0)) 5), .int ((V (6 + 7 * 0)) 6), .int ((V (6 + 7 * 0)) 0), .int ((V (6 + 7 * 0)) 1), .int ((V (6 + 7 * 0)) 2), .int ((V (6 + 7 * 0)) 3), .int ((V (6 + 7 * 0)) 4)]) (q := (6 + 7 * 0)) (v := .ref (ad (6 + 7 * 0 + 1))) (N := 12) hx hb hts (fun _ h => List.mem_cons_of_mem _ (List.mem_append_left _ (List.mem_append_left _ (List.mem_append_right _ h)))) hown hK hP (by decide) (ce_bd ad cI cB (by decide : 0 < 6) (V (6 + 7 * 0))) rfl 0 (by decide) (hKN.2.1 (.fieldLinkNest RX7 51 "TurnedBoards$Board" "letters" "LTurnedBoards$Letters;" "TurnedBoards") (List.mem_of_getElem? (i := 1) rfl)) rfl rfl dX7_composed_68 ?_
                refine lv_iload_n hx hb dX7_composed_71 rfl (lv_at hl 1 rfl) ?_
                refine k_VR (As := [.int p1]) (rest := []) (q := (6 + 7 * 0 + 1)) ⟨hx, hb, hml, hown, hts⟩ hKN hP hS (m_X3_signFor l D cI cB ad V 0 p1 (by decide : 0 < 6)) (cwV 1 hts gX7_composed_X3_signFor rfl rfl rfl (by decide +kernel) ⟨(Nat.le_of_ble_eq_true rfl), (Nat.le_of_ble_eq_true rfl)⟩) (c_preV hP hKN (q := (6 + 7 * 0 + 1)) (ci := 3) (fs := [.ref (ad (6 + 7 * 0 + 2))]) (by decide) (ce_lt ad cI cB (by decide : 0 < 6) (V (6 + 7 * 0 + 1))) rfl rfl) rfl hl.1 rfl (Nat.le_of_ble_eq_true rfl) dX7_composed_72 ⟨Nat.zero_le _, Nat.zero_le _⟩ (fun H locs hP hS => ?_)
                refine lv_aload_n hx hb dX7_composed_75 rfl (lv_at hl 0 rfl) ?_
                refine x_get (ci := 5) (fs := [.ref (ad 6), .ref (ad 13), .ref (ad 4), .ref (ad 2), .ref (ad 1), .int ((V 0) 0)]) (q := 0) (v := .ref (ad 6)) (N := 6) hx hb hts (fun _ h => List.mem_cons_of_mem _ (List.mem_append_left _ (List.mem_append_left _ (List.mem_append_left _ (List.mem_append_right _ h))))) hown hK hP (by decide) (ce_tb ad cI cB (V 0)) rfl 0 (by decide) (hts (.fieldLink RX7 10 "TurnedBoards" "now" "LTurnedBoards$Board;") (List.mem_of_getElem? (i := 1) rfl)) rfl rfl dX7_composed_76 ?_
                refine x_getN (ci := 0) (fs := [.ref (ad (6 + 7 * 0 + 1)), .ref (ad (6 + 7 * 0 + 3)), .ref (ad (6 + 7 * 0 + 4)), .ref (ad (6 + 7 * 0 + 5)), .ref (ad (6 + 7 * 0 + 6)), .int ((V (6 + 7 * 0)) 5), .int ((V (6 + 7 * 0)) 6), .int ((V (6 + 7 * 0)) 0), .int ((V (6 + 7 * 0)) 1), .int ((V (6 + 7 * 0)) 2), .int ((V (6 + 7 * 0)) 3), .int ((V (6 + 7 * 0)) 4)]) (q := (6 + 7 * 0)) (v := .ref (ad (6 + 7 * 0 + 1))) (N := 12) hx hb hts (fun _ h => List.mem_cons_of_mem _ (List.mem_append_left _ (List.mem_append_left _ (List.mem_append_right _ h)))) hown hK hP (by decide) (ce_bd ad cI cB (by decide : 0 < 6) (V (6 + 7 * 0))) rfl 0 (by decide) (hKN.2.1 (.fieldLinkNest RX7 51 "TurnedBoards$Board" "letters" "LTurnedBoards$Letters;" "TurnedBoards") (List.mem_of_getElem? (i := 1) rfl)) rfl rfl dX7_composed_79 ?_
                refine lv_iload_n hx hb dX7_composed_82 rfl (lv_at hl 2 rfl) ?_
                refine k_VR (As := [.int p2]) (rest := [.int (f_X3_signFor V 0 p1)]) (q := (6 + 7 * 0 + 1)) ⟨hx, hb, hml, hown, hts⟩ hKN hP hS (m_X3_signFor l D cI cB ad V 0 p2 (by decide : 0 < 6)) (cwV 1 hts gX7_composed_X3_signFor rfl rfl rfl (by decide +kernel) ⟨(Nat.le_of_ble_eq_true rfl), (Nat.le_of_ble_eq_true rfl)⟩) (c_preV hP hKN (q := (6 + 7 * 0 + 1)) (ci := 3) (fs := [.ref (ad (6 + 7 * 0 + 2))]) (by decide) (ce_lt ad cI cB (by decide : 0 < 6) (V (6 + 7 * 0 + 1))) rfl rfl) rfl hl.1 rfl (Nat.le_of_ble_eq_true rfl) dX7_composed_83 ⟨Nat.zero_le _, Nat.zero_le _⟩ (fun H locs hP hS => ?_)
                refine k_SR (As := [.int (f_X3_signFor V 0 p2)]) (rest := [.int (f_X3_signFor V 0 p1)]) ⟨hx, hb, hml, hown, hts⟩ hKN hP hS (m_X6_turn l D cI cB ad V (f_X3_signFor V 0 p2)) (va_cwS 1 hts gX7_composed_X6_turn rfl rfl rfl (by decide +kernel) ⟨(Nat.le_of_ble_eq_true rfl), (Nat.le_of_ble_eq_true rfl)⟩) rfl hl.1 rfl (Nat.le_of_ble_eq_true rfl) dX7_composed_86 ⟨Nat.zero_le _, Nat.zero_le _⟩ (fun H locs hP hS => ?_)
                refine lv_ixor hx hb dX7_composed_89 ?_
                refine k_SR (As := [.int ((f_X3_signFor V 0 p1) ^^^ (f_X6_turn V (f_X3_signFor V 0 p2)))]) (rest := []) ⟨hx, hb, hml, hown, hts⟩ hKN hP hS (m_J6_bitCount_0f7a4 l D cI cB ad V ((f_X3_signFor V 0 p1) ^^^ (f_X6_turn V (f_X3_signFor V 0 p2)))) (va_cwS 1 hts gX7_composed_J6_bitCount_0f7a4 rfl rfl rfl (by decide +kernel) ⟨(Nat.le_of_ble_eq_true rfl), (Nat.le_of_ble_eq_true rfl)⟩) rfl hl.1 rfl (Nat.le_of_ble_eq_true rfl) dX7_composed_90 ⟨Nat.zero_le _, Nat.zero_le _⟩ (fun H locs hP hS => ?_)
                exact W.iret (v := (f_J6_bitCount_0f7a4 V ((f_X3_signFor V 0 p1) ^^^ (f_X6_turn V (f_X3_signFor V 0 p2))))) hx hb hr (fun t ht hW => ⟨⟨(f_J6_bitCount_0f7a4 V ((f_X3_signFor V 0 p1) ^^^ (f_X6_turn V (f_X3_signFor V 0 p2)))), V, rfl, ⟨(congrArg Prod.fst hE).symm, (congrArg Prod.snd hE).symm⟩, by dsimp only; rw [ht]; exact hP⟩, hS.F ht⟩) hS.2.2 dX7_composed_93
            · have hE := hE.trans (if_pos c6)
              refine lv_sipush (v := (-1002)) hx hb dX7_composed_55 (by decide) ?_
              exact W.iret (v := (-1002)) hx hb hr (fun t ht hW => ⟨⟨(-1002), V, rfl, ⟨(congrArg Prod.fst hE).symm, (congrArg Prod.snd hE).symm⟩, by dsimp only; rw [ht]; exact hP⟩, hS.F ht⟩) hS.2.2 dX7_composed_58
        · have hE := hE.trans (if_neg c4)
          refine lv_sipush (v := (-1001)) hx hb dX7_composed_23 (by decide) ?_
          exact W.iret (v := (-1001)) hx hb hr (fun t ht hW => ⟨⟨(-1001), V, rfl, ⟨(congrArg Prod.fst hE).symm, (congrArg Prod.snd hE).symm⟩, by dsimp only; rw [ht]; exact hP⟩, hS.F ht⟩) hS.2.2 dX7_composed_26
def f_X7_goesWith_l1 (fu : Nat) (p1 : Int32) : Nat → VT → Int32 → Int32 → Int32 → Int32 × VT
  | 0, V1, x2_1, x3_1, x4_1 => (0, V1)
  | w1 + 1, V1, x2_1, x3_1, x4_1 => (if 10 ≤ x4_1 then ((f_X7_foundOrNot V1 x2_1), V1) else (if ((f_X1_find fu V1 p1 x4_1).1) = 0 then (f_X7_goesWith_l1 fu p1 w1 ((f_X1_find fu V1 p1 x4_1).2) x2_1 x3_1 (x4_1 + 1)) else (if (((f_X1_find fu V1 p1 x4_1).2) 1 6) ≤ x3_1 then (f_X7_goesWith_l1 fu p1 w1 ((f_X1_find fu V1 p1 x4_1).2) x2_1 x3_1 (x4_1 + 1)) else (f_X7_goesWith_l1 fu p1 w1 ((f_X1_find fu V1 p1 x4_1).2) x4_1 (((f_X1_find fu V1 p1 x4_1).2) 1 6) (x4_1 + 1)))))
def p_X7_goesWith_l1 (fu : Nat) (p1 : Int32) : Nat → VT → Int32 → Int32 → Int32 → Prop
  | 0, _, _, _, _ => False
  | w1 + 1, V1, x2_1, x3_1, x4_1 => ((10 ≤ x4_1 → True) ∧ (¬ (10 ≤ x4_1) → ((p_X1_find fu V1 p1 x4_1) ∧ ((((f_X1_find fu V1 p1 x4_1).1) = 0 → (p_X7_goesWith_l1 fu p1 w1 ((f_X1_find fu V1 p1 x4_1).2) x2_1 x3_1 (x4_1 + 1))) ∧ (¬ (((f_X1_find fu V1 p1 x4_1).1) = 0) → (((((f_X1_find fu V1 p1 x4_1).2) 1 6) ≤ x3_1 → (p_X7_goesWith_l1 fu p1 w1 ((f_X1_find fu V1 p1 x4_1).2) x2_1 x3_1 (x4_1 + 1))) ∧ (¬ ((((f_X1_find fu V1 p1 x4_1).2) 1 6) ≤ x3_1) → (p_X7_goesWith_l1 fu p1 w1 ((f_X1_find fu V1 p1 x4_1).2) x4_1 (((f_X1_find fu V1 p1 x4_1).2) 1 6) (x4_1 + 1)))))))))
def f_X7_goesWith (fu : Nat) (V : VT) (p1 : Int32) : Int32 × VT := (if (f_X7_isLetter V p1) = 0 then ((-1001), V) else (if (f_X3_has V 0 p1) = 0 then ((-1002), V) else (f_X7_goesWith_l1 fu p1 fu V (-1) (-1) 0)))
def p_X7_goesWith (fu : Nat) (V : VT) (p1 : Int32) : Prop := (((f_X7_isLetter V p1) = 0 → True) ∧ (¬ ((f_X7_isLetter V p1) = 0) → (((f_X3_has V 0 p1) = 0 → True) ∧ (¬ ((f_X3_has V 0 p1) = 0) → (p_X7_goesWith_l1 fu p1 fu V (-1) (-1) 0)))))
set_option maxHeartbeats 4000000 in
set_option maxRecDepth 100000 in
theorem m_X7_goesWith (l : Launch) (D : va_G) (cI cB : ClassId) (ad : Nat → Nat) {A : Nat → Prop} (hA : adOk ad A) (fu : Nat) (V : VT) (p1 : Int32)  (hp : p_X7_goesWith fu V p1) : Met l yX7_goesWith wsX7_goesWith ({ frames := 45, cells := 0, slots := 0, locals := 1076 }) (cP D cI cB ad V [.ref (ad 0), .int p1]) (cWi D cI cB ad A (f_X7_goesWith fu V p1)) 0 0 A := by
  refine Met.ofW (cc := cX7_goesWith) (maxL := 5) (ret := (some .int)) (by decide +kernel) rfl ?_
  intro p e s m args below meth c s₁ B hml hv
  obtain ⟨rfl, hP, hKN⟩ := hv
  have hK := hKN.1
  have hx := B.exec
  have hb := B.bytes
  have hr := B.returns
  have hts := atoms_spec (ws := wsX7_goesWith) B.pre
  have hown : s.vm.findClass RX7 = some m.cls := findClass_of_methodNamed B.named
  have hlocks := B.notSynchronized
  have hS : va_S A s.heap s.heap [] := va_S.rf
  have hl := lv_entry ([.ref (ad 0), .int p1]) (n := 5) (Nat.le_of_ble_eq_true rfl)
  rw [lg_entry_eq]
  generalize (lg_sl ([.ref (ad 0), .int p1]) ++ List.replicate (5 - (lg_sl ([.ref (ad 0), .int p1])).length) Slot.unset).toArray = ls at hl ⊢
  have hl : lv_has ls 5 [(0, .ref (ad 0)), (1, .int p1)] := hl
  have hE : f_X7_goesWith fu V p1 = (if (f_X7_isLetter V p1) = 0 then ((-1001), V) else (if (f_X3_has V 0 p1) = 0 then ((-1002), V) else (f_X7_goesWith_l1 fu p1 fu V (-1) (-1) 0))) := rfl
  refine lv_iload_n hx hb dX7_goesWith_0 rfl (lv_at hl 1 rfl) ?_
  refine k_SR (As := [.int p1]) (rest := []) ⟨hx, hb, hml, hown, hts⟩ hKN hP hS (m_X7_isLetter l D cI cB ad V p1) (va_cwS 1 hts gX7_goesWith_X7_isLetter rfl rfl rfl (by decide +kernel) ⟨(Nat.le_of_ble_eq_true rfl), (Nat.le_of_ble_eq_true rfl)⟩) rfl hl.1 rfl (Nat.le_of_ble_eq_true rfl) dX7_goesWith_1 ⟨Nat.zero_le _, Nat.zero_le _⟩ (fun H locs hP hS => ?_)
  refine lv_if_ne (tgt := 11) hx hb dX7_goesWith_4 (by decide) (fun c1 => ?_) (fun c1 => ?_)
  · have hE := hE.trans (if_neg c1)
    have hp := pc_bn hp c1
    refine lv_aload_n hx hb dX7_goesWith_11 rfl (lv_at hl 0 rfl) ?_
    refine x_get (ci := 5) (fs := [.ref (ad 6), .ref (ad 13), .ref (ad 4), .ref (ad 2), .ref (ad 1), .int ((V 0) 0)]) (q := 0) (v := .ref (ad 6)) (N := 6) hx hb hts (fun _ h => List.mem_cons_of_mem _ (List.mem_append_left _ (List.mem_append_left _ (List.mem_append_left _ (List.mem_append_right _ h))))) hown hK hP (by decide) (ce_tb ad cI cB (V 0)) rfl 0 (by decide) (hts (.fieldLink RX7 10 "TurnedBoards" "now" "LTurnedBoards$Board;") (List.mem_of_getElem? (i := 1) rfl)) rfl rfl dX7_goesWith_12 ?_
    refine x_getN (ci := 0) (fs := [.ref (ad (6 + 7 * 0 + 1)), .ref (ad (6 + 7 * 0 + 3)), .ref (ad (6 + 7 * 0 + 4)), .ref (ad (6 + 7 * 0 + 5)), .ref (ad (6 + 7 * 0 + 6)), .int ((V (6 + 7 * 0)) 5), .int ((V (6 + 7 * 0)) 6), .int ((V (6 + 7 * 0)) 0), .int ((V (6 + 7 * 0)) 1), .int ((V (6 + 7 * 0)) 2), .int ((V (6 + 7 * 0)) 3), .int ((V (6 + 7 * 0)) 4)]) (q := (6 + 7 * 0)) (v := .ref (ad (6 + 7 * 0 + 1))) (N := 12) hx hb hts (fun _ h => List.mem_cons_of_mem _ (List.mem_append_left _ (List.mem_append_left _ (List.mem_append_right _ h)))) hown hK hP (by decide) (ce_bd ad cI cB (by decide : 0 < 6) (V (6 + 7 * 0))) rfl 0 (by decide) (hKN.2.1 (.fieldLinkNest RX7 51 "TurnedBoards$Board" "letters" "LTurnedBoards$Letters;" "TurnedBoards") (List.mem_of_getElem? (i := 1) rfl)) rfl rfl dX7_goesWith_15 ?_
    refine lv_iload_n hx hb dX7_goesWith_18 rfl (lv_at hl 1 rfl) ?_
    refine k_VR (As := [.int p1]) (rest := []) (q := (6 + 7 * 0 + 1)) ⟨hx, hb, hml, hown, hts⟩ hKN hP hS (m_X3_has l D cI cB ad V 0 p1 (by decide : 0 < 6)) (cwV 1 hts gX7_goesWith_X3_has rfl rfl rfl (by decide +kernel) ⟨(Nat.le_of_ble_eq_true rfl), (Nat.le_of_ble_eq_true rfl)⟩) (c_preV hP hKN (q := (6 + 7 * 0 + 1)) (ci := 3) (fs := [.ref (ad (6 + 7 * 0 + 2))]) (by decide) (ce_lt ad cI cB (by decide : 0 < 6) (V (6 + 7 * 0 + 1))) rfl rfl) rfl hl.1 rfl (Nat.le_of_ble_eq_true rfl) dX7_goesWith_19 ⟨Nat.zero_le _, Nat.zero_le _⟩ (fun H locs hP hS => ?_)
    refine lv_if_ne (tgt := 29) hx hb dX7_goesWith_22 (by decide) (fun c2 => ?_) (fun c2 => ?_)
    · have hE := hE.trans (if_neg c2)
      have hp := pc_bn hp c2
      refine lv_iconst (v := (-1)) hx hb dX7_goesWith_29 (by decide) ?_
      refine lv_istore_n (lv' := [(2, .int (-1)), (0, .ref (ad 0)), (1, .int p1)]) hx hb dX7_goesWith_30 rfl hl (by decide) rfl (fun ls hl => ?_)
      refine lv_iconst (v := (-1)) hx hb dX7_goesWith_31 (by decide) ?_
      refine lv_istore_n (lv' := [(3, .int (-1)), (2, .int (-1)), (0, .ref (ad 0)), (1, .int p1)]) hx hb dX7_goesWith_32 rfl hl (by decide) rfl (fun ls hl => ?_)
      refine lv_iconst (v := 0) hx hb dX7_goesWith_33 (by decide) ?_
      refine lv_istore (lv' := [(4, .int 0), (3, .int (-1)), (2, .int (-1)), (0, .ref (ad 0)), (1, .int p1)]) hx hb dX7_goesWith_34 hl (by decide) rfl (fun ls hl => ?_)
      have L1 : ∀ (w1 : Nat) (V1 : VT) (x2_1 : Int32) (x3_1 : Int32) (x4_1 : Int32), f_X7_goesWith fu V p1 = f_X7_goesWith_l1 fu p1 w1 V1 x2_1 x3_1 x4_1 → p_X7_goesWith_l1 fu p1 w1 V1 x2_1 x3_1 x4_1 → ∀ (H : Heap) (locs : List Loc), wP D cI cB ad V1 H → va_S A s.heap H locs → ∀ (ls : Array Slot), lv_has ls 5 [(0, .ref (ad 0)), (1, .int p1), (2, .int x2_1), (3, .int x3_1), (4, .int x4_1)] → W p l e (headSpec wsX7_goesWith ({ frames := 45, cells := 0, slots := 0, locals := 1076 })).room s m ([.ref (ad 0), .int p1] : List Value).toArray below meth c H locs 0 0 (MQ below (cWi D cI cB ad A (f_X7_goesWith fu V p1)) ([.ref (ad 0), .int p1] : List Value).toArray s 0 0 A) (F0 m 36 ls []) := by
        intro w1
        induction w1 with
        | zero => intro V1 x2_1 x3_1 x4_1 hE hp; exact hp.elim
        | succ w1 ih1 =>
          intro V1 x2_1 x3_1 x4_1 hE hp H locs hP hS ls hl
          rw [f_X7_goesWith_l1] at hE
          rw [p_X7_goesWith_l1] at hp
          refine lv_iload hx hb dX7_goesWith_36 (lv_at hl 4 rfl) ?_
          refine lv_bipush (v := 10) hx hb dX7_goesWith_38 (by decide) ?_
          refine lv_icmp_ge (tgt := 91) hx hb dX7_goesWith_40 (by decide) (fun c3 => ?_) (fun c3 => ?_)
          · have hE := hE.trans (if_pos c3)
            refine lv_iload_n hx hb dX7_goesWith_91 rfl (lv_at hl 2 rfl) ?_
            refine k_SR (As := [.int x2_1]) (rest := []) ⟨hx, hb, hml, hown, hts⟩ hKN hP hS (m_X7_foundOrNot l D cI cB ad V1 x2_1) (va_cwS 1 hts gX7_goesWith_X7_foundOrNot rfl rfl rfl (by decide +kernel) ⟨(Nat.le_of_ble_eq_true rfl), (Nat.le_of_ble_eq_true rfl)⟩) rfl hl.1 rfl (Nat.le_of_ble_eq_true rfl) dX7_goesWith_92 ⟨Nat.zero_le _, Nat.zero_le _⟩ (fun H locs hP hS => ?_)
            exact W.iret (v := (f_X7_foundOrNot V1 x2_1)) hx hb hr (fun t ht hW => ⟨⟨(f_X7_foundOrNot V1 x2_1), V1, rfl, ⟨(congrArg Prod.fst hE).symm, (congrArg Prod.snd hE).symm⟩, by dsimp only; rw [ht]; exact hP⟩, hS.F ht⟩) hS.2.2 dX7_goesWith_95
          · have hE := hE.trans (if_neg c3)
            have hp := pc_bn hp c3
            refine lv_aload_n hx hb dX7_goesWith_43 rfl (lv_at hl 0 rfl) ?_
            refine x_get (ci := 5) (fs := [.ref (ad 6), .ref (ad 13), .ref (ad 4), .ref (ad 2), .ref (ad 1), .int ((V1 0) 0)]) (q := 0) (v := .ref (ad 1)) (N := 6) hx hb hts (fun _ h => List.mem_cons_of_mem _ (List.mem_append_left _ (List.mem_append_left _ (List.mem_append_left _ (List.mem_append_right _ h))))) hown hK hP (by decide) (ce_tb ad cI cB (V1 0)) rfl 4 (by decide) (hts (.fieldLink RX7 36 "TurnedBoards" "composer" "LTurnedBoards$Composer;") (List.mem_of_getElem? (i := 2) rfl)) rfl rfl dX7_goesWith_44 ?_
            refine lv_aload_n hx hb dX7_goesWith_47 rfl (lv_at hl 0 rfl) ?_
            refine x_get (ci := 5) (fs := [.ref (ad 6), .ref (ad 13), .ref (ad 4), .ref (ad 2), .ref (ad 1), .int ((V1 0) 0)]) (q := 0) (v := .ref (ad 6)) (N := 6) hx hb hts (fun _ h => List.mem_cons_of_mem _ (List.mem_append_left _ (List.mem_append_left _ (List.mem_append_left _ (List.mem_append_right _ h))))) hown hK hP (by decide) (ce_tb ad cI cB (V1 0)) rfl 0 (by decide) (hts (.fieldLink RX7 10 "TurnedBoards" "now" "LTurnedBoards$Board;") (List.mem_of_getElem? (i := 1) rfl)) rfl rfl dX7_goesWith_48 ?_
            refine x_getN (ci := 0) (fs := [.ref (ad (6 + 7 * 0 + 1)), .ref (ad (6 + 7 * 0 + 3)), .ref (ad (6 + 7 * 0 + 4)), .ref (ad (6 + 7 * 0 + 5)), .ref (ad (6 + 7 * 0 + 6)), .int ((V1 (6 + 7 * 0)) 5), .int ((V1 (6 + 7 * 0)) 6), .int ((V1 (6 + 7 * 0)) 0), .int ((V1 (6 + 7 * 0)) 1), .int ((V1 (6 + 7 * 0)) 2), .int ((V1 (6 + 7 * 0)) 3), .int ((V1 (6 + 7 * 0)) 4)]) (q := (6 + 7 * 0)) (v := .ref (ad (6 + 7 * 0 + 1))) (N := 12) hx hb hts (fun _ h => List.mem_cons_of_mem _ (List.mem_append_left _ (List.mem_append_left _ (List.mem_append_right _ h)))) hown hK hP (by decide) (ce_bd ad cI cB (by decide : 0 < 6) (V1 (6 + 7 * 0))) rfl 0 (by decide) (hKN.2.1 (.fieldLinkNest RX7 51 "TurnedBoards$Board" "letters" "LTurnedBoards$Letters;" "TurnedBoards") (List.mem_of_getElem? (i := 1) rfl)) rfl rfl dX7_goesWith_51 ?_
            refine lv_iload_n hx hb dX7_goesWith_54 rfl (lv_at hl 1 rfl) ?_
            refine lv_iload hx hb dX7_goesWith_55 (lv_at hl 4 rfl) ?_
            obtain ⟨hn1, hp⟩ := hp
            refine k_VWi (As := [.ref (ad (6 + 7 * 0 + 1)), .int p1, .int x4_1]) (rest := []) (q := 1) ⟨hx, hb, hml, hown, hts⟩ hKN hP hS (m_X1_find l D cI cB ad hA fu V1 p1 x4_1 hn1) (cwV 3 hts gX7_goesWith_X1_find rfl rfl rfl (by decide +kernel) ⟨(Nat.le_of_ble_eq_true rfl), (Nat.le_of_ble_eq_true rfl)⟩) (c_preV hP hKN (q := 1) (ci := 1) (fs := [(if (V1 1) 0 = 0 then Value.null else Value.ref (ad 7)), .int ((V1 1) 1), .int ((V1 1) 2), .int ((V1 1) 3), .int ((V1 1) 4), .int ((V1 1) 5), .int ((V1 1) 6)]) (by decide) (ce_cm ad cI cB (V1 1)) rfl rfl) rfl hl.1 rfl (Nat.le_of_ble_eq_true rfl) dX7_goesWith_57 ⟨Nat.zero_le _, Nat.zero_le _⟩ (fun H locs hP hS => ?_)
            refine lv_if_eq (tgt := 85) hx hb dX7_goesWith_60 (by decide) (fun c4 => ?_) (fun c4 => ?_)
            · have hE := hE.trans (if_pos c4)
              have hp := pc_br hp c4
              refine lv_iinc (v := (x4_1 + 1)) (lv' := [(4, .int (x4_1 + 1)), (0, .ref (ad 0)), (1, .int p1), (2, .int x2_1), (3, .int x3_1)]) hx hb dX7_goesWith_85 hl (k := 4) rfl (by rfl) (by decide) rfl (fun ls hl => ?_)
              refine lv_goto (tgt := 36) hx hb dX7_goesWith_88 (by decide) ?_
              exact ih1 ((f_X1_find fu V1 p1 x4_1).2) x2_1 x3_1 (x4_1 + 1) hE hp H locs hP hS ls (lv_sub hl [1, 2, 3, 4, 0] rfl)
            · have hE := hE.trans (if_neg c4)
              have hp := pc_bn hp c4
              refine lv_aload_n hx hb dX7_goesWith_63 rfl (lv_at hl 0 rfl) ?_
              refine x_get (ci := 5) (fs := [.ref (ad 6), .ref (ad 13), .ref (ad 4), .ref (ad 2), .ref (ad 1), .int ((((f_X1_find fu V1 p1 x4_1).2) 0) 0)]) (q := 0) (v := .ref (ad 1)) (N := 6) hx hb hts (fun _ h => List.mem_cons_of_mem _ (List.mem_append_left _ (List.mem_append_left _ (List.mem_append_left _ (List.mem_append_right _ h))))) hown hK hP (by decide) (ce_tb ad cI cB (((f_X1_find fu V1 p1 x4_1).2) 0)) rfl 4 (by decide) (hts (.fieldLink RX7 36 "TurnedBoards" "composer" "LTurnedBoards$Composer;") (List.mem_of_getElem? (i := 2) rfl)) rfl rfl dX7_goesWith_64 ?_
              refine x_getN (ci := 1) (fs := [(if (((f_X1_find fu V1 p1 x4_1).2) 1) 0 = 0 then Value.null else Value.ref (ad 7)), .int ((((f_X1_find fu V1 p1 x4_1).2) 1) 1), .int ((((f_X1_find fu V1 p1 x4_1).2) 1) 2), .int ((((f_X1_find fu V1 p1 x4_1).2) 1) 3), .int ((((f_X1_find fu V1 p1 x4_1).2) 1) 4), .int ((((f_X1_find fu V1 p1 x4_1).2) 1) 5), .int ((((f_X1_find fu V1 p1 x4_1).2) 1) 6)]) (q := 1) (v := .int (((f_X1_find fu V1 p1 x4_1).2) 1 6)) (N := 7) hx hb hts (fun _ h => List.mem_cons_of_mem _ (List.mem_append_left _ (List.mem_append_right _ h))) hown hK hP (by decide) (ce_cm ad cI cB (((f_X1_find fu V1 p1 x4_1).2) 1)) rfl 6 (by decide) (hKN.2.1 (.fieldLinkNest RX7 198 "TurnedBoards$Composer" "bestLesser" "I" "TurnedBoards") (List.mem_of_getElem? (i := 15) rfl)) rfl rfl dX7_goesWith_67 ?_
              refine lv_iload_n hx hb dX7_goesWith_70 rfl (lv_at hl 3 rfl) ?_
              refine lv_icmp_le (tgt := 85) hx hb dX7_goesWith_71 (by decide) (fun c5 => ?_) (fun c5 => ?_)
              · have hE := hE.trans (if_pos c5)
                have hp := pc_br hp c5
                refine lv_iinc (v := (x4_1 + 1)) (lv' := [(4, .int (x4_1 + 1)), (0, .ref (ad 0)), (1, .int p1), (2, .int x2_1), (3, .int x3_1)]) hx hb dX7_goesWith_85 hl (k := 4) rfl (by rfl) (by decide) rfl (fun ls hl => ?_)
                refine lv_goto (tgt := 36) hx hb dX7_goesWith_88 (by decide) ?_
                exact ih1 ((f_X1_find fu V1 p1 x4_1).2) x2_1 x3_1 (x4_1 + 1) hE hp H locs hP hS ls (lv_sub hl [1, 2, 3, 4, 0] rfl)
              · have hE := hE.trans (if_neg c5)
                have hp := pc_bn hp c5
                refine lv_iload hx hb dX7_goesWith_74 (lv_at hl 4 rfl) ?_
                refine lv_istore_n (lv' := [(2, .int x4_1), (0, .ref (ad 0)), (1, .int p1), (3, .int x3_1), (4, .int x4_1)]) hx hb dX7_goesWith_76 rfl hl (by decide) rfl (fun ls hl => ?_)
                refine lv_aload_n hx hb dX7_goesWith_77 rfl (lv_at hl 1 rfl) ?_
                refine x_get (ci := 5) (fs := [.ref (ad 6), .ref (ad 13), .ref (ad 4), .ref (ad 2), .ref (ad 1), .int ((((f_X1_find fu V1 p1 x4_1).2) 0) 0)]) (q := 0) (v := .ref (ad 1)) (N := 6) hx hb hts (fun _ h => List.mem_cons_of_mem _ (List.mem_append_left _ (List.mem_append_left _ (List.mem_append_left _ (List.mem_append_right _ h))))) hown hK hP (by decide) (ce_tb ad cI cB (((f_X1_find fu V1 p1 x4_1).2) 0)) rfl 4 (by decide) (hts (.fieldLink RX7 36 "TurnedBoards" "composer" "LTurnedBoards$Composer;") (List.mem_of_getElem? (i := 2) rfl)) rfl rfl dX7_goesWith_78 ?_
                refine x_getN (ci := 1) (fs := [(if (((f_X1_find fu V1 p1 x4_1).2) 1) 0 = 0 then Value.null else Value.ref (ad 7)), .int ((((f_X1_find fu V1 p1 x4_1).2) 1) 1), .int ((((f_X1_find fu V1 p1 x4_1).2) 1) 2), .int ((((f_X1_find fu V1 p1 x4_1).2) 1) 3), .int ((((f_X1_find fu V1 p1 x4_1).2) 1) 4), .int ((((f_X1_find fu V1 p1 x4_1).2) 1) 5), .int ((((f_X1_find fu V1 p1 x4_1).2) 1) 6)]) (q := 1) (v := .int (((f_X1_find fu V1 p1 x4_1).2) 1 6)) (N := 7) hx hb hts (fun _ h => List.mem_cons_of_mem _ (List.mem_append_left _ (List.mem_append_right _ h))) hown hK hP (by decide) (ce_cm ad cI cB (((f_X1_find fu V1 p1 x4_1).2) 1)) rfl 6 (by decide) (hKN.2.1 (.fieldLinkNest RX7 198 "TurnedBoards$Composer" "bestLesser" "I" "TurnedBoards") (List.mem_of_getElem? (i := 15) rfl)) rfl rfl dX7_goesWith_81 ?_
                refine lv_istore_n (lv' := [(3, .int (((f_X1_find fu V1 p1 x4_1).2) 1 6)), (2, .int x4_1), (0, .ref (ad 0)), (1, .int p1), (4, .int x4_1)]) hx hb dX7_goesWith_84 rfl hl (by decide) rfl (fun ls hl => ?_)
                refine lv_iinc (v := (x4_1 + 1)) (lv' := [(4, .int (x4_1 + 1)), (3, .int (((f_X1_find fu V1 p1 x4_1).2) 1 6)), (2, .int x4_1), (0, .ref (ad 0)), (1, .int p1)]) hx hb dX7_goesWith_85 hl (k := 4) rfl (by rfl) (by decide) rfl (fun ls hl => ?_)
                refine lv_goto (tgt := 36) hx hb dX7_goesWith_88 (by decide) ?_
                exact ih1 ((f_X1_find fu V1 p1 x4_1).2) x4_1 (((f_X1_find fu V1 p1 x4_1).2) 1 6) (x4_1 + 1) hE hp H locs hP hS ls (lv_sub hl [3, 4, 2, 1, 0] rfl)
      exact L1 fu V (-1) (-1) 0 hE hp _ _ hP hS _ (lv_sub hl [3, 4, 2, 1, 0] rfl)
    · have hE := hE.trans (if_pos c2)
      refine lv_sipush (v := (-1002)) hx hb dX7_goesWith_25 (by decide) ?_
      exact W.iret (v := (-1002)) hx hb hr (fun t ht hW => ⟨⟨(-1002), V, rfl, ⟨(congrArg Prod.fst hE).symm, (congrArg Prod.snd hE).symm⟩, by dsimp only; rw [ht]; exact hP⟩, hS.F ht⟩) hS.2.2 dX7_goesWith_28
  · have hE := hE.trans (if_pos c1)
    refine lv_sipush (v := (-1001)) hx hb dX7_goesWith_7 (by decide) ?_
    exact W.iret (v := (-1001)) hx hb hr (fun t ht hW => ⟨⟨(-1001), V, rfl, ⟨(congrArg Prod.fst hE).symm, (congrArg Prod.snd hE).symm⟩, by dsimp only; rw [ht]; exact hP⟩, hS.F ht⟩) hS.2.2 dX7_goesWith_10
