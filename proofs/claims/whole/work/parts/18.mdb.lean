/-! contracts by program (wip/whole/gen): f_ what a method answers or makes of the table, p_ what it needs, m_ the contract -/
def f_X8_letter_l1 (fu : Nat) (p1 : Int32) (p2 : Int32) : Nat → VT → Int32 → Int32 × VT
  | 0, V1, x3_1 => (0, V1)
  | w1 + 1, V1, x3_1 => (if 10 ≤ x3_1 then ((f_X8_acted fu (upV V1 49 (7 + p1).toNatClampNeg p2) (f_X8_drawn V1 p1)).1, (f_X8_acted fu (upV V1 49 (7 + p1).toNatClampNeg p2) (f_X8_drawn V1 p1)).2) else (if x3_1 = p1 then (f_X8_letter_l1 fu p1 p2 w1 V1 (x3_1 + 1)) else (if (f_X8_drawn V1 x3_1) = p2 then ((-1002), V1) else (f_X8_letter_l1 fu p1 p2 w1 V1 (x3_1 + 1)))))
def p_X8_letter_l1 (fu : Nat) (p1 : Int32) (p2 : Int32) : Nat → VT → Int32 → Prop
  | 0, _, _ => False
  | w1 + 1, V1, x3_1 => ((10 ≤ x3_1 → ((p_X8_drawn V1 p1) ∧ ((vp_in (7 + p1) 49) ∧ (p_X8_acted fu (upV V1 49 (7 + p1).toNatClampNeg p2) (f_X8_drawn V1 p1))))) ∧ (¬ (10 ≤ x3_1) → ((x3_1 = p1 → (p_X8_letter_l1 fu p1 p2 w1 V1 (x3_1 + 1))) ∧ (¬ (x3_1 = p1) → ((p_X8_drawn V1 x3_1) ∧ (((f_X8_drawn V1 x3_1) = p2 → True) ∧ (¬ ((f_X8_drawn V1 x3_1) = p2) → (p_X8_letter_l1 fu p1 p2 w1 V1 (x3_1 + 1)))))))))
def f_X8_letter (fu : Nat) (V : VT) (p1 : Int32) (p2 : Int32) : Int32 × VT := (if (f_X8_in (f_X8_begins fu V) p1 0 9) = 0 then ((-1001), (f_X8_begins fu V)) else (if (f_X8_in (f_X8_begins fu V) p2 0 32767) = 0 then ((-1001), (f_X8_begins fu V)) else (f_X8_letter_l1 fu p1 p2 fu (f_X8_begins fu V) 0)))
def p_X8_letter (fu : Nat) (V : VT) (p1 : Int32) (p2 : Int32) : Prop := ((p_X8_begins fu V ) ∧ (((f_X8_in (f_X8_begins fu V) p1 0 9) = 0 → True) ∧ (¬ ((f_X8_in (f_X8_begins fu V) p1 0 9) = 0) → (((f_X8_in (f_X8_begins fu V) p2 0 32767) = 0 → True) ∧ (¬ ((f_X8_in (f_X8_begins fu V) p2 0 32767) = 0) → (p_X8_letter_l1 fu p1 p2 fu (f_X8_begins fu V) 0))))))
set_option maxHeartbeats 4000000 in
set_option maxRecDepth 100000 in
theorem m_X8_letter (l : Launch) (D : va_G) (cI cB : ClassId) (ad : Nat → Nat) {A : Nat → Prop} (hA : adOk ad A) (fu : Nat) (V : VT) (p1 : Int32) (p2 : Int32)  (hp : p_X8_letter fu V p1 p2) : Met l yX8_letter wsX8_letter ({ frames := 1, cells := 0, slots := 0, locals := 22 }) (cP D cI cB ad V [.ref (ad 48), .int p1, .int p2]) (cWi D cI cB ad A (f_X8_letter fu V p1 p2)) 0 0 A := by
  refine Met.ofW (cc := cX8_letter) (maxL := 4) (ret := (some .int)) (by decide +kernel) rfl ?_
  intro p e s m args below meth c s₁ B hml hv
  obtain ⟨rfl, hP, hKN⟩ := hv
  have hK := hKN.1
  have hx := B.exec
  have hb := B.bytes
  have hr := B.returns
  have hts := atoms_spec (ws := wsX8_letter) B.pre
  have hown : s.vm.findClass RX8 = some m.cls := findClass_of_methodNamed B.named
  have hlocks := B.notSynchronized
  have hS : va_S A s.heap s.heap [] := va_S.rf
  have hl := lv_entry ([.ref (ad 48), .int p1, .int p2]) (n := 4) (Nat.le_of_ble_eq_true rfl)
  rw [lg_entry_eq]
  generalize (lg_sl ([.ref (ad 48), .int p1, .int p2]) ++ List.replicate (4 - (lg_sl ([.ref (ad 48), .int p1, .int p2])).length) Slot.unset).toArray = ls at hl ⊢
  have hl : lv_has ls 4 [(0, .ref (ad 48)), (1, .int p1), (2, .int p2)] := hl
  have hE : f_X8_letter fu V p1 p2 = (if (f_X8_in (f_X8_begins fu V) p1 0 9) = 0 then ((-1001), (f_X8_begins fu V)) else (if (f_X8_in (f_X8_begins fu V) p2 0 32767) = 0 then ((-1001), (f_X8_begins fu V)) else (f_X8_letter_l1 fu p1 p2 fu (f_X8_begins fu V) 0))) := rfl
  refine lv_aload_n hx hb dX8_letter_0 rfl (lv_at hl 0 rfl) ?_
  obtain ⟨hn1, hp⟩ := hp
  refine k_VWv (As := []) (rest := []) (q := 48) ⟨hx, hb, hml, hown, hts⟩ hKN hP hS (m_X8_begins l D cI cB ad hA fu V hn1) (cwV 0 hts gX8_letter_X8_begins rfl rfl rfl (by decide +kernel) ⟨(Nat.le_of_ble_eq_true rfl), (Nat.le_of_ble_eq_true rfl)⟩) (c_preV hP hKN (q := 48) (ci := 6) (fs := [.ref (ad 49), .ref (ad 50), .ref (ad 51), .int ((V 48) 0), .ref (ad 52), .int ((V 48) 1), .ref (ad 53), .int ((V 48) 2), .int ((V 48) 3), .int ((V 48) 4), .int ((V 48) 5), .int ((V 48) 6), .int ((V 48) 7)]) (by decide) (ce_md ad cI cB (V 48)) rfl rfl) rfl hl.1 rfl (Nat.le_of_ble_eq_true rfl) dX8_letter_1 ⟨Nat.zero_le _, Nat.zero_le _⟩ (fun H locs hP hS => ?_)
  refine lv_iload_n hx hb dX8_letter_4 rfl (lv_at hl 1 rfl) ?_
  refine lv_iconst (v := 0) hx hb dX8_letter_5 (by decide) ?_
  refine lv_bipush (v := 9) hx hb dX8_letter_6 (by decide) ?_
  refine k_SR (As := [.int p1, .int 0, .int 9]) (rest := []) ⟨hx, hb, hml, hown, hts⟩ hKN hP hS (m_X8_in l D cI cB ad (f_X8_begins fu V) p1 0 9) (va_cwS 3 hts gX8_letter_X8_in rfl rfl rfl (by decide +kernel) ⟨(Nat.le_of_ble_eq_true rfl), (Nat.le_of_ble_eq_true rfl)⟩) rfl hl.1 rfl (Nat.le_of_ble_eq_true rfl) dX8_letter_8 ⟨Nat.zero_le _, Nat.zero_le _⟩ (fun H locs hP hS => ?_)
  refine lv_if_eq (tgt := 25) hx hb dX8_letter_11 (by decide) (fun c1 => ?_) (fun c1 => ?_)
  · have hE := hE.trans (if_pos c1)
    refine lv_sipush (v := (-1001)) hx hb dX8_letter_25 (by decide) ?_
    exact W.iret (v := (-1001)) hx hb hr (fun t ht hW => ⟨⟨(-1001), (f_X8_begins fu V), rfl, ⟨(congrArg Prod.fst hE).symm, (congrArg Prod.snd hE).symm⟩, by dsimp only; rw [ht]; exact hP⟩, hS.F ht⟩) hS.2.2 dX8_letter_28
  · have hE := hE.trans (if_neg c1)
    have hp := pc_bn hp c1
    refine lv_iload_n hx hb dX8_letter_14 rfl (lv_at hl 2 rfl) ?_
    refine lv_iconst (v := 0) hx hb dX8_letter_15 (by decide) ?_
    refine lv_sipush (v := 32767) hx hb dX8_letter_16 (by decide) ?_
    refine k_SR (As := [.int p2, .int 0, .int 32767]) (rest := []) ⟨hx, hb, hml, hown, hts⟩ hKN hP hS (m_X8_in l D cI cB ad (f_X8_begins fu V) p2 0 32767) (va_cwS 3 hts gX8_letter_X8_in rfl rfl rfl (by decide +kernel) ⟨(Nat.le_of_ble_eq_true rfl), (Nat.le_of_ble_eq_true rfl)⟩) rfl hl.1 rfl (Nat.le_of_ble_eq_true rfl) dX8_letter_19 ⟨Nat.zero_le _, Nat.zero_le _⟩ (fun H locs hP hS => ?_)
    refine lv_if_ne (tgt := 29) hx hb dX8_letter_22 (by decide) (fun c2 => ?_) (fun c2 => ?_)
    · have hE := hE.trans (if_neg c2)
      have hp := pc_bn hp c2
      refine lv_iconst (v := 0) hx hb dX8_letter_29 (by decide) ?_
      refine lv_istore_n (lv' := [(3, .int 0), (0, .ref (ad 48)), (1, .int p1), (2, .int p2)]) hx hb dX8_letter_30 rfl hl (by decide) rfl (fun ls hl => ?_)
      have L1 : ∀ (w1 : Nat) (V1 : VT) (x3_1 : Int32), f_X8_letter fu V p1 p2 = f_X8_letter_l1 fu p1 p2 w1 V1 x3_1 → p_X8_letter_l1 fu p1 p2 w1 V1 x3_1 → ∀ (H : Heap) (locs : List Loc), wP D cI cB ad V1 H → va_S A s.heap H locs → ∀ (ls : Array Slot), lv_has ls 4 [(0, .ref (ad 48)), (1, .int p1), (2, .int p2), (3, .int x3_1)] → W p l e (headSpec wsX8_letter ({ frames := 1, cells := 0, slots := 0, locals := 22 })).room s m ([.ref (ad 48), .int p1, .int p2] : List Value).toArray below meth c H locs 0 0 (MQ below (cWi D cI cB ad A (f_X8_letter fu V p1 p2)) ([.ref (ad 48), .int p1, .int p2] : List Value).toArray s 0 0 A) (F0 m 31 ls []) := by
        intro w1
        induction w1 with
        | zero => intro V1 x3_1 hE hp; exact hp.elim
        | succ w1 ih1 =>
          intro V1 x3_1 hE hp H locs hP hS ls hl
          rw [f_X8_letter_l1] at hE
          rw [p_X8_letter_l1] at hp
          refine lv_iload_n hx hb dX8_letter_31 rfl (lv_at hl 3 rfl) ?_
          refine lv_bipush (v := 10) hx hb dX8_letter_32 (by decide) ?_
          refine lv_icmp_ge (tgt := 61) hx hb dX8_letter_34 (by decide) (fun c3 => ?_) (fun c3 => ?_)
          · have hE := hE.trans (if_pos c3)
            have hp := pc_br hp c3
            refine lv_aload_n hx hb dX8_letter_61 rfl (lv_at hl 0 rfl) ?_
            refine lv_iload_n hx hb dX8_letter_62 rfl (lv_at hl 1 rfl) ?_
            obtain ⟨hn2, hp⟩ := hp
            refine k_VR (As := [.int p1]) (rest := []) (q := 48) ⟨hx, hb, hml, hown, hts⟩ hKN hP hS (m_X8_drawn l D cI cB ad V1 p1 hn2) (cwV 1 hts gX8_letter_X8_drawn rfl rfl rfl (by decide +kernel) ⟨(Nat.le_of_ble_eq_true rfl), (Nat.le_of_ble_eq_true rfl)⟩) (c_preV hP hKN (q := 48) (ci := 6) (fs := [.ref (ad 49), .ref (ad 50), .ref (ad 51), .int ((V1 48) 0), .ref (ad 52), .int ((V1 48) 1), .ref (ad 53), .int ((V1 48) 2), .int ((V1 48) 3), .int ((V1 48) 4), .int ((V1 48) 5), .int ((V1 48) 6), .int ((V1 48) 7)]) (by decide) (ce_md ad cI cB (V1 48)) rfl rfl) rfl hl.1 rfl (Nat.le_of_ble_eq_true rfl) dX8_letter_63 ⟨Nat.zero_le _, Nat.zero_le _⟩ (fun H locs hP hS => ?_)
            refine lv_istore_n (lv' := [(3, .int (f_X8_drawn V1 p1)), (0, .ref (ad 48)), (1, .int p1), (2, .int p2)]) hx hb dX8_letter_66 rfl hl (by decide) rfl (fun ls hl => ?_)
            refine lv_aload_n hx hb dX8_letter_67 rfl (lv_at hl 1 rfl) ?_
            refine x_get (ci := 6) (fs := [.ref (ad 49), .ref (ad 50), .ref (ad 51), .int ((V1 48) 0), .ref (ad 52), .int ((V1 48) 1), .ref (ad 53), .int ((V1 48) 2), .int ((V1 48) 3), .int ((V1 48) 4), .int ((V1 48) 5), .int ((V1 48) 6), .int ((V1 48) 7)]) (q := 48) (v := .ref (ad 49)) (N := 13) hx hb hts (fun _ h => List.mem_cons_of_mem _ (List.mem_append_right _ h)) hown hK hP (by decide) (ce_md ad cI cB (V1 48)) rfl 0 (by decide) (hts (.fieldLink RX8 7 "TurnedBoardsModel" "s" "[I") (List.mem_of_getElem? (i := 1) rfl)) rfl rfl dX8_letter_68 ?_
            refine lv_bipush (v := 7) hx hb dX8_letter_71 (by decide) ?_
            refine lv_iload_n hx hb dX8_letter_73 rfl (lv_at hl 2 rfl) ?_
            refine lv_iadd hx hb dX8_letter_74 ?_
            refine lv_iload_n hx hb dX8_letter_75 rfl (lv_at hl 3 rfl) ?_
            obtain ⟨hn3, hp⟩ := hp
            refine x_iast hx hb hK hP hA hS ⟨by decide, fun _ => rfl, by decide⟩ hn3 dX8_letter_76 (fun H locs hP hS => ?_)
            refine lv_aload_n hx hb dX8_letter_77 rfl (lv_at hl 1 rfl) ?_
            refine lv_iload_n hx hb dX8_letter_78 rfl (lv_at hl 0 rfl) ?_
            have hn4 := hp
            refine k_VWi (As := [.int (f_X8_drawn V1 p1)]) (rest := []) (q := 48) ⟨hx, hb, hml, hown, hts⟩ hKN hP hS (m_X8_acted l D cI cB ad hA fu (upV V1 49 (7 + p1).toNatClampNeg p2) (f_X8_drawn V1 p1) hn4) (cwV 1 hts gX8_letter_X8_acted rfl rfl rfl (by decide +kernel) ⟨(Nat.le_of_ble_eq_true rfl), (Nat.le_of_ble_eq_true rfl)⟩) (c_preV hP hKN (q := 48) (ci := 6) (fs := [.ref (ad 49), .ref (ad 50), .ref (ad 51), .int (((upV V1 49 (7 + p1).toNatClampNeg p2) 48) 0), .ref (ad 52), .int (((upV V1 49 (7 + p1).toNatClampNeg p2) 48) 1), .ref (ad 53), .int (((upV V1 49 (7 + p1).toNatClampNeg p2) 48) 2), .int (((upV V1 49 (7 + p1).toNatClampNeg p2) 48) 3), .int (((upV V1 49 (7 + p1).toNatClampNeg p2) 48) 4), .int (((upV V1 49 (7 + p1).toNatClampNeg p2) 48) 5), .int (((upV V1 49 (7 + p1).toNatClampNeg p2) 48) 6), .int (((upV V1 49 (7 + p1).toNatClampNeg p2) 48) 7)]) (by decide) (ce_md ad cI cB ((upV V1 49 (7 + p1).toNatClampNeg p2) 48)) rfl rfl) rfl hl.1 rfl (Nat.le_of_ble_eq_true rfl) dX8_letter_79 ⟨Nat.zero_le _, Nat.zero_le _⟩ (fun H locs hP hS => ?_)
            exact W.iret (v := (f_X8_acted fu (upV V1 49 (7 + p1).toNatClampNeg p2) (f_X8_drawn V1 p1)).1) hx hb hr (fun t ht hW => ⟨⟨(f_X8_acted fu (upV V1 49 (7 + p1).toNatClampNeg p2) (f_X8_drawn V1 p1)).1, (f_X8_acted fu (upV V1 49 (7 + p1).toNatClampNeg p2) (f_X8_drawn V1 p1)).2, rfl, ⟨(congrArg Prod.fst hE).symm, (congrArg Prod.snd hE).symm⟩, by dsimp only; rw [ht]; exact hP⟩, hS.F ht⟩) hS.2.2 dX8_letter_82
          · have hE := hE.trans (if_neg c3)
            have hp := pc_bn hp c3
            refine lv_iload_n hx hb dX8_letter_37 rfl (lv_at hl 3 rfl) ?_
            refine lv_iload_n hx hb dX8_letter_38 rfl (lv_at hl 1 rfl) ?_
            refine lv_icmp_eq (tgt := 55) hx hb dX8_letter_39 (by decide) (fun c4 => ?_) (fun c4 => ?_)
            · have hE := hE.trans (if_pos c4)
              have hp := pc_br hp c4
              refine lv_iinc (v := (x3_1 + 1)) (lv' := [(3, .int (x3_1 + 1)), (0, .ref (ad 48)), (1, .int p1), (2, .int p2)]) hx hb dX8_letter_55 hl (k := 3) rfl (by rfl) (by decide) rfl (fun ls hl => ?_)
              refine lv_goto (tgt := 31) hx hb dX8_letter_58 (by decide) ?_
              exact ih1 V1 (x3_1 + 1) hE hp H locs hP hS ls (lv_sub hl [1, 2, 3, 0] rfl)
            · have hE := hE.trans (if_neg c4)
              have hp := pc_bn hp c4
              refine lv_aload_n hx hb dX8_letter_42 rfl (lv_at hl 0 rfl) ?_
              refine lv_iload_n hx hb dX8_letter_43 rfl (lv_at hl 3 rfl) ?_
              obtain ⟨hn5, hp⟩ := hp
              refine k_VR (As := [.int x3_1]) (rest := []) (q := 48) ⟨hx, hb, hml, hown, hts⟩ hKN hP hS (m_X8_drawn l D cI cB ad V1 x3_1 hn5) (cwV 1 hts gX8_letter_X8_drawn rfl rfl rfl (by decide +kernel) ⟨(Nat.le_of_ble_eq_true rfl), (Nat.le_of_ble_eq_true rfl)⟩) (c_preV hP hKN (q := 48) (ci := 6) (fs := [.ref (ad 49), .ref (ad 50), .ref (ad 51), .int ((V1 48) 0), .ref (ad 52), .int ((V1 48) 1), .ref (ad 53), .int ((V1 48) 2), .int ((V1 48) 3), .int ((V1 48) 4), .int ((V1 48) 5), .int ((V1 48) 6), .int ((V1 48) 7)]) (by decide) (ce_md ad cI cB (V1 48)) rfl rfl) rfl hl.1 rfl (Nat.le_of_ble_eq_true rfl) dX8_letter_44 ⟨Nat.zero_le _, Nat.zero_le _⟩ (fun H locs hP hS => ?_)
              refine lv_iload_n hx hb dX8_letter_47 rfl (lv_at hl 2 rfl) ?_
              refine lv_icmp_ne (tgt := 55) hx hb dX8_letter_48 (by decide) (fun c5 => ?_) (fun c5 => ?_)
              · have hE := hE.trans (if_neg c5)
                have hp := pc_bn hp c5
                refine lv_iinc (v := (x3_1 + 1)) (lv' := [(3, .int (x3_1 + 1)), (0, .ref (ad 48)), (1, .int p1), (2, .int p2)]) hx hb dX8_letter_55 hl (k := 3) rfl (by rfl) (by decide) rfl (fun ls hl => ?_)
                refine lv_goto (tgt := 31) hx hb dX8_letter_58 (by decide) ?_
                exact ih1 V1 (x3_1 + 1) hE hp H locs hP hS ls (lv_sub hl [1, 2, 3, 0] rfl)
              · have hE := hE.trans (if_pos c5)
                refine lv_sipush (v := (-1002)) hx hb dX8_letter_51 (by decide) ?_
                exact W.iret (v := (-1002)) hx hb hr (fun t ht hW => ⟨⟨(-1002), V1, rfl, ⟨(congrArg Prod.fst hE).symm, (congrArg Prod.snd hE).symm⟩, by dsimp only; rw [ht]; exact hP⟩, hS.F ht⟩) hS.2.2 dX8_letter_54
      exact L1 fu (f_X8_begins fu V) 0 hE hp _ _ hP hS _ (lv_sub hl [1, 2, 3, 0] rfl)
    · have hE := hE.trans (if_pos c2)
      refine lv_sipush (v := (-1001)) hx hb dX8_letter_25 (by decide) ?_
      exact W.iret (v := (-1001)) hx hb hr (fun t ht hW => ⟨⟨(-1001), (f_X8_begins fu V), rfl, ⟨(congrArg Prod.fst hE).symm, (congrArg Prod.snd hE).symm⟩, by dsimp only; rw [ht]; exact hP⟩, hS.F ht⟩) hS.2.2 dX8_letter_28
def f_X8_sign (fu : Nat) (V : VT) (p1 : Int32) (p2 : Int32) : Int32 × VT := (if (f_X8_isPlace (f_X8_begins fu V) p1) = 0 then ((-1001), (f_X8_begins fu V)) else (if (f_X8_in (f_X8_begins fu V) p2 0 32767) = 0 then ((-1001), (f_X8_begins fu V)) else ((f_X8_acted fu (f_X8_lays (f_X8_begins fu V) p1 p2) (f_X8_signOf (f_X8_begins fu V) p1)).1, (f_X8_acted fu (f_X8_lays (f_X8_begins fu V) p1 p2) (f_X8_signOf (f_X8_begins fu V) p1)).2)))
def p_X8_sign (fu : Nat) (V : VT) (p1 : Int32) (p2 : Int32) : Prop := ((p_X8_begins fu V ) ∧ ((p_X8_isPlace (f_X8_begins fu V) p1) ∧ (((f_X8_isPlace (f_X8_begins fu V) p1) = 0 → True) ∧ (¬ ((f_X8_isPlace (f_X8_begins fu V) p1) = 0) → (((f_X8_in (f_X8_begins fu V) p2 0 32767) = 0 → True) ∧ (¬ ((f_X8_in (f_X8_begins fu V) p2 0 32767) = 0) → ((p_X8_signOf (f_X8_begins fu V) p1) ∧ ((p_X8_lays (f_X8_begins fu V) p1 p2) ∧ (p_X8_acted fu (f_X8_lays (f_X8_begins fu V) p1 p2) (f_X8_signOf (f_X8_begins fu V) p1))))))))))
set_option maxHeartbeats 4000000 in
set_option maxRecDepth 100000 in
theorem m_X8_sign (l : Launch) (D : va_G) (cI cB : ClassId) (ad : Nat → Nat) {A : Nat → Prop} (hA : adOk ad A) (fu : Nat) (V : VT) (p1 : Int32) (p2 : Int32)  (hp : p_X8_sign fu V p1 p2) : Met l yX8_sign wsX8_sign ({ frames := 2, cells := 0, slots := 0, locals := 43 }) (cP D cI cB ad V [.ref (ad 48), .int p1, .int p2]) (cWi D cI cB ad A (f_X8_sign fu V p1 p2)) 0 0 A := by
  refine Met.ofW (cc := cX8_sign) (maxL := 4) (ret := (some .int)) (by decide +kernel) rfl ?_
  intro p e s m args below meth c s₁ B hml hv
  obtain ⟨rfl, hP, hKN⟩ := hv
  have hK := hKN.1
  have hx := B.exec
  have hb := B.bytes
  have hr := B.returns
  have hts := atoms_spec (ws := wsX8_sign) B.pre
  have hown : s.vm.findClass RX8 = some m.cls := findClass_of_methodNamed B.named
  have hlocks := B.notSynchronized
  have hS : va_S A s.heap s.heap [] := va_S.rf
  have hl := lv_entry ([.ref (ad 48), .int p1, .int p2]) (n := 4) (Nat.le_of_ble_eq_true rfl)
  rw [lg_entry_eq]
  generalize (lg_sl ([.ref (ad 48), .int p1, .int p2]) ++ List.replicate (4 - (lg_sl ([.ref (ad 48), .int p1, .int p2])).length) Slot.unset).toArray = ls at hl ⊢
  have hl : lv_has ls 4 [(0, .ref (ad 48)), (1, .int p1), (2, .int p2)] := hl
  have hE : f_X8_sign fu V p1 p2 = (if (f_X8_isPlace (f_X8_begins fu V) p1) = 0 then ((-1001), (f_X8_begins fu V)) else (if (f_X8_in (f_X8_begins fu V) p2 0 32767) = 0 then ((-1001), (f_X8_begins fu V)) else ((f_X8_acted fu (f_X8_lays (f_X8_begins fu V) p1 p2) (f_X8_signOf (f_X8_begins fu V) p1)).1, (f_X8_acted fu (f_X8_lays (f_X8_begins fu V) p1 p2) (f_X8_signOf (f_X8_begins fu V) p1)).2))) := rfl
  refine lv_aload_n hx hb dX8_sign_0 rfl (lv_at hl 0 rfl) ?_
  obtain ⟨hn1, hp⟩ := hp
  refine k_VWv (As := []) (rest := []) (q := 48) ⟨hx, hb, hml, hown, hts⟩ hKN hP hS (m_X8_begins l D cI cB ad hA fu V hn1) (cwV 0 hts gX8_sign_X8_begins rfl rfl rfl (by decide +kernel) ⟨(Nat.le_of_ble_eq_true rfl), (Nat.le_of_ble_eq_true rfl)⟩) (c_preV hP hKN (q := 48) (ci := 6) (fs := [.ref (ad 49), .ref (ad 50), .ref (ad 51), .int ((V 48) 0), .ref (ad 52), .int ((V 48) 1), .ref (ad 53), .int ((V 48) 2), .int ((V 48) 3), .int ((V 48) 4), .int ((V 48) 5), .int ((V 48) 6), .int ((V 48) 7)]) (by decide) (ce_md ad cI cB (V 48)) rfl rfl) rfl hl.1 rfl (Nat.le_of_ble_eq_true rfl) dX8_sign_1 ⟨Nat.zero_le _, Nat.zero_le _⟩ (fun H locs hP hS => ?_)
  refine lv_aload_n hx hb dX8_sign_4 rfl (lv_at hl 0 rfl) ?_
  refine lv_iload_n hx hb dX8_sign_5 rfl (lv_at hl 1 rfl) ?_
  obtain ⟨hn2, hp⟩ := hp
  refine k_VR (As := [.int p1]) (rest := []) (q := 48) ⟨hx, hb, hml, hown, hts⟩ hKN hP hS (m_X8_isPlace l D cI cB ad (f_X8_begins fu V) p1 hn2) (cwV 1 hts gX8_sign_X8_isPlace rfl rfl rfl (by decide +kernel) ⟨(Nat.le_of_ble_eq_true rfl), (Nat.le_of_ble_eq_true rfl)⟩) (c_preV hP hKN (q := 48) (ci := 6) (fs := [.ref (ad 49), .ref (ad 50), .ref (ad 51), .int (((f_X8_begins fu V) 48) 0), .ref (ad 52), .int (((f_X8_begins fu V) 48) 1), .ref (ad 53), .int (((f_X8_begins fu V) 48) 2), .int (((f_X8_begins fu V) 48) 3), .int (((f_X8_begins fu V) 48) 4), .int (((f_X8_begins fu V) 48) 5), .int (((f_X8_begins fu V) 48) 6), .int (((f_X8_begins fu V) 48) 7)]) (by decide) (ce_md ad cI cB ((f_X8_begins fu V) 48)) rfl rfl) rfl hl.1 rfl (Nat.le_of_ble_eq_true rfl) dX8_sign_6 ⟨Nat.zero_le _, Nat.zero_le _⟩ (fun H locs hP hS => ?_)
  refine lv_if_eq (tgt := 23) hx hb dX8_sign_9 (by decide) (fun c1 => ?_) (fun c1 => ?_)
  · have hE := hE.trans (if_pos c1)
    refine lv_sipush (v := (-1001)) hx hb dX8_sign_23 (by decide) ?_
    exact W.iret (v := (-1001)) hx hb hr (fun t ht hW => ⟨⟨(-1001), (f_X8_begins fu V), rfl, ⟨(congrArg Prod.fst hE).symm, (congrArg Prod.snd hE).symm⟩, by dsimp only; rw [ht]; exact hP⟩, hS.F ht⟩) hS.2.2 dX8_sign_26
  · have hE := hE.trans (if_neg c1)
    have hp := pc_bn hp c1
    refine lv_iload_n hx hb dX8_sign_12 rfl (lv_at hl 2 rfl) ?_
    refine lv_iconst (v := 0) hx hb dX8_sign_13 (by decide) ?_
    refine lv_sipush (v := 32767) hx hb dX8_sign_14 (by decide) ?_
    refine k_SR (As := [.int p2, .int 0, .int 32767]) (rest := []) ⟨hx, hb, hml, hown, hts⟩ hKN hP hS (m_X8_in l D cI cB ad (f_X8_begins fu V) p2 0 32767) (va_cwS 3 hts gX8_sign_X8_in rfl rfl rfl (by decide +kernel) ⟨(Nat.le_of_ble_eq_true rfl), (Nat.le_of_ble_eq_true rfl)⟩) rfl hl.1 rfl (Nat.le_of_ble_eq_true rfl) dX8_sign_17 ⟨Nat.zero_le _, Nat.zero_le _⟩ (fun H locs hP hS => ?_)
    refine lv_if_ne (tgt := 27) hx hb dX8_sign_20 (by decide) (fun c2 => ?_) (fun c2 => ?_)
    · have hE := hE.trans (if_neg c2)
      have hp := pc_bn hp c2
      refine lv_aload_n hx hb dX8_sign_27 rfl (lv_at hl 0 rfl) ?_
      refine lv_iload_n hx hb dX8_sign_28 rfl (lv_at hl 1 rfl) ?_
      obtain ⟨hn3, hp⟩ := hp
      refine k_VR (As := [.int p1]) (rest := []) (q := 48) ⟨hx, hb, hml, hown, hts⟩ hKN hP hS (m_X8_signOf l D cI cB ad (f_X8_begins fu V) p1 hn3) (cwV 1 hts gX8_sign_X8_signOf rfl rfl rfl (by decide +kernel) ⟨(Nat.le_of_ble_eq_true rfl), (Nat.le_of_ble_eq_true rfl)⟩) (c_preV hP hKN (q := 48) (ci := 6) (fs := [.ref (ad 49), .ref (ad 50), .ref (ad 51), .int (((f_X8_begins fu V) 48) 0), .ref (ad 52), .int (((f_X8_begins fu V) 48) 1), .ref (ad 53), .int (((f_X8_begins fu V) 48) 2), .int (((f_X8_begins fu V) 48) 3), .int (((f_X8_begins fu V) 48) 4), .int (((f_X8_begins fu V) 48) 5), .int (((f_X8_begins fu V) 48) 6), .int (((f_X8_begins fu V) 48) 7)]) (by decide) (ce_md ad cI cB ((f_X8_begins fu V) 48)) rfl rfl) rfl hl.1 rfl (Nat.le_of_ble_eq_true rfl) dX8_sign_29 ⟨Nat.zero_le _, Nat.zero_le _⟩ (fun H locs hP hS => ?_)
      refine lv_istore_n (lv' := [(3, .int (f_X8_signOf (f_X8_begins fu V) p1)), (0, .ref (ad 48)), (1, .int p1), (2, .int p2)]) hx hb dX8_sign_32 rfl hl (by decide) rfl (fun ls hl => ?_)
      refine lv_aload_n hx hb dX8_sign_33 rfl (lv_at hl 1 rfl) ?_
      refine lv_iload_n hx hb dX8_sign_34 rfl (lv_at hl 2 rfl) ?_
      refine lv_iload_n hx hb dX8_sign_35 rfl (lv_at hl 3 rfl) ?_
      obtain ⟨hn4, hp⟩ := hp
      refine k_VWv (As := [.int p1, .int p2]) (rest := []) (q := 48) ⟨hx, hb, hml, hown, hts⟩ hKN hP hS (m_X8_lays l D cI cB ad hA (f_X8_begins fu V) p1 p2 hn4) (cwV 2 hts gX8_sign_X8_lays rfl rfl rfl (by decide +kernel) ⟨(Nat.le_of_ble_eq_true rfl), (Nat.le_of_ble_eq_true rfl)⟩) (c_preV hP hKN (q := 48) (ci := 6) (fs := [.ref (ad 49), .ref (ad 50), .ref (ad 51), .int (((f_X8_begins fu V) 48) 0), .ref (ad 52), .int (((f_X8_begins fu V) 48) 1), .ref (ad 53), .int (((f_X8_begins fu V) 48) 2), .int (((f_X8_begins fu V) 48) 3), .int (((f_X8_begins fu V) 48) 4), .int (((f_X8_begins fu V) 48) 5), .int (((f_X8_begins fu V) 48) 6), .int (((f_X8_begins fu V) 48) 7)]) (by decide) (ce_md ad cI cB ((f_X8_begins fu V) 48)) rfl rfl) rfl hl.1 rfl (Nat.le_of_ble_eq_true rfl) dX8_sign_36 ⟨Nat.zero_le _, Nat.zero_le _⟩ (fun H locs hP hS => ?_)
      refine lv_aload_n hx hb dX8_sign_39 rfl (lv_at hl 1 rfl) ?_
      refine lv_iload_n hx hb dX8_sign_40 rfl (lv_at hl 0 rfl) ?_
      have hn5 := hp
      refine k_VWi (As := [.int (f_X8_signOf (f_X8_begins fu V) p1)]) (rest := []) (q := 48) ⟨hx, hb, hml, hown, hts⟩ hKN hP hS (m_X8_acted l D cI cB ad hA fu (f_X8_lays (f_X8_begins fu V) p1 p2) (f_X8_signOf (f_X8_begins fu V) p1) hn5) (cwV 1 hts gX8_sign_X8_acted rfl rfl rfl (by decide +kernel) ⟨(Nat.le_of_ble_eq_true rfl), (Nat.le_of_ble_eq_true rfl)⟩) (c_preV hP hKN (q := 48) (ci := 6) (fs := [.ref (ad 49), .ref (ad 50), .ref (ad 51), .int (((f_X8_lays (f_X8_begins fu V) p1 p2) 48) 0), .ref (ad 52), .int (((f_X8_lays (f_X8_begins fu V) p1 p2) 48) 1), .ref (ad 53), .int (((f_X8_lays (f_X8_begins fu V) p1 p2) 48) 2), .int (((f_X8_lays (f_X8_begins fu V) p1 p2) 48) 3), .int (((f_X8_lays (f_X8_begins fu V) p1 p2) 48) 4), .int (((f_X8_lays (f_X8_begins fu V) p1 p2) 48) 5), .int (((f_X8_lays (f_X8_begins fu V) p1 p2) 48) 6), .int (((f_X8_lays (f_X8_begins fu V) p1 p2) 48) 7)]) (by decide) (ce_md ad cI cB ((f_X8_lays (f_X8_begins fu V) p1 p2) 48)) rfl rfl) rfl hl.1 rfl (Nat.le_of_ble_eq_true rfl) dX8_sign_41 ⟨Nat.zero_le _, Nat.zero_le _⟩ (fun H locs hP hS => ?_)
      exact W.iret (v := (f_X8_acted fu (f_X8_lays (f_X8_begins fu V) p1 p2) (f_X8_signOf (f_X8_begins fu V) p1)).1) hx hb hr (fun t ht hW => ⟨⟨(f_X8_acted fu (f_X8_lays (f_X8_begins fu V) p1 p2) (f_X8_signOf (f_X8_begins fu V) p1)).1, (f_X8_acted fu (f_X8_lays (f_X8_begins fu V) p1 p2) (f_X8_signOf (f_X8_begins fu V) p1)).2, rfl, ⟨(congrArg Prod.fst hE).symm, (congrArg Prod.snd hE).symm⟩, by dsimp only; rw [ht]; exact hP⟩, hS.F ht⟩) hS.2.2 dX8_sign_44
    · have hE := hE.trans (if_pos c2)
      refine lv_sipush (v := (-1001)) hx hb dX8_sign_23 (by decide) ?_
      exact W.iret (v := (-1001)) hx hb hr (fun t ht hW => ⟨⟨(-1001), (f_X8_begins fu V), rfl, ⟨(congrArg Prod.fst hE).symm, (congrArg Prod.snd hE).symm⟩, by dsimp only; rw [ht]; exact hP⟩, hS.F ht⟩) hS.2.2 dX8_sign_26
def v_X8_compose_1 (fu : Nat) (V : VT) (p1 : Int32) : VT := (f_X8_lays ((f_X8_composesAt fu (f_X8_begins fu V) p1).2) p1 (((f_X8_composesAt fu (f_X8_begins fu V) p1).2) 48 3))
def f_X8_compose (fu : Nat) (V : VT) (p1 : Int32) : Int32 × VT := (if (f_X8_isPlace (f_X8_begins fu V) p1) = 0 then ((-1001), (f_X8_begins fu V)) else (if ((f_X8_composesAt fu (f_X8_begins fu V) p1).1) = 0 then ((-1002), (f_X8_composesAt fu (f_X8_begins fu V) p1).2) else ((f_X8_acted fu (v_X8_compose_1 fu V p1) ((v_X8_compose_1 fu V p1) 48 3)).1, (f_X8_acted fu (v_X8_compose_1 fu V p1) ((v_X8_compose_1 fu V p1) 48 3)).2)))
def p_X8_compose (fu : Nat) (V : VT) (p1 : Int32) : Prop := ((p_X8_begins fu V ) ∧ ((p_X8_isPlace (f_X8_begins fu V) p1) ∧ (((f_X8_isPlace (f_X8_begins fu V) p1) = 0 → True) ∧ (¬ ((f_X8_isPlace (f_X8_begins fu V) p1) = 0) → ((p_X8_composesAt fu (f_X8_begins fu V) p1) ∧ ((((f_X8_composesAt fu (f_X8_begins fu V) p1).1) = 0 → True) ∧ (¬ (((f_X8_composesAt fu (f_X8_begins fu V) p1).1) = 0) → ((p_X8_lays ((f_X8_composesAt fu (f_X8_begins fu V) p1).2) p1 (((f_X8_composesAt fu (f_X8_begins fu V) p1).2) 48 3)) ∧ (p_X8_acted fu (v_X8_compose_1 fu V p1) ((v_X8_compose_1 fu V p1) 48 3))))))))))
set_option maxHeartbeats 4000000 in
set_option maxRecDepth 100000 in
theorem m_X8_compose (l : Launch) (D : va_G) (cI cB : ClassId) (ad : Nat → Nat) {A : Nat → Prop} (hA : adOk ad A) (fu : Nat) (V : VT) (p1 : Int32)  (hp : p_X8_compose fu V p1) : Met l yX8_compose wsX8_compose ({ frames := 5, cells := 0, slots := 0, locals := 124 }) (cP D cI cB ad V [.ref (ad 48), .int p1]) (cWi D cI cB ad A (f_X8_compose fu V p1)) 0 0 A := by
  refine Met.ofW (cc := cX8_compose) (maxL := 2) (ret := (some .int)) (by decide +kernel) rfl ?_
  intro p e s m args below meth c s₁ B hml hv
  obtain ⟨rfl, hP, hKN⟩ := hv
  have hK := hKN.1
  have hx := B.exec
  have hb := B.bytes
  have hr := B.returns
  have hts := atoms_spec (ws := wsX8_compose) B.pre
  have hown : s.vm.findClass RX8 = some m.cls := findClass_of_methodNamed B.named
  have hlocks := B.notSynchronized
  have hS : va_S A s.heap s.heap [] := va_S.rf
  have hl := lv_entry ([.ref (ad 48), .int p1]) (n := 2) (Nat.le_of_ble_eq_true rfl)
  rw [lg_entry_eq]
  generalize (lg_sl ([.ref (ad 48), .int p1]) ++ List.replicate (2 - (lg_sl ([.ref (ad 48), .int p1])).length) Slot.unset).toArray = ls at hl ⊢
  have hl : lv_has ls 2 [(0, .ref (ad 48)), (1, .int p1)] := hl
  have hE : f_X8_compose fu V p1 = (if (f_X8_isPlace (f_X8_begins fu V) p1) = 0 then ((-1001), (f_X8_begins fu V)) else (if ((f_X8_composesAt fu (f_X8_begins fu V) p1).1) = 0 then ((-1002), (f_X8_composesAt fu (f_X8_begins fu V) p1).2) else ((f_X8_acted fu (v_X8_compose_1 fu V p1) ((v_X8_compose_1 fu V p1) 48 3)).1, (f_X8_acted fu (v_X8_compose_1 fu V p1) ((v_X8_compose_1 fu V p1) 48 3)).2))) := rfl
  refine lv_aload_n hx hb dX8_compose_0 rfl (lv_at hl 0 rfl) ?_
  obtain ⟨hn1, hp⟩ := hp
  refine k_VWv (As := []) (rest := []) (q := 48) ⟨hx, hb, hml, hown, hts⟩ hKN hP hS (m_X8_begins l D cI cB ad hA fu V hn1) (cwV 0 hts gX8_compose_X8_begins rfl rfl rfl (by decide +kernel) ⟨(Nat.le_of_ble_eq_true rfl), (Nat.le_of_ble_eq_true rfl)⟩) (c_preV hP hKN (q := 48) (ci := 6) (fs := [.ref (ad 49), .ref (ad 50), .ref (ad 51), .int ((V 48) 0), .ref (ad 52), .int ((V 48) 1), .ref (ad 53), .int ((V 48) 2), .int ((V 48) 3), .int ((V 48) 4), .int ((V 48) 5), .int ((V 48) 6), .int ((V 48) 7)]) (by decide) (ce_md ad cI cB (V 48)) rfl rfl) rfl hl.1 rfl (Nat.le_of_ble_eq_true rfl) dX8_compose_1 ⟨Nat.zero_le _, Nat.zero_le _⟩ (fun H locs hP hS => ?_)
  refine lv_aload_n hx hb dX8_compose_4 rfl (lv_at hl 0 rfl) ?_
  refine lv_iload_n hx hb dX8_compose_5 rfl (lv_at hl 1 rfl) ?_
  obtain ⟨hn2, hp⟩ := hp
  refine k_VR (As := [.int p1]) (rest := []) (q := 48) ⟨hx, hb, hml, hown, hts⟩ hKN hP hS (m_X8_isPlace l D cI cB ad (f_X8_begins fu V) p1 hn2) (cwV 1 hts gX8_compose_X8_isPlace rfl rfl rfl (by decide +kernel) ⟨(Nat.le_of_ble_eq_true rfl), (Nat.le_of_ble_eq_true rfl)⟩) (c_preV hP hKN (q := 48) (ci := 6) (fs := [.ref (ad 49), .ref (ad 50), .ref (ad 51), .int (((f_X8_begins fu V) 48) 0), .ref (ad 52), .int (((f_X8_begins fu V) 48) 1), .ref (ad 53), .int (((f_X8_begins fu V) 48) 2), .int (((f_X8_begins fu V) 48) 3), .int (((f_X8_begins fu V) 48) 4), .int (((f_X8_begins fu V) 48) 5), .int (((f_X8_begins fu V) 48) 6), .int (((f_X8_begins fu V) 48) 7)]) (by decide) (ce_md ad cI cB ((f_X8_begins fu V) 48)) rfl rfl) rfl hl.1 rfl (Nat.le_of_ble_eq_true rfl) dX8_compose_6 ⟨Nat.zero_le _, Nat.zero_le _⟩ (fun H locs hP hS => ?_)
  refine lv_if_ne (tgt := 16) hx hb dX8_compose_9 (by decide) (fun c1 => ?_) (fun c1 => ?_)
  · have hE := hE.trans (if_neg c1)
    have hp := pc_bn hp c1
    refine lv_aload_n hx hb dX8_compose_16 rfl (lv_at hl 0 rfl) ?_
    refine lv_iload_n hx hb dX8_compose_17 rfl (lv_at hl 1 rfl) ?_
    obtain ⟨hn3, hp⟩ := hp
    refine k_VWi (As := [.int p1]) (rest := []) (q := 48) ⟨hx, hb, hml, hown, hts⟩ hKN hP hS (m_X8_composesAt l D cI cB ad hA fu (f_X8_begins fu V) p1 hn3) (cwV 1 hts gX8_compose_X8_composesAt rfl rfl rfl (by decide +kernel) ⟨(Nat.le_of_ble_eq_true rfl), (Nat.le_of_ble_eq_true rfl)⟩) (c_preV hP hKN (q := 48) (ci := 6) (fs := [.ref (ad 49), .ref (ad 50), .ref (ad 51), .int (((f_X8_begins fu V) 48) 0), .ref (ad 52), .int (((f_X8_begins fu V) 48) 1), .ref (ad 53), .int (((f_X8_begins fu V) 48) 2), .int (((f_X8_begins fu V) 48) 3), .int (((f_X8_begins fu V) 48) 4), .int (((f_X8_begins fu V) 48) 5), .int (((f_X8_begins fu V) 48) 6), .int (((f_X8_begins fu V) 48) 7)]) (by decide) (ce_md ad cI cB ((f_X8_begins fu V) 48)) rfl rfl) rfl hl.1 rfl (Nat.le_of_ble_eq_true rfl) dX8_compose_18 ⟨Nat.zero_le _, Nat.zero_le _⟩ (fun H locs hP hS => ?_)
    refine lv_if_ne (tgt := 28) hx hb dX8_compose_21 (by decide) (fun c2 => ?_) (fun c2 => ?_)
    · have hE := hE.trans (if_neg c2)
      have hp := pc_bn hp c2
      refine lv_aload_n hx hb dX8_compose_28 rfl (lv_at hl 0 rfl) ?_
      refine lv_iload_n hx hb dX8_compose_29 rfl (lv_at hl 1 rfl) ?_
      refine lv_aload_n hx hb dX8_compose_30 rfl (lv_at hl 0 rfl) ?_
      refine x_get (ci := 6) (fs := [.ref (ad 49), .ref (ad 50), .ref (ad 51), .int ((((f_X8_composesAt fu (f_X8_begins fu V) p1).2) 48) 0), .ref (ad 52), .int ((((f_X8_composesAt fu (f_X8_begins fu V) p1).2) 48) 1), .ref (ad 53), .int ((((f_X8_composesAt fu (f_X8_begins fu V) p1).2) 48) 2), .int ((((f_X8_composesAt fu (f_X8_begins fu V) p1).2) 48) 3), .int ((((f_X8_composesAt fu (f_X8_begins fu V) p1).2) 48) 4), .int ((((f_X8_composesAt fu (f_X8_begins fu V) p1).2) 48) 5), .int ((((f_X8_composesAt fu (f_X8_begins fu V) p1).2) 48) 6), .int ((((f_X8_composesAt fu (f_X8_begins fu V) p1).2) 48) 7)]) (q := 48) (v := .int (((f_X8_composesAt fu (f_X8_begins fu V) p1).2) 48 3)) (N := 13) hx hb hts (fun _ h => List.mem_cons_of_mem _ (List.mem_append_right _ h)) hown hK hP (by decide) (ce_md ad cI cB (((f_X8_composesAt fu (f_X8_begins fu V) p1).2) 48)) rfl 8 (by decide) (hts (.fieldLink RX8 39 "TurnedBoardsModel" "composedSign" "I") (List.mem_of_getElem? (i := 1) rfl)) rfl rfl dX8_compose_31 ?_
      obtain ⟨hn4, hp⟩ := hp
      refine k_VWv (As := [.int p1, .int (((f_X8_composesAt fu (f_X8_begins fu V) p1).2) 48 3)]) (rest := []) (q := 48) ⟨hx, hb, hml, hown, hts⟩ hKN hP hS (m_X8_lays l D cI cB ad hA ((f_X8_composesAt fu (f_X8_begins fu V) p1).2) p1 (((f_X8_composesAt fu (f_X8_begins fu V) p1).2) 48 3) hn4) (cwV 2 hts gX8_compose_X8_lays rfl rfl rfl (by decide +kernel) ⟨(Nat.le_of_ble_eq_true rfl), (Nat.le_of_ble_eq_true rfl)⟩) (c_preV hP hKN (q := 48) (ci := 6) (fs := [.ref (ad 49), .ref (ad 50), .ref (ad 51), .int ((((f_X8_composesAt fu (f_X8_begins fu V) p1).2) 48) 0), .ref (ad 52), .int ((((f_X8_composesAt fu (f_X8_begins fu V) p1).2) 48) 1), .ref (ad 53), .int ((((f_X8_composesAt fu (f_X8_begins fu V) p1).2) 48) 2), .int ((((f_X8_composesAt fu (f_X8_begins fu V) p1).2) 48) 3), .int ((((f_X8_composesAt fu (f_X8_begins fu V) p1).2) 48) 4), .int ((((f_X8_composesAt fu (f_X8_begins fu V) p1).2) 48) 5), .int ((((f_X8_composesAt fu (f_X8_begins fu V) p1).2) 48) 6), .int ((((f_X8_composesAt fu (f_X8_begins fu V) p1).2) 48) 7)]) (by decide) (ce_md ad cI cB (((f_X8_composesAt fu (f_X8_begins fu V) p1).2) 48)) rfl rfl) rfl hl.1 rfl (Nat.le_of_ble_eq_true rfl) dX8_compose_34 ⟨Nat.zero_le _, Nat.zero_le _⟩ (fun H locs hP hS => ?_)
      have hP : wP D cI cB ad (v_X8_compose_1 fu V p1) H := hP
      refine lv_aload_n hx hb dX8_compose_37 rfl (lv_at hl 0 rfl) ?_
      refine lv_aload_n hx hb dX8_compose_38 rfl (lv_at hl 0 rfl) ?_
      refine x_get (ci := 6) (fs := [.ref (ad 49), .ref (ad 50), .ref (ad 51), .int (((v_X8_compose_1 fu V p1) 48) 0), .ref (ad 52), .int (((v_X8_compose_1 fu V p1) 48) 1), .ref (ad 53), .int (((v_X8_compose_1 fu V p1) 48) 2), .int (((v_X8_compose_1 fu V p1) 48) 3), .int (((v_X8_compose_1 fu V p1) 48) 4), .int (((v_X8_compose_1 fu V p1) 48) 5), .int (((v_X8_compose_1 fu V p1) 48) 6), .int (((v_X8_compose_1 fu V p1) 48) 7)]) (q := 48) (v := .int ((v_X8_compose_1 fu V p1) 48 3)) (N := 13) hx hb hts (fun _ h => List.mem_cons_of_mem _ (List.mem_append_right _ h)) hown hK hP (by decide) (ce_md ad cI cB ((v_X8_compose_1 fu V p1) 48)) rfl 8 (by decide) (hts (.fieldLink RX8 39 "TurnedBoardsModel" "composedSign" "I") (List.mem_of_getElem? (i := 1) rfl)) rfl rfl dX8_compose_39 ?_
      have hn5 := hp
      refine k_VWi (As := [.int ((v_X8_compose_1 fu V p1) 48 3)]) (rest := []) (q := 48) ⟨hx, hb, hml, hown, hts⟩ hKN hP hS (m_X8_acted l D cI cB ad hA fu (v_X8_compose_1 fu V p1) ((v_X8_compose_1 fu V p1) 48 3) hn5) (cwV 1 hts gX8_compose_X8_acted rfl rfl rfl (by decide +kernel) ⟨(Nat.le_of_ble_eq_true rfl), (Nat.le_of_ble_eq_true rfl)⟩) (c_preV hP hKN (q := 48) (ci := 6) (fs := [.ref (ad 49), .ref (ad 50), .ref (ad 51), .int (((v_X8_compose_1 fu V p1) 48) 0), .ref (ad 52), .int (((v_X8_compose_1 fu V p1) 48) 1), .ref (ad 53), .int (((v_X8_compose_1 fu V p1) 48) 2), .int (((v_X8_compose_1 fu V p1) 48) 3), .int (((v_X8_compose_1 fu V p1) 48) 4), .int (((v_X8_compose_1 fu V p1) 48) 5), .int (((v_X8_compose_1 fu V p1) 48) 6), .int (((v_X8_compose_1 fu V p1) 48) 7)]) (by decide) (ce_md ad cI cB ((v_X8_compose_1 fu V p1) 48)) rfl rfl) rfl hl.1 rfl (Nat.le_of_ble_eq_true rfl) dX8_compose_42 ⟨Nat.zero_le _, Nat.zero_le _⟩ (fun H locs hP hS => ?_)
      exact W.iret (v := (f_X8_acted fu (v_X8_compose_1 fu V p1) ((v_X8_compose_1 fu V p1) 48 3)).1) hx hb hr (fun t ht hW => ⟨⟨(f_X8_acted fu (v_X8_compose_1 fu V p1) ((v_X8_compose_1 fu V p1) 48 3)).1, (f_X8_acted fu (v_X8_compose_1 fu V p1) ((v_X8_compose_1 fu V p1) 48 3)).2, rfl, ⟨(congrArg Prod.fst hE).symm, (congrArg Prod.snd hE).symm⟩, by dsimp only; rw [ht]; exact hP⟩, hS.F ht⟩) hS.2.2 dX8_compose_45
    · have hE := hE.trans (if_pos c2)
      refine lv_sipush (v := (-1002)) hx hb dX8_compose_24 (by decide) ?_
      exact W.iret (v := (-1002)) hx hb hr (fun t ht hW => ⟨⟨(-1002), (f_X8_composesAt fu (f_X8_begins fu V) p1).2, rfl, ⟨(congrArg Prod.fst hE).symm, (congrArg Prod.snd hE).symm⟩, by dsimp only; rw [ht]; exact hP⟩, hS.F ht⟩) hS.2.2 dX8_compose_27
  · have hE := hE.trans (if_pos c1)
    refine lv_sipush (v := (-1001)) hx hb dX8_compose_12 (by decide) ?_
    exact W.iret (v := (-1001)) hx hb hr (fun t ht hW => ⟨⟨(-1001), (f_X8_begins fu V), rfl, ⟨(congrArg Prod.fst hE).symm, (congrArg Prod.snd hE).symm⟩, by dsimp only; rw [ht]; exact hP⟩, hS.F ht⟩) hS.2.2 dX8_compose_15
def f_X8_composeAll_l1 (fu : Nat)  : Nat → VT → Int32 → Int32 → Int32 × VT
  | 0, V1, x1_1, x2_1 => (0, V1)
  | w1 + 1, V1, x1_1, x2_1 => (if (V1 49 (0 : Int32).toNatClampNeg) ≤ x2_1 then ((f_X8_acted fu V1 x1_1).1, (f_X8_acted fu V1 x1_1).2) else (if ((f_X8_composesAt fu V1 x2_1).1) = 0 then (f_X8_composeAll_l1 fu  w1 ((f_X8_composesAt fu V1 x2_1).2) x1_1 (x2_1 + 1)) else (f_X8_composeAll_l1 fu  w1 (f_X8_lays ((f_X8_composesAt fu V1 x2_1).2) x2_1 (((f_X8_composesAt fu V1 x2_1).2) 48 3)) (x1_1 + 1) (x2_1 + 1))))
def p_X8_composeAll_l1 (fu : Nat)  : Nat → VT → Int32 → Int32 → Prop
  | 0, _, _, _ => False
  | w1 + 1, V1, x1_1, x2_1 => (((V1 49 (0 : Int32).toNatClampNeg) ≤ x2_1 → (p_X8_acted fu V1 x1_1)) ∧ (¬ ((V1 49 (0 : Int32).toNatClampNeg) ≤ x2_1) → ((p_X8_composesAt fu V1 x2_1) ∧ ((((f_X8_composesAt fu V1 x2_1).1) = 0 → (p_X8_composeAll_l1 fu  w1 ((f_X8_composesAt fu V1 x2_1).2) x1_1 (x2_1 + 1))) ∧ (¬ (((f_X8_composesAt fu V1 x2_1).1) = 0) → ((p_X8_lays ((f_X8_composesAt fu V1 x2_1).2) x2_1 (((f_X8_composesAt fu V1 x2_1).2) 48 3)) ∧ (p_X8_composeAll_l1 fu  w1 (f_X8_lays ((f_X8_composesAt fu V1 x2_1).2) x2_1 (((f_X8_composesAt fu V1 x2_1).2) 48 3)) (x1_1 + 1) (x2_1 + 1))))))))
def f_X8_composeAll (fu : Nat) (V : VT)  : Int32 × VT := (if ((f_X8_begins fu V) 49 (0 : Int32).toNatClampNeg) = 0 then ((-1002), (f_X8_begins fu V)) else (f_X8_composeAll_l1 fu  fu (f_X8_begins fu V) 0 0))
def p_X8_composeAll (fu : Nat) (V : VT)  : Prop := ((p_X8_begins fu V ) ∧ ((((f_X8_begins fu V) 49 (0 : Int32).toNatClampNeg) = 0 → True) ∧ (¬ (((f_X8_begins fu V) 49 (0 : Int32).toNatClampNeg) = 0) → (p_X8_composeAll_l1 fu  fu (f_X8_begins fu V) 0 0))))
set_option maxHeartbeats 4000000 in
set_option maxRecDepth 100000 in
theorem m_X8_composeAll (l : Launch) (D : va_G) (cI cB : ClassId) (ad : Nat → Nat) {A : Nat → Prop} (hA : adOk ad A) (fu : Nat) (V : VT)   (hp : p_X8_composeAll fu V ) : Met l yX8_composeAll wsX8_composeAll ({ frames := 5, cells := 0, slots := 0, locals := 124 }) (cP D cI cB ad V [.ref (ad 48)]) (cWi D cI cB ad A (f_X8_composeAll fu V)) 0 0 A := by
  refine Met.ofW (cc := cX8_composeAll) (maxL := 3) (ret := (some .int)) (by decide +kernel) rfl ?_
  intro p e s m args below meth c s₁ B hml hv
  obtain ⟨rfl, hP, hKN⟩ := hv
  have hK := hKN.1
  have hx := B.exec
  have hb := B.bytes
  have hr := B.returns
  have hts := atoms_spec (ws := wsX8_composeAll) B.pre
  have hown : s.vm.findClass RX8 = some m.cls := findClass_of_methodNamed B.named
  have hlocks := B.notSynchronized
  have hS : va_S A s.heap s.heap [] := va_S.rf
  have hl := lv_entry ([.ref (ad 48)]) (n := 3) (Nat.le_of_ble_eq_true rfl)
  rw [lg_entry_eq]
  generalize (lg_sl ([.ref (ad 48)]) ++ List.replicate (3 - (lg_sl ([.ref (ad 48)])).length) Slot.unset).toArray = ls at hl ⊢
  have hl : lv_has ls 3 [(0, .ref (ad 48))] := hl
  have hE : f_X8_composeAll fu V = (if ((f_X8_begins fu V) 49 (0 : Int32).toNatClampNeg) = 0 then ((-1002), (f_X8_begins fu V)) else (f_X8_composeAll_l1 fu  fu (f_X8_begins fu V) 0 0)) := rfl
  refine lv_aload_n hx hb dX8_composeAll_0 rfl (lv_at hl 0 rfl) ?_
  obtain ⟨hn1, hp⟩ := hp
  refine k_VWv (As := []) (rest := []) (q := 48) ⟨hx, hb, hml, hown, hts⟩ hKN hP hS (m_X8_begins l D cI cB ad hA fu V hn1) (cwV 0 hts gX8_composeAll_X8_begins rfl rfl rfl (by decide +kernel) ⟨(Nat.le_of_ble_eq_true rfl), (Nat.le_of_ble_eq_true rfl)⟩) (c_preV hP hKN (q := 48) (ci := 6) (fs := [.ref (ad 49), .ref (ad 50), .ref (ad 51), .int ((V 48) 0), .ref (ad 52), .int ((V 48) 1), .ref (ad 53), .int ((V 48) 2), .int ((V 48) 3), .int ((V 48) 4), .int ((V 48) 5), .int ((V 48) 6), .int ((V 48) 7)]) (by decide) (ce_md ad cI cB (V 48)) rfl rfl) rfl hl.1 rfl (Nat.le_of_ble_eq_true rfl) dX8_composeAll_1 ⟨Nat.zero_le _, Nat.zero_le _⟩ (fun H locs hP hS => ?_)
  refine lv_aload_n hx hb dX8_composeAll_4 rfl (lv_at hl 0 rfl) ?_
  refine x_get (ci := 6) (fs := [.ref (ad 49), .ref (ad 50), .ref (ad 51), .int (((f_X8_begins fu V) 48) 0), .ref (ad 52), .int (((f_X8_begins fu V) 48) 1), .ref (ad 53), .int (((f_X8_begins fu V) 48) 2), .int (((f_X8_begins fu V) 48) 3), .int (((f_X8_begins fu V) 48) 4), .int (((f_X8_begins fu V) 48) 5), .int (((f_X8_begins fu V) 48) 6), .int (((f_X8_begins fu V) 48) 7)]) (q := 48) (v := .ref (ad 49)) (N := 13) hx hb hts (fun _ h => List.mem_cons_of_mem _ (List.mem_append_right _ h)) hown hK hP (by decide) (ce_md ad cI cB ((f_X8_begins fu V) 48)) rfl 0 (by decide) (hts (.fieldLink RX8 7 "TurnedBoardsModel" "s" "[I") (List.mem_of_getElem? (i := 1) rfl)) rfl rfl dX8_composeAll_5 ?_
  refine lv_iconst (v := 0) hx hb dX8_composeAll_8 (by decide) ?_
  refine x_iald hx hb hK hP ⟨by decide, fun _ => rfl, by decide⟩ (vp_lit (i := 0) (n := 49) (by decide) (by decide)) dX8_composeAll_9 ?_
  refine lv_if_ne (tgt := 17) hx hb dX8_composeAll_10 (by decide) (fun c1 => ?_) (fun c1 => ?_)
  · have hE := hE.trans (if_neg c1)
    have hp := pc_bn hp c1
    refine lv_iconst (v := 0) hx hb dX8_composeAll_17 (by decide) ?_
    refine lv_istore_n (lv' := [(1, .int 0), (0, .ref (ad 48))]) hx hb dX8_composeAll_18 rfl hl (by decide) rfl (fun ls hl => ?_)
    refine lv_iconst (v := 0) hx hb dX8_composeAll_19 (by decide) ?_
    refine lv_istore_n (lv' := [(2, .int 0), (1, .int 0), (0, .ref (ad 48))]) hx hb dX8_composeAll_20 rfl hl (by decide) rfl (fun ls hl => ?_)
    have L1 : ∀ (w1 : Nat) (V1 : VT) (x1_1 : Int32) (x2_1 : Int32), f_X8_composeAll fu V = f_X8_composeAll_l1 fu  w1 V1 x1_1 x2_1 → p_X8_composeAll_l1 fu  w1 V1 x1_1 x2_1 → ∀ (H : Heap) (locs : List Loc), wP D cI cB ad V1 H → va_S A s.heap H locs → ∀ (ls : Array Slot), lv_has ls 3 [(0, .ref (ad 48)), (1, .int x1_1), (2, .int x2_1)] → W p l e (headSpec wsX8_composeAll ({ frames := 5, cells := 0, slots := 0, locals := 124 })).room s m ([.ref (ad 48)] : List Value).toArray below meth c H locs 0 0 (MQ below (cWi D cI cB ad A (f_X8_composeAll fu V)) ([.ref (ad 48)] : List Value).toArray s 0 0 A) (F0 m 21 ls []) := by
      intro w1
      induction w1 with
      | zero => intro V1 x1_1 x2_1 hE hp; exact hp.elim
      | succ w1 ih1 =>
        intro V1 x1_1 x2_1 hE hp H locs hP hS ls hl
        rw [f_X8_composeAll_l1] at hE
        rw [p_X8_composeAll_l1] at hp
        refine lv_iload_n hx hb dX8_composeAll_21 rfl (lv_at hl 2 rfl) ?_
        refine lv_aload_n hx hb dX8_composeAll_22 rfl (lv_at hl 0 rfl) ?_
        refine x_get (ci := 6) (fs := [.ref (ad 49), .ref (ad 50), .ref (ad 51), .int ((V1 48) 0), .ref (ad 52), .int ((V1 48) 1), .ref (ad 53), .int ((V1 48) 2), .int ((V1 48) 3), .int ((V1 48) 4), .int ((V1 48) 5), .int ((V1 48) 6), .int ((V1 48) 7)]) (q := 48) (v := .ref (ad 49)) (N := 13) hx hb hts (fun _ h => List.mem_cons_of_mem _ (List.mem_append_right _ h)) hown hK hP (by decide) (ce_md ad cI cB (V1 48)) rfl 0 (by decide) (hts (.fieldLink RX8 7 "TurnedBoardsModel" "s" "[I") (List.mem_of_getElem? (i := 1) rfl)) rfl rfl dX8_composeAll_23 ?_
        refine lv_iconst (v := 0) hx hb dX8_composeAll_26 (by decide) ?_
        refine x_iald hx hb hK hP ⟨by decide, fun _ => rfl, by decide⟩ (vp_lit (i := 0) (n := 49) (by decide) (by decide)) dX8_composeAll_27 ?_
        refine lv_icmp_ge (tgt := 57) hx hb dX8_composeAll_28 (by decide) (fun c2 => ?_) (fun c2 => ?_)
        · have hE := hE.trans (if_pos c2)
          have hp := pc_br hp c2
          refine lv_aload_n hx hb dX8_composeAll_57 rfl (lv_at hl 0 rfl) ?_
          refine lv_iload_n hx hb dX8_composeAll_58 rfl (lv_at hl 1 rfl) ?_
          have hn2 := hp
          refine k_VWi (As := [.int x1_1]) (rest := []) (q := 48) ⟨hx, hb, hml, hown, hts⟩ hKN hP hS (m_X8_acted l D cI cB ad hA fu V1 x1_1 hn2) (cwV 1 hts gX8_composeAll_X8_acted rfl rfl rfl (by decide +kernel) ⟨(Nat.le_of_ble_eq_true rfl), (Nat.le_of_ble_eq_true rfl)⟩) (c_preV hP hKN (q := 48) (ci := 6) (fs := [.ref (ad 49), .ref (ad 50), .ref (ad 51), .int ((V1 48) 0), .ref (ad 52), .int ((V1 48) 1), .ref (ad 53), .int ((V1 48) 2), .int ((V1 48) 3), .int ((V1 48) 4), .int ((V1 48) 5), .int ((V1 48) 6), .int ((V1 48) 7)]) (by decide) (ce_md ad cI cB (V1 48)) rfl rfl) rfl hl.1 rfl (Nat.le_of_ble_eq_true rfl) dX8_composeAll_59 ⟨Nat.zero_le _, Nat.zero_le _⟩ (fun H locs hP hS => ?_)
          exact W.iret (v := (f_X8_acted fu V1 x1_1).1) hx hb hr (fun t ht hW => ⟨⟨(f_X8_acted fu V1 x1_1).1, (f_X8_acted fu V1 x1_1).2, rfl, ⟨(congrArg Prod.fst hE).symm, (congrArg Prod.snd hE).symm⟩, by dsimp only; rw [ht]; exact hP⟩, hS.F ht⟩) hS.2.2 dX8_composeAll_62
        · have hE := hE.trans (if_neg c2)
          have hp := pc_bn hp c2
          refine lv_aload_n hx hb dX8_composeAll_31 rfl (lv_at hl 0 rfl) ?_
          refine lv_iload_n hx hb dX8_composeAll_32 rfl (lv_at hl 2 rfl) ?_
          obtain ⟨hn3, hp⟩ := hp
          refine k_VWi (As := [.int x2_1]) (rest := []) (q := 48) ⟨hx, hb, hml, hown, hts⟩ hKN hP hS (m_X8_composesAt l D cI cB ad hA fu V1 x2_1 hn3) (cwV 1 hts gX8_composeAll_X8_composesAt rfl rfl rfl (by decide +kernel) ⟨(Nat.le_of_ble_eq_true rfl), (Nat.le_of_ble_eq_true rfl)⟩) (c_preV hP hKN (q := 48) (ci := 6) (fs := [.ref (ad 49), .ref (ad 50), .ref (ad 51), .int ((V1 48) 0), .ref (ad 52), .int ((V1 48) 1), .ref (ad 53), .int ((V1 48) 2), .int ((V1 48) 3), .int ((V1 48) 4), .int ((V1 48) 5), .int ((V1 48) 6), .int ((V1 48) 7)]) (by decide) (ce_md ad cI cB (V1 48)) rfl rfl) rfl hl.1 rfl (Nat.le_of_ble_eq_true rfl) dX8_composeAll_33 ⟨Nat.zero_le _, Nat.zero_le _⟩ (fun H locs hP hS => ?_)
          refine lv_if_eq (tgt := 51) hx hb dX8_composeAll_36 (by decide) (fun c3 => ?_) (fun c3 => ?_)
          · have hE := hE.trans (if_pos c3)
            have hp := pc_br hp c3
            refine lv_iinc (v := (x2_1 + 1)) (lv' := [(2, .int (x2_1 + 1)), (0, .ref (ad 48)), (1, .int x1_1)]) hx hb dX8_composeAll_51 hl (k := 2) rfl (by rfl) (by decide) rfl (fun ls hl => ?_)
            refine lv_goto (tgt := 21) hx hb dX8_composeAll_54 (by decide) ?_
            exact ih1 ((f_X8_composesAt fu V1 x2_1).2) x1_1 (x2_1 + 1) hE hp H locs hP hS ls (lv_sub hl [1, 2, 0] rfl)
          · have hE := hE.trans (if_neg c3)
            have hp := pc_bn hp c3
            refine lv_aload_n hx hb dX8_composeAll_39 rfl (lv_at hl 0 rfl) ?_
            refine lv_iload_n hx hb dX8_composeAll_40 rfl (lv_at hl 2 rfl) ?_
            refine lv_aload_n hx hb dX8_composeAll_41 rfl (lv_at hl 0 rfl) ?_
            refine x_get (ci := 6) (fs := [.ref (ad 49), .ref (ad 50), .ref (ad 51), .int ((((f_X8_composesAt fu V1 x2_1).2) 48) 0), .ref (ad 52), .int ((((f_X8_composesAt fu V1 x2_1).2) 48) 1), .ref (ad 53), .int ((((f_X8_composesAt fu V1 x2_1).2) 48) 2), .int ((((f_X8_composesAt fu V1 x2_1).2) 48) 3), .int ((((f_X8_composesAt fu V1 x2_1).2) 48) 4), .int ((((f_X8_composesAt fu V1 x2_1).2) 48) 5), .int ((((f_X8_composesAt fu V1 x2_1).2) 48) 6), .int ((((f_X8_composesAt fu V1 x2_1).2) 48) 7)]) (q := 48) (v := .int (((f_X8_composesAt fu V1 x2_1).2) 48 3)) (N := 13) hx hb hts (fun _ h => List.mem_cons_of_mem _ (List.mem_append_right _ h)) hown hK hP (by decide) (ce_md ad cI cB (((f_X8_composesAt fu V1 x2_1).2) 48)) rfl 8 (by decide) (hts (.fieldLink RX8 39 "TurnedBoardsModel" "composedSign" "I") (List.mem_of_getElem? (i := 2) rfl)) rfl rfl dX8_composeAll_42 ?_
            obtain ⟨hn4, hp⟩ := hp
            refine k_VWv (As := [.int x2_1, .int (((f_X8_composesAt fu V1 x2_1).2) 48 3)]) (rest := []) (q := 48) ⟨hx, hb, hml, hown, hts⟩ hKN hP hS (m_X8_lays l D cI cB ad hA ((f_X8_composesAt fu V1 x2_1).2) x2_1 (((f_X8_composesAt fu V1 x2_1).2) 48 3) hn4) (cwV 2 hts gX8_composeAll_X8_lays rfl rfl rfl (by decide +kernel) ⟨(Nat.le_of_ble_eq_true rfl), (Nat.le_of_ble_eq_true rfl)⟩) (c_preV hP hKN (q := 48) (ci := 6) (fs := [.ref (ad 49), .ref (ad 50), .ref (ad 51), .int ((((f_X8_composesAt fu V1 x2_1).2) 48) 0), .ref (ad 52), .int ((((f_X8_composesAt fu V1 x2_1).2) 48) 1), .ref (ad 53), .int ((((f_X8_composesAt fu V1 x2_1).2) 48) 2), .int ((((f_X8_composesAt fu V1 x2_1).2) 48) 3), .int ((((f_X8_composesAt fu V1 x2_1).2) 48) 4), .int ((((f_X8_composesAt fu V1 x2_1).2) 48) 5), .int ((((f_X8_composesAt fu V1 x2_1).2) 48) 6), .int ((((f_X8_composesAt fu V1 x2_1).2) 48) 7)]) (by decide) (ce_md ad cI cB (((f_X8_composesAt fu V1 x2_1).2) 48)) rfl rfl) rfl hl.1 rfl (Nat.le_of_ble_eq_true rfl) dX8_composeAll_45 ⟨Nat.zero_le _, Nat.zero_le _⟩ (fun H locs hP hS => ?_)
            refine lv_iinc (v := (x1_1 + 1)) (lv' := [(1, .int (x1_1 + 1)), (0, .ref (ad 48)), (2, .int x2_1)]) hx hb dX8_composeAll_48 hl (k := 1) rfl (by rfl) (by decide) rfl (fun ls hl => ?_)
            refine lv_iinc (v := (x2_1 + 1)) (lv' := [(2, .int (x2_1 + 1)), (1, .int (x1_1 + 1)), (0, .ref (ad 48))]) hx hb dX8_composeAll_51 hl (k := 2) rfl (by rfl) (by decide) rfl (fun ls hl => ?_)
            refine lv_goto (tgt := 21) hx hb dX8_composeAll_54 (by decide) ?_
            exact ih1 (f_X8_lays ((f_X8_composesAt fu V1 x2_1).2) x2_1 (((f_X8_composesAt fu V1 x2_1).2) 48 3)) (x1_1 + 1) (x2_1 + 1) hE hp H locs hP hS ls (lv_sub hl [2, 1, 0] rfl)
    exact L1 fu (f_X8_begins fu V) 0 0 hE hp _ _ hP hS _ (lv_sub hl [2, 1, 0] rfl)
  · have hE := hE.trans (if_pos c1)
    refine lv_sipush (v := (-1002)) hx hb dX8_composeAll_13 (by decide) ?_
    exact W.iret (v := (-1002)) hx hb hr (fun t ht hW => ⟨⟨(-1002), (f_X8_begins fu V), rfl, ⟨(congrArg Prod.fst hE).symm, (congrArg Prod.snd hE).symm⟩, by dsimp only; rw [ht]; exact hP⟩, hS.F ht⟩) hS.2.2 dX8_composeAll_16
def v_X8_paint_1 (fu : Nat) (V : VT) (p1 : Int32) : VT := (upV (f_X8_begins fu V) 49 ((17 + (2 * p1)) + 1).toNatClampNeg (((f_X8_begins fu V) 49 ((17 + (2 * p1)) + 1).toNatClampNeg) + 1))
def f_X8_paint (fu : Nat) (V : VT) (p1 : Int32) : Int32 × VT := (if (f_X8_isPlace (f_X8_begins fu V) p1) = 0 then ((-1001), (f_X8_begins fu V)) else (if (f_X8_coats (f_X8_begins fu V) p1) = 9 then ((-1003), (f_X8_begins fu V)) else ((f_X8_acted fu (v_X8_paint_1 fu V p1) (f_X8_coats (v_X8_paint_1 fu V p1) p1)).1, (f_X8_acted fu (v_X8_paint_1 fu V p1) (f_X8_coats (v_X8_paint_1 fu V p1) p1)).2)))
def p_X8_paint (fu : Nat) (V : VT) (p1 : Int32) : Prop := ((p_X8_begins fu V ) ∧ ((p_X8_isPlace (f_X8_begins fu V) p1) ∧ (((f_X8_isPlace (f_X8_begins fu V) p1) = 0 → True) ∧ (¬ ((f_X8_isPlace (f_X8_begins fu V) p1) = 0) → ((p_X8_coats (f_X8_begins fu V) p1) ∧ (((f_X8_coats (f_X8_begins fu V) p1) = 9 → True) ∧ (¬ ((f_X8_coats (f_X8_begins fu V) p1) = 9) → ((vp_in ((17 + (2 * p1)) + 1) 49) ∧ ((vp_in ((17 + (2 * p1)) + 1) 49) ∧ ((p_X8_coats (v_X8_paint_1 fu V p1) p1) ∧ (p_X8_acted fu (v_X8_paint_1 fu V p1) (f_X8_coats (v_X8_paint_1 fu V p1) p1))))))))))))
set_option maxHeartbeats 4000000 in
set_option maxRecDepth 100000 in
theorem m_X8_paint (l : Launch) (D : va_G) (cI cB : ClassId) (ad : Nat → Nat) {A : Nat → Prop} (hA : adOk ad A) (fu : Nat) (V : VT) (p1 : Int32)  (hp : p_X8_paint fu V p1) : Met l yX8_paint wsX8_paint ({ frames := 2, cells := 0, slots := 0, locals := 43 }) (cP D cI cB ad V [.ref (ad 48), .int p1]) (cWi D cI cB ad A (f_X8_paint fu V p1)) 0 0 A := by
  refine Met.ofW (cc := cX8_paint) (maxL := 2) (ret := (some .int)) (by decide +kernel) rfl ?_
  intro p e s m args below meth c s₁ B hml hv
  obtain ⟨rfl, hP, hKN⟩ := hv
  have hK := hKN.1
  have hx := B.exec
  have hb := B.bytes
  have hr := B.returns
  have hts := atoms_spec (ws := wsX8_paint) B.pre
  have hown : s.vm.findClass RX8 = some m.cls := findClass_of_methodNamed B.named
  have hlocks := B.notSynchronized
  have hS : va_S A s.heap s.heap [] := va_S.rf
  have hl := lv_entry ([.ref (ad 48), .int p1]) (n := 2) (Nat.le_of_ble_eq_true rfl)
  rw [lg_entry_eq]
  generalize (lg_sl ([.ref (ad 48), .int p1]) ++ List.replicate (2 - (lg_sl ([.ref (ad 48), .int p1])).length) Slot.unset).toArray = ls at hl ⊢
  have hl : lv_has ls 2 [(0, .ref (ad 48)), (1, .int p1)] := hl
  have hE : f_X8_paint fu V p1 = (if (f_X8_isPlace (f_X8_begins fu V) p1) = 0 then ((-1001), (f_X8_begins fu V)) else (if (f_X8_coats (f_X8_begins fu V) p1) = 9 then ((-1003), (f_X8_begins fu V)) else ((f_X8_acted fu (v_X8_paint_1 fu V p1) (f_X8_coats (v_X8_paint_1 fu V p1) p1)).1, (f_X8_acted fu (v_X8_paint_1 fu V p1) (f_X8_coats (v_X8_paint_1 fu V p1) p1)).2))) := rfl
  refine lv_aload_n hx hb dX8_paint_0 rfl (lv_at hl 0 rfl) ?_
  obtain ⟨hn1, hp⟩ := hp
  refine k_VWv (As := []) (rest := []) (q := 48) ⟨hx, hb, hml, hown, hts⟩ hKN hP hS (m_X8_begins l D cI cB ad hA fu V hn1) (cwV 0 hts gX8_paint_X8_begins rfl rfl rfl (by decide +kernel) ⟨(Nat.le_of_ble_eq_true rfl), (Nat.le_of_ble_eq_true rfl)⟩) (c_preV hP hKN (q := 48) (ci := 6) (fs := [.ref (ad 49), .ref (ad 50), .ref (ad 51), .int ((V 48) 0), .ref (ad 52), .int ((V 48) 1), .ref (ad 53), .int ((V 48) 2), .int ((V 48) 3), .int ((V 48) 4), .int ((V 48) 5), .int ((V 48) 6), .int ((V 48) 7)]) (by decide) (ce_md ad cI cB (V 48)) rfl rfl) rfl hl.1 rfl (Nat.le_of_ble_eq_true rfl) dX8_paint_1 ⟨Nat.zero_le _, Nat.zero_le _⟩ (fun H locs hP hS => ?_)
  refine lv_aload_n hx hb dX8_paint_4 rfl (lv_at hl 0 rfl) ?_
  refine lv_iload_n hx hb dX8_paint_5 rfl (lv_at hl 1 rfl) ?_
  obtain ⟨hn2, hp⟩ := hp
  refine k_VR (As := [.int p1]) (rest := []) (q := 48) ⟨hx, hb, hml, hown, hts⟩ hKN hP hS (m_X8_isPlace l D cI cB ad (f_X8_begins fu V) p1 hn2) (cwV 1 hts gX8_paint_X8_isPlace rfl rfl rfl (by decide +kernel) ⟨(Nat.le_of_ble_eq_true rfl), (Nat.le_of_ble_eq_true rfl)⟩) (c_preV hP hKN (q := 48) (ci := 6) (fs := [.ref (ad 49), .ref (ad 50), .ref (ad 51), .int (((f_X8_begins fu V) 48) 0), .ref (ad 52), .int (((f_X8_begins fu V) 48) 1), .ref (ad 53), .int (((f_X8_begins fu V) 48) 2), .int (((f_X8_begins fu V) 48) 3), .int (((f_X8_begins fu V) 48) 4), .int (((f_X8_begins fu V) 48) 5), .int (((f_X8_begins fu V) 48) 6), .int (((f_X8_begins fu V) 48) 7)]) (by decide) (ce_md ad cI cB ((f_X8_begins fu V) 48)) rfl rfl) rfl hl.1 rfl (Nat.le_of_ble_eq_true rfl) dX8_paint_6 ⟨Nat.zero_le _, Nat.zero_le _⟩ (fun H locs hP hS => ?_)
  refine lv_if_ne (tgt := 16) hx hb dX8_paint_9 (by decide) (fun c1 => ?_) (fun c1 => ?_)
  · have hE := hE.trans (if_neg c1)
    have hp := pc_bn hp c1
    refine lv_aload_n hx hb dX8_paint_16 rfl (lv_at hl 0 rfl) ?_
    refine lv_iload_n hx hb dX8_paint_17 rfl (lv_at hl 1 rfl) ?_
    obtain ⟨hn3, hp⟩ := hp
    refine k_VR (As := [.int p1]) (rest := []) (q := 48) ⟨hx, hb, hml, hown, hts⟩ hKN hP hS (m_X8_coats l D cI cB ad (f_X8_begins fu V) p1 hn3) (cwV 1 hts gX8_paint_X8_coats rfl rfl rfl (by decide +kernel) ⟨(Nat.le_of_ble_eq_true rfl), (Nat.le_of_ble_eq_true rfl)⟩) (c_preV hP hKN (q := 48) (ci := 6) (fs := [.ref (ad 49), .ref (ad 50), .ref (ad 51), .int (((f_X8_begins fu V) 48) 0), .ref (ad 52), .int (((f_X8_begins fu V) 48) 1), .ref (ad 53), .int (((f_X8_begins fu V) 48) 2), .int (((f_X8_begins fu V) 48) 3), .int (((f_X8_begins fu V) 48) 4), .int (((f_X8_begins fu V) 48) 5), .int (((f_X8_begins fu V) 48) 6), .int (((f_X8_begins fu V) 48) 7)]) (by decide) (ce_md ad cI cB ((f_X8_begins fu V) 48)) rfl rfl) rfl hl.1 rfl (Nat.le_of_ble_eq_true rfl) dX8_paint_18 ⟨Nat.zero_le _, Nat.zero_le _⟩ (fun H locs hP hS => ?_)
    refine lv_bipush (v := 9) hx hb dX8_paint_21 (by decide) ?_
    refine lv_icmp_ne (tgt := 30) hx hb dX8_paint_23 (by decide) (fun c2 => ?_) (fun c2 => ?_)
    · have hE := hE.trans (if_neg c2)
      have hp := pc_bn hp c2
      refine lv_aload_n hx hb dX8_paint_30 rfl (lv_at hl 0 rfl) ?_
      refine x_get (ci := 6) (fs := [.ref (ad 49), .ref (ad 50), .ref (ad 51), .int (((f_X8_begins fu V) 48) 0), .ref (ad 52), .int (((f_X8_begins fu V) 48) 1), .ref (ad 53), .int (((f_X8_begins fu V) 48) 2), .int (((f_X8_begins fu V) 48) 3), .int (((f_X8_begins fu V) 48) 4), .int (((f_X8_begins fu V) 48) 5), .int (((f_X8_begins fu V) 48) 6), .int (((f_X8_begins fu V) 48) 7)]) (q := 48) (v := .ref (ad 49)) (N := 13) hx hb hts (fun _ h => List.mem_cons_of_mem _ (List.mem_append_right _ h)) hown hK hP (by decide) (ce_md ad cI cB ((f_X8_begins fu V) 48)) rfl 0 (by decide) (hts (.fieldLink RX8 7 "TurnedBoardsModel" "s" "[I") (List.mem_of_getElem? (i := 1) rfl)) rfl rfl dX8_paint_31 ?_
      refine lv_bipush (v := 17) hx hb dX8_paint_34 (by decide) ?_
      refine lv_iconst (v := 2) hx hb dX8_paint_36 (by decide) ?_
      refine lv_iload_n hx hb dX8_paint_37 rfl (lv_at hl 1 rfl) ?_
      refine lv_imul hx hb dX8_paint_38 ?_
      refine lv_iadd hx hb dX8_paint_39 ?_
      refine lv_iconst (v := 1) hx hb dX8_paint_40 (by decide) ?_
      refine lv_iadd hx hb dX8_paint_41 ?_
      refine lv_dup2_11 hx hb dX8_paint_42 rfl rfl ?_
      obtain ⟨hn4, hp⟩ := hp
      refine x_iald hx hb hK hP ⟨by decide, fun _ => rfl, by decide⟩ hn4 dX8_paint_43 ?_
      refine lv_iconst (v := 1) hx hb dX8_paint_44 (by decide) ?_
      refine lv_iadd hx hb dX8_paint_45 ?_
      obtain ⟨hn5, hp⟩ := hp
      refine x_iast hx hb hK hP hA hS ⟨by decide, fun _ => rfl, by decide⟩ hn5 dX8_paint_46 (fun H locs hP hS => ?_)
      have hP : wP D cI cB ad (v_X8_paint_1 fu V p1) H := hP
      refine lv_aload_n hx hb dX8_paint_47 rfl (lv_at hl 0 rfl) ?_
      refine lv_aload_n hx hb dX8_paint_48 rfl (lv_at hl 0 rfl) ?_
      refine lv_iload_n hx hb dX8_paint_49 rfl (lv_at hl 1 rfl) ?_
      obtain ⟨hn6, hp⟩ := hp
      refine k_VR (As := [.int p1]) (rest := [.ref (ad 48)]) (q := 48) ⟨hx, hb, hml, hown, hts⟩ hKN hP hS (m_X8_coats l D cI cB ad (v_X8_paint_1 fu V p1) p1 hn6) (cwV 1 hts gX8_paint_X8_coats rfl rfl rfl (by decide +kernel) ⟨(Nat.le_of_ble_eq_true rfl), (Nat.le_of_ble_eq_true rfl)⟩) (c_preV hP hKN (q := 48) (ci := 6) (fs := [.ref (ad 49), .ref (ad 50), .ref (ad 51), .int (((v_X8_paint_1 fu V p1) 48) 0), .ref (ad 52), .int (((v_X8_paint_1 fu V p1) 48) 1), .ref (ad 53), .int (((v_X8_paint_1 fu V p1) 48) 2), .int (((v_X8_paint_1 fu V p1) 48) 3), .int (((v_X8_paint_1 fu V p1) 48) 4), .int (((v_X8_paint_1 fu V p1) 48) 5), .int (((v_X8_paint_1 fu V p1) 48) 6), .int (((v_X8_paint_1 fu V p1) 48) 7)]) (by decide) (ce_md ad cI cB ((v_X8_paint_1 fu V p1) 48)) rfl rfl) rfl hl.1 rfl (Nat.le_of_ble_eq_true rfl) dX8_paint_50 ⟨Nat.zero_le _, Nat.zero_le _⟩ (fun H locs hP hS => ?_)
      have hn7 := hp
      refine k_VWi (As := [.int (f_X8_coats (v_X8_paint_1 fu V p1) p1)]) (rest := []) (q := 48) ⟨hx, hb, hml, hown, hts⟩ hKN hP hS (m_X8_acted l D cI cB ad hA fu (v_X8_paint_1 fu V p1) (f_X8_coats (v_X8_paint_1 fu V p1) p1) hn7) (cwV 1 hts gX8_paint_X8_acted rfl rfl rfl (by decide +kernel) ⟨(Nat.le_of_ble_eq_true rfl), (Nat.le_of_ble_eq_true rfl)⟩) (c_preV hP hKN (q := 48) (ci := 6) (fs := [.ref (ad 49), .ref (ad 50), .ref (ad 51), .int (((v_X8_paint_1 fu V p1) 48) 0), .ref (ad 52), .int (((v_X8_paint_1 fu V p1) 48) 1), .ref (ad 53), .int (((v_X8_paint_1 fu V p1) 48) 2), .int (((v_X8_paint_1 fu V p1) 48) 3), .int (((v_X8_paint_1 fu V p1) 48) 4), .int (((v_X8_paint_1 fu V p1) 48) 5), .int (((v_X8_paint_1 fu V p1) 48) 6), .int (((v_X8_paint_1 fu V p1) 48) 7)]) (by decide) (ce_md ad cI cB ((v_X8_paint_1 fu V p1) 48)) rfl rfl) rfl hl.1 rfl (Nat.le_of_ble_eq_true rfl) dX8_paint_53 ⟨Nat.zero_le _, Nat.zero_le _⟩ (fun H locs hP hS => ?_)
      exact W.iret (v := (f_X8_acted fu (v_X8_paint_1 fu V p1) (f_X8_coats (v_X8_paint_1 fu V p1) p1)).1) hx hb hr (fun t ht hW => ⟨⟨(f_X8_acted fu (v_X8_paint_1 fu V p1) (f_X8_coats (v_X8_paint_1 fu V p1) p1)).1, (f_X8_acted fu (v_X8_paint_1 fu V p1) (f_X8_coats (v_X8_paint_1 fu V p1) p1)).2, rfl, ⟨(congrArg Prod.fst hE).symm, (congrArg Prod.snd hE).symm⟩, by dsimp only; rw [ht]; exact hP⟩, hS.F ht⟩) hS.2.2 dX8_paint_56
    · have hE := hE.trans (if_pos c2)
      refine lv_sipush (v := (-1003)) hx hb dX8_paint_26 (by decide) ?_
      exact W.iret (v := (-1003)) hx hb hr (fun t ht hW => ⟨⟨(-1003), (f_X8_begins fu V), rfl, ⟨(congrArg Prod.fst hE).symm, (congrArg Prod.snd hE).symm⟩, by dsimp only; rw [ht]; exact hP⟩, hS.F ht⟩) hS.2.2 dX8_paint_29
  · have hE := hE.trans (if_pos c1)
    refine lv_sipush (v := (-1001)) hx hb dX8_paint_12 (by decide) ?_
    exact W.iret (v := (-1001)) hx hb hr (fun t ht hW => ⟨⟨(-1001), (f_X8_begins fu V), rfl, ⟨(congrArg Prod.fst hE).symm, (congrArg Prod.snd hE).symm⟩, by dsimp only; rw [ht]; exact hP⟩, hS.F ht⟩) hS.2.2 dX8_paint_15
def v_X8_gust_1 (fu : Nat) (V : VT) : VT := (upV (upV (f_X8_begins fu V) 49 (1 : Int32).toNatClampNeg (1 - ((f_X8_begins fu V) 49 (1 : Int32).toNatClampNeg))) 49 (4 : Int32).toNatClampNeg (((upV (f_X8_begins fu V) 49 (1 : Int32).toNatClampNeg (1 - ((f_X8_begins fu V) 49 (1 : Int32).toNatClampNeg))) 49 (4 : Int32).toNatClampNeg) + 1))
def v_X8_gust_2 (fu : Nat) (V : VT) : VT := (f_X8_acted fu (upV (v_X8_gust_1 fu V) 49 (2 : Int32).toNatClampNeg (((v_X8_gust_1 fu V) 49 (2 : Int32).toNatClampNeg) - 1)) 1).2
def f_X8_gust (fu : Nat) (V : VT) (p1 : Int32) : Int32 × VT := (if (f_X8_in (f_X8_begins fu V) p1 1 99) = 0 then ((-1001), (f_X8_begins fu V)) else (if ((f_X8_begins fu V) 49 (2 : Int32).toNatClampNeg) ≤ p1 then (if ((v_X8_gust_1 fu V) 49 (2 : Int32).toNatClampNeg) ≤ 1 then ((f_X8_acted fu (upV (v_X8_gust_1 fu V) 49 (2 : Int32).toNatClampNeg 1) 1).1, (f_X8_acted fu (upV (v_X8_gust_1 fu V) 49 (2 : Int32).toNatClampNeg 1) 1).2) else ((f_X8_acted fu (upV (v_X8_gust_1 fu V) 49 (2 : Int32).toNatClampNeg (((v_X8_gust_1 fu V) 49 (2 : Int32).toNatClampNeg) - 1)) 1).1, (v_X8_gust_2 fu V))) else ((f_X8_acted fu (f_X8_begins fu V) 0).1, (f_X8_acted fu (f_X8_begins fu V) 0).2)))
def p_X8_gust (fu : Nat) (V : VT) (p1 : Int32) : Prop := ((p_X8_begins fu V ) ∧ (((f_X8_in (f_X8_begins fu V) p1 1 99) = 0 → True) ∧ (¬ ((f_X8_in (f_X8_begins fu V) p1 1 99) = 0) → ((((f_X8_begins fu V) 49 (2 : Int32).toNatClampNeg) ≤ p1 → ((((v_X8_gust_1 fu V) 49 (2 : Int32).toNatClampNeg) ≤ 1 → (p_X8_acted fu (upV (v_X8_gust_1 fu V) 49 (2 : Int32).toNatClampNeg 1) 1)) ∧ (¬ (((v_X8_gust_1 fu V) 49 (2 : Int32).toNatClampNeg) ≤ 1) → (p_X8_acted fu (upV (v_X8_gust_1 fu V) 49 (2 : Int32).toNatClampNeg (((v_X8_gust_1 fu V) 49 (2 : Int32).toNatClampNeg) - 1)) 1)))) ∧ (¬ (((f_X8_begins fu V) 49 (2 : Int32).toNatClampNeg) ≤ p1) → (p_X8_acted fu (f_X8_begins fu V) 0))))))
set_option maxHeartbeats 4000000 in
set_option maxRecDepth 100000 in
theorem m_X8_gust (l : Launch) (D : va_G) (cI cB : ClassId) (ad : Nat → Nat) {A : Nat → Prop} (hA : adOk ad A) (fu : Nat) (V : VT) (p1 : Int32)  (hp : p_X8_gust fu V p1) : Met l yX8_gust wsX8_gust ({ frames := 1, cells := 0, slots := 0, locals := 22 }) (cP D cI cB ad V [.ref (ad 48), .int p1]) (cWi D cI cB ad A (f_X8_gust fu V p1)) 0 0 A := by
  refine Met.ofW (cc := cX8_gust) (maxL := 2) (ret := (some .int)) (by decide +kernel) rfl ?_
  intro p e s m args below meth c s₁ B hml hv
  obtain ⟨rfl, hP, hKN⟩ := hv
  have hK := hKN.1
  have hx := B.exec
  have hb := B.bytes
  have hr := B.returns
  have hts := atoms_spec (ws := wsX8_gust) B.pre
  have hown : s.vm.findClass RX8 = some m.cls := findClass_of_methodNamed B.named
  have hlocks := B.notSynchronized
  have hS : va_S A s.heap s.heap [] := va_S.rf
  have hl := lv_entry ([.ref (ad 48), .int p1]) (n := 2) (Nat.le_of_ble_eq_true rfl)
  rw [lg_entry_eq]
  generalize (lg_sl ([.ref (ad 48), .int p1]) ++ List.replicate (2 - (lg_sl ([.ref (ad 48), .int p1])).length) Slot.unset).toArray = ls at hl ⊢
  have hl : lv_has ls 2 [(0, .ref (ad 48)), (1, .int p1)] := hl
  have hE : f_X8_gust fu V p1 = (if (f_X8_in (f_X8_begins fu V) p1 1 99) = 0 then ((-1001), (f_X8_begins fu V)) else (if ((f_X8_begins fu V) 49 (2 : Int32).toNatClampNeg) ≤ p1 then (if ((v_X8_gust_1 fu V) 49 (2 : Int32).toNatClampNeg) ≤ 1 then ((f_X8_acted fu (upV (v_X8_gust_1 fu V) 49 (2 : Int32).toNatClampNeg 1) 1).1, (f_X8_acted fu (upV (v_X8_gust_1 fu V) 49 (2 : Int32).toNatClampNeg 1) 1).2) else ((f_X8_acted fu (upV (v_X8_gust_1 fu V) 49 (2 : Int32).toNatClampNeg (((v_X8_gust_1 fu V) 49 (2 : Int32).toNatClampNeg) - 1)) 1).1, (v_X8_gust_2 fu V))) else ((f_X8_acted fu (f_X8_begins fu V) 0).1, (f_X8_acted fu (f_X8_begins fu V) 0).2))) := rfl
  refine lv_aload_n hx hb dX8_gust_0 rfl (lv_at hl 0 rfl) ?_
  obtain ⟨hn1, hp⟩ := hp
  refine k_VWv (As := []) (rest := []) (q := 48) ⟨hx, hb, hml, hown, hts⟩ hKN hP hS (m_X8_begins l D cI cB ad hA fu V hn1) (cwV 0 hts gX8_gust_X8_begins rfl rfl rfl (by decide +kernel) ⟨(Nat.le_of_ble_eq_true rfl), (Nat.le_of_ble_eq_true rfl)⟩) (c_preV hP hKN (q := 48) (ci := 6) (fs := [.ref (ad 49), .ref (ad 50), .ref (ad 51), .int ((V 48) 0), .ref (ad 52), .int ((V 48) 1), .ref (ad 53), .int ((V 48) 2), .int ((V 48) 3), .int ((V 48) 4), .int ((V 48) 5), .int ((V 48) 6), .int ((V 48) 7)]) (by decide) (ce_md ad cI cB (V 48)) rfl rfl) rfl hl.1 rfl (Nat.le_of_ble_eq_true rfl) dX8_gust_1 ⟨Nat.zero_le _, Nat.zero_le _⟩ (fun H locs hP hS => ?_)
  refine lv_iload_n hx hb dX8_gust_4 rfl (lv_at hl 1 rfl) ?_
  refine lv_iconst (v := 1) hx hb dX8_gust_5 (by decide) ?_
  refine lv_bipush (v := 99) hx hb dX8_gust_6 (by decide) ?_
  refine k_SR (As := [.int p1, .int 1, .int 99]) (rest := []) ⟨hx, hb, hml, hown, hts⟩ hKN hP hS (m_X8_in l D cI cB ad (f_X8_begins fu V) p1 1 99) (va_cwS 3 hts gX8_gust_X8_in rfl rfl rfl (by decide +kernel) ⟨(Nat.le_of_ble_eq_true rfl), (Nat.le_of_ble_eq_true rfl)⟩) rfl hl.1 rfl (Nat.le_of_ble_eq_true rfl) dX8_gust_8 ⟨Nat.zero_le _, Nat.zero_le _⟩ (fun H locs hP hS => ?_)
  refine lv_if_ne (tgt := 18) hx hb dX8_gust_11 (by decide) (fun c1 => ?_) (fun c1 => ?_)
  · have hE := hE.trans (if_neg c1)
    have hp := pc_bn hp c1
    refine lv_iload_n hx hb dX8_gust_18 rfl (lv_at hl 1 rfl) ?_
    refine lv_aload_n hx hb dX8_gust_19 rfl (lv_at hl 0 rfl) ?_
    refine x_get (ci := 6) (fs := [.ref (ad 49), .ref (ad 50), .ref (ad 51), .int (((f_X8_begins fu V) 48) 0), .ref (ad 52), .int (((f_X8_begins fu V) 48) 1), .ref (ad 53), .int (((f_X8_begins fu V) 48) 2), .int (((f_X8_begins fu V) 48) 3), .int (((f_X8_begins fu V) 48) 4), .int (((f_X8_begins fu V) 48) 5), .int (((f_X8_begins fu V) 48) 6), .int (((f_X8_begins fu V) 48) 7)]) (q := 48) (v := .ref (ad 49)) (N := 13) hx hb hts (fun _ h => List.mem_cons_of_mem _ (List.mem_append_right _ h)) hown hK hP (by decide) (ce_md ad cI cB ((f_X8_begins fu V) 48)) rfl 0 (by decide) (hts (.fieldLink RX8 7 "TurnedBoardsModel" "s" "[I") (List.mem_of_getElem? (i := 1) rfl)) rfl rfl dX8_gust_20 ?_
    refine lv_iconst (v := 2) hx hb dX8_gust_23 (by decide) ?_
    refine x_iald hx hb hK hP ⟨by decide, fun _ => rfl, by decide⟩ (vp_lit (i := 2) (n := 49) (by decide) (by decide)) dX8_gust_24 ?_
    refine lv_icmp_ge (tgt := 34) hx hb dX8_gust_25 (by decide) (fun c2 => ?_) (fun c2 => ?_)
    · have hE := hE.trans (if_pos c2)
      have hp := pc_br hp c2
      refine lv_aload_n hx hb dX8_gust_34 rfl (lv_at hl 0 rfl) ?_
      refine x_get (ci := 6) (fs := [.ref (ad 49), .ref (ad 50), .ref (ad 51), .int (((f_X8_begins fu V) 48) 0), .ref (ad 52), .int (((f_X8_begins fu V) 48) 1), .ref (ad 53), .int (((f_X8_begins fu V) 48) 2), .int (((f_X8_begins fu V) 48) 3), .int (((f_X8_begins fu V) 48) 4), .int (((f_X8_begins fu V) 48) 5), .int (((f_X8_begins fu V) 48) 6), .int (((f_X8_begins fu V) 48) 7)]) (q := 48) (v := .ref (ad 49)) (N := 13) hx hb hts (fun _ h => List.mem_cons_of_mem _ (List.mem_append_right _ h)) hown hK hP (by decide) (ce_md ad cI cB ((f_X8_begins fu V) 48)) rfl 0 (by decide) (hts (.fieldLink RX8 7 "TurnedBoardsModel" "s" "[I") (List.mem_of_getElem? (i := 1) rfl)) rfl rfl dX8_gust_35 ?_
      refine lv_iconst (v := 1) hx hb dX8_gust_38 (by decide) ?_
      refine lv_iconst (v := 1) hx hb dX8_gust_39 (by decide) ?_
      refine lv_aload_n hx hb dX8_gust_40 rfl (lv_at hl 0 rfl) ?_
      refine x_get (ci := 6) (fs := [.ref (ad 49), .ref (ad 50), .ref (ad 51), .int (((f_X8_begins fu V) 48) 0), .ref (ad 52), .int (((f_X8_begins fu V) 48) 1), .ref (ad 53), .int (((f_X8_begins fu V) 48) 2), .int (((f_X8_begins fu V) 48) 3), .int (((f_X8_begins fu V) 48) 4), .int (((f_X8_begins fu V) 48) 5), .int (((f_X8_begins fu V) 48) 6), .int (((f_X8_begins fu V) 48) 7)]) (q := 48) (v := .ref (ad 49)) (N := 13) hx hb hts (fun _ h => List.mem_cons_of_mem _ (List.mem_append_right _ h)) hown hK hP (by decide) (ce_md ad cI cB ((f_X8_begins fu V) 48)) rfl 0 (by decide) (hts (.fieldLink RX8 7 "TurnedBoardsModel" "s" "[I") (List.mem_of_getElem? (i := 1) rfl)) rfl rfl dX8_gust_41 ?_
      refine lv_iconst (v := 1) hx hb dX8_gust_44 (by decide) ?_
      refine x_iald hx hb hK hP ⟨by decide, fun _ => rfl, by decide⟩ (vp_lit (i := 1) (n := 49) (by decide) (by decide)) dX8_gust_45 ?_
      refine lv_isub hx hb dX8_gust_46 ?_
      refine x_iast hx hb hK hP hA hS ⟨by decide, fun _ => rfl, by decide⟩ (vp_lit (i := 1) (n := 49) (by decide) (by decide)) dX8_gust_47 (fun H locs hP hS => ?_)
      refine lv_aload_n hx hb dX8_gust_48 rfl (lv_at hl 0 rfl) ?_
      refine x_get (ci := 6) (fs := [.ref (ad 49), .ref (ad 50), .ref (ad 51), .int (((upV (f_X8_begins fu V) 49 (1 : Int32).toNatClampNeg (1 - ((f_X8_begins fu V) 49 (1 : Int32).toNatClampNeg))) 48) 0), .ref (ad 52), .int (((upV (f_X8_begins fu V) 49 (1 : Int32).toNatClampNeg (1 - ((f_X8_begins fu V) 49 (1 : Int32).toNatClampNeg))) 48) 1), .ref (ad 53), .int (((upV (f_X8_begins fu V) 49 (1 : Int32).toNatClampNeg (1 - ((f_X8_begins fu V) 49 (1 : Int32).toNatClampNeg))) 48) 2), .int (((upV (f_X8_begins fu V) 49 (1 : Int32).toNatClampNeg (1 - ((f_X8_begins fu V) 49 (1 : Int32).toNatClampNeg))) 48) 3), .int (((upV (f_X8_begins fu V) 49 (1 : Int32).toNatClampNeg (1 - ((f_X8_begins fu V) 49 (1 : Int32).toNatClampNeg))) 48) 4), .int (((upV (f_X8_begins fu V) 49 (1 : Int32).toNatClampNeg (1 - ((f_X8_begins fu V) 49 (1 : Int32).toNatClampNeg))) 48) 5), .int (((upV (f_X8_begins fu V) 49 (1 : Int32).toNatClampNeg (1 - ((f_X8_begins fu V) 49 (1 : Int32).toNatClampNeg))) 48) 6), .int (((upV (f_X8_begins fu V) 49 (1 : Int32).toNatClampNeg (1 - ((f_X8_begins fu V) 49 (1 : Int32).toNatClampNeg))) 48) 7)]) (q := 48) (v := .ref (ad 49)) (N := 13) hx hb hts (fun _ h => List.mem_cons_of_mem _ (List.mem_append_right _ h)) hown hK hP (by decide) (ce_md ad cI cB ((upV (f_X8_begins fu V) 49 (1 : Int32).toNatClampNeg (1 - ((f_X8_begins fu V) 49 (1 : Int32).toNatClampNeg))) 48)) rfl 0 (by decide) (hts (.fieldLink RX8 7 "TurnedBoardsModel" "s" "[I") (List.mem_of_getElem? (i := 1) rfl)) rfl rfl dX8_gust_49 ?_
      refine lv_iconst (v := 4) hx hb dX8_gust_52 (by decide) ?_
      refine lv_dup2_11 hx hb dX8_gust_53 rfl rfl ?_
      refine x_iald hx hb hK hP ⟨by decide, fun _ => rfl, by decide⟩ (vp_lit (i := 4) (n := 49) (by decide) (by decide)) dX8_gust_54 ?_
      refine lv_iconst (v := 1) hx hb dX8_gust_55 (by decide) ?_
      refine lv_iadd hx hb dX8_gust_56 ?_
      refine x_iast hx hb hK hP hA hS ⟨by decide, fun _ => rfl, by decide⟩ (vp_lit (i := 4) (n := 49) (by decide) (by decide)) dX8_gust_57 (fun H locs hP hS => ?_)
      have hP : wP D cI cB ad (v_X8_gust_1 fu V) H := hP
      refine lv_aload_n hx hb dX8_gust_58 rfl (lv_at hl 0 rfl) ?_
      refine x_get (ci := 6) (fs := [.ref (ad 49), .ref (ad 50), .ref (ad 51), .int (((v_X8_gust_1 fu V) 48) 0), .ref (ad 52), .int (((v_X8_gust_1 fu V) 48) 1), .ref (ad 53), .int (((v_X8_gust_1 fu V) 48) 2), .int (((v_X8_gust_1 fu V) 48) 3), .int (((v_X8_gust_1 fu V) 48) 4), .int (((v_X8_gust_1 fu V) 48) 5), .int (((v_X8_gust_1 fu V) 48) 6), .int (((v_X8_gust_1 fu V) 48) 7)]) (q := 48) (v := .ref (ad 49)) (N := 13) hx hb hts (fun _ h => List.mem_cons_of_mem _ (List.mem_append_right _ h)) hown hK hP (by decide) (ce_md ad cI cB ((v_X8_gust_1 fu V) 48)) rfl 0 (by decide) (hts (.fieldLink RX8 7 "TurnedBoardsModel" "s" "[I") (List.mem_of_getElem? (i := 1) rfl)) rfl rfl dX8_gust_59 ?_
      refine lv_iconst (v := 2) hx hb dX8_gust_62 (by decide) ?_
      refine lv_aload_n hx hb dX8_gust_63 rfl (lv_at hl 0 rfl) ?_
      refine x_get (ci := 6) (fs := [.ref (ad 49), .ref (ad 50), .ref (ad 51), .int (((v_X8_gust_1 fu V) 48) 0), .ref (ad 52), .int (((v_X8_gust_1 fu V) 48) 1), .ref (ad 53), .int (((v_X8_gust_1 fu V) 48) 2), .int (((v_X8_gust_1 fu V) 48) 3), .int (((v_X8_gust_1 fu V) 48) 4), .int (((v_X8_gust_1 fu V) 48) 5), .int (((v_X8_gust_1 fu V) 48) 6), .int (((v_X8_gust_1 fu V) 48) 7)]) (q := 48) (v := .ref (ad 49)) (N := 13) hx hb hts (fun _ h => List.mem_cons_of_mem _ (List.mem_append_right _ h)) hown hK hP (by decide) (ce_md ad cI cB ((v_X8_gust_1 fu V) 48)) rfl 0 (by decide) (hts (.fieldLink RX8 7 "TurnedBoardsModel" "s" "[I") (List.mem_of_getElem? (i := 1) rfl)) rfl rfl dX8_gust_64 ?_
      refine lv_iconst (v := 2) hx hb dX8_gust_67 (by decide) ?_
      refine x_iald hx hb hK hP ⟨by decide, fun _ => rfl, by decide⟩ (vp_lit (i := 2) (n := 49) (by decide) (by decide)) dX8_gust_68 ?_
      refine lv_iconst (v := 1) hx hb dX8_gust_69 (by decide) ?_
      refine lv_icmp_le (tgt := 84) hx hb dX8_gust_70 (by decide) (fun c3 => ?_) (fun c3 => ?_)
      · have hE := hE.trans (if_pos c3)
        have hp := pc_br hp c3
        refine lv_iconst (v := 1) hx hb dX8_gust_84 (by decide) ?_
        refine x_iast hx hb hK hP hA hS ⟨by decide, fun _ => rfl, by decide⟩ (vp_lit (i := 2) (n := 49) (by decide) (by decide)) dX8_gust_85 (fun H locs hP hS => ?_)
        refine lv_aload_n hx hb dX8_gust_86 rfl (lv_at hl 0 rfl) ?_
        refine lv_iconst (v := 1) hx hb dX8_gust_87 (by decide) ?_
        have hn2 := hp
        refine k_VWi (As := [.int 1]) (rest := []) (q := 48) ⟨hx, hb, hml, hown, hts⟩ hKN hP hS (m_X8_acted l D cI cB ad hA fu (upV (v_X8_gust_1 fu V) 49 (2 : Int32).toNatClampNeg 1) 1 hn2) (cwV 1 hts gX8_gust_X8_acted rfl rfl rfl (by decide +kernel) ⟨(Nat.le_of_ble_eq_true rfl), (Nat.le_of_ble_eq_true rfl)⟩) (c_preV hP hKN (q := 48) (ci := 6) (fs := [.ref (ad 49), .ref (ad 50), .ref (ad 51), .int (((upV (v_X8_gust_1 fu V) 49 (2 : Int32).toNatClampNeg 1) 48) 0), .ref (ad 52), .int (((upV (v_X8_gust_1 fu V) 49 (2 : Int32).toNatClampNeg 1) 48) 1), .ref (ad 53), .int (((upV (v_X8_gust_1 fu V) 49 (2 : Int32).toNatClampNeg 1) 48) 2), .int (((upV (v_X8_gust_1 fu V) 49 (2 : Int32).toNatClampNeg 1) 48) 3), .int (((upV (v_X8_gust_1 fu V) 49 (2 : Int32).toNatClampNeg 1) 48) 4), .int (((upV (v_X8_gust_1 fu V) 49 (2 : Int32).toNatClampNeg 1) 48) 5), .int (((upV (v_X8_gust_1 fu V) 49 (2 : Int32).toNatClampNeg 1) 48) 6), .int (((upV (v_X8_gust_1 fu V) 49 (2 : Int32).toNatClampNeg 1) 48) 7)]) (by decide) (ce_md ad cI cB ((upV (v_X8_gust_1 fu V) 49 (2 : Int32).toNatClampNeg 1) 48)) rfl rfl) rfl hl.1 rfl (Nat.le_of_ble_eq_true rfl) dX8_gust_88 ⟨Nat.zero_le _, Nat.zero_le _⟩ (fun H locs hP hS => ?_)
        exact W.iret (v := (f_X8_acted fu (upV (v_X8_gust_1 fu V) 49 (2 : Int32).toNatClampNeg 1) 1).1) hx hb hr (fun t ht hW => ⟨⟨(f_X8_acted fu (upV (v_X8_gust_1 fu V) 49 (2 : Int32).toNatClampNeg 1) 1).1, (f_X8_acted fu (upV (v_X8_gust_1 fu V) 49 (2 : Int32).toNatClampNeg 1) 1).2, rfl, ⟨(congrArg Prod.fst hE).symm, (congrArg Prod.snd hE).symm⟩, by dsimp only; rw [ht]; exact hP⟩, hS.F ht⟩) hS.2.2 dX8_gust_91
      · have hE := hE.trans (if_neg c3)
        have hp := pc_bn hp c3
        refine lv_aload_n hx hb dX8_gust_73 rfl (lv_at hl 0 rfl) ?_
        refine x_get (ci := 6) (fs := [.ref (ad 49), .ref (ad 50), .ref (ad 51), .int (((v_X8_gust_1 fu V) 48) 0), .ref (ad 52), .int (((v_X8_gust_1 fu V) 48) 1), .ref (ad 53), .int (((v_X8_gust_1 fu V) 48) 2), .int (((v_X8_gust_1 fu V) 48) 3), .int (((v_X8_gust_1 fu V) 48) 4), .int (((v_X8_gust_1 fu V) 48) 5), .int (((v_X8_gust_1 fu V) 48) 6), .int (((v_X8_gust_1 fu V) 48) 7)]) (q := 48) (v := .ref (ad 49)) (N := 13) hx hb hts (fun _ h => List.mem_cons_of_mem _ (List.mem_append_right _ h)) hown hK hP (by decide) (ce_md ad cI cB ((v_X8_gust_1 fu V) 48)) rfl 0 (by decide) (hts (.fieldLink RX8 7 "TurnedBoardsModel" "s" "[I") (List.mem_of_getElem? (i := 1) rfl)) rfl rfl dX8_gust_74 ?_
        refine lv_iconst (v := 2) hx hb dX8_gust_77 (by decide) ?_
        refine x_iald hx hb hK hP ⟨by decide, fun _ => rfl, by decide⟩ (vp_lit (i := 2) (n := 49) (by decide) (by decide)) dX8_gust_78 ?_
        refine lv_iconst (v := 1) hx hb dX8_gust_79 (by decide) ?_
        refine lv_isub hx hb dX8_gust_80 ?_
        refine lv_goto (tgt := 85) hx hb dX8_gust_81 (by decide) ?_
        refine x_iast hx hb hK hP hA hS ⟨by decide, fun _ => rfl, by decide⟩ (vp_lit (i := 2) (n := 49) (by decide) (by decide)) dX8_gust_85 (fun H locs hP hS => ?_)
        refine lv_aload_n hx hb dX8_gust_86 rfl (lv_at hl 0 rfl) ?_
        refine lv_iconst (v := 1) hx hb dX8_gust_87 (by decide) ?_
        have hn3 := hp
        refine k_VWi (As := [.int 1]) (rest := []) (q := 48) ⟨hx, hb, hml, hown, hts⟩ hKN hP hS (m_X8_acted l D cI cB ad hA fu (upV (v_X8_gust_1 fu V) 49 (2 : Int32).toNatClampNeg (((v_X8_gust_1 fu V) 49 (2 : Int32).toNatClampNeg) - 1)) 1 hn3) (cwV 1 hts gX8_gust_X8_acted rfl rfl rfl (by decide +kernel) ⟨(Nat.le_of_ble_eq_true rfl), (Nat.le_of_ble_eq_true rfl)⟩) (c_preV hP hKN (q := 48) (ci := 6) (fs := [.ref (ad 49), .ref (ad 50), .ref (ad 51), .int (((upV (v_X8_gust_1 fu V) 49 (2 : Int32).toNatClampNeg (((v_X8_gust_1 fu V) 49 (2 : Int32).toNatClampNeg) - 1)) 48) 0), .ref (ad 52), .int (((upV (v_X8_gust_1 fu V) 49 (2 : Int32).toNatClampNeg (((v_X8_gust_1 fu V) 49 (2 : Int32).toNatClampNeg) - 1)) 48) 1), .ref (ad 53), .int (((upV (v_X8_gust_1 fu V) 49 (2 : Int32).toNatClampNeg (((v_X8_gust_1 fu V) 49 (2 : Int32).toNatClampNeg) - 1)) 48) 2), .int (((upV (v_X8_gust_1 fu V) 49 (2 : Int32).toNatClampNeg (((v_X8_gust_1 fu V) 49 (2 : Int32).toNatClampNeg) - 1)) 48) 3), .int (((upV (v_X8_gust_1 fu V) 49 (2 : Int32).toNatClampNeg (((v_X8_gust_1 fu V) 49 (2 : Int32).toNatClampNeg) - 1)) 48) 4), .int (((upV (v_X8_gust_1 fu V) 49 (2 : Int32).toNatClampNeg (((v_X8_gust_1 fu V) 49 (2 : Int32).toNatClampNeg) - 1)) 48) 5), .int (((upV (v_X8_gust_1 fu V) 49 (2 : Int32).toNatClampNeg (((v_X8_gust_1 fu V) 49 (2 : Int32).toNatClampNeg) - 1)) 48) 6), .int (((upV (v_X8_gust_1 fu V) 49 (2 : Int32).toNatClampNeg (((v_X8_gust_1 fu V) 49 (2 : Int32).toNatClampNeg) - 1)) 48) 7)]) (by decide) (ce_md ad cI cB ((upV (v_X8_gust_1 fu V) 49 (2 : Int32).toNatClampNeg (((v_X8_gust_1 fu V) 49 (2 : Int32).toNatClampNeg) - 1)) 48)) rfl rfl) rfl hl.1 rfl (Nat.le_of_ble_eq_true rfl) dX8_gust_88 ⟨Nat.zero_le _, Nat.zero_le _⟩ (fun H locs hP hS => ?_)
        have hP : wP D cI cB ad (v_X8_gust_2 fu V) H := hP
        exact W.iret (v := (f_X8_acted fu (upV (v_X8_gust_1 fu V) 49 (2 : Int32).toNatClampNeg (((v_X8_gust_1 fu V) 49 (2 : Int32).toNatClampNeg) - 1)) 1).1) hx hb hr (fun t ht hW => ⟨⟨(f_X8_acted fu (upV (v_X8_gust_1 fu V) 49 (2 : Int32).toNatClampNeg (((v_X8_gust_1 fu V) 49 (2 : Int32).toNatClampNeg) - 1)) 1).1, (v_X8_gust_2 fu V), rfl, ⟨(congrArg Prod.fst hE).symm, (congrArg Prod.snd hE).symm⟩, by dsimp only; rw [ht]; exact hP⟩, hS.F ht⟩) hS.2.2 dX8_gust_91
    · have hE := hE.trans (if_neg c2)
      have hp := pc_bn hp c2
      refine lv_aload_n hx hb dX8_gust_28 rfl (lv_at hl 0 rfl) ?_
      refine lv_iconst (v := 0) hx hb dX8_gust_29 (by decide) ?_
      have hn4 := hp
      refine k_VWi (As := [.int 0]) (rest := []) (q := 48) ⟨hx, hb, hml, hown, hts⟩ hKN hP hS (m_X8_acted l D cI cB ad hA fu (f_X8_begins fu V) 0 hn4) (cwV 1 hts gX8_gust_X8_acted rfl rfl rfl (by decide +kernel) ⟨(Nat.le_of_ble_eq_true rfl), (Nat.le_of_ble_eq_true rfl)⟩) (c_preV hP hKN (q := 48) (ci := 6) (fs := [.ref (ad 49), .ref (ad 50), .ref (ad 51), .int (((f_X8_begins fu V) 48) 0), .ref (ad 52), .int (((f_X8_begins fu V) 48) 1), .ref (ad 53), .int (((f_X8_begins fu V) 48) 2), .int (((f_X8_begins fu V) 48) 3), .int (((f_X8_begins fu V) 48) 4), .int (((f_X8_begins fu V) 48) 5), .int (((f_X8_begins fu V) 48) 6), .int (((f_X8_begins fu V) 48) 7)]) (by decide) (ce_md ad cI cB ((f_X8_begins fu V) 48)) rfl rfl) rfl hl.1 rfl (Nat.le_of_ble_eq_true rfl) dX8_gust_30 ⟨Nat.zero_le _, Nat.zero_le _⟩ (fun H locs hP hS => ?_)
      exact W.iret (v := (f_X8_acted fu (f_X8_begins fu V) 0).1) hx hb hr (fun t ht hW => ⟨⟨(f_X8_acted fu (f_X8_begins fu V) 0).1, (f_X8_acted fu (f_X8_begins fu V) 0).2, rfl, ⟨(congrArg Prod.fst hE).symm, (congrArg Prod.snd hE).symm⟩, by dsimp only; rw [ht]; exact hP⟩, hS.F ht⟩) hS.2.2 dX8_gust_33
  · have hE := hE.trans (if_pos c1)
    refine lv_sipush (v := (-1001)) hx hb dX8_gust_14 (by decide) ?_
    exact W.iret (v := (-1001)) hx hb hr (fun t ht hW => ⟨⟨(-1001), (f_X8_begins fu V), rfl, ⟨(congrArg Prod.fst hE).symm, (congrArg Prod.snd hE).symm⟩, by dsimp only; rw [ht]; exact hP⟩, hS.F ht⟩) hS.2.2 dX8_gust_17
def v_X8_oil_1 (fu : Nat) (V : VT) (p1 : Int32) : VT := (f_X8_acted fu (upV (f_X8_begins fu V) 49 (2 : Int32).toNatClampNeg p1) ((f_X8_begins fu V) 49 (2 : Int32).toNatClampNeg)).2
def f_X8_oil (fu : Nat) (V : VT) (p1 : Int32) : Int32 × VT := (if (f_X8_in (f_X8_begins fu V) p1 1 99) = 0 then ((-1001), (f_X8_begins fu V)) else ((f_X8_acted fu (upV (f_X8_begins fu V) 49 (2 : Int32).toNatClampNeg p1) ((f_X8_begins fu V) 49 (2 : Int32).toNatClampNeg)).1, (v_X8_oil_1 fu V p1)))
def p_X8_oil (fu : Nat) (V : VT) (p1 : Int32) : Prop := ((p_X8_begins fu V ) ∧ (((f_X8_in (f_X8_begins fu V) p1 1 99) = 0 → True) ∧ (¬ ((f_X8_in (f_X8_begins fu V) p1 1 99) = 0) → (p_X8_acted fu (upV (f_X8_begins fu V) 49 (2 : Int32).toNatClampNeg p1) ((f_X8_begins fu V) 49 (2 : Int32).toNatClampNeg)))))
set_option maxHeartbeats 4000000 in
set_option maxRecDepth 100000 in
theorem m_X8_oil (l : Launch) (D : va_G) (cI cB : ClassId) (ad : Nat → Nat) {A : Nat → Prop} (hA : adOk ad A) (fu : Nat) (V : VT) (p1 : Int32)  (hp : p_X8_oil fu V p1) : Met l yX8_oil wsX8_oil ({ frames := 1, cells := 0, slots := 0, locals := 22 }) (cP D cI cB ad V [.ref (ad 48), .int p1]) (cWi D cI cB ad A (f_X8_oil fu V p1)) 0 0 A := by
  refine Met.ofW (cc := cX8_oil) (maxL := 3) (ret := (some .int)) (by decide +kernel) rfl ?_
  intro p e s m args below meth c s₁ B hml hv
  obtain ⟨rfl, hP, hKN⟩ := hv
  have hK := hKN.1
  have hx := B.exec
  have hb := B.bytes
  have hr := B.returns
  have hts := atoms_spec (ws := wsX8_oil) B.pre
  have hown : s.vm.findClass RX8 = some m.cls := findClass_of_methodNamed B.named
  have hlocks := B.notSynchronized
  have hS : va_S A s.heap s.heap [] := va_S.rf
  have hl := lv_entry ([.ref (ad 48), .int p1]) (n := 3) (Nat.le_of_ble_eq_true rfl)
  rw [lg_entry_eq]
  generalize (lg_sl ([.ref (ad 48), .int p1]) ++ List.replicate (3 - (lg_sl ([.ref (ad 48), .int p1])).length) Slot.unset).toArray = ls at hl ⊢
  have hl : lv_has ls 3 [(0, .ref (ad 48)), (1, .int p1)] := hl
  have hE : f_X8_oil fu V p1 = (if (f_X8_in (f_X8_begins fu V) p1 1 99) = 0 then ((-1001), (f_X8_begins fu V)) else ((f_X8_acted fu (upV (f_X8_begins fu V) 49 (2 : Int32).toNatClampNeg p1) ((f_X8_begins fu V) 49 (2 : Int32).toNatClampNeg)).1, (v_X8_oil_1 fu V p1))) := rfl
  refine lv_aload_n hx hb dX8_oil_0 rfl (lv_at hl 0 rfl) ?_
  obtain ⟨hn1, hp⟩ := hp
  refine k_VWv (As := []) (rest := []) (q := 48) ⟨hx, hb, hml, hown, hts⟩ hKN hP hS (m_X8_begins l D cI cB ad hA fu V hn1) (cwV 0 hts gX8_oil_X8_begins rfl rfl rfl (by decide +kernel) ⟨(Nat.le_of_ble_eq_true rfl), (Nat.le_of_ble_eq_true rfl)⟩) (c_preV hP hKN (q := 48) (ci := 6) (fs := [.ref (ad 49), .ref (ad 50), .ref (ad 51), .int ((V 48) 0), .ref (ad 52), .int ((V 48) 1), .ref (ad 53), .int ((V 48) 2), .int ((V 48) 3), .int ((V 48) 4), .int ((V 48) 5), .int ((V 48) 6), .int ((V 48) 7)]) (by decide) (ce_md ad cI cB (V 48)) rfl rfl) rfl hl.1 rfl (Nat.le_of_ble_eq_true rfl) dX8_oil_1 ⟨Nat.zero_le _, Nat.zero_le _⟩ (fun H locs hP hS => ?_)
  refine lv_iload_n hx hb dX8_oil_4 rfl (lv_at hl 1 rfl) ?_
  refine lv_iconst (v := 1) hx hb dX8_oil_5 (by decide) ?_
  refine lv_bipush (v := 99) hx hb dX8_oil_6 (by decide) ?_
  refine k_SR (As := [.int p1, .int 1, .int 99]) (rest := []) ⟨hx, hb, hml, hown, hts⟩ hKN hP hS (m_X8_in l D cI cB ad (f_X8_begins fu V) p1 1 99) (va_cwS 3 hts gX8_oil_X8_in rfl rfl rfl (by decide +kernel) ⟨(Nat.le_of_ble_eq_true rfl), (Nat.le_of_ble_eq_true rfl)⟩) rfl hl.1 rfl (Nat.le_of_ble_eq_true rfl) dX8_oil_8 ⟨Nat.zero_le _, Nat.zero_le _⟩ (fun H locs hP hS => ?_)
  refine lv_if_ne (tgt := 18) hx hb dX8_oil_11 (by decide) (fun c1 => ?_) (fun c1 => ?_)
  · have hE := hE.trans (if_neg c1)
    have hp := pc_bn hp c1
    refine lv_aload_n hx hb dX8_oil_18 rfl (lv_at hl 0 rfl) ?_
    refine x_get (ci := 6) (fs := [.ref (ad 49), .ref (ad 50), .ref (ad 51), .int (((f_X8_begins fu V) 48) 0), .ref (ad 52), .int (((f_X8_begins fu V) 48) 1), .ref (ad 53), .int (((f_X8_begins fu V) 48) 2), .int (((f_X8_begins fu V) 48) 3), .int (((f_X8_begins fu V) 48) 4), .int (((f_X8_begins fu V) 48) 5), .int (((f_X8_begins fu V) 48) 6), .int (((f_X8_begins fu V) 48) 7)]) (q := 48) (v := .ref (ad 49)) (N := 13) hx hb hts (fun _ h => List.mem_cons_of_mem _ (List.mem_append_right _ h)) hown hK hP (by decide) (ce_md ad cI cB ((f_X8_begins fu V) 48)) rfl 0 (by decide) (hts (.fieldLink RX8 7 "TurnedBoardsModel" "s" "[I") (List.mem_of_getElem? (i := 1) rfl)) rfl rfl dX8_oil_19 ?_
    refine lv_iconst (v := 2) hx hb dX8_oil_22 (by decide) ?_
    refine x_iald hx hb hK hP ⟨by decide, fun _ => rfl, by decide⟩ (vp_lit (i := 2) (n := 49) (by decide) (by decide)) dX8_oil_23 ?_
    refine lv_istore_n (lv' := [(2, .int ((f_X8_begins fu V) 49 (2 : Int32).toNatClampNeg)), (0, .ref (ad 48)), (1, .int p1)]) hx hb dX8_oil_24 rfl hl (by decide) rfl (fun ls hl => ?_)
    refine lv_aload_n hx hb dX8_oil_25 rfl (lv_at hl 1 rfl) ?_
    refine x_get (ci := 6) (fs := [.ref (ad 49), .ref (ad 50), .ref (ad 51), .int (((f_X8_begins fu V) 48) 0), .ref (ad 52), .int (((f_X8_begins fu V) 48) 1), .ref (ad 53), .int (((f_X8_begins fu V) 48) 2), .int (((f_X8_begins fu V) 48) 3), .int (((f_X8_begins fu V) 48) 4), .int (((f_X8_begins fu V) 48) 5), .int (((f_X8_begins fu V) 48) 6), .int (((f_X8_begins fu V) 48) 7)]) (q := 48) (v := .ref (ad 49)) (N := 13) hx hb hts (fun _ h => List.mem_cons_of_mem _ (List.mem_append_right _ h)) hown hK hP (by decide) (ce_md ad cI cB ((f_X8_begins fu V) 48)) rfl 0 (by decide) (hts (.fieldLink RX8 7 "TurnedBoardsModel" "s" "[I") (List.mem_of_getElem? (i := 1) rfl)) rfl rfl dX8_oil_26 ?_
    refine lv_iconst (v := 2) hx hb dX8_oil_29 (by decide) ?_
    refine lv_iload_n hx hb dX8_oil_30 rfl (lv_at hl 2 rfl) ?_
    refine x_iast hx hb hK hP hA hS ⟨by decide, fun _ => rfl, by decide⟩ (vp_lit (i := 2) (n := 49) (by decide) (by decide)) dX8_oil_31 (fun H locs hP hS => ?_)
    refine lv_aload_n hx hb dX8_oil_32 rfl (lv_at hl 1 rfl) ?_
    refine lv_iload_n hx hb dX8_oil_33 rfl (lv_at hl 0 rfl) ?_
    have hn2 := hp
    refine k_VWi (As := [.int ((f_X8_begins fu V) 49 (2 : Int32).toNatClampNeg)]) (rest := []) (q := 48) ⟨hx, hb, hml, hown, hts⟩ hKN hP hS (m_X8_acted l D cI cB ad hA fu (upV (f_X8_begins fu V) 49 (2 : Int32).toNatClampNeg p1) ((f_X8_begins fu V) 49 (2 : Int32).toNatClampNeg) hn2) (cwV 1 hts gX8_oil_X8_acted rfl rfl rfl (by decide +kernel) ⟨(Nat.le_of_ble_eq_true rfl), (Nat.le_of_ble_eq_true rfl)⟩) (c_preV hP hKN (q := 48) (ci := 6) (fs := [.ref (ad 49), .ref (ad 50), .ref (ad 51), .int (((upV (f_X8_begins fu V) 49 (2 : Int32).toNatClampNeg p1) 48) 0), .ref (ad 52), .int (((upV (f_X8_begins fu V) 49 (2 : Int32).toNatClampNeg p1) 48) 1), .ref (ad 53), .int (((upV (f_X8_begins fu V) 49 (2 : Int32).toNatClampNeg p1) 48) 2), .int (((upV (f_X8_begins fu V) 49 (2 : Int32).toNatClampNeg p1) 48) 3), .int (((upV (f_X8_begins fu V) 49 (2 : Int32).toNatClampNeg p1) 48) 4), .int (((upV (f_X8_begins fu V) 49 (2 : Int32).toNatClampNeg p1) 48) 5), .int (((upV (f_X8_begins fu V) 49 (2 : Int32).toNatClampNeg p1) 48) 6), .int (((upV (f_X8_begins fu V) 49 (2 : Int32).toNatClampNeg p1) 48) 7)]) (by decide) (ce_md ad cI cB ((upV (f_X8_begins fu V) 49 (2 : Int32).toNatClampNeg p1) 48)) rfl rfl) rfl hl.1 rfl (Nat.le_of_ble_eq_true rfl) dX8_oil_34 ⟨Nat.zero_le _, Nat.zero_le _⟩ (fun H locs hP hS => ?_)
    have hP : wP D cI cB ad (v_X8_oil_1 fu V p1) H := hP
    exact W.iret (v := (f_X8_acted fu (upV (f_X8_begins fu V) 49 (2 : Int32).toNatClampNeg p1) ((f_X8_begins fu V) 49 (2 : Int32).toNatClampNeg)).1) hx hb hr (fun t ht hW => ⟨⟨(f_X8_acted fu (upV (f_X8_begins fu V) 49 (2 : Int32).toNatClampNeg p1) ((f_X8_begins fu V) 49 (2 : Int32).toNatClampNeg)).1, (v_X8_oil_1 fu V p1), rfl, ⟨(congrArg Prod.fst hE).symm, (congrArg Prod.snd hE).symm⟩, by dsimp only; rw [ht]; exact hP⟩, hS.F ht⟩) hS.2.2 dX8_oil_37
  · have hE := hE.trans (if_pos c1)
    refine lv_sipush (v := (-1001)) hx hb dX8_oil_14 (by decide) ?_
    exact W.iret (v := (-1001)) hx hb hr (fun t ht hW => ⟨⟨(-1001), (f_X8_begins fu V), rfl, ⟨(congrArg Prod.fst hE).symm, (congrArg Prod.snd hE).symm⟩, by dsimp only; rw [ht]; exact hP⟩, hS.F ht⟩) hS.2.2 dX8_oil_17
def f_X8_pass_l2 (fu : Nat) (p1 : Int32) (k : VT → Int32 → Int32 → Int32 × VT) : Nat → VT → Int32 → Int32 → Int32 → Int32 × VT
  | 0, V2, x2_2, x3_2, x4_2 => (0, V2)
  | w2 + 1, V2, x2_2, x3_2, x4_2 => (if (V2 49 (0 : Int32).toNatClampNeg) ≤ x4_2 then (k V2 x2_2 (x3_2 + 1)) else (if (f_X8_fades fu V2 x4_2) = 0 then (f_X8_pass_l2 fu p1 k w2 V2 x2_2 x3_2 (x4_2 + 1)) else (f_X8_pass_l2 fu p1 k w2 (upV V2 49 ((17 + (2 * x4_2)) + 1).toNatClampNeg ((V2 49 ((17 + (2 * x4_2)) + 1).toNatClampNeg) - 1)) (x2_2 + 1) x3_2 (x4_2 + 1))))
def p_X8_pass_l2 (fu : Nat) (p1 : Int32) (k : VT → Int32 → Int32 → Prop) : Nat → VT → Int32 → Int32 → Int32 → Prop
  | 0, _, _, _, _ => False
  | w2 + 1, V2, x2_2, x3_2, x4_2 => (((V2 49 (0 : Int32).toNatClampNeg) ≤ x4_2 → (k V2 x2_2 (x3_2 + 1))) ∧ (¬ ((V2 49 (0 : Int32).toNatClampNeg) ≤ x4_2) → ((p_X8_fades fu V2 x4_2) ∧ (((f_X8_fades fu V2 x4_2) = 0 → (p_X8_pass_l2 fu p1 k w2 V2 x2_2 x3_2 (x4_2 + 1))) ∧ (¬ ((f_X8_fades fu V2 x4_2) = 0) → ((vp_in ((17 + (2 * x4_2)) + 1) 49) ∧ ((vp_in ((17 + (2 * x4_2)) + 1) 49) ∧ (p_X8_pass_l2 fu p1 k w2 (upV V2 49 ((17 + (2 * x4_2)) + 1).toNatClampNeg ((V2 49 ((17 + (2 * x4_2)) + 1).toNatClampNeg) - 1)) (x2_2 + 1) x3_2 (x4_2 + 1)))))))))
def f_X8_pass_l1 (fu : Nat) (p1 : Int32) : Nat → VT → Int32 → Int32 → Int32 × VT
  | 0, V1, x2_1, x3_1 => (0, V1)
  | w1 + 1, V1, x2_1, x3_1 => (if p1 ≤ x3_1 then ((f_X8_acted fu (upV V1 49 (3 : Int32).toNatClampNeg ((V1 49 (3 : Int32).toNatClampNeg) + p1)) x2_1).1, (f_X8_acted fu (upV V1 49 (3 : Int32).toNatClampNeg ((V1 49 (3 : Int32).toNatClampNeg) + p1)) x2_1).2) else (f_X8_pass_l2 fu p1 (fun V1 x2_1 x3_1 => f_X8_pass_l1 fu p1 w1 V1 x2_1 x3_1) fu V1 x2_1 x3_1 0))
def p_X8_pass_l1 (fu : Nat) (p1 : Int32) : Nat → VT → Int32 → Int32 → Prop
  | 0, _, _, _ => False
  | w1 + 1, V1, x2_1, x3_1 => ((p1 ≤ x3_1 → (p_X8_acted fu (upV V1 49 (3 : Int32).toNatClampNeg ((V1 49 (3 : Int32).toNatClampNeg) + p1)) x2_1)) ∧ (¬ (p1 ≤ x3_1) → (p_X8_pass_l2 fu p1 (fun V1 x2_1 x3_1 => p_X8_pass_l1 fu p1 w1 V1 x2_1 x3_1) fu V1 x2_1 x3_1 0)))
def f_X8_pass (fu : Nat) (V : VT) (p1 : Int32) : Int32 × VT := (if (f_X8_in (f_X8_begins fu V) p1 1 20) = 0 then ((-1001), (f_X8_begins fu V)) else (if (((f_X8_begins fu V) 49 (3 : Int32).toNatClampNeg) + p1) ≤ 9999 then (f_X8_pass_l1 fu p1 fu (f_X8_begins fu V) 0 0) else ((-1003), (f_X8_begins fu V))))
def p_X8_pass (fu : Nat) (V : VT) (p1 : Int32) : Prop := ((p_X8_begins fu V ) ∧ (((f_X8_in (f_X8_begins fu V) p1 1 20) = 0 → True) ∧ (¬ ((f_X8_in (f_X8_begins fu V) p1 1 20) = 0) → (((((f_X8_begins fu V) 49 (3 : Int32).toNatClampNeg) + p1) ≤ 9999 → (p_X8_pass_l1 fu p1 fu (f_X8_begins fu V) 0 0)) ∧ (¬ ((((f_X8_begins fu V) 49 (3 : Int32).toNatClampNeg) + p1) ≤ 9999) → True)))))
set_option maxHeartbeats 4000000 in
set_option maxRecDepth 100000 in
theorem m_X8_pass (l : Launch) (D : va_G) (cI cB : ClassId) (ad : Nat → Nat) {A : Nat → Prop} (hA : adOk ad A) (fu : Nat) (V : VT) (p1 : Int32)  (hp : p_X8_pass fu V p1) : Met l yX8_pass wsX8_pass ({ frames := 2, cells := 0, slots := 0, locals := 44 }) (cP D cI cB ad V [.ref (ad 48), .int p1]) (cWi D cI cB ad A (f_X8_pass fu V p1)) 0 0 A := by
  refine Met.ofW (cc := cX8_pass) (maxL := 5) (ret := (some .int)) (by decide +kernel) rfl ?_
  intro p e s m args below meth c s₁ B hml hv
  obtain ⟨rfl, hP, hKN⟩ := hv
  have hK := hKN.1
  have hx := B.exec
  have hb := B.bytes
  have hr := B.returns
  have hts := atoms_spec (ws := wsX8_pass) B.pre
  have hown : s.vm.findClass RX8 = some m.cls := findClass_of_methodNamed B.named
  have hlocks := B.notSynchronized
  have hS : va_S A s.heap s.heap [] := va_S.rf
  have hl := lv_entry ([.ref (ad 48), .int p1]) (n := 5) (Nat.le_of_ble_eq_true rfl)
  rw [lg_entry_eq]
  generalize (lg_sl ([.ref (ad 48), .int p1]) ++ List.replicate (5 - (lg_sl ([.ref (ad 48), .int p1])).length) Slot.unset).toArray = ls at hl ⊢
  have hl : lv_has ls 5 [(0, .ref (ad 48)), (1, .int p1)] := hl
  have hE : f_X8_pass fu V p1 = (if (f_X8_in (f_X8_begins fu V) p1 1 20) = 0 then ((-1001), (f_X8_begins fu V)) else (if (((f_X8_begins fu V) 49 (3 : Int32).toNatClampNeg) + p1) ≤ 9999 then (f_X8_pass_l1 fu p1 fu (f_X8_begins fu V) 0 0) else ((-1003), (f_X8_begins fu V)))) := rfl
  refine lv_aload_n hx hb dX8_pass_0 rfl (lv_at hl 0 rfl) ?_
  obtain ⟨hn1, hp⟩ := hp
  refine k_VWv (As := []) (rest := []) (q := 48) ⟨hx, hb, hml, hown, hts⟩ hKN hP hS (m_X8_begins l D cI cB ad hA fu V hn1) (cwV 0 hts gX8_pass_X8_begins rfl rfl rfl (by decide +kernel) ⟨(Nat.le_of_ble_eq_true rfl), (Nat.le_of_ble_eq_true rfl)⟩) (c_preV hP hKN (q := 48) (ci := 6) (fs := [.ref (ad 49), .ref (ad 50), .ref (ad 51), .int ((V 48) 0), .ref (ad 52), .int ((V 48) 1), .ref (ad 53), .int ((V 48) 2), .int ((V 48) 3), .int ((V 48) 4), .int ((V 48) 5), .int ((V 48) 6), .int ((V 48) 7)]) (by decide) (ce_md ad cI cB (V 48)) rfl rfl) rfl hl.1 rfl (Nat.le_of_ble_eq_true rfl) dX8_pass_1 ⟨Nat.zero_le _, Nat.zero_le _⟩ (fun H locs hP hS => ?_)
  refine lv_iload_n hx hb dX8_pass_4 rfl (lv_at hl 1 rfl) ?_
  refine lv_iconst (v := 1) hx hb dX8_pass_5 (by decide) ?_
  refine lv_bipush (v := 20) hx hb dX8_pass_6 (by decide) ?_
  refine k_SR (As := [.int p1, .int 1, .int 20]) (rest := []) ⟨hx, hb, hml, hown, hts⟩ hKN hP hS (m_X8_in l D cI cB ad (f_X8_begins fu V) p1 1 20) (va_cwS 3 hts gX8_pass_X8_in rfl rfl rfl (by decide +kernel) ⟨(Nat.le_of_ble_eq_true rfl), (Nat.le_of_ble_eq_true rfl)⟩) rfl hl.1 rfl (Nat.le_of_ble_eq_true rfl) dX8_pass_8 ⟨Nat.zero_le _, Nat.zero_le _⟩ (fun H locs hP hS => ?_)
  refine lv_if_ne (tgt := 18) hx hb dX8_pass_11 (by decide) (fun c1 => ?_) (fun c1 => ?_)
  · have hE := hE.trans (if_neg c1)
    have hp := pc_bn hp c1
    refine lv_aload_n hx hb dX8_pass_18 rfl (lv_at hl 0 rfl) ?_
    refine x_get (ci := 6) (fs := [.ref (ad 49), .ref (ad 50), .ref (ad 51), .int (((f_X8_begins fu V) 48) 0), .ref (ad 52), .int (((f_X8_begins fu V) 48) 1), .ref (ad 53), .int (((f_X8_begins fu V) 48) 2), .int (((f_X8_begins fu V) 48) 3), .int (((f_X8_begins fu V) 48) 4), .int (((f_X8_begins fu V) 48) 5), .int (((f_X8_begins fu V) 48) 6), .int (((f_X8_begins fu V) 48) 7)]) (q := 48) (v := .ref (ad 49)) (N := 13) hx hb hts (fun _ h => List.mem_cons_of_mem _ (List.mem_append_right _ h)) hown hK hP (by decide) (ce_md ad cI cB ((f_X8_begins fu V) 48)) rfl 0 (by decide) (hts (.fieldLink RX8 7 "TurnedBoardsModel" "s" "[I") (List.mem_of_getElem? (i := 1) rfl)) rfl rfl dX8_pass_19 ?_
    refine lv_iconst (v := 3) hx hb dX8_pass_22 (by decide) ?_
    refine x_iald hx hb hK hP ⟨by decide, fun _ => rfl, by decide⟩ (vp_lit (i := 3) (n := 49) (by decide) (by decide)) dX8_pass_23 ?_
    refine lv_iload_n hx hb dX8_pass_24 rfl (lv_at hl 1 rfl) ?_
    refine lv_iadd hx hb dX8_pass_25 ?_
    refine lv_sipush (v := 9999) hx hb dX8_pass_26 (by decide) ?_
    refine lv_icmp_le (tgt := 36) hx hb dX8_pass_29 (by decide) (fun c2 => ?_) (fun c2 => ?_)
    · have hE := hE.trans (if_pos c2)
      have hp := pc_br hp c2
      refine lv_iconst (v := 0) hx hb dX8_pass_36 (by decide) ?_
      refine lv_istore_n (lv' := [(2, .int 0), (0, .ref (ad 48)), (1, .int p1)]) hx hb dX8_pass_37 rfl hl (by decide) rfl (fun ls hl => ?_)
      refine lv_iconst (v := 0) hx hb dX8_pass_38 (by decide) ?_
      refine lv_istore_n (lv' := [(3, .int 0), (2, .int 0), (0, .ref (ad 48)), (1, .int p1)]) hx hb dX8_pass_39 rfl hl (by decide) rfl (fun ls hl => ?_)
      have L1 : ∀ (w1 : Nat) (V1 : VT) (x2_1 : Int32) (x3_1 : Int32), f_X8_pass fu V p1 = f_X8_pass_l1 fu p1 w1 V1 x2_1 x3_1 → p_X8_pass_l1 fu p1 w1 V1 x2_1 x3_1 → ∀ (H : Heap) (locs : List Loc), wP D cI cB ad V1 H → va_S A s.heap H locs → ∀ (ls : Array Slot), lv_has ls 5 [(0, .ref (ad 48)), (1, .int p1), (2, .int x2_1), (3, .int x3_1)] → W p l e (headSpec wsX8_pass ({ frames := 2, cells := 0, slots := 0, locals := 44 })).room s m ([.ref (ad 48), .int p1] : List Value).toArray below meth c H locs 0 0 (MQ below (cWi D cI cB ad A (f_X8_pass fu V p1)) ([.ref (ad 48), .int p1] : List Value).toArray s 0 0 A) (F0 m 40 ls []) := by
        intro w1
        induction w1 with
        | zero => intro V1 x2_1 x3_1 hE hp; exact hp.elim
        | succ w1 ih1 =>
          intro V1 x2_1 x3_1 hE hp H locs hP hS ls hl
          rw [f_X8_pass_l1] at hE
          rw [p_X8_pass_l1] at hp
          refine lv_iload_n hx hb dX8_pass_40 rfl (lv_at hl 3 rfl) ?_
          refine lv_iload_n hx hb dX8_pass_41 rfl (lv_at hl 1 rfl) ?_
          refine lv_icmp_ge (tgt := 101) hx hb dX8_pass_42 (by decide) (fun c3 => ?_) (fun c3 => ?_)
          · have hE := hE.trans (if_pos c3)
            have hp := pc_br hp c3
            refine lv_aload_n hx hb dX8_pass_101 rfl (lv_at hl 0 rfl) ?_
            refine x_get (ci := 6) (fs := [.ref (ad 49), .ref (ad 50), .ref (ad 51), .int ((V1 48) 0), .ref (ad 52), .int ((V1 48) 1), .ref (ad 53), .int ((V1 48) 2), .int ((V1 48) 3), .int ((V1 48) 4), .int ((V1 48) 5), .int ((V1 48) 6), .int ((V1 48) 7)]) (q := 48) (v := .ref (ad 49)) (N := 13) hx hb hts (fun _ h => List.mem_cons_of_mem _ (List.mem_append_right _ h)) hown hK hP (by decide) (ce_md ad cI cB (V1 48)) rfl 0 (by decide) (hts (.fieldLink RX8 7 "TurnedBoardsModel" "s" "[I") (List.mem_of_getElem? (i := 1) rfl)) rfl rfl dX8_pass_102 ?_
            refine lv_iconst (v := 3) hx hb dX8_pass_105 (by decide) ?_
            refine lv_dup2_11 hx hb dX8_pass_106 rfl rfl ?_
            refine x_iald hx hb hK hP ⟨by decide, fun _ => rfl, by decide⟩ (vp_lit (i := 3) (n := 49) (by decide) (by decide)) dX8_pass_107 ?_
            refine lv_iload_n hx hb dX8_pass_108 rfl (lv_at hl 1 rfl) ?_
            refine lv_iadd hx hb dX8_pass_109 ?_
            refine x_iast hx hb hK hP hA hS ⟨by decide, fun _ => rfl, by decide⟩ (vp_lit (i := 3) (n := 49) (by decide) (by decide)) dX8_pass_110 (fun H locs hP hS => ?_)
            refine lv_aload_n hx hb dX8_pass_111 rfl (lv_at hl 0 rfl) ?_
            refine lv_iload_n hx hb dX8_pass_112 rfl (lv_at hl 2 rfl) ?_
            have hn2 := hp
            refine k_VWi (As := [.int x2_1]) (rest := []) (q := 48) ⟨hx, hb, hml, hown, hts⟩ hKN hP hS (m_X8_acted l D cI cB ad hA fu (upV V1 49 (3 : Int32).toNatClampNeg ((V1 49 (3 : Int32).toNatClampNeg) + p1)) x2_1 hn2) (cwV 1 hts gX8_pass_X8_acted rfl rfl rfl (by decide +kernel) ⟨(Nat.le_of_ble_eq_true rfl), (Nat.le_of_ble_eq_true rfl)⟩) (c_preV hP hKN (q := 48) (ci := 6) (fs := [.ref (ad 49), .ref (ad 50), .ref (ad 51), .int (((upV V1 49 (3 : Int32).toNatClampNeg ((V1 49 (3 : Int32).toNatClampNeg) + p1)) 48) 0), .ref (ad 52), .int (((upV V1 49 (3 : Int32).toNatClampNeg ((V1 49 (3 : Int32).toNatClampNeg) + p1)) 48) 1), .ref (ad 53), .int (((upV V1 49 (3 : Int32).toNatClampNeg ((V1 49 (3 : Int32).toNatClampNeg) + p1)) 48) 2), .int (((upV V1 49 (3 : Int32).toNatClampNeg ((V1 49 (3 : Int32).toNatClampNeg) + p1)) 48) 3), .int (((upV V1 49 (3 : Int32).toNatClampNeg ((V1 49 (3 : Int32).toNatClampNeg) + p1)) 48) 4), .int (((upV V1 49 (3 : Int32).toNatClampNeg ((V1 49 (3 : Int32).toNatClampNeg) + p1)) 48) 5), .int (((upV V1 49 (3 : Int32).toNatClampNeg ((V1 49 (3 : Int32).toNatClampNeg) + p1)) 48) 6), .int (((upV V1 49 (3 : Int32).toNatClampNeg ((V1 49 (3 : Int32).toNatClampNeg) + p1)) 48) 7)]) (by decide) (ce_md ad cI cB ((upV V1 49 (3 : Int32).toNatClampNeg ((V1 49 (3 : Int32).toNatClampNeg) + p1)) 48)) rfl rfl) rfl hl.1 rfl (Nat.le_of_ble_eq_true rfl) dX8_pass_113 ⟨Nat.zero_le _, Nat.zero_le _⟩ (fun H locs hP hS => ?_)
            exact W.iret (v := (f_X8_acted fu (upV V1 49 (3 : Int32).toNatClampNeg ((V1 49 (3 : Int32).toNatClampNeg) + p1)) x2_1).1) hx hb hr (fun t ht hW => ⟨⟨(f_X8_acted fu (upV V1 49 (3 : Int32).toNatClampNeg ((V1 49 (3 : Int32).toNatClampNeg) + p1)) x2_1).1, (f_X8_acted fu (upV V1 49 (3 : Int32).toNatClampNeg ((V1 49 (3 : Int32).toNatClampNeg) + p1)) x2_1).2, rfl, ⟨(congrArg Prod.fst hE).symm, (congrArg Prod.snd hE).symm⟩, by dsimp only; rw [ht]; exact hP⟩, hS.F ht⟩) hS.2.2 dX8_pass_116
          · have hE := hE.trans (if_neg c3)
            have hp := pc_bn hp c3
            refine lv_iconst (v := 0) hx hb dX8_pass_45 (by decide) ?_
            refine lv_istore (lv' := [(4, .int 0), (0, .ref (ad 48)), (1, .int p1), (2, .int x2_1), (3, .int x3_1)]) hx hb dX8_pass_46 hl (by decide) rfl (fun ls hl => ?_)
            have L2 : ∀ (w2 : Nat) (V2 : VT) (x2_2 : Int32) (x3_2 : Int32) (x4_2 : Int32), f_X8_pass fu V p1 = f_X8_pass_l2 fu p1 (fun V1 x2_1 x3_1 => f_X8_pass_l1 fu p1 w1 V1 x2_1 x3_1) w2 V2 x2_2 x3_2 x4_2 → p_X8_pass_l2 fu p1 (fun V1 x2_1 x3_1 => p_X8_pass_l1 fu p1 w1 V1 x2_1 x3_1) w2 V2 x2_2 x3_2 x4_2 → ∀ (H : Heap) (locs : List Loc), wP D cI cB ad V2 H → va_S A s.heap H locs → ∀ (ls : Array Slot), lv_has ls 5 [(0, .ref (ad 48)), (1, .int p1), (2, .int x2_2), (3, .int x3_2), (4, .int x4_2)] → W p l e (headSpec wsX8_pass ({ frames := 2, cells := 0, slots := 0, locals := 44 })).room s m ([.ref (ad 48), .int p1] : List Value).toArray below meth c H locs 0 0 (MQ below (cWi D cI cB ad A (f_X8_pass fu V p1)) ([.ref (ad 48), .int p1] : List Value).toArray s 0 0 A) (F0 m 48 ls []) := by
              intro w2
              induction w2 with
              | zero => intro V2 x2_2 x3_2 x4_2 hE hp; exact hp.elim
              | succ w2 ih2 =>
                intro V2 x2_2 x3_2 x4_2 hE hp H locs hP hS ls hl
                rw [f_X8_pass_l2] at hE
                rw [p_X8_pass_l2] at hp
                refine lv_iload hx hb dX8_pass_48 (lv_at hl 4 rfl) ?_
                refine lv_aload_n hx hb dX8_pass_50 rfl (lv_at hl 0 rfl) ?_
                refine x_get (ci := 6) (fs := [.ref (ad 49), .ref (ad 50), .ref (ad 51), .int ((V2 48) 0), .ref (ad 52), .int ((V2 48) 1), .ref (ad 53), .int ((V2 48) 2), .int ((V2 48) 3), .int ((V2 48) 4), .int ((V2 48) 5), .int ((V2 48) 6), .int ((V2 48) 7)]) (q := 48) (v := .ref (ad 49)) (N := 13) hx hb hts (fun _ h => List.mem_cons_of_mem _ (List.mem_append_right _ h)) hown hK hP (by decide) (ce_md ad cI cB (V2 48)) rfl 0 (by decide) (hts (.fieldLink RX8 7 "TurnedBoardsModel" "s" "[I") (List.mem_of_getElem? (i := 1) rfl)) rfl rfl dX8_pass_51 ?_
                refine lv_iconst (v := 0) hx hb dX8_pass_54 (by decide) ?_
                refine x_iald hx hb hK hP ⟨by decide, fun _ => rfl, by decide⟩ (vp_lit (i := 0) (n := 49) (by decide) (by decide)) dX8_pass_55 ?_
                refine lv_icmp_ge (tgt := 95) hx hb dX8_pass_56 (by decide) (fun c4 => ?_) (fun c4 => ?_)
                · have hE := hE.trans (if_pos c4)
                  have hp := pc_br hp c4
                  refine lv_iinc (v := (x3_2 + 1)) (lv' := [(3, .int (x3_2 + 1)), (0, .ref (ad 48)), (1, .int p1), (2, .int x2_2), (4, .int x4_2)]) hx hb dX8_pass_95 hl (k := 3) rfl (by rfl) (by decide) rfl (fun ls hl => ?_)
                  refine lv_goto (tgt := 40) hx hb dX8_pass_98 (by decide) ?_
                  exact ih1 V2 x2_2 (x3_2 + 1) hE hp H locs hP hS ls (lv_sub hl [1, 2, 3, 0] rfl)
                · have hE := hE.trans (if_neg c4)
                  have hp := pc_bn hp c4
                  refine lv_aload_n hx hb dX8_pass_59 rfl (lv_at hl 0 rfl) ?_
                  refine lv_iload hx hb dX8_pass_60 (lv_at hl 4 rfl) ?_
                  obtain ⟨hn3, hp⟩ := hp
                  refine k_VR (As := [.int x4_2]) (rest := []) (q := 48) ⟨hx, hb, hml, hown, hts⟩ hKN hP hS (m_X8_fades l D cI cB ad fu V2 x4_2 hn3) (cwV 1 hts gX8_pass_X8_fades rfl rfl rfl (by decide +kernel) ⟨(Nat.le_of_ble_eq_true rfl), (Nat.le_of_ble_eq_true rfl)⟩) (c_preV hP hKN (q := 48) (ci := 6) (fs := [.ref (ad 49), .ref (ad 50), .ref (ad 51), .int ((V2 48) 0), .ref (ad 52), .int ((V2 48) 1), .ref (ad 53), .int ((V2 48) 2), .int ((V2 48) 3), .int ((V2 48) 4), .int ((V2 48) 5), .int ((V2 48) 6), .int ((V2 48) 7)]) (by decide) (ce_md ad cI cB (V2 48)) rfl rfl) rfl hl.1 rfl (Nat.le_of_ble_eq_true rfl) dX8_pass_62 ⟨Nat.zero_le _, Nat.zero_le _⟩ (fun H locs hP hS => ?_)
                  refine lv_if_eq (tgt := 89) hx hb dX8_pass_65 (by decide) (fun c5 => ?_) (fun c5 => ?_)
                  · have hE := hE.trans (if_pos c5)
                    have hp := pc_br hp c5
                    refine lv_iinc (v := (x4_2 + 1)) (lv' := [(4, .int (x4_2 + 1)), (0, .ref (ad 48)), (1, .int p1), (2, .int x2_2), (3, .int x3_2)]) hx hb dX8_pass_89 hl (k := 4) rfl (by rfl) (by decide) rfl (fun ls hl => ?_)
                    refine lv_goto (tgt := 48) hx hb dX8_pass_92 (by decide) ?_
                    exact ih2 V2 x2_2 x3_2 (x4_2 + 1) hE hp H locs hP hS ls (lv_sub hl [1, 2, 3, 4, 0] rfl)
                  · have hE := hE.trans (if_neg c5)
                    have hp := pc_bn hp c5
                    refine lv_aload_n hx hb dX8_pass_68 rfl (lv_at hl 0 rfl) ?_
                    refine x_get (ci := 6) (fs := [.ref (ad 49), .ref (ad 50), .ref (ad 51), .int ((V2 48) 0), .ref (ad 52), .int ((V2 48) 1), .ref (ad 53), .int ((V2 48) 2), .int ((V2 48) 3), .int ((V2 48) 4), .int ((V2 48) 5), .int ((V2 48) 6), .int ((V2 48) 7)]) (q := 48) (v := .ref (ad 49)) (N := 13) hx hb hts (fun _ h => List.mem_cons_of_mem _ (List.mem_append_right _ h)) hown hK hP (by decide) (ce_md ad cI cB (V2 48)) rfl 0 (by decide) (hts (.fieldLink RX8 7 "TurnedBoardsModel" "s" "[I") (List.mem_of_getElem? (i := 1) rfl)) rfl rfl dX8_pass_69 ?_
                    refine lv_bipush (v := 17) hx hb dX8_pass_72 (by decide) ?_
                    refine lv_iconst (v := 2) hx hb dX8_pass_74 (by decide) ?_
                    refine lv_iload hx hb dX8_pass_75 (lv_at hl 4 rfl) ?_
                    refine lv_imul hx hb dX8_pass_77 ?_
                    refine lv_iadd hx hb dX8_pass_78 ?_
                    refine lv_iconst (v := 1) hx hb dX8_pass_79 (by decide) ?_
                    refine lv_iadd hx hb dX8_pass_80 ?_
                    refine lv_dup2_11 hx hb dX8_pass_81 rfl rfl ?_
                    obtain ⟨hn4, hp⟩ := hp
                    refine x_iald hx hb hK hP ⟨by decide, fun _ => rfl, by decide⟩ hn4 dX8_pass_82 ?_
                    refine lv_iconst (v := 1) hx hb dX8_pass_83 (by decide) ?_
                    refine lv_isub hx hb dX8_pass_84 ?_
                    obtain ⟨hn5, hp⟩ := hp
                    refine x_iast hx hb hK hP hA hS ⟨by decide, fun _ => rfl, by decide⟩ hn5 dX8_pass_85 (fun H locs hP hS => ?_)
                    refine lv_iinc (v := (x2_2 + 1)) (lv' := [(2, .int (x2_2 + 1)), (0, .ref (ad 48)), (1, .int p1), (3, .int x3_2), (4, .int x4_2)]) hx hb dX8_pass_86 hl (k := 2) rfl (by rfl) (by decide) rfl (fun ls hl => ?_)
                    refine lv_iinc (v := (x4_2 + 1)) (lv' := [(4, .int (x4_2 + 1)), (2, .int (x2_2 + 1)), (0, .ref (ad 48)), (1, .int p1), (3, .int x3_2)]) hx hb dX8_pass_89 hl (k := 4) rfl (by rfl) (by decide) rfl (fun ls hl => ?_)
                    refine lv_goto (tgt := 48) hx hb dX8_pass_92 (by decide) ?_
                    exact ih2 (upV V2 49 ((17 + (2 * x4_2)) + 1).toNatClampNeg ((V2 49 ((17 + (2 * x4_2)) + 1).toNatClampNeg) - 1)) (x2_2 + 1) x3_2 (x4_2 + 1) hE hp H locs hP hS ls (lv_sub hl [2, 3, 1, 4, 0] rfl)
            exact L2 fu V1 x2_1 x3_1 0 hE hp _ _ hP hS _ (lv_sub hl [1, 2, 3, 4, 0] rfl)
      exact L1 fu (f_X8_begins fu V) 0 0 hE hp _ _ hP hS _ (lv_sub hl [2, 3, 1, 0] rfl)
    · have hE := hE.trans (if_neg c2)
      refine lv_sipush (v := (-1003)) hx hb dX8_pass_32 (by decide) ?_
      exact W.iret (v := (-1003)) hx hb hr (fun t ht hW => ⟨⟨(-1003), (f_X8_begins fu V), rfl, ⟨(congrArg Prod.fst hE).symm, (congrArg Prod.snd hE).symm⟩, by dsimp only; rw [ht]; exact hP⟩, hS.F ht⟩) hS.2.2 dX8_pass_35
  · have hE := hE.trans (if_pos c1)
    refine lv_sipush (v := (-1001)) hx hb dX8_pass_14 (by decide) ?_
    exact W.iret (v := (-1001)) hx hb hr (fun t ht hW => ⟨⟨(-1001), (f_X8_begins fu V), rfl, ⟨(congrArg Prod.fst hE).symm, (congrArg Prod.snd hE).symm⟩, by dsimp only; rw [ht]; exact hP⟩, hS.F ht⟩) hS.2.2 dX8_pass_17
def v_X8_set_1 (fu : Nat) (V : VT) (p1 : Int32) (p2 : Int32) : VT := (f_X8_acted fu (upV (f_X8_begins fu V) 49 (5 + p1).toNatClampNeg p2) ((f_X8_begins fu V) 49 (5 + p1).toNatClampNeg)).2
def f_X8_set (fu : Nat) (V : VT) (p1 : Int32) (p2 : Int32) : Int32 × VT := (if (f_X8_in (f_X8_begins fu V) p1 0 1) = 0 then ((-1001), (f_X8_begins fu V)) else (if (f_X8_in (f_X8_begins fu V) p2 (1 - p1) 9) = 0 then ((-1001), (f_X8_begins fu V)) else ((f_X8_acted fu (upV (f_X8_begins fu V) 49 (5 + p1).toNatClampNeg p2) ((f_X8_begins fu V) 49 (5 + p1).toNatClampNeg)).1, (v_X8_set_1 fu V p1 p2))))
def p_X8_set (fu : Nat) (V : VT) (p1 : Int32) (p2 : Int32) : Prop := ((p_X8_begins fu V ) ∧ (((f_X8_in (f_X8_begins fu V) p1 0 1) = 0 → True) ∧ (¬ ((f_X8_in (f_X8_begins fu V) p1 0 1) = 0) → (((f_X8_in (f_X8_begins fu V) p2 (1 - p1) 9) = 0 → True) ∧ (¬ ((f_X8_in (f_X8_begins fu V) p2 (1 - p1) 9) = 0) → ((vp_in (5 + p1) 49) ∧ ((vp_in (5 + p1) 49) ∧ (p_X8_acted fu (upV (f_X8_begins fu V) 49 (5 + p1).toNatClampNeg p2) ((f_X8_begins fu V) 49 (5 + p1).toNatClampNeg)))))))))
set_option maxHeartbeats 4000000 in
set_option maxRecDepth 100000 in
theorem m_X8_set (l : Launch) (D : va_G) (cI cB : ClassId) (ad : Nat → Nat) {A : Nat → Prop} (hA : adOk ad A) (fu : Nat) (V : VT) (p1 : Int32) (p2 : Int32)  (hp : p_X8_set fu V p1 p2) : Met l yX8_set wsX8_set ({ frames := 1, cells := 0, slots := 0, locals := 22 }) (cP D cI cB ad V [.ref (ad 48), .int p1, .int p2]) (cWi D cI cB ad A (f_X8_set fu V p1 p2)) 0 0 A := by
  refine Met.ofW (cc := cX8_set) (maxL := 4) (ret := (some .int)) (by decide +kernel) rfl ?_
  intro p e s m args below meth c s₁ B hml hv
  obtain ⟨rfl, hP, hKN⟩ := hv
  have hK := hKN.1
  have hx := B.exec
  have hb := B.bytes
  have hr := B.returns
  have hts := atoms_spec (ws := wsX8_set) B.pre
  have hown : s.vm.findClass RX8 = some m.cls := findClass_of_methodNamed B.named
  have hlocks := B.notSynchronized
  have hS : va_S A s.heap s.heap [] := va_S.rf
  have hl := lv_entry ([.ref (ad 48), .int p1, .int p2]) (n := 4) (Nat.le_of_ble_eq_true rfl)
  rw [lg_entry_eq]
  generalize (lg_sl ([.ref (ad 48), .int p1, .int p2]) ++ List.replicate (4 - (lg_sl ([.ref (ad 48), .int p1, .int p2])).length) Slot.unset).toArray = ls at hl ⊢
  have hl : lv_has ls 4 [(0, .ref (ad 48)), (1, .int p1), (2, .int p2)] := hl
  have hE : f_X8_set fu V p1 p2 = (if (f_X8_in (f_X8_begins fu V) p1 0 1) = 0 then ((-1001), (f_X8_begins fu V)) else (if (f_X8_in (f_X8_begins fu V) p2 (1 - p1) 9) = 0 then ((-1001), (f_X8_begins fu V)) else ((f_X8_acted fu (upV (f_X8_begins fu V) 49 (5 + p1).toNatClampNeg p2) ((f_X8_begins fu V) 49 (5 + p1).toNatClampNeg)).1, (v_X8_set_1 fu V p1 p2)))) := rfl
  refine lv_aload_n hx hb dX8_set_0 rfl (lv_at hl 0 rfl) ?_
  obtain ⟨hn1, hp⟩ := hp
  refine k_VWv (As := []) (rest := []) (q := 48) ⟨hx, hb, hml, hown, hts⟩ hKN hP hS (m_X8_begins l D cI cB ad hA fu V hn1) (cwV 0 hts gX8_set_X8_begins rfl rfl rfl (by decide +kernel) ⟨(Nat.le_of_ble_eq_true rfl), (Nat.le_of_ble_eq_true rfl)⟩) (c_preV hP hKN (q := 48) (ci := 6) (fs := [.ref (ad 49), .ref (ad 50), .ref (ad 51), .int ((V 48) 0), .ref (ad 52), .int ((V 48) 1), .ref (ad 53), .int ((V 48) 2), .int ((V 48) 3), .int ((V 48) 4), .int ((V 48) 5), .int ((V 48) 6), .int ((V 48) 7)]) (by decide) (ce_md ad cI cB (V 48)) rfl rfl) rfl hl.1 rfl (Nat.le_of_ble_eq_true rfl) dX8_set_1 ⟨Nat.zero_le _, Nat.zero_le _⟩ (fun H locs hP hS => ?_)
  refine lv_iload_n hx hb dX8_set_4 rfl (lv_at hl 1 rfl) ?_
  refine lv_iconst (v := 0) hx hb dX8_set_5 (by decide) ?_
  refine lv_iconst (v := 1) hx hb dX8_set_6 (by decide) ?_
  refine k_SR (As := [.int p1, .int 0, .int 1]) (rest := []) ⟨hx, hb, hml, hown, hts⟩ hKN hP hS (m_X8_in l D cI cB ad (f_X8_begins fu V) p1 0 1) (va_cwS 3 hts gX8_set_X8_in rfl rfl rfl (by decide +kernel) ⟨(Nat.le_of_ble_eq_true rfl), (Nat.le_of_ble_eq_true rfl)⟩) rfl hl.1 rfl (Nat.le_of_ble_eq_true rfl) dX8_set_7 ⟨Nat.zero_le _, Nat.zero_le _⟩ (fun H locs hP hS => ?_)
  refine lv_if_eq (tgt := 25) hx hb dX8_set_10 (by decide) (fun c1 => ?_) (fun c1 => ?_)
  · have hE := hE.trans (if_pos c1)
    refine lv_sipush (v := (-1001)) hx hb dX8_set_25 (by decide) ?_
    exact W.iret (v := (-1001)) hx hb hr (fun t ht hW => ⟨⟨(-1001), (f_X8_begins fu V), rfl, ⟨(congrArg Prod.fst hE).symm, (congrArg Prod.snd hE).symm⟩, by dsimp only; rw [ht]; exact hP⟩, hS.F ht⟩) hS.2.2 dX8_set_28
  · have hE := hE.trans (if_neg c1)
    have hp := pc_bn hp c1
    refine lv_iload_n hx hb dX8_set_13 rfl (lv_at hl 2 rfl) ?_
    refine lv_iconst (v := 1) hx hb dX8_set_14 (by decide) ?_
    refine lv_iload_n hx hb dX8_set_15 rfl (lv_at hl 1 rfl) ?_
    refine lv_isub hx hb dX8_set_16 ?_
    refine lv_bipush (v := 9) hx hb dX8_set_17 (by decide) ?_
    refine k_SR (As := [.int p2, .int (1 - p1), .int 9]) (rest := []) ⟨hx, hb, hml, hown, hts⟩ hKN hP hS (m_X8_in l D cI cB ad (f_X8_begins fu V) p2 (1 - p1) 9) (va_cwS 3 hts gX8_set_X8_in rfl rfl rfl (by decide +kernel) ⟨(Nat.le_of_ble_eq_true rfl), (Nat.le_of_ble_eq_true rfl)⟩) rfl hl.1 rfl (Nat.le_of_ble_eq_true rfl) dX8_set_19 ⟨Nat.zero_le _, Nat.zero_le _⟩ (fun H locs hP hS => ?_)
    refine lv_if_ne (tgt := 29) hx hb dX8_set_22 (by decide) (fun c2 => ?_) (fun c2 => ?_)
    · have hE := hE.trans (if_neg c2)
      have hp := pc_bn hp c2
      refine lv_aload_n hx hb dX8_set_29 rfl (lv_at hl 0 rfl) ?_
      refine x_get (ci := 6) (fs := [.ref (ad 49), .ref (ad 50), .ref (ad 51), .int (((f_X8_begins fu V) 48) 0), .ref (ad 52), .int (((f_X8_begins fu V) 48) 1), .ref (ad 53), .int (((f_X8_begins fu V) 48) 2), .int (((f_X8_begins fu V) 48) 3), .int (((f_X8_begins fu V) 48) 4), .int (((f_X8_begins fu V) 48) 5), .int (((f_X8_begins fu V) 48) 6), .int (((f_X8_begins fu V) 48) 7)]) (q := 48) (v := .ref (ad 49)) (N := 13) hx hb hts (fun _ h => List.mem_cons_of_mem _ (List.mem_append_right _ h)) hown hK hP (by decide) (ce_md ad cI cB ((f_X8_begins fu V) 48)) rfl 0 (by decide) (hts (.fieldLink RX8 7 "TurnedBoardsModel" "s" "[I") (List.mem_of_getElem? (i := 1) rfl)) rfl rfl dX8_set_30 ?_
      refine lv_iconst (v := 5) hx hb dX8_set_33 (by decide) ?_
      refine lv_iload_n hx hb dX8_set_34 rfl (lv_at hl 1 rfl) ?_
      refine lv_iadd hx hb dX8_set_35 ?_
      obtain ⟨hn2, hp⟩ := hp
      refine x_iald hx hb hK hP ⟨by decide, fun _ => rfl, by decide⟩ hn2 dX8_set_36 ?_
      refine lv_istore_n (lv' := [(3, .int ((f_X8_begins fu V) 49 (5 + p1).toNatClampNeg)), (0, .ref (ad 48)), (1, .int p1), (2, .int p2)]) hx hb dX8_set_37 rfl hl (by decide) rfl (fun ls hl => ?_)
      refine lv_aload_n hx hb dX8_set_38 rfl (lv_at hl 1 rfl) ?_
      refine x_get (ci := 6) (fs := [.ref (ad 49), .ref (ad 50), .ref (ad 51), .int (((f_X8_begins fu V) 48) 0), .ref (ad 52), .int (((f_X8_begins fu V) 48) 1), .ref (ad 53), .int (((f_X8_begins fu V) 48) 2), .int (((f_X8_begins fu V) 48) 3), .int (((f_X8_begins fu V) 48) 4), .int (((f_X8_begins fu V) 48) 5), .int (((f_X8_begins fu V) 48) 6), .int (((f_X8_begins fu V) 48) 7)]) (q := 48) (v := .ref (ad 49)) (N := 13) hx hb hts (fun _ h => List.mem_cons_of_mem _ (List.mem_append_right _ h)) hown hK hP (by decide) (ce_md ad cI cB ((f_X8_begins fu V) 48)) rfl 0 (by decide) (hts (.fieldLink RX8 7 "TurnedBoardsModel" "s" "[I") (List.mem_of_getElem? (i := 1) rfl)) rfl rfl dX8_set_39 ?_
      refine lv_iconst (v := 5) hx hb dX8_set_42 (by decide) ?_
      refine lv_iload_n hx hb dX8_set_43 rfl (lv_at hl 2 rfl) ?_
      refine lv_iadd hx hb dX8_set_44 ?_
      refine lv_iload_n hx hb dX8_set_45 rfl (lv_at hl 3 rfl) ?_
      obtain ⟨hn3, hp⟩ := hp
      refine x_iast hx hb hK hP hA hS ⟨by decide, fun _ => rfl, by decide⟩ hn3 dX8_set_46 (fun H locs hP hS => ?_)
      refine lv_aload_n hx hb dX8_set_47 rfl (lv_at hl 1 rfl) ?_
      refine lv_iload_n hx hb dX8_set_48 rfl (lv_at hl 0 rfl) ?_
      have hn4 := hp
      refine k_VWi (As := [.int ((f_X8_begins fu V) 49 (5 + p1).toNatClampNeg)]) (rest := []) (q := 48) ⟨hx, hb, hml, hown, hts⟩ hKN hP hS (m_X8_acted l D cI cB ad hA fu (upV (f_X8_begins fu V) 49 (5 + p1).toNatClampNeg p2) ((f_X8_begins fu V) 49 (5 + p1).toNatClampNeg) hn4) (cwV 1 hts gX8_set_X8_acted rfl rfl rfl (by decide +kernel) ⟨(Nat.le_of_ble_eq_true rfl), (Nat.le_of_ble_eq_true rfl)⟩) (c_preV hP hKN (q := 48) (ci := 6) (fs := [.ref (ad 49), .ref (ad 50), .ref (ad 51), .int (((upV (f_X8_begins fu V) 49 (5 + p1).toNatClampNeg p2) 48) 0), .ref (ad 52), .int (((upV (f_X8_begins fu V) 49 (5 + p1).toNatClampNeg p2) 48) 1), .ref (ad 53), .int (((upV (f_X8_begins fu V) 49 (5 + p1).toNatClampNeg p2) 48) 2), .int (((upV (f_X8_begins fu V) 49 (5 + p1).toNatClampNeg p2) 48) 3), .int (((upV (f_X8_begins fu V) 49 (5 + p1).toNatClampNeg p2) 48) 4), .int (((upV (f_X8_begins fu V) 49 (5 + p1).toNatClampNeg p2) 48) 5), .int (((upV (f_X8_begins fu V) 49 (5 + p1).toNatClampNeg p2) 48) 6), .int (((upV (f_X8_begins fu V) 49 (5 + p1).toNatClampNeg p2) 48) 7)]) (by decide) (ce_md ad cI cB ((upV (f_X8_begins fu V) 49 (5 + p1).toNatClampNeg p2) 48)) rfl rfl) rfl hl.1 rfl (Nat.le_of_ble_eq_true rfl) dX8_set_49 ⟨Nat.zero_le _, Nat.zero_le _⟩ (fun H locs hP hS => ?_)
      have hP : wP D cI cB ad (v_X8_set_1 fu V p1 p2) H := hP
      exact W.iret (v := (f_X8_acted fu (upV (f_X8_begins fu V) 49 (5 + p1).toNatClampNeg p2) ((f_X8_begins fu V) 49 (5 + p1).toNatClampNeg)).1) hx hb hr (fun t ht hW => ⟨⟨(f_X8_acted fu (upV (f_X8_begins fu V) 49 (5 + p1).toNatClampNeg p2) ((f_X8_begins fu V) 49 (5 + p1).toNatClampNeg)).1, (v_X8_set_1 fu V p1 p2), rfl, ⟨(congrArg Prod.fst hE).symm, (congrArg Prod.snd hE).symm⟩, by dsimp only; rw [ht]; exact hP⟩, hS.F ht⟩) hS.2.2 dX8_set_52
    · have hE := hE.trans (if_pos c2)
      refine lv_sipush (v := (-1001)) hx hb dX8_set_25 (by decide) ?_
      exact W.iret (v := (-1001)) hx hb hr (fun t ht hW => ⟨⟨(-1001), (f_X8_begins fu V), rfl, ⟨(congrArg Prod.fst hE).symm, (congrArg Prod.snd hE).symm⟩, by dsimp only; rw [ht]; exact hP⟩, hS.F ht⟩) hS.2.2 dX8_set_28
def f_X8_orNone (V : VT) (p1 : Int32) : Int32 := (if 0 ≤ p1 then p1 else (-1004))
set_option maxHeartbeats 4000000 in
set_option maxRecDepth 100000 in
theorem m_X8_orNone (l : Launch) (D : va_G) (cI cB : ClassId) (ad : Nat → Nat) (V : VT) (p1 : Int32)  : Met l yX8_orNone wsX8_orNone ({ frames := 0, cells := 0, slots := 0, locals := 0 }) (cP D cI cB ad V [.int p1]) (cR (f_X8_orNone V p1)) 0 0 (fun _ => False) := by
  refine Met.ofW (cc := cX8_orNone) (maxL := 1) (ret := (some .int)) (by decide +kernel) rfl ?_
  intro p e s m args below meth c s₁ B hml hv
  obtain ⟨rfl, hP, hKN⟩ := hv
  have hK := hKN.1
  have hx := B.exec
  have hb := B.bytes
  have hr := B.returns
  have hts := atoms_spec (ws := wsX8_orNone) B.pre
  have hown : s.vm.findClass RX8 = some m.cls := findClass_of_methodNamed B.named
  have hlocks := B.notSynchronized
  have hS : va_S (fun _ => False) s.heap s.heap [] := va_S.rf
  have hl := lv_entry ([.int p1]) (n := 1) (Nat.le_of_ble_eq_true rfl)
  rw [lg_entry_eq]
  generalize (lg_sl ([.int p1]) ++ List.replicate (1 - (lg_sl ([.int p1])).length) Slot.unset).toArray = ls at hl ⊢
  have hl : lv_has ls 1 [(0, .int p1)] := hl
  have hE : f_X8_orNone V p1 = (if 0 ≤ p1 then p1 else (-1004)) := rfl
  refine lv_iload_n hx hb dX8_orNone_0 rfl (lv_at hl 0 rfl) ?_
  refine lv_if_ge (tgt := 10) hx hb dX8_orNone_1 (by decide) (fun c1 => ?_) (fun c1 => ?_)
  · have hE := hE.trans (if_pos c1)
    refine lv_iload_n hx hb dX8_orNone_10 rfl (lv_at hl 0 rfl) ?_
    exact W.iret (v := p1) hx hb hr (fun t ht hW => ⟨⟨p1, (), rfl, hE.symm, trivial⟩, hS.F ht⟩) hS.2.2 dX8_orNone_11
  · have hE := hE.trans (if_neg c1)
    refine lv_sipush (v := (-1004)) hx hb dX8_orNone_4 (by decide) ?_
    refine lv_goto (tgt := 11) hx hb dX8_orNone_7 (by decide) ?_
    exact W.iret (v := (-1004)) hx hb hr (fun t ht hW => ⟨⟨(-1004), (), rfl, hE.symm, trivial⟩, hS.F ht⟩) hS.2.2 dX8_orNone_11
def f_X8_nearest_l1 (fu : Nat) (V : VT) (p1 : Int32) : Nat → Int32 → Int32 → Int32 → Int32
  | 0, x2_1, x3_1, x4_1 => 0
  | w1 + 1, x2_1, x3_1, x4_1 => (if 10 ≤ x4_1 then x2_1 else (if x4_1 = p1 then (if x3_1 ≤ 16 then (f_X8_nearest_l1 fu V p1 w1 x2_1 x3_1 (x4_1 + 1)) else (f_X8_nearest_l1 fu V p1 w1 x4_1 16 (x4_1 + 1))) else (if 0 ≤ (f_X8_drawn V x4_1) then (if x3_1 ≤ (f_X8_dark fu V ((f_X8_drawn V x4_1) ^^^ (f_X8_drawn V p1))) then (f_X8_nearest_l1 fu V p1 w1 x2_1 x3_1 (x4_1 + 1)) else (f_X8_nearest_l1 fu V p1 w1 x4_1 (f_X8_dark fu V ((f_X8_drawn V x4_1) ^^^ (f_X8_drawn V p1))) (x4_1 + 1))) else (if x3_1 ≤ 16 then (f_X8_nearest_l1 fu V p1 w1 x2_1 x3_1 (x4_1 + 1)) else (f_X8_nearest_l1 fu V p1 w1 x4_1 16 (x4_1 + 1))))))
def p_X8_nearest_l1 (fu : Nat) (V : VT) (p1 : Int32) : Nat → Int32 → Int32 → Int32 → Prop
  | 0, _, _, _ => False
  | w1 + 1, x2_1, x3_1, x4_1 => ((10 ≤ x4_1 → True) ∧ (¬ (10 ≤ x4_1) → ((x4_1 = p1 → ((x3_1 ≤ 16 → (p_X8_nearest_l1 fu V p1 w1 x2_1 x3_1 (x4_1 + 1))) ∧ (¬ (x3_1 ≤ 16) → (p_X8_nearest_l1 fu V p1 w1 x4_1 16 (x4_1 + 1))))) ∧ (¬ (x4_1 = p1) → ((p_X8_drawn V x4_1) ∧ ((0 ≤ (f_X8_drawn V x4_1) → ((p_X8_drawn V x4_1) ∧ ((p_X8_drawn V p1) ∧ ((p_X8_dark fu V ((f_X8_drawn V x4_1) ^^^ (f_X8_drawn V p1))) ∧ ((x3_1 ≤ (f_X8_dark fu V ((f_X8_drawn V x4_1) ^^^ (f_X8_drawn V p1))) → (p_X8_nearest_l1 fu V p1 w1 x2_1 x3_1 (x4_1 + 1))) ∧ (¬ (x3_1 ≤ (f_X8_dark fu V ((f_X8_drawn V x4_1) ^^^ (f_X8_drawn V p1)))) → (p_X8_nearest_l1 fu V p1 w1 x4_1 (f_X8_dark fu V ((f_X8_drawn V x4_1) ^^^ (f_X8_drawn V p1))) (x4_1 + 1)))))))) ∧ (¬ (0 ≤ (f_X8_drawn V x4_1)) → ((x3_1 ≤ 16 → (p_X8_nearest_l1 fu V p1 w1 x2_1 x3_1 (x4_1 + 1))) ∧ (¬ (x3_1 ≤ 16) → (p_X8_nearest_l1 fu V p1 w1 x4_1 16 (x4_1 + 1)))))))))))
def f_X8_nearest (fu : Nat) (V : VT) (p1 : Int32) : Int32 := (f_X8_nearest_l1 fu V p1 fu (-1) 16 0)
def p_X8_nearest (fu : Nat) (V : VT) (p1 : Int32) : Prop := (p_X8_nearest_l1 fu V p1 fu (-1) 16 0)
set_option maxHeartbeats 4000000 in
set_option maxRecDepth 100000 in
theorem m_X8_nearest (l : Launch) (D : va_G) (cI cB : ClassId) (ad : Nat → Nat) (fu : Nat) (V : VT) (p1 : Int32)  (hp : p_X8_nearest fu V p1) : Met l yX8_nearest wsX8_nearest ({ frames := 1, cells := 0, slots := 0, locals := 22 }) (cP D cI cB ad V [.ref (ad 48), .int p1]) (cR (f_X8_nearest fu V p1)) 0 0 (fun _ => False) := by
  refine Met.ofW (cc := cX8_nearest) (maxL := 6) (ret := (some .int)) (by decide +kernel) rfl ?_
  intro p e s m args below meth c s₁ B hml hv
  obtain ⟨rfl, hP, hKN⟩ := hv
  have hK := hKN.1
  have hx := B.exec
  have hb := B.bytes
  have hr := B.returns
  have hts := atoms_spec (ws := wsX8_nearest) B.pre
  have hown : s.vm.findClass RX8 = some m.cls := findClass_of_methodNamed B.named
  have hlocks := B.notSynchronized
  have hS : va_S (fun _ => False) s.heap s.heap [] := va_S.rf
  have hl := lv_entry ([.ref (ad 48), .int p1]) (n := 6) (Nat.le_of_ble_eq_true rfl)
  rw [lg_entry_eq]
  generalize (lg_sl ([.ref (ad 48), .int p1]) ++ List.replicate (6 - (lg_sl ([.ref (ad 48), .int p1])).length) Slot.unset).toArray = ls at hl ⊢
  have hl : lv_has ls 6 [(0, .ref (ad 48)), (1, .int p1)] := hl
  have hE : f_X8_nearest fu V p1 = (f_X8_nearest_l1 fu V p1 fu (-1) 16 0) := rfl
  refine lv_iconst (v := (-1)) hx hb dX8_nearest_0 (by decide) ?_
  refine lv_istore_n (lv' := [(2, .int (-1)), (0, .ref (ad 48)), (1, .int p1)]) hx hb dX8_nearest_1 rfl hl (by decide) rfl (fun ls hl => ?_)
  refine lv_bipush (v := 16) hx hb dX8_nearest_2 (by decide) ?_
  refine lv_istore_n (lv' := [(3, .int 16), (2, .int (-1)), (0, .ref (ad 48)), (1, .int p1)]) hx hb dX8_nearest_4 rfl hl (by decide) rfl (fun ls hl => ?_)
  refine lv_iconst (v := 0) hx hb dX8_nearest_5 (by decide) ?_
  refine lv_istore (lv' := [(4, .int 0), (3, .int 16), (2, .int (-1)), (0, .ref (ad 48)), (1, .int p1)]) hx hb dX8_nearest_6 hl (by decide) rfl (fun ls hl => ?_)
  have L1 : ∀ (w1 : Nat) (x2_1 : Int32) (x3_1 : Int32) (x4_1 : Int32), f_X8_nearest fu V p1 = f_X8_nearest_l1 fu V p1 w1 x2_1 x3_1 x4_1 → p_X8_nearest_l1 fu V p1 w1 x2_1 x3_1 x4_1 → ∀ (H : Heap) (locs : List Loc), wP D cI cB ad V H → va_S (fun _ => False) s.heap H locs → ∀ (ls : Array Slot), lv_has ls 6 [(0, .ref (ad 48)), (1, .int p1), (2, .int x2_1), (3, .int x3_1), (4, .int x4_1)] → W p l e (headSpec wsX8_nearest ({ frames := 1, cells := 0, slots := 0, locals := 22 })).room s m ([.ref (ad 48), .int p1] : List Value).toArray below meth c H locs 0 0 (MQ below (cR (f_X8_nearest fu V p1)) ([.ref (ad 48), .int p1] : List Value).toArray s 0 0 (fun _ => False)) (F0 m 8 ls []) := by
    intro w1
    induction w1 with
    | zero => intro x2_1 x3_1 x4_1 hE hp; exact hp.elim
    | succ w1 ih1 =>
      intro x2_1 x3_1 x4_1 hE hp H locs hP hS ls hl
      rw [f_X8_nearest_l1] at hE
      rw [p_X8_nearest_l1] at hp
      refine lv_iload hx hb dX8_nearest_8 (lv_at hl 4 rfl) ?_
      refine lv_bipush (v := 10) hx hb dX8_nearest_10 (by decide) ?_
      refine lv_icmp_ge (tgt := 84) hx hb dX8_nearest_12 (by decide) (fun c1 => ?_) (fun c1 => ?_)
      · have hE := hE.trans (if_pos c1)
        refine lv_iload_n hx hb dX8_nearest_84 rfl (lv_at hl 2 rfl) ?_
        exact W.iret (v := x2_1) hx hb hr (fun t ht hW => ⟨⟨x2_1, (), rfl, hE.symm, trivial⟩, hS.F ht⟩) hS.2.2 dX8_nearest_85
      · have hE := hE.trans (if_neg c1)
        have hp := pc_bn hp c1
        refine lv_iload hx hb dX8_nearest_15 (lv_at hl 4 rfl) ?_
        refine lv_iload_n hx hb dX8_nearest_17 rfl (lv_at hl 1 rfl) ?_
        refine lv_icmp_eq (tgt := 30) hx hb dX8_nearest_18 (by decide) (fun c2 => ?_) (fun c2 => ?_)
        · have hE := hE.trans (if_pos c2)
          have hp := pc_br hp c2
          refine lv_bipush (v := 16) hx hb dX8_nearest_30 (by decide) ?_
          refine lv_goto (tgt := 50) hx hb dX8_nearest_32 (by decide) ?_
          refine lv_istore (lv' := [(5, .int 16), (0, .ref (ad 48)), (1, .int p1), (2, .int x2_1), (3, .int x3_1), (4, .int x4_1)]) hx hb dX8_nearest_50 hl (by decide) rfl (fun ls hl => ?_)
          refine lv_iload hx hb dX8_nearest_52 (lv_at hl 0 rfl) ?_
          refine lv_iload_n hx hb dX8_nearest_54 rfl (lv_at hl 4 rfl) ?_
          refine lv_icmp_ge (tgt := 63) hx hb dX8_nearest_55 (by decide) (fun c3 => ?_) (fun c3 => ?_)
          · have hE := hE.trans (if_pos c3)
            have hp := pc_br hp c3
            refine lv_iload_n hx hb dX8_nearest_63 rfl (lv_at hl 3 rfl) ?_
            refine lv_istore_n (lv' := [(2, .int x2_1), (5, .int 16), (0, .ref (ad 48)), (1, .int p1), (3, .int x3_1), (4, .int x4_1)]) hx hb dX8_nearest_64 rfl hl (by decide) rfl (fun ls hl => ?_)
            refine lv_iload hx hb dX8_nearest_65 (lv_at hl 1 rfl) ?_
            refine lv_iload_n hx hb dX8_nearest_67 rfl (lv_at hl 4 rfl) ?_
            refine lv_icmp_ge (tgt := 76) hx hb dX8_nearest_68 (by decide) (fun _ => ?_) (fun hc => absurd c3 hc)
            refine lv_iload_n hx hb dX8_nearest_76 rfl (lv_at hl 4 rfl) ?_
            refine lv_istore_n (lv' := [(3, .int x3_1), (2, .int x2_1), (5, .int 16), (0, .ref (ad 48)), (1, .int p1), (4, .int x4_1)]) hx hb dX8_nearest_77 rfl hl (by decide) rfl (fun ls hl => ?_)
            refine lv_iinc (v := (x4_1 + 1)) (lv' := [(4, .int (x4_1 + 1)), (3, .int x3_1), (2, .int x2_1), (5, .int 16), (0, .ref (ad 48)), (1, .int p1)]) hx hb dX8_nearest_78 hl (k := 5) rfl (by rfl) (by decide) rfl (fun ls hl => ?_)
            refine lv_goto (tgt := 8) hx hb dX8_nearest_81 (by decide) ?_
            exact ih1 x2_1 x3_1 (x4_1 + 1) hE hp H locs hP hS ls (lv_sub hl [4, 5, 2, 1, 0] rfl)
          · have hE := hE.trans (if_neg c3)
            have hp := pc_bn hp c3
            refine lv_iload hx hb dX8_nearest_58 (lv_at hl 5 rfl) ?_
            refine lv_goto (tgt := 64) hx hb dX8_nearest_60 (by decide) ?_
            refine lv_istore_n (lv' := [(2, .int x4_1), (5, .int 16), (0, .ref (ad 48)), (1, .int p1), (3, .int x3_1), (4, .int x4_1)]) hx hb dX8_nearest_64 rfl hl (by decide) rfl (fun ls hl => ?_)
            refine lv_iload hx hb dX8_nearest_65 (lv_at hl 1 rfl) ?_
            refine lv_iload_n hx hb dX8_nearest_67 rfl (lv_at hl 4 rfl) ?_
            refine lv_icmp_ge (tgt := 76) hx hb dX8_nearest_68 (by decide) (fun hc => absurd hc c3) (fun _ => ?_)
            refine lv_iload hx hb dX8_nearest_71 (lv_at hl 1 rfl) ?_
            refine lv_goto (tgt := 77) hx hb dX8_nearest_73 (by decide) ?_
            refine lv_istore_n (lv' := [(3, .int 16), (2, .int x4_1), (5, .int 16), (0, .ref (ad 48)), (1, .int p1), (4, .int x4_1)]) hx hb dX8_nearest_77 rfl hl (by decide) rfl (fun ls hl => ?_)
            refine lv_iinc (v := (x4_1 + 1)) (lv' := [(4, .int (x4_1 + 1)), (3, .int 16), (2, .int x4_1), (5, .int 16), (0, .ref (ad 48)), (1, .int p1)]) hx hb dX8_nearest_78 hl (k := 5) rfl (by rfl) (by decide) rfl (fun ls hl => ?_)
            refine lv_goto (tgt := 8) hx hb dX8_nearest_81 (by decide) ?_
            exact ih1 x4_1 16 (x4_1 + 1) hE hp H locs hP hS ls (lv_sub hl [4, 5, 2, 1, 0] rfl)
        · have hE := hE.trans (if_neg c2)
          have hp := pc_bn hp c2
          refine lv_aload_n hx hb dX8_nearest_21 rfl (lv_at hl 0 rfl) ?_
          refine lv_iload hx hb dX8_nearest_22 (lv_at hl 4 rfl) ?_
          obtain ⟨hn1, hp⟩ := hp
          refine k_VR (As := [.int x4_1]) (rest := []) (q := 48) ⟨hx, hb, hml, hown, hts⟩ hKN hP hS (m_X8_drawn l D cI cB ad V x4_1 hn1) (cwV 1 hts gX8_nearest_X8_drawn rfl rfl rfl (by decide +kernel) ⟨(Nat.le_of_ble_eq_true rfl), (Nat.le_of_ble_eq_true rfl)⟩) (c_preV hP hKN (q := 48) (ci := 6) (fs := [.ref (ad 49), .ref (ad 50), .ref (ad 51), .int ((V 48) 0), .ref (ad 52), .int ((V 48) 1), .ref (ad 53), .int ((V 48) 2), .int ((V 48) 3), .int ((V 48) 4), .int ((V 48) 5), .int ((V 48) 6), .int ((V 48) 7)]) (by decide) (ce_md ad cI cB (V 48)) rfl rfl) rfl hl.1 rfl (Nat.le_of_ble_eq_true rfl) dX8_nearest_24 ⟨Nat.zero_le _, Nat.zero_le _⟩ (fun H locs hP hS => ?_)
          refine lv_if_ge (tgt := 35) hx hb dX8_nearest_27 (by decide) (fun c4 => ?_) (fun c4 => ?_)
          · have hE := hE.trans (if_pos c4)
            have hp := pc_br hp c4
            refine lv_aload_n hx hb dX8_nearest_35 rfl (lv_at hl 0 rfl) ?_
            refine lv_iload hx hb dX8_nearest_36 (lv_at hl 4 rfl) ?_
            obtain ⟨hn2, hp⟩ := hp
            refine k_VR (As := [.int x4_1]) (rest := []) (q := 48) ⟨hx, hb, hml, hown, hts⟩ hKN hP hS (m_X8_drawn l D cI cB ad V x4_1 hn2) (cwV 1 hts gX8_nearest_X8_drawn rfl rfl rfl (by decide +kernel) ⟨(Nat.le_of_ble_eq_true rfl), (Nat.le_of_ble_eq_true rfl)⟩) (c_preV hP hKN (q := 48) (ci := 6) (fs := [.ref (ad 49), .ref (ad 50), .ref (ad 51), .int ((V 48) 0), .ref (ad 52), .int ((V 48) 1), .ref (ad 53), .int ((V 48) 2), .int ((V 48) 3), .int ((V 48) 4), .int ((V 48) 5), .int ((V 48) 6), .int ((V 48) 7)]) (by decide) (ce_md ad cI cB (V 48)) rfl rfl) rfl hl.1 rfl (Nat.le_of_ble_eq_true rfl) dX8_nearest_38 ⟨Nat.zero_le _, Nat.zero_le _⟩ (fun H locs hP hS => ?_)
            refine lv_aload_n hx hb dX8_nearest_41 rfl (lv_at hl 0 rfl) ?_
            refine lv_iload_n hx hb dX8_nearest_42 rfl (lv_at hl 1 rfl) ?_
            obtain ⟨hn3, hp⟩ := hp
            refine k_VR (As := [.int p1]) (rest := [.int (f_X8_drawn V x4_1)]) (q := 48) ⟨hx, hb, hml, hown, hts⟩ hKN hP hS (m_X8_drawn l D cI cB ad V p1 hn3) (cwV 1 hts gX8_nearest_X8_drawn rfl rfl rfl (by decide +kernel) ⟨(Nat.le_of_ble_eq_true rfl), (Nat.le_of_ble_eq_true rfl)⟩) (c_preV hP hKN (q := 48) (ci := 6) (fs := [.ref (ad 49), .ref (ad 50), .ref (ad 51), .int ((V 48) 0), .ref (ad 52), .int ((V 48) 1), .ref (ad 53), .int ((V 48) 2), .int ((V 48) 3), .int ((V 48) 4), .int ((V 48) 5), .int ((V 48) 6), .int ((V 48) 7)]) (by decide) (ce_md ad cI cB (V 48)) rfl rfl) rfl hl.1 rfl (Nat.le_of_ble_eq_true rfl) dX8_nearest_43 ⟨Nat.zero_le _, Nat.zero_le _⟩ (fun H locs hP hS => ?_)
            refine lv_ixor hx hb dX8_nearest_46 ?_
            obtain ⟨hn4, hp⟩ := hp
            refine k_SR (As := [.int ((f_X8_drawn V x4_1) ^^^ (f_X8_drawn V p1))]) (rest := []) ⟨hx, hb, hml, hown, hts⟩ hKN hP hS (m_X8_dark l D cI cB ad fu V ((f_X8_drawn V x4_1) ^^^ (f_X8_drawn V p1)) hn4) (va_cwS 1 hts gX8_nearest_X8_dark rfl rfl rfl (by decide +kernel) ⟨(Nat.le_of_ble_eq_true rfl), (Nat.le_of_ble_eq_true rfl)⟩) rfl hl.1 rfl (Nat.le_of_ble_eq_true rfl) dX8_nearest_47 ⟨Nat.zero_le _, Nat.zero_le _⟩ (fun H locs hP hS => ?_)
            refine lv_istore (lv' := [(5, .int (f_X8_dark fu V ((f_X8_drawn V x4_1) ^^^ (f_X8_drawn V p1)))), (0, .ref (ad 48)), (1, .int p1), (2, .int x2_1), (3, .int x3_1), (4, .int x4_1)]) hx hb dX8_nearest_50 hl (by decide) rfl (fun ls hl => ?_)
            refine lv_iload hx hb dX8_nearest_52 (lv_at hl 0 rfl) ?_
            refine lv_iload_n hx hb dX8_nearest_54 rfl (lv_at hl 4 rfl) ?_
            refine lv_icmp_ge (tgt := 63) hx hb dX8_nearest_55 (by decide) (fun c5 => ?_) (fun c5 => ?_)
            · have hE := hE.trans (if_pos c5)
              have hp := pc_br hp c5
              refine lv_iload_n hx hb dX8_nearest_63 rfl (lv_at hl 3 rfl) ?_
              refine lv_istore_n (lv' := [(2, .int x2_1), (5, .int (f_X8_dark fu V ((f_X8_drawn V x4_1) ^^^ (f_X8_drawn V p1)))), (0, .ref (ad 48)), (1, .int p1), (3, .int x3_1), (4, .int x4_1)]) hx hb dX8_nearest_64 rfl hl (by decide) rfl (fun ls hl => ?_)
              refine lv_iload hx hb dX8_nearest_65 (lv_at hl 1 rfl) ?_
              refine lv_iload_n hx hb dX8_nearest_67 rfl (lv_at hl 4 rfl) ?_
              refine lv_icmp_ge (tgt := 76) hx hb dX8_nearest_68 (by decide) (fun _ => ?_) (fun hc => absurd c5 hc)
              refine lv_iload_n hx hb dX8_nearest_76 rfl (lv_at hl 4 rfl) ?_
              refine lv_istore_n (lv' := [(3, .int x3_1), (2, .int x2_1), (5, .int (f_X8_dark fu V ((f_X8_drawn V x4_1) ^^^ (f_X8_drawn V p1)))), (0, .ref (ad 48)), (1, .int p1), (4, .int x4_1)]) hx hb dX8_nearest_77 rfl hl (by decide) rfl (fun ls hl => ?_)
              refine lv_iinc (v := (x4_1 + 1)) (lv' := [(4, .int (x4_1 + 1)), (3, .int x3_1), (2, .int x2_1), (5, .int (f_X8_dark fu V ((f_X8_drawn V x4_1) ^^^ (f_X8_drawn V p1)))), (0, .ref (ad 48)), (1, .int p1)]) hx hb dX8_nearest_78 hl (k := 5) rfl (by rfl) (by decide) rfl (fun ls hl => ?_)
              refine lv_goto (tgt := 8) hx hb dX8_nearest_81 (by decide) ?_
              exact ih1 x2_1 x3_1 (x4_1 + 1) hE hp H locs hP hS ls (lv_sub hl [4, 5, 2, 1, 0] rfl)
            · have hE := hE.trans (if_neg c5)
              have hp := pc_bn hp c5
              refine lv_iload hx hb dX8_nearest_58 (lv_at hl 5 rfl) ?_
              refine lv_goto (tgt := 64) hx hb dX8_nearest_60 (by decide) ?_
              refine lv_istore_n (lv' := [(2, .int x4_1), (5, .int (f_X8_dark fu V ((f_X8_drawn V x4_1) ^^^ (f_X8_drawn V p1)))), (0, .ref (ad 48)), (1, .int p1), (3, .int x3_1), (4, .int x4_1)]) hx hb dX8_nearest_64 rfl hl (by decide) rfl (fun ls hl => ?_)
              refine lv_iload hx hb dX8_nearest_65 (lv_at hl 1 rfl) ?_
              refine lv_iload_n hx hb dX8_nearest_67 rfl (lv_at hl 4 rfl) ?_
              refine lv_icmp_ge (tgt := 76) hx hb dX8_nearest_68 (by decide) (fun hc => absurd hc c5) (fun _ => ?_)
              refine lv_iload hx hb dX8_nearest_71 (lv_at hl 1 rfl) ?_
              refine lv_goto (tgt := 77) hx hb dX8_nearest_73 (by decide) ?_
              refine lv_istore_n (lv' := [(3, .int (f_X8_dark fu V ((f_X8_drawn V x4_1) ^^^ (f_X8_drawn V p1)))), (2, .int x4_1), (5, .int (f_X8_dark fu V ((f_X8_drawn V x4_1) ^^^ (f_X8_drawn V p1)))), (0, .ref (ad 48)), (1, .int p1), (4, .int x4_1)]) hx hb dX8_nearest_77 rfl hl (by decide) rfl (fun ls hl => ?_)
              refine lv_iinc (v := (x4_1 + 1)) (lv' := [(4, .int (x4_1 + 1)), (3, .int (f_X8_dark fu V ((f_X8_drawn V x4_1) ^^^ (f_X8_drawn V p1)))), (2, .int x4_1), (5, .int (f_X8_dark fu V ((f_X8_drawn V x4_1) ^^^ (f_X8_drawn V p1)))), (0, .ref (ad 48)), (1, .int p1)]) hx hb dX8_nearest_78 hl (k := 5) rfl (by rfl) (by decide) rfl (fun ls hl => ?_)
              refine lv_goto (tgt := 8) hx hb dX8_nearest_81 (by decide) ?_
              exact ih1 x4_1 (f_X8_dark fu V ((f_X8_drawn V x4_1) ^^^ (f_X8_drawn V p1))) (x4_1 + 1) hE hp H locs hP hS ls (lv_sub hl [4, 5, 2, 1, 0] rfl)
          · have hE := hE.trans (if_neg c4)
            have hp := pc_bn hp c4
            refine lv_bipush (v := 16) hx hb dX8_nearest_30 (by decide) ?_
            refine lv_goto (tgt := 50) hx hb dX8_nearest_32 (by decide) ?_
            refine lv_istore (lv' := [(5, .int 16), (0, .ref (ad 48)), (1, .int p1), (2, .int x2_1), (3, .int x3_1), (4, .int x4_1)]) hx hb dX8_nearest_50 hl (by decide) rfl (fun ls hl => ?_)
            refine lv_iload hx hb dX8_nearest_52 (lv_at hl 0 rfl) ?_
            refine lv_iload_n hx hb dX8_nearest_54 rfl (lv_at hl 4 rfl) ?_
            refine lv_icmp_ge (tgt := 63) hx hb dX8_nearest_55 (by decide) (fun c6 => ?_) (fun c6 => ?_)
            · have hE := hE.trans (if_pos c6)
              have hp := pc_br hp c6
              refine lv_iload_n hx hb dX8_nearest_63 rfl (lv_at hl 3 rfl) ?_
              refine lv_istore_n (lv' := [(2, .int x2_1), (5, .int 16), (0, .ref (ad 48)), (1, .int p1), (3, .int x3_1), (4, .int x4_1)]) hx hb dX8_nearest_64 rfl hl (by decide) rfl (fun ls hl => ?_)
              refine lv_iload hx hb dX8_nearest_65 (lv_at hl 1 rfl) ?_
              refine lv_iload_n hx hb dX8_nearest_67 rfl (lv_at hl 4 rfl) ?_
              refine lv_icmp_ge (tgt := 76) hx hb dX8_nearest_68 (by decide) (fun _ => ?_) (fun hc => absurd c6 hc)
              refine lv_iload_n hx hb dX8_nearest_76 rfl (lv_at hl 4 rfl) ?_
              refine lv_istore_n (lv' := [(3, .int x3_1), (2, .int x2_1), (5, .int 16), (0, .ref (ad 48)), (1, .int p1), (4, .int x4_1)]) hx hb dX8_nearest_77 rfl hl (by decide) rfl (fun ls hl => ?_)
              refine lv_iinc (v := (x4_1 + 1)) (lv' := [(4, .int (x4_1 + 1)), (3, .int x3_1), (2, .int x2_1), (5, .int 16), (0, .ref (ad 48)), (1, .int p1)]) hx hb dX8_nearest_78 hl (k := 5) rfl (by rfl) (by decide) rfl (fun ls hl => ?_)
              refine lv_goto (tgt := 8) hx hb dX8_nearest_81 (by decide) ?_
              exact ih1 x2_1 x3_1 (x4_1 + 1) hE hp H locs hP hS ls (lv_sub hl [4, 5, 2, 1, 0] rfl)
            · have hE := hE.trans (if_neg c6)
              have hp := pc_bn hp c6
              refine lv_iload hx hb dX8_nearest_58 (lv_at hl 5 rfl) ?_
              refine lv_goto (tgt := 64) hx hb dX8_nearest_60 (by decide) ?_
              refine lv_istore_n (lv' := [(2, .int x4_1), (5, .int 16), (0, .ref (ad 48)), (1, .int p1), (3, .int x3_1), (4, .int x4_1)]) hx hb dX8_nearest_64 rfl hl (by decide) rfl (fun ls hl => ?_)
              refine lv_iload hx hb dX8_nearest_65 (lv_at hl 1 rfl) ?_
              refine lv_iload_n hx hb dX8_nearest_67 rfl (lv_at hl 4 rfl) ?_
              refine lv_icmp_ge (tgt := 76) hx hb dX8_nearest_68 (by decide) (fun hc => absurd hc c6) (fun _ => ?_)
              refine lv_iload hx hb dX8_nearest_71 (lv_at hl 1 rfl) ?_
              refine lv_goto (tgt := 77) hx hb dX8_nearest_73 (by decide) ?_
              refine lv_istore_n (lv' := [(3, .int 16), (2, .int x4_1), (5, .int 16), (0, .ref (ad 48)), (1, .int p1), (4, .int x4_1)]) hx hb dX8_nearest_77 rfl hl (by decide) rfl (fun ls hl => ?_)
              refine lv_iinc (v := (x4_1 + 1)) (lv' := [(4, .int (x4_1 + 1)), (3, .int 16), (2, .int x4_1), (5, .int 16), (0, .ref (ad 48)), (1, .int p1)]) hx hb dX8_nearest_78 hl (k := 5) rfl (by rfl) (by decide) rfl (fun ls hl => ?_)
              refine lv_goto (tgt := 8) hx hb dX8_nearest_81 (by decide) ?_
              exact ih1 x4_1 16 (x4_1 + 1) hE hp H locs hP hS ls (lv_sub hl [4, 5, 2, 1, 0] rfl)
  exact L1 fu (-1) 16 0 hE hp _ _ hP hS _ (lv_sub hl [3, 4, 2, 1, 0] rfl)
def f_X8_often_l1 (fu : Nat) (V : VT) (p1 : Int32) : Nat → Int32 → Int32 → Int32
  | 0, x2_1, x3_1 => 0
  | w1 + 1, x2_1, x3_1 => (if (V 49 (0 : Int32).toNatClampNeg) ≤ x3_1 then x2_1 else (if (V 49 (33 + x3_1).toNatClampNeg) = p1 then (if (V 49 (41 + x3_1).toNatClampNeg) = p1 then (f_X8_often_l1 fu V p1 w1 ((x2_1 + 1) + 1) (x3_1 + 1)) else (f_X8_often_l1 fu V p1 w1 ((x2_1 + 1) + 0) (x3_1 + 1))) else (if (V 49 (41 + x3_1).toNatClampNeg) = p1 then (f_X8_often_l1 fu V p1 w1 ((x2_1 + 0) + 1) (x3_1 + 1)) else (f_X8_often_l1 fu V p1 w1 ((x2_1 + 0) + 0) (x3_1 + 1)))))
def p_X8_often_l1 (fu : Nat) (V : VT) (p1 : Int32) : Nat → Int32 → Int32 → Prop
  | 0, _, _ => False
  | w1 + 1, x2_1, x3_1 => (((V 49 (0 : Int32).toNatClampNeg) ≤ x3_1 → True) ∧ (¬ ((V 49 (0 : Int32).toNatClampNeg) ≤ x3_1) → ((vp_in (33 + x3_1) 49) ∧ (((V 49 (33 + x3_1).toNatClampNeg) = p1 → ((vp_in (41 + x3_1) 49) ∧ (((V 49 (41 + x3_1).toNatClampNeg) = p1 → (p_X8_often_l1 fu V p1 w1 ((x2_1 + 1) + 1) (x3_1 + 1))) ∧ (¬ ((V 49 (41 + x3_1).toNatClampNeg) = p1) → (p_X8_often_l1 fu V p1 w1 ((x2_1 + 1) + 0) (x3_1 + 1)))))) ∧ (¬ ((V 49 (33 + x3_1).toNatClampNeg) = p1) → ((vp_in (41 + x3_1) 49) ∧ (((V 49 (41 + x3_1).toNatClampNeg) = p1 → (p_X8_often_l1 fu V p1 w1 ((x2_1 + 0) + 1) (x3_1 + 1))) ∧ (¬ ((V 49 (41 + x3_1).toNatClampNeg) = p1) → (p_X8_often_l1 fu V p1 w1 ((x2_1 + 0) + 0) (x3_1 + 1))))))))))
def f_X8_often (fu : Nat) (V : VT) (p1 : Int32) : Int32 := (f_X8_often_l1 fu V p1 fu 0 0)
def p_X8_often (fu : Nat) (V : VT) (p1 : Int32) : Prop := (p_X8_often_l1 fu V p1 fu 0 0)
set_option maxHeartbeats 4000000 in
set_option maxRecDepth 100000 in
theorem m_X8_often (l : Launch) (D : va_G) (cI cB : ClassId) (ad : Nat → Nat) (fu : Nat) (V : VT) (p1 : Int32)  (hp : p_X8_often fu V p1) : Met l yX8_often wsX8_often ({ frames := 0, cells := 0, slots := 0, locals := 0 }) (cP D cI cB ad V [.ref (ad 48), .int p1]) (cR (f_X8_often fu V p1)) 0 0 (fun _ => False) := by
  refine Met.ofW (cc := cX8_often) (maxL := 4) (ret := (some .int)) (by decide +kernel) rfl ?_
  intro p e s m args below meth c s₁ B hml hv
  obtain ⟨rfl, hP, hKN⟩ := hv
  have hK := hKN.1
  have hx := B.exec
  have hb := B.bytes
  have hr := B.returns
  have hts := atoms_spec (ws := wsX8_often) B.pre
  have hown : s.vm.findClass RX8 = some m.cls := findClass_of_methodNamed B.named
  have hlocks := B.notSynchronized
  have hS : va_S (fun _ => False) s.heap s.heap [] := va_S.rf
  have hl := lv_entry ([.ref (ad 48), .int p1]) (n := 4) (Nat.le_of_ble_eq_true rfl)
  rw [lg_entry_eq]
  generalize (lg_sl ([.ref (ad 48), .int p1]) ++ List.replicate (4 - (lg_sl ([.ref (ad 48), .int p1])).length) Slot.unset).toArray = ls at hl ⊢
  have hl : lv_has ls 4 [(0, .ref (ad 48)), (1, .int p1)] := hl
  have hE : f_X8_often fu V p1 = (f_X8_often_l1 fu V p1 fu 0 0) := rfl
  refine lv_iconst (v := 0) hx hb dX8_often_0 (by decide) ?_
  refine lv_istore_n (lv' := [(2, .int 0), (0, .ref (ad 48)), (1, .int p1)]) hx hb dX8_often_1 rfl hl (by decide) rfl (fun ls hl => ?_)
  refine lv_iconst (v := 0) hx hb dX8_often_2 (by decide) ?_
  refine lv_istore_n (lv' := [(3, .int 0), (2, .int 0), (0, .ref (ad 48)), (1, .int p1)]) hx hb dX8_often_3 rfl hl (by decide) rfl (fun ls hl => ?_)
  have L1 : ∀ (w1 : Nat) (x2_1 : Int32) (x3_1 : Int32), f_X8_often fu V p1 = f_X8_often_l1 fu V p1 w1 x2_1 x3_1 → p_X8_often_l1 fu V p1 w1 x2_1 x3_1 → ∀ (H : Heap) (locs : List Loc), wP D cI cB ad V H → va_S (fun _ => False) s.heap H locs → ∀ (ls : Array Slot), lv_has ls 4 [(0, .ref (ad 48)), (1, .int p1), (2, .int x2_1), (3, .int x3_1)] → W p l e (headSpec wsX8_often ({ frames := 0, cells := 0, slots := 0, locals := 0 })).room s m ([.ref (ad 48), .int p1] : List Value).toArray below meth c H locs 0 0 (MQ below (cR (f_X8_often fu V p1)) ([.ref (ad 48), .int p1] : List Value).toArray s 0 0 (fun _ => False)) (F0 m 4 ls []) := by
    intro w1
    induction w1 with
    | zero => intro x2_1 x3_1 hE hp; exact hp.elim
    | succ w1 ih1 =>
      intro x2_1 x3_1 hE hp H locs hP hS ls hl
      rw [f_X8_often_l1] at hE
      rw [p_X8_often_l1] at hp
      refine lv_iload_n hx hb dX8_often_4 rfl (lv_at hl 3 rfl) ?_
      refine lv_aload_n hx hb dX8_often_5 rfl (lv_at hl 0 rfl) ?_
      refine x_get (ci := 6) (fs := [.ref (ad 49), .ref (ad 50), .ref (ad 51), .int ((V 48) 0), .ref (ad 52), .int ((V 48) 1), .ref (ad 53), .int ((V 48) 2), .int ((V 48) 3), .int ((V 48) 4), .int ((V 48) 5), .int ((V 48) 6), .int ((V 48) 7)]) (q := 48) (v := .ref (ad 49)) (N := 13) hx hb hts (fun _ h => List.mem_cons_of_mem _ (List.mem_append_right _ h)) hown hK hP (by decide) (ce_md ad cI cB (V 48)) rfl 0 (by decide) (hts (.fieldLink RX8 7 "TurnedBoardsModel" "s" "[I") (List.mem_of_getElem? (i := 1) rfl)) rfl rfl dX8_often_6 ?_
      refine lv_iconst (v := 0) hx hb dX8_often_9 (by decide) ?_
      refine x_iald hx hb hK hP ⟨by decide, fun _ => rfl, by decide⟩ (vp_lit (i := 0) (n := 49) (by decide) (by decide)) dX8_often_10 ?_
      refine lv_icmp_ge (tgt := 62) hx hb dX8_often_11 (by decide) (fun c1 => ?_) (fun c1 => ?_)
      · have hE := hE.trans (if_pos c1)
        refine lv_iload_n hx hb dX8_often_62 rfl (lv_at hl 2 rfl) ?_
        exact W.iret (v := x2_1) hx hb hr (fun t ht hW => ⟨⟨x2_1, (), rfl, hE.symm, trivial⟩, hS.F ht⟩) hS.2.2 dX8_often_63
      · have hE := hE.trans (if_neg c1)
        have hp := pc_bn hp c1
        refine lv_iload_n hx hb dX8_often_14 rfl (lv_at hl 2 rfl) ?_
        refine lv_aload_n hx hb dX8_often_15 rfl (lv_at hl 0 rfl) ?_
        refine x_get (ci := 6) (fs := [.ref (ad 49), .ref (ad 50), .ref (ad 51), .int ((V 48) 0), .ref (ad 52), .int ((V 48) 1), .ref (ad 53), .int ((V 48) 2), .int ((V 48) 3), .int ((V 48) 4), .int ((V 48) 5), .int ((V 48) 6), .int ((V 48) 7)]) (q := 48) (v := .ref (ad 49)) (N := 13) hx hb hts (fun _ h => List.mem_cons_of_mem _ (List.mem_append_right _ h)) hown hK hP (by decide) (ce_md ad cI cB (V 48)) rfl 0 (by decide) (hts (.fieldLink RX8 7 "TurnedBoardsModel" "s" "[I") (List.mem_of_getElem? (i := 1) rfl)) rfl rfl dX8_often_16 ?_
        refine lv_bipush (v := 33) hx hb dX8_often_19 (by decide) ?_
        refine lv_iload_n hx hb dX8_often_21 rfl (lv_at hl 3 rfl) ?_
        refine lv_iadd hx hb dX8_often_22 ?_
        obtain ⟨hn1, hp⟩ := hp
        refine x_iald hx hb hK hP ⟨by decide, fun _ => rfl, by decide⟩ hn1 dX8_often_23 ?_
        refine lv_iload_n hx hb dX8_often_24 rfl (lv_at hl 1 rfl) ?_
        refine lv_icmp_ne (tgt := 32) hx hb dX8_often_25 (by decide) (fun c2 => ?_) (fun c2 => ?_)
        · have hE := hE.trans (if_neg c2)
          have hp := pc_bn hp c2
          refine lv_iconst (v := 0) hx hb dX8_often_32 (by decide) ?_
          refine lv_iadd hx hb dX8_often_33 ?_
          refine lv_istore_n (lv' := [(2, .int (x2_1 + 0)), (0, .ref (ad 48)), (1, .int p1), (3, .int x3_1)]) hx hb dX8_often_34 rfl hl (by decide) rfl (fun ls hl => ?_)
          refine lv_iload_n hx hb dX8_often_35 rfl (lv_at hl 0 rfl) ?_
          refine lv_aload_n hx hb dX8_often_36 rfl (lv_at hl 1 rfl) ?_
          refine x_get (ci := 6) (fs := [.ref (ad 49), .ref (ad 50), .ref (ad 51), .int ((V 48) 0), .ref (ad 52), .int ((V 48) 1), .ref (ad 53), .int ((V 48) 2), .int ((V 48) 3), .int ((V 48) 4), .int ((V 48) 5), .int ((V 48) 6), .int ((V 48) 7)]) (q := 48) (v := .ref (ad 49)) (N := 13) hx hb hts (fun _ h => List.mem_cons_of_mem _ (List.mem_append_right _ h)) hown hK hP (by decide) (ce_md ad cI cB (V 48)) rfl 0 (by decide) (hts (.fieldLink RX8 7 "TurnedBoardsModel" "s" "[I") (List.mem_of_getElem? (i := 1) rfl)) rfl rfl dX8_often_37 ?_
          refine lv_bipush (v := 41) hx hb dX8_often_40 (by decide) ?_
          refine lv_iload_n hx hb dX8_often_42 rfl (lv_at hl 3 rfl) ?_
          refine lv_iadd hx hb dX8_often_43 ?_
          obtain ⟨hn3, hp⟩ := hp
          refine x_iald hx hb hK hP ⟨by decide, fun _ => rfl, by decide⟩ hn3 dX8_often_44 ?_
          refine lv_iload_n hx hb dX8_often_45 rfl (lv_at hl 2 rfl) ?_
          refine lv_icmp_ne (tgt := 53) hx hb dX8_often_46 (by decide) (fun c4 => ?_) (fun c4 => ?_)
          · have hE := hE.trans (if_neg c4)
            have hp := pc_bn hp c4
            refine lv_iconst (v := 0) hx hb dX8_often_53 (by decide) ?_
            refine lv_iadd hx hb dX8_often_54 ?_
            refine lv_istore_n (lv' := [(2, .int ((x2_1 + 0) + 0)), (0, .ref (ad 48)), (1, .int p1), (3, .int x3_1)]) hx hb dX8_often_55 rfl hl (by decide) rfl (fun ls hl => ?_)
            refine lv_iinc (v := (x3_1 + 1)) (lv' := [(3, .int (x3_1 + 1)), (2, .int ((x2_1 + 0) + 0)), (0, .ref (ad 48)), (1, .int p1)]) hx hb dX8_often_56 hl (k := 3) rfl (by rfl) (by decide) rfl (fun ls hl => ?_)
            refine lv_goto (tgt := 4) hx hb dX8_often_59 (by decide) ?_
            exact ih1 ((x2_1 + 0) + 0) (x3_1 + 1) hE hp H locs hP hS ls (lv_sub hl [2, 3, 1, 0] rfl)
          · have hE := hE.trans (if_pos c4)
            have hp := pc_br hp c4
            refine lv_iconst (v := 1) hx hb dX8_often_49 (by decide) ?_
            refine lv_goto (tgt := 54) hx hb dX8_often_50 (by decide) ?_
            refine lv_iadd hx hb dX8_often_54 ?_
            refine lv_istore_n (lv' := [(2, .int ((x2_1 + 0) + 1)), (0, .ref (ad 48)), (1, .int p1), (3, .int x3_1)]) hx hb dX8_often_55 rfl hl (by decide) rfl (fun ls hl => ?_)
            refine lv_iinc (v := (x3_1 + 1)) (lv' := [(3, .int (x3_1 + 1)), (2, .int ((x2_1 + 0) + 1)), (0, .ref (ad 48)), (1, .int p1)]) hx hb dX8_often_56 hl (k := 3) rfl (by rfl) (by decide) rfl (fun ls hl => ?_)
            refine lv_goto (tgt := 4) hx hb dX8_often_59 (by decide) ?_
            exact ih1 ((x2_1 + 0) + 1) (x3_1 + 1) hE hp H locs hP hS ls (lv_sub hl [2, 3, 1, 0] rfl)
        · have hE := hE.trans (if_pos c2)
          have hp := pc_br hp c2
          refine lv_iconst (v := 1) hx hb dX8_often_28 (by decide) ?_
          refine lv_goto (tgt := 33) hx hb dX8_often_29 (by decide) ?_
          refine lv_iadd hx hb dX8_often_33 ?_
          refine lv_istore_n (lv' := [(2, .int (x2_1 + 1)), (0, .ref (ad 48)), (1, .int p1), (3, .int x3_1)]) hx hb dX8_often_34 rfl hl (by decide) rfl (fun ls hl => ?_)
          refine lv_iload_n hx hb dX8_often_35 rfl (lv_at hl 0 rfl) ?_
          refine lv_aload_n hx hb dX8_often_36 rfl (lv_at hl 1 rfl) ?_
          refine x_get (ci := 6) (fs := [.ref (ad 49), .ref (ad 50), .ref (ad 51), .int ((V 48) 0), .ref (ad 52), .int ((V 48) 1), .ref (ad 53), .int ((V 48) 2), .int ((V 48) 3), .int ((V 48) 4), .int ((V 48) 5), .int ((V 48) 6), .int ((V 48) 7)]) (q := 48) (v := .ref (ad 49)) (N := 13) hx hb hts (fun _ h => List.mem_cons_of_mem _ (List.mem_append_right _ h)) hown hK hP (by decide) (ce_md ad cI cB (V 48)) rfl 0 (by decide) (hts (.fieldLink RX8 7 "TurnedBoardsModel" "s" "[I") (List.mem_of_getElem? (i := 1) rfl)) rfl rfl dX8_often_37 ?_
          refine lv_bipush (v := 41) hx hb dX8_often_40 (by decide) ?_
          refine lv_iload_n hx hb dX8_often_42 rfl (lv_at hl 3 rfl) ?_
          refine lv_iadd hx hb dX8_often_43 ?_
          obtain ⟨hn2, hp⟩ := hp
          refine x_iald hx hb hK hP ⟨by decide, fun _ => rfl, by decide⟩ hn2 dX8_often_44 ?_
          refine lv_iload_n hx hb dX8_often_45 rfl (lv_at hl 2 rfl) ?_
          refine lv_icmp_ne (tgt := 53) hx hb dX8_often_46 (by decide) (fun c3 => ?_) (fun c3 => ?_)
          · have hE := hE.trans (if_neg c3)
            have hp := pc_bn hp c3
            refine lv_iconst (v := 0) hx hb dX8_often_53 (by decide) ?_
            refine lv_iadd hx hb dX8_often_54 ?_
            refine lv_istore_n (lv' := [(2, .int ((x2_1 + 1) + 0)), (0, .ref (ad 48)), (1, .int p1), (3, .int x3_1)]) hx hb dX8_often_55 rfl hl (by decide) rfl (fun ls hl => ?_)
            refine lv_iinc (v := (x3_1 + 1)) (lv' := [(3, .int (x3_1 + 1)), (2, .int ((x2_1 + 1) + 0)), (0, .ref (ad 48)), (1, .int p1)]) hx hb dX8_often_56 hl (k := 3) rfl (by rfl) (by decide) rfl (fun ls hl => ?_)
            refine lv_goto (tgt := 4) hx hb dX8_often_59 (by decide) ?_
            exact ih1 ((x2_1 + 1) + 0) (x3_1 + 1) hE hp H locs hP hS ls (lv_sub hl [2, 3, 1, 0] rfl)
          · have hE := hE.trans (if_pos c3)
            have hp := pc_br hp c3
            refine lv_iconst (v := 1) hx hb dX8_often_49 (by decide) ?_
            refine lv_goto (tgt := 54) hx hb dX8_often_50 (by decide) ?_
            refine lv_iadd hx hb dX8_often_54 ?_
            refine lv_istore_n (lv' := [(2, .int ((x2_1 + 1) + 1)), (0, .ref (ad 48)), (1, .int p1), (3, .int x3_1)]) hx hb dX8_often_55 rfl hl (by decide) rfl (fun ls hl => ?_)
            refine lv_iinc (v := (x3_1 + 1)) (lv' := [(3, .int (x3_1 + 1)), (2, .int ((x2_1 + 1) + 1)), (0, .ref (ad 48)), (1, .int p1)]) hx hb dX8_often_56 hl (k := 3) rfl (by rfl) (by decide) rfl (fun ls hl => ?_)
            refine lv_goto (tgt := 4) hx hb dX8_often_59 (by decide) ?_
            exact ih1 ((x2_1 + 1) + 1) (x3_1 + 1) hE hp H locs hP hS ls (lv_sub hl [2, 3, 1, 0] rfl)
  exact L1 fu 0 0 hE hp _ _ hP hS _ (lv_sub hl [2, 3, 1, 0] rfl)
def f_X8_letterOf (fu : Nat) (V : VT) (p1 : Int32) (p2 : Int32) : Int32 := (if (f_X8_in V p1 0 9) = 0 then (-1001) else (if (f_X8_in V p2 0 5) = 0 then (-1001) else (if p2 = 5 then (f_X8_often fu V p1) else (if 0 ≤ (f_X8_drawn V p1) then (if p2 = 0 then (f_X8_drawn V p1) else (if p2 = 1 then (f_X8_turned fu V (f_X8_drawn V p1)) else (if p2 = 2 then (f_X8_dark fu V (f_X8_drawn V p1)) else (if p2 = 3 then (f_X8_readAs fu V (f_X8_turned fu V (f_X8_drawn V p1))) else (f_X8_orNone V (f_X8_nearest fu V p1)))))) else (-1004)))))
def p_X8_letterOf (fu : Nat) (V : VT) (p1 : Int32) (p2 : Int32) : Prop := (((f_X8_in V p1 0 9) = 0 → True) ∧ (¬ ((f_X8_in V p1 0 9) = 0) → (((f_X8_in V p2 0 5) = 0 → True) ∧ (¬ ((f_X8_in V p2 0 5) = 0) → ((p2 = 5 → (p_X8_often fu V p1)) ∧ (¬ (p2 = 5) → ((p_X8_drawn V p1) ∧ ((0 ≤ (f_X8_drawn V p1) → ((p2 = 0 → (p_X8_drawn V p1)) ∧ (¬ (p2 = 0) → ((p2 = 1 → ((p_X8_drawn V p1) ∧ (p_X8_turned fu V (f_X8_drawn V p1)))) ∧ (¬ (p2 = 1) → ((p2 = 2 → ((p_X8_drawn V p1) ∧ (p_X8_dark fu V (f_X8_drawn V p1)))) ∧ (¬ (p2 = 2) → ((p2 = 3 → ((p_X8_drawn V p1) ∧ ((p_X8_turned fu V (f_X8_drawn V p1)) ∧ (p_X8_readAs fu V (f_X8_turned fu V (f_X8_drawn V p1)))))) ∧ (¬ (p2 = 3) → (p_X8_nearest fu V p1)))))))))) ∧ (¬ (0 ≤ (f_X8_drawn V p1)) → True)))))))))
set_option maxHeartbeats 4000000 in
set_option maxRecDepth 100000 in
theorem m_X8_letterOf (l : Launch) (D : va_G) (cI cB : ClassId) (ad : Nat → Nat) (fu : Nat) (V : VT) (p1 : Int32) (p2 : Int32)  (hp : p_X8_letterOf fu V p1 p2) : Met l yX8_letterOf wsX8_letterOf ({ frames := 2, cells := 0, slots := 0, locals := 47 }) (cP D cI cB ad V [.ref (ad 48), .int p1, .int p2]) (cR (f_X8_letterOf fu V p1 p2)) 0 0 (fun _ => False) := by
  refine Met.ofW (cc := cX8_letterOf) (maxL := 3) (ret := (some .int)) (by decide +kernel) rfl ?_
  intro p e s m args below meth c s₁ B hml hv
  obtain ⟨rfl, hP, hKN⟩ := hv
  have hK := hKN.1
  have hx := B.exec
  have hb := B.bytes
  have hr := B.returns
  have hts := atoms_spec (ws := wsX8_letterOf) B.pre
  have hown : s.vm.findClass RX8 = some m.cls := findClass_of_methodNamed B.named
  have hlocks := B.notSynchronized
  have hS : va_S (fun _ => False) s.heap s.heap [] := va_S.rf
  have hl := lv_entry ([.ref (ad 48), .int p1, .int p2]) (n := 3) (Nat.le_of_ble_eq_true rfl)
  rw [lg_entry_eq]
  generalize (lg_sl ([.ref (ad 48), .int p1, .int p2]) ++ List.replicate (3 - (lg_sl ([.ref (ad 48), .int p1, .int p2])).length) Slot.unset).toArray = ls at hl ⊢
  have hl : lv_has ls 3 [(0, .ref (ad 48)), (1, .int p1), (2, .int p2)] := hl
  have hE : f_X8_letterOf fu V p1 p2 = (if (f_X8_in V p1 0 9) = 0 then (-1001) else (if (f_X8_in V p2 0 5) = 0 then (-1001) else (if p2 = 5 then (f_X8_often fu V p1) else (if 0 ≤ (f_X8_drawn V p1) then (if p2 = 0 then (f_X8_drawn V p1) else (if p2 = 1 then (f_X8_turned fu V (f_X8_drawn V p1)) else (if p2 = 2 then (f_X8_dark fu V (f_X8_drawn V p1)) else (if p2 = 3 then (f_X8_readAs fu V (f_X8_turned fu V (f_X8_drawn V p1))) else (f_X8_orNone V (f_X8_nearest fu V p1)))))) else (-1004))))) := rfl
  refine lv_iload_n hx hb dX8_letterOf_0 rfl (lv_at hl 1 rfl) ?_
  refine lv_iconst (v := 0) hx hb dX8_letterOf_1 (by decide) ?_
  refine lv_bipush (v := 9) hx hb dX8_letterOf_2 (by decide) ?_
  refine k_SR (As := [.int p1, .int 0, .int 9]) (rest := []) ⟨hx, hb, hml, hown, hts⟩ hKN hP hS (m_X8_in l D cI cB ad V p1 0 9) (va_cwS 3 hts gX8_letterOf_X8_in rfl rfl rfl (by decide +kernel) ⟨(Nat.le_of_ble_eq_true rfl), (Nat.le_of_ble_eq_true rfl)⟩) rfl hl.1 rfl (Nat.le_of_ble_eq_true rfl) dX8_letterOf_4 ⟨Nat.zero_le _, Nat.zero_le _⟩ (fun H locs hP hS => ?_)
  refine lv_if_eq (tgt := 19) hx hb dX8_letterOf_7 (by decide) (fun c1 => ?_) (fun c1 => ?_)
  · have hE := hE.trans (if_pos c1)
    refine lv_sipush (v := (-1001)) hx hb dX8_letterOf_19 (by decide) ?_
    exact W.iret (v := (-1001)) hx hb hr (fun t ht hW => ⟨⟨(-1001), (), rfl, hE.symm, trivial⟩, hS.F ht⟩) hS.2.2 dX8_letterOf_22
  · have hE := hE.trans (if_neg c1)
    have hp := pc_bn hp c1
    refine lv_iload_n hx hb dX8_letterOf_10 rfl (lv_at hl 2 rfl) ?_
    refine lv_iconst (v := 0) hx hb dX8_letterOf_11 (by decide) ?_
    refine lv_iconst (v := 5) hx hb dX8_letterOf_12 (by decide) ?_
    refine k_SR (As := [.int p2, .int 0, .int 5]) (rest := []) ⟨hx, hb, hml, hown, hts⟩ hKN hP hS (m_X8_in l D cI cB ad V p2 0 5) (va_cwS 3 hts gX8_letterOf_X8_in rfl rfl rfl (by decide +kernel) ⟨(Nat.le_of_ble_eq_true rfl), (Nat.le_of_ble_eq_true rfl)⟩) rfl hl.1 rfl (Nat.le_of_ble_eq_true rfl) dX8_letterOf_13 ⟨Nat.zero_le _, Nat.zero_le _⟩ (fun H locs hP hS => ?_)
    refine lv_if_ne (tgt := 23) hx hb dX8_letterOf_16 (by decide) (fun c2 => ?_) (fun c2 => ?_)
    · have hE := hE.trans (if_neg c2)
      have hp := pc_bn hp c2
      refine lv_iload_n hx hb dX8_letterOf_23 rfl (lv_at hl 2 rfl) ?_
      refine lv_iconst (v := 5) hx hb dX8_letterOf_24 (by decide) ?_
      refine lv_icmp_ne (tgt := 34) hx hb dX8_letterOf_25 (by decide) (fun c3 => ?_) (fun c3 => ?_)
      · have hE := hE.trans (if_neg c3)
        have hp := pc_bn hp c3
        refine lv_aload_n hx hb dX8_letterOf_34 rfl (lv_at hl 0 rfl) ?_
        refine lv_iload_n hx hb dX8_letterOf_35 rfl (lv_at hl 1 rfl) ?_
        obtain ⟨hn2, hp⟩ := hp
        refine k_VR (As := [.int p1]) (rest := []) (q := 48) ⟨hx, hb, hml, hown, hts⟩ hKN hP hS (m_X8_drawn l D cI cB ad V p1 hn2) (cwV 1 hts gX8_letterOf_X8_drawn rfl rfl rfl (by decide +kernel) ⟨(Nat.le_of_ble_eq_true rfl), (Nat.le_of_ble_eq_true rfl)⟩) (c_preV hP hKN (q := 48) (ci := 6) (fs := [.ref (ad 49), .ref (ad 50), .ref (ad 51), .int ((V 48) 0), .ref (ad 52), .int ((V 48) 1), .ref (ad 53), .int ((V 48) 2), .int ((V 48) 3), .int ((V 48) 4), .int ((V 48) 5), .int ((V 48) 6), .int ((V 48) 7)]) (by decide) (ce_md ad cI cB (V 48)) rfl rfl) rfl hl.1 rfl (Nat.le_of_ble_eq_true rfl) dX8_letterOf_36 ⟨Nat.zero_le _, Nat.zero_le _⟩ (fun H locs hP hS => ?_)
        refine lv_if_ge (tgt := 46) hx hb dX8_letterOf_39 (by decide) (fun c4 => ?_) (fun c4 => ?_)
        · have hE := hE.trans (if_pos c4)
          have hp := pc_br hp c4
          refine lv_iload_n hx hb dX8_letterOf_46 rfl (lv_at hl 2 rfl) ?_
          rcases Decidable.em (p2 = 0) with c5 | c5
          · have hE := hE.trans (if_pos c5)
            have hp := pc_br hp c5
            refine lv_tableIn (off := 29) (tgt := 76) hx hb dX8_letterOf_47 (by rw [c5]; decide) (by rw [c5]; decide) (by rw [c5]; rfl) (by decide) ?_
            refine lv_aload_n hx hb dX8_letterOf_76 rfl (lv_at hl 0 rfl) ?_
            refine lv_iload_n hx hb dX8_letterOf_77 rfl (lv_at hl 1 rfl) ?_
            have hn3 := hp
            refine k_VR (As := [.int p1]) (rest := []) (q := 48) ⟨hx, hb, hml, hown, hts⟩ hKN hP hS (m_X8_drawn l D cI cB ad V p1 hn3) (cwV 1 hts gX8_letterOf_X8_drawn rfl rfl rfl (by decide +kernel) ⟨(Nat.le_of_ble_eq_true rfl), (Nat.le_of_ble_eq_true rfl)⟩) (c_preV hP hKN (q := 48) (ci := 6) (fs := [.ref (ad 49), .ref (ad 50), .ref (ad 51), .int ((V 48) 0), .ref (ad 52), .int ((V 48) 1), .ref (ad 53), .int ((V 48) 2), .int ((V 48) 3), .int ((V 48) 4), .int ((V 48) 5), .int ((V 48) 6), .int ((V 48) 7)]) (by decide) (ce_md ad cI cB (V 48)) rfl rfl) rfl hl.1 rfl (Nat.le_of_ble_eq_true rfl) dX8_letterOf_78 ⟨Nat.zero_le _, Nat.zero_le _⟩ (fun H locs hP hS => ?_)
            exact W.iret (v := (f_X8_drawn V p1)) hx hb hr (fun t ht hW => ⟨⟨(f_X8_drawn V p1), (), rfl, hE.symm, trivial⟩, hS.F ht⟩) hS.2.2 dX8_letterOf_81
          · have hE := hE.trans (if_neg c5)
            have hp := pc_bn hp c5
            rcases Decidable.em (p2 = 1) with c6 | c6
            · have hE := hE.trans (if_pos c6)
              have hp := pc_br hp c6
              refine lv_tableIn (off := 35) (tgt := 82) hx hb dX8_letterOf_47 (by rw [c6]; decide) (by rw [c6]; decide) (by rw [c6]; rfl) (by decide) ?_
              refine lv_aload_n hx hb dX8_letterOf_82 rfl (lv_at hl 0 rfl) ?_
              refine lv_iload_n hx hb dX8_letterOf_83 rfl (lv_at hl 1 rfl) ?_
              obtain ⟨hn4, hp⟩ := hp
              refine k_VR (As := [.int p1]) (rest := []) (q := 48) ⟨hx, hb, hml, hown, hts⟩ hKN hP hS (m_X8_drawn l D cI cB ad V p1 hn4) (cwV 1 hts gX8_letterOf_X8_drawn rfl rfl rfl (by decide +kernel) ⟨(Nat.le_of_ble_eq_true rfl), (Nat.le_of_ble_eq_true rfl)⟩) (c_preV hP hKN (q := 48) (ci := 6) (fs := [.ref (ad 49), .ref (ad 50), .ref (ad 51), .int ((V 48) 0), .ref (ad 52), .int ((V 48) 1), .ref (ad 53), .int ((V 48) 2), .int ((V 48) 3), .int ((V 48) 4), .int ((V 48) 5), .int ((V 48) 6), .int ((V 48) 7)]) (by decide) (ce_md ad cI cB (V 48)) rfl rfl) rfl hl.1 rfl (Nat.le_of_ble_eq_true rfl) dX8_letterOf_84 ⟨Nat.zero_le _, Nat.zero_le _⟩ (fun H locs hP hS => ?_)
              have hn5 := hp
              refine k_SR (As := [.int (f_X8_drawn V p1)]) (rest := []) ⟨hx, hb, hml, hown, hts⟩ hKN hP hS (m_X8_turned l D cI cB ad fu V (f_X8_drawn V p1) hn5) (va_cwS 1 hts gX8_letterOf_X8_turned rfl rfl rfl (by decide +kernel) ⟨(Nat.le_of_ble_eq_true rfl), (Nat.le_of_ble_eq_true rfl)⟩) rfl hl.1 rfl (Nat.le_of_ble_eq_true rfl) dX8_letterOf_87 ⟨Nat.zero_le _, Nat.zero_le _⟩ (fun H locs hP hS => ?_)
              exact W.iret (v := (f_X8_turned fu V (f_X8_drawn V p1))) hx hb hr (fun t ht hW => ⟨⟨(f_X8_turned fu V (f_X8_drawn V p1)), (), rfl, hE.symm, trivial⟩, hS.F ht⟩) hS.2.2 dX8_letterOf_90
            · have hE := hE.trans (if_neg c6)
              have hp := pc_bn hp c6
              rcases Decidable.em (p2 = 2) with c7 | c7
              · have hE := hE.trans (if_pos c7)
                have hp := pc_br hp c7
                refine lv_tableIn (off := 44) (tgt := 91) hx hb dX8_letterOf_47 (by rw [c7]; decide) (by rw [c7]; decide) (by rw [c7]; rfl) (by decide) ?_
                refine lv_aload_n hx hb dX8_letterOf_91 rfl (lv_at hl 0 rfl) ?_
                refine lv_iload_n hx hb dX8_letterOf_92 rfl (lv_at hl 1 rfl) ?_
                obtain ⟨hn6, hp⟩ := hp
                refine k_VR (As := [.int p1]) (rest := []) (q := 48) ⟨hx, hb, hml, hown, hts⟩ hKN hP hS (m_X8_drawn l D cI cB ad V p1 hn6) (cwV 1 hts gX8_letterOf_X8_drawn rfl rfl rfl (by decide +kernel) ⟨(Nat.le_of_ble_eq_true rfl), (Nat.le_of_ble_eq_true rfl)⟩) (c_preV hP hKN (q := 48) (ci := 6) (fs := [.ref (ad 49), .ref (ad 50), .ref (ad 51), .int ((V 48) 0), .ref (ad 52), .int ((V 48) 1), .ref (ad 53), .int ((V 48) 2), .int ((V 48) 3), .int ((V 48) 4), .int ((V 48) 5), .int ((V 48) 6), .int ((V 48) 7)]) (by decide) (ce_md ad cI cB (V 48)) rfl rfl) rfl hl.1 rfl (Nat.le_of_ble_eq_true rfl) dX8_letterOf_93 ⟨Nat.zero_le _, Nat.zero_le _⟩ (fun H locs hP hS => ?_)
                have hn7 := hp
                refine k_SR (As := [.int (f_X8_drawn V p1)]) (rest := []) ⟨hx, hb, hml, hown, hts⟩ hKN hP hS (m_X8_dark l D cI cB ad fu V (f_X8_drawn V p1) hn7) (va_cwS 1 hts gX8_letterOf_X8_dark rfl rfl rfl (by decide +kernel) ⟨(Nat.le_of_ble_eq_true rfl), (Nat.le_of_ble_eq_true rfl)⟩) rfl hl.1 rfl (Nat.le_of_ble_eq_true rfl) dX8_letterOf_96 ⟨Nat.zero_le _, Nat.zero_le _⟩ (fun H locs hP hS => ?_)
                exact W.iret (v := (f_X8_dark fu V (f_X8_drawn V p1))) hx hb hr (fun t ht hW => ⟨⟨(f_X8_dark fu V (f_X8_drawn V p1)), (), rfl, hE.symm, trivial⟩, hS.F ht⟩) hS.2.2 dX8_letterOf_99
              · have hE := hE.trans (if_neg c7)
                have hp := pc_bn hp c7
                rcases Decidable.em (p2 = 3) with c8 | c8
                · have hE := hE.trans (if_pos c8)
                  have hp := pc_br hp c8
                  refine lv_tableIn (off := 53) (tgt := 100) hx hb dX8_letterOf_47 (by rw [c8]; decide) (by rw [c8]; decide) (by rw [c8]; rfl) (by decide) ?_
                  refine lv_aload_n hx hb dX8_letterOf_100 rfl (lv_at hl 0 rfl) ?_
                  refine lv_aload_n hx hb dX8_letterOf_101 rfl (lv_at hl 0 rfl) ?_
                  refine lv_iload_n hx hb dX8_letterOf_102 rfl (lv_at hl 1 rfl) ?_
                  obtain ⟨hn8, hp⟩ := hp
                  refine k_VR (As := [.int p1]) (rest := [.ref (ad 48)]) (q := 48) ⟨hx, hb, hml, hown, hts⟩ hKN hP hS (m_X8_drawn l D cI cB ad V p1 hn8) (cwV 1 hts gX8_letterOf_X8_drawn rfl rfl rfl (by decide +kernel) ⟨(Nat.le_of_ble_eq_true rfl), (Nat.le_of_ble_eq_true rfl)⟩) (c_preV hP hKN (q := 48) (ci := 6) (fs := [.ref (ad 49), .ref (ad 50), .ref (ad 51), .int ((V 48) 0), .ref (ad 52), .int ((V 48) 1), .ref (ad 53), .int ((V 48) 2), .int ((V 48) 3), .int ((V 48) 4), .int ((V 48) 5), .int ((V 48) 6), .int ((V 48) 7)]) (by decide) (ce_md ad cI cB (V 48)) rfl rfl) rfl hl.1 rfl (Nat.le_of_ble_eq_true rfl) dX8_letterOf_103 ⟨Nat.zero_le _, Nat.zero_le _⟩ (fun H locs hP hS => ?_)
                  obtain ⟨hn9, hp⟩ := hp
                  refine k_SR (As := [.int (f_X8_drawn V p1)]) (rest := [.ref (ad 48)]) ⟨hx, hb, hml, hown, hts⟩ hKN hP hS (m_X8_turned l D cI cB ad fu V (f_X8_drawn V p1) hn9) (va_cwS 1 hts gX8_letterOf_X8_turned rfl rfl rfl (by decide +kernel) ⟨(Nat.le_of_ble_eq_true rfl), (Nat.le_of_ble_eq_true rfl)⟩) rfl hl.1 rfl (Nat.le_of_ble_eq_true rfl) dX8_letterOf_106 ⟨Nat.zero_le _, Nat.zero_le _⟩ (fun H locs hP hS => ?_)
                  have hn10 := hp
                  refine k_VR (As := [.int (f_X8_turned fu V (f_X8_drawn V p1))]) (rest := []) (q := 48) ⟨hx, hb, hml, hown, hts⟩ hKN hP hS (m_X8_readAs l D cI cB ad fu V (f_X8_turned fu V (f_X8_drawn V p1)) hn10) (cwV 1 hts gX8_letterOf_X8_readAs rfl rfl rfl (by decide +kernel) ⟨(Nat.le_of_ble_eq_true rfl), (Nat.le_of_ble_eq_true rfl)⟩) (c_preV hP hKN (q := 48) (ci := 6) (fs := [.ref (ad 49), .ref (ad 50), .ref (ad 51), .int ((V 48) 0), .ref (ad 52), .int ((V 48) 1), .ref (ad 53), .int ((V 48) 2), .int ((V 48) 3), .int ((V 48) 4), .int ((V 48) 5), .int ((V 48) 6), .int ((V 48) 7)]) (by decide) (ce_md ad cI cB (V 48)) rfl rfl) rfl hl.1 rfl (Nat.le_of_ble_eq_true rfl) dX8_letterOf_109 ⟨Nat.zero_le _, Nat.zero_le _⟩ (fun H locs hP hS => ?_)
                  exact W.iret (v := (f_X8_readAs fu V (f_X8_turned fu V (f_X8_drawn V p1)))) hx hb hr (fun t ht hW => ⟨⟨(f_X8_readAs fu V (f_X8_turned fu V (f_X8_drawn V p1))), (), rfl, hE.symm, trivial⟩, hS.F ht⟩) hS.2.2 dX8_letterOf_112
                · have hE := hE.trans (if_neg c8)
                  have hp := pc_bn hp c8
                  refine lv_tableOut (tgt := 113) hx hb dX8_letterOf_47 (by have e0 := lv_neT (k := 0) (a := 0) c5 rfl; have e1 := lv_neT (k := 1) (a := 1) c6 rfl; have e2 := lv_neT (k := 2) (a := 2) c7 rfl; have e3 := lv_neT (k := 3) (a := 3) c8 rfl; omega) (by decide) ?_
                  refine lv_aload_n hx hb dX8_letterOf_113 rfl (lv_at hl 0 rfl) ?_
                  refine lv_iload_n hx hb dX8_letterOf_114 rfl (lv_at hl 1 rfl) ?_
                  have hn11 := hp
                  refine k_VR (As := [.int p1]) (rest := []) (q := 48) ⟨hx, hb, hml, hown, hts⟩ hKN hP hS (m_X8_nearest l D cI cB ad fu V p1 hn11) (cwV 1 hts gX8_letterOf_X8_nearest rfl rfl rfl (by decide +kernel) ⟨(Nat.le_of_ble_eq_true rfl), (Nat.le_of_ble_eq_true rfl)⟩) (c_preV hP hKN (q := 48) (ci := 6) (fs := [.ref (ad 49), .ref (ad 50), .ref (ad 51), .int ((V 48) 0), .ref (ad 52), .int ((V 48) 1), .ref (ad 53), .int ((V 48) 2), .int ((V 48) 3), .int ((V 48) 4), .int ((V 48) 5), .int ((V 48) 6), .int ((V 48) 7)]) (by decide) (ce_md ad cI cB (V 48)) rfl rfl) rfl hl.1 rfl (Nat.le_of_ble_eq_true rfl) dX8_letterOf_115 ⟨Nat.zero_le _, Nat.zero_le _⟩ (fun H locs hP hS => ?_)
                  refine k_SR (As := [.int (f_X8_nearest fu V p1)]) (rest := []) ⟨hx, hb, hml, hown, hts⟩ hKN hP hS (m_X8_orNone l D cI cB ad V (f_X8_nearest fu V p1)) (va_cwS 1 hts gX8_letterOf_X8_orNone rfl rfl rfl (by decide +kernel) ⟨(Nat.le_of_ble_eq_true rfl), (Nat.le_of_ble_eq_true rfl)⟩) rfl hl.1 rfl (Nat.le_of_ble_eq_true rfl) dX8_letterOf_118 ⟨Nat.zero_le _, Nat.zero_le _⟩ (fun H locs hP hS => ?_)
                  exact W.iret (v := (f_X8_orNone V (f_X8_nearest fu V p1))) hx hb hr (fun t ht hW => ⟨⟨(f_X8_orNone V (f_X8_nearest fu V p1)), (), rfl, hE.symm, trivial⟩, hS.F ht⟩) hS.2.2 dX8_letterOf_121
        · have hE := hE.trans (if_neg c4)
          refine lv_sipush (v := (-1004)) hx hb dX8_letterOf_42 (by decide) ?_
          exact W.iret (v := (-1004)) hx hb hr (fun t ht hW => ⟨⟨(-1004), (), rfl, hE.symm, trivial⟩, hS.F ht⟩) hS.2.2 dX8_letterOf_45
      · have hE := hE.trans (if_pos c3)
        have hp := pc_br hp c3
        refine lv_aload_n hx hb dX8_letterOf_28 rfl (lv_at hl 0 rfl) ?_
        refine lv_iload_n hx hb dX8_letterOf_29 rfl (lv_at hl 1 rfl) ?_
        have hn1 := hp
        refine k_VR (As := [.int p1]) (rest := []) (q := 48) ⟨hx, hb, hml, hown, hts⟩ hKN hP hS (m_X8_often l D cI cB ad fu V p1 hn1) (cwV 1 hts gX8_letterOf_X8_often rfl rfl rfl (by decide +kernel) ⟨(Nat.le_of_ble_eq_true rfl), (Nat.le_of_ble_eq_true rfl)⟩) (c_preV hP hKN (q := 48) (ci := 6) (fs := [.ref (ad 49), .ref (ad 50), .ref (ad 51), .int ((V 48) 0), .ref (ad 52), .int ((V 48) 1), .ref (ad 53), .int ((V 48) 2), .int ((V 48) 3), .int ((V 48) 4), .int ((V 48) 5), .int ((V 48) 6), .int ((V 48) 7)]) (by decide) (ce_md ad cI cB (V 48)) rfl rfl) rfl hl.1 rfl (Nat.le_of_ble_eq_true rfl) dX8_letterOf_30 ⟨Nat.zero_le _, Nat.zero_le _⟩ (fun H locs hP hS => ?_)
        exact W.iret (v := (f_X8_often fu V p1)) hx hb hr (fun t ht hW => ⟨⟨(f_X8_often fu V p1), (), rfl, hE.symm, trivial⟩, hS.F ht⟩) hS.2.2 dX8_letterOf_33
    · have hE := hE.trans (if_pos c2)
      refine lv_sipush (v := (-1001)) hx hb dX8_letterOf_19 (by decide) ?_
      exact W.iret (v := (-1001)) hx hb hr (fun t ht hW => ⟨⟨(-1001), (), rfl, hE.symm, trivial⟩, hS.F ht⟩) hS.2.2 dX8_letterOf_22
def f_X8_placeOf (fu : Nat) (V : VT) (p1 : Int32) (p2 : Int32) : Int32 := (if (f_X8_isPlace V p1) = 0 then (-1001) else (if (f_X8_in V p2 0 7) = 0 then (-1001) else (if p2 = 0 then (f_X8_signOf V p1) else (if p2 = 1 then (f_X8_coats V p1) else (if p2 = 2 then (f_X8_orNone V (f_X8_readAt fu V p1 (p2 - p2 / 2 * 2))) else (if p2 = 3 then (f_X8_orNone V (f_X8_readAt fu V p1 (p2 - p2 / 2 * 2))) else (if p2 = 4 then (f_X8_wanted V p1 (p2 - p2 / 2 * 2)) else (if p2 = 5 then (f_X8_wanted V p1 (p2 - p2 / 2 * 2)) else (if 0 ≤ (f_X8_drawn V (f_X8_wanted V p1 (p2 - p2 / 2 * 2))) then (f_X8_margin fu V (f_X8_signBy fu V p1 (p2 - p2 / 2 * 2)) (f_X8_wanted V p1 (p2 - p2 / 2 * 2))) else (-1004))))))))))
def p_X8_placeOf (fu : Nat) (V : VT) (p1 : Int32) (p2 : Int32) : Prop := ((p_X8_isPlace V p1) ∧ (((f_X8_isPlace V p1) = 0 → True) ∧ (¬ ((f_X8_isPlace V p1) = 0) → (((f_X8_in V p2 0 7) = 0 → True) ∧ (¬ ((f_X8_in V p2 0 7) = 0) → ((p2 = 0 → (p_X8_signOf V p1)) ∧ (¬ (p2 = 0) → ((p2 = 1 → (p_X8_coats V p1)) ∧ (¬ (p2 = 1) → ((p2 = 2 → (p_X8_readAt fu V p1 (p2 - p2 / 2 * 2))) ∧ (¬ (p2 = 2) → ((p2 = 3 → (p_X8_readAt fu V p1 (p2 - p2 / 2 * 2))) ∧ (¬ (p2 = 3) → ((p2 = 4 → (p_X8_wanted V p1 (p2 - p2 / 2 * 2))) ∧ (¬ (p2 = 4) → ((p2 = 5 → (p_X8_wanted V p1 (p2 - p2 / 2 * 2))) ∧ (¬ (p2 = 5) → ((p_X8_wanted V p1 (p2 - p2 / 2 * 2)) ∧ ((p_X8_drawn V (f_X8_wanted V p1 (p2 - p2 / 2 * 2))) ∧ ((0 ≤ (f_X8_drawn V (f_X8_wanted V p1 (p2 - p2 / 2 * 2))) → ((p_X8_signBy fu V p1 (p2 - p2 / 2 * 2)) ∧ ((p_X8_wanted V p1 (p2 - p2 / 2 * 2)) ∧ (p_X8_margin fu V (f_X8_signBy fu V p1 (p2 - p2 / 2 * 2)) (f_X8_wanted V p1 (p2 - p2 / 2 * 2)))))) ∧ (¬ (0 ≤ (f_X8_drawn V (f_X8_wanted V p1 (p2 - p2 / 2 * 2)))) → True)))))))))))))))))))))
set_option maxHeartbeats 4000000 in
set_option maxRecDepth 100000 in
theorem m_X8_placeOf (l : Launch) (D : va_G) (cI cB : ClassId) (ad : Nat → Nat) (fu : Nat) (V : VT) (p1 : Int32) (p2 : Int32)  (hp : p_X8_placeOf fu V p1 p2) : Met l yX8_placeOf wsX8_placeOf ({ frames := 3, cells := 0, slots := 0, locals := 69 }) (cP D cI cB ad V [.ref (ad 48), .int p1, .int p2]) (cR (f_X8_placeOf fu V p1 p2)) 0 0 (fun _ => False) := by
  refine Met.ofW (cc := cX8_placeOf) (maxL := 4) (ret := (some .int)) (by decide +kernel) rfl ?_
  intro p e s m args below meth c s₁ B hml hv
  obtain ⟨rfl, hP, hKN⟩ := hv
  have hK := hKN.1
  have hx := B.exec
  have hb := B.bytes
  have hr := B.returns
  have hts := atoms_spec (ws := wsX8_placeOf) B.pre
  have hown : s.vm.findClass RX8 = some m.cls := findClass_of_methodNamed B.named
  have hlocks := B.notSynchronized
  have hS : va_S (fun _ => False) s.heap s.heap [] := va_S.rf
  have hl := lv_entry ([.ref (ad 48), .int p1, .int p2]) (n := 4) (Nat.le_of_ble_eq_true rfl)
  rw [lg_entry_eq]
  generalize (lg_sl ([.ref (ad 48), .int p1, .int p2]) ++ List.replicate (4 - (lg_sl ([.ref (ad 48), .int p1, .int p2])).length) Slot.unset).toArray = ls at hl ⊢
  have hl : lv_has ls 4 [(0, .ref (ad 48)), (1, .int p1), (2, .int p2)] := hl
  have hE : f_X8_placeOf fu V p1 p2 = (if (f_X8_isPlace V p1) = 0 then (-1001) else (if (f_X8_in V p2 0 7) = 0 then (-1001) else (if p2 = 0 then (f_X8_signOf V p1) else (if p2 = 1 then (f_X8_coats V p1) else (if p2 = 2 then (f_X8_orNone V (f_X8_readAt fu V p1 (p2 - p2 / 2 * 2))) else (if p2 = 3 then (f_X8_orNone V (f_X8_readAt fu V p1 (p2 - p2 / 2 * 2))) else (if p2 = 4 then (f_X8_wanted V p1 (p2 - p2 / 2 * 2)) else (if p2 = 5 then (f_X8_wanted V p1 (p2 - p2 / 2 * 2)) else (if 0 ≤ (f_X8_drawn V (f_X8_wanted V p1 (p2 - p2 / 2 * 2))) then (f_X8_margin fu V (f_X8_signBy fu V p1 (p2 - p2 / 2 * 2)) (f_X8_wanted V p1 (p2 - p2 / 2 * 2))) else (-1004)))))))))) := rfl
  refine lv_aload_n hx hb dX8_placeOf_0 rfl (lv_at hl 0 rfl) ?_
  refine lv_iload_n hx hb dX8_placeOf_1 rfl (lv_at hl 1 rfl) ?_
  obtain ⟨hn1, hp⟩ := hp
  refine k_VR (As := [.int p1]) (rest := []) (q := 48) ⟨hx, hb, hml, hown, hts⟩ hKN hP hS (m_X8_isPlace l D cI cB ad V p1 hn1) (cwV 1 hts gX8_placeOf_X8_isPlace rfl rfl rfl (by decide +kernel) ⟨(Nat.le_of_ble_eq_true rfl), (Nat.le_of_ble_eq_true rfl)⟩) (c_preV hP hKN (q := 48) (ci := 6) (fs := [.ref (ad 49), .ref (ad 50), .ref (ad 51), .int ((V 48) 0), .ref (ad 52), .int ((V 48) 1), .ref (ad 53), .int ((V 48) 2), .int ((V 48) 3), .int ((V 48) 4), .int ((V 48) 5), .int ((V 48) 6), .int ((V 48) 7)]) (by decide) (ce_md ad cI cB (V 48)) rfl rfl) rfl hl.1 rfl (Nat.le_of_ble_eq_true rfl) dX8_placeOf_2 ⟨Nat.zero_le _, Nat.zero_le _⟩ (fun H locs hP hS => ?_)
  refine lv_if_eq (tgt := 18) hx hb dX8_placeOf_5 (by decide) (fun c1 => ?_) (fun c1 => ?_)
  · have hE := hE.trans (if_pos c1)
    refine lv_sipush (v := (-1001)) hx hb dX8_placeOf_18 (by decide) ?_
    exact W.iret (v := (-1001)) hx hb hr (fun t ht hW => ⟨⟨(-1001), (), rfl, hE.symm, trivial⟩, hS.F ht⟩) hS.2.2 dX8_placeOf_21
  · have hE := hE.trans (if_neg c1)
    have hp := pc_bn hp c1
    refine lv_iload_n hx hb dX8_placeOf_8 rfl (lv_at hl 2 rfl) ?_
    refine lv_iconst (v := 0) hx hb dX8_placeOf_9 (by decide) ?_
    refine lv_bipush (v := 7) hx hb dX8_placeOf_10 (by decide) ?_
    refine k_SR (As := [.int p2, .int 0, .int 7]) (rest := []) ⟨hx, hb, hml, hown, hts⟩ hKN hP hS (m_X8_in l D cI cB ad V p2 0 7) (va_cwS 3 hts gX8_placeOf_X8_in rfl rfl rfl (by decide +kernel) ⟨(Nat.le_of_ble_eq_true rfl), (Nat.le_of_ble_eq_true rfl)⟩) rfl hl.1 rfl (Nat.le_of_ble_eq_true rfl) dX8_placeOf_12 ⟨Nat.zero_le _, Nat.zero_le _⟩ (fun H locs hP hS => ?_)
    refine lv_if_ne (tgt := 22) hx hb dX8_placeOf_15 (by decide) (fun c2 => ?_) (fun c2 => ?_)
    · have hE := hE.trans (if_neg c2)
      have hp := pc_bn hp c2
      refine lv_iload_n hx hb dX8_placeOf_22 rfl (lv_at hl 2 rfl) ?_
      refine lv_iconst (v := 2) hx hb dX8_placeOf_23 (by decide) ?_
      refine lv_irem hx hb dX8_placeOf_24 (by decide) ?_
      refine lv_istore_n (lv' := [(3, .int (p2 - p2 / 2 * 2)), (0, .ref (ad 48)), (1, .int p1), (2, .int p2)]) hx hb dX8_placeOf_25 rfl hl (by decide) rfl (fun ls hl => ?_)
      refine lv_iload_n hx hb dX8_placeOf_26 rfl (lv_at hl 3 rfl) ?_
      rcases Decidable.em (p2 = 0) with c3 | c3
      · have hE := hE.trans (if_pos c3)
        have hp := pc_br hp c3
        refine lv_tableIn (off := 37) (tgt := 64) hx hb dX8_placeOf_27 (by rw [c3]; decide) (by rw [c3]; decide) (by rw [c3]; rfl) (by decide) ?_
        refine lv_aload_n hx hb dX8_placeOf_64 rfl (lv_at hl 1 rfl) ?_
        refine lv_iload_n hx hb dX8_placeOf_65 rfl (lv_at hl 2 rfl) ?_
        have hn2 := hp
        refine k_VR (As := [.int p1]) (rest := []) (q := 48) ⟨hx, hb, hml, hown, hts⟩ hKN hP hS (m_X8_signOf l D cI cB ad V p1 hn2) (cwV 1 hts gX8_placeOf_X8_signOf rfl rfl rfl (by decide +kernel) ⟨(Nat.le_of_ble_eq_true rfl), (Nat.le_of_ble_eq_true rfl)⟩) (c_preV hP hKN (q := 48) (ci := 6) (fs := [.ref (ad 49), .ref (ad 50), .ref (ad 51), .int ((V 48) 0), .ref (ad 52), .int ((V 48) 1), .ref (ad 53), .int ((V 48) 2), .int ((V 48) 3), .int ((V 48) 4), .int ((V 48) 5), .int ((V 48) 6), .int ((V 48) 7)]) (by decide) (ce_md ad cI cB (V 48)) rfl rfl) rfl hl.1 rfl (Nat.le_of_ble_eq_true rfl) dX8_placeOf_66 ⟨Nat.zero_le _, Nat.zero_le _⟩ (fun H locs hP hS => ?_)
        exact W.iret (v := (f_X8_signOf V p1)) hx hb hr (fun t ht hW => ⟨⟨(f_X8_signOf V p1), (), rfl, hE.symm, trivial⟩, hS.F ht⟩) hS.2.2 dX8_placeOf_69
      · have hE := hE.trans (if_neg c3)
        have hp := pc_bn hp c3
        rcases Decidable.em (p2 = 1) with c4 | c4
        · have hE := hE.trans (if_pos c4)
          have hp := pc_br hp c4
          refine lv_tableIn (off := 43) (tgt := 70) hx hb dX8_placeOf_27 (by rw [c4]; decide) (by rw [c4]; decide) (by rw [c4]; rfl) (by decide) ?_
          refine lv_aload_n hx hb dX8_placeOf_70 rfl (lv_at hl 1 rfl) ?_
          refine lv_iload_n hx hb dX8_placeOf_71 rfl (lv_at hl 2 rfl) ?_
          have hn3 := hp
          refine k_VR (As := [.int p1]) (rest := []) (q := 48) ⟨hx, hb, hml, hown, hts⟩ hKN hP hS (m_X8_coats l D cI cB ad V p1 hn3) (cwV 1 hts gX8_placeOf_X8_coats rfl rfl rfl (by decide +kernel) ⟨(Nat.le_of_ble_eq_true rfl), (Nat.le_of_ble_eq_true rfl)⟩) (c_preV hP hKN (q := 48) (ci := 6) (fs := [.ref (ad 49), .ref (ad 50), .ref (ad 51), .int ((V 48) 0), .ref (ad 52), .int ((V 48) 1), .ref (ad 53), .int ((V 48) 2), .int ((V 48) 3), .int ((V 48) 4), .int ((V 48) 5), .int ((V 48) 6), .int ((V 48) 7)]) (by decide) (ce_md ad cI cB (V 48)) rfl rfl) rfl hl.1 rfl (Nat.le_of_ble_eq_true rfl) dX8_placeOf_72 ⟨Nat.zero_le _, Nat.zero_le _⟩ (fun H locs hP hS => ?_)
          exact W.iret (v := (f_X8_coats V p1)) hx hb hr (fun t ht hW => ⟨⟨(f_X8_coats V p1), (), rfl, hE.symm, trivial⟩, hS.F ht⟩) hS.2.2 dX8_placeOf_75
        · have hE := hE.trans (if_neg c4)
          have hp := pc_bn hp c4
          rcases Decidable.em (p2 = 2) with c5 | c5
          · have hE := hE.trans (if_pos c5)
            have hp := pc_br hp c5
            refine lv_tableIn (off := 49) (tgt := 76) hx hb dX8_placeOf_27 (by rw [c5]; decide) (by rw [c5]; decide) (by rw [c5]; rfl) (by decide) ?_
            refine lv_aload_n hx hb dX8_placeOf_76 rfl (lv_at hl 1 rfl) ?_
            refine lv_iload_n hx hb dX8_placeOf_77 rfl (lv_at hl 2 rfl) ?_
            refine lv_iload_n hx hb dX8_placeOf_78 rfl (lv_at hl 0 rfl) ?_
            have hn4 := hp
            refine k_VR (As := [.int p1, .int (p2 - p2 / 2 * 2)]) (rest := []) (q := 48) ⟨hx, hb, hml, hown, hts⟩ hKN hP hS (m_X8_readAt l D cI cB ad fu V p1 (p2 - p2 / 2 * 2) hn4) (cwV 2 hts gX8_placeOf_X8_readAt rfl rfl rfl (by decide +kernel) ⟨(Nat.le_of_ble_eq_true rfl), (Nat.le_of_ble_eq_true rfl)⟩) (c_preV hP hKN (q := 48) (ci := 6) (fs := [.ref (ad 49), .ref (ad 50), .ref (ad 51), .int ((V 48) 0), .ref (ad 52), .int ((V 48) 1), .ref (ad 53), .int ((V 48) 2), .int ((V 48) 3), .int ((V 48) 4), .int ((V 48) 5), .int ((V 48) 6), .int ((V 48) 7)]) (by decide) (ce_md ad cI cB (V 48)) rfl rfl) rfl hl.1 rfl (Nat.le_of_ble_eq_true rfl) dX8_placeOf_79 ⟨Nat.zero_le _, Nat.zero_le _⟩ (fun H locs hP hS => ?_)
            refine k_SR (As := [.int (f_X8_readAt fu V p1 (p2 - p2 / 2 * 2))]) (rest := []) ⟨hx, hb, hml, hown, hts⟩ hKN hP hS (m_X8_orNone l D cI cB ad V (f_X8_readAt fu V p1 (p2 - p2 / 2 * 2))) (va_cwS 1 hts gX8_placeOf_X8_orNone rfl rfl rfl (by decide +kernel) ⟨(Nat.le_of_ble_eq_true rfl), (Nat.le_of_ble_eq_true rfl)⟩) rfl hl.1 rfl (Nat.le_of_ble_eq_true rfl) dX8_placeOf_82 ⟨Nat.zero_le _, Nat.zero_le _⟩ (fun H locs hP hS => ?_)
            exact W.iret (v := (f_X8_orNone V (f_X8_readAt fu V p1 (p2 - p2 / 2 * 2)))) hx hb hr (fun t ht hW => ⟨⟨(f_X8_orNone V (f_X8_readAt fu V p1 (p2 - p2 / 2 * 2))), (), rfl, hE.symm, trivial⟩, hS.F ht⟩) hS.2.2 dX8_placeOf_85
          · have hE := hE.trans (if_neg c5)
            have hp := pc_bn hp c5
            rcases Decidable.em (p2 = 3) with c6 | c6
            · have hE := hE.trans (if_pos c6)
              have hp := pc_br hp c6
              refine lv_tableIn (off := 49) (tgt := 76) hx hb dX8_placeOf_27 (by rw [c6]; decide) (by rw [c6]; decide) (by rw [c6]; rfl) (by decide) ?_
              refine lv_aload_n hx hb dX8_placeOf_76 rfl (lv_at hl 1 rfl) ?_
              refine lv_iload_n hx hb dX8_placeOf_77 rfl (lv_at hl 2 rfl) ?_
              refine lv_iload_n hx hb dX8_placeOf_78 rfl (lv_at hl 0 rfl) ?_
              have hn5 := hp
              refine k_VR (As := [.int p1, .int (p2 - p2 / 2 * 2)]) (rest := []) (q := 48) ⟨hx, hb, hml, hown, hts⟩ hKN hP hS (m_X8_readAt l D cI cB ad fu V p1 (p2 - p2 / 2 * 2) hn5) (cwV 2 hts gX8_placeOf_X8_readAt rfl rfl rfl (by decide +kernel) ⟨(Nat.le_of_ble_eq_true rfl), (Nat.le_of_ble_eq_true rfl)⟩) (c_preV hP hKN (q := 48) (ci := 6) (fs := [.ref (ad 49), .ref (ad 50), .ref (ad 51), .int ((V 48) 0), .ref (ad 52), .int ((V 48) 1), .ref (ad 53), .int ((V 48) 2), .int ((V 48) 3), .int ((V 48) 4), .int ((V 48) 5), .int ((V 48) 6), .int ((V 48) 7)]) (by decide) (ce_md ad cI cB (V 48)) rfl rfl) rfl hl.1 rfl (Nat.le_of_ble_eq_true rfl) dX8_placeOf_79 ⟨Nat.zero_le _, Nat.zero_le _⟩ (fun H locs hP hS => ?_)
              refine k_SR (As := [.int (f_X8_readAt fu V p1 (p2 - p2 / 2 * 2))]) (rest := []) ⟨hx, hb, hml, hown, hts⟩ hKN hP hS (m_X8_orNone l D cI cB ad V (f_X8_readAt fu V p1 (p2 - p2 / 2 * 2))) (va_cwS 1 hts gX8_placeOf_X8_orNone rfl rfl rfl (by decide +kernel) ⟨(Nat.le_of_ble_eq_true rfl), (Nat.le_of_ble_eq_true rfl)⟩) rfl hl.1 rfl (Nat.le_of_ble_eq_true rfl) dX8_placeOf_82 ⟨Nat.zero_le _, Nat.zero_le _⟩ (fun H locs hP hS => ?_)
              exact W.iret (v := (f_X8_orNone V (f_X8_readAt fu V p1 (p2 - p2 / 2 * 2)))) hx hb hr (fun t ht hW => ⟨⟨(f_X8_orNone V (f_X8_readAt fu V p1 (p2 - p2 / 2 * 2))), (), rfl, hE.symm, trivial⟩, hS.F ht⟩) hS.2.2 dX8_placeOf_85
            · have hE := hE.trans (if_neg c6)
              have hp := pc_bn hp c6
              rcases Decidable.em (p2 = 4) with c7 | c7
              · have hE := hE.trans (if_pos c7)
                have hp := pc_br hp c7
                refine lv_tableIn (off := 59) (tgt := 86) hx hb dX8_placeOf_27 (by rw [c7]; decide) (by rw [c7]; decide) (by rw [c7]; rfl) (by decide) ?_
                refine lv_aload_n hx hb dX8_placeOf_86 rfl (lv_at hl 1 rfl) ?_
                refine lv_iload_n hx hb dX8_placeOf_87 rfl (lv_at hl 2 rfl) ?_
                refine lv_iload_n hx hb dX8_placeOf_88 rfl (lv_at hl 0 rfl) ?_
                have hn6 := hp
                refine k_VR (As := [.int p1, .int (p2 - p2 / 2 * 2)]) (rest := []) (q := 48) ⟨hx, hb, hml, hown, hts⟩ hKN hP hS (m_X8_wanted l D cI cB ad V p1 (p2 - p2 / 2 * 2) hn6) (cwV 2 hts gX8_placeOf_X8_wanted rfl rfl rfl (by decide +kernel) ⟨(Nat.le_of_ble_eq_true rfl), (Nat.le_of_ble_eq_true rfl)⟩) (c_preV hP hKN (q := 48) (ci := 6) (fs := [.ref (ad 49), .ref (ad 50), .ref (ad 51), .int ((V 48) 0), .ref (ad 52), .int ((V 48) 1), .ref (ad 53), .int ((V 48) 2), .int ((V 48) 3), .int ((V 48) 4), .int ((V 48) 5), .int ((V 48) 6), .int ((V 48) 7)]) (by decide) (ce_md ad cI cB (V 48)) rfl rfl) rfl hl.1 rfl (Nat.le_of_ble_eq_true rfl) dX8_placeOf_89 ⟨Nat.zero_le _, Nat.zero_le _⟩ (fun H locs hP hS => ?_)
                exact W.iret (v := (f_X8_wanted V p1 (p2 - p2 / 2 * 2))) hx hb hr (fun t ht hW => ⟨⟨(f_X8_wanted V p1 (p2 - p2 / 2 * 2)), (), rfl, hE.symm, trivial⟩, hS.F ht⟩) hS.2.2 dX8_placeOf_92
              · have hE := hE.trans (if_neg c7)
                have hp := pc_bn hp c7
                rcases Decidable.em (p2 = 5) with c8 | c8
                · have hE := hE.trans (if_pos c8)
                  have hp := pc_br hp c8
                  refine lv_tableIn (off := 59) (tgt := 86) hx hb dX8_placeOf_27 (by rw [c8]; decide) (by rw [c8]; decide) (by rw [c8]; rfl) (by decide) ?_
                  refine lv_aload_n hx hb dX8_placeOf_86 rfl (lv_at hl 1 rfl) ?_
                  refine lv_iload_n hx hb dX8_placeOf_87 rfl (lv_at hl 2 rfl) ?_
                  refine lv_iload_n hx hb dX8_placeOf_88 rfl (lv_at hl 0 rfl) ?_
                  have hn7 := hp
                  refine k_VR (As := [.int p1, .int (p2 - p2 / 2 * 2)]) (rest := []) (q := 48) ⟨hx, hb, hml, hown, hts⟩ hKN hP hS (m_X8_wanted l D cI cB ad V p1 (p2 - p2 / 2 * 2) hn7) (cwV 2 hts gX8_placeOf_X8_wanted rfl rfl rfl (by decide +kernel) ⟨(Nat.le_of_ble_eq_true rfl), (Nat.le_of_ble_eq_true rfl)⟩) (c_preV hP hKN (q := 48) (ci := 6) (fs := [.ref (ad 49), .ref (ad 50), .ref (ad 51), .int ((V 48) 0), .ref (ad 52), .int ((V 48) 1), .ref (ad 53), .int ((V 48) 2), .int ((V 48) 3), .int ((V 48) 4), .int ((V 48) 5), .int ((V 48) 6), .int ((V 48) 7)]) (by decide) (ce_md ad cI cB (V 48)) rfl rfl) rfl hl.1 rfl (Nat.le_of_ble_eq_true rfl) dX8_placeOf_89 ⟨Nat.zero_le _, Nat.zero_le _⟩ (fun H locs hP hS => ?_)
                  exact W.iret (v := (f_X8_wanted V p1 (p2 - p2 / 2 * 2))) hx hb hr (fun t ht hW => ⟨⟨(f_X8_wanted V p1 (p2 - p2 / 2 * 2)), (), rfl, hE.symm, trivial⟩, hS.F ht⟩) hS.2.2 dX8_placeOf_92
                · have hE := hE.trans (if_neg c8)
                  have hp := pc_bn hp c8
                  refine lv_tableOut (tgt := 93) hx hb dX8_placeOf_27 (by have e0 := lv_neT (k := 0) (a := 0) c3 rfl; have e1 := lv_neT (k := 1) (a := 1) c4 rfl; have e2 := lv_neT (k := 2) (a := 2) c5 rfl; have e3 := lv_neT (k := 3) (a := 3) c6 rfl; have e4 := lv_neT (k := 4) (a := 4) c7 rfl; have e5 := lv_neT (k := 5) (a := 5) c8 rfl; omega) (by decide) ?_
                  refine lv_aload_n hx hb dX8_placeOf_93 rfl (lv_at hl 1 rfl) ?_
                  refine lv_aload_n hx hb dX8_placeOf_94 rfl (lv_at hl 1 rfl) ?_
                  refine lv_iload_n hx hb dX8_placeOf_95 rfl (lv_at hl 2 rfl) ?_
                  refine lv_iload_n hx hb dX8_placeOf_96 rfl (lv_at hl 0 rfl) ?_
                  obtain ⟨hn8, hp⟩ := hp
                  refine k_VR (As := [.int p1, .int (p2 - p2 / 2 * 2)]) (rest := [.ref (ad 48)]) (q := 48) ⟨hx, hb, hml, hown, hts⟩ hKN hP hS (m_X8_wanted l D cI cB ad V p1 (p2 - p2 / 2 * 2) hn8) (cwV 2 hts gX8_placeOf_X8_wanted rfl rfl rfl (by decide +kernel) ⟨(Nat.le_of_ble_eq_true rfl), (Nat.le_of_ble_eq_true rfl)⟩) (c_preV hP hKN (q := 48) (ci := 6) (fs := [.ref (ad 49), .ref (ad 50), .ref (ad 51), .int ((V 48) 0), .ref (ad 52), .int ((V 48) 1), .ref (ad 53), .int ((V 48) 2), .int ((V 48) 3), .int ((V 48) 4), .int ((V 48) 5), .int ((V 48) 6), .int ((V 48) 7)]) (by decide) (ce_md ad cI cB (V 48)) rfl rfl) rfl hl.1 rfl (Nat.le_of_ble_eq_true rfl) dX8_placeOf_97 ⟨Nat.zero_le _, Nat.zero_le _⟩ (fun H locs hP hS => ?_)
                  obtain ⟨hn9, hp⟩ := hp
                  refine k_VR (As := [.int (f_X8_wanted V p1 (p2 - p2 / 2 * 2))]) (rest := []) (q := 48) ⟨hx, hb, hml, hown, hts⟩ hKN hP hS (m_X8_drawn l D cI cB ad V (f_X8_wanted V p1 (p2 - p2 / 2 * 2)) hn9) (cwV 1 hts gX8_placeOf_X8_drawn rfl rfl rfl (by decide +kernel) ⟨(Nat.le_of_ble_eq_true rfl), (Nat.le_of_ble_eq_true rfl)⟩) (c_preV hP hKN (q := 48) (ci := 6) (fs := [.ref (ad 49), .ref (ad 50), .ref (ad 51), .int ((V 48) 0), .ref (ad 52), .int ((V 48) 1), .ref (ad 53), .int ((V 48) 2), .int ((V 48) 3), .int ((V 48) 4), .int ((V 48) 5), .int ((V 48) 6), .int ((V 48) 7)]) (by decide) (ce_md ad cI cB (V 48)) rfl rfl) rfl hl.1 rfl (Nat.le_of_ble_eq_true rfl) dX8_placeOf_100 ⟨Nat.zero_le _, Nat.zero_le _⟩ (fun H locs hP hS => ?_)
                  refine lv_if_ge (tgt := 112) hx hb dX8_placeOf_103 (by decide) (fun c9 => ?_) (fun c9 => ?_)
                  · have hE := hE.trans (if_pos c9)
                    have hp := pc_br hp c9
                    refine lv_aload_n hx hb dX8_placeOf_112 rfl (lv_at hl 1 rfl) ?_
                    refine lv_aload_n hx hb dX8_placeOf_113 rfl (lv_at hl 1 rfl) ?_
                    refine lv_iload_n hx hb dX8_placeOf_114 rfl (lv_at hl 2 rfl) ?_
                    refine lv_iload_n hx hb dX8_placeOf_115 rfl (lv_at hl 0 rfl) ?_
                    obtain ⟨hn10, hp⟩ := hp
                    refine k_VR (As := [.int p1, .int (p2 - p2 / 2 * 2)]) (rest := [.ref (ad 48)]) (q := 48) ⟨hx, hb, hml, hown, hts⟩ hKN hP hS (m_X8_signBy l D cI cB ad fu V p1 (p2 - p2 / 2 * 2) hn10) (cwV 2 hts gX8_placeOf_X8_signBy rfl rfl rfl (by decide +kernel) ⟨(Nat.le_of_ble_eq_true rfl), (Nat.le_of_ble_eq_true rfl)⟩) (c_preV hP hKN (q := 48) (ci := 6) (fs := [.ref (ad 49), .ref (ad 50), .ref (ad 51), .int ((V 48) 0), .ref (ad 52), .int ((V 48) 1), .ref (ad 53), .int ((V 48) 2), .int ((V 48) 3), .int ((V 48) 4), .int ((V 48) 5), .int ((V 48) 6), .int ((V 48) 7)]) (by decide) (ce_md ad cI cB (V 48)) rfl rfl) rfl hl.1 rfl (Nat.le_of_ble_eq_true rfl) dX8_placeOf_116 ⟨Nat.zero_le _, Nat.zero_le _⟩ (fun H locs hP hS => ?_)
                    refine lv_aload_n hx hb dX8_placeOf_119 rfl (lv_at hl 1 rfl) ?_
                    refine lv_iload_n hx hb dX8_placeOf_120 rfl (lv_at hl 2 rfl) ?_
                    refine lv_iload_n hx hb dX8_placeOf_121 rfl (lv_at hl 0 rfl) ?_
                    obtain ⟨hn11, hp⟩ := hp
                    refine k_VR (As := [.int p1, .int (p2 - p2 / 2 * 2)]) (rest := [.int (f_X8_signBy fu V p1 (p2 - p2 / 2 * 2)), .ref (ad 48)]) (q := 48) ⟨hx, hb, hml, hown, hts⟩ hKN hP hS (m_X8_wanted l D cI cB ad V p1 (p2 - p2 / 2 * 2) hn11) (cwV 2 hts gX8_placeOf_X8_wanted rfl rfl rfl (by decide +kernel) ⟨(Nat.le_of_ble_eq_true rfl), (Nat.le_of_ble_eq_true rfl)⟩) (c_preV hP hKN (q := 48) (ci := 6) (fs := [.ref (ad 49), .ref (ad 50), .ref (ad 51), .int ((V 48) 0), .ref (ad 52), .int ((V 48) 1), .ref (ad 53), .int ((V 48) 2), .int ((V 48) 3), .int ((V 48) 4), .int ((V 48) 5), .int ((V 48) 6), .int ((V 48) 7)]) (by decide) (ce_md ad cI cB (V 48)) rfl rfl) rfl hl.1 rfl (Nat.le_of_ble_eq_true rfl) dX8_placeOf_122 ⟨Nat.zero_le _, Nat.zero_le _⟩ (fun H locs hP hS => ?_)
                    have hn12 := hp
                    refine k_VR (As := [.int (f_X8_signBy fu V p1 (p2 - p2 / 2 * 2)), .int (f_X8_wanted V p1 (p2 - p2 / 2 * 2))]) (rest := []) (q := 48) ⟨hx, hb, hml, hown, hts⟩ hKN hP hS (m_X8_margin l D cI cB ad fu V (f_X8_signBy fu V p1 (p2 - p2 / 2 * 2)) (f_X8_wanted V p1 (p2 - p2 / 2 * 2)) hn12) (cwV 2 hts gX8_placeOf_X8_margin rfl rfl rfl (by decide +kernel) ⟨(Nat.le_of_ble_eq_true rfl), (Nat.le_of_ble_eq_true rfl)⟩) (c_preV hP hKN (q := 48) (ci := 6) (fs := [.ref (ad 49), .ref (ad 50), .ref (ad 51), .int ((V 48) 0), .ref (ad 52), .int ((V 48) 1), .ref (ad 53), .int ((V 48) 2), .int ((V 48) 3), .int ((V 48) 4), .int ((V 48) 5), .int ((V 48) 6), .int ((V 48) 7)]) (by decide) (ce_md ad cI cB (V 48)) rfl rfl) rfl hl.1 rfl (Nat.le_of_ble_eq_true rfl) dX8_placeOf_125 ⟨Nat.zero_le _, Nat.zero_le _⟩ (fun H locs hP hS => ?_)
                    exact W.iret (v := (f_X8_margin fu V (f_X8_signBy fu V p1 (p2 - p2 / 2 * 2)) (f_X8_wanted V p1 (p2 - p2 / 2 * 2)))) hx hb hr (fun t ht hW => ⟨⟨(f_X8_margin fu V (f_X8_signBy fu V p1 (p2 - p2 / 2 * 2)) (f_X8_wanted V p1 (p2 - p2 / 2 * 2))), (), rfl, hE.symm, trivial⟩, hS.F ht⟩) hS.2.2 dX8_placeOf_128
                  · have hE := hE.trans (if_neg c9)
                    refine lv_sipush (v := (-1004)) hx hb dX8_placeOf_106 (by decide) ?_
                    refine lv_goto (tgt := 128) hx hb dX8_placeOf_109 (by decide) ?_
                    exact W.iret (v := (-1004)) hx hb hr (fun t ht hW => ⟨⟨(-1004), (), rfl, hE.symm, trivial⟩, hS.F ht⟩) hS.2.2 dX8_placeOf_128
    · have hE := hE.trans (if_pos c2)
      refine lv_sipush (v := (-1001)) hx hb dX8_placeOf_18 (by decide) ?_
      exact W.iret (v := (-1001)) hx hb hr (fun t ht hW => ⟨⟨(-1001), (), rfl, hE.symm, trivial⟩, hS.F ht⟩) hS.2.2 dX8_placeOf_21
def f_X8_reads (fu : Nat) (V : VT) (p1 : Int32) (p2 : Int32) : Int32 := (if (f_X8_in V p1 0 1) = 0 then (-1001) else (if 0 ≤ p2 then (if p2 < (V 49 (0 : Int32).toNatClampNeg) then (if ((V 49 (1 : Int32).toNatClampNeg) ^^^ p1) = 0 then (f_X8_orNone V (f_X8_readAt fu V p2 ((V 49 (1 : Int32).toNatClampNeg) ^^^ p1))) else (f_X8_orNone V (f_X8_readAt fu V (((V 49 (0 : Int32).toNatClampNeg) - 1) - p2) ((V 49 (1 : Int32).toNatClampNeg) ^^^ p1)))) else (-1004)) else (-1001)))
def p_X8_reads (fu : Nat) (V : VT) (p1 : Int32) (p2 : Int32) : Prop := (((f_X8_in V p1 0 1) = 0 → True) ∧ (¬ ((f_X8_in V p1 0 1) = 0) → ((0 ≤ p2 → ((p2 < (V 49 (0 : Int32).toNatClampNeg) → ((((V 49 (1 : Int32).toNatClampNeg) ^^^ p1) = 0 → (p_X8_readAt fu V p2 ((V 49 (1 : Int32).toNatClampNeg) ^^^ p1))) ∧ (¬ (((V 49 (1 : Int32).toNatClampNeg) ^^^ p1) = 0) → (p_X8_readAt fu V (((V 49 (0 : Int32).toNatClampNeg) - 1) - p2) ((V 49 (1 : Int32).toNatClampNeg) ^^^ p1))))) ∧ (¬ (p2 < (V 49 (0 : Int32).toNatClampNeg)) → True))) ∧ (¬ (0 ≤ p2) → True))))
set_option maxHeartbeats 4000000 in
set_option maxRecDepth 100000 in
theorem m_X8_reads (l : Launch) (D : va_G) (cI cB : ClassId) (ad : Nat → Nat) (fu : Nat) (V : VT) (p1 : Int32) (p2 : Int32)  (hp : p_X8_reads fu V p1 p2) : Met l yX8_reads wsX8_reads ({ frames := 3, cells := 0, slots := 0, locals := 69 }) (cP D cI cB ad V [.ref (ad 48), .int p1, .int p2]) (cR (f_X8_reads fu V p1 p2)) 0 0 (fun _ => False) := by
  refine Met.ofW (cc := cX8_reads) (maxL := 4) (ret := (some .int)) (by decide +kernel) rfl ?_
  intro p e s m args below meth c s₁ B hml hv
  obtain ⟨rfl, hP, hKN⟩ := hv
  have hK := hKN.1
  have hx := B.exec
  have hb := B.bytes
  have hr := B.returns
  have hts := atoms_spec (ws := wsX8_reads) B.pre
  have hown : s.vm.findClass RX8 = some m.cls := findClass_of_methodNamed B.named
  have hlocks := B.notSynchronized
  have hS : va_S (fun _ => False) s.heap s.heap [] := va_S.rf
  have hl := lv_entry ([.ref (ad 48), .int p1, .int p2]) (n := 4) (Nat.le_of_ble_eq_true rfl)
  rw [lg_entry_eq]
  generalize (lg_sl ([.ref (ad 48), .int p1, .int p2]) ++ List.replicate (4 - (lg_sl ([.ref (ad 48), .int p1, .int p2])).length) Slot.unset).toArray = ls at hl ⊢
  have hl : lv_has ls 4 [(0, .ref (ad 48)), (1, .int p1), (2, .int p2)] := hl
  have hE : f_X8_reads fu V p1 p2 = (if (f_X8_in V p1 0 1) = 0 then (-1001) else (if 0 ≤ p2 then (if p2 < (V 49 (0 : Int32).toNatClampNeg) then (if ((V 49 (1 : Int32).toNatClampNeg) ^^^ p1) = 0 then (f_X8_orNone V (f_X8_readAt fu V p2 ((V 49 (1 : Int32).toNatClampNeg) ^^^ p1))) else (f_X8_orNone V (f_X8_readAt fu V (((V 49 (0 : Int32).toNatClampNeg) - 1) - p2) ((V 49 (1 : Int32).toNatClampNeg) ^^^ p1)))) else (-1004)) else (-1001))) := rfl
  refine lv_iload_n hx hb dX8_reads_0 rfl (lv_at hl 1 rfl) ?_
  refine lv_iconst (v := 0) hx hb dX8_reads_1 (by decide) ?_
  refine lv_iconst (v := 1) hx hb dX8_reads_2 (by decide) ?_
  refine k_SR (As := [.int p1, .int 0, .int 1]) (rest := []) ⟨hx, hb, hml, hown, hts⟩ hKN hP hS (m_X8_in l D cI cB ad V p1 0 1) (va_cwS 3 hts gX8_reads_X8_in rfl rfl rfl (by decide +kernel) ⟨(Nat.le_of_ble_eq_true rfl), (Nat.le_of_ble_eq_true rfl)⟩) rfl hl.1 rfl (Nat.le_of_ble_eq_true rfl) dX8_reads_3 ⟨Nat.zero_le _, Nat.zero_le _⟩ (fun H locs hP hS => ?_)
  refine lv_if_eq (tgt := 13) hx hb dX8_reads_6 (by decide) (fun c1 => ?_) (fun c1 => ?_)
  · have hE := hE.trans (if_pos c1)
    refine lv_sipush (v := (-1001)) hx hb dX8_reads_13 (by decide) ?_
    exact W.iret (v := (-1001)) hx hb hr (fun t ht hW => ⟨⟨(-1001), (), rfl, hE.symm, trivial⟩, hS.F ht⟩) hS.2.2 dX8_reads_16
  · have hE := hE.trans (if_neg c1)
    have hp := pc_bn hp c1
    refine lv_iload_n hx hb dX8_reads_9 rfl (lv_at hl 2 rfl) ?_
    refine lv_if_ge (tgt := 17) hx hb dX8_reads_10 (by decide) (fun c2 => ?_) (fun c2 => ?_)
    · have hE := hE.trans (if_pos c2)
      have hp := pc_br hp c2
      refine lv_iload_n hx hb dX8_reads_17 rfl (lv_at hl 2 rfl) ?_
      refine lv_aload_n hx hb dX8_reads_18 rfl (lv_at hl 0 rfl) ?_
      refine x_get (ci := 6) (fs := [.ref (ad 49), .ref (ad 50), .ref (ad 51), .int ((V 48) 0), .ref (ad 52), .int ((V 48) 1), .ref (ad 53), .int ((V 48) 2), .int ((V 48) 3), .int ((V 48) 4), .int ((V 48) 5), .int ((V 48) 6), .int ((V 48) 7)]) (q := 48) (v := .ref (ad 49)) (N := 13) hx hb hts (fun _ h => List.mem_cons_of_mem _ (List.mem_append_right _ h)) hown hK hP (by decide) (ce_md ad cI cB (V 48)) rfl 0 (by decide) (hts (.fieldLink RX8 7 "TurnedBoardsModel" "s" "[I") (List.mem_of_getElem? (i := 1) rfl)) rfl rfl dX8_reads_19 ?_
      refine lv_iconst (v := 0) hx hb dX8_reads_22 (by decide) ?_
      refine x_iald hx hb hK hP ⟨by decide, fun _ => rfl, by decide⟩ (vp_lit (i := 0) (n := 49) (by decide) (by decide)) dX8_reads_23 ?_
      refine lv_icmp_lt (tgt := 31) hx hb dX8_reads_24 (by decide) (fun c3 => ?_) (fun c3 => ?_)
      · have hE := hE.trans (if_pos c3)
        have hp := pc_br hp c3
        refine lv_aload_n hx hb dX8_reads_31 rfl (lv_at hl 0 rfl) ?_
        refine x_get (ci := 6) (fs := [.ref (ad 49), .ref (ad 50), .ref (ad 51), .int ((V 48) 0), .ref (ad 52), .int ((V 48) 1), .ref (ad 53), .int ((V 48) 2), .int ((V 48) 3), .int ((V 48) 4), .int ((V 48) 5), .int ((V 48) 6), .int ((V 48) 7)]) (q := 48) (v := .ref (ad 49)) (N := 13) hx hb hts (fun _ h => List.mem_cons_of_mem _ (List.mem_append_right _ h)) hown hK hP (by decide) (ce_md ad cI cB (V 48)) rfl 0 (by decide) (hts (.fieldLink RX8 7 "TurnedBoardsModel" "s" "[I") (List.mem_of_getElem? (i := 1) rfl)) rfl rfl dX8_reads_32 ?_
        refine lv_iconst (v := 1) hx hb dX8_reads_35 (by decide) ?_
        refine x_iald hx hb hK hP ⟨by decide, fun _ => rfl, by decide⟩ (vp_lit (i := 1) (n := 49) (by decide) (by decide)) dX8_reads_36 ?_
        refine lv_iload_n hx hb dX8_reads_37 rfl (lv_at hl 1 rfl) ?_
        refine lv_ixor hx hb dX8_reads_38 ?_
        refine lv_istore_n (lv' := [(3, .int ((V 49 (1 : Int32).toNatClampNeg) ^^^ p1)), (0, .ref (ad 48)), (1, .int p1), (2, .int p2)]) hx hb dX8_reads_39 rfl hl (by decide) rfl (fun ls hl => ?_)
        refine lv_aload_n hx hb dX8_reads_40 rfl (lv_at hl 1 rfl) ?_
        refine lv_iload_n hx hb dX8_reads_41 rfl (lv_at hl 0 rfl) ?_
        refine lv_if_ne (tgt := 49) hx hb dX8_reads_42 (by decide) (fun c4 => ?_) (fun c4 => ?_)
        · have hE := hE.trans (if_neg c4)
          have hp := pc_bn hp c4
          refine lv_aload_n hx hb dX8_reads_49 rfl (lv_at hl 1 rfl) ?_
          refine x_get (ci := 6) (fs := [.ref (ad 49), .ref (ad 50), .ref (ad 51), .int ((V 48) 0), .ref (ad 52), .int ((V 48) 1), .ref (ad 53), .int ((V 48) 2), .int ((V 48) 3), .int ((V 48) 4), .int ((V 48) 5), .int ((V 48) 6), .int ((V 48) 7)]) (q := 48) (v := .ref (ad 49)) (N := 13) hx hb hts (fun _ h => List.mem_cons_of_mem _ (List.mem_append_right _ h)) hown hK hP (by decide) (ce_md ad cI cB (V 48)) rfl 0 (by decide) (hts (.fieldLink RX8 7 "TurnedBoardsModel" "s" "[I") (List.mem_of_getElem? (i := 1) rfl)) rfl rfl dX8_reads_50 ?_
          refine lv_iconst (v := 0) hx hb dX8_reads_53 (by decide) ?_
          refine x_iald hx hb hK hP ⟨by decide, fun _ => rfl, by decide⟩ (vp_lit (i := 0) (n := 49) (by decide) (by decide)) dX8_reads_54 ?_
          refine lv_iconst (v := 1) hx hb dX8_reads_55 (by decide) ?_
          refine lv_isub hx hb dX8_reads_56 ?_
          refine lv_iload_n hx hb dX8_reads_57 rfl (lv_at hl 3 rfl) ?_
          refine lv_isub hx hb dX8_reads_58 ?_
          refine lv_iload_n hx hb dX8_reads_59 rfl (lv_at hl 0 rfl) ?_
          have hn2 := hp
          refine k_VR (As := [.int (((V 49 (0 : Int32).toNatClampNeg) - 1) - p2), .int ((V 49 (1 : Int32).toNatClampNeg) ^^^ p1)]) (rest := []) (q := 48) ⟨hx, hb, hml, hown, hts⟩ hKN hP hS (m_X8_readAt l D cI cB ad fu V (((V 49 (0 : Int32).toNatClampNeg) - 1) - p2) ((V 49 (1 : Int32).toNatClampNeg) ^^^ p1) hn2) (cwV 2 hts gX8_reads_X8_readAt rfl rfl rfl (by decide +kernel) ⟨(Nat.le_of_ble_eq_true rfl), (Nat.le_of_ble_eq_true rfl)⟩) (c_preV hP hKN (q := 48) (ci := 6) (fs := [.ref (ad 49), .ref (ad 50), .ref (ad 51), .int ((V 48) 0), .ref (ad 52), .int ((V 48) 1), .ref (ad 53), .int ((V 48) 2), .int ((V 48) 3), .int ((V 48) 4), .int ((V 48) 5), .int ((V 48) 6), .int ((V 48) 7)]) (by decide) (ce_md ad cI cB (V 48)) rfl rfl) rfl hl.1 rfl (Nat.le_of_ble_eq_true rfl) dX8_reads_60 ⟨Nat.zero_le _, Nat.zero_le _⟩ (fun H locs hP hS => ?_)
          refine k_SR (As := [.int (f_X8_readAt fu V (((V 49 (0 : Int32).toNatClampNeg) - 1) - p2) ((V 49 (1 : Int32).toNatClampNeg) ^^^ p1))]) (rest := []) ⟨hx, hb, hml, hown, hts⟩ hKN hP hS (m_X8_orNone l D cI cB ad V (f_X8_readAt fu V (((V 49 (0 : Int32).toNatClampNeg) - 1) - p2) ((V 49 (1 : Int32).toNatClampNeg) ^^^ p1))) (va_cwS 1 hts gX8_reads_X8_orNone rfl rfl rfl (by decide +kernel) ⟨(Nat.le_of_ble_eq_true rfl), (Nat.le_of_ble_eq_true rfl)⟩) rfl hl.1 rfl (Nat.le_of_ble_eq_true rfl) dX8_reads_63 ⟨Nat.zero_le _, Nat.zero_le _⟩ (fun H locs hP hS => ?_)
          exact W.iret (v := (f_X8_orNone V (f_X8_readAt fu V (((V 49 (0 : Int32).toNatClampNeg) - 1) - p2) ((V 49 (1 : Int32).toNatClampNeg) ^^^ p1)))) hx hb hr (fun t ht hW => ⟨⟨(f_X8_orNone V (f_X8_readAt fu V (((V 49 (0 : Int32).toNatClampNeg) - 1) - p2) ((V 49 (1 : Int32).toNatClampNeg) ^^^ p1))), (), rfl, hE.symm, trivial⟩, hS.F ht⟩) hS.2.2 dX8_reads_66
        · have hE := hE.trans (if_pos c4)
          have hp := pc_br hp c4
          refine lv_iload_n hx hb dX8_reads_45 rfl (lv_at hl 3 rfl) ?_
          refine lv_goto (tgt := 59) hx hb dX8_reads_46 (by decide) ?_
          refine lv_iload_n hx hb dX8_reads_59 rfl (lv_at hl 0 rfl) ?_
          have hn1 := hp
          refine k_VR (As := [.int p2, .int ((V 49 (1 : Int32).toNatClampNeg) ^^^ p1)]) (rest := []) (q := 48) ⟨hx, hb, hml, hown, hts⟩ hKN hP hS (m_X8_readAt l D cI cB ad fu V p2 ((V 49 (1 : Int32).toNatClampNeg) ^^^ p1) hn1) (cwV 2 hts gX8_reads_X8_readAt rfl rfl rfl (by decide +kernel) ⟨(Nat.le_of_ble_eq_true rfl), (Nat.le_of_ble_eq_true rfl)⟩) (c_preV hP hKN (q := 48) (ci := 6) (fs := [.ref (ad 49), .ref (ad 50), .ref (ad 51), .int ((V 48) 0), .ref (ad 52), .int ((V 48) 1), .ref (ad 53), .int ((V 48) 2), .int ((V 48) 3), .int ((V 48) 4), .int ((V 48) 5), .int ((V 48) 6), .int ((V 48) 7)]) (by decide) (ce_md ad cI cB (V 48)) rfl rfl) rfl hl.1 rfl (Nat.le_of_ble_eq_true rfl) dX8_reads_60 ⟨Nat.zero_le _, Nat.zero_le _⟩ (fun H locs hP hS => ?_)
          refine k_SR (As := [.int (f_X8_readAt fu V p2 ((V 49 (1 : Int32).toNatClampNeg) ^^^ p1))]) (rest := []) ⟨hx, hb, hml, hown, hts⟩ hKN hP hS (m_X8_orNone l D cI cB ad V (f_X8_readAt fu V p2 ((V 49 (1 : Int32).toNatClampNeg) ^^^ p1))) (va_cwS 1 hts gX8_reads_X8_orNone rfl rfl rfl (by decide +kernel) ⟨(Nat.le_of_ble_eq_true rfl), (Nat.le_of_ble_eq_true rfl)⟩) rfl hl.1 rfl (Nat.le_of_ble_eq_true rfl) dX8_reads_63 ⟨Nat.zero_le _, Nat.zero_le _⟩ (fun H locs hP hS => ?_)
          exact W.iret (v := (f_X8_orNone V (f_X8_readAt fu V p2 ((V 49 (1 : Int32).toNatClampNeg) ^^^ p1)))) hx hb hr (fun t ht hW => ⟨⟨(f_X8_orNone V (f_X8_readAt fu V p2 ((V 49 (1 : Int32).toNatClampNeg) ^^^ p1))), (), rfl, hE.symm, trivial⟩, hS.F ht⟩) hS.2.2 dX8_reads_66
      · have hE := hE.trans (if_neg c3)
        refine lv_sipush (v := (-1004)) hx hb dX8_reads_27 (by decide) ?_
        exact W.iret (v := (-1004)) hx hb hr (fun t ht hW => ⟨⟨(-1004), (), rfl, hE.symm, trivial⟩, hS.F ht⟩) hS.2.2 dX8_reads_30
    · have hE := hE.trans (if_neg c2)
      refine lv_sipush (v := (-1001)) hx hb dX8_reads_13 (by decide) ?_
      exact W.iret (v := (-1001)) hx hb hr (fun t ht hW => ⟨⟨(-1001), (), rfl, hE.symm, trivial⟩, hS.F ht⟩) hS.2.2 dX8_reads_16
def f_X8_wrong_l1 (fu : Nat) (V : VT) (p1 : Int32) : Nat → Int32 → Int32 → Int32
  | 0, x2_1, x3_1 => 0
  | w1 + 1, x2_1, x3_1 => (if (V 49 (0 : Int32).toNatClampNeg) ≤ x3_1 then x2_1 else (if (f_X8_readAt fu V x3_1 p1) = (f_X8_wanted V x3_1 p1) then (f_X8_wrong_l1 fu V p1 w1 (x2_1 + 0) (x3_1 + 1)) else (f_X8_wrong_l1 fu V p1 w1 (x2_1 + 1) (x3_1 + 1))))
def p_X8_wrong_l1 (fu : Nat) (V : VT) (p1 : Int32) : Nat → Int32 → Int32 → Prop
  | 0, _, _ => False
  | w1 + 1, x2_1, x3_1 => (((V 49 (0 : Int32).toNatClampNeg) ≤ x3_1 → True) ∧ (¬ ((V 49 (0 : Int32).toNatClampNeg) ≤ x3_1) → ((p_X8_readAt fu V x3_1 p1) ∧ ((p_X8_wanted V x3_1 p1) ∧ (((f_X8_readAt fu V x3_1 p1) = (f_X8_wanted V x3_1 p1) → (p_X8_wrong_l1 fu V p1 w1 (x2_1 + 0) (x3_1 + 1))) ∧ (¬ ((f_X8_readAt fu V x3_1 p1) = (f_X8_wanted V x3_1 p1)) → (p_X8_wrong_l1 fu V p1 w1 (x2_1 + 1) (x3_1 + 1))))))))
def f_X8_wrong (fu : Nat) (V : VT) (p1 : Int32) : Int32 := (f_X8_wrong_l1 fu V p1 fu 0 0)
def p_X8_wrong (fu : Nat) (V : VT) (p1 : Int32) : Prop := (p_X8_wrong_l1 fu V p1 fu 0 0)
set_option maxHeartbeats 4000000 in
set_option maxRecDepth 100000 in
theorem m_X8_wrong (l : Launch) (D : va_G) (cI cB : ClassId) (ad : Nat → Nat) (fu : Nat) (V : VT) (p1 : Int32)  (hp : p_X8_wrong fu V p1) : Met l yX8_wrong wsX8_wrong ({ frames := 3, cells := 0, slots := 0, locals := 69 }) (cP D cI cB ad V [.ref (ad 48), .int p1]) (cR (f_X8_wrong fu V p1)) 0 0 (fun _ => False) := by
  refine Met.ofW (cc := cX8_wrong) (maxL := 4) (ret := (some .int)) (by decide +kernel) rfl ?_
  intro p e s m args below meth c s₁ B hml hv
  obtain ⟨rfl, hP, hKN⟩ := hv
  have hK := hKN.1
  have hx := B.exec
  have hb := B.bytes
  have hr := B.returns
  have hts := atoms_spec (ws := wsX8_wrong) B.pre
  have hown : s.vm.findClass RX8 = some m.cls := findClass_of_methodNamed B.named
  have hlocks := B.notSynchronized
  have hS : va_S (fun _ => False) s.heap s.heap [] := va_S.rf
  have hl := lv_entry ([.ref (ad 48), .int p1]) (n := 4) (Nat.le_of_ble_eq_true rfl)
  rw [lg_entry_eq]
  generalize (lg_sl ([.ref (ad 48), .int p1]) ++ List.replicate (4 - (lg_sl ([.ref (ad 48), .int p1])).length) Slot.unset).toArray = ls at hl ⊢
  have hl : lv_has ls 4 [(0, .ref (ad 48)), (1, .int p1)] := hl
  have hE : f_X8_wrong fu V p1 = (f_X8_wrong_l1 fu V p1 fu 0 0) := rfl
  refine lv_iconst (v := 0) hx hb dX8_wrong_0 (by decide) ?_
  refine lv_istore_n (lv' := [(2, .int 0), (0, .ref (ad 48)), (1, .int p1)]) hx hb dX8_wrong_1 rfl hl (by decide) rfl (fun ls hl => ?_)
  refine lv_iconst (v := 0) hx hb dX8_wrong_2 (by decide) ?_
  refine lv_istore_n (lv' := [(3, .int 0), (2, .int 0), (0, .ref (ad 48)), (1, .int p1)]) hx hb dX8_wrong_3 rfl hl (by decide) rfl (fun ls hl => ?_)
  have L1 : ∀ (w1 : Nat) (x2_1 : Int32) (x3_1 : Int32), f_X8_wrong fu V p1 = f_X8_wrong_l1 fu V p1 w1 x2_1 x3_1 → p_X8_wrong_l1 fu V p1 w1 x2_1 x3_1 → ∀ (H : Heap) (locs : List Loc), wP D cI cB ad V H → va_S (fun _ => False) s.heap H locs → ∀ (ls : Array Slot), lv_has ls 4 [(0, .ref (ad 48)), (1, .int p1), (2, .int x2_1), (3, .int x3_1)] → W p l e (headSpec wsX8_wrong ({ frames := 3, cells := 0, slots := 0, locals := 69 })).room s m ([.ref (ad 48), .int p1] : List Value).toArray below meth c H locs 0 0 (MQ below (cR (f_X8_wrong fu V p1)) ([.ref (ad 48), .int p1] : List Value).toArray s 0 0 (fun _ => False)) (F0 m 4 ls []) := by
    intro w1
    induction w1 with
    | zero => intro x2_1 x3_1 hE hp; exact hp.elim
    | succ w1 ih1 =>
      intro x2_1 x3_1 hE hp H locs hP hS ls hl
      rw [f_X8_wrong_l1] at hE
      rw [p_X8_wrong_l1] at hp
      refine lv_iload_n hx hb dX8_wrong_4 rfl (lv_at hl 3 rfl) ?_
      refine lv_aload_n hx hb dX8_wrong_5 rfl (lv_at hl 0 rfl) ?_
      refine x_get (ci := 6) (fs := [.ref (ad 49), .ref (ad 50), .ref (ad 51), .int ((V 48) 0), .ref (ad 52), .int ((V 48) 1), .ref (ad 53), .int ((V 48) 2), .int ((V 48) 3), .int ((V 48) 4), .int ((V 48) 5), .int ((V 48) 6), .int ((V 48) 7)]) (q := 48) (v := .ref (ad 49)) (N := 13) hx hb hts (fun _ h => List.mem_cons_of_mem _ (List.mem_append_right _ h)) hown hK hP (by decide) (ce_md ad cI cB (V 48)) rfl 0 (by decide) (hts (.fieldLink RX8 7 "TurnedBoardsModel" "s" "[I") (List.mem_of_getElem? (i := 1) rfl)) rfl rfl dX8_wrong_6 ?_
      refine lv_iconst (v := 0) hx hb dX8_wrong_9 (by decide) ?_
      refine x_iald hx hb hK hP ⟨by decide, fun _ => rfl, by decide⟩ (vp_lit (i := 0) (n := 49) (by decide) (by decide)) dX8_wrong_10 ?_
      refine lv_icmp_ge (tgt := 43) hx hb dX8_wrong_11 (by decide) (fun c1 => ?_) (fun c1 => ?_)
      · have hE := hE.trans (if_pos c1)
        refine lv_iload_n hx hb dX8_wrong_43 rfl (lv_at hl 2 rfl) ?_
        exact W.iret (v := x2_1) hx hb hr (fun t ht hW => ⟨⟨x2_1, (), rfl, hE.symm, trivial⟩, hS.F ht⟩) hS.2.2 dX8_wrong_44
      · have hE := hE.trans (if_neg c1)
        have hp := pc_bn hp c1
        refine lv_iload_n hx hb dX8_wrong_14 rfl (lv_at hl 2 rfl) ?_
        refine lv_aload_n hx hb dX8_wrong_15 rfl (lv_at hl 0 rfl) ?_
        refine lv_iload_n hx hb dX8_wrong_16 rfl (lv_at hl 3 rfl) ?_
        refine lv_iload_n hx hb dX8_wrong_17 rfl (lv_at hl 1 rfl) ?_
        obtain ⟨hn1, hp⟩ := hp
        refine k_VR (As := [.int x3_1, .int p1]) (rest := [.int x2_1]) (q := 48) ⟨hx, hb, hml, hown, hts⟩ hKN hP hS (m_X8_readAt l D cI cB ad fu V x3_1 p1 hn1) (cwV 2 hts gX8_wrong_X8_readAt rfl rfl rfl (by decide +kernel) ⟨(Nat.le_of_ble_eq_true rfl), (Nat.le_of_ble_eq_true rfl)⟩) (c_preV hP hKN (q := 48) (ci := 6) (fs := [.ref (ad 49), .ref (ad 50), .ref (ad 51), .int ((V 48) 0), .ref (ad 52), .int ((V 48) 1), .ref (ad 53), .int ((V 48) 2), .int ((V 48) 3), .int ((V 48) 4), .int ((V 48) 5), .int ((V 48) 6), .int ((V 48) 7)]) (by decide) (ce_md ad cI cB (V 48)) rfl rfl) rfl hl.1 rfl (Nat.le_of_ble_eq_true rfl) dX8_wrong_18 ⟨Nat.zero_le _, Nat.zero_le _⟩ (fun H locs hP hS => ?_)
        refine lv_aload_n hx hb dX8_wrong_21 rfl (lv_at hl 0 rfl) ?_
        refine lv_iload_n hx hb dX8_wrong_22 rfl (lv_at hl 3 rfl) ?_
        refine lv_iload_n hx hb dX8_wrong_23 rfl (lv_at hl 1 rfl) ?_
        obtain ⟨hn2, hp⟩ := hp
        refine k_VR (As := [.int x3_1, .int p1]) (rest := [.int (f_X8_readAt fu V x3_1 p1), .int x2_1]) (q := 48) ⟨hx, hb, hml, hown, hts⟩ hKN hP hS (m_X8_wanted l D cI cB ad V x3_1 p1 hn2) (cwV 2 hts gX8_wrong_X8_wanted rfl rfl rfl (by decide +kernel) ⟨(Nat.le_of_ble_eq_true rfl), (Nat.le_of_ble_eq_true rfl)⟩) (c_preV hP hKN (q := 48) (ci := 6) (fs := [.ref (ad 49), .ref (ad 50), .ref (ad 51), .int ((V 48) 0), .ref (ad 52), .int ((V 48) 1), .ref (ad 53), .int ((V 48) 2), .int ((V 48) 3), .int ((V 48) 4), .int ((V 48) 5), .int ((V 48) 6), .int ((V 48) 7)]) (by decide) (ce_md ad cI cB (V 48)) rfl rfl) rfl hl.1 rfl (Nat.le_of_ble_eq_true rfl) dX8_wrong_24 ⟨Nat.zero_le _, Nat.zero_le _⟩ (fun H locs hP hS => ?_)
        refine lv_icmp_ne (tgt := 34) hx hb dX8_wrong_27 (by decide) (fun c2 => ?_) (fun c2 => ?_)
        · have hE := hE.trans (if_neg c2)
          have hp := pc_bn hp c2
          refine lv_iconst (v := 1) hx hb dX8_wrong_34 (by decide) ?_
          refine lv_iadd hx hb dX8_wrong_35 ?_
          refine lv_istore_n (lv' := [(2, .int (x2_1 + 1)), (0, .ref (ad 48)), (1, .int p1), (3, .int x3_1)]) hx hb dX8_wrong_36 rfl hl (by decide) rfl (fun ls hl => ?_)
          refine lv_iinc (v := (x3_1 + 1)) (lv' := [(3, .int (x3_1 + 1)), (2, .int (x2_1 + 1)), (0, .ref (ad 48)), (1, .int p1)]) hx hb dX8_wrong_37 hl (k := 3) rfl (by rfl) (by decide) rfl (fun ls hl => ?_)
          refine lv_goto (tgt := 4) hx hb dX8_wrong_40 (by decide) ?_
          exact ih1 (x2_1 + 1) (x3_1 + 1) hE hp H locs hP hS ls (lv_sub hl [2, 3, 1, 0] rfl)
        · have hE := hE.trans (if_pos c2)
          have hp := pc_br hp c2
          refine lv_iconst (v := 0) hx hb dX8_wrong_30 (by decide) ?_
          refine lv_goto (tgt := 35) hx hb dX8_wrong_31 (by decide) ?_
          refine lv_iadd hx hb dX8_wrong_35 ?_
          refine lv_istore_n (lv' := [(2, .int (x2_1 + 0)), (0, .ref (ad 48)), (1, .int p1), (3, .int x3_1)]) hx hb dX8_wrong_36 rfl hl (by decide) rfl (fun ls hl => ?_)
          refine lv_iinc (v := (x3_1 + 1)) (lv' := [(3, .int (x3_1 + 1)), (2, .int (x2_1 + 0)), (0, .ref (ad 48)), (1, .int p1)]) hx hb dX8_wrong_37 hl (k := 3) rfl (by rfl) (by decide) rfl (fun ls hl => ?_)
          refine lv_goto (tgt := 4) hx hb dX8_wrong_40 (by decide) ?_
          exact ih1 (x2_1 + 0) (x3_1 + 1) hE hp H locs hP hS ls (lv_sub hl [2, 3, 1, 0] rfl)
  exact L1 fu 0 0 hE hp _ _ hP hS _ (lv_sub hl [2, 3, 1, 0] rfl)
