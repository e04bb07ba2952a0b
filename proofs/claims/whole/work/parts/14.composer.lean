/-! contracts by program (wip/whole/gen): f_ what a method answers or makes of the table, p_ what it needs, m_ the contract -/
def f_X1_settleAs (rc : VT → Int32 → Int32 → VT) (V : VT) (p1 : Int32) (p2 : Int32) (p3 : Int32) : VT := (if ((jushr (V 1 3) p1) &&& 1) = p3 then (rc V (p1 - 1) (p2 ||| (p3 <<< (p1 &&& 31)))) else (if ((jushr (V 1 4) p1) &&& 1) = p3 then (rc V (p1 - 1) (p2 ||| (p3 <<< (p1 &&& 31)))) else V))
def p_X1_settleAs (rc : VT → Int32 → Int32 → VT) (rp : VT → Int32 → Int32 → Prop) (V : VT) (p1 : Int32) (p2 : Int32) (p3 : Int32) : Prop := ((((jushr (V 1 3) p1) &&& 1) = p3 → (rp V (p1 - 1) (p2 ||| (p3 <<< (p1 &&& 31))))) ∧ (¬ (((jushr (V 1 3) p1) &&& 1) = p3) → ((((jushr (V 1 4) p1) &&& 1) = p3 → (rp V (p1 - 1) (p2 ||| (p3 <<< (p1 &&& 31))))) ∧ (¬ (((jushr (V 1 4) p1) &&& 1) = p3) → True))))
set_option maxHeartbeats 4000000 in
set_option maxRecDepth 100000 in
theorem m_X1_settleAs (l : Launch) (D : va_G) (cI cB : ClassId) (ad : Nat → Nat) {A : Nat → Prop} (hA : adOk ad A) (rc : VT → Int32 → Int32 → VT) (rp : VT → Int32 → Int32 → Prop) (fr lo : Nat) (IH : ∀ (V : VT) (p1 p2 : Int32), rp V p1 p2 → Met l yX1_settle wsX1_settle ({ frames := fr, cells := 0, slots := 0, locals := lo }) (cP D cI cB ad V [.ref (ad 1), .int p1, .int p2]) (cWv D cI cB ad A (rc V p1 p2)) 0 0 A) (V : VT) (p1 : Int32) (p2 : Int32) (p3 : Int32)  (hp : p_X1_settleAs rc rp V p1 p2 p3) : Met l yX1_settleAs wsX1_settleAs ({ frames := fr + 1, cells := 0, slots := 0, locals := 24 + lo }) (cP D cI cB ad V [.ref (ad 1), .int p1, .int p2, .int p3]) (cWv D cI cB ad A (f_X1_settleAs rc V p1 p2 p3)) 0 0 A := by
  refine Met.ofW (cc := cX1_settleAs) (maxL := 4) (ret := none) (by decide +kernel) rfl ?_
  intro p e s m args below meth c s₁ B hml hv
  obtain ⟨rfl, hP, hKN⟩ := hv
  have hK := hKN.1
  have hx := B.exec
  have hb := B.bytes
  have hr := B.returns
  have hts := atoms_spec (ws := wsX1_settleAs) B.pre
  have hown : s.vm.findClass RX1 = some m.cls := findClass_of_methodNamed B.named
  have hlocks := B.notSynchronized
  have hS : va_S A s.heap s.heap [] := va_S.rf
  have hl := lv_entry ([.ref (ad 1), .int p1, .int p2, .int p3]) (n := 4) (Nat.le_of_ble_eq_true rfl)
  rw [lg_entry_eq]
  generalize (lg_sl ([.ref (ad 1), .int p1, .int p2, .int p3]) ++ List.replicate (4 - (lg_sl ([.ref (ad 1), .int p1, .int p2, .int p3])).length) Slot.unset).toArray = ls at hl ⊢
  have hl : lv_has ls 4 [(0, .ref (ad 1)), (1, .int p1), (2, .int p2), (3, .int p3)] := hl
  have hE : f_X1_settleAs rc V p1 p2 p3 = (if ((jushr (V 1 3) p1) &&& 1) = p3 then (rc V (p1 - 1) (p2 ||| (p3 <<< (p1 &&& 31)))) else (if ((jushr (V 1 4) p1) &&& 1) = p3 then (rc V (p1 - 1) (p2 ||| (p3 <<< (p1 &&& 31)))) else V)) := rfl
  refine lv_aload_n hx hb dX1_settleAs_0 rfl (lv_at hl 0 rfl) ?_
  refine x_get (ci := 1) (fs := [(if (V 1) 0 = 0 then Value.null else Value.ref (ad 7)), .int ((V 1) 1), .int ((V 1) 2), .int ((V 1) 3), .int ((V 1) 4), .int ((V 1) 5), .int ((V 1) 6)]) (q := 1) (v := .int (V 1 3)) (N := 7) hx hb hts (fun _ h => List.mem_cons_of_mem _ (List.mem_append_left _ (List.mem_append_right _ h))) hown hK hP (by decide) (ce_cm ad cI cB (V 1)) rfl 3 (by decide) (hts (.fieldLink RX1 38 "TurnedBoards$Composer" "oneUpright" "I") (List.mem_of_getElem? (i := 1) rfl)) rfl rfl dX1_settleAs_1 ?_
  refine lv_iload_n hx hb dX1_settleAs_4 rfl (lv_at hl 1 rfl) ?_
  refine lv_iushr (v := jushr (V 1 3) p1) hx hb dX1_settleAs_5 rfl ?_
  refine lv_iconst (v := 1) hx hb dX1_settleAs_6 (by decide) ?_
  refine lv_iand hx hb dX1_settleAs_7 ?_
  refine lv_iload_n hx hb dX1_settleAs_8 rfl (lv_at hl 3 rfl) ?_
  refine lv_icmp_eq (tgt := 24) hx hb dX1_settleAs_9 (by decide) (fun c1 => ?_) (fun c1 => ?_)
  · have hE := hE.trans (if_pos c1)
    have hp := pc_br hp c1
    refine lv_aload_n hx hb dX1_settleAs_24 rfl (lv_at hl 0 rfl) ?_
    refine lv_iload_n hx hb dX1_settleAs_25 rfl (lv_at hl 1 rfl) ?_
    refine lv_iconst (v := 1) hx hb dX1_settleAs_26 (by decide) ?_
    refine lv_isub hx hb dX1_settleAs_27 ?_
    refine lv_iload_n hx hb dX1_settleAs_28 rfl (lv_at hl 2 rfl) ?_
    refine lv_iload_n hx hb dX1_settleAs_29 rfl (lv_at hl 3 rfl) ?_
    refine lv_iload_n hx hb dX1_settleAs_30 rfl (lv_at hl 1 rfl) ?_
    refine lv_ishl hx hb dX1_settleAs_31 ?_
    refine lv_ior hx hb dX1_settleAs_32 ?_
    have hn1 := hp
    refine k_VWv (As := [.int (p1 - 1), .int (p2 ||| (p3 <<< (p1 &&& 31)))]) (rest := []) (q := 1) ⟨hx, hb, hml, hown, hts⟩ hKN hP hS (IH V (p1 - 1) (p2 ||| (p3 <<< (p1 &&& 31))) hn1) (cwV 2 hts gX1_settleAs_X1_settle rfl rfl rfl (by decide +kernel) ⟨(by first | exact Nat.le_of_ble_eq_true rfl | (dsimp only [headSpec]; omega) | (simp [headSpec]; omega)), (by first | exact Nat.le_of_ble_eq_true rfl | (dsimp only [headSpec]; omega) | (simp [headSpec]; omega))⟩) (c_preV hP hKN (q := 1) (ci := 1) (fs := [(if (V 1) 0 = 0 then Value.null else Value.ref (ad 7)), .int ((V 1) 1), .int ((V 1) 2), .int ((V 1) 3), .int ((V 1) 4), .int ((V 1) 5), .int ((V 1) 6)]) (by decide) (ce_cm ad cI cB (V 1)) rfl rfl) rfl hl.1 rfl (Nat.le_of_ble_eq_true rfl) dX1_settleAs_33 ⟨Nat.zero_le _, Nat.zero_le _⟩ (fun H locs hP hS => ?_)
    exact W.vret hx hb hr (fun t ht hW => ⟨⟨(rc V (p1 - 1) (p2 ||| (p3 <<< (p1 &&& 31)))), rfl, hE.symm, by dsimp only; rw [ht]; exact hP⟩, hS.F ht⟩) hS.2.2 dX1_settleAs_36
  · have hE := hE.trans (if_neg c1)
    have hp := pc_bn hp c1
    refine lv_aload_n hx hb dX1_settleAs_12 rfl (lv_at hl 0 rfl) ?_
    refine x_get (ci := 1) (fs := [(if (V 1) 0 = 0 then Value.null else Value.ref (ad 7)), .int ((V 1) 1), .int ((V 1) 2), .int ((V 1) 3), .int ((V 1) 4), .int ((V 1) 5), .int ((V 1) 6)]) (q := 1) (v := .int (V 1 4)) (N := 7) hx hb hts (fun _ h => List.mem_cons_of_mem _ (List.mem_append_left _ (List.mem_append_right _ h))) hown hK hP (by decide) (ce_cm ad cI cB (V 1)) rfl 4 (by decide) (hts (.fieldLink RX1 46 "TurnedBoards$Composer" "otherTurned" "I") (List.mem_of_getElem? (i := 2) rfl)) rfl rfl dX1_settleAs_13 ?_
    refine lv_iload_n hx hb dX1_settleAs_16 rfl (lv_at hl 1 rfl) ?_
    refine lv_iushr (v := jushr (V 1 4) p1) hx hb dX1_settleAs_17 rfl ?_
    refine lv_iconst (v := 1) hx hb dX1_settleAs_18 (by decide) ?_
    refine lv_iand hx hb dX1_settleAs_19 ?_
    refine lv_iload_n hx hb dX1_settleAs_20 rfl (lv_at hl 3 rfl) ?_
    refine lv_icmp_ne (tgt := 36) hx hb dX1_settleAs_21 (by decide) (fun c2 => ?_) (fun c2 => ?_)
    · have hE := hE.trans (if_neg c2)
      exact W.vret hx hb hr (fun t ht hW => ⟨⟨V, rfl, hE.symm, by dsimp only; rw [ht]; exact hP⟩, hS.F ht⟩) hS.2.2 dX1_settleAs_36
    · have hE := hE.trans (if_pos c2)
      have hp := pc_br hp c2
      refine lv_aload_n hx hb dX1_settleAs_24 rfl (lv_at hl 0 rfl) ?_
      refine lv_iload_n hx hb dX1_settleAs_25 rfl (lv_at hl 1 rfl) ?_
      refine lv_iconst (v := 1) hx hb dX1_settleAs_26 (by decide) ?_
      refine lv_isub hx hb dX1_settleAs_27 ?_
      refine lv_iload_n hx hb dX1_settleAs_28 rfl (lv_at hl 2 rfl) ?_
      refine lv_iload_n hx hb dX1_settleAs_29 rfl (lv_at hl 3 rfl) ?_
      refine lv_iload_n hx hb dX1_settleAs_30 rfl (lv_at hl 1 rfl) ?_
      refine lv_ishl hx hb dX1_settleAs_31 ?_
      refine lv_ior hx hb dX1_settleAs_32 ?_
      have hn2 := hp
      refine k_VWv (As := [.int (p1 - 1), .int (p2 ||| (p3 <<< (p1 &&& 31)))]) (rest := []) (q := 1) ⟨hx, hb, hml, hown, hts⟩ hKN hP hS (IH V (p1 - 1) (p2 ||| (p3 <<< (p1 &&& 31))) hn2) (cwV 2 hts gX1_settleAs_X1_settle rfl rfl rfl (by decide +kernel) ⟨(by first | exact Nat.le_of_ble_eq_true rfl | (dsimp only [headSpec]; omega) | (simp [headSpec]; omega)), (by first | exact Nat.le_of_ble_eq_true rfl | (dsimp only [headSpec]; omega) | (simp [headSpec]; omega))⟩) (c_preV hP hKN (q := 1) (ci := 1) (fs := [(if (V 1) 0 = 0 then Value.null else Value.ref (ad 7)), .int ((V 1) 1), .int ((V 1) 2), .int ((V 1) 3), .int ((V 1) 4), .int ((V 1) 5), .int ((V 1) 6)]) (by decide) (ce_cm ad cI cB (V 1)) rfl rfl) rfl hl.1 rfl (Nat.le_of_ble_eq_true rfl) dX1_settleAs_33 ⟨Nat.zero_le _, Nat.zero_le _⟩ (fun H locs hP hS => ?_)
      exact W.vret hx hb hr (fun t ht hW => ⟨⟨(rc V (p1 - 1) (p2 ||| (p3 <<< (p1 &&& 31)))), rfl, hE.symm, by dsimp only; rw [ht]; exact hP⟩, hS.F ht⟩) hS.2.2 dX1_settleAs_36
def f_X1_settle (fu : Nat) : Nat → VT → Int32 → Int32 → VT
  | 0, V, p1, p2 => V
  | n + 1, V, p1, p2 => (if 15 ≤ p1 then V else (if (f_X3_leadOf fu V 0 (p2 ||| ((V 1 3) &&& ((1 <<< ((p1 + 1) &&& 31)) - 1))) (V 1 1)) ≤ (V 1 6) then V else (if (V 1 6) < (if (f_X3_leadOf fu V 0 (f_X6_turn V (p2 ||| ((V 1 4) &&& ((1 <<< ((p1 + 1) &&& 31)) - 1)))) (V 1 2)) < (f_X3_leadOf fu V 0 (p2 ||| ((V 1 3) &&& ((1 <<< ((p1 + 1) &&& 31)) - 1))) (V 1 1)) then (f_X3_leadOf fu V 0 (f_X6_turn V (p2 ||| ((V 1 4) &&& ((1 <<< ((p1 + 1) &&& 31)) - 1)))) (V 1 2)) else (f_X3_leadOf fu V 0 (p2 ||| ((V 1 3) &&& ((1 <<< ((p1 + 1) &&& 31)) - 1))) (V 1 1))) then (if 0 ≤ p1 then (f_X1_settleAs (f_X1_settle fu n) (f_X1_settleAs (f_X1_settle fu n) V p1 p2 0) p1 p2 1) else (upV (upV V 1 5 p2) 1 6 (if (f_X3_leadOf fu V 0 (f_X6_turn V (p2 ||| ((V 1 4) &&& ((1 <<< ((p1 + 1) &&& 31)) - 1)))) (V 1 2)) < (f_X3_leadOf fu V 0 (p2 ||| ((V 1 3) &&& ((1 <<< ((p1 + 1) &&& 31)) - 1))) (V 1 1)) then (f_X3_leadOf fu V 0 (f_X6_turn V (p2 ||| ((V 1 4) &&& ((1 <<< ((p1 + 1) &&& 31)) - 1)))) (V 1 2)) else (f_X3_leadOf fu V 0 (p2 ||| ((V 1 3) &&& ((1 <<< ((p1 + 1) &&& 31)) - 1))) (V 1 1))))) else V)))
def p_X1_settle (fu : Nat) : Nat → VT → Int32 → Int32 → Prop
  | 0, _, _, _ => False
  | n + 1, V, p1, p2 => ((15 ≤ p1 → True) ∧ (¬ (15 ≤ p1) → ((¬ V 1 0 = 0) ∧ ((¬ V 1 0 = 0) ∧ ((p_X3_leadOf fu V 0 (p2 ||| ((V 1 3) &&& ((1 <<< ((p1 + 1) &&& 31)) - 1))) (V 1 1)) ∧ (((f_X3_leadOf fu V 0 (p2 ||| ((V 1 3) &&& ((1 <<< ((p1 + 1) &&& 31)) - 1))) (V 1 1)) ≤ (V 1 6) → True) ∧ (¬ ((f_X3_leadOf fu V 0 (p2 ||| ((V 1 3) &&& ((1 <<< ((p1 + 1) &&& 31)) - 1))) (V 1 1)) ≤ (V 1 6)) → ((¬ V 1 0 = 0) ∧ ((p_X3_leadOf fu V 0 (f_X6_turn V (p2 ||| ((V 1 4) &&& ((1 <<< ((p1 + 1) &&& 31)) - 1)))) (V 1 2)) ∧ (((V 1 6) < (if (f_X3_leadOf fu V 0 (f_X6_turn V (p2 ||| ((V 1 4) &&& ((1 <<< ((p1 + 1) &&& 31)) - 1)))) (V 1 2)) < (f_X3_leadOf fu V 0 (p2 ||| ((V 1 3) &&& ((1 <<< ((p1 + 1) &&& 31)) - 1))) (V 1 1)) then (f_X3_leadOf fu V 0 (f_X6_turn V (p2 ||| ((V 1 4) &&& ((1 <<< ((p1 + 1) &&& 31)) - 1)))) (V 1 2)) else (f_X3_leadOf fu V 0 (p2 ||| ((V 1 3) &&& ((1 <<< ((p1 + 1) &&& 31)) - 1))) (V 1 1))) → ((0 ≤ p1 → ((p_X1_settleAs (f_X1_settle fu n) (p_X1_settle fu n) V p1 p2 0) ∧ (p_X1_settleAs (f_X1_settle fu n) (p_X1_settle fu n) (f_X1_settleAs (f_X1_settle fu n) V p1 p2 0) p1 p2 1))) ∧ (¬ (0 ≤ p1) → True))) ∧ (¬ ((V 1 6) < (if (f_X3_leadOf fu V 0 (f_X6_turn V (p2 ||| ((V 1 4) &&& ((1 <<< ((p1 + 1) &&& 31)) - 1)))) (V 1 2)) < (f_X3_leadOf fu V 0 (p2 ||| ((V 1 3) &&& ((1 <<< ((p1 + 1) &&& 31)) - 1))) (V 1 1)) then (f_X3_leadOf fu V 0 (f_X6_turn V (p2 ||| ((V 1 4) &&& ((1 <<< ((p1 + 1) &&& 31)) - 1)))) (V 1 2)) else (f_X3_leadOf fu V 0 (p2 ||| ((V 1 3) &&& ((1 <<< ((p1 + 1) &&& 31)) - 1))) (V 1 1)))) → True)))))))))))
set_option maxHeartbeats 4000000 in
set_option maxRecDepth 100000 in
theorem m_X1_settle (l : Launch) (D : va_G) (cI cB : ClassId) (ad : Nat → Nat) {A : Nat → Prop} (hA : adOk ad A) (fu : Nat) : ∀ (n : Nat) (V : VT) (p1 p2 : Int32), p_X1_settle fu n V p1 p2 → Met l yX1_settle wsX1_settle ({ frames := 2 * n + 3, cells := 0, slots := 0, locals := 48 * n + 69 }) (cP D cI cB ad V [.ref (ad 1), .int p1, .int p2]) (cWv D cI cB ad A (f_X1_settle fu n V p1 p2)) 0 0 A := by
  intro n
  induction n with
  | zero => intro V p1 p2 hp; exact hp.elim
  | succ n ih =>
    intro V p1 p2 hp
    rw [p_X1_settle] at hp
    refine Met.ofW (cc := cX1_settle) (maxL := 5) (ret := none) (by decide +kernel) rfl ?_
    intro p e s m args below meth c s₁ B hml hv
    obtain ⟨rfl, hP, hKN⟩ := hv
    have hK := hKN.1
    have hx := B.exec
    have hb := B.bytes
    have hr := B.returns
    have hts := atoms_spec (ws := wsX1_settle) B.pre
    have hown : s.vm.findClass RX1 = some m.cls := findClass_of_methodNamed B.named
    have hlocks := B.notSynchronized
    have hS : va_S A s.heap s.heap [] := va_S.rf
    have hl := lv_entry ([.ref (ad 1), .int p1, .int p2]) (n := 5) (Nat.le_of_ble_eq_true rfl)
    rw [lg_entry_eq]
    generalize (lg_sl ([.ref (ad 1), .int p1, .int p2]) ++ List.replicate (5 - (lg_sl ([.ref (ad 1), .int p1, .int p2])).length) Slot.unset).toArray = ls at hl ⊢
    have hl : lv_has ls 5 [(0, .ref (ad 1)), (1, .int p1), (2, .int p2)] := hl
    have hE : f_X1_settle fu (n + 1) V p1 p2 = (if 15 ≤ p1 then V else (if (f_X3_leadOf fu V 0 (p2 ||| ((V 1 3) &&& ((1 <<< ((p1 + 1) &&& 31)) - 1))) (V 1 1)) ≤ (V 1 6) then V else (if (V 1 6) < (if (f_X3_leadOf fu V 0 (f_X6_turn V (p2 ||| ((V 1 4) &&& ((1 <<< ((p1 + 1) &&& 31)) - 1)))) (V 1 2)) < (f_X3_leadOf fu V 0 (p2 ||| ((V 1 3) &&& ((1 <<< ((p1 + 1) &&& 31)) - 1))) (V 1 1)) then (f_X3_leadOf fu V 0 (f_X6_turn V (p2 ||| ((V 1 4) &&& ((1 <<< ((p1 + 1) &&& 31)) - 1)))) (V 1 2)) else (f_X3_leadOf fu V 0 (p2 ||| ((V 1 3) &&& ((1 <<< ((p1 + 1) &&& 31)) - 1))) (V 1 1))) then (if 0 ≤ p1 then (f_X1_settleAs (f_X1_settle fu n) (f_X1_settleAs (f_X1_settle fu n) V p1 p2 0) p1 p2 1) else (upV (upV V 1 5 p2) 1 6 (if (f_X3_leadOf fu V 0 (f_X6_turn V (p2 ||| ((V 1 4) &&& ((1 <<< ((p1 + 1) &&& 31)) - 1)))) (V 1 2)) < (f_X3_leadOf fu V 0 (p2 ||| ((V 1 3) &&& ((1 <<< ((p1 + 1) &&& 31)) - 1))) (V 1 1)) then (f_X3_leadOf fu V 0 (f_X6_turn V (p2 ||| ((V 1 4) &&& ((1 <<< ((p1 + 1) &&& 31)) - 1)))) (V 1 2)) else (f_X3_leadOf fu V 0 (p2 ||| ((V 1 3) &&& ((1 <<< ((p1 + 1) &&& 31)) - 1))) (V 1 1))))) else V))) := by rw [f_X1_settle]
    refine lv_iload_n hx hb dX1_settle_0 rfl (lv_at hl 1 rfl) ?_
    refine lv_bipush (v := 15) hx hb dX1_settle_1 (by decide) ?_
    refine lv_icmp_ge (tgt := 13) hx hb dX1_settle_3 (by decide) (fun c1 => ?_) (fun c1 => ?_)
    · have hE := hE.trans (if_pos c1)
      exact W.vret hx hb hr (fun t ht hW => ⟨⟨V, rfl, hE.symm, by dsimp only; rw [ht]; exact hP⟩, hS.F ht⟩) hS.2.2 dX1_settle_13
    · have hE := hE.trans (if_neg c1)
      have hp := pc_bn hp c1
      refine lv_aload_n hx hb dX1_settle_6 rfl (lv_at hl 0 rfl) ?_
      obtain ⟨hn1, hp⟩ := hp
      refine x_get (ci := 1) (fs := [(if (V 1) 0 = 0 then Value.null else Value.ref (ad 7)), .int ((V 1) 1), .int ((V 1) 2), .int ((V 1) 3), .int ((V 1) 4), .int ((V 1) 5), .int ((V 1) 6)]) (q := 1) (v := .ref (ad 7)) (N := 7) hx hb hts (fun _ h => List.mem_cons_of_mem _ (List.mem_append_left _ (List.mem_append_right _ h))) hown hK hP (by decide) (ce_cm ad cI cB (V 1)) rfl 0 (by decide) (hts (.fieldLink RX1 24 "TurnedBoards$Composer" "letters" "LTurnedBoards$Letters;") (List.mem_of_getElem? (i := 1) rfl)) rfl (congrArg some (if_neg hn1)) dX1_settle_7 ?_
      refine lv_ifnonnull (tgt := 14) hx hb dX1_settle_10 (by decide) ?_
      refine lv_iconst (v := 1) hx hb dX1_settle_14 (by decide) ?_
      refine lv_iload_n hx hb dX1_settle_15 rfl (lv_at hl 1 rfl) ?_
      refine lv_iconst (v := 1) hx hb dX1_settle_16 (by decide) ?_
      refine lv_iadd hx hb dX1_settle_17 ?_
      refine lv_ishl hx hb dX1_settle_18 ?_
      refine lv_iconst (v := 1) hx hb dX1_settle_19 (by decide) ?_
      refine lv_isub hx hb dX1_settle_20 ?_
      refine lv_istore_n (lv' := [(3, .int ((1 <<< ((p1 + 1) &&& 31)) - 1)), (0, .ref (ad 1)), (1, .int p1), (2, .int p2)]) hx hb dX1_settle_21 rfl hl (by decide) rfl (fun ls hl => ?_)
      refine lv_aload_n hx hb dX1_settle_22 rfl (lv_at hl 1 rfl) ?_
      obtain ⟨hn2, hp⟩ := hp
      refine x_get (ci := 1) (fs := [(if (V 1) 0 = 0 then Value.null else Value.ref (ad 7)), .int ((V 1) 1), .int ((V 1) 2), .int ((V 1) 3), .int ((V 1) 4), .int ((V 1) 5), .int ((V 1) 6)]) (q := 1) (v := .ref (ad 7)) (N := 7) hx hb hts (fun _ h => List.mem_cons_of_mem _ (List.mem_append_left _ (List.mem_append_right _ h))) hown hK hP (by decide) (ce_cm ad cI cB (V 1)) rfl 0 (by decide) (hts (.fieldLink RX1 24 "TurnedBoards$Composer" "letters" "LTurnedBoards$Letters;") (List.mem_of_getElem? (i := 1) rfl)) rfl (congrArg some (if_neg hn2)) dX1_settle_23 ?_
      refine lv_iload_n hx hb dX1_settle_26 rfl (lv_at hl 3 rfl) ?_
      refine lv_aload_n hx hb dX1_settle_27 rfl (lv_at hl 1 rfl) ?_
      refine x_get (ci := 1) (fs := [(if (V 1) 0 = 0 then Value.null else Value.ref (ad 7)), .int ((V 1) 1), .int ((V 1) 2), .int ((V 1) 3), .int ((V 1) 4), .int ((V 1) 5), .int ((V 1) 6)]) (q := 1) (v := .int (V 1 3)) (N := 7) hx hb hts (fun _ h => List.mem_cons_of_mem _ (List.mem_append_left _ (List.mem_append_right _ h))) hown hK hP (by decide) (ce_cm ad cI cB (V 1)) rfl 3 (by decide) (hts (.fieldLink RX1 38 "TurnedBoards$Composer" "oneUpright" "I") (List.mem_of_getElem? (i := 2) rfl)) rfl rfl dX1_settle_28 ?_
      refine lv_iload_n hx hb dX1_settle_31 rfl (lv_at hl 0 rfl) ?_
      refine lv_iand hx hb dX1_settle_32 ?_
      refine lv_ior hx hb dX1_settle_33 ?_
      refine lv_aload_n hx hb dX1_settle_34 rfl (lv_at hl 1 rfl) ?_
      refine x_get (ci := 1) (fs := [(if (V 1) 0 = 0 then Value.null else Value.ref (ad 7)), .int ((V 1) 1), .int ((V 1) 2), .int ((V 1) 3), .int ((V 1) 4), .int ((V 1) 5), .int ((V 1) 6)]) (q := 1) (v := .int (V 1 1)) (N := 7) hx hb hts (fun _ h => List.mem_cons_of_mem _ (List.mem_append_left _ (List.mem_append_right _ h))) hown hK hP (by decide) (ce_cm ad cI cB (V 1)) rfl 1 (by decide) (hts (.fieldLink RX1 28 "TurnedBoards$Composer" "one" "I") (List.mem_of_getElem? (i := 3) rfl)) rfl rfl dX1_settle_35 ?_
      obtain ⟨hn3, hp⟩ := hp
      refine k_VR (As := [.int (p2 ||| ((V 1 3) &&& ((1 <<< ((p1 + 1) &&& 31)) - 1))), .int (V 1 1)]) (rest := []) (q := (6 + 7 * 0 + 1)) ⟨hx, hb, hml, hown, hts⟩ hKN hP hS (m_X3_leadOf l D cI cB ad fu V 0 (p2 ||| ((V 1 3) &&& ((1 <<< ((p1 + 1) &&& 31)) - 1))) (V 1 1) (by decide : 0 < 6) hn3) (cwV 2 hts gX1_settle_X3_leadOf rfl rfl rfl (by decide +kernel) ⟨(by first | exact Nat.le_of_ble_eq_true rfl | (dsimp only [headSpec]; omega) | (simp [headSpec]; omega)), (by first | exact Nat.le_of_ble_eq_true rfl | (dsimp only [headSpec]; omega) | (simp [headSpec]; omega))⟩) (c_preV hP hKN (q := (6 + 7 * 0 + 1)) (ci := 3) (fs := [.ref (ad (6 + 7 * 0 + 2))]) (by decide) (ce_lt ad cI cB (by decide : 0 < 6) (V (6 + 7 * 0 + 1))) rfl rfl) rfl hl.1 rfl (Nat.le_of_ble_eq_true rfl) dX1_settle_38 ⟨Nat.zero_le _, Nat.zero_le _⟩ (fun H locs hP hS => ?_)
      refine lv_istore (lv' := [(4, .int (f_X3_leadOf fu V 0 (p2 ||| ((V 1 3) &&& ((1 <<< ((p1 + 1) &&& 31)) - 1))) (V 1 1))), (3, .int ((1 <<< ((p1 + 1) &&& 31)) - 1)), (0, .ref (ad 1)), (1, .int p1), (2, .int p2)]) hx hb dX1_settle_41 hl (by decide) rfl (fun ls hl => ?_)
      refine lv_iload hx hb dX1_settle_43 (lv_at hl 0 rfl) ?_
      refine lv_aload_n hx hb dX1_settle_45 rfl (lv_at hl 2 rfl) ?_
      refine x_get (ci := 1) (fs := [(if (V 1) 0 = 0 then Value.null else Value.ref (ad 7)), .int ((V 1) 1), .int ((V 1) 2), .int ((V 1) 3), .int ((V 1) 4), .int ((V 1) 5), .int ((V 1) 6)]) (q := 1) (v := .int (V 1 6)) (N := 7) hx hb hts (fun _ h => List.mem_cons_of_mem _ (List.mem_append_left _ (List.mem_append_right _ h))) hown hK hP (by decide) (ce_cm ad cI cB (V 1)) rfl 6 (by decide) (hts (.fieldLink RX1 15 "TurnedBoards$Composer" "bestLesser" "I") (List.mem_of_getElem? (i := 4) rfl)) rfl rfl dX1_settle_46 ?_
      refine lv_icmp_le (tgt := 81) hx hb dX1_settle_49 (by decide) (fun c2 => ?_) (fun c2 => ?_)
      · have hE := hE.trans (if_pos c2)
        refine lv_iload hx hb dX1_settle_81 (lv_at hl 0 rfl) ?_
        refine lv_aload_n hx hb dX1_settle_83 rfl (lv_at hl 2 rfl) ?_
        refine x_get (ci := 1) (fs := [(if (V 1) 0 = 0 then Value.null else Value.ref (ad 7)), .int ((V 1) 1), .int ((V 1) 2), .int ((V 1) 3), .int ((V 1) 4), .int ((V 1) 5), .int ((V 1) 6)]) (q := 1) (v := .int (V 1 6)) (N := 7) hx hb hts (fun _ h => List.mem_cons_of_mem _ (List.mem_append_left _ (List.mem_append_right _ h))) hown hK hP (by decide) (ce_cm ad cI cB (V 1)) rfl 6 (by decide) (hts (.fieldLink RX1 15 "TurnedBoards$Composer" "bestLesser" "I") (List.mem_of_getElem? (i := 4) rfl)) rfl rfl dX1_settle_84 ?_
        refine lv_icmp_gt (tgt := 91) hx hb dX1_settle_87 (by decide) (fun hc => absurd hc (i32_nl c2)) (fun _ => ?_)
        exact W.vret hx hb hr (fun t ht hW => ⟨⟨V, rfl, hE.symm, by dsimp only; rw [ht]; exact hP⟩, hS.F ht⟩) hS.2.2 dX1_settle_90
      · have hE := hE.trans (if_neg c2)
        have hp := pc_bn hp c2
        refine lv_iload hx hb dX1_settle_52 (lv_at hl 0 rfl) ?_
        refine lv_aload_n hx hb dX1_settle_54 rfl (lv_at hl 2 rfl) ?_
        obtain ⟨hn4, hp⟩ := hp
        refine x_get (ci := 1) (fs := [(if (V 1) 0 = 0 then Value.null else Value.ref (ad 7)), .int ((V 1) 1), .int ((V 1) 2), .int ((V 1) 3), .int ((V 1) 4), .int ((V 1) 5), .int ((V 1) 6)]) (q := 1) (v := .ref (ad 7)) (N := 7) hx hb hts (fun _ h => List.mem_cons_of_mem _ (List.mem_append_left _ (List.mem_append_right _ h))) hown hK hP (by decide) (ce_cm ad cI cB (V 1)) rfl 0 (by decide) (hts (.fieldLink RX1 24 "TurnedBoards$Composer" "letters" "LTurnedBoards$Letters;") (List.mem_of_getElem? (i := 1) rfl)) rfl (congrArg some (if_neg hn4)) dX1_settle_55 ?_
        refine lv_iload_n hx hb dX1_settle_58 rfl (lv_at hl 4 rfl) ?_
        refine lv_aload_n hx hb dX1_settle_59 rfl (lv_at hl 2 rfl) ?_
        refine x_get (ci := 1) (fs := [(if (V 1) 0 = 0 then Value.null else Value.ref (ad 7)), .int ((V 1) 1), .int ((V 1) 2), .int ((V 1) 3), .int ((V 1) 4), .int ((V 1) 5), .int ((V 1) 6)]) (q := 1) (v := .int (V 1 4)) (N := 7) hx hb hts (fun _ h => List.mem_cons_of_mem _ (List.mem_append_left _ (List.mem_append_right _ h))) hown hK hP (by decide) (ce_cm ad cI cB (V 1)) rfl 4 (by decide) (hts (.fieldLink RX1 46 "TurnedBoards$Composer" "otherTurned" "I") (List.mem_of_getElem? (i := 5) rfl)) rfl rfl dX1_settle_60 ?_
        refine lv_iload_n hx hb dX1_settle_63 rfl (lv_at hl 1 rfl) ?_
        refine lv_iand hx hb dX1_settle_64 ?_
        refine lv_ior hx hb dX1_settle_65 ?_
        refine k_SR (As := [.int (p2 ||| ((V 1 4) &&& ((1 <<< ((p1 + 1) &&& 31)) - 1)))]) (rest := [.ref (ad 7), .int (f_X3_leadOf fu V 0 (p2 ||| ((V 1 3) &&& ((1 <<< ((p1 + 1) &&& 31)) - 1))) (V 1 1))]) ⟨hx, hb, hml, hown, hts⟩ hKN hP hS (m_X6_turn l D cI cB ad V (p2 ||| ((V 1 4) &&& ((1 <<< ((p1 + 1) &&& 31)) - 1)))) (va_cwS 1 hts gX1_settle_X6_turn rfl rfl rfl (by decide +kernel) ⟨(by first | exact Nat.le_of_ble_eq_true rfl | (dsimp only [headSpec]; omega) | (simp [headSpec]; omega)), (by first | exact Nat.le_of_ble_eq_true rfl | (dsimp only [headSpec]; omega) | (simp [headSpec]; omega))⟩) rfl hl.1 rfl (Nat.le_of_ble_eq_true rfl) dX1_settle_66 ⟨Nat.zero_le _, Nat.zero_le _⟩ (fun H locs hP hS => ?_)
        refine lv_aload_n hx hb dX1_settle_69 rfl (lv_at hl 2 rfl) ?_
        refine x_get (ci := 1) (fs := [(if (V 1) 0 = 0 then Value.null else Value.ref (ad 7)), .int ((V 1) 1), .int ((V 1) 2), .int ((V 1) 3), .int ((V 1) 4), .int ((V 1) 5), .int ((V 1) 6)]) (q := 1) (v := .int (V 1 2)) (N := 7) hx hb hts (fun _ h => List.mem_cons_of_mem _ (List.mem_append_left _ (List.mem_append_right _ h))) hown hK hP (by decide) (ce_cm ad cI cB (V 1)) rfl 2 (by decide) (hts (.fieldLink RX1 31 "TurnedBoards$Composer" "other" "I") (List.mem_of_getElem? (i := 6) rfl)) rfl rfl dX1_settle_70 ?_
        obtain ⟨hn5, hp⟩ := hp
        refine k_VR (As := [.int (f_X6_turn V (p2 ||| ((V 1 4) &&& ((1 <<< ((p1 + 1) &&& 31)) - 1)))), .int (V 1 2)]) (rest := [.int (f_X3_leadOf fu V 0 (p2 ||| ((V 1 3) &&& ((1 <<< ((p1 + 1) &&& 31)) - 1))) (V 1 1))]) (q := (6 + 7 * 0 + 1)) ⟨hx, hb, hml, hown, hts⟩ hKN hP hS (m_X3_leadOf l D cI cB ad fu V 0 (f_X6_turn V (p2 ||| ((V 1 4) &&& ((1 <<< ((p1 + 1) &&& 31)) - 1)))) (V 1 2) (by decide : 0 < 6) hn5) (cwV 2 hts gX1_settle_X3_leadOf rfl rfl rfl (by decide +kernel) ⟨(by first | exact Nat.le_of_ble_eq_true rfl | (dsimp only [headSpec]; omega) | (simp [headSpec]; omega)), (by first | exact Nat.le_of_ble_eq_true rfl | (dsimp only [headSpec]; omega) | (simp [headSpec]; omega))⟩) (c_preV hP hKN (q := (6 + 7 * 0 + 1)) (ci := 3) (fs := [.ref (ad (6 + 7 * 0 + 2))]) (by decide) (ce_lt ad cI cB (by decide : 0 < 6) (V (6 + 7 * 0 + 1))) rfl rfl) rfl hl.1 rfl (Nat.le_of_ble_eq_true rfl) dX1_settle_73 ⟨Nat.zero_le _, Nat.zero_le _⟩ (fun H locs hP hS => ?_)
        refine va_mmin hx hb (hml.trans hl.1.symm) hown (hts (.methodLink RX1 57 Lib.Math.min.name) (List.mem_of_getElem? (i := 7) rfl)) (hts (.static Lib.Math.min.name) (List.mem_of_getElem? (i := 8) rfl)) (hts (.initialized "java/lang/Math") (List.mem_of_getElem? (i := 9) rfl)) (hts (.code Lib.Math.min.name Lib.Math.min.code 2 (some .int)) (List.mem_of_getElem? (i := 10) rfl)) (Nat.le_of_ble_eq_true rfl) (Nat.le_of_ble_eq_true rfl) (Nat.zero_le _) (Nat.zero_le _) dX1_settle_76 ?_
        refine lv_istore (lv' := [(4, .int (if (f_X3_leadOf fu V 0 (f_X6_turn V (p2 ||| ((V 1 4) &&& ((1 <<< ((p1 + 1) &&& 31)) - 1)))) (V 1 2)) < (f_X3_leadOf fu V 0 (p2 ||| ((V 1 3) &&& ((1 <<< ((p1 + 1) &&& 31)) - 1))) (V 1 1)) then (f_X3_leadOf fu V 0 (f_X6_turn V (p2 ||| ((V 1 4) &&& ((1 <<< ((p1 + 1) &&& 31)) - 1)))) (V 1 2)) else (f_X3_leadOf fu V 0 (p2 ||| ((V 1 3) &&& ((1 <<< ((p1 + 1) &&& 31)) - 1))) (V 1 1)))), (3, .int ((1 <<< ((p1 + 1) &&& 31)) - 1)), (0, .ref (ad 1)), (1, .int p1), (2, .int p2)]) hx hb dX1_settle_79 hl (by decide) rfl (fun ls hl => ?_)
        refine lv_iload hx hb dX1_settle_81 (lv_at hl 0 rfl) ?_
        refine lv_aload_n hx hb dX1_settle_83 rfl (lv_at hl 2 rfl) ?_
        refine x_get (ci := 1) (fs := [(if (V 1) 0 = 0 then Value.null else Value.ref (ad 7)), .int ((V 1) 1), .int ((V 1) 2), .int ((V 1) 3), .int ((V 1) 4), .int ((V 1) 5), .int ((V 1) 6)]) (q := 1) (v := .int (V 1 6)) (N := 7) hx hb hts (fun _ h => List.mem_cons_of_mem _ (List.mem_append_left _ (List.mem_append_right _ h))) hown hK hP (by decide) (ce_cm ad cI cB (V 1)) rfl 6 (by decide) (hts (.fieldLink RX1 15 "TurnedBoards$Composer" "bestLesser" "I") (List.mem_of_getElem? (i := 4) rfl)) rfl rfl dX1_settle_84 ?_
        refine lv_icmp_gt (tgt := 91) hx hb dX1_settle_87 (by decide) (fun c3 => ?_) (fun c3 => ?_)
        · have hE := hE.trans (if_pos c3)
          have hp := pc_br hp c3
          refine lv_iload_n hx hb dX1_settle_91 rfl (lv_at hl 3 rfl) ?_
          refine lv_if_ge (tgt := 107) hx hb dX1_settle_92 (by decide) (fun c4 => ?_) (fun c4 => ?_)
          · have hE := hE.trans (if_pos c4)
            have hp := pc_br hp c4
            refine lv_aload_n hx hb dX1_settle_107 rfl (lv_at hl 2 rfl) ?_
            refine lv_iload_n hx hb dX1_settle_108 rfl (lv_at hl 3 rfl) ?_
            refine lv_iload_n hx hb dX1_settle_109 rfl (lv_at hl 4 rfl) ?_
            refine lv_iconst (v := 0) hx hb dX1_settle_110 (by decide) ?_
            obtain ⟨hn6, hp⟩ := hp
            refine k_VWv (As := [.int p1, .int p2, .int 0]) (rest := []) (q := 1) ⟨hx, hb, hml, hown, hts⟩ hKN hP hS (m_X1_settleAs l D cI cB ad hA (f_X1_settle fu n) (p_X1_settle fu n) (2 * n + 3) (48 * n + 69) ih V p1 p2 0 hn6) (cwV 3 hts gX1_settle_X1_settleAs rfl rfl rfl (by decide +kernel) ⟨(by first | exact Nat.le_of_ble_eq_true rfl | (dsimp only [headSpec]; omega) | (simp [headSpec]; omega)), (by first | exact Nat.le_of_ble_eq_true rfl | (dsimp only [headSpec]; omega) | (simp [headSpec]; omega))⟩) (c_preV hP hKN (q := 1) (ci := 1) (fs := [(if (V 1) 0 = 0 then Value.null else Value.ref (ad 7)), .int ((V 1) 1), .int ((V 1) 2), .int ((V 1) 3), .int ((V 1) 4), .int ((V 1) 5), .int ((V 1) 6)]) (by decide) (ce_cm ad cI cB (V 1)) rfl rfl) rfl hl.1 rfl (Nat.le_of_ble_eq_true rfl) dX1_settle_111 ⟨Nat.zero_le _, Nat.zero_le _⟩ (fun H locs hP hS => ?_)
            refine lv_aload_n hx hb dX1_settle_114 rfl (lv_at hl 2 rfl) ?_
            refine lv_iload_n hx hb dX1_settle_115 rfl (lv_at hl 3 rfl) ?_
            refine lv_iload_n hx hb dX1_settle_116 rfl (lv_at hl 4 rfl) ?_
            refine lv_iconst (v := 1) hx hb dX1_settle_117 (by decide) ?_
            have hn7 := hp
            refine k_VWv (As := [.int p1, .int p2, .int 1]) (rest := []) (q := 1) ⟨hx, hb, hml, hown, hts⟩ hKN hP hS (m_X1_settleAs l D cI cB ad hA (f_X1_settle fu n) (p_X1_settle fu n) (2 * n + 3) (48 * n + 69) ih (f_X1_settleAs (f_X1_settle fu n) V p1 p2 0) p1 p2 1 hn7) (cwV 3 hts gX1_settle_X1_settleAs rfl rfl rfl (by decide +kernel) ⟨(by first | exact Nat.le_of_ble_eq_true rfl | (dsimp only [headSpec]; omega) | (simp [headSpec]; omega)), (by first | exact Nat.le_of_ble_eq_true rfl | (dsimp only [headSpec]; omega) | (simp [headSpec]; omega))⟩) (c_preV hP hKN (q := 1) (ci := 1) (fs := [(if ((f_X1_settleAs (f_X1_settle fu n) V p1 p2 0) 1) 0 = 0 then Value.null else Value.ref (ad 7)), .int (((f_X1_settleAs (f_X1_settle fu n) V p1 p2 0) 1) 1), .int (((f_X1_settleAs (f_X1_settle fu n) V p1 p2 0) 1) 2), .int (((f_X1_settleAs (f_X1_settle fu n) V p1 p2 0) 1) 3), .int (((f_X1_settleAs (f_X1_settle fu n) V p1 p2 0) 1) 4), .int (((f_X1_settleAs (f_X1_settle fu n) V p1 p2 0) 1) 5), .int (((f_X1_settleAs (f_X1_settle fu n) V p1 p2 0) 1) 6)]) (by decide) (ce_cm ad cI cB ((f_X1_settleAs (f_X1_settle fu n) V p1 p2 0) 1)) rfl rfl) rfl hl.1 rfl (Nat.le_of_ble_eq_true rfl) dX1_settle_118 ⟨Nat.zero_le _, Nat.zero_le _⟩ (fun H locs hP hS => ?_)
            exact W.vret hx hb hr (fun t ht hW => ⟨⟨(f_X1_settleAs (f_X1_settle fu n) (f_X1_settleAs (f_X1_settle fu n) V p1 p2 0) p1 p2 1), rfl, hE.symm, by dsimp only; rw [ht]; exact hP⟩, hS.F ht⟩) hS.2.2 dX1_settle_121
          · have hE := hE.trans (if_neg c4)
            refine lv_aload_n hx hb dX1_settle_95 rfl (lv_at hl 2 rfl) ?_
            refine lv_iload_n hx hb dX1_settle_96 rfl (lv_at hl 4 rfl) ?_
            refine x_put (ci := 1) (fs := [(if (V 1) 0 = 0 then Value.null else Value.ref (ad 7)), .int ((V 1) 1), .int ((V 1) 2), .int ((V 1) 3), .int ((V 1) 4), .int ((V 1) 5), .int ((V 1) 6)]) (q := 1) (v := .int p2) (ty := .int) (N := 7) hx hb hts (fun _ h => List.mem_cons_of_mem _ (List.mem_append_left _ (List.mem_append_right _ h))) tyX1 tyX1_ok nmX1 hown hK hP hA hS (by decide) (ce_cm ad cI cB (V 1)) rfl 5 (by decide) (hts (.fieldLink RX1 9 "TurnedBoards$Composer" "best" "I") (List.mem_of_getElem? (i := 11) rfl)) rfl rfl (by decide +kernel) rfl rfl (Nat.le_of_ble_eq_true rfl) 5 p2 ((ce_cm ad cI cB (upd (V 1) 5 p2)).trans rfl) dX1_settle_97 (fun H locs hP hS => ?_)
            refine lv_aload_n hx hb dX1_settle_100 rfl (lv_at hl 2 rfl) ?_
            refine lv_iload hx hb dX1_settle_101 (lv_at hl 0 rfl) ?_
            refine x_put (ci := 1) (fs := [(if ((upV V 1 5 p2) 1) 0 = 0 then Value.null else Value.ref (ad 7)), .int (((upV V 1 5 p2) 1) 1), .int (((upV V 1 5 p2) 1) 2), .int (((upV V 1 5 p2) 1) 3), .int (((upV V 1 5 p2) 1) 4), .int (((upV V 1 5 p2) 1) 5), .int (((upV V 1 5 p2) 1) 6)]) (q := 1) (v := .int (if (f_X3_leadOf fu V 0 (f_X6_turn V (p2 ||| ((V 1 4) &&& ((1 <<< ((p1 + 1) &&& 31)) - 1)))) (V 1 2)) < (f_X3_leadOf fu V 0 (p2 ||| ((V 1 3) &&& ((1 <<< ((p1 + 1) &&& 31)) - 1))) (V 1 1)) then (f_X3_leadOf fu V 0 (f_X6_turn V (p2 ||| ((V 1 4) &&& ((1 <<< ((p1 + 1) &&& 31)) - 1)))) (V 1 2)) else (f_X3_leadOf fu V 0 (p2 ||| ((V 1 3) &&& ((1 <<< ((p1 + 1) &&& 31)) - 1))) (V 1 1)))) (ty := .int) (N := 7) hx hb hts (fun _ h => List.mem_cons_of_mem _ (List.mem_append_left _ (List.mem_append_right _ h))) tyX1 tyX1_ok nmX1 hown hK hP hA hS (by decide) (ce_cm ad cI cB ((upV V 1 5 p2) 1)) rfl 6 (by decide) (hts (.fieldLink RX1 15 "TurnedBoards$Composer" "bestLesser" "I") (List.mem_of_getElem? (i := 4) rfl)) rfl rfl (by decide +kernel) rfl rfl (Nat.le_of_ble_eq_true rfl) 6 (if (f_X3_leadOf fu V 0 (f_X6_turn V (p2 ||| ((V 1 4) &&& ((1 <<< ((p1 + 1) &&& 31)) - 1)))) (V 1 2)) < (f_X3_leadOf fu V 0 (p2 ||| ((V 1 3) &&& ((1 <<< ((p1 + 1) &&& 31)) - 1))) (V 1 1)) then (f_X3_leadOf fu V 0 (f_X6_turn V (p2 ||| ((V 1 4) &&& ((1 <<< ((p1 + 1) &&& 31)) - 1)))) (V 1 2)) else (f_X3_leadOf fu V 0 (p2 ||| ((V 1 3) &&& ((1 <<< ((p1 + 1) &&& 31)) - 1))) (V 1 1))) ((ce_cm ad cI cB (upd ((upV V 1 5 p2) 1) 6 (if (f_X3_leadOf fu V 0 (f_X6_turn V (p2 ||| ((V 1 4) &&& ((1 <<< ((p1 + 1) &&& 31)) - 1)))) (V 1 2)) < (f_X3_leadOf fu V 0 (p2 ||| ((V 1 3) &&& ((1 <<< ((p1 + 1) &&& 31)) - 1))) (V 1 1)) then (f_X3_leadOf fu V 0 (f_X6_turn V (p2 ||| ((V 1 4) &&& ((1 <<< ((p1 + 1) &&& 31)) - 1)))) (V 1 2)) else (f_X3_leadOf fu V 0 (p2 ||| ((V 1 3) &&& ((1 <<< ((p1 + 1) &&& 31)) - 1))) (V 1 1))))).trans rfl) dX1_settle_103 (fun H locs hP hS => ?_)
            exact W.vret hx hb hr (fun t ht hW => ⟨⟨(upV (upV V 1 5 p2) 1 6 (if (f_X3_leadOf fu V 0 (f_X6_turn V (p2 ||| ((V 1 4) &&& ((1 <<< ((p1 + 1) &&& 31)) - 1)))) (V 1 2)) < (f_X3_leadOf fu V 0 (p2 ||| ((V 1 3) &&& ((1 <<< ((p1 + 1) &&& 31)) - 1))) (V 1 1)) then (f_X3_leadOf fu V 0 (f_X6_turn V (p2 ||| ((V 1 4) &&& ((1 <<< ((p1 + 1) &&& 31)) - 1)))) (V 1 2)) else (f_X3_leadOf fu V 0 (p2 ||| ((V 1 3) &&& ((1 <<< ((p1 + 1) &&& 31)) - 1))) (V 1 1)))), rfl, hE.symm, by dsimp only; rw [ht]; exact hP⟩, hS.F ht⟩) hS.2.2 dX1_settle_106
        · have hE := hE.trans (if_neg c3)
          exact W.vret hx hb hr (fun t ht hW => ⟨⟨V, rfl, hE.symm, by dsimp only; rw [ht]; exact hP⟩, hS.F ht⟩) hS.2.2 dX1_settle_90
def v_X1_find_1 (V : VT) (p2 : Int32) (p3 : Int32) : VT := (upV (upV (upV (upV (upV (upV V 1 5 (-1)) 1 6 (-1)) 1 0 1) 1 1 p2) 1 2 p3) 1 3 (f_X3_signFor (upV (upV (upV (upV (upV V 1 5 (-1)) 1 6 (-1)) 1 0 1) 1 1 p2) 1 2 p3) 0 p2))
def v_X1_find_2 (fu : Nat) (V : VT) (p2 : Int32) (p3 : Int32) : VT := (f_X1_settle fu 20 (upV (v_X1_find_1 V p2 p3) 1 4 (f_X6_turn (v_X1_find_1 V p2 p3) (f_X3_signFor (v_X1_find_1 V p2 p3) 0 p3))) 14 0)
def f_X1_find (fu : Nat) (V : VT) (p2 : Int32) (p3 : Int32) : Int32 × VT := (if (f_X3_has (upV (upV V 1 5 (-1)) 1 6 (-1)) 0 p2) = 0 then (0, (upV (upV V 1 5 (-1)) 1 6 (-1))) else (if (f_X3_has (upV (upV V 1 5 (-1)) 1 6 (-1)) 0 p3) = 0 then (0, (upV (upV V 1 5 (-1)) 1 6 (-1))) else (if ((v_X1_find_2 fu V p2 p3) 1 5) = (-1) then (0, (v_X1_find_2 fu V p2 p3)) else (1, (v_X1_find_2 fu V p2 p3)))))
def p_X1_find (fu : Nat) (V : VT) (p2 : Int32) (p3 : Int32) : Prop := (((f_X3_has (upV (upV V 1 5 (-1)) 1 6 (-1)) 0 p2) = 0 → True) ∧ (¬ ((f_X3_has (upV (upV V 1 5 (-1)) 1 6 (-1)) 0 p2) = 0) → (((f_X3_has (upV (upV V 1 5 (-1)) 1 6 (-1)) 0 p3) = 0 → True) ∧ (¬ ((f_X3_has (upV (upV V 1 5 (-1)) 1 6 (-1)) 0 p3) = 0) → (p_X1_settle fu 20 (upV (v_X1_find_1 V p2 p3) 1 4 (f_X6_turn (v_X1_find_1 V p2 p3) (f_X3_signFor (v_X1_find_1 V p2 p3) 0 p3))) 14 0)))))
set_option maxHeartbeats 4000000 in
set_option maxRecDepth 100000 in
theorem m_X1_find (l : Launch) (D : va_G) (cI cB : ClassId) (ad : Nat → Nat) {A : Nat → Prop} (hA : adOk ad A) (fu : Nat) (V : VT) (p2 : Int32) (p3 : Int32)  (hp : p_X1_find fu V p2 p3) : Met l yX1_find wsX1_find ({ frames := 44, cells := 0, slots := 0, locals := 1053 }) (cP D cI cB ad V [.ref (ad 1), .ref (ad 7), .int p2, .int p3]) (cWi D cI cB ad A (f_X1_find fu V p2 p3)) 0 0 A := by
  refine Met.ofW (cc := cX1_find) (maxL := 4) (ret := (some .boolean)) (by decide +kernel) rfl ?_
  intro p e s m args below meth c s₁ B hml hv
  obtain ⟨rfl, hP, hKN⟩ := hv
  have hK := hKN.1
  have hx := B.exec
  have hb := B.bytes
  have hr := B.returns
  have hts := atoms_spec (ws := wsX1_find) B.pre
  have hown : s.vm.findClass RX1 = some m.cls := findClass_of_methodNamed B.named
  have hlocks := B.notSynchronized
  have hS : va_S A s.heap s.heap [] := va_S.rf
  have hl := lv_entry ([.ref (ad 1), .ref (ad 7), .int p2, .int p3]) (n := 4) (Nat.le_of_ble_eq_true rfl)
  rw [lg_entry_eq]
  generalize (lg_sl ([.ref (ad 1), .ref (ad 7), .int p2, .int p3]) ++ List.replicate (4 - (lg_sl ([.ref (ad 1), .ref (ad 7), .int p2, .int p3])).length) Slot.unset).toArray = ls at hl ⊢
  have hl : lv_has ls 4 [(0, .ref (ad 1)), (1, .ref (ad 7)), (2, .int p2), (3, .int p3)] := hl
  have hE : f_X1_find fu V p2 p3 = (if (f_X3_has (upV (upV V 1 5 (-1)) 1 6 (-1)) 0 p2) = 0 then (0, (upV (upV V 1 5 (-1)) 1 6 (-1))) else (if (f_X3_has (upV (upV V 1 5 (-1)) 1 6 (-1)) 0 p3) = 0 then (0, (upV (upV V 1 5 (-1)) 1 6 (-1))) else (if ((v_X1_find_2 fu V p2 p3) 1 5) = (-1) then (0, (v_X1_find_2 fu V p2 p3)) else (1, (v_X1_find_2 fu V p2 p3))))) := rfl
  refine lv_aload_n hx hb dX1_find_0 rfl (lv_at hl 0 rfl) ?_
  refine lv_iconst (v := (-1)) hx hb dX1_find_1 (by decide) ?_
  refine x_put (ci := 1) (fs := [(if (V 1) 0 = 0 then Value.null else Value.ref (ad 7)), .int ((V 1) 1), .int ((V 1) 2), .int ((V 1) 3), .int ((V 1) 4), .int ((V 1) 5), .int ((V 1) 6)]) (q := 1) (v := .int (-1)) (ty := .int) (N := 7) hx hb hts (fun _ h => List.mem_cons_of_mem _ (List.mem_append_left _ (List.mem_append_right _ h))) tyX1 tyX1_ok nmX1 hown hK hP hA hS (by decide) (ce_cm ad cI cB (V 1)) rfl 5 (by decide) (hts (.fieldLink RX1 9 "TurnedBoards$Composer" "best" "I") (List.mem_of_getElem? (i := 1) rfl)) rfl rfl (by decide +kernel) rfl rfl (Nat.le_of_ble_eq_true rfl) 5 (-1) ((ce_cm ad cI cB (upd (V 1) 5 (-1))).trans rfl) dX1_find_2 (fun H locs hP hS => ?_)
  refine lv_aload_n hx hb dX1_find_5 rfl (lv_at hl 0 rfl) ?_
  refine lv_iconst (v := (-1)) hx hb dX1_find_6 (by decide) ?_
  refine x_put (ci := 1) (fs := [(if ((upV V 1 5 (-1)) 1) 0 = 0 then Value.null else Value.ref (ad 7)), .int (((upV V 1 5 (-1)) 1) 1), .int (((upV V 1 5 (-1)) 1) 2), .int (((upV V 1 5 (-1)) 1) 3), .int (((upV V 1 5 (-1)) 1) 4), .int (((upV V 1 5 (-1)) 1) 5), .int (((upV V 1 5 (-1)) 1) 6)]) (q := 1) (v := .int (-1)) (ty := .int) (N := 7) hx hb hts (fun _ h => List.mem_cons_of_mem _ (List.mem_append_left _ (List.mem_append_right _ h))) tyX1 tyX1_ok nmX1 hown hK hP hA hS (by decide) (ce_cm ad cI cB ((upV V 1 5 (-1)) 1)) rfl 6 (by decide) (hts (.fieldLink RX1 15 "TurnedBoards$Composer" "bestLesser" "I") (List.mem_of_getElem? (i := 2) rfl)) rfl rfl (by decide +kernel) rfl rfl (Nat.le_of_ble_eq_true rfl) 6 (-1) ((ce_cm ad cI cB (upd ((upV V 1 5 (-1)) 1) 6 (-1))).trans rfl) dX1_find_7 (fun H locs hP hS => ?_)
  refine lv_aload_n hx hb dX1_find_10 rfl (lv_at hl 1 rfl) ?_
  refine lv_ifnull hx hb dX1_find_11 ?_
  refine lv_aload_n hx hb dX1_find_14 rfl (lv_at hl 1 rfl) ?_
  refine lv_iload_n hx hb dX1_find_15 rfl (lv_at hl 2 rfl) ?_
  refine k_VR (As := [.int p2]) (rest := []) (q := (6 + 7 * 0 + 1)) ⟨hx, hb, hml, hown, hts⟩ hKN hP hS (m_X3_has l D cI cB ad (upV (upV V 1 5 (-1)) 1 6 (-1)) 0 p2 (by decide : 0 < 6)) (cwV 1 hts gX1_find_X3_has rfl rfl rfl (by decide +kernel) ⟨(Nat.le_of_ble_eq_true rfl), (Nat.le_of_ble_eq_true rfl)⟩) (c_preV hP hKN (q := (6 + 7 * 0 + 1)) (ci := 3) (fs := [.ref (ad (6 + 7 * 0 + 2))]) (by decide) (ce_lt ad cI cB (by decide : 0 < 6) ((upV (upV V 1 5 (-1)) 1 6 (-1)) (6 + 7 * 0 + 1))) rfl rfl) rfl hl.1 rfl (Nat.le_of_ble_eq_true rfl) dX1_find_16 ⟨Nat.zero_le _, Nat.zero_le _⟩ (fun H locs hP hS => ?_)
  refine lv_if_eq (tgt := 30) hx hb dX1_find_19 (by decide) (fun c1 => ?_) (fun c1 => ?_)
  · have hE := hE.trans (if_pos c1)
    refine lv_iconst (v := 0) hx hb dX1_find_30 (by decide) ?_
    exact W.zret (v := 0) hx hb hr rfl (fun t ht hW => ⟨⟨0, (upV (upV V 1 5 (-1)) 1 6 (-1)), rfl, ⟨(congrArg Prod.fst hE).symm, (congrArg Prod.snd hE).symm⟩, by dsimp only; rw [ht]; exact hP⟩, hS.F ht⟩) hS.2.2 dX1_find_31
  · have hE := hE.trans (if_neg c1)
    have hp := pc_bn hp c1
    refine lv_aload_n hx hb dX1_find_22 rfl (lv_at hl 1 rfl) ?_
    refine lv_iload_n hx hb dX1_find_23 rfl (lv_at hl 3 rfl) ?_
    refine k_VR (As := [.int p3]) (rest := []) (q := (6 + 7 * 0 + 1)) ⟨hx, hb, hml, hown, hts⟩ hKN hP hS (m_X3_has l D cI cB ad (upV (upV V 1 5 (-1)) 1 6 (-1)) 0 p3 (by decide : 0 < 6)) (cwV 1 hts gX1_find_X3_has rfl rfl rfl (by decide +kernel) ⟨(Nat.le_of_ble_eq_true rfl), (Nat.le_of_ble_eq_true rfl)⟩) (c_preV hP hKN (q := (6 + 7 * 0 + 1)) (ci := 3) (fs := [.ref (ad (6 + 7 * 0 + 2))]) (by decide) (ce_lt ad cI cB (by decide : 0 < 6) ((upV (upV V 1 5 (-1)) 1 6 (-1)) (6 + 7 * 0 + 1))) rfl rfl) rfl hl.1 rfl (Nat.le_of_ble_eq_true rfl) dX1_find_24 ⟨Nat.zero_le _, Nat.zero_le _⟩ (fun H locs hP hS => ?_)
    refine lv_if_ne (tgt := 32) hx hb dX1_find_27 (by decide) (fun c2 => ?_) (fun c2 => ?_)
    · have hE := hE.trans (if_neg c2)
      have hp := pc_bn hp c2
      refine lv_aload_n hx hb dX1_find_32 rfl (lv_at hl 0 rfl) ?_
      refine lv_aload_n hx hb dX1_find_33 rfl (lv_at hl 1 rfl) ?_
      refine x_put (ci := 1) (fs := [(if ((upV (upV V 1 5 (-1)) 1 6 (-1)) 1) 0 = 0 then Value.null else Value.ref (ad 7)), .int (((upV (upV V 1 5 (-1)) 1 6 (-1)) 1) 1), .int (((upV (upV V 1 5 (-1)) 1 6 (-1)) 1) 2), .int (((upV (upV V 1 5 (-1)) 1 6 (-1)) 1) 3), .int (((upV (upV V 1 5 (-1)) 1 6 (-1)) 1) 4), .int (((upV (upV V 1 5 (-1)) 1 6 (-1)) 1) 5), .int (((upV (upV V 1 5 (-1)) 1 6 (-1)) 1) 6)]) (q := 1) (v := .ref (ad 7)) (ty := .object "TurnedBoards$Letters") (N := 7) hx hb hts (fun _ h => List.mem_cons_of_mem _ (List.mem_append_left _ (List.mem_append_right _ h))) tyX1 tyX1_ok nmX1 hown hK hP hA hS (by decide) (ce_cm ad cI cB ((upV (upV V 1 5 (-1)) 1 6 (-1)) 1)) rfl 0 (by decide) (hts (.fieldLink RX1 24 "TurnedBoards$Composer" "letters" "LTurnedBoards$Letters;") (List.mem_of_getElem? (i := 3) rfl)) rfl rfl (by decide +kernel) rfl rfl (Nat.le_of_ble_eq_true rfl) 0 1 ((ce_cm ad cI cB (upd ((upV (upV V 1 5 (-1)) 1 6 (-1)) 1) 0 1)).trans rfl) dX1_find_34 (fun H locs hP hS => ?_)
      refine lv_aload_n hx hb dX1_find_37 rfl (lv_at hl 0 rfl) ?_
      refine lv_iload_n hx hb dX1_find_38 rfl (lv_at hl 2 rfl) ?_
      refine x_put (ci := 1) (fs := [(if ((upV (upV (upV V 1 5 (-1)) 1 6 (-1)) 1 0 1) 1) 0 = 0 then Value.null else Value.ref (ad 7)), .int (((upV (upV (upV V 1 5 (-1)) 1 6 (-1)) 1 0 1) 1) 1), .int (((upV (upV (upV V 1 5 (-1)) 1 6 (-1)) 1 0 1) 1) 2), .int (((upV (upV (upV V 1 5 (-1)) 1 6 (-1)) 1 0 1) 1) 3), .int (((upV (upV (upV V 1 5 (-1)) 1 6 (-1)) 1 0 1) 1) 4), .int (((upV (upV (upV V 1 5 (-1)) 1 6 (-1)) 1 0 1) 1) 5), .int (((upV (upV (upV V 1 5 (-1)) 1 6 (-1)) 1 0 1) 1) 6)]) (q := 1) (v := .int p2) (ty := .int) (N := 7) hx hb hts (fun _ h => List.mem_cons_of_mem _ (List.mem_append_left _ (List.mem_append_right _ h))) tyX1 tyX1_ok nmX1 hown hK hP hA hS (by decide) (ce_cm ad cI cB ((upV (upV (upV V 1 5 (-1)) 1 6 (-1)) 1 0 1) 1)) rfl 1 (by decide) (hts (.fieldLink RX1 28 "TurnedBoards$Composer" "one" "I") (List.mem_of_getElem? (i := 4) rfl)) rfl rfl (by decide +kernel) rfl rfl (Nat.le_of_ble_eq_true rfl) 1 p2 ((ce_cm ad cI cB (upd ((upV (upV (upV V 1 5 (-1)) 1 6 (-1)) 1 0 1) 1) 1 p2)).trans rfl) dX1_find_39 (fun H locs hP hS => ?_)
      refine lv_aload_n hx hb dX1_find_42 rfl (lv_at hl 0 rfl) ?_
      refine lv_iload_n hx hb dX1_find_43 rfl (lv_at hl 3 rfl) ?_
      refine x_put (ci := 1) (fs := [(if ((upV (upV (upV (upV V 1 5 (-1)) 1 6 (-1)) 1 0 1) 1 1 p2) 1) 0 = 0 then Value.null else Value.ref (ad 7)), .int (((upV (upV (upV (upV V 1 5 (-1)) 1 6 (-1)) 1 0 1) 1 1 p2) 1) 1), .int (((upV (upV (upV (upV V 1 5 (-1)) 1 6 (-1)) 1 0 1) 1 1 p2) 1) 2), .int (((upV (upV (upV (upV V 1 5 (-1)) 1 6 (-1)) 1 0 1) 1 1 p2) 1) 3), .int (((upV (upV (upV (upV V 1 5 (-1)) 1 6 (-1)) 1 0 1) 1 1 p2) 1) 4), .int (((upV (upV (upV (upV V 1 5 (-1)) 1 6 (-1)) 1 0 1) 1 1 p2) 1) 5), .int (((upV (upV (upV (upV V 1 5 (-1)) 1 6 (-1)) 1 0 1) 1 1 p2) 1) 6)]) (q := 1) (v := .int p3) (ty := .int) (N := 7) hx hb hts (fun _ h => List.mem_cons_of_mem _ (List.mem_append_left _ (List.mem_append_right _ h))) tyX1 tyX1_ok nmX1 hown hK hP hA hS (by decide) (ce_cm ad cI cB ((upV (upV (upV (upV V 1 5 (-1)) 1 6 (-1)) 1 0 1) 1 1 p2) 1)) rfl 2 (by decide) (hts (.fieldLink RX1 31 "TurnedBoards$Composer" "other" "I") (List.mem_of_getElem? (i := 5) rfl)) rfl rfl (by decide +kernel) rfl rfl (Nat.le_of_ble_eq_true rfl) 2 p3 ((ce_cm ad cI cB (upd ((upV (upV (upV (upV V 1 5 (-1)) 1 6 (-1)) 1 0 1) 1 1 p2) 1) 2 p3)).trans rfl) dX1_find_44 (fun H locs hP hS => ?_)
      refine lv_aload_n hx hb dX1_find_47 rfl (lv_at hl 0 rfl) ?_
      refine lv_aload_n hx hb dX1_find_48 rfl (lv_at hl 1 rfl) ?_
      refine lv_iload_n hx hb dX1_find_49 rfl (lv_at hl 2 rfl) ?_
      refine k_VR (As := [.int p2]) (rest := [.ref (ad 1)]) (q := (6 + 7 * 0 + 1)) ⟨hx, hb, hml, hown, hts⟩ hKN hP hS (m_X3_signFor l D cI cB ad (upV (upV (upV (upV (upV V 1 5 (-1)) 1 6 (-1)) 1 0 1) 1 1 p2) 1 2 p3) 0 p2 (by decide : 0 < 6)) (cwV 1 hts gX1_find_X3_signFor rfl rfl rfl (by decide +kernel) ⟨(Nat.le_of_ble_eq_true rfl), (Nat.le_of_ble_eq_true rfl)⟩) (c_preV hP hKN (q := (6 + 7 * 0 + 1)) (ci := 3) (fs := [.ref (ad (6 + 7 * 0 + 2))]) (by decide) (ce_lt ad cI cB (by decide : 0 < 6) ((upV (upV (upV (upV (upV V 1 5 (-1)) 1 6 (-1)) 1 0 1) 1 1 p2) 1 2 p3) (6 + 7 * 0 + 1))) rfl rfl) rfl hl.1 rfl (Nat.le_of_ble_eq_true rfl) dX1_find_50 ⟨Nat.zero_le _, Nat.zero_le _⟩ (fun H locs hP hS => ?_)
      refine x_put (ci := 1) (fs := [(if ((upV (upV (upV (upV (upV V 1 5 (-1)) 1 6 (-1)) 1 0 1) 1 1 p2) 1 2 p3) 1) 0 = 0 then Value.null else Value.ref (ad 7)), .int (((upV (upV (upV (upV (upV V 1 5 (-1)) 1 6 (-1)) 1 0 1) 1 1 p2) 1 2 p3) 1) 1), .int (((upV (upV (upV (upV (upV V 1 5 (-1)) 1 6 (-1)) 1 0 1) 1 1 p2) 1 2 p3) 1) 2), .int (((upV (upV (upV (upV (upV V 1 5 (-1)) 1 6 (-1)) 1 0 1) 1 1 p2) 1 2 p3) 1) 3), .int (((upV (upV (upV (upV (upV V 1 5 (-1)) 1 6 (-1)) 1 0 1) 1 1 p2) 1 2 p3) 1) 4), .int (((upV (upV (upV (upV (upV V 1 5 (-1)) 1 6 (-1)) 1 0 1) 1 1 p2) 1 2 p3) 1) 5), .int (((upV (upV (upV (upV (upV V 1 5 (-1)) 1 6 (-1)) 1 0 1) 1 1 p2) 1 2 p3) 1) 6)]) (q := 1) (v := .int (f_X3_signFor (upV (upV (upV (upV (upV V 1 5 (-1)) 1 6 (-1)) 1 0 1) 1 1 p2) 1 2 p3) 0 p2)) (ty := .int) (N := 7) hx hb hts (fun _ h => List.mem_cons_of_mem _ (List.mem_append_left _ (List.mem_append_right _ h))) tyX1 tyX1_ok nmX1 hown hK hP hA hS (by decide) (ce_cm ad cI cB ((upV (upV (upV (upV (upV V 1 5 (-1)) 1 6 (-1)) 1 0 1) 1 1 p2) 1 2 p3) 1)) rfl 3 (by decide) (hts (.fieldLink RX1 38 "TurnedBoards$Composer" "oneUpright" "I") (List.mem_of_getElem? (i := 6) rfl)) rfl rfl (by decide +kernel) rfl rfl (Nat.le_of_ble_eq_true rfl) 3 (f_X3_signFor (upV (upV (upV (upV (upV V 1 5 (-1)) 1 6 (-1)) 1 0 1) 1 1 p2) 1 2 p3) 0 p2) ((ce_cm ad cI cB (upd ((upV (upV (upV (upV (upV V 1 5 (-1)) 1 6 (-1)) 1 0 1) 1 1 p2) 1 2 p3) 1) 3 (f_X3_signFor (upV (upV (upV (upV (upV V 1 5 (-1)) 1 6 (-1)) 1 0 1) 1 1 p2) 1 2 p3) 0 p2))).trans rfl) dX1_find_53 (fun H locs hP hS => ?_)
      have hP : wP D cI cB ad (v_X1_find_1 V p2 p3) H := hP
      refine lv_aload_n hx hb dX1_find_56 rfl (lv_at hl 0 rfl) ?_
      refine lv_aload_n hx hb dX1_find_57 rfl (lv_at hl 1 rfl) ?_
      refine lv_iload_n hx hb dX1_find_58 rfl (lv_at hl 3 rfl) ?_
      refine k_VR (As := [.int p3]) (rest := [.ref (ad 1)]) (q := (6 + 7 * 0 + 1)) ⟨hx, hb, hml, hown, hts⟩ hKN hP hS (m_X3_signFor l D cI cB ad (v_X1_find_1 V p2 p3) 0 p3 (by decide : 0 < 6)) (cwV 1 hts gX1_find_X3_signFor rfl rfl rfl (by decide +kernel) ⟨(Nat.le_of_ble_eq_true rfl), (Nat.le_of_ble_eq_true rfl)⟩) (c_preV hP hKN (q := (6 + 7 * 0 + 1)) (ci := 3) (fs := [.ref (ad (6 + 7 * 0 + 2))]) (by decide) (ce_lt ad cI cB (by decide : 0 < 6) ((v_X1_find_1 V p2 p3) (6 + 7 * 0 + 1))) rfl rfl) rfl hl.1 rfl (Nat.le_of_ble_eq_true rfl) dX1_find_59 ⟨Nat.zero_le _, Nat.zero_le _⟩ (fun H locs hP hS => ?_)
      refine k_SR (As := [.int (f_X3_signFor (v_X1_find_1 V p2 p3) 0 p3)]) (rest := [.ref (ad 1)]) ⟨hx, hb, hml, hown, hts⟩ hKN hP hS (m_X6_turn l D cI cB ad (v_X1_find_1 V p2 p3) (f_X3_signFor (v_X1_find_1 V p2 p3) 0 p3)) (va_cwS 1 hts gX1_find_X6_turn rfl rfl rfl (by decide +kernel) ⟨(Nat.le_of_ble_eq_true rfl), (Nat.le_of_ble_eq_true rfl)⟩) rfl hl.1 rfl (Nat.le_of_ble_eq_true rfl) dX1_find_62 ⟨Nat.zero_le _, Nat.zero_le _⟩ (fun H locs hP hS => ?_)
      refine x_put (ci := 1) (fs := [(if ((v_X1_find_1 V p2 p3) 1) 0 = 0 then Value.null else Value.ref (ad 7)), .int (((v_X1_find_1 V p2 p3) 1) 1), .int (((v_X1_find_1 V p2 p3) 1) 2), .int (((v_X1_find_1 V p2 p3) 1) 3), .int (((v_X1_find_1 V p2 p3) 1) 4), .int (((v_X1_find_1 V p2 p3) 1) 5), .int (((v_X1_find_1 V p2 p3) 1) 6)]) (q := 1) (v := .int (f_X6_turn (v_X1_find_1 V p2 p3) (f_X3_signFor (v_X1_find_1 V p2 p3) 0 p3))) (ty := .int) (N := 7) hx hb hts (fun _ h => List.mem_cons_of_mem _ (List.mem_append_left _ (List.mem_append_right _ h))) tyX1 tyX1_ok nmX1 hown hK hP hA hS (by decide) (ce_cm ad cI cB ((v_X1_find_1 V p2 p3) 1)) rfl 4 (by decide) (hts (.fieldLink RX1 46 "TurnedBoards$Composer" "otherTurned" "I") (List.mem_of_getElem? (i := 7) rfl)) rfl rfl (by decide +kernel) rfl rfl (Nat.le_of_ble_eq_true rfl) 4 (f_X6_turn (v_X1_find_1 V p2 p3) (f_X3_signFor (v_X1_find_1 V p2 p3) 0 p3)) ((ce_cm ad cI cB (upd ((v_X1_find_1 V p2 p3) 1) 4 (f_X6_turn (v_X1_find_1 V p2 p3) (f_X3_signFor (v_X1_find_1 V p2 p3) 0 p3)))).trans rfl) dX1_find_65 (fun H locs hP hS => ?_)
      refine lv_aload_n hx hb dX1_find_68 rfl (lv_at hl 0 rfl) ?_
      refine lv_bipush (v := 14) hx hb dX1_find_69 (by decide) ?_
      refine lv_iconst (v := 0) hx hb dX1_find_71 (by decide) ?_
      have hn1 := hp
      refine k_VWv (As := [.int 14, .int 0]) (rest := []) (q := 1) ⟨hx, hb, hml, hown, hts⟩ hKN hP hS (m_X1_settle l D cI cB ad hA fu 20 (upV (v_X1_find_1 V p2 p3) 1 4 (f_X6_turn (v_X1_find_1 V p2 p3) (f_X3_signFor (v_X1_find_1 V p2 p3) 0 p3))) 14 0 hn1) (cwV 2 hts gX1_find_X1_settle rfl rfl rfl (by decide +kernel) ⟨(Nat.le_of_ble_eq_true rfl), (Nat.le_of_ble_eq_true rfl)⟩) (c_preV hP hKN (q := 1) (ci := 1) (fs := [(if ((upV (v_X1_find_1 V p2 p3) 1 4 (f_X6_turn (v_X1_find_1 V p2 p3) (f_X3_signFor (v_X1_find_1 V p2 p3) 0 p3))) 1) 0 = 0 then Value.null else Value.ref (ad 7)), .int (((upV (v_X1_find_1 V p2 p3) 1 4 (f_X6_turn (v_X1_find_1 V p2 p3) (f_X3_signFor (v_X1_find_1 V p2 p3) 0 p3))) 1) 1), .int (((upV (v_X1_find_1 V p2 p3) 1 4 (f_X6_turn (v_X1_find_1 V p2 p3) (f_X3_signFor (v_X1_find_1 V p2 p3) 0 p3))) 1) 2), .int (((upV (v_X1_find_1 V p2 p3) 1 4 (f_X6_turn (v_X1_find_1 V p2 p3) (f_X3_signFor (v_X1_find_1 V p2 p3) 0 p3))) 1) 3), .int (((upV (v_X1_find_1 V p2 p3) 1 4 (f_X6_turn (v_X1_find_1 V p2 p3) (f_X3_signFor (v_X1_find_1 V p2 p3) 0 p3))) 1) 4), .int (((upV (v_X1_find_1 V p2 p3) 1 4 (f_X6_turn (v_X1_find_1 V p2 p3) (f_X3_signFor (v_X1_find_1 V p2 p3) 0 p3))) 1) 5), .int (((upV (v_X1_find_1 V p2 p3) 1 4 (f_X6_turn (v_X1_find_1 V p2 p3) (f_X3_signFor (v_X1_find_1 V p2 p3) 0 p3))) 1) 6)]) (by decide) (ce_cm ad cI cB ((upV (v_X1_find_1 V p2 p3) 1 4 (f_X6_turn (v_X1_find_1 V p2 p3) (f_X3_signFor (v_X1_find_1 V p2 p3) 0 p3))) 1)) rfl rfl) rfl hl.1 rfl (Nat.le_of_ble_eq_true rfl) dX1_find_72 ⟨Nat.zero_le _, Nat.zero_le _⟩ (fun H locs hP hS => ?_)
      have hP : wP D cI cB ad (v_X1_find_2 fu V p2 p3) H := hP
      refine lv_aload_n hx hb dX1_find_75 rfl (lv_at hl 0 rfl) ?_
      refine x_get (ci := 1) (fs := [(if ((v_X1_find_2 fu V p2 p3) 1) 0 = 0 then Value.null else Value.ref (ad 7)), .int (((v_X1_find_2 fu V p2 p3) 1) 1), .int (((v_X1_find_2 fu V p2 p3) 1) 2), .int (((v_X1_find_2 fu V p2 p3) 1) 3), .int (((v_X1_find_2 fu V p2 p3) 1) 4), .int (((v_X1_find_2 fu V p2 p3) 1) 5), .int (((v_X1_find_2 fu V p2 p3) 1) 6)]) (q := 1) (v := .int ((v_X1_find_2 fu V p2 p3) 1 5)) (N := 7) hx hb hts (fun _ h => List.mem_cons_of_mem _ (List.mem_append_left _ (List.mem_append_right _ h))) hown hK hP (by decide) (ce_cm ad cI cB ((v_X1_find_2 fu V p2 p3) 1)) rfl 5 (by decide) (hts (.fieldLink RX1 9 "TurnedBoards$Composer" "best" "I") (List.mem_of_getElem? (i := 1) rfl)) rfl rfl dX1_find_76 ?_
      refine lv_iconst (v := (-1)) hx hb dX1_find_79 (by decide) ?_
      refine lv_icmp_eq (tgt := 87) hx hb dX1_find_80 (by decide) (fun c3 => ?_) (fun c3 => ?_)
      · have hE := hE.trans (if_pos c3)
        refine lv_iconst (v := 0) hx hb dX1_find_87 (by decide) ?_
        exact W.zret (v := 0) hx hb hr rfl (fun t ht hW => ⟨⟨0, (v_X1_find_2 fu V p2 p3), rfl, ⟨(congrArg Prod.fst hE).symm, (congrArg Prod.snd hE).symm⟩, by dsimp only; rw [ht]; exact hP⟩, hS.F ht⟩) hS.2.2 dX1_find_88
      · have hE := hE.trans (if_neg c3)
        refine lv_iconst (v := 1) hx hb dX1_find_83 (by decide) ?_
        refine lv_goto (tgt := 88) hx hb dX1_find_84 (by decide) ?_
        exact W.zret (v := 1) hx hb hr rfl (fun t ht hW => ⟨⟨1, (v_X1_find_2 fu V p2 p3), rfl, ⟨(congrArg Prod.fst hE).symm, (congrArg Prod.snd hE).symm⟩, by dsimp only; rw [ht]; exact hP⟩, hS.F ht⟩) hS.2.2 dX1_find_88
    · have hE := hE.trans (if_pos c2)
      refine lv_iconst (v := 0) hx hb dX1_find_30 (by decide) ?_
      exact W.zret (v := 0) hx hb hr rfl (fun t ht hW => ⟨⟨0, (upV (upV V 1 5 (-1)) 1 6 (-1)), rfl, ⟨(congrArg Prod.fst hE).symm, (congrArg Prod.snd hE).symm⟩, by dsimp only; rw [ht]; exact hP⟩, hS.F ht⟩) hS.2.2 dX1_find_31
