/-! contracts by program (wip/whole/gen): f_ what a method answers or makes of the table, p_ what it needs, m_ the contract -/
def f_X8_in (V : VT) (p1 : Int32) (p2 : Int32) (p3 : Int32) : Int32 := (if p1 < p2 then 0 else (if p3 < p1 then 0 else 1))
set_option maxHeartbeats 4000000 in
set_option maxRecDepth 100000 in
theorem m_X8_in (l : Launch) (D : va_G) (cI cB : ClassId) (ad : Nat → Nat) (V : VT) (p1 : Int32) (p2 : Int32) (p3 : Int32)  : Met l yX8_in wsX8_in ({ frames := 0, cells := 0, slots := 0, locals := 0 }) (cP D cI cB ad V [.int p1, .int p2, .int p3]) (cR (f_X8_in V p1 p2 p3)) 0 0 (fun _ => False) := by
  refine Met.ofW (cc := cX8_in) (maxL := 3) (ret := (some .boolean)) (by decide +kernel) rfl ?_
  intro p e s m args below meth c s₁ B hml hv
  obtain ⟨rfl, hP, hKN⟩ := hv
  have hK := hKN.1
  have hx := B.exec
  have hb := B.bytes
  have hr := B.returns
  have hts := atoms_spec (ws := wsX8_in) B.pre
  have hown : s.vm.findClass RX8 = some m.cls := findClass_of_methodNamed B.named
  have hlocks := B.notSynchronized
  have hS : va_S (fun _ => False) s.heap s.heap [] := va_S.rf
  have hl := lv_entry ([.int p1, .int p2, .int p3]) (n := 3) (Nat.le_of_ble_eq_true rfl)
  rw [lg_entry_eq]
  generalize (lg_sl ([.int p1, .int p2, .int p3]) ++ List.replicate (3 - (lg_sl ([.int p1, .int p2, .int p3])).length) Slot.unset).toArray = ls at hl ⊢
  have hl : lv_has ls 3 [(0, .int p1), (1, .int p2), (2, .int p3)] := hl
  have hE : f_X8_in V p1 p2 p3 = (if p1 < p2 then 0 else (if p3 < p1 then 0 else 1)) := rfl
  refine lv_iload_n hx hb dX8_in_0 rfl (lv_at hl 0 rfl) ?_
  refine lv_iload_n hx hb dX8_in_1 rfl (lv_at hl 1 rfl) ?_
  refine lv_icmp_lt (tgt := 14) hx hb dX8_in_2 (by decide) (fun c1 => ?_) (fun c1 => ?_)
  · have hE := hE.trans (if_pos c1)
    refine lv_iconst (v := 0) hx hb dX8_in_14 (by decide) ?_
    exact W.zret (v := 0) hx hb hr rfl (fun t ht hW => ⟨⟨0, (), rfl, hE.symm, trivial⟩, hS.F ht⟩) hS.2.2 dX8_in_15
  · have hE := hE.trans (if_neg c1)
    refine lv_iload_n hx hb dX8_in_5 rfl (lv_at hl 0 rfl) ?_
    refine lv_iload_n hx hb dX8_in_6 rfl (lv_at hl 2 rfl) ?_
    refine lv_icmp_gt (tgt := 14) hx hb dX8_in_7 (by decide) (fun c2 => ?_) (fun c2 => ?_)
    · have hE := hE.trans (if_pos c2)
      refine lv_iconst (v := 0) hx hb dX8_in_14 (by decide) ?_
      exact W.zret (v := 0) hx hb hr rfl (fun t ht hW => ⟨⟨0, (), rfl, hE.symm, trivial⟩, hS.F ht⟩) hS.2.2 dX8_in_15
    · have hE := hE.trans (if_neg c2)
      refine lv_iconst (v := 1) hx hb dX8_in_10 (by decide) ?_
      refine lv_goto (tgt := 15) hx hb dX8_in_11 (by decide) ?_
      exact W.zret (v := 1) hx hb hr rfl (fun t ht hW => ⟨⟨1, (), rfl, hE.symm, trivial⟩, hS.F ht⟩) hS.2.2 dX8_in_15
def f_X8_begins_l1 (fu : Nat)  : Nat → VT → Int32 → VT
  | 0, V1, x1_1 => V1
  | w1 + 1, V1, x1_1 => (if 49 ≤ x1_1 then V1 else (f_X8_begins_l1 fu  w1 (upV V1 50 x1_1.toNatClampNeg (V1 49 x1_1.toNatClampNeg)) (x1_1 + 1)))
def p_X8_begins_l1 (fu : Nat)  : Nat → VT → Int32 → Prop
  | 0, _, _ => False
  | w1 + 1, V1, x1_1 => ((49 ≤ x1_1 → True) ∧ (¬ (49 ≤ x1_1) → ((vp_in x1_1 49) ∧ ((vp_in x1_1 49) ∧ (p_X8_begins_l1 fu  w1 (upV V1 50 x1_1.toNatClampNeg (V1 49 x1_1.toNatClampNeg)) (x1_1 + 1))))))
def f_X8_begins (fu : Nat) (V : VT)  : VT := (f_X8_begins_l1 fu  fu V 0)
def p_X8_begins (fu : Nat) (V : VT)  : Prop := (p_X8_begins_l1 fu  fu V 0)
set_option maxHeartbeats 4000000 in
set_option maxRecDepth 100000 in
theorem m_X8_begins (l : Launch) (D : va_G) (cI cB : ClassId) (ad : Nat → Nat) {A : Nat → Prop} (hA : adOk ad A) (fu : Nat) (V : VT)   (hp : p_X8_begins fu V ) : Met l yX8_begins wsX8_begins ({ frames := 0, cells := 0, slots := 0, locals := 0 }) (cP D cI cB ad V [.ref (ad 48)]) (cWv D cI cB ad A (f_X8_begins fu V)) 0 0 A := by
  refine Met.ofW (cc := cX8_begins) (maxL := 2) (ret := none) (by decide +kernel) rfl ?_
  intro p e s m args below meth c s₁ B hml hv
  obtain ⟨rfl, hP, hKN⟩ := hv
  have hK := hKN.1
  have hx := B.exec
  have hb := B.bytes
  have hr := B.returns
  have hts := atoms_spec (ws := wsX8_begins) B.pre
  have hown : s.vm.findClass RX8 = some m.cls := findClass_of_methodNamed B.named
  have hlocks := B.notSynchronized
  have hS : va_S A s.heap s.heap [] := va_S.rf
  have hl := lv_entry ([.ref (ad 48)]) (n := 2) (Nat.le_of_ble_eq_true rfl)
  rw [lg_entry_eq]
  generalize (lg_sl ([.ref (ad 48)]) ++ List.replicate (2 - (lg_sl ([.ref (ad 48)])).length) Slot.unset).toArray = ls at hl ⊢
  have hl : lv_has ls 2 [(0, .ref (ad 48))] := hl
  have hE : f_X8_begins fu V = (f_X8_begins_l1 fu  fu V 0) := rfl
  refine lv_iconst (v := 0) hx hb dX8_begins_0 (by decide) ?_
  refine lv_istore_n (lv' := [(1, .int 0), (0, .ref (ad 48))]) hx hb dX8_begins_1 rfl hl (by decide) rfl (fun ls hl => ?_)
  have L1 : ∀ (w1 : Nat) (V1 : VT) (x1_1 : Int32), f_X8_begins fu V = f_X8_begins_l1 fu  w1 V1 x1_1 → p_X8_begins_l1 fu  w1 V1 x1_1 → ∀ (H : Heap) (locs : List Loc), wP D cI cB ad V1 H → va_S A s.heap H locs → ∀ (ls : Array Slot), lv_has ls 2 [(0, .ref (ad 48)), (1, .int x1_1)] → W p l e (headSpec wsX8_begins ({ frames := 0, cells := 0, slots := 0, locals := 0 })).room s m ([.ref (ad 48)] : List Value).toArray below meth c H locs 0 0 (MQ below (cWv D cI cB ad A (f_X8_begins fu V)) ([.ref (ad 48)] : List Value).toArray s 0 0 A) (F0 m 2 ls []) := by
    intro w1
    induction w1 with
    | zero => intro V1 x1_1 hE hp; exact hp.elim
    | succ w1 ih1 =>
      intro V1 x1_1 hE hp H locs hP hS ls hl
      rw [f_X8_begins_l1] at hE
      rw [p_X8_begins_l1] at hp
      refine lv_iload_n hx hb dX8_begins_2 rfl (lv_at hl 1 rfl) ?_
      refine lv_bipush (v := 49) hx hb dX8_begins_3 (by decide) ?_
      refine lv_icmp_ge (tgt := 26) hx hb dX8_begins_5 (by decide) (fun c1 => ?_) (fun c1 => ?_)
      · have hE := hE.trans (if_pos c1)
        exact W.vret hx hb hr (fun t ht hW => ⟨⟨V1, rfl, hE.symm, by dsimp only; rw [ht]; exact hP⟩, hS.F ht⟩) hS.2.2 dX8_begins_26
      · have hE := hE.trans (if_neg c1)
        have hp := pc_bn hp c1
        refine lv_aload_n hx hb dX8_begins_8 rfl (lv_at hl 0 rfl) ?_
        refine x_get (ci := 6) (fs := [.ref (ad 49), .ref (ad 50), .ref (ad 51), .int ((V1 48) 0), .ref (ad 52), .int ((V1 48) 1), .ref (ad 53), .int ((V1 48) 2), .int ((V1 48) 3), .int ((V1 48) 4), .int ((V1 48) 5), .int ((V1 48) 6), .int ((V1 48) 7)]) (q := 48) (v := .ref (ad 50)) (N := 13) hx hb hts (fun _ h => List.mem_cons_of_mem _ (List.mem_append_right _ h)) hown hK hP (by decide) (ce_md ad cI cB (V1 48)) rfl 1 (by decide) (hts (.fieldLink RX8 13 "TurnedBoardsModel" "begun" "[I") (List.mem_of_getElem? (i := 1) rfl)) rfl rfl dX8_begins_9 ?_
        refine lv_iload_n hx hb dX8_begins_12 rfl (lv_at hl 1 rfl) ?_
        refine lv_aload_n hx hb dX8_begins_13 rfl (lv_at hl 0 rfl) ?_
        refine x_get (ci := 6) (fs := [.ref (ad 49), .ref (ad 50), .ref (ad 51), .int ((V1 48) 0), .ref (ad 52), .int ((V1 48) 1), .ref (ad 53), .int ((V1 48) 2), .int ((V1 48) 3), .int ((V1 48) 4), .int ((V1 48) 5), .int ((V1 48) 6), .int ((V1 48) 7)]) (q := 48) (v := .ref (ad 49)) (N := 13) hx hb hts (fun _ h => List.mem_cons_of_mem _ (List.mem_append_right _ h)) hown hK hP (by decide) (ce_md ad cI cB (V1 48)) rfl 0 (by decide) (hts (.fieldLink RX8 7 "TurnedBoardsModel" "s" "[I") (List.mem_of_getElem? (i := 2) rfl)) rfl rfl dX8_begins_14 ?_
        refine lv_iload_n hx hb dX8_begins_17 rfl (lv_at hl 1 rfl) ?_
        obtain ⟨hn1, hp⟩ := hp
        refine x_iald hx hb hK hP ⟨by decide, fun _ => rfl, by decide⟩ hn1 dX8_begins_18 ?_
        obtain ⟨hn2, hp⟩ := hp
        refine x_iast hx hb hK hP hA hS ⟨by decide, fun _ => rfl, by decide⟩ hn2 dX8_begins_19 (fun H locs hP hS => ?_)
        refine lv_iinc (v := (x1_1 + 1)) (lv' := [(1, .int (x1_1 + 1)), (0, .ref (ad 48))]) hx hb dX8_begins_20 hl (k := 1) rfl (by rfl) (by decide) rfl (fun ls hl => ?_)
        refine lv_goto (tgt := 2) hx hb dX8_begins_23 (by decide) ?_
        exact ih1 (upV V1 50 x1_1.toNatClampNeg (V1 49 x1_1.toNatClampNeg)) (x1_1 + 1) hE hp H locs hP hS ls (lv_sub hl [1, 0] rfl)
  exact L1 fu V 0 hE hp _ _ hP hS _ (lv_sub hl [1, 0] rfl)
def f_X8_acted_l3 (fu : Nat) (p1 : Int32) : Nat → VT → Int32 → Int32 × VT
  | 0, V3, x2_3 => (0, V3)
  | w3 + 1, V3, x2_3 => (if 49 ≤ x2_3 then (p1, (upV V3 48 1 ((V3 48 1) + 1))) else (f_X8_acted_l3 fu p1 w3 (upV V3 52 ((49 * (V3 48 1)) + x2_3).toNatClampNeg (V3 50 x2_3.toNatClampNeg)) (x2_3 + 1)))
def p_X8_acted_l3 (fu : Nat) (p1 : Int32) : Nat → VT → Int32 → Prop
  | 0, _, _ => False
  | w3 + 1, V3, x2_3 => ((49 ≤ x2_3 → True) ∧ (¬ (49 ≤ x2_3) → ((vp_in x2_3 49) ∧ ((vp_in ((49 * (V3 48 1)) + x2_3) 196) ∧ (p_X8_acted_l3 fu p1 w3 (upV V3 52 ((49 * (V3 48 1)) + x2_3).toNatClampNeg (V3 50 x2_3.toNatClampNeg)) (x2_3 + 1))))))
def f_X8_acted_l2 (fu : Nat) (p1 : Int32) : Nat → VT → Int32 → Int32 × VT
  | 0, V2, x2_2 => (0, V2)
  | w2 + 1, V2, x2_2 => (if 147 ≤ x2_2 then (f_X8_acted_l3 fu p1 fu (upV V2 48 1 ((V2 48 1) - 1)) 0) else (f_X8_acted_l2 fu p1 w2 (upV V2 52 x2_2.toNatClampNeg (V2 52 (x2_2 + 49).toNatClampNeg)) (x2_2 + 1)))
def p_X8_acted_l2 (fu : Nat) (p1 : Int32) : Nat → VT → Int32 → Prop
  | 0, _, _ => False
  | w2 + 1, V2, x2_2 => ((147 ≤ x2_2 → (p_X8_acted_l3 fu p1 fu (upV V2 48 1 ((V2 48 1) - 1)) 0)) ∧ (¬ (147 ≤ x2_2) → ((vp_in (x2_2 + 49) 196) ∧ ((vp_in x2_2 196) ∧ (p_X8_acted_l2 fu p1 w2 (upV V2 52 x2_2.toNatClampNeg (V2 52 (x2_2 + 49).toNatClampNeg)) (x2_2 + 1))))))
def f_X8_acted_l1 (fu : Nat) (p1 : Int32) : Nat → VT → Int32 → Int32 × VT
  | 0, V1, x2_1 => (0, V1)
  | w1 + 1, V1, x2_1 => (if 49 ≤ x2_1 then (p1, V1) else (f_X8_acted_l1 fu p1 w1 (upV V1 49 x2_1.toNatClampNeg (V1 50 x2_1.toNatClampNeg)) (x2_1 + 1)))
def p_X8_acted_l1 (fu : Nat) (p1 : Int32) : Nat → VT → Int32 → Prop
  | 0, _, _ => False
  | w1 + 1, V1, x2_1 => ((49 ≤ x2_1 → True) ∧ (¬ (49 ≤ x2_1) → ((vp_in x2_1 49) ∧ ((vp_in x2_1 49) ∧ (p_X8_acted_l1 fu p1 w1 (upV V1 49 x2_1.toNatClampNeg (V1 50 x2_1.toNatClampNeg)) (x2_1 + 1))))))
def f_X8_acted (fu : Nat) (V : VT) (p1 : Int32) : Int32 × VT := (if (-1001) < p1 then (if (V 48 1) = 4 then (f_X8_acted_l2 fu p1 fu V 0) else (f_X8_acted_l3 fu p1 fu V 0)) else (f_X8_acted_l1 fu p1 fu V 0))
def p_X8_acted (fu : Nat) (V : VT) (p1 : Int32) : Prop := (((-1001) < p1 → (((V 48 1) = 4 → (p_X8_acted_l2 fu p1 fu V 0)) ∧ (¬ ((V 48 1) = 4) → (p_X8_acted_l3 fu p1 fu V 0)))) ∧ (¬ ((-1001) < p1) → (p_X8_acted_l1 fu p1 fu V 0)))
set_option maxHeartbeats 4000000 in
set_option maxRecDepth 100000 in
theorem m_X8_acted (l : Launch) (D : va_G) (cI cB : ClassId) (ad : Nat → Nat) {A : Nat → Prop} (hA : adOk ad A) (fu : Nat) (V : VT) (p1 : Int32)  (hp : p_X8_acted fu V p1) : Met l yX8_acted wsX8_acted ({ frames := 0, cells := 0, slots := 0, locals := 0 }) (cP D cI cB ad V [.ref (ad 48), .int p1]) (cWi D cI cB ad A (f_X8_acted fu V p1)) 0 0 A := by
  refine Met.ofW (cc := cX8_acted) (maxL := 3) (ret := (some .int)) (by decide +kernel) rfl ?_
  intro p e s m args below meth c s₁ B hml hv
  obtain ⟨rfl, hP, hKN⟩ := hv
  have hK := hKN.1
  have hx := B.exec
  have hb := B.bytes
  have hr := B.returns
  have hts := atoms_spec (ws := wsX8_acted) B.pre
  have hown : s.vm.findClass RX8 = some m.cls := findClass_of_methodNamed B.named
  have hlocks := B.notSynchronized
  have hS : va_S A s.heap s.heap [] := va_S.rf
  have hl := lv_entry ([.ref (ad 48), .int p1]) (n := 3) (Nat.le_of_ble_eq_true rfl)
  rw [lg_entry_eq]
  generalize (lg_sl ([.ref (ad 48), .int p1]) ++ List.replicate (3 - (lg_sl ([.ref (ad 48), .int p1])).length) Slot.unset).toArray = ls at hl ⊢
  have hl : lv_has ls 3 [(0, .ref (ad 48)), (1, .int p1)] := hl
  have hE : f_X8_acted fu V p1 = (if (-1001) < p1 then (if (V 48 1) = 4 then (f_X8_acted_l2 fu p1 fu V 0) else (f_X8_acted_l3 fu p1 fu V 0)) else (f_X8_acted_l1 fu p1 fu V 0)) := rfl
  refine lv_iload_n hx hb dX8_acted_0 rfl (lv_at hl 1 rfl) ?_
  refine lv_sipush (v := (-1001)) hx hb dX8_acted_1 (by decide) ?_
  refine lv_icmp_gt (tgt := 35) hx hb dX8_acted_4 (by decide) (fun c1 => ?_) (fun c1 => ?_)
  · have hE := hE.trans (if_pos c1)
    have hp := pc_br hp c1
    refine lv_aload_n hx hb dX8_acted_35 rfl (lv_at hl 0 rfl) ?_
    refine x_get (ci := 6) (fs := [.ref (ad 49), .ref (ad 50), .ref (ad 51), .int ((V 48) 0), .ref (ad 52), .int ((V 48) 1), .ref (ad 53), .int ((V 48) 2), .int ((V 48) 3), .int ((V 48) 4), .int ((V 48) 5), .int ((V 48) 6), .int ((V 48) 7)]) (q := 48) (v := .int (V 48 1)) (N := 13) hx hb hts (fun _ h => List.mem_cons_of_mem _ (List.mem_append_right _ h)) hown hK hP (by decide) (ce_md ad cI cB (V 48)) rfl 5 (by decide) (hts (.fieldLink RX8 25 "TurnedBoardsModel" "states" "I") (List.mem_of_getElem? (i := 3) rfl)) rfl rfl dX8_acted_36 ?_
    refine lv_iconst (v := 4) hx hb dX8_acted_39 (by decide) ?_
    refine lv_icmp_ne (tgt := 83) hx hb dX8_acted_40 (by decide) (fun c2 => ?_) (fun c2 => ?_)
    · have hE := hE.trans (if_neg c2)
      have hp := pc_bn hp c2
      refine lv_iconst (v := 0) hx hb dX8_acted_83 (by decide) ?_
      refine lv_istore_n (lv' := [(2, .int 0), (0, .ref (ad 48)), (1, .int p1)]) hx hb dX8_acted_84 rfl hl (by decide) rfl (fun ls hl => ?_)
      have L3 : ∀ (w3 : Nat) (V3 : VT) (x2_3 : Int32), f_X8_acted fu V p1 = f_X8_acted_l3 fu p1 w3 V3 x2_3 → p_X8_acted_l3 fu p1 w3 V3 x2_3 → ∀ (H : Heap) (locs : List Loc), wP D cI cB ad V3 H → va_S A s.heap H locs → ∀ (ls : Array Slot), lv_has ls 3 [(0, .ref (ad 48)), (1, .int p1), (2, .int x2_3)] → W p l e (headSpec wsX8_acted ({ frames := 0, cells := 0, slots := 0, locals := 0 })).room s m ([.ref (ad 48), .int p1] : List Value).toArray below meth c H locs 0 0 (MQ below (cWi D cI cB ad A (f_X8_acted fu V p1)) ([.ref (ad 48), .int p1] : List Value).toArray s 0 0 A) (F0 m 85 ls []) := by
        intro w3
        induction w3 with
        | zero => intro V3 x2_3 hE hp; exact hp.elim
        | succ w3 ih3 =>
          intro V3 x2_3 hE hp H locs hP hS ls hl
          rw [f_X8_acted_l3] at hE
          rw [p_X8_acted_l3] at hp
          refine lv_iload_n hx hb dX8_acted_85 rfl (lv_at hl 2 rfl) ?_
          refine lv_bipush (v := 49) hx hb dX8_acted_86 (by decide) ?_
          refine lv_icmp_ge (tgt := 117) hx hb dX8_acted_88 (by decide) (fun c5 => ?_) (fun c5 => ?_)
          · have hE := hE.trans (if_pos c5)
            refine lv_aload_n hx hb dX8_acted_117 rfl (lv_at hl 0 rfl) ?_
            refine lv_dup hx hb dX8_acted_118 rfl ?_
            refine x_get (ci := 6) (fs := [.ref (ad 49), .ref (ad 50), .ref (ad 51), .int ((V3 48) 0), .ref (ad 52), .int ((V3 48) 1), .ref (ad 53), .int ((V3 48) 2), .int ((V3 48) 3), .int ((V3 48) 4), .int ((V3 48) 5), .int ((V3 48) 6), .int ((V3 48) 7)]) (q := 48) (v := .int (V3 48 1)) (N := 13) hx hb hts (fun _ h => List.mem_cons_of_mem _ (List.mem_append_right _ h)) hown hK hP (by decide) (ce_md ad cI cB (V3 48)) rfl 5 (by decide) (hts (.fieldLink RX8 25 "TurnedBoardsModel" "states" "I") (List.mem_of_getElem? (i := 3) rfl)) rfl rfl dX8_acted_119 ?_
            refine lv_iconst (v := 1) hx hb dX8_acted_122 (by decide) ?_
            refine lv_iadd hx hb dX8_acted_123 ?_
            refine x_put (ci := 6) (fs := [.ref (ad 49), .ref (ad 50), .ref (ad 51), .int ((V3 48) 0), .ref (ad 52), .int ((V3 48) 1), .ref (ad 53), .int ((V3 48) 2), .int ((V3 48) 3), .int ((V3 48) 4), .int ((V3 48) 5), .int ((V3 48) 6), .int ((V3 48) 7)]) (q := 48) (v := .int ((V3 48 1) + 1)) (ty := .int) (N := 13) hx hb hts (fun _ h => List.mem_cons_of_mem _ (List.mem_append_right _ h)) tyX8 tyX8_ok nmX8 hown hK hP hA hS (by decide) (ce_md ad cI cB (V3 48)) rfl 5 (by decide) (hts (.fieldLink RX8 25 "TurnedBoardsModel" "states" "I") (List.mem_of_getElem? (i := 3) rfl)) rfl rfl (by decide +kernel) rfl rfl (Nat.le_of_ble_eq_true rfl) 1 ((V3 48 1) + 1) ((ce_md ad cI cB (upd (V3 48) 1 ((V3 48 1) + 1))).trans rfl) dX8_acted_124 (fun H locs hP hS => ?_)
            refine lv_iload_n hx hb dX8_acted_127 rfl (lv_at hl 1 rfl) ?_
            exact W.iret (v := p1) hx hb hr (fun t ht hW => ⟨⟨p1, (upV V3 48 1 ((V3 48 1) + 1)), rfl, ⟨(congrArg Prod.fst hE).symm, (congrArg Prod.snd hE).symm⟩, by dsimp only; rw [ht]; exact hP⟩, hS.F ht⟩) hS.2.2 dX8_acted_128
          · have hE := hE.trans (if_neg c5)
            have hp := pc_bn hp c5
            refine lv_aload_n hx hb dX8_acted_91 rfl (lv_at hl 0 rfl) ?_
            refine x_get (ci := 6) (fs := [.ref (ad 49), .ref (ad 50), .ref (ad 51), .int ((V3 48) 0), .ref (ad 52), .int ((V3 48) 1), .ref (ad 53), .int ((V3 48) 2), .int ((V3 48) 3), .int ((V3 48) 4), .int ((V3 48) 5), .int ((V3 48) 6), .int ((V3 48) 7)]) (q := 48) (v := .ref (ad 52)) (N := 13) hx hb hts (fun _ h => List.mem_cons_of_mem _ (List.mem_append_right _ h)) hown hK hP (by decide) (ce_md ad cI cB (V3 48)) rfl 4 (by decide) (hts (.fieldLink RX8 19 "TurnedBoardsModel" "past" "[I") (List.mem_of_getElem? (i := 4) rfl)) rfl rfl dX8_acted_92 ?_
            refine lv_bipush (v := 49) hx hb dX8_acted_95 (by decide) ?_
            refine lv_aload_n hx hb dX8_acted_97 rfl (lv_at hl 0 rfl) ?_
            refine x_get (ci := 6) (fs := [.ref (ad 49), .ref (ad 50), .ref (ad 51), .int ((V3 48) 0), .ref (ad 52), .int ((V3 48) 1), .ref (ad 53), .int ((V3 48) 2), .int ((V3 48) 3), .int ((V3 48) 4), .int ((V3 48) 5), .int ((V3 48) 6), .int ((V3 48) 7)]) (q := 48) (v := .int (V3 48 1)) (N := 13) hx hb hts (fun _ h => List.mem_cons_of_mem _ (List.mem_append_right _ h)) hown hK hP (by decide) (ce_md ad cI cB (V3 48)) rfl 5 (by decide) (hts (.fieldLink RX8 25 "TurnedBoardsModel" "states" "I") (List.mem_of_getElem? (i := 3) rfl)) rfl rfl dX8_acted_98 ?_
            refine lv_imul hx hb dX8_acted_101 ?_
            refine lv_iload_n hx hb dX8_acted_102 rfl (lv_at hl 2 rfl) ?_
            refine lv_iadd hx hb dX8_acted_103 ?_
            refine lv_aload_n hx hb dX8_acted_104 rfl (lv_at hl 0 rfl) ?_
            refine x_get (ci := 6) (fs := [.ref (ad 49), .ref (ad 50), .ref (ad 51), .int ((V3 48) 0), .ref (ad 52), .int ((V3 48) 1), .ref (ad 53), .int ((V3 48) 2), .int ((V3 48) 3), .int ((V3 48) 4), .int ((V3 48) 5), .int ((V3 48) 6), .int ((V3 48) 7)]) (q := 48) (v := .ref (ad 50)) (N := 13) hx hb hts (fun _ h => List.mem_cons_of_mem _ (List.mem_append_right _ h)) hown hK hP (by decide) (ce_md ad cI cB (V3 48)) rfl 1 (by decide) (hts (.fieldLink RX8 13 "TurnedBoardsModel" "begun" "[I") (List.mem_of_getElem? (i := 2) rfl)) rfl rfl dX8_acted_105 ?_
            refine lv_iload_n hx hb dX8_acted_108 rfl (lv_at hl 2 rfl) ?_
            obtain ⟨hn5, hp⟩ := hp
            refine x_iald hx hb hK hP ⟨by decide, fun _ => rfl, by decide⟩ hn5 dX8_acted_109 ?_
            obtain ⟨hn6, hp⟩ := hp
            refine x_iast hx hb hK hP hA hS ⟨by decide, fun _ => rfl, by decide⟩ hn6 dX8_acted_110 (fun H locs hP hS => ?_)
            refine lv_iinc (v := (x2_3 + 1)) (lv' := [(2, .int (x2_3 + 1)), (0, .ref (ad 48)), (1, .int p1)]) hx hb dX8_acted_111 hl (k := 2) rfl (by rfl) (by decide) rfl (fun ls hl => ?_)
            refine lv_goto (tgt := 85) hx hb dX8_acted_114 (by decide) ?_
            exact ih3 (upV V3 52 ((49 * (V3 48 1)) + x2_3).toNatClampNeg (V3 50 x2_3.toNatClampNeg)) (x2_3 + 1) hE hp H locs hP hS ls (lv_sub hl [1, 2, 0] rfl)
      exact L3 fu V 0 hE hp _ _ hP hS _ (lv_sub hl [1, 2, 0] rfl)
    · have hE := hE.trans (if_pos c2)
      have hp := pc_br hp c2
      refine lv_iconst (v := 0) hx hb dX8_acted_43 (by decide) ?_
      refine lv_istore_n (lv' := [(2, .int 0), (0, .ref (ad 48)), (1, .int p1)]) hx hb dX8_acted_44 rfl hl (by decide) rfl (fun ls hl => ?_)
      have L2 : ∀ (w2 : Nat) (V2 : VT) (x2_2 : Int32), f_X8_acted fu V p1 = f_X8_acted_l2 fu p1 w2 V2 x2_2 → p_X8_acted_l2 fu p1 w2 V2 x2_2 → ∀ (H : Heap) (locs : List Loc), wP D cI cB ad V2 H → va_S A s.heap H locs → ∀ (ls : Array Slot), lv_has ls 3 [(0, .ref (ad 48)), (1, .int p1), (2, .int x2_2)] → W p l e (headSpec wsX8_acted ({ frames := 0, cells := 0, slots := 0, locals := 0 })).room s m ([.ref (ad 48), .int p1] : List Value).toArray below meth c H locs 0 0 (MQ below (cWi D cI cB ad A (f_X8_acted fu V p1)) ([.ref (ad 48), .int p1] : List Value).toArray s 0 0 A) (F0 m 45 ls []) := by
        intro w2
        induction w2 with
        | zero => intro V2 x2_2 hE hp; exact hp.elim
        | succ w2 ih2 =>
          intro V2 x2_2 hE hp H locs hP hS ls hl
          rw [f_X8_acted_l2] at hE
          rw [p_X8_acted_l2] at hp
          refine lv_iload_n hx hb dX8_acted_45 rfl (lv_at hl 2 rfl) ?_
          refine lv_sipush (v := 147) hx hb dX8_acted_46 (by decide) ?_
          refine lv_icmp_ge (tgt := 73) hx hb dX8_acted_49 (by decide) (fun c3 => ?_) (fun c3 => ?_)
          · have hE := hE.trans (if_pos c3)
            have hp := pc_br hp c3
            refine lv_aload_n hx hb dX8_acted_73 rfl (lv_at hl 0 rfl) ?_
            refine lv_dup hx hb dX8_acted_74 rfl ?_
            refine x_get (ci := 6) (fs := [.ref (ad 49), .ref (ad 50), .ref (ad 51), .int ((V2 48) 0), .ref (ad 52), .int ((V2 48) 1), .ref (ad 53), .int ((V2 48) 2), .int ((V2 48) 3), .int ((V2 48) 4), .int ((V2 48) 5), .int ((V2 48) 6), .int ((V2 48) 7)]) (q := 48) (v := .int (V2 48 1)) (N := 13) hx hb hts (fun _ h => List.mem_cons_of_mem _ (List.mem_append_right _ h)) hown hK hP (by decide) (ce_md ad cI cB (V2 48)) rfl 5 (by decide) (hts (.fieldLink RX8 25 "TurnedBoardsModel" "states" "I") (List.mem_of_getElem? (i := 3) rfl)) rfl rfl dX8_acted_75 ?_
            refine lv_iconst (v := 1) hx hb dX8_acted_78 (by decide) ?_
            refine lv_isub hx hb dX8_acted_79 ?_
            refine x_put (ci := 6) (fs := [.ref (ad 49), .ref (ad 50), .ref (ad 51), .int ((V2 48) 0), .ref (ad 52), .int ((V2 48) 1), .ref (ad 53), .int ((V2 48) 2), .int ((V2 48) 3), .int ((V2 48) 4), .int ((V2 48) 5), .int ((V2 48) 6), .int ((V2 48) 7)]) (q := 48) (v := .int ((V2 48 1) - 1)) (ty := .int) (N := 13) hx hb hts (fun _ h => List.mem_cons_of_mem _ (List.mem_append_right _ h)) tyX8 tyX8_ok nmX8 hown hK hP hA hS (by decide) (ce_md ad cI cB (V2 48)) rfl 5 (by decide) (hts (.fieldLink RX8 25 "TurnedBoardsModel" "states" "I") (List.mem_of_getElem? (i := 3) rfl)) rfl rfl (by decide +kernel) rfl rfl (Nat.le_of_ble_eq_true rfl) 1 ((V2 48 1) - 1) ((ce_md ad cI cB (upd (V2 48) 1 ((V2 48 1) - 1))).trans rfl) dX8_acted_80 (fun H locs hP hS => ?_)
            refine lv_iconst (v := 0) hx hb dX8_acted_83 (by decide) ?_
            refine lv_istore_n (lv' := [(2, .int 0), (0, .ref (ad 48)), (1, .int p1)]) hx hb dX8_acted_84 rfl hl (by decide) rfl (fun ls hl => ?_)
            have L3 : ∀ (w3 : Nat) (V3 : VT) (x2_3 : Int32), f_X8_acted fu V p1 = f_X8_acted_l3 fu p1 w3 V3 x2_3 → p_X8_acted_l3 fu p1 w3 V3 x2_3 → ∀ (H : Heap) (locs : List Loc), wP D cI cB ad V3 H → va_S A s.heap H locs → ∀ (ls : Array Slot), lv_has ls 3 [(0, .ref (ad 48)), (1, .int p1), (2, .int x2_3)] → W p l e (headSpec wsX8_acted ({ frames := 0, cells := 0, slots := 0, locals := 0 })).room s m ([.ref (ad 48), .int p1] : List Value).toArray below meth c H locs 0 0 (MQ below (cWi D cI cB ad A (f_X8_acted fu V p1)) ([.ref (ad 48), .int p1] : List Value).toArray s 0 0 A) (F0 m 85 ls []) := by
              intro w3
              induction w3 with
              | zero => intro V3 x2_3 hE hp; exact hp.elim
              | succ w3 ih3 =>
                intro V3 x2_3 hE hp H locs hP hS ls hl
                rw [f_X8_acted_l3] at hE
                rw [p_X8_acted_l3] at hp
                refine lv_iload_n hx hb dX8_acted_85 rfl (lv_at hl 2 rfl) ?_
                refine lv_bipush (v := 49) hx hb dX8_acted_86 (by decide) ?_
                refine lv_icmp_ge (tgt := 117) hx hb dX8_acted_88 (by decide) (fun c4 => ?_) (fun c4 => ?_)
                · have hE := hE.trans (if_pos c4)
                  refine lv_aload_n hx hb dX8_acted_117 rfl (lv_at hl 0 rfl) ?_
                  refine lv_dup hx hb dX8_acted_118 rfl ?_
                  refine x_get (ci := 6) (fs := [.ref (ad 49), .ref (ad 50), .ref (ad 51), .int ((V3 48) 0), .ref (ad 52), .int ((V3 48) 1), .ref (ad 53), .int ((V3 48) 2), .int ((V3 48) 3), .int ((V3 48) 4), .int ((V3 48) 5), .int ((V3 48) 6), .int ((V3 48) 7)]) (q := 48) (v := .int (V3 48 1)) (N := 13) hx hb hts (fun _ h => List.mem_cons_of_mem _ (List.mem_append_right _ h)) hown hK hP (by decide) (ce_md ad cI cB (V3 48)) rfl 5 (by decide) (hts (.fieldLink RX8 25 "TurnedBoardsModel" "states" "I") (List.mem_of_getElem? (i := 3) rfl)) rfl rfl dX8_acted_119 ?_
                  refine lv_iconst (v := 1) hx hb dX8_acted_122 (by decide) ?_
                  refine lv_iadd hx hb dX8_acted_123 ?_
                  refine x_put (ci := 6) (fs := [.ref (ad 49), .ref (ad 50), .ref (ad 51), .int ((V3 48) 0), .ref (ad 52), .int ((V3 48) 1), .ref (ad 53), .int ((V3 48) 2), .int ((V3 48) 3), .int ((V3 48) 4), .int ((V3 48) 5), .int ((V3 48) 6), .int ((V3 48) 7)]) (q := 48) (v := .int ((V3 48 1) + 1)) (ty := .int) (N := 13) hx hb hts (fun _ h => List.mem_cons_of_mem _ (List.mem_append_right _ h)) tyX8 tyX8_ok nmX8 hown hK hP hA hS (by decide) (ce_md ad cI cB (V3 48)) rfl 5 (by decide) (hts (.fieldLink RX8 25 "TurnedBoardsModel" "states" "I") (List.mem_of_getElem? (i := 3) rfl)) rfl rfl (by decide +kernel) rfl rfl (Nat.le_of_ble_eq_true rfl) 1 ((V3 48 1) + 1) ((ce_md ad cI cB (upd (V3 48) 1 ((V3 48 1) + 1))).trans rfl) dX8_acted_124 (fun H locs hP hS => ?_)
                  refine lv_iload_n hx hb dX8_acted_127 rfl (lv_at hl 1 rfl) ?_
                  exact W.iret (v := p1) hx hb hr (fun t ht hW => ⟨⟨p1, (upV V3 48 1 ((V3 48 1) + 1)), rfl, ⟨(congrArg Prod.fst hE).symm, (congrArg Prod.snd hE).symm⟩, by dsimp only; rw [ht]; exact hP⟩, hS.F ht⟩) hS.2.2 dX8_acted_128
                · have hE := hE.trans (if_neg c4)
                  have hp := pc_bn hp c4
                  refine lv_aload_n hx hb dX8_acted_91 rfl (lv_at hl 0 rfl) ?_
                  refine x_get (ci := 6) (fs := [.ref (ad 49), .ref (ad 50), .ref (ad 51), .int ((V3 48) 0), .ref (ad 52), .int ((V3 48) 1), .ref (ad 53), .int ((V3 48) 2), .int ((V3 48) 3), .int ((V3 48) 4), .int ((V3 48) 5), .int ((V3 48) 6), .int ((V3 48) 7)]) (q := 48) (v := .ref (ad 52)) (N := 13) hx hb hts (fun _ h => List.mem_cons_of_mem _ (List.mem_append_right _ h)) hown hK hP (by decide) (ce_md ad cI cB (V3 48)) rfl 4 (by decide) (hts (.fieldLink RX8 19 "TurnedBoardsModel" "past" "[I") (List.mem_of_getElem? (i := 4) rfl)) rfl rfl dX8_acted_92 ?_
                  refine lv_bipush (v := 49) hx hb dX8_acted_95 (by decide) ?_
                  refine lv_aload_n hx hb dX8_acted_97 rfl (lv_at hl 0 rfl) ?_
                  refine x_get (ci := 6) (fs := [.ref (ad 49), .ref (ad 50), .ref (ad 51), .int ((V3 48) 0), .ref (ad 52), .int ((V3 48) 1), .ref (ad 53), .int ((V3 48) 2), .int ((V3 48) 3), .int ((V3 48) 4), .int ((V3 48) 5), .int ((V3 48) 6), .int ((V3 48) 7)]) (q := 48) (v := .int (V3 48 1)) (N := 13) hx hb hts (fun _ h => List.mem_cons_of_mem _ (List.mem_append_right _ h)) hown hK hP (by decide) (ce_md ad cI cB (V3 48)) rfl 5 (by decide) (hts (.fieldLink RX8 25 "TurnedBoardsModel" "states" "I") (List.mem_of_getElem? (i := 3) rfl)) rfl rfl dX8_acted_98 ?_
                  refine lv_imul hx hb dX8_acted_101 ?_
                  refine lv_iload_n hx hb dX8_acted_102 rfl (lv_at hl 2 rfl) ?_
                  refine lv_iadd hx hb dX8_acted_103 ?_
                  refine lv_aload_n hx hb dX8_acted_104 rfl (lv_at hl 0 rfl) ?_
                  refine x_get (ci := 6) (fs := [.ref (ad 49), .ref (ad 50), .ref (ad 51), .int ((V3 48) 0), .ref (ad 52), .int ((V3 48) 1), .ref (ad 53), .int ((V3 48) 2), .int ((V3 48) 3), .int ((V3 48) 4), .int ((V3 48) 5), .int ((V3 48) 6), .int ((V3 48) 7)]) (q := 48) (v := .ref (ad 50)) (N := 13) hx hb hts (fun _ h => List.mem_cons_of_mem _ (List.mem_append_right _ h)) hown hK hP (by decide) (ce_md ad cI cB (V3 48)) rfl 1 (by decide) (hts (.fieldLink RX8 13 "TurnedBoardsModel" "begun" "[I") (List.mem_of_getElem? (i := 2) rfl)) rfl rfl dX8_acted_105 ?_
                  refine lv_iload_n hx hb dX8_acted_108 rfl (lv_at hl 2 rfl) ?_
                  obtain ⟨hn1, hp⟩ := hp
                  refine x_iald hx hb hK hP ⟨by decide, fun _ => rfl, by decide⟩ hn1 dX8_acted_109 ?_
                  obtain ⟨hn2, hp⟩ := hp
                  refine x_iast hx hb hK hP hA hS ⟨by decide, fun _ => rfl, by decide⟩ hn2 dX8_acted_110 (fun H locs hP hS => ?_)
                  refine lv_iinc (v := (x2_3 + 1)) (lv' := [(2, .int (x2_3 + 1)), (0, .ref (ad 48)), (1, .int p1)]) hx hb dX8_acted_111 hl (k := 2) rfl (by rfl) (by decide) rfl (fun ls hl => ?_)
                  refine lv_goto (tgt := 85) hx hb dX8_acted_114 (by decide) ?_
                  exact ih3 (upV V3 52 ((49 * (V3 48 1)) + x2_3).toNatClampNeg (V3 50 x2_3.toNatClampNeg)) (x2_3 + 1) hE hp H locs hP hS ls (lv_sub hl [1, 2, 0] rfl)
            exact L3 fu (upV V2 48 1 ((V2 48 1) - 1)) 0 hE hp _ _ hP hS _ (lv_sub hl [1, 2, 0] rfl)
          · have hE := hE.trans (if_neg c3)
            have hp := pc_bn hp c3
            refine lv_aload_n hx hb dX8_acted_52 rfl (lv_at hl 0 rfl) ?_
            refine x_get (ci := 6) (fs := [.ref (ad 49), .ref (ad 50), .ref (ad 51), .int ((V2 48) 0), .ref (ad 52), .int ((V2 48) 1), .ref (ad 53), .int ((V2 48) 2), .int ((V2 48) 3), .int ((V2 48) 4), .int ((V2 48) 5), .int ((V2 48) 6), .int ((V2 48) 7)]) (q := 48) (v := .ref (ad 52)) (N := 13) hx hb hts (fun _ h => List.mem_cons_of_mem _ (List.mem_append_right _ h)) hown hK hP (by decide) (ce_md ad cI cB (V2 48)) rfl 4 (by decide) (hts (.fieldLink RX8 19 "TurnedBoardsModel" "past" "[I") (List.mem_of_getElem? (i := 4) rfl)) rfl rfl dX8_acted_53 ?_
            refine lv_iload_n hx hb dX8_acted_56 rfl (lv_at hl 2 rfl) ?_
            refine lv_aload_n hx hb dX8_acted_57 rfl (lv_at hl 0 rfl) ?_
            refine x_get (ci := 6) (fs := [.ref (ad 49), .ref (ad 50), .ref (ad 51), .int ((V2 48) 0), .ref (ad 52), .int ((V2 48) 1), .ref (ad 53), .int ((V2 48) 2), .int ((V2 48) 3), .int ((V2 48) 4), .int ((V2 48) 5), .int ((V2 48) 6), .int ((V2 48) 7)]) (q := 48) (v := .ref (ad 52)) (N := 13) hx hb hts (fun _ h => List.mem_cons_of_mem _ (List.mem_append_right _ h)) hown hK hP (by decide) (ce_md ad cI cB (V2 48)) rfl 4 (by decide) (hts (.fieldLink RX8 19 "TurnedBoardsModel" "past" "[I") (List.mem_of_getElem? (i := 4) rfl)) rfl rfl dX8_acted_58 ?_
            refine lv_iload_n hx hb dX8_acted_61 rfl (lv_at hl 2 rfl) ?_
            refine lv_bipush (v := 49) hx hb dX8_acted_62 (by decide) ?_
            refine lv_iadd hx hb dX8_acted_64 ?_
            obtain ⟨hn3, hp⟩ := hp
            refine x_iald hx hb hK hP ⟨by decide, fun _ => rfl, by decide⟩ hn3 dX8_acted_65 ?_
            obtain ⟨hn4, hp⟩ := hp
            refine x_iast hx hb hK hP hA hS ⟨by decide, fun _ => rfl, by decide⟩ hn4 dX8_acted_66 (fun H locs hP hS => ?_)
            refine lv_iinc (v := (x2_2 + 1)) (lv' := [(2, .int (x2_2 + 1)), (0, .ref (ad 48)), (1, .int p1)]) hx hb dX8_acted_67 hl (k := 2) rfl (by rfl) (by decide) rfl (fun ls hl => ?_)
            refine lv_goto (tgt := 45) hx hb dX8_acted_70 (by decide) ?_
            exact ih2 (upV V2 52 x2_2.toNatClampNeg (V2 52 (x2_2 + 49).toNatClampNeg)) (x2_2 + 1) hE hp H locs hP hS ls (lv_sub hl [1, 2, 0] rfl)
      exact L2 fu V 0 hE hp _ _ hP hS _ (lv_sub hl [1, 2, 0] rfl)
  · have hE := hE.trans (if_neg c1)
    have hp := pc_bn hp c1
    refine lv_iconst (v := 0) hx hb dX8_acted_7 (by decide) ?_
    refine lv_istore_n (lv' := [(2, .int 0), (0, .ref (ad 48)), (1, .int p1)]) hx hb dX8_acted_8 rfl hl (by decide) rfl (fun ls hl => ?_)
    have L1 : ∀ (w1 : Nat) (V1 : VT) (x2_1 : Int32), f_X8_acted fu V p1 = f_X8_acted_l1 fu p1 w1 V1 x2_1 → p_X8_acted_l1 fu p1 w1 V1 x2_1 → ∀ (H : Heap) (locs : List Loc), wP D cI cB ad V1 H → va_S A s.heap H locs → ∀ (ls : Array Slot), lv_has ls 3 [(0, .ref (ad 48)), (1, .int p1), (2, .int x2_1)] → W p l e (headSpec wsX8_acted ({ frames := 0, cells := 0, slots := 0, locals := 0 })).room s m ([.ref (ad 48), .int p1] : List Value).toArray below meth c H locs 0 0 (MQ below (cWi D cI cB ad A (f_X8_acted fu V p1)) ([.ref (ad 48), .int p1] : List Value).toArray s 0 0 A) (F0 m 9 ls []) := by
      intro w1
      induction w1 with
      | zero => intro V1 x2_1 hE hp; exact hp.elim
      | succ w1 ih1 =>
        intro V1 x2_1 hE hp H locs hP hS ls hl
        rw [f_X8_acted_l1] at hE
        rw [p_X8_acted_l1] at hp
        refine lv_iload_n hx hb dX8_acted_9 rfl (lv_at hl 2 rfl) ?_
        refine lv_bipush (v := 49) hx hb dX8_acted_10 (by decide) ?_
        refine lv_icmp_ge (tgt := 33) hx hb dX8_acted_12 (by decide) (fun c6 => ?_) (fun c6 => ?_)
        · have hE := hE.trans (if_pos c6)
          refine lv_iload_n hx hb dX8_acted_33 rfl (lv_at hl 1 rfl) ?_
          exact W.iret (v := p1) hx hb hr (fun t ht hW => ⟨⟨p1, V1, rfl, ⟨(congrArg Prod.fst hE).symm, (congrArg Prod.snd hE).symm⟩, by dsimp only; rw [ht]; exact hP⟩, hS.F ht⟩) hS.2.2 dX8_acted_34
        · have hE := hE.trans (if_neg c6)
          have hp := pc_bn hp c6
          refine lv_aload_n hx hb dX8_acted_15 rfl (lv_at hl 0 rfl) ?_
          refine x_get (ci := 6) (fs := [.ref (ad 49), .ref (ad 50), .ref (ad 51), .int ((V1 48) 0), .ref (ad 52), .int ((V1 48) 1), .ref (ad 53), .int ((V1 48) 2), .int ((V1 48) 3), .int ((V1 48) 4), .int ((V1 48) 5), .int ((V1 48) 6), .int ((V1 48) 7)]) (q := 48) (v := .ref (ad 49)) (N := 13) hx hb hts (fun _ h => List.mem_cons_of_mem _ (List.mem_append_right _ h)) hown hK hP (by decide) (ce_md ad cI cB (V1 48)) rfl 0 (by decide) (hts (.fieldLink RX8 7 "TurnedBoardsModel" "s" "[I") (List.mem_of_getElem? (i := 1) rfl)) rfl rfl dX8_acted_16 ?_
          refine lv_iload_n hx hb dX8_acted_19 rfl (lv_at hl 2 rfl) ?_
          refine lv_aload_n hx hb dX8_acted_20 rfl (lv_at hl 0 rfl) ?_
          refine x_get (ci := 6) (fs := [.ref (ad 49), .ref (ad 50), .ref (ad 51), .int ((V1 48) 0), .ref (ad 52), .int ((V1 48) 1), .ref (ad 53), .int ((V1 48) 2), .int ((V1 48) 3), .int ((V1 48) 4), .int ((V1 48) 5), .int ((V1 48) 6), .int ((V1 48) 7)]) (q := 48) (v := .ref (ad 50)) (N := 13) hx hb hts (fun _ h => List.mem_cons_of_mem _ (List.mem_append_right _ h)) hown hK hP (by decide) (ce_md ad cI cB (V1 48)) rfl 1 (by decide) (hts (.fieldLink RX8 13 "TurnedBoardsModel" "begun" "[I") (List.mem_of_getElem? (i := 2) rfl)) rfl rfl dX8_acted_21 ?_
          refine lv_iload_n hx hb dX8_acted_24 rfl (lv_at hl 2 rfl) ?_
          obtain ⟨hn7, hp⟩ := hp
          refine x_iald hx hb hK hP ⟨by decide, fun _ => rfl, by decide⟩ hn7 dX8_acted_25 ?_
          obtain ⟨hn8, hp⟩ := hp
          refine x_iast hx hb hK hP hA hS ⟨by decide, fun _ => rfl, by decide⟩ hn8 dX8_acted_26 (fun H locs hP hS => ?_)
          refine lv_iinc (v := (x2_1 + 1)) (lv' := [(2, .int (x2_1 + 1)), (0, .ref (ad 48)), (1, .int p1)]) hx hb dX8_acted_27 hl (k := 2) rfl (by rfl) (by decide) rfl (fun ls hl => ?_)
          refine lv_goto (tgt := 9) hx hb dX8_acted_30 (by decide) ?_
          exact ih1 (upV V1 49 x2_1.toNatClampNeg (V1 50 x2_1.toNatClampNeg)) (x2_1 + 1) hE hp H locs hP hS ls (lv_sub hl [1, 2, 0] rfl)
    exact L1 fu V 0 hE hp _ _ hP hS _ (lv_sub hl [1, 2, 0] rfl)
def f_X8_dark_l1 (fu : Nat) (V : VT) (p1 : Int32) : Nat → Int32 → Int32 → Int32
  | 0, x1_1, x2_1 => 0
  | w1 + 1, x1_1, x2_1 => (if x2_1 = 0 then x1_1 else (f_X8_dark_l1 fu V p1 w1 (x1_1 + 1) (x2_1 &&& (x2_1 - 1))))
def p_X8_dark_l1 (fu : Nat) (V : VT) (p1 : Int32) : Nat → Int32 → Int32 → Prop
  | 0, _, _ => False
  | w1 + 1, x1_1, x2_1 => ((x2_1 = 0 → True) ∧ (¬ (x2_1 = 0) → (p_X8_dark_l1 fu V p1 w1 (x1_1 + 1) (x2_1 &&& (x2_1 - 1)))))
def f_X8_dark (fu : Nat) (V : VT) (p1 : Int32) : Int32 := (f_X8_dark_l1 fu V p1 fu 0 p1)
def p_X8_dark (fu : Nat) (V : VT) (p1 : Int32) : Prop := (p_X8_dark_l1 fu V p1 fu 0 p1)
set_option maxHeartbeats 4000000 in
set_option maxRecDepth 100000 in
theorem m_X8_dark (l : Launch) (D : va_G) (cI cB : ClassId) (ad : Nat → Nat) (fu : Nat) (V : VT) (p1 : Int32)  (hp : p_X8_dark fu V p1) : Met l yX8_dark wsX8_dark ({ frames := 0, cells := 0, slots := 0, locals := 0 }) (cP D cI cB ad V [.int p1]) (cR (f_X8_dark fu V p1)) 0 0 (fun _ => False) := by
  refine Met.ofW (cc := cX8_dark) (maxL := 3) (ret := (some .int)) (by decide +kernel) rfl ?_
  intro p e s m args below meth c s₁ B hml hv
  obtain ⟨rfl, hP, hKN⟩ := hv
  have hK := hKN.1
  have hx := B.exec
  have hb := B.bytes
  have hr := B.returns
  have hts := atoms_spec (ws := wsX8_dark) B.pre
  have hown : s.vm.findClass RX8 = some m.cls := findClass_of_methodNamed B.named
  have hlocks := B.notSynchronized
  have hS : va_S (fun _ => False) s.heap s.heap [] := va_S.rf
  have hl := lv_entry ([.int p1]) (n := 3) (Nat.le_of_ble_eq_true rfl)
  rw [lg_entry_eq]
  generalize (lg_sl ([.int p1]) ++ List.replicate (3 - (lg_sl ([.int p1])).length) Slot.unset).toArray = ls at hl ⊢
  have hl : lv_has ls 3 [(0, .int p1)] := hl
  have hE : f_X8_dark fu V p1 = (f_X8_dark_l1 fu V p1 fu 0 p1) := rfl
  refine lv_iconst (v := 0) hx hb dX8_dark_0 (by decide) ?_
  refine lv_istore_n (lv' := [(1, .int 0), (0, .int p1)]) hx hb dX8_dark_1 rfl hl (by decide) rfl (fun ls hl => ?_)
  refine lv_iload_n hx hb dX8_dark_2 rfl (lv_at hl 1 rfl) ?_
  refine lv_istore_n (lv' := [(2, .int p1), (1, .int 0), (0, .int p1)]) hx hb dX8_dark_3 rfl hl (by decide) rfl (fun ls hl => ?_)
  have L1 : ∀ (w1 : Nat) (x1_1 : Int32) (x2_1 : Int32), f_X8_dark fu V p1 = f_X8_dark_l1 fu V p1 w1 x1_1 x2_1 → p_X8_dark_l1 fu V p1 w1 x1_1 x2_1 → ∀ (H : Heap) (locs : List Loc), wP D cI cB ad V H → va_S (fun _ => False) s.heap H locs → ∀ (ls : Array Slot), lv_has ls 3 [(1, .int x1_1), (2, .int x2_1)] → W p l e (headSpec wsX8_dark ({ frames := 0, cells := 0, slots := 0, locals := 0 })).room s m ([.int p1] : List Value).toArray below meth c H locs 0 0 (MQ below (cR (f_X8_dark fu V p1)) ([.int p1] : List Value).toArray s 0 0 (fun _ => False)) (F0 m 4 ls []) := by
    intro w1
    induction w1 with
    | zero => intro x1_1 x2_1 hE hp; exact hp.elim
    | succ w1 ih1 =>
      intro x1_1 x2_1 hE hp H locs hP hS ls hl
      rw [f_X8_dark_l1] at hE
      rw [p_X8_dark_l1] at hp
      refine lv_iload_n hx hb dX8_dark_4 rfl (lv_at hl 1 rfl) ?_
      refine lv_if_eq (tgt := 20) hx hb dX8_dark_5 (by decide) (fun c1 => ?_) (fun c1 => ?_)
      · have hE := hE.trans (if_pos c1)
        refine lv_iload_n hx hb dX8_dark_20 rfl (lv_at hl 0 rfl) ?_
        exact W.iret (v := x1_1) hx hb hr (fun t ht hW => ⟨⟨x1_1, (), rfl, hE.symm, trivial⟩, hS.F ht⟩) hS.2.2 dX8_dark_21
      · have hE := hE.trans (if_neg c1)
        have hp := pc_bn hp c1
        refine lv_iinc (v := (x1_1 + 1)) (lv' := [(1, .int (x1_1 + 1)), (2, .int x2_1)]) hx hb dX8_dark_8 hl (k := 0) rfl (by rfl) (by decide) rfl (fun ls hl => ?_)
        refine lv_iload_n hx hb dX8_dark_11 rfl (lv_at hl 1 rfl) ?_
        refine lv_iload_n hx hb dX8_dark_12 rfl (lv_at hl 1 rfl) ?_
        refine lv_iconst (v := 1) hx hb dX8_dark_13 (by decide) ?_
        refine lv_isub hx hb dX8_dark_14 ?_
        refine lv_iand hx hb dX8_dark_15 ?_
        refine lv_istore_n (lv' := [(2, .int (x2_1 &&& (x2_1 - 1))), (1, .int (x1_1 + 1))]) hx hb dX8_dark_16 rfl hl (by decide) rfl (fun ls hl => ?_)
        refine lv_goto (tgt := 4) hx hb dX8_dark_17 (by decide) ?_
        exact ih1 (x1_1 + 1) (x2_1 &&& (x2_1 - 1)) hE hp H locs hP hS ls (lv_sub hl [1, 0] rfl)
  exact L1 fu 0 p1 hE hp _ _ hP hS _ (lv_sub hl [1, 0] rfl)
def f_X8_turned_l1 (fu : Nat) (V : VT) (p1 : Int32) : Nat → Int32 → Int32 → Int32
  | 0, x1_1, x2_1 => 0
  | w1 + 1, x1_1, x2_1 => (if 15 ≤ x2_1 then x1_1 else (f_X8_turned_l1 fu V p1 w1 (x1_1 ||| (((p1 >>> (x2_1 &&& 31)) &&& 1) <<< ((14 - x2_1) &&& 31))) (x2_1 + 1)))
def p_X8_turned_l1 (fu : Nat) (V : VT) (p1 : Int32) : Nat → Int32 → Int32 → Prop
  | 0, _, _ => False
  | w1 + 1, x1_1, x2_1 => ((15 ≤ x2_1 → True) ∧ (¬ (15 ≤ x2_1) → (p_X8_turned_l1 fu V p1 w1 (x1_1 ||| (((p1 >>> (x2_1 &&& 31)) &&& 1) <<< ((14 - x2_1) &&& 31))) (x2_1 + 1))))
def f_X8_turned (fu : Nat) (V : VT) (p1 : Int32) : Int32 := (f_X8_turned_l1 fu V p1 fu 0 0)
def p_X8_turned (fu : Nat) (V : VT) (p1 : Int32) : Prop := (p_X8_turned_l1 fu V p1 fu 0 0)
set_option maxHeartbeats 4000000 in
set_option maxRecDepth 100000 in
theorem m_X8_turned (l : Launch) (D : va_G) (cI cB : ClassId) (ad : Nat → Nat) (fu : Nat) (V : VT) (p1 : Int32)  (hp : p_X8_turned fu V p1) : Met l yX8_turned wsX8_turned ({ frames := 0, cells := 0, slots := 0, locals := 0 }) (cP D cI cB ad V [.int p1]) (cR (f_X8_turned fu V p1)) 0 0 (fun _ => False) := by
  refine Met.ofW (cc := cX8_turned) (maxL := 3) (ret := (some .int)) (by decide +kernel) rfl ?_
  intro p e s m args below meth c s₁ B hml hv
  obtain ⟨rfl, hP, hKN⟩ := hv
  have hK := hKN.1
  have hx := B.exec
  have hb := B.bytes
  have hr := B.returns
  have hts := atoms_spec (ws := wsX8_turned) B.pre
  have hown : s.vm.findClass RX8 = some m.cls := findClass_of_methodNamed B.named
  have hlocks := B.notSynchronized
  have hS : va_S (fun _ => False) s.heap s.heap [] := va_S.rf
  have hl := lv_entry ([.int p1]) (n := 3) (Nat.le_of_ble_eq_true rfl)
  rw [lg_entry_eq]
  generalize (lg_sl ([.int p1]) ++ List.replicate (3 - (lg_sl ([.int p1])).length) Slot.unset).toArray = ls at hl ⊢
  have hl : lv_has ls 3 [(0, .int p1)] := hl
  have hE : f_X8_turned fu V p1 = (f_X8_turned_l1 fu V p1 fu 0 0) := rfl
  refine lv_iconst (v := 0) hx hb dX8_turned_0 (by decide) ?_
  refine lv_istore_n (lv' := [(1, .int 0), (0, .int p1)]) hx hb dX8_turned_1 rfl hl (by decide) rfl (fun ls hl => ?_)
  refine lv_iconst (v := 0) hx hb dX8_turned_2 (by decide) ?_
  refine lv_istore_n (lv' := [(2, .int 0), (1, .int 0), (0, .int p1)]) hx hb dX8_turned_3 rfl hl (by decide) rfl (fun ls hl => ?_)
  have L1 : ∀ (w1 : Nat) (x1_1 : Int32) (x2_1 : Int32), f_X8_turned fu V p1 = f_X8_turned_l1 fu V p1 w1 x1_1 x2_1 → p_X8_turned_l1 fu V p1 w1 x1_1 x2_1 → ∀ (H : Heap) (locs : List Loc), wP D cI cB ad V H → va_S (fun _ => False) s.heap H locs → ∀ (ls : Array Slot), lv_has ls 3 [(0, .int p1), (1, .int x1_1), (2, .int x2_1)] → W p l e (headSpec wsX8_turned ({ frames := 0, cells := 0, slots := 0, locals := 0 })).room s m ([.int p1] : List Value).toArray below meth c H locs 0 0 (MQ below (cR (f_X8_turned fu V p1)) ([.int p1] : List Value).toArray s 0 0 (fun _ => False)) (F0 m 4 ls []) := by
    intro w1
    induction w1 with
    | zero => intro x1_1 x2_1 hE hp; exact hp.elim
    | succ w1 ih1 =>
      intro x1_1 x2_1 hE hp H locs hP hS ls hl
      rw [f_X8_turned_l1] at hE
      rw [p_X8_turned_l1] at hp
      refine lv_iload_n hx hb dX8_turned_4 rfl (lv_at hl 2 rfl) ?_
      refine lv_bipush (v := 15) hx hb dX8_turned_5 (by decide) ?_
      refine lv_icmp_ge (tgt := 29) hx hb dX8_turned_7 (by decide) (fun c1 => ?_) (fun c1 => ?_)
      · have hE := hE.trans (if_pos c1)
        refine lv_iload_n hx hb dX8_turned_29 rfl (lv_at hl 1 rfl) ?_
        exact W.iret (v := x1_1) hx hb hr (fun t ht hW => ⟨⟨x1_1, (), rfl, hE.symm, trivial⟩, hS.F ht⟩) hS.2.2 dX8_turned_30
      · have hE := hE.trans (if_neg c1)
        have hp := pc_bn hp c1
        refine lv_iload_n hx hb dX8_turned_10 rfl (lv_at hl 1 rfl) ?_
        refine lv_iload_n hx hb dX8_turned_11 rfl (lv_at hl 0 rfl) ?_
        refine lv_iload_n hx hb dX8_turned_12 rfl (lv_at hl 2 rfl) ?_
        refine lv_ishr hx hb dX8_turned_13 ?_
        refine lv_iconst (v := 1) hx hb dX8_turned_14 (by decide) ?_
        refine lv_iand hx hb dX8_turned_15 ?_
        refine lv_bipush (v := 14) hx hb dX8_turned_16 (by decide) ?_
        refine lv_iload_n hx hb dX8_turned_18 rfl (lv_at hl 2 rfl) ?_
        refine lv_isub hx hb dX8_turned_19 ?_
        refine lv_ishl hx hb dX8_turned_20 ?_
        refine lv_ior hx hb dX8_turned_21 ?_
        refine lv_istore_n (lv' := [(1, .int (x1_1 ||| (((p1 >>> (x2_1 &&& 31)) &&& 1) <<< ((14 - x2_1) &&& 31)))), (0, .int p1), (2, .int x2_1)]) hx hb dX8_turned_22 rfl hl (by decide) rfl (fun ls hl => ?_)
        refine lv_iinc (v := (x2_1 + 1)) (lv' := [(2, .int (x2_1 + 1)), (1, .int (x1_1 ||| (((p1 >>> (x2_1 &&& 31)) &&& 1) <<< ((14 - x2_1) &&& 31)))), (0, .int p1)]) hx hb dX8_turned_23 hl (k := 2) rfl (by rfl) (by decide) rfl (fun ls hl => ?_)
        refine lv_goto (tgt := 4) hx hb dX8_turned_26 (by decide) ?_
        exact ih1 (x1_1 ||| (((p1 >>> (x2_1 &&& 31)) &&& 1) <<< ((14 - x2_1) &&& 31))) (x2_1 + 1) hE hp H locs hP hS ls (lv_sub hl [2, 1, 0] rfl)
  exact L1 fu 0 0 hE hp _ _ hP hS _ (lv_sub hl [2, 1, 0] rfl)
def f_X8_drawn (V : VT) (p1 : Int32) : Int32 := (V 49 (7 + p1).toNatClampNeg)
def p_X8_drawn (V : VT) (p1 : Int32) : Prop := (vp_in (7 + p1) 49)
set_option maxHeartbeats 4000000 in
set_option maxRecDepth 100000 in
theorem m_X8_drawn (l : Launch) (D : va_G) (cI cB : ClassId) (ad : Nat → Nat) (V : VT) (p1 : Int32)  (hp : p_X8_drawn V p1) : Met l yX8_drawn wsX8_drawn ({ frames := 0, cells := 0, slots := 0, locals := 0 }) (cP D cI cB ad V [.ref (ad 48), .int p1]) (cR (f_X8_drawn V p1)) 0 0 (fun _ => False) := by
  refine Met.ofW (cc := cX8_drawn) (maxL := 2) (ret := (some .int)) (by decide +kernel) rfl ?_
  intro p e s m args below meth c s₁ B hml hv
  obtain ⟨rfl, hP, hKN⟩ := hv
  have hK := hKN.1
  have hx := B.exec
  have hb := B.bytes
  have hr := B.returns
  have hts := atoms_spec (ws := wsX8_drawn) B.pre
  have hown : s.vm.findClass RX8 = some m.cls := findClass_of_methodNamed B.named
  have hlocks := B.notSynchronized
  have hS : va_S (fun _ => False) s.heap s.heap [] := va_S.rf
  have hl := lv_entry ([.ref (ad 48), .int p1]) (n := 2) (Nat.le_of_ble_eq_true rfl)
  rw [lg_entry_eq]
  generalize (lg_sl ([.ref (ad 48), .int p1]) ++ List.replicate (2 - (lg_sl ([.ref (ad 48), .int p1])).length) Slot.unset).toArray = ls at hl ⊢
  have hl : lv_has ls 2 [(0, .ref (ad 48)), (1, .int p1)] := hl
  have hE : f_X8_drawn V p1 = (V 49 (7 + p1).toNatClampNeg) := rfl
  refine lv_aload_n hx hb dX8_drawn_0 rfl (lv_at hl 0 rfl) ?_
  refine x_get (ci := 6) (fs := [.ref (ad 49), .ref (ad 50), .ref (ad 51), .int ((V 48) 0), .ref (ad 52), .int ((V 48) 1), .ref (ad 53), .int ((V 48) 2), .int ((V 48) 3), .int ((V 48) 4), .int ((V 48) 5), .int ((V 48) 6), .int ((V 48) 7)]) (q := 48) (v := .ref (ad 49)) (N := 13) hx hb hts (fun _ h => List.mem_cons_of_mem _ (List.mem_append_right _ h)) hown hK hP (by decide) (ce_md ad cI cB (V 48)) rfl 0 (by decide) (hts (.fieldLink RX8 7 "TurnedBoardsModel" "s" "[I") (List.mem_of_getElem? (i := 1) rfl)) rfl rfl dX8_drawn_1 ?_
  refine lv_bipush (v := 7) hx hb dX8_drawn_4 (by decide) ?_
  refine lv_iload_n hx hb dX8_drawn_6 rfl (lv_at hl 1 rfl) ?_
  refine lv_iadd hx hb dX8_drawn_7 ?_
  have hn1 := hp
  refine x_iald hx hb hK hP ⟨by decide, fun _ => rfl, by decide⟩ hn1 dX8_drawn_8 ?_
  exact W.iret (v := (V 49 (7 + p1).toNatClampNeg)) hx hb hr (fun t ht hW => ⟨⟨(V 49 (7 + p1).toNatClampNeg), (), rfl, hE.symm, trivial⟩, hS.F ht⟩) hS.2.2 dX8_drawn_9
def f_X8_readAs_l1 (fu : Nat) (V : VT) (p1 : Int32) : Nat → Int32 → Int32 → Int32 → Int32
  | 0, x2_1, x3_1, x4_1 => 0
  | w1 + 1, x2_1, x3_1, x4_1 => (if 10 ≤ x4_1 then x2_1 else (if 0 ≤ (f_X8_drawn V x4_1) then (if x3_1 ≤ (f_X8_dark fu V ((f_X8_drawn V x4_1) ^^^ p1)) then (f_X8_readAs_l1 fu V p1 w1 x2_1 x3_1 (x4_1 + 1)) else (f_X8_readAs_l1 fu V p1 w1 x4_1 (f_X8_dark fu V ((f_X8_drawn V x4_1) ^^^ p1)) (x4_1 + 1))) else (if x3_1 ≤ 16 then (f_X8_readAs_l1 fu V p1 w1 x2_1 x3_1 (x4_1 + 1)) else (f_X8_readAs_l1 fu V p1 w1 x4_1 16 (x4_1 + 1)))))
def p_X8_readAs_l1 (fu : Nat) (V : VT) (p1 : Int32) : Nat → Int32 → Int32 → Int32 → Prop
  | 0, _, _, _ => False
  | w1 + 1, x2_1, x3_1, x4_1 => ((10 ≤ x4_1 → True) ∧ (¬ (10 ≤ x4_1) → ((p_X8_drawn V x4_1) ∧ ((0 ≤ (f_X8_drawn V x4_1) → ((p_X8_drawn V x4_1) ∧ ((p_X8_dark fu V ((f_X8_drawn V x4_1) ^^^ p1)) ∧ ((x3_1 ≤ (f_X8_dark fu V ((f_X8_drawn V x4_1) ^^^ p1)) → (p_X8_readAs_l1 fu V p1 w1 x2_1 x3_1 (x4_1 + 1))) ∧ (¬ (x3_1 ≤ (f_X8_dark fu V ((f_X8_drawn V x4_1) ^^^ p1))) → (p_X8_readAs_l1 fu V p1 w1 x4_1 (f_X8_dark fu V ((f_X8_drawn V x4_1) ^^^ p1)) (x4_1 + 1))))))) ∧ (¬ (0 ≤ (f_X8_drawn V x4_1)) → ((x3_1 ≤ 16 → (p_X8_readAs_l1 fu V p1 w1 x2_1 x3_1 (x4_1 + 1))) ∧ (¬ (x3_1 ≤ 16) → (p_X8_readAs_l1 fu V p1 w1 x4_1 16 (x4_1 + 1)))))))))
def f_X8_readAs (fu : Nat) (V : VT) (p1 : Int32) : Int32 := (f_X8_readAs_l1 fu V p1 fu (-1) 16 0)
def p_X8_readAs (fu : Nat) (V : VT) (p1 : Int32) : Prop := (p_X8_readAs_l1 fu V p1 fu (-1) 16 0)
set_option maxHeartbeats 4000000 in
set_option maxRecDepth 100000 in
theorem m_X8_readAs (l : Launch) (D : va_G) (cI cB : ClassId) (ad : Nat → Nat) (fu : Nat) (V : VT) (p1 : Int32)  (hp : p_X8_readAs fu V p1) : Met l yX8_readAs wsX8_readAs ({ frames := 1, cells := 0, slots := 0, locals := 22 }) (cP D cI cB ad V [.ref (ad 48), .int p1]) (cR (f_X8_readAs fu V p1)) 0 0 (fun _ => False) := by
  refine Met.ofW (cc := cX8_readAs) (maxL := 6) (ret := (some .int)) (by decide +kernel) rfl ?_
  intro p e s m args below meth c s₁ B hml hv
  obtain ⟨rfl, hP, hKN⟩ := hv
  have hK := hKN.1
  have hx := B.exec
  have hb := B.bytes
  have hr := B.returns
  have hts := atoms_spec (ws := wsX8_readAs) B.pre
  have hown : s.vm.findClass RX8 = some m.cls := findClass_of_methodNamed B.named
  have hlocks := B.notSynchronized
  have hS : va_S (fun _ => False) s.heap s.heap [] := va_S.rf
  have hl := lv_entry ([.ref (ad 48), .int p1]) (n := 6) (Nat.le_of_ble_eq_true rfl)
  rw [lg_entry_eq]
  generalize (lg_sl ([.ref (ad 48), .int p1]) ++ List.replicate (6 - (lg_sl ([.ref (ad 48), .int p1])).length) Slot.unset).toArray = ls at hl ⊢
  have hl : lv_has ls 6 [(0, .ref (ad 48)), (1, .int p1)] := hl
  have hE : f_X8_readAs fu V p1 = (f_X8_readAs_l1 fu V p1 fu (-1) 16 0) := rfl
  refine lv_iconst (v := (-1)) hx hb dX8_readAs_0 (by decide) ?_
  refine lv_istore_n (lv' := [(2, .int (-1)), (0, .ref (ad 48)), (1, .int p1)]) hx hb dX8_readAs_1 rfl hl (by decide) rfl (fun ls hl => ?_)
  refine lv_bipush (v := 16) hx hb dX8_readAs_2 (by decide) ?_
  refine lv_istore_n (lv' := [(3, .int 16), (2, .int (-1)), (0, .ref (ad 48)), (1, .int p1)]) hx hb dX8_readAs_4 rfl hl (by decide) rfl (fun ls hl => ?_)
  refine lv_iconst (v := 0) hx hb dX8_readAs_5 (by decide) ?_
  refine lv_istore (lv' := [(4, .int 0), (3, .int 16), (2, .int (-1)), (0, .ref (ad 48)), (1, .int p1)]) hx hb dX8_readAs_6 hl (by decide) rfl (fun ls hl => ?_)
  have L1 : ∀ (w1 : Nat) (x2_1 : Int32) (x3_1 : Int32) (x4_1 : Int32), f_X8_readAs fu V p1 = f_X8_readAs_l1 fu V p1 w1 x2_1 x3_1 x4_1 → p_X8_readAs_l1 fu V p1 w1 x2_1 x3_1 x4_1 → ∀ (H : Heap) (locs : List Loc), wP D cI cB ad V H → va_S (fun _ => False) s.heap H locs → ∀ (ls : Array Slot), lv_has ls 6 [(0, .ref (ad 48)), (1, .int p1), (2, .int x2_1), (3, .int x3_1), (4, .int x4_1)] → W p l e (headSpec wsX8_readAs ({ frames := 1, cells := 0, slots := 0, locals := 22 })).room s m ([.ref (ad 48), .int p1] : List Value).toArray below meth c H locs 0 0 (MQ below (cR (f_X8_readAs fu V p1)) ([.ref (ad 48), .int p1] : List Value).toArray s 0 0 (fun _ => False)) (F0 m 8 ls []) := by
    intro w1
    induction w1 with
    | zero => intro x2_1 x3_1 x4_1 hE hp; exact hp.elim
    | succ w1 ih1 =>
      intro x2_1 x3_1 x4_1 hE hp H locs hP hS ls hl
      rw [f_X8_readAs_l1] at hE
      rw [p_X8_readAs_l1] at hp
      refine lv_iload hx hb dX8_readAs_8 (lv_at hl 4 rfl) ?_
      refine lv_bipush (v := 10) hx hb dX8_readAs_10 (by decide) ?_
      refine lv_icmp_ge (tgt := 74) hx hb dX8_readAs_12 (by decide) (fun c1 => ?_) (fun c1 => ?_)
      · have hE := hE.trans (if_pos c1)
        refine lv_iload_n hx hb dX8_readAs_74 rfl (lv_at hl 2 rfl) ?_
        exact W.iret (v := x2_1) hx hb hr (fun t ht hW => ⟨⟨x2_1, (), rfl, hE.symm, trivial⟩, hS.F ht⟩) hS.2.2 dX8_readAs_75
      · have hE := hE.trans (if_neg c1)
        have hp := pc_bn hp c1
        refine lv_aload_n hx hb dX8_readAs_15 rfl (lv_at hl 0 rfl) ?_
        refine lv_iload hx hb dX8_readAs_16 (lv_at hl 4 rfl) ?_
        obtain ⟨hn1, hp⟩ := hp
        refine k_VR (As := [.int x4_1]) (rest := []) (q := 48) ⟨hx, hb, hml, hown, hts⟩ hKN hP hS (m_X8_drawn l D cI cB ad V x4_1 hn1) (cwV 1 hts gX8_readAs_X8_drawn rfl rfl rfl (by decide +kernel) ⟨(Nat.le_of_ble_eq_true rfl), (Nat.le_of_ble_eq_true rfl)⟩) (c_preV hP hKN (q := 48) (ci := 6) (fs := [.ref (ad 49), .ref (ad 50), .ref (ad 51), .int ((V 48) 0), .ref (ad 52), .int ((V 48) 1), .ref (ad 53), .int ((V 48) 2), .int ((V 48) 3), .int ((V 48) 4), .int ((V 48) 5), .int ((V 48) 6), .int ((V 48) 7)]) (by decide) (ce_md ad cI cB (V 48)) rfl rfl) rfl hl.1 rfl (Nat.le_of_ble_eq_true rfl) dX8_readAs_18 ⟨Nat.zero_le _, Nat.zero_le _⟩ (fun H locs hP hS => ?_)
        refine lv_if_ge (tgt := 29) hx hb dX8_readAs_21 (by decide) (fun c2 => ?_) (fun c2 => ?_)
        · have hE := hE.trans (if_pos c2)
          have hp := pc_br hp c2
          refine lv_aload_n hx hb dX8_readAs_29 rfl (lv_at hl 0 rfl) ?_
          refine lv_iload hx hb dX8_readAs_30 (lv_at hl 4 rfl) ?_
          obtain ⟨hn2, hp⟩ := hp
          refine k_VR (As := [.int x4_1]) (rest := []) (q := 48) ⟨hx, hb, hml, hown, hts⟩ hKN hP hS (m_X8_drawn l D cI cB ad V x4_1 hn2) (cwV 1 hts gX8_readAs_X8_drawn rfl rfl rfl (by decide +kernel) ⟨(Nat.le_of_ble_eq_true rfl), (Nat.le_of_ble_eq_true rfl)⟩) (c_preV hP hKN (q := 48) (ci := 6) (fs := [.ref (ad 49), .ref (ad 50), .ref (ad 51), .int ((V 48) 0), .ref (ad 52), .int ((V 48) 1), .ref (ad 53), .int ((V 48) 2), .int ((V 48) 3), .int ((V 48) 4), .int ((V 48) 5), .int ((V 48) 6), .int ((V 48) 7)]) (by decide) (ce_md ad cI cB (V 48)) rfl rfl) rfl hl.1 rfl (Nat.le_of_ble_eq_true rfl) dX8_readAs_32 ⟨Nat.zero_le _, Nat.zero_le _⟩ (fun H locs hP hS => ?_)
          refine lv_iload_n hx hb dX8_readAs_35 rfl (lv_at hl 1 rfl) ?_
          refine lv_ixor hx hb dX8_readAs_36 ?_
          obtain ⟨hn3, hp⟩ := hp
          refine k_SR (As := [.int ((f_X8_drawn V x4_1) ^^^ p1)]) (rest := []) ⟨hx, hb, hml, hown, hts⟩ hKN hP hS (m_X8_dark l D cI cB ad fu V ((f_X8_drawn V x4_1) ^^^ p1) hn3) (va_cwS 1 hts gX8_readAs_X8_dark rfl rfl rfl (by decide +kernel) ⟨(Nat.le_of_ble_eq_true rfl), (Nat.le_of_ble_eq_true rfl)⟩) rfl hl.1 rfl (Nat.le_of_ble_eq_true rfl) dX8_readAs_37 ⟨Nat.zero_le _, Nat.zero_le _⟩ (fun H locs hP hS => ?_)
          refine lv_istore (lv' := [(5, .int (f_X8_dark fu V ((f_X8_drawn V x4_1) ^^^ p1))), (0, .ref (ad 48)), (1, .int p1), (2, .int x2_1), (3, .int x3_1), (4, .int x4_1)]) hx hb dX8_readAs_40 hl (by decide) rfl (fun ls hl => ?_)
          refine lv_iload hx hb dX8_readAs_42 (lv_at hl 0 rfl) ?_
          refine lv_iload_n hx hb dX8_readAs_44 rfl (lv_at hl 4 rfl) ?_
          refine lv_icmp_ge (tgt := 53) hx hb dX8_readAs_45 (by decide) (fun c3 => ?_) (fun c3 => ?_)
          · have hE := hE.trans (if_pos c3)
            have hp := pc_br hp c3
            refine lv_iload_n hx hb dX8_readAs_53 rfl (lv_at hl 3 rfl) ?_
            refine lv_istore_n (lv' := [(2, .int x2_1), (5, .int (f_X8_dark fu V ((f_X8_drawn V x4_1) ^^^ p1))), (0, .ref (ad 48)), (1, .int p1), (3, .int x3_1), (4, .int x4_1)]) hx hb dX8_readAs_54 rfl hl (by decide) rfl (fun ls hl => ?_)
            refine lv_iload hx hb dX8_readAs_55 (lv_at hl 1 rfl) ?_
            refine lv_iload_n hx hb dX8_readAs_57 rfl (lv_at hl 4 rfl) ?_
            refine lv_icmp_ge (tgt := 66) hx hb dX8_readAs_58 (by decide) (fun _ => ?_) (fun hc => absurd c3 hc)
            refine lv_iload_n hx hb dX8_readAs_66 rfl (lv_at hl 4 rfl) ?_
            refine lv_istore_n (lv' := [(3, .int x3_1), (2, .int x2_1), (5, .int (f_X8_dark fu V ((f_X8_drawn V x4_1) ^^^ p1))), (0, .ref (ad 48)), (1, .int p1), (4, .int x4_1)]) hx hb dX8_readAs_67 rfl hl (by decide) rfl (fun ls hl => ?_)
            refine lv_iinc (v := (x4_1 + 1)) (lv' := [(4, .int (x4_1 + 1)), (3, .int x3_1), (2, .int x2_1), (5, .int (f_X8_dark fu V ((f_X8_drawn V x4_1) ^^^ p1))), (0, .ref (ad 48)), (1, .int p1)]) hx hb dX8_readAs_68 hl (k := 5) rfl (by rfl) (by decide) rfl (fun ls hl => ?_)
            refine lv_goto (tgt := 8) hx hb dX8_readAs_71 (by decide) ?_
            exact ih1 x2_1 x3_1 (x4_1 + 1) hE hp H locs hP hS ls (lv_sub hl [4, 5, 2, 1, 0] rfl)
          · have hE := hE.trans (if_neg c3)
            have hp := pc_bn hp c3
            refine lv_iload hx hb dX8_readAs_48 (lv_at hl 5 rfl) ?_
            refine lv_goto (tgt := 54) hx hb dX8_readAs_50 (by decide) ?_
            refine lv_istore_n (lv' := [(2, .int x4_1), (5, .int (f_X8_dark fu V ((f_X8_drawn V x4_1) ^^^ p1))), (0, .ref (ad 48)), (1, .int p1), (3, .int x3_1), (4, .int x4_1)]) hx hb dX8_readAs_54 rfl hl (by decide) rfl (fun ls hl => ?_)
            refine lv_iload hx hb dX8_readAs_55 (lv_at hl 1 rfl) ?_
            refine lv_iload_n hx hb dX8_readAs_57 rfl (lv_at hl 4 rfl) ?_
            refine lv_icmp_ge (tgt := 66) hx hb dX8_readAs_58 (by decide) (fun hc => absurd hc c3) (fun _ => ?_)
            refine lv_iload hx hb dX8_readAs_61 (lv_at hl 1 rfl) ?_
            refine lv_goto (tgt := 67) hx hb dX8_readAs_63 (by decide) ?_
            refine lv_istore_n (lv' := [(3, .int (f_X8_dark fu V ((f_X8_drawn V x4_1) ^^^ p1))), (2, .int x4_1), (5, .int (f_X8_dark fu V ((f_X8_drawn V x4_1) ^^^ p1))), (0, .ref (ad 48)), (1, .int p1), (4, .int x4_1)]) hx hb dX8_readAs_67 rfl hl (by decide) rfl (fun ls hl => ?_)
            refine lv_iinc (v := (x4_1 + 1)) (lv' := [(4, .int (x4_1 + 1)), (3, .int (f_X8_dark fu V ((f_X8_drawn V x4_1) ^^^ p1))), (2, .int x4_1), (5, .int (f_X8_dark fu V ((f_X8_drawn V x4_1) ^^^ p1))), (0, .ref (ad 48)), (1, .int p1)]) hx hb dX8_readAs_68 hl (k := 5) rfl (by rfl) (by decide) rfl (fun ls hl => ?_)
            refine lv_goto (tgt := 8) hx hb dX8_readAs_71 (by decide) ?_
            exact ih1 x4_1 (f_X8_dark fu V ((f_X8_drawn V x4_1) ^^^ p1)) (x4_1 + 1) hE hp H locs hP hS ls (lv_sub hl [4, 5, 2, 1, 0] rfl)
        · have hE := hE.trans (if_neg c2)
          have hp := pc_bn hp c2
          refine lv_bipush (v := 16) hx hb dX8_readAs_24 (by decide) ?_
          refine lv_goto (tgt := 40) hx hb dX8_readAs_26 (by decide) ?_
          refine lv_istore (lv' := [(5, .int 16), (0, .ref (ad 48)), (1, .int p1), (2, .int x2_1), (3, .int x3_1), (4, .int x4_1)]) hx hb dX8_readAs_40 hl (by decide) rfl (fun ls hl => ?_)
          refine lv_iload hx hb dX8_readAs_42 (lv_at hl 0 rfl) ?_
          refine lv_iload_n hx hb dX8_readAs_44 rfl (lv_at hl 4 rfl) ?_
          refine lv_icmp_ge (tgt := 53) hx hb dX8_readAs_45 (by decide) (fun c4 => ?_) (fun c4 => ?_)
          · have hE := hE.trans (if_pos c4)
            have hp := pc_br hp c4
            refine lv_iload_n hx hb dX8_readAs_53 rfl (lv_at hl 3 rfl) ?_
            refine lv_istore_n (lv' := [(2, .int x2_1), (5, .int 16), (0, .ref (ad 48)), (1, .int p1), (3, .int x3_1), (4, .int x4_1)]) hx hb dX8_readAs_54 rfl hl (by decide) rfl (fun ls hl => ?_)
            refine lv_iload hx hb dX8_readAs_55 (lv_at hl 1 rfl) ?_
            refine lv_iload_n hx hb dX8_readAs_57 rfl (lv_at hl 4 rfl) ?_
            refine lv_icmp_ge (tgt := 66) hx hb dX8_readAs_58 (by decide) (fun _ => ?_) (fun hc => absurd c4 hc)
            refine lv_iload_n hx hb dX8_readAs_66 rfl (lv_at hl 4 rfl) ?_
            refine lv_istore_n (lv' := [(3, .int x3_1), (2, .int x2_1), (5, .int 16), (0, .ref (ad 48)), (1, .int p1), (4, .int x4_1)]) hx hb dX8_readAs_67 rfl hl (by decide) rfl (fun ls hl => ?_)
            refine lv_iinc (v := (x4_1 + 1)) (lv' := [(4, .int (x4_1 + 1)), (3, .int x3_1), (2, .int x2_1), (5, .int 16), (0, .ref (ad 48)), (1, .int p1)]) hx hb dX8_readAs_68 hl (k := 5) rfl (by rfl) (by decide) rfl (fun ls hl => ?_)
            refine lv_goto (tgt := 8) hx hb dX8_readAs_71 (by decide) ?_
            exact ih1 x2_1 x3_1 (x4_1 + 1) hE hp H locs hP hS ls (lv_sub hl [4, 5, 2, 1, 0] rfl)
          · have hE := hE.trans (if_neg c4)
            have hp := pc_bn hp c4
            refine lv_iload hx hb dX8_readAs_48 (lv_at hl 5 rfl) ?_
            refine lv_goto (tgt := 54) hx hb dX8_readAs_50 (by decide) ?_
            refine lv_istore_n (lv' := [(2, .int x4_1), (5, .int 16), (0, .ref (ad 48)), (1, .int p1), (3, .int x3_1), (4, .int x4_1)]) hx hb dX8_readAs_54 rfl hl (by decide) rfl (fun ls hl => ?_)
            refine lv_iload hx hb dX8_readAs_55 (lv_at hl 1 rfl) ?_
            refine lv_iload_n hx hb dX8_readAs_57 rfl (lv_at hl 4 rfl) ?_
            refine lv_icmp_ge (tgt := 66) hx hb dX8_readAs_58 (by decide) (fun hc => absurd hc c4) (fun _ => ?_)
            refine lv_iload hx hb dX8_readAs_61 (lv_at hl 1 rfl) ?_
            refine lv_goto (tgt := 67) hx hb dX8_readAs_63 (by decide) ?_
            refine lv_istore_n (lv' := [(3, .int 16), (2, .int x4_1), (5, .int 16), (0, .ref (ad 48)), (1, .int p1), (4, .int x4_1)]) hx hb dX8_readAs_67 rfl hl (by decide) rfl (fun ls hl => ?_)
            refine lv_iinc (v := (x4_1 + 1)) (lv' := [(4, .int (x4_1 + 1)), (3, .int 16), (2, .int x4_1), (5, .int 16), (0, .ref (ad 48)), (1, .int p1)]) hx hb dX8_readAs_68 hl (k := 5) rfl (by rfl) (by decide) rfl (fun ls hl => ?_)
            refine lv_goto (tgt := 8) hx hb dX8_readAs_71 (by decide) ?_
            exact ih1 x4_1 16 (x4_1 + 1) hE hp H locs hP hS ls (lv_sub hl [4, 5, 2, 1, 0] rfl)
  exact L1 fu (-1) 16 0 hE hp _ _ hP hS _ (lv_sub hl [3, 4, 2, 1, 0] rfl)
def f_X8_margin_l1 (fu : Nat) (V : VT) (p1 : Int32) (p2 : Int32) : Nat → Int32 → Int32 → Int32
  | 0, x3_1, x4_1 => 0
  | w1 + 1, x3_1, x4_1 => (if 10 ≤ x4_1 then (x3_1 - (f_X8_dark fu V ((f_X8_drawn V p2) ^^^ p1))) else (if x4_1 = p2 then (if x3_1 ≤ 15 then (f_X8_margin_l1 fu V p1 p2 w1 x3_1 (x4_1 + 1)) else (f_X8_margin_l1 fu V p1 p2 w1 15 (x4_1 + 1))) else (if 0 ≤ (f_X8_drawn V x4_1) then (if x3_1 ≤ (f_X8_dark fu V ((f_X8_drawn V x4_1) ^^^ p1)) then (f_X8_margin_l1 fu V p1 p2 w1 x3_1 (x4_1 + 1)) else (f_X8_margin_l1 fu V p1 p2 w1 (f_X8_dark fu V ((f_X8_drawn V x4_1) ^^^ p1)) (x4_1 + 1))) else (if x3_1 ≤ 15 then (f_X8_margin_l1 fu V p1 p2 w1 x3_1 (x4_1 + 1)) else (f_X8_margin_l1 fu V p1 p2 w1 15 (x4_1 + 1))))))
def p_X8_margin_l1 (fu : Nat) (V : VT) (p1 : Int32) (p2 : Int32) : Nat → Int32 → Int32 → Prop
  | 0, _, _ => False
  | w1 + 1, x3_1, x4_1 => ((10 ≤ x4_1 → ((p_X8_drawn V p2) ∧ (p_X8_dark fu V ((f_X8_drawn V p2) ^^^ p1)))) ∧ (¬ (10 ≤ x4_1) → ((x4_1 = p2 → ((x3_1 ≤ 15 → (p_X8_margin_l1 fu V p1 p2 w1 x3_1 (x4_1 + 1))) ∧ (¬ (x3_1 ≤ 15) → (p_X8_margin_l1 fu V p1 p2 w1 15 (x4_1 + 1))))) ∧ (¬ (x4_1 = p2) → ((p_X8_drawn V x4_1) ∧ ((0 ≤ (f_X8_drawn V x4_1) → ((p_X8_drawn V x4_1) ∧ ((p_X8_dark fu V ((f_X8_drawn V x4_1) ^^^ p1)) ∧ ((x3_1 ≤ (f_X8_dark fu V ((f_X8_drawn V x4_1) ^^^ p1)) → (p_X8_margin_l1 fu V p1 p2 w1 x3_1 (x4_1 + 1))) ∧ (¬ (x3_1 ≤ (f_X8_dark fu V ((f_X8_drawn V x4_1) ^^^ p1))) → (p_X8_margin_l1 fu V p1 p2 w1 (f_X8_dark fu V ((f_X8_drawn V x4_1) ^^^ p1)) (x4_1 + 1))))))) ∧ (¬ (0 ≤ (f_X8_drawn V x4_1)) → ((x3_1 ≤ 15 → (p_X8_margin_l1 fu V p1 p2 w1 x3_1 (x4_1 + 1))) ∧ (¬ (x3_1 ≤ 15) → (p_X8_margin_l1 fu V p1 p2 w1 15 (x4_1 + 1)))))))))))
def f_X8_margin (fu : Nat) (V : VT) (p1 : Int32) (p2 : Int32) : Int32 := (f_X8_margin_l1 fu V p1 p2 fu 15 0)
def p_X8_margin (fu : Nat) (V : VT) (p1 : Int32) (p2 : Int32) : Prop := (p_X8_margin_l1 fu V p1 p2 fu 15 0)
set_option maxHeartbeats 4000000 in
set_option maxRecDepth 100000 in
theorem m_X8_margin (l : Launch) (D : va_G) (cI cB : ClassId) (ad : Nat → Nat) (fu : Nat) (V : VT) (p1 : Int32) (p2 : Int32)  (hp : p_X8_margin fu V p1 p2) : Met l yX8_margin wsX8_margin ({ frames := 1, cells := 0, slots := 0, locals := 22 }) (cP D cI cB ad V [.ref (ad 48), .int p1, .int p2]) (cR (f_X8_margin fu V p1 p2)) 0 0 (fun _ => False) := by
  refine Met.ofW (cc := cX8_margin) (maxL := 6) (ret := (some .int)) (by decide +kernel) rfl ?_
  intro p e s m args below meth c s₁ B hml hv
  obtain ⟨rfl, hP, hKN⟩ := hv
  have hK := hKN.1
  have hx := B.exec
  have hb := B.bytes
  have hr := B.returns
  have hts := atoms_spec (ws := wsX8_margin) B.pre
  have hown : s.vm.findClass RX8 = some m.cls := findClass_of_methodNamed B.named
  have hlocks := B.notSynchronized
  have hS : va_S (fun _ => False) s.heap s.heap [] := va_S.rf
  have hl := lv_entry ([.ref (ad 48), .int p1, .int p2]) (n := 6) (Nat.le_of_ble_eq_true rfl)
  rw [lg_entry_eq]
  generalize (lg_sl ([.ref (ad 48), .int p1, .int p2]) ++ List.replicate (6 - (lg_sl ([.ref (ad 48), .int p1, .int p2])).length) Slot.unset).toArray = ls at hl ⊢
  have hl : lv_has ls 6 [(0, .ref (ad 48)), (1, .int p1), (2, .int p2)] := hl
  have hE : f_X8_margin fu V p1 p2 = (f_X8_margin_l1 fu V p1 p2 fu 15 0) := rfl
  refine lv_bipush (v := 15) hx hb dX8_margin_0 (by decide) ?_
  refine lv_istore_n (lv' := [(3, .int 15), (0, .ref (ad 48)), (1, .int p1), (2, .int p2)]) hx hb dX8_margin_2 rfl hl (by decide) rfl (fun ls hl => ?_)
  refine lv_iconst (v := 0) hx hb dX8_margin_3 (by decide) ?_
  refine lv_istore (lv' := [(4, .int 0), (3, .int 15), (0, .ref (ad 48)), (1, .int p1), (2, .int p2)]) hx hb dX8_margin_4 hl (by decide) rfl (fun ls hl => ?_)
  have L1 : ∀ (w1 : Nat) (x3_1 : Int32) (x4_1 : Int32), f_X8_margin fu V p1 p2 = f_X8_margin_l1 fu V p1 p2 w1 x3_1 x4_1 → p_X8_margin_l1 fu V p1 p2 w1 x3_1 x4_1 → ∀ (H : Heap) (locs : List Loc), wP D cI cB ad V H → va_S (fun _ => False) s.heap H locs → ∀ (ls : Array Slot), lv_has ls 6 [(0, .ref (ad 48)), (1, .int p1), (2, .int p2), (3, .int x3_1), (4, .int x4_1)] → W p l e (headSpec wsX8_margin ({ frames := 1, cells := 0, slots := 0, locals := 22 })).room s m ([.ref (ad 48), .int p1, .int p2] : List Value).toArray below meth c H locs 0 0 (MQ below (cR (f_X8_margin fu V p1 p2)) ([.ref (ad 48), .int p1, .int p2] : List Value).toArray s 0 0 (fun _ => False)) (F0 m 6 ls []) := by
    intro w1
    induction w1 with
    | zero => intro x3_1 x4_1 hE hp; exact hp.elim
    | succ w1 ih1 =>
      intro x3_1 x4_1 hE hp H locs hP hS ls hl
      rw [f_X8_margin_l1] at hE
      rw [p_X8_margin_l1] at hp
      refine lv_iload hx hb dX8_margin_6 (lv_at hl 4 rfl) ?_
      refine lv_bipush (v := 10) hx hb dX8_margin_8 (by decide) ?_
      refine lv_icmp_ge (tgt := 65) hx hb dX8_margin_10 (by decide) (fun c1 => ?_) (fun c1 => ?_)
      · have hE := hE.trans (if_pos c1)
        have hp := pc_br hp c1
        refine lv_iload_n hx hb dX8_margin_65 rfl (lv_at hl 3 rfl) ?_
        refine lv_aload_n hx hb dX8_margin_66 rfl (lv_at hl 0 rfl) ?_
        refine lv_iload_n hx hb dX8_margin_67 rfl (lv_at hl 2 rfl) ?_
        obtain ⟨hn1, hp⟩ := hp
        refine k_VR (As := [.int p2]) (rest := [.int x3_1]) (q := 48) ⟨hx, hb, hml, hown, hts⟩ hKN hP hS (m_X8_drawn l D cI cB ad V p2 hn1) (cwV 1 hts gX8_margin_X8_drawn rfl rfl rfl (by decide +kernel) ⟨(Nat.le_of_ble_eq_true rfl), (Nat.le_of_ble_eq_true rfl)⟩) (c_preV hP hKN (q := 48) (ci := 6) (fs := [.ref (ad 49), .ref (ad 50), .ref (ad 51), .int ((V 48) 0), .ref (ad 52), .int ((V 48) 1), .ref (ad 53), .int ((V 48) 2), .int ((V 48) 3), .int ((V 48) 4), .int ((V 48) 5), .int ((V 48) 6), .int ((V 48) 7)]) (by decide) (ce_md ad cI cB (V 48)) rfl rfl) rfl hl.1 rfl (Nat.le_of_ble_eq_true rfl) dX8_margin_68 ⟨Nat.zero_le _, Nat.zero_le _⟩ (fun H locs hP hS => ?_)
        refine lv_iload_n hx hb dX8_margin_71 rfl (lv_at hl 1 rfl) ?_
        refine lv_ixor hx hb dX8_margin_72 ?_
        have hn2 := hp
        refine k_SR (As := [.int ((f_X8_drawn V p2) ^^^ p1)]) (rest := [.int x3_1]) ⟨hx, hb, hml, hown, hts⟩ hKN hP hS (m_X8_dark l D cI cB ad fu V ((f_X8_drawn V p2) ^^^ p1) hn2) (va_cwS 1 hts gX8_margin_X8_dark rfl rfl rfl (by decide +kernel) ⟨(Nat.le_of_ble_eq_true rfl), (Nat.le_of_ble_eq_true rfl)⟩) rfl hl.1 rfl (Nat.le_of_ble_eq_true rfl) dX8_margin_73 ⟨Nat.zero_le _, Nat.zero_le _⟩ (fun H locs hP hS => ?_)
        refine lv_isub hx hb dX8_margin_76 ?_
        exact W.iret (v := (x3_1 - (f_X8_dark fu V ((f_X8_drawn V p2) ^^^ p1)))) hx hb hr (fun t ht hW => ⟨⟨(x3_1 - (f_X8_dark fu V ((f_X8_drawn V p2) ^^^ p1))), (), rfl, hE.symm, trivial⟩, hS.F ht⟩) hS.2.2 dX8_margin_77
      · have hE := hE.trans (if_neg c1)
        have hp := pc_bn hp c1
        refine lv_iload hx hb dX8_margin_13 (lv_at hl 4 rfl) ?_
        refine lv_iload_n hx hb dX8_margin_15 rfl (lv_at hl 2 rfl) ?_
        refine lv_icmp_eq (tgt := 28) hx hb dX8_margin_16 (by decide) (fun c2 => ?_) (fun c2 => ?_)
        · have hE := hE.trans (if_pos c2)
          have hp := pc_br hp c2
          refine lv_bipush (v := 15) hx hb dX8_margin_28 (by decide) ?_
          refine lv_goto (tgt := 44) hx hb dX8_margin_30 (by decide) ?_
          refine lv_istore (lv' := [(5, .int 15), (0, .ref (ad 48)), (1, .int p1), (2, .int p2), (3, .int x3_1), (4, .int x4_1)]) hx hb dX8_margin_44 hl (by decide) rfl (fun ls hl => ?_)
          refine lv_iload hx hb dX8_margin_46 (lv_at hl 0 rfl) ?_
          refine lv_iload_n hx hb dX8_margin_48 rfl (lv_at hl 4 rfl) ?_
          refine lv_icmp_ge (tgt := 57) hx hb dX8_margin_49 (by decide) (fun c3 => ?_) (fun c3 => ?_)
          · have hE := hE.trans (if_pos c3)
            have hp := pc_br hp c3
            refine lv_iload_n hx hb dX8_margin_57 rfl (lv_at hl 4 rfl) ?_
            refine lv_istore_n (lv' := [(3, .int x3_1), (5, .int 15), (0, .ref (ad 48)), (1, .int p1), (2, .int p2), (4, .int x4_1)]) hx hb dX8_margin_58 rfl hl (by decide) rfl (fun ls hl => ?_)
            refine lv_iinc (v := (x4_1 + 1)) (lv' := [(4, .int (x4_1 + 1)), (3, .int x3_1), (5, .int 15), (0, .ref (ad 48)), (1, .int p1), (2, .int p2)]) hx hb dX8_margin_59 hl (k := 5) rfl (by rfl) (by decide) rfl (fun ls hl => ?_)
            refine lv_goto (tgt := 6) hx hb dX8_margin_62 (by decide) ?_
            exact ih1 x3_1 (x4_1 + 1) hE hp H locs hP hS ls (lv_sub hl [3, 4, 5, 1, 0] rfl)
          · have hE := hE.trans (if_neg c3)
            have hp := pc_bn hp c3
            refine lv_iload hx hb dX8_margin_52 (lv_at hl 0 rfl) ?_
            refine lv_goto (tgt := 58) hx hb dX8_margin_54 (by decide) ?_
            refine lv_istore_n (lv' := [(3, .int 15), (5, .int 15), (0, .ref (ad 48)), (1, .int p1), (2, .int p2), (4, .int x4_1)]) hx hb dX8_margin_58 rfl hl (by decide) rfl (fun ls hl => ?_)
            refine lv_iinc (v := (x4_1 + 1)) (lv' := [(4, .int (x4_1 + 1)), (3, .int 15), (5, .int 15), (0, .ref (ad 48)), (1, .int p1), (2, .int p2)]) hx hb dX8_margin_59 hl (k := 5) rfl (by rfl) (by decide) rfl (fun ls hl => ?_)
            refine lv_goto (tgt := 6) hx hb dX8_margin_62 (by decide) ?_
            exact ih1 15 (x4_1 + 1) hE hp H locs hP hS ls (lv_sub hl [3, 4, 5, 1, 0] rfl)
        · have hE := hE.trans (if_neg c2)
          have hp := pc_bn hp c2
          refine lv_aload_n hx hb dX8_margin_19 rfl (lv_at hl 0 rfl) ?_
          refine lv_iload hx hb dX8_margin_20 (lv_at hl 4 rfl) ?_
          obtain ⟨hn3, hp⟩ := hp
          refine k_VR (As := [.int x4_1]) (rest := []) (q := 48) ⟨hx, hb, hml, hown, hts⟩ hKN hP hS (m_X8_drawn l D cI cB ad V x4_1 hn3) (cwV 1 hts gX8_margin_X8_drawn rfl rfl rfl (by decide +kernel) ⟨(Nat.le_of_ble_eq_true rfl), (Nat.le_of_ble_eq_true rfl)⟩) (c_preV hP hKN (q := 48) (ci := 6) (fs := [.ref (ad 49), .ref (ad 50), .ref (ad 51), .int ((V 48) 0), .ref (ad 52), .int ((V 48) 1), .ref (ad 53), .int ((V 48) 2), .int ((V 48) 3), .int ((V 48) 4), .int ((V 48) 5), .int ((V 48) 6), .int ((V 48) 7)]) (by decide) (ce_md ad cI cB (V 48)) rfl rfl) rfl hl.1 rfl (Nat.le_of_ble_eq_true rfl) dX8_margin_22 ⟨Nat.zero_le _, Nat.zero_le _⟩ (fun H locs hP hS => ?_)
          refine lv_if_ge (tgt := 33) hx hb dX8_margin_25 (by decide) (fun c4 => ?_) (fun c4 => ?_)
          · have hE := hE.trans (if_pos c4)
            have hp := pc_br hp c4
            refine lv_aload_n hx hb dX8_margin_33 rfl (lv_at hl 0 rfl) ?_
            refine lv_iload hx hb dX8_margin_34 (lv_at hl 4 rfl) ?_
            obtain ⟨hn4, hp⟩ := hp
            refine k_VR (As := [.int x4_1]) (rest := []) (q := 48) ⟨hx, hb, hml, hown, hts⟩ hKN hP hS (m_X8_drawn l D cI cB ad V x4_1 hn4) (cwV 1 hts gX8_margin_X8_drawn rfl rfl rfl (by decide +kernel) ⟨(Nat.le_of_ble_eq_true rfl), (Nat.le_of_ble_eq_true rfl)⟩) (c_preV hP hKN (q := 48) (ci := 6) (fs := [.ref (ad 49), .ref (ad 50), .ref (ad 51), .int ((V 48) 0), .ref (ad 52), .int ((V 48) 1), .ref (ad 53), .int ((V 48) 2), .int ((V 48) 3), .int ((V 48) 4), .int ((V 48) 5), .int ((V 48) 6), .int ((V 48) 7)]) (by decide) (ce_md ad cI cB (V 48)) rfl rfl) rfl hl.1 rfl (Nat.le_of_ble_eq_true rfl) dX8_margin_36 ⟨Nat.zero_le _, Nat.zero_le _⟩ (fun H locs hP hS => ?_)
            refine lv_iload_n hx hb dX8_margin_39 rfl (lv_at hl 1 rfl) ?_
            refine lv_ixor hx hb dX8_margin_40 ?_
            obtain ⟨hn5, hp⟩ := hp
            refine k_SR (As := [.int ((f_X8_drawn V x4_1) ^^^ p1)]) (rest := []) ⟨hx, hb, hml, hown, hts⟩ hKN hP hS (m_X8_dark l D cI cB ad fu V ((f_X8_drawn V x4_1) ^^^ p1) hn5) (va_cwS 1 hts gX8_margin_X8_dark rfl rfl rfl (by decide +kernel) ⟨(Nat.le_of_ble_eq_true rfl), (Nat.le_of_ble_eq_true rfl)⟩) rfl hl.1 rfl (Nat.le_of_ble_eq_true rfl) dX8_margin_41 ⟨Nat.zero_le _, Nat.zero_le _⟩ (fun H locs hP hS => ?_)
            refine lv_istore (lv' := [(5, .int (f_X8_dark fu V ((f_X8_drawn V x4_1) ^^^ p1))), (0, .ref (ad 48)), (1, .int p1), (2, .int p2), (3, .int x3_1), (4, .int x4_1)]) hx hb dX8_margin_44 hl (by decide) rfl (fun ls hl => ?_)
            refine lv_iload hx hb dX8_margin_46 (lv_at hl 0 rfl) ?_
            refine lv_iload_n hx hb dX8_margin_48 rfl (lv_at hl 4 rfl) ?_
            refine lv_icmp_ge (tgt := 57) hx hb dX8_margin_49 (by decide) (fun c5 => ?_) (fun c5 => ?_)
            · have hE := hE.trans (if_pos c5)
              have hp := pc_br hp c5
              refine lv_iload_n hx hb dX8_margin_57 rfl (lv_at hl 4 rfl) ?_
              refine lv_istore_n (lv' := [(3, .int x3_1), (5, .int (f_X8_dark fu V ((f_X8_drawn V x4_1) ^^^ p1))), (0, .ref (ad 48)), (1, .int p1), (2, .int p2), (4, .int x4_1)]) hx hb dX8_margin_58 rfl hl (by decide) rfl (fun ls hl => ?_)
              refine lv_iinc (v := (x4_1 + 1)) (lv' := [(4, .int (x4_1 + 1)), (3, .int x3_1), (5, .int (f_X8_dark fu V ((f_X8_drawn V x4_1) ^^^ p1))), (0, .ref (ad 48)), (1, .int p1), (2, .int p2)]) hx hb dX8_margin_59 hl (k := 5) rfl (by rfl) (by decide) rfl (fun ls hl => ?_)
              refine lv_goto (tgt := 6) hx hb dX8_margin_62 (by decide) ?_
              exact ih1 x3_1 (x4_1 + 1) hE hp H locs hP hS ls (lv_sub hl [3, 4, 5, 1, 0] rfl)
            · have hE := hE.trans (if_neg c5)
              have hp := pc_bn hp c5
              refine lv_iload hx hb dX8_margin_52 (lv_at hl 0 rfl) ?_
              refine lv_goto (tgt := 58) hx hb dX8_margin_54 (by decide) ?_
              refine lv_istore_n (lv' := [(3, .int (f_X8_dark fu V ((f_X8_drawn V x4_1) ^^^ p1))), (5, .int (f_X8_dark fu V ((f_X8_drawn V x4_1) ^^^ p1))), (0, .ref (ad 48)), (1, .int p1), (2, .int p2), (4, .int x4_1)]) hx hb dX8_margin_58 rfl hl (by decide) rfl (fun ls hl => ?_)
              refine lv_iinc (v := (x4_1 + 1)) (lv' := [(4, .int (x4_1 + 1)), (3, .int (f_X8_dark fu V ((f_X8_drawn V x4_1) ^^^ p1))), (5, .int (f_X8_dark fu V ((f_X8_drawn V x4_1) ^^^ p1))), (0, .ref (ad 48)), (1, .int p1), (2, .int p2)]) hx hb dX8_margin_59 hl (k := 5) rfl (by rfl) (by decide) rfl (fun ls hl => ?_)
              refine lv_goto (tgt := 6) hx hb dX8_margin_62 (by decide) ?_
              exact ih1 (f_X8_dark fu V ((f_X8_drawn V x4_1) ^^^ p1)) (x4_1 + 1) hE hp H locs hP hS ls (lv_sub hl [3, 4, 5, 1, 0] rfl)
          · have hE := hE.trans (if_neg c4)
            have hp := pc_bn hp c4
            refine lv_bipush (v := 15) hx hb dX8_margin_28 (by decide) ?_
            refine lv_goto (tgt := 44) hx hb dX8_margin_30 (by decide) ?_
            refine lv_istore (lv' := [(5, .int 15), (0, .ref (ad 48)), (1, .int p1), (2, .int p2), (3, .int x3_1), (4, .int x4_1)]) hx hb dX8_margin_44 hl (by decide) rfl (fun ls hl => ?_)
            refine lv_iload hx hb dX8_margin_46 (lv_at hl 0 rfl) ?_
            refine lv_iload_n hx hb dX8_margin_48 rfl (lv_at hl 4 rfl) ?_
            refine lv_icmp_ge (tgt := 57) hx hb dX8_margin_49 (by decide) (fun c6 => ?_) (fun c6 => ?_)
            · have hE := hE.trans (if_pos c6)
              have hp := pc_br hp c6
              refine lv_iload_n hx hb dX8_margin_57 rfl (lv_at hl 4 rfl) ?_
              refine lv_istore_n (lv' := [(3, .int x3_1), (5, .int 15), (0, .ref (ad 48)), (1, .int p1), (2, .int p2), (4, .int x4_1)]) hx hb dX8_margin_58 rfl hl (by decide) rfl (fun ls hl => ?_)
              refine lv_iinc (v := (x4_1 + 1)) (lv' := [(4, .int (x4_1 + 1)), (3, .int x3_1), (5, .int 15), (0, .ref (ad 48)), (1, .int p1), (2, .int p2)]) hx hb dX8_margin_59 hl (k := 5) rfl (by rfl) (by decide) rfl (fun ls hl => ?_)
              refine lv_goto (tgt := 6) hx hb dX8_margin_62 (by decide) ?_
              exact ih1 x3_1 (x4_1 + 1) hE hp H locs hP hS ls (lv_sub hl [3, 4, 5, 1, 0] rfl)
            · have hE := hE.trans (if_neg c6)
              have hp := pc_bn hp c6
              refine lv_iload hx hb dX8_margin_52 (lv_at hl 0 rfl) ?_
              refine lv_goto (tgt := 58) hx hb dX8_margin_54 (by decide) ?_
              refine lv_istore_n (lv' := [(3, .int 15), (5, .int 15), (0, .ref (ad 48)), (1, .int p1), (2, .int p2), (4, .int x4_1)]) hx hb dX8_margin_58 rfl hl (by decide) rfl (fun ls hl => ?_)
              refine lv_iinc (v := (x4_1 + 1)) (lv' := [(4, .int (x4_1 + 1)), (3, .int 15), (5, .int 15), (0, .ref (ad 48)), (1, .int p1), (2, .int p2)]) hx hb dX8_margin_59 hl (k := 5) rfl (by rfl) (by decide) rfl (fun ls hl => ?_)
              refine lv_goto (tgt := 6) hx hb dX8_margin_62 (by decide) ?_
              exact ih1 15 (x4_1 + 1) hE hp H locs hP hS ls (lv_sub hl [3, 4, 5, 1, 0] rfl)
  exact L1 fu 15 0 hE hp _ _ hP hS _ (lv_sub hl [2, 3, 4, 1, 0] rfl)
def f_X8_tries (fu : Nat) (V : VT) (p1 : Int32) (p2 : Int32) (p3 : Int32) : VT := (if (f_X8_readAs fu V p1) = p2 then (if (f_X8_readAs fu V (f_X8_turned fu V p1)) = p3 then (if (f_X8_margin fu V (f_X8_turned fu V p1) p3) ≤ (f_X8_margin fu V p1 p2) then (if (f_X8_margin fu V (f_X8_turned fu V p1) p3) ≤ (V 48 4) then V else (upV (upV V 48 3 p1) 48 4 (f_X8_margin fu V (f_X8_turned fu V p1) p3))) else (if (f_X8_margin fu V p1 p2) ≤ (V 48 4) then V else (upV (upV V 48 3 p1) 48 4 (f_X8_margin fu V p1 p2)))) else V) else V)
def p_X8_tries (fu : Nat) (V : VT) (p1 : Int32) (p2 : Int32) (p3 : Int32) : Prop := ((p_X8_readAs fu V p1) ∧ (((f_X8_readAs fu V p1) = p2 → ((p_X8_turned fu V p1) ∧ ((p_X8_readAs fu V (f_X8_turned fu V p1)) ∧ (((f_X8_readAs fu V (f_X8_turned fu V p1)) = p3 → ((p_X8_margin fu V p1 p2) ∧ (p_X8_margin fu V (f_X8_turned fu V p1) p3))) ∧ (¬ ((f_X8_readAs fu V (f_X8_turned fu V p1)) = p3) → True))))) ∧ (¬ ((f_X8_readAs fu V p1) = p2) → True)))
set_option maxHeartbeats 4000000 in
set_option maxRecDepth 100000 in
theorem m_X8_tries (l : Launch) (D : va_G) (cI cB : ClassId) (ad : Nat → Nat) {A : Nat → Prop} (hA : adOk ad A) (fu : Nat) (V : VT) (p1 : Int32) (p2 : Int32) (p3 : Int32)  (hp : p_X8_tries fu V p1 p2 p3) : Met l yX8_tries wsX8_tries ({ frames := 2, cells := 0, slots := 0, locals := 47 }) (cP D cI cB ad V [.ref (ad 48), .int p1, .int p2, .int p3]) (cWv D cI cB ad A (f_X8_tries fu V p1 p2 p3)) 0 0 A := by
  refine Met.ofW (cc := cX8_tries) (maxL := 8) (ret := none) (by decide +kernel) rfl ?_
  intro p e s m args below meth c s₁ B hml hv
  obtain ⟨rfl, hP, hKN⟩ := hv
  have hK := hKN.1
  have hx := B.exec
  have hb := B.bytes
  have hr := B.returns
  have hts := atoms_spec (ws := wsX8_tries) B.pre
  have hown : s.vm.findClass RX8 = some m.cls := findClass_of_methodNamed B.named
  have hlocks := B.notSynchronized
  have hS : va_S A s.heap s.heap [] := va_S.rf
  have hl := lv_entry ([.ref (ad 48), .int p1, .int p2, .int p3]) (n := 8) (Nat.le_of_ble_eq_true rfl)
  rw [lg_entry_eq]
  generalize (lg_sl ([.ref (ad 48), .int p1, .int p2, .int p3]) ++ List.replicate (8 - (lg_sl ([.ref (ad 48), .int p1, .int p2, .int p3])).length) Slot.unset).toArray = ls at hl ⊢
  have hl : lv_has ls 8 [(0, .ref (ad 48)), (1, .int p1), (2, .int p2), (3, .int p3)] := hl
  have hE : f_X8_tries fu V p1 p2 p3 = (if (f_X8_readAs fu V p1) = p2 then (if (f_X8_readAs fu V (f_X8_turned fu V p1)) = p3 then (if (f_X8_margin fu V (f_X8_turned fu V p1) p3) ≤ (f_X8_margin fu V p1 p2) then (if (f_X8_margin fu V (f_X8_turned fu V p1) p3) ≤ (V 48 4) then V else (upV (upV V 48 3 p1) 48 4 (f_X8_margin fu V (f_X8_turned fu V p1) p3))) else (if (f_X8_margin fu V p1 p2) ≤ (V 48 4) then V else (upV (upV V 48 3 p1) 48 4 (f_X8_margin fu V p1 p2)))) else V) else V) := rfl
  refine lv_aload_n hx hb dX8_tries_0 rfl (lv_at hl 0 rfl) ?_
  refine lv_iload_n hx hb dX8_tries_1 rfl (lv_at hl 1 rfl) ?_
  obtain ⟨hn1, hp⟩ := hp
  refine k_VR (As := [.int p1]) (rest := []) (q := 48) ⟨hx, hb, hml, hown, hts⟩ hKN hP hS (m_X8_readAs l D cI cB ad fu V p1 hn1) (cwV 1 hts gX8_tries_X8_readAs rfl rfl rfl (by decide +kernel) ⟨(Nat.le_of_ble_eq_true rfl), (Nat.le_of_ble_eq_true rfl)⟩) (c_preV hP hKN (q := 48) (ci := 6) (fs := [.ref (ad 49), .ref (ad 50), .ref (ad 51), .int ((V 48) 0), .ref (ad 52), .int ((V 48) 1), .ref (ad 53), .int ((V 48) 2), .int ((V 48) 3), .int ((V 48) 4), .int ((V 48) 5), .int ((V 48) 6), .int ((V 48) 7)]) (by decide) (ce_md ad cI cB (V 48)) rfl rfl) rfl hl.1 rfl (Nat.le_of_ble_eq_true rfl) dX8_tries_2 ⟨Nat.zero_le _, Nat.zero_le _⟩ (fun H locs hP hS => ?_)
  refine lv_iload_n hx hb dX8_tries_5 rfl (lv_at hl 2 rfl) ?_
  refine lv_icmp_eq (tgt := 10) hx hb dX8_tries_6 (by decide) (fun c1 => ?_) (fun c1 => ?_)
  · have hE := hE.trans (if_pos c1)
    have hp := pc_br hp c1
    refine lv_iload_n hx hb dX8_tries_10 rfl (lv_at hl 1 rfl) ?_
    obtain ⟨hn2, hp⟩ := hp
    refine k_SR (As := [.int p1]) (rest := []) ⟨hx, hb, hml, hown, hts⟩ hKN hP hS (m_X8_turned l D cI cB ad fu V p1 hn2) (va_cwS 1 hts gX8_tries_X8_turned rfl rfl rfl (by decide +kernel) ⟨(Nat.le_of_ble_eq_true rfl), (Nat.le_of_ble_eq_true rfl)⟩) rfl hl.1 rfl (Nat.le_of_ble_eq_true rfl) dX8_tries_11 ⟨Nat.zero_le _, Nat.zero_le _⟩ (fun H locs hP hS => ?_)
    refine lv_istore (lv' := [(4, .int (f_X8_turned fu V p1)), (0, .ref (ad 48)), (1, .int p1), (2, .int p2), (3, .int p3)]) hx hb dX8_tries_14 hl (by decide) rfl (fun ls hl => ?_)
    refine lv_aload_n hx hb dX8_tries_16 rfl (lv_at hl 1 rfl) ?_
    refine lv_iload hx hb dX8_tries_17 (lv_at hl 0 rfl) ?_
    obtain ⟨hn3, hp⟩ := hp
    refine k_VR (As := [.int (f_X8_turned fu V p1)]) (rest := []) (q := 48) ⟨hx, hb, hml, hown, hts⟩ hKN hP hS (m_X8_readAs l D cI cB ad fu V (f_X8_turned fu V p1) hn3) (cwV 1 hts gX8_tries_X8_readAs rfl rfl rfl (by decide +kernel) ⟨(Nat.le_of_ble_eq_true rfl), (Nat.le_of_ble_eq_true rfl)⟩) (c_preV hP hKN (q := 48) (ci := 6) (fs := [.ref (ad 49), .ref (ad 50), .ref (ad 51), .int ((V 48) 0), .ref (ad 52), .int ((V 48) 1), .ref (ad 53), .int ((V 48) 2), .int ((V 48) 3), .int ((V 48) 4), .int ((V 48) 5), .int ((V 48) 6), .int ((V 48) 7)]) (by decide) (ce_md ad cI cB (V 48)) rfl rfl) rfl hl.1 rfl (Nat.le_of_ble_eq_true rfl) dX8_tries_19 ⟨Nat.zero_le _, Nat.zero_le _⟩ (fun H locs hP hS => ?_)
    refine lv_iload_n hx hb dX8_tries_22 rfl (lv_at hl 4 rfl) ?_
    refine lv_icmp_eq (tgt := 27) hx hb dX8_tries_23 (by decide) (fun c2 => ?_) (fun c2 => ?_)
    · have hE := hE.trans (if_pos c2)
      have hp := pc_br hp c2
      refine lv_aload_n hx hb dX8_tries_27 rfl (lv_at hl 1 rfl) ?_
      refine lv_iload_n hx hb dX8_tries_28 rfl (lv_at hl 2 rfl) ?_
      refine lv_iload_n hx hb dX8_tries_29 rfl (lv_at hl 3 rfl) ?_
      obtain ⟨hn4, hp⟩ := hp
      refine k_VR (As := [.int p1, .int p2]) (rest := []) (q := 48) ⟨hx, hb, hml, hown, hts⟩ hKN hP hS (m_X8_margin l D cI cB ad fu V p1 p2 hn4) (cwV 2 hts gX8_tries_X8_margin rfl rfl rfl (by decide +kernel) ⟨(Nat.le_of_ble_eq_true rfl), (Nat.le_of_ble_eq_true rfl)⟩) (c_preV hP hKN (q := 48) (ci := 6) (fs := [.ref (ad 49), .ref (ad 50), .ref (ad 51), .int ((V 48) 0), .ref (ad 52), .int ((V 48) 1), .ref (ad 53), .int ((V 48) 2), .int ((V 48) 3), .int ((V 48) 4), .int ((V 48) 5), .int ((V 48) 6), .int ((V 48) 7)]) (by decide) (ce_md ad cI cB (V 48)) rfl rfl) rfl hl.1 rfl (Nat.le_of_ble_eq_true rfl) dX8_tries_30 ⟨Nat.zero_le _, Nat.zero_le _⟩ (fun H locs hP hS => ?_)
      refine lv_istore (lv' := [(5, .int (f_X8_margin fu V p1 p2)), (4, .int (f_X8_turned fu V p1)), (0, .ref (ad 48)), (1, .int p1), (2, .int p2), (3, .int p3)]) hx hb dX8_tries_33 hl (by decide) rfl (fun ls hl => ?_)
      refine lv_aload_n hx hb dX8_tries_35 rfl (lv_at hl 2 rfl) ?_
      refine lv_iload hx hb dX8_tries_36 (lv_at hl 1 rfl) ?_
      refine lv_iload_n hx hb dX8_tries_38 rfl (lv_at hl 5 rfl) ?_
      have hn5 := hp
      refine k_VR (As := [.int (f_X8_turned fu V p1), .int p3]) (rest := []) (q := 48) ⟨hx, hb, hml, hown, hts⟩ hKN hP hS (m_X8_margin l D cI cB ad fu V (f_X8_turned fu V p1) p3 hn5) (cwV 2 hts gX8_tries_X8_margin rfl rfl rfl (by decide +kernel) ⟨(Nat.le_of_ble_eq_true rfl), (Nat.le_of_ble_eq_true rfl)⟩) (c_preV hP hKN (q := 48) (ci := 6) (fs := [.ref (ad 49), .ref (ad 50), .ref (ad 51), .int ((V 48) 0), .ref (ad 52), .int ((V 48) 1), .ref (ad 53), .int ((V 48) 2), .int ((V 48) 3), .int ((V 48) 4), .int ((V 48) 5), .int ((V 48) 6), .int ((V 48) 7)]) (by decide) (ce_md ad cI cB (V 48)) rfl rfl) rfl hl.1 rfl (Nat.le_of_ble_eq_true rfl) dX8_tries_39 ⟨Nat.zero_le _, Nat.zero_le _⟩ (fun H locs hP hS => ?_)
      refine lv_istore (lv' := [(6, .int (f_X8_margin fu V (f_X8_turned fu V p1) p3)), (5, .int (f_X8_margin fu V p1 p2)), (4, .int (f_X8_turned fu V p1)), (0, .ref (ad 48)), (1, .int p1), (2, .int p2), (3, .int p3)]) hx hb dX8_tries_42 hl (by decide) rfl (fun ls hl => ?_)
      refine lv_iload hx hb dX8_tries_44 (lv_at hl 1 rfl) ?_
      refine lv_iload hx hb dX8_tries_46 (lv_at hl 0 rfl) ?_
      refine lv_icmp_ge (tgt := 56) hx hb dX8_tries_48 (by decide) (fun c3 => ?_) (fun c3 => ?_)
      · have hE := hE.trans (if_pos c3)
        refine lv_iload hx hb dX8_tries_56 (lv_at hl 0 rfl) ?_
        refine lv_istore (lv' := [(7, .int (f_X8_margin fu V (f_X8_turned fu V p1) p3)), (6, .int (f_X8_margin fu V (f_X8_turned fu V p1) p3)), (5, .int (f_X8_margin fu V p1 p2)), (4, .int (f_X8_turned fu V p1)), (0, .ref (ad 48)), (1, .int p1), (2, .int p2), (3, .int p3)]) hx hb dX8_tries_58 hl (by decide) rfl (fun ls hl => ?_)
        refine lv_iload hx hb dX8_tries_60 (lv_at hl 0 rfl) ?_
        refine lv_aload_n hx hb dX8_tries_62 rfl (lv_at hl 4 rfl) ?_
        refine x_get (ci := 6) (fs := [.ref (ad 49), .ref (ad 50), .ref (ad 51), .int ((V 48) 0), .ref (ad 52), .int ((V 48) 1), .ref (ad 53), .int ((V 48) 2), .int ((V 48) 3), .int ((V 48) 4), .int ((V 48) 5), .int ((V 48) 6), .int ((V 48) 7)]) (q := 48) (v := .int (V 48 4)) (N := 13) hx hb hts (fun _ h => List.mem_cons_of_mem _ (List.mem_append_right _ h)) hown hK hP (by decide) (ce_md ad cI cB (V 48)) rfl 9 (by decide) (hts (.fieldLink RX8 42 "TurnedBoardsModel" "composedMargin" "I") (List.mem_of_getElem? (i := 1) rfl)) rfl rfl dX8_tries_63 ?_
        refine lv_icmp_le (tgt := 80) hx hb dX8_tries_66 (by decide) (fun c4 => ?_) (fun c4 => ?_)
        · have hE := hE.trans (if_pos c4)
          exact W.vret hx hb hr (fun t ht hW => ⟨⟨V, rfl, hE.symm, by dsimp only; rw [ht]; exact hP⟩, hS.F ht⟩) hS.2.2 dX8_tries_80
        · have hE := hE.trans (if_neg c4)
          refine lv_aload_n hx hb dX8_tries_69 rfl (lv_at hl 4 rfl) ?_
          refine lv_iload_n hx hb dX8_tries_70 rfl (lv_at hl 5 rfl) ?_
          refine x_put (ci := 6) (fs := [.ref (ad 49), .ref (ad 50), .ref (ad 51), .int ((V 48) 0), .ref (ad 52), .int ((V 48) 1), .ref (ad 53), .int ((V 48) 2), .int ((V 48) 3), .int ((V 48) 4), .int ((V 48) 5), .int ((V 48) 6), .int ((V 48) 7)]) (q := 48) (v := .int p1) (ty := .int) (N := 13) hx hb hts (fun _ h => List.mem_cons_of_mem _ (List.mem_append_right _ h)) tyX8 tyX8_ok nmX8 hown hK hP hA hS (by decide) (ce_md ad cI cB (V 48)) rfl 8 (by decide) (hts (.fieldLink RX8 39 "TurnedBoardsModel" "composedSign" "I") (List.mem_of_getElem? (i := 2) rfl)) rfl rfl (by decide +kernel) rfl rfl (Nat.le_of_ble_eq_true rfl) 3 p1 ((ce_md ad cI cB (upd (V 48) 3 p1)).trans rfl) dX8_tries_71 (fun H locs hP hS => ?_)
          refine lv_aload_n hx hb dX8_tries_74 rfl (lv_at hl 4 rfl) ?_
          refine lv_iload hx hb dX8_tries_75 (lv_at hl 0 rfl) ?_
          refine x_put (ci := 6) (fs := [.ref (ad 49), .ref (ad 50), .ref (ad 51), .int (((upV V 48 3 p1) 48) 0), .ref (ad 52), .int (((upV V 48 3 p1) 48) 1), .ref (ad 53), .int (((upV V 48 3 p1) 48) 2), .int (((upV V 48 3 p1) 48) 3), .int (((upV V 48 3 p1) 48) 4), .int (((upV V 48 3 p1) 48) 5), .int (((upV V 48 3 p1) 48) 6), .int (((upV V 48 3 p1) 48) 7)]) (q := 48) (v := .int (f_X8_margin fu V (f_X8_turned fu V p1) p3)) (ty := .int) (N := 13) hx hb hts (fun _ h => List.mem_cons_of_mem _ (List.mem_append_right _ h)) tyX8 tyX8_ok nmX8 hown hK hP hA hS (by decide) (ce_md ad cI cB ((upV V 48 3 p1) 48)) rfl 9 (by decide) (hts (.fieldLink RX8 42 "TurnedBoardsModel" "composedMargin" "I") (List.mem_of_getElem? (i := 1) rfl)) rfl rfl (by decide +kernel) rfl rfl (Nat.le_of_ble_eq_true rfl) 4 (f_X8_margin fu V (f_X8_turned fu V p1) p3) ((ce_md ad cI cB (upd ((upV V 48 3 p1) 48) 4 (f_X8_margin fu V (f_X8_turned fu V p1) p3))).trans rfl) dX8_tries_77 (fun H locs hP hS => ?_)
          exact W.vret hx hb hr (fun t ht hW => ⟨⟨(upV (upV V 48 3 p1) 48 4 (f_X8_margin fu V (f_X8_turned fu V p1) p3)), rfl, hE.symm, by dsimp only; rw [ht]; exact hP⟩, hS.F ht⟩) hS.2.2 dX8_tries_80
      · have hE := hE.trans (if_neg c3)
        refine lv_iload hx hb dX8_tries_51 (lv_at hl 1 rfl) ?_
        refine lv_goto (tgt := 58) hx hb dX8_tries_53 (by decide) ?_
        refine lv_istore (lv' := [(7, .int (f_X8_margin fu V p1 p2)), (6, .int (f_X8_margin fu V (f_X8_turned fu V p1) p3)), (5, .int (f_X8_margin fu V p1 p2)), (4, .int (f_X8_turned fu V p1)), (0, .ref (ad 48)), (1, .int p1), (2, .int p2), (3, .int p3)]) hx hb dX8_tries_58 hl (by decide) rfl (fun ls hl => ?_)
        refine lv_iload hx hb dX8_tries_60 (lv_at hl 0 rfl) ?_
        refine lv_aload_n hx hb dX8_tries_62 rfl (lv_at hl 4 rfl) ?_
        refine x_get (ci := 6) (fs := [.ref (ad 49), .ref (ad 50), .ref (ad 51), .int ((V 48) 0), .ref (ad 52), .int ((V 48) 1), .ref (ad 53), .int ((V 48) 2), .int ((V 48) 3), .int ((V 48) 4), .int ((V 48) 5), .int ((V 48) 6), .int ((V 48) 7)]) (q := 48) (v := .int (V 48 4)) (N := 13) hx hb hts (fun _ h => List.mem_cons_of_mem _ (List.mem_append_right _ h)) hown hK hP (by decide) (ce_md ad cI cB (V 48)) rfl 9 (by decide) (hts (.fieldLink RX8 42 "TurnedBoardsModel" "composedMargin" "I") (List.mem_of_getElem? (i := 1) rfl)) rfl rfl dX8_tries_63 ?_
        refine lv_icmp_le (tgt := 80) hx hb dX8_tries_66 (by decide) (fun c5 => ?_) (fun c5 => ?_)
        · have hE := hE.trans (if_pos c5)
          exact W.vret hx hb hr (fun t ht hW => ⟨⟨V, rfl, hE.symm, by dsimp only; rw [ht]; exact hP⟩, hS.F ht⟩) hS.2.2 dX8_tries_80
        · have hE := hE.trans (if_neg c5)
          refine lv_aload_n hx hb dX8_tries_69 rfl (lv_at hl 4 rfl) ?_
          refine lv_iload_n hx hb dX8_tries_70 rfl (lv_at hl 5 rfl) ?_
          refine x_put (ci := 6) (fs := [.ref (ad 49), .ref (ad 50), .ref (ad 51), .int ((V 48) 0), .ref (ad 52), .int ((V 48) 1), .ref (ad 53), .int ((V 48) 2), .int ((V 48) 3), .int ((V 48) 4), .int ((V 48) 5), .int ((V 48) 6), .int ((V 48) 7)]) (q := 48) (v := .int p1) (ty := .int) (N := 13) hx hb hts (fun _ h => List.mem_cons_of_mem _ (List.mem_append_right _ h)) tyX8 tyX8_ok nmX8 hown hK hP hA hS (by decide) (ce_md ad cI cB (V 48)) rfl 8 (by decide) (hts (.fieldLink RX8 39 "TurnedBoardsModel" "composedSign" "I") (List.mem_of_getElem? (i := 2) rfl)) rfl rfl (by decide +kernel) rfl rfl (Nat.le_of_ble_eq_true rfl) 3 p1 ((ce_md ad cI cB (upd (V 48) 3 p1)).trans rfl) dX8_tries_71 (fun H locs hP hS => ?_)
          refine lv_aload_n hx hb dX8_tries_74 rfl (lv_at hl 4 rfl) ?_
          refine lv_iload hx hb dX8_tries_75 (lv_at hl 0 rfl) ?_
          refine x_put (ci := 6) (fs := [.ref (ad 49), .ref (ad 50), .ref (ad 51), .int (((upV V 48 3 p1) 48) 0), .ref (ad 52), .int (((upV V 48 3 p1) 48) 1), .ref (ad 53), .int (((upV V 48 3 p1) 48) 2), .int (((upV V 48 3 p1) 48) 3), .int (((upV V 48 3 p1) 48) 4), .int (((upV V 48 3 p1) 48) 5), .int (((upV V 48 3 p1) 48) 6), .int (((upV V 48 3 p1) 48) 7)]) (q := 48) (v := .int (f_X8_margin fu V p1 p2)) (ty := .int) (N := 13) hx hb hts (fun _ h => List.mem_cons_of_mem _ (List.mem_append_right _ h)) tyX8 tyX8_ok nmX8 hown hK hP hA hS (by decide) (ce_md ad cI cB ((upV V 48 3 p1) 48)) rfl 9 (by decide) (hts (.fieldLink RX8 42 "TurnedBoardsModel" "composedMargin" "I") (List.mem_of_getElem? (i := 1) rfl)) rfl rfl (by decide +kernel) rfl rfl (Nat.le_of_ble_eq_true rfl) 4 (f_X8_margin fu V p1 p2) ((ce_md ad cI cB (upd ((upV V 48 3 p1) 48) 4 (f_X8_margin fu V p1 p2))).trans rfl) dX8_tries_77 (fun H locs hP hS => ?_)
          exact W.vret hx hb hr (fun t ht hW => ⟨⟨(upV (upV V 48 3 p1) 48 4 (f_X8_margin fu V p1 p2)), rfl, hE.symm, by dsimp only; rw [ht]; exact hP⟩, hS.F ht⟩) hS.2.2 dX8_tries_80
    · have hE := hE.trans (if_neg c2)
      exact W.vret hx hb hr (fun t ht hW => ⟨⟨V, rfl, hE.symm, by dsimp only; rw [ht]; exact hP⟩, hS.F ht⟩) hS.2.2 dX8_tries_26
  · have hE := hE.trans (if_neg c1)
    exact W.vret hx hb hr (fun t ht hW => ⟨⟨V, rfl, hE.symm, by dsimp only; rw [ht]; exact hP⟩, hS.F ht⟩) hS.2.2 dX8_tries_9
def f_X8_composes_l1 (fu : Nat) (p1 : Int32) (p2 : Int32) : Nat → VT → Int32 → Int32 → Int32 → Int32 → Int32 × VT
  | 0, V1, x4_1, x5_1, x6_1, x7_1 => (0, V1)
  | w1 + 1, V1, x4_1, x5_1, x6_1, x7_1 => (if x7_1 = 0 then (if (V1 48 3) < 0 then (0, V1) else (1, V1)) else (if ((x6_1 - x4_1) &&& x4_1) = 0 then (f_X8_composes_l1 fu p1 p2 w1 (f_X8_tries fu V1 (x5_1 ||| x6_1) p1 p2) x4_1 x5_1 ((x6_1 - x4_1) &&& x4_1) 0) else (f_X8_composes_l1 fu p1 p2 w1 (f_X8_tries fu V1 (x5_1 ||| x6_1) p1 p2) x4_1 x5_1 ((x6_1 - x4_1) &&& x4_1) 1)))
def p_X8_composes_l1 (fu : Nat) (p1 : Int32) (p2 : Int32) : Nat → VT → Int32 → Int32 → Int32 → Int32 → Prop
  | 0, _, _, _, _, _ => False
  | w1 + 1, V1, x4_1, x5_1, x6_1, x7_1 => ((x7_1 = 0 → True) ∧ (¬ (x7_1 = 0) → ((p_X8_tries fu V1 (x5_1 ||| x6_1) p1 p2) ∧ ((((x6_1 - x4_1) &&& x4_1) = 0 → (p_X8_composes_l1 fu p1 p2 w1 (f_X8_tries fu V1 (x5_1 ||| x6_1) p1 p2) x4_1 x5_1 ((x6_1 - x4_1) &&& x4_1) 0)) ∧ (¬ (((x6_1 - x4_1) &&& x4_1) = 0) → (p_X8_composes_l1 fu p1 p2 w1 (f_X8_tries fu V1 (x5_1 ||| x6_1) p1 p2) x4_1 x5_1 ((x6_1 - x4_1) &&& x4_1) 1))))))
def f_X8_composes (fu : Nat) (V : VT) (p1 : Int32) (p2 : Int32) : Int32 × VT := (f_X8_composes_l1 fu p1 p2 fu (upV (upV V 48 3 (-1)) 48 4 (-1)) ((f_X8_drawn V p1) ^^^ (f_X8_turned fu V (f_X8_drawn V p2))) ((f_X8_drawn V p1) &&& (((f_X8_drawn V p1) ^^^ (f_X8_turned fu V (f_X8_drawn V p2))) ^^^ (-1))) 0 1)
def p_X8_composes (fu : Nat) (V : VT) (p1 : Int32) (p2 : Int32) : Prop := ((p_X8_drawn V p1) ∧ ((p_X8_drawn V p2) ∧ ((p_X8_turned fu V (f_X8_drawn V p2)) ∧ (p_X8_composes_l1 fu p1 p2 fu (upV (upV V 48 3 (-1)) 48 4 (-1)) ((f_X8_drawn V p1) ^^^ (f_X8_turned fu V (f_X8_drawn V p2))) ((f_X8_drawn V p1) &&& (((f_X8_drawn V p1) ^^^ (f_X8_turned fu V (f_X8_drawn V p2))) ^^^ (-1))) 0 1))))
set_option maxHeartbeats 4000000 in
set_option maxRecDepth 100000 in
theorem m_X8_composes (l : Launch) (D : va_G) (cI cB : ClassId) (ad : Nat → Nat) {A : Nat → Prop} (hA : adOk ad A) (fu : Nat) (V : VT) (p1 : Int32) (p2 : Int32)  (hp : p_X8_composes fu V p1 p2) : Met l yX8_composes wsX8_composes ({ frames := 3, cells := 0, slots := 0, locals := 74 }) (cP D cI cB ad V [.ref (ad 48), .int p1, .int p2]) (cWi D cI cB ad A (f_X8_composes fu V p1 p2)) 0 0 A := by
  refine Met.ofW (cc := cX8_composes) (maxL := 8) (ret := (some .boolean)) (by decide +kernel) rfl ?_
  intro p e s m args below meth c s₁ B hml hv
  obtain ⟨rfl, hP, hKN⟩ := hv
  have hK := hKN.1
  have hx := B.exec
  have hb := B.bytes
  have hr := B.returns
  have hts := atoms_spec (ws := wsX8_composes) B.pre
  have hown : s.vm.findClass RX8 = some m.cls := findClass_of_methodNamed B.named
  have hlocks := B.notSynchronized
  have hS : va_S A s.heap s.heap [] := va_S.rf
  have hl := lv_entry ([.ref (ad 48), .int p1, .int p2]) (n := 8) (Nat.le_of_ble_eq_true rfl)
  rw [lg_entry_eq]
  generalize (lg_sl ([.ref (ad 48), .int p1, .int p2]) ++ List.replicate (8 - (lg_sl ([.ref (ad 48), .int p1, .int p2])).length) Slot.unset).toArray = ls at hl ⊢
  have hl : lv_has ls 8 [(0, .ref (ad 48)), (1, .int p1), (2, .int p2)] := hl
  have hE : f_X8_composes fu V p1 p2 = (f_X8_composes_l1 fu p1 p2 fu (upV (upV V 48 3 (-1)) 48 4 (-1)) ((f_X8_drawn V p1) ^^^ (f_X8_turned fu V (f_X8_drawn V p2))) ((f_X8_drawn V p1) &&& (((f_X8_drawn V p1) ^^^ (f_X8_turned fu V (f_X8_drawn V p2))) ^^^ (-1))) 0 1) := rfl
  refine lv_aload_n hx hb dX8_composes_0 rfl (lv_at hl 0 rfl) ?_
  refine lv_iload_n hx hb dX8_composes_1 rfl (lv_at hl 1 rfl) ?_
  obtain ⟨hn1, hp⟩ := hp
  refine k_VR (As := [.int p1]) (rest := []) (q := 48) ⟨hx, hb, hml, hown, hts⟩ hKN hP hS (m_X8_drawn l D cI cB ad V p1 hn1) (cwV 1 hts gX8_composes_X8_drawn rfl rfl rfl (by decide +kernel) ⟨(Nat.le_of_ble_eq_true rfl), (Nat.le_of_ble_eq_true rfl)⟩) (c_preV hP hKN (q := 48) (ci := 6) (fs := [.ref (ad 49), .ref (ad 50), .ref (ad 51), .int ((V 48) 0), .ref (ad 52), .int ((V 48) 1), .ref (ad 53), .int ((V 48) 2), .int ((V 48) 3), .int ((V 48) 4), .int ((V 48) 5), .int ((V 48) 6), .int ((V 48) 7)]) (by decide) (ce_md ad cI cB (V 48)) rfl rfl) rfl hl.1 rfl (Nat.le_of_ble_eq_true rfl) dX8_composes_2 ⟨Nat.zero_le _, Nat.zero_le _⟩ (fun H locs hP hS => ?_)
  refine lv_istore_n (lv' := [(3, .int (f_X8_drawn V p1)), (0, .ref (ad 48)), (1, .int p1), (2, .int p2)]) hx hb dX8_composes_5 rfl hl (by decide) rfl (fun ls hl => ?_)
  refine lv_iload_n hx hb dX8_composes_6 rfl (lv_at hl 0 rfl) ?_
  refine lv_aload_n hx hb dX8_composes_7 rfl (lv_at hl 1 rfl) ?_
  refine lv_iload_n hx hb dX8_composes_8 rfl (lv_at hl 3 rfl) ?_
  obtain ⟨hn2, hp⟩ := hp
  refine k_VR (As := [.int p2]) (rest := [.int (f_X8_drawn V p1)]) (q := 48) ⟨hx, hb, hml, hown, hts⟩ hKN hP hS (m_X8_drawn l D cI cB ad V p2 hn2) (cwV 1 hts gX8_composes_X8_drawn rfl rfl rfl (by decide +kernel) ⟨(Nat.le_of_ble_eq_true rfl), (Nat.le_of_ble_eq_true rfl)⟩) (c_preV hP hKN (q := 48) (ci := 6) (fs := [.ref (ad 49), .ref (ad 50), .ref (ad 51), .int ((V 48) 0), .ref (ad 52), .int ((V 48) 1), .ref (ad 53), .int ((V 48) 2), .int ((V 48) 3), .int ((V 48) 4), .int ((V 48) 5), .int ((V 48) 6), .int ((V 48) 7)]) (by decide) (ce_md ad cI cB (V 48)) rfl rfl) rfl hl.1 rfl (Nat.le_of_ble_eq_true rfl) dX8_composes_9 ⟨Nat.zero_le _, Nat.zero_le _⟩ (fun H locs hP hS => ?_)
  obtain ⟨hn3, hp⟩ := hp
  refine k_SR (As := [.int (f_X8_drawn V p2)]) (rest := [.int (f_X8_drawn V p1)]) ⟨hx, hb, hml, hown, hts⟩ hKN hP hS (m_X8_turned l D cI cB ad fu V (f_X8_drawn V p2) hn3) (va_cwS 1 hts gX8_composes_X8_turned rfl rfl rfl (by decide +kernel) ⟨(Nat.le_of_ble_eq_true rfl), (Nat.le_of_ble_eq_true rfl)⟩) rfl hl.1 rfl (Nat.le_of_ble_eq_true rfl) dX8_composes_12 ⟨Nat.zero_le _, Nat.zero_le _⟩ (fun H locs hP hS => ?_)
  refine lv_ixor hx hb dX8_composes_15 ?_
  refine lv_istore (lv' := [(4, .int ((f_X8_drawn V p1) ^^^ (f_X8_turned fu V (f_X8_drawn V p2)))), (3, .int (f_X8_drawn V p1)), (0, .ref (ad 48)), (1, .int p1), (2, .int p2)]) hx hb dX8_composes_16 hl (by decide) rfl (fun ls hl => ?_)
  refine lv_iload_n hx hb dX8_composes_18 rfl (lv_at hl 1 rfl) ?_
  refine lv_iload hx hb dX8_composes_19 (lv_at hl 0 rfl) ?_
  refine lv_iconst (v := (-1)) hx hb dX8_composes_21 (by decide) ?_
  refine lv_ixor hx hb dX8_composes_22 ?_
  refine lv_iand hx hb dX8_composes_23 ?_
  refine lv_istore (lv' := [(5, .int ((f_X8_drawn V p1) &&& (((f_X8_drawn V p1) ^^^ (f_X8_turned fu V (f_X8_drawn V p2))) ^^^ (-1)))), (4, .int ((f_X8_drawn V p1) ^^^ (f_X8_turned fu V (f_X8_drawn V p2)))), (3, .int (f_X8_drawn V p1)), (0, .ref (ad 48)), (1, .int p1), (2, .int p2)]) hx hb dX8_composes_24 hl (by decide) rfl (fun ls hl => ?_)
  refine lv_iconst (v := 0) hx hb dX8_composes_26 (by decide) ?_
  refine lv_istore (lv' := [(6, .int 0), (5, .int ((f_X8_drawn V p1) &&& (((f_X8_drawn V p1) ^^^ (f_X8_turned fu V (f_X8_drawn V p2))) ^^^ (-1)))), (4, .int ((f_X8_drawn V p1) ^^^ (f_X8_turned fu V (f_X8_drawn V p2)))), (3, .int (f_X8_drawn V p1)), (0, .ref (ad 48)), (1, .int p1), (2, .int p2)]) hx hb dX8_composes_27 hl (by decide) rfl (fun ls hl => ?_)
  refine lv_aload_n hx hb dX8_composes_29 rfl (lv_at hl 4 rfl) ?_
  refine lv_iconst (v := (-1)) hx hb dX8_composes_30 (by decide) ?_
  refine x_put (ci := 6) (fs := [.ref (ad 49), .ref (ad 50), .ref (ad 51), .int ((V 48) 0), .ref (ad 52), .int ((V 48) 1), .ref (ad 53), .int ((V 48) 2), .int ((V 48) 3), .int ((V 48) 4), .int ((V 48) 5), .int ((V 48) 6), .int ((V 48) 7)]) (q := 48) (v := .int (-1)) (ty := .int) (N := 13) hx hb hts (fun _ h => List.mem_cons_of_mem _ (List.mem_append_right _ h)) tyX8 tyX8_ok nmX8 hown hK hP hA hS (by decide) (ce_md ad cI cB (V 48)) rfl 8 (by decide) (hts (.fieldLink RX8 39 "TurnedBoardsModel" "composedSign" "I") (List.mem_of_getElem? (i := 1) rfl)) rfl rfl (by decide +kernel) rfl rfl (Nat.le_of_ble_eq_true rfl) 3 (-1) ((ce_md ad cI cB (upd (V 48) 3 (-1))).trans rfl) dX8_composes_31 (fun H locs hP hS => ?_)
  refine lv_aload_n hx hb dX8_composes_34 rfl (lv_at hl 4 rfl) ?_
  refine lv_iconst (v := (-1)) hx hb dX8_composes_35 (by decide) ?_
  refine x_put (ci := 6) (fs := [.ref (ad 49), .ref (ad 50), .ref (ad 51), .int (((upV V 48 3 (-1)) 48) 0), .ref (ad 52), .int (((upV V 48 3 (-1)) 48) 1), .ref (ad 53), .int (((upV V 48 3 (-1)) 48) 2), .int (((upV V 48 3 (-1)) 48) 3), .int (((upV V 48 3 (-1)) 48) 4), .int (((upV V 48 3 (-1)) 48) 5), .int (((upV V 48 3 (-1)) 48) 6), .int (((upV V 48 3 (-1)) 48) 7)]) (q := 48) (v := .int (-1)) (ty := .int) (N := 13) hx hb hts (fun _ h => List.mem_cons_of_mem _ (List.mem_append_right _ h)) tyX8 tyX8_ok nmX8 hown hK hP hA hS (by decide) (ce_md ad cI cB ((upV V 48 3 (-1)) 48)) rfl 9 (by decide) (hts (.fieldLink RX8 42 "TurnedBoardsModel" "composedMargin" "I") (List.mem_of_getElem? (i := 2) rfl)) rfl rfl (by decide +kernel) rfl rfl (Nat.le_of_ble_eq_true rfl) 4 (-1) ((ce_md ad cI cB (upd ((upV V 48 3 (-1)) 48) 4 (-1))).trans rfl) dX8_composes_36 (fun H locs hP hS => ?_)
  refine lv_iconst (v := 1) hx hb dX8_composes_39 (by decide) ?_
  refine lv_istore (lv' := [(7, .int 1), (6, .int 0), (5, .int ((f_X8_drawn V p1) &&& (((f_X8_drawn V p1) ^^^ (f_X8_turned fu V (f_X8_drawn V p2))) ^^^ (-1)))), (4, .int ((f_X8_drawn V p1) ^^^ (f_X8_turned fu V (f_X8_drawn V p2)))), (3, .int (f_X8_drawn V p1)), (0, .ref (ad 48)), (1, .int p1), (2, .int p2)]) hx hb dX8_composes_40 hl (by decide) rfl (fun ls hl => ?_)
  have L1 : ∀ (w1 : Nat) (V1 : VT) (x4_1 : Int32) (x5_1 : Int32) (x6_1 : Int32) (x7_1 : Int32), f_X8_composes fu V p1 p2 = f_X8_composes_l1 fu p1 p2 w1 V1 x4_1 x5_1 x6_1 x7_1 → p_X8_composes_l1 fu p1 p2 w1 V1 x4_1 x5_1 x6_1 x7_1 → ∀ (H : Heap) (locs : List Loc), wP D cI cB ad V1 H → va_S A s.heap H locs → ∀ (ls : Array Slot), lv_has ls 8 [(0, .ref (ad 48)), (1, .int p1), (2, .int p2), (4, .int x4_1), (5, .int x5_1), (6, .int x6_1), (7, .int x7_1)] → W p l e (headSpec wsX8_composes ({ frames := 3, cells := 0, slots := 0, locals := 74 })).room s m ([.ref (ad 48), .int p1, .int p2] : List Value).toArray below meth c H locs 0 0 (MQ below (cWi D cI cB ad A (f_X8_composes fu V p1 p2)) ([.ref (ad 48), .int p1, .int p2] : List Value).toArray s 0 0 A) (F0 m 42 ls []) := by
    intro w1
    induction w1 with
    | zero => intro V1 x4_1 x5_1 x6_1 x7_1 hE hp; exact hp.elim
    | succ w1 ih1 =>
      intro V1 x4_1 x5_1 x6_1 x7_1 hE hp H locs hP hS ls hl
      rw [f_X8_composes_l1] at hE
      rw [p_X8_composes_l1] at hp
      refine lv_iload hx hb dX8_composes_42 (lv_at hl 6 rfl) ?_
      refine lv_if_eq (tgt := 83) hx hb dX8_composes_44 (by decide) (fun c1 => ?_) (fun c1 => ?_)
      · have hE := hE.trans (if_pos c1)
        refine lv_aload_n hx hb dX8_composes_83 rfl (lv_at hl 0 rfl) ?_
        refine x_get (ci := 6) (fs := [.ref (ad 49), .ref (ad 50), .ref (ad 51), .int ((V1 48) 0), .ref (ad 52), .int ((V1 48) 1), .ref (ad 53), .int ((V1 48) 2), .int ((V1 48) 3), .int ((V1 48) 4), .int ((V1 48) 5), .int ((V1 48) 6), .int ((V1 48) 7)]) (q := 48) (v := .int (V1 48 3)) (N := 13) hx hb hts (fun _ h => List.mem_cons_of_mem _ (List.mem_append_right _ h)) hown hK hP (by decide) (ce_md ad cI cB (V1 48)) rfl 8 (by decide) (hts (.fieldLink RX8 39 "TurnedBoardsModel" "composedSign" "I") (List.mem_of_getElem? (i := 1) rfl)) rfl rfl dX8_composes_84 ?_
        refine lv_if_lt (tgt := 94) hx hb dX8_composes_87 (by decide) (fun c2 => ?_) (fun c2 => ?_)
        · have hE := hE.trans (if_pos c2)
          refine lv_iconst (v := 0) hx hb dX8_composes_94 (by decide) ?_
          exact W.zret (v := 0) hx hb hr rfl (fun t ht hW => ⟨⟨0, V1, rfl, ⟨(congrArg Prod.fst hE).symm, (congrArg Prod.snd hE).symm⟩, by dsimp only; rw [ht]; exact hP⟩, hS.F ht⟩) hS.2.2 dX8_composes_95
        · have hE := hE.trans (if_neg c2)
          refine lv_iconst (v := 1) hx hb dX8_composes_90 (by decide) ?_
          refine lv_goto (tgt := 95) hx hb dX8_composes_91 (by decide) ?_
          exact W.zret (v := 1) hx hb hr rfl (fun t ht hW => ⟨⟨1, V1, rfl, ⟨(congrArg Prod.fst hE).symm, (congrArg Prod.snd hE).symm⟩, by dsimp only; rw [ht]; exact hP⟩, hS.F ht⟩) hS.2.2 dX8_composes_95
      · have hE := hE.trans (if_neg c1)
        have hp := pc_bn hp c1
        refine lv_aload_n hx hb dX8_composes_47 rfl (lv_at hl 0 rfl) ?_
        refine lv_iload hx hb dX8_composes_48 (lv_at hl 4 rfl) ?_
        refine lv_iload hx hb dX8_composes_50 (lv_at hl 5 rfl) ?_
        refine lv_ior hx hb dX8_composes_52 ?_
        refine lv_iload_n hx hb dX8_composes_53 rfl (lv_at hl 1 rfl) ?_
        refine lv_iload_n hx hb dX8_composes_54 rfl (lv_at hl 2 rfl) ?_
        obtain ⟨hn4, hp⟩ := hp
        refine k_VWv (As := [.int (x5_1 ||| x6_1), .int p1, .int p2]) (rest := []) (q := 48) ⟨hx, hb, hml, hown, hts⟩ hKN hP hS (m_X8_tries l D cI cB ad hA fu V1 (x5_1 ||| x6_1) p1 p2 hn4) (cwV 3 hts gX8_composes_X8_tries rfl rfl rfl (by decide +kernel) ⟨(Nat.le_of_ble_eq_true rfl), (Nat.le_of_ble_eq_true rfl)⟩) (c_preV hP hKN (q := 48) (ci := 6) (fs := [.ref (ad 49), .ref (ad 50), .ref (ad 51), .int ((V1 48) 0), .ref (ad 52), .int ((V1 48) 1), .ref (ad 53), .int ((V1 48) 2), .int ((V1 48) 3), .int ((V1 48) 4), .int ((V1 48) 5), .int ((V1 48) 6), .int ((V1 48) 7)]) (by decide) (ce_md ad cI cB (V1 48)) rfl rfl) rfl hl.1 rfl (Nat.le_of_ble_eq_true rfl) dX8_composes_55 ⟨Nat.zero_le _, Nat.zero_le _⟩ (fun H locs hP hS => ?_)
        refine lv_iload hx hb dX8_composes_58 (lv_at hl 5 rfl) ?_
        refine lv_iload hx hb dX8_composes_60 (lv_at hl 3 rfl) ?_
        refine lv_isub hx hb dX8_composes_62 ?_
        refine lv_iload hx hb dX8_composes_63 (lv_at hl 3 rfl) ?_
        refine lv_iand hx hb dX8_composes_65 ?_
        refine lv_istore (lv' := [(6, .int ((x6_1 - x4_1) &&& x4_1)), (0, .ref (ad 48)), (1, .int p1), (2, .int p2), (4, .int x4_1), (5, .int x5_1), (7, .int x7_1)]) hx hb dX8_composes_66 hl (by decide) rfl (fun ls hl => ?_)
        refine lv_iload hx hb dX8_composes_68 (lv_at hl 0 rfl) ?_
        refine lv_if_eq (tgt := 77) hx hb dX8_composes_70 (by decide) (fun c3 => ?_) (fun c3 => ?_)
        · have hE := hE.trans (if_pos c3)
          have hp := pc_br hp c3
          refine lv_iconst (v := 0) hx hb dX8_composes_77 (by decide) ?_
          refine lv_istore (lv' := [(7, .int 0), (6, .int ((x6_1 - x4_1) &&& x4_1)), (0, .ref (ad 48)), (1, .int p1), (2, .int p2), (4, .int x4_1), (5, .int x5_1)]) hx hb dX8_composes_78 hl (by decide) rfl (fun ls hl => ?_)
          refine lv_goto (tgt := 42) hx hb dX8_composes_80 (by decide) ?_
          exact ih1 (f_X8_tries fu V1 (x5_1 ||| x6_1) p1 p2) x4_1 x5_1 ((x6_1 - x4_1) &&& x4_1) 0 hE hp H locs hP hS ls (lv_sub hl [2, 3, 4, 5, 6, 1, 0] rfl)
        · have hE := hE.trans (if_neg c3)
          have hp := pc_bn hp c3
          refine lv_iconst (v := 1) hx hb dX8_composes_73 (by decide) ?_
          refine lv_goto (tgt := 78) hx hb dX8_composes_74 (by decide) ?_
          refine lv_istore (lv' := [(7, .int 1), (6, .int ((x6_1 - x4_1) &&& x4_1)), (0, .ref (ad 48)), (1, .int p1), (2, .int p2), (4, .int x4_1), (5, .int x5_1)]) hx hb dX8_composes_78 hl (by decide) rfl (fun ls hl => ?_)
          refine lv_goto (tgt := 42) hx hb dX8_composes_80 (by decide) ?_
          exact ih1 (f_X8_tries fu V1 (x5_1 ||| x6_1) p1 p2) x4_1 x5_1 ((x6_1 - x4_1) &&& x4_1) 1 hE hp H locs hP hS ls (lv_sub hl [2, 3, 4, 5, 6, 1, 0] rfl)
  exact L1 fu (upV (upV V 48 3 (-1)) 48 4 (-1)) ((f_X8_drawn V p1) ^^^ (f_X8_turned fu V (f_X8_drawn V p2))) ((f_X8_drawn V p1) &&& (((f_X8_drawn V p1) ^^^ (f_X8_turned fu V (f_X8_drawn V p2))) ^^^ (-1))) 0 1 hE hp _ _ hP hS _ (lv_sub hl [5, 6, 7, 3, 2, 1, 0] rfl)
def f_X8_areDrawn (V : VT) (p1 : Int32) (p2 : Int32) : Int32 := (if (f_X8_drawn V p1) < 0 then 0 else (if (f_X8_drawn V p2) < 0 then 0 else 1))
def p_X8_areDrawn (V : VT) (p1 : Int32) (p2 : Int32) : Prop := ((p_X8_drawn V p1) ∧ (((f_X8_drawn V p1) < 0 → True) ∧ (¬ ((f_X8_drawn V p1) < 0) → (p_X8_drawn V p2))))
set_option maxHeartbeats 4000000 in
set_option maxRecDepth 100000 in
theorem m_X8_areDrawn (l : Launch) (D : va_G) (cI cB : ClassId) (ad : Nat → Nat) (V : VT) (p1 : Int32) (p2 : Int32)  (hp : p_X8_areDrawn V p1 p2) : Met l yX8_areDrawn wsX8_areDrawn ({ frames := 1, cells := 0, slots := 0, locals := 21 }) (cP D cI cB ad V [.ref (ad 48), .int p1, .int p2]) (cR (f_X8_areDrawn V p1 p2)) 0 0 (fun _ => False) := by
  refine Met.ofW (cc := cX8_areDrawn) (maxL := 3) (ret := (some .boolean)) (by decide +kernel) rfl ?_
  intro p e s m args below meth c s₁ B hml hv
  obtain ⟨rfl, hP, hKN⟩ := hv
  have hK := hKN.1
  have hx := B.exec
  have hb := B.bytes
  have hr := B.returns
  have hts := atoms_spec (ws := wsX8_areDrawn) B.pre
  have hown : s.vm.findClass RX8 = some m.cls := findClass_of_methodNamed B.named
  have hlocks := B.notSynchronized
  have hS : va_S (fun _ => False) s.heap s.heap [] := va_S.rf
  have hl := lv_entry ([.ref (ad 48), .int p1, .int p2]) (n := 3) (Nat.le_of_ble_eq_true rfl)
  rw [lg_entry_eq]
  generalize (lg_sl ([.ref (ad 48), .int p1, .int p2]) ++ List.replicate (3 - (lg_sl ([.ref (ad 48), .int p1, .int p2])).length) Slot.unset).toArray = ls at hl ⊢
  have hl : lv_has ls 3 [(0, .ref (ad 48)), (1, .int p1), (2, .int p2)] := hl
  have hE : f_X8_areDrawn V p1 p2 = (if (f_X8_drawn V p1) < 0 then 0 else (if (f_X8_drawn V p2) < 0 then 0 else 1)) := rfl
  refine lv_aload_n hx hb dX8_areDrawn_0 rfl (lv_at hl 0 rfl) ?_
  refine lv_iload_n hx hb dX8_areDrawn_1 rfl (lv_at hl 1 rfl) ?_
  obtain ⟨hn1, hp⟩ := hp
  refine k_VR (As := [.int p1]) (rest := []) (q := 48) ⟨hx, hb, hml, hown, hts⟩ hKN hP hS (m_X8_drawn l D cI cB ad V p1 hn1) (cwV 1 hts gX8_areDrawn_X8_drawn rfl rfl rfl (by decide +kernel) ⟨(Nat.le_of_ble_eq_true rfl), (Nat.le_of_ble_eq_true rfl)⟩) (c_preV hP hKN (q := 48) (ci := 6) (fs := [.ref (ad 49), .ref (ad 50), .ref (ad 51), .int ((V 48) 0), .ref (ad 52), .int ((V 48) 1), .ref (ad 53), .int ((V 48) 2), .int ((V 48) 3), .int ((V 48) 4), .int ((V 48) 5), .int ((V 48) 6), .int ((V 48) 7)]) (by decide) (ce_md ad cI cB (V 48)) rfl rfl) rfl hl.1 rfl (Nat.le_of_ble_eq_true rfl) dX8_areDrawn_2 ⟨Nat.zero_le _, Nat.zero_le _⟩ (fun H locs hP hS => ?_)
  refine lv_if_lt (tgt := 20) hx hb dX8_areDrawn_5 (by decide) (fun c1 => ?_) (fun c1 => ?_)
  · have hE := hE.trans (if_pos c1)
    refine lv_iconst (v := 0) hx hb dX8_areDrawn_20 (by decide) ?_
    exact W.zret (v := 0) hx hb hr rfl (fun t ht hW => ⟨⟨0, (), rfl, hE.symm, trivial⟩, hS.F ht⟩) hS.2.2 dX8_areDrawn_21
  · have hE := hE.trans (if_neg c1)
    have hp := pc_bn hp c1
    refine lv_aload_n hx hb dX8_areDrawn_8 rfl (lv_at hl 0 rfl) ?_
    refine lv_iload_n hx hb dX8_areDrawn_9 rfl (lv_at hl 2 rfl) ?_
    have hn2 := hp
    refine k_VR (As := [.int p2]) (rest := []) (q := 48) ⟨hx, hb, hml, hown, hts⟩ hKN hP hS (m_X8_drawn l D cI cB ad V p2 hn2) (cwV 1 hts gX8_areDrawn_X8_drawn rfl rfl rfl (by decide +kernel) ⟨(Nat.le_of_ble_eq_true rfl), (Nat.le_of_ble_eq_true rfl)⟩) (c_preV hP hKN (q := 48) (ci := 6) (fs := [.ref (ad 49), .ref (ad 50), .ref (ad 51), .int ((V 48) 0), .ref (ad 52), .int ((V 48) 1), .ref (ad 53), .int ((V 48) 2), .int ((V 48) 3), .int ((V 48) 4), .int ((V 48) 5), .int ((V 48) 6), .int ((V 48) 7)]) (by decide) (ce_md ad cI cB (V 48)) rfl rfl) rfl hl.1 rfl (Nat.le_of_ble_eq_true rfl) dX8_areDrawn_10 ⟨Nat.zero_le _, Nat.zero_le _⟩ (fun H locs hP hS => ?_)
    refine lv_if_lt (tgt := 20) hx hb dX8_areDrawn_13 (by decide) (fun c2 => ?_) (fun c2 => ?_)
    · have hE := hE.trans (if_pos c2)
      refine lv_iconst (v := 0) hx hb dX8_areDrawn_20 (by decide) ?_
      exact W.zret (v := 0) hx hb hr rfl (fun t ht hW => ⟨⟨0, (), rfl, hE.symm, trivial⟩, hS.F ht⟩) hS.2.2 dX8_areDrawn_21
    · have hE := hE.trans (if_neg c2)
      refine lv_iconst (v := 1) hx hb dX8_areDrawn_16 (by decide) ?_
      refine lv_goto (tgt := 21) hx hb dX8_areDrawn_17 (by decide) ?_
      exact W.zret (v := 1) hx hb hr rfl (fun t ht hW => ⟨⟨1, (), rfl, hE.symm, trivial⟩, hS.F ht⟩) hS.2.2 dX8_areDrawn_21
def f_X8_isPlace (V : VT) (p1 : Int32) : Int32 := (f_X8_in V p1 0 ((V 49 (0 : Int32).toNatClampNeg) - 1))
def p_X8_isPlace (V : VT) (p1 : Int32) : Prop := (isB (f_X8_in V p1 0 ((V 49 (0 : Int32).toNatClampNeg) - 1)))
set_option maxHeartbeats 4000000 in
set_option maxRecDepth 100000 in
theorem m_X8_isPlace (l : Launch) (D : va_G) (cI cB : ClassId) (ad : Nat → Nat) (V : VT) (p1 : Int32)  (hp : p_X8_isPlace V p1) : Met l yX8_isPlace wsX8_isPlace ({ frames := 1, cells := 0, slots := 0, locals := 22 }) (cP D cI cB ad V [.ref (ad 48), .int p1]) (cR (f_X8_isPlace V p1)) 0 0 (fun _ => False) := by
  refine Met.ofW (cc := cX8_isPlace) (maxL := 2) (ret := (some .boolean)) (by decide +kernel) rfl ?_
  intro p e s m args below meth c s₁ B hml hv
  obtain ⟨rfl, hP, hKN⟩ := hv
  have hK := hKN.1
  have hx := B.exec
  have hb := B.bytes
  have hr := B.returns
  have hts := atoms_spec (ws := wsX8_isPlace) B.pre
  have hown : s.vm.findClass RX8 = some m.cls := findClass_of_methodNamed B.named
  have hlocks := B.notSynchronized
  have hS : va_S (fun _ => False) s.heap s.heap [] := va_S.rf
  have hl := lv_entry ([.ref (ad 48), .int p1]) (n := 2) (Nat.le_of_ble_eq_true rfl)
  rw [lg_entry_eq]
  generalize (lg_sl ([.ref (ad 48), .int p1]) ++ List.replicate (2 - (lg_sl ([.ref (ad 48), .int p1])).length) Slot.unset).toArray = ls at hl ⊢
  have hl : lv_has ls 2 [(0, .ref (ad 48)), (1, .int p1)] := hl
  have hE : f_X8_isPlace V p1 = (f_X8_in V p1 0 ((V 49 (0 : Int32).toNatClampNeg) - 1)) := rfl
  refine lv_iload_n hx hb dX8_isPlace_0 rfl (lv_at hl 1 rfl) ?_
  refine lv_iconst (v := 0) hx hb dX8_isPlace_1 (by decide) ?_
  refine lv_aload_n hx hb dX8_isPlace_2 rfl (lv_at hl 0 rfl) ?_
  refine x_get (ci := 6) (fs := [.ref (ad 49), .ref (ad 50), .ref (ad 51), .int ((V 48) 0), .ref (ad 52), .int ((V 48) 1), .ref (ad 53), .int ((V 48) 2), .int ((V 48) 3), .int ((V 48) 4), .int ((V 48) 5), .int ((V 48) 6), .int ((V 48) 7)]) (q := 48) (v := .ref (ad 49)) (N := 13) hx hb hts (fun _ h => List.mem_cons_of_mem _ (List.mem_append_right _ h)) hown hK hP (by decide) (ce_md ad cI cB (V 48)) rfl 0 (by decide) (hts (.fieldLink RX8 7 "TurnedBoardsModel" "s" "[I") (List.mem_of_getElem? (i := 1) rfl)) rfl rfl dX8_isPlace_3 ?_
  refine lv_iconst (v := 0) hx hb dX8_isPlace_6 (by decide) ?_
  refine x_iald hx hb hK hP ⟨by decide, fun _ => rfl, by decide⟩ (vp_lit (i := 0) (n := 49) (by decide) (by decide)) dX8_isPlace_7 ?_
  refine lv_iconst (v := 1) hx hb dX8_isPlace_8 (by decide) ?_
  refine lv_isub hx hb dX8_isPlace_9 ?_
  refine k_SR (As := [.int p1, .int 0, .int ((V 49 (0 : Int32).toNatClampNeg) - 1)]) (rest := []) ⟨hx, hb, hml, hown, hts⟩ hKN hP hS (m_X8_in l D cI cB ad V p1 0 ((V 49 (0 : Int32).toNatClampNeg) - 1)) (va_cwS 3 hts gX8_isPlace_X8_in rfl rfl rfl (by decide +kernel) ⟨(Nat.le_of_ble_eq_true rfl), (Nat.le_of_ble_eq_true rfl)⟩) rfl hl.1 rfl (Nat.le_of_ble_eq_true rfl) dX8_isPlace_10 ⟨Nat.zero_le _, Nat.zero_le _⟩ (fun H locs hP hS => ?_)
  have hn1 := hp
  exact W.zret (v := (f_X8_in V p1 0 ((V 49 (0 : Int32).toNatClampNeg) - 1))) hx hb hr hn1.n (fun t ht hW => ⟨⟨(f_X8_in V p1 0 ((V 49 (0 : Int32).toNatClampNeg) - 1)), (), rfl, hE.symm, trivial⟩, hS.F ht⟩) hS.2.2 dX8_isPlace_13
def f_X8_signOf (V : VT) (p1 : Int32) : Int32 := (V 49 (17 + (2 * p1)).toNatClampNeg)
def p_X8_signOf (V : VT) (p1 : Int32) : Prop := (vp_in (17 + (2 * p1)) 49)
set_option maxHeartbeats 4000000 in
set_option maxRecDepth 100000 in
theorem m_X8_signOf (l : Launch) (D : va_G) (cI cB : ClassId) (ad : Nat → Nat) (V : VT) (p1 : Int32)  (hp : p_X8_signOf V p1) : Met l yX8_signOf wsX8_signOf ({ frames := 0, cells := 0, slots := 0, locals := 0 }) (cP D cI cB ad V [.ref (ad 48), .int p1]) (cR (f_X8_signOf V p1)) 0 0 (fun _ => False) := by
  refine Met.ofW (cc := cX8_signOf) (maxL := 2) (ret := (some .int)) (by decide +kernel) rfl ?_
  intro p e s m args below meth c s₁ B hml hv
  obtain ⟨rfl, hP, hKN⟩ := hv
  have hK := hKN.1
  have hx := B.exec
  have hb := B.bytes
  have hr := B.returns
  have hts := atoms_spec (ws := wsX8_signOf) B.pre
  have hown : s.vm.findClass RX8 = some m.cls := findClass_of_methodNamed B.named
  have hlocks := B.notSynchronized
  have hS : va_S (fun _ => False) s.heap s.heap [] := va_S.rf
  have hl := lv_entry ([.ref (ad 48), .int p1]) (n := 2) (Nat.le_of_ble_eq_true rfl)
  rw [lg_entry_eq]
  generalize (lg_sl ([.ref (ad 48), .int p1]) ++ List.replicate (2 - (lg_sl ([.ref (ad 48), .int p1])).length) Slot.unset).toArray = ls at hl ⊢
  have hl : lv_has ls 2 [(0, .ref (ad 48)), (1, .int p1)] := hl
  have hE : f_X8_signOf V p1 = (V 49 (17 + (2 * p1)).toNatClampNeg) := rfl
  refine lv_aload_n hx hb dX8_signOf_0 rfl (lv_at hl 0 rfl) ?_
  refine x_get (ci := 6) (fs := [.ref (ad 49), .ref (ad 50), .ref (ad 51), .int ((V 48) 0), .ref (ad 52), .int ((V 48) 1), .ref (ad 53), .int ((V 48) 2), .int ((V 48) 3), .int ((V 48) 4), .int ((V 48) 5), .int ((V 48) 6), .int ((V 48) 7)]) (q := 48) (v := .ref (ad 49)) (N := 13) hx hb hts (fun _ h => List.mem_cons_of_mem _ (List.mem_append_right _ h)) hown hK hP (by decide) (ce_md ad cI cB (V 48)) rfl 0 (by decide) (hts (.fieldLink RX8 7 "TurnedBoardsModel" "s" "[I") (List.mem_of_getElem? (i := 1) rfl)) rfl rfl dX8_signOf_1 ?_
  refine lv_bipush (v := 17) hx hb dX8_signOf_4 (by decide) ?_
  refine lv_iconst (v := 2) hx hb dX8_signOf_6 (by decide) ?_
  refine lv_iload_n hx hb dX8_signOf_7 rfl (lv_at hl 1 rfl) ?_
  refine lv_imul hx hb dX8_signOf_8 ?_
  refine lv_iadd hx hb dX8_signOf_9 ?_
  have hn1 := hp
  refine x_iald hx hb hK hP ⟨by decide, fun _ => rfl, by decide⟩ hn1 dX8_signOf_10 ?_
  exact W.iret (v := (V 49 (17 + (2 * p1)).toNatClampNeg)) hx hb hr (fun t ht hW => ⟨⟨(V 49 (17 + (2 * p1)).toNatClampNeg), (), rfl, hE.symm, trivial⟩, hS.F ht⟩) hS.2.2 dX8_signOf_11
def f_X8_coats (V : VT) (p1 : Int32) : Int32 := (V 49 ((17 + (2 * p1)) + 1).toNatClampNeg)
def p_X8_coats (V : VT) (p1 : Int32) : Prop := (vp_in ((17 + (2 * p1)) + 1) 49)
set_option maxHeartbeats 4000000 in
set_option maxRecDepth 100000 in
theorem m_X8_coats (l : Launch) (D : va_G) (cI cB : ClassId) (ad : Nat → Nat) (V : VT) (p1 : Int32)  (hp : p_X8_coats V p1) : Met l yX8_coats wsX8_coats ({ frames := 0, cells := 0, slots := 0, locals := 0 }) (cP D cI cB ad V [.ref (ad 48), .int p1]) (cR (f_X8_coats V p1)) 0 0 (fun _ => False) := by
  refine Met.ofW (cc := cX8_coats) (maxL := 2) (ret := (some .int)) (by decide +kernel) rfl ?_
  intro p e s m args below meth c s₁ B hml hv
  obtain ⟨rfl, hP, hKN⟩ := hv
  have hK := hKN.1
  have hx := B.exec
  have hb := B.bytes
  have hr := B.returns
  have hts := atoms_spec (ws := wsX8_coats) B.pre
  have hown : s.vm.findClass RX8 = some m.cls := findClass_of_methodNamed B.named
  have hlocks := B.notSynchronized
  have hS : va_S (fun _ => False) s.heap s.heap [] := va_S.rf
  have hl := lv_entry ([.ref (ad 48), .int p1]) (n := 2) (Nat.le_of_ble_eq_true rfl)
  rw [lg_entry_eq]
  generalize (lg_sl ([.ref (ad 48), .int p1]) ++ List.replicate (2 - (lg_sl ([.ref (ad 48), .int p1])).length) Slot.unset).toArray = ls at hl ⊢
  have hl : lv_has ls 2 [(0, .ref (ad 48)), (1, .int p1)] := hl
  have hE : f_X8_coats V p1 = (V 49 ((17 + (2 * p1)) + 1).toNatClampNeg) := rfl
  refine lv_aload_n hx hb dX8_coats_0 rfl (lv_at hl 0 rfl) ?_
  refine x_get (ci := 6) (fs := [.ref (ad 49), .ref (ad 50), .ref (ad 51), .int ((V 48) 0), .ref (ad 52), .int ((V 48) 1), .ref (ad 53), .int ((V 48) 2), .int ((V 48) 3), .int ((V 48) 4), .int ((V 48) 5), .int ((V 48) 6), .int ((V 48) 7)]) (q := 48) (v := .ref (ad 49)) (N := 13) hx hb hts (fun _ h => List.mem_cons_of_mem _ (List.mem_append_right _ h)) hown hK hP (by decide) (ce_md ad cI cB (V 48)) rfl 0 (by decide) (hts (.fieldLink RX8 7 "TurnedBoardsModel" "s" "[I") (List.mem_of_getElem? (i := 1) rfl)) rfl rfl dX8_coats_1 ?_
  refine lv_bipush (v := 17) hx hb dX8_coats_4 (by decide) ?_
  refine lv_iconst (v := 2) hx hb dX8_coats_6 (by decide) ?_
  refine lv_iload_n hx hb dX8_coats_7 rfl (lv_at hl 1 rfl) ?_
  refine lv_imul hx hb dX8_coats_8 ?_
  refine lv_iadd hx hb dX8_coats_9 ?_
  refine lv_iconst (v := 1) hx hb dX8_coats_10 (by decide) ?_
  refine lv_iadd hx hb dX8_coats_11 ?_
  have hn1 := hp
  refine x_iald hx hb hK hP ⟨by decide, fun _ => rfl, by decide⟩ hn1 dX8_coats_12 ?_
  exact W.iret (v := (V 49 ((17 + (2 * p1)) + 1).toNatClampNeg)) hx hb hr (fun t ht hW => ⟨⟨(V 49 ((17 + (2 * p1)) + 1).toNatClampNeg), (), rfl, hE.symm, trivial⟩, hS.F ht⟩) hS.2.2 dX8_coats_13
def v_X8_lays_1 (V : VT) (p1 : Int32) (p2 : Int32) : VT := (upV (upV V 49 (17 + (2 * p1)).toNatClampNeg p2) 49 ((17 + (2 * p1)) + 1).toNatClampNeg ((upV V 49 (17 + (2 * p1)).toNatClampNeg p2) 49 (5 : Int32).toNatClampNeg))
def f_X8_lays (V : VT) (p1 : Int32) (p2 : Int32) : VT := (v_X8_lays_1 V p1 p2)
def p_X8_lays (V : VT) (p1 : Int32) (p2 : Int32) : Prop := ((vp_in (17 + (2 * p1)) 49) ∧ (vp_in ((17 + (2 * p1)) + 1) 49))
set_option maxHeartbeats 4000000 in
set_option maxRecDepth 100000 in
theorem m_X8_lays (l : Launch) (D : va_G) (cI cB : ClassId) (ad : Nat → Nat) {A : Nat → Prop} (hA : adOk ad A) (V : VT) (p1 : Int32) (p2 : Int32)  (hp : p_X8_lays V p1 p2) : Met l yX8_lays wsX8_lays ({ frames := 0, cells := 0, slots := 0, locals := 0 }) (cP D cI cB ad V [.ref (ad 48), .int p1, .int p2]) (cWv D cI cB ad A (f_X8_lays V p1 p2)) 0 0 A := by
  refine Met.ofW (cc := cX8_lays) (maxL := 3) (ret := none) (by decide +kernel) rfl ?_
  intro p e s m args below meth c s₁ B hml hv
  obtain ⟨rfl, hP, hKN⟩ := hv
  have hK := hKN.1
  have hx := B.exec
  have hb := B.bytes
  have hr := B.returns
  have hts := atoms_spec (ws := wsX8_lays) B.pre
  have hown : s.vm.findClass RX8 = some m.cls := findClass_of_methodNamed B.named
  have hlocks := B.notSynchronized
  have hS : va_S A s.heap s.heap [] := va_S.rf
  have hl := lv_entry ([.ref (ad 48), .int p1, .int p2]) (n := 3) (Nat.le_of_ble_eq_true rfl)
  rw [lg_entry_eq]
  generalize (lg_sl ([.ref (ad 48), .int p1, .int p2]) ++ List.replicate (3 - (lg_sl ([.ref (ad 48), .int p1, .int p2])).length) Slot.unset).toArray = ls at hl ⊢
  have hl : lv_has ls 3 [(0, .ref (ad 48)), (1, .int p1), (2, .int p2)] := hl
  have hE : f_X8_lays V p1 p2 = (v_X8_lays_1 V p1 p2) := rfl
  refine lv_aload_n hx hb dX8_lays_0 rfl (lv_at hl 0 rfl) ?_
  refine x_get (ci := 6) (fs := [.ref (ad 49), .ref (ad 50), .ref (ad 51), .int ((V 48) 0), .ref (ad 52), .int ((V 48) 1), .ref (ad 53), .int ((V 48) 2), .int ((V 48) 3), .int ((V 48) 4), .int ((V 48) 5), .int ((V 48) 6), .int ((V 48) 7)]) (q := 48) (v := .ref (ad 49)) (N := 13) hx hb hts (fun _ h => List.mem_cons_of_mem _ (List.mem_append_right _ h)) hown hK hP (by decide) (ce_md ad cI cB (V 48)) rfl 0 (by decide) (hts (.fieldLink RX8 7 "TurnedBoardsModel" "s" "[I") (List.mem_of_getElem? (i := 1) rfl)) rfl rfl dX8_lays_1 ?_
  refine lv_bipush (v := 17) hx hb dX8_lays_4 (by decide) ?_
  refine lv_iconst (v := 2) hx hb dX8_lays_6 (by decide) ?_
  refine lv_iload_n hx hb dX8_lays_7 rfl (lv_at hl 1 rfl) ?_
  refine lv_imul hx hb dX8_lays_8 ?_
  refine lv_iadd hx hb dX8_lays_9 ?_
  refine lv_iload_n hx hb dX8_lays_10 rfl (lv_at hl 2 rfl) ?_
  obtain ⟨hn1, hp⟩ := hp
  refine x_iast hx hb hK hP hA hS ⟨by decide, fun _ => rfl, by decide⟩ hn1 dX8_lays_11 (fun H locs hP hS => ?_)
  refine lv_aload_n hx hb dX8_lays_12 rfl (lv_at hl 0 rfl) ?_
  refine x_get (ci := 6) (fs := [.ref (ad 49), .ref (ad 50), .ref (ad 51), .int (((upV V 49 (17 + (2 * p1)).toNatClampNeg p2) 48) 0), .ref (ad 52), .int (((upV V 49 (17 + (2 * p1)).toNatClampNeg p2) 48) 1), .ref (ad 53), .int (((upV V 49 (17 + (2 * p1)).toNatClampNeg p2) 48) 2), .int (((upV V 49 (17 + (2 * p1)).toNatClampNeg p2) 48) 3), .int (((upV V 49 (17 + (2 * p1)).toNatClampNeg p2) 48) 4), .int (((upV V 49 (17 + (2 * p1)).toNatClampNeg p2) 48) 5), .int (((upV V 49 (17 + (2 * p1)).toNatClampNeg p2) 48) 6), .int (((upV V 49 (17 + (2 * p1)).toNatClampNeg p2) 48) 7)]) (q := 48) (v := .ref (ad 49)) (N := 13) hx hb hts (fun _ h => List.mem_cons_of_mem _ (List.mem_append_right _ h)) hown hK hP (by decide) (ce_md ad cI cB ((upV V 49 (17 + (2 * p1)).toNatClampNeg p2) 48)) rfl 0 (by decide) (hts (.fieldLink RX8 7 "TurnedBoardsModel" "s" "[I") (List.mem_of_getElem? (i := 1) rfl)) rfl rfl dX8_lays_13 ?_
  refine lv_bipush (v := 17) hx hb dX8_lays_16 (by decide) ?_
  refine lv_iconst (v := 2) hx hb dX8_lays_18 (by decide) ?_
  refine lv_iload_n hx hb dX8_lays_19 rfl (lv_at hl 1 rfl) ?_
  refine lv_imul hx hb dX8_lays_20 ?_
  refine lv_iadd hx hb dX8_lays_21 ?_
  refine lv_iconst (v := 1) hx hb dX8_lays_22 (by decide) ?_
  refine lv_iadd hx hb dX8_lays_23 ?_
  refine lv_aload_n hx hb dX8_lays_24 rfl (lv_at hl 0 rfl) ?_
  refine x_get (ci := 6) (fs := [.ref (ad 49), .ref (ad 50), .ref (ad 51), .int (((upV V 49 (17 + (2 * p1)).toNatClampNeg p2) 48) 0), .ref (ad 52), .int (((upV V 49 (17 + (2 * p1)).toNatClampNeg p2) 48) 1), .ref (ad 53), .int (((upV V 49 (17 + (2 * p1)).toNatClampNeg p2) 48) 2), .int (((upV V 49 (17 + (2 * p1)).toNatClampNeg p2) 48) 3), .int (((upV V 49 (17 + (2 * p1)).toNatClampNeg p2) 48) 4), .int (((upV V 49 (17 + (2 * p1)).toNatClampNeg p2) 48) 5), .int (((upV V 49 (17 + (2 * p1)).toNatClampNeg p2) 48) 6), .int (((upV V 49 (17 + (2 * p1)).toNatClampNeg p2) 48) 7)]) (q := 48) (v := .ref (ad 49)) (N := 13) hx hb hts (fun _ h => List.mem_cons_of_mem _ (List.mem_append_right _ h)) hown hK hP (by decide) (ce_md ad cI cB ((upV V 49 (17 + (2 * p1)).toNatClampNeg p2) 48)) rfl 0 (by decide) (hts (.fieldLink RX8 7 "TurnedBoardsModel" "s" "[I") (List.mem_of_getElem? (i := 1) rfl)) rfl rfl dX8_lays_25 ?_
  refine lv_iconst (v := 5) hx hb dX8_lays_28 (by decide) ?_
  refine x_iald hx hb hK hP ⟨by decide, fun _ => rfl, by decide⟩ (vp_lit (i := 5) (n := 49) (by decide) (by decide)) dX8_lays_29 ?_
  have hn2 := hp
  refine x_iast hx hb hK hP hA hS ⟨by decide, fun _ => rfl, by decide⟩ hn2 dX8_lays_30 (fun H locs hP hS => ?_)
  have hP : wP D cI cB ad (v_X8_lays_1 V p1 p2) H := hP
  exact W.vret hx hb hr (fun t ht hW => ⟨⟨(v_X8_lays_1 V p1 p2), rfl, hE.symm, by dsimp only; rw [ht]; exact hP⟩, hS.F ht⟩) hS.2.2 dX8_lays_31
def f_X8_wanted (V : VT) (p1 : Int32) (p2 : Int32) : Int32 := (if p2 = 0 then (V 49 ((33 + (8 * p2)) + p1).toNatClampNeg) else (V 49 ((33 + (8 * p2)) + (((V 49 (0 : Int32).toNatClampNeg) - 1) - p1)).toNatClampNeg))
def p_X8_wanted (V : VT) (p1 : Int32) (p2 : Int32) : Prop := ((p2 = 0 → (vp_in ((33 + (8 * p2)) + p1) 49)) ∧ (¬ (p2 = 0) → (vp_in ((33 + (8 * p2)) + (((V 49 (0 : Int32).toNatClampNeg) - 1) - p1)) 49)))
set_option maxHeartbeats 4000000 in
set_option maxRecDepth 100000 in
theorem m_X8_wanted (l : Launch) (D : va_G) (cI cB : ClassId) (ad : Nat → Nat) (V : VT) (p1 : Int32) (p2 : Int32)  (hp : p_X8_wanted V p1 p2) : Met l yX8_wanted wsX8_wanted ({ frames := 0, cells := 0, slots := 0, locals := 0 }) (cP D cI cB ad V [.ref (ad 48), .int p1, .int p2]) (cR (f_X8_wanted V p1 p2)) 0 0 (fun _ => False) := by
  refine Met.ofW (cc := cX8_wanted) (maxL := 3) (ret := (some .int)) (by decide +kernel) rfl ?_
  intro p e s m args below meth c s₁ B hml hv
  obtain ⟨rfl, hP, hKN⟩ := hv
  have hK := hKN.1
  have hx := B.exec
  have hb := B.bytes
  have hr := B.returns
  have hts := atoms_spec (ws := wsX8_wanted) B.pre
  have hown : s.vm.findClass RX8 = some m.cls := findClass_of_methodNamed B.named
  have hlocks := B.notSynchronized
  have hS : va_S (fun _ => False) s.heap s.heap [] := va_S.rf
  have hl := lv_entry ([.ref (ad 48), .int p1, .int p2]) (n := 3) (Nat.le_of_ble_eq_true rfl)
  rw [lg_entry_eq]
  generalize (lg_sl ([.ref (ad 48), .int p1, .int p2]) ++ List.replicate (3 - (lg_sl ([.ref (ad 48), .int p1, .int p2])).length) Slot.unset).toArray = ls at hl ⊢
  have hl : lv_has ls 3 [(0, .ref (ad 48)), (1, .int p1), (2, .int p2)] := hl
  have hE : f_X8_wanted V p1 p2 = (if p2 = 0 then (V 49 ((33 + (8 * p2)) + p1).toNatClampNeg) else (V 49 ((33 + (8 * p2)) + (((V 49 (0 : Int32).toNatClampNeg) - 1) - p1)).toNatClampNeg)) := rfl
  refine lv_aload_n hx hb dX8_wanted_0 rfl (lv_at hl 0 rfl) ?_
  refine x_get (ci := 6) (fs := [.ref (ad 49), .ref (ad 50), .ref (ad 51), .int ((V 48) 0), .ref (ad 52), .int ((V 48) 1), .ref (ad 53), .int ((V 48) 2), .int ((V 48) 3), .int ((V 48) 4), .int ((V 48) 5), .int ((V 48) 6), .int ((V 48) 7)]) (q := 48) (v := .ref (ad 49)) (N := 13) hx hb hts (fun _ h => List.mem_cons_of_mem _ (List.mem_append_right _ h)) hown hK hP (by decide) (ce_md ad cI cB (V 48)) rfl 0 (by decide) (hts (.fieldLink RX8 7 "TurnedBoardsModel" "s" "[I") (List.mem_of_getElem? (i := 1) rfl)) rfl rfl dX8_wanted_1 ?_
  refine lv_bipush (v := 33) hx hb dX8_wanted_4 (by decide) ?_
  refine lv_bipush (v := 8) hx hb dX8_wanted_6 (by decide) ?_
  refine lv_iload_n hx hb dX8_wanted_8 rfl (lv_at hl 2 rfl) ?_
  refine lv_imul hx hb dX8_wanted_9 ?_
  refine lv_iadd hx hb dX8_wanted_10 ?_
  refine lv_iload_n hx hb dX8_wanted_11 rfl (lv_at hl 2 rfl) ?_
  refine lv_if_ne (tgt := 19) hx hb dX8_wanted_12 (by decide) (fun c1 => ?_) (fun c1 => ?_)
  · have hE := hE.trans (if_neg c1)
    have hp := pc_bn hp c1
    refine lv_aload_n hx hb dX8_wanted_19 rfl (lv_at hl 0 rfl) ?_
    refine x_get (ci := 6) (fs := [.ref (ad 49), .ref (ad 50), .ref (ad 51), .int ((V 48) 0), .ref (ad 52), .int ((V 48) 1), .ref (ad 53), .int ((V 48) 2), .int ((V 48) 3), .int ((V 48) 4), .int ((V 48) 5), .int ((V 48) 6), .int ((V 48) 7)]) (q := 48) (v := .ref (ad 49)) (N := 13) hx hb hts (fun _ h => List.mem_cons_of_mem _ (List.mem_append_right _ h)) hown hK hP (by decide) (ce_md ad cI cB (V 48)) rfl 0 (by decide) (hts (.fieldLink RX8 7 "TurnedBoardsModel" "s" "[I") (List.mem_of_getElem? (i := 1) rfl)) rfl rfl dX8_wanted_20 ?_
    refine lv_iconst (v := 0) hx hb dX8_wanted_23 (by decide) ?_
    refine x_iald hx hb hK hP ⟨by decide, fun _ => rfl, by decide⟩ (vp_lit (i := 0) (n := 49) (by decide) (by decide)) dX8_wanted_24 ?_
    refine lv_iconst (v := 1) hx hb dX8_wanted_25 (by decide) ?_
    refine lv_isub hx hb dX8_wanted_26 ?_
    refine lv_iload_n hx hb dX8_wanted_27 rfl (lv_at hl 1 rfl) ?_
    refine lv_isub hx hb dX8_wanted_28 ?_
    refine lv_iadd hx hb dX8_wanted_29 ?_
    have hn2 := hp
    refine x_iald hx hb hK hP ⟨by decide, fun _ => rfl, by decide⟩ hn2 dX8_wanted_30 ?_
    exact W.iret (v := (V 49 ((33 + (8 * p2)) + (((V 49 (0 : Int32).toNatClampNeg) - 1) - p1)).toNatClampNeg)) hx hb hr (fun t ht hW => ⟨⟨(V 49 ((33 + (8 * p2)) + (((V 49 (0 : Int32).toNatClampNeg) - 1) - p1)).toNatClampNeg), (), rfl, hE.symm, trivial⟩, hS.F ht⟩) hS.2.2 dX8_wanted_31
  · have hE := hE.trans (if_pos c1)
    have hp := pc_br hp c1
    refine lv_iload_n hx hb dX8_wanted_15 rfl (lv_at hl 1 rfl) ?_
    refine lv_goto (tgt := 29) hx hb dX8_wanted_16 (by decide) ?_
    refine lv_iadd hx hb dX8_wanted_29 ?_
    have hn1 := hp
    refine x_iald hx hb hK hP ⟨by decide, fun _ => rfl, by decide⟩ hn1 dX8_wanted_30 ?_
    exact W.iret (v := (V 49 ((33 + (8 * p2)) + p1).toNatClampNeg)) hx hb hr (fun t ht hW => ⟨⟨(V 49 ((33 + (8 * p2)) + p1).toNatClampNeg), (), rfl, hE.symm, trivial⟩, hS.F ht⟩) hS.2.2 dX8_wanted_31
def f_X8_signBy (fu : Nat) (V : VT) (p1 : Int32) (p2 : Int32) : Int32 := (if p2 = 0 then (f_X8_signOf V p1) else (f_X8_turned fu V (f_X8_signOf V p1)))
def p_X8_signBy (fu : Nat) (V : VT) (p1 : Int32) (p2 : Int32) : Prop := ((p2 = 0 → (p_X8_signOf V p1)) ∧ (¬ (p2 = 0) → ((p_X8_signOf V p1) ∧ (p_X8_turned fu V (f_X8_signOf V p1)))))
set_option maxHeartbeats 4000000 in
set_option maxRecDepth 100000 in
theorem m_X8_signBy (l : Launch) (D : va_G) (cI cB : ClassId) (ad : Nat → Nat) (fu : Nat) (V : VT) (p1 : Int32) (p2 : Int32)  (hp : p_X8_signBy fu V p1 p2) : Met l yX8_signBy wsX8_signBy ({ frames := 1, cells := 0, slots := 0, locals := 22 }) (cP D cI cB ad V [.ref (ad 48), .int p1, .int p2]) (cR (f_X8_signBy fu V p1 p2)) 0 0 (fun _ => False) := by
  refine Met.ofW (cc := cX8_signBy) (maxL := 3) (ret := (some .int)) (by decide +kernel) rfl ?_
  intro p e s m args below meth c s₁ B hml hv
  obtain ⟨rfl, hP, hKN⟩ := hv
  have hK := hKN.1
  have hx := B.exec
  have hb := B.bytes
  have hr := B.returns
  have hts := atoms_spec (ws := wsX8_signBy) B.pre
  have hown : s.vm.findClass RX8 = some m.cls := findClass_of_methodNamed B.named
  have hlocks := B.notSynchronized
  have hS : va_S (fun _ => False) s.heap s.heap [] := va_S.rf
  have hl := lv_entry ([.ref (ad 48), .int p1, .int p2]) (n := 3) (Nat.le_of_ble_eq_true rfl)
  rw [lg_entry_eq]
  generalize (lg_sl ([.ref (ad 48), .int p1, .int p2]) ++ List.replicate (3 - (lg_sl ([.ref (ad 48), .int p1, .int p2])).length) Slot.unset).toArray = ls at hl ⊢
  have hl : lv_has ls 3 [(0, .ref (ad 48)), (1, .int p1), (2, .int p2)] := hl
  have hE : f_X8_signBy fu V p1 p2 = (if p2 = 0 then (f_X8_signOf V p1) else (f_X8_turned fu V (f_X8_signOf V p1))) := rfl
  refine lv_iload_n hx hb dX8_signBy_0 rfl (lv_at hl 2 rfl) ?_
  refine lv_if_ne (tgt := 12) hx hb dX8_signBy_1 (by decide) (fun c1 => ?_) (fun c1 => ?_)
  · have hE := hE.trans (if_neg c1)
    have hp := pc_bn hp c1
    refine lv_aload_n hx hb dX8_signBy_12 rfl (lv_at hl 0 rfl) ?_
    refine lv_iload_n hx hb dX8_signBy_13 rfl (lv_at hl 1 rfl) ?_
    obtain ⟨hn2, hp⟩ := hp
    refine k_VR (As := [.int p1]) (rest := []) (q := 48) ⟨hx, hb, hml, hown, hts⟩ hKN hP hS (m_X8_signOf l D cI cB ad V p1 hn2) (cwV 1 hts gX8_signBy_X8_signOf rfl rfl rfl (by decide +kernel) ⟨(Nat.le_of_ble_eq_true rfl), (Nat.le_of_ble_eq_true rfl)⟩) (c_preV hP hKN (q := 48) (ci := 6) (fs := [.ref (ad 49), .ref (ad 50), .ref (ad 51), .int ((V 48) 0), .ref (ad 52), .int ((V 48) 1), .ref (ad 53), .int ((V 48) 2), .int ((V 48) 3), .int ((V 48) 4), .int ((V 48) 5), .int ((V 48) 6), .int ((V 48) 7)]) (by decide) (ce_md ad cI cB (V 48)) rfl rfl) rfl hl.1 rfl (Nat.le_of_ble_eq_true rfl) dX8_signBy_14 ⟨Nat.zero_le _, Nat.zero_le _⟩ (fun H locs hP hS => ?_)
    have hn3 := hp
    refine k_SR (As := [.int (f_X8_signOf V p1)]) (rest := []) ⟨hx, hb, hml, hown, hts⟩ hKN hP hS (m_X8_turned l D cI cB ad fu V (f_X8_signOf V p1) hn3) (va_cwS 1 hts gX8_signBy_X8_turned rfl rfl rfl (by decide +kernel) ⟨(Nat.le_of_ble_eq_true rfl), (Nat.le_of_ble_eq_true rfl)⟩) rfl hl.1 rfl (Nat.le_of_ble_eq_true rfl) dX8_signBy_17 ⟨Nat.zero_le _, Nat.zero_le _⟩ (fun H locs hP hS => ?_)
    exact W.iret (v := (f_X8_turned fu V (f_X8_signOf V p1))) hx hb hr (fun t ht hW => ⟨⟨(f_X8_turned fu V (f_X8_signOf V p1)), (), rfl, hE.symm, trivial⟩, hS.F ht⟩) hS.2.2 dX8_signBy_20
  · have hE := hE.trans (if_pos c1)
    have hp := pc_br hp c1
    refine lv_aload_n hx hb dX8_signBy_4 rfl (lv_at hl 0 rfl) ?_
    refine lv_iload_n hx hb dX8_signBy_5 rfl (lv_at hl 1 rfl) ?_
    have hn1 := hp
    refine k_VR (As := [.int p1]) (rest := []) (q := 48) ⟨hx, hb, hml, hown, hts⟩ hKN hP hS (m_X8_signOf l D cI cB ad V p1 hn1) (cwV 1 hts gX8_signBy_X8_signOf rfl rfl rfl (by decide +kernel) ⟨(Nat.le_of_ble_eq_true rfl), (Nat.le_of_ble_eq_true rfl)⟩) (c_preV hP hKN (q := 48) (ci := 6) (fs := [.ref (ad 49), .ref (ad 50), .ref (ad 51), .int ((V 48) 0), .ref (ad 52), .int ((V 48) 1), .ref (ad 53), .int ((V 48) 2), .int ((V 48) 3), .int ((V 48) 4), .int ((V 48) 5), .int ((V 48) 6), .int ((V 48) 7)]) (by decide) (ce_md ad cI cB (V 48)) rfl rfl) rfl hl.1 rfl (Nat.le_of_ble_eq_true rfl) dX8_signBy_6 ⟨Nat.zero_le _, Nat.zero_le _⟩ (fun H locs hP hS => ?_)
    refine lv_goto (tgt := 20) hx hb dX8_signBy_9 (by decide) ?_
    exact W.iret (v := (f_X8_signOf V p1)) hx hb hr (fun t ht hW => ⟨⟨(f_X8_signOf V p1), (), rfl, hE.symm, trivial⟩, hS.F ht⟩) hS.2.2 dX8_signBy_20
def f_X8_readAt (fu : Nat) (V : VT) (p1 : Int32) (p2 : Int32) : Int32 := (if (f_X8_coats V p1) = 0 then (-1) else (f_X8_readAs fu V (f_X8_signBy fu V p1 p2)))
def p_X8_readAt (fu : Nat) (V : VT) (p1 : Int32) (p2 : Int32) : Prop := ((p_X8_coats V p1) ∧ (((f_X8_coats V p1) = 0 → True) ∧ (¬ ((f_X8_coats V p1) = 0) → ((p_X8_signBy fu V p1 p2) ∧ (p_X8_readAs fu V (f_X8_signBy fu V p1 p2))))))
set_option maxHeartbeats 4000000 in
set_option maxRecDepth 100000 in
theorem m_X8_readAt (l : Launch) (D : va_G) (cI cB : ClassId) (ad : Nat → Nat) (fu : Nat) (V : VT) (p1 : Int32) (p2 : Int32)  (hp : p_X8_readAt fu V p1 p2) : Met l yX8_readAt wsX8_readAt ({ frames := 2, cells := 0, slots := 0, locals := 47 }) (cP D cI cB ad V [.ref (ad 48), .int p1, .int p2]) (cR (f_X8_readAt fu V p1 p2)) 0 0 (fun _ => False) := by
  refine Met.ofW (cc := cX8_readAt) (maxL := 3) (ret := (some .int)) (by decide +kernel) rfl ?_
  intro p e s m args below meth c s₁ B hml hv
  obtain ⟨rfl, hP, hKN⟩ := hv
  have hK := hKN.1
  have hx := B.exec
  have hb := B.bytes
  have hr := B.returns
  have hts := atoms_spec (ws := wsX8_readAt) B.pre
  have hown : s.vm.findClass RX8 = some m.cls := findClass_of_methodNamed B.named
  have hlocks := B.notSynchronized
  have hS : va_S (fun _ => False) s.heap s.heap [] := va_S.rf
  have hl := lv_entry ([.ref (ad 48), .int p1, .int p2]) (n := 3) (Nat.le_of_ble_eq_true rfl)
  rw [lg_entry_eq]
  generalize (lg_sl ([.ref (ad 48), .int p1, .int p2]) ++ List.replicate (3 - (lg_sl ([.ref (ad 48), .int p1, .int p2])).length) Slot.unset).toArray = ls at hl ⊢
  have hl : lv_has ls 3 [(0, .ref (ad 48)), (1, .int p1), (2, .int p2)] := hl
  have hE : f_X8_readAt fu V p1 p2 = (if (f_X8_coats V p1) = 0 then (-1) else (f_X8_readAs fu V (f_X8_signBy fu V p1 p2))) := rfl
  refine lv_aload_n hx hb dX8_readAt_0 rfl (lv_at hl 0 rfl) ?_
  refine lv_iload_n hx hb dX8_readAt_1 rfl (lv_at hl 1 rfl) ?_
  obtain ⟨hn1, hp⟩ := hp
  refine k_VR (As := [.int p1]) (rest := []) (q := 48) ⟨hx, hb, hml, hown, hts⟩ hKN hP hS (m_X8_coats l D cI cB ad V p1 hn1) (cwV 1 hts gX8_readAt_X8_coats rfl rfl rfl (by decide +kernel) ⟨(Nat.le_of_ble_eq_true rfl), (Nat.le_of_ble_eq_true rfl)⟩) (c_preV hP hKN (q := 48) (ci := 6) (fs := [.ref (ad 49), .ref (ad 50), .ref (ad 51), .int ((V 48) 0), .ref (ad 52), .int ((V 48) 1), .ref (ad 53), .int ((V 48) 2), .int ((V 48) 3), .int ((V 48) 4), .int ((V 48) 5), .int ((V 48) 6), .int ((V 48) 7)]) (by decide) (ce_md ad cI cB (V 48)) rfl rfl) rfl hl.1 rfl (Nat.le_of_ble_eq_true rfl) dX8_readAt_2 ⟨Nat.zero_le _, Nat.zero_le _⟩ (fun H locs hP hS => ?_)
  refine lv_if_ne (tgt := 12) hx hb dX8_readAt_5 (by decide) (fun c1 => ?_) (fun c1 => ?_)
  · have hE := hE.trans (if_neg c1)
    have hp := pc_bn hp c1
    refine lv_aload_n hx hb dX8_readAt_12 rfl (lv_at hl 0 rfl) ?_
    refine lv_aload_n hx hb dX8_readAt_13 rfl (lv_at hl 0 rfl) ?_
    refine lv_iload_n hx hb dX8_readAt_14 rfl (lv_at hl 1 rfl) ?_
    refine lv_iload_n hx hb dX8_readAt_15 rfl (lv_at hl 2 rfl) ?_
    obtain ⟨hn2, hp⟩ := hp
    refine k_VR (As := [.int p1, .int p2]) (rest := [.ref (ad 48)]) (q := 48) ⟨hx, hb, hml, hown, hts⟩ hKN hP hS (m_X8_signBy l D cI cB ad fu V p1 p2 hn2) (cwV 2 hts gX8_readAt_X8_signBy rfl rfl rfl (by decide +kernel) ⟨(Nat.le_of_ble_eq_true rfl), (Nat.le_of_ble_eq_true rfl)⟩) (c_preV hP hKN (q := 48) (ci := 6) (fs := [.ref (ad 49), .ref (ad 50), .ref (ad 51), .int ((V 48) 0), .ref (ad 52), .int ((V 48) 1), .ref (ad 53), .int ((V 48) 2), .int ((V 48) 3), .int ((V 48) 4), .int ((V 48) 5), .int ((V 48) 6), .int ((V 48) 7)]) (by decide) (ce_md ad cI cB (V 48)) rfl rfl) rfl hl.1 rfl (Nat.le_of_ble_eq_true rfl) dX8_readAt_16 ⟨Nat.zero_le _, Nat.zero_le _⟩ (fun H locs hP hS => ?_)
    have hn3 := hp
    refine k_VR (As := [.int (f_X8_signBy fu V p1 p2)]) (rest := []) (q := 48) ⟨hx, hb, hml, hown, hts⟩ hKN hP hS (m_X8_readAs l D cI cB ad fu V (f_X8_signBy fu V p1 p2) hn3) (cwV 1 hts gX8_readAt_X8_readAs rfl rfl rfl (by decide +kernel) ⟨(Nat.le_of_ble_eq_true rfl), (Nat.le_of_ble_eq_true rfl)⟩) (c_preV hP hKN (q := 48) (ci := 6) (fs := [.ref (ad 49), .ref (ad 50), .ref (ad 51), .int ((V 48) 0), .ref (ad 52), .int ((V 48) 1), .ref (ad 53), .int ((V 48) 2), .int ((V 48) 3), .int ((V 48) 4), .int ((V 48) 5), .int ((V 48) 6), .int ((V 48) 7)]) (by decide) (ce_md ad cI cB (V 48)) rfl rfl) rfl hl.1 rfl (Nat.le_of_ble_eq_true rfl) dX8_readAt_19 ⟨Nat.zero_le _, Nat.zero_le _⟩ (fun H locs hP hS => ?_)
    exact W.iret (v := (f_X8_readAs fu V (f_X8_signBy fu V p1 p2))) hx hb hr (fun t ht hW => ⟨⟨(f_X8_readAs fu V (f_X8_signBy fu V p1 p2)), (), rfl, hE.symm, trivial⟩, hS.F ht⟩) hS.2.2 dX8_readAt_22
  · have hE := hE.trans (if_pos c1)
    refine lv_iconst (v := (-1)) hx hb dX8_readAt_8 (by decide) ?_
    refine lv_goto (tgt := 22) hx hb dX8_readAt_9 (by decide) ?_
    exact W.iret (v := (-1)) hx hb hr (fun t ht hW => ⟨⟨(-1), (), rfl, hE.symm, trivial⟩, hS.F ht⟩) hS.2.2 dX8_readAt_22
def f_X8_fades (fu : Nat) (V : VT) (p1 : Int32) : Int32 := (if (V 49 (1 : Int32).toNatClampNeg) = 0 then (if (f_X8_coats V p1) ≤ 0 then 0 else (if (f_X8_dark fu V ((f_X8_signOf V p1) &&& 511)) < (V 49 (6 : Int32).toNatClampNeg) then 0 else 1)) else (if (f_X8_coats V p1) ≤ 0 then 0 else (if (f_X8_dark fu V ((f_X8_signOf V p1) >>> (6 &&& 31))) < (V 49 (6 : Int32).toNatClampNeg) then 0 else 1)))
def p_X8_fades (fu : Nat) (V : VT) (p1 : Int32) : Prop := (((V 49 (1 : Int32).toNatClampNeg) = 0 → ((p_X8_signOf V p1) ∧ ((p_X8_coats V p1) ∧ (((f_X8_coats V p1) ≤ 0 → True) ∧ (¬ ((f_X8_coats V p1) ≤ 0) → (p_X8_dark fu V ((f_X8_signOf V p1) &&& 511))))))) ∧ (¬ ((V 49 (1 : Int32).toNatClampNeg) = 0) → ((p_X8_signOf V p1) ∧ ((p_X8_coats V p1) ∧ (((f_X8_coats V p1) ≤ 0 → True) ∧ (¬ ((f_X8_coats V p1) ≤ 0) → (p_X8_dark fu V ((f_X8_signOf V p1) >>> (6 &&& 31)))))))))
set_option maxHeartbeats 4000000 in
set_option maxRecDepth 100000 in
theorem m_X8_fades (l : Launch) (D : va_G) (cI cB : ClassId) (ad : Nat → Nat) (fu : Nat) (V : VT) (p1 : Int32)  (hp : p_X8_fades fu V p1) : Met l yX8_fades wsX8_fades ({ frames := 1, cells := 0, slots := 0, locals := 22 }) (cP D cI cB ad V [.ref (ad 48), .int p1]) (cR (f_X8_fades fu V p1)) 0 0 (fun _ => False) := by
  refine Met.ofW (cc := cX8_fades) (maxL := 3) (ret := (some .boolean)) (by decide +kernel) rfl ?_
  intro p e s m args below meth c s₁ B hml hv
  obtain ⟨rfl, hP, hKN⟩ := hv
  have hK := hKN.1
  have hx := B.exec
  have hb := B.bytes
  have hr := B.returns
  have hts := atoms_spec (ws := wsX8_fades) B.pre
  have hown : s.vm.findClass RX8 = some m.cls := findClass_of_methodNamed B.named
  have hlocks := B.notSynchronized
  have hS : va_S (fun _ => False) s.heap s.heap [] := va_S.rf
  have hl := lv_entry ([.ref (ad 48), .int p1]) (n := 3) (Nat.le_of_ble_eq_true rfl)
  rw [lg_entry_eq]
  generalize (lg_sl ([.ref (ad 48), .int p1]) ++ List.replicate (3 - (lg_sl ([.ref (ad 48), .int p1])).length) Slot.unset).toArray = ls at hl ⊢
  have hl : lv_has ls 3 [(0, .ref (ad 48)), (1, .int p1)] := hl
  have hE : f_X8_fades fu V p1 = (if (V 49 (1 : Int32).toNatClampNeg) = 0 then (if (f_X8_coats V p1) ≤ 0 then 0 else (if (f_X8_dark fu V ((f_X8_signOf V p1) &&& 511)) < (V 49 (6 : Int32).toNatClampNeg) then 0 else 1)) else (if (f_X8_coats V p1) ≤ 0 then 0 else (if (f_X8_dark fu V ((f_X8_signOf V p1) >>> (6 &&& 31))) < (V 49 (6 : Int32).toNatClampNeg) then 0 else 1))) := rfl
  refine lv_aload_n hx hb dX8_fades_0 rfl (lv_at hl 0 rfl) ?_
  refine x_get (ci := 6) (fs := [.ref (ad 49), .ref (ad 50), .ref (ad 51), .int ((V 48) 0), .ref (ad 52), .int ((V 48) 1), .ref (ad 53), .int ((V 48) 2), .int ((V 48) 3), .int ((V 48) 4), .int ((V 48) 5), .int ((V 48) 6), .int ((V 48) 7)]) (q := 48) (v := .ref (ad 49)) (N := 13) hx hb hts (fun _ h => List.mem_cons_of_mem _ (List.mem_append_right _ h)) hown hK hP (by decide) (ce_md ad cI cB (V 48)) rfl 0 (by decide) (hts (.fieldLink RX8 7 "TurnedBoardsModel" "s" "[I") (List.mem_of_getElem? (i := 1) rfl)) rfl rfl dX8_fades_1 ?_
  refine lv_iconst (v := 1) hx hb dX8_fades_4 (by decide) ?_
  refine x_iald hx hb hK hP ⟨by decide, fun _ => rfl, by decide⟩ (vp_lit (i := 1) (n := 49) (by decide) (by decide)) dX8_fades_5 ?_
  refine lv_if_ne (tgt := 21) hx hb dX8_fades_6 (by decide) (fun c1 => ?_) (fun c1 => ?_)
  · have hE := hE.trans (if_neg c1)
    have hp := pc_bn hp c1
    refine lv_aload_n hx hb dX8_fades_21 rfl (lv_at hl 0 rfl) ?_
    refine lv_iload_n hx hb dX8_fades_22 rfl (lv_at hl 1 rfl) ?_
    obtain ⟨hn4, hp⟩ := hp
    refine k_VR (As := [.int p1]) (rest := []) (q := 48) ⟨hx, hb, hml, hown, hts⟩ hKN hP hS (m_X8_signOf l D cI cB ad V p1 hn4) (cwV 1 hts gX8_fades_X8_signOf rfl rfl rfl (by decide +kernel) ⟨(Nat.le_of_ble_eq_true rfl), (Nat.le_of_ble_eq_true rfl)⟩) (c_preV hP hKN (q := 48) (ci := 6) (fs := [.ref (ad 49), .ref (ad 50), .ref (ad 51), .int ((V 48) 0), .ref (ad 52), .int ((V 48) 1), .ref (ad 53), .int ((V 48) 2), .int ((V 48) 3), .int ((V 48) 4), .int ((V 48) 5), .int ((V 48) 6), .int ((V 48) 7)]) (by decide) (ce_md ad cI cB (V 48)) rfl rfl) rfl hl.1 rfl (Nat.le_of_ble_eq_true rfl) dX8_fades_23 ⟨Nat.zero_le _, Nat.zero_le _⟩ (fun H locs hP hS => ?_)
    refine lv_bipush (v := 6) hx hb dX8_fades_26 (by decide) ?_
    refine lv_ishr hx hb dX8_fades_28 ?_
    refine lv_istore_n (lv' := [(2, .int ((f_X8_signOf V p1) >>> (6 &&& 31))), (0, .ref (ad 48)), (1, .int p1)]) hx hb dX8_fades_29 rfl hl (by decide) rfl (fun ls hl => ?_)
    refine lv_aload_n hx hb dX8_fades_30 rfl (lv_at hl 1 rfl) ?_
    refine lv_iload_n hx hb dX8_fades_31 rfl (lv_at hl 2 rfl) ?_
    obtain ⟨hn5, hp⟩ := hp
    refine k_VR (As := [.int p1]) (rest := []) (q := 48) ⟨hx, hb, hml, hown, hts⟩ hKN hP hS (m_X8_coats l D cI cB ad V p1 hn5) (cwV 1 hts gX8_fades_X8_coats rfl rfl rfl (by decide +kernel) ⟨(Nat.le_of_ble_eq_true rfl), (Nat.le_of_ble_eq_true rfl)⟩) (c_preV hP hKN (q := 48) (ci := 6) (fs := [.ref (ad 49), .ref (ad 50), .ref (ad 51), .int ((V 48) 0), .ref (ad 52), .int ((V 48) 1), .ref (ad 53), .int ((V 48) 2), .int ((V 48) 3), .int ((V 48) 4), .int ((V 48) 5), .int ((V 48) 6), .int ((V 48) 7)]) (by decide) (ce_md ad cI cB (V 48)) rfl rfl) rfl hl.1 rfl (Nat.le_of_ble_eq_true rfl) dX8_fades_32 ⟨Nat.zero_le _, Nat.zero_le _⟩ (fun H locs hP hS => ?_)
    refine lv_if_le (tgt := 56) hx hb dX8_fades_35 (by decide) (fun c4 => ?_) (fun c4 => ?_)
    · have hE := hE.trans (if_pos c4)
      refine lv_iconst (v := 0) hx hb dX8_fades_56 (by decide) ?_
      exact W.zret (v := 0) hx hb hr rfl (fun t ht hW => ⟨⟨0, (), rfl, hE.symm, trivial⟩, hS.F ht⟩) hS.2.2 dX8_fades_57
    · have hE := hE.trans (if_neg c4)
      have hp := pc_bn hp c4
      refine lv_iload_n hx hb dX8_fades_38 rfl (lv_at hl 0 rfl) ?_
      have hn6 := hp
      refine k_SR (As := [.int ((f_X8_signOf V p1) >>> (6 &&& 31))]) (rest := []) ⟨hx, hb, hml, hown, hts⟩ hKN hP hS (m_X8_dark l D cI cB ad fu V ((f_X8_signOf V p1) >>> (6 &&& 31)) hn6) (va_cwS 1 hts gX8_fades_X8_dark rfl rfl rfl (by decide +kernel) ⟨(Nat.le_of_ble_eq_true rfl), (Nat.le_of_ble_eq_true rfl)⟩) rfl hl.1 rfl (Nat.le_of_ble_eq_true rfl) dX8_fades_39 ⟨Nat.zero_le _, Nat.zero_le _⟩ (fun H locs hP hS => ?_)
      refine lv_aload_n hx hb dX8_fades_42 rfl (lv_at hl 1 rfl) ?_
      refine x_get (ci := 6) (fs := [.ref (ad 49), .ref (ad 50), .ref (ad 51), .int ((V 48) 0), .ref (ad 52), .int ((V 48) 1), .ref (ad 53), .int ((V 48) 2), .int ((V 48) 3), .int ((V 48) 4), .int ((V 48) 5), .int ((V 48) 6), .int ((V 48) 7)]) (q := 48) (v := .ref (ad 49)) (N := 13) hx hb hts (fun _ h => List.mem_cons_of_mem _ (List.mem_append_right _ h)) hown hK hP (by decide) (ce_md ad cI cB (V 48)) rfl 0 (by decide) (hts (.fieldLink RX8 7 "TurnedBoardsModel" "s" "[I") (List.mem_of_getElem? (i := 1) rfl)) rfl rfl dX8_fades_43 ?_
      refine lv_bipush (v := 6) hx hb dX8_fades_46 (by decide) ?_
      refine x_iald hx hb hK hP ⟨by decide, fun _ => rfl, by decide⟩ (vp_lit (i := 6) (n := 49) (by decide) (by decide)) dX8_fades_48 ?_
      refine lv_icmp_lt (tgt := 56) hx hb dX8_fades_49 (by decide) (fun c5 => ?_) (fun c5 => ?_)
      · have hE := hE.trans (if_pos c5)
        refine lv_iconst (v := 0) hx hb dX8_fades_56 (by decide) ?_
        exact W.zret (v := 0) hx hb hr rfl (fun t ht hW => ⟨⟨0, (), rfl, hE.symm, trivial⟩, hS.F ht⟩) hS.2.2 dX8_fades_57
      · have hE := hE.trans (if_neg c5)
        refine lv_iconst (v := 1) hx hb dX8_fades_52 (by decide) ?_
        refine lv_goto (tgt := 57) hx hb dX8_fades_53 (by decide) ?_
        exact W.zret (v := 1) hx hb hr rfl (fun t ht hW => ⟨⟨1, (), rfl, hE.symm, trivial⟩, hS.F ht⟩) hS.2.2 dX8_fades_57
  · have hE := hE.trans (if_pos c1)
    have hp := pc_br hp c1
    refine lv_aload_n hx hb dX8_fades_9 rfl (lv_at hl 0 rfl) ?_
    refine lv_iload_n hx hb dX8_fades_10 rfl (lv_at hl 1 rfl) ?_
    obtain ⟨hn1, hp⟩ := hp
    refine k_VR (As := [.int p1]) (rest := []) (q := 48) ⟨hx, hb, hml, hown, hts⟩ hKN hP hS (m_X8_signOf l D cI cB ad V p1 hn1) (cwV 1 hts gX8_fades_X8_signOf rfl rfl rfl (by decide +kernel) ⟨(Nat.le_of_ble_eq_true rfl), (Nat.le_of_ble_eq_true rfl)⟩) (c_preV hP hKN (q := 48) (ci := 6) (fs := [.ref (ad 49), .ref (ad 50), .ref (ad 51), .int ((V 48) 0), .ref (ad 52), .int ((V 48) 1), .ref (ad 53), .int ((V 48) 2), .int ((V 48) 3), .int ((V 48) 4), .int ((V 48) 5), .int ((V 48) 6), .int ((V 48) 7)]) (by decide) (ce_md ad cI cB (V 48)) rfl rfl) rfl hl.1 rfl (Nat.le_of_ble_eq_true rfl) dX8_fades_11 ⟨Nat.zero_le _, Nat.zero_le _⟩ (fun H locs hP hS => ?_)
    refine lv_sipush (v := 511) hx hb dX8_fades_14 (by decide) ?_
    refine lv_iand hx hb dX8_fades_17 ?_
    refine lv_goto (tgt := 29) hx hb dX8_fades_18 (by decide) ?_
    refine lv_istore_n (lv' := [(2, .int ((f_X8_signOf V p1) &&& 511)), (0, .ref (ad 48)), (1, .int p1)]) hx hb dX8_fades_29 rfl hl (by decide) rfl (fun ls hl => ?_)
    refine lv_aload_n hx hb dX8_fades_30 rfl (lv_at hl 1 rfl) ?_
    refine lv_iload_n hx hb dX8_fades_31 rfl (lv_at hl 2 rfl) ?_
    obtain ⟨hn2, hp⟩ := hp
    refine k_VR (As := [.int p1]) (rest := []) (q := 48) ⟨hx, hb, hml, hown, hts⟩ hKN hP hS (m_X8_coats l D cI cB ad V p1 hn2) (cwV 1 hts gX8_fades_X8_coats rfl rfl rfl (by decide +kernel) ⟨(Nat.le_of_ble_eq_true rfl), (Nat.le_of_ble_eq_true rfl)⟩) (c_preV hP hKN (q := 48) (ci := 6) (fs := [.ref (ad 49), .ref (ad 50), .ref (ad 51), .int ((V 48) 0), .ref (ad 52), .int ((V 48) 1), .ref (ad 53), .int ((V 48) 2), .int ((V 48) 3), .int ((V 48) 4), .int ((V 48) 5), .int ((V 48) 6), .int ((V 48) 7)]) (by decide) (ce_md ad cI cB (V 48)) rfl rfl) rfl hl.1 rfl (Nat.le_of_ble_eq_true rfl) dX8_fades_32 ⟨Nat.zero_le _, Nat.zero_le _⟩ (fun H locs hP hS => ?_)
    refine lv_if_le (tgt := 56) hx hb dX8_fades_35 (by decide) (fun c2 => ?_) (fun c2 => ?_)
    · have hE := hE.trans (if_pos c2)
      refine lv_iconst (v := 0) hx hb dX8_fades_56 (by decide) ?_
      exact W.zret (v := 0) hx hb hr rfl (fun t ht hW => ⟨⟨0, (), rfl, hE.symm, trivial⟩, hS.F ht⟩) hS.2.2 dX8_fades_57
    · have hE := hE.trans (if_neg c2)
      have hp := pc_bn hp c2
      refine lv_iload_n hx hb dX8_fades_38 rfl (lv_at hl 0 rfl) ?_
      have hn3 := hp
      refine k_SR (As := [.int ((f_X8_signOf V p1) &&& 511)]) (rest := []) ⟨hx, hb, hml, hown, hts⟩ hKN hP hS (m_X8_dark l D cI cB ad fu V ((f_X8_signOf V p1) &&& 511) hn3) (va_cwS 1 hts gX8_fades_X8_dark rfl rfl rfl (by decide +kernel) ⟨(Nat.le_of_ble_eq_true rfl), (Nat.le_of_ble_eq_true rfl)⟩) rfl hl.1 rfl (Nat.le_of_ble_eq_true rfl) dX8_fades_39 ⟨Nat.zero_le _, Nat.zero_le _⟩ (fun H locs hP hS => ?_)
      refine lv_aload_n hx hb dX8_fades_42 rfl (lv_at hl 1 rfl) ?_
      refine x_get (ci := 6) (fs := [.ref (ad 49), .ref (ad 50), .ref (ad 51), .int ((V 48) 0), .ref (ad 52), .int ((V 48) 1), .ref (ad 53), .int ((V 48) 2), .int ((V 48) 3), .int ((V 48) 4), .int ((V 48) 5), .int ((V 48) 6), .int ((V 48) 7)]) (q := 48) (v := .ref (ad 49)) (N := 13) hx hb hts (fun _ h => List.mem_cons_of_mem _ (List.mem_append_right _ h)) hown hK hP (by decide) (ce_md ad cI cB (V 48)) rfl 0 (by decide) (hts (.fieldLink RX8 7 "TurnedBoardsModel" "s" "[I") (List.mem_of_getElem? (i := 1) rfl)) rfl rfl dX8_fades_43 ?_
      refine lv_bipush (v := 6) hx hb dX8_fades_46 (by decide) ?_
      refine x_iald hx hb hK hP ⟨by decide, fun _ => rfl, by decide⟩ (vp_lit (i := 6) (n := 49) (by decide) (by decide)) dX8_fades_48 ?_
      refine lv_icmp_lt (tgt := 56) hx hb dX8_fades_49 (by decide) (fun c3 => ?_) (fun c3 => ?_)
      · have hE := hE.trans (if_pos c3)
        refine lv_iconst (v := 0) hx hb dX8_fades_56 (by decide) ?_
        exact W.zret (v := 0) hx hb hr rfl (fun t ht hW => ⟨⟨0, (), rfl, hE.symm, trivial⟩, hS.F ht⟩) hS.2.2 dX8_fades_57
      · have hE := hE.trans (if_neg c3)
        refine lv_iconst (v := 1) hx hb dX8_fades_52 (by decide) ?_
        refine lv_goto (tgt := 57) hx hb dX8_fades_53 (by decide) ?_
        exact W.zret (v := 1) hx hb hr rfl (fun t ht hW => ⟨⟨1, (), rfl, hE.symm, trivial⟩, hS.F ht⟩) hS.2.2 dX8_fades_57
def f_X8_composesAt (fu : Nat) (V : VT) (p1 : Int32) : Int32 × VT := (if (f_X8_areDrawn V (f_X8_wanted V p1 0) (f_X8_wanted V p1 1)) = 0 then (0, V) else (if ((f_X8_composes fu V (f_X8_wanted V p1 0) (f_X8_wanted V p1 1)).1) = 0 then (0, (f_X8_composes fu V (f_X8_wanted V p1 0) (f_X8_wanted V p1 1)).2) else (1, (f_X8_composes fu V (f_X8_wanted V p1 0) (f_X8_wanted V p1 1)).2)))
def p_X8_composesAt (fu : Nat) (V : VT) (p1 : Int32) : Prop := ((p_X8_wanted V p1 0) ∧ ((p_X8_wanted V p1 1) ∧ ((p_X8_areDrawn V (f_X8_wanted V p1 0) (f_X8_wanted V p1 1)) ∧ (((f_X8_areDrawn V (f_X8_wanted V p1 0) (f_X8_wanted V p1 1)) = 0 → True) ∧ (¬ ((f_X8_areDrawn V (f_X8_wanted V p1 0) (f_X8_wanted V p1 1)) = 0) → (p_X8_composes fu V (f_X8_wanted V p1 0) (f_X8_wanted V p1 1)))))))
set_option maxHeartbeats 4000000 in
set_option maxRecDepth 100000 in
theorem m_X8_composesAt (l : Launch) (D : va_G) (cI cB : ClassId) (ad : Nat → Nat) {A : Nat → Prop} (hA : adOk ad A) (fu : Nat) (V : VT) (p1 : Int32)  (hp : p_X8_composesAt fu V p1) : Met l yX8_composesAt wsX8_composesAt ({ frames := 4, cells := 0, slots := 0, locals := 101 }) (cP D cI cB ad V [.ref (ad 48), .int p1]) (cWi D cI cB ad A (f_X8_composesAt fu V p1)) 0 0 A := by
  refine Met.ofW (cc := cX8_composesAt) (maxL := 4) (ret := (some .boolean)) (by decide +kernel) rfl ?_
  intro p e s m args below meth c s₁ B hml hv
  obtain ⟨rfl, hP, hKN⟩ := hv
  have hK := hKN.1
  have hx := B.exec
  have hb := B.bytes
  have hr := B.returns
  have hts := atoms_spec (ws := wsX8_composesAt) B.pre
  have hown : s.vm.findClass RX8 = some m.cls := findClass_of_methodNamed B.named
  have hlocks := B.notSynchronized
  have hS : va_S A s.heap s.heap [] := va_S.rf
  have hl := lv_entry ([.ref (ad 48), .int p1]) (n := 4) (Nat.le_of_ble_eq_true rfl)
  rw [lg_entry_eq]
  generalize (lg_sl ([.ref (ad 48), .int p1]) ++ List.replicate (4 - (lg_sl ([.ref (ad 48), .int p1])).length) Slot.unset).toArray = ls at hl ⊢
  have hl : lv_has ls 4 [(0, .ref (ad 48)), (1, .int p1)] := hl
  have hE : f_X8_composesAt fu V p1 = (if (f_X8_areDrawn V (f_X8_wanted V p1 0) (f_X8_wanted V p1 1)) = 0 then (0, V) else (if ((f_X8_composes fu V (f_X8_wanted V p1 0) (f_X8_wanted V p1 1)).1) = 0 then (0, (f_X8_composes fu V (f_X8_wanted V p1 0) (f_X8_wanted V p1 1)).2) else (1, (f_X8_composes fu V (f_X8_wanted V p1 0) (f_X8_wanted V p1 1)).2))) := rfl
  refine lv_aload_n hx hb dX8_composesAt_0 rfl (lv_at hl 0 rfl) ?_
  refine lv_iload_n hx hb dX8_composesAt_1 rfl (lv_at hl 1 rfl) ?_
  refine lv_iconst (v := 0) hx hb dX8_composesAt_2 (by decide) ?_
  obtain ⟨hn1, hp⟩ := hp
  refine k_VR (As := [.int p1, .int 0]) (rest := []) (q := 48) ⟨hx, hb, hml, hown, hts⟩ hKN hP hS (m_X8_wanted l D cI cB ad V p1 0 hn1) (cwV 2 hts gX8_composesAt_X8_wanted rfl rfl rfl (by decide +kernel) ⟨(Nat.le_of_ble_eq_true rfl), (Nat.le_of_ble_eq_true rfl)⟩) (c_preV hP hKN (q := 48) (ci := 6) (fs := [.ref (ad 49), .ref (ad 50), .ref (ad 51), .int ((V 48) 0), .ref (ad 52), .int ((V 48) 1), .ref (ad 53), .int ((V 48) 2), .int ((V 48) 3), .int ((V 48) 4), .int ((V 48) 5), .int ((V 48) 6), .int ((V 48) 7)]) (by decide) (ce_md ad cI cB (V 48)) rfl rfl) rfl hl.1 rfl (Nat.le_of_ble_eq_true rfl) dX8_composesAt_3 ⟨Nat.zero_le _, Nat.zero_le _⟩ (fun H locs hP hS => ?_)
  refine lv_istore_n (lv' := [(2, .int (f_X8_wanted V p1 0)), (0, .ref (ad 48)), (1, .int p1)]) hx hb dX8_composesAt_6 rfl hl (by decide) rfl (fun ls hl => ?_)
  refine lv_aload_n hx hb dX8_composesAt_7 rfl (lv_at hl 1 rfl) ?_
  refine lv_iload_n hx hb dX8_composesAt_8 rfl (lv_at hl 2 rfl) ?_
  refine lv_iconst (v := 1) hx hb dX8_composesAt_9 (by decide) ?_
  obtain ⟨hn2, hp⟩ := hp
  refine k_VR (As := [.int p1, .int 1]) (rest := []) (q := 48) ⟨hx, hb, hml, hown, hts⟩ hKN hP hS (m_X8_wanted l D cI cB ad V p1 1 hn2) (cwV 2 hts gX8_composesAt_X8_wanted rfl rfl rfl (by decide +kernel) ⟨(Nat.le_of_ble_eq_true rfl), (Nat.le_of_ble_eq_true rfl)⟩) (c_preV hP hKN (q := 48) (ci := 6) (fs := [.ref (ad 49), .ref (ad 50), .ref (ad 51), .int ((V 48) 0), .ref (ad 52), .int ((V 48) 1), .ref (ad 53), .int ((V 48) 2), .int ((V 48) 3), .int ((V 48) 4), .int ((V 48) 5), .int ((V 48) 6), .int ((V 48) 7)]) (by decide) (ce_md ad cI cB (V 48)) rfl rfl) rfl hl.1 rfl (Nat.le_of_ble_eq_true rfl) dX8_composesAt_10 ⟨Nat.zero_le _, Nat.zero_le _⟩ (fun H locs hP hS => ?_)
  refine lv_istore_n (lv' := [(3, .int (f_X8_wanted V p1 1)), (2, .int (f_X8_wanted V p1 0)), (0, .ref (ad 48)), (1, .int p1)]) hx hb dX8_composesAt_13 rfl hl (by decide) rfl (fun ls hl => ?_)
  refine lv_aload_n hx hb dX8_composesAt_14 rfl (lv_at hl 2 rfl) ?_
  refine lv_iload_n hx hb dX8_composesAt_15 rfl (lv_at hl 1 rfl) ?_
  refine lv_iload_n hx hb dX8_composesAt_16 rfl (lv_at hl 0 rfl) ?_
  obtain ⟨hn3, hp⟩ := hp
  refine k_VR (As := [.int (f_X8_wanted V p1 0), .int (f_X8_wanted V p1 1)]) (rest := []) (q := 48) ⟨hx, hb, hml, hown, hts⟩ hKN hP hS (m_X8_areDrawn l D cI cB ad V (f_X8_wanted V p1 0) (f_X8_wanted V p1 1) hn3) (cwV 2 hts gX8_composesAt_X8_areDrawn rfl rfl rfl (by decide +kernel) ⟨(Nat.le_of_ble_eq_true rfl), (Nat.le_of_ble_eq_true rfl)⟩) (c_preV hP hKN (q := 48) (ci := 6) (fs := [.ref (ad 49), .ref (ad 50), .ref (ad 51), .int ((V 48) 0), .ref (ad 52), .int ((V 48) 1), .ref (ad 53), .int ((V 48) 2), .int ((V 48) 3), .int ((V 48) 4), .int ((V 48) 5), .int ((V 48) 6), .int ((V 48) 7)]) (by decide) (ce_md ad cI cB (V 48)) rfl rfl) rfl hl.1 rfl (Nat.le_of_ble_eq_true rfl) dX8_composesAt_17 ⟨Nat.zero_le _, Nat.zero_le _⟩ (fun H locs hP hS => ?_)
  refine lv_if_eq (tgt := 36) hx hb dX8_composesAt_20 (by decide) (fun c1 => ?_) (fun c1 => ?_)
  · have hE := hE.trans (if_pos c1)
    refine lv_iconst (v := 0) hx hb dX8_composesAt_36 (by decide) ?_
    exact W.zret (v := 0) hx hb hr rfl (fun t ht hW => ⟨⟨0, V, rfl, ⟨(congrArg Prod.fst hE).symm, (congrArg Prod.snd hE).symm⟩, by dsimp only; rw [ht]; exact hP⟩, hS.F ht⟩) hS.2.2 dX8_composesAt_37
  · have hE := hE.trans (if_neg c1)
    have hp := pc_bn hp c1
    refine lv_aload_n hx hb dX8_composesAt_23 rfl (lv_at hl 2 rfl) ?_
    refine lv_iload_n hx hb dX8_composesAt_24 rfl (lv_at hl 1 rfl) ?_
    refine lv_iload_n hx hb dX8_composesAt_25 rfl (lv_at hl 0 rfl) ?_
    have hn4 := hp
    refine k_VWi (As := [.int (f_X8_wanted V p1 0), .int (f_X8_wanted V p1 1)]) (rest := []) (q := 48) ⟨hx, hb, hml, hown, hts⟩ hKN hP hS (m_X8_composes l D cI cB ad hA fu V (f_X8_wanted V p1 0) (f_X8_wanted V p1 1) hn4) (cwV 2 hts gX8_composesAt_X8_composes rfl rfl rfl (by decide +kernel) ⟨(Nat.le_of_ble_eq_true rfl), (Nat.le_of_ble_eq_true rfl)⟩) (c_preV hP hKN (q := 48) (ci := 6) (fs := [.ref (ad 49), .ref (ad 50), .ref (ad 51), .int ((V 48) 0), .ref (ad 52), .int ((V 48) 1), .ref (ad 53), .int ((V 48) 2), .int ((V 48) 3), .int ((V 48) 4), .int ((V 48) 5), .int ((V 48) 6), .int ((V 48) 7)]) (by decide) (ce_md ad cI cB (V 48)) rfl rfl) rfl hl.1 rfl (Nat.le_of_ble_eq_true rfl) dX8_composesAt_26 ⟨Nat.zero_le _, Nat.zero_le _⟩ (fun H locs hP hS => ?_)
    refine lv_if_eq (tgt := 36) hx hb dX8_composesAt_29 (by decide) (fun c2 => ?_) (fun c2 => ?_)
    · have hE := hE.trans (if_pos c2)
      refine lv_iconst (v := 0) hx hb dX8_composesAt_36 (by decide) ?_
      exact W.zret (v := 0) hx hb hr rfl (fun t ht hW => ⟨⟨0, (f_X8_composes fu V (f_X8_wanted V p1 0) (f_X8_wanted V p1 1)).2, rfl, ⟨(congrArg Prod.fst hE).symm, (congrArg Prod.snd hE).symm⟩, by dsimp only; rw [ht]; exact hP⟩, hS.F ht⟩) hS.2.2 dX8_composesAt_37
    · have hE := hE.trans (if_neg c2)
      refine lv_iconst (v := 1) hx hb dX8_composesAt_32 (by decide) ?_
      refine lv_goto (tgt := 37) hx hb dX8_composesAt_33 (by decide) ?_
      exact W.zret (v := 1) hx hb hr rfl (fun t ht hW => ⟨⟨1, (f_X8_composes fu V (f_X8_wanted V p1 0) (f_X8_wanted V p1 1)).2, rfl, ⟨(congrArg Prod.fst hE).symm, (congrArg Prod.snd hE).symm⟩, by dsimp only; rw [ht]; exact hP⟩, hS.F ht⟩) hS.2.2 dX8_composesAt_37
