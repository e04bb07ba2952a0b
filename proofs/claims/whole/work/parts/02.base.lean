/-! THE WORLD AS ONE TABLE: 54 cells; what cell k holds is a fixed function of the row V k. Boards: 6 of them, board j at the cells 6 + 7 * j .. -/
abbrev VT : Type := Nat → Nat → Int32
def upV (V : VT) (k i : Nat) (x : Int32) : VT := fun a => if a = k then upd (V a) i x else V a
def bdCell (ad : Nat → Nat) (cI : ClassId) (j r : Nat) (g : Nat → Int32) : va_E := match r with
  | 0 => .inr (0, [.ref (ad (6 + 7 * j + 1)), .ref (ad (6 + 7 * j + 3)), .ref (ad (6 + 7 * j + 4)), .ref (ad (6 + 7 * j + 5)), .ref (ad (6 + 7 * j + 6)), .int (g 5), .int (g 6), .int (g 0), .int (g 1), .int (g 2), .int (g 3), .int (g 4)])
  | 1 => .inr (3, [.ref (ad (6 + 7 * j + 2))])
  | 2 => .inl (cI, 10, .inl g)
  | _ => .inl (cI, 8, .inl g)
def mdCell (ad : Nat → Nat) (cI : ClassId) (r : Nat) (g : Nat → Int32) : va_E := match r with
  | 0 => .inr (6, [.ref (ad 49), .ref (ad 50), .ref (ad 51), .int (g 0), .ref (ad 52), .int (g 1), .ref (ad 53), .int (g 2), .int (g 3), .int (g 4), .int (g 5), .int (g 6), .int (g 7)])
  | 4 => .inl (cI, 196, .inl g)
  | 5 => .inl (cI, 30, .inl g)
  | _ => .inl (cI, 49, .inl g)
def tbCell (ad : Nat → Nat) (cI cB : ClassId) (r : Nat) (g : Nat → Int32) : va_E := match r with
  | 0 => .inr (5, [.ref (ad 6), .ref (ad 13), .ref (ad 4), .ref (ad 2), .ref (ad 1), .int (g 0)])
  | 1 => .inr (1, [if g 0 = 0 then .null else .ref (ad 7), .int (g 1), .int (g 2), .int (g 3), .int (g 4), .int (g 5), .int (g 6)])
  | 2 => .inr (4, [.ref (ad 3), .int (g 0)])
  | 3 => .inl (cI, 30, .inl g)
  | 4 => .inr (2, [.ref (ad 5), .int (g 0)])
  | _ => .inl (cB, 4, .inr (.inr (.inr (.inr (fun k => some (ad (6 + 7 * (g k).toNatClampNeg)))))))
def cellOf (ad : Nat → Nat) (cI cB : ClassId) (k : Nat) (g : Nat → Int32) : va_E := if k < 6 then tbCell ad cI cB k g else if k < 48 then bdCell ad cI ((k - 6) / 7) ((k - 6) % 7) g else mdCell ad cI (k - 48) g
theorem cell_bd (ad : Nat → Nat) (cI cB : ClassId) {j r : Nat} (hj : j < 6) (hr : r < 7) (g : Nat → Int32) : cellOf ad cI cB (6 + 7 * j + r) g = bdCell ad cI j r g := by
  unfold cellOf
  rw [if_neg (by omega), if_pos (by omega), show (6 + 7 * j + r - 6) / 7 = j by omega, show (6 + 7 * j + r - 6) % 7 = r by omega]
def wl (N : Nat) (ad : Nat → Nat) (e : Nat → va_E) : va_W := (List.range N).map (fun k => (ad k, e k))
theorem wl_at {N : Nat} {ad : Nat → Nat} {e : Nat → va_E} {k : Nat} (hk : k < N) {x : va_E} (he : e k = x) : (wl N ad e)[k]? = some (ad k, x) := by
  subst he
  simp [wl, hk]
theorem wl_inv {N : Nat} {ad : Nat → Nat} {e : Nat → va_E} {k : Nat} {q : Nat × va_E} (h : (wl N ad e)[k]? = some q) : k < N ∧ q = (ad k, e k) := by
  by_cases hk : k < N
  · rw [wl_at hk rfl] at h
    exact ⟨hk, (Option.some.inj h).symm⟩
  · have h2 : (wl N ad e).length = N := by simp [wl]
    have h3 := (List.getElem?_eq_some_iff.mp h).1
    omega
theorem wl_set {N : Nat} {ad : Nat → Nat} {e : Nat → va_E} {k : Nat} (x : va_E) : (wl N ad e).set k (ad k, x) = wl N ad (fun a => if a = k then x else e a) := by
  apply List.ext_getElem?
  intro i
  by_cases hi : i < N
  · rw [wl_at hi rfl]
    by_cases hik : i = k
    · subst hik
      have hl : i < (wl N ad e).length := by simp [wl, hi]
      rw [List.getElem?_set_self hl, if_pos rfl]
    · rw [List.getElem?_set_ne (Ne.symm hik), wl_at hi rfl, if_neg hik]
  · have h1 : (wl N ad e).length = N := by simp [wl]
    have h2 : (wl N ad (fun a => if a = k then x else e a)).length = N := by simp [wl]
    rw [List.getElem?_eq_none (by rw [List.length_set]; omega), List.getElem?_eq_none (by omega)]
/-- a layout: what a cell holds, by its row -/
abbrev LC : Type := Nat → (Nat → Int32) → va_E
def sysE (cl : LC) (V : VT) (k : Nat) : va_E := cl k (V k)
theorem sys_up {cl : LC} {V : VT} {q i : Nat} {x : Int32} {y : va_E} (h : cl q (upd (V q) i x) = y) : (fun a => if a = q then y else sysE cl V a) = sysE cl (upV V q i x) := by
  funext a
  by_cases ha : a = q
  · subst ha
    simp only [if_true, sysE, upV]
    exact h.symm
  · simp [sysE, upV, ha]
def wG (D : va_G) (N : Nat) (cl : LC) (ad : Nat → Nat) (V : VT) (H : Heap) : Prop := va_P D vwCl (wl N ad (sysE cl V)) H
abbrev wP (D : va_G) (cI cB : ClassId) (ad : Nat → Nat) (V : VT) (H : Heap) : Prop := wG D 54 (cellOf ad cI cB) ad V H
abbrev tys2 (cI cB : ClassId) : List (ClassId × FieldType) := [(cI, .int), (cB, .object RX0)]
/-- the addresses are apart, and the method's to change -/
def adG (N : Nat) (ad : Nat → Nat) (A : Nat → Prop) : Prop := (∀ i j : Nat, i < N → j < N → ad i = ad j → i = j) ∧ ∀ i : Nat, i < N → A (ad i)
abbrev adOk (ad : Nat → Nat) (A : Nat → Prop) : Prop := adG 54 ad A
theorem adG.D {N : Nat} {ad : Nat → Nat} {A : Nat → Prop} (h : adG N ad A) (e : Nat → va_E) : va_D A (wl N ad e) := by
  refine ⟨fun i j x y hx hy hxy => ?_, fun k q hk => ?_⟩
  · obtain ⟨h1, rfl⟩ := wl_inv hx
    obtain ⟨h2, rfl⟩ := wl_inv hy
    exact h.1 i j h1 h2 hxy
  · obtain ⟨h1, rfl⟩ := wl_inv hk
    exact h.2 k h1
def nwL : List Cond := [.methodLinkNest RX7 9 yX0_init "TurnedBoards", .fieldLinkNest RX7 51 "TurnedBoards$Board" "letters" "LTurnedBoards$Letters;" "TurnedBoards", .fieldLinkNest RX7 243 "TurnedBoards$Board" "uprightWord" "[I" "TurnedBoards", .fieldLinkNest RX7 256 "TurnedBoards$Board" "turnedWord" "[I" "TurnedBoards", .fieldLinkNest RX7 88 "TurnedBoards$Board" "places" "I" "TurnedBoards", .fieldLinkNest RX7 176 "TurnedBoards$Board" "turned" "Z" "TurnedBoards", .fieldLinkNest RX7 100 "TurnedBoards$Board" "stiffness" "I" "TurnedBoards", .fieldLinkNest RX7 106 "TurnedBoards$Board" "day" "I" "TurnedBoards", .fieldLinkNest RX7 179 "TurnedBoards$Board" "turns" "I" "TurnedBoards", .methodLinkNest RX2 21 yX0_init "TurnedBoards", .fieldLinkNest RX7 188 "TurnedBoards$History" "size" "I" "TurnedBoards", .methodLinkNest RX7 28 yX5_init "TurnedBoards", .fieldLinkNest RX7 191 "TurnedBoards$Script" "length" "I" "TurnedBoards", .methodLinkNest RX7 35 yX1_init "TurnedBoards", .fieldLinkNest RX7 84 "TurnedBoards$Composer" "best" "I" "TurnedBoards", .fieldLinkNest RX7 198 "TurnedBoards$Composer" "bestLesser" "I" "TurnedBoards"]
theorem nwL_on : ∀ w ∈ nwL, w.onTables = true := by decide +kernel
def nwAll (U : State) : Prop := (∀ w ∈ nwL, va_Nw w U) ∧ va_AO RX0 U
theorem nwAll.warm {s U : State} (hW : s.WarmedH U.vm) (h : nwAll s) : nwAll U := by
  refine ⟨?_, h.2.moved hW.alike⟩
  intro w hw
  have h1 := h.1 w hw
  simp only [nwL, List.mem_cons, List.not_mem_nil, or_false] at hw
  rcases hw with rfl | rfl | rfl | rfl | rfl | rfl | rfl | rfl | rfl | rfl | rfl | rfl | rfl | rfl | rfl | rfl <;> first | exact va_Nw.warmF hW h1 | exact va_Nw.warmM hW h1
theorem nwAll.same {s U : State} (hv : s.vm = U.vm) (h : nwAll s) : nwAll U := ⟨fun w hw => va_Nw.same (nwL_on w hw) hv (h.1 w hw), h.2.moved (by rw [hv]; exact Vm.Alike.refl _)⟩
def KN (D : va_G) (cI cB : ClassId) (U : State) : Prop := va_K D vwCl (tys2 cI cB) U ∧ nwAll U
/-- a method's start -/
def cG (D : va_G) (cI cB : ClassId) (N : Nat) (cl : LC) (ad : Nat → Nat) (V : VT) (av : List Value) : Array Value → State → Prop := va_Pc av (fun U => wG D N cl ad V U.heap ∧ KN D cI cB U)
abbrev cP (D : va_G) (cI cB : ClassId) (ad : Nat → Nat) (V : VT) (av : List Value) : Array Value → State → Prop := cG D cI cB 54 (cellOf ad cI cB) ad V av
/-- its end: it reads; it writes and answers; it writes -/
def cR (v : Int32) : Array Value → State → Outcome → State → Prop := va_Qi (fun r (_ : Unit) => r = v) (fun _ _ => True) (fun _ => False)
def cWi (D : va_G) (cI cB : ClassId) (ad : Nat → Nat) (A : Nat → Prop) (q : Int32 × VT) : Array Value → State → Outcome → State → Prop := va_Qi (fun r V' => r = q.1 ∧ V' = q.2) (fun V' t => wP D cI cB ad V' t.heap) A
def cGv (D : va_G) (N : Nat) (cl : LC) (ad : Nat → Nat) (A : Nat → Prop) (q : VT) : Array Value → State → Outcome → State → Prop := va_Qv (fun V' => V' = q) (fun V' t => wG D N cl ad V' t.heap) A
abbrev cWv (D : va_G) (cI cB : ClassId) (ad : Nat → Nat) (A : Nat → Prop) (q : VT) : Array Value → State → Outcome → State → Prop := cGv D 54 (cellOf ad cI cB) ad A q
theorem cP_blind {D : va_G} {cI cB : ClassId} {N : Nat} {cl : LC} {ad : Nat → Nat} {V : VT} {av : List Value} : FrameBlind (cG D cI cB N cl ad V av) := by
  intro a U g mk q
  obtain ⟨q0, q1, q2, q3⟩ := q
  exact ⟨q0, q1, va_K.moved (u := U) (U := U.calling g mk a) (Vm.Alike.refl U.vm) q2, nwAll.same (s := U) (U := U.calling g mk a) rfl q3⟩
def isRw (N : Nat) (cl : LC) (cI : ClassId) (q n : Nat) : Prop := q < N ∧ (∀ g : Nat → Int32, cl q g = .inl (cI, n, .inl g)) ∧ n < 2 ^ 31
abbrev isRow (ad : Nat → Nat) (cI cB : ClassId) (q n : Nat) : Prop := isRw 54 (cellOf ad cI cB) cI q n
theorem rw_bd (ad : Nat → Nat) (cI cB : ClassId) {j r n : Nat} (hj : j < 6) (hr : r < 7) (h : ∀ g : Nat → Int32, bdCell ad cI j r g = .inl (cI, n, .inl g)) (hn : n < 2 ^ 31 := by decide) : isRow ad cI cB (6 + 7 * j + r) n := ⟨by omega, fun g => by rw [cell_bd ad cI cB hj hr]; exact h g, hn⟩
theorem ce_bd (ad : Nat → Nat) (cI cB : ClassId) {j : Nat} (hj : j < 6) (g : Nat → Int32) : cellOf ad cI cB (6 + 7 * j) g = .inr (0, [.ref (ad (6 + 7 * j + 1)), .ref (ad (6 + 7 * j + 3)), .ref (ad (6 + 7 * j + 4)), .ref (ad (6 + 7 * j + 5)), .ref (ad (6 + 7 * j + 6)), .int (g 5), .int (g 6), .int (g 0), .int (g 1), .int (g 2), .int (g 3), .int (g 4)]) := cell_bd ad cI cB (r := 0) hj (by omega) g
theorem ce_lt (ad : Nat → Nat) (cI cB : ClassId) {j : Nat} (hj : j < 6) (g : Nat → Int32) : cellOf ad cI cB (6 + 7 * j + 1) g = .inr (3, [.ref (ad (6 + 7 * j + 2))]) := cell_bd ad cI cB (r := 1) hj (by omega) g
theorem ce_tb (ad : Nat → Nat) (cI cB : ClassId) (g : Nat → Int32) : cellOf ad cI cB 0 g = .inr (5, [.ref (ad 6), .ref (ad 13), .ref (ad 4), .ref (ad 2), .ref (ad 1), .int (g 0)]) := rfl
theorem ce_cm (ad : Nat → Nat) (cI cB : ClassId) (g : Nat → Int32) : cellOf ad cI cB 1 g = .inr (1, [if g 0 = 0 then .null else .ref (ad 7), .int (g 1), .int (g 2), .int (g 3), .int (g 4), .int (g 5), .int (g 6)]) := rfl
theorem ce_sc (ad : Nat → Nat) (cI cB : ClassId) (g : Nat → Int32) : cellOf ad cI cB 2 g = .inr (4, [.ref (ad 3), .int (g 0)]) := rfl
theorem ce_hs (ad : Nat → Nat) (cI cB : ClassId) (g : Nat → Int32) : cellOf ad cI cB 4 g = .inr (2, [.ref (ad 5), .int (g 0)]) := rfl
theorem ce_md (ad : Nat → Nat) (cI cB : ClassId) (g : Nat → Int32) : cellOf ad cI cB 48 g = .inr (6, [.ref (ad 49), .ref (ad 50), .ref (ad 51), .int (g 0), .ref (ad 52), .int (g 1), .ref (ad 53), .int (g 2), .int (g 3), .int (g 4), .int (g 5), .int (g 6), .int (g 7)]) := rfl
def isB (x : Int32) : Prop := x = 0 ∨ x = 1
theorem isB.n {x : Int32} (h : isB x) : narrow .boolean (.int x) = .int x := by rcases h with rfl | rfl <;> rfl
theorem isB.f {x : Int32} (h : isB x) : fits .boolean (.int x) = true := by rcases h with rfl | rfl <;> rfl
def jushr (x y : Int32) : Int32 := (x.toUInt32 >>> (y.toUInt32 &&& Int32.toUInt32 31)).toInt32
def ji2c (x : Int32) : Int32 := (x.toUInt32 % 65536).toInt32
theorem vp_lit {i : Int32} {n : Nat} (h0 : ¬ i < 0) (h1 : i.toNatClampNeg < n) : vp_in i n := fun h => h.elim h0 (fun h => by omega)
theorem vp_of2 {i : Int32} {n : Nat} (h0 : ¬ i < 0) (h1 : ¬ nI n ≤ i) (hn : n < 2 ^ 31) : vp_in i n := by
  obtain ⟨j, hj, rfl⟩ := nI_of h0
  refine vp_in_nI ?_ hn
  rcases Nat.lt_or_ge j n with h | h
  · exact h
  · exact absurd (nI_le h hj) h1
theorem vp_of3 {i : Int32} {n : Nat} (h0 : ¬ i < 0) (h1 : ¬ nI n ≤ i) (hn : n < 2 ^ 31) : vp_in i n := vp_of2 h0 h1 hn
theorem vp_of {i : Int32} {n : Nat} (h0 : ¬ i < 0) (h1 : i < nI n) (hn : n < 2 ^ 31) : vp_in i n := by
  obtain ⟨j, hj, rfl⟩ := nI_of h0
  exact vp_in_nI ((nI_ltI hj hn).mp h1) hn
section X
variable {p : Program} {l : Launch} {e : Env} {R : Room} {s : State} {m : MethodId} {args : Array Value} {below : List Frame} {meth : Method} {c : Code} {H : Heap} {locs : List Loc} {cells slots : Nat} {Q : State → Prop}
variable {cc : ByteArray} {pc : Nat} {ls : Array Slot} {rest st0 : List Value} {D : va_G} {cI cB : ClassId} {ad : Nat → Nat} {A : Nat → Prop} {V : VT} {H0 : Heap} {A0 : Nat → Prop} {N : Nat} {cl : LC}
theorem x_iald (hexec : p.tables.exec = Jvm.exec) (hb : c.code = cc) (hK : va_K D vwCl (tys2 cI cB) s) (hP : wG D N cl ad V H) {q n : Nat} (hq : isRw N cl cI q n) {i : Int32} (hin : vp_in i n) (hdg : decode cc pc = .ok (.iaload, 1))
    (kk : W p l e R s m args below meth c H locs cells slots Q (F0 m (pc + 1) ls (.int (V q i.toNatClampNeg) :: rest))) : W p l e R s m args below meth c H locs cells slots Q (F0 m pc ls (.int i :: .ref (ad q) :: rest)) :=
  va_iald hexec hb hK hP q 0 (wl_at hq.1 (hq.2.1 (V q))) rfl hin hdg kk
theorem x_alen (hexec : p.tables.exec = Jvm.exec) (hb : c.code = cc) (hK : va_K D vwCl (tys2 cI cB) s) (hP : wG D N cl ad V H) {q n : Nat} (hq : isRw N cl cI q n) (hdg : decode cc pc = .ok (.arraylength, 1))
    (kk : W p l e R s m args below meth c H locs cells slots Q (F0 m (pc + 1) ls (.int (nI n) :: rest))) : W p l e R s m args below meth c H locs cells slots Q (F0 m pc ls (.ref (ad q) :: rest)) :=
  va_alen hexec hb hK hP q 0 (wl_at hq.1 (hq.2.1 (V q))) rfl rfl hdg kk
theorem x_iast (hexec : p.tables.exec = Jvm.exec) (hb : c.code = cc) (hK : va_K D vwCl (tys2 cI cB) s) (hP : wG D N cl ad V H) (hA : adG N ad A) (hS : va_S A H0 H locs) {q n : Nat} (hq : isRw N cl cI q n) {i x : Int32} (hin : vp_in i n) (hdg : decode cc pc = .ok (.iastore, 1))
    (kk : ∀ (H1 : Heap) (locs1 : List Loc), wG D N cl ad (upV V q i.toNatClampNeg x) H1 → va_S A H0 H1 locs1 → W p l e R s m args below meth c H1 locs1 cells slots Q (F0 m (pc + 1) ls rest)) : W p l e R s m args below meth c H locs cells slots Q (F0 m pc ls (.int x :: .int i :: .ref (ad q) :: rest)) := by
  refine va_iast hexec hb hK hP (hA.D _) hS q 0 (wl_at hq.1 (hq.2.1 (V q))) rfl hin hdg (fun H1 locs1 h1 _ h3 => kk H1 locs1 ?_ h3)
  rw [wl_set, sys_up (hq.2.1 _)] at h1
  exact h1
theorem x_get (hexec : p.tables.exec = Jvm.exec) (hb : c.code = cc) {own ref C : String} {T : u_T} {N ci index : Nat} {Ts : List Cond} (hts : ∀ w ∈ Ts, w.before args s = true) (hin : ∀ w ∈ u_ws C T N, w ∈ Ts) (hown : s.vm.findClass own = some m.cls) (hK : va_K D vwCl (tys2 cI cB) s) (hP : wP D cI cB ad V H) {q : Nat} (hq : q < 54) {fs : List Value} (he : cellOf ad cI cB q (V q) = .inr (ci, fs)) (hc : vwCl[ci]? = some (C, T, N)) (k : Nat) (hk : k < N) (hlink : (Cond.fieldLink own index ref (T k).2.1 (T k).2.2.1).before args s = true) (href : ref = (T k).1) {v : Value} (hv : fs[k]? = some v) (hdg : decode cc pc = .ok (.getfield index, 3))
    (kk : W p l e R s m args below meth c H locs cells slots Q (F0 m (pc + 3) ls (v :: rest))) : W p l e R s m args below meth c H locs cells slots Q (F0 m pc ls (.ref (ad q) :: rest)) :=
  va_get hexec hb hts hin hown hK hP q (wl_at hq he) hc k hk hlink (fun _ h => by rw [href]; exact h) hv hdg kk
theorem x_getN (hexec : p.tables.exec = Jvm.exec) (hb : c.code = cc) {own ref C host : String} {T : u_T} {N ci index : Nat} {Ts : List Cond} (hts : ∀ w ∈ Ts, w.before args s = true) (hin : ∀ w ∈ u_ws C T N, w ∈ Ts) (hown : s.vm.findClass own = some m.cls) (hK : va_K D vwCl (tys2 cI cB) s) (hP : wP D cI cB ad V H) {q : Nat} (hq : q < 54) {fs : List Value} (he : cellOf ad cI cB q (V q) = .inr (ci, fs)) (hc : vwCl[ci]? = some (C, T, N)) (k : Nat) (hk : k < N) (hlink : va_Nw (Cond.fieldLinkNest own index ref (T k).2.1 (T k).2.2.1 host) s) (href : ref = (T k).1) {v : Value} (hv : fs[k]? = some v) (hdg : decode cc pc = .ok (.getfield index, 3))
    (kk : W p l e R s m args below meth c H locs cells slots Q (F0 m (pc + 3) ls (v :: rest))) : W p l e R s m args below meth c H locs cells slots Q (F0 m pc ls (.ref (ad q) :: rest)) :=
  va_getN hexec hb hts hin hown hK hP q (wl_at hq he) hc k hk (va_Nw.use rfl hlink) (fun _ h => by rw [href]; exact h) hv hdg kk
theorem x_put (hexec : p.tables.exec = Jvm.exec) (hb : c.code = cc) {own ref C : String} {T : u_T} {N ci index : Nat} {Ts : List Cond} (hts : ∀ w ∈ Ts, w.before args s = true) (hin : ∀ w ∈ u_ws C T N, w ∈ Ts) (ty0 : Nat → FieldType) (hty : ∀ k, k < N → parseFieldDescriptor (T k).2.2.1 = some (ty0 k)) (hnm : ∀ a, a < N → ∀ b, b < N → a ≠ b → (T a).2.1 ≠ (T b).2.1) (hown : s.vm.findClass own = some m.cls) (hK : va_K D vwCl (tys2 cI cB) s) (hP : wP D cI cB ad V H) (hA : adOk ad A) (hS : va_S A H0 H locs) {q : Nat} (hq : q < 54) {fs : List Value} (he : cellOf ad cI cB q (V q) = .inr (ci, fs)) (hc : vwCl[ci]? = some (C, T, N)) (k : Nat) (hk : k < N) (hlink : (Cond.fieldLink own index ref (T k).2.1 (T k).2.2.1).before args s = true) (href : ref = (T k).1) (hfin : (T k).2.2.2 = false) {ty : FieldType} {v : Value} (hd : parseFieldDescriptor (T k).2.2.1 = some ty) (hn : narrow ty v = v) (hfit : fits ty v = true) (hl : k < fs.length) (i : Nat) (x : Int32) (h2 : cellOf ad cI cB q (upd (V q) i x) = .inr (ci, fs.set k v))
    (hdg : decode cc pc = .ok (.putfield index, 3)) (kk : ∀ (H1 : Heap) (locs1 : List Loc), wP D cI cB ad (upV V q i x) H1 → va_S A H0 H1 locs1 → W p l e R s m args below meth c H1 locs1 cells slots Q (F0 m (pc + 3) ls rest)) : W p l e R s m args below meth c H locs cells slots Q (F0 m pc ls (v :: .ref (ad q) :: rest)) := by
  refine va_put hexec hb hts hin ty0 hty hnm hown hK hP (hA.D _) hS q (wl_at hq he) hc k hk hlink (fun _ h => by rw [href]; exact h) hfin hd hn hfit hl hdg (fun H1 locs1 h1 _ h3 => kk H1 locs1 ?_ h3)
  rw [wl_set, sys_up h2] at h1
  exact h1
theorem x_putN (hexec : p.tables.exec = Jvm.exec) (hb : c.code = cc) {own ref C host : String} {T : u_T} {N ci index : Nat} {Ts : List Cond} (hts : ∀ w ∈ Ts, w.before args s = true) (hin : ∀ w ∈ u_ws C T N, w ∈ Ts) (ty0 : Nat → FieldType) (hty : ∀ k, k < N → parseFieldDescriptor (T k).2.2.1 = some (ty0 k)) (hnm : ∀ a, a < N → ∀ b, b < N → a ≠ b → (T a).2.1 ≠ (T b).2.1) (hown : s.vm.findClass own = some m.cls) (hK : va_K D vwCl (tys2 cI cB) s) (hP : wP D cI cB ad V H) (hA : adOk ad A) (hS : va_S A H0 H locs) {q : Nat} (hq : q < 54) {fs : List Value} (he : cellOf ad cI cB q (V q) = .inr (ci, fs)) (hc : vwCl[ci]? = some (C, T, N)) (k : Nat) (hk : k < N) (hlink : va_Nw (Cond.fieldLinkNest own index ref (T k).2.1 (T k).2.2.1 host) s) (href : ref = (T k).1) (hfin : (T k).2.2.2 = false) {ty : FieldType} {v : Value} (hd : parseFieldDescriptor (T k).2.2.1 = some ty) (hn : narrow ty v = v) (hfit : fits ty v = true) (hl : k < fs.length) (i : Nat) (x : Int32) (h2 : cellOf ad cI cB q (upd (V q) i x) = .inr (ci, fs.set k v))
    (hdg : decode cc pc = .ok (.putfield index, 3)) (kk : ∀ (H1 : Heap) (locs1 : List Loc), wP D cI cB ad (upV V q i x) H1 → va_S A H0 H1 locs1 → W p l e R s m args below meth c H1 locs1 cells slots Q (F0 m (pc + 3) ls rest)) : W p l e R s m args below meth c H locs cells slots Q (F0 m pc ls (v :: .ref (ad q) :: rest)) := by
  refine va_putN hexec hb hts hin ty0 hty hnm hown hK hP (hA.D _) hS q (wl_at hq he) hc k hk (va_Nw.use rfl hlink) (fun _ h => by rw [href]; exact h) hfin hd hn hfit hl hdg (fun H1 locs1 h1 _ h3 => kk H1 locs1 ?_ h3)
  rw [wl_set, sys_up h2] at h1
  exact h1
theorem x_aald (hexec : p.tables.exec = Jvm.exec) (hb : c.code = cc) (hK : va_K D vwCl (tys2 cI cB) s) (hP : wP D cI cB ad V H) {i : Int32} (hin : vp_in i 4) (hdg : decode cc pc = .ok (.aaload, 1))
    (kk : W p l e R s m args below meth c H locs cells slots Q (F0 m (pc + 1) ls (.ref (ad (6 + 7 * (V 5 i.toNatClampNeg).toNatClampNeg)) :: rest))) : W p l e R s m args below meth c H locs cells slots Q (F0 m pc ls (.int i :: .ref (ad 5) :: rest)) := by
  refine va_aldq hexec hb hK hP 5 1 (wl_at (by omega) rfl) rfl hin hdg ?_
  exact kk
theorem x_aast (hexec : p.tables.exec = Jvm.exec) (hb : c.code = cc) (hK : va_K D vwCl (tys2 cI cB) s) (hP : wP D cI cB ad V H) (hA : adOk ad A) (hS : va_S A H0 H locs) {i : Int32} {j : Nat} (hj : j < 6) (hin : vp_in i 4) (hdg : decode cc pc = .ok (.aastore, 1))
    (kk : ∀ (H1 : Heap) (locs1 : List Loc), wP D cI cB ad (upV V 5 i.toNatClampNeg (nI j)) H1 → va_S A H0 H1 locs1 → W p l e R s m args below meth c H1 locs1 cells slots Q (F0 m (pc + 1) ls rest)) : W p l e R s m args below meth c H locs cells slots Q (F0 m pc ls (.ref (ad (6 + 7 * j)) :: .int i :: .ref (ad 5) :: rest)) := by
  refine va_astq (r := (RX0, TX0, 12)) hexec hb hK hP (hA.D _) hS 5 1 (6 + 7 * j) 0 (wl_at (by omega) rfl) rfl (wl_at (by omega) (cell_bd ad cI cB (r := 0) hj (by omega) _)) rfl hin hdg (fun H1 locs1 h1 _ h3 => kk H1 locs1 ?_ h3)
  rw [wl_set] at h1
  have h2 : cellOf ad cI cB 5 (upd (V 5) i.toNatClampNeg (nI j)) = .inl (cB, 4, .inr (.inr (.inr (.inr (va_up (fun k => some (ad (6 + 7 * (V 5 k).toNatClampNeg))) i.toNatClampNeg (some (ad (6 + 7 * j)))))))) := by
    show (Sum.inl (cB, 4, .inr (.inr (.inr (.inr (fun k => some (ad (6 + 7 * (upd (V 5) i.toNatClampNeg (nI j) k).toNatClampNeg))))))) : va_E) = _
    congr 7
    funext k
    by_cases hk : k = i.toNatClampNeg
    · subst hk
      simp only [upd, va_up, if_true]
      rw [nI_clamp (by omega)]
    · simp only [upd, va_up, if_neg hk]
  rw [sys_up h2] at h1
  exact h1
theorem x_alen5 (hexec : p.tables.exec = Jvm.exec) (hb : c.code = cc) (hK : va_K D vwCl (tys2 cI cB) s) (hP : wP D cI cB ad V H) (hdg : decode cc pc = .ok (.arraylength, 1))
    (kk : W p l e R s m args below meth c H locs cells slots Q (F0 m (pc + 1) ls (.int (nI 4) :: rest))) : W p l e R s m args below meth c H locs cells slots Q (F0 m pc ls (.ref (ad 5) :: rest)) :=
  va_alen hexec hb hK hP 5 1 (wl_at (by omega) rfl) rfl rfl hdg kk
theorem wP_kept {H1 : Heap} (hP : wG D N cl ad V H) (hk : ∀ q : Nat, q < H.size → ¬ False → H1[q]? = H[q]?) : wG D N cl ad V H1 := va_P.kept hP (fun k q h => hk q.1 ((hP k q h).lt) (fun z => z))
variable {y : MethodName} {bytes : ByteArray} {maxL nL n index : Nat} {ret : Option FieldType} {ws : List Cond} {rm : Room} {Ts : List Cond} {own C : String} {b : Addr} {As : List Value}
theorem c_preS (hP : wG D N cl ad V H) (hKN : KN D cI cB s) : PreS s H (cG D cI cB N cl ad V As) As := ⟨cP_blind, fun U hU hW => ⟨rfl, by rw [hU]; exact hP, va_K.moved hW.alike hKN.1, hKN.2.warm hW⟩⟩
theorem c_preV (hP : wP D cI cB ad V H) (hKN : KN D cI cB s) {q ci : Nat} (hq : q < 54) {fs : List Value} (he : cellOf ad cI cB q (V q) = .inr (ci, fs)) {r : vw_C} (hc : vwCl[ci]? = some r) (hC : r.1 = C) : PreV s H C (ad q) (cP D cI cB ad V (.ref (ad q) :: As)) As := by
  subst hC
  exact ⟨cP_blind, va_recv hKN.1 hP hc (wl_at hq he), fun U hU hW => ⟨rfl, by rw [hU]; exact hP, va_K.moved hW.alike hKN.1, hKN.2.warm hW⟩⟩
theorem k_SR {v : Int32} (S : CallFix p m c cc nL s args Ts own) (hKN : KN D cI cB s) (hP : wG D N cl ad V H) (hS : va_S A0 H0 H locs) (hM : Met l y ws rm (cG D cI cB N cl ad V As) (cR v) 0 0 (fun _ => False)) (cw : CallB R s args own index y bytes maxL ret ws rm 0 0 n ∧ (Cond.static y).before args s = true) (hn : As.length = n) (hl : ls.size = nL) (hst : st0 = As.reverse ++ rest) (hW : (rest.map fun v => v.category).sum ≤ 8) (hdg : decode cc pc = .ok (.invokestatic index, 3)) (hf : cells ≤ R.cells ∧ slots ≤ R.slots)
    (kk : ∀ (H1 : Heap) (locs1 : List Loc), wG D N cl ad V H1 → va_S A0 H0 H1 locs1 → W p l e R s m args below meth c H1 locs1 cells slots Q (F0 m (pc + 3) ls (.int v :: rest))) : W p l e R s m args below meth c H locs cells slots Q (F0 m pc ls st0) := by
  refine va_calli (va_runS (As := As) (rest := rest) S hM cw (c_preS hP hKN) rfl hn hl hst (lv_room hW) hdg hf) hS (fun q _ h => h.elim) (fun q h => h.elim) (fun r u t H1 locs1 ht hvm hw hB hz hk hS1 => ?_)
  subst hw
  exact kk H1 locs1 (wP_kept hP hk) hS1
theorem k_VR {v : Int32} {q : Nat} (S : CallFix p m c cc nL s args Ts own) (hKN : KN D cI cB s) (hP : wP D cI cB ad V H) (hS : va_S A0 H0 H locs) (hM : Met l y ws rm (cP D cI cB ad V (.ref (ad q) :: As)) (cR v) 0 0 (fun _ => False)) (cw : CallW R s args own C index y bytes maxL ret ws rm 0 0 n) (hp : PreV s H C (ad q) (cP D cI cB ad V (.ref (ad q) :: As)) As) (hn : As.length = n) (hl : ls.size = nL) (hst : st0 = As.reverse ++ .ref (ad q) :: rest) (hW : (rest.map fun v => v.category).sum ≤ 8) (hdg : decode cc pc = .ok (.invokevirtual index, 3)) (hf : cells ≤ R.cells ∧ slots ≤ R.slots)
    (kk : ∀ (H1 : Heap) (locs1 : List Loc), wP D cI cB ad V H1 → va_S A0 H0 H1 locs1 → W p l e R s m args below meth c H1 locs1 cells slots Q (F0 m (pc + 3) ls (.int v :: rest))) : W p l e R s m args below meth c H locs cells slots Q (F0 m pc ls st0) := by
  refine va_calli (va_runV (As := As) (rest := rest) S hM cw hp rfl hn hl hst (lv_room hW) hdg hf) hS (fun q _ h => h.elim) (fun q h => h.elim) (fun r u t H1 locs1 ht hvm hw hB hz hk hS1 => ?_)
  subst hw
  exact kk H1 locs1 (wP_kept hP hk) hS1
theorem k_SWv {z : VT} (S : CallFix p m c cc nL s args Ts own) (hKN : KN D cI cB s) (hP : wG D N cl ad V H) (hS : va_S A H0 H locs) (hM : Met l y ws rm (cG D cI cB N cl ad V As) (cGv D N cl ad A z) 0 0 A) (cw : CallB R s args own index y bytes maxL ret ws rm 0 0 n ∧ (Cond.static y).before args s = true) (hn : As.length = n) (hl : ls.size = nL) (hst : st0 = As.reverse ++ rest) (hW : (rest.map fun v => v.category).sum ≤ 8) (hdg : decode cc pc = .ok (.invokestatic index, 3)) (hf : cells ≤ R.cells ∧ slots ≤ R.slots)
    (kk : ∀ (H1 : Heap) (locs1 : List Loc), wG D N cl ad z H1 → va_S A H0 H1 locs1 → W p l e R s m args below meth c H1 locs1 cells slots Q (F0 m (pc + 3) ls rest)) : W p l e R s m args below meth c H locs cells slots Q (F0 m pc ls st0) := by
  refine va_callv (va_runS (As := As) (rest := rest) S hM cw (c_preS hP hKN) rfl hn hl hst (lv_room hW) hdg hf) hS (fun q _ h => h) (fun q h => h) (fun u t H1 locs1 ht hvm hw hB hz hk hS1 => ?_)
  subst hw
  rw [ht] at hB
  exact kk H1 locs1 hB hS1
theorem k_VWv {z : VT} {q : Nat} (S : CallFix p m c cc nL s args Ts own) (hKN : KN D cI cB s) (hP : wP D cI cB ad V H) (hS : va_S A H0 H locs) (hM : Met l y ws rm (cP D cI cB ad V (.ref (ad q) :: As)) (cWv D cI cB ad A z) 0 0 A) (cw : CallW R s args own C index y bytes maxL ret ws rm 0 0 n) (hp : PreV s H C (ad q) (cP D cI cB ad V (.ref (ad q) :: As)) As) (hn : As.length = n) (hl : ls.size = nL) (hst : st0 = As.reverse ++ .ref (ad q) :: rest) (hW : (rest.map fun v => v.category).sum ≤ 8) (hdg : decode cc pc = .ok (.invokevirtual index, 3)) (hf : cells ≤ R.cells ∧ slots ≤ R.slots)
    (kk : ∀ (H1 : Heap) (locs1 : List Loc), wP D cI cB ad z H1 → va_S A H0 H1 locs1 → W p l e R s m args below meth c H1 locs1 cells slots Q (F0 m (pc + 3) ls rest)) : W p l e R s m args below meth c H locs cells slots Q (F0 m pc ls st0) := by
  refine va_callv (va_runV (As := As) (rest := rest) S hM cw hp rfl hn hl hst (lv_room hW) hdg hf) hS (fun q _ h => h) (fun q h => h) (fun u t H1 locs1 ht hvm hw hB hz hk hS1 => ?_)
  subst hw
  rw [ht] at hB
  exact kk H1 locs1 hB hS1
theorem k_VWi {z : Int32 × VT} {q : Nat} (S : CallFix p m c cc nL s args Ts own) (hKN : KN D cI cB s) (hP : wP D cI cB ad V H) (hS : va_S A H0 H locs) (hM : Met l y ws rm (cP D cI cB ad V (.ref (ad q) :: As)) (cWi D cI cB ad A z) 0 0 A) (cw : CallW R s args own C index y bytes maxL ret ws rm 0 0 n) (hp : PreV s H C (ad q) (cP D cI cB ad V (.ref (ad q) :: As)) As) (hn : As.length = n) (hl : ls.size = nL) (hst : st0 = As.reverse ++ .ref (ad q) :: rest) (hW : (rest.map fun v => v.category).sum ≤ 8) (hdg : decode cc pc = .ok (.invokevirtual index, 3)) (hf : cells ≤ R.cells ∧ slots ≤ R.slots)
    (kk : ∀ (H1 : Heap) (locs1 : List Loc), wP D cI cB ad z.2 H1 → va_S A H0 H1 locs1 → W p l e R s m args below meth c H1 locs1 cells slots Q (F0 m (pc + 3) ls (.int z.1 :: rest))) : W p l e R s m args below meth c H locs cells slots Q (F0 m pc ls st0) := by
  refine va_calli (va_runV (As := As) (rest := rest) S hM cw hp rfl hn hl hst (lv_room hW) hdg hf) hS (fun q _ h => h) (fun q h => h) (fun r u t H1 locs1 ht hvm hw hB hz hk hS1 => ?_)
  obtain ⟨rfl, rfl⟩ := hw
  rw [ht] at hB
  exact kk H1 locs1 hB hS1
end X
theorem pc_br {c A B : Prop} (h : (c → A) ∧ (¬ c → B)) (hc : c) : A := h.1 hc
theorem pc_bn {c A B : Prop} (h : (c → A) ∧ (¬ c → B)) (hc : ¬ c) : B := h.2 hc
section XF
variable {p : Program} {l : Launch} {e : Env} {R : Room} {s : State} {m : MethodId} {args : Array Value} {below : List Frame} {meth : Method} {c : Code} {H : Heap} {locs : List Loc} {cells slots : Nat} {Q : State → Prop}
variable {cc : ByteArray} {pc : Nat} {ls : Array Slot} {rest : List Value}
theorem x_ldcwF {T : State} (X : Stand p l e R s m args below meth c T locs cells slots) (hexec : p.tables.exec = Jvm.exec) {own : String} {index : Nat} {v : UInt32} (hown : s.vm.findClass own = some m.cls)
    (hconst : (Cond.constantFloat own index v).before args s = true) {g : JFrame} (hg : g.method = m) (hdg : decode c.code g.pc = .ok (.ldc_w index, 3)) :
    ∀ target, Steps p.tables e below (T.setTop { g with pc := g.pc + 3, stack := .float v :: g.stack }) target → Steps p.tables e below (T.setTop g) target := by
  obtain ⟨k, cf, hk, hcf, hcp⟩ := Cond.constantFloat_spec hown hconst
  obtain ⟨k', hk', he⟩ := X.warmed.alike.2.2 _ _ hk
  intro target hrest
  subst hg
  jvm_step X.here [hexec, hdg, ldc_w.wp_float (s := T) (f := g) X.here.top hk' (by rw [he]; exact hcf) hcp]
  exact hrest
theorem lv_ldcwf (hexec : p.tables.exec = Jvm.exec) (hb : c.code = cc) {own : String} {index : Nat} {v : UInt32} (hown : s.vm.findClass own = some m.cls) (hconst : (Jvm.Cond.constantFloat own index v).before args s = true) (hdg : decode cc pc = .ok (.ldc_w index, 3)) (k : W p l e R s m args below meth c H locs cells slots Q (F0 m (pc + 3) ls (.float v :: rest))) : W p l e R s m args below meth c H locs cells slots Q (F0 m pc ls rest) := by
  intro T hT X
  obtain ⟨t, a, b⟩ := k T hT X
  exact ⟨t, x_ldcwF X hexec hown hconst (g := F0 m pc ls rest) rfl (by rw [hb]; exact hdg) t a, b⟩
end XF
theorem i32_nl {a b : Int32} (h : a ≤ b) : ¬ b < a := fun q => absurd (Int32.lt_iff_toInt_lt.mp q) (Int.not_lt.mpr (Int32.le_iff_toInt_le.mp h))
theorem i32_lt {a b : Int32} (h : ¬ a ≤ b) : b < a := Int32.lt_iff_toInt_lt.mpr (Int.not_le.mp (fun q => h (Int32.le_iff_toInt_le.mpr q)))
theorem i32_nle {a b : Int32} (h : a < b) : ¬ b ≤ a := fun q => absurd (Int32.le_iff_toInt_le.mp q) (Int.not_le.mpr (Int32.lt_iff_toInt_lt.mp h))
theorem i32_le {a b : Int32} (h : ¬ a < b) : b ≤ a := Int32.le_iff_toInt_le.mpr (Int.not_lt.mp (fun q => h (Int32.lt_iff_toInt_lt.mpr q)))
