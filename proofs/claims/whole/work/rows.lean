section
-- ===== PART A: goes FIRST, ahead of the names: the tables' words, and 'selects' of the private methods out of them =====
/-- a private method of a class that the tables say can be made, by its rows of tables_1 -/
def lw_okq (q : MethodName × Nat) : Prop := (q.1.cls ≠ "java/lang/invoke/MethodHandle" ∧ q.1.cls ≠ "java/lang/invoke/VarHandle") ∧ Cond.instantiable q.1.cls q.2 ∈ tables_1 ∧ Cond.privateMethod q.1 ∈ tables_1 ∧ Cond.instanceMethod q.1 ∈ tables_1
theorem lw_p0 : lw_okq (⟨"TurnedBoards$History", "moveOldestToEnd", "()V"⟩, 2) := ⟨⟨by decide +kernel, by decide +kernel⟩, List.mem_of_getElem? (i := 88) (by decide +kernel), List.mem_of_getElem? (i := 187) (by decide +kernel), List.mem_of_getElem? (i := 188) (by decide +kernel)⟩
theorem lw_p1 : lw_okq (⟨"TurnedBoards", "findFor", "(I)Z"⟩, 6) := ⟨⟨by decide +kernel, by decide +kernel⟩, List.mem_of_getElem? (i := 14) (by decide +kernel), List.mem_of_getElem? (i := 243) (by decide +kernel), List.mem_of_getElem? (i := 244) (by decide +kernel)⟩
theorem lw_p2 : lw_okq (⟨"TurnedBoards$Composer", "settle", "(II)V"⟩, 7) := ⟨⟨by decide +kernel, by decide +kernel⟩, List.mem_of_getElem? (i := 119) (by decide +kernel), List.mem_of_getElem? (i := 272) (by decide +kernel), List.mem_of_getElem? (i := 273) (by decide +kernel)⟩
theorem lw_p3 : lw_okq (⟨"TurnedBoards$Composer", "settleAs", "(III)V"⟩, 7) := ⟨⟨by decide +kernel, by decide +kernel⟩, List.mem_of_getElem? (i := 119) (by decide +kernel), List.mem_of_getElem? (i := 298) (by decide +kernel), List.mem_of_getElem? (i := 299) (by decide +kernel)⟩
theorem lw_p4 : lw_okq (⟨"TurnedBoards", "marginOrNot", "(II)I"⟩, 6) := ⟨⟨by decide +kernel, by decide +kernel⟩, List.mem_of_getElem? (i := 14) (by decide +kernel), List.mem_of_getElem? (i := 392) (by decide +kernel), List.mem_of_getElem? (i := 393) (by decide +kernel)⟩
theorem lw_p5 : lw_okq (⟨"TurnedBoards", "marginOrZero", "(II)I"⟩, 6) := ⟨⟨by decide +kernel, by decide +kernel⟩, List.mem_of_getElem? (i := 14) (by decide +kernel), List.mem_of_getElem? (i := 452) (by decide +kernel), List.mem_of_getElem? (i := 453) (by decide +kernel)⟩
theorem lw_p6 : lw_okq (⟨"TurnedBoards$Script", "formFault", "()I"⟩, 2) := ⟨⟨by decide +kernel, by decide +kernel⟩, List.mem_of_getElem? (i := 105) (by decide +kernel), List.mem_of_getElem? (i := 504) (by decide +kernel), List.mem_of_getElem? (i := 505) (by decide +kernel)⟩
theorem lw_p7 : lw_okq (⟨"TurnedBoards$Script", "lettersFrom", "(I)I"⟩, 2) := ⟨⟨by decide +kernel, by decide +kernel⟩, List.mem_of_getElem? (i := 105) (by decide +kernel), List.mem_of_getElem? (i := 512) (by decide +kernel), List.mem_of_getElem? (i := 513) (by decide +kernel)⟩
theorem lw_p8 : lw_okq (⟨"TurnedBoards$Script", "isSlash", "(I)Z"⟩, 2) := ⟨⟨by decide +kernel, by decide +kernel⟩, List.mem_of_getElem? (i := 105) (by decide +kernel), List.mem_of_getElem? (i := 524) (by decide +kernel), List.mem_of_getElem? (i := 525) (by decide +kernel)⟩
theorem lw_p9 : lw_okq (⟨"TurnedBoards$Script", "undrawnFault", "(LTurnedBoards$Letters;)I"⟩, 2) := ⟨⟨by decide +kernel, by decide +kernel⟩, List.mem_of_getElem? (i := 105) (by decide +kernel), List.mem_of_getElem? (i := 529) (by decide +kernel), List.mem_of_getElem? (i := 530) (by decide +kernel)⟩
theorem lw_p10 : lw_okq (⟨"TurnedBoardsModel", "begins", "()V"⟩, 13) := ⟨⟨by decide +kernel, by decide +kernel⟩, List.mem_of_getElem? (i := 551) (by decide +kernel), List.mem_of_getElem? (i := 601) (by decide +kernel), List.mem_of_getElem? (i := 602) (by decide +kernel)⟩
theorem lw_p11 : lw_okq (⟨"TurnedBoardsModel", "drawn", "(I)I"⟩, 13) := ⟨⟨by decide +kernel, by decide +kernel⟩, List.mem_of_getElem? (i := 551) (by decide +kernel), List.mem_of_getElem? (i := 608) (by decide +kernel), List.mem_of_getElem? (i := 609) (by decide +kernel)⟩
theorem lw_p12 : lw_okq (⟨"TurnedBoardsModel", "acted", "(I)I"⟩, 13) := ⟨⟨by decide +kernel, by decide +kernel⟩, List.mem_of_getElem? (i := 551) (by decide +kernel), List.mem_of_getElem? (i := 612) (by decide +kernel), List.mem_of_getElem? (i := 613) (by decide +kernel)⟩
theorem lw_p13 : lw_okq (⟨"TurnedBoardsModel", "isPlace", "(I)Z"⟩, 13) := ⟨⟨by decide +kernel, by decide +kernel⟩, List.mem_of_getElem? (i := 551) (by decide +kernel), List.mem_of_getElem? (i := 620) (by decide +kernel), List.mem_of_getElem? (i := 621) (by decide +kernel)⟩
theorem lw_p14 : lw_okq (⟨"TurnedBoardsModel", "signOf", "(I)I"⟩, 13) := ⟨⟨by decide +kernel, by decide +kernel⟩, List.mem_of_getElem? (i := 551) (by decide +kernel), List.mem_of_getElem? (i := 624) (by decide +kernel), List.mem_of_getElem? (i := 625) (by decide +kernel)⟩
theorem lw_p15 : lw_okq (⟨"TurnedBoardsModel", "lays", "(II)V"⟩, 13) := ⟨⟨by decide +kernel, by decide +kernel⟩, List.mem_of_getElem? (i := 551) (by decide +kernel), List.mem_of_getElem? (i := 628) (by decide +kernel), List.mem_of_getElem? (i := 629) (by decide +kernel)⟩
def lw_privs_1 : List (MethodName × Nat) := [(⟨"TurnedBoards$History", "moveOldestToEnd", "()V"⟩, 2), (⟨"TurnedBoards", "findFor", "(I)Z"⟩, 6), (⟨"TurnedBoards$Composer", "settle", "(II)V"⟩, 7), (⟨"TurnedBoards$Composer", "settleAs", "(III)V"⟩, 7), (⟨"TurnedBoards", "marginOrNot", "(II)I"⟩, 6), (⟨"TurnedBoards", "marginOrZero", "(II)I"⟩, 6), (⟨"TurnedBoards$Script", "formFault", "()I"⟩, 2), (⟨"TurnedBoards$Script", "lettersFrom", "(I)I"⟩, 2), (⟨"TurnedBoards$Script", "isSlash", "(I)Z"⟩, 2), (⟨"TurnedBoards$Script", "undrawnFault", "(LTurnedBoards$Letters;)I"⟩, 2), (⟨"TurnedBoardsModel", "begins", "()V"⟩, 13), (⟨"TurnedBoardsModel", "drawn", "(I)I"⟩, 13), (⟨"TurnedBoardsModel", "acted", "(I)I"⟩, 13), (⟨"TurnedBoardsModel", "isPlace", "(I)Z"⟩, 13), (⟨"TurnedBoardsModel", "signOf", "(I)I"⟩, 13), (⟨"TurnedBoardsModel", "lays", "(II)V"⟩, 13)]
theorem lw_r1 : ∀ q ∈ lw_privs_1, lw_okq q := List.forall_mem_cons.mpr ⟨lw_p0, List.forall_mem_cons.mpr ⟨lw_p1, List.forall_mem_cons.mpr ⟨lw_p2, List.forall_mem_cons.mpr ⟨lw_p3, List.forall_mem_cons.mpr ⟨lw_p4, List.forall_mem_cons.mpr ⟨lw_p5, List.forall_mem_cons.mpr ⟨lw_p6, List.forall_mem_cons.mpr ⟨lw_p7, List.forall_mem_cons.mpr ⟨lw_p8, List.forall_mem_cons.mpr ⟨lw_p9, List.forall_mem_cons.mpr ⟨lw_p10, List.forall_mem_cons.mpr ⟨lw_p11, List.forall_mem_cons.mpr ⟨lw_p12, List.forall_mem_cons.mpr ⟨lw_p13, List.forall_mem_cons.mpr ⟨lw_p14, List.forall_mem_cons.mpr ⟨lw_p15, fun _ h => absurd h List.not_mem_nil⟩⟩⟩⟩⟩⟩⟩⟩⟩⟩⟩⟩⟩⟩⟩⟩
theorem lw_p16 : lw_okq (⟨"TurnedBoardsModel", "composesAt", "(I)Z"⟩, 13) := ⟨⟨by decide +kernel, by decide +kernel⟩, List.mem_of_getElem? (i := 551) (by decide +kernel), List.mem_of_getElem? (i := 636) (by decide +kernel), List.mem_of_getElem? (i := 637) (by decide +kernel)⟩
theorem lw_p17 : lw_okq (⟨"TurnedBoardsModel", "wanted", "(II)I"⟩, 13) := ⟨⟨by decide +kernel, by decide +kernel⟩, List.mem_of_getElem? (i := 551) (by decide +kernel), List.mem_of_getElem? (i := 640) (by decide +kernel), List.mem_of_getElem? (i := 641) (by decide +kernel)⟩
theorem lw_p18 : lw_okq (⟨"TurnedBoardsModel", "areDrawn", "(II)Z"⟩, 13) := ⟨⟨by decide +kernel, by decide +kernel⟩, List.mem_of_getElem? (i := 551) (by decide +kernel), List.mem_of_getElem? (i := 644) (by decide +kernel), List.mem_of_getElem? (i := 645) (by decide +kernel)⟩
theorem lw_p19 : lw_okq (⟨"TurnedBoardsModel", "composes", "(II)Z"⟩, 13) := ⟨⟨by decide +kernel, by decide +kernel⟩, List.mem_of_getElem? (i := 551) (by decide +kernel), List.mem_of_getElem? (i := 648) (by decide +kernel), List.mem_of_getElem? (i := 649) (by decide +kernel)⟩
theorem lw_p20 : lw_okq (⟨"TurnedBoardsModel", "tries", "(III)V"⟩, 13) := ⟨⟨by decide +kernel, by decide +kernel⟩, List.mem_of_getElem? (i := 551) (by decide +kernel), List.mem_of_getElem? (i := 655) (by decide +kernel), List.mem_of_getElem? (i := 656) (by decide +kernel)⟩
theorem lw_p21 : lw_okq (⟨"TurnedBoardsModel", "readAs", "(I)I"⟩, 13) := ⟨⟨by decide +kernel, by decide +kernel⟩, List.mem_of_getElem? (i := 551) (by decide +kernel), List.mem_of_getElem? (i := 659) (by decide +kernel), List.mem_of_getElem? (i := 660) (by decide +kernel)⟩
theorem lw_p22 : lw_okq (⟨"TurnedBoardsModel", "margin", "(II)I"⟩, 13) := ⟨⟨by decide +kernel, by decide +kernel⟩, List.mem_of_getElem? (i := 551) (by decide +kernel), List.mem_of_getElem? (i := 666) (by decide +kernel), List.mem_of_getElem? (i := 667) (by decide +kernel)⟩
theorem lw_p23 : lw_okq (⟨"TurnedBoardsModel", "coats", "(I)I"⟩, 13) := ⟨⟨by decide +kernel, by decide +kernel⟩, List.mem_of_getElem? (i := 551) (by decide +kernel), List.mem_of_getElem? (i := 678) (by decide +kernel), List.mem_of_getElem? (i := 679) (by decide +kernel)⟩
theorem lw_p24 : lw_okq (⟨"TurnedBoardsModel", "fades", "(I)Z"⟩, 13) := ⟨⟨by decide +kernel, by decide +kernel⟩, List.mem_of_getElem? (i := 551) (by decide +kernel), List.mem_of_getElem? (i := 694) (by decide +kernel), List.mem_of_getElem? (i := 695) (by decide +kernel)⟩
theorem lw_p25 : lw_okq (⟨"TurnedBoardsModel", "often", "(I)I"⟩, 13) := ⟨⟨by decide +kernel, by decide +kernel⟩, List.mem_of_getElem? (i := 551) (by decide +kernel), List.mem_of_getElem? (i := 706) (by decide +kernel), List.mem_of_getElem? (i := 707) (by decide +kernel)⟩
theorem lw_p26 : lw_okq (⟨"TurnedBoardsModel", "nearest", "(I)I"⟩, 13) := ⟨⟨by decide +kernel, by decide +kernel⟩, List.mem_of_getElem? (i := 551) (by decide +kernel), List.mem_of_getElem? (i := 710) (by decide +kernel), List.mem_of_getElem? (i := 711) (by decide +kernel)⟩
theorem lw_p27 : lw_okq (⟨"TurnedBoardsModel", "readAt", "(II)I"⟩, 13) := ⟨⟨by decide +kernel, by decide +kernel⟩, List.mem_of_getElem? (i := 551) (by decide +kernel), List.mem_of_getElem? (i := 721) (by decide +kernel), List.mem_of_getElem? (i := 722) (by decide +kernel)⟩
theorem lw_p28 : lw_okq (⟨"TurnedBoardsModel", "signBy", "(II)I"⟩, 13) := ⟨⟨by decide +kernel, by decide +kernel⟩, List.mem_of_getElem? (i := 551) (by decide +kernel), List.mem_of_getElem? (i := 725) (by decide +kernel), List.mem_of_getElem? (i := 726) (by decide +kernel)⟩
theorem lw_p29 : lw_okq (⟨"TurnedBoardsModel", "wrong", "(I)I"⟩, 13) := ⟨⟨by decide +kernel, by decide +kernel⟩, List.mem_of_getElem? (i := 551) (by decide +kernel), List.mem_of_getElem? (i := 737) (by decide +kernel), List.mem_of_getElem? (i := 738) (by decide +kernel)⟩
theorem lw_p30 : lw_okq (⟨"TurnedBoardsModel", "drawnSet", "()I"⟩, 13) := ⟨⟨by decide +kernel, by decide +kernel⟩, List.mem_of_getElem? (i := 551) (by decide +kernel), List.mem_of_getElem? (i := 745) (by decide +kernel), List.mem_of_getElem? (i := 746) (by decide +kernel)⟩
theorem lw_p31 : lw_okq (⟨"TurnedBoardsModel", "paintedOr", "(Z)I"⟩, 13) := ⟨⟨by decide +kernel, by decide +kernel⟩, List.mem_of_getElem? (i := 551) (by decide +kernel), List.mem_of_getElem? (i := 749) (by decide +kernel), List.mem_of_getElem? (i := 750) (by decide +kernel)⟩
def lw_privs_2 : List (MethodName × Nat) := [(⟨"TurnedBoardsModel", "composesAt", "(I)Z"⟩, 13), (⟨"TurnedBoardsModel", "wanted", "(II)I"⟩, 13), (⟨"TurnedBoardsModel", "areDrawn", "(II)Z"⟩, 13), (⟨"TurnedBoardsModel", "composes", "(II)Z"⟩, 13), (⟨"TurnedBoardsModel", "tries", "(III)V"⟩, 13), (⟨"TurnedBoardsModel", "readAs", "(I)I"⟩, 13), (⟨"TurnedBoardsModel", "margin", "(II)I"⟩, 13), (⟨"TurnedBoardsModel", "coats", "(I)I"⟩, 13), (⟨"TurnedBoardsModel", "fades", "(I)Z"⟩, 13), (⟨"TurnedBoardsModel", "often", "(I)I"⟩, 13), (⟨"TurnedBoardsModel", "nearest", "(I)I"⟩, 13), (⟨"TurnedBoardsModel", "readAt", "(II)I"⟩, 13), (⟨"TurnedBoardsModel", "signBy", "(II)I"⟩, 13), (⟨"TurnedBoardsModel", "wrong", "(I)I"⟩, 13), (⟨"TurnedBoardsModel", "drawnSet", "()I"⟩, 13), (⟨"TurnedBoardsModel", "paintedOr", "(Z)I"⟩, 13)]
theorem lw_r2 : ∀ q ∈ lw_privs_2, lw_okq q := List.forall_mem_cons.mpr ⟨lw_p16, List.forall_mem_cons.mpr ⟨lw_p17, List.forall_mem_cons.mpr ⟨lw_p18, List.forall_mem_cons.mpr ⟨lw_p19, List.forall_mem_cons.mpr ⟨lw_p20, List.forall_mem_cons.mpr ⟨lw_p21, List.forall_mem_cons.mpr ⟨lw_p22, List.forall_mem_cons.mpr ⟨lw_p23, List.forall_mem_cons.mpr ⟨lw_p24, List.forall_mem_cons.mpr ⟨lw_p25, List.forall_mem_cons.mpr ⟨lw_p26, List.forall_mem_cons.mpr ⟨lw_p27, List.forall_mem_cons.mpr ⟨lw_p28, List.forall_mem_cons.mpr ⟨lw_p29, List.forall_mem_cons.mpr ⟨lw_p30, List.forall_mem_cons.mpr ⟨lw_p31, fun _ h => absurd h List.not_mem_nil⟩⟩⟩⟩⟩⟩⟩⟩⟩⟩⟩⟩⟩⟩⟩⟩
theorem lw_p32 : lw_okq (⟨"TurnedBoardsModel", "areWords", "()Z"⟩, 13) := ⟨⟨by decide +kernel, by decide +kernel⟩, List.mem_of_getElem? (i := 551) (by decide +kernel), List.mem_of_getElem? (i := 803) (by decide +kernel), List.mem_of_getElem? (i := 804) (by decide +kernel)⟩
theorem lw_p33 : lw_okq (⟨"TurnedBoardsModel", "isForm", "()Z"⟩, 13) := ⟨⟨by decide +kernel, by decide +kernel⟩, List.mem_of_getElem? (i := 551) (by decide +kernel), List.mem_of_getElem? (i := 807) (by decide +kernel), List.mem_of_getElem? (i := 808) (by decide +kernel)⟩
theorem lw_p34 : lw_okq (⟨"TurnedBoardsModel", "isLetter", "(I)Z"⟩, 13) := ⟨⟨by decide +kernel, by decide +kernel⟩, List.mem_of_getElem? (i := 551) (by decide +kernel), List.mem_of_getElem? (i := 811) (by decide +kernel), List.mem_of_getElem? (i := 812) (by decide +kernel)⟩
theorem lw_p35 : lw_okq (⟨"TurnedBoardsModel", "breaks", "(II)Z"⟩, 13) := ⟨⟨by decide +kernel, by decide +kernel⟩, List.mem_of_getElem? (i := 551) (by decide +kernel), List.mem_of_getElem? (i := 815) (by decide +kernel), List.mem_of_getElem? (i := 816) (by decide +kernel)⟩
def lw_privs_3 : List (MethodName × Nat) := [(⟨"TurnedBoardsModel", "areWords", "()Z"⟩, 13), (⟨"TurnedBoardsModel", "isForm", "()Z"⟩, 13), (⟨"TurnedBoardsModel", "isLetter", "(I)Z"⟩, 13), (⟨"TurnedBoardsModel", "breaks", "(II)Z"⟩, 13)]
theorem lw_r3 : ∀ q ∈ lw_privs_3, lw_okq q := List.forall_mem_cons.mpr ⟨lw_p32, List.forall_mem_cons.mpr ⟨lw_p33, List.forall_mem_cons.mpr ⟨lw_p34, List.forall_mem_cons.mpr ⟨lw_p35, fun _ h => absurd h List.not_mem_nil⟩⟩⟩⟩
def lw_privs : List (MethodName × Nat) := lw_privs_1 ++ (lw_privs_2 ++ (lw_privs_3))
def lw_tbl : List Cond := k2_sels lw_privs ++ tables_1
theorem lw_privs_ok : ∀ q ∈ lw_privs, lw_okq q := by
  show ∀ q ∈ lw_privs_1 ++ (lw_privs_2 ++ (lw_privs_3)), lw_okq q
  exact List.forall_mem_append.mpr ⟨lw_r1, List.forall_mem_append.mpr ⟨lw_r2, lw_r3⟩⟩
/-- the streams that the claim lets the run draw from -/
abbrev lw_cs : List Choice := [Jvm.Choice.named "NaN.bits"]
theorem lw_bits : nanBits ∈ lw_cs := by first | decide | exact List.mem_cons_self | simp [lw_cs, nanBits]
-- ===== end of PART A; then your names; then what follows =====
end
section
/-! ===== BEGIN words of one list among another's, by their places ===== -/
theorem goodIn_r {big : List Cond} (ws : List Cond) (ps : List Nat) (hp : ws = ps.filterMap (fun i => big[i]?)) (h : ws.all goodWord = true) : GoodIn big ws := by
  intro w hw
  have h1 := List.all_eq_true.mp h w hw
  rw [hp] at hw
  obtain ⟨i, -, hi⟩ := List.mem_filterMap.mp hw
  have hm : w ∈ big := by first | exact List.mem_of_getElem? hi | exact List.getElem?_mem hi
  exact ⟨hm, good_of_word h1⟩
theorem goodIn_app {big a b : List Cond} (ha : GoodIn big a) (hb : GoodIn big b) : GoodIn big (a ++ b) := fun w h => (List.mem_append.mp h).elim (ha w) (hb w)
theorem goodIn_ca {big a b : List Cond} {c : Cond} (ha : GoodIn big (c :: a)) (hb : GoodIn big b) : GoodIn big (c :: (a ++ b)) := fun w h => (List.mem_cons.mp h).elim (fun e => ha w (List.mem_cons.mpr (Or.inl e))) (fun h => (List.mem_append.mp h).elim (fun h => ha w (List.mem_cons.mpr (Or.inr h))) (hb w))
theorem goodIn_sub {big ws : List Cond} (hm : ∀ w ∈ ws, w ∈ big) (h : ws.all goodWord = true) : GoodIn big ws := fun w hw => ⟨hm w hw, good_of_word (List.all_eq_true.mp h w hw)⟩
/-! ===== END ===== -/

/-! ===== BEGIN printed: names, fields, word lists, decode rows ===== -/
def RX0 : String := "TurnedBoards$Board"
def TX0 : u_T := fun k => match k with
  | 0 => ("TurnedBoards$Board", "letters", "LTurnedBoards$Letters;", true)
  | 1 => ("TurnedBoards$Board", "signs", "[I", true)
  | 2 => ("TurnedBoards$Board", "coats", "[I", true)
  | 3 => ("TurnedBoards$Board", "uprightWord", "[I", true)
  | 4 => ("TurnedBoards$Board", "turnedWord", "[I", true)
  | 5 => ("TurnedBoards$Board", "settings", "[I", true)
  | 6 => ("TurnedBoards$Board", "places", "I", false)
  | 7 => ("TurnedBoards$Board", "turned", "Z", false)
  | 8 => ("TurnedBoards$Board", "stiffness", "I", false)
  | 9 => ("TurnedBoards$Board", "day", "I", false)
  | _ => ("TurnedBoards$Board", "turns", "I", false)
def tyX0 : Nat → FieldType := fun k => match k with
  | 0 => .object "TurnedBoards$Letters"
  | 1 => .array .int
  | 2 => .array .int
  | 3 => .array .int
  | 4 => .array .int
  | 5 => .array .int
  | 6 => .int
  | 7 => .boolean
  | 8 => .int
  | 9 => .int
  | _ => .int
abbrev wsX00 : List Cond := u_ws RX0 TX0 11
theorem nmX0 : ∀ a, a < 11 → ∀ b, b < 11 → a ≠ b → (TX0 a).2.1 ≠ (TX0 b).2.1 := by decide +kernel
theorem tyX0_ok : ∀ k, k < 11 → parseFieldDescriptor (TX0 k).2.2.1 = some (tyX0 k) := by decide +kernel
abbrev cX0_init : ByteArray := prog_2_method_1_code
def yX0_init : MethodName := ⟨RX0, "<init>", "()V"⟩
abbrev cX0_copyFrom : ByteArray := prog_2_method_2_code
def yX0_copyFrom : MethodName := ⟨RX0, "copyFrom", "(LTurnedBoards$Board;)V"⟩
abbrev cX0_renew : ByteArray := prog_2_method_3_code
def yX0_renew : MethodName := ⟨RX0, "renew", "(I)V"⟩
abbrev cX0_hasPlace : ByteArray := prog_2_method_4_code
def yX0_hasPlace : MethodName := ⟨RX0, "hasPlace", "(I)Z"⟩
abbrev cX0_signAt : ByteArray := prog_2_method_5_code
def yX0_signAt : MethodName := ⟨RX0, "signAt", "(I)I"⟩
abbrev cX0_coatsAt : ByteArray := prog_2_method_6_code
def yX0_coatsAt : MethodName := ⟨RX0, "coatsAt", "(I)I"⟩
abbrev cX0_setting : ByteArray := prog_2_method_7_code
def yX0_setting : MethodName := ⟨RX0, "setting", "(I)I"⟩
abbrev cX0_coat : ByteArray := prog_2_method_8_code
def yX0_coat : MethodName := ⟨RX0, "coat", "(II)V"⟩
abbrev cX0_hang : ByteArray := prog_2_method_9_code
def yX0_hang : MethodName := ⟨RX0, "hang", "(II)V"⟩
abbrev cX0_way : ByteArray := prog_2_method_10_code
def yX0_way : MethodName := ⟨RX0, "way", "()I"⟩
abbrev cX0_turnRound : ByteArray := prog_2_method_11_code
def yX0_turnRound : MethodName := ⟨RX0, "turnRound", "()V"⟩
abbrev cX0_fromLeft : ByteArray := prog_2_method_12_code
def yX0_fromLeft : MethodName := ⟨RX0, "fromLeft", "(II)I"⟩
abbrev cX0_letterIn : ByteArray := prog_2_method_13_code
def yX0_letterIn : MethodName := ⟨RX0, "letterIn", "(II)I"⟩
abbrev cX0_wantedAt : ByteArray := prog_2_method_14_code
def yX0_wantedAt : MethodName := ⟨RX0, "wantedAt", "(II)I"⟩
abbrev cX0_readAt : ByteArray := prog_2_method_15_code
def yX0_readAt : MethodName := ⟨RX0, "readAt", "(II)I"⟩
abbrev cX0_marginAt : ByteArray := prog_2_method_16_code
def yX0_marginAt : MethodName := ⟨RX0, "marginAt", "(II)I"⟩
abbrev cX0_misread : ByteArray := prog_2_method_17_code
def yX0_misread : MethodName := ⟨RX0, "misread", "(I)I"⟩
abbrev cX0_timesWanted : ByteArray := prog_2_method_18_code
def yX0_timesWanted : MethodName := ⟨RX0, "timesWanted", "(I)I"⟩
abbrev cX0_allCoats : ByteArray := prog_2_method_19_code
def yX0_allCoats : MethodName := ⟨RX0, "allCoats", "()I"⟩
abbrev cX0_placesWithCoats : ByteArray := prog_2_method_20_code
def yX0_placesWithCoats : MethodName := ⟨RX0, "placesWithCoats", "()I"⟩
abbrev cX0_fades : ByteArray := prog_2_method_21_code
def yX0_fades : MethodName := ⟨RX0, "fades", "(I)Z"⟩
abbrev cX0_fadeOneDay : ByteArray := prog_2_method_22_code
def yX0_fadeOneDay : MethodName := ⟨RX0, "fadeOneDay", "()I"⟩
def RX1 : String := "TurnedBoards$Composer"
def TX1 : u_T := fun k => match k with
  | 0 => ("TurnedBoards$Composer", "letters", "LTurnedBoards$Letters;", false)
  | 1 => ("TurnedBoards$Composer", "one", "I", false)
  | 2 => ("TurnedBoards$Composer", "other", "I", false)
  | 3 => ("TurnedBoards$Composer", "oneUpright", "I", false)
  | 4 => ("TurnedBoards$Composer", "otherTurned", "I", false)
  | 5 => ("TurnedBoards$Composer", "best", "I", false)
  | _ => ("TurnedBoards$Composer", "bestLesser", "I", false)
def tyX1 : Nat → FieldType := fun k => match k with
  | 0 => .object "TurnedBoards$Letters"
  | 1 => .int
  | 2 => .int
  | 3 => .int
  | 4 => .int
  | 5 => .int
  | _ => .int
abbrev wsX10 : List Cond := u_ws RX1 TX1 7
theorem nmX1 : ∀ a, a < 7 → ∀ b, b < 7 → a ≠ b → (TX1 a).2.1 ≠ (TX1 b).2.1 := by decide +kernel
theorem tyX1_ok : ∀ k, k < 7 → parseFieldDescriptor (TX1 k).2.2.1 = some (tyX1 k) := by decide +kernel
abbrev cX1_init : ByteArray := prog_3_method_1_code
def yX1_init : MethodName := ⟨RX1, "<init>", "()V"⟩
abbrev cX1_find : ByteArray := prog_3_method_2_code
def yX1_find : MethodName := ⟨RX1, "find", "(LTurnedBoards$Letters;II)Z"⟩
abbrev cX1_settle : ByteArray := prog_3_method_3_code
def yX1_settle : MethodName := ⟨RX1, "settle", "(II)V"⟩
abbrev cX1_settleAs : ByteArray := prog_3_method_4_code
def yX1_settleAs : MethodName := ⟨RX1, "settleAs", "(III)V"⟩
def RX2 : String := "TurnedBoards$History"
def TX2 : u_T := fun k => match k with
  | 0 => ("TurnedBoards$History", "states", "[LTurnedBoards$Board;", true)
  | _ => ("TurnedBoards$History", "size", "I", false)
def tyX2 : Nat → FieldType := fun k => match k with
  | 0 => .array (.object "TurnedBoards$Board")
  | _ => .int
abbrev wsX20 : List Cond := u_ws RX2 TX2 2
theorem nmX2 : ∀ a, a < 2 → ∀ b, b < 2 → a ≠ b → (TX2 a).2.1 ≠ (TX2 b).2.1 := by decide +kernel
theorem tyX2_ok : ∀ k, k < 2 → parseFieldDescriptor (TX2 k).2.2.1 = some (tyX2 k) := by decide +kernel
abbrev cX2_init : ByteArray := prog_4_method_1_code
def yX2_init : MethodName := ⟨RX2, "<init>", "()V"⟩
abbrev cX2_push : ByteArray := prog_4_method_2_code
def yX2_push : MethodName := ⟨RX2, "push", "(LTurnedBoards$Board;)V"⟩
abbrev cX2_moveOldestToEnd : ByteArray := prog_4_method_3_code
def yX2_moveOldestToEnd : MethodName := ⟨RX2, "moveOldestToEnd", "()V"⟩
abbrev cX2_popInto : ByteArray := prog_4_method_4_code
def yX2_popInto : MethodName := ⟨RX2, "popInto", "(LTurnedBoards$Board;)V"⟩
def RX3 : String := "TurnedBoards$Letters"
def TX3 : u_T := fun k => match k with
  | _ => ("TurnedBoards$Letters", "drawn", "[I", true)
def tyX3 : Nat → FieldType := fun k => match k with
  | _ => .array .int
abbrev wsX30 : List Cond := u_ws RX3 TX3 1
theorem nmX3 : ∀ a, a < 1 → ∀ b, b < 1 → a ≠ b → (TX3 a).2.1 ≠ (TX3 b).2.1 := by decide +kernel
theorem tyX3_ok : ∀ k, k < 1 → parseFieldDescriptor (TX3 k).2.2.1 = some (tyX3 k) := by decide +kernel
abbrev cX3_init : ByteArray := prog_5_method_1_code
def yX3_init : MethodName := ⟨RX3, "<init>", "()V"⟩
abbrev cX3_signFor : ByteArray := prog_5_method_2_code
def yX3_signFor : MethodName := ⟨RX3, "signFor", "(I)I"⟩
abbrev cX3_has : ByteArray := prog_5_method_3_code
def yX3_has : MethodName := ⟨RX3, "has", "(I)Z"⟩
abbrev cX3_draw : ByteArray := prog_5_method_4_code
def yX3_draw : MethodName := ⟨RX3, "draw", "(II)V"⟩
abbrev cX3_drawnAs : ByteArray := prog_5_method_5_code
def yX3_drawnAs : MethodName := ⟨RX3, "drawnAs", "(I)I"⟩
abbrev cX3_asSet : ByteArray := prog_5_method_6_code
def yX3_asSet : MethodName := ⟨RX3, "asSet", "()I"⟩
abbrev cX3_nearest : ByteArray := prog_5_method_7_code
def yX3_nearest : MethodName := ⟨RX3, "nearest", "(II)I"⟩
abbrev cX3_marginOf : ByteArray := prog_5_method_8_code
def yX3_marginOf : MethodName := ⟨RX3, "marginOf", "(II)I"⟩
abbrev cX3_leadOf : ByteArray := prog_5_method_9_code
def yX3_leadOf : MethodName := ⟨RX3, "leadOf", "(II)I"⟩
abbrev cX3_copyFrom : ByteArray := prog_5_method_10_code
def yX3_copyFrom : MethodName := ⟨RX3, "copyFrom", "(LTurnedBoards$Letters;)V"⟩
def RX4 : String := "TurnedBoards$Rows"
def TX4 : u_T := fun k => match k with
  | _ => ("", "", "", false)
def tyX4 : Nat → FieldType := fun k => match k with
  | _ => .int
abbrev wsX40 : List Cond := u_ws RX4 TX4 0
theorem nmX4 : ∀ a, a < 0 → ∀ b, b < 0 → a ≠ b → (TX4 a).2.1 ≠ (TX4 b).2.1 := by decide +kernel
theorem tyX4_ok : ∀ k, k < 0 → parseFieldDescriptor (TX4 k).2.2.1 = some (tyX4 k) := by decide +kernel
abbrev cX4_at : ByteArray := prog_6_method_2_code
def yX4_at : MethodName := ⟨RX4, "at", "([II)I"⟩
abbrev cX4_put : ByteArray := prog_6_method_3_code
def yX4_put : MethodName := ⟨RX4, "put", "([III)V"⟩
abbrev cX4_fill : ByteArray := prog_6_method_4_code
def yX4_fill : MethodName := ⟨RX4, "fill", "([II)V"⟩
abbrev cX4_copy : ByteArray := prog_6_method_5_code
def yX4_copy : MethodName := ⟨RX4, "copy", "([I[I)V"⟩
def RX5 : String := "TurnedBoards$Script"
def TX5 : u_T := fun k => match k with
  | 0 => ("TurnedBoards$Script", "characters", "[I", true)
  | _ => ("TurnedBoards$Script", "length", "I", false)
def tyX5 : Nat → FieldType := fun k => match k with
  | 0 => .array .int
  | _ => .int
abbrev wsX50 : List Cond := u_ws RX5 TX5 2
theorem nmX5 : ∀ a, a < 2 → ∀ b, b < 2 → a ≠ b → (TX5 a).2.1 ≠ (TX5 b).2.1 := by decide +kernel
theorem tyX5_ok : ∀ k, k < 2 → parseFieldDescriptor (TX5 k).2.2.1 = some (tyX5 k) := by decide +kernel
abbrev cX5_init : ByteArray := prog_7_method_1_code
def yX5_init : MethodName := ⟨RX5, "<init>", "()V"⟩
abbrev cX5_placeIn : ByteArray := prog_7_method_2_code
def yX5_placeIn : MethodName := ⟨RX5, "placeIn", "(I)I"⟩
abbrev cX5_reasonIn : ByteArray := prog_7_method_3_code
def yX5_reasonIn : MethodName := ⟨RX5, "reasonIn", "(I)I"⟩
abbrev cX5_codeOf : ByteArray := prog_7_method_4_code
def yX5_codeOf : MethodName := ⟨RX5, "codeOf", "(II)I"⟩
abbrev cX5_append : ByteArray := prog_7_method_5_code
def yX5_append : MethodName := ⟨RX5, "append", "(C)V"⟩
abbrev cX5_letterAt : ByteArray := prog_7_method_6_code
def yX5_letterAt : MethodName := ⟨RX5, "letterAt", "(I)I"⟩
abbrev cX5_isSlash : ByteArray := prog_7_method_7_code
def yX5_isSlash : MethodName := ⟨RX5, "isSlash", "(I)Z"⟩
abbrev cX5_lettersFrom : ByteArray := prog_7_method_8_code
def yX5_lettersFrom : MethodName := ⟨RX5, "lettersFrom", "(I)I"⟩
abbrev cX5_firstLength : ByteArray := prog_7_method_9_code
def yX5_firstLength : MethodName := ⟨RX5, "firstLength", "()I"⟩
abbrev cX5_faultCode : ByteArray := prog_7_method_10_code
def yX5_faultCode : MethodName := ⟨RX5, "faultCode", "(LTurnedBoards$Letters;)I"⟩
abbrev cX5_formFault : ByteArray := prog_7_method_11_code
def yX5_formFault : MethodName := ⟨RX5, "formFault", "()I"⟩
abbrev cX5_undrawnFault : ByteArray := prog_7_method_12_code
def yX5_undrawnFault : MethodName := ⟨RX5, "undrawnFault", "(LTurnedBoards$Letters;)I"⟩
def RX6 : String := "TurnedBoards$Signs"
def TX6 : u_T := fun k => match k with
  | _ => ("", "", "", false)
def tyX6 : Nat → FieldType := fun k => match k with
  | _ => .int
abbrev wsX60 : List Cond := u_ws RX6 TX6 0
theorem nmX6 : ∀ a, a < 0 → ∀ b, b < 0 → a ≠ b → (TX6 a).2.1 ≠ (TX6 b).2.1 := by decide +kernel
theorem tyX6_ok : ∀ k, k < 0 → parseFieldDescriptor (TX6 k).2.2.1 = some (tyX6 k) := by decide +kernel
abbrev cX6_turn : ByteArray := prog_8_method_2_code
def yX6_turn : MethodName := ⟨RX6, "turn", "(I)I"⟩
abbrev cX6_seen : ByteArray := prog_8_method_3_code
def yX6_seen : MethodName := ⟨RX6, "seen", "(II)I"⟩
abbrev cX6_darkInUpperRows : ByteArray := prog_8_method_4_code
def yX6_darkInUpperRows : MethodName := ⟨RX6, "darkInUpperRows", "(II)I"⟩
def RX7 : String := "TurnedBoards"
def TX7 : u_T := fun k => match k with
  | 0 => ("TurnedBoards", "now", "LTurnedBoards$Board;", true)
  | 1 => ("TurnedBoards", "snapshot", "LTurnedBoards$Board;", true)
  | 2 => ("TurnedBoards", "history", "LTurnedBoards$History;", true)
  | 3 => ("TurnedBoards", "text", "LTurnedBoards$Script;", true)
  | 4 => ("TurnedBoards", "composer", "LTurnedBoards$Composer;", true)
  | _ => ("TurnedBoards", "hasSnapshot", "Z", false)
def tyX7 : Nat → FieldType := fun k => match k with
  | 0 => .object "TurnedBoards$Board"
  | 1 => .object "TurnedBoards$Board"
  | 2 => .object "TurnedBoards$History"
  | 3 => .object "TurnedBoards$Script"
  | 4 => .object "TurnedBoards$Composer"
  | _ => .boolean
abbrev wsX70 : List Cond := u_ws RX7 TX7 6
theorem nmX7 : ∀ a, a < 6 → ∀ b, b < 6 → a ≠ b → (TX7 a).2.1 ≠ (TX7 b).2.1 := by decide +kernel
theorem tyX7_ok : ∀ k, k < 6 → parseFieldDescriptor (TX7 k).2.2.1 = some (tyX7 k) := by decide +kernel
abbrev cX7_init : ByteArray := prog_1_method_1_code
def yX7_init : MethodName := ⟨RX7, "<init>", "()V"⟩
abbrev cX7_letter : ByteArray := prog_1_method_2_code
def yX7_letter : MethodName := ⟨RX7, "letter", "(II)I"⟩
abbrev cX7_sign : ByteArray := prog_1_method_3_code
def yX7_sign : MethodName := ⟨RX7, "sign", "(II)I"⟩
abbrev cX7_compose : ByteArray := prog_1_method_4_code
def yX7_compose : MethodName := ⟨RX7, "compose", "(I)I"⟩
abbrev cX7_composeAll : ByteArray := prog_1_method_5_code
def yX7_composeAll : MethodName := ⟨RX7, "composeAll", "()I"⟩
abbrev cX7_paint : ByteArray := prog_1_method_6_code
def yX7_paint : MethodName := ⟨RX7, "paint", "(I)I"⟩
abbrev cX7_gust : ByteArray := prog_1_method_7_code
def yX7_gust : MethodName := ⟨RX7, "gust", "(I)I"⟩
abbrev cX7_oil : ByteArray := prog_1_method_8_code
def yX7_oil : MethodName := ⟨RX7, "oil", "(I)I"⟩
abbrev cX7_pass : ByteArray := prog_1_method_9_code
def yX7_pass : MethodName := ⟨RX7, "pass", "(I)I"⟩
abbrev cX7_set : ByteArray := prog_1_method_10_code
def yX7_set : MethodName := ⟨RX7, "set", "(II)I"⟩
abbrev cX7_letterOf : ByteArray := prog_1_method_11_code
def yX7_letterOf : MethodName := ⟨RX7, "letterOf", "(II)I"⟩
abbrev cX7_placeOf : ByteArray := prog_1_method_12_code
def yX7_placeOf : MethodName := ⟨RX7, "placeOf", "(II)I"⟩
abbrev cX7_reads : ByteArray := prog_1_method_13_code
def yX7_reads : MethodName := ⟨RX7, "reads", "(II)I"⟩
abbrev cX7_word : ByteArray := prog_1_method_14_code
def yX7_word : MethodName := ⟨RX7, "word", "(II)I"⟩
abbrev cX7_count : ByteArray := prog_1_method_15_code
def yX7_count : MethodName := ⟨RX7, "count", "(I)I"⟩
abbrev cX7_composed : ByteArray := prog_1_method_16_code
def yX7_composed : MethodName := ⟨RX7, "composed", "(III)I"⟩
abbrev cX7_goesWith : ByteArray := prog_1_method_17_code
def yX7_goesWith : MethodName := ⟨RX7, "goesWith", "(I)I"⟩
abbrev cX7_quality : ByteArray := prog_1_method_18_code
def yX7_quality : MethodName := ⟨RX7, "quality", "()I"⟩
abbrev cX7_bareIn : ByteArray := prog_1_method_19_code
def yX7_bareIn : MethodName := ⟨RX7, "bareIn", "()I"⟩
abbrev cX7_keep : ByteArray := prog_1_method_20_code
def yX7_keep : MethodName := ⟨RX7, "keep", "()I"⟩
abbrev cX7_restore : ByteArray := prog_1_method_21_code
def yX7_restore : MethodName := ⟨RX7, "restore", "()I"⟩
abbrev cX7_undo : ByteArray := prog_1_method_22_code
def yX7_undo : MethodName := ⟨RX7, "undo", "()I"⟩
abbrev cX7_type : ByteArray := prog_1_method_23_code
def yX7_type : MethodName := ⟨RX7, "type", "(I)I"⟩
abbrev cX7_clearText : ByteArray := prog_1_method_24_code
def yX7_clearText : MethodName := ⟨RX7, "clearText", "()I"⟩
abbrev cX7_fault : ByteArray := prog_1_method_25_code
def yX7_fault : MethodName := ⟨RX7, "fault", "(I)I"⟩
abbrev cX7_read : ByteArray := prog_1_method_26_code
def yX7_read : MethodName := ⟨RX7, "read", "()I"⟩
abbrev cX7_findFor : ByteArray := prog_1_method_27_code
def yX7_findFor : MethodName := ⟨RX7, "findFor", "(I)Z"⟩
abbrev cX7_marginOrNot : ByteArray := prog_1_method_28_code
def yX7_marginOrNot : MethodName := ⟨RX7, "marginOrNot", "(II)I"⟩
abbrev cX7_marginOrZero : ByteArray := prog_1_method_29_code
def yX7_marginOrZero : MethodName := ⟨RX7, "marginOrZero", "(II)I"⟩
abbrev cX7_isLetter : ByteArray := prog_1_method_30_code
def yX7_isLetter : MethodName := ⟨RX7, "isLetter", "(I)Z"⟩
abbrev cX7_isSign : ByteArray := prog_1_method_31_code
def yX7_isSign : MethodName := ⟨RX7, "isSign", "(I)Z"⟩
abbrev cX7_isForce : ByteArray := prog_1_method_32_code
def yX7_isForce : MethodName := ⟨RX7, "isForce", "(I)Z"⟩
abbrev cX7_isOneOfTwo : ByteArray := prog_1_method_33_code
def yX7_isOneOfTwo : MethodName := ⟨RX7, "isOneOfTwo", "(I)Z"⟩
abbrev cX7_otherWay : ByteArray := prog_1_method_34_code
def yX7_otherWay : MethodName := ⟨RX7, "otherWay", "(I)I"⟩
abbrev cX7_asNumber : ByteArray := prog_1_method_35_code
def yX7_asNumber : MethodName := ⟨RX7, "asNumber", "(Z)I"⟩
abbrev cX7_foundOrNot : ByteArray := prog_1_method_36_code
def yX7_foundOrNot : MethodName := ⟨RX7, "foundOrNot", "(I)I"⟩
abbrev cX7_bitsOf : ByteArray := prog_1_method_37_code
def yX7_bitsOf : MethodName := ⟨RX7, "bitsOf", "(F)I"⟩
def RX8 : String := "TurnedBoardsModel"
def TX8 : u_T := fun k => match k with
  | 0 => ("TurnedBoardsModel", "s", "[I", true)
  | 1 => ("TurnedBoardsModel", "begun", "[I", true)
  | 2 => ("TurnedBoardsModel", "kept", "[I", true)
  | 3 => ("TurnedBoardsModel", "isKept", "Z", false)
  | 4 => ("TurnedBoardsModel", "past", "[I", true)
  | 5 => ("TurnedBoardsModel", "states", "I", false)
  | 6 => ("TurnedBoardsModel", "text", "[I", true)
  | 7 => ("TurnedBoardsModel", "length", "I", false)
  | 8 => ("TurnedBoardsModel", "composedSign", "I", false)
  | 9 => ("TurnedBoardsModel", "composedMargin", "I", false)
  | 10 => ("TurnedBoardsModel", "at", "I", false)
  | 11 => ("TurnedBoardsModel", "why", "I", false)
  | _ => ("TurnedBoardsModel", "wide", "I", false)
def tyX8 : Nat → FieldType := fun k => match k with
  | 0 => .array .int
  | 1 => .array .int
  | 2 => .array .int
  | 3 => .boolean
  | 4 => .array .int
  | 5 => .int
  | 6 => .array .int
  | 7 => .int
  | 8 => .int
  | 9 => .int
  | 10 => .int
  | 11 => .int
  | _ => .int
abbrev wsX80 : List Cond := u_ws RX8 TX8 13
theorem nmX8 : ∀ a, a < 13 → ∀ b, b < 13 → a ≠ b → (TX8 a).2.1 ≠ (TX8 b).2.1 := by decide +kernel
theorem tyX8_ok : ∀ k, k < 13 → parseFieldDescriptor (TX8 k).2.2.1 = some (tyX8 k) := by decide +kernel
abbrev cX8_init : ByteArray := prog_10_method_1_code
def yX8_init : MethodName := ⟨RX8, "<init>", "()V"⟩
abbrev cX8_in : ByteArray := prog_10_method_3_code
def yX8_in : MethodName := ⟨RX8, "in", "(III)Z"⟩
abbrev cX8_begins : ByteArray := prog_10_method_4_code
def yX8_begins : MethodName := ⟨RX8, "begins", "()V"⟩
abbrev cX8_acted : ByteArray := prog_10_method_5_code
def yX8_acted : MethodName := ⟨RX8, "acted", "(I)I"⟩
abbrev cX8_dark : ByteArray := prog_10_method_6_code
def yX8_dark : MethodName := ⟨RX8, "dark", "(I)I"⟩
abbrev cX8_turned : ByteArray := prog_10_method_7_code
def yX8_turned : MethodName := ⟨RX8, "turned", "(I)I"⟩
abbrev cX8_drawn : ByteArray := prog_10_method_8_code
def yX8_drawn : MethodName := ⟨RX8, "drawn", "(I)I"⟩
abbrev cX8_readAs : ByteArray := prog_10_method_9_code
def yX8_readAs : MethodName := ⟨RX8, "readAs", "(I)I"⟩
abbrev cX8_margin : ByteArray := prog_10_method_10_code
def yX8_margin : MethodName := ⟨RX8, "margin", "(II)I"⟩
abbrev cX8_composes : ByteArray := prog_10_method_11_code
def yX8_composes : MethodName := ⟨RX8, "composes", "(II)Z"⟩
abbrev cX8_tries : ByteArray := prog_10_method_12_code
def yX8_tries : MethodName := ⟨RX8, "tries", "(III)V"⟩
abbrev cX8_areDrawn : ByteArray := prog_10_method_13_code
def yX8_areDrawn : MethodName := ⟨RX8, "areDrawn", "(II)Z"⟩
abbrev cX8_isPlace : ByteArray := prog_10_method_14_code
def yX8_isPlace : MethodName := ⟨RX8, "isPlace", "(I)Z"⟩
abbrev cX8_signOf : ByteArray := prog_10_method_15_code
def yX8_signOf : MethodName := ⟨RX8, "signOf", "(I)I"⟩
abbrev cX8_coats : ByteArray := prog_10_method_16_code
def yX8_coats : MethodName := ⟨RX8, "coats", "(I)I"⟩
abbrev cX8_lays : ByteArray := prog_10_method_17_code
def yX8_lays : MethodName := ⟨RX8, "lays", "(II)V"⟩
abbrev cX8_wanted : ByteArray := prog_10_method_18_code
def yX8_wanted : MethodName := ⟨RX8, "wanted", "(II)I"⟩
abbrev cX8_signBy : ByteArray := prog_10_method_19_code
def yX8_signBy : MethodName := ⟨RX8, "signBy", "(II)I"⟩
abbrev cX8_readAt : ByteArray := prog_10_method_20_code
def yX8_readAt : MethodName := ⟨RX8, "readAt", "(II)I"⟩
abbrev cX8_fades : ByteArray := prog_10_method_21_code
def yX8_fades : MethodName := ⟨RX8, "fades", "(I)Z"⟩
abbrev cX8_composesAt : ByteArray := prog_10_method_22_code
def yX8_composesAt : MethodName := ⟨RX8, "composesAt", "(I)Z"⟩
abbrev cX8_letter : ByteArray := prog_10_method_23_code
def yX8_letter : MethodName := ⟨RX8, "letter", "(II)I"⟩
abbrev cX8_sign : ByteArray := prog_10_method_24_code
def yX8_sign : MethodName := ⟨RX8, "sign", "(II)I"⟩
abbrev cX8_compose : ByteArray := prog_10_method_25_code
def yX8_compose : MethodName := ⟨RX8, "compose", "(I)I"⟩
abbrev cX8_composeAll : ByteArray := prog_10_method_26_code
def yX8_composeAll : MethodName := ⟨RX8, "composeAll", "()I"⟩
abbrev cX8_paint : ByteArray := prog_10_method_27_code
def yX8_paint : MethodName := ⟨RX8, "paint", "(I)I"⟩
abbrev cX8_gust : ByteArray := prog_10_method_28_code
def yX8_gust : MethodName := ⟨RX8, "gust", "(I)I"⟩
abbrev cX8_oil : ByteArray := prog_10_method_29_code
def yX8_oil : MethodName := ⟨RX8, "oil", "(I)I"⟩
abbrev cX8_pass : ByteArray := prog_10_method_30_code
def yX8_pass : MethodName := ⟨RX8, "pass", "(I)I"⟩
abbrev cX8_set : ByteArray := prog_10_method_31_code
def yX8_set : MethodName := ⟨RX8, "set", "(II)I"⟩
abbrev cX8_orNone : ByteArray := prog_10_method_32_code
def yX8_orNone : MethodName := ⟨RX8, "orNone", "(I)I"⟩
abbrev cX8_nearest : ByteArray := prog_10_method_33_code
def yX8_nearest : MethodName := ⟨RX8, "nearest", "(I)I"⟩
abbrev cX8_often : ByteArray := prog_10_method_34_code
def yX8_often : MethodName := ⟨RX8, "often", "(I)I"⟩
abbrev cX8_letterOf : ByteArray := prog_10_method_35_code
def yX8_letterOf : MethodName := ⟨RX8, "letterOf", "(II)I"⟩
abbrev cX8_placeOf : ByteArray := prog_10_method_36_code
def yX8_placeOf : MethodName := ⟨RX8, "placeOf", "(II)I"⟩
abbrev cX8_reads : ByteArray := prog_10_method_37_code
def yX8_reads : MethodName := ⟨RX8, "reads", "(II)I"⟩
abbrev cX8_wrong : ByteArray := prog_10_method_38_code
def yX8_wrong : MethodName := ⟨RX8, "wrong", "(I)I"⟩
abbrev cX8_word : ByteArray := prog_10_method_39_code
def yX8_word : MethodName := ⟨RX8, "word", "(II)I"⟩
abbrev cX8_drawnSet : ByteArray := prog_10_method_40_code
def yX8_drawnSet : MethodName := ⟨RX8, "drawnSet", "()I"⟩
abbrev cX8_paintedOr : ByteArray := prog_10_method_41_code
def yX8_paintedOr : MethodName := ⟨RX8, "paintedOr", "(Z)I"⟩
abbrev cX8_count : ByteArray := prog_10_method_42_code
def yX8_count : MethodName := ⟨RX8, "count", "(I)I"⟩
abbrev cX8_composed : ByteArray := prog_10_method_43_code
def yX8_composed : MethodName := ⟨RX8, "composed", "(III)I"⟩
abbrev cX8_goesWith : ByteArray := prog_10_method_44_code
def yX8_goesWith : MethodName := ⟨RX8, "goesWith", "(I)I"⟩
abbrev cX8_quality : ByteArray := prog_10_method_45_code
def yX8_quality : MethodName := ⟨RX8, "quality", "()I"⟩
abbrev cX8_bareIn : ByteArray := prog_10_method_46_code
def yX8_bareIn : MethodName := ⟨RX8, "bareIn", "()I"⟩
abbrev cX8_keep : ByteArray := prog_10_method_47_code
def yX8_keep : MethodName := ⟨RX8, "keep", "()I"⟩
abbrev cX8_restore : ByteArray := prog_10_method_48_code
def yX8_restore : MethodName := ⟨RX8, "restore", "()I"⟩
abbrev cX8_undo : ByteArray := prog_10_method_49_code
def yX8_undo : MethodName := ⟨RX8, "undo", "()I"⟩
abbrev cX8_type : ByteArray := prog_10_method_50_code
def yX8_type : MethodName := ⟨RX8, "type", "(I)I"⟩
abbrev cX8_clearText : ByteArray := prog_10_method_51_code
def yX8_clearText : MethodName := ⟨RX8, "clearText", "()I"⟩
abbrev cX8_breaks : ByteArray := prog_10_method_52_code
def yX8_breaks : MethodName := ⟨RX8, "breaks", "(II)Z"⟩
abbrev cX8_isLetter : ByteArray := prog_10_method_53_code
def yX8_isLetter : MethodName := ⟨RX8, "isLetter", "(I)Z"⟩
abbrev cX8_isForm : ByteArray := prog_10_method_54_code
def yX8_isForm : MethodName := ⟨RX8, "isForm", "()Z"⟩
abbrev cX8_areWords : ByteArray := prog_10_method_55_code
def yX8_areWords : MethodName := ⟨RX8, "areWords", "()Z"⟩
abbrev cX8_fault : ByteArray := prog_10_method_56_code
def yX8_fault : MethodName := ⟨RX8, "fault", "(I)I"⟩
abbrev cX8_read : ByteArray := prog_10_method_57_code
def yX8_read : MethodName := ⟨RX8, "read", "()I"⟩
def RJxf58ca : String := "java/lang/Float"
def TJxf58ca : u_T := fun k => match k with
  | _ => ("", "", "", false)
def tyJxf58ca : Nat → FieldType := fun k => match k with
  | _ => .int
abbrev wsJxf58ca0 : List Cond := u_ws RJxf58ca TJxf58ca 0
theorem nmJxf58ca : ∀ a, a < 0 → ∀ b, b < 0 → a ≠ b → (TJxf58ca a).2.1 ≠ (TJxf58ca b).2.1 := by decide +kernel
theorem tyJxf58ca_ok : ∀ k, k < 0 → parseFieldDescriptor (TJxf58ca k).2.2.1 = some (tyJxf58ca k) := by decide +kernel
abbrev cJxf58ca_isNaN_12338 : ByteArray := prog_11_method_6_code
def yJxf58ca_isNaN_12338 : MethodName := ⟨RJxf58ca, "isNaN", "(F)Z"⟩
abbrev cJxf58ca_floatToIntBits_5c35a : ByteArray := prog_11_method_24_code
def yJxf58ca_floatToIntBits_5c35a : MethodName := ⟨RJxf58ca, "floatToIntBits", "(F)I"⟩
def RJ6 : String := "java/lang/Integer"
def TJ6 : u_T := fun k => match k with
  | _ => ("", "", "", false)
def tyJ6 : Nat → FieldType := fun k => match k with
  | _ => .int
abbrev wsJ60 : List Cond := u_ws RJ6 TJ6 0
theorem nmJ6 : ∀ a, a < 0 → ∀ b, b < 0 → a ≠ b → (TJ6 a).2.1 ≠ (TJ6 b).2.1 := by decide +kernel
theorem tyJ6_ok : ∀ k, k < 0 → parseFieldDescriptor (TJ6 k).2.2.1 = some (tyJ6 k) := by decide +kernel
abbrev cJ6_bitCount_0f7a4 : ByteArray := prog_12_method_49_code
def yJ6_bitCount_0f7a4 : MethodName := ⟨RJ6, "bitCount", "(I)I"⟩
def RJ9 : String := "java/lang/Math"
def TJ9 : u_T := fun k => match k with
  | _ => ("", "", "", false)
def tyJ9 : Nat → FieldType := fun k => match k with
  | _ => .int
abbrev wsJ90 : List Cond := u_ws RJ9 TJ9 0
theorem nmJ9 : ∀ a, a < 0 → ∀ b, b < 0 → a ≠ b → (TJ9 a).2.1 ≠ (TJ9 b).2.1 := by decide +kernel
theorem tyJ9_ok : ∀ k, k < 0 → parseFieldDescriptor (TJ9 k).2.2.1 = some (tyJ9 k) := by decide +kernel
abbrev cJ9_max_7cf53 : ByteArray := prog_13_method_65_code
def yJ9_max_7cf53 : MethodName := ⟨RJ9, "max", "(II)I"⟩
abbrev cJ9_min_7cf53 : ByteArray := prog_13_method_69_code
def yJ9_min_7cf53 : MethodName := ⟨RJ9, "min", "(II)I"⟩
def RL : String := "TurnedBoardsLaw"
abbrev cL_law : ByteArray := code
def yL_law : MethodName := ⟨RL, "law", "([I)Z"⟩
def wsX4_fill : List Cond := .code yX4_fill cX4_fill 3 none :: ([])
def wsX3_init : List Cond := .code yX3_init cX3_init 1 none :: ([.methodLink RX3 3 objectInit, .instanceMethod objectInit, .code objectInit ⟨#[0xb1]⟩ 1 none, .arrayClass .int, .fieldLink RX3 9 "TurnedBoards$Letters" "drawn" "[I", .methodLink RX3 15 yX4_fill, .static yX4_fill, .initialized RX4, .code yX4_fill cX4_fill 3 none] ++ wsX30)
def wsX4_put : List Cond := .code yX4_put cX4_put 3 none :: ([])
def wsX0_init_r1 : List Cond := [Cond.methodLink RX0 3 objectInit, Cond.instanceMethod objectInit, Cond.code objectInit ⟨#[0xb1]⟩ 1 none, Cond.classLink RX0 9 RX3, Cond.instantiable RX3 1, Cond.initialized RX3, Cond.fieldLink RX0 12 "TurnedBoards$Board" "letters" "LTurnedBoards$Letters;", Cond.arrayClass .int, Cond.fieldLink RX0 18 "TurnedBoards$Board" "signs" "[I", Cond.fieldLink RX0 22 "TurnedBoards$Board" "coats" "[I", Cond.fieldLink RX0 25 "TurnedBoards$Board" "uprightWord" "[I", Cond.fieldLink RX0 28 "TurnedBoards$Board" "turnedWord" "[I", Cond.fieldLink RX0 31 "TurnedBoards$Board" "settings" "[I", Cond.fieldLink RX0 34 "TurnedBoards$Board" "places" "I", Cond.fieldLink RX0 38 "TurnedBoards$Board" "turned" "Z", Cond.fieldLink RX0 42 "TurnedBoards$Board" "stiffness" "I", Cond.fieldLink RX0 45 "TurnedBoards$Board" "day" "I", Cond.fieldLink RX0 48 "TurnedBoards$Board" "turns" "I", Cond.methodLink RX0 11 yX3_init, Cond.instanceMethod yX3_init, Cond.code yX3_init cX3_init 1 none, Cond.methodLink RX3 3 objectInit, Cond.fieldLink RX3 9 "TurnedBoards$Letters" "drawn" "[I", Cond.methodLink RX3 15 yX4_fill]
def wsX0_init_r2 : List Cond := [Cond.static yX4_fill, Cond.initialized RX4, Cond.code yX4_fill cX4_fill 3 none, Cond.methodLink RX0 51 yX4_put, Cond.static yX4_put, Cond.code yX4_put cX4_put 3 none]
def wsX0_init : List Cond := .code yX0_init cX0_init 1 none :: ((wsX0_init_r1 ++ wsX0_init_r2) ++ wsX30 ++ wsX00)
def wsX4_copy : List Cond := .code yX4_copy cX4_copy 3 none :: ([])
def wsX3_copyFrom : List Cond := .code yX3_copyFrom cX3_copyFrom 2 none :: ([.fieldLink RX3 9 "TurnedBoards$Letters" "drawn" "[I", .methodLink RX3 46 yX4_copy, .static yX4_copy, .initialized RX4, .code yX4_copy cX4_copy 3 none] ++ wsX30)
def wsX0_copyFrom : List Cond := .code yX0_copyFrom cX0_copyFrom 2 none :: ([.fieldLink RX0 12 "TurnedBoards$Board" "letters" "LTurnedBoards$Letters;", .fieldLink RX0 18 "TurnedBoards$Board" "signs" "[I", .fieldLink RX0 22 "TurnedBoards$Board" "coats" "[I", .fieldLink RX0 25 "TurnedBoards$Board" "uprightWord" "[I", .fieldLink RX0 28 "TurnedBoards$Board" "turnedWord" "[I", .fieldLink RX0 31 "TurnedBoards$Board" "settings" "[I", .fieldLink RX0 34 "TurnedBoards$Board" "places" "I", .fieldLink RX0 38 "TurnedBoards$Board" "turned" "Z", .fieldLink RX0 42 "TurnedBoards$Board" "stiffness" "I", .fieldLink RX0 45 "TurnedBoards$Board" "day" "I", .fieldLink RX0 48 "TurnedBoards$Board" "turns" "I", .methodLink RX0 57 yX3_copyFrom, .instanceMethod yX3_copyFrom, .selects RX3 yX3_copyFrom yX3_copyFrom, .initialized RX3, .code yX3_copyFrom cX3_copyFrom 2 none, .fieldLink RX3 9 "TurnedBoards$Letters" "drawn" "[I", .methodLink RX3 46 yX4_copy, .static yX4_copy, .initialized RX4, .code yX4_copy cX4_copy 3 none, .methodLink RX0 61 yX4_copy] ++ wsX00 ++ wsX30)
def wsX0_renew : List Cond := .code yX0_renew cX0_renew 2 none :: ([.fieldLink RX0 34 "TurnedBoards$Board" "places" "I", .fieldLink RX0 38 "TurnedBoards$Board" "turned" "Z", .fieldLink RX0 18 "TurnedBoards$Board" "signs" "[I", .fieldLink RX0 22 "TurnedBoards$Board" "coats" "[I", .methodLink RX0 65 yX4_fill, .static yX4_fill, .initialized RX4, .code yX4_fill cX4_fill 3 none] ++ wsX00)
def wsX0_hasPlace : List Cond := .code yX0_hasPlace cX0_hasPlace 2 (some .boolean) :: ([.fieldLink RX0 34 "TurnedBoards$Board" "places" "I"] ++ wsX00)
def wsX4_at : List Cond := .code yX4_at cX4_at 2 (some .int) :: ([])
def wsX0_signAt : List Cond := .code yX0_signAt cX0_signAt 2 (some .int) :: ([.fieldLink RX0 18 "TurnedBoards$Board" "signs" "[I", .methodLink RX0 69 yX4_at, .static yX4_at, .initialized RX4, .code yX4_at cX4_at 2 (some .int)] ++ wsX00)
def wsX0_coatsAt : List Cond := .code yX0_coatsAt cX0_coatsAt 2 (some .int) :: ([.fieldLink RX0 22 "TurnedBoards$Board" "coats" "[I", .methodLink RX0 69 yX4_at, .static yX4_at, .initialized RX4, .code yX4_at cX4_at 2 (some .int)] ++ wsX00)
def wsX0_setting : List Cond := .code yX0_setting cX0_setting 2 (some .int) :: ([.fieldLink RX0 31 "TurnedBoards$Board" "settings" "[I", .methodLink RX0 69 yX4_at, .static yX4_at, .initialized RX4, .code yX4_at cX4_at 2 (some .int)] ++ wsX00)
def wsX0_coat : List Cond := .code yX0_coat cX0_coat 3 none :: ([.fieldLink RX0 22 "TurnedBoards$Board" "coats" "[I", .methodLink RX0 51 yX4_put, .static yX4_put, .initialized RX4, .code yX4_put cX4_put 3 none] ++ wsX00)
def wsX0_hang : List Cond := .code yX0_hang cX0_hang 3 none :: ([.fieldLink RX0 18 "TurnedBoards$Board" "signs" "[I", .methodLink RX0 51 yX4_put, .static yX4_put, .initialized RX4, .code yX4_put cX4_put 3 none, .methodLink RX0 73 yX0_setting, .instanceMethod yX0_setting, .selects RX0 yX0_setting yX0_setting, .initialized RX0, .code yX0_setting cX0_setting 2 (some .int), .fieldLink RX0 31 "TurnedBoards$Board" "settings" "[I", .methodLink RX0 69 yX4_at, .static yX4_at, .code yX4_at cX4_at 2 (some .int), .methodLink RX0 77 yX0_coat, .instanceMethod yX0_coat, .selects RX0 yX0_coat yX0_coat, .code yX0_coat cX0_coat 3 none, .fieldLink RX0 22 "TurnedBoards$Board" "coats" "[I"] ++ wsX00)
def wsX0_way : List Cond := .code yX0_way cX0_way 1 (some .int) :: ([.fieldLink RX0 38 "TurnedBoards$Board" "turned" "Z"] ++ wsX00)
def wsX0_turnRound : List Cond := .code yX0_turnRound cX0_turnRound 1 none :: ([.fieldLink RX0 38 "TurnedBoards$Board" "turned" "Z", .fieldLink RX0 48 "TurnedBoards$Board" "turns" "I", .fieldLink RX0 42 "TurnedBoards$Board" "stiffness" "I", .methodLink RX0 81 Lib.Math.max.name, .static Lib.Math.max.name, .initialized "java/lang/Math", .code Lib.Math.max.name Lib.Math.max.code 2 (some .int)] ++ wsX00)
def wsX0_fromLeft : List Cond := .code yX0_fromLeft cX0_fromLeft 3 (some .int) :: ([.fieldLink RX0 34 "TurnedBoards$Board" "places" "I"] ++ wsX00)
def wsX0_letterIn : List Cond := .code yX0_letterIn cX0_letterIn 3 (some .int) :: ([.fieldLink RX0 25 "TurnedBoards$Board" "uprightWord" "[I", .fieldLink RX0 28 "TurnedBoards$Board" "turnedWord" "[I", .methodLink RX0 69 yX4_at, .static yX4_at, .initialized RX4, .code yX4_at cX4_at 2 (some .int)] ++ wsX00)
def wsX0_wantedAt : List Cond := .code yX0_wantedAt cX0_wantedAt 3 (some .int) :: ([.methodLink RX0 87 yX0_fromLeft, .instanceMethod yX0_fromLeft, .selects RX0 yX0_fromLeft yX0_fromLeft, .initialized RX0, .code yX0_fromLeft cX0_fromLeft 3 (some .int), .fieldLink RX0 34 "TurnedBoards$Board" "places" "I", .methodLink RX0 90 yX0_letterIn, .instanceMethod yX0_letterIn, .selects RX0 yX0_letterIn yX0_letterIn, .code yX0_letterIn cX0_letterIn 3 (some .int), .fieldLink RX0 25 "TurnedBoards$Board" "uprightWord" "[I", .fieldLink RX0 28 "TurnedBoards$Board" "turnedWord" "[I", .methodLink RX0 69 yX4_at, .static yX4_at, .initialized RX4, .code yX4_at cX4_at 2 (some .int)] ++ wsX00)
def wsX6_turn : List Cond := .code yX6_turn cX6_turn 2 (some .int) :: ([])
def wsX6_seen : List Cond := .code yX6_seen cX6_seen 2 (some .int) :: ([.methodLink RX6 9 yX6_turn, .static yX6_turn, .initialized RX6, .code yX6_turn cX6_turn 2 (some .int)])
def wsJ6_bitCount_0f7a4 : List Cond := .code yJ6_bitCount_0f7a4 cJ6_bitCount_0f7a4 1 (some .int) :: ([.constant RJ6 265 (1431655765), .constant RJ6 266 (858993459), .constant RJ6 267 (252645135)])
def wsX3_nearest : List Cond := .code yX3_nearest cX3_nearest 7 (some .int) :: ([.fieldLink RX3 9 "TurnedBoards$Letters" "drawn" "[I", .methodLink RX3 29 yJ6_bitCount_0f7a4, .static yJ6_bitCount_0f7a4, .initialized RJ6, .code yJ6_bitCount_0f7a4 cJ6_bitCount_0f7a4 1 (some .int), .constant RJ6 265 (1431655765), .constant RJ6 266 (858993459), .constant RJ6 267 (252645135)] ++ wsX30)
def wsX0_readAt_r1 : List Cond := [Cond.fieldLink RX0 12 "TurnedBoards$Board" "letters" "LTurnedBoards$Letters;", Cond.methodLink RX0 93 yX0_coatsAt, Cond.instanceMethod yX0_coatsAt, Cond.selects RX0 yX0_coatsAt yX0_coatsAt, Cond.initialized RX0, Cond.code yX0_coatsAt cX0_coatsAt 2 (some .int), Cond.fieldLink RX0 22 "TurnedBoards$Board" "coats" "[I", Cond.methodLink RX0 69 yX4_at, Cond.static yX4_at, Cond.initialized RX4, Cond.code yX4_at cX4_at 2 (some .int), Cond.methodLink RX0 96 yX0_signAt, Cond.instanceMethod yX0_signAt, Cond.selects RX0 yX0_signAt yX0_signAt, Cond.code yX0_signAt cX0_signAt 2 (some .int), Cond.fieldLink RX0 18 "TurnedBoards$Board" "signs" "[I", Cond.methodLink RX0 99 yX6_seen, Cond.static yX6_seen, Cond.initialized RX6, Cond.code yX6_seen cX6_seen 2 (some .int), Cond.methodLink RX6 9 yX6_turn, Cond.static yX6_turn, Cond.code yX6_turn cX6_turn 2 (some .int), Cond.methodLink RX0 104 yX3_nearest]
def wsX0_readAt_r2 : List Cond := [Cond.instanceMethod yX3_nearest, Cond.selects RX3 yX3_nearest yX3_nearest, Cond.initialized RX3, Cond.code yX3_nearest cX3_nearest 7 (some .int), Cond.fieldLink RX3 9 "TurnedBoards$Letters" "drawn" "[I", Cond.methodLink RX3 29 yJ6_bitCount_0f7a4, Cond.static yJ6_bitCount_0f7a4, Cond.initialized RJ6, Cond.code yJ6_bitCount_0f7a4 cJ6_bitCount_0f7a4 1 (some .int), Cond.constant RJ6 265 (1431655765), Cond.constant RJ6 266 (858993459), Cond.constant RJ6 267 (252645135)]
def wsX0_readAt : List Cond := .code yX0_readAt cX0_readAt 3 (some .int) :: ((wsX0_readAt_r1 ++ wsX0_readAt_r2) ++ wsX00 ++ wsX30)
def wsX3_signFor : List Cond := .code yX3_signFor cX3_signFor 2 (some .int) :: ([.fieldLink RX3 9 "TurnedBoards$Letters" "drawn" "[I"] ++ wsX30)
def wsX3_marginOf : List Cond := .code yX3_marginOf cX3_marginOf 5 (some .int) :: ([.fieldLink RX3 9 "TurnedBoards$Letters" "drawn" "[I", .methodLink RX3 34 Lib.Math.min.name, .static Lib.Math.min.name, .initialized "java/lang/Math", .code Lib.Math.min.name Lib.Math.min.code 2 (some .int), .methodLink RX3 29 yJ6_bitCount_0f7a4, .static yJ6_bitCount_0f7a4, .initialized RJ6, .code yJ6_bitCount_0f7a4 cJ6_bitCount_0f7a4 1 (some .int), .constant RJ6 265 (1431655765), .constant RJ6 266 (858993459), .constant RJ6 267 (252645135), .methodLink RX3 21 yX3_signFor, .instanceMethod yX3_signFor, .selects RX3 yX3_signFor yX3_signFor, .initialized RX3, .code yX3_signFor cX3_signFor 2 (some .int)] ++ wsX30)
def wsX0_marginAt_r1 : List Cond := [Cond.fieldLink RX0 12 "TurnedBoards$Board" "letters" "LTurnedBoards$Letters;", Cond.methodLink RX0 96 yX0_signAt, Cond.instanceMethod yX0_signAt, Cond.selects RX0 yX0_signAt yX0_signAt, Cond.initialized RX0, Cond.code yX0_signAt cX0_signAt 2 (some .int), Cond.fieldLink RX0 18 "TurnedBoards$Board" "signs" "[I", Cond.methodLink RX0 69 yX4_at, Cond.static yX4_at, Cond.initialized RX4, Cond.code yX4_at cX4_at 2 (some .int), Cond.methodLink RX0 99 yX6_seen, Cond.static yX6_seen, Cond.initialized RX6, Cond.code yX6_seen cX6_seen 2 (some .int), Cond.methodLink RX6 9 yX6_turn, Cond.static yX6_turn, Cond.code yX6_turn cX6_turn 2 (some .int), Cond.methodLink RX0 107 yX0_wantedAt, Cond.instanceMethod yX0_wantedAt, Cond.selects RX0 yX0_wantedAt yX0_wantedAt, Cond.code yX0_wantedAt cX0_wantedAt 3 (some .int), Cond.methodLink RX0 87 yX0_fromLeft, Cond.instanceMethod yX0_fromLeft]
def wsX0_marginAt_r2 : List Cond := [Cond.selects RX0 yX0_fromLeft yX0_fromLeft, Cond.code yX0_fromLeft cX0_fromLeft 3 (some .int), Cond.fieldLink RX0 34 "TurnedBoards$Board" "places" "I", Cond.methodLink RX0 90 yX0_letterIn, Cond.instanceMethod yX0_letterIn, Cond.selects RX0 yX0_letterIn yX0_letterIn, Cond.code yX0_letterIn cX0_letterIn 3 (some .int), Cond.fieldLink RX0 25 "TurnedBoards$Board" "uprightWord" "[I", Cond.fieldLink RX0 28 "TurnedBoards$Board" "turnedWord" "[I", Cond.methodLink RX0 110 yX3_marginOf, Cond.instanceMethod yX3_marginOf, Cond.selects RX3 yX3_marginOf yX3_marginOf, Cond.initialized RX3, Cond.code yX3_marginOf cX3_marginOf 5 (some .int), Cond.fieldLink RX3 9 "TurnedBoards$Letters" "drawn" "[I", Cond.methodLink RX3 34 Lib.Math.min.name, Cond.static Lib.Math.min.name, Cond.initialized "java/lang/Math", Cond.code Lib.Math.min.name Lib.Math.min.code 2 (some .int), Cond.methodLink RX3 29 yJ6_bitCount_0f7a4, Cond.static yJ6_bitCount_0f7a4, Cond.initialized RJ6, Cond.code yJ6_bitCount_0f7a4 cJ6_bitCount_0f7a4 1 (some .int), Cond.constant RJ6 265 (1431655765)]
def wsX0_marginAt_r3 : List Cond := [Cond.constant RJ6 266 (858993459), Cond.constant RJ6 267 (252645135), Cond.methodLink RX3 21 yX3_signFor, Cond.instanceMethod yX3_signFor, Cond.selects RX3 yX3_signFor yX3_signFor, Cond.code yX3_signFor cX3_signFor 2 (some .int)]
def wsX0_marginAt : List Cond := .code yX0_marginAt cX0_marginAt 3 (some .int) :: ((wsX0_marginAt_r1 ++ (wsX0_marginAt_r2 ++ wsX0_marginAt_r3)) ++ wsX00 ++ wsX30)
def wsX0_misread_r1 : List Cond := [Cond.fieldLink RX0 34 "TurnedBoards$Board" "places" "I", Cond.methodLink RX0 113 yX0_readAt, Cond.instanceMethod yX0_readAt, Cond.selects RX0 yX0_readAt yX0_readAt, Cond.initialized RX0, Cond.code yX0_readAt cX0_readAt 3 (some .int), Cond.fieldLink RX0 12 "TurnedBoards$Board" "letters" "LTurnedBoards$Letters;", Cond.methodLink RX0 93 yX0_coatsAt, Cond.instanceMethod yX0_coatsAt, Cond.selects RX0 yX0_coatsAt yX0_coatsAt, Cond.code yX0_coatsAt cX0_coatsAt 2 (some .int), Cond.fieldLink RX0 22 "TurnedBoards$Board" "coats" "[I", Cond.methodLink RX0 69 yX4_at, Cond.static yX4_at, Cond.initialized RX4, Cond.code yX4_at cX4_at 2 (some .int), Cond.methodLink RX0 96 yX0_signAt, Cond.instanceMethod yX0_signAt, Cond.selects RX0 yX0_signAt yX0_signAt, Cond.code yX0_signAt cX0_signAt 2 (some .int), Cond.fieldLink RX0 18 "TurnedBoards$Board" "signs" "[I", Cond.methodLink RX0 99 yX6_seen, Cond.static yX6_seen, Cond.initialized RX6]
def wsX0_misread_r2 : List Cond := [Cond.code yX6_seen cX6_seen 2 (some .int), Cond.methodLink RX6 9 yX6_turn, Cond.static yX6_turn, Cond.code yX6_turn cX6_turn 2 (some .int), Cond.methodLink RX0 104 yX3_nearest, Cond.instanceMethod yX3_nearest, Cond.selects RX3 yX3_nearest yX3_nearest, Cond.initialized RX3, Cond.code yX3_nearest cX3_nearest 7 (some .int), Cond.fieldLink RX3 9 "TurnedBoards$Letters" "drawn" "[I", Cond.methodLink RX3 29 yJ6_bitCount_0f7a4, Cond.static yJ6_bitCount_0f7a4, Cond.initialized RJ6, Cond.code yJ6_bitCount_0f7a4 cJ6_bitCount_0f7a4 1 (some .int), Cond.constant RJ6 265 (1431655765), Cond.constant RJ6 266 (858993459), Cond.constant RJ6 267 (252645135), Cond.methodLink RX0 107 yX0_wantedAt, Cond.instanceMethod yX0_wantedAt, Cond.selects RX0 yX0_wantedAt yX0_wantedAt, Cond.code yX0_wantedAt cX0_wantedAt 3 (some .int), Cond.methodLink RX0 87 yX0_fromLeft, Cond.instanceMethod yX0_fromLeft, Cond.selects RX0 yX0_fromLeft yX0_fromLeft]
def wsX0_misread_r3 : List Cond := [Cond.code yX0_fromLeft cX0_fromLeft 3 (some .int), Cond.methodLink RX0 90 yX0_letterIn, Cond.instanceMethod yX0_letterIn, Cond.selects RX0 yX0_letterIn yX0_letterIn, Cond.code yX0_letterIn cX0_letterIn 3 (some .int), Cond.fieldLink RX0 25 "TurnedBoards$Board" "uprightWord" "[I", Cond.fieldLink RX0 28 "TurnedBoards$Board" "turnedWord" "[I"]
def wsX0_misread : List Cond := .code yX0_misread cX0_misread 4 (some .int) :: ((wsX0_misread_r1 ++ (wsX0_misread_r2 ++ wsX0_misread_r3)) ++ wsX00 ++ wsX30)
def wsX0_timesWanted : List Cond := .code yX0_timesWanted cX0_timesWanted 4 (some .int) :: ([.fieldLink RX0 34 "TurnedBoards$Board" "places" "I", .methodLink RX0 90 yX0_letterIn, .instanceMethod yX0_letterIn, .selects RX0 yX0_letterIn yX0_letterIn, .initialized RX0, .code yX0_letterIn cX0_letterIn 3 (some .int), .fieldLink RX0 25 "TurnedBoards$Board" "uprightWord" "[I", .fieldLink RX0 28 "TurnedBoards$Board" "turnedWord" "[I", .methodLink RX0 69 yX4_at, .static yX4_at, .initialized RX4, .code yX4_at cX4_at 2 (some .int)] ++ wsX00)
def wsX0_allCoats : List Cond := .code yX0_allCoats cX0_allCoats 3 (some .int) :: ([.fieldLink RX0 34 "TurnedBoards$Board" "places" "I", .methodLink RX0 93 yX0_coatsAt, .instanceMethod yX0_coatsAt, .selects RX0 yX0_coatsAt yX0_coatsAt, .initialized RX0, .code yX0_coatsAt cX0_coatsAt 2 (some .int), .fieldLink RX0 22 "TurnedBoards$Board" "coats" "[I", .methodLink RX0 69 yX4_at, .static yX4_at, .initialized RX4, .code yX4_at cX4_at 2 (some .int)] ++ wsX00)
def wsX0_placesWithCoats : List Cond := .code yX0_placesWithCoats cX0_placesWithCoats 3 (some .int) :: ([.fieldLink RX0 34 "TurnedBoards$Board" "places" "I", .methodLink RX0 93 yX0_coatsAt, .instanceMethod yX0_coatsAt, .selects RX0 yX0_coatsAt yX0_coatsAt, .initialized RX0, .code yX0_coatsAt cX0_coatsAt 2 (some .int), .fieldLink RX0 22 "TurnedBoards$Board" "coats" "[I", .methodLink RX0 69 yX4_at, .static yX4_at, .initialized RX4, .code yX4_at cX4_at 2 (some .int)] ++ wsX00)
def wsX6_darkInUpperRows : List Cond := .code yX6_darkInUpperRows cX6_darkInUpperRows 2 (some .int) :: ([.methodLink RX6 15 yJ6_bitCount_0f7a4, .static yJ6_bitCount_0f7a4, .initialized RJ6, .code yJ6_bitCount_0f7a4 cJ6_bitCount_0f7a4 1 (some .int), .constant RJ6 265 (1431655765), .constant RJ6 266 (858993459), .constant RJ6 267 (252645135)])
def wsX0_fades_r1 : List Cond := [Cond.methodLink RX0 93 yX0_coatsAt, Cond.instanceMethod yX0_coatsAt, Cond.selects RX0 yX0_coatsAt yX0_coatsAt, Cond.initialized RX0, Cond.code yX0_coatsAt cX0_coatsAt 2 (some .int), Cond.fieldLink RX0 22 "TurnedBoards$Board" "coats" "[I", Cond.methodLink RX0 69 yX4_at, Cond.static yX4_at, Cond.initialized RX4, Cond.code yX4_at cX4_at 2 (some .int), Cond.methodLink RX0 96 yX0_signAt, Cond.instanceMethod yX0_signAt, Cond.selects RX0 yX0_signAt yX0_signAt, Cond.code yX0_signAt cX0_signAt 2 (some .int), Cond.fieldLink RX0 18 "TurnedBoards$Board" "signs" "[I", Cond.methodLink RX0 116 yX0_way, Cond.instanceMethod yX0_way, Cond.selects RX0 yX0_way yX0_way, Cond.code yX0_way cX0_way 1 (some .int), Cond.fieldLink RX0 38 "TurnedBoards$Board" "turned" "Z", Cond.methodLink RX0 120 yX6_darkInUpperRows, Cond.static yX6_darkInUpperRows, Cond.initialized RX6, Cond.code yX6_darkInUpperRows cX6_darkInUpperRows 2 (some .int)]
def wsX0_fades_r2 : List Cond := [Cond.methodLink RX6 15 yJ6_bitCount_0f7a4, Cond.static yJ6_bitCount_0f7a4, Cond.initialized RJ6, Cond.code yJ6_bitCount_0f7a4 cJ6_bitCount_0f7a4 1 (some .int), Cond.constant RJ6 265 (1431655765), Cond.constant RJ6 266 (858993459), Cond.constant RJ6 267 (252645135), Cond.methodLink RX0 73 yX0_setting, Cond.instanceMethod yX0_setting, Cond.selects RX0 yX0_setting yX0_setting, Cond.code yX0_setting cX0_setting 2 (some .int), Cond.fieldLink RX0 31 "TurnedBoards$Board" "settings" "[I"]
def wsX0_fades : List Cond := .code yX0_fades cX0_fades 2 (some .boolean) :: ((wsX0_fades_r1 ++ wsX0_fades_r2) ++ wsX00)
def wsX0_fadeOneDay_r1 : List Cond := [Cond.fieldLink RX0 34 "TurnedBoards$Board" "places" "I", Cond.fieldLink RX0 45 "TurnedBoards$Board" "day" "I", Cond.methodLink RX0 123 yX0_fades, Cond.instanceMethod yX0_fades, Cond.selects RX0 yX0_fades yX0_fades, Cond.initialized RX0, Cond.code yX0_fades cX0_fades 2 (some .boolean), Cond.methodLink RX0 93 yX0_coatsAt, Cond.instanceMethod yX0_coatsAt, Cond.selects RX0 yX0_coatsAt yX0_coatsAt, Cond.code yX0_coatsAt cX0_coatsAt 2 (some .int), Cond.fieldLink RX0 22 "TurnedBoards$Board" "coats" "[I", Cond.methodLink RX0 69 yX4_at, Cond.static yX4_at, Cond.initialized RX4, Cond.code yX4_at cX4_at 2 (some .int), Cond.methodLink RX0 96 yX0_signAt, Cond.instanceMethod yX0_signAt, Cond.selects RX0 yX0_signAt yX0_signAt, Cond.code yX0_signAt cX0_signAt 2 (some .int), Cond.fieldLink RX0 18 "TurnedBoards$Board" "signs" "[I", Cond.methodLink RX0 116 yX0_way, Cond.instanceMethod yX0_way, Cond.selects RX0 yX0_way yX0_way]
def wsX0_fadeOneDay_r2 : List Cond := [Cond.code yX0_way cX0_way 1 (some .int), Cond.fieldLink RX0 38 "TurnedBoards$Board" "turned" "Z", Cond.methodLink RX0 120 yX6_darkInUpperRows, Cond.static yX6_darkInUpperRows, Cond.initialized RX6, Cond.code yX6_darkInUpperRows cX6_darkInUpperRows 2 (some .int), Cond.methodLink RX6 15 yJ6_bitCount_0f7a4, Cond.static yJ6_bitCount_0f7a4, Cond.initialized RJ6, Cond.code yJ6_bitCount_0f7a4 cJ6_bitCount_0f7a4 1 (some .int), Cond.constant RJ6 265 (1431655765), Cond.constant RJ6 266 (858993459), Cond.constant RJ6 267 (252645135), Cond.methodLink RX0 73 yX0_setting, Cond.instanceMethod yX0_setting, Cond.selects RX0 yX0_setting yX0_setting, Cond.code yX0_setting cX0_setting 2 (some .int), Cond.fieldLink RX0 31 "TurnedBoards$Board" "settings" "[I", Cond.methodLink RX0 77 yX0_coat, Cond.instanceMethod yX0_coat, Cond.selects RX0 yX0_coat yX0_coat, Cond.code yX0_coat cX0_coat 3 none, Cond.methodLink RX0 51 yX4_put, Cond.static yX4_put]
def wsX0_fadeOneDay_r3 : List Cond := [Cond.code yX4_put cX4_put 3 none]
def wsX0_fadeOneDay : List Cond := .code yX0_fadeOneDay cX0_fadeOneDay 3 (some .int) :: ((wsX0_fadeOneDay_r1 ++ (wsX0_fadeOneDay_r2 ++ wsX0_fadeOneDay_r3)) ++ wsX00)
def wsX1_init : List Cond := .code yX1_init cX1_init 1 none :: ([.methodLink RX1 3 objectInit, .instanceMethod objectInit, .code objectInit ⟨#[0xb1]⟩ 1 none])
def wsX3_has : List Cond := .code yX3_has cX3_has 2 (some .boolean) :: ([.methodLink RX3 21 yX3_signFor, .instanceMethod yX3_signFor, .selects RX3 yX3_signFor yX3_signFor, .initialized RX3, .code yX3_signFor cX3_signFor 2 (some .int), .fieldLink RX3 9 "TurnedBoards$Letters" "drawn" "[I"] ++ wsX30)
def wsX3_leadOf_r1 : List Cond := [Cond.methodLink RX3 40 yX3_marginOf, Cond.instanceMethod yX3_marginOf, Cond.selects RX3 yX3_marginOf yX3_marginOf, Cond.initialized RX3, Cond.code yX3_marginOf cX3_marginOf 5 (some .int), Cond.fieldLink RX3 9 "TurnedBoards$Letters" "drawn" "[I", Cond.methodLink RX3 34 Lib.Math.min.name, Cond.static Lib.Math.min.name, Cond.initialized "java/lang/Math", Cond.code Lib.Math.min.name Lib.Math.min.code 2 (some .int), Cond.methodLink RX3 29 yJ6_bitCount_0f7a4, Cond.static yJ6_bitCount_0f7a4, Cond.initialized RJ6, Cond.code yJ6_bitCount_0f7a4 cJ6_bitCount_0f7a4 1 (some .int), Cond.constant RJ6 265 (1431655765), Cond.constant RJ6 266 (858993459), Cond.constant RJ6 267 (252645135), Cond.methodLink RX3 21 yX3_signFor, Cond.instanceMethod yX3_signFor, Cond.selects RX3 yX3_signFor yX3_signFor, Cond.code yX3_signFor cX3_signFor 2 (some .int), Cond.methodLink RX3 43 yX3_nearest, Cond.instanceMethod yX3_nearest, Cond.selects RX3 yX3_nearest yX3_nearest]
def wsX3_leadOf_r2 : List Cond := [Cond.code yX3_nearest cX3_nearest 7 (some .int)]
def wsX3_leadOf : List Cond := .code yX3_leadOf cX3_leadOf 4 (some .int) :: ((wsX3_leadOf_r1 ++ wsX3_leadOf_r2) ++ wsX30)
def wsX1_settle_r1 : List Cond := [Cond.fieldLink RX1 24 "TurnedBoards$Composer" "letters" "LTurnedBoards$Letters;", Cond.fieldLink RX1 38 "TurnedBoards$Composer" "oneUpright" "I", Cond.fieldLink RX1 28 "TurnedBoards$Composer" "one" "I", Cond.fieldLink RX1 15 "TurnedBoards$Composer" "bestLesser" "I", Cond.fieldLink RX1 46 "TurnedBoards$Composer" "otherTurned" "I", Cond.fieldLink RX1 31 "TurnedBoards$Composer" "other" "I", Cond.methodLink RX1 57 Lib.Math.min.name, Cond.static Lib.Math.min.name, Cond.initialized "java/lang/Math", Cond.code Lib.Math.min.name Lib.Math.min.code 2 (some .int), Cond.fieldLink RX1 9 "TurnedBoards$Composer" "best" "I", Cond.methodLink RX1 53 yX3_leadOf, Cond.instanceMethod yX3_leadOf, Cond.selects RX3 yX3_leadOf yX3_leadOf, Cond.initialized RX3, Cond.code yX3_leadOf cX3_leadOf 4 (some .int), Cond.methodLink RX3 40 yX3_marginOf, Cond.instanceMethod yX3_marginOf, Cond.selects RX3 yX3_marginOf yX3_marginOf, Cond.code yX3_marginOf cX3_marginOf 5 (some .int), Cond.fieldLink RX3 9 "TurnedBoards$Letters" "drawn" "[I", Cond.methodLink RX3 34 Lib.Math.min.name, Cond.methodLink RX3 29 yJ6_bitCount_0f7a4, Cond.static yJ6_bitCount_0f7a4]
def wsX1_settle_r2 : List Cond := [Cond.initialized RJ6, Cond.code yJ6_bitCount_0f7a4 cJ6_bitCount_0f7a4 1 (some .int), Cond.constant RJ6 265 (1431655765), Cond.constant RJ6 266 (858993459), Cond.constant RJ6 267 (252645135), Cond.methodLink RX3 21 yX3_signFor, Cond.instanceMethod yX3_signFor, Cond.selects RX3 yX3_signFor yX3_signFor, Cond.code yX3_signFor cX3_signFor 2 (some .int), Cond.methodLink RX3 43 yX3_nearest, Cond.instanceMethod yX3_nearest, Cond.selects RX3 yX3_nearest yX3_nearest, Cond.code yX3_nearest cX3_nearest 7 (some .int), Cond.methodLink RX1 41 yX6_turn, Cond.static yX6_turn, Cond.initialized RX6, Cond.code yX6_turn cX6_turn 2 (some .int), Cond.methodLink RX1 62 yX1_settleAs, Cond.instanceMethod yX1_settleAs, Cond.selects RX1 yX1_settleAs yX1_settleAs, Cond.initialized RX1, Cond.code yX1_settleAs cX1_settleAs 4 none, Cond.methodLink RX1 49 yX1_settle, Cond.instanceMethod yX1_settle]
def wsX1_settle_r3 : List Cond := [Cond.selects RX1 yX1_settle yX1_settle]
def wsX1_settle : List Cond := .code yX1_settle cX1_settle 5 none :: ((wsX1_settle_r1 ++ (wsX1_settle_r2 ++ wsX1_settle_r3)) ++ wsX10 ++ wsX30)
def wsX1_settleAs_r1 : List Cond := [Cond.fieldLink RX1 38 "TurnedBoards$Composer" "oneUpright" "I", Cond.fieldLink RX1 46 "TurnedBoards$Composer" "otherTurned" "I", Cond.methodLink RX1 49 yX1_settle, Cond.instanceMethod yX1_settle, Cond.selects RX1 yX1_settle yX1_settle, Cond.initialized RX1, Cond.code yX1_settle cX1_settle 5 none, Cond.fieldLink RX1 24 "TurnedBoards$Composer" "letters" "LTurnedBoards$Letters;", Cond.fieldLink RX1 28 "TurnedBoards$Composer" "one" "I", Cond.fieldLink RX1 15 "TurnedBoards$Composer" "bestLesser" "I", Cond.fieldLink RX1 31 "TurnedBoards$Composer" "other" "I", Cond.methodLink RX1 57 Lib.Math.min.name, Cond.static Lib.Math.min.name, Cond.initialized "java/lang/Math", Cond.code Lib.Math.min.name Lib.Math.min.code 2 (some .int), Cond.fieldLink RX1 9 "TurnedBoards$Composer" "best" "I", Cond.methodLink RX1 53 yX3_leadOf, Cond.instanceMethod yX3_leadOf, Cond.selects RX3 yX3_leadOf yX3_leadOf, Cond.initialized RX3, Cond.code yX3_leadOf cX3_leadOf 4 (some .int), Cond.methodLink RX3 40 yX3_marginOf, Cond.instanceMethod yX3_marginOf, Cond.selects RX3 yX3_marginOf yX3_marginOf]
def wsX1_settleAs_r2 : List Cond := [Cond.code yX3_marginOf cX3_marginOf 5 (some .int), Cond.fieldLink RX3 9 "TurnedBoards$Letters" "drawn" "[I", Cond.methodLink RX3 34 Lib.Math.min.name, Cond.methodLink RX3 29 yJ6_bitCount_0f7a4, Cond.static yJ6_bitCount_0f7a4, Cond.initialized RJ6, Cond.code yJ6_bitCount_0f7a4 cJ6_bitCount_0f7a4 1 (some .int), Cond.constant RJ6 265 (1431655765), Cond.constant RJ6 266 (858993459), Cond.constant RJ6 267 (252645135), Cond.methodLink RX3 21 yX3_signFor, Cond.instanceMethod yX3_signFor, Cond.selects RX3 yX3_signFor yX3_signFor, Cond.code yX3_signFor cX3_signFor 2 (some .int), Cond.methodLink RX3 43 yX3_nearest, Cond.instanceMethod yX3_nearest, Cond.selects RX3 yX3_nearest yX3_nearest, Cond.code yX3_nearest cX3_nearest 7 (some .int), Cond.methodLink RX1 41 yX6_turn, Cond.static yX6_turn, Cond.initialized RX6, Cond.code yX6_turn cX6_turn 2 (some .int), Cond.methodLink RX1 62 yX1_settleAs, Cond.instanceMethod yX1_settleAs]
def wsX1_settleAs_r3 : List Cond := [Cond.selects RX1 yX1_settleAs yX1_settleAs]
def wsX1_settleAs : List Cond := .code yX1_settleAs cX1_settleAs 4 none :: ((wsX1_settleAs_r1 ++ (wsX1_settleAs_r2 ++ wsX1_settleAs_r3)) ++ wsX10 ++ wsX30)
def wsX1_find_r1 : List Cond := [Cond.fieldLink RX1 9 "TurnedBoards$Composer" "best" "I", Cond.fieldLink RX1 15 "TurnedBoards$Composer" "bestLesser" "I", Cond.fieldLink RX1 24 "TurnedBoards$Composer" "letters" "LTurnedBoards$Letters;", Cond.fieldLink RX1 28 "TurnedBoards$Composer" "one" "I", Cond.fieldLink RX1 31 "TurnedBoards$Composer" "other" "I", Cond.fieldLink RX1 38 "TurnedBoards$Composer" "oneUpright" "I", Cond.fieldLink RX1 46 "TurnedBoards$Composer" "otherTurned" "I", Cond.methodLink RX1 18 yX3_has, Cond.instanceMethod yX3_has, Cond.selects RX3 yX3_has yX3_has, Cond.initialized RX3, Cond.code yX3_has cX3_has 2 (some .boolean), Cond.methodLink RX3 21 yX3_signFor, Cond.instanceMethod yX3_signFor, Cond.selects RX3 yX3_signFor yX3_signFor, Cond.code yX3_signFor cX3_signFor 2 (some .int), Cond.fieldLink RX3 9 "TurnedBoards$Letters" "drawn" "[I", Cond.methodLink RX1 34 yX3_signFor, Cond.methodLink RX1 41 yX6_turn, Cond.static yX6_turn, Cond.initialized RX6, Cond.code yX6_turn cX6_turn 2 (some .int), Cond.methodLink RX1 49 yX1_settle, Cond.instanceMethod yX1_settle]
def wsX1_find_r2 : List Cond := [Cond.selects RX1 yX1_settle yX1_settle, Cond.initialized RX1, Cond.code yX1_settle cX1_settle 5 none, Cond.methodLink RX1 57 Lib.Math.min.name, Cond.static Lib.Math.min.name, Cond.initialized "java/lang/Math", Cond.code Lib.Math.min.name Lib.Math.min.code 2 (some .int), Cond.methodLink RX1 53 yX3_leadOf, Cond.instanceMethod yX3_leadOf, Cond.selects RX3 yX3_leadOf yX3_leadOf, Cond.code yX3_leadOf cX3_leadOf 4 (some .int), Cond.methodLink RX3 40 yX3_marginOf, Cond.instanceMethod yX3_marginOf, Cond.selects RX3 yX3_marginOf yX3_marginOf, Cond.code yX3_marginOf cX3_marginOf 5 (some .int), Cond.methodLink RX3 34 Lib.Math.min.name, Cond.methodLink RX3 29 yJ6_bitCount_0f7a4, Cond.static yJ6_bitCount_0f7a4, Cond.initialized RJ6, Cond.code yJ6_bitCount_0f7a4 cJ6_bitCount_0f7a4 1 (some .int), Cond.constant RJ6 265 (1431655765), Cond.constant RJ6 266 (858993459), Cond.constant RJ6 267 (252645135), Cond.methodLink RX3 43 yX3_nearest]
def wsX1_find_r3 : List Cond := [Cond.instanceMethod yX3_nearest, Cond.selects RX3 yX3_nearest yX3_nearest, Cond.code yX3_nearest cX3_nearest 7 (some .int), Cond.methodLink RX1 62 yX1_settleAs, Cond.instanceMethod yX1_settleAs, Cond.selects RX1 yX1_settleAs yX1_settleAs, Cond.code yX1_settleAs cX1_settleAs 4 none]
def wsX1_find : List Cond := .code yX1_find cX1_find 4 (some .boolean) :: ((wsX1_find_r1 ++ (wsX1_find_r2 ++ wsX1_find_r3)) ++ wsX10 ++ wsX30)
def wsX2_init_r1 : List Cond := [Cond.methodLink RX2 3 objectInit, Cond.instanceMethod objectInit, Cond.code objectInit ⟨#[0xb1]⟩ 1 none, Cond.classLink RX2 9 RX0, Cond.fieldLink RX2 11 "TurnedBoards$History" "states" "[LTurnedBoards$Board;", Cond.fieldLink RX2 17 "TurnedBoards$History" "size" "I", Cond.instantiable RX0 11, Cond.initialized RX0, Cond.methodLink RX2 21 yX0_init, Cond.instanceMethod yX0_init, Cond.code yX0_init cX0_init 1 none, Cond.methodLink RX0 3 objectInit, Cond.classLink RX0 9 RX3, Cond.instantiable RX3 1, Cond.initialized RX3, Cond.fieldLink RX0 12 "TurnedBoards$Board" "letters" "LTurnedBoards$Letters;", Cond.arrayClass .int, Cond.fieldLink RX0 18 "TurnedBoards$Board" "signs" "[I", Cond.fieldLink RX0 22 "TurnedBoards$Board" "coats" "[I", Cond.fieldLink RX0 25 "TurnedBoards$Board" "uprightWord" "[I", Cond.fieldLink RX0 28 "TurnedBoards$Board" "turnedWord" "[I", Cond.fieldLink RX0 31 "TurnedBoards$Board" "settings" "[I", Cond.fieldLink RX0 34 "TurnedBoards$Board" "places" "I", Cond.fieldLink RX0 38 "TurnedBoards$Board" "turned" "Z"]
def wsX2_init_r2 : List Cond := [Cond.fieldLink RX0 42 "TurnedBoards$Board" "stiffness" "I", Cond.fieldLink RX0 45 "TurnedBoards$Board" "day" "I", Cond.fieldLink RX0 48 "TurnedBoards$Board" "turns" "I", Cond.methodLink RX0 11 yX3_init, Cond.instanceMethod yX3_init, Cond.code yX3_init cX3_init 1 none, Cond.methodLink RX3 3 objectInit, Cond.fieldLink RX3 9 "TurnedBoards$Letters" "drawn" "[I", Cond.methodLink RX3 15 yX4_fill, Cond.static yX4_fill, Cond.initialized RX4, Cond.code yX4_fill cX4_fill 3 none, Cond.methodLink RX0 51 yX4_put, Cond.static yX4_put, Cond.code yX4_put cX4_put 3 none]
def wsX2_init : List Cond := .code yX2_init cX2_init 2 none :: ((wsX2_init_r1 ++ wsX2_init_r2) ++ wsX20 ++ wsX00 ++ wsX30)
def wsX2_moveOldestToEnd : List Cond := .code yX2_moveOldestToEnd cX2_moveOldestToEnd 3 none :: ([.fieldLink RX2 11 "TurnedBoards$History" "states" "[LTurnedBoards$Board;"] ++ wsX20)
def wsX2_push_r1 : List Cond := [Cond.fieldLink RX2 17 "TurnedBoards$History" "size" "I", Cond.fieldLink RX2 11 "TurnedBoards$History" "states" "[LTurnedBoards$Board;", Cond.methodLink RX2 22 yX2_moveOldestToEnd, Cond.instanceMethod yX2_moveOldestToEnd, Cond.selects RX2 yX2_moveOldestToEnd yX2_moveOldestToEnd, Cond.initialized RX2, Cond.code yX2_moveOldestToEnd cX2_moveOldestToEnd 3 none, Cond.methodLink RX2 25 yX0_copyFrom, Cond.instanceMethod yX0_copyFrom, Cond.selects RX0 yX0_copyFrom yX0_copyFrom, Cond.initialized RX0, Cond.code yX0_copyFrom cX0_copyFrom 2 none, Cond.fieldLink RX0 12 "TurnedBoards$Board" "letters" "LTurnedBoards$Letters;", Cond.fieldLink RX0 18 "TurnedBoards$Board" "signs" "[I", Cond.fieldLink RX0 22 "TurnedBoards$Board" "coats" "[I", Cond.fieldLink RX0 25 "TurnedBoards$Board" "uprightWord" "[I", Cond.fieldLink RX0 28 "TurnedBoards$Board" "turnedWord" "[I", Cond.fieldLink RX0 31 "TurnedBoards$Board" "settings" "[I", Cond.fieldLink RX0 34 "TurnedBoards$Board" "places" "I", Cond.fieldLink RX0 38 "TurnedBoards$Board" "turned" "Z", Cond.fieldLink RX0 42 "TurnedBoards$Board" "stiffness" "I", Cond.fieldLink RX0 45 "TurnedBoards$Board" "day" "I", Cond.fieldLink RX0 48 "TurnedBoards$Board" "turns" "I", Cond.methodLink RX0 57 yX3_copyFrom]
def wsX2_push_r2 : List Cond := [Cond.instanceMethod yX3_copyFrom, Cond.selects RX3 yX3_copyFrom yX3_copyFrom, Cond.initialized RX3, Cond.code yX3_copyFrom cX3_copyFrom 2 none, Cond.fieldLink RX3 9 "TurnedBoards$Letters" "drawn" "[I", Cond.methodLink RX3 46 yX4_copy, Cond.static yX4_copy, Cond.initialized RX4, Cond.code yX4_copy cX4_copy 3 none, Cond.methodLink RX0 61 yX4_copy]
def wsX2_push : List Cond := .code yX2_push cX2_push 3 none :: ((wsX2_push_r1 ++ wsX2_push_r2) ++ wsX20 ++ wsX00 ++ wsX30)
def wsX2_popInto_r1 : List Cond := [Cond.fieldLink RX2 17 "TurnedBoards$History" "size" "I", Cond.fieldLink RX2 11 "TurnedBoards$History" "states" "[LTurnedBoards$Board;", Cond.methodLink RX2 25 yX0_copyFrom, Cond.instanceMethod yX0_copyFrom, Cond.selects RX0 yX0_copyFrom yX0_copyFrom, Cond.initialized RX0, Cond.code yX0_copyFrom cX0_copyFrom 2 none, Cond.fieldLink RX0 12 "TurnedBoards$Board" "letters" "LTurnedBoards$Letters;", Cond.fieldLink RX0 18 "TurnedBoards$Board" "signs" "[I", Cond.fieldLink RX0 22 "TurnedBoards$Board" "coats" "[I", Cond.fieldLink RX0 25 "TurnedBoards$Board" "uprightWord" "[I", Cond.fieldLink RX0 28 "TurnedBoards$Board" "turnedWord" "[I", Cond.fieldLink RX0 31 "TurnedBoards$Board" "settings" "[I", Cond.fieldLink RX0 34 "TurnedBoards$Board" "places" "I", Cond.fieldLink RX0 38 "TurnedBoards$Board" "turned" "Z", Cond.fieldLink RX0 42 "TurnedBoards$Board" "stiffness" "I", Cond.fieldLink RX0 45 "TurnedBoards$Board" "day" "I", Cond.fieldLink RX0 48 "TurnedBoards$Board" "turns" "I", Cond.methodLink RX0 57 yX3_copyFrom, Cond.instanceMethod yX3_copyFrom, Cond.selects RX3 yX3_copyFrom yX3_copyFrom, Cond.initialized RX3, Cond.code yX3_copyFrom cX3_copyFrom 2 none, Cond.fieldLink RX3 9 "TurnedBoards$Letters" "drawn" "[I"]
def wsX2_popInto_r2 : List Cond := [Cond.methodLink RX3 46 yX4_copy, Cond.static yX4_copy, Cond.initialized RX4, Cond.code yX4_copy cX4_copy 3 none, Cond.methodLink RX0 61 yX4_copy]
def wsX2_popInto : List Cond := .code yX2_popInto cX2_popInto 2 none :: ((wsX2_popInto_r1 ++ wsX2_popInto_r2) ++ wsX20 ++ wsX00 ++ wsX30)
def wsX3_draw : List Cond := .code yX3_draw cX3_draw 3 none :: ([.fieldLink RX3 9 "TurnedBoards$Letters" "drawn" "[I", .methodLink RX3 25 yX4_put, .static yX4_put, .initialized RX4, .code yX4_put cX4_put 3 none] ++ wsX30)
def wsX3_drawnAs : List Cond := .code yX3_drawnAs cX3_drawnAs 3 (some .int) :: ([.fieldLink RX3 9 "TurnedBoards$Letters" "drawn" "[I"] ++ wsX30)
def wsX3_asSet : List Cond := .code yX3_asSet cX3_asSet 3 (some .int) :: ([.fieldLink RX3 9 "TurnedBoards$Letters" "drawn" "[I"] ++ wsX30)
def wsX5_init : List Cond := .code yX5_init cX5_init 1 none :: ([.methodLink RX5 3 objectInit, .instanceMethod objectInit, .code objectInit ⟨#[0xb1]⟩ 1 none, .arrayClass .int, .fieldLink RX5 9 "TurnedBoards$Script" "characters" "[I", .fieldLink RX5 15 "TurnedBoards$Script" "length" "I"] ++ wsX50)
def wsX5_placeIn : List Cond := .code yX5_placeIn cX5_placeIn 1 (some .int) :: ([])
def wsX5_reasonIn : List Cond := .code yX5_reasonIn cX5_reasonIn 1 (some .int) :: ([])
def wsX5_codeOf : List Cond := .code yX5_codeOf cX5_codeOf 2 (some .int) :: ([])
def wsX5_append : List Cond := .code yX5_append cX5_append 2 none :: ([.fieldLink RX5 15 "TurnedBoards$Script" "length" "I", .fieldLink RX5 9 "TurnedBoards$Script" "characters" "[I"] ++ wsX50)
def wsX5_letterAt : List Cond := .code yX5_letterAt cX5_letterAt 3 (some .int) :: ([.fieldLink RX5 15 "TurnedBoards$Script" "length" "I", .fieldLink RX5 9 "TurnedBoards$Script" "characters" "[I", .methodLink RX5 19 yX4_at, .static yX4_at, .initialized RX4, .code yX4_at cX4_at 2 (some .int)] ++ wsX50)
def wsX5_isSlash : List Cond := .code yX5_isSlash cX5_isSlash 2 (some .boolean) :: ([.fieldLink RX5 15 "TurnedBoards$Script" "length" "I", .fieldLink RX5 9 "TurnedBoards$Script" "characters" "[I", .methodLink RX5 19 yX4_at, .static yX4_at, .initialized RX4, .code yX4_at cX4_at 2 (some .int)] ++ wsX50)
def wsX5_lettersFrom : List Cond := .code yX5_lettersFrom cX5_lettersFrom 3 (some .int) :: ([.fieldLink RX5 15 "TurnedBoards$Script" "length" "I", .methodLink RX5 25 yX5_letterAt, .instanceMethod yX5_letterAt, .selects RX5 yX5_letterAt yX5_letterAt, .initialized RX5, .code yX5_letterAt cX5_letterAt 3 (some .int), .fieldLink RX5 9 "TurnedBoards$Script" "characters" "[I", .methodLink RX5 19 yX4_at, .static yX4_at, .initialized RX4, .code yX4_at cX4_at 2 (some .int)] ++ wsX50)
def wsX5_firstLength : List Cond := .code yX5_firstLength cX5_firstLength 1 (some .int) :: ([.methodLink RX5 29 yX5_lettersFrom, .instanceMethod yX5_lettersFrom, .selects RX5 yX5_lettersFrom yX5_lettersFrom, .initialized RX5, .code yX5_lettersFrom cX5_lettersFrom 3 (some .int), .fieldLink RX5 15 "TurnedBoards$Script" "length" "I", .methodLink RX5 25 yX5_letterAt, .instanceMethod yX5_letterAt, .selects RX5 yX5_letterAt yX5_letterAt, .code yX5_letterAt cX5_letterAt 3 (some .int), .fieldLink RX5 9 "TurnedBoards$Script" "characters" "[I", .methodLink RX5 19 yX4_at, .static yX4_at, .initialized RX4, .code yX4_at cX4_at 2 (some .int)] ++ wsX50)
def wsX5_formFault_r1 : List Cond := [Cond.methodLink RX5 51 Lib.Math.min.name, Cond.static Lib.Math.min.name, Cond.initialized "java/lang/Math", Cond.code Lib.Math.min.name Lib.Math.min.code 2 (some .int), Cond.fieldLink RX5 15 "TurnedBoards$Script" "length" "I", Cond.methodLink RX5 40 yX5_firstLength, Cond.instanceMethod yX5_firstLength, Cond.selects RX5 yX5_firstLength yX5_firstLength, Cond.initialized RX5, Cond.code yX5_firstLength cX5_firstLength 1 (some .int), Cond.methodLink RX5 29 yX5_lettersFrom, Cond.instanceMethod yX5_lettersFrom, Cond.selects RX5 yX5_lettersFrom yX5_lettersFrom, Cond.code yX5_lettersFrom cX5_lettersFrom 3 (some .int), Cond.methodLink RX5 25 yX5_letterAt, Cond.instanceMethod yX5_letterAt, Cond.selects RX5 yX5_letterAt yX5_letterAt, Cond.code yX5_letterAt cX5_letterAt 3 (some .int), Cond.fieldLink RX5 9 "TurnedBoards$Script" "characters" "[I", Cond.methodLink RX5 19 yX4_at, Cond.static yX4_at, Cond.initialized RX4, Cond.code yX4_at cX4_at 2 (some .int), Cond.methodLink RX5 43 yX5_codeOf]
def wsX5_formFault_r2 : List Cond := [Cond.static yX5_codeOf, Cond.code yX5_codeOf cX5_codeOf 2 (some .int), Cond.methodLink RX5 47 yX5_isSlash, Cond.instanceMethod yX5_isSlash, Cond.selects RX5 yX5_isSlash yX5_isSlash, Cond.code yX5_isSlash cX5_isSlash 2 (some .boolean)]
def wsX5_formFault : List Cond := .code yX5_formFault cX5_formFault 4 (some .int) :: ((wsX5_formFault_r1 ++ wsX5_formFault_r2) ++ wsX50)
def wsX5_undrawnFault : List Cond := .code yX5_undrawnFault cX5_undrawnFault 4 (some .int) :: ([.fieldLink RX5 15 "TurnedBoards$Script" "length" "I", .methodLink RX5 25 yX5_letterAt, .instanceMethod yX5_letterAt, .selects RX5 yX5_letterAt yX5_letterAt, .initialized RX5, .code yX5_letterAt cX5_letterAt 3 (some .int), .fieldLink RX5 9 "TurnedBoards$Script" "characters" "[I", .methodLink RX5 19 yX4_at, .static yX4_at, .initialized RX4, .code yX4_at cX4_at 2 (some .int), .methodLink RX5 56 yX3_has, .instanceMethod yX3_has, .selects RX3 yX3_has yX3_has, .initialized RX3, .code yX3_has cX3_has 2 (some .boolean), .methodLink RX3 21 yX3_signFor, .instanceMethod yX3_signFor, .selects RX3 yX3_signFor yX3_signFor, .code yX3_signFor cX3_signFor 2 (some .int), .fieldLink RX3 9 "TurnedBoards$Letters" "drawn" "[I", .methodLink RX5 43 yX5_codeOf, .static yX5_codeOf, .code yX5_codeOf cX5_codeOf 2 (some .int)] ++ wsX50 ++ wsX30)
def wsX5_faultCode_r1 : List Cond := [Cond.methodLink RX5 32 yX5_formFault, Cond.instanceMethod yX5_formFault, Cond.selects RX5 yX5_formFault yX5_formFault, Cond.initialized RX5, Cond.code yX5_formFault cX5_formFault 4 (some .int), Cond.methodLink RX5 51 Lib.Math.min.name, Cond.static Lib.Math.min.name, Cond.initialized "java/lang/Math", Cond.code Lib.Math.min.name Lib.Math.min.code 2 (some .int), Cond.fieldLink RX5 15 "TurnedBoards$Script" "length" "I", Cond.methodLink RX5 40 yX5_firstLength, Cond.instanceMethod yX5_firstLength, Cond.selects RX5 yX5_firstLength yX5_firstLength, Cond.code yX5_firstLength cX5_firstLength 1 (some .int), Cond.methodLink RX5 29 yX5_lettersFrom, Cond.instanceMethod yX5_lettersFrom, Cond.selects RX5 yX5_lettersFrom yX5_lettersFrom, Cond.code yX5_lettersFrom cX5_lettersFrom 3 (some .int), Cond.methodLink RX5 25 yX5_letterAt, Cond.instanceMethod yX5_letterAt, Cond.selects RX5 yX5_letterAt yX5_letterAt, Cond.code yX5_letterAt cX5_letterAt 3 (some .int), Cond.fieldLink RX5 9 "TurnedBoards$Script" "characters" "[I", Cond.methodLink RX5 19 yX4_at]
def wsX5_faultCode_r2 : List Cond := [Cond.static yX4_at, Cond.initialized RX4, Cond.code yX4_at cX4_at 2 (some .int), Cond.methodLink RX5 43 yX5_codeOf, Cond.static yX5_codeOf, Cond.code yX5_codeOf cX5_codeOf 2 (some .int), Cond.methodLink RX5 47 yX5_isSlash, Cond.instanceMethod yX5_isSlash, Cond.selects RX5 yX5_isSlash yX5_isSlash, Cond.code yX5_isSlash cX5_isSlash 2 (some .boolean), Cond.methodLink RX5 36 yX5_undrawnFault, Cond.instanceMethod yX5_undrawnFault, Cond.selects RX5 yX5_undrawnFault yX5_undrawnFault, Cond.code yX5_undrawnFault cX5_undrawnFault 4 (some .int), Cond.methodLink RX5 56 yX3_has, Cond.instanceMethod yX3_has, Cond.selects RX3 yX3_has yX3_has, Cond.initialized RX3, Cond.code yX3_has cX3_has 2 (some .boolean), Cond.methodLink RX3 21 yX3_signFor, Cond.instanceMethod yX3_signFor, Cond.selects RX3 yX3_signFor yX3_signFor, Cond.code yX3_signFor cX3_signFor 2 (some .int), Cond.fieldLink RX3 9 "TurnedBoards$Letters" "drawn" "[I"]
def wsX5_faultCode : List Cond := .code yX5_faultCode cX5_faultCode 3 (some .int) :: ((wsX5_faultCode_r1 ++ wsX5_faultCode_r2) ++ wsX50 ++ wsX30)
def wsX7_init_r1 : List Cond := [Cond.methodLink RX7 1 objectInit, Cond.instanceMethod objectInit, Cond.code objectInit ⟨#[0xb1]⟩ 1 none, Cond.classLink RX7 7 RX0, Cond.instantiable RX0 11, Cond.initialized RX0, Cond.fieldLink RX7 10 "TurnedBoards" "now" "LTurnedBoards$Board;", Cond.fieldLink RX7 16 "TurnedBoards" "snapshot" "LTurnedBoards$Board;", Cond.classLink RX7 19 RX2, Cond.instantiable RX2 2, Cond.initialized RX2, Cond.fieldLink RX7 22 "TurnedBoards" "history" "LTurnedBoards$History;", Cond.classLink RX7 26 RX5, Cond.instantiable RX5 2, Cond.initialized RX5, Cond.fieldLink RX7 29 "TurnedBoards" "text" "LTurnedBoards$Script;", Cond.classLink RX7 33 RX1, Cond.instantiable RX1 7, Cond.initialized RX1, Cond.fieldLink RX7 36 "TurnedBoards" "composer" "LTurnedBoards$Composer;", Cond.fieldLink RX7 40 "TurnedBoards" "hasSnapshot" "Z", Cond.methodLink RX7 9 yX0_init, Cond.instanceMethod yX0_init, Cond.code yX0_init cX0_init 1 none]
def wsX7_init_r2 : List Cond := [Cond.methodLink RX0 3 objectInit, Cond.classLink RX0 9 RX3, Cond.instantiable RX3 1, Cond.initialized RX3, Cond.fieldLink RX0 12 "TurnedBoards$Board" "letters" "LTurnedBoards$Letters;", Cond.arrayClass .int, Cond.fieldLink RX0 18 "TurnedBoards$Board" "signs" "[I", Cond.fieldLink RX0 22 "TurnedBoards$Board" "coats" "[I", Cond.fieldLink RX0 25 "TurnedBoards$Board" "uprightWord" "[I", Cond.fieldLink RX0 28 "TurnedBoards$Board" "turnedWord" "[I", Cond.fieldLink RX0 31 "TurnedBoards$Board" "settings" "[I", Cond.fieldLink RX0 34 "TurnedBoards$Board" "places" "I", Cond.fieldLink RX0 38 "TurnedBoards$Board" "turned" "Z", Cond.fieldLink RX0 42 "TurnedBoards$Board" "stiffness" "I", Cond.fieldLink RX0 45 "TurnedBoards$Board" "day" "I", Cond.fieldLink RX0 48 "TurnedBoards$Board" "turns" "I", Cond.methodLink RX0 11 yX3_init, Cond.instanceMethod yX3_init, Cond.code yX3_init cX3_init 1 none, Cond.methodLink RX3 3 objectInit, Cond.fieldLink RX3 9 "TurnedBoards$Letters" "drawn" "[I", Cond.methodLink RX3 15 yX4_fill, Cond.static yX4_fill, Cond.initialized RX4]
def wsX7_init_r3 : List Cond := [Cond.code yX4_fill cX4_fill 3 none, Cond.methodLink RX0 51 yX4_put, Cond.static yX4_put, Cond.code yX4_put cX4_put 3 none, Cond.methodLink RX7 21 yX2_init, Cond.instanceMethod yX2_init, Cond.code yX2_init cX2_init 2 none, Cond.methodLink RX2 3 objectInit, Cond.classLink RX2 9 RX0, Cond.fieldLink RX2 11 "TurnedBoards$History" "states" "[LTurnedBoards$Board;", Cond.fieldLink RX2 17 "TurnedBoards$History" "size" "I", Cond.methodLink RX2 21 yX0_init, Cond.instanceMethod yX5_init, Cond.code yX5_init cX5_init 1 none, Cond.methodLink RX5 3 objectInit, Cond.fieldLink RX5 9 "TurnedBoards$Script" "characters" "[I", Cond.fieldLink RX5 15 "TurnedBoards$Script" "length" "I", Cond.instanceMethod yX1_init, Cond.code yX1_init cX1_init 1 none, Cond.methodLink RX1 3 objectInit]
def wsX7_init : List Cond := .code yX7_init cX7_init 1 none :: ((wsX7_init_r1 ++ (wsX7_init_r2 ++ wsX7_init_r3)) ++ wsX00 ++ wsX70 ++ wsX20 ++ wsX50 ++ wsX10 ++ wsX30)
def wsX7_isLetter : List Cond := .code yX7_isLetter cX7_isLetter 1 (some .boolean) :: ([])
def wsX7_isSign : List Cond := .code yX7_isSign cX7_isSign 1 (some .boolean) :: ([.constant RX7 262 (32768)])
def wsX7_letter_r1 : List Cond := [Cond.fieldLink RX7 10 "TurnedBoards" "now" "LTurnedBoards$Board;", Cond.fieldLink RX7 22 "TurnedBoards" "history" "LTurnedBoards$History;", Cond.methodLink RX7 44 yX7_isLetter, Cond.static yX7_isLetter, Cond.initialized RX7, Cond.code yX7_isLetter cX7_isLetter 1 (some .boolean), Cond.methodLink RX7 48 yX7_isSign, Cond.static yX7_isSign, Cond.code yX7_isSign cX7_isSign 1 (some .boolean), Cond.constant RX7 262 (32768), Cond.methodLink RX7 55 yX3_drawnAs, Cond.instanceMethod yX3_drawnAs, Cond.selects RX3 yX3_drawnAs yX3_drawnAs, Cond.initialized RX3, Cond.code yX3_drawnAs cX3_drawnAs 3 (some .int), Cond.fieldLink RX3 9 "TurnedBoards$Letters" "drawn" "[I", Cond.methodLink RX7 61 yX2_push, Cond.instanceMethod yX2_push, Cond.selects RX2 yX2_push yX2_push, Cond.initialized RX2, Cond.code yX2_push cX2_push 3 none, Cond.fieldLink RX2 17 "TurnedBoards$History" "size" "I", Cond.fieldLink RX2 11 "TurnedBoards$History" "states" "[LTurnedBoards$Board;", Cond.methodLink RX2 22 yX2_moveOldestToEnd]
def wsX7_letter_r2 : List Cond := [Cond.instanceMethod yX2_moveOldestToEnd, Cond.selects RX2 yX2_moveOldestToEnd yX2_moveOldestToEnd, Cond.code yX2_moveOldestToEnd cX2_moveOldestToEnd 3 none, Cond.methodLink RX2 25 yX0_copyFrom, Cond.instanceMethod yX0_copyFrom, Cond.selects RX0 yX0_copyFrom yX0_copyFrom, Cond.initialized RX0, Cond.code yX0_copyFrom cX0_copyFrom 2 none, Cond.fieldLink RX0 12 "TurnedBoards$Board" "letters" "LTurnedBoards$Letters;", Cond.fieldLink RX0 18 "TurnedBoards$Board" "signs" "[I", Cond.fieldLink RX0 22 "TurnedBoards$Board" "coats" "[I", Cond.fieldLink RX0 25 "TurnedBoards$Board" "uprightWord" "[I", Cond.fieldLink RX0 28 "TurnedBoards$Board" "turnedWord" "[I", Cond.fieldLink RX0 31 "TurnedBoards$Board" "settings" "[I", Cond.fieldLink RX0 34 "TurnedBoards$Board" "places" "I", Cond.fieldLink RX0 38 "TurnedBoards$Board" "turned" "Z", Cond.fieldLink RX0 42 "TurnedBoards$Board" "stiffness" "I", Cond.fieldLink RX0 45 "TurnedBoards$Board" "day" "I", Cond.fieldLink RX0 48 "TurnedBoards$Board" "turns" "I", Cond.methodLink RX0 57 yX3_copyFrom, Cond.instanceMethod yX3_copyFrom, Cond.selects RX3 yX3_copyFrom yX3_copyFrom, Cond.code yX3_copyFrom cX3_copyFrom 2 none, Cond.methodLink RX3 46 yX4_copy]
def wsX7_letter_r3 : List Cond := [Cond.static yX4_copy, Cond.initialized RX4, Cond.code yX4_copy cX4_copy 3 none, Cond.methodLink RX0 61 yX4_copy, Cond.methodLink RX7 65 yX3_signFor, Cond.instanceMethod yX3_signFor, Cond.selects RX3 yX3_signFor yX3_signFor, Cond.code yX3_signFor cX3_signFor 2 (some .int), Cond.methodLink RX7 68 yX3_draw, Cond.instanceMethod yX3_draw, Cond.selects RX3 yX3_draw yX3_draw, Cond.code yX3_draw cX3_draw 3 none, Cond.methodLink RX3 25 yX4_put, Cond.static yX4_put, Cond.code yX4_put cX4_put 3 none]
def wsX7_letter : List Cond := .code yX7_letter cX7_letter 5 (some .int) :: ((wsX7_letter_r1 ++ (wsX7_letter_r2 ++ wsX7_letter_r3)) ++ wsX70 ++ wsX00 ++ wsX30 ++ wsX20)
def wsX7_sign_r1 : List Cond := [Cond.fieldLink RX7 10 "TurnedBoards" "now" "LTurnedBoards$Board;", Cond.fieldLink RX7 22 "TurnedBoards" "history" "LTurnedBoards$History;", Cond.methodLink RX7 72 yX0_hasPlace, Cond.instanceMethod yX0_hasPlace, Cond.selects RX0 yX0_hasPlace yX0_hasPlace, Cond.initialized RX0, Cond.code yX0_hasPlace cX0_hasPlace 2 (some .boolean), Cond.fieldLink RX0 34 "TurnedBoards$Board" "places" "I", Cond.methodLink RX7 48 yX7_isSign, Cond.static yX7_isSign, Cond.initialized RX7, Cond.code yX7_isSign cX7_isSign 1 (some .boolean), Cond.constant RX7 262 (32768), Cond.methodLink RX7 61 yX2_push, Cond.instanceMethod yX2_push, Cond.selects RX2 yX2_push yX2_push, Cond.initialized RX2, Cond.code yX2_push cX2_push 3 none, Cond.fieldLink RX2 17 "TurnedBoards$History" "size" "I", Cond.fieldLink RX2 11 "TurnedBoards$History" "states" "[LTurnedBoards$Board;", Cond.methodLink RX2 22 yX2_moveOldestToEnd, Cond.instanceMethod yX2_moveOldestToEnd, Cond.selects RX2 yX2_moveOldestToEnd yX2_moveOldestToEnd, Cond.code yX2_moveOldestToEnd cX2_moveOldestToEnd 3 none]
def wsX7_sign_r2 : List Cond := [Cond.methodLink RX2 25 yX0_copyFrom, Cond.instanceMethod yX0_copyFrom, Cond.selects RX0 yX0_copyFrom yX0_copyFrom, Cond.code yX0_copyFrom cX0_copyFrom 2 none, Cond.fieldLink RX0 12 "TurnedBoards$Board" "letters" "LTurnedBoards$Letters;", Cond.fieldLink RX0 18 "TurnedBoards$Board" "signs" "[I", Cond.fieldLink RX0 22 "TurnedBoards$Board" "coats" "[I", Cond.fieldLink RX0 25 "TurnedBoards$Board" "uprightWord" "[I", Cond.fieldLink RX0 28 "TurnedBoards$Board" "turnedWord" "[I", Cond.fieldLink RX0 31 "TurnedBoards$Board" "settings" "[I", Cond.fieldLink RX0 38 "TurnedBoards$Board" "turned" "Z", Cond.fieldLink RX0 42 "TurnedBoards$Board" "stiffness" "I", Cond.fieldLink RX0 45 "TurnedBoards$Board" "day" "I", Cond.fieldLink RX0 48 "TurnedBoards$Board" "turns" "I", Cond.methodLink RX0 57 yX3_copyFrom, Cond.instanceMethod yX3_copyFrom, Cond.selects RX3 yX3_copyFrom yX3_copyFrom, Cond.initialized RX3, Cond.code yX3_copyFrom cX3_copyFrom 2 none, Cond.fieldLink RX3 9 "TurnedBoards$Letters" "drawn" "[I", Cond.methodLink RX3 46 yX4_copy, Cond.static yX4_copy, Cond.initialized RX4, Cond.code yX4_copy cX4_copy 3 none]
def wsX7_sign_r3 : List Cond := [Cond.methodLink RX0 61 yX4_copy, Cond.methodLink RX7 75 yX0_signAt, Cond.instanceMethod yX0_signAt, Cond.selects RX0 yX0_signAt yX0_signAt, Cond.code yX0_signAt cX0_signAt 2 (some .int), Cond.methodLink RX0 69 yX4_at, Cond.static yX4_at, Cond.code yX4_at cX4_at 2 (some .int), Cond.methodLink RX7 78 yX0_hang, Cond.instanceMethod yX0_hang, Cond.selects RX0 yX0_hang yX0_hang, Cond.code yX0_hang cX0_hang 3 none, Cond.methodLink RX0 51 yX4_put, Cond.static yX4_put, Cond.code yX4_put cX4_put 3 none, Cond.methodLink RX0 73 yX0_setting, Cond.instanceMethod yX0_setting, Cond.selects RX0 yX0_setting yX0_setting, Cond.code yX0_setting cX0_setting 2 (some .int), Cond.methodLink RX0 77 yX0_coat, Cond.instanceMethod yX0_coat, Cond.selects RX0 yX0_coat yX0_coat, Cond.code yX0_coat cX0_coat 3 none]
def wsX7_sign : List Cond := .code yX7_sign cX7_sign 4 (some .int) :: ((wsX7_sign_r1 ++ (wsX7_sign_r2 ++ wsX7_sign_r3)) ++ wsX70 ++ wsX00 ++ wsX20 ++ wsX30)
def wsX7_findFor_r1 : List Cond := [Cond.fieldLink RX7 36 "TurnedBoards" "composer" "LTurnedBoards$Composer;", Cond.fieldLink RX7 10 "TurnedBoards" "now" "LTurnedBoards$Board;", Cond.methodLink RX7 155 yX0_wantedAt, Cond.instanceMethod yX0_wantedAt, Cond.selects RX0 yX0_wantedAt yX0_wantedAt, Cond.initialized RX0, Cond.code yX0_wantedAt cX0_wantedAt 3 (some .int), Cond.methodLink RX0 87 yX0_fromLeft, Cond.instanceMethod yX0_fromLeft, Cond.selects RX0 yX0_fromLeft yX0_fromLeft, Cond.code yX0_fromLeft cX0_fromLeft 3 (some .int), Cond.fieldLink RX0 34 "TurnedBoards$Board" "places" "I", Cond.methodLink RX0 90 yX0_letterIn, Cond.instanceMethod yX0_letterIn, Cond.selects RX0 yX0_letterIn yX0_letterIn, Cond.code yX0_letterIn cX0_letterIn 3 (some .int), Cond.fieldLink RX0 25 "TurnedBoards$Board" "uprightWord" "[I", Cond.fieldLink RX0 28 "TurnedBoards$Board" "turnedWord" "[I", Cond.methodLink RX0 69 yX4_at, Cond.static yX4_at, Cond.initialized RX4, Cond.code yX4_at cX4_at 2 (some .int), Cond.methodLink RX7 201 yX1_find, Cond.instanceMethod yX1_find]
def wsX7_findFor_r2 : List Cond := [Cond.selects RX1 yX1_find yX1_find, Cond.initialized RX1, Cond.code yX1_find cX1_find 4 (some .boolean), Cond.fieldLink RX1 9 "TurnedBoards$Composer" "best" "I", Cond.fieldLink RX1 15 "TurnedBoards$Composer" "bestLesser" "I", Cond.fieldLink RX1 24 "TurnedBoards$Composer" "letters" "LTurnedBoards$Letters;", Cond.fieldLink RX1 28 "TurnedBoards$Composer" "one" "I", Cond.fieldLink RX1 31 "TurnedBoards$Composer" "other" "I", Cond.fieldLink RX1 38 "TurnedBoards$Composer" "oneUpright" "I", Cond.fieldLink RX1 46 "TurnedBoards$Composer" "otherTurned" "I", Cond.methodLink RX1 18 yX3_has, Cond.instanceMethod yX3_has, Cond.selects RX3 yX3_has yX3_has, Cond.initialized RX3, Cond.code yX3_has cX3_has 2 (some .boolean), Cond.methodLink RX3 21 yX3_signFor, Cond.instanceMethod yX3_signFor, Cond.selects RX3 yX3_signFor yX3_signFor, Cond.code yX3_signFor cX3_signFor 2 (some .int), Cond.fieldLink RX3 9 "TurnedBoards$Letters" "drawn" "[I", Cond.methodLink RX1 34 yX3_signFor, Cond.methodLink RX1 41 yX6_turn, Cond.static yX6_turn, Cond.initialized RX6]
def wsX7_findFor_r3 : List Cond := [Cond.code yX6_turn cX6_turn 2 (some .int), Cond.methodLink RX1 49 yX1_settle, Cond.instanceMethod yX1_settle, Cond.selects RX1 yX1_settle yX1_settle, Cond.code yX1_settle cX1_settle 5 none, Cond.methodLink RX1 57 Lib.Math.min.name, Cond.static Lib.Math.min.name, Cond.initialized "java/lang/Math", Cond.code Lib.Math.min.name Lib.Math.min.code 2 (some .int), Cond.methodLink RX1 53 yX3_leadOf, Cond.instanceMethod yX3_leadOf, Cond.selects RX3 yX3_leadOf yX3_leadOf, Cond.code yX3_leadOf cX3_leadOf 4 (some .int), Cond.methodLink RX3 40 yX3_marginOf, Cond.instanceMethod yX3_marginOf, Cond.selects RX3 yX3_marginOf yX3_marginOf, Cond.code yX3_marginOf cX3_marginOf 5 (some .int), Cond.methodLink RX3 34 Lib.Math.min.name, Cond.methodLink RX3 29 yJ6_bitCount_0f7a4, Cond.static yJ6_bitCount_0f7a4, Cond.initialized RJ6, Cond.code yJ6_bitCount_0f7a4 cJ6_bitCount_0f7a4 1 (some .int), Cond.constant RJ6 265 (1431655765), Cond.constant RJ6 266 (858993459)]
def wsX7_findFor_r4 : List Cond := [Cond.constant RJ6 267 (252645135), Cond.methodLink RX3 43 yX3_nearest, Cond.instanceMethod yX3_nearest, Cond.selects RX3 yX3_nearest yX3_nearest, Cond.code yX3_nearest cX3_nearest 7 (some .int), Cond.methodLink RX1 62 yX1_settleAs, Cond.instanceMethod yX1_settleAs, Cond.selects RX1 yX1_settleAs yX1_settleAs, Cond.code yX1_settleAs cX1_settleAs 4 none]
def wsX7_findFor : List Cond := .code yX7_findFor cX7_findFor 2 (some .boolean) :: ((wsX7_findFor_r1 ++ (wsX7_findFor_r2 ++ (wsX7_findFor_r3 ++ wsX7_findFor_r4))) ++ wsX70 ++ wsX00 ++ wsX10 ++ wsX30)
def wsX7_compose_r1 : List Cond := [Cond.fieldLink RX7 10 "TurnedBoards" "now" "LTurnedBoards$Board;", Cond.fieldLink RX7 22 "TurnedBoards" "history" "LTurnedBoards$History;", Cond.fieldLink RX7 36 "TurnedBoards" "composer" "LTurnedBoards$Composer;", Cond.methodLink RX7 72 yX0_hasPlace, Cond.instanceMethod yX0_hasPlace, Cond.selects RX0 yX0_hasPlace yX0_hasPlace, Cond.initialized RX0, Cond.code yX0_hasPlace cX0_hasPlace 2 (some .boolean), Cond.fieldLink RX0 34 "TurnedBoards$Board" "places" "I", Cond.methodLink RX7 81 yX7_findFor, Cond.instanceMethod yX7_findFor, Cond.selects RX7 yX7_findFor yX7_findFor, Cond.initialized RX7, Cond.code yX7_findFor cX7_findFor 2 (some .boolean), Cond.methodLink RX7 155 yX0_wantedAt, Cond.instanceMethod yX0_wantedAt, Cond.selects RX0 yX0_wantedAt yX0_wantedAt, Cond.code yX0_wantedAt cX0_wantedAt 3 (some .int), Cond.methodLink RX0 87 yX0_fromLeft, Cond.instanceMethod yX0_fromLeft, Cond.selects RX0 yX0_fromLeft yX0_fromLeft, Cond.code yX0_fromLeft cX0_fromLeft 3 (some .int), Cond.methodLink RX0 90 yX0_letterIn, Cond.instanceMethod yX0_letterIn]
def wsX7_compose_r2 : List Cond := [Cond.selects RX0 yX0_letterIn yX0_letterIn, Cond.code yX0_letterIn cX0_letterIn 3 (some .int), Cond.fieldLink RX0 25 "TurnedBoards$Board" "uprightWord" "[I", Cond.fieldLink RX0 28 "TurnedBoards$Board" "turnedWord" "[I", Cond.methodLink RX0 69 yX4_at, Cond.static yX4_at, Cond.initialized RX4, Cond.code yX4_at cX4_at 2 (some .int), Cond.methodLink RX7 201 yX1_find, Cond.instanceMethod yX1_find, Cond.selects RX1 yX1_find yX1_find, Cond.initialized RX1, Cond.code yX1_find cX1_find 4 (some .boolean), Cond.fieldLink RX1 9 "TurnedBoards$Composer" "best" "I", Cond.fieldLink RX1 15 "TurnedBoards$Composer" "bestLesser" "I", Cond.fieldLink RX1 24 "TurnedBoards$Composer" "letters" "LTurnedBoards$Letters;", Cond.fieldLink RX1 28 "TurnedBoards$Composer" "one" "I", Cond.fieldLink RX1 31 "TurnedBoards$Composer" "other" "I", Cond.fieldLink RX1 38 "TurnedBoards$Composer" "oneUpright" "I", Cond.fieldLink RX1 46 "TurnedBoards$Composer" "otherTurned" "I", Cond.methodLink RX1 18 yX3_has, Cond.instanceMethod yX3_has, Cond.selects RX3 yX3_has yX3_has, Cond.initialized RX3]
def wsX7_compose_r3 : List Cond := [Cond.code yX3_has cX3_has 2 (some .boolean), Cond.methodLink RX3 21 yX3_signFor, Cond.instanceMethod yX3_signFor, Cond.selects RX3 yX3_signFor yX3_signFor, Cond.code yX3_signFor cX3_signFor 2 (some .int), Cond.fieldLink RX3 9 "TurnedBoards$Letters" "drawn" "[I", Cond.methodLink RX1 34 yX3_signFor, Cond.methodLink RX1 41 yX6_turn, Cond.static yX6_turn, Cond.initialized RX6, Cond.code yX6_turn cX6_turn 2 (some .int), Cond.methodLink RX1 49 yX1_settle, Cond.instanceMethod yX1_settle, Cond.selects RX1 yX1_settle yX1_settle, Cond.code yX1_settle cX1_settle 5 none, Cond.methodLink RX1 57 Lib.Math.min.name, Cond.static Lib.Math.min.name, Cond.initialized "java/lang/Math", Cond.code Lib.Math.min.name Lib.Math.min.code 2 (some .int), Cond.methodLink RX1 53 yX3_leadOf, Cond.instanceMethod yX3_leadOf, Cond.selects RX3 yX3_leadOf yX3_leadOf, Cond.code yX3_leadOf cX3_leadOf 4 (some .int), Cond.methodLink RX3 40 yX3_marginOf]
def wsX7_compose_r4 : List Cond := [Cond.instanceMethod yX3_marginOf, Cond.selects RX3 yX3_marginOf yX3_marginOf, Cond.code yX3_marginOf cX3_marginOf 5 (some .int), Cond.methodLink RX3 34 Lib.Math.min.name, Cond.methodLink RX3 29 yJ6_bitCount_0f7a4, Cond.static yJ6_bitCount_0f7a4, Cond.initialized RJ6, Cond.code yJ6_bitCount_0f7a4 cJ6_bitCount_0f7a4 1 (some .int), Cond.constant RJ6 265 (1431655765), Cond.constant RJ6 266 (858993459), Cond.constant RJ6 267 (252645135), Cond.methodLink RX3 43 yX3_nearest, Cond.instanceMethod yX3_nearest, Cond.selects RX3 yX3_nearest yX3_nearest, Cond.code yX3_nearest cX3_nearest 7 (some .int), Cond.methodLink RX1 62 yX1_settleAs, Cond.instanceMethod yX1_settleAs, Cond.selects RX1 yX1_settleAs yX1_settleAs, Cond.code yX1_settleAs cX1_settleAs 4 none, Cond.methodLink RX7 61 yX2_push, Cond.instanceMethod yX2_push, Cond.selects RX2 yX2_push yX2_push, Cond.initialized RX2, Cond.code yX2_push cX2_push 3 none]
def wsX7_compose_r5 : List Cond := [Cond.fieldLink RX2 17 "TurnedBoards$History" "size" "I", Cond.fieldLink RX2 11 "TurnedBoards$History" "states" "[LTurnedBoards$Board;", Cond.methodLink RX2 22 yX2_moveOldestToEnd, Cond.instanceMethod yX2_moveOldestToEnd, Cond.selects RX2 yX2_moveOldestToEnd yX2_moveOldestToEnd, Cond.code yX2_moveOldestToEnd cX2_moveOldestToEnd 3 none, Cond.methodLink RX2 25 yX0_copyFrom, Cond.instanceMethod yX0_copyFrom, Cond.selects RX0 yX0_copyFrom yX0_copyFrom, Cond.code yX0_copyFrom cX0_copyFrom 2 none, Cond.fieldLink RX0 12 "TurnedBoards$Board" "letters" "LTurnedBoards$Letters;", Cond.fieldLink RX0 18 "TurnedBoards$Board" "signs" "[I", Cond.fieldLink RX0 22 "TurnedBoards$Board" "coats" "[I", Cond.fieldLink RX0 31 "TurnedBoards$Board" "settings" "[I", Cond.fieldLink RX0 38 "TurnedBoards$Board" "turned" "Z", Cond.fieldLink RX0 42 "TurnedBoards$Board" "stiffness" "I", Cond.fieldLink RX0 45 "TurnedBoards$Board" "day" "I", Cond.fieldLink RX0 48 "TurnedBoards$Board" "turns" "I", Cond.methodLink RX0 57 yX3_copyFrom, Cond.instanceMethod yX3_copyFrom, Cond.selects RX3 yX3_copyFrom yX3_copyFrom, Cond.code yX3_copyFrom cX3_copyFrom 2 none, Cond.methodLink RX3 46 yX4_copy, Cond.static yX4_copy]
def wsX7_compose_r6 : List Cond := [Cond.code yX4_copy cX4_copy 3 none, Cond.methodLink RX0 61 yX4_copy, Cond.methodLink RX7 78 yX0_hang, Cond.instanceMethod yX0_hang, Cond.selects RX0 yX0_hang yX0_hang, Cond.code yX0_hang cX0_hang 3 none, Cond.methodLink RX0 51 yX4_put, Cond.static yX4_put, Cond.code yX4_put cX4_put 3 none, Cond.methodLink RX0 73 yX0_setting, Cond.instanceMethod yX0_setting, Cond.selects RX0 yX0_setting yX0_setting, Cond.code yX0_setting cX0_setting 2 (some .int), Cond.methodLink RX0 77 yX0_coat, Cond.instanceMethod yX0_coat, Cond.selects RX0 yX0_coat yX0_coat, Cond.code yX0_coat cX0_coat 3 none]
def wsX7_compose : List Cond := .code yX7_compose cX7_compose 2 (some .int) :: ((wsX7_compose_r1 ++ (wsX7_compose_r2 ++ (wsX7_compose_r3 ++ (wsX7_compose_r4 ++ (wsX7_compose_r5 ++ wsX7_compose_r6))))) ++ wsX70 ++ wsX10 ++ wsX00 ++ wsX30 ++ wsX20)
def wsX7_composeAll_r1 : List Cond := [Cond.fieldLink RX7 10 "TurnedBoards" "now" "LTurnedBoards$Board;", Cond.fieldLink RX7 22 "TurnedBoards" "history" "LTurnedBoards$History;", Cond.fieldLink RX7 36 "TurnedBoards" "composer" "LTurnedBoards$Composer;", Cond.methodLink RX7 61 yX2_push, Cond.instanceMethod yX2_push, Cond.selects RX2 yX2_push yX2_push, Cond.initialized RX2, Cond.code yX2_push cX2_push 3 none, Cond.fieldLink RX2 17 "TurnedBoards$History" "size" "I", Cond.fieldLink RX2 11 "TurnedBoards$History" "states" "[LTurnedBoards$Board;", Cond.methodLink RX2 22 yX2_moveOldestToEnd, Cond.instanceMethod yX2_moveOldestToEnd, Cond.selects RX2 yX2_moveOldestToEnd yX2_moveOldestToEnd, Cond.code yX2_moveOldestToEnd cX2_moveOldestToEnd 3 none, Cond.methodLink RX2 25 yX0_copyFrom, Cond.instanceMethod yX0_copyFrom, Cond.selects RX0 yX0_copyFrom yX0_copyFrom, Cond.initialized RX0, Cond.code yX0_copyFrom cX0_copyFrom 2 none, Cond.fieldLink RX0 12 "TurnedBoards$Board" "letters" "LTurnedBoards$Letters;", Cond.fieldLink RX0 18 "TurnedBoards$Board" "signs" "[I", Cond.fieldLink RX0 22 "TurnedBoards$Board" "coats" "[I", Cond.fieldLink RX0 25 "TurnedBoards$Board" "uprightWord" "[I", Cond.fieldLink RX0 28 "TurnedBoards$Board" "turnedWord" "[I"]
def wsX7_composeAll_r2 : List Cond := [Cond.fieldLink RX0 31 "TurnedBoards$Board" "settings" "[I", Cond.fieldLink RX0 34 "TurnedBoards$Board" "places" "I", Cond.fieldLink RX0 38 "TurnedBoards$Board" "turned" "Z", Cond.fieldLink RX0 42 "TurnedBoards$Board" "stiffness" "I", Cond.fieldLink RX0 45 "TurnedBoards$Board" "day" "I", Cond.fieldLink RX0 48 "TurnedBoards$Board" "turns" "I", Cond.methodLink RX0 57 yX3_copyFrom, Cond.instanceMethod yX3_copyFrom, Cond.selects RX3 yX3_copyFrom yX3_copyFrom, Cond.initialized RX3, Cond.code yX3_copyFrom cX3_copyFrom 2 none, Cond.fieldLink RX3 9 "TurnedBoards$Letters" "drawn" "[I", Cond.methodLink RX3 46 yX4_copy, Cond.static yX4_copy, Cond.initialized RX4, Cond.code yX4_copy cX4_copy 3 none, Cond.methodLink RX0 61 yX4_copy, Cond.methodLink RX7 81 yX7_findFor, Cond.instanceMethod yX7_findFor, Cond.selects RX7 yX7_findFor yX7_findFor, Cond.initialized RX7, Cond.code yX7_findFor cX7_findFor 2 (some .boolean), Cond.methodLink RX7 155 yX0_wantedAt, Cond.instanceMethod yX0_wantedAt]
def wsX7_composeAll_r3 : List Cond := [Cond.selects RX0 yX0_wantedAt yX0_wantedAt, Cond.code yX0_wantedAt cX0_wantedAt 3 (some .int), Cond.methodLink RX0 87 yX0_fromLeft, Cond.instanceMethod yX0_fromLeft, Cond.selects RX0 yX0_fromLeft yX0_fromLeft, Cond.code yX0_fromLeft cX0_fromLeft 3 (some .int), Cond.methodLink RX0 90 yX0_letterIn, Cond.instanceMethod yX0_letterIn, Cond.selects RX0 yX0_letterIn yX0_letterIn, Cond.code yX0_letterIn cX0_letterIn 3 (some .int), Cond.methodLink RX0 69 yX4_at, Cond.static yX4_at, Cond.code yX4_at cX4_at 2 (some .int), Cond.methodLink RX7 201 yX1_find, Cond.instanceMethod yX1_find, Cond.selects RX1 yX1_find yX1_find, Cond.initialized RX1, Cond.code yX1_find cX1_find 4 (some .boolean), Cond.fieldLink RX1 9 "TurnedBoards$Composer" "best" "I", Cond.fieldLink RX1 15 "TurnedBoards$Composer" "bestLesser" "I", Cond.fieldLink RX1 24 "TurnedBoards$Composer" "letters" "LTurnedBoards$Letters;", Cond.fieldLink RX1 28 "TurnedBoards$Composer" "one" "I", Cond.fieldLink RX1 31 "TurnedBoards$Composer" "other" "I", Cond.fieldLink RX1 38 "TurnedBoards$Composer" "oneUpright" "I"]
def wsX7_composeAll_r4 : List Cond := [Cond.fieldLink RX1 46 "TurnedBoards$Composer" "otherTurned" "I", Cond.methodLink RX1 18 yX3_has, Cond.instanceMethod yX3_has, Cond.selects RX3 yX3_has yX3_has, Cond.code yX3_has cX3_has 2 (some .boolean), Cond.methodLink RX3 21 yX3_signFor, Cond.instanceMethod yX3_signFor, Cond.selects RX3 yX3_signFor yX3_signFor, Cond.code yX3_signFor cX3_signFor 2 (some .int), Cond.methodLink RX1 34 yX3_signFor, Cond.methodLink RX1 41 yX6_turn, Cond.static yX6_turn, Cond.initialized RX6, Cond.code yX6_turn cX6_turn 2 (some .int), Cond.methodLink RX1 49 yX1_settle, Cond.instanceMethod yX1_settle, Cond.selects RX1 yX1_settle yX1_settle, Cond.code yX1_settle cX1_settle 5 none, Cond.methodLink RX1 57 Lib.Math.min.name, Cond.static Lib.Math.min.name, Cond.initialized "java/lang/Math", Cond.code Lib.Math.min.name Lib.Math.min.code 2 (some .int), Cond.methodLink RX1 53 yX3_leadOf, Cond.instanceMethod yX3_leadOf]
def wsX7_composeAll_r5 : List Cond := [Cond.selects RX3 yX3_leadOf yX3_leadOf, Cond.code yX3_leadOf cX3_leadOf 4 (some .int), Cond.methodLink RX3 40 yX3_marginOf, Cond.instanceMethod yX3_marginOf, Cond.selects RX3 yX3_marginOf yX3_marginOf, Cond.code yX3_marginOf cX3_marginOf 5 (some .int), Cond.methodLink RX3 34 Lib.Math.min.name, Cond.methodLink RX3 29 yJ6_bitCount_0f7a4, Cond.static yJ6_bitCount_0f7a4, Cond.initialized RJ6, Cond.code yJ6_bitCount_0f7a4 cJ6_bitCount_0f7a4 1 (some .int), Cond.constant RJ6 265 (1431655765), Cond.constant RJ6 266 (858993459), Cond.constant RJ6 267 (252645135), Cond.methodLink RX3 43 yX3_nearest, Cond.instanceMethod yX3_nearest, Cond.selects RX3 yX3_nearest yX3_nearest, Cond.code yX3_nearest cX3_nearest 7 (some .int), Cond.methodLink RX1 62 yX1_settleAs, Cond.instanceMethod yX1_settleAs, Cond.selects RX1 yX1_settleAs yX1_settleAs, Cond.code yX1_settleAs cX1_settleAs 4 none, Cond.methodLink RX7 78 yX0_hang, Cond.instanceMethod yX0_hang]
def wsX7_composeAll_r6 : List Cond := [Cond.selects RX0 yX0_hang yX0_hang, Cond.code yX0_hang cX0_hang 3 none, Cond.methodLink RX0 51 yX4_put, Cond.static yX4_put, Cond.code yX4_put cX4_put 3 none, Cond.methodLink RX0 73 yX0_setting, Cond.instanceMethod yX0_setting, Cond.selects RX0 yX0_setting yX0_setting, Cond.code yX0_setting cX0_setting 2 (some .int), Cond.methodLink RX0 77 yX0_coat, Cond.instanceMethod yX0_coat, Cond.selects RX0 yX0_coat yX0_coat, Cond.code yX0_coat cX0_coat 3 none]
def wsX7_composeAll : List Cond := .code yX7_composeAll cX7_composeAll 3 (some .int) :: ((wsX7_composeAll_r1 ++ (wsX7_composeAll_r2 ++ (wsX7_composeAll_r3 ++ (wsX7_composeAll_r4 ++ (wsX7_composeAll_r5 ++ wsX7_composeAll_r6))))) ++ wsX70 ++ wsX00 ++ wsX10 ++ wsX20 ++ wsX30)
def wsX7_paint_r1 : List Cond := [Cond.fieldLink RX7 10 "TurnedBoards" "now" "LTurnedBoards$Board;", Cond.fieldLink RX7 22 "TurnedBoards" "history" "LTurnedBoards$History;", Cond.methodLink RX7 72 yX0_hasPlace, Cond.instanceMethod yX0_hasPlace, Cond.selects RX0 yX0_hasPlace yX0_hasPlace, Cond.initialized RX0, Cond.code yX0_hasPlace cX0_hasPlace 2 (some .boolean), Cond.fieldLink RX0 34 "TurnedBoards$Board" "places" "I", Cond.methodLink RX7 91 yX0_coatsAt, Cond.instanceMethod yX0_coatsAt, Cond.selects RX0 yX0_coatsAt yX0_coatsAt, Cond.code yX0_coatsAt cX0_coatsAt 2 (some .int), Cond.fieldLink RX0 22 "TurnedBoards$Board" "coats" "[I", Cond.methodLink RX0 69 yX4_at, Cond.static yX4_at, Cond.initialized RX4, Cond.code yX4_at cX4_at 2 (some .int), Cond.methodLink RX7 61 yX2_push, Cond.instanceMethod yX2_push, Cond.selects RX2 yX2_push yX2_push, Cond.initialized RX2, Cond.code yX2_push cX2_push 3 none, Cond.fieldLink RX2 17 "TurnedBoards$History" "size" "I", Cond.fieldLink RX2 11 "TurnedBoards$History" "states" "[LTurnedBoards$Board;"]
def wsX7_paint_r2 : List Cond := [Cond.methodLink RX2 22 yX2_moveOldestToEnd, Cond.instanceMethod yX2_moveOldestToEnd, Cond.selects RX2 yX2_moveOldestToEnd yX2_moveOldestToEnd, Cond.code yX2_moveOldestToEnd cX2_moveOldestToEnd 3 none, Cond.methodLink RX2 25 yX0_copyFrom, Cond.instanceMethod yX0_copyFrom, Cond.selects RX0 yX0_copyFrom yX0_copyFrom, Cond.code yX0_copyFrom cX0_copyFrom 2 none, Cond.fieldLink RX0 12 "TurnedBoards$Board" "letters" "LTurnedBoards$Letters;", Cond.fieldLink RX0 18 "TurnedBoards$Board" "signs" "[I", Cond.fieldLink RX0 25 "TurnedBoards$Board" "uprightWord" "[I", Cond.fieldLink RX0 28 "TurnedBoards$Board" "turnedWord" "[I", Cond.fieldLink RX0 31 "TurnedBoards$Board" "settings" "[I", Cond.fieldLink RX0 38 "TurnedBoards$Board" "turned" "Z", Cond.fieldLink RX0 42 "TurnedBoards$Board" "stiffness" "I", Cond.fieldLink RX0 45 "TurnedBoards$Board" "day" "I", Cond.fieldLink RX0 48 "TurnedBoards$Board" "turns" "I", Cond.methodLink RX0 57 yX3_copyFrom, Cond.instanceMethod yX3_copyFrom, Cond.selects RX3 yX3_copyFrom yX3_copyFrom, Cond.initialized RX3, Cond.code yX3_copyFrom cX3_copyFrom 2 none, Cond.fieldLink RX3 9 "TurnedBoards$Letters" "drawn" "[I", Cond.methodLink RX3 46 yX4_copy]
def wsX7_paint_r3 : List Cond := [Cond.static yX4_copy, Cond.code yX4_copy cX4_copy 3 none, Cond.methodLink RX0 61 yX4_copy, Cond.methodLink RX7 94 yX0_coat, Cond.instanceMethod yX0_coat, Cond.selects RX0 yX0_coat yX0_coat, Cond.code yX0_coat cX0_coat 3 none, Cond.methodLink RX0 51 yX4_put, Cond.static yX4_put, Cond.code yX4_put cX4_put 3 none]
def wsX7_paint : List Cond := .code yX7_paint cX7_paint 3 (some .int) :: ((wsX7_paint_r1 ++ (wsX7_paint_r2 ++ wsX7_paint_r3)) ++ wsX70 ++ wsX00 ++ wsX20 ++ wsX30)
def wsX7_isForce : List Cond := .code yX7_isForce cX7_isForce 1 (some .boolean) :: ([])
def wsX7_gust_r1 : List Cond := [Cond.fieldLink RX7 22 "TurnedBoards" "history" "LTurnedBoards$History;", Cond.fieldLink RX7 10 "TurnedBoards" "now" "LTurnedBoards$Board;", Cond.methodLink RX7 97 yX7_isForce, Cond.static yX7_isForce, Cond.initialized RX7, Cond.code yX7_isForce cX7_isForce 1 (some .boolean), Cond.methodLink RX7 61 yX2_push, Cond.instanceMethod yX2_push, Cond.selects RX2 yX2_push yX2_push, Cond.initialized RX2, Cond.code yX2_push cX2_push 3 none, Cond.fieldLink RX2 17 "TurnedBoards$History" "size" "I", Cond.fieldLink RX2 11 "TurnedBoards$History" "states" "[LTurnedBoards$Board;", Cond.methodLink RX2 22 yX2_moveOldestToEnd, Cond.instanceMethod yX2_moveOldestToEnd, Cond.selects RX2 yX2_moveOldestToEnd yX2_moveOldestToEnd, Cond.code yX2_moveOldestToEnd cX2_moveOldestToEnd 3 none, Cond.methodLink RX2 25 yX0_copyFrom, Cond.instanceMethod yX0_copyFrom, Cond.selects RX0 yX0_copyFrom yX0_copyFrom, Cond.initialized RX0, Cond.code yX0_copyFrom cX0_copyFrom 2 none, Cond.fieldLink RX0 12 "TurnedBoards$Board" "letters" "LTurnedBoards$Letters;", Cond.fieldLink RX0 18 "TurnedBoards$Board" "signs" "[I"]
def wsX7_gust_r2 : List Cond := [Cond.fieldLink RX0 22 "TurnedBoards$Board" "coats" "[I", Cond.fieldLink RX0 25 "TurnedBoards$Board" "uprightWord" "[I", Cond.fieldLink RX0 28 "TurnedBoards$Board" "turnedWord" "[I", Cond.fieldLink RX0 31 "TurnedBoards$Board" "settings" "[I", Cond.fieldLink RX0 34 "TurnedBoards$Board" "places" "I", Cond.fieldLink RX0 38 "TurnedBoards$Board" "turned" "Z", Cond.fieldLink RX0 42 "TurnedBoards$Board" "stiffness" "I", Cond.fieldLink RX0 45 "TurnedBoards$Board" "day" "I", Cond.fieldLink RX0 48 "TurnedBoards$Board" "turns" "I", Cond.methodLink RX0 57 yX3_copyFrom, Cond.instanceMethod yX3_copyFrom, Cond.selects RX3 yX3_copyFrom yX3_copyFrom, Cond.initialized RX3, Cond.code yX3_copyFrom cX3_copyFrom 2 none, Cond.fieldLink RX3 9 "TurnedBoards$Letters" "drawn" "[I", Cond.methodLink RX3 46 yX4_copy, Cond.static yX4_copy, Cond.initialized RX4, Cond.code yX4_copy cX4_copy 3 none, Cond.methodLink RX0 61 yX4_copy, Cond.methodLink RX7 103 yX0_turnRound, Cond.instanceMethod yX0_turnRound, Cond.selects RX0 yX0_turnRound yX0_turnRound, Cond.code yX0_turnRound cX0_turnRound 1 none]
def wsX7_gust_r3 : List Cond := [Cond.methodLink RX0 81 Lib.Math.max.name, Cond.static Lib.Math.max.name, Cond.initialized "java/lang/Math", Cond.code Lib.Math.max.name Lib.Math.max.code 2 (some .int)]
def wsX7_gust : List Cond := .code yX7_gust cX7_gust 2 (some .int) :: ((wsX7_gust_r1 ++ (wsX7_gust_r2 ++ wsX7_gust_r3)) ++ wsX70 ++ wsX00 ++ wsX20 ++ wsX30)
def wsX7_oil_r1 : List Cond := [Cond.fieldLink RX7 22 "TurnedBoards" "history" "LTurnedBoards$History;", Cond.fieldLink RX7 10 "TurnedBoards" "now" "LTurnedBoards$Board;", Cond.methodLink RX7 97 yX7_isForce, Cond.static yX7_isForce, Cond.initialized RX7, Cond.code yX7_isForce cX7_isForce 1 (some .boolean), Cond.methodLink RX7 61 yX2_push, Cond.instanceMethod yX2_push, Cond.selects RX2 yX2_push yX2_push, Cond.initialized RX2, Cond.code yX2_push cX2_push 3 none, Cond.fieldLink RX2 17 "TurnedBoards$History" "size" "I", Cond.fieldLink RX2 11 "TurnedBoards$History" "states" "[LTurnedBoards$Board;", Cond.methodLink RX2 22 yX2_moveOldestToEnd, Cond.instanceMethod yX2_moveOldestToEnd, Cond.selects RX2 yX2_moveOldestToEnd yX2_moveOldestToEnd, Cond.code yX2_moveOldestToEnd cX2_moveOldestToEnd 3 none, Cond.methodLink RX2 25 yX0_copyFrom, Cond.instanceMethod yX0_copyFrom, Cond.selects RX0 yX0_copyFrom yX0_copyFrom, Cond.initialized RX0, Cond.code yX0_copyFrom cX0_copyFrom 2 none, Cond.fieldLink RX0 12 "TurnedBoards$Board" "letters" "LTurnedBoards$Letters;", Cond.fieldLink RX0 18 "TurnedBoards$Board" "signs" "[I"]
def wsX7_oil_r2 : List Cond := [Cond.fieldLink RX0 22 "TurnedBoards$Board" "coats" "[I", Cond.fieldLink RX0 25 "TurnedBoards$Board" "uprightWord" "[I", Cond.fieldLink RX0 28 "TurnedBoards$Board" "turnedWord" "[I", Cond.fieldLink RX0 31 "TurnedBoards$Board" "settings" "[I", Cond.fieldLink RX0 34 "TurnedBoards$Board" "places" "I", Cond.fieldLink RX0 38 "TurnedBoards$Board" "turned" "Z", Cond.fieldLink RX0 42 "TurnedBoards$Board" "stiffness" "I", Cond.fieldLink RX0 45 "TurnedBoards$Board" "day" "I", Cond.fieldLink RX0 48 "TurnedBoards$Board" "turns" "I", Cond.methodLink RX0 57 yX3_copyFrom, Cond.instanceMethod yX3_copyFrom, Cond.selects RX3 yX3_copyFrom yX3_copyFrom, Cond.initialized RX3, Cond.code yX3_copyFrom cX3_copyFrom 2 none, Cond.fieldLink RX3 9 "TurnedBoards$Letters" "drawn" "[I", Cond.methodLink RX3 46 yX4_copy, Cond.static yX4_copy, Cond.initialized RX4, Cond.code yX4_copy cX4_copy 3 none, Cond.methodLink RX0 61 yX4_copy]
def wsX7_oil : List Cond := .code yX7_oil cX7_oil 3 (some .int) :: ((wsX7_oil_r1 ++ wsX7_oil_r2) ++ wsX70 ++ wsX00 ++ wsX20 ++ wsX30)
def wsX7_pass_r1 : List Cond := [Cond.fieldLink RX7 10 "TurnedBoards" "now" "LTurnedBoards$Board;", Cond.fieldLink RX7 22 "TurnedBoards" "history" "LTurnedBoards$History;", Cond.methodLink RX7 61 yX2_push, Cond.instanceMethod yX2_push, Cond.selects RX2 yX2_push yX2_push, Cond.initialized RX2, Cond.code yX2_push cX2_push 3 none, Cond.fieldLink RX2 17 "TurnedBoards$History" "size" "I", Cond.fieldLink RX2 11 "TurnedBoards$History" "states" "[LTurnedBoards$Board;", Cond.methodLink RX2 22 yX2_moveOldestToEnd, Cond.instanceMethod yX2_moveOldestToEnd, Cond.selects RX2 yX2_moveOldestToEnd yX2_moveOldestToEnd, Cond.code yX2_moveOldestToEnd cX2_moveOldestToEnd 3 none, Cond.methodLink RX2 25 yX0_copyFrom, Cond.instanceMethod yX0_copyFrom, Cond.selects RX0 yX0_copyFrom yX0_copyFrom, Cond.initialized RX0, Cond.code yX0_copyFrom cX0_copyFrom 2 none, Cond.fieldLink RX0 12 "TurnedBoards$Board" "letters" "LTurnedBoards$Letters;", Cond.fieldLink RX0 18 "TurnedBoards$Board" "signs" "[I", Cond.fieldLink RX0 22 "TurnedBoards$Board" "coats" "[I", Cond.fieldLink RX0 25 "TurnedBoards$Board" "uprightWord" "[I", Cond.fieldLink RX0 28 "TurnedBoards$Board" "turnedWord" "[I", Cond.fieldLink RX0 31 "TurnedBoards$Board" "settings" "[I"]
def wsX7_pass_r2 : List Cond := [Cond.fieldLink RX0 34 "TurnedBoards$Board" "places" "I", Cond.fieldLink RX0 38 "TurnedBoards$Board" "turned" "Z", Cond.fieldLink RX0 42 "TurnedBoards$Board" "stiffness" "I", Cond.fieldLink RX0 45 "TurnedBoards$Board" "day" "I", Cond.fieldLink RX0 48 "TurnedBoards$Board" "turns" "I", Cond.methodLink RX0 57 yX3_copyFrom, Cond.instanceMethod yX3_copyFrom, Cond.selects RX3 yX3_copyFrom yX3_copyFrom, Cond.initialized RX3, Cond.code yX3_copyFrom cX3_copyFrom 2 none, Cond.fieldLink RX3 9 "TurnedBoards$Letters" "drawn" "[I", Cond.methodLink RX3 46 yX4_copy, Cond.static yX4_copy, Cond.initialized RX4, Cond.code yX4_copy cX4_copy 3 none, Cond.methodLink RX0 61 yX4_copy, Cond.methodLink RX7 109 yX0_fadeOneDay, Cond.instanceMethod yX0_fadeOneDay, Cond.selects RX0 yX0_fadeOneDay yX0_fadeOneDay, Cond.code yX0_fadeOneDay cX0_fadeOneDay 3 (some .int), Cond.methodLink RX0 123 yX0_fades, Cond.instanceMethod yX0_fades, Cond.selects RX0 yX0_fades yX0_fades, Cond.code yX0_fades cX0_fades 2 (some .boolean)]
def wsX7_pass_r3 : List Cond := [Cond.methodLink RX0 93 yX0_coatsAt, Cond.instanceMethod yX0_coatsAt, Cond.selects RX0 yX0_coatsAt yX0_coatsAt, Cond.code yX0_coatsAt cX0_coatsAt 2 (some .int), Cond.methodLink RX0 69 yX4_at, Cond.static yX4_at, Cond.code yX4_at cX4_at 2 (some .int), Cond.methodLink RX0 96 yX0_signAt, Cond.instanceMethod yX0_signAt, Cond.selects RX0 yX0_signAt yX0_signAt, Cond.code yX0_signAt cX0_signAt 2 (some .int), Cond.methodLink RX0 116 yX0_way, Cond.instanceMethod yX0_way, Cond.selects RX0 yX0_way yX0_way, Cond.code yX0_way cX0_way 1 (some .int), Cond.methodLink RX0 120 yX6_darkInUpperRows, Cond.static yX6_darkInUpperRows, Cond.initialized RX6, Cond.code yX6_darkInUpperRows cX6_darkInUpperRows 2 (some .int), Cond.methodLink RX6 15 yJ6_bitCount_0f7a4, Cond.static yJ6_bitCount_0f7a4, Cond.initialized RJ6, Cond.code yJ6_bitCount_0f7a4 cJ6_bitCount_0f7a4 1 (some .int), Cond.constant RJ6 265 (1431655765)]
def wsX7_pass_r4 : List Cond := [Cond.constant RJ6 266 (858993459), Cond.constant RJ6 267 (252645135), Cond.methodLink RX0 73 yX0_setting, Cond.instanceMethod yX0_setting, Cond.selects RX0 yX0_setting yX0_setting, Cond.code yX0_setting cX0_setting 2 (some .int), Cond.methodLink RX0 77 yX0_coat, Cond.instanceMethod yX0_coat, Cond.selects RX0 yX0_coat yX0_coat, Cond.code yX0_coat cX0_coat 3 none, Cond.methodLink RX0 51 yX4_put, Cond.static yX4_put, Cond.code yX4_put cX4_put 3 none]
def wsX7_pass : List Cond := .code yX7_pass cX7_pass 4 (some .int) :: ((wsX7_pass_r1 ++ (wsX7_pass_r2 ++ (wsX7_pass_r3 ++ wsX7_pass_r4))) ++ wsX70 ++ wsX00 ++ wsX20 ++ wsX30)
def wsX7_isOneOfTwo : List Cond := .code yX7_isOneOfTwo cX7_isOneOfTwo 1 (some .boolean) :: ([])
def wsX7_set_r1 : List Cond := [Cond.fieldLink RX7 22 "TurnedBoards" "history" "LTurnedBoards$History;", Cond.fieldLink RX7 10 "TurnedBoards" "now" "LTurnedBoards$Board;", Cond.methodLink RX7 113 yX7_isOneOfTwo, Cond.static yX7_isOneOfTwo, Cond.initialized RX7, Cond.code yX7_isOneOfTwo cX7_isOneOfTwo 1 (some .boolean), Cond.methodLink RX7 61 yX2_push, Cond.instanceMethod yX2_push, Cond.selects RX2 yX2_push yX2_push, Cond.initialized RX2, Cond.code yX2_push cX2_push 3 none, Cond.fieldLink RX2 17 "TurnedBoards$History" "size" "I", Cond.fieldLink RX2 11 "TurnedBoards$History" "states" "[LTurnedBoards$Board;", Cond.methodLink RX2 22 yX2_moveOldestToEnd, Cond.instanceMethod yX2_moveOldestToEnd, Cond.selects RX2 yX2_moveOldestToEnd yX2_moveOldestToEnd, Cond.code yX2_moveOldestToEnd cX2_moveOldestToEnd 3 none, Cond.methodLink RX2 25 yX0_copyFrom, Cond.instanceMethod yX0_copyFrom, Cond.selects RX0 yX0_copyFrom yX0_copyFrom, Cond.initialized RX0, Cond.code yX0_copyFrom cX0_copyFrom 2 none, Cond.fieldLink RX0 12 "TurnedBoards$Board" "letters" "LTurnedBoards$Letters;", Cond.fieldLink RX0 18 "TurnedBoards$Board" "signs" "[I"]
def wsX7_set_r2 : List Cond := [Cond.fieldLink RX0 22 "TurnedBoards$Board" "coats" "[I", Cond.fieldLink RX0 25 "TurnedBoards$Board" "uprightWord" "[I", Cond.fieldLink RX0 28 "TurnedBoards$Board" "turnedWord" "[I", Cond.fieldLink RX0 31 "TurnedBoards$Board" "settings" "[I", Cond.fieldLink RX0 34 "TurnedBoards$Board" "places" "I", Cond.fieldLink RX0 38 "TurnedBoards$Board" "turned" "Z", Cond.fieldLink RX0 42 "TurnedBoards$Board" "stiffness" "I", Cond.fieldLink RX0 45 "TurnedBoards$Board" "day" "I", Cond.fieldLink RX0 48 "TurnedBoards$Board" "turns" "I", Cond.methodLink RX0 57 yX3_copyFrom, Cond.instanceMethod yX3_copyFrom, Cond.selects RX3 yX3_copyFrom yX3_copyFrom, Cond.initialized RX3, Cond.code yX3_copyFrom cX3_copyFrom 2 none, Cond.fieldLink RX3 9 "TurnedBoards$Letters" "drawn" "[I", Cond.methodLink RX3 46 yX4_copy, Cond.static yX4_copy, Cond.initialized RX4, Cond.code yX4_copy cX4_copy 3 none, Cond.methodLink RX0 61 yX4_copy, Cond.methodLink RX7 116 yX0_setting, Cond.instanceMethod yX0_setting, Cond.selects RX0 yX0_setting yX0_setting, Cond.code yX0_setting cX0_setting 2 (some .int)]
def wsX7_set_r3 : List Cond := [Cond.methodLink RX0 69 yX4_at, Cond.static yX4_at, Cond.code yX4_at cX4_at 2 (some .int), Cond.methodLink RX7 123 yX4_put, Cond.static yX4_put, Cond.code yX4_put cX4_put 3 none]
def wsX7_set : List Cond := .code yX7_set cX7_set 4 (some .int) :: ((wsX7_set_r1 ++ (wsX7_set_r2 ++ wsX7_set_r3)) ++ wsX70 ++ wsX00 ++ wsX20 ++ wsX30)
def wsX7_foundOrNot : List Cond := .code yX7_foundOrNot cX7_foundOrNot 1 (some .int) :: ([])
def wsX7_letterOf_r1 : List Cond := [Cond.fieldLink RX7 10 "TurnedBoards" "now" "LTurnedBoards$Board;", Cond.methodLink RX7 44 yX7_isLetter, Cond.static yX7_isLetter, Cond.initialized RX7, Cond.code yX7_isLetter cX7_isLetter 1 (some .boolean), Cond.methodLink RX7 129 yX0_timesWanted, Cond.instanceMethod yX0_timesWanted, Cond.selects RX0 yX0_timesWanted yX0_timesWanted, Cond.initialized RX0, Cond.code yX0_timesWanted cX0_timesWanted 4 (some .int), Cond.fieldLink RX0 34 "TurnedBoards$Board" "places" "I", Cond.methodLink RX0 90 yX0_letterIn, Cond.instanceMethod yX0_letterIn, Cond.selects RX0 yX0_letterIn yX0_letterIn, Cond.code yX0_letterIn cX0_letterIn 3 (some .int), Cond.fieldLink RX0 25 "TurnedBoards$Board" "uprightWord" "[I", Cond.fieldLink RX0 28 "TurnedBoards$Board" "turnedWord" "[I", Cond.methodLink RX0 69 yX4_at, Cond.static yX4_at, Cond.initialized RX4, Cond.code yX4_at cX4_at 2 (some .int), Cond.methodLink RX7 132 yX3_has, Cond.instanceMethod yX3_has, Cond.selects RX3 yX3_has yX3_has]
def wsX7_letterOf_r2 : List Cond := [Cond.initialized RX3, Cond.code yX3_has cX3_has 2 (some .boolean), Cond.methodLink RX3 21 yX3_signFor, Cond.instanceMethod yX3_signFor, Cond.selects RX3 yX3_signFor yX3_signFor, Cond.code yX3_signFor cX3_signFor 2 (some .int), Cond.fieldLink RX3 9 "TurnedBoards$Letters" "drawn" "[I", Cond.methodLink RX7 65 yX3_signFor, Cond.methodLink RX7 135 yX6_turn, Cond.static yX6_turn, Cond.initialized RX6, Cond.code yX6_turn cX6_turn 2 (some .int), Cond.methodLink RX7 140 yJ6_bitCount_0f7a4, Cond.static yJ6_bitCount_0f7a4, Cond.initialized RJ6, Cond.code yJ6_bitCount_0f7a4 cJ6_bitCount_0f7a4 1 (some .int), Cond.constant RJ6 265 (1431655765), Cond.constant RJ6 266 (858993459), Cond.constant RJ6 267 (252645135), Cond.methodLink RX7 145 yX3_nearest, Cond.instanceMethod yX3_nearest, Cond.selects RX3 yX3_nearest yX3_nearest, Cond.code yX3_nearest cX3_nearest 7 (some .int), Cond.methodLink RX3 29 yJ6_bitCount_0f7a4]
def wsX7_letterOf_r3 : List Cond := [Cond.methodLink RX7 149 yX7_foundOrNot, Cond.static yX7_foundOrNot, Cond.code yX7_foundOrNot cX7_foundOrNot 1 (some .int)]
def wsX7_letterOf : List Cond := .code yX7_letterOf cX7_letterOf 4 (some .int) :: ((wsX7_letterOf_r1 ++ (wsX7_letterOf_r2 ++ wsX7_letterOf_r3)) ++ wsX70 ++ wsX00 ++ wsX30)
def wsX7_marginOrNot_r1 : List Cond := [Cond.fieldLink RX7 10 "TurnedBoards" "now" "LTurnedBoards$Board;", Cond.methodLink RX7 155 yX0_wantedAt, Cond.instanceMethod yX0_wantedAt, Cond.selects RX0 yX0_wantedAt yX0_wantedAt, Cond.initialized RX0, Cond.code yX0_wantedAt cX0_wantedAt 3 (some .int), Cond.methodLink RX0 87 yX0_fromLeft, Cond.instanceMethod yX0_fromLeft, Cond.selects RX0 yX0_fromLeft yX0_fromLeft, Cond.code yX0_fromLeft cX0_fromLeft 3 (some .int), Cond.fieldLink RX0 34 "TurnedBoards$Board" "places" "I", Cond.methodLink RX0 90 yX0_letterIn, Cond.instanceMethod yX0_letterIn, Cond.selects RX0 yX0_letterIn yX0_letterIn, Cond.code yX0_letterIn cX0_letterIn 3 (some .int), Cond.fieldLink RX0 25 "TurnedBoards$Board" "uprightWord" "[I", Cond.fieldLink RX0 28 "TurnedBoards$Board" "turnedWord" "[I", Cond.methodLink RX0 69 yX4_at, Cond.static yX4_at, Cond.initialized RX4, Cond.code yX4_at cX4_at 2 (some .int), Cond.methodLink RX7 132 yX3_has, Cond.instanceMethod yX3_has, Cond.selects RX3 yX3_has yX3_has]
def wsX7_marginOrNot_r2 : List Cond := [Cond.initialized RX3, Cond.code yX3_has cX3_has 2 (some .boolean), Cond.methodLink RX3 21 yX3_signFor, Cond.instanceMethod yX3_signFor, Cond.selects RX3 yX3_signFor yX3_signFor, Cond.code yX3_signFor cX3_signFor 2 (some .int), Cond.fieldLink RX3 9 "TurnedBoards$Letters" "drawn" "[I", Cond.methodLink RX7 259 yX0_marginAt, Cond.instanceMethod yX0_marginAt, Cond.selects RX0 yX0_marginAt yX0_marginAt, Cond.code yX0_marginAt cX0_marginAt 3 (some .int), Cond.fieldLink RX0 12 "TurnedBoards$Board" "letters" "LTurnedBoards$Letters;", Cond.methodLink RX0 96 yX0_signAt, Cond.instanceMethod yX0_signAt, Cond.selects RX0 yX0_signAt yX0_signAt, Cond.code yX0_signAt cX0_signAt 2 (some .int), Cond.fieldLink RX0 18 "TurnedBoards$Board" "signs" "[I", Cond.methodLink RX0 99 yX6_seen, Cond.static yX6_seen, Cond.initialized RX6, Cond.code yX6_seen cX6_seen 2 (some .int), Cond.methodLink RX6 9 yX6_turn, Cond.static yX6_turn, Cond.code yX6_turn cX6_turn 2 (some .int)]
def wsX7_marginOrNot_r3 : List Cond := [Cond.methodLink RX0 107 yX0_wantedAt, Cond.methodLink RX0 110 yX3_marginOf, Cond.instanceMethod yX3_marginOf, Cond.selects RX3 yX3_marginOf yX3_marginOf, Cond.code yX3_marginOf cX3_marginOf 5 (some .int), Cond.methodLink RX3 34 Lib.Math.min.name, Cond.static Lib.Math.min.name, Cond.initialized "java/lang/Math", Cond.code Lib.Math.min.name Lib.Math.min.code 2 (some .int), Cond.methodLink RX3 29 yJ6_bitCount_0f7a4, Cond.static yJ6_bitCount_0f7a4, Cond.initialized RJ6, Cond.code yJ6_bitCount_0f7a4 cJ6_bitCount_0f7a4 1 (some .int), Cond.constant RJ6 265 (1431655765), Cond.constant RJ6 266 (858993459), Cond.constant RJ6 267 (252645135)]
def wsX7_marginOrNot : List Cond := .code yX7_marginOrNot cX7_marginOrNot 3 (some .int) :: ((wsX7_marginOrNot_r1 ++ (wsX7_marginOrNot_r2 ++ wsX7_marginOrNot_r3)) ++ wsX70 ++ wsX00 ++ wsX30)
def wsX7_placeOf_r1 : List Cond := [Cond.fieldLink RX7 10 "TurnedBoards" "now" "LTurnedBoards$Board;", Cond.methodLink RX7 72 yX0_hasPlace, Cond.instanceMethod yX0_hasPlace, Cond.selects RX0 yX0_hasPlace yX0_hasPlace, Cond.initialized RX0, Cond.code yX0_hasPlace cX0_hasPlace 2 (some .boolean), Cond.fieldLink RX0 34 "TurnedBoards$Board" "places" "I", Cond.methodLink RX7 75 yX0_signAt, Cond.instanceMethod yX0_signAt, Cond.selects RX0 yX0_signAt yX0_signAt, Cond.code yX0_signAt cX0_signAt 2 (some .int), Cond.fieldLink RX0 18 "TurnedBoards$Board" "signs" "[I", Cond.methodLink RX0 69 yX4_at, Cond.static yX4_at, Cond.initialized RX4, Cond.code yX4_at cX4_at 2 (some .int), Cond.methodLink RX7 91 yX0_coatsAt, Cond.instanceMethod yX0_coatsAt, Cond.selects RX0 yX0_coatsAt yX0_coatsAt, Cond.code yX0_coatsAt cX0_coatsAt 2 (some .int), Cond.fieldLink RX0 22 "TurnedBoards$Board" "coats" "[I", Cond.methodLink RX7 152 yX0_readAt, Cond.instanceMethod yX0_readAt, Cond.selects RX0 yX0_readAt yX0_readAt]
def wsX7_placeOf_r2 : List Cond := [Cond.code yX0_readAt cX0_readAt 3 (some .int), Cond.fieldLink RX0 12 "TurnedBoards$Board" "letters" "LTurnedBoards$Letters;", Cond.methodLink RX0 93 yX0_coatsAt, Cond.methodLink RX0 96 yX0_signAt, Cond.methodLink RX0 99 yX6_seen, Cond.static yX6_seen, Cond.initialized RX6, Cond.code yX6_seen cX6_seen 2 (some .int), Cond.methodLink RX6 9 yX6_turn, Cond.static yX6_turn, Cond.code yX6_turn cX6_turn 2 (some .int), Cond.methodLink RX0 104 yX3_nearest, Cond.instanceMethod yX3_nearest, Cond.selects RX3 yX3_nearest yX3_nearest, Cond.initialized RX3, Cond.code yX3_nearest cX3_nearest 7 (some .int), Cond.fieldLink RX3 9 "TurnedBoards$Letters" "drawn" "[I", Cond.methodLink RX3 29 yJ6_bitCount_0f7a4, Cond.static yJ6_bitCount_0f7a4, Cond.initialized RJ6, Cond.code yJ6_bitCount_0f7a4 cJ6_bitCount_0f7a4 1 (some .int), Cond.constant RJ6 265 (1431655765), Cond.constant RJ6 266 (858993459), Cond.constant RJ6 267 (252645135)]
def wsX7_placeOf_r3 : List Cond := [Cond.methodLink RX7 149 yX7_foundOrNot, Cond.static yX7_foundOrNot, Cond.initialized RX7, Cond.code yX7_foundOrNot cX7_foundOrNot 1 (some .int), Cond.methodLink RX7 155 yX0_wantedAt, Cond.instanceMethod yX0_wantedAt, Cond.selects RX0 yX0_wantedAt yX0_wantedAt, Cond.code yX0_wantedAt cX0_wantedAt 3 (some .int), Cond.methodLink RX0 87 yX0_fromLeft, Cond.instanceMethod yX0_fromLeft, Cond.selects RX0 yX0_fromLeft yX0_fromLeft, Cond.code yX0_fromLeft cX0_fromLeft 3 (some .int), Cond.methodLink RX0 90 yX0_letterIn, Cond.instanceMethod yX0_letterIn, Cond.selects RX0 yX0_letterIn yX0_letterIn, Cond.code yX0_letterIn cX0_letterIn 3 (some .int), Cond.fieldLink RX0 25 "TurnedBoards$Board" "uprightWord" "[I", Cond.fieldLink RX0 28 "TurnedBoards$Board" "turnedWord" "[I", Cond.methodLink RX7 158 yX7_marginOrNot, Cond.instanceMethod yX7_marginOrNot, Cond.selects RX7 yX7_marginOrNot yX7_marginOrNot, Cond.code yX7_marginOrNot cX7_marginOrNot 3 (some .int), Cond.methodLink RX7 132 yX3_has, Cond.instanceMethod yX3_has]
def wsX7_placeOf_r4 : List Cond := [Cond.selects RX3 yX3_has yX3_has, Cond.code yX3_has cX3_has 2 (some .boolean), Cond.methodLink RX3 21 yX3_signFor, Cond.instanceMethod yX3_signFor, Cond.selects RX3 yX3_signFor yX3_signFor, Cond.code yX3_signFor cX3_signFor 2 (some .int), Cond.methodLink RX7 259 yX0_marginAt, Cond.instanceMethod yX0_marginAt, Cond.selects RX0 yX0_marginAt yX0_marginAt, Cond.code yX0_marginAt cX0_marginAt 3 (some .int), Cond.methodLink RX0 107 yX0_wantedAt, Cond.methodLink RX0 110 yX3_marginOf, Cond.instanceMethod yX3_marginOf, Cond.selects RX3 yX3_marginOf yX3_marginOf, Cond.code yX3_marginOf cX3_marginOf 5 (some .int), Cond.methodLink RX3 34 Lib.Math.min.name, Cond.static Lib.Math.min.name, Cond.initialized "java/lang/Math", Cond.code Lib.Math.min.name Lib.Math.min.code 2 (some .int)]
def wsX7_placeOf : List Cond := .code yX7_placeOf cX7_placeOf 3 (some .int) :: ((wsX7_placeOf_r1 ++ (wsX7_placeOf_r2 ++ (wsX7_placeOf_r3 ++ wsX7_placeOf_r4))) ++ wsX70 ++ wsX00 ++ wsX30)
def wsX7_otherWay : List Cond := .code yX7_otherWay cX7_otherWay 1 (some .int) :: ([])
def wsX7_reads_r1 : List Cond := [Cond.fieldLink RX7 10 "TurnedBoards" "now" "LTurnedBoards$Board;", Cond.methodLink RX7 113 yX7_isOneOfTwo, Cond.static yX7_isOneOfTwo, Cond.initialized RX7, Cond.code yX7_isOneOfTwo cX7_isOneOfTwo 1 (some .boolean), Cond.methodLink RX7 161 yX0_way, Cond.instanceMethod yX0_way, Cond.selects RX0 yX0_way yX0_way, Cond.initialized RX0, Cond.code yX0_way cX0_way 1 (some .int), Cond.fieldLink RX0 38 "TurnedBoards$Board" "turned" "Z", Cond.methodLink RX7 164 yX7_otherWay, Cond.static yX7_otherWay, Cond.code yX7_otherWay cX7_otherWay 1 (some .int), Cond.methodLink RX7 167 yX0_fromLeft, Cond.instanceMethod yX0_fromLeft, Cond.selects RX0 yX0_fromLeft yX0_fromLeft, Cond.code yX0_fromLeft cX0_fromLeft 3 (some .int), Cond.fieldLink RX0 34 "TurnedBoards$Board" "places" "I", Cond.methodLink RX7 152 yX0_readAt, Cond.instanceMethod yX0_readAt, Cond.selects RX0 yX0_readAt yX0_readAt, Cond.code yX0_readAt cX0_readAt 3 (some .int), Cond.fieldLink RX0 12 "TurnedBoards$Board" "letters" "LTurnedBoards$Letters;"]
def wsX7_reads_r2 : List Cond := [Cond.methodLink RX0 93 yX0_coatsAt, Cond.instanceMethod yX0_coatsAt, Cond.selects RX0 yX0_coatsAt yX0_coatsAt, Cond.code yX0_coatsAt cX0_coatsAt 2 (some .int), Cond.fieldLink RX0 22 "TurnedBoards$Board" "coats" "[I", Cond.methodLink RX0 69 yX4_at, Cond.static yX4_at, Cond.initialized RX4, Cond.code yX4_at cX4_at 2 (some .int), Cond.methodLink RX0 96 yX0_signAt, Cond.instanceMethod yX0_signAt, Cond.selects RX0 yX0_signAt yX0_signAt, Cond.code yX0_signAt cX0_signAt 2 (some .int), Cond.fieldLink RX0 18 "TurnedBoards$Board" "signs" "[I", Cond.methodLink RX0 99 yX6_seen, Cond.static yX6_seen, Cond.initialized RX6, Cond.code yX6_seen cX6_seen 2 (some .int), Cond.methodLink RX6 9 yX6_turn, Cond.static yX6_turn, Cond.code yX6_turn cX6_turn 2 (some .int), Cond.methodLink RX0 104 yX3_nearest, Cond.instanceMethod yX3_nearest, Cond.selects RX3 yX3_nearest yX3_nearest]
def wsX7_reads_r3 : List Cond := [Cond.initialized RX3, Cond.code yX3_nearest cX3_nearest 7 (some .int), Cond.fieldLink RX3 9 "TurnedBoards$Letters" "drawn" "[I", Cond.methodLink RX3 29 yJ6_bitCount_0f7a4, Cond.static yJ6_bitCount_0f7a4, Cond.initialized RJ6, Cond.code yJ6_bitCount_0f7a4 cJ6_bitCount_0f7a4 1 (some .int), Cond.constant RJ6 265 (1431655765), Cond.constant RJ6 266 (858993459), Cond.constant RJ6 267 (252645135), Cond.methodLink RX7 149 yX7_foundOrNot, Cond.static yX7_foundOrNot, Cond.code yX7_foundOrNot cX7_foundOrNot 1 (some .int)]
def wsX7_reads : List Cond := .code yX7_reads cX7_reads 4 (some .int) :: ((wsX7_reads_r1 ++ (wsX7_reads_r2 ++ wsX7_reads_r3)) ++ wsX70 ++ wsX00 ++ wsX30)
def wsX7_asNumber : List Cond := .code yX7_asNumber cX7_asNumber 1 (some .int) :: ([])
def wsX7_word_r1 : List Cond := [Cond.fieldLink RX7 10 "TurnedBoards" "now" "LTurnedBoards$Board;", Cond.methodLink RX7 113 yX7_isOneOfTwo, Cond.static yX7_isOneOfTwo, Cond.initialized RX7, Cond.code yX7_isOneOfTwo cX7_isOneOfTwo 1 (some .boolean), Cond.methodLink RX7 170 yX0_misread, Cond.instanceMethod yX0_misread, Cond.selects RX0 yX0_misread yX0_misread, Cond.initialized RX0, Cond.code yX0_misread cX0_misread 4 (some .int), Cond.fieldLink RX0 34 "TurnedBoards$Board" "places" "I", Cond.methodLink RX0 113 yX0_readAt, Cond.instanceMethod yX0_readAt, Cond.selects RX0 yX0_readAt yX0_readAt, Cond.code yX0_readAt cX0_readAt 3 (some .int), Cond.fieldLink RX0 12 "TurnedBoards$Board" "letters" "LTurnedBoards$Letters;", Cond.methodLink RX0 93 yX0_coatsAt, Cond.instanceMethod yX0_coatsAt, Cond.selects RX0 yX0_coatsAt yX0_coatsAt, Cond.code yX0_coatsAt cX0_coatsAt 2 (some .int), Cond.fieldLink RX0 22 "TurnedBoards$Board" "coats" "[I", Cond.methodLink RX0 69 yX4_at, Cond.static yX4_at, Cond.initialized RX4]
def wsX7_word_r2 : List Cond := [Cond.code yX4_at cX4_at 2 (some .int), Cond.methodLink RX0 96 yX0_signAt, Cond.instanceMethod yX0_signAt, Cond.selects RX0 yX0_signAt yX0_signAt, Cond.code yX0_signAt cX0_signAt 2 (some .int), Cond.fieldLink RX0 18 "TurnedBoards$Board" "signs" "[I", Cond.methodLink RX0 99 yX6_seen, Cond.static yX6_seen, Cond.initialized RX6, Cond.code yX6_seen cX6_seen 2 (some .int), Cond.methodLink RX6 9 yX6_turn, Cond.static yX6_turn, Cond.code yX6_turn cX6_turn 2 (some .int), Cond.methodLink RX0 104 yX3_nearest, Cond.instanceMethod yX3_nearest, Cond.selects RX3 yX3_nearest yX3_nearest, Cond.initialized RX3, Cond.code yX3_nearest cX3_nearest 7 (some .int), Cond.fieldLink RX3 9 "TurnedBoards$Letters" "drawn" "[I", Cond.methodLink RX3 29 yJ6_bitCount_0f7a4, Cond.static yJ6_bitCount_0f7a4, Cond.initialized RJ6, Cond.code yJ6_bitCount_0f7a4 cJ6_bitCount_0f7a4 1 (some .int), Cond.constant RJ6 265 (1431655765)]
def wsX7_word_r3 : List Cond := [Cond.constant RJ6 266 (858993459), Cond.constant RJ6 267 (252645135), Cond.methodLink RX0 107 yX0_wantedAt, Cond.instanceMethod yX0_wantedAt, Cond.selects RX0 yX0_wantedAt yX0_wantedAt, Cond.code yX0_wantedAt cX0_wantedAt 3 (some .int), Cond.methodLink RX0 87 yX0_fromLeft, Cond.instanceMethod yX0_fromLeft, Cond.selects RX0 yX0_fromLeft yX0_fromLeft, Cond.code yX0_fromLeft cX0_fromLeft 3 (some .int), Cond.methodLink RX0 90 yX0_letterIn, Cond.instanceMethod yX0_letterIn, Cond.selects RX0 yX0_letterIn yX0_letterIn, Cond.code yX0_letterIn cX0_letterIn 3 (some .int), Cond.fieldLink RX0 25 "TurnedBoards$Board" "uprightWord" "[I", Cond.fieldLink RX0 28 "TurnedBoards$Board" "turnedWord" "[I", Cond.methodLink RX7 173 yX7_asNumber, Cond.static yX7_asNumber, Cond.code yX7_asNumber cX7_asNumber 1 (some .int), Cond.methodLink RX7 161 yX0_way, Cond.instanceMethod yX0_way, Cond.selects RX0 yX0_way yX0_way, Cond.code yX0_way cX0_way 1 (some .int), Cond.fieldLink RX0 38 "TurnedBoards$Board" "turned" "Z"]
def wsX7_word_r4 : List Cond := [Cond.methodLink RX7 177 yX0_letterIn]
def wsX7_word : List Cond := .code yX7_word cX7_word 3 (some .int) :: ((wsX7_word_r1 ++ (wsX7_word_r2 ++ (wsX7_word_r3 ++ wsX7_word_r4))) ++ wsX70 ++ wsX00 ++ wsX30)
def wsX7_count_r1 : List Cond := [Cond.fieldLink RX7 10 "TurnedBoards" "now" "LTurnedBoards$Board;", Cond.fieldLink RX7 22 "TurnedBoards" "history" "LTurnedBoards$History;", Cond.fieldLink RX7 29 "TurnedBoards" "text" "LTurnedBoards$Script;", Cond.fieldLink RX7 40 "TurnedBoards" "hasSnapshot" "Z", Cond.methodLink RX7 180 yX3_asSet, Cond.instanceMethod yX3_asSet, Cond.selects RX3 yX3_asSet yX3_asSet, Cond.initialized RX3, Cond.code yX3_asSet cX3_asSet 3 (some .int), Cond.fieldLink RX3 9 "TurnedBoards$Letters" "drawn" "[I", Cond.methodLink RX7 173 yX7_asNumber, Cond.static yX7_asNumber, Cond.initialized RX7, Cond.code yX7_asNumber cX7_asNumber 1 (some .int), Cond.methodLink RX7 189 yX0_allCoats, Cond.instanceMethod yX0_allCoats, Cond.selects RX0 yX0_allCoats yX0_allCoats, Cond.initialized RX0, Cond.code yX0_allCoats cX0_allCoats 3 (some .int), Cond.fieldLink RX0 34 "TurnedBoards$Board" "places" "I", Cond.methodLink RX0 93 yX0_coatsAt, Cond.instanceMethod yX0_coatsAt, Cond.selects RX0 yX0_coatsAt yX0_coatsAt, Cond.code yX0_coatsAt cX0_coatsAt 2 (some .int)]
def wsX7_count_r2 : List Cond := [Cond.fieldLink RX0 22 "TurnedBoards$Board" "coats" "[I", Cond.methodLink RX0 69 yX4_at, Cond.static yX4_at, Cond.initialized RX4, Cond.code yX4_at cX4_at 2 (some .int), Cond.methodLink RX7 192 yX0_placesWithCoats, Cond.instanceMethod yX0_placesWithCoats, Cond.selects RX0 yX0_placesWithCoats yX0_placesWithCoats, Cond.code yX0_placesWithCoats cX0_placesWithCoats 3 (some .int), Cond.methodLink RX7 116 yX0_setting, Cond.instanceMethod yX0_setting, Cond.selects RX0 yX0_setting yX0_setting, Cond.code yX0_setting cX0_setting 2 (some .int), Cond.fieldLink RX0 31 "TurnedBoards$Board" "settings" "[I"]
def wsX7_count : List Cond := .code yX7_count cX7_count 2 (some .int) :: ((wsX7_count_r1 ++ wsX7_count_r2) ++ wsX70 ++ wsX00 ++ wsX20 ++ wsX50 ++ wsX30)
def wsX7_composed_r1 : List Cond := [Cond.fieldLink RX7 10 "TurnedBoards" "now" "LTurnedBoards$Board;", Cond.fieldLink RX7 36 "TurnedBoards" "composer" "LTurnedBoards$Composer;", Cond.methodLink RX7 44 yX7_isLetter, Cond.static yX7_isLetter, Cond.initialized RX7, Cond.code yX7_isLetter cX7_isLetter 1 (some .boolean), Cond.methodLink RX7 132 yX3_has, Cond.instanceMethod yX3_has, Cond.selects RX3 yX3_has yX3_has, Cond.initialized RX3, Cond.code yX3_has cX3_has 2 (some .boolean), Cond.methodLink RX3 21 yX3_signFor, Cond.instanceMethod yX3_signFor, Cond.selects RX3 yX3_signFor yX3_signFor, Cond.code yX3_signFor cX3_signFor 2 (some .int), Cond.fieldLink RX3 9 "TurnedBoards$Letters" "drawn" "[I", Cond.methodLink RX7 65 yX3_signFor, Cond.methodLink RX7 135 yX6_turn, Cond.static yX6_turn, Cond.initialized RX6, Cond.code yX6_turn cX6_turn 2 (some .int), Cond.methodLink RX7 140 yJ6_bitCount_0f7a4, Cond.static yJ6_bitCount_0f7a4, Cond.initialized RJ6]
def wsX7_composed_r2 : List Cond := [Cond.code yJ6_bitCount_0f7a4 cJ6_bitCount_0f7a4 1 (some .int), Cond.constant RJ6 265 (1431655765), Cond.constant RJ6 266 (858993459), Cond.constant RJ6 267 (252645135), Cond.methodLink RX7 201 yX1_find, Cond.instanceMethod yX1_find, Cond.selects RX1 yX1_find yX1_find, Cond.initialized RX1, Cond.code yX1_find cX1_find 4 (some .boolean), Cond.fieldLink RX1 9 "TurnedBoards$Composer" "best" "I", Cond.fieldLink RX1 15 "TurnedBoards$Composer" "bestLesser" "I", Cond.fieldLink RX1 24 "TurnedBoards$Composer" "letters" "LTurnedBoards$Letters;", Cond.fieldLink RX1 28 "TurnedBoards$Composer" "one" "I", Cond.fieldLink RX1 31 "TurnedBoards$Composer" "other" "I", Cond.fieldLink RX1 38 "TurnedBoards$Composer" "oneUpright" "I", Cond.fieldLink RX1 46 "TurnedBoards$Composer" "otherTurned" "I", Cond.methodLink RX1 18 yX3_has, Cond.methodLink RX1 34 yX3_signFor, Cond.methodLink RX1 41 yX6_turn, Cond.methodLink RX1 49 yX1_settle, Cond.instanceMethod yX1_settle, Cond.selects RX1 yX1_settle yX1_settle, Cond.code yX1_settle cX1_settle 5 none, Cond.methodLink RX1 57 Lib.Math.min.name]
def wsX7_composed_r3 : List Cond := [Cond.static Lib.Math.min.name, Cond.initialized "java/lang/Math", Cond.code Lib.Math.min.name Lib.Math.min.code 2 (some .int), Cond.methodLink RX1 53 yX3_leadOf, Cond.instanceMethod yX3_leadOf, Cond.selects RX3 yX3_leadOf yX3_leadOf, Cond.code yX3_leadOf cX3_leadOf 4 (some .int), Cond.methodLink RX3 40 yX3_marginOf, Cond.instanceMethod yX3_marginOf, Cond.selects RX3 yX3_marginOf yX3_marginOf, Cond.code yX3_marginOf cX3_marginOf 5 (some .int), Cond.methodLink RX3 34 Lib.Math.min.name, Cond.methodLink RX3 29 yJ6_bitCount_0f7a4, Cond.methodLink RX3 43 yX3_nearest, Cond.instanceMethod yX3_nearest, Cond.selects RX3 yX3_nearest yX3_nearest, Cond.code yX3_nearest cX3_nearest 7 (some .int), Cond.methodLink RX1 62 yX1_settleAs, Cond.instanceMethod yX1_settleAs, Cond.selects RX1 yX1_settleAs yX1_settleAs, Cond.code yX1_settleAs cX1_settleAs 4 none]
def wsX7_composed : List Cond := .code yX7_composed cX7_composed 4 (some .int) :: ((wsX7_composed_r1 ++ (wsX7_composed_r2 ++ wsX7_composed_r3)) ++ wsX70 ++ wsX00 ++ wsX10 ++ wsX30)
def wsX7_goesWith_r1 : List Cond := [Cond.fieldLink RX7 10 "TurnedBoards" "now" "LTurnedBoards$Board;", Cond.fieldLink RX7 36 "TurnedBoards" "composer" "LTurnedBoards$Composer;", Cond.methodLink RX7 44 yX7_isLetter, Cond.static yX7_isLetter, Cond.initialized RX7, Cond.code yX7_isLetter cX7_isLetter 1 (some .boolean), Cond.methodLink RX7 132 yX3_has, Cond.instanceMethod yX3_has, Cond.selects RX3 yX3_has yX3_has, Cond.initialized RX3, Cond.code yX3_has cX3_has 2 (some .boolean), Cond.methodLink RX3 21 yX3_signFor, Cond.instanceMethod yX3_signFor, Cond.selects RX3 yX3_signFor yX3_signFor, Cond.code yX3_signFor cX3_signFor 2 (some .int), Cond.fieldLink RX3 9 "TurnedBoards$Letters" "drawn" "[I", Cond.methodLink RX7 201 yX1_find, Cond.instanceMethod yX1_find, Cond.selects RX1 yX1_find yX1_find, Cond.initialized RX1, Cond.code yX1_find cX1_find 4 (some .boolean), Cond.fieldLink RX1 9 "TurnedBoards$Composer" "best" "I", Cond.fieldLink RX1 15 "TurnedBoards$Composer" "bestLesser" "I", Cond.fieldLink RX1 24 "TurnedBoards$Composer" "letters" "LTurnedBoards$Letters;"]
def wsX7_goesWith_r2 : List Cond := [Cond.fieldLink RX1 28 "TurnedBoards$Composer" "one" "I", Cond.fieldLink RX1 31 "TurnedBoards$Composer" "other" "I", Cond.fieldLink RX1 38 "TurnedBoards$Composer" "oneUpright" "I", Cond.fieldLink RX1 46 "TurnedBoards$Composer" "otherTurned" "I", Cond.methodLink RX1 18 yX3_has, Cond.methodLink RX1 34 yX3_signFor, Cond.methodLink RX1 41 yX6_turn, Cond.static yX6_turn, Cond.initialized RX6, Cond.code yX6_turn cX6_turn 2 (some .int), Cond.methodLink RX1 49 yX1_settle, Cond.instanceMethod yX1_settle, Cond.selects RX1 yX1_settle yX1_settle, Cond.code yX1_settle cX1_settle 5 none, Cond.methodLink RX1 57 Lib.Math.min.name, Cond.static Lib.Math.min.name, Cond.initialized "java/lang/Math", Cond.code Lib.Math.min.name Lib.Math.min.code 2 (some .int), Cond.methodLink RX1 53 yX3_leadOf, Cond.instanceMethod yX3_leadOf, Cond.selects RX3 yX3_leadOf yX3_leadOf, Cond.code yX3_leadOf cX3_leadOf 4 (some .int), Cond.methodLink RX3 40 yX3_marginOf, Cond.instanceMethod yX3_marginOf]
def wsX7_goesWith_r3 : List Cond := [Cond.selects RX3 yX3_marginOf yX3_marginOf, Cond.code yX3_marginOf cX3_marginOf 5 (some .int), Cond.methodLink RX3 34 Lib.Math.min.name, Cond.methodLink RX3 29 yJ6_bitCount_0f7a4, Cond.static yJ6_bitCount_0f7a4, Cond.initialized RJ6, Cond.code yJ6_bitCount_0f7a4 cJ6_bitCount_0f7a4 1 (some .int), Cond.constant RJ6 265 (1431655765), Cond.constant RJ6 266 (858993459), Cond.constant RJ6 267 (252645135), Cond.methodLink RX3 43 yX3_nearest, Cond.instanceMethod yX3_nearest, Cond.selects RX3 yX3_nearest yX3_nearest, Cond.code yX3_nearest cX3_nearest 7 (some .int), Cond.methodLink RX1 62 yX1_settleAs, Cond.instanceMethod yX1_settleAs, Cond.selects RX1 yX1_settleAs yX1_settleAs, Cond.code yX1_settleAs cX1_settleAs 4 none, Cond.methodLink RX7 149 yX7_foundOrNot, Cond.static yX7_foundOrNot, Cond.code yX7_foundOrNot cX7_foundOrNot 1 (some .int)]
def wsX7_goesWith : List Cond := .code yX7_goesWith cX7_goesWith 5 (some .int) :: ((wsX7_goesWith_r1 ++ (wsX7_goesWith_r2 ++ wsX7_goesWith_r3)) ++ wsX70 ++ wsX00 ++ wsX10 ++ wsX30)
def wsX7_marginOrZero_r1 : List Cond := [Cond.fieldLink RX7 10 "TurnedBoards" "now" "LTurnedBoards$Board;", Cond.methodLink RX7 155 yX0_wantedAt, Cond.instanceMethod yX0_wantedAt, Cond.selects RX0 yX0_wantedAt yX0_wantedAt, Cond.initialized RX0, Cond.code yX0_wantedAt cX0_wantedAt 3 (some .int), Cond.methodLink RX0 87 yX0_fromLeft, Cond.instanceMethod yX0_fromLeft, Cond.selects RX0 yX0_fromLeft yX0_fromLeft, Cond.code yX0_fromLeft cX0_fromLeft 3 (some .int), Cond.fieldLink RX0 34 "TurnedBoards$Board" "places" "I", Cond.methodLink RX0 90 yX0_letterIn, Cond.instanceMethod yX0_letterIn, Cond.selects RX0 yX0_letterIn yX0_letterIn, Cond.code yX0_letterIn cX0_letterIn 3 (some .int), Cond.fieldLink RX0 25 "TurnedBoards$Board" "uprightWord" "[I", Cond.fieldLink RX0 28 "TurnedBoards$Board" "turnedWord" "[I", Cond.methodLink RX0 69 yX4_at, Cond.static yX4_at, Cond.initialized RX4, Cond.code yX4_at cX4_at 2 (some .int), Cond.methodLink RX7 132 yX3_has, Cond.instanceMethod yX3_has, Cond.selects RX3 yX3_has yX3_has]
def wsX7_marginOrZero_r2 : List Cond := [Cond.initialized RX3, Cond.code yX3_has cX3_has 2 (some .boolean), Cond.methodLink RX3 21 yX3_signFor, Cond.instanceMethod yX3_signFor, Cond.selects RX3 yX3_signFor yX3_signFor, Cond.code yX3_signFor cX3_signFor 2 (some .int), Cond.fieldLink RX3 9 "TurnedBoards$Letters" "drawn" "[I", Cond.methodLink RX7 259 yX0_marginAt, Cond.instanceMethod yX0_marginAt, Cond.selects RX0 yX0_marginAt yX0_marginAt, Cond.code yX0_marginAt cX0_marginAt 3 (some .int), Cond.fieldLink RX0 12 "TurnedBoards$Board" "letters" "LTurnedBoards$Letters;", Cond.methodLink RX0 96 yX0_signAt, Cond.instanceMethod yX0_signAt, Cond.selects RX0 yX0_signAt yX0_signAt, Cond.code yX0_signAt cX0_signAt 2 (some .int), Cond.fieldLink RX0 18 "TurnedBoards$Board" "signs" "[I", Cond.methodLink RX0 99 yX6_seen, Cond.static yX6_seen, Cond.initialized RX6, Cond.code yX6_seen cX6_seen 2 (some .int), Cond.methodLink RX6 9 yX6_turn, Cond.static yX6_turn, Cond.code yX6_turn cX6_turn 2 (some .int)]
def wsX7_marginOrZero_r3 : List Cond := [Cond.methodLink RX0 107 yX0_wantedAt, Cond.methodLink RX0 110 yX3_marginOf, Cond.instanceMethod yX3_marginOf, Cond.selects RX3 yX3_marginOf yX3_marginOf, Cond.code yX3_marginOf cX3_marginOf 5 (some .int), Cond.methodLink RX3 34 Lib.Math.min.name, Cond.static Lib.Math.min.name, Cond.initialized "java/lang/Math", Cond.code Lib.Math.min.name Lib.Math.min.code 2 (some .int), Cond.methodLink RX3 29 yJ6_bitCount_0f7a4, Cond.static yJ6_bitCount_0f7a4, Cond.initialized RJ6, Cond.code yJ6_bitCount_0f7a4 cJ6_bitCount_0f7a4 1 (some .int), Cond.constant RJ6 265 (1431655765), Cond.constant RJ6 266 (858993459), Cond.constant RJ6 267 (252645135)]
def wsX7_marginOrZero : List Cond := .code yX7_marginOrZero cX7_marginOrZero 3 (some .int) :: ((wsX7_marginOrZero_r1 ++ (wsX7_marginOrZero_r2 ++ wsX7_marginOrZero_r3)) ++ wsX70 ++ wsX00 ++ wsX30)
def wsX7_bitsOf : List Cond := .code yX7_bitsOf cX7_bitsOf 4 (some .int) :: ([.constantFloat RX7 263 (1258291200), .constant RX7 264 (-2147483648)])
def wsX7_quality_r1 : List Cond := [Cond.fieldLink RX7 10 "TurnedBoards" "now" "LTurnedBoards$Board;", Cond.methodLink RX7 208 yX7_marginOrZero, Cond.instanceMethod yX7_marginOrZero, Cond.selects RX7 yX7_marginOrZero yX7_marginOrZero, Cond.initialized RX7, Cond.code yX7_marginOrZero cX7_marginOrZero 3 (some .int), Cond.methodLink RX7 155 yX0_wantedAt, Cond.instanceMethod yX0_wantedAt, Cond.selects RX0 yX0_wantedAt yX0_wantedAt, Cond.initialized RX0, Cond.code yX0_wantedAt cX0_wantedAt 3 (some .int), Cond.methodLink RX0 87 yX0_fromLeft, Cond.instanceMethod yX0_fromLeft, Cond.selects RX0 yX0_fromLeft yX0_fromLeft, Cond.code yX0_fromLeft cX0_fromLeft 3 (some .int), Cond.fieldLink RX0 34 "TurnedBoards$Board" "places" "I", Cond.methodLink RX0 90 yX0_letterIn, Cond.instanceMethod yX0_letterIn, Cond.selects RX0 yX0_letterIn yX0_letterIn, Cond.code yX0_letterIn cX0_letterIn 3 (some .int), Cond.fieldLink RX0 25 "TurnedBoards$Board" "uprightWord" "[I", Cond.fieldLink RX0 28 "TurnedBoards$Board" "turnedWord" "[I", Cond.methodLink RX0 69 yX4_at, Cond.static yX4_at]
def wsX7_quality_r2 : List Cond := [Cond.initialized RX4, Cond.code yX4_at cX4_at 2 (some .int), Cond.methodLink RX7 132 yX3_has, Cond.instanceMethod yX3_has, Cond.selects RX3 yX3_has yX3_has, Cond.initialized RX3, Cond.code yX3_has cX3_has 2 (some .boolean), Cond.methodLink RX3 21 yX3_signFor, Cond.instanceMethod yX3_signFor, Cond.selects RX3 yX3_signFor yX3_signFor, Cond.code yX3_signFor cX3_signFor 2 (some .int), Cond.fieldLink RX3 9 "TurnedBoards$Letters" "drawn" "[I", Cond.methodLink RX7 259 yX0_marginAt, Cond.instanceMethod yX0_marginAt, Cond.selects RX0 yX0_marginAt yX0_marginAt, Cond.code yX0_marginAt cX0_marginAt 3 (some .int), Cond.fieldLink RX0 12 "TurnedBoards$Board" "letters" "LTurnedBoards$Letters;", Cond.methodLink RX0 96 yX0_signAt, Cond.instanceMethod yX0_signAt, Cond.selects RX0 yX0_signAt yX0_signAt, Cond.code yX0_signAt cX0_signAt 2 (some .int), Cond.fieldLink RX0 18 "TurnedBoards$Board" "signs" "[I", Cond.methodLink RX0 99 yX6_seen, Cond.static yX6_seen]
def wsX7_quality_r3 : List Cond := [Cond.initialized RX6, Cond.code yX6_seen cX6_seen 2 (some .int), Cond.methodLink RX6 9 yX6_turn, Cond.static yX6_turn, Cond.code yX6_turn cX6_turn 2 (some .int), Cond.methodLink RX0 107 yX0_wantedAt, Cond.methodLink RX0 110 yX3_marginOf, Cond.instanceMethod yX3_marginOf, Cond.selects RX3 yX3_marginOf yX3_marginOf, Cond.code yX3_marginOf cX3_marginOf 5 (some .int), Cond.methodLink RX3 34 Lib.Math.min.name, Cond.static Lib.Math.min.name, Cond.initialized "java/lang/Math", Cond.code Lib.Math.min.name Lib.Math.min.code 2 (some .int), Cond.methodLink RX3 29 yJ6_bitCount_0f7a4, Cond.static yJ6_bitCount_0f7a4, Cond.initialized RJ6, Cond.code yJ6_bitCount_0f7a4 cJ6_bitCount_0f7a4 1 (some .int), Cond.constant RJ6 265 (1431655765), Cond.constant RJ6 266 (858993459), Cond.constant RJ6 267 (252645135), Cond.methodLink RX7 211 yX7_bitsOf, Cond.static yX7_bitsOf, Cond.code yX7_bitsOf cX7_bitsOf 4 (some .int)]
def wsX7_quality_r4 : List Cond := [Cond.constantFloat RX7 263 (1258291200), Cond.constant RX7 264 (-2147483648)]
def wsX7_quality : List Cond := .code yX7_quality cX7_quality 3 (some .int) :: ((wsX7_quality_r1 ++ (wsX7_quality_r2 ++ (wsX7_quality_r3 ++ wsX7_quality_r4))) ++ wsX70 ++ wsX00 ++ wsX30)
def wsX7_bareIn_r1 : List Cond := [Cond.fieldLink RX7 10 "TurnedBoards" "now" "LTurnedBoards$Board;", Cond.methodLink RX7 218 Lib.Math.min.name, Cond.static Lib.Math.min.name, Cond.initialized "java/lang/Math", Cond.code Lib.Math.min.name Lib.Math.min.code 2 (some .int), Cond.methodLink RX7 215 yX0_fades, Cond.instanceMethod yX0_fades, Cond.selects RX0 yX0_fades yX0_fades, Cond.initialized RX0, Cond.code yX0_fades cX0_fades 2 (some .boolean), Cond.methodLink RX0 93 yX0_coatsAt, Cond.instanceMethod yX0_coatsAt, Cond.selects RX0 yX0_coatsAt yX0_coatsAt, Cond.code yX0_coatsAt cX0_coatsAt 2 (some .int), Cond.fieldLink RX0 22 "TurnedBoards$Board" "coats" "[I", Cond.methodLink RX0 69 yX4_at, Cond.static yX4_at, Cond.initialized RX4, Cond.code yX4_at cX4_at 2 (some .int), Cond.methodLink RX0 96 yX0_signAt, Cond.instanceMethod yX0_signAt, Cond.selects RX0 yX0_signAt yX0_signAt, Cond.code yX0_signAt cX0_signAt 2 (some .int), Cond.fieldLink RX0 18 "TurnedBoards$Board" "signs" "[I"]
def wsX7_bareIn_r2 : List Cond := [Cond.methodLink RX0 116 yX0_way, Cond.instanceMethod yX0_way, Cond.selects RX0 yX0_way yX0_way, Cond.code yX0_way cX0_way 1 (some .int), Cond.fieldLink RX0 38 "TurnedBoards$Board" "turned" "Z", Cond.methodLink RX0 120 yX6_darkInUpperRows, Cond.static yX6_darkInUpperRows, Cond.initialized RX6, Cond.code yX6_darkInUpperRows cX6_darkInUpperRows 2 (some .int), Cond.methodLink RX6 15 yJ6_bitCount_0f7a4, Cond.static yJ6_bitCount_0f7a4, Cond.initialized RJ6, Cond.code yJ6_bitCount_0f7a4 cJ6_bitCount_0f7a4 1 (some .int), Cond.constant RJ6 265 (1431655765), Cond.constant RJ6 266 (858993459), Cond.constant RJ6 267 (252645135), Cond.methodLink RX0 73 yX0_setting, Cond.instanceMethod yX0_setting, Cond.selects RX0 yX0_setting yX0_setting, Cond.code yX0_setting cX0_setting 2 (some .int), Cond.fieldLink RX0 31 "TurnedBoards$Board" "settings" "[I", Cond.methodLink RX7 91 yX0_coatsAt]
def wsX7_bareIn : List Cond := .code yX7_bareIn cX7_bareIn 3 (some .int) :: ((wsX7_bareIn_r1 ++ wsX7_bareIn_r2) ++ wsX70 ++ wsX00)
def wsX7_keep_r1 : List Cond := [Cond.fieldLink RX7 16 "TurnedBoards" "snapshot" "LTurnedBoards$Board;", Cond.fieldLink RX7 10 "TurnedBoards" "now" "LTurnedBoards$Board;", Cond.fieldLink RX7 40 "TurnedBoards" "hasSnapshot" "Z", Cond.methodLink RX7 223 yX0_copyFrom, Cond.instanceMethod yX0_copyFrom, Cond.selects RX0 yX0_copyFrom yX0_copyFrom, Cond.initialized RX0, Cond.code yX0_copyFrom cX0_copyFrom 2 none, Cond.fieldLink RX0 12 "TurnedBoards$Board" "letters" "LTurnedBoards$Letters;", Cond.fieldLink RX0 18 "TurnedBoards$Board" "signs" "[I", Cond.fieldLink RX0 22 "TurnedBoards$Board" "coats" "[I", Cond.fieldLink RX0 25 "TurnedBoards$Board" "uprightWord" "[I", Cond.fieldLink RX0 28 "TurnedBoards$Board" "turnedWord" "[I", Cond.fieldLink RX0 31 "TurnedBoards$Board" "settings" "[I", Cond.fieldLink RX0 34 "TurnedBoards$Board" "places" "I", Cond.fieldLink RX0 38 "TurnedBoards$Board" "turned" "Z", Cond.fieldLink RX0 42 "TurnedBoards$Board" "stiffness" "I", Cond.fieldLink RX0 45 "TurnedBoards$Board" "day" "I", Cond.fieldLink RX0 48 "TurnedBoards$Board" "turns" "I", Cond.methodLink RX0 57 yX3_copyFrom, Cond.instanceMethod yX3_copyFrom, Cond.selects RX3 yX3_copyFrom yX3_copyFrom, Cond.initialized RX3, Cond.code yX3_copyFrom cX3_copyFrom 2 none]
def wsX7_keep_r2 : List Cond := [Cond.fieldLink RX3 9 "TurnedBoards$Letters" "drawn" "[I", Cond.methodLink RX3 46 yX4_copy, Cond.static yX4_copy, Cond.initialized RX4, Cond.code yX4_copy cX4_copy 3 none, Cond.methodLink RX0 61 yX4_copy]
def wsX7_keep : List Cond := .code yX7_keep cX7_keep 1 (some .int) :: ((wsX7_keep_r1 ++ wsX7_keep_r2) ++ wsX70 ++ wsX00 ++ wsX30)
def wsX7_restore_r1 : List Cond := [Cond.fieldLink RX7 40 "TurnedBoards" "hasSnapshot" "Z", Cond.fieldLink RX7 22 "TurnedBoards" "history" "LTurnedBoards$History;", Cond.fieldLink RX7 10 "TurnedBoards" "now" "LTurnedBoards$Board;", Cond.fieldLink RX7 16 "TurnedBoards" "snapshot" "LTurnedBoards$Board;", Cond.methodLink RX7 61 yX2_push, Cond.instanceMethod yX2_push, Cond.selects RX2 yX2_push yX2_push, Cond.initialized RX2, Cond.code yX2_push cX2_push 3 none, Cond.fieldLink RX2 17 "TurnedBoards$History" "size" "I", Cond.fieldLink RX2 11 "TurnedBoards$History" "states" "[LTurnedBoards$Board;", Cond.methodLink RX2 22 yX2_moveOldestToEnd, Cond.instanceMethod yX2_moveOldestToEnd, Cond.selects RX2 yX2_moveOldestToEnd yX2_moveOldestToEnd, Cond.code yX2_moveOldestToEnd cX2_moveOldestToEnd 3 none, Cond.methodLink RX2 25 yX0_copyFrom, Cond.instanceMethod yX0_copyFrom, Cond.selects RX0 yX0_copyFrom yX0_copyFrom, Cond.initialized RX0, Cond.code yX0_copyFrom cX0_copyFrom 2 none, Cond.fieldLink RX0 12 "TurnedBoards$Board" "letters" "LTurnedBoards$Letters;", Cond.fieldLink RX0 18 "TurnedBoards$Board" "signs" "[I", Cond.fieldLink RX0 22 "TurnedBoards$Board" "coats" "[I", Cond.fieldLink RX0 25 "TurnedBoards$Board" "uprightWord" "[I"]
def wsX7_restore_r2 : List Cond := [Cond.fieldLink RX0 28 "TurnedBoards$Board" "turnedWord" "[I", Cond.fieldLink RX0 31 "TurnedBoards$Board" "settings" "[I", Cond.fieldLink RX0 34 "TurnedBoards$Board" "places" "I", Cond.fieldLink RX0 38 "TurnedBoards$Board" "turned" "Z", Cond.fieldLink RX0 42 "TurnedBoards$Board" "stiffness" "I", Cond.fieldLink RX0 45 "TurnedBoards$Board" "day" "I", Cond.fieldLink RX0 48 "TurnedBoards$Board" "turns" "I", Cond.methodLink RX0 57 yX3_copyFrom, Cond.instanceMethod yX3_copyFrom, Cond.selects RX3 yX3_copyFrom yX3_copyFrom, Cond.initialized RX3, Cond.code yX3_copyFrom cX3_copyFrom 2 none, Cond.fieldLink RX3 9 "TurnedBoards$Letters" "drawn" "[I", Cond.methodLink RX3 46 yX4_copy, Cond.static yX4_copy, Cond.initialized RX4, Cond.code yX4_copy cX4_copy 3 none, Cond.methodLink RX0 61 yX4_copy, Cond.methodLink RX7 223 yX0_copyFrom]
def wsX7_restore : List Cond := .code yX7_restore cX7_restore 1 (some .int) :: ((wsX7_restore_r1 ++ wsX7_restore_r2) ++ wsX70 ++ wsX00 ++ wsX20 ++ wsX30)
def wsX7_undo_r1 : List Cond := [Cond.fieldLink RX7 22 "TurnedBoards" "history" "LTurnedBoards$History;", Cond.fieldLink RX7 10 "TurnedBoards" "now" "LTurnedBoards$Board;", Cond.methodLink RX7 226 yX2_popInto, Cond.instanceMethod yX2_popInto, Cond.selects RX2 yX2_popInto yX2_popInto, Cond.initialized RX2, Cond.code yX2_popInto cX2_popInto 2 none, Cond.fieldLink RX2 17 "TurnedBoards$History" "size" "I", Cond.fieldLink RX2 11 "TurnedBoards$History" "states" "[LTurnedBoards$Board;", Cond.methodLink RX2 25 yX0_copyFrom, Cond.instanceMethod yX0_copyFrom, Cond.selects RX0 yX0_copyFrom yX0_copyFrom, Cond.initialized RX0, Cond.code yX0_copyFrom cX0_copyFrom 2 none, Cond.fieldLink RX0 12 "TurnedBoards$Board" "letters" "LTurnedBoards$Letters;", Cond.fieldLink RX0 18 "TurnedBoards$Board" "signs" "[I", Cond.fieldLink RX0 22 "TurnedBoards$Board" "coats" "[I", Cond.fieldLink RX0 25 "TurnedBoards$Board" "uprightWord" "[I", Cond.fieldLink RX0 28 "TurnedBoards$Board" "turnedWord" "[I", Cond.fieldLink RX0 31 "TurnedBoards$Board" "settings" "[I", Cond.fieldLink RX0 34 "TurnedBoards$Board" "places" "I", Cond.fieldLink RX0 38 "TurnedBoards$Board" "turned" "Z", Cond.fieldLink RX0 42 "TurnedBoards$Board" "stiffness" "I", Cond.fieldLink RX0 45 "TurnedBoards$Board" "day" "I"]
def wsX7_undo_r2 : List Cond := [Cond.fieldLink RX0 48 "TurnedBoards$Board" "turns" "I", Cond.methodLink RX0 57 yX3_copyFrom, Cond.instanceMethod yX3_copyFrom, Cond.selects RX3 yX3_copyFrom yX3_copyFrom, Cond.initialized RX3, Cond.code yX3_copyFrom cX3_copyFrom 2 none, Cond.fieldLink RX3 9 "TurnedBoards$Letters" "drawn" "[I", Cond.methodLink RX3 46 yX4_copy, Cond.static yX4_copy, Cond.initialized RX4, Cond.code yX4_copy cX4_copy 3 none, Cond.methodLink RX0 61 yX4_copy]
def wsX7_undo : List Cond := .code yX7_undo cX7_undo 1 (some .int) :: ((wsX7_undo_r1 ++ wsX7_undo_r2) ++ wsX70 ++ wsX20 ++ wsX00 ++ wsX30)
def wsX7_type : List Cond := .code yX7_type cX7_type 2 (some .int) :: ([.fieldLink RX7 29 "TurnedBoards" "text" "LTurnedBoards$Script;", .methodLink RX7 229 yX5_append, .instanceMethod yX5_append, .selects RX5 yX5_append yX5_append, .initialized RX5, .code yX5_append cX5_append 2 none, .fieldLink RX5 15 "TurnedBoards$Script" "length" "I", .fieldLink RX5 9 "TurnedBoards$Script" "characters" "[I"] ++ wsX70 ++ wsX50)
def wsX7_clearText : List Cond := .code yX7_clearText cX7_clearText 2 (some .int) :: ([.fieldLink RX7 29 "TurnedBoards" "text" "LTurnedBoards$Script;"] ++ wsX70 ++ wsX50)
def wsX7_fault_r1 : List Cond := [Cond.fieldLink RX7 29 "TurnedBoards" "text" "LTurnedBoards$Script;", Cond.fieldLink RX7 10 "TurnedBoards" "now" "LTurnedBoards$Board;", Cond.methodLink RX7 113 yX7_isOneOfTwo, Cond.static yX7_isOneOfTwo, Cond.initialized RX7, Cond.code yX7_isOneOfTwo cX7_isOneOfTwo 1 (some .boolean), Cond.methodLink RX7 233 yX5_faultCode, Cond.instanceMethod yX5_faultCode, Cond.selects RX5 yX5_faultCode yX5_faultCode, Cond.initialized RX5, Cond.code yX5_faultCode cX5_faultCode 3 (some .int), Cond.methodLink RX5 32 yX5_formFault, Cond.instanceMethod yX5_formFault, Cond.selects RX5 yX5_formFault yX5_formFault, Cond.code yX5_formFault cX5_formFault 4 (some .int), Cond.methodLink RX5 51 Lib.Math.min.name, Cond.static Lib.Math.min.name, Cond.initialized "java/lang/Math", Cond.code Lib.Math.min.name Lib.Math.min.code 2 (some .int), Cond.fieldLink RX5 15 "TurnedBoards$Script" "length" "I", Cond.methodLink RX5 40 yX5_firstLength, Cond.instanceMethod yX5_firstLength, Cond.selects RX5 yX5_firstLength yX5_firstLength, Cond.code yX5_firstLength cX5_firstLength 1 (some .int)]
def wsX7_fault_r2 : List Cond := [Cond.methodLink RX5 29 yX5_lettersFrom, Cond.instanceMethod yX5_lettersFrom, Cond.selects RX5 yX5_lettersFrom yX5_lettersFrom, Cond.code yX5_lettersFrom cX5_lettersFrom 3 (some .int), Cond.methodLink RX5 25 yX5_letterAt, Cond.instanceMethod yX5_letterAt, Cond.selects RX5 yX5_letterAt yX5_letterAt, Cond.code yX5_letterAt cX5_letterAt 3 (some .int), Cond.fieldLink RX5 9 "TurnedBoards$Script" "characters" "[I", Cond.methodLink RX5 19 yX4_at, Cond.static yX4_at, Cond.initialized RX4, Cond.code yX4_at cX4_at 2 (some .int), Cond.methodLink RX5 43 yX5_codeOf, Cond.static yX5_codeOf, Cond.code yX5_codeOf cX5_codeOf 2 (some .int), Cond.methodLink RX5 47 yX5_isSlash, Cond.instanceMethod yX5_isSlash, Cond.selects RX5 yX5_isSlash yX5_isSlash, Cond.code yX5_isSlash cX5_isSlash 2 (some .boolean), Cond.methodLink RX5 36 yX5_undrawnFault, Cond.instanceMethod yX5_undrawnFault, Cond.selects RX5 yX5_undrawnFault yX5_undrawnFault, Cond.code yX5_undrawnFault cX5_undrawnFault 4 (some .int)]
def wsX7_fault_r3 : List Cond := [Cond.methodLink RX5 56 yX3_has, Cond.instanceMethod yX3_has, Cond.selects RX3 yX3_has yX3_has, Cond.initialized RX3, Cond.code yX3_has cX3_has 2 (some .boolean), Cond.methodLink RX3 21 yX3_signFor, Cond.instanceMethod yX3_signFor, Cond.selects RX3 yX3_signFor yX3_signFor, Cond.code yX3_signFor cX3_signFor 2 (some .int), Cond.fieldLink RX3 9 "TurnedBoards$Letters" "drawn" "[I", Cond.methodLink RX7 237 yX5_placeIn, Cond.static yX5_placeIn, Cond.code yX5_placeIn cX5_placeIn 1 (some .int), Cond.methodLink RX7 240 yX5_reasonIn, Cond.static yX5_reasonIn, Cond.code yX5_reasonIn cX5_reasonIn 1 (some .int)]
def wsX7_fault : List Cond := .code yX7_fault cX7_fault 3 (some .int) :: ((wsX7_fault_r1 ++ (wsX7_fault_r2 ++ wsX7_fault_r3)) ++ wsX70 ++ wsX00 ++ wsX50 ++ wsX30)
def wsX7_read_r1 : List Cond := [Cond.fieldLink RX7 29 "TurnedBoards" "text" "LTurnedBoards$Script;", Cond.fieldLink RX7 10 "TurnedBoards" "now" "LTurnedBoards$Board;", Cond.fieldLink RX7 22 "TurnedBoards" "history" "LTurnedBoards$History;", Cond.methodLink RX7 233 yX5_faultCode, Cond.instanceMethod yX5_faultCode, Cond.selects RX5 yX5_faultCode yX5_faultCode, Cond.initialized RX5, Cond.code yX5_faultCode cX5_faultCode 3 (some .int), Cond.methodLink RX5 32 yX5_formFault, Cond.instanceMethod yX5_formFault, Cond.selects RX5 yX5_formFault yX5_formFault, Cond.code yX5_formFault cX5_formFault 4 (some .int), Cond.methodLink RX5 51 Lib.Math.min.name, Cond.static Lib.Math.min.name, Cond.initialized "java/lang/Math", Cond.code Lib.Math.min.name Lib.Math.min.code 2 (some .int), Cond.fieldLink RX5 15 "TurnedBoards$Script" "length" "I", Cond.methodLink RX5 40 yX5_firstLength, Cond.instanceMethod yX5_firstLength, Cond.selects RX5 yX5_firstLength yX5_firstLength, Cond.code yX5_firstLength cX5_firstLength 1 (some .int), Cond.methodLink RX5 29 yX5_lettersFrom, Cond.instanceMethod yX5_lettersFrom, Cond.selects RX5 yX5_lettersFrom yX5_lettersFrom]
def wsX7_read_r2 : List Cond := [Cond.code yX5_lettersFrom cX5_lettersFrom 3 (some .int), Cond.methodLink RX5 25 yX5_letterAt, Cond.instanceMethod yX5_letterAt, Cond.selects RX5 yX5_letterAt yX5_letterAt, Cond.code yX5_letterAt cX5_letterAt 3 (some .int), Cond.fieldLink RX5 9 "TurnedBoards$Script" "characters" "[I", Cond.methodLink RX5 19 yX4_at, Cond.static yX4_at, Cond.initialized RX4, Cond.code yX4_at cX4_at 2 (some .int), Cond.methodLink RX5 43 yX5_codeOf, Cond.static yX5_codeOf, Cond.code yX5_codeOf cX5_codeOf 2 (some .int), Cond.methodLink RX5 47 yX5_isSlash, Cond.instanceMethod yX5_isSlash, Cond.selects RX5 yX5_isSlash yX5_isSlash, Cond.code yX5_isSlash cX5_isSlash 2 (some .boolean), Cond.methodLink RX5 36 yX5_undrawnFault, Cond.instanceMethod yX5_undrawnFault, Cond.selects RX5 yX5_undrawnFault yX5_undrawnFault, Cond.code yX5_undrawnFault cX5_undrawnFault 4 (some .int), Cond.methodLink RX5 56 yX3_has, Cond.instanceMethod yX3_has, Cond.selects RX3 yX3_has yX3_has]
def wsX7_read_r3 : List Cond := [Cond.initialized RX3, Cond.code yX3_has cX3_has 2 (some .boolean), Cond.methodLink RX3 21 yX3_signFor, Cond.instanceMethod yX3_signFor, Cond.selects RX3 yX3_signFor yX3_signFor, Cond.code yX3_signFor cX3_signFor 2 (some .int), Cond.fieldLink RX3 9 "TurnedBoards$Letters" "drawn" "[I", Cond.methodLink RX7 61 yX2_push, Cond.instanceMethod yX2_push, Cond.selects RX2 yX2_push yX2_push, Cond.initialized RX2, Cond.code yX2_push cX2_push 3 none, Cond.fieldLink RX2 17 "TurnedBoards$History" "size" "I", Cond.fieldLink RX2 11 "TurnedBoards$History" "states" "[LTurnedBoards$Board;", Cond.methodLink RX2 22 yX2_moveOldestToEnd, Cond.instanceMethod yX2_moveOldestToEnd, Cond.selects RX2 yX2_moveOldestToEnd yX2_moveOldestToEnd, Cond.code yX2_moveOldestToEnd cX2_moveOldestToEnd 3 none, Cond.methodLink RX2 25 yX0_copyFrom, Cond.instanceMethod yX0_copyFrom, Cond.selects RX0 yX0_copyFrom yX0_copyFrom, Cond.initialized RX0, Cond.code yX0_copyFrom cX0_copyFrom 2 none, Cond.fieldLink RX0 12 "TurnedBoards$Board" "letters" "LTurnedBoards$Letters;"]
def wsX7_read_r4 : List Cond := [Cond.fieldLink RX0 18 "TurnedBoards$Board" "signs" "[I", Cond.fieldLink RX0 22 "TurnedBoards$Board" "coats" "[I", Cond.fieldLink RX0 25 "TurnedBoards$Board" "uprightWord" "[I", Cond.fieldLink RX0 28 "TurnedBoards$Board" "turnedWord" "[I", Cond.fieldLink RX0 31 "TurnedBoards$Board" "settings" "[I", Cond.fieldLink RX0 34 "TurnedBoards$Board" "places" "I", Cond.fieldLink RX0 38 "TurnedBoards$Board" "turned" "Z", Cond.fieldLink RX0 42 "TurnedBoards$Board" "stiffness" "I", Cond.fieldLink RX0 45 "TurnedBoards$Board" "day" "I", Cond.fieldLink RX0 48 "TurnedBoards$Board" "turns" "I", Cond.methodLink RX0 57 yX3_copyFrom, Cond.instanceMethod yX3_copyFrom, Cond.selects RX3 yX3_copyFrom yX3_copyFrom, Cond.code yX3_copyFrom cX3_copyFrom 2 none, Cond.methodLink RX3 46 yX4_copy, Cond.static yX4_copy, Cond.code yX4_copy cX4_copy 3 none, Cond.methodLink RX0 61 yX4_copy, Cond.methodLink RX7 243 yX5_firstLength, Cond.methodLink RX7 246 yX0_renew, Cond.instanceMethod yX0_renew, Cond.selects RX0 yX0_renew yX0_renew, Cond.code yX0_renew cX0_renew 2 none, Cond.methodLink RX0 65 yX4_fill]
def wsX7_read_r5 : List Cond := [Cond.static yX4_fill, Cond.code yX4_fill cX4_fill 3 none, Cond.methodLink RX7 253 yX5_letterAt, Cond.methodLink RX7 123 yX4_put, Cond.static yX4_put, Cond.code yX4_put cX4_put 3 none]
def wsX7_read : List Cond := .code yX7_read cX7_read 2 (some .int) :: ((wsX7_read_r1 ++ (wsX7_read_r2 ++ (wsX7_read_r3 ++ (wsX7_read_r4 ++ wsX7_read_r5)))) ++ wsX70 ++ wsX00 ++ wsX50 ++ wsX30 ++ wsX20)
def wsX8_init : List Cond := .code yX8_init cX8_init 2 none :: ([.methodLink RX8 1 objectInit, .instanceMethod objectInit, .code objectInit ⟨#[0xb1]⟩ 1 none, .arrayClass .int, .fieldLink RX8 7 "TurnedBoardsModel" "s" "[I", .fieldLink RX8 13 "TurnedBoardsModel" "begun" "[I", .fieldLink RX8 16 "TurnedBoardsModel" "kept" "[I", .fieldLink RX8 19 "TurnedBoardsModel" "past" "[I", .fieldLink RX8 22 "TurnedBoardsModel" "text" "[I"] ++ wsX80)
def wsX8_in : List Cond := .code yX8_in cX8_in 3 (some .boolean) :: ([])
def wsX8_begins : List Cond := .code yX8_begins cX8_begins 2 none :: ([.fieldLink RX8 13 "TurnedBoardsModel" "begun" "[I", .fieldLink RX8 7 "TurnedBoardsModel" "s" "[I"] ++ wsX80)
def wsX8_acted : List Cond := .code yX8_acted cX8_acted 3 (some .int) :: ([.fieldLink RX8 7 "TurnedBoardsModel" "s" "[I", .fieldLink RX8 13 "TurnedBoardsModel" "begun" "[I", .fieldLink RX8 25 "TurnedBoardsModel" "states" "I", .fieldLink RX8 19 "TurnedBoardsModel" "past" "[I"] ++ wsX80)
def wsX8_dark : List Cond := .code yX8_dark cX8_dark 3 (some .int) :: ([])
def wsX8_turned : List Cond := .code yX8_turned cX8_turned 3 (some .int) :: ([])
def wsX8_drawn : List Cond := .code yX8_drawn cX8_drawn 2 (some .int) :: ([.fieldLink RX8 7 "TurnedBoardsModel" "s" "[I"] ++ wsX80)
def wsX8_readAs : List Cond := .code yX8_readAs cX8_readAs 6 (some .int) :: ([.methodLink RX8 29 yX8_drawn, .instanceMethod yX8_drawn, .selects RX8 yX8_drawn yX8_drawn, .initialized RX8, .code yX8_drawn cX8_drawn 2 (some .int), .fieldLink RX8 7 "TurnedBoardsModel" "s" "[I", .methodLink RX8 33 yX8_dark, .static yX8_dark, .code yX8_dark cX8_dark 3 (some .int)] ++ wsX80)
def wsX8_margin : List Cond := .code yX8_margin cX8_margin 6 (some .int) :: ([.methodLink RX8 29 yX8_drawn, .instanceMethod yX8_drawn, .selects RX8 yX8_drawn yX8_drawn, .initialized RX8, .code yX8_drawn cX8_drawn 2 (some .int), .fieldLink RX8 7 "TurnedBoardsModel" "s" "[I", .methodLink RX8 33 yX8_dark, .static yX8_dark, .code yX8_dark cX8_dark 3 (some .int)] ++ wsX80)
def wsX8_tries : List Cond := .code yX8_tries cX8_tries 8 none :: ([.fieldLink RX8 42 "TurnedBoardsModel" "composedMargin" "I", .fieldLink RX8 39 "TurnedBoardsModel" "composedSign" "I", .methodLink RX8 49 yX8_readAs, .instanceMethod yX8_readAs, .selects RX8 yX8_readAs yX8_readAs, .initialized RX8, .code yX8_readAs cX8_readAs 6 (some .int), .methodLink RX8 29 yX8_drawn, .instanceMethod yX8_drawn, .selects RX8 yX8_drawn yX8_drawn, .code yX8_drawn cX8_drawn 2 (some .int), .fieldLink RX8 7 "TurnedBoardsModel" "s" "[I", .methodLink RX8 33 yX8_dark, .static yX8_dark, .code yX8_dark cX8_dark 3 (some .int), .methodLink RX8 36 yX8_turned, .static yX8_turned, .code yX8_turned cX8_turned 3 (some .int), .methodLink RX8 52 yX8_margin, .instanceMethod yX8_margin, .selects RX8 yX8_margin yX8_margin, .code yX8_margin cX8_margin 6 (some .int)] ++ wsX80)
def wsX8_composes_r1 : List Cond := [Cond.fieldLink RX8 39 "TurnedBoardsModel" "composedSign" "I", Cond.fieldLink RX8 42 "TurnedBoardsModel" "composedMargin" "I", Cond.methodLink RX8 29 yX8_drawn, Cond.instanceMethod yX8_drawn, Cond.selects RX8 yX8_drawn yX8_drawn, Cond.initialized RX8, Cond.code yX8_drawn cX8_drawn 2 (some .int), Cond.fieldLink RX8 7 "TurnedBoardsModel" "s" "[I", Cond.methodLink RX8 36 yX8_turned, Cond.static yX8_turned, Cond.code yX8_turned cX8_turned 3 (some .int), Cond.methodLink RX8 45 yX8_tries, Cond.instanceMethod yX8_tries, Cond.selects RX8 yX8_tries yX8_tries, Cond.code yX8_tries cX8_tries 8 none, Cond.methodLink RX8 49 yX8_readAs, Cond.instanceMethod yX8_readAs, Cond.selects RX8 yX8_readAs yX8_readAs, Cond.code yX8_readAs cX8_readAs 6 (some .int), Cond.methodLink RX8 33 yX8_dark, Cond.static yX8_dark, Cond.code yX8_dark cX8_dark 3 (some .int), Cond.methodLink RX8 52 yX8_margin, Cond.instanceMethod yX8_margin]
def wsX8_composes_r2 : List Cond := [Cond.selects RX8 yX8_margin yX8_margin, Cond.code yX8_margin cX8_margin 6 (some .int)]
def wsX8_composes : List Cond := .code yX8_composes cX8_composes 8 (some .boolean) :: ((wsX8_composes_r1 ++ wsX8_composes_r2) ++ wsX80)
def wsX8_areDrawn : List Cond := .code yX8_areDrawn cX8_areDrawn 3 (some .boolean) :: ([.methodLink RX8 29 yX8_drawn, .instanceMethod yX8_drawn, .selects RX8 yX8_drawn yX8_drawn, .initialized RX8, .code yX8_drawn cX8_drawn 2 (some .int), .fieldLink RX8 7 "TurnedBoardsModel" "s" "[I"] ++ wsX80)
def wsX8_isPlace : List Cond := .code yX8_isPlace cX8_isPlace 2 (some .boolean) :: ([.fieldLink RX8 7 "TurnedBoardsModel" "s" "[I", .methodLink RX8 56 yX8_in, .static yX8_in, .initialized RX8, .code yX8_in cX8_in 3 (some .boolean)] ++ wsX80)
def wsX8_signOf : List Cond := .code yX8_signOf cX8_signOf 2 (some .int) :: ([.fieldLink RX8 7 "TurnedBoardsModel" "s" "[I"] ++ wsX80)
def wsX8_coats : List Cond := .code yX8_coats cX8_coats 2 (some .int) :: ([.fieldLink RX8 7 "TurnedBoardsModel" "s" "[I"] ++ wsX80)
def wsX8_lays : List Cond := .code yX8_lays cX8_lays 3 none :: ([.fieldLink RX8 7 "TurnedBoardsModel" "s" "[I"] ++ wsX80)
def wsX8_wanted : List Cond := .code yX8_wanted cX8_wanted 3 (some .int) :: ([.fieldLink RX8 7 "TurnedBoardsModel" "s" "[I"] ++ wsX80)
def wsX8_signBy : List Cond := .code yX8_signBy cX8_signBy 3 (some .int) :: ([.methodLink RX8 60 yX8_signOf, .instanceMethod yX8_signOf, .selects RX8 yX8_signOf yX8_signOf, .initialized RX8, .code yX8_signOf cX8_signOf 2 (some .int), .fieldLink RX8 7 "TurnedBoardsModel" "s" "[I", .methodLink RX8 36 yX8_turned, .static yX8_turned, .code yX8_turned cX8_turned 3 (some .int)] ++ wsX80)
def wsX8_readAt_r1 : List Cond := [Cond.methodLink RX8 63 yX8_coats, Cond.instanceMethod yX8_coats, Cond.selects RX8 yX8_coats yX8_coats, Cond.initialized RX8, Cond.code yX8_coats cX8_coats 2 (some .int), Cond.fieldLink RX8 7 "TurnedBoardsModel" "s" "[I", Cond.methodLink RX8 66 yX8_signBy, Cond.instanceMethod yX8_signBy, Cond.selects RX8 yX8_signBy yX8_signBy, Cond.code yX8_signBy cX8_signBy 3 (some .int), Cond.methodLink RX8 60 yX8_signOf, Cond.instanceMethod yX8_signOf, Cond.selects RX8 yX8_signOf yX8_signOf, Cond.code yX8_signOf cX8_signOf 2 (some .int), Cond.methodLink RX8 36 yX8_turned, Cond.static yX8_turned, Cond.code yX8_turned cX8_turned 3 (some .int), Cond.methodLink RX8 49 yX8_readAs, Cond.instanceMethod yX8_readAs, Cond.selects RX8 yX8_readAs yX8_readAs, Cond.code yX8_readAs cX8_readAs 6 (some .int), Cond.methodLink RX8 29 yX8_drawn, Cond.instanceMethod yX8_drawn, Cond.selects RX8 yX8_drawn yX8_drawn]
def wsX8_readAt_r2 : List Cond := [Cond.code yX8_drawn cX8_drawn 2 (some .int), Cond.methodLink RX8 33 yX8_dark, Cond.static yX8_dark, Cond.code yX8_dark cX8_dark 3 (some .int)]
def wsX8_readAt : List Cond := .code yX8_readAt cX8_readAt 3 (some .int) :: ((wsX8_readAt_r1 ++ wsX8_readAt_r2) ++ wsX80)
def wsX8_fades : List Cond := .code yX8_fades cX8_fades 3 (some .boolean) :: ([.fieldLink RX8 7 "TurnedBoardsModel" "s" "[I", .methodLink RX8 60 yX8_signOf, .instanceMethod yX8_signOf, .selects RX8 yX8_signOf yX8_signOf, .initialized RX8, .code yX8_signOf cX8_signOf 2 (some .int), .methodLink RX8 63 yX8_coats, .instanceMethod yX8_coats, .selects RX8 yX8_coats yX8_coats, .code yX8_coats cX8_coats 2 (some .int), .methodLink RX8 33 yX8_dark, .static yX8_dark, .code yX8_dark cX8_dark 3 (some .int)] ++ wsX80)
def wsX8_composesAt_r1 : List Cond := [Cond.methodLink RX8 69 yX8_wanted, Cond.instanceMethod yX8_wanted, Cond.selects RX8 yX8_wanted yX8_wanted, Cond.initialized RX8, Cond.code yX8_wanted cX8_wanted 3 (some .int), Cond.fieldLink RX8 7 "TurnedBoardsModel" "s" "[I", Cond.methodLink RX8 72 yX8_areDrawn, Cond.instanceMethod yX8_areDrawn, Cond.selects RX8 yX8_areDrawn yX8_areDrawn, Cond.code yX8_areDrawn cX8_areDrawn 3 (some .boolean), Cond.methodLink RX8 29 yX8_drawn, Cond.instanceMethod yX8_drawn, Cond.selects RX8 yX8_drawn yX8_drawn, Cond.code yX8_drawn cX8_drawn 2 (some .int), Cond.methodLink RX8 76 yX8_composes, Cond.instanceMethod yX8_composes, Cond.selects RX8 yX8_composes yX8_composes, Cond.code yX8_composes cX8_composes 8 (some .boolean), Cond.fieldLink RX8 39 "TurnedBoardsModel" "composedSign" "I", Cond.fieldLink RX8 42 "TurnedBoardsModel" "composedMargin" "I", Cond.methodLink RX8 36 yX8_turned, Cond.static yX8_turned, Cond.code yX8_turned cX8_turned 3 (some .int), Cond.methodLink RX8 45 yX8_tries]
def wsX8_composesAt_r2 : List Cond := [Cond.instanceMethod yX8_tries, Cond.selects RX8 yX8_tries yX8_tries, Cond.code yX8_tries cX8_tries 8 none, Cond.methodLink RX8 49 yX8_readAs, Cond.instanceMethod yX8_readAs, Cond.selects RX8 yX8_readAs yX8_readAs, Cond.code yX8_readAs cX8_readAs 6 (some .int), Cond.methodLink RX8 33 yX8_dark, Cond.static yX8_dark, Cond.code yX8_dark cX8_dark 3 (some .int), Cond.methodLink RX8 52 yX8_margin, Cond.instanceMethod yX8_margin, Cond.selects RX8 yX8_margin yX8_margin, Cond.code yX8_margin cX8_margin 6 (some .int)]
def wsX8_composesAt : List Cond := .code yX8_composesAt cX8_composesAt 4 (some .boolean) :: ((wsX8_composesAt_r1 ++ wsX8_composesAt_r2) ++ wsX80)
def wsX8_letter : List Cond := .code yX8_letter cX8_letter 4 (some .int) :: ([.fieldLink RX8 7 "TurnedBoardsModel" "s" "[I", .methodLink RX8 79 yX8_begins, .instanceMethod yX8_begins, .selects RX8 yX8_begins yX8_begins, .initialized RX8, .code yX8_begins cX8_begins 2 none, .fieldLink RX8 13 "TurnedBoardsModel" "begun" "[I", .methodLink RX8 56 yX8_in, .static yX8_in, .code yX8_in cX8_in 3 (some .boolean), .methodLink RX8 29 yX8_drawn, .instanceMethod yX8_drawn, .selects RX8 yX8_drawn yX8_drawn, .code yX8_drawn cX8_drawn 2 (some .int), .methodLink RX8 82 yX8_acted, .instanceMethod yX8_acted, .selects RX8 yX8_acted yX8_acted, .code yX8_acted cX8_acted 3 (some .int), .fieldLink RX8 25 "TurnedBoardsModel" "states" "I", .fieldLink RX8 19 "TurnedBoardsModel" "past" "[I"] ++ wsX80)
def wsX8_sign_r1 : List Cond := [Cond.methodLink RX8 79 yX8_begins, Cond.instanceMethod yX8_begins, Cond.selects RX8 yX8_begins yX8_begins, Cond.initialized RX8, Cond.code yX8_begins cX8_begins 2 none, Cond.fieldLink RX8 13 "TurnedBoardsModel" "begun" "[I", Cond.fieldLink RX8 7 "TurnedBoardsModel" "s" "[I", Cond.methodLink RX8 85 yX8_isPlace, Cond.instanceMethod yX8_isPlace, Cond.selects RX8 yX8_isPlace yX8_isPlace, Cond.code yX8_isPlace cX8_isPlace 2 (some .boolean), Cond.methodLink RX8 56 yX8_in, Cond.static yX8_in, Cond.code yX8_in cX8_in 3 (some .boolean), Cond.methodLink RX8 60 yX8_signOf, Cond.instanceMethod yX8_signOf, Cond.selects RX8 yX8_signOf yX8_signOf, Cond.code yX8_signOf cX8_signOf 2 (some .int), Cond.methodLink RX8 89 yX8_lays, Cond.instanceMethod yX8_lays, Cond.selects RX8 yX8_lays yX8_lays, Cond.code yX8_lays cX8_lays 3 none, Cond.methodLink RX8 82 yX8_acted, Cond.instanceMethod yX8_acted]
def wsX8_sign_r2 : List Cond := [Cond.selects RX8 yX8_acted yX8_acted, Cond.code yX8_acted cX8_acted 3 (some .int), Cond.fieldLink RX8 25 "TurnedBoardsModel" "states" "I", Cond.fieldLink RX8 19 "TurnedBoardsModel" "past" "[I"]
def wsX8_sign : List Cond := .code yX8_sign cX8_sign 4 (some .int) :: ((wsX8_sign_r1 ++ wsX8_sign_r2) ++ wsX80)
def wsX8_compose_r1 : List Cond := [Cond.fieldLink RX8 39 "TurnedBoardsModel" "composedSign" "I", Cond.methodLink RX8 79 yX8_begins, Cond.instanceMethod yX8_begins, Cond.selects RX8 yX8_begins yX8_begins, Cond.initialized RX8, Cond.code yX8_begins cX8_begins 2 none, Cond.fieldLink RX8 13 "TurnedBoardsModel" "begun" "[I", Cond.fieldLink RX8 7 "TurnedBoardsModel" "s" "[I", Cond.methodLink RX8 85 yX8_isPlace, Cond.instanceMethod yX8_isPlace, Cond.selects RX8 yX8_isPlace yX8_isPlace, Cond.code yX8_isPlace cX8_isPlace 2 (some .boolean), Cond.methodLink RX8 56 yX8_in, Cond.static yX8_in, Cond.code yX8_in cX8_in 3 (some .boolean), Cond.methodLink RX8 93 yX8_composesAt, Cond.instanceMethod yX8_composesAt, Cond.selects RX8 yX8_composesAt yX8_composesAt, Cond.code yX8_composesAt cX8_composesAt 4 (some .boolean), Cond.methodLink RX8 69 yX8_wanted, Cond.instanceMethod yX8_wanted, Cond.selects RX8 yX8_wanted yX8_wanted, Cond.code yX8_wanted cX8_wanted 3 (some .int), Cond.methodLink RX8 72 yX8_areDrawn]
def wsX8_compose_r2 : List Cond := [Cond.instanceMethod yX8_areDrawn, Cond.selects RX8 yX8_areDrawn yX8_areDrawn, Cond.code yX8_areDrawn cX8_areDrawn 3 (some .boolean), Cond.methodLink RX8 29 yX8_drawn, Cond.instanceMethod yX8_drawn, Cond.selects RX8 yX8_drawn yX8_drawn, Cond.code yX8_drawn cX8_drawn 2 (some .int), Cond.methodLink RX8 76 yX8_composes, Cond.instanceMethod yX8_composes, Cond.selects RX8 yX8_composes yX8_composes, Cond.code yX8_composes cX8_composes 8 (some .boolean), Cond.fieldLink RX8 42 "TurnedBoardsModel" "composedMargin" "I", Cond.methodLink RX8 36 yX8_turned, Cond.static yX8_turned, Cond.code yX8_turned cX8_turned 3 (some .int), Cond.methodLink RX8 45 yX8_tries, Cond.instanceMethod yX8_tries, Cond.selects RX8 yX8_tries yX8_tries, Cond.code yX8_tries cX8_tries 8 none, Cond.methodLink RX8 49 yX8_readAs, Cond.instanceMethod yX8_readAs, Cond.selects RX8 yX8_readAs yX8_readAs, Cond.code yX8_readAs cX8_readAs 6 (some .int), Cond.methodLink RX8 33 yX8_dark]
def wsX8_compose_r3 : List Cond := [Cond.static yX8_dark, Cond.code yX8_dark cX8_dark 3 (some .int), Cond.methodLink RX8 52 yX8_margin, Cond.instanceMethod yX8_margin, Cond.selects RX8 yX8_margin yX8_margin, Cond.code yX8_margin cX8_margin 6 (some .int), Cond.methodLink RX8 89 yX8_lays, Cond.instanceMethod yX8_lays, Cond.selects RX8 yX8_lays yX8_lays, Cond.code yX8_lays cX8_lays 3 none, Cond.methodLink RX8 82 yX8_acted, Cond.instanceMethod yX8_acted, Cond.selects RX8 yX8_acted yX8_acted, Cond.code yX8_acted cX8_acted 3 (some .int), Cond.fieldLink RX8 25 "TurnedBoardsModel" "states" "I", Cond.fieldLink RX8 19 "TurnedBoardsModel" "past" "[I"]
def wsX8_compose : List Cond := .code yX8_compose cX8_compose 2 (some .int) :: ((wsX8_compose_r1 ++ (wsX8_compose_r2 ++ wsX8_compose_r3)) ++ wsX80)
def wsX8_composeAll_r1 : List Cond := [Cond.fieldLink RX8 7 "TurnedBoardsModel" "s" "[I", Cond.fieldLink RX8 39 "TurnedBoardsModel" "composedSign" "I", Cond.methodLink RX8 79 yX8_begins, Cond.instanceMethod yX8_begins, Cond.selects RX8 yX8_begins yX8_begins, Cond.initialized RX8, Cond.code yX8_begins cX8_begins 2 none, Cond.fieldLink RX8 13 "TurnedBoardsModel" "begun" "[I", Cond.methodLink RX8 93 yX8_composesAt, Cond.instanceMethod yX8_composesAt, Cond.selects RX8 yX8_composesAt yX8_composesAt, Cond.code yX8_composesAt cX8_composesAt 4 (some .boolean), Cond.methodLink RX8 69 yX8_wanted, Cond.instanceMethod yX8_wanted, Cond.selects RX8 yX8_wanted yX8_wanted, Cond.code yX8_wanted cX8_wanted 3 (some .int), Cond.methodLink RX8 72 yX8_areDrawn, Cond.instanceMethod yX8_areDrawn, Cond.selects RX8 yX8_areDrawn yX8_areDrawn, Cond.code yX8_areDrawn cX8_areDrawn 3 (some .boolean), Cond.methodLink RX8 29 yX8_drawn, Cond.instanceMethod yX8_drawn, Cond.selects RX8 yX8_drawn yX8_drawn, Cond.code yX8_drawn cX8_drawn 2 (some .int)]
def wsX8_composeAll_r2 : List Cond := [Cond.methodLink RX8 76 yX8_composes, Cond.instanceMethod yX8_composes, Cond.selects RX8 yX8_composes yX8_composes, Cond.code yX8_composes cX8_composes 8 (some .boolean), Cond.fieldLink RX8 42 "TurnedBoardsModel" "composedMargin" "I", Cond.methodLink RX8 36 yX8_turned, Cond.static yX8_turned, Cond.code yX8_turned cX8_turned 3 (some .int), Cond.methodLink RX8 45 yX8_tries, Cond.instanceMethod yX8_tries, Cond.selects RX8 yX8_tries yX8_tries, Cond.code yX8_tries cX8_tries 8 none, Cond.methodLink RX8 49 yX8_readAs, Cond.instanceMethod yX8_readAs, Cond.selects RX8 yX8_readAs yX8_readAs, Cond.code yX8_readAs cX8_readAs 6 (some .int), Cond.methodLink RX8 33 yX8_dark, Cond.static yX8_dark, Cond.code yX8_dark cX8_dark 3 (some .int), Cond.methodLink RX8 52 yX8_margin, Cond.instanceMethod yX8_margin, Cond.selects RX8 yX8_margin yX8_margin, Cond.code yX8_margin cX8_margin 6 (some .int), Cond.methodLink RX8 89 yX8_lays]
def wsX8_composeAll_r3 : List Cond := [Cond.instanceMethod yX8_lays, Cond.selects RX8 yX8_lays yX8_lays, Cond.code yX8_lays cX8_lays 3 none, Cond.methodLink RX8 82 yX8_acted, Cond.instanceMethod yX8_acted, Cond.selects RX8 yX8_acted yX8_acted, Cond.code yX8_acted cX8_acted 3 (some .int), Cond.fieldLink RX8 25 "TurnedBoardsModel" "states" "I", Cond.fieldLink RX8 19 "TurnedBoardsModel" "past" "[I"]
def wsX8_composeAll : List Cond := .code yX8_composeAll cX8_composeAll 3 (some .int) :: ((wsX8_composeAll_r1 ++ (wsX8_composeAll_r2 ++ wsX8_composeAll_r3)) ++ wsX80)
def wsX8_paint : List Cond := .code yX8_paint cX8_paint 2 (some .int) :: ([.fieldLink RX8 7 "TurnedBoardsModel" "s" "[I", .methodLink RX8 79 yX8_begins, .instanceMethod yX8_begins, .selects RX8 yX8_begins yX8_begins, .initialized RX8, .code yX8_begins cX8_begins 2 none, .fieldLink RX8 13 "TurnedBoardsModel" "begun" "[I", .methodLink RX8 85 yX8_isPlace, .instanceMethod yX8_isPlace, .selects RX8 yX8_isPlace yX8_isPlace, .code yX8_isPlace cX8_isPlace 2 (some .boolean), .methodLink RX8 56 yX8_in, .static yX8_in, .code yX8_in cX8_in 3 (some .boolean), .methodLink RX8 63 yX8_coats, .instanceMethod yX8_coats, .selects RX8 yX8_coats yX8_coats, .code yX8_coats cX8_coats 2 (some .int), .methodLink RX8 82 yX8_acted, .instanceMethod yX8_acted, .selects RX8 yX8_acted yX8_acted, .code yX8_acted cX8_acted 3 (some .int), .fieldLink RX8 25 "TurnedBoardsModel" "states" "I", .fieldLink RX8 19 "TurnedBoardsModel" "past" "[I"] ++ wsX80)
def wsX8_gust : List Cond := .code yX8_gust cX8_gust 2 (some .int) :: ([.fieldLink RX8 7 "TurnedBoardsModel" "s" "[I", .methodLink RX8 79 yX8_begins, .instanceMethod yX8_begins, .selects RX8 yX8_begins yX8_begins, .initialized RX8, .code yX8_begins cX8_begins 2 none, .fieldLink RX8 13 "TurnedBoardsModel" "begun" "[I", .methodLink RX8 56 yX8_in, .static yX8_in, .code yX8_in cX8_in 3 (some .boolean), .methodLink RX8 82 yX8_acted, .instanceMethod yX8_acted, .selects RX8 yX8_acted yX8_acted, .code yX8_acted cX8_acted 3 (some .int), .fieldLink RX8 25 "TurnedBoardsModel" "states" "I", .fieldLink RX8 19 "TurnedBoardsModel" "past" "[I"] ++ wsX80)
def wsX8_oil : List Cond := .code yX8_oil cX8_oil 3 (some .int) :: ([.fieldLink RX8 7 "TurnedBoardsModel" "s" "[I", .methodLink RX8 79 yX8_begins, .instanceMethod yX8_begins, .selects RX8 yX8_begins yX8_begins, .initialized RX8, .code yX8_begins cX8_begins 2 none, .fieldLink RX8 13 "TurnedBoardsModel" "begun" "[I", .methodLink RX8 56 yX8_in, .static yX8_in, .code yX8_in cX8_in 3 (some .boolean), .methodLink RX8 82 yX8_acted, .instanceMethod yX8_acted, .selects RX8 yX8_acted yX8_acted, .code yX8_acted cX8_acted 3 (some .int), .fieldLink RX8 25 "TurnedBoardsModel" "states" "I", .fieldLink RX8 19 "TurnedBoardsModel" "past" "[I"] ++ wsX80)
def wsX8_pass_r1 : List Cond := [Cond.fieldLink RX8 7 "TurnedBoardsModel" "s" "[I", Cond.methodLink RX8 79 yX8_begins, Cond.instanceMethod yX8_begins, Cond.selects RX8 yX8_begins yX8_begins, Cond.initialized RX8, Cond.code yX8_begins cX8_begins 2 none, Cond.fieldLink RX8 13 "TurnedBoardsModel" "begun" "[I", Cond.methodLink RX8 56 yX8_in, Cond.static yX8_in, Cond.code yX8_in cX8_in 3 (some .boolean), Cond.methodLink RX8 96 yX8_fades, Cond.instanceMethod yX8_fades, Cond.selects RX8 yX8_fades yX8_fades, Cond.code yX8_fades cX8_fades 3 (some .boolean), Cond.methodLink RX8 60 yX8_signOf, Cond.instanceMethod yX8_signOf, Cond.selects RX8 yX8_signOf yX8_signOf, Cond.code yX8_signOf cX8_signOf 2 (some .int), Cond.methodLink RX8 63 yX8_coats, Cond.instanceMethod yX8_coats, Cond.selects RX8 yX8_coats yX8_coats, Cond.code yX8_coats cX8_coats 2 (some .int), Cond.methodLink RX8 33 yX8_dark, Cond.static yX8_dark]
def wsX8_pass_r2 : List Cond := [Cond.code yX8_dark cX8_dark 3 (some .int), Cond.methodLink RX8 82 yX8_acted, Cond.instanceMethod yX8_acted, Cond.selects RX8 yX8_acted yX8_acted, Cond.code yX8_acted cX8_acted 3 (some .int), Cond.fieldLink RX8 25 "TurnedBoardsModel" "states" "I", Cond.fieldLink RX8 19 "TurnedBoardsModel" "past" "[I"]
def wsX8_pass : List Cond := .code yX8_pass cX8_pass 5 (some .int) :: ((wsX8_pass_r1 ++ wsX8_pass_r2) ++ wsX80)
def wsX8_set : List Cond := .code yX8_set cX8_set 4 (some .int) :: ([.fieldLink RX8 7 "TurnedBoardsModel" "s" "[I", .methodLink RX8 79 yX8_begins, .instanceMethod yX8_begins, .selects RX8 yX8_begins yX8_begins, .initialized RX8, .code yX8_begins cX8_begins 2 none, .fieldLink RX8 13 "TurnedBoardsModel" "begun" "[I", .methodLink RX8 56 yX8_in, .static yX8_in, .code yX8_in cX8_in 3 (some .boolean), .methodLink RX8 82 yX8_acted, .instanceMethod yX8_acted, .selects RX8 yX8_acted yX8_acted, .code yX8_acted cX8_acted 3 (some .int), .fieldLink RX8 25 "TurnedBoardsModel" "states" "I", .fieldLink RX8 19 "TurnedBoardsModel" "past" "[I"] ++ wsX80)
def wsX8_orNone : List Cond := .code yX8_orNone cX8_orNone 1 (some .int) :: ([])
def wsX8_nearest : List Cond := .code yX8_nearest cX8_nearest 6 (some .int) :: ([.methodLink RX8 29 yX8_drawn, .instanceMethod yX8_drawn, .selects RX8 yX8_drawn yX8_drawn, .initialized RX8, .code yX8_drawn cX8_drawn 2 (some .int), .fieldLink RX8 7 "TurnedBoardsModel" "s" "[I", .methodLink RX8 33 yX8_dark, .static yX8_dark, .code yX8_dark cX8_dark 3 (some .int)] ++ wsX80)
def wsX8_often : List Cond := .code yX8_often cX8_often 4 (some .int) :: ([.fieldLink RX8 7 "TurnedBoardsModel" "s" "[I"] ++ wsX80)
def wsX8_letterOf_r1 : List Cond := [Cond.methodLink RX8 56 yX8_in, Cond.static yX8_in, Cond.initialized RX8, Cond.code yX8_in cX8_in 3 (some .boolean), Cond.methodLink RX8 99 yX8_often, Cond.instanceMethod yX8_often, Cond.selects RX8 yX8_often yX8_often, Cond.code yX8_often cX8_often 4 (some .int), Cond.fieldLink RX8 7 "TurnedBoardsModel" "s" "[I", Cond.methodLink RX8 29 yX8_drawn, Cond.instanceMethod yX8_drawn, Cond.selects RX8 yX8_drawn yX8_drawn, Cond.code yX8_drawn cX8_drawn 2 (some .int), Cond.methodLink RX8 36 yX8_turned, Cond.static yX8_turned, Cond.code yX8_turned cX8_turned 3 (some .int), Cond.methodLink RX8 33 yX8_dark, Cond.static yX8_dark, Cond.code yX8_dark cX8_dark 3 (some .int), Cond.methodLink RX8 49 yX8_readAs, Cond.instanceMethod yX8_readAs, Cond.selects RX8 yX8_readAs yX8_readAs, Cond.code yX8_readAs cX8_readAs 6 (some .int), Cond.methodLink RX8 102 yX8_nearest]
def wsX8_letterOf_r2 : List Cond := [Cond.instanceMethod yX8_nearest, Cond.selects RX8 yX8_nearest yX8_nearest, Cond.code yX8_nearest cX8_nearest 6 (some .int), Cond.methodLink RX8 105 yX8_orNone, Cond.static yX8_orNone, Cond.code yX8_orNone cX8_orNone 1 (some .int)]
def wsX8_letterOf : List Cond := .code yX8_letterOf cX8_letterOf 3 (some .int) :: ((wsX8_letterOf_r1 ++ wsX8_letterOf_r2) ++ wsX80)
def wsX8_placeOf_r1 : List Cond := [Cond.methodLink RX8 85 yX8_isPlace, Cond.instanceMethod yX8_isPlace, Cond.selects RX8 yX8_isPlace yX8_isPlace, Cond.initialized RX8, Cond.code yX8_isPlace cX8_isPlace 2 (some .boolean), Cond.fieldLink RX8 7 "TurnedBoardsModel" "s" "[I", Cond.methodLink RX8 56 yX8_in, Cond.static yX8_in, Cond.code yX8_in cX8_in 3 (some .boolean), Cond.methodLink RX8 60 yX8_signOf, Cond.instanceMethod yX8_signOf, Cond.selects RX8 yX8_signOf yX8_signOf, Cond.code yX8_signOf cX8_signOf 2 (some .int), Cond.methodLink RX8 63 yX8_coats, Cond.instanceMethod yX8_coats, Cond.selects RX8 yX8_coats yX8_coats, Cond.code yX8_coats cX8_coats 2 (some .int), Cond.methodLink RX8 108 yX8_readAt, Cond.instanceMethod yX8_readAt, Cond.selects RX8 yX8_readAt yX8_readAt, Cond.code yX8_readAt cX8_readAt 3 (some .int), Cond.methodLink RX8 66 yX8_signBy, Cond.instanceMethod yX8_signBy, Cond.selects RX8 yX8_signBy yX8_signBy]
def wsX8_placeOf_r2 : List Cond := [Cond.code yX8_signBy cX8_signBy 3 (some .int), Cond.methodLink RX8 36 yX8_turned, Cond.static yX8_turned, Cond.code yX8_turned cX8_turned 3 (some .int), Cond.methodLink RX8 49 yX8_readAs, Cond.instanceMethod yX8_readAs, Cond.selects RX8 yX8_readAs yX8_readAs, Cond.code yX8_readAs cX8_readAs 6 (some .int), Cond.methodLink RX8 29 yX8_drawn, Cond.instanceMethod yX8_drawn, Cond.selects RX8 yX8_drawn yX8_drawn, Cond.code yX8_drawn cX8_drawn 2 (some .int), Cond.methodLink RX8 33 yX8_dark, Cond.static yX8_dark, Cond.code yX8_dark cX8_dark 3 (some .int), Cond.methodLink RX8 105 yX8_orNone, Cond.static yX8_orNone, Cond.code yX8_orNone cX8_orNone 1 (some .int), Cond.methodLink RX8 69 yX8_wanted, Cond.instanceMethod yX8_wanted, Cond.selects RX8 yX8_wanted yX8_wanted, Cond.code yX8_wanted cX8_wanted 3 (some .int), Cond.methodLink RX8 52 yX8_margin, Cond.instanceMethod yX8_margin]
def wsX8_placeOf_r3 : List Cond := [Cond.selects RX8 yX8_margin yX8_margin, Cond.code yX8_margin cX8_margin 6 (some .int)]
def wsX8_placeOf : List Cond := .code yX8_placeOf cX8_placeOf 4 (some .int) :: ((wsX8_placeOf_r1 ++ (wsX8_placeOf_r2 ++ wsX8_placeOf_r3)) ++ wsX80)
def wsX8_reads_r1 : List Cond := [Cond.fieldLink RX8 7 "TurnedBoardsModel" "s" "[I", Cond.methodLink RX8 56 yX8_in, Cond.static yX8_in, Cond.initialized RX8, Cond.code yX8_in cX8_in 3 (some .boolean), Cond.methodLink RX8 108 yX8_readAt, Cond.instanceMethod yX8_readAt, Cond.selects RX8 yX8_readAt yX8_readAt, Cond.code yX8_readAt cX8_readAt 3 (some .int), Cond.methodLink RX8 63 yX8_coats, Cond.instanceMethod yX8_coats, Cond.selects RX8 yX8_coats yX8_coats, Cond.code yX8_coats cX8_coats 2 (some .int), Cond.methodLink RX8 66 yX8_signBy, Cond.instanceMethod yX8_signBy, Cond.selects RX8 yX8_signBy yX8_signBy, Cond.code yX8_signBy cX8_signBy 3 (some .int), Cond.methodLink RX8 60 yX8_signOf, Cond.instanceMethod yX8_signOf, Cond.selects RX8 yX8_signOf yX8_signOf, Cond.code yX8_signOf cX8_signOf 2 (some .int), Cond.methodLink RX8 36 yX8_turned, Cond.static yX8_turned, Cond.code yX8_turned cX8_turned 3 (some .int)]
def wsX8_reads_r2 : List Cond := [Cond.methodLink RX8 49 yX8_readAs, Cond.instanceMethod yX8_readAs, Cond.selects RX8 yX8_readAs yX8_readAs, Cond.code yX8_readAs cX8_readAs 6 (some .int), Cond.methodLink RX8 29 yX8_drawn, Cond.instanceMethod yX8_drawn, Cond.selects RX8 yX8_drawn yX8_drawn, Cond.code yX8_drawn cX8_drawn 2 (some .int), Cond.methodLink RX8 33 yX8_dark, Cond.static yX8_dark, Cond.code yX8_dark cX8_dark 3 (some .int), Cond.methodLink RX8 105 yX8_orNone, Cond.static yX8_orNone, Cond.code yX8_orNone cX8_orNone 1 (some .int)]
def wsX8_reads : List Cond := .code yX8_reads cX8_reads 4 (some .int) :: ((wsX8_reads_r1 ++ wsX8_reads_r2) ++ wsX80)
def wsX8_wrong_r1 : List Cond := [Cond.fieldLink RX8 7 "TurnedBoardsModel" "s" "[I", Cond.methodLink RX8 108 yX8_readAt, Cond.instanceMethod yX8_readAt, Cond.selects RX8 yX8_readAt yX8_readAt, Cond.initialized RX8, Cond.code yX8_readAt cX8_readAt 3 (some .int), Cond.methodLink RX8 63 yX8_coats, Cond.instanceMethod yX8_coats, Cond.selects RX8 yX8_coats yX8_coats, Cond.code yX8_coats cX8_coats 2 (some .int), Cond.methodLink RX8 66 yX8_signBy, Cond.instanceMethod yX8_signBy, Cond.selects RX8 yX8_signBy yX8_signBy, Cond.code yX8_signBy cX8_signBy 3 (some .int), Cond.methodLink RX8 60 yX8_signOf, Cond.instanceMethod yX8_signOf, Cond.selects RX8 yX8_signOf yX8_signOf, Cond.code yX8_signOf cX8_signOf 2 (some .int), Cond.methodLink RX8 36 yX8_turned, Cond.static yX8_turned, Cond.code yX8_turned cX8_turned 3 (some .int), Cond.methodLink RX8 49 yX8_readAs, Cond.instanceMethod yX8_readAs, Cond.selects RX8 yX8_readAs yX8_readAs]
def wsX8_wrong_r2 : List Cond := [Cond.code yX8_readAs cX8_readAs 6 (some .int), Cond.methodLink RX8 29 yX8_drawn, Cond.instanceMethod yX8_drawn, Cond.selects RX8 yX8_drawn yX8_drawn, Cond.code yX8_drawn cX8_drawn 2 (some .int), Cond.methodLink RX8 33 yX8_dark, Cond.static yX8_dark, Cond.code yX8_dark cX8_dark 3 (some .int), Cond.methodLink RX8 69 yX8_wanted, Cond.instanceMethod yX8_wanted, Cond.selects RX8 yX8_wanted yX8_wanted, Cond.code yX8_wanted cX8_wanted 3 (some .int)]
def wsX8_wrong : List Cond := .code yX8_wrong cX8_wrong 4 (some .int) :: ((wsX8_wrong_r1 ++ wsX8_wrong_r2) ++ wsX80)
def wsX8_word_r1 : List Cond := [Cond.fieldLink RX8 7 "TurnedBoardsModel" "s" "[I", Cond.methodLink RX8 56 yX8_in, Cond.static yX8_in, Cond.initialized RX8, Cond.code yX8_in cX8_in 3 (some .boolean), Cond.methodLink RX8 111 yX8_wrong, Cond.instanceMethod yX8_wrong, Cond.selects RX8 yX8_wrong yX8_wrong, Cond.code yX8_wrong cX8_wrong 4 (some .int), Cond.methodLink RX8 108 yX8_readAt, Cond.instanceMethod yX8_readAt, Cond.selects RX8 yX8_readAt yX8_readAt, Cond.code yX8_readAt cX8_readAt 3 (some .int), Cond.methodLink RX8 63 yX8_coats, Cond.instanceMethod yX8_coats, Cond.selects RX8 yX8_coats yX8_coats, Cond.code yX8_coats cX8_coats 2 (some .int), Cond.methodLink RX8 66 yX8_signBy, Cond.instanceMethod yX8_signBy, Cond.selects RX8 yX8_signBy yX8_signBy, Cond.code yX8_signBy cX8_signBy 3 (some .int), Cond.methodLink RX8 60 yX8_signOf, Cond.instanceMethod yX8_signOf, Cond.selects RX8 yX8_signOf yX8_signOf]
def wsX8_word_r2 : List Cond := [Cond.code yX8_signOf cX8_signOf 2 (some .int), Cond.methodLink RX8 36 yX8_turned, Cond.static yX8_turned, Cond.code yX8_turned cX8_turned 3 (some .int), Cond.methodLink RX8 49 yX8_readAs, Cond.instanceMethod yX8_readAs, Cond.selects RX8 yX8_readAs yX8_readAs, Cond.code yX8_readAs cX8_readAs 6 (some .int), Cond.methodLink RX8 29 yX8_drawn, Cond.instanceMethod yX8_drawn, Cond.selects RX8 yX8_drawn yX8_drawn, Cond.code yX8_drawn cX8_drawn 2 (some .int), Cond.methodLink RX8 33 yX8_dark, Cond.static yX8_dark, Cond.code yX8_dark cX8_dark 3 (some .int), Cond.methodLink RX8 69 yX8_wanted, Cond.instanceMethod yX8_wanted, Cond.selects RX8 yX8_wanted yX8_wanted, Cond.code yX8_wanted cX8_wanted 3 (some .int)]
def wsX8_word : List Cond := .code yX8_word cX8_word 3 (some .int) :: ((wsX8_word_r1 ++ wsX8_word_r2) ++ wsX80)
def wsX8_drawnSet : List Cond := .code yX8_drawnSet cX8_drawnSet 3 (some .int) :: ([.methodLink RX8 29 yX8_drawn, .instanceMethod yX8_drawn, .selects RX8 yX8_drawn yX8_drawn, .initialized RX8, .code yX8_drawn cX8_drawn 2 (some .int), .fieldLink RX8 7 "TurnedBoardsModel" "s" "[I"] ++ wsX80)
def wsX8_paintedOr : List Cond := .code yX8_paintedOr cX8_paintedOr 4 (some .int) :: ([.fieldLink RX8 7 "TurnedBoardsModel" "s" "[I", .methodLink RX8 63 yX8_coats, .instanceMethod yX8_coats, .selects RX8 yX8_coats yX8_coats, .initialized RX8, .code yX8_coats cX8_coats 2 (some .int)] ++ wsX80)
def wsX8_count : List Cond := .code yX8_count cX8_count 2 (some .int) :: ([.fieldLink RX8 7 "TurnedBoardsModel" "s" "[I", .fieldLink RX8 25 "TurnedBoardsModel" "states" "I", .fieldLink RX8 122 "TurnedBoardsModel" "length" "I", .fieldLink RX8 125 "TurnedBoardsModel" "isKept" "Z", .methodLink RX8 114 yX8_drawnSet, .instanceMethod yX8_drawnSet, .selects RX8 yX8_drawnSet yX8_drawnSet, .initialized RX8, .code yX8_drawnSet cX8_drawnSet 3 (some .int), .methodLink RX8 29 yX8_drawn, .instanceMethod yX8_drawn, .selects RX8 yX8_drawn yX8_drawn, .code yX8_drawn cX8_drawn 2 (some .int), .methodLink RX8 118 yX8_paintedOr, .instanceMethod yX8_paintedOr, .selects RX8 yX8_paintedOr yX8_paintedOr, .code yX8_paintedOr cX8_paintedOr 4 (some .int), .methodLink RX8 63 yX8_coats, .instanceMethod yX8_coats, .selects RX8 yX8_coats yX8_coats, .code yX8_coats cX8_coats 2 (some .int), .methodLink RX8 56 yX8_in, .static yX8_in, .code yX8_in cX8_in 3 (some .boolean)] ++ wsX80)
def wsX8_composed_r1 : List Cond := [Cond.fieldLink RX8 39 "TurnedBoardsModel" "composedSign" "I", Cond.fieldLink RX8 42 "TurnedBoardsModel" "composedMargin" "I", Cond.methodLink RX8 56 yX8_in, Cond.static yX8_in, Cond.initialized RX8, Cond.code yX8_in cX8_in 3 (some .boolean), Cond.methodLink RX8 72 yX8_areDrawn, Cond.instanceMethod yX8_areDrawn, Cond.selects RX8 yX8_areDrawn yX8_areDrawn, Cond.code yX8_areDrawn cX8_areDrawn 3 (some .boolean), Cond.methodLink RX8 29 yX8_drawn, Cond.instanceMethod yX8_drawn, Cond.selects RX8 yX8_drawn yX8_drawn, Cond.code yX8_drawn cX8_drawn 2 (some .int), Cond.fieldLink RX8 7 "TurnedBoardsModel" "s" "[I", Cond.methodLink RX8 36 yX8_turned, Cond.static yX8_turned, Cond.code yX8_turned cX8_turned 3 (some .int), Cond.methodLink RX8 33 yX8_dark, Cond.static yX8_dark, Cond.code yX8_dark cX8_dark 3 (some .int), Cond.methodLink RX8 76 yX8_composes, Cond.instanceMethod yX8_composes, Cond.selects RX8 yX8_composes yX8_composes]
def wsX8_composed_r2 : List Cond := [Cond.code yX8_composes cX8_composes 8 (some .boolean), Cond.methodLink RX8 45 yX8_tries, Cond.instanceMethod yX8_tries, Cond.selects RX8 yX8_tries yX8_tries, Cond.code yX8_tries cX8_tries 8 none, Cond.methodLink RX8 49 yX8_readAs, Cond.instanceMethod yX8_readAs, Cond.selects RX8 yX8_readAs yX8_readAs, Cond.code yX8_readAs cX8_readAs 6 (some .int), Cond.methodLink RX8 52 yX8_margin, Cond.instanceMethod yX8_margin, Cond.selects RX8 yX8_margin yX8_margin, Cond.code yX8_margin cX8_margin 6 (some .int), Cond.methodLink RX8 105 yX8_orNone, Cond.static yX8_orNone, Cond.code yX8_orNone cX8_orNone 1 (some .int)]
def wsX8_composed : List Cond := .code yX8_composed cX8_composed 5 (some .int) :: ((wsX8_composed_r1 ++ wsX8_composed_r2) ++ wsX80)
def wsX8_goesWith_r1 : List Cond := [Cond.fieldLink RX8 42 "TurnedBoardsModel" "composedMargin" "I", Cond.methodLink RX8 56 yX8_in, Cond.static yX8_in, Cond.initialized RX8, Cond.code yX8_in cX8_in 3 (some .boolean), Cond.methodLink RX8 29 yX8_drawn, Cond.instanceMethod yX8_drawn, Cond.selects RX8 yX8_drawn yX8_drawn, Cond.code yX8_drawn cX8_drawn 2 (some .int), Cond.fieldLink RX8 7 "TurnedBoardsModel" "s" "[I", Cond.methodLink RX8 76 yX8_composes, Cond.instanceMethod yX8_composes, Cond.selects RX8 yX8_composes yX8_composes, Cond.code yX8_composes cX8_composes 8 (some .boolean), Cond.fieldLink RX8 39 "TurnedBoardsModel" "composedSign" "I", Cond.methodLink RX8 36 yX8_turned, Cond.static yX8_turned, Cond.code yX8_turned cX8_turned 3 (some .int), Cond.methodLink RX8 45 yX8_tries, Cond.instanceMethod yX8_tries, Cond.selects RX8 yX8_tries yX8_tries, Cond.code yX8_tries cX8_tries 8 none, Cond.methodLink RX8 49 yX8_readAs, Cond.instanceMethod yX8_readAs]
def wsX8_goesWith_r2 : List Cond := [Cond.selects RX8 yX8_readAs yX8_readAs, Cond.code yX8_readAs cX8_readAs 6 (some .int), Cond.methodLink RX8 33 yX8_dark, Cond.static yX8_dark, Cond.code yX8_dark cX8_dark 3 (some .int), Cond.methodLink RX8 52 yX8_margin, Cond.instanceMethod yX8_margin, Cond.selects RX8 yX8_margin yX8_margin, Cond.code yX8_margin cX8_margin 6 (some .int), Cond.methodLink RX8 105 yX8_orNone, Cond.static yX8_orNone, Cond.code yX8_orNone cX8_orNone 1 (some .int)]
def wsX8_goesWith : List Cond := .code yX8_goesWith cX8_goesWith 5 (some .int) :: ((wsX8_goesWith_r1 ++ wsX8_goesWith_r2) ++ wsX80)
def wsJxf58ca_isNaN_12338 : List Cond := .code yJxf58ca_isNaN_12338 cJxf58ca_isNaN_12338 1 (some .boolean) :: ([])
def wsJxf58ca_floatToIntBits_5c35a : List Cond := .code yJxf58ca_floatToIntBits_5c35a cJxf58ca_floatToIntBits_5c35a 1 (some .int) :: ([.methodLink RJxf58ca 74 ⟨"java/lang/Float", "floatToRawIntBits", "(F)I"⟩, .native ⟨"java/lang/Float", "floatToRawIntBits", "(F)I"⟩, .static ⟨"java/lang/Float", "floatToRawIntBits", "(F)I"⟩, .initialized "java/lang/Float", .constant RJxf58ca 77 (2143289344), .methodLink RJxf58ca 59 yJxf58ca_isNaN_12338, .static yJxf58ca_isNaN_12338, .initialized RJxf58ca, .code yJxf58ca_isNaN_12338 cJxf58ca_isNaN_12338 1 (some .boolean)])
def wsX8_quality_r1 : List Cond := [Cond.fieldLink RX8 7 "TurnedBoardsModel" "s" "[I", Cond.methodLink RX8 69 yX8_wanted, Cond.instanceMethod yX8_wanted, Cond.selects RX8 yX8_wanted yX8_wanted, Cond.initialized RX8, Cond.code yX8_wanted cX8_wanted 3 (some .int), Cond.methodLink RX8 29 yX8_drawn, Cond.instanceMethod yX8_drawn, Cond.selects RX8 yX8_drawn yX8_drawn, Cond.code yX8_drawn cX8_drawn 2 (some .int), Cond.methodLink RX8 66 yX8_signBy, Cond.instanceMethod yX8_signBy, Cond.selects RX8 yX8_signBy yX8_signBy, Cond.code yX8_signBy cX8_signBy 3 (some .int), Cond.methodLink RX8 60 yX8_signOf, Cond.instanceMethod yX8_signOf, Cond.selects RX8 yX8_signOf yX8_signOf, Cond.code yX8_signOf cX8_signOf 2 (some .int), Cond.methodLink RX8 36 yX8_turned, Cond.static yX8_turned, Cond.code yX8_turned cX8_turned 3 (some .int), Cond.methodLink RX8 52 yX8_margin, Cond.instanceMethod yX8_margin, Cond.selects RX8 yX8_margin yX8_margin]
def wsX8_quality_r2 : List Cond := [Cond.code yX8_margin cX8_margin 6 (some .int), Cond.methodLink RX8 33 yX8_dark, Cond.static yX8_dark, Cond.code yX8_dark cX8_dark 3 (some .int), Cond.methodLink RX8 129 yJxf58ca_floatToIntBits_5c35a, Cond.static yJxf58ca_floatToIntBits_5c35a, Cond.initialized RJxf58ca, Cond.code yJxf58ca_floatToIntBits_5c35a cJxf58ca_floatToIntBits_5c35a 1 (some .int), Cond.methodLink RJxf58ca 74 ⟨"java/lang/Float", "floatToRawIntBits", "(F)I"⟩, Cond.native ⟨"java/lang/Float", "floatToRawIntBits", "(F)I"⟩, Cond.static ⟨"java/lang/Float", "floatToRawIntBits", "(F)I"⟩, Cond.initialized "java/lang/Float", Cond.constant RJxf58ca 77 (2143289344), Cond.methodLink RJxf58ca 59 yJxf58ca_isNaN_12338, Cond.static yJxf58ca_isNaN_12338, Cond.code yJxf58ca_isNaN_12338 cJxf58ca_isNaN_12338 1 (some .boolean)]
def wsX8_quality : List Cond := .code yX8_quality cX8_quality 4 (some .int) :: ((wsX8_quality_r1 ++ wsX8_quality_r2) ++ wsX80)
def wsX8_bareIn : List Cond := .code yX8_bareIn cX8_bareIn 3 (some .int) :: ([.fieldLink RX8 7 "TurnedBoardsModel" "s" "[I", .methodLink RX8 96 yX8_fades, .instanceMethod yX8_fades, .selects RX8 yX8_fades yX8_fades, .initialized RX8, .code yX8_fades cX8_fades 3 (some .boolean), .methodLink RX8 60 yX8_signOf, .instanceMethod yX8_signOf, .selects RX8 yX8_signOf yX8_signOf, .code yX8_signOf cX8_signOf 2 (some .int), .methodLink RX8 63 yX8_coats, .instanceMethod yX8_coats, .selects RX8 yX8_coats yX8_coats, .code yX8_coats cX8_coats 2 (some .int), .methodLink RX8 33 yX8_dark, .static yX8_dark, .code yX8_dark cX8_dark 3 (some .int), .methodLink RX8 105 yX8_orNone, .static yX8_orNone, .code yX8_orNone cX8_orNone 1 (some .int)] ++ wsX80)
def wsX8_keep : List Cond := .code yX8_keep cX8_keep 2 (some .int) :: ([.fieldLink RX8 16 "TurnedBoardsModel" "kept" "[I", .fieldLink RX8 7 "TurnedBoardsModel" "s" "[I", .fieldLink RX8 125 "TurnedBoardsModel" "isKept" "Z"] ++ wsX80)
def wsX8_restore : List Cond := .code yX8_restore cX8_restore 2 (some .int) :: ([.fieldLink RX8 125 "TurnedBoardsModel" "isKept" "Z", .fieldLink RX8 7 "TurnedBoardsModel" "s" "[I", .fieldLink RX8 16 "TurnedBoardsModel" "kept" "[I", .methodLink RX8 79 yX8_begins, .instanceMethod yX8_begins, .selects RX8 yX8_begins yX8_begins, .initialized RX8, .code yX8_begins cX8_begins 2 none, .fieldLink RX8 13 "TurnedBoardsModel" "begun" "[I", .methodLink RX8 82 yX8_acted, .instanceMethod yX8_acted, .selects RX8 yX8_acted yX8_acted, .code yX8_acted cX8_acted 3 (some .int), .fieldLink RX8 25 "TurnedBoardsModel" "states" "I", .fieldLink RX8 19 "TurnedBoardsModel" "past" "[I"] ++ wsX80)
def wsX8_undo : List Cond := .code yX8_undo cX8_undo 2 (some .int) :: ([.fieldLink RX8 25 "TurnedBoardsModel" "states" "I", .fieldLink RX8 7 "TurnedBoardsModel" "s" "[I", .fieldLink RX8 19 "TurnedBoardsModel" "past" "[I"] ++ wsX80)
def wsX8_type : List Cond := .code yX8_type cX8_type 2 (some .int) :: ([.fieldLink RX8 122 "TurnedBoardsModel" "length" "I", .fieldLink RX8 22 "TurnedBoardsModel" "text" "[I", .methodLink RX8 56 yX8_in, .static yX8_in, .initialized RX8, .code yX8_in cX8_in 3 (some .boolean)] ++ wsX80)
def wsX8_clearText : List Cond := .code yX8_clearText cX8_clearText 2 (some .int) :: ([.fieldLink RX8 122 "TurnedBoardsModel" "length" "I"] ++ wsX80)
def wsX8_breaks : List Cond := .code yX8_breaks cX8_breaks 3 (some .boolean) :: ([.fieldLink RX8 135 "TurnedBoardsModel" "at" "I", .fieldLink RX8 138 "TurnedBoardsModel" "why" "I"] ++ wsX80)
def wsX8_isLetter : List Cond := .code yX8_isLetter cX8_isLetter 2 (some .boolean) :: ([.fieldLink RX8 122 "TurnedBoardsModel" "length" "I", .fieldLink RX8 22 "TurnedBoardsModel" "text" "[I", .methodLink RX8 56 yX8_in, .static yX8_in, .initialized RX8, .code yX8_in cX8_in 3 (some .boolean)] ++ wsX80)
def wsX8_isForm : List Cond := .code yX8_isForm cX8_isForm 2 (some .boolean) :: ([.fieldLink RX8 147 "TurnedBoardsModel" "wide" "I", .fieldLink RX8 122 "TurnedBoardsModel" "length" "I", .fieldLink RX8 22 "TurnedBoardsModel" "text" "[I", .methodLink RX8 141 yX8_isLetter, .instanceMethod yX8_isLetter, .selects RX8 yX8_isLetter yX8_isLetter, .initialized RX8, .code yX8_isLetter cX8_isLetter 2 (some .boolean), .methodLink RX8 56 yX8_in, .static yX8_in, .code yX8_in cX8_in 3 (some .boolean), .methodLink RX8 144 yX8_breaks, .instanceMethod yX8_breaks, .selects RX8 yX8_breaks yX8_breaks, .code yX8_breaks cX8_breaks 3 (some .boolean), .fieldLink RX8 135 "TurnedBoardsModel" "at" "I", .fieldLink RX8 138 "TurnedBoardsModel" "why" "I"] ++ wsX80)
def wsX8_areWords_r1 : List Cond := [Cond.fieldLink RX8 122 "TurnedBoardsModel" "length" "I", Cond.fieldLink RX8 147 "TurnedBoardsModel" "wide" "I", Cond.fieldLink RX8 22 "TurnedBoardsModel" "text" "[I", Cond.methodLink RX8 150 yX8_isForm, Cond.instanceMethod yX8_isForm, Cond.selects RX8 yX8_isForm yX8_isForm, Cond.initialized RX8, Cond.code yX8_isForm cX8_isForm 2 (some .boolean), Cond.methodLink RX8 141 yX8_isLetter, Cond.instanceMethod yX8_isLetter, Cond.selects RX8 yX8_isLetter yX8_isLetter, Cond.code yX8_isLetter cX8_isLetter 2 (some .boolean), Cond.methodLink RX8 56 yX8_in, Cond.static yX8_in, Cond.code yX8_in cX8_in 3 (some .boolean), Cond.methodLink RX8 144 yX8_breaks, Cond.instanceMethod yX8_breaks, Cond.selects RX8 yX8_breaks yX8_breaks, Cond.code yX8_breaks cX8_breaks 3 (some .boolean), Cond.fieldLink RX8 135 "TurnedBoardsModel" "at" "I", Cond.fieldLink RX8 138 "TurnedBoardsModel" "why" "I", Cond.methodLink RX8 29 yX8_drawn, Cond.instanceMethod yX8_drawn, Cond.selects RX8 yX8_drawn yX8_drawn]
def wsX8_areWords_r2 : List Cond := [Cond.code yX8_drawn cX8_drawn 2 (some .int), Cond.fieldLink RX8 7 "TurnedBoardsModel" "s" "[I"]
def wsX8_areWords : List Cond := .code yX8_areWords cX8_areWords 2 (some .boolean) :: ((wsX8_areWords_r1 ++ wsX8_areWords_r2) ++ wsX80)
def wsX8_fault_r1 : List Cond := [Cond.fieldLink RX8 135 "TurnedBoardsModel" "at" "I", Cond.fieldLink RX8 138 "TurnedBoardsModel" "why" "I", Cond.methodLink RX8 56 yX8_in, Cond.static yX8_in, Cond.initialized RX8, Cond.code yX8_in cX8_in 3 (some .boolean), Cond.methodLink RX8 154 yX8_areWords, Cond.instanceMethod yX8_areWords, Cond.selects RX8 yX8_areWords yX8_areWords, Cond.code yX8_areWords cX8_areWords 2 (some .boolean), Cond.fieldLink RX8 122 "TurnedBoardsModel" "length" "I", Cond.fieldLink RX8 147 "TurnedBoardsModel" "wide" "I", Cond.fieldLink RX8 22 "TurnedBoardsModel" "text" "[I", Cond.methodLink RX8 150 yX8_isForm, Cond.instanceMethod yX8_isForm, Cond.selects RX8 yX8_isForm yX8_isForm, Cond.code yX8_isForm cX8_isForm 2 (some .boolean), Cond.methodLink RX8 141 yX8_isLetter, Cond.instanceMethod yX8_isLetter, Cond.selects RX8 yX8_isLetter yX8_isLetter, Cond.code yX8_isLetter cX8_isLetter 2 (some .boolean), Cond.methodLink RX8 144 yX8_breaks, Cond.instanceMethod yX8_breaks, Cond.selects RX8 yX8_breaks yX8_breaks]
def wsX8_fault_r2 : List Cond := [Cond.code yX8_breaks cX8_breaks 3 (some .boolean), Cond.methodLink RX8 29 yX8_drawn, Cond.instanceMethod yX8_drawn, Cond.selects RX8 yX8_drawn yX8_drawn, Cond.code yX8_drawn cX8_drawn 2 (some .int), Cond.fieldLink RX8 7 "TurnedBoardsModel" "s" "[I"]
def wsX8_fault : List Cond := .code yX8_fault cX8_fault 2 (some .int) :: ((wsX8_fault_r1 ++ wsX8_fault_r2) ++ wsX80)
def wsX8_read_r1 : List Cond := [Cond.fieldLink RX8 7 "TurnedBoardsModel" "s" "[I", Cond.fieldLink RX8 147 "TurnedBoardsModel" "wide" "I", Cond.fieldLink RX8 22 "TurnedBoardsModel" "text" "[I", Cond.methodLink RX8 79 yX8_begins, Cond.instanceMethod yX8_begins, Cond.selects RX8 yX8_begins yX8_begins, Cond.initialized RX8, Cond.code yX8_begins cX8_begins 2 none, Cond.fieldLink RX8 13 "TurnedBoardsModel" "begun" "[I", Cond.methodLink RX8 154 yX8_areWords, Cond.instanceMethod yX8_areWords, Cond.selects RX8 yX8_areWords yX8_areWords, Cond.code yX8_areWords cX8_areWords 2 (some .boolean), Cond.fieldLink RX8 122 "TurnedBoardsModel" "length" "I", Cond.methodLink RX8 150 yX8_isForm, Cond.instanceMethod yX8_isForm, Cond.selects RX8 yX8_isForm yX8_isForm, Cond.code yX8_isForm cX8_isForm 2 (some .boolean), Cond.methodLink RX8 141 yX8_isLetter, Cond.instanceMethod yX8_isLetter, Cond.selects RX8 yX8_isLetter yX8_isLetter, Cond.code yX8_isLetter cX8_isLetter 2 (some .boolean), Cond.methodLink RX8 56 yX8_in, Cond.static yX8_in]
def wsX8_read_r2 : List Cond := [Cond.code yX8_in cX8_in 3 (some .boolean), Cond.methodLink RX8 144 yX8_breaks, Cond.instanceMethod yX8_breaks, Cond.selects RX8 yX8_breaks yX8_breaks, Cond.code yX8_breaks cX8_breaks 3 (some .boolean), Cond.fieldLink RX8 135 "TurnedBoardsModel" "at" "I", Cond.fieldLink RX8 138 "TurnedBoardsModel" "why" "I", Cond.methodLink RX8 29 yX8_drawn, Cond.instanceMethod yX8_drawn, Cond.selects RX8 yX8_drawn yX8_drawn, Cond.code yX8_drawn cX8_drawn 2 (some .int), Cond.methodLink RX8 82 yX8_acted, Cond.instanceMethod yX8_acted, Cond.selects RX8 yX8_acted yX8_acted, Cond.code yX8_acted cX8_acted 3 (some .int), Cond.fieldLink RX8 25 "TurnedBoardsModel" "states" "I", Cond.fieldLink RX8 19 "TurnedBoardsModel" "past" "[I"]
def wsX8_read : List Cond := .code yX8_read cX8_read 2 (some .int) :: ((wsX8_read_r1 ++ wsX8_read_r2) ++ wsX80)
def wsJ9_max_7cf53 : List Cond := .code yJ9_max_7cf53 cJ9_max_7cf53 2 (some .int) :: ([])
def wsJ9_min_7cf53 : List Cond := .code yJ9_min_7cf53 cJ9_min_7cf53 2 (some .int) :: ([])
def wsL_law_r1 : List Cond := [Cond.classLink RL 7 RX7, Cond.instantiable RX7 6, Cond.initialized RX7, Cond.classLink RL 10 RX8, Cond.instantiable RX8 13, Cond.initialized RX8, Cond.methodLink RL 9 yX7_init, Cond.instanceMethod yX7_init, Cond.code yX7_init cX7_init 1 none, Cond.methodLink RX7 1 objectInit, Cond.instanceMethod objectInit, Cond.code objectInit ⟨#[0xb1]⟩ 1 none, Cond.classLink RX7 7 RX0, Cond.instantiable RX0 11, Cond.initialized RX0, Cond.fieldLink RX7 10 "TurnedBoards" "now" "LTurnedBoards$Board;", Cond.fieldLink RX7 16 "TurnedBoards" "snapshot" "LTurnedBoards$Board;", Cond.classLink RX7 19 RX2, Cond.instantiable RX2 2, Cond.initialized RX2, Cond.fieldLink RX7 22 "TurnedBoards" "history" "LTurnedBoards$History;", Cond.classLink RX7 26 RX5, Cond.instantiable RX5 2, Cond.initialized RX5]
def wsL_law_r2 : List Cond := [Cond.fieldLink RX7 29 "TurnedBoards" "text" "LTurnedBoards$Script;", Cond.classLink RX7 33 RX1, Cond.instantiable RX1 7, Cond.initialized RX1, Cond.fieldLink RX7 36 "TurnedBoards" "composer" "LTurnedBoards$Composer;", Cond.fieldLink RX7 40 "TurnedBoards" "hasSnapshot" "Z", Cond.methodLink RX7 9 yX0_init, Cond.instanceMethod yX0_init, Cond.code yX0_init cX0_init 1 none, Cond.methodLink RX0 3 objectInit, Cond.classLink RX0 9 RX3, Cond.instantiable RX3 1, Cond.initialized RX3, Cond.fieldLink RX0 12 "TurnedBoards$Board" "letters" "LTurnedBoards$Letters;", Cond.arrayClass .int, Cond.fieldLink RX0 18 "TurnedBoards$Board" "signs" "[I", Cond.fieldLink RX0 22 "TurnedBoards$Board" "coats" "[I", Cond.fieldLink RX0 25 "TurnedBoards$Board" "uprightWord" "[I", Cond.fieldLink RX0 28 "TurnedBoards$Board" "turnedWord" "[I", Cond.fieldLink RX0 31 "TurnedBoards$Board" "settings" "[I", Cond.fieldLink RX0 34 "TurnedBoards$Board" "places" "I", Cond.fieldLink RX0 38 "TurnedBoards$Board" "turned" "Z", Cond.fieldLink RX0 42 "TurnedBoards$Board" "stiffness" "I", Cond.fieldLink RX0 45 "TurnedBoards$Board" "day" "I"]
def wsL_law_r3 : List Cond := [Cond.fieldLink RX0 48 "TurnedBoards$Board" "turns" "I", Cond.methodLink RX0 11 yX3_init, Cond.instanceMethod yX3_init, Cond.code yX3_init cX3_init 1 none, Cond.methodLink RX3 3 objectInit, Cond.fieldLink RX3 9 "TurnedBoards$Letters" "drawn" "[I", Cond.methodLink RX3 15 yX4_fill, Cond.static yX4_fill, Cond.initialized RX4, Cond.code yX4_fill cX4_fill 3 none, Cond.methodLink RX0 51 yX4_put, Cond.static yX4_put, Cond.code yX4_put cX4_put 3 none, Cond.methodLink RX7 21 yX2_init, Cond.instanceMethod yX2_init, Cond.code yX2_init cX2_init 2 none, Cond.methodLink RX2 3 objectInit, Cond.classLink RX2 9 RX0, Cond.fieldLink RX2 11 "TurnedBoards$History" "states" "[LTurnedBoards$Board;", Cond.fieldLink RX2 17 "TurnedBoards$History" "size" "I", Cond.methodLink RX2 21 yX0_init, Cond.instanceMethod yX5_init, Cond.code yX5_init cX5_init 1 none, Cond.methodLink RX5 3 objectInit]
def wsL_law_r4 : List Cond := [Cond.fieldLink RX5 9 "TurnedBoards$Script" "characters" "[I", Cond.fieldLink RX5 15 "TurnedBoards$Script" "length" "I", Cond.instanceMethod yX1_init, Cond.code yX1_init cX1_init 1 none, Cond.methodLink RX1 3 objectInit, Cond.methodLink RL 12 yX8_init, Cond.instanceMethod yX8_init, Cond.code yX8_init cX8_init 2 none, Cond.methodLink RX8 1 objectInit, Cond.fieldLink RX8 7 "TurnedBoardsModel" "s" "[I", Cond.fieldLink RX8 13 "TurnedBoardsModel" "begun" "[I", Cond.fieldLink RX8 16 "TurnedBoardsModel" "kept" "[I", Cond.fieldLink RX8 19 "TurnedBoardsModel" "past" "[I", Cond.fieldLink RX8 22 "TurnedBoardsModel" "text" "[I", Cond.methodLink RL 13 yX7_letter, Cond.instanceMethod yX7_letter, Cond.selects RX7 yX7_letter yX7_letter, Cond.code yX7_letter cX7_letter 5 (some .int), Cond.methodLink RX7 44 yX7_isLetter, Cond.static yX7_isLetter, Cond.code yX7_isLetter cX7_isLetter 1 (some .boolean), Cond.methodLink RX7 48 yX7_isSign, Cond.static yX7_isSign, Cond.code yX7_isSign cX7_isSign 1 (some .boolean)]
def wsL_law_r5 : List Cond := [Cond.constant RX7 262 (32768), Cond.methodLink RX7 55 yX3_drawnAs, Cond.instanceMethod yX3_drawnAs, Cond.selects RX3 yX3_drawnAs yX3_drawnAs, Cond.code yX3_drawnAs cX3_drawnAs 3 (some .int), Cond.methodLink RX7 61 yX2_push, Cond.instanceMethod yX2_push, Cond.selects RX2 yX2_push yX2_push, Cond.code yX2_push cX2_push 3 none, Cond.methodLink RX2 22 yX2_moveOldestToEnd, Cond.instanceMethod yX2_moveOldestToEnd, Cond.selects RX2 yX2_moveOldestToEnd yX2_moveOldestToEnd, Cond.code yX2_moveOldestToEnd cX2_moveOldestToEnd 3 none, Cond.methodLink RX2 25 yX0_copyFrom, Cond.instanceMethod yX0_copyFrom, Cond.selects RX0 yX0_copyFrom yX0_copyFrom, Cond.code yX0_copyFrom cX0_copyFrom 2 none, Cond.methodLink RX0 57 yX3_copyFrom, Cond.instanceMethod yX3_copyFrom, Cond.selects RX3 yX3_copyFrom yX3_copyFrom, Cond.code yX3_copyFrom cX3_copyFrom 2 none, Cond.methodLink RX3 46 yX4_copy, Cond.static yX4_copy, Cond.code yX4_copy cX4_copy 3 none]
def wsL_law_r6 : List Cond := [Cond.methodLink RX0 61 yX4_copy, Cond.methodLink RX7 65 yX3_signFor, Cond.instanceMethod yX3_signFor, Cond.selects RX3 yX3_signFor yX3_signFor, Cond.code yX3_signFor cX3_signFor 2 (some .int), Cond.methodLink RX7 68 yX3_draw, Cond.instanceMethod yX3_draw, Cond.selects RX3 yX3_draw yX3_draw, Cond.code yX3_draw cX3_draw 3 none, Cond.methodLink RX3 25 yX4_put, Cond.methodLink RL 17 yX8_letter, Cond.instanceMethod yX8_letter, Cond.selects RX8 yX8_letter yX8_letter, Cond.code yX8_letter cX8_letter 4 (some .int), Cond.methodLink RX8 79 yX8_begins, Cond.instanceMethod yX8_begins, Cond.selects RX8 yX8_begins yX8_begins, Cond.code yX8_begins cX8_begins 2 none, Cond.methodLink RX8 56 yX8_in, Cond.static yX8_in, Cond.code yX8_in cX8_in 3 (some .boolean), Cond.methodLink RX8 29 yX8_drawn, Cond.instanceMethod yX8_drawn, Cond.selects RX8 yX8_drawn yX8_drawn]
def wsL_law_r7 : List Cond := [Cond.code yX8_drawn cX8_drawn 2 (some .int), Cond.methodLink RX8 82 yX8_acted, Cond.instanceMethod yX8_acted, Cond.selects RX8 yX8_acted yX8_acted, Cond.code yX8_acted cX8_acted 3 (some .int), Cond.fieldLink RX8 25 "TurnedBoardsModel" "states" "I", Cond.methodLink RL 18 yX7_sign, Cond.instanceMethod yX7_sign, Cond.selects RX7 yX7_sign yX7_sign, Cond.code yX7_sign cX7_sign 4 (some .int), Cond.methodLink RX7 72 yX0_hasPlace, Cond.instanceMethod yX0_hasPlace, Cond.selects RX0 yX0_hasPlace yX0_hasPlace, Cond.code yX0_hasPlace cX0_hasPlace 2 (some .boolean), Cond.methodLink RX7 75 yX0_signAt, Cond.instanceMethod yX0_signAt, Cond.selects RX0 yX0_signAt yX0_signAt, Cond.code yX0_signAt cX0_signAt 2 (some .int), Cond.methodLink RX0 69 yX4_at, Cond.static yX4_at, Cond.code yX4_at cX4_at 2 (some .int), Cond.methodLink RX7 78 yX0_hang, Cond.instanceMethod yX0_hang, Cond.selects RX0 yX0_hang yX0_hang]
def wsL_law_r8 : List Cond := [Cond.code yX0_hang cX0_hang 3 none, Cond.methodLink RX0 73 yX0_setting, Cond.instanceMethod yX0_setting, Cond.selects RX0 yX0_setting yX0_setting, Cond.code yX0_setting cX0_setting 2 (some .int), Cond.methodLink RX0 77 yX0_coat, Cond.instanceMethod yX0_coat, Cond.selects RX0 yX0_coat yX0_coat, Cond.code yX0_coat cX0_coat 3 none, Cond.methodLink RL 21 yX8_sign, Cond.instanceMethod yX8_sign, Cond.selects RX8 yX8_sign yX8_sign, Cond.code yX8_sign cX8_sign 4 (some .int), Cond.methodLink RX8 85 yX8_isPlace, Cond.instanceMethod yX8_isPlace, Cond.selects RX8 yX8_isPlace yX8_isPlace, Cond.code yX8_isPlace cX8_isPlace 2 (some .boolean), Cond.methodLink RX8 60 yX8_signOf, Cond.instanceMethod yX8_signOf, Cond.selects RX8 yX8_signOf yX8_signOf, Cond.code yX8_signOf cX8_signOf 2 (some .int), Cond.methodLink RX8 89 yX8_lays, Cond.instanceMethod yX8_lays, Cond.selects RX8 yX8_lays yX8_lays]
def wsL_law_r9 : List Cond := [Cond.code yX8_lays cX8_lays 3 none, Cond.methodLink RL 22 yX7_compose, Cond.instanceMethod yX7_compose, Cond.selects RX7 yX7_compose yX7_compose, Cond.code yX7_compose cX7_compose 2 (some .int), Cond.methodLink RX7 81 yX7_findFor, Cond.instanceMethod yX7_findFor, Cond.selects RX7 yX7_findFor yX7_findFor, Cond.code yX7_findFor cX7_findFor 2 (some .boolean), Cond.methodLink RX7 155 yX0_wantedAt, Cond.instanceMethod yX0_wantedAt, Cond.selects RX0 yX0_wantedAt yX0_wantedAt, Cond.code yX0_wantedAt cX0_wantedAt 3 (some .int), Cond.methodLink RX0 87 yX0_fromLeft, Cond.instanceMethod yX0_fromLeft, Cond.selects RX0 yX0_fromLeft yX0_fromLeft, Cond.code yX0_fromLeft cX0_fromLeft 3 (some .int), Cond.methodLink RX0 90 yX0_letterIn, Cond.instanceMethod yX0_letterIn, Cond.selects RX0 yX0_letterIn yX0_letterIn, Cond.code yX0_letterIn cX0_letterIn 3 (some .int), Cond.methodLink RX7 201 yX1_find, Cond.instanceMethod yX1_find, Cond.selects RX1 yX1_find yX1_find]
def wsL_law_r10 : List Cond := [Cond.code yX1_find cX1_find 4 (some .boolean), Cond.fieldLink RX1 9 "TurnedBoards$Composer" "best" "I", Cond.fieldLink RX1 15 "TurnedBoards$Composer" "bestLesser" "I", Cond.fieldLink RX1 24 "TurnedBoards$Composer" "letters" "LTurnedBoards$Letters;", Cond.fieldLink RX1 28 "TurnedBoards$Composer" "one" "I", Cond.fieldLink RX1 31 "TurnedBoards$Composer" "other" "I", Cond.fieldLink RX1 38 "TurnedBoards$Composer" "oneUpright" "I", Cond.fieldLink RX1 46 "TurnedBoards$Composer" "otherTurned" "I", Cond.methodLink RX1 18 yX3_has, Cond.instanceMethod yX3_has, Cond.selects RX3 yX3_has yX3_has, Cond.code yX3_has cX3_has 2 (some .boolean), Cond.methodLink RX3 21 yX3_signFor, Cond.methodLink RX1 34 yX3_signFor, Cond.methodLink RX1 41 yX6_turn, Cond.static yX6_turn, Cond.initialized RX6, Cond.code yX6_turn cX6_turn 2 (some .int), Cond.methodLink RX1 49 yX1_settle, Cond.instanceMethod yX1_settle, Cond.selects RX1 yX1_settle yX1_settle, Cond.code yX1_settle cX1_settle 5 none, Cond.methodLink RX1 57 Lib.Math.min.name, Cond.static Lib.Math.min.name]
def wsL_law_r11 : List Cond := [Cond.initialized "java/lang/Math", Cond.code Lib.Math.min.name Lib.Math.min.code 2 (some .int), Cond.methodLink RX1 53 yX3_leadOf, Cond.instanceMethod yX3_leadOf, Cond.selects RX3 yX3_leadOf yX3_leadOf, Cond.code yX3_leadOf cX3_leadOf 4 (some .int), Cond.methodLink RX3 40 yX3_marginOf, Cond.instanceMethod yX3_marginOf, Cond.selects RX3 yX3_marginOf yX3_marginOf, Cond.code yX3_marginOf cX3_marginOf 5 (some .int), Cond.methodLink RX3 34 Lib.Math.min.name, Cond.methodLink RX3 29 yJ6_bitCount_0f7a4, Cond.static yJ6_bitCount_0f7a4, Cond.initialized RJ6, Cond.code yJ6_bitCount_0f7a4 cJ6_bitCount_0f7a4 1 (some .int), Cond.constant RJ6 265 (1431655765), Cond.constant RJ6 266 (858993459), Cond.constant RJ6 267 (252645135), Cond.methodLink RX3 43 yX3_nearest, Cond.instanceMethod yX3_nearest, Cond.selects RX3 yX3_nearest yX3_nearest, Cond.code yX3_nearest cX3_nearest 7 (some .int), Cond.methodLink RX1 62 yX1_settleAs, Cond.instanceMethod yX1_settleAs]
def wsL_law_r12 : List Cond := [Cond.selects RX1 yX1_settleAs yX1_settleAs, Cond.code yX1_settleAs cX1_settleAs 4 none, Cond.methodLink RL 26 yX8_compose, Cond.instanceMethod yX8_compose, Cond.selects RX8 yX8_compose yX8_compose, Cond.code yX8_compose cX8_compose 2 (some .int), Cond.fieldLink RX8 39 "TurnedBoardsModel" "composedSign" "I", Cond.methodLink RX8 93 yX8_composesAt, Cond.instanceMethod yX8_composesAt, Cond.selects RX8 yX8_composesAt yX8_composesAt, Cond.code yX8_composesAt cX8_composesAt 4 (some .boolean), Cond.methodLink RX8 69 yX8_wanted, Cond.instanceMethod yX8_wanted, Cond.selects RX8 yX8_wanted yX8_wanted, Cond.code yX8_wanted cX8_wanted 3 (some .int), Cond.methodLink RX8 72 yX8_areDrawn, Cond.instanceMethod yX8_areDrawn, Cond.selects RX8 yX8_areDrawn yX8_areDrawn, Cond.code yX8_areDrawn cX8_areDrawn 3 (some .boolean), Cond.methodLink RX8 76 yX8_composes, Cond.instanceMethod yX8_composes, Cond.selects RX8 yX8_composes yX8_composes, Cond.code yX8_composes cX8_composes 8 (some .boolean), Cond.fieldLink RX8 42 "TurnedBoardsModel" "composedMargin" "I"]
def wsL_law_r13 : List Cond := [Cond.methodLink RX8 36 yX8_turned, Cond.static yX8_turned, Cond.code yX8_turned cX8_turned 3 (some .int), Cond.methodLink RX8 45 yX8_tries, Cond.instanceMethod yX8_tries, Cond.selects RX8 yX8_tries yX8_tries, Cond.code yX8_tries cX8_tries 8 none, Cond.methodLink RX8 49 yX8_readAs, Cond.instanceMethod yX8_readAs, Cond.selects RX8 yX8_readAs yX8_readAs, Cond.code yX8_readAs cX8_readAs 6 (some .int), Cond.methodLink RX8 33 yX8_dark, Cond.static yX8_dark, Cond.code yX8_dark cX8_dark 3 (some .int), Cond.methodLink RX8 52 yX8_margin, Cond.instanceMethod yX8_margin, Cond.selects RX8 yX8_margin yX8_margin, Cond.code yX8_margin cX8_margin 6 (some .int), Cond.methodLink RL 27 yX7_composeAll, Cond.instanceMethod yX7_composeAll, Cond.selects RX7 yX7_composeAll yX7_composeAll, Cond.code yX7_composeAll cX7_composeAll 3 (some .int), Cond.methodLink RL 31 yX8_composeAll, Cond.instanceMethod yX8_composeAll]
def wsL_law_r14 : List Cond := [Cond.selects RX8 yX8_composeAll yX8_composeAll, Cond.code yX8_composeAll cX8_composeAll 3 (some .int), Cond.methodLink RL 32 yX7_paint, Cond.instanceMethod yX7_paint, Cond.selects RX7 yX7_paint yX7_paint, Cond.code yX7_paint cX7_paint 3 (some .int), Cond.methodLink RX7 91 yX0_coatsAt, Cond.instanceMethod yX0_coatsAt, Cond.selects RX0 yX0_coatsAt yX0_coatsAt, Cond.code yX0_coatsAt cX0_coatsAt 2 (some .int), Cond.methodLink RX7 94 yX0_coat, Cond.methodLink RL 35 yX8_paint, Cond.instanceMethod yX8_paint, Cond.selects RX8 yX8_paint yX8_paint, Cond.code yX8_paint cX8_paint 2 (some .int), Cond.methodLink RX8 63 yX8_coats, Cond.instanceMethod yX8_coats, Cond.selects RX8 yX8_coats yX8_coats, Cond.code yX8_coats cX8_coats 2 (some .int), Cond.methodLink RL 36 yX7_gust, Cond.instanceMethod yX7_gust, Cond.selects RX7 yX7_gust yX7_gust, Cond.code yX7_gust cX7_gust 2 (some .int), Cond.methodLink RX7 97 yX7_isForce]
def wsL_law_r15 : List Cond := [Cond.static yX7_isForce, Cond.code yX7_isForce cX7_isForce 1 (some .boolean), Cond.methodLink RX7 103 yX0_turnRound, Cond.instanceMethod yX0_turnRound, Cond.selects RX0 yX0_turnRound yX0_turnRound, Cond.code yX0_turnRound cX0_turnRound 1 none, Cond.methodLink RX0 81 Lib.Math.max.name, Cond.static Lib.Math.max.name, Cond.code Lib.Math.max.name Lib.Math.max.code 2 (some .int), Cond.methodLink RL 39 yX8_gust, Cond.instanceMethod yX8_gust, Cond.selects RX8 yX8_gust yX8_gust, Cond.code yX8_gust cX8_gust 2 (some .int), Cond.methodLink RL 40 yX7_oil, Cond.instanceMethod yX7_oil, Cond.selects RX7 yX7_oil yX7_oil, Cond.code yX7_oil cX7_oil 3 (some .int), Cond.methodLink RL 43 yX8_oil, Cond.instanceMethod yX8_oil, Cond.selects RX8 yX8_oil yX8_oil, Cond.code yX8_oil cX8_oil 3 (some .int), Cond.methodLink RL 44 yX7_pass, Cond.instanceMethod yX7_pass, Cond.selects RX7 yX7_pass yX7_pass]
def wsL_law_r16 : List Cond := [Cond.code yX7_pass cX7_pass 4 (some .int), Cond.methodLink RX7 109 yX0_fadeOneDay, Cond.instanceMethod yX0_fadeOneDay, Cond.selects RX0 yX0_fadeOneDay yX0_fadeOneDay, Cond.code yX0_fadeOneDay cX0_fadeOneDay 3 (some .int), Cond.methodLink RX0 123 yX0_fades, Cond.instanceMethod yX0_fades, Cond.selects RX0 yX0_fades yX0_fades, Cond.code yX0_fades cX0_fades 2 (some .boolean), Cond.methodLink RX0 93 yX0_coatsAt, Cond.methodLink RX0 96 yX0_signAt, Cond.methodLink RX0 116 yX0_way, Cond.instanceMethod yX0_way, Cond.selects RX0 yX0_way yX0_way, Cond.code yX0_way cX0_way 1 (some .int), Cond.methodLink RX0 120 yX6_darkInUpperRows, Cond.static yX6_darkInUpperRows, Cond.code yX6_darkInUpperRows cX6_darkInUpperRows 2 (some .int), Cond.methodLink RX6 15 yJ6_bitCount_0f7a4, Cond.methodLink RL 47 yX8_pass, Cond.instanceMethod yX8_pass, Cond.selects RX8 yX8_pass yX8_pass, Cond.code yX8_pass cX8_pass 5 (some .int), Cond.methodLink RX8 96 yX8_fades]
def wsL_law_r17 : List Cond := [Cond.instanceMethod yX8_fades, Cond.selects RX8 yX8_fades yX8_fades, Cond.code yX8_fades cX8_fades 3 (some .boolean), Cond.methodLink RL 48 yX7_set, Cond.instanceMethod yX7_set, Cond.selects RX7 yX7_set yX7_set, Cond.code yX7_set cX7_set 4 (some .int), Cond.methodLink RX7 113 yX7_isOneOfTwo, Cond.static yX7_isOneOfTwo, Cond.code yX7_isOneOfTwo cX7_isOneOfTwo 1 (some .boolean), Cond.methodLink RX7 116 yX0_setting, Cond.methodLink RX7 123 yX4_put, Cond.methodLink RL 51 yX8_set, Cond.instanceMethod yX8_set, Cond.selects RX8 yX8_set yX8_set, Cond.code yX8_set cX8_set 4 (some .int), Cond.methodLink RL 52 yX7_letterOf, Cond.instanceMethod yX7_letterOf, Cond.selects RX7 yX7_letterOf yX7_letterOf, Cond.code yX7_letterOf cX7_letterOf 4 (some .int), Cond.methodLink RX7 129 yX0_timesWanted, Cond.instanceMethod yX0_timesWanted, Cond.selects RX0 yX0_timesWanted yX0_timesWanted, Cond.code yX0_timesWanted cX0_timesWanted 4 (some .int)]
def wsL_law_r18 : List Cond := [Cond.methodLink RX7 132 yX3_has, Cond.methodLink RX7 135 yX6_turn, Cond.methodLink RX7 140 yJ6_bitCount_0f7a4, Cond.methodLink RX7 145 yX3_nearest, Cond.methodLink RX7 149 yX7_foundOrNot, Cond.static yX7_foundOrNot, Cond.code yX7_foundOrNot cX7_foundOrNot 1 (some .int), Cond.methodLink RL 55 yX8_letterOf, Cond.instanceMethod yX8_letterOf, Cond.selects RX8 yX8_letterOf yX8_letterOf, Cond.code yX8_letterOf cX8_letterOf 3 (some .int), Cond.methodLink RX8 99 yX8_often, Cond.instanceMethod yX8_often, Cond.selects RX8 yX8_often yX8_often, Cond.code yX8_often cX8_often 4 (some .int), Cond.methodLink RX8 102 yX8_nearest, Cond.instanceMethod yX8_nearest, Cond.selects RX8 yX8_nearest yX8_nearest, Cond.code yX8_nearest cX8_nearest 6 (some .int), Cond.methodLink RX8 105 yX8_orNone, Cond.static yX8_orNone, Cond.code yX8_orNone cX8_orNone 1 (some .int), Cond.methodLink RL 56 yX7_placeOf, Cond.instanceMethod yX7_placeOf]
def wsL_law_r19 : List Cond := [Cond.selects RX7 yX7_placeOf yX7_placeOf, Cond.code yX7_placeOf cX7_placeOf 3 (some .int), Cond.methodLink RX7 152 yX0_readAt, Cond.instanceMethod yX0_readAt, Cond.selects RX0 yX0_readAt yX0_readAt, Cond.code yX0_readAt cX0_readAt 3 (some .int), Cond.methodLink RX0 99 yX6_seen, Cond.static yX6_seen, Cond.code yX6_seen cX6_seen 2 (some .int), Cond.methodLink RX6 9 yX6_turn, Cond.methodLink RX0 104 yX3_nearest, Cond.methodLink RX7 158 yX7_marginOrNot, Cond.instanceMethod yX7_marginOrNot, Cond.selects RX7 yX7_marginOrNot yX7_marginOrNot, Cond.code yX7_marginOrNot cX7_marginOrNot 3 (some .int), Cond.methodLink RX7 259 yX0_marginAt, Cond.instanceMethod yX0_marginAt, Cond.selects RX0 yX0_marginAt yX0_marginAt, Cond.code yX0_marginAt cX0_marginAt 3 (some .int), Cond.methodLink RX0 107 yX0_wantedAt, Cond.methodLink RX0 110 yX3_marginOf, Cond.methodLink RL 59 yX8_placeOf, Cond.instanceMethod yX8_placeOf, Cond.selects RX8 yX8_placeOf yX8_placeOf]
def wsL_law_r20 : List Cond := [Cond.code yX8_placeOf cX8_placeOf 4 (some .int), Cond.methodLink RX8 108 yX8_readAt, Cond.instanceMethod yX8_readAt, Cond.selects RX8 yX8_readAt yX8_readAt, Cond.code yX8_readAt cX8_readAt 3 (some .int), Cond.methodLink RX8 66 yX8_signBy, Cond.instanceMethod yX8_signBy, Cond.selects RX8 yX8_signBy yX8_signBy, Cond.code yX8_signBy cX8_signBy 3 (some .int), Cond.methodLink RL 60 yX7_reads, Cond.instanceMethod yX7_reads, Cond.selects RX7 yX7_reads yX7_reads, Cond.code yX7_reads cX7_reads 4 (some .int), Cond.methodLink RX7 161 yX0_way, Cond.methodLink RX7 164 yX7_otherWay, Cond.static yX7_otherWay, Cond.code yX7_otherWay cX7_otherWay 1 (some .int), Cond.methodLink RX7 167 yX0_fromLeft, Cond.methodLink RL 63 yX8_reads, Cond.instanceMethod yX8_reads, Cond.selects RX8 yX8_reads yX8_reads, Cond.code yX8_reads cX8_reads 4 (some .int), Cond.methodLink RL 64 yX7_word, Cond.instanceMethod yX7_word]
def wsL_law_r21 : List Cond := [Cond.selects RX7 yX7_word yX7_word, Cond.code yX7_word cX7_word 3 (some .int), Cond.methodLink RX7 170 yX0_misread, Cond.instanceMethod yX0_misread, Cond.selects RX0 yX0_misread yX0_misread, Cond.code yX0_misread cX0_misread 4 (some .int), Cond.methodLink RX0 113 yX0_readAt, Cond.methodLink RX7 173 yX7_asNumber, Cond.static yX7_asNumber, Cond.code yX7_asNumber cX7_asNumber 1 (some .int), Cond.methodLink RX7 177 yX0_letterIn, Cond.methodLink RL 67 yX8_word, Cond.instanceMethod yX8_word, Cond.selects RX8 yX8_word yX8_word, Cond.code yX8_word cX8_word 3 (some .int), Cond.methodLink RX8 111 yX8_wrong, Cond.instanceMethod yX8_wrong, Cond.selects RX8 yX8_wrong yX8_wrong, Cond.code yX8_wrong cX8_wrong 4 (some .int), Cond.methodLink RL 68 yX7_count, Cond.instanceMethod yX7_count, Cond.selects RX7 yX7_count yX7_count, Cond.code yX7_count cX7_count 2 (some .int), Cond.methodLink RX7 180 yX3_asSet]
def wsL_law_r22 : List Cond := [Cond.instanceMethod yX3_asSet, Cond.selects RX3 yX3_asSet yX3_asSet, Cond.code yX3_asSet cX3_asSet 3 (some .int), Cond.methodLink RX7 189 yX0_allCoats, Cond.instanceMethod yX0_allCoats, Cond.selects RX0 yX0_allCoats yX0_allCoats, Cond.code yX0_allCoats cX0_allCoats 3 (some .int), Cond.methodLink RX7 192 yX0_placesWithCoats, Cond.instanceMethod yX0_placesWithCoats, Cond.selects RX0 yX0_placesWithCoats yX0_placesWithCoats, Cond.code yX0_placesWithCoats cX0_placesWithCoats 3 (some .int), Cond.methodLink RL 71 yX8_count, Cond.instanceMethod yX8_count, Cond.selects RX8 yX8_count yX8_count, Cond.code yX8_count cX8_count 2 (some .int), Cond.fieldLink RX8 122 "TurnedBoardsModel" "length" "I", Cond.fieldLink RX8 125 "TurnedBoardsModel" "isKept" "Z", Cond.methodLink RX8 114 yX8_drawnSet, Cond.instanceMethod yX8_drawnSet, Cond.selects RX8 yX8_drawnSet yX8_drawnSet, Cond.code yX8_drawnSet cX8_drawnSet 3 (some .int), Cond.methodLink RX8 118 yX8_paintedOr, Cond.instanceMethod yX8_paintedOr, Cond.selects RX8 yX8_paintedOr yX8_paintedOr]
def wsL_law_r23 : List Cond := [Cond.code yX8_paintedOr cX8_paintedOr 4 (some .int), Cond.methodLink RL 72 yX7_composed, Cond.instanceMethod yX7_composed, Cond.selects RX7 yX7_composed yX7_composed, Cond.code yX7_composed cX7_composed 4 (some .int), Cond.methodLink RL 76 yX8_composed, Cond.instanceMethod yX8_composed, Cond.selects RX8 yX8_composed yX8_composed, Cond.code yX8_composed cX8_composed 5 (some .int), Cond.methodLink RL 77 yX7_goesWith, Cond.instanceMethod yX7_goesWith, Cond.selects RX7 yX7_goesWith yX7_goesWith, Cond.code yX7_goesWith cX7_goesWith 5 (some .int), Cond.methodLink RL 80 yX8_goesWith, Cond.instanceMethod yX8_goesWith, Cond.selects RX8 yX8_goesWith yX8_goesWith, Cond.code yX8_goesWith cX8_goesWith 5 (some .int), Cond.methodLink RL 81 yX7_quality, Cond.instanceMethod yX7_quality, Cond.selects RX7 yX7_quality yX7_quality, Cond.code yX7_quality cX7_quality 3 (some .int), Cond.methodLink RX7 208 yX7_marginOrZero, Cond.instanceMethod yX7_marginOrZero, Cond.selects RX7 yX7_marginOrZero yX7_marginOrZero]
def wsL_law_r24 : List Cond := [Cond.code yX7_marginOrZero cX7_marginOrZero 3 (some .int), Cond.methodLink RX7 211 yX7_bitsOf, Cond.static yX7_bitsOf, Cond.code yX7_bitsOf cX7_bitsOf 4 (some .int), Cond.constantFloat RX7 263 (1258291200), Cond.constant RX7 264 (-2147483648), Cond.methodLink RL 84 yX8_quality, Cond.instanceMethod yX8_quality, Cond.selects RX8 yX8_quality yX8_quality, Cond.code yX8_quality cX8_quality 4 (some .int), Cond.methodLink RX8 129 yJxf58ca_floatToIntBits_5c35a, Cond.static yJxf58ca_floatToIntBits_5c35a, Cond.initialized RJxf58ca, Cond.code yJxf58ca_floatToIntBits_5c35a cJxf58ca_floatToIntBits_5c35a 1 (some .int), Cond.methodLink RJxf58ca 74 ⟨"java/lang/Float", "floatToRawIntBits", "(F)I"⟩, Cond.native ⟨"java/lang/Float", "floatToRawIntBits", "(F)I"⟩, Cond.static ⟨"java/lang/Float", "floatToRawIntBits", "(F)I"⟩, Cond.initialized "java/lang/Float", Cond.constant RJxf58ca 77 (2143289344), Cond.methodLink RJxf58ca 59 yJxf58ca_isNaN_12338, Cond.static yJxf58ca_isNaN_12338, Cond.code yJxf58ca_isNaN_12338 cJxf58ca_isNaN_12338 1 (some .boolean), Cond.methodLink RL 85 yX7_bareIn, Cond.instanceMethod yX7_bareIn]
def wsL_law_r25 : List Cond := [Cond.selects RX7 yX7_bareIn yX7_bareIn, Cond.code yX7_bareIn cX7_bareIn 3 (some .int), Cond.methodLink RX7 218 Lib.Math.min.name, Cond.methodLink RX7 215 yX0_fades, Cond.methodLink RL 88 yX8_bareIn, Cond.instanceMethod yX8_bareIn, Cond.selects RX8 yX8_bareIn yX8_bareIn, Cond.code yX8_bareIn cX8_bareIn 3 (some .int), Cond.methodLink RL 89 yX7_keep, Cond.instanceMethod yX7_keep, Cond.selects RX7 yX7_keep yX7_keep, Cond.code yX7_keep cX7_keep 1 (some .int), Cond.methodLink RX7 223 yX0_copyFrom, Cond.methodLink RL 92 yX8_keep, Cond.instanceMethod yX8_keep, Cond.selects RX8 yX8_keep yX8_keep, Cond.code yX8_keep cX8_keep 2 (some .int), Cond.methodLink RL 93 yX7_restore, Cond.instanceMethod yX7_restore, Cond.selects RX7 yX7_restore yX7_restore, Cond.code yX7_restore cX7_restore 1 (some .int), Cond.methodLink RL 96 yX8_restore, Cond.instanceMethod yX8_restore, Cond.selects RX8 yX8_restore yX8_restore]
def wsL_law_r26 : List Cond := [Cond.code yX8_restore cX8_restore 2 (some .int), Cond.methodLink RL 97 yX7_undo, Cond.instanceMethod yX7_undo, Cond.selects RX7 yX7_undo yX7_undo, Cond.code yX7_undo cX7_undo 1 (some .int), Cond.methodLink RX7 226 yX2_popInto, Cond.instanceMethod yX2_popInto, Cond.selects RX2 yX2_popInto yX2_popInto, Cond.code yX2_popInto cX2_popInto 2 none, Cond.methodLink RL 100 yX8_undo, Cond.instanceMethod yX8_undo, Cond.selects RX8 yX8_undo yX8_undo, Cond.code yX8_undo cX8_undo 2 (some .int), Cond.methodLink RL 101 yX7_type, Cond.instanceMethod yX7_type, Cond.selects RX7 yX7_type yX7_type, Cond.code yX7_type cX7_type 2 (some .int), Cond.methodLink RX7 229 yX5_append, Cond.instanceMethod yX5_append, Cond.selects RX5 yX5_append yX5_append, Cond.code yX5_append cX5_append 2 none, Cond.methodLink RL 104 yX8_type, Cond.instanceMethod yX8_type, Cond.selects RX8 yX8_type yX8_type]
def wsL_law_r27 : List Cond := [Cond.code yX8_type cX8_type 2 (some .int), Cond.methodLink RL 105 yX7_clearText, Cond.instanceMethod yX7_clearText, Cond.selects RX7 yX7_clearText yX7_clearText, Cond.code yX7_clearText cX7_clearText 2 (some .int), Cond.methodLink RL 108 yX8_clearText, Cond.instanceMethod yX8_clearText, Cond.selects RX8 yX8_clearText yX8_clearText, Cond.code yX8_clearText cX8_clearText 2 (some .int), Cond.methodLink RL 109 yX7_fault, Cond.instanceMethod yX7_fault, Cond.selects RX7 yX7_fault yX7_fault, Cond.code yX7_fault cX7_fault 3 (some .int), Cond.methodLink RX7 233 yX5_faultCode, Cond.instanceMethod yX5_faultCode, Cond.selects RX5 yX5_faultCode yX5_faultCode, Cond.code yX5_faultCode cX5_faultCode 3 (some .int), Cond.methodLink RX5 32 yX5_formFault, Cond.instanceMethod yX5_formFault, Cond.selects RX5 yX5_formFault yX5_formFault, Cond.code yX5_formFault cX5_formFault 4 (some .int), Cond.methodLink RX5 51 Lib.Math.min.name, Cond.methodLink RX5 40 yX5_firstLength, Cond.instanceMethod yX5_firstLength]
def wsL_law_r28 : List Cond := [Cond.selects RX5 yX5_firstLength yX5_firstLength, Cond.code yX5_firstLength cX5_firstLength 1 (some .int), Cond.methodLink RX5 29 yX5_lettersFrom, Cond.instanceMethod yX5_lettersFrom, Cond.selects RX5 yX5_lettersFrom yX5_lettersFrom, Cond.code yX5_lettersFrom cX5_lettersFrom 3 (some .int), Cond.methodLink RX5 25 yX5_letterAt, Cond.instanceMethod yX5_letterAt, Cond.selects RX5 yX5_letterAt yX5_letterAt, Cond.code yX5_letterAt cX5_letterAt 3 (some .int), Cond.methodLink RX5 19 yX4_at, Cond.methodLink RX5 43 yX5_codeOf, Cond.static yX5_codeOf, Cond.code yX5_codeOf cX5_codeOf 2 (some .int), Cond.methodLink RX5 47 yX5_isSlash, Cond.instanceMethod yX5_isSlash, Cond.selects RX5 yX5_isSlash yX5_isSlash, Cond.code yX5_isSlash cX5_isSlash 2 (some .boolean), Cond.methodLink RX5 36 yX5_undrawnFault, Cond.instanceMethod yX5_undrawnFault, Cond.selects RX5 yX5_undrawnFault yX5_undrawnFault, Cond.code yX5_undrawnFault cX5_undrawnFault 4 (some .int), Cond.methodLink RX5 56 yX3_has, Cond.methodLink RX7 237 yX5_placeIn]
def wsL_law_r29 : List Cond := [Cond.static yX5_placeIn, Cond.code yX5_placeIn cX5_placeIn 1 (some .int), Cond.methodLink RX7 240 yX5_reasonIn, Cond.static yX5_reasonIn, Cond.code yX5_reasonIn cX5_reasonIn 1 (some .int), Cond.methodLink RL 112 yX8_fault, Cond.instanceMethod yX8_fault, Cond.selects RX8 yX8_fault yX8_fault, Cond.code yX8_fault cX8_fault 2 (some .int), Cond.fieldLink RX8 135 "TurnedBoardsModel" "at" "I", Cond.fieldLink RX8 138 "TurnedBoardsModel" "why" "I", Cond.methodLink RX8 154 yX8_areWords, Cond.instanceMethod yX8_areWords, Cond.selects RX8 yX8_areWords yX8_areWords, Cond.code yX8_areWords cX8_areWords 2 (some .boolean), Cond.fieldLink RX8 147 "TurnedBoardsModel" "wide" "I", Cond.methodLink RX8 150 yX8_isForm, Cond.instanceMethod yX8_isForm, Cond.selects RX8 yX8_isForm yX8_isForm, Cond.code yX8_isForm cX8_isForm 2 (some .boolean), Cond.methodLink RX8 141 yX8_isLetter, Cond.instanceMethod yX8_isLetter, Cond.selects RX8 yX8_isLetter yX8_isLetter, Cond.code yX8_isLetter cX8_isLetter 2 (some .boolean)]
def wsL_law_r30 : List Cond := [Cond.methodLink RX8 144 yX8_breaks, Cond.instanceMethod yX8_breaks, Cond.selects RX8 yX8_breaks yX8_breaks, Cond.code yX8_breaks cX8_breaks 3 (some .boolean), Cond.methodLink RL 113 yX7_read, Cond.instanceMethod yX7_read, Cond.selects RX7 yX7_read yX7_read, Cond.code yX7_read cX7_read 2 (some .int), Cond.methodLink RX7 243 yX5_firstLength, Cond.methodLink RX7 246 yX0_renew, Cond.instanceMethod yX0_renew, Cond.selects RX0 yX0_renew yX0_renew, Cond.code yX0_renew cX0_renew 2 none, Cond.methodLink RX0 65 yX4_fill, Cond.methodLink RX7 253 yX5_letterAt, Cond.methodLink RL 116 yX8_read, Cond.instanceMethod yX8_read, Cond.selects RX8 yX8_read yX8_read, Cond.code yX8_read cX8_read 2 (some .int)]
def wsL_law : List Cond := (wsL_law_r1 ++ (wsL_law_r2 ++ (wsL_law_r3 ++ (wsL_law_r4 ++ (wsL_law_r5 ++ (wsL_law_r6 ++ (wsL_law_r7 ++ (wsL_law_r8 ++ (wsL_law_r9 ++ (wsL_law_r10 ++ (wsL_law_r11 ++ (wsL_law_r12 ++ (wsL_law_r13 ++ (wsL_law_r14 ++ (wsL_law_r15 ++ (wsL_law_r16 ++ (wsL_law_r17 ++ (wsL_law_r18 ++ (wsL_law_r19 ++ (wsL_law_r20 ++ (wsL_law_r21 ++ (wsL_law_r22 ++ (wsL_law_r23 ++ (wsL_law_r24 ++ (wsL_law_r25 ++ (wsL_law_r26 ++ (wsL_law_r27 ++ (wsL_law_r28 ++ (wsL_law_r29 ++ wsL_law_r30))))))))))))))))))))))))))))) ++ wsX70 ++ wsX80 ++ wsX00 ++ wsX20 ++ wsX50 ++ wsX10 ++ wsX30 ++ ([] : List Cond)
end
section
set_option maxRecDepth 20000 in
theorem ggX0_init_X3_init : GoodIn wsX0_init wsX3_init := goodIn_r _ [21, 22, 2, 3, 8, 23, 24, 25, 26, 27, 31] (by decide +kernel) (by decide +kernel)
set_option maxRecDepth 20000 in
theorem gX0_init_X3_init : GoodIn wsX0_init (wsX3_init) := ggX0_init_X3_init
set_option maxRecDepth 20000 in
theorem ggX0_init_X4_put : GoodIn wsX0_init wsX4_put := goodIn_r _ [30] (by decide +kernel) (by decide +kernel)
set_option maxRecDepth 20000 in
theorem gX0_init_X4_put : GoodIn wsX0_init (va_wsS RX0 51 yX4_put wsX4_put) := goodIn_app (goodIn_of _ (by decide +kernel)) ggX0_init_X4_put
theorem dX0_init_0 : decode cX0_init 0 = .ok (.aload_n 0, 1) := by decide +kernel
theorem dX0_init_1 : decode cX0_init 1 = .ok (.invokespecial 3, 3) := by decide +kernel
theorem dX0_init_4 : decode cX0_init 4 = .ok (.aload_n 0, 1) := by decide +kernel
theorem dX0_init_5 : decode cX0_init 5 = .ok (.new 9, 3) := by decide +kernel
theorem dX0_init_8 : decode cX0_init 8 = .ok (.dup, 1) := by decide +kernel
theorem dX0_init_9 : decode cX0_init 9 = .ok (.invokespecial 11, 3) := by decide +kernel
theorem dX0_init_12 : decode cX0_init 12 = .ok (.putfield 12, 3) := by decide +kernel
theorem dX0_init_15 : decode cX0_init 15 = .ok (.aload_n 0, 1) := by decide +kernel
theorem dX0_init_16 : decode cX0_init 16 = .ok (.bipush 8, 2) := by decide +kernel
theorem dX0_init_18 : decode cX0_init 18 = .ok (.newarray .int, 2) := by decide +kernel
theorem dX0_init_20 : decode cX0_init 20 = .ok (.putfield 18, 3) := by decide +kernel
theorem dX0_init_23 : decode cX0_init 23 = .ok (.aload_n 0, 1) := by decide +kernel
theorem dX0_init_24 : decode cX0_init 24 = .ok (.bipush 8, 2) := by decide +kernel
theorem dX0_init_26 : decode cX0_init 26 = .ok (.newarray .int, 2) := by decide +kernel
theorem dX0_init_28 : decode cX0_init 28 = .ok (.putfield 22, 3) := by decide +kernel
theorem dX0_init_31 : decode cX0_init 31 = .ok (.aload_n 0, 1) := by decide +kernel
theorem dX0_init_32 : decode cX0_init 32 = .ok (.bipush 8, 2) := by decide +kernel
theorem dX0_init_34 : decode cX0_init 34 = .ok (.newarray .int, 2) := by decide +kernel
theorem dX0_init_36 : decode cX0_init 36 = .ok (.putfield 25, 3) := by decide +kernel
theorem dX0_init_39 : decode cX0_init 39 = .ok (.aload_n 0, 1) := by decide +kernel
theorem dX0_init_40 : decode cX0_init 40 = .ok (.bipush 8, 2) := by decide +kernel
theorem dX0_init_42 : decode cX0_init 42 = .ok (.newarray .int, 2) := by decide +kernel
theorem dX0_init_44 : decode cX0_init 44 = .ok (.putfield 28, 3) := by decide +kernel
theorem dX0_init_47 : decode cX0_init 47 = .ok (.aload_n 0, 1) := by decide +kernel
theorem dX0_init_48 : decode cX0_init 48 = .ok (.iconst 2, 1) := by decide +kernel
theorem dX0_init_49 : decode cX0_init 49 = .ok (.newarray .int, 2) := by decide +kernel
theorem dX0_init_51 : decode cX0_init 51 = .ok (.putfield 31, 3) := by decide +kernel
theorem dX0_init_54 : decode cX0_init 54 = .ok (.aload_n 0, 1) := by decide +kernel
theorem dX0_init_55 : decode cX0_init 55 = .ok (.iconst 0, 1) := by decide +kernel
theorem dX0_init_56 : decode cX0_init 56 = .ok (.putfield 34, 3) := by decide +kernel
theorem dX0_init_59 : decode cX0_init 59 = .ok (.aload_n 0, 1) := by decide +kernel
theorem dX0_init_60 : decode cX0_init 60 = .ok (.iconst 0, 1) := by decide +kernel
theorem dX0_init_61 : decode cX0_init 61 = .ok (.putfield 38, 3) := by decide +kernel
theorem dX0_init_64 : decode cX0_init 64 = .ok (.aload_n 0, 1) := by decide +kernel
theorem dX0_init_65 : decode cX0_init 65 = .ok (.bipush 20, 2) := by decide +kernel
theorem dX0_init_67 : decode cX0_init 67 = .ok (.putfield 42, 3) := by decide +kernel
theorem dX0_init_70 : decode cX0_init 70 = .ok (.aload_n 0, 1) := by decide +kernel
theorem dX0_init_71 : decode cX0_init 71 = .ok (.iconst 0, 1) := by decide +kernel
theorem dX0_init_72 : decode cX0_init 72 = .ok (.putfield 45, 3) := by decide +kernel
theorem dX0_init_75 : decode cX0_init 75 = .ok (.aload_n 0, 1) := by decide +kernel
theorem dX0_init_76 : decode cX0_init 76 = .ok (.iconst 0, 1) := by decide +kernel
theorem dX0_init_77 : decode cX0_init 77 = .ok (.putfield 48, 3) := by decide +kernel
theorem dX0_init_80 : decode cX0_init 80 = .ok (.aload_n 0, 1) := by decide +kernel
theorem dX0_init_81 : decode cX0_init 81 = .ok (.getfield 31, 3) := by decide +kernel
theorem dX0_init_84 : decode cX0_init 84 = .ok (.iconst 0, 1) := by decide +kernel
theorem dX0_init_85 : decode cX0_init 85 = .ok (.iconst 4, 1) := by decide +kernel
theorem dX0_init_86 : decode cX0_init 86 = .ok (.invokestatic 51, 3) := by decide +kernel
theorem dX0_init_89 : decode cX0_init 89 = .ok (.aload_n 0, 1) := by decide +kernel
theorem dX0_init_90 : decode cX0_init 90 = .ok (.getfield 31, 3) := by decide +kernel
theorem dX0_init_93 : decode cX0_init 93 = .ok (.iconst 1, 1) := by decide +kernel
theorem dX0_init_94 : decode cX0_init 94 = .ok (.iconst 3, 1) := by decide +kernel
theorem dX0_init_95 : decode cX0_init 95 = .ok (.invokestatic 51, 3) := by decide +kernel
theorem dX0_init_98 : decode cX0_init 98 = .ok (.return_, 1) := by decide +kernel
set_option maxRecDepth 20000 in
theorem ggX0_copyFrom_X3_copyFrom : GoodIn wsX0_copyFrom wsX3_copyFrom := goodIn_r _ [16, 17, 18, 19, 20, 21, 34] (by decide +kernel) (by decide +kernel)
set_option maxRecDepth 20000 in
theorem gX0_copyFrom_X3_copyFrom : GoodIn wsX0_copyFrom (wsV RX0 57 RX3 yX3_copyFrom wsX3_copyFrom) := goodIn_app (goodIn_of _ (by decide +kernel)) ggX0_copyFrom_X3_copyFrom
set_option maxRecDepth 20000 in
theorem ggX0_copyFrom_X4_copy : GoodIn wsX0_copyFrom wsX4_copy := goodIn_r _ [21] (by decide +kernel) (by decide +kernel)
set_option maxRecDepth 20000 in
theorem gX0_copyFrom_X4_copy : GoodIn wsX0_copyFrom (va_wsS RX0 61 yX4_copy wsX4_copy) := goodIn_app (goodIn_of _ (by decide +kernel)) ggX0_copyFrom_X4_copy
theorem dX0_copyFrom_0 : decode cX0_copyFrom 0 = .ok (.aload_n 1, 1) := by decide +kernel
theorem dX0_copyFrom_1 : decode cX0_copyFrom 1 = .ok (.ifnonnull 4, 3) := by decide +kernel
theorem dX0_copyFrom_4 : decode cX0_copyFrom 4 = .ok (.return_, 1) := by decide +kernel
theorem dX0_copyFrom_5 : decode cX0_copyFrom 5 = .ok (.aload_n 0, 1) := by decide +kernel
theorem dX0_copyFrom_6 : decode cX0_copyFrom 6 = .ok (.getfield 12, 3) := by decide +kernel
theorem dX0_copyFrom_9 : decode cX0_copyFrom 9 = .ok (.aload_n 1, 1) := by decide +kernel
theorem dX0_copyFrom_10 : decode cX0_copyFrom 10 = .ok (.getfield 12, 3) := by decide +kernel
theorem dX0_copyFrom_13 : decode cX0_copyFrom 13 = .ok (.invokevirtual 57, 3) := by decide +kernel
theorem dX0_copyFrom_16 : decode cX0_copyFrom 16 = .ok (.aload_n 1, 1) := by decide +kernel
theorem dX0_copyFrom_17 : decode cX0_copyFrom 17 = .ok (.getfield 18, 3) := by decide +kernel
theorem dX0_copyFrom_20 : decode cX0_copyFrom 20 = .ok (.aload_n 0, 1) := by decide +kernel
theorem dX0_copyFrom_21 : decode cX0_copyFrom 21 = .ok (.getfield 18, 3) := by decide +kernel
theorem dX0_copyFrom_24 : decode cX0_copyFrom 24 = .ok (.invokestatic 61, 3) := by decide +kernel
theorem dX0_copyFrom_27 : decode cX0_copyFrom 27 = .ok (.aload_n 1, 1) := by decide +kernel
theorem dX0_copyFrom_28 : decode cX0_copyFrom 28 = .ok (.getfield 22, 3) := by decide +kernel
theorem dX0_copyFrom_31 : decode cX0_copyFrom 31 = .ok (.aload_n 0, 1) := by decide +kernel
theorem dX0_copyFrom_32 : decode cX0_copyFrom 32 = .ok (.getfield 22, 3) := by decide +kernel
theorem dX0_copyFrom_35 : decode cX0_copyFrom 35 = .ok (.invokestatic 61, 3) := by decide +kernel
theorem dX0_copyFrom_38 : decode cX0_copyFrom 38 = .ok (.aload_n 1, 1) := by decide +kernel
theorem dX0_copyFrom_39 : decode cX0_copyFrom 39 = .ok (.getfield 25, 3) := by decide +kernel
theorem dX0_copyFrom_42 : decode cX0_copyFrom 42 = .ok (.aload_n 0, 1) := by decide +kernel
theorem dX0_copyFrom_43 : decode cX0_copyFrom 43 = .ok (.getfield 25, 3) := by decide +kernel
theorem dX0_copyFrom_46 : decode cX0_copyFrom 46 = .ok (.invokestatic 61, 3) := by decide +kernel
theorem dX0_copyFrom_49 : decode cX0_copyFrom 49 = .ok (.aload_n 1, 1) := by decide +kernel
theorem dX0_copyFrom_50 : decode cX0_copyFrom 50 = .ok (.getfield 28, 3) := by decide +kernel
theorem dX0_copyFrom_53 : decode cX0_copyFrom 53 = .ok (.aload_n 0, 1) := by decide +kernel
theorem dX0_copyFrom_54 : decode cX0_copyFrom 54 = .ok (.getfield 28, 3) := by decide +kernel
theorem dX0_copyFrom_57 : decode cX0_copyFrom 57 = .ok (.invokestatic 61, 3) := by decide +kernel
theorem dX0_copyFrom_60 : decode cX0_copyFrom 60 = .ok (.aload_n 1, 1) := by decide +kernel
theorem dX0_copyFrom_61 : decode cX0_copyFrom 61 = .ok (.getfield 31, 3) := by decide +kernel
theorem dX0_copyFrom_64 : decode cX0_copyFrom 64 = .ok (.aload_n 0, 1) := by decide +kernel
theorem dX0_copyFrom_65 : decode cX0_copyFrom 65 = .ok (.getfield 31, 3) := by decide +kernel
theorem dX0_copyFrom_68 : decode cX0_copyFrom 68 = .ok (.invokestatic 61, 3) := by decide +kernel
theorem dX0_copyFrom_71 : decode cX0_copyFrom 71 = .ok (.aload_n 0, 1) := by decide +kernel
theorem dX0_copyFrom_72 : decode cX0_copyFrom 72 = .ok (.aload_n 1, 1) := by decide +kernel
theorem dX0_copyFrom_73 : decode cX0_copyFrom 73 = .ok (.getfield 34, 3) := by decide +kernel
theorem dX0_copyFrom_76 : decode cX0_copyFrom 76 = .ok (.putfield 34, 3) := by decide +kernel
theorem dX0_copyFrom_79 : decode cX0_copyFrom 79 = .ok (.aload_n 0, 1) := by decide +kernel
theorem dX0_copyFrom_80 : decode cX0_copyFrom 80 = .ok (.aload_n 1, 1) := by decide +kernel
theorem dX0_copyFrom_81 : decode cX0_copyFrom 81 = .ok (.getfield 38, 3) := by decide +kernel
theorem dX0_copyFrom_84 : decode cX0_copyFrom 84 = .ok (.putfield 38, 3) := by decide +kernel
theorem dX0_copyFrom_87 : decode cX0_copyFrom 87 = .ok (.aload_n 0, 1) := by decide +kernel
theorem dX0_copyFrom_88 : decode cX0_copyFrom 88 = .ok (.aload_n 1, 1) := by decide +kernel
theorem dX0_copyFrom_89 : decode cX0_copyFrom 89 = .ok (.getfield 42, 3) := by decide +kernel
theorem dX0_copyFrom_92 : decode cX0_copyFrom 92 = .ok (.putfield 42, 3) := by decide +kernel
theorem dX0_copyFrom_95 : decode cX0_copyFrom 95 = .ok (.aload_n 0, 1) := by decide +kernel
theorem dX0_copyFrom_96 : decode cX0_copyFrom 96 = .ok (.aload_n 1, 1) := by decide +kernel
theorem dX0_copyFrom_97 : decode cX0_copyFrom 97 = .ok (.getfield 45, 3) := by decide +kernel
theorem dX0_copyFrom_100 : decode cX0_copyFrom 100 = .ok (.putfield 45, 3) := by decide +kernel
theorem dX0_copyFrom_103 : decode cX0_copyFrom 103 = .ok (.aload_n 0, 1) := by decide +kernel
theorem dX0_copyFrom_104 : decode cX0_copyFrom 104 = .ok (.aload_n 1, 1) := by decide +kernel
theorem dX0_copyFrom_105 : decode cX0_copyFrom 105 = .ok (.getfield 48, 3) := by decide +kernel
theorem dX0_copyFrom_108 : decode cX0_copyFrom 108 = .ok (.putfield 48, 3) := by decide +kernel
theorem dX0_copyFrom_111 : decode cX0_copyFrom 111 = .ok (.return_, 1) := by decide +kernel
set_option maxRecDepth 20000 in
theorem ggX0_renew_X4_fill : GoodIn wsX0_renew wsX4_fill := goodIn_r _ [8] (by decide +kernel) (by decide +kernel)
set_option maxRecDepth 20000 in
theorem gX0_renew_X4_fill : GoodIn wsX0_renew (va_wsS RX0 65 yX4_fill wsX4_fill) := goodIn_app (goodIn_of _ (by decide +kernel)) ggX0_renew_X4_fill
theorem dX0_renew_0 : decode cX0_renew 0 = .ok (.aload_n 0, 1) := by decide +kernel
theorem dX0_renew_1 : decode cX0_renew 1 = .ok (.iload_n 1, 1) := by decide +kernel
theorem dX0_renew_2 : decode cX0_renew 2 = .ok (.putfield 34, 3) := by decide +kernel
theorem dX0_renew_5 : decode cX0_renew 5 = .ok (.aload_n 0, 1) := by decide +kernel
theorem dX0_renew_6 : decode cX0_renew 6 = .ok (.iconst 0, 1) := by decide +kernel
theorem dX0_renew_7 : decode cX0_renew 7 = .ok (.putfield 38, 3) := by decide +kernel
theorem dX0_renew_10 : decode cX0_renew 10 = .ok (.aload_n 0, 1) := by decide +kernel
theorem dX0_renew_11 : decode cX0_renew 11 = .ok (.getfield 18, 3) := by decide +kernel
theorem dX0_renew_14 : decode cX0_renew 14 = .ok (.iconst 0, 1) := by decide +kernel
theorem dX0_renew_15 : decode cX0_renew 15 = .ok (.invokestatic 65, 3) := by decide +kernel
theorem dX0_renew_18 : decode cX0_renew 18 = .ok (.aload_n 0, 1) := by decide +kernel
theorem dX0_renew_19 : decode cX0_renew 19 = .ok (.getfield 22, 3) := by decide +kernel
theorem dX0_renew_22 : decode cX0_renew 22 = .ok (.iconst 0, 1) := by decide +kernel
theorem dX0_renew_23 : decode cX0_renew 23 = .ok (.invokestatic 65, 3) := by decide +kernel
theorem dX0_renew_26 : decode cX0_renew 26 = .ok (.return_, 1) := by decide +kernel
theorem dX0_hasPlace_0 : decode cX0_hasPlace 0 = .ok (.iload_n 1, 1) := by decide +kernel
theorem dX0_hasPlace_1 : decode cX0_hasPlace 1 = .ok (.ifCond .lt 15, 3) := by decide +kernel
theorem dX0_hasPlace_4 : decode cX0_hasPlace 4 = .ok (.iload_n 1, 1) := by decide +kernel
theorem dX0_hasPlace_5 : decode cX0_hasPlace 5 = .ok (.aload_n 0, 1) := by decide +kernel
theorem dX0_hasPlace_6 : decode cX0_hasPlace 6 = .ok (.getfield 34, 3) := by decide +kernel
theorem dX0_hasPlace_9 : decode cX0_hasPlace 9 = .ok (.if_icmp .ge 7, 3) := by decide +kernel
theorem dX0_hasPlace_12 : decode cX0_hasPlace 12 = .ok (.iconst 1, 1) := by decide +kernel
theorem dX0_hasPlace_13 : decode cX0_hasPlace 13 = .ok (.goto 4, 3) := by decide +kernel
theorem dX0_hasPlace_16 : decode cX0_hasPlace 16 = .ok (.iconst 0, 1) := by decide +kernel
theorem dX0_hasPlace_17 : decode cX0_hasPlace 17 = .ok (.ireturn, 1) := by decide +kernel
set_option maxRecDepth 20000 in
theorem ggX0_signAt_X4_at : GoodIn wsX0_signAt wsX4_at := goodIn_r _ [5] (by decide +kernel) (by decide +kernel)
set_option maxRecDepth 20000 in
theorem gX0_signAt_X4_at : GoodIn wsX0_signAt (va_wsS RX0 69 yX4_at wsX4_at) := goodIn_app (goodIn_of _ (by decide +kernel)) ggX0_signAt_X4_at
theorem dX0_signAt_0 : decode cX0_signAt 0 = .ok (.aload_n 0, 1) := by decide +kernel
theorem dX0_signAt_1 : decode cX0_signAt 1 = .ok (.getfield 18, 3) := by decide +kernel
theorem dX0_signAt_4 : decode cX0_signAt 4 = .ok (.iload_n 1, 1) := by decide +kernel
theorem dX0_signAt_5 : decode cX0_signAt 5 = .ok (.invokestatic 69, 3) := by decide +kernel
theorem dX0_signAt_8 : decode cX0_signAt 8 = .ok (.ireturn, 1) := by decide +kernel
set_option maxRecDepth 20000 in
theorem ggX0_coatsAt_X4_at : GoodIn wsX0_coatsAt wsX4_at := goodIn_r _ [5] (by decide +kernel) (by decide +kernel)
set_option maxRecDepth 20000 in
theorem gX0_coatsAt_X4_at : GoodIn wsX0_coatsAt (va_wsS RX0 69 yX4_at wsX4_at) := goodIn_app (goodIn_of _ (by decide +kernel)) ggX0_coatsAt_X4_at
theorem dX0_coatsAt_0 : decode cX0_coatsAt 0 = .ok (.aload_n 0, 1) := by decide +kernel
theorem dX0_coatsAt_1 : decode cX0_coatsAt 1 = .ok (.getfield 22, 3) := by decide +kernel
theorem dX0_coatsAt_4 : decode cX0_coatsAt 4 = .ok (.iload_n 1, 1) := by decide +kernel
theorem dX0_coatsAt_5 : decode cX0_coatsAt 5 = .ok (.invokestatic 69, 3) := by decide +kernel
theorem dX0_coatsAt_8 : decode cX0_coatsAt 8 = .ok (.ireturn, 1) := by decide +kernel
set_option maxRecDepth 20000 in
theorem ggX0_setting_X4_at : GoodIn wsX0_setting wsX4_at := goodIn_r _ [5] (by decide +kernel) (by decide +kernel)
set_option maxRecDepth 20000 in
theorem gX0_setting_X4_at : GoodIn wsX0_setting (va_wsS RX0 69 yX4_at wsX4_at) := goodIn_app (goodIn_of _ (by decide +kernel)) ggX0_setting_X4_at
theorem dX0_setting_0 : decode cX0_setting 0 = .ok (.aload_n 0, 1) := by decide +kernel
theorem dX0_setting_1 : decode cX0_setting 1 = .ok (.getfield 31, 3) := by decide +kernel
theorem dX0_setting_4 : decode cX0_setting 4 = .ok (.iload_n 1, 1) := by decide +kernel
theorem dX0_setting_5 : decode cX0_setting 5 = .ok (.invokestatic 69, 3) := by decide +kernel
theorem dX0_setting_8 : decode cX0_setting 8 = .ok (.ireturn, 1) := by decide +kernel
set_option maxRecDepth 20000 in
theorem ggX0_coat_X4_put : GoodIn wsX0_coat wsX4_put := goodIn_r _ [5] (by decide +kernel) (by decide +kernel)
set_option maxRecDepth 20000 in
theorem gX0_coat_X4_put : GoodIn wsX0_coat (va_wsS RX0 51 yX4_put wsX4_put) := goodIn_app (goodIn_of _ (by decide +kernel)) ggX0_coat_X4_put
theorem dX0_coat_0 : decode cX0_coat 0 = .ok (.aload_n 0, 1) := by decide +kernel
theorem dX0_coat_1 : decode cX0_coat 1 = .ok (.getfield 22, 3) := by decide +kernel
theorem dX0_coat_4 : decode cX0_coat 4 = .ok (.iload_n 1, 1) := by decide +kernel
theorem dX0_coat_5 : decode cX0_coat 5 = .ok (.iload_n 2, 1) := by decide +kernel
theorem dX0_coat_6 : decode cX0_coat 6 = .ok (.invokestatic 51, 3) := by decide +kernel
theorem dX0_coat_9 : decode cX0_coat 9 = .ok (.return_, 1) := by decide +kernel
set_option maxRecDepth 20000 in
theorem ggX0_hang_X4_put : GoodIn wsX0_hang wsX4_put := goodIn_r _ [5] (by decide +kernel) (by decide +kernel)
set_option maxRecDepth 20000 in
theorem gX0_hang_X4_put : GoodIn wsX0_hang (va_wsS RX0 51 yX4_put wsX4_put) := goodIn_app (goodIn_of _ (by decide +kernel)) ggX0_hang_X4_put
set_option maxRecDepth 20000 in
theorem ggX0_hang_X0_setting : GoodIn wsX0_hang wsX0_setting := goodIn_r _ [10, 11, 12, 13, 4, 14, 20, 21, 22, 23, 24, 25, 26, 27, 28, 29, 30] (by decide +kernel) (by decide +kernel)
set_option maxRecDepth 20000 in
theorem gX0_hang_X0_setting : GoodIn wsX0_hang (wsV RX0 73 RX0 yX0_setting wsX0_setting) := goodIn_app (goodIn_of _ (by decide +kernel)) ggX0_hang_X0_setting
set_option maxRecDepth 20000 in
theorem ggX0_hang_X0_coat : GoodIn wsX0_hang wsX0_coat := goodIn_r _ [18, 19, 2, 3, 4, 5, 20, 21, 22, 23, 24, 25, 26, 27, 28, 29, 30] (by decide +kernel) (by decide +kernel)
set_option maxRecDepth 20000 in
theorem gX0_hang_X0_coat : GoodIn wsX0_hang (wsV RX0 77 RX0 yX0_coat wsX0_coat) := goodIn_app (goodIn_of _ (by decide +kernel)) ggX0_hang_X0_coat
theorem dX0_hang_0 : decode cX0_hang 0 = .ok (.aload_n 0, 1) := by decide +kernel
theorem dX0_hang_1 : decode cX0_hang 1 = .ok (.getfield 18, 3) := by decide +kernel
theorem dX0_hang_4 : decode cX0_hang 4 = .ok (.iload_n 1, 1) := by decide +kernel
theorem dX0_hang_5 : decode cX0_hang 5 = .ok (.iload_n 2, 1) := by decide +kernel
theorem dX0_hang_6 : decode cX0_hang 6 = .ok (.invokestatic 51, 3) := by decide +kernel
theorem dX0_hang_9 : decode cX0_hang 9 = .ok (.aload_n 0, 1) := by decide +kernel
theorem dX0_hang_10 : decode cX0_hang 10 = .ok (.iload_n 1, 1) := by decide +kernel
theorem dX0_hang_11 : decode cX0_hang 11 = .ok (.aload_n 0, 1) := by decide +kernel
theorem dX0_hang_12 : decode cX0_hang 12 = .ok (.iconst 0, 1) := by decide +kernel
theorem dX0_hang_13 : decode cX0_hang 13 = .ok (.invokevirtual 73, 3) := by decide +kernel
theorem dX0_hang_16 : decode cX0_hang 16 = .ok (.invokevirtual 77, 3) := by decide +kernel
theorem dX0_hang_19 : decode cX0_hang 19 = .ok (.return_, 1) := by decide +kernel
theorem dX0_way_0 : decode cX0_way 0 = .ok (.aload_n 0, 1) := by decide +kernel
theorem dX0_way_1 : decode cX0_way 1 = .ok (.getfield 38, 3) := by decide +kernel
theorem dX0_way_4 : decode cX0_way 4 = .ok (.ifCond .eq 7, 3) := by decide +kernel
theorem dX0_way_7 : decode cX0_way 7 = .ok (.iconst 1, 1) := by decide +kernel
theorem dX0_way_8 : decode cX0_way 8 = .ok (.goto 4, 3) := by decide +kernel
theorem dX0_way_11 : decode cX0_way 11 = .ok (.iconst 0, 1) := by decide +kernel
theorem dX0_way_12 : decode cX0_way 12 = .ok (.ireturn, 1) := by decide +kernel
theorem dX0_turnRound_0 : decode cX0_turnRound 0 = .ok (.aload_n 0, 1) := by decide +kernel
theorem dX0_turnRound_1 : decode cX0_turnRound 1 = .ok (.aload_n 0, 1) := by decide +kernel
theorem dX0_turnRound_2 : decode cX0_turnRound 2 = .ok (.getfield 38, 3) := by decide +kernel
theorem dX0_turnRound_5 : decode cX0_turnRound 5 = .ok (.ifCond .ne 7, 3) := by decide +kernel
theorem dX0_turnRound_8 : decode cX0_turnRound 8 = .ok (.iconst 1, 1) := by decide +kernel
theorem dX0_turnRound_9 : decode cX0_turnRound 9 = .ok (.goto 4, 3) := by decide +kernel
theorem dX0_turnRound_12 : decode cX0_turnRound 12 = .ok (.iconst 0, 1) := by decide +kernel
theorem dX0_turnRound_13 : decode cX0_turnRound 13 = .ok (.putfield 38, 3) := by decide +kernel
theorem dX0_turnRound_16 : decode cX0_turnRound 16 = .ok (.aload_n 0, 1) := by decide +kernel
theorem dX0_turnRound_17 : decode cX0_turnRound 17 = .ok (.dup, 1) := by decide +kernel
theorem dX0_turnRound_18 : decode cX0_turnRound 18 = .ok (.getfield 48, 3) := by decide +kernel
theorem dX0_turnRound_21 : decode cX0_turnRound 21 = .ok (.iconst 1, 1) := by decide +kernel
theorem dX0_turnRound_22 : decode cX0_turnRound 22 = .ok (.iadd, 1) := by decide +kernel
theorem dX0_turnRound_23 : decode cX0_turnRound 23 = .ok (.putfield 48, 3) := by decide +kernel
theorem dX0_turnRound_26 : decode cX0_turnRound 26 = .ok (.aload_n 0, 1) := by decide +kernel
theorem dX0_turnRound_27 : decode cX0_turnRound 27 = .ok (.iconst 1, 1) := by decide +kernel
theorem dX0_turnRound_28 : decode cX0_turnRound 28 = .ok (.aload_n 0, 1) := by decide +kernel
theorem dX0_turnRound_29 : decode cX0_turnRound 29 = .ok (.getfield 42, 3) := by decide +kernel
theorem dX0_turnRound_32 : decode cX0_turnRound 32 = .ok (.iconst 1, 1) := by decide +kernel
theorem dX0_turnRound_33 : decode cX0_turnRound 33 = .ok (.isub, 1) := by decide +kernel
theorem dX0_turnRound_34 : decode cX0_turnRound 34 = .ok (.invokestatic 81, 3) := by decide +kernel
theorem dX0_turnRound_37 : decode cX0_turnRound 37 = .ok (.putfield 42, 3) := by decide +kernel
theorem dX0_turnRound_40 : decode cX0_turnRound 40 = .ok (.return_, 1) := by decide +kernel
theorem dX0_fromLeft_0 : decode cX0_fromLeft 0 = .ok (.iload_n 2, 1) := by decide +kernel
theorem dX0_fromLeft_1 : decode cX0_fromLeft 1 = .ok (.ifCond .ne 7, 3) := by decide +kernel
theorem dX0_fromLeft_4 : decode cX0_fromLeft 4 = .ok (.iload_n 1, 1) := by decide +kernel
theorem dX0_fromLeft_5 : decode cX0_fromLeft 5 = .ok (.goto 11, 3) := by decide +kernel
theorem dX0_fromLeft_8 : decode cX0_fromLeft 8 = .ok (.aload_n 0, 1) := by decide +kernel
theorem dX0_fromLeft_9 : decode cX0_fromLeft 9 = .ok (.getfield 34, 3) := by decide +kernel
theorem dX0_fromLeft_12 : decode cX0_fromLeft 12 = .ok (.iconst 1, 1) := by decide +kernel
theorem dX0_fromLeft_13 : decode cX0_fromLeft 13 = .ok (.isub, 1) := by decide +kernel
theorem dX0_fromLeft_14 : decode cX0_fromLeft 14 = .ok (.iload_n 1, 1) := by decide +kernel
theorem dX0_fromLeft_15 : decode cX0_fromLeft 15 = .ok (.isub, 1) := by decide +kernel
theorem dX0_fromLeft_16 : decode cX0_fromLeft 16 = .ok (.ireturn, 1) := by decide +kernel
set_option maxRecDepth 20000 in
theorem ggX0_letterIn_X4_at : GoodIn wsX0_letterIn wsX4_at := goodIn_r _ [6] (by decide +kernel) (by decide +kernel)
set_option maxRecDepth 20000 in
theorem gX0_letterIn_X4_at : GoodIn wsX0_letterIn (va_wsS RX0 69 yX4_at wsX4_at) := goodIn_app (goodIn_of _ (by decide +kernel)) ggX0_letterIn_X4_at
theorem dX0_letterIn_0 : decode cX0_letterIn 0 = .ok (.iload_n 1, 1) := by decide +kernel
theorem dX0_letterIn_1 : decode cX0_letterIn 1 = .ok (.ifCond .ne 10, 3) := by decide +kernel
theorem dX0_letterIn_4 : decode cX0_letterIn 4 = .ok (.aload_n 0, 1) := by decide +kernel
theorem dX0_letterIn_5 : decode cX0_letterIn 5 = .ok (.getfield 25, 3) := by decide +kernel
theorem dX0_letterIn_8 : decode cX0_letterIn 8 = .ok (.goto 7, 3) := by decide +kernel
theorem dX0_letterIn_11 : decode cX0_letterIn 11 = .ok (.aload_n 0, 1) := by decide +kernel
theorem dX0_letterIn_12 : decode cX0_letterIn 12 = .ok (.getfield 28, 3) := by decide +kernel
theorem dX0_letterIn_15 : decode cX0_letterIn 15 = .ok (.iload_n 2, 1) := by decide +kernel
theorem dX0_letterIn_16 : decode cX0_letterIn 16 = .ok (.invokestatic 69, 3) := by decide +kernel
theorem dX0_letterIn_19 : decode cX0_letterIn 19 = .ok (.ireturn, 1) := by decide +kernel
set_option maxRecDepth 20000 in
theorem ggX0_wantedAt_X0_fromLeft : GoodIn wsX0_wantedAt wsX0_fromLeft := goodIn_r _ [5, 6, 17, 18, 19, 20, 21, 22, 23, 24, 25, 26, 27] (by decide +kernel) (by decide +kernel)
set_option maxRecDepth 20000 in
theorem gX0_wantedAt_X0_fromLeft : GoodIn wsX0_wantedAt (wsV RX0 87 RX0 yX0_fromLeft wsX0_fromLeft) := goodIn_app (goodIn_of _ (by decide +kernel)) ggX0_wantedAt_X0_fromLeft
set_option maxRecDepth 20000 in
theorem ggX0_wantedAt_X0_letterIn : GoodIn wsX0_wantedAt wsX0_letterIn := goodIn_r _ [10, 11, 12, 13, 14, 15, 16, 17, 18, 19, 20, 21, 22, 23, 24, 25, 26, 27] (by decide +kernel) (by decide +kernel)
set_option maxRecDepth 20000 in
theorem gX0_wantedAt_X0_letterIn : GoodIn wsX0_wantedAt (wsV RX0 90 RX0 yX0_letterIn wsX0_letterIn) := goodIn_app (goodIn_of _ (by decide +kernel)) ggX0_wantedAt_X0_letterIn
theorem dX0_wantedAt_0 : decode cX0_wantedAt 0 = .ok (.aload_n 0, 1) := by decide +kernel
theorem dX0_wantedAt_1 : decode cX0_wantedAt 1 = .ok (.iload_n 2, 1) := by decide +kernel
theorem dX0_wantedAt_2 : decode cX0_wantedAt 2 = .ok (.aload_n 0, 1) := by decide +kernel
theorem dX0_wantedAt_3 : decode cX0_wantedAt 3 = .ok (.iload_n 1, 1) := by decide +kernel
theorem dX0_wantedAt_4 : decode cX0_wantedAt 4 = .ok (.iload_n 2, 1) := by decide +kernel
theorem dX0_wantedAt_5 : decode cX0_wantedAt 5 = .ok (.invokevirtual 87, 3) := by decide +kernel
theorem dX0_wantedAt_8 : decode cX0_wantedAt 8 = .ok (.invokevirtual 90, 3) := by decide +kernel
theorem dX0_wantedAt_11 : decode cX0_wantedAt 11 = .ok (.ireturn, 1) := by decide +kernel
set_option maxRecDepth 20000 in
theorem ggX0_readAt_X0_coatsAt : GoodIn wsX0_readAt wsX0_coatsAt := goodIn_r _ [6, 7, 8, 9, 10, 11, 37, 38, 39, 40, 41, 42, 43, 44, 45, 46, 47] (by decide +kernel) (by decide +kernel)
set_option maxRecDepth 20000 in
theorem gX0_readAt_X0_coatsAt : GoodIn wsX0_readAt (wsV RX0 93 RX0 yX0_coatsAt wsX0_coatsAt) := goodIn_app (goodIn_of _ (by decide +kernel)) ggX0_readAt_X0_coatsAt
set_option maxRecDepth 20000 in
theorem ggX0_readAt_X0_signAt : GoodIn wsX0_readAt wsX0_signAt := goodIn_r _ [15, 16, 8, 9, 10, 11, 37, 38, 39, 40, 41, 42, 43, 44, 45, 46, 47] (by decide +kernel) (by decide +kernel)
set_option maxRecDepth 20000 in
theorem gX0_readAt_X0_signAt : GoodIn wsX0_readAt (wsV RX0 96 RX0 yX0_signAt wsX0_signAt) := goodIn_app (goodIn_of _ (by decide +kernel)) ggX0_readAt_X0_signAt
set_option maxRecDepth 20000 in
theorem ggX0_readAt_X6_seen : GoodIn wsX0_readAt wsX6_seen := goodIn_r _ [20, 21, 22, 19, 23] (by decide +kernel) (by decide +kernel)
set_option maxRecDepth 20000 in
theorem gX0_readAt_X6_seen : GoodIn wsX0_readAt (va_wsS RX0 99 yX6_seen wsX6_seen) := goodIn_app (goodIn_of _ (by decide +kernel)) ggX0_readAt_X6_seen
set_option maxRecDepth 20000 in
theorem ggX0_readAt_X3_nearest : GoodIn wsX0_readAt wsX3_nearest := goodIn_r _ [28, 29, 30, 31, 32, 33, 34, 35, 36, 48] (by decide +kernel) (by decide +kernel)
set_option maxRecDepth 20000 in
theorem gX0_readAt_X3_nearest : GoodIn wsX0_readAt (wsV RX0 104 RX3 yX3_nearest wsX3_nearest) := goodIn_app (goodIn_of _ (by decide +kernel)) ggX0_readAt_X3_nearest
theorem dX0_readAt_0 : decode cX0_readAt 0 = .ok (.aload_n 0, 1) := by decide +kernel
theorem dX0_readAt_1 : decode cX0_readAt 1 = .ok (.iload_n 1, 1) := by decide +kernel
theorem dX0_readAt_2 : decode cX0_readAt 2 = .ok (.invokevirtual 93, 3) := by decide +kernel
theorem dX0_readAt_5 : decode cX0_readAt 5 = .ok (.ifCond .le 23, 3) := by decide +kernel
theorem dX0_readAt_8 : decode cX0_readAt 8 = .ok (.aload_n 0, 1) := by decide +kernel
theorem dX0_readAt_9 : decode cX0_readAt 9 = .ok (.getfield 12, 3) := by decide +kernel
theorem dX0_readAt_12 : decode cX0_readAt 12 = .ok (.aload_n 0, 1) := by decide +kernel
theorem dX0_readAt_13 : decode cX0_readAt 13 = .ok (.iload_n 1, 1) := by decide +kernel
theorem dX0_readAt_14 : decode cX0_readAt 14 = .ok (.invokevirtual 96, 3) := by decide +kernel
theorem dX0_readAt_17 : decode cX0_readAt 17 = .ok (.iload_n 2, 1) := by decide +kernel
theorem dX0_readAt_18 : decode cX0_readAt 18 = .ok (.invokestatic 99, 3) := by decide +kernel
theorem dX0_readAt_21 : decode cX0_readAt 21 = .ok (.iconst (-1), 1) := by decide +kernel
theorem dX0_readAt_22 : decode cX0_readAt 22 = .ok (.invokevirtual 104, 3) := by decide +kernel
theorem dX0_readAt_25 : decode cX0_readAt 25 = .ok (.goto 4, 3) := by decide +kernel
theorem dX0_readAt_28 : decode cX0_readAt 28 = .ok (.iconst (-1), 1) := by decide +kernel
theorem dX0_readAt_29 : decode cX0_readAt 29 = .ok (.ireturn, 1) := by decide +kernel
set_option maxRecDepth 20000 in
theorem ggX0_marginAt_X0_signAt : GoodIn wsX0_marginAt wsX0_signAt := goodIn_r _ [6, 7, 8, 9, 10, 11, 55, 56, 57, 58, 59, 60, 61, 62, 63, 64, 65] (by decide +kernel) (by decide +kernel)
set_option maxRecDepth 20000 in
theorem gX0_marginAt_X0_signAt : GoodIn wsX0_marginAt (wsV RX0 96 RX0 yX0_signAt wsX0_signAt) := goodIn_app (goodIn_of _ (by decide +kernel)) ggX0_marginAt_X0_signAt
set_option maxRecDepth 20000 in
theorem ggX0_marginAt_X6_seen : GoodIn wsX0_marginAt wsX6_seen := goodIn_r _ [15, 16, 17, 14, 18] (by decide +kernel) (by decide +kernel)
set_option maxRecDepth 20000 in
theorem gX0_marginAt_X6_seen : GoodIn wsX0_marginAt (va_wsS RX0 99 yX6_seen wsX6_seen) := goodIn_app (goodIn_of _ (by decide +kernel)) ggX0_marginAt_X6_seen
set_option maxRecDepth 20000 in
theorem ggX0_marginAt_X0_wantedAt : GoodIn wsX0_marginAt wsX0_wantedAt := goodIn_r _ [22, 23, 24, 25, 5, 26, 27, 28, 29, 30, 31, 32, 33, 8, 9, 10, 11, 55, 56, 57, 58, 59, 60, 61, 62, 63, 64, 65] (by decide +kernel) (by decide +kernel)
set_option maxRecDepth 20000 in
theorem gX0_marginAt_X0_wantedAt : GoodIn wsX0_marginAt (wsV RX0 107 RX0 yX0_wantedAt wsX0_wantedAt) := goodIn_app (goodIn_of _ (by decide +kernel)) ggX0_marginAt_X0_wantedAt
set_option maxRecDepth 20000 in
theorem ggX0_marginAt_X3_marginOf : GoodIn wsX0_marginAt wsX3_marginOf := goodIn_r _ [38, 39, 40, 41, 42, 43, 44, 45, 46, 47, 48, 49, 50, 51, 52, 53, 37, 54, 66] (by decide +kernel) (by decide +kernel)
set_option maxRecDepth 20000 in
theorem gX0_marginAt_X3_marginOf : GoodIn wsX0_marginAt (wsV RX0 110 RX3 yX3_marginOf wsX3_marginOf) := goodIn_app (goodIn_of _ (by decide +kernel)) ggX0_marginAt_X3_marginOf
theorem dX0_marginAt_0 : decode cX0_marginAt 0 = .ok (.aload_n 0, 1) := by decide +kernel
theorem dX0_marginAt_1 : decode cX0_marginAt 1 = .ok (.getfield 12, 3) := by decide +kernel
theorem dX0_marginAt_4 : decode cX0_marginAt 4 = .ok (.aload_n 0, 1) := by decide +kernel
theorem dX0_marginAt_5 : decode cX0_marginAt 5 = .ok (.iload_n 1, 1) := by decide +kernel
theorem dX0_marginAt_6 : decode cX0_marginAt 6 = .ok (.invokevirtual 96, 3) := by decide +kernel
theorem dX0_marginAt_9 : decode cX0_marginAt 9 = .ok (.iload_n 2, 1) := by decide +kernel
theorem dX0_marginAt_10 : decode cX0_marginAt 10 = .ok (.invokestatic 99, 3) := by decide +kernel
theorem dX0_marginAt_13 : decode cX0_marginAt 13 = .ok (.aload_n 0, 1) := by decide +kernel
theorem dX0_marginAt_14 : decode cX0_marginAt 14 = .ok (.iload_n 1, 1) := by decide +kernel
theorem dX0_marginAt_15 : decode cX0_marginAt 15 = .ok (.iload_n 2, 1) := by decide +kernel
theorem dX0_marginAt_16 : decode cX0_marginAt 16 = .ok (.invokevirtual 107, 3) := by decide +kernel
theorem dX0_marginAt_19 : decode cX0_marginAt 19 = .ok (.invokevirtual 110, 3) := by decide +kernel
theorem dX0_marginAt_22 : decode cX0_marginAt 22 = .ok (.ireturn, 1) := by decide +kernel
set_option maxRecDepth 20000 in
theorem ggX0_misread_X0_readAt : GoodIn wsX0_misread wsX0_readAt := goodIn_r _ [6, 7, 8, 9, 10, 5, 11, 12, 13, 14, 15, 16, 17, 18, 19, 20, 21, 22, 23, 24, 25, 26, 27, 28, 29, 30, 31, 32, 33, 34, 35, 36, 37, 38, 39, 40, 41, 56, 57, 58, 59, 60, 61, 62, 63, 64, 65, 66, 67] (by decide +kernel) (by decide +kernel)
set_option maxRecDepth 20000 in
theorem gX0_misread_X0_readAt : GoodIn wsX0_misread (wsV RX0 113 RX0 yX0_readAt wsX0_readAt) := goodIn_app (goodIn_of _ (by decide +kernel)) ggX0_misread_X0_readAt
set_option maxRecDepth 20000 in
theorem ggX0_misread_X0_wantedAt : GoodIn wsX0_misread wsX0_wantedAt := goodIn_r _ [45, 46, 47, 48, 5, 49, 1, 50, 51, 52, 53, 54, 55, 13, 14, 15, 16, 56, 57, 58, 59, 60, 61, 62, 63, 64, 65, 66] (by decide +kernel) (by decide +kernel)
set_option maxRecDepth 20000 in
theorem gX0_misread_X0_wantedAt : GoodIn wsX0_misread (wsV RX0 107 RX0 yX0_wantedAt wsX0_wantedAt) := goodIn_app (goodIn_of _ (by decide +kernel)) ggX0_misread_X0_wantedAt
theorem dX0_misread_0 : decode cX0_misread 0 = .ok (.iconst 0, 1) := by decide +kernel
theorem dX0_misread_1 : decode cX0_misread 1 = .ok (.istore_n 2, 1) := by decide +kernel
theorem dX0_misread_2 : decode cX0_misread 2 = .ok (.iconst 0, 1) := by decide +kernel
theorem dX0_misread_3 : decode cX0_misread 3 = .ok (.istore_n 3, 1) := by decide +kernel
theorem dX0_misread_4 : decode cX0_misread 4 = .ok (.iload_n 3, 1) := by decide +kernel
theorem dX0_misread_5 : decode cX0_misread 5 = .ok (.aload_n 0, 1) := by decide +kernel
theorem dX0_misread_6 : decode cX0_misread 6 = .ok (.getfield 34, 3) := by decide +kernel
theorem dX0_misread_9 : decode cX0_misread 9 = .ok (.if_icmp .ge 27, 3) := by decide +kernel
theorem dX0_misread_12 : decode cX0_misread 12 = .ok (.aload_n 0, 1) := by decide +kernel
theorem dX0_misread_13 : decode cX0_misread 13 = .ok (.iload_n 3, 1) := by decide +kernel
theorem dX0_misread_14 : decode cX0_misread 14 = .ok (.iload_n 1, 1) := by decide +kernel
theorem dX0_misread_15 : decode cX0_misread 15 = .ok (.invokevirtual 113, 3) := by decide +kernel
theorem dX0_misread_18 : decode cX0_misread 18 = .ok (.aload_n 0, 1) := by decide +kernel
theorem dX0_misread_19 : decode cX0_misread 19 = .ok (.iload_n 3, 1) := by decide +kernel
theorem dX0_misread_20 : decode cX0_misread 20 = .ok (.iload_n 1, 1) := by decide +kernel
theorem dX0_misread_21 : decode cX0_misread 21 = .ok (.invokevirtual 107, 3) := by decide +kernel
theorem dX0_misread_24 : decode cX0_misread 24 = .ok (.if_icmp .eq 6, 3) := by decide +kernel
theorem dX0_misread_27 : decode cX0_misread 27 = .ok (.iinc 2 1, 3) := by decide +kernel
theorem dX0_misread_30 : decode cX0_misread 30 = .ok (.iinc 3 1, 3) := by decide +kernel
theorem dX0_misread_33 : decode cX0_misread 33 = .ok (.goto (-29), 3) := by decide +kernel
theorem dX0_misread_36 : decode cX0_misread 36 = .ok (.iload_n 2, 1) := by decide +kernel
theorem dX0_misread_37 : decode cX0_misread 37 = .ok (.ireturn, 1) := by decide +kernel
set_option maxRecDepth 20000 in
theorem ggX0_timesWanted_X0_letterIn : GoodIn wsX0_timesWanted wsX0_letterIn := goodIn_r _ [6, 7, 8, 9, 10, 11, 12, 13, 14, 15, 16, 17, 18, 19, 20, 21, 22, 23] (by decide +kernel) (by decide +kernel)
set_option maxRecDepth 20000 in
theorem gX0_timesWanted_X0_letterIn : GoodIn wsX0_timesWanted (wsV RX0 90 RX0 yX0_letterIn wsX0_letterIn) := goodIn_app (goodIn_of _ (by decide +kernel)) ggX0_timesWanted_X0_letterIn
theorem dX0_timesWanted_0 : decode cX0_timesWanted 0 = .ok (.iconst 0, 1) := by decide +kernel
theorem dX0_timesWanted_1 : decode cX0_timesWanted 1 = .ok (.istore_n 2, 1) := by decide +kernel
theorem dX0_timesWanted_2 : decode cX0_timesWanted 2 = .ok (.iconst 0, 1) := by decide +kernel
theorem dX0_timesWanted_3 : decode cX0_timesWanted 3 = .ok (.istore_n 3, 1) := by decide +kernel
theorem dX0_timesWanted_4 : decode cX0_timesWanted 4 = .ok (.iload_n 3, 1) := by decide +kernel
theorem dX0_timesWanted_5 : decode cX0_timesWanted 5 = .ok (.aload_n 0, 1) := by decide +kernel
theorem dX0_timesWanted_6 : decode cX0_timesWanted 6 = .ok (.getfield 34, 3) := by decide +kernel
theorem dX0_timesWanted_9 : decode cX0_timesWanted 9 = .ok (.if_icmp .ge 45, 3) := by decide +kernel
theorem dX0_timesWanted_12 : decode cX0_timesWanted 12 = .ok (.iload_n 2, 1) := by decide +kernel
theorem dX0_timesWanted_13 : decode cX0_timesWanted 13 = .ok (.aload_n 0, 1) := by decide +kernel
theorem dX0_timesWanted_14 : decode cX0_timesWanted 14 = .ok (.iconst 0, 1) := by decide +kernel
theorem dX0_timesWanted_15 : decode cX0_timesWanted 15 = .ok (.iload_n 3, 1) := by decide +kernel
theorem dX0_timesWanted_16 : decode cX0_timesWanted 16 = .ok (.invokevirtual 90, 3) := by decide +kernel
theorem dX0_timesWanted_19 : decode cX0_timesWanted 19 = .ok (.iload_n 1, 1) := by decide +kernel
theorem dX0_timesWanted_20 : decode cX0_timesWanted 20 = .ok (.if_icmp .ne 7, 3) := by decide +kernel
theorem dX0_timesWanted_23 : decode cX0_timesWanted 23 = .ok (.iconst 1, 1) := by decide +kernel
theorem dX0_timesWanted_24 : decode cX0_timesWanted 24 = .ok (.goto 4, 3) := by decide +kernel
theorem dX0_timesWanted_27 : decode cX0_timesWanted 27 = .ok (.iconst 0, 1) := by decide +kernel
theorem dX0_timesWanted_28 : decode cX0_timesWanted 28 = .ok (.iadd, 1) := by decide +kernel
theorem dX0_timesWanted_29 : decode cX0_timesWanted 29 = .ok (.istore_n 2, 1) := by decide +kernel
theorem dX0_timesWanted_30 : decode cX0_timesWanted 30 = .ok (.iload_n 2, 1) := by decide +kernel
theorem dX0_timesWanted_31 : decode cX0_timesWanted 31 = .ok (.aload_n 0, 1) := by decide +kernel
theorem dX0_timesWanted_32 : decode cX0_timesWanted 32 = .ok (.iconst 1, 1) := by decide +kernel
theorem dX0_timesWanted_33 : decode cX0_timesWanted 33 = .ok (.iload_n 3, 1) := by decide +kernel
theorem dX0_timesWanted_34 : decode cX0_timesWanted 34 = .ok (.invokevirtual 90, 3) := by decide +kernel
theorem dX0_timesWanted_37 : decode cX0_timesWanted 37 = .ok (.iload_n 1, 1) := by decide +kernel
theorem dX0_timesWanted_38 : decode cX0_timesWanted 38 = .ok (.if_icmp .ne 7, 3) := by decide +kernel
theorem dX0_timesWanted_41 : decode cX0_timesWanted 41 = .ok (.iconst 1, 1) := by decide +kernel
theorem dX0_timesWanted_42 : decode cX0_timesWanted 42 = .ok (.goto 4, 3) := by decide +kernel
theorem dX0_timesWanted_45 : decode cX0_timesWanted 45 = .ok (.iconst 0, 1) := by decide +kernel
theorem dX0_timesWanted_46 : decode cX0_timesWanted 46 = .ok (.iadd, 1) := by decide +kernel
theorem dX0_timesWanted_47 : decode cX0_timesWanted 47 = .ok (.istore_n 2, 1) := by decide +kernel
theorem dX0_timesWanted_48 : decode cX0_timesWanted 48 = .ok (.iinc 3 1, 3) := by decide +kernel
theorem dX0_timesWanted_51 : decode cX0_timesWanted 51 = .ok (.goto (-47), 3) := by decide +kernel
theorem dX0_timesWanted_54 : decode cX0_timesWanted 54 = .ok (.iload_n 2, 1) := by decide +kernel
theorem dX0_timesWanted_55 : decode cX0_timesWanted 55 = .ok (.ireturn, 1) := by decide +kernel
set_option maxRecDepth 20000 in
theorem ggX0_allCoats_X0_coatsAt : GoodIn wsX0_allCoats wsX0_coatsAt := goodIn_r _ [6, 7, 8, 9, 10, 11, 12, 13, 14, 15, 16, 17, 18, 19, 20, 21, 22] (by decide +kernel) (by decide +kernel)
set_option maxRecDepth 20000 in
theorem gX0_allCoats_X0_coatsAt : GoodIn wsX0_allCoats (wsV RX0 93 RX0 yX0_coatsAt wsX0_coatsAt) := goodIn_app (goodIn_of _ (by decide +kernel)) ggX0_allCoats_X0_coatsAt
theorem dX0_allCoats_0 : decode cX0_allCoats 0 = .ok (.iconst 0, 1) := by decide +kernel
theorem dX0_allCoats_1 : decode cX0_allCoats 1 = .ok (.istore_n 1, 1) := by decide +kernel
theorem dX0_allCoats_2 : decode cX0_allCoats 2 = .ok (.iconst 0, 1) := by decide +kernel
theorem dX0_allCoats_3 : decode cX0_allCoats 3 = .ok (.istore_n 2, 1) := by decide +kernel
theorem dX0_allCoats_4 : decode cX0_allCoats 4 = .ok (.iload_n 2, 1) := by decide +kernel
theorem dX0_allCoats_5 : decode cX0_allCoats 5 = .ok (.aload_n 0, 1) := by decide +kernel
theorem dX0_allCoats_6 : decode cX0_allCoats 6 = .ok (.getfield 34, 3) := by decide +kernel
theorem dX0_allCoats_9 : decode cX0_allCoats 9 = .ok (.if_icmp .ge 17, 3) := by decide +kernel
theorem dX0_allCoats_12 : decode cX0_allCoats 12 = .ok (.iload_n 1, 1) := by decide +kernel
theorem dX0_allCoats_13 : decode cX0_allCoats 13 = .ok (.aload_n 0, 1) := by decide +kernel
theorem dX0_allCoats_14 : decode cX0_allCoats 14 = .ok (.iload_n 2, 1) := by decide +kernel
theorem dX0_allCoats_15 : decode cX0_allCoats 15 = .ok (.invokevirtual 93, 3) := by decide +kernel
theorem dX0_allCoats_18 : decode cX0_allCoats 18 = .ok (.iadd, 1) := by decide +kernel
theorem dX0_allCoats_19 : decode cX0_allCoats 19 = .ok (.istore_n 1, 1) := by decide +kernel
theorem dX0_allCoats_20 : decode cX0_allCoats 20 = .ok (.iinc 2 1, 3) := by decide +kernel
theorem dX0_allCoats_23 : decode cX0_allCoats 23 = .ok (.goto (-19), 3) := by decide +kernel
theorem dX0_allCoats_26 : decode cX0_allCoats 26 = .ok (.iload_n 1, 1) := by decide +kernel
theorem dX0_allCoats_27 : decode cX0_allCoats 27 = .ok (.ireturn, 1) := by decide +kernel
set_option maxRecDepth 20000 in
theorem ggX0_placesWithCoats_X0_coatsAt : GoodIn wsX0_placesWithCoats wsX0_coatsAt := goodIn_r _ [6, 7, 8, 9, 10, 11, 12, 13, 14, 15, 16, 17, 18, 19, 20, 21, 22] (by decide +kernel) (by decide +kernel)
set_option maxRecDepth 20000 in
theorem gX0_placesWithCoats_X0_coatsAt : GoodIn wsX0_placesWithCoats (wsV RX0 93 RX0 yX0_coatsAt wsX0_coatsAt) := goodIn_app (goodIn_of _ (by decide +kernel)) ggX0_placesWithCoats_X0_coatsAt
theorem dX0_placesWithCoats_0 : decode cX0_placesWithCoats 0 = .ok (.iconst 0, 1) := by decide +kernel
theorem dX0_placesWithCoats_1 : decode cX0_placesWithCoats 1 = .ok (.istore_n 1, 1) := by decide +kernel
theorem dX0_placesWithCoats_2 : decode cX0_placesWithCoats 2 = .ok (.iconst 0, 1) := by decide +kernel
theorem dX0_placesWithCoats_3 : decode cX0_placesWithCoats 3 = .ok (.istore_n 2, 1) := by decide +kernel
theorem dX0_placesWithCoats_4 : decode cX0_placesWithCoats 4 = .ok (.iload_n 2, 1) := by decide +kernel
theorem dX0_placesWithCoats_5 : decode cX0_placesWithCoats 5 = .ok (.aload_n 0, 1) := by decide +kernel
theorem dX0_placesWithCoats_6 : decode cX0_placesWithCoats 6 = .ok (.getfield 34, 3) := by decide +kernel
theorem dX0_placesWithCoats_9 : decode cX0_placesWithCoats 9 = .ok (.if_icmp .ge 25, 3) := by decide +kernel
theorem dX0_placesWithCoats_12 : decode cX0_placesWithCoats 12 = .ok (.iload_n 1, 1) := by decide +kernel
theorem dX0_placesWithCoats_13 : decode cX0_placesWithCoats 13 = .ok (.aload_n 0, 1) := by decide +kernel
theorem dX0_placesWithCoats_14 : decode cX0_placesWithCoats 14 = .ok (.iload_n 2, 1) := by decide +kernel
theorem dX0_placesWithCoats_15 : decode cX0_placesWithCoats 15 = .ok (.invokevirtual 93, 3) := by decide +kernel
theorem dX0_placesWithCoats_18 : decode cX0_placesWithCoats 18 = .ok (.ifCond .le 7, 3) := by decide +kernel
theorem dX0_placesWithCoats_21 : decode cX0_placesWithCoats 21 = .ok (.iconst 1, 1) := by decide +kernel
theorem dX0_placesWithCoats_22 : decode cX0_placesWithCoats 22 = .ok (.goto 4, 3) := by decide +kernel
theorem dX0_placesWithCoats_25 : decode cX0_placesWithCoats 25 = .ok (.iconst 0, 1) := by decide +kernel
theorem dX0_placesWithCoats_26 : decode cX0_placesWithCoats 26 = .ok (.iadd, 1) := by decide +kernel
theorem dX0_placesWithCoats_27 : decode cX0_placesWithCoats 27 = .ok (.istore_n 1, 1) := by decide +kernel
theorem dX0_placesWithCoats_28 : decode cX0_placesWithCoats 28 = .ok (.iinc 2 1, 3) := by decide +kernel
theorem dX0_placesWithCoats_31 : decode cX0_placesWithCoats 31 = .ok (.goto (-27), 3) := by decide +kernel
theorem dX0_placesWithCoats_34 : decode cX0_placesWithCoats 34 = .ok (.iload_n 1, 1) := by decide +kernel
theorem dX0_placesWithCoats_35 : decode cX0_placesWithCoats 35 = .ok (.ireturn, 1) := by decide +kernel
set_option maxRecDepth 20000 in
theorem ggX0_fades_X0_coatsAt : GoodIn wsX0_fades wsX0_coatsAt := goodIn_r _ [5, 6, 7, 8, 9, 10, 37, 38, 39, 40, 41, 42, 43, 44, 45, 46, 47] (by decide +kernel) (by decide +kernel)
set_option maxRecDepth 20000 in
theorem gX0_fades_X0_coatsAt : GoodIn wsX0_fades (wsV RX0 93 RX0 yX0_coatsAt wsX0_coatsAt) := goodIn_app (goodIn_of _ (by decide +kernel)) ggX0_fades_X0_coatsAt
set_option maxRecDepth 20000 in
theorem ggX0_fades_X0_signAt : GoodIn wsX0_fades wsX0_signAt := goodIn_r _ [14, 15, 7, 8, 9, 10, 37, 38, 39, 40, 41, 42, 43, 44, 45, 46, 47] (by decide +kernel) (by decide +kernel)
set_option maxRecDepth 20000 in
theorem gX0_fades_X0_signAt : GoodIn wsX0_fades (wsV RX0 96 RX0 yX0_signAt wsX0_signAt) := goodIn_app (goodIn_of _ (by decide +kernel)) ggX0_fades_X0_signAt
set_option maxRecDepth 20000 in
theorem ggX0_fades_X0_way : GoodIn wsX0_fades wsX0_way := goodIn_r _ [19, 20, 37, 38, 39, 40, 41, 42, 43, 44, 45, 46, 47] (by decide +kernel) (by decide +kernel)
set_option maxRecDepth 20000 in
theorem gX0_fades_X0_way : GoodIn wsX0_fades (wsV RX0 116 RX0 yX0_way wsX0_way) := goodIn_app (goodIn_of _ (by decide +kernel)) ggX0_fades_X0_way
set_option maxRecDepth 20000 in
theorem ggX0_fades_X6_darkInUpperRows : GoodIn wsX0_fades wsX6_darkInUpperRows := goodIn_r _ [24, 25, 26, 27, 28, 29, 30, 31] (by decide +kernel) (by decide +kernel)
set_option maxRecDepth 20000 in
theorem gX0_fades_X6_darkInUpperRows : GoodIn wsX0_fades (va_wsS RX0 120 yX6_darkInUpperRows wsX6_darkInUpperRows) := goodIn_app (goodIn_of _ (by decide +kernel)) ggX0_fades_X6_darkInUpperRows
set_option maxRecDepth 20000 in
theorem ggX0_fades_X0_setting : GoodIn wsX0_fades wsX0_setting := goodIn_r _ [35, 36, 7, 8, 9, 10, 37, 38, 39, 40, 41, 42, 43, 44, 45, 46, 47] (by decide +kernel) (by decide +kernel)
set_option maxRecDepth 20000 in
theorem gX0_fades_X0_setting : GoodIn wsX0_fades (wsV RX0 73 RX0 yX0_setting wsX0_setting) := goodIn_app (goodIn_of _ (by decide +kernel)) ggX0_fades_X0_setting
theorem dX0_fades_0 : decode cX0_fades 0 = .ok (.aload_n 0, 1) := by decide +kernel
theorem dX0_fades_1 : decode cX0_fades 1 = .ok (.iload_n 1, 1) := by decide +kernel
theorem dX0_fades_2 : decode cX0_fades 2 = .ok (.invokevirtual 93, 3) := by decide +kernel
theorem dX0_fades_5 : decode cX0_fades 5 = .ok (.ifCond .le 27, 3) := by decide +kernel
theorem dX0_fades_8 : decode cX0_fades 8 = .ok (.aload_n 0, 1) := by decide +kernel
theorem dX0_fades_9 : decode cX0_fades 9 = .ok (.iload_n 1, 1) := by decide +kernel
theorem dX0_fades_10 : decode cX0_fades 10 = .ok (.invokevirtual 96, 3) := by decide +kernel
theorem dX0_fades_13 : decode cX0_fades 13 = .ok (.aload_n 0, 1) := by decide +kernel
theorem dX0_fades_14 : decode cX0_fades 14 = .ok (.invokevirtual 116, 3) := by decide +kernel
theorem dX0_fades_17 : decode cX0_fades 17 = .ok (.invokestatic 120, 3) := by decide +kernel
theorem dX0_fades_20 : decode cX0_fades 20 = .ok (.aload_n 0, 1) := by decide +kernel
theorem dX0_fades_21 : decode cX0_fades 21 = .ok (.iconst 1, 1) := by decide +kernel
theorem dX0_fades_22 : decode cX0_fades 22 = .ok (.invokevirtual 73, 3) := by decide +kernel
theorem dX0_fades_25 : decode cX0_fades 25 = .ok (.if_icmp .lt 7, 3) := by decide +kernel
theorem dX0_fades_28 : decode cX0_fades 28 = .ok (.iconst 1, 1) := by decide +kernel
theorem dX0_fades_29 : decode cX0_fades 29 = .ok (.goto 4, 3) := by decide +kernel
theorem dX0_fades_32 : decode cX0_fades 32 = .ok (.iconst 0, 1) := by decide +kernel
theorem dX0_fades_33 : decode cX0_fades 33 = .ok (.ireturn, 1) := by decide +kernel
set_option maxRecDepth 20000 in
theorem ggX0_fadeOneDay_X0_fades : GoodIn wsX0_fadeOneDay wsX0_fades := goodIn_r _ [7, 8, 9, 10, 6, 11, 12, 13, 14, 15, 16, 17, 18, 19, 20, 21, 22, 23, 24, 25, 26, 27, 28, 29, 30, 31, 32, 33, 34, 35, 36, 37, 38, 39, 40, 41, 42, 50, 51, 52, 53, 54, 55, 56, 57, 58, 59, 60] (by decide +kernel) (by decide +kernel)
set_option maxRecDepth 20000 in
theorem gX0_fadeOneDay_X0_fades : GoodIn wsX0_fadeOneDay (wsV RX0 123 RX0 yX0_fades wsX0_fades) := goodIn_app (goodIn_of _ (by decide +kernel)) ggX0_fadeOneDay_X0_fades
set_option maxRecDepth 20000 in
theorem ggX0_fadeOneDay_X0_coatsAt : GoodIn wsX0_fadeOneDay wsX0_coatsAt := goodIn_r _ [11, 12, 13, 14, 15, 16, 50, 51, 52, 53, 54, 55, 56, 57, 58, 59, 60] (by decide +kernel) (by decide +kernel)
set_option maxRecDepth 20000 in
theorem gX0_fadeOneDay_X0_coatsAt : GoodIn wsX0_fadeOneDay (wsV RX0 93 RX0 yX0_coatsAt wsX0_coatsAt) := goodIn_app (goodIn_of _ (by decide +kernel)) ggX0_fadeOneDay_X0_coatsAt
set_option maxRecDepth 20000 in
theorem ggX0_fadeOneDay_X0_coat : GoodIn wsX0_fadeOneDay wsX0_coat := goodIn_r _ [46, 12, 47, 48, 15, 49, 50, 51, 52, 53, 54, 55, 56, 57, 58, 59, 60] (by decide +kernel) (by decide +kernel)
set_option maxRecDepth 20000 in
theorem gX0_fadeOneDay_X0_coat : GoodIn wsX0_fadeOneDay (wsV RX0 77 RX0 yX0_coat wsX0_coat) := goodIn_app (goodIn_of _ (by decide +kernel)) ggX0_fadeOneDay_X0_coat
theorem dX0_fadeOneDay_0 : decode cX0_fadeOneDay 0 = .ok (.iconst 0, 1) := by decide +kernel
theorem dX0_fadeOneDay_1 : decode cX0_fadeOneDay 1 = .ok (.istore_n 1, 1) := by decide +kernel
theorem dX0_fadeOneDay_2 : decode cX0_fadeOneDay 2 = .ok (.iconst 0, 1) := by decide +kernel
theorem dX0_fadeOneDay_3 : decode cX0_fadeOneDay 3 = .ok (.istore_n 2, 1) := by decide +kernel
theorem dX0_fadeOneDay_4 : decode cX0_fadeOneDay 4 = .ok (.iload_n 2, 1) := by decide +kernel
theorem dX0_fadeOneDay_5 : decode cX0_fadeOneDay 5 = .ok (.aload_n 0, 1) := by decide +kernel
theorem dX0_fadeOneDay_6 : decode cX0_fadeOneDay 6 = .ok (.getfield 34, 3) := by decide +kernel
theorem dX0_fadeOneDay_9 : decode cX0_fadeOneDay 9 = .ok (.if_icmp .ge 32, 3) := by decide +kernel
theorem dX0_fadeOneDay_12 : decode cX0_fadeOneDay 12 = .ok (.aload_n 0, 1) := by decide +kernel
theorem dX0_fadeOneDay_13 : decode cX0_fadeOneDay 13 = .ok (.iload_n 2, 1) := by decide +kernel
theorem dX0_fadeOneDay_14 : decode cX0_fadeOneDay 14 = .ok (.invokevirtual 123, 3) := by decide +kernel
theorem dX0_fadeOneDay_17 : decode cX0_fadeOneDay 17 = .ok (.ifCond .eq 18, 3) := by decide +kernel
theorem dX0_fadeOneDay_20 : decode cX0_fadeOneDay 20 = .ok (.aload_n 0, 1) := by decide +kernel
theorem dX0_fadeOneDay_21 : decode cX0_fadeOneDay 21 = .ok (.iload_n 2, 1) := by decide +kernel
theorem dX0_fadeOneDay_22 : decode cX0_fadeOneDay 22 = .ok (.aload_n 0, 1) := by decide +kernel
theorem dX0_fadeOneDay_23 : decode cX0_fadeOneDay 23 = .ok (.iload_n 2, 1) := by decide +kernel
theorem dX0_fadeOneDay_24 : decode cX0_fadeOneDay 24 = .ok (.invokevirtual 93, 3) := by decide +kernel
theorem dX0_fadeOneDay_27 : decode cX0_fadeOneDay 27 = .ok (.iconst 1, 1) := by decide +kernel
theorem dX0_fadeOneDay_28 : decode cX0_fadeOneDay 28 = .ok (.isub, 1) := by decide +kernel
theorem dX0_fadeOneDay_29 : decode cX0_fadeOneDay 29 = .ok (.invokevirtual 77, 3) := by decide +kernel
theorem dX0_fadeOneDay_32 : decode cX0_fadeOneDay 32 = .ok (.iinc 1 1, 3) := by decide +kernel
theorem dX0_fadeOneDay_35 : decode cX0_fadeOneDay 35 = .ok (.iinc 2 1, 3) := by decide +kernel
theorem dX0_fadeOneDay_38 : decode cX0_fadeOneDay 38 = .ok (.goto (-34), 3) := by decide +kernel
theorem dX0_fadeOneDay_41 : decode cX0_fadeOneDay 41 = .ok (.aload_n 0, 1) := by decide +kernel
theorem dX0_fadeOneDay_42 : decode cX0_fadeOneDay 42 = .ok (.dup, 1) := by decide +kernel
theorem dX0_fadeOneDay_43 : decode cX0_fadeOneDay 43 = .ok (.getfield 45, 3) := by decide +kernel
theorem dX0_fadeOneDay_46 : decode cX0_fadeOneDay 46 = .ok (.iconst 1, 1) := by decide +kernel
theorem dX0_fadeOneDay_47 : decode cX0_fadeOneDay 47 = .ok (.iadd, 1) := by decide +kernel
theorem dX0_fadeOneDay_48 : decode cX0_fadeOneDay 48 = .ok (.putfield 45, 3) := by decide +kernel
theorem dX0_fadeOneDay_51 : decode cX0_fadeOneDay 51 = .ok (.iload_n 1, 1) := by decide +kernel
theorem dX0_fadeOneDay_52 : decode cX0_fadeOneDay 52 = .ok (.ireturn, 1) := by decide +kernel
theorem dX1_init_0 : decode cX1_init 0 = .ok (.aload_n 0, 1) := by decide +kernel
theorem dX1_init_1 : decode cX1_init 1 = .ok (.invokespecial 3, 3) := by decide +kernel
theorem dX1_init_4 : decode cX1_init 4 = .ok (.return_, 1) := by decide +kernel
set_option maxRecDepth 20000 in
theorem ggX1_find_X3_has : GoodIn wsX1_find wsX3_has := goodIn_r _ [12, 13, 14, 15, 11, 16, 17, 63] (by decide +kernel) (by decide +kernel)
set_option maxRecDepth 20000 in
theorem gX1_find_X3_has : GoodIn wsX1_find (wsV RX1 18 RX3 yX3_has wsX3_has) := goodIn_app (goodIn_of _ (by decide +kernel)) ggX1_find_X3_has
set_option maxRecDepth 20000 in
theorem ggX1_find_X3_signFor : GoodIn wsX1_find wsX3_signFor := goodIn_r _ [16, 17, 63] (by decide +kernel) (by decide +kernel)
set_option maxRecDepth 20000 in
theorem gX1_find_X3_signFor : GoodIn wsX1_find (wsV RX1 34 RX3 yX3_signFor wsX3_signFor) := goodIn_app (goodIn_of _ (by decide +kernel)) ggX1_find_X3_signFor
set_option maxRecDepth 20000 in
theorem ggX1_find_X6_turn : GoodIn wsX1_find wsX6_turn := goodIn_r _ [22] (by decide +kernel) (by decide +kernel)
set_option maxRecDepth 20000 in
theorem gX1_find_X6_turn : GoodIn wsX1_find (va_wsS RX1 41 yX6_turn wsX6_turn) := goodIn_app (goodIn_of _ (by decide +kernel)) ggX1_find_X6_turn
set_option maxRecDepth 20000 in
theorem ggX1_find_X1_settle : GoodIn wsX1_find wsX1_settle := goodIn_r _ [27, 3, 6, 4, 2, 7, 5, 28, 29, 30, 31, 1, 32, 33, 34, 11, 35, 36, 37, 38, 39, 17, 40, 41, 42, 43, 44, 45, 46, 47, 13, 14, 15, 16, 48, 49, 50, 51, 19, 20, 21, 22, 52, 53, 54, 26, 55, 23, 24, 25, 56, 57, 58, 59, 60, 61, 62, 63] (by decide +kernel) (by decide +kernel)
set_option maxRecDepth 20000 in
theorem gX1_find_X1_settle : GoodIn wsX1_find (wsV RX1 49 RX1 yX1_settle wsX1_settle) := goodIn_app (goodIn_of _ (by decide +kernel)) ggX1_find_X1_settle
theorem dX1_find_0 : decode cX1_find 0 = .ok (.aload_n 0, 1) := by decide +kernel
theorem dX1_find_1 : decode cX1_find 1 = .ok (.iconst (-1), 1) := by decide +kernel
theorem dX1_find_2 : decode cX1_find 2 = .ok (.putfield 9, 3) := by decide +kernel
theorem dX1_find_5 : decode cX1_find 5 = .ok (.aload_n 0, 1) := by decide +kernel
theorem dX1_find_6 : decode cX1_find 6 = .ok (.iconst (-1), 1) := by decide +kernel
theorem dX1_find_7 : decode cX1_find 7 = .ok (.putfield 15, 3) := by decide +kernel
theorem dX1_find_10 : decode cX1_find 10 = .ok (.aload_n 1, 1) := by decide +kernel
theorem dX1_find_11 : decode cX1_find 11 = .ok (.ifnull 19, 3) := by decide +kernel
theorem dX1_find_14 : decode cX1_find 14 = .ok (.aload_n 1, 1) := by decide +kernel
theorem dX1_find_15 : decode cX1_find 15 = .ok (.iload_n 2, 1) := by decide +kernel
theorem dX1_find_16 : decode cX1_find 16 = .ok (.invokevirtual 18, 3) := by decide +kernel
theorem dX1_find_19 : decode cX1_find 19 = .ok (.ifCond .eq 11, 3) := by decide +kernel
theorem dX1_find_22 : decode cX1_find 22 = .ok (.aload_n 1, 1) := by decide +kernel
theorem dX1_find_23 : decode cX1_find 23 = .ok (.iload_n 3, 1) := by decide +kernel
theorem dX1_find_24 : decode cX1_find 24 = .ok (.invokevirtual 18, 3) := by decide +kernel
theorem dX1_find_27 : decode cX1_find 27 = .ok (.ifCond .ne 5, 3) := by decide +kernel
theorem dX1_find_30 : decode cX1_find 30 = .ok (.iconst 0, 1) := by decide +kernel
theorem dX1_find_31 : decode cX1_find 31 = .ok (.ireturn, 1) := by decide +kernel
theorem dX1_find_32 : decode cX1_find 32 = .ok (.aload_n 0, 1) := by decide +kernel
theorem dX1_find_33 : decode cX1_find 33 = .ok (.aload_n 1, 1) := by decide +kernel
theorem dX1_find_34 : decode cX1_find 34 = .ok (.putfield 24, 3) := by decide +kernel
theorem dX1_find_37 : decode cX1_find 37 = .ok (.aload_n 0, 1) := by decide +kernel
theorem dX1_find_38 : decode cX1_find 38 = .ok (.iload_n 2, 1) := by decide +kernel
theorem dX1_find_39 : decode cX1_find 39 = .ok (.putfield 28, 3) := by decide +kernel
theorem dX1_find_42 : decode cX1_find 42 = .ok (.aload_n 0, 1) := by decide +kernel
theorem dX1_find_43 : decode cX1_find 43 = .ok (.iload_n 3, 1) := by decide +kernel
theorem dX1_find_44 : decode cX1_find 44 = .ok (.putfield 31, 3) := by decide +kernel
theorem dX1_find_47 : decode cX1_find 47 = .ok (.aload_n 0, 1) := by decide +kernel
theorem dX1_find_48 : decode cX1_find 48 = .ok (.aload_n 1, 1) := by decide +kernel
theorem dX1_find_49 : decode cX1_find 49 = .ok (.iload_n 2, 1) := by decide +kernel
theorem dX1_find_50 : decode cX1_find 50 = .ok (.invokevirtual 34, 3) := by decide +kernel
theorem dX1_find_53 : decode cX1_find 53 = .ok (.putfield 38, 3) := by decide +kernel
theorem dX1_find_56 : decode cX1_find 56 = .ok (.aload_n 0, 1) := by decide +kernel
theorem dX1_find_57 : decode cX1_find 57 = .ok (.aload_n 1, 1) := by decide +kernel
theorem dX1_find_58 : decode cX1_find 58 = .ok (.iload_n 3, 1) := by decide +kernel
theorem dX1_find_59 : decode cX1_find 59 = .ok (.invokevirtual 34, 3) := by decide +kernel
theorem dX1_find_62 : decode cX1_find 62 = .ok (.invokestatic 41, 3) := by decide +kernel
theorem dX1_find_65 : decode cX1_find 65 = .ok (.putfield 46, 3) := by decide +kernel
theorem dX1_find_68 : decode cX1_find 68 = .ok (.aload_n 0, 1) := by decide +kernel
theorem dX1_find_69 : decode cX1_find 69 = .ok (.bipush 14, 2) := by decide +kernel
theorem dX1_find_71 : decode cX1_find 71 = .ok (.iconst 0, 1) := by decide +kernel
theorem dX1_find_72 : decode cX1_find 72 = .ok (.invokevirtual 49, 3) := by decide +kernel
theorem dX1_find_75 : decode cX1_find 75 = .ok (.aload_n 0, 1) := by decide +kernel
theorem dX1_find_76 : decode cX1_find 76 = .ok (.getfield 9, 3) := by decide +kernel
theorem dX1_find_79 : decode cX1_find 79 = .ok (.iconst (-1), 1) := by decide +kernel
theorem dX1_find_80 : decode cX1_find 80 = .ok (.if_icmp .eq 7, 3) := by decide +kernel
theorem dX1_find_83 : decode cX1_find 83 = .ok (.iconst 1, 1) := by decide +kernel
theorem dX1_find_84 : decode cX1_find 84 = .ok (.goto 4, 3) := by decide +kernel
theorem dX1_find_87 : decode cX1_find 87 = .ok (.iconst 0, 1) := by decide +kernel
theorem dX1_find_88 : decode cX1_find 88 = .ok (.ireturn, 1) := by decide +kernel
set_option maxRecDepth 20000 in
theorem ggX1_settle_X3_leadOf : GoodIn wsX1_settle wsX3_leadOf := goodIn_r _ [16, 17, 18, 19, 15, 20, 21, 22, 8, 9, 10, 23, 24, 25, 26, 27, 28, 29, 30, 31, 32, 33, 34, 35, 36, 37, 57] (by decide +kernel) (by decide +kernel)
set_option maxRecDepth 20000 in
theorem gX1_settle_X3_leadOf : GoodIn wsX1_settle (wsV RX1 53 RX3 yX3_leadOf wsX3_leadOf) := goodIn_app (goodIn_of _ (by decide +kernel)) ggX1_settle_X3_leadOf
set_option maxRecDepth 20000 in
theorem ggX1_settle_X6_turn : GoodIn wsX1_settle wsX6_turn := goodIn_r _ [41] (by decide +kernel) (by decide +kernel)
set_option maxRecDepth 20000 in
theorem gX1_settle_X6_turn : GoodIn wsX1_settle (va_wsS RX1 41 yX6_turn wsX6_turn) := goodIn_app (goodIn_of _ (by decide +kernel)) ggX1_settle_X6_turn
set_option maxRecDepth 20000 in
theorem ggX1_settle_X1_settleAs : GoodIn wsX1_settle wsX1_settleAs := goodIn_r _ [46, 2, 5, 47, 48, 49, 45, 0, 1, 3, 4, 6, 7, 8, 9, 10, 11, 12, 13, 14, 15, 16, 17, 18, 19, 20, 21, 22, 23, 24, 25, 26, 27, 28, 29, 30, 31, 32, 33, 34, 35, 36, 37, 38, 39, 40, 41, 42, 43, 44, 50, 51, 52, 53, 54, 55, 56, 57] (by decide +kernel) (by decide +kernel)
set_option maxRecDepth 20000 in
theorem gX1_settle_X1_settleAs : GoodIn wsX1_settle (wsV RX1 62 RX1 yX1_settleAs wsX1_settleAs) := goodIn_app (goodIn_of _ (by decide +kernel)) ggX1_settle_X1_settleAs
theorem dX1_settle_0 : decode cX1_settle 0 = .ok (.iload_n 1, 1) := by decide +kernel
theorem dX1_settle_1 : decode cX1_settle 1 = .ok (.bipush 15, 2) := by decide +kernel
theorem dX1_settle_3 : decode cX1_settle 3 = .ok (.if_icmp .ge 10, 3) := by decide +kernel
theorem dX1_settle_6 : decode cX1_settle 6 = .ok (.aload_n 0, 1) := by decide +kernel
theorem dX1_settle_7 : decode cX1_settle 7 = .ok (.getfield 24, 3) := by decide +kernel
theorem dX1_settle_10 : decode cX1_settle 10 = .ok (.ifnonnull 4, 3) := by decide +kernel
theorem dX1_settle_13 : decode cX1_settle 13 = .ok (.return_, 1) := by decide +kernel
theorem dX1_settle_14 : decode cX1_settle 14 = .ok (.iconst 1, 1) := by decide +kernel
theorem dX1_settle_15 : decode cX1_settle 15 = .ok (.iload_n 1, 1) := by decide +kernel
theorem dX1_settle_16 : decode cX1_settle 16 = .ok (.iconst 1, 1) := by decide +kernel
theorem dX1_settle_17 : decode cX1_settle 17 = .ok (.iadd, 1) := by decide +kernel
theorem dX1_settle_18 : decode cX1_settle 18 = .ok (.ishl, 1) := by decide +kernel
theorem dX1_settle_19 : decode cX1_settle 19 = .ok (.iconst 1, 1) := by decide +kernel
theorem dX1_settle_20 : decode cX1_settle 20 = .ok (.isub, 1) := by decide +kernel
theorem dX1_settle_21 : decode cX1_settle 21 = .ok (.istore_n 3, 1) := by decide +kernel
theorem dX1_settle_22 : decode cX1_settle 22 = .ok (.aload_n 0, 1) := by decide +kernel
theorem dX1_settle_23 : decode cX1_settle 23 = .ok (.getfield 24, 3) := by decide +kernel
theorem dX1_settle_26 : decode cX1_settle 26 = .ok (.iload_n 2, 1) := by decide +kernel
theorem dX1_settle_27 : decode cX1_settle 27 = .ok (.aload_n 0, 1) := by decide +kernel
theorem dX1_settle_28 : decode cX1_settle 28 = .ok (.getfield 38, 3) := by decide +kernel
theorem dX1_settle_31 : decode cX1_settle 31 = .ok (.iload_n 3, 1) := by decide +kernel
theorem dX1_settle_32 : decode cX1_settle 32 = .ok (.iand, 1) := by decide +kernel
theorem dX1_settle_33 : decode cX1_settle 33 = .ok (.ior, 1) := by decide +kernel
theorem dX1_settle_34 : decode cX1_settle 34 = .ok (.aload_n 0, 1) := by decide +kernel
theorem dX1_settle_35 : decode cX1_settle 35 = .ok (.getfield 28, 3) := by decide +kernel
theorem dX1_settle_38 : decode cX1_settle 38 = .ok (.invokevirtual 53, 3) := by decide +kernel
theorem dX1_settle_41 : decode cX1_settle 41 = .ok (.istore 4, 2) := by decide +kernel
theorem dX1_settle_43 : decode cX1_settle 43 = .ok (.iload 4, 2) := by decide +kernel
theorem dX1_settle_45 : decode cX1_settle 45 = .ok (.aload_n 0, 1) := by decide +kernel
theorem dX1_settle_46 : decode cX1_settle 46 = .ok (.getfield 15, 3) := by decide +kernel
theorem dX1_settle_49 : decode cX1_settle 49 = .ok (.if_icmp .le 32, 3) := by decide +kernel
theorem dX1_settle_52 : decode cX1_settle 52 = .ok (.iload 4, 2) := by decide +kernel
theorem dX1_settle_54 : decode cX1_settle 54 = .ok (.aload_n 0, 1) := by decide +kernel
theorem dX1_settle_55 : decode cX1_settle 55 = .ok (.getfield 24, 3) := by decide +kernel
theorem dX1_settle_58 : decode cX1_settle 58 = .ok (.iload_n 2, 1) := by decide +kernel
theorem dX1_settle_59 : decode cX1_settle 59 = .ok (.aload_n 0, 1) := by decide +kernel
theorem dX1_settle_60 : decode cX1_settle 60 = .ok (.getfield 46, 3) := by decide +kernel
theorem dX1_settle_63 : decode cX1_settle 63 = .ok (.iload_n 3, 1) := by decide +kernel
theorem dX1_settle_64 : decode cX1_settle 64 = .ok (.iand, 1) := by decide +kernel
theorem dX1_settle_65 : decode cX1_settle 65 = .ok (.ior, 1) := by decide +kernel
theorem dX1_settle_66 : decode cX1_settle 66 = .ok (.invokestatic 41, 3) := by decide +kernel
theorem dX1_settle_69 : decode cX1_settle 69 = .ok (.aload_n 0, 1) := by decide +kernel
theorem dX1_settle_70 : decode cX1_settle 70 = .ok (.getfield 31, 3) := by decide +kernel
theorem dX1_settle_73 : decode cX1_settle 73 = .ok (.invokevirtual 53, 3) := by decide +kernel
theorem dX1_settle_76 : decode cX1_settle 76 = .ok (.invokestatic 57, 3) := by decide +kernel
theorem dX1_settle_79 : decode cX1_settle 79 = .ok (.istore 4, 2) := by decide +kernel
theorem dX1_settle_81 : decode cX1_settle 81 = .ok (.iload 4, 2) := by decide +kernel
theorem dX1_settle_83 : decode cX1_settle 83 = .ok (.aload_n 0, 1) := by decide +kernel
theorem dX1_settle_84 : decode cX1_settle 84 = .ok (.getfield 15, 3) := by decide +kernel
theorem dX1_settle_87 : decode cX1_settle 87 = .ok (.if_icmp .gt 4, 3) := by decide +kernel
theorem dX1_settle_90 : decode cX1_settle 90 = .ok (.return_, 1) := by decide +kernel
theorem dX1_settle_91 : decode cX1_settle 91 = .ok (.iload_n 1, 1) := by decide +kernel
theorem dX1_settle_92 : decode cX1_settle 92 = .ok (.ifCond .ge 15, 3) := by decide +kernel
theorem dX1_settle_95 : decode cX1_settle 95 = .ok (.aload_n 0, 1) := by decide +kernel
theorem dX1_settle_96 : decode cX1_settle 96 = .ok (.iload_n 2, 1) := by decide +kernel
theorem dX1_settle_97 : decode cX1_settle 97 = .ok (.putfield 9, 3) := by decide +kernel
theorem dX1_settle_100 : decode cX1_settle 100 = .ok (.aload_n 0, 1) := by decide +kernel
theorem dX1_settle_101 : decode cX1_settle 101 = .ok (.iload 4, 2) := by decide +kernel
theorem dX1_settle_103 : decode cX1_settle 103 = .ok (.putfield 15, 3) := by decide +kernel
theorem dX1_settle_106 : decode cX1_settle 106 = .ok (.return_, 1) := by decide +kernel
theorem dX1_settle_107 : decode cX1_settle 107 = .ok (.aload_n 0, 1) := by decide +kernel
theorem dX1_settle_108 : decode cX1_settle 108 = .ok (.iload_n 1, 1) := by decide +kernel
theorem dX1_settle_109 : decode cX1_settle 109 = .ok (.iload_n 2, 1) := by decide +kernel
theorem dX1_settle_110 : decode cX1_settle 110 = .ok (.iconst 0, 1) := by decide +kernel
theorem dX1_settle_111 : decode cX1_settle 111 = .ok (.invokevirtual 62, 3) := by decide +kernel
theorem dX1_settle_114 : decode cX1_settle 114 = .ok (.aload_n 0, 1) := by decide +kernel
theorem dX1_settle_115 : decode cX1_settle 115 = .ok (.iload_n 1, 1) := by decide +kernel
theorem dX1_settle_116 : decode cX1_settle 116 = .ok (.iload_n 2, 1) := by decide +kernel
theorem dX1_settle_117 : decode cX1_settle 117 = .ok (.iconst 1, 1) := by decide +kernel
theorem dX1_settle_118 : decode cX1_settle 118 = .ok (.invokevirtual 62, 3) := by decide +kernel
theorem dX1_settle_121 : decode cX1_settle 121 = .ok (.return_, 1) := by decide +kernel
set_option maxRecDepth 20000 in
theorem ggX1_settleAs_X1_settle : GoodIn wsX1_settleAs wsX1_settle := goodIn_r _ [7, 8, 1, 9, 10, 2, 11, 12, 13, 14, 15, 16, 17, 18, 19, 20, 21, 22, 23, 24, 25, 26, 27, 28, 29, 30, 31, 32, 33, 34, 35, 36, 37, 38, 39, 40, 41, 42, 43, 44, 45, 46, 47, 48, 49, 6, 0, 3, 4, 5, 50, 51, 52, 53, 54, 55, 56, 57] (by decide +kernel) (by decide +kernel)
set_option maxRecDepth 20000 in
theorem gX1_settleAs_X1_settle : GoodIn wsX1_settleAs (wsV RX1 49 RX1 yX1_settle wsX1_settle) := goodIn_app (goodIn_of _ (by decide +kernel)) ggX1_settleAs_X1_settle
theorem dX1_settleAs_0 : decode cX1_settleAs 0 = .ok (.aload_n 0, 1) := by decide +kernel
theorem dX1_settleAs_1 : decode cX1_settleAs 1 = .ok (.getfield 38, 3) := by decide +kernel
theorem dX1_settleAs_4 : decode cX1_settleAs 4 = .ok (.iload_n 1, 1) := by decide +kernel
theorem dX1_settleAs_5 : decode cX1_settleAs 5 = .ok (.iushr, 1) := by decide +kernel
theorem dX1_settleAs_6 : decode cX1_settleAs 6 = .ok (.iconst 1, 1) := by decide +kernel
theorem dX1_settleAs_7 : decode cX1_settleAs 7 = .ok (.iand, 1) := by decide +kernel
theorem dX1_settleAs_8 : decode cX1_settleAs 8 = .ok (.iload_n 3, 1) := by decide +kernel
theorem dX1_settleAs_9 : decode cX1_settleAs 9 = .ok (.if_icmp .eq 15, 3) := by decide +kernel
theorem dX1_settleAs_12 : decode cX1_settleAs 12 = .ok (.aload_n 0, 1) := by decide +kernel
theorem dX1_settleAs_13 : decode cX1_settleAs 13 = .ok (.getfield 46, 3) := by decide +kernel
theorem dX1_settleAs_16 : decode cX1_settleAs 16 = .ok (.iload_n 1, 1) := by decide +kernel
theorem dX1_settleAs_17 : decode cX1_settleAs 17 = .ok (.iushr, 1) := by decide +kernel
theorem dX1_settleAs_18 : decode cX1_settleAs 18 = .ok (.iconst 1, 1) := by decide +kernel
theorem dX1_settleAs_19 : decode cX1_settleAs 19 = .ok (.iand, 1) := by decide +kernel
theorem dX1_settleAs_20 : decode cX1_settleAs 20 = .ok (.iload_n 3, 1) := by decide +kernel
theorem dX1_settleAs_21 : decode cX1_settleAs 21 = .ok (.if_icmp .ne 15, 3) := by decide +kernel
theorem dX1_settleAs_24 : decode cX1_settleAs 24 = .ok (.aload_n 0, 1) := by decide +kernel
theorem dX1_settleAs_25 : decode cX1_settleAs 25 = .ok (.iload_n 1, 1) := by decide +kernel
theorem dX1_settleAs_26 : decode cX1_settleAs 26 = .ok (.iconst 1, 1) := by decide +kernel
theorem dX1_settleAs_27 : decode cX1_settleAs 27 = .ok (.isub, 1) := by decide +kernel
theorem dX1_settleAs_28 : decode cX1_settleAs 28 = .ok (.iload_n 2, 1) := by decide +kernel
theorem dX1_settleAs_29 : decode cX1_settleAs 29 = .ok (.iload_n 3, 1) := by decide +kernel
theorem dX1_settleAs_30 : decode cX1_settleAs 30 = .ok (.iload_n 1, 1) := by decide +kernel
theorem dX1_settleAs_31 : decode cX1_settleAs 31 = .ok (.ishl, 1) := by decide +kernel
theorem dX1_settleAs_32 : decode cX1_settleAs 32 = .ok (.ior, 1) := by decide +kernel
theorem dX1_settleAs_33 : decode cX1_settleAs 33 = .ok (.invokevirtual 49, 3) := by decide +kernel
theorem dX1_settleAs_36 : decode cX1_settleAs 36 = .ok (.return_, 1) := by decide +kernel
set_option maxRecDepth 20000 in
theorem ggX2_init_X0_init : GoodIn wsX2_init wsX0_init := goodIn_r _ [11, 12, 2, 3, 13, 14, 15, 16, 17, 18, 19, 20, 21, 22, 23, 24, 25, 26, 27, 28, 29, 30, 31, 32, 33, 34, 35, 36, 37, 38, 39, 53, 42, 43, 44, 45, 46, 47, 48, 49, 50, 51, 52] (by decide +kernel) (by decide +kernel)
set_option maxRecDepth 20000 in
theorem gX2_init_X0_init : GoodIn wsX2_init (wsX0_init) := ggX2_init_X0_init
theorem dX2_init_0 : decode cX2_init 0 = .ok (.aload_n 0, 1) := by decide +kernel
theorem dX2_init_1 : decode cX2_init 1 = .ok (.invokespecial 3, 3) := by decide +kernel
theorem dX2_init_4 : decode cX2_init 4 = .ok (.aload_n 0, 1) := by decide +kernel
theorem dX2_init_5 : decode cX2_init 5 = .ok (.iconst 4, 1) := by decide +kernel
theorem dX2_init_6 : decode cX2_init 6 = .ok (.anewarray 9, 3) := by decide +kernel
theorem dX2_init_9 : decode cX2_init 9 = .ok (.putfield 11, 3) := by decide +kernel
theorem dX2_init_12 : decode cX2_init 12 = .ok (.aload_n 0, 1) := by decide +kernel
theorem dX2_init_13 : decode cX2_init 13 = .ok (.iconst 0, 1) := by decide +kernel
theorem dX2_init_14 : decode cX2_init 14 = .ok (.putfield 17, 3) := by decide +kernel
theorem dX2_init_17 : decode cX2_init 17 = .ok (.iconst 0, 1) := by decide +kernel
theorem dX2_init_18 : decode cX2_init 18 = .ok (.istore_n 1, 1) := by decide +kernel
theorem dX2_init_19 : decode cX2_init 19 = .ok (.iload_n 1, 1) := by decide +kernel
theorem dX2_init_20 : decode cX2_init 20 = .ok (.aload_n 0, 1) := by decide +kernel
theorem dX2_init_21 : decode cX2_init 21 = .ok (.getfield 11, 3) := by decide +kernel
theorem dX2_init_24 : decode cX2_init 24 = .ok (.arraylength, 1) := by decide +kernel
theorem dX2_init_25 : decode cX2_init 25 = .ok (.if_icmp .ge 22, 3) := by decide +kernel
theorem dX2_init_28 : decode cX2_init 28 = .ok (.aload_n 0, 1) := by decide +kernel
theorem dX2_init_29 : decode cX2_init 29 = .ok (.getfield 11, 3) := by decide +kernel
theorem dX2_init_32 : decode cX2_init 32 = .ok (.iload_n 1, 1) := by decide +kernel
theorem dX2_init_33 : decode cX2_init 33 = .ok (.new 9, 3) := by decide +kernel
theorem dX2_init_36 : decode cX2_init 36 = .ok (.dup, 1) := by decide +kernel
theorem dX2_init_37 : decode cX2_init 37 = .ok (.invokespecial 21, 3) := by decide +kernel
theorem dX2_init_40 : decode cX2_init 40 = .ok (.aastore, 1) := by decide +kernel
theorem dX2_init_41 : decode cX2_init 41 = .ok (.iinc 1 1, 3) := by decide +kernel
theorem dX2_init_44 : decode cX2_init 44 = .ok (.goto (-25), 3) := by decide +kernel
theorem dX2_init_47 : decode cX2_init 47 = .ok (.return_, 1) := by decide +kernel
set_option maxRecDepth 20000 in
theorem ggX2_push_X2_moveOldestToEnd : GoodIn wsX2_push wsX2_moveOldestToEnd := goodIn_r _ [7, 2, 35, 36] (by decide +kernel) (by decide +kernel)
set_option maxRecDepth 20000 in
theorem gX2_push_X2_moveOldestToEnd : GoodIn wsX2_push (wsV RX2 22 RX2 yX2_moveOldestToEnd wsX2_moveOldestToEnd) := goodIn_app (goodIn_of _ (by decide +kernel)) ggX2_push_X2_moveOldestToEnd
set_option maxRecDepth 20000 in
theorem ggX2_push_X0_copyFrom : GoodIn wsX2_push wsX0_copyFrom := goodIn_r _ [12, 13, 14, 15, 16, 17, 18, 19, 20, 21, 22, 23, 24, 25, 26, 27, 28, 29, 30, 31, 32, 33, 34, 37, 38, 39, 40, 41, 42, 43, 44, 45, 46, 47, 48] (by decide +kernel) (by decide +kernel)
set_option maxRecDepth 20000 in
theorem gX2_push_X0_copyFrom : GoodIn wsX2_push (wsV RX2 25 RX0 yX0_copyFrom wsX0_copyFrom) := goodIn_app (goodIn_of _ (by decide +kernel)) ggX2_push_X0_copyFrom
theorem dX2_push_0 : decode cX2_push 0 = .ok (.aload_n 0, 1) := by decide +kernel
theorem dX2_push_1 : decode cX2_push 1 = .ok (.getfield 17, 3) := by decide +kernel
theorem dX2_push_4 : decode cX2_push 4 = .ok (.aload_n 0, 1) := by decide +kernel
theorem dX2_push_5 : decode cX2_push 5 = .ok (.getfield 11, 3) := by decide +kernel
theorem dX2_push_8 : decode cX2_push 8 = .ok (.arraylength, 1) := by decide +kernel
theorem dX2_push_9 : decode cX2_push 9 = .ok (.if_icmp .lt 18, 3) := by decide +kernel
theorem dX2_push_12 : decode cX2_push 12 = .ok (.aload_n 0, 1) := by decide +kernel
theorem dX2_push_13 : decode cX2_push 13 = .ok (.invokevirtual 22, 3) := by decide +kernel
theorem dX2_push_16 : decode cX2_push 16 = .ok (.aload_n 0, 1) := by decide +kernel
theorem dX2_push_17 : decode cX2_push 17 = .ok (.aload_n 0, 1) := by decide +kernel
theorem dX2_push_18 : decode cX2_push 18 = .ok (.getfield 11, 3) := by decide +kernel
theorem dX2_push_21 : decode cX2_push 21 = .ok (.arraylength, 1) := by decide +kernel
theorem dX2_push_22 : decode cX2_push 22 = .ok (.iconst 1, 1) := by decide +kernel
theorem dX2_push_23 : decode cX2_push 23 = .ok (.isub, 1) := by decide +kernel
theorem dX2_push_24 : decode cX2_push 24 = .ok (.putfield 17, 3) := by decide +kernel
theorem dX2_push_27 : decode cX2_push 27 = .ok (.aload_n 0, 1) := by decide +kernel
theorem dX2_push_28 : decode cX2_push 28 = .ok (.getfield 17, 3) := by decide +kernel
theorem dX2_push_31 : decode cX2_push 31 = .ok (.ifCond .lt 27, 3) := by decide +kernel
theorem dX2_push_34 : decode cX2_push 34 = .ok (.aload_n 0, 1) := by decide +kernel
theorem dX2_push_35 : decode cX2_push 35 = .ok (.getfield 17, 3) := by decide +kernel
theorem dX2_push_38 : decode cX2_push 38 = .ok (.aload_n 0, 1) := by decide +kernel
theorem dX2_push_39 : decode cX2_push 39 = .ok (.getfield 11, 3) := by decide +kernel
theorem dX2_push_42 : decode cX2_push 42 = .ok (.arraylength, 1) := by decide +kernel
theorem dX2_push_43 : decode cX2_push 43 = .ok (.if_icmp .ge 15, 3) := by decide +kernel
theorem dX2_push_46 : decode cX2_push 46 = .ok (.aload_n 0, 1) := by decide +kernel
theorem dX2_push_47 : decode cX2_push 47 = .ok (.getfield 11, 3) := by decide +kernel
theorem dX2_push_50 : decode cX2_push 50 = .ok (.aload_n 0, 1) := by decide +kernel
theorem dX2_push_51 : decode cX2_push 51 = .ok (.getfield 17, 3) := by decide +kernel
theorem dX2_push_54 : decode cX2_push 54 = .ok (.aaload, 1) := by decide +kernel
theorem dX2_push_55 : decode cX2_push 55 = .ok (.goto 4, 3) := by decide +kernel
theorem dX2_push_58 : decode cX2_push 58 = .ok (.aconst_null, 1) := by decide +kernel
theorem dX2_push_59 : decode cX2_push 59 = .ok (.astore_n 2, 1) := by decide +kernel
theorem dX2_push_60 : decode cX2_push 60 = .ok (.aload_n 2, 1) := by decide +kernel
theorem dX2_push_61 : decode cX2_push 61 = .ok (.ifnull 18, 3) := by decide +kernel
theorem dX2_push_64 : decode cX2_push 64 = .ok (.aload_n 2, 1) := by decide +kernel
theorem dX2_push_65 : decode cX2_push 65 = .ok (.aload_n 1, 1) := by decide +kernel
theorem dX2_push_66 : decode cX2_push 66 = .ok (.invokevirtual 25, 3) := by decide +kernel
theorem dX2_push_69 : decode cX2_push 69 = .ok (.aload_n 0, 1) := by decide +kernel
theorem dX2_push_70 : decode cX2_push 70 = .ok (.dup, 1) := by decide +kernel
theorem dX2_push_71 : decode cX2_push 71 = .ok (.getfield 17, 3) := by decide +kernel
theorem dX2_push_74 : decode cX2_push 74 = .ok (.iconst 1, 1) := by decide +kernel
theorem dX2_push_75 : decode cX2_push 75 = .ok (.iadd, 1) := by decide +kernel
theorem dX2_push_76 : decode cX2_push 76 = .ok (.putfield 17, 3) := by decide +kernel
theorem dX2_push_79 : decode cX2_push 79 = .ok (.return_, 1) := by decide +kernel
theorem dX2_moveOldestToEnd_0 : decode cX2_moveOldestToEnd 0 = .ok (.aload_n 0, 1) := by decide +kernel
theorem dX2_moveOldestToEnd_1 : decode cX2_moveOldestToEnd 1 = .ok (.getfield 11, 3) := by decide +kernel
theorem dX2_moveOldestToEnd_4 : decode cX2_moveOldestToEnd 4 = .ok (.arraylength, 1) := by decide +kernel
theorem dX2_moveOldestToEnd_5 : decode cX2_moveOldestToEnd 5 = .ok (.ifCond .ne 4, 3) := by decide +kernel
theorem dX2_moveOldestToEnd_8 : decode cX2_moveOldestToEnd 8 = .ok (.return_, 1) := by decide +kernel
theorem dX2_moveOldestToEnd_9 : decode cX2_moveOldestToEnd 9 = .ok (.aload_n 0, 1) := by decide +kernel
theorem dX2_moveOldestToEnd_10 : decode cX2_moveOldestToEnd 10 = .ok (.getfield 11, 3) := by decide +kernel
theorem dX2_moveOldestToEnd_13 : decode cX2_moveOldestToEnd 13 = .ok (.iconst 0, 1) := by decide +kernel
theorem dX2_moveOldestToEnd_14 : decode cX2_moveOldestToEnd 14 = .ok (.aaload, 1) := by decide +kernel
theorem dX2_moveOldestToEnd_15 : decode cX2_moveOldestToEnd 15 = .ok (.astore_n 1, 1) := by decide +kernel
theorem dX2_moveOldestToEnd_16 : decode cX2_moveOldestToEnd 16 = .ok (.iconst 1, 1) := by decide +kernel
theorem dX2_moveOldestToEnd_17 : decode cX2_moveOldestToEnd 17 = .ok (.istore_n 2, 1) := by decide +kernel
theorem dX2_moveOldestToEnd_18 : decode cX2_moveOldestToEnd 18 = .ok (.iload_n 2, 1) := by decide +kernel
theorem dX2_moveOldestToEnd_19 : decode cX2_moveOldestToEnd 19 = .ok (.aload_n 0, 1) := by decide +kernel
theorem dX2_moveOldestToEnd_20 : decode cX2_moveOldestToEnd 20 = .ok (.getfield 11, 3) := by decide +kernel
theorem dX2_moveOldestToEnd_23 : decode cX2_moveOldestToEnd 23 = .ok (.arraylength, 1) := by decide +kernel
theorem dX2_moveOldestToEnd_24 : decode cX2_moveOldestToEnd 24 = .ok (.if_icmp .ge 23, 3) := by decide +kernel
theorem dX2_moveOldestToEnd_27 : decode cX2_moveOldestToEnd 27 = .ok (.aload_n 0, 1) := by decide +kernel
theorem dX2_moveOldestToEnd_28 : decode cX2_moveOldestToEnd 28 = .ok (.getfield 11, 3) := by decide +kernel
theorem dX2_moveOldestToEnd_31 : decode cX2_moveOldestToEnd 31 = .ok (.iload_n 2, 1) := by decide +kernel
theorem dX2_moveOldestToEnd_32 : decode cX2_moveOldestToEnd 32 = .ok (.iconst 1, 1) := by decide +kernel
theorem dX2_moveOldestToEnd_33 : decode cX2_moveOldestToEnd 33 = .ok (.isub, 1) := by decide +kernel
theorem dX2_moveOldestToEnd_34 : decode cX2_moveOldestToEnd 34 = .ok (.aload_n 0, 1) := by decide +kernel
theorem dX2_moveOldestToEnd_35 : decode cX2_moveOldestToEnd 35 = .ok (.getfield 11, 3) := by decide +kernel
theorem dX2_moveOldestToEnd_38 : decode cX2_moveOldestToEnd 38 = .ok (.iload_n 2, 1) := by decide +kernel
theorem dX2_moveOldestToEnd_39 : decode cX2_moveOldestToEnd 39 = .ok (.aaload, 1) := by decide +kernel
theorem dX2_moveOldestToEnd_40 : decode cX2_moveOldestToEnd 40 = .ok (.aastore, 1) := by decide +kernel
theorem dX2_moveOldestToEnd_41 : decode cX2_moveOldestToEnd 41 = .ok (.iinc 2 1, 3) := by decide +kernel
theorem dX2_moveOldestToEnd_44 : decode cX2_moveOldestToEnd 44 = .ok (.goto (-26), 3) := by decide +kernel
theorem dX2_moveOldestToEnd_47 : decode cX2_moveOldestToEnd 47 = .ok (.aload_n 0, 1) := by decide +kernel
theorem dX2_moveOldestToEnd_48 : decode cX2_moveOldestToEnd 48 = .ok (.getfield 11, 3) := by decide +kernel
theorem dX2_moveOldestToEnd_51 : decode cX2_moveOldestToEnd 51 = .ok (.aload_n 0, 1) := by decide +kernel
theorem dX2_moveOldestToEnd_52 : decode cX2_moveOldestToEnd 52 = .ok (.getfield 11, 3) := by decide +kernel
theorem dX2_moveOldestToEnd_55 : decode cX2_moveOldestToEnd 55 = .ok (.arraylength, 1) := by decide +kernel
theorem dX2_moveOldestToEnd_56 : decode cX2_moveOldestToEnd 56 = .ok (.iconst 1, 1) := by decide +kernel
theorem dX2_moveOldestToEnd_57 : decode cX2_moveOldestToEnd 57 = .ok (.isub, 1) := by decide +kernel
theorem dX2_moveOldestToEnd_58 : decode cX2_moveOldestToEnd 58 = .ok (.aload_n 1, 1) := by decide +kernel
theorem dX2_moveOldestToEnd_59 : decode cX2_moveOldestToEnd 59 = .ok (.aastore, 1) := by decide +kernel
theorem dX2_moveOldestToEnd_60 : decode cX2_moveOldestToEnd 60 = .ok (.return_, 1) := by decide +kernel
set_option maxRecDepth 20000 in
theorem ggX2_popInto_X0_copyFrom : GoodIn wsX2_popInto wsX0_copyFrom := goodIn_r _ [7, 8, 9, 10, 11, 12, 13, 14, 15, 16, 17, 18, 19, 20, 21, 22, 23, 24, 25, 26, 27, 28, 29, 32, 33, 34, 35, 36, 37, 38, 39, 40, 41, 42, 43] (by decide +kernel) (by decide +kernel)
set_option maxRecDepth 20000 in
theorem gX2_popInto_X0_copyFrom : GoodIn wsX2_popInto (wsV RX2 25 RX0 yX0_copyFrom wsX0_copyFrom) := goodIn_app (goodIn_of _ (by decide +kernel)) ggX2_popInto_X0_copyFrom
theorem dX2_popInto_0 : decode cX2_popInto 0 = .ok (.aload_n 1, 1) := by decide +kernel
theorem dX2_popInto_1 : decode cX2_popInto 1 = .ok (.ifnull 45, 3) := by decide +kernel
theorem dX2_popInto_4 : decode cX2_popInto 4 = .ok (.aload_n 0, 1) := by decide +kernel
theorem dX2_popInto_5 : decode cX2_popInto 5 = .ok (.getfield 17, 3) := by decide +kernel
theorem dX2_popInto_8 : decode cX2_popInto 8 = .ok (.ifCond .le 38, 3) := by decide +kernel
theorem dX2_popInto_11 : decode cX2_popInto 11 = .ok (.aload_n 0, 1) := by decide +kernel
theorem dX2_popInto_12 : decode cX2_popInto 12 = .ok (.getfield 17, 3) := by decide +kernel
theorem dX2_popInto_15 : decode cX2_popInto 15 = .ok (.aload_n 0, 1) := by decide +kernel
theorem dX2_popInto_16 : decode cX2_popInto 16 = .ok (.getfield 11, 3) := by decide +kernel
theorem dX2_popInto_19 : decode cX2_popInto 19 = .ok (.arraylength, 1) := by decide +kernel
theorem dX2_popInto_20 : decode cX2_popInto 20 = .ok (.if_icmp .gt 26, 3) := by decide +kernel
theorem dX2_popInto_23 : decode cX2_popInto 23 = .ok (.aload_n 0, 1) := by decide +kernel
theorem dX2_popInto_24 : decode cX2_popInto 24 = .ok (.dup, 1) := by decide +kernel
theorem dX2_popInto_25 : decode cX2_popInto 25 = .ok (.getfield 17, 3) := by decide +kernel
theorem dX2_popInto_28 : decode cX2_popInto 28 = .ok (.iconst 1, 1) := by decide +kernel
theorem dX2_popInto_29 : decode cX2_popInto 29 = .ok (.isub, 1) := by decide +kernel
theorem dX2_popInto_30 : decode cX2_popInto 30 = .ok (.putfield 17, 3) := by decide +kernel
theorem dX2_popInto_33 : decode cX2_popInto 33 = .ok (.aload_n 1, 1) := by decide +kernel
theorem dX2_popInto_34 : decode cX2_popInto 34 = .ok (.aload_n 0, 1) := by decide +kernel
theorem dX2_popInto_35 : decode cX2_popInto 35 = .ok (.getfield 11, 3) := by decide +kernel
theorem dX2_popInto_38 : decode cX2_popInto 38 = .ok (.aload_n 0, 1) := by decide +kernel
theorem dX2_popInto_39 : decode cX2_popInto 39 = .ok (.getfield 17, 3) := by decide +kernel
theorem dX2_popInto_42 : decode cX2_popInto 42 = .ok (.aaload, 1) := by decide +kernel
theorem dX2_popInto_43 : decode cX2_popInto 43 = .ok (.invokevirtual 25, 3) := by decide +kernel
theorem dX2_popInto_46 : decode cX2_popInto 46 = .ok (.return_, 1) := by decide +kernel
set_option maxRecDepth 20000 in
theorem ggX3_init_X4_fill : GoodIn wsX3_init wsX4_fill := goodIn_r _ [9] (by decide +kernel) (by decide +kernel)
set_option maxRecDepth 20000 in
theorem gX3_init_X4_fill : GoodIn wsX3_init (va_wsS RX3 15 yX4_fill wsX4_fill) := goodIn_app (goodIn_of _ (by decide +kernel)) ggX3_init_X4_fill
theorem dX3_init_0 : decode cX3_init 0 = .ok (.aload_n 0, 1) := by decide +kernel
theorem dX3_init_1 : decode cX3_init 1 = .ok (.invokespecial 3, 3) := by decide +kernel
theorem dX3_init_4 : decode cX3_init 4 = .ok (.aload_n 0, 1) := by decide +kernel
theorem dX3_init_5 : decode cX3_init 5 = .ok (.bipush 10, 2) := by decide +kernel
theorem dX3_init_7 : decode cX3_init 7 = .ok (.newarray .int, 2) := by decide +kernel
theorem dX3_init_9 : decode cX3_init 9 = .ok (.putfield 9, 3) := by decide +kernel
theorem dX3_init_12 : decode cX3_init 12 = .ok (.aload_n 0, 1) := by decide +kernel
theorem dX3_init_13 : decode cX3_init 13 = .ok (.getfield 9, 3) := by decide +kernel
theorem dX3_init_16 : decode cX3_init 16 = .ok (.iconst (-1), 1) := by decide +kernel
theorem dX3_init_17 : decode cX3_init 17 = .ok (.invokestatic 15, 3) := by decide +kernel
theorem dX3_init_20 : decode cX3_init 20 = .ok (.return_, 1) := by decide +kernel
theorem dX3_signFor_0 : decode cX3_signFor 0 = .ok (.iload_n 1, 1) := by decide +kernel
theorem dX3_signFor_1 : decode cX3_signFor 1 = .ok (.ifCond .lt 21, 3) := by decide +kernel
theorem dX3_signFor_4 : decode cX3_signFor 4 = .ok (.iload_n 1, 1) := by decide +kernel
theorem dX3_signFor_5 : decode cX3_signFor 5 = .ok (.aload_n 0, 1) := by decide +kernel
theorem dX3_signFor_6 : decode cX3_signFor 6 = .ok (.getfield 9, 3) := by decide +kernel
theorem dX3_signFor_9 : decode cX3_signFor 9 = .ok (.arraylength, 1) := by decide +kernel
theorem dX3_signFor_10 : decode cX3_signFor 10 = .ok (.if_icmp .ge 12, 3) := by decide +kernel
theorem dX3_signFor_13 : decode cX3_signFor 13 = .ok (.aload_n 0, 1) := by decide +kernel
theorem dX3_signFor_14 : decode cX3_signFor 14 = .ok (.getfield 9, 3) := by decide +kernel
theorem dX3_signFor_17 : decode cX3_signFor 17 = .ok (.iload_n 1, 1) := by decide +kernel
theorem dX3_signFor_18 : decode cX3_signFor 18 = .ok (.iaload, 1) := by decide +kernel
theorem dX3_signFor_19 : decode cX3_signFor 19 = .ok (.goto 4, 3) := by decide +kernel
theorem dX3_signFor_22 : decode cX3_signFor 22 = .ok (.iconst (-1), 1) := by decide +kernel
theorem dX3_signFor_23 : decode cX3_signFor 23 = .ok (.ireturn, 1) := by decide +kernel
set_option maxRecDepth 20000 in
theorem ggX3_has_X3_signFor : GoodIn wsX3_has wsX3_signFor := goodIn_r _ [5, 6, 7] (by decide +kernel) (by decide +kernel)
set_option maxRecDepth 20000 in
theorem gX3_has_X3_signFor : GoodIn wsX3_has (wsV RX3 21 RX3 yX3_signFor wsX3_signFor) := goodIn_app (goodIn_of _ (by decide +kernel)) ggX3_has_X3_signFor
theorem dX3_has_0 : decode cX3_has 0 = .ok (.aload_n 0, 1) := by decide +kernel
theorem dX3_has_1 : decode cX3_has 1 = .ok (.iload_n 1, 1) := by decide +kernel
theorem dX3_has_2 : decode cX3_has 2 = .ok (.invokevirtual 21, 3) := by decide +kernel
theorem dX3_has_5 : decode cX3_has 5 = .ok (.iconst (-1), 1) := by decide +kernel
theorem dX3_has_6 : decode cX3_has 6 = .ok (.if_icmp .eq 7, 3) := by decide +kernel
theorem dX3_has_9 : decode cX3_has 9 = .ok (.iconst 1, 1) := by decide +kernel
theorem dX3_has_10 : decode cX3_has 10 = .ok (.goto 4, 3) := by decide +kernel
theorem dX3_has_13 : decode cX3_has 13 = .ok (.iconst 0, 1) := by decide +kernel
theorem dX3_has_14 : decode cX3_has 14 = .ok (.ireturn, 1) := by decide +kernel
set_option maxRecDepth 20000 in
theorem ggX3_draw_X4_put : GoodIn wsX3_draw wsX4_put := goodIn_r _ [5] (by decide +kernel) (by decide +kernel)
set_option maxRecDepth 20000 in
theorem gX3_draw_X4_put : GoodIn wsX3_draw (va_wsS RX3 25 yX4_put wsX4_put) := goodIn_app (goodIn_of _ (by decide +kernel)) ggX3_draw_X4_put
theorem dX3_draw_0 : decode cX3_draw 0 = .ok (.aload_n 0, 1) := by decide +kernel
theorem dX3_draw_1 : decode cX3_draw 1 = .ok (.getfield 9, 3) := by decide +kernel
theorem dX3_draw_4 : decode cX3_draw 4 = .ok (.iload_n 1, 1) := by decide +kernel
theorem dX3_draw_5 : decode cX3_draw 5 = .ok (.iload_n 2, 1) := by decide +kernel
theorem dX3_draw_6 : decode cX3_draw 6 = .ok (.invokestatic 25, 3) := by decide +kernel
theorem dX3_draw_9 : decode cX3_draw 9 = .ok (.return_, 1) := by decide +kernel
theorem dX3_drawnAs_0 : decode cX3_drawnAs 0 = .ok (.iconst 0, 1) := by decide +kernel
theorem dX3_drawnAs_1 : decode cX3_drawnAs 1 = .ok (.istore_n 2, 1) := by decide +kernel
theorem dX3_drawnAs_2 : decode cX3_drawnAs 2 = .ok (.iload_n 2, 1) := by decide +kernel
theorem dX3_drawnAs_3 : decode cX3_drawnAs 3 = .ok (.aload_n 0, 1) := by decide +kernel
theorem dX3_drawnAs_4 : decode cX3_drawnAs 4 = .ok (.getfield 9, 3) := by decide +kernel
theorem dX3_drawnAs_7 : decode cX3_drawnAs 7 = .ok (.arraylength, 1) := by decide +kernel
theorem dX3_drawnAs_8 : decode cX3_drawnAs 8 = .ok (.if_icmp .ge 21, 3) := by decide +kernel
theorem dX3_drawnAs_11 : decode cX3_drawnAs 11 = .ok (.aload_n 0, 1) := by decide +kernel
theorem dX3_drawnAs_12 : decode cX3_drawnAs 12 = .ok (.getfield 9, 3) := by decide +kernel
theorem dX3_drawnAs_15 : decode cX3_drawnAs 15 = .ok (.iload_n 2, 1) := by decide +kernel
theorem dX3_drawnAs_16 : decode cX3_drawnAs 16 = .ok (.iaload, 1) := by decide +kernel
theorem dX3_drawnAs_17 : decode cX3_drawnAs 17 = .ok (.iload_n 1, 1) := by decide +kernel
theorem dX3_drawnAs_18 : decode cX3_drawnAs 18 = .ok (.if_icmp .ne 5, 3) := by decide +kernel
theorem dX3_drawnAs_21 : decode cX3_drawnAs 21 = .ok (.iload_n 2, 1) := by decide +kernel
theorem dX3_drawnAs_22 : decode cX3_drawnAs 22 = .ok (.ireturn, 1) := by decide +kernel
theorem dX3_drawnAs_23 : decode cX3_drawnAs 23 = .ok (.iinc 2 1, 3) := by decide +kernel
theorem dX3_drawnAs_26 : decode cX3_drawnAs 26 = .ok (.goto (-24), 3) := by decide +kernel
theorem dX3_drawnAs_29 : decode cX3_drawnAs 29 = .ok (.iconst (-1), 1) := by decide +kernel
theorem dX3_drawnAs_30 : decode cX3_drawnAs 30 = .ok (.ireturn, 1) := by decide +kernel
theorem dX3_asSet_0 : decode cX3_asSet 0 = .ok (.iconst 0, 1) := by decide +kernel
theorem dX3_asSet_1 : decode cX3_asSet 1 = .ok (.istore_n 1, 1) := by decide +kernel
theorem dX3_asSet_2 : decode cX3_asSet 2 = .ok (.iconst 0, 1) := by decide +kernel
theorem dX3_asSet_3 : decode cX3_asSet 3 = .ok (.istore_n 2, 1) := by decide +kernel
theorem dX3_asSet_4 : decode cX3_asSet 4 = .ok (.iload_n 2, 1) := by decide +kernel
theorem dX3_asSet_5 : decode cX3_asSet 5 = .ok (.aload_n 0, 1) := by decide +kernel
theorem dX3_asSet_6 : decode cX3_asSet 6 = .ok (.getfield 9, 3) := by decide +kernel
theorem dX3_asSet_9 : decode cX3_asSet 9 = .ok (.arraylength, 1) := by decide +kernel
theorem dX3_asSet_10 : decode cX3_asSet 10 = .ok (.if_icmp .ge 25, 3) := by decide +kernel
theorem dX3_asSet_13 : decode cX3_asSet 13 = .ok (.aload_n 0, 1) := by decide +kernel
theorem dX3_asSet_14 : decode cX3_asSet 14 = .ok (.getfield 9, 3) := by decide +kernel
theorem dX3_asSet_17 : decode cX3_asSet 17 = .ok (.iload_n 2, 1) := by decide +kernel
theorem dX3_asSet_18 : decode cX3_asSet 18 = .ok (.iaload, 1) := by decide +kernel
theorem dX3_asSet_19 : decode cX3_asSet 19 = .ok (.iconst (-1), 1) := by decide +kernel
theorem dX3_asSet_20 : decode cX3_asSet 20 = .ok (.if_icmp .eq 9, 3) := by decide +kernel
theorem dX3_asSet_23 : decode cX3_asSet 23 = .ok (.iload_n 1, 1) := by decide +kernel
theorem dX3_asSet_24 : decode cX3_asSet 24 = .ok (.iconst 1, 1) := by decide +kernel
theorem dX3_asSet_25 : decode cX3_asSet 25 = .ok (.iload_n 2, 1) := by decide +kernel
theorem dX3_asSet_26 : decode cX3_asSet 26 = .ok (.ishl, 1) := by decide +kernel
theorem dX3_asSet_27 : decode cX3_asSet 27 = .ok (.ior, 1) := by decide +kernel
theorem dX3_asSet_28 : decode cX3_asSet 28 = .ok (.istore_n 1, 1) := by decide +kernel
theorem dX3_asSet_29 : decode cX3_asSet 29 = .ok (.iinc 2 1, 3) := by decide +kernel
theorem dX3_asSet_32 : decode cX3_asSet 32 = .ok (.goto (-28), 3) := by decide +kernel
theorem dX3_asSet_35 : decode cX3_asSet 35 = .ok (.iload_n 1, 1) := by decide +kernel
theorem dX3_asSet_36 : decode cX3_asSet 36 = .ok (.ireturn, 1) := by decide +kernel
set_option maxRecDepth 20000 in
theorem ggX3_nearest_J6_bitCount_0f7a4 : GoodIn wsX3_nearest wsJ6_bitCount_0f7a4 := goodIn_r _ [5, 6, 7, 8] (by decide +kernel) (by decide +kernel)
set_option maxRecDepth 20000 in
theorem gX3_nearest_J6_bitCount_0f7a4 : GoodIn wsX3_nearest (va_wsS RX3 29 yJ6_bitCount_0f7a4 wsJ6_bitCount_0f7a4) := goodIn_app (goodIn_of _ (by decide +kernel)) ggX3_nearest_J6_bitCount_0f7a4
theorem dX3_nearest_0 : decode cX3_nearest 0 = .ok (.iconst (-1), 1) := by decide +kernel
theorem dX3_nearest_1 : decode cX3_nearest 1 = .ok (.istore_n 3, 1) := by decide +kernel
theorem dX3_nearest_2 : decode cX3_nearest 2 = .ok (.bipush 16, 2) := by decide +kernel
theorem dX3_nearest_4 : decode cX3_nearest 4 = .ok (.istore 4, 2) := by decide +kernel
theorem dX3_nearest_6 : decode cX3_nearest 6 = .ok (.iconst 0, 1) := by decide +kernel
theorem dX3_nearest_7 : decode cX3_nearest 7 = .ok (.istore 5, 2) := by decide +kernel
theorem dX3_nearest_9 : decode cX3_nearest 9 = .ok (.iload 5, 2) := by decide +kernel
theorem dX3_nearest_11 : decode cX3_nearest 11 = .ok (.aload_n 0, 1) := by decide +kernel
theorem dX3_nearest_12 : decode cX3_nearest 12 = .ok (.getfield 9, 3) := by decide +kernel
theorem dX3_nearest_15 : decode cX3_nearest 15 = .ok (.arraylength, 1) := by decide +kernel
theorem dX3_nearest_16 : decode cX3_nearest 16 = .ok (.if_icmp .ge 54, 3) := by decide +kernel
theorem dX3_nearest_19 : decode cX3_nearest 19 = .ok (.iload_n 1, 1) := by decide +kernel
theorem dX3_nearest_20 : decode cX3_nearest 20 = .ok (.aload_n 0, 1) := by decide +kernel
theorem dX3_nearest_21 : decode cX3_nearest 21 = .ok (.getfield 9, 3) := by decide +kernel
theorem dX3_nearest_24 : decode cX3_nearest 24 = .ok (.iload 5, 2) := by decide +kernel
theorem dX3_nearest_26 : decode cX3_nearest 26 = .ok (.iaload, 1) := by decide +kernel
theorem dX3_nearest_27 : decode cX3_nearest 27 = .ok (.ixor, 1) := by decide +kernel
theorem dX3_nearest_28 : decode cX3_nearest 28 = .ok (.invokestatic 29, 3) := by decide +kernel
theorem dX3_nearest_31 : decode cX3_nearest 31 = .ok (.istore 6, 2) := by decide +kernel
theorem dX3_nearest_33 : decode cX3_nearest 33 = .ok (.iload 5, 2) := by decide +kernel
theorem dX3_nearest_35 : decode cX3_nearest 35 = .ok (.iload_n 2, 1) := by decide +kernel
theorem dX3_nearest_36 : decode cX3_nearest 36 = .ok (.if_icmp .eq 28, 3) := by decide +kernel
theorem dX3_nearest_39 : decode cX3_nearest 39 = .ok (.aload_n 0, 1) := by decide +kernel
theorem dX3_nearest_40 : decode cX3_nearest 40 = .ok (.getfield 9, 3) := by decide +kernel
theorem dX3_nearest_43 : decode cX3_nearest 43 = .ok (.iload 5, 2) := by decide +kernel
theorem dX3_nearest_45 : decode cX3_nearest 45 = .ok (.iaload, 1) := by decide +kernel
theorem dX3_nearest_46 : decode cX3_nearest 46 = .ok (.iconst (-1), 1) := by decide +kernel
theorem dX3_nearest_47 : decode cX3_nearest 47 = .ok (.if_icmp .eq 17, 3) := by decide +kernel
theorem dX3_nearest_50 : decode cX3_nearest 50 = .ok (.iload 6, 2) := by decide +kernel
theorem dX3_nearest_52 : decode cX3_nearest 52 = .ok (.iload 4, 2) := by decide +kernel
theorem dX3_nearest_54 : decode cX3_nearest 54 = .ok (.if_icmp .ge 10, 3) := by decide +kernel
theorem dX3_nearest_57 : decode cX3_nearest 57 = .ok (.iload 5, 2) := by decide +kernel
theorem dX3_nearest_59 : decode cX3_nearest 59 = .ok (.istore_n 3, 1) := by decide +kernel
theorem dX3_nearest_60 : decode cX3_nearest 60 = .ok (.iload 6, 2) := by decide +kernel
theorem dX3_nearest_62 : decode cX3_nearest 62 = .ok (.istore 4, 2) := by decide +kernel
theorem dX3_nearest_64 : decode cX3_nearest 64 = .ok (.iinc 5 1, 3) := by decide +kernel
theorem dX3_nearest_67 : decode cX3_nearest 67 = .ok (.goto (-58), 3) := by decide +kernel
theorem dX3_nearest_70 : decode cX3_nearest 70 = .ok (.iload_n 3, 1) := by decide +kernel
theorem dX3_nearest_71 : decode cX3_nearest 71 = .ok (.ireturn, 1) := by decide +kernel
set_option maxRecDepth 20000 in
theorem ggX3_marginOf_J6_bitCount_0f7a4 : GoodIn wsX3_marginOf wsJ6_bitCount_0f7a4 := goodIn_r _ [9, 10, 11, 12] (by decide +kernel) (by decide +kernel)
set_option maxRecDepth 20000 in
theorem gX3_marginOf_J6_bitCount_0f7a4 : GoodIn wsX3_marginOf (va_wsS RX3 29 yJ6_bitCount_0f7a4 wsJ6_bitCount_0f7a4) := goodIn_app (goodIn_of _ (by decide +kernel)) ggX3_marginOf_J6_bitCount_0f7a4
set_option maxRecDepth 20000 in
theorem ggX3_marginOf_X3_signFor : GoodIn wsX3_marginOf wsX3_signFor := goodIn_r _ [17, 1, 18] (by decide +kernel) (by decide +kernel)
set_option maxRecDepth 20000 in
theorem gX3_marginOf_X3_signFor : GoodIn wsX3_marginOf (wsV RX3 21 RX3 yX3_signFor wsX3_signFor) := goodIn_app (goodIn_of _ (by decide +kernel)) ggX3_marginOf_X3_signFor
theorem dX3_marginOf_0 : decode cX3_marginOf 0 = .ok (.bipush 15, 2) := by decide +kernel
theorem dX3_marginOf_2 : decode cX3_marginOf 2 = .ok (.istore_n 3, 1) := by decide +kernel
theorem dX3_marginOf_3 : decode cX3_marginOf 3 = .ok (.iconst 0, 1) := by decide +kernel
theorem dX3_marginOf_4 : decode cX3_marginOf 4 = .ok (.istore 4, 2) := by decide +kernel
theorem dX3_marginOf_6 : decode cX3_marginOf 6 = .ok (.iload 4, 2) := by decide +kernel
theorem dX3_marginOf_8 : decode cX3_marginOf 8 = .ok (.aload_n 0, 1) := by decide +kernel
theorem dX3_marginOf_9 : decode cX3_marginOf 9 = .ok (.getfield 9, 3) := by decide +kernel
theorem dX3_marginOf_12 : decode cX3_marginOf 12 = .ok (.arraylength, 1) := by decide +kernel
theorem dX3_marginOf_13 : decode cX3_marginOf 13 = .ok (.if_icmp .ge 43, 3) := by decide +kernel
theorem dX3_marginOf_16 : decode cX3_marginOf 16 = .ok (.iload 4, 2) := by decide +kernel
theorem dX3_marginOf_18 : decode cX3_marginOf 18 = .ok (.iload_n 2, 1) := by decide +kernel
theorem dX3_marginOf_19 : decode cX3_marginOf 19 = .ok (.if_icmp .eq 31, 3) := by decide +kernel
theorem dX3_marginOf_22 : decode cX3_marginOf 22 = .ok (.aload_n 0, 1) := by decide +kernel
theorem dX3_marginOf_23 : decode cX3_marginOf 23 = .ok (.getfield 9, 3) := by decide +kernel
theorem dX3_marginOf_26 : decode cX3_marginOf 26 = .ok (.iload 4, 2) := by decide +kernel
theorem dX3_marginOf_28 : decode cX3_marginOf 28 = .ok (.iaload, 1) := by decide +kernel
theorem dX3_marginOf_29 : decode cX3_marginOf 29 = .ok (.iconst (-1), 1) := by decide +kernel
theorem dX3_marginOf_30 : decode cX3_marginOf 30 = .ok (.if_icmp .eq 20, 3) := by decide +kernel
theorem dX3_marginOf_33 : decode cX3_marginOf 33 = .ok (.iload_n 3, 1) := by decide +kernel
theorem dX3_marginOf_34 : decode cX3_marginOf 34 = .ok (.iload_n 1, 1) := by decide +kernel
theorem dX3_marginOf_35 : decode cX3_marginOf 35 = .ok (.aload_n 0, 1) := by decide +kernel
theorem dX3_marginOf_36 : decode cX3_marginOf 36 = .ok (.getfield 9, 3) := by decide +kernel
theorem dX3_marginOf_39 : decode cX3_marginOf 39 = .ok (.iload 4, 2) := by decide +kernel
theorem dX3_marginOf_41 : decode cX3_marginOf 41 = .ok (.iaload, 1) := by decide +kernel
theorem dX3_marginOf_42 : decode cX3_marginOf 42 = .ok (.ixor, 1) := by decide +kernel
theorem dX3_marginOf_43 : decode cX3_marginOf 43 = .ok (.invokestatic 29, 3) := by decide +kernel
theorem dX3_marginOf_46 : decode cX3_marginOf 46 = .ok (.invokestatic 34, 3) := by decide +kernel
theorem dX3_marginOf_49 : decode cX3_marginOf 49 = .ok (.istore_n 3, 1) := by decide +kernel
theorem dX3_marginOf_50 : decode cX3_marginOf 50 = .ok (.iinc 4 1, 3) := by decide +kernel
theorem dX3_marginOf_53 : decode cX3_marginOf 53 = .ok (.goto (-47), 3) := by decide +kernel
theorem dX3_marginOf_56 : decode cX3_marginOf 56 = .ok (.iload_n 3, 1) := by decide +kernel
theorem dX3_marginOf_57 : decode cX3_marginOf 57 = .ok (.iload_n 1, 1) := by decide +kernel
theorem dX3_marginOf_58 : decode cX3_marginOf 58 = .ok (.aload_n 0, 1) := by decide +kernel
theorem dX3_marginOf_59 : decode cX3_marginOf 59 = .ok (.iload_n 2, 1) := by decide +kernel
theorem dX3_marginOf_60 : decode cX3_marginOf 60 = .ok (.invokevirtual 21, 3) := by decide +kernel
theorem dX3_marginOf_63 : decode cX3_marginOf 63 = .ok (.ixor, 1) := by decide +kernel
theorem dX3_marginOf_64 : decode cX3_marginOf 64 = .ok (.invokestatic 29, 3) := by decide +kernel
theorem dX3_marginOf_67 : decode cX3_marginOf 67 = .ok (.isub, 1) := by decide +kernel
theorem dX3_marginOf_68 : decode cX3_marginOf 68 = .ok (.ireturn, 1) := by decide +kernel
set_option maxRecDepth 20000 in
theorem ggX3_leadOf_X3_marginOf : GoodIn wsX3_leadOf wsX3_marginOf := goodIn_r _ [5, 6, 7, 8, 9, 10, 11, 12, 13, 14, 15, 16, 17, 18, 19, 20, 4, 21, 26] (by decide +kernel) (by decide +kernel)
set_option maxRecDepth 20000 in
theorem gX3_leadOf_X3_marginOf : GoodIn wsX3_leadOf (wsV RX3 40 RX3 yX3_marginOf wsX3_marginOf) := goodIn_app (goodIn_of _ (by decide +kernel)) ggX3_leadOf_X3_marginOf
set_option maxRecDepth 20000 in
theorem ggX3_leadOf_X3_nearest : GoodIn wsX3_leadOf wsX3_nearest := goodIn_r _ [25, 6, 11, 12, 13, 14, 15, 16, 17, 26] (by decide +kernel) (by decide +kernel)
set_option maxRecDepth 20000 in
theorem gX3_leadOf_X3_nearest : GoodIn wsX3_leadOf (wsV RX3 43 RX3 yX3_nearest wsX3_nearest) := goodIn_app (goodIn_of _ (by decide +kernel)) ggX3_leadOf_X3_nearest
theorem dX3_leadOf_0 : decode cX3_leadOf 0 = .ok (.aload_n 0, 1) := by decide +kernel
theorem dX3_leadOf_1 : decode cX3_leadOf 1 = .ok (.iload_n 1, 1) := by decide +kernel
theorem dX3_leadOf_2 : decode cX3_leadOf 2 = .ok (.iload_n 2, 1) := by decide +kernel
theorem dX3_leadOf_3 : decode cX3_leadOf 3 = .ok (.invokevirtual 40, 3) := by decide +kernel
theorem dX3_leadOf_6 : decode cX3_leadOf 6 = .ok (.istore_n 3, 1) := by decide +kernel
theorem dX3_leadOf_7 : decode cX3_leadOf 7 = .ok (.iload_n 3, 1) := by decide +kernel
theorem dX3_leadOf_8 : decode cX3_leadOf 8 = .ok (.ifCond .gt 17, 3) := by decide +kernel
theorem dX3_leadOf_11 : decode cX3_leadOf 11 = .ok (.iload_n 3, 1) := by decide +kernel
theorem dX3_leadOf_12 : decode cX3_leadOf 12 = .ok (.ifCond .ne 17, 3) := by decide +kernel
theorem dX3_leadOf_15 : decode cX3_leadOf 15 = .ok (.aload_n 0, 1) := by decide +kernel
theorem dX3_leadOf_16 : decode cX3_leadOf 16 = .ok (.iload_n 1, 1) := by decide +kernel
theorem dX3_leadOf_17 : decode cX3_leadOf 17 = .ok (.iconst (-1), 1) := by decide +kernel
theorem dX3_leadOf_18 : decode cX3_leadOf 18 = .ok (.invokevirtual 43, 3) := by decide +kernel
theorem dX3_leadOf_21 : decode cX3_leadOf 21 = .ok (.iload_n 2, 1) := by decide +kernel
theorem dX3_leadOf_22 : decode cX3_leadOf 22 = .ok (.if_icmp .ne 7, 3) := by decide +kernel
theorem dX3_leadOf_25 : decode cX3_leadOf 25 = .ok (.iload_n 3, 1) := by decide +kernel
theorem dX3_leadOf_26 : decode cX3_leadOf 26 = .ok (.goto 4, 3) := by decide +kernel
theorem dX3_leadOf_29 : decode cX3_leadOf 29 = .ok (.iconst (-1), 1) := by decide +kernel
theorem dX3_leadOf_30 : decode cX3_leadOf 30 = .ok (.ireturn, 1) := by decide +kernel
set_option maxRecDepth 20000 in
theorem ggX3_copyFrom_X4_copy : GoodIn wsX3_copyFrom wsX4_copy := goodIn_r _ [5] (by decide +kernel) (by decide +kernel)
set_option maxRecDepth 20000 in
theorem gX3_copyFrom_X4_copy : GoodIn wsX3_copyFrom (va_wsS RX3 46 yX4_copy wsX4_copy) := goodIn_app (goodIn_of _ (by decide +kernel)) ggX3_copyFrom_X4_copy
theorem dX3_copyFrom_0 : decode cX3_copyFrom 0 = .ok (.aload_n 1, 1) := by decide +kernel
theorem dX3_copyFrom_1 : decode cX3_copyFrom 1 = .ok (.ifnull 14, 3) := by decide +kernel
theorem dX3_copyFrom_4 : decode cX3_copyFrom 4 = .ok (.aload_n 1, 1) := by decide +kernel
theorem dX3_copyFrom_5 : decode cX3_copyFrom 5 = .ok (.getfield 9, 3) := by decide +kernel
theorem dX3_copyFrom_8 : decode cX3_copyFrom 8 = .ok (.aload_n 0, 1) := by decide +kernel
theorem dX3_copyFrom_9 : decode cX3_copyFrom 9 = .ok (.getfield 9, 3) := by decide +kernel
theorem dX3_copyFrom_12 : decode cX3_copyFrom 12 = .ok (.invokestatic 46, 3) := by decide +kernel
theorem dX3_copyFrom_15 : decode cX3_copyFrom 15 = .ok (.return_, 1) := by decide +kernel
theorem dX4_at_0 : decode cX4_at 0 = .ok (.aload_n 0, 1) := by decide +kernel
theorem dX4_at_1 : decode cX4_at 1 = .ok (.ifnull 19, 3) := by decide +kernel
theorem dX4_at_4 : decode cX4_at 4 = .ok (.iload_n 1, 1) := by decide +kernel
theorem dX4_at_5 : decode cX4_at 5 = .ok (.ifCond .lt 15, 3) := by decide +kernel
theorem dX4_at_8 : decode cX4_at 8 = .ok (.iload_n 1, 1) := by decide +kernel
theorem dX4_at_9 : decode cX4_at 9 = .ok (.aload_n 0, 1) := by decide +kernel
theorem dX4_at_10 : decode cX4_at 10 = .ok (.arraylength, 1) := by decide +kernel
theorem dX4_at_11 : decode cX4_at 11 = .ok (.if_icmp .ge 9, 3) := by decide +kernel
theorem dX4_at_14 : decode cX4_at 14 = .ok (.aload_n 0, 1) := by decide +kernel
theorem dX4_at_15 : decode cX4_at 15 = .ok (.iload_n 1, 1) := by decide +kernel
theorem dX4_at_16 : decode cX4_at 16 = .ok (.iaload, 1) := by decide +kernel
theorem dX4_at_17 : decode cX4_at 17 = .ok (.goto 4, 3) := by decide +kernel
theorem dX4_at_20 : decode cX4_at 20 = .ok (.iconst (-1), 1) := by decide +kernel
theorem dX4_at_21 : decode cX4_at 21 = .ok (.ireturn, 1) := by decide +kernel
theorem dX4_put_0 : decode cX4_put 0 = .ok (.aload_n 0, 1) := by decide +kernel
theorem dX4_put_1 : decode cX4_put 1 = .ok (.ifnull 17, 3) := by decide +kernel
theorem dX4_put_4 : decode cX4_put 4 = .ok (.iload_n 1, 1) := by decide +kernel
theorem dX4_put_5 : decode cX4_put 5 = .ok (.ifCond .lt 13, 3) := by decide +kernel
theorem dX4_put_8 : decode cX4_put 8 = .ok (.iload_n 1, 1) := by decide +kernel
theorem dX4_put_9 : decode cX4_put 9 = .ok (.aload_n 0, 1) := by decide +kernel
theorem dX4_put_10 : decode cX4_put 10 = .ok (.arraylength, 1) := by decide +kernel
theorem dX4_put_11 : decode cX4_put 11 = .ok (.if_icmp .ge 7, 3) := by decide +kernel
theorem dX4_put_14 : decode cX4_put 14 = .ok (.aload_n 0, 1) := by decide +kernel
theorem dX4_put_15 : decode cX4_put 15 = .ok (.iload_n 1, 1) := by decide +kernel
theorem dX4_put_16 : decode cX4_put 16 = .ok (.iload_n 2, 1) := by decide +kernel
theorem dX4_put_17 : decode cX4_put 17 = .ok (.iastore, 1) := by decide +kernel
theorem dX4_put_18 : decode cX4_put 18 = .ok (.return_, 1) := by decide +kernel
theorem dX4_fill_0 : decode cX4_fill 0 = .ok (.aload_n 0, 1) := by decide +kernel
theorem dX4_fill_1 : decode cX4_fill 1 = .ok (.ifnull 21, 3) := by decide +kernel
theorem dX4_fill_4 : decode cX4_fill 4 = .ok (.iconst 0, 1) := by decide +kernel
theorem dX4_fill_5 : decode cX4_fill 5 = .ok (.istore_n 2, 1) := by decide +kernel
theorem dX4_fill_6 : decode cX4_fill 6 = .ok (.iload_n 2, 1) := by decide +kernel
theorem dX4_fill_7 : decode cX4_fill 7 = .ok (.aload_n 0, 1) := by decide +kernel
theorem dX4_fill_8 : decode cX4_fill 8 = .ok (.arraylength, 1) := by decide +kernel
theorem dX4_fill_9 : decode cX4_fill 9 = .ok (.if_icmp .ge 13, 3) := by decide +kernel
theorem dX4_fill_12 : decode cX4_fill 12 = .ok (.aload_n 0, 1) := by decide +kernel
theorem dX4_fill_13 : decode cX4_fill 13 = .ok (.iload_n 2, 1) := by decide +kernel
theorem dX4_fill_14 : decode cX4_fill 14 = .ok (.iload_n 1, 1) := by decide +kernel
theorem dX4_fill_15 : decode cX4_fill 15 = .ok (.iastore, 1) := by decide +kernel
theorem dX4_fill_16 : decode cX4_fill 16 = .ok (.iinc 2 1, 3) := by decide +kernel
theorem dX4_fill_19 : decode cX4_fill 19 = .ok (.goto (-13), 3) := by decide +kernel
theorem dX4_fill_22 : decode cX4_fill 22 = .ok (.return_, 1) := by decide +kernel
theorem dX4_copy_0 : decode cX4_copy 0 = .ok (.aload_n 0, 1) := by decide +kernel
theorem dX4_copy_1 : decode cX4_copy 1 = .ok (.ifnull 33, 3) := by decide +kernel
theorem dX4_copy_4 : decode cX4_copy 4 = .ok (.aload_n 1, 1) := by decide +kernel
theorem dX4_copy_5 : decode cX4_copy 5 = .ok (.ifnull 29, 3) := by decide +kernel
theorem dX4_copy_8 : decode cX4_copy 8 = .ok (.iconst 0, 1) := by decide +kernel
theorem dX4_copy_9 : decode cX4_copy 9 = .ok (.istore_n 2, 1) := by decide +kernel
theorem dX4_copy_10 : decode cX4_copy 10 = .ok (.iload_n 2, 1) := by decide +kernel
theorem dX4_copy_11 : decode cX4_copy 11 = .ok (.aload_n 0, 1) := by decide +kernel
theorem dX4_copy_12 : decode cX4_copy 12 = .ok (.arraylength, 1) := by decide +kernel
theorem dX4_copy_13 : decode cX4_copy 13 = .ok (.if_icmp .ge 21, 3) := by decide +kernel
theorem dX4_copy_16 : decode cX4_copy 16 = .ok (.iload_n 2, 1) := by decide +kernel
theorem dX4_copy_17 : decode cX4_copy 17 = .ok (.aload_n 1, 1) := by decide +kernel
theorem dX4_copy_18 : decode cX4_copy 18 = .ok (.arraylength, 1) := by decide +kernel
theorem dX4_copy_19 : decode cX4_copy 19 = .ok (.if_icmp .ge 15, 3) := by decide +kernel
theorem dX4_copy_22 : decode cX4_copy 22 = .ok (.aload_n 1, 1) := by decide +kernel
theorem dX4_copy_23 : decode cX4_copy 23 = .ok (.iload_n 2, 1) := by decide +kernel
theorem dX4_copy_24 : decode cX4_copy 24 = .ok (.aload_n 0, 1) := by decide +kernel
theorem dX4_copy_25 : decode cX4_copy 25 = .ok (.iload_n 2, 1) := by decide +kernel
theorem dX4_copy_26 : decode cX4_copy 26 = .ok (.iaload, 1) := by decide +kernel
theorem dX4_copy_27 : decode cX4_copy 27 = .ok (.iastore, 1) := by decide +kernel
theorem dX4_copy_28 : decode cX4_copy 28 = .ok (.iinc 2 1, 3) := by decide +kernel
theorem dX4_copy_31 : decode cX4_copy 31 = .ok (.goto (-21), 3) := by decide +kernel
theorem dX4_copy_34 : decode cX4_copy 34 = .ok (.return_, 1) := by decide +kernel
theorem dX5_init_0 : decode cX5_init 0 = .ok (.aload_n 0, 1) := by decide +kernel
theorem dX5_init_1 : decode cX5_init 1 = .ok (.invokespecial 3, 3) := by decide +kernel
theorem dX5_init_4 : decode cX5_init 4 = .ok (.aload_n 0, 1) := by decide +kernel
theorem dX5_init_5 : decode cX5_init 5 = .ok (.bipush 30, 2) := by decide +kernel
theorem dX5_init_7 : decode cX5_init 7 = .ok (.newarray .int, 2) := by decide +kernel
theorem dX5_init_9 : decode cX5_init 9 = .ok (.putfield 9, 3) := by decide +kernel
theorem dX5_init_12 : decode cX5_init 12 = .ok (.aload_n 0, 1) := by decide +kernel
theorem dX5_init_13 : decode cX5_init 13 = .ok (.iconst 0, 1) := by decide +kernel
theorem dX5_init_14 : decode cX5_init 14 = .ok (.putfield 15, 3) := by decide +kernel
theorem dX5_init_17 : decode cX5_init 17 = .ok (.return_, 1) := by decide +kernel
theorem dX5_placeIn_0 : decode cX5_placeIn 0 = .ok (.iload_n 0, 1) := by decide +kernel
theorem dX5_placeIn_1 : decode cX5_placeIn 1 = .ok (.bipush 10, 2) := by decide +kernel
theorem dX5_placeIn_3 : decode cX5_placeIn 3 = .ok (.idiv, 1) := by decide +kernel
theorem dX5_placeIn_4 : decode cX5_placeIn 4 = .ok (.ireturn, 1) := by decide +kernel
theorem dX5_reasonIn_0 : decode cX5_reasonIn 0 = .ok (.iload_n 0, 1) := by decide +kernel
theorem dX5_reasonIn_1 : decode cX5_reasonIn 1 = .ok (.bipush 10, 2) := by decide +kernel
theorem dX5_reasonIn_3 : decode cX5_reasonIn 3 = .ok (.irem, 1) := by decide +kernel
theorem dX5_reasonIn_4 : decode cX5_reasonIn 4 = .ok (.ireturn, 1) := by decide +kernel
theorem dX5_codeOf_0 : decode cX5_codeOf 0 = .ok (.bipush 10, 2) := by decide +kernel
theorem dX5_codeOf_2 : decode cX5_codeOf 2 = .ok (.iload_n 0, 1) := by decide +kernel
theorem dX5_codeOf_3 : decode cX5_codeOf 3 = .ok (.imul, 1) := by decide +kernel
theorem dX5_codeOf_4 : decode cX5_codeOf 4 = .ok (.iload_n 1, 1) := by decide +kernel
theorem dX5_codeOf_5 : decode cX5_codeOf 5 = .ok (.iadd, 1) := by decide +kernel
theorem dX5_codeOf_6 : decode cX5_codeOf 6 = .ok (.ireturn, 1) := by decide +kernel
theorem dX5_append_0 : decode cX5_append 0 = .ok (.aload_n 0, 1) := by decide +kernel
theorem dX5_append_1 : decode cX5_append 1 = .ok (.getfield 15, 3) := by decide +kernel
theorem dX5_append_4 : decode cX5_append 4 = .ok (.ifCond .lt 35, 3) := by decide +kernel
theorem dX5_append_7 : decode cX5_append 7 = .ok (.aload_n 0, 1) := by decide +kernel
theorem dX5_append_8 : decode cX5_append 8 = .ok (.getfield 15, 3) := by decide +kernel
theorem dX5_append_11 : decode cX5_append 11 = .ok (.aload_n 0, 1) := by decide +kernel
theorem dX5_append_12 : decode cX5_append 12 = .ok (.getfield 9, 3) := by decide +kernel
theorem dX5_append_15 : decode cX5_append 15 = .ok (.arraylength, 1) := by decide +kernel
theorem dX5_append_16 : decode cX5_append 16 = .ok (.if_icmp .ge 23, 3) := by decide +kernel
theorem dX5_append_19 : decode cX5_append 19 = .ok (.aload_n 0, 1) := by decide +kernel
theorem dX5_append_20 : decode cX5_append 20 = .ok (.getfield 9, 3) := by decide +kernel
theorem dX5_append_23 : decode cX5_append 23 = .ok (.aload_n 0, 1) := by decide +kernel
theorem dX5_append_24 : decode cX5_append 24 = .ok (.getfield 15, 3) := by decide +kernel
theorem dX5_append_27 : decode cX5_append 27 = .ok (.iload_n 1, 1) := by decide +kernel
theorem dX5_append_28 : decode cX5_append 28 = .ok (.iastore, 1) := by decide +kernel
theorem dX5_append_29 : decode cX5_append 29 = .ok (.aload_n 0, 1) := by decide +kernel
theorem dX5_append_30 : decode cX5_append 30 = .ok (.dup, 1) := by decide +kernel
theorem dX5_append_31 : decode cX5_append 31 = .ok (.getfield 15, 3) := by decide +kernel
theorem dX5_append_34 : decode cX5_append 34 = .ok (.iconst 1, 1) := by decide +kernel
theorem dX5_append_35 : decode cX5_append 35 = .ok (.iadd, 1) := by decide +kernel
theorem dX5_append_36 : decode cX5_append 36 = .ok (.putfield 15, 3) := by decide +kernel
theorem dX5_append_39 : decode cX5_append 39 = .ok (.return_, 1) := by decide +kernel
set_option maxRecDepth 20000 in
theorem ggX5_letterAt_X4_at : GoodIn wsX5_letterAt wsX4_at := goodIn_r _ [6] (by decide +kernel) (by decide +kernel)
set_option maxRecDepth 20000 in
theorem gX5_letterAt_X4_at : GoodIn wsX5_letterAt (va_wsS RX5 19 yX4_at wsX4_at) := goodIn_app (goodIn_of _ (by decide +kernel)) ggX5_letterAt_X4_at
theorem dX5_letterAt_0 : decode cX5_letterAt 0 = .ok (.iload_n 1, 1) := by decide +kernel
theorem dX5_letterAt_1 : decode cX5_letterAt 1 = .ok (.aload_n 0, 1) := by decide +kernel
theorem dX5_letterAt_2 : decode cX5_letterAt 2 = .ok (.getfield 15, 3) := by decide +kernel
theorem dX5_letterAt_5 : decode cX5_letterAt 5 = .ok (.if_icmp .ge 17, 3) := by decide +kernel
theorem dX5_letterAt_8 : decode cX5_letterAt 8 = .ok (.aload_n 0, 1) := by decide +kernel
theorem dX5_letterAt_9 : decode cX5_letterAt 9 = .ok (.getfield 9, 3) := by decide +kernel
theorem dX5_letterAt_12 : decode cX5_letterAt 12 = .ok (.iload_n 1, 1) := by decide +kernel
theorem dX5_letterAt_13 : decode cX5_letterAt 13 = .ok (.invokestatic 19, 3) := by decide +kernel
theorem dX5_letterAt_16 : decode cX5_letterAt 16 = .ok (.bipush 97, 2) := by decide +kernel
theorem dX5_letterAt_18 : decode cX5_letterAt 18 = .ok (.isub, 1) := by decide +kernel
theorem dX5_letterAt_19 : decode cX5_letterAt 19 = .ok (.goto 4, 3) := by decide +kernel
theorem dX5_letterAt_22 : decode cX5_letterAt 22 = .ok (.iconst (-1), 1) := by decide +kernel
theorem dX5_letterAt_23 : decode cX5_letterAt 23 = .ok (.istore_n 2, 1) := by decide +kernel
theorem dX5_letterAt_24 : decode cX5_letterAt 24 = .ok (.iload_n 2, 1) := by decide +kernel
theorem dX5_letterAt_25 : decode cX5_letterAt 25 = .ok (.ifCond .lt 13, 3) := by decide +kernel
theorem dX5_letterAt_28 : decode cX5_letterAt 28 = .ok (.iload_n 2, 1) := by decide +kernel
theorem dX5_letterAt_29 : decode cX5_letterAt 29 = .ok (.bipush 10, 2) := by decide +kernel
theorem dX5_letterAt_31 : decode cX5_letterAt 31 = .ok (.if_icmp .ge 7, 3) := by decide +kernel
theorem dX5_letterAt_34 : decode cX5_letterAt 34 = .ok (.iload_n 2, 1) := by decide +kernel
theorem dX5_letterAt_35 : decode cX5_letterAt 35 = .ok (.goto 4, 3) := by decide +kernel
theorem dX5_letterAt_38 : decode cX5_letterAt 38 = .ok (.iconst (-1), 1) := by decide +kernel
theorem dX5_letterAt_39 : decode cX5_letterAt 39 = .ok (.ireturn, 1) := by decide +kernel
set_option maxRecDepth 20000 in
theorem ggX5_isSlash_X4_at : GoodIn wsX5_isSlash wsX4_at := goodIn_r _ [6] (by decide +kernel) (by decide +kernel)
set_option maxRecDepth 20000 in
theorem gX5_isSlash_X4_at : GoodIn wsX5_isSlash (va_wsS RX5 19 yX4_at wsX4_at) := goodIn_app (goodIn_of _ (by decide +kernel)) ggX5_isSlash_X4_at
theorem dX5_isSlash_0 : decode cX5_isSlash 0 = .ok (.iload_n 1, 1) := by decide +kernel
theorem dX5_isSlash_1 : decode cX5_isSlash 1 = .ok (.aload_n 0, 1) := by decide +kernel
theorem dX5_isSlash_2 : decode cX5_isSlash 2 = .ok (.getfield 15, 3) := by decide +kernel
theorem dX5_isSlash_5 : decode cX5_isSlash 5 = .ok (.if_icmp .ge 20, 3) := by decide +kernel
theorem dX5_isSlash_8 : decode cX5_isSlash 8 = .ok (.aload_n 0, 1) := by decide +kernel
theorem dX5_isSlash_9 : decode cX5_isSlash 9 = .ok (.getfield 9, 3) := by decide +kernel
theorem dX5_isSlash_12 : decode cX5_isSlash 12 = .ok (.iload_n 1, 1) := by decide +kernel
theorem dX5_isSlash_13 : decode cX5_isSlash 13 = .ok (.invokestatic 19, 3) := by decide +kernel
theorem dX5_isSlash_16 : decode cX5_isSlash 16 = .ok (.bipush 47, 2) := by decide +kernel
theorem dX5_isSlash_18 : decode cX5_isSlash 18 = .ok (.if_icmp .ne 7, 3) := by decide +kernel
theorem dX5_isSlash_21 : decode cX5_isSlash 21 = .ok (.iconst 1, 1) := by decide +kernel
theorem dX5_isSlash_22 : decode cX5_isSlash 22 = .ok (.goto 4, 3) := by decide +kernel
theorem dX5_isSlash_25 : decode cX5_isSlash 25 = .ok (.iconst 0, 1) := by decide +kernel
theorem dX5_isSlash_26 : decode cX5_isSlash 26 = .ok (.ireturn, 1) := by decide +kernel
set_option maxRecDepth 20000 in
theorem ggX5_lettersFrom_X5_letterAt : GoodIn wsX5_lettersFrom wsX5_letterAt := goodIn_r _ [6, 1, 7, 8, 9, 10, 11, 12, 13] (by decide +kernel) (by decide +kernel)
set_option maxRecDepth 20000 in
theorem gX5_lettersFrom_X5_letterAt : GoodIn wsX5_lettersFrom (wsV RX5 25 RX5 yX5_letterAt wsX5_letterAt) := goodIn_app (goodIn_of _ (by decide +kernel)) ggX5_lettersFrom_X5_letterAt
theorem dX5_lettersFrom_0 : decode cX5_lettersFrom 0 = .ok (.iload_n 1, 1) := by decide +kernel
theorem dX5_lettersFrom_1 : decode cX5_lettersFrom 1 = .ok (.istore_n 2, 1) := by decide +kernel
theorem dX5_lettersFrom_2 : decode cX5_lettersFrom 2 = .ok (.iload_n 2, 1) := by decide +kernel
theorem dX5_lettersFrom_3 : decode cX5_lettersFrom 3 = .ok (.aload_n 0, 1) := by decide +kernel
theorem dX5_lettersFrom_4 : decode cX5_lettersFrom 4 = .ok (.getfield 15, 3) := by decide +kernel
theorem dX5_lettersFrom_7 : decode cX5_lettersFrom 7 = .ok (.if_icmp .ge 18, 3) := by decide +kernel
theorem dX5_lettersFrom_10 : decode cX5_lettersFrom 10 = .ok (.aload_n 0, 1) := by decide +kernel
theorem dX5_lettersFrom_11 : decode cX5_lettersFrom 11 = .ok (.iload_n 2, 1) := by decide +kernel
theorem dX5_lettersFrom_12 : decode cX5_lettersFrom 12 = .ok (.invokevirtual 25, 3) := by decide +kernel
theorem dX5_lettersFrom_15 : decode cX5_lettersFrom 15 = .ok (.iconst (-1), 1) := by decide +kernel
theorem dX5_lettersFrom_16 : decode cX5_lettersFrom 16 = .ok (.if_icmp .eq 9, 3) := by decide +kernel
theorem dX5_lettersFrom_19 : decode cX5_lettersFrom 19 = .ok (.iinc 2 1, 3) := by decide +kernel
theorem dX5_lettersFrom_22 : decode cX5_lettersFrom 22 = .ok (.goto (-20), 3) := by decide +kernel
theorem dX5_lettersFrom_25 : decode cX5_lettersFrom 25 = .ok (.iload_n 2, 1) := by decide +kernel
theorem dX5_lettersFrom_26 : decode cX5_lettersFrom 26 = .ok (.iload_n 1, 1) := by decide +kernel
theorem dX5_lettersFrom_27 : decode cX5_lettersFrom 27 = .ok (.isub, 1) := by decide +kernel
theorem dX5_lettersFrom_28 : decode cX5_lettersFrom 28 = .ok (.ireturn, 1) := by decide +kernel
set_option maxRecDepth 20000 in
theorem ggX5_firstLength_X5_lettersFrom : GoodIn wsX5_firstLength wsX5_lettersFrom := goodIn_r _ [5, 6, 7, 8, 9, 4, 10, 11, 12, 13, 14, 15, 16, 17] (by decide +kernel) (by decide +kernel)
set_option maxRecDepth 20000 in
theorem gX5_firstLength_X5_lettersFrom : GoodIn wsX5_firstLength (wsV RX5 29 RX5 yX5_lettersFrom wsX5_lettersFrom) := goodIn_app (goodIn_of _ (by decide +kernel)) ggX5_firstLength_X5_lettersFrom
theorem dX5_firstLength_0 : decode cX5_firstLength 0 = .ok (.aload_n 0, 1) := by decide +kernel
theorem dX5_firstLength_1 : decode cX5_firstLength 1 = .ok (.iconst 0, 1) := by decide +kernel
theorem dX5_firstLength_2 : decode cX5_firstLength 2 = .ok (.invokevirtual 29, 3) := by decide +kernel
theorem dX5_firstLength_5 : decode cX5_firstLength 5 = .ok (.ireturn, 1) := by decide +kernel
set_option maxRecDepth 20000 in
theorem ggX5_faultCode_X5_formFault : GoodIn wsX5_faultCode wsX5_formFault := goodIn_r _ [5, 6, 7, 8, 9, 10, 11, 12, 13, 4, 14, 15, 16, 17, 18, 19, 20, 21, 22, 23, 24, 25, 26, 27, 28, 29, 30, 31, 32, 33, 34, 49, 50] (by decide +kernel) (by decide +kernel)
set_option maxRecDepth 20000 in
theorem gX5_faultCode_X5_formFault : GoodIn wsX5_faultCode (wsV RX5 32 RX5 yX5_formFault wsX5_formFault) := goodIn_app (goodIn_of _ (by decide +kernel)) ggX5_faultCode_X5_formFault
set_option maxRecDepth 20000 in
theorem ggX5_faultCode_X5_undrawnFault : GoodIn wsX5_faultCode wsX5_undrawnFault := goodIn_r _ [38, 10, 19, 20, 21, 4, 22, 23, 24, 25, 26, 27, 39, 40, 41, 42, 43, 44, 45, 46, 47, 48, 28, 29, 30, 49, 50, 51] (by decide +kernel) (by decide +kernel)
set_option maxRecDepth 20000 in
theorem gX5_faultCode_X5_undrawnFault : GoodIn wsX5_faultCode (wsV RX5 36 RX5 yX5_undrawnFault wsX5_undrawnFault) := goodIn_app (goodIn_of _ (by decide +kernel)) ggX5_faultCode_X5_undrawnFault
theorem dX5_faultCode_0 : decode cX5_faultCode 0 = .ok (.aload_n 0, 1) := by decide +kernel
theorem dX5_faultCode_1 : decode cX5_faultCode 1 = .ok (.invokevirtual 32, 3) := by decide +kernel
theorem dX5_faultCode_4 : decode cX5_faultCode 4 = .ok (.istore_n 2, 1) := by decide +kernel
theorem dX5_faultCode_5 : decode cX5_faultCode 5 = .ok (.iload_n 2, 1) := by decide +kernel
theorem dX5_faultCode_6 : decode cX5_faultCode 6 = .ok (.iconst (-1), 1) := by decide +kernel
theorem dX5_faultCode_7 : decode cX5_faultCode 7 = .ok (.if_icmp .ne 11, 3) := by decide +kernel
theorem dX5_faultCode_10 : decode cX5_faultCode 10 = .ok (.aload_n 0, 1) := by decide +kernel
theorem dX5_faultCode_11 : decode cX5_faultCode 11 = .ok (.aload_n 1, 1) := by decide +kernel
theorem dX5_faultCode_12 : decode cX5_faultCode 12 = .ok (.invokevirtual 36, 3) := by decide +kernel
theorem dX5_faultCode_15 : decode cX5_faultCode 15 = .ok (.goto 4, 3) := by decide +kernel
theorem dX5_faultCode_18 : decode cX5_faultCode 18 = .ok (.iload_n 2, 1) := by decide +kernel
theorem dX5_faultCode_19 : decode cX5_faultCode 19 = .ok (.ireturn, 1) := by decide +kernel
set_option maxRecDepth 20000 in
theorem ggX5_formFault_X5_firstLength : GoodIn wsX5_formFault wsX5_firstLength := goodIn_r _ [10, 11, 12, 13, 9, 14, 5, 15, 16, 17, 18, 19, 20, 21, 22, 23, 31, 32] (by decide +kernel) (by decide +kernel)
set_option maxRecDepth 20000 in
theorem gX5_formFault_X5_firstLength : GoodIn wsX5_formFault (wsV RX5 40 RX5 yX5_firstLength wsX5_firstLength) := goodIn_app (goodIn_of _ (by decide +kernel)) ggX5_formFault_X5_firstLength
set_option maxRecDepth 20000 in
theorem ggX5_formFault_X5_codeOf : GoodIn wsX5_formFault wsX5_codeOf := goodIn_r _ [26] (by decide +kernel) (by decide +kernel)
set_option maxRecDepth 20000 in
theorem gX5_formFault_X5_codeOf : GoodIn wsX5_formFault (va_wsS RX5 43 yX5_codeOf wsX5_codeOf) := goodIn_app (goodIn_of _ (by decide +kernel)) ggX5_formFault_X5_codeOf
set_option maxRecDepth 20000 in
theorem ggX5_formFault_X5_isSlash : GoodIn wsX5_formFault wsX5_isSlash := goodIn_r _ [30, 5, 19, 20, 21, 22, 23, 31, 32] (by decide +kernel) (by decide +kernel)
set_option maxRecDepth 20000 in
theorem gX5_formFault_X5_isSlash : GoodIn wsX5_formFault (wsV RX5 47 RX5 yX5_isSlash wsX5_isSlash) := goodIn_app (goodIn_of _ (by decide +kernel)) ggX5_formFault_X5_isSlash
set_option maxRecDepth 20000 in
theorem ggX5_formFault_X5_lettersFrom : GoodIn wsX5_formFault wsX5_lettersFrom := goodIn_r _ [14, 5, 15, 16, 17, 9, 18, 19, 20, 21, 22, 23, 31, 32] (by decide +kernel) (by decide +kernel)
set_option maxRecDepth 20000 in
theorem gX5_formFault_X5_lettersFrom : GoodIn wsX5_formFault (wsV RX5 29 RX5 yX5_lettersFrom wsX5_lettersFrom) := goodIn_app (goodIn_of _ (by decide +kernel)) ggX5_formFault_X5_lettersFrom
theorem dX5_formFault_0 : decode cX5_formFault 0 = .ok (.aload_n 0, 1) := by decide +kernel
theorem dX5_formFault_1 : decode cX5_formFault 1 = .ok (.invokevirtual 40, 3) := by decide +kernel
theorem dX5_formFault_4 : decode cX5_formFault 4 = .ok (.istore_n 1, 1) := by decide +kernel
theorem dX5_formFault_5 : decode cX5_formFault 5 = .ok (.iload_n 1, 1) := by decide +kernel
theorem dX5_formFault_6 : decode cX5_formFault 6 = .ok (.bipush 8, 2) := by decide +kernel
theorem dX5_formFault_8 : decode cX5_formFault 8 = .ok (.if_icmp .le 10, 3) := by decide +kernel
theorem dX5_formFault_11 : decode cX5_formFault 11 = .ok (.bipush 8, 2) := by decide +kernel
theorem dX5_formFault_13 : decode cX5_formFault 13 = .ok (.iconst 2, 1) := by decide +kernel
theorem dX5_formFault_14 : decode cX5_formFault 14 = .ok (.invokestatic 43, 3) := by decide +kernel
theorem dX5_formFault_17 : decode cX5_formFault 17 = .ok (.ireturn, 1) := by decide +kernel
theorem dX5_formFault_18 : decode cX5_formFault 18 = .ok (.iload_n 1, 1) := by decide +kernel
theorem dX5_formFault_19 : decode cX5_formFault 19 = .ok (.ifCond .eq 11, 3) := by decide +kernel
theorem dX5_formFault_22 : decode cX5_formFault 22 = .ok (.aload_n 0, 1) := by decide +kernel
theorem dX5_formFault_23 : decode cX5_formFault 23 = .ok (.iload_n 1, 1) := by decide +kernel
theorem dX5_formFault_24 : decode cX5_formFault 24 = .ok (.invokevirtual 47, 3) := by decide +kernel
theorem dX5_formFault_27 : decode cX5_formFault 27 = .ok (.ifCond .ne 9, 3) := by decide +kernel
theorem dX5_formFault_30 : decode cX5_formFault 30 = .ok (.iload_n 1, 1) := by decide +kernel
theorem dX5_formFault_31 : decode cX5_formFault 31 = .ok (.iconst 1, 1) := by decide +kernel
theorem dX5_formFault_32 : decode cX5_formFault 32 = .ok (.invokestatic 43, 3) := by decide +kernel
theorem dX5_formFault_35 : decode cX5_formFault 35 = .ok (.ireturn, 1) := by decide +kernel
theorem dX5_formFault_36 : decode cX5_formFault 36 = .ok (.aload_n 0, 1) := by decide +kernel
theorem dX5_formFault_37 : decode cX5_formFault 37 = .ok (.iload_n 1, 1) := by decide +kernel
theorem dX5_formFault_38 : decode cX5_formFault 38 = .ok (.iconst 1, 1) := by decide +kernel
theorem dX5_formFault_39 : decode cX5_formFault 39 = .ok (.iadd, 1) := by decide +kernel
theorem dX5_formFault_40 : decode cX5_formFault 40 = .ok (.invokevirtual 29, 3) := by decide +kernel
theorem dX5_formFault_43 : decode cX5_formFault 43 = .ok (.istore_n 2, 1) := by decide +kernel
theorem dX5_formFault_44 : decode cX5_formFault 44 = .ok (.iload_n 1, 1) := by decide +kernel
theorem dX5_formFault_45 : decode cX5_formFault 45 = .ok (.iconst 1, 1) := by decide +kernel
theorem dX5_formFault_46 : decode cX5_formFault 46 = .ok (.iadd, 1) := by decide +kernel
theorem dX5_formFault_47 : decode cX5_formFault 47 = .ok (.iload_n 1, 1) := by decide +kernel
theorem dX5_formFault_48 : decode cX5_formFault 48 = .ok (.iload_n 2, 1) := by decide +kernel
theorem dX5_formFault_49 : decode cX5_formFault 49 = .ok (.invokestatic 51, 3) := by decide +kernel
theorem dX5_formFault_52 : decode cX5_formFault 52 = .ok (.iadd, 1) := by decide +kernel
theorem dX5_formFault_53 : decode cX5_formFault 53 = .ok (.istore_n 3, 1) := by decide +kernel
theorem dX5_formFault_54 : decode cX5_formFault 54 = .ok (.iload_n 2, 1) := by decide +kernel
theorem dX5_formFault_55 : decode cX5_formFault 55 = .ok (.iload_n 1, 1) := by decide +kernel
theorem dX5_formFault_56 : decode cX5_formFault 56 = .ok (.if_icmp .ne 15, 3) := by decide +kernel
theorem dX5_formFault_59 : decode cX5_formFault 59 = .ok (.iload_n 3, 1) := by decide +kernel
theorem dX5_formFault_60 : decode cX5_formFault 60 = .ok (.aload_n 0, 1) := by decide +kernel
theorem dX5_formFault_61 : decode cX5_formFault 61 = .ok (.getfield 15, 3) := by decide +kernel
theorem dX5_formFault_64 : decode cX5_formFault 64 = .ok (.if_icmp .ne 7, 3) := by decide +kernel
theorem dX5_formFault_67 : decode cX5_formFault 67 = .ok (.iconst (-1), 1) := by decide +kernel
theorem dX5_formFault_68 : decode cX5_formFault 68 = .ok (.goto 8, 3) := by decide +kernel
theorem dX5_formFault_71 : decode cX5_formFault 71 = .ok (.iload_n 3, 1) := by decide +kernel
theorem dX5_formFault_72 : decode cX5_formFault 72 = .ok (.iconst 1, 1) := by decide +kernel
theorem dX5_formFault_73 : decode cX5_formFault 73 = .ok (.invokestatic 43, 3) := by decide +kernel
theorem dX5_formFault_76 : decode cX5_formFault 76 = .ok (.ireturn, 1) := by decide +kernel
set_option maxRecDepth 20000 in
theorem ggX5_undrawnFault_X5_letterAt : GoodIn wsX5_undrawnFault wsX5_letterAt := goodIn_r _ [6, 1, 7, 8, 9, 10, 11, 25, 26] (by decide +kernel) (by decide +kernel)
set_option maxRecDepth 20000 in
theorem gX5_undrawnFault_X5_letterAt : GoodIn wsX5_undrawnFault (wsV RX5 25 RX5 yX5_letterAt wsX5_letterAt) := goodIn_app (goodIn_of _ (by decide +kernel)) ggX5_undrawnFault_X5_letterAt
set_option maxRecDepth 20000 in
theorem ggX5_undrawnFault_X3_has : GoodIn wsX5_undrawnFault wsX3_has := goodIn_r _ [16, 17, 18, 19, 15, 20, 21, 27] (by decide +kernel) (by decide +kernel)
set_option maxRecDepth 20000 in
theorem gX5_undrawnFault_X3_has : GoodIn wsX5_undrawnFault (wsV RX5 56 RX3 yX3_has wsX3_has) := goodIn_app (goodIn_of _ (by decide +kernel)) ggX5_undrawnFault_X3_has
set_option maxRecDepth 20000 in
theorem ggX5_undrawnFault_X5_codeOf : GoodIn wsX5_undrawnFault wsX5_codeOf := goodIn_r _ [24] (by decide +kernel) (by decide +kernel)
set_option maxRecDepth 20000 in
theorem gX5_undrawnFault_X5_codeOf : GoodIn wsX5_undrawnFault (va_wsS RX5 43 yX5_codeOf wsX5_codeOf) := goodIn_app (goodIn_of _ (by decide +kernel)) ggX5_undrawnFault_X5_codeOf
theorem dX5_undrawnFault_0 : decode cX5_undrawnFault 0 = .ok (.iconst 0, 1) := by decide +kernel
theorem dX5_undrawnFault_1 : decode cX5_undrawnFault 1 = .ok (.istore_n 2, 1) := by decide +kernel
theorem dX5_undrawnFault_2 : decode cX5_undrawnFault 2 = .ok (.iload_n 2, 1) := by decide +kernel
theorem dX5_undrawnFault_3 : decode cX5_undrawnFault 3 = .ok (.aload_n 0, 1) := by decide +kernel
theorem dX5_undrawnFault_4 : decode cX5_undrawnFault 4 = .ok (.getfield 15, 3) := by decide +kernel
theorem dX5_undrawnFault_7 : decode cX5_undrawnFault 7 = .ok (.if_icmp .ge 38, 3) := by decide +kernel
theorem dX5_undrawnFault_10 : decode cX5_undrawnFault 10 = .ok (.aload_n 0, 1) := by decide +kernel
theorem dX5_undrawnFault_11 : decode cX5_undrawnFault 11 = .ok (.iload_n 2, 1) := by decide +kernel
theorem dX5_undrawnFault_12 : decode cX5_undrawnFault 12 = .ok (.invokevirtual 25, 3) := by decide +kernel
theorem dX5_undrawnFault_15 : decode cX5_undrawnFault 15 = .ok (.istore_n 3, 1) := by decide +kernel
theorem dX5_undrawnFault_16 : decode cX5_undrawnFault 16 = .ok (.iload_n 3, 1) := by decide +kernel
theorem dX5_undrawnFault_17 : decode cX5_undrawnFault 17 = .ok (.iconst (-1), 1) := by decide +kernel
theorem dX5_undrawnFault_18 : decode cX5_undrawnFault 18 = .ok (.if_icmp .eq 21, 3) := by decide +kernel
theorem dX5_undrawnFault_21 : decode cX5_undrawnFault 21 = .ok (.aload_n 1, 1) := by decide +kernel
theorem dX5_undrawnFault_22 : decode cX5_undrawnFault 22 = .ok (.ifnull 17, 3) := by decide +kernel
theorem dX5_undrawnFault_25 : decode cX5_undrawnFault 25 = .ok (.aload_n 1, 1) := by decide +kernel
theorem dX5_undrawnFault_26 : decode cX5_undrawnFault 26 = .ok (.iload_n 3, 1) := by decide +kernel
theorem dX5_undrawnFault_27 : decode cX5_undrawnFault 27 = .ok (.invokevirtual 56, 3) := by decide +kernel
theorem dX5_undrawnFault_30 : decode cX5_undrawnFault 30 = .ok (.ifCond .ne 9, 3) := by decide +kernel
theorem dX5_undrawnFault_33 : decode cX5_undrawnFault 33 = .ok (.iload_n 2, 1) := by decide +kernel
theorem dX5_undrawnFault_34 : decode cX5_undrawnFault 34 = .ok (.iconst 3, 1) := by decide +kernel
theorem dX5_undrawnFault_35 : decode cX5_undrawnFault 35 = .ok (.invokestatic 43, 3) := by decide +kernel
theorem dX5_undrawnFault_38 : decode cX5_undrawnFault 38 = .ok (.ireturn, 1) := by decide +kernel
theorem dX5_undrawnFault_39 : decode cX5_undrawnFault 39 = .ok (.iinc 2 1, 3) := by decide +kernel
theorem dX5_undrawnFault_42 : decode cX5_undrawnFault 42 = .ok (.goto (-40), 3) := by decide +kernel
theorem dX5_undrawnFault_45 : decode cX5_undrawnFault 45 = .ok (.iconst (-1), 1) := by decide +kernel
theorem dX5_undrawnFault_46 : decode cX5_undrawnFault 46 = .ok (.ireturn, 1) := by decide +kernel
theorem dX6_turn_0 : decode cX6_turn 0 = .ok (.iload_n 0, 1) := by decide +kernel
theorem dX6_turn_1 : decode cX6_turn 1 = .ok (.sipush 21845, 3) := by decide +kernel
theorem dX6_turn_4 : decode cX6_turn 4 = .ok (.iand, 1) := by decide +kernel
theorem dX6_turn_5 : decode cX6_turn 5 = .ok (.iconst 1, 1) := by decide +kernel
theorem dX6_turn_6 : decode cX6_turn 6 = .ok (.ishl, 1) := by decide +kernel
theorem dX6_turn_7 : decode cX6_turn 7 = .ok (.iload_n 0, 1) := by decide +kernel
theorem dX6_turn_8 : decode cX6_turn 8 = .ok (.iconst 1, 1) := by decide +kernel
theorem dX6_turn_9 : decode cX6_turn 9 = .ok (.iushr, 1) := by decide +kernel
theorem dX6_turn_10 : decode cX6_turn 10 = .ok (.sipush 21845, 3) := by decide +kernel
theorem dX6_turn_13 : decode cX6_turn 13 = .ok (.iand, 1) := by decide +kernel
theorem dX6_turn_14 : decode cX6_turn 14 = .ok (.ior, 1) := by decide +kernel
theorem dX6_turn_15 : decode cX6_turn 15 = .ok (.istore_n 1, 1) := by decide +kernel
theorem dX6_turn_16 : decode cX6_turn 16 = .ok (.iload_n 1, 1) := by decide +kernel
theorem dX6_turn_17 : decode cX6_turn 17 = .ok (.sipush 13107, 3) := by decide +kernel
theorem dX6_turn_20 : decode cX6_turn 20 = .ok (.iand, 1) := by decide +kernel
theorem dX6_turn_21 : decode cX6_turn 21 = .ok (.iconst 2, 1) := by decide +kernel
theorem dX6_turn_22 : decode cX6_turn 22 = .ok (.ishl, 1) := by decide +kernel
theorem dX6_turn_23 : decode cX6_turn 23 = .ok (.iload_n 1, 1) := by decide +kernel
theorem dX6_turn_24 : decode cX6_turn 24 = .ok (.iconst 2, 1) := by decide +kernel
theorem dX6_turn_25 : decode cX6_turn 25 = .ok (.iushr, 1) := by decide +kernel
theorem dX6_turn_26 : decode cX6_turn 26 = .ok (.sipush 13107, 3) := by decide +kernel
theorem dX6_turn_29 : decode cX6_turn 29 = .ok (.iand, 1) := by decide +kernel
theorem dX6_turn_30 : decode cX6_turn 30 = .ok (.ior, 1) := by decide +kernel
theorem dX6_turn_31 : decode cX6_turn 31 = .ok (.istore_n 1, 1) := by decide +kernel
theorem dX6_turn_32 : decode cX6_turn 32 = .ok (.iload_n 1, 1) := by decide +kernel
theorem dX6_turn_33 : decode cX6_turn 33 = .ok (.sipush 3855, 3) := by decide +kernel
theorem dX6_turn_36 : decode cX6_turn 36 = .ok (.iand, 1) := by decide +kernel
theorem dX6_turn_37 : decode cX6_turn 37 = .ok (.iconst 4, 1) := by decide +kernel
theorem dX6_turn_38 : decode cX6_turn 38 = .ok (.ishl, 1) := by decide +kernel
theorem dX6_turn_39 : decode cX6_turn 39 = .ok (.iload_n 1, 1) := by decide +kernel
theorem dX6_turn_40 : decode cX6_turn 40 = .ok (.iconst 4, 1) := by decide +kernel
theorem dX6_turn_41 : decode cX6_turn 41 = .ok (.iushr, 1) := by decide +kernel
theorem dX6_turn_42 : decode cX6_turn 42 = .ok (.sipush 3855, 3) := by decide +kernel
theorem dX6_turn_45 : decode cX6_turn 45 = .ok (.iand, 1) := by decide +kernel
theorem dX6_turn_46 : decode cX6_turn 46 = .ok (.ior, 1) := by decide +kernel
theorem dX6_turn_47 : decode cX6_turn 47 = .ok (.istore_n 1, 1) := by decide +kernel
theorem dX6_turn_48 : decode cX6_turn 48 = .ok (.iload_n 1, 1) := by decide +kernel
theorem dX6_turn_49 : decode cX6_turn 49 = .ok (.sipush 255, 3) := by decide +kernel
theorem dX6_turn_52 : decode cX6_turn 52 = .ok (.iand, 1) := by decide +kernel
theorem dX6_turn_53 : decode cX6_turn 53 = .ok (.bipush 8, 2) := by decide +kernel
theorem dX6_turn_55 : decode cX6_turn 55 = .ok (.ishl, 1) := by decide +kernel
theorem dX6_turn_56 : decode cX6_turn 56 = .ok (.iload_n 1, 1) := by decide +kernel
theorem dX6_turn_57 : decode cX6_turn 57 = .ok (.bipush 8, 2) := by decide +kernel
theorem dX6_turn_59 : decode cX6_turn 59 = .ok (.iushr, 1) := by decide +kernel
theorem dX6_turn_60 : decode cX6_turn 60 = .ok (.sipush 255, 3) := by decide +kernel
theorem dX6_turn_63 : decode cX6_turn 63 = .ok (.iand, 1) := by decide +kernel
theorem dX6_turn_64 : decode cX6_turn 64 = .ok (.ior, 1) := by decide +kernel
theorem dX6_turn_65 : decode cX6_turn 65 = .ok (.istore_n 1, 1) := by decide +kernel
theorem dX6_turn_66 : decode cX6_turn 66 = .ok (.iload_n 1, 1) := by decide +kernel
theorem dX6_turn_67 : decode cX6_turn 67 = .ok (.iconst 1, 1) := by decide +kernel
theorem dX6_turn_68 : decode cX6_turn 68 = .ok (.iushr, 1) := by decide +kernel
theorem dX6_turn_69 : decode cX6_turn 69 = .ok (.ireturn, 1) := by decide +kernel
set_option maxRecDepth 20000 in
theorem ggX6_seen_X6_turn : GoodIn wsX6_seen wsX6_turn := goodIn_r _ [4] (by decide +kernel) (by decide +kernel)
set_option maxRecDepth 20000 in
theorem gX6_seen_X6_turn : GoodIn wsX6_seen (va_wsS RX6 9 yX6_turn wsX6_turn) := goodIn_app (goodIn_of _ (by decide +kernel)) ggX6_seen_X6_turn
theorem dX6_seen_0 : decode cX6_seen 0 = .ok (.iload_n 1, 1) := by decide +kernel
theorem dX6_seen_1 : decode cX6_seen 1 = .ok (.ifCond .ne 7, 3) := by decide +kernel
theorem dX6_seen_4 : decode cX6_seen 4 = .ok (.iload_n 0, 1) := by decide +kernel
theorem dX6_seen_5 : decode cX6_seen 5 = .ok (.goto 7, 3) := by decide +kernel
theorem dX6_seen_8 : decode cX6_seen 8 = .ok (.iload_n 0, 1) := by decide +kernel
theorem dX6_seen_9 : decode cX6_seen 9 = .ok (.invokestatic 9, 3) := by decide +kernel
theorem dX6_seen_12 : decode cX6_seen 12 = .ok (.ireturn, 1) := by decide +kernel
set_option maxRecDepth 20000 in
theorem ggX6_darkInUpperRows_J6_bitCount_0f7a4 : GoodIn wsX6_darkInUpperRows wsJ6_bitCount_0f7a4 := goodIn_r _ [4, 5, 6, 7] (by decide +kernel) (by decide +kernel)
set_option maxRecDepth 20000 in
theorem gX6_darkInUpperRows_J6_bitCount_0f7a4 : GoodIn wsX6_darkInUpperRows (va_wsS RX6 15 yJ6_bitCount_0f7a4 wsJ6_bitCount_0f7a4) := goodIn_app (goodIn_of _ (by decide +kernel)) ggX6_darkInUpperRows_J6_bitCount_0f7a4
theorem dX6_darkInUpperRows_0 : decode cX6_darkInUpperRows 0 = .ok (.iload_n 1, 1) := by decide +kernel
theorem dX6_darkInUpperRows_1 : decode cX6_darkInUpperRows 1 = .ok (.ifCond .ne 7, 3) := by decide +kernel
theorem dX6_darkInUpperRows_4 : decode cX6_darkInUpperRows 4 = .ok (.iload_n 0, 1) := by decide +kernel
theorem dX6_darkInUpperRows_5 : decode cX6_darkInUpperRows 5 = .ok (.goto 7, 3) := by decide +kernel
theorem dX6_darkInUpperRows_8 : decode cX6_darkInUpperRows 8 = .ok (.iload_n 0, 1) := by decide +kernel
theorem dX6_darkInUpperRows_9 : decode cX6_darkInUpperRows 9 = .ok (.bipush 6, 2) := by decide +kernel
theorem dX6_darkInUpperRows_11 : decode cX6_darkInUpperRows 11 = .ok (.iushr, 1) := by decide +kernel
theorem dX6_darkInUpperRows_12 : decode cX6_darkInUpperRows 12 = .ok (.sipush 511, 3) := by decide +kernel
theorem dX6_darkInUpperRows_15 : decode cX6_darkInUpperRows 15 = .ok (.iand, 1) := by decide +kernel
theorem dX6_darkInUpperRows_16 : decode cX6_darkInUpperRows 16 = .ok (.invokestatic 15, 3) := by decide +kernel
theorem dX6_darkInUpperRows_19 : decode cX6_darkInUpperRows 19 = .ok (.ireturn, 1) := by decide +kernel
set_option maxRecDepth 20000 in
theorem ggX7_init_X0_init : GoodIn wsX7_init wsX0_init := goodIn_r _ [24, 25, 2, 3, 26, 27, 28, 29, 30, 31, 32, 33, 34, 35, 36, 37, 38, 39, 40, 41, 42, 43, 44, 45, 46, 47, 48, 49, 50, 51, 52, 97, 69, 70, 71, 72, 73, 74, 75, 76, 77, 78, 79] (by decide +kernel) (by decide +kernel)
set_option maxRecDepth 20000 in
theorem gX7_init_X0_init : GoodIn wsX7_init (wsX0_init) := ggX7_init_X0_init
set_option maxRecDepth 20000 in
theorem ggX7_init_X2_init : GoodIn wsX7_init wsX2_init := goodIn_r _ [55, 56, 2, 3, 57, 58, 59, 5, 6, 60, 23, 24, 25, 26, 27, 28, 29, 30, 31, 32, 33, 34, 35, 36, 37, 38, 39, 40, 41, 42, 43, 44, 45, 46, 47, 48, 49, 50, 51, 52, 86, 87, 69, 70, 71, 72, 73, 74, 75, 76, 77, 78, 79, 97] (by decide +kernel) (by decide +kernel)
set_option maxRecDepth 20000 in
theorem gX7_init_X2_init : GoodIn wsX7_init (wsX2_init) := ggX7_init_X2_init
set_option maxRecDepth 20000 in
theorem ggX7_init_X5_init : GoodIn wsX7_init wsX5_init := goodIn_r _ [62, 63, 2, 3, 30, 64, 65, 88, 89] (by decide +kernel) (by decide +kernel)
set_option maxRecDepth 20000 in
theorem gX7_init_X5_init_n28 : GoodIn wsX7_init (wsX5_init) := ggX7_init_X5_init
set_option maxRecDepth 20000 in
theorem ggX7_init_X1_init : GoodIn wsX7_init wsX1_init := goodIn_r _ [67, 68, 2, 3] (by decide +kernel) (by decide +kernel)
set_option maxRecDepth 20000 in
theorem gX7_init_X1_init_n35 : GoodIn wsX7_init (wsX1_init) := ggX7_init_X1_init
theorem dX7_init_0 : decode cX7_init 0 = .ok (.aload_n 0, 1) := by decide +kernel
theorem dX7_init_1 : decode cX7_init 1 = .ok (.invokespecial 1, 3) := by decide +kernel
theorem dX7_init_4 : decode cX7_init 4 = .ok (.aload_n 0, 1) := by decide +kernel
theorem dX7_init_5 : decode cX7_init 5 = .ok (.new 7, 3) := by decide +kernel
theorem dX7_init_8 : decode cX7_init 8 = .ok (.dup, 1) := by decide +kernel
theorem dX7_init_9 : decode cX7_init 9 = .ok (.invokespecial 9, 3) := by decide +kernel
theorem dX7_init_12 : decode cX7_init 12 = .ok (.putfield 10, 3) := by decide +kernel
theorem dX7_init_15 : decode cX7_init 15 = .ok (.aload_n 0, 1) := by decide +kernel
theorem dX7_init_16 : decode cX7_init 16 = .ok (.new 7, 3) := by decide +kernel
theorem dX7_init_19 : decode cX7_init 19 = .ok (.dup, 1) := by decide +kernel
theorem dX7_init_20 : decode cX7_init 20 = .ok (.invokespecial 9, 3) := by decide +kernel
theorem dX7_init_23 : decode cX7_init 23 = .ok (.putfield 16, 3) := by decide +kernel
theorem dX7_init_26 : decode cX7_init 26 = .ok (.aload_n 0, 1) := by decide +kernel
theorem dX7_init_27 : decode cX7_init 27 = .ok (.new 19, 3) := by decide +kernel
theorem dX7_init_30 : decode cX7_init 30 = .ok (.dup, 1) := by decide +kernel
theorem dX7_init_31 : decode cX7_init 31 = .ok (.invokespecial 21, 3) := by decide +kernel
theorem dX7_init_34 : decode cX7_init 34 = .ok (.putfield 22, 3) := by decide +kernel
theorem dX7_init_37 : decode cX7_init 37 = .ok (.aload_n 0, 1) := by decide +kernel
theorem dX7_init_38 : decode cX7_init 38 = .ok (.new 26, 3) := by decide +kernel
theorem dX7_init_41 : decode cX7_init 41 = .ok (.dup, 1) := by decide +kernel
theorem dX7_init_42 : decode cX7_init 42 = .ok (.invokespecial 28, 3) := by decide +kernel
theorem dX7_init_45 : decode cX7_init 45 = .ok (.putfield 29, 3) := by decide +kernel
theorem dX7_init_48 : decode cX7_init 48 = .ok (.aload_n 0, 1) := by decide +kernel
theorem dX7_init_49 : decode cX7_init 49 = .ok (.new 33, 3) := by decide +kernel
theorem dX7_init_52 : decode cX7_init 52 = .ok (.dup, 1) := by decide +kernel
theorem dX7_init_53 : decode cX7_init 53 = .ok (.invokespecial 35, 3) := by decide +kernel
theorem dX7_init_56 : decode cX7_init 56 = .ok (.putfield 36, 3) := by decide +kernel
theorem dX7_init_59 : decode cX7_init 59 = .ok (.aload_n 0, 1) := by decide +kernel
theorem dX7_init_60 : decode cX7_init 60 = .ok (.iconst 0, 1) := by decide +kernel
theorem dX7_init_61 : decode cX7_init 61 = .ok (.putfield 40, 3) := by decide +kernel
theorem dX7_init_64 : decode cX7_init 64 = .ok (.return_, 1) := by decide +kernel
set_option maxRecDepth 20000 in
theorem ggX7_letter_X7_isLetter : GoodIn wsX7_letter wsX7_isLetter := goodIn_r _ [6] (by decide +kernel) (by decide +kernel)
set_option maxRecDepth 20000 in
theorem gX7_letter_X7_isLetter : GoodIn wsX7_letter (va_wsS RX7 44 yX7_isLetter wsX7_isLetter) := goodIn_app (goodIn_of _ (by decide +kernel)) ggX7_letter_X7_isLetter
set_option maxRecDepth 20000 in
theorem ggX7_letter_X7_isSign : GoodIn wsX7_letter wsX7_isSign := goodIn_r _ [9, 10] (by decide +kernel) (by decide +kernel)
set_option maxRecDepth 20000 in
theorem gX7_letter_X7_isSign : GoodIn wsX7_letter (va_wsS RX7 48 yX7_isSign wsX7_isSign) := goodIn_app (goodIn_of _ (by decide +kernel)) ggX7_letter_X7_isSign
set_option maxRecDepth 20000 in
theorem ggX7_letter_X3_drawnAs : GoodIn wsX7_letter wsX3_drawnAs := goodIn_r _ [15, 16, 81] (by decide +kernel) (by decide +kernel)
set_option maxRecDepth 20000 in
theorem gX7_letter_X3_drawnAs : GoodIn wsX7_letter (wsV RX7 55 RX3 yX3_drawnAs wsX3_drawnAs) := goodIn_app (goodIn_of _ (by decide +kernel)) ggX7_letter_X3_drawnAs
set_option maxRecDepth 20000 in
theorem ggX7_letter_X2_push : GoodIn wsX7_letter wsX2_push := goodIn_r _ [21, 22, 23, 24, 25, 26, 20, 27, 28, 29, 30, 31, 32, 33, 34, 35, 36, 37, 38, 39, 40, 41, 42, 43, 44, 45, 46, 14, 47, 16, 48, 49, 50, 51, 52, 82, 83, 70, 71, 72, 73, 74, 75, 76, 77, 78, 79, 80, 81] (by decide +kernel) (by decide +kernel)
set_option maxRecDepth 20000 in
theorem gX7_letter_X2_push : GoodIn wsX7_letter (wsV RX7 61 RX2 yX2_push wsX2_push) := goodIn_app (goodIn_of _ (by decide +kernel)) ggX7_letter_X2_push
set_option maxRecDepth 20000 in
theorem ggX7_letter_X3_signFor : GoodIn wsX7_letter wsX3_signFor := goodIn_r _ [56, 16, 81] (by decide +kernel) (by decide +kernel)
set_option maxRecDepth 20000 in
theorem gX7_letter_X3_signFor : GoodIn wsX7_letter (wsV RX7 65 RX3 yX3_signFor wsX3_signFor) := goodIn_app (goodIn_of _ (by decide +kernel)) ggX7_letter_X3_signFor
end
section
set_option maxRecDepth 20000 in
theorem ggX7_letter_X3_draw : GoodIn wsX7_letter wsX3_draw := goodIn_r _ [60, 16, 61, 62, 50, 63, 81] (by decide +kernel) (by decide +kernel)
set_option maxRecDepth 20000 in
theorem gX7_letter_X3_draw : GoodIn wsX7_letter (wsV RX7 68 RX3 yX3_draw wsX3_draw) := goodIn_app (goodIn_of _ (by decide +kernel)) ggX7_letter_X3_draw
theorem dX7_letter_0 : decode cX7_letter 0 = .ok (.iload_n 1, 1) := by decide +kernel
theorem dX7_letter_1 : decode cX7_letter 1 = .ok (.invokestatic 44, 3) := by decide +kernel
theorem dX7_letter_4 : decode cX7_letter 4 = .ok (.ifCond .eq 10, 3) := by decide +kernel
theorem dX7_letter_7 : decode cX7_letter 7 = .ok (.iload_n 2, 1) := by decide +kernel
theorem dX7_letter_8 : decode cX7_letter 8 = .ok (.invokestatic 48, 3) := by decide +kernel
theorem dX7_letter_11 : decode cX7_letter 11 = .ok (.ifCond .ne 7, 3) := by decide +kernel
theorem dX7_letter_14 : decode cX7_letter 14 = .ok (.sipush (-1001), 3) := by decide +kernel
theorem dX7_letter_17 : decode cX7_letter 17 = .ok (.ireturn, 1) := by decide +kernel
theorem dX7_letter_18 : decode cX7_letter 18 = .ok (.aload_n 0, 1) := by decide +kernel
theorem dX7_letter_19 : decode cX7_letter 19 = .ok (.getfield 10, 3) := by decide +kernel
theorem dX7_letter_22 : decode cX7_letter 22 = .ok (.getfield 51, 3) := by decide +kernel
theorem dX7_letter_25 : decode cX7_letter 25 = .ok (.iload_n 2, 1) := by decide +kernel
theorem dX7_letter_26 : decode cX7_letter 26 = .ok (.invokevirtual 55, 3) := by decide +kernel
theorem dX7_letter_29 : decode cX7_letter 29 = .ok (.istore_n 3, 1) := by decide +kernel
theorem dX7_letter_30 : decode cX7_letter 30 = .ok (.iload_n 3, 1) := by decide +kernel
theorem dX7_letter_31 : decode cX7_letter 31 = .ok (.iconst (-1), 1) := by decide +kernel
theorem dX7_letter_32 : decode cX7_letter 32 = .ok (.if_icmp .eq 12, 3) := by decide +kernel
theorem dX7_letter_35 : decode cX7_letter 35 = .ok (.iload_n 3, 1) := by decide +kernel
theorem dX7_letter_36 : decode cX7_letter 36 = .ok (.iload_n 1, 1) := by decide +kernel
theorem dX7_letter_37 : decode cX7_letter 37 = .ok (.if_icmp .eq 7, 3) := by decide +kernel
theorem dX7_letter_40 : decode cX7_letter 40 = .ok (.sipush (-1002), 3) := by decide +kernel
theorem dX7_letter_43 : decode cX7_letter 43 = .ok (.ireturn, 1) := by decide +kernel
theorem dX7_letter_44 : decode cX7_letter 44 = .ok (.aload_n 0, 1) := by decide +kernel
theorem dX7_letter_45 : decode cX7_letter 45 = .ok (.getfield 22, 3) := by decide +kernel
theorem dX7_letter_48 : decode cX7_letter 48 = .ok (.aload_n 0, 1) := by decide +kernel
theorem dX7_letter_49 : decode cX7_letter 49 = .ok (.getfield 10, 3) := by decide +kernel
theorem dX7_letter_52 : decode cX7_letter 52 = .ok (.invokevirtual 61, 3) := by decide +kernel
theorem dX7_letter_55 : decode cX7_letter 55 = .ok (.aload_n 0, 1) := by decide +kernel
theorem dX7_letter_56 : decode cX7_letter 56 = .ok (.getfield 10, 3) := by decide +kernel
theorem dX7_letter_59 : decode cX7_letter 59 = .ok (.getfield 51, 3) := by decide +kernel
theorem dX7_letter_62 : decode cX7_letter 62 = .ok (.iload_n 1, 1) := by decide +kernel
theorem dX7_letter_63 : decode cX7_letter 63 = .ok (.invokevirtual 65, 3) := by decide +kernel
theorem dX7_letter_66 : decode cX7_letter 66 = .ok (.istore 4, 2) := by decide +kernel
theorem dX7_letter_68 : decode cX7_letter 68 = .ok (.aload_n 0, 1) := by decide +kernel
theorem dX7_letter_69 : decode cX7_letter 69 = .ok (.getfield 10, 3) := by decide +kernel
theorem dX7_letter_72 : decode cX7_letter 72 = .ok (.getfield 51, 3) := by decide +kernel
theorem dX7_letter_75 : decode cX7_letter 75 = .ok (.iload_n 1, 1) := by decide +kernel
theorem dX7_letter_76 : decode cX7_letter 76 = .ok (.iload_n 2, 1) := by decide +kernel
theorem dX7_letter_77 : decode cX7_letter 77 = .ok (.invokevirtual 68, 3) := by decide +kernel
theorem dX7_letter_80 : decode cX7_letter 80 = .ok (.iload 4, 2) := by decide +kernel
theorem dX7_letter_82 : decode cX7_letter 82 = .ok (.ireturn, 1) := by decide +kernel
set_option maxRecDepth 20000 in
theorem ggX7_sign_X0_hasPlace : GoodIn wsX7_sign wsX0_hasPlace := goodIn_r _ [7, 8, 78, 79, 80, 81, 82, 83, 84, 85, 86, 87, 88] (by decide +kernel) (by decide +kernel)
set_option maxRecDepth 20000 in
theorem gX7_sign_X0_hasPlace : GoodIn wsX7_sign (wsV RX7 72 RX0 yX0_hasPlace wsX0_hasPlace) := goodIn_app (goodIn_of _ (by decide +kernel)) ggX7_sign_X0_hasPlace
set_option maxRecDepth 20000 in
theorem ggX7_sign_X7_isSign : GoodIn wsX7_sign wsX7_isSign := goodIn_r _ [12, 13] (by decide +kernel) (by decide +kernel)
set_option maxRecDepth 20000 in
theorem gX7_sign_X7_isSign : GoodIn wsX7_sign (va_wsS RX7 48 yX7_isSign wsX7_isSign) := goodIn_app (goodIn_of _ (by decide +kernel)) ggX7_sign_X7_isSign
set_option maxRecDepth 20000 in
theorem ggX7_sign_X2_push : GoodIn wsX7_sign wsX2_push := goodIn_r _ [18, 19, 20, 21, 22, 23, 17, 24, 25, 26, 27, 6, 28, 29, 30, 31, 32, 33, 34, 8, 35, 36, 37, 38, 39, 40, 41, 42, 43, 44, 45, 46, 47, 48, 49, 89, 90, 78, 79, 80, 81, 82, 83, 84, 85, 86, 87, 88, 91] (by decide +kernel) (by decide +kernel)
set_option maxRecDepth 20000 in
theorem gX7_sign_X2_push : GoodIn wsX7_sign (wsV RX7 61 RX2 yX2_push wsX2_push) := goodIn_app (goodIn_of _ (by decide +kernel)) ggX7_sign_X2_push
set_option maxRecDepth 20000 in
theorem ggX7_sign_X0_signAt : GoodIn wsX7_sign wsX0_signAt := goodIn_r _ [53, 30, 54, 55, 47, 56, 78, 79, 80, 81, 82, 83, 84, 85, 86, 87, 88] (by decide +kernel) (by decide +kernel)
set_option maxRecDepth 20000 in
theorem gX7_sign_X0_signAt : GoodIn wsX7_sign (wsV RX7 75 RX0 yX0_signAt wsX0_signAt) := goodIn_app (goodIn_of _ (by decide +kernel)) ggX7_sign_X0_signAt
set_option maxRecDepth 20000 in
theorem ggX7_sign_X0_hang : GoodIn wsX7_sign wsX0_hang := goodIn_r _ [60, 30, 61, 62, 47, 63, 64, 65, 66, 6, 67, 34, 54, 55, 56, 68, 69, 70, 71, 31, 78, 79, 80, 81, 82, 83, 84, 85, 86, 87, 88] (by decide +kernel) (by decide +kernel)
set_option maxRecDepth 20000 in
theorem gX7_sign_X0_hang : GoodIn wsX7_sign (wsV RX7 78 RX0 yX0_hang wsX0_hang) := goodIn_app (goodIn_of _ (by decide +kernel)) ggX7_sign_X0_hang
theorem dX7_sign_0 : decode cX7_sign 0 = .ok (.aload_n 0, 1) := by decide +kernel
theorem dX7_sign_1 : decode cX7_sign 1 = .ok (.getfield 10, 3) := by decide +kernel
theorem dX7_sign_4 : decode cX7_sign 4 = .ok (.iload_n 1, 1) := by decide +kernel
theorem dX7_sign_5 : decode cX7_sign 5 = .ok (.invokevirtual 72, 3) := by decide +kernel
theorem dX7_sign_8 : decode cX7_sign 8 = .ok (.ifCond .eq 10, 3) := by decide +kernel
theorem dX7_sign_11 : decode cX7_sign 11 = .ok (.iload_n 2, 1) := by decide +kernel
theorem dX7_sign_12 : decode cX7_sign 12 = .ok (.invokestatic 48, 3) := by decide +kernel
theorem dX7_sign_15 : decode cX7_sign 15 = .ok (.ifCond .ne 7, 3) := by decide +kernel
theorem dX7_sign_18 : decode cX7_sign 18 = .ok (.sipush (-1001), 3) := by decide +kernel
theorem dX7_sign_21 : decode cX7_sign 21 = .ok (.ireturn, 1) := by decide +kernel
theorem dX7_sign_22 : decode cX7_sign 22 = .ok (.aload_n 0, 1) := by decide +kernel
theorem dX7_sign_23 : decode cX7_sign 23 = .ok (.getfield 22, 3) := by decide +kernel
theorem dX7_sign_26 : decode cX7_sign 26 = .ok (.aload_n 0, 1) := by decide +kernel
theorem dX7_sign_27 : decode cX7_sign 27 = .ok (.getfield 10, 3) := by decide +kernel
theorem dX7_sign_30 : decode cX7_sign 30 = .ok (.invokevirtual 61, 3) := by decide +kernel
theorem dX7_sign_33 : decode cX7_sign 33 = .ok (.aload_n 0, 1) := by decide +kernel
theorem dX7_sign_34 : decode cX7_sign 34 = .ok (.getfield 10, 3) := by decide +kernel
theorem dX7_sign_37 : decode cX7_sign 37 = .ok (.iload_n 1, 1) := by decide +kernel
theorem dX7_sign_38 : decode cX7_sign 38 = .ok (.invokevirtual 75, 3) := by decide +kernel
theorem dX7_sign_41 : decode cX7_sign 41 = .ok (.istore_n 3, 1) := by decide +kernel
theorem dX7_sign_42 : decode cX7_sign 42 = .ok (.aload_n 0, 1) := by decide +kernel
theorem dX7_sign_43 : decode cX7_sign 43 = .ok (.getfield 10, 3) := by decide +kernel
theorem dX7_sign_46 : decode cX7_sign 46 = .ok (.iload_n 1, 1) := by decide +kernel
theorem dX7_sign_47 : decode cX7_sign 47 = .ok (.iload_n 2, 1) := by decide +kernel
theorem dX7_sign_48 : decode cX7_sign 48 = .ok (.invokevirtual 78, 3) := by decide +kernel
theorem dX7_sign_51 : decode cX7_sign 51 = .ok (.iload_n 3, 1) := by decide +kernel
theorem dX7_sign_52 : decode cX7_sign 52 = .ok (.ireturn, 1) := by decide +kernel
set_option maxRecDepth 20000 in
theorem ggX7_compose_X0_hasPlace : GoodIn wsX7_compose wsX0_hasPlace := goodIn_r _ [8, 9, 151, 152, 153, 154, 155, 156, 157, 158, 159, 160, 161] (by decide +kernel) (by decide +kernel)
set_option maxRecDepth 20000 in
theorem gX7_compose_X0_hasPlace : GoodIn wsX7_compose (wsV RX7 72 RX0 yX0_hasPlace wsX0_hasPlace) := goodIn_app (goodIn_of _ (by decide +kernel)) ggX7_compose_X0_hasPlace
set_option maxRecDepth 20000 in
theorem ggX7_compose_X7_findFor : GoodIn wsX7_compose wsX7_findFor := goodIn_r _ [14, 3, 1, 15, 16, 17, 7, 18, 19, 20, 21, 22, 9, 23, 24, 25, 26, 27, 28, 29, 30, 31, 32, 33, 34, 35, 36, 37, 38, 39, 40, 41, 42, 43, 44, 45, 46, 47, 48, 49, 50, 51, 52, 53, 54, 55, 56, 57, 58, 59, 60, 61, 62, 63, 64, 65, 66, 67, 68, 69, 70, 71, 72, 73, 74, 75, 76, 77, 78, 79, 80, 81, 82, 83, 84, 85, 86, 87, 88, 89, 90, 91, 138, 139, 140, 141, 142, 143, 151, 152, 153, 154, 155, 156, 157, 158, 159, 160, 161, 144, 145, 146, 147, 148, 149, 150, 162] (by decide +kernel) (by decide +kernel)
set_option maxRecDepth 20000 in
theorem gX7_compose_X7_findFor : GoodIn wsX7_compose (wsV RX7 81 RX7 yX7_findFor wsX7_findFor) := goodIn_app (goodIn_of _ (by decide +kernel)) ggX7_compose_X7_findFor
set_option maxRecDepth 20000 in
theorem ggX7_compose_X2_push : GoodIn wsX7_compose wsX2_push := goodIn_r _ [96, 97, 98, 99, 100, 101, 95, 102, 103, 104, 105, 7, 106, 107, 108, 109, 27, 28, 110, 9, 111, 112, 113, 114, 115, 116, 117, 48, 118, 54, 119, 120, 31, 121, 122, 163, 164, 151, 152, 153, 154, 155, 156, 157, 158, 159, 160, 161, 162] (by decide +kernel) (by decide +kernel)
set_option maxRecDepth 20000 in
theorem gX7_compose_X2_push : GoodIn wsX7_compose (wsV RX7 61 RX2 yX2_push wsX2_push) := goodIn_app (goodIn_of _ (by decide +kernel)) ggX7_compose_X2_push
set_option maxRecDepth 20000 in
theorem ggX7_compose_X0_hang : GoodIn wsX7_compose wsX0_hang := goodIn_r _ [126, 108, 127, 128, 31, 129, 130, 131, 132, 7, 133, 110, 29, 30, 32, 134, 135, 136, 137, 109, 151, 152, 153, 154, 155, 156, 157, 158, 159, 160, 161] (by decide +kernel) (by decide +kernel)
set_option maxRecDepth 20000 in
theorem gX7_compose_X0_hang : GoodIn wsX7_compose (wsV RX7 78 RX0 yX0_hang wsX0_hang) := goodIn_app (goodIn_of _ (by decide +kernel)) ggX7_compose_X0_hang
theorem dX7_compose_0 : decode cX7_compose 0 = .ok (.aload_n 0, 1) := by decide +kernel
theorem dX7_compose_1 : decode cX7_compose 1 = .ok (.getfield 10, 3) := by decide +kernel
theorem dX7_compose_4 : decode cX7_compose 4 = .ok (.iload_n 1, 1) := by decide +kernel
theorem dX7_compose_5 : decode cX7_compose 5 = .ok (.invokevirtual 72, 3) := by decide +kernel
theorem dX7_compose_8 : decode cX7_compose 8 = .ok (.ifCond .ne 7, 3) := by decide +kernel
theorem dX7_compose_11 : decode cX7_compose 11 = .ok (.sipush (-1001), 3) := by decide +kernel
theorem dX7_compose_14 : decode cX7_compose 14 = .ok (.ireturn, 1) := by decide +kernel
theorem dX7_compose_15 : decode cX7_compose 15 = .ok (.aload_n 0, 1) := by decide +kernel
theorem dX7_compose_16 : decode cX7_compose 16 = .ok (.iload_n 1, 1) := by decide +kernel
theorem dX7_compose_17 : decode cX7_compose 17 = .ok (.invokevirtual 81, 3) := by decide +kernel
theorem dX7_compose_20 : decode cX7_compose 20 = .ok (.ifCond .ne 7, 3) := by decide +kernel
theorem dX7_compose_23 : decode cX7_compose 23 = .ok (.sipush (-1002), 3) := by decide +kernel
theorem dX7_compose_26 : decode cX7_compose 26 = .ok (.ireturn, 1) := by decide +kernel
theorem dX7_compose_27 : decode cX7_compose 27 = .ok (.aload_n 0, 1) := by decide +kernel
theorem dX7_compose_28 : decode cX7_compose 28 = .ok (.getfield 22, 3) := by decide +kernel
theorem dX7_compose_31 : decode cX7_compose 31 = .ok (.aload_n 0, 1) := by decide +kernel
theorem dX7_compose_32 : decode cX7_compose 32 = .ok (.getfield 10, 3) := by decide +kernel
theorem dX7_compose_35 : decode cX7_compose 35 = .ok (.invokevirtual 61, 3) := by decide +kernel
theorem dX7_compose_38 : decode cX7_compose 38 = .ok (.aload_n 0, 1) := by decide +kernel
theorem dX7_compose_39 : decode cX7_compose 39 = .ok (.getfield 10, 3) := by decide +kernel
theorem dX7_compose_42 : decode cX7_compose 42 = .ok (.iload_n 1, 1) := by decide +kernel
theorem dX7_compose_43 : decode cX7_compose 43 = .ok (.aload_n 0, 1) := by decide +kernel
theorem dX7_compose_44 : decode cX7_compose 44 = .ok (.getfield 36, 3) := by decide +kernel
theorem dX7_compose_47 : decode cX7_compose 47 = .ok (.getfield 84, 3) := by decide +kernel
theorem dX7_compose_50 : decode cX7_compose 50 = .ok (.invokevirtual 78, 3) := by decide +kernel
theorem dX7_compose_53 : decode cX7_compose 53 = .ok (.aload_n 0, 1) := by decide +kernel
theorem dX7_compose_54 : decode cX7_compose 54 = .ok (.getfield 36, 3) := by decide +kernel
theorem dX7_compose_57 : decode cX7_compose 57 = .ok (.getfield 84, 3) := by decide +kernel
theorem dX7_compose_60 : decode cX7_compose 60 = .ok (.ireturn, 1) := by decide +kernel
set_option maxRecDepth 20000 in
theorem ggX7_composeAll_X2_push : GoodIn wsX7_composeAll wsX2_push := goodIn_r _ [8, 9, 10, 11, 12, 13, 7, 14, 15, 16, 17, 18, 19, 20, 21, 22, 23, 24, 25, 26, 27, 28, 29, 30, 31, 32, 33, 34, 35, 36, 37, 38, 39, 40, 41, 158, 159, 140, 141, 142, 143, 144, 145, 146, 147, 148, 149, 150, 160] (by decide +kernel) (by decide +kernel)
set_option maxRecDepth 20000 in
theorem gX7_composeAll_X2_push : GoodIn wsX7_composeAll (wsV RX7 61 RX2 yX2_push wsX2_push) := goodIn_app (goodIn_of _ (by decide +kernel)) ggX7_composeAll_X2_push
set_option maxRecDepth 20000 in
theorem ggX7_composeAll_X7_findFor : GoodIn wsX7_composeAll wsX7_findFor := goodIn_r _ [46, 3, 1, 47, 48, 49, 18, 50, 51, 52, 53, 54, 26, 55, 56, 57, 58, 23, 24, 59, 60, 39, 61, 62, 63, 64, 65, 66, 67, 68, 69, 70, 71, 72, 73, 74, 75, 76, 34, 77, 78, 79, 80, 81, 36, 82, 83, 84, 85, 86, 87, 88, 89, 90, 91, 92, 93, 94, 95, 96, 97, 98, 99, 100, 101, 102, 103, 104, 105, 106, 107, 108, 109, 110, 111, 112, 113, 114, 115, 116, 117, 118, 134, 135, 136, 137, 138, 139, 140, 141, 142, 143, 144, 145, 146, 147, 148, 149, 150, 151, 152, 153, 154, 155, 156, 157, 160] (by decide +kernel) (by decide +kernel)
set_option maxRecDepth 20000 in
theorem gX7_composeAll_X7_findFor : GoodIn wsX7_composeAll (wsV RX7 81 RX7 yX7_findFor wsX7_findFor) := goodIn_app (goodIn_of _ (by decide +kernel)) ggX7_composeAll_X7_findFor
set_option maxRecDepth 20000 in
theorem ggX7_composeAll_X0_hang : GoodIn wsX7_composeAll wsX0_hang := goodIn_r _ [122, 21, 123, 124, 39, 125, 126, 127, 128, 18, 129, 25, 59, 60, 61, 130, 131, 132, 133, 22, 140, 141, 142, 143, 144, 145, 146, 147, 148, 149, 150] (by decide +kernel) (by decide +kernel)
set_option maxRecDepth 20000 in
theorem gX7_composeAll_X0_hang : GoodIn wsX7_composeAll (wsV RX7 78 RX0 yX0_hang wsX0_hang) := goodIn_app (goodIn_of _ (by decide +kernel)) ggX7_composeAll_X0_hang
theorem dX7_composeAll_0 : decode cX7_composeAll 0 = .ok (.aload_n 0, 1) := by decide +kernel
theorem dX7_composeAll_1 : decode cX7_composeAll 1 = .ok (.getfield 10, 3) := by decide +kernel
theorem dX7_composeAll_4 : decode cX7_composeAll 4 = .ok (.getfield 88, 3) := by decide +kernel
theorem dX7_composeAll_7 : decode cX7_composeAll 7 = .ok (.ifCond .ne 7, 3) := by decide +kernel
theorem dX7_composeAll_10 : decode cX7_composeAll 10 = .ok (.sipush (-1002), 3) := by decide +kernel
theorem dX7_composeAll_13 : decode cX7_composeAll 13 = .ok (.ireturn, 1) := by decide +kernel
theorem dX7_composeAll_14 : decode cX7_composeAll 14 = .ok (.aload_n 0, 1) := by decide +kernel
theorem dX7_composeAll_15 : decode cX7_composeAll 15 = .ok (.getfield 22, 3) := by decide +kernel
theorem dX7_composeAll_18 : decode cX7_composeAll 18 = .ok (.aload_n 0, 1) := by decide +kernel
theorem dX7_composeAll_19 : decode cX7_composeAll 19 = .ok (.getfield 10, 3) := by decide +kernel
theorem dX7_composeAll_22 : decode cX7_composeAll 22 = .ok (.invokevirtual 61, 3) := by decide +kernel
theorem dX7_composeAll_25 : decode cX7_composeAll 25 = .ok (.iconst 0, 1) := by decide +kernel
theorem dX7_composeAll_26 : decode cX7_composeAll 26 = .ok (.istore_n 1, 1) := by decide +kernel
theorem dX7_composeAll_27 : decode cX7_composeAll 27 = .ok (.iconst 0, 1) := by decide +kernel
theorem dX7_composeAll_28 : decode cX7_composeAll 28 = .ok (.istore_n 2, 1) := by decide +kernel
theorem dX7_composeAll_29 : decode cX7_composeAll 29 = .ok (.iload_n 2, 1) := by decide +kernel
theorem dX7_composeAll_30 : decode cX7_composeAll 30 = .ok (.aload_n 0, 1) := by decide +kernel
theorem dX7_composeAll_31 : decode cX7_composeAll 31 = .ok (.getfield 10, 3) := by decide +kernel
theorem dX7_composeAll_34 : decode cX7_composeAll 34 = .ok (.getfield 88, 3) := by decide +kernel
theorem dX7_composeAll_37 : decode cX7_composeAll 37 = .ok (.if_icmp .ge 35, 3) := by decide +kernel
theorem dX7_composeAll_40 : decode cX7_composeAll 40 = .ok (.aload_n 0, 1) := by decide +kernel
theorem dX7_composeAll_41 : decode cX7_composeAll 41 = .ok (.iload_n 2, 1) := by decide +kernel
theorem dX7_composeAll_42 : decode cX7_composeAll 42 = .ok (.invokevirtual 81, 3) := by decide +kernel
theorem dX7_composeAll_45 : decode cX7_composeAll 45 = .ok (.ifCond .eq 21, 3) := by decide +kernel
theorem dX7_composeAll_48 : decode cX7_composeAll 48 = .ok (.aload_n 0, 1) := by decide +kernel
theorem dX7_composeAll_49 : decode cX7_composeAll 49 = .ok (.getfield 10, 3) := by decide +kernel
theorem dX7_composeAll_52 : decode cX7_composeAll 52 = .ok (.iload_n 2, 1) := by decide +kernel
theorem dX7_composeAll_53 : decode cX7_composeAll 53 = .ok (.aload_n 0, 1) := by decide +kernel
theorem dX7_composeAll_54 : decode cX7_composeAll 54 = .ok (.getfield 36, 3) := by decide +kernel
theorem dX7_composeAll_57 : decode cX7_composeAll 57 = .ok (.getfield 84, 3) := by decide +kernel
theorem dX7_composeAll_60 : decode cX7_composeAll 60 = .ok (.invokevirtual 78, 3) := by decide +kernel
theorem dX7_composeAll_63 : decode cX7_composeAll 63 = .ok (.iinc 1 1, 3) := by decide +kernel
theorem dX7_composeAll_66 : decode cX7_composeAll 66 = .ok (.iinc 2 1, 3) := by decide +kernel
theorem dX7_composeAll_69 : decode cX7_composeAll 69 = .ok (.goto (-40), 3) := by decide +kernel
theorem dX7_composeAll_72 : decode cX7_composeAll 72 = .ok (.iload_n 1, 1) := by decide +kernel
theorem dX7_composeAll_73 : decode cX7_composeAll 73 = .ok (.ireturn, 1) := by decide +kernel
set_option maxRecDepth 20000 in
theorem ggX7_paint_X0_hasPlace : GoodIn wsX7_paint wsX0_hasPlace := goodIn_r _ [7, 8, 65, 66, 67, 68, 69, 70, 71, 72, 73, 74, 75] (by decide +kernel) (by decide +kernel)
set_option maxRecDepth 20000 in
theorem gX7_paint_X0_hasPlace : GoodIn wsX7_paint (wsV RX7 72 RX0 yX0_hasPlace wsX0_hasPlace) := goodIn_app (goodIn_of _ (by decide +kernel)) ggX7_paint_X0_hasPlace
set_option maxRecDepth 20000 in
theorem ggX7_paint_X0_coatsAt : GoodIn wsX7_paint wsX0_coatsAt := goodIn_r _ [12, 13, 14, 15, 16, 17, 65, 66, 67, 68, 69, 70, 71, 72, 73, 74, 75] (by decide +kernel) (by decide +kernel)
set_option maxRecDepth 20000 in
theorem gX7_paint_X0_coatsAt : GoodIn wsX7_paint (wsV RX7 91 RX0 yX0_coatsAt wsX0_coatsAt) := goodIn_app (goodIn_of _ (by decide +kernel)) ggX7_paint_X0_coatsAt
set_option maxRecDepth 20000 in
theorem ggX7_paint_X2_push : GoodIn wsX7_paint wsX2_push := goodIn_r _ [22, 23, 24, 25, 26, 27, 21, 28, 29, 30, 31, 6, 32, 33, 34, 13, 35, 36, 37, 8, 38, 39, 40, 41, 42, 43, 44, 45, 46, 47, 48, 49, 16, 50, 51, 76, 77, 65, 66, 67, 68, 69, 70, 71, 72, 73, 74, 75, 78] (by decide +kernel) (by decide +kernel)
set_option maxRecDepth 20000 in
theorem gX7_paint_X2_push : GoodIn wsX7_paint (wsV RX7 61 RX2 yX2_push wsX2_push) := goodIn_app (goodIn_of _ (by decide +kernel)) ggX7_paint_X2_push
set_option maxRecDepth 20000 in
theorem ggX7_paint_X0_coat : GoodIn wsX7_paint wsX0_coat := goodIn_r _ [55, 13, 56, 57, 16, 58, 65, 66, 67, 68, 69, 70, 71, 72, 73, 74, 75] (by decide +kernel) (by decide +kernel)
set_option maxRecDepth 20000 in
theorem gX7_paint_X0_coat : GoodIn wsX7_paint (wsV RX7 94 RX0 yX0_coat wsX0_coat) := goodIn_app (goodIn_of _ (by decide +kernel)) ggX7_paint_X0_coat
theorem dX7_paint_0 : decode cX7_paint 0 = .ok (.aload_n 0, 1) := by decide +kernel
theorem dX7_paint_1 : decode cX7_paint 1 = .ok (.getfield 10, 3) := by decide +kernel
theorem dX7_paint_4 : decode cX7_paint 4 = .ok (.iload_n 1, 1) := by decide +kernel
theorem dX7_paint_5 : decode cX7_paint 5 = .ok (.invokevirtual 72, 3) := by decide +kernel
theorem dX7_paint_8 : decode cX7_paint 8 = .ok (.ifCond .ne 7, 3) := by decide +kernel
theorem dX7_paint_11 : decode cX7_paint 11 = .ok (.sipush (-1001), 3) := by decide +kernel
theorem dX7_paint_14 : decode cX7_paint 14 = .ok (.ireturn, 1) := by decide +kernel
theorem dX7_paint_15 : decode cX7_paint 15 = .ok (.aload_n 0, 1) := by decide +kernel
theorem dX7_paint_16 : decode cX7_paint 16 = .ok (.getfield 10, 3) := by decide +kernel
theorem dX7_paint_19 : decode cX7_paint 19 = .ok (.iload_n 1, 1) := by decide +kernel
theorem dX7_paint_20 : decode cX7_paint 20 = .ok (.invokevirtual 91, 3) := by decide +kernel
theorem dX7_paint_23 : decode cX7_paint 23 = .ok (.istore_n 2, 1) := by decide +kernel
theorem dX7_paint_24 : decode cX7_paint 24 = .ok (.iload_n 2, 1) := by decide +kernel
theorem dX7_paint_25 : decode cX7_paint 25 = .ok (.bipush 9, 2) := by decide +kernel
theorem dX7_paint_27 : decode cX7_paint 27 = .ok (.if_icmp .lt 7, 3) := by decide +kernel
theorem dX7_paint_30 : decode cX7_paint 30 = .ok (.sipush (-1003), 3) := by decide +kernel
theorem dX7_paint_33 : decode cX7_paint 33 = .ok (.ireturn, 1) := by decide +kernel
theorem dX7_paint_34 : decode cX7_paint 34 = .ok (.aload_n 0, 1) := by decide +kernel
theorem dX7_paint_35 : decode cX7_paint 35 = .ok (.getfield 22, 3) := by decide +kernel
theorem dX7_paint_38 : decode cX7_paint 38 = .ok (.aload_n 0, 1) := by decide +kernel
theorem dX7_paint_39 : decode cX7_paint 39 = .ok (.getfield 10, 3) := by decide +kernel
theorem dX7_paint_42 : decode cX7_paint 42 = .ok (.invokevirtual 61, 3) := by decide +kernel
theorem dX7_paint_45 : decode cX7_paint 45 = .ok (.aload_n 0, 1) := by decide +kernel
theorem dX7_paint_46 : decode cX7_paint 46 = .ok (.getfield 10, 3) := by decide +kernel
theorem dX7_paint_49 : decode cX7_paint 49 = .ok (.iload_n 1, 1) := by decide +kernel
theorem dX7_paint_50 : decode cX7_paint 50 = .ok (.iload_n 2, 1) := by decide +kernel
theorem dX7_paint_51 : decode cX7_paint 51 = .ok (.iconst 1, 1) := by decide +kernel
theorem dX7_paint_52 : decode cX7_paint 52 = .ok (.iadd, 1) := by decide +kernel
theorem dX7_paint_53 : decode cX7_paint 53 = .ok (.invokevirtual 94, 3) := by decide +kernel
theorem dX7_paint_56 : decode cX7_paint 56 = .ok (.iload_n 2, 1) := by decide +kernel
theorem dX7_paint_57 : decode cX7_paint 57 = .ok (.iconst 1, 1) := by decide +kernel
theorem dX7_paint_58 : decode cX7_paint 58 = .ok (.iadd, 1) := by decide +kernel
theorem dX7_paint_59 : decode cX7_paint 59 = .ok (.ireturn, 1) := by decide +kernel
set_option maxRecDepth 20000 in
theorem ggX7_gust_X7_isForce : GoodIn wsX7_gust wsX7_isForce := goodIn_r _ [6] (by decide +kernel) (by decide +kernel)
set_option maxRecDepth 20000 in
theorem gX7_gust_X7_isForce : GoodIn wsX7_gust (va_wsS RX7 97 yX7_isForce wsX7_isForce) := goodIn_app (goodIn_of _ (by decide +kernel)) ggX7_gust_X7_isForce
set_option maxRecDepth 20000 in
theorem ggX7_gust_X2_push : GoodIn wsX7_gust wsX2_push := goodIn_r _ [11, 12, 13, 14, 15, 16, 10, 17, 18, 19, 20, 21, 22, 23, 24, 25, 26, 27, 28, 29, 30, 31, 32, 33, 34, 35, 36, 37, 38, 39, 40, 41, 42, 43, 44, 70, 71, 59, 60, 61, 62, 63, 64, 65, 66, 67, 68, 69, 72] (by decide +kernel) (by decide +kernel)
set_option maxRecDepth 20000 in
theorem gX7_gust_X2_push : GoodIn wsX7_gust (wsV RX7 61 RX2 yX2_push wsX2_push) := goodIn_app (goodIn_of _ (by decide +kernel)) ggX7_gust_X2_push
set_option maxRecDepth 20000 in
theorem ggX7_gust_X0_turnRound : GoodIn wsX7_gust wsX0_turnRound := goodIn_r _ [48, 30, 33, 31, 49, 50, 51, 52, 59, 60, 61, 62, 63, 64, 65, 66, 67, 68, 69] (by decide +kernel) (by decide +kernel)
set_option maxRecDepth 20000 in
theorem gX7_gust_X0_turnRound : GoodIn wsX7_gust (wsV RX7 103 RX0 yX0_turnRound wsX0_turnRound) := goodIn_app (goodIn_of _ (by decide +kernel)) ggX7_gust_X0_turnRound
theorem dX7_gust_0 : decode cX7_gust 0 = .ok (.iload_n 1, 1) := by decide +kernel
theorem dX7_gust_1 : decode cX7_gust 1 = .ok (.invokestatic 97, 3) := by decide +kernel
theorem dX7_gust_4 : decode cX7_gust 4 = .ok (.ifCond .ne 7, 3) := by decide +kernel
theorem dX7_gust_7 : decode cX7_gust 7 = .ok (.sipush (-1001), 3) := by decide +kernel
theorem dX7_gust_10 : decode cX7_gust 10 = .ok (.ireturn, 1) := by decide +kernel
theorem dX7_gust_11 : decode cX7_gust 11 = .ok (.aload_n 0, 1) := by decide +kernel
theorem dX7_gust_12 : decode cX7_gust 12 = .ok (.getfield 22, 3) := by decide +kernel
theorem dX7_gust_15 : decode cX7_gust 15 = .ok (.aload_n 0, 1) := by decide +kernel
theorem dX7_gust_16 : decode cX7_gust 16 = .ok (.getfield 10, 3) := by decide +kernel
theorem dX7_gust_19 : decode cX7_gust 19 = .ok (.invokevirtual 61, 3) := by decide +kernel
theorem dX7_gust_22 : decode cX7_gust 22 = .ok (.iload_n 1, 1) := by decide +kernel
theorem dX7_gust_23 : decode cX7_gust 23 = .ok (.aload_n 0, 1) := by decide +kernel
theorem dX7_gust_24 : decode cX7_gust 24 = .ok (.getfield 10, 3) := by decide +kernel
theorem dX7_gust_27 : decode cX7_gust 27 = .ok (.getfield 100, 3) := by decide +kernel
theorem dX7_gust_30 : decode cX7_gust 30 = .ok (.if_icmp .ge 5, 3) := by decide +kernel
theorem dX7_gust_33 : decode cX7_gust 33 = .ok (.iconst 0, 1) := by decide +kernel
theorem dX7_gust_34 : decode cX7_gust 34 = .ok (.ireturn, 1) := by decide +kernel
theorem dX7_gust_35 : decode cX7_gust 35 = .ok (.aload_n 0, 1) := by decide +kernel
theorem dX7_gust_36 : decode cX7_gust 36 = .ok (.getfield 10, 3) := by decide +kernel
theorem dX7_gust_39 : decode cX7_gust 39 = .ok (.invokevirtual 103, 3) := by decide +kernel
theorem dX7_gust_42 : decode cX7_gust 42 = .ok (.iconst 1, 1) := by decide +kernel
theorem dX7_gust_43 : decode cX7_gust 43 = .ok (.ireturn, 1) := by decide +kernel
set_option maxRecDepth 20000 in
theorem ggX7_oil_X7_isForce : GoodIn wsX7_oil wsX7_isForce := goodIn_r _ [6] (by decide +kernel) (by decide +kernel)
set_option maxRecDepth 20000 in
theorem gX7_oil_X7_isForce : GoodIn wsX7_oil (va_wsS RX7 97 yX7_isForce wsX7_isForce) := goodIn_app (goodIn_of _ (by decide +kernel)) ggX7_oil_X7_isForce
set_option maxRecDepth 20000 in
theorem ggX7_oil_X2_push : GoodIn wsX7_oil wsX2_push := goodIn_r _ [11, 12, 13, 14, 15, 16, 10, 17, 18, 19, 20, 21, 22, 23, 24, 25, 26, 27, 28, 29, 30, 31, 32, 33, 34, 35, 36, 37, 38, 39, 40, 41, 42, 43, 44, 62, 63, 51, 52, 53, 54, 55, 56, 57, 58, 59, 60, 61, 64] (by decide +kernel) (by decide +kernel)
set_option maxRecDepth 20000 in
theorem gX7_oil_X2_push : GoodIn wsX7_oil (wsV RX7 61 RX2 yX2_push wsX2_push) := goodIn_app (goodIn_of _ (by decide +kernel)) ggX7_oil_X2_push
theorem dX7_oil_0 : decode cX7_oil 0 = .ok (.iload_n 1, 1) := by decide +kernel
theorem dX7_oil_1 : decode cX7_oil 1 = .ok (.invokestatic 97, 3) := by decide +kernel
theorem dX7_oil_4 : decode cX7_oil 4 = .ok (.ifCond .ne 7, 3) := by decide +kernel
theorem dX7_oil_7 : decode cX7_oil 7 = .ok (.sipush (-1001), 3) := by decide +kernel
theorem dX7_oil_10 : decode cX7_oil 10 = .ok (.ireturn, 1) := by decide +kernel
theorem dX7_oil_11 : decode cX7_oil 11 = .ok (.aload_n 0, 1) := by decide +kernel
theorem dX7_oil_12 : decode cX7_oil 12 = .ok (.getfield 22, 3) := by decide +kernel
theorem dX7_oil_15 : decode cX7_oil 15 = .ok (.aload_n 0, 1) := by decide +kernel
theorem dX7_oil_16 : decode cX7_oil 16 = .ok (.getfield 10, 3) := by decide +kernel
theorem dX7_oil_19 : decode cX7_oil 19 = .ok (.invokevirtual 61, 3) := by decide +kernel
theorem dX7_oil_22 : decode cX7_oil 22 = .ok (.aload_n 0, 1) := by decide +kernel
theorem dX7_oil_23 : decode cX7_oil 23 = .ok (.getfield 10, 3) := by decide +kernel
theorem dX7_oil_26 : decode cX7_oil 26 = .ok (.getfield 100, 3) := by decide +kernel
theorem dX7_oil_29 : decode cX7_oil 29 = .ok (.istore_n 2, 1) := by decide +kernel
theorem dX7_oil_30 : decode cX7_oil 30 = .ok (.aload_n 0, 1) := by decide +kernel
theorem dX7_oil_31 : decode cX7_oil 31 = .ok (.getfield 10, 3) := by decide +kernel
theorem dX7_oil_34 : decode cX7_oil 34 = .ok (.iload_n 1, 1) := by decide +kernel
theorem dX7_oil_35 : decode cX7_oil 35 = .ok (.putfield 100, 3) := by decide +kernel
theorem dX7_oil_38 : decode cX7_oil 38 = .ok (.iload_n 2, 1) := by decide +kernel
theorem dX7_oil_39 : decode cX7_oil 39 = .ok (.ireturn, 1) := by decide +kernel
set_option maxRecDepth 20000 in
theorem ggX7_pass_X2_push : GoodIn wsX7_pass wsX2_push := goodIn_r _ [7, 8, 9, 10, 11, 12, 6, 13, 14, 15, 16, 17, 18, 19, 20, 21, 22, 23, 24, 25, 26, 27, 28, 29, 30, 31, 32, 33, 34, 35, 36, 37, 38, 39, 40, 103, 104, 92, 93, 94, 95, 96, 97, 98, 99, 100, 101, 102, 105] (by decide +kernel) (by decide +kernel)
set_option maxRecDepth 20000 in
theorem gX7_pass_X2_push : GoodIn wsX7_pass (wsV RX7 61 RX2 yX2_push wsX2_push) := goodIn_app (goodIn_of _ (by decide +kernel)) ggX7_pass_X2_push
set_option maxRecDepth 20000 in
theorem ggX7_pass_X0_fadeOneDay : GoodIn wsX7_pass wsX0_fadeOneDay := goodIn_r _ [44, 25, 28, 45, 46, 47, 17, 48, 49, 50, 51, 52, 21, 53, 54, 38, 55, 56, 57, 58, 59, 20, 60, 61, 62, 63, 26, 64, 65, 66, 67, 68, 69, 70, 71, 72, 73, 74, 75, 76, 77, 78, 24, 79, 80, 81, 82, 83, 84, 85, 92, 93, 94, 95, 96, 97, 98, 99, 100, 101, 102] (by decide +kernel) (by decide +kernel)
set_option maxRecDepth 20000 in
theorem gX7_pass_X0_fadeOneDay : GoodIn wsX7_pass (wsV RX7 109 RX0 yX0_fadeOneDay wsX0_fadeOneDay) := goodIn_app (goodIn_of _ (by decide +kernel)) ggX7_pass_X0_fadeOneDay
theorem dX7_pass_0 : decode cX7_pass 0 = .ok (.iload_n 1, 1) := by decide +kernel
theorem dX7_pass_1 : decode cX7_pass 1 = .ok (.iconst 1, 1) := by decide +kernel
theorem dX7_pass_2 : decode cX7_pass 2 = .ok (.if_icmp .lt 9, 3) := by decide +kernel
theorem dX7_pass_5 : decode cX7_pass 5 = .ok (.iload_n 1, 1) := by decide +kernel
theorem dX7_pass_6 : decode cX7_pass 6 = .ok (.bipush 20, 2) := by decide +kernel
theorem dX7_pass_8 : decode cX7_pass 8 = .ok (.if_icmp .le 7, 3) := by decide +kernel
theorem dX7_pass_11 : decode cX7_pass 11 = .ok (.sipush (-1001), 3) := by decide +kernel
theorem dX7_pass_14 : decode cX7_pass 14 = .ok (.ireturn, 1) := by decide +kernel
theorem dX7_pass_15 : decode cX7_pass 15 = .ok (.aload_n 0, 1) := by decide +kernel
theorem dX7_pass_16 : decode cX7_pass 16 = .ok (.getfield 10, 3) := by decide +kernel
theorem dX7_pass_19 : decode cX7_pass 19 = .ok (.getfield 106, 3) := by decide +kernel
theorem dX7_pass_22 : decode cX7_pass 22 = .ok (.iload_n 1, 1) := by decide +kernel
theorem dX7_pass_23 : decode cX7_pass 23 = .ok (.iadd, 1) := by decide +kernel
theorem dX7_pass_24 : decode cX7_pass 24 = .ok (.sipush 9999, 3) := by decide +kernel
theorem dX7_pass_27 : decode cX7_pass 27 = .ok (.if_icmp .le 7, 3) := by decide +kernel
theorem dX7_pass_30 : decode cX7_pass 30 = .ok (.sipush (-1003), 3) := by decide +kernel
theorem dX7_pass_33 : decode cX7_pass 33 = .ok (.ireturn, 1) := by decide +kernel
theorem dX7_pass_34 : decode cX7_pass 34 = .ok (.aload_n 0, 1) := by decide +kernel
theorem dX7_pass_35 : decode cX7_pass 35 = .ok (.getfield 22, 3) := by decide +kernel
theorem dX7_pass_38 : decode cX7_pass 38 = .ok (.aload_n 0, 1) := by decide +kernel
theorem dX7_pass_39 : decode cX7_pass 39 = .ok (.getfield 10, 3) := by decide +kernel
theorem dX7_pass_42 : decode cX7_pass 42 = .ok (.invokevirtual 61, 3) := by decide +kernel
theorem dX7_pass_45 : decode cX7_pass 45 = .ok (.iconst 0, 1) := by decide +kernel
theorem dX7_pass_46 : decode cX7_pass 46 = .ok (.istore_n 2, 1) := by decide +kernel
theorem dX7_pass_47 : decode cX7_pass 47 = .ok (.iconst 0, 1) := by decide +kernel
theorem dX7_pass_48 : decode cX7_pass 48 = .ok (.istore_n 3, 1) := by decide +kernel
theorem dX7_pass_49 : decode cX7_pass 49 = .ok (.iload_n 3, 1) := by decide +kernel
theorem dX7_pass_50 : decode cX7_pass 50 = .ok (.iload_n 1, 1) := by decide +kernel
theorem dX7_pass_51 : decode cX7_pass 51 = .ok (.if_icmp .ge 19, 3) := by decide +kernel
theorem dX7_pass_54 : decode cX7_pass 54 = .ok (.iload_n 2, 1) := by decide +kernel
theorem dX7_pass_55 : decode cX7_pass 55 = .ok (.aload_n 0, 1) := by decide +kernel
theorem dX7_pass_56 : decode cX7_pass 56 = .ok (.getfield 10, 3) := by decide +kernel
theorem dX7_pass_59 : decode cX7_pass 59 = .ok (.invokevirtual 109, 3) := by decide +kernel
theorem dX7_pass_62 : decode cX7_pass 62 = .ok (.iadd, 1) := by decide +kernel
theorem dX7_pass_63 : decode cX7_pass 63 = .ok (.istore_n 2, 1) := by decide +kernel
theorem dX7_pass_64 : decode cX7_pass 64 = .ok (.iinc 3 1, 3) := by decide +kernel
theorem dX7_pass_67 : decode cX7_pass 67 = .ok (.goto (-18), 3) := by decide +kernel
theorem dX7_pass_70 : decode cX7_pass 70 = .ok (.iload_n 2, 1) := by decide +kernel
theorem dX7_pass_71 : decode cX7_pass 71 = .ok (.ireturn, 1) := by decide +kernel
set_option maxRecDepth 20000 in
theorem ggX7_set_X7_isOneOfTwo : GoodIn wsX7_set wsX7_isOneOfTwo := goodIn_r _ [6] (by decide +kernel) (by decide +kernel)
set_option maxRecDepth 20000 in
theorem gX7_set_X7_isOneOfTwo : GoodIn wsX7_set (va_wsS RX7 113 yX7_isOneOfTwo wsX7_isOneOfTwo) := goodIn_app (goodIn_of _ (by decide +kernel)) ggX7_set_X7_isOneOfTwo
set_option maxRecDepth 20000 in
theorem ggX7_set_X2_push : GoodIn wsX7_set wsX2_push := goodIn_r _ [11, 12, 13, 14, 15, 16, 10, 17, 18, 19, 20, 21, 22, 23, 24, 25, 26, 27, 28, 29, 30, 31, 32, 33, 34, 35, 36, 37, 38, 39, 40, 41, 42, 43, 44, 72, 73, 61, 62, 63, 64, 65, 66, 67, 68, 69, 70, 71, 74] (by decide +kernel) (by decide +kernel)
set_option maxRecDepth 20000 in
theorem gX7_set_X2_push : GoodIn wsX7_set (wsV RX7 61 RX2 yX2_push wsX2_push) := goodIn_app (goodIn_of _ (by decide +kernel)) ggX7_set_X2_push
set_option maxRecDepth 20000 in
theorem ggX7_set_X0_setting : GoodIn wsX7_set wsX0_setting := goodIn_r _ [48, 28, 49, 50, 42, 51, 61, 62, 63, 64, 65, 66, 67, 68, 69, 70, 71] (by decide +kernel) (by decide +kernel)
set_option maxRecDepth 20000 in
theorem gX7_set_X0_setting : GoodIn wsX7_set (wsV RX7 116 RX0 yX0_setting wsX0_setting) := goodIn_app (goodIn_of _ (by decide +kernel)) ggX7_set_X0_setting
set_option maxRecDepth 20000 in
theorem ggX7_set_X4_put : GoodIn wsX7_set wsX4_put := goodIn_r _ [54] (by decide +kernel) (by decide +kernel)
set_option maxRecDepth 20000 in
theorem gX7_set_X4_put : GoodIn wsX7_set (va_wsS RX7 123 yX4_put wsX4_put) := goodIn_app (goodIn_of _ (by decide +kernel)) ggX7_set_X4_put
theorem dX7_set_0 : decode cX7_set 0 = .ok (.iload_n 1, 1) := by decide +kernel
theorem dX7_set_1 : decode cX7_set 1 = .ok (.invokestatic 113, 3) := by decide +kernel
theorem dX7_set_4 : decode cX7_set 4 = .ok (.ifCond .eq 22, 3) := by decide +kernel
theorem dX7_set_7 : decode cX7_set 7 = .ok (.iload_n 2, 1) := by decide +kernel
theorem dX7_set_8 : decode cX7_set 8 = .ok (.bipush 9, 2) := by decide +kernel
theorem dX7_set_10 : decode cX7_set 10 = .ok (.if_icmp .gt 16, 3) := by decide +kernel
theorem dX7_set_13 : decode cX7_set 13 = .ok (.iload_n 2, 1) := by decide +kernel
theorem dX7_set_14 : decode cX7_set 14 = .ok (.iload_n 1, 1) := by decide +kernel
theorem dX7_set_15 : decode cX7_set 15 = .ok (.ifCond .ne 7, 3) := by decide +kernel
theorem dX7_set_18 : decode cX7_set 18 = .ok (.iconst 1, 1) := by decide +kernel
theorem dX7_set_19 : decode cX7_set 19 = .ok (.goto 4, 3) := by decide +kernel
theorem dX7_set_22 : decode cX7_set 22 = .ok (.iconst 0, 1) := by decide +kernel
theorem dX7_set_23 : decode cX7_set 23 = .ok (.if_icmp .ge 7, 3) := by decide +kernel
theorem dX7_set_26 : decode cX7_set 26 = .ok (.sipush (-1001), 3) := by decide +kernel
theorem dX7_set_29 : decode cX7_set 29 = .ok (.ireturn, 1) := by decide +kernel
theorem dX7_set_30 : decode cX7_set 30 = .ok (.aload_n 0, 1) := by decide +kernel
theorem dX7_set_31 : decode cX7_set 31 = .ok (.getfield 22, 3) := by decide +kernel
theorem dX7_set_34 : decode cX7_set 34 = .ok (.aload_n 0, 1) := by decide +kernel
theorem dX7_set_35 : decode cX7_set 35 = .ok (.getfield 10, 3) := by decide +kernel
theorem dX7_set_38 : decode cX7_set 38 = .ok (.invokevirtual 61, 3) := by decide +kernel
theorem dX7_set_41 : decode cX7_set 41 = .ok (.aload_n 0, 1) := by decide +kernel
theorem dX7_set_42 : decode cX7_set 42 = .ok (.getfield 10, 3) := by decide +kernel
theorem dX7_set_45 : decode cX7_set 45 = .ok (.iload_n 1, 1) := by decide +kernel
theorem dX7_set_46 : decode cX7_set 46 = .ok (.invokevirtual 116, 3) := by decide +kernel
theorem dX7_set_49 : decode cX7_set 49 = .ok (.istore_n 3, 1) := by decide +kernel
theorem dX7_set_50 : decode cX7_set 50 = .ok (.aload_n 0, 1) := by decide +kernel
theorem dX7_set_51 : decode cX7_set 51 = .ok (.getfield 10, 3) := by decide +kernel
theorem dX7_set_54 : decode cX7_set 54 = .ok (.getfield 119, 3) := by decide +kernel
theorem dX7_set_57 : decode cX7_set 57 = .ok (.iload_n 1, 1) := by decide +kernel
theorem dX7_set_58 : decode cX7_set 58 = .ok (.iload_n 2, 1) := by decide +kernel
theorem dX7_set_59 : decode cX7_set 59 = .ok (.invokestatic 123, 3) := by decide +kernel
theorem dX7_set_62 : decode cX7_set 62 = .ok (.iload_n 3, 1) := by decide +kernel
theorem dX7_set_63 : decode cX7_set 63 = .ok (.ireturn, 1) := by decide +kernel
set_option maxRecDepth 20000 in
theorem ggX7_letterOf_X7_isLetter : GoodIn wsX7_letterOf wsX7_isLetter := goodIn_r _ [5] (by decide +kernel) (by decide +kernel)
set_option maxRecDepth 20000 in
theorem gX7_letterOf_X7_isLetter : GoodIn wsX7_letterOf (va_wsS RX7 44 yX7_isLetter wsX7_isLetter) := goodIn_app (goodIn_of _ (by decide +kernel)) ggX7_letterOf_X7_isLetter
set_option maxRecDepth 20000 in
theorem ggX7_letterOf_X0_timesWanted : GoodIn wsX7_letterOf wsX0_timesWanted := goodIn_r _ [10, 11, 12, 13, 14, 9, 15, 16, 17, 18, 19, 20, 21, 58, 59, 60, 61, 62, 63, 64, 65, 66, 67, 68] (by decide +kernel) (by decide +kernel)
set_option maxRecDepth 20000 in
theorem gX7_letterOf_X0_timesWanted : GoodIn wsX7_letterOf (wsV RX7 129 RX0 yX0_timesWanted wsX0_timesWanted) := goodIn_app (goodIn_of _ (by decide +kernel)) ggX7_letterOf_X0_timesWanted
set_option maxRecDepth 20000 in
theorem ggX7_letterOf_X3_has : GoodIn wsX7_letterOf wsX3_has := goodIn_r _ [26, 27, 28, 29, 25, 30, 31, 69] (by decide +kernel) (by decide +kernel)
set_option maxRecDepth 20000 in
theorem gX7_letterOf_X3_has : GoodIn wsX7_letterOf (wsV RX7 132 RX3 yX3_has wsX3_has) := goodIn_app (goodIn_of _ (by decide +kernel)) ggX7_letterOf_X3_has
set_option maxRecDepth 20000 in
theorem ggX7_letterOf_X3_signFor : GoodIn wsX7_letterOf wsX3_signFor := goodIn_r _ [30, 31, 69] (by decide +kernel) (by decide +kernel)
set_option maxRecDepth 20000 in
theorem gX7_letterOf_X3_signFor : GoodIn wsX7_letterOf (wsV RX7 65 RX3 yX3_signFor wsX3_signFor) := goodIn_app (goodIn_of _ (by decide +kernel)) ggX7_letterOf_X3_signFor
set_option maxRecDepth 20000 in
theorem ggX7_letterOf_X6_turn : GoodIn wsX7_letterOf wsX6_turn := goodIn_r _ [36] (by decide +kernel) (by decide +kernel)
set_option maxRecDepth 20000 in
theorem gX7_letterOf_X6_turn : GoodIn wsX7_letterOf (va_wsS RX7 135 yX6_turn wsX6_turn) := goodIn_app (goodIn_of _ (by decide +kernel)) ggX7_letterOf_X6_turn
set_option maxRecDepth 20000 in
theorem ggX7_letterOf_J6_bitCount_0f7a4 : GoodIn wsX7_letterOf wsJ6_bitCount_0f7a4 := goodIn_r _ [40, 41, 42, 43] (by decide +kernel) (by decide +kernel)
set_option maxRecDepth 20000 in
theorem gX7_letterOf_J6_bitCount_0f7a4 : GoodIn wsX7_letterOf (va_wsS RX7 140 yJ6_bitCount_0f7a4 wsJ6_bitCount_0f7a4) := goodIn_app (goodIn_of _ (by decide +kernel)) ggX7_letterOf_J6_bitCount_0f7a4
set_option maxRecDepth 20000 in
theorem ggX7_letterOf_X3_nearest : GoodIn wsX7_letterOf wsX3_nearest := goodIn_r _ [47, 31, 48, 38, 39, 40, 41, 42, 43, 69] (by decide +kernel) (by decide +kernel)
set_option maxRecDepth 20000 in
theorem gX7_letterOf_X3_nearest : GoodIn wsX7_letterOf (wsV RX7 145 RX3 yX3_nearest wsX3_nearest) := goodIn_app (goodIn_of _ (by decide +kernel)) ggX7_letterOf_X3_nearest
set_option maxRecDepth 20000 in
theorem ggX7_letterOf_X7_foundOrNot : GoodIn wsX7_letterOf wsX7_foundOrNot := goodIn_r _ [51] (by decide +kernel) (by decide +kernel)
set_option maxRecDepth 20000 in
theorem gX7_letterOf_X7_foundOrNot : GoodIn wsX7_letterOf (va_wsS RX7 149 yX7_foundOrNot wsX7_foundOrNot) := goodIn_app (goodIn_of _ (by decide +kernel)) ggX7_letterOf_X7_foundOrNot
theorem dX7_letterOf_0 : decode cX7_letterOf 0 = .ok (.iload_n 1, 1) := by decide +kernel
theorem dX7_letterOf_1 : decode cX7_letterOf 1 = .ok (.invokestatic 44, 3) := by decide +kernel
theorem dX7_letterOf_4 : decode cX7_letterOf 4 = .ok (.ifCond .eq 12, 3) := by decide +kernel
theorem dX7_letterOf_7 : decode cX7_letterOf 7 = .ok (.iload_n 2, 1) := by decide +kernel
theorem dX7_letterOf_8 : decode cX7_letterOf 8 = .ok (.ifCond .lt 8, 3) := by decide +kernel
theorem dX7_letterOf_11 : decode cX7_letterOf 11 = .ok (.iload_n 2, 1) := by decide +kernel
theorem dX7_letterOf_12 : decode cX7_letterOf 12 = .ok (.iconst 5, 1) := by decide +kernel
theorem dX7_letterOf_13 : decode cX7_letterOf 13 = .ok (.if_icmp .le 7, 3) := by decide +kernel
theorem dX7_letterOf_16 : decode cX7_letterOf 16 = .ok (.sipush (-1001), 3) := by decide +kernel
theorem dX7_letterOf_19 : decode cX7_letterOf 19 = .ok (.ireturn, 1) := by decide +kernel
theorem dX7_letterOf_20 : decode cX7_letterOf 20 = .ok (.iload_n 2, 1) := by decide +kernel
theorem dX7_letterOf_21 : decode cX7_letterOf 21 = .ok (.iconst 5, 1) := by decide +kernel
theorem dX7_letterOf_22 : decode cX7_letterOf 22 = .ok (.if_icmp .ne 12, 3) := by decide +kernel
theorem dX7_letterOf_25 : decode cX7_letterOf 25 = .ok (.aload_n 0, 1) := by decide +kernel
theorem dX7_letterOf_26 : decode cX7_letterOf 26 = .ok (.getfield 10, 3) := by decide +kernel
theorem dX7_letterOf_29 : decode cX7_letterOf 29 = .ok (.iload_n 1, 1) := by decide +kernel
theorem dX7_letterOf_30 : decode cX7_letterOf 30 = .ok (.invokevirtual 129, 3) := by decide +kernel
theorem dX7_letterOf_33 : decode cX7_letterOf 33 = .ok (.ireturn, 1) := by decide +kernel
theorem dX7_letterOf_34 : decode cX7_letterOf 34 = .ok (.aload_n 0, 1) := by decide +kernel
theorem dX7_letterOf_35 : decode cX7_letterOf 35 = .ok (.getfield 10, 3) := by decide +kernel
theorem dX7_letterOf_38 : decode cX7_letterOf 38 = .ok (.getfield 51, 3) := by decide +kernel
theorem dX7_letterOf_41 : decode cX7_letterOf 41 = .ok (.iload_n 1, 1) := by decide +kernel
theorem dX7_letterOf_42 : decode cX7_letterOf 42 = .ok (.invokevirtual 132, 3) := by decide +kernel
theorem dX7_letterOf_45 : decode cX7_letterOf 45 = .ok (.ifCond .ne 7, 3) := by decide +kernel
theorem dX7_letterOf_48 : decode cX7_letterOf 48 = .ok (.sipush (-1004), 3) := by decide +kernel
theorem dX7_letterOf_51 : decode cX7_letterOf 51 = .ok (.ireturn, 1) := by decide +kernel
theorem dX7_letterOf_52 : decode cX7_letterOf 52 = .ok (.aload_n 0, 1) := by decide +kernel
theorem dX7_letterOf_53 : decode cX7_letterOf 53 = .ok (.getfield 10, 3) := by decide +kernel
theorem dX7_letterOf_56 : decode cX7_letterOf 56 = .ok (.getfield 51, 3) := by decide +kernel
theorem dX7_letterOf_59 : decode cX7_letterOf 59 = .ok (.iload_n 1, 1) := by decide +kernel
theorem dX7_letterOf_60 : decode cX7_letterOf 60 = .ok (.invokevirtual 65, 3) := by decide +kernel
theorem dX7_letterOf_63 : decode cX7_letterOf 63 = .ok (.istore_n 3, 1) := by decide +kernel
theorem dX7_letterOf_64 : decode cX7_letterOf 64 = .ok (.iload_n 2, 1) := by decide +kernel
theorem dX7_letterOf_65 : decode cX7_letterOf 65 = .ok (.tableswitch 62 0 3 #[31, 33, 38, 43], 31) := by decide +kernel
theorem dX7_letterOf_96 : decode cX7_letterOf 96 = .ok (.iload_n 3, 1) := by decide +kernel
theorem dX7_letterOf_97 : decode cX7_letterOf 97 = .ok (.ireturn, 1) := by decide +kernel
theorem dX7_letterOf_98 : decode cX7_letterOf 98 = .ok (.iload_n 3, 1) := by decide +kernel
theorem dX7_letterOf_99 : decode cX7_letterOf 99 = .ok (.invokestatic 135, 3) := by decide +kernel
theorem dX7_letterOf_102 : decode cX7_letterOf 102 = .ok (.ireturn, 1) := by decide +kernel
theorem dX7_letterOf_103 : decode cX7_letterOf 103 = .ok (.iload_n 3, 1) := by decide +kernel
theorem dX7_letterOf_104 : decode cX7_letterOf 104 = .ok (.invokestatic 140, 3) := by decide +kernel
theorem dX7_letterOf_107 : decode cX7_letterOf 107 = .ok (.ireturn, 1) := by decide +kernel
theorem dX7_letterOf_108 : decode cX7_letterOf 108 = .ok (.aload_n 0, 1) := by decide +kernel
theorem dX7_letterOf_109 : decode cX7_letterOf 109 = .ok (.getfield 10, 3) := by decide +kernel
theorem dX7_letterOf_112 : decode cX7_letterOf 112 = .ok (.getfield 51, 3) := by decide +kernel
theorem dX7_letterOf_115 : decode cX7_letterOf 115 = .ok (.iload_n 3, 1) := by decide +kernel
theorem dX7_letterOf_116 : decode cX7_letterOf 116 = .ok (.invokestatic 135, 3) := by decide +kernel
theorem dX7_letterOf_119 : decode cX7_letterOf 119 = .ok (.iconst (-1), 1) := by decide +kernel
theorem dX7_letterOf_120 : decode cX7_letterOf 120 = .ok (.invokevirtual 145, 3) := by decide +kernel
theorem dX7_letterOf_123 : decode cX7_letterOf 123 = .ok (.invokestatic 149, 3) := by decide +kernel
theorem dX7_letterOf_126 : decode cX7_letterOf 126 = .ok (.ireturn, 1) := by decide +kernel
theorem dX7_letterOf_127 : decode cX7_letterOf 127 = .ok (.aload_n 0, 1) := by decide +kernel
theorem dX7_letterOf_128 : decode cX7_letterOf 128 = .ok (.getfield 10, 3) := by decide +kernel
theorem dX7_letterOf_131 : decode cX7_letterOf 131 = .ok (.getfield 51, 3) := by decide +kernel
theorem dX7_letterOf_134 : decode cX7_letterOf 134 = .ok (.iload_n 3, 1) := by decide +kernel
theorem dX7_letterOf_135 : decode cX7_letterOf 135 = .ok (.iload_n 1, 1) := by decide +kernel
theorem dX7_letterOf_136 : decode cX7_letterOf 136 = .ok (.invokevirtual 145, 3) := by decide +kernel
theorem dX7_letterOf_139 : decode cX7_letterOf 139 = .ok (.invokestatic 149, 3) := by decide +kernel
theorem dX7_letterOf_142 : decode cX7_letterOf 142 = .ok (.ireturn, 1) := by decide +kernel
set_option maxRecDepth 20000 in
theorem ggX7_placeOf_X0_hasPlace : GoodIn wsX7_placeOf wsX0_hasPlace := goodIn_r _ [6, 7, 98, 99, 100, 101, 102, 103, 104, 105, 106, 107, 108] (by decide +kernel) (by decide +kernel)
set_option maxRecDepth 20000 in
theorem gX7_placeOf_X0_hasPlace : GoodIn wsX7_placeOf (wsV RX7 72 RX0 yX0_hasPlace wsX0_hasPlace) := goodIn_app (goodIn_of _ (by decide +kernel)) ggX7_placeOf_X0_hasPlace
set_option maxRecDepth 20000 in
theorem ggX7_placeOf_X0_signAt : GoodIn wsX7_placeOf wsX0_signAt := goodIn_r _ [11, 12, 13, 14, 15, 16, 98, 99, 100, 101, 102, 103, 104, 105, 106, 107, 108] (by decide +kernel) (by decide +kernel)
set_option maxRecDepth 20000 in
theorem gX7_placeOf_X0_signAt : GoodIn wsX7_placeOf (wsV RX7 75 RX0 yX0_signAt wsX0_signAt) := goodIn_app (goodIn_of _ (by decide +kernel)) ggX7_placeOf_X0_signAt
set_option maxRecDepth 20000 in
theorem ggX7_placeOf_X0_coatsAt : GoodIn wsX7_placeOf wsX0_coatsAt := goodIn_r _ [20, 21, 13, 14, 15, 16, 98, 99, 100, 101, 102, 103, 104, 105, 106, 107, 108] (by decide +kernel) (by decide +kernel)
set_option maxRecDepth 20000 in
theorem gX7_placeOf_X0_coatsAt : GoodIn wsX7_placeOf (wsV RX7 91 RX0 yX0_coatsAt wsX0_coatsAt) := goodIn_app (goodIn_of _ (by decide +kernel)) ggX7_placeOf_X0_coatsAt
set_option maxRecDepth 20000 in
theorem ggX7_placeOf_X0_readAt : GoodIn wsX7_placeOf wsX0_readAt := goodIn_r _ [25, 26, 27, 18, 19, 5, 20, 21, 13, 14, 15, 16, 28, 9, 10, 11, 12, 29, 30, 31, 32, 33, 34, 35, 36, 37, 38, 39, 40, 41, 42, 43, 44, 45, 46, 47, 48, 98, 99, 100, 101, 102, 103, 104, 105, 106, 107, 108, 109] (by decide +kernel) (by decide +kernel)
set_option maxRecDepth 20000 in
theorem gX7_placeOf_X0_readAt : GoodIn wsX7_placeOf (wsV RX7 152 RX0 yX0_readAt wsX0_readAt) := goodIn_app (goodIn_of _ (by decide +kernel)) ggX7_placeOf_X0_readAt
set_option maxRecDepth 20000 in
theorem ggX7_placeOf_X7_foundOrNot : GoodIn wsX7_placeOf wsX7_foundOrNot := goodIn_r _ [52] (by decide +kernel) (by decide +kernel)
set_option maxRecDepth 20000 in
theorem gX7_placeOf_X7_foundOrNot : GoodIn wsX7_placeOf (va_wsS RX7 149 yX7_foundOrNot wsX7_foundOrNot) := goodIn_app (goodIn_of _ (by decide +kernel)) ggX7_placeOf_X7_foundOrNot
set_option maxRecDepth 20000 in
theorem ggX7_placeOf_X0_wantedAt : GoodIn wsX7_placeOf wsX0_wantedAt := goodIn_r _ [56, 57, 58, 59, 5, 60, 7, 61, 62, 63, 64, 65, 66, 13, 14, 15, 16, 98, 99, 100, 101, 102, 103, 104, 105, 106, 107, 108] (by decide +kernel) (by decide +kernel)
set_option maxRecDepth 20000 in
theorem gX7_placeOf_X0_wantedAt : GoodIn wsX7_placeOf (wsV RX7 155 RX0 yX0_wantedAt wsX0_wantedAt) := goodIn_app (goodIn_of _ (by decide +kernel)) ggX7_placeOf_X0_wantedAt
set_option maxRecDepth 20000 in
theorem ggX7_placeOf_X7_marginOrNot : GoodIn wsX7_placeOf wsX7_marginOrNot := goodIn_r _ [70, 1, 53, 54, 55, 5, 56, 57, 58, 59, 60, 7, 61, 62, 63, 64, 65, 66, 13, 14, 15, 16, 71, 72, 73, 39, 74, 75, 76, 77, 78, 41, 79, 80, 81, 82, 26, 28, 9, 10, 11, 12, 29, 30, 31, 32, 33, 34, 35, 83, 84, 85, 86, 87, 88, 89, 90, 91, 42, 43, 44, 45, 46, 47, 48, 92, 93, 94, 95, 96, 97, 98, 99, 100, 101, 102, 103, 104, 105, 106, 107, 108, 109] (by decide +kernel) (by decide +kernel)
set_option maxRecDepth 20000 in
theorem gX7_placeOf_X7_marginOrNot : GoodIn wsX7_placeOf (wsV RX7 158 RX7 yX7_marginOrNot wsX7_marginOrNot) := goodIn_app (goodIn_of _ (by decide +kernel)) ggX7_placeOf_X7_marginOrNot
theorem dX7_placeOf_0 : decode cX7_placeOf 0 = .ok (.aload_n 0, 1) := by decide +kernel
theorem dX7_placeOf_1 : decode cX7_placeOf 1 = .ok (.getfield 10, 3) := by decide +kernel
theorem dX7_placeOf_4 : decode cX7_placeOf 4 = .ok (.iload_n 1, 1) := by decide +kernel
theorem dX7_placeOf_5 : decode cX7_placeOf 5 = .ok (.invokevirtual 72, 3) := by decide +kernel
theorem dX7_placeOf_8 : decode cX7_placeOf 8 = .ok (.ifCond .ne 7, 3) := by decide +kernel
theorem dX7_placeOf_11 : decode cX7_placeOf 11 = .ok (.sipush (-1001), 3) := by decide +kernel
theorem dX7_placeOf_14 : decode cX7_placeOf 14 = .ok (.ireturn, 1) := by decide +kernel
theorem dX7_placeOf_15 : decode cX7_placeOf 15 = .ok (.iload_n 2, 1) := by decide +kernel
theorem dX7_placeOf_16 : decode cX7_placeOf 16 = .ok (.tableswitch 126 0 7 #[48, 57, 66, 79, 92, 102, 112, 119], 48) := by decide +kernel
theorem dX7_placeOf_64 : decode cX7_placeOf 64 = .ok (.aload_n 0, 1) := by decide +kernel
theorem dX7_placeOf_65 : decode cX7_placeOf 65 = .ok (.getfield 10, 3) := by decide +kernel
theorem dX7_placeOf_68 : decode cX7_placeOf 68 = .ok (.iload_n 1, 1) := by decide +kernel
theorem dX7_placeOf_69 : decode cX7_placeOf 69 = .ok (.invokevirtual 75, 3) := by decide +kernel
theorem dX7_placeOf_72 : decode cX7_placeOf 72 = .ok (.ireturn, 1) := by decide +kernel
theorem dX7_placeOf_73 : decode cX7_placeOf 73 = .ok (.aload_n 0, 1) := by decide +kernel
theorem dX7_placeOf_74 : decode cX7_placeOf 74 = .ok (.getfield 10, 3) := by decide +kernel
theorem dX7_placeOf_77 : decode cX7_placeOf 77 = .ok (.iload_n 1, 1) := by decide +kernel
theorem dX7_placeOf_78 : decode cX7_placeOf 78 = .ok (.invokevirtual 91, 3) := by decide +kernel
theorem dX7_placeOf_81 : decode cX7_placeOf 81 = .ok (.ireturn, 1) := by decide +kernel
theorem dX7_placeOf_82 : decode cX7_placeOf 82 = .ok (.aload_n 0, 1) := by decide +kernel
theorem dX7_placeOf_83 : decode cX7_placeOf 83 = .ok (.getfield 10, 3) := by decide +kernel
theorem dX7_placeOf_86 : decode cX7_placeOf 86 = .ok (.iload_n 1, 1) := by decide +kernel
theorem dX7_placeOf_87 : decode cX7_placeOf 87 = .ok (.iconst 0, 1) := by decide +kernel
theorem dX7_placeOf_88 : decode cX7_placeOf 88 = .ok (.invokevirtual 152, 3) := by decide +kernel
theorem dX7_placeOf_91 : decode cX7_placeOf 91 = .ok (.invokestatic 149, 3) := by decide +kernel
theorem dX7_placeOf_94 : decode cX7_placeOf 94 = .ok (.ireturn, 1) := by decide +kernel
theorem dX7_placeOf_95 : decode cX7_placeOf 95 = .ok (.aload_n 0, 1) := by decide +kernel
theorem dX7_placeOf_96 : decode cX7_placeOf 96 = .ok (.getfield 10, 3) := by decide +kernel
theorem dX7_placeOf_99 : decode cX7_placeOf 99 = .ok (.iload_n 1, 1) := by decide +kernel
theorem dX7_placeOf_100 : decode cX7_placeOf 100 = .ok (.iconst 1, 1) := by decide +kernel
theorem dX7_placeOf_101 : decode cX7_placeOf 101 = .ok (.invokevirtual 152, 3) := by decide +kernel
theorem dX7_placeOf_104 : decode cX7_placeOf 104 = .ok (.invokestatic 149, 3) := by decide +kernel
theorem dX7_placeOf_107 : decode cX7_placeOf 107 = .ok (.ireturn, 1) := by decide +kernel
theorem dX7_placeOf_108 : decode cX7_placeOf 108 = .ok (.aload_n 0, 1) := by decide +kernel
theorem dX7_placeOf_109 : decode cX7_placeOf 109 = .ok (.getfield 10, 3) := by decide +kernel
theorem dX7_placeOf_112 : decode cX7_placeOf 112 = .ok (.iload_n 1, 1) := by decide +kernel
theorem dX7_placeOf_113 : decode cX7_placeOf 113 = .ok (.iconst 0, 1) := by decide +kernel
theorem dX7_placeOf_114 : decode cX7_placeOf 114 = .ok (.invokevirtual 155, 3) := by decide +kernel
theorem dX7_placeOf_117 : decode cX7_placeOf 117 = .ok (.ireturn, 1) := by decide +kernel
theorem dX7_placeOf_118 : decode cX7_placeOf 118 = .ok (.aload_n 0, 1) := by decide +kernel
theorem dX7_placeOf_119 : decode cX7_placeOf 119 = .ok (.getfield 10, 3) := by decide +kernel
theorem dX7_placeOf_122 : decode cX7_placeOf 122 = .ok (.iload_n 1, 1) := by decide +kernel
theorem dX7_placeOf_123 : decode cX7_placeOf 123 = .ok (.iconst 1, 1) := by decide +kernel
theorem dX7_placeOf_124 : decode cX7_placeOf 124 = .ok (.invokevirtual 155, 3) := by decide +kernel
theorem dX7_placeOf_127 : decode cX7_placeOf 127 = .ok (.ireturn, 1) := by decide +kernel
theorem dX7_placeOf_128 : decode cX7_placeOf 128 = .ok (.aload_n 0, 1) := by decide +kernel
theorem dX7_placeOf_129 : decode cX7_placeOf 129 = .ok (.iload_n 1, 1) := by decide +kernel
theorem dX7_placeOf_130 : decode cX7_placeOf 130 = .ok (.iconst 0, 1) := by decide +kernel
theorem dX7_placeOf_131 : decode cX7_placeOf 131 = .ok (.invokevirtual 158, 3) := by decide +kernel
theorem dX7_placeOf_134 : decode cX7_placeOf 134 = .ok (.ireturn, 1) := by decide +kernel
theorem dX7_placeOf_135 : decode cX7_placeOf 135 = .ok (.aload_n 0, 1) := by decide +kernel
theorem dX7_placeOf_136 : decode cX7_placeOf 136 = .ok (.iload_n 1, 1) := by decide +kernel
theorem dX7_placeOf_137 : decode cX7_placeOf 137 = .ok (.iconst 1, 1) := by decide +kernel
theorem dX7_placeOf_138 : decode cX7_placeOf 138 = .ok (.invokevirtual 158, 3) := by decide +kernel
theorem dX7_placeOf_141 : decode cX7_placeOf 141 = .ok (.ireturn, 1) := by decide +kernel
theorem dX7_placeOf_142 : decode cX7_placeOf 142 = .ok (.sipush (-1001), 3) := by decide +kernel
theorem dX7_placeOf_145 : decode cX7_placeOf 145 = .ok (.ireturn, 1) := by decide +kernel
set_option maxRecDepth 20000 in
theorem ggX7_reads_X7_isOneOfTwo : GoodIn wsX7_reads wsX7_isOneOfTwo := goodIn_r _ [5] (by decide +kernel) (by decide +kernel)
set_option maxRecDepth 20000 in
theorem gX7_reads_X7_isOneOfTwo : GoodIn wsX7_reads (va_wsS RX7 113 yX7_isOneOfTwo wsX7_isOneOfTwo) := goodIn_app (goodIn_of _ (by decide +kernel)) ggX7_reads_X7_isOneOfTwo
set_option maxRecDepth 20000 in
theorem ggX7_reads_X0_way : GoodIn wsX7_reads wsX0_way := goodIn_r _ [10, 11, 68, 69, 70, 71, 72, 73, 74, 75, 76, 77, 78] (by decide +kernel) (by decide +kernel)
set_option maxRecDepth 20000 in
theorem gX7_reads_X0_way : GoodIn wsX7_reads (wsV RX7 161 RX0 yX0_way wsX0_way) := goodIn_app (goodIn_of _ (by decide +kernel)) ggX7_reads_X0_way
set_option maxRecDepth 20000 in
theorem ggX7_reads_X7_otherWay : GoodIn wsX7_reads wsX7_otherWay := goodIn_r _ [14] (by decide +kernel) (by decide +kernel)
set_option maxRecDepth 20000 in
theorem gX7_reads_X7_otherWay : GoodIn wsX7_reads (va_wsS RX7 164 yX7_otherWay wsX7_otherWay) := goodIn_app (goodIn_of _ (by decide +kernel)) ggX7_reads_X7_otherWay
set_option maxRecDepth 20000 in
theorem ggX7_reads_X0_fromLeft : GoodIn wsX7_reads wsX0_fromLeft := goodIn_r _ [18, 19, 68, 69, 70, 71, 72, 73, 74, 75, 76, 77, 78] (by decide +kernel) (by decide +kernel)
set_option maxRecDepth 20000 in
theorem gX7_reads_X0_fromLeft : GoodIn wsX7_reads (wsV RX7 167 RX0 yX0_fromLeft wsX0_fromLeft) := goodIn_app (goodIn_of _ (by decide +kernel)) ggX7_reads_X0_fromLeft
set_option maxRecDepth 20000 in
theorem ggX7_reads_X0_readAt : GoodIn wsX7_reads wsX0_readAt := goodIn_r _ [23, 24, 25, 26, 27, 9, 28, 29, 30, 31, 32, 33, 34, 35, 36, 37, 38, 39, 40, 41, 42, 43, 44, 45, 46, 47, 48, 49, 50, 51, 52, 53, 54, 55, 56, 57, 58, 68, 69, 70, 71, 72, 73, 74, 75, 76, 77, 78, 79] (by decide +kernel) (by decide +kernel)
set_option maxRecDepth 20000 in
theorem gX7_reads_X0_readAt : GoodIn wsX7_reads (wsV RX7 152 RX0 yX0_readAt wsX0_readAt) := goodIn_app (goodIn_of _ (by decide +kernel)) ggX7_reads_X0_readAt
set_option maxRecDepth 20000 in
theorem ggX7_reads_X7_foundOrNot : GoodIn wsX7_reads wsX7_foundOrNot := goodIn_r _ [61] (by decide +kernel) (by decide +kernel)
set_option maxRecDepth 20000 in
theorem gX7_reads_X7_foundOrNot : GoodIn wsX7_reads (va_wsS RX7 149 yX7_foundOrNot wsX7_foundOrNot) := goodIn_app (goodIn_of _ (by decide +kernel)) ggX7_reads_X7_foundOrNot
theorem dX7_reads_0 : decode cX7_reads 0 = .ok (.iload_n 1, 1) := by decide +kernel
theorem dX7_reads_1 : decode cX7_reads 1 = .ok (.invokestatic 113, 3) := by decide +kernel
theorem dX7_reads_4 : decode cX7_reads 4 = .ok (.ifCond .eq 7, 3) := by decide +kernel
theorem dX7_reads_7 : decode cX7_reads 7 = .ok (.iload_n 2, 1) := by decide +kernel
theorem dX7_reads_8 : decode cX7_reads 8 = .ok (.ifCond .ge 7, 3) := by decide +kernel
theorem dX7_reads_11 : decode cX7_reads 11 = .ok (.sipush (-1001), 3) := by decide +kernel
theorem dX7_reads_14 : decode cX7_reads 14 = .ok (.ireturn, 1) := by decide +kernel
theorem dX7_reads_15 : decode cX7_reads 15 = .ok (.iload_n 2, 1) := by decide +kernel
theorem dX7_reads_16 : decode cX7_reads 16 = .ok (.aload_n 0, 1) := by decide +kernel
theorem dX7_reads_17 : decode cX7_reads 17 = .ok (.getfield 10, 3) := by decide +kernel
theorem dX7_reads_20 : decode cX7_reads 20 = .ok (.getfield 88, 3) := by decide +kernel
theorem dX7_reads_23 : decode cX7_reads 23 = .ok (.if_icmp .lt 7, 3) := by decide +kernel
theorem dX7_reads_26 : decode cX7_reads 26 = .ok (.sipush (-1004), 3) := by decide +kernel
theorem dX7_reads_29 : decode cX7_reads 29 = .ok (.ireturn, 1) := by decide +kernel
theorem dX7_reads_30 : decode cX7_reads 30 = .ok (.iload_n 1, 1) := by decide +kernel
theorem dX7_reads_31 : decode cX7_reads 31 = .ok (.ifCond .ne 13, 3) := by decide +kernel
theorem dX7_reads_34 : decode cX7_reads 34 = .ok (.aload_n 0, 1) := by decide +kernel
theorem dX7_reads_35 : decode cX7_reads 35 = .ok (.getfield 10, 3) := by decide +kernel
theorem dX7_reads_38 : decode cX7_reads 38 = .ok (.invokevirtual 161, 3) := by decide +kernel
theorem dX7_reads_41 : decode cX7_reads 41 = .ok (.goto 13, 3) := by decide +kernel
theorem dX7_reads_44 : decode cX7_reads 44 = .ok (.aload_n 0, 1) := by decide +kernel
theorem dX7_reads_45 : decode cX7_reads 45 = .ok (.getfield 10, 3) := by decide +kernel
theorem dX7_reads_48 : decode cX7_reads 48 = .ok (.invokevirtual 161, 3) := by decide +kernel
theorem dX7_reads_51 : decode cX7_reads 51 = .ok (.invokestatic 164, 3) := by decide +kernel
theorem dX7_reads_54 : decode cX7_reads 54 = .ok (.istore_n 3, 1) := by decide +kernel
theorem dX7_reads_55 : decode cX7_reads 55 = .ok (.aload_n 0, 1) := by decide +kernel
theorem dX7_reads_56 : decode cX7_reads 56 = .ok (.getfield 10, 3) := by decide +kernel
theorem dX7_reads_59 : decode cX7_reads 59 = .ok (.aload_n 0, 1) := by decide +kernel
theorem dX7_reads_60 : decode cX7_reads 60 = .ok (.getfield 10, 3) := by decide +kernel
theorem dX7_reads_63 : decode cX7_reads 63 = .ok (.iload_n 2, 1) := by decide +kernel
theorem dX7_reads_64 : decode cX7_reads 64 = .ok (.iload_n 3, 1) := by decide +kernel
theorem dX7_reads_65 : decode cX7_reads 65 = .ok (.invokevirtual 167, 3) := by decide +kernel
theorem dX7_reads_68 : decode cX7_reads 68 = .ok (.iload_n 3, 1) := by decide +kernel
theorem dX7_reads_69 : decode cX7_reads 69 = .ok (.invokevirtual 152, 3) := by decide +kernel
theorem dX7_reads_72 : decode cX7_reads 72 = .ok (.invokestatic 149, 3) := by decide +kernel
theorem dX7_reads_75 : decode cX7_reads 75 = .ok (.ireturn, 1) := by decide +kernel
set_option maxRecDepth 20000 in
theorem ggX7_word_X7_isOneOfTwo : GoodIn wsX7_word wsX7_isOneOfTwo := goodIn_r _ [5] (by decide +kernel) (by decide +kernel)
set_option maxRecDepth 20000 in
theorem gX7_word_X7_isOneOfTwo : GoodIn wsX7_word (va_wsS RX7 113 yX7_isOneOfTwo wsX7_isOneOfTwo) := goodIn_app (goodIn_of _ (by decide +kernel)) ggX7_word_X7_isOneOfTwo
set_option maxRecDepth 20000 in
theorem ggX7_word_X0_misread : GoodIn wsX7_word wsX0_misread := goodIn_r _ [10, 11, 12, 13, 14, 9, 15, 16, 17, 18, 19, 20, 21, 22, 23, 24, 25, 26, 27, 28, 29, 30, 31, 32, 33, 34, 35, 36, 37, 38, 39, 40, 41, 42, 43, 44, 45, 46, 47, 48, 49, 50, 51, 52, 53, 54, 55, 56, 57, 58, 59, 60, 61, 62, 63, 64, 80, 81, 82, 83, 84, 85, 86, 87, 88, 89, 90, 91] (by decide +kernel) (by decide +kernel)
set_option maxRecDepth 20000 in
theorem gX7_word_X0_misread : GoodIn wsX7_word (wsV RX7 170 RX0 yX0_misread wsX0_misread) := goodIn_app (goodIn_of _ (by decide +kernel)) ggX7_word_X0_misread
set_option maxRecDepth 20000 in
theorem ggX7_word_X7_asNumber : GoodIn wsX7_word wsX7_asNumber := goodIn_r _ [67] (by decide +kernel) (by decide +kernel)
set_option maxRecDepth 20000 in
theorem gX7_word_X7_asNumber : GoodIn wsX7_word (va_wsS RX7 173 yX7_asNumber wsX7_asNumber) := goodIn_app (goodIn_of _ (by decide +kernel)) ggX7_word_X7_asNumber
set_option maxRecDepth 20000 in
theorem ggX7_word_X0_way : GoodIn wsX7_word wsX0_way := goodIn_r _ [71, 72, 80, 81, 82, 83, 84, 85, 86, 87, 88, 89, 90] (by decide +kernel) (by decide +kernel)
set_option maxRecDepth 20000 in
theorem gX7_word_X0_way : GoodIn wsX7_word (wsV RX7 161 RX0 yX0_way wsX0_way) := goodIn_app (goodIn_of _ (by decide +kernel)) ggX7_word_X0_way
set_option maxRecDepth 20000 in
theorem ggX7_word_X0_letterIn : GoodIn wsX7_word wsX0_letterIn := goodIn_r _ [62, 63, 64, 22, 23, 24, 25, 80, 81, 82, 83, 84, 85, 86, 87, 88, 89, 90] (by decide +kernel) (by decide +kernel)
set_option maxRecDepth 20000 in
theorem gX7_word_X0_letterIn : GoodIn wsX7_word (wsV RX7 177 RX0 yX0_letterIn wsX0_letterIn) := goodIn_app (goodIn_of _ (by decide +kernel)) ggX7_word_X0_letterIn
theorem dX7_word_0 : decode cX7_word 0 = .ok (.iload_n 1, 1) := by decide +kernel
theorem dX7_word_1 : decode cX7_word 1 = .ok (.invokestatic 113, 3) := by decide +kernel
theorem dX7_word_4 : decode cX7_word 4 = .ok (.ifCond .ne 7, 3) := by decide +kernel
theorem dX7_word_7 : decode cX7_word 7 = .ok (.sipush (-1001), 3) := by decide +kernel
theorem dX7_word_10 : decode cX7_word 10 = .ok (.ireturn, 1) := by decide +kernel
theorem dX7_word_11 : decode cX7_word 11 = .ok (.iload_n 2, 1) := by decide +kernel
theorem dX7_word_12 : decode cX7_word 12 = .ok (.tableswitch 77 0 2 #[28, 48, 57], 28) := by decide +kernel
theorem dX7_word_40 : decode cX7_word 40 = .ok (.aload_n 0, 1) := by decide +kernel
theorem dX7_word_41 : decode cX7_word 41 = .ok (.getfield 10, 3) := by decide +kernel
theorem dX7_word_44 : decode cX7_word 44 = .ok (.iload_n 1, 1) := by decide +kernel
theorem dX7_word_45 : decode cX7_word 45 = .ok (.invokevirtual 170, 3) := by decide +kernel
theorem dX7_word_48 : decode cX7_word 48 = .ok (.ifCond .ne 7, 3) := by decide +kernel
theorem dX7_word_51 : decode cX7_word 51 = .ok (.iconst 1, 1) := by decide +kernel
theorem dX7_word_52 : decode cX7_word 52 = .ok (.goto 4, 3) := by decide +kernel
theorem dX7_word_55 : decode cX7_word 55 = .ok (.iconst 0, 1) := by decide +kernel
theorem dX7_word_56 : decode cX7_word 56 = .ok (.invokestatic 173, 3) := by decide +kernel
theorem dX7_word_59 : decode cX7_word 59 = .ok (.ireturn, 1) := by decide +kernel
theorem dX7_word_60 : decode cX7_word 60 = .ok (.aload_n 0, 1) := by decide +kernel
theorem dX7_word_61 : decode cX7_word 61 = .ok (.getfield 10, 3) := by decide +kernel
theorem dX7_word_64 : decode cX7_word 64 = .ok (.iload_n 1, 1) := by decide +kernel
theorem dX7_word_65 : decode cX7_word 65 = .ok (.invokevirtual 170, 3) := by decide +kernel
theorem dX7_word_68 : decode cX7_word 68 = .ok (.ireturn, 1) := by decide +kernel
theorem dX7_word_69 : decode cX7_word 69 = .ok (.aload_n 0, 1) := by decide +kernel
theorem dX7_word_70 : decode cX7_word 70 = .ok (.getfield 10, 3) := by decide +kernel
theorem dX7_word_73 : decode cX7_word 73 = .ok (.invokevirtual 161, 3) := by decide +kernel
theorem dX7_word_76 : decode cX7_word 76 = .ok (.iload_n 1, 1) := by decide +kernel
theorem dX7_word_77 : decode cX7_word 77 = .ok (.if_icmp .ne 7, 3) := by decide +kernel
theorem dX7_word_80 : decode cX7_word 80 = .ok (.iconst 1, 1) := by decide +kernel
theorem dX7_word_81 : decode cX7_word 81 = .ok (.goto 4, 3) := by decide +kernel
theorem dX7_word_84 : decode cX7_word 84 = .ok (.iconst 0, 1) := by decide +kernel
theorem dX7_word_85 : decode cX7_word 85 = .ok (.invokestatic 173, 3) := by decide +kernel
theorem dX7_word_88 : decode cX7_word 88 = .ok (.ireturn, 1) := by decide +kernel
theorem dX7_word_89 : decode cX7_word 89 = .ok (.iload_n 2, 1) := by decide +kernel
theorem dX7_word_90 : decode cX7_word 90 = .ok (.bipush 10, 2) := by decide +kernel
theorem dX7_word_92 : decode cX7_word 92 = .ok (.if_icmp .lt 17, 3) := by decide +kernel
theorem dX7_word_95 : decode cX7_word 95 = .ok (.iload_n 2, 1) := by decide +kernel
theorem dX7_word_96 : decode cX7_word 96 = .ok (.bipush 10, 2) := by decide +kernel
theorem dX7_word_98 : decode cX7_word 98 = .ok (.isub, 1) := by decide +kernel
theorem dX7_word_99 : decode cX7_word 99 = .ok (.aload_n 0, 1) := by decide +kernel
theorem dX7_word_100 : decode cX7_word 100 = .ok (.getfield 10, 3) := by decide +kernel
theorem dX7_word_103 : decode cX7_word 103 = .ok (.getfield 88, 3) := by decide +kernel
theorem dX7_word_106 : decode cX7_word 106 = .ok (.if_icmp .lt 9, 3) := by decide +kernel
theorem dX7_word_109 : decode cX7_word 109 = .ok (.sipush (-1001), 3) := by decide +kernel
theorem dX7_word_112 : decode cX7_word 112 = .ok (.goto 15, 3) := by decide +kernel
theorem dX7_word_115 : decode cX7_word 115 = .ok (.aload_n 0, 1) := by decide +kernel
theorem dX7_word_116 : decode cX7_word 116 = .ok (.getfield 10, 3) := by decide +kernel
theorem dX7_word_119 : decode cX7_word 119 = .ok (.iload_n 1, 1) := by decide +kernel
theorem dX7_word_120 : decode cX7_word 120 = .ok (.iload_n 2, 1) := by decide +kernel
theorem dX7_word_121 : decode cX7_word 121 = .ok (.bipush 10, 2) := by decide +kernel
theorem dX7_word_123 : decode cX7_word 123 = .ok (.isub, 1) := by decide +kernel
theorem dX7_word_124 : decode cX7_word 124 = .ok (.invokevirtual 177, 3) := by decide +kernel
theorem dX7_word_127 : decode cX7_word 127 = .ok (.ireturn, 1) := by decide +kernel
set_option maxRecDepth 20000 in
theorem ggX7_count_X3_asSet : GoodIn wsX7_count wsX3_asSet := goodIn_r _ [9, 10, 60] (by decide +kernel) (by decide +kernel)
set_option maxRecDepth 20000 in
theorem gX7_count_X3_asSet : GoodIn wsX7_count (wsV RX7 180 RX3 yX3_asSet wsX3_asSet) := goodIn_app (goodIn_of _ (by decide +kernel)) ggX7_count_X3_asSet
set_option maxRecDepth 20000 in
theorem ggX7_count_X7_asNumber : GoodIn wsX7_count wsX7_asNumber := goodIn_r _ [14] (by decide +kernel) (by decide +kernel)
set_option maxRecDepth 20000 in
theorem gX7_count_X7_asNumber : GoodIn wsX7_count (va_wsS RX7 173 yX7_asNumber wsX7_asNumber) := goodIn_app (goodIn_of _ (by decide +kernel)) ggX7_count_X7_asNumber
set_option maxRecDepth 20000 in
theorem ggX7_count_X0_allCoats : GoodIn wsX7_count wsX0_allCoats := goodIn_r _ [19, 20, 21, 22, 23, 18, 24, 25, 26, 27, 28, 29, 45, 46, 47, 48, 49, 50, 51, 52, 53, 54, 55] (by decide +kernel) (by decide +kernel)
set_option maxRecDepth 20000 in
theorem gX7_count_X0_allCoats : GoodIn wsX7_count (wsV RX7 189 RX0 yX0_allCoats wsX0_allCoats) := goodIn_app (goodIn_of _ (by decide +kernel)) ggX7_count_X0_allCoats
set_option maxRecDepth 20000 in
theorem ggX7_count_X0_placesWithCoats : GoodIn wsX7_count wsX0_placesWithCoats := goodIn_r _ [33, 20, 21, 22, 23, 18, 24, 25, 26, 27, 28, 29, 45, 46, 47, 48, 49, 50, 51, 52, 53, 54, 55] (by decide +kernel) (by decide +kernel)
set_option maxRecDepth 20000 in
theorem gX7_count_X0_placesWithCoats : GoodIn wsX7_count (wsV RX7 192 RX0 yX0_placesWithCoats wsX0_placesWithCoats) := goodIn_app (goodIn_of _ (by decide +kernel)) ggX7_count_X0_placesWithCoats
set_option maxRecDepth 20000 in
theorem ggX7_count_X0_setting : GoodIn wsX7_count wsX0_setting := goodIn_r _ [37, 38, 26, 27, 28, 29, 45, 46, 47, 48, 49, 50, 51, 52, 53, 54, 55] (by decide +kernel) (by decide +kernel)
set_option maxRecDepth 20000 in
theorem gX7_count_X0_setting : GoodIn wsX7_count (wsV RX7 116 RX0 yX0_setting wsX0_setting) := goodIn_app (goodIn_of _ (by decide +kernel)) ggX7_count_X0_setting
theorem dX7_count_0 : decode cX7_count 0 = .ok (.iload_n 1, 1) := by decide +kernel
theorem dX7_count_1 : decode cX7_count 1 = .ok (.tableswitch 209 0 21 #[103, 111, 122, 133, 141, 149, 157, 165, 173, 181, 189, 209, 209, 209, 209, 209, 209, 209, 209, 209, 197, 197], 103) := by decide +kernel
theorem dX7_count_104 : decode cX7_count 104 = .ok (.aload_n 0, 1) := by decide +kernel
theorem dX7_count_105 : decode cX7_count 105 = .ok (.getfield 10, 3) := by decide +kernel
theorem dX7_count_108 : decode cX7_count 108 = .ok (.getfield 88, 3) := by decide +kernel
theorem dX7_count_111 : decode cX7_count 111 = .ok (.ireturn, 1) := by decide +kernel
theorem dX7_count_112 : decode cX7_count 112 = .ok (.aload_n 0, 1) := by decide +kernel
theorem dX7_count_113 : decode cX7_count 113 = .ok (.getfield 10, 3) := by decide +kernel
theorem dX7_count_116 : decode cX7_count 116 = .ok (.getfield 51, 3) := by decide +kernel
theorem dX7_count_119 : decode cX7_count 119 = .ok (.invokevirtual 180, 3) := by decide +kernel
theorem dX7_count_122 : decode cX7_count 122 = .ok (.ireturn, 1) := by decide +kernel
theorem dX7_count_123 : decode cX7_count 123 = .ok (.aload_n 0, 1) := by decide +kernel
theorem dX7_count_124 : decode cX7_count 124 = .ok (.getfield 10, 3) := by decide +kernel
theorem dX7_count_127 : decode cX7_count 127 = .ok (.getfield 183, 3) := by decide +kernel
theorem dX7_count_130 : decode cX7_count 130 = .ok (.invokestatic 173, 3) := by decide +kernel
theorem dX7_count_133 : decode cX7_count 133 = .ok (.ireturn, 1) := by decide +kernel
theorem dX7_count_134 : decode cX7_count 134 = .ok (.aload_n 0, 1) := by decide +kernel
theorem dX7_count_135 : decode cX7_count 135 = .ok (.getfield 10, 3) := by decide +kernel
theorem dX7_count_138 : decode cX7_count 138 = .ok (.getfield 100, 3) := by decide +kernel
theorem dX7_count_141 : decode cX7_count 141 = .ok (.ireturn, 1) := by decide +kernel
theorem dX7_count_142 : decode cX7_count 142 = .ok (.aload_n 0, 1) := by decide +kernel
theorem dX7_count_143 : decode cX7_count 143 = .ok (.getfield 10, 3) := by decide +kernel
theorem dX7_count_146 : decode cX7_count 146 = .ok (.getfield 106, 3) := by decide +kernel
theorem dX7_count_149 : decode cX7_count 149 = .ok (.ireturn, 1) := by decide +kernel
theorem dX7_count_150 : decode cX7_count 150 = .ok (.aload_n 0, 1) := by decide +kernel
theorem dX7_count_151 : decode cX7_count 151 = .ok (.getfield 10, 3) := by decide +kernel
theorem dX7_count_154 : decode cX7_count 154 = .ok (.getfield 186, 3) := by decide +kernel
theorem dX7_count_157 : decode cX7_count 157 = .ok (.ireturn, 1) := by decide +kernel
theorem dX7_count_158 : decode cX7_count 158 = .ok (.aload_n 0, 1) := by decide +kernel
theorem dX7_count_159 : decode cX7_count 159 = .ok (.getfield 10, 3) := by decide +kernel
theorem dX7_count_162 : decode cX7_count 162 = .ok (.invokevirtual 189, 3) := by decide +kernel
theorem dX7_count_165 : decode cX7_count 165 = .ok (.ireturn, 1) := by decide +kernel
theorem dX7_count_166 : decode cX7_count 166 = .ok (.aload_n 0, 1) := by decide +kernel
theorem dX7_count_167 : decode cX7_count 167 = .ok (.getfield 10, 3) := by decide +kernel
theorem dX7_count_170 : decode cX7_count 170 = .ok (.invokevirtual 192, 3) := by decide +kernel
theorem dX7_count_173 : decode cX7_count 173 = .ok (.ireturn, 1) := by decide +kernel
theorem dX7_count_174 : decode cX7_count 174 = .ok (.aload_n 0, 1) := by decide +kernel
theorem dX7_count_175 : decode cX7_count 175 = .ok (.getfield 22, 3) := by decide +kernel
theorem dX7_count_178 : decode cX7_count 178 = .ok (.getfield 195, 3) := by decide +kernel
theorem dX7_count_181 : decode cX7_count 181 = .ok (.ireturn, 1) := by decide +kernel
theorem dX7_count_182 : decode cX7_count 182 = .ok (.aload_n 0, 1) := by decide +kernel
theorem dX7_count_183 : decode cX7_count 183 = .ok (.getfield 29, 3) := by decide +kernel
theorem dX7_count_186 : decode cX7_count 186 = .ok (.getfield 198, 3) := by decide +kernel
theorem dX7_count_189 : decode cX7_count 189 = .ok (.ireturn, 1) := by decide +kernel
theorem dX7_count_190 : decode cX7_count 190 = .ok (.aload_n 0, 1) := by decide +kernel
theorem dX7_count_191 : decode cX7_count 191 = .ok (.getfield 40, 3) := by decide +kernel
theorem dX7_count_194 : decode cX7_count 194 = .ok (.invokestatic 173, 3) := by decide +kernel
theorem dX7_count_197 : decode cX7_count 197 = .ok (.ireturn, 1) := by decide +kernel
theorem dX7_count_198 : decode cX7_count 198 = .ok (.aload_n 0, 1) := by decide +kernel
theorem dX7_count_199 : decode cX7_count 199 = .ok (.getfield 10, 3) := by decide +kernel
theorem dX7_count_202 : decode cX7_count 202 = .ok (.iload_n 1, 1) := by decide +kernel
theorem dX7_count_203 : decode cX7_count 203 = .ok (.bipush 20, 2) := by decide +kernel
theorem dX7_count_205 : decode cX7_count 205 = .ok (.isub, 1) := by decide +kernel
theorem dX7_count_206 : decode cX7_count 206 = .ok (.invokevirtual 116, 3) := by decide +kernel
theorem dX7_count_209 : decode cX7_count 209 = .ok (.ireturn, 1) := by decide +kernel
theorem dX7_count_210 : decode cX7_count 210 = .ok (.sipush (-1001), 3) := by decide +kernel
theorem dX7_count_213 : decode cX7_count 213 = .ok (.ireturn, 1) := by decide +kernel
set_option maxRecDepth 20000 in
theorem ggX7_composed_X7_isLetter : GoodIn wsX7_composed wsX7_isLetter := goodIn_r _ [6] (by decide +kernel) (by decide +kernel)
set_option maxRecDepth 20000 in
theorem gX7_composed_X7_isLetter : GoodIn wsX7_composed (va_wsS RX7 44 yX7_isLetter wsX7_isLetter) := goodIn_app (goodIn_of _ (by decide +kernel)) ggX7_composed_X7_isLetter
set_option maxRecDepth 20000 in
theorem ggX7_composed_X3_has : GoodIn wsX7_composed wsX3_has := goodIn_r _ [11, 12, 13, 14, 10, 15, 16, 94] (by decide +kernel) (by decide +kernel)
set_option maxRecDepth 20000 in
theorem gX7_composed_X3_has : GoodIn wsX7_composed (wsV RX7 132 RX3 yX3_has wsX3_has) := goodIn_app (goodIn_of _ (by decide +kernel)) ggX7_composed_X3_has
set_option maxRecDepth 20000 in
theorem ggX7_composed_X3_signFor : GoodIn wsX7_composed wsX3_signFor := goodIn_r _ [15, 16, 94] (by decide +kernel) (by decide +kernel)
set_option maxRecDepth 20000 in
theorem gX7_composed_X3_signFor : GoodIn wsX7_composed (wsV RX7 65 RX3 yX3_signFor wsX3_signFor) := goodIn_app (goodIn_of _ (by decide +kernel)) ggX7_composed_X3_signFor
set_option maxRecDepth 20000 in
theorem ggX7_composed_X6_turn : GoodIn wsX7_composed wsX6_turn := goodIn_r _ [21] (by decide +kernel) (by decide +kernel)
set_option maxRecDepth 20000 in
theorem gX7_composed_X6_turn : GoodIn wsX7_composed (va_wsS RX7 135 yX6_turn wsX6_turn) := goodIn_app (goodIn_of _ (by decide +kernel)) ggX7_composed_X6_turn
set_option maxRecDepth 20000 in
theorem ggX7_composed_J6_bitCount_0f7a4 : GoodIn wsX7_composed wsJ6_bitCount_0f7a4 := goodIn_r _ [25, 26, 27, 28] (by decide +kernel) (by decide +kernel)
set_option maxRecDepth 20000 in
theorem gX7_composed_J6_bitCount_0f7a4 : GoodIn wsX7_composed (va_wsS RX7 140 yJ6_bitCount_0f7a4 wsJ6_bitCount_0f7a4) := goodIn_app (goodIn_of _ (by decide +kernel)) ggX7_composed_J6_bitCount_0f7a4
set_option maxRecDepth 20000 in
theorem ggX7_composed_X1_find : GoodIn wsX7_composed wsX1_find := goodIn_r _ [33, 34, 35, 36, 37, 38, 39, 40, 41, 8, 9, 10, 11, 12, 13, 14, 15, 16, 42, 43, 19, 20, 21, 44, 45, 46, 32, 47, 48, 49, 50, 51, 52, 53, 54, 55, 56, 57, 58, 59, 60, 61, 23, 24, 25, 26, 27, 28, 62, 63, 64, 65, 66, 67, 68, 69, 87, 88, 89, 90, 91, 92, 93, 94] (by decide +kernel) (by decide +kernel)
set_option maxRecDepth 20000 in
theorem gX7_composed_X1_find : GoodIn wsX7_composed (wsV RX7 201 RX1 yX1_find wsX1_find) := goodIn_app (goodIn_of _ (by decide +kernel)) ggX7_composed_X1_find
theorem dX7_composed_0 : decode cX7_composed 0 = .ok (.iload_n 1, 1) := by decide +kernel
theorem dX7_composed_1 : decode cX7_composed 1 = .ok (.invokestatic 44, 3) := by decide +kernel
theorem dX7_composed_4 : decode cX7_composed 4 = .ok (.ifCond .eq 19, 3) := by decide +kernel
theorem dX7_composed_7 : decode cX7_composed 7 = .ok (.iload_n 2, 1) := by decide +kernel
theorem dX7_composed_8 : decode cX7_composed 8 = .ok (.invokestatic 44, 3) := by decide +kernel
theorem dX7_composed_11 : decode cX7_composed 11 = .ok (.ifCond .eq 12, 3) := by decide +kernel
theorem dX7_composed_14 : decode cX7_composed 14 = .ok (.iload_n 3, 1) := by decide +kernel
theorem dX7_composed_15 : decode cX7_composed 15 = .ok (.ifCond .lt 8, 3) := by decide +kernel
theorem dX7_composed_18 : decode cX7_composed 18 = .ok (.iload_n 3, 1) := by decide +kernel
theorem dX7_composed_19 : decode cX7_composed 19 = .ok (.iconst 2, 1) := by decide +kernel
theorem dX7_composed_20 : decode cX7_composed 20 = .ok (.if_icmp .le 7, 3) := by decide +kernel
theorem dX7_composed_23 : decode cX7_composed 23 = .ok (.sipush (-1001), 3) := by decide +kernel
theorem dX7_composed_26 : decode cX7_composed 26 = .ok (.ireturn, 1) := by decide +kernel
theorem dX7_composed_27 : decode cX7_composed 27 = .ok (.aload_n 0, 1) := by decide +kernel
theorem dX7_composed_28 : decode cX7_composed 28 = .ok (.getfield 10, 3) := by decide +kernel
theorem dX7_composed_31 : decode cX7_composed 31 = .ok (.getfield 51, 3) := by decide +kernel
theorem dX7_composed_34 : decode cX7_composed 34 = .ok (.iload_n 1, 1) := by decide +kernel
theorem dX7_composed_35 : decode cX7_composed 35 = .ok (.invokevirtual 132, 3) := by decide +kernel
theorem dX7_composed_38 : decode cX7_composed 38 = .ok (.ifCond .eq 17, 3) := by decide +kernel
theorem dX7_composed_41 : decode cX7_composed 41 = .ok (.aload_n 0, 1) := by decide +kernel
theorem dX7_composed_42 : decode cX7_composed 42 = .ok (.getfield 10, 3) := by decide +kernel
theorem dX7_composed_45 : decode cX7_composed 45 = .ok (.getfield 51, 3) := by decide +kernel
theorem dX7_composed_48 : decode cX7_composed 48 = .ok (.iload_n 2, 1) := by decide +kernel
theorem dX7_composed_49 : decode cX7_composed 49 = .ok (.invokevirtual 132, 3) := by decide +kernel
theorem dX7_composed_52 : decode cX7_composed 52 = .ok (.ifCond .ne 7, 3) := by decide +kernel
theorem dX7_composed_55 : decode cX7_composed 55 = .ok (.sipush (-1002), 3) := by decide +kernel
theorem dX7_composed_58 : decode cX7_composed 58 = .ok (.ireturn, 1) := by decide +kernel
theorem dX7_composed_59 : decode cX7_composed 59 = .ok (.iload_n 3, 1) := by decide +kernel
theorem dX7_composed_60 : decode cX7_composed 60 = .ok (.iconst 2, 1) := by decide +kernel
theorem dX7_composed_61 : decode cX7_composed 61 = .ok (.if_icmp .ne 33, 3) := by decide +kernel
theorem dX7_composed_64 : decode cX7_composed 64 = .ok (.aload_n 0, 1) := by decide +kernel
theorem dX7_composed_65 : decode cX7_composed 65 = .ok (.getfield 10, 3) := by decide +kernel
theorem dX7_composed_68 : decode cX7_composed 68 = .ok (.getfield 51, 3) := by decide +kernel
theorem dX7_composed_71 : decode cX7_composed 71 = .ok (.iload_n 1, 1) := by decide +kernel
theorem dX7_composed_72 : decode cX7_composed 72 = .ok (.invokevirtual 65, 3) := by decide +kernel
theorem dX7_composed_75 : decode cX7_composed 75 = .ok (.aload_n 0, 1) := by decide +kernel
theorem dX7_composed_76 : decode cX7_composed 76 = .ok (.getfield 10, 3) := by decide +kernel
theorem dX7_composed_79 : decode cX7_composed 79 = .ok (.getfield 51, 3) := by decide +kernel
theorem dX7_composed_82 : decode cX7_composed 82 = .ok (.iload_n 2, 1) := by decide +kernel
theorem dX7_composed_83 : decode cX7_composed 83 = .ok (.invokevirtual 65, 3) := by decide +kernel
theorem dX7_composed_86 : decode cX7_composed 86 = .ok (.invokestatic 135, 3) := by decide +kernel
theorem dX7_composed_89 : decode cX7_composed 89 = .ok (.ixor, 1) := by decide +kernel
theorem dX7_composed_90 : decode cX7_composed 90 = .ok (.invokestatic 140, 3) := by decide +kernel
theorem dX7_composed_93 : decode cX7_composed 93 = .ok (.ireturn, 1) := by decide +kernel
theorem dX7_composed_94 : decode cX7_composed 94 = .ok (.aload_n 0, 1) := by decide +kernel
theorem dX7_composed_95 : decode cX7_composed 95 = .ok (.getfield 36, 3) := by decide +kernel
theorem dX7_composed_98 : decode cX7_composed 98 = .ok (.aload_n 0, 1) := by decide +kernel
theorem dX7_composed_99 : decode cX7_composed 99 = .ok (.getfield 10, 3) := by decide +kernel
theorem dX7_composed_102 : decode cX7_composed 102 = .ok (.getfield 51, 3) := by decide +kernel
theorem dX7_composed_105 : decode cX7_composed 105 = .ok (.iload_n 1, 1) := by decide +kernel
theorem dX7_composed_106 : decode cX7_composed 106 = .ok (.iload_n 2, 1) := by decide +kernel
theorem dX7_composed_107 : decode cX7_composed 107 = .ok (.invokevirtual 201, 3) := by decide +kernel
theorem dX7_composed_110 : decode cX7_composed 110 = .ok (.ifCond .ne 7, 3) := by decide +kernel
theorem dX7_composed_113 : decode cX7_composed 113 = .ok (.sipush (-1004), 3) := by decide +kernel
theorem dX7_composed_116 : decode cX7_composed 116 = .ok (.ireturn, 1) := by decide +kernel
theorem dX7_composed_117 : decode cX7_composed 117 = .ok (.iload_n 3, 1) := by decide +kernel
theorem dX7_composed_118 : decode cX7_composed 118 = .ok (.ifCond .ne 13, 3) := by decide +kernel
theorem dX7_composed_121 : decode cX7_composed 121 = .ok (.aload_n 0, 1) := by decide +kernel
theorem dX7_composed_122 : decode cX7_composed 122 = .ok (.getfield 36, 3) := by decide +kernel
theorem dX7_composed_125 : decode cX7_composed 125 = .ok (.getfield 84, 3) := by decide +kernel
theorem dX7_composed_128 : decode cX7_composed 128 = .ok (.goto 10, 3) := by decide +kernel
theorem dX7_composed_131 : decode cX7_composed 131 = .ok (.aload_n 0, 1) := by decide +kernel
theorem dX7_composed_132 : decode cX7_composed 132 = .ok (.getfield 36, 3) := by decide +kernel
theorem dX7_composed_135 : decode cX7_composed 135 = .ok (.getfield 205, 3) := by decide +kernel
theorem dX7_composed_138 : decode cX7_composed 138 = .ok (.ireturn, 1) := by decide +kernel
set_option maxRecDepth 20000 in
theorem ggX7_goesWith_X7_isLetter : GoodIn wsX7_goesWith wsX7_isLetter := goodIn_r _ [6] (by decide +kernel) (by decide +kernel)
set_option maxRecDepth 20000 in
theorem gX7_goesWith_X7_isLetter : GoodIn wsX7_goesWith (va_wsS RX7 44 yX7_isLetter wsX7_isLetter) := goodIn_app (goodIn_of _ (by decide +kernel)) ggX7_goesWith_X7_isLetter
set_option maxRecDepth 20000 in
theorem ggX7_goesWith_X3_has : GoodIn wsX7_goesWith wsX3_has := goodIn_r _ [11, 12, 13, 14, 10, 15, 16, 94] (by decide +kernel) (by decide +kernel)
set_option maxRecDepth 20000 in
theorem gX7_goesWith_X3_has : GoodIn wsX7_goesWith (wsV RX7 132 RX3 yX3_has wsX3_has) := goodIn_app (goodIn_of _ (by decide +kernel)) ggX7_goesWith_X3_has
set_option maxRecDepth 20000 in
theorem ggX7_goesWith_X1_find : GoodIn wsX7_goesWith wsX1_find := goodIn_r _ [21, 22, 23, 24, 25, 26, 27, 28, 29, 8, 9, 10, 11, 12, 13, 14, 15, 16, 30, 31, 32, 33, 34, 35, 36, 37, 20, 38, 39, 40, 41, 42, 43, 44, 45, 46, 47, 48, 49, 50, 51, 52, 53, 54, 55, 56, 57, 58, 59, 60, 61, 62, 63, 64, 65, 66, 87, 88, 89, 90, 91, 92, 93, 94] (by decide +kernel) (by decide +kernel)
set_option maxRecDepth 20000 in
theorem gX7_goesWith_X1_find : GoodIn wsX7_goesWith (wsV RX7 201 RX1 yX1_find wsX1_find) := goodIn_app (goodIn_of _ (by decide +kernel)) ggX7_goesWith_X1_find
set_option maxRecDepth 20000 in
theorem ggX7_goesWith_X7_foundOrNot : GoodIn wsX7_goesWith wsX7_foundOrNot := goodIn_r _ [69] (by decide +kernel) (by decide +kernel)
set_option maxRecDepth 20000 in
theorem gX7_goesWith_X7_foundOrNot : GoodIn wsX7_goesWith (va_wsS RX7 149 yX7_foundOrNot wsX7_foundOrNot) := goodIn_app (goodIn_of _ (by decide +kernel)) ggX7_goesWith_X7_foundOrNot
theorem dX7_goesWith_0 : decode cX7_goesWith 0 = .ok (.iload_n 1, 1) := by decide +kernel
theorem dX7_goesWith_1 : decode cX7_goesWith 1 = .ok (.invokestatic 44, 3) := by decide +kernel
theorem dX7_goesWith_4 : decode cX7_goesWith 4 = .ok (.ifCond .ne 7, 3) := by decide +kernel
theorem dX7_goesWith_7 : decode cX7_goesWith 7 = .ok (.sipush (-1001), 3) := by decide +kernel
theorem dX7_goesWith_10 : decode cX7_goesWith 10 = .ok (.ireturn, 1) := by decide +kernel
theorem dX7_goesWith_11 : decode cX7_goesWith 11 = .ok (.aload_n 0, 1) := by decide +kernel
theorem dX7_goesWith_12 : decode cX7_goesWith 12 = .ok (.getfield 10, 3) := by decide +kernel
theorem dX7_goesWith_15 : decode cX7_goesWith 15 = .ok (.getfield 51, 3) := by decide +kernel
theorem dX7_goesWith_18 : decode cX7_goesWith 18 = .ok (.iload_n 1, 1) := by decide +kernel
theorem dX7_goesWith_19 : decode cX7_goesWith 19 = .ok (.invokevirtual 132, 3) := by decide +kernel
theorem dX7_goesWith_22 : decode cX7_goesWith 22 = .ok (.ifCond .ne 7, 3) := by decide +kernel
theorem dX7_goesWith_25 : decode cX7_goesWith 25 = .ok (.sipush (-1002), 3) := by decide +kernel
theorem dX7_goesWith_28 : decode cX7_goesWith 28 = .ok (.ireturn, 1) := by decide +kernel
theorem dX7_goesWith_29 : decode cX7_goesWith 29 = .ok (.iconst (-1), 1) := by decide +kernel
theorem dX7_goesWith_30 : decode cX7_goesWith 30 = .ok (.istore_n 2, 1) := by decide +kernel
theorem dX7_goesWith_31 : decode cX7_goesWith 31 = .ok (.iconst (-1), 1) := by decide +kernel
theorem dX7_goesWith_32 : decode cX7_goesWith 32 = .ok (.istore_n 3, 1) := by decide +kernel
theorem dX7_goesWith_33 : decode cX7_goesWith 33 = .ok (.iconst 0, 1) := by decide +kernel
theorem dX7_goesWith_34 : decode cX7_goesWith 34 = .ok (.istore 4, 2) := by decide +kernel
theorem dX7_goesWith_36 : decode cX7_goesWith 36 = .ok (.iload 4, 2) := by decide +kernel
theorem dX7_goesWith_38 : decode cX7_goesWith 38 = .ok (.bipush 10, 2) := by decide +kernel
theorem dX7_goesWith_40 : decode cX7_goesWith 40 = .ok (.if_icmp .ge 51, 3) := by decide +kernel
theorem dX7_goesWith_43 : decode cX7_goesWith 43 = .ok (.aload_n 0, 1) := by decide +kernel
theorem dX7_goesWith_44 : decode cX7_goesWith 44 = .ok (.getfield 36, 3) := by decide +kernel
theorem dX7_goesWith_47 : decode cX7_goesWith 47 = .ok (.aload_n 0, 1) := by decide +kernel
theorem dX7_goesWith_48 : decode cX7_goesWith 48 = .ok (.getfield 10, 3) := by decide +kernel
theorem dX7_goesWith_51 : decode cX7_goesWith 51 = .ok (.getfield 51, 3) := by decide +kernel
theorem dX7_goesWith_54 : decode cX7_goesWith 54 = .ok (.iload_n 1, 1) := by decide +kernel
theorem dX7_goesWith_55 : decode cX7_goesWith 55 = .ok (.iload 4, 2) := by decide +kernel
theorem dX7_goesWith_57 : decode cX7_goesWith 57 = .ok (.invokevirtual 201, 3) := by decide +kernel
theorem dX7_goesWith_60 : decode cX7_goesWith 60 = .ok (.ifCond .eq 25, 3) := by decide +kernel
theorem dX7_goesWith_63 : decode cX7_goesWith 63 = .ok (.aload_n 0, 1) := by decide +kernel
theorem dX7_goesWith_64 : decode cX7_goesWith 64 = .ok (.getfield 36, 3) := by decide +kernel
theorem dX7_goesWith_67 : decode cX7_goesWith 67 = .ok (.getfield 205, 3) := by decide +kernel
theorem dX7_goesWith_70 : decode cX7_goesWith 70 = .ok (.iload_n 3, 1) := by decide +kernel
theorem dX7_goesWith_71 : decode cX7_goesWith 71 = .ok (.if_icmp .le 14, 3) := by decide +kernel
theorem dX7_goesWith_74 : decode cX7_goesWith 74 = .ok (.iload 4, 2) := by decide +kernel
theorem dX7_goesWith_76 : decode cX7_goesWith 76 = .ok (.istore_n 2, 1) := by decide +kernel
theorem dX7_goesWith_77 : decode cX7_goesWith 77 = .ok (.aload_n 0, 1) := by decide +kernel
theorem dX7_goesWith_78 : decode cX7_goesWith 78 = .ok (.getfield 36, 3) := by decide +kernel
theorem dX7_goesWith_81 : decode cX7_goesWith 81 = .ok (.getfield 205, 3) := by decide +kernel
theorem dX7_goesWith_84 : decode cX7_goesWith 84 = .ok (.istore_n 3, 1) := by decide +kernel
theorem dX7_goesWith_85 : decode cX7_goesWith 85 = .ok (.iinc 4 1, 3) := by decide +kernel
theorem dX7_goesWith_88 : decode cX7_goesWith 88 = .ok (.goto (-52), 3) := by decide +kernel
theorem dX7_goesWith_91 : decode cX7_goesWith 91 = .ok (.iload_n 2, 1) := by decide +kernel
theorem dX7_goesWith_92 : decode cX7_goesWith 92 = .ok (.invokestatic 149, 3) := by decide +kernel
theorem dX7_goesWith_95 : decode cX7_goesWith 95 = .ok (.ireturn, 1) := by decide +kernel
set_option maxRecDepth 20000 in
theorem ggX7_quality_X7_marginOrZero : GoodIn wsX7_quality wsX7_marginOrZero := goodIn_r _ [6, 1, 7, 8, 9, 10, 11, 12, 13, 14, 15, 16, 17, 18, 19, 20, 21, 22, 23, 24, 25, 26, 27, 28, 29, 30, 31, 32, 33, 34, 35, 36, 37, 38, 39, 40, 41, 42, 43, 44, 45, 46, 47, 48, 49, 50, 51, 52, 53, 54, 55, 56, 57, 58, 59, 60, 61, 62, 63, 64, 65, 66, 67, 68, 69, 75, 76, 77, 78, 79, 80, 81, 82, 83, 84, 85, 86, 87, 88, 89, 90, 91, 92] (by decide +kernel) (by decide +kernel)
set_option maxRecDepth 20000 in
theorem gX7_quality_X7_marginOrZero : GoodIn wsX7_quality (wsV RX7 208 RX7 yX7_marginOrZero wsX7_marginOrZero) := goodIn_app (goodIn_of _ (by decide +kernel)) ggX7_quality_X7_marginOrZero
set_option maxRecDepth 20000 in
theorem ggX7_quality_X7_bitsOf : GoodIn wsX7_quality wsX7_bitsOf := goodIn_r _ [72, 73, 74] (by decide +kernel) (by decide +kernel)
set_option maxRecDepth 20000 in
theorem gX7_quality_X7_bitsOf : GoodIn wsX7_quality (va_wsS RX7 211 yX7_bitsOf wsX7_bitsOf) := goodIn_app (goodIn_of _ (by decide +kernel)) ggX7_quality_X7_bitsOf
theorem dX7_quality_0 : decode cX7_quality 0 = .ok (.aload_n 0, 1) := by decide +kernel
theorem dX7_quality_1 : decode cX7_quality 1 = .ok (.getfield 10, 3) := by decide +kernel
theorem dX7_quality_4 : decode cX7_quality 4 = .ok (.getfield 88, 3) := by decide +kernel
theorem dX7_quality_7 : decode cX7_quality 7 = .ok (.ifCond .ne 7, 3) := by decide +kernel
theorem dX7_quality_10 : decode cX7_quality 10 = .ok (.sipush (-1004), 3) := by decide +kernel
theorem dX7_quality_13 : decode cX7_quality 13 = .ok (.ireturn, 1) := by decide +kernel
theorem dX7_quality_14 : decode cX7_quality 14 = .ok (.iconst 0, 1) := by decide +kernel
theorem dX7_quality_15 : decode cX7_quality 15 = .ok (.istore_n 1, 1) := by decide +kernel
theorem dX7_quality_16 : decode cX7_quality 16 = .ok (.iconst 0, 1) := by decide +kernel
theorem dX7_quality_17 : decode cX7_quality 17 = .ok (.istore_n 2, 1) := by decide +kernel
theorem dX7_quality_18 : decode cX7_quality 18 = .ok (.iload_n 2, 1) := by decide +kernel
theorem dX7_quality_19 : decode cX7_quality 19 = .ok (.aload_n 0, 1) := by decide +kernel
theorem dX7_quality_20 : decode cX7_quality 20 = .ok (.getfield 10, 3) := by decide +kernel
theorem dX7_quality_23 : decode cX7_quality 23 = .ok (.getfield 88, 3) := by decide +kernel
theorem dX7_quality_26 : decode cX7_quality 26 = .ok (.if_icmp .ge 25, 3) := by decide +kernel
theorem dX7_quality_29 : decode cX7_quality 29 = .ok (.iload_n 1, 1) := by decide +kernel
theorem dX7_quality_30 : decode cX7_quality 30 = .ok (.aload_n 0, 1) := by decide +kernel
theorem dX7_quality_31 : decode cX7_quality 31 = .ok (.iload_n 2, 1) := by decide +kernel
theorem dX7_quality_32 : decode cX7_quality 32 = .ok (.iconst 0, 1) := by decide +kernel
theorem dX7_quality_33 : decode cX7_quality 33 = .ok (.invokevirtual 208, 3) := by decide +kernel
theorem dX7_quality_36 : decode cX7_quality 36 = .ok (.aload_n 0, 1) := by decide +kernel
theorem dX7_quality_37 : decode cX7_quality 37 = .ok (.iload_n 2, 1) := by decide +kernel
theorem dX7_quality_38 : decode cX7_quality 38 = .ok (.iconst 1, 1) := by decide +kernel
theorem dX7_quality_39 : decode cX7_quality 39 = .ok (.invokevirtual 208, 3) := by decide +kernel
theorem dX7_quality_42 : decode cX7_quality 42 = .ok (.iadd, 1) := by decide +kernel
theorem dX7_quality_43 : decode cX7_quality 43 = .ok (.iadd, 1) := by decide +kernel
theorem dX7_quality_44 : decode cX7_quality 44 = .ok (.istore_n 1, 1) := by decide +kernel
theorem dX7_quality_45 : decode cX7_quality 45 = .ok (.iinc 2 1, 3) := by decide +kernel
theorem dX7_quality_48 : decode cX7_quality 48 = .ok (.goto (-30), 3) := by decide +kernel
theorem dX7_quality_51 : decode cX7_quality 51 = .ok (.iload_n 1, 1) := by decide +kernel
theorem dX7_quality_52 : decode cX7_quality 52 = .ok (.i2f, 1) := by decide +kernel
theorem dX7_quality_53 : decode cX7_quality 53 = .ok (.iconst 2, 1) := by decide +kernel
theorem dX7_quality_54 : decode cX7_quality 54 = .ok (.aload_n 0, 1) := by decide +kernel
theorem dX7_quality_55 : decode cX7_quality 55 = .ok (.getfield 10, 3) := by decide +kernel
theorem dX7_quality_58 : decode cX7_quality 58 = .ok (.getfield 88, 3) := by decide +kernel
theorem dX7_quality_61 : decode cX7_quality 61 = .ok (.imul, 1) := by decide +kernel
theorem dX7_quality_62 : decode cX7_quality 62 = .ok (.i2f, 1) := by decide +kernel
theorem dX7_quality_63 : decode cX7_quality 63 = .ok (.fdiv, 1) := by decide +kernel
theorem dX7_quality_64 : decode cX7_quality 64 = .ok (.invokestatic 211, 3) := by decide +kernel
theorem dX7_quality_67 : decode cX7_quality 67 = .ok (.ireturn, 1) := by decide +kernel
set_option maxRecDepth 20000 in
theorem ggX7_bareIn_X0_fades : GoodIn wsX7_bareIn wsX0_fades := goodIn_r _ [10, 11, 12, 13, 9, 14, 15, 16, 17, 18, 19, 20, 21, 22, 23, 24, 25, 26, 27, 28, 29, 30, 31, 32, 33, 34, 35, 36, 37, 38, 39, 40, 41, 42, 43, 44, 45, 53, 54, 55, 56, 57, 58, 59, 60, 61, 62, 63] (by decide +kernel) (by decide +kernel)
set_option maxRecDepth 20000 in
theorem gX7_bareIn_X0_fades : GoodIn wsX7_bareIn (wsV RX7 215 RX0 yX0_fades wsX0_fades) := goodIn_app (goodIn_of _ (by decide +kernel)) ggX7_bareIn_X0_fades
set_option maxRecDepth 20000 in
theorem ggX7_bareIn_X0_coatsAt : GoodIn wsX7_bareIn wsX0_coatsAt := goodIn_r _ [14, 15, 16, 17, 18, 19, 53, 54, 55, 56, 57, 58, 59, 60, 61, 62, 63] (by decide +kernel) (by decide +kernel)
set_option maxRecDepth 20000 in
theorem gX7_bareIn_X0_coatsAt : GoodIn wsX7_bareIn (wsV RX7 91 RX0 yX0_coatsAt wsX0_coatsAt) := goodIn_app (goodIn_of _ (by decide +kernel)) ggX7_bareIn_X0_coatsAt
theorem dX7_bareIn_0 : decode cX7_bareIn 0 = .ok (.bipush 10, 2) := by decide +kernel
theorem dX7_bareIn_2 : decode cX7_bareIn 2 = .ok (.istore_n 1, 1) := by decide +kernel
theorem dX7_bareIn_3 : decode cX7_bareIn 3 = .ok (.iconst 0, 1) := by decide +kernel
theorem dX7_bareIn_4 : decode cX7_bareIn 4 = .ok (.istore_n 2, 1) := by decide +kernel
theorem dX7_bareIn_5 : decode cX7_bareIn 5 = .ok (.iload_n 2, 1) := by decide +kernel
theorem dX7_bareIn_6 : decode cX7_bareIn 6 = .ok (.aload_n 0, 1) := by decide +kernel
theorem dX7_bareIn_7 : decode cX7_bareIn 7 = .ok (.getfield 10, 3) := by decide +kernel
theorem dX7_bareIn_10 : decode cX7_bareIn 10 = .ok (.getfield 88, 3) := by decide +kernel
theorem dX7_bareIn_13 : decode cX7_bareIn 13 = .ok (.if_icmp .ge 33, 3) := by decide +kernel
theorem dX7_bareIn_16 : decode cX7_bareIn 16 = .ok (.aload_n 0, 1) := by decide +kernel
theorem dX7_bareIn_17 : decode cX7_bareIn 17 = .ok (.getfield 10, 3) := by decide +kernel
theorem dX7_bareIn_20 : decode cX7_bareIn 20 = .ok (.iload_n 2, 1) := by decide +kernel
theorem dX7_bareIn_21 : decode cX7_bareIn 21 = .ok (.invokevirtual 215, 3) := by decide +kernel
theorem dX7_bareIn_24 : decode cX7_bareIn 24 = .ok (.ifCond .eq 16, 3) := by decide +kernel
theorem dX7_bareIn_27 : decode cX7_bareIn 27 = .ok (.iload_n 1, 1) := by decide +kernel
theorem dX7_bareIn_28 : decode cX7_bareIn 28 = .ok (.aload_n 0, 1) := by decide +kernel
theorem dX7_bareIn_29 : decode cX7_bareIn 29 = .ok (.getfield 10, 3) := by decide +kernel
theorem dX7_bareIn_32 : decode cX7_bareIn 32 = .ok (.iload_n 2, 1) := by decide +kernel
theorem dX7_bareIn_33 : decode cX7_bareIn 33 = .ok (.invokevirtual 91, 3) := by decide +kernel
theorem dX7_bareIn_36 : decode cX7_bareIn 36 = .ok (.invokestatic 218, 3) := by decide +kernel
theorem dX7_bareIn_39 : decode cX7_bareIn 39 = .ok (.istore_n 1, 1) := by decide +kernel
theorem dX7_bareIn_40 : decode cX7_bareIn 40 = .ok (.iinc 2 1, 3) := by decide +kernel
theorem dX7_bareIn_43 : decode cX7_bareIn 43 = .ok (.goto (-38), 3) := by decide +kernel
theorem dX7_bareIn_46 : decode cX7_bareIn 46 = .ok (.iload_n 1, 1) := by decide +kernel
theorem dX7_bareIn_47 : decode cX7_bareIn 47 = .ok (.bipush 9, 2) := by decide +kernel
theorem dX7_bareIn_49 : decode cX7_bareIn 49 = .ok (.if_icmp .le 9, 3) := by decide +kernel
theorem dX7_bareIn_52 : decode cX7_bareIn 52 = .ok (.sipush (-1004), 3) := by decide +kernel
theorem dX7_bareIn_55 : decode cX7_bareIn 55 = .ok (.goto 4, 3) := by decide +kernel
theorem dX7_bareIn_58 : decode cX7_bareIn 58 = .ok (.iload_n 1, 1) := by decide +kernel
theorem dX7_bareIn_59 : decode cX7_bareIn 59 = .ok (.ireturn, 1) := by decide +kernel
set_option maxRecDepth 20000 in
theorem ggX7_keep_X0_copyFrom : GoodIn wsX7_keep wsX0_copyFrom := goodIn_r _ [8, 9, 10, 11, 12, 13, 14, 15, 16, 17, 18, 19, 20, 21, 22, 23, 24, 25, 26, 27, 28, 29, 30, 37, 38, 39, 40, 41, 42, 43, 44, 45, 46, 47, 48] (by decide +kernel) (by decide +kernel)
set_option maxRecDepth 20000 in
theorem gX7_keep_X0_copyFrom : GoodIn wsX7_keep (wsV RX7 223 RX0 yX0_copyFrom wsX0_copyFrom) := goodIn_app (goodIn_of _ (by decide +kernel)) ggX7_keep_X0_copyFrom
theorem dX7_keep_0 : decode cX7_keep 0 = .ok (.aload_n 0, 1) := by decide +kernel
theorem dX7_keep_1 : decode cX7_keep 1 = .ok (.getfield 16, 3) := by decide +kernel
theorem dX7_keep_4 : decode cX7_keep 4 = .ok (.aload_n 0, 1) := by decide +kernel
theorem dX7_keep_5 : decode cX7_keep 5 = .ok (.getfield 10, 3) := by decide +kernel
theorem dX7_keep_8 : decode cX7_keep 8 = .ok (.invokevirtual 223, 3) := by decide +kernel
theorem dX7_keep_11 : decode cX7_keep 11 = .ok (.aload_n 0, 1) := by decide +kernel
theorem dX7_keep_12 : decode cX7_keep 12 = .ok (.iconst 1, 1) := by decide +kernel
theorem dX7_keep_13 : decode cX7_keep 13 = .ok (.putfield 40, 3) := by decide +kernel
theorem dX7_keep_16 : decode cX7_keep 16 = .ok (.aload_n 0, 1) := by decide +kernel
theorem dX7_keep_17 : decode cX7_keep 17 = .ok (.getfield 10, 3) := by decide +kernel
theorem dX7_keep_20 : decode cX7_keep 20 = .ok (.getfield 88, 3) := by decide +kernel
theorem dX7_keep_23 : decode cX7_keep 23 = .ok (.ireturn, 1) := by decide +kernel
set_option maxRecDepth 20000 in
theorem ggX7_restore_X2_push : GoodIn wsX7_restore wsX2_push := goodIn_r _ [9, 10, 11, 12, 13, 14, 8, 15, 16, 17, 18, 19, 20, 21, 22, 23, 24, 25, 26, 27, 28, 29, 30, 31, 32, 33, 34, 35, 36, 37, 38, 39, 40, 41, 42, 61, 62, 50, 51, 52, 53, 54, 55, 56, 57, 58, 59, 60, 63] (by decide +kernel) (by decide +kernel)
set_option maxRecDepth 20000 in
theorem gX7_restore_X2_push : GoodIn wsX7_restore (wsV RX7 61 RX2 yX2_push wsX2_push) := goodIn_app (goodIn_of _ (by decide +kernel)) ggX7_restore_X2_push
set_option maxRecDepth 20000 in
theorem ggX7_restore_X0_copyFrom : GoodIn wsX7_restore wsX0_copyFrom := goodIn_r _ [20, 21, 22, 23, 24, 25, 26, 27, 28, 29, 30, 31, 32, 33, 34, 35, 36, 37, 38, 39, 40, 41, 42, 50, 51, 52, 53, 54, 55, 56, 57, 58, 59, 60, 63] (by decide +kernel) (by decide +kernel)
set_option maxRecDepth 20000 in
theorem gX7_restore_X0_copyFrom : GoodIn wsX7_restore (wsV RX7 223 RX0 yX0_copyFrom wsX0_copyFrom) := goodIn_app (goodIn_of _ (by decide +kernel)) ggX7_restore_X0_copyFrom
theorem dX7_restore_0 : decode cX7_restore 0 = .ok (.aload_n 0, 1) := by decide +kernel
theorem dX7_restore_1 : decode cX7_restore 1 = .ok (.getfield 40, 3) := by decide +kernel
theorem dX7_restore_4 : decode cX7_restore 4 = .ok (.ifCond .ne 7, 3) := by decide +kernel
theorem dX7_restore_7 : decode cX7_restore 7 = .ok (.sipush (-1002), 3) := by decide +kernel
theorem dX7_restore_10 : decode cX7_restore 10 = .ok (.ireturn, 1) := by decide +kernel
theorem dX7_restore_11 : decode cX7_restore 11 = .ok (.aload_n 0, 1) := by decide +kernel
theorem dX7_restore_12 : decode cX7_restore 12 = .ok (.getfield 22, 3) := by decide +kernel
theorem dX7_restore_15 : decode cX7_restore 15 = .ok (.aload_n 0, 1) := by decide +kernel
theorem dX7_restore_16 : decode cX7_restore 16 = .ok (.getfield 10, 3) := by decide +kernel
theorem dX7_restore_19 : decode cX7_restore 19 = .ok (.invokevirtual 61, 3) := by decide +kernel
theorem dX7_restore_22 : decode cX7_restore 22 = .ok (.aload_n 0, 1) := by decide +kernel
theorem dX7_restore_23 : decode cX7_restore 23 = .ok (.getfield 10, 3) := by decide +kernel
theorem dX7_restore_26 : decode cX7_restore 26 = .ok (.aload_n 0, 1) := by decide +kernel
theorem dX7_restore_27 : decode cX7_restore 27 = .ok (.getfield 16, 3) := by decide +kernel
theorem dX7_restore_30 : decode cX7_restore 30 = .ok (.invokevirtual 223, 3) := by decide +kernel
theorem dX7_restore_33 : decode cX7_restore 33 = .ok (.aload_n 0, 1) := by decide +kernel
theorem dX7_restore_34 : decode cX7_restore 34 = .ok (.getfield 10, 3) := by decide +kernel
theorem dX7_restore_37 : decode cX7_restore 37 = .ok (.getfield 88, 3) := by decide +kernel
theorem dX7_restore_40 : decode cX7_restore 40 = .ok (.ireturn, 1) := by decide +kernel
set_option maxRecDepth 20000 in
theorem ggX7_undo_X2_popInto : GoodIn wsX7_undo wsX2_popInto := goodIn_r _ [7, 8, 9, 10, 11, 12, 13, 14, 15, 16, 17, 18, 19, 20, 21, 22, 23, 24, 25, 26, 27, 28, 29, 30, 31, 32, 33, 34, 35, 36, 43, 44, 45, 46, 47, 48, 49, 50, 51, 52, 53, 54, 55, 56] (by decide +kernel) (by decide +kernel)
set_option maxRecDepth 20000 in
theorem gX7_undo_X2_popInto : GoodIn wsX7_undo (wsV RX7 226 RX2 yX2_popInto wsX2_popInto) := goodIn_app (goodIn_of _ (by decide +kernel)) ggX7_undo_X2_popInto
theorem dX7_undo_0 : decode cX7_undo 0 = .ok (.aload_n 0, 1) := by decide +kernel
theorem dX7_undo_1 : decode cX7_undo 1 = .ok (.getfield 22, 3) := by decide +kernel
theorem dX7_undo_4 : decode cX7_undo 4 = .ok (.getfield 195, 3) := by decide +kernel
theorem dX7_undo_7 : decode cX7_undo 7 = .ok (.ifCond .ne 7, 3) := by decide +kernel
theorem dX7_undo_10 : decode cX7_undo 10 = .ok (.sipush (-1002), 3) := by decide +kernel
theorem dX7_undo_13 : decode cX7_undo 13 = .ok (.ireturn, 1) := by decide +kernel
theorem dX7_undo_14 : decode cX7_undo 14 = .ok (.aload_n 0, 1) := by decide +kernel
theorem dX7_undo_15 : decode cX7_undo 15 = .ok (.getfield 22, 3) := by decide +kernel
theorem dX7_undo_18 : decode cX7_undo 18 = .ok (.aload_n 0, 1) := by decide +kernel
theorem dX7_undo_19 : decode cX7_undo 19 = .ok (.getfield 10, 3) := by decide +kernel
theorem dX7_undo_22 : decode cX7_undo 22 = .ok (.invokevirtual 226, 3) := by decide +kernel
theorem dX7_undo_25 : decode cX7_undo 25 = .ok (.aload_n 0, 1) := by decide +kernel
theorem dX7_undo_26 : decode cX7_undo 26 = .ok (.getfield 22, 3) := by decide +kernel
theorem dX7_undo_29 : decode cX7_undo 29 = .ok (.getfield 195, 3) := by decide +kernel
theorem dX7_undo_32 : decode cX7_undo 32 = .ok (.ireturn, 1) := by decide +kernel
set_option maxRecDepth 20000 in
theorem ggX7_type_X5_append : GoodIn wsX7_type wsX5_append := goodIn_r _ [6, 7, 8, 15, 16] (by decide +kernel) (by decide +kernel)
set_option maxRecDepth 20000 in
theorem gX7_type_X5_append : GoodIn wsX7_type (wsV RX7 229 RX5 yX5_append wsX5_append) := goodIn_app (goodIn_of _ (by decide +kernel)) ggX7_type_X5_append
theorem dX7_type_0 : decode cX7_type 0 = .ok (.iload_n 1, 1) := by decide +kernel
theorem dX7_type_1 : decode cX7_type 1 = .ok (.bipush 32, 2) := by decide +kernel
theorem dX7_type_3 : decode cX7_type 3 = .ok (.if_icmp .lt 9, 3) := by decide +kernel
theorem dX7_type_6 : decode cX7_type 6 = .ok (.iload_n 1, 1) := by decide +kernel
theorem dX7_type_7 : decode cX7_type 7 = .ok (.bipush 126, 2) := by decide +kernel
theorem dX7_type_9 : decode cX7_type 9 = .ok (.if_icmp .le 7, 3) := by decide +kernel
theorem dX7_type_12 : decode cX7_type 12 = .ok (.sipush (-1001), 3) := by decide +kernel
theorem dX7_type_15 : decode cX7_type 15 = .ok (.ireturn, 1) := by decide +kernel
theorem dX7_type_16 : decode cX7_type 16 = .ok (.aload_n 0, 1) := by decide +kernel
theorem dX7_type_17 : decode cX7_type 17 = .ok (.getfield 29, 3) := by decide +kernel
theorem dX7_type_20 : decode cX7_type 20 = .ok (.getfield 198, 3) := by decide +kernel
theorem dX7_type_23 : decode cX7_type 23 = .ok (.bipush 30, 2) := by decide +kernel
theorem dX7_type_25 : decode cX7_type 25 = .ok (.if_icmp .lt 7, 3) := by decide +kernel
theorem dX7_type_28 : decode cX7_type 28 = .ok (.sipush (-1003), 3) := by decide +kernel
theorem dX7_type_31 : decode cX7_type 31 = .ok (.ireturn, 1) := by decide +kernel
theorem dX7_type_32 : decode cX7_type 32 = .ok (.aload_n 0, 1) := by decide +kernel
theorem dX7_type_33 : decode cX7_type 33 = .ok (.getfield 29, 3) := by decide +kernel
theorem dX7_type_36 : decode cX7_type 36 = .ok (.iload_n 1, 1) := by decide +kernel
theorem dX7_type_37 : decode cX7_type 37 = .ok (.i2c, 1) := by decide +kernel
theorem dX7_type_38 : decode cX7_type 38 = .ok (.invokevirtual 229, 3) := by decide +kernel
theorem dX7_type_41 : decode cX7_type 41 = .ok (.aload_n 0, 1) := by decide +kernel
theorem dX7_type_42 : decode cX7_type 42 = .ok (.getfield 29, 3) := by decide +kernel
theorem dX7_type_45 : decode cX7_type 45 = .ok (.getfield 198, 3) := by decide +kernel
theorem dX7_type_48 : decode cX7_type 48 = .ok (.ireturn, 1) := by decide +kernel
theorem dX7_clearText_0 : decode cX7_clearText 0 = .ok (.aload_n 0, 1) := by decide +kernel
theorem dX7_clearText_1 : decode cX7_clearText 1 = .ok (.getfield 29, 3) := by decide +kernel
theorem dX7_clearText_4 : decode cX7_clearText 4 = .ok (.getfield 198, 3) := by decide +kernel
theorem dX7_clearText_7 : decode cX7_clearText 7 = .ok (.istore_n 1, 1) := by decide +kernel
theorem dX7_clearText_8 : decode cX7_clearText 8 = .ok (.aload_n 0, 1) := by decide +kernel
theorem dX7_clearText_9 : decode cX7_clearText 9 = .ok (.getfield 29, 3) := by decide +kernel
theorem dX7_clearText_12 : decode cX7_clearText 12 = .ok (.iconst 0, 1) := by decide +kernel
theorem dX7_clearText_13 : decode cX7_clearText 13 = .ok (.putfield 198, 3) := by decide +kernel
theorem dX7_clearText_16 : decode cX7_clearText 16 = .ok (.iload_n 1, 1) := by decide +kernel
theorem dX7_clearText_17 : decode cX7_clearText 17 = .ok (.ireturn, 1) := by decide +kernel
set_option maxRecDepth 20000 in
theorem ggX7_fault_X7_isOneOfTwo : GoodIn wsX7_fault wsX7_isOneOfTwo := goodIn_r _ [6] (by decide +kernel) (by decide +kernel)
set_option maxRecDepth 20000 in
theorem gX7_fault_X7_isOneOfTwo : GoodIn wsX7_fault (va_wsS RX7 113 yX7_isOneOfTwo wsX7_isOneOfTwo) := goodIn_app (goodIn_of _ (by decide +kernel)) ggX7_fault_X7_isOneOfTwo
set_option maxRecDepth 20000 in
theorem ggX7_fault_X5_faultCode : GoodIn wsX7_fault wsX5_faultCode := goodIn_r _ [11, 12, 13, 14, 10, 15, 16, 17, 18, 19, 20, 21, 22, 23, 24, 25, 26, 27, 28, 29, 30, 31, 32, 33, 34, 35, 36, 37, 38, 39, 40, 41, 42, 43, 44, 45, 46, 47, 48, 49, 50, 51, 52, 53, 54, 55, 56, 57, 58, 82, 83, 84] (by decide +kernel) (by decide +kernel)
set_option maxRecDepth 20000 in
theorem gX7_fault_X5_faultCode : GoodIn wsX7_fault (wsV RX7 233 RX5 yX5_faultCode wsX5_faultCode) := goodIn_app (goodIn_of _ (by decide +kernel)) ggX7_fault_X5_faultCode
set_option maxRecDepth 20000 in
theorem ggX7_fault_X5_placeIn : GoodIn wsX7_fault wsX5_placeIn := goodIn_r _ [61] (by decide +kernel) (by decide +kernel)
set_option maxRecDepth 20000 in
theorem gX7_fault_X5_placeIn : GoodIn wsX7_fault (va_wsS RX7 237 yX5_placeIn wsX5_placeIn) := goodIn_app (goodIn_of _ (by decide +kernel)) ggX7_fault_X5_placeIn
set_option maxRecDepth 20000 in
theorem ggX7_fault_X5_reasonIn : GoodIn wsX7_fault wsX5_reasonIn := goodIn_r _ [64] (by decide +kernel) (by decide +kernel)
set_option maxRecDepth 20000 in
theorem gX7_fault_X5_reasonIn : GoodIn wsX7_fault (va_wsS RX7 240 yX5_reasonIn wsX5_reasonIn) := goodIn_app (goodIn_of _ (by decide +kernel)) ggX7_fault_X5_reasonIn
theorem dX7_fault_0 : decode cX7_fault 0 = .ok (.iload_n 1, 1) := by decide +kernel
theorem dX7_fault_1 : decode cX7_fault 1 = .ok (.invokestatic 113, 3) := by decide +kernel
theorem dX7_fault_4 : decode cX7_fault 4 = .ok (.ifCond .ne 7, 3) := by decide +kernel
theorem dX7_fault_7 : decode cX7_fault 7 = .ok (.sipush (-1001), 3) := by decide +kernel
theorem dX7_fault_10 : decode cX7_fault 10 = .ok (.ireturn, 1) := by decide +kernel
theorem dX7_fault_11 : decode cX7_fault 11 = .ok (.aload_n 0, 1) := by decide +kernel
theorem dX7_fault_12 : decode cX7_fault 12 = .ok (.getfield 29, 3) := by decide +kernel
theorem dX7_fault_15 : decode cX7_fault 15 = .ok (.aload_n 0, 1) := by decide +kernel
theorem dX7_fault_16 : decode cX7_fault 16 = .ok (.getfield 10, 3) := by decide +kernel
theorem dX7_fault_19 : decode cX7_fault 19 = .ok (.getfield 51, 3) := by decide +kernel
theorem dX7_fault_22 : decode cX7_fault 22 = .ok (.invokevirtual 233, 3) := by decide +kernel
theorem dX7_fault_25 : decode cX7_fault 25 = .ok (.istore_n 2, 1) := by decide +kernel
theorem dX7_fault_26 : decode cX7_fault 26 = .ok (.iload_n 2, 1) := by decide +kernel
theorem dX7_fault_27 : decode cX7_fault 27 = .ok (.iconst (-1), 1) := by decide +kernel
theorem dX7_fault_28 : decode cX7_fault 28 = .ok (.if_icmp .ne 7, 3) := by decide +kernel
theorem dX7_fault_31 : decode cX7_fault 31 = .ok (.sipush (-1004), 3) := by decide +kernel
theorem dX7_fault_34 : decode cX7_fault 34 = .ok (.ireturn, 1) := by decide +kernel
theorem dX7_fault_35 : decode cX7_fault 35 = .ok (.iload_n 1, 1) := by decide +kernel
theorem dX7_fault_36 : decode cX7_fault 36 = .ok (.ifCond .ne 10, 3) := by decide +kernel
theorem dX7_fault_39 : decode cX7_fault 39 = .ok (.iload_n 2, 1) := by decide +kernel
theorem dX7_fault_40 : decode cX7_fault 40 = .ok (.invokestatic 237, 3) := by decide +kernel
theorem dX7_fault_43 : decode cX7_fault 43 = .ok (.goto 7, 3) := by decide +kernel
theorem dX7_fault_46 : decode cX7_fault 46 = .ok (.iload_n 2, 1) := by decide +kernel
theorem dX7_fault_47 : decode cX7_fault 47 = .ok (.invokestatic 240, 3) := by decide +kernel
theorem dX7_fault_50 : decode cX7_fault 50 = .ok (.ireturn, 1) := by decide +kernel
set_option maxRecDepth 20000 in
theorem ggX7_read_X5_faultCode : GoodIn wsX7_read wsX5_faultCode := goodIn_r _ [8, 9, 10, 11, 7, 12, 13, 14, 15, 16, 17, 18, 19, 20, 21, 22, 23, 24, 25, 26, 27, 28, 29, 30, 31, 32, 33, 34, 35, 36, 37, 38, 39, 40, 41, 42, 43, 44, 45, 46, 47, 48, 49, 50, 51, 52, 53, 54, 55, 120, 121, 122] (by decide +kernel) (by decide +kernel)
set_option maxRecDepth 20000 in
theorem gX7_read_X5_faultCode : GoodIn wsX7_read (wsV RX7 233 RX5 yX5_faultCode wsX5_faultCode) := goodIn_app (goodIn_of _ (by decide +kernel)) ggX7_read_X5_faultCode
set_option maxRecDepth 20000 in
theorem ggX7_read_X2_push : GoodIn wsX7_read wsX2_push := goodIn_r _ [60, 61, 62, 63, 64, 65, 59, 66, 67, 68, 69, 70, 71, 72, 73, 74, 75, 76, 77, 78, 79, 80, 81, 82, 83, 84, 85, 49, 86, 55, 87, 88, 33, 89, 90, 123, 124, 109, 110, 111, 112, 113, 114, 115, 116, 117, 118, 119, 122] (by decide +kernel) (by decide +kernel)
set_option maxRecDepth 20000 in
theorem gX7_read_X2_push : GoodIn wsX7_read (wsV RX7 61 RX2 yX2_push wsX2_push) := goodIn_app (goodIn_of _ (by decide +kernel)) ggX7_read_X2_push
set_option maxRecDepth 20000 in
theorem ggX7_read_X5_firstLength : GoodIn wsX7_read wsX5_firstLength := goodIn_r _ [21, 22, 23, 24, 7, 25, 17, 26, 27, 28, 29, 30, 31, 32, 33, 34, 120, 121] (by decide +kernel) (by decide +kernel)
set_option maxRecDepth 20000 in
theorem gX7_read_X5_firstLength : GoodIn wsX7_read (wsV RX7 243 RX5 yX5_firstLength wsX5_firstLength) := goodIn_app (goodIn_of _ (by decide +kernel)) ggX7_read_X5_firstLength
set_option maxRecDepth 20000 in
theorem ggX7_read_X0_renew : GoodIn wsX7_read wsX0_renew := goodIn_r _ [95, 78, 79, 73, 74, 96, 97, 33, 98, 109, 110, 111, 112, 113, 114, 115, 116, 117, 118, 119] (by decide +kernel) (by decide +kernel)
set_option maxRecDepth 20000 in
theorem gX7_read_X0_renew : GoodIn wsX7_read (wsV RX7 246 RX0 yX0_renew wsX0_renew) := goodIn_app (goodIn_of _ (by decide +kernel)) ggX7_read_X0_renew
set_option maxRecDepth 20000 in
theorem ggX7_read_X5_letterAt : GoodIn wsX7_read wsX5_letterAt := goodIn_r _ [29, 17, 30, 31, 32, 33, 34, 120, 121] (by decide +kernel) (by decide +kernel)
set_option maxRecDepth 20000 in
theorem gX7_read_X5_letterAt : GoodIn wsX7_read (wsV RX7 253 RX5 yX5_letterAt wsX5_letterAt) := goodIn_app (goodIn_of _ (by decide +kernel)) ggX7_read_X5_letterAt
set_option maxRecDepth 20000 in
theorem ggX7_read_X4_put : GoodIn wsX7_read wsX4_put := goodIn_r _ [102] (by decide +kernel) (by decide +kernel)
set_option maxRecDepth 20000 in
theorem gX7_read_X4_put : GoodIn wsX7_read (va_wsS RX7 123 yX4_put wsX4_put) := goodIn_app (goodIn_of _ (by decide +kernel)) ggX7_read_X4_put
theorem dX7_read_0 : decode cX7_read 0 = .ok (.aload_n 0, 1) := by decide +kernel
theorem dX7_read_1 : decode cX7_read 1 = .ok (.getfield 29, 3) := by decide +kernel
theorem dX7_read_4 : decode cX7_read 4 = .ok (.aload_n 0, 1) := by decide +kernel
theorem dX7_read_5 : decode cX7_read 5 = .ok (.getfield 10, 3) := by decide +kernel
theorem dX7_read_8 : decode cX7_read 8 = .ok (.getfield 51, 3) := by decide +kernel
theorem dX7_read_11 : decode cX7_read 11 = .ok (.invokevirtual 233, 3) := by decide +kernel
theorem dX7_read_14 : decode cX7_read 14 = .ok (.iconst (-1), 1) := by decide +kernel
theorem dX7_read_15 : decode cX7_read 15 = .ok (.if_icmp .eq 7, 3) := by decide +kernel
theorem dX7_read_18 : decode cX7_read 18 = .ok (.sipush (-1002), 3) := by decide +kernel
theorem dX7_read_21 : decode cX7_read 21 = .ok (.ireturn, 1) := by decide +kernel
theorem dX7_read_22 : decode cX7_read 22 = .ok (.aload_n 0, 1) := by decide +kernel
theorem dX7_read_23 : decode cX7_read 23 = .ok (.getfield 22, 3) := by decide +kernel
theorem dX7_read_26 : decode cX7_read 26 = .ok (.aload_n 0, 1) := by decide +kernel
theorem dX7_read_27 : decode cX7_read 27 = .ok (.getfield 10, 3) := by decide +kernel
theorem dX7_read_30 : decode cX7_read 30 = .ok (.invokevirtual 61, 3) := by decide +kernel
theorem dX7_read_33 : decode cX7_read 33 = .ok (.aload_n 0, 1) := by decide +kernel
theorem dX7_read_34 : decode cX7_read 34 = .ok (.getfield 10, 3) := by decide +kernel
theorem dX7_read_37 : decode cX7_read 37 = .ok (.aload_n 0, 1) := by decide +kernel
theorem dX7_read_38 : decode cX7_read 38 = .ok (.getfield 29, 3) := by decide +kernel
theorem dX7_read_41 : decode cX7_read 41 = .ok (.invokevirtual 243, 3) := by decide +kernel
theorem dX7_read_44 : decode cX7_read 44 = .ok (.invokevirtual 246, 3) := by decide +kernel
theorem dX7_read_47 : decode cX7_read 47 = .ok (.iconst 0, 1) := by decide +kernel
theorem dX7_read_48 : decode cX7_read 48 = .ok (.istore_n 1, 1) := by decide +kernel
theorem dX7_read_49 : decode cX7_read 49 = .ok (.iload_n 1, 1) := by decide +kernel
theorem dX7_read_50 : decode cX7_read 50 = .ok (.aload_n 0, 1) := by decide +kernel
theorem dX7_read_51 : decode cX7_read 51 = .ok (.getfield 10, 3) := by decide +kernel
theorem dX7_read_54 : decode cX7_read 54 = .ok (.getfield 88, 3) := by decide +kernel
theorem dX7_read_57 : decode cX7_read 57 = .ok (.if_icmp .ge 57, 3) := by decide +kernel
theorem dX7_read_60 : decode cX7_read 60 = .ok (.aload_n 0, 1) := by decide +kernel
theorem dX7_read_61 : decode cX7_read 61 = .ok (.getfield 10, 3) := by decide +kernel
theorem dX7_read_64 : decode cX7_read 64 = .ok (.getfield 250, 3) := by decide +kernel
theorem dX7_read_67 : decode cX7_read 67 = .ok (.iload_n 1, 1) := by decide +kernel
theorem dX7_read_68 : decode cX7_read 68 = .ok (.aload_n 0, 1) := by decide +kernel
theorem dX7_read_69 : decode cX7_read 69 = .ok (.getfield 29, 3) := by decide +kernel
theorem dX7_read_72 : decode cX7_read 72 = .ok (.iload_n 1, 1) := by decide +kernel
theorem dX7_read_73 : decode cX7_read 73 = .ok (.invokevirtual 253, 3) := by decide +kernel
theorem dX7_read_76 : decode cX7_read 76 = .ok (.invokestatic 123, 3) := by decide +kernel
theorem dX7_read_79 : decode cX7_read 79 = .ok (.aload_n 0, 1) := by decide +kernel
theorem dX7_read_80 : decode cX7_read 80 = .ok (.getfield 10, 3) := by decide +kernel
theorem dX7_read_83 : decode cX7_read 83 = .ok (.getfield 256, 3) := by decide +kernel
theorem dX7_read_86 : decode cX7_read 86 = .ok (.iload_n 1, 1) := by decide +kernel
theorem dX7_read_87 : decode cX7_read 87 = .ok (.aload_n 0, 1) := by decide +kernel
theorem dX7_read_88 : decode cX7_read 88 = .ok (.getfield 29, 3) := by decide +kernel
theorem dX7_read_91 : decode cX7_read 91 = .ok (.aload_n 0, 1) := by decide +kernel
theorem dX7_read_92 : decode cX7_read 92 = .ok (.getfield 10, 3) := by decide +kernel
theorem dX7_read_95 : decode cX7_read 95 = .ok (.getfield 88, 3) := by decide +kernel
theorem dX7_read_98 : decode cX7_read 98 = .ok (.iconst 1, 1) := by decide +kernel
theorem dX7_read_99 : decode cX7_read 99 = .ok (.iadd, 1) := by decide +kernel
theorem dX7_read_100 : decode cX7_read 100 = .ok (.iload_n 1, 1) := by decide +kernel
theorem dX7_read_101 : decode cX7_read 101 = .ok (.iadd, 1) := by decide +kernel
theorem dX7_read_102 : decode cX7_read 102 = .ok (.invokevirtual 253, 3) := by decide +kernel
theorem dX7_read_105 : decode cX7_read 105 = .ok (.invokestatic 123, 3) := by decide +kernel
theorem dX7_read_108 : decode cX7_read 108 = .ok (.iinc 1 1, 3) := by decide +kernel
theorem dX7_read_111 : decode cX7_read 111 = .ok (.goto (-62), 3) := by decide +kernel
theorem dX7_read_114 : decode cX7_read 114 = .ok (.aload_n 0, 1) := by decide +kernel
theorem dX7_read_115 : decode cX7_read 115 = .ok (.getfield 10, 3) := by decide +kernel
theorem dX7_read_118 : decode cX7_read 118 = .ok (.getfield 88, 3) := by decide +kernel
theorem dX7_read_121 : decode cX7_read 121 = .ok (.ireturn, 1) := by decide +kernel
set_option maxRecDepth 20000 in
theorem ggX7_findFor_X0_wantedAt : GoodIn wsX7_findFor wsX0_wantedAt := goodIn_r _ [7, 8, 9, 10, 6, 11, 12, 13, 14, 15, 16, 17, 18, 19, 20, 21, 22, 88, 89, 90, 91, 92, 93, 94, 95, 96, 97, 98] (by decide +kernel) (by decide +kernel)
set_option maxRecDepth 20000 in
theorem gX7_findFor_X0_wantedAt : GoodIn wsX7_findFor (wsV RX7 155 RX0 yX0_wantedAt wsX0_wantedAt) := goodIn_app (goodIn_of _ (by decide +kernel)) ggX7_findFor_X0_wantedAt
set_option maxRecDepth 20000 in
theorem ggX7_findFor_X1_find : GoodIn wsX7_findFor wsX1_find := goodIn_r _ [27, 28, 29, 30, 31, 32, 33, 34, 35, 36, 37, 38, 39, 40, 41, 42, 43, 44, 45, 46, 47, 48, 49, 50, 51, 52, 26, 53, 54, 55, 56, 57, 58, 59, 60, 61, 62, 63, 64, 65, 66, 67, 68, 69, 70, 71, 72, 73, 74, 75, 76, 77, 78, 79, 80, 81, 99, 100, 101, 102, 103, 104, 105, 106] (by decide +kernel) (by decide +kernel)
set_option maxRecDepth 20000 in
theorem gX7_findFor_X1_find : GoodIn wsX7_findFor (wsV RX7 201 RX1 yX1_find wsX1_find) := goodIn_app (goodIn_of _ (by decide +kernel)) ggX7_findFor_X1_find
theorem dX7_findFor_0 : decode cX7_findFor 0 = .ok (.aload_n 0, 1) := by decide +kernel
theorem dX7_findFor_1 : decode cX7_findFor 1 = .ok (.getfield 36, 3) := by decide +kernel
theorem dX7_findFor_4 : decode cX7_findFor 4 = .ok (.aload_n 0, 1) := by decide +kernel
theorem dX7_findFor_5 : decode cX7_findFor 5 = .ok (.getfield 10, 3) := by decide +kernel
theorem dX7_findFor_8 : decode cX7_findFor 8 = .ok (.getfield 51, 3) := by decide +kernel
theorem dX7_findFor_11 : decode cX7_findFor 11 = .ok (.aload_n 0, 1) := by decide +kernel
theorem dX7_findFor_12 : decode cX7_findFor 12 = .ok (.getfield 10, 3) := by decide +kernel
theorem dX7_findFor_15 : decode cX7_findFor 15 = .ok (.iload_n 1, 1) := by decide +kernel
theorem dX7_findFor_16 : decode cX7_findFor 16 = .ok (.iconst 0, 1) := by decide +kernel
theorem dX7_findFor_17 : decode cX7_findFor 17 = .ok (.invokevirtual 155, 3) := by decide +kernel
theorem dX7_findFor_20 : decode cX7_findFor 20 = .ok (.aload_n 0, 1) := by decide +kernel
theorem dX7_findFor_21 : decode cX7_findFor 21 = .ok (.getfield 10, 3) := by decide +kernel
theorem dX7_findFor_24 : decode cX7_findFor 24 = .ok (.iload_n 1, 1) := by decide +kernel
theorem dX7_findFor_25 : decode cX7_findFor 25 = .ok (.iconst 1, 1) := by decide +kernel
theorem dX7_findFor_26 : decode cX7_findFor 26 = .ok (.invokevirtual 155, 3) := by decide +kernel
theorem dX7_findFor_29 : decode cX7_findFor 29 = .ok (.invokevirtual 201, 3) := by decide +kernel
theorem dX7_findFor_32 : decode cX7_findFor 32 = .ok (.ireturn, 1) := by decide +kernel
set_option maxRecDepth 20000 in
theorem ggX7_marginOrNot_X0_wantedAt : GoodIn wsX7_marginOrNot wsX0_wantedAt := goodIn_r _ [6, 7, 8, 9, 5, 10, 11, 12, 13, 14, 15, 16, 17, 18, 19, 20, 21, 71, 72, 73, 74, 75, 76, 77, 78, 79, 80, 81] (by decide +kernel) (by decide +kernel)
set_option maxRecDepth 20000 in
theorem gX7_marginOrNot_X0_wantedAt : GoodIn wsX7_marginOrNot (wsV RX7 155 RX0 yX0_wantedAt wsX0_wantedAt) := goodIn_app (goodIn_of _ (by decide +kernel)) ggX7_marginOrNot_X0_wantedAt
set_option maxRecDepth 20000 in
theorem ggX7_marginOrNot_X3_has : GoodIn wsX7_marginOrNot wsX3_has := goodIn_r _ [26, 27, 28, 29, 25, 30, 31, 82] (by decide +kernel) (by decide +kernel)
set_option maxRecDepth 20000 in
theorem gX7_marginOrNot_X3_has : GoodIn wsX7_marginOrNot (wsV RX7 132 RX3 yX3_has wsX3_has) := goodIn_app (goodIn_of _ (by decide +kernel)) ggX7_marginOrNot_X3_has
set_option maxRecDepth 20000 in
theorem ggX7_marginOrNot_X0_marginAt : GoodIn wsX7_marginOrNot wsX0_marginAt := goodIn_r _ [35, 36, 37, 38, 39, 5, 40, 41, 18, 19, 20, 21, 42, 43, 44, 45, 46, 47, 48, 49, 3, 4, 6, 7, 8, 9, 10, 11, 12, 13, 14, 15, 16, 17, 50, 51, 52, 25, 53, 31, 54, 55, 56, 57, 58, 59, 60, 61, 62, 63, 64, 27, 28, 29, 30, 71, 72, 73, 74, 75, 76, 77, 78, 79, 80, 81, 82] (by decide +kernel) (by decide +kernel)
set_option maxRecDepth 20000 in
theorem gX7_marginOrNot_X0_marginAt : GoodIn wsX7_marginOrNot (wsV RX7 259 RX0 yX0_marginAt wsX0_marginAt) := goodIn_app (goodIn_of _ (by decide +kernel)) ggX7_marginOrNot_X0_marginAt
theorem dX7_marginOrNot_0 : decode cX7_marginOrNot 0 = .ok (.aload_n 0, 1) := by decide +kernel
theorem dX7_marginOrNot_1 : decode cX7_marginOrNot 1 = .ok (.getfield 10, 3) := by decide +kernel
theorem dX7_marginOrNot_4 : decode cX7_marginOrNot 4 = .ok (.getfield 51, 3) := by decide +kernel
theorem dX7_marginOrNot_7 : decode cX7_marginOrNot 7 = .ok (.aload_n 0, 1) := by decide +kernel
theorem dX7_marginOrNot_8 : decode cX7_marginOrNot 8 = .ok (.getfield 10, 3) := by decide +kernel
theorem dX7_marginOrNot_11 : decode cX7_marginOrNot 11 = .ok (.iload_n 1, 1) := by decide +kernel
theorem dX7_marginOrNot_12 : decode cX7_marginOrNot 12 = .ok (.iload_n 2, 1) := by decide +kernel
theorem dX7_marginOrNot_13 : decode cX7_marginOrNot 13 = .ok (.invokevirtual 155, 3) := by decide +kernel
theorem dX7_marginOrNot_16 : decode cX7_marginOrNot 16 = .ok (.invokevirtual 132, 3) := by decide +kernel
theorem dX7_marginOrNot_19 : decode cX7_marginOrNot 19 = .ok (.ifCond .eq 15, 3) := by decide +kernel
theorem dX7_marginOrNot_22 : decode cX7_marginOrNot 22 = .ok (.aload_n 0, 1) := by decide +kernel
theorem dX7_marginOrNot_23 : decode cX7_marginOrNot 23 = .ok (.getfield 10, 3) := by decide +kernel
theorem dX7_marginOrNot_26 : decode cX7_marginOrNot 26 = .ok (.iload_n 1, 1) := by decide +kernel
theorem dX7_marginOrNot_27 : decode cX7_marginOrNot 27 = .ok (.iload_n 2, 1) := by decide +kernel
theorem dX7_marginOrNot_28 : decode cX7_marginOrNot 28 = .ok (.invokevirtual 259, 3) := by decide +kernel
theorem dX7_marginOrNot_31 : decode cX7_marginOrNot 31 = .ok (.goto 6, 3) := by decide +kernel
theorem dX7_marginOrNot_34 : decode cX7_marginOrNot 34 = .ok (.sipush (-1004), 3) := by decide +kernel
theorem dX7_marginOrNot_37 : decode cX7_marginOrNot 37 = .ok (.ireturn, 1) := by decide +kernel
set_option maxRecDepth 20000 in
theorem ggX7_marginOrZero_X0_wantedAt : GoodIn wsX7_marginOrZero wsX0_wantedAt := goodIn_r _ [6, 7, 8, 9, 5, 10, 11, 12, 13, 14, 15, 16, 17, 18, 19, 20, 21, 71, 72, 73, 74, 75, 76, 77, 78, 79, 80, 81] (by decide +kernel) (by decide +kernel)
set_option maxRecDepth 20000 in
theorem gX7_marginOrZero_X0_wantedAt : GoodIn wsX7_marginOrZero (wsV RX7 155 RX0 yX0_wantedAt wsX0_wantedAt) := goodIn_app (goodIn_of _ (by decide +kernel)) ggX7_marginOrZero_X0_wantedAt
set_option maxRecDepth 20000 in
theorem ggX7_marginOrZero_X3_has : GoodIn wsX7_marginOrZero wsX3_has := goodIn_r _ [26, 27, 28, 29, 25, 30, 31, 82] (by decide +kernel) (by decide +kernel)
set_option maxRecDepth 20000 in
theorem gX7_marginOrZero_X3_has : GoodIn wsX7_marginOrZero (wsV RX7 132 RX3 yX3_has wsX3_has) := goodIn_app (goodIn_of _ (by decide +kernel)) ggX7_marginOrZero_X3_has
set_option maxRecDepth 20000 in
theorem ggX7_marginOrZero_X0_marginAt : GoodIn wsX7_marginOrZero wsX0_marginAt := goodIn_r _ [35, 36, 37, 38, 39, 5, 40, 41, 18, 19, 20, 21, 42, 43, 44, 45, 46, 47, 48, 49, 3, 4, 6, 7, 8, 9, 10, 11, 12, 13, 14, 15, 16, 17, 50, 51, 52, 25, 53, 31, 54, 55, 56, 57, 58, 59, 60, 61, 62, 63, 64, 27, 28, 29, 30, 71, 72, 73, 74, 75, 76, 77, 78, 79, 80, 81, 82] (by decide +kernel) (by decide +kernel)
set_option maxRecDepth 20000 in
theorem gX7_marginOrZero_X0_marginAt : GoodIn wsX7_marginOrZero (wsV RX7 259 RX0 yX0_marginAt wsX0_marginAt) := goodIn_app (goodIn_of _ (by decide +kernel)) ggX7_marginOrZero_X0_marginAt
theorem dX7_marginOrZero_0 : decode cX7_marginOrZero 0 = .ok (.aload_n 0, 1) := by decide +kernel
theorem dX7_marginOrZero_1 : decode cX7_marginOrZero 1 = .ok (.getfield 10, 3) := by decide +kernel
theorem dX7_marginOrZero_4 : decode cX7_marginOrZero 4 = .ok (.getfield 51, 3) := by decide +kernel
theorem dX7_marginOrZero_7 : decode cX7_marginOrZero 7 = .ok (.aload_n 0, 1) := by decide +kernel
theorem dX7_marginOrZero_8 : decode cX7_marginOrZero 8 = .ok (.getfield 10, 3) := by decide +kernel
theorem dX7_marginOrZero_11 : decode cX7_marginOrZero 11 = .ok (.iload_n 1, 1) := by decide +kernel
theorem dX7_marginOrZero_12 : decode cX7_marginOrZero 12 = .ok (.iload_n 2, 1) := by decide +kernel
theorem dX7_marginOrZero_13 : decode cX7_marginOrZero 13 = .ok (.invokevirtual 155, 3) := by decide +kernel
theorem dX7_marginOrZero_16 : decode cX7_marginOrZero 16 = .ok (.invokevirtual 132, 3) := by decide +kernel
theorem dX7_marginOrZero_19 : decode cX7_marginOrZero 19 = .ok (.ifCond .eq 15, 3) := by decide +kernel
theorem dX7_marginOrZero_22 : decode cX7_marginOrZero 22 = .ok (.aload_n 0, 1) := by decide +kernel
theorem dX7_marginOrZero_23 : decode cX7_marginOrZero 23 = .ok (.getfield 10, 3) := by decide +kernel
theorem dX7_marginOrZero_26 : decode cX7_marginOrZero 26 = .ok (.iload_n 1, 1) := by decide +kernel
theorem dX7_marginOrZero_27 : decode cX7_marginOrZero 27 = .ok (.iload_n 2, 1) := by decide +kernel
theorem dX7_marginOrZero_28 : decode cX7_marginOrZero 28 = .ok (.invokevirtual 259, 3) := by decide +kernel
theorem dX7_marginOrZero_31 : decode cX7_marginOrZero 31 = .ok (.goto 4, 3) := by decide +kernel
theorem dX7_marginOrZero_34 : decode cX7_marginOrZero 34 = .ok (.iconst 0, 1) := by decide +kernel
theorem dX7_marginOrZero_35 : decode cX7_marginOrZero 35 = .ok (.ireturn, 1) := by decide +kernel
theorem dX7_isLetter_0 : decode cX7_isLetter 0 = .ok (.iload_n 0, 1) := by decide +kernel
theorem dX7_isLetter_1 : decode cX7_isLetter 1 = .ok (.ifCond .lt 13, 3) := by decide +kernel
theorem dX7_isLetter_4 : decode cX7_isLetter 4 = .ok (.iload_n 0, 1) := by decide +kernel
theorem dX7_isLetter_5 : decode cX7_isLetter 5 = .ok (.bipush 10, 2) := by decide +kernel
theorem dX7_isLetter_7 : decode cX7_isLetter 7 = .ok (.if_icmp .ge 7, 3) := by decide +kernel
theorem dX7_isLetter_10 : decode cX7_isLetter 10 = .ok (.iconst 1, 1) := by decide +kernel
theorem dX7_isLetter_11 : decode cX7_isLetter 11 = .ok (.goto 4, 3) := by decide +kernel
theorem dX7_isLetter_14 : decode cX7_isLetter 14 = .ok (.iconst 0, 1) := by decide +kernel
theorem dX7_isLetter_15 : decode cX7_isLetter 15 = .ok (.ireturn, 1) := by decide +kernel
theorem dX7_isSign_0 : decode cX7_isSign 0 = .ok (.iload_n 0, 1) := by decide +kernel
theorem dX7_isSign_1 : decode cX7_isSign 1 = .ok (.ifCond .lt 14, 3) := by decide +kernel
theorem dX7_isSign_4 : decode cX7_isSign 4 = .ok (.iload_n 0, 1) := by decide +kernel
theorem dX7_isSign_5 : decode cX7_isSign 5 = .ok (.ldc_w 262, 3) := by decide +kernel
theorem dX7_isSign_8 : decode cX7_isSign 8 = .ok (.if_icmp .ge 7, 3) := by decide +kernel
theorem dX7_isSign_11 : decode cX7_isSign 11 = .ok (.iconst 1, 1) := by decide +kernel
theorem dX7_isSign_12 : decode cX7_isSign 12 = .ok (.goto 4, 3) := by decide +kernel
theorem dX7_isSign_15 : decode cX7_isSign 15 = .ok (.iconst 0, 1) := by decide +kernel
theorem dX7_isSign_16 : decode cX7_isSign 16 = .ok (.ireturn, 1) := by decide +kernel
theorem dX7_isForce_0 : decode cX7_isForce 0 = .ok (.iload_n 0, 1) := by decide +kernel
theorem dX7_isForce_1 : decode cX7_isForce 1 = .ok (.iconst 1, 1) := by decide +kernel
theorem dX7_isForce_2 : decode cX7_isForce 2 = .ok (.if_icmp .lt 13, 3) := by decide +kernel
theorem dX7_isForce_5 : decode cX7_isForce 5 = .ok (.iload_n 0, 1) := by decide +kernel
theorem dX7_isForce_6 : decode cX7_isForce 6 = .ok (.bipush 99, 2) := by decide +kernel
theorem dX7_isForce_8 : decode cX7_isForce 8 = .ok (.if_icmp .gt 7, 3) := by decide +kernel
theorem dX7_isForce_11 : decode cX7_isForce 11 = .ok (.iconst 1, 1) := by decide +kernel
theorem dX7_isForce_12 : decode cX7_isForce 12 = .ok (.goto 4, 3) := by decide +kernel
theorem dX7_isForce_15 : decode cX7_isForce 15 = .ok (.iconst 0, 1) := by decide +kernel
theorem dX7_isForce_16 : decode cX7_isForce 16 = .ok (.ireturn, 1) := by decide +kernel
theorem dX7_isOneOfTwo_0 : decode cX7_isOneOfTwo 0 = .ok (.iload_n 0, 1) := by decide +kernel
theorem dX7_isOneOfTwo_1 : decode cX7_isOneOfTwo 1 = .ok (.ifCond .eq 8, 3) := by decide +kernel
theorem dX7_isOneOfTwo_4 : decode cX7_isOneOfTwo 4 = .ok (.iload_n 0, 1) := by decide +kernel
theorem dX7_isOneOfTwo_5 : decode cX7_isOneOfTwo 5 = .ok (.iconst 1, 1) := by decide +kernel
theorem dX7_isOneOfTwo_6 : decode cX7_isOneOfTwo 6 = .ok (.if_icmp .ne 7, 3) := by decide +kernel
theorem dX7_isOneOfTwo_9 : decode cX7_isOneOfTwo 9 = .ok (.iconst 1, 1) := by decide +kernel
theorem dX7_isOneOfTwo_10 : decode cX7_isOneOfTwo 10 = .ok (.goto 4, 3) := by decide +kernel
theorem dX7_isOneOfTwo_13 : decode cX7_isOneOfTwo 13 = .ok (.iconst 0, 1) := by decide +kernel
theorem dX7_isOneOfTwo_14 : decode cX7_isOneOfTwo 14 = .ok (.ireturn, 1) := by decide +kernel
theorem dX7_otherWay_0 : decode cX7_otherWay 0 = .ok (.iload_n 0, 1) := by decide +kernel
theorem dX7_otherWay_1 : decode cX7_otherWay 1 = .ok (.ifCond .ne 7, 3) := by decide +kernel
theorem dX7_otherWay_4 : decode cX7_otherWay 4 = .ok (.iconst 1, 1) := by decide +kernel
theorem dX7_otherWay_5 : decode cX7_otherWay 5 = .ok (.goto 4, 3) := by decide +kernel
theorem dX7_otherWay_8 : decode cX7_otherWay 8 = .ok (.iconst 0, 1) := by decide +kernel
theorem dX7_otherWay_9 : decode cX7_otherWay 9 = .ok (.ireturn, 1) := by decide +kernel
theorem dX7_asNumber_0 : decode cX7_asNumber 0 = .ok (.iload_n 0, 1) := by decide +kernel
theorem dX7_asNumber_1 : decode cX7_asNumber 1 = .ok (.ifCond .eq 7, 3) := by decide +kernel
theorem dX7_asNumber_4 : decode cX7_asNumber 4 = .ok (.iconst 1, 1) := by decide +kernel
theorem dX7_asNumber_5 : decode cX7_asNumber 5 = .ok (.goto 4, 3) := by decide +kernel
theorem dX7_asNumber_8 : decode cX7_asNumber 8 = .ok (.iconst 0, 1) := by decide +kernel
theorem dX7_asNumber_9 : decode cX7_asNumber 9 = .ok (.ireturn, 1) := by decide +kernel
theorem dX7_foundOrNot_0 : decode cX7_foundOrNot 0 = .ok (.iload_n 0, 1) := by decide +kernel
theorem dX7_foundOrNot_1 : decode cX7_foundOrNot 1 = .ok (.iconst (-1), 1) := by decide +kernel
theorem dX7_foundOrNot_2 : decode cX7_foundOrNot 2 = .ok (.if_icmp .ne 9, 3) := by decide +kernel
theorem dX7_foundOrNot_5 : decode cX7_foundOrNot 5 = .ok (.sipush (-1004), 3) := by decide +kernel
theorem dX7_foundOrNot_8 : decode cX7_foundOrNot 8 = .ok (.goto 4, 3) := by decide +kernel
theorem dX7_foundOrNot_11 : decode cX7_foundOrNot 11 = .ok (.iload_n 0, 1) := by decide +kernel
theorem dX7_foundOrNot_12 : decode cX7_foundOrNot 12 = .ok (.ireturn, 1) := by decide +kernel
theorem dX7_bitsOf_0 : decode cX7_bitsOf 0 = .ok (.fload_n 0, 1) := by decide +kernel
theorem dX7_bitsOf_1 : decode cX7_bitsOf 1 = .ok (.fconst 0, 1) := by decide +kernel
theorem dX7_bitsOf_2 : decode cX7_bitsOf 2 = .ok (.fcmp .l, 1) := by decide +kernel
theorem dX7_bitsOf_3 : decode cX7_bitsOf 3 = .ok (.ifCond .ne 5, 3) := by decide +kernel
theorem dX7_bitsOf_6 : decode cX7_bitsOf 6 = .ok (.iconst 0, 1) := by decide +kernel
theorem dX7_bitsOf_7 : decode cX7_bitsOf 7 = .ok (.ireturn, 1) := by decide +kernel
theorem dX7_bitsOf_8 : decode cX7_bitsOf 8 = .ok (.fload_n 0, 1) := by decide +kernel
theorem dX7_bitsOf_9 : decode cX7_bitsOf 9 = .ok (.fconst 0, 1) := by decide +kernel
theorem dX7_bitsOf_10 : decode cX7_bitsOf 10 = .ok (.fcmp .g, 1) := by decide +kernel
theorem dX7_bitsOf_11 : decode cX7_bitsOf 11 = .ok (.ifCond .ge 8, 3) := by decide +kernel
theorem dX7_bitsOf_14 : decode cX7_bitsOf 14 = .ok (.fload_n 0, 1) := by decide +kernel
theorem dX7_bitsOf_15 : decode cX7_bitsOf 15 = .ok (.fneg, 1) := by decide +kernel
theorem dX7_bitsOf_16 : decode cX7_bitsOf 16 = .ok (.goto 4, 3) := by decide +kernel
theorem dX7_bitsOf_19 : decode cX7_bitsOf 19 = .ok (.fload_n 0, 1) := by decide +kernel
theorem dX7_bitsOf_20 : decode cX7_bitsOf 20 = .ok (.fstore_n 1, 1) := by decide +kernel
theorem dX7_bitsOf_21 : decode cX7_bitsOf 21 = .ok (.bipush 127, 2) := by decide +kernel
theorem dX7_bitsOf_23 : decode cX7_bitsOf 23 = .ok (.istore_n 2, 1) := by decide +kernel
theorem dX7_bitsOf_24 : decode cX7_bitsOf 24 = .ok (.iconst 0, 1) := by decide +kernel
theorem dX7_bitsOf_25 : decode cX7_bitsOf 25 = .ok (.istore_n 3, 1) := by decide +kernel
theorem dX7_bitsOf_26 : decode cX7_bitsOf 26 = .ok (.iload_n 3, 1) := by decide +kernel
theorem dX7_bitsOf_27 : decode cX7_bitsOf 27 = .ok (.bipush 16, 2) := by decide +kernel
theorem dX7_bitsOf_29 : decode cX7_bitsOf 29 = .ok (.if_icmp .ge 22, 3) := by decide +kernel
theorem dX7_bitsOf_32 : decode cX7_bitsOf 32 = .ok (.fload_n 1, 1) := by decide +kernel
theorem dX7_bitsOf_33 : decode cX7_bitsOf 33 = .ok (.fconst 2, 1) := by decide +kernel
theorem dX7_bitsOf_34 : decode cX7_bitsOf 34 = .ok (.fcmp .l, 1) := by decide +kernel
theorem dX7_bitsOf_35 : decode cX7_bitsOf 35 = .ok (.ifCond .lt 16, 3) := by decide +kernel
theorem dX7_bitsOf_38 : decode cX7_bitsOf 38 = .ok (.fload_n 1, 1) := by decide +kernel
theorem dX7_bitsOf_39 : decode cX7_bitsOf 39 = .ok (.fconst 2, 1) := by decide +kernel
theorem dX7_bitsOf_40 : decode cX7_bitsOf 40 = .ok (.fdiv, 1) := by decide +kernel
theorem dX7_bitsOf_41 : decode cX7_bitsOf 41 = .ok (.fstore_n 1, 1) := by decide +kernel
theorem dX7_bitsOf_42 : decode cX7_bitsOf 42 = .ok (.iinc 2 1, 3) := by decide +kernel
theorem dX7_bitsOf_45 : decode cX7_bitsOf 45 = .ok (.iinc 3 1, 3) := by decide +kernel
theorem dX7_bitsOf_48 : decode cX7_bitsOf 48 = .ok (.goto (-22), 3) := by decide +kernel
theorem dX7_bitsOf_51 : decode cX7_bitsOf 51 = .ok (.iconst 0, 1) := by decide +kernel
theorem dX7_bitsOf_52 : decode cX7_bitsOf 52 = .ok (.istore_n 3, 1) := by decide +kernel
theorem dX7_bitsOf_53 : decode cX7_bitsOf 53 = .ok (.iload_n 3, 1) := by decide +kernel
theorem dX7_bitsOf_54 : decode cX7_bitsOf 54 = .ok (.bipush 16, 2) := by decide +kernel
theorem dX7_bitsOf_56 : decode cX7_bitsOf 56 = .ok (.if_icmp .ge 22, 3) := by decide +kernel
theorem dX7_bitsOf_59 : decode cX7_bitsOf 59 = .ok (.fload_n 1, 1) := by decide +kernel
theorem dX7_bitsOf_60 : decode cX7_bitsOf 60 = .ok (.fconst 1, 1) := by decide +kernel
theorem dX7_bitsOf_61 : decode cX7_bitsOf 61 = .ok (.fcmp .g, 1) := by decide +kernel
theorem dX7_bitsOf_62 : decode cX7_bitsOf 62 = .ok (.ifCond .ge 16, 3) := by decide +kernel
theorem dX7_bitsOf_65 : decode cX7_bitsOf 65 = .ok (.fload_n 1, 1) := by decide +kernel
theorem dX7_bitsOf_66 : decode cX7_bitsOf 66 = .ok (.fconst 2, 1) := by decide +kernel
theorem dX7_bitsOf_67 : decode cX7_bitsOf 67 = .ok (.fmul, 1) := by decide +kernel
theorem dX7_bitsOf_68 : decode cX7_bitsOf 68 = .ok (.fstore_n 1, 1) := by decide +kernel
theorem dX7_bitsOf_69 : decode cX7_bitsOf 69 = .ok (.iinc 2 (-1), 3) := by decide +kernel
theorem dX7_bitsOf_72 : decode cX7_bitsOf 72 = .ok (.iinc 3 1, 3) := by decide +kernel
theorem dX7_bitsOf_75 : decode cX7_bitsOf 75 = .ok (.goto (-22), 3) := by decide +kernel
theorem dX7_bitsOf_78 : decode cX7_bitsOf 78 = .ok (.fload_n 1, 1) := by decide +kernel
theorem dX7_bitsOf_79 : decode cX7_bitsOf 79 = .ok (.fconst 1, 1) := by decide +kernel
theorem dX7_bitsOf_80 : decode cX7_bitsOf 80 = .ok (.fsub, 1) := by decide +kernel
theorem dX7_bitsOf_81 : decode cX7_bitsOf 81 = .ok (.ldc_w 263, 3) := by decide +kernel
theorem dX7_bitsOf_84 : decode cX7_bitsOf 84 = .ok (.fmul, 1) := by decide +kernel
theorem dX7_bitsOf_85 : decode cX7_bitsOf 85 = .ok (.f2i, 1) := by decide +kernel
theorem dX7_bitsOf_86 : decode cX7_bitsOf 86 = .ok (.istore_n 3, 1) := by decide +kernel
theorem dX7_bitsOf_87 : decode cX7_bitsOf 87 = .ok (.fload_n 0, 1) := by decide +kernel
theorem dX7_bitsOf_88 : decode cX7_bitsOf 88 = .ok (.fconst 0, 1) := by decide +kernel
theorem dX7_bitsOf_89 : decode cX7_bitsOf 89 = .ok (.fcmp .g, 1) := by decide +kernel
theorem dX7_bitsOf_90 : decode cX7_bitsOf 90 = .ok (.ifCond .ge 9, 3) := by decide +kernel
theorem dX7_bitsOf_93 : decode cX7_bitsOf 93 = .ok (.ldc_w 264, 3) := by decide +kernel
theorem dX7_bitsOf_96 : decode cX7_bitsOf 96 = .ok (.goto 4, 3) := by decide +kernel
theorem dX7_bitsOf_99 : decode cX7_bitsOf 99 = .ok (.iconst 0, 1) := by decide +kernel
theorem dX7_bitsOf_100 : decode cX7_bitsOf 100 = .ok (.iload_n 2, 1) := by decide +kernel
theorem dX7_bitsOf_101 : decode cX7_bitsOf 101 = .ok (.bipush 23, 2) := by decide +kernel
theorem dX7_bitsOf_103 : decode cX7_bitsOf 103 = .ok (.ishl, 1) := by decide +kernel
theorem dX7_bitsOf_104 : decode cX7_bitsOf 104 = .ok (.ior, 1) := by decide +kernel
theorem dX7_bitsOf_105 : decode cX7_bitsOf 105 = .ok (.iload_n 3, 1) := by decide +kernel
theorem dX7_bitsOf_106 : decode cX7_bitsOf 106 = .ok (.ior, 1) := by decide +kernel
theorem dX7_bitsOf_107 : decode cX7_bitsOf 107 = .ok (.ireturn, 1) := by decide +kernel
theorem dX8_init_0 : decode cX8_init 0 = .ok (.aload_n 0, 1) := by decide +kernel
theorem dX8_init_1 : decode cX8_init 1 = .ok (.invokespecial 1, 3) := by decide +kernel
theorem dX8_init_4 : decode cX8_init 4 = .ok (.aload_n 0, 1) := by decide +kernel
theorem dX8_init_5 : decode cX8_init 5 = .ok (.bipush 49, 2) := by decide +kernel
theorem dX8_init_7 : decode cX8_init 7 = .ok (.newarray .int, 2) := by decide +kernel
theorem dX8_init_9 : decode cX8_init 9 = .ok (.putfield 7, 3) := by decide +kernel
theorem dX8_init_12 : decode cX8_init 12 = .ok (.aload_n 0, 1) := by decide +kernel
theorem dX8_init_13 : decode cX8_init 13 = .ok (.bipush 49, 2) := by decide +kernel
theorem dX8_init_15 : decode cX8_init 15 = .ok (.newarray .int, 2) := by decide +kernel
theorem dX8_init_17 : decode cX8_init 17 = .ok (.putfield 13, 3) := by decide +kernel
theorem dX8_init_20 : decode cX8_init 20 = .ok (.aload_n 0, 1) := by decide +kernel
theorem dX8_init_21 : decode cX8_init 21 = .ok (.bipush 49, 2) := by decide +kernel
theorem dX8_init_23 : decode cX8_init 23 = .ok (.newarray .int, 2) := by decide +kernel
theorem dX8_init_25 : decode cX8_init 25 = .ok (.putfield 16, 3) := by decide +kernel
theorem dX8_init_28 : decode cX8_init 28 = .ok (.aload_n 0, 1) := by decide +kernel
theorem dX8_init_29 : decode cX8_init 29 = .ok (.sipush 196, 3) := by decide +kernel
theorem dX8_init_32 : decode cX8_init 32 = .ok (.newarray .int, 2) := by decide +kernel
theorem dX8_init_34 : decode cX8_init 34 = .ok (.putfield 19, 3) := by decide +kernel
theorem dX8_init_37 : decode cX8_init 37 = .ok (.aload_n 0, 1) := by decide +kernel
theorem dX8_init_38 : decode cX8_init 38 = .ok (.bipush 30, 2) := by decide +kernel
theorem dX8_init_40 : decode cX8_init 40 = .ok (.newarray .int, 2) := by decide +kernel
theorem dX8_init_42 : decode cX8_init 42 = .ok (.putfield 22, 3) := by decide +kernel
theorem dX8_init_45 : decode cX8_init 45 = .ok (.aload_n 0, 1) := by decide +kernel
theorem dX8_init_46 : decode cX8_init 46 = .ok (.getfield 7, 3) := by decide +kernel
theorem dX8_init_49 : decode cX8_init 49 = .ok (.iconst 2, 1) := by decide +kernel
theorem dX8_init_50 : decode cX8_init 50 = .ok (.bipush 20, 2) := by decide +kernel
theorem dX8_init_52 : decode cX8_init 52 = .ok (.iastore, 1) := by decide +kernel
theorem dX8_init_53 : decode cX8_init 53 = .ok (.aload_n 0, 1) := by decide +kernel
theorem dX8_init_54 : decode cX8_init 54 = .ok (.getfield 7, 3) := by decide +kernel
theorem dX8_init_57 : decode cX8_init 57 = .ok (.iconst 5, 1) := by decide +kernel
theorem dX8_init_58 : decode cX8_init 58 = .ok (.iconst 4, 1) := by decide +kernel
theorem dX8_init_59 : decode cX8_init 59 = .ok (.iastore, 1) := by decide +kernel
theorem dX8_init_60 : decode cX8_init 60 = .ok (.aload_n 0, 1) := by decide +kernel
theorem dX8_init_61 : decode cX8_init 61 = .ok (.getfield 7, 3) := by decide +kernel
theorem dX8_init_64 : decode cX8_init 64 = .ok (.bipush 6, 2) := by decide +kernel
theorem dX8_init_66 : decode cX8_init 66 = .ok (.iconst 3, 1) := by decide +kernel
theorem dX8_init_67 : decode cX8_init 67 = .ok (.iastore, 1) := by decide +kernel
theorem dX8_init_68 : decode cX8_init 68 = .ok (.iconst 0, 1) := by decide +kernel
theorem dX8_init_69 : decode cX8_init 69 = .ok (.istore_n 1, 1) := by decide +kernel
theorem dX8_init_70 : decode cX8_init 70 = .ok (.iload_n 1, 1) := by decide +kernel
theorem dX8_init_71 : decode cX8_init 71 = .ok (.bipush 10, 2) := by decide +kernel
theorem dX8_init_73 : decode cX8_init 73 = .ok (.if_icmp .ge 19, 3) := by decide +kernel
theorem dX8_init_76 : decode cX8_init 76 = .ok (.aload_n 0, 1) := by decide +kernel
theorem dX8_init_77 : decode cX8_init 77 = .ok (.getfield 7, 3) := by decide +kernel
theorem dX8_init_80 : decode cX8_init 80 = .ok (.bipush 7, 2) := by decide +kernel
theorem dX8_init_82 : decode cX8_init 82 = .ok (.iload_n 1, 1) := by decide +kernel
theorem dX8_init_83 : decode cX8_init 83 = .ok (.iadd, 1) := by decide +kernel
theorem dX8_init_84 : decode cX8_init 84 = .ok (.iconst (-1), 1) := by decide +kernel
theorem dX8_init_85 : decode cX8_init 85 = .ok (.iastore, 1) := by decide +kernel
theorem dX8_init_86 : decode cX8_init 86 = .ok (.iinc 1 1, 3) := by decide +kernel
theorem dX8_init_89 : decode cX8_init 89 = .ok (.goto (-19), 3) := by decide +kernel
theorem dX8_init_92 : decode cX8_init 92 = .ok (.return_, 1) := by decide +kernel
theorem dX8_in_0 : decode cX8_in 0 = .ok (.iload_n 0, 1) := by decide +kernel
theorem dX8_in_1 : decode cX8_in 1 = .ok (.iload_n 1, 1) := by decide +kernel
theorem dX8_in_2 : decode cX8_in 2 = .ok (.if_icmp .lt 12, 3) := by decide +kernel
theorem dX8_in_5 : decode cX8_in 5 = .ok (.iload_n 0, 1) := by decide +kernel
theorem dX8_in_6 : decode cX8_in 6 = .ok (.iload_n 2, 1) := by decide +kernel
theorem dX8_in_7 : decode cX8_in 7 = .ok (.if_icmp .gt 7, 3) := by decide +kernel
theorem dX8_in_10 : decode cX8_in 10 = .ok (.iconst 1, 1) := by decide +kernel
theorem dX8_in_11 : decode cX8_in 11 = .ok (.goto 4, 3) := by decide +kernel
theorem dX8_in_14 : decode cX8_in 14 = .ok (.iconst 0, 1) := by decide +kernel
theorem dX8_in_15 : decode cX8_in 15 = .ok (.ireturn, 1) := by decide +kernel
theorem dX8_begins_0 : decode cX8_begins 0 = .ok (.iconst 0, 1) := by decide +kernel
theorem dX8_begins_1 : decode cX8_begins 1 = .ok (.istore_n 1, 1) := by decide +kernel
theorem dX8_begins_2 : decode cX8_begins 2 = .ok (.iload_n 1, 1) := by decide +kernel
theorem dX8_begins_3 : decode cX8_begins 3 = .ok (.bipush 49, 2) := by decide +kernel
theorem dX8_begins_5 : decode cX8_begins 5 = .ok (.if_icmp .ge 21, 3) := by decide +kernel
theorem dX8_begins_8 : decode cX8_begins 8 = .ok (.aload_n 0, 1) := by decide +kernel
theorem dX8_begins_9 : decode cX8_begins 9 = .ok (.getfield 13, 3) := by decide +kernel
theorem dX8_begins_12 : decode cX8_begins 12 = .ok (.iload_n 1, 1) := by decide +kernel
theorem dX8_begins_13 : decode cX8_begins 13 = .ok (.aload_n 0, 1) := by decide +kernel
theorem dX8_begins_14 : decode cX8_begins 14 = .ok (.getfield 7, 3) := by decide +kernel
theorem dX8_begins_17 : decode cX8_begins 17 = .ok (.iload_n 1, 1) := by decide +kernel
theorem dX8_begins_18 : decode cX8_begins 18 = .ok (.iaload, 1) := by decide +kernel
theorem dX8_begins_19 : decode cX8_begins 19 = .ok (.iastore, 1) := by decide +kernel
theorem dX8_begins_20 : decode cX8_begins 20 = .ok (.iinc 1 1, 3) := by decide +kernel
theorem dX8_begins_23 : decode cX8_begins 23 = .ok (.goto (-21), 3) := by decide +kernel
theorem dX8_begins_26 : decode cX8_begins 26 = .ok (.return_, 1) := by decide +kernel
theorem dX8_acted_0 : decode cX8_acted 0 = .ok (.iload_n 1, 1) := by decide +kernel
theorem dX8_acted_1 : decode cX8_acted 1 = .ok (.sipush (-1001), 3) := by decide +kernel
theorem dX8_acted_4 : decode cX8_acted 4 = .ok (.if_icmp .gt 31, 3) := by decide +kernel
theorem dX8_acted_7 : decode cX8_acted 7 = .ok (.iconst 0, 1) := by decide +kernel
theorem dX8_acted_8 : decode cX8_acted 8 = .ok (.istore_n 2, 1) := by decide +kernel
theorem dX8_acted_9 : decode cX8_acted 9 = .ok (.iload_n 2, 1) := by decide +kernel
theorem dX8_acted_10 : decode cX8_acted 10 = .ok (.bipush 49, 2) := by decide +kernel
theorem dX8_acted_12 : decode cX8_acted 12 = .ok (.if_icmp .ge 21, 3) := by decide +kernel
theorem dX8_acted_15 : decode cX8_acted 15 = .ok (.aload_n 0, 1) := by decide +kernel
theorem dX8_acted_16 : decode cX8_acted 16 = .ok (.getfield 7, 3) := by decide +kernel
theorem dX8_acted_19 : decode cX8_acted 19 = .ok (.iload_n 2, 1) := by decide +kernel
theorem dX8_acted_20 : decode cX8_acted 20 = .ok (.aload_n 0, 1) := by decide +kernel
theorem dX8_acted_21 : decode cX8_acted 21 = .ok (.getfield 13, 3) := by decide +kernel
theorem dX8_acted_24 : decode cX8_acted 24 = .ok (.iload_n 2, 1) := by decide +kernel
theorem dX8_acted_25 : decode cX8_acted 25 = .ok (.iaload, 1) := by decide +kernel
theorem dX8_acted_26 : decode cX8_acted 26 = .ok (.iastore, 1) := by decide +kernel
theorem dX8_acted_27 : decode cX8_acted 27 = .ok (.iinc 2 1, 3) := by decide +kernel
theorem dX8_acted_30 : decode cX8_acted 30 = .ok (.goto (-21), 3) := by decide +kernel
theorem dX8_acted_33 : decode cX8_acted 33 = .ok (.iload_n 1, 1) := by decide +kernel
theorem dX8_acted_34 : decode cX8_acted 34 = .ok (.ireturn, 1) := by decide +kernel
theorem dX8_acted_35 : decode cX8_acted 35 = .ok (.aload_n 0, 1) := by decide +kernel
theorem dX8_acted_36 : decode cX8_acted 36 = .ok (.getfield 25, 3) := by decide +kernel
theorem dX8_acted_39 : decode cX8_acted 39 = .ok (.iconst 4, 1) := by decide +kernel
theorem dX8_acted_40 : decode cX8_acted 40 = .ok (.if_icmp .ne 43, 3) := by decide +kernel
theorem dX8_acted_43 : decode cX8_acted 43 = .ok (.iconst 0, 1) := by decide +kernel
theorem dX8_acted_44 : decode cX8_acted 44 = .ok (.istore_n 2, 1) := by decide +kernel
theorem dX8_acted_45 : decode cX8_acted 45 = .ok (.iload_n 2, 1) := by decide +kernel
theorem dX8_acted_46 : decode cX8_acted 46 = .ok (.sipush 147, 3) := by decide +kernel
theorem dX8_acted_49 : decode cX8_acted 49 = .ok (.if_icmp .ge 24, 3) := by decide +kernel
theorem dX8_acted_52 : decode cX8_acted 52 = .ok (.aload_n 0, 1) := by decide +kernel
theorem dX8_acted_53 : decode cX8_acted 53 = .ok (.getfield 19, 3) := by decide +kernel
theorem dX8_acted_56 : decode cX8_acted 56 = .ok (.iload_n 2, 1) := by decide +kernel
theorem dX8_acted_57 : decode cX8_acted 57 = .ok (.aload_n 0, 1) := by decide +kernel
theorem dX8_acted_58 : decode cX8_acted 58 = .ok (.getfield 19, 3) := by decide +kernel
theorem dX8_acted_61 : decode cX8_acted 61 = .ok (.iload_n 2, 1) := by decide +kernel
theorem dX8_acted_62 : decode cX8_acted 62 = .ok (.bipush 49, 2) := by decide +kernel
theorem dX8_acted_64 : decode cX8_acted 64 = .ok (.iadd, 1) := by decide +kernel
theorem dX8_acted_65 : decode cX8_acted 65 = .ok (.iaload, 1) := by decide +kernel
theorem dX8_acted_66 : decode cX8_acted 66 = .ok (.iastore, 1) := by decide +kernel
theorem dX8_acted_67 : decode cX8_acted 67 = .ok (.iinc 2 1, 3) := by decide +kernel
theorem dX8_acted_70 : decode cX8_acted 70 = .ok (.goto (-25), 3) := by decide +kernel
theorem dX8_acted_73 : decode cX8_acted 73 = .ok (.aload_n 0, 1) := by decide +kernel
theorem dX8_acted_74 : decode cX8_acted 74 = .ok (.dup, 1) := by decide +kernel
theorem dX8_acted_75 : decode cX8_acted 75 = .ok (.getfield 25, 3) := by decide +kernel
theorem dX8_acted_78 : decode cX8_acted 78 = .ok (.iconst 1, 1) := by decide +kernel
theorem dX8_acted_79 : decode cX8_acted 79 = .ok (.isub, 1) := by decide +kernel
theorem dX8_acted_80 : decode cX8_acted 80 = .ok (.putfield 25, 3) := by decide +kernel
theorem dX8_acted_83 : decode cX8_acted 83 = .ok (.iconst 0, 1) := by decide +kernel
theorem dX8_acted_84 : decode cX8_acted 84 = .ok (.istore_n 2, 1) := by decide +kernel
theorem dX8_acted_85 : decode cX8_acted 85 = .ok (.iload_n 2, 1) := by decide +kernel
theorem dX8_acted_86 : decode cX8_acted 86 = .ok (.bipush 49, 2) := by decide +kernel
theorem dX8_acted_88 : decode cX8_acted 88 = .ok (.if_icmp .ge 29, 3) := by decide +kernel
theorem dX8_acted_91 : decode cX8_acted 91 = .ok (.aload_n 0, 1) := by decide +kernel
theorem dX8_acted_92 : decode cX8_acted 92 = .ok (.getfield 19, 3) := by decide +kernel
theorem dX8_acted_95 : decode cX8_acted 95 = .ok (.bipush 49, 2) := by decide +kernel
theorem dX8_acted_97 : decode cX8_acted 97 = .ok (.aload_n 0, 1) := by decide +kernel
theorem dX8_acted_98 : decode cX8_acted 98 = .ok (.getfield 25, 3) := by decide +kernel
theorem dX8_acted_101 : decode cX8_acted 101 = .ok (.imul, 1) := by decide +kernel
theorem dX8_acted_102 : decode cX8_acted 102 = .ok (.iload_n 2, 1) := by decide +kernel
theorem dX8_acted_103 : decode cX8_acted 103 = .ok (.iadd, 1) := by decide +kernel
theorem dX8_acted_104 : decode cX8_acted 104 = .ok (.aload_n 0, 1) := by decide +kernel
theorem dX8_acted_105 : decode cX8_acted 105 = .ok (.getfield 13, 3) := by decide +kernel
theorem dX8_acted_108 : decode cX8_acted 108 = .ok (.iload_n 2, 1) := by decide +kernel
theorem dX8_acted_109 : decode cX8_acted 109 = .ok (.iaload, 1) := by decide +kernel
theorem dX8_acted_110 : decode cX8_acted 110 = .ok (.iastore, 1) := by decide +kernel
theorem dX8_acted_111 : decode cX8_acted 111 = .ok (.iinc 2 1, 3) := by decide +kernel
theorem dX8_acted_114 : decode cX8_acted 114 = .ok (.goto (-29), 3) := by decide +kernel
theorem dX8_acted_117 : decode cX8_acted 117 = .ok (.aload_n 0, 1) := by decide +kernel
theorem dX8_acted_118 : decode cX8_acted 118 = .ok (.dup, 1) := by decide +kernel
theorem dX8_acted_119 : decode cX8_acted 119 = .ok (.getfield 25, 3) := by decide +kernel
theorem dX8_acted_122 : decode cX8_acted 122 = .ok (.iconst 1, 1) := by decide +kernel
theorem dX8_acted_123 : decode cX8_acted 123 = .ok (.iadd, 1) := by decide +kernel
theorem dX8_acted_124 : decode cX8_acted 124 = .ok (.putfield 25, 3) := by decide +kernel
theorem dX8_acted_127 : decode cX8_acted 127 = .ok (.iload_n 1, 1) := by decide +kernel
theorem dX8_acted_128 : decode cX8_acted 128 = .ok (.ireturn, 1) := by decide +kernel
theorem dX8_dark_0 : decode cX8_dark 0 = .ok (.iconst 0, 1) := by decide +kernel
theorem dX8_dark_1 : decode cX8_dark 1 = .ok (.istore_n 1, 1) := by decide +kernel
theorem dX8_dark_2 : decode cX8_dark 2 = .ok (.iload_n 0, 1) := by decide +kernel
theorem dX8_dark_3 : decode cX8_dark 3 = .ok (.istore_n 2, 1) := by decide +kernel
theorem dX8_dark_4 : decode cX8_dark 4 = .ok (.iload_n 2, 1) := by decide +kernel
theorem dX8_dark_5 : decode cX8_dark 5 = .ok (.ifCond .eq 15, 3) := by decide +kernel
theorem dX8_dark_8 : decode cX8_dark 8 = .ok (.iinc 1 1, 3) := by decide +kernel
theorem dX8_dark_11 : decode cX8_dark 11 = .ok (.iload_n 2, 1) := by decide +kernel
theorem dX8_dark_12 : decode cX8_dark 12 = .ok (.iload_n 2, 1) := by decide +kernel
theorem dX8_dark_13 : decode cX8_dark 13 = .ok (.iconst 1, 1) := by decide +kernel
theorem dX8_dark_14 : decode cX8_dark 14 = .ok (.isub, 1) := by decide +kernel
theorem dX8_dark_15 : decode cX8_dark 15 = .ok (.iand, 1) := by decide +kernel
theorem dX8_dark_16 : decode cX8_dark 16 = .ok (.istore_n 2, 1) := by decide +kernel
theorem dX8_dark_17 : decode cX8_dark 17 = .ok (.goto (-13), 3) := by decide +kernel
theorem dX8_dark_20 : decode cX8_dark 20 = .ok (.iload_n 1, 1) := by decide +kernel
theorem dX8_dark_21 : decode cX8_dark 21 = .ok (.ireturn, 1) := by decide +kernel
theorem dX8_turned_0 : decode cX8_turned 0 = .ok (.iconst 0, 1) := by decide +kernel
theorem dX8_turned_1 : decode cX8_turned 1 = .ok (.istore_n 1, 1) := by decide +kernel
theorem dX8_turned_2 : decode cX8_turned 2 = .ok (.iconst 0, 1) := by decide +kernel
theorem dX8_turned_3 : decode cX8_turned 3 = .ok (.istore_n 2, 1) := by decide +kernel
theorem dX8_turned_4 : decode cX8_turned 4 = .ok (.iload_n 2, 1) := by decide +kernel
theorem dX8_turned_5 : decode cX8_turned 5 = .ok (.bipush 15, 2) := by decide +kernel
theorem dX8_turned_7 : decode cX8_turned 7 = .ok (.if_icmp .ge 22, 3) := by decide +kernel
theorem dX8_turned_10 : decode cX8_turned 10 = .ok (.iload_n 1, 1) := by decide +kernel
theorem dX8_turned_11 : decode cX8_turned 11 = .ok (.iload_n 0, 1) := by decide +kernel
theorem dX8_turned_12 : decode cX8_turned 12 = .ok (.iload_n 2, 1) := by decide +kernel
theorem dX8_turned_13 : decode cX8_turned 13 = .ok (.ishr, 1) := by decide +kernel
theorem dX8_turned_14 : decode cX8_turned 14 = .ok (.iconst 1, 1) := by decide +kernel
theorem dX8_turned_15 : decode cX8_turned 15 = .ok (.iand, 1) := by decide +kernel
theorem dX8_turned_16 : decode cX8_turned 16 = .ok (.bipush 14, 2) := by decide +kernel
theorem dX8_turned_18 : decode cX8_turned 18 = .ok (.iload_n 2, 1) := by decide +kernel
theorem dX8_turned_19 : decode cX8_turned 19 = .ok (.isub, 1) := by decide +kernel
theorem dX8_turned_20 : decode cX8_turned 20 = .ok (.ishl, 1) := by decide +kernel
theorem dX8_turned_21 : decode cX8_turned 21 = .ok (.ior, 1) := by decide +kernel
theorem dX8_turned_22 : decode cX8_turned 22 = .ok (.istore_n 1, 1) := by decide +kernel
theorem dX8_turned_23 : decode cX8_turned 23 = .ok (.iinc 2 1, 3) := by decide +kernel
theorem dX8_turned_26 : decode cX8_turned 26 = .ok (.goto (-22), 3) := by decide +kernel
theorem dX8_turned_29 : decode cX8_turned 29 = .ok (.iload_n 1, 1) := by decide +kernel
theorem dX8_turned_30 : decode cX8_turned 30 = .ok (.ireturn, 1) := by decide +kernel
theorem dX8_drawn_0 : decode cX8_drawn 0 = .ok (.aload_n 0, 1) := by decide +kernel
theorem dX8_drawn_1 : decode cX8_drawn 1 = .ok (.getfield 7, 3) := by decide +kernel
theorem dX8_drawn_4 : decode cX8_drawn 4 = .ok (.bipush 7, 2) := by decide +kernel
theorem dX8_drawn_6 : decode cX8_drawn 6 = .ok (.iload_n 1, 1) := by decide +kernel
theorem dX8_drawn_7 : decode cX8_drawn 7 = .ok (.iadd, 1) := by decide +kernel
theorem dX8_drawn_8 : decode cX8_drawn 8 = .ok (.iaload, 1) := by decide +kernel
theorem dX8_drawn_9 : decode cX8_drawn 9 = .ok (.ireturn, 1) := by decide +kernel
set_option maxRecDepth 20000 in
theorem ggX8_readAs_X8_drawn : GoodIn wsX8_readAs wsX8_drawn := goodIn_r _ [5, 6, 10, 11, 12, 13, 14, 15, 16, 17, 18, 19, 20, 21, 22] (by decide +kernel) (by decide +kernel)
set_option maxRecDepth 20000 in
theorem gX8_readAs_X8_drawn : GoodIn wsX8_readAs (wsV RX8 29 RX8 yX8_drawn wsX8_drawn) := goodIn_app (goodIn_of _ (by decide +kernel)) ggX8_readAs_X8_drawn
set_option maxRecDepth 20000 in
theorem ggX8_readAs_X8_dark : GoodIn wsX8_readAs wsX8_dark := goodIn_r _ [9] (by decide +kernel) (by decide +kernel)
set_option maxRecDepth 20000 in
theorem gX8_readAs_X8_dark : GoodIn wsX8_readAs (va_wsS RX8 33 yX8_dark wsX8_dark) := goodIn_app (goodIn_of _ (by decide +kernel)) ggX8_readAs_X8_dark
theorem dX8_readAs_0 : decode cX8_readAs 0 = .ok (.iconst (-1), 1) := by decide +kernel
theorem dX8_readAs_1 : decode cX8_readAs 1 = .ok (.istore_n 2, 1) := by decide +kernel
theorem dX8_readAs_2 : decode cX8_readAs 2 = .ok (.bipush 16, 2) := by decide +kernel
theorem dX8_readAs_4 : decode cX8_readAs 4 = .ok (.istore_n 3, 1) := by decide +kernel
theorem dX8_readAs_5 : decode cX8_readAs 5 = .ok (.iconst 0, 1) := by decide +kernel
theorem dX8_readAs_6 : decode cX8_readAs 6 = .ok (.istore 4, 2) := by decide +kernel
theorem dX8_readAs_8 : decode cX8_readAs 8 = .ok (.iload 4, 2) := by decide +kernel
theorem dX8_readAs_10 : decode cX8_readAs 10 = .ok (.bipush 10, 2) := by decide +kernel
theorem dX8_readAs_12 : decode cX8_readAs 12 = .ok (.if_icmp .ge 62, 3) := by decide +kernel
theorem dX8_readAs_15 : decode cX8_readAs 15 = .ok (.aload_n 0, 1) := by decide +kernel
theorem dX8_readAs_16 : decode cX8_readAs 16 = .ok (.iload 4, 2) := by decide +kernel
theorem dX8_readAs_18 : decode cX8_readAs 18 = .ok (.invokevirtual 29, 3) := by decide +kernel
theorem dX8_readAs_21 : decode cX8_readAs 21 = .ok (.ifCond .ge 8, 3) := by decide +kernel
theorem dX8_readAs_24 : decode cX8_readAs 24 = .ok (.bipush 16, 2) := by decide +kernel
theorem dX8_readAs_26 : decode cX8_readAs 26 = .ok (.goto 14, 3) := by decide +kernel
theorem dX8_readAs_29 : decode cX8_readAs 29 = .ok (.aload_n 0, 1) := by decide +kernel
theorem dX8_readAs_30 : decode cX8_readAs 30 = .ok (.iload 4, 2) := by decide +kernel
theorem dX8_readAs_32 : decode cX8_readAs 32 = .ok (.invokevirtual 29, 3) := by decide +kernel
theorem dX8_readAs_35 : decode cX8_readAs 35 = .ok (.iload_n 1, 1) := by decide +kernel
theorem dX8_readAs_36 : decode cX8_readAs 36 = .ok (.ixor, 1) := by decide +kernel
theorem dX8_readAs_37 : decode cX8_readAs 37 = .ok (.invokestatic 33, 3) := by decide +kernel
theorem dX8_readAs_40 : decode cX8_readAs 40 = .ok (.istore 5, 2) := by decide +kernel
theorem dX8_readAs_42 : decode cX8_readAs 42 = .ok (.iload 5, 2) := by decide +kernel
theorem dX8_readAs_44 : decode cX8_readAs 44 = .ok (.iload_n 3, 1) := by decide +kernel
theorem dX8_readAs_45 : decode cX8_readAs 45 = .ok (.if_icmp .ge 8, 3) := by decide +kernel
theorem dX8_readAs_48 : decode cX8_readAs 48 = .ok (.iload 4, 2) := by decide +kernel
theorem dX8_readAs_50 : decode cX8_readAs 50 = .ok (.goto 4, 3) := by decide +kernel
theorem dX8_readAs_53 : decode cX8_readAs 53 = .ok (.iload_n 2, 1) := by decide +kernel
theorem dX8_readAs_54 : decode cX8_readAs 54 = .ok (.istore_n 2, 1) := by decide +kernel
theorem dX8_readAs_55 : decode cX8_readAs 55 = .ok (.iload 5, 2) := by decide +kernel
theorem dX8_readAs_57 : decode cX8_readAs 57 = .ok (.iload_n 3, 1) := by decide +kernel
theorem dX8_readAs_58 : decode cX8_readAs 58 = .ok (.if_icmp .ge 8, 3) := by decide +kernel
theorem dX8_readAs_61 : decode cX8_readAs 61 = .ok (.iload 5, 2) := by decide +kernel
theorem dX8_readAs_63 : decode cX8_readAs 63 = .ok (.goto 4, 3) := by decide +kernel
theorem dX8_readAs_66 : decode cX8_readAs 66 = .ok (.iload_n 3, 1) := by decide +kernel
theorem dX8_readAs_67 : decode cX8_readAs 67 = .ok (.istore_n 3, 1) := by decide +kernel
theorem dX8_readAs_68 : decode cX8_readAs 68 = .ok (.iinc 4 1, 3) := by decide +kernel
theorem dX8_readAs_71 : decode cX8_readAs 71 = .ok (.goto (-63), 3) := by decide +kernel
theorem dX8_readAs_74 : decode cX8_readAs 74 = .ok (.iload_n 2, 1) := by decide +kernel
theorem dX8_readAs_75 : decode cX8_readAs 75 = .ok (.ireturn, 1) := by decide +kernel
set_option maxRecDepth 20000 in
theorem ggX8_margin_X8_drawn : GoodIn wsX8_margin wsX8_drawn := goodIn_r _ [5, 6, 10, 11, 12, 13, 14, 15, 16, 17, 18, 19, 20, 21, 22] (by decide +kernel) (by decide +kernel)
set_option maxRecDepth 20000 in
theorem gX8_margin_X8_drawn : GoodIn wsX8_margin (wsV RX8 29 RX8 yX8_drawn wsX8_drawn) := goodIn_app (goodIn_of _ (by decide +kernel)) ggX8_margin_X8_drawn
set_option maxRecDepth 20000 in
theorem ggX8_margin_X8_dark : GoodIn wsX8_margin wsX8_dark := goodIn_r _ [9] (by decide +kernel) (by decide +kernel)
set_option maxRecDepth 20000 in
theorem gX8_margin_X8_dark : GoodIn wsX8_margin (va_wsS RX8 33 yX8_dark wsX8_dark) := goodIn_app (goodIn_of _ (by decide +kernel)) ggX8_margin_X8_dark
theorem dX8_margin_0 : decode cX8_margin 0 = .ok (.bipush 15, 2) := by decide +kernel
theorem dX8_margin_2 : decode cX8_margin 2 = .ok (.istore_n 3, 1) := by decide +kernel
theorem dX8_margin_3 : decode cX8_margin 3 = .ok (.iconst 0, 1) := by decide +kernel
theorem dX8_margin_4 : decode cX8_margin 4 = .ok (.istore 4, 2) := by decide +kernel
theorem dX8_margin_6 : decode cX8_margin 6 = .ok (.iload 4, 2) := by decide +kernel
theorem dX8_margin_8 : decode cX8_margin 8 = .ok (.bipush 10, 2) := by decide +kernel
theorem dX8_margin_10 : decode cX8_margin 10 = .ok (.if_icmp .ge 55, 3) := by decide +kernel
theorem dX8_margin_13 : decode cX8_margin 13 = .ok (.iload 4, 2) := by decide +kernel
theorem dX8_margin_15 : decode cX8_margin 15 = .ok (.iload_n 2, 1) := by decide +kernel
theorem dX8_margin_16 : decode cX8_margin 16 = .ok (.if_icmp .eq 12, 3) := by decide +kernel
theorem dX8_margin_19 : decode cX8_margin 19 = .ok (.aload_n 0, 1) := by decide +kernel
theorem dX8_margin_20 : decode cX8_margin 20 = .ok (.iload 4, 2) := by decide +kernel
theorem dX8_margin_22 : decode cX8_margin 22 = .ok (.invokevirtual 29, 3) := by decide +kernel
theorem dX8_margin_25 : decode cX8_margin 25 = .ok (.ifCond .ge 8, 3) := by decide +kernel
theorem dX8_margin_28 : decode cX8_margin 28 = .ok (.bipush 15, 2) := by decide +kernel
theorem dX8_margin_30 : decode cX8_margin 30 = .ok (.goto 14, 3) := by decide +kernel
theorem dX8_margin_33 : decode cX8_margin 33 = .ok (.aload_n 0, 1) := by decide +kernel
theorem dX8_margin_34 : decode cX8_margin 34 = .ok (.iload 4, 2) := by decide +kernel
theorem dX8_margin_36 : decode cX8_margin 36 = .ok (.invokevirtual 29, 3) := by decide +kernel
theorem dX8_margin_39 : decode cX8_margin 39 = .ok (.iload_n 1, 1) := by decide +kernel
theorem dX8_margin_40 : decode cX8_margin 40 = .ok (.ixor, 1) := by decide +kernel
theorem dX8_margin_41 : decode cX8_margin 41 = .ok (.invokestatic 33, 3) := by decide +kernel
theorem dX8_margin_44 : decode cX8_margin 44 = .ok (.istore 5, 2) := by decide +kernel
theorem dX8_margin_46 : decode cX8_margin 46 = .ok (.iload 5, 2) := by decide +kernel
theorem dX8_margin_48 : decode cX8_margin 48 = .ok (.iload_n 3, 1) := by decide +kernel
theorem dX8_margin_49 : decode cX8_margin 49 = .ok (.if_icmp .ge 8, 3) := by decide +kernel
theorem dX8_margin_52 : decode cX8_margin 52 = .ok (.iload 5, 2) := by decide +kernel
theorem dX8_margin_54 : decode cX8_margin 54 = .ok (.goto 4, 3) := by decide +kernel
theorem dX8_margin_57 : decode cX8_margin 57 = .ok (.iload_n 3, 1) := by decide +kernel
theorem dX8_margin_58 : decode cX8_margin 58 = .ok (.istore_n 3, 1) := by decide +kernel
theorem dX8_margin_59 : decode cX8_margin 59 = .ok (.iinc 4 1, 3) := by decide +kernel
theorem dX8_margin_62 : decode cX8_margin 62 = .ok (.goto (-56), 3) := by decide +kernel
theorem dX8_margin_65 : decode cX8_margin 65 = .ok (.iload_n 3, 1) := by decide +kernel
theorem dX8_margin_66 : decode cX8_margin 66 = .ok (.aload_n 0, 1) := by decide +kernel
theorem dX8_margin_67 : decode cX8_margin 67 = .ok (.iload_n 2, 1) := by decide +kernel
theorem dX8_margin_68 : decode cX8_margin 68 = .ok (.invokevirtual 29, 3) := by decide +kernel
theorem dX8_margin_71 : decode cX8_margin 71 = .ok (.iload_n 1, 1) := by decide +kernel
theorem dX8_margin_72 : decode cX8_margin 72 = .ok (.ixor, 1) := by decide +kernel
theorem dX8_margin_73 : decode cX8_margin 73 = .ok (.invokestatic 33, 3) := by decide +kernel
theorem dX8_margin_76 : decode cX8_margin 76 = .ok (.isub, 1) := by decide +kernel
theorem dX8_margin_77 : decode cX8_margin 77 = .ok (.ireturn, 1) := by decide +kernel
set_option maxRecDepth 20000 in
theorem ggX8_composes_X8_drawn : GoodIn wsX8_composes wsX8_drawn := goodIn_r _ [7, 8, 27, 28, 29, 30, 31, 32, 33, 34, 35, 36, 37, 38, 39] (by decide +kernel) (by decide +kernel)
set_option maxRecDepth 20000 in
theorem gX8_composes_X8_drawn : GoodIn wsX8_composes (wsV RX8 29 RX8 yX8_drawn wsX8_drawn) := goodIn_app (goodIn_of _ (by decide +kernel)) ggX8_composes_X8_drawn
set_option maxRecDepth 20000 in
theorem ggX8_composes_X8_turned : GoodIn wsX8_composes wsX8_turned := goodIn_r _ [11] (by decide +kernel) (by decide +kernel)
set_option maxRecDepth 20000 in
theorem gX8_composes_X8_turned : GoodIn wsX8_composes (va_wsS RX8 36 yX8_turned wsX8_turned) := goodIn_app (goodIn_of _ (by decide +kernel)) ggX8_composes_X8_turned
set_option maxRecDepth 20000 in
theorem ggX8_composes_X8_tries : GoodIn wsX8_composes wsX8_tries := goodIn_r _ [15, 2, 1, 16, 17, 18, 6, 19, 3, 4, 5, 7, 8, 20, 21, 22, 9, 10, 11, 23, 24, 25, 26, 27, 28, 29, 30, 31, 32, 33, 34, 35, 36, 37, 38, 39] (by decide +kernel) (by decide +kernel)
set_option maxRecDepth 20000 in
theorem gX8_composes_X8_tries : GoodIn wsX8_composes (wsV RX8 45 RX8 yX8_tries wsX8_tries) := goodIn_app (goodIn_of _ (by decide +kernel)) ggX8_composes_X8_tries
theorem dX8_composes_0 : decode cX8_composes 0 = .ok (.aload_n 0, 1) := by decide +kernel
theorem dX8_composes_1 : decode cX8_composes 1 = .ok (.iload_n 1, 1) := by decide +kernel
theorem dX8_composes_2 : decode cX8_composes 2 = .ok (.invokevirtual 29, 3) := by decide +kernel
theorem dX8_composes_5 : decode cX8_composes 5 = .ok (.istore_n 3, 1) := by decide +kernel
theorem dX8_composes_6 : decode cX8_composes 6 = .ok (.iload_n 3, 1) := by decide +kernel
theorem dX8_composes_7 : decode cX8_composes 7 = .ok (.aload_n 0, 1) := by decide +kernel
theorem dX8_composes_8 : decode cX8_composes 8 = .ok (.iload_n 2, 1) := by decide +kernel
theorem dX8_composes_9 : decode cX8_composes 9 = .ok (.invokevirtual 29, 3) := by decide +kernel
theorem dX8_composes_12 : decode cX8_composes 12 = .ok (.invokestatic 36, 3) := by decide +kernel
theorem dX8_composes_15 : decode cX8_composes 15 = .ok (.ixor, 1) := by decide +kernel
theorem dX8_composes_16 : decode cX8_composes 16 = .ok (.istore 4, 2) := by decide +kernel
theorem dX8_composes_18 : decode cX8_composes 18 = .ok (.iload_n 3, 1) := by decide +kernel
theorem dX8_composes_19 : decode cX8_composes 19 = .ok (.iload 4, 2) := by decide +kernel
theorem dX8_composes_21 : decode cX8_composes 21 = .ok (.iconst (-1), 1) := by decide +kernel
theorem dX8_composes_22 : decode cX8_composes 22 = .ok (.ixor, 1) := by decide +kernel
theorem dX8_composes_23 : decode cX8_composes 23 = .ok (.iand, 1) := by decide +kernel
theorem dX8_composes_24 : decode cX8_composes 24 = .ok (.istore 5, 2) := by decide +kernel
theorem dX8_composes_26 : decode cX8_composes 26 = .ok (.iconst 0, 1) := by decide +kernel
theorem dX8_composes_27 : decode cX8_composes 27 = .ok (.istore 6, 2) := by decide +kernel
theorem dX8_composes_29 : decode cX8_composes 29 = .ok (.aload_n 0, 1) := by decide +kernel
theorem dX8_composes_30 : decode cX8_composes 30 = .ok (.iconst (-1), 1) := by decide +kernel
theorem dX8_composes_31 : decode cX8_composes 31 = .ok (.putfield 39, 3) := by decide +kernel
theorem dX8_composes_34 : decode cX8_composes 34 = .ok (.aload_n 0, 1) := by decide +kernel
theorem dX8_composes_35 : decode cX8_composes 35 = .ok (.iconst (-1), 1) := by decide +kernel
theorem dX8_composes_36 : decode cX8_composes 36 = .ok (.putfield 42, 3) := by decide +kernel
theorem dX8_composes_39 : decode cX8_composes 39 = .ok (.iconst 1, 1) := by decide +kernel
theorem dX8_composes_40 : decode cX8_composes 40 = .ok (.istore 7, 2) := by decide +kernel
theorem dX8_composes_42 : decode cX8_composes 42 = .ok (.iload 7, 2) := by decide +kernel
theorem dX8_composes_44 : decode cX8_composes 44 = .ok (.ifCond .eq 39, 3) := by decide +kernel
theorem dX8_composes_47 : decode cX8_composes 47 = .ok (.aload_n 0, 1) := by decide +kernel
theorem dX8_composes_48 : decode cX8_composes 48 = .ok (.iload 5, 2) := by decide +kernel
theorem dX8_composes_50 : decode cX8_composes 50 = .ok (.iload 6, 2) := by decide +kernel
theorem dX8_composes_52 : decode cX8_composes 52 = .ok (.ior, 1) := by decide +kernel
theorem dX8_composes_53 : decode cX8_composes 53 = .ok (.iload_n 1, 1) := by decide +kernel
theorem dX8_composes_54 : decode cX8_composes 54 = .ok (.iload_n 2, 1) := by decide +kernel
theorem dX8_composes_55 : decode cX8_composes 55 = .ok (.invokevirtual 45, 3) := by decide +kernel
theorem dX8_composes_58 : decode cX8_composes 58 = .ok (.iload 6, 2) := by decide +kernel
theorem dX8_composes_60 : decode cX8_composes 60 = .ok (.iload 4, 2) := by decide +kernel
theorem dX8_composes_62 : decode cX8_composes 62 = .ok (.isub, 1) := by decide +kernel
theorem dX8_composes_63 : decode cX8_composes 63 = .ok (.iload 4, 2) := by decide +kernel
theorem dX8_composes_65 : decode cX8_composes 65 = .ok (.iand, 1) := by decide +kernel
theorem dX8_composes_66 : decode cX8_composes 66 = .ok (.istore 6, 2) := by decide +kernel
end
section
theorem dX8_composes_68 : decode cX8_composes 68 = .ok (.iload 6, 2) := by decide +kernel
theorem dX8_composes_70 : decode cX8_composes 70 = .ok (.ifCond .eq 7, 3) := by decide +kernel
theorem dX8_composes_73 : decode cX8_composes 73 = .ok (.iconst 1, 1) := by decide +kernel
theorem dX8_composes_74 : decode cX8_composes 74 = .ok (.goto 4, 3) := by decide +kernel
theorem dX8_composes_77 : decode cX8_composes 77 = .ok (.iconst 0, 1) := by decide +kernel
theorem dX8_composes_78 : decode cX8_composes 78 = .ok (.istore 7, 2) := by decide +kernel
theorem dX8_composes_80 : decode cX8_composes 80 = .ok (.goto (-38), 3) := by decide +kernel
theorem dX8_composes_83 : decode cX8_composes 83 = .ok (.aload_n 0, 1) := by decide +kernel
theorem dX8_composes_84 : decode cX8_composes 84 = .ok (.getfield 39, 3) := by decide +kernel
theorem dX8_composes_87 : decode cX8_composes 87 = .ok (.ifCond .lt 7, 3) := by decide +kernel
theorem dX8_composes_90 : decode cX8_composes 90 = .ok (.iconst 1, 1) := by decide +kernel
theorem dX8_composes_91 : decode cX8_composes 91 = .ok (.goto 4, 3) := by decide +kernel
theorem dX8_composes_94 : decode cX8_composes 94 = .ok (.iconst 0, 1) := by decide +kernel
theorem dX8_composes_95 : decode cX8_composes 95 = .ok (.ireturn, 1) := by decide +kernel
set_option maxRecDepth 20000 in
theorem ggX8_tries_X8_readAs : GoodIn wsX8_tries wsX8_readAs := goodIn_r _ [7, 8, 9, 10, 6, 11, 12, 13, 14, 15, 23, 24, 25, 26, 27, 28, 29, 30, 31, 32, 33, 34, 35] (by decide +kernel) (by decide +kernel)
set_option maxRecDepth 20000 in
theorem gX8_tries_X8_readAs : GoodIn wsX8_tries (wsV RX8 49 RX8 yX8_readAs wsX8_readAs) := goodIn_app (goodIn_of _ (by decide +kernel)) ggX8_tries_X8_readAs
set_option maxRecDepth 20000 in
theorem ggX8_tries_X8_turned : GoodIn wsX8_tries wsX8_turned := goodIn_r _ [18] (by decide +kernel) (by decide +kernel)
set_option maxRecDepth 20000 in
theorem gX8_tries_X8_turned : GoodIn wsX8_tries (va_wsS RX8 36 yX8_turned wsX8_turned) := goodIn_app (goodIn_of _ (by decide +kernel)) ggX8_tries_X8_turned
set_option maxRecDepth 20000 in
theorem ggX8_tries_X8_margin : GoodIn wsX8_tries wsX8_margin := goodIn_r _ [22, 8, 9, 10, 6, 11, 12, 13, 14, 15, 23, 24, 25, 26, 27, 28, 29, 30, 31, 32, 33, 34, 35] (by decide +kernel) (by decide +kernel)
set_option maxRecDepth 20000 in
theorem gX8_tries_X8_margin : GoodIn wsX8_tries (wsV RX8 52 RX8 yX8_margin wsX8_margin) := goodIn_app (goodIn_of _ (by decide +kernel)) ggX8_tries_X8_margin
theorem dX8_tries_0 : decode cX8_tries 0 = .ok (.aload_n 0, 1) := by decide +kernel
theorem dX8_tries_1 : decode cX8_tries 1 = .ok (.iload_n 1, 1) := by decide +kernel
theorem dX8_tries_2 : decode cX8_tries 2 = .ok (.invokevirtual 49, 3) := by decide +kernel
theorem dX8_tries_5 : decode cX8_tries 5 = .ok (.iload_n 2, 1) := by decide +kernel
theorem dX8_tries_6 : decode cX8_tries 6 = .ok (.if_icmp .eq 4, 3) := by decide +kernel
theorem dX8_tries_9 : decode cX8_tries 9 = .ok (.return_, 1) := by decide +kernel
theorem dX8_tries_10 : decode cX8_tries 10 = .ok (.iload_n 1, 1) := by decide +kernel
theorem dX8_tries_11 : decode cX8_tries 11 = .ok (.invokestatic 36, 3) := by decide +kernel
theorem dX8_tries_14 : decode cX8_tries 14 = .ok (.istore 4, 2) := by decide +kernel
theorem dX8_tries_16 : decode cX8_tries 16 = .ok (.aload_n 0, 1) := by decide +kernel
theorem dX8_tries_17 : decode cX8_tries 17 = .ok (.iload 4, 2) := by decide +kernel
theorem dX8_tries_19 : decode cX8_tries 19 = .ok (.invokevirtual 49, 3) := by decide +kernel
theorem dX8_tries_22 : decode cX8_tries 22 = .ok (.iload_n 3, 1) := by decide +kernel
theorem dX8_tries_23 : decode cX8_tries 23 = .ok (.if_icmp .eq 4, 3) := by decide +kernel
theorem dX8_tries_26 : decode cX8_tries 26 = .ok (.return_, 1) := by decide +kernel
theorem dX8_tries_27 : decode cX8_tries 27 = .ok (.aload_n 0, 1) := by decide +kernel
theorem dX8_tries_28 : decode cX8_tries 28 = .ok (.iload_n 1, 1) := by decide +kernel
theorem dX8_tries_29 : decode cX8_tries 29 = .ok (.iload_n 2, 1) := by decide +kernel
theorem dX8_tries_30 : decode cX8_tries 30 = .ok (.invokevirtual 52, 3) := by decide +kernel
theorem dX8_tries_33 : decode cX8_tries 33 = .ok (.istore 5, 2) := by decide +kernel
theorem dX8_tries_35 : decode cX8_tries 35 = .ok (.aload_n 0, 1) := by decide +kernel
theorem dX8_tries_36 : decode cX8_tries 36 = .ok (.iload 4, 2) := by decide +kernel
theorem dX8_tries_38 : decode cX8_tries 38 = .ok (.iload_n 3, 1) := by decide +kernel
theorem dX8_tries_39 : decode cX8_tries 39 = .ok (.invokevirtual 52, 3) := by decide +kernel
theorem dX8_tries_42 : decode cX8_tries 42 = .ok (.istore 6, 2) := by decide +kernel
theorem dX8_tries_44 : decode cX8_tries 44 = .ok (.iload 5, 2) := by decide +kernel
theorem dX8_tries_46 : decode cX8_tries 46 = .ok (.iload 6, 2) := by decide +kernel
theorem dX8_tries_48 : decode cX8_tries 48 = .ok (.if_icmp .ge 8, 3) := by decide +kernel
theorem dX8_tries_51 : decode cX8_tries 51 = .ok (.iload 5, 2) := by decide +kernel
theorem dX8_tries_53 : decode cX8_tries 53 = .ok (.goto 5, 3) := by decide +kernel
theorem dX8_tries_56 : decode cX8_tries 56 = .ok (.iload 6, 2) := by decide +kernel
theorem dX8_tries_58 : decode cX8_tries 58 = .ok (.istore 7, 2) := by decide +kernel
theorem dX8_tries_60 : decode cX8_tries 60 = .ok (.iload 7, 2) := by decide +kernel
theorem dX8_tries_62 : decode cX8_tries 62 = .ok (.aload_n 0, 1) := by decide +kernel
theorem dX8_tries_63 : decode cX8_tries 63 = .ok (.getfield 42, 3) := by decide +kernel
theorem dX8_tries_66 : decode cX8_tries 66 = .ok (.if_icmp .le 14, 3) := by decide +kernel
theorem dX8_tries_69 : decode cX8_tries 69 = .ok (.aload_n 0, 1) := by decide +kernel
theorem dX8_tries_70 : decode cX8_tries 70 = .ok (.iload_n 1, 1) := by decide +kernel
theorem dX8_tries_71 : decode cX8_tries 71 = .ok (.putfield 39, 3) := by decide +kernel
theorem dX8_tries_74 : decode cX8_tries 74 = .ok (.aload_n 0, 1) := by decide +kernel
theorem dX8_tries_75 : decode cX8_tries 75 = .ok (.iload 7, 2) := by decide +kernel
theorem dX8_tries_77 : decode cX8_tries 77 = .ok (.putfield 42, 3) := by decide +kernel
theorem dX8_tries_80 : decode cX8_tries 80 = .ok (.return_, 1) := by decide +kernel
set_option maxRecDepth 20000 in
theorem ggX8_areDrawn_X8_drawn : GoodIn wsX8_areDrawn wsX8_drawn := goodIn_r _ [5, 6, 7, 8, 9, 10, 11, 12, 13, 14, 15, 16, 17, 18, 19] (by decide +kernel) (by decide +kernel)
set_option maxRecDepth 20000 in
theorem gX8_areDrawn_X8_drawn : GoodIn wsX8_areDrawn (wsV RX8 29 RX8 yX8_drawn wsX8_drawn) := goodIn_app (goodIn_of _ (by decide +kernel)) ggX8_areDrawn_X8_drawn
theorem dX8_areDrawn_0 : decode cX8_areDrawn 0 = .ok (.aload_n 0, 1) := by decide +kernel
theorem dX8_areDrawn_1 : decode cX8_areDrawn 1 = .ok (.iload_n 1, 1) := by decide +kernel
theorem dX8_areDrawn_2 : decode cX8_areDrawn 2 = .ok (.invokevirtual 29, 3) := by decide +kernel
theorem dX8_areDrawn_5 : decode cX8_areDrawn 5 = .ok (.ifCond .lt 15, 3) := by decide +kernel
theorem dX8_areDrawn_8 : decode cX8_areDrawn 8 = .ok (.aload_n 0, 1) := by decide +kernel
theorem dX8_areDrawn_9 : decode cX8_areDrawn 9 = .ok (.iload_n 2, 1) := by decide +kernel
theorem dX8_areDrawn_10 : decode cX8_areDrawn 10 = .ok (.invokevirtual 29, 3) := by decide +kernel
theorem dX8_areDrawn_13 : decode cX8_areDrawn 13 = .ok (.ifCond .lt 7, 3) := by decide +kernel
theorem dX8_areDrawn_16 : decode cX8_areDrawn 16 = .ok (.iconst 1, 1) := by decide +kernel
theorem dX8_areDrawn_17 : decode cX8_areDrawn 17 = .ok (.goto 4, 3) := by decide +kernel
theorem dX8_areDrawn_20 : decode cX8_areDrawn 20 = .ok (.iconst 0, 1) := by decide +kernel
theorem dX8_areDrawn_21 : decode cX8_areDrawn 21 = .ok (.ireturn, 1) := by decide +kernel
set_option maxRecDepth 20000 in
theorem ggX8_isPlace_X8_in : GoodIn wsX8_isPlace wsX8_in := goodIn_r _ [5] (by decide +kernel) (by decide +kernel)
set_option maxRecDepth 20000 in
theorem gX8_isPlace_X8_in : GoodIn wsX8_isPlace (va_wsS RX8 56 yX8_in wsX8_in) := goodIn_app (goodIn_of _ (by decide +kernel)) ggX8_isPlace_X8_in
theorem dX8_isPlace_0 : decode cX8_isPlace 0 = .ok (.iload_n 1, 1) := by decide +kernel
theorem dX8_isPlace_1 : decode cX8_isPlace 1 = .ok (.iconst 0, 1) := by decide +kernel
theorem dX8_isPlace_2 : decode cX8_isPlace 2 = .ok (.aload_n 0, 1) := by decide +kernel
theorem dX8_isPlace_3 : decode cX8_isPlace 3 = .ok (.getfield 7, 3) := by decide +kernel
theorem dX8_isPlace_6 : decode cX8_isPlace 6 = .ok (.iconst 0, 1) := by decide +kernel
theorem dX8_isPlace_7 : decode cX8_isPlace 7 = .ok (.iaload, 1) := by decide +kernel
theorem dX8_isPlace_8 : decode cX8_isPlace 8 = .ok (.iconst 1, 1) := by decide +kernel
theorem dX8_isPlace_9 : decode cX8_isPlace 9 = .ok (.isub, 1) := by decide +kernel
theorem dX8_isPlace_10 : decode cX8_isPlace 10 = .ok (.invokestatic 56, 3) := by decide +kernel
theorem dX8_isPlace_13 : decode cX8_isPlace 13 = .ok (.ireturn, 1) := by decide +kernel
theorem dX8_signOf_0 : decode cX8_signOf 0 = .ok (.aload_n 0, 1) := by decide +kernel
theorem dX8_signOf_1 : decode cX8_signOf 1 = .ok (.getfield 7, 3) := by decide +kernel
theorem dX8_signOf_4 : decode cX8_signOf 4 = .ok (.bipush 17, 2) := by decide +kernel
theorem dX8_signOf_6 : decode cX8_signOf 6 = .ok (.iconst 2, 1) := by decide +kernel
theorem dX8_signOf_7 : decode cX8_signOf 7 = .ok (.iload_n 1, 1) := by decide +kernel
theorem dX8_signOf_8 : decode cX8_signOf 8 = .ok (.imul, 1) := by decide +kernel
theorem dX8_signOf_9 : decode cX8_signOf 9 = .ok (.iadd, 1) := by decide +kernel
theorem dX8_signOf_10 : decode cX8_signOf 10 = .ok (.iaload, 1) := by decide +kernel
theorem dX8_signOf_11 : decode cX8_signOf 11 = .ok (.ireturn, 1) := by decide +kernel
theorem dX8_coats_0 : decode cX8_coats 0 = .ok (.aload_n 0, 1) := by decide +kernel
theorem dX8_coats_1 : decode cX8_coats 1 = .ok (.getfield 7, 3) := by decide +kernel
theorem dX8_coats_4 : decode cX8_coats 4 = .ok (.bipush 17, 2) := by decide +kernel
theorem dX8_coats_6 : decode cX8_coats 6 = .ok (.iconst 2, 1) := by decide +kernel
theorem dX8_coats_7 : decode cX8_coats 7 = .ok (.iload_n 1, 1) := by decide +kernel
theorem dX8_coats_8 : decode cX8_coats 8 = .ok (.imul, 1) := by decide +kernel
theorem dX8_coats_9 : decode cX8_coats 9 = .ok (.iadd, 1) := by decide +kernel
theorem dX8_coats_10 : decode cX8_coats 10 = .ok (.iconst 1, 1) := by decide +kernel
theorem dX8_coats_11 : decode cX8_coats 11 = .ok (.iadd, 1) := by decide +kernel
theorem dX8_coats_12 : decode cX8_coats 12 = .ok (.iaload, 1) := by decide +kernel
theorem dX8_coats_13 : decode cX8_coats 13 = .ok (.ireturn, 1) := by decide +kernel
theorem dX8_lays_0 : decode cX8_lays 0 = .ok (.aload_n 0, 1) := by decide +kernel
theorem dX8_lays_1 : decode cX8_lays 1 = .ok (.getfield 7, 3) := by decide +kernel
theorem dX8_lays_4 : decode cX8_lays 4 = .ok (.bipush 17, 2) := by decide +kernel
theorem dX8_lays_6 : decode cX8_lays 6 = .ok (.iconst 2, 1) := by decide +kernel
theorem dX8_lays_7 : decode cX8_lays 7 = .ok (.iload_n 1, 1) := by decide +kernel
theorem dX8_lays_8 : decode cX8_lays 8 = .ok (.imul, 1) := by decide +kernel
theorem dX8_lays_9 : decode cX8_lays 9 = .ok (.iadd, 1) := by decide +kernel
theorem dX8_lays_10 : decode cX8_lays 10 = .ok (.iload_n 2, 1) := by decide +kernel
theorem dX8_lays_11 : decode cX8_lays 11 = .ok (.iastore, 1) := by decide +kernel
theorem dX8_lays_12 : decode cX8_lays 12 = .ok (.aload_n 0, 1) := by decide +kernel
theorem dX8_lays_13 : decode cX8_lays 13 = .ok (.getfield 7, 3) := by decide +kernel
theorem dX8_lays_16 : decode cX8_lays 16 = .ok (.bipush 17, 2) := by decide +kernel
theorem dX8_lays_18 : decode cX8_lays 18 = .ok (.iconst 2, 1) := by decide +kernel
theorem dX8_lays_19 : decode cX8_lays 19 = .ok (.iload_n 1, 1) := by decide +kernel
theorem dX8_lays_20 : decode cX8_lays 20 = .ok (.imul, 1) := by decide +kernel
theorem dX8_lays_21 : decode cX8_lays 21 = .ok (.iadd, 1) := by decide +kernel
theorem dX8_lays_22 : decode cX8_lays 22 = .ok (.iconst 1, 1) := by decide +kernel
theorem dX8_lays_23 : decode cX8_lays 23 = .ok (.iadd, 1) := by decide +kernel
theorem dX8_lays_24 : decode cX8_lays 24 = .ok (.aload_n 0, 1) := by decide +kernel
theorem dX8_lays_25 : decode cX8_lays 25 = .ok (.getfield 7, 3) := by decide +kernel
theorem dX8_lays_28 : decode cX8_lays 28 = .ok (.iconst 5, 1) := by decide +kernel
theorem dX8_lays_29 : decode cX8_lays 29 = .ok (.iaload, 1) := by decide +kernel
theorem dX8_lays_30 : decode cX8_lays 30 = .ok (.iastore, 1) := by decide +kernel
theorem dX8_lays_31 : decode cX8_lays 31 = .ok (.return_, 1) := by decide +kernel
theorem dX8_wanted_0 : decode cX8_wanted 0 = .ok (.aload_n 0, 1) := by decide +kernel
theorem dX8_wanted_1 : decode cX8_wanted 1 = .ok (.getfield 7, 3) := by decide +kernel
theorem dX8_wanted_4 : decode cX8_wanted 4 = .ok (.bipush 33, 2) := by decide +kernel
theorem dX8_wanted_6 : decode cX8_wanted 6 = .ok (.bipush 8, 2) := by decide +kernel
theorem dX8_wanted_8 : decode cX8_wanted 8 = .ok (.iload_n 2, 1) := by decide +kernel
theorem dX8_wanted_9 : decode cX8_wanted 9 = .ok (.imul, 1) := by decide +kernel
theorem dX8_wanted_10 : decode cX8_wanted 10 = .ok (.iadd, 1) := by decide +kernel
theorem dX8_wanted_11 : decode cX8_wanted 11 = .ok (.iload_n 2, 1) := by decide +kernel
theorem dX8_wanted_12 : decode cX8_wanted 12 = .ok (.ifCond .ne 7, 3) := by decide +kernel
theorem dX8_wanted_15 : decode cX8_wanted 15 = .ok (.iload_n 1, 1) := by decide +kernel
theorem dX8_wanted_16 : decode cX8_wanted 16 = .ok (.goto 13, 3) := by decide +kernel
theorem dX8_wanted_19 : decode cX8_wanted 19 = .ok (.aload_n 0, 1) := by decide +kernel
theorem dX8_wanted_20 : decode cX8_wanted 20 = .ok (.getfield 7, 3) := by decide +kernel
theorem dX8_wanted_23 : decode cX8_wanted 23 = .ok (.iconst 0, 1) := by decide +kernel
theorem dX8_wanted_24 : decode cX8_wanted 24 = .ok (.iaload, 1) := by decide +kernel
theorem dX8_wanted_25 : decode cX8_wanted 25 = .ok (.iconst 1, 1) := by decide +kernel
theorem dX8_wanted_26 : decode cX8_wanted 26 = .ok (.isub, 1) := by decide +kernel
theorem dX8_wanted_27 : decode cX8_wanted 27 = .ok (.iload_n 1, 1) := by decide +kernel
theorem dX8_wanted_28 : decode cX8_wanted 28 = .ok (.isub, 1) := by decide +kernel
theorem dX8_wanted_29 : decode cX8_wanted 29 = .ok (.iadd, 1) := by decide +kernel
theorem dX8_wanted_30 : decode cX8_wanted 30 = .ok (.iaload, 1) := by decide +kernel
theorem dX8_wanted_31 : decode cX8_wanted 31 = .ok (.ireturn, 1) := by decide +kernel
set_option maxRecDepth 20000 in
theorem ggX8_signBy_X8_signOf : GoodIn wsX8_signBy wsX8_signOf := goodIn_r _ [5, 6, 10, 11, 12, 13, 14, 15, 16, 17, 18, 19, 20, 21, 22] (by decide +kernel) (by decide +kernel)
set_option maxRecDepth 20000 in
theorem gX8_signBy_X8_signOf : GoodIn wsX8_signBy (wsV RX8 60 RX8 yX8_signOf wsX8_signOf) := goodIn_app (goodIn_of _ (by decide +kernel)) ggX8_signBy_X8_signOf
set_option maxRecDepth 20000 in
theorem ggX8_signBy_X8_turned : GoodIn wsX8_signBy wsX8_turned := goodIn_r _ [9] (by decide +kernel) (by decide +kernel)
set_option maxRecDepth 20000 in
theorem gX8_signBy_X8_turned : GoodIn wsX8_signBy (va_wsS RX8 36 yX8_turned wsX8_turned) := goodIn_app (goodIn_of _ (by decide +kernel)) ggX8_signBy_X8_turned
theorem dX8_signBy_0 : decode cX8_signBy 0 = .ok (.iload_n 2, 1) := by decide +kernel
theorem dX8_signBy_1 : decode cX8_signBy 1 = .ok (.ifCond .ne 11, 3) := by decide +kernel
theorem dX8_signBy_4 : decode cX8_signBy 4 = .ok (.aload_n 0, 1) := by decide +kernel
theorem dX8_signBy_5 : decode cX8_signBy 5 = .ok (.iload_n 1, 1) := by decide +kernel
theorem dX8_signBy_6 : decode cX8_signBy 6 = .ok (.invokevirtual 60, 3) := by decide +kernel
theorem dX8_signBy_9 : decode cX8_signBy 9 = .ok (.goto 11, 3) := by decide +kernel
theorem dX8_signBy_12 : decode cX8_signBy 12 = .ok (.aload_n 0, 1) := by decide +kernel
theorem dX8_signBy_13 : decode cX8_signBy 13 = .ok (.iload_n 1, 1) := by decide +kernel
theorem dX8_signBy_14 : decode cX8_signBy 14 = .ok (.invokevirtual 60, 3) := by decide +kernel
theorem dX8_signBy_17 : decode cX8_signBy 17 = .ok (.invokestatic 36, 3) := by decide +kernel
theorem dX8_signBy_20 : decode cX8_signBy 20 = .ok (.ireturn, 1) := by decide +kernel
set_option maxRecDepth 20000 in
theorem ggX8_readAt_X8_coats : GoodIn wsX8_readAt wsX8_coats := goodIn_r _ [5, 6, 29, 30, 31, 32, 33, 34, 35, 36, 37, 38, 39, 40, 41] (by decide +kernel) (by decide +kernel)
set_option maxRecDepth 20000 in
theorem gX8_readAt_X8_coats : GoodIn wsX8_readAt (wsV RX8 63 RX8 yX8_coats wsX8_coats) := goodIn_app (goodIn_of _ (by decide +kernel)) ggX8_readAt_X8_coats
set_option maxRecDepth 20000 in
theorem ggX8_readAt_X8_signBy : GoodIn wsX8_readAt wsX8_signBy := goodIn_r _ [10, 11, 12, 13, 4, 14, 6, 15, 16, 17, 29, 30, 31, 32, 33, 34, 35, 36, 37, 38, 39, 40, 41] (by decide +kernel) (by decide +kernel)
set_option maxRecDepth 20000 in
theorem gX8_readAt_X8_signBy : GoodIn wsX8_readAt (wsV RX8 66 RX8 yX8_signBy wsX8_signBy) := goodIn_app (goodIn_of _ (by decide +kernel)) ggX8_readAt_X8_signBy
set_option maxRecDepth 20000 in
theorem ggX8_readAt_X8_readAs : GoodIn wsX8_readAt wsX8_readAs := goodIn_r _ [21, 22, 23, 24, 4, 25, 6, 26, 27, 28, 29, 30, 31, 32, 33, 34, 35, 36, 37, 38, 39, 40, 41] (by decide +kernel) (by decide +kernel)
set_option maxRecDepth 20000 in
theorem gX8_readAt_X8_readAs : GoodIn wsX8_readAt (wsV RX8 49 RX8 yX8_readAs wsX8_readAs) := goodIn_app (goodIn_of _ (by decide +kernel)) ggX8_readAt_X8_readAs
theorem dX8_readAt_0 : decode cX8_readAt 0 = .ok (.aload_n 0, 1) := by decide +kernel
theorem dX8_readAt_1 : decode cX8_readAt 1 = .ok (.iload_n 1, 1) := by decide +kernel
theorem dX8_readAt_2 : decode cX8_readAt 2 = .ok (.invokevirtual 63, 3) := by decide +kernel
theorem dX8_readAt_5 : decode cX8_readAt 5 = .ok (.ifCond .ne 7, 3) := by decide +kernel
theorem dX8_readAt_8 : decode cX8_readAt 8 = .ok (.iconst (-1), 1) := by decide +kernel
theorem dX8_readAt_9 : decode cX8_readAt 9 = .ok (.goto 13, 3) := by decide +kernel
theorem dX8_readAt_12 : decode cX8_readAt 12 = .ok (.aload_n 0, 1) := by decide +kernel
theorem dX8_readAt_13 : decode cX8_readAt 13 = .ok (.aload_n 0, 1) := by decide +kernel
theorem dX8_readAt_14 : decode cX8_readAt 14 = .ok (.iload_n 1, 1) := by decide +kernel
theorem dX8_readAt_15 : decode cX8_readAt 15 = .ok (.iload_n 2, 1) := by decide +kernel
theorem dX8_readAt_16 : decode cX8_readAt 16 = .ok (.invokevirtual 66, 3) := by decide +kernel
theorem dX8_readAt_19 : decode cX8_readAt 19 = .ok (.invokevirtual 49, 3) := by decide +kernel
theorem dX8_readAt_22 : decode cX8_readAt 22 = .ok (.ireturn, 1) := by decide +kernel
set_option maxRecDepth 20000 in
theorem ggX8_fades_X8_signOf : GoodIn wsX8_fades wsX8_signOf := goodIn_r _ [6, 1, 14, 15, 16, 17, 18, 19, 20, 21, 22, 23, 24, 25, 26] (by decide +kernel) (by decide +kernel)
set_option maxRecDepth 20000 in
theorem gX8_fades_X8_signOf : GoodIn wsX8_fades (wsV RX8 60 RX8 yX8_signOf wsX8_signOf) := goodIn_app (goodIn_of _ (by decide +kernel)) ggX8_fades_X8_signOf
set_option maxRecDepth 20000 in
theorem ggX8_fades_X8_coats : GoodIn wsX8_fades wsX8_coats := goodIn_r _ [10, 1, 14, 15, 16, 17, 18, 19, 20, 21, 22, 23, 24, 25, 26] (by decide +kernel) (by decide +kernel)
set_option maxRecDepth 20000 in
theorem gX8_fades_X8_coats : GoodIn wsX8_fades (wsV RX8 63 RX8 yX8_coats wsX8_coats) := goodIn_app (goodIn_of _ (by decide +kernel)) ggX8_fades_X8_coats
set_option maxRecDepth 20000 in
theorem ggX8_fades_X8_dark : GoodIn wsX8_fades wsX8_dark := goodIn_r _ [13] (by decide +kernel) (by decide +kernel)
set_option maxRecDepth 20000 in
theorem gX8_fades_X8_dark : GoodIn wsX8_fades (va_wsS RX8 33 yX8_dark wsX8_dark) := goodIn_app (goodIn_of _ (by decide +kernel)) ggX8_fades_X8_dark
theorem dX8_fades_0 : decode cX8_fades 0 = .ok (.aload_n 0, 1) := by decide +kernel
theorem dX8_fades_1 : decode cX8_fades 1 = .ok (.getfield 7, 3) := by decide +kernel
theorem dX8_fades_4 : decode cX8_fades 4 = .ok (.iconst 1, 1) := by decide +kernel
theorem dX8_fades_5 : decode cX8_fades 5 = .ok (.iaload, 1) := by decide +kernel
theorem dX8_fades_6 : decode cX8_fades 6 = .ok (.ifCond .ne 15, 3) := by decide +kernel
theorem dX8_fades_9 : decode cX8_fades 9 = .ok (.aload_n 0, 1) := by decide +kernel
theorem dX8_fades_10 : decode cX8_fades 10 = .ok (.iload_n 1, 1) := by decide +kernel
theorem dX8_fades_11 : decode cX8_fades 11 = .ok (.invokevirtual 60, 3) := by decide +kernel
theorem dX8_fades_14 : decode cX8_fades 14 = .ok (.sipush 511, 3) := by decide +kernel
theorem dX8_fades_17 : decode cX8_fades 17 = .ok (.iand, 1) := by decide +kernel
theorem dX8_fades_18 : decode cX8_fades 18 = .ok (.goto 11, 3) := by decide +kernel
theorem dX8_fades_21 : decode cX8_fades 21 = .ok (.aload_n 0, 1) := by decide +kernel
theorem dX8_fades_22 : decode cX8_fades 22 = .ok (.iload_n 1, 1) := by decide +kernel
theorem dX8_fades_23 : decode cX8_fades 23 = .ok (.invokevirtual 60, 3) := by decide +kernel
theorem dX8_fades_26 : decode cX8_fades 26 = .ok (.bipush 6, 2) := by decide +kernel
theorem dX8_fades_28 : decode cX8_fades 28 = .ok (.ishr, 1) := by decide +kernel
theorem dX8_fades_29 : decode cX8_fades 29 = .ok (.istore_n 2, 1) := by decide +kernel
theorem dX8_fades_30 : decode cX8_fades 30 = .ok (.aload_n 0, 1) := by decide +kernel
theorem dX8_fades_31 : decode cX8_fades 31 = .ok (.iload_n 1, 1) := by decide +kernel
theorem dX8_fades_32 : decode cX8_fades 32 = .ok (.invokevirtual 63, 3) := by decide +kernel
theorem dX8_fades_35 : decode cX8_fades 35 = .ok (.ifCond .le 21, 3) := by decide +kernel
theorem dX8_fades_38 : decode cX8_fades 38 = .ok (.iload_n 2, 1) := by decide +kernel
theorem dX8_fades_39 : decode cX8_fades 39 = .ok (.invokestatic 33, 3) := by decide +kernel
theorem dX8_fades_42 : decode cX8_fades 42 = .ok (.aload_n 0, 1) := by decide +kernel
theorem dX8_fades_43 : decode cX8_fades 43 = .ok (.getfield 7, 3) := by decide +kernel
theorem dX8_fades_46 : decode cX8_fades 46 = .ok (.bipush 6, 2) := by decide +kernel
theorem dX8_fades_48 : decode cX8_fades 48 = .ok (.iaload, 1) := by decide +kernel
theorem dX8_fades_49 : decode cX8_fades 49 = .ok (.if_icmp .lt 7, 3) := by decide +kernel
theorem dX8_fades_52 : decode cX8_fades 52 = .ok (.iconst 1, 1) := by decide +kernel
theorem dX8_fades_53 : decode cX8_fades 53 = .ok (.goto 4, 3) := by decide +kernel
theorem dX8_fades_56 : decode cX8_fades 56 = .ok (.iconst 0, 1) := by decide +kernel
theorem dX8_fades_57 : decode cX8_fades 57 = .ok (.ireturn, 1) := by decide +kernel
set_option maxRecDepth 20000 in
theorem ggX8_composesAt_X8_wanted : GoodIn wsX8_composesAt wsX8_wanted := goodIn_r _ [5, 6, 39, 40, 41, 42, 43, 44, 45, 46, 47, 48, 49, 50, 51] (by decide +kernel) (by decide +kernel)
set_option maxRecDepth 20000 in
theorem gX8_composesAt_X8_wanted : GoodIn wsX8_composesAt (wsV RX8 69 RX8 yX8_wanted wsX8_wanted) := goodIn_app (goodIn_of _ (by decide +kernel)) ggX8_composesAt_X8_wanted
set_option maxRecDepth 20000 in
theorem ggX8_composesAt_X8_areDrawn : GoodIn wsX8_composesAt wsX8_areDrawn := goodIn_r _ [10, 11, 12, 13, 4, 14, 6, 39, 40, 41, 42, 43, 44, 45, 46, 47, 48, 49, 50, 51] (by decide +kernel) (by decide +kernel)
set_option maxRecDepth 20000 in
theorem gX8_composesAt_X8_areDrawn : GoodIn wsX8_composesAt (wsV RX8 72 RX8 yX8_areDrawn wsX8_areDrawn) := goodIn_app (goodIn_of _ (by decide +kernel)) ggX8_composesAt_X8_areDrawn
set_option maxRecDepth 20000 in
theorem ggX8_composesAt_X8_composes : GoodIn wsX8_composesAt wsX8_composes := goodIn_r _ [18, 19, 20, 11, 12, 13, 4, 14, 6, 21, 22, 23, 24, 25, 26, 27, 28, 29, 30, 31, 32, 33, 34, 35, 36, 37, 38, 39, 40, 41, 42, 43, 44, 45, 46, 47, 48, 49, 50, 51] (by decide +kernel) (by decide +kernel)
set_option maxRecDepth 20000 in
theorem gX8_composesAt_X8_composes : GoodIn wsX8_composesAt (wsV RX8 76 RX8 yX8_composes wsX8_composes) := goodIn_app (goodIn_of _ (by decide +kernel)) ggX8_composesAt_X8_composes
theorem dX8_composesAt_0 : decode cX8_composesAt 0 = .ok (.aload_n 0, 1) := by decide +kernel
theorem dX8_composesAt_1 : decode cX8_composesAt 1 = .ok (.iload_n 1, 1) := by decide +kernel
theorem dX8_composesAt_2 : decode cX8_composesAt 2 = .ok (.iconst 0, 1) := by decide +kernel
theorem dX8_composesAt_3 : decode cX8_composesAt 3 = .ok (.invokevirtual 69, 3) := by decide +kernel
theorem dX8_composesAt_6 : decode cX8_composesAt 6 = .ok (.istore_n 2, 1) := by decide +kernel
theorem dX8_composesAt_7 : decode cX8_composesAt 7 = .ok (.aload_n 0, 1) := by decide +kernel
theorem dX8_composesAt_8 : decode cX8_composesAt 8 = .ok (.iload_n 1, 1) := by decide +kernel
theorem dX8_composesAt_9 : decode cX8_composesAt 9 = .ok (.iconst 1, 1) := by decide +kernel
theorem dX8_composesAt_10 : decode cX8_composesAt 10 = .ok (.invokevirtual 69, 3) := by decide +kernel
theorem dX8_composesAt_13 : decode cX8_composesAt 13 = .ok (.istore_n 3, 1) := by decide +kernel
theorem dX8_composesAt_14 : decode cX8_composesAt 14 = .ok (.aload_n 0, 1) := by decide +kernel
theorem dX8_composesAt_15 : decode cX8_composesAt 15 = .ok (.iload_n 2, 1) := by decide +kernel
theorem dX8_composesAt_16 : decode cX8_composesAt 16 = .ok (.iload_n 3, 1) := by decide +kernel
theorem dX8_composesAt_17 : decode cX8_composesAt 17 = .ok (.invokevirtual 72, 3) := by decide +kernel
theorem dX8_composesAt_20 : decode cX8_composesAt 20 = .ok (.ifCond .eq 16, 3) := by decide +kernel
theorem dX8_composesAt_23 : decode cX8_composesAt 23 = .ok (.aload_n 0, 1) := by decide +kernel
theorem dX8_composesAt_24 : decode cX8_composesAt 24 = .ok (.iload_n 2, 1) := by decide +kernel
theorem dX8_composesAt_25 : decode cX8_composesAt 25 = .ok (.iload_n 3, 1) := by decide +kernel
theorem dX8_composesAt_26 : decode cX8_composesAt 26 = .ok (.invokevirtual 76, 3) := by decide +kernel
theorem dX8_composesAt_29 : decode cX8_composesAt 29 = .ok (.ifCond .eq 7, 3) := by decide +kernel
theorem dX8_composesAt_32 : decode cX8_composesAt 32 = .ok (.iconst 1, 1) := by decide +kernel
theorem dX8_composesAt_33 : decode cX8_composesAt 33 = .ok (.goto 4, 3) := by decide +kernel
theorem dX8_composesAt_36 : decode cX8_composesAt 36 = .ok (.iconst 0, 1) := by decide +kernel
theorem dX8_composesAt_37 : decode cX8_composesAt 37 = .ok (.ireturn, 1) := by decide +kernel
set_option maxRecDepth 20000 in
theorem ggX8_letter_X8_begins : GoodIn wsX8_letter wsX8_begins := goodIn_r _ [6, 7, 1, 21, 22, 23, 24, 25, 26, 27, 28, 29, 30, 31, 32, 33] (by decide +kernel) (by decide +kernel)
set_option maxRecDepth 20000 in
theorem gX8_letter_X8_begins : GoodIn wsX8_letter (wsV RX8 79 RX8 yX8_begins wsX8_begins) := goodIn_app (goodIn_of _ (by decide +kernel)) ggX8_letter_X8_begins
set_option maxRecDepth 20000 in
theorem ggX8_letter_X8_in : GoodIn wsX8_letter wsX8_in := goodIn_r _ [10] (by decide +kernel) (by decide +kernel)
set_option maxRecDepth 20000 in
theorem gX8_letter_X8_in : GoodIn wsX8_letter (va_wsS RX8 56 yX8_in wsX8_in) := goodIn_app (goodIn_of _ (by decide +kernel)) ggX8_letter_X8_in
set_option maxRecDepth 20000 in
theorem ggX8_letter_X8_drawn : GoodIn wsX8_letter wsX8_drawn := goodIn_r _ [14, 1, 21, 22, 23, 24, 25, 26, 27, 28, 29, 30, 31, 32, 33] (by decide +kernel) (by decide +kernel)
set_option maxRecDepth 20000 in
theorem gX8_letter_X8_drawn : GoodIn wsX8_letter (wsV RX8 29 RX8 yX8_drawn wsX8_drawn) := goodIn_app (goodIn_of _ (by decide +kernel)) ggX8_letter_X8_drawn
set_option maxRecDepth 20000 in
theorem ggX8_letter_X8_acted : GoodIn wsX8_letter wsX8_acted := goodIn_r _ [18, 1, 7, 19, 20, 21, 22, 23, 24, 25, 26, 27, 28, 29, 30, 31, 32, 33] (by decide +kernel) (by decide +kernel)
set_option maxRecDepth 20000 in
theorem gX8_letter_X8_acted : GoodIn wsX8_letter (wsV RX8 82 RX8 yX8_acted wsX8_acted) := goodIn_app (goodIn_of _ (by decide +kernel)) ggX8_letter_X8_acted
theorem dX8_letter_0 : decode cX8_letter 0 = .ok (.aload_n 0, 1) := by decide +kernel
theorem dX8_letter_1 : decode cX8_letter 1 = .ok (.invokevirtual 79, 3) := by decide +kernel
theorem dX8_letter_4 : decode cX8_letter 4 = .ok (.iload_n 1, 1) := by decide +kernel
theorem dX8_letter_5 : decode cX8_letter 5 = .ok (.iconst 0, 1) := by decide +kernel
theorem dX8_letter_6 : decode cX8_letter 6 = .ok (.bipush 9, 2) := by decide +kernel
theorem dX8_letter_8 : decode cX8_letter 8 = .ok (.invokestatic 56, 3) := by decide +kernel
theorem dX8_letter_11 : decode cX8_letter 11 = .ok (.ifCond .eq 14, 3) := by decide +kernel
theorem dX8_letter_14 : decode cX8_letter 14 = .ok (.iload_n 2, 1) := by decide +kernel
theorem dX8_letter_15 : decode cX8_letter 15 = .ok (.iconst 0, 1) := by decide +kernel
theorem dX8_letter_16 : decode cX8_letter 16 = .ok (.sipush 32767, 3) := by decide +kernel
theorem dX8_letter_19 : decode cX8_letter 19 = .ok (.invokestatic 56, 3) := by decide +kernel
theorem dX8_letter_22 : decode cX8_letter 22 = .ok (.ifCond .ne 7, 3) := by decide +kernel
theorem dX8_letter_25 : decode cX8_letter 25 = .ok (.sipush (-1001), 3) := by decide +kernel
theorem dX8_letter_28 : decode cX8_letter 28 = .ok (.ireturn, 1) := by decide +kernel
theorem dX8_letter_29 : decode cX8_letter 29 = .ok (.iconst 0, 1) := by decide +kernel
theorem dX8_letter_30 : decode cX8_letter 30 = .ok (.istore_n 3, 1) := by decide +kernel
theorem dX8_letter_31 : decode cX8_letter 31 = .ok (.iload_n 3, 1) := by decide +kernel
theorem dX8_letter_32 : decode cX8_letter 32 = .ok (.bipush 10, 2) := by decide +kernel
theorem dX8_letter_34 : decode cX8_letter 34 = .ok (.if_icmp .ge 27, 3) := by decide +kernel
theorem dX8_letter_37 : decode cX8_letter 37 = .ok (.iload_n 3, 1) := by decide +kernel
theorem dX8_letter_38 : decode cX8_letter 38 = .ok (.iload_n 1, 1) := by decide +kernel
theorem dX8_letter_39 : decode cX8_letter 39 = .ok (.if_icmp .eq 16, 3) := by decide +kernel
theorem dX8_letter_42 : decode cX8_letter 42 = .ok (.aload_n 0, 1) := by decide +kernel
theorem dX8_letter_43 : decode cX8_letter 43 = .ok (.iload_n 3, 1) := by decide +kernel
theorem dX8_letter_44 : decode cX8_letter 44 = .ok (.invokevirtual 29, 3) := by decide +kernel
theorem dX8_letter_47 : decode cX8_letter 47 = .ok (.iload_n 2, 1) := by decide +kernel
theorem dX8_letter_48 : decode cX8_letter 48 = .ok (.if_icmp .ne 7, 3) := by decide +kernel
theorem dX8_letter_51 : decode cX8_letter 51 = .ok (.sipush (-1002), 3) := by decide +kernel
theorem dX8_letter_54 : decode cX8_letter 54 = .ok (.ireturn, 1) := by decide +kernel
theorem dX8_letter_55 : decode cX8_letter 55 = .ok (.iinc 3 1, 3) := by decide +kernel
theorem dX8_letter_58 : decode cX8_letter 58 = .ok (.goto (-27), 3) := by decide +kernel
theorem dX8_letter_61 : decode cX8_letter 61 = .ok (.aload_n 0, 1) := by decide +kernel
theorem dX8_letter_62 : decode cX8_letter 62 = .ok (.iload_n 1, 1) := by decide +kernel
theorem dX8_letter_63 : decode cX8_letter 63 = .ok (.invokevirtual 29, 3) := by decide +kernel
theorem dX8_letter_66 : decode cX8_letter 66 = .ok (.istore_n 3, 1) := by decide +kernel
theorem dX8_letter_67 : decode cX8_letter 67 = .ok (.aload_n 0, 1) := by decide +kernel
theorem dX8_letter_68 : decode cX8_letter 68 = .ok (.getfield 7, 3) := by decide +kernel
theorem dX8_letter_71 : decode cX8_letter 71 = .ok (.bipush 7, 2) := by decide +kernel
theorem dX8_letter_73 : decode cX8_letter 73 = .ok (.iload_n 1, 1) := by decide +kernel
theorem dX8_letter_74 : decode cX8_letter 74 = .ok (.iadd, 1) := by decide +kernel
theorem dX8_letter_75 : decode cX8_letter 75 = .ok (.iload_n 2, 1) := by decide +kernel
theorem dX8_letter_76 : decode cX8_letter 76 = .ok (.iastore, 1) := by decide +kernel
theorem dX8_letter_77 : decode cX8_letter 77 = .ok (.aload_n 0, 1) := by decide +kernel
theorem dX8_letter_78 : decode cX8_letter 78 = .ok (.iload_n 3, 1) := by decide +kernel
theorem dX8_letter_79 : decode cX8_letter 79 = .ok (.invokevirtual 82, 3) := by decide +kernel
theorem dX8_letter_82 : decode cX8_letter 82 = .ok (.ireturn, 1) := by decide +kernel
set_option maxRecDepth 20000 in
theorem ggX8_sign_X8_begins : GoodIn wsX8_sign wsX8_begins := goodIn_r _ [5, 6, 7, 29, 30, 31, 32, 33, 34, 35, 36, 37, 38, 39, 40, 41] (by decide +kernel) (by decide +kernel)
set_option maxRecDepth 20000 in
theorem gX8_sign_X8_begins : GoodIn wsX8_sign (wsV RX8 79 RX8 yX8_begins wsX8_begins) := goodIn_app (goodIn_of _ (by decide +kernel)) ggX8_sign_X8_begins
set_option maxRecDepth 20000 in
theorem ggX8_sign_X8_isPlace : GoodIn wsX8_sign wsX8_isPlace := goodIn_r _ [11, 7, 12, 13, 4, 14, 29, 30, 31, 32, 33, 34, 35, 36, 37, 38, 39, 40, 41] (by decide +kernel) (by decide +kernel)
set_option maxRecDepth 20000 in
theorem gX8_sign_X8_isPlace : GoodIn wsX8_sign (wsV RX8 85 RX8 yX8_isPlace wsX8_isPlace) := goodIn_app (goodIn_of _ (by decide +kernel)) ggX8_sign_X8_isPlace
set_option maxRecDepth 20000 in
theorem ggX8_sign_X8_in : GoodIn wsX8_sign wsX8_in := goodIn_r _ [14] (by decide +kernel) (by decide +kernel)
set_option maxRecDepth 20000 in
theorem gX8_sign_X8_in : GoodIn wsX8_sign (va_wsS RX8 56 yX8_in wsX8_in) := goodIn_app (goodIn_of _ (by decide +kernel)) ggX8_sign_X8_in
set_option maxRecDepth 20000 in
theorem ggX8_sign_X8_signOf : GoodIn wsX8_sign wsX8_signOf := goodIn_r _ [18, 7, 29, 30, 31, 32, 33, 34, 35, 36, 37, 38, 39, 40, 41] (by decide +kernel) (by decide +kernel)
set_option maxRecDepth 20000 in
theorem gX8_sign_X8_signOf : GoodIn wsX8_sign (wsV RX8 60 RX8 yX8_signOf wsX8_signOf) := goodIn_app (goodIn_of _ (by decide +kernel)) ggX8_sign_X8_signOf
set_option maxRecDepth 20000 in
theorem ggX8_sign_X8_lays : GoodIn wsX8_sign wsX8_lays := goodIn_r _ [22, 7, 29, 30, 31, 32, 33, 34, 35, 36, 37, 38, 39, 40, 41] (by decide +kernel) (by decide +kernel)
set_option maxRecDepth 20000 in
theorem gX8_sign_X8_lays : GoodIn wsX8_sign (wsV RX8 89 RX8 yX8_lays wsX8_lays) := goodIn_app (goodIn_of _ (by decide +kernel)) ggX8_sign_X8_lays
set_option maxRecDepth 20000 in
theorem ggX8_sign_X8_acted : GoodIn wsX8_sign wsX8_acted := goodIn_r _ [26, 7, 6, 27, 28, 29, 30, 31, 32, 33, 34, 35, 36, 37, 38, 39, 40, 41] (by decide +kernel) (by decide +kernel)
set_option maxRecDepth 20000 in
theorem gX8_sign_X8_acted : GoodIn wsX8_sign (wsV RX8 82 RX8 yX8_acted wsX8_acted) := goodIn_app (goodIn_of _ (by decide +kernel)) ggX8_sign_X8_acted
theorem dX8_sign_0 : decode cX8_sign 0 = .ok (.aload_n 0, 1) := by decide +kernel
theorem dX8_sign_1 : decode cX8_sign 1 = .ok (.invokevirtual 79, 3) := by decide +kernel
theorem dX8_sign_4 : decode cX8_sign 4 = .ok (.aload_n 0, 1) := by decide +kernel
theorem dX8_sign_5 : decode cX8_sign 5 = .ok (.iload_n 1, 1) := by decide +kernel
theorem dX8_sign_6 : decode cX8_sign 6 = .ok (.invokevirtual 85, 3) := by decide +kernel
theorem dX8_sign_9 : decode cX8_sign 9 = .ok (.ifCond .eq 14, 3) := by decide +kernel
theorem dX8_sign_12 : decode cX8_sign 12 = .ok (.iload_n 2, 1) := by decide +kernel
theorem dX8_sign_13 : decode cX8_sign 13 = .ok (.iconst 0, 1) := by decide +kernel
theorem dX8_sign_14 : decode cX8_sign 14 = .ok (.sipush 32767, 3) := by decide +kernel
theorem dX8_sign_17 : decode cX8_sign 17 = .ok (.invokestatic 56, 3) := by decide +kernel
theorem dX8_sign_20 : decode cX8_sign 20 = .ok (.ifCond .ne 7, 3) := by decide +kernel
theorem dX8_sign_23 : decode cX8_sign 23 = .ok (.sipush (-1001), 3) := by decide +kernel
theorem dX8_sign_26 : decode cX8_sign 26 = .ok (.ireturn, 1) := by decide +kernel
theorem dX8_sign_27 : decode cX8_sign 27 = .ok (.aload_n 0, 1) := by decide +kernel
theorem dX8_sign_28 : decode cX8_sign 28 = .ok (.iload_n 1, 1) := by decide +kernel
theorem dX8_sign_29 : decode cX8_sign 29 = .ok (.invokevirtual 60, 3) := by decide +kernel
theorem dX8_sign_32 : decode cX8_sign 32 = .ok (.istore_n 3, 1) := by decide +kernel
theorem dX8_sign_33 : decode cX8_sign 33 = .ok (.aload_n 0, 1) := by decide +kernel
theorem dX8_sign_34 : decode cX8_sign 34 = .ok (.iload_n 1, 1) := by decide +kernel
theorem dX8_sign_35 : decode cX8_sign 35 = .ok (.iload_n 2, 1) := by decide +kernel
theorem dX8_sign_36 : decode cX8_sign 36 = .ok (.invokevirtual 89, 3) := by decide +kernel
theorem dX8_sign_39 : decode cX8_sign 39 = .ok (.aload_n 0, 1) := by decide +kernel
theorem dX8_sign_40 : decode cX8_sign 40 = .ok (.iload_n 3, 1) := by decide +kernel
theorem dX8_sign_41 : decode cX8_sign 41 = .ok (.invokevirtual 82, 3) := by decide +kernel
theorem dX8_sign_44 : decode cX8_sign 44 = .ok (.ireturn, 1) := by decide +kernel
set_option maxRecDepth 20000 in
theorem ggX8_compose_X8_begins : GoodIn wsX8_compose wsX8_begins := goodIn_r _ [6, 7, 8, 65, 66, 67, 68, 69, 70, 71, 72, 73, 74, 75, 76, 77] (by decide +kernel) (by decide +kernel)
set_option maxRecDepth 20000 in
theorem gX8_compose_X8_begins : GoodIn wsX8_compose (wsV RX8 79 RX8 yX8_begins wsX8_begins) := goodIn_app (goodIn_of _ (by decide +kernel)) ggX8_compose_X8_begins
set_option maxRecDepth 20000 in
theorem ggX8_compose_X8_isPlace : GoodIn wsX8_compose wsX8_isPlace := goodIn_r _ [12, 8, 13, 14, 5, 15, 65, 66, 67, 68, 69, 70, 71, 72, 73, 74, 75, 76, 77] (by decide +kernel) (by decide +kernel)
set_option maxRecDepth 20000 in
theorem gX8_compose_X8_isPlace : GoodIn wsX8_compose (wsV RX8 85 RX8 yX8_isPlace wsX8_isPlace) := goodIn_app (goodIn_of _ (by decide +kernel)) ggX8_compose_X8_isPlace
set_option maxRecDepth 20000 in
theorem ggX8_compose_X8_composesAt : GoodIn wsX8_compose wsX8_composesAt := goodIn_r _ [19, 20, 21, 22, 5, 23, 8, 24, 25, 26, 27, 28, 29, 30, 31, 32, 33, 34, 35, 1, 36, 37, 38, 39, 40, 41, 42, 43, 44, 45, 46, 47, 48, 49, 50, 51, 52, 53, 54, 65, 66, 67, 68, 69, 70, 71, 72, 73, 74, 75, 76, 77] (by decide +kernel) (by decide +kernel)
set_option maxRecDepth 20000 in
theorem gX8_compose_X8_composesAt : GoodIn wsX8_compose (wsV RX8 93 RX8 yX8_composesAt wsX8_composesAt) := goodIn_app (goodIn_of _ (by decide +kernel)) ggX8_compose_X8_composesAt
set_option maxRecDepth 20000 in
theorem ggX8_compose_X8_lays : GoodIn wsX8_compose wsX8_lays := goodIn_r _ [58, 8, 65, 66, 67, 68, 69, 70, 71, 72, 73, 74, 75, 76, 77] (by decide +kernel) (by decide +kernel)
set_option maxRecDepth 20000 in
theorem gX8_compose_X8_lays : GoodIn wsX8_compose (wsV RX8 89 RX8 yX8_lays wsX8_lays) := goodIn_app (goodIn_of _ (by decide +kernel)) ggX8_compose_X8_lays
set_option maxRecDepth 20000 in
theorem ggX8_compose_X8_acted : GoodIn wsX8_compose wsX8_acted := goodIn_r _ [62, 8, 7, 63, 64, 65, 66, 67, 68, 69, 70, 71, 72, 73, 74, 75, 76, 77] (by decide +kernel) (by decide +kernel)
set_option maxRecDepth 20000 in
theorem gX8_compose_X8_acted : GoodIn wsX8_compose (wsV RX8 82 RX8 yX8_acted wsX8_acted) := goodIn_app (goodIn_of _ (by decide +kernel)) ggX8_compose_X8_acted
theorem dX8_compose_0 : decode cX8_compose 0 = .ok (.aload_n 0, 1) := by decide +kernel
theorem dX8_compose_1 : decode cX8_compose 1 = .ok (.invokevirtual 79, 3) := by decide +kernel
theorem dX8_compose_4 : decode cX8_compose 4 = .ok (.aload_n 0, 1) := by decide +kernel
theorem dX8_compose_5 : decode cX8_compose 5 = .ok (.iload_n 1, 1) := by decide +kernel
theorem dX8_compose_6 : decode cX8_compose 6 = .ok (.invokevirtual 85, 3) := by decide +kernel
theorem dX8_compose_9 : decode cX8_compose 9 = .ok (.ifCond .ne 7, 3) := by decide +kernel
theorem dX8_compose_12 : decode cX8_compose 12 = .ok (.sipush (-1001), 3) := by decide +kernel
theorem dX8_compose_15 : decode cX8_compose 15 = .ok (.ireturn, 1) := by decide +kernel
theorem dX8_compose_16 : decode cX8_compose 16 = .ok (.aload_n 0, 1) := by decide +kernel
theorem dX8_compose_17 : decode cX8_compose 17 = .ok (.iload_n 1, 1) := by decide +kernel
theorem dX8_compose_18 : decode cX8_compose 18 = .ok (.invokevirtual 93, 3) := by decide +kernel
theorem dX8_compose_21 : decode cX8_compose 21 = .ok (.ifCond .ne 7, 3) := by decide +kernel
theorem dX8_compose_24 : decode cX8_compose 24 = .ok (.sipush (-1002), 3) := by decide +kernel
theorem dX8_compose_27 : decode cX8_compose 27 = .ok (.ireturn, 1) := by decide +kernel
theorem dX8_compose_28 : decode cX8_compose 28 = .ok (.aload_n 0, 1) := by decide +kernel
theorem dX8_compose_29 : decode cX8_compose 29 = .ok (.iload_n 1, 1) := by decide +kernel
theorem dX8_compose_30 : decode cX8_compose 30 = .ok (.aload_n 0, 1) := by decide +kernel
theorem dX8_compose_31 : decode cX8_compose 31 = .ok (.getfield 39, 3) := by decide +kernel
theorem dX8_compose_34 : decode cX8_compose 34 = .ok (.invokevirtual 89, 3) := by decide +kernel
theorem dX8_compose_37 : decode cX8_compose 37 = .ok (.aload_n 0, 1) := by decide +kernel
theorem dX8_compose_38 : decode cX8_compose 38 = .ok (.aload_n 0, 1) := by decide +kernel
theorem dX8_compose_39 : decode cX8_compose 39 = .ok (.getfield 39, 3) := by decide +kernel
theorem dX8_compose_42 : decode cX8_compose 42 = .ok (.invokevirtual 82, 3) := by decide +kernel
theorem dX8_compose_45 : decode cX8_compose 45 = .ok (.ireturn, 1) := by decide +kernel
set_option maxRecDepth 20000 in
theorem ggX8_composeAll_X8_begins : GoodIn wsX8_composeAll wsX8_begins := goodIn_r _ [7, 8, 1, 58, 59, 60, 61, 62, 63, 64, 65, 66, 67, 68, 69, 70] (by decide +kernel) (by decide +kernel)
set_option maxRecDepth 20000 in
theorem gX8_composeAll_X8_begins : GoodIn wsX8_composeAll (wsV RX8 79 RX8 yX8_begins wsX8_begins) := goodIn_app (goodIn_of _ (by decide +kernel)) ggX8_composeAll_X8_begins
set_option maxRecDepth 20000 in
theorem ggX8_composeAll_X8_composesAt : GoodIn wsX8_composeAll wsX8_composesAt := goodIn_r _ [12, 13, 14, 15, 6, 16, 1, 17, 18, 19, 20, 21, 22, 23, 24, 25, 26, 27, 28, 2, 29, 30, 31, 32, 33, 34, 35, 36, 37, 38, 39, 40, 41, 42, 43, 44, 45, 46, 47, 58, 59, 60, 61, 62, 63, 64, 65, 66, 67, 68, 69, 70] (by decide +kernel) (by decide +kernel)
set_option maxRecDepth 20000 in
theorem gX8_composeAll_X8_composesAt : GoodIn wsX8_composeAll (wsV RX8 93 RX8 yX8_composesAt wsX8_composesAt) := goodIn_app (goodIn_of _ (by decide +kernel)) ggX8_composeAll_X8_composesAt
set_option maxRecDepth 20000 in
theorem ggX8_composeAll_X8_lays : GoodIn wsX8_composeAll wsX8_lays := goodIn_r _ [51, 1, 58, 59, 60, 61, 62, 63, 64, 65, 66, 67, 68, 69, 70] (by decide +kernel) (by decide +kernel)
set_option maxRecDepth 20000 in
theorem gX8_composeAll_X8_lays : GoodIn wsX8_composeAll (wsV RX8 89 RX8 yX8_lays wsX8_lays) := goodIn_app (goodIn_of _ (by decide +kernel)) ggX8_composeAll_X8_lays
set_option maxRecDepth 20000 in
theorem ggX8_composeAll_X8_acted : GoodIn wsX8_composeAll wsX8_acted := goodIn_r _ [55, 1, 8, 56, 57, 58, 59, 60, 61, 62, 63, 64, 65, 66, 67, 68, 69, 70] (by decide +kernel) (by decide +kernel)
set_option maxRecDepth 20000 in
theorem gX8_composeAll_X8_acted : GoodIn wsX8_composeAll (wsV RX8 82 RX8 yX8_acted wsX8_acted) := goodIn_app (goodIn_of _ (by decide +kernel)) ggX8_composeAll_X8_acted
theorem dX8_composeAll_0 : decode cX8_composeAll 0 = .ok (.aload_n 0, 1) := by decide +kernel
theorem dX8_composeAll_1 : decode cX8_composeAll 1 = .ok (.invokevirtual 79, 3) := by decide +kernel
theorem dX8_composeAll_4 : decode cX8_composeAll 4 = .ok (.aload_n 0, 1) := by decide +kernel
theorem dX8_composeAll_5 : decode cX8_composeAll 5 = .ok (.getfield 7, 3) := by decide +kernel
theorem dX8_composeAll_8 : decode cX8_composeAll 8 = .ok (.iconst 0, 1) := by decide +kernel
theorem dX8_composeAll_9 : decode cX8_composeAll 9 = .ok (.iaload, 1) := by decide +kernel
theorem dX8_composeAll_10 : decode cX8_composeAll 10 = .ok (.ifCond .ne 7, 3) := by decide +kernel
theorem dX8_composeAll_13 : decode cX8_composeAll 13 = .ok (.sipush (-1002), 3) := by decide +kernel
theorem dX8_composeAll_16 : decode cX8_composeAll 16 = .ok (.ireturn, 1) := by decide +kernel
theorem dX8_composeAll_17 : decode cX8_composeAll 17 = .ok (.iconst 0, 1) := by decide +kernel
theorem dX8_composeAll_18 : decode cX8_composeAll 18 = .ok (.istore_n 1, 1) := by decide +kernel
theorem dX8_composeAll_19 : decode cX8_composeAll 19 = .ok (.iconst 0, 1) := by decide +kernel
theorem dX8_composeAll_20 : decode cX8_composeAll 20 = .ok (.istore_n 2, 1) := by decide +kernel
theorem dX8_composeAll_21 : decode cX8_composeAll 21 = .ok (.iload_n 2, 1) := by decide +kernel
theorem dX8_composeAll_22 : decode cX8_composeAll 22 = .ok (.aload_n 0, 1) := by decide +kernel
theorem dX8_composeAll_23 : decode cX8_composeAll 23 = .ok (.getfield 7, 3) := by decide +kernel
theorem dX8_composeAll_26 : decode cX8_composeAll 26 = .ok (.iconst 0, 1) := by decide +kernel
theorem dX8_composeAll_27 : decode cX8_composeAll 27 = .ok (.iaload, 1) := by decide +kernel
theorem dX8_composeAll_28 : decode cX8_composeAll 28 = .ok (.if_icmp .ge 29, 3) := by decide +kernel
theorem dX8_composeAll_31 : decode cX8_composeAll 31 = .ok (.aload_n 0, 1) := by decide +kernel
theorem dX8_composeAll_32 : decode cX8_composeAll 32 = .ok (.iload_n 2, 1) := by decide +kernel
theorem dX8_composeAll_33 : decode cX8_composeAll 33 = .ok (.invokevirtual 93, 3) := by decide +kernel
theorem dX8_composeAll_36 : decode cX8_composeAll 36 = .ok (.ifCond .eq 15, 3) := by decide +kernel
theorem dX8_composeAll_39 : decode cX8_composeAll 39 = .ok (.aload_n 0, 1) := by decide +kernel
theorem dX8_composeAll_40 : decode cX8_composeAll 40 = .ok (.iload_n 2, 1) := by decide +kernel
theorem dX8_composeAll_41 : decode cX8_composeAll 41 = .ok (.aload_n 0, 1) := by decide +kernel
theorem dX8_composeAll_42 : decode cX8_composeAll 42 = .ok (.getfield 39, 3) := by decide +kernel
theorem dX8_composeAll_45 : decode cX8_composeAll 45 = .ok (.invokevirtual 89, 3) := by decide +kernel
theorem dX8_composeAll_48 : decode cX8_composeAll 48 = .ok (.iinc 1 1, 3) := by decide +kernel
theorem dX8_composeAll_51 : decode cX8_composeAll 51 = .ok (.iinc 2 1, 3) := by decide +kernel
theorem dX8_composeAll_54 : decode cX8_composeAll 54 = .ok (.goto (-33), 3) := by decide +kernel
theorem dX8_composeAll_57 : decode cX8_composeAll 57 = .ok (.aload_n 0, 1) := by decide +kernel
theorem dX8_composeAll_58 : decode cX8_composeAll 58 = .ok (.iload_n 1, 1) := by decide +kernel
theorem dX8_composeAll_59 : decode cX8_composeAll 59 = .ok (.invokevirtual 82, 3) := by decide +kernel
theorem dX8_composeAll_62 : decode cX8_composeAll 62 = .ok (.ireturn, 1) := by decide +kernel
set_option maxRecDepth 20000 in
theorem ggX8_paint_X8_begins : GoodIn wsX8_paint wsX8_begins := goodIn_r _ [6, 7, 1, 25, 26, 27, 28, 29, 30, 31, 32, 33, 34, 35, 36, 37] (by decide +kernel) (by decide +kernel)
set_option maxRecDepth 20000 in
theorem gX8_paint_X8_begins : GoodIn wsX8_paint (wsV RX8 79 RX8 yX8_begins wsX8_begins) := goodIn_app (goodIn_of _ (by decide +kernel)) ggX8_paint_X8_begins
set_option maxRecDepth 20000 in
theorem ggX8_paint_X8_isPlace : GoodIn wsX8_paint wsX8_isPlace := goodIn_r _ [11, 1, 12, 13, 5, 14, 25, 26, 27, 28, 29, 30, 31, 32, 33, 34, 35, 36, 37] (by decide +kernel) (by decide +kernel)
set_option maxRecDepth 20000 in
theorem gX8_paint_X8_isPlace : GoodIn wsX8_paint (wsV RX8 85 RX8 yX8_isPlace wsX8_isPlace) := goodIn_app (goodIn_of _ (by decide +kernel)) ggX8_paint_X8_isPlace
set_option maxRecDepth 20000 in
theorem ggX8_paint_X8_coats : GoodIn wsX8_paint wsX8_coats := goodIn_r _ [18, 1, 25, 26, 27, 28, 29, 30, 31, 32, 33, 34, 35, 36, 37] (by decide +kernel) (by decide +kernel)
set_option maxRecDepth 20000 in
theorem gX8_paint_X8_coats : GoodIn wsX8_paint (wsV RX8 63 RX8 yX8_coats wsX8_coats) := goodIn_app (goodIn_of _ (by decide +kernel)) ggX8_paint_X8_coats
set_option maxRecDepth 20000 in
theorem ggX8_paint_X8_acted : GoodIn wsX8_paint wsX8_acted := goodIn_r _ [22, 1, 7, 23, 24, 25, 26, 27, 28, 29, 30, 31, 32, 33, 34, 35, 36, 37] (by decide +kernel) (by decide +kernel)
set_option maxRecDepth 20000 in
theorem gX8_paint_X8_acted : GoodIn wsX8_paint (wsV RX8 82 RX8 yX8_acted wsX8_acted) := goodIn_app (goodIn_of _ (by decide +kernel)) ggX8_paint_X8_acted
theorem dX8_paint_0 : decode cX8_paint 0 = .ok (.aload_n 0, 1) := by decide +kernel
theorem dX8_paint_1 : decode cX8_paint 1 = .ok (.invokevirtual 79, 3) := by decide +kernel
theorem dX8_paint_4 : decode cX8_paint 4 = .ok (.aload_n 0, 1) := by decide +kernel
theorem dX8_paint_5 : decode cX8_paint 5 = .ok (.iload_n 1, 1) := by decide +kernel
theorem dX8_paint_6 : decode cX8_paint 6 = .ok (.invokevirtual 85, 3) := by decide +kernel
theorem dX8_paint_9 : decode cX8_paint 9 = .ok (.ifCond .ne 7, 3) := by decide +kernel
theorem dX8_paint_12 : decode cX8_paint 12 = .ok (.sipush (-1001), 3) := by decide +kernel
theorem dX8_paint_15 : decode cX8_paint 15 = .ok (.ireturn, 1) := by decide +kernel
theorem dX8_paint_16 : decode cX8_paint 16 = .ok (.aload_n 0, 1) := by decide +kernel
theorem dX8_paint_17 : decode cX8_paint 17 = .ok (.iload_n 1, 1) := by decide +kernel
theorem dX8_paint_18 : decode cX8_paint 18 = .ok (.invokevirtual 63, 3) := by decide +kernel
theorem dX8_paint_21 : decode cX8_paint 21 = .ok (.bipush 9, 2) := by decide +kernel
theorem dX8_paint_23 : decode cX8_paint 23 = .ok (.if_icmp .ne 7, 3) := by decide +kernel
theorem dX8_paint_26 : decode cX8_paint 26 = .ok (.sipush (-1003), 3) := by decide +kernel
theorem dX8_paint_29 : decode cX8_paint 29 = .ok (.ireturn, 1) := by decide +kernel
theorem dX8_paint_30 : decode cX8_paint 30 = .ok (.aload_n 0, 1) := by decide +kernel
theorem dX8_paint_31 : decode cX8_paint 31 = .ok (.getfield 7, 3) := by decide +kernel
theorem dX8_paint_34 : decode cX8_paint 34 = .ok (.bipush 17, 2) := by decide +kernel
theorem dX8_paint_36 : decode cX8_paint 36 = .ok (.iconst 2, 1) := by decide +kernel
theorem dX8_paint_37 : decode cX8_paint 37 = .ok (.iload_n 1, 1) := by decide +kernel
theorem dX8_paint_38 : decode cX8_paint 38 = .ok (.imul, 1) := by decide +kernel
theorem dX8_paint_39 : decode cX8_paint 39 = .ok (.iadd, 1) := by decide +kernel
theorem dX8_paint_40 : decode cX8_paint 40 = .ok (.iconst 1, 1) := by decide +kernel
theorem dX8_paint_41 : decode cX8_paint 41 = .ok (.iadd, 1) := by decide +kernel
theorem dX8_paint_42 : decode cX8_paint 42 = .ok (.dup2, 1) := by decide +kernel
theorem dX8_paint_43 : decode cX8_paint 43 = .ok (.iaload, 1) := by decide +kernel
theorem dX8_paint_44 : decode cX8_paint 44 = .ok (.iconst 1, 1) := by decide +kernel
theorem dX8_paint_45 : decode cX8_paint 45 = .ok (.iadd, 1) := by decide +kernel
theorem dX8_paint_46 : decode cX8_paint 46 = .ok (.iastore, 1) := by decide +kernel
theorem dX8_paint_47 : decode cX8_paint 47 = .ok (.aload_n 0, 1) := by decide +kernel
theorem dX8_paint_48 : decode cX8_paint 48 = .ok (.aload_n 0, 1) := by decide +kernel
theorem dX8_paint_49 : decode cX8_paint 49 = .ok (.iload_n 1, 1) := by decide +kernel
theorem dX8_paint_50 : decode cX8_paint 50 = .ok (.invokevirtual 63, 3) := by decide +kernel
theorem dX8_paint_53 : decode cX8_paint 53 = .ok (.invokevirtual 82, 3) := by decide +kernel
theorem dX8_paint_56 : decode cX8_paint 56 = .ok (.ireturn, 1) := by decide +kernel
set_option maxRecDepth 20000 in
theorem ggX8_gust_X8_begins : GoodIn wsX8_gust wsX8_begins := goodIn_r _ [6, 7, 1, 17, 18, 19, 20, 21, 22, 23, 24, 25, 26, 27, 28, 29] (by decide +kernel) (by decide +kernel)
set_option maxRecDepth 20000 in
theorem gX8_gust_X8_begins : GoodIn wsX8_gust (wsV RX8 79 RX8 yX8_begins wsX8_begins) := goodIn_app (goodIn_of _ (by decide +kernel)) ggX8_gust_X8_begins
set_option maxRecDepth 20000 in
theorem ggX8_gust_X8_in : GoodIn wsX8_gust wsX8_in := goodIn_r _ [10] (by decide +kernel) (by decide +kernel)
set_option maxRecDepth 20000 in
theorem gX8_gust_X8_in : GoodIn wsX8_gust (va_wsS RX8 56 yX8_in wsX8_in) := goodIn_app (goodIn_of _ (by decide +kernel)) ggX8_gust_X8_in
set_option maxRecDepth 20000 in
theorem ggX8_gust_X8_acted : GoodIn wsX8_gust wsX8_acted := goodIn_r _ [14, 1, 7, 15, 16, 17, 18, 19, 20, 21, 22, 23, 24, 25, 26, 27, 28, 29] (by decide +kernel) (by decide +kernel)
set_option maxRecDepth 20000 in
theorem gX8_gust_X8_acted : GoodIn wsX8_gust (wsV RX8 82 RX8 yX8_acted wsX8_acted) := goodIn_app (goodIn_of _ (by decide +kernel)) ggX8_gust_X8_acted
theorem dX8_gust_0 : decode cX8_gust 0 = .ok (.aload_n 0, 1) := by decide +kernel
theorem dX8_gust_1 : decode cX8_gust 1 = .ok (.invokevirtual 79, 3) := by decide +kernel
theorem dX8_gust_4 : decode cX8_gust 4 = .ok (.iload_n 1, 1) := by decide +kernel
theorem dX8_gust_5 : decode cX8_gust 5 = .ok (.iconst 1, 1) := by decide +kernel
theorem dX8_gust_6 : decode cX8_gust 6 = .ok (.bipush 99, 2) := by decide +kernel
theorem dX8_gust_8 : decode cX8_gust 8 = .ok (.invokestatic 56, 3) := by decide +kernel
theorem dX8_gust_11 : decode cX8_gust 11 = .ok (.ifCond .ne 7, 3) := by decide +kernel
theorem dX8_gust_14 : decode cX8_gust 14 = .ok (.sipush (-1001), 3) := by decide +kernel
theorem dX8_gust_17 : decode cX8_gust 17 = .ok (.ireturn, 1) := by decide +kernel
theorem dX8_gust_18 : decode cX8_gust 18 = .ok (.iload_n 1, 1) := by decide +kernel
theorem dX8_gust_19 : decode cX8_gust 19 = .ok (.aload_n 0, 1) := by decide +kernel
theorem dX8_gust_20 : decode cX8_gust 20 = .ok (.getfield 7, 3) := by decide +kernel
theorem dX8_gust_23 : decode cX8_gust 23 = .ok (.iconst 2, 1) := by decide +kernel
theorem dX8_gust_24 : decode cX8_gust 24 = .ok (.iaload, 1) := by decide +kernel
theorem dX8_gust_25 : decode cX8_gust 25 = .ok (.if_icmp .ge 9, 3) := by decide +kernel
theorem dX8_gust_28 : decode cX8_gust 28 = .ok (.aload_n 0, 1) := by decide +kernel
theorem dX8_gust_29 : decode cX8_gust 29 = .ok (.iconst 0, 1) := by decide +kernel
theorem dX8_gust_30 : decode cX8_gust 30 = .ok (.invokevirtual 82, 3) := by decide +kernel
theorem dX8_gust_33 : decode cX8_gust 33 = .ok (.ireturn, 1) := by decide +kernel
theorem dX8_gust_34 : decode cX8_gust 34 = .ok (.aload_n 0, 1) := by decide +kernel
theorem dX8_gust_35 : decode cX8_gust 35 = .ok (.getfield 7, 3) := by decide +kernel
theorem dX8_gust_38 : decode cX8_gust 38 = .ok (.iconst 1, 1) := by decide +kernel
theorem dX8_gust_39 : decode cX8_gust 39 = .ok (.iconst 1, 1) := by decide +kernel
theorem dX8_gust_40 : decode cX8_gust 40 = .ok (.aload_n 0, 1) := by decide +kernel
theorem dX8_gust_41 : decode cX8_gust 41 = .ok (.getfield 7, 3) := by decide +kernel
theorem dX8_gust_44 : decode cX8_gust 44 = .ok (.iconst 1, 1) := by decide +kernel
theorem dX8_gust_45 : decode cX8_gust 45 = .ok (.iaload, 1) := by decide +kernel
theorem dX8_gust_46 : decode cX8_gust 46 = .ok (.isub, 1) := by decide +kernel
theorem dX8_gust_47 : decode cX8_gust 47 = .ok (.iastore, 1) := by decide +kernel
theorem dX8_gust_48 : decode cX8_gust 48 = .ok (.aload_n 0, 1) := by decide +kernel
theorem dX8_gust_49 : decode cX8_gust 49 = .ok (.getfield 7, 3) := by decide +kernel
theorem dX8_gust_52 : decode cX8_gust 52 = .ok (.iconst 4, 1) := by decide +kernel
theorem dX8_gust_53 : decode cX8_gust 53 = .ok (.dup2, 1) := by decide +kernel
theorem dX8_gust_54 : decode cX8_gust 54 = .ok (.iaload, 1) := by decide +kernel
theorem dX8_gust_55 : decode cX8_gust 55 = .ok (.iconst 1, 1) := by decide +kernel
theorem dX8_gust_56 : decode cX8_gust 56 = .ok (.iadd, 1) := by decide +kernel
theorem dX8_gust_57 : decode cX8_gust 57 = .ok (.iastore, 1) := by decide +kernel
theorem dX8_gust_58 : decode cX8_gust 58 = .ok (.aload_n 0, 1) := by decide +kernel
theorem dX8_gust_59 : decode cX8_gust 59 = .ok (.getfield 7, 3) := by decide +kernel
theorem dX8_gust_62 : decode cX8_gust 62 = .ok (.iconst 2, 1) := by decide +kernel
theorem dX8_gust_63 : decode cX8_gust 63 = .ok (.aload_n 0, 1) := by decide +kernel
theorem dX8_gust_64 : decode cX8_gust 64 = .ok (.getfield 7, 3) := by decide +kernel
theorem dX8_gust_67 : decode cX8_gust 67 = .ok (.iconst 2, 1) := by decide +kernel
theorem dX8_gust_68 : decode cX8_gust 68 = .ok (.iaload, 1) := by decide +kernel
theorem dX8_gust_69 : decode cX8_gust 69 = .ok (.iconst 1, 1) := by decide +kernel
theorem dX8_gust_70 : decode cX8_gust 70 = .ok (.if_icmp .le 14, 3) := by decide +kernel
theorem dX8_gust_73 : decode cX8_gust 73 = .ok (.aload_n 0, 1) := by decide +kernel
theorem dX8_gust_74 : decode cX8_gust 74 = .ok (.getfield 7, 3) := by decide +kernel
theorem dX8_gust_77 : decode cX8_gust 77 = .ok (.iconst 2, 1) := by decide +kernel
theorem dX8_gust_78 : decode cX8_gust 78 = .ok (.iaload, 1) := by decide +kernel
theorem dX8_gust_79 : decode cX8_gust 79 = .ok (.iconst 1, 1) := by decide +kernel
theorem dX8_gust_80 : decode cX8_gust 80 = .ok (.isub, 1) := by decide +kernel
theorem dX8_gust_81 : decode cX8_gust 81 = .ok (.goto 4, 3) := by decide +kernel
theorem dX8_gust_84 : decode cX8_gust 84 = .ok (.iconst 1, 1) := by decide +kernel
theorem dX8_gust_85 : decode cX8_gust 85 = .ok (.iastore, 1) := by decide +kernel
theorem dX8_gust_86 : decode cX8_gust 86 = .ok (.aload_n 0, 1) := by decide +kernel
theorem dX8_gust_87 : decode cX8_gust 87 = .ok (.iconst 1, 1) := by decide +kernel
theorem dX8_gust_88 : decode cX8_gust 88 = .ok (.invokevirtual 82, 3) := by decide +kernel
theorem dX8_gust_91 : decode cX8_gust 91 = .ok (.ireturn, 1) := by decide +kernel
set_option maxRecDepth 20000 in
theorem ggX8_oil_X8_begins : GoodIn wsX8_oil wsX8_begins := goodIn_r _ [6, 7, 1, 17, 18, 19, 20, 21, 22, 23, 24, 25, 26, 27, 28, 29] (by decide +kernel) (by decide +kernel)
set_option maxRecDepth 20000 in
theorem gX8_oil_X8_begins : GoodIn wsX8_oil (wsV RX8 79 RX8 yX8_begins wsX8_begins) := goodIn_app (goodIn_of _ (by decide +kernel)) ggX8_oil_X8_begins
set_option maxRecDepth 20000 in
theorem ggX8_oil_X8_in : GoodIn wsX8_oil wsX8_in := goodIn_r _ [10] (by decide +kernel) (by decide +kernel)
set_option maxRecDepth 20000 in
theorem gX8_oil_X8_in : GoodIn wsX8_oil (va_wsS RX8 56 yX8_in wsX8_in) := goodIn_app (goodIn_of _ (by decide +kernel)) ggX8_oil_X8_in
set_option maxRecDepth 20000 in
theorem ggX8_oil_X8_acted : GoodIn wsX8_oil wsX8_acted := goodIn_r _ [14, 1, 7, 15, 16, 17, 18, 19, 20, 21, 22, 23, 24, 25, 26, 27, 28, 29] (by decide +kernel) (by decide +kernel)
set_option maxRecDepth 20000 in
theorem gX8_oil_X8_acted : GoodIn wsX8_oil (wsV RX8 82 RX8 yX8_acted wsX8_acted) := goodIn_app (goodIn_of _ (by decide +kernel)) ggX8_oil_X8_acted
theorem dX8_oil_0 : decode cX8_oil 0 = .ok (.aload_n 0, 1) := by decide +kernel
theorem dX8_oil_1 : decode cX8_oil 1 = .ok (.invokevirtual 79, 3) := by decide +kernel
theorem dX8_oil_4 : decode cX8_oil 4 = .ok (.iload_n 1, 1) := by decide +kernel
theorem dX8_oil_5 : decode cX8_oil 5 = .ok (.iconst 1, 1) := by decide +kernel
theorem dX8_oil_6 : decode cX8_oil 6 = .ok (.bipush 99, 2) := by decide +kernel
theorem dX8_oil_8 : decode cX8_oil 8 = .ok (.invokestatic 56, 3) := by decide +kernel
theorem dX8_oil_11 : decode cX8_oil 11 = .ok (.ifCond .ne 7, 3) := by decide +kernel
theorem dX8_oil_14 : decode cX8_oil 14 = .ok (.sipush (-1001), 3) := by decide +kernel
theorem dX8_oil_17 : decode cX8_oil 17 = .ok (.ireturn, 1) := by decide +kernel
theorem dX8_oil_18 : decode cX8_oil 18 = .ok (.aload_n 0, 1) := by decide +kernel
theorem dX8_oil_19 : decode cX8_oil 19 = .ok (.getfield 7, 3) := by decide +kernel
theorem dX8_oil_22 : decode cX8_oil 22 = .ok (.iconst 2, 1) := by decide +kernel
theorem dX8_oil_23 : decode cX8_oil 23 = .ok (.iaload, 1) := by decide +kernel
theorem dX8_oil_24 : decode cX8_oil 24 = .ok (.istore_n 2, 1) := by decide +kernel
theorem dX8_oil_25 : decode cX8_oil 25 = .ok (.aload_n 0, 1) := by decide +kernel
theorem dX8_oil_26 : decode cX8_oil 26 = .ok (.getfield 7, 3) := by decide +kernel
theorem dX8_oil_29 : decode cX8_oil 29 = .ok (.iconst 2, 1) := by decide +kernel
theorem dX8_oil_30 : decode cX8_oil 30 = .ok (.iload_n 1, 1) := by decide +kernel
theorem dX8_oil_31 : decode cX8_oil 31 = .ok (.iastore, 1) := by decide +kernel
theorem dX8_oil_32 : decode cX8_oil 32 = .ok (.aload_n 0, 1) := by decide +kernel
theorem dX8_oil_33 : decode cX8_oil 33 = .ok (.iload_n 2, 1) := by decide +kernel
theorem dX8_oil_34 : decode cX8_oil 34 = .ok (.invokevirtual 82, 3) := by decide +kernel
theorem dX8_oil_37 : decode cX8_oil 37 = .ok (.ireturn, 1) := by decide +kernel
set_option maxRecDepth 20000 in
theorem ggX8_pass_X8_begins : GoodIn wsX8_pass wsX8_begins := goodIn_r _ [6, 7, 1, 32, 33, 34, 35, 36, 37, 38, 39, 40, 41, 42, 43, 44] (by decide +kernel) (by decide +kernel)
set_option maxRecDepth 20000 in
theorem gX8_pass_X8_begins : GoodIn wsX8_pass (wsV RX8 79 RX8 yX8_begins wsX8_begins) := goodIn_app (goodIn_of _ (by decide +kernel)) ggX8_pass_X8_begins
set_option maxRecDepth 20000 in
theorem ggX8_pass_X8_in : GoodIn wsX8_pass wsX8_in := goodIn_r _ [10] (by decide +kernel) (by decide +kernel)
set_option maxRecDepth 20000 in
theorem gX8_pass_X8_in : GoodIn wsX8_pass (va_wsS RX8 56 yX8_in wsX8_in) := goodIn_app (goodIn_of _ (by decide +kernel)) ggX8_pass_X8_in
set_option maxRecDepth 20000 in
theorem ggX8_pass_X8_fades : GoodIn wsX8_pass wsX8_fades := goodIn_r _ [14, 1, 15, 16, 17, 5, 18, 19, 20, 21, 22, 23, 24, 25, 32, 33, 34, 35, 36, 37, 38, 39, 40, 41, 42, 43, 44] (by decide +kernel) (by decide +kernel)
set_option maxRecDepth 20000 in
theorem gX8_pass_X8_fades : GoodIn wsX8_pass (wsV RX8 96 RX8 yX8_fades wsX8_fades) := goodIn_app (goodIn_of _ (by decide +kernel)) ggX8_pass_X8_fades
set_option maxRecDepth 20000 in
theorem ggX8_pass_X8_acted : GoodIn wsX8_pass wsX8_acted := goodIn_r _ [29, 1, 7, 30, 31, 32, 33, 34, 35, 36, 37, 38, 39, 40, 41, 42, 43, 44] (by decide +kernel) (by decide +kernel)
set_option maxRecDepth 20000 in
theorem gX8_pass_X8_acted : GoodIn wsX8_pass (wsV RX8 82 RX8 yX8_acted wsX8_acted) := goodIn_app (goodIn_of _ (by decide +kernel)) ggX8_pass_X8_acted
theorem dX8_pass_0 : decode cX8_pass 0 = .ok (.aload_n 0, 1) := by decide +kernel
theorem dX8_pass_1 : decode cX8_pass 1 = .ok (.invokevirtual 79, 3) := by decide +kernel
theorem dX8_pass_4 : decode cX8_pass 4 = .ok (.iload_n 1, 1) := by decide +kernel
theorem dX8_pass_5 : decode cX8_pass 5 = .ok (.iconst 1, 1) := by decide +kernel
theorem dX8_pass_6 : decode cX8_pass 6 = .ok (.bipush 20, 2) := by decide +kernel
theorem dX8_pass_8 : decode cX8_pass 8 = .ok (.invokestatic 56, 3) := by decide +kernel
theorem dX8_pass_11 : decode cX8_pass 11 = .ok (.ifCond .ne 7, 3) := by decide +kernel
theorem dX8_pass_14 : decode cX8_pass 14 = .ok (.sipush (-1001), 3) := by decide +kernel
theorem dX8_pass_17 : decode cX8_pass 17 = .ok (.ireturn, 1) := by decide +kernel
theorem dX8_pass_18 : decode cX8_pass 18 = .ok (.aload_n 0, 1) := by decide +kernel
theorem dX8_pass_19 : decode cX8_pass 19 = .ok (.getfield 7, 3) := by decide +kernel
theorem dX8_pass_22 : decode cX8_pass 22 = .ok (.iconst 3, 1) := by decide +kernel
theorem dX8_pass_23 : decode cX8_pass 23 = .ok (.iaload, 1) := by decide +kernel
theorem dX8_pass_24 : decode cX8_pass 24 = .ok (.iload_n 1, 1) := by decide +kernel
theorem dX8_pass_25 : decode cX8_pass 25 = .ok (.iadd, 1) := by decide +kernel
theorem dX8_pass_26 : decode cX8_pass 26 = .ok (.sipush 9999, 3) := by decide +kernel
theorem dX8_pass_29 : decode cX8_pass 29 = .ok (.if_icmp .le 7, 3) := by decide +kernel
theorem dX8_pass_32 : decode cX8_pass 32 = .ok (.sipush (-1003), 3) := by decide +kernel
theorem dX8_pass_35 : decode cX8_pass 35 = .ok (.ireturn, 1) := by decide +kernel
theorem dX8_pass_36 : decode cX8_pass 36 = .ok (.iconst 0, 1) := by decide +kernel
theorem dX8_pass_37 : decode cX8_pass 37 = .ok (.istore_n 2, 1) := by decide +kernel
theorem dX8_pass_38 : decode cX8_pass 38 = .ok (.iconst 0, 1) := by decide +kernel
theorem dX8_pass_39 : decode cX8_pass 39 = .ok (.istore_n 3, 1) := by decide +kernel
theorem dX8_pass_40 : decode cX8_pass 40 = .ok (.iload_n 3, 1) := by decide +kernel
theorem dX8_pass_41 : decode cX8_pass 41 = .ok (.iload_n 1, 1) := by decide +kernel
theorem dX8_pass_42 : decode cX8_pass 42 = .ok (.if_icmp .ge 59, 3) := by decide +kernel
theorem dX8_pass_45 : decode cX8_pass 45 = .ok (.iconst 0, 1) := by decide +kernel
theorem dX8_pass_46 : decode cX8_pass 46 = .ok (.istore 4, 2) := by decide +kernel
theorem dX8_pass_48 : decode cX8_pass 48 = .ok (.iload 4, 2) := by decide +kernel
theorem dX8_pass_50 : decode cX8_pass 50 = .ok (.aload_n 0, 1) := by decide +kernel
theorem dX8_pass_51 : decode cX8_pass 51 = .ok (.getfield 7, 3) := by decide +kernel
theorem dX8_pass_54 : decode cX8_pass 54 = .ok (.iconst 0, 1) := by decide +kernel
theorem dX8_pass_55 : decode cX8_pass 55 = .ok (.iaload, 1) := by decide +kernel
theorem dX8_pass_56 : decode cX8_pass 56 = .ok (.if_icmp .ge 39, 3) := by decide +kernel
theorem dX8_pass_59 : decode cX8_pass 59 = .ok (.aload_n 0, 1) := by decide +kernel
theorem dX8_pass_60 : decode cX8_pass 60 = .ok (.iload 4, 2) := by decide +kernel
theorem dX8_pass_62 : decode cX8_pass 62 = .ok (.invokevirtual 96, 3) := by decide +kernel
theorem dX8_pass_65 : decode cX8_pass 65 = .ok (.ifCond .eq 24, 3) := by decide +kernel
theorem dX8_pass_68 : decode cX8_pass 68 = .ok (.aload_n 0, 1) := by decide +kernel
theorem dX8_pass_69 : decode cX8_pass 69 = .ok (.getfield 7, 3) := by decide +kernel
theorem dX8_pass_72 : decode cX8_pass 72 = .ok (.bipush 17, 2) := by decide +kernel
theorem dX8_pass_74 : decode cX8_pass 74 = .ok (.iconst 2, 1) := by decide +kernel
theorem dX8_pass_75 : decode cX8_pass 75 = .ok (.iload 4, 2) := by decide +kernel
theorem dX8_pass_77 : decode cX8_pass 77 = .ok (.imul, 1) := by decide +kernel
theorem dX8_pass_78 : decode cX8_pass 78 = .ok (.iadd, 1) := by decide +kernel
theorem dX8_pass_79 : decode cX8_pass 79 = .ok (.iconst 1, 1) := by decide +kernel
theorem dX8_pass_80 : decode cX8_pass 80 = .ok (.iadd, 1) := by decide +kernel
theorem dX8_pass_81 : decode cX8_pass 81 = .ok (.dup2, 1) := by decide +kernel
theorem dX8_pass_82 : decode cX8_pass 82 = .ok (.iaload, 1) := by decide +kernel
theorem dX8_pass_83 : decode cX8_pass 83 = .ok (.iconst 1, 1) := by decide +kernel
theorem dX8_pass_84 : decode cX8_pass 84 = .ok (.isub, 1) := by decide +kernel
theorem dX8_pass_85 : decode cX8_pass 85 = .ok (.iastore, 1) := by decide +kernel
theorem dX8_pass_86 : decode cX8_pass 86 = .ok (.iinc 2 1, 3) := by decide +kernel
theorem dX8_pass_89 : decode cX8_pass 89 = .ok (.iinc 4 1, 3) := by decide +kernel
theorem dX8_pass_92 : decode cX8_pass 92 = .ok (.goto (-44), 3) := by decide +kernel
theorem dX8_pass_95 : decode cX8_pass 95 = .ok (.iinc 3 1, 3) := by decide +kernel
theorem dX8_pass_98 : decode cX8_pass 98 = .ok (.goto (-58), 3) := by decide +kernel
theorem dX8_pass_101 : decode cX8_pass 101 = .ok (.aload_n 0, 1) := by decide +kernel
theorem dX8_pass_102 : decode cX8_pass 102 = .ok (.getfield 7, 3) := by decide +kernel
theorem dX8_pass_105 : decode cX8_pass 105 = .ok (.iconst 3, 1) := by decide +kernel
theorem dX8_pass_106 : decode cX8_pass 106 = .ok (.dup2, 1) := by decide +kernel
theorem dX8_pass_107 : decode cX8_pass 107 = .ok (.iaload, 1) := by decide +kernel
theorem dX8_pass_108 : decode cX8_pass 108 = .ok (.iload_n 1, 1) := by decide +kernel
theorem dX8_pass_109 : decode cX8_pass 109 = .ok (.iadd, 1) := by decide +kernel
theorem dX8_pass_110 : decode cX8_pass 110 = .ok (.iastore, 1) := by decide +kernel
theorem dX8_pass_111 : decode cX8_pass 111 = .ok (.aload_n 0, 1) := by decide +kernel
theorem dX8_pass_112 : decode cX8_pass 112 = .ok (.iload_n 2, 1) := by decide +kernel
theorem dX8_pass_113 : decode cX8_pass 113 = .ok (.invokevirtual 82, 3) := by decide +kernel
theorem dX8_pass_116 : decode cX8_pass 116 = .ok (.ireturn, 1) := by decide +kernel
set_option maxRecDepth 20000 in
theorem ggX8_set_X8_begins : GoodIn wsX8_set wsX8_begins := goodIn_r _ [6, 7, 1, 17, 18, 19, 20, 21, 22, 23, 24, 25, 26, 27, 28, 29] (by decide +kernel) (by decide +kernel)
set_option maxRecDepth 20000 in
theorem gX8_set_X8_begins : GoodIn wsX8_set (wsV RX8 79 RX8 yX8_begins wsX8_begins) := goodIn_app (goodIn_of _ (by decide +kernel)) ggX8_set_X8_begins
set_option maxRecDepth 20000 in
theorem ggX8_set_X8_in : GoodIn wsX8_set wsX8_in := goodIn_r _ [10] (by decide +kernel) (by decide +kernel)
set_option maxRecDepth 20000 in
theorem gX8_set_X8_in : GoodIn wsX8_set (va_wsS RX8 56 yX8_in wsX8_in) := goodIn_app (goodIn_of _ (by decide +kernel)) ggX8_set_X8_in
set_option maxRecDepth 20000 in
theorem ggX8_set_X8_acted : GoodIn wsX8_set wsX8_acted := goodIn_r _ [14, 1, 7, 15, 16, 17, 18, 19, 20, 21, 22, 23, 24, 25, 26, 27, 28, 29] (by decide +kernel) (by decide +kernel)
set_option maxRecDepth 20000 in
theorem gX8_set_X8_acted : GoodIn wsX8_set (wsV RX8 82 RX8 yX8_acted wsX8_acted) := goodIn_app (goodIn_of _ (by decide +kernel)) ggX8_set_X8_acted
theorem dX8_set_0 : decode cX8_set 0 = .ok (.aload_n 0, 1) := by decide +kernel
theorem dX8_set_1 : decode cX8_set 1 = .ok (.invokevirtual 79, 3) := by decide +kernel
theorem dX8_set_4 : decode cX8_set 4 = .ok (.iload_n 1, 1) := by decide +kernel
theorem dX8_set_5 : decode cX8_set 5 = .ok (.iconst 0, 1) := by decide +kernel
theorem dX8_set_6 : decode cX8_set 6 = .ok (.iconst 1, 1) := by decide +kernel
theorem dX8_set_7 : decode cX8_set 7 = .ok (.invokestatic 56, 3) := by decide +kernel
theorem dX8_set_10 : decode cX8_set 10 = .ok (.ifCond .eq 15, 3) := by decide +kernel
theorem dX8_set_13 : decode cX8_set 13 = .ok (.iload_n 2, 1) := by decide +kernel
theorem dX8_set_14 : decode cX8_set 14 = .ok (.iconst 1, 1) := by decide +kernel
theorem dX8_set_15 : decode cX8_set 15 = .ok (.iload_n 1, 1) := by decide +kernel
theorem dX8_set_16 : decode cX8_set 16 = .ok (.isub, 1) := by decide +kernel
theorem dX8_set_17 : decode cX8_set 17 = .ok (.bipush 9, 2) := by decide +kernel
theorem dX8_set_19 : decode cX8_set 19 = .ok (.invokestatic 56, 3) := by decide +kernel
theorem dX8_set_22 : decode cX8_set 22 = .ok (.ifCond .ne 7, 3) := by decide +kernel
theorem dX8_set_25 : decode cX8_set 25 = .ok (.sipush (-1001), 3) := by decide +kernel
theorem dX8_set_28 : decode cX8_set 28 = .ok (.ireturn, 1) := by decide +kernel
theorem dX8_set_29 : decode cX8_set 29 = .ok (.aload_n 0, 1) := by decide +kernel
theorem dX8_set_30 : decode cX8_set 30 = .ok (.getfield 7, 3) := by decide +kernel
theorem dX8_set_33 : decode cX8_set 33 = .ok (.iconst 5, 1) := by decide +kernel
theorem dX8_set_34 : decode cX8_set 34 = .ok (.iload_n 1, 1) := by decide +kernel
theorem dX8_set_35 : decode cX8_set 35 = .ok (.iadd, 1) := by decide +kernel
theorem dX8_set_36 : decode cX8_set 36 = .ok (.iaload, 1) := by decide +kernel
theorem dX8_set_37 : decode cX8_set 37 = .ok (.istore_n 3, 1) := by decide +kernel
theorem dX8_set_38 : decode cX8_set 38 = .ok (.aload_n 0, 1) := by decide +kernel
theorem dX8_set_39 : decode cX8_set 39 = .ok (.getfield 7, 3) := by decide +kernel
theorem dX8_set_42 : decode cX8_set 42 = .ok (.iconst 5, 1) := by decide +kernel
theorem dX8_set_43 : decode cX8_set 43 = .ok (.iload_n 1, 1) := by decide +kernel
theorem dX8_set_44 : decode cX8_set 44 = .ok (.iadd, 1) := by decide +kernel
theorem dX8_set_45 : decode cX8_set 45 = .ok (.iload_n 2, 1) := by decide +kernel
theorem dX8_set_46 : decode cX8_set 46 = .ok (.iastore, 1) := by decide +kernel
theorem dX8_set_47 : decode cX8_set 47 = .ok (.aload_n 0, 1) := by decide +kernel
theorem dX8_set_48 : decode cX8_set 48 = .ok (.iload_n 3, 1) := by decide +kernel
theorem dX8_set_49 : decode cX8_set 49 = .ok (.invokevirtual 82, 3) := by decide +kernel
theorem dX8_set_52 : decode cX8_set 52 = .ok (.ireturn, 1) := by decide +kernel
theorem dX8_orNone_0 : decode cX8_orNone 0 = .ok (.iload_n 0, 1) := by decide +kernel
theorem dX8_orNone_1 : decode cX8_orNone 1 = .ok (.ifCond .ge 9, 3) := by decide +kernel
theorem dX8_orNone_4 : decode cX8_orNone 4 = .ok (.sipush (-1004), 3) := by decide +kernel
theorem dX8_orNone_7 : decode cX8_orNone 7 = .ok (.goto 4, 3) := by decide +kernel
theorem dX8_orNone_10 : decode cX8_orNone 10 = .ok (.iload_n 0, 1) := by decide +kernel
theorem dX8_orNone_11 : decode cX8_orNone 11 = .ok (.ireturn, 1) := by decide +kernel
set_option maxRecDepth 20000 in
theorem ggX8_nearest_X8_drawn : GoodIn wsX8_nearest wsX8_drawn := goodIn_r _ [5, 6, 10, 11, 12, 13, 14, 15, 16, 17, 18, 19, 20, 21, 22] (by decide +kernel) (by decide +kernel)
set_option maxRecDepth 20000 in
theorem gX8_nearest_X8_drawn : GoodIn wsX8_nearest (wsV RX8 29 RX8 yX8_drawn wsX8_drawn) := goodIn_app (goodIn_of _ (by decide +kernel)) ggX8_nearest_X8_drawn
set_option maxRecDepth 20000 in
theorem ggX8_nearest_X8_dark : GoodIn wsX8_nearest wsX8_dark := goodIn_r _ [9] (by decide +kernel) (by decide +kernel)
set_option maxRecDepth 20000 in
theorem gX8_nearest_X8_dark : GoodIn wsX8_nearest (va_wsS RX8 33 yX8_dark wsX8_dark) := goodIn_app (goodIn_of _ (by decide +kernel)) ggX8_nearest_X8_dark
theorem dX8_nearest_0 : decode cX8_nearest 0 = .ok (.iconst (-1), 1) := by decide +kernel
theorem dX8_nearest_1 : decode cX8_nearest 1 = .ok (.istore_n 2, 1) := by decide +kernel
theorem dX8_nearest_2 : decode cX8_nearest 2 = .ok (.bipush 16, 2) := by decide +kernel
theorem dX8_nearest_4 : decode cX8_nearest 4 = .ok (.istore_n 3, 1) := by decide +kernel
theorem dX8_nearest_5 : decode cX8_nearest 5 = .ok (.iconst 0, 1) := by decide +kernel
theorem dX8_nearest_6 : decode cX8_nearest 6 = .ok (.istore 4, 2) := by decide +kernel
theorem dX8_nearest_8 : decode cX8_nearest 8 = .ok (.iload 4, 2) := by decide +kernel
theorem dX8_nearest_10 : decode cX8_nearest 10 = .ok (.bipush 10, 2) := by decide +kernel
theorem dX8_nearest_12 : decode cX8_nearest 12 = .ok (.if_icmp .ge 72, 3) := by decide +kernel
theorem dX8_nearest_15 : decode cX8_nearest 15 = .ok (.iload 4, 2) := by decide +kernel
theorem dX8_nearest_17 : decode cX8_nearest 17 = .ok (.iload_n 1, 1) := by decide +kernel
theorem dX8_nearest_18 : decode cX8_nearest 18 = .ok (.if_icmp .eq 12, 3) := by decide +kernel
theorem dX8_nearest_21 : decode cX8_nearest 21 = .ok (.aload_n 0, 1) := by decide +kernel
theorem dX8_nearest_22 : decode cX8_nearest 22 = .ok (.iload 4, 2) := by decide +kernel
theorem dX8_nearest_24 : decode cX8_nearest 24 = .ok (.invokevirtual 29, 3) := by decide +kernel
theorem dX8_nearest_27 : decode cX8_nearest 27 = .ok (.ifCond .ge 8, 3) := by decide +kernel
theorem dX8_nearest_30 : decode cX8_nearest 30 = .ok (.bipush 16, 2) := by decide +kernel
theorem dX8_nearest_32 : decode cX8_nearest 32 = .ok (.goto 18, 3) := by decide +kernel
theorem dX8_nearest_35 : decode cX8_nearest 35 = .ok (.aload_n 0, 1) := by decide +kernel
theorem dX8_nearest_36 : decode cX8_nearest 36 = .ok (.iload 4, 2) := by decide +kernel
theorem dX8_nearest_38 : decode cX8_nearest 38 = .ok (.invokevirtual 29, 3) := by decide +kernel
theorem dX8_nearest_41 : decode cX8_nearest 41 = .ok (.aload_n 0, 1) := by decide +kernel
theorem dX8_nearest_42 : decode cX8_nearest 42 = .ok (.iload_n 1, 1) := by decide +kernel
theorem dX8_nearest_43 : decode cX8_nearest 43 = .ok (.invokevirtual 29, 3) := by decide +kernel
theorem dX8_nearest_46 : decode cX8_nearest 46 = .ok (.ixor, 1) := by decide +kernel
theorem dX8_nearest_47 : decode cX8_nearest 47 = .ok (.invokestatic 33, 3) := by decide +kernel
theorem dX8_nearest_50 : decode cX8_nearest 50 = .ok (.istore 5, 2) := by decide +kernel
theorem dX8_nearest_52 : decode cX8_nearest 52 = .ok (.iload 5, 2) := by decide +kernel
theorem dX8_nearest_54 : decode cX8_nearest 54 = .ok (.iload_n 3, 1) := by decide +kernel
theorem dX8_nearest_55 : decode cX8_nearest 55 = .ok (.if_icmp .ge 8, 3) := by decide +kernel
theorem dX8_nearest_58 : decode cX8_nearest 58 = .ok (.iload 4, 2) := by decide +kernel
theorem dX8_nearest_60 : decode cX8_nearest 60 = .ok (.goto 4, 3) := by decide +kernel
theorem dX8_nearest_63 : decode cX8_nearest 63 = .ok (.iload_n 2, 1) := by decide +kernel
theorem dX8_nearest_64 : decode cX8_nearest 64 = .ok (.istore_n 2, 1) := by decide +kernel
theorem dX8_nearest_65 : decode cX8_nearest 65 = .ok (.iload 5, 2) := by decide +kernel
theorem dX8_nearest_67 : decode cX8_nearest 67 = .ok (.iload_n 3, 1) := by decide +kernel
theorem dX8_nearest_68 : decode cX8_nearest 68 = .ok (.if_icmp .ge 8, 3) := by decide +kernel
theorem dX8_nearest_71 : decode cX8_nearest 71 = .ok (.iload 5, 2) := by decide +kernel
theorem dX8_nearest_73 : decode cX8_nearest 73 = .ok (.goto 4, 3) := by decide +kernel
theorem dX8_nearest_76 : decode cX8_nearest 76 = .ok (.iload_n 3, 1) := by decide +kernel
theorem dX8_nearest_77 : decode cX8_nearest 77 = .ok (.istore_n 3, 1) := by decide +kernel
theorem dX8_nearest_78 : decode cX8_nearest 78 = .ok (.iinc 4 1, 3) := by decide +kernel
theorem dX8_nearest_81 : decode cX8_nearest 81 = .ok (.goto (-73), 3) := by decide +kernel
theorem dX8_nearest_84 : decode cX8_nearest 84 = .ok (.iload_n 2, 1) := by decide +kernel
theorem dX8_nearest_85 : decode cX8_nearest 85 = .ok (.ireturn, 1) := by decide +kernel
theorem dX8_often_0 : decode cX8_often 0 = .ok (.iconst 0, 1) := by decide +kernel
theorem dX8_often_1 : decode cX8_often 1 = .ok (.istore_n 2, 1) := by decide +kernel
theorem dX8_often_2 : decode cX8_often 2 = .ok (.iconst 0, 1) := by decide +kernel
theorem dX8_often_3 : decode cX8_often 3 = .ok (.istore_n 3, 1) := by decide +kernel
theorem dX8_often_4 : decode cX8_often 4 = .ok (.iload_n 3, 1) := by decide +kernel
theorem dX8_often_5 : decode cX8_often 5 = .ok (.aload_n 0, 1) := by decide +kernel
theorem dX8_often_6 : decode cX8_often 6 = .ok (.getfield 7, 3) := by decide +kernel
theorem dX8_often_9 : decode cX8_often 9 = .ok (.iconst 0, 1) := by decide +kernel
theorem dX8_often_10 : decode cX8_often 10 = .ok (.iaload, 1) := by decide +kernel
theorem dX8_often_11 : decode cX8_often 11 = .ok (.if_icmp .ge 51, 3) := by decide +kernel
theorem dX8_often_14 : decode cX8_often 14 = .ok (.iload_n 2, 1) := by decide +kernel
theorem dX8_often_15 : decode cX8_often 15 = .ok (.aload_n 0, 1) := by decide +kernel
theorem dX8_often_16 : decode cX8_often 16 = .ok (.getfield 7, 3) := by decide +kernel
theorem dX8_often_19 : decode cX8_often 19 = .ok (.bipush 33, 2) := by decide +kernel
theorem dX8_often_21 : decode cX8_often 21 = .ok (.iload_n 3, 1) := by decide +kernel
theorem dX8_often_22 : decode cX8_often 22 = .ok (.iadd, 1) := by decide +kernel
theorem dX8_often_23 : decode cX8_often 23 = .ok (.iaload, 1) := by decide +kernel
theorem dX8_often_24 : decode cX8_often 24 = .ok (.iload_n 1, 1) := by decide +kernel
theorem dX8_often_25 : decode cX8_often 25 = .ok (.if_icmp .ne 7, 3) := by decide +kernel
theorem dX8_often_28 : decode cX8_often 28 = .ok (.iconst 1, 1) := by decide +kernel
theorem dX8_often_29 : decode cX8_often 29 = .ok (.goto 4, 3) := by decide +kernel
theorem dX8_often_32 : decode cX8_often 32 = .ok (.iconst 0, 1) := by decide +kernel
theorem dX8_often_33 : decode cX8_often 33 = .ok (.iadd, 1) := by decide +kernel
theorem dX8_often_34 : decode cX8_often 34 = .ok (.istore_n 2, 1) := by decide +kernel
theorem dX8_often_35 : decode cX8_often 35 = .ok (.iload_n 2, 1) := by decide +kernel
theorem dX8_often_36 : decode cX8_often 36 = .ok (.aload_n 0, 1) := by decide +kernel
theorem dX8_often_37 : decode cX8_often 37 = .ok (.getfield 7, 3) := by decide +kernel
theorem dX8_often_40 : decode cX8_often 40 = .ok (.bipush 41, 2) := by decide +kernel
theorem dX8_often_42 : decode cX8_often 42 = .ok (.iload_n 3, 1) := by decide +kernel
theorem dX8_often_43 : decode cX8_often 43 = .ok (.iadd, 1) := by decide +kernel
theorem dX8_often_44 : decode cX8_often 44 = .ok (.iaload, 1) := by decide +kernel
theorem dX8_often_45 : decode cX8_often 45 = .ok (.iload_n 1, 1) := by decide +kernel
theorem dX8_often_46 : decode cX8_often 46 = .ok (.if_icmp .ne 7, 3) := by decide +kernel
theorem dX8_often_49 : decode cX8_often 49 = .ok (.iconst 1, 1) := by decide +kernel
theorem dX8_often_50 : decode cX8_often 50 = .ok (.goto 4, 3) := by decide +kernel
theorem dX8_often_53 : decode cX8_often 53 = .ok (.iconst 0, 1) := by decide +kernel
theorem dX8_often_54 : decode cX8_often 54 = .ok (.iadd, 1) := by decide +kernel
theorem dX8_often_55 : decode cX8_often 55 = .ok (.istore_n 2, 1) := by decide +kernel
theorem dX8_often_56 : decode cX8_often 56 = .ok (.iinc 3 1, 3) := by decide +kernel
theorem dX8_often_59 : decode cX8_often 59 = .ok (.goto (-55), 3) := by decide +kernel
theorem dX8_often_62 : decode cX8_often 62 = .ok (.iload_n 2, 1) := by decide +kernel
theorem dX8_often_63 : decode cX8_often 63 = .ok (.ireturn, 1) := by decide +kernel
set_option maxRecDepth 20000 in
theorem ggX8_letterOf_X8_in : GoodIn wsX8_letterOf wsX8_in := goodIn_r _ [4] (by decide +kernel) (by decide +kernel)
set_option maxRecDepth 20000 in
theorem gX8_letterOf_X8_in : GoodIn wsX8_letterOf (va_wsS RX8 56 yX8_in wsX8_in) := goodIn_app (goodIn_of _ (by decide +kernel)) ggX8_letterOf_X8_in
set_option maxRecDepth 20000 in
theorem ggX8_letterOf_X8_often : GoodIn wsX8_letterOf wsX8_often := goodIn_r _ [8, 9, 31, 32, 33, 34, 35, 36, 37, 38, 39, 40, 41, 42, 43] (by decide +kernel) (by decide +kernel)
set_option maxRecDepth 20000 in
theorem gX8_letterOf_X8_often : GoodIn wsX8_letterOf (wsV RX8 99 RX8 yX8_often wsX8_often) := goodIn_app (goodIn_of _ (by decide +kernel)) ggX8_letterOf_X8_often
set_option maxRecDepth 20000 in
theorem ggX8_letterOf_X8_drawn : GoodIn wsX8_letterOf wsX8_drawn := goodIn_r _ [13, 9, 31, 32, 33, 34, 35, 36, 37, 38, 39, 40, 41, 42, 43] (by decide +kernel) (by decide +kernel)
set_option maxRecDepth 20000 in
theorem gX8_letterOf_X8_drawn : GoodIn wsX8_letterOf (wsV RX8 29 RX8 yX8_drawn wsX8_drawn) := goodIn_app (goodIn_of _ (by decide +kernel)) ggX8_letterOf_X8_drawn
set_option maxRecDepth 20000 in
theorem ggX8_letterOf_X8_turned : GoodIn wsX8_letterOf wsX8_turned := goodIn_r _ [16] (by decide +kernel) (by decide +kernel)
set_option maxRecDepth 20000 in
theorem gX8_letterOf_X8_turned : GoodIn wsX8_letterOf (va_wsS RX8 36 yX8_turned wsX8_turned) := goodIn_app (goodIn_of _ (by decide +kernel)) ggX8_letterOf_X8_turned
set_option maxRecDepth 20000 in
theorem ggX8_letterOf_X8_dark : GoodIn wsX8_letterOf wsX8_dark := goodIn_r _ [19] (by decide +kernel) (by decide +kernel)
set_option maxRecDepth 20000 in
theorem gX8_letterOf_X8_dark : GoodIn wsX8_letterOf (va_wsS RX8 33 yX8_dark wsX8_dark) := goodIn_app (goodIn_of _ (by decide +kernel)) ggX8_letterOf_X8_dark
set_option maxRecDepth 20000 in
theorem ggX8_letterOf_X8_readAs : GoodIn wsX8_letterOf wsX8_readAs := goodIn_r _ [23, 10, 11, 12, 3, 13, 9, 17, 18, 19, 31, 32, 33, 34, 35, 36, 37, 38, 39, 40, 41, 42, 43] (by decide +kernel) (by decide +kernel)
set_option maxRecDepth 20000 in
theorem gX8_letterOf_X8_readAs : GoodIn wsX8_letterOf (wsV RX8 49 RX8 yX8_readAs wsX8_readAs) := goodIn_app (goodIn_of _ (by decide +kernel)) ggX8_letterOf_X8_readAs
set_option maxRecDepth 20000 in
theorem ggX8_letterOf_X8_nearest : GoodIn wsX8_letterOf wsX8_nearest := goodIn_r _ [27, 10, 11, 12, 3, 13, 9, 17, 18, 19, 31, 32, 33, 34, 35, 36, 37, 38, 39, 40, 41, 42, 43] (by decide +kernel) (by decide +kernel)
set_option maxRecDepth 20000 in
theorem gX8_letterOf_X8_nearest : GoodIn wsX8_letterOf (wsV RX8 102 RX8 yX8_nearest wsX8_nearest) := goodIn_app (goodIn_of _ (by decide +kernel)) ggX8_letterOf_X8_nearest
set_option maxRecDepth 20000 in
theorem ggX8_letterOf_X8_orNone : GoodIn wsX8_letterOf wsX8_orNone := goodIn_r _ [30] (by decide +kernel) (by decide +kernel)
set_option maxRecDepth 20000 in
theorem gX8_letterOf_X8_orNone : GoodIn wsX8_letterOf (va_wsS RX8 105 yX8_orNone wsX8_orNone) := goodIn_app (goodIn_of _ (by decide +kernel)) ggX8_letterOf_X8_orNone
theorem dX8_letterOf_0 : decode cX8_letterOf 0 = .ok (.iload_n 1, 1) := by decide +kernel
theorem dX8_letterOf_1 : decode cX8_letterOf 1 = .ok (.iconst 0, 1) := by decide +kernel
theorem dX8_letterOf_2 : decode cX8_letterOf 2 = .ok (.bipush 9, 2) := by decide +kernel
theorem dX8_letterOf_4 : decode cX8_letterOf 4 = .ok (.invokestatic 56, 3) := by decide +kernel
theorem dX8_letterOf_7 : decode cX8_letterOf 7 = .ok (.ifCond .eq 12, 3) := by decide +kernel
theorem dX8_letterOf_10 : decode cX8_letterOf 10 = .ok (.iload_n 2, 1) := by decide +kernel
theorem dX8_letterOf_11 : decode cX8_letterOf 11 = .ok (.iconst 0, 1) := by decide +kernel
theorem dX8_letterOf_12 : decode cX8_letterOf 12 = .ok (.iconst 5, 1) := by decide +kernel
theorem dX8_letterOf_13 : decode cX8_letterOf 13 = .ok (.invokestatic 56, 3) := by decide +kernel
theorem dX8_letterOf_16 : decode cX8_letterOf 16 = .ok (.ifCond .ne 7, 3) := by decide +kernel
theorem dX8_letterOf_19 : decode cX8_letterOf 19 = .ok (.sipush (-1001), 3) := by decide +kernel
theorem dX8_letterOf_22 : decode cX8_letterOf 22 = .ok (.ireturn, 1) := by decide +kernel
theorem dX8_letterOf_23 : decode cX8_letterOf 23 = .ok (.iload_n 2, 1) := by decide +kernel
theorem dX8_letterOf_24 : decode cX8_letterOf 24 = .ok (.iconst 5, 1) := by decide +kernel
theorem dX8_letterOf_25 : decode cX8_letterOf 25 = .ok (.if_icmp .ne 9, 3) := by decide +kernel
theorem dX8_letterOf_28 : decode cX8_letterOf 28 = .ok (.aload_n 0, 1) := by decide +kernel
theorem dX8_letterOf_29 : decode cX8_letterOf 29 = .ok (.iload_n 1, 1) := by decide +kernel
theorem dX8_letterOf_30 : decode cX8_letterOf 30 = .ok (.invokevirtual 99, 3) := by decide +kernel
theorem dX8_letterOf_33 : decode cX8_letterOf 33 = .ok (.ireturn, 1) := by decide +kernel
theorem dX8_letterOf_34 : decode cX8_letterOf 34 = .ok (.aload_n 0, 1) := by decide +kernel
theorem dX8_letterOf_35 : decode cX8_letterOf 35 = .ok (.iload_n 1, 1) := by decide +kernel
theorem dX8_letterOf_36 : decode cX8_letterOf 36 = .ok (.invokevirtual 29, 3) := by decide +kernel
theorem dX8_letterOf_39 : decode cX8_letterOf 39 = .ok (.ifCond .ge 7, 3) := by decide +kernel
theorem dX8_letterOf_42 : decode cX8_letterOf 42 = .ok (.sipush (-1004), 3) := by decide +kernel
theorem dX8_letterOf_45 : decode cX8_letterOf 45 = .ok (.ireturn, 1) := by decide +kernel
theorem dX8_letterOf_46 : decode cX8_letterOf 46 = .ok (.iload_n 2, 1) := by decide +kernel
theorem dX8_letterOf_47 : decode cX8_letterOf 47 = .ok (.tableswitch 66 0 3 #[29, 35, 44, 53], 29) := by decide +kernel
theorem dX8_letterOf_76 : decode cX8_letterOf 76 = .ok (.aload_n 0, 1) := by decide +kernel
theorem dX8_letterOf_77 : decode cX8_letterOf 77 = .ok (.iload_n 1, 1) := by decide +kernel
theorem dX8_letterOf_78 : decode cX8_letterOf 78 = .ok (.invokevirtual 29, 3) := by decide +kernel
theorem dX8_letterOf_81 : decode cX8_letterOf 81 = .ok (.ireturn, 1) := by decide +kernel
theorem dX8_letterOf_82 : decode cX8_letterOf 82 = .ok (.aload_n 0, 1) := by decide +kernel
theorem dX8_letterOf_83 : decode cX8_letterOf 83 = .ok (.iload_n 1, 1) := by decide +kernel
theorem dX8_letterOf_84 : decode cX8_letterOf 84 = .ok (.invokevirtual 29, 3) := by decide +kernel
theorem dX8_letterOf_87 : decode cX8_letterOf 87 = .ok (.invokestatic 36, 3) := by decide +kernel
theorem dX8_letterOf_90 : decode cX8_letterOf 90 = .ok (.ireturn, 1) := by decide +kernel
theorem dX8_letterOf_91 : decode cX8_letterOf 91 = .ok (.aload_n 0, 1) := by decide +kernel
theorem dX8_letterOf_92 : decode cX8_letterOf 92 = .ok (.iload_n 1, 1) := by decide +kernel
theorem dX8_letterOf_93 : decode cX8_letterOf 93 = .ok (.invokevirtual 29, 3) := by decide +kernel
theorem dX8_letterOf_96 : decode cX8_letterOf 96 = .ok (.invokestatic 33, 3) := by decide +kernel
theorem dX8_letterOf_99 : decode cX8_letterOf 99 = .ok (.ireturn, 1) := by decide +kernel
theorem dX8_letterOf_100 : decode cX8_letterOf 100 = .ok (.aload_n 0, 1) := by decide +kernel
theorem dX8_letterOf_101 : decode cX8_letterOf 101 = .ok (.aload_n 0, 1) := by decide +kernel
theorem dX8_letterOf_102 : decode cX8_letterOf 102 = .ok (.iload_n 1, 1) := by decide +kernel
theorem dX8_letterOf_103 : decode cX8_letterOf 103 = .ok (.invokevirtual 29, 3) := by decide +kernel
theorem dX8_letterOf_106 : decode cX8_letterOf 106 = .ok (.invokestatic 36, 3) := by decide +kernel
theorem dX8_letterOf_109 : decode cX8_letterOf 109 = .ok (.invokevirtual 49, 3) := by decide +kernel
theorem dX8_letterOf_112 : decode cX8_letterOf 112 = .ok (.ireturn, 1) := by decide +kernel
theorem dX8_letterOf_113 : decode cX8_letterOf 113 = .ok (.aload_n 0, 1) := by decide +kernel
theorem dX8_letterOf_114 : decode cX8_letterOf 114 = .ok (.iload_n 1, 1) := by decide +kernel
theorem dX8_letterOf_115 : decode cX8_letterOf 115 = .ok (.invokevirtual 102, 3) := by decide +kernel
theorem dX8_letterOf_118 : decode cX8_letterOf 118 = .ok (.invokestatic 105, 3) := by decide +kernel
theorem dX8_letterOf_121 : decode cX8_letterOf 121 = .ok (.ireturn, 1) := by decide +kernel
set_option maxRecDepth 20000 in
theorem ggX8_placeOf_X8_isPlace : GoodIn wsX8_placeOf wsX8_isPlace := goodIn_r _ [5, 6, 7, 8, 4, 9, 51, 52, 53, 54, 55, 56, 57, 58, 59, 60, 61, 62, 63] (by decide +kernel) (by decide +kernel)
set_option maxRecDepth 20000 in
theorem gX8_placeOf_X8_isPlace : GoodIn wsX8_placeOf (wsV RX8 85 RX8 yX8_isPlace wsX8_isPlace) := goodIn_app (goodIn_of _ (by decide +kernel)) ggX8_placeOf_X8_isPlace
set_option maxRecDepth 20000 in
theorem ggX8_placeOf_X8_in : GoodIn wsX8_placeOf wsX8_in := goodIn_r _ [9] (by decide +kernel) (by decide +kernel)
set_option maxRecDepth 20000 in
theorem gX8_placeOf_X8_in : GoodIn wsX8_placeOf (va_wsS RX8 56 yX8_in wsX8_in) := goodIn_app (goodIn_of _ (by decide +kernel)) ggX8_placeOf_X8_in
set_option maxRecDepth 20000 in
theorem ggX8_placeOf_X8_signOf : GoodIn wsX8_placeOf wsX8_signOf := goodIn_r _ [13, 6, 51, 52, 53, 54, 55, 56, 57, 58, 59, 60, 61, 62, 63] (by decide +kernel) (by decide +kernel)
set_option maxRecDepth 20000 in
theorem gX8_placeOf_X8_signOf : GoodIn wsX8_placeOf (wsV RX8 60 RX8 yX8_signOf wsX8_signOf) := goodIn_app (goodIn_of _ (by decide +kernel)) ggX8_placeOf_X8_signOf
set_option maxRecDepth 20000 in
theorem ggX8_placeOf_X8_coats : GoodIn wsX8_placeOf wsX8_coats := goodIn_r _ [17, 6, 51, 52, 53, 54, 55, 56, 57, 58, 59, 60, 61, 62, 63] (by decide +kernel) (by decide +kernel)
set_option maxRecDepth 20000 in
theorem gX8_placeOf_X8_coats : GoodIn wsX8_placeOf (wsV RX8 63 RX8 yX8_coats wsX8_coats) := goodIn_app (goodIn_of _ (by decide +kernel)) ggX8_placeOf_X8_coats
set_option maxRecDepth 20000 in
theorem ggX8_placeOf_X8_readAt : GoodIn wsX8_placeOf wsX8_readAt := goodIn_r _ [21, 14, 15, 16, 4, 17, 6, 22, 23, 24, 25, 10, 11, 12, 13, 26, 27, 28, 29, 30, 31, 32, 33, 34, 35, 36, 37, 38, 39, 51, 52, 53, 54, 55, 56, 57, 58, 59, 60, 61, 62, 63] (by decide +kernel) (by decide +kernel)
set_option maxRecDepth 20000 in
theorem gX8_placeOf_X8_readAt : GoodIn wsX8_placeOf (wsV RX8 108 RX8 yX8_readAt wsX8_readAt) := goodIn_app (goodIn_of _ (by decide +kernel)) ggX8_placeOf_X8_readAt
set_option maxRecDepth 20000 in
theorem ggX8_placeOf_X8_orNone : GoodIn wsX8_placeOf wsX8_orNone := goodIn_r _ [42] (by decide +kernel) (by decide +kernel)
set_option maxRecDepth 20000 in
theorem gX8_placeOf_X8_orNone : GoodIn wsX8_placeOf (va_wsS RX8 105 yX8_orNone wsX8_orNone) := goodIn_app (goodIn_of _ (by decide +kernel)) ggX8_placeOf_X8_orNone
set_option maxRecDepth 20000 in
theorem ggX8_placeOf_X8_wanted : GoodIn wsX8_placeOf wsX8_wanted := goodIn_r _ [46, 6, 51, 52, 53, 54, 55, 56, 57, 58, 59, 60, 61, 62, 63] (by decide +kernel) (by decide +kernel)
set_option maxRecDepth 20000 in
theorem gX8_placeOf_X8_wanted : GoodIn wsX8_placeOf (wsV RX8 69 RX8 yX8_wanted wsX8_wanted) := goodIn_app (goodIn_of _ (by decide +kernel)) ggX8_placeOf_X8_wanted
set_option maxRecDepth 20000 in
theorem ggX8_placeOf_X8_drawn : GoodIn wsX8_placeOf wsX8_drawn := goodIn_r _ [36, 6, 51, 52, 53, 54, 55, 56, 57, 58, 59, 60, 61, 62, 63] (by decide +kernel) (by decide +kernel)
set_option maxRecDepth 20000 in
theorem gX8_placeOf_X8_drawn : GoodIn wsX8_placeOf (wsV RX8 29 RX8 yX8_drawn wsX8_drawn) := goodIn_app (goodIn_of _ (by decide +kernel)) ggX8_placeOf_X8_drawn
set_option maxRecDepth 20000 in
theorem ggX8_placeOf_X8_signBy : GoodIn wsX8_placeOf wsX8_signBy := goodIn_r _ [25, 10, 11, 12, 4, 13, 6, 26, 27, 28, 51, 52, 53, 54, 55, 56, 57, 58, 59, 60, 61, 62, 63] (by decide +kernel) (by decide +kernel)
set_option maxRecDepth 20000 in
theorem gX8_placeOf_X8_signBy : GoodIn wsX8_placeOf (wsV RX8 66 RX8 yX8_signBy wsX8_signBy) := goodIn_app (goodIn_of _ (by decide +kernel)) ggX8_placeOf_X8_signBy
set_option maxRecDepth 20000 in
theorem ggX8_placeOf_X8_margin : GoodIn wsX8_placeOf wsX8_margin := goodIn_r _ [50, 33, 34, 35, 4, 36, 6, 37, 38, 39, 51, 52, 53, 54, 55, 56, 57, 58, 59, 60, 61, 62, 63] (by decide +kernel) (by decide +kernel)
set_option maxRecDepth 20000 in
theorem gX8_placeOf_X8_margin : GoodIn wsX8_placeOf (wsV RX8 52 RX8 yX8_margin wsX8_margin) := goodIn_app (goodIn_of _ (by decide +kernel)) ggX8_placeOf_X8_margin
theorem dX8_placeOf_0 : decode cX8_placeOf 0 = .ok (.aload_n 0, 1) := by decide +kernel
theorem dX8_placeOf_1 : decode cX8_placeOf 1 = .ok (.iload_n 1, 1) := by decide +kernel
theorem dX8_placeOf_2 : decode cX8_placeOf 2 = .ok (.invokevirtual 85, 3) := by decide +kernel
theorem dX8_placeOf_5 : decode cX8_placeOf 5 = .ok (.ifCond .eq 13, 3) := by decide +kernel
theorem dX8_placeOf_8 : decode cX8_placeOf 8 = .ok (.iload_n 2, 1) := by decide +kernel
theorem dX8_placeOf_9 : decode cX8_placeOf 9 = .ok (.iconst 0, 1) := by decide +kernel
theorem dX8_placeOf_10 : decode cX8_placeOf 10 = .ok (.bipush 7, 2) := by decide +kernel
theorem dX8_placeOf_12 : decode cX8_placeOf 12 = .ok (.invokestatic 56, 3) := by decide +kernel
theorem dX8_placeOf_15 : decode cX8_placeOf 15 = .ok (.ifCond .ne 7, 3) := by decide +kernel
theorem dX8_placeOf_18 : decode cX8_placeOf 18 = .ok (.sipush (-1001), 3) := by decide +kernel
theorem dX8_placeOf_21 : decode cX8_placeOf 21 = .ok (.ireturn, 1) := by decide +kernel
theorem dX8_placeOf_22 : decode cX8_placeOf 22 = .ok (.iload_n 2, 1) := by decide +kernel
theorem dX8_placeOf_23 : decode cX8_placeOf 23 = .ok (.iconst 2, 1) := by decide +kernel
theorem dX8_placeOf_24 : decode cX8_placeOf 24 = .ok (.irem, 1) := by decide +kernel
theorem dX8_placeOf_25 : decode cX8_placeOf 25 = .ok (.istore_n 3, 1) := by decide +kernel
theorem dX8_placeOf_26 : decode cX8_placeOf 26 = .ok (.iload_n 2, 1) := by decide +kernel
theorem dX8_placeOf_27 : decode cX8_placeOf 27 = .ok (.tableswitch 66 0 5 #[37, 43, 49, 49, 59, 59], 37) := by decide +kernel
theorem dX8_placeOf_64 : decode cX8_placeOf 64 = .ok (.aload_n 0, 1) := by decide +kernel
theorem dX8_placeOf_65 : decode cX8_placeOf 65 = .ok (.iload_n 1, 1) := by decide +kernel
theorem dX8_placeOf_66 : decode cX8_placeOf 66 = .ok (.invokevirtual 60, 3) := by decide +kernel
theorem dX8_placeOf_69 : decode cX8_placeOf 69 = .ok (.ireturn, 1) := by decide +kernel
theorem dX8_placeOf_70 : decode cX8_placeOf 70 = .ok (.aload_n 0, 1) := by decide +kernel
theorem dX8_placeOf_71 : decode cX8_placeOf 71 = .ok (.iload_n 1, 1) := by decide +kernel
theorem dX8_placeOf_72 : decode cX8_placeOf 72 = .ok (.invokevirtual 63, 3) := by decide +kernel
theorem dX8_placeOf_75 : decode cX8_placeOf 75 = .ok (.ireturn, 1) := by decide +kernel
theorem dX8_placeOf_76 : decode cX8_placeOf 76 = .ok (.aload_n 0, 1) := by decide +kernel
theorem dX8_placeOf_77 : decode cX8_placeOf 77 = .ok (.iload_n 1, 1) := by decide +kernel
theorem dX8_placeOf_78 : decode cX8_placeOf 78 = .ok (.iload_n 3, 1) := by decide +kernel
theorem dX8_placeOf_79 : decode cX8_placeOf 79 = .ok (.invokevirtual 108, 3) := by decide +kernel
theorem dX8_placeOf_82 : decode cX8_placeOf 82 = .ok (.invokestatic 105, 3) := by decide +kernel
theorem dX8_placeOf_85 : decode cX8_placeOf 85 = .ok (.ireturn, 1) := by decide +kernel
theorem dX8_placeOf_86 : decode cX8_placeOf 86 = .ok (.aload_n 0, 1) := by decide +kernel
theorem dX8_placeOf_87 : decode cX8_placeOf 87 = .ok (.iload_n 1, 1) := by decide +kernel
theorem dX8_placeOf_88 : decode cX8_placeOf 88 = .ok (.iload_n 3, 1) := by decide +kernel
theorem dX8_placeOf_89 : decode cX8_placeOf 89 = .ok (.invokevirtual 69, 3) := by decide +kernel
theorem dX8_placeOf_92 : decode cX8_placeOf 92 = .ok (.ireturn, 1) := by decide +kernel
theorem dX8_placeOf_93 : decode cX8_placeOf 93 = .ok (.aload_n 0, 1) := by decide +kernel
theorem dX8_placeOf_94 : decode cX8_placeOf 94 = .ok (.aload_n 0, 1) := by decide +kernel
theorem dX8_placeOf_95 : decode cX8_placeOf 95 = .ok (.iload_n 1, 1) := by decide +kernel
theorem dX8_placeOf_96 : decode cX8_placeOf 96 = .ok (.iload_n 3, 1) := by decide +kernel
theorem dX8_placeOf_97 : decode cX8_placeOf 97 = .ok (.invokevirtual 69, 3) := by decide +kernel
theorem dX8_placeOf_100 : decode cX8_placeOf 100 = .ok (.invokevirtual 29, 3) := by decide +kernel
theorem dX8_placeOf_103 : decode cX8_placeOf 103 = .ok (.ifCond .ge 9, 3) := by decide +kernel
theorem dX8_placeOf_106 : decode cX8_placeOf 106 = .ok (.sipush (-1004), 3) := by decide +kernel
theorem dX8_placeOf_109 : decode cX8_placeOf 109 = .ok (.goto 19, 3) := by decide +kernel
theorem dX8_placeOf_112 : decode cX8_placeOf 112 = .ok (.aload_n 0, 1) := by decide +kernel
theorem dX8_placeOf_113 : decode cX8_placeOf 113 = .ok (.aload_n 0, 1) := by decide +kernel
theorem dX8_placeOf_114 : decode cX8_placeOf 114 = .ok (.iload_n 1, 1) := by decide +kernel
theorem dX8_placeOf_115 : decode cX8_placeOf 115 = .ok (.iload_n 3, 1) := by decide +kernel
theorem dX8_placeOf_116 : decode cX8_placeOf 116 = .ok (.invokevirtual 66, 3) := by decide +kernel
theorem dX8_placeOf_119 : decode cX8_placeOf 119 = .ok (.aload_n 0, 1) := by decide +kernel
theorem dX8_placeOf_120 : decode cX8_placeOf 120 = .ok (.iload_n 1, 1) := by decide +kernel
theorem dX8_placeOf_121 : decode cX8_placeOf 121 = .ok (.iload_n 3, 1) := by decide +kernel
theorem dX8_placeOf_122 : decode cX8_placeOf 122 = .ok (.invokevirtual 69, 3) := by decide +kernel
theorem dX8_placeOf_125 : decode cX8_placeOf 125 = .ok (.invokevirtual 52, 3) := by decide +kernel
theorem dX8_placeOf_128 : decode cX8_placeOf 128 = .ok (.ireturn, 1) := by decide +kernel
set_option maxRecDepth 20000 in
theorem ggX8_reads_X8_in : GoodIn wsX8_reads wsX8_in := goodIn_r _ [5] (by decide +kernel) (by decide +kernel)
set_option maxRecDepth 20000 in
theorem gX8_reads_X8_in : GoodIn wsX8_reads (va_wsS RX8 56 yX8_in wsX8_in) := goodIn_app (goodIn_of _ (by decide +kernel)) ggX8_reads_X8_in
set_option maxRecDepth 20000 in
theorem ggX8_reads_X8_readAt : GoodIn wsX8_reads wsX8_readAt := goodIn_r _ [9, 10, 11, 12, 4, 13, 1, 14, 15, 16, 17, 18, 19, 20, 21, 22, 23, 24, 25, 26, 27, 28, 29, 30, 31, 32, 33, 34, 35, 39, 40, 41, 42, 43, 44, 45, 46, 47, 48, 49, 50, 51] (by decide +kernel) (by decide +kernel)
set_option maxRecDepth 20000 in
theorem gX8_reads_X8_readAt : GoodIn wsX8_reads (wsV RX8 108 RX8 yX8_readAt wsX8_readAt) := goodIn_app (goodIn_of _ (by decide +kernel)) ggX8_reads_X8_readAt
set_option maxRecDepth 20000 in
theorem ggX8_reads_X8_orNone : GoodIn wsX8_reads wsX8_orNone := goodIn_r _ [38] (by decide +kernel) (by decide +kernel)
set_option maxRecDepth 20000 in
theorem gX8_reads_X8_orNone : GoodIn wsX8_reads (va_wsS RX8 105 yX8_orNone wsX8_orNone) := goodIn_app (goodIn_of _ (by decide +kernel)) ggX8_reads_X8_orNone
theorem dX8_reads_0 : decode cX8_reads 0 = .ok (.iload_n 1, 1) := by decide +kernel
theorem dX8_reads_1 : decode cX8_reads 1 = .ok (.iconst 0, 1) := by decide +kernel
theorem dX8_reads_2 : decode cX8_reads 2 = .ok (.iconst 1, 1) := by decide +kernel
theorem dX8_reads_3 : decode cX8_reads 3 = .ok (.invokestatic 56, 3) := by decide +kernel
theorem dX8_reads_6 : decode cX8_reads 6 = .ok (.ifCond .eq 7, 3) := by decide +kernel
theorem dX8_reads_9 : decode cX8_reads 9 = .ok (.iload_n 2, 1) := by decide +kernel
theorem dX8_reads_10 : decode cX8_reads 10 = .ok (.ifCond .ge 7, 3) := by decide +kernel
theorem dX8_reads_13 : decode cX8_reads 13 = .ok (.sipush (-1001), 3) := by decide +kernel
theorem dX8_reads_16 : decode cX8_reads 16 = .ok (.ireturn, 1) := by decide +kernel
theorem dX8_reads_17 : decode cX8_reads 17 = .ok (.iload_n 2, 1) := by decide +kernel
theorem dX8_reads_18 : decode cX8_reads 18 = .ok (.aload_n 0, 1) := by decide +kernel
theorem dX8_reads_19 : decode cX8_reads 19 = .ok (.getfield 7, 3) := by decide +kernel
theorem dX8_reads_22 : decode cX8_reads 22 = .ok (.iconst 0, 1) := by decide +kernel
theorem dX8_reads_23 : decode cX8_reads 23 = .ok (.iaload, 1) := by decide +kernel
theorem dX8_reads_24 : decode cX8_reads 24 = .ok (.if_icmp .lt 7, 3) := by decide +kernel
theorem dX8_reads_27 : decode cX8_reads 27 = .ok (.sipush (-1004), 3) := by decide +kernel
theorem dX8_reads_30 : decode cX8_reads 30 = .ok (.ireturn, 1) := by decide +kernel
theorem dX8_reads_31 : decode cX8_reads 31 = .ok (.aload_n 0, 1) := by decide +kernel
theorem dX8_reads_32 : decode cX8_reads 32 = .ok (.getfield 7, 3) := by decide +kernel
theorem dX8_reads_35 : decode cX8_reads 35 = .ok (.iconst 1, 1) := by decide +kernel
theorem dX8_reads_36 : decode cX8_reads 36 = .ok (.iaload, 1) := by decide +kernel
theorem dX8_reads_37 : decode cX8_reads 37 = .ok (.iload_n 1, 1) := by decide +kernel
theorem dX8_reads_38 : decode cX8_reads 38 = .ok (.ixor, 1) := by decide +kernel
theorem dX8_reads_39 : decode cX8_reads 39 = .ok (.istore_n 3, 1) := by decide +kernel
theorem dX8_reads_40 : decode cX8_reads 40 = .ok (.aload_n 0, 1) := by decide +kernel
theorem dX8_reads_41 : decode cX8_reads 41 = .ok (.iload_n 3, 1) := by decide +kernel
theorem dX8_reads_42 : decode cX8_reads 42 = .ok (.ifCond .ne 7, 3) := by decide +kernel
theorem dX8_reads_45 : decode cX8_reads 45 = .ok (.iload_n 2, 1) := by decide +kernel
theorem dX8_reads_46 : decode cX8_reads 46 = .ok (.goto 13, 3) := by decide +kernel
theorem dX8_reads_49 : decode cX8_reads 49 = .ok (.aload_n 0, 1) := by decide +kernel
theorem dX8_reads_50 : decode cX8_reads 50 = .ok (.getfield 7, 3) := by decide +kernel
theorem dX8_reads_53 : decode cX8_reads 53 = .ok (.iconst 0, 1) := by decide +kernel
theorem dX8_reads_54 : decode cX8_reads 54 = .ok (.iaload, 1) := by decide +kernel
theorem dX8_reads_55 : decode cX8_reads 55 = .ok (.iconst 1, 1) := by decide +kernel
theorem dX8_reads_56 : decode cX8_reads 56 = .ok (.isub, 1) := by decide +kernel
theorem dX8_reads_57 : decode cX8_reads 57 = .ok (.iload_n 2, 1) := by decide +kernel
theorem dX8_reads_58 : decode cX8_reads 58 = .ok (.isub, 1) := by decide +kernel
theorem dX8_reads_59 : decode cX8_reads 59 = .ok (.iload_n 3, 1) := by decide +kernel
theorem dX8_reads_60 : decode cX8_reads 60 = .ok (.invokevirtual 108, 3) := by decide +kernel
theorem dX8_reads_63 : decode cX8_reads 63 = .ok (.invokestatic 105, 3) := by decide +kernel
theorem dX8_reads_66 : decode cX8_reads 66 = .ok (.ireturn, 1) := by decide +kernel
set_option maxRecDepth 20000 in
theorem ggX8_wrong_X8_readAt : GoodIn wsX8_wrong wsX8_readAt := goodIn_r _ [6, 7, 8, 9, 5, 10, 1, 11, 12, 13, 14, 15, 16, 17, 18, 19, 20, 21, 22, 23, 24, 25, 26, 27, 28, 29, 30, 31, 32, 37, 38, 39, 40, 41, 42, 43, 44, 45, 46, 47, 48, 49] (by decide +kernel) (by decide +kernel)
set_option maxRecDepth 20000 in
theorem gX8_wrong_X8_readAt : GoodIn wsX8_wrong (wsV RX8 108 RX8 yX8_readAt wsX8_readAt) := goodIn_app (goodIn_of _ (by decide +kernel)) ggX8_wrong_X8_readAt
set_option maxRecDepth 20000 in
theorem ggX8_wrong_X8_wanted : GoodIn wsX8_wrong wsX8_wanted := goodIn_r _ [36, 1, 37, 38, 39, 40, 41, 42, 43, 44, 45, 46, 47, 48, 49] (by decide +kernel) (by decide +kernel)
set_option maxRecDepth 20000 in
theorem gX8_wrong_X8_wanted : GoodIn wsX8_wrong (wsV RX8 69 RX8 yX8_wanted wsX8_wanted) := goodIn_app (goodIn_of _ (by decide +kernel)) ggX8_wrong_X8_wanted
theorem dX8_wrong_0 : decode cX8_wrong 0 = .ok (.iconst 0, 1) := by decide +kernel
theorem dX8_wrong_1 : decode cX8_wrong 1 = .ok (.istore_n 2, 1) := by decide +kernel
theorem dX8_wrong_2 : decode cX8_wrong 2 = .ok (.iconst 0, 1) := by decide +kernel
theorem dX8_wrong_3 : decode cX8_wrong 3 = .ok (.istore_n 3, 1) := by decide +kernel
theorem dX8_wrong_4 : decode cX8_wrong 4 = .ok (.iload_n 3, 1) := by decide +kernel
theorem dX8_wrong_5 : decode cX8_wrong 5 = .ok (.aload_n 0, 1) := by decide +kernel
theorem dX8_wrong_6 : decode cX8_wrong 6 = .ok (.getfield 7, 3) := by decide +kernel
theorem dX8_wrong_9 : decode cX8_wrong 9 = .ok (.iconst 0, 1) := by decide +kernel
theorem dX8_wrong_10 : decode cX8_wrong 10 = .ok (.iaload, 1) := by decide +kernel
theorem dX8_wrong_11 : decode cX8_wrong 11 = .ok (.if_icmp .ge 32, 3) := by decide +kernel
theorem dX8_wrong_14 : decode cX8_wrong 14 = .ok (.iload_n 2, 1) := by decide +kernel
theorem dX8_wrong_15 : decode cX8_wrong 15 = .ok (.aload_n 0, 1) := by decide +kernel
theorem dX8_wrong_16 : decode cX8_wrong 16 = .ok (.iload_n 3, 1) := by decide +kernel
theorem dX8_wrong_17 : decode cX8_wrong 17 = .ok (.iload_n 1, 1) := by decide +kernel
theorem dX8_wrong_18 : decode cX8_wrong 18 = .ok (.invokevirtual 108, 3) := by decide +kernel
theorem dX8_wrong_21 : decode cX8_wrong 21 = .ok (.aload_n 0, 1) := by decide +kernel
theorem dX8_wrong_22 : decode cX8_wrong 22 = .ok (.iload_n 3, 1) := by decide +kernel
theorem dX8_wrong_23 : decode cX8_wrong 23 = .ok (.iload_n 1, 1) := by decide +kernel
theorem dX8_wrong_24 : decode cX8_wrong 24 = .ok (.invokevirtual 69, 3) := by decide +kernel
theorem dX8_wrong_27 : decode cX8_wrong 27 = .ok (.if_icmp .ne 7, 3) := by decide +kernel
theorem dX8_wrong_30 : decode cX8_wrong 30 = .ok (.iconst 0, 1) := by decide +kernel
theorem dX8_wrong_31 : decode cX8_wrong 31 = .ok (.goto 4, 3) := by decide +kernel
theorem dX8_wrong_34 : decode cX8_wrong 34 = .ok (.iconst 1, 1) := by decide +kernel
theorem dX8_wrong_35 : decode cX8_wrong 35 = .ok (.iadd, 1) := by decide +kernel
theorem dX8_wrong_36 : decode cX8_wrong 36 = .ok (.istore_n 2, 1) := by decide +kernel
theorem dX8_wrong_37 : decode cX8_wrong 37 = .ok (.iinc 3 1, 3) := by decide +kernel
theorem dX8_wrong_40 : decode cX8_wrong 40 = .ok (.goto (-36), 3) := by decide +kernel
theorem dX8_wrong_43 : decode cX8_wrong 43 = .ok (.iload_n 2, 1) := by decide +kernel
theorem dX8_wrong_44 : decode cX8_wrong 44 = .ok (.ireturn, 1) := by decide +kernel
set_option maxRecDepth 20000 in
theorem ggX8_word_X8_in : GoodIn wsX8_word wsX8_in := goodIn_r _ [5] (by decide +kernel) (by decide +kernel)
set_option maxRecDepth 20000 in
theorem gX8_word_X8_in : GoodIn wsX8_word (va_wsS RX8 56 yX8_in wsX8_in) := goodIn_app (goodIn_of _ (by decide +kernel)) ggX8_word_X8_in
set_option maxRecDepth 20000 in
theorem ggX8_word_X8_wrong : GoodIn wsX8_word wsX8_wrong := goodIn_r _ [9, 1, 10, 11, 12, 4, 13, 14, 15, 16, 17, 18, 19, 20, 21, 22, 23, 24, 25, 26, 27, 28, 29, 30, 31, 32, 33, 34, 35, 36, 37, 38, 39, 40, 41, 42, 43, 44, 45, 46, 47, 48, 49, 50, 51, 52, 53, 54, 55, 56] (by decide +kernel) (by decide +kernel)
set_option maxRecDepth 20000 in
theorem gX8_word_X8_wrong : GoodIn wsX8_word (wsV RX8 111 RX8 yX8_wrong wsX8_wrong) := goodIn_app (goodIn_of _ (by decide +kernel)) ggX8_word_X8_wrong
theorem dX8_word_0 : decode cX8_word 0 = .ok (.iload_n 1, 1) := by decide +kernel
theorem dX8_word_1 : decode cX8_word 1 = .ok (.iconst 0, 1) := by decide +kernel
theorem dX8_word_2 : decode cX8_word 2 = .ok (.iconst 1, 1) := by decide +kernel
theorem dX8_word_3 : decode cX8_word 3 = .ok (.invokestatic 56, 3) := by decide +kernel
theorem dX8_word_6 : decode cX8_word 6 = .ok (.ifCond .eq 30, 3) := by decide +kernel
theorem dX8_word_9 : decode cX8_word 9 = .ok (.iload_n 2, 1) := by decide +kernel
theorem dX8_word_10 : decode cX8_word 10 = .ok (.iconst 0, 1) := by decide +kernel
theorem dX8_word_11 : decode cX8_word 11 = .ok (.iconst 2, 1) := by decide +kernel
theorem dX8_word_12 : decode cX8_word 12 = .ok (.invokestatic 56, 3) := by decide +kernel
theorem dX8_word_15 : decode cX8_word 15 = .ok (.ifCond .ne 25, 3) := by decide +kernel
theorem dX8_word_18 : decode cX8_word 18 = .ok (.iload_n 2, 1) := by decide +kernel
theorem dX8_word_19 : decode cX8_word 19 = .ok (.bipush 10, 2) := by decide +kernel
theorem dX8_word_21 : decode cX8_word 21 = .ok (.bipush 9, 2) := by decide +kernel
theorem dX8_word_23 : decode cX8_word 23 = .ok (.aload_n 0, 1) := by decide +kernel
theorem dX8_word_24 : decode cX8_word 24 = .ok (.getfield 7, 3) := by decide +kernel
theorem dX8_word_27 : decode cX8_word 27 = .ok (.iconst 0, 1) := by decide +kernel
theorem dX8_word_28 : decode cX8_word 28 = .ok (.iaload, 1) := by decide +kernel
theorem dX8_word_29 : decode cX8_word 29 = .ok (.iadd, 1) := by decide +kernel
theorem dX8_word_30 : decode cX8_word 30 = .ok (.invokestatic 56, 3) := by decide +kernel
theorem dX8_word_33 : decode cX8_word 33 = .ok (.ifCond .ne 7, 3) := by decide +kernel
theorem dX8_word_36 : decode cX8_word 36 = .ok (.sipush (-1001), 3) := by decide +kernel
theorem dX8_word_39 : decode cX8_word 39 = .ok (.ireturn, 1) := by decide +kernel
theorem dX8_word_40 : decode cX8_word 40 = .ok (.iload_n 2, 1) := by decide +kernel
theorem dX8_word_41 : decode cX8_word 41 = .ok (.tableswitch 63 0 2 #[27, 41, 47], 27) := by decide +kernel
theorem dX8_word_68 : decode cX8_word 68 = .ok (.aload_n 0, 1) := by decide +kernel
theorem dX8_word_69 : decode cX8_word 69 = .ok (.iload_n 1, 1) := by decide +kernel
theorem dX8_word_70 : decode cX8_word 70 = .ok (.invokevirtual 111, 3) := by decide +kernel
theorem dX8_word_73 : decode cX8_word 73 = .ok (.ifCond .ne 7, 3) := by decide +kernel
theorem dX8_word_76 : decode cX8_word 76 = .ok (.iconst 1, 1) := by decide +kernel
theorem dX8_word_77 : decode cX8_word 77 = .ok (.goto 4, 3) := by decide +kernel
theorem dX8_word_80 : decode cX8_word 80 = .ok (.iconst 0, 1) := by decide +kernel
theorem dX8_word_81 : decode cX8_word 81 = .ok (.ireturn, 1) := by decide +kernel
theorem dX8_word_82 : decode cX8_word 82 = .ok (.aload_n 0, 1) := by decide +kernel
theorem dX8_word_83 : decode cX8_word 83 = .ok (.iload_n 1, 1) := by decide +kernel
theorem dX8_word_84 : decode cX8_word 84 = .ok (.invokevirtual 111, 3) := by decide +kernel
theorem dX8_word_87 : decode cX8_word 87 = .ok (.ireturn, 1) := by decide +kernel
theorem dX8_word_88 : decode cX8_word 88 = .ok (.aload_n 0, 1) := by decide +kernel
theorem dX8_word_89 : decode cX8_word 89 = .ok (.getfield 7, 3) := by decide +kernel
theorem dX8_word_92 : decode cX8_word 92 = .ok (.iconst 1, 1) := by decide +kernel
theorem dX8_word_93 : decode cX8_word 93 = .ok (.iaload, 1) := by decide +kernel
theorem dX8_word_94 : decode cX8_word 94 = .ok (.iload_n 1, 1) := by decide +kernel
theorem dX8_word_95 : decode cX8_word 95 = .ok (.if_icmp .ne 7, 3) := by decide +kernel
theorem dX8_word_98 : decode cX8_word 98 = .ok (.iconst 1, 1) := by decide +kernel
theorem dX8_word_99 : decode cX8_word 99 = .ok (.goto 4, 3) := by decide +kernel
theorem dX8_word_102 : decode cX8_word 102 = .ok (.iconst 0, 1) := by decide +kernel
theorem dX8_word_103 : decode cX8_word 103 = .ok (.ireturn, 1) := by decide +kernel
theorem dX8_word_104 : decode cX8_word 104 = .ok (.aload_n 0, 1) := by decide +kernel
theorem dX8_word_105 : decode cX8_word 105 = .ok (.getfield 7, 3) := by decide +kernel
theorem dX8_word_108 : decode cX8_word 108 = .ok (.bipush 33, 2) := by decide +kernel
theorem dX8_word_110 : decode cX8_word 110 = .ok (.bipush 8, 2) := by decide +kernel
theorem dX8_word_112 : decode cX8_word 112 = .ok (.iload_n 1, 1) := by decide +kernel
theorem dX8_word_113 : decode cX8_word 113 = .ok (.imul, 1) := by decide +kernel
theorem dX8_word_114 : decode cX8_word 114 = .ok (.iadd, 1) := by decide +kernel
theorem dX8_word_115 : decode cX8_word 115 = .ok (.iload_n 2, 1) := by decide +kernel
theorem dX8_word_116 : decode cX8_word 116 = .ok (.iadd, 1) := by decide +kernel
theorem dX8_word_117 : decode cX8_word 117 = .ok (.bipush 10, 2) := by decide +kernel
theorem dX8_word_119 : decode cX8_word 119 = .ok (.isub, 1) := by decide +kernel
theorem dX8_word_120 : decode cX8_word 120 = .ok (.iaload, 1) := by decide +kernel
theorem dX8_word_121 : decode cX8_word 121 = .ok (.ireturn, 1) := by decide +kernel
set_option maxRecDepth 20000 in
theorem ggX8_drawnSet_X8_drawn : GoodIn wsX8_drawnSet wsX8_drawn := goodIn_r _ [5, 6, 7, 8, 9, 10, 11, 12, 13, 14, 15, 16, 17, 18, 19] (by decide +kernel) (by decide +kernel)
set_option maxRecDepth 20000 in
theorem gX8_drawnSet_X8_drawn : GoodIn wsX8_drawnSet (wsV RX8 29 RX8 yX8_drawn wsX8_drawn) := goodIn_app (goodIn_of _ (by decide +kernel)) ggX8_drawnSet_X8_drawn
theorem dX8_drawnSet_0 : decode cX8_drawnSet 0 = .ok (.iconst 0, 1) := by decide +kernel
theorem dX8_drawnSet_1 : decode cX8_drawnSet 1 = .ok (.istore_n 1, 1) := by decide +kernel
theorem dX8_drawnSet_2 : decode cX8_drawnSet 2 = .ok (.iconst 0, 1) := by decide +kernel
theorem dX8_drawnSet_3 : decode cX8_drawnSet 3 = .ok (.istore_n 2, 1) := by decide +kernel
theorem dX8_drawnSet_4 : decode cX8_drawnSet 4 = .ok (.iload_n 2, 1) := by decide +kernel
theorem dX8_drawnSet_5 : decode cX8_drawnSet 5 = .ok (.bipush 10, 2) := by decide +kernel
theorem dX8_drawnSet_7 : decode cX8_drawnSet 7 = .ok (.if_icmp .ge 27, 3) := by decide +kernel
theorem dX8_drawnSet_10 : decode cX8_drawnSet 10 = .ok (.iload_n 1, 1) := by decide +kernel
theorem dX8_drawnSet_11 : decode cX8_drawnSet 11 = .ok (.aload_n 0, 1) := by decide +kernel
theorem dX8_drawnSet_12 : decode cX8_drawnSet 12 = .ok (.iload_n 2, 1) := by decide +kernel
theorem dX8_drawnSet_13 : decode cX8_drawnSet 13 = .ok (.invokevirtual 29, 3) := by decide +kernel
theorem dX8_drawnSet_16 : decode cX8_drawnSet 16 = .ok (.ifCond .ge 7, 3) := by decide +kernel
theorem dX8_drawnSet_19 : decode cX8_drawnSet 19 = .ok (.iconst 0, 1) := by decide +kernel
theorem dX8_drawnSet_20 : decode cX8_drawnSet 20 = .ok (.goto 6, 3) := by decide +kernel
theorem dX8_drawnSet_23 : decode cX8_drawnSet 23 = .ok (.iconst 1, 1) := by decide +kernel
theorem dX8_drawnSet_24 : decode cX8_drawnSet 24 = .ok (.iload_n 2, 1) := by decide +kernel
theorem dX8_drawnSet_25 : decode cX8_drawnSet 25 = .ok (.ishl, 1) := by decide +kernel
theorem dX8_drawnSet_26 : decode cX8_drawnSet 26 = .ok (.ior, 1) := by decide +kernel
theorem dX8_drawnSet_27 : decode cX8_drawnSet 27 = .ok (.istore_n 1, 1) := by decide +kernel
theorem dX8_drawnSet_28 : decode cX8_drawnSet 28 = .ok (.iinc 2 1, 3) := by decide +kernel
theorem dX8_drawnSet_31 : decode cX8_drawnSet 31 = .ok (.goto (-27), 3) := by decide +kernel
theorem dX8_drawnSet_34 : decode cX8_drawnSet 34 = .ok (.iload_n 1, 1) := by decide +kernel
theorem dX8_drawnSet_35 : decode cX8_drawnSet 35 = .ok (.ireturn, 1) := by decide +kernel
set_option maxRecDepth 20000 in
theorem ggX8_paintedOr_X8_coats : GoodIn wsX8_paintedOr wsX8_coats := goodIn_r _ [6, 1, 7, 8, 9, 10, 11, 12, 13, 14, 15, 16, 17, 18, 19] (by decide +kernel) (by decide +kernel)
set_option maxRecDepth 20000 in
theorem gX8_paintedOr_X8_coats : GoodIn wsX8_paintedOr (wsV RX8 63 RX8 yX8_coats wsX8_coats) := goodIn_app (goodIn_of _ (by decide +kernel)) ggX8_paintedOr_X8_coats
theorem dX8_paintedOr_0 : decode cX8_paintedOr 0 = .ok (.iconst 0, 1) := by decide +kernel
theorem dX8_paintedOr_1 : decode cX8_paintedOr 1 = .ok (.istore_n 2, 1) := by decide +kernel
theorem dX8_paintedOr_2 : decode cX8_paintedOr 2 = .ok (.iconst 0, 1) := by decide +kernel
theorem dX8_paintedOr_3 : decode cX8_paintedOr 3 = .ok (.istore_n 3, 1) := by decide +kernel
theorem dX8_paintedOr_4 : decode cX8_paintedOr 4 = .ok (.iload_n 3, 1) := by decide +kernel
theorem dX8_paintedOr_5 : decode cX8_paintedOr 5 = .ok (.aload_n 0, 1) := by decide +kernel
theorem dX8_paintedOr_6 : decode cX8_paintedOr 6 = .ok (.getfield 7, 3) := by decide +kernel
theorem dX8_paintedOr_9 : decode cX8_paintedOr 9 = .ok (.iconst 0, 1) := by decide +kernel
theorem dX8_paintedOr_10 : decode cX8_paintedOr 10 = .ok (.iaload, 1) := by decide +kernel
theorem dX8_paintedOr_11 : decode cX8_paintedOr 11 = .ok (.if_icmp .ge 37, 3) := by decide +kernel
theorem dX8_paintedOr_14 : decode cX8_paintedOr 14 = .ok (.iload_n 2, 1) := by decide +kernel
theorem dX8_paintedOr_15 : decode cX8_paintedOr 15 = .ok (.iload_n 1, 1) := by decide +kernel
theorem dX8_paintedOr_16 : decode cX8_paintedOr 16 = .ok (.ifCond .eq 11, 3) := by decide +kernel
theorem dX8_paintedOr_19 : decode cX8_paintedOr 19 = .ok (.aload_n 0, 1) := by decide +kernel
theorem dX8_paintedOr_20 : decode cX8_paintedOr 20 = .ok (.iload_n 3, 1) := by decide +kernel
theorem dX8_paintedOr_21 : decode cX8_paintedOr 21 = .ok (.invokevirtual 63, 3) := by decide +kernel
theorem dX8_paintedOr_24 : decode cX8_paintedOr 24 = .ok (.goto 16, 3) := by decide +kernel
theorem dX8_paintedOr_27 : decode cX8_paintedOr 27 = .ok (.aload_n 0, 1) := by decide +kernel
theorem dX8_paintedOr_28 : decode cX8_paintedOr 28 = .ok (.iload_n 3, 1) := by decide +kernel
theorem dX8_paintedOr_29 : decode cX8_paintedOr 29 = .ok (.invokevirtual 63, 3) := by decide +kernel
theorem dX8_paintedOr_32 : decode cX8_paintedOr 32 = .ok (.ifCond .le 7, 3) := by decide +kernel
theorem dX8_paintedOr_35 : decode cX8_paintedOr 35 = .ok (.iconst 1, 1) := by decide +kernel
theorem dX8_paintedOr_36 : decode cX8_paintedOr 36 = .ok (.goto 4, 3) := by decide +kernel
theorem dX8_paintedOr_39 : decode cX8_paintedOr 39 = .ok (.iconst 0, 1) := by decide +kernel
theorem dX8_paintedOr_40 : decode cX8_paintedOr 40 = .ok (.iadd, 1) := by decide +kernel
theorem dX8_paintedOr_41 : decode cX8_paintedOr 41 = .ok (.istore_n 2, 1) := by decide +kernel
theorem dX8_paintedOr_42 : decode cX8_paintedOr 42 = .ok (.iinc 3 1, 3) := by decide +kernel
theorem dX8_paintedOr_45 : decode cX8_paintedOr 45 = .ok (.goto (-41), 3) := by decide +kernel
theorem dX8_paintedOr_48 : decode cX8_paintedOr 48 = .ok (.iload_n 2, 1) := by decide +kernel
theorem dX8_paintedOr_49 : decode cX8_paintedOr 49 = .ok (.ireturn, 1) := by decide +kernel
set_option maxRecDepth 20000 in
theorem ggX8_count_X8_drawnSet : GoodIn wsX8_count wsX8_drawnSet := goodIn_r _ [9, 10, 11, 12, 8, 13, 1, 25, 26, 27, 28, 29, 30, 31, 32, 33, 34, 35, 36, 37] (by decide +kernel) (by decide +kernel)
set_option maxRecDepth 20000 in
theorem gX8_count_X8_drawnSet : GoodIn wsX8_count (wsV RX8 114 RX8 yX8_drawnSet wsX8_drawnSet) := goodIn_app (goodIn_of _ (by decide +kernel)) ggX8_count_X8_drawnSet
set_option maxRecDepth 20000 in
theorem ggX8_count_X8_paintedOr : GoodIn wsX8_count wsX8_paintedOr := goodIn_r _ [17, 1, 18, 19, 20, 8, 21, 25, 26, 27, 28, 29, 30, 31, 32, 33, 34, 35, 36, 37] (by decide +kernel) (by decide +kernel)
set_option maxRecDepth 20000 in
theorem gX8_count_X8_paintedOr : GoodIn wsX8_count (wsV RX8 118 RX8 yX8_paintedOr wsX8_paintedOr) := goodIn_app (goodIn_of _ (by decide +kernel)) ggX8_count_X8_paintedOr
set_option maxRecDepth 20000 in
theorem ggX8_count_X8_in : GoodIn wsX8_count wsX8_in := goodIn_r _ [24] (by decide +kernel) (by decide +kernel)
set_option maxRecDepth 20000 in
theorem gX8_count_X8_in : GoodIn wsX8_count (va_wsS RX8 56 yX8_in wsX8_in) := goodIn_app (goodIn_of _ (by decide +kernel)) ggX8_count_X8_in
theorem dX8_count_0 : decode cX8_count 0 = .ok (.iload_n 1, 1) := by decide +kernel
theorem dX8_count_1 : decode cX8_count 1 = .ok (.tableswitch 134 0 10 #[59, 66, 71, 78, 85, 92, 99, 105, 111, 116, 121], 59) := by decide +kernel
theorem dX8_count_60 : decode cX8_count 60 = .ok (.aload_n 0, 1) := by decide +kernel
theorem dX8_count_61 : decode cX8_count 61 = .ok (.getfield 7, 3) := by decide +kernel
theorem dX8_count_64 : decode cX8_count 64 = .ok (.iconst 0, 1) := by decide +kernel
theorem dX8_count_65 : decode cX8_count 65 = .ok (.iaload, 1) := by decide +kernel
theorem dX8_count_66 : decode cX8_count 66 = .ok (.ireturn, 1) := by decide +kernel
theorem dX8_count_67 : decode cX8_count 67 = .ok (.aload_n 0, 1) := by decide +kernel
theorem dX8_count_68 : decode cX8_count 68 = .ok (.invokevirtual 114, 3) := by decide +kernel
theorem dX8_count_71 : decode cX8_count 71 = .ok (.ireturn, 1) := by decide +kernel
theorem dX8_count_72 : decode cX8_count 72 = .ok (.aload_n 0, 1) := by decide +kernel
theorem dX8_count_73 : decode cX8_count 73 = .ok (.getfield 7, 3) := by decide +kernel
theorem dX8_count_76 : decode cX8_count 76 = .ok (.iconst 1, 1) := by decide +kernel
theorem dX8_count_77 : decode cX8_count 77 = .ok (.iaload, 1) := by decide +kernel
theorem dX8_count_78 : decode cX8_count 78 = .ok (.ireturn, 1) := by decide +kernel
theorem dX8_count_79 : decode cX8_count 79 = .ok (.aload_n 0, 1) := by decide +kernel
theorem dX8_count_80 : decode cX8_count 80 = .ok (.getfield 7, 3) := by decide +kernel
theorem dX8_count_83 : decode cX8_count 83 = .ok (.iconst 2, 1) := by decide +kernel
theorem dX8_count_84 : decode cX8_count 84 = .ok (.iaload, 1) := by decide +kernel
theorem dX8_count_85 : decode cX8_count 85 = .ok (.ireturn, 1) := by decide +kernel
theorem dX8_count_86 : decode cX8_count 86 = .ok (.aload_n 0, 1) := by decide +kernel
theorem dX8_count_87 : decode cX8_count 87 = .ok (.getfield 7, 3) := by decide +kernel
theorem dX8_count_90 : decode cX8_count 90 = .ok (.iconst 3, 1) := by decide +kernel
theorem dX8_count_91 : decode cX8_count 91 = .ok (.iaload, 1) := by decide +kernel
theorem dX8_count_92 : decode cX8_count 92 = .ok (.ireturn, 1) := by decide +kernel
theorem dX8_count_93 : decode cX8_count 93 = .ok (.aload_n 0, 1) := by decide +kernel
theorem dX8_count_94 : decode cX8_count 94 = .ok (.getfield 7, 3) := by decide +kernel
theorem dX8_count_97 : decode cX8_count 97 = .ok (.iconst 4, 1) := by decide +kernel
theorem dX8_count_98 : decode cX8_count 98 = .ok (.iaload, 1) := by decide +kernel
theorem dX8_count_99 : decode cX8_count 99 = .ok (.ireturn, 1) := by decide +kernel
theorem dX8_count_100 : decode cX8_count 100 = .ok (.aload_n 0, 1) := by decide +kernel
theorem dX8_count_101 : decode cX8_count 101 = .ok (.iconst 1, 1) := by decide +kernel
theorem dX8_count_102 : decode cX8_count 102 = .ok (.invokevirtual 118, 3) := by decide +kernel
theorem dX8_count_105 : decode cX8_count 105 = .ok (.ireturn, 1) := by decide +kernel
theorem dX8_count_106 : decode cX8_count 106 = .ok (.aload_n 0, 1) := by decide +kernel
theorem dX8_count_107 : decode cX8_count 107 = .ok (.iconst 0, 1) := by decide +kernel
theorem dX8_count_108 : decode cX8_count 108 = .ok (.invokevirtual 118, 3) := by decide +kernel
theorem dX8_count_111 : decode cX8_count 111 = .ok (.ireturn, 1) := by decide +kernel
theorem dX8_count_112 : decode cX8_count 112 = .ok (.aload_n 0, 1) := by decide +kernel
theorem dX8_count_113 : decode cX8_count 113 = .ok (.getfield 25, 3) := by decide +kernel
theorem dX8_count_116 : decode cX8_count 116 = .ok (.ireturn, 1) := by decide +kernel
theorem dX8_count_117 : decode cX8_count 117 = .ok (.aload_n 0, 1) := by decide +kernel
theorem dX8_count_118 : decode cX8_count 118 = .ok (.getfield 122, 3) := by decide +kernel
theorem dX8_count_121 : decode cX8_count 121 = .ok (.ireturn, 1) := by decide +kernel
theorem dX8_count_122 : decode cX8_count 122 = .ok (.aload_n 0, 1) := by decide +kernel
theorem dX8_count_123 : decode cX8_count 123 = .ok (.getfield 125, 3) := by decide +kernel
theorem dX8_count_126 : decode cX8_count 126 = .ok (.ifCond .eq 7, 3) := by decide +kernel
theorem dX8_count_129 : decode cX8_count 129 = .ok (.iconst 1, 1) := by decide +kernel
theorem dX8_count_130 : decode cX8_count 130 = .ok (.goto 4, 3) := by decide +kernel
theorem dX8_count_133 : decode cX8_count 133 = .ok (.iconst 0, 1) := by decide +kernel
theorem dX8_count_134 : decode cX8_count 134 = .ok (.ireturn, 1) := by decide +kernel
theorem dX8_count_135 : decode cX8_count 135 = .ok (.iload_n 1, 1) := by decide +kernel
theorem dX8_count_136 : decode cX8_count 136 = .ok (.bipush 20, 2) := by decide +kernel
theorem dX8_count_138 : decode cX8_count 138 = .ok (.bipush 21, 2) := by decide +kernel
theorem dX8_count_140 : decode cX8_count 140 = .ok (.invokestatic 56, 3) := by decide +kernel
theorem dX8_count_143 : decode cX8_count 143 = .ok (.ifCond .eq 17, 3) := by decide +kernel
theorem dX8_count_146 : decode cX8_count 146 = .ok (.aload_n 0, 1) := by decide +kernel
theorem dX8_count_147 : decode cX8_count 147 = .ok (.getfield 7, 3) := by decide +kernel
theorem dX8_count_150 : decode cX8_count 150 = .ok (.iconst 5, 1) := by decide +kernel
theorem dX8_count_151 : decode cX8_count 151 = .ok (.iload_n 1, 1) := by decide +kernel
theorem dX8_count_152 : decode cX8_count 152 = .ok (.iadd, 1) := by decide +kernel
theorem dX8_count_153 : decode cX8_count 153 = .ok (.bipush 20, 2) := by decide +kernel
theorem dX8_count_155 : decode cX8_count 155 = .ok (.isub, 1) := by decide +kernel
theorem dX8_count_156 : decode cX8_count 156 = .ok (.iaload, 1) := by decide +kernel
theorem dX8_count_157 : decode cX8_count 157 = .ok (.goto 6, 3) := by decide +kernel
theorem dX8_count_160 : decode cX8_count 160 = .ok (.sipush (-1001), 3) := by decide +kernel
theorem dX8_count_163 : decode cX8_count 163 = .ok (.ireturn, 1) := by decide +kernel
set_option maxRecDepth 20000 in
theorem ggX8_composed_X8_in : GoodIn wsX8_composed wsX8_in := goodIn_r _ [6] (by decide +kernel) (by decide +kernel)
set_option maxRecDepth 20000 in
theorem gX8_composed_X8_in : GoodIn wsX8_composed (va_wsS RX8 56 yX8_in wsX8_in) := goodIn_app (goodIn_of _ (by decide +kernel)) ggX8_composed_X8_in
set_option maxRecDepth 20000 in
theorem ggX8_composed_X8_areDrawn : GoodIn wsX8_composed wsX8_areDrawn := goodIn_r _ [10, 11, 12, 13, 5, 14, 15, 41, 42, 43, 44, 45, 46, 47, 48, 49, 50, 51, 52, 53] (by decide +kernel) (by decide +kernel)
set_option maxRecDepth 20000 in
theorem gX8_composed_X8_areDrawn : GoodIn wsX8_composed (wsV RX8 72 RX8 yX8_areDrawn wsX8_areDrawn) := goodIn_app (goodIn_of _ (by decide +kernel)) ggX8_composed_X8_areDrawn
set_option maxRecDepth 20000 in
theorem ggX8_composed_X8_drawn : GoodIn wsX8_composed wsX8_drawn := goodIn_r _ [14, 15, 41, 42, 43, 44, 45, 46, 47, 48, 49, 50, 51, 52, 53] (by decide +kernel) (by decide +kernel)
set_option maxRecDepth 20000 in
theorem gX8_composed_X8_drawn : GoodIn wsX8_composed (wsV RX8 29 RX8 yX8_drawn wsX8_drawn) := goodIn_app (goodIn_of _ (by decide +kernel)) ggX8_composed_X8_drawn
set_option maxRecDepth 20000 in
theorem ggX8_composed_X8_turned : GoodIn wsX8_composed wsX8_turned := goodIn_r _ [18] (by decide +kernel) (by decide +kernel)
set_option maxRecDepth 20000 in
theorem gX8_composed_X8_turned : GoodIn wsX8_composed (va_wsS RX8 36 yX8_turned wsX8_turned) := goodIn_app (goodIn_of _ (by decide +kernel)) ggX8_composed_X8_turned
set_option maxRecDepth 20000 in
theorem ggX8_composed_X8_dark : GoodIn wsX8_composed wsX8_dark := goodIn_r _ [21] (by decide +kernel) (by decide +kernel)
set_option maxRecDepth 20000 in
theorem gX8_composed_X8_dark : GoodIn wsX8_composed (va_wsS RX8 33 yX8_dark wsX8_dark) := goodIn_app (goodIn_of _ (by decide +kernel)) ggX8_composed_X8_dark
set_option maxRecDepth 20000 in
theorem ggX8_composed_X8_composes : GoodIn wsX8_composed wsX8_composes := goodIn_r _ [25, 1, 2, 11, 12, 13, 5, 14, 15, 16, 17, 18, 26, 27, 28, 29, 30, 31, 32, 33, 19, 20, 21, 34, 35, 36, 37, 41, 42, 43, 44, 45, 46, 47, 48, 49, 50, 51, 52, 53] (by decide +kernel) (by decide +kernel)
set_option maxRecDepth 20000 in
theorem gX8_composed_X8_composes : GoodIn wsX8_composed (wsV RX8 76 RX8 yX8_composes wsX8_composes) := goodIn_app (goodIn_of _ (by decide +kernel)) ggX8_composed_X8_composes
set_option maxRecDepth 20000 in
theorem ggX8_composed_X8_orNone : GoodIn wsX8_composed wsX8_orNone := goodIn_r _ [40] (by decide +kernel) (by decide +kernel)
set_option maxRecDepth 20000 in
theorem gX8_composed_X8_orNone : GoodIn wsX8_composed (va_wsS RX8 105 yX8_orNone wsX8_orNone) := goodIn_app (goodIn_of _ (by decide +kernel)) ggX8_composed_X8_orNone
theorem dX8_composed_0 : decode cX8_composed 0 = .ok (.iload_n 1, 1) := by decide +kernel
theorem dX8_composed_1 : decode cX8_composed 1 = .ok (.iconst 0, 1) := by decide +kernel
theorem dX8_composed_2 : decode cX8_composed 2 = .ok (.bipush 9, 2) := by decide +kernel
theorem dX8_composed_4 : decode cX8_composed 4 = .ok (.invokestatic 56, 3) := by decide +kernel
theorem dX8_composed_7 : decode cX8_composed 7 = .ok (.ifCond .eq 22, 3) := by decide +kernel
theorem dX8_composed_10 : decode cX8_composed 10 = .ok (.iload_n 2, 1) := by decide +kernel
theorem dX8_composed_11 : decode cX8_composed 11 = .ok (.iconst 0, 1) := by decide +kernel
theorem dX8_composed_12 : decode cX8_composed 12 = .ok (.bipush 9, 2) := by decide +kernel
theorem dX8_composed_14 : decode cX8_composed 14 = .ok (.invokestatic 56, 3) := by decide +kernel
theorem dX8_composed_17 : decode cX8_composed 17 = .ok (.ifCond .eq 12, 3) := by decide +kernel
end
section
theorem dX8_composed_20 : decode cX8_composed 20 = .ok (.iload_n 3, 1) := by decide +kernel
theorem dX8_composed_21 : decode cX8_composed 21 = .ok (.iconst 0, 1) := by decide +kernel
theorem dX8_composed_22 : decode cX8_composed 22 = .ok (.iconst 2, 1) := by decide +kernel
theorem dX8_composed_23 : decode cX8_composed 23 = .ok (.invokestatic 56, 3) := by decide +kernel
theorem dX8_composed_26 : decode cX8_composed 26 = .ok (.ifCond .ne 7, 3) := by decide +kernel
theorem dX8_composed_29 : decode cX8_composed 29 = .ok (.sipush (-1001), 3) := by decide +kernel
theorem dX8_composed_32 : decode cX8_composed 32 = .ok (.ireturn, 1) := by decide +kernel
theorem dX8_composed_33 : decode cX8_composed 33 = .ok (.aload_n 0, 1) := by decide +kernel
theorem dX8_composed_34 : decode cX8_composed 34 = .ok (.iload_n 1, 1) := by decide +kernel
theorem dX8_composed_35 : decode cX8_composed 35 = .ok (.iload_n 2, 1) := by decide +kernel
theorem dX8_composed_36 : decode cX8_composed 36 = .ok (.invokevirtual 72, 3) := by decide +kernel
theorem dX8_composed_39 : decode cX8_composed 39 = .ok (.ifCond .ne 7, 3) := by decide +kernel
theorem dX8_composed_42 : decode cX8_composed 42 = .ok (.sipush (-1002), 3) := by decide +kernel
theorem dX8_composed_45 : decode cX8_composed 45 = .ok (.ireturn, 1) := by decide +kernel
theorem dX8_composed_46 : decode cX8_composed 46 = .ok (.iload_n 3, 1) := by decide +kernel
theorem dX8_composed_47 : decode cX8_composed 47 = .ok (.iconst 2, 1) := by decide +kernel
theorem dX8_composed_48 : decode cX8_composed 48 = .ok (.if_icmp .ne 21, 3) := by decide +kernel
theorem dX8_composed_51 : decode cX8_composed 51 = .ok (.aload_n 0, 1) := by decide +kernel
theorem dX8_composed_52 : decode cX8_composed 52 = .ok (.iload_n 1, 1) := by decide +kernel
theorem dX8_composed_53 : decode cX8_composed 53 = .ok (.invokevirtual 29, 3) := by decide +kernel
theorem dX8_composed_56 : decode cX8_composed 56 = .ok (.aload_n 0, 1) := by decide +kernel
theorem dX8_composed_57 : decode cX8_composed 57 = .ok (.iload_n 2, 1) := by decide +kernel
theorem dX8_composed_58 : decode cX8_composed 58 = .ok (.invokevirtual 29, 3) := by decide +kernel
theorem dX8_composed_61 : decode cX8_composed 61 = .ok (.invokestatic 36, 3) := by decide +kernel
theorem dX8_composed_64 : decode cX8_composed 64 = .ok (.ixor, 1) := by decide +kernel
theorem dX8_composed_65 : decode cX8_composed 65 = .ok (.invokestatic 33, 3) := by decide +kernel
theorem dX8_composed_68 : decode cX8_composed 68 = .ok (.ireturn, 1) := by decide +kernel
theorem dX8_composed_69 : decode cX8_composed 69 = .ok (.aload_n 0, 1) := by decide +kernel
theorem dX8_composed_70 : decode cX8_composed 70 = .ok (.iload_n 1, 1) := by decide +kernel
theorem dX8_composed_71 : decode cX8_composed 71 = .ok (.iload_n 2, 1) := by decide +kernel
theorem dX8_composed_72 : decode cX8_composed 72 = .ok (.invokevirtual 76, 3) := by decide +kernel
theorem dX8_composed_75 : decode cX8_composed 75 = .ok (.istore 4, 2) := by decide +kernel
theorem dX8_composed_77 : decode cX8_composed 77 = .ok (.iload_n 3, 1) := by decide +kernel
theorem dX8_composed_78 : decode cX8_composed 78 = .ok (.ifCond .ne 10, 3) := by decide +kernel
theorem dX8_composed_81 : decode cX8_composed 81 = .ok (.aload_n 0, 1) := by decide +kernel
theorem dX8_composed_82 : decode cX8_composed 82 = .ok (.getfield 39, 3) := by decide +kernel
theorem dX8_composed_85 : decode cX8_composed 85 = .ok (.goto 7, 3) := by decide +kernel
theorem dX8_composed_88 : decode cX8_composed 88 = .ok (.aload_n 0, 1) := by decide +kernel
theorem dX8_composed_89 : decode cX8_composed 89 = .ok (.getfield 42, 3) := by decide +kernel
theorem dX8_composed_92 : decode cX8_composed 92 = .ok (.invokestatic 105, 3) := by decide +kernel
theorem dX8_composed_95 : decode cX8_composed 95 = .ok (.ireturn, 1) := by decide +kernel
set_option maxRecDepth 20000 in
theorem ggX8_goesWith_X8_in : GoodIn wsX8_goesWith wsX8_in := goodIn_r _ [5] (by decide +kernel) (by decide +kernel)
set_option maxRecDepth 20000 in
theorem gX8_goesWith_X8_in : GoodIn wsX8_goesWith (va_wsS RX8 56 yX8_in wsX8_in) := goodIn_app (goodIn_of _ (by decide +kernel)) ggX8_goesWith_X8_in
set_option maxRecDepth 20000 in
theorem ggX8_goesWith_X8_drawn : GoodIn wsX8_goesWith wsX8_drawn := goodIn_r _ [9, 10, 37, 38, 39, 40, 41, 42, 43, 44, 45, 46, 47, 48, 49] (by decide +kernel) (by decide +kernel)
set_option maxRecDepth 20000 in
theorem gX8_goesWith_X8_drawn : GoodIn wsX8_goesWith (wsV RX8 29 RX8 yX8_drawn wsX8_drawn) := goodIn_app (goodIn_of _ (by decide +kernel)) ggX8_goesWith_X8_drawn
set_option maxRecDepth 20000 in
theorem ggX8_goesWith_X8_composes : GoodIn wsX8_goesWith wsX8_composes := goodIn_r _ [14, 15, 1, 6, 7, 8, 4, 9, 10, 16, 17, 18, 19, 20, 21, 22, 23, 24, 25, 26, 27, 28, 29, 30, 31, 32, 33, 37, 38, 39, 40, 41, 42, 43, 44, 45, 46, 47, 48, 49] (by decide +kernel) (by decide +kernel)
set_option maxRecDepth 20000 in
theorem gX8_goesWith_X8_composes : GoodIn wsX8_goesWith (wsV RX8 76 RX8 yX8_composes wsX8_composes) := goodIn_app (goodIn_of _ (by decide +kernel)) ggX8_goesWith_X8_composes
set_option maxRecDepth 20000 in
theorem ggX8_goesWith_X8_orNone : GoodIn wsX8_goesWith wsX8_orNone := goodIn_r _ [36] (by decide +kernel) (by decide +kernel)
set_option maxRecDepth 20000 in
theorem gX8_goesWith_X8_orNone : GoodIn wsX8_goesWith (va_wsS RX8 105 yX8_orNone wsX8_orNone) := goodIn_app (goodIn_of _ (by decide +kernel)) ggX8_goesWith_X8_orNone
theorem dX8_goesWith_0 : decode cX8_goesWith 0 = .ok (.iload_n 1, 1) := by decide +kernel
theorem dX8_goesWith_1 : decode cX8_goesWith 1 = .ok (.iconst 0, 1) := by decide +kernel
theorem dX8_goesWith_2 : decode cX8_goesWith 2 = .ok (.bipush 9, 2) := by decide +kernel
theorem dX8_goesWith_4 : decode cX8_goesWith 4 = .ok (.invokestatic 56, 3) := by decide +kernel
theorem dX8_goesWith_7 : decode cX8_goesWith 7 = .ok (.ifCond .ne 7, 3) := by decide +kernel
theorem dX8_goesWith_10 : decode cX8_goesWith 10 = .ok (.sipush (-1001), 3) := by decide +kernel
theorem dX8_goesWith_13 : decode cX8_goesWith 13 = .ok (.ireturn, 1) := by decide +kernel
theorem dX8_goesWith_14 : decode cX8_goesWith 14 = .ok (.aload_n 0, 1) := by decide +kernel
theorem dX8_goesWith_15 : decode cX8_goesWith 15 = .ok (.iload_n 1, 1) := by decide +kernel
theorem dX8_goesWith_16 : decode cX8_goesWith 16 = .ok (.invokevirtual 29, 3) := by decide +kernel
theorem dX8_goesWith_19 : decode cX8_goesWith 19 = .ok (.ifCond .ge 7, 3) := by decide +kernel
theorem dX8_goesWith_22 : decode cX8_goesWith 22 = .ok (.sipush (-1002), 3) := by decide +kernel
theorem dX8_goesWith_25 : decode cX8_goesWith 25 = .ok (.ireturn, 1) := by decide +kernel
theorem dX8_goesWith_26 : decode cX8_goesWith 26 = .ok (.iconst (-1), 1) := by decide +kernel
theorem dX8_goesWith_27 : decode cX8_goesWith 27 = .ok (.istore_n 2, 1) := by decide +kernel
theorem dX8_goesWith_28 : decode cX8_goesWith 28 = .ok (.iconst (-1), 1) := by decide +kernel
theorem dX8_goesWith_29 : decode cX8_goesWith 29 = .ok (.istore_n 3, 1) := by decide +kernel
theorem dX8_goesWith_30 : decode cX8_goesWith 30 = .ok (.iconst 0, 1) := by decide +kernel
theorem dX8_goesWith_31 : decode cX8_goesWith 31 = .ok (.istore 4, 2) := by decide +kernel
theorem dX8_goesWith_33 : decode cX8_goesWith 33 = .ok (.iload 4, 2) := by decide +kernel
theorem dX8_goesWith_35 : decode cX8_goesWith 35 = .ok (.bipush 10, 2) := by decide +kernel
theorem dX8_goesWith_37 : decode cX8_goesWith 37 = .ok (.if_icmp .ge 44, 3) := by decide +kernel
theorem dX8_goesWith_40 : decode cX8_goesWith 40 = .ok (.aload_n 0, 1) := by decide +kernel
theorem dX8_goesWith_41 : decode cX8_goesWith 41 = .ok (.iload 4, 2) := by decide +kernel
theorem dX8_goesWith_43 : decode cX8_goesWith 43 = .ok (.invokevirtual 29, 3) := by decide +kernel
theorem dX8_goesWith_46 : decode cX8_goesWith 46 = .ok (.ifCond .lt 29, 3) := by decide +kernel
theorem dX8_goesWith_49 : decode cX8_goesWith 49 = .ok (.aload_n 0, 1) := by decide +kernel
theorem dX8_goesWith_50 : decode cX8_goesWith 50 = .ok (.iload_n 1, 1) := by decide +kernel
theorem dX8_goesWith_51 : decode cX8_goesWith 51 = .ok (.iload 4, 2) := by decide +kernel
theorem dX8_goesWith_53 : decode cX8_goesWith 53 = .ok (.invokevirtual 76, 3) := by decide +kernel
theorem dX8_goesWith_56 : decode cX8_goesWith 56 = .ok (.ifCond .eq 19, 3) := by decide +kernel
theorem dX8_goesWith_59 : decode cX8_goesWith 59 = .ok (.aload_n 0, 1) := by decide +kernel
theorem dX8_goesWith_60 : decode cX8_goesWith 60 = .ok (.getfield 42, 3) := by decide +kernel
theorem dX8_goesWith_63 : decode cX8_goesWith 63 = .ok (.iload_n 3, 1) := by decide +kernel
theorem dX8_goesWith_64 : decode cX8_goesWith 64 = .ok (.if_icmp .le 11, 3) := by decide +kernel
theorem dX8_goesWith_67 : decode cX8_goesWith 67 = .ok (.iload 4, 2) := by decide +kernel
theorem dX8_goesWith_69 : decode cX8_goesWith 69 = .ok (.istore_n 2, 1) := by decide +kernel
theorem dX8_goesWith_70 : decode cX8_goesWith 70 = .ok (.aload_n 0, 1) := by decide +kernel
theorem dX8_goesWith_71 : decode cX8_goesWith 71 = .ok (.getfield 42, 3) := by decide +kernel
theorem dX8_goesWith_74 : decode cX8_goesWith 74 = .ok (.istore_n 3, 1) := by decide +kernel
theorem dX8_goesWith_75 : decode cX8_goesWith 75 = .ok (.iinc 4 1, 3) := by decide +kernel
theorem dX8_goesWith_78 : decode cX8_goesWith 78 = .ok (.goto (-45), 3) := by decide +kernel
theorem dX8_goesWith_81 : decode cX8_goesWith 81 = .ok (.iload_n 2, 1) := by decide +kernel
theorem dX8_goesWith_82 : decode cX8_goesWith 82 = .ok (.invokestatic 105, 3) := by decide +kernel
theorem dX8_goesWith_85 : decode cX8_goesWith 85 = .ok (.ireturn, 1) := by decide +kernel
set_option maxRecDepth 20000 in
theorem ggX8_quality_X8_wanted : GoodIn wsX8_quality wsX8_wanted := goodIn_r _ [6, 1, 41, 42, 43, 44, 45, 46, 47, 48, 49, 50, 51, 52, 53] (by decide +kernel) (by decide +kernel)
set_option maxRecDepth 20000 in
theorem gX8_quality_X8_wanted : GoodIn wsX8_quality (wsV RX8 69 RX8 yX8_wanted wsX8_wanted) := goodIn_app (goodIn_of _ (by decide +kernel)) ggX8_quality_X8_wanted
set_option maxRecDepth 20000 in
theorem ggX8_quality_X8_drawn : GoodIn wsX8_quality wsX8_drawn := goodIn_r _ [10, 1, 41, 42, 43, 44, 45, 46, 47, 48, 49, 50, 51, 52, 53] (by decide +kernel) (by decide +kernel)
set_option maxRecDepth 20000 in
theorem gX8_quality_X8_drawn : GoodIn wsX8_quality (wsV RX8 29 RX8 yX8_drawn wsX8_drawn) := goodIn_app (goodIn_of _ (by decide +kernel)) ggX8_quality_X8_drawn
set_option maxRecDepth 20000 in
theorem ggX8_quality_X8_signBy : GoodIn wsX8_quality wsX8_signBy := goodIn_r _ [14, 15, 16, 17, 5, 18, 1, 19, 20, 21, 41, 42, 43, 44, 45, 46, 47, 48, 49, 50, 51, 52, 53] (by decide +kernel) (by decide +kernel)
set_option maxRecDepth 20000 in
theorem gX8_quality_X8_signBy : GoodIn wsX8_quality (wsV RX8 66 RX8 yX8_signBy wsX8_signBy) := goodIn_app (goodIn_of _ (by decide +kernel)) ggX8_quality_X8_signBy
set_option maxRecDepth 20000 in
theorem ggX8_quality_X8_margin : GoodIn wsX8_quality wsX8_margin := goodIn_r _ [25, 7, 8, 9, 5, 10, 1, 26, 27, 28, 41, 42, 43, 44, 45, 46, 47, 48, 49, 50, 51, 52, 53] (by decide +kernel) (by decide +kernel)
set_option maxRecDepth 20000 in
theorem gX8_quality_X8_margin : GoodIn wsX8_quality (wsV RX8 52 RX8 yX8_margin wsX8_margin) := goodIn_app (goodIn_of _ (by decide +kernel)) ggX8_quality_X8_margin
set_option maxRecDepth 20000 in
theorem ggX8_quality_Jxf58ca_floatToIntBits_5c35a : GoodIn wsX8_quality wsJxf58ca_floatToIntBits_5c35a := goodIn_r _ [32, 33, 34, 35, 36, 37, 38, 39, 31, 40] (by decide +kernel) (by decide +kernel)
set_option maxRecDepth 20000 in
theorem gX8_quality_Jxf58ca_floatToIntBits_5c35a : GoodIn wsX8_quality (va_wsS RX8 129 yJxf58ca_floatToIntBits_5c35a wsJxf58ca_floatToIntBits_5c35a) := goodIn_app (goodIn_of _ (by decide +kernel)) ggX8_quality_Jxf58ca_floatToIntBits_5c35a
theorem dX8_quality_0 : decode cX8_quality 0 = .ok (.aload_n 0, 1) := by decide +kernel
theorem dX8_quality_1 : decode cX8_quality 1 = .ok (.getfield 7, 3) := by decide +kernel
theorem dX8_quality_4 : decode cX8_quality 4 = .ok (.iconst 0, 1) := by decide +kernel
theorem dX8_quality_5 : decode cX8_quality 5 = .ok (.iaload, 1) := by decide +kernel
theorem dX8_quality_6 : decode cX8_quality 6 = .ok (.ifCond .ne 7, 3) := by decide +kernel
theorem dX8_quality_9 : decode cX8_quality 9 = .ok (.sipush (-1004), 3) := by decide +kernel
theorem dX8_quality_12 : decode cX8_quality 12 = .ok (.ireturn, 1) := by decide +kernel
theorem dX8_quality_13 : decode cX8_quality 13 = .ok (.iconst 0, 1) := by decide +kernel
theorem dX8_quality_14 : decode cX8_quality 14 = .ok (.istore_n 1, 1) := by decide +kernel
theorem dX8_quality_15 : decode cX8_quality 15 = .ok (.iconst 0, 1) := by decide +kernel
theorem dX8_quality_16 : decode cX8_quality 16 = .ok (.istore_n 2, 1) := by decide +kernel
theorem dX8_quality_17 : decode cX8_quality 17 = .ok (.iload_n 2, 1) := by decide +kernel
theorem dX8_quality_18 : decode cX8_quality 18 = .ok (.iconst 2, 1) := by decide +kernel
theorem dX8_quality_19 : decode cX8_quality 19 = .ok (.aload_n 0, 1) := by decide +kernel
theorem dX8_quality_20 : decode cX8_quality 20 = .ok (.getfield 7, 3) := by decide +kernel
theorem dX8_quality_23 : decode cX8_quality 23 = .ok (.iconst 0, 1) := by decide +kernel
theorem dX8_quality_24 : decode cX8_quality 24 = .ok (.iaload, 1) := by decide +kernel
theorem dX8_quality_25 : decode cX8_quality 25 = .ok (.imul, 1) := by decide +kernel
theorem dX8_quality_26 : decode cX8_quality 26 = .ok (.if_icmp .ge 50, 3) := by decide +kernel
theorem dX8_quality_29 : decode cX8_quality 29 = .ok (.aload_n 0, 1) := by decide +kernel
theorem dX8_quality_30 : decode cX8_quality 30 = .ok (.iload_n 2, 1) := by decide +kernel
theorem dX8_quality_31 : decode cX8_quality 31 = .ok (.iconst 2, 1) := by decide +kernel
theorem dX8_quality_32 : decode cX8_quality 32 = .ok (.idiv, 1) := by decide +kernel
theorem dX8_quality_33 : decode cX8_quality 33 = .ok (.iload_n 2, 1) := by decide +kernel
theorem dX8_quality_34 : decode cX8_quality 34 = .ok (.iconst 2, 1) := by decide +kernel
theorem dX8_quality_35 : decode cX8_quality 35 = .ok (.irem, 1) := by decide +kernel
theorem dX8_quality_36 : decode cX8_quality 36 = .ok (.invokevirtual 69, 3) := by decide +kernel
theorem dX8_quality_39 : decode cX8_quality 39 = .ok (.istore_n 3, 1) := by decide +kernel
theorem dX8_quality_40 : decode cX8_quality 40 = .ok (.iload_n 1, 1) := by decide +kernel
theorem dX8_quality_41 : decode cX8_quality 41 = .ok (.aload_n 0, 1) := by decide +kernel
theorem dX8_quality_42 : decode cX8_quality 42 = .ok (.iload_n 3, 1) := by decide +kernel
theorem dX8_quality_43 : decode cX8_quality 43 = .ok (.invokevirtual 29, 3) := by decide +kernel
theorem dX8_quality_46 : decode cX8_quality 46 = .ok (.ifCond .ge 7, 3) := by decide +kernel
theorem dX8_quality_49 : decode cX8_quality 49 = .ok (.iconst 0, 1) := by decide +kernel
theorem dX8_quality_50 : decode cX8_quality 50 = .ok (.goto 18, 3) := by decide +kernel
theorem dX8_quality_53 : decode cX8_quality 53 = .ok (.aload_n 0, 1) := by decide +kernel
theorem dX8_quality_54 : decode cX8_quality 54 = .ok (.aload_n 0, 1) := by decide +kernel
theorem dX8_quality_55 : decode cX8_quality 55 = .ok (.iload_n 2, 1) := by decide +kernel
theorem dX8_quality_56 : decode cX8_quality 56 = .ok (.iconst 2, 1) := by decide +kernel
theorem dX8_quality_57 : decode cX8_quality 57 = .ok (.idiv, 1) := by decide +kernel
theorem dX8_quality_58 : decode cX8_quality 58 = .ok (.iload_n 2, 1) := by decide +kernel
theorem dX8_quality_59 : decode cX8_quality 59 = .ok (.iconst 2, 1) := by decide +kernel
theorem dX8_quality_60 : decode cX8_quality 60 = .ok (.irem, 1) := by decide +kernel
theorem dX8_quality_61 : decode cX8_quality 61 = .ok (.invokevirtual 66, 3) := by decide +kernel
theorem dX8_quality_64 : decode cX8_quality 64 = .ok (.iload_n 3, 1) := by decide +kernel
theorem dX8_quality_65 : decode cX8_quality 65 = .ok (.invokevirtual 52, 3) := by decide +kernel
theorem dX8_quality_68 : decode cX8_quality 68 = .ok (.iadd, 1) := by decide +kernel
theorem dX8_quality_69 : decode cX8_quality 69 = .ok (.istore_n 1, 1) := by decide +kernel
theorem dX8_quality_70 : decode cX8_quality 70 = .ok (.iinc 2 1, 3) := by decide +kernel
theorem dX8_quality_73 : decode cX8_quality 73 = .ok (.goto (-56), 3) := by decide +kernel
theorem dX8_quality_76 : decode cX8_quality 76 = .ok (.iload_n 1, 1) := by decide +kernel
theorem dX8_quality_77 : decode cX8_quality 77 = .ok (.i2f, 1) := by decide +kernel
theorem dX8_quality_78 : decode cX8_quality 78 = .ok (.fstore_n 2, 1) := by decide +kernel
theorem dX8_quality_79 : decode cX8_quality 79 = .ok (.iconst 2, 1) := by decide +kernel
theorem dX8_quality_80 : decode cX8_quality 80 = .ok (.aload_n 0, 1) := by decide +kernel
theorem dX8_quality_81 : decode cX8_quality 81 = .ok (.getfield 7, 3) := by decide +kernel
theorem dX8_quality_84 : decode cX8_quality 84 = .ok (.iconst 0, 1) := by decide +kernel
theorem dX8_quality_85 : decode cX8_quality 85 = .ok (.iaload, 1) := by decide +kernel
theorem dX8_quality_86 : decode cX8_quality 86 = .ok (.imul, 1) := by decide +kernel
theorem dX8_quality_87 : decode cX8_quality 87 = .ok (.i2f, 1) := by decide +kernel
theorem dX8_quality_88 : decode cX8_quality 88 = .ok (.fstore_n 3, 1) := by decide +kernel
theorem dX8_quality_89 : decode cX8_quality 89 = .ok (.fload_n 2, 1) := by decide +kernel
theorem dX8_quality_90 : decode cX8_quality 90 = .ok (.fload_n 3, 1) := by decide +kernel
theorem dX8_quality_91 : decode cX8_quality 91 = .ok (.fdiv, 1) := by decide +kernel
theorem dX8_quality_92 : decode cX8_quality 92 = .ok (.invokestatic 129, 3) := by decide +kernel
theorem dX8_quality_95 : decode cX8_quality 95 = .ok (.ireturn, 1) := by decide +kernel
set_option maxRecDepth 20000 in
theorem ggX8_bareIn_X8_fades : GoodIn wsX8_bareIn wsX8_fades := goodIn_r _ [6, 1, 7, 8, 9, 5, 10, 11, 12, 13, 14, 15, 16, 17, 21, 22, 23, 24, 25, 26, 27, 28, 29, 30, 31, 32, 33] (by decide +kernel) (by decide +kernel)
set_option maxRecDepth 20000 in
theorem gX8_bareIn_X8_fades : GoodIn wsX8_bareIn (wsV RX8 96 RX8 yX8_fades wsX8_fades) := goodIn_app (goodIn_of _ (by decide +kernel)) ggX8_bareIn_X8_fades
set_option maxRecDepth 20000 in
theorem ggX8_bareIn_X8_coats : GoodIn wsX8_bareIn wsX8_coats := goodIn_r _ [14, 1, 21, 22, 23, 24, 25, 26, 27, 28, 29, 30, 31, 32, 33] (by decide +kernel) (by decide +kernel)
set_option maxRecDepth 20000 in
theorem gX8_bareIn_X8_coats : GoodIn wsX8_bareIn (wsV RX8 63 RX8 yX8_coats wsX8_coats) := goodIn_app (goodIn_of _ (by decide +kernel)) ggX8_bareIn_X8_coats
set_option maxRecDepth 20000 in
theorem ggX8_bareIn_X8_orNone : GoodIn wsX8_bareIn wsX8_orNone := goodIn_r _ [20] (by decide +kernel) (by decide +kernel)
set_option maxRecDepth 20000 in
theorem gX8_bareIn_X8_orNone : GoodIn wsX8_bareIn (va_wsS RX8 105 yX8_orNone wsX8_orNone) := goodIn_app (goodIn_of _ (by decide +kernel)) ggX8_bareIn_X8_orNone
theorem dX8_bareIn_0 : decode cX8_bareIn 0 = .ok (.iconst (-1), 1) := by decide +kernel
theorem dX8_bareIn_1 : decode cX8_bareIn 1 = .ok (.istore_n 1, 1) := by decide +kernel
theorem dX8_bareIn_2 : decode cX8_bareIn 2 = .ok (.iconst 0, 1) := by decide +kernel
theorem dX8_bareIn_3 : decode cX8_bareIn 3 = .ok (.istore_n 2, 1) := by decide +kernel
theorem dX8_bareIn_4 : decode cX8_bareIn 4 = .ok (.iload_n 2, 1) := by decide +kernel
theorem dX8_bareIn_5 : decode cX8_bareIn 5 = .ok (.aload_n 0, 1) := by decide +kernel
theorem dX8_bareIn_6 : decode cX8_bareIn 6 = .ok (.getfield 7, 3) := by decide +kernel
theorem dX8_bareIn_9 : decode cX8_bareIn 9 = .ok (.iconst 0, 1) := by decide +kernel
theorem dX8_bareIn_10 : decode cX8_bareIn 10 = .ok (.iaload, 1) := by decide +kernel
theorem dX8_bareIn_11 : decode cX8_bareIn 11 = .ok (.if_icmp .ge 40, 3) := by decide +kernel
theorem dX8_bareIn_14 : decode cX8_bareIn 14 = .ok (.aload_n 0, 1) := by decide +kernel
theorem dX8_bareIn_15 : decode cX8_bareIn 15 = .ok (.iload_n 2, 1) := by decide +kernel
theorem dX8_bareIn_16 : decode cX8_bareIn 16 = .ok (.invokevirtual 96, 3) := by decide +kernel
theorem dX8_bareIn_19 : decode cX8_bareIn 19 = .ok (.ifCond .eq 24, 3) := by decide +kernel
theorem dX8_bareIn_22 : decode cX8_bareIn 22 = .ok (.iload_n 1, 1) := by decide +kernel
theorem dX8_bareIn_23 : decode cX8_bareIn 23 = .ok (.ifCond .lt 12, 3) := by decide +kernel
theorem dX8_bareIn_26 : decode cX8_bareIn 26 = .ok (.aload_n 0, 1) := by decide +kernel
theorem dX8_bareIn_27 : decode cX8_bareIn 27 = .ok (.iload_n 2, 1) := by decide +kernel
theorem dX8_bareIn_28 : decode cX8_bareIn 28 = .ok (.invokevirtual 63, 3) := by decide +kernel
theorem dX8_bareIn_31 : decode cX8_bareIn 31 = .ok (.iload_n 1, 1) := by decide +kernel
theorem dX8_bareIn_32 : decode cX8_bareIn 32 = .ok (.if_icmp .ge 11, 3) := by decide +kernel
theorem dX8_bareIn_35 : decode cX8_bareIn 35 = .ok (.aload_n 0, 1) := by decide +kernel
theorem dX8_bareIn_36 : decode cX8_bareIn 36 = .ok (.iload_n 2, 1) := by decide +kernel
theorem dX8_bareIn_37 : decode cX8_bareIn 37 = .ok (.invokevirtual 63, 3) := by decide +kernel
theorem dX8_bareIn_40 : decode cX8_bareIn 40 = .ok (.goto 4, 3) := by decide +kernel
theorem dX8_bareIn_43 : decode cX8_bareIn 43 = .ok (.iload_n 1, 1) := by decide +kernel
theorem dX8_bareIn_44 : decode cX8_bareIn 44 = .ok (.istore_n 1, 1) := by decide +kernel
theorem dX8_bareIn_45 : decode cX8_bareIn 45 = .ok (.iinc 2 1, 3) := by decide +kernel
theorem dX8_bareIn_48 : decode cX8_bareIn 48 = .ok (.goto (-44), 3) := by decide +kernel
theorem dX8_bareIn_51 : decode cX8_bareIn 51 = .ok (.iload_n 1, 1) := by decide +kernel
theorem dX8_bareIn_52 : decode cX8_bareIn 52 = .ok (.invokestatic 105, 3) := by decide +kernel
theorem dX8_bareIn_55 : decode cX8_bareIn 55 = .ok (.ireturn, 1) := by decide +kernel
theorem dX8_keep_0 : decode cX8_keep 0 = .ok (.iconst 0, 1) := by decide +kernel
theorem dX8_keep_1 : decode cX8_keep 1 = .ok (.istore_n 1, 1) := by decide +kernel
theorem dX8_keep_2 : decode cX8_keep 2 = .ok (.iload_n 1, 1) := by decide +kernel
theorem dX8_keep_3 : decode cX8_keep 3 = .ok (.bipush 49, 2) := by decide +kernel
theorem dX8_keep_5 : decode cX8_keep 5 = .ok (.if_icmp .ge 21, 3) := by decide +kernel
theorem dX8_keep_8 : decode cX8_keep 8 = .ok (.aload_n 0, 1) := by decide +kernel
theorem dX8_keep_9 : decode cX8_keep 9 = .ok (.getfield 16, 3) := by decide +kernel
theorem dX8_keep_12 : decode cX8_keep 12 = .ok (.iload_n 1, 1) := by decide +kernel
theorem dX8_keep_13 : decode cX8_keep 13 = .ok (.aload_n 0, 1) := by decide +kernel
theorem dX8_keep_14 : decode cX8_keep 14 = .ok (.getfield 7, 3) := by decide +kernel
theorem dX8_keep_17 : decode cX8_keep 17 = .ok (.iload_n 1, 1) := by decide +kernel
theorem dX8_keep_18 : decode cX8_keep 18 = .ok (.iaload, 1) := by decide +kernel
theorem dX8_keep_19 : decode cX8_keep 19 = .ok (.iastore, 1) := by decide +kernel
theorem dX8_keep_20 : decode cX8_keep 20 = .ok (.iinc 1 1, 3) := by decide +kernel
theorem dX8_keep_23 : decode cX8_keep 23 = .ok (.goto (-21), 3) := by decide +kernel
theorem dX8_keep_26 : decode cX8_keep 26 = .ok (.aload_n 0, 1) := by decide +kernel
theorem dX8_keep_27 : decode cX8_keep 27 = .ok (.iconst 1, 1) := by decide +kernel
theorem dX8_keep_28 : decode cX8_keep 28 = .ok (.putfield 125, 3) := by decide +kernel
theorem dX8_keep_31 : decode cX8_keep 31 = .ok (.aload_n 0, 1) := by decide +kernel
theorem dX8_keep_32 : decode cX8_keep 32 = .ok (.getfield 7, 3) := by decide +kernel
theorem dX8_keep_35 : decode cX8_keep 35 = .ok (.iconst 0, 1) := by decide +kernel
theorem dX8_keep_36 : decode cX8_keep 36 = .ok (.iaload, 1) := by decide +kernel
theorem dX8_keep_37 : decode cX8_keep 37 = .ok (.ireturn, 1) := by decide +kernel
set_option maxRecDepth 20000 in
theorem ggX8_restore_X8_begins : GoodIn wsX8_restore wsX8_begins := goodIn_r _ [8, 9, 2, 16, 17, 18, 19, 20, 21, 22, 23, 24, 25, 26, 27, 28] (by decide +kernel) (by decide +kernel)
set_option maxRecDepth 20000 in
theorem gX8_restore_X8_begins : GoodIn wsX8_restore (wsV RX8 79 RX8 yX8_begins wsX8_begins) := goodIn_app (goodIn_of _ (by decide +kernel)) ggX8_restore_X8_begins
set_option maxRecDepth 20000 in
theorem ggX8_restore_X8_acted : GoodIn wsX8_restore wsX8_acted := goodIn_r _ [13, 2, 9, 14, 15, 16, 17, 18, 19, 20, 21, 22, 23, 24, 25, 26, 27, 28] (by decide +kernel) (by decide +kernel)
set_option maxRecDepth 20000 in
theorem gX8_restore_X8_acted : GoodIn wsX8_restore (wsV RX8 82 RX8 yX8_acted wsX8_acted) := goodIn_app (goodIn_of _ (by decide +kernel)) ggX8_restore_X8_acted
theorem dX8_restore_0 : decode cX8_restore 0 = .ok (.aload_n 0, 1) := by decide +kernel
theorem dX8_restore_1 : decode cX8_restore 1 = .ok (.invokevirtual 79, 3) := by decide +kernel
theorem dX8_restore_4 : decode cX8_restore 4 = .ok (.aload_n 0, 1) := by decide +kernel
theorem dX8_restore_5 : decode cX8_restore 5 = .ok (.getfield 125, 3) := by decide +kernel
theorem dX8_restore_8 : decode cX8_restore 8 = .ok (.ifCond .ne 7, 3) := by decide +kernel
theorem dX8_restore_11 : decode cX8_restore 11 = .ok (.sipush (-1002), 3) := by decide +kernel
theorem dX8_restore_14 : decode cX8_restore 14 = .ok (.ireturn, 1) := by decide +kernel
theorem dX8_restore_15 : decode cX8_restore 15 = .ok (.iconst 0, 1) := by decide +kernel
theorem dX8_restore_16 : decode cX8_restore 16 = .ok (.istore_n 1, 1) := by decide +kernel
theorem dX8_restore_17 : decode cX8_restore 17 = .ok (.iload_n 1, 1) := by decide +kernel
theorem dX8_restore_18 : decode cX8_restore 18 = .ok (.bipush 49, 2) := by decide +kernel
theorem dX8_restore_20 : decode cX8_restore 20 = .ok (.if_icmp .ge 21, 3) := by decide +kernel
theorem dX8_restore_23 : decode cX8_restore 23 = .ok (.aload_n 0, 1) := by decide +kernel
theorem dX8_restore_24 : decode cX8_restore 24 = .ok (.getfield 7, 3) := by decide +kernel
theorem dX8_restore_27 : decode cX8_restore 27 = .ok (.iload_n 1, 1) := by decide +kernel
theorem dX8_restore_28 : decode cX8_restore 28 = .ok (.aload_n 0, 1) := by decide +kernel
theorem dX8_restore_29 : decode cX8_restore 29 = .ok (.getfield 16, 3) := by decide +kernel
theorem dX8_restore_32 : decode cX8_restore 32 = .ok (.iload_n 1, 1) := by decide +kernel
theorem dX8_restore_33 : decode cX8_restore 33 = .ok (.iaload, 1) := by decide +kernel
theorem dX8_restore_34 : decode cX8_restore 34 = .ok (.iastore, 1) := by decide +kernel
theorem dX8_restore_35 : decode cX8_restore 35 = .ok (.iinc 1 1, 3) := by decide +kernel
theorem dX8_restore_38 : decode cX8_restore 38 = .ok (.goto (-21), 3) := by decide +kernel
theorem dX8_restore_41 : decode cX8_restore 41 = .ok (.aload_n 0, 1) := by decide +kernel
theorem dX8_restore_42 : decode cX8_restore 42 = .ok (.aload_n 0, 1) := by decide +kernel
theorem dX8_restore_43 : decode cX8_restore 43 = .ok (.getfield 7, 3) := by decide +kernel
theorem dX8_restore_46 : decode cX8_restore 46 = .ok (.iconst 0, 1) := by decide +kernel
theorem dX8_restore_47 : decode cX8_restore 47 = .ok (.iaload, 1) := by decide +kernel
theorem dX8_restore_48 : decode cX8_restore 48 = .ok (.invokevirtual 82, 3) := by decide +kernel
theorem dX8_restore_51 : decode cX8_restore 51 = .ok (.ireturn, 1) := by decide +kernel
theorem dX8_undo_0 : decode cX8_undo 0 = .ok (.aload_n 0, 1) := by decide +kernel
theorem dX8_undo_1 : decode cX8_undo 1 = .ok (.getfield 25, 3) := by decide +kernel
theorem dX8_undo_4 : decode cX8_undo 4 = .ok (.ifCond .ne 7, 3) := by decide +kernel
theorem dX8_undo_7 : decode cX8_undo 7 = .ok (.sipush (-1002), 3) := by decide +kernel
theorem dX8_undo_10 : decode cX8_undo 10 = .ok (.ireturn, 1) := by decide +kernel
theorem dX8_undo_11 : decode cX8_undo 11 = .ok (.aload_n 0, 1) := by decide +kernel
theorem dX8_undo_12 : decode cX8_undo 12 = .ok (.dup, 1) := by decide +kernel
theorem dX8_undo_13 : decode cX8_undo 13 = .ok (.getfield 25, 3) := by decide +kernel
theorem dX8_undo_16 : decode cX8_undo 16 = .ok (.iconst 1, 1) := by decide +kernel
theorem dX8_undo_17 : decode cX8_undo 17 = .ok (.isub, 1) := by decide +kernel
theorem dX8_undo_18 : decode cX8_undo 18 = .ok (.putfield 25, 3) := by decide +kernel
theorem dX8_undo_21 : decode cX8_undo 21 = .ok (.iconst 0, 1) := by decide +kernel
theorem dX8_undo_22 : decode cX8_undo 22 = .ok (.istore_n 1, 1) := by decide +kernel
theorem dX8_undo_23 : decode cX8_undo 23 = .ok (.iload_n 1, 1) := by decide +kernel
theorem dX8_undo_24 : decode cX8_undo 24 = .ok (.bipush 49, 2) := by decide +kernel
theorem dX8_undo_26 : decode cX8_undo 26 = .ok (.if_icmp .ge 29, 3) := by decide +kernel
theorem dX8_undo_29 : decode cX8_undo 29 = .ok (.aload_n 0, 1) := by decide +kernel
theorem dX8_undo_30 : decode cX8_undo 30 = .ok (.getfield 7, 3) := by decide +kernel
theorem dX8_undo_33 : decode cX8_undo 33 = .ok (.iload_n 1, 1) := by decide +kernel
theorem dX8_undo_34 : decode cX8_undo 34 = .ok (.aload_n 0, 1) := by decide +kernel
theorem dX8_undo_35 : decode cX8_undo 35 = .ok (.getfield 19, 3) := by decide +kernel
theorem dX8_undo_38 : decode cX8_undo 38 = .ok (.bipush 49, 2) := by decide +kernel
theorem dX8_undo_40 : decode cX8_undo 40 = .ok (.aload_n 0, 1) := by decide +kernel
theorem dX8_undo_41 : decode cX8_undo 41 = .ok (.getfield 25, 3) := by decide +kernel
theorem dX8_undo_44 : decode cX8_undo 44 = .ok (.imul, 1) := by decide +kernel
theorem dX8_undo_45 : decode cX8_undo 45 = .ok (.iload_n 1, 1) := by decide +kernel
theorem dX8_undo_46 : decode cX8_undo 46 = .ok (.iadd, 1) := by decide +kernel
theorem dX8_undo_47 : decode cX8_undo 47 = .ok (.iaload, 1) := by decide +kernel
theorem dX8_undo_48 : decode cX8_undo 48 = .ok (.iastore, 1) := by decide +kernel
theorem dX8_undo_49 : decode cX8_undo 49 = .ok (.iinc 1 1, 3) := by decide +kernel
theorem dX8_undo_52 : decode cX8_undo 52 = .ok (.goto (-29), 3) := by decide +kernel
theorem dX8_undo_55 : decode cX8_undo 55 = .ok (.aload_n 0, 1) := by decide +kernel
theorem dX8_undo_56 : decode cX8_undo 56 = .ok (.getfield 25, 3) := by decide +kernel
theorem dX8_undo_59 : decode cX8_undo 59 = .ok (.ireturn, 1) := by decide +kernel
set_option maxRecDepth 20000 in
theorem ggX8_type_X8_in : GoodIn wsX8_type wsX8_in := goodIn_r _ [6] (by decide +kernel) (by decide +kernel)
set_option maxRecDepth 20000 in
theorem gX8_type_X8_in : GoodIn wsX8_type (va_wsS RX8 56 yX8_in wsX8_in) := goodIn_app (goodIn_of _ (by decide +kernel)) ggX8_type_X8_in
theorem dX8_type_0 : decode cX8_type 0 = .ok (.iload_n 1, 1) := by decide +kernel
theorem dX8_type_1 : decode cX8_type 1 = .ok (.bipush 32, 2) := by decide +kernel
theorem dX8_type_3 : decode cX8_type 3 = .ok (.bipush 126, 2) := by decide +kernel
theorem dX8_type_5 : decode cX8_type 5 = .ok (.invokestatic 56, 3) := by decide +kernel
theorem dX8_type_8 : decode cX8_type 8 = .ok (.ifCond .ne 7, 3) := by decide +kernel
theorem dX8_type_11 : decode cX8_type 11 = .ok (.sipush (-1001), 3) := by decide +kernel
theorem dX8_type_14 : decode cX8_type 14 = .ok (.ireturn, 1) := by decide +kernel
theorem dX8_type_15 : decode cX8_type 15 = .ok (.aload_n 0, 1) := by decide +kernel
theorem dX8_type_16 : decode cX8_type 16 = .ok (.getfield 122, 3) := by decide +kernel
theorem dX8_type_19 : decode cX8_type 19 = .ok (.bipush 30, 2) := by decide +kernel
theorem dX8_type_21 : decode cX8_type 21 = .ok (.if_icmp .ne 7, 3) := by decide +kernel
theorem dX8_type_24 : decode cX8_type 24 = .ok (.sipush (-1003), 3) := by decide +kernel
theorem dX8_type_27 : decode cX8_type 27 = .ok (.ireturn, 1) := by decide +kernel
theorem dX8_type_28 : decode cX8_type 28 = .ok (.aload_n 0, 1) := by decide +kernel
theorem dX8_type_29 : decode cX8_type 29 = .ok (.getfield 22, 3) := by decide +kernel
theorem dX8_type_32 : decode cX8_type 32 = .ok (.aload_n 0, 1) := by decide +kernel
theorem dX8_type_33 : decode cX8_type 33 = .ok (.getfield 122, 3) := by decide +kernel
theorem dX8_type_36 : decode cX8_type 36 = .ok (.iload_n 1, 1) := by decide +kernel
theorem dX8_type_37 : decode cX8_type 37 = .ok (.iastore, 1) := by decide +kernel
theorem dX8_type_38 : decode cX8_type 38 = .ok (.aload_n 0, 1) := by decide +kernel
theorem dX8_type_39 : decode cX8_type 39 = .ok (.dup, 1) := by decide +kernel
theorem dX8_type_40 : decode cX8_type 40 = .ok (.getfield 122, 3) := by decide +kernel
theorem dX8_type_43 : decode cX8_type 43 = .ok (.iconst 1, 1) := by decide +kernel
theorem dX8_type_44 : decode cX8_type 44 = .ok (.iadd, 1) := by decide +kernel
theorem dX8_type_45 : decode cX8_type 45 = .ok (.putfield 122, 3) := by decide +kernel
theorem dX8_type_48 : decode cX8_type 48 = .ok (.aload_n 0, 1) := by decide +kernel
theorem dX8_type_49 : decode cX8_type 49 = .ok (.getfield 122, 3) := by decide +kernel
theorem dX8_type_52 : decode cX8_type 52 = .ok (.ireturn, 1) := by decide +kernel
theorem dX8_clearText_0 : decode cX8_clearText 0 = .ok (.aload_n 0, 1) := by decide +kernel
theorem dX8_clearText_1 : decode cX8_clearText 1 = .ok (.getfield 122, 3) := by decide +kernel
theorem dX8_clearText_4 : decode cX8_clearText 4 = .ok (.istore_n 1, 1) := by decide +kernel
theorem dX8_clearText_5 : decode cX8_clearText 5 = .ok (.aload_n 0, 1) := by decide +kernel
theorem dX8_clearText_6 : decode cX8_clearText 6 = .ok (.iconst 0, 1) := by decide +kernel
theorem dX8_clearText_7 : decode cX8_clearText 7 = .ok (.putfield 122, 3) := by decide +kernel
theorem dX8_clearText_10 : decode cX8_clearText 10 = .ok (.iload_n 1, 1) := by decide +kernel
theorem dX8_clearText_11 : decode cX8_clearText 11 = .ok (.ireturn, 1) := by decide +kernel
theorem dX8_breaks_0 : decode cX8_breaks 0 = .ok (.aload_n 0, 1) := by decide +kernel
theorem dX8_breaks_1 : decode cX8_breaks 1 = .ok (.iload_n 1, 1) := by decide +kernel
theorem dX8_breaks_2 : decode cX8_breaks 2 = .ok (.putfield 135, 3) := by decide +kernel
theorem dX8_breaks_5 : decode cX8_breaks 5 = .ok (.aload_n 0, 1) := by decide +kernel
theorem dX8_breaks_6 : decode cX8_breaks 6 = .ok (.iload_n 2, 1) := by decide +kernel
theorem dX8_breaks_7 : decode cX8_breaks 7 = .ok (.putfield 138, 3) := by decide +kernel
theorem dX8_breaks_10 : decode cX8_breaks 10 = .ok (.iconst 0, 1) := by decide +kernel
theorem dX8_breaks_11 : decode cX8_breaks 11 = .ok (.ireturn, 1) := by decide +kernel
set_option maxRecDepth 20000 in
theorem ggX8_isLetter_X8_in : GoodIn wsX8_isLetter wsX8_in := goodIn_r _ [6] (by decide +kernel) (by decide +kernel)
set_option maxRecDepth 20000 in
theorem gX8_isLetter_X8_in : GoodIn wsX8_isLetter (va_wsS RX8 56 yX8_in wsX8_in) := goodIn_app (goodIn_of _ (by decide +kernel)) ggX8_isLetter_X8_in
theorem dX8_isLetter_0 : decode cX8_isLetter 0 = .ok (.iload_n 1, 1) := by decide +kernel
theorem dX8_isLetter_1 : decode cX8_isLetter 1 = .ok (.aload_n 0, 1) := by decide +kernel
theorem dX8_isLetter_2 : decode cX8_isLetter 2 = .ok (.getfield 122, 3) := by decide +kernel
theorem dX8_isLetter_5 : decode cX8_isLetter 5 = .ok (.if_icmp .ge 23, 3) := by decide +kernel
theorem dX8_isLetter_8 : decode cX8_isLetter 8 = .ok (.aload_n 0, 1) := by decide +kernel
theorem dX8_isLetter_9 : decode cX8_isLetter 9 = .ok (.getfield 22, 3) := by decide +kernel
theorem dX8_isLetter_12 : decode cX8_isLetter 12 = .ok (.iload_n 1, 1) := by decide +kernel
theorem dX8_isLetter_13 : decode cX8_isLetter 13 = .ok (.iaload, 1) := by decide +kernel
theorem dX8_isLetter_14 : decode cX8_isLetter 14 = .ok (.bipush 97, 2) := by decide +kernel
theorem dX8_isLetter_16 : decode cX8_isLetter 16 = .ok (.bipush 106, 2) := by decide +kernel
theorem dX8_isLetter_18 : decode cX8_isLetter 18 = .ok (.invokestatic 56, 3) := by decide +kernel
theorem dX8_isLetter_21 : decode cX8_isLetter 21 = .ok (.ifCond .eq 7, 3) := by decide +kernel
theorem dX8_isLetter_24 : decode cX8_isLetter 24 = .ok (.iconst 1, 1) := by decide +kernel
theorem dX8_isLetter_25 : decode cX8_isLetter 25 = .ok (.goto 4, 3) := by decide +kernel
theorem dX8_isLetter_28 : decode cX8_isLetter 28 = .ok (.iconst 0, 1) := by decide +kernel
theorem dX8_isLetter_29 : decode cX8_isLetter 29 = .ok (.ireturn, 1) := by decide +kernel
set_option maxRecDepth 20000 in
theorem ggX8_isForm_X8_isLetter : GoodIn wsX8_isForm wsX8_isLetter := goodIn_r _ [8, 2, 3, 9, 10, 7, 11, 18, 19, 20, 21, 22, 23, 24, 25, 26, 27, 28, 29, 30] (by decide +kernel) (by decide +kernel)
set_option maxRecDepth 20000 in
theorem gX8_isForm_X8_isLetter : GoodIn wsX8_isForm (wsV RX8 141 RX8 yX8_isLetter wsX8_isLetter) := goodIn_app (goodIn_of _ (by decide +kernel)) ggX8_isForm_X8_isLetter
set_option maxRecDepth 20000 in
theorem ggX8_isForm_X8_breaks : GoodIn wsX8_isForm wsX8_breaks := goodIn_r _ [15, 16, 17, 18, 19, 20, 21, 22, 23, 24, 25, 26, 27, 28, 29, 30] (by decide +kernel) (by decide +kernel)
set_option maxRecDepth 20000 in
theorem gX8_isForm_X8_breaks : GoodIn wsX8_isForm (wsV RX8 144 RX8 yX8_breaks wsX8_breaks) := goodIn_app (goodIn_of _ (by decide +kernel)) ggX8_isForm_X8_breaks
theorem dX8_isForm_0 : decode cX8_isForm 0 = .ok (.iconst 0, 1) := by decide +kernel
theorem dX8_isForm_1 : decode cX8_isForm 1 = .ok (.istore_n 1, 1) := by decide +kernel
theorem dX8_isForm_2 : decode cX8_isForm 2 = .ok (.aload_n 0, 1) := by decide +kernel
theorem dX8_isForm_3 : decode cX8_isForm 3 = .ok (.iload_n 1, 1) := by decide +kernel
theorem dX8_isForm_4 : decode cX8_isForm 4 = .ok (.invokevirtual 141, 3) := by decide +kernel
theorem dX8_isForm_7 : decode cX8_isForm 7 = .ok (.ifCond .eq 22, 3) := by decide +kernel
theorem dX8_isForm_10 : decode cX8_isForm 10 = .ok (.iload_n 1, 1) := by decide +kernel
theorem dX8_isForm_11 : decode cX8_isForm 11 = .ok (.bipush 8, 2) := by decide +kernel
theorem dX8_isForm_13 : decode cX8_isForm 13 = .ok (.if_icmp .ne 10, 3) := by decide +kernel
theorem dX8_isForm_16 : decode cX8_isForm 16 = .ok (.aload_n 0, 1) := by decide +kernel
theorem dX8_isForm_17 : decode cX8_isForm 17 = .ok (.iload_n 1, 1) := by decide +kernel
theorem dX8_isForm_18 : decode cX8_isForm 18 = .ok (.iconst 2, 1) := by decide +kernel
theorem dX8_isForm_19 : decode cX8_isForm 19 = .ok (.invokevirtual 144, 3) := by decide +kernel
theorem dX8_isForm_22 : decode cX8_isForm 22 = .ok (.ireturn, 1) := by decide +kernel
theorem dX8_isForm_23 : decode cX8_isForm 23 = .ok (.iinc 1 1, 3) := by decide +kernel
theorem dX8_isForm_26 : decode cX8_isForm 26 = .ok (.goto (-24), 3) := by decide +kernel
theorem dX8_isForm_29 : decode cX8_isForm 29 = .ok (.aload_n 0, 1) := by decide +kernel
theorem dX8_isForm_30 : decode cX8_isForm 30 = .ok (.iload_n 1, 1) := by decide +kernel
theorem dX8_isForm_31 : decode cX8_isForm 31 = .ok (.putfield 147, 3) := by decide +kernel
theorem dX8_isForm_34 : decode cX8_isForm 34 = .ok (.iload_n 1, 1) := by decide +kernel
theorem dX8_isForm_35 : decode cX8_isForm 35 = .ok (.ifCond .eq 22, 3) := by decide +kernel
theorem dX8_isForm_38 : decode cX8_isForm 38 = .ok (.iload_n 1, 1) := by decide +kernel
theorem dX8_isForm_39 : decode cX8_isForm 39 = .ok (.aload_n 0, 1) := by decide +kernel
theorem dX8_isForm_40 : decode cX8_isForm 40 = .ok (.getfield 122, 3) := by decide +kernel
theorem dX8_isForm_43 : decode cX8_isForm 43 = .ok (.if_icmp .eq 14, 3) := by decide +kernel
theorem dX8_isForm_46 : decode cX8_isForm 46 = .ok (.aload_n 0, 1) := by decide +kernel
theorem dX8_isForm_47 : decode cX8_isForm 47 = .ok (.getfield 22, 3) := by decide +kernel
theorem dX8_isForm_50 : decode cX8_isForm 50 = .ok (.iload_n 1, 1) := by decide +kernel
theorem dX8_isForm_51 : decode cX8_isForm 51 = .ok (.iaload, 1) := by decide +kernel
theorem dX8_isForm_52 : decode cX8_isForm 52 = .ok (.bipush 47, 2) := by decide +kernel
theorem dX8_isForm_54 : decode cX8_isForm 54 = .ok (.if_icmp .eq 10, 3) := by decide +kernel
theorem dX8_isForm_57 : decode cX8_isForm 57 = .ok (.aload_n 0, 1) := by decide +kernel
theorem dX8_isForm_58 : decode cX8_isForm 58 = .ok (.iload_n 1, 1) := by decide +kernel
theorem dX8_isForm_59 : decode cX8_isForm 59 = .ok (.iconst 1, 1) := by decide +kernel
theorem dX8_isForm_60 : decode cX8_isForm 60 = .ok (.invokevirtual 144, 3) := by decide +kernel
theorem dX8_isForm_63 : decode cX8_isForm 63 = .ok (.ireturn, 1) := by decide +kernel
theorem dX8_isForm_64 : decode cX8_isForm 64 = .ok (.iinc 1 1, 3) := by decide +kernel
theorem dX8_isForm_67 : decode cX8_isForm 67 = .ok (.aload_n 0, 1) := by decide +kernel
theorem dX8_isForm_68 : decode cX8_isForm 68 = .ok (.iload_n 1, 1) := by decide +kernel
theorem dX8_isForm_69 : decode cX8_isForm 69 = .ok (.invokevirtual 141, 3) := by decide +kernel
theorem dX8_isForm_72 : decode cX8_isForm 72 = .ok (.ifCond .eq 19, 3) := by decide +kernel
theorem dX8_isForm_75 : decode cX8_isForm 75 = .ok (.iload_n 1, 1) := by decide +kernel
theorem dX8_isForm_76 : decode cX8_isForm 76 = .ok (.iconst 2, 1) := by decide +kernel
theorem dX8_isForm_77 : decode cX8_isForm 77 = .ok (.aload_n 0, 1) := by decide +kernel
theorem dX8_isForm_78 : decode cX8_isForm 78 = .ok (.getfield 147, 3) := by decide +kernel
theorem dX8_isForm_81 : decode cX8_isForm 81 = .ok (.imul, 1) := by decide +kernel
theorem dX8_isForm_82 : decode cX8_isForm 82 = .ok (.if_icmp .gt 9, 3) := by decide +kernel
theorem dX8_isForm_85 : decode cX8_isForm 85 = .ok (.iinc 1 1, 3) := by decide +kernel
theorem dX8_isForm_88 : decode cX8_isForm 88 = .ok (.goto (-21), 3) := by decide +kernel
theorem dX8_isForm_91 : decode cX8_isForm 91 = .ok (.iload_n 1, 1) := by decide +kernel
theorem dX8_isForm_92 : decode cX8_isForm 92 = .ok (.iconst 2, 1) := by decide +kernel
theorem dX8_isForm_93 : decode cX8_isForm 93 = .ok (.aload_n 0, 1) := by decide +kernel
theorem dX8_isForm_94 : decode cX8_isForm 94 = .ok (.getfield 147, 3) := by decide +kernel
theorem dX8_isForm_97 : decode cX8_isForm 97 = .ok (.imul, 1) := by decide +kernel
theorem dX8_isForm_98 : decode cX8_isForm 98 = .ok (.iconst 1, 1) := by decide +kernel
theorem dX8_isForm_99 : decode cX8_isForm 99 = .ok (.iadd, 1) := by decide +kernel
theorem dX8_isForm_100 : decode cX8_isForm 100 = .ok (.if_icmp .ne 11, 3) := by decide +kernel
theorem dX8_isForm_103 : decode cX8_isForm 103 = .ok (.iload_n 1, 1) := by decide +kernel
theorem dX8_isForm_104 : decode cX8_isForm 104 = .ok (.aload_n 0, 1) := by decide +kernel
theorem dX8_isForm_105 : decode cX8_isForm 105 = .ok (.getfield 122, 3) := by decide +kernel
theorem dX8_isForm_108 : decode cX8_isForm 108 = .ok (.if_icmp .eq 12, 3) := by decide +kernel
theorem dX8_isForm_111 : decode cX8_isForm 111 = .ok (.aload_n 0, 1) := by decide +kernel
theorem dX8_isForm_112 : decode cX8_isForm 112 = .ok (.iload_n 1, 1) := by decide +kernel
theorem dX8_isForm_113 : decode cX8_isForm 113 = .ok (.iconst 1, 1) := by decide +kernel
theorem dX8_isForm_114 : decode cX8_isForm 114 = .ok (.invokevirtual 144, 3) := by decide +kernel
theorem dX8_isForm_117 : decode cX8_isForm 117 = .ok (.ifCond .eq 7, 3) := by decide +kernel
theorem dX8_isForm_120 : decode cX8_isForm 120 = .ok (.iconst 1, 1) := by decide +kernel
theorem dX8_isForm_121 : decode cX8_isForm 121 = .ok (.goto 4, 3) := by decide +kernel
theorem dX8_isForm_124 : decode cX8_isForm 124 = .ok (.iconst 0, 1) := by decide +kernel
theorem dX8_isForm_125 : decode cX8_isForm 125 = .ok (.ireturn, 1) := by decide +kernel
set_option maxRecDepth 20000 in
theorem ggX8_areWords_X8_isForm : GoodIn wsX8_areWords wsX8_isForm := goodIn_r _ [8, 2, 1, 3, 9, 10, 11, 7, 12, 13, 14, 15, 16, 17, 18, 19, 20, 21, 27, 28, 29, 30, 31, 32, 33, 34, 35, 36, 37, 38, 39] (by decide +kernel) (by decide +kernel)
set_option maxRecDepth 20000 in
theorem gX8_areWords_X8_isForm : GoodIn wsX8_areWords (wsV RX8 150 RX8 yX8_isForm wsX8_isForm) := goodIn_app (goodIn_of _ (by decide +kernel)) ggX8_areWords_X8_isForm
set_option maxRecDepth 20000 in
theorem ggX8_areWords_X8_drawn : GoodIn wsX8_areWords wsX8_drawn := goodIn_r _ [25, 26, 27, 28, 29, 30, 31, 32, 33, 34, 35, 36, 37, 38, 39] (by decide +kernel) (by decide +kernel)
set_option maxRecDepth 20000 in
theorem gX8_areWords_X8_drawn : GoodIn wsX8_areWords (wsV RX8 29 RX8 yX8_drawn wsX8_drawn) := goodIn_app (goodIn_of _ (by decide +kernel)) ggX8_areWords_X8_drawn
set_option maxRecDepth 20000 in
theorem ggX8_areWords_X8_breaks : GoodIn wsX8_areWords wsX8_breaks := goodIn_r _ [19, 20, 21, 27, 28, 29, 30, 31, 32, 33, 34, 35, 36, 37, 38, 39] (by decide +kernel) (by decide +kernel)
set_option maxRecDepth 20000 in
theorem gX8_areWords_X8_breaks : GoodIn wsX8_areWords (wsV RX8 144 RX8 yX8_breaks wsX8_breaks) := goodIn_app (goodIn_of _ (by decide +kernel)) ggX8_areWords_X8_breaks
theorem dX8_areWords_0 : decode cX8_areWords 0 = .ok (.aload_n 0, 1) := by decide +kernel
theorem dX8_areWords_1 : decode cX8_areWords 1 = .ok (.invokevirtual 150, 3) := by decide +kernel
theorem dX8_areWords_4 : decode cX8_areWords 4 = .ok (.ifCond .ne 5, 3) := by decide +kernel
theorem dX8_areWords_7 : decode cX8_areWords 7 = .ok (.iconst 0, 1) := by decide +kernel
theorem dX8_areWords_8 : decode cX8_areWords 8 = .ok (.ireturn, 1) := by decide +kernel
theorem dX8_areWords_9 : decode cX8_areWords 9 = .ok (.iconst 0, 1) := by decide +kernel
theorem dX8_areWords_10 : decode cX8_areWords 10 = .ok (.istore_n 1, 1) := by decide +kernel
theorem dX8_areWords_11 : decode cX8_areWords 11 = .ok (.iload_n 1, 1) := by decide +kernel
theorem dX8_areWords_12 : decode cX8_areWords 12 = .ok (.aload_n 0, 1) := by decide +kernel
theorem dX8_areWords_13 : decode cX8_areWords 13 = .ok (.getfield 122, 3) := by decide +kernel
theorem dX8_areWords_16 : decode cX8_areWords 16 = .ok (.if_icmp .ge 40, 3) := by decide +kernel
theorem dX8_areWords_19 : decode cX8_areWords 19 = .ok (.iload_n 1, 1) := by decide +kernel
theorem dX8_areWords_20 : decode cX8_areWords 20 = .ok (.aload_n 0, 1) := by decide +kernel
theorem dX8_areWords_21 : decode cX8_areWords 21 = .ok (.getfield 147, 3) := by decide +kernel
theorem dX8_areWords_24 : decode cX8_areWords 24 = .ok (.if_icmp .eq 26, 3) := by decide +kernel
theorem dX8_areWords_27 : decode cX8_areWords 27 = .ok (.aload_n 0, 1) := by decide +kernel
theorem dX8_areWords_28 : decode cX8_areWords 28 = .ok (.aload_n 0, 1) := by decide +kernel
theorem dX8_areWords_29 : decode cX8_areWords 29 = .ok (.getfield 22, 3) := by decide +kernel
theorem dX8_areWords_32 : decode cX8_areWords 32 = .ok (.iload_n 1, 1) := by decide +kernel
theorem dX8_areWords_33 : decode cX8_areWords 33 = .ok (.iaload, 1) := by decide +kernel
theorem dX8_areWords_34 : decode cX8_areWords 34 = .ok (.bipush 97, 2) := by decide +kernel
theorem dX8_areWords_36 : decode cX8_areWords 36 = .ok (.isub, 1) := by decide +kernel
theorem dX8_areWords_37 : decode cX8_areWords 37 = .ok (.invokevirtual 29, 3) := by decide +kernel
theorem dX8_areWords_40 : decode cX8_areWords 40 = .ok (.ifCond .ge 10, 3) := by decide +kernel
theorem dX8_areWords_43 : decode cX8_areWords 43 = .ok (.aload_n 0, 1) := by decide +kernel
theorem dX8_areWords_44 : decode cX8_areWords 44 = .ok (.iload_n 1, 1) := by decide +kernel
theorem dX8_areWords_45 : decode cX8_areWords 45 = .ok (.iconst 3, 1) := by decide +kernel
theorem dX8_areWords_46 : decode cX8_areWords 46 = .ok (.invokevirtual 144, 3) := by decide +kernel
theorem dX8_areWords_49 : decode cX8_areWords 49 = .ok (.ireturn, 1) := by decide +kernel
theorem dX8_areWords_50 : decode cX8_areWords 50 = .ok (.iinc 1 1, 3) := by decide +kernel
theorem dX8_areWords_53 : decode cX8_areWords 53 = .ok (.goto (-42), 3) := by decide +kernel
theorem dX8_areWords_56 : decode cX8_areWords 56 = .ok (.iconst 1, 1) := by decide +kernel
theorem dX8_areWords_57 : decode cX8_areWords 57 = .ok (.ireturn, 1) := by decide +kernel
set_option maxRecDepth 20000 in
theorem ggX8_fault_X8_in : GoodIn wsX8_fault wsX8_in := goodIn_r _ [6] (by decide +kernel) (by decide +kernel)
set_option maxRecDepth 20000 in
theorem gX8_fault_X8_in : GoodIn wsX8_fault (va_wsS RX8 56 yX8_in wsX8_in) := goodIn_app (goodIn_of _ (by decide +kernel)) ggX8_fault_X8_in
set_option maxRecDepth 20000 in
theorem ggX8_fault_X8_areWords : GoodIn wsX8_fault wsX8_areWords := goodIn_r _ [10, 11, 12, 13, 14, 15, 16, 5, 17, 18, 19, 20, 21, 3, 4, 6, 22, 23, 24, 25, 1, 2, 26, 27, 28, 29, 30, 31, 32, 33, 34, 35, 36, 37, 38, 39, 40, 41, 42, 43] (by decide +kernel) (by decide +kernel)
set_option maxRecDepth 20000 in
theorem gX8_fault_X8_areWords : GoodIn wsX8_fault (wsV RX8 154 RX8 yX8_areWords wsX8_areWords) := goodIn_app (goodIn_of _ (by decide +kernel)) ggX8_fault_X8_areWords
theorem dX8_fault_0 : decode cX8_fault 0 = .ok (.iload_n 1, 1) := by decide +kernel
theorem dX8_fault_1 : decode cX8_fault 1 = .ok (.iconst 0, 1) := by decide +kernel
theorem dX8_fault_2 : decode cX8_fault 2 = .ok (.iconst 1, 1) := by decide +kernel
theorem dX8_fault_3 : decode cX8_fault 3 = .ok (.invokestatic 56, 3) := by decide +kernel
theorem dX8_fault_6 : decode cX8_fault 6 = .ok (.ifCond .ne 7, 3) := by decide +kernel
theorem dX8_fault_9 : decode cX8_fault 9 = .ok (.sipush (-1001), 3) := by decide +kernel
theorem dX8_fault_12 : decode cX8_fault 12 = .ok (.ireturn, 1) := by decide +kernel
theorem dX8_fault_13 : decode cX8_fault 13 = .ok (.aload_n 0, 1) := by decide +kernel
theorem dX8_fault_14 : decode cX8_fault 14 = .ok (.invokevirtual 154, 3) := by decide +kernel
theorem dX8_fault_17 : decode cX8_fault 17 = .ok (.ifCond .eq 7, 3) := by decide +kernel
theorem dX8_fault_20 : decode cX8_fault 20 = .ok (.sipush (-1004), 3) := by decide +kernel
theorem dX8_fault_23 : decode cX8_fault 23 = .ok (.ireturn, 1) := by decide +kernel
theorem dX8_fault_24 : decode cX8_fault 24 = .ok (.iload_n 1, 1) := by decide +kernel
theorem dX8_fault_25 : decode cX8_fault 25 = .ok (.ifCond .ne 10, 3) := by decide +kernel
theorem dX8_fault_28 : decode cX8_fault 28 = .ok (.aload_n 0, 1) := by decide +kernel
theorem dX8_fault_29 : decode cX8_fault 29 = .ok (.getfield 135, 3) := by decide +kernel
theorem dX8_fault_32 : decode cX8_fault 32 = .ok (.goto 7, 3) := by decide +kernel
theorem dX8_fault_35 : decode cX8_fault 35 = .ok (.aload_n 0, 1) := by decide +kernel
theorem dX8_fault_36 : decode cX8_fault 36 = .ok (.getfield 138, 3) := by decide +kernel
theorem dX8_fault_39 : decode cX8_fault 39 = .ok (.ireturn, 1) := by decide +kernel
set_option maxRecDepth 20000 in
theorem ggX8_read_X8_begins : GoodIn wsX8_read wsX8_begins := goodIn_r _ [8, 9, 1, 42, 43, 44, 45, 46, 47, 48, 49, 50, 51, 52, 53, 54] (by decide +kernel) (by decide +kernel)
set_option maxRecDepth 20000 in
theorem gX8_read_X8_begins : GoodIn wsX8_read (wsV RX8 79 RX8 yX8_begins wsX8_begins) := goodIn_app (goodIn_of _ (by decide +kernel)) ggX8_read_X8_begins
set_option maxRecDepth 20000 in
theorem ggX8_read_X8_areWords : GoodIn wsX8_read wsX8_areWords := goodIn_r _ [13, 14, 2, 3, 15, 16, 17, 7, 18, 19, 20, 21, 22, 23, 24, 25, 26, 27, 28, 29, 30, 31, 32, 33, 34, 35, 1, 42, 43, 44, 45, 46, 47, 48, 49, 50, 51, 52, 53, 54] (by decide +kernel) (by decide +kernel)
set_option maxRecDepth 20000 in
theorem gX8_read_X8_areWords : GoodIn wsX8_read (wsV RX8 154 RX8 yX8_areWords wsX8_areWords) := goodIn_app (goodIn_of _ (by decide +kernel)) ggX8_read_X8_areWords
set_option maxRecDepth 20000 in
theorem ggX8_read_X8_acted : GoodIn wsX8_read wsX8_acted := goodIn_r _ [39, 1, 9, 40, 41, 42, 43, 44, 45, 46, 47, 48, 49, 50, 51, 52, 53, 54] (by decide +kernel) (by decide +kernel)
set_option maxRecDepth 20000 in
theorem gX8_read_X8_acted : GoodIn wsX8_read (wsV RX8 82 RX8 yX8_acted wsX8_acted) := goodIn_app (goodIn_of _ (by decide +kernel)) ggX8_read_X8_acted
theorem dX8_read_0 : decode cX8_read 0 = .ok (.aload_n 0, 1) := by decide +kernel
theorem dX8_read_1 : decode cX8_read 1 = .ok (.invokevirtual 79, 3) := by decide +kernel
theorem dX8_read_4 : decode cX8_read 4 = .ok (.aload_n 0, 1) := by decide +kernel
theorem dX8_read_5 : decode cX8_read 5 = .ok (.invokevirtual 154, 3) := by decide +kernel
theorem dX8_read_8 : decode cX8_read 8 = .ok (.ifCond .ne 7, 3) := by decide +kernel
theorem dX8_read_11 : decode cX8_read 11 = .ok (.sipush (-1002), 3) := by decide +kernel
theorem dX8_read_14 : decode cX8_read 14 = .ok (.ireturn, 1) := by decide +kernel
theorem dX8_read_15 : decode cX8_read 15 = .ok (.aload_n 0, 1) := by decide +kernel
theorem dX8_read_16 : decode cX8_read 16 = .ok (.getfield 7, 3) := by decide +kernel
theorem dX8_read_19 : decode cX8_read 19 = .ok (.iconst 0, 1) := by decide +kernel
theorem dX8_read_20 : decode cX8_read 20 = .ok (.aload_n 0, 1) := by decide +kernel
theorem dX8_read_21 : decode cX8_read 21 = .ok (.getfield 147, 3) := by decide +kernel
theorem dX8_read_24 : decode cX8_read 24 = .ok (.iastore, 1) := by decide +kernel
theorem dX8_read_25 : decode cX8_read 25 = .ok (.aload_n 0, 1) := by decide +kernel
theorem dX8_read_26 : decode cX8_read 26 = .ok (.getfield 7, 3) := by decide +kernel
theorem dX8_read_29 : decode cX8_read 29 = .ok (.iconst 1, 1) := by decide +kernel
theorem dX8_read_30 : decode cX8_read 30 = .ok (.iconst 0, 1) := by decide +kernel
theorem dX8_read_31 : decode cX8_read 31 = .ok (.iastore, 1) := by decide +kernel
theorem dX8_read_32 : decode cX8_read 32 = .ok (.iconst 0, 1) := by decide +kernel
theorem dX8_read_33 : decode cX8_read 33 = .ok (.istore_n 1, 1) := by decide +kernel
theorem dX8_read_34 : decode cX8_read 34 = .ok (.iload_n 1, 1) := by decide +kernel
theorem dX8_read_35 : decode cX8_read 35 = .ok (.bipush 8, 2) := by decide +kernel
theorem dX8_read_37 : decode cX8_read 37 = .ok (.if_icmp .ge 102, 3) := by decide +kernel
theorem dX8_read_40 : decode cX8_read 40 = .ok (.aload_n 0, 1) := by decide +kernel
theorem dX8_read_41 : decode cX8_read 41 = .ok (.getfield 7, 3) := by decide +kernel
theorem dX8_read_44 : decode cX8_read 44 = .ok (.bipush 17, 2) := by decide +kernel
theorem dX8_read_46 : decode cX8_read 46 = .ok (.iconst 2, 1) := by decide +kernel
theorem dX8_read_47 : decode cX8_read 47 = .ok (.iload_n 1, 1) := by decide +kernel
theorem dX8_read_48 : decode cX8_read 48 = .ok (.imul, 1) := by decide +kernel
theorem dX8_read_49 : decode cX8_read 49 = .ok (.iadd, 1) := by decide +kernel
theorem dX8_read_50 : decode cX8_read 50 = .ok (.iconst 0, 1) := by decide +kernel
theorem dX8_read_51 : decode cX8_read 51 = .ok (.iastore, 1) := by decide +kernel
theorem dX8_read_52 : decode cX8_read 52 = .ok (.aload_n 0, 1) := by decide +kernel
theorem dX8_read_53 : decode cX8_read 53 = .ok (.getfield 7, 3) := by decide +kernel
theorem dX8_read_56 : decode cX8_read 56 = .ok (.bipush 17, 2) := by decide +kernel
theorem dX8_read_58 : decode cX8_read 58 = .ok (.iconst 2, 1) := by decide +kernel
theorem dX8_read_59 : decode cX8_read 59 = .ok (.iload_n 1, 1) := by decide +kernel
theorem dX8_read_60 : decode cX8_read 60 = .ok (.imul, 1) := by decide +kernel
theorem dX8_read_61 : decode cX8_read 61 = .ok (.iadd, 1) := by decide +kernel
theorem dX8_read_62 : decode cX8_read 62 = .ok (.iconst 1, 1) := by decide +kernel
theorem dX8_read_63 : decode cX8_read 63 = .ok (.iadd, 1) := by decide +kernel
theorem dX8_read_64 : decode cX8_read 64 = .ok (.iconst 0, 1) := by decide +kernel
theorem dX8_read_65 : decode cX8_read 65 = .ok (.iastore, 1) := by decide +kernel
theorem dX8_read_66 : decode cX8_read 66 = .ok (.aload_n 0, 1) := by decide +kernel
theorem dX8_read_67 : decode cX8_read 67 = .ok (.getfield 7, 3) := by decide +kernel
theorem dX8_read_70 : decode cX8_read 70 = .ok (.bipush 33, 2) := by decide +kernel
theorem dX8_read_72 : decode cX8_read 72 = .ok (.iload_n 1, 1) := by decide +kernel
theorem dX8_read_73 : decode cX8_read 73 = .ok (.iadd, 1) := by decide +kernel
theorem dX8_read_74 : decode cX8_read 74 = .ok (.iload_n 1, 1) := by decide +kernel
theorem dX8_read_75 : decode cX8_read 75 = .ok (.aload_n 0, 1) := by decide +kernel
theorem dX8_read_76 : decode cX8_read 76 = .ok (.getfield 147, 3) := by decide +kernel
theorem dX8_read_79 : decode cX8_read 79 = .ok (.if_icmp .ge 15, 3) := by decide +kernel
theorem dX8_read_82 : decode cX8_read 82 = .ok (.aload_n 0, 1) := by decide +kernel
theorem dX8_read_83 : decode cX8_read 83 = .ok (.getfield 22, 3) := by decide +kernel
theorem dX8_read_86 : decode cX8_read 86 = .ok (.iload_n 1, 1) := by decide +kernel
theorem dX8_read_87 : decode cX8_read 87 = .ok (.iaload, 1) := by decide +kernel
theorem dX8_read_88 : decode cX8_read 88 = .ok (.bipush 97, 2) := by decide +kernel
theorem dX8_read_90 : decode cX8_read 90 = .ok (.isub, 1) := by decide +kernel
theorem dX8_read_91 : decode cX8_read 91 = .ok (.goto 4, 3) := by decide +kernel
theorem dX8_read_94 : decode cX8_read 94 = .ok (.iconst 0, 1) := by decide +kernel
theorem dX8_read_95 : decode cX8_read 95 = .ok (.iastore, 1) := by decide +kernel
theorem dX8_read_96 : decode cX8_read 96 = .ok (.aload_n 0, 1) := by decide +kernel
theorem dX8_read_97 : decode cX8_read 97 = .ok (.getfield 7, 3) := by decide +kernel
theorem dX8_read_100 : decode cX8_read 100 = .ok (.bipush 41, 2) := by decide +kernel
theorem dX8_read_102 : decode cX8_read 102 = .ok (.iload_n 1, 1) := by decide +kernel
theorem dX8_read_103 : decode cX8_read 103 = .ok (.iadd, 1) := by decide +kernel
theorem dX8_read_104 : decode cX8_read 104 = .ok (.iload_n 1, 1) := by decide +kernel
theorem dX8_read_105 : decode cX8_read 105 = .ok (.aload_n 0, 1) := by decide +kernel
theorem dX8_read_106 : decode cX8_read 106 = .ok (.getfield 147, 3) := by decide +kernel
theorem dX8_read_109 : decode cX8_read 109 = .ok (.if_icmp .ge 22, 3) := by decide +kernel
theorem dX8_read_112 : decode cX8_read 112 = .ok (.aload_n 0, 1) := by decide +kernel
theorem dX8_read_113 : decode cX8_read 113 = .ok (.getfield 22, 3) := by decide +kernel
theorem dX8_read_116 : decode cX8_read 116 = .ok (.aload_n 0, 1) := by decide +kernel
theorem dX8_read_117 : decode cX8_read 117 = .ok (.getfield 147, 3) := by decide +kernel
theorem dX8_read_120 : decode cX8_read 120 = .ok (.iconst 1, 1) := by decide +kernel
theorem dX8_read_121 : decode cX8_read 121 = .ok (.iadd, 1) := by decide +kernel
theorem dX8_read_122 : decode cX8_read 122 = .ok (.iload_n 1, 1) := by decide +kernel
theorem dX8_read_123 : decode cX8_read 123 = .ok (.iadd, 1) := by decide +kernel
theorem dX8_read_124 : decode cX8_read 124 = .ok (.iaload, 1) := by decide +kernel
theorem dX8_read_125 : decode cX8_read 125 = .ok (.bipush 97, 2) := by decide +kernel
theorem dX8_read_127 : decode cX8_read 127 = .ok (.isub, 1) := by decide +kernel
theorem dX8_read_128 : decode cX8_read 128 = .ok (.goto 4, 3) := by decide +kernel
theorem dX8_read_131 : decode cX8_read 131 = .ok (.iconst 0, 1) := by decide +kernel
theorem dX8_read_132 : decode cX8_read 132 = .ok (.iastore, 1) := by decide +kernel
theorem dX8_read_133 : decode cX8_read 133 = .ok (.iinc 1 1, 3) := by decide +kernel
theorem dX8_read_136 : decode cX8_read 136 = .ok (.goto (-102), 3) := by decide +kernel
theorem dX8_read_139 : decode cX8_read 139 = .ok (.aload_n 0, 1) := by decide +kernel
theorem dX8_read_140 : decode cX8_read 140 = .ok (.aload_n 0, 1) := by decide +kernel
theorem dX8_read_141 : decode cX8_read 141 = .ok (.getfield 147, 3) := by decide +kernel
theorem dX8_read_144 : decode cX8_read 144 = .ok (.invokevirtual 82, 3) := by decide +kernel
theorem dX8_read_147 : decode cX8_read 147 = .ok (.ireturn, 1) := by decide +kernel
theorem dJxf58ca_isNaN_12338_0 : decode cJxf58ca_isNaN_12338 0 = .ok (.fload_n 0, 1) := by decide +kernel
theorem dJxf58ca_isNaN_12338_1 : decode cJxf58ca_isNaN_12338 1 = .ok (.fload_n 0, 1) := by decide +kernel
theorem dJxf58ca_isNaN_12338_2 : decode cJxf58ca_isNaN_12338 2 = .ok (.fcmp .l, 1) := by decide +kernel
theorem dJxf58ca_isNaN_12338_3 : decode cJxf58ca_isNaN_12338 3 = .ok (.ifCond .eq 7, 3) := by decide +kernel
theorem dJxf58ca_isNaN_12338_6 : decode cJxf58ca_isNaN_12338 6 = .ok (.iconst 1, 1) := by decide +kernel
theorem dJxf58ca_isNaN_12338_7 : decode cJxf58ca_isNaN_12338 7 = .ok (.goto 4, 3) := by decide +kernel
theorem dJxf58ca_isNaN_12338_10 : decode cJxf58ca_isNaN_12338 10 = .ok (.iconst 0, 1) := by decide +kernel
theorem dJxf58ca_isNaN_12338_11 : decode cJxf58ca_isNaN_12338 11 = .ok (.ireturn, 1) := by decide +kernel
set_option maxRecDepth 20000 in
theorem ggJxf58ca_floatToIntBits_5c35a_Jxf58ca_isNaN_12338 : GoodIn wsJxf58ca_floatToIntBits_5c35a wsJxf58ca_isNaN_12338 := goodIn_r _ [9] (by decide +kernel) (by decide +kernel)
set_option maxRecDepth 20000 in
theorem gJxf58ca_floatToIntBits_5c35a_Jxf58ca_isNaN_12338 : GoodIn wsJxf58ca_floatToIntBits_5c35a (va_wsS RJxf58ca 59 yJxf58ca_isNaN_12338 wsJxf58ca_isNaN_12338) := goodIn_app (goodIn_of _ (by decide +kernel)) ggJxf58ca_floatToIntBits_5c35a_Jxf58ca_isNaN_12338
theorem dJxf58ca_floatToIntBits_5c35a_0 : decode cJxf58ca_floatToIntBits_5c35a 0 = .ok (.fload_n 0, 1) := by decide +kernel
theorem dJxf58ca_floatToIntBits_5c35a_1 : decode cJxf58ca_floatToIntBits_5c35a 1 = .ok (.invokestatic 59, 3) := by decide +kernel
theorem dJxf58ca_floatToIntBits_5c35a_4 : decode cJxf58ca_floatToIntBits_5c35a 4 = .ok (.ifCond .ne 8, 3) := by decide +kernel
theorem dJxf58ca_floatToIntBits_5c35a_7 : decode cJxf58ca_floatToIntBits_5c35a 7 = .ok (.fload_n 0, 1) := by decide +kernel
theorem dJxf58ca_floatToIntBits_5c35a_8 : decode cJxf58ca_floatToIntBits_5c35a 8 = .ok (.invokestatic 74, 3) := by decide +kernel
theorem dJxf58ca_floatToIntBits_5c35a_11 : decode cJxf58ca_floatToIntBits_5c35a 11 = .ok (.ireturn, 1) := by decide +kernel
theorem dJxf58ca_floatToIntBits_5c35a_12 : decode cJxf58ca_floatToIntBits_5c35a 12 = .ok (.ldc 77, 2) := by decide +kernel
theorem dJxf58ca_floatToIntBits_5c35a_14 : decode cJxf58ca_floatToIntBits_5c35a 14 = .ok (.ireturn, 1) := by decide +kernel
theorem dJ6_bitCount_0f7a4_0 : decode cJ6_bitCount_0f7a4 0 = .ok (.iload_n 0, 1) := by decide +kernel
theorem dJ6_bitCount_0f7a4_1 : decode cJ6_bitCount_0f7a4 1 = .ok (.iload_n 0, 1) := by decide +kernel
theorem dJ6_bitCount_0f7a4_2 : decode cJ6_bitCount_0f7a4 2 = .ok (.iconst 1, 1) := by decide +kernel
theorem dJ6_bitCount_0f7a4_3 : decode cJ6_bitCount_0f7a4 3 = .ok (.iushr, 1) := by decide +kernel
theorem dJ6_bitCount_0f7a4_4 : decode cJ6_bitCount_0f7a4 4 = .ok (.ldc_w 265, 3) := by decide +kernel
theorem dJ6_bitCount_0f7a4_7 : decode cJ6_bitCount_0f7a4 7 = .ok (.iand, 1) := by decide +kernel
theorem dJ6_bitCount_0f7a4_8 : decode cJ6_bitCount_0f7a4 8 = .ok (.isub, 1) := by decide +kernel
theorem dJ6_bitCount_0f7a4_9 : decode cJ6_bitCount_0f7a4 9 = .ok (.istore_n 0, 1) := by decide +kernel
theorem dJ6_bitCount_0f7a4_10 : decode cJ6_bitCount_0f7a4 10 = .ok (.iload_n 0, 1) := by decide +kernel
theorem dJ6_bitCount_0f7a4_11 : decode cJ6_bitCount_0f7a4 11 = .ok (.ldc_w 266, 3) := by decide +kernel
theorem dJ6_bitCount_0f7a4_14 : decode cJ6_bitCount_0f7a4 14 = .ok (.iand, 1) := by decide +kernel
theorem dJ6_bitCount_0f7a4_15 : decode cJ6_bitCount_0f7a4 15 = .ok (.iload_n 0, 1) := by decide +kernel
theorem dJ6_bitCount_0f7a4_16 : decode cJ6_bitCount_0f7a4 16 = .ok (.iconst 2, 1) := by decide +kernel
theorem dJ6_bitCount_0f7a4_17 : decode cJ6_bitCount_0f7a4 17 = .ok (.iushr, 1) := by decide +kernel
theorem dJ6_bitCount_0f7a4_18 : decode cJ6_bitCount_0f7a4 18 = .ok (.ldc_w 266, 3) := by decide +kernel
theorem dJ6_bitCount_0f7a4_21 : decode cJ6_bitCount_0f7a4 21 = .ok (.iand, 1) := by decide +kernel
theorem dJ6_bitCount_0f7a4_22 : decode cJ6_bitCount_0f7a4 22 = .ok (.iadd, 1) := by decide +kernel
theorem dJ6_bitCount_0f7a4_23 : decode cJ6_bitCount_0f7a4 23 = .ok (.istore_n 0, 1) := by decide +kernel
theorem dJ6_bitCount_0f7a4_24 : decode cJ6_bitCount_0f7a4 24 = .ok (.iload_n 0, 1) := by decide +kernel
theorem dJ6_bitCount_0f7a4_25 : decode cJ6_bitCount_0f7a4 25 = .ok (.iload_n 0, 1) := by decide +kernel
theorem dJ6_bitCount_0f7a4_26 : decode cJ6_bitCount_0f7a4 26 = .ok (.iconst 4, 1) := by decide +kernel
theorem dJ6_bitCount_0f7a4_27 : decode cJ6_bitCount_0f7a4 27 = .ok (.iushr, 1) := by decide +kernel
theorem dJ6_bitCount_0f7a4_28 : decode cJ6_bitCount_0f7a4 28 = .ok (.iadd, 1) := by decide +kernel
theorem dJ6_bitCount_0f7a4_29 : decode cJ6_bitCount_0f7a4 29 = .ok (.ldc_w 267, 3) := by decide +kernel
theorem dJ6_bitCount_0f7a4_32 : decode cJ6_bitCount_0f7a4 32 = .ok (.iand, 1) := by decide +kernel
theorem dJ6_bitCount_0f7a4_33 : decode cJ6_bitCount_0f7a4 33 = .ok (.istore_n 0, 1) := by decide +kernel
theorem dJ6_bitCount_0f7a4_34 : decode cJ6_bitCount_0f7a4 34 = .ok (.iload_n 0, 1) := by decide +kernel
theorem dJ6_bitCount_0f7a4_35 : decode cJ6_bitCount_0f7a4 35 = .ok (.iload_n 0, 1) := by decide +kernel
theorem dJ6_bitCount_0f7a4_36 : decode cJ6_bitCount_0f7a4 36 = .ok (.bipush 8, 2) := by decide +kernel
theorem dJ6_bitCount_0f7a4_38 : decode cJ6_bitCount_0f7a4 38 = .ok (.iushr, 1) := by decide +kernel
theorem dJ6_bitCount_0f7a4_39 : decode cJ6_bitCount_0f7a4 39 = .ok (.iadd, 1) := by decide +kernel
theorem dJ6_bitCount_0f7a4_40 : decode cJ6_bitCount_0f7a4 40 = .ok (.istore_n 0, 1) := by decide +kernel
theorem dJ6_bitCount_0f7a4_41 : decode cJ6_bitCount_0f7a4 41 = .ok (.iload_n 0, 1) := by decide +kernel
theorem dJ6_bitCount_0f7a4_42 : decode cJ6_bitCount_0f7a4 42 = .ok (.iload_n 0, 1) := by decide +kernel
theorem dJ6_bitCount_0f7a4_43 : decode cJ6_bitCount_0f7a4 43 = .ok (.bipush 16, 2) := by decide +kernel
theorem dJ6_bitCount_0f7a4_45 : decode cJ6_bitCount_0f7a4 45 = .ok (.iushr, 1) := by decide +kernel
theorem dJ6_bitCount_0f7a4_46 : decode cJ6_bitCount_0f7a4 46 = .ok (.iadd, 1) := by decide +kernel
theorem dJ6_bitCount_0f7a4_47 : decode cJ6_bitCount_0f7a4 47 = .ok (.istore_n 0, 1) := by decide +kernel
theorem dJ6_bitCount_0f7a4_48 : decode cJ6_bitCount_0f7a4 48 = .ok (.iload_n 0, 1) := by decide +kernel
theorem dJ6_bitCount_0f7a4_49 : decode cJ6_bitCount_0f7a4 49 = .ok (.bipush 63, 2) := by decide +kernel
theorem dJ6_bitCount_0f7a4_51 : decode cJ6_bitCount_0f7a4 51 = .ok (.iand, 1) := by decide +kernel
theorem dJ6_bitCount_0f7a4_52 : decode cJ6_bitCount_0f7a4 52 = .ok (.ireturn, 1) := by decide +kernel
theorem dJ9_max_7cf53_0 : decode cJ9_max_7cf53 0 = .ok (.iload_n 0, 1) := by decide +kernel
theorem dJ9_max_7cf53_1 : decode cJ9_max_7cf53 1 = .ok (.iload_n 1, 1) := by decide +kernel
theorem dJ9_max_7cf53_2 : decode cJ9_max_7cf53 2 = .ok (.if_icmp .lt 7, 3) := by decide +kernel
theorem dJ9_max_7cf53_5 : decode cJ9_max_7cf53 5 = .ok (.iload_n 0, 1) := by decide +kernel
theorem dJ9_max_7cf53_6 : decode cJ9_max_7cf53 6 = .ok (.goto 4, 3) := by decide +kernel
theorem dJ9_max_7cf53_9 : decode cJ9_max_7cf53 9 = .ok (.iload_n 1, 1) := by decide +kernel
theorem dJ9_max_7cf53_10 : decode cJ9_max_7cf53 10 = .ok (.ireturn, 1) := by decide +kernel
theorem dJ9_min_7cf53_0 : decode cJ9_min_7cf53 0 = .ok (.iload_n 0, 1) := by decide +kernel
theorem dJ9_min_7cf53_1 : decode cJ9_min_7cf53 1 = .ok (.iload_n 1, 1) := by decide +kernel
theorem dJ9_min_7cf53_2 : decode cJ9_min_7cf53 2 = .ok (.if_icmp .gt 7, 3) := by decide +kernel
theorem dJ9_min_7cf53_5 : decode cJ9_min_7cf53 5 = .ok (.iload_n 0, 1) := by decide +kernel
theorem dJ9_min_7cf53_6 : decode cJ9_min_7cf53 6 = .ok (.goto 4, 3) := by decide +kernel
theorem dJ9_min_7cf53_9 : decode cJ9_min_7cf53 9 = .ok (.iload_n 1, 1) := by decide +kernel
theorem dJ9_min_7cf53_10 : decode cJ9_min_7cf53 10 = .ok (.ireturn, 1) := by decide +kernel
set_option maxRecDepth 20000 in
theorem ggL_law_X7_init : GoodIn wsL_law wsX7_init := goodIn_r _ [8, 9, 10, 11, 12, 13, 14, 15, 16, 17, 18, 19, 20, 21, 22, 23, 24, 25, 26, 27, 28, 29, 30, 31, 32, 33, 34, 35, 36, 37, 38, 39, 40, 41, 42, 43, 44, 45, 46, 47, 48, 49, 50, 51, 52, 53, 54, 55, 56, 57, 58, 59, 60, 61, 62, 63, 64, 65, 66, 67, 68, 69, 70, 71, 72, 73, 74, 75, 76, 734, 735, 736, 737, 738, 739, 740, 741, 742, 743, 744, 715, 716, 717, 718, 719, 720, 745, 746, 747, 748, 749, 750, 751, 752, 753, 754, 755, 756] (by decide +kernel) (by decide +kernel)
set_option maxRecDepth 20000 in
theorem gL_law_X7_init : GoodIn wsL_law (wsX7_init) := ggL_law_X7_init
set_option maxRecDepth 20000 in
theorem ggL_law_X8_init : GoodIn wsL_law wsX8_init := goodIn_r _ [79, 80, 10, 11, 38, 81, 82, 83, 84, 85, 721, 722, 723, 724, 725, 726, 727, 728, 729, 730, 731, 732, 733] (by decide +kernel) (by decide +kernel)
set_option maxRecDepth 20000 in
theorem gL_law_X8_init : GoodIn wsL_law (wsX8_init) := ggL_law_X8_init
set_option maxRecDepth 20000 in
theorem ggL_law_X7_letter : GoodIn wsL_law wsX7_letter := goodIn_r _ [89, 15, 20, 90, 91, 2, 92, 93, 94, 95, 96, 97, 98, 99, 36, 100, 53, 101, 102, 103, 19, 104, 67, 66, 105, 106, 107, 108, 109, 110, 111, 14, 112, 37, 39, 40, 41, 42, 43, 44, 45, 46, 47, 48, 113, 114, 115, 116, 117, 118, 56, 119, 120, 121, 122, 123, 124, 125, 126, 127, 128, 129, 59, 60, 715, 716, 717, 718, 719, 720, 734, 735, 736, 737, 738, 739, 740, 741, 742, 743, 744, 756, 745, 746] (by decide +kernel) (by decide +kernel)
set_option maxRecDepth 20000 in
theorem gL_law_X7_letter : GoodIn wsL_law (wsV RL 13 RX7 yX7_letter wsX7_letter) := goodIn_app (goodIn_of _ (by decide +kernel)) ggL_law_X7_letter
set_option maxRecDepth 20000 in
theorem ggL_law_X8_letter : GoodIn wsL_law wsX8_letter := goodIn_r _ [133, 81, 134, 135, 136, 5, 137, 82, 138, 139, 140, 141, 142, 143, 144, 145, 146, 147, 148, 149, 84, 721, 722, 723, 724, 725, 726, 727, 728, 729, 730, 731, 732, 733] (by decide +kernel) (by decide +kernel)
set_option maxRecDepth 20000 in
theorem gL_law_X8_letter : GoodIn wsL_law (wsV RL 17 RX8 yX8_letter wsX8_letter) := goodIn_app (goodIn_of _ (by decide +kernel)) ggL_law_X8_letter
set_option maxRecDepth 20000 in
theorem ggL_law_X7_sign : GoodIn wsL_law wsX7_sign := goodIn_r _ [153, 15, 20, 154, 155, 156, 14, 157, 44, 93, 94, 2, 95, 96, 101, 102, 103, 19, 104, 67, 66, 105, 106, 107, 108, 109, 110, 111, 112, 37, 39, 40, 41, 42, 43, 45, 46, 47, 48, 113, 114, 115, 36, 116, 53, 117, 118, 56, 119, 120, 158, 159, 160, 161, 162, 163, 164, 165, 166, 167, 168, 58, 59, 60, 169, 170, 171, 172, 173, 174, 175, 176, 715, 716, 717, 718, 719, 720, 734, 735, 736, 737, 738, 739, 740, 741, 742, 743, 744, 745, 746, 756] (by decide +kernel) (by decide +kernel)
set_option maxRecDepth 20000 in
theorem gL_law_X7_sign : GoodIn wsL_law (wsV RL 18 RX7 yX7_sign wsX7_sign) := goodIn_app (goodIn_of _ (by decide +kernel)) ggL_law_X7_sign
set_option maxRecDepth 20000 in
theorem ggL_law_X8_sign : GoodIn wsL_law wsX8_sign := goodIn_r _ [180, 134, 135, 136, 5, 137, 82, 81, 181, 182, 183, 184, 138, 139, 140, 185, 186, 187, 188, 189, 190, 191, 192, 145, 146, 147, 148, 149, 84, 721, 722, 723, 724, 725, 726, 727, 728, 729, 730, 731, 732, 733] (by decide +kernel) (by decide +kernel)
set_option maxRecDepth 20000 in
theorem gL_law_X8_sign : GoodIn wsL_law (wsV RL 21 RX8 yX8_sign wsX8_sign) := goodIn_app (goodIn_of _ (by decide +kernel)) ggL_law_X8_sign
set_option maxRecDepth 20000 in
theorem ggL_law_X7_compose : GoodIn wsL_law wsX7_compose := goodIn_r _ [196, 15, 20, 28, 154, 155, 156, 14, 157, 44, 197, 198, 199, 2, 200, 201, 202, 203, 204, 205, 206, 207, 208, 209, 210, 211, 212, 41, 42, 162, 163, 56, 164, 213, 214, 215, 27, 216, 217, 218, 219, 220, 221, 222, 223, 224, 225, 226, 36, 227, 228, 122, 123, 124, 53, 229, 230, 231, 232, 233, 234, 235, 236, 237, 238, 239, 240, 241, 242, 243, 244, 245, 246, 247, 248, 249, 250, 251, 252, 253, 254, 255, 256, 257, 258, 259, 260, 261, 262, 263, 264, 265, 101, 102, 103, 19, 104, 67, 66, 105, 106, 107, 108, 109, 110, 111, 112, 37, 39, 40, 43, 45, 46, 47, 48, 113, 114, 115, 116, 117, 118, 119, 120, 165, 166, 167, 168, 58, 59, 60, 169, 170, 171, 172, 173, 174, 175, 176, 715, 716, 717, 718, 719, 720, 749, 750, 751, 752, 753, 754, 755, 734, 735, 736, 737, 738, 739, 740, 741, 742, 743, 744, 756, 745, 746] (by decide +kernel) (by decide +kernel)
set_option maxRecDepth 20000 in
theorem gL_law_X7_compose : GoodIn wsL_law (wsV RL 22 RX7 yX7_compose wsX7_compose) := goodIn_app (goodIn_of _ (by decide +kernel)) ggL_law_X7_compose
set_option maxRecDepth 20000 in
theorem ggL_law_X8_compose : GoodIn wsL_law wsX8_compose := goodIn_r _ [269, 270, 134, 135, 136, 5, 137, 82, 81, 181, 182, 183, 184, 138, 139, 140, 271, 272, 273, 274, 275, 276, 277, 278, 279, 280, 281, 282, 141, 142, 143, 144, 283, 284, 285, 286, 287, 288, 289, 290, 291, 292, 293, 294, 295, 296, 297, 298, 299, 300, 301, 302, 303, 304, 305, 189, 190, 191, 192, 145, 146, 147, 148, 149, 84, 721, 722, 723, 724, 725, 726, 727, 728, 729, 730, 731, 732, 733] (by decide +kernel) (by decide +kernel)
set_option maxRecDepth 20000 in
theorem gL_law_X8_compose : GoodIn wsL_law (wsV RL 26 RX8 yX8_compose wsX8_compose) := goodIn_app (goodIn_of _ (by decide +kernel)) ggL_law_X8_compose
set_option maxRecDepth 20000 in
theorem ggL_law_X7_composeAll : GoodIn wsL_law wsX7_composeAll := goodIn_r _ [309, 15, 20, 28, 101, 102, 103, 19, 104, 67, 66, 105, 106, 107, 108, 109, 110, 111, 14, 112, 37, 39, 40, 41, 42, 43, 44, 45, 46, 47, 48, 113, 114, 115, 36, 116, 53, 117, 118, 56, 119, 120, 197, 198, 199, 2, 200, 201, 202, 203, 204, 205, 206, 207, 208, 209, 210, 211, 212, 162, 163, 164, 213, 214, 215, 27, 216, 217, 218, 219, 220, 221, 222, 223, 224, 225, 226, 227, 228, 122, 123, 124, 229, 230, 231, 232, 233, 234, 235, 236, 237, 238, 239, 240, 241, 242, 243, 244, 245, 246, 247, 248, 249, 250, 251, 252, 253, 254, 255, 256, 257, 258, 259, 260, 261, 262, 263, 264, 265, 165, 166, 167, 168, 58, 59, 60, 169, 170, 171, 172, 173, 174, 175, 176, 715, 716, 717, 718, 719, 720, 734, 735, 736, 737, 738, 739, 740, 741, 742, 743, 744, 749, 750, 751, 752, 753, 754, 755, 745, 746, 756] (by decide +kernel) (by decide +kernel)
set_option maxRecDepth 20000 in
theorem gL_law_X7_composeAll : GoodIn wsL_law (wsV RL 27 RX7 yX7_composeAll wsX7_composeAll) := goodIn_app (goodIn_of _ (by decide +kernel)) ggL_law_X7_composeAll
set_option maxRecDepth 20000 in
theorem ggL_law_X8_composeAll : GoodIn wsL_law wsX8_composeAll := goodIn_r _ [313, 81, 270, 134, 135, 136, 5, 137, 82, 271, 272, 273, 274, 275, 276, 277, 278, 279, 280, 281, 282, 141, 142, 143, 144, 283, 284, 285, 286, 287, 288, 289, 290, 291, 292, 293, 294, 295, 296, 297, 298, 299, 300, 301, 302, 303, 304, 305, 189, 190, 191, 192, 145, 146, 147, 148, 149, 84, 721, 722, 723, 724, 725, 726, 727, 728, 729, 730, 731, 732, 733] (by decide +kernel) (by decide +kernel)
set_option maxRecDepth 20000 in
theorem gL_law_X8_composeAll : GoodIn wsL_law (wsV RL 31 RX8 yX8_composeAll wsX8_composeAll) := goodIn_app (goodIn_of _ (by decide +kernel)) ggL_law_X8_composeAll
set_option maxRecDepth 20000 in
theorem ggL_law_X7_paint : GoodIn wsL_law wsX7_paint := goodIn_r _ [317, 15, 20, 154, 155, 156, 14, 157, 44, 318, 319, 320, 321, 40, 162, 163, 56, 164, 101, 102, 103, 19, 104, 67, 66, 105, 106, 107, 108, 109, 110, 111, 112, 37, 39, 41, 42, 43, 45, 46, 47, 48, 113, 114, 115, 36, 116, 53, 117, 118, 119, 120, 322, 174, 175, 176, 58, 59, 60, 715, 716, 717, 718, 719, 720, 734, 735, 736, 737, 738, 739, 740, 741, 742, 743, 744, 745, 746, 756] (by decide +kernel) (by decide +kernel)
set_option maxRecDepth 20000 in
theorem gL_law_X7_paint : GoodIn wsL_law (wsV RL 32 RX7 yX7_paint wsX7_paint) := goodIn_app (goodIn_of _ (by decide +kernel)) ggL_law_X7_paint
set_option maxRecDepth 20000 in
theorem ggL_law_X8_paint : GoodIn wsL_law wsX8_paint := goodIn_r _ [326, 81, 134, 135, 136, 5, 137, 82, 181, 182, 183, 184, 138, 139, 140, 327, 328, 329, 330, 145, 146, 147, 148, 149, 84, 721, 722, 723, 724, 725, 726, 727, 728, 729, 730, 731, 732, 733] (by decide +kernel) (by decide +kernel)
set_option maxRecDepth 20000 in
theorem gL_law_X8_paint : GoodIn wsL_law (wsV RL 35 RX8 yX8_paint wsX8_paint) := goodIn_app (goodIn_of _ (by decide +kernel)) ggL_law_X8_paint
set_option maxRecDepth 20000 in
theorem ggL_law_X7_gust : GoodIn wsL_law wsX7_gust := goodIn_r _ [334, 20, 15, 335, 336, 2, 337, 101, 102, 103, 19, 104, 67, 66, 105, 106, 107, 108, 109, 110, 111, 14, 112, 37, 39, 40, 41, 42, 43, 44, 45, 46, 47, 48, 113, 114, 115, 36, 116, 53, 117, 118, 56, 119, 120, 338, 339, 340, 341, 342, 343, 240, 344, 715, 716, 717, 718, 719, 720, 734, 735, 736, 737, 738, 739, 740, 741, 742, 743, 744, 745, 746, 756] (by decide +kernel) (by decide +kernel)
set_option maxRecDepth 20000 in
theorem gL_law_X7_gust : GoodIn wsL_law (wsV RL 36 RX7 yX7_gust wsX7_gust) := goodIn_app (goodIn_of _ (by decide +kernel)) ggL_law_X7_gust
set_option maxRecDepth 20000 in
theorem ggL_law_X8_gust : GoodIn wsL_law wsX8_gust := goodIn_r _ [348, 81, 134, 135, 136, 5, 137, 82, 138, 139, 140, 145, 146, 147, 148, 149, 84, 721, 722, 723, 724, 725, 726, 727, 728, 729, 730, 731, 732, 733] (by decide +kernel) (by decide +kernel)
set_option maxRecDepth 20000 in
theorem gL_law_X8_gust : GoodIn wsL_law (wsV RL 39 RX8 yX8_gust wsX8_gust) := goodIn_app (goodIn_of _ (by decide +kernel)) ggL_law_X8_gust
set_option maxRecDepth 20000 in
theorem ggL_law_X7_oil : GoodIn wsL_law wsX7_oil := goodIn_r _ [352, 20, 15, 335, 336, 2, 337, 101, 102, 103, 19, 104, 67, 66, 105, 106, 107, 108, 109, 110, 111, 14, 112, 37, 39, 40, 41, 42, 43, 44, 45, 46, 47, 48, 113, 114, 115, 36, 116, 53, 117, 118, 56, 119, 120, 715, 716, 717, 718, 719, 720, 734, 735, 736, 737, 738, 739, 740, 741, 742, 743, 744, 745, 746, 756] (by decide +kernel) (by decide +kernel)
set_option maxRecDepth 20000 in
theorem gL_law_X7_oil : GoodIn wsL_law (wsV RL 40 RX7 yX7_oil wsX7_oil) := goodIn_app (goodIn_of _ (by decide +kernel)) ggL_law_X7_oil
set_option maxRecDepth 20000 in
theorem ggL_law_X8_oil : GoodIn wsL_law wsX8_oil := goodIn_r _ [356, 81, 134, 135, 136, 5, 137, 82, 138, 139, 140, 145, 146, 147, 148, 149, 84, 721, 722, 723, 724, 725, 726, 727, 728, 729, 730, 731, 732, 733] (by decide +kernel) (by decide +kernel)
set_option maxRecDepth 20000 in
theorem gL_law_X8_oil : GoodIn wsL_law (wsV RL 43 RX8 yX8_oil wsX8_oil) := goodIn_app (goodIn_of _ (by decide +kernel)) ggL_law_X8_oil
set_option maxRecDepth 20000 in
theorem ggL_law_X7_pass : GoodIn wsL_law wsX7_pass := goodIn_r _ [360, 15, 20, 101, 102, 103, 19, 104, 67, 66, 105, 106, 107, 108, 109, 110, 111, 14, 112, 37, 39, 40, 41, 42, 43, 44, 45, 46, 47, 48, 113, 114, 115, 36, 116, 53, 117, 118, 56, 119, 120, 361, 362, 363, 364, 365, 366, 367, 368, 369, 319, 320, 321, 162, 163, 164, 370, 159, 160, 161, 371, 372, 373, 374, 375, 376, 232, 377, 378, 252, 253, 254, 255, 256, 257, 169, 170, 171, 172, 173, 174, 175, 176, 58, 59, 60, 715, 716, 717, 718, 719, 720, 734, 735, 736, 737, 738, 739, 740, 741, 742, 743, 744, 745, 746, 756] (by decide +kernel) (by decide +kernel)
set_option maxRecDepth 20000 in
theorem gL_law_X7_pass : GoodIn wsL_law (wsV RL 44 RX7 yX7_pass wsX7_pass) := goodIn_app (goodIn_of _ (by decide +kernel)) ggL_law_X7_pass
set_option maxRecDepth 20000 in
theorem ggL_law_X8_pass : GoodIn wsL_law wsX8_pass := goodIn_r _ [382, 81, 134, 135, 136, 5, 137, 82, 138, 139, 140, 383, 384, 385, 386, 185, 186, 187, 188, 327, 328, 329, 330, 299, 300, 301, 145, 146, 147, 148, 149, 84, 721, 722, 723, 724, 725, 726, 727, 728, 729, 730, 731, 732, 733] (by decide +kernel) (by decide +kernel)
set_option maxRecDepth 20000 in
theorem gL_law_X8_pass : GoodIn wsL_law (wsV RL 47 RX8 yX8_pass wsX8_pass) := goodIn_app (goodIn_of _ (by decide +kernel)) ggL_law_X8_pass
set_option maxRecDepth 20000 in
theorem ggL_law_X7_set : GoodIn wsL_law wsX7_set := goodIn_r _ [390, 20, 15, 391, 392, 2, 393, 101, 102, 103, 19, 104, 67, 66, 105, 106, 107, 108, 109, 110, 111, 14, 112, 37, 39, 40, 41, 42, 43, 44, 45, 46, 47, 48, 113, 114, 115, 36, 116, 53, 117, 118, 56, 119, 120, 394, 170, 171, 172, 162, 163, 164, 395, 59, 60, 715, 716, 717, 718, 719, 720, 734, 735, 736, 737, 738, 739, 740, 741, 742, 743, 744, 745, 746, 756] (by decide +kernel) (by decide +kernel)
set_option maxRecDepth 20000 in
theorem gL_law_X7_set : GoodIn wsL_law (wsV RL 48 RX7 yX7_set wsX7_set) := goodIn_app (goodIn_of _ (by decide +kernel)) ggL_law_X7_set
set_option maxRecDepth 20000 in
theorem ggL_law_X8_set : GoodIn wsL_law wsX8_set := goodIn_r _ [399, 81, 134, 135, 136, 5, 137, 82, 138, 139, 140, 145, 146, 147, 148, 149, 84, 721, 722, 723, 724, 725, 726, 727, 728, 729, 730, 731, 732, 733] (by decide +kernel) (by decide +kernel)
set_option maxRecDepth 20000 in
theorem gL_law_X8_set : GoodIn wsL_law (wsV RL 51 RX8 yX8_set wsX8_set) := goodIn_app (goodIn_of _ (by decide +kernel)) ggL_law_X8_set
set_option maxRecDepth 20000 in
theorem ggL_law_X7_letterOf : GoodIn wsL_law wsX7_letterOf := goodIn_r _ [403, 15, 90, 91, 2, 92, 404, 405, 406, 14, 407, 44, 209, 210, 211, 212, 41, 42, 162, 163, 56, 164, 408, 225, 226, 36, 227, 228, 122, 123, 124, 53, 121, 409, 231, 232, 233, 410, 252, 253, 254, 255, 256, 257, 411, 259, 260, 261, 251, 412, 413, 414, 715, 716, 717, 718, 719, 720, 734, 735, 736, 737, 738, 739, 740, 741, 742, 743, 744, 756] (by decide +kernel) (by decide +kernel)
set_option maxRecDepth 20000 in
theorem gL_law_X7_letterOf : GoodIn wsL_law (wsV RL 52 RX7 yX7_letterOf wsX7_letterOf) := goodIn_app (goodIn_of _ (by decide +kernel)) ggL_law_X7_letterOf
set_option maxRecDepth 20000 in
theorem ggL_law_X8_letterOf : GoodIn wsL_law wsX8_letterOf := goodIn_r _ [418, 138, 139, 5, 140, 419, 420, 421, 422, 81, 141, 142, 143, 144, 288, 289, 290, 299, 300, 301, 295, 296, 297, 298, 423, 424, 425, 426, 427, 428, 429, 721, 722, 723, 724, 725, 726, 727, 728, 729, 730, 731, 732, 733] (by decide +kernel) (by decide +kernel)
set_option maxRecDepth 20000 in
theorem gL_law_X8_letterOf : GoodIn wsL_law (wsV RL 55 RX8 yX8_letterOf wsX8_letterOf) := goodIn_app (goodIn_of _ (by decide +kernel)) ggL_law_X8_letterOf
set_option maxRecDepth 20000 in
theorem ggL_law_X7_placeOf : GoodIn wsL_law wsX7_placeOf := goodIn_r _ [433, 15, 154, 155, 156, 14, 157, 44, 158, 159, 160, 161, 39, 162, 163, 56, 164, 318, 319, 320, 321, 40, 434, 435, 436, 437, 37, 369, 370, 438, 439, 232, 440, 441, 231, 233, 442, 259, 260, 36, 261, 53, 251, 252, 253, 254, 255, 256, 257, 412, 413, 2, 414, 201, 202, 203, 204, 205, 206, 207, 208, 209, 210, 211, 212, 41, 42, 443, 444, 445, 446, 408, 225, 226, 227, 228, 122, 123, 124, 447, 448, 449, 450, 451, 452, 247, 248, 249, 250, 239, 240, 241, 715, 716, 717, 718, 719, 720, 734, 735, 736, 737, 738, 739, 740, 741, 742, 743, 744, 756] (by decide +kernel) (by decide +kernel)
set_option maxRecDepth 20000 in
theorem gL_law_X7_placeOf : GoodIn wsL_law (wsV RL 56 RX7 yX7_placeOf wsX7_placeOf) := goodIn_app (goodIn_of _ (by decide +kernel)) ggL_law_X7_placeOf
set_option maxRecDepth 20000 in
theorem ggL_law_X8_placeOf : GoodIn wsL_law wsX8_placeOf := goodIn_r _ [456, 181, 182, 183, 5, 184, 81, 138, 139, 140, 185, 186, 187, 188, 327, 328, 329, 330, 457, 458, 459, 460, 461, 462, 463, 464, 288, 289, 290, 295, 296, 297, 298, 141, 142, 143, 144, 299, 300, 301, 427, 428, 429, 275, 276, 277, 278, 302, 303, 304, 305, 721, 722, 723, 724, 725, 726, 727, 728, 729, 730, 731, 732, 733] (by decide +kernel) (by decide +kernel)
set_option maxRecDepth 20000 in
theorem gL_law_X8_placeOf : GoodIn wsL_law (wsV RL 59 RX8 yX8_placeOf wsX8_placeOf) := goodIn_app (goodIn_of _ (by decide +kernel)) ggL_law_X8_placeOf
set_option maxRecDepth 20000 in
theorem ggL_law_X7_reads : GoodIn wsL_law wsX7_reads := goodIn_r _ [468, 15, 391, 392, 2, 393, 469, 372, 373, 14, 374, 45, 470, 471, 472, 473, 206, 207, 208, 44, 434, 435, 436, 437, 37, 369, 319, 320, 321, 40, 162, 163, 56, 164, 370, 159, 160, 161, 39, 438, 439, 232, 440, 441, 231, 233, 442, 259, 260, 36, 261, 53, 251, 252, 253, 254, 255, 256, 257, 412, 413, 414, 715, 716, 717, 718, 719, 720, 734, 735, 736, 737, 738, 739, 740, 741, 742, 743, 744, 756] (by decide +kernel) (by decide +kernel)
set_option maxRecDepth 20000 in
theorem gL_law_X7_reads : GoodIn wsL_law (wsV RL 60 RX7 yX7_reads wsX7_reads) := goodIn_app (goodIn_of _ (by decide +kernel)) ggL_law_X7_reads
set_option maxRecDepth 20000 in
theorem ggL_law_X8_reads : GoodIn wsL_law wsX8_reads := goodIn_r _ [477, 81, 138, 139, 5, 140, 457, 458, 459, 460, 327, 328, 329, 330, 461, 462, 463, 464, 185, 186, 187, 188, 288, 289, 290, 295, 296, 297, 298, 141, 142, 143, 144, 299, 300, 301, 427, 428, 429, 721, 722, 723, 724, 725, 726, 727, 728, 729, 730, 731, 732, 733] (by decide +kernel) (by decide +kernel)
set_option maxRecDepth 20000 in
theorem gL_law_X8_reads : GoodIn wsL_law (wsV RL 63 RX8 yX8_reads wsX8_reads) := goodIn_app (goodIn_of _ (by decide +kernel)) ggL_law_X8_reads
set_option maxRecDepth 20000 in
theorem ggL_law_X7_word : GoodIn wsL_law wsX7_word := goodIn_r _ [481, 15, 391, 392, 2, 393, 482, 483, 484, 14, 485, 44, 486, 435, 436, 437, 37, 369, 319, 320, 321, 40, 162, 163, 56, 164, 370, 159, 160, 161, 39, 438, 439, 232, 440, 441, 231, 233, 442, 259, 260, 36, 261, 53, 251, 252, 253, 254, 255, 256, 257, 451, 202, 203, 204, 205, 206, 207, 208, 209, 210, 211, 212, 41, 42, 487, 488, 489, 469, 372, 373, 374, 45, 490, 715, 716, 717, 718, 719, 720, 734, 735, 736, 737, 738, 739, 740, 741, 742, 743, 744, 756] (by decide +kernel) (by decide +kernel)
set_option maxRecDepth 20000 in
theorem gL_law_X7_word : GoodIn wsL_law (wsV RL 64 RX7 yX7_word wsX7_word) := goodIn_app (goodIn_of _ (by decide +kernel)) ggL_law_X7_word
set_option maxRecDepth 20000 in
theorem ggL_law_X8_word : GoodIn wsL_law wsX8_word := goodIn_r _ [494, 81, 138, 139, 5, 140, 495, 496, 497, 498, 457, 458, 459, 460, 327, 328, 329, 330, 461, 462, 463, 464, 185, 186, 187, 188, 288, 289, 290, 295, 296, 297, 298, 141, 142, 143, 144, 299, 300, 301, 275, 276, 277, 278, 721, 722, 723, 724, 725, 726, 727, 728, 729, 730, 731, 732, 733] (by decide +kernel) (by decide +kernel)
set_option maxRecDepth 20000 in
theorem gL_law_X8_word : GoodIn wsL_law (wsV RL 67 RX8 yX8_word wsX8_word) := goodIn_app (goodIn_of _ (by decide +kernel)) ggL_law_X8_word
set_option maxRecDepth 20000 in
theorem ggL_law_X7_count : GoodIn wsL_law wsX7_count := goodIn_r _ [502, 15, 20, 24, 29, 503, 504, 505, 36, 506, 53, 487, 488, 2, 489, 507, 508, 509, 14, 510, 44, 369, 319, 320, 321, 40, 162, 163, 56, 164, 511, 512, 513, 514, 394, 170, 171, 172, 43, 715, 716, 717, 718, 719, 720, 734, 735, 736, 737, 738, 739, 740, 741, 742, 743, 744, 745, 746, 747, 748, 756] (by decide +kernel) (by decide +kernel)
set_option maxRecDepth 20000 in
theorem gL_law_X7_count : GoodIn wsL_law (wsV RL 68 RX7 yX7_count wsX7_count) := goodIn_app (goodIn_of _ (by decide +kernel)) ggL_law_X7_count
set_option maxRecDepth 20000 in
theorem ggL_law_X8_count : GoodIn wsL_law wsX8_count := goodIn_r _ [518, 81, 149, 519, 520, 521, 522, 523, 5, 524, 141, 142, 143, 144, 525, 526, 527, 528, 327, 328, 329, 330, 138, 139, 140, 721, 722, 723, 724, 725, 726, 727, 728, 729, 730, 731, 732, 733] (by decide +kernel) (by decide +kernel)
set_option maxRecDepth 20000 in
theorem gL_law_X8_count : GoodIn wsL_law (wsV RL 71 RX8 yX8_count wsX8_count) := goodIn_app (goodIn_of _ (by decide +kernel)) ggL_law_X8_count
set_option maxRecDepth 20000 in
theorem ggL_law_X7_composed : GoodIn wsL_law wsX7_composed := goodIn_r _ [532, 15, 28, 90, 91, 2, 92, 408, 225, 226, 36, 227, 228, 122, 123, 124, 53, 121, 409, 231, 232, 233, 410, 252, 253, 254, 255, 256, 257, 213, 214, 215, 27, 216, 217, 218, 219, 220, 221, 222, 223, 224, 229, 230, 234, 235, 236, 237, 238, 239, 240, 241, 242, 243, 244, 245, 246, 247, 248, 249, 250, 251, 258, 259, 260, 261, 262, 263, 264, 265, 715, 716, 717, 718, 719, 720, 734, 735, 736, 737, 738, 739, 740, 741, 742, 743, 744, 749, 750, 751, 752, 753, 754, 755, 756] (by decide +kernel) (by decide +kernel)
set_option maxRecDepth 20000 in
theorem gL_law_X7_composed : GoodIn wsL_law (wsV RL 72 RX7 yX7_composed wsX7_composed) := goodIn_app (goodIn_of _ (by decide +kernel)) ggL_law_X7_composed
set_option maxRecDepth 20000 in
theorem ggL_law_X8_composed : GoodIn wsL_law wsX8_composed := goodIn_r _ [536, 270, 287, 138, 139, 5, 140, 279, 280, 281, 282, 141, 142, 143, 144, 81, 288, 289, 290, 299, 300, 301, 283, 284, 285, 286, 291, 292, 293, 294, 295, 296, 297, 298, 302, 303, 304, 305, 427, 428, 429, 721, 722, 723, 724, 725, 726, 727, 728, 729, 730, 731, 732, 733] (by decide +kernel) (by decide +kernel)
set_option maxRecDepth 20000 in
theorem gL_law_X8_composed : GoodIn wsL_law (wsV RL 76 RX8 yX8_composed wsX8_composed) := goodIn_app (goodIn_of _ (by decide +kernel)) ggL_law_X8_composed
set_option maxRecDepth 20000 in
theorem ggL_law_X7_goesWith : GoodIn wsL_law wsX7_goesWith := goodIn_r _ [540, 15, 28, 90, 91, 2, 92, 408, 225, 226, 36, 227, 228, 122, 123, 124, 53, 213, 214, 215, 27, 216, 217, 218, 219, 220, 221, 222, 223, 224, 229, 230, 231, 232, 233, 234, 235, 236, 237, 238, 239, 240, 241, 242, 243, 244, 245, 246, 247, 248, 249, 250, 251, 252, 253, 254, 255, 256, 257, 258, 259, 260, 261, 262, 263, 264, 265, 412, 413, 414, 715, 716, 717, 718, 719, 720, 734, 735, 736, 737, 738, 739, 740, 741, 742, 743, 744, 749, 750, 751, 752, 753, 754, 755, 756] (by decide +kernel) (by decide +kernel)
set_option maxRecDepth 20000 in
theorem gL_law_X7_goesWith : GoodIn wsL_law (wsV RL 77 RX7 yX7_goesWith wsX7_goesWith) := goodIn_app (goodIn_of _ (by decide +kernel)) ggL_law_X7_goesWith
set_option maxRecDepth 20000 in
theorem ggL_law_X8_goesWith : GoodIn wsL_law wsX8_goesWith := goodIn_r _ [544, 287, 138, 139, 5, 140, 141, 142, 143, 144, 81, 283, 284, 285, 286, 270, 288, 289, 290, 291, 292, 293, 294, 295, 296, 297, 298, 299, 300, 301, 302, 303, 304, 305, 427, 428, 429, 721, 722, 723, 724, 725, 726, 727, 728, 729, 730, 731, 732, 733] (by decide +kernel) (by decide +kernel)
set_option maxRecDepth 20000 in
theorem gL_law_X8_goesWith : GoodIn wsL_law (wsV RL 80 RX8 yX8_goesWith wsX8_goesWith) := goodIn_app (goodIn_of _ (by decide +kernel)) ggL_law_X8_goesWith
set_option maxRecDepth 20000 in
theorem ggL_law_X7_quality : GoodIn wsL_law wsX7_quality := goodIn_r _ [548, 15, 549, 550, 551, 2, 552, 201, 202, 203, 14, 204, 205, 206, 207, 208, 44, 209, 210, 211, 212, 41, 42, 162, 163, 56, 164, 408, 225, 226, 36, 227, 228, 122, 123, 124, 53, 447, 448, 449, 450, 37, 370, 159, 160, 161, 39, 438, 439, 232, 440, 441, 231, 233, 451, 452, 247, 248, 249, 250, 239, 240, 241, 251, 252, 253, 254, 255, 256, 257, 553, 554, 555, 556, 557, 715, 716, 717, 718, 719, 720, 734, 735, 736, 737, 738, 739, 740, 741, 742, 743, 744, 756] (by decide +kernel) (by decide +kernel)
set_option maxRecDepth 20000 in
theorem gL_law_X7_quality : GoodIn wsL_law (wsV RL 81 RX7 yX7_quality wsX7_quality) := goodIn_app (goodIn_of _ (by decide +kernel)) ggL_law_X7_quality
set_option maxRecDepth 20000 in
theorem ggL_law_X8_quality : GoodIn wsL_law wsX8_quality := goodIn_r _ [561, 81, 275, 276, 277, 5, 278, 141, 142, 143, 144, 461, 462, 463, 464, 185, 186, 187, 188, 288, 289, 290, 302, 303, 304, 305, 299, 300, 301, 562, 563, 564, 565, 566, 567, 568, 569, 570, 571, 572, 573, 721, 722, 723, 724, 725, 726, 727, 728, 729, 730, 731, 732, 733] (by decide +kernel) (by decide +kernel)
set_option maxRecDepth 20000 in
theorem gL_law_X8_quality : GoodIn wsL_law (wsV RL 84 RX8 yX8_quality wsX8_quality) := goodIn_app (goodIn_of _ (by decide +kernel)) ggL_law_X8_quality
set_option maxRecDepth 20000 in
theorem ggL_law_X7_bareIn : GoodIn wsL_law wsX7_bareIn := goodIn_r _ [577, 15, 578, 239, 240, 241, 579, 366, 367, 14, 368, 369, 319, 320, 321, 40, 162, 163, 56, 164, 370, 159, 160, 161, 39, 371, 372, 373, 374, 45, 375, 376, 232, 377, 378, 252, 253, 254, 255, 256, 257, 169, 170, 171, 172, 43, 318, 715, 716, 717, 718, 719, 720, 734, 735, 736, 737, 738, 739, 740, 741, 742, 743, 744] (by decide +kernel) (by decide +kernel)
set_option maxRecDepth 20000 in
theorem gL_law_X7_bareIn : GoodIn wsL_law (wsV RL 85 RX7 yX7_bareIn wsX7_bareIn) := goodIn_app (goodIn_of _ (by decide +kernel)) ggL_law_X7_bareIn
set_option maxRecDepth 20000 in
theorem ggL_law_X8_bareIn : GoodIn wsL_law wsX8_bareIn := goodIn_r _ [583, 81, 383, 384, 385, 5, 386, 185, 186, 187, 188, 327, 328, 329, 330, 299, 300, 301, 427, 428, 429, 721, 722, 723, 724, 725, 726, 727, 728, 729, 730, 731, 732, 733] (by decide +kernel) (by decide +kernel)
set_option maxRecDepth 20000 in
theorem gL_law_X8_bareIn : GoodIn wsL_law (wsV RL 88 RX8 yX8_bareIn wsX8_bareIn) := goodIn_app (goodIn_of _ (by decide +kernel)) ggL_law_X8_bareIn
set_option maxRecDepth 20000 in
theorem ggL_law_X7_keep : GoodIn wsL_law wsX7_keep := goodIn_r _ [587, 16, 15, 29, 588, 110, 111, 14, 112, 37, 39, 40, 41, 42, 43, 44, 45, 46, 47, 48, 113, 114, 115, 36, 116, 53, 117, 118, 56, 119, 120, 715, 716, 717, 718, 719, 720, 734, 735, 736, 737, 738, 739, 740, 741, 742, 743, 744, 756] (by decide +kernel) (by decide +kernel)
set_option maxRecDepth 20000 in
theorem gL_law_X7_keep : GoodIn wsL_law (wsV RL 89 RX7 yX7_keep wsX7_keep) := goodIn_app (goodIn_of _ (by decide +kernel)) ggL_law_X7_keep
set_option maxRecDepth 20000 in
theorem ggL_law_X8_keep : GoodIn wsL_law wsX8_keep := goodIn_r _ [592, 83, 81, 520, 721, 722, 723, 724, 725, 726, 727, 728, 729, 730, 731, 732, 733] (by decide +kernel) (by decide +kernel)
set_option maxRecDepth 20000 in
theorem gL_law_X8_keep : GoodIn wsL_law (wsV RL 92 RX8 yX8_keep wsX8_keep) := goodIn_app (goodIn_of _ (by decide +kernel)) ggL_law_X8_keep
set_option maxRecDepth 20000 in
theorem ggL_law_X7_restore : GoodIn wsL_law wsX7_restore := goodIn_r _ [596, 29, 20, 15, 16, 101, 102, 103, 19, 104, 67, 66, 105, 106, 107, 108, 109, 110, 111, 14, 112, 37, 39, 40, 41, 42, 43, 44, 45, 46, 47, 48, 113, 114, 115, 36, 116, 53, 117, 118, 56, 119, 120, 588, 715, 716, 717, 718, 719, 720, 734, 735, 736, 737, 738, 739, 740, 741, 742, 743, 744, 745, 746, 756] (by decide +kernel) (by decide +kernel)
set_option maxRecDepth 20000 in
theorem gL_law_X7_restore : GoodIn wsL_law (wsV RL 93 RX7 yX7_restore wsX7_restore) := goodIn_app (goodIn_of _ (by decide +kernel)) ggL_law_X7_restore
set_option maxRecDepth 20000 in
theorem ggL_law_X8_restore : GoodIn wsL_law wsX8_restore := goodIn_r _ [600, 520, 81, 83, 134, 135, 136, 5, 137, 82, 145, 146, 147, 148, 149, 84, 721, 722, 723, 724, 725, 726, 727, 728, 729, 730, 731, 732, 733] (by decide +kernel) (by decide +kernel)
set_option maxRecDepth 20000 in
theorem gL_law_X8_restore : GoodIn wsL_law (wsV RL 96 RX8 yX8_restore wsX8_restore) := goodIn_app (goodIn_of _ (by decide +kernel)) ggL_law_X8_restore
set_option maxRecDepth 20000 in
theorem ggL_law_X7_undo : GoodIn wsL_law wsX7_undo := goodIn_r _ [604, 20, 15, 605, 606, 607, 19, 608, 67, 66, 109, 110, 111, 14, 112, 37, 39, 40, 41, 42, 43, 44, 45, 46, 47, 48, 113, 114, 115, 36, 116, 53, 117, 118, 56, 119, 120, 715, 716, 717, 718, 719, 720, 745, 746, 734, 735, 736, 737, 738, 739, 740, 741, 742, 743, 744, 756] (by decide +kernel) (by decide +kernel)
set_option maxRecDepth 20000 in
theorem gL_law_X7_undo : GoodIn wsL_law (wsV RL 97 RX7 yX7_undo wsX7_undo) := goodIn_app (goodIn_of _ (by decide +kernel)) ggL_law_X7_undo
set_option maxRecDepth 20000 in
theorem ggL_law_X8_undo : GoodIn wsL_law wsX8_undo := goodIn_r _ [612, 149, 81, 84, 721, 722, 723, 724, 725, 726, 727, 728, 729, 730, 731, 732, 733] (by decide +kernel) (by decide +kernel)
set_option maxRecDepth 20000 in
theorem gL_law_X8_undo : GoodIn wsL_law (wsV RL 100 RX8 yX8_undo wsX8_undo) := goodIn_app (goodIn_of _ (by decide +kernel)) ggL_law_X8_undo
set_option maxRecDepth 20000 in
theorem ggL_law_X7_type : GoodIn wsL_law wsX7_type := goodIn_r _ [616, 24, 617, 618, 619, 23, 620, 73, 72, 715, 716, 717, 718, 719, 720, 747, 748] (by decide +kernel) (by decide +kernel)
set_option maxRecDepth 20000 in
theorem gL_law_X7_type : GoodIn wsL_law (wsV RL 101 RX7 yX7_type wsX7_type) := goodIn_app (goodIn_of _ (by decide +kernel)) ggL_law_X7_type
set_option maxRecDepth 20000 in
theorem ggL_law_X8_type : GoodIn wsL_law wsX8_type := goodIn_r _ [624, 519, 85, 138, 139, 5, 140, 721, 722, 723, 724, 725, 726, 727, 728, 729, 730, 731, 732, 733] (by decide +kernel) (by decide +kernel)
set_option maxRecDepth 20000 in
theorem gL_law_X8_type : GoodIn wsL_law (wsV RL 104 RX8 yX8_type wsX8_type) := goodIn_app (goodIn_of _ (by decide +kernel)) ggL_law_X8_type
set_option maxRecDepth 20000 in
theorem ggL_law_X7_clearText : GoodIn wsL_law wsX7_clearText := goodIn_r _ [628, 24, 715, 716, 717, 718, 719, 720, 747, 748] (by decide +kernel) (by decide +kernel)
set_option maxRecDepth 20000 in
theorem gL_law_X7_clearText : GoodIn wsL_law (wsV RL 105 RX7 yX7_clearText wsX7_clearText) := goodIn_app (goodIn_of _ (by decide +kernel)) ggL_law_X7_clearText
set_option maxRecDepth 20000 in
theorem ggL_law_X8_clearText : GoodIn wsL_law wsX8_clearText := goodIn_r _ [632, 519, 721, 722, 723, 724, 725, 726, 727, 728, 729, 730, 731, 732, 733] (by decide +kernel) (by decide +kernel)
set_option maxRecDepth 20000 in
theorem gL_law_X8_clearText : GoodIn wsL_law (wsV RL 108 RX8 yX8_clearText wsX8_clearText) := goodIn_app (goodIn_of _ (by decide +kernel)) ggL_law_X8_clearText
set_option maxRecDepth 20000 in
theorem ggL_law_X7_fault : GoodIn wsL_law wsX7_fault := goodIn_r _ [636, 24, 15, 391, 392, 2, 393, 637, 638, 639, 23, 640, 641, 642, 643, 644, 645, 239, 240, 241, 73, 646, 647, 648, 649, 650, 651, 652, 653, 654, 655, 656, 657, 72, 658, 163, 56, 164, 659, 660, 661, 662, 663, 664, 665, 666, 667, 668, 669, 670, 225, 226, 36, 227, 228, 122, 123, 124, 53, 671, 672, 673, 674, 675, 676, 715, 716, 717, 718, 719, 720, 734, 735, 736, 737, 738, 739, 740, 741, 742, 743, 744, 747, 748, 756] (by decide +kernel) (by decide +kernel)
set_option maxRecDepth 20000 in
theorem gL_law_X7_fault : GoodIn wsL_law (wsV RL 109 RX7 yX7_fault wsX7_fault) := goodIn_app (goodIn_of _ (by decide +kernel)) ggL_law_X7_fault
set_option maxRecDepth 20000 in
theorem ggL_law_X8_fault : GoodIn wsL_law wsX8_fault := goodIn_r _ [680, 681, 682, 138, 139, 5, 140, 683, 684, 685, 686, 519, 687, 85, 688, 689, 690, 691, 692, 693, 694, 695, 696, 697, 698, 699, 141, 142, 143, 144, 81, 721, 722, 723, 724, 725, 726, 727, 728, 729, 730, 731, 732, 733] (by decide +kernel) (by decide +kernel)
set_option maxRecDepth 20000 in
theorem gL_law_X8_fault : GoodIn wsL_law (wsV RL 112 RX8 yX8_fault wsX8_fault) := goodIn_app (goodIn_of _ (by decide +kernel)) ggL_law_X8_fault
set_option maxRecDepth 20000 in
theorem ggL_law_X7_read : GoodIn wsL_law wsX7_read := goodIn_r _ [703, 24, 15, 20, 637, 638, 639, 23, 640, 641, 642, 643, 644, 645, 239, 240, 241, 73, 646, 647, 648, 649, 650, 651, 652, 653, 654, 655, 656, 657, 72, 658, 163, 56, 164, 659, 660, 661, 662, 663, 664, 665, 666, 667, 668, 669, 670, 225, 226, 36, 227, 228, 122, 123, 124, 53, 101, 102, 103, 19, 104, 67, 66, 105, 106, 107, 108, 109, 110, 111, 14, 112, 37, 39, 40, 41, 42, 43, 44, 45, 46, 47, 48, 113, 114, 115, 116, 117, 118, 119, 120, 704, 705, 706, 707, 708, 709, 55, 57, 710, 395, 59, 60, 715, 716, 717, 718, 719, 720, 734, 735, 736, 737, 738, 739, 740, 741, 742, 743, 744, 747, 748, 756, 745, 746] (by decide +kernel) (by decide +kernel)
set_option maxRecDepth 20000 in
theorem gL_law_X7_read : GoodIn wsL_law (wsV RL 113 RX7 yX7_read wsX7_read) := goodIn_app (goodIn_of _ (by decide +kernel)) ggL_law_X7_read
set_option maxRecDepth 20000 in
theorem ggL_law_X8_read : GoodIn wsL_law wsX8_read := goodIn_r _ [714, 81, 687, 85, 134, 135, 136, 5, 137, 82, 683, 684, 685, 686, 519, 688, 689, 690, 691, 692, 693, 694, 695, 138, 139, 140, 696, 697, 698, 699, 681, 682, 141, 142, 143, 144, 145, 146, 147, 148, 149, 84, 721, 722, 723, 724, 725, 726, 727, 728, 729, 730, 731, 732, 733] (by decide +kernel) (by decide +kernel)
set_option maxRecDepth 20000 in
theorem gL_law_X8_read : GoodIn wsL_law (wsV RL 116 RX8 yX8_read wsX8_read) := goodIn_app (goodIn_of _ (by decide +kernel)) ggL_law_X8_read
theorem dL_law_0 : decode cL_law 0 = .ok (.new 7, 3) := by decide +kernel
theorem dL_law_3 : decode cL_law 3 = .ok (.dup, 1) := by decide +kernel
theorem dL_law_4 : decode cL_law 4 = .ok (.invokespecial 9, 3) := by decide +kernel
theorem dL_law_7 : decode cL_law 7 = .ok (.astore_n 1, 1) := by decide +kernel
theorem dL_law_8 : decode cL_law 8 = .ok (.new 10, 3) := by decide +kernel
theorem dL_law_11 : decode cL_law 11 = .ok (.dup, 1) := by decide +kernel
theorem dL_law_12 : decode cL_law 12 = .ok (.invokespecial 12, 3) := by decide +kernel
theorem dL_law_15 : decode cL_law 15 = .ok (.astore_n 2, 1) := by decide +kernel
theorem dL_law_16 : decode cL_law 16 = .ok (.iconst 0, 1) := by decide +kernel
theorem dL_law_17 : decode cL_law 17 = .ok (.istore_n 3, 1) := by decide +kernel
theorem dL_law_18 : decode cL_law 18 = .ok (.iload_n 3, 1) := by decide +kernel
theorem dL_law_19 : decode cL_law 19 = .ok (.aload_n 0, 1) := by decide +kernel
theorem dL_law_20 : decode cL_law 20 = .ok (.arraylength, 1) := by decide +kernel
theorem dL_law_21 : decode cL_law 21 = .ok (.iconst 4, 1) := by decide +kernel
theorem dL_law_22 : decode cL_law 22 = .ok (.isub, 1) := by decide +kernel
theorem dL_law_23 : decode cL_law 23 = .ok (.if_icmp .gt 716, 3) := by decide +kernel
theorem dL_law_26 : decode cL_law 26 = .ok (.aload_n 0, 1) := by decide +kernel
theorem dL_law_27 : decode cL_law 27 = .ok (.iload_n 3, 1) := by decide +kernel
theorem dL_law_28 : decode cL_law 28 = .ok (.iaload, 1) := by decide +kernel
theorem dL_law_29 : decode cL_law 29 = .ok (.bipush 31, 2) := by decide +kernel
theorem dL_law_31 : decode cL_law 31 = .ok (.iand, 1) := by decide +kernel
theorem dL_law_32 : decode cL_law 32 = .ok (.tableswitch 701 0 24 #[116, 149, 182, 205, 218, 241, 264, 287, 310, 343, 376, 409, 442, 475, 498, 541, 564, 577, 590, 603, 616, 629, 652, 665, 688], 116) := by decide +kernel
theorem dL_law_148 : decode cL_law 148 = .ok (.aload_n 1, 1) := by decide +kernel
theorem dL_law_149 : decode cL_law 149 = .ok (.aload_n 0, 1) := by decide +kernel
theorem dL_law_150 : decode cL_law 150 = .ok (.iload_n 3, 1) := by decide +kernel
theorem dL_law_151 : decode cL_law 151 = .ok (.iconst 1, 1) := by decide +kernel
theorem dL_law_152 : decode cL_law 152 = .ok (.iadd, 1) := by decide +kernel
theorem dL_law_153 : decode cL_law 153 = .ok (.iaload, 1) := by decide +kernel
theorem dL_law_154 : decode cL_law 154 = .ok (.aload_n 0, 1) := by decide +kernel
theorem dL_law_155 : decode cL_law 155 = .ok (.iload_n 3, 1) := by decide +kernel
theorem dL_law_156 : decode cL_law 156 = .ok (.iconst 2, 1) := by decide +kernel
theorem dL_law_157 : decode cL_law 157 = .ok (.iadd, 1) := by decide +kernel
theorem dL_law_158 : decode cL_law 158 = .ok (.iaload, 1) := by decide +kernel
theorem dL_law_159 : decode cL_law 159 = .ok (.invokevirtual 13, 3) := by decide +kernel
theorem dL_law_162 : decode cL_law 162 = .ok (.aload_n 2, 1) := by decide +kernel
theorem dL_law_163 : decode cL_law 163 = .ok (.aload_n 0, 1) := by decide +kernel
theorem dL_law_164 : decode cL_law 164 = .ok (.iload_n 3, 1) := by decide +kernel
theorem dL_law_165 : decode cL_law 165 = .ok (.iconst 1, 1) := by decide +kernel
theorem dL_law_166 : decode cL_law 166 = .ok (.iadd, 1) := by decide +kernel
theorem dL_law_167 : decode cL_law 167 = .ok (.iaload, 1) := by decide +kernel
theorem dL_law_168 : decode cL_law 168 = .ok (.aload_n 0, 1) := by decide +kernel
theorem dL_law_169 : decode cL_law 169 = .ok (.iload_n 3, 1) := by decide +kernel
theorem dL_law_170 : decode cL_law 170 = .ok (.iconst 2, 1) := by decide +kernel
theorem dL_law_171 : decode cL_law 171 = .ok (.iadd, 1) := by decide +kernel
theorem dL_law_172 : decode cL_law 172 = .ok (.iaload, 1) := by decide +kernel
theorem dL_law_173 : decode cL_law 173 = .ok (.invokevirtual 17, 3) := by decide +kernel
theorem dL_law_176 : decode cL_law 176 = .ok (.if_icmp .eq 557, 3) := by decide +kernel
theorem dL_law_179 : decode cL_law 179 = .ok (.iconst 0, 1) := by decide +kernel
theorem dL_law_180 : decode cL_law 180 = .ok (.ireturn, 1) := by decide +kernel
theorem dL_law_181 : decode cL_law 181 = .ok (.aload_n 1, 1) := by decide +kernel
theorem dL_law_182 : decode cL_law 182 = .ok (.aload_n 0, 1) := by decide +kernel
theorem dL_law_183 : decode cL_law 183 = .ok (.iload_n 3, 1) := by decide +kernel
theorem dL_law_184 : decode cL_law 184 = .ok (.iconst 1, 1) := by decide +kernel
theorem dL_law_185 : decode cL_law 185 = .ok (.iadd, 1) := by decide +kernel
theorem dL_law_186 : decode cL_law 186 = .ok (.iaload, 1) := by decide +kernel
theorem dL_law_187 : decode cL_law 187 = .ok (.aload_n 0, 1) := by decide +kernel
theorem dL_law_188 : decode cL_law 188 = .ok (.iload_n 3, 1) := by decide +kernel
theorem dL_law_189 : decode cL_law 189 = .ok (.iconst 2, 1) := by decide +kernel
theorem dL_law_190 : decode cL_law 190 = .ok (.iadd, 1) := by decide +kernel
theorem dL_law_191 : decode cL_law 191 = .ok (.iaload, 1) := by decide +kernel
theorem dL_law_192 : decode cL_law 192 = .ok (.invokevirtual 18, 3) := by decide +kernel
theorem dL_law_195 : decode cL_law 195 = .ok (.aload_n 2, 1) := by decide +kernel
theorem dL_law_196 : decode cL_law 196 = .ok (.aload_n 0, 1) := by decide +kernel
theorem dL_law_197 : decode cL_law 197 = .ok (.iload_n 3, 1) := by decide +kernel
theorem dL_law_198 : decode cL_law 198 = .ok (.iconst 1, 1) := by decide +kernel
theorem dL_law_199 : decode cL_law 199 = .ok (.iadd, 1) := by decide +kernel
theorem dL_law_200 : decode cL_law 200 = .ok (.iaload, 1) := by decide +kernel
theorem dL_law_201 : decode cL_law 201 = .ok (.aload_n 0, 1) := by decide +kernel
theorem dL_law_202 : decode cL_law 202 = .ok (.iload_n 3, 1) := by decide +kernel
theorem dL_law_203 : decode cL_law 203 = .ok (.iconst 2, 1) := by decide +kernel
theorem dL_law_204 : decode cL_law 204 = .ok (.iadd, 1) := by decide +kernel
theorem dL_law_205 : decode cL_law 205 = .ok (.iaload, 1) := by decide +kernel
theorem dL_law_206 : decode cL_law 206 = .ok (.invokevirtual 21, 3) := by decide +kernel
theorem dL_law_209 : decode cL_law 209 = .ok (.if_icmp .eq 524, 3) := by decide +kernel
theorem dL_law_212 : decode cL_law 212 = .ok (.iconst 0, 1) := by decide +kernel
theorem dL_law_213 : decode cL_law 213 = .ok (.ireturn, 1) := by decide +kernel
theorem dL_law_214 : decode cL_law 214 = .ok (.aload_n 1, 1) := by decide +kernel
theorem dL_law_215 : decode cL_law 215 = .ok (.aload_n 0, 1) := by decide +kernel
theorem dL_law_216 : decode cL_law 216 = .ok (.iload_n 3, 1) := by decide +kernel
theorem dL_law_217 : decode cL_law 217 = .ok (.iconst 1, 1) := by decide +kernel
theorem dL_law_218 : decode cL_law 218 = .ok (.iadd, 1) := by decide +kernel
theorem dL_law_219 : decode cL_law 219 = .ok (.iaload, 1) := by decide +kernel
theorem dL_law_220 : decode cL_law 220 = .ok (.invokevirtual 22, 3) := by decide +kernel
theorem dL_law_223 : decode cL_law 223 = .ok (.aload_n 2, 1) := by decide +kernel
theorem dL_law_224 : decode cL_law 224 = .ok (.aload_n 0, 1) := by decide +kernel
theorem dL_law_225 : decode cL_law 225 = .ok (.iload_n 3, 1) := by decide +kernel
theorem dL_law_226 : decode cL_law 226 = .ok (.iconst 1, 1) := by decide +kernel
theorem dL_law_227 : decode cL_law 227 = .ok (.iadd, 1) := by decide +kernel
theorem dL_law_228 : decode cL_law 228 = .ok (.iaload, 1) := by decide +kernel
theorem dL_law_229 : decode cL_law 229 = .ok (.invokevirtual 26, 3) := by decide +kernel
theorem dL_law_232 : decode cL_law 232 = .ok (.if_icmp .eq 501, 3) := by decide +kernel
theorem dL_law_235 : decode cL_law 235 = .ok (.iconst 0, 1) := by decide +kernel
theorem dL_law_236 : decode cL_law 236 = .ok (.ireturn, 1) := by decide +kernel
theorem dL_law_237 : decode cL_law 237 = .ok (.aload_n 1, 1) := by decide +kernel
theorem dL_law_238 : decode cL_law 238 = .ok (.invokevirtual 27, 3) := by decide +kernel
theorem dL_law_241 : decode cL_law 241 = .ok (.aload_n 2, 1) := by decide +kernel
theorem dL_law_242 : decode cL_law 242 = .ok (.invokevirtual 31, 3) := by decide +kernel
theorem dL_law_245 : decode cL_law 245 = .ok (.if_icmp .eq 488, 3) := by decide +kernel
theorem dL_law_248 : decode cL_law 248 = .ok (.iconst 0, 1) := by decide +kernel
theorem dL_law_249 : decode cL_law 249 = .ok (.ireturn, 1) := by decide +kernel
theorem dL_law_250 : decode cL_law 250 = .ok (.aload_n 1, 1) := by decide +kernel
theorem dL_law_251 : decode cL_law 251 = .ok (.aload_n 0, 1) := by decide +kernel
theorem dL_law_252 : decode cL_law 252 = .ok (.iload_n 3, 1) := by decide +kernel
theorem dL_law_253 : decode cL_law 253 = .ok (.iconst 1, 1) := by decide +kernel
theorem dL_law_254 : decode cL_law 254 = .ok (.iadd, 1) := by decide +kernel
theorem dL_law_255 : decode cL_law 255 = .ok (.iaload, 1) := by decide +kernel
theorem dL_law_256 : decode cL_law 256 = .ok (.invokevirtual 32, 3) := by decide +kernel
theorem dL_law_259 : decode cL_law 259 = .ok (.aload_n 2, 1) := by decide +kernel
theorem dL_law_260 : decode cL_law 260 = .ok (.aload_n 0, 1) := by decide +kernel
theorem dL_law_261 : decode cL_law 261 = .ok (.iload_n 3, 1) := by decide +kernel
theorem dL_law_262 : decode cL_law 262 = .ok (.iconst 1, 1) := by decide +kernel
theorem dL_law_263 : decode cL_law 263 = .ok (.iadd, 1) := by decide +kernel
theorem dL_law_264 : decode cL_law 264 = .ok (.iaload, 1) := by decide +kernel
theorem dL_law_265 : decode cL_law 265 = .ok (.invokevirtual 35, 3) := by decide +kernel
theorem dL_law_268 : decode cL_law 268 = .ok (.if_icmp .eq 465, 3) := by decide +kernel
theorem dL_law_271 : decode cL_law 271 = .ok (.iconst 0, 1) := by decide +kernel
theorem dL_law_272 : decode cL_law 272 = .ok (.ireturn, 1) := by decide +kernel
theorem dL_law_273 : decode cL_law 273 = .ok (.aload_n 1, 1) := by decide +kernel
theorem dL_law_274 : decode cL_law 274 = .ok (.aload_n 0, 1) := by decide +kernel
theorem dL_law_275 : decode cL_law 275 = .ok (.iload_n 3, 1) := by decide +kernel
theorem dL_law_276 : decode cL_law 276 = .ok (.iconst 1, 1) := by decide +kernel
theorem dL_law_277 : decode cL_law 277 = .ok (.iadd, 1) := by decide +kernel
theorem dL_law_278 : decode cL_law 278 = .ok (.iaload, 1) := by decide +kernel
theorem dL_law_279 : decode cL_law 279 = .ok (.invokevirtual 36, 3) := by decide +kernel
theorem dL_law_282 : decode cL_law 282 = .ok (.aload_n 2, 1) := by decide +kernel
theorem dL_law_283 : decode cL_law 283 = .ok (.aload_n 0, 1) := by decide +kernel
theorem dL_law_284 : decode cL_law 284 = .ok (.iload_n 3, 1) := by decide +kernel
theorem dL_law_285 : decode cL_law 285 = .ok (.iconst 1, 1) := by decide +kernel
theorem dL_law_286 : decode cL_law 286 = .ok (.iadd, 1) := by decide +kernel
theorem dL_law_287 : decode cL_law 287 = .ok (.iaload, 1) := by decide +kernel
theorem dL_law_288 : decode cL_law 288 = .ok (.invokevirtual 39, 3) := by decide +kernel
theorem dL_law_291 : decode cL_law 291 = .ok (.if_icmp .eq 442, 3) := by decide +kernel
theorem dL_law_294 : decode cL_law 294 = .ok (.iconst 0, 1) := by decide +kernel
theorem dL_law_295 : decode cL_law 295 = .ok (.ireturn, 1) := by decide +kernel
theorem dL_law_296 : decode cL_law 296 = .ok (.aload_n 1, 1) := by decide +kernel
theorem dL_law_297 : decode cL_law 297 = .ok (.aload_n 0, 1) := by decide +kernel
theorem dL_law_298 : decode cL_law 298 = .ok (.iload_n 3, 1) := by decide +kernel
theorem dL_law_299 : decode cL_law 299 = .ok (.iconst 1, 1) := by decide +kernel
theorem dL_law_300 : decode cL_law 300 = .ok (.iadd, 1) := by decide +kernel
theorem dL_law_301 : decode cL_law 301 = .ok (.iaload, 1) := by decide +kernel
theorem dL_law_302 : decode cL_law 302 = .ok (.invokevirtual 40, 3) := by decide +kernel
theorem dL_law_305 : decode cL_law 305 = .ok (.aload_n 2, 1) := by decide +kernel
theorem dL_law_306 : decode cL_law 306 = .ok (.aload_n 0, 1) := by decide +kernel
theorem dL_law_307 : decode cL_law 307 = .ok (.iload_n 3, 1) := by decide +kernel
theorem dL_law_308 : decode cL_law 308 = .ok (.iconst 1, 1) := by decide +kernel
theorem dL_law_309 : decode cL_law 309 = .ok (.iadd, 1) := by decide +kernel
theorem dL_law_310 : decode cL_law 310 = .ok (.iaload, 1) := by decide +kernel
theorem dL_law_311 : decode cL_law 311 = .ok (.invokevirtual 43, 3) := by decide +kernel
theorem dL_law_314 : decode cL_law 314 = .ok (.if_icmp .eq 419, 3) := by decide +kernel
theorem dL_law_317 : decode cL_law 317 = .ok (.iconst 0, 1) := by decide +kernel
theorem dL_law_318 : decode cL_law 318 = .ok (.ireturn, 1) := by decide +kernel
theorem dL_law_319 : decode cL_law 319 = .ok (.aload_n 1, 1) := by decide +kernel
theorem dL_law_320 : decode cL_law 320 = .ok (.aload_n 0, 1) := by decide +kernel
theorem dL_law_321 : decode cL_law 321 = .ok (.iload_n 3, 1) := by decide +kernel
theorem dL_law_322 : decode cL_law 322 = .ok (.iconst 1, 1) := by decide +kernel
theorem dL_law_323 : decode cL_law 323 = .ok (.iadd, 1) := by decide +kernel
theorem dL_law_324 : decode cL_law 324 = .ok (.iaload, 1) := by decide +kernel
theorem dL_law_325 : decode cL_law 325 = .ok (.invokevirtual 44, 3) := by decide +kernel
theorem dL_law_328 : decode cL_law 328 = .ok (.aload_n 2, 1) := by decide +kernel
theorem dL_law_329 : decode cL_law 329 = .ok (.aload_n 0, 1) := by decide +kernel
theorem dL_law_330 : decode cL_law 330 = .ok (.iload_n 3, 1) := by decide +kernel
theorem dL_law_331 : decode cL_law 331 = .ok (.iconst 1, 1) := by decide +kernel
theorem dL_law_332 : decode cL_law 332 = .ok (.iadd, 1) := by decide +kernel
theorem dL_law_333 : decode cL_law 333 = .ok (.iaload, 1) := by decide +kernel
theorem dL_law_334 : decode cL_law 334 = .ok (.invokevirtual 47, 3) := by decide +kernel
theorem dL_law_337 : decode cL_law 337 = .ok (.if_icmp .eq 396, 3) := by decide +kernel
theorem dL_law_340 : decode cL_law 340 = .ok (.iconst 0, 1) := by decide +kernel
theorem dL_law_341 : decode cL_law 341 = .ok (.ireturn, 1) := by decide +kernel
theorem dL_law_342 : decode cL_law 342 = .ok (.aload_n 1, 1) := by decide +kernel
theorem dL_law_343 : decode cL_law 343 = .ok (.aload_n 0, 1) := by decide +kernel
theorem dL_law_344 : decode cL_law 344 = .ok (.iload_n 3, 1) := by decide +kernel
theorem dL_law_345 : decode cL_law 345 = .ok (.iconst 1, 1) := by decide +kernel
theorem dL_law_346 : decode cL_law 346 = .ok (.iadd, 1) := by decide +kernel
theorem dL_law_347 : decode cL_law 347 = .ok (.iaload, 1) := by decide +kernel
theorem dL_law_348 : decode cL_law 348 = .ok (.aload_n 0, 1) := by decide +kernel
theorem dL_law_349 : decode cL_law 349 = .ok (.iload_n 3, 1) := by decide +kernel
theorem dL_law_350 : decode cL_law 350 = .ok (.iconst 2, 1) := by decide +kernel
theorem dL_law_351 : decode cL_law 351 = .ok (.iadd, 1) := by decide +kernel
theorem dL_law_352 : decode cL_law 352 = .ok (.iaload, 1) := by decide +kernel
theorem dL_law_353 : decode cL_law 353 = .ok (.invokevirtual 48, 3) := by decide +kernel
theorem dL_law_356 : decode cL_law 356 = .ok (.aload_n 2, 1) := by decide +kernel
theorem dL_law_357 : decode cL_law 357 = .ok (.aload_n 0, 1) := by decide +kernel
theorem dL_law_358 : decode cL_law 358 = .ok (.iload_n 3, 1) := by decide +kernel
theorem dL_law_359 : decode cL_law 359 = .ok (.iconst 1, 1) := by decide +kernel
theorem dL_law_360 : decode cL_law 360 = .ok (.iadd, 1) := by decide +kernel
theorem dL_law_361 : decode cL_law 361 = .ok (.iaload, 1) := by decide +kernel
theorem dL_law_362 : decode cL_law 362 = .ok (.aload_n 0, 1) := by decide +kernel
theorem dL_law_363 : decode cL_law 363 = .ok (.iload_n 3, 1) := by decide +kernel
theorem dL_law_364 : decode cL_law 364 = .ok (.iconst 2, 1) := by decide +kernel
theorem dL_law_365 : decode cL_law 365 = .ok (.iadd, 1) := by decide +kernel
theorem dL_law_366 : decode cL_law 366 = .ok (.iaload, 1) := by decide +kernel
theorem dL_law_367 : decode cL_law 367 = .ok (.invokevirtual 51, 3) := by decide +kernel
theorem dL_law_370 : decode cL_law 370 = .ok (.if_icmp .eq 363, 3) := by decide +kernel
theorem dL_law_373 : decode cL_law 373 = .ok (.iconst 0, 1) := by decide +kernel
theorem dL_law_374 : decode cL_law 374 = .ok (.ireturn, 1) := by decide +kernel
theorem dL_law_375 : decode cL_law 375 = .ok (.aload_n 1, 1) := by decide +kernel
theorem dL_law_376 : decode cL_law 376 = .ok (.aload_n 0, 1) := by decide +kernel
theorem dL_law_377 : decode cL_law 377 = .ok (.iload_n 3, 1) := by decide +kernel
theorem dL_law_378 : decode cL_law 378 = .ok (.iconst 1, 1) := by decide +kernel
theorem dL_law_379 : decode cL_law 379 = .ok (.iadd, 1) := by decide +kernel
theorem dL_law_380 : decode cL_law 380 = .ok (.iaload, 1) := by decide +kernel
theorem dL_law_381 : decode cL_law 381 = .ok (.aload_n 0, 1) := by decide +kernel
theorem dL_law_382 : decode cL_law 382 = .ok (.iload_n 3, 1) := by decide +kernel
theorem dL_law_383 : decode cL_law 383 = .ok (.iconst 2, 1) := by decide +kernel
theorem dL_law_384 : decode cL_law 384 = .ok (.iadd, 1) := by decide +kernel
theorem dL_law_385 : decode cL_law 385 = .ok (.iaload, 1) := by decide +kernel
theorem dL_law_386 : decode cL_law 386 = .ok (.invokevirtual 52, 3) := by decide +kernel
theorem dL_law_389 : decode cL_law 389 = .ok (.aload_n 2, 1) := by decide +kernel
theorem dL_law_390 : decode cL_law 390 = .ok (.aload_n 0, 1) := by decide +kernel
theorem dL_law_391 : decode cL_law 391 = .ok (.iload_n 3, 1) := by decide +kernel
theorem dL_law_392 : decode cL_law 392 = .ok (.iconst 1, 1) := by decide +kernel
theorem dL_law_393 : decode cL_law 393 = .ok (.iadd, 1) := by decide +kernel
theorem dL_law_394 : decode cL_law 394 = .ok (.iaload, 1) := by decide +kernel
theorem dL_law_395 : decode cL_law 395 = .ok (.aload_n 0, 1) := by decide +kernel
theorem dL_law_396 : decode cL_law 396 = .ok (.iload_n 3, 1) := by decide +kernel
theorem dL_law_397 : decode cL_law 397 = .ok (.iconst 2, 1) := by decide +kernel
theorem dL_law_398 : decode cL_law 398 = .ok (.iadd, 1) := by decide +kernel
theorem dL_law_399 : decode cL_law 399 = .ok (.iaload, 1) := by decide +kernel
theorem dL_law_400 : decode cL_law 400 = .ok (.invokevirtual 55, 3) := by decide +kernel
theorem dL_law_403 : decode cL_law 403 = .ok (.if_icmp .eq 330, 3) := by decide +kernel
theorem dL_law_406 : decode cL_law 406 = .ok (.iconst 0, 1) := by decide +kernel
theorem dL_law_407 : decode cL_law 407 = .ok (.ireturn, 1) := by decide +kernel
theorem dL_law_408 : decode cL_law 408 = .ok (.aload_n 1, 1) := by decide +kernel
theorem dL_law_409 : decode cL_law 409 = .ok (.aload_n 0, 1) := by decide +kernel
theorem dL_law_410 : decode cL_law 410 = .ok (.iload_n 3, 1) := by decide +kernel
theorem dL_law_411 : decode cL_law 411 = .ok (.iconst 1, 1) := by decide +kernel
theorem dL_law_412 : decode cL_law 412 = .ok (.iadd, 1) := by decide +kernel
theorem dL_law_413 : decode cL_law 413 = .ok (.iaload, 1) := by decide +kernel
theorem dL_law_414 : decode cL_law 414 = .ok (.aload_n 0, 1) := by decide +kernel
theorem dL_law_415 : decode cL_law 415 = .ok (.iload_n 3, 1) := by decide +kernel
theorem dL_law_416 : decode cL_law 416 = .ok (.iconst 2, 1) := by decide +kernel
theorem dL_law_417 : decode cL_law 417 = .ok (.iadd, 1) := by decide +kernel
theorem dL_law_418 : decode cL_law 418 = .ok (.iaload, 1) := by decide +kernel
theorem dL_law_419 : decode cL_law 419 = .ok (.invokevirtual 56, 3) := by decide +kernel
theorem dL_law_422 : decode cL_law 422 = .ok (.aload_n 2, 1) := by decide +kernel
theorem dL_law_423 : decode cL_law 423 = .ok (.aload_n 0, 1) := by decide +kernel
theorem dL_law_424 : decode cL_law 424 = .ok (.iload_n 3, 1) := by decide +kernel
theorem dL_law_425 : decode cL_law 425 = .ok (.iconst 1, 1) := by decide +kernel
theorem dL_law_426 : decode cL_law 426 = .ok (.iadd, 1) := by decide +kernel
theorem dL_law_427 : decode cL_law 427 = .ok (.iaload, 1) := by decide +kernel
theorem dL_law_428 : decode cL_law 428 = .ok (.aload_n 0, 1) := by decide +kernel
theorem dL_law_429 : decode cL_law 429 = .ok (.iload_n 3, 1) := by decide +kernel
theorem dL_law_430 : decode cL_law 430 = .ok (.iconst 2, 1) := by decide +kernel
theorem dL_law_431 : decode cL_law 431 = .ok (.iadd, 1) := by decide +kernel
theorem dL_law_432 : decode cL_law 432 = .ok (.iaload, 1) := by decide +kernel
theorem dL_law_433 : decode cL_law 433 = .ok (.invokevirtual 59, 3) := by decide +kernel
theorem dL_law_436 : decode cL_law 436 = .ok (.if_icmp .eq 297, 3) := by decide +kernel
theorem dL_law_439 : decode cL_law 439 = .ok (.iconst 0, 1) := by decide +kernel
theorem dL_law_440 : decode cL_law 440 = .ok (.ireturn, 1) := by decide +kernel
theorem dL_law_441 : decode cL_law 441 = .ok (.aload_n 1, 1) := by decide +kernel
theorem dL_law_442 : decode cL_law 442 = .ok (.aload_n 0, 1) := by decide +kernel
theorem dL_law_443 : decode cL_law 443 = .ok (.iload_n 3, 1) := by decide +kernel
theorem dL_law_444 : decode cL_law 444 = .ok (.iconst 1, 1) := by decide +kernel
theorem dL_law_445 : decode cL_law 445 = .ok (.iadd, 1) := by decide +kernel
theorem dL_law_446 : decode cL_law 446 = .ok (.iaload, 1) := by decide +kernel
theorem dL_law_447 : decode cL_law 447 = .ok (.aload_n 0, 1) := by decide +kernel
theorem dL_law_448 : decode cL_law 448 = .ok (.iload_n 3, 1) := by decide +kernel
theorem dL_law_449 : decode cL_law 449 = .ok (.iconst 2, 1) := by decide +kernel
theorem dL_law_450 : decode cL_law 450 = .ok (.iadd, 1) := by decide +kernel
theorem dL_law_451 : decode cL_law 451 = .ok (.iaload, 1) := by decide +kernel
theorem dL_law_452 : decode cL_law 452 = .ok (.invokevirtual 60, 3) := by decide +kernel
theorem dL_law_455 : decode cL_law 455 = .ok (.aload_n 2, 1) := by decide +kernel
theorem dL_law_456 : decode cL_law 456 = .ok (.aload_n 0, 1) := by decide +kernel
theorem dL_law_457 : decode cL_law 457 = .ok (.iload_n 3, 1) := by decide +kernel
theorem dL_law_458 : decode cL_law 458 = .ok (.iconst 1, 1) := by decide +kernel
theorem dL_law_459 : decode cL_law 459 = .ok (.iadd, 1) := by decide +kernel
theorem dL_law_460 : decode cL_law 460 = .ok (.iaload, 1) := by decide +kernel
theorem dL_law_461 : decode cL_law 461 = .ok (.aload_n 0, 1) := by decide +kernel
theorem dL_law_462 : decode cL_law 462 = .ok (.iload_n 3, 1) := by decide +kernel
theorem dL_law_463 : decode cL_law 463 = .ok (.iconst 2, 1) := by decide +kernel
theorem dL_law_464 : decode cL_law 464 = .ok (.iadd, 1) := by decide +kernel
theorem dL_law_465 : decode cL_law 465 = .ok (.iaload, 1) := by decide +kernel
theorem dL_law_466 : decode cL_law 466 = .ok (.invokevirtual 63, 3) := by decide +kernel
theorem dL_law_469 : decode cL_law 469 = .ok (.if_icmp .eq 264, 3) := by decide +kernel
theorem dL_law_472 : decode cL_law 472 = .ok (.iconst 0, 1) := by decide +kernel
theorem dL_law_473 : decode cL_law 473 = .ok (.ireturn, 1) := by decide +kernel
theorem dL_law_474 : decode cL_law 474 = .ok (.aload_n 1, 1) := by decide +kernel
theorem dL_law_475 : decode cL_law 475 = .ok (.aload_n 0, 1) := by decide +kernel
theorem dL_law_476 : decode cL_law 476 = .ok (.iload_n 3, 1) := by decide +kernel
theorem dL_law_477 : decode cL_law 477 = .ok (.iconst 1, 1) := by decide +kernel
theorem dL_law_478 : decode cL_law 478 = .ok (.iadd, 1) := by decide +kernel
theorem dL_law_479 : decode cL_law 479 = .ok (.iaload, 1) := by decide +kernel
theorem dL_law_480 : decode cL_law 480 = .ok (.aload_n 0, 1) := by decide +kernel
theorem dL_law_481 : decode cL_law 481 = .ok (.iload_n 3, 1) := by decide +kernel
theorem dL_law_482 : decode cL_law 482 = .ok (.iconst 2, 1) := by decide +kernel
theorem dL_law_483 : decode cL_law 483 = .ok (.iadd, 1) := by decide +kernel
theorem dL_law_484 : decode cL_law 484 = .ok (.iaload, 1) := by decide +kernel
theorem dL_law_485 : decode cL_law 485 = .ok (.invokevirtual 64, 3) := by decide +kernel
theorem dL_law_488 : decode cL_law 488 = .ok (.aload_n 2, 1) := by decide +kernel
theorem dL_law_489 : decode cL_law 489 = .ok (.aload_n 0, 1) := by decide +kernel
theorem dL_law_490 : decode cL_law 490 = .ok (.iload_n 3, 1) := by decide +kernel
theorem dL_law_491 : decode cL_law 491 = .ok (.iconst 1, 1) := by decide +kernel
theorem dL_law_492 : decode cL_law 492 = .ok (.iadd, 1) := by decide +kernel
theorem dL_law_493 : decode cL_law 493 = .ok (.iaload, 1) := by decide +kernel
theorem dL_law_494 : decode cL_law 494 = .ok (.aload_n 0, 1) := by decide +kernel
theorem dL_law_495 : decode cL_law 495 = .ok (.iload_n 3, 1) := by decide +kernel
theorem dL_law_496 : decode cL_law 496 = .ok (.iconst 2, 1) := by decide +kernel
theorem dL_law_497 : decode cL_law 497 = .ok (.iadd, 1) := by decide +kernel
theorem dL_law_498 : decode cL_law 498 = .ok (.iaload, 1) := by decide +kernel
theorem dL_law_499 : decode cL_law 499 = .ok (.invokevirtual 67, 3) := by decide +kernel
theorem dL_law_502 : decode cL_law 502 = .ok (.if_icmp .eq 231, 3) := by decide +kernel
theorem dL_law_505 : decode cL_law 505 = .ok (.iconst 0, 1) := by decide +kernel
theorem dL_law_506 : decode cL_law 506 = .ok (.ireturn, 1) := by decide +kernel
theorem dL_law_507 : decode cL_law 507 = .ok (.aload_n 1, 1) := by decide +kernel
theorem dL_law_508 : decode cL_law 508 = .ok (.aload_n 0, 1) := by decide +kernel
theorem dL_law_509 : decode cL_law 509 = .ok (.iload_n 3, 1) := by decide +kernel
theorem dL_law_510 : decode cL_law 510 = .ok (.iconst 1, 1) := by decide +kernel
theorem dL_law_511 : decode cL_law 511 = .ok (.iadd, 1) := by decide +kernel
theorem dL_law_512 : decode cL_law 512 = .ok (.iaload, 1) := by decide +kernel
theorem dL_law_513 : decode cL_law 513 = .ok (.invokevirtual 68, 3) := by decide +kernel
theorem dL_law_516 : decode cL_law 516 = .ok (.aload_n 2, 1) := by decide +kernel
theorem dL_law_517 : decode cL_law 517 = .ok (.aload_n 0, 1) := by decide +kernel
theorem dL_law_518 : decode cL_law 518 = .ok (.iload_n 3, 1) := by decide +kernel
theorem dL_law_519 : decode cL_law 519 = .ok (.iconst 1, 1) := by decide +kernel
theorem dL_law_520 : decode cL_law 520 = .ok (.iadd, 1) := by decide +kernel
theorem dL_law_521 : decode cL_law 521 = .ok (.iaload, 1) := by decide +kernel
theorem dL_law_522 : decode cL_law 522 = .ok (.invokevirtual 71, 3) := by decide +kernel
theorem dL_law_525 : decode cL_law 525 = .ok (.if_icmp .eq 208, 3) := by decide +kernel
theorem dL_law_528 : decode cL_law 528 = .ok (.iconst 0, 1) := by decide +kernel
theorem dL_law_529 : decode cL_law 529 = .ok (.ireturn, 1) := by decide +kernel
theorem dL_law_530 : decode cL_law 530 = .ok (.aload_n 1, 1) := by decide +kernel
theorem dL_law_531 : decode cL_law 531 = .ok (.aload_n 0, 1) := by decide +kernel
theorem dL_law_532 : decode cL_law 532 = .ok (.iload_n 3, 1) := by decide +kernel
theorem dL_law_533 : decode cL_law 533 = .ok (.iconst 1, 1) := by decide +kernel
theorem dL_law_534 : decode cL_law 534 = .ok (.iadd, 1) := by decide +kernel
theorem dL_law_535 : decode cL_law 535 = .ok (.iaload, 1) := by decide +kernel
theorem dL_law_536 : decode cL_law 536 = .ok (.aload_n 0, 1) := by decide +kernel
theorem dL_law_537 : decode cL_law 537 = .ok (.iload_n 3, 1) := by decide +kernel
theorem dL_law_538 : decode cL_law 538 = .ok (.iconst 2, 1) := by decide +kernel
theorem dL_law_539 : decode cL_law 539 = .ok (.iadd, 1) := by decide +kernel
theorem dL_law_540 : decode cL_law 540 = .ok (.iaload, 1) := by decide +kernel
theorem dL_law_541 : decode cL_law 541 = .ok (.aload_n 0, 1) := by decide +kernel
theorem dL_law_542 : decode cL_law 542 = .ok (.iload_n 3, 1) := by decide +kernel
theorem dL_law_543 : decode cL_law 543 = .ok (.iconst 3, 1) := by decide +kernel
theorem dL_law_544 : decode cL_law 544 = .ok (.iadd, 1) := by decide +kernel
theorem dL_law_545 : decode cL_law 545 = .ok (.iaload, 1) := by decide +kernel
theorem dL_law_546 : decode cL_law 546 = .ok (.invokevirtual 72, 3) := by decide +kernel
theorem dL_law_549 : decode cL_law 549 = .ok (.aload_n 2, 1) := by decide +kernel
theorem dL_law_550 : decode cL_law 550 = .ok (.aload_n 0, 1) := by decide +kernel
theorem dL_law_551 : decode cL_law 551 = .ok (.iload_n 3, 1) := by decide +kernel
theorem dL_law_552 : decode cL_law 552 = .ok (.iconst 1, 1) := by decide +kernel
theorem dL_law_553 : decode cL_law 553 = .ok (.iadd, 1) := by decide +kernel
theorem dL_law_554 : decode cL_law 554 = .ok (.iaload, 1) := by decide +kernel
theorem dL_law_555 : decode cL_law 555 = .ok (.aload_n 0, 1) := by decide +kernel
theorem dL_law_556 : decode cL_law 556 = .ok (.iload_n 3, 1) := by decide +kernel
theorem dL_law_557 : decode cL_law 557 = .ok (.iconst 2, 1) := by decide +kernel
theorem dL_law_558 : decode cL_law 558 = .ok (.iadd, 1) := by decide +kernel
theorem dL_law_559 : decode cL_law 559 = .ok (.iaload, 1) := by decide +kernel
theorem dL_law_560 : decode cL_law 560 = .ok (.aload_n 0, 1) := by decide +kernel
theorem dL_law_561 : decode cL_law 561 = .ok (.iload_n 3, 1) := by decide +kernel
theorem dL_law_562 : decode cL_law 562 = .ok (.iconst 3, 1) := by decide +kernel
theorem dL_law_563 : decode cL_law 563 = .ok (.iadd, 1) := by decide +kernel
theorem dL_law_564 : decode cL_law 564 = .ok (.iaload, 1) := by decide +kernel
theorem dL_law_565 : decode cL_law 565 = .ok (.invokevirtual 76, 3) := by decide +kernel
theorem dL_law_568 : decode cL_law 568 = .ok (.if_icmp .eq 165, 3) := by decide +kernel
theorem dL_law_571 : decode cL_law 571 = .ok (.iconst 0, 1) := by decide +kernel
theorem dL_law_572 : decode cL_law 572 = .ok (.ireturn, 1) := by decide +kernel
theorem dL_law_573 : decode cL_law 573 = .ok (.aload_n 1, 1) := by decide +kernel
theorem dL_law_574 : decode cL_law 574 = .ok (.aload_n 0, 1) := by decide +kernel
theorem dL_law_575 : decode cL_law 575 = .ok (.iload_n 3, 1) := by decide +kernel
theorem dL_law_576 : decode cL_law 576 = .ok (.iconst 1, 1) := by decide +kernel
theorem dL_law_577 : decode cL_law 577 = .ok (.iadd, 1) := by decide +kernel
theorem dL_law_578 : decode cL_law 578 = .ok (.iaload, 1) := by decide +kernel
theorem dL_law_579 : decode cL_law 579 = .ok (.invokevirtual 77, 3) := by decide +kernel
theorem dL_law_582 : decode cL_law 582 = .ok (.aload_n 2, 1) := by decide +kernel
theorem dL_law_583 : decode cL_law 583 = .ok (.aload_n 0, 1) := by decide +kernel
theorem dL_law_584 : decode cL_law 584 = .ok (.iload_n 3, 1) := by decide +kernel
theorem dL_law_585 : decode cL_law 585 = .ok (.iconst 1, 1) := by decide +kernel
theorem dL_law_586 : decode cL_law 586 = .ok (.iadd, 1) := by decide +kernel
theorem dL_law_587 : decode cL_law 587 = .ok (.iaload, 1) := by decide +kernel
theorem dL_law_588 : decode cL_law 588 = .ok (.invokevirtual 80, 3) := by decide +kernel
theorem dL_law_591 : decode cL_law 591 = .ok (.if_icmp .eq 142, 3) := by decide +kernel
theorem dL_law_594 : decode cL_law 594 = .ok (.iconst 0, 1) := by decide +kernel
theorem dL_law_595 : decode cL_law 595 = .ok (.ireturn, 1) := by decide +kernel
theorem dL_law_596 : decode cL_law 596 = .ok (.aload_n 1, 1) := by decide +kernel
theorem dL_law_597 : decode cL_law 597 = .ok (.invokevirtual 81, 3) := by decide +kernel
theorem dL_law_600 : decode cL_law 600 = .ok (.aload_n 2, 1) := by decide +kernel
theorem dL_law_601 : decode cL_law 601 = .ok (.invokevirtual 84, 3) := by decide +kernel
theorem dL_law_604 : decode cL_law 604 = .ok (.if_icmp .eq 129, 3) := by decide +kernel
theorem dL_law_607 : decode cL_law 607 = .ok (.iconst 0, 1) := by decide +kernel
theorem dL_law_608 : decode cL_law 608 = .ok (.ireturn, 1) := by decide +kernel
theorem dL_law_609 : decode cL_law 609 = .ok (.aload_n 1, 1) := by decide +kernel
theorem dL_law_610 : decode cL_law 610 = .ok (.invokevirtual 85, 3) := by decide +kernel
theorem dL_law_613 : decode cL_law 613 = .ok (.aload_n 2, 1) := by decide +kernel
theorem dL_law_614 : decode cL_law 614 = .ok (.invokevirtual 88, 3) := by decide +kernel
theorem dL_law_617 : decode cL_law 617 = .ok (.if_icmp .eq 116, 3) := by decide +kernel
theorem dL_law_620 : decode cL_law 620 = .ok (.iconst 0, 1) := by decide +kernel
theorem dL_law_621 : decode cL_law 621 = .ok (.ireturn, 1) := by decide +kernel
theorem dL_law_622 : decode cL_law 622 = .ok (.aload_n 1, 1) := by decide +kernel
theorem dL_law_623 : decode cL_law 623 = .ok (.invokevirtual 89, 3) := by decide +kernel
theorem dL_law_626 : decode cL_law 626 = .ok (.aload_n 2, 1) := by decide +kernel
theorem dL_law_627 : decode cL_law 627 = .ok (.invokevirtual 92, 3) := by decide +kernel
theorem dL_law_630 : decode cL_law 630 = .ok (.if_icmp .eq 103, 3) := by decide +kernel
theorem dL_law_633 : decode cL_law 633 = .ok (.iconst 0, 1) := by decide +kernel
theorem dL_law_634 : decode cL_law 634 = .ok (.ireturn, 1) := by decide +kernel
theorem dL_law_635 : decode cL_law 635 = .ok (.aload_n 1, 1) := by decide +kernel
theorem dL_law_636 : decode cL_law 636 = .ok (.invokevirtual 93, 3) := by decide +kernel
theorem dL_law_639 : decode cL_law 639 = .ok (.aload_n 2, 1) := by decide +kernel
theorem dL_law_640 : decode cL_law 640 = .ok (.invokevirtual 96, 3) := by decide +kernel
theorem dL_law_643 : decode cL_law 643 = .ok (.if_icmp .eq 90, 3) := by decide +kernel
theorem dL_law_646 : decode cL_law 646 = .ok (.iconst 0, 1) := by decide +kernel
theorem dL_law_647 : decode cL_law 647 = .ok (.ireturn, 1) := by decide +kernel
theorem dL_law_648 : decode cL_law 648 = .ok (.aload_n 1, 1) := by decide +kernel
theorem dL_law_649 : decode cL_law 649 = .ok (.invokevirtual 97, 3) := by decide +kernel
theorem dL_law_652 : decode cL_law 652 = .ok (.aload_n 2, 1) := by decide +kernel
theorem dL_law_653 : decode cL_law 653 = .ok (.invokevirtual 100, 3) := by decide +kernel
theorem dL_law_656 : decode cL_law 656 = .ok (.if_icmp .eq 77, 3) := by decide +kernel
theorem dL_law_659 : decode cL_law 659 = .ok (.iconst 0, 1) := by decide +kernel
theorem dL_law_660 : decode cL_law 660 = .ok (.ireturn, 1) := by decide +kernel
theorem dL_law_661 : decode cL_law 661 = .ok (.aload_n 1, 1) := by decide +kernel
theorem dL_law_662 : decode cL_law 662 = .ok (.aload_n 0, 1) := by decide +kernel
theorem dL_law_663 : decode cL_law 663 = .ok (.iload_n 3, 1) := by decide +kernel
theorem dL_law_664 : decode cL_law 664 = .ok (.iconst 1, 1) := by decide +kernel
theorem dL_law_665 : decode cL_law 665 = .ok (.iadd, 1) := by decide +kernel
theorem dL_law_666 : decode cL_law 666 = .ok (.iaload, 1) := by decide +kernel
theorem dL_law_667 : decode cL_law 667 = .ok (.invokevirtual 101, 3) := by decide +kernel
theorem dL_law_670 : decode cL_law 670 = .ok (.aload_n 2, 1) := by decide +kernel
theorem dL_law_671 : decode cL_law 671 = .ok (.aload_n 0, 1) := by decide +kernel
theorem dL_law_672 : decode cL_law 672 = .ok (.iload_n 3, 1) := by decide +kernel
theorem dL_law_673 : decode cL_law 673 = .ok (.iconst 1, 1) := by decide +kernel
theorem dL_law_674 : decode cL_law 674 = .ok (.iadd, 1) := by decide +kernel
theorem dL_law_675 : decode cL_law 675 = .ok (.iaload, 1) := by decide +kernel
theorem dL_law_676 : decode cL_law 676 = .ok (.invokevirtual 104, 3) := by decide +kernel
theorem dL_law_679 : decode cL_law 679 = .ok (.if_icmp .eq 54, 3) := by decide +kernel
theorem dL_law_682 : decode cL_law 682 = .ok (.iconst 0, 1) := by decide +kernel
theorem dL_law_683 : decode cL_law 683 = .ok (.ireturn, 1) := by decide +kernel
theorem dL_law_684 : decode cL_law 684 = .ok (.aload_n 1, 1) := by decide +kernel
theorem dL_law_685 : decode cL_law 685 = .ok (.invokevirtual 105, 3) := by decide +kernel
theorem dL_law_688 : decode cL_law 688 = .ok (.aload_n 2, 1) := by decide +kernel
theorem dL_law_689 : decode cL_law 689 = .ok (.invokevirtual 108, 3) := by decide +kernel
theorem dL_law_692 : decode cL_law 692 = .ok (.if_icmp .eq 41, 3) := by decide +kernel
theorem dL_law_695 : decode cL_law 695 = .ok (.iconst 0, 1) := by decide +kernel
theorem dL_law_696 : decode cL_law 696 = .ok (.ireturn, 1) := by decide +kernel
theorem dL_law_697 : decode cL_law 697 = .ok (.aload_n 1, 1) := by decide +kernel
theorem dL_law_698 : decode cL_law 698 = .ok (.aload_n 0, 1) := by decide +kernel
theorem dL_law_699 : decode cL_law 699 = .ok (.iload_n 3, 1) := by decide +kernel
theorem dL_law_700 : decode cL_law 700 = .ok (.iconst 1, 1) := by decide +kernel
theorem dL_law_701 : decode cL_law 701 = .ok (.iadd, 1) := by decide +kernel
theorem dL_law_702 : decode cL_law 702 = .ok (.iaload, 1) := by decide +kernel
theorem dL_law_703 : decode cL_law 703 = .ok (.invokevirtual 109, 3) := by decide +kernel
theorem dL_law_706 : decode cL_law 706 = .ok (.aload_n 2, 1) := by decide +kernel
theorem dL_law_707 : decode cL_law 707 = .ok (.aload_n 0, 1) := by decide +kernel
theorem dL_law_708 : decode cL_law 708 = .ok (.iload_n 3, 1) := by decide +kernel
theorem dL_law_709 : decode cL_law 709 = .ok (.iconst 1, 1) := by decide +kernel
theorem dL_law_710 : decode cL_law 710 = .ok (.iadd, 1) := by decide +kernel
theorem dL_law_711 : decode cL_law 711 = .ok (.iaload, 1) := by decide +kernel
theorem dL_law_712 : decode cL_law 712 = .ok (.invokevirtual 112, 3) := by decide +kernel
theorem dL_law_715 : decode cL_law 715 = .ok (.if_icmp .eq 18, 3) := by decide +kernel
theorem dL_law_718 : decode cL_law 718 = .ok (.iconst 0, 1) := by decide +kernel
theorem dL_law_719 : decode cL_law 719 = .ok (.ireturn, 1) := by decide +kernel
theorem dL_law_720 : decode cL_law 720 = .ok (.aload_n 1, 1) := by decide +kernel
theorem dL_law_721 : decode cL_law 721 = .ok (.invokevirtual 113, 3) := by decide +kernel
theorem dL_law_724 : decode cL_law 724 = .ok (.aload_n 2, 1) := by decide +kernel
theorem dL_law_725 : decode cL_law 725 = .ok (.invokevirtual 116, 3) := by decide +kernel
theorem dL_law_728 : decode cL_law 728 = .ok (.if_icmp .eq 5, 3) := by decide +kernel
theorem dL_law_731 : decode cL_law 731 = .ok (.iconst 0, 1) := by decide +kernel
theorem dL_law_732 : decode cL_law 732 = .ok (.ireturn, 1) := by decide +kernel
theorem dL_law_733 : decode cL_law 733 = .ok (.iinc 3 4, 3) := by decide +kernel
theorem dL_law_736 : decode cL_law 736 = .ok (.goto (-718), 3) := by decide +kernel
theorem dL_law_739 : decode cL_law 739 = .ok (.iconst 1, 1) := by decide +kernel
theorem dL_law_740 : decode cL_law 740 = .ok (.ireturn, 1) := by decide +kernel
abbrev vwCl : List vw_C := [(RX0, TX0, 11), (RX1, TX1, 7), (RX2, TX2, 2), (RX3, TX3, 1), (RX5, TX5, 2), (RX7, TX7, 6), (RX8, TX8, 13)]
end
section
/-! THE WORLD AS ONE TABLE: 60 cells; what cell k holds is a fixed function of the row V k. Boards: 6 of them, board j at the cells 6 + 8 * j .. -/
abbrev VT : Type := Nat → Nat → Int32
def upV (V : VT) (k i : Nat) (x : Int32) : VT := fun a => if a = k then upd (V a) i x else V a
def bdCell (ad : Nat → Nat) (cI : ClassId) (j r : Nat) (g : Nat → Int32) : va_E := match r with
  | 0 => .inr (0, [.ref (ad (6 + 8 * j + 1)), .ref (ad (6 + 8 * j + 3)), .ref (ad (6 + 8 * j + 4)), .ref (ad (6 + 8 * j + 5)), .ref (ad (6 + 8 * j + 6)), .ref (ad (6 + 8 * j + 7)), .int (g 0), .int (g 1), .int (g 2), .int (g 3), .int (g 4)])
  | 1 => .inr (3, [.ref (ad (6 + 8 * j + 2))])
  | 2 => .inl (cI, 10, .inl g)
  | 7 => .inl (cI, 2, .inl g)
  | _ => .inl (cI, 8, .inl g)
def mdCell (ad : Nat → Nat) (cI : ClassId) (r : Nat) (g : Nat → Int32) : va_E := match r with
  | 0 => .inr (6, [.ref (ad 55), .ref (ad 56), .ref (ad 57), .int (g 0), .ref (ad 58), .int (g 1), .ref (ad 59), .int (g 2), .int (g 3), .int (g 4), .int (g 5), .int (g 6), .int (g 7)])
  | 4 => .inl (cI, 196, .inl g)
  | 5 => .inl (cI, 30, .inl g)
  | _ => .inl (cI, 49, .inl g)
def tbCell (ad : Nat → Nat) (cI cB : ClassId) (r : Nat) (g : Nat → Int32) : va_E := match r with
  | 0 => .inr (5, [.ref (ad 6), .ref (ad 14), .ref (ad 4), .ref (ad 2), .ref (ad 1), .int (g 0)])
  | 1 => .inr (1, [if g 0 = 0 then .null else .ref (ad 7), .int (g 1), .int (g 2), .int (g 3), .int (g 4), .int (g 5), .int (g 6)])
  | 2 => .inr (4, [.ref (ad 3), .int (g 0)])
  | 3 => .inl (cI, 30, .inl g)
  | 4 => .inr (2, [.ref (ad 5), .int (g 0)])
  | _ => .inl (cB, 4, .inr (.inr (.inr (.inr (fun k => some (ad (6 + 8 * (g k).toNatClampNeg)))))))
def cellOf (ad : Nat → Nat) (cI cB : ClassId) (k : Nat) (g : Nat → Int32) : va_E := if k < 6 then tbCell ad cI cB k g else if k < 54 then bdCell ad cI ((k - 6) / 8) ((k - 6) % 8) g else mdCell ad cI (k - 54) g
theorem cell_bd (ad : Nat → Nat) (cI cB : ClassId) {j r : Nat} (hj : j < 6) (hr : r < 8) (g : Nat → Int32) : cellOf ad cI cB (6 + 8 * j + r) g = bdCell ad cI j r g := by
  unfold cellOf
  rw [if_neg (by omega), if_pos (by omega), show (6 + 8 * j + r - 6) / 8 = j by omega, show (6 + 8 * j + r - 6) % 8 = r by omega]
def wl (N : Nat) (ad : Nat → Nat) (e : Nat → va_E) : va_W := (List.range N).map (fun k => (ad k, e k))
theorem wl_at {N : Nat} {ad : Nat → Nat} {e : Nat → va_E} {k : Nat} (hk : k < N) {x : va_E} (he : e k = x) : (wl N ad e)[k]? = some (ad k, x) := by
  subst he
  simp [wl, hk]
theorem wl_inv {N : Nat} {ad : Nat → Nat} {e : Nat → va_E} {k : Nat} {q : Nat × va_E} (h : (wl N ad e)[k]? = some q) : k < N ∧ q = (ad k, e k) := by
  by_cases hk : k < N
  · rw [wl_at hk rfl] at h
    exact ⟨hk, (Option.some.inj h).symm⟩
  · have h2 : (wl N ad e).length = N := by simp [wl]
    have h3 := (List.getElem?_eq_some_iff.mp h).1
    omega
theorem wl_set {N : Nat} {ad : Nat → Nat} {e : Nat → va_E} {k : Nat} (x : va_E) : (wl N ad e).set k (ad k, x) = wl N ad (fun a => if a = k then x else e a) := by
  apply List.ext_getElem?
  intro i
  by_cases hi : i < N
  · rw [wl_at hi rfl]
    by_cases hik : i = k
    · subst hik
      have hl : i < (wl N ad e).length := by simp [wl, hi]
      rw [List.getElem?_set_self hl, if_pos rfl]
    · rw [List.getElem?_set_ne (Ne.symm hik), wl_at hi rfl, if_neg hik]
  · have h1 : (wl N ad e).length = N := by simp [wl]
    have h2 : (wl N ad (fun a => if a = k then x else e a)).length = N := by simp [wl]
    rw [List.getElem?_eq_none (by rw [List.length_set]; omega), List.getElem?_eq_none (by omega)]
/-- a layout: what a cell holds, by its row -/
abbrev LC : Type := Nat → (Nat → Int32) → va_E
def sysE (cl : LC) (V : VT) (k : Nat) : va_E := cl k (V k)
theorem sys_up {cl : LC} {V : VT} {q i : Nat} {x : Int32} {y : va_E} (h : cl q (upd (V q) i x) = y) : (fun a => if a = q then y else sysE cl V a) = sysE cl (upV V q i x) := by
  funext a
  by_cases ha : a = q
  · subst ha
    simp only [if_true, sysE, upV]
    exact h.symm
  · simp [sysE, upV, ha]
def wG (D : va_G) (N : Nat) (cl : LC) (ad : Nat → Nat) (V : VT) (H : Heap) : Prop := va_P D vwCl (wl N ad (sysE cl V)) H
abbrev wP (D : va_G) (cI cB : ClassId) (ad : Nat → Nat) (V : VT) (H : Heap) : Prop := wG D 60 (cellOf ad cI cB) ad V H
abbrev tys2 (cI cB : ClassId) : List (ClassId × FieldType) := [(cI, .int), (cB, .object RX0)]
/-- the addresses are apart, and the method's to change -/
def adG (N : Nat) (ad : Nat → Nat) (A : Nat → Prop) : Prop := (∀ i j : Nat, i < N → j < N → ad i = ad j → i = j) ∧ ∀ i : Nat, i < N → A (ad i)
abbrev adOk (ad : Nat → Nat) (A : Nat → Prop) : Prop := adG 60 ad A
theorem adG.D {N : Nat} {ad : Nat → Nat} {A : Nat → Prop} (h : adG N ad A) (e : Nat → va_E) : va_D A (wl N ad e) := by
  refine ⟨fun i j x y hx hy hxy => ?_, fun k q hk => ?_⟩
  · obtain ⟨h1, rfl⟩ := wl_inv hx
    obtain ⟨h2, rfl⟩ := wl_inv hy
    exact h.1 i j h1 h2 hxy
  · obtain ⟨h1, rfl⟩ := wl_inv hk
    exact h.2 k h1
def nwL : List Cond := [.fieldLinkNest RX7 51 "TurnedBoards$Board" "letters" "LTurnedBoards$Letters;" "TurnedBoards", .fieldLinkNest RX7 250 "TurnedBoards$Board" "uprightWord" "[I" "TurnedBoards", .fieldLinkNest RX7 256 "TurnedBoards$Board" "turnedWord" "[I" "TurnedBoards", .fieldLinkNest RX7 119 "TurnedBoards$Board" "settings" "[I" "TurnedBoards", .fieldLinkNest RX7 88 "TurnedBoards$Board" "places" "I" "TurnedBoards", .fieldLinkNest RX7 183 "TurnedBoards$Board" "turned" "Z" "TurnedBoards", .fieldLinkNest RX7 100 "TurnedBoards$Board" "stiffness" "I" "TurnedBoards", .fieldLinkNest RX7 106 "TurnedBoards$Board" "day" "I" "TurnedBoards", .fieldLinkNest RX7 186 "TurnedBoards$Board" "turns" "I" "TurnedBoards", .fieldLinkNest RX7 195 "TurnedBoards$History" "size" "I" "TurnedBoards", .methodLinkNest RX7 28 yX5_init "TurnedBoards", .fieldLinkNest RX7 198 "TurnedBoards$Script" "length" "I" "TurnedBoards", .methodLinkNest RX7 35 yX1_init "TurnedBoards", .fieldLinkNest RX7 84 "TurnedBoards$Composer" "best" "I" "TurnedBoards", .fieldLinkNest RX7 205 "TurnedBoards$Composer" "bestLesser" "I" "TurnedBoards"]
theorem nwL_on : ∀ w ∈ nwL, w.onTables = true := by decide +kernel
def nwAll (U : State) : Prop := (∀ w ∈ nwL, va_Nw w U) ∧ va_AO RX0 U
theorem nwAll.warm {s U : State} (hW : s.WarmedH U.vm) (h : nwAll s) : nwAll U := by
  refine ⟨?_, h.2.moved hW.alike⟩
  intro w hw
  have h1 := h.1 w hw
  simp only [nwL, List.mem_cons, List.not_mem_nil, or_false] at hw
  rcases hw with rfl | rfl | rfl | rfl | rfl | rfl | rfl | rfl | rfl | rfl | rfl | rfl | rfl | rfl | rfl <;> first | exact va_Nw.warmF hW h1 | exact va_Nw.warmM hW h1
theorem nwAll.same {s U : State} (hv : s.vm = U.vm) (h : nwAll s) : nwAll U := ⟨fun w hw => va_Nw.same (nwL_on w hw) hv (h.1 w hw), h.2.moved (by rw [hv]; exact Vm.Alike.refl _)⟩
def KN (D : va_G) (cI cB : ClassId) (U : State) : Prop := va_K D vwCl (tys2 cI cB) U ∧ nwAll U
/-- a method's start -/
def cG (D : va_G) (cI cB : ClassId) (N : Nat) (cl : LC) (ad : Nat → Nat) (V : VT) (av : List Value) : Array Value → State → Prop := va_Pc av (fun U => wG D N cl ad V U.heap ∧ KN D cI cB U)
abbrev cP (D : va_G) (cI cB : ClassId) (ad : Nat → Nat) (V : VT) (av : List Value) : Array Value → State → Prop := cG D cI cB 60 (cellOf ad cI cB) ad V av
/-- its end: it reads; it writes and answers; it writes -/
def cR (v : Int32) : Array Value → State → Outcome → State → Prop := va_Qi (fun r (_ : Unit) => r = v) (fun _ _ => True) (fun _ => False)
def cWi (D : va_G) (cI cB : ClassId) (ad : Nat → Nat) (A : Nat → Prop) (q : Int32 × VT) : Array Value → State → Outcome → State → Prop := va_Qi (fun r V' => r = q.1 ∧ V' = q.2) (fun V' t => wP D cI cB ad V' t.heap) A
def cGv (D : va_G) (N : Nat) (cl : LC) (ad : Nat → Nat) (A : Nat → Prop) (q : VT) : Array Value → State → Outcome → State → Prop := va_Qv (fun V' => V' = q) (fun V' t => wG D N cl ad V' t.heap) A
abbrev cWv (D : va_G) (cI cB : ClassId) (ad : Nat → Nat) (A : Nat → Prop) (q : VT) : Array Value → State → Outcome → State → Prop := cGv D 60 (cellOf ad cI cB) ad A q
theorem cP_blind {D : va_G} {cI cB : ClassId} {N : Nat} {cl : LC} {ad : Nat → Nat} {V : VT} {av : List Value} : FrameBlind (cG D cI cB N cl ad V av) := by
  intro a U g mk q
  obtain ⟨q0, q1, q2, q3⟩ := q
  exact ⟨q0, q1, va_K.moved (u := U) (U := U.calling g mk a) (Vm.Alike.refl U.vm) q2, nwAll.same (s := U) (U := U.calling g mk a) rfl q3⟩
def isRw (N : Nat) (cl : LC) (cI : ClassId) (q n : Nat) : Prop := q < N ∧ (∀ g : Nat → Int32, cl q g = .inl (cI, n, .inl g)) ∧ n < 2 ^ 31
abbrev isRow (ad : Nat → Nat) (cI cB : ClassId) (q n : Nat) : Prop := isRw 60 (cellOf ad cI cB) cI q n
theorem rw_bd (ad : Nat → Nat) (cI cB : ClassId) {j r n : Nat} (hj : j < 6) (hr : r < 8) (h : ∀ g : Nat → Int32, bdCell ad cI j r g = .inl (cI, n, .inl g)) (hn : n < 2 ^ 31 := by decide) : isRow ad cI cB (6 + 8 * j + r) n := ⟨by omega, fun g => by rw [cell_bd ad cI cB hj hr]; exact h g, hn⟩
theorem ce_bd (ad : Nat → Nat) (cI cB : ClassId) {j : Nat} (hj : j < 6) (g : Nat → Int32) : cellOf ad cI cB (6 + 8 * j) g = .inr (0, [.ref (ad (6 + 8 * j + 1)), .ref (ad (6 + 8 * j + 3)), .ref (ad (6 + 8 * j + 4)), .ref (ad (6 + 8 * j + 5)), .ref (ad (6 + 8 * j + 6)), .ref (ad (6 + 8 * j + 7)), .int (g 0), .int (g 1), .int (g 2), .int (g 3), .int (g 4)]) := cell_bd ad cI cB (r := 0) hj (by omega) g
theorem ce_lt (ad : Nat → Nat) (cI cB : ClassId) {j : Nat} (hj : j < 6) (g : Nat → Int32) : cellOf ad cI cB (6 + 8 * j + 1) g = .inr (3, [.ref (ad (6 + 8 * j + 2))]) := cell_bd ad cI cB (r := 1) hj (by omega) g
theorem ce_tb (ad : Nat → Nat) (cI cB : ClassId) (g : Nat → Int32) : cellOf ad cI cB 0 g = .inr (5, [.ref (ad 6), .ref (ad 14), .ref (ad 4), .ref (ad 2), .ref (ad 1), .int (g 0)]) := rfl
theorem ce_cm (ad : Nat → Nat) (cI cB : ClassId) (g : Nat → Int32) : cellOf ad cI cB 1 g = .inr (1, [if g 0 = 0 then .null else .ref (ad 7), .int (g 1), .int (g 2), .int (g 3), .int (g 4), .int (g 5), .int (g 6)]) := rfl
theorem ce_sc (ad : Nat → Nat) (cI cB : ClassId) (g : Nat → Int32) : cellOf ad cI cB 2 g = .inr (4, [.ref (ad 3), .int (g 0)]) := rfl
theorem ce_hs (ad : Nat → Nat) (cI cB : ClassId) (g : Nat → Int32) : cellOf ad cI cB 4 g = .inr (2, [.ref (ad 5), .int (g 0)]) := rfl
theorem ce_md (ad : Nat → Nat) (cI cB : ClassId) (g : Nat → Int32) : cellOf ad cI cB 54 g = .inr (6, [.ref (ad 55), .ref (ad 56), .ref (ad 57), .int (g 0), .ref (ad 58), .int (g 1), .ref (ad 59), .int (g 2), .int (g 3), .int (g 4), .int (g 5), .int (g 6), .int (g 7)]) := rfl
def isB (x : Int32) : Prop := x = 0 ∨ x = 1
theorem isB.n {x : Int32} (h : isB x) : narrow .boolean (.int x) = .int x := by rcases h with rfl | rfl <;> rfl
theorem isB.f {x : Int32} (h : isB x) : fits .boolean (.int x) = true := by rcases h with rfl | rfl <;> rfl
def jushr (x y : Int32) : Int32 := (x.toUInt32 >>> (y.toUInt32 &&& Int32.toUInt32 31)).toInt32
def ji2c (x : Int32) : Int32 := (x.toUInt32 % 65536).toInt32
theorem vp_lit {i : Int32} {n : Nat} (h0 : ¬ i < 0) (h1 : i.toNatClampNeg < n) : vp_in i n := fun h => h.elim h0 (fun h => by omega)
theorem vp_of2 {i : Int32} {n : Nat} (h0 : ¬ i < 0) (h1 : ¬ nI n ≤ i) (hn : n < 2 ^ 31) : vp_in i n := by
  obtain ⟨j, hj, rfl⟩ := nI_of h0
  refine vp_in_nI ?_ hn
  rcases Nat.lt_or_ge j n with h | h
  · exact h
  · exact absurd (nI_le h hj) h1
theorem vp_of3 {i : Int32} {n : Nat} (h0 : ¬ i < 0) (h1 : ¬ nI n ≤ i) (hn : n < 2 ^ 31) : vp_in i n := vp_of2 h0 h1 hn
theorem vp_of {i : Int32} {n : Nat} (h0 : ¬ i < 0) (h1 : i < nI n) (hn : n < 2 ^ 31) : vp_in i n := by
  obtain ⟨j, hj, rfl⟩ := nI_of h0
  exact vp_in_nI ((nI_ltI hj hn).mp h1) hn
section X
variable {p : Program} {l : Launch} {e : Env} {R : Room} {s : State} {m : MethodId} {args : Array Value} {below : List Frame} {meth : Method} {c : Code} {H : Heap} {locs : List Loc} {cells slots : Nat} {Q : State → Prop}
variable {cc : ByteArray} {pc : Nat} {ls : Array Slot} {rest st0 : List Value} {D : va_G} {cI cB : ClassId} {ad : Nat → Nat} {A : Nat → Prop} {V : VT} {H0 : Heap} {A0 : Nat → Prop} {N : Nat} {cl : LC}
theorem x_iald (hexec : p.tables.exec = Jvm.exec) (hb : c.code = cc) (hK : va_K D vwCl (tys2 cI cB) s) (hP : wG D N cl ad V H) {q n : Nat} (hq : isRw N cl cI q n) {i : Int32} (hin : vp_in i n) (hdg : decode cc pc = .ok (.iaload, 1))
    (kk : W p l e R s m args below meth c H locs cells slots Q (F0 m (pc + 1) ls (.int (V q i.toNatClampNeg) :: rest))) : W p l e R s m args below meth c H locs cells slots Q (F0 m pc ls (.int i :: .ref (ad q) :: rest)) :=
  va_iald hexec hb hK hP q 0 (wl_at hq.1 (hq.2.1 (V q))) rfl hin hdg kk
theorem x_alen (hexec : p.tables.exec = Jvm.exec) (hb : c.code = cc) (hK : va_K D vwCl (tys2 cI cB) s) (hP : wG D N cl ad V H) {q n : Nat} (hq : isRw N cl cI q n) (hdg : decode cc pc = .ok (.arraylength, 1))
    (kk : W p l e R s m args below meth c H locs cells slots Q (F0 m (pc + 1) ls (.int (nI n) :: rest))) : W p l e R s m args below meth c H locs cells slots Q (F0 m pc ls (.ref (ad q) :: rest)) :=
  va_alen hexec hb hK hP q 0 (wl_at hq.1 (hq.2.1 (V q))) rfl rfl hdg kk
theorem x_iast (hexec : p.tables.exec = Jvm.exec) (hb : c.code = cc) (hK : va_K D vwCl (tys2 cI cB) s) (hP : wG D N cl ad V H) (hA : adG N ad A) (hS : va_S A H0 H locs) {q n : Nat} (hq : isRw N cl cI q n) {i x : Int32} (hin : vp_in i n) (hdg : decode cc pc = .ok (.iastore, 1))
    (kk : ∀ (H1 : Heap) (locs1 : List Loc), wG D N cl ad (upV V q i.toNatClampNeg x) H1 → va_S A H0 H1 locs1 → W p l e R s m args below meth c H1 locs1 cells slots Q (F0 m (pc + 1) ls rest)) : W p l e R s m args below meth c H locs cells slots Q (F0 m pc ls (.int x :: .int i :: .ref (ad q) :: rest)) := by
  refine va_iast hexec hb hK hP (hA.D _) hS q 0 (wl_at hq.1 (hq.2.1 (V q))) rfl hin hdg (fun H1 locs1 h1 _ h3 => kk H1 locs1 ?_ h3)
  rw [wl_set, sys_up (hq.2.1 _)] at h1
  exact h1
theorem x_get (hexec : p.tables.exec = Jvm.exec) (hb : c.code = cc) {own ref C : String} {T : u_T} {N ci index : Nat} {Ts : List Cond} (hts : ∀ w ∈ Ts, w.before args s = true) (hin : ∀ w ∈ u_ws C T N, w ∈ Ts) (hown : s.vm.findClass own = some m.cls) (hK : va_K D vwCl (tys2 cI cB) s) (hP : wP D cI cB ad V H) {q : Nat} (hq : q < 60) {fs : List Value} (he : cellOf ad cI cB q (V q) = .inr (ci, fs)) (hc : vwCl[ci]? = some (C, T, N)) (k : Nat) (hk : k < N) (hlink : (Cond.fieldLink own index ref (T k).2.1 (T k).2.2.1).before args s = true) (href : ref = (T k).1) {v : Value} (hv : fs[k]? = some v) (hdg : decode cc pc = .ok (.getfield index, 3))
    (kk : W p l e R s m args below meth c H locs cells slots Q (F0 m (pc + 3) ls (v :: rest))) : W p l e R s m args below meth c H locs cells slots Q (F0 m pc ls (.ref (ad q) :: rest)) :=
  va_get hexec hb hts hin hown hK hP q (wl_at hq he) hc k hk hlink (fun _ h => by rw [href]; exact h) hv hdg kk
theorem x_getN (hexec : p.tables.exec = Jvm.exec) (hb : c.code = cc) {own ref C host : String} {T : u_T} {N ci index : Nat} {Ts : List Cond} (hts : ∀ w ∈ Ts, w.before args s = true) (hin : ∀ w ∈ u_ws C T N, w ∈ Ts) (hown : s.vm.findClass own = some m.cls) (hK : va_K D vwCl (tys2 cI cB) s) (hP : wP D cI cB ad V H) {q : Nat} (hq : q < 60) {fs : List Value} (he : cellOf ad cI cB q (V q) = .inr (ci, fs)) (hc : vwCl[ci]? = some (C, T, N)) (k : Nat) (hk : k < N) (hlink : va_Nw (Cond.fieldLinkNest own index ref (T k).2.1 (T k).2.2.1 host) s) (href : ref = (T k).1) {v : Value} (hv : fs[k]? = some v) (hdg : decode cc pc = .ok (.getfield index, 3))
    (kk : W p l e R s m args below meth c H locs cells slots Q (F0 m (pc + 3) ls (v :: rest))) : W p l e R s m args below meth c H locs cells slots Q (F0 m pc ls (.ref (ad q) :: rest)) :=
  va_getN hexec hb hts hin hown hK hP q (wl_at hq he) hc k hk (va_Nw.use rfl hlink) (fun _ h => by rw [href]; exact h) hv hdg kk
theorem x_put (hexec : p.tables.exec = Jvm.exec) (hb : c.code = cc) {own ref C : String} {T : u_T} {N ci index : Nat} {Ts : List Cond} (hts : ∀ w ∈ Ts, w.before args s = true) (hin : ∀ w ∈ u_ws C T N, w ∈ Ts) (ty0 : Nat → FieldType) (hty : ∀ k, k < N → parseFieldDescriptor (T k).2.2.1 = some (ty0 k)) (hnm : ∀ a, a < N → ∀ b, b < N → a ≠ b → (T a).2.1 ≠ (T b).2.1) (hown : s.vm.findClass own = some m.cls) (hK : va_K D vwCl (tys2 cI cB) s) (hP : wP D cI cB ad V H) (hA : adOk ad A) (hS : va_S A H0 H locs) {q : Nat} (hq : q < 60) {fs : List Value} (he : cellOf ad cI cB q (V q) = .inr (ci, fs)) (hc : vwCl[ci]? = some (C, T, N)) (k : Nat) (hk : k < N) (hlink : (Cond.fieldLink own index ref (T k).2.1 (T k).2.2.1).before args s = true) (href : ref = (T k).1) (hfin : (T k).2.2.2 = false) {ty : FieldType} {v : Value} (hd : parseFieldDescriptor (T k).2.2.1 = some ty) (hn : narrow ty v = v) (hfit : fits ty v = true) (hl : k < fs.length) (i : Nat) (x : Int32) (h2 : cellOf ad cI cB q (upd (V q) i x) = .inr (ci, fs.set k v))
    (hdg : decode cc pc = .ok (.putfield index, 3)) (kk : ∀ (H1 : Heap) (locs1 : List Loc), wP D cI cB ad (upV V q i x) H1 → va_S A H0 H1 locs1 → W p l e R s m args below meth c H1 locs1 cells slots Q (F0 m (pc + 3) ls rest)) : W p l e R s m args below meth c H locs cells slots Q (F0 m pc ls (v :: .ref (ad q) :: rest)) := by
  refine va_put hexec hb hts hin ty0 hty hnm hown hK hP (hA.D _) hS q (wl_at hq he) hc k hk hlink (fun _ h => by rw [href]; exact h) hfin hd hn hfit hl hdg (fun H1 locs1 h1 _ h3 => kk H1 locs1 ?_ h3)
  rw [wl_set, sys_up h2] at h1
  exact h1
theorem x_putN (hexec : p.tables.exec = Jvm.exec) (hb : c.code = cc) {own ref C host : String} {T : u_T} {N ci index : Nat} {Ts : List Cond} (hts : ∀ w ∈ Ts, w.before args s = true) (hin : ∀ w ∈ u_ws C T N, w ∈ Ts) (ty0 : Nat → FieldType) (hty : ∀ k, k < N → parseFieldDescriptor (T k).2.2.1 = some (ty0 k)) (hnm : ∀ a, a < N → ∀ b, b < N → a ≠ b → (T a).2.1 ≠ (T b).2.1) (hown : s.vm.findClass own = some m.cls) (hK : va_K D vwCl (tys2 cI cB) s) (hP : wP D cI cB ad V H) (hA : adOk ad A) (hS : va_S A H0 H locs) {q : Nat} (hq : q < 60) {fs : List Value} (he : cellOf ad cI cB q (V q) = .inr (ci, fs)) (hc : vwCl[ci]? = some (C, T, N)) (k : Nat) (hk : k < N) (hlink : va_Nw (Cond.fieldLinkNest own index ref (T k).2.1 (T k).2.2.1 host) s) (href : ref = (T k).1) (hfin : (T k).2.2.2 = false) {ty : FieldType} {v : Value} (hd : parseFieldDescriptor (T k).2.2.1 = some ty) (hn : narrow ty v = v) (hfit : fits ty v = true) (hl : k < fs.length) (i : Nat) (x : Int32) (h2 : cellOf ad cI cB q (upd (V q) i x) = .inr (ci, fs.set k v))
    (hdg : decode cc pc = .ok (.putfield index, 3)) (kk : ∀ (H1 : Heap) (locs1 : List Loc), wP D cI cB ad (upV V q i x) H1 → va_S A H0 H1 locs1 → W p l e R s m args below meth c H1 locs1 cells slots Q (F0 m (pc + 3) ls rest)) : W p l e R s m args below meth c H locs cells slots Q (F0 m pc ls (v :: .ref (ad q) :: rest)) := by
  refine va_putN hexec hb hts hin ty0 hty hnm hown hK hP (hA.D _) hS q (wl_at hq he) hc k hk (va_Nw.use rfl hlink) (fun _ h => by rw [href]; exact h) hfin hd hn hfit hl hdg (fun H1 locs1 h1 _ h3 => kk H1 locs1 ?_ h3)
  rw [wl_set, sys_up h2] at h1
  exact h1
theorem x_aald (hexec : p.tables.exec = Jvm.exec) (hb : c.code = cc) (hK : va_K D vwCl (tys2 cI cB) s) (hP : wP D cI cB ad V H) {i : Int32} (hin : vp_in i 4) (hdg : decode cc pc = .ok (.aaload, 1))
    (kk : W p l e R s m args below meth c H locs cells slots Q (F0 m (pc + 1) ls (.ref (ad (6 + 8 * (V 5 i.toNatClampNeg).toNatClampNeg)) :: rest))) : W p l e R s m args below meth c H locs cells slots Q (F0 m pc ls (.int i :: .ref (ad 5) :: rest)) := by
  refine va_aldq hexec hb hK hP 5 1 (wl_at (by omega) rfl) rfl hin hdg ?_
  exact kk
theorem x_aast (hexec : p.tables.exec = Jvm.exec) (hb : c.code = cc) (hK : va_K D vwCl (tys2 cI cB) s) (hP : wP D cI cB ad V H) (hA : adOk ad A) (hS : va_S A H0 H locs) {i : Int32} {j : Nat} (hj : j < 6) (hin : vp_in i 4) (hdg : decode cc pc = .ok (.aastore, 1))
    (kk : ∀ (H1 : Heap) (locs1 : List Loc), wP D cI cB ad (upV V 5 i.toNatClampNeg (nI j)) H1 → va_S A H0 H1 locs1 → W p l e R s m args below meth c H1 locs1 cells slots Q (F0 m (pc + 1) ls rest)) : W p l e R s m args below meth c H locs cells slots Q (F0 m pc ls (.ref (ad (6 + 8 * j)) :: .int i :: .ref (ad 5) :: rest)) := by
  refine va_astq (r := (RX0, TX0, 11)) hexec hb hK hP (hA.D _) hS 5 1 (6 + 8 * j) 0 (wl_at (by omega) rfl) rfl (wl_at (by omega) (cell_bd ad cI cB (r := 0) hj (by omega) _)) rfl hin hdg (fun H1 locs1 h1 _ h3 => kk H1 locs1 ?_ h3)
  rw [wl_set] at h1
  have h2 : cellOf ad cI cB 5 (upd (V 5) i.toNatClampNeg (nI j)) = .inl (cB, 4, .inr (.inr (.inr (.inr (va_up (fun k => some (ad (6 + 8 * (V 5 k).toNatClampNeg))) i.toNatClampNeg (some (ad (6 + 8 * j)))))))) := by
    show (Sum.inl (cB, 4, .inr (.inr (.inr (.inr (fun k => some (ad (6 + 8 * (upd (V 5) i.toNatClampNeg (nI j) k).toNatClampNeg))))))) : va_E) = _
    congr 7
    funext k
    by_cases hk : k = i.toNatClampNeg
    · subst hk
      simp only [upd, va_up, if_true]
      rw [nI_clamp (by omega)]
    · simp only [upd, va_up, if_neg hk]
  rw [sys_up h2] at h1
  exact h1
theorem x_alen5 (hexec : p.tables.exec = Jvm.exec) (hb : c.code = cc) (hK : va_K D vwCl (tys2 cI cB) s) (hP : wP D cI cB ad V H) (hdg : decode cc pc = .ok (.arraylength, 1))
    (kk : W p l e R s m args below meth c H locs cells slots Q (F0 m (pc + 1) ls (.int (nI 4) :: rest))) : W p l e R s m args below meth c H locs cells slots Q (F0 m pc ls (.ref (ad 5) :: rest)) :=
  va_alen hexec hb hK hP 5 1 (wl_at (by omega) rfl) rfl rfl hdg kk
theorem wP_kept {H1 : Heap} (hP : wG D N cl ad V H) (hk : ∀ q : Nat, q < H.size → ¬ False → H1[q]? = H[q]?) : wG D N cl ad V H1 := va_P.kept hP (fun k q h => hk q.1 ((hP k q h).lt) (fun z => z))
variable {y : MethodName} {bytes : ByteArray} {maxL nL n index : Nat} {ret : Option FieldType} {ws : List Cond} {rm : Room} {Ts : List Cond} {own C : String} {b : Addr} {As : List Value}
theorem c_preS (hP : wG D N cl ad V H) (hKN : KN D cI cB s) : PreS s H (cG D cI cB N cl ad V As) As := ⟨cP_blind, fun U hU hW => ⟨rfl, by rw [hU]; exact hP, va_K.moved hW.alike hKN.1, hKN.2.warm hW⟩⟩
theorem c_preV (hP : wP D cI cB ad V H) (hKN : KN D cI cB s) {q ci : Nat} (hq : q < 60) {fs : List Value} (he : cellOf ad cI cB q (V q) = .inr (ci, fs)) {r : vw_C} (hc : vwCl[ci]? = some r) (hC : r.1 = C) : PreV s H C (ad q) (cP D cI cB ad V (.ref (ad q) :: As)) As := by
  subst hC
  exact ⟨cP_blind, va_recv hKN.1 hP hc (wl_at hq he), fun U hU hW => ⟨rfl, by rw [hU]; exact hP, va_K.moved hW.alike hKN.1, hKN.2.warm hW⟩⟩
theorem k_SR {v : Int32} (S : CallFix p m c cc nL s args Ts own) (hKN : KN D cI cB s) (hP : wG D N cl ad V H) (hS : va_S A0 H0 H locs) (hM : Met l y ws rm (cG D cI cB N cl ad V As) (cR v) 0 0 (fun _ => False)) (cw : CallB R s args own index y bytes maxL ret ws rm 0 0 n ∧ (Cond.static y).before args s = true) (hn : As.length = n) (hl : ls.size = nL) (hst : st0 = As.reverse ++ rest) (hW : (rest.map fun v => v.category).sum ≤ 8) (hdg : decode cc pc = .ok (.invokestatic index, 3)) (hf : cells ≤ R.cells ∧ slots ≤ R.slots)
    (kk : ∀ (H1 : Heap) (locs1 : List Loc), wG D N cl ad V H1 → va_S A0 H0 H1 locs1 → W p l e R s m args below meth c H1 locs1 cells slots Q (F0 m (pc + 3) ls (.int v :: rest))) : W p l e R s m args below meth c H locs cells slots Q (F0 m pc ls st0) := by
  refine va_calli (va_runS (As := As) (rest := rest) S hM cw (c_preS hP hKN) rfl hn hl hst (lv_room hW) hdg hf) hS (fun q _ h => h.elim) (fun q h => h.elim) (fun r u t H1 locs1 ht hvm hw hB hz hk hS1 => ?_)
  subst hw
  exact kk H1 locs1 (wP_kept hP hk) hS1
theorem k_VR {v : Int32} {q : Nat} (S : CallFix p m c cc nL s args Ts own) (hKN : KN D cI cB s) (hP : wP D cI cB ad V H) (hS : va_S A0 H0 H locs) (hM : Met l y ws rm (cP D cI cB ad V (.ref (ad q) :: As)) (cR v) 0 0 (fun _ => False)) (cw : CallW R s args own C index y bytes maxL ret ws rm 0 0 n) (hp : PreV s H C (ad q) (cP D cI cB ad V (.ref (ad q) :: As)) As) (hn : As.length = n) (hl : ls.size = nL) (hst : st0 = As.reverse ++ .ref (ad q) :: rest) (hW : (rest.map fun v => v.category).sum ≤ 8) (hdg : decode cc pc = .ok (.invokevirtual index, 3)) (hf : cells ≤ R.cells ∧ slots ≤ R.slots)
    (kk : ∀ (H1 : Heap) (locs1 : List Loc), wP D cI cB ad V H1 → va_S A0 H0 H1 locs1 → W p l e R s m args below meth c H1 locs1 cells slots Q (F0 m (pc + 3) ls (.int v :: rest))) : W p l e R s m args below meth c H locs cells slots Q (F0 m pc ls st0) := by
  refine va_calli (va_runV (As := As) (rest := rest) S hM cw hp rfl hn hl hst (lv_room hW) hdg hf) hS (fun q _ h => h.elim) (fun q h => h.elim) (fun r u t H1 locs1 ht hvm hw hB hz hk hS1 => ?_)
  subst hw
  exact kk H1 locs1 (wP_kept hP hk) hS1
theorem k_SWv {z : VT} (S : CallFix p m c cc nL s args Ts own) (hKN : KN D cI cB s) (hP : wG D N cl ad V H) (hS : va_S A H0 H locs) (hM : Met l y ws rm (cG D cI cB N cl ad V As) (cGv D N cl ad A z) 0 0 A) (cw : CallB R s args own index y bytes maxL ret ws rm 0 0 n ∧ (Cond.static y).before args s = true) (hn : As.length = n) (hl : ls.size = nL) (hst : st0 = As.reverse ++ rest) (hW : (rest.map fun v => v.category).sum ≤ 8) (hdg : decode cc pc = .ok (.invokestatic index, 3)) (hf : cells ≤ R.cells ∧ slots ≤ R.slots)
    (kk : ∀ (H1 : Heap) (locs1 : List Loc), wG D N cl ad z H1 → va_S A H0 H1 locs1 → W p l e R s m args below meth c H1 locs1 cells slots Q (F0 m (pc + 3) ls rest)) : W p l e R s m args below meth c H locs cells slots Q (F0 m pc ls st0) := by
  refine va_callv (va_runS (As := As) (rest := rest) S hM cw (c_preS hP hKN) rfl hn hl hst (lv_room hW) hdg hf) hS (fun q _ h => h) (fun q h => h) (fun u t H1 locs1 ht hvm hw hB hz hk hS1 => ?_)
  subst hw
  rw [ht] at hB
  exact kk H1 locs1 hB hS1
theorem k_VWv {z : VT} {q : Nat} (S : CallFix p m c cc nL s args Ts own) (hKN : KN D cI cB s) (hP : wP D cI cB ad V H) (hS : va_S A H0 H locs) (hM : Met l y ws rm (cP D cI cB ad V (.ref (ad q) :: As)) (cWv D cI cB ad A z) 0 0 A) (cw : CallW R s args own C index y bytes maxL ret ws rm 0 0 n) (hp : PreV s H C (ad q) (cP D cI cB ad V (.ref (ad q) :: As)) As) (hn : As.length = n) (hl : ls.size = nL) (hst : st0 = As.reverse ++ .ref (ad q) :: rest) (hW : (rest.map fun v => v.category).sum ≤ 8) (hdg : decode cc pc = .ok (.invokevirtual index, 3)) (hf : cells ≤ R.cells ∧ slots ≤ R.slots)
    (kk : ∀ (H1 : Heap) (locs1 : List Loc), wP D cI cB ad z H1 → va_S A H0 H1 locs1 → W p l e R s m args below meth c H1 locs1 cells slots Q (F0 m (pc + 3) ls rest)) : W p l e R s m args below meth c H locs cells slots Q (F0 m pc ls st0) := by
  refine va_callv (va_runV (As := As) (rest := rest) S hM cw hp rfl hn hl hst (lv_room hW) hdg hf) hS (fun q _ h => h) (fun q h => h) (fun u t H1 locs1 ht hvm hw hB hz hk hS1 => ?_)
  subst hw
  rw [ht] at hB
  exact kk H1 locs1 hB hS1
theorem k_VWi {z : Int32 × VT} {q : Nat} (S : CallFix p m c cc nL s args Ts own) (hKN : KN D cI cB s) (hP : wP D cI cB ad V H) (hS : va_S A H0 H locs) (hM : Met l y ws rm (cP D cI cB ad V (.ref (ad q) :: As)) (cWi D cI cB ad A z) 0 0 A) (cw : CallW R s args own C index y bytes maxL ret ws rm 0 0 n) (hp : PreV s H C (ad q) (cP D cI cB ad V (.ref (ad q) :: As)) As) (hn : As.length = n) (hl : ls.size = nL) (hst : st0 = As.reverse ++ .ref (ad q) :: rest) (hW : (rest.map fun v => v.category).sum ≤ 8) (hdg : decode cc pc = .ok (.invokevirtual index, 3)) (hf : cells ≤ R.cells ∧ slots ≤ R.slots)
    (kk : ∀ (H1 : Heap) (locs1 : List Loc), wP D cI cB ad z.2 H1 → va_S A H0 H1 locs1 → W p l e R s m args below meth c H1 locs1 cells slots Q (F0 m (pc + 3) ls (.int z.1 :: rest))) : W p l e R s m args below meth c H locs cells slots Q (F0 m pc ls st0) := by
  refine va_calli (va_runV (As := As) (rest := rest) S hM cw hp rfl hn hl hst (lv_room hW) hdg hf) hS (fun q _ h => h) (fun q h => h) (fun r u t H1 locs1 ht hvm hw hB hz hk hS1 => ?_)
  obtain ⟨rfl, rfl⟩ := hw
  rw [ht] at hB
  exact kk H1 locs1 hB hS1
end X
theorem pc_br {c A B : Prop} (h : (c → A) ∧ (¬ c → B)) (hc : c) : A := h.1 hc
theorem pc_bn {c A B : Prop} (h : (c → A) ∧ (¬ c → B)) (hc : ¬ c) : B := h.2 hc
section XF
variable {p : Program} {l : Launch} {e : Env} {R : Room} {s : State} {m : MethodId} {args : Array Value} {below : List Frame} {meth : Method} {c : Code} {H : Heap} {locs : List Loc} {cells slots : Nat} {Q : State → Prop}
variable {cc : ByteArray} {pc : Nat} {ls : Array Slot} {rest : List Value}
theorem x_ldcwF {T : State} (X : Stand p l e R s m args below meth c T locs cells slots) (hexec : p.tables.exec = Jvm.exec) {own : String} {index : Nat} {v : UInt32} (hown : s.vm.findClass own = some m.cls)
    (hconst : (Cond.constantFloat own index v).before args s = true) {g : JFrame} (hg : g.method = m) (hdg : decode c.code g.pc = .ok (.ldc_w index, 3)) :
    ∀ target, Steps p.tables e below (T.setTop { g with pc := g.pc + 3, stack := .float v :: g.stack }) target → Steps p.tables e below (T.setTop g) target := by
  obtain ⟨k, cf, hk, hcf, hcp⟩ := Cond.constantFloat_spec hown hconst
  obtain ⟨k', hk', he⟩ := X.warmed.alike.2.2 _ _ hk
  intro target hrest
  subst hg
  jvm_step X.here [hexec, hdg, ldc_w.wp_float (s := T) (f := g) X.here.top hk' (by rw [he]; exact hcf) hcp]
  exact hrest
theorem lv_ldcwf (hexec : p.tables.exec = Jvm.exec) (hb : c.code = cc) {own : String} {index : Nat} {v : UInt32} (hown : s.vm.findClass own = some m.cls) (hconst : (Jvm.Cond.constantFloat own index v).before args s = true) (hdg : decode cc pc = .ok (.ldc_w index, 3)) (k : W p l e R s m args below meth c H locs cells slots Q (F0 m (pc + 3) ls (.float v :: rest))) : W p l e R s m args below meth c H locs cells slots Q (F0 m pc ls rest) := by
  intro T hT X
  obtain ⟨t, a, b⟩ := k T hT X
  exact ⟨t, x_ldcwF X hexec hown hconst (g := F0 m pc ls rest) rfl (by rw [hb]; exact hdg) t a, b⟩
end XF
theorem i32_nl {a b : Int32} (h : a ≤ b) : ¬ b < a := fun q => absurd (Int32.lt_iff_toInt_lt.mp q) (Int.not_lt.mpr (Int32.le_iff_toInt_le.mp h))
theorem i32_lt {a b : Int32} (h : ¬ a ≤ b) : b < a := Int32.lt_iff_toInt_lt.mpr (Int.not_le.mp (fun q => h (Int32.le_iff_toInt_le.mpr q)))
theorem i32_nle {a b : Int32} (h : a < b) : ¬ b ≤ a := fun q => absurd (Int32.le_iff_toInt_le.mp q) (Int.not_le.mpr (Int32.lt_iff_toInt_lt.mp h))
theorem i32_le {a b : Int32} (h : ¬ a < b) : b ≤ a := Int32.le_iff_toInt_le.mpr (Int.not_lt.mp (fun q => h (Int32.lt_iff_toInt_lt.mpr q)))
end
section
/-! contracts by program (wip/whole/gen): f_ what a method answers or makes of the table, p_ what it needs, m_ the contract -/
def a_J6_bitCount_0f7a4_23 (p1 : Int32) : Int32 := (((p1 - ((jushr p1 1) &&& 1431655765)) &&& 858993459) + ((jushr (p1 - ((jushr p1 1) &&& 1431655765)) 2) &&& 858993459))
def a_J6_bitCount_0f7a4_33 (p1 : Int32) : Int32 := (((a_J6_bitCount_0f7a4_23 p1) + (jushr (a_J6_bitCount_0f7a4_23 p1) 4)) &&& 252645135)
def a_J6_bitCount_0f7a4_40 (p1 : Int32) : Int32 := ((a_J6_bitCount_0f7a4_33 p1) + (jushr (a_J6_bitCount_0f7a4_33 p1) 8))
def a_J6_bitCount_0f7a4_47 (p1 : Int32) : Int32 := ((a_J6_bitCount_0f7a4_40 p1) + (jushr (a_J6_bitCount_0f7a4_40 p1) 16))
def f_J6_bitCount_0f7a4 (V : VT) (p1 : Int32) : Int32 := ((a_J6_bitCount_0f7a4_47 p1) &&& 63)
set_option maxHeartbeats 4000000 in
set_option maxRecDepth 100000 in
theorem m_J6_bitCount_0f7a4 (l : Launch) (D : va_G) (cI cB : ClassId) (ad : Nat → Nat) (V : VT) (p1 : Int32)  : Met l yJ6_bitCount_0f7a4 wsJ6_bitCount_0f7a4 ({ frames := 0, cells := 0, slots := 0, locals := 0 }) (cP D cI cB ad V [.int p1]) (cR (f_J6_bitCount_0f7a4 V p1)) 0 0 (fun _ => False) := by
  refine Met.ofW (cc := cJ6_bitCount_0f7a4) (maxL := 1) (ret := (some .int)) (by decide +kernel) rfl ?_
  intro p e s m args below meth c s₁ B hml hv
  obtain ⟨rfl, hP, hKN⟩ := hv
  have hK := hKN.1
  have hx := B.exec
  have hb := B.bytes
  have hr := B.returns
  have hts := atoms_spec (ws := wsJ6_bitCount_0f7a4) B.pre
  have hown : s.vm.findClass RJ6 = some m.cls := findClass_of_methodNamed B.named
  have hlocks := B.notSynchronized
  have hS : va_S (fun _ => False) s.heap s.heap [] := va_S.rf
  have hl := lv_entry ([.int p1]) (n := 1) (Nat.le_of_ble_eq_true rfl)
  rw [lg_entry_eq]
  generalize (lg_sl ([.int p1]) ++ List.replicate (1 - (lg_sl ([.int p1])).length) Slot.unset).toArray = ls at hl ⊢
  have hl : lv_has ls 1 [(0, .int p1)] := hl
  have hE : f_J6_bitCount_0f7a4 V p1 = ((a_J6_bitCount_0f7a4_47 p1) &&& 63) := rfl
  refine lv_iload_n hx hb dJ6_bitCount_0f7a4_0 rfl (lv_at hl 0 rfl) ?_
  refine lv_iload_n hx hb dJ6_bitCount_0f7a4_1 rfl (lv_at hl 0 rfl) ?_
  refine lv_iconst (v := 1) hx hb dJ6_bitCount_0f7a4_2 (by decide) ?_
  refine lv_iushr (v := jushr p1 1) hx hb dJ6_bitCount_0f7a4_3 rfl ?_
  refine lv_ldcw (v := 1431655765) hx hb hown (hts (.constant RJ6 265 (1431655765)) (List.mem_of_getElem? (i := 1) rfl)) dJ6_bitCount_0f7a4_4 ?_
  refine lv_iand hx hb dJ6_bitCount_0f7a4_7 ?_
  refine lv_isub hx hb dJ6_bitCount_0f7a4_8 ?_
  refine lv_istore_n (lv' := [(0, .int (p1 - ((jushr p1 1) &&& 1431655765)))]) hx hb dJ6_bitCount_0f7a4_9 rfl hl (by decide) rfl (fun ls hl => ?_)
  refine lv_iload_n hx hb dJ6_bitCount_0f7a4_10 rfl (lv_at hl 0 rfl) ?_
  refine lv_ldcw (v := 858993459) hx hb hown (hts (.constant RJ6 266 (858993459)) (List.mem_of_getElem? (i := 2) rfl)) dJ6_bitCount_0f7a4_11 ?_
  refine lv_iand hx hb dJ6_bitCount_0f7a4_14 ?_
  refine lv_iload_n hx hb dJ6_bitCount_0f7a4_15 rfl (lv_at hl 0 rfl) ?_
  refine lv_iconst (v := 2) hx hb dJ6_bitCount_0f7a4_16 (by decide) ?_
  refine lv_iushr (v := jushr (p1 - ((jushr p1 1) &&& 1431655765)) 2) hx hb dJ6_bitCount_0f7a4_17 rfl ?_
  refine lv_ldcw (v := 858993459) hx hb hown (hts (.constant RJ6 266 (858993459)) (List.mem_of_getElem? (i := 2) rfl)) dJ6_bitCount_0f7a4_18 ?_
  refine lv_iand hx hb dJ6_bitCount_0f7a4_21 ?_
  refine lv_iadd hx hb dJ6_bitCount_0f7a4_22 ?_
  refine lv_istore_n (lv' := [(0, .int (a_J6_bitCount_0f7a4_23 p1))]) hx hb dJ6_bitCount_0f7a4_23 rfl hl (by decide) rfl (fun ls hl => ?_)
  refine lv_iload_n hx hb dJ6_bitCount_0f7a4_24 rfl (lv_at hl 0 rfl) ?_
  refine lv_iload_n hx hb dJ6_bitCount_0f7a4_25 rfl (lv_at hl 0 rfl) ?_
  refine lv_iconst (v := 4) hx hb dJ6_bitCount_0f7a4_26 (by decide) ?_
  refine lv_iushr (v := jushr (a_J6_bitCount_0f7a4_23 p1) 4) hx hb dJ6_bitCount_0f7a4_27 rfl ?_
  refine lv_iadd hx hb dJ6_bitCount_0f7a4_28 ?_
  refine lv_ldcw (v := 252645135) hx hb hown (hts (.constant RJ6 267 (252645135)) (List.mem_of_getElem? (i := 3) rfl)) dJ6_bitCount_0f7a4_29 ?_
  refine lv_iand hx hb dJ6_bitCount_0f7a4_32 ?_
  refine lv_istore_n (lv' := [(0, .int (a_J6_bitCount_0f7a4_33 p1))]) hx hb dJ6_bitCount_0f7a4_33 rfl hl (by decide) rfl (fun ls hl => ?_)
  refine lv_iload_n hx hb dJ6_bitCount_0f7a4_34 rfl (lv_at hl 0 rfl) ?_
  refine lv_iload_n hx hb dJ6_bitCount_0f7a4_35 rfl (lv_at hl 0 rfl) ?_
  refine lv_bipush (v := 8) hx hb dJ6_bitCount_0f7a4_36 (by decide) ?_
  refine lv_iushr (v := jushr (a_J6_bitCount_0f7a4_33 p1) 8) hx hb dJ6_bitCount_0f7a4_38 rfl ?_
  refine lv_iadd hx hb dJ6_bitCount_0f7a4_39 ?_
  refine lv_istore_n (lv' := [(0, .int (a_J6_bitCount_0f7a4_40 p1))]) hx hb dJ6_bitCount_0f7a4_40 rfl hl (by decide) rfl (fun ls hl => ?_)
  refine lv_iload_n hx hb dJ6_bitCount_0f7a4_41 rfl (lv_at hl 0 rfl) ?_
  refine lv_iload_n hx hb dJ6_bitCount_0f7a4_42 rfl (lv_at hl 0 rfl) ?_
  refine lv_bipush (v := 16) hx hb dJ6_bitCount_0f7a4_43 (by decide) ?_
  refine lv_iushr (v := jushr (a_J6_bitCount_0f7a4_40 p1) 16) hx hb dJ6_bitCount_0f7a4_45 rfl ?_
  refine lv_iadd hx hb dJ6_bitCount_0f7a4_46 ?_
  refine lv_istore_n (lv' := [(0, .int (a_J6_bitCount_0f7a4_47 p1))]) hx hb dJ6_bitCount_0f7a4_47 rfl hl (by decide) rfl (fun ls hl => ?_)
  refine lv_iload_n hx hb dJ6_bitCount_0f7a4_48 rfl (lv_at hl 0 rfl) ?_
  refine lv_bipush (v := 63) hx hb dJ6_bitCount_0f7a4_49 (by decide) ?_
  refine lv_iand hx hb dJ6_bitCount_0f7a4_51 ?_
  exact W.iret (v := ((a_J6_bitCount_0f7a4_47 p1) &&& 63)) hx hb hr (fun t ht hW => ⟨⟨((a_J6_bitCount_0f7a4_47 p1) &&& 63), (), rfl, hE.symm, trivial⟩, hS.F ht⟩) hS.2.2 dJ6_bitCount_0f7a4_52
def f_Jxf58ca_isNaN_12338 (V : VT) (p1 : UInt32) : Int32 := (if (Op.cmpValue (FP.fcmp p1 p1) CmpOp.l) = 0 then 0 else 1)
set_option maxHeartbeats 4000000 in
set_option maxRecDepth 100000 in
theorem m_Jxf58ca_isNaN_12338 (l : Launch) (D : va_G) (cI cB : ClassId) (ad : Nat → Nat) (V : VT) (p1 : UInt32)  : Met l yJxf58ca_isNaN_12338 wsJxf58ca_isNaN_12338 ({ frames := 0, cells := 0, slots := 0, locals := 0 }) (cP D cI cB ad V [.float p1]) (cR (f_Jxf58ca_isNaN_12338 V p1)) 0 0 (fun _ => False) := by
  refine va_MetF (cc := cJxf58ca_isNaN_12338) (maxL := 1) (ret := (some .boolean)) (by decide +kernel) rfl ?_
  intro p e s m args below meth c s₁ B hml hv
  obtain ⟨rfl, hP, hKN⟩ := hv
  have hK := hKN.1
  have hx := B.exec
  have hb := B.bytes
  have hr := B.returns
  have hts := atoms_spec (ws := wsJxf58ca_isNaN_12338) B.pre
  have hown : s.vm.findClass RJxf58ca = some m.cls := findClass_of_methodNamed B.named
  have hlocks := B.notSynchronized
  have hS : va_S (fun _ => False) s.heap s.heap [] := va_S.rf
  have hl := lv_entry ([.float p1]) (n := 1) (Nat.le_of_ble_eq_true rfl)
  rw [lg_entry_eq]
  generalize (lg_sl ([.float p1]) ++ List.replicate (1 - (lg_sl ([.float p1])).length) Slot.unset).toArray = ls at hl ⊢
  have hl : lv_has ls 1 [(0, .float p1)] := hl
  have hE : f_Jxf58ca_isNaN_12338 V p1 = (if (Op.cmpValue (FP.fcmp p1 p1) CmpOp.l) = 0 then 0 else 1) := rfl
  refine lv_fload_n hx hb dJxf58ca_isNaN_12338_0 rfl (lv_at hl 0 rfl) ?_
  refine lv_fload_n hx hb dJxf58ca_isNaN_12338_1 rfl (lv_at hl 0 rfl) ?_
  refine lv_fcmp hx hb dJxf58ca_isNaN_12338_2 ?_
  refine lv_if_eq (tgt := 10) hx hb dJxf58ca_isNaN_12338_3 (by decide) (fun c1 => ?_) (fun c1 => ?_)
  · have hE := hE.trans (if_pos c1)
    refine lv_iconst (v := 0) hx hb dJxf58ca_isNaN_12338_10 (by decide) ?_
    exact W.zret (v := 0) hx hb hr rfl (fun t ht hW => ⟨⟨0, (), rfl, hE.symm, trivial⟩, hS.F ht⟩) hS.2.2 dJxf58ca_isNaN_12338_11
  · have hE := hE.trans (if_neg c1)
    refine lv_iconst (v := 1) hx hb dJxf58ca_isNaN_12338_6 (by decide) ?_
    refine lv_goto (tgt := 11) hx hb dJxf58ca_isNaN_12338_7 (by decide) ?_
    exact W.zret (v := 1) hx hb hr rfl (fun t ht hW => ⟨⟨1, (), rfl, hE.symm, trivial⟩, hS.F ht⟩) hS.2.2 dJxf58ca_isNaN_12338_11
def f_Jxf58ca_floatToIntBits_5c35a (V : VT) (p1 : UInt32) : Int32 := (if (f_Jxf58ca_isNaN_12338 V p1) = 0 then (p1).toInt32 else 2143289344)
set_option maxHeartbeats 4000000 in
set_option maxRecDepth 100000 in
theorem m_Jxf58ca_floatToIntBits_5c35a (l : Launch) (D : va_G) (cI cB : ClassId) (ad : Nat → Nat) (V : VT) (p1 : UInt32)  : Met l yJxf58ca_floatToIntBits_5c35a wsJxf58ca_floatToIntBits_5c35a ({ frames := 1, cells := 0, slots := 0, locals := 20 }) (cP D cI cB ad V [.float p1]) (cR (f_Jxf58ca_floatToIntBits_5c35a V p1)) 0 0 (fun _ => False) := by
  refine va_MetF (cc := cJxf58ca_floatToIntBits_5c35a) (maxL := 1) (ret := (some .int)) (by decide +kernel) rfl ?_
  intro p e s m args below meth c s₁ B hml hv
  obtain ⟨rfl, hP, hKN⟩ := hv
  have hK := hKN.1
  have hx := B.exec
  have hb := B.bytes
  have hr := B.returns
  have hts := atoms_spec (ws := wsJxf58ca_floatToIntBits_5c35a) B.pre
  have hown : s.vm.findClass RJxf58ca = some m.cls := findClass_of_methodNamed B.named
  have hlocks := B.notSynchronized
  have hS : va_S (fun _ => False) s.heap s.heap [] := va_S.rf
  have hl := lv_entry ([.float p1]) (n := 1) (Nat.le_of_ble_eq_true rfl)
  rw [lg_entry_eq]
  generalize (lg_sl ([.float p1]) ++ List.replicate (1 - (lg_sl ([.float p1])).length) Slot.unset).toArray = ls at hl ⊢
  have hl : lv_has ls 1 [(0, .float p1)] := hl
  have hE : f_Jxf58ca_floatToIntBits_5c35a V p1 = (if (f_Jxf58ca_isNaN_12338 V p1) = 0 then (p1).toInt32 else 2143289344) := rfl
  refine lv_fload_n hx hb dJxf58ca_floatToIntBits_5c35a_0 rfl (lv_at hl 0 rfl) ?_
  refine k_SR (As := [.float p1]) (rest := []) ⟨hx, hb, hml, hown, hts⟩ hKN hP hS (m_Jxf58ca_isNaN_12338 l D cI cB ad V p1) (va_cwS 1 hts gJxf58ca_floatToIntBits_5c35a_Jxf58ca_isNaN_12338 rfl rfl rfl (by decide +kernel) ⟨(Nat.le_of_ble_eq_true rfl), (Nat.le_of_ble_eq_true rfl)⟩) rfl hl.1 rfl (Nat.le_of_ble_eq_true rfl) dJxf58ca_floatToIntBits_5c35a_1 ⟨Nat.zero_le _, Nat.zero_le _⟩ (fun H locs hP hS => ?_)
  refine lv_if_ne (tgt := 12) hx hb dJxf58ca_floatToIntBits_5c35a_4 (by decide) (fun c1 => ?_) (fun c1 => ?_)
  · have hE := hE.trans (if_neg c1)
    refine lv_ldc (v := 2143289344) hx hb hown (hts (.constant RJxf58ca 77 (2143289344)) (List.mem_of_getElem? (i := 5) rfl)) dJxf58ca_floatToIntBits_5c35a_12 ?_
    exact W.iret (v := 2143289344) hx hb hr (fun t ht hW => ⟨⟨2143289344, (), rfl, hE.symm, trivial⟩, hS.F ht⟩) hS.2.2 dJxf58ca_floatToIntBits_5c35a_14
  · have hE := hE.trans (if_pos c1)
    refine lv_fload_n hx hb dJxf58ca_floatToIntBits_5c35a_7 rfl (lv_at hl 0 rfl) ?_
    refine vn_f2i hx hb (hml.trans hl.1.symm) hown (hts (.methodLink RJxf58ca 74 ⟨"java/lang/Float", "floatToRawIntBits", "(F)I"⟩) (List.mem_of_getElem? (i := 1) rfl)) (hts (.native ⟨"java/lang/Float", "floatToRawIntBits", "(F)I"⟩) (List.mem_of_getElem? (i := 2) rfl)) (hts (.static ⟨"java/lang/Float", "floatToRawIntBits", "(F)I"⟩) (List.mem_of_getElem? (i := 3) rfl)) (hts (.initialized "java/lang/Float") (List.mem_of_getElem? (i := 4) rfl)) (Nat.le_of_ble_eq_true rfl) (Nat.le_of_ble_eq_true rfl) dJxf58ca_floatToIntBits_5c35a_8 ?_
    exact W.iret (v := (p1).toInt32) hx hb hr (fun t ht hW => ⟨⟨(p1).toInt32, (), rfl, hE.symm, trivial⟩, hS.F ht⟩) hS.2.2 dJxf58ca_floatToIntBits_5c35a_11
def f_X4_at (V : VT) (q1 : Nat) (n1 : Nat) (p2 : Int32) : Int32 := (if p2 < 0 then (-1) else (if (nI n1) ≤ p2 then (-1) else (V q1 p2.toNatClampNeg)))
set_option maxHeartbeats 4000000 in
set_option maxRecDepth 100000 in
theorem m_X4_at (l : Launch) (D : va_G) (cI cB : ClassId) (N : Nat) (cl : LC) (ad : Nat → Nat) (V : VT) (q1 : Nat) (n1 : Nat) (p2 : Int32) (hr1 : isRw N cl cI q1 n1) : Met l yX4_at wsX4_at ({ frames := 0, cells := 0, slots := 0, locals := 0 }) (cG D cI cB N cl ad V [.ref (ad q1), .int p2]) (cR (f_X4_at V q1 n1 p2)) 0 0 (fun _ => False) := by
  refine Met.ofW (cc := cX4_at) (maxL := 2) (ret := (some .int)) (by decide +kernel) rfl ?_
  intro p e s m args below meth c s₁ B hml hv
  obtain ⟨rfl, hP, hKN⟩ := hv
  have hK := hKN.1
  have hx := B.exec
  have hb := B.bytes
  have hr := B.returns
  have hts := atoms_spec (ws := wsX4_at) B.pre
  have hown : s.vm.findClass RX4 = some m.cls := findClass_of_methodNamed B.named
  have hlocks := B.notSynchronized
  have hS : va_S (fun _ => False) s.heap s.heap [] := va_S.rf
  have hl := lv_entry ([.ref (ad q1), .int p2]) (n := 2) (Nat.le_of_ble_eq_true rfl)
  rw [lg_entry_eq]
  generalize (lg_sl ([.ref (ad q1), .int p2]) ++ List.replicate (2 - (lg_sl ([.ref (ad q1), .int p2])).length) Slot.unset).toArray = ls at hl ⊢
  have hl : lv_has ls 2 [(0, .ref (ad q1)), (1, .int p2)] := hl
  have hE : f_X4_at V q1 n1 p2 = (if p2 < 0 then (-1) else (if (nI n1) ≤ p2 then (-1) else (V q1 p2.toNatClampNeg))) := rfl
  refine lv_aload_n hx hb dX4_at_0 rfl (lv_at hl 0 rfl) ?_
  refine lv_ifnull hx hb dX4_at_1 ?_
  refine lv_iload_n hx hb dX4_at_4 rfl (lv_at hl 1 rfl) ?_
  refine lv_if_lt (tgt := 20) hx hb dX4_at_5 (by decide) (fun c1 => ?_) (fun c1 => ?_)
  · have hE := hE.trans (if_pos c1)
    refine lv_iconst (v := (-1)) hx hb dX4_at_20 (by decide) ?_
    exact W.iret (v := (-1)) hx hb hr (fun t ht hW => ⟨⟨(-1), (), rfl, hE.symm, trivial⟩, hS.F ht⟩) hS.2.2 dX4_at_21
  · have hE := hE.trans (if_neg c1)
    refine lv_iload_n hx hb dX4_at_8 rfl (lv_at hl 1 rfl) ?_
    refine lv_aload_n hx hb dX4_at_9 rfl (lv_at hl 0 rfl) ?_
    refine x_alen hx hb hK hP hr1 dX4_at_10 ?_
    refine lv_icmp_ge (tgt := 20) hx hb dX4_at_11 (by decide) (fun c2 => ?_) (fun c2 => ?_)
    · have hE := hE.trans (if_pos c2)
      refine lv_iconst (v := (-1)) hx hb dX4_at_20 (by decide) ?_
      exact W.iret (v := (-1)) hx hb hr (fun t ht hW => ⟨⟨(-1), (), rfl, hE.symm, trivial⟩, hS.F ht⟩) hS.2.2 dX4_at_21
    · have hE := hE.trans (if_neg c2)
      refine lv_aload_n hx hb dX4_at_14 rfl (lv_at hl 0 rfl) ?_
      refine lv_iload_n hx hb dX4_at_15 rfl (lv_at hl 1 rfl) ?_
      refine x_iald hx hb hK hP hr1 (vp_of3 c1 c2 hr1.2.2) dX4_at_16 ?_
      refine lv_goto (tgt := 21) hx hb dX4_at_17 (by decide) ?_
      exact W.iret (v := (V q1 p2.toNatClampNeg)) hx hb hr (fun t ht hW => ⟨⟨(V q1 p2.toNatClampNeg), (), rfl, hE.symm, trivial⟩, hS.F ht⟩) hS.2.2 dX4_at_21
def f_X4_put (V : VT) (q1 : Nat) (n1 : Nat) (p2 : Int32) (p3 : Int32) : VT := (if p2 < 0 then V else (if (nI n1) ≤ p2 then V else (upV V q1 p2.toNatClampNeg p3)))
set_option maxHeartbeats 4000000 in
set_option maxRecDepth 100000 in
theorem m_X4_put (l : Launch) (D : va_G) (cI cB : ClassId) (N : Nat) (cl : LC) (ad : Nat → Nat) {A : Nat → Prop} (hA : adG N ad A) (V : VT) (q1 : Nat) (n1 : Nat) (p2 : Int32) (p3 : Int32) (hr1 : isRw N cl cI q1 n1) : Met l yX4_put wsX4_put ({ frames := 0, cells := 0, slots := 0, locals := 0 }) (cG D cI cB N cl ad V [.ref (ad q1), .int p2, .int p3]) (cGv D N cl ad A (f_X4_put V q1 n1 p2 p3)) 0 0 A := by
  refine Met.ofW (cc := cX4_put) (maxL := 3) (ret := none) (by decide +kernel) rfl ?_
  intro p e s m args below meth c s₁ B hml hv
  obtain ⟨rfl, hP, hKN⟩ := hv
  have hK := hKN.1
  have hx := B.exec
  have hb := B.bytes
  have hr := B.returns
  have hts := atoms_spec (ws := wsX4_put) B.pre
  have hown : s.vm.findClass RX4 = some m.cls := findClass_of_methodNamed B.named
  have hlocks := B.notSynchronized
  have hS : va_S A s.heap s.heap [] := va_S.rf
  have hl := lv_entry ([.ref (ad q1), .int p2, .int p3]) (n := 3) (Nat.le_of_ble_eq_true rfl)
  rw [lg_entry_eq]
  generalize (lg_sl ([.ref (ad q1), .int p2, .int p3]) ++ List.replicate (3 - (lg_sl ([.ref (ad q1), .int p2, .int p3])).length) Slot.unset).toArray = ls at hl ⊢
  have hl : lv_has ls 3 [(0, .ref (ad q1)), (1, .int p2), (2, .int p3)] := hl
  have hE : f_X4_put V q1 n1 p2 p3 = (if p2 < 0 then V else (if (nI n1) ≤ p2 then V else (upV V q1 p2.toNatClampNeg p3))) := rfl
  refine lv_aload_n hx hb dX4_put_0 rfl (lv_at hl 0 rfl) ?_
  refine lv_ifnull hx hb dX4_put_1 ?_
  refine lv_iload_n hx hb dX4_put_4 rfl (lv_at hl 1 rfl) ?_
  refine lv_if_lt (tgt := 18) hx hb dX4_put_5 (by decide) (fun c1 => ?_) (fun c1 => ?_)
  · have hE := hE.trans (if_pos c1)
    exact W.vret hx hb hr (fun t ht hW => ⟨⟨V, rfl, hE.symm, by dsimp only; rw [ht]; exact hP⟩, hS.F ht⟩) hS.2.2 dX4_put_18
  · have hE := hE.trans (if_neg c1)
    refine lv_iload_n hx hb dX4_put_8 rfl (lv_at hl 1 rfl) ?_
    refine lv_aload_n hx hb dX4_put_9 rfl (lv_at hl 0 rfl) ?_
    refine x_alen hx hb hK hP hr1 dX4_put_10 ?_
    refine lv_icmp_ge (tgt := 18) hx hb dX4_put_11 (by decide) (fun c2 => ?_) (fun c2 => ?_)
    · have hE := hE.trans (if_pos c2)
      exact W.vret hx hb hr (fun t ht hW => ⟨⟨V, rfl, hE.symm, by dsimp only; rw [ht]; exact hP⟩, hS.F ht⟩) hS.2.2 dX4_put_18
    · have hE := hE.trans (if_neg c2)
      refine lv_aload_n hx hb dX4_put_14 rfl (lv_at hl 0 rfl) ?_
      refine lv_iload_n hx hb dX4_put_15 rfl (lv_at hl 1 rfl) ?_
      refine lv_iload_n hx hb dX4_put_16 rfl (lv_at hl 2 rfl) ?_
      refine x_iast hx hb hK hP hA hS hr1 (vp_of3 c1 c2 hr1.2.2) dX4_put_17 (fun H locs hP hS => ?_)
      exact W.vret hx hb hr (fun t ht hW => ⟨⟨(upV V q1 p2.toNatClampNeg p3), rfl, hE.symm, by dsimp only; rw [ht]; exact hP⟩, hS.F ht⟩) hS.2.2 dX4_put_18
def f_X4_fill_l1 (fu : Nat) (q1 : Nat) (n1 : Nat) (p2 : Int32) : Nat → VT → Int32 → VT
  | 0, V1, x2_1 => V1
  | w1 + 1, V1, x2_1 => (if (nI n1) ≤ x2_1 then V1 else (f_X4_fill_l1 fu q1 n1 p2 w1 (upV V1 q1 x2_1.toNatClampNeg p2) (x2_1 + 1)))
def p_X4_fill_l1 (fu : Nat) (q1 : Nat) (n1 : Nat) (p2 : Int32) : Nat → VT → Int32 → Prop
  | 0, _, _ => False
  | w1 + 1, V1, x2_1 => (((nI n1) ≤ x2_1 → True) ∧ (¬ ((nI n1) ≤ x2_1) → ((vp_in x2_1 n1) ∧ (p_X4_fill_l1 fu q1 n1 p2 w1 (upV V1 q1 x2_1.toNatClampNeg p2) (x2_1 + 1)))))
def f_X4_fill (fu : Nat) (V : VT) (q1 : Nat) (n1 : Nat) (p2 : Int32) : VT := (f_X4_fill_l1 fu q1 n1 p2 fu V 0)
def p_X4_fill (fu : Nat) (V : VT) (q1 : Nat) (n1 : Nat) (p2 : Int32) : Prop := (p_X4_fill_l1 fu q1 n1 p2 fu V 0)
set_option maxHeartbeats 4000000 in
set_option maxRecDepth 100000 in
theorem m_X4_fill (l : Launch) (D : va_G) (cI cB : ClassId) (N : Nat) (cl : LC) (ad : Nat → Nat) {A : Nat → Prop} (hA : adG N ad A) (fu : Nat) (V : VT) (q1 : Nat) (n1 : Nat) (p2 : Int32) (hr1 : isRw N cl cI q1 n1) (hp : p_X4_fill fu V q1 n1 p2) : Met l yX4_fill wsX4_fill ({ frames := 0, cells := 0, slots := 0, locals := 0 }) (cG D cI cB N cl ad V [.ref (ad q1), .int p2]) (cGv D N cl ad A (f_X4_fill fu V q1 n1 p2)) 0 0 A := by
  refine Met.ofW (cc := cX4_fill) (maxL := 3) (ret := none) (by decide +kernel) rfl ?_
  intro p e s m args below meth c s₁ B hml hv
  obtain ⟨rfl, hP, hKN⟩ := hv
  have hK := hKN.1
  have hx := B.exec
  have hb := B.bytes
  have hr := B.returns
  have hts := atoms_spec (ws := wsX4_fill) B.pre
  have hown : s.vm.findClass RX4 = some m.cls := findClass_of_methodNamed B.named
  have hlocks := B.notSynchronized
  have hS : va_S A s.heap s.heap [] := va_S.rf
  have hl := lv_entry ([.ref (ad q1), .int p2]) (n := 3) (Nat.le_of_ble_eq_true rfl)
  rw [lg_entry_eq]
  generalize (lg_sl ([.ref (ad q1), .int p2]) ++ List.replicate (3 - (lg_sl ([.ref (ad q1), .int p2])).length) Slot.unset).toArray = ls at hl ⊢
  have hl : lv_has ls 3 [(0, .ref (ad q1)), (1, .int p2)] := hl
  have hE : f_X4_fill fu V q1 n1 p2 = (f_X4_fill_l1 fu q1 n1 p2 fu V 0) := rfl
  refine lv_aload_n hx hb dX4_fill_0 rfl (lv_at hl 0 rfl) ?_
  refine lv_ifnull hx hb dX4_fill_1 ?_
  refine lv_iconst (v := 0) hx hb dX4_fill_4 (by decide) ?_
  refine lv_istore_n (lv' := [(2, .int 0), (0, .ref (ad q1)), (1, .int p2)]) hx hb dX4_fill_5 rfl hl (by decide) rfl (fun ls hl => ?_)
  have L1 : ∀ (w1 : Nat) (V1 : VT) (x2_1 : Int32), f_X4_fill fu V q1 n1 p2 = f_X4_fill_l1 fu q1 n1 p2 w1 V1 x2_1 → p_X4_fill_l1 fu q1 n1 p2 w1 V1 x2_1 → ∀ (H : Heap) (locs : List Loc), wG D N cl ad V1 H → va_S A s.heap H locs → ∀ (ls : Array Slot), lv_has ls 3 [(0, .ref (ad q1)), (1, .int p2), (2, .int x2_1)] → W p l e (headSpec wsX4_fill ({ frames := 0, cells := 0, slots := 0, locals := 0 })).room s m ([.ref (ad q1), .int p2] : List Value).toArray below meth c H locs 0 0 (MQ below (cGv D N cl ad A (f_X4_fill fu V q1 n1 p2)) ([.ref (ad q1), .int p2] : List Value).toArray s 0 0 A) (F0 m 6 ls []) := by
    intro w1
    induction w1 with
    | zero => intro V1 x2_1 hE hp; exact hp.elim
    | succ w1 ih1 =>
      intro V1 x2_1 hE hp H locs hP hS ls hl
      rw [f_X4_fill_l1] at hE
      rw [p_X4_fill_l1] at hp
      refine lv_iload_n hx hb dX4_fill_6 rfl (lv_at hl 2 rfl) ?_
      refine lv_aload_n hx hb dX4_fill_7 rfl (lv_at hl 0 rfl) ?_
      refine x_alen hx hb hK hP hr1 dX4_fill_8 ?_
      refine lv_icmp_ge (tgt := 22) hx hb dX4_fill_9 (by decide) (fun c1 => ?_) (fun c1 => ?_)
      · have hE := hE.trans (if_pos c1)
        exact W.vret hx hb hr (fun t ht hW => ⟨⟨V1, rfl, hE.symm, by dsimp only; rw [ht]; exact hP⟩, hS.F ht⟩) hS.2.2 dX4_fill_22
      · have hE := hE.trans (if_neg c1)
        have hp := pc_bn hp c1
        refine lv_aload_n hx hb dX4_fill_12 rfl (lv_at hl 0 rfl) ?_
        refine lv_iload_n hx hb dX4_fill_13 rfl (lv_at hl 2 rfl) ?_
        refine lv_iload_n hx hb dX4_fill_14 rfl (lv_at hl 1 rfl) ?_
        obtain ⟨hn1, hp⟩ := hp
        refine x_iast hx hb hK hP hA hS hr1 hn1 dX4_fill_15 (fun H locs hP hS => ?_)
        refine lv_iinc (v := (x2_1 + 1)) (lv' := [(2, .int (x2_1 + 1)), (0, .ref (ad q1)), (1, .int p2)]) hx hb dX4_fill_16 hl (k := 2) rfl (by rfl) (by decide) rfl (fun ls hl => ?_)
        refine lv_goto (tgt := 6) hx hb dX4_fill_19 (by decide) ?_
        exact ih1 (upV V1 q1 x2_1.toNatClampNeg p2) (x2_1 + 1) hE hp H locs hP hS ls (lv_sub hl [1, 2, 0] rfl)
  exact L1 fu V 0 hE hp _ _ hP hS _ (lv_sub hl [1, 2, 0] rfl)
def f_X4_copy_l1 (fu : Nat) (q1 : Nat) (n1 : Nat) (q2 : Nat) (n2 : Nat) : Nat → VT → Int32 → VT
  | 0, V1, x2_1 => V1
  | w1 + 1, V1, x2_1 => (if (nI n1) ≤ x2_1 then V1 else (if (nI n2) ≤ x2_1 then V1 else (f_X4_copy_l1 fu q1 n1 q2 n2 w1 (upV V1 q2 x2_1.toNatClampNeg (V1 q1 x2_1.toNatClampNeg)) (x2_1 + 1))))
def p_X4_copy_l1 (fu : Nat) (q1 : Nat) (n1 : Nat) (q2 : Nat) (n2 : Nat) : Nat → VT → Int32 → Prop
  | 0, _, _ => False
  | w1 + 1, V1, x2_1 => (((nI n1) ≤ x2_1 → True) ∧ (¬ ((nI n1) ≤ x2_1) → (((nI n2) ≤ x2_1 → True) ∧ (¬ ((nI n2) ≤ x2_1) → ((vp_in x2_1 n1) ∧ ((vp_in x2_1 n2) ∧ (p_X4_copy_l1 fu q1 n1 q2 n2 w1 (upV V1 q2 x2_1.toNatClampNeg (V1 q1 x2_1.toNatClampNeg)) (x2_1 + 1))))))))
def f_X4_copy (fu : Nat) (V : VT) (q1 : Nat) (n1 : Nat) (q2 : Nat) (n2 : Nat) : VT := (f_X4_copy_l1 fu q1 n1 q2 n2 fu V 0)
def p_X4_copy (fu : Nat) (V : VT) (q1 : Nat) (n1 : Nat) (q2 : Nat) (n2 : Nat) : Prop := (p_X4_copy_l1 fu q1 n1 q2 n2 fu V 0)
set_option maxHeartbeats 4000000 in
set_option maxRecDepth 100000 in
theorem m_X4_copy (l : Launch) (D : va_G) (cI cB : ClassId) (N : Nat) (cl : LC) (ad : Nat → Nat) {A : Nat → Prop} (hA : adG N ad A) (fu : Nat) (V : VT) (q1 : Nat) (n1 : Nat) (q2 : Nat) (n2 : Nat) (hr1 : isRw N cl cI q1 n1) (hr2 : isRw N cl cI q2 n2) (hp : p_X4_copy fu V q1 n1 q2 n2) : Met l yX4_copy wsX4_copy ({ frames := 0, cells := 0, slots := 0, locals := 0 }) (cG D cI cB N cl ad V [.ref (ad q1), .ref (ad q2)]) (cGv D N cl ad A (f_X4_copy fu V q1 n1 q2 n2)) 0 0 A := by
  refine Met.ofW (cc := cX4_copy) (maxL := 3) (ret := none) (by decide +kernel) rfl ?_
  intro p e s m args below meth c s₁ B hml hv
  obtain ⟨rfl, hP, hKN⟩ := hv
  have hK := hKN.1
  have hx := B.exec
  have hb := B.bytes
  have hr := B.returns
  have hts := atoms_spec (ws := wsX4_copy) B.pre
  have hown : s.vm.findClass RX4 = some m.cls := findClass_of_methodNamed B.named
  have hlocks := B.notSynchronized
  have hS : va_S A s.heap s.heap [] := va_S.rf
  have hl := lv_entry ([.ref (ad q1), .ref (ad q2)]) (n := 3) (Nat.le_of_ble_eq_true rfl)
  rw [lg_entry_eq]
  generalize (lg_sl ([.ref (ad q1), .ref (ad q2)]) ++ List.replicate (3 - (lg_sl ([.ref (ad q1), .ref (ad q2)])).length) Slot.unset).toArray = ls at hl ⊢
  have hl : lv_has ls 3 [(0, .ref (ad q1)), (1, .ref (ad q2))] := hl
  have hE : f_X4_copy fu V q1 n1 q2 n2 = (f_X4_copy_l1 fu q1 n1 q2 n2 fu V 0) := rfl
  refine lv_aload_n hx hb dX4_copy_0 rfl (lv_at hl 0 rfl) ?_
  refine lv_ifnull hx hb dX4_copy_1 ?_
  refine lv_aload_n hx hb dX4_copy_4 rfl (lv_at hl 1 rfl) ?_
  refine lv_ifnull hx hb dX4_copy_5 ?_
  refine lv_iconst (v := 0) hx hb dX4_copy_8 (by decide) ?_
  refine lv_istore_n (lv' := [(2, .int 0), (0, .ref (ad q1)), (1, .ref (ad q2))]) hx hb dX4_copy_9 rfl hl (by decide) rfl (fun ls hl => ?_)
  have L1 : ∀ (w1 : Nat) (V1 : VT) (x2_1 : Int32), f_X4_copy fu V q1 n1 q2 n2 = f_X4_copy_l1 fu q1 n1 q2 n2 w1 V1 x2_1 → p_X4_copy_l1 fu q1 n1 q2 n2 w1 V1 x2_1 → ∀ (H : Heap) (locs : List Loc), wG D N cl ad V1 H → va_S A s.heap H locs → ∀ (ls : Array Slot), lv_has ls 3 [(0, .ref (ad q1)), (1, .ref (ad q2)), (2, .int x2_1)] → W p l e (headSpec wsX4_copy ({ frames := 0, cells := 0, slots := 0, locals := 0 })).room s m ([.ref (ad q1), .ref (ad q2)] : List Value).toArray below meth c H locs 0 0 (MQ below (cGv D N cl ad A (f_X4_copy fu V q1 n1 q2 n2)) ([.ref (ad q1), .ref (ad q2)] : List Value).toArray s 0 0 A) (F0 m 10 ls []) := by
    intro w1
    induction w1 with
    | zero => intro V1 x2_1 hE hp; exact hp.elim
    | succ w1 ih1 =>
      intro V1 x2_1 hE hp H locs hP hS ls hl
      rw [f_X4_copy_l1] at hE
      rw [p_X4_copy_l1] at hp
      refine lv_iload_n hx hb dX4_copy_10 rfl (lv_at hl 2 rfl) ?_
      refine lv_aload_n hx hb dX4_copy_11 rfl (lv_at hl 0 rfl) ?_
      refine x_alen hx hb hK hP hr1 dX4_copy_12 ?_
      refine lv_icmp_ge (tgt := 34) hx hb dX4_copy_13 (by decide) (fun c1 => ?_) (fun c1 => ?_)
      · have hE := hE.trans (if_pos c1)
        exact W.vret hx hb hr (fun t ht hW => ⟨⟨V1, rfl, hE.symm, by dsimp only; rw [ht]; exact hP⟩, hS.F ht⟩) hS.2.2 dX4_copy_34
      · have hE := hE.trans (if_neg c1)
        have hp := pc_bn hp c1
        refine lv_iload_n hx hb dX4_copy_16 rfl (lv_at hl 2 rfl) ?_
        refine lv_aload_n hx hb dX4_copy_17 rfl (lv_at hl 1 rfl) ?_
        refine x_alen hx hb hK hP hr2 dX4_copy_18 ?_
        refine lv_icmp_ge (tgt := 34) hx hb dX4_copy_19 (by decide) (fun c2 => ?_) (fun c2 => ?_)
        · have hE := hE.trans (if_pos c2)
          exact W.vret hx hb hr (fun t ht hW => ⟨⟨V1, rfl, hE.symm, by dsimp only; rw [ht]; exact hP⟩, hS.F ht⟩) hS.2.2 dX4_copy_34
        · have hE := hE.trans (if_neg c2)
          have hp := pc_bn hp c2
          refine lv_aload_n hx hb dX4_copy_22 rfl (lv_at hl 1 rfl) ?_
          refine lv_iload_n hx hb dX4_copy_23 rfl (lv_at hl 2 rfl) ?_
          refine lv_aload_n hx hb dX4_copy_24 rfl (lv_at hl 0 rfl) ?_
          refine lv_iload_n hx hb dX4_copy_25 rfl (lv_at hl 2 rfl) ?_
          obtain ⟨hn1, hp⟩ := hp
          refine x_iald hx hb hK hP hr1 hn1 dX4_copy_26 ?_
          obtain ⟨hn2, hp⟩ := hp
          refine x_iast hx hb hK hP hA hS hr2 hn2 dX4_copy_27 (fun H locs hP hS => ?_)
          refine lv_iinc (v := (x2_1 + 1)) (lv' := [(2, .int (x2_1 + 1)), (0, .ref (ad q1)), (1, .ref (ad q2))]) hx hb dX4_copy_28 hl (k := 2) rfl (by rfl) (by decide) rfl (fun ls hl => ?_)
          refine lv_goto (tgt := 10) hx hb dX4_copy_31 (by decide) ?_
          exact ih1 (upV V1 q2 x2_1.toNatClampNeg (V1 q1 x2_1.toNatClampNeg)) (x2_1 + 1) hE hp H locs hP hS ls (lv_sub hl [1, 2, 0] rfl)
  exact L1 fu V 0 hE hp _ _ hP hS _ (lv_sub hl [1, 2, 0] rfl)
def a_X6_turn_15 (p1 : Int32) : Int32 := (((p1 &&& 21845) <<< (1 &&& 31)) ||| ((jushr p1 1) &&& 21845))
def a_X6_turn_31 (p1 : Int32) : Int32 := ((((a_X6_turn_15 p1) &&& 13107) <<< (2 &&& 31)) ||| ((jushr (a_X6_turn_15 p1) 2) &&& 13107))
def a_X6_turn_47 (p1 : Int32) : Int32 := ((((a_X6_turn_31 p1) &&& 3855) <<< (4 &&& 31)) ||| ((jushr (a_X6_turn_31 p1) 4) &&& 3855))
def a_X6_turn_65 (p1 : Int32) : Int32 := ((((a_X6_turn_47 p1) &&& 255) <<< (8 &&& 31)) ||| ((jushr (a_X6_turn_47 p1) 8) &&& 255))
def f_X6_turn (V : VT) (p1 : Int32) : Int32 := (jushr (a_X6_turn_65 p1) 1)
set_option maxHeartbeats 4000000 in
set_option maxRecDepth 100000 in
theorem m_X6_turn (l : Launch) (D : va_G) (cI cB : ClassId) (ad : Nat → Nat) (V : VT) (p1 : Int32)  : Met l yX6_turn wsX6_turn ({ frames := 0, cells := 0, slots := 0, locals := 0 }) (cP D cI cB ad V [.int p1]) (cR (f_X6_turn V p1)) 0 0 (fun _ => False) := by
  refine Met.ofW (cc := cX6_turn) (maxL := 2) (ret := (some .int)) (by decide +kernel) rfl ?_
  intro p e s m args below meth c s₁ B hml hv
  obtain ⟨rfl, hP, hKN⟩ := hv
  have hK := hKN.1
  have hx := B.exec
  have hb := B.bytes
  have hr := B.returns
  have hts := atoms_spec (ws := wsX6_turn) B.pre
  have hown : s.vm.findClass RX6 = some m.cls := findClass_of_methodNamed B.named
  have hlocks := B.notSynchronized
  have hS : va_S (fun _ => False) s.heap s.heap [] := va_S.rf
  have hl := lv_entry ([.int p1]) (n := 2) (Nat.le_of_ble_eq_true rfl)
  rw [lg_entry_eq]
  generalize (lg_sl ([.int p1]) ++ List.replicate (2 - (lg_sl ([.int p1])).length) Slot.unset).toArray = ls at hl ⊢
  have hl : lv_has ls 2 [(0, .int p1)] := hl
  have hE : f_X6_turn V p1 = (jushr (a_X6_turn_65 p1) 1) := rfl
  refine lv_iload_n hx hb dX6_turn_0 rfl (lv_at hl 0 rfl) ?_
  refine lv_sipush (v := 21845) hx hb dX6_turn_1 (by decide) ?_
  refine lv_iand hx hb dX6_turn_4 ?_
  refine lv_iconst (v := 1) hx hb dX6_turn_5 (by decide) ?_
  refine lv_ishl hx hb dX6_turn_6 ?_
  refine lv_iload_n hx hb dX6_turn_7 rfl (lv_at hl 0 rfl) ?_
  refine lv_iconst (v := 1) hx hb dX6_turn_8 (by decide) ?_
  refine lv_iushr (v := jushr p1 1) hx hb dX6_turn_9 rfl ?_
  refine lv_sipush (v := 21845) hx hb dX6_turn_10 (by decide) ?_
  refine lv_iand hx hb dX6_turn_13 ?_
  refine lv_ior hx hb dX6_turn_14 ?_
  refine lv_istore_n (lv' := [(1, .int (a_X6_turn_15 p1)), (0, .int p1)]) hx hb dX6_turn_15 rfl hl (by decide) rfl (fun ls hl => ?_)
  refine lv_iload_n hx hb dX6_turn_16 rfl (lv_at hl 0 rfl) ?_
  refine lv_sipush (v := 13107) hx hb dX6_turn_17 (by decide) ?_
  refine lv_iand hx hb dX6_turn_20 ?_
  refine lv_iconst (v := 2) hx hb dX6_turn_21 (by decide) ?_
  refine lv_ishl hx hb dX6_turn_22 ?_
  refine lv_iload_n hx hb dX6_turn_23 rfl (lv_at hl 0 rfl) ?_
  refine lv_iconst (v := 2) hx hb dX6_turn_24 (by decide) ?_
  refine lv_iushr (v := jushr (a_X6_turn_15 p1) 2) hx hb dX6_turn_25 rfl ?_
  refine lv_sipush (v := 13107) hx hb dX6_turn_26 (by decide) ?_
  refine lv_iand hx hb dX6_turn_29 ?_
  refine lv_ior hx hb dX6_turn_30 ?_
  refine lv_istore_n (lv' := [(1, .int (a_X6_turn_31 p1)), (0, .int p1)]) hx hb dX6_turn_31 rfl hl (by decide) rfl (fun ls hl => ?_)
  refine lv_iload_n hx hb dX6_turn_32 rfl (lv_at hl 0 rfl) ?_
  refine lv_sipush (v := 3855) hx hb dX6_turn_33 (by decide) ?_
  refine lv_iand hx hb dX6_turn_36 ?_
  refine lv_iconst (v := 4) hx hb dX6_turn_37 (by decide) ?_
  refine lv_ishl hx hb dX6_turn_38 ?_
  refine lv_iload_n hx hb dX6_turn_39 rfl (lv_at hl 0 rfl) ?_
  refine lv_iconst (v := 4) hx hb dX6_turn_40 (by decide) ?_
  refine lv_iushr (v := jushr (a_X6_turn_31 p1) 4) hx hb dX6_turn_41 rfl ?_
  refine lv_sipush (v := 3855) hx hb dX6_turn_42 (by decide) ?_
  refine lv_iand hx hb dX6_turn_45 ?_
  refine lv_ior hx hb dX6_turn_46 ?_
  refine lv_istore_n (lv' := [(1, .int (a_X6_turn_47 p1)), (0, .int p1)]) hx hb dX6_turn_47 rfl hl (by decide) rfl (fun ls hl => ?_)
  refine lv_iload_n hx hb dX6_turn_48 rfl (lv_at hl 0 rfl) ?_
  refine lv_sipush (v := 255) hx hb dX6_turn_49 (by decide) ?_
  refine lv_iand hx hb dX6_turn_52 ?_
  refine lv_bipush (v := 8) hx hb dX6_turn_53 (by decide) ?_
  refine lv_ishl hx hb dX6_turn_55 ?_
  refine lv_iload_n hx hb dX6_turn_56 rfl (lv_at hl 0 rfl) ?_
  refine lv_bipush (v := 8) hx hb dX6_turn_57 (by decide) ?_
  refine lv_iushr (v := jushr (a_X6_turn_47 p1) 8) hx hb dX6_turn_59 rfl ?_
  refine lv_sipush (v := 255) hx hb dX6_turn_60 (by decide) ?_
  refine lv_iand hx hb dX6_turn_63 ?_
  refine lv_ior hx hb dX6_turn_64 ?_
  refine lv_istore_n (lv' := [(1, .int (a_X6_turn_65 p1)), (0, .int p1)]) hx hb dX6_turn_65 rfl hl (by decide) rfl (fun ls hl => ?_)
  refine lv_iload_n hx hb dX6_turn_66 rfl (lv_at hl 0 rfl) ?_
  refine lv_iconst (v := 1) hx hb dX6_turn_67 (by decide) ?_
  refine lv_iushr (v := jushr (a_X6_turn_65 p1) 1) hx hb dX6_turn_68 rfl ?_
  exact W.iret (v := (jushr (a_X6_turn_65 p1) 1)) hx hb hr (fun t ht hW => ⟨⟨(jushr (a_X6_turn_65 p1) 1), (), rfl, hE.symm, trivial⟩, hS.F ht⟩) hS.2.2 dX6_turn_69
def f_X6_seen (V : VT) (p1 : Int32) (p2 : Int32) : Int32 := (if p2 = 0 then p1 else (f_X6_turn V p1))
set_option maxHeartbeats 4000000 in
set_option maxRecDepth 100000 in
theorem m_X6_seen (l : Launch) (D : va_G) (cI cB : ClassId) (ad : Nat → Nat) (V : VT) (p1 : Int32) (p2 : Int32)  : Met l yX6_seen wsX6_seen ({ frames := 1, cells := 0, slots := 0, locals := 21 }) (cP D cI cB ad V [.int p1, .int p2]) (cR (f_X6_seen V p1 p2)) 0 0 (fun _ => False) := by
  refine Met.ofW (cc := cX6_seen) (maxL := 2) (ret := (some .int)) (by decide +kernel) rfl ?_
  intro p e s m args below meth c s₁ B hml hv
  obtain ⟨rfl, hP, hKN⟩ := hv
  have hK := hKN.1
  have hx := B.exec
  have hb := B.bytes
  have hr := B.returns
  have hts := atoms_spec (ws := wsX6_seen) B.pre
  have hown : s.vm.findClass RX6 = some m.cls := findClass_of_methodNamed B.named
  have hlocks := B.notSynchronized
  have hS : va_S (fun _ => False) s.heap s.heap [] := va_S.rf
  have hl := lv_entry ([.int p1, .int p2]) (n := 2) (Nat.le_of_ble_eq_true rfl)
  rw [lg_entry_eq]
  generalize (lg_sl ([.int p1, .int p2]) ++ List.replicate (2 - (lg_sl ([.int p1, .int p2])).length) Slot.unset).toArray = ls at hl ⊢
  have hl : lv_has ls 2 [(0, .int p1), (1, .int p2)] := hl
  have hE : f_X6_seen V p1 p2 = (if p2 = 0 then p1 else (f_X6_turn V p1)) := rfl
  refine lv_iload_n hx hb dX6_seen_0 rfl (lv_at hl 1 rfl) ?_
  refine lv_if_ne (tgt := 8) hx hb dX6_seen_1 (by decide) (fun c1 => ?_) (fun c1 => ?_)
  · have hE := hE.trans (if_neg c1)
    refine lv_iload_n hx hb dX6_seen_8 rfl (lv_at hl 0 rfl) ?_
    refine k_SR (As := [.int p1]) (rest := []) ⟨hx, hb, hml, hown, hts⟩ hKN hP hS (m_X6_turn l D cI cB ad V p1) (va_cwS 1 hts gX6_seen_X6_turn rfl rfl rfl (by decide +kernel) ⟨(Nat.le_of_ble_eq_true rfl), (Nat.le_of_ble_eq_true rfl)⟩) rfl hl.1 rfl (Nat.le_of_ble_eq_true rfl) dX6_seen_9 ⟨Nat.zero_le _, Nat.zero_le _⟩ (fun H locs hP hS => ?_)
    exact W.iret (v := (f_X6_turn V p1)) hx hb hr (fun t ht hW => ⟨⟨(f_X6_turn V p1), (), rfl, hE.symm, trivial⟩, hS.F ht⟩) hS.2.2 dX6_seen_12
  · have hE := hE.trans (if_pos c1)
    refine lv_iload_n hx hb dX6_seen_4 rfl (lv_at hl 0 rfl) ?_
    refine lv_goto (tgt := 12) hx hb dX6_seen_5 (by decide) ?_
    exact W.iret (v := p1) hx hb hr (fun t ht hW => ⟨⟨p1, (), rfl, hE.symm, trivial⟩, hS.F ht⟩) hS.2.2 dX6_seen_12
def f_X6_darkInUpperRows (V : VT) (p1 : Int32) (p2 : Int32) : Int32 := (if p2 = 0 then (f_J6_bitCount_0f7a4 V (p1 &&& 511)) else (f_J6_bitCount_0f7a4 V ((jushr p1 6) &&& 511)))
set_option maxHeartbeats 4000000 in
set_option maxRecDepth 100000 in
theorem m_X6_darkInUpperRows (l : Launch) (D : va_G) (cI cB : ClassId) (ad : Nat → Nat) (V : VT) (p1 : Int32) (p2 : Int32)  : Met l yX6_darkInUpperRows wsX6_darkInUpperRows ({ frames := 1, cells := 0, slots := 0, locals := 20 }) (cP D cI cB ad V [.int p1, .int p2]) (cR (f_X6_darkInUpperRows V p1 p2)) 0 0 (fun _ => False) := by
  refine Met.ofW (cc := cX6_darkInUpperRows) (maxL := 2) (ret := (some .int)) (by decide +kernel) rfl ?_
  intro p e s m args below meth c s₁ B hml hv
  obtain ⟨rfl, hP, hKN⟩ := hv
  have hK := hKN.1
  have hx := B.exec
  have hb := B.bytes
  have hr := B.returns
  have hts := atoms_spec (ws := wsX6_darkInUpperRows) B.pre
  have hown : s.vm.findClass RX6 = some m.cls := findClass_of_methodNamed B.named
  have hlocks := B.notSynchronized
  have hS : va_S (fun _ => False) s.heap s.heap [] := va_S.rf
  have hl := lv_entry ([.int p1, .int p2]) (n := 2) (Nat.le_of_ble_eq_true rfl)
  rw [lg_entry_eq]
  generalize (lg_sl ([.int p1, .int p2]) ++ List.replicate (2 - (lg_sl ([.int p1, .int p2])).length) Slot.unset).toArray = ls at hl ⊢
  have hl : lv_has ls 2 [(0, .int p1), (1, .int p2)] := hl
  have hE : f_X6_darkInUpperRows V p1 p2 = (if p2 = 0 then (f_J6_bitCount_0f7a4 V (p1 &&& 511)) else (f_J6_bitCount_0f7a4 V ((jushr p1 6) &&& 511))) := rfl
  refine lv_iload_n hx hb dX6_darkInUpperRows_0 rfl (lv_at hl 1 rfl) ?_
  refine lv_if_ne (tgt := 8) hx hb dX6_darkInUpperRows_1 (by decide) (fun c1 => ?_) (fun c1 => ?_)
  · have hE := hE.trans (if_neg c1)
    refine lv_iload_n hx hb dX6_darkInUpperRows_8 rfl (lv_at hl 0 rfl) ?_
    refine lv_bipush (v := 6) hx hb dX6_darkInUpperRows_9 (by decide) ?_
    refine lv_iushr (v := jushr p1 6) hx hb dX6_darkInUpperRows_11 rfl ?_
    refine lv_sipush (v := 511) hx hb dX6_darkInUpperRows_12 (by decide) ?_
    refine lv_iand hx hb dX6_darkInUpperRows_15 ?_
    refine k_SR (As := [.int ((jushr p1 6) &&& 511)]) (rest := []) ⟨hx, hb, hml, hown, hts⟩ hKN hP hS (m_J6_bitCount_0f7a4 l D cI cB ad V ((jushr p1 6) &&& 511)) (va_cwS 1 hts gX6_darkInUpperRows_J6_bitCount_0f7a4 rfl rfl rfl (by decide +kernel) ⟨(Nat.le_of_ble_eq_true rfl), (Nat.le_of_ble_eq_true rfl)⟩) rfl hl.1 rfl (Nat.le_of_ble_eq_true rfl) dX6_darkInUpperRows_16 ⟨Nat.zero_le _, Nat.zero_le _⟩ (fun H locs hP hS => ?_)
    exact W.iret (v := (f_J6_bitCount_0f7a4 V ((jushr p1 6) &&& 511))) hx hb hr (fun t ht hW => ⟨⟨(f_J6_bitCount_0f7a4 V ((jushr p1 6) &&& 511)), (), rfl, hE.symm, trivial⟩, hS.F ht⟩) hS.2.2 dX6_darkInUpperRows_19
  · have hE := hE.trans (if_pos c1)
    refine lv_iload_n hx hb dX6_darkInUpperRows_4 rfl (lv_at hl 0 rfl) ?_
    refine lv_goto (tgt := 12) hx hb dX6_darkInUpperRows_5 (by decide) ?_
    refine lv_sipush (v := 511) hx hb dX6_darkInUpperRows_12 (by decide) ?_
    refine lv_iand hx hb dX6_darkInUpperRows_15 ?_
    refine k_SR (As := [.int (p1 &&& 511)]) (rest := []) ⟨hx, hb, hml, hown, hts⟩ hKN hP hS (m_J6_bitCount_0f7a4 l D cI cB ad V (p1 &&& 511)) (va_cwS 1 hts gX6_darkInUpperRows_J6_bitCount_0f7a4 rfl rfl rfl (by decide +kernel) ⟨(Nat.le_of_ble_eq_true rfl), (Nat.le_of_ble_eq_true rfl)⟩) rfl hl.1 rfl (Nat.le_of_ble_eq_true rfl) dX6_darkInUpperRows_16 ⟨Nat.zero_le _, Nat.zero_le _⟩ (fun H locs hP hS => ?_)
    exact W.iret (v := (f_J6_bitCount_0f7a4 V (p1 &&& 511))) hx hb hr (fun t ht hW => ⟨⟨(f_J6_bitCount_0f7a4 V (p1 &&& 511)), (), rfl, hE.symm, trivial⟩, hS.F ht⟩) hS.2.2 dX6_darkInUpperRows_19
end
section
/-! pure facts: rows of numbers, filled and copied -/
def stR (V : VT) (q : Nat) (g : Nat → Int32) : VT := fun a => if a = q then g else V a
theorem stR_at (V : VT) (q : Nat) (g : Nat → Int32) : stR V q g q = g := by simp [stR]
theorem stR_ne (V : VT) {q a : Nat} (g : Nat → Int32) (h : a ≠ q) : stR V q g a = V a := by simp [stR, h]
theorem stR_self (V : VT) (q : Nat) : stR V q (V q) = V := by
  funext a
  by_cases h : a = q
  · subst h; simp [stR]
  · simp [stR, h]
theorem stR_st (V : VT) (q : Nat) (g g' : Nat → Int32) : stR (stR V q g) q g' = stR V q g' := by
  funext a
  by_cases h : a = q <;> simp [stR, h]
theorem upV_st (V : VT) (q i : Nat) (x : Int32) : upV V q i x = stR V q (upd (V q) i x) := by
  funext a
  by_cases h : a = q
  · subst h; simp [upV, stR]
  · simp [upV, stR, h]
theorem upV_at (V : VT) (q i : Nat) (x : Int32) : upV V q i x q = upd (V q) i x := by simp [upV]
theorem upV_ne (V : VT) {q a : Nat} (i : Nat) (x : Int32) (h : a ≠ q) : upV V q i x a = V a := by simp [upV, h]
theorem upV_eq (V : VT) (q i a j : Nat) (x : Int32) : upV V q i x a j = if a = q ∧ j = i then x else V a j := by
  by_cases h : a = q
  · subst h
    by_cases hj : j = i <;> simp [upV, upd, hj]
  · simp [upV, h]
theorem pf_fill_l (fu q n : Nat) (x : Int32) (hn : n < 2 ^ 31) : ∀ (w : Nat) (V : VT) (k : Nat), k ≤ n → n - k < w → p_X4_fill_l1 fu q n x w V (nI k) ∧ f_X4_fill_l1 fu q n x w V (nI k) = stR V q (fun i => if k ≤ i ∧ i < n then x else V q i) := by
  intro w
  induction w with
  | zero => intro V k hk h; omega
  | succ w ih =>
    intro V k hk h
    rw [f_X4_fill_l1, p_X4_fill_l1]
    rcases Nat.lt_or_ge k n with hlt | hge
    · have hc : ¬ nI n ≤ nI k := nI_ge hlt hn
      rw [if_neg hc, nI_clamp (by omega), nI_1]
      obtain ⟨h1, h2⟩ := ih (upV V q k x) (k + 1) (by omega) (by omega)
      refine ⟨⟨fun _ => trivial, fun _ => ⟨vp_in_nI hlt hn, h1⟩⟩, ?_⟩
      rw [h2, upV_st, stR_st, stR_at]
      congr 1
      funext i
      by_cases hi : i = k
      · subst hi
        rw [if_neg (by omega), if_pos (by omega), pk_us]
      · by_cases h3 : k + 1 ≤ i ∧ i < n
        · rw [if_pos h3, if_pos (by omega)]
        · rw [if_neg h3, if_neg (by omega), pk_un hi]
    · have he : k = n := by omega
      subst he
      have hc : nI k ≤ nI k := nI_le (Nat.le_refl _) hn
      rw [if_pos hc]
      refine ⟨⟨fun _ => trivial, fun h => absurd hc h⟩, ?_⟩
      have e : (fun i => if k ≤ i ∧ i < k then x else V q i) = V q := by
        funext i
        rw [if_neg (by omega)]
      rw [e, stR_self]
theorem pf_fill_p (fu : Nat) (V : VT) (q n : Nat) (x : Int32) (hn : n < 2 ^ 31) (hf : n < fu) : p_X4_fill fu V q n x := (pf_fill_l fu q n x hn fu V 0 (by omega) (by omega)).1
theorem pf_fill (fu : Nat) (V : VT) (q n : Nat) (x : Int32) (hn : n < 2 ^ 31) (hf : n < fu) : f_X4_fill fu V q n x = stR V q (fun i => if i < n then x else V q i) := by
  have h := (pf_fill_l fu q n x hn fu V 0 (by omega) (by omega)).2
  simp only [Nat.zero_le, true_and] at h
  exact h
theorem pf_fill_in (fu : Nat) (V : VT) (q n : Nat) (x : Int32) (hn : n < 2 ^ 31) (hf : n < fu) {i : Nat} (hi : i < n) : f_X4_fill fu V q n x q i = x := by
  rw [pf_fill fu V q n x hn hf, stR_at, if_pos hi]
theorem pf_copy_l (fu q1 q2 n : Nat) (hq : q1 ≠ q2) (hn : n < 2 ^ 31) : ∀ (w : Nat) (V : VT) (k : Nat), k ≤ n → n - k < w → p_X4_copy_l1 fu q1 n q2 n w V (nI k) ∧ f_X4_copy_l1 fu q1 n q2 n w V (nI k) = stR V q2 (fun i => if k ≤ i ∧ i < n then V q1 i else V q2 i) := by
  intro w
  induction w with
  | zero => intro V k hk h; omega
  | succ w ih =>
    intro V k hk h
    rw [f_X4_copy_l1, p_X4_copy_l1]
    rcases Nat.lt_or_ge k n with hlt | hge
    · have hc : ¬ nI n ≤ nI k := nI_ge hlt hn
      rw [if_neg hc, if_neg hc, nI_clamp (by omega), nI_1]
      obtain ⟨h1, h2⟩ := ih (upV V q2 k (V q1 k)) (k + 1) (by omega) (by omega)
      refine ⟨⟨fun _ => trivial, fun _ => ⟨fun _ => trivial, fun _ => ⟨vp_in_nI hlt hn, vp_in_nI hlt hn, h1⟩⟩⟩, ?_⟩
      rw [h2, upV_st, stR_st, stR_at, stR_ne _ _ hq]
      congr 1
      funext i
      by_cases hi : i = k
      · subst hi
        rw [if_neg (by omega), if_pos (by omega), pk_us]
      · by_cases h3 : k + 1 ≤ i ∧ i < n
        · rw [if_pos h3, if_pos (by omega)]
        · rw [if_neg h3, if_neg (by omega), pk_un hi]
    · have he : k = n := by omega
      subst he
      have hc : nI k ≤ nI k := nI_le (Nat.le_refl _) hn
      rw [if_pos hc]
      refine ⟨⟨fun _ => trivial, fun h => absurd hc h⟩, ?_⟩
      have e : (fun i => if k ≤ i ∧ i < k then V q1 i else V q2 i) = V q2 := by
        funext i
        rw [if_neg (by omega)]
      rw [e, stR_self]
theorem pf_copy_p (fu : Nat) (V : VT) (q1 q2 n : Nat) (hq : q1 ≠ q2) (hn : n < 2 ^ 31) (hf : n < fu) : p_X4_copy fu V q1 n q2 n := (pf_copy_l fu q1 q2 n hq hn fu V 0 (by omega) (by omega)).1
theorem pf_copy (fu : Nat) (V : VT) (q1 q2 n : Nat) (hq : q1 ≠ q2) (hn : n < 2 ^ 31) (hf : n < fu) : f_X4_copy fu V q1 n q2 n = stR V q2 (fun i => if i < n then V q1 i else V q2 i) := by
  have h := (pf_copy_l fu q1 q2 n hq hn fu V 0 (by omega) (by omega)).2
  simp only [Nat.zero_le, true_and] at h
  exact h
end
section
/-! contracts by program (wip/whole/gen): f_ what a method answers or makes of the table, p_ what it needs, m_ the contract -/
def f_X3_signFor (V : VT) (j : Nat) (p1 : Int32) : Int32 := (if p1 < 0 then (-1) else (if (nI 10) ≤ p1 then (-1) else (V (6 + 8 * j + 2) p1.toNatClampNeg)))
set_option maxHeartbeats 4000000 in
set_option maxRecDepth 100000 in
theorem m_X3_signFor (l : Launch) (D : va_G) (cI cB : ClassId) (ad : Nat → Nat) (V : VT) (j : Nat) (p1 : Int32) (hj : j < 6) : Met l yX3_signFor wsX3_signFor ({ frames := 0, cells := 0, slots := 0, locals := 0 }) (cP D cI cB ad V [.ref (ad (6 + 8 * j + 1)), .int p1]) (cR (f_X3_signFor V j p1)) 0 0 (fun _ => False) := by
  refine Met.ofW (cc := cX3_signFor) (maxL := 2) (ret := (some .int)) (by decide +kernel) rfl ?_
  intro p e s m args below meth c s₁ B hml hv
  obtain ⟨rfl, hP, hKN⟩ := hv
  have hK := hKN.1
  have hx := B.exec
  have hb := B.bytes
  have hr := B.returns
  have hts := atoms_spec (ws := wsX3_signFor) B.pre
  have hown : s.vm.findClass RX3 = some m.cls := findClass_of_methodNamed B.named
  have hlocks := B.notSynchronized
  have hS : va_S (fun _ => False) s.heap s.heap [] := va_S.rf
  have hl := lv_entry ([.ref (ad (6 + 8 * j + 1)), .int p1]) (n := 2) (Nat.le_of_ble_eq_true rfl)
  rw [lg_entry_eq]
  generalize (lg_sl ([.ref (ad (6 + 8 * j + 1)), .int p1]) ++ List.replicate (2 - (lg_sl ([.ref (ad (6 + 8 * j + 1)), .int p1])).length) Slot.unset).toArray = ls at hl ⊢
  have hl : lv_has ls 2 [(0, .ref (ad (6 + 8 * j + 1))), (1, .int p1)] := hl
  have hE : f_X3_signFor V j p1 = (if p1 < 0 then (-1) else (if (nI 10) ≤ p1 then (-1) else (V (6 + 8 * j + 2) p1.toNatClampNeg))) := rfl
  refine lv_iload_n hx hb dX3_signFor_0 rfl (lv_at hl 1 rfl) ?_
  refine lv_if_lt (tgt := 22) hx hb dX3_signFor_1 (by decide) (fun c1 => ?_) (fun c1 => ?_)
  · have hE := hE.trans (if_pos c1)
    refine lv_iconst (v := (-1)) hx hb dX3_signFor_22 (by decide) ?_
    exact W.iret (v := (-1)) hx hb hr (fun t ht hW => ⟨⟨(-1), (), rfl, hE.symm, trivial⟩, hS.F ht⟩) hS.2.2 dX3_signFor_23
  · have hE := hE.trans (if_neg c1)
    refine lv_iload_n hx hb dX3_signFor_4 rfl (lv_at hl 1 rfl) ?_
    refine lv_aload_n hx hb dX3_signFor_5 rfl (lv_at hl 0 rfl) ?_
    refine x_get (ci := 3) (fs := [.ref (ad (6 + 8 * j + 2))]) (q := (6 + 8 * j + 1)) (v := .ref (ad (6 + 8 * j + 2))) (N := 1) hx hb hts (fun _ h => List.mem_cons_of_mem _ (List.mem_append_right _ h)) hown hK hP (by have := hj; omega) (ce_lt ad cI cB hj (V (6 + 8 * j + 1))) rfl 0 (by decide) (hts (.fieldLink RX3 9 "TurnedBoards$Letters" "drawn" "[I") (List.mem_of_getElem? (i := 1) rfl)) rfl rfl dX3_signFor_6 ?_
    refine x_alen hx hb hK hP (rw_bd ad cI cB (j := j) (r := 2) hj (by decide) (fun _ => rfl)) dX3_signFor_9 ?_
    refine lv_icmp_ge (tgt := 22) hx hb dX3_signFor_10 (by decide) (fun c2 => ?_) (fun c2 => ?_)
    · have hE := hE.trans (if_pos c2)
      refine lv_iconst (v := (-1)) hx hb dX3_signFor_22 (by decide) ?_
      exact W.iret (v := (-1)) hx hb hr (fun t ht hW => ⟨⟨(-1), (), rfl, hE.symm, trivial⟩, hS.F ht⟩) hS.2.2 dX3_signFor_23
    · have hE := hE.trans (if_neg c2)
      refine lv_aload_n hx hb dX3_signFor_13 rfl (lv_at hl 0 rfl) ?_
      refine x_get (ci := 3) (fs := [.ref (ad (6 + 8 * j + 2))]) (q := (6 + 8 * j + 1)) (v := .ref (ad (6 + 8 * j + 2))) (N := 1) hx hb hts (fun _ h => List.mem_cons_of_mem _ (List.mem_append_right _ h)) hown hK hP (by have := hj; omega) (ce_lt ad cI cB hj (V (6 + 8 * j + 1))) rfl 0 (by decide) (hts (.fieldLink RX3 9 "TurnedBoards$Letters" "drawn" "[I") (List.mem_of_getElem? (i := 1) rfl)) rfl rfl dX3_signFor_14 ?_
      refine lv_iload_n hx hb dX3_signFor_17 rfl (lv_at hl 1 rfl) ?_
      refine x_iald hx hb hK hP (rw_bd ad cI cB (j := j) (r := 2) hj (by decide) (fun _ => rfl)) (vp_of c1 (i32_lt c2) (by decide)) dX3_signFor_18 ?_
      refine lv_goto (tgt := 23) hx hb dX3_signFor_19 (by decide) ?_
      exact W.iret (v := (V (6 + 8 * j + 2) p1.toNatClampNeg)) hx hb hr (fun t ht hW => ⟨⟨(V (6 + 8 * j + 2) p1.toNatClampNeg), (), rfl, hE.symm, trivial⟩, hS.F ht⟩) hS.2.2 dX3_signFor_23
def f_X3_has (V : VT) (j : Nat) (p1 : Int32) : Int32 := (if (f_X3_signFor V j p1) = (-1) then 0 else 1)
set_option maxHeartbeats 4000000 in
set_option maxRecDepth 100000 in
theorem m_X3_has (l : Launch) (D : va_G) (cI cB : ClassId) (ad : Nat → Nat) (V : VT) (j : Nat) (p1 : Int32) (hj : j < 6) : Met l yX3_has wsX3_has ({ frames := 1, cells := 0, slots := 0, locals := 21 }) (cP D cI cB ad V [.ref (ad (6 + 8 * j + 1)), .int p1]) (cR (f_X3_has V j p1)) 0 0 (fun _ => False) := by
  refine Met.ofW (cc := cX3_has) (maxL := 2) (ret := (some .boolean)) (by decide +kernel) rfl ?_
  intro p e s m args below meth c s₁ B hml hv
  obtain ⟨rfl, hP, hKN⟩ := hv
  have hK := hKN.1
  have hx := B.exec
  have hb := B.bytes
  have hr := B.returns
  have hts := atoms_spec (ws := wsX3_has) B.pre
  have hown : s.vm.findClass RX3 = some m.cls := findClass_of_methodNamed B.named
  have hlocks := B.notSynchronized
  have hS : va_S (fun _ => False) s.heap s.heap [] := va_S.rf
  have hl := lv_entry ([.ref (ad (6 + 8 * j + 1)), .int p1]) (n := 2) (Nat.le_of_ble_eq_true rfl)
  rw [lg_entry_eq]
  generalize (lg_sl ([.ref (ad (6 + 8 * j + 1)), .int p1]) ++ List.replicate (2 - (lg_sl ([.ref (ad (6 + 8 * j + 1)), .int p1])).length) Slot.unset).toArray = ls at hl ⊢
  have hl : lv_has ls 2 [(0, .ref (ad (6 + 8 * j + 1))), (1, .int p1)] := hl
  have hE : f_X3_has V j p1 = (if (f_X3_signFor V j p1) = (-1) then 0 else 1) := rfl
  refine lv_aload_n hx hb dX3_has_0 rfl (lv_at hl 0 rfl) ?_
  refine lv_iload_n hx hb dX3_has_1 rfl (lv_at hl 1 rfl) ?_
  refine k_VR (As := [.int p1]) (rest := []) (q := (6 + 8 * j + 1)) ⟨hx, hb, hml, hown, hts⟩ hKN hP hS (m_X3_signFor l D cI cB ad V j p1 hj) (cwV 1 hts gX3_has_X3_signFor rfl rfl rfl (by decide +kernel) ⟨(Nat.le_of_ble_eq_true rfl), (Nat.le_of_ble_eq_true rfl)⟩) (c_preV hP hKN (q := (6 + 8 * j + 1)) (ci := 3) (fs := [.ref (ad (6 + 8 * j + 2))]) (by have := hj; omega) (ce_lt ad cI cB hj (V (6 + 8 * j + 1))) rfl rfl) rfl hl.1 rfl (Nat.le_of_ble_eq_true rfl) dX3_has_2 ⟨Nat.zero_le _, Nat.zero_le _⟩ (fun H locs hP hS => ?_)
  refine lv_iconst (v := (-1)) hx hb dX3_has_5 (by decide) ?_
  refine lv_icmp_eq (tgt := 13) hx hb dX3_has_6 (by decide) (fun c1 => ?_) (fun c1 => ?_)
  · have hE := hE.trans (if_pos c1)
    refine lv_iconst (v := 0) hx hb dX3_has_13 (by decide) ?_
    exact W.zret (v := 0) hx hb hr rfl (fun t ht hW => ⟨⟨0, (), rfl, hE.symm, trivial⟩, hS.F ht⟩) hS.2.2 dX3_has_14
  · have hE := hE.trans (if_neg c1)
    refine lv_iconst (v := 1) hx hb dX3_has_9 (by decide) ?_
    refine lv_goto (tgt := 14) hx hb dX3_has_10 (by decide) ?_
    exact W.zret (v := 1) hx hb hr rfl (fun t ht hW => ⟨⟨1, (), rfl, hE.symm, trivial⟩, hS.F ht⟩) hS.2.2 dX3_has_14
def f_X3_draw (V : VT) (j : Nat) (p1 : Int32) (p2 : Int32) : VT := (f_X4_put V (6 + 8 * j + 2) 10 p1 p2)
set_option maxHeartbeats 4000000 in
set_option maxRecDepth 100000 in
theorem m_X3_draw (l : Launch) (D : va_G) (cI cB : ClassId) (ad : Nat → Nat) {A : Nat → Prop} (hA : adOk ad A) (V : VT) (j : Nat) (p1 : Int32) (p2 : Int32) (hj : j < 6) : Met l yX3_draw wsX3_draw ({ frames := 1, cells := 0, slots := 0, locals := 22 }) (cP D cI cB ad V [.ref (ad (6 + 8 * j + 1)), .int p1, .int p2]) (cWv D cI cB ad A (f_X3_draw V j p1 p2)) 0 0 A := by
  refine Met.ofW (cc := cX3_draw) (maxL := 3) (ret := none) (by decide +kernel) rfl ?_
  intro p e s m args below meth c s₁ B hml hv
  obtain ⟨rfl, hP, hKN⟩ := hv
  have hK := hKN.1
  have hx := B.exec
  have hb := B.bytes
  have hr := B.returns
  have hts := atoms_spec (ws := wsX3_draw) B.pre
  have hown : s.vm.findClass RX3 = some m.cls := findClass_of_methodNamed B.named
  have hlocks := B.notSynchronized
  have hS : va_S A s.heap s.heap [] := va_S.rf
  have hl := lv_entry ([.ref (ad (6 + 8 * j + 1)), .int p1, .int p2]) (n := 3) (Nat.le_of_ble_eq_true rfl)
  rw [lg_entry_eq]
  generalize (lg_sl ([.ref (ad (6 + 8 * j + 1)), .int p1, .int p2]) ++ List.replicate (3 - (lg_sl ([.ref (ad (6 + 8 * j + 1)), .int p1, .int p2])).length) Slot.unset).toArray = ls at hl ⊢
  have hl : lv_has ls 3 [(0, .ref (ad (6 + 8 * j + 1))), (1, .int p1), (2, .int p2)] := hl
  have hE : f_X3_draw V j p1 p2 = (f_X4_put V (6 + 8 * j + 2) 10 p1 p2) := rfl
  refine lv_aload_n hx hb dX3_draw_0 rfl (lv_at hl 0 rfl) ?_
  refine x_get (ci := 3) (fs := [.ref (ad (6 + 8 * j + 2))]) (q := (6 + 8 * j + 1)) (v := .ref (ad (6 + 8 * j + 2))) (N := 1) hx hb hts (fun _ h => List.mem_cons_of_mem _ (List.mem_append_right _ h)) hown hK hP (by have := hj; omega) (ce_lt ad cI cB hj (V (6 + 8 * j + 1))) rfl 0 (by decide) (hts (.fieldLink RX3 9 "TurnedBoards$Letters" "drawn" "[I") (List.mem_of_getElem? (i := 1) rfl)) rfl rfl dX3_draw_1 ?_
  refine lv_iload_n hx hb dX3_draw_4 rfl (lv_at hl 1 rfl) ?_
  refine lv_iload_n hx hb dX3_draw_5 rfl (lv_at hl 2 rfl) ?_
  refine k_SWv (As := [.ref (ad (6 + 8 * j + 2)), .int p1, .int p2]) (rest := []) ⟨hx, hb, hml, hown, hts⟩ hKN hP hS (m_X4_put l D cI cB 60 (cellOf ad cI cB) ad hA V (6 + 8 * j + 2) 10 p1 p2 (rw_bd ad cI cB (j := j) (r := 2) hj (by decide) (fun _ => rfl))) (va_cwS 3 hts gX3_draw_X4_put rfl rfl rfl (by decide +kernel) ⟨(Nat.le_of_ble_eq_true rfl), (Nat.le_of_ble_eq_true rfl)⟩) rfl hl.1 rfl (Nat.le_of_ble_eq_true rfl) dX3_draw_6 ⟨Nat.zero_le _, Nat.zero_le _⟩ (fun H locs hP hS => ?_)
  exact W.vret hx hb hr (fun t ht hW => ⟨⟨(f_X4_put V (6 + 8 * j + 2) 10 p1 p2), rfl, hE.symm, by dsimp only; rw [ht]; exact hP⟩, hS.F ht⟩) hS.2.2 dX3_draw_9
def f_X3_drawnAs_l1 (fu : Nat) (V : VT) (j : Nat) (p1 : Int32) : Nat → Int32 → Int32
  | 0, x2_1 => 0
  | w1 + 1, x2_1 => (if (nI 10) ≤ x2_1 then (-1) else (if (V (6 + 8 * j + 2) x2_1.toNatClampNeg) = p1 then x2_1 else (f_X3_drawnAs_l1 fu V j p1 w1 (x2_1 + 1))))
def p_X3_drawnAs_l1 (fu : Nat) (V : VT) (j : Nat) (p1 : Int32) : Nat → Int32 → Prop
  | 0, _ => False
  | w1 + 1, x2_1 => (((nI 10) ≤ x2_1 → True) ∧ (¬ ((nI 10) ≤ x2_1) → ((vp_in x2_1 10) ∧ (((V (6 + 8 * j + 2) x2_1.toNatClampNeg) = p1 → True) ∧ (¬ ((V (6 + 8 * j + 2) x2_1.toNatClampNeg) = p1) → (p_X3_drawnAs_l1 fu V j p1 w1 (x2_1 + 1)))))))
def f_X3_drawnAs (fu : Nat) (V : VT) (j : Nat) (p1 : Int32) : Int32 := (f_X3_drawnAs_l1 fu V j p1 fu 0)
def p_X3_drawnAs (fu : Nat) (V : VT) (j : Nat) (p1 : Int32) : Prop := (p_X3_drawnAs_l1 fu V j p1 fu 0)
set_option maxHeartbeats 4000000 in
set_option maxRecDepth 100000 in
theorem m_X3_drawnAs (l : Launch) (D : va_G) (cI cB : ClassId) (ad : Nat → Nat) (fu : Nat) (V : VT) (j : Nat) (p1 : Int32) (hj : j < 6) (hp : p_X3_drawnAs fu V j p1) : Met l yX3_drawnAs wsX3_drawnAs ({ frames := 0, cells := 0, slots := 0, locals := 0 }) (cP D cI cB ad V [.ref (ad (6 + 8 * j + 1)), .int p1]) (cR (f_X3_drawnAs fu V j p1)) 0 0 (fun _ => False) := by
  refine Met.ofW (cc := cX3_drawnAs) (maxL := 3) (ret := (some .int)) (by decide +kernel) rfl ?_
  intro p e s m args below meth c s₁ B hml hv
  obtain ⟨rfl, hP, hKN⟩ := hv
  have hK := hKN.1
  have hx := B.exec
  have hb := B.bytes
  have hr := B.returns
  have hts := atoms_spec (ws := wsX3_drawnAs) B.pre
  have hown : s.vm.findClass RX3 = some m.cls := findClass_of_methodNamed B.named
  have hlocks := B.notSynchronized
  have hS : va_S (fun _ => False) s.heap s.heap [] := va_S.rf
  have hl := lv_entry ([.ref (ad (6 + 8 * j + 1)), .int p1]) (n := 3) (Nat.le_of_ble_eq_true rfl)
  rw [lg_entry_eq]
  generalize (lg_sl ([.ref (ad (6 + 8 * j + 1)), .int p1]) ++ List.replicate (3 - (lg_sl ([.ref (ad (6 + 8 * j + 1)), .int p1])).length) Slot.unset).toArray = ls at hl ⊢
  have hl : lv_has ls 3 [(0, .ref (ad (6 + 8 * j + 1))), (1, .int p1)] := hl
  have hE : f_X3_drawnAs fu V j p1 = (f_X3_drawnAs_l1 fu V j p1 fu 0) := rfl
  refine lv_iconst (v := 0) hx hb dX3_drawnAs_0 (by decide) ?_
  refine lv_istore_n (lv' := [(2, .int 0), (0, .ref (ad (6 + 8 * j + 1))), (1, .int p1)]) hx hb dX3_drawnAs_1 rfl hl (by decide) rfl (fun ls hl => ?_)
  have L1 : ∀ (w1 : Nat) (x2_1 : Int32), f_X3_drawnAs fu V j p1 = f_X3_drawnAs_l1 fu V j p1 w1 x2_1 → p_X3_drawnAs_l1 fu V j p1 w1 x2_1 → ∀ (H : Heap) (locs : List Loc), wP D cI cB ad V H → va_S (fun _ => False) s.heap H locs → ∀ (ls : Array Slot), lv_has ls 3 [(0, .ref (ad (6 + 8 * j + 1))), (1, .int p1), (2, .int x2_1)] → W p l e (headSpec wsX3_drawnAs ({ frames := 0, cells := 0, slots := 0, locals := 0 })).room s m ([.ref (ad (6 + 8 * j + 1)), .int p1] : List Value).toArray below meth c H locs 0 0 (MQ below (cR (f_X3_drawnAs fu V j p1)) ([.ref (ad (6 + 8 * j + 1)), .int p1] : List Value).toArray s 0 0 (fun _ => False)) (F0 m 2 ls []) := by
    intro w1
    induction w1 with
    | zero => intro x2_1 hE hp; exact hp.elim
    | succ w1 ih1 =>
      intro x2_1 hE hp H locs hP hS ls hl
      rw [f_X3_drawnAs_l1] at hE
      rw [p_X3_drawnAs_l1] at hp
      refine lv_iload_n hx hb dX3_drawnAs_2 rfl (lv_at hl 2 rfl) ?_
      refine lv_aload_n hx hb dX3_drawnAs_3 rfl (lv_at hl 0 rfl) ?_
      refine x_get (ci := 3) (fs := [.ref (ad (6 + 8 * j + 2))]) (q := (6 + 8 * j + 1)) (v := .ref (ad (6 + 8 * j + 2))) (N := 1) hx hb hts (fun _ h => List.mem_cons_of_mem _ (List.mem_append_right _ h)) hown hK hP (by have := hj; omega) (ce_lt ad cI cB hj (V (6 + 8 * j + 1))) rfl 0 (by decide) (hts (.fieldLink RX3 9 "TurnedBoards$Letters" "drawn" "[I") (List.mem_of_getElem? (i := 1) rfl)) rfl rfl dX3_drawnAs_4 ?_
      refine x_alen hx hb hK hP (rw_bd ad cI cB (j := j) (r := 2) hj (by decide) (fun _ => rfl)) dX3_drawnAs_7 ?_
      refine lv_icmp_ge (tgt := 29) hx hb dX3_drawnAs_8 (by decide) (fun c1 => ?_) (fun c1 => ?_)
      · have hE := hE.trans (if_pos c1)
        refine lv_iconst (v := (-1)) hx hb dX3_drawnAs_29 (by decide) ?_
        exact W.iret (v := (-1)) hx hb hr (fun t ht hW => ⟨⟨(-1), (), rfl, hE.symm, trivial⟩, hS.F ht⟩) hS.2.2 dX3_drawnAs_30
      · have hE := hE.trans (if_neg c1)
        have hp := pc_bn hp c1
        refine lv_aload_n hx hb dX3_drawnAs_11 rfl (lv_at hl 0 rfl) ?_
        refine x_get (ci := 3) (fs := [.ref (ad (6 + 8 * j + 2))]) (q := (6 + 8 * j + 1)) (v := .ref (ad (6 + 8 * j + 2))) (N := 1) hx hb hts (fun _ h => List.mem_cons_of_mem _ (List.mem_append_right _ h)) hown hK hP (by have := hj; omega) (ce_lt ad cI cB hj (V (6 + 8 * j + 1))) rfl 0 (by decide) (hts (.fieldLink RX3 9 "TurnedBoards$Letters" "drawn" "[I") (List.mem_of_getElem? (i := 1) rfl)) rfl rfl dX3_drawnAs_12 ?_
        refine lv_iload_n hx hb dX3_drawnAs_15 rfl (lv_at hl 2 rfl) ?_
        obtain ⟨hn1, hp⟩ := hp
        refine x_iald hx hb hK hP (rw_bd ad cI cB (j := j) (r := 2) hj (by decide) (fun _ => rfl)) hn1 dX3_drawnAs_16 ?_
        refine lv_iload_n hx hb dX3_drawnAs_17 rfl (lv_at hl 1 rfl) ?_
        refine lv_icmp_ne (tgt := 23) hx hb dX3_drawnAs_18 (by decide) (fun c2 => ?_) (fun c2 => ?_)
        · have hE := hE.trans (if_neg c2)
          have hp := pc_bn hp c2
          refine lv_iinc (v := (x2_1 + 1)) (lv' := [(2, .int (x2_1 + 1)), (0, .ref (ad (6 + 8 * j + 1))), (1, .int p1)]) hx hb dX3_drawnAs_23 hl (k := 2) rfl (by rfl) (by decide) rfl (fun ls hl => ?_)
          refine lv_goto (tgt := 2) hx hb dX3_drawnAs_26 (by decide) ?_
          exact ih1 (x2_1 + 1) hE hp H locs hP hS ls (lv_sub hl [1, 2, 0] rfl)
        · have hE := hE.trans (if_pos c2)
          refine lv_iload_n hx hb dX3_drawnAs_21 rfl (lv_at hl 2 rfl) ?_
          exact W.iret (v := x2_1) hx hb hr (fun t ht hW => ⟨⟨x2_1, (), rfl, hE.symm, trivial⟩, hS.F ht⟩) hS.2.2 dX3_drawnAs_22
  exact L1 fu 0 hE hp _ _ hP hS _ (lv_sub hl [1, 2, 0] rfl)
def f_X3_asSet_l1 (fu : Nat) (V : VT) (j : Nat) : Nat → Int32 → Int32 → Int32
  | 0, x1_1, x2_1 => 0
  | w1 + 1, x1_1, x2_1 => (if (nI 10) ≤ x2_1 then x1_1 else (if (V (6 + 8 * j + 2) x2_1.toNatClampNeg) = (-1) then (f_X3_asSet_l1 fu V j w1 x1_1 (x2_1 + 1)) else (f_X3_asSet_l1 fu V j w1 (x1_1 ||| (1 <<< (x2_1 &&& 31))) (x2_1 + 1))))
def p_X3_asSet_l1 (fu : Nat) (V : VT) (j : Nat) : Nat → Int32 → Int32 → Prop
  | 0, _, _ => False
  | w1 + 1, x1_1, x2_1 => (((nI 10) ≤ x2_1 → True) ∧ (¬ ((nI 10) ≤ x2_1) → ((vp_in x2_1 10) ∧ (((V (6 + 8 * j + 2) x2_1.toNatClampNeg) = (-1) → (p_X3_asSet_l1 fu V j w1 x1_1 (x2_1 + 1))) ∧ (¬ ((V (6 + 8 * j + 2) x2_1.toNatClampNeg) = (-1)) → (p_X3_asSet_l1 fu V j w1 (x1_1 ||| (1 <<< (x2_1 &&& 31))) (x2_1 + 1)))))))
def f_X3_asSet (fu : Nat) (V : VT) (j : Nat) : Int32 := (f_X3_asSet_l1 fu V j fu 0 0)
def p_X3_asSet (fu : Nat) (V : VT) (j : Nat) : Prop := (p_X3_asSet_l1 fu V j fu 0 0)
set_option maxHeartbeats 4000000 in
set_option maxRecDepth 100000 in
theorem m_X3_asSet (l : Launch) (D : va_G) (cI cB : ClassId) (ad : Nat → Nat) (fu : Nat) (V : VT) (j : Nat) (hj : j < 6) (hp : p_X3_asSet fu V j) : Met l yX3_asSet wsX3_asSet ({ frames := 0, cells := 0, slots := 0, locals := 0 }) (cP D cI cB ad V [.ref (ad (6 + 8 * j + 1))]) (cR (f_X3_asSet fu V j)) 0 0 (fun _ => False) := by
  refine Met.ofW (cc := cX3_asSet) (maxL := 3) (ret := (some .int)) (by decide +kernel) rfl ?_
  intro p e s m args below meth c s₁ B hml hv
  obtain ⟨rfl, hP, hKN⟩ := hv
  have hK := hKN.1
  have hx := B.exec
  have hb := B.bytes
  have hr := B.returns
  have hts := atoms_spec (ws := wsX3_asSet) B.pre
  have hown : s.vm.findClass RX3 = some m.cls := findClass_of_methodNamed B.named
  have hlocks := B.notSynchronized
  have hS : va_S (fun _ => False) s.heap s.heap [] := va_S.rf
  have hl := lv_entry ([.ref (ad (6 + 8 * j + 1))]) (n := 3) (Nat.le_of_ble_eq_true rfl)
  rw [lg_entry_eq]
  generalize (lg_sl ([.ref (ad (6 + 8 * j + 1))]) ++ List.replicate (3 - (lg_sl ([.ref (ad (6 + 8 * j + 1))])).length) Slot.unset).toArray = ls at hl ⊢
  have hl : lv_has ls 3 [(0, .ref (ad (6 + 8 * j + 1)))] := hl
  have hE : f_X3_asSet fu V j = (f_X3_asSet_l1 fu V j fu 0 0) := rfl
  refine lv_iconst (v := 0) hx hb dX3_asSet_0 (by decide) ?_
  refine lv_istore_n (lv' := [(1, .int 0), (0, .ref (ad (6 + 8 * j + 1)))]) hx hb dX3_asSet_1 rfl hl (by decide) rfl (fun ls hl => ?_)
  refine lv_iconst (v := 0) hx hb dX3_asSet_2 (by decide) ?_
  refine lv_istore_n (lv' := [(2, .int 0), (1, .int 0), (0, .ref (ad (6 + 8 * j + 1)))]) hx hb dX3_asSet_3 rfl hl (by decide) rfl (fun ls hl => ?_)
  have L1 : ∀ (w1 : Nat) (x1_1 : Int32) (x2_1 : Int32), f_X3_asSet fu V j = f_X3_asSet_l1 fu V j w1 x1_1 x2_1 → p_X3_asSet_l1 fu V j w1 x1_1 x2_1 → ∀ (H : Heap) (locs : List Loc), wP D cI cB ad V H → va_S (fun _ => False) s.heap H locs → ∀ (ls : Array Slot), lv_has ls 3 [(0, .ref (ad (6 + 8 * j + 1))), (1, .int x1_1), (2, .int x2_1)] → W p l e (headSpec wsX3_asSet ({ frames := 0, cells := 0, slots := 0, locals := 0 })).room s m ([.ref (ad (6 + 8 * j + 1))] : List Value).toArray below meth c H locs 0 0 (MQ below (cR (f_X3_asSet fu V j)) ([.ref (ad (6 + 8 * j + 1))] : List Value).toArray s 0 0 (fun _ => False)) (F0 m 4 ls []) := by
    intro w1
    induction w1 with
    | zero => intro x1_1 x2_1 hE hp; exact hp.elim
    | succ w1 ih1 =>
      intro x1_1 x2_1 hE hp H locs hP hS ls hl
      rw [f_X3_asSet_l1] at hE
      rw [p_X3_asSet_l1] at hp
      refine lv_iload_n hx hb dX3_asSet_4 rfl (lv_at hl 2 rfl) ?_
      refine lv_aload_n hx hb dX3_asSet_5 rfl (lv_at hl 0 rfl) ?_
      refine x_get (ci := 3) (fs := [.ref (ad (6 + 8 * j + 2))]) (q := (6 + 8 * j + 1)) (v := .ref (ad (6 + 8 * j + 2))) (N := 1) hx hb hts (fun _ h => List.mem_cons_of_mem _ (List.mem_append_right _ h)) hown hK hP (by have := hj; omega) (ce_lt ad cI cB hj (V (6 + 8 * j + 1))) rfl 0 (by decide) (hts (.fieldLink RX3 9 "TurnedBoards$Letters" "drawn" "[I") (List.mem_of_getElem? (i := 1) rfl)) rfl rfl dX3_asSet_6 ?_
      refine x_alen hx hb hK hP (rw_bd ad cI cB (j := j) (r := 2) hj (by decide) (fun _ => rfl)) dX3_asSet_9 ?_
      refine lv_icmp_ge (tgt := 35) hx hb dX3_asSet_10 (by decide) (fun c1 => ?_) (fun c1 => ?_)
      · have hE := hE.trans (if_pos c1)
        refine lv_iload_n hx hb dX3_asSet_35 rfl (lv_at hl 1 rfl) ?_
        exact W.iret (v := x1_1) hx hb hr (fun t ht hW => ⟨⟨x1_1, (), rfl, hE.symm, trivial⟩, hS.F ht⟩) hS.2.2 dX3_asSet_36
      · have hE := hE.trans (if_neg c1)
        have hp := pc_bn hp c1
        refine lv_aload_n hx hb dX3_asSet_13 rfl (lv_at hl 0 rfl) ?_
        refine x_get (ci := 3) (fs := [.ref (ad (6 + 8 * j + 2))]) (q := (6 + 8 * j + 1)) (v := .ref (ad (6 + 8 * j + 2))) (N := 1) hx hb hts (fun _ h => List.mem_cons_of_mem _ (List.mem_append_right _ h)) hown hK hP (by have := hj; omega) (ce_lt ad cI cB hj (V (6 + 8 * j + 1))) rfl 0 (by decide) (hts (.fieldLink RX3 9 "TurnedBoards$Letters" "drawn" "[I") (List.mem_of_getElem? (i := 1) rfl)) rfl rfl dX3_asSet_14 ?_
        refine lv_iload_n hx hb dX3_asSet_17 rfl (lv_at hl 2 rfl) ?_
        obtain ⟨hn1, hp⟩ := hp
        refine x_iald hx hb hK hP (rw_bd ad cI cB (j := j) (r := 2) hj (by decide) (fun _ => rfl)) hn1 dX3_asSet_18 ?_
        refine lv_iconst (v := (-1)) hx hb dX3_asSet_19 (by decide) ?_
        refine lv_icmp_eq (tgt := 29) hx hb dX3_asSet_20 (by decide) (fun c2 => ?_) (fun c2 => ?_)
        · have hE := hE.trans (if_pos c2)
          have hp := pc_br hp c2
          refine lv_iinc (v := (x2_1 + 1)) (lv' := [(2, .int (x2_1 + 1)), (0, .ref (ad (6 + 8 * j + 1))), (1, .int x1_1)]) hx hb dX3_asSet_29 hl (k := 2) rfl (by rfl) (by decide) rfl (fun ls hl => ?_)
          refine lv_goto (tgt := 4) hx hb dX3_asSet_32 (by decide) ?_
          exact ih1 x1_1 (x2_1 + 1) hE hp H locs hP hS ls (lv_sub hl [1, 2, 0] rfl)
        · have hE := hE.trans (if_neg c2)
          have hp := pc_bn hp c2
          refine lv_iload_n hx hb dX3_asSet_23 rfl (lv_at hl 1 rfl) ?_
          refine lv_iconst (v := 1) hx hb dX3_asSet_24 (by decide) ?_
          refine lv_iload_n hx hb dX3_asSet_25 rfl (lv_at hl 2 rfl) ?_
          refine lv_ishl hx hb dX3_asSet_26 ?_
          refine lv_ior hx hb dX3_asSet_27 ?_
          refine lv_istore_n (lv' := [(1, .int (x1_1 ||| (1 <<< (x2_1 &&& 31)))), (0, .ref (ad (6 + 8 * j + 1))), (2, .int x2_1)]) hx hb dX3_asSet_28 rfl hl (by decide) rfl (fun ls hl => ?_)
          refine lv_iinc (v := (x2_1 + 1)) (lv' := [(2, .int (x2_1 + 1)), (1, .int (x1_1 ||| (1 <<< (x2_1 &&& 31)))), (0, .ref (ad (6 + 8 * j + 1)))]) hx hb dX3_asSet_29 hl (k := 2) rfl (by rfl) (by decide) rfl (fun ls hl => ?_)
          refine lv_goto (tgt := 4) hx hb dX3_asSet_32 (by decide) ?_
          exact ih1 (x1_1 ||| (1 <<< (x2_1 &&& 31))) (x2_1 + 1) hE hp H locs hP hS ls (lv_sub hl [2, 1, 0] rfl)
  exact L1 fu 0 0 hE hp _ _ hP hS _ (lv_sub hl [2, 1, 0] rfl)
def f_X3_nearest_l1 (fu : Nat) (V : VT) (j : Nat) (p1 : Int32) (p2 : Int32) : Nat → Int32 → Int32 → Int32 → Int32
  | 0, x3_1, x4_1, x5_1 => 0
  | w1 + 1, x3_1, x4_1, x5_1 => (if (nI 10) ≤ x5_1 then x3_1 else (if x5_1 = p2 then (f_X3_nearest_l1 fu V j p1 p2 w1 x3_1 x4_1 (x5_1 + 1)) else (if (V (6 + 8 * j + 2) x5_1.toNatClampNeg) = (-1) then (f_X3_nearest_l1 fu V j p1 p2 w1 x3_1 x4_1 (x5_1 + 1)) else (if x4_1 ≤ (f_J6_bitCount_0f7a4 V (p1 ^^^ (V (6 + 8 * j + 2) x5_1.toNatClampNeg))) then (f_X3_nearest_l1 fu V j p1 p2 w1 x3_1 x4_1 (x5_1 + 1)) else (f_X3_nearest_l1 fu V j p1 p2 w1 x5_1 (f_J6_bitCount_0f7a4 V (p1 ^^^ (V (6 + 8 * j + 2) x5_1.toNatClampNeg))) (x5_1 + 1))))))
def p_X3_nearest_l1 (fu : Nat) (V : VT) (j : Nat) (p1 : Int32) (p2 : Int32) : Nat → Int32 → Int32 → Int32 → Prop
  | 0, _, _, _ => False
  | w1 + 1, x3_1, x4_1, x5_1 => (((nI 10) ≤ x5_1 → True) ∧ (¬ ((nI 10) ≤ x5_1) → ((vp_in x5_1 10) ∧ ((x5_1 = p2 → (p_X3_nearest_l1 fu V j p1 p2 w1 x3_1 x4_1 (x5_1 + 1))) ∧ (¬ (x5_1 = p2) → ((vp_in x5_1 10) ∧ (((V (6 + 8 * j + 2) x5_1.toNatClampNeg) = (-1) → (p_X3_nearest_l1 fu V j p1 p2 w1 x3_1 x4_1 (x5_1 + 1))) ∧ (¬ ((V (6 + 8 * j + 2) x5_1.toNatClampNeg) = (-1)) → ((x4_1 ≤ (f_J6_bitCount_0f7a4 V (p1 ^^^ (V (6 + 8 * j + 2) x5_1.toNatClampNeg))) → (p_X3_nearest_l1 fu V j p1 p2 w1 x3_1 x4_1 (x5_1 + 1))) ∧ (¬ (x4_1 ≤ (f_J6_bitCount_0f7a4 V (p1 ^^^ (V (6 + 8 * j + 2) x5_1.toNatClampNeg)))) → (p_X3_nearest_l1 fu V j p1 p2 w1 x5_1 (f_J6_bitCount_0f7a4 V (p1 ^^^ (V (6 + 8 * j + 2) x5_1.toNatClampNeg))) (x5_1 + 1))))))))))))
def f_X3_nearest (fu : Nat) (V : VT) (j : Nat) (p1 : Int32) (p2 : Int32) : Int32 := (f_X3_nearest_l1 fu V j p1 p2 fu (-1) 16 0)
def p_X3_nearest (fu : Nat) (V : VT) (j : Nat) (p1 : Int32) (p2 : Int32) : Prop := (p_X3_nearest_l1 fu V j p1 p2 fu (-1) 16 0)
set_option maxHeartbeats 4000000 in
set_option maxRecDepth 100000 in
theorem m_X3_nearest (l : Launch) (D : va_G) (cI cB : ClassId) (ad : Nat → Nat) (fu : Nat) (V : VT) (j : Nat) (p1 : Int32) (p2 : Int32) (hj : j < 6) (hp : p_X3_nearest fu V j p1 p2) : Met l yX3_nearest wsX3_nearest ({ frames := 1, cells := 0, slots := 0, locals := 20 }) (cP D cI cB ad V [.ref (ad (6 + 8 * j + 1)), .int p1, .int p2]) (cR (f_X3_nearest fu V j p1 p2)) 0 0 (fun _ => False) := by
  refine Met.ofW (cc := cX3_nearest) (maxL := 7) (ret := (some .int)) (by decide +kernel) rfl ?_
  intro p e s m args below meth c s₁ B hml hv
  obtain ⟨rfl, hP, hKN⟩ := hv
  have hK := hKN.1
  have hx := B.exec
  have hb := B.bytes
  have hr := B.returns
  have hts := atoms_spec (ws := wsX3_nearest) B.pre
  have hown : s.vm.findClass RX3 = some m.cls := findClass_of_methodNamed B.named
  have hlocks := B.notSynchronized
  have hS : va_S (fun _ => False) s.heap s.heap [] := va_S.rf
  have hl := lv_entry ([.ref (ad (6 + 8 * j + 1)), .int p1, .int p2]) (n := 7) (Nat.le_of_ble_eq_true rfl)
  rw [lg_entry_eq]
  generalize (lg_sl ([.ref (ad (6 + 8 * j + 1)), .int p1, .int p2]) ++ List.replicate (7 - (lg_sl ([.ref (ad (6 + 8 * j + 1)), .int p1, .int p2])).length) Slot.unset).toArray = ls at hl ⊢
  have hl : lv_has ls 7 [(0, .ref (ad (6 + 8 * j + 1))), (1, .int p1), (2, .int p2)] := hl
  have hE : f_X3_nearest fu V j p1 p2 = (f_X3_nearest_l1 fu V j p1 p2 fu (-1) 16 0) := rfl
  refine lv_iconst (v := (-1)) hx hb dX3_nearest_0 (by decide) ?_
  refine lv_istore_n (lv' := [(3, .int (-1)), (0, .ref (ad (6 + 8 * j + 1))), (1, .int p1), (2, .int p2)]) hx hb dX3_nearest_1 rfl hl (by decide) rfl (fun ls hl => ?_)
  refine lv_bipush (v := 16) hx hb dX3_nearest_2 (by decide) ?_
  refine lv_istore (lv' := [(4, .int 16), (3, .int (-1)), (0, .ref (ad (6 + 8 * j + 1))), (1, .int p1), (2, .int p2)]) hx hb dX3_nearest_4 hl (by decide) rfl (fun ls hl => ?_)
  refine lv_iconst (v := 0) hx hb dX3_nearest_6 (by decide) ?_
  refine lv_istore (lv' := [(5, .int 0), (4, .int 16), (3, .int (-1)), (0, .ref (ad (6 + 8 * j + 1))), (1, .int p1), (2, .int p2)]) hx hb dX3_nearest_7 hl (by decide) rfl (fun ls hl => ?_)
  have L1 : ∀ (w1 : Nat) (x3_1 : Int32) (x4_1 : Int32) (x5_1 : Int32), f_X3_nearest fu V j p1 p2 = f_X3_nearest_l1 fu V j p1 p2 w1 x3_1 x4_1 x5_1 → p_X3_nearest_l1 fu V j p1 p2 w1 x3_1 x4_1 x5_1 → ∀ (H : Heap) (locs : List Loc), wP D cI cB ad V H → va_S (fun _ => False) s.heap H locs → ∀ (ls : Array Slot), lv_has ls 7 [(0, .ref (ad (6 + 8 * j + 1))), (1, .int p1), (2, .int p2), (3, .int x3_1), (4, .int x4_1), (5, .int x5_1)] → W p l e (headSpec wsX3_nearest ({ frames := 1, cells := 0, slots := 0, locals := 20 })).room s m ([.ref (ad (6 + 8 * j + 1)), .int p1, .int p2] : List Value).toArray below meth c H locs 0 0 (MQ below (cR (f_X3_nearest fu V j p1 p2)) ([.ref (ad (6 + 8 * j + 1)), .int p1, .int p2] : List Value).toArray s 0 0 (fun _ => False)) (F0 m 9 ls []) := by
    intro w1
    induction w1 with
    | zero => intro x3_1 x4_1 x5_1 hE hp; exact hp.elim
    | succ w1 ih1 =>
      intro x3_1 x4_1 x5_1 hE hp H locs hP hS ls hl
      rw [f_X3_nearest_l1] at hE
      rw [p_X3_nearest_l1] at hp
      refine lv_iload hx hb dX3_nearest_9 (lv_at hl 5 rfl) ?_
      refine lv_aload_n hx hb dX3_nearest_11 rfl (lv_at hl 0 rfl) ?_
      refine x_get (ci := 3) (fs := [.ref (ad (6 + 8 * j + 2))]) (q := (6 + 8 * j + 1)) (v := .ref (ad (6 + 8 * j + 2))) (N := 1) hx hb hts (fun _ h => List.mem_cons_of_mem _ (List.mem_append_right _ h)) hown hK hP (by have := hj; omega) (ce_lt ad cI cB hj (V (6 + 8 * j + 1))) rfl 0 (by decide) (hts (.fieldLink RX3 9 "TurnedBoards$Letters" "drawn" "[I") (List.mem_of_getElem? (i := 1) rfl)) rfl rfl dX3_nearest_12 ?_
      refine x_alen hx hb hK hP (rw_bd ad cI cB (j := j) (r := 2) hj (by decide) (fun _ => rfl)) dX3_nearest_15 ?_
      refine lv_icmp_ge (tgt := 70) hx hb dX3_nearest_16 (by decide) (fun c1 => ?_) (fun c1 => ?_)
      · have hE := hE.trans (if_pos c1)
        refine lv_iload_n hx hb dX3_nearest_70 rfl (lv_at hl 3 rfl) ?_
        exact W.iret (v := x3_1) hx hb hr (fun t ht hW => ⟨⟨x3_1, (), rfl, hE.symm, trivial⟩, hS.F ht⟩) hS.2.2 dX3_nearest_71
      · have hE := hE.trans (if_neg c1)
        have hp := pc_bn hp c1
        refine lv_iload_n hx hb dX3_nearest_19 rfl (lv_at hl 1 rfl) ?_
        refine lv_aload_n hx hb dX3_nearest_20 rfl (lv_at hl 0 rfl) ?_
        refine x_get (ci := 3) (fs := [.ref (ad (6 + 8 * j + 2))]) (q := (6 + 8 * j + 1)) (v := .ref (ad (6 + 8 * j + 2))) (N := 1) hx hb hts (fun _ h => List.mem_cons_of_mem _ (List.mem_append_right _ h)) hown hK hP (by have := hj; omega) (ce_lt ad cI cB hj (V (6 + 8 * j + 1))) rfl 0 (by decide) (hts (.fieldLink RX3 9 "TurnedBoards$Letters" "drawn" "[I") (List.mem_of_getElem? (i := 1) rfl)) rfl rfl dX3_nearest_21 ?_
        refine lv_iload hx hb dX3_nearest_24 (lv_at hl 5 rfl) ?_
        obtain ⟨hn1, hp⟩ := hp
        refine x_iald hx hb hK hP (rw_bd ad cI cB (j := j) (r := 2) hj (by decide) (fun _ => rfl)) hn1 dX3_nearest_26 ?_
        refine lv_ixor hx hb dX3_nearest_27 ?_
        refine k_SR (As := [.int (p1 ^^^ (V (6 + 8 * j + 2) x5_1.toNatClampNeg))]) (rest := []) ⟨hx, hb, hml, hown, hts⟩ hKN hP hS (m_J6_bitCount_0f7a4 l D cI cB ad V (p1 ^^^ (V (6 + 8 * j + 2) x5_1.toNatClampNeg))) (va_cwS 1 hts gX3_nearest_J6_bitCount_0f7a4 rfl rfl rfl (by decide +kernel) ⟨(Nat.le_of_ble_eq_true rfl), (Nat.le_of_ble_eq_true rfl)⟩) rfl hl.1 rfl (Nat.le_of_ble_eq_true rfl) dX3_nearest_28 ⟨Nat.zero_le _, Nat.zero_le _⟩ (fun H locs hP hS => ?_)
        refine lv_istore (lv' := [(6, .int (f_J6_bitCount_0f7a4 V (p1 ^^^ (V (6 + 8 * j + 2) x5_1.toNatClampNeg)))), (0, .ref (ad (6 + 8 * j + 1))), (1, .int p1), (2, .int p2), (3, .int x3_1), (4, .int x4_1), (5, .int x5_1)]) hx hb dX3_nearest_31 hl (by decide) rfl (fun ls hl => ?_)
        refine lv_iload hx hb dX3_nearest_33 (lv_at hl 6 rfl) ?_
        refine lv_iload_n hx hb dX3_nearest_35 rfl (lv_at hl 3 rfl) ?_
        refine lv_icmp_eq (tgt := 64) hx hb dX3_nearest_36 (by decide) (fun c2 => ?_) (fun c2 => ?_)
        · have hE := hE.trans (if_pos c2)
          have hp := pc_br hp c2
          refine lv_iinc (v := (x5_1 + 1)) (lv' := [(5, .int (x5_1 + 1)), (6, .int (f_J6_bitCount_0f7a4 V (p1 ^^^ (V (6 + 8 * j + 2) x5_1.toNatClampNeg)))), (0, .ref (ad (6 + 8 * j + 1))), (1, .int p1), (2, .int p2), (3, .int x3_1), (4, .int x4_1)]) hx hb dX3_nearest_64 hl (k := 6) rfl (by rfl) (by decide) rfl (fun ls hl => ?_)
          refine lv_goto (tgt := 9) hx hb dX3_nearest_67 (by decide) ?_
          exact ih1 x3_1 x4_1 (x5_1 + 1) hE hp H locs hP hS ls (lv_sub hl [2, 3, 4, 5, 6, 0] rfl)
        · have hE := hE.trans (if_neg c2)
          have hp := pc_bn hp c2
          refine lv_aload_n hx hb dX3_nearest_39 rfl (lv_at hl 1 rfl) ?_
          refine x_get (ci := 3) (fs := [.ref (ad (6 + 8 * j + 2))]) (q := (6 + 8 * j + 1)) (v := .ref (ad (6 + 8 * j + 2))) (N := 1) hx hb hts (fun _ h => List.mem_cons_of_mem _ (List.mem_append_right _ h)) hown hK hP (by have := hj; omega) (ce_lt ad cI cB hj (V (6 + 8 * j + 1))) rfl 0 (by decide) (hts (.fieldLink RX3 9 "TurnedBoards$Letters" "drawn" "[I") (List.mem_of_getElem? (i := 1) rfl)) rfl rfl dX3_nearest_40 ?_
          refine lv_iload hx hb dX3_nearest_43 (lv_at hl 6 rfl) ?_
          obtain ⟨hn2, hp⟩ := hp
          refine x_iald hx hb hK hP (rw_bd ad cI cB (j := j) (r := 2) hj (by decide) (fun _ => rfl)) hn2 dX3_nearest_45 ?_
          refine lv_iconst (v := (-1)) hx hb dX3_nearest_46 (by decide) ?_
          refine lv_icmp_eq (tgt := 64) hx hb dX3_nearest_47 (by decide) (fun c3 => ?_) (fun c3 => ?_)
          · have hE := hE.trans (if_pos c3)
            have hp := pc_br hp c3
            refine lv_iinc (v := (x5_1 + 1)) (lv' := [(5, .int (x5_1 + 1)), (6, .int (f_J6_bitCount_0f7a4 V (p1 ^^^ (V (6 + 8 * j + 2) x5_1.toNatClampNeg)))), (0, .ref (ad (6 + 8 * j + 1))), (1, .int p1), (2, .int p2), (3, .int x3_1), (4, .int x4_1)]) hx hb dX3_nearest_64 hl (k := 6) rfl (by rfl) (by decide) rfl (fun ls hl => ?_)
            refine lv_goto (tgt := 9) hx hb dX3_nearest_67 (by decide) ?_
            exact ih1 x3_1 x4_1 (x5_1 + 1) hE hp H locs hP hS ls (lv_sub hl [2, 3, 4, 5, 6, 0] rfl)
          · have hE := hE.trans (if_neg c3)
            have hp := pc_bn hp c3
            refine lv_iload hx hb dX3_nearest_50 (lv_at hl 0 rfl) ?_
            refine lv_iload hx hb dX3_nearest_52 (lv_at hl 5 rfl) ?_
            refine lv_icmp_ge (tgt := 64) hx hb dX3_nearest_54 (by decide) (fun c4 => ?_) (fun c4 => ?_)
            · have hE := hE.trans (if_pos c4)
              have hp := pc_br hp c4
              refine lv_iinc (v := (x5_1 + 1)) (lv' := [(5, .int (x5_1 + 1)), (6, .int (f_J6_bitCount_0f7a4 V (p1 ^^^ (V (6 + 8 * j + 2) x5_1.toNatClampNeg)))), (0, .ref (ad (6 + 8 * j + 1))), (1, .int p1), (2, .int p2), (3, .int x3_1), (4, .int x4_1)]) hx hb dX3_nearest_64 hl (k := 6) rfl (by rfl) (by decide) rfl (fun ls hl => ?_)
              refine lv_goto (tgt := 9) hx hb dX3_nearest_67 (by decide) ?_
              exact ih1 x3_1 x4_1 (x5_1 + 1) hE hp H locs hP hS ls (lv_sub hl [2, 3, 4, 5, 6, 0] rfl)
            · have hE := hE.trans (if_neg c4)
              have hp := pc_bn hp c4
              refine lv_iload hx hb dX3_nearest_57 (lv_at hl 6 rfl) ?_
              refine lv_istore_n (lv' := [(3, .int x5_1), (6, .int (f_J6_bitCount_0f7a4 V (p1 ^^^ (V (6 + 8 * j + 2) x5_1.toNatClampNeg)))), (0, .ref (ad (6 + 8 * j + 1))), (1, .int p1), (2, .int p2), (4, .int x4_1), (5, .int x5_1)]) hx hb dX3_nearest_59 rfl hl (by decide) rfl (fun ls hl => ?_)
              refine lv_iload hx hb dX3_nearest_60 (lv_at hl 1 rfl) ?_
              refine lv_istore (lv' := [(4, .int (f_J6_bitCount_0f7a4 V (p1 ^^^ (V (6 + 8 * j + 2) x5_1.toNatClampNeg)))), (3, .int x5_1), (6, .int (f_J6_bitCount_0f7a4 V (p1 ^^^ (V (6 + 8 * j + 2) x5_1.toNatClampNeg)))), (0, .ref (ad (6 + 8 * j + 1))), (1, .int p1), (2, .int p2), (5, .int x5_1)]) hx hb dX3_nearest_62 hl (by decide) rfl (fun ls hl => ?_)
              refine lv_iinc (v := (x5_1 + 1)) (lv' := [(5, .int (x5_1 + 1)), (4, .int (f_J6_bitCount_0f7a4 V (p1 ^^^ (V (6 + 8 * j + 2) x5_1.toNatClampNeg)))), (3, .int x5_1), (6, .int (f_J6_bitCount_0f7a4 V (p1 ^^^ (V (6 + 8 * j + 2) x5_1.toNatClampNeg)))), (0, .ref (ad (6 + 8 * j + 1))), (1, .int p1), (2, .int p2)]) hx hb dX3_nearest_64 hl (k := 6) rfl (by rfl) (by decide) rfl (fun ls hl => ?_)
              refine lv_goto (tgt := 9) hx hb dX3_nearest_67 (by decide) ?_
              exact ih1 x5_1 (f_J6_bitCount_0f7a4 V (p1 ^^^ (V (6 + 8 * j + 2) x5_1.toNatClampNeg))) (x5_1 + 1) hE hp H locs hP hS ls (lv_sub hl [4, 5, 6, 2, 1, 0] rfl)
  exact L1 fu (-1) 16 0 hE hp _ _ hP hS _ (lv_sub hl [3, 4, 5, 2, 1, 0] rfl)
def f_X3_marginOf_l1 (fu : Nat) (V : VT) (j : Nat) (p1 : Int32) (p2 : Int32) : Nat → Int32 → Int32 → Int32
  | 0, x3_1, x4_1 => 0
  | w1 + 1, x3_1, x4_1 => (if (nI 10) ≤ x4_1 then (x3_1 - (f_J6_bitCount_0f7a4 V (p1 ^^^ (f_X3_signFor V j p2)))) else (if x4_1 = p2 then (f_X3_marginOf_l1 fu V j p1 p2 w1 x3_1 (x4_1 + 1)) else (if (V (6 + 8 * j + 2) x4_1.toNatClampNeg) = (-1) then (f_X3_marginOf_l1 fu V j p1 p2 w1 x3_1 (x4_1 + 1)) else (f_X3_marginOf_l1 fu V j p1 p2 w1 (if (f_J6_bitCount_0f7a4 V (p1 ^^^ (V (6 + 8 * j + 2) x4_1.toNatClampNeg))) < x3_1 then (f_J6_bitCount_0f7a4 V (p1 ^^^ (V (6 + 8 * j + 2) x4_1.toNatClampNeg))) else x3_1) (x4_1 + 1)))))
def p_X3_marginOf_l1 (fu : Nat) (V : VT) (j : Nat) (p1 : Int32) (p2 : Int32) : Nat → Int32 → Int32 → Prop
  | 0, _, _ => False
  | w1 + 1, x3_1, x4_1 => (((nI 10) ≤ x4_1 → True) ∧ (¬ ((nI 10) ≤ x4_1) → ((x4_1 = p2 → (p_X3_marginOf_l1 fu V j p1 p2 w1 x3_1 (x4_1 + 1))) ∧ (¬ (x4_1 = p2) → ((vp_in x4_1 10) ∧ (((V (6 + 8 * j + 2) x4_1.toNatClampNeg) = (-1) → (p_X3_marginOf_l1 fu V j p1 p2 w1 x3_1 (x4_1 + 1))) ∧ (¬ ((V (6 + 8 * j + 2) x4_1.toNatClampNeg) = (-1)) → ((vp_in x4_1 10) ∧ (p_X3_marginOf_l1 fu V j p1 p2 w1 (if (f_J6_bitCount_0f7a4 V (p1 ^^^ (V (6 + 8 * j + 2) x4_1.toNatClampNeg))) < x3_1 then (f_J6_bitCount_0f7a4 V (p1 ^^^ (V (6 + 8 * j + 2) x4_1.toNatClampNeg))) else x3_1) (x4_1 + 1))))))))))
def f_X3_marginOf (fu : Nat) (V : VT) (j : Nat) (p1 : Int32) (p2 : Int32) : Int32 := (f_X3_marginOf_l1 fu V j p1 p2 fu 15 0)
def p_X3_marginOf (fu : Nat) (V : VT) (j : Nat) (p1 : Int32) (p2 : Int32) : Prop := (p_X3_marginOf_l1 fu V j p1 p2 fu 15 0)
set_option maxHeartbeats 4000000 in
set_option maxRecDepth 100000 in
theorem m_X3_marginOf (l : Launch) (D : va_G) (cI cB : ClassId) (ad : Nat → Nat) (fu : Nat) (V : VT) (j : Nat) (p1 : Int32) (p2 : Int32) (hj : j < 6) (hp : p_X3_marginOf fu V j p1 p2) : Met l yX3_marginOf wsX3_marginOf ({ frames := 1, cells := 0, slots := 0, locals := 21 }) (cP D cI cB ad V [.ref (ad (6 + 8 * j + 1)), .int p1, .int p2]) (cR (f_X3_marginOf fu V j p1 p2)) 0 0 (fun _ => False) := by
  refine Met.ofW (cc := cX3_marginOf) (maxL := 5) (ret := (some .int)) (by decide +kernel) rfl ?_
  intro p e s m args below meth c s₁ B hml hv
  obtain ⟨rfl, hP, hKN⟩ := hv
  have hK := hKN.1
  have hx := B.exec
  have hb := B.bytes
  have hr := B.returns
  have hts := atoms_spec (ws := wsX3_marginOf) B.pre
  have hown : s.vm.findClass RX3 = some m.cls := findClass_of_methodNamed B.named
  have hlocks := B.notSynchronized
  have hS : va_S (fun _ => False) s.heap s.heap [] := va_S.rf
  have hl := lv_entry ([.ref (ad (6 + 8 * j + 1)), .int p1, .int p2]) (n := 5) (Nat.le_of_ble_eq_true rfl)
  rw [lg_entry_eq]
  generalize (lg_sl ([.ref (ad (6 + 8 * j + 1)), .int p1, .int p2]) ++ List.replicate (5 - (lg_sl ([.ref (ad (6 + 8 * j + 1)), .int p1, .int p2])).length) Slot.unset).toArray = ls at hl ⊢
  have hl : lv_has ls 5 [(0, .ref (ad (6 + 8 * j + 1))), (1, .int p1), (2, .int p2)] := hl
  have hE : f_X3_marginOf fu V j p1 p2 = (f_X3_marginOf_l1 fu V j p1 p2 fu 15 0) := rfl
  refine lv_bipush (v := 15) hx hb dX3_marginOf_0 (by decide) ?_
  refine lv_istore_n (lv' := [(3, .int 15), (0, .ref (ad (6 + 8 * j + 1))), (1, .int p1), (2, .int p2)]) hx hb dX3_marginOf_2 rfl hl (by decide) rfl (fun ls hl => ?_)
  refine lv_iconst (v := 0) hx hb dX3_marginOf_3 (by decide) ?_
  refine lv_istore (lv' := [(4, .int 0), (3, .int 15), (0, .ref (ad (6 + 8 * j + 1))), (1, .int p1), (2, .int p2)]) hx hb dX3_marginOf_4 hl (by decide) rfl (fun ls hl => ?_)
  have L1 : ∀ (w1 : Nat) (x3_1 : Int32) (x4_1 : Int32), f_X3_marginOf fu V j p1 p2 = f_X3_marginOf_l1 fu V j p1 p2 w1 x3_1 x4_1 → p_X3_marginOf_l1 fu V j p1 p2 w1 x3_1 x4_1 → ∀ (H : Heap) (locs : List Loc), wP D cI cB ad V H → va_S (fun _ => False) s.heap H locs → ∀ (ls : Array Slot), lv_has ls 5 [(0, .ref (ad (6 + 8 * j + 1))), (1, .int p1), (2, .int p2), (3, .int x3_1), (4, .int x4_1)] → W p l e (headSpec wsX3_marginOf ({ frames := 1, cells := 0, slots := 0, locals := 21 })).room s m ([.ref (ad (6 + 8 * j + 1)), .int p1, .int p2] : List Value).toArray below meth c H locs 0 0 (MQ below (cR (f_X3_marginOf fu V j p1 p2)) ([.ref (ad (6 + 8 * j + 1)), .int p1, .int p2] : List Value).toArray s 0 0 (fun _ => False)) (F0 m 6 ls []) := by
    intro w1
    induction w1 with
    | zero => intro x3_1 x4_1 hE hp; exact hp.elim
    | succ w1 ih1 =>
      intro x3_1 x4_1 hE hp H locs hP hS ls hl
      rw [f_X3_marginOf_l1] at hE
      rw [p_X3_marginOf_l1] at hp
      refine lv_iload hx hb dX3_marginOf_6 (lv_at hl 4 rfl) ?_
      refine lv_aload_n hx hb dX3_marginOf_8 rfl (lv_at hl 0 rfl) ?_
      refine x_get (ci := 3) (fs := [.ref (ad (6 + 8 * j + 2))]) (q := (6 + 8 * j + 1)) (v := .ref (ad (6 + 8 * j + 2))) (N := 1) hx hb hts (fun _ h => List.mem_cons_of_mem _ (List.mem_append_right _ h)) hown hK hP (by have := hj; omega) (ce_lt ad cI cB hj (V (6 + 8 * j + 1))) rfl 0 (by decide) (hts (.fieldLink RX3 9 "TurnedBoards$Letters" "drawn" "[I") (List.mem_of_getElem? (i := 1) rfl)) rfl rfl dX3_marginOf_9 ?_
      refine x_alen hx hb hK hP (rw_bd ad cI cB (j := j) (r := 2) hj (by decide) (fun _ => rfl)) dX3_marginOf_12 ?_
      refine lv_icmp_ge (tgt := 56) hx hb dX3_marginOf_13 (by decide) (fun c1 => ?_) (fun c1 => ?_)
      · have hE := hE.trans (if_pos c1)
        refine lv_iload_n hx hb dX3_marginOf_56 rfl (lv_at hl 3 rfl) ?_
        refine lv_iload_n hx hb dX3_marginOf_57 rfl (lv_at hl 1 rfl) ?_
        refine lv_aload_n hx hb dX3_marginOf_58 rfl (lv_at hl 0 rfl) ?_
        refine lv_iload_n hx hb dX3_marginOf_59 rfl (lv_at hl 2 rfl) ?_
        refine k_VR (As := [.int p2]) (rest := [.int p1, .int x3_1]) (q := (6 + 8 * j + 1)) ⟨hx, hb, hml, hown, hts⟩ hKN hP hS (m_X3_signFor l D cI cB ad V j p2 hj) (cwV 1 hts gX3_marginOf_X3_signFor rfl rfl rfl (by decide +kernel) ⟨(Nat.le_of_ble_eq_true rfl), (Nat.le_of_ble_eq_true rfl)⟩) (c_preV hP hKN (q := (6 + 8 * j + 1)) (ci := 3) (fs := [.ref (ad (6 + 8 * j + 2))]) (by have := hj; omega) (ce_lt ad cI cB hj (V (6 + 8 * j + 1))) rfl rfl) rfl hl.1 rfl (Nat.le_of_ble_eq_true rfl) dX3_marginOf_60 ⟨Nat.zero_le _, Nat.zero_le _⟩ (fun H locs hP hS => ?_)
        refine lv_ixor hx hb dX3_marginOf_63 ?_
        refine k_SR (As := [.int (p1 ^^^ (f_X3_signFor V j p2))]) (rest := [.int x3_1]) ⟨hx, hb, hml, hown, hts⟩ hKN hP hS (m_J6_bitCount_0f7a4 l D cI cB ad V (p1 ^^^ (f_X3_signFor V j p2))) (va_cwS 1 hts gX3_marginOf_J6_bitCount_0f7a4 rfl rfl rfl (by decide +kernel) ⟨(Nat.le_of_ble_eq_true rfl), (Nat.le_of_ble_eq_true rfl)⟩) rfl hl.1 rfl (Nat.le_of_ble_eq_true rfl) dX3_marginOf_64 ⟨Nat.zero_le _, Nat.zero_le _⟩ (fun H locs hP hS => ?_)
        refine lv_isub hx hb dX3_marginOf_67 ?_
        exact W.iret (v := (x3_1 - (f_J6_bitCount_0f7a4 V (p1 ^^^ (f_X3_signFor V j p2))))) hx hb hr (fun t ht hW => ⟨⟨(x3_1 - (f_J6_bitCount_0f7a4 V (p1 ^^^ (f_X3_signFor V j p2)))), (), rfl, hE.symm, trivial⟩, hS.F ht⟩) hS.2.2 dX3_marginOf_68
      · have hE := hE.trans (if_neg c1)
        have hp := pc_bn hp c1
        refine lv_iload hx hb dX3_marginOf_16 (lv_at hl 4 rfl) ?_
        refine lv_iload_n hx hb dX3_marginOf_18 rfl (lv_at hl 2 rfl) ?_
        refine lv_icmp_eq (tgt := 50) hx hb dX3_marginOf_19 (by decide) (fun c2 => ?_) (fun c2 => ?_)
        · have hE := hE.trans (if_pos c2)
          have hp := pc_br hp c2
          refine lv_iinc (v := (x4_1 + 1)) (lv' := [(4, .int (x4_1 + 1)), (0, .ref (ad (6 + 8 * j + 1))), (1, .int p1), (2, .int p2), (3, .int x3_1)]) hx hb dX3_marginOf_50 hl (k := 4) rfl (by rfl) (by decide) rfl (fun ls hl => ?_)
          refine lv_goto (tgt := 6) hx hb dX3_marginOf_53 (by decide) ?_
          exact ih1 x3_1 (x4_1 + 1) hE hp H locs hP hS ls (lv_sub hl [1, 2, 3, 4, 0] rfl)
        · have hE := hE.trans (if_neg c2)
          have hp := pc_bn hp c2
          refine lv_aload_n hx hb dX3_marginOf_22 rfl (lv_at hl 0 rfl) ?_
          refine x_get (ci := 3) (fs := [.ref (ad (6 + 8 * j + 2))]) (q := (6 + 8 * j + 1)) (v := .ref (ad (6 + 8 * j + 2))) (N := 1) hx hb hts (fun _ h => List.mem_cons_of_mem _ (List.mem_append_right _ h)) hown hK hP (by have := hj; omega) (ce_lt ad cI cB hj (V (6 + 8 * j + 1))) rfl 0 (by decide) (hts (.fieldLink RX3 9 "TurnedBoards$Letters" "drawn" "[I") (List.mem_of_getElem? (i := 1) rfl)) rfl rfl dX3_marginOf_23 ?_
          refine lv_iload hx hb dX3_marginOf_26 (lv_at hl 4 rfl) ?_
          obtain ⟨hn1, hp⟩ := hp
          refine x_iald hx hb hK hP (rw_bd ad cI cB (j := j) (r := 2) hj (by decide) (fun _ => rfl)) hn1 dX3_marginOf_28 ?_
          refine lv_iconst (v := (-1)) hx hb dX3_marginOf_29 (by decide) ?_
          refine lv_icmp_eq (tgt := 50) hx hb dX3_marginOf_30 (by decide) (fun c3 => ?_) (fun c3 => ?_)
          · have hE := hE.trans (if_pos c3)
            have hp := pc_br hp c3
            refine lv_iinc (v := (x4_1 + 1)) (lv' := [(4, .int (x4_1 + 1)), (0, .ref (ad (6 + 8 * j + 1))), (1, .int p1), (2, .int p2), (3, .int x3_1)]) hx hb dX3_marginOf_50 hl (k := 4) rfl (by rfl) (by decide) rfl (fun ls hl => ?_)
            refine lv_goto (tgt := 6) hx hb dX3_marginOf_53 (by decide) ?_
            exact ih1 x3_1 (x4_1 + 1) hE hp H locs hP hS ls (lv_sub hl [1, 2, 3, 4, 0] rfl)
          · have hE := hE.trans (if_neg c3)
            have hp := pc_bn hp c3
            refine lv_iload_n hx hb dX3_marginOf_33 rfl (lv_at hl 3 rfl) ?_
            refine lv_iload_n hx hb dX3_marginOf_34 rfl (lv_at hl 1 rfl) ?_
            refine lv_aload_n hx hb dX3_marginOf_35 rfl (lv_at hl 0 rfl) ?_
            refine x_get (ci := 3) (fs := [.ref (ad (6 + 8 * j + 2))]) (q := (6 + 8 * j + 1)) (v := .ref (ad (6 + 8 * j + 2))) (N := 1) hx hb hts (fun _ h => List.mem_cons_of_mem _ (List.mem_append_right _ h)) hown hK hP (by have := hj; omega) (ce_lt ad cI cB hj (V (6 + 8 * j + 1))) rfl 0 (by decide) (hts (.fieldLink RX3 9 "TurnedBoards$Letters" "drawn" "[I") (List.mem_of_getElem? (i := 1) rfl)) rfl rfl dX3_marginOf_36 ?_
            refine lv_iload hx hb dX3_marginOf_39 (lv_at hl 4 rfl) ?_
            obtain ⟨hn2, hp⟩ := hp
            refine x_iald hx hb hK hP (rw_bd ad cI cB (j := j) (r := 2) hj (by decide) (fun _ => rfl)) hn2 dX3_marginOf_41 ?_
            refine lv_ixor hx hb dX3_marginOf_42 ?_
            refine k_SR (As := [.int (p1 ^^^ (V (6 + 8 * j + 2) x4_1.toNatClampNeg))]) (rest := [.int x3_1]) ⟨hx, hb, hml, hown, hts⟩ hKN hP hS (m_J6_bitCount_0f7a4 l D cI cB ad V (p1 ^^^ (V (6 + 8 * j + 2) x4_1.toNatClampNeg))) (va_cwS 1 hts gX3_marginOf_J6_bitCount_0f7a4 rfl rfl rfl (by decide +kernel) ⟨(Nat.le_of_ble_eq_true rfl), (Nat.le_of_ble_eq_true rfl)⟩) rfl hl.1 rfl (Nat.le_of_ble_eq_true rfl) dX3_marginOf_43 ⟨Nat.zero_le _, Nat.zero_le _⟩ (fun H locs hP hS => ?_)
            refine va_mmin hx hb (hml.trans hl.1.symm) hown (hts (.methodLink RX3 34 Lib.Math.min.name) (List.mem_of_getElem? (i := 2) rfl)) (hts (.static Lib.Math.min.name) (List.mem_of_getElem? (i := 3) rfl)) (hts (.initialized "java/lang/Math") (List.mem_of_getElem? (i := 4) rfl)) (hts (.code Lib.Math.min.name Lib.Math.min.code 2 (some .int)) (List.mem_of_getElem? (i := 5) rfl)) (Nat.le_of_ble_eq_true rfl) (Nat.le_of_ble_eq_true rfl) (Nat.zero_le _) (Nat.zero_le _) dX3_marginOf_46 ?_
            refine lv_istore_n (lv' := [(3, .int (if (f_J6_bitCount_0f7a4 V (p1 ^^^ (V (6 + 8 * j + 2) x4_1.toNatClampNeg))) < x3_1 then (f_J6_bitCount_0f7a4 V (p1 ^^^ (V (6 + 8 * j + 2) x4_1.toNatClampNeg))) else x3_1)), (0, .ref (ad (6 + 8 * j + 1))), (1, .int p1), (2, .int p2), (4, .int x4_1)]) hx hb dX3_marginOf_49 rfl hl (by decide) rfl (fun ls hl => ?_)
            refine lv_iinc (v := (x4_1 + 1)) (lv' := [(4, .int (x4_1 + 1)), (3, .int (if (f_J6_bitCount_0f7a4 V (p1 ^^^ (V (6 + 8 * j + 2) x4_1.toNatClampNeg))) < x3_1 then (f_J6_bitCount_0f7a4 V (p1 ^^^ (V (6 + 8 * j + 2) x4_1.toNatClampNeg))) else x3_1)), (0, .ref (ad (6 + 8 * j + 1))), (1, .int p1), (2, .int p2)]) hx hb dX3_marginOf_50 hl (k := 4) rfl (by rfl) (by decide) rfl (fun ls hl => ?_)
            refine lv_goto (tgt := 6) hx hb dX3_marginOf_53 (by decide) ?_
            exact ih1 (if (f_J6_bitCount_0f7a4 V (p1 ^^^ (V (6 + 8 * j + 2) x4_1.toNatClampNeg))) < x3_1 then (f_J6_bitCount_0f7a4 V (p1 ^^^ (V (6 + 8 * j + 2) x4_1.toNatClampNeg))) else x3_1) (x4_1 + 1) hE hp H locs hP hS ls (lv_sub hl [2, 3, 4, 1, 0] rfl)
  exact L1 fu 15 0 hE hp _ _ hP hS _ (lv_sub hl [2, 3, 4, 1, 0] rfl)
def f_X3_leadOf (fu : Nat) (V : VT) (j : Nat) (p1 : Int32) (p2 : Int32) : Int32 := (if 0 < (f_X3_marginOf fu V j p1 p2) then (f_X3_marginOf fu V j p1 p2) else (if (f_X3_marginOf fu V j p1 p2) = 0 then (if (f_X3_nearest fu V j p1 (-1)) = p2 then (f_X3_marginOf fu V j p1 p2) else (-1)) else (-1)))
def p_X3_leadOf (fu : Nat) (V : VT) (j : Nat) (p1 : Int32) (p2 : Int32) : Prop := ((p_X3_marginOf fu V j p1 p2) ∧ ((0 < (f_X3_marginOf fu V j p1 p2) → True) ∧ (¬ (0 < (f_X3_marginOf fu V j p1 p2)) → (((f_X3_marginOf fu V j p1 p2) = 0 → (p_X3_nearest fu V j p1 (-1))) ∧ (¬ ((f_X3_marginOf fu V j p1 p2) = 0) → True)))))
set_option maxHeartbeats 4000000 in
set_option maxRecDepth 100000 in
theorem m_X3_leadOf (l : Launch) (D : va_G) (cI cB : ClassId) (ad : Nat → Nat) (fu : Nat) (V : VT) (j : Nat) (p1 : Int32) (p2 : Int32) (hj : j < 6) (hp : p_X3_leadOf fu V j p1 p2) : Met l yX3_leadOf wsX3_leadOf ({ frames := 2, cells := 0, slots := 0, locals := 46 }) (cP D cI cB ad V [.ref (ad (6 + 8 * j + 1)), .int p1, .int p2]) (cR (f_X3_leadOf fu V j p1 p2)) 0 0 (fun _ => False) := by
  refine Met.ofW (cc := cX3_leadOf) (maxL := 4) (ret := (some .int)) (by decide +kernel) rfl ?_
  intro p e s m args below meth c s₁ B hml hv
  obtain ⟨rfl, hP, hKN⟩ := hv
  have hK := hKN.1
  have hx := B.exec
  have hb := B.bytes
  have hr := B.returns
  have hts := atoms_spec (ws := wsX3_leadOf) B.pre
  have hown : s.vm.findClass RX3 = some m.cls := findClass_of_methodNamed B.named
  have hlocks := B.notSynchronized
  have hS : va_S (fun _ => False) s.heap s.heap [] := va_S.rf
  have hl := lv_entry ([.ref (ad (6 + 8 * j + 1)), .int p1, .int p2]) (n := 4) (Nat.le_of_ble_eq_true rfl)
  rw [lg_entry_eq]
  generalize (lg_sl ([.ref (ad (6 + 8 * j + 1)), .int p1, .int p2]) ++ List.replicate (4 - (lg_sl ([.ref (ad (6 + 8 * j + 1)), .int p1, .int p2])).length) Slot.unset).toArray = ls at hl ⊢
  have hl : lv_has ls 4 [(0, .ref (ad (6 + 8 * j + 1))), (1, .int p1), (2, .int p2)] := hl
  have hE : f_X3_leadOf fu V j p1 p2 = (if 0 < (f_X3_marginOf fu V j p1 p2) then (f_X3_marginOf fu V j p1 p2) else (if (f_X3_marginOf fu V j p1 p2) = 0 then (if (f_X3_nearest fu V j p1 (-1)) = p2 then (f_X3_marginOf fu V j p1 p2) else (-1)) else (-1))) := rfl
  refine lv_aload_n hx hb dX3_leadOf_0 rfl (lv_at hl 0 rfl) ?_
  refine lv_iload_n hx hb dX3_leadOf_1 rfl (lv_at hl 1 rfl) ?_
  refine lv_iload_n hx hb dX3_leadOf_2 rfl (lv_at hl 2 rfl) ?_
  obtain ⟨hn1, hp⟩ := hp
  refine k_VR (As := [.int p1, .int p2]) (rest := []) (q := (6 + 8 * j + 1)) ⟨hx, hb, hml, hown, hts⟩ hKN hP hS (m_X3_marginOf l D cI cB ad fu V j p1 p2 hj hn1) (cwV 2 hts gX3_leadOf_X3_marginOf rfl rfl rfl (by decide +kernel) ⟨(Nat.le_of_ble_eq_true rfl), (Nat.le_of_ble_eq_true rfl)⟩) (c_preV hP hKN (q := (6 + 8 * j + 1)) (ci := 3) (fs := [.ref (ad (6 + 8 * j + 2))]) (by have := hj; omega) (ce_lt ad cI cB hj (V (6 + 8 * j + 1))) rfl rfl) rfl hl.1 rfl (Nat.le_of_ble_eq_true rfl) dX3_leadOf_3 ⟨Nat.zero_le _, Nat.zero_le _⟩ (fun H locs hP hS => ?_)
  refine lv_istore_n (lv' := [(3, .int (f_X3_marginOf fu V j p1 p2)), (0, .ref (ad (6 + 8 * j + 1))), (1, .int p1), (2, .int p2)]) hx hb dX3_leadOf_6 rfl hl (by decide) rfl (fun ls hl => ?_)
  refine lv_iload_n hx hb dX3_leadOf_7 rfl (lv_at hl 0 rfl) ?_
  refine lv_if_gt (tgt := 25) hx hb dX3_leadOf_8 (by decide) (fun c1 => ?_) (fun c1 => ?_)
  · have hE := hE.trans (if_pos c1)
    refine lv_iload_n hx hb dX3_leadOf_25 rfl (lv_at hl 0 rfl) ?_
    refine lv_goto (tgt := 30) hx hb dX3_leadOf_26 (by decide) ?_
    exact W.iret (v := (f_X3_marginOf fu V j p1 p2)) hx hb hr (fun t ht hW => ⟨⟨(f_X3_marginOf fu V j p1 p2), (), rfl, hE.symm, trivial⟩, hS.F ht⟩) hS.2.2 dX3_leadOf_30
  · have hE := hE.trans (if_neg c1)
    have hp := pc_bn hp c1
    refine lv_iload_n hx hb dX3_leadOf_11 rfl (lv_at hl 0 rfl) ?_
    refine lv_if_ne (tgt := 29) hx hb dX3_leadOf_12 (by decide) (fun c2 => ?_) (fun c2 => ?_)
    · have hE := hE.trans (if_neg c2)
      refine lv_iconst (v := (-1)) hx hb dX3_leadOf_29 (by decide) ?_
      exact W.iret (v := (-1)) hx hb hr (fun t ht hW => ⟨⟨(-1), (), rfl, hE.symm, trivial⟩, hS.F ht⟩) hS.2.2 dX3_leadOf_30
    · have hE := hE.trans (if_pos c2)
      have hp := pc_br hp c2
      refine lv_aload_n hx hb dX3_leadOf_15 rfl (lv_at hl 1 rfl) ?_
      refine lv_iload_n hx hb dX3_leadOf_16 rfl (lv_at hl 2 rfl) ?_
      refine lv_iconst (v := (-1)) hx hb dX3_leadOf_17 (by decide) ?_
      have hn2 := hp
      refine k_VR (As := [.int p1, .int (-1)]) (rest := []) (q := (6 + 8 * j + 1)) ⟨hx, hb, hml, hown, hts⟩ hKN hP hS (m_X3_nearest l D cI cB ad fu V j p1 (-1) hj hn2) (cwV 2 hts gX3_leadOf_X3_nearest rfl rfl rfl (by decide +kernel) ⟨(Nat.le_of_ble_eq_true rfl), (Nat.le_of_ble_eq_true rfl)⟩) (c_preV hP hKN (q := (6 + 8 * j + 1)) (ci := 3) (fs := [.ref (ad (6 + 8 * j + 2))]) (by have := hj; omega) (ce_lt ad cI cB hj (V (6 + 8 * j + 1))) rfl rfl) rfl hl.1 rfl (Nat.le_of_ble_eq_true rfl) dX3_leadOf_18 ⟨Nat.zero_le _, Nat.zero_le _⟩ (fun H locs hP hS => ?_)
      refine lv_iload_n hx hb dX3_leadOf_21 rfl (lv_at hl 3 rfl) ?_
      refine lv_icmp_ne (tgt := 29) hx hb dX3_leadOf_22 (by decide) (fun c3 => ?_) (fun c3 => ?_)
      · have hE := hE.trans (if_neg c3)
        refine lv_iconst (v := (-1)) hx hb dX3_leadOf_29 (by decide) ?_
        exact W.iret (v := (-1)) hx hb hr (fun t ht hW => ⟨⟨(-1), (), rfl, hE.symm, trivial⟩, hS.F ht⟩) hS.2.2 dX3_leadOf_30
      · have hE := hE.trans (if_pos c3)
        refine lv_iload_n hx hb dX3_leadOf_25 rfl (lv_at hl 0 rfl) ?_
        refine lv_goto (tgt := 30) hx hb dX3_leadOf_26 (by decide) ?_
        exact W.iret (v := (f_X3_marginOf fu V j p1 p2)) hx hb hr (fun t ht hW => ⟨⟨(f_X3_marginOf fu V j p1 p2), (), rfl, hE.symm, trivial⟩, hS.F ht⟩) hS.2.2 dX3_leadOf_30
def f_X3_copyFrom (fu : Nat) (V : VT) (j : Nat) (j2 : Nat) : VT := (f_X4_copy fu V (6 + 8 * j2 + 2) 10 (6 + 8 * j + 2) 10)
def p_X3_copyFrom (fu : Nat) (V : VT) (j : Nat) (j2 : Nat) : Prop := (p_X4_copy fu V (6 + 8 * j2 + 2) 10 (6 + 8 * j + 2) 10)
set_option maxHeartbeats 4000000 in
set_option maxRecDepth 100000 in
theorem m_X3_copyFrom (l : Launch) (D : va_G) (cI cB : ClassId) (ad : Nat → Nat) {A : Nat → Prop} (hA : adOk ad A) (fu : Nat) (V : VT) (j : Nat) (j2 : Nat) (hj : j < 6) (hj2 : j2 < 6) (hp : p_X3_copyFrom fu V j j2) : Met l yX3_copyFrom wsX3_copyFrom ({ frames := 1, cells := 0, slots := 0, locals := 22 }) (cP D cI cB ad V [.ref (ad (6 + 8 * j + 1)), .ref (ad (6 + 8 * j2 + 1))]) (cWv D cI cB ad A (f_X3_copyFrom fu V j j2)) 0 0 A := by
  refine Met.ofW (cc := cX3_copyFrom) (maxL := 2) (ret := none) (by decide +kernel) rfl ?_
  intro p e s m args below meth c s₁ B hml hv
  obtain ⟨rfl, hP, hKN⟩ := hv
  have hK := hKN.1
  have hx := B.exec
  have hb := B.bytes
  have hr := B.returns
  have hts := atoms_spec (ws := wsX3_copyFrom) B.pre
  have hown : s.vm.findClass RX3 = some m.cls := findClass_of_methodNamed B.named
  have hlocks := B.notSynchronized
  have hS : va_S A s.heap s.heap [] := va_S.rf
  have hl := lv_entry ([.ref (ad (6 + 8 * j + 1)), .ref (ad (6 + 8 * j2 + 1))]) (n := 2) (Nat.le_of_ble_eq_true rfl)
  rw [lg_entry_eq]
  generalize (lg_sl ([.ref (ad (6 + 8 * j + 1)), .ref (ad (6 + 8 * j2 + 1))]) ++ List.replicate (2 - (lg_sl ([.ref (ad (6 + 8 * j + 1)), .ref (ad (6 + 8 * j2 + 1))])).length) Slot.unset).toArray = ls at hl ⊢
  have hl : lv_has ls 2 [(0, .ref (ad (6 + 8 * j + 1))), (1, .ref (ad (6 + 8 * j2 + 1)))] := hl
  have hE : f_X3_copyFrom fu V j j2 = (f_X4_copy fu V (6 + 8 * j2 + 2) 10 (6 + 8 * j + 2) 10) := rfl
  refine lv_aload_n hx hb dX3_copyFrom_0 rfl (lv_at hl 1 rfl) ?_
  refine lv_ifnull hx hb dX3_copyFrom_1 ?_
  refine lv_aload_n hx hb dX3_copyFrom_4 rfl (lv_at hl 1 rfl) ?_
  refine x_get (ci := 3) (fs := [.ref (ad (6 + 8 * j2 + 2))]) (q := (6 + 8 * j2 + 1)) (v := .ref (ad (6 + 8 * j2 + 2))) (N := 1) hx hb hts (fun _ h => List.mem_cons_of_mem _ (List.mem_append_right _ h)) hown hK hP (by have := hj2; omega) (ce_lt ad cI cB hj2 (V (6 + 8 * j2 + 1))) rfl 0 (by decide) (hts (.fieldLink RX3 9 "TurnedBoards$Letters" "drawn" "[I") (List.mem_of_getElem? (i := 1) rfl)) rfl rfl dX3_copyFrom_5 ?_
  refine lv_aload_n hx hb dX3_copyFrom_8 rfl (lv_at hl 0 rfl) ?_
  refine x_get (ci := 3) (fs := [.ref (ad (6 + 8 * j + 2))]) (q := (6 + 8 * j + 1)) (v := .ref (ad (6 + 8 * j + 2))) (N := 1) hx hb hts (fun _ h => List.mem_cons_of_mem _ (List.mem_append_right _ h)) hown hK hP (by have := hj; omega) (ce_lt ad cI cB hj (V (6 + 8 * j + 1))) rfl 0 (by decide) (hts (.fieldLink RX3 9 "TurnedBoards$Letters" "drawn" "[I") (List.mem_of_getElem? (i := 1) rfl)) rfl rfl dX3_copyFrom_9 ?_
  have hn1 := hp
  refine k_SWv (As := [.ref (ad (6 + 8 * j2 + 2)), .ref (ad (6 + 8 * j + 2))]) (rest := []) ⟨hx, hb, hml, hown, hts⟩ hKN hP hS (m_X4_copy l D cI cB 60 (cellOf ad cI cB) ad hA fu V (6 + 8 * j2 + 2) 10 (6 + 8 * j + 2) 10 (rw_bd ad cI cB (j := j2) (r := 2) hj2 (by decide) (fun _ => rfl)) (rw_bd ad cI cB (j := j) (r := 2) hj (by decide) (fun _ => rfl)) hn1) (va_cwS 2 hts gX3_copyFrom_X4_copy rfl rfl rfl (by decide +kernel) ⟨(Nat.le_of_ble_eq_true rfl), (Nat.le_of_ble_eq_true rfl)⟩) rfl hl.1 rfl (Nat.le_of_ble_eq_true rfl) dX3_copyFrom_12 ⟨Nat.zero_le _, Nat.zero_le _⟩ (fun H locs hP hS => ?_)
  exact W.vret hx hb hr (fun t ht hW => ⟨⟨(f_X4_copy fu V (6 + 8 * j2 + 2) 10 (6 + 8 * j + 2) 10), rfl, hE.symm, by dsimp only; rw [ht]; exact hP⟩, hS.F ht⟩) hS.2.2 dX3_copyFrom_15
end
