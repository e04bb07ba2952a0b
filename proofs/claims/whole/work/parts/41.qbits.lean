/-! quality: the bits of a quotient -/
def vfB (r : UInt32) : Bool := decide (r &&& 0x7fffffff ≤ 0x7f800000)
def boE (p1 x : UInt32) (e : Int32) : Option Int32 := if vfB (FP.fsub x FP.fconst1) && vfB (FP.fmul (FP.fsub x FP.fconst1) 1258291200) then some (if 0 ≤ (Op.cmpValue (FP.fcmp p1 FP.fconst0) CmpOp.g) then (((0 : Int32) ||| (e <<< (23 &&& 31))) ||| (FP.f2i (FP.fmul (FP.fsub x FP.fconst1) 1258291200))) else ((((-2147483648) : Int32) ||| (e <<< (23 &&& 31))) ||| (FP.f2i (FP.fmul (FP.fsub x FP.fconst1) 1258291200)))) else none
def bo2 (p1 : UInt32) : Nat → UInt32 → Int32 → Int32 → Option Int32
  | 0, _, _, _ => none
  | w + 1, x, e, k => if 16 ≤ k then boE p1 x e else if 0 ≤ (Op.cmpValue (FP.fcmp x FP.fconst1) CmpOp.g) then boE p1 x e else if vfB (FP.fmul x FP.fconst2) then bo2 p1 w (FP.fmul x FP.fconst2) (e + (-1)) (k + 1) else none
def bo1 (p1 : UInt32) : Nat → UInt32 → Int32 → Int32 → Option Int32
  | 0, _, _, _ => none
  | w + 1, x, e, k => if 16 ≤ k then bo2 p1 18 x e 0 else if (Op.cmpValue (FP.fcmp x FP.fconst2) CmpOp.l) < 0 then bo2 p1 18 x e 0 else if vfB (FP.fdiv x FP.fconst2) then bo1 p1 w (FP.fdiv x FP.fconst2) (e + 1) (k + 1) else none
def bo (p1 : UInt32) : Option Int32 := if (Op.cmpValue (FP.fcmp p1 FP.fconst0) CmpOp.l) = 0 then some 0 else if 0 ≤ (Op.cmpValue (FP.fcmp p1 FP.fconst0) CmpOp.g) then bo1 p1 18 p1 127 0 else bo1 p1 18 (FP.fneg p1) 127 0
def chq (P m : Nat) : Bool := vfB (FP.fdiv (FP.i2f (nI m - nI 240)) (FP.i2f (2 * nI P))) && decide (bo (FP.fdiv (FP.i2f (nI m - nI 240)) (FP.i2f (2 * nI P))) = some (f_Jxf58ca_floatToIntBits_5c35a (fun _ _ => 0) (FP.fdiv (FP.i2f (nI m - nI 240)) (FP.i2f (2 * nI P)))))
theorem chq_1 : (List.range 61).all (fun m => chq 1 (m + 210)) = true := by decide +kernel
theorem chq_2 : (List.range 121).all (fun m => chq 2 (m + 180)) = true := by decide +kernel
theorem chq_3 : (List.range 181).all (fun m => chq 3 (m + 150)) = true := by decide +kernel
theorem chq_4 : (List.range 241).all (fun m => chq 4 (m + 120)) = true := by decide +kernel
theorem chq_5 : (List.range 301).all (fun m => chq 5 (m + 90)) = true := by decide +kernel
theorem chq_6 : (List.range 361).all (fun m => chq 6 (m + 60)) = true := by decide +kernel
theorem chq_7 : (List.range 421).all (fun m => chq 7 (m + 30)) = true := by decide +kernel
theorem chq_8 : (List.range 481).all (fun m => chq 8 (m + 0)) = true := by decide +kernel
theorem chq_ok {P m : Nat} (h1 : 1 ≤ P) (h8 : P ≤ 8) (ha : 240 ≤ m + 30 * P) (hb : m ≤ 240 + 30 * P) : chq P m = true := by
  have go : ∀ Q, (List.range (60 * Q + 1)).all (fun m => chq Q (m + (240 - 30 * Q))) = true → Q ≤ 8 → P = Q → chq P m = true := by
    intro Q hQ h8 e
    subst e
    have := List.all_eq_true.mp hQ (m - (240 - 30 * P)) (List.mem_range.mpr (by omega))
    rw [show m - (240 - 30 * P) + (240 - 30 * P) = m by omega] at this
    exact this
  rcases (show P = 1 ∨ P = 2 ∨ P = 3 ∨ P = 4 ∨ P = 5 ∨ P = 6 ∨ P = 7 ∨ P = 8 by omega) with e | e | e | e | e | e | e | e
  · exact go 1 chq_1 (by decide) e
  · exact go 2 chq_2 (by decide) e
  · exact go 3 chq_3 (by decide) e
  · exact go 4 chq_4 (by decide) e
  · exact go 5 chq_5 (by decide) e
  · exact go 6 chq_6 (by decide) e
  · exact go 7 chq_7 (by decide) e
  · exact go 8 chq_8 (by decide) e
