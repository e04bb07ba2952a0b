/-! the first world as one table (wip/whole/gen/start.py) -/
set_option maxHeartbeats 16000000 in
set_option maxRecDepth 100000 in
theorem st_tab {D : va_G} {cI cB : ClassId} {A : Nat → Prop} {H : Heap} {tb tcm tsc tch ths tsa tb0 tb0q1 tb0q2 tb0q3 tb0q4 tb0q5 tb0q6 tb1 tb1q1 tb1q2 tb1q3 tb1q4 tb1q5 tb1q6 tb2 tb2q1 tb2q2 tb2q3 tb2q4 tb2q5 tb2q6 tb3 tb3q1 tb3q2 tb3q3 tb3q4 tb3q5 tb3q6 tb4 tb4q1 tb4q2 tb4q3 tb4q4 tb4q5 tb4q6 tb5 tb5q1 tb5q2 tb5q3 tb5q4 tb5q5 tb5q6 md mq1 mq2 mq3 mq4 mq5 : Nat} {tg0 tg1 tg2 tg3 tg4 tg5 mg : Nat → Int32} (hP : va_P D vwCl [(tb, .inr (5, [.ref tb0, .ref tb1, .ref ths, .ref tsc, .ref tcm, .int 0])), (tcm, .inr (1, [.null, .int 0, .int 0, .int 0, .int 0, .int 0, .int 0])), (tsc, .inr (4, [.ref tch, .int 0])), (tch, .inl (cI, 30, .inl (fun _ => 0))), (ths, .inr (2, [.ref tsa, .int 0])), (tsa, .inl (cB, 4, .inr (.inr (.inr (.inr (va_up (va_up (va_up (va_up (fun _ => none) (0 : Int32).toNatClampNeg (some tb2)) (1 : Int32).toNatClampNeg (some tb3)) (2 : Int32).toNatClampNeg (some tb4)) (3 : Int32).toNatClampNeg (some tb5))))))), (tb0, .inr (0, [.ref tb0q1, .ref tb0q3, .ref tb0q4, .ref tb0q5, .ref tb0q6, .int 4, .int 3, .int 0, .int 0, .int 20, .int 0, .int 0])), (tb0q1, .inr (3, [.ref tb0q2])), (tb0q2, .inl (cI, 10, .inl tg0)), (tb0q3, .inl (cI, 8, .inl (fun _ => 0))), (tb0q4, .inl (cI, 8, .inl (fun _ => 0))), (tb0q5, .inl (cI, 8, .inl (fun _ => 0))), (tb0q6, .inl (cI, 8, .inl (fun _ => 0))), (tb1, .inr (0, [.ref tb1q1, .ref tb1q3, .ref tb1q4, .ref tb1q5, .ref tb1q6, .int 4, .int 3, .int 0, .int 0, .int 20, .int 0, .int 0])), (tb1q1, .inr (3, [.ref tb1q2])), (tb1q2, .inl (cI, 10, .inl tg1)), (tb1q3, .inl (cI, 8, .inl (fun _ => 0))), (tb1q4, .inl (cI, 8, .inl (fun _ => 0))), (tb1q5, .inl (cI, 8, .inl (fun _ => 0))), (tb1q6, .inl (cI, 8, .inl (fun _ => 0))), (tb2, .inr (0, [.ref tb2q1, .ref tb2q3, .ref tb2q4, .ref tb2q5, .ref tb2q6, .int 4, .int 3, .int 0, .int 0, .int 20, .int 0, .int 0])), (tb2q1, .inr (3, [.ref tb2q2])), (tb2q2, .inl (cI, 10, .inl tg2)), (tb2q3, .inl (cI, 8, .inl (fun _ => 0))), (tb2q4, .inl (cI, 8, .inl (fun _ => 0))), (tb2q5, .inl (cI, 8, .inl (fun _ => 0))), (tb2q6, .inl (cI, 8, .inl (fun _ => 0))), (tb3, .inr (0, [.ref tb3q1, .ref tb3q3, .ref tb3q4, .ref tb3q5, .ref tb3q6, .int 4, .int 3, .int 0, .int 0, .int 20, .int 0, .int 0])), (tb3q1, .inr (3, [.ref tb3q2])), (tb3q2, .inl (cI, 10, .inl tg3)), (tb3q3, .inl (cI, 8, .inl (fun _ => 0))), (tb3q4, .inl (cI, 8, .inl (fun _ => 0))), (tb3q5, .inl (cI, 8, .inl (fun _ => 0))), (tb3q6, .inl (cI, 8, .inl (fun _ => 0))), (tb4, .inr (0, [.ref tb4q1, .ref tb4q3, .ref tb4q4, .ref tb4q5, .ref tb4q6, .int 4, .int 3, .int 0, .int 0, .int 20, .int 0, .int 0])), (tb4q1, .inr (3, [.ref tb4q2])), (tb4q2, .inl (cI, 10, .inl tg4)), (tb4q3, .inl (cI, 8, .inl (fun _ => 0))), (tb4q4, .inl (cI, 8, .inl (fun _ => 0))), (tb4q5, .inl (cI, 8, .inl (fun _ => 0))), (tb4q6, .inl (cI, 8, .inl (fun _ => 0))), (tb5, .inr (0, [.ref tb5q1, .ref tb5q3, .ref tb5q4, .ref tb5q5, .ref tb5q6, .int 4, .int 3, .int 0, .int 0, .int 20, .int 0, .int 0])), (tb5q1, .inr (3, [.ref tb5q2])), (tb5q2, .inl (cI, 10, .inl tg5)), (tb5q3, .inl (cI, 8, .inl (fun _ => 0))), (tb5q4, .inl (cI, 8, .inl (fun _ => 0))), (tb5q5, .inl (cI, 8, .inl (fun _ => 0))), (tb5q6, .inl (cI, 8, .inl (fun _ => 0))), (md, .inr (6, [.ref mq1, .ref mq2, .ref mq3, .int 0, .ref mq4, .int 0, .ref mq5, .int 0, .int 0, .int 0, .int 0, .int 0, .int 0])), (mq1, .inl (cI, 49, .inl mg)), (mq2, .inl (cI, 49, .inl (fun _ => 0))), (mq3, .inl (cI, 49, .inl (fun _ => 0))), (mq4, .inl (cI, 196, .inl (fun _ => 0))), (mq5, .inl (cI, 30, .inl (fun _ => 0)))] H) (hD : va_D A [(tb, .inr (5, [.ref tb0, .ref tb1, .ref ths, .ref tsc, .ref tcm, .int 0])), (tcm, .inr (1, [.null, .int 0, .int 0, .int 0, .int 0, .int 0, .int 0])), (tsc, .inr (4, [.ref tch, .int 0])), (tch, .inl (cI, 30, .inl (fun _ => 0))), (ths, .inr (2, [.ref tsa, .int 0])), (tsa, .inl (cB, 4, .inr (.inr (.inr (.inr (va_up (va_up (va_up (va_up (fun _ => none) (0 : Int32).toNatClampNeg (some tb2)) (1 : Int32).toNatClampNeg (some tb3)) (2 : Int32).toNatClampNeg (some tb4)) (3 : Int32).toNatClampNeg (some tb5))))))), (tb0, .inr (0, [.ref tb0q1, .ref tb0q3, .ref tb0q4, .ref tb0q5, .ref tb0q6, .int 4, .int 3, .int 0, .int 0, .int 20, .int 0, .int 0])), (tb0q1, .inr (3, [.ref tb0q2])), (tb0q2, .inl (cI, 10, .inl tg0)), (tb0q3, .inl (cI, 8, .inl (fun _ => 0))), (tb0q4, .inl (cI, 8, .inl (fun _ => 0))), (tb0q5, .inl (cI, 8, .inl (fun _ => 0))), (tb0q6, .inl (cI, 8, .inl (fun _ => 0))), (tb1, .inr (0, [.ref tb1q1, .ref tb1q3, .ref tb1q4, .ref tb1q5, .ref tb1q6, .int 4, .int 3, .int 0, .int 0, .int 20, .int 0, .int 0])), (tb1q1, .inr (3, [.ref tb1q2])), (tb1q2, .inl (cI, 10, .inl tg1)), (tb1q3, .inl (cI, 8, .inl (fun _ => 0))), (tb1q4, .inl (cI, 8, .inl (fun _ => 0))), (tb1q5, .inl (cI, 8, .inl (fun _ => 0))), (tb1q6, .inl (cI, 8, .inl (fun _ => 0))), (tb2, .inr (0, [.ref tb2q1, .ref tb2q3, .ref tb2q4, .ref tb2q5, .ref tb2q6, .int 4, .int 3, .int 0, .int 0, .int 20, .int 0, .int 0])), (tb2q1, .inr (3, [.ref tb2q2])), (tb2q2, .inl (cI, 10, .inl tg2)), (tb2q3, .inl (cI, 8, .inl (fun _ => 0))), (tb2q4, .inl (cI, 8, .inl (fun _ => 0))), (tb2q5, .inl (cI, 8, .inl (fun _ => 0))), (tb2q6, .inl (cI, 8, .inl (fun _ => 0))), (tb3, .inr (0, [.ref tb3q1, .ref tb3q3, .ref tb3q4, .ref tb3q5, .ref tb3q6, .int 4, .int 3, .int 0, .int 0, .int 20, .int 0, .int 0])), (tb3q1, .inr (3, [.ref tb3q2])), (tb3q2, .inl (cI, 10, .inl tg3)), (tb3q3, .inl (cI, 8, .inl (fun _ => 0))), (tb3q4, .inl (cI, 8, .inl (fun _ => 0))), (tb3q5, .inl (cI, 8, .inl (fun _ => 0))), (tb3q6, .inl (cI, 8, .inl (fun _ => 0))), (tb4, .inr (0, [.ref tb4q1, .ref tb4q3, .ref tb4q4, .ref tb4q5, .ref tb4q6, .int 4, .int 3, .int 0, .int 0, .int 20, .int 0, .int 0])), (tb4q1, .inr (3, [.ref tb4q2])), (tb4q2, .inl (cI, 10, .inl tg4)), (tb4q3, .inl (cI, 8, .inl (fun _ => 0))), (tb4q4, .inl (cI, 8, .inl (fun _ => 0))), (tb4q5, .inl (cI, 8, .inl (fun _ => 0))), (tb4q6, .inl (cI, 8, .inl (fun _ => 0))), (tb5, .inr (0, [.ref tb5q1, .ref tb5q3, .ref tb5q4, .ref tb5q5, .ref tb5q6, .int 4, .int 3, .int 0, .int 0, .int 20, .int 0, .int 0])), (tb5q1, .inr (3, [.ref tb5q2])), (tb5q2, .inl (cI, 10, .inl tg5)), (tb5q3, .inl (cI, 8, .inl (fun _ => 0))), (tb5q4, .inl (cI, 8, .inl (fun _ => 0))), (tb5q5, .inl (cI, 8, .inl (fun _ => 0))), (tb5q6, .inl (cI, 8, .inl (fun _ => 0))), (md, .inr (6, [.ref mq1, .ref mq2, .ref mq3, .int 0, .ref mq4, .int 0, .ref mq5, .int 0, .int 0, .int 0, .int 0, .int 0, .int 0])), (mq1, .inl (cI, 49, .inl mg)), (mq2, .inl (cI, 49, .inl (fun _ => 0))), (mq3, .inl (cI, 49, .inl (fun _ => 0))), (mq4, .inl (cI, 196, .inl (fun _ => 0))), (mq5, .inl (cI, 30, .inl (fun _ => 0)))]) (f1 : ∀ i, i < 10 → tg0 i = -1) (mgf : ∀ i, i < 49 → mg i = if i = 2 then 20 else if i = 5 then 4 else if i = 6 then 3 else if 7 ≤ i ∧ i < 17 then -1 else 0) : ∃ (ad : Nat → Nat) (V : VT), wP D cI cB ad V H ∧ adOk ad A ∧ RelV V ∧ ad 0 = tb ∧ ad 48 = md := by
  obtain ⟨ad, e0, e1, e2, e3, e4, e5, e6, e7, e8, e9, e10, e11, e12, e13, e14, e15, e16, e17, e18, e19, e20, e21, e22, e23, e24, e25, e26, e27, e28, e29, e30, e31, e32, e33, e34, e35, e36, e37, e38, e39, e40, e41, e42, e43, e44, e45, e46, e47, e48, e49, e50, e51, e52, e53⟩ : ∃ ad : Nat → Nat, tb = ad 0 ∧ tcm = ad 1 ∧ tsc = ad 2 ∧ tch = ad 3 ∧ ths = ad 4 ∧ tsa = ad 5 ∧ tb0 = ad 6 ∧ tb0q1 = ad 7 ∧ tb0q2 = ad 8 ∧ tb0q3 = ad 9 ∧ tb0q4 = ad 10 ∧ tb0q5 = ad 11 ∧ tb0q6 = ad 12 ∧ tb1 = ad 13 ∧ tb1q1 = ad 14 ∧ tb1q2 = ad 15 ∧ tb1q3 = ad 16 ∧ tb1q4 = ad 17 ∧ tb1q5 = ad 18 ∧ tb1q6 = ad 19 ∧ tb2 = ad 20 ∧ tb2q1 = ad 21 ∧ tb2q2 = ad 22 ∧ tb2q3 = ad 23 ∧ tb2q4 = ad 24 ∧ tb2q5 = ad 25 ∧ tb2q6 = ad 26 ∧ tb3 = ad 27 ∧ tb3q1 = ad 28 ∧ tb3q2 = ad 29 ∧ tb3q3 = ad 30 ∧ tb3q4 = ad 31 ∧ tb3q5 = ad 32 ∧ tb3q6 = ad 33 ∧ tb4 = ad 34 ∧ tb4q1 = ad 35 ∧ tb4q2 = ad 36 ∧ tb4q3 = ad 37 ∧ tb4q4 = ad 38 ∧ tb4q5 = ad 39 ∧ tb4q6 = ad 40 ∧ tb5 = ad 41 ∧ tb5q1 = ad 42 ∧ tb5q2 = ad 43 ∧ tb5q3 = ad 44 ∧ tb5q4 = ad 45 ∧ tb5q5 = ad 46 ∧ tb5q6 = ad 47 ∧ md = ad 48 ∧ mq1 = ad 49 ∧ mq2 = ad 50 ∧ mq3 = ad 51 ∧ mq4 = ad 52 ∧ mq5 = ad 53 := ⟨fun k => ([tb, tcm, tsc, tch, ths, tsa, tb0, tb0q1, tb0q2, tb0q3, tb0q4, tb0q5, tb0q6, tb1, tb1q1, tb1q2, tb1q3, tb1q4, tb1q5, tb1q6, tb2, tb2q1, tb2q2, tb2q3, tb2q4, tb2q5, tb2q6, tb3, tb3q1, tb3q2, tb3q3, tb3q4, tb3q5, tb3q6, tb4, tb4q1, tb4q2, tb4q3, tb4q4, tb4q5, tb4q6, tb5, tb5q1, tb5q2, tb5q3, tb5q4, tb5q5, tb5q6, md, mq1, mq2, mq3, mq4, mq5] : List Nat).getD k 0, rfl, rfl, rfl, rfl, rfl, rfl, rfl, rfl, rfl, rfl, rfl, rfl, rfl, rfl, rfl, rfl, rfl, rfl, rfl, rfl, rfl, rfl, rfl, rfl, rfl, rfl, rfl, rfl, rfl, rfl, rfl, rfl, rfl, rfl, rfl, rfl, rfl, rfl, rfl, rfl, rfl, rfl, rfl, rfl, rfl, rfl, rfl, rfl, rfl, rfl, rfl, rfl, rfl, rfl⟩
  subst e0
  subst e1
  subst e2
  subst e3
  subst e4
  subst e5
  subst e6
  subst e7
  subst e8
  subst e9
  subst e10
  subst e11
  subst e12
  subst e13
  subst e14
  subst e15
  subst e16
  subst e17
  subst e18
  subst e19
  subst e20
  subst e21
  subst e22
  subst e23
  subst e24
  subst e25
  subst e26
  subst e27
  subst e28
  subst e29
  subst e30
  subst e31
  subst e32
  subst e33
  subst e34
  subst e35
  subst e36
  subst e37
  subst e38
  subst e39
  subst e40
  subst e41
  subst e42
  subst e43
  subst e44
  subst e45
  subst e46
  subst e47
  subst e48
  subst e49
  subst e50
  subst e51
  subst e52
  subst e53
  have hW : ∀ i, i < 54 → ∃ z, ([(ad 0, .inr (5, [.ref (ad 6), .ref (ad 13), .ref (ad 4), .ref (ad 2), .ref (ad 1), .int 0])), (ad 1, .inr (1, [.null, .int 0, .int 0, .int 0, .int 0, .int 0, .int 0])), (ad 2, .inr (4, [.ref (ad 3), .int 0])), (ad 3, .inl (cI, 30, .inl (fun _ => 0))), (ad 4, .inr (2, [.ref (ad 5), .int 0])), (ad 5, .inl (cB, 4, .inr (.inr (.inr (.inr (va_up (va_up (va_up (va_up (fun _ => none) (0 : Int32).toNatClampNeg (some (ad 20))) (1 : Int32).toNatClampNeg (some (ad 27))) (2 : Int32).toNatClampNeg (some (ad 34))) (3 : Int32).toNatClampNeg (some (ad 41)))))))), (ad 6, .inr (0, [.ref (ad 7), .ref (ad 9), .ref (ad 10), .ref (ad 11), .ref (ad 12), .int 4, .int 3, .int 0, .int 0, .int 20, .int 0, .int 0])), (ad 7, .inr (3, [.ref (ad 8)])), (ad 8, .inl (cI, 10, .inl tg0)), (ad 9, .inl (cI, 8, .inl (fun _ => 0))), (ad 10, .inl (cI, 8, .inl (fun _ => 0))), (ad 11, .inl (cI, 8, .inl (fun _ => 0))), (ad 12, .inl (cI, 8, .inl (fun _ => 0))), (ad 13, .inr (0, [.ref (ad 14), .ref (ad 16), .ref (ad 17), .ref (ad 18), .ref (ad 19), .int 4, .int 3, .int 0, .int 0, .int 20, .int 0, .int 0])), (ad 14, .inr (3, [.ref (ad 15)])), (ad 15, .inl (cI, 10, .inl tg1)), (ad 16, .inl (cI, 8, .inl (fun _ => 0))), (ad 17, .inl (cI, 8, .inl (fun _ => 0))), (ad 18, .inl (cI, 8, .inl (fun _ => 0))), (ad 19, .inl (cI, 8, .inl (fun _ => 0))), (ad 20, .inr (0, [.ref (ad 21), .ref (ad 23), .ref (ad 24), .ref (ad 25), .ref (ad 26), .int 4, .int 3, .int 0, .int 0, .int 20, .int 0, .int 0])), (ad 21, .inr (3, [.ref (ad 22)])), (ad 22, .inl (cI, 10, .inl tg2)), (ad 23, .inl (cI, 8, .inl (fun _ => 0))), (ad 24, .inl (cI, 8, .inl (fun _ => 0))), (ad 25, .inl (cI, 8, .inl (fun _ => 0))), (ad 26, .inl (cI, 8, .inl (fun _ => 0))), (ad 27, .inr (0, [.ref (ad 28), .ref (ad 30), .ref (ad 31), .ref (ad 32), .ref (ad 33), .int 4, .int 3, .int 0, .int 0, .int 20, .int 0, .int 0])), (ad 28, .inr (3, [.ref (ad 29)])), (ad 29, .inl (cI, 10, .inl tg3)), (ad 30, .inl (cI, 8, .inl (fun _ => 0))), (ad 31, .inl (cI, 8, .inl (fun _ => 0))), (ad 32, .inl (cI, 8, .inl (fun _ => 0))), (ad 33, .inl (cI, 8, .inl (fun _ => 0))), (ad 34, .inr (0, [.ref (ad 35), .ref (ad 37), .ref (ad 38), .ref (ad 39), .ref (ad 40), .int 4, .int 3, .int 0, .int 0, .int 20, .int 0, .int 0])), (ad 35, .inr (3, [.ref (ad 36)])), (ad 36, .inl (cI, 10, .inl tg4)), (ad 37, .inl (cI, 8, .inl (fun _ => 0))), (ad 38, .inl (cI, 8, .inl (fun _ => 0))), (ad 39, .inl (cI, 8, .inl (fun _ => 0))), (ad 40, .inl (cI, 8, .inl (fun _ => 0))), (ad 41, .inr (0, [.ref (ad 42), .ref (ad 44), .ref (ad 45), .ref (ad 46), .ref (ad 47), .int 4, .int 3, .int 0, .int 0, .int 20, .int 0, .int 0])), (ad 42, .inr (3, [.ref (ad 43)])), (ad 43, .inl (cI, 10, .inl tg5)), (ad 44, .inl (cI, 8, .inl (fun _ => 0))), (ad 45, .inl (cI, 8, .inl (fun _ => 0))), (ad 46, .inl (cI, 8, .inl (fun _ => 0))), (ad 47, .inl (cI, 8, .inl (fun _ => 0))), (ad 48, .inr (6, [.ref (ad 49), .ref (ad 50), .ref (ad 51), .int 0, .ref (ad 52), .int 0, .ref (ad 53), .int 0, .int 0, .int 0, .int 0, .int 0, .int 0])), (ad 49, .inl (cI, 49, .inl mg)), (ad 50, .inl (cI, 49, .inl (fun _ => 0))), (ad 51, .inl (cI, 49, .inl (fun _ => 0))), (ad 52, .inl (cI, 196, .inl (fun _ => 0))), (ad 53, .inl (cI, 30, .inl (fun _ => 0)))] : va_W)[i]? = some (ad i, z) := by
    intro i hi
    match i, hi with
    | 0, _ => exact ⟨_, rfl⟩
    | 1, _ => exact ⟨_, rfl⟩
    | 2, _ => exact ⟨_, rfl⟩
    | 3, _ => exact ⟨_, rfl⟩
    | 4, _ => exact ⟨_, rfl⟩
    | 5, _ => exact ⟨_, rfl⟩
    | 6, _ => exact ⟨_, rfl⟩
    | 7, _ => exact ⟨_, rfl⟩
    | 8, _ => exact ⟨_, rfl⟩
    | 9, _ => exact ⟨_, rfl⟩
    | 10, _ => exact ⟨_, rfl⟩
    | 11, _ => exact ⟨_, rfl⟩
    | 12, _ => exact ⟨_, rfl⟩
    | 13, _ => exact ⟨_, rfl⟩
    | 14, _ => exact ⟨_, rfl⟩
    | 15, _ => exact ⟨_, rfl⟩
    | 16, _ => exact ⟨_, rfl⟩
    | 17, _ => exact ⟨_, rfl⟩
    | 18, _ => exact ⟨_, rfl⟩
    | 19, _ => exact ⟨_, rfl⟩
    | 20, _ => exact ⟨_, rfl⟩
    | 21, _ => exact ⟨_, rfl⟩
    | 22, _ => exact ⟨_, rfl⟩
    | 23, _ => exact ⟨_, rfl⟩
    | 24, _ => exact ⟨_, rfl⟩
    | 25, _ => exact ⟨_, rfl⟩
    | 26, _ => exact ⟨_, rfl⟩
    | 27, _ => exact ⟨_, rfl⟩
    | 28, _ => exact ⟨_, rfl⟩
    | 29, _ => exact ⟨_, rfl⟩
    | 30, _ => exact ⟨_, rfl⟩
    | 31, _ => exact ⟨_, rfl⟩
    | 32, _ => exact ⟨_, rfl⟩
    | 33, _ => exact ⟨_, rfl⟩
    | 34, _ => exact ⟨_, rfl⟩
    | 35, _ => exact ⟨_, rfl⟩
    | 36, _ => exact ⟨_, rfl⟩
    | 37, _ => exact ⟨_, rfl⟩
    | 38, _ => exact ⟨_, rfl⟩
    | 39, _ => exact ⟨_, rfl⟩
    | 40, _ => exact ⟨_, rfl⟩
    | 41, _ => exact ⟨_, rfl⟩
    | 42, _ => exact ⟨_, rfl⟩
    | 43, _ => exact ⟨_, rfl⟩
    | 44, _ => exact ⟨_, rfl⟩
    | 45, _ => exact ⟨_, rfl⟩
    | 46, _ => exact ⟨_, rfl⟩
    | 47, _ => exact ⟨_, rfl⟩
    | 48, _ => exact ⟨_, rfl⟩
    | 49, _ => exact ⟨_, rfl⟩
    | 50, _ => exact ⟨_, rfl⟩
    | 51, _ => exact ⟨_, rfl⟩
    | 52, _ => exact ⟨_, rfl⟩
    | 53, _ => exact ⟨_, rfl⟩
    | i + 54, h => exact absurd h (by omega)
  have hAd : adOk ad A := by
    refine ⟨fun i j hi hj h => ?_, fun i hi => ?_⟩
    · obtain ⟨z1, h1⟩ := hW i hi
      obtain ⟨z2, h2⟩ := hW j hj
      exact hD.1 i j _ _ h1 h2 h
    · obtain ⟨z1, h1⟩ := hW i hi
      exact hD.2 i _ h1
  obtain ⟨V, r0, r1, r2, r3, r4, r5, r6, r7, r8, r9, r10, r11, r12, r13, r14, r15, r16, r17, r18, r19, r20, r21, r22, r23, r24, r25, r26, r27, r28, r29, r30, r31, r32, r33, r34, r35, r36, r37, r38, r39, r40, r41, r42, r43, r44, r45, r46, r47, r48, r49, r50, r51, r52, r53⟩ : ∃ V : VT, V 0 = (fun _ => 0) ∧ V 1 = (fun _ => 0) ∧ V 2 = (fun _ => 0) ∧ V 3 = (fun _ => 0) ∧ V 4 = (fun _ => 0) ∧ V 5 = (fun k => nI (k + 2)) ∧ V 6 = (fun i => if i = 2 then 20 else if i = 5 then 4 else if i = 6 then 3 else 0) ∧ V 7 = (fun _ => 0) ∧ V 8 = tg0 ∧ V 9 = (fun _ => 0) ∧ V 10 = (fun _ => 0) ∧ V 11 = (fun _ => 0) ∧ V 12 = (fun _ => 0) ∧ V 13 = (fun i => if i = 2 then 20 else if i = 5 then 4 else if i = 6 then 3 else 0) ∧ V 14 = (fun _ => 0) ∧ V 15 = tg1 ∧ V 16 = (fun _ => 0) ∧ V 17 = (fun _ => 0) ∧ V 18 = (fun _ => 0) ∧ V 19 = (fun _ => 0) ∧ V 20 = (fun i => if i = 2 then 20 else if i = 5 then 4 else if i = 6 then 3 else 0) ∧ V 21 = (fun _ => 0) ∧ V 22 = tg2 ∧ V 23 = (fun _ => 0) ∧ V 24 = (fun _ => 0) ∧ V 25 = (fun _ => 0) ∧ V 26 = (fun _ => 0) ∧ V 27 = (fun i => if i = 2 then 20 else if i = 5 then 4 else if i = 6 then 3 else 0) ∧ V 28 = (fun _ => 0) ∧ V 29 = tg3 ∧ V 30 = (fun _ => 0) ∧ V 31 = (fun _ => 0) ∧ V 32 = (fun _ => 0) ∧ V 33 = (fun _ => 0) ∧ V 34 = (fun i => if i = 2 then 20 else if i = 5 then 4 else if i = 6 then 3 else 0) ∧ V 35 = (fun _ => 0) ∧ V 36 = tg4 ∧ V 37 = (fun _ => 0) ∧ V 38 = (fun _ => 0) ∧ V 39 = (fun _ => 0) ∧ V 40 = (fun _ => 0) ∧ V 41 = (fun i => if i = 2 then 20 else if i = 5 then 4 else if i = 6 then 3 else 0) ∧ V 42 = (fun _ => 0) ∧ V 43 = tg5 ∧ V 44 = (fun _ => 0) ∧ V 45 = (fun _ => 0) ∧ V 46 = (fun _ => 0) ∧ V 47 = (fun _ => 0) ∧ V 48 = (fun _ => 0) ∧ V 49 = mg ∧ V 50 = (fun _ => 0) ∧ V 51 = (fun _ => 0) ∧ V 52 = (fun _ => 0) ∧ V 53 = (fun _ => 0) := ⟨fun k => ([(fun _ => 0), (fun _ => 0), (fun _ => 0), (fun _ => 0), (fun _ => 0), (fun k => nI (k + 2)), (fun i => if i = 2 then 20 else if i = 5 then 4 else if i = 6 then 3 else 0), (fun _ => 0), tg0, (fun _ => 0), (fun _ => 0), (fun _ => 0), (fun _ => 0), (fun i => if i = 2 then 20 else if i = 5 then 4 else if i = 6 then 3 else 0), (fun _ => 0), tg1, (fun _ => 0), (fun _ => 0), (fun _ => 0), (fun _ => 0), (fun i => if i = 2 then 20 else if i = 5 then 4 else if i = 6 then 3 else 0), (fun _ => 0), tg2, (fun _ => 0), (fun _ => 0), (fun _ => 0), (fun _ => 0), (fun i => if i = 2 then 20 else if i = 5 then 4 else if i = 6 then 3 else 0), (fun _ => 0), tg3, (fun _ => 0), (fun _ => 0), (fun _ => 0), (fun _ => 0), (fun i => if i = 2 then 20 else if i = 5 then 4 else if i = 6 then 3 else 0), (fun _ => 0), tg4, (fun _ => 0), (fun _ => 0), (fun _ => 0), (fun _ => 0), (fun i => if i = 2 then 20 else if i = 5 then 4 else if i = 6 then 3 else 0), (fun _ => 0), tg5, (fun _ => 0), (fun _ => 0), (fun _ => 0), (fun _ => 0), (fun _ => 0), mg, (fun _ => 0), (fun _ => 0), (fun _ => 0), (fun _ => 0)] : List (Nat → Int32)).getD k (fun _ => 0), rfl, rfl, rfl, rfl, rfl, rfl, rfl, rfl, rfl, rfl, rfl, rfl, rfl, rfl, rfl, rfl, rfl, rfl, rfl, rfl, rfl, rfl, rfl, rfl, rfl, rfl, rfl, rfl, rfl, rfl, rfl, rfl, rfl, rfl, rfl, rfl, rfl, rfl, rfl, rfl, rfl, rfl, rfl, rfl, rfl, rfl, rfl, rfl, rfl, rfl, rfl, rfl, rfl, rfl⟩
  have hPV : wP D cI cB ad V H := by
    intro k q hq
    obtain ⟨hk, rfl⟩ := wl_inv hq
    match k, hk with
    | 0, _ =>
      show va_at D vwCl (ad 0, cellOf ad cI cB 0 (V 0)) H
      rw [r0]
      exact hP 0 _ rfl
    | 1, _ =>
      show va_at D vwCl (ad 1, cellOf ad cI cB 1 (V 1)) H
      rw [r1]
      exact hP 1 _ rfl
    | 2, _ =>
      show va_at D vwCl (ad 2, cellOf ad cI cB 2 (V 2)) H
      rw [r2]
      exact hP 2 _ rfl
    | 3, _ =>
      show va_at D vwCl (ad 3, cellOf ad cI cB 3 (V 3)) H
      rw [r3]
      exact hP 3 _ rfl
    | 4, _ =>
      show va_at D vwCl (ad 4, cellOf ad cI cB 4 (V 4)) H
      rw [r4]
      exact hP 4 _ rfl
    | 5, _ =>
      have h5 : H[ad 5]? = some (vp_cell cB (4, .inr (.inr (.inr (.inr (va_up (va_up (va_up (va_up (fun _ => none) (0 : Int32).toNatClampNeg (some (ad 20))) (1 : Int32).toNatClampNeg (some (ad 27))) (2 : Int32).toNatClampNeg (some (ad 34))) (3 : Int32).toNatClampNeg (some (ad 41)))))))) := hP 5 _ rfl
      show H[ad 5]? = some (vp_cell cB (4, .inr (.inr (.inr (.inr (fun k => some (ad (6 + 7 * (V 5 k).toNatClampNeg))))))))
      rw [h5]
      refine congrArg some (vq_cong cB 4 (fun k hk => ?_))
      match k, hk with
      | 0, _ =>
        have w5 : V 5 0 = nI 2 := congrFun r5 0
        rw [w5, nI_clamp (by decide)]
        rfl
      | 1, _ =>
        have w5 : V 5 1 = nI 3 := congrFun r5 1
        rw [w5, nI_clamp (by decide)]
        rfl
      | 2, _ =>
        have w5 : V 5 2 = nI 4 := congrFun r5 2
        rw [w5, nI_clamp (by decide)]
        rfl
      | 3, _ =>
        have w5 : V 5 3 = nI 5 := congrFun r5 3
        rw [w5, nI_clamp (by decide)]
        rfl
      | k + 4, h => exact absurd h (by omega)
    | 6, _ =>
      show va_at D vwCl (ad 6, cellOf ad cI cB 6 (V 6)) H
      rw [r6]
      exact hP 6 _ rfl
    | 7, _ =>
      show va_at D vwCl (ad 7, cellOf ad cI cB 7 (V 7)) H
      rw [r7]
      exact hP 7 _ rfl
    | 8, _ =>
      show va_at D vwCl (ad 8, cellOf ad cI cB 8 (V 8)) H
      rw [r8]
      exact hP 8 _ rfl
    | 9, _ =>
      show va_at D vwCl (ad 9, cellOf ad cI cB 9 (V 9)) H
      rw [r9]
      exact hP 9 _ rfl
    | 10, _ =>
      show va_at D vwCl (ad 10, cellOf ad cI cB 10 (V 10)) H
      rw [r10]
      exact hP 10 _ rfl
    | 11, _ =>
      show va_at D vwCl (ad 11, cellOf ad cI cB 11 (V 11)) H
      rw [r11]
      exact hP 11 _ rfl
    | 12, _ =>
      show va_at D vwCl (ad 12, cellOf ad cI cB 12 (V 12)) H
      rw [r12]
      exact hP 12 _ rfl
    | 13, _ =>
      show va_at D vwCl (ad 13, cellOf ad cI cB 13 (V 13)) H
      rw [r13]
      exact hP 13 _ rfl
    | 14, _ =>
      show va_at D vwCl (ad 14, cellOf ad cI cB 14 (V 14)) H
      rw [r14]
      exact hP 14 _ rfl
    | 15, _ =>
      show va_at D vwCl (ad 15, cellOf ad cI cB 15 (V 15)) H
      rw [r15]
      exact hP 15 _ rfl
    | 16, _ =>
      show va_at D vwCl (ad 16, cellOf ad cI cB 16 (V 16)) H
      rw [r16]
      exact hP 16 _ rfl
    | 17, _ =>
      show va_at D vwCl (ad 17, cellOf ad cI cB 17 (V 17)) H
      rw [r17]
      exact hP 17 _ rfl
    | 18, _ =>
      show va_at D vwCl (ad 18, cellOf ad cI cB 18 (V 18)) H
      rw [r18]
      exact hP 18 _ rfl
    | 19, _ =>
      show va_at D vwCl (ad 19, cellOf ad cI cB 19 (V 19)) H
      rw [r19]
      exact hP 19 _ rfl
    | 20, _ =>
      show va_at D vwCl (ad 20, cellOf ad cI cB 20 (V 20)) H
      rw [r20]
      exact hP 20 _ rfl
    | 21, _ =>
      show va_at D vwCl (ad 21, cellOf ad cI cB 21 (V 21)) H
      rw [r21]
      exact hP 21 _ rfl
    | 22, _ =>
      show va_at D vwCl (ad 22, cellOf ad cI cB 22 (V 22)) H
      rw [r22]
      exact hP 22 _ rfl
    | 23, _ =>
      show va_at D vwCl (ad 23, cellOf ad cI cB 23 (V 23)) H
      rw [r23]
      exact hP 23 _ rfl
    | 24, _ =>
      show va_at D vwCl (ad 24, cellOf ad cI cB 24 (V 24)) H
      rw [r24]
      exact hP 24 _ rfl
    | 25, _ =>
      show va_at D vwCl (ad 25, cellOf ad cI cB 25 (V 25)) H
      rw [r25]
      exact hP 25 _ rfl
    | 26, _ =>
      show va_at D vwCl (ad 26, cellOf ad cI cB 26 (V 26)) H
      rw [r26]
      exact hP 26 _ rfl
    | 27, _ =>
      show va_at D vwCl (ad 27, cellOf ad cI cB 27 (V 27)) H
      rw [r27]
      exact hP 27 _ rfl
    | 28, _ =>
      show va_at D vwCl (ad 28, cellOf ad cI cB 28 (V 28)) H
      rw [r28]
      exact hP 28 _ rfl
    | 29, _ =>
      show va_at D vwCl (ad 29, cellOf ad cI cB 29 (V 29)) H
      rw [r29]
      exact hP 29 _ rfl
    | 30, _ =>
      show va_at D vwCl (ad 30, cellOf ad cI cB 30 (V 30)) H
      rw [r30]
      exact hP 30 _ rfl
    | 31, _ =>
      show va_at D vwCl (ad 31, cellOf ad cI cB 31 (V 31)) H
      rw [r31]
      exact hP 31 _ rfl
    | 32, _ =>
      show va_at D vwCl (ad 32, cellOf ad cI cB 32 (V 32)) H
      rw [r32]
      exact hP 32 _ rfl
    | 33, _ =>
      show va_at D vwCl (ad 33, cellOf ad cI cB 33 (V 33)) H
      rw [r33]
      exact hP 33 _ rfl
    | 34, _ =>
      show va_at D vwCl (ad 34, cellOf ad cI cB 34 (V 34)) H
      rw [r34]
      exact hP 34 _ rfl
    | 35, _ =>
      show va_at D vwCl (ad 35, cellOf ad cI cB 35 (V 35)) H
      rw [r35]
      exact hP 35 _ rfl
    | 36, _ =>
      show va_at D vwCl (ad 36, cellOf ad cI cB 36 (V 36)) H
      rw [r36]
      exact hP 36 _ rfl
    | 37, _ =>
      show va_at D vwCl (ad 37, cellOf ad cI cB 37 (V 37)) H
      rw [r37]
      exact hP 37 _ rfl
    | 38, _ =>
      show va_at D vwCl (ad 38, cellOf ad cI cB 38 (V 38)) H
      rw [r38]
      exact hP 38 _ rfl
    | 39, _ =>
      show va_at D vwCl (ad 39, cellOf ad cI cB 39 (V 39)) H
      rw [r39]
      exact hP 39 _ rfl
    | 40, _ =>
      show va_at D vwCl (ad 40, cellOf ad cI cB 40 (V 40)) H
      rw [r40]
      exact hP 40 _ rfl
    | 41, _ =>
      show va_at D vwCl (ad 41, cellOf ad cI cB 41 (V 41)) H
      rw [r41]
      exact hP 41 _ rfl
    | 42, _ =>
      show va_at D vwCl (ad 42, cellOf ad cI cB 42 (V 42)) H
      rw [r42]
      exact hP 42 _ rfl
    | 43, _ =>
      show va_at D vwCl (ad 43, cellOf ad cI cB 43 (V 43)) H
      rw [r43]
      exact hP 43 _ rfl
    | 44, _ =>
      show va_at D vwCl (ad 44, cellOf ad cI cB 44 (V 44)) H
      rw [r44]
      exact hP 44 _ rfl
    | 45, _ =>
      show va_at D vwCl (ad 45, cellOf ad cI cB 45 (V 45)) H
      rw [r45]
      exact hP 45 _ rfl
    | 46, _ =>
      show va_at D vwCl (ad 46, cellOf ad cI cB 46 (V 46)) H
      rw [r46]
      exact hP 46 _ rfl
    | 47, _ =>
      show va_at D vwCl (ad 47, cellOf ad cI cB 47 (V 47)) H
      rw [r47]
      exact hP 47 _ rfl
    | 48, _ =>
      show va_at D vwCl (ad 48, cellOf ad cI cB 48 (V 48)) H
      rw [r48]
      exact hP 48 _ rfl
    | 49, _ =>
      show va_at D vwCl (ad 49, cellOf ad cI cB 49 (V 49)) H
      rw [r49]
      exact hP 49 _ rfl
    | 50, _ =>
      show va_at D vwCl (ad 50, cellOf ad cI cB 50 (V 50)) H
      rw [r50]
      exact hP 50 _ rfl
    | 51, _ =>
      show va_at D vwCl (ad 51, cellOf ad cI cB 51 (V 51)) H
      rw [r51]
      exact hP 51 _ rfl
    | 52, _ =>
      show va_at D vwCl (ad 52, cellOf ad cI cB 52 (V 52)) H
      rw [r52]
      exact hP 52 _ rfl
    | 53, _ =>
      show va_at D vwCl (ad 53, cellOf ad cI cB 53 (V 53)) H
      rw [r53]
      exact hP 53 _ rfl
    | k + 54, h => exact absurd h (by omega)
  have hRel : RelV V := by
    exact rel_0 (congrFun r0 0) (fun j _ => congrFun r48 j) (congrFun r2 0) (congrFun r4 0) (fun k _ => congrFun r5 k) (congrFun r6 0) (congrFun r6 1) (congrFun r6 2) (congrFun r6 3) (congrFun r6 4) (fun i hi => (congrFun r8 i).trans (f1 i hi)) (fun i _ => congrFun r9 i) (fun i _ => congrFun r10 i) (congrFun r6 5) (congrFun r6 6) (fun i hi => (congrFun r49 i).trans (mgf i hi))
  exact ⟨ad, V, hPV, hAd, hRel, rfl, rfl⟩
