/-! bits of signs: dark cells, turned signs -/
theorem fa_and (a b : Nat) : nI a &&& nI b = nI (a &&& b) := by
  apply Int32.toBitVec_inj.1
  show BitVec.ofNat 32 a &&& BitVec.ofNat 32 b = BitVec.ofNat 32 (a &&& b)
  apply BitVec.eq_of_getLsbD_eq
  intro i hi
  simp [hi]
theorem fa_or (a b : Nat) : nI a ||| nI b = nI (a ||| b) := by
  apply Int32.toBitVec_inj.1
  show BitVec.ofNat 32 a ||| BitVec.ofNat 32 b = BitVec.ofNat 32 (a ||| b)
  apply BitVec.eq_of_getLsbD_eq
  intro i hi
  simp [hi]
theorem nx_xor (a b : Nat) : nI a ^^^ nI b = nI (a ^^^ b) := by
  apply Int32.toBitVec_inj.1
  show BitVec.ofNat 32 a ^^^ BitVec.ofNat 32 b = BitVec.ofNat 32 (a ^^^ b)
  apply BitVec.eq_of_getLsbD_eq
  intro i hi
  simp [hi]
theorem s_l : ∀ n, n < 32 → ((nI n &&& 31).toBitVec.smod 32).toNat = n := by decide +kernel
theorem s_u : ∀ n, n < 32 → (((nI n).toUInt32 &&& Int32.toUInt32 31).toBitVec % 32).toNat = n := by decide +kernel
def FU : Nat := 70000
def pcN (x : Nat) : Nat := (Nat.add (Nat.add (Nat.add (Nat.add (Nat.add (Nat.add (Nat.add (Nat.add (Nat.add (Nat.add (Nat.add (Nat.add (Nat.add (Nat.add (Nat.mod x 2) (Nat.mod (Nat.div x 2) 2)) (Nat.mod (Nat.div x 4) 2)) (Nat.mod (Nat.div x 8) 2)) (Nat.mod (Nat.div x 16) 2)) (Nat.mod (Nat.div x 32) 2)) (Nat.mod (Nat.div x 64) 2)) (Nat.mod (Nat.div x 128) 2)) (Nat.mod (Nat.div x 256) 2)) (Nat.mod (Nat.div x 512) 2)) (Nat.mod (Nat.div x 1024) 2)) (Nat.mod (Nat.div x 2048) 2)) (Nat.mod (Nat.div x 4096) 2)) (Nat.mod (Nat.div x 8192) 2)) (Nat.mod (Nat.div x 16384) 2))
def tnN (x : Nat) : Nat := (Nat.add (Nat.add (Nat.add (Nat.add (Nat.add (Nat.add (Nat.add (Nat.add (Nat.add (Nat.add (Nat.add (Nat.add (Nat.add (Nat.add (Nat.mul (Nat.mod x 2) 16384) (Nat.mul (Nat.mod (Nat.div x 2) 2) 8192)) (Nat.mul (Nat.mod (Nat.div x 4) 2) 4096)) (Nat.mul (Nat.mod (Nat.div x 8) 2) 2048)) (Nat.mul (Nat.mod (Nat.div x 16) 2) 1024)) (Nat.mul (Nat.mod (Nat.div x 32) 2) 512)) (Nat.mul (Nat.mod (Nat.div x 64) 2) 256)) (Nat.mul (Nat.mod (Nat.div x 128) 2) 128)) (Nat.mul (Nat.mod (Nat.div x 256) 2) 64)) (Nat.mul (Nat.mod (Nat.div x 512) 2) 32)) (Nat.mul (Nat.mod (Nat.div x 1024) 2) 16)) (Nat.mul (Nat.mod (Nat.div x 2048) 2) 8)) (Nat.mul (Nat.mod (Nat.div x 4096) 2) 4)) (Nat.mul (Nat.mod (Nat.div x 8192) 2) 2)) (Nat.mul (Nat.mod (Nat.div x 16384) 2) 1))
def sw1 (x : Nat) : Nat := x - ((x / 2) &&& 1431655765)
def sw2 (x : Nat) : Nat := (x &&& 858993459) + ((x / 4) &&& 858993459)
def sw3 (x : Nat) : Nat := (x + x / 16) &&& 252645135
def sw4 (x : Nat) : Nat := x + x / 256
def sw5 (x : Nat) : Nat := x + x / 65536
def swN (x : Nat) : Nat := sw5 (sw4 (sw3 (sw2 (sw1 x)))) &&& 63
def mr1 (x : Nat) : Nat := ((x &&& 21845) * 2) ||| ((x / 2) &&& 21845)
def mr2 (x : Nat) : Nat := ((x &&& 13107) * 4) ||| ((x / 4) &&& 13107)
def mr3 (x : Nat) : Nat := ((x &&& 3855) * 16) ||| ((x / 16) &&& 3855)
def mr4 (x : Nat) : Nat := ((x &&& 255) * 256) ||| ((x / 256) &&& 255)
def mrN (x : Nat) : Nat := mr4 (mr3 (mr2 (mr1 x))) / 2
def tr (x : Nat) : Nat → Nat
  | 0 => 0
  | k + 1 => tr x k ||| (((x / 2 ^ k) &&& 1) * 2 ^ (14 - k))
def swA (x : Nat) : Nat := Nat.sub x (Nat.land (Nat.div x 2) 1431655765)
def swB (x : Nat) : Nat := Nat.add (Nat.land x 858993459) (Nat.land (Nat.div x 4) 858993459)
def swC (x : Nat) : Nat := Nat.land (Nat.add x (Nat.div x 16)) 252645135
def swD (x : Nat) : Nat := Nat.add x (Nat.div x 256)
def swE (x : Nat) : Nat := Nat.add x (Nat.div x 65536)
def mrA (x : Nat) : Nat := Nat.lor (Nat.mul (Nat.land x 21845) 2) (Nat.land (Nat.div x 2) 21845)
def mrB (x : Nat) : Nat := Nat.lor (Nat.mul (Nat.land x 13107) 4) (Nat.land (Nat.div x 4) 13107)
def mrC (x : Nat) : Nat := Nat.lor (Nat.mul (Nat.land x 3855) 16) (Nat.land (Nat.div x 16) 3855)
def mrD (x : Nat) : Nat := Nat.lor (Nat.mul (Nat.land x 255) 256) (Nat.land (Nat.div x 256) 255)
def mrK (x : Nat) : Nat := Nat.div (mrD (mrC (mrB (mrA x)))) 2
def orK (x : Nat) : Nat := (Nat.lor (Nat.lor (Nat.lor (Nat.lor (Nat.lor (Nat.lor (Nat.lor (Nat.lor (Nat.lor (Nat.lor (Nat.lor (Nat.lor (Nat.lor (Nat.lor (Nat.lor 0 (Nat.mul (Nat.land (Nat.div x 1) 1) 16384)) (Nat.mul (Nat.land (Nat.div x 2) 1) 8192)) (Nat.mul (Nat.land (Nat.div x 4) 1) 4096)) (Nat.mul (Nat.land (Nat.div x 8) 1) 2048)) (Nat.mul (Nat.land (Nat.div x 16) 1) 1024)) (Nat.mul (Nat.land (Nat.div x 32) 1) 512)) (Nat.mul (Nat.land (Nat.div x 64) 1) 256)) (Nat.mul (Nat.land (Nat.div x 128) 1) 128)) (Nat.mul (Nat.land (Nat.div x 256) 1) 64)) (Nat.mul (Nat.land (Nat.div x 512) 1) 32)) (Nat.mul (Nat.land (Nat.div x 1024) 1) 16)) (Nat.mul (Nat.land (Nat.div x 2048) 1) 8)) (Nat.mul (Nat.land (Nat.div x 4096) 1) 4)) (Nat.mul (Nat.land (Nat.div x 8192) 1) 2)) (Nat.mul (Nat.land (Nat.div x 16384) 1) 1))
def swK (x : Nat) : Nat := Nat.land (swE (swD (swC (swB (swA x))))) 63
def bitsOk (x : Nat) : Bool := (Nat.beq (swK x) (pcN x)).and ((Nat.beq (mrK x) (tnN x)).and ((Nat.beq (orK x) (tnN x)).and ((Nat.ble (Nat.succ (tnN x)) 32768).and ((Nat.beq (tnN (tnN x)) x).and (((Nat.beq x 0).or (Nat.beq (Nat.succ (pcN (Nat.land x (Nat.sub x 1)))) (pcN x))).and ((Nat.ble (pcN x) 15).and (Nat.beq (pcN (tnN x)) (pcN x))))))))
def all2 (f : Nat → Bool) : Nat → Nat → Bool
  | 0, x => f x
  | n + 1, x => (all2 f n (2 * x)).and (all2 f n (2 * x + 1))
theorem all2_ok (f : Nat → Bool) : ∀ (n x : Nat), all2 f n x = true → ∀ y, x * 2 ^ n ≤ y → y < (x + 1) * 2 ^ n → f y = true := by
  intro n
  induction n with
  | zero =>
    intro x h y h1 h2
    have : y = x := by omega
    subst this
    exact h
  | succ n ih =>
    intro x h y h1 h2
    rw [all2, Bool.and_eq_true] at h
    rw [Nat.pow_succ] at h1 h2
    rcases Nat.lt_or_ge y ((2 * x + 1) * 2 ^ n) with q | q
    · exact ih (2 * x) h.1 y (by rw [Nat.mul_comm 2 x, Nat.mul_assoc, Nat.mul_comm 2]; exact h1) q
    · exact ih (2 * x + 1) h.2 y q (by
        have e : (2 * x + 1 + 1) * 2 ^ n = (x + 1) * (2 ^ n * 2) := by
          rw [Nat.mul_comm (2 ^ n) 2, ← Nat.mul_assoc]
          congr 1
          omega
        rw [e]; exact h2)
set_option maxRecDepth 100000 in
theorem bits_all : all2 bitsOk 15 0 = true := by decide +kernel
theorem bits_ok {x : Nat} (h : x < 32768) : swN x = pcN x ∧ mrN x = tnN x ∧ tr x 15 = tnN x ∧ tnN x < 32768 ∧ tnN (tnN x) = x ∧ (x ≠ 0 → pcN (x &&& (x - 1)) + 1 = pcN x) ∧ pcN x ≤ 15 ∧ pcN (tnN x) = pcN x := by
  have h0 : bitsOk x = true := all2_ok bitsOk 15 0 bits_all x (by omega) (by omega)
  unfold bitsOk at h0
  simp only [Bool.and_eq_true, Bool.or_eq_true] at h0
  obtain ⟨h1, h2, h3, h4, h5, h6, h7, h8⟩ := h0
  exact ⟨Nat.eq_of_beq_eq_true h1, Nat.eq_of_beq_eq_true h2, Nat.eq_of_beq_eq_true h3, Nat.le_of_ble_eq_true h4, Nat.eq_of_beq_eq_true h5, fun hx => Nat.eq_of_beq_eq_true (h6.resolve_left (fun z => hx (Nat.eq_of_beq_eq_true z))), Nat.le_of_ble_eq_true h7, Nat.eq_of_beq_eq_true h8⟩
theorem ju_n {n : Nat} (hn : n < 2 ^ 32) (s : Int32) (k : Nat) (hs : ((s.toUInt32 &&& Int32.toUInt32 31).toBitVec % 32).toNat = k) : jushr (nI n) s = nI (n / 2 ^ k) := pk_ushrN hn s k hs
theorem and_l (a b : Nat) : a &&& b ≤ a := Nat.and_le_left
theorem and_r (a b : Nat) : a &&& b ≤ b := Nat.and_le_right
theorem bc_n (V : VT) {x : Nat} (h : x < 32768) : f_J6_bitCount_0f7a4 V (nI x) = nI (pcN x) := by
  have e1 : nI x - (jushr (nI x) 1 &&& 1431655765) = nI (sw1 x) := by
    rw [ju_n (by omega) 1 1 (by decide), show (1431655765 : Int32) = nI 1431655765 from rfl, fa_and, pk_sub (Nat.le_trans (and_l _ _) (Nat.div_le_self _ _))]
    rfl
  have b1 : sw1 x ≤ x := Nat.sub_le _ _
  have e2 : a_J6_bitCount_0f7a4_23 (nI x) = nI (sw2 (sw1 x)) := by
    unfold a_J6_bitCount_0f7a4_23
    rw [e1, ju_n (by omega) 2 2 (by decide), show (858993459 : Int32) = nI 858993459 from rfl, fa_and, fa_and, nI_add]
    rfl
  have b2 : sw2 (sw1 x) ≤ 65536 := by
    have := and_l (sw1 x) 858993459
    have := and_l (sw1 x / 4) 858993459
    unfold sw2
    omega
  have e3 : a_J6_bitCount_0f7a4_33 (nI x) = nI (sw3 (sw2 (sw1 x))) := by
    unfold a_J6_bitCount_0f7a4_33
    rw [e2, ju_n (by omega) 4 4 (by decide), show (252645135 : Int32) = nI 252645135 from rfl, nI_add, fa_and]
    rfl
  have b3 : sw3 (sw2 (sw1 x)) ≤ 131072 := by
    have := and_l (sw2 (sw1 x) + sw2 (sw1 x) / 16) 252645135
    unfold sw3
    omega
  have e4 : a_J6_bitCount_0f7a4_40 (nI x) = nI (sw4 (sw3 (sw2 (sw1 x)))) := by
    unfold a_J6_bitCount_0f7a4_40
    rw [e3, ju_n (by omega) 8 8 (by decide), nI_add]
    rfl
  have b4 : sw4 (sw3 (sw2 (sw1 x))) ≤ 262144 := by
    unfold sw4
    omega
  have e5 : a_J6_bitCount_0f7a4_47 (nI x) = nI (sw5 (sw4 (sw3 (sw2 (sw1 x))))) := by
    unfold a_J6_bitCount_0f7a4_47
    rw [e4, ju_n (by omega) 16 16 (by decide), nI_add]
    rfl
  unfold f_J6_bitCount_0f7a4
  rw [e5, show (63 : Int32) = nI 63 from rfl, fa_and]
  exact congrArg nI (bits_ok h).1
theorem shl_n {n : Nat} (s : Int32) (k : Nat) (hs : (s.toBitVec.smod 32).toNat = k) (h : n * 2 ^ k < 2 ^ 32) : nI n <<< s = nI (n * 2 ^ k) := pk_shlN s k hs h
theorem or_lt {a b : Nat} (n : Nat) (ha : a < 2 ^ n) (hb : b < 2 ^ n) : a ||| b < 2 ^ n := Nat.or_lt_two_pow ha hb
theorem turn_n (V : VT) {x : Nat} (h : x < 32768) : f_X6_turn V (nI x) = nI (tnN x) := by
  have e1 : a_X6_turn_15 (nI x) = nI (mr1 x) := by
    unfold a_X6_turn_15
    have := and_l x 21845
    rw [show (21845 : Int32) = nI 21845 from rfl, fa_and, shl_n (1 &&& 31) 1 (by decide) (by omega), ju_n (by omega) 1 1 (by decide), fa_and, fa_or]
    rfl
  have b1 : mr1 x < 2 ^ 16 := or_lt 16 (by have := and_l x 21845; omega) (by have := and_r (x / 2) 21845; omega)
  have e2 : a_X6_turn_31 (nI x) = nI (mr2 (mr1 x)) := by
    unfold a_X6_turn_31
    have := and_l (mr1 x) 13107
    rw [e1, show (13107 : Int32) = nI 13107 from rfl, fa_and, shl_n (2 &&& 31) 2 (by decide) (by omega), ju_n (by omega) 2 2 (by decide), fa_and, fa_or]
    rfl
  have b2 : mr2 (mr1 x) < 2 ^ 16 := or_lt 16 (by have := and_r (mr1 x) 13107; omega) (by have := and_r (mr1 x / 4) 13107; omega)
  have e3 : a_X6_turn_47 (nI x) = nI (mr3 (mr2 (mr1 x))) := by
    unfold a_X6_turn_47
    have := and_l (mr2 (mr1 x)) 3855
    rw [e2, show (3855 : Int32) = nI 3855 from rfl, fa_and, shl_n (4 &&& 31) 4 (by decide) (by omega), ju_n (by omega) 4 4 (by decide), fa_and, fa_or]
    rfl
  have b3 : mr3 (mr2 (mr1 x)) < 2 ^ 16 := or_lt 16 (by have := and_r (mr2 (mr1 x)) 3855; omega) (by have := and_r (mr2 (mr1 x) / 16) 3855; omega)
  have e4 : a_X6_turn_65 (nI x) = nI (mr4 (mr3 (mr2 (mr1 x)))) := by
    unfold a_X6_turn_65
    have := and_l (mr3 (mr2 (mr1 x))) 255
    rw [e3, show (255 : Int32) = nI 255 from rfl, fa_and, shl_n (8 &&& 31) 8 (by decide) (by omega), ju_n (by omega) 8 8 (by decide), fa_and, fa_or]
    rfl
  have b4 : mr4 (mr3 (mr2 (mr1 x))) < 2 ^ 16 := or_lt 16 (by have := and_r (mr3 (mr2 (mr1 x))) 255; omega) (by have := and_r (mr3 (mr2 (mr1 x)) / 256) 255; omega)
  unfold f_X6_turn
  rw [e4, ju_n (by omega) 1 1 (by decide)]
  exact congrArg nI (bits_ok h).2.1
theorem dark_l (fu : Nat) (V : VT) (q : Int32) : ∀ (w x c : Nat), x < 32768 → pcN x < w → p_X8_dark_l1 fu V q w (nI c) (nI x) ∧ f_X8_dark_l1 fu V q w (nI c) (nI x) = nI (c + pcN x) := by
  intro w
  induction w with
  | zero => intro x c hx h; omega
  | succ w ih =>
    intro x c hx h
    rw [f_X8_dark_l1, p_X8_dark_l1]
    rcases Nat.eq_zero_or_pos x with h0 | h0
    · subst h0
      rw [if_pos nI_0]
      exact ⟨⟨fun _ => trivial, fun z => absurd nI_0 z⟩, rfl⟩
    · have hc : ¬ nI x = 0 := nI_ne0 h0 (by omega)
      have e : nI x &&& (nI x - 1) = nI (x &&& (x - 1)) := by
        rw [show (1 : Int32) = nI 1 from rfl, pk_sub h0, fa_and]
      have hp := (bits_ok hx).2.2.2.2.2.1 (by omega)
      have hl := and_l x (x - 1)
      rw [if_neg hc, e, nI_1]
      obtain ⟨h1, h2⟩ := ih (x &&& (x - 1)) (c + 1) (by omega) (by omega)
      refine ⟨⟨fun z => absurd z hc, fun _ => h1⟩, ?_⟩
      rw [h2]
      congr 1
      omega
theorem pcN_le {x : Nat} (h : x < 32768) : pcN x ≤ 15 := (bits_ok h).2.2.2.2.2.2.1
theorem dark_n (fu : Nat) (hf : 16 ≤ fu) (V : VT) {x : Nat} (h : x < 32768) : p_X8_dark fu V (nI x) ∧ f_X8_dark fu V (nI x) = nI (pcN x) := by
  have h1 := dark_l fu V (nI x) fu x 0 h (by have := pcN_le h; omega)
  rw [Nat.zero_add] at h1
  exact h1
theorem turned_l (fu : Nat) (V : VT) {x : Nat} (hx : x < 32768) : ∀ (w k : Nat), k ≤ 15 → 15 - k < w → tr x k < 2 ^ 15 → p_X8_turned_l1 fu V (nI x) w (nI (tr x k)) (nI k) ∧ f_X8_turned_l1 fu V (nI x) w (nI (tr x k)) (nI k) = nI (tr x 15) := by
  intro w
  induction w with
  | zero => intro k hk h; omega
  | succ w ih =>
    intro k hk h hb
    rw [f_X8_turned_l1, p_X8_turned_l1]
    rcases Nat.lt_or_ge k 15 with hlt | hge
    · have hc : ¬ (15 : Int32) ≤ nI k := nI_ge (b := 15) hlt (by decide)
      have e1 : nI x >>> (nI k &&& 31) = nI (x / 2 ^ k) := pk_shrN (by omega) _ k (s_l k (by omega))
      have e2 : (14 : Int32) - nI k = nI (14 - k) := pk_sub (b := k) (a := 14) (by omega)
      have hl := and_r (x / 2 ^ k) 1
      have hp : 2 ^ (14 - k) ≤ 2 ^ 14 := Nat.pow_le_pow_right (by decide) (by omega)
      have hm : ((x / 2 ^ k) &&& 1) * 2 ^ (14 - k) ≤ 1 * 2 ^ 14 := Nat.mul_le_mul hl hp
      have e3 : nI (tr x k) ||| (((nI x >>> (nI k &&& 31)) &&& 1) <<< ((14 - nI k) &&& 31)) = nI (tr x (k + 1)) := by
        rw [e1, e2, show (1 : Int32) = nI 1 from rfl, fa_and, shl_n (nI (14 - k) &&& 31) (14 - k) (s_l _ (by omega)) (by omega), fa_or]
        rfl
      rw [if_neg hc, e3, nI_1]
      obtain ⟨h1, h2⟩ := ih (k + 1) (by omega) (by omega) (or_lt 15 hb (by omega))
      exact ⟨⟨fun z => absurd z hc, fun _ => h1⟩, h2⟩
    · have he : k = 15 := by omega
      subst he
      have hc : (15 : Int32) ≤ nI 15 := by decide
      rw [if_pos hc]
      exact ⟨⟨fun _ => trivial, fun z => absurd hc z⟩, rfl⟩
theorem turned_n (fu : Nat) (hf : 16 ≤ fu) (V : VT) {x : Nat} (h : x < 32768) : p_X8_turned fu V (nI x) ∧ f_X8_turned fu V (nI x) = nI (tnN x) := by
  have h1 := turned_l fu V h fu 0 (by omega) (by omega) (by show 0 < 2 ^ 15; decide)
  rw [(bits_ok h).2.2.1] at h1
  exact h1
theorem tnN_lt {x : Nat} (h : x < 32768) : tnN x < 32768 := (bits_ok h).2.2.2.1
theorem tnN_tnN {x : Nat} (h : x < 32768) : tnN (tnN x) = x := (bits_ok h).2.2.2.2.1
theorem xor_lt {a b : Nat} (ha : a < 32768) (hb : b < 32768) : a ^^^ b < 32768 := Nat.xor_lt_two_pow (n := 15) ha hb
