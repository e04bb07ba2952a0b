/-! bits, distances, leads -/
def bt (x i : Nat) : Nat := x / 2 ^ i % 2
theorem bt_le (x i : Nat) : bt x i ≤ 1 := by unfold bt; omega
theorem bt_xor (x y i : Nat) : bt (x ^^^ y) i = (bt x i + bt y i) % 2 := by
  unfold bt
  rw [Nat.xor_div_two_pow]
  have h := @Nat.xor_mod_two_pow (x / 2 ^ i) (y / 2 ^ i) 1
  rw [Nat.pow_one] at h
  rw [h]
  have h1 : x / 2 ^ i % 2 < 2 := Nat.mod_lt _ (by decide)
  have h2 : y / 2 ^ i % 2 < 2 := Nat.mod_lt _ (by decide)
  generalize x / 2 ^ i % 2 = a at *
  generalize y / 2 ^ i % 2 = b at *
  rcases (show a = 0 ∨ a = 1 by omega) with rfl | rfl <;> rcases (show b = 0 ∨ b = 1 by omega) with rfl | rfl <;> rfl
theorem pc_bt (x : Nat) : pcN x = bt x 0 + bt x 1 + bt x 2 + bt x 3 + bt x 4 + bt x 5 + bt x 6 + bt x 7 + bt x 8 + bt x 9 + bt x 10 + bt x 11 + bt x 12 + bt x 13 + bt x 14 := by
  have h0 : bt x 0 = x % 2 := by unfold bt; rw [Nat.pow_zero, Nat.div_one]
  rw [h0]
  rfl
theorem bt_tri (a b k : Nat) (ha : a ≤ 1) (hb : b ≤ 1) (hk : k ≤ 1) : (a + k) % 2 ≤ (b + k) % 2 + (a + b) % 2 := by omega
theorem bt_eq (a b k : Nat) (ha : a ≤ 1) (hb : b ≤ 1) (hk : k ≤ 1) (h : a = b ∨ b = k) : (a + k) % 2 = (b + k) % 2 + (a + b) % 2 := by omega
theorem pc_tri (X Y k : Nat) : pcN (X ^^^ k) ≤ pcN (Y ^^^ k) + pcN (X ^^^ Y) := by
  rw [pc_bt, pc_bt, pc_bt]
  simp only [bt_xor]
  have h := fun i => bt_tri (bt X i) (bt Y i) (bt k i) (bt_le _ _) (bt_le _ _) (bt_le _ _)
  have h0 := h 0
  have h1 := h 1
  have h2 := h 2
  have h3 := h 3
  have h4 := h 4
  have h5 := h 5
  have h6 := h 6
  have h7 := h 7
  have h8 := h 8
  have h9 := h 9
  have h10 := h 10
  have h11 := h 11
  have h12 := h 12
  have h13 := h 13
  have h14 := h 14
  clear h
  omega
theorem pc_same (X Y e : Nat) (H : ∀ i, i < 15 → bt X i = bt Y i ∨ bt Y i = bt e i) : pcN (X ^^^ e) = pcN (Y ^^^ e) + pcN (X ^^^ Y) := by
  rw [pc_bt, pc_bt, pc_bt]
  simp only [bt_xor]
  have h := fun i (hi : i < 15) => bt_eq (bt X i) (bt Y i) (bt e i) (bt_le _ _) (bt_le _ _) (bt_le _ _) (H i hi)
  have h0 := h 0 (by decide)
  have h1 := h 1 (by decide)
  have h2 := h 2 (by decide)
  have h3 := h 3 (by decide)
  have h4 := h 4 (by decide)
  have h5 := h 5 (by decide)
  have h6 := h 6 (by decide)
  have h7 := h 7 (by decide)
  have h8 := h 8 (by decide)
  have h9 := h 9 (by decide)
  have h10 := h 10 (by decide)
  have h11 := h 11 (by decide)
  have h12 := h 12 (by decide)
  have h13 := h 13 (by decide)
  have h14 := h 14 (by decide)
  clear h H
  omega
theorem tn_sum (x : Nat) : tnN x = bt x 0 * 16384 + bt x 1 * 8192 + bt x 2 * 4096 + bt x 3 * 2048 + bt x 4 * 1024 + bt x 5 * 512 + bt x 6 * 256 + bt x 7 * 128 + bt x 8 * 64 + bt x 9 * 32 + bt x 10 * 16 + bt x 11 * 8 + bt x 12 * 4 + bt x 13 * 2 + bt x 14 * 1 := by
  have h0 : bt x 0 = x % 2 := by unfold bt; rw [Nat.pow_zero, Nat.div_one]
  rw [h0]
  rfl
theorem tb_0 (b0 b1 b2 b3 b4 b5 b6 b7 b8 b9 b10 b11 b12 b13 b14 : Nat) (h0 : b0 ≤ 1) (h1 : b1 ≤ 1) (h2 : b2 ≤ 1) (h3 : b3 ≤ 1) (h4 : b4 ≤ 1) (h5 : b5 ≤ 1) (h6 : b6 ≤ 1) (h7 : b7 ≤ 1) (h8 : b8 ≤ 1) (h9 : b9 ≤ 1) (h10 : b10 ≤ 1) (h11 : b11 ≤ 1) (h12 : b12 ≤ 1) (h13 : b13 ≤ 1) (h14 : b14 ≤ 1) : (b0 * 16384 + b1 * 8192 + b2 * 4096 + b3 * 2048 + b4 * 1024 + b5 * 512 + b6 * 256 + b7 * 128 + b8 * 64 + b9 * 32 + b10 * 16 + b11 * 8 + b12 * 4 + b13 * 2 + b14 * 1) / 1 % 2 = b14 := by omega
theorem tb_1 (b0 b1 b2 b3 b4 b5 b6 b7 b8 b9 b10 b11 b12 b13 b14 : Nat) (h0 : b0 ≤ 1) (h1 : b1 ≤ 1) (h2 : b2 ≤ 1) (h3 : b3 ≤ 1) (h4 : b4 ≤ 1) (h5 : b5 ≤ 1) (h6 : b6 ≤ 1) (h7 : b7 ≤ 1) (h8 : b8 ≤ 1) (h9 : b9 ≤ 1) (h10 : b10 ≤ 1) (h11 : b11 ≤ 1) (h12 : b12 ≤ 1) (h13 : b13 ≤ 1) (h14 : b14 ≤ 1) : (b0 * 16384 + b1 * 8192 + b2 * 4096 + b3 * 2048 + b4 * 1024 + b5 * 512 + b6 * 256 + b7 * 128 + b8 * 64 + b9 * 32 + b10 * 16 + b11 * 8 + b12 * 4 + b13 * 2 + b14 * 1) / 2 % 2 = b13 := by omega
theorem tb_2 (b0 b1 b2 b3 b4 b5 b6 b7 b8 b9 b10 b11 b12 b13 b14 : Nat) (h0 : b0 ≤ 1) (h1 : b1 ≤ 1) (h2 : b2 ≤ 1) (h3 : b3 ≤ 1) (h4 : b4 ≤ 1) (h5 : b5 ≤ 1) (h6 : b6 ≤ 1) (h7 : b7 ≤ 1) (h8 : b8 ≤ 1) (h9 : b9 ≤ 1) (h10 : b10 ≤ 1) (h11 : b11 ≤ 1) (h12 : b12 ≤ 1) (h13 : b13 ≤ 1) (h14 : b14 ≤ 1) : (b0 * 16384 + b1 * 8192 + b2 * 4096 + b3 * 2048 + b4 * 1024 + b5 * 512 + b6 * 256 + b7 * 128 + b8 * 64 + b9 * 32 + b10 * 16 + b11 * 8 + b12 * 4 + b13 * 2 + b14 * 1) / 4 % 2 = b12 := by omega
theorem tb_3 (b0 b1 b2 b3 b4 b5 b6 b7 b8 b9 b10 b11 b12 b13 b14 : Nat) (h0 : b0 ≤ 1) (h1 : b1 ≤ 1) (h2 : b2 ≤ 1) (h3 : b3 ≤ 1) (h4 : b4 ≤ 1) (h5 : b5 ≤ 1) (h6 : b6 ≤ 1) (h7 : b7 ≤ 1) (h8 : b8 ≤ 1) (h9 : b9 ≤ 1) (h10 : b10 ≤ 1) (h11 : b11 ≤ 1) (h12 : b12 ≤ 1) (h13 : b13 ≤ 1) (h14 : b14 ≤ 1) : (b0 * 16384 + b1 * 8192 + b2 * 4096 + b3 * 2048 + b4 * 1024 + b5 * 512 + b6 * 256 + b7 * 128 + b8 * 64 + b9 * 32 + b10 * 16 + b11 * 8 + b12 * 4 + b13 * 2 + b14 * 1) / 8 % 2 = b11 := by omega
theorem tb_4 (b0 b1 b2 b3 b4 b5 b6 b7 b8 b9 b10 b11 b12 b13 b14 : Nat) (h0 : b0 ≤ 1) (h1 : b1 ≤ 1) (h2 : b2 ≤ 1) (h3 : b3 ≤ 1) (h4 : b4 ≤ 1) (h5 : b5 ≤ 1) (h6 : b6 ≤ 1) (h7 : b7 ≤ 1) (h8 : b8 ≤ 1) (h9 : b9 ≤ 1) (h10 : b10 ≤ 1) (h11 : b11 ≤ 1) (h12 : b12 ≤ 1) (h13 : b13 ≤ 1) (h14 : b14 ≤ 1) : (b0 * 16384 + b1 * 8192 + b2 * 4096 + b3 * 2048 + b4 * 1024 + b5 * 512 + b6 * 256 + b7 * 128 + b8 * 64 + b9 * 32 + b10 * 16 + b11 * 8 + b12 * 4 + b13 * 2 + b14 * 1) / 16 % 2 = b10 := by omega
theorem tb_5 (b0 b1 b2 b3 b4 b5 b6 b7 b8 b9 b10 b11 b12 b13 b14 : Nat) (h0 : b0 ≤ 1) (h1 : b1 ≤ 1) (h2 : b2 ≤ 1) (h3 : b3 ≤ 1) (h4 : b4 ≤ 1) (h5 : b5 ≤ 1) (h6 : b6 ≤ 1) (h7 : b7 ≤ 1) (h8 : b8 ≤ 1) (h9 : b9 ≤ 1) (h10 : b10 ≤ 1) (h11 : b11 ≤ 1) (h12 : b12 ≤ 1) (h13 : b13 ≤ 1) (h14 : b14 ≤ 1) : (b0 * 16384 + b1 * 8192 + b2 * 4096 + b3 * 2048 + b4 * 1024 + b5 * 512 + b6 * 256 + b7 * 128 + b8 * 64 + b9 * 32 + b10 * 16 + b11 * 8 + b12 * 4 + b13 * 2 + b14 * 1) / 32 % 2 = b9 := by omega
theorem tb_6 (b0 b1 b2 b3 b4 b5 b6 b7 b8 b9 b10 b11 b12 b13 b14 : Nat) (h0 : b0 ≤ 1) (h1 : b1 ≤ 1) (h2 : b2 ≤ 1) (h3 : b3 ≤ 1) (h4 : b4 ≤ 1) (h5 : b5 ≤ 1) (h6 : b6 ≤ 1) (h7 : b7 ≤ 1) (h8 : b8 ≤ 1) (h9 : b9 ≤ 1) (h10 : b10 ≤ 1) (h11 : b11 ≤ 1) (h12 : b12 ≤ 1) (h13 : b13 ≤ 1) (h14 : b14 ≤ 1) : (b0 * 16384 + b1 * 8192 + b2 * 4096 + b3 * 2048 + b4 * 1024 + b5 * 512 + b6 * 256 + b7 * 128 + b8 * 64 + b9 * 32 + b10 * 16 + b11 * 8 + b12 * 4 + b13 * 2 + b14 * 1) / 64 % 2 = b8 := by omega
theorem tb_7 (b0 b1 b2 b3 b4 b5 b6 b7 b8 b9 b10 b11 b12 b13 b14 : Nat) (h0 : b0 ≤ 1) (h1 : b1 ≤ 1) (h2 : b2 ≤ 1) (h3 : b3 ≤ 1) (h4 : b4 ≤ 1) (h5 : b5 ≤ 1) (h6 : b6 ≤ 1) (h7 : b7 ≤ 1) (h8 : b8 ≤ 1) (h9 : b9 ≤ 1) (h10 : b10 ≤ 1) (h11 : b11 ≤ 1) (h12 : b12 ≤ 1) (h13 : b13 ≤ 1) (h14 : b14 ≤ 1) : (b0 * 16384 + b1 * 8192 + b2 * 4096 + b3 * 2048 + b4 * 1024 + b5 * 512 + b6 * 256 + b7 * 128 + b8 * 64 + b9 * 32 + b10 * 16 + b11 * 8 + b12 * 4 + b13 * 2 + b14 * 1) / 128 % 2 = b7 := by omega
theorem tb_8 (b0 b1 b2 b3 b4 b5 b6 b7 b8 b9 b10 b11 b12 b13 b14 : Nat) (h0 : b0 ≤ 1) (h1 : b1 ≤ 1) (h2 : b2 ≤ 1) (h3 : b3 ≤ 1) (h4 : b4 ≤ 1) (h5 : b5 ≤ 1) (h6 : b6 ≤ 1) (h7 : b7 ≤ 1) (h8 : b8 ≤ 1) (h9 : b9 ≤ 1) (h10 : b10 ≤ 1) (h11 : b11 ≤ 1) (h12 : b12 ≤ 1) (h13 : b13 ≤ 1) (h14 : b14 ≤ 1) : (b0 * 16384 + b1 * 8192 + b2 * 4096 + b3 * 2048 + b4 * 1024 + b5 * 512 + b6 * 256 + b7 * 128 + b8 * 64 + b9 * 32 + b10 * 16 + b11 * 8 + b12 * 4 + b13 * 2 + b14 * 1) / 256 % 2 = b6 := by omega
theorem tb_9 (b0 b1 b2 b3 b4 b5 b6 b7 b8 b9 b10 b11 b12 b13 b14 : Nat) (h0 : b0 ≤ 1) (h1 : b1 ≤ 1) (h2 : b2 ≤ 1) (h3 : b3 ≤ 1) (h4 : b4 ≤ 1) (h5 : b5 ≤ 1) (h6 : b6 ≤ 1) (h7 : b7 ≤ 1) (h8 : b8 ≤ 1) (h9 : b9 ≤ 1) (h10 : b10 ≤ 1) (h11 : b11 ≤ 1) (h12 : b12 ≤ 1) (h13 : b13 ≤ 1) (h14 : b14 ≤ 1) : (b0 * 16384 + b1 * 8192 + b2 * 4096 + b3 * 2048 + b4 * 1024 + b5 * 512 + b6 * 256 + b7 * 128 + b8 * 64 + b9 * 32 + b10 * 16 + b11 * 8 + b12 * 4 + b13 * 2 + b14 * 1) / 512 % 2 = b5 := by omega
theorem tb_10 (b0 b1 b2 b3 b4 b5 b6 b7 b8 b9 b10 b11 b12 b13 b14 : Nat) (h0 : b0 ≤ 1) (h1 : b1 ≤ 1) (h2 : b2 ≤ 1) (h3 : b3 ≤ 1) (h4 : b4 ≤ 1) (h5 : b5 ≤ 1) (h6 : b6 ≤ 1) (h7 : b7 ≤ 1) (h8 : b8 ≤ 1) (h9 : b9 ≤ 1) (h10 : b10 ≤ 1) (h11 : b11 ≤ 1) (h12 : b12 ≤ 1) (h13 : b13 ≤ 1) (h14 : b14 ≤ 1) : (b0 * 16384 + b1 * 8192 + b2 * 4096 + b3 * 2048 + b4 * 1024 + b5 * 512 + b6 * 256 + b7 * 128 + b8 * 64 + b9 * 32 + b10 * 16 + b11 * 8 + b12 * 4 + b13 * 2 + b14 * 1) / 1024 % 2 = b4 := by omega
theorem tb_11 (b0 b1 b2 b3 b4 b5 b6 b7 b8 b9 b10 b11 b12 b13 b14 : Nat) (h0 : b0 ≤ 1) (h1 : b1 ≤ 1) (h2 : b2 ≤ 1) (h3 : b3 ≤ 1) (h4 : b4 ≤ 1) (h5 : b5 ≤ 1) (h6 : b6 ≤ 1) (h7 : b7 ≤ 1) (h8 : b8 ≤ 1) (h9 : b9 ≤ 1) (h10 : b10 ≤ 1) (h11 : b11 ≤ 1) (h12 : b12 ≤ 1) (h13 : b13 ≤ 1) (h14 : b14 ≤ 1) : (b0 * 16384 + b1 * 8192 + b2 * 4096 + b3 * 2048 + b4 * 1024 + b5 * 512 + b6 * 256 + b7 * 128 + b8 * 64 + b9 * 32 + b10 * 16 + b11 * 8 + b12 * 4 + b13 * 2 + b14 * 1) / 2048 % 2 = b3 := by omega
theorem tb_12 (b0 b1 b2 b3 b4 b5 b6 b7 b8 b9 b10 b11 b12 b13 b14 : Nat) (h0 : b0 ≤ 1) (h1 : b1 ≤ 1) (h2 : b2 ≤ 1) (h3 : b3 ≤ 1) (h4 : b4 ≤ 1) (h5 : b5 ≤ 1) (h6 : b6 ≤ 1) (h7 : b7 ≤ 1) (h8 : b8 ≤ 1) (h9 : b9 ≤ 1) (h10 : b10 ≤ 1) (h11 : b11 ≤ 1) (h12 : b12 ≤ 1) (h13 : b13 ≤ 1) (h14 : b14 ≤ 1) : (b0 * 16384 + b1 * 8192 + b2 * 4096 + b3 * 2048 + b4 * 1024 + b5 * 512 + b6 * 256 + b7 * 128 + b8 * 64 + b9 * 32 + b10 * 16 + b11 * 8 + b12 * 4 + b13 * 2 + b14 * 1) / 4096 % 2 = b2 := by omega
theorem tb_13 (b0 b1 b2 b3 b4 b5 b6 b7 b8 b9 b10 b11 b12 b13 b14 : Nat) (h0 : b0 ≤ 1) (h1 : b1 ≤ 1) (h2 : b2 ≤ 1) (h3 : b3 ≤ 1) (h4 : b4 ≤ 1) (h5 : b5 ≤ 1) (h6 : b6 ≤ 1) (h7 : b7 ≤ 1) (h8 : b8 ≤ 1) (h9 : b9 ≤ 1) (h10 : b10 ≤ 1) (h11 : b11 ≤ 1) (h12 : b12 ≤ 1) (h13 : b13 ≤ 1) (h14 : b14 ≤ 1) : (b0 * 16384 + b1 * 8192 + b2 * 4096 + b3 * 2048 + b4 * 1024 + b5 * 512 + b6 * 256 + b7 * 128 + b8 * 64 + b9 * 32 + b10 * 16 + b11 * 8 + b12 * 4 + b13 * 2 + b14 * 1) / 8192 % 2 = b1 := by omega
theorem tb_14 (b0 b1 b2 b3 b4 b5 b6 b7 b8 b9 b10 b11 b12 b13 b14 : Nat) (h0 : b0 ≤ 1) (h1 : b1 ≤ 1) (h2 : b2 ≤ 1) (h3 : b3 ≤ 1) (h4 : b4 ≤ 1) (h5 : b5 ≤ 1) (h6 : b6 ≤ 1) (h7 : b7 ≤ 1) (h8 : b8 ≤ 1) (h9 : b9 ≤ 1) (h10 : b10 ≤ 1) (h11 : b11 ≤ 1) (h12 : b12 ≤ 1) (h13 : b13 ≤ 1) (h14 : b14 ≤ 1) : (b0 * 16384 + b1 * 8192 + b2 * 4096 + b3 * 2048 + b4 * 1024 + b5 * 512 + b6 * 256 + b7 * 128 + b8 * 64 + b9 * 32 + b10 * 16 + b11 * 8 + b12 * 4 + b13 * 2 + b14 * 1) / 16384 % 2 = b0 := by omega
theorem bt_tn (x : Nat) {i : Nat} (hi : i < 15) : bt (tnN x) i = bt x (14 - i) := by
  rw [tn_sum]
  have h := bt_le x
  have hc : i = 0 ∨ i = 1 ∨ i = 2 ∨ i = 3 ∨ i = 4 ∨ i = 5 ∨ i = 6 ∨ i = 7 ∨ i = 8 ∨ i = 9 ∨ i = 10 ∨ i = 11 ∨ i = 12 ∨ i = 13 ∨ i = 14 := by omega
  rcases hc with rfl | rfl | rfl | rfl | rfl | rfl | rfl | rfl | rfl | rfl | rfl | rfl | rfl | rfl | rfl
  · unfold bt at *; rw [Nat.pow_zero, Nat.div_one]; have := tb_0 _ _ _ _ _ _ _ _ _ _ _ _ _ _ _ (h 0) (h 1) (h 2) (h 3) (h 4) (h 5) (h 6) (h 7) (h 8) (h 9) (h 10) (h 11) (h 12) (h 13) (h 14); rw [Nat.div_one] at this; exact this
  · exact tb_1 _ _ _ _ _ _ _ _ _ _ _ _ _ _ _ (h 0) (h 1) (h 2) (h 3) (h 4) (h 5) (h 6) (h 7) (h 8) (h 9) (h 10) (h 11) (h 12) (h 13) (h 14)
  · exact tb_2 _ _ _ _ _ _ _ _ _ _ _ _ _ _ _ (h 0) (h 1) (h 2) (h 3) (h 4) (h 5) (h 6) (h 7) (h 8) (h 9) (h 10) (h 11) (h 12) (h 13) (h 14)
  · exact tb_3 _ _ _ _ _ _ _ _ _ _ _ _ _ _ _ (h 0) (h 1) (h 2) (h 3) (h 4) (h 5) (h 6) (h 7) (h 8) (h 9) (h 10) (h 11) (h 12) (h 13) (h 14)
  · exact tb_4 _ _ _ _ _ _ _ _ _ _ _ _ _ _ _ (h 0) (h 1) (h 2) (h 3) (h 4) (h 5) (h 6) (h 7) (h 8) (h 9) (h 10) (h 11) (h 12) (h 13) (h 14)
  · exact tb_5 _ _ _ _ _ _ _ _ _ _ _ _ _ _ _ (h 0) (h 1) (h 2) (h 3) (h 4) (h 5) (h 6) (h 7) (h 8) (h 9) (h 10) (h 11) (h 12) (h 13) (h 14)
  · exact tb_6 _ _ _ _ _ _ _ _ _ _ _ _ _ _ _ (h 0) (h 1) (h 2) (h 3) (h 4) (h 5) (h 6) (h 7) (h 8) (h 9) (h 10) (h 11) (h 12) (h 13) (h 14)
  · exact tb_7 _ _ _ _ _ _ _ _ _ _ _ _ _ _ _ (h 0) (h 1) (h 2) (h 3) (h 4) (h 5) (h 6) (h 7) (h 8) (h 9) (h 10) (h 11) (h 12) (h 13) (h 14)
  · exact tb_8 _ _ _ _ _ _ _ _ _ _ _ _ _ _ _ (h 0) (h 1) (h 2) (h 3) (h 4) (h 5) (h 6) (h 7) (h 8) (h 9) (h 10) (h 11) (h 12) (h 13) (h 14)
  · exact tb_9 _ _ _ _ _ _ _ _ _ _ _ _ _ _ _ (h 0) (h 1) (h 2) (h 3) (h 4) (h 5) (h 6) (h 7) (h 8) (h 9) (h 10) (h 11) (h 12) (h 13) (h 14)
  · exact tb_10 _ _ _ _ _ _ _ _ _ _ _ _ _ _ _ (h 0) (h 1) (h 2) (h 3) (h 4) (h 5) (h 6) (h 7) (h 8) (h 9) (h 10) (h 11) (h 12) (h 13) (h 14)
  · exact tb_11 _ _ _ _ _ _ _ _ _ _ _ _ _ _ _ (h 0) (h 1) (h 2) (h 3) (h 4) (h 5) (h 6) (h 7) (h 8) (h 9) (h 10) (h 11) (h 12) (h 13) (h 14)
  · exact tb_12 _ _ _ _ _ _ _ _ _ _ _ _ _ _ _ (h 0) (h 1) (h 2) (h 3) (h 4) (h 5) (h 6) (h 7) (h 8) (h 9) (h 10) (h 11) (h 12) (h 13) (h 14)
  · exact tb_13 _ _ _ _ _ _ _ _ _ _ _ _ _ _ _ (h 0) (h 1) (h 2) (h 3) (h 4) (h 5) (h 6) (h 7) (h 8) (h 9) (h 10) (h 11) (h 12) (h 13) (h 14)
  · exact tb_14 _ _ _ _ _ _ _ _ _ _ _ _ _ _ _ (h 0) (h 1) (h 2) (h 3) (h 4) (h 5) (h 6) (h 7) (h 8) (h 9) (h 10) (h 11) (h 12) (h 13) (h 14)
/-- the lead of a letter for a sign: 0 if it is read otherwise, else its margin and 1 -/
def ldS (s : Nat → Int32) (x L : Nat) : Nat := if (nrS s x 10 10).1 = nI L then lsS s x L 10 - pcN (x ^^^ dn s L) + 1 else 0
def Nr (s : Nat → Int32) (x L : Nat) : Prop := s (7 + L) ≠ -1 ∧ (∀ k, k < 10 → s (7 + k) ≠ -1 → pcN (x ^^^ dn s L) ≤ pcN (x ^^^ dn s k)) ∧ ∀ k, k < L → s (7 + k) ≠ -1 → pcN (x ^^^ dn s L) < pcN (x ^^^ dn s k)
theorem nr_iff {s : Nat → Int32} (hO : SOk s) {x L : Nat} (hx : x < 32768) (hL : L < 10) : (nrS s x 10 10).1 = nI L ↔ Nr s x L := by
  have hd : ∀ k, k < 10 → s (7 + k) ≠ -1 → pcN (x ^^^ dn s k) ≤ 15 := fun k hk h => pcN_le (xor_lt hx (hO.dr hk h).2)
  rcases nrS_ok s x 10 10 (by omega) with ⟨e1, -, e3⟩ | ⟨k, a1, -, a3, a4, -, a6, a7⟩
  · rw [e1]
    refine ⟨fun z => absurd z.symm (nI_neg1 (by omega)), fun ⟨h1, _, _⟩ => ?_⟩
    have := e3 L hL (by omega) h1
    have := hd L hL h1
    omega
  · rw [a4]
    constructor
    · intro z
      have := (nI_eq (a := k) (b := L) (by omega) (by omega)).mp z
      subst this
      exact ⟨a3, fun k' h1 h2 => a6 k' h1 (by omega) h2, fun k' h1 h2 => a7 k' h1 (by omega) h2⟩
    · intro ⟨h1, h2, h3⟩
      have : k = L := by
        rcases Nat.lt_trichotomy k L with w | w | w
        · have := h3 k w a3
          have := a6 L hL (by omega) h1
          omega
        · exact w
        · have := a7 L w (by omega) h1
          have := h2 k a1 a3
          omega
      rw [this]
theorem ls_ok (s : Nat → Int32) (x L : Nat) : ∀ i, (∀ k, k < i → k ≠ L → s (7 + k) ≠ -1 → lsS s x L i ≤ pcN (x ^^^ dn s k)) ∧ (lsS s x L i = 15 ∨ ∃ k, k < i ∧ k ≠ L ∧ s (7 + k) ≠ -1 ∧ lsS s x L i = pcN (x ^^^ dn s k))
  | 0 => ⟨fun k hk => absurd hk (Nat.not_lt_zero _), Or.inl rfl⟩
  | i + 1 => by
    obtain ⟨h1, h2⟩ := ls_ok s x L i
    rw [lsS]
    by_cases c : i ≠ L ∧ s (7 + i) ≠ -1 ∧ pcN (x ^^^ dn s i) < lsS s x L i
    · rw [if_pos c]
      refine ⟨fun k hk hne hd => ?_, Or.inr ⟨i, by omega, c.1, c.2.1, rfl⟩⟩
      rcases Nat.lt_or_ge k i with q | q
      · have := h1 k q hne hd
        have := c.2.2
        omega
      · have : k = i := by omega
        subst this
        exact Nat.le_refl _
    · rw [if_neg c]
      refine ⟨fun k hk hne hd => ?_, ?_⟩
      · rcases Nat.lt_or_ge k i with q | q
        · exact h1 k q hne hd
        · have : k = i := by omega
          subst this
          rcases Nat.lt_or_ge (pcN (x ^^^ dn s k)) (lsS s x L k) with w | w
          · exact absurd ⟨hne, hd, w⟩ c
          · exact w
      · rcases h2 with h2 | ⟨k, k1, k2, k3, k4⟩
        · exact Or.inl h2
        · exact Or.inr ⟨k, by omega, k2, k3, k4⟩
theorem nr_ls {s : Nat → Int32} (hO : SOk s) {x L : Nat} (hx : x < 32768) (hL : L < 10) (h : Nr s x L) : pcN (x ^^^ dn s L) ≤ lsS s x L 10 := by
  rcases (ls_ok s x L 10).2 with e | ⟨k, k1, k2, k3, k4⟩
  · rw [e]; exact pcN_le (xor_lt hx (hO.dr hL h.1).2)
  · rw [k4]; exact h.2.1 k k1 k3
theorem ls_nr {s : Nat → Int32} {x L : Nat} (hd : s (7 + L) ≠ -1) (h : pcN (x ^^^ dn s L) < lsS s x L 10) (hL : L < 10) : Nr s x L := by
  have hk := (ls_ok s x L 10).1
  refine ⟨hd, fun k h1 h2 => ?_, fun k h1 h2 => ?_⟩
  · by_cases e : k = L
    · subst e; exact Nat.le_refl _
    · have := hk k h1 e h2; omega
  · have := hk k (by omega) (by omega) h2; omega
theorem ld_le {s : Nat → Int32} (hO : SOk s) {X Y L : Nat} (hX : X < 32768) (hY : Y < 32768) (hL : L < 10) (H : ∀ i, i < 15 → bt X i = bt Y i ∨ bt Y i = bt (dn s L) i) : ldS s X L ≤ ldS s Y L := by
  unfold ldS
  by_cases g : (nrS s X 10 10).1 = nI L
  · have n1 := (nr_iff hO hX hL).mp g
    have e1 := pc_same X Y (dn s L) H
    have t := fun k => pc_tri X Y (dn s k)
    have n2 : Nr s Y L := by
      refine ⟨n1.1, fun k h1 h2 => ?_, fun k h1 h2 => ?_⟩
      · have := n1.2.1 k h1 h2
        have := t k
        omega
      · have := n1.2.2 k h1 h2
        have := t k
        omega
    have g2 := (nr_iff hO hY hL).mpr n2
    rw [if_pos g, if_pos g2]
    have hls : lsS s X L 10 ≤ lsS s Y L 10 + pcN (X ^^^ Y) := by
      rcases (ls_ok s Y L 10).2 with e | ⟨k, k1, k2, k3, k4⟩
      · have := lsS_le s X L 10
        omega
      · have := (ls_ok s X L 10).1 k k1 k2 k3
        have := t k
        omega
    omega
  · rw [if_neg g]
    exact Nat.zero_le _
theorem ld_lt {s : Nat → Int32} (x L : Nat) : ldS s x L ≤ 16 := by
  unfold ldS
  have := lsS_le s x L 10
  split <;> omega
/-- a lead as the class has it: -1 or the margin -/
def lI (n : Nat) : Int32 := nI n - 1
theorem lI_le {a b : Nat} (ha : a < 100) (hb : b < 100) : lI a ≤ lI b ↔ a ≤ b := by
  unfold lI
  rw [Int32.le_iff_toInt_le, show (1 : Int32) = nI 1 from rfl, pk_sub_toInt (by omega) (by omega), pk_sub_toInt (by omega) (by omega)]
  omega
theorem lI_lt {a b : Nat} (ha : a < 100) (hb : b < 100) : lI a < lI b ↔ a < b := by
  unfold lI
  rw [Int32.lt_iff_toInt_lt, show (1 : Int32) = nI 1 from rfl, pk_sub_toInt (by omega) (by omega), pk_sub_toInt (by omega) (by omega)]
  omega
theorem lead_n (fu : Nat) (hf : 20 ≤ fu) (V : VT) (hB : BRel V 6 (V 49)) (hO : SOk (V 49)) {x L : Nat} (hx : x < 32768) (hL : L < 10) (hd : V 49 (7 + L) ≠ -1) : p_X3_leadOf fu V 0 (nI x) (nI L) ∧ f_X3_leadOf fu V 0 (nI x) (nI L) = lI (ldS (V 49) x L) := by
  obtain ⟨m1, m2⟩ := margin_c fu hf V hB hO hx hL hd
  obtain ⟨n1, n2⟩ := near_n fu hf V hB hO hx
  have hls := lsS_le (V 49) x L 10
  have hpc := pcN_le (xor_lt hx (hO.dr hL hd).2)
  unfold p_X3_leadOf f_X3_leadOf
  rw [m2, n2]
  unfold mgS
  rcases Nat.lt_trichotomy (pcN (x ^^^ dn (V 49) L)) (lsS (V 49) x L 10) with w | w | w
  · have g := (nr_iff hO hx hL).mpr (ls_nr hd w hL)
    have e : nI (lsS (V 49) x L 10) - nI (pcN (x ^^^ dn (V 49) L)) = nI (lsS (V 49) x L 10 - pcN (x ^^^ dn (V 49) L)) := pk_sub (by omega)
    have q : 0 < nI (lsS (V 49) x L 10 - pcN (x ^^^ dn (V 49) L)) := nI_lt (a := 0) (by omega) (by omega)
    rw [e, if_pos q]
    refine ⟨⟨m1, fun _ => trivial, fun z => absurd q z⟩, ?_⟩
    unfold ldS lI
    rw [if_pos g, show (1 : Int32) = nI 1 from rfl, pk_sub (by omega), show lsS (V 49) x L 10 - pcN (x ^^^ dn (V 49) L) + 1 - 1 = lsS (V 49) x L 10 - pcN (x ^^^ dn (V 49) L) by omega]
  · have e : nI (lsS (V 49) x L 10) - nI (pcN (x ^^^ dn (V 49) L)) = 0 := by rw [w, pk_sub (Nat.le_refl _), Nat.sub_self]; rfl
    have q : ¬ (0 : Int32) < 0 := by decide
    rw [e, if_neg q, if_pos rfl]
    refine ⟨⟨m1, fun z => absurd z q, fun _ => ⟨fun _ => n1, fun z => absurd rfl z⟩⟩, ?_⟩
    unfold ldS lI
    by_cases g : (nrS (V 49) x 10 10).1 = nI L
    · rw [if_pos g, if_pos g, w, Nat.sub_self]; rfl
    · rw [if_neg g, if_neg g]; rfl
  · have q0 : nI (lsS (V 49) x L 10) - nI (pcN (x ^^^ dn (V 49) L)) < 0 := pk_sneg (by omega) w
    have q1 : ¬ 0 < nI (lsS (V 49) x L 10) - nI (pcN (x ^^^ dn (V 49) L)) := i32_nl (Int32.le_of_lt q0)
    have q2 : ¬ nI (lsS (V 49) x L 10) - nI (pcN (x ^^^ dn (V 49) L)) = 0 := fun z => by rw [z] at q0; exact absurd q0 (by decide)
    have g : ¬ (nrS (V 49) x 10 10).1 = nI L := fun z => by
      have := nr_ls hO hx hL ((nr_iff hO hx hL).mp z)
      omega
    rw [if_neg q1, if_neg q2]
    refine ⟨⟨m1, fun z => absurd z q1, fun _ => ⟨fun z => absurd z q2, fun _ => trivial⟩⟩, ?_⟩
    unfold ldS
    rw [if_neg g]; rfl
theorem mg_ld {s : Nat → Int32} (hO : SOk s) {x L : Nat} (hx : x < 32768) (hL : L < 10) (g : (nrS s x 10 10).1 = nI L) : mgS s x L = lI (ldS s x L) := by
  have h := nr_ls hO hx hL ((nr_iff hO hx hL).mp g)
  unfold mgS ldS lI
  rw [if_pos g, pk_sub h, show (1 : Int32) = nI 1 from rfl, pk_sub (by omega), show lsS s x L 10 - pcN (x ^^^ dn s L) + 1 - 1 = lsS s x L 10 - pcN (x ^^^ dn s L) by omega]
