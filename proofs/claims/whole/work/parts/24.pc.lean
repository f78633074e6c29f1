/-! cut -/
def w_pc (s : Nat) : Nat := (s.testBit 0).toNat + (s.testBit 1).toNat + (s.testBit 2).toNat + (s.testBit 3).toNat + (s.testBit 4).toNat + (s.testBit 5).toNat + (s.testBit 6).toNat + (s.testBit 7).toNat + (s.testBit 8).toNat + (s.testBit 9).toNat
set_option maxRecDepth 20000 in
theorem w_pcB : ∀ s, s < 1024 → q_bits (nI s) 10 0 0 = nI (w_pc s) := by decide +kernel
set_option maxRecDepth 20000 in
theorem w_pcL : ∀ L, L < 11 → ∀ s, s < 1024 → s + 1 < 2 ^ L → w_pc s < w_pc (2 ^ L - 1) := by decide +kernel
theorem w_pc10 (s : Nat) : w_pc s ≤ 10 := by
  unfold w_pc
  have h : ∀ b : Bool, b.toNat ≤ 1 := by decide
  have h0 := h (s.testBit 0)
  have h1 := h (s.testBit 1)
  have h2 := h (s.testBit 2)
  have h3 := h (s.testBit 3)
  have h4 := h (s.testBit 4)
  have h5 := h (s.testBit 5)
  have h6 := h (s.testBit 6)
  have h7 := h (s.testBit 7)
  have h8 := h (s.testBit 8)
  have h9 := h (s.testBit 9)
  omega
theorem w_2L {L : Nat} (h : L ≤ 10) : 2 ^ L ≤ 1024 := Nat.pow_le_pow_right (n := 2) (by decide) h
