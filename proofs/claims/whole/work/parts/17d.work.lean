/-! work: the model works out a law -/
theorem q_pa (a b : Nat) : nI (a + b) = nI a + nI b := (nI_add a b).symm
theorem q_pm (a b : Nat) : nI (a * b) = nI a * nI b := (nI_mulN a b).symm
theorem q_mm1 (a : Nat) : nI (a + 1) + (-1) = nI a := by rw [q_pa, Int32.add_assoc]; exact Int32.add_zero _
theorem q_mm2 (a : Nat) : nI (a + 2) + (-2) = nI a := by rw [q_pa, Int32.add_assoc]; exact Int32.add_zero _
theorem q_upid {α : Type} (f : Nat → α) (k : Nat) : va_up f k (f k) = f := by
  funext j
  unfold va_up
  by_cases h : j = k
  · rw [if_pos h, h]
  · rw [if_neg h]
theorem q_t0 : (0 : Int32).toInt = 0 := rfl
theorem q_t1 : (1 : Int32).toInt = 1 := rfl
theorem q_t2 : (2 : Int32).toInt = 2 := rfl
theorem q_t3 : (3 : Int32).toInt = 3 := rfl
theorem q_t4 : (4 : Int32).toInt = 4 := rfl
theorem q_t5 : (5 : Int32).toInt = 5 := rfl
theorem q_t6 : (6 : Int32).toInt = 6 := rfl
theorem q_t10 : (10 : Int32).toInt = 10 := rfl
theorem q_t11 : (11 : Int32).toInt = 11 := rfl
theorem q_t12 : (12 : Int32).toInt = 12 := rfl
theorem q_t13 : (13 : Int32).toInt = 13 := rfl
theorem q_t14 : (14 : Int32).toInt = 14 := rfl
theorem q_t15 : (15 : Int32).toInt = 15 := rfl
theorem q_t16 : (16 : Int32).toInt = 16 := rfl
theorem q_t20 : (20 : Int32).toInt = 20 := rfl
theorem q_t21 : (21 : Int32).toInt = 21 := rfl
theorem q_t22 : (22 : Int32).toInt = 22 := rfl
theorem q_t9 : (9 : Int32).toInt = 9 := rfl
theorem q_t30 : (30 : Int32).toInt = 30 := rfl
theorem q_t63 : (63 : Int32).toInt = 63 := rfl
theorem q_t99 : (99 : Int32).toInt = 99 := rfl
theorem q_t990 : (990 : Int32).toInt = 990 := rfl
theorem q_tm1 : (-1 : Int32).toInt = -1 := rfl
theorem q_tm2 : (-2 : Int32).toInt = -2 := rfl
/-- what a code that may stand there says of the counts -/
theorem q_tq_inv {L nn tt : Nat} {o v : Int32} {s' : Nat × Nat} (h : q_tq L o v nn tt = some s') :
    (o = 0 ∧ v.toNatClampNeg ≤ 9999 ∧ v = nI v.toNatClampNeg ∧ s' = (nn + 1, tt)) ∨ (o = 1 ∧ q_nmok L v.toNatClampNeg = true ∧ v = nI v.toNatClampNeg ∧ s' = (nn + 1, tt)) ∨ (o = 2 ∧ 1 ≤ nn ∧ s' = (nn, tt)) ∨ ((o = 3 ∨ o = 4 ∨ o = 5 ∨ o = 6) ∧ 2 ≤ nn ∧ s' = (nn - 1, tt))
    ∨ ((o = 10 ∨ o = 11 ∨ o = 12 ∨ o = 13 ∨ o = 14 ∨ o = 15) ∧ nn = 2 ∧ s' = (0, tt + 1)) ∨ (o = 20 ∧ nn = 0 ∧ 1 ≤ tt ∧ s' = (0, tt)) ∨ ((o = 21 ∨ o = 22) ∧ nn = 0 ∧ 2 ≤ tt ∧ s' = (0, tt - 1)) := by
  unfold q_tq at h
  split at h
  · rename_i h0
    split at h
    · rename_i h1; cases h; exact Or.inl ⟨h0, h1.1, h1.2, rfl⟩
    · cases h
  split at h
  · rename_i h0
    split at h
    · rename_i h1; cases h; exact Or.inr (Or.inl ⟨h0, h1.1, h1.2, rfl⟩)
    · cases h
  split at h
  · rename_i h0
    split at h
    · rename_i h1; cases h; exact Or.inr (Or.inr (Or.inl ⟨h0, h1, rfl⟩))
    · cases h
  split at h
  · rename_i h0
    split at h
    · rename_i h1; cases h
      refine Or.inr (Or.inr (Or.inr (Or.inl ⟨?_, h1, rfl⟩)))
      simp only [fa_le, fa_eq, q_t3, q_t4, q_t5, q_t6] at h0 ⊢
      omega
    · cases h
  split at h
  · rename_i h0
    split at h
    · rename_i h1; cases h
      refine Or.inr (Or.inr (Or.inr (Or.inr (Or.inl ⟨?_, h1, rfl⟩))))
      simp only [fa_le, fa_eq, q_t10, q_t11, q_t12, q_t13, q_t14, q_t15] at h0 ⊢
      omega
    · cases h
  split at h
  · rename_i h0
    split at h
    · rename_i h1; cases h
      refine Or.inr (Or.inr (Or.inr (Or.inr (Or.inr (Or.inl ⟨h0, h1.1, h1.2, ?_⟩)))))
      rw [h1.1]
    · cases h
  split at h
  · rename_i h0
    split at h
    · rename_i h1; cases h
      refine Or.inr (Or.inr (Or.inr (Or.inr (Or.inr (Or.inr ⟨h0, h1.1, h1.2, ?_⟩)))))
      rw [h1.1]
    · cases h
  cases h
theorem q_nmok14 {L v : Nat} (h : q_nmok L v = true) : v < 14 := by
  unfold q_nmok at h
  split at h
  · have := Nat.le_of_ble_eq_true h; omega
  · simp only [Bool.or_eq_true, Bool.and_eq_true, Nat.beq_eq, Nat.ble_eq] at h; omega
  · simp only [Bool.or_eq_true, Bool.and_eq_true, Nat.ble_eq] at h; omega
theorem q_nar1 {p : Prop} [Decidable p] : vp_nar .boolean (q_b p) = q_b p := by
  by_cases h : p
  · rw [q_b1 h]; rfl
  · rw [q_b0 h]; rfl
