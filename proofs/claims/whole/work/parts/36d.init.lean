/-! THE RELATION holds when both are made -/
def v_ln (L : Nat) : Nat → Nat := u_l115_67 (u_l1_6 (q_xl L))
def v_di (xs : Nat → Int32) : Nat → Nat → Int32 := u_i115_67 (va_up (u_i1_6 (va_up (q_xi xs) 6 (fun _ => 0))) 67 (fun _ => 0))
def v_dr : Nat → Nat → Option Nat := u_r115_67 (va_up (u_r1_6 (va_up (fun _ _ => none) 6 (fun _ => none))) 67 (fun _ => none))
def v_sl : Nat := u_s115_67 (u_s1_6 (0 + 7) + 37)
theorem v_slE : v_sl ≤ 20000 := by decide +kernel
theorem v_lnE (L : Nat) : ∀ k, k < 84 → q_lO k = none ∨ q_lO k = some (v_ln L k)
  | 0, _ => Or.inl rfl
  | 1, _ => Or.inr rfl
  | 2, _ => Or.inr rfl
  | 3, _ => Or.inr rfl
  | 4, _ => Or.inl rfl
  | 5, _ => Or.inr rfl
  | 6, _ => Or.inl rfl
  | 7, _ => Or.inl rfl
  | 8, _ => Or.inr rfl
  | 9, _ => Or.inr rfl
  | 10, _ => Or.inr rfl
  | 11, _ => Or.inr rfl
  | 12, _ => Or.inr rfl
  | 13, _ => Or.inr rfl
  | 14, _ => Or.inr rfl
  | 15, _ => Or.inr rfl
  | 16, _ => Or.inr rfl
  | 17, _ => Or.inl rfl
  | 18, _ => Or.inr rfl
  | 19, _ => Or.inr rfl
  | 20, _ => Or.inr rfl
  | 21, _ => Or.inr rfl
  | 22, _ => Or.inr rfl
  | 23, _ => Or.inl rfl
  | 24, _ => Or.inr rfl
  | 25, _ => Or.inr rfl
  | 26, _ => Or.inr rfl
  | 27, _ => Or.inr rfl
  | 28, _ => Or.inr rfl
  | 29, _ => Or.inr rfl
  | 30, _ => Or.inr rfl
  | 31, _ => Or.inr rfl
  | 32, _ => Or.inr rfl
  | 33, _ => Or.inl rfl
  | 34, _ => Or.inr rfl
  | 35, _ => Or.inr rfl
  | 36, _ => Or.inr rfl
  | 37, _ => Or.inr rfl
  | 38, _ => Or.inr rfl
  | 39, _ => Or.inl rfl
  | 40, _ => Or.inl rfl
  | 41, _ => Or.inr rfl
  | 42, _ => Or.inr rfl
  | 43, _ => Or.inr rfl
  | 44, _ => Or.inr rfl
  | 45, _ => Or.inr rfl
  | 46, _ => Or.inr rfl
  | 47, _ => Or.inr rfl
  | 48, _ => Or.inr rfl
  | 49, _ => Or.inr rfl
  | 50, _ => Or.inl rfl
  | 51, _ => Or.inr rfl
  | 52, _ => Or.inr rfl
  | 53, _ => Or.inl rfl
  | 54, _ => Or.inr rfl
  | 55, _ => Or.inr rfl
  | 56, _ => Or.inr rfl
  | 57, _ => Or.inl rfl
  | 58, _ => Or.inr rfl
  | 59, _ => Or.inr rfl
  | 60, _ => Or.inl rfl
  | 61, _ => Or.inr rfl
  | 62, _ => Or.inr rfl
  | 63, _ => Or.inr rfl
  | 64, _ => Or.inr rfl
  | 65, _ => Or.inr rfl
  | 66, _ => Or.inr rfl
  | 67, _ => Or.inl rfl
  | 68, _ => Or.inr rfl
  | 69, _ => Or.inr rfl
  | 70, _ => Or.inr rfl
  | 71, _ => Or.inr rfl
  | 72, _ => Or.inr rfl
  | 73, _ => Or.inr rfl
  | 74, _ => Or.inr rfl
  | 75, _ => Or.inr rfl
  | 76, _ => Or.inr rfl
  | 77, _ => Or.inr rfl
  | 78, _ => Or.inr rfl
  | 79, _ => Or.inr rfl
  | 80, _ => Or.inr rfl
  | 81, _ => Or.inr rfl
  | 82, _ => Or.inr rfl
  | 83, _ => Or.inr rfl
  | n + 84, h => absurd h (by omega)
set_option maxRecDepth 20000 in
theorem v_dr6 : ∀ j, q_rO 6 j = none ∨ q_rO 6 j = v_dr 6 j
  | 0 => Or.inr rfl
  | 1 => Or.inr rfl
  | 2 => Or.inr rfl
  | 3 => Or.inr rfl
  | 4 => Or.inr rfl
  | 5 => Or.inr rfl
  | 6 => Or.inr rfl
  | _ + 7 => Or.inl rfl
set_option maxRecDepth 20000 in
theorem v_dr7 : ∀ j, q_rO 7 j = none ∨ q_rO 7 j = v_dr 7 j
  | 0 => Or.inr rfl
  | 1 => Or.inr rfl
  | 2 => Or.inr rfl
  | 3 => Or.inr rfl
  | 4 => Or.inr rfl
  | 5 => Or.inr rfl
  | 6 => Or.inr rfl
  | 7 => Or.inr rfl
  | 8 => Or.inr rfl
  | 9 => Or.inr rfl
  | 10 => Or.inl rfl
  | 11 => Or.inl rfl
  | 12 => Or.inl rfl
  | 13 => Or.inl rfl
  | 14 => Or.inl rfl
  | 15 => Or.inl rfl
  | 16 => Or.inl rfl
  | 17 => Or.inl rfl
  | _ + 18 => Or.inl rfl
set_option maxRecDepth 20000 in
theorem v_dr17 : ∀ j, q_rO 17 j = none ∨ q_rO 17 j = v_dr 17 j
  | 0 => Or.inr rfl
  | 1 => Or.inr rfl
  | 2 => Or.inr rfl
  | 3 => Or.inr rfl
  | 4 => Or.inr rfl
  | 5 => Or.inl rfl
  | 6 => Or.inl rfl
  | _ + 7 => Or.inl rfl
set_option maxRecDepth 20000 in
theorem v_dr23 : ∀ j, q_rO 23 j = none ∨ q_rO 23 j = v_dr 23 j
  | 0 => Or.inr rfl
  | 1 => Or.inr rfl
  | 2 => Or.inr rfl
  | 3 => Or.inr rfl
  | 4 => Or.inr rfl
  | 5 => Or.inr rfl
  | 6 => Or.inr rfl
  | 7 => Or.inr rfl
  | 8 => Or.inr rfl
  | 9 => Or.inr rfl
  | 10 => Or.inl rfl
  | 11 => Or.inl rfl
  | 12 => Or.inl rfl
  | 13 => Or.inl rfl
  | 14 => Or.inl rfl
  | 15 => Or.inl rfl
  | 16 => Or.inl rfl
  | 17 => Or.inl rfl
  | _ + 18 => Or.inl rfl
set_option maxRecDepth 20000 in
theorem v_dr33 : ∀ j, q_rO 33 j = none ∨ q_rO 33 j = v_dr 33 j
  | 0 => Or.inr rfl
  | 1 => Or.inr rfl
  | 2 => Or.inr rfl
  | 3 => Or.inr rfl
  | 4 => Or.inr rfl
  | 5 => Or.inl rfl
  | 6 => Or.inl rfl
  | _ + 7 => Or.inl rfl
set_option maxRecDepth 20000 in
theorem v_dr39 : ∀ j, q_rO 39 j = none ∨ q_rO 39 j = v_dr 39 j
  | 0 => Or.inr rfl
  | 1 => Or.inr rfl
  | 2 => Or.inr rfl
  | 3 => Or.inr rfl
  | 4 => Or.inr rfl
  | 5 => Or.inr rfl
  | 6 => Or.inr rfl
  | 7 => Or.inl rfl
  | 8 => Or.inl rfl
  | 9 => Or.inl rfl
  | 10 => Or.inl rfl
  | 11 => Or.inl rfl
  | 12 => Or.inl rfl
  | 13 => Or.inl rfl
  | 14 => Or.inl rfl
  | _ + 15 => Or.inl rfl
set_option maxRecDepth 20000 in
theorem v_dr40 : ∀ j, q_rO 40 j = none ∨ q_rO 40 j = v_dr 40 j
  | 0 => Or.inr rfl
  | 1 => Or.inr rfl
  | 2 => Or.inr rfl
  | 3 => Or.inl rfl
  | 4 => Or.inl rfl
  | _ + 5 => Or.inl rfl
set_option maxRecDepth 20000 in
theorem v_dr50 : ∀ j, q_rO 50 j = none ∨ q_rO 50 j = v_dr 50 j
  | 0 => Or.inr rfl
  | 1 => Or.inr rfl
  | _ + 2 => Or.inl rfl
set_option maxRecDepth 20000 in
theorem v_dr53 : ∀ j, q_rO 53 j = none ∨ q_rO 53 j = v_dr 53 j
  | 0 => Or.inr rfl
  | 1 => Or.inr rfl
  | 2 => Or.inr rfl
  | 3 => Or.inr rfl
  | 4 => Or.inr rfl
  | 5 => Or.inl rfl
  | 6 => Or.inl rfl
  | _ + 7 => Or.inl rfl
set_option maxRecDepth 20000 in
theorem v_dr57 : ∀ j, q_rO 57 j = none ∨ q_rO 57 j = v_dr 57 j
  | 0 => Or.inr rfl
  | 1 => Or.inr rfl
  | 2 => Or.inr rfl
  | 3 => Or.inr rfl
  | 4 => Or.inr rfl
  | _ + 5 => Or.inl rfl
set_option maxRecDepth 20000 in
theorem v_dr60 : ∀ j, q_rO 60 j = none ∨ q_rO 60 j = v_dr 60 j
  | 0 => Or.inr rfl
  | 1 => Or.inr rfl
  | 2 => Or.inr rfl
  | 3 => Or.inr rfl
  | 4 => Or.inr rfl
  | 5 => Or.inr rfl
  | 6 => Or.inr rfl
  | 7 => Or.inr rfl
  | 8 => Or.inl rfl
  | 9 => Or.inl rfl
  | 10 => Or.inl rfl
  | 11 => Or.inl rfl
  | 12 => Or.inl rfl
  | _ + 13 => Or.inl rfl
set_option maxRecDepth 20000 in
theorem v_dr67 : ∀ j, q_rO 67 j = none ∨ q_rO 67 j = v_dr 67 j
  | 0 => Or.inr rfl
  | 1 => Or.inr rfl
  | 2 => Or.inr rfl
  | 3 => Or.inr rfl
  | 4 => Or.inl rfl
  | 5 => Or.inl rfl
  | 6 => Or.inl rfl
  | 7 => Or.inl rfl
  | 8 => Or.inl rfl
  | 9 => Or.inl rfl
  | 10 => Or.inl rfl
  | 11 => Or.inl rfl
  | 12 => Or.inl rfl
  | 13 => Or.inl rfl
  | 14 => Or.inl rfl
  | 15 => Or.inl rfl
  | 16 => Or.inr rfl
  | 17 => Or.inl rfl
  | 18 => Or.inl rfl
  | 19 => Or.inl rfl
  | 20 => Or.inl rfl
  | 21 => Or.inl rfl
  | 22 => Or.inr rfl
  | 23 => Or.inr rfl
  | 24 => Or.inr rfl
  | 25 => Or.inr rfl
  | 26 => Or.inl rfl
  | 27 => Or.inl rfl
  | 28 => Or.inl rfl
  | 29 => Or.inr rfl
  | 30 => Or.inr rfl
  | 31 => Or.inr rfl
  | 32 => Or.inr rfl
  | 33 => Or.inr rfl
  | 34 => Or.inr rfl
  | 35 => Or.inl rfl
  | 36 => Or.inr rfl
  | _ + 37 => Or.inl rfl
theorem v_drE : ∀ k, k < 84 → ∀ j, q_rO k j = none ∨ q_rO k j = v_dr k j
  | 0, _ => fun j => Or.inl (by cases j <;> rfl)
  | 1, _ => fun j => Or.inl (by cases j <;> rfl)
  | 2, _ => fun j => Or.inl (by cases j <;> rfl)
  | 3, _ => fun j => Or.inl (by cases j <;> rfl)
  | 4, _ => fun j => Or.inl (by cases j <;> rfl)
  | 5, _ => fun j => Or.inl (by cases j <;> rfl)
  | 6, _ => v_dr6
  | 7, _ => v_dr7
  | 8, _ => fun j => Or.inl (by cases j <;> rfl)
  | 9, _ => fun j => Or.inl (by cases j <;> rfl)
  | 10, _ => fun j => Or.inl (by cases j <;> rfl)
  | 11, _ => fun j => Or.inl (by cases j <;> rfl)
  | 12, _ => fun j => Or.inl (by cases j <;> rfl)
  | 13, _ => fun j => Or.inl (by cases j <;> rfl)
  | 14, _ => fun j => Or.inl (by cases j <;> rfl)
  | 15, _ => fun j => Or.inl (by cases j <;> rfl)
  | 16, _ => fun j => Or.inl (by cases j <;> rfl)
  | 17, _ => v_dr17
  | 18, _ => fun j => Or.inl (by cases j <;> rfl)
  | 19, _ => fun j => Or.inl (by cases j <;> rfl)
  | 20, _ => fun j => Or.inl (by cases j <;> rfl)
  | 21, _ => fun j => Or.inl (by cases j <;> rfl)
  | 22, _ => fun j => Or.inl (by cases j <;> rfl)
  | 23, _ => v_dr23
  | 24, _ => fun j => Or.inl (by cases j <;> rfl)
  | 25, _ => fun j => Or.inl (by cases j <;> rfl)
  | 26, _ => fun j => Or.inl (by cases j <;> rfl)
  | 27, _ => fun j => Or.inl (by cases j <;> rfl)
  | 28, _ => fun j => Or.inl (by cases j <;> rfl)
  | 29, _ => fun j => Or.inl (by cases j <;> rfl)
  | 30, _ => fun j => Or.inl (by cases j <;> rfl)
  | 31, _ => fun j => Or.inl (by cases j <;> rfl)
  | 32, _ => fun j => Or.inl (by cases j <;> rfl)
  | 33, _ => v_dr33
  | 34, _ => fun j => Or.inl (by cases j <;> rfl)
  | 35, _ => fun j => Or.inl (by cases j <;> rfl)
  | 36, _ => fun j => Or.inl (by cases j <;> rfl)
  | 37, _ => fun j => Or.inl (by cases j <;> rfl)
  | 38, _ => fun j => Or.inl (by cases j <;> rfl)
  | 39, _ => v_dr39
  | 40, _ => v_dr40
  | 41, _ => fun j => Or.inl (by cases j <;> rfl)
  | 42, _ => fun j => Or.inl (by cases j <;> rfl)
  | 43, _ => fun j => Or.inl (by cases j <;> rfl)
  | 44, _ => fun j => Or.inl (by cases j <;> rfl)
  | 45, _ => fun j => Or.inl (by cases j <;> rfl)
  | 46, _ => fun j => Or.inl (by cases j <;> rfl)
  | 47, _ => fun j => Or.inl (by cases j <;> rfl)
  | 48, _ => fun j => Or.inl (by cases j <;> rfl)
  | 49, _ => fun j => Or.inl (by cases j <;> rfl)
  | 50, _ => v_dr50
  | 51, _ => fun j => Or.inl (by cases j <;> rfl)
  | 52, _ => fun j => Or.inl (by cases j <;> rfl)
  | 53, _ => v_dr53
  | 54, _ => fun j => Or.inl (by cases j <;> rfl)
  | 55, _ => fun j => Or.inl (by cases j <;> rfl)
  | 56, _ => fun j => Or.inl (by cases j <;> rfl)
  | 57, _ => v_dr57
  | 58, _ => fun j => Or.inl (by cases j <;> rfl)
  | 59, _ => fun j => Or.inl (by cases j <;> rfl)
  | 60, _ => v_dr60
  | 61, _ => fun j => Or.inl (by cases j <;> rfl)
  | 62, _ => fun j => Or.inl (by cases j <;> rfl)
  | 63, _ => fun j => Or.inl (by cases j <;> rfl)
  | 64, _ => fun j => Or.inl (by cases j <;> rfl)
  | 65, _ => fun j => Or.inl (by cases j <;> rfl)
  | 66, _ => fun j => Or.inl (by cases j <;> rfl)
  | 67, _ => v_dr67
  | 68, _ => fun j => Or.inl (by cases j <;> rfl)
  | 69, _ => fun j => Or.inl (by cases j <;> rfl)
  | 70, _ => fun j => Or.inl (by cases j <;> rfl)
  | 71, _ => fun j => Or.inl (by cases j <;> rfl)
  | 72, _ => fun j => Or.inl (by cases j <;> rfl)
  | 73, _ => fun j => Or.inl (by cases j <;> rfl)
  | 74, _ => fun j => Or.inl (by cases j <;> rfl)
  | 75, _ => fun j => Or.inl (by cases j <;> rfl)
  | 76, _ => fun j => Or.inl (by cases j <;> rfl)
  | 77, _ => fun j => Or.inl (by cases j <;> rfl)
  | 78, _ => fun j => Or.inl (by cases j <;> rfl)
  | 79, _ => fun j => Or.inl (by cases j <;> rfl)
  | 80, _ => fun j => Or.inl (by cases j <;> rfl)
  | 81, _ => fun j => Or.inl (by cases j <;> rfl)
  | 82, _ => fun j => Or.inl (by cases j <;> rfl)
  | 83, _ => fun j => Or.inl (by cases j <;> rfl)
  | n + 84, h => absurd h (by omega)
theorem v_Gr (L : Nat) : q_Gr 84 (v_ln L) v_dr := by
  refine ⟨Nat.le_refl _, fun k M h => ?_, fun k j b h => ?_, fun s j hs hj => absurd hs.2.2 (by have := hs.1; omega)⟩
  · rcases v_lnE L k (t_lO84 h) with q | q
    · rw [q] at h; cases h
    · rw [q] at h; exact Option.some.inj h
  · rcases v_drE k (t_rO84 h) j with q | q
    · rw [q] at h; cases h
    · rw [← q]; exact h
/-- an empty house -/
theorem v_RH0 {n : Nat} {ln : Nat → Nat} {di : Nat → Nat → Int32} {h w s c st pd so po se r17 r18 r19 r20 r21 r22 : Nat → Int32} {sc : Nat → Option Nat} {a tx : Nat → Int32}
    (h10 : h 10 = 0) (h11 : h 11 = 0) (h12 : h 12 = 0) (h13 : h 13 = 0) (h14 : h 14 = 0) (h15 : h 15 = -1) (h16 : h 16 = 17) (h17 : h 17 = 0) (hp : ∀ j, j < 6 → w j = 0 ∧ s j = 0 ∧ c j = 0 ∧ st j = -1 ∧ pd j = 0) (hl : ∀ l, l < 10 → so l = 0 ∧ po l = 0 ∧ se l = 0) (hs5 : r17 5 = 0) (hs6 : r17 6 = 0) (hsc : ∀ t, t < 4 → sc t = none)
    (a3 : a 3 = 17) (a5 : a 5 = -1) (as : ∀ j, j < 6 → a (10 + 6 * j + 3) = -1) (a0 : ∀ i, i < 76 → ¬ i = 3 → ¬ i = 5 → (∀ j, j < 6 → ¬ i = 10 + 6 * j + 3) → a i = 0) : q_RH n ln di h w s c st pd so po se r17 r18 r19 r20 r21 r22 sc a tx 0 0 0 0 0 := by
  have z : ∀ i, i < 8 → ¬ i = 3 → ¬ i = 5 → a i = 0 := fun i h1 h2 h3 => a0 i (by omega) h2 h3 (fun j hj => by omega)
  have zp : ∀ j e, j < 6 → e < 6 → ¬ e = 3 → a (10 + 6 * j + e) = 0 := fun j e hj he h3 => a0 _ (by omega) (by omega) (by omega) (fun i hi => by omega)
  have zl : ∀ i, 46 ≤ i → i < 76 → a i = 0 := fun i h1 h2 => a0 i h2 (by omega) (by omega) (fun j hj => by omega)
  have ms : q_ms (fun j => a (10 + 6 * j + 4)) = 0 := (q_ms_cg (f := fun _ => 0) (f' := fun j => a (10 + 6 * j + 4)) (fun j hj => zp j 4 hj (by decide) (by decide))).trans (by decide)
  refine ⟨⟨by decide, by decide, by decide, by decide, by decide, z 0 (by decide) (by decide) (by decide), z 1 (by decide) (by decide) (by decide), z 4 (by decide) (by decide) (by decide), z 6 (by decide) (by decide) (by decide), z 7 (by decide) (by decide) (by decide), Or.inl a5⟩, ⟨fun j hj => ⟨⟨0, by decide, zp j 0 hj (by decide) (by decide)⟩, ⟨0, by decide, zp j 1 hj (by decide) (by decide)⟩⟩, fun j hj => Or.inl (as j hj), fun j _ hj => ⟨as j hj, zp j 4 hj (by decide) (by decide), zp j 5 hj (by decide) (by decide)⟩, fun i j hi _ _ _ => as i hi⟩, fun l hl' => ⟨⟨0, by decide, zl _ (by omega) (by omega)⟩, ⟨0, by decide, zl _ (by omega) (by omega)⟩⟩, fun s hs => absurd hs (Nat.not_lt_zero s), ⟨?_, ?_, ?_, ?_, ?_, ?_, ?_⟩, fun j hj => ⟨?_, ?_, ?_, ?_, ?_⟩, ⟨?_, fun j hj => Or.inl (zp j 4 hj (by decide) (by decide))⟩, fun l hl' => ⟨?_, ?_⟩, fun l hl' => ?_, ⟨0, by decide, hs5, hs6, fun s hs => absurd hs (Nat.not_lt_zero s)⟩, fun t ht => absurd ht (Nat.not_lt_zero t), fun t z0 ht hz => ?_⟩
  · rw [h10, z 0 (by decide) (by decide) (by decide)]
  · rw [h12, z 1 (by decide) (by decide) (by decide)]
  · rw [h17, z 2 (by decide) (by decide) (by decide)]
  · rw [h16, a3]
  · rw [h14, z 4 (by decide) (by decide) (by decide)]
  · rw [h15, a5]
  · rw [h13, z 7 (by decide) (by decide) (by decide)]
  · rw [(hp j hj).1, zp j 0 hj (by decide) (by decide)]
  · rw [(hp j hj).2.1, zp j 1 hj (by decide) (by decide)]
  · rw [(hp j hj).2.2.1, zp j 2 hj (by decide) (by decide)]
  · rw [(hp j hj).2.2.2.1, as j hj]
  · rw [(hp j hj).2.2.2.2, zp j 5 hj (by decide) (by decide)]
  · rw [h11, ms]; rfl
  · rw [(hl l hl').1, zl _ (by omega) (by omega)]
  · rw [(hl l hl').2.1, zl _ (by omega) (by omega)]
  · rw [(hl l hl').2.2, zl _ (by omega) (by omega)]
  · rw [hsc t ht] at hz; cases hz
section
variable {xs : Nat → Int32} {b : Nat → Int32}
theorem v_m1 (f : Nat → Int32) (hf : f 0 = -1 ∧ f 1 = -1 ∧ f 2 = -1 ∧ f 3 = -1 ∧ f 4 = -1 ∧ f 5 = -1) : ∀ j, j < 6 → f j = -1
  | 0, _ => hf.1
  | 1, _ => hf.2.1
  | 2, _ => hf.2.2.1
  | 3, _ => hf.2.2.2.1
  | 4, _ => hf.2.2.2.2.1
  | 5, _ => hf.2.2.2.2.2
  | n + 6, h => absurd h (by omega)
theorem v_68 : v_di xs 68 = va_up (va_up (va_up (va_up (va_up (va_up (va_up (va_up (fun _ => 0) 5 (-1)) 3 17) 13 (-1)) 19 (-1)) 25 (-1)) 31 (-1)) 37 (-1)) 43 (-1) := rfl
theorem v_68s : ∀ j, j < 6 → v_di xs 68 (10 + 6 * j + 3) = -1
  | 0, _ => rfl
  | 1, _ => rfl
  | 2, _ => rfl
  | 3, _ => rfl
  | 4, _ => rfl
  | 5, _ => rfl
  | n + 6, h => absurd h (by omega)
theorem v_680 (i : Nat) (h3 : ¬ i = 3) (h5 : ¬ i = 5) (hj : ∀ j, j < 6 → ¬ i = 10 + 6 * j + 3) : v_di xs 68 i = 0 := by
  rw [v_68, q_upN _ _ (hj 5 (by decide)), q_upN _ _ (hj 4 (by decide)), q_upN _ _ (hj 3 (by decide)), q_upN _ _ (hj 2 (by decide)), q_upN _ _ (hj 1 (by decide)), q_upN _ _ (hj 0 (by decide)), q_upN _ _ h3, q_upN _ _ h5]
theorem v_56 : v_di xs 56 = fun i => if i < 490 then -1 else 0 := rfl
theorem v_61 : v_di xs 61 = fun i => if i < 64 then -1 else 0 := rfl
set_option maxRecDepth 20000 in
theorem v_RR (L : Nat) (hb : ∀ t, t < 706 → b t = v_di xs 68 t) : q_RR 0 84 v_sl (v_ln L) (va_up (v_di xs) 69 b) v_dr := by
  have e : ∀ k, ¬ k = 69 → (va_up (v_di xs) 69 b) k = v_di xs k := fun k hk => q_upN _ _ hk
  have e69 : (va_up (v_di xs) 69 b) 69 = b := q_upE _ _ _
  have c1 : v_di xs 1 = fun j => q_near.getD j 0 := rfl
  have c2 : v_di xs 2 = fun j => q_ord.getD j 0 := rfl
  have c3 : v_di xs 3 = fun j => q_nol.getD j 0 := rfl
  have c5 : v_di xs 5 = fun j => q_byt.getD j 0 := rfl
  have t40 : v_di xs 40 3 = 0 := rfl
  have t67 : v_di xs 67 4 = 0 ∧ v_di xs 67 5 = -1 ∧ v_di xs 67 6 = -1 := ⟨rfl, rfl, rfl⟩
  have t39 : v_di xs 39 13 = -1 ∧ v_di xs 39 14 = -1 := ⟨rfl, rfl⟩
  refine ⟨v_Gr L, ⟨0, Nat.le_refl _, rfl⟩, v_slE, ⟨?_, ?_, ?_, ?_⟩, ⟨0, by decide, ?_, ?_, fun i hi => absurd hi (Nat.not_lt_zero i)⟩, ⟨?_, ?_⟩, 0, 0, 0, 0, 0, 0, 0, 0, 0, 0, ?_, ?_, Nat.le_refl _, ⟨fun l j r u v h1 h2 h3 h4 h5 => ⟨fun _ => ?_, fun q => absurd ?_ q⟩, fun l g r h1 h2 h3 q => absurd ?_ q⟩, w_CR_0 (fun m hm => ?_) ?_⟩
  · rw [e 1 (by decide), c1]; exact fun _ _ => rfl
  · rw [e 2 (by decide), c2]; exact fun _ _ => rfl
  · rw [e 3 (by decide), c3]; exact fun _ _ => rfl
  · rw [e 5 (by decide), c5]; exact fun _ _ => rfl
  · rw [e 40 (by decide), t40]; rfl
  · rw [e 67 (by decide), t67.1]; rfl
  · rw [e 39 (by decide), e 67 (by decide), t39.1, t67.2.1]
  · rw [e 39 (by decide), e 67 (by decide), t39.2, t67.2.2]
  · rw [e 7 (by decide), e 8 (by decide), e 9 (by decide), e 10 (by decide), e 11 (by decide), e 12 (by decide), e 13 (by decide), e 14 (by decide), e 15 (by decide), e 17 (by decide), e 18 (by decide), e 19 (by decide), e 20 (by decide), e 21 (by decide), e 22 (by decide), e 68 (by decide), e 70 (by decide)]
    exact v_RH0 rfl rfl rfl rfl rfl rfl rfl rfl (fun j hj => ⟨rfl, rfl, rfl, v_m1 _ ⟨rfl, rfl, rfl, rfl, rfl, rfl⟩ j hj, rfl⟩) (fun l _ => ⟨rfl, rfl, rfl⟩) rfl rfl (fun t _ => rfl) rfl rfl v_68s (fun i _ h3 h5 hj => v_680 i h3 h5 hj)
  · rw [e69, e 23 (by decide), e 24 (by decide), e 25 (by decide), e 26 (by decide), e 27 (by decide), e 28 (by decide), e 29 (by decide), e 30 (by decide), e 31 (by decide), e 33 (by decide), e 34 (by decide), e 35 (by decide), e 36 (by decide), e 37 (by decide), e 38 (by decide), e 70 (by decide)]
    exact v_RH0 rfl rfl rfl rfl rfl rfl rfl rfl (fun j hj => ⟨rfl, rfl, rfl, v_m1 _ ⟨rfl, rfl, rfl, rfl, rfl, rfl⟩ j hj, rfl⟩) (fun l _ => ⟨rfl, rfl, rfl⟩) rfl rfl (fun t _ => rfl) (hb 3 (by decide)) (hb 5 (by decide)) (fun j hj => (hb _ (by omega)).trans (v_68s j hj)) (fun i hi h3 h5 hj => (hb i (by omega)).trans (v_680 i h3 h5 hj))
  · rw [e 55 (by decide)]
    show (0 : Int32) &&& _ = 0
    exact Int32.zero_and
  · rw [e 54 (by decide)]
    show (0 : Int32) &&& _ = 0
    exact Int32.zero_and
  · rw [e 56 (by decide), v_56]
    show (if (l * 7 + g) * 7 + r < 490 then (-1 : Int32) else 0) = -1
    rw [if_pos (by omega)]
  · rw [e 61 (by decide), v_61]
    show (if m < 64 then (-1 : Int32) else 0) = -1
    rw [if_pos hm]
  · rw [e 60 (by decide)]; rfl
end
/-- the law, from its entry -/
theorem u_main {L : Nat} (hL : L ≤ 3072) (xs : Nat → Int32) : q_EX q_KD 101 0 0 (q_ent [.ref 0] 4) [] (q_h0 L xs) (fun r h' => r = some (.int 1) ∧ h'.1 ≤ 738000 ∧ h'.2.1 ≤ 6885000) := by
  show q_EX q_KD 101 0 0 [.ref 0, .retAddr 0, .retAddr 0, .retAddr 0] [] (6, 0, q_xl L, q_xi xs, (fun _ _ => 0), (fun _ _ => none)) _
  refine y_new 0 7 7 i0_0 rfl rfl rfl ?_
  refine x_dup 3 i0_3 rfl ?_
  refine x_ci 4 (a := 6) (as := []) (rs := [.ref 6]) i0_4 rfl rfl rfl rfl (Nat.le_of_ble_eq_true rfl) (Nat.le_of_ble_eq_true rfl) rfl rfl (u_c1_6 (d := 98) ?_)
  refine x_astore_n 7 (ls2 := [.ref 0, .ref 6, .retAddr 0, .retAddr 0]) i0_7 (Nat.le_of_ble_eq_true rfl) rfl ?_
  refine y_new 8 68 37 i0_8 rfl rfl rfl ?_
  refine x_dup 11 i0_11 rfl ?_
  refine x_ci 12 (a := 67) (as := []) (rs := [.ref 67]) i0_12 rfl rfl rfl rfl (Nat.le_of_ble_eq_true rfl) (Nat.le_of_ble_eq_true rfl) rfl rfl (u_c115_67 (d := 99) (v_Gr L) (fun b hb => ?_))
  refine x_astore_n 15 (ls2 := [.ref 0, .ref 6, .ref 67, .retAddr 0]) i0_15 (Nat.le_of_ble_eq_true rfl) rfl ?_
  refine x_iconst 16 0 i0_16 rfl ?_
  refine x_istore_n 17 (ls2 := [.ref 0, .ref 6, .ref 67, .int 0]) i0_17 (Nat.le_of_ble_eq_true rfl) rfl ?_
  exact u_loop hL 512 0 84 v_sl (v_ln L) (va_up (v_di xs) 69 b) _ v_dr (by omega) (v_RR L hb) rfl
