section
variable {c d n sl : Nat} {ln : Nat → Nat} {di : Nat → Nat → Int32} {dl : Nat → Nat → Int64} {dr : Nat → Nat → Option Nat} {Q : Option Value → q_H → Prop} {M : Nat}
theorem c_swM {row : Nat → Int32} {i j : Nat} (hi : i < 6) (hj : j < 6) (hg : q_Gr n ln dr) (k : Q none (n, sl, ln, va_up di 81 (q_sw row i j), dl, dr)) : q_EX q_KD d 198 0 [.ref 67, .int (nI i), .int (nI j), .retAddr 0] [] (n, sl, ln, va_up di 81 row, dl, dr) Q := by
  refine g198_0 hg (vp_in_nI hi (by decide)) (vp_in_nI hj (by decide)) (vp_in_nI hi (by decide)) (vp_in_nI hj (by decide)) ?_
  rw [nI_clamp (show i < 2 ^ 31 by omega), nI_clamp (show j < 2 ^ 31 by omega)]
  have e : q_u (q_u (va_up di 81 row) 81 i (va_up di 81 row 81 j)) 81 j (va_up di 81 row 81 i) = va_up di 81 (q_sw row i j) := by
    show va_up (va_up (va_up di 81 row) 81 (va_up (va_up di 81 row 81) i (va_up di 81 row 81 j))) 81 (va_up (va_up (va_up di 81 row) 81 (va_up (va_up di 81 row 81) i (va_up di 81 row 81 j)) 81) j (va_up di 81 row 81 i)) = _
    rw [q_upup, q_upup, q_upE, q_upE]
    rfl
  rw [e]
  exact k
theorem c_nm86 (hg : q_Gr n ln dr) : ∀ (f : Nat) (row : Nat → Int32) (p q : Nat), q < 6 → p < 7 → (q ≤ p ∨ q - p < 2 * f) → Q (some (.int 1)) (n, sl, ln, va_up di 81 (q_rv f row p q), dl, dr) → q_EX q_KD (d + 1) 197 86 [.ref 67, .retAddr 0, .retAddr 0, .int (nI p), .int (nI q)] [] (n, sl, ln, va_up di 81 row, dl, dr) Q := by
  intro f
  induction f with
  | zero =>
    intro row p q hq hp h k
    exact g197_86 hg (fun _ => k) (fun w => absurd ((nI_ltI (by omega) (by omega)).mp w) (by omega))
  | succ f ih =>
    intro row p q hq hp h k
    unfold q_rv at k
    by_cases e : p < q
    · rw [if_pos e] at k
      refine g197_86 hg (fun w => absurd ((nI_leI (by omega) (by omega)).mp w) (by omega)) (fun _ => c_swM (by omega) hq hg (g197_99 hg ?_))
      rw [w_dec (by omega), nI_1]
      exact ih _ _ _ (by omega) (by omega) (by omega) k
    · rw [if_neg e] at k
      exact g197_86 hg (fun _ => k) (fun w => absurd ((nI_ltI (by omega) (by omega)).mp w) e)
theorem c_nm47 {row : Nat → Int32} {i : Nat} (hM : M ≤ 6) (h8 : di 67 35 = nI M) (hr : ¬ row (i + 1) < row i) (hg : q_Gr n ln dr) : ∀ k, i < k → k < M → Q (some (.int 1)) (n, sl, ln, va_up di 81 (q_rv M (q_sw row i (q_nxk row (row i) k)) (i + 1) (M - 1)), dl, dr) → q_EX q_KD (d + 2) 197 47 [.ref 67, .int (nI i), .int (nI k), .retAddr 0, .retAddr 0] [] (n, sl, ln, va_up di 81 row, dl, dr) Q := by
  intro k
  induction k with
  | zero => intro h; omega
  | succ k ih =>
    intro h1 h2 kk
    have ei : (nI i).toNatClampNeg = i := nI_clamp (by omega)
    have ek : (nI (k + 1)).toNatClampNeg = k + 1 := nI_clamp (by omega)
    unfold q_nxk at kk
    refine g197_47 hg (vp_in_nI (by omega) (by decide)) (vp_in_nI (by omega) (by decide)) (fun w => ?_) (fun w => ?_)
    · have w' : row i ≤ row (k + 1) := by rw [ei, ek] at w; exact w
      rw [if_neg (q_not_lt w')] at kk
      refine c_swM (d := d + 1) (by omega) (by omega) hg (g197_74 hg ?_)
      have e8 : va_up di 81 (q_sw row i (k + 1)) 67 35 - 1 = nI (M - 1) := by
        show di 67 35 - 1 = _
        rw [h8]; exact (w_m2 M (by omega) (by omega)).2
      rw [e8, nI_1]
      exact c_nm86 (d := d + 1) hg M _ _ _ (by omega) (by omega) (by omega) kk
    · have w' : row (k + 1) < row i := by rw [ei, ek] at w; exact w
      rw [if_pos w'] at kk
      have hne : ¬ k = i := fun e => by subst e; exact hr w'
      rw [w_dec (by omega), Nat.add_sub_cancel]
      exact ih (by omega) (by omega) kk
theorem c_nm7 {row : Nat → Int32} (hM : M ≤ 6) (h8 : di 67 35 = nI M) (hg : q_Gr n ln dr) : ∀ m, m < M → (q_nxi row m = none → Q (some (.int 0)) (n, sl, ln, va_up di 81 row, dl, dr)) → (∀ i, q_nxi row m = some i → Q (some (.int 1)) (n, sl, ln, va_up di 81 (q_rv M (q_sw row i (q_nxk row (row i) (M - 1))) (i + 1) (M - 1)), dl, dr)) → q_EX q_KD (d + 2) 197 7 [.ref 67, .int (nI m + (-1)), .retAddr 0, .retAddr 0, .retAddr 0] [] (n, sl, ln, va_up di 81 row, dl, dr) Q := by
  intro m
  induction m with
  | zero =>
    intro _ k0 _
    exact g197_7 hg (fun _ w => absurd w (by decide)) (fun _ _ => k0 rfl) (fun w => absurd w (by decide)) (fun w => absurd w (by decide)) (fun w => absurd w (by decide)) (fun w => absurd w (by decide)) (fun w => absurd w (by decide))
  | succ m ih =>
    intro hm k0 k1
    have em : (nI m).toNatClampNeg = m := nI_clamp (by omega)
    have em1 : (nI m + 1).toNatClampNeg = m + 1 := by rw [nI_1]; exact nI_clamp (by omega)
    rw [w_dec (by omega), Nat.add_sub_cancel]
    refine g197_7 hg (fun w => absurd w (nI_pos (by omega))) (fun w => absurd w (nI_pos (by omega))) (fun _ => vp_in_nI (by omega) (by decide)) (fun _ => by rw [nI_1]; exact vp_in_nI (by omega) (by decide)) (fun _ w _ => ?_) (fun _ _ w => absurd w (nI_pos (by omega))) (fun _ w => ?_)
    · have w' : row m ≤ row (m + 1) := by rw [em, em1] at w; exact w
      have e8 : va_up di 81 row 67 35 - 1 = nI (M - 1) := by
        show di 67 35 - 1 = _
        rw [h8]; exact (w_m2 M (by omega) (by omega)).2
      rw [e8]
      refine c_nm47 (d := d) hM h8 (q_not_lt w') hg (M - 1) (by omega) (by omega) (k1 m ?_)
      unfold q_nxi
      rw [if_neg (q_not_lt w')]
    · have w' : row (m + 1) < row m := by rw [em, em1] at w; exact w
      have e : q_nxi row (m + 1) = q_nxi row m := by
        rw [show q_nxi row (m + 1) = if row (m + 1) < row m then q_nxi row m else some m from rfl, if_pos w']
      rw [e] at k0 k1
      exact ih (by omega) k0 k1
/-- the model's next row -/
theorem c_nextM {row : Nat → Int32} (hM : M ≤ 6) (h8 : di 67 35 = nI M) (hg : q_Gr n ln dr) (k0 : q_nx M row = none → Q (some (.int 0)) (n, sl, ln, va_up di 81 row, dl, dr)) (k1 : ∀ r, q_nx M row = some r → Q (some (.int 1)) (n, sl, ln, va_up di 81 r, dl, dr)) : q_EX q_KD (d + 2) 197 0 [.ref 67, .retAddr 0, .retAddr 0, .retAddr 0, .retAddr 0] [] (n, sl, ln, va_up di 81 row, dl, dr) Q := by
  refine g197_0 hg ?_
  rw [show va_up di 81 row 67 35 = di 67 35 from rfl, h8]
  by_cases hz : M = 0
  · subst hz
    have e : nI 0 - 2 = -2 := by decide
    rw [e]
    exact g197_7 hg (fun _ w => absurd w (by decide)) (fun _ _ => k0 rfl) (fun w => absurd w (by decide)) (fun w => absurd w (by decide)) (fun w => absurd w (by decide)) (fun w => absurd w (by decide)) (fun w => absurd w (by decide))
  · rw [(w_m2 M (by omega) (by omega)).1]
    refine c_nm7 (d := d) hM h8 hg (M - 1) (by omega) (fun e => k0 ?_) (fun i e => k1 _ ?_)
    · unfold q_nx; rw [e]
    · unfold q_nx; rw [e]
end
