section
variable {c d n sl : Nat} {ln : Nat → Nat} {di : Nat → Nat → Int32} {dl : Nat → Nat → Int64} {dr : Nat → Nat → Option Nat} {Q : Option Value → q_H → Prop} {P : Nat} {seat : Nat → Int32}
/-- the model lists who sits -/
theorem c_fr54 (hP : P ≤ 6) (h0 : di 68 0 = nI P) (hs : ∀ j, j < 6 → di 68 (10 + 6 * j + 3) = seat j) (hv : ∀ j, j < 6 → seat j = -1 ∨ ∃ s, s < 16 ∧ seat j = nI s) (hg : q_Gr n ln dr) : ∀ (c j m : Nat) (r r' : Nat → Int32), j + c = P → m ≤ j → (∀ i, i < m → r i = r' i) →
    (∀ r2, (∀ i, i < (q_it (w_pu (fun j => decide (¬ seat j = -1))) c j (m, r')).1 → r2 i = (q_it (w_pu (fun j => decide (¬ seat j = -1))) c j (m, r')).2 i) → Q none (n, sl, ln, va_up di 81 r2, dl, dr)) →
    q_EX q_KD (d + 1) 196 54 [.ref 67, .int (nI m), .int (nI j)] [] (n, sl, ln, va_up di 81 r, dl, dr) Q := by
  intro c
  induction c with
  | zero =>
    intro j m r r' hj hm h k
    refine g196_54 hg (fun _ => k r h) (fun w => ?_)
    have w' : nI j < di 68 0 := w
    rw [h0] at w'
    exact absurd w' (nI_nlt (by omega) (by omega))
  | succ c ih =>
    intro j m r r' hj hm h k
    have e : q_it (w_pu (fun j => decide (¬ seat j = -1))) (c + 1) j (m, r') = q_it (w_pu (fun j => decide (¬ seat j = -1))) c (j + 1) (w_pu (fun j => decide (¬ seat j = -1)) j (m, r')) := rfl
    rw [e] at k
    refine g196_54 hg (fun w => ?_) (fun _ => c_get j 3 hg (by omega) ?_)
    · have w' : di 68 0 ≤ nI j := w
      rw [h0] at w'
      exact absurd w' (nI_ge (by omega) (by omega))
    have ev : va_up di 81 r 68 (10 + 6 * j + 3) = seat j := hs j (by omega)
    rw [ev]
    refine g196_70 hg (fun _ => vp_in_nI (by omega) (by decide)) (fun y => ?_) (fun y => ?_)
    · have hyes : ¬ seat j = -1 := fun z => by rw [z] at y; exact absurd y (by decide)
      have ew : w_pu (fun j => decide (¬ seat j = -1)) j (m, r') = (m + 1, va_up r' m (nI j)) := by
        unfold w_pu
        rw [if_pos (decide_eq_true hyes)]
      rw [ew] at k
      rw [nI_clamp (show m < 2 ^ 31 by omega), nI_1, nI_1]
      have eh : q_u (va_up di 81 r) 81 m (nI j) = va_up di 81 (va_up r m (nI j)) := by
        show va_up (va_up di 81 r) 81 (va_up (va_up di 81 r 81) m (nI j)) = _
        rw [q_upup, q_upE]
      rw [eh]
      refine ih (j + 1) (m + 1) _ _ (by omega) (by omega) (fun i hi => ?_) k
      by_cases e1 : i = m
      · subst e1; rw [q_upE, q_upE]
      · rw [q_upN _ _ e1, q_upN _ _ e1]; exact h i (by omega)
    · have hno : seat j = -1 := by
        rcases hv j (by omega) with q | ⟨s, q1, q2⟩
        · exact q
        · rw [q2] at y; exact absurd y (nI_pos (by omega))
      have ew : w_pu (fun j => decide (¬ seat j = -1)) j (m, r') = (m, r') := by
        unfold w_pu
        rw [if_neg (fun z => absurd hno (of_decide_eq_true z))]
      rw [ew] at k
      rw [nI_1]
      exact ih (j + 1) m r r' (by omega) (by omega) h k
end
