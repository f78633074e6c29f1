/-- one more is put on the list -/
def w_pu (A : Nat → Bool) (j : Nat) (st : Nat × (Nat → Int32)) : Nat × (Nat → Int32) := if A j = true then (st.1 + 1, va_up st.2 st.1 (nI j)) else st
theorem w_pu_le (A : Nat → Bool) : ∀ (c j : Nat) (st : Nat × (Nat → Int32)), (q_it (w_pu A) c j st).1 ≤ st.1 + c := by
  intro c
  induction c with
  | zero => intro j st; exact Nat.le_refl _
  | succ c ih =>
    intro j st
    have := ih (j + 1) (w_pu A j st)
    have e : q_it (w_pu A) (c + 1) j st = q_it (w_pu A) c (j + 1) (w_pu A j st) := rfl
    rw [e]
    have h2 : (w_pu A j st).1 ≤ st.1 + 1 := by
      unfold w_pu
      by_cases q : A j = true
      · rw [if_pos q]; exact Nat.le_refl _
      · rw [if_neg q]; omega
    omega
section
variable {c d n sl : Nat} {ln : Nat → Nat} {di : Nat → Nat → Int32} {dl : Nat → Nat → Int64} {dr : Nat → Nat → Option Nat} {Q : Option Value → q_H → Prop} {P : Nat}
/-- the class lists who sits -/
theorem c_so7 (hP : P ≤ 6) (h10 : di 7 10 = nI P) (hun : ∀ j, P ≤ j → j < 6 → di 11 j = -1) (hg : q_Gr n ln dr) : ∀ (c j m : Nat) (r r' : Nat → Int32), j + c = 6 → m ≤ j → (∀ i, i < m → r i = r' i) →
    (∀ r2, (∀ i, i < (q_it (w_pu (fun j => decide (¬ di 11 j = -1))) c j (m, r')).1 → r2 i = (q_it (w_pu (fun j => decide (¬ di 11 j = -1))) c j (m, r')).2 i) → q_EX q_KD (d + 2) 97 54 [.ref 60, .int 0, .int 0] [] (n, sl, ln, va_up (va_up di 64 r2) 60 (va_up (di 60) 8 (nI (q_it (w_pu (fun j => decide (¬ di 11 j = -1))) c j (m, r')).1)), dl, dr) Q) →
    q_EX q_KD (d + 2) 97 7 [.ref 60, .int (nI j), .retAddr 0] [] (n, sl, ln, va_up (va_up di 64 r) 60 (va_up (di 60) 8 (nI m)), dl, dr) Q := by
  intro c
  induction c with
  | zero =>
    intro j m r r' hj hm h k
    have : j = 6 := by omega
    subst this
    exact g97_7 hg (fun _ => k r h) (fun w => absurd w (by decide))
  | succ c ih =>
    intro j m r r' hj hm h k
    have hj6 : j < 6 := by omega
    have hjn : (nI j).toNatClampNeg = j := nI_clamp (by omega)
    have e : q_it (w_pu (fun j => decide (¬ di 11 j = -1))) (c + 1) j (m, r') = q_it (w_pu (fun j => decide (¬ di 11 j = -1))) c (j + 1) (w_pu (fun j => decide (¬ di 11 j = -1)) j (m, r')) := rfl
    rw [e] at k
    refine g97_7 hg (fun w => absurd ((nI_leI (a := 6) (by decide) (by omega)).mp w) (by omega)) (fun _ => c_sits (d := d) hg (g97_21 hg (fun y => ?_) (fun _ => vp_in_nI (by omega) (by decide)) (fun y => ?_)))
    · have y' := q_bn.mp y
      rw [hjn] at y'
      have hno : ¬ ¬ di 11 j = -1 := fun z => y' ⟨by
        show (0 : Int32) ≤ nI j ∧ nI j < di 7 10 ∧ nI j < 6
        rw [h10]
        refine (w_told hP).mpr ⟨j, ?_, rfl⟩
        rcases Nat.lt_or_ge j P with q | q
        · exact q
        · exact absurd (hun j q hj6) z, z⟩
      have ew : w_pu (fun j => decide (¬ di 11 j = -1)) j (m, r') = (m, r') := by
        unfold w_pu
        rw [if_neg (fun z => hno (of_decide_eq_true z))]
      rw [ew] at k
      rw [nI_1]
      exact ih (j + 1) m r r' (by omega) (by omega) h k
    · have y' := q_bp.mp y
      rw [hjn] at y'
      have hyes : ¬ di 11 j = -1 := y'.2
      have ew : w_pu (fun j => decide (¬ di 11 j = -1)) j (m, r') = (m + 1, va_up r' m (nI j)) := by
        unfold w_pu
        rw [if_pos (decide_eq_true hyes)]
      rw [ew] at k
      have e8 : va_up (va_up di 64 r) 60 (va_up (di 60) 8 (nI m)) 60 8 = nI m := rfl
      rw [e8, nI_clamp (show m < 2 ^ 31 by omega), nI_1, nI_1]
      have eh : q_u (q_u (va_up (va_up di 64 r) 60 (va_up (di 60) 8 (nI m))) 64 m (nI j)) 60 8 (nI (m + 1)) = va_up (va_up di 64 (va_up r m (nI j))) 60 (va_up (di 60) 8 (nI (m + 1))) := by
        funext k i
        by_cases e1 : k = 60
        · subst e1
          by_cases e2 : i = 8
          · subst e2; rw [q_uE, q_upE, q_upE]
          · rw [q_uN _ _ _ _ _ e2, q_uR (by decide), q_upE, q_upN _ _ e2, q_upE, q_upN _ _ e2]
        · rw [q_uR e1, q_upN _ _ e1]
          by_cases e3 : k = 64
          · subst e3
            by_cases e4 : i = m
            · subst e4; rw [q_uE, q_upE, q_upE]
            · rw [q_uN _ _ _ _ _ e4, q_upN _ _ (by decide), q_upE, q_upE, q_upN _ _ e4]
          · rw [q_uR e3, q_upN _ _ e1, q_upN _ _ e3, q_upN _ _ e3]
      rw [eh]
      refine ih (j + 1) (m + 1) _ _ (by omega) (by omega) (fun i hi => ?_) k
      by_cases e1 : i = m
      · subst e1; rw [q_upE, q_upE]
      · rw [q_upN _ _ e1, q_upN _ _ e1]; exact h i (by omega)
end
