section
variable {c d n sl : Nat} {ln : Nat → Nat} {di : Nat → Nat → Int32} {dl : Nat → Nat → Int64} {dr : Nat → Nat → Option Nat} {Q : Option Value → q_H → Prop} {P : Nat} {seat : Nat → Int32}
/-- the model lists the seats that are taken -/
theorem c_fr7 (hP : P ≤ 6) (h0 : di 68 0 = nI P) (hs : (fun j => di 68 (10 + 6 * j + 3)) = seat) (hun : ∀ j, P ≤ j → j < 6 → seat j = -1) (hg : q_Gr n ln dr) : ∀ (c s m : Nat) (r r' : Nat → Int32), s + c = 16 → (∀ i, i < m → r i = r' i) → (q_it (w_pu (fun s => decide (¬ q_on seat (nI s) 6 0 = -1))) c s (m, r')).1 ≤ 6 →
    (∀ r2, (∀ i, i < (q_it (w_pu (fun s => decide (¬ q_on seat (nI s) 6 0 = -1))) c s (m, r')).1 → r2 i = (q_it (w_pu (fun s => decide (¬ q_on seat (nI s) 6 0 = -1))) c s (m, r')).2 i) → q_EX q_KD (d + 2) 196 54 [.ref 67, .int 0, .int 0] [] (n, sl, ln, va_up (va_up di 80 r2) 67 (va_up (di 67) 35 (nI (q_it (w_pu (fun s => decide (¬ q_on seat (nI s) 6 0 = -1))) c s (m, r')).1)), dl, dr) Q) →
    q_EX q_KD (d + 2) 196 7 [.ref 67, .int (nI s), .retAddr 0] [] (n, sl, ln, va_up (va_up di 80 r) 67 (va_up (di 67) 35 (nI m)), dl, dr) Q := by
  intro c
  induction c with
  | zero =>
    intro s m r r' hsc h hM k
    have : s = 16 := by omega
    subst this
    exact g196_7 hg (fun _ => k r h) (fun w => absurd w (by decide))
  | succ c ih =>
    intro s m r r' hsc h hM k
    have e : q_it (w_pu (fun s => decide (¬ q_on seat (nI s) 6 0 = -1))) (c + 1) s (m, r') = q_it (w_pu (fun s => decide (¬ q_on seat (nI s) 6 0 = -1))) c (s + 1) (w_pu (fun s => decide (¬ q_on seat (nI s) 6 0 = -1)) s (m, r')) := rfl
    rw [e] at k hM
    have hA := (w_onA (s := s) hP (by omega) hun).1
    refine g196_7 hg (fun w => absurd ((nI_leI (a := 16) (by decide) (by omega)).mp w) (by omega)) (fun _ => c_onM (d := d) P hP h0 hg ?_)
    have es : (fun j => va_up (va_up di 80 r) 67 (va_up (di 67) 35 (nI m)) 68 (10 + 6 * j + 3)) = seat := hs
    rw [es]
    have yes : ¬ q_on seat (nI s) 6 0 = -1 → m < 6 ∧ w_pu (fun s => decide (¬ q_on seat (nI s) 6 0 = -1)) s (m, r') = (m + 1, va_up r' m (nI s)) := fun q => by
      have ew : w_pu (fun s => decide (¬ q_on seat (nI s) 6 0 = -1)) s (m, r') = (m + 1, va_up r' m (nI s)) := by
        unfold w_pu
        rw [if_pos (decide_eq_true q)]
      refine ⟨?_, ew⟩
      rw [ew] at hM
      have z : m + 1 ≤ (q_it (w_pu (fun s => decide (¬ q_on seat (nI s) 6 0 = -1))) c (s + 1) (m + 1, va_up r' m (nI s))).1 := (w_pu_ge (fun s => decide (¬ q_on seat (nI s) 6 0 = -1)) c (s + 1) (m + 1, va_up r' m (nI s))).1
      omega
    have e8 : va_up (va_up di 80 r) 67 (va_up (di 67) 35 (nI m)) 67 35 = nI m := rfl
    have pos : (0 : Int32) ≤ q_on seat (nI s) P 0 → ¬ q_on seat (nI s) 6 0 = -1 := fun y z => q_not_lt y (hA.mpr z)
    refine g196_18 hg (fun y => ?_) (fun y => ?_) (fun y => ?_)
    · rw [e8]
      exact vp_in_nI (yes (pos y)).1 (by decide)
    · obtain ⟨hm6, ew⟩ := yes (pos y)
      rw [ew] at k hM
      rw [e8, nI_clamp (show m < 2 ^ 31 by omega), nI_1, nI_1]
      have eh : q_u (q_u (va_up (va_up di 80 r) 67 (va_up (di 67) 35 (nI m))) 80 m (nI s)) 67 35 (nI (m + 1)) = va_up (va_up di 80 (va_up r m (nI s))) 67 (va_up (di 67) 35 (nI (m + 1))) := by
        funext k i
        by_cases e1 : k = 67
        · subst e1
          by_cases e2 : i = 35
          · subst e2; rw [q_uE, q_upE, q_upE]
          · rw [q_uN _ _ _ _ _ e2, q_uR (by decide), q_upE, q_upN _ _ e2, q_upE, q_upN _ _ e2]
        · rw [q_uR e1, q_upN _ _ e1]
          by_cases e3 : k = 80
          · subst e3
            by_cases e4 : i = m
            · subst e4; rw [q_uE, q_upE, q_upE]
            · rw [q_uN _ _ _ _ _ e4, q_upN _ _ (by decide), q_upE, q_upE, q_upN _ _ e4]
          · rw [q_uR e3, q_upN _ _ e1, q_upN _ _ e3, q_upN _ _ e3]
      rw [eh]
      refine ih (s + 1) (m + 1) _ _ (by omega) (fun i hi => ?_) hM k
      by_cases e1 : i = m
      · subst e1; rw [q_upE, q_upE]
      · rw [q_upN _ _ e1, q_upN _ _ e1]; exact h i (by omega)
    · have ew : w_pu (fun s => decide (¬ q_on seat (nI s) 6 0 = -1)) s (m, r') = (m, r') := by
        unfold w_pu
        rw [if_neg (fun z => absurd (hA.mp y) (of_decide_eq_true z))]
      rw [ew] at k hM
      rw [nI_1]
      exact ih (s + 1) m r r' (by omega) h hM k
end
