theorem w_pu_ge (A : Nat → Bool) : ∀ (c j : Nat) (st : Nat × (Nat → Int32)), st.1 ≤ (q_it (w_pu A) c j st).1 ∧ ((q_it (w_pu A) c j st).1 = st.1 → q_it (w_pu A) c j st = st) := by
  intro c
  induction c with
  | zero => intro j st; exact ⟨Nat.le_refl _, fun _ => rfl⟩
  | succ c ih =>
    intro j st
    have h1 := ih (j + 1) (w_pu A j st)
    have e : q_it (w_pu A) (c + 1) j st = q_it (w_pu A) c (j + 1) (w_pu A j st) := rfl
    rw [e]
    by_cases q : A j = true
    · have ew : (w_pu A j st).1 = st.1 + 1 := by unfold w_pu; rw [if_pos q]
      rw [ew] at h1
      exact ⟨by omega, fun z => by omega⟩
    · have ew : w_pu A j st = st := by unfold w_pu; rw [if_neg q]
      rw [ew] at h1 ⊢
      exact h1
section
variable {c d n sl : Nat} {ln : Nat → Nat} {di : Nat → Nat → Int32} {dl : Nat → Nat → Int64} {dr : Nat → Nat → Option Nat} {Q : Option Value → q_H → Prop} {P : Nat}
/-- the class lists the seats that are taken -/
theorem c_so54 (hg : q_Gr n ln dr) : ∀ (c s m : Nat) (r r' : Nat → Int32), s + c = 16 → (∀ i, i < m → r i = r' i) → (q_it (w_pu (fun s => decide (¬ q_on (di 11) (nI s) 6 0 = -1))) c s (m, r')).1 ≤ 6 →
    (∀ r2, (∀ i, i < (q_it (w_pu (fun s => decide (¬ q_on (di 11) (nI s) 6 0 = -1))) c s (m, r')).1 → r2 i = (q_it (w_pu (fun s => decide (¬ q_on (di 11) (nI s) 6 0 = -1))) c s (m, r')).2 i) → Q none (n, sl, ln, va_up di 63 r2, dl, dr)) →
    q_EX q_KD (d + 1) 97 54 [.ref 60, .int (nI m), .int (nI s)] [] (n, sl, ln, va_up di 63 r, dl, dr) Q := by
  intro c
  induction c with
  | zero =>
    intro s m r r' hs h hM k
    have : s = 16 := by omega
    subst this
    exact g97_54 hg (fun _ => k r h) (fun w => absurd w (by decide)) (fun w => absurd w (by decide))
  | succ c ih =>
    intro s m r r' hs h hM k
    have hm6 : m ≤ 6 := by
      have z : m ≤ (q_it (w_pu (fun s => decide (¬ q_on (di 11) (nI s) 6 0 = -1))) (c + 1) s (m, r')).1 := (w_pu_ge (fun s => decide (¬ q_on (di 11) (nI s) 6 0 = -1)) (c + 1) s (m, r')).1
      omega
    refine g97_54 hg (fun w => absurd ((nI_leI (a := 16) (by decide) (by omega)).mp w) (by omega)) (fun _ w => ?_) (fun _ w => c_onH hg (g97_74 hg (fun y => ?_) (fun _ => ?_) (fun y => ?_)))
    · have w' : 6 ≤ m := (nI_leI (a := 6) (by decide) (by omega)).mp w
      have z := w_pu_ge (fun s => decide (¬ q_on (di 11) (nI s) 6 0 = -1)) (c + 1) s (m, r')
      have z1 : m ≤ (q_it (w_pu (fun s => decide (¬ q_on (di 11) (nI s) 6 0 = -1))) (c + 1) s (m, r')).1 := z.1
      have z2 := z.2 (by show _ = m; omega)
      refine k r ?_
      rw [z2]
      exact h
    · have e : q_it (w_pu (fun s => decide (¬ q_on (di 11) (nI s) 6 0 = -1))) (c + 1) s (m, r') = q_it (w_pu (fun s => decide (¬ q_on (di 11) (nI s) 6 0 = -1))) c (s + 1) (w_pu (fun s => decide (¬ q_on (di 11) (nI s) 6 0 = -1)) s (m, r')) := rfl
      have y' : q_on (di 11) (nI s) 6 0 = -1 := y
      have ew : w_pu (fun s => decide (¬ q_on (di 11) (nI s) 6 0 = -1)) s (m, r') = (m, r') := by
        unfold w_pu
        rw [if_neg (fun z => absurd y' (of_decide_eq_true z))]
      rw [e, ew] at k hM
      rw [nI_1]
      exact ih (s + 1) m r r' (by omega) h hM k
    · have w' : m < 6 := (nI_ltI (b := 6) (by omega) (by decide)).mp w
      exact vp_in_nI w' (by decide)
    · have w' : m < 6 := (nI_ltI (b := 6) (by omega) (by decide)).mp w
      have e : q_it (w_pu (fun s => decide (¬ q_on (di 11) (nI s) 6 0 = -1))) (c + 1) s (m, r') = q_it (w_pu (fun s => decide (¬ q_on (di 11) (nI s) 6 0 = -1))) c (s + 1) (w_pu (fun s => decide (¬ q_on (di 11) (nI s) 6 0 = -1)) s (m, r')) := rfl
      have y' : ¬ q_on (di 11) (nI s) 6 0 = -1 := y
      have ew : w_pu (fun s => decide (¬ q_on (di 11) (nI s) 6 0 = -1)) s (m, r') = (m + 1, va_up r' m (nI s)) := by
        unfold w_pu
        rw [if_pos (decide_eq_true y')]
      rw [e, ew] at k hM
      rw [nI_clamp (show m < 2 ^ 31 by omega), nI_1, nI_1]
      have eh : q_u (va_up di 63 r) 63 m (nI s) = va_up di 63 (va_up r m (nI s)) := by
        show va_up (va_up di 63 r) 63 (va_up (va_up di 63 r 63) m (nI s)) = _
        rw [q_upup, q_upE]
      rw [eh]
      refine ih (s + 1) (m + 1) _ _ (by omega) (fun i hi => ?_) hM k
      by_cases e1 : i = m
      · subst e1; rw [q_upE, q_upE]
      · rw [q_upN _ _ e1, q_upN _ _ e1]; exact h i (by omega)
end
