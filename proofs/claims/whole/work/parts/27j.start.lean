theorem w_MM0 {seat : Nat → Int32} {P N : Nat} {q z : Nat × (Nat → Int32)} (h : w_cn (fun s => decide (∃ i, i < P ∧ seat i = nI s)) N 0 = w_cn (fun j => decide (¬ seat j = -1)) P 0) (hA : ∀ s, s < N → (¬ q_on seat (nI s) 6 0 = -1 ↔ ∃ i, i < P ∧ seat i = nI s)) (hq : q = q_it (w_pu (fun s => decide (¬ q_on seat (nI s) 6 0 = -1))) N 0 (0, fun _ => 0)) (hz : z = q_it (w_pu (fun j => decide (¬ seat j = -1))) P 0 (0, fun _ => 0)) : q.1 = z.1 ∧ z.1 ≤ P := by
  have e1 : q.1 = 0 + w_cn (fun s => decide (¬ q_on seat (nI s) 6 0 = -1)) N 0 := by rw [hq]; exact w_pu_cn _ N 0 _
  have e2 : z.1 = 0 + w_cn (fun j => decide (¬ seat j = -1)) P 0 := by rw [hz]; exact w_pu_cn _ P 0 _
  have e3 : w_cn (fun s => decide (¬ q_on seat (nI s) 6 0 = -1)) N 0 = w_cn (fun s => decide (∃ i, i < P ∧ seat i = nI s)) N 0 := w_cn_cg N 0 (fun s _ hs => decide_eq_decide.mpr (hA s (by omega)))
  have e4 : z.1 ≤ 0 + P := by rw [hz]; exact w_pu_le _ P 0 (0, fun _ => 0)
  refine ⟨?_, by omega⟩
  rw [e1, e2, e3, h]
theorem w_MM {seat : Nat → Int32} {P : Nat} (hP : P ≤ 6) (hv : ∀ j, j < 6 → seat j = -1 ∨ ∃ s, s < 16 ∧ seat j = nI s) (hun : ∀ j, P ≤ j → j < 6 → seat j = -1) (hd : ∀ i j, i < 6 → j < 6 → i ≠ j → seat i = seat j → seat i = -1) : (q_tk seat P).1 = (q_ro seat P).1 ∧ (q_ro seat P).1 ≤ P :=
  w_MM0 (w_tkro (seat := seat) (N := 16) (Nat.le_refl _) P hP (fun j hj => hv j (by omega)) (fun i j hi hj => hd i j (by omega) (by omega))) (fun s hs => (w_onA hP (by omega) hun).2) (w_tk_pu hP hun) (w_ro_pu (fun j hj => hv j (by omega)))
