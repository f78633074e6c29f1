/-! the lists of the meaning, in one form -/
theorem w_ro_pu {seat : Nat → Int32} {P : Nat} (hv : ∀ j, j < P → seat j = -1 ∨ ∃ s, s < 16 ∧ seat j = nI s) : q_ro seat P = q_it (w_pu (fun j => decide (¬ seat j = -1))) P 0 (0, fun _ => 0) := by
  unfold q_ro
  refine q_itC P 0 _ (fun j st _ h2 => ?_)
  unfold w_pu
  rcases hv j (by omega) with q | ⟨s, q1, q2⟩
  · rw [if_pos (by rw [q]; decide), if_neg (fun z => absurd q (of_decide_eq_true z))]
  · rw [if_neg (by rw [q2]; exact nI_pos (by omega)), if_pos (decide_eq_true (by rw [q2]; exact w_neg1 (by omega)))]
theorem w_onA {seat : Nat → Int32} {P s : Nat} (hP : P ≤ 6) (hs : s < 2 ^ 31) (hun : ∀ j, P ≤ j → j < 6 → seat j = -1) : (q_on seat (nI s) P 0 < 0 ↔ q_on seat (nI s) 6 0 = -1) ∧ (¬ q_on seat (nI s) 6 0 = -1 ↔ ∃ i, i < P ∧ seat i = nI s) := by
  have h1 := w_on_none (seat := seat) (x := nI s) P 0 (by omega)
  have h2 := w_on_none (seat := seat) (x := nI s) 6 0 (by omega)
  have e : (∀ i, 0 ≤ i → i < 0 + P → ¬ seat i = nI s) ↔ (∀ i, 0 ≤ i → i < 0 + 6 → ¬ seat i = nI s) := by
    refine ⟨fun h i g1 g2 => ?_, fun h i g1 g2 => h i g1 (by omega)⟩
    by_cases q : i < P
    · exact h i g1 (by omega)
    · rw [hun i (by omega) (by omega)]
      exact fun z => w_neg1 hs z.symm
  have k : q_on seat (nI s) P 0 < 0 ↔ q_on seat (nI s) 6 0 = -1 := by
    rw [h1.1, e, ← h2.1]
    refine ⟨fun z => ?_, fun z => by rw [z]; decide⟩
    by_cases q : q_on seat (nI s) 6 0 = -1
    · exact q
    · exact absurd z (h2.2.mp q)
  refine ⟨k, ?_⟩
  rw [← k, h1.1]
  refine ⟨fun h => ?_, fun ⟨i, g1, g2⟩ h => h i (by omega) (by omega) g2⟩
  refine Classical.byContradiction (fun h' => h (fun i g1 g2 g3 => h' ⟨i, by omega, g3⟩))
theorem w_tk_pu {seat : Nat → Int32} {P : Nat} (hP : P ≤ 6) (hun : ∀ j, P ≤ j → j < 6 → seat j = -1) : q_tk seat P = q_it (w_pu (fun s => decide (¬ q_on seat (nI s) 6 0 = -1))) 16 0 (0, fun _ => 0) := by
  unfold q_tk
  refine q_itC 16 0 _ (fun s st _ h2 => ?_)
  have h := (w_onA (s := s) hP (by omega) hun).1
  unfold w_pu
  by_cases q : q_on seat (nI s) P 0 < 0
  · rw [if_pos q, if_neg (fun z => absurd (h.mp q) (of_decide_eq_true z))]
  · have q' : ¬ q_on seat (nI s) 6 0 = -1 := fun z => q (h.mpr z)
    rw [if_neg q, if_pos (decide_eq_true q')]
