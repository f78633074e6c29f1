section
variable {c d n sl : Nat} {ln : Nat → Nat} {di : Nat → Nat → Int32} {dl : Nat → Nat → Int64} {dr : Nat → Nat → Option Nat} {Q : Option Value → q_H → Prop} {P : Nat} {seat : Nat → Int32}
/-- the model's first order -/
theorem c_firstM (hP : P ≤ 6) (h0 : di 68 0 = nI P) (hs : (fun j => di 68 (10 + 6 * j + 3)) = seat) (hv : ∀ j, j < 6 → seat j = -1 ∨ ∃ s, s < 16 ∧ seat j = nI s) (hun : ∀ j, P ≤ j → j < 6 → seat j = -1) (hd : ∀ i j, i < 6 → j < 6 → i ≠ j → seat i = seat j → seat i = -1) (hg : q_Gr n ln dr)
    (k : ∀ r80 r81, (∀ i, i < (q_ro seat P).1 → r81 i = (q_ro seat P).2 i) → (∀ i, i < (q_tk seat P).1 → r80 i = (q_tk seat P).2 i) → Q none (n, sl, ln, va_up (va_up (va_up di 80 r80) 67 (va_up (di 67) 35 (nI (q_tk seat P).1))) 81 r81, dl, dr)) :
    q_EX q_KD (d + 2) 196 0 [.ref 67, .retAddr 0, .retAddr 0] [] (n, sl, ln, di, dl, dr) Q := by
  obtain ⟨m1, m2⟩ := w_MM hP hv hun hd
  have et : q_it (w_pu (fun s => decide (¬ q_on seat (nI s) 6 0 = -1))) 16 0 (0, fun _ => 0) = q_tk seat P := (w_tk_pu hP hun).symm
  have er : q_it (w_pu (fun j => decide (¬ seat j = -1))) P 0 (0, fun _ => 0) = q_ro seat P := (w_ro_pu (fun j hj => hv j (by omega))).symm
  have h6 : (q_it (w_pu (fun s => decide (¬ q_on seat (nI s) 6 0 = -1))) 16 0 (0, fun _ => 0)).1 ≤ 6 := by
    rw [et, m1]
    exact Nat.le_trans m2 hP
  refine g196_0 hg ?_
  have eh : q_u di 67 35 0 = va_up (va_up di 80 (di 80)) 67 (va_up (di 67) 35 (nI 0)) := by rw [q_upid]; rfl
  rw [eh]
  refine c_fr7 (d := d) (P := P) hP h0 hs hun hg 16 0 0 (di 80) (fun _ => 0) rfl (fun i hi => absurd hi (Nat.not_lt_zero i)) h6 (fun r80 h80 => ?_)
  rw [et] at h80 ⊢
  obtain ⟨E, hE⟩ : ∃ E, E = va_up (va_up di 80 r80) 67 (va_up (di 67) 35 (nI (q_tk seat P).1)) := ⟨_, rfl⟩
  rw [← hE]
  have E68 : E 68 = di 68 := by rw [hE]; rfl
  have st := c_fr54 (d := d + 1) (n := n) (sl := sl) (ln := ln) (dl := dl) (dr := dr) (Q := Q) (di := E) (P := P) (seat := seat) hP (by rw [E68]; exact h0) (fun j _ => by rw [E68]; exact congrFun hs j) hv hg P 0 0 (E 81) (fun _ => 0) (by omega) (Nat.le_refl _) (fun i hi => absurd hi (Nat.not_lt_zero i)) (fun r81 h81 => by
    rw [er] at h81
    rw [hE]
    exact k r80 r81 h81 h80)
  rw [q_upid] at st
  exact st
end
