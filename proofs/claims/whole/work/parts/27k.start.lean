section
variable {c d n sl : Nat} {ln : Nat → Nat} {di : Nat → Nat → Int32} {dl : Nat → Nat → Int64} {dr : Nat → Nat → Option Nat} {Q : Option Value → q_H → Prop} {P : Nat}
/-- the class's first order -/
theorem c_startX (hP : P ≤ 6) (h10 : di 7 10 = nI P) (hv : ∀ j, j < 6 → di 11 j = -1 ∨ ∃ s, s < 16 ∧ di 11 j = nI s) (hun : ∀ j, P ≤ j → j < 6 → di 11 j = -1) (hd : ∀ i j, i < 6 → j < 6 → i ≠ j → di 11 i = di 11 j → di 11 i = -1) (hg : q_Gr n ln dr)
    (k : ∀ r63 r64, (∀ i, i < (q_ro (di 11) P).1 → r64 i = (q_ro (di 11) P).2 i) → (∀ i, i < (q_tk (di 11) P).1 → r63 i = (q_tk (di 11) P).2 i) → Q none (n, sl, ln, va_up (va_up (va_up di 64 r64) 60 (va_up (di 60) 8 (nI (q_ro (di 11) P).1))) 63 r63, dl, dr)) :
    q_EX q_KD (d + 2) 97 0 [.ref 60, .retAddr 0, .retAddr 0] [] (n, sl, ln, di, dl, dr) Q := by
  obtain ⟨m1, m2⟩ := w_MM hP hv hun hd
  have e6 : q_it (w_pu (fun j => decide (¬ di 11 j = -1))) 6 0 (0, fun _ => 0) = q_ro (di 11) P := by
    rw [w_ro_pu (fun j hj => hv j (by omega))]
    exact q_itP hP (fun i st g1 g2 => by
      unfold w_pu
      rw [if_neg (fun z => absurd (hun i g1 g2) (of_decide_eq_true z))])
  refine g97_0 hg ?_
  have eh : q_u di 60 8 0 = va_up (va_up di 64 (di 64)) 60 (va_up (di 60) 8 (nI 0)) := by rw [q_upid]; rfl
  rw [eh]
  refine c_so7 (d := d) (P := P) hP h10 hun hg 6 0 0 (di 64) (fun _ => 0) rfl (Nat.le_refl _) (fun i hi => absurd hi (Nat.not_lt_zero i)) (fun r64 h64 => ?_)
  rw [e6] at h64 ⊢
  obtain ⟨E, hE⟩ : ∃ E, E = va_up (va_up di 64 r64) 60 (va_up (di 60) 8 (nI (q_ro (di 11) P).1)) := ⟨_, rfl⟩
  rw [← hE]
  have E11 : E 11 = di 11 := by rw [hE]; rfl
  have et : q_it (w_pu (fun s => decide (¬ q_on (E 11) (nI s) 6 0 = -1))) 16 0 (0, fun _ => 0) = q_tk (di 11) P := by rw [E11]; exact (w_tk_pu hP hun).symm
  have h6 : (q_it (w_pu (fun s => decide (¬ q_on (E 11) (nI s) 6 0 = -1))) 16 0 (0, fun _ => 0)).1 ≤ 6 := by
    rw [et, m1]
    exact Nat.le_trans m2 hP
  have st := c_so54 (d := d + 1) (n := n) (sl := sl) (ln := ln) (dl := dl) (dr := dr) (Q := Q) (di := E) hg 16 0 0 (E 63) (fun _ => 0) rfl (fun i hi => absurd hi (Nat.not_lt_zero i)) h6 (fun r63 h63 => by
    rw [et] at h63
    rw [hE]
    exact k r63 r64 h64 h63)
  rw [q_upid] at st
  exact st
end
