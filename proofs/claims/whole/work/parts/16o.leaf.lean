section
variable {d n sl : Nat} {ln : Nat → Nat} {di : Nat → Nat → Int32} {dl : Nat → Nat → Int64} {dr : Nat → Nat → Option Nat} {Q : Option Value → q_H → Prop}
/-- line, model side -/
theorem c_lineM {x1 x2 : Int32} (p : Nat) (hp : p ≤ 10) (he : di 68 1 = nI p) (hg : q_Gr n ln dr)
    (k1 : ((0 : Int32) ≤ x1 ∧ x1 ≤ 2) → ((0 : Int32) ≤ x2 ∧ x2 ≤ 9) → p < 10 → Q (some (.int (nI p))) (n, sl, ln, q_u (q_u (q_u di 68 (46 + 2 * p) x1) 68 (46 + 2 * p + 1) x2) 68 1 (nI (p + 1)), dl, dr))
    (k0 : ¬ (((0 : Int32) ≤ x1 ∧ x1 ≤ 2) ∧ ((0 : Int32) ≤ x2 ∧ x2 ≤ 9) ∧ p < 10) → Q (some (.int (-1))) (n, sl, ln, di, dl, dr)) : q_EX q_KD (d + 1) 120 0 [.ref 67, .int x1, .int x2] [] (n, sl, ln, di, dl, dr) Q := by
  have e1 : (46 : Int32) + ((2 : Int32) * nI p) = nI (46 + 2 * p) := by
    have : (2 : Int32) * nI p = nI (2 * p) := nI_mulN 2 p
    rw [this]; exact nI_add 46 _
  have e2 : (nI (46 + 2 * p)).toNatClampNeg = 46 + 2 * p := nI_clamp (by omega)
  have e3 : (nI (46 + 2 * p + 1)).toNatClampNeg = 46 + 2 * p + 1 := nI_clamp (by omega)
  have r1 : q_u di 68 (46 + 2 * p) x1 68 1 = nI p := by rw [q_uN _ _ _ _ _ (by omega), he]
  have r2 : q_u (q_u di 68 (46 + 2 * p) x1) 68 (46 + 2 * p + 1) x2 68 1 = nI p := by rw [q_uN _ _ _ _ _ (by omega), r1]
  refine g120_0 hg (c_isIn hg (g120_6 hg (fun c => k0 (fun h => q_bn.mp c h.1)) (fun c1 => c_isIn hg (g120_16 hg (fun c => k0 (fun h => q_bn.mp c h.2.1)) (fun _ c => ?_) (fun _ c => ?_) (fun c2 c => ?_) (fun _ c => ?_)))))
  · rw [he, e1]; exact vp_in_nI (by omega) (by decide)
  · rw [he, e1, e2, r1, e1, nI_1]; exact vp_in_nI (by omega) (by decide)
  · have hlt : p < 10 := by
      rcases Nat.lt_or_ge p 10 with h | h
      · exact h
      · exact absurd (by rw [he]; exact congrArg nI (Nat.le_antisymm hp h)) c
    rw [he, e1, e2, r1, e1, nI_1, e3, r2, nI_1, nI_pred]
    exact k1 (q_bp.mp c1) (q_bp.mp c2) hlt
  · rw [he] at c
    have h6 : p = 10 := (nI_eq (b := 10) (by omega) (by decide)).mp c
    exact k0 (fun h => by omega)
end
