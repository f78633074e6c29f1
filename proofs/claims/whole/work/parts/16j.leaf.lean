section
variable {d n sl : Nat} {ln : Nat → Nat} {di : Nat → Nat → Int32} {dl : Nat → Nat → Int64} {dr : Nat → Nat → Option Nat} {Q : Option Value → q_H → Prop}
/-- person, class and model -/
theorem c_personX {x1 x2 x3 : Int32} (p : Nat) (hp : p ≤ 6) (he : di 7 10 = nI p) (hg : q_Gr n ln dr)
    (k1 : ((0 : Int32) ≤ x1 ∧ x1 ≤ 9) → ((0 : Int32) ≤ x2 ∧ x2 ≤ 9) → ((0 : Int32) ≤ x3 ∧ x3 ≤ 10) → p < 6 → Q (some (.int (nI p))) (n, sl, ln, q_u (q_u (q_u (q_u di 8 p x1) 9 p x2) 10 p x3) 7 10 (nI (p + 1)), dl, dr))
    (k0 : ¬ (((0 : Int32) ≤ x1 ∧ x1 ≤ 9) ∧ ((0 : Int32) ≤ x2 ∧ x2 ≤ 9) ∧ ((0 : Int32) ≤ x3 ∧ x3 ≤ 10) ∧ p < 6) → Q (some (.int (-1))) (n, sl, ln, di, dl, dr)) : q_EX q_KD (d + 1) 11 0 [.ref 6, .int x1, .int x2, .int x3] [] (n, sl, ln, di, dl, dr) Q := by
  have e : (nI p).toNatClampNeg = p := nI_clamp (by omega)
  refine g11_0 hg (c_within hg (g11_6 hg (fun c => k0 (fun h => q_bn.mp c h.1)) (fun c1 => c_within hg (g11_15 hg (fun c => k0 (fun h => q_bn.mp c h.2.1)) (fun c2 => c_within hg (g11_24 hg (fun c3 => ?_) (fun c => k0 (fun h => q_bn.mp c h.2.2.1))))))))
  have hv : di 7 10 < 6 → vp_in (di 7 10) 6 := fun c => by
    rw [he] at c ⊢
    exact vp_in_nI ((nI_ltI (b := 6) (by omega) (by decide)).mp c) (by decide)
  refine g13_0 hg hv hv hv (fun c => g11_39 hg ?_) (fun c => g11_39 hg ?_)
  · rw [he] at c
    have hlt : p < 6 := (nI_ltI (b := 6) (by omega) (by decide)).mp c
    rw [he, e, nI_1, nI_pred]
    exact k1 (q_bp.mp c1) (q_bp.mp c2) (q_bp.mp c3) hlt
  · rw [he] at c
    have hge : 6 ≤ p := (nI_leI (a := 6) (by decide) (by omega)).mp c
    exact k0 (fun h => by omega)
end
