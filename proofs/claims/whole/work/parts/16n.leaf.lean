section
variable {d n sl : Nat} {ln : Nat → Nat} {di : Nat → Nat → Int32} {dl : Nat → Nat → Int64} {dr : Nat → Nat → Option Nat} {Q : Option Value → q_H → Prop}
/-- line, class side -/
theorem c_lineX {x1 x2 : Int32} (p : Nat) (hp : p ≤ 10) (he : di 7 12 = nI p) (hL : ln 61 = 64) (hg : q_Gr n ln dr)
    (k1 : ((0 : Int32) ≤ x1 ∧ x1 ≤ 2) → ((0 : Int32) ≤ x2 ∧ x2 ≤ 9) → p < 10 → Q (some (.int (nI p))) (n, sl, ln, q_u (q_u (q_u (q_u (q_fill di 61 (-1) 64 0) 60 9 0) 13 p x1) 14 p x2) 7 12 (nI (p + 1)), dl, dr))
    (k2 : ((0 : Int32) ≤ x1 ∧ x1 ≤ 2) → ((0 : Int32) ≤ x2 ∧ x2 ≤ 9) → p = 10 → Q (some (.int (-1))) (n, sl, ln, q_u (q_fill di 61 (-1) 64 0) 60 9 0, dl, dr))
    (k0 : ¬ (((0 : Int32) ≤ x1 ∧ x1 ≤ 2) ∧ ((0 : Int32) ≤ x2 ∧ x2 ≤ 9)) → Q (some (.int (-1))) (n, sl, ln, di, dl, dr)) : q_EX q_KD (d + 2) 14 0 [.ref 6, .int x1, .int x2] [] (n, sl, ln, di, dl, dr) Q := by
  have e : (nI p).toNatClampNeg = p := nI_clamp (by omega)
  refine g14_0 hg (c_within hg (g14_5 hg (fun c => k0 (fun h => q_bn.mp c h.1)) (fun c1 => c_within hg (g14_14 hg (fun c2 => c_forgetR hg (g14_26 hg ?_) (by rw [hL]; decide)) (fun c => k0 (fun h => q_bn.mp c h.2))))))
  rw [hL]
  have he' : q_u (q_fill di 61 (-1) 64 0) 60 9 0 7 12 = nI p := by
    rw [q_uO _ _ _ _ _ _ (by decide), q_fillO (by decide), he]
  have hv : q_u (q_fill di 61 (-1) 64 0) 60 9 0 7 12 < 10 → vp_in (q_u (q_fill di 61 (-1) 64 0) 60 9 0 7 12) 10 := fun c => by
    rw [he'] at c ⊢
    exact vp_in_nI ((nI_ltI (b := 10) (by omega) (by decide)).mp c) (by decide)
  refine g16_0 hg hv hv (fun c => g14_35 hg ?_) (fun c => g14_35 hg ?_)
  · rw [he'] at c ⊢
    rw [e, nI_1, nI_pred]
    exact k1 (q_bp.mp c1) (q_bp.mp c2) ((nI_ltI (b := 10) (by omega) (by decide)).mp c)
  · rw [he'] at c
    have := (nI_leI (a := 10) (by decide) (by omega)).mp c
    exact k2 (q_bp.mp c1) (q_bp.mp c2) (by omega)
end
