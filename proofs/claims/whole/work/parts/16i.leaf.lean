section
variable {d n sl : Nat} {ln : Nat → Nat} {di : Nat → Nat → Int32} {dl : Nat → Nat → Int64} {dr : Nat → Nat → Option Nat} {Q : Option Value → q_H → Prop}
/-- seed, class and model -/
theorem c_seedX {x : Int32} (hg : q_Gr n ln dr)
    (k1 : ((0 : Int32) ≤ x ∧ x ≤ 9999) → Q (some (.int 1)) (n, sl, ln, q_u di 7 16 ((x * 3) + 17), dl, dr))
    (k0 : ¬ ((0 : Int32) ≤ x ∧ x ≤ 9999) → Q (some (.int 0)) (n, sl, ln, di, dl, dr)) : q_EX q_KD (d + 1) 17 0 [.ref 6, .int x] [] (n, sl, ln, di, dl, dr) Q :=
  g17_0 hg (c_within hg (g17_7 hg (fun c => k1 (q_bp.mp c)) (fun c => k0 (q_bn.mp c))))
theorem c_seedM {x : Int32} (hg : q_Gr n ln dr)
    (k1 : ((0 : Int32) ≤ x ∧ x ≤ 9999) → Q (some (.int 1)) (n, sl, ln, q_u di 68 3 ((x * 3) + 17), dl, dr))
    (k0 : ¬ ((0 : Int32) ≤ x ∧ x ≤ 9999) → Q (some (.int 0)) (n, sl, ln, di, dl, dr)) : q_EX q_KD (d + 1) 121 0 [.ref 67, .int x] [] (n, sl, ln, di, dl, dr) Q :=
  g121_0 hg (c_isIn hg (g121_8 hg (fun c => k1 (q_bp.mp c)) (fun c => k0 (q_bn.mp c))))
end
