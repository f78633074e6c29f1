section
variable {d n sl : Nat} {ln : Nat → Nat} {di : Nat → Nat → Int32} {dl : Nat → Nat → Int64} {dr : Nat → Nat → Option Nat} {Q : Option Value → q_H → Prop}
theorem c_personM {x1 x2 x3 : Int32} (p : Nat) (hp : p ≤ 6) (he : di 68 0 = nI p) (hg : q_Gr n ln dr)
    (k1 : ((0 : Int32) ≤ x1 ∧ x1 ≤ 9) → ((0 : Int32) ≤ x2 ∧ x2 ≤ 9) → ((0 : Int32) ≤ x3 ∧ x3 ≤ 10) → p < 6 → Q (some (.int (nI p))) (n, sl, ln, q_u (q_u (q_u (q_u (q_u (q_u (q_u di 68 (10 + 6 * p + 0) x1) 68 (10 + 6 * p + 1) x2) 68 (10 + 6 * p + 2) x3) 68 (10 + 6 * p + 3) (-1)) 68 (10 + 6 * p + 4) 0) 68 (10 + 6 * p + 5) 0) 68 0 (nI (p + 1)), dl, dr))
    (k0 : ¬ (((0 : Int32) ≤ x1 ∧ x1 ≤ 9) ∧ ((0 : Int32) ≤ x2 ∧ x2 ≤ 9) ∧ ((0 : Int32) ≤ x3 ∧ x3 ≤ 10) ∧ p < 6) → Q (some (.int (-1))) (n, sl, ln, di, dl, dr)) : q_EX q_KD (d + 1) 117 0 [.ref 67, .int x1, .int x2, .int x3, .retAddr 0] [] (n, sl, ln, di, dl, dr) Q := by
  refine g117_0 hg (c_isIn hg (g117_7 hg (fun c => k0 (fun h => q_bn.mp c h.1)) (fun c1 => c_isIn hg (g117_17 hg (fun c => k0 (fun h => q_bn.mp c h.2.1)) (fun c2 => c_isIn hg (g117_27 hg (fun c => k0 (fun h => q_bn.mp c h.2.2.1)) (fun c3 c4 => ?_) (fun _ c4 => ?_)))))))
  · have hlt : p < 6 := by
      rcases Nat.lt_or_ge p 6 with h | h
      · exact h
      · exact absurd (by rw [he]; exact congrArg nI (Nat.le_antisymm hp h)) c4
    rw [he]
    refine c_set p 0 hg (by omega) (g117_59 hg (c_set p 1 hg (by omega) (g117_67 hg (c_set p 2 hg (by omega) (g117_75 hg (c_set p 3 hg (by omega) (g117_83 hg (c_set p 4 hg (by omega) (g117_91 hg (c_set p 5 hg (by omega) (g117_99 hg ?_)))))))))))
    have e0 : ∀ (f : Nat → Nat → Int32) (k : Nat) (v : Int32), q_u f 68 (10 + 6 * p + k) v 68 0 = f 68 0 := fun f k v => by
      show (if (68 : Nat) = 68 then (fun x => if x = 10 + 6 * p + k then v else f 68 x) else f 68) 0 = f 68 0
      rw [if_pos rfl]
      exact if_neg (by omega)
    rw [e0, e0, e0, e0, e0, e0, he, nI_1]
    exact k1 (q_bp.mp c1) (q_bp.mp c2) (q_bp.mp c3) hlt
  · rw [he] at c4
    have h6 : p = 6 := (nI_eq (b := 6) (by omega) (by decide)).mp c4
    exact k0 (fun h => by omega)
end
