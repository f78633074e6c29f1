section
variable {d n sl : Nat} {ln : Nat → Nat} {di : Nat → Nat → Int32} {dl : Nat → Nat → Int64} {dr : Nat → Nat → Option Nat} {Q : Option Value → q_H → Prop}
theorem c_ruler0 {x : Int32} (h : di 7 15 < 0) (hg : q_Gr n ln dr) (k : Q (some .null) (n, sl, ln, di, dl, dr)) : q_EX q_KD (d + 1) 73 0 [.ref 7, .int x, .retAddr 0] [] (n, sl, ln, di, dl, dr) Q :=
  g73_0 hg (fun _ => k) (fun c => absurd h (q_nle c)) (fun c => absurd h (q_nle c)) (fun c => absurd h (q_nle c)) (fun c => absurd h (q_nle c)) (fun c => absurd h (q_nle c))
theorem c_ruler (t j z : Nat) (ht : t < 4) (hj : j < 3) (h : di 7 15 = nI t) (hz : dr 16 t = some z) (hs : q_scr n z) (h1 : ln (z + 1 + 1) = 3) (h2 : ln (z + 1 + 2) = 3) (hg : q_Gr n ln dr)
    (k0 : ¬ di (z + 1 + 1) j < di (z + 1 + 2) j → Q (some .null) (n, sl, ln, di, dl, dr))
    (k1 : di (z + 1 + 1) j < di (z + 1 + 2) j → Q (some (.ref z)) (n, sl, ln, di, dl, dr)) : q_EX q_KD (d + 1) 73 0 [.ref 7, .int (nI j), .retAddr 0] [] (n, sl, ln, di, dl, dr) Q := by
  have e : (di 7 15).toNatClampNeg = t := by rw [h]; exact nI_clamp (by omega)
  have hp : ¬ di 7 15 < 0 := by rw [h]; exact nI_pos (by omega)
  refine g73_0 hg (fun c => absurd c hp) (fun _ _ => by rw [h]; exact vp_in_nI ht (by decide)) (fun _ _ c => ?_) (fun _ _ w c => ?_) (fun _ _ w c c' => ?_) (fun _ c => ?_)
  · rw [e, hz] at c; cases c
  · rw [e, hz] at c; cases c; exact hs
  · rw [e, hz] at c; cases c
    refine c_hasS j hj h1 h2 hg hs (g73_36 hg hs (fun y => ?_) (fun y => ?_))
    · exact k0 (q_bn.mp y)
    · exact k1 (q_bp.mp y)
  · rw [h] at c
    exact absurd ((nI_leI (a := 4) (by decide) (by omega)).mp c) (by omega)
end
