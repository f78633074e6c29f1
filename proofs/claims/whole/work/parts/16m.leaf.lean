section
variable {d n sl : Nat} {ln : Nat → Nat} {di : Nat → Nat → Int32} {dl : Nat → Nat → Int64} {dr : Nat → Nat → Option Nat} {Q : Option Value → q_H → Prop}
theorem c_forgetR (hg : q_Gr n ln dr) (k : Q none (n, sl, ln, q_u (q_fill di 61 (-1) (ln 61) 0) 60 9 0, dl, dr)) (hL : ln 61 < 2 ^ 31) : q_EX q_KD (d + 1) 15 0 [.ref 60] [] (n, sl, ln, di, dl, dr) Q :=
  g15_0 hg (c_fill 61 (ln 61) hL rfl rfl (q_lt hg rfl) (by decide) hg (g15_8 hg k))
end
