/-! the class counts bits -/
/-- Integer.bitCount, as the JDK reckons it -/
def q_bcI (x0 : Int32) : Int32 :=
  let u1 := x0 - (((x0.toUInt32 >>> ((1 : Int32).toUInt32 &&& Int32.toUInt32 31)).toInt32) &&& 1431655765)
  let u2 := (u1 &&& 858993459) + (((u1.toUInt32 >>> ((2 : Int32).toUInt32 &&& Int32.toUInt32 31)).toInt32) &&& 858993459)
  let u3 := (u2 + ((u2.toUInt32 >>> ((4 : Int32).toUInt32 &&& Int32.toUInt32 31)).toInt32)) &&& 252645135
  let u4 := u3 + ((u3.toUInt32 >>> ((8 : Int32).toUInt32 &&& Int32.toUInt32 31)).toInt32)
  let u5 := u4 + ((u4.toUInt32 >>> ((16 : Int32).toUInt32 &&& Int32.toUInt32 31)).toInt32)
  u5 &&& 63
section
variable {d n sl : Nat} {ln : Nat → Nat} {di : Nat → Nat → Int32} {dl : Nat → Nat → Int64} {dr : Nat → Nat → Option Nat} {Q : Option Value → q_H → Prop}
theorem c_bc {x : Int32} (hg : q_Gr n ln dr) (k : Q (some (.int (q_bcI x))) (n, sl, ln, di, dl, dr)) : q_EX q_KD d 71 0 [.int x] [] (n, sl, ln, di, dl, dr) Q := g71_0 hg k
end
set_option maxRecDepth 20000 in
theorem q_bc10 : ∀ m, m < 1024 → q_bcI (nI m) = q_bits (nI m) 10 0 0 := by decide +kernel
/-- four bits at k1 .. k4 -/
def q_nk : List (Nat × Nat × Nat × Nat) := [(1, 4, 1, 4), (0, 2, 5, 5), (1, 3, 6, 6), (2, 7, 2, 7), (0, 5, 8, 8), (1, 4, 6, 9), (2, 5, 7, 10), (3, 6, 11, 11), (4, 9, 12, 12), (5, 8, 10, 13), (6, 9, 11, 14), (7, 10, 15, 15), (8, 13, 8, 13), (9, 12, 14, 14), (10, 13, 15, 15), (11, 14, 11, 14)]
