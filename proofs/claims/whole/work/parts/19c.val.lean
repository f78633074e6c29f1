/-! the class works out a law -/
theorem q_t1e4 : (10000 : Int32).toInt = 10000 := rfl
theorem q_t2e4 : (20000 : Int32).toInt = 20000 := rfl
theorem q_tnot : (20224 : Int32).toInt = 20224 := rfl
theorem q_tneg : (20130 : Int32).toInt = 20130 := rfl
theorem q_t300 : (300 : Int32).toInt = 300 := rfl
theorem q_sub1 (a b : Int32) : a + b - a = b := by
  rw [Int32.add_comm, Int32.sub_eq_add_neg, Int32.add_assoc, Int32.add_right_neg, Int32.add_zero]
section
variable {d n sl : Nat} {ln : Nat → Nat} {di : Nat → Nat → Int32} {dl : Nat → Nat → Int64} {dr : Nat → Nat → Option Nat} {Q : Option Value → q_H → Prop}
theorem c_v0 {z i E top : Nat} {w : Int32} (hz : q_scr n z) (hE : E ≤ ln (z + 1 + 0)) (hW : ln (z + 1 + 0) ≤ 300) (hi : i < E) (hw : di (z + 1 + 0) i = w) (h0 : w < 10000) (ht : top < 300) (hg : q_Gr n ln dr)
    (k : q_EX q_KD (d + 1) 75 36 [.ref 50, .ref z, .retAddr 0, .int (nI (top + 1)), .int (nI E), .int (nI (i + 1)), .retAddr 0, .retAddr 0] [] (n, sl, ln, q_u di 52 top w, dl, dr) Q) :
    q_EX q_KD (d + 1) 75 36 [.ref 50, .ref z, .retAddr 0, .int (nI top), .int (nI E), .int (nI i), .retAddr 0, .retAddr 0] [] (n, sl, ln, di, dl, dr) Q := by
  have hin : (nI i).toNatClampNeg = i := nI_clamp (by omega)
  have hlt : nI i < nI E := nI_lt hi (by omega)
  have htop : (nI top).toInt = top := nI_toInt (by omega)
  refine g75_36 hg hz ?k3 ?s4 ?k5 ?s6 ?k10 ?s11 ?s13 ?k14 ?s15 ?k16 ?k19 ?s20 ?s21 ?k22 ?k24 ?s25 ?s27 ?k28 ?s29 ?k30 ?k32 ?k34 ?s35 ?k36
  case k3 => exact fun c => absurd hlt (q_nle c)
  case s4 => exact fun c => absurd hlt (q_nle c)
  case k5 => exact fun c => absurd hlt (q_nle c)
  case s6 => exact fun _ => vp_in_nI (by omega) (by omega)
  case k10 =>
    intro c1 c2 c3 c4
    exfalso
    simp only [hin, hw] at c2 c3 c4
    simp only [fa_le, fa_lt, fa_eq, q_t1e4, q_t2e4, q_tnot, q_tneg, q_t300, q_t1, q_t2, htop] at c2 c3 c4 h0
    omega
  case s11 =>
    intro c1 c2 c3 c4
    exfalso
    simp only [hin, hw] at c2 c3 c4
    simp only [fa_le, fa_lt, fa_eq, q_t1e4, q_t2e4, q_tnot, q_tneg, q_t300, q_t1, q_t2, htop] at c2 c3 c4 h0
    omega
  case s13 =>
    intro c1 c2 c3 c4 c5
    exfalso
    simp only [hin, hw] at c2 c3 c4 c5
    simp only [fa_le, fa_lt, fa_eq, q_t1e4, q_t2e4, q_tnot, q_tneg, q_t300, q_t1, q_t2, htop] at c2 c3 c4 c5 h0
    omega
  case k14 =>
    intro c1 c2 c3 c4 c5
    exfalso
    simp only [hin, hw] at c2 c3 c4 c5
    simp only [fa_le, fa_lt, fa_eq, q_t1e4, q_t2e4, q_tnot, q_tneg, q_t300, q_t1, q_t2, htop] at c2 c3 c4 c5 h0
    omega
  case s15 =>
    intro c1 c2 c3 c4 c5
    exfalso
    simp only [hin, hw] at c2 c3 c4 c5
    simp only [fa_le, fa_lt, fa_eq, q_t1e4, q_t2e4, q_tnot, q_tneg, q_t300, q_t1, q_t2, htop] at c2 c3 c4 c5 h0
    omega
  case k16 =>
    intro c1 c2 c3 c4 c5
    exfalso
    simp only [hin, hw] at c2 c3 c4 c5
    simp only [fa_le, fa_lt, fa_eq, q_t1e4, q_t2e4, q_tnot, q_tneg, q_t300, q_t1, q_t2, htop] at c2 c3 c4 c5 h0
    omega
  case k19 =>
    intro c1 c2 c3 c4 c5
    exfalso
    simp only [hin, hw] at c2 c3 c4 c5
    simp only [fa_le, fa_lt, fa_eq, q_t1e4, q_t2e4, q_tnot, q_tneg, q_t300, q_t1, q_t2, htop] at c2 c3 c4 c5 h0
    omega
  case s20 =>
    intro c1 c2 c3 c4 c5
    exfalso
    simp only [hin, hw] at c2 c3 c4 c5
    simp only [fa_le, fa_lt, fa_eq, q_t1e4, q_t2e4, q_tnot, q_tneg, q_t300, q_t1, q_t2, htop] at c2 c3 c4 c5 h0
    omega
  case s21 =>
    intro c1 c2 c3 c4 c5
    exfalso
    simp only [hin, hw] at c2 c3 c4 c5
    simp only [fa_le, fa_lt, fa_eq, q_t1e4, q_t2e4, q_tnot, q_tneg, q_t300, q_t1, q_t2, htop] at c2 c3 c4 c5 h0
    omega
  case k22 =>
    intro c1 c2 c3 c4 c5
    exfalso
    simp only [hin, hw] at c2 c3 c4 c5
    simp only [fa_le, fa_lt, fa_eq, q_t1e4, q_t2e4, q_tnot, q_tneg, q_t300, q_t1, q_t2, htop] at c2 c3 c4 c5 h0
    omega
  case k24 =>
    intro c1 c2 c3 c4 c5
    exfalso
    simp only [hin, hw] at c2 c3 c4 c5
    simp only [fa_le, fa_lt, fa_eq, q_t1e4, q_t2e4, q_tnot, q_tneg, q_t300, q_t1, q_t2, htop] at c2 c3 c4 c5 h0
    omega
  case s25 =>
    intro c1 c2 c3 c4 c5
    exfalso
    simp only [hin, hw] at c2 c3 c4 c5
    simp only [fa_le, fa_lt, fa_eq, q_t1e4, q_t2e4, q_tnot, q_tneg, q_t300, q_t1, q_t2, htop] at c2 c3 c4 c5 h0
    omega
  case s27 =>
    intro c1 c2 c3 c4 c5 c6
    exfalso
    simp only [hin, hw] at c2 c3 c4 c5 c6
    simp only [fa_le, fa_lt, fa_eq, q_t1e4, q_t2e4, q_tnot, q_tneg, q_t300, q_t1, q_t2, htop] at c2 c3 c4 c5 c6 h0
    omega
  case k28 =>
    intro c1 c2 c3 c4 c5 c6
    exfalso
    simp only [hin, hw] at c2 c3 c4 c5 c6
    simp only [fa_le, fa_lt, fa_eq, q_t1e4, q_t2e4, q_tnot, q_tneg, q_t300, q_t1, q_t2, htop] at c2 c3 c4 c5 c6 h0
    omega
  case s29 =>
    intro c1 c2 c3 c4 c5 c6
    exfalso
    simp only [hin, hw] at c2 c3 c4 c5 c6
    simp only [fa_le, fa_lt, fa_eq, q_t1e4, q_t2e4, q_tnot, q_tneg, q_t300, q_t1, q_t2, htop] at c2 c3 c4 c5 c6 h0
    omega
  case k30 =>
    intro c1 c2 c3 c4 c5 c6
    exfalso
    simp only [hin, hw] at c2 c3 c4 c5 c6
    simp only [fa_le, fa_lt, fa_eq, q_t1e4, q_t2e4, q_tnot, q_tneg, q_t300, q_t1, q_t2, htop] at c2 c3 c4 c5 c6 h0
    omega
  case k32 =>
    intro c1 c2 c3
    exfalso
    simp only [hin, hw] at c2 c3
    simp only [fa_le, fa_lt, fa_eq, q_t1e4, q_t2e4, q_tnot, q_tneg, q_t300, q_t1, q_t2, htop] at c2 c3 h0
    omega
  case k34 =>
    intro c1 c2 c3 c4
    exfalso
    simp only [hin, hw] at c2 c3 c4
    simp only [fa_le, fa_lt, fa_eq, q_t1e4, q_t2e4, q_tnot, q_tneg, q_t300, q_t1, q_t2, htop] at c2 c3 c4 h0
    omega
  case s35 =>
    intro c1 c2 c3 c4
    rw [hin] at *
    exact vp_in_nI ht (by decide)
  case k36 =>
    intro c1 c2 c3 c4
    rw [hin] at *
    rw [nI_clamp (show top < 2 ^ 31 by omega), hw, nI_1, nI_1]
    exact k
theorem c_v1 {z i E top : Nat} {w : Int32} (hz : q_scr n z) (hE : E ≤ ln (z + 1 + 0)) (hW : ln (z + 1 + 0) ≤ 300) (hi : i < E) (hw : di (z + 1 + 0) i = w) {v : Nat} (h0 : w = nI (10000 + v)) (hv : v < 14) (ht : top < 300) (hg : q_Gr n ln dr)
    (k : q_EX q_KD (d + 1) 75 36 [.ref 50, .ref z, .retAddr 0, .int (nI (top + 1)), .int (nI E), .int (nI (i + 1)), .retAddr 0, .retAddr 0] [] (n, sl, ln, q_u di 52 top (di 51 v), dl, dr) Q) :
    q_EX q_KD (d + 1) 75 36 [.ref 50, .ref z, .retAddr 0, .int (nI top), .int (nI E), .int (nI i), .retAddr 0, .retAddr 0] [] (n, sl, ln, di, dl, dr) Q := by
  have hin : (nI i).toNatClampNeg = i := nI_clamp (by omega)
  have hlt : nI i < nI E := nI_lt hi (by omega)
  have hwv : w.toInt = 10000 + v := by rw [h0]; exact nI_toInt (by omega)
  have htop : (nI top).toInt = top := nI_toInt (by omega)
  refine g75_36 hg hz ?k3 ?s4 ?k5 ?s6 ?k10 ?s11 ?s13 ?k14 ?s15 ?k16 ?k19 ?s20 ?s21 ?k22 ?k24 ?s25 ?s27 ?k28 ?s29 ?k30 ?k32 ?k34 ?s35 ?k36
  case k3 => exact fun c => absurd hlt (q_nle c)
  case s4 => exact fun c => absurd hlt (q_nle c)
  case k5 => exact fun c => absurd hlt (q_nle c)
  case s6 => exact fun _ => vp_in_nI (by omega) (by omega)
  case k10 =>
    intro c1 c2 c3 c4
    exfalso
    simp only [hin, hw] at c2 c3 c4
    simp only [fa_le, fa_lt, fa_eq, q_t1e4, q_t2e4, q_tnot, q_tneg, q_t300, q_t1, q_t2, htop, hwv] at c2 c3 c4
    omega
  case s11 =>
    intro c1 c2 c3 c4
    exfalso
    simp only [hin, hw] at c2 c3 c4
    simp only [fa_le, fa_lt, fa_eq, q_t1e4, q_t2e4, q_tnot, q_tneg, q_t300, q_t1, q_t2, htop, hwv] at c2 c3 c4
    omega
  case s13 =>
    intro c1 c2 c3 c4 c5
    exfalso
    simp only [hin, hw] at c2 c3 c4 c5
    simp only [fa_le, fa_lt, fa_eq, q_t1e4, q_t2e4, q_tnot, q_tneg, q_t300, q_t1, q_t2, htop, hwv] at c2 c3 c4 c5
    omega
  case k14 =>
    intro c1 c2 c3 c4 c5
    exfalso
    simp only [hin, hw] at c2 c3 c4 c5
    simp only [fa_le, fa_lt, fa_eq, q_t1e4, q_t2e4, q_tnot, q_tneg, q_t300, q_t1, q_t2, htop, hwv] at c2 c3 c4 c5
    omega
  case s15 =>
    intro c1 c2 c3 c4 c5
    exfalso
    simp only [hin, hw] at c2 c3 c4 c5
    simp only [fa_le, fa_lt, fa_eq, q_t1e4, q_t2e4, q_tnot, q_tneg, q_t300, q_t1, q_t2, htop, hwv] at c2 c3 c4 c5
    omega
  case k16 =>
    intro c1 c2 c3 c4 c5
    exfalso
    simp only [hin, hw] at c2 c3 c4 c5
    simp only [fa_le, fa_lt, fa_eq, q_t1e4, q_t2e4, q_tnot, q_tneg, q_t300, q_t1, q_t2, htop, hwv] at c2 c3 c4 c5
    omega
  case k19 =>
    intro c1 c2 c3 c4 c5
    exfalso
    simp only [hin, hw] at c2 c3 c4 c5
    simp only [fa_le, fa_lt, fa_eq, q_t1e4, q_t2e4, q_tnot, q_tneg, q_t300, q_t1, q_t2, htop, hwv] at c2 c3 c4 c5
    omega
  case s20 =>
    intro c1 c2 c3 c4 c5
    exfalso
    simp only [hin, hw] at c2 c3 c4 c5
    simp only [fa_le, fa_lt, fa_eq, q_t1e4, q_t2e4, q_tnot, q_tneg, q_t300, q_t1, q_t2, htop, hwv] at c2 c3 c4 c5
    omega
  case s21 =>
    intro c1 c2 c3 c4 c5
    exfalso
    simp only [hin, hw] at c2 c3 c4 c5
    simp only [fa_le, fa_lt, fa_eq, q_t1e4, q_t2e4, q_tnot, q_tneg, q_t300, q_t1, q_t2, htop, hwv] at c2 c3 c4 c5
    omega
  case k22 =>
    intro c1 c2 c3 c4 c5
    exfalso
    simp only [hin, hw] at c2 c3 c4 c5
    simp only [fa_le, fa_lt, fa_eq, q_t1e4, q_t2e4, q_tnot, q_tneg, q_t300, q_t1, q_t2, htop, hwv] at c2 c3 c4 c5
    omega
  case k24 =>
    intro c1 c2 c3 c4 c5
    exfalso
    simp only [hin, hw] at c2 c3 c4 c5
    simp only [fa_le, fa_lt, fa_eq, q_t1e4, q_t2e4, q_tnot, q_tneg, q_t300, q_t1, q_t2, htop, hwv] at c2 c3 c4 c5
    omega
  case s25 =>
    intro c1 c2 c3 c4 c5
    exfalso
    simp only [hin, hw] at c2 c3 c4 c5
    simp only [fa_le, fa_lt, fa_eq, q_t1e4, q_t2e4, q_tnot, q_tneg, q_t300, q_t1, q_t2, htop, hwv] at c2 c3 c4 c5
    omega
  case s27 =>
    intro c1 c2 c3 c4 c5 c6
    exfalso
    simp only [hin, hw] at c2 c3 c4 c5 c6
    simp only [fa_le, fa_lt, fa_eq, q_t1e4, q_t2e4, q_tnot, q_tneg, q_t300, q_t1, q_t2, htop, hwv] at c2 c3 c4 c5 c6
    omega
  case k28 =>
    intro c1 c2 c3 c4 c5 c6
    exfalso
    simp only [hin, hw] at c2 c3 c4 c5 c6
    simp only [fa_le, fa_lt, fa_eq, q_t1e4, q_t2e4, q_tnot, q_tneg, q_t300, q_t1, q_t2, htop, hwv] at c2 c3 c4 c5 c6
    omega
  case s29 =>
    intro c1 c2 c3 c4 c5 c6
    exfalso
    simp only [hin, hw] at c2 c3 c4 c5 c6
    simp only [fa_le, fa_lt, fa_eq, q_t1e4, q_t2e4, q_tnot, q_tneg, q_t300, q_t1, q_t2, htop, hwv] at c2 c3 c4 c5 c6
    omega
  case k30 =>
    intro c1 c2 c3 c4 c5 c6
    exfalso
    simp only [hin, hw] at c2 c3 c4 c5 c6
    simp only [fa_le, fa_lt, fa_eq, q_t1e4, q_t2e4, q_tnot, q_tneg, q_t300, q_t1, q_t2, htop, hwv] at c2 c3 c4 c5 c6
    omega
  case k32 =>
    intro c1 c2 c3
    exfalso
    simp only [hin, hw] at c2 c3
    simp only [fa_le, fa_lt, fa_eq, q_t1e4, q_t2e4, q_tnot, q_tneg, q_t300, q_t1, q_t2, htop, hwv] at c2 c3
    omega
  case k34 =>
    intro c1 c2 c3 c4
    rw [hin] at *
    rw [hw, h0, show nI (10000 + v) - 10000 = nI v from by rw [q_pa]; exact q_sub1 _ _]
    refine c_stands v hv hg (g75_95 hg hz (vp_in_nI ht (by decide)) ?_)
    rw [nI_clamp (show top < 2 ^ 31 by omega), nI_1, nI_1]
    exact k
  case s35 =>
    intro c1 c2 c3 c4
    exfalso
    simp only [hin, hw] at c2 c3 c4
    simp only [fa_le, fa_lt, fa_eq, q_t1e4, q_t2e4, q_tnot, q_tneg, q_t300, q_t1, q_t2, htop, hwv] at c2 c3 c4
    omega
  case k36 =>
    intro c1 c2 c3 c4
    exfalso
    simp only [hin, hw] at c2 c3 c4
    simp only [fa_le, fa_lt, fa_eq, q_t1e4, q_t2e4, q_tnot, q_tneg, q_t300, q_t1, q_t2, htop, hwv] at c2 c3 c4
    omega
theorem c_vn {z i E top : Nat} {w : Int32} (hz : q_scr n z) (hE : E ≤ ln (z + 1 + 0)) (hW : ln (z + 1 + 0) ≤ 300) (hi : i < E) (hw : di (z + 1 + 0) i = w) (h0 : w = 20224) (ht : top < 299) (hg : q_Gr n ln dr)
    (k : q_EX q_KD (d + 1) 75 36 [.ref 50, .ref z, .retAddr 0, .int (nI (top + 1)), .int (nI E), .int (nI (i + 1)), .retAddr 0, .retAddr 0] [] (n, sl, ln, q_u di 52 top (1 - di 52 top), dl, dr) Q) :
    q_EX q_KD (d + 1) 75 36 [.ref 50, .ref z, .retAddr 0, .int (nI (top + 1)), .int (nI E), .int (nI i), .retAddr 0, .retAddr 0] [] (n, sl, ln, di, dl, dr) Q := by
  have hin : (nI i).toNatClampNeg = i := nI_clamp (by omega)
  have hlt : nI i < nI E := nI_lt hi (by omega)
  have htop : (nI (top + 1)).toInt = (top + 1) := nI_toInt (by omega)
  refine g75_36 hg hz ?k3 ?s4 ?k5 ?s6 ?k10 ?s11 ?s13 ?k14 ?s15 ?k16 ?k19 ?s20 ?s21 ?k22 ?k24 ?s25 ?s27 ?k28 ?s29 ?k30 ?k32 ?k34 ?s35 ?k36
  case k3 => exact fun c => absurd hlt (q_nle c)
  case s4 => exact fun c => absurd hlt (q_nle c)
  case k5 => exact fun c => absurd hlt (q_nle c)
  case s6 => exact fun _ => vp_in_nI (by omega) (by omega)
  case k10 =>
    intro c1 c2 c3 c4
    exfalso
    simp only [hin, hw] at c2 c3 c4
    simp only [fa_le, fa_lt, fa_eq, q_t1e4, q_t2e4, q_tnot, q_tneg, q_t300, q_t1, q_t2, htop] at c2 c3 c4 h0
    omega
  case s11 =>
    intro c1 c2 c3 c4
    rw [hin] at *
    rw [nI_pred]; exact vp_in_nI (by omega) (by decide)
  case s13 =>
    intro c1 c2 c3 c4 c5
    rw [hin] at *
    rw [nI_pred]; exact vp_in_nI (by omega) (by decide)
  case k14 =>
    intro c1 c2 c3 c4 c5
    rw [hin] at *
    rw [nI_pred, nI_clamp (show top < 2 ^ 31 by omega), nI_1]
    exact k
  case s15 =>
    intro c1 c2 c3 c4 c5
    exfalso
    simp only [hin, hw] at c2 c3 c4 c5
    simp only [fa_le, fa_lt, fa_eq, q_t1e4, q_t2e4, q_tnot, q_tneg, q_t300, q_t1, q_t2, htop] at c2 c3 c4 c5 h0
    omega
  case k16 =>
    intro c1 c2 c3 c4 c5
    exfalso
    simp only [hin, hw] at c2 c3 c4 c5
    simp only [fa_le, fa_lt, fa_eq, q_t1e4, q_t2e4, q_tnot, q_tneg, q_t300, q_t1, q_t2, htop] at c2 c3 c4 c5 h0
    omega
  case k19 =>
    intro c1 c2 c3 c4 c5
    exfalso
    simp only [hin, hw] at c2 c3 c4 c5
    simp only [fa_le, fa_lt, fa_eq, q_t1e4, q_t2e4, q_tnot, q_tneg, q_t300, q_t1, q_t2, htop] at c2 c3 c4 c5 h0
    omega
  case s20 =>
    intro c1 c2 c3 c4 c5
    exfalso
    simp only [hin, hw] at c2 c3 c4 c5
    simp only [fa_le, fa_lt, fa_eq, q_t1e4, q_t2e4, q_tnot, q_tneg, q_t300, q_t1, q_t2, htop] at c2 c3 c4 c5 h0
    omega
  case s21 =>
    intro c1 c2 c3 c4 c5
    exfalso
    simp only [hin, hw] at c2 c3 c4 c5
    simp only [fa_le, fa_lt, fa_eq, q_t1e4, q_t2e4, q_tnot, q_tneg, q_t300, q_t1, q_t2, htop] at c2 c3 c4 c5 h0
    omega
  case k22 =>
    intro c1 c2 c3 c4 c5
    exfalso
    simp only [hin, hw] at c2 c3 c4 c5
    simp only [fa_le, fa_lt, fa_eq, q_t1e4, q_t2e4, q_tnot, q_tneg, q_t300, q_t1, q_t2, htop] at c2 c3 c4 c5 h0
    omega
  case k24 =>
    intro c1 c2 c3 c4 c5
    exfalso
    simp only [hin, hw] at c2 c3 c4 c5
    simp only [fa_le, fa_lt, fa_eq, q_t1e4, q_t2e4, q_tnot, q_tneg, q_t300, q_t1, q_t2, htop] at c2 c3 c4 c5 h0
    omega
  case s25 =>
    intro c1 c2 c3 c4 c5
    exfalso
    simp only [hin, hw] at c2 c3 c4 c5
    simp only [fa_le, fa_lt, fa_eq, q_t1e4, q_t2e4, q_tnot, q_tneg, q_t300, q_t1, q_t2, htop] at c2 c3 c4 c5 h0
    omega
  case s27 =>
    intro c1 c2 c3 c4 c5 c6
    exfalso
    simp only [hin, hw] at c2 c3 c4 c5 c6
    simp only [fa_le, fa_lt, fa_eq, q_t1e4, q_t2e4, q_tnot, q_tneg, q_t300, q_t1, q_t2, htop] at c2 c3 c4 c5 c6 h0
    omega
  case k28 =>
    intro c1 c2 c3 c4 c5 c6
    exfalso
    simp only [hin, hw] at c2 c3 c4 c5 c6
    simp only [fa_le, fa_lt, fa_eq, q_t1e4, q_t2e4, q_tnot, q_tneg, q_t300, q_t1, q_t2, htop] at c2 c3 c4 c5 c6 h0
    omega
  case s29 =>
    intro c1 c2 c3 c4 c5 c6
    exfalso
    simp only [hin, hw] at c2 c3 c4 c5 c6
    simp only [fa_le, fa_lt, fa_eq, q_t1e4, q_t2e4, q_tnot, q_tneg, q_t300, q_t1, q_t2, htop] at c2 c3 c4 c5 c6 h0
    omega
  case k30 =>
    intro c1 c2 c3 c4 c5 c6
    exfalso
    simp only [hin, hw] at c2 c3 c4 c5 c6
    simp only [fa_le, fa_lt, fa_eq, q_t1e4, q_t2e4, q_tnot, q_tneg, q_t300, q_t1, q_t2, htop] at c2 c3 c4 c5 c6 h0
    omega
  case k32 =>
    intro c1 c2 c3
    exfalso
    simp only [hin, hw] at c2 c3
    simp only [fa_le, fa_lt, fa_eq, q_t1e4, q_t2e4, q_tnot, q_tneg, q_t300, q_t1, q_t2, htop] at c2 c3 h0
    omega
  case k34 =>
    intro c1 c2 c3 c4
    exfalso
    simp only [hin, hw] at c2 c3 c4
    simp only [fa_le, fa_lt, fa_eq, q_t1e4, q_t2e4, q_tnot, q_tneg, q_t300, q_t1, q_t2, htop] at c2 c3 c4 h0
    omega
  case s35 =>
    intro c1 c2 c3 c4
    exfalso
    simp only [hin, hw] at c2 c3 c4
    simp only [fa_le, fa_lt, fa_eq, q_t1e4, q_t2e4, q_tnot, q_tneg, q_t300, q_t1, q_t2, htop] at c2 c3 c4 h0
    omega
  case k36 =>
    intro c1 c2 c3 c4
    exfalso
    simp only [hin, hw] at c2 c3 c4
    simp only [fa_le, fa_lt, fa_eq, q_t1e4, q_t2e4, q_tnot, q_tneg, q_t300, q_t1, q_t2, htop] at c2 c3 c4 h0
    omega
theorem c_vm {z i E top : Nat} {w : Int32} (hz : q_scr n z) (hE : E ≤ ln (z + 1 + 0)) (hW : ln (z + 1 + 0) ≤ 300) (hi : i < E) (hw : di (z + 1 + 0) i = w) (h0 : w = 20130) (ht : top < 299) (hg : q_Gr n ln dr)
    (k : q_EX q_KD (d + 1) 75 36 [.ref 50, .ref z, .retAddr 0, .int (nI (top + 1)), .int (nI E), .int (nI (i + 1)), .retAddr 0, .retAddr 0] [] (n, sl, ln, q_u di 52 top (-(di 52 top)), dl, dr) Q) :
    q_EX q_KD (d + 1) 75 36 [.ref 50, .ref z, .retAddr 0, .int (nI (top + 1)), .int (nI E), .int (nI i), .retAddr 0, .retAddr 0] [] (n, sl, ln, di, dl, dr) Q := by
  have hin : (nI i).toNatClampNeg = i := nI_clamp (by omega)
  have hlt : nI i < nI E := nI_lt hi (by omega)
  have htop : (nI (top + 1)).toInt = (top + 1) := nI_toInt (by omega)
  refine g75_36 hg hz ?k3 ?s4 ?k5 ?s6 ?k10 ?s11 ?s13 ?k14 ?s15 ?k16 ?k19 ?s20 ?s21 ?k22 ?k24 ?s25 ?s27 ?k28 ?s29 ?k30 ?k32 ?k34 ?s35 ?k36
  case k3 => exact fun c => absurd hlt (q_nle c)
  case s4 => exact fun c => absurd hlt (q_nle c)
  case k5 => exact fun c => absurd hlt (q_nle c)
  case s6 => exact fun _ => vp_in_nI (by omega) (by omega)
  case k10 =>
    intro c1 c2 c3 c4
    exfalso
    simp only [hin, hw] at c2 c3 c4
    simp only [fa_le, fa_lt, fa_eq, q_t1e4, q_t2e4, q_tnot, q_tneg, q_t300, q_t1, q_t2, htop] at c2 c3 c4 h0
    omega
  case s11 =>
    intro c1 c2 c3 c4
    exfalso
    simp only [hin, hw] at c2 c3 c4
    simp only [fa_le, fa_lt, fa_eq, q_t1e4, q_t2e4, q_tnot, q_tneg, q_t300, q_t1, q_t2, htop] at c2 c3 c4 h0
    omega
  case s13 =>
    intro c1 c2 c3 c4 c5
    exfalso
    simp only [hin, hw] at c2 c3 c4 c5
    simp only [fa_le, fa_lt, fa_eq, q_t1e4, q_t2e4, q_tnot, q_tneg, q_t300, q_t1, q_t2, htop] at c2 c3 c4 c5 h0
    omega
  case k14 =>
    intro c1 c2 c3 c4 c5
    exfalso
    simp only [hin, hw] at c2 c3 c4 c5
    simp only [fa_le, fa_lt, fa_eq, q_t1e4, q_t2e4, q_tnot, q_tneg, q_t300, q_t1, q_t2, htop] at c2 c3 c4 c5 h0
    omega
  case s15 =>
    intro c1 c2 c3 c4 c5
    exfalso
    simp only [hin, hw] at c2 c3 c4 c5
    simp only [fa_le, fa_lt, fa_eq, q_t1e4, q_t2e4, q_tnot, q_tneg, q_t300, q_t1, q_t2, htop] at c2 c3 c4 c5 h0
    omega
  case k16 =>
    intro c1 c2 c3 c4 c5
    exfalso
    simp only [hin, hw] at c2 c3 c4 c5
    simp only [fa_le, fa_lt, fa_eq, q_t1e4, q_t2e4, q_tnot, q_tneg, q_t300, q_t1, q_t2, htop] at c2 c3 c4 c5 h0
    omega
  case k19 =>
    intro c1 c2 c3 c4 c5
    exfalso
    simp only [hin, hw] at c2 c3 c4 c5
    simp only [fa_le, fa_lt, fa_eq, q_t1e4, q_t2e4, q_tnot, q_tneg, q_t300, q_t1, q_t2, htop] at c2 c3 c4 c5 h0
    omega
  case s20 =>
    intro c1 c2 c3 c4 c5
    exfalso
    simp only [hin, hw] at c2 c3 c4 c5
    simp only [fa_le, fa_lt, fa_eq, q_t1e4, q_t2e4, q_tnot, q_tneg, q_t300, q_t1, q_t2, htop] at c2 c3 c4 c5 h0
    omega
  case s21 =>
    intro c1 c2 c3 c4 c5
    exfalso
    simp only [hin, hw] at c2 c3 c4 c5
    simp only [fa_le, fa_lt, fa_eq, q_t1e4, q_t2e4, q_tnot, q_tneg, q_t300, q_t1, q_t2, htop] at c2 c3 c4 c5 h0
    omega
  case k22 =>
    intro c1 c2 c3 c4 c5
    exfalso
    simp only [hin, hw] at c2 c3 c4 c5
    simp only [fa_le, fa_lt, fa_eq, q_t1e4, q_t2e4, q_tnot, q_tneg, q_t300, q_t1, q_t2, htop] at c2 c3 c4 c5 h0
    omega
  case k24 =>
    intro c1 c2 c3 c4 c5
    exfalso
    simp only [hin, hw] at c2 c3 c4 c5
    simp only [fa_le, fa_lt, fa_eq, q_t1e4, q_t2e4, q_tnot, q_tneg, q_t300, q_t1, q_t2, htop] at c2 c3 c4 c5 h0
    omega
  case s25 =>
    intro c1 c2 c3 c4 c5
    rw [hin] at *
    rw [nI_pred]; exact vp_in_nI (by omega) (by decide)
  case s27 =>
    intro c1 c2 c3 c4 c5 c6
    exfalso
    simp only [hin, hw] at c2 c3 c4 c5 c6
    simp only [fa_le, fa_lt, fa_eq, q_t1e4, q_t2e4, q_tnot, q_tneg, q_t300, q_t1, q_t2, htop] at c2 c3 c4 c5 c6 h0
    omega
  case k28 =>
    intro c1 c2 c3 c4 c5 c6
    exfalso
    simp only [hin, hw] at c2 c3 c4 c5 c6
    simp only [fa_le, fa_lt, fa_eq, q_t1e4, q_t2e4, q_tnot, q_tneg, q_t300, q_t1, q_t2, htop] at c2 c3 c4 c5 c6 h0
    omega
  case s29 =>
    intro c1 c2 c3 c4 c5 c6
    rw [hin] at *
    rw [nI_pred]; exact vp_in_nI (by omega) (by decide)
  case k30 =>
    intro c1 c2 c3 c4 c5 c6
    rw [hin] at *
    rw [nI_pred, nI_clamp (show top < 2 ^ 31 by omega), nI_1]
    exact k
  case k32 =>
    intro c1 c2 c3
    exfalso
    simp only [hin, hw] at c2 c3
    simp only [fa_le, fa_lt, fa_eq, q_t1e4, q_t2e4, q_tnot, q_tneg, q_t300, q_t1, q_t2, htop] at c2 c3 h0
    omega
  case k34 =>
    intro c1 c2 c3 c4
    exfalso
    simp only [hin, hw] at c2 c3 c4
    simp only [fa_le, fa_lt, fa_eq, q_t1e4, q_t2e4, q_tnot, q_tneg, q_t300, q_t1, q_t2, htop] at c2 c3 c4 h0
    omega
  case s35 =>
    intro c1 c2 c3 c4
    exfalso
    simp only [hin, hw] at c2 c3 c4
    simp only [fa_le, fa_lt, fa_eq, q_t1e4, q_t2e4, q_tnot, q_tneg, q_t300, q_t1, q_t2, htop] at c2 c3 c4 h0
    omega
  case k36 =>
    intro c1 c2 c3 c4
    exfalso
    simp only [hin, hw] at c2 c3 c4
    simp only [fa_le, fa_lt, fa_eq, q_t1e4, q_t2e4, q_tnot, q_tneg, q_t300, q_t1, q_t2, htop] at c2 c3 c4 h0
    omega
theorem c_vj {z i E top : Nat} {w : Int32} (hz : q_scr n z) (hE : E ≤ ln (z + 1 + 0)) (hW : ln (z + 1 + 0) ≤ 300) (hi : i < E) (hw : di (z + 1 + 0) i = w) (h0 : 20000 ≤ w) (h1 : ¬ w = 20224) (h2 : ¬ w = 20130) (ht : top < 298) (hg : q_Gr n ln dr)
    (k : q_EX q_KD (d + 1) 75 36 [.ref 50, .ref z, .retAddr 0, .int (nI (top + 1)), .int (nI E), .int (nI (i + 1)), .retAddr 0, .retAddr 0] [] (n, sl, ln, q_u di 52 top (q_clI (q_join (w - 20000) (di 52 top) (di 52 (top + 1)))), dl, dr) Q) :
    q_EX q_KD (d + 1) 75 36 [.ref 50, .ref z, .retAddr 0, .int (nI (top + 2)), .int (nI E), .int (nI i), .retAddr 0, .retAddr 0] [] (n, sl, ln, di, dl, dr) Q := by
  have hin : (nI i).toNatClampNeg = i := nI_clamp (by omega)
  have hlt : nI i < nI E := nI_lt hi (by omega)
  have htop : (nI (top + 2)).toInt = (top + 2) := nI_toInt (by omega)
  refine g75_36 hg hz ?k3 ?s4 ?k5 ?s6 ?k10 ?s11 ?s13 ?k14 ?s15 ?k16 ?k19 ?s20 ?s21 ?k22 ?k24 ?s25 ?s27 ?k28 ?s29 ?k30 ?k32 ?k34 ?s35 ?k36
  case k3 => exact fun c => absurd hlt (q_nle c)
  case s4 => exact fun c => absurd hlt (q_nle c)
  case k5 => exact fun c => absurd hlt (q_nle c)
  case s6 => exact fun _ => vp_in_nI (by omega) (by omega)
  case k10 =>
    intro c1 c2 c3 c4
    exfalso
    simp only [hin, hw] at c2 c3 c4
    simp only [fa_le, fa_lt, fa_eq, q_t1e4, q_t2e4, q_tnot, q_tneg, q_t300, q_t1, q_t2, htop] at c2 c3 c4 h0 h1 h2
    omega
  case s11 =>
    intro c1 c2 c3 c4
    exfalso
    simp only [hin, hw] at c2 c3 c4
    simp only [fa_le, fa_lt, fa_eq, q_t1e4, q_t2e4, q_tnot, q_tneg, q_t300, q_t1, q_t2, htop] at c2 c3 c4 h0 h1 h2
    omega
  case s13 =>
    intro c1 c2 c3 c4 c5
    exfalso
    simp only [hin, hw] at c2 c3 c4 c5
    simp only [fa_le, fa_lt, fa_eq, q_t1e4, q_t2e4, q_tnot, q_tneg, q_t300, q_t1, q_t2, htop] at c2 c3 c4 c5 h0 h1 h2
    omega
  case k14 =>
    intro c1 c2 c3 c4 c5
    exfalso
    simp only [hin, hw] at c2 c3 c4 c5
    simp only [fa_le, fa_lt, fa_eq, q_t1e4, q_t2e4, q_tnot, q_tneg, q_t300, q_t1, q_t2, htop] at c2 c3 c4 c5 h0 h1 h2
    omega
  case s15 =>
    intro c1 c2 c3 c4 c5
    exfalso
    simp only [hin, hw] at c2 c3 c4 c5
    simp only [fa_le, fa_lt, fa_eq, q_t1e4, q_t2e4, q_tnot, q_tneg, q_t300, q_t1, q_t2, htop] at c2 c3 c4 c5 h0 h1 h2
    omega
  case k16 =>
    intro c1 c2 c3 c4 c5
    exfalso
    simp only [hin, hw] at c2 c3 c4 c5
    simp only [fa_le, fa_lt, fa_eq, q_t1e4, q_t2e4, q_tnot, q_tneg, q_t300, q_t1, q_t2, htop] at c2 c3 c4 c5 h0 h1 h2
    omega
  case k19 =>
    intro c1 c2 c3 c4 c5
    exfalso
    simp only [hin, hw] at c2 c3 c4 c5
    simp only [fa_le, fa_lt, fa_eq, q_t1e4, q_t2e4, q_tnot, q_tneg, q_t300, q_t1, q_t2, htop] at c2 c3 c4 c5 h0 h1 h2
    omega
  case s20 =>
    intro c1 c2 c3 c4 c5
    rw [hin] at *
    rw [show nI (top + 2) + (-1) = nI (top + 1) from q_mm1 _, nI_pred]; exact vp_in_nI (by omega) (by decide)
  case s21 =>
    intro c1 c2 c3 c4 c5
    rw [hin] at *
    rw [show nI (top + 2) + (-1) = nI (top + 1) from q_mm1 _]; exact vp_in_nI (by omega) (by decide)
  case k22 =>
    intro c1 c2 c3 c4 c5
    rw [hin] at *
    rw [show nI (top + 2) + (-1) = nI (top + 1) from q_mm1 _, nI_pred, nI_clamp (show top < 2 ^ 31 by omega), nI_clamp (show top + 1 < 2 ^ 31 by omega), hw]
    refine c_join hg (g75_200 hg hz (vp_in_nI (show top < 300 by omega) (by decide)) ?_)
    rw [nI_clamp (show top < 2 ^ 31 by omega), nI_1]
    exact k
  case k24 =>
    intro c1 c2 c3 c4 c5
    exfalso
    simp only [hin, hw] at c2 c3 c4 c5
    simp only [fa_le, fa_lt, fa_eq, q_t1e4, q_t2e4, q_tnot, q_tneg, q_t300, q_t1, q_t2, htop] at c2 c3 c4 c5 h0 h1 h2
    omega
  case s25 =>
    intro c1 c2 c3 c4 c5
    exfalso
    simp only [hin, hw] at c2 c3 c4 c5
    simp only [fa_le, fa_lt, fa_eq, q_t1e4, q_t2e4, q_tnot, q_tneg, q_t300, q_t1, q_t2, htop] at c2 c3 c4 c5 h0 h1 h2
    omega
  case s27 =>
    intro c1 c2 c3 c4 c5 c6
    exfalso
    simp only [hin, hw] at c2 c3 c4 c5 c6
    simp only [fa_le, fa_lt, fa_eq, q_t1e4, q_t2e4, q_tnot, q_tneg, q_t300, q_t1, q_t2, htop] at c2 c3 c4 c5 c6 h0 h1 h2
    omega
  case k28 =>
    intro c1 c2 c3 c4 c5 c6
    exfalso
    simp only [hin, hw] at c2 c3 c4 c5 c6
    simp only [fa_le, fa_lt, fa_eq, q_t1e4, q_t2e4, q_tnot, q_tneg, q_t300, q_t1, q_t2, htop] at c2 c3 c4 c5 c6 h0 h1 h2
    omega
  case s29 =>
    intro c1 c2 c3 c4 c5 c6
    exfalso
    simp only [hin, hw] at c2 c3 c4 c5 c6
    simp only [fa_le, fa_lt, fa_eq, q_t1e4, q_t2e4, q_tnot, q_tneg, q_t300, q_t1, q_t2, htop] at c2 c3 c4 c5 c6 h0 h1 h2
    omega
  case k30 =>
    intro c1 c2 c3 c4 c5 c6
    exfalso
    simp only [hin, hw] at c2 c3 c4 c5 c6
    simp only [fa_le, fa_lt, fa_eq, q_t1e4, q_t2e4, q_tnot, q_tneg, q_t300, q_t1, q_t2, htop] at c2 c3 c4 c5 c6 h0 h1 h2
    omega
  case k32 =>
    intro c1 c2 c3
    exfalso
    simp only [hin, hw] at c2 c3
    simp only [fa_le, fa_lt, fa_eq, q_t1e4, q_t2e4, q_tnot, q_tneg, q_t300, q_t1, q_t2, htop] at c2 c3 h0 h1 h2
    omega
  case k34 =>
    intro c1 c2 c3 c4
    exfalso
    simp only [hin, hw] at c2 c3 c4
    simp only [fa_le, fa_lt, fa_eq, q_t1e4, q_t2e4, q_tnot, q_tneg, q_t300, q_t1, q_t2, htop] at c2 c3 c4 h0 h1 h2
    omega
  case s35 =>
    intro c1 c2 c3 c4
    exfalso
    simp only [hin, hw] at c2 c3 c4
    simp only [fa_le, fa_lt, fa_eq, q_t1e4, q_t2e4, q_tnot, q_tneg, q_t300, q_t1, q_t2, htop] at c2 c3 c4 h0 h1 h2
    omega
  case k36 =>
    intro c1 c2 c3 c4
    exfalso
    simp only [hin, hw] at c2 c3 c4
    simp only [fa_le, fa_lt, fa_eq, q_t1e4, q_t2e4, q_tnot, q_tneg, q_t300, q_t1, q_t2, htop] at c2 c3 c4 h0 h1 h2
    omega
end
