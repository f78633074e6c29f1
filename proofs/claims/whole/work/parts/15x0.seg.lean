/-! java/util/Arrays.fill -/
set_option maxRecDepth 20000 in
theorem g8_0 {d n sl : Nat} {ln : Nat → Nat} {di : Nat → Nat → Int32} {dl : Nat → Nat → Int64} {dr : Nat → Nat → Option Nat} {x1 : Int32} {Q : Option Value → q_H → Prop} (hg : q_Gr n ln dr) {sa : Nat} (hk_sa : q_KD sa = 20) (hn_sa : sa < n) (h6_sa : 6 ≤ sa)
    (k1 : q_EX q_KD d 8 5 [.ref sa, .int x1, .int 0, .int (Int32.ofNat (ln sa))] [] (n, sl, ln, di, dl, dr) Q) : q_EX q_KD d 8 0 [.ref sa, .int x1, .retAddr 0, .retAddr 0] [] (n, sl, ln, di, dl, dr) Q := by
  refine (x_iconst 0 0 i8_0 rfl ?_)
  refine (x_istore_n 1 (ls2 := [.ref sa, .int x1, .int 0, .retAddr 0]) i8_1 (Nat.le_of_ble_eq_true rfl) rfl ?_)
  refine (x_aload_n 2 i8_2 rfl ?_)
  refine (x_alen 3 (Int32.ofNat (ln sa)) i8_3 (q_20 hk_sa) (q_24 hk_sa) hn_sa rfl ?_)
  exact (x_istore_n 4 (ls2 := [.ref sa, .int x1, .int 0, .int (Int32.ofNat (ln sa))]) i8_4 (Nat.le_of_ble_eq_true rfl) rfl k1)

set_option maxRecDepth 20000 in
theorem g8_5 {d n sl : Nat} {ln : Nat → Nat} {di : Nat → Nat → Int32} {dl : Nat → Nat → Int64} {dr : Nat → Nat → Option Nat} {x1 : Int32} {x2 : Int32} {x3 : Int32} {Q : Option Value → q_H → Prop} (hg : q_Gr n ln dr) {sa : Nat} (hk_sa : q_KD sa = 20) (hn_sa : sa < n) (h6_sa : 6 ≤ sa)
    (k2 : (x3 ≤ x2) → Q none (n, sl, ln, di, dl, dr))
    (s3 : (x2 < x3) → vp_in x2 (ln sa))
    (k4 : (x2 < x3) → q_EX q_KD d 8 5 [.ref sa, .int x1, .int (x2 + 1), .int x3] [] (n, sl, ln, (q_u di sa x2.toNatClampNeg x1), dl, dr) Q) : q_EX q_KD d 8 5 [.ref sa, .int x1, .int x2, .int x3] [] (n, sl, ln, di, dl, dr) Q := by
  refine (x_iload_n 5 i8_5 rfl ?_)
  refine (x_iload_n 6 i8_6 rfl ?_)
  refine (x_icmp_ge 7 20 i8_7 rfl (fun c1 => ?_) (fun c1 => ?_))
  · exact (x_vret 20 i8_20 rfl (k2 c1))
  · refine (x_aload_n 10 i8_10 rfl ?_)
    refine (x_iload_n 11 i8_11 rfl ?_)
    refine (x_iload_n 12 i8_12 rfl ?_)
    refine (x_iastore 13 i8_13 hk_sa h6_sa hn_sa (s3 c1) ?_)
    refine (x_iinc 14 (x2 + 1) (ls2 := [.ref sa, .int x1, .int (x2 + 1), .int x3]) i8_14 rfl (Nat.le_of_ble_eq_true rfl) rfl rfl ?_)
    exact (x_goto 17 5 i8_17 rfl (k4 c1))

/-! SilentHouse.person -/
set_option maxRecDepth 20000 in
theorem g11_0 {m n sl : Nat} {ln : Nat → Nat} {di : Nat → Nat → Int32} {dl : Nat → Nat → Int64} {dr : Nat → Nat → Option Nat} {x1 : Int32} {x2 : Int32} {x3 : Int32} {Q : Option Value → q_H → Prop} (hg : q_Gr n ln dr)
    (k1 : q_EX q_KD m 12 0 [.int x1, .int 9] [] (n, sl, ln, di, dl, dr) (fun r1 h1 => q_EX q_KD (m + 1) 11 6 [.ref 6, .int x1, .int x2, .int x3] (r1.toList ++ []) h1 Q)) : q_EX q_KD (m + 1) 11 0 [.ref 6, .int x1, .int x2, .int x3] [] (n, sl, ln, di, dl, dr) Q := by
  refine (x_iload_n 0 i11_0 rfl ?_)
  refine (x_bipush 1 9 i11_1 rfl ?_)
  exact (x_cs 3 (as := [.int x1, .int 9]) (rs := []) i11_3 rfl rfl rfl rfl (Nat.le_of_ble_eq_true rfl) (Nat.le_of_ble_eq_true rfl) rfl rfl k1)

set_option maxRecDepth 20000 in
theorem g11_6 {m n sl : Nat} {ln : Nat → Nat} {di : Nat → Nat → Int32} {dl : Nat → Nat → Int64} {dr : Nat → Nat → Option Nat} {x1 : Int32} {x2 : Int32} {x3 : Int32} {y0 : Int32} {Q : Option Value → q_H → Prop} (hg : q_Gr n ln dr)
    (k2 : (y0 = (0 : Int32)) → Q (some (.int (-1))) (n, sl, ln, di, dl, dr))
    (k3 : (¬ y0 = (0 : Int32)) → q_EX q_KD m 12 0 [.int x2, .int 9] [] (n, sl, ln, di, dl, dr) (fun r1 h1 => q_EX q_KD (m + 1) 11 15 [.ref 6, .int x1, .int x2, .int x3] (r1.toList ++ []) h1 Q)) : q_EX q_KD (m + 1) 11 6 [.ref 6, .int x1, .int x2, .int x3] [.int y0] (n, sl, ln, di, dl, dr) Q := by
  refine (x_if_eq 6 27 i11_6 rfl (fun c1 => ?_) (fun c1 => ?_))
  · refine (x_iconst 27 (-1) i11_27 rfl ?_)
    exact (x_iretI 28 i11_28 rfl (k2 c1))
  · refine (x_iload_n 9 i11_9 rfl ?_)
    refine (x_bipush 10 9 i11_10 rfl ?_)
    exact (x_cs 12 (as := [.int x2, .int 9]) (rs := []) i11_12 rfl rfl rfl rfl (Nat.le_of_ble_eq_true rfl) (Nat.le_of_ble_eq_true rfl) rfl rfl (k3 c1))

set_option maxRecDepth 20000 in
theorem g11_15 {m n sl : Nat} {ln : Nat → Nat} {di : Nat → Nat → Int32} {dl : Nat → Nat → Int64} {dr : Nat → Nat → Option Nat} {x1 : Int32} {x2 : Int32} {x3 : Int32} {y0 : Int32} {Q : Option Value → q_H → Prop} (hg : q_Gr n ln dr)
    (k2 : (y0 = (0 : Int32)) → Q (some (.int (-1))) (n, sl, ln, di, dl, dr))
    (k3 : (¬ y0 = (0 : Int32)) → q_EX q_KD m 12 0 [.int x3, .int 10] [] (n, sl, ln, di, dl, dr) (fun r1 h1 => q_EX q_KD (m + 1) 11 24 [.ref 6, .int x1, .int x2, .int x3] (r1.toList ++ []) h1 Q)) : q_EX q_KD (m + 1) 11 15 [.ref 6, .int x1, .int x2, .int x3] [.int y0] (n, sl, ln, di, dl, dr) Q := by
  refine (x_if_eq 15 27 i11_15 rfl (fun c1 => ?_) (fun c1 => ?_))
  · refine (x_iconst 27 (-1) i11_27 rfl ?_)
    exact (x_iretI 28 i11_28 rfl (k2 c1))
  · refine (x_iload_n 18 i11_18 rfl ?_)
    refine (x_bipush 19 10 i11_19 rfl ?_)
    exact (x_cs 21 (as := [.int x3, .int 10]) (rs := []) i11_21 rfl rfl rfl rfl (Nat.le_of_ble_eq_true rfl) (Nat.le_of_ble_eq_true rfl) rfl rfl (k3 c1))

set_option maxRecDepth 20000 in
theorem g11_24 {m n sl : Nat} {ln : Nat → Nat} {di : Nat → Nat → Int32} {dl : Nat → Nat → Int64} {dr : Nat → Nat → Option Nat} {x1 : Int32} {x2 : Int32} {x3 : Int32} {y0 : Int32} {Q : Option Value → q_H → Prop} (hg : q_Gr n ln dr)
    (k2 : (¬ y0 = (0 : Int32)) → q_EX q_KD m 13 0 [.ref 7, .int x1, .int x2, .int x3] [] (n, sl, ln, di, dl, dr) (fun r1 h1 => q_EX q_KD (m + 1) 11 39 [.retAddr 0, .retAddr 0, .retAddr 0, .retAddr 0] (r1.toList ++ []) h1 Q))
    (k3 : (y0 = (0 : Int32)) → Q (some (.int (-1))) (n, sl, ln, di, dl, dr)) : q_EX q_KD (m + 1) 11 24 [.ref 6, .int x1, .int x2, .int x3] [.int y0] (n, sl, ln, di, dl, dr) Q := by
  refine (x_if_ne 24 29 i11_24 rfl (fun c1 => ?_) (fun c1 => ?_))
  · refine (x_aload_n 29 i11_29 rfl ?_)
    refine (x_getR 30 7 i11_30 rfl (q_lt hg rfl) (Nat.le_of_ble_eq_true rfl) rfl (hg.2.2.1 6 0 7 rfl) ?_)
    refine (x_iload_n 33 i11_33 rfl ?_)
    refine (x_iload_n 34 i11_34 rfl ?_)
    refine (x_iload_n 35 i11_35 rfl ?_)
    refine (xx_loc (ls := [.retAddr 0, .retAddr 0, .retAddr 0, .retAddr 0]) (ls' := [.ref 6, .int x1, .int x2, .int x3]) ⟨Or.inr rfl, Or.inr rfl, Or.inr rfl, Or.inr rfl, trivial⟩ ?_)
    exact (x_cv 36 (as := [.int x1, .int x2, .int x3]) (rs := []) i11_36 rfl rfl rfl rfl (Nat.le_of_ble_eq_true rfl) (q_lt hg rfl) rfl (Or.inr (Nat.le_of_ble_eq_true rfl)) (Nat.le_of_ble_eq_true rfl) rfl rfl (k2 c1))
  · refine (x_iconst 27 (-1) i11_27 rfl ?_)
    exact (x_iretI 28 i11_28 rfl (k3 c1))

set_option maxRecDepth 20000 in
theorem g11_39 {d n sl : Nat} {ln : Nat → Nat} {di : Nat → Nat → Int32} {dl : Nat → Nat → Int64} {dr : Nat → Nat → Option Nat} {y0 : Int32} {Q : Option Value → q_H → Prop} (hg : q_Gr n ln dr)
    (k1 : Q (some (.int y0)) (n, sl, ln, di, dl, dr)) : q_EX q_KD d 11 39 [.retAddr 0, .retAddr 0, .retAddr 0, .retAddr 0] [.int y0] (n, sl, ln, di, dl, dr) Q := by
  exact (x_iretI 39 i11_39 rfl k1)

/-! SilentHouse.within -/
set_option maxRecDepth 20000 in
theorem g12_0 {d n sl : Nat} {ln : Nat → Nat} {di : Nat → Nat → Int32} {dl : Nat → Nat → Int64} {dr : Nat → Nat → Option Nat} {x0 : Int32} {x1 : Int32} {Q : Option Value → q_H → Prop} (hg : q_Gr n ln dr)
    (k2 : (x0 < (0 : Int32)) → Q (some (.int 0)) (n, sl, ln, di, dl, dr))
    (k4 : ((0 : Int32) ≤ x0) → (x1 < x0) → Q (some (.int 0)) (n, sl, ln, di, dl, dr))
    (k5 : ((0 : Int32) ≤ x0) → (x0 ≤ x1) → Q (some (.int 1)) (n, sl, ln, di, dl, dr)) : q_EX q_KD d 12 0 [.int x0, .int x1] [] (n, sl, ln, di, dl, dr) Q := by
  refine (x_iload_n 0 i12_0 rfl ?_)
  refine (x_if_lt 1 13 i12_1 rfl (fun c1 => ?_) (fun c1 => ?_))
  · refine (x_iconst 13 0 i12_13 rfl ?_)
    exact (x_iret0 14 i12_14 rfl (k2 c1))
  · refine (x_iload_n 4 i12_4 rfl ?_)
    refine (x_iload_n 5 i12_5 rfl ?_)
    refine (x_icmp_gt 6 13 i12_6 rfl (fun c3 => ?_) (fun c3 => ?_))
    · refine (x_iconst 13 0 i12_13 rfl ?_)
      exact (x_iret0 14 i12_14 rfl (k4 c1 c3))
    · refine (x_iconst 9 1 i12_9 rfl ?_)
      refine (x_goto 10 14 i12_10 rfl ?_)
      exact (x_iret1 14 i12_14 rfl (k5 c1 c3))

/-! SilentHouse$House.tellPerson -/
set_option maxRecDepth 20000 in
theorem g13_0 {d n sl : Nat} {ln : Nat → Nat} {di : Nat → Nat → Int32} {dl : Nat → Nat → Int64} {dr : Nat → Nat → Option Nat} {x1 : Int32} {x2 : Int32} {x3 : Int32} {Q : Option Value → q_H → Prop} (hg : q_Gr n ln dr)
    (s2 : ((di 7 10) < (6 : Int32)) → vp_in (di 7 10) 6)
    (s3 : ((di 7 10) < (6 : Int32)) → vp_in (di 7 10) 6)
    (s4 : ((di 7 10) < (6 : Int32)) → vp_in (di 7 10) 6)
    (k5 : ((di 7 10) < (6 : Int32)) → Q (some (.int (((di 7 10) + (1 : Int32)) - (1 : Int32)))) (n, sl, ln, (q_u (q_u (q_u (q_u di 8 ((di 7 10).toNatClampNeg) x1) 9 ((di 7 10).toNatClampNeg) x2) 10 ((di 7 10).toNatClampNeg) x3) 7 10 ((di 7 10) + (1 : Int32))), dl, dr))
    (k6 : ((6 : Int32) ≤ (di 7 10)) → Q (some (.int (-1))) (n, sl, ln, di, dl, dr)) : q_EX q_KD d 13 0 [.ref 7, .int x1, .int x2, .int x3] [] (n, sl, ln, di, dl, dr) Q := by
  refine (x_aload_n 0 i13_0 rfl ?_)
  refine (x_getI 1 10 (di 7 10) i13_1 rfl (q_lt hg rfl) (Nat.le_of_ble_eq_true rfl) (Or.inl rfl) rfl rfl ?_)
  refine (x_bipush 4 6 i13_4 rfl ?_)
  refine (x_icmp_lt 6 11 i13_6 rfl (fun c1 => ?_) (fun c1 => ?_))
  · refine (x_aload_n 11 i13_11 rfl ?_)
    refine (x_getR 12 8 i13_12 rfl (q_lt hg rfl) (Nat.le_of_ble_eq_true rfl) rfl (hg.2.2.1 7 0 8 rfl) ?_)
    refine (x_aload_n 15 i13_15 rfl ?_)
    refine (x_getI 16 10 (di 7 10) i13_16 rfl (q_lt hg rfl) (Nat.le_of_ble_eq_true rfl) (Or.inl rfl) rfl rfl ?_)
    refine (x_iload_n 19 i13_19 rfl ?_)
    refine (x_iastore 20 i13_20 rfl (Nat.le_of_ble_eq_true rfl) (q_lt hg rfl) (q_inE (hg.2.1 8 6 rfl) (s2 c1)) ?_)
    refine (x_aload_n 21 i13_21 rfl ?_)
    refine (x_getR 22 9 i13_22 rfl (q_lt hg rfl) (Nat.le_of_ble_eq_true rfl) rfl (hg.2.2.1 7 1 9 rfl) ?_)
    refine (x_aload_n 25 i13_25 rfl ?_)
    refine (x_getI 26 10 (di 7 10) i13_26 rfl (q_lt hg rfl) (Nat.le_of_ble_eq_true rfl) (Or.inl rfl) rfl rfl ?_)
    refine (x_iload_n 29 i13_29 rfl ?_)
    refine (x_iastore 30 i13_30 rfl (Nat.le_of_ble_eq_true rfl) (q_lt hg rfl) (q_inE (hg.2.1 9 6 rfl) (s3 c1)) ?_)
    refine (x_aload_n 31 i13_31 rfl ?_)
    refine (x_getR 32 10 i13_32 rfl (q_lt hg rfl) (Nat.le_of_ble_eq_true rfl) rfl (hg.2.2.1 7 2 10 rfl) ?_)
    refine (x_aload_n 35 i13_35 rfl ?_)
    refine (x_getI 36 10 (di 7 10) i13_36 rfl (q_lt hg rfl) (Nat.le_of_ble_eq_true rfl) (Or.inl rfl) rfl rfl ?_)
    refine (x_iload_n 39 i13_39 rfl ?_)
    refine (x_iastore 40 i13_40 rfl (Nat.le_of_ble_eq_true rfl) (q_lt hg rfl) (q_inE (hg.2.1 10 6 rfl) (s4 c1)) ?_)
    refine (x_aload_n 41 i13_41 rfl ?_)
    refine (x_dup 42 i13_42 rfl ?_)
    refine (x_getI 43 10 (di 7 10) i13_43 rfl (q_lt hg rfl) (Nat.le_of_ble_eq_true rfl) (Or.inl rfl) rfl rfl ?_)
    refine (x_iconst 46 1 i13_46 rfl ?_)
    refine (x_iadd 47 i13_47 ?_)
    refine (x_putI 48 10 i13_48 rfl (Nat.le_of_ble_eq_true rfl) (q_lt hg rfl) rfl rfl ?_)
    refine (x_aload_n 51 i13_51 rfl ?_)
    refine (x_getI 52 10 ((di 7 10) + (1 : Int32)) i13_52 rfl (q_lt hg rfl) (Nat.le_of_ble_eq_true rfl) (Or.inl rfl) rfl rfl ?_)
    refine (x_iconst 55 1 i13_55 rfl ?_)
    refine (x_isub 56 i13_56 ?_)
    exact (x_iretI 57 i13_57 rfl (k5 c1))
  · refine (x_iconst 9 (-1) i13_9 rfl ?_)
    exact (x_iretI 10 i13_10 rfl (k6 c1))

/-! SilentHouse.line -/
set_option maxRecDepth 20000 in
theorem g14_0 {m n sl : Nat} {ln : Nat → Nat} {di : Nat → Nat → Int32} {dl : Nat → Nat → Int64} {dr : Nat → Nat → Option Nat} {x1 : Int32} {x2 : Int32} {Q : Option Value → q_H → Prop} (hg : q_Gr n ln dr)
    (k1 : q_EX q_KD m 12 0 [.int x1, .int 2] [] (n, sl, ln, di, dl, dr) (fun r1 h1 => q_EX q_KD (m + 1) 14 5 [.ref 6, .int x1, .int x2] (r1.toList ++ []) h1 Q)) : q_EX q_KD (m + 1) 14 0 [.ref 6, .int x1, .int x2] [] (n, sl, ln, di, dl, dr) Q := by
  refine (x_iload_n 0 i14_0 rfl ?_)
  refine (x_iconst 1 2 i14_1 rfl ?_)
  exact (x_cs 2 (as := [.int x1, .int 2]) (rs := []) i14_2 rfl rfl rfl rfl (Nat.le_of_ble_eq_true rfl) (Nat.le_of_ble_eq_true rfl) rfl rfl k1)

set_option maxRecDepth 20000 in
theorem g14_5 {m n sl : Nat} {ln : Nat → Nat} {di : Nat → Nat → Int32} {dl : Nat → Nat → Int64} {dr : Nat → Nat → Option Nat} {x1 : Int32} {x2 : Int32} {y0 : Int32} {Q : Option Value → q_H → Prop} (hg : q_Gr n ln dr)
    (k2 : (y0 = (0 : Int32)) → Q (some (.int (-1))) (n, sl, ln, di, dl, dr))
    (k3 : (¬ y0 = (0 : Int32)) → q_EX q_KD m 12 0 [.int x2, .int 9] [] (n, sl, ln, di, dl, dr) (fun r1 h1 => q_EX q_KD (m + 1) 14 14 [.ref 6, .int x1, .int x2] (r1.toList ++ []) h1 Q)) : q_EX q_KD (m + 1) 14 5 [.ref 6, .int x1, .int x2] [.int y0] (n, sl, ln, di, dl, dr) Q := by
  refine (x_if_eq 5 17 i14_5 rfl (fun c1 => ?_) (fun c1 => ?_))
  · refine (x_iconst 17 (-1) i14_17 rfl ?_)
    exact (x_iretI 18 i14_18 rfl (k2 c1))
  · refine (x_iload_n 8 i14_8 rfl ?_)
    refine (x_bipush 9 9 i14_9 rfl ?_)
    exact (x_cs 11 (as := [.int x2, .int 9]) (rs := []) i14_11 rfl rfl rfl rfl (Nat.le_of_ble_eq_true rfl) (Nat.le_of_ble_eq_true rfl) rfl rfl (k3 c1))

set_option maxRecDepth 20000 in
theorem g14_14 {m n sl : Nat} {ln : Nat → Nat} {di : Nat → Nat → Int32} {dl : Nat → Nat → Int64} {dr : Nat → Nat → Option Nat} {x1 : Int32} {x2 : Int32} {y0 : Int32} {Q : Option Value → q_H → Prop} (hg : q_Gr n ln dr)
    (k2 : (¬ y0 = (0 : Int32)) → q_EX q_KD m 15 0 [.ref 60] [] (n, sl, ln, di, dl, dr) (fun r1 h1 => q_EX q_KD (m + 1) 14 26 [.ref 6, .int x1, .int x2] (r1.toList ++ []) h1 Q))
    (k3 : (y0 = (0 : Int32)) → Q (some (.int (-1))) (n, sl, ln, di, dl, dr)) : q_EX q_KD (m + 1) 14 14 [.ref 6, .int x1, .int x2] [.int y0] (n, sl, ln, di, dl, dr) Q := by
  refine (x_if_ne 14 19 i14_14 rfl (fun c1 => ?_) (fun c1 => ?_))
  · refine (x_aload_n 19 i14_19 rfl ?_)
    refine (x_getR 20 60 i14_20 rfl (q_lt hg rfl) (Nat.le_of_ble_eq_true rfl) rfl (hg.2.2.1 6 6 60 rfl) ?_)
    exact (x_cv 23 (as := []) (rs := []) i14_23 rfl rfl rfl rfl (Nat.le_of_ble_eq_true rfl) (q_lt hg rfl) rfl (Or.inr (Nat.le_of_ble_eq_true rfl)) (Nat.le_of_ble_eq_true rfl) rfl rfl (k2 c1))
  · refine (x_iconst 17 (-1) i14_17 rfl ?_)
    exact (x_iretI 18 i14_18 rfl (k3 c1))

set_option maxRecDepth 20000 in
theorem g14_26 {m n sl : Nat} {ln : Nat → Nat} {di : Nat → Nat → Int32} {dl : Nat → Nat → Int64} {dr : Nat → Nat → Option Nat} {x1 : Int32} {x2 : Int32} {Q : Option Value → q_H → Prop} (hg : q_Gr n ln dr)
    (k1 : q_EX q_KD m 16 0 [.ref 7, .int x1, .int x2] [] (n, sl, ln, di, dl, dr) (fun r1 h1 => q_EX q_KD (m + 1) 14 35 [.retAddr 0, .retAddr 0, .retAddr 0] (r1.toList ++ []) h1 Q)) : q_EX q_KD (m + 1) 14 26 [.ref 6, .int x1, .int x2] [] (n, sl, ln, di, dl, dr) Q := by
  refine (x_aload_n 26 i14_26 rfl ?_)
  refine (x_getR 27 7 i14_27 rfl (q_lt hg rfl) (Nat.le_of_ble_eq_true rfl) rfl (hg.2.2.1 6 0 7 rfl) ?_)
  refine (x_iload_n 30 i14_30 rfl ?_)
  refine (x_iload_n 31 i14_31 rfl ?_)
  refine (xx_loc (ls := [.retAddr 0, .retAddr 0, .retAddr 0]) (ls' := [.ref 6, .int x1, .int x2]) ⟨Or.inr rfl, Or.inr rfl, Or.inr rfl, trivial⟩ ?_)
  exact (x_cv 32 (as := [.int x1, .int x2]) (rs := []) i14_32 rfl rfl rfl rfl (Nat.le_of_ble_eq_true rfl) (q_lt hg rfl) rfl (Or.inr (Nat.le_of_ble_eq_true rfl)) (Nat.le_of_ble_eq_true rfl) rfl rfl k1)

set_option maxRecDepth 20000 in
theorem g14_35 {d n sl : Nat} {ln : Nat → Nat} {di : Nat → Nat → Int32} {dl : Nat → Nat → Int64} {dr : Nat → Nat → Option Nat} {y0 : Int32} {Q : Option Value → q_H → Prop} (hg : q_Gr n ln dr)
    (k1 : Q (some (.int y0)) (n, sl, ln, di, dl, dr)) : q_EX q_KD d 14 35 [.retAddr 0, .retAddr 0, .retAddr 0] [.int y0] (n, sl, ln, di, dl, dr) Q := by
  exact (x_iretI 35 i14_35 rfl k1)

/-! SilentHouse$Reckoner.forget -/
set_option maxRecDepth 20000 in
theorem g15_0 {m n sl : Nat} {ln : Nat → Nat} {di : Nat → Nat → Int32} {dl : Nat → Nat → Int64} {dr : Nat → Nat → Option Nat} {Q : Option Value → q_H → Prop} (hg : q_Gr n ln dr)
    (k1 : q_EX q_KD m 8 0 [.ref 61, .int (-1), .retAddr 0, .retAddr 0] [] (n, sl, ln, di, dl, dr) (fun r1 h1 => q_EX q_KD (m + 1) 15 8 [.ref 60] (r1.toList ++ []) h1 Q)) : q_EX q_KD (m + 1) 15 0 [.ref 60] [] (n, sl, ln, di, dl, dr) Q := by
  refine (x_aload_n 0 i15_0 rfl ?_)
  refine (x_getR 1 61 i15_1 rfl (q_lt hg rfl) (Nat.le_of_ble_eq_true rfl) rfl (hg.2.2.1 60 2 61 rfl) ?_)
  refine (x_iconst 4 (-1) i15_4 rfl ?_)
  exact (x_cs 5 (as := [.ref 61, .int (-1)]) (rs := []) i15_5 rfl rfl rfl rfl (Nat.le_of_ble_eq_true rfl) (Nat.le_of_ble_eq_true rfl) rfl rfl k1)

set_option maxRecDepth 20000 in
theorem g15_8 {d n sl : Nat} {ln : Nat → Nat} {di : Nat → Nat → Int32} {dl : Nat → Nat → Int64} {dr : Nat → Nat → Option Nat} {Q : Option Value → q_H → Prop} (hg : q_Gr n ln dr)
    (k1 : Q none (n, sl, ln, (q_u di 60 9 0), dl, dr)) : q_EX q_KD d 15 8 [.ref 60] [] (n, sl, ln, di, dl, dr) Q := by
  refine (x_aload_n 8 i15_8 rfl ?_)
  refine (x_iconst 9 0 i15_9 rfl ?_)
  refine (x_putZ 10 9 i15_10 rfl (Nat.le_of_ble_eq_true rfl) (q_lt hg rfl) rfl rfl rfl ?_)
  exact (x_vret 13 i15_13 rfl k1)

/-! SilentHouse$House.tellLine -/
set_option maxRecDepth 20000 in
theorem g16_0 {d n sl : Nat} {ln : Nat → Nat} {di : Nat → Nat → Int32} {dl : Nat → Nat → Int64} {dr : Nat → Nat → Option Nat} {x1 : Int32} {x2 : Int32} {Q : Option Value → q_H → Prop} (hg : q_Gr n ln dr)
    (s2 : ((di 7 12) < (10 : Int32)) → vp_in (di 7 12) 10)
    (s3 : ((di 7 12) < (10 : Int32)) → vp_in (di 7 12) 10)
    (k4 : ((di 7 12) < (10 : Int32)) → Q (some (.int (((di 7 12) + (1 : Int32)) - (1 : Int32)))) (n, sl, ln, (q_u (q_u (q_u di 13 ((di 7 12).toNatClampNeg) x1) 14 ((di 7 12).toNatClampNeg) x2) 7 12 ((di 7 12) + (1 : Int32))), dl, dr))
    (k5 : ((10 : Int32) ≤ (di 7 12)) → Q (some (.int (-1))) (n, sl, ln, di, dl, dr)) : q_EX q_KD d 16 0 [.ref 7, .int x1, .int x2] [] (n, sl, ln, di, dl, dr) Q := by
  refine (x_aload_n 0 i16_0 rfl ?_)
  refine (x_getI 1 12 (di 7 12) i16_1 rfl (q_lt hg rfl) (Nat.le_of_ble_eq_true rfl) (Or.inl rfl) rfl rfl ?_)
  refine (x_bipush 4 10 i16_4 rfl ?_)
  refine (x_icmp_lt 6 11 i16_6 rfl (fun c1 => ?_) (fun c1 => ?_))
  · refine (x_aload_n 11 i16_11 rfl ?_)
    refine (x_getR 12 13 i16_12 rfl (q_lt hg rfl) (Nat.le_of_ble_eq_true rfl) rfl (hg.2.2.1 7 5 13 rfl) ?_)
    refine (x_aload_n 15 i16_15 rfl ?_)
    refine (x_getI 16 12 (di 7 12) i16_16 rfl (q_lt hg rfl) (Nat.le_of_ble_eq_true rfl) (Or.inl rfl) rfl rfl ?_)
    refine (x_iload_n 19 i16_19 rfl ?_)
    refine (x_iastore 20 i16_20 rfl (Nat.le_of_ble_eq_true rfl) (q_lt hg rfl) (q_inE (hg.2.1 13 10 rfl) (s2 c1)) ?_)
    refine (x_aload_n 21 i16_21 rfl ?_)
    refine (x_getR 22 14 i16_22 rfl (q_lt hg rfl) (Nat.le_of_ble_eq_true rfl) rfl (hg.2.2.1 7 6 14 rfl) ?_)
    refine (x_aload_n 25 i16_25 rfl ?_)
    refine (x_getI 26 12 (di 7 12) i16_26 rfl (q_lt hg rfl) (Nat.le_of_ble_eq_true rfl) (Or.inl rfl) rfl rfl ?_)
    refine (x_iload_n 29 i16_29 rfl ?_)
    refine (x_iastore 30 i16_30 rfl (Nat.le_of_ble_eq_true rfl) (q_lt hg rfl) (q_inE (hg.2.1 14 10 rfl) (s3 c1)) ?_)
    refine (x_aload_n 31 i16_31 rfl ?_)
    refine (x_dup 32 i16_32 rfl ?_)
    refine (x_getI 33 12 (di 7 12) i16_33 rfl (q_lt hg rfl) (Nat.le_of_ble_eq_true rfl) (Or.inl rfl) rfl rfl ?_)
    refine (x_iconst 36 1 i16_36 rfl ?_)
    refine (x_iadd 37 i16_37 ?_)
    refine (x_putI 38 12 i16_38 rfl (Nat.le_of_ble_eq_true rfl) (q_lt hg rfl) rfl rfl ?_)
    refine (x_aload_n 41 i16_41 rfl ?_)
    refine (x_getI 42 12 ((di 7 12) + (1 : Int32)) i16_42 rfl (q_lt hg rfl) (Nat.le_of_ble_eq_true rfl) (Or.inl rfl) rfl rfl ?_)
    refine (x_iconst 45 1 i16_45 rfl ?_)
    refine (x_isub 46 i16_46 ?_)
    exact (x_iretI 47 i16_47 rfl (k4 c1))
  · refine (x_iconst 9 (-1) i16_9 rfl ?_)
    exact (x_iretI 10 i16_10 rfl (k5 c1))

/-! SilentHouse.seed -/
set_option maxRecDepth 20000 in
theorem g17_0 {m n sl : Nat} {ln : Nat → Nat} {di : Nat → Nat → Int32} {dl : Nat → Nat → Int64} {dr : Nat → Nat → Option Nat} {x1 : Int32} {Q : Option Value → q_H → Prop} (hg : q_Gr n ln dr)
    (k1 : q_EX q_KD m 12 0 [.int x1, .int 9999] [] (n, sl, ln, di, dl, dr) (fun r1 h1 => q_EX q_KD (m + 1) 17 7 [.ref 6, .int x1] (r1.toList ++ []) h1 Q)) : q_EX q_KD (m + 1) 17 0 [.ref 6, .int x1] [] (n, sl, ln, di, dl, dr) Q := by
  refine (x_iload_n 0 i17_0 rfl ?_)
  refine (x_sipush 1 9999 i17_1 rfl ?_)
  exact (x_cs 4 (as := [.int x1, .int 9999]) (rs := []) i17_4 rfl rfl rfl rfl (Nat.le_of_ble_eq_true rfl) (Nat.le_of_ble_eq_true rfl) rfl rfl k1)

set_option maxRecDepth 20000 in
theorem g17_7 {d n sl : Nat} {ln : Nat → Nat} {di : Nat → Nat → Int32} {dl : Nat → Nat → Int64} {dr : Nat → Nat → Option Nat} {x1 : Int32} {y0 : Int32} {Q : Option Value → q_H → Prop} (hg : q_Gr n ln dr)
    (k2 : (¬ y0 = (0 : Int32)) → Q (some (.int 1)) (n, sl, ln, (q_u di 7 16 ((x1 * (3 : Int32)) + (17 : Int32))), dl, dr))
    (k3 : (y0 = (0 : Int32)) → Q (some (.int 0)) (n, sl, ln, di, dl, dr)) : q_EX q_KD d 17 7 [.ref 6, .int x1] [.int y0] (n, sl, ln, di, dl, dr) Q := by
  refine (x_if_ne 7 12 i17_7 rfl (fun c1 => ?_) (fun c1 => ?_))
  · refine (x_aload_n 12 i17_12 rfl ?_)
    refine (x_getR 13 7 i17_13 rfl (q_lt hg rfl) (Nat.le_of_ble_eq_true rfl) rfl (hg.2.2.1 6 0 7 rfl) ?_)
    refine (x_iload_n 16 i17_16 rfl ?_)
    refine (x_iconst 17 3 i17_17 rfl ?_)
    refine (x_imul 18 i17_18 ?_)
    refine (x_bipush 19 17 i17_19 rfl ?_)
    refine (x_iadd 21 i17_21 ?_)
    refine (x_putI 22 16 i17_22 rfl (Nat.le_of_ble_eq_true rfl) (q_lt hg rfl) rfl rfl ?_)
    refine (x_iconst 25 1 i17_25 rfl ?_)
    exact (x_iret1 26 i17_26 rfl (k2 c1))
  · refine (x_iconst 10 0 i17_10 rfl ?_)
    exact (x_iret0 11 i17_11 rfl (k3 c1))

/-! SilentHouse.feed -/
set_option maxRecDepth 20000 in
theorem g18_0 {m n sl : Nat} {ln : Nat → Nat} {di : Nat → Nat → Int32} {dl : Nat → Nat → Int64} {dr : Nat → Nat → Option Nat} {x1 : Int32} {x2 : Int32} {x3 : Int32} {x4 : Int32} {x5 : Int32} {Q : Option Value → q_H → Prop} (hg : q_Gr n ln dr)
    (k2 : (((di 40 3) + (20 : Int32)) ≤ (300 : Int32)) → q_EX q_KD m 19 0 [.ref 40, .int x1, .retAddr 0] [] (n, sl, ln, di, dl, dr) (fun r1 h1 => q_EX q_KD (m + 1) 18 31 [.retAddr 0, .retAddr 0, .int x2, .int x3, .int x4, .int x5, .ref 40] (r1.toList ++ []) h1 Q))
    (k3 : ((300 : Int32) < ((di 40 3) + (20 : Int32))) → Q (some (.int (-1))) (n, sl, ln, di, dl, dr)) : q_EX q_KD (m + 1) 18 0 [.ref 6, .int x1, .int x2, .int x3, .int x4, .int x5, .retAddr 0] [] (n, sl, ln, di, dl, dr) Q := by
  refine (x_aload_n 0 i18_0 rfl ?_)
  refine (x_getR 1 39 i18_1 rfl (q_lt hg rfl) (Nat.le_of_ble_eq_true rfl) rfl (hg.2.2.1 6 2 39 rfl) ?_)
  refine (x_getR 4 40 i18_4 rfl (q_lt hg rfl) (Nat.le_of_ble_eq_true rfl) rfl (hg.2.2.1 39 0 40 rfl) ?_)
  refine (x_astore 7 (ls2 := [.ref 6, .int x1, .int x2, .int x3, .int x4, .int x5, .ref 40]) i18_7 (Nat.le_of_ble_eq_true rfl) rfl ?_)
  refine (x_aload 9 i18_9 rfl ?_)
  refine (x_getI 11 3 (di 40 3) i18_11 rfl (q_lt hg rfl) (Nat.le_of_ble_eq_true rfl) (Or.inl rfl) rfl rfl ?_)
  refine (x_bipush 14 20 i18_14 rfl ?_)
  refine (x_iadd 16 i18_16 ?_)
  refine (x_sipush 17 300 i18_17 rfl ?_)
  refine (x_icmp_le 20 25 i18_20 rfl (fun c1 => ?_) (fun c1 => ?_))
  · refine (x_aload 25 i18_25 rfl ?_)
    refine (x_iload_n 27 i18_27 rfl ?_)
    refine (xx_loc (ls := [.retAddr 0, .retAddr 0, .int x2, .int x3, .int x4, .int x5, .ref 40]) (ls' := [.ref 6, .int x1, .int x2, .int x3, .int x4, .int x5, .ref 40]) ⟨Or.inr rfl, Or.inr rfl, Or.inl rfl, Or.inl rfl, Or.inl rfl, Or.inl rfl, Or.inl rfl, trivial⟩ ?_)
    exact (x_cv 28 (as := [.int x1]) (rs := []) i18_28 rfl rfl rfl rfl (Nat.le_of_ble_eq_true rfl) (q_lt hg rfl) rfl (Or.inr (Nat.le_of_ble_eq_true rfl)) (Nat.le_of_ble_eq_true rfl) rfl rfl (k2 c1))
  · refine (x_iconst 23 (-1) i18_23 rfl ?_)
    exact (x_iretI 24 i18_24 rfl (k3 c1))

set_option maxRecDepth 20000 in
theorem g18_31 {m n sl : Nat} {ln : Nat → Nat} {di : Nat → Nat → Int32} {dl : Nat → Nat → Int64} {dr : Nat → Nat → Option Nat} {x2 : Int32} {x3 : Int32} {x4 : Int32} {x5 : Int32} {Q : Option Value → q_H → Prop} (hg : q_Gr n ln dr)
    (k1 : q_EX q_KD m 19 0 [.ref 40, .int x2, .retAddr 0] [] (n, sl, ln, di, dl, dr) (fun r1 h1 => q_EX q_KD (m + 1) 18 37 [.retAddr 0, .retAddr 0, .retAddr 0, .int x3, .int x4, .int x5, .ref 40] (r1.toList ++ []) h1 Q)) : q_EX q_KD (m + 1) 18 31 [.retAddr 0, .retAddr 0, .int x2, .int x3, .int x4, .int x5, .ref 40] [] (n, sl, ln, di, dl, dr) Q := by
  refine (x_aload 31 i18_31 rfl ?_)
  refine (x_iload_n 33 i18_33 rfl ?_)
  refine (xx_loc (ls := [.retAddr 0, .retAddr 0, .retAddr 0, .int x3, .int x4, .int x5, .ref 40]) (ls' := [.retAddr 0, .retAddr 0, .int x2, .int x3, .int x4, .int x5, .ref 40]) ⟨Or.inl rfl, Or.inl rfl, Or.inr rfl, Or.inl rfl, Or.inl rfl, Or.inl rfl, Or.inl rfl, trivial⟩ ?_)
  exact (x_cv 34 (as := [.int x2]) (rs := []) i18_34 rfl rfl rfl rfl (Nat.le_of_ble_eq_true rfl) (q_lt hg rfl) rfl (Or.inr (Nat.le_of_ble_eq_true rfl)) (Nat.le_of_ble_eq_true rfl) rfl rfl k1)

set_option maxRecDepth 20000 in
theorem g18_37 {m n sl : Nat} {ln : Nat → Nat} {di : Nat → Nat → Int32} {dl : Nat → Nat → Int64} {dr : Nat → Nat → Option Nat} {x3 : Int32} {x4 : Int32} {x5 : Int32} {Q : Option Value → q_H → Prop} (hg : q_Gr n ln dr)
    (k1 : q_EX q_KD m 19 0 [.ref 40, .int x3, .retAddr 0] [] (n, sl, ln, di, dl, dr) (fun r1 h1 => q_EX q_KD (m + 1) 18 43 [.retAddr 0, .retAddr 0, .retAddr 0, .retAddr 0, .int x4, .int x5, .ref 40] (r1.toList ++ []) h1 Q)) : q_EX q_KD (m + 1) 18 37 [.retAddr 0, .retAddr 0, .retAddr 0, .int x3, .int x4, .int x5, .ref 40] [] (n, sl, ln, di, dl, dr) Q := by
  refine (x_aload 37 i18_37 rfl ?_)
  refine (x_iload_n 39 i18_39 rfl ?_)
  refine (xx_loc (ls := [.retAddr 0, .retAddr 0, .retAddr 0, .retAddr 0, .int x4, .int x5, .ref 40]) (ls' := [.retAddr 0, .retAddr 0, .retAddr 0, .int x3, .int x4, .int x5, .ref 40]) ⟨Or.inl rfl, Or.inl rfl, Or.inl rfl, Or.inr rfl, Or.inl rfl, Or.inl rfl, Or.inl rfl, trivial⟩ ?_)
  exact (x_cv 40 (as := [.int x3]) (rs := []) i18_40 rfl rfl rfl rfl (Nat.le_of_ble_eq_true rfl) (q_lt hg rfl) rfl (Or.inr (Nat.le_of_ble_eq_true rfl)) (Nat.le_of_ble_eq_true rfl) rfl rfl k1)

set_option maxRecDepth 20000 in
theorem g18_43 {m n sl : Nat} {ln : Nat → Nat} {di : Nat → Nat → Int32} {dl : Nat → Nat → Int64} {dr : Nat → Nat → Option Nat} {x4 : Int32} {x5 : Int32} {Q : Option Value → q_H → Prop} (hg : q_Gr n ln dr)
    (k1 : q_EX q_KD m 19 0 [.ref 40, .int x4, .retAddr 0] [] (n, sl, ln, di, dl, dr) (fun r1 h1 => q_EX q_KD (m + 1) 18 50 [.retAddr 0, .retAddr 0, .retAddr 0, .retAddr 0, .retAddr 0, .int x5, .ref 40] (r1.toList ++ []) h1 Q)) : q_EX q_KD (m + 1) 18 43 [.retAddr 0, .retAddr 0, .retAddr 0, .retAddr 0, .int x4, .int x5, .ref 40] [] (n, sl, ln, di, dl, dr) Q := by
  refine (x_aload 43 i18_43 rfl ?_)
  refine (x_iload 45 i18_45 rfl ?_)
  refine (xx_loc (ls := [.retAddr 0, .retAddr 0, .retAddr 0, .retAddr 0, .retAddr 0, .int x5, .ref 40]) (ls' := [.retAddr 0, .retAddr 0, .retAddr 0, .retAddr 0, .int x4, .int x5, .ref 40]) ⟨Or.inl rfl, Or.inl rfl, Or.inl rfl, Or.inl rfl, Or.inr rfl, Or.inl rfl, Or.inl rfl, trivial⟩ ?_)
  exact (x_cv 47 (as := [.int x4]) (rs := []) i18_47 rfl rfl rfl rfl (Nat.le_of_ble_eq_true rfl) (q_lt hg rfl) rfl (Or.inr (Nat.le_of_ble_eq_true rfl)) (Nat.le_of_ble_eq_true rfl) rfl rfl k1)

set_option maxRecDepth 20000 in
theorem g18_50 {m n sl : Nat} {ln : Nat → Nat} {di : Nat → Nat → Int32} {dl : Nat → Nat → Int64} {dr : Nat → Nat → Option Nat} {x5 : Int32} {Q : Option Value → q_H → Prop} (hg : q_Gr n ln dr)
    (k1 : q_EX q_KD m 19 0 [.ref 40, .int x5, .retAddr 0] [] (n, sl, ln, di, dl, dr) (fun r1 h1 => q_EX q_KD (m + 1) 18 57 [.retAddr 0, .retAddr 0, .retAddr 0, .retAddr 0, .retAddr 0, .retAddr 0, .ref 40] (r1.toList ++ []) h1 Q)) : q_EX q_KD (m + 1) 18 50 [.retAddr 0, .retAddr 0, .retAddr 0, .retAddr 0, .retAddr 0, .int x5, .ref 40] [] (n, sl, ln, di, dl, dr) Q := by
  refine (x_aload 50 i18_50 rfl ?_)
  refine (x_iload 52 i18_52 rfl ?_)
  refine (xx_loc (ls := [.retAddr 0, .retAddr 0, .retAddr 0, .retAddr 0, .retAddr 0, .retAddr 0, .ref 40]) (ls' := [.retAddr 0, .retAddr 0, .retAddr 0, .retAddr 0, .retAddr 0, .int x5, .ref 40]) ⟨Or.inl rfl, Or.inl rfl, Or.inl rfl, Or.inl rfl, Or.inl rfl, Or.inr rfl, Or.inl rfl, trivial⟩ ?_)
  exact (x_cv 54 (as := [.int x5]) (rs := []) i18_54 rfl rfl rfl rfl (Nat.le_of_ble_eq_true rfl) (q_lt hg rfl) rfl (Or.inr (Nat.le_of_ble_eq_true rfl)) (Nat.le_of_ble_eq_true rfl) rfl rfl k1)

set_option maxRecDepth 20000 in
theorem g18_57 {d n sl : Nat} {ln : Nat → Nat} {di : Nat → Nat → Int32} {dl : Nat → Nat → Int64} {dr : Nat → Nat → Option Nat} {Q : Option Value → q_H → Prop} (hg : q_Gr n ln dr)
    (k1 : Q (some (.int (di 40 3))) (n, sl, ln, di, dl, dr)) : q_EX q_KD d 18 57 [.retAddr 0, .retAddr 0, .retAddr 0, .retAddr 0, .retAddr 0, .retAddr 0, .ref 40] [] (n, sl, ln, di, dl, dr) Q := by
  refine (x_aload 57 i18_57 rfl ?_)
  refine (x_getI 59 3 (di 40 3) i18_59 rfl (q_lt hg rfl) (Nat.le_of_ble_eq_true rfl) (Or.inl rfl) rfl rfl ?_)
  exact (x_iretI 62 i18_62 rfl k1)

/-! SilentHouse$Tokens.append -/
set_option maxRecDepth 20000 in
theorem g19_0 {d n sl : Nat} {ln : Nat → Nat} {di : Nat → Nat → Int32} {dl : Nat → Nat → Int64} {dr : Nat → Nat → Option Nat} {x1 : Int32} {Q : Option Value → q_H → Prop} (hg : q_Gr n ln dr)
    (k1 : q_EX q_KD d 19 3 [.ref 40, .int x1, .int 24] [] (n, sl, ln, di, dl, dr) Q) : q_EX q_KD d 19 0 [.ref 40, .int x1, .retAddr 0] [] (n, sl, ln, di, dl, dr) Q := by
  refine (x_bipush 0 24 i19_0 rfl ?_)
  exact (x_istore_n 2 (ls2 := [.ref 40, .int x1, .int 24]) i19_2 (Nat.le_of_ble_eq_true rfl) rfl k1)

set_option maxRecDepth 20000 in
theorem g19_3 {d n sl : Nat} {ln : Nat → Nat} {di : Nat → Nat → Int32} {dl : Nat → Nat → Int64} {dr : Nat → Nat → Option Nat} {x1 : Int32} {x2 : Int32} {Q : Option Value → q_H → Prop} (hg : q_Gr n ln dr)
    (k2 : (x2 < (0 : Int32)) → Q none (n, sl, ln, di, dl, dr))
    (k4 : ((0 : Int32) ≤ x2) → ((300 : Int32) ≤ (di 40 3)) → Q none (n, sl, ln, di, dl, dr))
    (s5 : ((0 : Int32) ≤ x2) → ((di 40 3) < (300 : Int32)) → vp_in (di 40 3) 300)
    (k6 : ((0 : Int32) ≤ x2) → ((di 40 3) < (300 : Int32)) → q_EX q_KD d 19 3 [.ref 40, .int x1, .int (x2 + (-8))] [] (n, sl, ln, (q_u (q_u di 41 ((di 40 3).toNatClampNeg) (vp_nar .byte ((x1 >>> (x2 &&& 31)).toInt8.toInt32))) 40 3 ((di 40 3) + (1 : Int32))), dl, dr) Q) : q_EX q_KD d 19 3 [.ref 40, .int x1, .int x2] [] (n, sl, ln, di, dl, dr) Q := by
  refine (x_iload_n 3 i19_3 rfl ?_)
  refine (x_if_lt 4 46 i19_4 rfl (fun c1 => ?_) (fun c1 => ?_))
  · exact (x_vret 46 i19_46 rfl (k2 c1))
  · refine (x_aload_n 7 i19_7 rfl ?_)
    refine (x_getI 8 3 (di 40 3) i19_8 rfl (q_lt hg rfl) (Nat.le_of_ble_eq_true rfl) (Or.inl rfl) rfl rfl ?_)
    refine (x_sipush 11 300 i19_11 rfl ?_)
    refine (x_icmp_ge 14 46 i19_14 rfl (fun c3 => ?_) (fun c3 => ?_))
    · exact (x_vret 46 i19_46 rfl (k4 c1 c3))
    · refine (x_aload_n 17 i19_17 rfl ?_)
      refine (x_getR 18 41 i19_18 rfl (q_lt hg rfl) (Nat.le_of_ble_eq_true rfl) rfl (hg.2.2.1 40 0 41 rfl) ?_)
      refine (x_aload_n 21 i19_21 rfl ?_)
      refine (x_getI 22 3 (di 40 3) i19_22 rfl (q_lt hg rfl) (Nat.le_of_ble_eq_true rfl) (Or.inl rfl) rfl rfl ?_)
      refine (x_iload_n 25 i19_25 rfl ?_)
      refine (x_iload_n 26 i19_26 rfl ?_)
      refine (x_ishr 27 i19_27 ?_)
      refine (x_i2b 28 i19_28 ?_)
      refine (x_bastore 29 i19_29 rfl (Nat.le_of_ble_eq_true rfl) (q_lt hg rfl) (q_inE (hg.2.1 41 300 rfl) (s5 c1 c3)) ?_)
      refine (x_aload_n 30 i19_30 rfl ?_)
      refine (x_dup 31 i19_31 rfl ?_)
      refine (x_getI 32 3 (di 40 3) i19_32 rfl (q_lt hg rfl) (Nat.le_of_ble_eq_true rfl) (Or.inl rfl) rfl rfl ?_)
      refine (x_iconst 35 1 i19_35 rfl ?_)
      refine (x_iadd 36 i19_36 ?_)
      refine (x_putI 37 3 i19_37 rfl (Nat.le_of_ble_eq_true rfl) (q_lt hg rfl) rfl rfl ?_)
      refine (x_iinc 40 (x2 + (-8)) (ls2 := [.ref 40, .int x1, .int (x2 + (-8))]) i19_40 rfl (Nat.le_of_ble_eq_true rfl) rfl rfl ?_)
      exact (x_goto 43 3 i19_43 rfl (k6 c1 c3))

/-! SilentHouse.end -/
set_option maxRecDepth 20000 in
theorem g20_0 {m n sl : Nat} {ln : Nat → Nat} {di : Nat → Nat → Int32} {dl : Nat → Nat → Int64} {dr : Nat → Nat → Option Nat} {x1 : Int32} {Q : Option Value → q_H → Prop} (hg : q_Gr n ln dr)
    (k1 : q_EX q_KD m 12 0 [.int x1, .int (di 40 3)] [] (n, sl, ln, di, dl, dr) (fun r1 h1 => q_EX q_KD (m + 1) 20 14 [.ref 6, .int x1] (r1.toList ++ []) h1 Q)) : q_EX q_KD (m + 1) 20 0 [.ref 6, .int x1] [] (n, sl, ln, di, dl, dr) Q := by
  refine (x_iload_n 0 i20_0 rfl ?_)
  refine (x_aload_n 1 i20_1 rfl ?_)
  refine (x_getR 2 39 i20_2 rfl (q_lt hg rfl) (Nat.le_of_ble_eq_true rfl) rfl (hg.2.2.1 6 2 39 rfl) ?_)
  refine (x_getR 5 40 i20_5 rfl (q_lt hg rfl) (Nat.le_of_ble_eq_true rfl) rfl (hg.2.2.1 39 0 40 rfl) ?_)
  refine (x_getI 8 3 (di 40 3) i20_8 rfl (q_lt hg rfl) (Nat.le_of_ble_eq_true rfl) (Or.inl rfl) rfl rfl ?_)
  exact (x_cs 11 (as := [.int x1, .int (di 40 3)]) (rs := []) i20_11 rfl rfl rfl rfl (Nat.le_of_ble_eq_true rfl) (Nat.le_of_ble_eq_true rfl) rfl rfl k1)

set_option maxRecDepth 20000 in
theorem g20_14 {d n sl : Nat} {ln : Nat → Nat} {di : Nat → Nat → Int32} {dl : Nat → Nat → Int64} {dr : Nat → Nat → Option Nat} {x1 : Int32} {y0 : Int32} {Q : Option Value → q_H → Prop} (hg : q_Gr n ln dr)
    (k2 : (¬ y0 = (0 : Int32)) → Q (some (.int x1)) (n, sl, ln, (q_u di 40 3 x1), dl, dr))
    (k3 : (y0 = (0 : Int32)) → Q (some (.int (-1))) (n, sl, ln, di, dl, dr)) : q_EX q_KD d 20 14 [.ref 6, .int x1] [.int y0] (n, sl, ln, di, dl, dr) Q := by
  refine (x_if_ne 14 19 i20_14 rfl (fun c1 => ?_) (fun c1 => ?_))
  · refine (x_aload_n 19 i20_19 rfl ?_)
    refine (x_getR 20 39 i20_20 rfl (q_lt hg rfl) (Nat.le_of_ble_eq_true rfl) rfl (hg.2.2.1 6 2 39 rfl) ?_)
    refine (x_getR 23 40 i20_23 rfl (q_lt hg rfl) (Nat.le_of_ble_eq_true rfl) rfl (hg.2.2.1 39 0 40 rfl) ?_)
    refine (x_iload_n 26 i20_26 rfl ?_)
    refine (x_putI 27 3 i20_27 rfl (Nat.le_of_ble_eq_true rfl) (q_lt hg rfl) rfl rfl ?_)
    refine (x_iload_n 30 i20_30 rfl ?_)
    exact (x_iretI 31 i20_31 rfl (k2 c1))
  · refine (x_iconst 17 (-1) i20_17 rfl ?_)
    exact (x_iretI 18 i20_18 rfl (k3 c1))

/-! SilentHouse$Reader.read -/
set_option maxRecDepth 20000 in
theorem g22_0 {m n sl : Nat} {ln : Nat → Nat} {di : Nat → Nat → Int32} {dl : Nat → Nat → Int64} {dr : Nat → Nat → Option Nat} {Q : Option Value → q_H → Prop} (hg : q_Gr n ln dr)
    (k1 : q_EX q_KD m 8 0 [.ref 45, .int 0, .retAddr 0, .retAddr 0] [] (n, sl, ln, (q_u (q_u (q_u (q_u (q_u di 39 13 0) 39 14 (-1)) 39 9 0) 39 10 0) 39 12 0), dl, dr) (fun r1 h1 => q_EX q_KD (m + 1) 22 33 [.ref 39, .retAddr 0] (r1.toList ++ []) h1 Q)) : q_EX q_KD (m + 1) 22 0 [.ref 39, .retAddr 0] [] (n, sl, ln, di, dl, dr) Q := by
  refine (x_aload_n 0 i22_0 rfl ?_)
  refine (x_iconst 1 0 i22_1 rfl ?_)
  refine (x_putI 2 13 i22_2 rfl (Nat.le_of_ble_eq_true rfl) (q_lt hg rfl) rfl rfl ?_)
  refine (x_aload_n 5 i22_5 rfl ?_)
  refine (x_iconst 6 (-1) i22_6 rfl ?_)
  refine (x_putI 7 14 i22_7 rfl (Nat.le_of_ble_eq_true rfl) (q_lt hg rfl) rfl rfl ?_)
  refine (x_aload_n 10 i22_10 rfl ?_)
  refine (x_iconst 11 0 i22_11 rfl ?_)
  refine (x_putI 12 9 i22_12 rfl (Nat.le_of_ble_eq_true rfl) (q_lt hg rfl) rfl rfl ?_)
  refine (x_aload_n 15 i22_15 rfl ?_)
  refine (x_iconst 16 0 i22_16 rfl ?_)
  refine (x_putI 17 10 i22_17 rfl (Nat.le_of_ble_eq_true rfl) (q_lt hg rfl) rfl rfl ?_)
  refine (x_aload_n 20 i22_20 rfl ?_)
  refine (x_iconst 21 0 i22_21 rfl ?_)
  refine (x_putZ 22 12 i22_22 rfl (Nat.le_of_ble_eq_true rfl) (q_lt hg rfl) rfl rfl rfl ?_)
  refine (x_aload_n 25 i22_25 rfl ?_)
  refine (x_getR 26 45 i22_26 rfl (q_lt hg rfl) (Nat.le_of_ble_eq_true rfl) rfl (hg.2.2.1 39 2 45 rfl) ?_)
  refine (x_iconst 29 0 i22_29 rfl ?_)
  exact (x_cs 30 (as := [.ref 45, .int 0]) (rs := []) i22_30 rfl rfl rfl rfl (Nat.le_of_ble_eq_true rfl) (Nat.le_of_ble_eq_true rfl) rfl rfl k1)

set_option maxRecDepth 20000 in
theorem g22_33 {m n sl : Nat} {ln : Nat → Nat} {di : Nat → Nat → Int32} {dl : Nat → Nat → Int64} {dr : Nat → Nat → Option Nat} {Q : Option Value → q_H → Prop} (hg : q_Gr n ln dr)
    (k1 : q_EX q_KD m 8 0 [.ref 46, .int 0, .retAddr 0, .retAddr 0] [] (n, sl, ln, di, dl, dr) (fun r1 h1 => q_EX q_KD (m + 1) 22 41 [.ref 39, .retAddr 0] (r1.toList ++ []) h1 Q)) : q_EX q_KD (m + 1) 22 33 [.ref 39, .retAddr 0] [] (n, sl, ln, di, dl, dr) Q := by
  refine (x_aload_n 33 i22_33 rfl ?_)
  refine (x_getR 34 46 i22_34 rfl (q_lt hg rfl) (Nat.le_of_ble_eq_true rfl) rfl (hg.2.2.1 39 3 46 rfl) ?_)
  refine (x_iconst 37 0 i22_37 rfl ?_)
  exact (x_cs 38 (as := [.ref 46, .int 0]) (rs := []) i22_38 rfl rfl rfl rfl (Nat.le_of_ble_eq_true rfl) (Nat.le_of_ble_eq_true rfl) rfl rfl k1)

set_option maxRecDepth 20000 in
theorem g22_41 {m n sl : Nat} {ln : Nat → Nat} {di : Nat → Nat → Int32} {dl : Nat → Nat → Int64} {dr : Nat → Nat → Option Nat} {Q : Option Value → q_H → Prop} (hg : q_Gr n ln dr)
    (k1 : q_EX q_KD m 23 0 [.ref 40, .retAddr 0, .retAddr 0, .retAddr 0, .retAddr 0] [] (n, sl, ln, di, dl, dr) (fun r1 h1 => q_EX q_KD (m + 1) 22 48 [.ref 39, .retAddr 0] (r1.toList ++ []) h1 Q)) : q_EX q_KD (m + 1) 22 41 [.ref 39, .retAddr 0] [] (n, sl, ln, di, dl, dr) Q := by
  refine (x_aload_n 41 i22_41 rfl ?_)
  refine (x_getR 42 40 i22_42 rfl (q_lt hg rfl) (Nat.le_of_ble_eq_true rfl) rfl (hg.2.2.1 39 0 40 rfl) ?_)
  exact (x_cv 45 (as := []) (rs := []) i22_45 rfl rfl rfl rfl (Nat.le_of_ble_eq_true rfl) (q_lt hg rfl) rfl (Or.inr (Nat.le_of_ble_eq_true rfl)) (Nat.le_of_ble_eq_true rfl) rfl rfl k1)

set_option maxRecDepth 20000 in
theorem g22_48 {d n sl : Nat} {ln : Nat → Nat} {di : Nat → Nat → Int32} {dl : Nat → Nat → Int64} {dr : Nat → Nat → Option Nat} {Q : Option Value → q_H → Prop} (hg : q_Gr n ln dr)
    (k1 : q_EX q_KD d 22 68 [.ref 39, .int 0] [] (n, sl, ln, (q_u (q_u di 39 7 0) 39 8 (di 42 0)), dl, dr) Q) : q_EX q_KD d 22 48 [.ref 39, .retAddr 0] [] (n, sl, ln, di, dl, dr) Q := by
  refine (x_aload_n 48 i22_48 rfl ?_)
  refine (x_iconst 49 0 i22_49 rfl ?_)
  refine (x_putI 50 7 i22_50 rfl (Nat.le_of_ble_eq_true rfl) (q_lt hg rfl) rfl rfl ?_)
  refine (x_aload_n 53 i22_53 rfl ?_)
  refine (x_aload_n 54 i22_54 rfl ?_)
  refine (x_getR 55 40 i22_55 rfl (q_lt hg rfl) (Nat.le_of_ble_eq_true rfl) rfl (hg.2.2.1 39 0 40 rfl) ?_)
  refine (x_getR 58 42 i22_58 rfl (q_lt hg rfl) (Nat.le_of_ble_eq_true rfl) rfl (hg.2.2.1 40 1 42 rfl) ?_)
  refine (x_iconst 61 0 i22_61 rfl ?_)
  refine (x_iaload 62 (di 42 0) i22_62 rfl (q_lt hg rfl) (q_inE (hg.2.1 42 301 rfl) (q_vin rfl)) rfl ?_)
  refine (x_putI 63 8 i22_63 rfl (Nat.le_of_ble_eq_true rfl) (q_lt hg rfl) rfl rfl ?_)
  refine (x_iconst 66 0 i22_66 rfl ?_)
  exact (x_istore_n 67 (ls2 := [.ref 39, .int 0]) i22_67 (Nat.le_of_ble_eq_true rfl) rfl k1)

set_option maxRecDepth 20000 in
theorem g22_68 {m n sl : Nat} {ln : Nat → Nat} {di : Nat → Nat → Int32} {dl : Nat → Nat → Int64} {dr : Nat → Nat → Option Nat} {x1 : Int32} {Q : Option Value → q_H → Prop} (hg : q_Gr n ln dr)
    (k3 : ((24 : Int32) < x1) → (¬ (di 39 13) = (0 : Int32)) → Q (some (.int 0)) (n, sl, ln, di, dl, dr))
    (k4 : ((24 : Int32) < x1) → ((di 39 13) = (0 : Int32)) → Q (some (.int 1)) (n, sl, ln, di, dl, dr))
    (k7 : (x1 ≤ (24 : Int32)) → ((di 39 8) = (131 : Int32)) → (¬ (di 39 13) = (0 : Int32)) → Q (some (.int 0)) (n, sl, ln, di, dl, dr))
    (k8 : (x1 ≤ (24 : Int32)) → ((di 39 8) = (131 : Int32)) → ((di 39 13) = (0 : Int32)) → Q (some (.int 1)) (n, sl, ln, di, dl, dr))
    (k9 : (x1 ≤ (24 : Int32)) → (¬ (di 39 8) = (131 : Int32)) → q_EX q_KD m 39 0 [.ref 39, .retAddr 0] [] (n, sl, ln, di, dl, dr) (fun r1 h1 => q_EX q_KD (m + 1) 22 88 [.ref 39, .int x1] (r1.toList ++ []) h1 Q)) : q_EX q_KD (m + 1) 22 68 [.ref 39, .int x1] [] (n, sl, ln, di, dl, dr) Q := by
  refine (x_iload_n 68 i22_68 rfl ?_)
  refine (x_bipush 69 24 i22_69 rfl ?_)
  refine (x_icmp_gt 71 94 i22_71 rfl (fun c1 => ?_) (fun c1 => ?_))
  · refine (x_aload_n 94 i22_94 rfl ?_)
    refine (x_getI 95 13 (di 39 13) i22_95 rfl (q_lt hg rfl) (Nat.le_of_ble_eq_true rfl) (Or.inl rfl) rfl rfl ?_)
    refine (x_if_ne 98 105 i22_98 rfl (fun c2 => ?_) (fun c2 => ?_))
    · refine (x_iconst 105 0 i22_105 rfl ?_)
      exact (x_iret0 106 i22_106 rfl (k3 c1 c2))
    · refine (x_iconst 101 1 i22_101 rfl ?_)
      refine (x_goto 102 106 i22_102 rfl ?_)
      exact (x_iret1 106 i22_106 rfl (k4 c1 c2))
  · refine (x_aload_n 74 i22_74 rfl ?_)
    refine (x_getI 75 8 (di 39 8) i22_75 rfl (q_lt hg rfl) (Nat.le_of_ble_eq_true rfl) (Or.inl rfl) rfl rfl ?_)
    refine (x_sipush 78 131 i22_78 rfl ?_)
    refine (x_icmp_eq 81 94 i22_81 rfl (fun c5 => ?_) (fun c5 => ?_))
    · refine (x_aload_n 94 i22_94 rfl ?_)
      refine (x_getI 95 13 (di 39 13) i22_95 rfl (q_lt hg rfl) (Nat.le_of_ble_eq_true rfl) (Or.inl rfl) rfl rfl ?_)
      refine (x_if_ne 98 105 i22_98 rfl (fun c6 => ?_) (fun c6 => ?_))
      · refine (x_iconst 105 0 i22_105 rfl ?_)
        exact (x_iret0 106 i22_106 rfl (k7 c1 c5 c6))
      · refine (x_iconst 101 1 i22_101 rfl ?_)
        refine (x_goto 102 106 i22_102 rfl ?_)
        exact (x_iret1 106 i22_106 rfl (k8 c1 c5 c6))
    · refine (x_aload_n 84 i22_84 rfl ?_)
      exact (x_cv 85 (as := []) (rs := []) i22_85 rfl rfl rfl rfl (Nat.le_of_ble_eq_true rfl) (q_lt hg rfl) rfl (Or.inr (Nat.le_of_ble_eq_true rfl)) (Nat.le_of_ble_eq_true rfl) rfl rfl (k9 c1 c5))

set_option maxRecDepth 20000 in
theorem g22_88 {d n sl : Nat} {ln : Nat → Nat} {di : Nat → Nat → Int32} {dl : Nat → Nat → Int64} {dr : Nat → Nat → Option Nat} {x1 : Int32} {Q : Option Value → q_H → Prop} (hg : q_Gr n ln dr)
    (k1 : q_EX q_KD d 22 68 [.ref 39, .int (x1 + 1)] [] (n, sl, ln, di, dl, dr) Q) : q_EX q_KD d 22 88 [.ref 39, .int x1] [] (n, sl, ln, di, dl, dr) Q := by
  refine (x_iinc 88 (x1 + 1) (ls2 := [.ref 39, .int (x1 + 1)]) i22_88 rfl (Nat.le_of_ble_eq_true rfl) rfl rfl ?_)
  exact (x_goto 91 68 i22_91 rfl k1)

/-! SilentHouse$Tokens.split -/
set_option maxRecDepth 20000 in
theorem g23_0 {d n sl : Nat} {ln : Nat → Nat} {di : Nat → Nat → Int32} {dl : Nat → Nat → Int64} {dr : Nat → Nat → Option Nat} {Q : Option Value → q_H → Prop} (hg : q_Gr n ln dr)
    (k1 : q_EX q_KD d 23 9 [.ref 40, .int 0, .int 0, .retAddr 0, .retAddr 0] [] (n, sl, ln, (q_u di 40 4 0), dl, dr) Q) : q_EX q_KD d 23 0 [.ref 40, .retAddr 0, .retAddr 0, .retAddr 0, .retAddr 0] [] (n, sl, ln, di, dl, dr) Q := by
  refine (x_aload_n 0 i23_0 rfl ?_)
  refine (x_iconst 1 0 i23_1 rfl ?_)
  refine (x_putI 2 4 i23_2 rfl (Nat.le_of_ble_eq_true rfl) (q_lt hg rfl) rfl rfl ?_)
  refine (x_iconst 5 0 i23_5 rfl ?_)
  refine (x_istore_n 6 (ls2 := [.ref 40, .int 0, .retAddr 0, .retAddr 0, .retAddr 0]) i23_6 (Nat.le_of_ble_eq_true rfl) rfl ?_)
  refine (x_iconst 7 0 i23_7 rfl ?_)
  exact (x_istore_n 8 (ls2 := [.ref 40, .int 0, .int 0, .retAddr 0, .retAddr 0]) i23_8 (Nat.le_of_ble_eq_true rfl) rfl k1)

set_option maxRecDepth 20000 in
theorem g23_9 {m n sl : Nat} {ln : Nat → Nat} {di : Nat → Nat → Int32} {dl : Nat → Nat → Int64} {dr : Nat → Nat → Option Nat} {x1 : Int32} {x2 : Int32} {Q : Option Value → q_H → Prop} (hg : q_Gr n ln dr)
    (s2 : ((300 : Int32) ≤ x2) → vp_in (di 40 4) 301)
    (s3 : ((300 : Int32) ≤ x2) → vp_in (di 40 4) 301)
    (k4 : ((300 : Int32) ≤ x2) → Q none (n, sl, ln, (q_u (q_u di 42 ((di 40 4).toNatClampNeg) 131) 43 ((di 40 4).toNatClampNeg) (di 40 3)), dl, dr))
    (s6 : (x2 < (300 : Int32)) → ((di 40 3) ≤ x1) → vp_in (di 40 4) 301)
    (s7 : (x2 < (300 : Int32)) → ((di 40 3) ≤ x1) → vp_in (di 40 4) 301)
    (k8 : (x2 < (300 : Int32)) → ((di 40 3) ≤ x1) → Q none (n, sl, ln, (q_u (q_u di 42 ((di 40 4).toNatClampNeg) 131) 43 ((di 40 4).toNatClampNeg) (di 40 3)), dl, dr))
    (k9 : (x2 < (300 : Int32)) → (x1 < (di 40 3)) → q_EX q_KD m 24 0 [.ref 40, .int x1] [] (n, sl, ln, di, dl, dr) (fun r1 h1 => q_EX q_KD (m + 1) 23 29 [.ref 40, .int x1, .int x2, .retAddr 0, .retAddr 0] (r1.toList ++ []) h1 Q)) : q_EX q_KD (m + 1) 23 9 [.ref 40, .int x1, .int x2, .retAddr 0, .retAddr 0] [] (n, sl, ln, di, dl, dr) Q := by
  refine (x_iload_n 9 i23_9 rfl ?_)
  refine (x_sipush 10 300 i23_10 rfl ?_)
  refine (x_icmp_ge 13 203 i23_13 rfl (fun c1 => ?_) (fun c1 => ?_))
  · refine (x_aload_n 203 i23_203 rfl ?_)
    refine (x_getR 204 42 i23_204 rfl (q_lt hg rfl) (Nat.le_of_ble_eq_true rfl) rfl (hg.2.2.1 40 1 42 rfl) ?_)
    refine (x_aload_n 207 i23_207 rfl ?_)
    refine (x_getI 208 4 (di 40 4) i23_208 rfl (q_lt hg rfl) (Nat.le_of_ble_eq_true rfl) (Or.inl rfl) rfl rfl ?_)
    refine (x_sipush 211 131 i23_211 rfl ?_)
    refine (x_iastore 214 i23_214 rfl (Nat.le_of_ble_eq_true rfl) (q_lt hg rfl) (q_inE (hg.2.1 42 301 rfl) (s2 c1)) ?_)
    refine (x_aload_n 215 i23_215 rfl ?_)
    refine (x_getR 216 43 i23_216 rfl (q_lt hg rfl) (Nat.le_of_ble_eq_true rfl) rfl (hg.2.2.1 40 2 43 rfl) ?_)
    refine (x_aload_n 219 i23_219 rfl ?_)
    refine (x_getI 220 4 (di 40 4) i23_220 rfl (q_lt hg rfl) (Nat.le_of_ble_eq_true rfl) (Or.inl rfl) rfl rfl ?_)
    refine (x_aload_n 223 i23_223 rfl ?_)
    refine (x_getI 224 3 (di 40 3) i23_224 rfl (q_lt hg rfl) (Nat.le_of_ble_eq_true rfl) (Or.inl rfl) rfl rfl ?_)
    refine (x_iastore 227 i23_227 rfl (Nat.le_of_ble_eq_true rfl) (q_lt hg rfl) (q_inE (hg.2.1 43 301 rfl) (s3 c1)) ?_)
    exact (x_vret 228 i23_228 rfl (k4 c1))
  · refine (x_iload_n 16 i23_16 rfl ?_)
    refine (x_aload_n 17 i23_17 rfl ?_)
    refine (x_getI 18 3 (di 40 3) i23_18 rfl (q_lt hg rfl) (Nat.le_of_ble_eq_true rfl) (Or.inl rfl) rfl rfl ?_)
    refine (x_icmp_ge 21 203 i23_21 rfl (fun c5 => ?_) (fun c5 => ?_))
    · refine (x_aload_n 203 i23_203 rfl ?_)
      refine (x_getR 204 42 i23_204 rfl (q_lt hg rfl) (Nat.le_of_ble_eq_true rfl) rfl (hg.2.2.1 40 1 42 rfl) ?_)
      refine (x_aload_n 207 i23_207 rfl ?_)
      refine (x_getI 208 4 (di 40 4) i23_208 rfl (q_lt hg rfl) (Nat.le_of_ble_eq_true rfl) (Or.inl rfl) rfl rfl ?_)
      refine (x_sipush 211 131 i23_211 rfl ?_)
      refine (x_iastore 214 i23_214 rfl (Nat.le_of_ble_eq_true rfl) (q_lt hg rfl) (q_inE (hg.2.1 42 301 rfl) (s6 c1 c5)) ?_)
      refine (x_aload_n 215 i23_215 rfl ?_)
      refine (x_getR 216 43 i23_216 rfl (q_lt hg rfl) (Nat.le_of_ble_eq_true rfl) rfl (hg.2.2.1 40 2 43 rfl) ?_)
      refine (x_aload_n 219 i23_219 rfl ?_)
      refine (x_getI 220 4 (di 40 4) i23_220 rfl (q_lt hg rfl) (Nat.le_of_ble_eq_true rfl) (Or.inl rfl) rfl rfl ?_)
      refine (x_aload_n 223 i23_223 rfl ?_)
      refine (x_getI 224 3 (di 40 3) i23_224 rfl (q_lt hg rfl) (Nat.le_of_ble_eq_true rfl) (Or.inl rfl) rfl rfl ?_)
      refine (x_iastore 227 i23_227 rfl (Nat.le_of_ble_eq_true rfl) (q_lt hg rfl) (q_inE (hg.2.1 43 301 rfl) (s7 c1 c5)) ?_)
      exact (x_vret 228 i23_228 rfl (k8 c1 c5))
    · refine (x_aload_n 24 i23_24 rfl ?_)
      refine (x_iload_n 25 i23_25 rfl ?_)
      exact (x_cv 26 (as := [.int x1]) (rs := []) i23_26 rfl rfl rfl rfl (Nat.le_of_ble_eq_true rfl) (q_lt hg rfl) rfl (Or.inr (Nat.le_of_ble_eq_true rfl)) (Nat.le_of_ble_eq_true rfl) rfl rfl (k9 c1 c5))

set_option maxRecDepth 20000 in
theorem g23_29 {m n sl : Nat} {ln : Nat → Nat} {di : Nat → Nat → Int32} {dl : Nat → Nat → Int64} {dr : Nat → Nat → Option Nat} {x1 : Int32} {x2 : Int32} {y0 : Int32} {Q : Option Value → q_H → Prop} (hg : q_Gr n ln dr)
    (k1 : q_EX q_KD m 25 0 [.int y0] [] (n, sl, ln, di, dl, dr) (fun r1 h1 => q_EX q_KD (m + 1) 23 39 [.ref 40, .int x1, .int x2, .int y0, .int (x1 + (1 : Int32))] (r1.toList ++ []) h1 Q)) : q_EX q_KD (m + 1) 23 29 [.ref 40, .int x1, .int x2, .retAddr 0, .retAddr 0] [.int y0] (n, sl, ln, di, dl, dr) Q := by
  refine (x_istore_n 29 (ls2 := [.ref 40, .int x1, .int x2, .int y0, .retAddr 0]) i23_29 (Nat.le_of_ble_eq_true rfl) rfl ?_)
  refine (x_iload_n 30 i23_30 rfl ?_)
  refine (x_iconst 31 1 i23_31 rfl ?_)
  refine (x_iadd 32 i23_32 ?_)
  refine (x_istore 33 (ls2 := [.ref 40, .int x1, .int x2, .int y0, .int (x1 + (1 : Int32))]) i23_33 (Nat.le_of_ble_eq_true rfl) rfl ?_)
  refine (x_iload_n 35 i23_35 rfl ?_)
  exact (x_cs 36 (as := [.int y0]) (rs := []) i23_36 rfl rfl rfl rfl (Nat.le_of_ble_eq_true rfl) (Nat.le_of_ble_eq_true rfl) rfl rfl k1)

set_option maxRecDepth 20000 in
theorem g23_39 {m n sl : Nat} {ln : Nat → Nat} {di : Nat → Nat → Int32} {dl : Nat → Nat → Int64} {dr : Nat → Nat → Option Nat} {x1 : Int32} {x2 : Int32} {x3 : Int32} {x4 : Int32} {y0 : Int32} {Q : Option Value → q_H → Prop} (hg : q_Gr n ln dr)
    (k2 : (¬ y0 = (0 : Int32)) → q_EX q_KD (m + 1) 23 9 [.ref 40, .int x4, .int (x2 + 1), .retAddr 0, .retAddr 0] [] (n, sl, ln, di, dl, dr) Q)
    (s3 : (y0 = (0 : Int32)) → vp_in (di 40 4) 301)
    (k4 : (y0 = (0 : Int32)) → q_EX q_KD m 26 0 [.int x3] [] (n, sl, ln, (q_u di 43 ((di 40 4).toNatClampNeg) x1), dl, dr) (fun r1 h1 => q_EX q_KD (m + 1) 23 56 [.ref 40, .int x1, .int x2, .int x3, .int x4] (r1.toList ++ []) h1 Q)) : q_EX q_KD (m + 1) 23 39 [.ref 40, .int x1, .int x2, .int x3, .int x4] [.int y0] (n, sl, ln, di, dl, dr) Q := by
  refine (x_if_ne 39 194 i23_39 rfl (fun c1 => ?_) (fun c1 => ?_))
  · refine (x_iload 194 i23_194 rfl ?_)
    refine (x_istore_n 196 (ls2 := [.ref 40, .int x4, .int x2, .int x3, .int x4]) i23_196 (Nat.le_of_ble_eq_true rfl) rfl ?_)
    refine (x_iinc 197 (x2 + 1) (ls2 := [.ref 40, .int x4, .int (x2 + 1), .int x3, .int x4]) i23_197 rfl (Nat.le_of_ble_eq_true rfl) rfl rfl ?_)
    refine (x_goto 200 9 i23_200 rfl ?_)
    exact (xx_loc (ls := [.ref 40, .int x4, .int (x2 + 1), .retAddr 0, .retAddr 0]) (ls' := [.ref 40, .int x4, .int (x2 + 1), .int x3, .int x4]) ⟨Or.inl rfl, Or.inl rfl, Or.inl rfl, Or.inr rfl, Or.inr rfl, trivial⟩ (k2 c1))
  · refine (x_aload_n 42 i23_42 rfl ?_)
    refine (x_getR 43 43 i23_43 rfl (q_lt hg rfl) (Nat.le_of_ble_eq_true rfl) rfl (hg.2.2.1 40 2 43 rfl) ?_)
    refine (x_aload_n 46 i23_46 rfl ?_)
    refine (x_getI 47 4 (di 40 4) i23_47 rfl (q_lt hg rfl) (Nat.le_of_ble_eq_true rfl) (Or.inl rfl) rfl rfl ?_)
    refine (x_iload_n 50 i23_50 rfl ?_)
    refine (x_iastore 51 i23_51 rfl (Nat.le_of_ble_eq_true rfl) (q_lt hg rfl) (q_inE (hg.2.1 43 301 rfl) (s3 c1)) ?_)
    refine (x_iload_n 52 i23_52 rfl ?_)
    exact (x_cs 53 (as := [.int x3]) (rs := []) i23_53 rfl rfl rfl rfl (Nat.le_of_ble_eq_true rfl) (Nat.le_of_ble_eq_true rfl) rfl rfl (k4 c1))

set_option maxRecDepth 20000 in
theorem g23_56 {m n sl : Nat} {ln : Nat → Nat} {di : Nat → Nat → Int32} {dl : Nat → Nat → Int64} {dr : Nat → Nat → Option Nat} {x1 : Int32} {x2 : Int32} {x3 : Int32} {x4 : Int32} {y0 : Int32} {Q : Option Value → q_H → Prop} (hg : q_Gr n ln dr)
    (k2 : (y0 = (0 : Int32)) → q_EX q_KD m 28 0 [.int x3] [] (n, sl, ln, di, dl, dr) (fun r1 h1 => q_EX q_KD (m + 1) 23 90 [.ref 40, .int x1, .int x2, .int x3, .int x4] (r1.toList ++ []) h1 Q))
    (k3 : (¬ y0 = (0 : Int32)) → q_EX q_KD m 27 0 [.ref 40, .int x1, .int 1, .retAddr 0] [] (n, sl, ln, di, dl, dr) (fun r1 h1 => q_EX q_KD (m + 1) 23 65 [.ref 40, .int x1, .int x2, .retAddr 0, .retAddr 0] (r1.toList ++ []) h1 Q)) : q_EX q_KD (m + 1) 23 56 [.ref 40, .int x1, .int x2, .int x3, .int x4] [.int y0] (n, sl, ln, di, dl, dr) Q := by
  refine (x_if_eq 56 86 i23_56 rfl (fun c1 => ?_) (fun c1 => ?_))
  · refine (x_iload_n 86 i23_86 rfl ?_)
    exact (x_cs 87 (as := [.int x3]) (rs := []) i23_87 rfl rfl rfl rfl (Nat.le_of_ble_eq_true rfl) (Nat.le_of_ble_eq_true rfl) rfl rfl (k2 c1))
  · refine (x_aload_n 59 i23_59 rfl ?_)
    refine (x_iload_n 60 i23_60 rfl ?_)
    refine (x_iconst 61 1 i23_61 rfl ?_)
    refine (xx_loc (ls := [.ref 40, .int x1, .int x2, .retAddr 0, .retAddr 0]) (ls' := [.ref 40, .int x1, .int x2, .int x3, .int x4]) ⟨Or.inl rfl, Or.inl rfl, Or.inl rfl, Or.inr rfl, Or.inr rfl, trivial⟩ ?_)
    exact (x_cv 62 (as := [.int x1, .int 1]) (rs := []) i23_62 rfl rfl rfl rfl (Nat.le_of_ble_eq_true rfl) (q_lt hg rfl) rfl (Or.inr (Nat.le_of_ble_eq_true rfl)) (Nat.le_of_ble_eq_true rfl) rfl rfl (k3 c1))

set_option maxRecDepth 20000 in
theorem g23_90 {m n sl : Nat} {ln : Nat → Nat} {di : Nat → Nat → Int32} {dl : Nat → Nat → Int64} {dr : Nat → Nat → Option Nat} {x1 : Int32} {x2 : Int32} {x3 : Int32} {x4 : Int32} {y0 : Int32} {Q : Option Value → q_H → Prop} (hg : q_Gr n ln dr)
    (k2 : (y0 = (0 : Int32)) → q_EX q_KD m 24 0 [.ref 40, .int (x1 + (1 : Int32))] [] (n, sl, ln, di, dl, dr) (fun r1 h1 => q_EX q_KD (m + 1) 23 140 [.ref 40, .retAddr 0, .int x2, .retAddr 0, .int x4] (r1.toList ++ [.int x3, .int (di 40 4), .ref 42]) h1 Q))
    (k3 : (¬ y0 = (0 : Int32)) → q_EX q_KD m 27 0 [.ref 40, .int x1, .int 0, .retAddr 0] [] (n, sl, ln, di, dl, dr) (fun r1 h1 => q_EX q_KD (m + 1) 23 99 [.ref 40, .int x1, .int x2, .retAddr 0, .retAddr 0] (r1.toList ++ []) h1 Q)) : q_EX q_KD (m + 1) 23 90 [.ref 40, .int x1, .int x2, .int x3, .int x4] [.int y0] (n, sl, ln, di, dl, dr) Q := by
  refine (x_if_eq 90 124 i23_90 rfl (fun c1 => ?_) (fun c1 => ?_))
  · refine (x_aload_n 124 i23_124 rfl ?_)
    refine (x_getR 125 42 i23_125 rfl (q_lt hg rfl) (Nat.le_of_ble_eq_true rfl) rfl (hg.2.2.1 40 1 42 rfl) ?_)
    refine (x_aload_n 128 i23_128 rfl ?_)
    refine (x_getI 129 4 (di 40 4) i23_129 rfl (q_lt hg rfl) (Nat.le_of_ble_eq_true rfl) (Or.inl rfl) rfl rfl ?_)
    refine (x_iload_n 132 i23_132 rfl ?_)
    refine (x_aload_n 133 i23_133 rfl ?_)
    refine (x_iload_n 134 i23_134 rfl ?_)
    refine (x_iconst 135 1 i23_135 rfl ?_)
    refine (x_iadd 136 i23_136 ?_)
    refine (xx_loc (ls := [.ref 40, .retAddr 0, .int x2, .retAddr 0, .int x4]) (ls' := [.ref 40, .int x1, .int x2, .int x3, .int x4]) ⟨Or.inl rfl, Or.inr rfl, Or.inl rfl, Or.inr rfl, Or.inl rfl, trivial⟩ ?_)
    exact (x_cv 137 (as := [.int (x1 + (1 : Int32))]) (rs := [.int x3, .int (di 40 4), .ref 42]) i23_137 rfl rfl rfl rfl (Nat.le_of_ble_eq_true rfl) (q_lt hg rfl) rfl (Or.inr (Nat.le_of_ble_eq_true rfl)) (Nat.le_of_ble_eq_true rfl) rfl rfl (k2 c1))
  · refine (x_aload_n 93 i23_93 rfl ?_)
    refine (x_iload_n 94 i23_94 rfl ?_)
    refine (x_iconst 95 0 i23_95 rfl ?_)
    refine (xx_loc (ls := [.ref 40, .int x1, .int x2, .retAddr 0, .retAddr 0]) (ls' := [.ref 40, .int x1, .int x2, .int x3, .int x4]) ⟨Or.inl rfl, Or.inl rfl, Or.inl rfl, Or.inr rfl, Or.inr rfl, trivial⟩ ?_)
    exact (x_cv 96 (as := [.int x1, .int 0]) (rs := []) i23_96 rfl rfl rfl rfl (Nat.le_of_ble_eq_true rfl) (q_lt hg rfl) rfl (Or.inr (Nat.le_of_ble_eq_true rfl)) (Nat.le_of_ble_eq_true rfl) rfl rfl (k3 c1))

set_option maxRecDepth 20000 in
theorem g23_65 {m n sl : Nat} {ln : Nat → Nat} {di : Nat → Nat → Int32} {dl : Nat → Nat → Int64} {dr : Nat → Nat → Option Nat} {x1 : Int32} {x2 : Int32} {y0 : Int32} {Q : Option Value → q_H → Prop} (hg : q_Gr n ln dr)
    (k1 : q_EX q_KD m 29 0 [.ref 40, .int x1, .int y0, .retAddr 0, .retAddr 0, .retAddr 0, .retAddr 0] [] (n, sl, ln, di, dl, dr) (fun r1 h1 => q_EX q_KD (m + 1) 23 82 [.ref 40, .retAddr 0, .int x2, .retAddr 0, .int y0] (r1.toList ++ [.int (di 40 4), .ref 42]) h1 Q)) : q_EX q_KD (m + 1) 23 65 [.ref 40, .int x1, .int x2, .retAddr 0, .retAddr 0] [.int y0] (n, sl, ln, di, dl, dr) Q := by
  refine (x_istore 65 (ls2 := [.ref 40, .int x1, .int x2, .retAddr 0, .int y0]) i23_65 (Nat.le_of_ble_eq_true rfl) rfl ?_)
  refine (x_aload_n 67 i23_67 rfl ?_)
  refine (x_getR 68 42 i23_68 rfl (q_lt hg rfl) (Nat.le_of_ble_eq_true rfl) rfl (hg.2.2.1 40 1 42 rfl) ?_)
  refine (x_aload_n 71 i23_71 rfl ?_)
  refine (x_getI 72 4 (di 40 4) i23_72 rfl (q_lt hg rfl) (Nat.le_of_ble_eq_true rfl) (Or.inl rfl) rfl rfl ?_)
  refine (x_aload_n 75 i23_75 rfl ?_)
  refine (x_iload_n 76 i23_76 rfl ?_)
  refine (x_iload 77 i23_77 rfl ?_)
  refine (xx_loc (ls := [.ref 40, .retAddr 0, .int x2, .retAddr 0, .int y0]) (ls' := [.ref 40, .int x1, .int x2, .retAddr 0, .int y0]) ⟨Or.inl rfl, Or.inr rfl, Or.inl rfl, Or.inl rfl, Or.inl rfl, trivial⟩ ?_)
  exact (x_cv 79 (as := [.int x1, .int y0]) (rs := [.int (di 40 4), .ref 42]) i23_79 rfl rfl rfl rfl (Nat.le_of_ble_eq_true rfl) (q_lt hg rfl) rfl (Or.inr (Nat.le_of_ble_eq_true rfl)) (Nat.le_of_ble_eq_true rfl) rfl rfl k1)

set_option maxRecDepth 20000 in
theorem g23_140 {m n sl : Nat} {ln : Nat → Nat} {di : Nat → Nat → Int32} {dl : Nat → Nat → Int64} {dr : Nat → Nat → Option Nat} {x2 : Int32} {x4 : Int32} {y0 : Int32} {y1 : Int32} {y2 : Int32} {Q : Option Value → q_H → Prop} (hg : q_Gr n ln dr)
    (k1 : q_EX q_KD m 38 0 [.int y1, .int y0] [] (n, sl, ln, di, dl, dr) (fun r1 h1 => q_EX q_KD (m + 1) 23 143 [.ref 40, .retAddr 0, .int x2, .retAddr 0, .int x4] (r1.toList ++ [.int y2, .ref 42]) h1 Q)) : q_EX q_KD (m + 1) 23 140 [.ref 40, .retAddr 0, .int x2, .retAddr 0, .int x4] [.int y0, .int y1, .int y2, .ref 42] (n, sl, ln, di, dl, dr) Q := by
  exact (x_cs 140 (as := [.int y1, .int y0]) (rs := [.int y2, .ref 42]) i23_140 rfl rfl rfl rfl (Nat.le_of_ble_eq_true rfl) (Nat.le_of_ble_eq_true rfl) rfl rfl k1)

set_option maxRecDepth 20000 in
theorem g23_99 {m n sl : Nat} {ln : Nat → Nat} {di : Nat → Nat → Int32} {dl : Nat → Nat → Int64} {dr : Nat → Nat → Option Nat} {x1 : Int32} {x2 : Int32} {y0 : Int32} {Q : Option Value → q_H → Prop} (hg : q_Gr n ln dr)
    (k1 : q_EX q_KD m 37 0 [.ref 40, .int x1, .int y0, .retAddr 0, .retAddr 0] [] (n, sl, ln, di, dl, dr) (fun r1 h1 => q_EX q_KD (m + 1) 23 119 [.ref 40, .retAddr 0, .int x2, .retAddr 0, .int y0] (r1.toList ++ [.int 300, .int (di 40 4), .ref 42]) h1 Q)) : q_EX q_KD (m + 1) 23 99 [.ref 40, .int x1, .int x2, .retAddr 0, .retAddr 0] [.int y0] (n, sl, ln, di, dl, dr) Q := by
  refine (x_istore 99 (ls2 := [.ref 40, .int x1, .int x2, .retAddr 0, .int y0]) i23_99 (Nat.le_of_ble_eq_true rfl) rfl ?_)
  refine (x_aload_n 101 i23_101 rfl ?_)
  refine (x_getR 102 42 i23_102 rfl (q_lt hg rfl) (Nat.le_of_ble_eq_true rfl) rfl (hg.2.2.1 40 1 42 rfl) ?_)
  refine (x_aload_n 105 i23_105 rfl ?_)
  refine (x_getI 106 4 (di 40 4) i23_106 rfl (q_lt hg rfl) (Nat.le_of_ble_eq_true rfl) (Or.inl rfl) rfl rfl ?_)
  refine (x_sipush 109 300 i23_109 rfl ?_)
  refine (x_aload_n 112 i23_112 rfl ?_)
  refine (x_iload_n 113 i23_113 rfl ?_)
  refine (x_iload 114 i23_114 rfl ?_)
  refine (xx_loc (ls := [.ref 40, .retAddr 0, .int x2, .retAddr 0, .int y0]) (ls' := [.ref 40, .int x1, .int x2, .retAddr 0, .int y0]) ⟨Or.inl rfl, Or.inr rfl, Or.inl rfl, Or.inl rfl, Or.inl rfl, trivial⟩ ?_)
  exact (x_cv 116 (as := [.int x1, .int y0]) (rs := [.int 300, .int (di 40 4), .ref 42]) i23_116 rfl rfl rfl rfl (Nat.le_of_ble_eq_true rfl) (q_lt hg rfl) rfl (Or.inr (Nat.le_of_ble_eq_true rfl)) (Nat.le_of_ble_eq_true rfl) rfl rfl k1)

set_option maxRecDepth 20000 in
theorem g23_82 {d n sl : Nat} {ln : Nat → Nat} {di : Nat → Nat → Int32} {dl : Nat → Nat → Int64} {dr : Nat → Nat → Option Nat} {x2 : Int32} {x4 : Int32} {y0 : Int32} {y1 : Int32} {Q : Option Value → q_H → Prop} (hg : q_Gr n ln dr)
    (s1 : vp_in y1 301)
    (k2 : q_EX q_KD d 23 9 [.ref 40, .int x4, .int (x2 + 1), .retAddr 0, .retAddr 0] [] (n, sl, ln, (q_u (q_u di 42 y1.toNatClampNeg y0) 40 4 ((di 40 4) + (1 : Int32))), dl, dr) Q) : q_EX q_KD d 23 82 [.ref 40, .retAddr 0, .int x2, .retAddr 0, .int x4] [.int y0, .int y1, .ref 42] (n, sl, ln, di, dl, dr) Q := by
  refine (x_iastore 82 i23_82 rfl (Nat.le_of_ble_eq_true rfl) (q_lt hg rfl) (q_inE (hg.2.1 42 301 rfl) s1) ?_)
  refine (x_goto 83 184 i23_83 rfl ?_)
  refine (x_aload_n 184 i23_184 rfl ?_)
  refine (x_dup 185 i23_185 rfl ?_)
  refine (x_getI 186 4 (di 40 4) i23_186 rfl (q_lt hg rfl) (Nat.le_of_ble_eq_true rfl) (Or.inl rfl) rfl rfl ?_)
  refine (x_iconst 189 1 i23_189 rfl ?_)
  refine (x_iadd 190 i23_190 ?_)
  refine (x_putI 191 4 i23_191 rfl (Nat.le_of_ble_eq_true rfl) (q_lt hg rfl) rfl rfl ?_)
  refine (x_iload 194 i23_194 rfl ?_)
  refine (x_istore_n 196 (ls2 := [.ref 40, .int x4, .int x2, .retAddr 0, .int x4]) i23_196 (Nat.le_of_ble_eq_true rfl) rfl ?_)
  refine (x_iinc 197 (x2 + 1) (ls2 := [.ref 40, .int x4, .int (x2 + 1), .retAddr 0, .int x4]) i23_197 rfl (Nat.le_of_ble_eq_true rfl) rfl rfl ?_)
  refine (x_goto 200 9 i23_200 rfl ?_)
  exact (xx_loc (ls := [.ref 40, .int x4, .int (x2 + 1), .retAddr 0, .retAddr 0]) (ls' := [.ref 40, .int x4, .int (x2 + 1), .retAddr 0, .int x4]) ⟨Or.inl rfl, Or.inl rfl, Or.inl rfl, Or.inl rfl, Or.inr rfl, trivial⟩ k2)

set_option maxRecDepth 20000 in
theorem g23_143 {d n sl : Nat} {ln : Nat → Nat} {di : Nat → Nat → Int32} {dl : Nat → Nat → Int64} {dr : Nat → Nat → Option Nat} {x2 : Int32} {x4 : Int32} {y0 : Int32} {y1 : Int32} {Q : Option Value → q_H → Prop} (hg : q_Gr n ln dr)
    (s1 : vp_in y1 301)
    (s2 : vp_in (di 40 4) 301)
    (k4 : (((q_u di 42 y1.toNatClampNeg y0) 42 ((di 40 4).toNatClampNeg)) = (128 : Int32)) → q_EX q_KD d 23 9 [.ref 40, .int (x4 + (1 : Int32)), .int (x2 + 1), .retAddr 0, .retAddr 0] [] (n, sl, ln, (q_u (q_u di 42 y1.toNatClampNeg y0) 40 4 ((di 40 4) + (1 : Int32))), dl, dr) Q)
    (s5 : (¬ ((q_u di 42 y1.toNatClampNeg y0) 42 ((di 40 4).toNatClampNeg)) = (128 : Int32)) → vp_in (di 40 4) 301)
    (k7 : (¬ ((q_u di 42 y1.toNatClampNeg y0) 42 ((di 40 4).toNatClampNeg)) = (128 : Int32)) → (¬ ((q_u di 42 y1.toNatClampNeg y0) 42 ((di 40 4).toNatClampNeg)) = (129 : Int32)) → q_EX q_KD d 23 9 [.ref 40, .int (x4 + (0 : Int32)), .int (x2 + 1), .retAddr 0, .retAddr 0] [] (n, sl, ln, (q_u (q_u di 42 y1.toNatClampNeg y0) 40 4 ((di 40 4) + (1 : Int32))), dl, dr) Q)
    (k8 : (¬ ((q_u di 42 y1.toNatClampNeg y0) 42 ((di 40 4).toNatClampNeg)) = (128 : Int32)) → (((q_u di 42 y1.toNatClampNeg y0) 42 ((di 40 4).toNatClampNeg)) = (129 : Int32)) → q_EX q_KD d 23 9 [.ref 40, .int (x4 + (1 : Int32)), .int (x2 + 1), .retAddr 0, .retAddr 0] [] (n, sl, ln, (q_u (q_u di 42 y1.toNatClampNeg y0) 40 4 ((di 40 4) + (1 : Int32))), dl, dr) Q) : q_EX q_KD d 23 143 [.ref 40, .retAddr 0, .int x2, .retAddr 0, .int x4] [.int y0, .int y1, .ref 42] (n, sl, ln, di, dl, dr) Q := by
  refine (x_iastore 143 i23_143 rfl (Nat.le_of_ble_eq_true rfl) (q_lt hg rfl) (q_inE (hg.2.1 42 301 rfl) s1) ?_)
  refine (x_iload 144 i23_144 rfl ?_)
  refine (x_aload_n 146 i23_146 rfl ?_)
  refine (x_getR 147 42 i23_147 rfl (q_lt hg rfl) (Nat.le_of_ble_eq_true rfl) rfl (hg.2.2.1 40 1 42 rfl) ?_)
  refine (x_aload_n 150 i23_150 rfl ?_)
  refine (x_getI 151 4 (di 40 4) i23_151 rfl (q_lt hg rfl) (Nat.le_of_ble_eq_true rfl) (Or.inl rfl) rfl rfl ?_)
  refine (x_iaload 154 ((q_u di 42 y1.toNatClampNeg y0) 42 ((di 40 4).toNatClampNeg)) i23_154 rfl (q_lt hg rfl) (q_inE (hg.2.1 42 301 rfl) s2) rfl ?_)
  refine (x_sipush 155 128 i23_155 rfl ?_)
  refine (x_icmp_eq 158 176 i23_158 rfl (fun c3 => ?_) (fun c3 => ?_))
  · refine (x_iconst 176 1 i23_176 rfl ?_)
    refine (x_goto 177 181 i23_177 rfl ?_)
    refine (x_iadd 181 i23_181 ?_)
    refine (x_istore 182 (ls2 := [.ref 40, .retAddr 0, .int x2, .retAddr 0, .int (x4 + (1 : Int32))]) i23_182 (Nat.le_of_ble_eq_true rfl) rfl ?_)
    refine (x_aload_n 184 i23_184 rfl ?_)
    refine (x_dup 185 i23_185 rfl ?_)
    refine (x_getI 186 4 (di 40 4) i23_186 rfl (q_lt hg rfl) (Nat.le_of_ble_eq_true rfl) (Or.inl rfl) rfl rfl ?_)
    refine (x_iconst 189 1 i23_189 rfl ?_)
    refine (x_iadd 190 i23_190 ?_)
    refine (x_putI 191 4 i23_191 rfl (Nat.le_of_ble_eq_true rfl) (q_lt hg rfl) rfl rfl ?_)
    refine (x_iload 194 i23_194 rfl ?_)
    refine (x_istore_n 196 (ls2 := [.ref 40, .int (x4 + (1 : Int32)), .int x2, .retAddr 0, .int (x4 + (1 : Int32))]) i23_196 (Nat.le_of_ble_eq_true rfl) rfl ?_)
    refine (x_iinc 197 (x2 + 1) (ls2 := [.ref 40, .int (x4 + (1 : Int32)), .int (x2 + 1), .retAddr 0, .int (x4 + (1 : Int32))]) i23_197 rfl (Nat.le_of_ble_eq_true rfl) rfl rfl ?_)
    refine (x_goto 200 9 i23_200 rfl ?_)
    exact (xx_loc (ls := [.ref 40, .int (x4 + (1 : Int32)), .int (x2 + 1), .retAddr 0, .retAddr 0]) (ls' := [.ref 40, .int (x4 + (1 : Int32)), .int (x2 + 1), .retAddr 0, .int (x4 + (1 : Int32))]) ⟨Or.inl rfl, Or.inl rfl, Or.inl rfl, Or.inl rfl, Or.inr rfl, trivial⟩ (k4 c3))
  · refine (x_aload_n 161 i23_161 rfl ?_)
    refine (x_getR 162 42 i23_162 rfl (q_lt hg rfl) (Nat.le_of_ble_eq_true rfl) rfl (hg.2.2.1 40 1 42 rfl) ?_)
    refine (x_aload_n 165 i23_165 rfl ?_)
    refine (x_getI 166 4 (di 40 4) i23_166 rfl (q_lt hg rfl) (Nat.le_of_ble_eq_true rfl) (Or.inl rfl) rfl rfl ?_)
    refine (x_iaload 169 ((q_u di 42 y1.toNatClampNeg y0) 42 ((di 40 4).toNatClampNeg)) i23_169 rfl (q_lt hg rfl) (q_inE (hg.2.1 42 301 rfl) (s5 c3)) rfl ?_)
    refine (x_sipush 170 129 i23_170 rfl ?_)
    refine (x_icmp_ne 173 180 i23_173 rfl (fun c6 => ?_) (fun c6 => ?_))
    · refine (x_iconst 180 0 i23_180 rfl ?_)
      refine (x_iadd 181 i23_181 ?_)
      refine (x_istore 182 (ls2 := [.ref 40, .retAddr 0, .int x2, .retAddr 0, .int (x4 + (0 : Int32))]) i23_182 (Nat.le_of_ble_eq_true rfl) rfl ?_)
      refine (x_aload_n 184 i23_184 rfl ?_)
      refine (x_dup 185 i23_185 rfl ?_)
      refine (x_getI 186 4 (di 40 4) i23_186 rfl (q_lt hg rfl) (Nat.le_of_ble_eq_true rfl) (Or.inl rfl) rfl rfl ?_)
      refine (x_iconst 189 1 i23_189 rfl ?_)
      refine (x_iadd 190 i23_190 ?_)
      refine (x_putI 191 4 i23_191 rfl (Nat.le_of_ble_eq_true rfl) (q_lt hg rfl) rfl rfl ?_)
      refine (x_iload 194 i23_194 rfl ?_)
      refine (x_istore_n 196 (ls2 := [.ref 40, .int (x4 + (0 : Int32)), .int x2, .retAddr 0, .int (x4 + (0 : Int32))]) i23_196 (Nat.le_of_ble_eq_true rfl) rfl ?_)
      refine (x_iinc 197 (x2 + 1) (ls2 := [.ref 40, .int (x4 + (0 : Int32)), .int (x2 + 1), .retAddr 0, .int (x4 + (0 : Int32))]) i23_197 rfl (Nat.le_of_ble_eq_true rfl) rfl rfl ?_)
      refine (x_goto 200 9 i23_200 rfl ?_)
      exact (xx_loc (ls := [.ref 40, .int (x4 + (0 : Int32)), .int (x2 + 1), .retAddr 0, .retAddr 0]) (ls' := [.ref 40, .int (x4 + (0 : Int32)), .int (x2 + 1), .retAddr 0, .int (x4 + (0 : Int32))]) ⟨Or.inl rfl, Or.inl rfl, Or.inl rfl, Or.inl rfl, Or.inr rfl, trivial⟩ (k7 c3 c6))
    · refine (x_iconst 176 1 i23_176 rfl ?_)
      refine (x_goto 177 181 i23_177 rfl ?_)
      refine (x_iadd 181 i23_181 ?_)
      refine (x_istore 182 (ls2 := [.ref 40, .retAddr 0, .int x2, .retAddr 0, .int (x4 + (1 : Int32))]) i23_182 (Nat.le_of_ble_eq_true rfl) rfl ?_)
      refine (x_aload_n 184 i23_184 rfl ?_)
      refine (x_dup 185 i23_185 rfl ?_)
      refine (x_getI 186 4 (di 40 4) i23_186 rfl (q_lt hg rfl) (Nat.le_of_ble_eq_true rfl) (Or.inl rfl) rfl rfl ?_)
      refine (x_iconst 189 1 i23_189 rfl ?_)
      refine (x_iadd 190 i23_190 ?_)
      refine (x_putI 191 4 i23_191 rfl (Nat.le_of_ble_eq_true rfl) (q_lt hg rfl) rfl rfl ?_)
      refine (x_iload 194 i23_194 rfl ?_)
      refine (x_istore_n 196 (ls2 := [.ref 40, .int (x4 + (1 : Int32)), .int x2, .retAddr 0, .int (x4 + (1 : Int32))]) i23_196 (Nat.le_of_ble_eq_true rfl) rfl ?_)
      refine (x_iinc 197 (x2 + 1) (ls2 := [.ref 40, .int (x4 + (1 : Int32)), .int (x2 + 1), .retAddr 0, .int (x4 + (1 : Int32))]) i23_197 rfl (Nat.le_of_ble_eq_true rfl) rfl rfl ?_)
      refine (x_goto 200 9 i23_200 rfl ?_)
      exact (xx_loc (ls := [.ref 40, .int (x4 + (1 : Int32)), .int (x2 + 1), .retAddr 0, .retAddr 0]) (ls' := [.ref 40, .int (x4 + (1 : Int32)), .int (x2 + 1), .retAddr 0, .int (x4 + (1 : Int32))]) ⟨Or.inl rfl, Or.inl rfl, Or.inl rfl, Or.inl rfl, Or.inr rfl, trivial⟩ (k8 c3 c6))

set_option maxRecDepth 20000 in
theorem g23_119 {d n sl : Nat} {ln : Nat → Nat} {di : Nat → Nat → Int32} {dl : Nat → Nat → Int64} {dr : Nat → Nat → Option Nat} {x2 : Int32} {x4 : Int32} {y0 : Int32} {y1 : Int32} {y2 : Int32} {Q : Option Value → q_H → Prop} (hg : q_Gr n ln dr)
    (s1 : vp_in y2 301)
    (k2 : q_EX q_KD d 23 9 [.ref 40, .int x4, .int (x2 + 1), .retAddr 0, .retAddr 0] [] (n, sl, ln, (q_u (q_u di 42 y2.toNatClampNeg (y1 + y0)) 40 4 ((di 40 4) + (1 : Int32))), dl, dr) Q) : q_EX q_KD d 23 119 [.ref 40, .retAddr 0, .int x2, .retAddr 0, .int x4] [.int y0, .int y1, .int y2, .ref 42] (n, sl, ln, di, dl, dr) Q := by
  refine (x_iadd 119 i23_119 ?_)
  refine (x_iastore 120 i23_120 rfl (Nat.le_of_ble_eq_true rfl) (q_lt hg rfl) (q_inE (hg.2.1 42 301 rfl) s1) ?_)
  refine (x_goto 121 184 i23_121 rfl ?_)
  refine (x_aload_n 184 i23_184 rfl ?_)
  refine (x_dup 185 i23_185 rfl ?_)
  refine (x_getI 186 4 (di 40 4) i23_186 rfl (q_lt hg rfl) (Nat.le_of_ble_eq_true rfl) (Or.inl rfl) rfl rfl ?_)
  refine (x_iconst 189 1 i23_189 rfl ?_)
  refine (x_iadd 190 i23_190 ?_)
  refine (x_putI 191 4 i23_191 rfl (Nat.le_of_ble_eq_true rfl) (q_lt hg rfl) rfl rfl ?_)
  refine (x_iload 194 i23_194 rfl ?_)
  refine (x_istore_n 196 (ls2 := [.ref 40, .int x4, .int x2, .retAddr 0, .int x4]) i23_196 (Nat.le_of_ble_eq_true rfl) rfl ?_)
  refine (x_iinc 197 (x2 + 1) (ls2 := [.ref 40, .int x4, .int (x2 + 1), .retAddr 0, .int x4]) i23_197 rfl (Nat.le_of_ble_eq_true rfl) rfl rfl ?_)
  refine (x_goto 200 9 i23_200 rfl ?_)
  exact (xx_loc (ls := [.ref 40, .int x4, .int (x2 + 1), .retAddr 0, .retAddr 0]) (ls' := [.ref 40, .int x4, .int (x2 + 1), .retAddr 0, .int x4]) ⟨Or.inl rfl, Or.inl rfl, Or.inl rfl, Or.inl rfl, Or.inr rfl, trivial⟩ k2)

/-! SilentHouse$Tokens.sign -/
set_option maxRecDepth 20000 in
theorem g24_0 {d n sl : Nat} {ln : Nat → Nat} {di : Nat → Nat → Int32} {dl : Nat → Nat → Int64} {dr : Nat → Nat → Option Nat} {x1 : Int32} {Q : Option Value → q_H → Prop} (hg : q_Gr n ln dr)
    (k2 : (x1 < (0 : Int32)) → Q (some (.int (-1))) (n, sl, ln, di, dl, dr))
    (k4 : ((0 : Int32) ≤ x1) → ((di 40 3) ≤ x1) → Q (some (.int (-1))) (n, sl, ln, di, dl, dr))
    (k6 : ((0 : Int32) ≤ x1) → (x1 < (di 40 3)) → ((300 : Int32) ≤ x1) → Q (some (.int (-1))) (n, sl, ln, di, dl, dr))
    (s7 : ((0 : Int32) ≤ x1) → (x1 < (di 40 3)) → (x1 < (300 : Int32)) → vp_in x1 300)
    (k8 : ((0 : Int32) ≤ x1) → (x1 < (di 40 3)) → (x1 < (300 : Int32)) → Q (some (.int ((di 41 x1.toNatClampNeg) &&& (255 : Int32)))) (n, sl, ln, di, dl, dr)) : q_EX q_KD d 24 0 [.ref 40, .int x1] [] (n, sl, ln, di, dl, dr) Q := by
  refine (x_iload_n 0 i24_0 rfl ?_)
  refine (x_if_lt 1 32 i24_1 rfl (fun c1 => ?_) (fun c1 => ?_))
  · refine (x_iconst 32 (-1) i24_32 rfl ?_)
    exact (x_iretI 33 i24_33 rfl (k2 c1))
  · refine (x_iload_n 4 i24_4 rfl ?_)
    refine (x_aload_n 5 i24_5 rfl ?_)
    refine (x_getI 6 3 (di 40 3) i24_6 rfl (q_lt hg rfl) (Nat.le_of_ble_eq_true rfl) (Or.inl rfl) rfl rfl ?_)
    refine (x_icmp_ge 9 32 i24_9 rfl (fun c3 => ?_) (fun c3 => ?_))
    · refine (x_iconst 32 (-1) i24_32 rfl ?_)
      exact (x_iretI 33 i24_33 rfl (k4 c1 c3))
    · refine (x_iload_n 12 i24_12 rfl ?_)
      refine (x_sipush 13 300 i24_13 rfl ?_)
      refine (x_icmp_ge 16 32 i24_16 rfl (fun c5 => ?_) (fun c5 => ?_))
      · refine (x_iconst 32 (-1) i24_32 rfl ?_)
        exact (x_iretI 33 i24_33 rfl (k6 c1 c3 c5))
      · refine (x_aload_n 19 i24_19 rfl ?_)
        refine (x_getR 20 41 i24_20 rfl (q_lt hg rfl) (Nat.le_of_ble_eq_true rfl) rfl (hg.2.2.1 40 0 41 rfl) ?_)
        refine (x_iload_n 23 i24_23 rfl ?_)
        refine (x_baload 24 (di 41 x1.toNatClampNeg) i24_24 (Or.inl rfl) (q_lt hg rfl) (q_inE (hg.2.1 41 300 rfl) (s7 c1 c3 c5)) rfl ?_)
        refine (x_sipush 25 255 i24_25 rfl ?_)
        refine (x_iand 28 i24_28 ?_)
        refine (x_goto 29 33 i24_29 rfl ?_)
        exact (x_iretI 33 i24_33 rfl (k8 c1 c3 c5))

/-! SilentHouse$Tokens.isBlank -/
set_option maxRecDepth 20000 in
theorem g25_0 {d n sl : Nat} {ln : Nat → Nat} {di : Nat → Nat → Int32} {dl : Nat → Nat → Int64} {dr : Nat → Nat → Option Nat} {x0 : Int32} {Q : Option Value → q_H → Prop} (hg : q_Gr n ln dr)
    (k2 : (x0 = (32 : Int32)) → Q (some (.int 1)) (n, sl, ln, di, dl, dr))
    (k4 : (¬ x0 = (32 : Int32)) → (¬ x0 = (10 : Int32)) → Q (some (.int 0)) (n, sl, ln, di, dl, dr))
    (k5 : (¬ x0 = (32 : Int32)) → (x0 = (10 : Int32)) → Q (some (.int 1)) (n, sl, ln, di, dl, dr)) : q_EX q_KD d 25 0 [.int x0] [] (n, sl, ln, di, dl, dr) Q := by
  refine (x_iload_n 0 i25_0 rfl ?_)
  refine (x_bipush 1 32 i25_1 rfl ?_)
  refine (x_icmp_eq 3 12 i25_3 rfl (fun c1 => ?_) (fun c1 => ?_))
  · refine (x_iconst 12 1 i25_12 rfl ?_)
    refine (x_goto 13 17 i25_13 rfl ?_)
    exact (x_iret1 17 i25_17 rfl (k2 c1))
  · refine (x_iload_n 6 i25_6 rfl ?_)
    refine (x_bipush 7 10 i25_7 rfl ?_)
    refine (x_icmp_ne 9 16 i25_9 rfl (fun c3 => ?_) (fun c3 => ?_))
    · refine (x_iconst 16 0 i25_16 rfl ?_)
      exact (x_iret0 17 i25_17 rfl (k4 c1 c3))
    · refine (x_iconst 12 1 i25_12 rfl ?_)
      refine (x_goto 13 17 i25_13 rfl ?_)
      exact (x_iret1 17 i25_17 rfl (k5 c1 c3))

/-! SilentHouse$Tokens.isLetter -/
set_option maxRecDepth 20000 in
theorem g26_0 {d n sl : Nat} {ln : Nat → Nat} {di : Nat → Nat → Int32} {dl : Nat → Nat → Int64} {dr : Nat → Nat → Option Nat} {x0 : Int32} {Q : Option Value → q_H → Prop} (hg : q_Gr n ln dr)
    (k3 : (x0 < (97 : Int32)) → (x0 < (65 : Int32)) → Q (some (.int 0)) (n, sl, ln, di, dl, dr))
    (k5 : (x0 < (97 : Int32)) → ((65 : Int32) ≤ x0) → ((90 : Int32) < x0) → Q (some (.int 0)) (n, sl, ln, di, dl, dr))
    (k6 : (x0 < (97 : Int32)) → ((65 : Int32) ≤ x0) → (x0 ≤ (90 : Int32)) → Q (some (.int 1)) (n, sl, ln, di, dl, dr))
    (k8 : ((97 : Int32) ≤ x0) → (x0 ≤ (122 : Int32)) → Q (some (.int 1)) (n, sl, ln, di, dl, dr))
    (k10 : ((97 : Int32) ≤ x0) → ((122 : Int32) < x0) → (x0 < (65 : Int32)) → Q (some (.int 0)) (n, sl, ln, di, dl, dr))
    (k12 : ((97 : Int32) ≤ x0) → ((122 : Int32) < x0) → ((65 : Int32) ≤ x0) → ((90 : Int32) < x0) → Q (some (.int 0)) (n, sl, ln, di, dl, dr))
    (k13 : ((97 : Int32) ≤ x0) → ((122 : Int32) < x0) → ((65 : Int32) ≤ x0) → (x0 ≤ (90 : Int32)) → Q (some (.int 1)) (n, sl, ln, di, dl, dr)) : q_EX q_KD d 26 0 [.int x0] [] (n, sl, ln, di, dl, dr) Q := by
  refine (x_iload_n 0 i26_0 rfl ?_)
  refine (x_bipush 1 97 i26_1 rfl ?_)
  refine (x_icmp_lt 3 12 i26_3 rfl (fun c1 => ?_) (fun c1 => ?_))
  · refine (x_iload_n 12 i26_12 rfl ?_)
    refine (x_bipush 13 65 i26_13 rfl ?_)
    refine (x_icmp_lt 15 28 i26_15 rfl (fun c2 => ?_) (fun c2 => ?_))
    · refine (x_iconst 28 0 i26_28 rfl ?_)
      exact (x_iret0 29 i26_29 rfl (k3 c1 c2))
    · refine (x_iload_n 18 i26_18 rfl ?_)
      refine (x_bipush 19 90 i26_19 rfl ?_)
      refine (x_icmp_gt 21 28 i26_21 rfl (fun c4 => ?_) (fun c4 => ?_))
      · refine (x_iconst 28 0 i26_28 rfl ?_)
        exact (x_iret0 29 i26_29 rfl (k5 c1 c2 c4))
      · refine (x_iconst 24 1 i26_24 rfl ?_)
        refine (x_goto 25 29 i26_25 rfl ?_)
        exact (x_iret1 29 i26_29 rfl (k6 c1 c2 c4))
  · refine (x_iload_n 6 i26_6 rfl ?_)
    refine (x_bipush 7 122 i26_7 rfl ?_)
    refine (x_icmp_le 9 24 i26_9 rfl (fun c7 => ?_) (fun c7 => ?_))
    · refine (x_iconst 24 1 i26_24 rfl ?_)
      refine (x_goto 25 29 i26_25 rfl ?_)
      exact (x_iret1 29 i26_29 rfl (k8 c1 c7))
    · refine (x_iload_n 12 i26_12 rfl ?_)
      refine (x_bipush 13 65 i26_13 rfl ?_)
      refine (x_icmp_lt 15 28 i26_15 rfl (fun c9 => ?_) (fun c9 => ?_))
      · refine (x_iconst 28 0 i26_28 rfl ?_)
        exact (x_iret0 29 i26_29 rfl (k10 c1 c7 c9))
      · refine (x_iload_n 18 i26_18 rfl ?_)
        refine (x_bipush 19 90 i26_19 rfl ?_)
        refine (x_icmp_gt 21 28 i26_21 rfl (fun c11 => ?_) (fun c11 => ?_))
        · refine (x_iconst 28 0 i26_28 rfl ?_)
          exact (x_iret0 29 i26_29 rfl (k12 c1 c7 c9 c11))
        · refine (x_iconst 24 1 i26_24 rfl ?_)
          refine (x_goto 25 29 i26_25 rfl ?_)
          exact (x_iret1 29 i26_29 rfl (k13 c1 c7 c9 c11))

/-! SilentHouse$Tokens.behind -/
set_option maxRecDepth 20000 in
theorem g27_0 {d n sl : Nat} {ln : Nat → Nat} {di : Nat → Nat → Int32} {dl : Nat → Nat → Int64} {dr : Nat → Nat → Option Nat} {x1 : Int32} {x2 : Int32} {Q : Option Value → q_H → Prop} (hg : q_Gr n ln dr)
    (k1 : q_EX q_KD d 27 4 [.ref 40, .retAddr 0, .int x2, .int (x1 + (1 : Int32))] [] (n, sl, ln, di, dl, dr) Q) : q_EX q_KD d 27 0 [.ref 40, .int x1, .int x2, .retAddr 0] [] (n, sl, ln, di, dl, dr) Q := by
  refine (x_iload_n 0 i27_0 rfl ?_)
  refine (x_iconst 1 1 i27_1 rfl ?_)
  refine (x_iadd 2 i27_2 ?_)
  refine (x_istore_n 3 (ls2 := [.ref 40, .int x1, .int x2, .int (x1 + (1 : Int32))]) i27_3 (Nat.le_of_ble_eq_true rfl) rfl ?_)
  exact (xx_loc (ls := [.ref 40, .retAddr 0, .int x2, .int (x1 + (1 : Int32))]) (ls' := [.ref 40, .int x1, .int x2, .int (x1 + (1 : Int32))]) ⟨Or.inl rfl, Or.inr rfl, Or.inl rfl, Or.inl rfl, trivial⟩ k1)

set_option maxRecDepth 20000 in
theorem g27_4 {m n sl : Nat} {ln : Nat → Nat} {di : Nat → Nat → Int32} {dl : Nat → Nat → Int64} {dr : Nat → Nat → Option Nat} {x2 : Int32} {x3 : Int32} {Q : Option Value → q_H → Prop} (hg : q_Gr n ln dr)
    (k2 : ((di 40 3) ≤ x3) → Q (some (.int x3)) (n, sl, ln, di, dl, dr))
    (k4 : (x3 < (di 40 3)) → (x2 = (0 : Int32)) → q_EX q_KD m 24 0 [.ref 40, .int x3] [] (n, sl, ln, di, dl, dr) (fun r1 h1 => q_EX q_KD (m + 1) 27 35 [.ref 40, .retAddr 0, .int x2, .int x3] (r1.toList ++ []) h1 Q))
    (k5 : (x3 < (di 40 3)) → (¬ x2 = (0 : Int32)) → q_EX q_KD m 24 0 [.ref 40, .int x3] [] (n, sl, ln, di, dl, dr) (fun r1 h1 => q_EX q_KD (m + 1) 27 21 [.ref 40, .retAddr 0, .int x2, .int x3] (r1.toList ++ []) h1 Q)) : q_EX q_KD (m + 1) 27 4 [.ref 40, .retAddr 0, .int x2, .int x3] [] (n, sl, ln, di, dl, dr) Q := by
  refine (x_iload_n 4 i27_4 rfl ?_)
  refine (x_aload_n 5 i27_5 rfl ?_)
  refine (x_getI 6 3 (di 40 3) i27_6 rfl (q_lt hg rfl) (Nat.le_of_ble_eq_true rfl) (Or.inl rfl) rfl rfl ?_)
  refine (x_icmp_ge 9 47 i27_9 rfl (fun c1 => ?_) (fun c1 => ?_))
  · refine (x_iload_n 47 i27_47 rfl ?_)
    exact (x_iretI 48 i27_48 rfl (k2 c1))
  · refine (x_iload_n 12 i27_12 rfl ?_)
    refine (x_if_eq 13 30 i27_13 rfl (fun c3 => ?_) (fun c3 => ?_))
    · refine (x_aload_n 30 i27_30 rfl ?_)
      refine (x_iload_n 31 i27_31 rfl ?_)
      exact (x_cv 32 (as := [.int x3]) (rs := []) i27_32 rfl rfl rfl rfl (Nat.le_of_ble_eq_true rfl) (q_lt hg rfl) rfl (Or.inr (Nat.le_of_ble_eq_true rfl)) (Nat.le_of_ble_eq_true rfl) rfl rfl (k4 c1 c3))
    · refine (x_aload_n 16 i27_16 rfl ?_)
      refine (x_iload_n 17 i27_17 rfl ?_)
      exact (x_cv 18 (as := [.int x3]) (rs := []) i27_18 rfl rfl rfl rfl (Nat.le_of_ble_eq_true rfl) (q_lt hg rfl) rfl (Or.inr (Nat.le_of_ble_eq_true rfl)) (Nat.le_of_ble_eq_true rfl) rfl rfl (k5 c1 c3))

set_option maxRecDepth 20000 in
theorem g27_35 {m n sl : Nat} {ln : Nat → Nat} {di : Nat → Nat → Int32} {dl : Nat → Nat → Int64} {dr : Nat → Nat → Option Nat} {x2 : Int32} {x3 : Int32} {y0 : Int32} {Q : Option Value → q_H → Prop} (hg : q_Gr n ln dr)
    (k1 : q_EX q_KD m 28 0 [.int y0] [] (n, sl, ln, di, dl, dr) (fun r1 h1 => q_EX q_KD (m + 1) 27 38 [.ref 40, .retAddr 0, .int x2, .int x3] (r1.toList ++ []) h1 Q)) : q_EX q_KD (m + 1) 27 35 [.ref 40, .retAddr 0, .int x2, .int x3] [.int y0] (n, sl, ln, di, dl, dr) Q := by
  exact (x_cs 35 (as := [.int y0]) (rs := []) i27_35 rfl rfl rfl rfl (Nat.le_of_ble_eq_true rfl) (Nat.le_of_ble_eq_true rfl) rfl rfl k1)

set_option maxRecDepth 20000 in
theorem g27_21 {m n sl : Nat} {ln : Nat → Nat} {di : Nat → Nat → Int32} {dl : Nat → Nat → Int64} {dr : Nat → Nat → Option Nat} {x2 : Int32} {x3 : Int32} {y0 : Int32} {Q : Option Value → q_H → Prop} (hg : q_Gr n ln dr)
    (k1 : q_EX q_KD m 26 0 [.int y0] [] (n, sl, ln, di, dl, dr) (fun r1 h1 => q_EX q_KD (m + 1) 27 24 [.ref 40, .retAddr 0, .int x2, .int x3] (r1.toList ++ []) h1 Q)) : q_EX q_KD (m + 1) 27 21 [.ref 40, .retAddr 0, .int x2, .int x3] [.int y0] (n, sl, ln, di, dl, dr) Q := by
  exact (x_cs 21 (as := [.int y0]) (rs := []) i27_21 rfl rfl rfl rfl (Nat.le_of_ble_eq_true rfl) (Nat.le_of_ble_eq_true rfl) rfl rfl k1)

set_option maxRecDepth 20000 in
theorem g27_38 {d n sl : Nat} {ln : Nat → Nat} {di : Nat → Nat → Int32} {dl : Nat → Nat → Int64} {dr : Nat → Nat → Option Nat} {x2 : Int32} {x3 : Int32} {y0 : Int32} {Q : Option Value → q_H → Prop} (hg : q_Gr n ln dr)
    (k2 : (y0 = (0 : Int32)) → Q (some (.int x3)) (n, sl, ln, di, dl, dr))
    (k3 : (¬ y0 = (0 : Int32)) → q_EX q_KD d 27 4 [.ref 40, .retAddr 0, .int x2, .int (x3 + 1)] [] (n, sl, ln, di, dl, dr) Q) : q_EX q_KD d 27 38 [.ref 40, .retAddr 0, .int x2, .int x3] [.int y0] (n, sl, ln, di, dl, dr) Q := by
  refine (x_if_eq 38 47 i27_38 rfl (fun c1 => ?_) (fun c1 => ?_))
  · refine (x_iload_n 47 i27_47 rfl ?_)
    exact (x_iretI 48 i27_48 rfl (k2 c1))
  · refine (x_iinc 41 (x3 + 1) (ls2 := [.ref 40, .retAddr 0, .int x2, .int (x3 + 1)]) i27_41 rfl (Nat.le_of_ble_eq_true rfl) rfl rfl ?_)
    exact (x_goto 44 4 i27_44 rfl (k3 c1))

set_option maxRecDepth 20000 in
theorem g27_24 {d n sl : Nat} {ln : Nat → Nat} {di : Nat → Nat → Int32} {dl : Nat → Nat → Int64} {dr : Nat → Nat → Option Nat} {x2 : Int32} {x3 : Int32} {y0 : Int32} {Q : Option Value → q_H → Prop} (hg : q_Gr n ln dr)
    (k2 : (y0 = (0 : Int32)) → Q (some (.int x3)) (n, sl, ln, di, dl, dr))
    (k3 : (¬ y0 = (0 : Int32)) → q_EX q_KD d 27 4 [.ref 40, .retAddr 0, .int x2, .int (x3 + 1)] [] (n, sl, ln, di, dl, dr) Q) : q_EX q_KD d 27 24 [.ref 40, .retAddr 0, .int x2, .int x3] [.int y0] (n, sl, ln, di, dl, dr) Q := by
  refine (x_if_eq 24 47 i27_24 rfl (fun c1 => ?_) (fun c1 => ?_))
  · refine (x_iload_n 47 i27_47 rfl ?_)
    exact (x_iretI 48 i27_48 rfl (k2 c1))
  · refine (x_goto 27 41 i27_27 rfl ?_)
    refine (x_iinc 41 (x3 + 1) (ls2 := [.ref 40, .retAddr 0, .int x2, .int (x3 + 1)]) i27_41 rfl (Nat.le_of_ble_eq_true rfl) rfl rfl ?_)
    exact (x_goto 44 4 i27_44 rfl (k3 c1))

/-! SilentHouse$Tokens.isDigit -/
set_option maxRecDepth 20000 in
theorem g28_0 {d n sl : Nat} {ln : Nat → Nat} {di : Nat → Nat → Int32} {dl : Nat → Nat → Int64} {dr : Nat → Nat → Option Nat} {x0 : Int32} {Q : Option Value → q_H → Prop} (hg : q_Gr n ln dr)
    (k2 : (x0 < (48 : Int32)) → Q (some (.int 0)) (n, sl, ln, di, dl, dr))
    (k4 : ((48 : Int32) ≤ x0) → ((57 : Int32) < x0) → Q (some (.int 0)) (n, sl, ln, di, dl, dr))
    (k5 : ((48 : Int32) ≤ x0) → (x0 ≤ (57 : Int32)) → Q (some (.int 1)) (n, sl, ln, di, dl, dr)) : q_EX q_KD d 28 0 [.int x0] [] (n, sl, ln, di, dl, dr) Q := by
  refine (x_iload_n 0 i28_0 rfl ?_)
  refine (x_bipush 1 48 i28_1 rfl ?_)
  refine (x_icmp_lt 3 16 i28_3 rfl (fun c1 => ?_) (fun c1 => ?_))
  · refine (x_iconst 16 0 i28_16 rfl ?_)
    exact (x_iret0 17 i28_17 rfl (k2 c1))
  · refine (x_iload_n 6 i28_6 rfl ?_)
    refine (x_bipush 7 57 i28_7 rfl ?_)
    refine (x_icmp_gt 9 16 i28_9 rfl (fun c3 => ?_) (fun c3 => ?_))
    · refine (x_iconst 16 0 i28_16 rfl ?_)
      exact (x_iret0 17 i28_17 rfl (k4 c1 c3))
    · refine (x_iconst 12 1 i28_12 rfl ?_)
      refine (x_goto 13 17 i28_13 rfl ?_)
      exact (x_iret1 17 i28_17 rfl (k5 c1 c3))

/-! SilentHouse$Tokens.word -/
set_option maxRecDepth 20000 in
theorem g29_0 {d n sl : Nat} {ln : Nat → Nat} {di : Nat → Nat → Int32} {dl : Nat → Nat → Int64} {dr : Nat → Nat → Option Nat} {x1 : Int32} {x2 : Int32} {Q : Option Value → q_H → Prop} (hg : q_Gr n ln dr)
    (k1 : q_EX q_KD d 29 8 [.ref 40, .int x1, .int x2, .int 0, .int x1, .int 0, .retAddr 0] [] (n, sl, ln, di, dl, dr) Q) : q_EX q_KD d 29 0 [.ref 40, .int x1, .int x2, .retAddr 0, .retAddr 0, .retAddr 0, .retAddr 0] [] (n, sl, ln, di, dl, dr) Q := by
  refine (x_iconst 0 0 i29_0 rfl ?_)
  refine (x_istore_n 1 (ls2 := [.ref 40, .int x1, .int x2, .int 0, .retAddr 0, .retAddr 0, .retAddr 0]) i29_1 (Nat.le_of_ble_eq_true rfl) rfl ?_)
  refine (x_iload_n 2 i29_2 rfl ?_)
  refine (x_istore 3 (ls2 := [.ref 40, .int x1, .int x2, .int 0, .int x1, .retAddr 0, .retAddr 0]) i29_3 (Nat.le_of_ble_eq_true rfl) rfl ?_)
  refine (x_iconst 5 0 i29_5 rfl ?_)
  exact (x_istore 6 (ls2 := [.ref 40, .int x1, .int x2, .int 0, .int x1, .int 0, .retAddr 0]) i29_6 (Nat.le_of_ble_eq_true rfl) rfl k1)

set_option maxRecDepth 20000 in
theorem g29_8 {m n sl : Nat} {ln : Nat → Nat} {di : Nat → Nat → Int32} {dl : Nat → Nat → Int64} {dr : Nat → Nat → Option Nat} {x1 : Int32} {x2 : Int32} {x3 : Int32} {x4 : Int32} {x5 : Int32} {Q : Option Value → q_H → Prop} (hg : q_Gr n ln dr)
    (k1 : q_EX q_KD m 30 0 [.ref 4] [] (n, sl, ln, di, dl, dr) (fun r1 h1 => q_EX q_KD (m + 1) 29 15 [.ref 40, .int x1, .int x2, .int x3, .int x4, .int x5, .retAddr 0] (r1.toList ++ [.int x5]) h1 Q)) : q_EX q_KD (m + 1) 29 8 [.ref 40, .int x1, .int x2, .int x3, .int x4, .int x5, .retAddr 0] [] (n, sl, ln, di, dl, dr) Q := by
  refine (x_iload 8 i29_8 rfl ?_)
  refine (x_ldcS 10 i29_10 rfl ?_)
  exact (x_cv 12 (as := []) (rs := [.int x5]) i29_12 rfl rfl rfl rfl (Nat.le_of_ble_eq_true rfl) (q_lt hg rfl) rfl (Or.inl rfl) (Nat.le_of_ble_eq_true rfl) rfl rfl k1)

set_option maxRecDepth 20000 in
theorem g29_15 {m n sl : Nat} {ln : Nat → Nat} {di : Nat → Nat → Int32} {dl : Nat → Nat → Int64} {dr : Nat → Nat → Option Nat} {x1 : Int32} {x2 : Int32} {x3 : Int32} {x4 : Int32} {x5 : Int32} {y0 : Int32} {y1 : Int32} {Q : Option Value → q_H → Prop} (hg : q_Gr n ln dr)
    (k2 : (y0 ≤ y1) → Q (some (.int 132)) (n, sl, ln, di, dl, dr))
    (k3 : (y1 < y0) → q_EX q_KD m 32 0 [.ref 4, .int x5] [] (n, sl, ln, di, dl, dr) (fun r1 h1 => q_EX q_KD (m + 1) 29 25 [.ref 40, .int x1, .int x2, .int x3, .int x4, .int x5, .retAddr 0] (r1.toList ++ []) h1 Q)) : q_EX q_KD (m + 1) 29 15 [.ref 40, .int x1, .int x2, .int x3, .int x4, .int x5, .retAddr 0] [.int y0, .int y1] (n, sl, ln, di, dl, dr) Q := by
  refine (x_icmp_ge 15 94 i29_15 rfl (fun c1 => ?_) (fun c1 => ?_))
  · refine (x_sipush 94 132 i29_94 rfl ?_)
    exact (x_iretI 97 i29_97 rfl (k2 c1))
  · refine (x_ldcS 18 i29_18 rfl ?_)
    refine (x_iload 20 i29_20 rfl ?_)
    exact (x_cv 22 (as := [.int x5]) (rs := []) i29_22 rfl rfl rfl rfl (Nat.le_of_ble_eq_true rfl) (q_lt hg rfl) rfl (Or.inl rfl) (Nat.le_of_ble_eq_true rfl) rfl rfl (k3 c1))

set_option maxRecDepth 20000 in
theorem g29_25 {m n sl : Nat} {ln : Nat → Nat} {di : Nat → Nat → Int32} {dl : Nat → Nat → Int64} {dr : Nat → Nat → Option Nat} {x1 : Int32} {x2 : Int32} {x3 : Int32} {x4 : Int32} {x5 : Int32} {y0 : Int32} {Q : Option Value → q_H → Prop} (hg : q_Gr n ln dr)
    (k3 : (¬ y0 = (32 : Int32)) → (x4 = (-1 : Int32)) → q_EX q_KD (m + 1) 29 8 [.ref 40, .int x1, .int x2, .int x3, .int x4, .int (x5 + 1), .retAddr 0] [] (n, sl, ln, di, dl, dr) Q)
    (k5 : (¬ y0 = (32 : Int32)) → (¬ x4 = (-1 : Int32)) → (x2 ≤ x4) → q_EX q_KD (m + 1) 29 8 [.ref 40, .int x1, .int x2, .int x3, .int (-1), .int (x5 + 1), .retAddr 0] [] (n, sl, ln, di, dl, dr) Q)
    (k6 : (¬ y0 = (32 : Int32)) → (¬ x4 = (-1 : Int32)) → (x4 < x2) → q_EX q_KD m 24 0 [.ref 40, .int x4] [] (n, sl, ln, di, dl, dr) (fun r1 h1 => q_EX q_KD (m + 1) 29 73 [.ref 40, .int x1, .int x2, .int x3, .int x4, .int x5, .int y0] (r1.toList ++ []) h1 Q))
    (k8 : (y0 = (32 : Int32)) → (¬ x4 = x2) → q_EX q_KD (m + 1) 29 8 [.ref 40, .int x1, .int x2, .int (x3 + 1), .int x1, .int (x5 + 1), .retAddr 0] [] (n, sl, ln, di, dl, dr) Q)
    (k9 : (y0 = (32 : Int32)) → (x4 = x2) → Q (some (.int ((200 : Int32) + x3))) (n, sl, ln, di, dl, dr)) : q_EX q_KD (m + 1) 29 25 [.ref 40, .int x1, .int x2, .int x3, .int x4, .int x5, .retAddr 0] [.int y0] (n, sl, ln, di, dl, dr) Q := by
  refine (x_istore 25 (ls2 := [.ref 40, .int x1, .int x2, .int x3, .int x4, .int x5, .int y0]) i29_25 (Nat.le_of_ble_eq_true rfl) rfl ?_)
  refine (x_iload 27 i29_27 rfl ?_)
  refine (x_bipush 29 32 i29_29 rfl ?_)
  refine (x_icmp_ne 31 55 i29_31 rfl (fun c1 => ?_) (fun c1 => ?_))
  · refine (x_iload 55 i29_55 rfl ?_)
    refine (x_iconst 57 (-1) i29_57 rfl ?_)
    refine (x_icmp_eq 58 88 i29_58 rfl (fun c2 => ?_) (fun c2 => ?_))
    · refine (x_iinc 88 (x5 + 1) (ls2 := [.ref 40, .int x1, .int x2, .int x3, .int x4, .int (x5 + 1), .int y0]) i29_88 rfl (Nat.le_of_ble_eq_true rfl) rfl rfl ?_)
      refine (x_goto 91 8 i29_91 rfl ?_)
      exact (xx_loc (ls := [.ref 40, .int x1, .int x2, .int x3, .int x4, .int (x5 + 1), .retAddr 0]) (ls' := [.ref 40, .int x1, .int x2, .int x3, .int x4, .int (x5 + 1), .int y0]) ⟨Or.inl rfl, Or.inl rfl, Or.inl rfl, Or.inl rfl, Or.inl rfl, Or.inl rfl, Or.inr rfl, trivial⟩ (k3 c1 c2))
    · refine (x_iload 61 i29_61 rfl ?_)
      refine (x_iload_n 63 i29_63 rfl ?_)
      refine (x_icmp_ge 64 85 i29_64 rfl (fun c4 => ?_) (fun c4 => ?_))
      · refine (x_iconst 85 (-1) i29_85 rfl ?_)
        refine (x_istore 86 (ls2 := [.ref 40, .int x1, .int x2, .int x3, .int (-1), .int x5, .int y0]) i29_86 (Nat.le_of_ble_eq_true rfl) rfl ?_)
        refine (x_iinc 88 (x5 + 1) (ls2 := [.ref 40, .int x1, .int x2, .int x3, .int (-1), .int (x5 + 1), .int y0]) i29_88 rfl (Nat.le_of_ble_eq_true rfl) rfl rfl ?_)
        refine (x_goto 91 8 i29_91 rfl ?_)
        exact (xx_loc (ls := [.ref 40, .int x1, .int x2, .int x3, .int (-1), .int (x5 + 1), .retAddr 0]) (ls' := [.ref 40, .int x1, .int x2, .int x3, .int (-1), .int (x5 + 1), .int y0]) ⟨Or.inl rfl, Or.inl rfl, Or.inl rfl, Or.inl rfl, Or.inl rfl, Or.inl rfl, Or.inr rfl, trivial⟩ (k5 c1 c2 c4))
      · refine (x_aload_n 67 i29_67 rfl ?_)
        refine (x_iload 68 i29_68 rfl ?_)
        exact (x_cv 70 (as := [.int x4]) (rs := []) i29_70 rfl rfl rfl rfl (Nat.le_of_ble_eq_true rfl) (q_lt hg rfl) rfl (Or.inr (Nat.le_of_ble_eq_true rfl)) (Nat.le_of_ble_eq_true rfl) rfl rfl (k6 c1 c2 c4))
  · refine (x_iload 34 i29_34 rfl ?_)
    refine (x_iload_n 36 i29_36 rfl ?_)
    refine (x_icmp_ne 37 46 i29_37 rfl (fun c7 => ?_) (fun c7 => ?_))
    · refine (x_iinc 46 (x3 + 1) (ls2 := [.ref 40, .int x1, .int x2, .int (x3 + 1), .int x4, .int x5, .int y0]) i29_46 rfl (Nat.le_of_ble_eq_true rfl) rfl rfl ?_)
      refine (x_iload_n 49 i29_49 rfl ?_)
      refine (x_istore 50 (ls2 := [.ref 40, .int x1, .int x2, .int (x3 + 1), .int x1, .int x5, .int y0]) i29_50 (Nat.le_of_ble_eq_true rfl) rfl ?_)
      refine (x_goto 52 88 i29_52 rfl ?_)
      refine (x_iinc 88 (x5 + 1) (ls2 := [.ref 40, .int x1, .int x2, .int (x3 + 1), .int x1, .int (x5 + 1), .int y0]) i29_88 rfl (Nat.le_of_ble_eq_true rfl) rfl rfl ?_)
      refine (x_goto 91 8 i29_91 rfl ?_)
      exact (xx_loc (ls := [.ref 40, .int x1, .int x2, .int (x3 + 1), .int x1, .int (x5 + 1), .retAddr 0]) (ls' := [.ref 40, .int x1, .int x2, .int (x3 + 1), .int x1, .int (x5 + 1), .int y0]) ⟨Or.inl rfl, Or.inl rfl, Or.inl rfl, Or.inl rfl, Or.inl rfl, Or.inl rfl, Or.inr rfl, trivial⟩ (k8 c1 c7))
    · refine (x_sipush 40 200 i29_40 rfl ?_)
      refine (x_iload_n 43 i29_43 rfl ?_)
      refine (x_iadd 44 i29_44 ?_)
      exact (x_iretI 45 i29_45 rfl (k9 c1 c7))

set_option maxRecDepth 20000 in
theorem g29_73 {d n sl : Nat} {ln : Nat → Nat} {di : Nat → Nat → Int32} {dl : Nat → Nat → Int64} {dr : Nat → Nat → Option Nat} {x1 : Int32} {x2 : Int32} {x3 : Int32} {x4 : Int32} {x5 : Int32} {x6 : Int32} {y0 : Int32} {Q : Option Value → q_H → Prop} (hg : q_Gr n ln dr)
    (k2 : (¬ y0 = x6) → q_EX q_KD d 29 8 [.ref 40, .int x1, .int x2, .int x3, .int (-1), .int (x5 + 1), .retAddr 0] [] (n, sl, ln, di, dl, dr) Q)
    (k3 : (y0 = x6) → q_EX q_KD d 29 8 [.ref 40, .int x1, .int x2, .int x3, .int (x4 + (1 : Int32)), .int (x5 + 1), .retAddr 0] [] (n, sl, ln, di, dl, dr) Q) : q_EX q_KD d 29 73 [.ref 40, .int x1, .int x2, .int x3, .int x4, .int x5, .int x6] [.int y0] (n, sl, ln, di, dl, dr) Q := by
  refine (x_iload 73 i29_73 rfl ?_)
  refine (x_icmp_ne 75 85 i29_75 rfl (fun c1 => ?_) (fun c1 => ?_))
  · refine (x_iconst 85 (-1) i29_85 rfl ?_)
    refine (x_istore 86 (ls2 := [.ref 40, .int x1, .int x2, .int x3, .int (-1), .int x5, .int x6]) i29_86 (Nat.le_of_ble_eq_true rfl) rfl ?_)
    refine (x_iinc 88 (x5 + 1) (ls2 := [.ref 40, .int x1, .int x2, .int x3, .int (-1), .int (x5 + 1), .int x6]) i29_88 rfl (Nat.le_of_ble_eq_true rfl) rfl rfl ?_)
    refine (x_goto 91 8 i29_91 rfl ?_)
    exact (xx_loc (ls := [.ref 40, .int x1, .int x2, .int x3, .int (-1), .int (x5 + 1), .retAddr 0]) (ls' := [.ref 40, .int x1, .int x2, .int x3, .int (-1), .int (x5 + 1), .int x6]) ⟨Or.inl rfl, Or.inl rfl, Or.inl rfl, Or.inl rfl, Or.inl rfl, Or.inl rfl, Or.inr rfl, trivial⟩ (k2 c1))
  · refine (x_iload 78 i29_78 rfl ?_)
    refine (x_iconst 80 1 i29_80 rfl ?_)
    refine (x_iadd 81 i29_81 ?_)
    refine (x_goto 82 86 i29_82 rfl ?_)
    refine (x_istore 86 (ls2 := [.ref 40, .int x1, .int x2, .int x3, .int (x4 + (1 : Int32)), .int x5, .int x6]) i29_86 (Nat.le_of_ble_eq_true rfl) rfl ?_)
    refine (x_iinc 88 (x5 + 1) (ls2 := [.ref 40, .int x1, .int x2, .int x3, .int (x4 + (1 : Int32)), .int (x5 + 1), .int x6]) i29_88 rfl (Nat.le_of_ble_eq_true rfl) rfl rfl ?_)
    refine (x_goto 91 8 i29_91 rfl ?_)
    exact (xx_loc (ls := [.ref 40, .int x1, .int x2, .int x3, .int (x4 + (1 : Int32)), .int (x5 + 1), .retAddr 0]) (ls' := [.ref 40, .int x1, .int x2, .int x3, .int (x4 + (1 : Int32)), .int (x5 + 1), .int x6]) ⟨Or.inl rfl, Or.inl rfl, Or.inl rfl, Or.inl rfl, Or.inl rfl, Or.inl rfl, Or.inr rfl, trivial⟩ (k3 c1))

/-! java/lang/String.length -/
set_option maxRecDepth 20000 in
theorem g30_0 {m n sl : Nat} {ln : Nat → Nat} {di : Nat → Nat → Int32} {dl : Nat → Nat → Int64} {dr : Nat → Nat → Option Nat} {Q : Option Value → q_H → Prop} (hg : q_Gr n ln dr)
    (k1 : q_EX q_KD m 31 0 [.ref 4] [] (n, sl, ln, di, dl, dr) (fun r1 h1 => q_EX q_KD (m + 1) 30 9 [.retAddr 0] (r1.toList ++ [.int 134]) h1 Q)) : q_EX q_KD (m + 1) 30 0 [.ref 4] [] (n, sl, ln, di, dl, dr) Q := by
  refine (x_aload_n 0 i30_0 rfl ?_)
  refine (x_getSv 1 i30_1 rfl (q_lt hg rfl) rfl ?_)
  refine (x_alen 4 134 i30_4 (by decide) (by decide) (q_lt hg rfl) (q_lenE (hg.2.1 5 134 rfl) rfl) ?_)
  refine (x_aload_n 5 i30_5 rfl ?_)
  refine (xx_loc (ls := [.retAddr 0]) (ls' := [.ref 4]) ⟨Or.inr rfl, trivial⟩ ?_)
  exact (x_cv 6 (as := []) (rs := [.int 134]) i30_6 rfl rfl rfl rfl (Nat.le_of_ble_eq_true rfl) (q_lt hg rfl) rfl (Or.inl rfl) (Nat.le_of_ble_eq_true rfl) rfl rfl k1)

set_option maxRecDepth 20000 in
theorem g30_9 {d n sl : Nat} {ln : Nat → Nat} {di : Nat → Nat → Int32} {dl : Nat → Nat → Int64} {dr : Nat → Nat → Option Nat} {y0 : Int32} {y1 : Int32} {Q : Option Value → q_H → Prop} (hg : q_Gr n ln dr)
    (k1 : Q (some (.int (y1 >>> (y0 &&& 31)))) (n, sl, ln, di, dl, dr)) : q_EX q_KD d 30 9 [.retAddr 0] [.int y0, .int y1] (n, sl, ln, di, dl, dr) Q := by
  refine (x_ishr 9 i30_9 ?_)
  exact (x_iretI 10 i30_10 rfl k1)

/-! java/lang/String.coder -/
set_option maxRecDepth 20000 in
theorem g31_0 {d n sl : Nat} {ln : Nat → Nat} {di : Nat → Nat → Int32} {dl : Nat → Nat → Int64} {dr : Nat → Nat → Option Nat} {Q : Option Value → q_H → Prop} (hg : q_Gr n ln dr)
    (k2 : ((1 : Int32) = (0 : Int32)) → Q (some (.int 1)) (n, sl, ln, di, dl, dr))
    (k3 : (¬ (1 : Int32) = (0 : Int32)) → Q (some (.int 0)) (n, sl, ln, di, dl, dr)) : q_EX q_KD d 31 0 [.ref 4] [] (n, sl, ln, di, dl, dr) Q := by
  refine (x_gsI 0 i31_0 rfl ?_)
  refine (x_if_eq 3 13 i31_3 rfl (fun c1 => ?_) (fun c1 => ?_))
  · refine (x_iconst 13 1 i31_13 rfl ?_)
    exact (x_iret 14 i31_14 rfl rfl (k2 c1))
  · refine (x_aload_n 6 i31_6 rfl ?_)
    refine (x_getSc 7 i31_7 rfl (q_lt hg rfl) rfl ?_)
    refine (x_goto 10 14 i31_10 rfl ?_)
    exact (x_iret 14 i31_14 rfl rfl (k3 c1))

/-! java/lang/String.charAt -/
set_option maxRecDepth 20000 in
theorem g32_0 {m n sl : Nat} {ln : Nat → Nat} {di : Nat → Nat → Int32} {dl : Nat → Nat → Int64} {dr : Nat → Nat → Option Nat} {x1 : Int32} {Q : Option Value → q_H → Prop} (hg : q_Gr n ln dr)
    (k1 : q_EX q_KD m 33 0 [.ref 4] [] (n, sl, ln, di, dl, dr) (fun r1 h1 => q_EX q_KD (m + 1) 32 4 [.ref 4, .int x1] (r1.toList ++ []) h1 Q)) : q_EX q_KD (m + 1) 32 0 [.ref 4, .int x1] [] (n, sl, ln, di, dl, dr) Q := by
  refine (x_aload_n 0 i32_0 rfl ?_)
  exact (x_cv 1 (as := []) (rs := []) i32_1 rfl rfl rfl rfl (Nat.le_of_ble_eq_true rfl) (q_lt hg rfl) rfl (Or.inl rfl) (Nat.le_of_ble_eq_true rfl) rfl rfl k1)

set_option maxRecDepth 20000 in
theorem g32_4 {m n sl : Nat} {ln : Nat → Nat} {di : Nat → Nat → Int32} {dl : Nat → Nat → Int64} {dr : Nat → Nat → Option Nat} {x1 : Int32} {y0 : Int32} {Q : Option Value → q_H → Prop} (hg : q_Gr n ln dr)
    (k2 : (y0 = (0 : Int32)) → False)
    (k3 : (¬ y0 = (0 : Int32)) → q_EX q_KD m 34 0 [.ref 5, .int x1] [] (n, sl, ln, di, dl, dr) (fun r1 h1 => q_EX q_KD (m + 1) 32 15 [.retAddr 0, .retAddr 0] (r1.toList ++ []) h1 Q)) : q_EX q_KD (m + 1) 32 4 [.ref 4, .int x1] [.int y0] (n, sl, ln, di, dl, dr) Q := by
  refine (x_if_eq 4 16 i32_4 rfl (fun c1 => ?_) (fun c1 => ?_))
  · refine (x_aload_n 16 i32_16 rfl ?_)
    refine (x_getSv 17 i32_17 rfl (q_lt hg rfl) rfl ?_)
    exact (x_iload_n 20 i32_20 rfl ((k2 c1)).elim)
  · refine (x_aload_n 7 i32_7 rfl ?_)
    refine (x_getSv 8 i32_8 rfl (q_lt hg rfl) rfl ?_)
    refine (x_iload_n 11 i32_11 rfl ?_)
    refine (xx_loc (ls := [.retAddr 0, .retAddr 0]) (ls' := [.ref 4, .int x1]) ⟨Or.inr rfl, Or.inr rfl, trivial⟩ ?_)
    exact (x_cs 12 (as := [.ref 5, .int x1]) (rs := []) i32_12 rfl rfl rfl rfl (Nat.le_of_ble_eq_true rfl) (Nat.le_of_ble_eq_true rfl) rfl rfl (k3 c1))

set_option maxRecDepth 20000 in
theorem g32_15 {d n sl : Nat} {ln : Nat → Nat} {di : Nat → Nat → Int32} {dl : Nat → Nat → Int64} {dr : Nat → Nat → Option Nat} {y0 : Int32} {Q : Option Value → q_H → Prop} (hg : q_Gr n ln dr)
    (s1 : narrow .char (.int y0) = .int y0)
    (k2 : Q (some (.int y0)) (n, sl, ln, di, dl, dr)) : q_EX q_KD d 32 15 [.retAddr 0, .retAddr 0] [.int y0] (n, sl, ln, di, dl, dr) Q := by
  exact (x_iret 15 i32_15 rfl s1 k2)

/-! java/lang/String.isLatin1 -/
set_option maxRecDepth 20000 in
theorem g33_0 {d n sl : Nat} {ln : Nat → Nat} {di : Nat → Nat → Int32} {dl : Nat → Nat → Int64} {dr : Nat → Nat → Option Nat} {Q : Option Value → q_H → Prop} (hg : q_Gr n ln dr)
    (k2 : ((1 : Int32) = (0 : Int32)) → Q (some (.int 0)) (n, sl, ln, di, dl, dr))
    (k4 : (¬ (1 : Int32) = (0 : Int32)) → (¬ (0 : Int32) = (0 : Int32)) → Q (some (.int 0)) (n, sl, ln, di, dl, dr))
    (k5 : (¬ (1 : Int32) = (0 : Int32)) → ((0 : Int32) = (0 : Int32)) → Q (some (.int 1)) (n, sl, ln, di, dl, dr)) : q_EX q_KD d 33 0 [.ref 4] [] (n, sl, ln, di, dl, dr) Q := by
  refine (x_gsI 0 i33_0 rfl ?_)
  refine (x_if_eq 3 17 i33_3 rfl (fun c1 => ?_) (fun c1 => ?_))
  · refine (x_iconst 17 0 i33_17 rfl ?_)
    exact (x_iret0 18 i33_18 rfl (k2 c1))
  · refine (x_aload_n 6 i33_6 rfl ?_)
    refine (x_getSc 7 i33_7 rfl (q_lt hg rfl) rfl ?_)
    refine (x_if_ne 10 17 i33_10 rfl (fun c3 => ?_) (fun c3 => ?_))
    · refine (x_iconst 17 0 i33_17 rfl ?_)
      exact (x_iret0 18 i33_18 rfl (k4 c1 c3))
    · refine (x_iconst 13 1 i33_13 rfl ?_)
      refine (x_goto 14 18 i33_14 rfl ?_)
      exact (x_iret1 18 i33_18 rfl (k5 c1 c3))

/-! java/lang/StringLatin1.charAt -/
set_option maxRecDepth 20000 in
theorem g34_0 {m n sl : Nat} {ln : Nat → Nat} {di : Nat → Nat → Int32} {dl : Nat → Nat → Int64} {dr : Nat → Nat → Option Nat} {x1 : Int32} {Q : Option Value → q_H → Prop} (hg : q_Gr n ln dr)
    (k1 : q_EX q_KD m 35 0 [.int x1, .int 134] [] (n, sl, ln, di, dl, dr) (fun r1 h1 => q_EX q_KD (m + 1) 34 6 [.ref 5, .int x1] (r1.toList ++ []) h1 Q)) : q_EX q_KD (m + 1) 34 0 [.ref 5, .int x1] [] (n, sl, ln, di, dl, dr) Q := by
  refine (x_iload_n 0 i34_0 rfl ?_)
  refine (x_aload_n 1 i34_1 rfl ?_)
  refine (x_alen 2 134 i34_2 (by decide) (by decide) (q_lt hg rfl) (q_lenE (hg.2.1 5 134 rfl) rfl) ?_)
  exact (x_cs 3 (as := [.int x1, .int 134]) (rs := []) i34_3 rfl rfl rfl rfl (Nat.le_of_ble_eq_true rfl) (Nat.le_of_ble_eq_true rfl) rfl rfl k1)

set_option maxRecDepth 20000 in
theorem g34_6 {d n sl : Nat} {ln : Nat → Nat} {di : Nat → Nat → Int32} {dl : Nat → Nat → Int64} {dr : Nat → Nat → Option Nat} {x1 : Int32} {Q : Option Value → q_H → Prop} (hg : q_Gr n ln dr)
    (s1 : vp_in x1 134)
    (s2 : narrow .char (.int ((((di 5 x1.toNatClampNeg) &&& (255 : Int32)).toUInt32 % 65536).toInt32)) = .int ((((di 5 x1.toNatClampNeg) &&& (255 : Int32)).toUInt32 % 65536).toInt32))
    (k3 : Q (some (.int ((((di 5 x1.toNatClampNeg) &&& (255 : Int32)).toUInt32 % 65536).toInt32))) (n, sl, ln, di, dl, dr)) : q_EX q_KD d 34 6 [.ref 5, .int x1] [] (n, sl, ln, di, dl, dr) Q := by
  refine (x_aload_n 6 i34_6 rfl ?_)
  refine (x_iload_n 7 i34_7 rfl ?_)
  refine (x_baload 8 (di 5 x1.toNatClampNeg) i34_8 (Or.inl rfl) (q_lt hg rfl) (q_inE (hg.2.1 5 134 rfl) s1) rfl ?_)
  refine (x_sipush 9 255 i34_9 rfl ?_)
  refine (x_iand 12 i34_12 ?_)
  refine (x_i2c 13 i34_13 ?_)
  exact (x_iret 14 i34_14 rfl s2 k3)

/-! java/lang/String.checkIndex -/
set_option maxRecDepth 20000 in
theorem g35_0 {m n sl : Nat} {ln : Nat → Nat} {di : Nat → Nat → Int32} {dl : Nat → Nat → Int64} {dr : Nat → Nat → Option Nat} {x0 : Int32} {x1 : Int32} {Q : Option Value → q_H → Prop} (hg : q_Gr n ln dr)
    (k1 : q_EX q_KD m 36 0 [.int x0, .int x1, .retAddr 7] [] (n, sl, ln, di, dl, dr) (fun r1 h1 => q_EX q_KD (m + 1) 35 8 [.retAddr 0, .retAddr 0] (r1.toList ++ []) h1 Q)) : q_EX q_KD (m + 1) 35 0 [.int x0, .int x1] [] (n, sl, ln, di, dl, dr) Q := by
  refine (x_iload_n 0 i35_0 rfl ?_)
  refine (x_iload_n 1 i35_1 rfl ?_)
  refine (x_gsF 2 i35_2 rfl ?_)
  refine (xx_loc (ls := [.retAddr 0, .retAddr 0]) (ls' := [.int x0, .int x1]) ⟨Or.inr rfl, Or.inr rfl, trivial⟩ ?_)
  exact (x_cs 5 (as := [.int x0, .int x1, .retAddr 7]) (rs := []) i35_5 rfl rfl rfl rfl (Nat.le_of_ble_eq_true rfl) (Nat.le_of_ble_eq_true rfl) rfl rfl k1)

set_option maxRecDepth 20000 in
theorem g35_8 {d n sl : Nat} {ln : Nat → Nat} {di : Nat → Nat → Int32} {dl : Nat → Nat → Int64} {dr : Nat → Nat → Option Nat} {y0 : Int32} {Q : Option Value → q_H → Prop} (hg : q_Gr n ln dr)
    (k1 : Q none (n, sl, ln, di, dl, dr)) : q_EX q_KD d 35 8 [.retAddr 0, .retAddr 0] [.int y0] (n, sl, ln, di, dl, dr) Q := by
  refine (x_pop 8 i35_8 rfl ?_)
  exact (x_vret 9 i35_9 rfl k1)

/-! jdk/internal/util/Preconditions.checkIndex -/
set_option maxRecDepth 20000 in
theorem g36_0 {d n sl : Nat} {ln : Nat → Nat} {di : Nat → Nat → Int32} {dl : Nat → Nat → Int64} {dr : Nat → Nat → Option Nat} {x0 : Int32} {x1 : Int32} {Q : Option Value → q_H → Prop} (hg : q_Gr n ln dr)
    (k2 : (x0 < (0 : Int32)) → False)
    (k4 : ((0 : Int32) ≤ x0) → (x0 < x1) → Q (some (.int x0)) (n, sl, ln, di, dl, dr))
    (k5 : ((0 : Int32) ≤ x0) → (x1 ≤ x0) → False) : q_EX q_KD d 36 0 [.int x0, .int x1, .retAddr 7] [] (n, sl, ln, di, dl, dr) Q := by
  refine (x_iload_n 0 i36_0 rfl ?_)
  refine (x_if_lt 1 9 i36_1 rfl (fun c1 => ((k2 c1)).elim) (fun c1 => ?_))
  refine (x_iload_n 4 i36_4 rfl ?_)
  refine (x_iload_n 5 i36_5 rfl ?_)
  refine (x_icmp_lt 6 16 i36_6 rfl (fun c3 => ?_) (fun c3 => ((k5 c1 c3)).elim))
  refine (x_iload_n 16 i36_16 rfl ?_)
  exact (x_iretI 17 i36_17 rfl (k4 c1 c3))

/-! SilentHouse$Tokens.number -/
set_option maxRecDepth 20000 in
theorem g37_0 {d n sl : Nat} {ln : Nat → Nat} {di : Nat → Nat → Int32} {dl : Nat → Nat → Int64} {dr : Nat → Nat → Option Nat} {x1 : Int32} {x2 : Int32} {Q : Option Value → q_H → Prop} (hg : q_Gr n ln dr)
    (k1 : q_EX q_KD d 37 5 [.ref 40, .retAddr 0, .int x2, .int 0, .int x1] [] (n, sl, ln, di, dl, dr) Q) : q_EX q_KD d 37 0 [.ref 40, .int x1, .int x2, .retAddr 0, .retAddr 0] [] (n, sl, ln, di, dl, dr) Q := by
  refine (x_iconst 0 0 i37_0 rfl ?_)
  refine (x_istore_n 1 (ls2 := [.ref 40, .int x1, .int x2, .int 0, .retAddr 0]) i37_1 (Nat.le_of_ble_eq_true rfl) rfl ?_)
  refine (x_iload_n 2 i37_2 rfl ?_)
  refine (x_istore 3 (ls2 := [.ref 40, .int x1, .int x2, .int 0, .int x1]) i37_3 (Nat.le_of_ble_eq_true rfl) rfl ?_)
  exact (xx_loc (ls := [.ref 40, .retAddr 0, .int x2, .int 0, .int x1]) (ls' := [.ref 40, .int x1, .int x2, .int 0, .int x1]) ⟨Or.inl rfl, Or.inr rfl, Or.inl rfl, Or.inl rfl, Or.inl rfl, trivial⟩ k1)

set_option maxRecDepth 20000 in
theorem g37_5 {m n sl : Nat} {ln : Nat → Nat} {di : Nat → Nat → Int32} {dl : Nat → Nat → Int64} {dr : Nat → Nat → Option Nat} {x2 : Int32} {x3 : Int32} {x4 : Int32} {Q : Option Value → q_H → Prop} (hg : q_Gr n ln dr)
    (k2 : (x2 ≤ x4) → Q (some (.int x3)) (n, sl, ln, di, dl, dr))
    (k3 : (x4 < x2) → q_EX q_KD m 24 0 [.ref 40, .int x4] [] (n, sl, ln, di, dl, dr) (fun r1 h1 => q_EX q_KD (m + 1) 37 21 [.ref 40, .retAddr 0, .int x2, .retAddr 0, .int x4] (r1.toList ++ [.int (x3 * (10 : Int32))]) h1 Q)) : q_EX q_KD (m + 1) 37 5 [.ref 40, .retAddr 0, .int x2, .int x3, .int x4] [] (n, sl, ln, di, dl, dr) Q := by
  refine (x_iload 5 i37_5 rfl ?_)
  refine (x_iload_n 7 i37_7 rfl ?_)
  refine (x_icmp_ge 8 38 i37_8 rfl (fun c1 => ?_) (fun c1 => ?_))
  · refine (x_iload_n 38 i37_38 rfl ?_)
    exact (x_iretI 39 i37_39 rfl (k2 c1))
  · refine (x_iload_n 11 i37_11 rfl ?_)
    refine (x_bipush 12 10 i37_12 rfl ?_)
    refine (x_imul 14 i37_14 ?_)
    refine (x_aload_n 15 i37_15 rfl ?_)
    refine (x_iload 16 i37_16 rfl ?_)
    refine (xx_loc (ls := [.ref 40, .retAddr 0, .int x2, .retAddr 0, .int x4]) (ls' := [.ref 40, .retAddr 0, .int x2, .int x3, .int x4]) ⟨Or.inl rfl, Or.inl rfl, Or.inl rfl, Or.inr rfl, Or.inl rfl, trivial⟩ ?_)
    exact (x_cv 18 (as := [.int x4]) (rs := [.int (x3 * (10 : Int32))]) i37_18 rfl rfl rfl rfl (Nat.le_of_ble_eq_true rfl) (q_lt hg rfl) rfl (Or.inr (Nat.le_of_ble_eq_true rfl)) (Nat.le_of_ble_eq_true rfl) rfl rfl (k3 c1))

set_option maxRecDepth 20000 in
theorem g37_21 {d n sl : Nat} {ln : Nat → Nat} {di : Nat → Nat → Int32} {dl : Nat → Nat → Int64} {dr : Nat → Nat → Option Nat} {x2 : Int32} {x4 : Int32} {y0 : Int32} {y1 : Int32} {Q : Option Value → q_H → Prop} (hg : q_Gr n ln dr)
    (k1 : q_EX q_KD d 37 5 [.ref 40, .retAddr 0, .int x2, .int (if (10000 : Int32) < ((y1 + y0) - (48 : Int32)) then (10000 : Int32) else ((y1 + y0) - (48 : Int32))), .int (x4 + 1)] [] (n, sl, ln, di, dl, dr) Q) : q_EX q_KD d 37 21 [.ref 40, .retAddr 0, .int x2, .retAddr 0, .int x4] [.int y0, .int y1] (n, sl, ln, di, dl, dr) Q := by
  refine (x_iadd 21 i37_21 ?_)
  refine (x_bipush 22 48 i37_22 rfl ?_)
  refine (x_isub 24 i37_24 ?_)
  refine (x_sipush 25 10000 i37_25 rfl ?_)
  refine (x_min 28 i37_28 rfl (Nat.le_of_ble_eq_true rfl) ?_)
  refine (x_istore_n 31 (ls2 := [.ref 40, .retAddr 0, .int x2, .int (if (10000 : Int32) < ((y1 + y0) - (48 : Int32)) then (10000 : Int32) else ((y1 + y0) - (48 : Int32))), .int x4]) i37_31 (Nat.le_of_ble_eq_true rfl) rfl ?_)
  refine (x_iinc 32 (x4 + 1) (ls2 := [.ref 40, .retAddr 0, .int x2, .int (if (10000 : Int32) < ((y1 + y0) - (48 : Int32)) then (10000 : Int32) else ((y1 + y0) - (48 : Int32))), .int (x4 + 1)]) i37_32 rfl (Nat.le_of_ble_eq_true rfl) rfl rfl ?_)
  exact (x_goto 35 5 i37_35 rfl k1)

/-! SilentHouse$Tokens.signs -/
set_option maxRecDepth 20000 in
theorem g38_0 {d n sl : Nat} {ln : Nat → Nat} {di : Nat → Nat → Int32} {dl : Nat → Nat → Int64} {dr : Nat → Nat → Option Nat} {x0 : Int32} {x1 : Int32} {Q : Option Value → q_H → Prop} (hg : q_Gr n ln dr)
    (k2 : (x0 = 35) → Q (some (.int x0)) (n, sl, ln, di, dl, dr))
    (k3 : (x0 = 36) → Q (some (.int 132)) (n, sl, ln, di, dl, dr))
    (k4 : (x0 = 37) → Q (some (.int 132)) (n, sl, ln, di, dl, dr))
    (k5 : (x0 = 38) → Q (some (.int 132)) (n, sl, ln, di, dl, dr))
    (k6 : (x0 = 39) → Q (some (.int 132)) (n, sl, ln, di, dl, dr))
    (k7 : (x0 = 40) → Q (some (.int x0)) (n, sl, ln, di, dl, dr))
    (k8 : (x0 = 41) → Q (some (.int x0)) (n, sl, ln, di, dl, dr))
    (k9 : (x0 = 42) → Q (some (.int x0)) (n, sl, ln, di, dl, dr))
    (k10 : (x0 = 43) → Q (some (.int x0)) (n, sl, ln, di, dl, dr))
    (k11 : (x0 = 44) → Q (some (.int 132)) (n, sl, ln, di, dl, dr))
    (k12 : (x0 = 45) → Q (some (.int x0)) (n, sl, ln, di, dl, dr))
    (k13 : (x0 = 46) → Q (some (.int 132)) (n, sl, ln, di, dl, dr))
    (k14 : (x0 = 47) → Q (some (.int x0)) (n, sl, ln, di, dl, dr))
    (k15 : (x0 = 48) → Q (some (.int 132)) (n, sl, ln, di, dl, dr))
    (k16 : (x0 = 49) → Q (some (.int 132)) (n, sl, ln, di, dl, dr))
    (k17 : (x0 = 50) → Q (some (.int 132)) (n, sl, ln, di, dl, dr))
    (k18 : (x0 = 51) → Q (some (.int 132)) (n, sl, ln, di, dl, dr))
    (k19 : (x0 = 52) → Q (some (.int 132)) (n, sl, ln, di, dl, dr))
    (k20 : (x0 = 53) → Q (some (.int 132)) (n, sl, ln, di, dl, dr))
    (k21 : (x0 = 54) → Q (some (.int 132)) (n, sl, ln, di, dl, dr))
    (k22 : (x0 = 55) → Q (some (.int 132)) (n, sl, ln, di, dl, dr))
    (k23 : (x0 = 56) → Q (some (.int 132)) (n, sl, ln, di, dl, dr))
    (k24 : (x0 = 57) → Q (some (.int 132)) (n, sl, ln, di, dl, dr))
    (k25 : (x0 = 58) → Q (some (.int 132)) (n, sl, ln, di, dl, dr))
    (k26 : (x0 = 59) → Q (some (.int x0)) (n, sl, ln, di, dl, dr))
    (k28 : (x0 = 60) → (¬ x1 = (61 : Int32)) → Q (some (.int x0)) (n, sl, ln, di, dl, dr))
    (k29 : (x0 = 60) → (x1 = (61 : Int32)) → Q (some (.int 128)) (n, sl, ln, di, dl, dr))
    (k30 : (x0 = 61) → Q (some (.int x0)) (n, sl, ln, di, dl, dr))
    (k32 : (x0 = 62) → (¬ x1 = (61 : Int32)) → Q (some (.int x0)) (n, sl, ln, di, dl, dr))
    (k33 : (x0 = 62) → (x1 = (61 : Int32)) → Q (some (.int 129)) (n, sl, ln, di, dl, dr))
    (k62 : (¬ x0 = 35) → (¬ x0 = 36) → (¬ x0 = 37) → (¬ x0 = 38) → (¬ x0 = 39) → (¬ x0 = 40) → (¬ x0 = 41) → (¬ x0 = 42) → (¬ x0 = 43) → (¬ x0 = 44) → (¬ x0 = 45) → (¬ x0 = 46) → (¬ x0 = 47) → (¬ x0 = 48) → (¬ x0 = 49) → (¬ x0 = 50) → (¬ x0 = 51) → (¬ x0 = 52) → (¬ x0 = 53) → (¬ x0 = 54) → (¬ x0 = 55) → (¬ x0 = 56) → (¬ x0 = 57) → (¬ x0 = 58) → (¬ x0 = 59) → (¬ x0 = 60) → (¬ x0 = 61) → (¬ x0 = 62) → Q (some (.int 132)) (n, sl, ln, di, dl, dr)) : q_EX q_KD d 38 0 [.int x0, .int x1] [] (n, sl, ln, di, dl, dr) Q := by
  refine (x_iload_n 0 i38_0 rfl ?_)
  exact (by
      by_cases hq : (x0).toInt < 35 ∨ 62 < (x0).toInt
      · exact x_tsw 1 158 rfl (Or.inl ⟨hq, rfl⟩) rfl ((fun c34 c35 c36 c37 c38 c39 c40 c41 c42 c43 c44 c45 c46 c47 c48 c49 c50 c51 c52 c53 c54 c55 c56 c57 c58 c59 c60 c61 => (x_sipush 158 132 i38_158 rfl (x_iretI 161 i38_161 rfl (k62 c34 c35 c36 c37 c38 c39 c40 c41 c42 c43 c44 c45 c46 c47 c48 c49 c50 c51 c52 c53 c54 c55 c56 c57 c58 c59 c60 c61)))) (fun e => by rw [e] at hq; revert hq; decide) (fun e => by rw [e] at hq; revert hq; decide) (fun e => by rw [e] at hq; revert hq; decide) (fun e => by rw [e] at hq; revert hq; decide) (fun e => by rw [e] at hq; revert hq; decide) (fun e => by rw [e] at hq; revert hq; decide) (fun e => by rw [e] at hq; revert hq; decide) (fun e => by rw [e] at hq; revert hq; decide) (fun e => by rw [e] at hq; revert hq; decide) (fun e => by rw [e] at hq; revert hq; decide) (fun e => by rw [e] at hq; revert hq; decide) (fun e => by rw [e] at hq; revert hq; decide) (fun e => by rw [e] at hq; revert hq; decide) (fun e => by rw [e] at hq; revert hq; decide) (fun e => by rw [e] at hq; revert hq; decide) (fun e => by rw [e] at hq; revert hq; decide) (fun e => by rw [e] at hq; revert hq; decide) (fun e => by rw [e] at hq; revert hq; decide) (fun e => by rw [e] at hq; revert hq; decide) (fun e => by rw [e] at hq; revert hq; decide) (fun e => by rw [e] at hq; revert hq; decide) (fun e => by rw [e] at hq; revert hq; decide) (fun e => by rw [e] at hq; revert hq; decide) (fun e => by rw [e] at hq; revert hq; decide) (fun e => by rw [e] at hq; revert hq; decide) (fun e => by rw [e] at hq; revert hq; decide) (fun e => by rw [e] at hq; revert hq; decide) (fun e => by rw [e] at hq; revert hq; decide))
      · have hv : (x0).toInt = 35 ∨ (x0).toInt = 36 ∨ (x0).toInt = 37 ∨ (x0).toInt = 38 ∨ (x0).toInt = 39 ∨ (x0).toInt = 40 ∨ (x0).toInt = 41 ∨ (x0).toInt = 42 ∨ (x0).toInt = 43 ∨ (x0).toInt = 44 ∨ (x0).toInt = 45 ∨ (x0).toInt = 46 ∨ (x0).toInt = 47 ∨ (x0).toInt = 48 ∨ (x0).toInt = 49 ∨ (x0).toInt = 50 ∨ (x0).toInt = 51 ∨ (x0).toInt = 52 ∨ (x0).toInt = 53 ∨ (x0).toInt = 54 ∨ (x0).toInt = 55 ∨ (x0).toInt = 56 ∨ (x0).toInt = 57 ∨ (x0).toInt = 58 ∨ (x0).toInt = 59 ∨ (x0).toInt = 60 ∨ (x0).toInt = 61 ∨ (x0).toInt = 62 := by omega
        rcases hv with hv | hv | hv | hv | hv | hv | hv | hv | hv | hv | hv | hv | hv | hv | hv | hv | hv | hv | hv | hv | hv | hv | hv | hv | hv | hv | hv | hv
        · exact x_tsw 1 (off := 155) 156 rfl (Or.inr ⟨by rw [hv]; decide, by rw [hv]; decide, by rw [hv]; decide +kernel⟩) rfl ((fun c1 => (x_iload_n 156 i38_156 rfl (x_iretI 157 i38_157 rfl (k2 c1)))) (q_ofI hv rfl))
        · exact x_tsw 1 (off := 157) 158 rfl (Or.inr ⟨by rw [hv]; decide, by rw [hv]; decide, by rw [hv]; decide +kernel⟩) rfl ((fun c1 => (x_sipush 158 132 i38_158 rfl (x_iretI 161 i38_161 rfl (k3 c1)))) (q_ofI hv rfl))
        · exact x_tsw 1 (off := 157) 158 rfl (Or.inr ⟨by rw [hv]; decide, by rw [hv]; decide, by rw [hv]; decide +kernel⟩) rfl ((fun c1 => (x_sipush 158 132 i38_158 rfl (x_iretI 161 i38_161 rfl (k4 c1)))) (q_ofI hv rfl))
        · exact x_tsw 1 (off := 157) 158 rfl (Or.inr ⟨by rw [hv]; decide, by rw [hv]; decide, by rw [hv]; decide +kernel⟩) rfl ((fun c1 => (x_sipush 158 132 i38_158 rfl (x_iretI 161 i38_161 rfl (k5 c1)))) (q_ofI hv rfl))
        · exact x_tsw 1 (off := 157) 158 rfl (Or.inr ⟨by rw [hv]; decide, by rw [hv]; decide, by rw [hv]; decide +kernel⟩) rfl ((fun c1 => (x_sipush 158 132 i38_158 rfl (x_iretI 161 i38_161 rfl (k6 c1)))) (q_ofI hv rfl))
        · exact x_tsw 1 (off := 155) 156 rfl (Or.inr ⟨by rw [hv]; decide, by rw [hv]; decide, by rw [hv]; decide +kernel⟩) rfl ((fun c1 => (x_iload_n 156 i38_156 rfl (x_iretI 157 i38_157 rfl (k7 c1)))) (q_ofI hv rfl))
        · exact x_tsw 1 (off := 155) 156 rfl (Or.inr ⟨by rw [hv]; decide, by rw [hv]; decide, by rw [hv]; decide +kernel⟩) rfl ((fun c1 => (x_iload_n 156 i38_156 rfl (x_iretI 157 i38_157 rfl (k8 c1)))) (q_ofI hv rfl))
        · exact x_tsw 1 (off := 155) 156 rfl (Or.inr ⟨by rw [hv]; decide, by rw [hv]; decide, by rw [hv]; decide +kernel⟩) rfl ((fun c1 => (x_iload_n 156 i38_156 rfl (x_iretI 157 i38_157 rfl (k9 c1)))) (q_ofI hv rfl))
        · exact x_tsw 1 (off := 155) 156 rfl (Or.inr ⟨by rw [hv]; decide, by rw [hv]; decide, by rw [hv]; decide +kernel⟩) rfl ((fun c1 => (x_iload_n 156 i38_156 rfl (x_iretI 157 i38_157 rfl (k10 c1)))) (q_ofI hv rfl))
        · exact x_tsw 1 (off := 157) 158 rfl (Or.inr ⟨by rw [hv]; decide, by rw [hv]; decide, by rw [hv]; decide +kernel⟩) rfl ((fun c1 => (x_sipush 158 132 i38_158 rfl (x_iretI 161 i38_161 rfl (k11 c1)))) (q_ofI hv rfl))
        · exact x_tsw 1 (off := 155) 156 rfl (Or.inr ⟨by rw [hv]; decide, by rw [hv]; decide, by rw [hv]; decide +kernel⟩) rfl ((fun c1 => (x_iload_n 156 i38_156 rfl (x_iretI 157 i38_157 rfl (k12 c1)))) (q_ofI hv rfl))
        · exact x_tsw 1 (off := 157) 158 rfl (Or.inr ⟨by rw [hv]; decide, by rw [hv]; decide, by rw [hv]; decide +kernel⟩) rfl ((fun c1 => (x_sipush 158 132 i38_158 rfl (x_iretI 161 i38_161 rfl (k13 c1)))) (q_ofI hv rfl))
        · exact x_tsw 1 (off := 155) 156 rfl (Or.inr ⟨by rw [hv]; decide, by rw [hv]; decide, by rw [hv]; decide +kernel⟩) rfl ((fun c1 => (x_iload_n 156 i38_156 rfl (x_iretI 157 i38_157 rfl (k14 c1)))) (q_ofI hv rfl))
        · exact x_tsw 1 (off := 157) 158 rfl (Or.inr ⟨by rw [hv]; decide, by rw [hv]; decide, by rw [hv]; decide +kernel⟩) rfl ((fun c1 => (x_sipush 158 132 i38_158 rfl (x_iretI 161 i38_161 rfl (k15 c1)))) (q_ofI hv rfl))
        · exact x_tsw 1 (off := 157) 158 rfl (Or.inr ⟨by rw [hv]; decide, by rw [hv]; decide, by rw [hv]; decide +kernel⟩) rfl ((fun c1 => (x_sipush 158 132 i38_158 rfl (x_iretI 161 i38_161 rfl (k16 c1)))) (q_ofI hv rfl))
        · exact x_tsw 1 (off := 157) 158 rfl (Or.inr ⟨by rw [hv]; decide, by rw [hv]; decide, by rw [hv]; decide +kernel⟩) rfl ((fun c1 => (x_sipush 158 132 i38_158 rfl (x_iretI 161 i38_161 rfl (k17 c1)))) (q_ofI hv rfl))
        · exact x_tsw 1 (off := 157) 158 rfl (Or.inr ⟨by rw [hv]; decide, by rw [hv]; decide, by rw [hv]; decide +kernel⟩) rfl ((fun c1 => (x_sipush 158 132 i38_158 rfl (x_iretI 161 i38_161 rfl (k18 c1)))) (q_ofI hv rfl))
        · exact x_tsw 1 (off := 157) 158 rfl (Or.inr ⟨by rw [hv]; decide, by rw [hv]; decide, by rw [hv]; decide +kernel⟩) rfl ((fun c1 => (x_sipush 158 132 i38_158 rfl (x_iretI 161 i38_161 rfl (k19 c1)))) (q_ofI hv rfl))
        · exact x_tsw 1 (off := 157) 158 rfl (Or.inr ⟨by rw [hv]; decide, by rw [hv]; decide, by rw [hv]; decide +kernel⟩) rfl ((fun c1 => (x_sipush 158 132 i38_158 rfl (x_iretI 161 i38_161 rfl (k20 c1)))) (q_ofI hv rfl))
        · exact x_tsw 1 (off := 157) 158 rfl (Or.inr ⟨by rw [hv]; decide, by rw [hv]; decide, by rw [hv]; decide +kernel⟩) rfl ((fun c1 => (x_sipush 158 132 i38_158 rfl (x_iretI 161 i38_161 rfl (k21 c1)))) (q_ofI hv rfl))
        · exact x_tsw 1 (off := 157) 158 rfl (Or.inr ⟨by rw [hv]; decide, by rw [hv]; decide, by rw [hv]; decide +kernel⟩) rfl ((fun c1 => (x_sipush 158 132 i38_158 rfl (x_iretI 161 i38_161 rfl (k22 c1)))) (q_ofI hv rfl))
        · exact x_tsw 1 (off := 157) 158 rfl (Or.inr ⟨by rw [hv]; decide, by rw [hv]; decide, by rw [hv]; decide +kernel⟩) rfl ((fun c1 => (x_sipush 158 132 i38_158 rfl (x_iretI 161 i38_161 rfl (k23 c1)))) (q_ofI hv rfl))
        · exact x_tsw 1 (off := 157) 158 rfl (Or.inr ⟨by rw [hv]; decide, by rw [hv]; decide, by rw [hv]; decide +kernel⟩) rfl ((fun c1 => (x_sipush 158 132 i38_158 rfl (x_iretI 161 i38_161 rfl (k24 c1)))) (q_ofI hv rfl))
        · exact x_tsw 1 (off := 157) 158 rfl (Or.inr ⟨by rw [hv]; decide, by rw [hv]; decide, by rw [hv]; decide +kernel⟩) rfl ((fun c1 => (x_sipush 158 132 i38_158 rfl (x_iretI 161 i38_161 rfl (k25 c1)))) (q_ofI hv rfl))
        · exact x_tsw 1 (off := 155) 156 rfl (Or.inr ⟨by rw [hv]; decide, by rw [hv]; decide, by rw [hv]; decide +kernel⟩) rfl ((fun c1 => (x_iload_n 156 i38_156 rfl (x_iretI 157 i38_157 rfl (k26 c1)))) (q_ofI hv rfl))
        · exact x_tsw 1 (off := 127) 128 rfl (Or.inr ⟨by rw [hv]; decide, by rw [hv]; decide, by rw [hv]; decide +kernel⟩) rfl ((fun c1 => (x_iload_n 128 i38_128 rfl (x_bipush 129 61 i38_129 rfl (x_icmp_ne 131 140 i38_131 rfl (fun c27 => (x_iload_n 140 i38_140 rfl (x_iretI 141 i38_141 rfl (k28 c1 c27)))) (fun c27 => (x_sipush 134 128 i38_134 rfl (x_goto 137 141 i38_137 rfl (x_iretI 141 i38_141 rfl (k29 c1 c27))))))))) (q_ofI hv rfl))
        · exact x_tsw 1 (off := 155) 156 rfl (Or.inr ⟨by rw [hv]; decide, by rw [hv]; decide, by rw [hv]; decide +kernel⟩) rfl ((fun c1 => (x_iload_n 156 i38_156 rfl (x_iretI 157 i38_157 rfl (k30 c1)))) (q_ofI hv rfl))
        · exact x_tsw 1 (off := 141) 142 rfl (Or.inr ⟨by rw [hv]; decide, by rw [hv]; decide, by rw [hv]; decide +kernel⟩) rfl ((fun c1 => (x_iload_n 142 i38_142 rfl (x_bipush 143 61 i38_143 rfl (x_icmp_ne 145 154 i38_145 rfl (fun c31 => (x_iload_n 154 i38_154 rfl (x_iretI 155 i38_155 rfl (k32 c1 c31)))) (fun c31 => (x_sipush 148 129 i38_148 rfl (x_goto 151 155 i38_151 rfl (x_iretI 155 i38_155 rfl (k33 c1 c31))))))))) (q_ofI hv rfl)))

/-! SilentHouse$Reader.clause -/
set_option maxRecDepth 20000 in
theorem g39_0 {m n sl : Nat} {ln : Nat → Nat} {di : Nat → Nat → Int32} {dl : Nat → Nat → Int64} {dr : Nat → Nat → Option Nat} {Q : Option Value → q_H → Prop} (hg : q_Gr n ln dr)
    (k2 : (((di 39 8) - (200 : Int32)) < (14 : Int32)) → q_EX q_KD m 40 0 [.ref 39, .int 1] [] (n, sl, ln, di, dl, dr) (fun r1 h1 => q_EX q_KD (m + 1) 39 26 [.retAddr 0, .retAddr 0] (r1.toList ++ []) h1 Q))
    (s6 : ((14 : Int32) ≤ ((di 39 8) - (200 : Int32))) → (((di 39 8) - (200 : Int32)) ≤ (20 : Int32)) → ((16 : Int32) < ((di 39 8) - (200 : Int32))) → ((di 39 10) < (24 : Int32)) → vp_in (di 39 10) 24)
    (s7 : ((14 : Int32) ≤ ((di 39 8) - (200 : Int32))) → (((di 39 8) - (200 : Int32)) ≤ (20 : Int32)) → ((16 : Int32) < ((di 39 8) - (200 : Int32))) → ((di 39 10) < (24 : Int32)) → vp_in (di 39 10) 24)
    (s8 : ((14 : Int32) ≤ ((di 39 8) - (200 : Int32))) → (((di 39 8) - (200 : Int32)) ≤ (20 : Int32)) → ((16 : Int32) < ((di 39 8) - (200 : Int32))) → ((di 39 10) < (24 : Int32)) → vp_in (di 39 10) 24)
    (k9 : ((14 : Int32) ≤ ((di 39 8) - (200 : Int32))) → (((di 39 8) - (200 : Int32)) ≤ (20 : Int32)) → ((16 : Int32) < ((di 39 8) - (200 : Int32))) → ((di 39 10) < (24 : Int32)) → q_EX q_KD m 41 0 [.ref 39] [] (n, sl, ln, (q_u (q_u (q_u di 47 ((di 39 10).toNatClampNeg) ((di 39 8) - (200 : Int32))) 48 ((di 39 10).toNatClampNeg) (-1)) 49 ((di 39 10).toNatClampNeg) (-1)), dl, dr) (fun r1 h1 => q_EX q_KD (m + 1) 39 107 [.ref 39, .int ((di 39 8) - (200 : Int32))] (r1.toList ++ []) h1 Q))
    (k10 : ((14 : Int32) ≤ ((di 39 8) - (200 : Int32))) → (((di 39 8) - (200 : Int32)) ≤ (20 : Int32)) → ((16 : Int32) < ((di 39 8) - (200 : Int32))) → ((24 : Int32) ≤ (di 39 10)) → q_EX q_KD m 40 0 [.ref 39, .int 6] [] (n, sl, ln, di, dl, dr) (fun r1 h1 => q_EX q_KD (m + 1) 39 70 [.retAddr 0, .retAddr 0] (r1.toList ++ []) h1 Q))
    (s11 : ((14 : Int32) ≤ ((di 39 8) - (200 : Int32))) → (((di 39 8) - (200 : Int32)) ≤ (20 : Int32)) → (((di 39 8) - (200 : Int32)) ≤ (16 : Int32)) → vp_in (((di 39 8) - (200 : Int32)) - (14 : Int32)) 3)
    (s14 : ((14 : Int32) ≤ ((di 39 8) - (200 : Int32))) → (((di 39 8) - (200 : Int32)) ≤ (20 : Int32)) → (((di 39 8) - (200 : Int32)) ≤ (16 : Int32)) → ((di 46 ((((di 39 8) - (200 : Int32)) - (14 : Int32)).toNatClampNeg)) ≤ (0 : Int32)) → ((di 39 10) < (24 : Int32)) → vp_in (di 39 10) 24)
    (s15 : ((14 : Int32) ≤ ((di 39 8) - (200 : Int32))) → (((di 39 8) - (200 : Int32)) ≤ (20 : Int32)) → (((di 39 8) - (200 : Int32)) ≤ (16 : Int32)) → ((di 46 ((((di 39 8) - (200 : Int32)) - (14 : Int32)).toNatClampNeg)) ≤ (0 : Int32)) → ((di 39 10) < (24 : Int32)) → vp_in (di 39 10) 24)
    (s16 : ((14 : Int32) ≤ ((di 39 8) - (200 : Int32))) → (((di 39 8) - (200 : Int32)) ≤ (20 : Int32)) → (((di 39 8) - (200 : Int32)) ≤ (16 : Int32)) → ((di 46 ((((di 39 8) - (200 : Int32)) - (14 : Int32)).toNatClampNeg)) ≤ (0 : Int32)) → ((di 39 10) < (24 : Int32)) → vp_in (di 39 10) 24)
    (k17 : ((14 : Int32) ≤ ((di 39 8) - (200 : Int32))) → (((di 39 8) - (200 : Int32)) ≤ (20 : Int32)) → (((di 39 8) - (200 : Int32)) ≤ (16 : Int32)) → ((di 46 ((((di 39 8) - (200 : Int32)) - (14 : Int32)).toNatClampNeg)) ≤ (0 : Int32)) → ((di 39 10) < (24 : Int32)) → q_EX q_KD m 41 0 [.ref 39] [] (n, sl, ln, (q_u (q_u (q_u di 47 ((di 39 10).toNatClampNeg) ((di 39 8) - (200 : Int32))) 48 ((di 39 10).toNatClampNeg) (-1)) 49 ((di 39 10).toNatClampNeg) (-1)), dl, dr) (fun r1 h1 => q_EX q_KD (m + 1) 39 107 [.ref 39, .int ((di 39 8) - (200 : Int32))] (r1.toList ++ []) h1 Q))
    (k18 : ((14 : Int32) ≤ ((di 39 8) - (200 : Int32))) → (((di 39 8) - (200 : Int32)) ≤ (20 : Int32)) → (((di 39 8) - (200 : Int32)) ≤ (16 : Int32)) → ((di 46 ((((di 39 8) - (200 : Int32)) - (14 : Int32)).toNatClampNeg)) ≤ (0 : Int32)) → ((24 : Int32) ≤ (di 39 10)) → q_EX q_KD m 40 0 [.ref 39, .int 6] [] (n, sl, ln, di, dl, dr) (fun r1 h1 => q_EX q_KD (m + 1) 39 70 [.retAddr 0, .retAddr 0] (r1.toList ++ []) h1 Q))
    (k19 : ((14 : Int32) ≤ ((di 39 8) - (200 : Int32))) → (((di 39 8) - (200 : Int32)) ≤ (20 : Int32)) → (((di 39 8) - (200 : Int32)) ≤ (16 : Int32)) → ((0 : Int32) < (di 46 ((((di 39 8) - (200 : Int32)) - (14 : Int32)).toNatClampNeg))) → q_EX q_KD m 40 0 [.ref 39, .int 4] [] (n, sl, ln, di, dl, dr) (fun r1 h1 => q_EX q_KD (m + 1) 39 52 [.retAddr 0, .retAddr 0] (r1.toList ++ []) h1 Q))
    (k20 : ((14 : Int32) ≤ ((di 39 8) - (200 : Int32))) → ((20 : Int32) < ((di 39 8) - (200 : Int32))) → q_EX q_KD m 40 0 [.ref 39, .int 1] [] (n, sl, ln, di, dl, dr) (fun r1 h1 => q_EX q_KD (m + 1) 39 26 [.retAddr 0, .retAddr 0] (r1.toList ++ []) h1 Q)) : q_EX q_KD (m + 1) 39 0 [.ref 39, .retAddr 0] [] (n, sl, ln, di, dl, dr) Q := by
  refine (x_aload_n 0 i39_0 rfl ?_)
  refine (x_getI 1 8 (di 39 8) i39_1 rfl (q_lt hg rfl) (Nat.le_of_ble_eq_true rfl) (Or.inl rfl) rfl rfl ?_)
  refine (x_sipush 4 200 i39_4 rfl ?_)
  refine (x_isub 7 i39_7 ?_)
  refine (x_istore_n 8 (ls2 := [.ref 39, .int ((di 39 8) - (200 : Int32))]) i39_8 (Nat.le_of_ble_eq_true rfl) rfl ?_)
  refine (x_iload_n 9 i39_9 rfl ?_)
  refine (x_bipush 10 14 i39_10 rfl ?_)
  refine (x_icmp_lt 12 21 i39_12 rfl (fun c1 => ?_) (fun c1 => ?_))
  · refine (x_aload_n 21 i39_21 rfl ?_)
    refine (x_iconst 22 1 i39_22 rfl ?_)
    refine (xx_loc (ls := [.retAddr 0, .retAddr 0]) (ls' := [.ref 39, .int ((di 39 8) - (200 : Int32))]) ⟨Or.inr rfl, Or.inr rfl, trivial⟩ ?_)
    exact (x_cv 23 (as := [.int 1]) (rs := []) i39_23 rfl rfl rfl rfl (Nat.le_of_ble_eq_true rfl) (q_lt hg rfl) rfl (Or.inr (Nat.le_of_ble_eq_true rfl)) (Nat.le_of_ble_eq_true rfl) rfl rfl (k2 c1))
  · refine (x_iload_n 15 i39_15 rfl ?_)
    refine (x_bipush 16 20 i39_16 rfl ?_)
    refine (x_icmp_le 18 29 i39_18 rfl (fun c3 => ?_) (fun c3 => ?_))
    · refine (x_iload_n 29 i39_29 rfl ?_)
      refine (x_bipush 30 16 i39_30 rfl ?_)
      refine (x_icmp_gt 32 55 i39_32 rfl (fun c4 => ?_) (fun c4 => ?_))
      · refine (x_aload_n 55 i39_55 rfl ?_)
        refine (x_getI 56 10 (di 39 10) i39_56 rfl (q_lt hg rfl) (Nat.le_of_ble_eq_true rfl) (Or.inl rfl) rfl rfl ?_)
        refine (x_bipush 59 24 i39_59 rfl ?_)
        refine (x_icmp_lt 61 73 i39_61 rfl (fun c5 => ?_) (fun c5 => ?_))
        · refine (x_aload_n 73 i39_73 rfl ?_)
          refine (x_getR 74 47 i39_74 rfl (q_lt hg rfl) (Nat.le_of_ble_eq_true rfl) rfl (hg.2.2.1 39 4 47 rfl) ?_)
          refine (x_aload_n 77 i39_77 rfl ?_)
          refine (x_getI 78 10 (di 39 10) i39_78 rfl (q_lt hg rfl) (Nat.le_of_ble_eq_true rfl) (Or.inl rfl) rfl rfl ?_)
          refine (x_iload_n 81 i39_81 rfl ?_)
          refine (x_iastore 82 i39_82 rfl (Nat.le_of_ble_eq_true rfl) (q_lt hg rfl) (q_inE (hg.2.1 47 24 rfl) (s6 c1 c3 c4 c5)) ?_)
          refine (x_aload_n 83 i39_83 rfl ?_)
          refine (x_getR 84 48 i39_84 rfl (q_lt hg rfl) (Nat.le_of_ble_eq_true rfl) rfl (hg.2.2.1 39 5 48 rfl) ?_)
          refine (x_aload_n 87 i39_87 rfl ?_)
          refine (x_getI 88 10 (di 39 10) i39_88 rfl (q_lt hg rfl) (Nat.le_of_ble_eq_true rfl) (Or.inl rfl) rfl rfl ?_)
          refine (x_iconst 91 (-1) i39_91 rfl ?_)
          refine (x_iastore 92 i39_92 rfl (Nat.le_of_ble_eq_true rfl) (q_lt hg rfl) (q_inE (hg.2.1 48 24 rfl) (s7 c1 c3 c4 c5)) ?_)
          refine (x_aload_n 93 i39_93 rfl ?_)
          refine (x_getR 94 49 i39_94 rfl (q_lt hg rfl) (Nat.le_of_ble_eq_true rfl) rfl (hg.2.2.1 39 6 49 rfl) ?_)
          refine (x_aload_n 97 i39_97 rfl ?_)
          refine (x_getI 98 10 (di 39 10) i39_98 rfl (q_lt hg rfl) (Nat.le_of_ble_eq_true rfl) (Or.inl rfl) rfl rfl ?_)
          refine (x_iconst 101 (-1) i39_101 rfl ?_)
          refine (x_iastore 102 i39_102 rfl (Nat.le_of_ble_eq_true rfl) (q_lt hg rfl) (q_inE (hg.2.1 49 24 rfl) (s8 c1 c3 c4 c5)) ?_)
          refine (x_aload_n 103 i39_103 rfl ?_)
          exact (x_cv 104 (as := []) (rs := []) i39_104 rfl rfl rfl rfl (Nat.le_of_ble_eq_true rfl) (q_lt hg rfl) rfl (Or.inr (Nat.le_of_ble_eq_true rfl)) (Nat.le_of_ble_eq_true rfl) rfl rfl (k9 c1 c3 c4 c5))
        · refine (x_aload_n 64 i39_64 rfl ?_)
          refine (x_bipush 65 6 i39_65 rfl ?_)
          refine (xx_loc (ls := [.retAddr 0, .retAddr 0]) (ls' := [.ref 39, .int ((di 39 8) - (200 : Int32))]) ⟨Or.inr rfl, Or.inr rfl, trivial⟩ ?_)
          exact (x_cv 67 (as := [.int 6]) (rs := []) i39_67 rfl rfl rfl rfl (Nat.le_of_ble_eq_true rfl) (q_lt hg rfl) rfl (Or.inr (Nat.le_of_ble_eq_true rfl)) (Nat.le_of_ble_eq_true rfl) rfl rfl (k10 c1 c3 c4 c5))
      · refine (x_aload_n 35 i39_35 rfl ?_)
        refine (x_getR 36 46 i39_36 rfl (q_lt hg rfl) (Nat.le_of_ble_eq_true rfl) rfl (hg.2.2.1 39 3 46 rfl) ?_)
        refine (x_iload_n 39 i39_39 rfl ?_)
        refine (x_bipush 40 14 i39_40 rfl ?_)
        refine (x_isub 42 i39_42 ?_)
        refine (x_iaload 43 (di 46 ((((di 39 8) - (200 : Int32)) - (14 : Int32)).toNatClampNeg)) i39_43 rfl (q_lt hg rfl) (q_inE (hg.2.1 46 3 rfl) (s11 c1 c3 c4)) rfl ?_)
        refine (x_if_le 44 55 i39_44 rfl (fun c12 => ?_) (fun c12 => ?_))
        · refine (x_aload_n 55 i39_55 rfl ?_)
          refine (x_getI 56 10 (di 39 10) i39_56 rfl (q_lt hg rfl) (Nat.le_of_ble_eq_true rfl) (Or.inl rfl) rfl rfl ?_)
          refine (x_bipush 59 24 i39_59 rfl ?_)
          refine (x_icmp_lt 61 73 i39_61 rfl (fun c13 => ?_) (fun c13 => ?_))
          · refine (x_aload_n 73 i39_73 rfl ?_)
            refine (x_getR 74 47 i39_74 rfl (q_lt hg rfl) (Nat.le_of_ble_eq_true rfl) rfl (hg.2.2.1 39 4 47 rfl) ?_)
            refine (x_aload_n 77 i39_77 rfl ?_)
            refine (x_getI 78 10 (di 39 10) i39_78 rfl (q_lt hg rfl) (Nat.le_of_ble_eq_true rfl) (Or.inl rfl) rfl rfl ?_)
            refine (x_iload_n 81 i39_81 rfl ?_)
            refine (x_iastore 82 i39_82 rfl (Nat.le_of_ble_eq_true rfl) (q_lt hg rfl) (q_inE (hg.2.1 47 24 rfl) (s14 c1 c3 c4 c12 c13)) ?_)
            refine (x_aload_n 83 i39_83 rfl ?_)
            refine (x_getR 84 48 i39_84 rfl (q_lt hg rfl) (Nat.le_of_ble_eq_true rfl) rfl (hg.2.2.1 39 5 48 rfl) ?_)
            refine (x_aload_n 87 i39_87 rfl ?_)
            refine (x_getI 88 10 (di 39 10) i39_88 rfl (q_lt hg rfl) (Nat.le_of_ble_eq_true rfl) (Or.inl rfl) rfl rfl ?_)
            refine (x_iconst 91 (-1) i39_91 rfl ?_)
            refine (x_iastore 92 i39_92 rfl (Nat.le_of_ble_eq_true rfl) (q_lt hg rfl) (q_inE (hg.2.1 48 24 rfl) (s15 c1 c3 c4 c12 c13)) ?_)
            refine (x_aload_n 93 i39_93 rfl ?_)
            refine (x_getR 94 49 i39_94 rfl (q_lt hg rfl) (Nat.le_of_ble_eq_true rfl) rfl (hg.2.2.1 39 6 49 rfl) ?_)
            refine (x_aload_n 97 i39_97 rfl ?_)
            refine (x_getI 98 10 (di 39 10) i39_98 rfl (q_lt hg rfl) (Nat.le_of_ble_eq_true rfl) (Or.inl rfl) rfl rfl ?_)
            refine (x_iconst 101 (-1) i39_101 rfl ?_)
            refine (x_iastore 102 i39_102 rfl (Nat.le_of_ble_eq_true rfl) (q_lt hg rfl) (q_inE (hg.2.1 49 24 rfl) (s16 c1 c3 c4 c12 c13)) ?_)
            refine (x_aload_n 103 i39_103 rfl ?_)
            exact (x_cv 104 (as := []) (rs := []) i39_104 rfl rfl rfl rfl (Nat.le_of_ble_eq_true rfl) (q_lt hg rfl) rfl (Or.inr (Nat.le_of_ble_eq_true rfl)) (Nat.le_of_ble_eq_true rfl) rfl rfl (k17 c1 c3 c4 c12 c13))
          · refine (x_aload_n 64 i39_64 rfl ?_)
            refine (x_bipush 65 6 i39_65 rfl ?_)
            refine (xx_loc (ls := [.retAddr 0, .retAddr 0]) (ls' := [.ref 39, .int ((di 39 8) - (200 : Int32))]) ⟨Or.inr rfl, Or.inr rfl, trivial⟩ ?_)
            exact (x_cv 67 (as := [.int 6]) (rs := []) i39_67 rfl rfl rfl rfl (Nat.le_of_ble_eq_true rfl) (q_lt hg rfl) rfl (Or.inr (Nat.le_of_ble_eq_true rfl)) (Nat.le_of_ble_eq_true rfl) rfl rfl (k18 c1 c3 c4 c12 c13))
        · refine (x_aload_n 47 i39_47 rfl ?_)
          refine (x_iconst 48 4 i39_48 rfl ?_)
          refine (xx_loc (ls := [.retAddr 0, .retAddr 0]) (ls' := [.ref 39, .int ((di 39 8) - (200 : Int32))]) ⟨Or.inr rfl, Or.inr rfl, trivial⟩ ?_)
          exact (x_cv 49 (as := [.int 4]) (rs := []) i39_49 rfl rfl rfl rfl (Nat.le_of_ble_eq_true rfl) (q_lt hg rfl) rfl (Or.inr (Nat.le_of_ble_eq_true rfl)) (Nat.le_of_ble_eq_true rfl) rfl rfl (k19 c1 c3 c4 c12))
    · refine (x_aload_n 21 i39_21 rfl ?_)
      refine (x_iconst 22 1 i39_22 rfl ?_)
      refine (xx_loc (ls := [.retAddr 0, .retAddr 0]) (ls' := [.ref 39, .int ((di 39 8) - (200 : Int32))]) ⟨Or.inr rfl, Or.inr rfl, trivial⟩ ?_)
      exact (x_cv 23 (as := [.int 1]) (rs := []) i39_23 rfl rfl rfl rfl (Nat.le_of_ble_eq_true rfl) (q_lt hg rfl) rfl (Or.inr (Nat.le_of_ble_eq_true rfl)) (Nat.le_of_ble_eq_true rfl) rfl rfl (k20 c1 c3))

set_option maxRecDepth 20000 in
theorem g39_26 {d n sl : Nat} {ln : Nat → Nat} {di : Nat → Nat → Int32} {dl : Nat → Nat → Int64} {dr : Nat → Nat → Option Nat} {Q : Option Value → q_H → Prop} (hg : q_Gr n ln dr)
    (k1 : Q none (n, sl, ln, di, dl, dr)) : q_EX q_KD d 39 26 [.retAddr 0, .retAddr 0] [] (n, sl, ln, di, dl, dr) Q := by
  refine (x_goto 26 188 i39_26 rfl ?_)
  exact (x_vret 188 i39_188 rfl k1)

set_option maxRecDepth 20000 in
theorem g39_107 {m n sl : Nat} {ln : Nat → Nat} {di : Nat → Nat → Int32} {dl : Nat → Nat → Int64} {dr : Nat → Nat → Option Nat} {x1 : Int32} {Q : Option Value → q_H → Prop} (hg : q_Gr n ln dr)
    (k2 : ((16 : Int32) < x1) → q_EX q_KD m 53 0 [.ref 39, .int x1] [] (n, sl, ln, di, dl, dr) (fun r1 h1 => q_EX q_KD (m + 1) 39 172 [.ref 39, .retAddr 0] (r1.toList ++ []) h1 Q))
    (s3 : (x1 ≤ (16 : Int32)) → vp_in (x1 - (14 : Int32)) 3)
    (k5 : (x1 ≤ (16 : Int32)) → (¬ (x1 - (14 : Int32)) = (0 : Int32)) → q_EX q_KD m 42 0 [.ref 39, .int 2, .int 0, .retAddr 0, .retAddr 0] [] (n, sl, ln, (q_u (q_u di 39 11 (x1 - (14 : Int32))) 45 ((x1 - (14 : Int32)).toNatClampNeg) (di 39 9)), dl, dr) (fun r1 h1 => q_EX q_KD (m + 1) 39 151 [.ref 39, .retAddr 0] (r1.toList ++ []) h1 Q))
    (k6 : (x1 ≤ (16 : Int32)) → ((x1 - (14 : Int32)) = (0 : Int32)) → q_EX q_KD m 42 0 [.ref 39, .int 0, .int 0, .retAddr 0, .retAddr 0] [] (n, sl, ln, (q_u (q_u di 39 11 (x1 - (14 : Int32))) 45 ((x1 - (14 : Int32)).toNatClampNeg) (di 39 9)), dl, dr) (fun r1 h1 => q_EX q_KD (m + 1) 39 151 [.ref 39, .retAddr 0] (r1.toList ++ []) h1 Q)) : q_EX q_KD (m + 1) 39 107 [.ref 39, .int x1] [] (n, sl, ln, di, dl, dr) Q := by
  refine (x_iload_n 107 i39_107 rfl ?_)
  refine (x_bipush 108 16 i39_108 rfl ?_)
  refine (x_icmp_gt 110 167 i39_110 rfl (fun c1 => ?_) (fun c1 => ?_))
  · refine (x_aload_n 167 i39_167 rfl ?_)
    refine (x_iload_n 168 i39_168 rfl ?_)
    refine (xx_loc (ls := [.ref 39, .retAddr 0]) (ls' := [.ref 39, .int x1]) ⟨Or.inl rfl, Or.inr rfl, trivial⟩ ?_)
    exact (x_cv 169 (as := [.int x1]) (rs := []) i39_169 rfl rfl rfl rfl (Nat.le_of_ble_eq_true rfl) (q_lt hg rfl) rfl (Or.inr (Nat.le_of_ble_eq_true rfl)) (Nat.le_of_ble_eq_true rfl) rfl rfl (k2 c1))
  · refine (x_aload_n 113 i39_113 rfl ?_)
    refine (x_iload_n 114 i39_114 rfl ?_)
    refine (x_bipush 115 14 i39_115 rfl ?_)
    refine (x_isub 117 i39_117 ?_)
    refine (x_putI 118 11 i39_118 rfl (Nat.le_of_ble_eq_true rfl) (q_lt hg rfl) rfl rfl ?_)
    refine (x_aload_n 121 i39_121 rfl ?_)
    refine (x_getR 122 45 i39_122 rfl (q_lt hg rfl) (Nat.le_of_ble_eq_true rfl) rfl (hg.2.2.1 39 2 45 rfl) ?_)
    refine (x_aload_n 125 i39_125 rfl ?_)
    refine (x_getI 126 11 (x1 - (14 : Int32)) i39_126 rfl (q_lt hg rfl) (Nat.le_of_ble_eq_true rfl) (Or.inl rfl) rfl rfl ?_)
    refine (x_aload_n 129 i39_129 rfl ?_)
    refine (x_getI 130 9 (di 39 9) i39_130 rfl (q_lt hg rfl) (Nat.le_of_ble_eq_true rfl) (Or.inl rfl) rfl rfl ?_)
    refine (x_iastore 133 i39_133 rfl (Nat.le_of_ble_eq_true rfl) (q_lt hg rfl) (q_inE (hg.2.1 45 3 rfl) (s3 c1)) ?_)
    refine (x_aload_n 134 i39_134 rfl ?_)
    refine (x_aload_n 135 i39_135 rfl ?_)
    refine (x_getI 136 11 (x1 - (14 : Int32)) i39_136 rfl (q_lt hg rfl) (Nat.le_of_ble_eq_true rfl) (Or.inl rfl) rfl rfl ?_)
    refine (x_if_ne 139 146 i39_139 rfl (fun c4 => ?_) (fun c4 => ?_))
    · refine (x_iconst 146 2 i39_146 rfl ?_)
      refine (x_iconst 147 0 i39_147 rfl ?_)
      refine (xx_loc (ls := [.ref 39, .retAddr 0]) (ls' := [.ref 39, .int x1]) ⟨Or.inl rfl, Or.inr rfl, trivial⟩ ?_)
      exact (x_cv 148 (as := [.int 2, .int 0]) (rs := []) i39_148 rfl rfl rfl rfl (Nat.le_of_ble_eq_true rfl) (q_lt hg rfl) rfl (Or.inr (Nat.le_of_ble_eq_true rfl)) (Nat.le_of_ble_eq_true rfl) rfl rfl (k5 c1 c4))
    · refine (x_iconst 142 0 i39_142 rfl ?_)
      refine (x_goto 143 147 i39_143 rfl ?_)
      refine (x_iconst 147 0 i39_147 rfl ?_)
      refine (xx_loc (ls := [.ref 39, .retAddr 0]) (ls' := [.ref 39, .int x1]) ⟨Or.inl rfl, Or.inr rfl, trivial⟩ ?_)
      exact (x_cv 148 (as := [.int 0, .int 0]) (rs := []) i39_148 rfl rfl rfl rfl (Nat.le_of_ble_eq_true rfl) (q_lt hg rfl) rfl (Or.inr (Nat.le_of_ble_eq_true rfl)) (Nat.le_of_ble_eq_true rfl) rfl rfl (k6 c1 c4))

set_option maxRecDepth 20000 in
theorem g39_70 {d n sl : Nat} {ln : Nat → Nat} {di : Nat → Nat → Int32} {dl : Nat → Nat → Int64} {dr : Nat → Nat → Option Nat} {Q : Option Value → q_H → Prop} (hg : q_Gr n ln dr)
    (k1 : Q none (n, sl, ln, di, dl, dr)) : q_EX q_KD d 39 70 [.retAddr 0, .retAddr 0] [] (n, sl, ln, di, dl, dr) Q := by
  refine (x_goto 70 188 i39_70 rfl ?_)
  exact (x_vret 188 i39_188 rfl k1)

set_option maxRecDepth 20000 in
theorem g39_52 {d n sl : Nat} {ln : Nat → Nat} {di : Nat → Nat → Int32} {dl : Nat → Nat → Int64} {dr : Nat → Nat → Option Nat} {Q : Option Value → q_H → Prop} (hg : q_Gr n ln dr)
    (k1 : Q none (n, sl, ln, di, dl, dr)) : q_EX q_KD d 39 52 [.retAddr 0, .retAddr 0] [] (n, sl, ln, di, dl, dr) Q := by
  refine (x_goto 52 188 i39_52 rfl ?_)
  exact (x_vret 188 i39_188 rfl k1)

set_option maxRecDepth 20000 in
theorem g39_172 {m n sl : Nat} {ln : Nat → Nat} {di : Nat → Nat → Int32} {dl : Nat → Nat → Int64} {dr : Nat → Nat → Option Nat} {Q : Option Value → q_H → Prop} (hg : q_Gr n ln dr)
    (k1 : q_EX q_KD m 51 0 [.ref 39, .int 59] [] (n, sl, ln, di, dl, dr) (fun r1 h1 => q_EX q_KD (m + 1) 39 178 [.ref 39, .retAddr 0] (r1.toList ++ []) h1 Q)) : q_EX q_KD (m + 1) 39 172 [.ref 39, .retAddr 0] [] (n, sl, ln, di, dl, dr) Q := by
  refine (x_aload_n 172 i39_172 rfl ?_)
  refine (x_bipush 173 59 i39_173 rfl ?_)
  exact (x_cv 175 (as := [.int 59]) (rs := []) i39_175 rfl rfl rfl rfl (Nat.le_of_ble_eq_true rfl) (q_lt hg rfl) rfl (Or.inr (Nat.le_of_ble_eq_true rfl)) (Nat.le_of_ble_eq_true rfl) rfl rfl k1)

set_option maxRecDepth 20000 in
theorem g39_151 {m n sl : Nat} {ln : Nat → Nat} {di : Nat → Nat → Int32} {dl : Nat → Nat → Int64} {dr : Nat → Nat → Option Nat} {Q : Option Value → q_H → Prop} (hg : q_Gr n ln dr)
    (s1 : vp_in (di 39 11) 3)
    (k2 : q_EX q_KD m 51 0 [.ref 39, .int 59] [] (n, sl, ln, (q_u di 46 ((di 39 11).toNatClampNeg) (di 39 9)), dl, dr) (fun r1 h1 => q_EX q_KD (m + 1) 39 178 [.ref 39, .retAddr 0] (r1.toList ++ []) h1 Q)) : q_EX q_KD (m + 1) 39 151 [.ref 39, .retAddr 0] [] (n, sl, ln, di, dl, dr) Q := by
  refine (x_aload_n 151 i39_151 rfl ?_)
  refine (x_getR 152 46 i39_152 rfl (q_lt hg rfl) (Nat.le_of_ble_eq_true rfl) rfl (hg.2.2.1 39 3 46 rfl) ?_)
  refine (x_aload_n 155 i39_155 rfl ?_)
  refine (x_getI 156 11 (di 39 11) i39_156 rfl (q_lt hg rfl) (Nat.le_of_ble_eq_true rfl) (Or.inl rfl) rfl rfl ?_)
  refine (x_aload_n 159 i39_159 rfl ?_)
  refine (x_getI 160 9 (di 39 9) i39_160 rfl (q_lt hg rfl) (Nat.le_of_ble_eq_true rfl) (Or.inl rfl) rfl rfl ?_)
  refine (x_iastore 163 i39_163 rfl (Nat.le_of_ble_eq_true rfl) (q_lt hg rfl) (q_inE (hg.2.1 46 3 rfl) s1) ?_)
  refine (x_goto 164 172 i39_164 rfl ?_)
  refine (x_aload_n 172 i39_172 rfl ?_)
  refine (x_bipush 173 59 i39_173 rfl ?_)
  exact (x_cv 175 (as := [.int 59]) (rs := []) i39_175 rfl rfl rfl rfl (Nat.le_of_ble_eq_true rfl) (q_lt hg rfl) rfl (Or.inr (Nat.le_of_ble_eq_true rfl)) (Nat.le_of_ble_eq_true rfl) rfl rfl k2)

set_option maxRecDepth 20000 in
theorem g39_178 {d n sl : Nat} {ln : Nat → Nat} {di : Nat → Nat → Int32} {dl : Nat → Nat → Int64} {dr : Nat → Nat → Option Nat} {Q : Option Value → q_H → Prop} (hg : q_Gr n ln dr)
    (k1 : Q none (n, sl, ln, (q_u di 39 10 ((di 39 10) + (1 : Int32))), dl, dr)) : q_EX q_KD d 39 178 [.ref 39, .retAddr 0] [] (n, sl, ln, di, dl, dr) Q := by
  refine (x_aload_n 178 i39_178 rfl ?_)
  refine (x_dup 179 i39_179 rfl ?_)
  refine (x_getI 180 10 (di 39 10) i39_180 rfl (q_lt hg rfl) (Nat.le_of_ble_eq_true rfl) (Or.inl rfl) rfl rfl ?_)
  refine (x_iconst 183 1 i39_183 rfl ?_)
  refine (x_iadd 184 i39_184 ?_)
  refine (x_putI 185 10 i39_185 rfl (Nat.le_of_ble_eq_true rfl) (q_lt hg rfl) rfl rfl ?_)
  exact (x_vret 188 i39_188 rfl k1)

/-! SilentHouse$Reader.refuse -/
set_option maxRecDepth 20000 in
theorem g40_0 {d n sl : Nat} {ln : Nat → Nat} {di : Nat → Nat → Int32} {dl : Nat → Nat → Int64} {dr : Nat → Nat → Option Nat} {x1 : Int32} {Q : Option Value → q_H → Prop} (hg : q_Gr n ln dr)
    (k2 : (¬ (di 39 13) = (0 : Int32)) → Q none (n, sl, ln, (q_u di 39 8 131), dl, dr))
    (s3 : ((di 39 13) = (0 : Int32)) → vp_in (di 39 7) 301)
    (k4 : ((di 39 13) = (0 : Int32)) → Q none (n, sl, ln, (q_u (q_u (q_u di 39 13 x1) 39 14 (di 43 ((di 39 7).toNatClampNeg))) 39 8 131), dl, dr)) : q_EX q_KD d 40 0 [.ref 39, .int x1] [] (n, sl, ln, di, dl, dr) Q := by
  refine (x_aload_n 0 i40_0 rfl ?_)
  refine (x_getI 1 13 (di 39 13) i40_1 rfl (q_lt hg rfl) (Nat.le_of_ble_eq_true rfl) (Or.inl rfl) rfl rfl ?_)
  refine (x_if_ne 4 28 i40_4 rfl (fun c1 => ?_) (fun c1 => ?_))
  · refine (x_aload_n 28 i40_28 rfl ?_)
    refine (x_sipush 29 131 i40_29 rfl ?_)
    refine (x_putI 32 8 i40_32 rfl (Nat.le_of_ble_eq_true rfl) (q_lt hg rfl) rfl rfl ?_)
    exact (x_vret 35 i40_35 rfl (k2 c1))
  · refine (x_aload_n 7 i40_7 rfl ?_)
    refine (x_iload_n 8 i40_8 rfl ?_)
    refine (x_putI 9 13 i40_9 rfl (Nat.le_of_ble_eq_true rfl) (q_lt hg rfl) rfl rfl ?_)
    refine (x_aload_n 12 i40_12 rfl ?_)
    refine (x_aload_n 13 i40_13 rfl ?_)
    refine (x_getR 14 40 i40_14 rfl (q_lt hg rfl) (Nat.le_of_ble_eq_true rfl) rfl (hg.2.2.1 39 0 40 rfl) ?_)
    refine (x_getR 17 43 i40_17 rfl (q_lt hg rfl) (Nat.le_of_ble_eq_true rfl) rfl (hg.2.2.1 40 2 43 rfl) ?_)
    refine (x_aload_n 20 i40_20 rfl ?_)
    refine (x_getI 21 7 (di 39 7) i40_21 rfl (q_lt hg rfl) (Nat.le_of_ble_eq_true rfl) (Or.inl rfl) rfl rfl ?_)
    refine (x_iaload 24 (di 43 ((di 39 7).toNatClampNeg)) i40_24 rfl (q_lt hg rfl) (q_inE (hg.2.1 43 301 rfl) (s3 c1)) rfl ?_)
    refine (x_putI 25 14 i40_25 rfl (Nat.le_of_ble_eq_true rfl) (q_lt hg rfl) rfl rfl ?_)
    refine (x_aload_n 28 i40_28 rfl ?_)
    refine (x_sipush 29 131 i40_29 rfl ?_)
    refine (x_putI 32 8 i40_32 rfl (Nat.le_of_ble_eq_true rfl) (q_lt hg rfl) rfl rfl ?_)
    exact (x_vret 35 i40_35 rfl (k4 c1))

/-! SilentHouse$Reader.advance -/
set_option maxRecDepth 20000 in
theorem g41_0 {d n sl : Nat} {ln : Nat → Nat} {di : Nat → Nat → Int32} {dl : Nat → Nat → Int64} {dr : Nat → Nat → Option Nat} {Q : Option Value → q_H → Prop} (hg : q_Gr n ln dr)
    (k2 : (¬ (di 39 13) = (0 : Int32)) → Q none (n, sl, ln, di, dl, dr))
    (k4 : ((di 39 13) = (0 : Int32)) → ((di 40 4) ≤ (di 39 7)) → Q none (n, sl, ln, di, dl, dr))
    (s5 : ((di 39 13) = (0 : Int32)) → ((di 39 7) < (di 40 4)) → vp_in ((di 39 7) + (1 : Int32)) 301)
    (k6 : ((di 39 13) = (0 : Int32)) → ((di 39 7) < (di 40 4)) → Q none (n, sl, ln, (q_u (q_u di 39 7 ((di 39 7) + (1 : Int32))) 39 8 (di 42 (((di 39 7) + (1 : Int32)).toNatClampNeg))), dl, dr)) : q_EX q_KD d 41 0 [.ref 39] [] (n, sl, ln, di, dl, dr) Q := by
  refine (x_aload_n 0 i41_0 rfl ?_)
  refine (x_getI 1 13 (di 39 13) i41_1 rfl (q_lt hg rfl) (Nat.le_of_ble_eq_true rfl) (Or.inl rfl) rfl rfl ?_)
  refine (x_if_ne 4 47 i41_4 rfl (fun c1 => ?_) (fun c1 => ?_))
  · exact (x_vret 47 i41_47 rfl (k2 c1))
  · refine (x_aload_n 7 i41_7 rfl ?_)
    refine (x_getI 8 7 (di 39 7) i41_8 rfl (q_lt hg rfl) (Nat.le_of_ble_eq_true rfl) (Or.inl rfl) rfl rfl ?_)
    refine (x_aload_n 11 i41_11 rfl ?_)
    refine (x_getR 12 40 i41_12 rfl (q_lt hg rfl) (Nat.le_of_ble_eq_true rfl) rfl (hg.2.2.1 39 0 40 rfl) ?_)
    refine (x_getI 15 4 (di 40 4) i41_15 rfl (q_lt hg rfl) (Nat.le_of_ble_eq_true rfl) (Or.inl rfl) rfl rfl ?_)
    refine (x_icmp_ge 18 47 i41_18 rfl (fun c3 => ?_) (fun c3 => ?_))
    · exact (x_vret 47 i41_47 rfl (k4 c1 c3))
    · refine (x_aload_n 21 i41_21 rfl ?_)
      refine (x_dup 22 i41_22 rfl ?_)
      refine (x_getI 23 7 (di 39 7) i41_23 rfl (q_lt hg rfl) (Nat.le_of_ble_eq_true rfl) (Or.inl rfl) rfl rfl ?_)
      refine (x_iconst 26 1 i41_26 rfl ?_)
      refine (x_iadd 27 i41_27 ?_)
      refine (x_putI 28 7 i41_28 rfl (Nat.le_of_ble_eq_true rfl) (q_lt hg rfl) rfl rfl ?_)
      refine (x_aload_n 31 i41_31 rfl ?_)
      refine (x_aload_n 32 i41_32 rfl ?_)
      refine (x_getR 33 40 i41_33 rfl (q_lt hg rfl) (Nat.le_of_ble_eq_true rfl) rfl (hg.2.2.1 39 0 40 rfl) ?_)
      refine (x_getR 36 42 i41_36 rfl (q_lt hg rfl) (Nat.le_of_ble_eq_true rfl) rfl (hg.2.2.1 40 1 42 rfl) ?_)
      refine (x_aload_n 39 i41_39 rfl ?_)
      refine (x_getI 40 7 ((di 39 7) + (1 : Int32)) i41_40 rfl (q_lt hg rfl) (Nat.le_of_ble_eq_true rfl) (Or.inl rfl) rfl rfl ?_)
      refine (x_iaload 43 (di 42 (((di 39 7) + (1 : Int32)).toNatClampNeg)) i41_43 rfl (q_lt hg rfl) (q_inE (hg.2.1 42 301 rfl) (s5 c1 c3)) rfl ?_)
      refine (x_putI 44 8 i41_44 rfl (Nat.le_of_ble_eq_true rfl) (q_lt hg rfl) rfl rfl ?_)
      exact (x_vret 47 i41_47 rfl (k6 c1 c3))

/-! SilentHouse$Reader.chain -/
set_option maxRecDepth 20000 in
theorem g42_0 {m n sl : Nat} {ln : Nat → Nat} {di : Nat → Nat → Int32} {dl : Nat → Nat → Int64} {dr : Nat → Nat → Option Nat} {x1 : Int32} {x2 : Int32} {Q : Option Value → q_H → Prop} (hg : q_Gr n ln dr)
    (k1 : q_EX q_KD m 43 0 [.ref 39, .int x1, .int x2] [] (n, sl, ln, di, dl, dr) (fun r1 h1 => q_EX q_KD (m + 1) 42 6 [.ref 39, .int x1, .int x2, .retAddr 0, .retAddr 0] (r1.toList ++ []) h1 Q)) : q_EX q_KD (m + 1) 42 0 [.ref 39, .int x1, .int x2, .retAddr 0, .retAddr 0] [] (n, sl, ln, di, dl, dr) Q := by
  refine (x_aload_n 0 i42_0 rfl ?_)
  refine (x_iload_n 1 i42_1 rfl ?_)
  refine (x_iload_n 2 i42_2 rfl ?_)
  exact (x_cv 3 (as := [.int x1, .int x2]) (rs := []) i42_3 rfl rfl rfl rfl (Nat.le_of_ble_eq_true rfl) (q_lt hg rfl) rfl (Or.inr (Nat.le_of_ble_eq_true rfl)) (Nat.le_of_ble_eq_true rfl) rfl rfl k1)

set_option maxRecDepth 20000 in
theorem g42_6 {d n sl : Nat} {ln : Nat → Nat} {di : Nat → Nat → Int32} {dl : Nat → Nat → Int64} {dr : Nat → Nat → Option Nat} {x1 : Int32} {x2 : Int32} {Q : Option Value → q_H → Prop} (hg : q_Gr n ln dr)
    (k1 : q_EX q_KD d 42 8 [.ref 39, .int x1, .int x2, .int 0, .retAddr 0] [] (n, sl, ln, di, dl, dr) Q) : q_EX q_KD d 42 6 [.ref 39, .int x1, .int x2, .retAddr 0, .retAddr 0] [] (n, sl, ln, di, dl, dr) Q := by
  refine (x_iconst 6 0 i42_6 rfl ?_)
  exact (x_istore_n 7 (ls2 := [.ref 39, .int x1, .int x2, .int 0, .retAddr 0]) i42_7 (Nat.le_of_ble_eq_true rfl) rfl k1)

set_option maxRecDepth 20000 in
theorem g42_8 {m n sl : Nat} {ln : Nat → Nat} {di : Nat → Nat → Int32} {dl : Nat → Nat → Int64} {dr : Nat → Nat → Option Nat} {x1 : Int32} {x2 : Int32} {x3 : Int32} {Q : Option Value → q_H → Prop} (hg : q_Gr n ln dr)
    (k2 : ((300 : Int32) ≤ x3) → Q none (n, sl, ln, di, dl, dr))
    (k3 : (x3 < (300 : Int32)) → q_EX q_KD m 52 0 [.int (di 39 8)] [] (n, sl, ln, di, dl, dr) (fun r1 h1 => q_EX q_KD (m + 1) 42 22 [.ref 39, .int x1, .int x2, .int x3, .retAddr 0] (r1.toList ++ []) h1 Q)) : q_EX q_KD (m + 1) 42 8 [.ref 39, .int x1, .int x2, .int x3, .retAddr 0] [] (n, sl, ln, di, dl, dr) Q := by
  refine (x_iload_n 8 i42_8 rfl ?_)
  refine (x_sipush 9 300 i42_9 rfl ?_)
  refine (x_icmp_ge 12 58 i42_12 rfl (fun c1 => ?_) (fun c1 => ?_))
  · exact (x_vret 58 i42_58 rfl (k2 c1))
  · refine (x_aload_n 15 i42_15 rfl ?_)
    refine (x_getI 16 8 (di 39 8) i42_16 rfl (q_lt hg rfl) (Nat.le_of_ble_eq_true rfl) (Or.inl rfl) rfl rfl ?_)
    exact (x_cs 19 (as := [.int (di 39 8)]) (rs := []) i42_19 rfl rfl rfl rfl (Nat.le_of_ble_eq_true rfl) (Nat.le_of_ble_eq_true rfl) rfl rfl (k3 c1))

set_option maxRecDepth 20000 in
theorem g42_22 {m n sl : Nat} {ln : Nat → Nat} {di : Nat → Nat → Int32} {dl : Nat → Nat → Int64} {dr : Nat → Nat → Option Nat} {x1 : Int32} {x2 : Int32} {x3 : Int32} {y0 : Int32} {Q : Option Value → q_H → Prop} (hg : q_Gr n ln dr)
    (k2 : (¬ y0 = x1) → Q none (n, sl, ln, di, dl, dr))
    (k3 : (y0 = x1) → q_EX q_KD m 41 0 [.ref 39] [] (n, sl, ln, di, dl, dr) (fun r1 h1 => q_EX q_KD (m + 1) 42 36 [.ref 39, .int x1, .int x2, .int x3, .int (di 39 8)] (r1.toList ++ []) h1 Q)) : q_EX q_KD (m + 1) 42 22 [.ref 39, .int x1, .int x2, .int x3, .retAddr 0] [.int y0] (n, sl, ln, di, dl, dr) Q := by
  refine (x_iload_n 22 i42_22 rfl ?_)
  refine (x_icmp_ne 23 58 i42_23 rfl (fun c1 => ?_) (fun c1 => ?_))
  · exact (x_vret 58 i42_58 rfl (k2 c1))
  · refine (x_aload_n 26 i42_26 rfl ?_)
    refine (x_getI 27 8 (di 39 8) i42_27 rfl (q_lt hg rfl) (Nat.le_of_ble_eq_true rfl) (Or.inl rfl) rfl rfl ?_)
    refine (x_istore 30 (ls2 := [.ref 39, .int x1, .int x2, .int x3, .int (di 39 8)]) i42_30 (Nat.le_of_ble_eq_true rfl) rfl ?_)
    refine (x_aload_n 32 i42_32 rfl ?_)
    exact (x_cv 33 (as := []) (rs := []) i42_33 rfl rfl rfl rfl (Nat.le_of_ble_eq_true rfl) (q_lt hg rfl) rfl (Or.inr (Nat.le_of_ble_eq_true rfl)) (Nat.le_of_ble_eq_true rfl) rfl rfl (k3 c1))

set_option maxRecDepth 20000 in
theorem g42_36 {m n sl : Nat} {ln : Nat → Nat} {di : Nat → Nat → Int32} {dl : Nat → Nat → Int64} {dr : Nat → Nat → Option Nat} {x1 : Int32} {x2 : Int32} {x3 : Int32} {x4 : Int32} {Q : Option Value → q_H → Prop} (hg : q_Gr n ln dr)
    (k1 : q_EX q_KD m 43 0 [.ref 39, .int x1, .int x2] [] (n, sl, ln, di, dl, dr) (fun r1 h1 => q_EX q_KD (m + 1) 42 42 [.ref 39, .int x1, .int x2, .int x3, .int x4] (r1.toList ++ []) h1 Q)) : q_EX q_KD (m + 1) 42 36 [.ref 39, .int x1, .int x2, .int x3, .int x4] [] (n, sl, ln, di, dl, dr) Q := by
  refine (x_aload_n 36 i42_36 rfl ?_)
  refine (x_iload_n 37 i42_37 rfl ?_)
  refine (x_iload_n 38 i42_38 rfl ?_)
  exact (x_cv 39 (as := [.int x1, .int x2]) (rs := []) i42_39 rfl rfl rfl rfl (Nat.le_of_ble_eq_true rfl) (q_lt hg rfl) rfl (Or.inr (Nat.le_of_ble_eq_true rfl)) (Nat.le_of_ble_eq_true rfl) rfl rfl k1)

set_option maxRecDepth 20000 in
theorem g42_42 {m n sl : Nat} {ln : Nat → Nat} {di : Nat → Nat → Int32} {dl : Nat → Nat → Int64} {dr : Nat → Nat → Option Nat} {x1 : Int32} {x2 : Int32} {x3 : Int32} {x4 : Int32} {Q : Option Value → q_H → Prop} (hg : q_Gr n ln dr)
    (k1 : q_EX q_KD m 46 0 [.ref 39, .int ((20000 : Int32) + x4)] [] (n, sl, ln, di, dl, dr) (fun r1 h1 => q_EX q_KD (m + 1) 42 52 [.ref 39, .int x1, .int x2, .int x3, .retAddr 0] (r1.toList ++ []) h1 Q)) : q_EX q_KD (m + 1) 42 42 [.ref 39, .int x1, .int x2, .int x3, .int x4] [] (n, sl, ln, di, dl, dr) Q := by
  refine (x_aload_n 42 i42_42 rfl ?_)
  refine (x_sipush 43 20000 i42_43 rfl ?_)
  refine (x_iload 46 i42_46 rfl ?_)
  refine (x_iadd 48 i42_48 ?_)
  refine (xx_loc (ls := [.ref 39, .int x1, .int x2, .int x3, .retAddr 0]) (ls' := [.ref 39, .int x1, .int x2, .int x3, .int x4]) ⟨Or.inl rfl, Or.inl rfl, Or.inl rfl, Or.inl rfl, Or.inr rfl, trivial⟩ ?_)
  exact (x_cv 49 (as := [.int ((20000 : Int32) + x4)]) (rs := []) i42_49 rfl rfl rfl rfl (Nat.le_of_ble_eq_true rfl) (q_lt hg rfl) rfl (Or.inr (Nat.le_of_ble_eq_true rfl)) (Nat.le_of_ble_eq_true rfl) rfl rfl k1)

set_option maxRecDepth 20000 in
theorem g42_52 {d n sl : Nat} {ln : Nat → Nat} {di : Nat → Nat → Int32} {dl : Nat → Nat → Int64} {dr : Nat → Nat → Option Nat} {x1 : Int32} {x2 : Int32} {x3 : Int32} {Q : Option Value → q_H → Prop} (hg : q_Gr n ln dr)
    (k1 : q_EX q_KD d 42 8 [.ref 39, .int x1, .int x2, .int (x3 + 1), .retAddr 0] [] (n, sl, ln, di, dl, dr) Q) : q_EX q_KD d 42 52 [.ref 39, .int x1, .int x2, .int x3, .retAddr 0] [] (n, sl, ln, di, dl, dr) Q := by
  refine (x_iinc 52 (x3 + 1) (ls2 := [.ref 39, .int x1, .int x2, .int (x3 + 1), .retAddr 0]) i42_52 rfl (Nat.le_of_ble_eq_true rfl) rfl rfl ?_)
  exact (x_goto 55 8 i42_55 rfl k1)

/-! SilentHouse$Reader.operand -/
set_option maxRecDepth 20000 in
theorem g43_0 {m n sl : Nat} {ln : Nat → Nat} {di : Nat → Nat → Int32} {dl : Nat → Nat → Int64} {dr : Nat → Nat → Option Nat} {x1 : Int32} {x2 : Int32} {Q : Option Value → q_H → Prop} (hg : q_Gr n ln dr)
    (k2 : (x1 = 0) → q_EX q_KD m 42 0 [.ref 39, .int 1, .int x2, .retAddr 0, .retAddr 0] [] (n, sl, ln, di, dl, dr) (fun r1 h1 => q_EX q_KD (m + 1) 43 34 [.retAddr 0, .retAddr 0, .retAddr 0] (r1.toList ++ []) h1 Q))
    (k3 : (x1 = 1) → q_EX q_KD m 44 0 [.ref 39, .int x2, .retAddr 0] [] (n, sl, ln, di, dl, dr) (fun r1 h1 => q_EX q_KD (m + 1) 43 42 [.retAddr 0, .retAddr 0, .retAddr 0] (r1.toList ++ []) h1 Q))
    (k4 : (x1 = 2) → q_EX q_KD m 42 0 [.ref 39, .int 3, .int x2, .retAddr 0, .retAddr 0] [] (n, sl, ln, di, dl, dr) (fun r1 h1 => q_EX q_KD (m + 1) 43 51 [.retAddr 0, .retAddr 0, .retAddr 0] (r1.toList ++ []) h1 Q))
    (k8 : (¬ x1 = 0) → (¬ x1 = 1) → (¬ x1 = 2) → q_EX q_KD m 48 0 [.ref 39, .int x2] [] (n, sl, ln, di, dl, dr) (fun r1 h1 => q_EX q_KD (m + 1) 43 59 [.retAddr 0, .retAddr 0, .retAddr 0] (r1.toList ++ []) h1 Q)) : q_EX q_KD (m + 1) 43 0 [.ref 39, .int x1, .int x2] [] (n, sl, ln, di, dl, dr) Q := by
  refine (x_iload_n 0 i43_0 rfl ?_)
  exact (by
      by_cases hq : (x1).toInt < 0 ∨ 2 < (x1).toInt
      · exact x_tsw 1 54 rfl (Or.inl ⟨hq, rfl⟩) rfl ((fun c5 c6 c7 => (x_aload_n 54 i43_54 rfl (x_iload_n 55 i43_55 rfl (xx_loc (ls := [.retAddr 0, .retAddr 0, .retAddr 0]) (ls' := [.ref 39, .int x1, .int x2]) ⟨Or.inr rfl, Or.inr rfl, Or.inr rfl, trivial⟩ (x_cv 56 (as := [.int x2]) (rs := []) i43_56 rfl rfl rfl rfl (Nat.le_of_ble_eq_true rfl) (q_lt hg rfl) rfl (Or.inr (Nat.le_of_ble_eq_true rfl)) (Nat.le_of_ble_eq_true rfl) rfl rfl (k8 c5 c6 c7)))))) (fun e => by rw [e] at hq; revert hq; decide) (fun e => by rw [e] at hq; revert hq; decide) (fun e => by rw [e] at hq; revert hq; decide))
      · have hv : (x1).toInt = 0 ∨ (x1).toInt = 1 ∨ (x1).toInt = 2 := by omega
        rcases hv with hv | hv | hv
        · exact x_tsw 1 (off := 27) 28 rfl (Or.inr ⟨by rw [hv]; decide, by rw [hv]; decide, by rw [hv]; decide +kernel⟩) rfl ((fun c1 => (x_aload_n 28 i43_28 rfl (x_iconst 29 1 i43_29 rfl (x_iload_n 30 i43_30 rfl (xx_loc (ls := [.retAddr 0, .retAddr 0, .retAddr 0]) (ls' := [.ref 39, .int x1, .int x2]) ⟨Or.inr rfl, Or.inr rfl, Or.inr rfl, trivial⟩ (x_cv 31 (as := [.int 1, .int x2]) (rs := []) i43_31 rfl rfl rfl rfl (Nat.le_of_ble_eq_true rfl) (q_lt hg rfl) rfl (Or.inr (Nat.le_of_ble_eq_true rfl)) (Nat.le_of_ble_eq_true rfl) rfl rfl (k2 c1))))))) (q_ofI hv rfl))
        · exact x_tsw 1 (off := 36) 37 rfl (Or.inr ⟨by rw [hv]; decide, by rw [hv]; decide, by rw [hv]; decide +kernel⟩) rfl ((fun c1 => (x_aload_n 37 i43_37 rfl (x_iload_n 38 i43_38 rfl (xx_loc (ls := [.retAddr 0, .retAddr 0, .retAddr 0]) (ls' := [.ref 39, .int x1, .int x2]) ⟨Or.inr rfl, Or.inr rfl, Or.inr rfl, trivial⟩ (x_cv 39 (as := [.int x2]) (rs := []) i43_39 rfl rfl rfl rfl (Nat.le_of_ble_eq_true rfl) (q_lt hg rfl) rfl (Or.inr (Nat.le_of_ble_eq_true rfl)) (Nat.le_of_ble_eq_true rfl) rfl rfl (k3 c1)))))) (q_ofI hv rfl))
        · exact x_tsw 1 (off := 44) 45 rfl (Or.inr ⟨by rw [hv]; decide, by rw [hv]; decide, by rw [hv]; decide +kernel⟩) rfl ((fun c1 => (x_aload_n 45 i43_45 rfl (x_iconst 46 3 i43_46 rfl (x_iload_n 47 i43_47 rfl (xx_loc (ls := [.retAddr 0, .retAddr 0, .retAddr 0]) (ls' := [.ref 39, .int x1, .int x2]) ⟨Or.inr rfl, Or.inr rfl, Or.inr rfl, trivial⟩ (x_cv 48 (as := [.int 3, .int x2]) (rs := []) i43_48 rfl rfl rfl rfl (Nat.le_of_ble_eq_true rfl) (q_lt hg rfl) rfl (Or.inr (Nat.le_of_ble_eq_true rfl)) (Nat.le_of_ble_eq_true rfl) rfl rfl (k4 c1))))))) (q_ofI hv rfl)))

set_option maxRecDepth 20000 in
theorem g43_34 {d n sl : Nat} {ln : Nat → Nat} {di : Nat → Nat → Int32} {dl : Nat → Nat → Int64} {dr : Nat → Nat → Option Nat} {Q : Option Value → q_H → Prop} (hg : q_Gr n ln dr)
    (k1 : Q none (n, sl, ln, di, dl, dr)) : q_EX q_KD d 43 34 [.retAddr 0, .retAddr 0, .retAddr 0] [] (n, sl, ln, di, dl, dr) Q := by
  refine (x_goto 34 59 i43_34 rfl ?_)
  exact (x_vret 59 i43_59 rfl k1)

set_option maxRecDepth 20000 in
theorem g43_42 {d n sl : Nat} {ln : Nat → Nat} {di : Nat → Nat → Int32} {dl : Nat → Nat → Int64} {dr : Nat → Nat → Option Nat} {Q : Option Value → q_H → Prop} (hg : q_Gr n ln dr)
    (k1 : Q none (n, sl, ln, di, dl, dr)) : q_EX q_KD d 43 42 [.retAddr 0, .retAddr 0, .retAddr 0] [] (n, sl, ln, di, dl, dr) Q := by
  refine (x_goto 42 59 i43_42 rfl ?_)
  exact (x_vret 59 i43_59 rfl k1)

set_option maxRecDepth 20000 in
theorem g43_51 {d n sl : Nat} {ln : Nat → Nat} {di : Nat → Nat → Int32} {dl : Nat → Nat → Int64} {dr : Nat → Nat → Option Nat} {Q : Option Value → q_H → Prop} (hg : q_Gr n ln dr)
    (k1 : Q none (n, sl, ln, di, dl, dr)) : q_EX q_KD d 43 51 [.retAddr 0, .retAddr 0, .retAddr 0] [] (n, sl, ln, di, dl, dr) Q := by
  refine (x_goto 51 59 i43_51 rfl ?_)
  exact (x_vret 59 i43_59 rfl k1)

set_option maxRecDepth 20000 in
theorem g43_59 {d n sl : Nat} {ln : Nat → Nat} {di : Nat → Nat → Int32} {dl : Nat → Nat → Int64} {dr : Nat → Nat → Option Nat} {Q : Option Value → q_H → Prop} (hg : q_Gr n ln dr)
    (k1 : Q none (n, sl, ln, di, dl, dr)) : q_EX q_KD d 43 59 [.retAddr 0, .retAddr 0, .retAddr 0] [] (n, sl, ln, di, dl, dr) Q := by
  exact (x_vret 59 i43_59 rfl k1)

/-! SilentHouse$Reader.ask -/
set_option maxRecDepth 20000 in
theorem g44_0 {m n sl : Nat} {ln : Nat → Nat} {di : Nat → Nat → Int32} {dl : Nat → Nat → Int64} {dr : Nat → Nat → Option Nat} {x1 : Int32} {Q : Option Value → q_H → Prop} (hg : q_Gr n ln dr)
    (k2 : (¬ (di 39 8) = (224 : Int32)) → q_EX q_KD m 42 0 [.ref 39, .int 2, .int x1, .retAddr 0, .retAddr 0] [] (n, sl, ln, di, dl, dr) (fun r1 h1 => q_EX q_KD (m + 1) 44 39 [.ref 39, .int x1, .retAddr 0] (r1.toList ++ []) h1 Q))
    (k3 : ((di 39 8) = (224 : Int32)) → q_EX q_KD m 45 0 [.ref 39, .int x1] [] (n, sl, ln, di, dl, dr) (fun r1 h1 => q_EX q_KD (m + 1) 44 15 [.ref 39, .int x1, .retAddr 0] (r1.toList ++ []) h1 Q)) : q_EX q_KD (m + 1) 44 0 [.ref 39, .int x1, .retAddr 0] [] (n, sl, ln, di, dl, dr) Q := by
  refine (x_aload_n 0 i44_0 rfl ?_)
  refine (x_getI 1 8 (di 39 8) i44_1 rfl (q_lt hg rfl) (Nat.le_of_ble_eq_true rfl) (Or.inl rfl) rfl rfl ?_)
  refine (x_sipush 4 224 i44_4 rfl ?_)
  refine (x_icmp_ne 7 33 i44_7 rfl (fun c1 => ?_) (fun c1 => ?_))
  · refine (x_aload_n 33 i44_33 rfl ?_)
    refine (x_iconst 34 2 i44_34 rfl ?_)
    refine (x_iload_n 35 i44_35 rfl ?_)
    exact (x_cv 36 (as := [.int 2, .int x1]) (rs := []) i44_36 rfl rfl rfl rfl (Nat.le_of_ble_eq_true rfl) (q_lt hg rfl) rfl (Or.inr (Nat.le_of_ble_eq_true rfl)) (Nat.le_of_ble_eq_true rfl) rfl rfl (k2 c1))
  · refine (x_aload_n 10 i44_10 rfl ?_)
    refine (x_iload_n 11 i44_11 rfl ?_)
    exact (x_cv 12 (as := [.int x1]) (rs := []) i44_12 rfl rfl rfl rfl (Nat.le_of_ble_eq_true rfl) (q_lt hg rfl) rfl (Or.inr (Nat.le_of_ble_eq_true rfl)) (Nat.le_of_ble_eq_true rfl) rfl rfl (k3 c1))

set_option maxRecDepth 20000 in
theorem g44_39 {m n sl : Nat} {ln : Nat → Nat} {di : Nat → Nat → Int32} {dl : Nat → Nat → Int64} {dr : Nat → Nat → Option Nat} {x1 : Int32} {Q : Option Value → q_H → Prop} (hg : q_Gr n ln dr)
    (k1 : q_EX q_KD m 47 0 [.int (di 39 8)] [] (n, sl, ln, di, dl, dr) (fun r1 h1 => q_EX q_KD (m + 1) 44 48 [.ref 39, .int x1, .int (di 39 8)] (r1.toList ++ []) h1 Q)) : q_EX q_KD (m + 1) 44 39 [.ref 39, .int x1, .retAddr 0] [] (n, sl, ln, di, dl, dr) Q := by
  refine (x_aload_n 39 i44_39 rfl ?_)
  refine (x_getI 40 8 (di 39 8) i44_40 rfl (q_lt hg rfl) (Nat.le_of_ble_eq_true rfl) (Or.inl rfl) rfl rfl ?_)
  refine (x_istore_n 43 (ls2 := [.ref 39, .int x1, .int (di 39 8)]) i44_43 (Nat.le_of_ble_eq_true rfl) rfl ?_)
  refine (x_iload_n 44 i44_44 rfl ?_)
  exact (x_cs 45 (as := [.int (di 39 8)]) (rs := []) i44_45 rfl rfl rfl rfl (Nat.le_of_ble_eq_true rfl) (Nat.le_of_ble_eq_true rfl) rfl rfl k1)

set_option maxRecDepth 20000 in
theorem g44_15 {m n sl : Nat} {ln : Nat → Nat} {di : Nat → Nat → Int32} {dl : Nat → Nat → Int64} {dr : Nat → Nat → Option Nat} {x1 : Int32} {y0 : Int32} {Q : Option Value → q_H → Prop} (hg : q_Gr n ln dr)
    (k2 : (y0 = (0 : Int32)) → Q none (n, sl, ln, di, dl, dr))
    (k3 : (¬ y0 = (0 : Int32)) → q_EX q_KD m 44 0 [.ref 39, .int (x1 + (1 : Int32)), .retAddr 0] [] (n, sl, ln, di, dl, dr) (fun r1 h1 => q_EX q_KD (m + 1) 44 25 [.ref 39, .retAddr 0, .retAddr 0] (r1.toList ++ []) h1 Q)) : q_EX q_KD (m + 1) 44 15 [.ref 39, .int x1, .retAddr 0] [.int y0] (n, sl, ln, di, dl, dr) Q := by
  refine (x_if_eq 15 32 i44_15 rfl (fun c1 => ?_) (fun c1 => ?_))
  · exact (x_vret 32 i44_32 rfl (k2 c1))
  · refine (x_aload_n 18 i44_18 rfl ?_)
    refine (x_iload_n 19 i44_19 rfl ?_)
    refine (x_iconst 20 1 i44_20 rfl ?_)
    refine (x_iadd 21 i44_21 ?_)
    refine (xx_loc (ls := [.ref 39, .retAddr 0, .retAddr 0]) (ls' := [.ref 39, .int x1, .retAddr 0]) ⟨Or.inl rfl, Or.inr rfl, Or.inl rfl, trivial⟩ ?_)
    exact (x_cv 22 (as := [.int (x1 + (1 : Int32))]) (rs := []) i44_22 rfl rfl rfl rfl (Nat.le_of_ble_eq_true rfl) (q_lt hg rfl) rfl (Or.inr (Nat.le_of_ble_eq_true rfl)) (Nat.le_of_ble_eq_true rfl) rfl rfl (k3 c1))

set_option maxRecDepth 20000 in
theorem g44_48 {m n sl : Nat} {ln : Nat → Nat} {di : Nat → Nat → Int32} {dl : Nat → Nat → Int64} {dr : Nat → Nat → Option Nat} {x1 : Int32} {x2 : Int32} {y0 : Int32} {Q : Option Value → q_H → Prop} (hg : q_Gr n ln dr)
    (k2 : (y0 = (0 : Int32)) → q_EX q_KD m 40 0 [.ref 39, .int 1] [] (n, sl, ln, di, dl, dr) (fun r1 h1 => q_EX q_KD (m + 1) 44 78 [.retAddr 0, .retAddr 0, .retAddr 0] (r1.toList ++ []) h1 Q))
    (k3 : (¬ y0 = (0 : Int32)) → q_EX q_KD m 41 0 [.ref 39] [] (n, sl, ln, di, dl, dr) (fun r1 h1 => q_EX q_KD (m + 1) 44 55 [.ref 39, .int x1, .int x2] (r1.toList ++ []) h1 Q)) : q_EX q_KD (m + 1) 44 48 [.ref 39, .int x1, .int x2] [.int y0] (n, sl, ln, di, dl, dr) Q := by
  refine (x_if_eq 48 73 i44_48 rfl (fun c1 => ?_) (fun c1 => ?_))
  · refine (x_aload_n 73 i44_73 rfl ?_)
    refine (x_iconst 74 1 i44_74 rfl ?_)
    refine (xx_loc (ls := [.retAddr 0, .retAddr 0, .retAddr 0]) (ls' := [.ref 39, .int x1, .int x2]) ⟨Or.inr rfl, Or.inr rfl, Or.inr rfl, trivial⟩ ?_)
    exact (x_cv 75 (as := [.int 1]) (rs := []) i44_75 rfl rfl rfl rfl (Nat.le_of_ble_eq_true rfl) (q_lt hg rfl) rfl (Or.inr (Nat.le_of_ble_eq_true rfl)) (Nat.le_of_ble_eq_true rfl) rfl rfl (k2 c1))
  · refine (x_aload_n 51 i44_51 rfl ?_)
    exact (x_cv 52 (as := []) (rs := []) i44_52 rfl rfl rfl rfl (Nat.le_of_ble_eq_true rfl) (q_lt hg rfl) rfl (Or.inr (Nat.le_of_ble_eq_true rfl)) (Nat.le_of_ble_eq_true rfl) rfl rfl (k3 c1))

set_option maxRecDepth 20000 in
theorem g44_25 {m n sl : Nat} {ln : Nat → Nat} {di : Nat → Nat → Int32} {dl : Nat → Nat → Int64} {dr : Nat → Nat → Option Nat} {Q : Option Value → q_H → Prop} (hg : q_Gr n ln dr)
    (k1 : q_EX q_KD m 46 0 [.ref 39, .int 20224] [] (n, sl, ln, di, dl, dr) (fun r1 h1 => q_EX q_KD (m + 1) 44 32 [.retAddr 0, .retAddr 0, .retAddr 0] (r1.toList ++ []) h1 Q)) : q_EX q_KD (m + 1) 44 25 [.ref 39, .retAddr 0, .retAddr 0] [] (n, sl, ln, di, dl, dr) Q := by
  refine (x_aload_n 25 i44_25 rfl ?_)
  refine (x_sipush 26 20224 i44_26 rfl ?_)
  refine (xx_loc (ls := [.retAddr 0, .retAddr 0, .retAddr 0]) (ls' := [.ref 39, .retAddr 0, .retAddr 0]) ⟨Or.inr rfl, Or.inl rfl, Or.inl rfl, trivial⟩ ?_)
  exact (x_cv 29 (as := [.int 20224]) (rs := []) i44_29 rfl rfl rfl rfl (Nat.le_of_ble_eq_true rfl) (q_lt hg rfl) rfl (Or.inr (Nat.le_of_ble_eq_true rfl)) (Nat.le_of_ble_eq_true rfl) rfl rfl k1)

set_option maxRecDepth 20000 in
theorem g44_78 {d n sl : Nat} {ln : Nat → Nat} {di : Nat → Nat → Int32} {dl : Nat → Nat → Int64} {dr : Nat → Nat → Option Nat} {Q : Option Value → q_H → Prop} (hg : q_Gr n ln dr)
    (k1 : Q none (n, sl, ln, di, dl, dr)) : q_EX q_KD d 44 78 [.retAddr 0, .retAddr 0, .retAddr 0] [] (n, sl, ln, di, dl, dr) Q := by
  exact (x_vret 78 i44_78 rfl k1)

set_option maxRecDepth 20000 in
theorem g44_55 {m n sl : Nat} {ln : Nat → Nat} {di : Nat → Nat → Int32} {dl : Nat → Nat → Int64} {dr : Nat → Nat → Option Nat} {x1 : Int32} {x2 : Int32} {Q : Option Value → q_H → Prop} (hg : q_Gr n ln dr)
    (k1 : q_EX q_KD m 42 0 [.ref 39, .int 2, .int x1, .retAddr 0, .retAddr 0] [] (n, sl, ln, di, dl, dr) (fun r1 h1 => q_EX q_KD (m + 1) 44 61 [.ref 39, .retAddr 0, .int x2] (r1.toList ++ []) h1 Q)) : q_EX q_KD (m + 1) 44 55 [.ref 39, .int x1, .int x2] [] (n, sl, ln, di, dl, dr) Q := by
  refine (x_aload_n 55 i44_55 rfl ?_)
  refine (x_iconst 56 2 i44_56 rfl ?_)
  refine (x_iload_n 57 i44_57 rfl ?_)
  refine (xx_loc (ls := [.ref 39, .retAddr 0, .int x2]) (ls' := [.ref 39, .int x1, .int x2]) ⟨Or.inl rfl, Or.inr rfl, Or.inl rfl, trivial⟩ ?_)
  exact (x_cv 58 (as := [.int 2, .int x1]) (rs := []) i44_58 rfl rfl rfl rfl (Nat.le_of_ble_eq_true rfl) (q_lt hg rfl) rfl (Or.inr (Nat.le_of_ble_eq_true rfl)) (Nat.le_of_ble_eq_true rfl) rfl rfl k1)

set_option maxRecDepth 20000 in
theorem g44_32 {d n sl : Nat} {ln : Nat → Nat} {di : Nat → Nat → Int32} {dl : Nat → Nat → Int64} {dr : Nat → Nat → Option Nat} {Q : Option Value → q_H → Prop} (hg : q_Gr n ln dr)
    (k1 : Q none (n, sl, ln, di, dl, dr)) : q_EX q_KD d 44 32 [.retAddr 0, .retAddr 0, .retAddr 0] [] (n, sl, ln, di, dl, dr) Q := by
  exact (x_vret 32 i44_32 rfl k1)

set_option maxRecDepth 20000 in
theorem g44_61 {m n sl : Nat} {ln : Nat → Nat} {di : Nat → Nat → Int32} {dl : Nat → Nat → Int64} {dr : Nat → Nat → Option Nat} {x2 : Int32} {Q : Option Value → q_H → Prop} (hg : q_Gr n ln dr)
    (k1 : q_EX q_KD m 46 0 [.ref 39, .int ((20000 : Int32) + x2)] [] (n, sl, ln, di, dl, dr) (fun r1 h1 => q_EX q_KD (m + 1) 44 70 [.retAddr 0, .retAddr 0, .retAddr 0] (r1.toList ++ []) h1 Q)) : q_EX q_KD (m + 1) 44 61 [.ref 39, .retAddr 0, .int x2] [] (n, sl, ln, di, dl, dr) Q := by
  refine (x_aload_n 61 i44_61 rfl ?_)
  refine (x_sipush 62 20000 i44_62 rfl ?_)
  refine (x_iload_n 65 i44_65 rfl ?_)
  refine (x_iadd 66 i44_66 ?_)
  refine (xx_loc (ls := [.retAddr 0, .retAddr 0, .retAddr 0]) (ls' := [.ref 39, .retAddr 0, .int x2]) ⟨Or.inr rfl, Or.inl rfl, Or.inr rfl, trivial⟩ ?_)
  exact (x_cv 67 (as := [.int ((20000 : Int32) + x2)]) (rs := []) i44_67 rfl rfl rfl rfl (Nat.le_of_ble_eq_true rfl) (q_lt hg rfl) rfl (Or.inr (Nat.le_of_ble_eq_true rfl)) (Nat.le_of_ble_eq_true rfl) rfl rfl k1)

set_option maxRecDepth 20000 in
theorem g44_70 {d n sl : Nat} {ln : Nat → Nat} {di : Nat → Nat → Int32} {dl : Nat → Nat → Int64} {dr : Nat → Nat → Option Nat} {Q : Option Value → q_H → Prop} (hg : q_Gr n ln dr)
    (k1 : Q none (n, sl, ln, di, dl, dr)) : q_EX q_KD d 44 70 [.retAddr 0, .retAddr 0, .retAddr 0] [] (n, sl, ln, di, dl, dr) Q := by
  refine (x_goto 70 78 i44_70 rfl ?_)
  exact (x_vret 78 i44_78 rfl k1)

/-! SilentHouse$Reader.opens -/
set_option maxRecDepth 20000 in
theorem g45_0 {m n sl : Nat} {ln : Nat → Nat} {di : Nat → Nat → Int32} {dl : Nat → Nat → Int64} {dr : Nat → Nat → Option Nat} {x1 : Int32} {Q : Option Value → q_H → Prop} (hg : q_Gr n ln dr)
    (k2 : (x1 < (8 : Int32)) → q_EX q_KD m 41 0 [.ref 39] [] (n, sl, ln, di, dl, dr) (fun r1 h1 => q_EX q_KD (m + 1) 45 17 [.retAddr 0, .retAddr 0] (r1.toList ++ []) h1 Q))
    (k3 : ((8 : Int32) ≤ x1) → q_EX q_KD m 40 0 [.ref 39, .int 3] [] (n, sl, ln, di, dl, dr) (fun r1 h1 => q_EX q_KD (m + 1) 45 11 [.retAddr 0, .retAddr 0] (r1.toList ++ []) h1 Q)) : q_EX q_KD (m + 1) 45 0 [.ref 39, .int x1] [] (n, sl, ln, di, dl, dr) Q := by
  refine (x_iload_n 0 i45_0 rfl ?_)
  refine (x_bipush 1 8 i45_1 rfl ?_)
  refine (x_icmp_lt 3 13 i45_3 rfl (fun c1 => ?_) (fun c1 => ?_))
  · refine (x_aload_n 13 i45_13 rfl ?_)
    refine (xx_loc (ls := [.retAddr 0, .retAddr 0]) (ls' := [.ref 39, .int x1]) ⟨Or.inr rfl, Or.inr rfl, trivial⟩ ?_)
    exact (x_cv 14 (as := []) (rs := []) i45_14 rfl rfl rfl rfl (Nat.le_of_ble_eq_true rfl) (q_lt hg rfl) rfl (Or.inr (Nat.le_of_ble_eq_true rfl)) (Nat.le_of_ble_eq_true rfl) rfl rfl (k2 c1))
  · refine (x_aload_n 6 i45_6 rfl ?_)
    refine (x_iconst 7 3 i45_7 rfl ?_)
    refine (xx_loc (ls := [.retAddr 0, .retAddr 0]) (ls' := [.ref 39, .int x1]) ⟨Or.inr rfl, Or.inr rfl, trivial⟩ ?_)
    exact (x_cv 8 (as := [.int 3]) (rs := []) i45_8 rfl rfl rfl rfl (Nat.le_of_ble_eq_true rfl) (q_lt hg rfl) rfl (Or.inr (Nat.le_of_ble_eq_true rfl)) (Nat.le_of_ble_eq_true rfl) rfl rfl (k3 c1))

set_option maxRecDepth 20000 in
theorem g45_17 {d n sl : Nat} {ln : Nat → Nat} {di : Nat → Nat → Int32} {dl : Nat → Nat → Int64} {dr : Nat → Nat → Option Nat} {Q : Option Value → q_H → Prop} (hg : q_Gr n ln dr)
    (k1 : Q (some (.int 1)) (n, sl, ln, di, dl, dr)) : q_EX q_KD d 45 17 [.retAddr 0, .retAddr 0] [] (n, sl, ln, di, dl, dr) Q := by
  refine (x_iconst 17 1 i45_17 rfl ?_)
  exact (x_iret1 18 i45_18 rfl k1)

set_option maxRecDepth 20000 in
theorem g45_11 {d n sl : Nat} {ln : Nat → Nat} {di : Nat → Nat → Int32} {dl : Nat → Nat → Int64} {dr : Nat → Nat → Option Nat} {Q : Option Value → q_H → Prop} (hg : q_Gr n ln dr)
    (k1 : Q (some (.int 0)) (n, sl, ln, di, dl, dr)) : q_EX q_KD d 45 11 [.retAddr 0, .retAddr 0] [] (n, sl, ln, di, dl, dr) Q := by
  refine (x_iconst 11 0 i45_11 rfl ?_)
  exact (x_iret0 12 i45_12 rfl k1)

/-! SilentHouse$Reader.emit -/
set_option maxRecDepth 20000 in
theorem g46_0 {d n sl : Nat} {ln : Nat → Nat} {di : Nat → Nat → Int32} {dl : Nat → Nat → Int64} {dr : Nat → Nat → Option Nat} {x1 : Int32} {Q : Option Value → q_H → Prop} (hg : q_Gr n ln dr)
    (k2 : ((300 : Int32) ≤ (di 39 9)) → Q none (n, sl, ln, di, dl, dr))
    (s3 : ((di 39 9) < (300 : Int32)) → vp_in (di 39 9) 300)
    (k4 : ((di 39 9) < (300 : Int32)) → Q none (n, sl, ln, (q_u (q_u di 44 ((di 39 9).toNatClampNeg) x1) 39 9 ((di 39 9) + (1 : Int32))), dl, dr)) : q_EX q_KD d 46 0 [.ref 39, .int x1] [] (n, sl, ln, di, dl, dr) Q := by
  refine (x_aload_n 0 i46_0 rfl ?_)
  refine (x_getI 1 9 (di 39 9) i46_1 rfl (q_lt hg rfl) (Nat.le_of_ble_eq_true rfl) (Or.inl rfl) rfl rfl ?_)
  refine (x_sipush 4 300 i46_4 rfl ?_)
  refine (x_icmp_ge 7 30 i46_7 rfl (fun c1 => ?_) (fun c1 => ?_))
  · exact (x_vret 30 i46_30 rfl (k2 c1))
  · refine (x_aload_n 10 i46_10 rfl ?_)
    refine (x_getR 11 44 i46_11 rfl (q_lt hg rfl) (Nat.le_of_ble_eq_true rfl) rfl (hg.2.2.1 39 1 44 rfl) ?_)
    refine (x_aload_n 14 i46_14 rfl ?_)
    refine (x_getI 15 9 (di 39 9) i46_15 rfl (q_lt hg rfl) (Nat.le_of_ble_eq_true rfl) (Or.inl rfl) rfl rfl ?_)
    refine (x_iload_n 18 i46_18 rfl ?_)
    refine (x_iastore 19 i46_19 rfl (Nat.le_of_ble_eq_true rfl) (q_lt hg rfl) (q_inE (hg.2.1 44 300 rfl) (s3 c1)) ?_)
    refine (x_aload_n 20 i46_20 rfl ?_)
    refine (x_dup 21 i46_21 rfl ?_)
    refine (x_getI 22 9 (di 39 9) i46_22 rfl (q_lt hg rfl) (Nat.le_of_ble_eq_true rfl) (Or.inl rfl) rfl rfl ?_)
    refine (x_iconst 25 1 i46_25 rfl ?_)
    refine (x_iadd 26 i46_26 ?_)
    refine (x_putI 27 9 i46_27 rfl (Nat.le_of_ble_eq_true rfl) (q_lt hg rfl) rfl rfl ?_)
    exact (x_vret 30 i46_30 rfl (k4 c1))

/-! SilentHouse$Reader.isRelation -/
set_option maxRecDepth 20000 in
theorem g47_0 {d n sl : Nat} {ln : Nat → Nat} {di : Nat → Nat → Int32} {dl : Nat → Nat → Int64} {dr : Nat → Nat → Option Nat} {x0 : Int32} {Q : Option Value → q_H → Prop} (hg : q_Gr n ln dr)
    (k2 : (x0 = (60 : Int32)) → Q (some (.int 1)) (n, sl, ln, di, dl, dr))
    (k4 : (¬ x0 = (60 : Int32)) → (x0 = (62 : Int32)) → Q (some (.int 1)) (n, sl, ln, di, dl, dr))
    (k6 : (¬ x0 = (60 : Int32)) → (¬ x0 = (62 : Int32)) → (x0 = (61 : Int32)) → Q (some (.int 1)) (n, sl, ln, di, dl, dr))
    (k8 : (¬ x0 = (60 : Int32)) → (¬ x0 = (62 : Int32)) → (¬ x0 = (61 : Int32)) → (x0 = (35 : Int32)) → Q (some (.int 1)) (n, sl, ln, di, dl, dr))
    (k10 : (¬ x0 = (60 : Int32)) → (¬ x0 = (62 : Int32)) → (¬ x0 = (61 : Int32)) → (¬ x0 = (35 : Int32)) → (x0 = (128 : Int32)) → Q (some (.int 1)) (n, sl, ln, di, dl, dr))
    (k12 : (¬ x0 = (60 : Int32)) → (¬ x0 = (62 : Int32)) → (¬ x0 = (61 : Int32)) → (¬ x0 = (35 : Int32)) → (¬ x0 = (128 : Int32)) → (¬ x0 = (129 : Int32)) → Q (some (.int 0)) (n, sl, ln, di, dl, dr))
    (k13 : (¬ x0 = (60 : Int32)) → (¬ x0 = (62 : Int32)) → (¬ x0 = (61 : Int32)) → (¬ x0 = (35 : Int32)) → (¬ x0 = (128 : Int32)) → (x0 = (129 : Int32)) → Q (some (.int 1)) (n, sl, ln, di, dl, dr)) : q_EX q_KD d 47 0 [.int x0] [] (n, sl, ln, di, dl, dr) Q := by
  refine (x_iload_n 0 i47_0 rfl ?_)
  refine (x_bipush 1 60 i47_1 rfl ?_)
  refine (x_icmp_eq 3 38 i47_3 rfl (fun c1 => ?_) (fun c1 => ?_))
  · refine (x_iconst 38 1 i47_38 rfl ?_)
    refine (x_goto 39 43 i47_39 rfl ?_)
    exact (x_iret1 43 i47_43 rfl (k2 c1))
  · refine (x_iload_n 6 i47_6 rfl ?_)
    refine (x_bipush 7 62 i47_7 rfl ?_)
    refine (x_icmp_eq 9 38 i47_9 rfl (fun c3 => ?_) (fun c3 => ?_))
    · refine (x_iconst 38 1 i47_38 rfl ?_)
      refine (x_goto 39 43 i47_39 rfl ?_)
      exact (x_iret1 43 i47_43 rfl (k4 c1 c3))
    · refine (x_iload_n 12 i47_12 rfl ?_)
      refine (x_bipush 13 61 i47_13 rfl ?_)
      refine (x_icmp_eq 15 38 i47_15 rfl (fun c5 => ?_) (fun c5 => ?_))
      · refine (x_iconst 38 1 i47_38 rfl ?_)
        refine (x_goto 39 43 i47_39 rfl ?_)
        exact (x_iret1 43 i47_43 rfl (k6 c1 c3 c5))
      · refine (x_iload_n 18 i47_18 rfl ?_)
        refine (x_bipush 19 35 i47_19 rfl ?_)
        refine (x_icmp_eq 21 38 i47_21 rfl (fun c7 => ?_) (fun c7 => ?_))
        · refine (x_iconst 38 1 i47_38 rfl ?_)
          refine (x_goto 39 43 i47_39 rfl ?_)
          exact (x_iret1 43 i47_43 rfl (k8 c1 c3 c5 c7))
        · refine (x_iload_n 24 i47_24 rfl ?_)
          refine (x_sipush 25 128 i47_25 rfl ?_)
          refine (x_icmp_eq 28 38 i47_28 rfl (fun c9 => ?_) (fun c9 => ?_))
          · refine (x_iconst 38 1 i47_38 rfl ?_)
            refine (x_goto 39 43 i47_39 rfl ?_)
            exact (x_iret1 43 i47_43 rfl (k10 c1 c3 c5 c7 c9))
          · refine (x_iload_n 31 i47_31 rfl ?_)
            refine (x_sipush 32 129 i47_32 rfl ?_)
            refine (x_icmp_ne 35 42 i47_35 rfl (fun c11 => ?_) (fun c11 => ?_))
            · refine (x_iconst 42 0 i47_42 rfl ?_)
              exact (x_iret0 43 i47_43 rfl (k12 c1 c3 c5 c7 c9 c11))
            · refine (x_iconst 38 1 i47_38 rfl ?_)
              refine (x_goto 39 43 i47_39 rfl ?_)
              exact (x_iret1 43 i47_43 rfl (k13 c1 c3 c5 c7 c9 c11))

/-! SilentHouse$Reader.one -/
set_option maxRecDepth 20000 in
theorem g48_0 {m n sl : Nat} {ln : Nat → Nat} {di : Nat → Nat → Int32} {dl : Nat → Nat → Int64} {dr : Nat → Nat → Option Nat} {x1 : Int32} {Q : Option Value → q_H → Prop} (hg : q_Gr n ln dr)
    (k5 : ((di 39 8) < (300 : Int32)) → ((di 39 8) < (200 : Int32)) → (¬ (di 39 8) = (40 : Int32)) → (¬ (di 39 8) = (45 : Int32)) → q_EX q_KD m 40 0 [.ref 39, .int 1] [] (n, sl, ln, di, dl, dr) (fun r1 h1 => q_EX q_KD (m + 1) 48 132 [.retAddr 0, .retAddr 0] (r1.toList ++ []) h1 Q))
    (k6 : ((di 39 8) < (300 : Int32)) → ((di 39 8) < (200 : Int32)) → (¬ (di 39 8) = (40 : Int32)) → ((di 39 8) = (45 : Int32)) → q_EX q_KD m 45 0 [.ref 39, .int x1] [] (n, sl, ln, di, dl, dr) (fun r1 h1 => q_EX q_KD (m + 1) 48 107 [.ref 39, .int x1] (r1.toList ++ []) h1 Q))
    (k7 : ((di 39 8) < (300 : Int32)) → ((di 39 8) < (200 : Int32)) → ((di 39 8) = (40 : Int32)) → q_EX q_KD m 45 0 [.ref 39, .int x1] [] (n, sl, ln, di, dl, dr) (fun r1 h1 => q_EX q_KD (m + 1) 48 73 [.ref 39, .int x1] (r1.toList ++ []) h1 Q))
    (k11 : ((di 39 8) < (300 : Int32)) → ((200 : Int32) ≤ (di 39 8)) → ((214 : Int32) ≤ (di 39 8)) → (¬ (di 39 8) = (40 : Int32)) → (¬ (di 39 8) = (45 : Int32)) → q_EX q_KD m 40 0 [.ref 39, .int 1] [] (n, sl, ln, di, dl, dr) (fun r1 h1 => q_EX q_KD (m + 1) 48 132 [.retAddr 0, .retAddr 0] (r1.toList ++ []) h1 Q))
    (k12 : ((di 39 8) < (300 : Int32)) → ((200 : Int32) ≤ (di 39 8)) → ((214 : Int32) ≤ (di 39 8)) → (¬ (di 39 8) = (40 : Int32)) → ((di 39 8) = (45 : Int32)) → q_EX q_KD m 45 0 [.ref 39, .int x1] [] (n, sl, ln, di, dl, dr) (fun r1 h1 => q_EX q_KD (m + 1) 48 107 [.ref 39, .int x1] (r1.toList ++ []) h1 Q))
    (k13 : ((di 39 8) < (300 : Int32)) → ((200 : Int32) ≤ (di 39 8)) → ((214 : Int32) ≤ (di 39 8)) → ((di 39 8) = (40 : Int32)) → q_EX q_KD m 45 0 [.ref 39, .int x1] [] (n, sl, ln, di, dl, dr) (fun r1 h1 => q_EX q_KD (m + 1) 48 73 [.ref 39, .int x1] (r1.toList ++ []) h1 Q))
    (k14 : ((di 39 8) < (300 : Int32)) → ((200 : Int32) ≤ (di 39 8)) → ((di 39 8) < (214 : Int32)) → q_EX q_KD m 50 0 [.ref 39, .int ((di 39 8) - (200 : Int32))] [] (n, sl, ln, di, dl, dr) (fun r1 h1 => q_EX q_KD (m + 1) 48 56 [.retAddr 0, .retAddr 0] (r1.toList ++ []) h1 Q))
    (k15 : ((300 : Int32) ≤ (di 39 8)) → q_EX q_KD m 49 0 [.ref 39, .int 9999, .retAddr 0] [] (n, sl, ln, di, dl, dr) (fun r1 h1 => q_EX q_KD (m + 1) 48 18 [.retAddr 0, .retAddr 0] (r1.toList ++ [.ref 39]) h1 Q)) : q_EX q_KD (m + 1) 48 0 [.ref 39, .int x1] [] (n, sl, ln, di, dl, dr) Q := by
  refine (x_aload_n 0 i48_0 rfl ?_)
  refine (x_getI 1 8 (di 39 8) i48_1 rfl (q_lt hg rfl) (Nat.le_of_ble_eq_true rfl) (Or.inl rfl) rfl rfl ?_)
  refine (x_sipush 4 300 i48_4 rfl ?_)
  refine (x_icmp_lt 7 24 i48_7 rfl (fun c1 => ?_) (fun c1 => ?_))
  · refine (x_aload_n 24 i48_24 rfl ?_)
    refine (x_getI 25 8 (di 39 8) i48_25 rfl (q_lt hg rfl) (Nat.le_of_ble_eq_true rfl) (Or.inl rfl) rfl rfl ?_)
    refine (x_sipush 28 200 i48_28 rfl ?_)
    refine (x_icmp_lt 31 59 i48_31 rfl (fun c2 => ?_) (fun c2 => ?_))
    · refine (x_aload_n 59 i48_59 rfl ?_)
      refine (x_getI 60 8 (di 39 8) i48_60 rfl (q_lt hg rfl) (Nat.le_of_ble_eq_true rfl) (Or.inl rfl) rfl rfl ?_)
      refine (x_bipush 63 40 i48_63 rfl ?_)
      refine (x_icmp_ne 65 93 i48_65 rfl (fun c3 => ?_) (fun c3 => ?_))
      · refine (x_aload_n 93 i48_93 rfl ?_)
        refine (x_getI 94 8 (di 39 8) i48_94 rfl (q_lt hg rfl) (Nat.le_of_ble_eq_true rfl) (Or.inl rfl) rfl rfl ?_)
        refine (x_bipush 97 45 i48_97 rfl ?_)
        refine (x_icmp_ne 99 127 i48_99 rfl (fun c4 => ?_) (fun c4 => ?_))
        · refine (x_aload_n 127 i48_127 rfl ?_)
          refine (x_iconst 128 1 i48_128 rfl ?_)
          refine (xx_loc (ls := [.retAddr 0, .retAddr 0]) (ls' := [.ref 39, .int x1]) ⟨Or.inr rfl, Or.inr rfl, trivial⟩ ?_)
          exact (x_cv 129 (as := [.int 1]) (rs := []) i48_129 rfl rfl rfl rfl (Nat.le_of_ble_eq_true rfl) (q_lt hg rfl) rfl (Or.inr (Nat.le_of_ble_eq_true rfl)) (Nat.le_of_ble_eq_true rfl) rfl rfl (k5 c1 c2 c3 c4))
        · refine (x_aload_n 102 i48_102 rfl ?_)
          refine (x_iload_n 103 i48_103 rfl ?_)
          exact (x_cv 104 (as := [.int x1]) (rs := []) i48_104 rfl rfl rfl rfl (Nat.le_of_ble_eq_true rfl) (q_lt hg rfl) rfl (Or.inr (Nat.le_of_ble_eq_true rfl)) (Nat.le_of_ble_eq_true rfl) rfl rfl (k6 c1 c2 c3 c4))
      · refine (x_aload_n 68 i48_68 rfl ?_)
        refine (x_iload_n 69 i48_69 rfl ?_)
        exact (x_cv 70 (as := [.int x1]) (rs := []) i48_70 rfl rfl rfl rfl (Nat.le_of_ble_eq_true rfl) (q_lt hg rfl) rfl (Or.inr (Nat.le_of_ble_eq_true rfl)) (Nat.le_of_ble_eq_true rfl) rfl rfl (k7 c1 c2 c3))
    · refine (x_aload_n 34 i48_34 rfl ?_)
      refine (x_getI 35 8 (di 39 8) i48_35 rfl (q_lt hg rfl) (Nat.le_of_ble_eq_true rfl) (Or.inl rfl) rfl rfl ?_)
      refine (x_sipush 38 214 i48_38 rfl ?_)
      refine (x_icmp_ge 41 59 i48_41 rfl (fun c8 => ?_) (fun c8 => ?_))
      · refine (x_aload_n 59 i48_59 rfl ?_)
        refine (x_getI 60 8 (di 39 8) i48_60 rfl (q_lt hg rfl) (Nat.le_of_ble_eq_true rfl) (Or.inl rfl) rfl rfl ?_)
        refine (x_bipush 63 40 i48_63 rfl ?_)
        refine (x_icmp_ne 65 93 i48_65 rfl (fun c9 => ?_) (fun c9 => ?_))
        · refine (x_aload_n 93 i48_93 rfl ?_)
          refine (x_getI 94 8 (di 39 8) i48_94 rfl (q_lt hg rfl) (Nat.le_of_ble_eq_true rfl) (Or.inl rfl) rfl rfl ?_)
          refine (x_bipush 97 45 i48_97 rfl ?_)
          refine (x_icmp_ne 99 127 i48_99 rfl (fun c10 => ?_) (fun c10 => ?_))
          · refine (x_aload_n 127 i48_127 rfl ?_)
            refine (x_iconst 128 1 i48_128 rfl ?_)
            refine (xx_loc (ls := [.retAddr 0, .retAddr 0]) (ls' := [.ref 39, .int x1]) ⟨Or.inr rfl, Or.inr rfl, trivial⟩ ?_)
            exact (x_cv 129 (as := [.int 1]) (rs := []) i48_129 rfl rfl rfl rfl (Nat.le_of_ble_eq_true rfl) (q_lt hg rfl) rfl (Or.inr (Nat.le_of_ble_eq_true rfl)) (Nat.le_of_ble_eq_true rfl) rfl rfl (k11 c1 c2 c8 c9 c10))
          · refine (x_aload_n 102 i48_102 rfl ?_)
            refine (x_iload_n 103 i48_103 rfl ?_)
            exact (x_cv 104 (as := [.int x1]) (rs := []) i48_104 rfl rfl rfl rfl (Nat.le_of_ble_eq_true rfl) (q_lt hg rfl) rfl (Or.inr (Nat.le_of_ble_eq_true rfl)) (Nat.le_of_ble_eq_true rfl) rfl rfl (k12 c1 c2 c8 c9 c10))
        · refine (x_aload_n 68 i48_68 rfl ?_)
          refine (x_iload_n 69 i48_69 rfl ?_)
          exact (x_cv 70 (as := [.int x1]) (rs := []) i48_70 rfl rfl rfl rfl (Nat.le_of_ble_eq_true rfl) (q_lt hg rfl) rfl (Or.inr (Nat.le_of_ble_eq_true rfl)) (Nat.le_of_ble_eq_true rfl) rfl rfl (k13 c1 c2 c8 c9))
      · refine (x_aload_n 44 i48_44 rfl ?_)
        refine (x_aload_n 45 i48_45 rfl ?_)
        refine (x_getI 46 8 (di 39 8) i48_46 rfl (q_lt hg rfl) (Nat.le_of_ble_eq_true rfl) (Or.inl rfl) rfl rfl ?_)
        refine (x_sipush 49 200 i48_49 rfl ?_)
        refine (x_isub 52 i48_52 ?_)
        refine (xx_loc (ls := [.retAddr 0, .retAddr 0]) (ls' := [.ref 39, .int x1]) ⟨Or.inr rfl, Or.inr rfl, trivial⟩ ?_)
        exact (x_cv 53 (as := [.int ((di 39 8) - (200 : Int32))]) (rs := []) i48_53 rfl rfl rfl rfl (Nat.le_of_ble_eq_true rfl) (q_lt hg rfl) rfl (Or.inr (Nat.le_of_ble_eq_true rfl)) (Nat.le_of_ble_eq_true rfl) rfl rfl (k14 c1 c2 c8))
  · refine (x_aload_n 10 i48_10 rfl ?_)
    refine (x_aload_n 11 i48_11 rfl ?_)
    refine (x_sipush 12 9999 i48_12 rfl ?_)
    refine (xx_loc (ls := [.retAddr 0, .retAddr 0]) (ls' := [.ref 39, .int x1]) ⟨Or.inr rfl, Or.inr rfl, trivial⟩ ?_)
    exact (x_cv 15 (as := [.int 9999]) (rs := [.ref 39]) i48_15 rfl rfl rfl rfl (Nat.le_of_ble_eq_true rfl) (q_lt hg rfl) rfl (Or.inr (Nat.le_of_ble_eq_true rfl)) (Nat.le_of_ble_eq_true rfl) rfl rfl (k15 c1))

set_option maxRecDepth 20000 in
theorem g48_132 {d n sl : Nat} {ln : Nat → Nat} {di : Nat → Nat → Int32} {dl : Nat → Nat → Int64} {dr : Nat → Nat → Option Nat} {Q : Option Value → q_H → Prop} (hg : q_Gr n ln dr)
    (k1 : Q none (n, sl, ln, di, dl, dr)) : q_EX q_KD d 48 132 [.retAddr 0, .retAddr 0] [] (n, sl, ln, di, dl, dr) Q := by
  exact (x_vret 132 i48_132 rfl k1)

set_option maxRecDepth 20000 in
theorem g48_107 {m n sl : Nat} {ln : Nat → Nat} {di : Nat → Nat → Int32} {dl : Nat → Nat → Int64} {dr : Nat → Nat → Option Nat} {x1 : Int32} {y0 : Int32} {Q : Option Value → q_H → Prop} (hg : q_Gr n ln dr)
    (k2 : (y0 = (0 : Int32)) → Q none (n, sl, ln, di, dl, dr))
    (k3 : (¬ y0 = (0 : Int32)) → q_EX q_KD m 48 0 [.ref 39, .int (x1 + (1 : Int32))] [] (n, sl, ln, di, dl, dr) (fun r1 h1 => q_EX q_KD (m + 1) 48 117 [.ref 39, .retAddr 0] (r1.toList ++ []) h1 Q)) : q_EX q_KD (m + 1) 48 107 [.ref 39, .int x1] [.int y0] (n, sl, ln, di, dl, dr) Q := by
  refine (x_if_eq 107 132 i48_107 rfl (fun c1 => ?_) (fun c1 => ?_))
  · exact (x_vret 132 i48_132 rfl (k2 c1))
  · refine (x_aload_n 110 i48_110 rfl ?_)
    refine (x_iload_n 111 i48_111 rfl ?_)
    refine (x_iconst 112 1 i48_112 rfl ?_)
    refine (x_iadd 113 i48_113 ?_)
    refine (xx_loc (ls := [.ref 39, .retAddr 0]) (ls' := [.ref 39, .int x1]) ⟨Or.inl rfl, Or.inr rfl, trivial⟩ ?_)
    exact (x_cv 114 (as := [.int (x1 + (1 : Int32))]) (rs := []) i48_114 rfl rfl rfl rfl (Nat.le_of_ble_eq_true rfl) (q_lt hg rfl) rfl (Or.inr (Nat.le_of_ble_eq_true rfl)) (Nat.le_of_ble_eq_true rfl) rfl rfl (k3 c1))

set_option maxRecDepth 20000 in
theorem g48_73 {m n sl : Nat} {ln : Nat → Nat} {di : Nat → Nat → Int32} {dl : Nat → Nat → Int64} {dr : Nat → Nat → Option Nat} {x1 : Int32} {y0 : Int32} {Q : Option Value → q_H → Prop} (hg : q_Gr n ln dr)
    (k2 : (y0 = (0 : Int32)) → Q none (n, sl, ln, di, dl, dr))
    (k3 : (¬ y0 = (0 : Int32)) → q_EX q_KD m 42 0 [.ref 39, .int 2, .int (x1 + (1 : Int32)), .retAddr 0, .retAddr 0] [] (n, sl, ln, di, dl, dr) (fun r1 h1 => q_EX q_KD (m + 1) 48 84 [.ref 39, .retAddr 0] (r1.toList ++ []) h1 Q)) : q_EX q_KD (m + 1) 48 73 [.ref 39, .int x1] [.int y0] (n, sl, ln, di, dl, dr) Q := by
  refine (x_if_eq 73 132 i48_73 rfl (fun c1 => ?_) (fun c1 => ?_))
  · exact (x_vret 132 i48_132 rfl (k2 c1))
  · refine (x_aload_n 76 i48_76 rfl ?_)
    refine (x_iconst 77 2 i48_77 rfl ?_)
    refine (x_iload_n 78 i48_78 rfl ?_)
    refine (x_iconst 79 1 i48_79 rfl ?_)
    refine (x_iadd 80 i48_80 ?_)
    refine (xx_loc (ls := [.ref 39, .retAddr 0]) (ls' := [.ref 39, .int x1]) ⟨Or.inl rfl, Or.inr rfl, trivial⟩ ?_)
    exact (x_cv 81 (as := [.int 2, .int (x1 + (1 : Int32))]) (rs := []) i48_81 rfl rfl rfl rfl (Nat.le_of_ble_eq_true rfl) (q_lt hg rfl) rfl (Or.inr (Nat.le_of_ble_eq_true rfl)) (Nat.le_of_ble_eq_true rfl) rfl rfl (k3 c1))

set_option maxRecDepth 20000 in
theorem g48_56 {d n sl : Nat} {ln : Nat → Nat} {di : Nat → Nat → Int32} {dl : Nat → Nat → Int64} {dr : Nat → Nat → Option Nat} {Q : Option Value → q_H → Prop} (hg : q_Gr n ln dr)
    (k1 : Q none (n, sl, ln, di, dl, dr)) : q_EX q_KD d 48 56 [.retAddr 0, .retAddr 0] [] (n, sl, ln, di, dl, dr) Q := by
  refine (x_goto 56 132 i48_56 rfl ?_)
  exact (x_vret 132 i48_132 rfl k1)

set_option maxRecDepth 20000 in
theorem g48_18 {m n sl : Nat} {ln : Nat → Nat} {di : Nat → Nat → Int32} {dl : Nat → Nat → Int64} {dr : Nat → Nat → Option Nat} {y0 : Int32} {Q : Option Value → q_H → Prop} (hg : q_Gr n ln dr)
    (k1 : q_EX q_KD m 46 0 [.ref 39, .int y0] [] (n, sl, ln, di, dl, dr) (fun r1 h1 => q_EX q_KD (m + 1) 48 21 [.retAddr 0, .retAddr 0] (r1.toList ++ []) h1 Q)) : q_EX q_KD (m + 1) 48 18 [.retAddr 0, .retAddr 0] [.int y0, .ref 39] (n, sl, ln, di, dl, dr) Q := by
  exact (x_cv 18 (as := [.int y0]) (rs := []) i48_18 rfl rfl rfl rfl (Nat.le_of_ble_eq_true rfl) (q_lt hg rfl) rfl (Or.inr (Nat.le_of_ble_eq_true rfl)) (Nat.le_of_ble_eq_true rfl) rfl rfl k1)

set_option maxRecDepth 20000 in
theorem g48_117 {m n sl : Nat} {ln : Nat → Nat} {di : Nat → Nat → Int32} {dl : Nat → Nat → Int64} {dr : Nat → Nat → Option Nat} {Q : Option Value → q_H → Prop} (hg : q_Gr n ln dr)
    (k1 : q_EX q_KD m 46 0 [.ref 39, .int 20130] [] (n, sl, ln, di, dl, dr) (fun r1 h1 => q_EX q_KD (m + 1) 48 124 [.retAddr 0, .retAddr 0] (r1.toList ++ []) h1 Q)) : q_EX q_KD (m + 1) 48 117 [.ref 39, .retAddr 0] [] (n, sl, ln, di, dl, dr) Q := by
  refine (x_aload_n 117 i48_117 rfl ?_)
  refine (x_sipush 118 20130 i48_118 rfl ?_)
  refine (xx_loc (ls := [.retAddr 0, .retAddr 0]) (ls' := [.ref 39, .retAddr 0]) ⟨Or.inr rfl, Or.inl rfl, trivial⟩ ?_)
  exact (x_cv 121 (as := [.int 20130]) (rs := []) i48_121 rfl rfl rfl rfl (Nat.le_of_ble_eq_true rfl) (q_lt hg rfl) rfl (Or.inr (Nat.le_of_ble_eq_true rfl)) (Nat.le_of_ble_eq_true rfl) rfl rfl k1)

set_option maxRecDepth 20000 in
theorem g48_84 {m n sl : Nat} {ln : Nat → Nat} {di : Nat → Nat → Int32} {dl : Nat → Nat → Int64} {dr : Nat → Nat → Option Nat} {Q : Option Value → q_H → Prop} (hg : q_Gr n ln dr)
    (k1 : q_EX q_KD m 51 0 [.ref 39, .int 41] [] (n, sl, ln, di, dl, dr) (fun r1 h1 => q_EX q_KD (m + 1) 48 90 [.retAddr 0, .retAddr 0] (r1.toList ++ []) h1 Q)) : q_EX q_KD (m + 1) 48 84 [.ref 39, .retAddr 0] [] (n, sl, ln, di, dl, dr) Q := by
  refine (x_aload_n 84 i48_84 rfl ?_)
  refine (x_bipush 85 41 i48_85 rfl ?_)
  refine (xx_loc (ls := [.retAddr 0, .retAddr 0]) (ls' := [.ref 39, .retAddr 0]) ⟨Or.inr rfl, Or.inl rfl, trivial⟩ ?_)
  exact (x_cv 87 (as := [.int 41]) (rs := []) i48_87 rfl rfl rfl rfl (Nat.le_of_ble_eq_true rfl) (q_lt hg rfl) rfl (Or.inr (Nat.le_of_ble_eq_true rfl)) (Nat.le_of_ble_eq_true rfl) rfl rfl k1)

set_option maxRecDepth 20000 in
theorem g48_21 {d n sl : Nat} {ln : Nat → Nat} {di : Nat → Nat → Int32} {dl : Nat → Nat → Int64} {dr : Nat → Nat → Option Nat} {Q : Option Value → q_H → Prop} (hg : q_Gr n ln dr)
    (k1 : Q none (n, sl, ln, di, dl, dr)) : q_EX q_KD d 48 21 [.retAddr 0, .retAddr 0] [] (n, sl, ln, di, dl, dr) Q := by
  refine (x_goto 21 132 i48_21 rfl ?_)
  exact (x_vret 132 i48_132 rfl k1)

set_option maxRecDepth 20000 in
theorem g48_124 {d n sl : Nat} {ln : Nat → Nat} {di : Nat → Nat → Int32} {dl : Nat → Nat → Int64} {dr : Nat → Nat → Option Nat} {Q : Option Value → q_H → Prop} (hg : q_Gr n ln dr)
    (k1 : Q none (n, sl, ln, di, dl, dr)) : q_EX q_KD d 48 124 [.retAddr 0, .retAddr 0] [] (n, sl, ln, di, dl, dr) Q := by
  refine (x_goto 124 132 i48_124 rfl ?_)
  exact (x_vret 132 i48_132 rfl k1)

set_option maxRecDepth 20000 in
theorem g48_90 {d n sl : Nat} {ln : Nat → Nat} {di : Nat → Nat → Int32} {dl : Nat → Nat → Int64} {dr : Nat → Nat → Option Nat} {Q : Option Value → q_H → Prop} (hg : q_Gr n ln dr)
    (k1 : Q none (n, sl, ln, di, dl, dr)) : q_EX q_KD d 48 90 [.retAddr 0, .retAddr 0] [] (n, sl, ln, di, dl, dr) Q := by
  refine (x_goto 90 132 i48_90 rfl ?_)
  exact (x_vret 132 i48_132 rfl k1)

/-! SilentHouse$Reader.numberTo -/
set_option maxRecDepth 20000 in
theorem g49_0 {m n sl : Nat} {ln : Nat → Nat} {di : Nat → Nat → Int32} {dl : Nat → Nat → Int64} {dr : Nat → Nat → Option Nat} {x1 : Int32} {Q : Option Value → q_H → Prop} (hg : q_Gr n ln dr)
    (k3 : ((0 : Int32) ≤ ((di 39 8) - (300 : Int32))) → (((di 39 8) - (300 : Int32)) ≤ x1) → q_EX q_KD m 41 0 [.ref 39] [] (n, sl, ln, di, dl, dr) (fun r1 h1 => q_EX q_KD (m + 1) 49 36 [.retAddr 0, .retAddr 0, .int ((di 39 8) - (300 : Int32))] (r1.toList ++ []) h1 Q))
    (k4 : ((0 : Int32) ≤ ((di 39 8) - (300 : Int32))) → (x1 < ((di 39 8) - (300 : Int32))) → q_EX q_KD m 40 0 [.ref 39, .int 2] [] (n, sl, ln, di, dl, dr) (fun r1 h1 => q_EX q_KD (m + 1) 49 30 [.retAddr 0, .retAddr 0, .retAddr 0] (r1.toList ++ []) h1 Q))
    (k5 : (((di 39 8) - (300 : Int32)) < (0 : Int32)) → q_EX q_KD m 40 0 [.ref 39, .int 1] [] (n, sl, ln, di, dl, dr) (fun r1 h1 => q_EX q_KD (m + 1) 49 18 [.retAddr 0, .retAddr 0, .retAddr 0] (r1.toList ++ []) h1 Q)) : q_EX q_KD (m + 1) 49 0 [.ref 39, .int x1, .retAddr 0] [] (n, sl, ln, di, dl, dr) Q := by
  refine (x_aload_n 0 i49_0 rfl ?_)
  refine (x_getI 1 8 (di 39 8) i49_1 rfl (q_lt hg rfl) (Nat.le_of_ble_eq_true rfl) (Or.inl rfl) rfl rfl ?_)
  refine (x_sipush 4 300 i49_4 rfl ?_)
  refine (x_isub 7 i49_7 ?_)
  refine (x_istore_n 8 (ls2 := [.ref 39, .int x1, .int ((di 39 8) - (300 : Int32))]) i49_8 (Nat.le_of_ble_eq_true rfl) rfl ?_)
  refine (x_iload_n 9 i49_9 rfl ?_)
  refine (x_if_ge 10 20 i49_10 rfl (fun c1 => ?_) (fun c1 => ?_))
  · refine (x_iload_n 20 i49_20 rfl ?_)
    refine (x_iload_n 21 i49_21 rfl ?_)
    refine (x_icmp_le 22 32 i49_22 rfl (fun c2 => ?_) (fun c2 => ?_))
    · refine (x_aload_n 32 i49_32 rfl ?_)
      refine (xx_loc (ls := [.retAddr 0, .retAddr 0, .int ((di 39 8) - (300 : Int32))]) (ls' := [.ref 39, .int x1, .int ((di 39 8) - (300 : Int32))]) ⟨Or.inr rfl, Or.inr rfl, Or.inl rfl, trivial⟩ ?_)
      exact (x_cv 33 (as := []) (rs := []) i49_33 rfl rfl rfl rfl (Nat.le_of_ble_eq_true rfl) (q_lt hg rfl) rfl (Or.inr (Nat.le_of_ble_eq_true rfl)) (Nat.le_of_ble_eq_true rfl) rfl rfl (k3 c1 c2))
    · refine (x_aload_n 25 i49_25 rfl ?_)
      refine (x_iconst 26 2 i49_26 rfl ?_)
      refine (xx_loc (ls := [.retAddr 0, .retAddr 0, .retAddr 0]) (ls' := [.ref 39, .int x1, .int ((di 39 8) - (300 : Int32))]) ⟨Or.inr rfl, Or.inr rfl, Or.inr rfl, trivial⟩ ?_)
      exact (x_cv 27 (as := [.int 2]) (rs := []) i49_27 rfl rfl rfl rfl (Nat.le_of_ble_eq_true rfl) (q_lt hg rfl) rfl (Or.inr (Nat.le_of_ble_eq_true rfl)) (Nat.le_of_ble_eq_true rfl) rfl rfl (k4 c1 c2))
  · refine (x_aload_n 13 i49_13 rfl ?_)
    refine (x_iconst 14 1 i49_14 rfl ?_)
    refine (xx_loc (ls := [.retAddr 0, .retAddr 0, .retAddr 0]) (ls' := [.ref 39, .int x1, .int ((di 39 8) - (300 : Int32))]) ⟨Or.inr rfl, Or.inr rfl, Or.inr rfl, trivial⟩ ?_)
    exact (x_cv 15 (as := [.int 1]) (rs := []) i49_15 rfl rfl rfl rfl (Nat.le_of_ble_eq_true rfl) (q_lt hg rfl) rfl (Or.inr (Nat.le_of_ble_eq_true rfl)) (Nat.le_of_ble_eq_true rfl) rfl rfl (k5 c1))

set_option maxRecDepth 20000 in
theorem g49_36 {d n sl : Nat} {ln : Nat → Nat} {di : Nat → Nat → Int32} {dl : Nat → Nat → Int64} {dr : Nat → Nat → Option Nat} {x2 : Int32} {Q : Option Value → q_H → Prop} (hg : q_Gr n ln dr)
    (k1 : Q (some (.int x2)) (n, sl, ln, di, dl, dr)) : q_EX q_KD d 49 36 [.retAddr 0, .retAddr 0, .int x2] [] (n, sl, ln, di, dl, dr) Q := by
  refine (x_iload_n 36 i49_36 rfl ?_)
  exact (x_iretI 37 i49_37 rfl k1)

set_option maxRecDepth 20000 in
theorem g49_30 {d n sl : Nat} {ln : Nat → Nat} {di : Nat → Nat → Int32} {dl : Nat → Nat → Int64} {dr : Nat → Nat → Option Nat} {Q : Option Value → q_H → Prop} (hg : q_Gr n ln dr)
    (k1 : Q (some (.int 0)) (n, sl, ln, di, dl, dr)) : q_EX q_KD d 49 30 [.retAddr 0, .retAddr 0, .retAddr 0] [] (n, sl, ln, di, dl, dr) Q := by
  refine (x_iconst 30 0 i49_30 rfl ?_)
  exact (x_iretI 31 i49_31 rfl k1)

set_option maxRecDepth 20000 in
theorem g49_18 {d n sl : Nat} {ln : Nat → Nat} {di : Nat → Nat → Int32} {dl : Nat → Nat → Int64} {dr : Nat → Nat → Option Nat} {Q : Option Value → q_H → Prop} (hg : q_Gr n ln dr)
    (k1 : Q (some (.int 0)) (n, sl, ln, di, dl, dr)) : q_EX q_KD d 49 18 [.retAddr 0, .retAddr 0, .retAddr 0] [] (n, sl, ln, di, dl, dr) Q := by
  refine (x_iconst 18 0 i49_18 rfl ?_)
  exact (x_iretI 19 i49_19 rfl k1)

/-! SilentHouse$Reader.nameOf -/
set_option maxRecDepth 20000 in
theorem g50_0 {m n sl : Nat} {ln : Nat → Nat} {di : Nat → Nat → Int32} {dl : Nat → Nat → Int64} {dr : Nat → Nat → Option Nat} {x1 : Int32} {Q : Option Value → q_H → Prop} (hg : q_Gr n ln dr)
    (s1 : vp_in (di 39 11) 3)
    (k4 : (¬ (((di 3 ((di 39 11).toNatClampNeg)) >>> (x1 &&& 31)) &&& (1 : Int32)) = (0 : Int32)) → (¬ (di 39 11) = (0 : Int32)) → q_EX q_KD m 46 0 [.ref 39, .int ((10000 : Int32) + x1)] [] (n, sl, ln, di, dl, dr) (fun r1 h1 => q_EX q_KD (m + 1) 50 52 [.ref 39, .retAddr 0] (r1.toList ++ []) h1 Q))
    (k6 : (¬ (((di 3 ((di 39 11).toNatClampNeg)) >>> (x1 &&& 31)) &&& (1 : Int32)) = (0 : Int32)) → ((di 39 11) = (0 : Int32)) → (x1 = (5 : Int32)) → q_EX q_KD m 46 0 [.ref 39, .int ((10000 : Int32) + x1)] [] (n, sl, ln, (q_u di 39 12 1), dl, dr) (fun r1 h1 => q_EX q_KD (m + 1) 50 52 [.ref 39, .retAddr 0] (r1.toList ++ []) h1 Q))
    (k8 : (¬ (((di 3 ((di 39 11).toNatClampNeg)) >>> (x1 &&& 31)) &&& (1 : Int32)) = (0 : Int32)) → ((di 39 11) = (0 : Int32)) → (¬ x1 = (5 : Int32)) → (¬ x1 = (2 : Int32)) → q_EX q_KD m 46 0 [.ref 39, .int ((10000 : Int32) + x1)] [] (n, sl, ln, di, dl, dr) (fun r1 h1 => q_EX q_KD (m + 1) 50 52 [.ref 39, .retAddr 0] (r1.toList ++ []) h1 Q))
    (k9 : (¬ (((di 3 ((di 39 11).toNatClampNeg)) >>> (x1 &&& 31)) &&& (1 : Int32)) = (0 : Int32)) → ((di 39 11) = (0 : Int32)) → (¬ x1 = (5 : Int32)) → (x1 = (2 : Int32)) → q_EX q_KD m 46 0 [.ref 39, .int ((10000 : Int32) + x1)] [] (n, sl, ln, (q_u di 39 12 1), dl, dr) (fun r1 h1 => q_EX q_KD (m + 1) 50 52 [.ref 39, .retAddr 0] (r1.toList ++ []) h1 Q))
    (k10 : ((((di 3 ((di 39 11).toNatClampNeg)) >>> (x1 &&& 31)) &&& (1 : Int32)) = (0 : Int32)) → q_EX q_KD m 40 0 [.ref 39, .int 5] [] (n, sl, ln, di, dl, dr) (fun r1 h1 => q_EX q_KD (m + 1) 50 20 [.retAddr 0, .retAddr 0] (r1.toList ++ []) h1 Q)) : q_EX q_KD (m + 1) 50 0 [.ref 39, .int x1] [] (n, sl, ln, di, dl, dr) Q := by
  refine (x_gsR 0 3 i50_0 rfl rfl ?_)
  refine (x_aload_n 3 i50_3 rfl ?_)
  refine (x_getI 4 11 (di 39 11) i50_4 rfl (q_lt hg rfl) (Nat.le_of_ble_eq_true rfl) (Or.inl rfl) rfl rfl ?_)
  refine (x_iaload 7 (di 3 ((di 39 11).toNatClampNeg)) i50_7 rfl (q_lt hg rfl) (q_inE (hg.2.1 3 3 rfl) s1) rfl ?_)
  refine (x_iload_n 8 i50_8 rfl ?_)
  refine (x_ishr 9 i50_9 ?_)
  refine (x_iconst 10 1 i50_10 rfl ?_)
  refine (x_iand 11 i50_11 ?_)
  refine (x_if_ne 12 21 i50_12 rfl (fun c2 => ?_) (fun c2 => ?_))
  · refine (x_aload_n 21 i50_21 rfl ?_)
    refine (x_getI 22 11 (di 39 11) i50_22 rfl (q_lt hg rfl) (Nat.le_of_ble_eq_true rfl) (Or.inl rfl) rfl rfl ?_)
    refine (x_if_ne 25 43 i50_25 rfl (fun c3 => ?_) (fun c3 => ?_))
    · refine (x_aload_n 43 i50_43 rfl ?_)
      refine (x_sipush 44 10000 i50_44 rfl ?_)
      refine (x_iload_n 47 i50_47 rfl ?_)
      refine (x_iadd 48 i50_48 ?_)
      refine (xx_loc (ls := [.ref 39, .retAddr 0]) (ls' := [.ref 39, .int x1]) ⟨Or.inl rfl, Or.inr rfl, trivial⟩ ?_)
      exact (x_cv 49 (as := [.int ((10000 : Int32) + x1)]) (rs := []) i50_49 rfl rfl rfl rfl (Nat.le_of_ble_eq_true rfl) (q_lt hg rfl) rfl (Or.inr (Nat.le_of_ble_eq_true rfl)) (Nat.le_of_ble_eq_true rfl) rfl rfl (k4 c2 c3))
    · refine (x_iload_n 28 i50_28 rfl ?_)
      refine (x_iconst 29 5 i50_29 rfl ?_)
      refine (x_icmp_eq 30 38 i50_30 rfl (fun c5 => ?_) (fun c5 => ?_))
      · refine (x_aload_n 38 i50_38 rfl ?_)
        refine (x_iconst 39 1 i50_39 rfl ?_)
        refine (x_putZ 40 12 i50_40 rfl (Nat.le_of_ble_eq_true rfl) (q_lt hg rfl) rfl rfl rfl ?_)
        refine (x_aload_n 43 i50_43 rfl ?_)
        refine (x_sipush 44 10000 i50_44 rfl ?_)
        refine (x_iload_n 47 i50_47 rfl ?_)
        refine (x_iadd 48 i50_48 ?_)
        refine (xx_loc (ls := [.ref 39, .retAddr 0]) (ls' := [.ref 39, .int x1]) ⟨Or.inl rfl, Or.inr rfl, trivial⟩ ?_)
        exact (x_cv 49 (as := [.int ((10000 : Int32) + x1)]) (rs := []) i50_49 rfl rfl rfl rfl (Nat.le_of_ble_eq_true rfl) (q_lt hg rfl) rfl (Or.inr (Nat.le_of_ble_eq_true rfl)) (Nat.le_of_ble_eq_true rfl) rfl rfl (k6 c2 c3 c5))
      · refine (x_iload_n 33 i50_33 rfl ?_)
        refine (x_iconst 34 2 i50_34 rfl ?_)
        refine (x_icmp_ne 35 43 i50_35 rfl (fun c7 => ?_) (fun c7 => ?_))
        · refine (x_aload_n 43 i50_43 rfl ?_)
          refine (x_sipush 44 10000 i50_44 rfl ?_)
          refine (x_iload_n 47 i50_47 rfl ?_)
          refine (x_iadd 48 i50_48 ?_)
          refine (xx_loc (ls := [.ref 39, .retAddr 0]) (ls' := [.ref 39, .int x1]) ⟨Or.inl rfl, Or.inr rfl, trivial⟩ ?_)
          exact (x_cv 49 (as := [.int ((10000 : Int32) + x1)]) (rs := []) i50_49 rfl rfl rfl rfl (Nat.le_of_ble_eq_true rfl) (q_lt hg rfl) rfl (Or.inr (Nat.le_of_ble_eq_true rfl)) (Nat.le_of_ble_eq_true rfl) rfl rfl (k8 c2 c3 c5 c7))
        · refine (x_aload_n 38 i50_38 rfl ?_)
          refine (x_iconst 39 1 i50_39 rfl ?_)
          refine (x_putZ 40 12 i50_40 rfl (Nat.le_of_ble_eq_true rfl) (q_lt hg rfl) rfl rfl rfl ?_)
          refine (x_aload_n 43 i50_43 rfl ?_)
          refine (x_sipush 44 10000 i50_44 rfl ?_)
          refine (x_iload_n 47 i50_47 rfl ?_)
          refine (x_iadd 48 i50_48 ?_)
          refine (xx_loc (ls := [.ref 39, .retAddr 0]) (ls' := [.ref 39, .int x1]) ⟨Or.inl rfl, Or.inr rfl, trivial⟩ ?_)
          exact (x_cv 49 (as := [.int ((10000 : Int32) + x1)]) (rs := []) i50_49 rfl rfl rfl rfl (Nat.le_of_ble_eq_true rfl) (q_lt hg rfl) rfl (Or.inr (Nat.le_of_ble_eq_true rfl)) (Nat.le_of_ble_eq_true rfl) rfl rfl (k9 c2 c3 c5 c7))
  · refine (x_aload_n 15 i50_15 rfl ?_)
    refine (x_iconst 16 5 i50_16 rfl ?_)
    refine (xx_loc (ls := [.retAddr 0, .retAddr 0]) (ls' := [.ref 39, .int x1]) ⟨Or.inr rfl, Or.inr rfl, trivial⟩ ?_)
    exact (x_cv 17 (as := [.int 5]) (rs := []) i50_17 rfl rfl rfl rfl (Nat.le_of_ble_eq_true rfl) (q_lt hg rfl) rfl (Or.inr (Nat.le_of_ble_eq_true rfl)) (Nat.le_of_ble_eq_true rfl) rfl rfl (k10 c2))

set_option maxRecDepth 20000 in
theorem g50_52 {m n sl : Nat} {ln : Nat → Nat} {di : Nat → Nat → Int32} {dl : Nat → Nat → Int64} {dr : Nat → Nat → Option Nat} {Q : Option Value → q_H → Prop} (hg : q_Gr n ln dr)
    (k1 : q_EX q_KD m 41 0 [.ref 39] [] (n, sl, ln, di, dl, dr) (fun r1 h1 => q_EX q_KD (m + 1) 50 56 [.retAddr 0, .retAddr 0] (r1.toList ++ []) h1 Q)) : q_EX q_KD (m + 1) 50 52 [.ref 39, .retAddr 0] [] (n, sl, ln, di, dl, dr) Q := by
  refine (x_aload_n 52 i50_52 rfl ?_)
  refine (xx_loc (ls := [.retAddr 0, .retAddr 0]) (ls' := [.ref 39, .retAddr 0]) ⟨Or.inr rfl, Or.inl rfl, trivial⟩ ?_)
  exact (x_cv 53 (as := []) (rs := []) i50_53 rfl rfl rfl rfl (Nat.le_of_ble_eq_true rfl) (q_lt hg rfl) rfl (Or.inr (Nat.le_of_ble_eq_true rfl)) (Nat.le_of_ble_eq_true rfl) rfl rfl k1)

set_option maxRecDepth 20000 in
theorem g50_20 {d n sl : Nat} {ln : Nat → Nat} {di : Nat → Nat → Int32} {dl : Nat → Nat → Int64} {dr : Nat → Nat → Option Nat} {Q : Option Value → q_H → Prop} (hg : q_Gr n ln dr)
    (k1 : Q none (n, sl, ln, di, dl, dr)) : q_EX q_KD d 50 20 [.retAddr 0, .retAddr 0] [] (n, sl, ln, di, dl, dr) Q := by
  exact (x_vret 20 i50_20 rfl k1)

set_option maxRecDepth 20000 in
theorem g50_56 {d n sl : Nat} {ln : Nat → Nat} {di : Nat → Nat → Int32} {dl : Nat → Nat → Int64} {dr : Nat → Nat → Option Nat} {Q : Option Value → q_H → Prop} (hg : q_Gr n ln dr)
    (k1 : Q none (n, sl, ln, di, dl, dr)) : q_EX q_KD d 50 56 [.retAddr 0, .retAddr 0] [] (n, sl, ln, di, dl, dr) Q := by
  exact (x_vret 56 i50_56 rfl k1)

/-! SilentHouse$Reader.expect -/
set_option maxRecDepth 20000 in
theorem g51_0 {m n sl : Nat} {ln : Nat → Nat} {di : Nat → Nat → Int32} {dl : Nat → Nat → Int64} {dr : Nat → Nat → Option Nat} {x1 : Int32} {Q : Option Value → q_H → Prop} (hg : q_Gr n ln dr)
    (k2 : (¬ (di 39 8) = x1) → q_EX q_KD m 40 0 [.ref 39, .int 1] [] (n, sl, ln, di, dl, dr) (fun r1 h1 => q_EX q_KD (m + 1) 51 20 [.retAddr 0, .retAddr 0] (r1.toList ++ []) h1 Q))
    (k3 : ((di 39 8) = x1) → q_EX q_KD m 41 0 [.ref 39] [] (n, sl, ln, di, dl, dr) (fun r1 h1 => q_EX q_KD (m + 1) 51 12 [.retAddr 0, .retAddr 0] (r1.toList ++ []) h1 Q)) : q_EX q_KD (m + 1) 51 0 [.ref 39, .int x1] [] (n, sl, ln, di, dl, dr) Q := by
  refine (x_aload_n 0 i51_0 rfl ?_)
  refine (x_getI 1 8 (di 39 8) i51_1 rfl (q_lt hg rfl) (Nat.le_of_ble_eq_true rfl) (Or.inl rfl) rfl rfl ?_)
  refine (x_iload_n 4 i51_4 rfl ?_)
  refine (x_icmp_ne 5 15 i51_5 rfl (fun c1 => ?_) (fun c1 => ?_))
  · refine (x_aload_n 15 i51_15 rfl ?_)
    refine (x_iconst 16 1 i51_16 rfl ?_)
    refine (xx_loc (ls := [.retAddr 0, .retAddr 0]) (ls' := [.ref 39, .int x1]) ⟨Or.inr rfl, Or.inr rfl, trivial⟩ ?_)
    exact (x_cv 17 (as := [.int 1]) (rs := []) i51_17 rfl rfl rfl rfl (Nat.le_of_ble_eq_true rfl) (q_lt hg rfl) rfl (Or.inr (Nat.le_of_ble_eq_true rfl)) (Nat.le_of_ble_eq_true rfl) rfl rfl (k2 c1))
  · refine (x_aload_n 8 i51_8 rfl ?_)
    refine (xx_loc (ls := [.retAddr 0, .retAddr 0]) (ls' := [.ref 39, .int x1]) ⟨Or.inr rfl, Or.inr rfl, trivial⟩ ?_)
    exact (x_cv 9 (as := []) (rs := []) i51_9 rfl rfl rfl rfl (Nat.le_of_ble_eq_true rfl) (q_lt hg rfl) rfl (Or.inr (Nat.le_of_ble_eq_true rfl)) (Nat.le_of_ble_eq_true rfl) rfl rfl (k3 c1))

set_option maxRecDepth 20000 in
theorem g51_20 {d n sl : Nat} {ln : Nat → Nat} {di : Nat → Nat → Int32} {dl : Nat → Nat → Int64} {dr : Nat → Nat → Option Nat} {Q : Option Value → q_H → Prop} (hg : q_Gr n ln dr)
    (k1 : Q none (n, sl, ln, di, dl, dr)) : q_EX q_KD d 51 20 [.retAddr 0, .retAddr 0] [] (n, sl, ln, di, dl, dr) Q := by
  exact (x_vret 20 i51_20 rfl k1)

set_option maxRecDepth 20000 in
theorem g51_12 {d n sl : Nat} {ln : Nat → Nat} {di : Nat → Nat → Int32} {dl : Nat → Nat → Int64} {dr : Nat → Nat → Option Nat} {Q : Option Value → q_H → Prop} (hg : q_Gr n ln dr)
    (k1 : Q none (n, sl, ln, di, dl, dr)) : q_EX q_KD d 51 12 [.retAddr 0, .retAddr 0] [] (n, sl, ln, di, dl, dr) Q := by
  refine (x_goto 12 20 i51_12 rfl ?_)
  exact (x_vret 20 i51_20 rfl k1)

/-! SilentHouse$Reader.rankOf -/
set_option maxRecDepth 20000 in
theorem g52_0 {d n sl : Nat} {ln : Nat → Nat} {di : Nat → Nat → Int32} {dl : Nat → Nat → Int64} {dr : Nat → Nat → Option Nat} {x0 : Int32} {Q : Option Value → q_H → Prop} (hg : q_Gr n ln dr)
    (k2 : (x0 = 42) → Q (some (.int 3)) (n, sl, ln, di, dl, dr))
    (k3 : (x0 = 43) → Q (some (.int 2)) (n, sl, ln, di, dl, dr))
    (k4 : (x0 = 45) → Q (some (.int 2)) (n, sl, ln, di, dl, dr))
    (k5 : (x0 = 47) → Q (some (.int 3)) (n, sl, ln, di, dl, dr))
    (k6 : (x0 = 222) → Q (some (.int 0)) (n, sl, ln, di, dl, dr))
    (k7 : (x0 = 223) → Q (some (.int 1)) (n, sl, ln, di, dl, dr))
    (k14 : (¬ x0 = 42) → (¬ x0 = 43) → (¬ x0 = 45) → (¬ x0 = 47) → (¬ x0 = 222) → (¬ x0 = 223) → Q (some (.int (-1))) (n, sl, ln, di, dl, dr)) : q_EX q_KD d 52 0 [.int x0] [] (n, sl, ln, di, dl, dr) Q := by
  refine (x_iload_n 0 i52_0 rfl ?_)
  exact (by
      by_cases h0 : x0 = 42 ∨ x0 = 43 ∨ x0 = 45 ∨ x0 = 47 ∨ x0 = 222 ∨ x0 = 223
      · rcases h0 with hv | hv | hv | hv | hv | hv
        · exact x_lsw 1 (off := 65) 66 rfl rfl (by rw [hv]; rfl) rfl ((fun c1 => (x_iconst 66 3 i52_66 rfl (x_iretI 67 i52_67 rfl (k2 c1)))) hv)
        · exact x_lsw 1 (off := 63) 64 rfl rfl (by rw [hv]; rfl) rfl ((fun c1 => (x_iconst 64 2 i52_64 rfl (x_iretI 65 i52_65 rfl (k3 c1)))) hv)
        · exact x_lsw 1 (off := 63) 64 rfl rfl (by rw [hv]; rfl) rfl ((fun c1 => (x_iconst 64 2 i52_64 rfl (x_iretI 65 i52_65 rfl (k4 c1)))) hv)
        · exact x_lsw 1 (off := 65) 66 rfl rfl (by rw [hv]; rfl) rfl ((fun c1 => (x_iconst 66 3 i52_66 rfl (x_iretI 67 i52_67 rfl (k5 c1)))) hv)
        · exact x_lsw 1 (off := 59) 60 rfl rfl (by rw [hv]; rfl) rfl ((fun c1 => (x_iconst 60 0 i52_60 rfl (x_iretI 61 i52_61 rfl (k6 c1)))) hv)
        · exact x_lsw 1 (off := 61) 62 rfl rfl (by rw [hv]; rfl) rfl ((fun c1 => (x_iconst 62 1 i52_62 rfl (x_iretI 63 i52_63 rfl (k7 c1)))) hv)
      · exact x_lsw 1 (off := 67) 68 rfl rfl (by
            show Op.lookupswitch.offset [(42, 65), (43, 63), (45, 63), (47, 65), (222, 59), (223, 61)] 67 (x0).toInt = 67
            rw [lv_osw (k := 42) (a := 42) (fun e => h0 (Or.inl e)) rfl]
            rw [lv_osw (k := 43) (a := 43) (fun e => h0 (Or.inr (Or.inl e))) rfl]
            rw [lv_osw (k := 45) (a := 45) (fun e => h0 (Or.inr (Or.inr (Or.inl e)))) rfl]
            rw [lv_osw (k := 47) (a := 47) (fun e => h0 (Or.inr (Or.inr (Or.inr (Or.inl e))))) rfl]
            rw [lv_osw (k := 222) (a := 222) (fun e => h0 (Or.inr (Or.inr (Or.inr (Or.inr (Or.inl e)))))) rfl]
            rw [lv_osw (k := 223) (a := 223) (fun e => h0 (Or.inr (Or.inr (Or.inr (Or.inr (Or.inr (e))))))) rfl]
            rfl) rfl ((fun c8 c9 c10 c11 c12 c13 => (x_iconst 68 (-1) i52_68 rfl (x_iretI 69 i52_69 rfl (k14 c8 c9 c10 c11 c12 c13)))) (fun e => h0 (Or.inl e)) (fun e => h0 (Or.inr (Or.inl e))) (fun e => h0 (Or.inr (Or.inr (Or.inl e)))) (fun e => h0 (Or.inr (Or.inr (Or.inr (Or.inl e))))) (fun e => h0 (Or.inr (Or.inr (Or.inr (Or.inr (Or.inl e)))))) (fun e => h0 (Or.inr (Or.inr (Or.inr (Or.inr (Or.inr (e)))))))))

/-! SilentHouse$Reader.deed -/
set_option maxRecDepth 20000 in
theorem g53_0 {m n sl : Nat} {ln : Nat → Nat} {di : Nat → Nat → Int32} {dl : Nat → Nat → Int64} {dr : Nat → Nat → Option Nat} {x1 : Int32} {Q : Option Value → q_H → Prop} (hg : q_Gr n ln dr)
    (k3 : (x1 = (20 : Int32)) → (¬ x1 = (17 : Int32)) → Q none (n, sl, ln, di, dl, dr))
    (k4 : (x1 = (20 : Int32)) → (x1 = (17 : Int32)) → q_EX q_KD m 51 0 [.ref 39, .int 221] [] (n, sl, ln, di, dl, dr) (fun r1 h1 => q_EX q_KD (m + 1) 53 33 [.ref 39, .retAddr 0] (r1.toList ++ []) h1 Q))
    (k5 : (¬ x1 = (20 : Int32)) → q_EX q_KD m 49 0 [.ref 39, .int 5, .retAddr 0] [] (n, sl, ln, di, dl, dr) (fun r1 h1 => q_EX q_KD (m + 1) 53 19 [.ref 39, .int x1] (r1.toList ++ [.int (di 39 10), .ref 48]) h1 Q)) : q_EX q_KD (m + 1) 53 0 [.ref 39, .int x1] [] (n, sl, ln, di, dl, dr) Q := by
  refine (x_iload_n 0 i53_0 rfl ?_)
  refine (x_bipush 1 20 i53_1 rfl ?_)
  refine (x_icmp_eq 3 20 i53_3 rfl (fun c1 => ?_) (fun c1 => ?_))
  · refine (x_iload_n 20 i53_20 rfl ?_)
    refine (x_bipush 21 17 i53_21 rfl ?_)
    refine (x_icmp_ne 23 48 i53_23 rfl (fun c2 => ?_) (fun c2 => ?_))
    · exact (x_vret 48 i53_48 rfl (k3 c1 c2))
    · refine (x_aload_n 26 i53_26 rfl ?_)
      refine (x_sipush 27 221 i53_27 rfl ?_)
      refine (xx_loc (ls := [.ref 39, .retAddr 0]) (ls' := [.ref 39, .int x1]) ⟨Or.inl rfl, Or.inr rfl, trivial⟩ ?_)
      exact (x_cv 30 (as := [.int 221]) (rs := []) i53_30 rfl rfl rfl rfl (Nat.le_of_ble_eq_true rfl) (q_lt hg rfl) rfl (Or.inr (Nat.le_of_ble_eq_true rfl)) (Nat.le_of_ble_eq_true rfl) rfl rfl (k4 c1 c2))
  · refine (x_aload_n 6 i53_6 rfl ?_)
    refine (x_getR 7 48 i53_7 rfl (q_lt hg rfl) (Nat.le_of_ble_eq_true rfl) rfl (hg.2.2.1 39 5 48 rfl) ?_)
    refine (x_aload_n 10 i53_10 rfl ?_)
    refine (x_getI 11 10 (di 39 10) i53_11 rfl (q_lt hg rfl) (Nat.le_of_ble_eq_true rfl) (Or.inl rfl) rfl rfl ?_)
    refine (x_aload_n 14 i53_14 rfl ?_)
    refine (x_iconst 15 5 i53_15 rfl ?_)
    exact (x_cv 16 (as := [.int 5]) (rs := [.int (di 39 10), .ref 48]) i53_16 rfl rfl rfl rfl (Nat.le_of_ble_eq_true rfl) (q_lt hg rfl) rfl (Or.inr (Nat.le_of_ble_eq_true rfl)) (Nat.le_of_ble_eq_true rfl) rfl rfl (k5 c1))

set_option maxRecDepth 20000 in
theorem g53_33 {m n sl : Nat} {ln : Nat → Nat} {di : Nat → Nat → Int32} {dl : Nat → Nat → Int64} {dr : Nat → Nat → Option Nat} {Q : Option Value → q_H → Prop} (hg : q_Gr n ln dr)
    (k1 : q_EX q_KD m 49 0 [.ref 39, .int 15, .retAddr 0] [] (n, sl, ln, di, dl, dr) (fun r1 h1 => q_EX q_KD (m + 1) 53 47 [.retAddr 0, .retAddr 0] (r1.toList ++ [.int (di 39 10), .ref 49]) h1 Q)) : q_EX q_KD (m + 1) 53 33 [.ref 39, .retAddr 0] [] (n, sl, ln, di, dl, dr) Q := by
  refine (x_aload_n 33 i53_33 rfl ?_)
  refine (x_getR 34 49 i53_34 rfl (q_lt hg rfl) (Nat.le_of_ble_eq_true rfl) rfl (hg.2.2.1 39 6 49 rfl) ?_)
  refine (x_aload_n 37 i53_37 rfl ?_)
  refine (x_getI 38 10 (di 39 10) i53_38 rfl (q_lt hg rfl) (Nat.le_of_ble_eq_true rfl) (Or.inl rfl) rfl rfl ?_)
  refine (x_aload_n 41 i53_41 rfl ?_)
  refine (x_bipush 42 15 i53_42 rfl ?_)
  refine (xx_loc (ls := [.retAddr 0, .retAddr 0]) (ls' := [.ref 39, .retAddr 0]) ⟨Or.inr rfl, Or.inl rfl, trivial⟩ ?_)
  exact (x_cv 44 (as := [.int 15]) (rs := [.int (di 39 10), .ref 49]) i53_44 rfl rfl rfl rfl (Nat.le_of_ble_eq_true rfl) (q_lt hg rfl) rfl (Or.inr (Nat.le_of_ble_eq_true rfl)) (Nat.le_of_ble_eq_true rfl) rfl rfl k1)

set_option maxRecDepth 20000 in
theorem g53_19 {m n sl : Nat} {ln : Nat → Nat} {di : Nat → Nat → Int32} {dl : Nat → Nat → Int64} {dr : Nat → Nat → Option Nat} {x1 : Int32} {y0 : Int32} {y1 : Int32} {Q : Option Value → q_H → Prop} (hg : q_Gr n ln dr)
    (s1 : vp_in y1 24)
    (k3 : (¬ x1 = (17 : Int32)) → Q none (n, sl, ln, (q_u di 48 y1.toNatClampNeg y0), dl, dr))
    (k4 : (x1 = (17 : Int32)) → q_EX q_KD m 51 0 [.ref 39, .int 221] [] (n, sl, ln, (q_u di 48 y1.toNatClampNeg y0), dl, dr) (fun r1 h1 => q_EX q_KD (m + 1) 53 33 [.ref 39, .retAddr 0] (r1.toList ++ []) h1 Q)) : q_EX q_KD (m + 1) 53 19 [.ref 39, .int x1] [.int y0, .int y1, .ref 48] (n, sl, ln, di, dl, dr) Q := by
  refine (x_iastore 19 i53_19 rfl (Nat.le_of_ble_eq_true rfl) (q_lt hg rfl) (q_inE (hg.2.1 48 24 rfl) s1) ?_)
  refine (x_iload_n 20 i53_20 rfl ?_)
  refine (x_bipush 21 17 i53_21 rfl ?_)
  refine (x_icmp_ne 23 48 i53_23 rfl (fun c2 => ?_) (fun c2 => ?_))
  · exact (x_vret 48 i53_48 rfl (k3 c2))
  · refine (x_aload_n 26 i53_26 rfl ?_)
    refine (x_sipush 27 221 i53_27 rfl ?_)
    refine (xx_loc (ls := [.ref 39, .retAddr 0]) (ls' := [.ref 39, .int x1]) ⟨Or.inl rfl, Or.inr rfl, trivial⟩ ?_)
    exact (x_cv 30 (as := [.int 221]) (rs := []) i53_30 rfl rfl rfl rfl (Nat.le_of_ble_eq_true rfl) (q_lt hg rfl) rfl (Or.inr (Nat.le_of_ble_eq_true rfl)) (Nat.le_of_ble_eq_true rfl) rfl rfl (k4 c2))

set_option maxRecDepth 20000 in
theorem g53_47 {d n sl : Nat} {ln : Nat → Nat} {di : Nat → Nat → Int32} {dl : Nat → Nat → Int64} {dr : Nat → Nat → Option Nat} {y0 : Int32} {y1 : Int32} {Q : Option Value → q_H → Prop} (hg : q_Gr n ln dr)
    (s1 : vp_in y1 24)
    (k2 : Q none (n, sl, ln, (q_u di 49 y1.toNatClampNeg y0), dl, dr)) : q_EX q_KD d 53 47 [.retAddr 0, .retAddr 0] [.int y0, .int y1, .ref 49] (n, sl, ln, di, dl, dr) Q := by
  refine (x_iastore 47 i53_47 rfl (Nat.le_of_ble_eq_true rfl) (q_lt hg rfl) (q_inE (hg.2.1 49 24 rfl) s1) ?_)
  exact (x_vret 48 i53_48 rfl k2)

/-! SilentHouse$House.tellScript -/
set_option maxRecDepth 20000 in
theorem g56_0 {d n sl : Nat} {ln : Nat → Nat} {di : Nat → Nat → Int32} {dl : Nat → Nat → Int64} {dr : Nat → Nat → Option Nat} {Q : Option Value → q_H → Prop} (hg : q_Gr n ln dr) {s : Nat} (hs : q_scr n s)
    (s2 : ((di 7 14) < (4 : Int32)) → vp_in (di 7 14) 4)
    (k3 : ((di 7 14) < (4 : Int32)) → Q (some (.int (((di 7 14) + (1 : Int32)) - (1 : Int32)))) (n, sl, ln, (q_u di 7 14 ((di 7 14) + (1 : Int32))), dl, (q_u dr 16 ((di 7 14).toNatClampNeg) (some s))))
    (k4 : ((4 : Int32) ≤ (di 7 14)) → Q (some (.int (-1))) (n, sl, ln, di, dl, dr)) : q_EX q_KD d 56 0 [.ref 7, .ref s] [] (n, sl, ln, di, dl, dr) Q := by
  refine (x_aload_n 0 i56_0 rfl ?_)
  refine (x_getI 1 14 (di 7 14) i56_1 rfl (q_lt hg rfl) (Nat.le_of_ble_eq_true rfl) (Or.inl rfl) rfl rfl ?_)
  refine (x_iconst 4 4 i56_4 rfl ?_)
  refine (x_icmp_lt 5 10 i56_5 rfl (fun c1 => ?_) (fun c1 => ?_))
  · refine (x_aload_n 10 i56_10 rfl ?_)
    refine (x_getR 11 16 i56_11 rfl (q_lt hg rfl) (Nat.le_of_ble_eq_true rfl) rfl (hg.2.2.1 7 8 16 rfl) ?_)
    refine (x_aload_n 14 i56_14 rfl ?_)
    refine (x_getI 15 14 (di 7 14) i56_15 rfl (q_lt hg rfl) (Nat.le_of_ble_eq_true rfl) (Or.inl rfl) rfl rfl ?_)
    refine (x_aload_n 18 i56_18 rfl ?_)
    refine (x_aastore 19 i56_19 (q_3S hs) rfl (Nat.le_of_ble_eq_true rfl) (q_lt hg rfl) (q_inE (hg.2.1 16 4 rfl) (s2 c1)) ?_)
    refine (x_aload_n 20 i56_20 rfl ?_)
    refine (x_dup 21 i56_21 rfl ?_)
    refine (x_getI 22 14 (di 7 14) i56_22 rfl (q_lt hg rfl) (Nat.le_of_ble_eq_true rfl) (Or.inl rfl) rfl rfl ?_)
    refine (x_iconst 25 1 i56_25 rfl ?_)
    refine (x_iadd 26 i56_26 ?_)
    refine (x_putI 27 14 i56_27 rfl (Nat.le_of_ble_eq_true rfl) (q_lt hg rfl) rfl rfl ?_)
    refine (x_aload_n 30 i56_30 rfl ?_)
    refine (x_getI 31 14 ((di 7 14) + (1 : Int32)) i56_31 rfl (q_lt hg rfl) (Nat.le_of_ble_eq_true rfl) (Or.inl rfl) rfl rfl ?_)
    refine (x_iconst 34 1 i56_34 rfl ?_)
    refine (x_isub 35 i56_35 ?_)
    exact (x_iretI 36 i56_36 rfl (k3 c1))
  · refine (x_iconst 8 (-1) i56_8 rfl ?_)
    exact (x_iretI 9 i56_9 rfl (k4 c1))

/-! SilentHouse.fault -/
set_option maxRecDepth 20000 in
theorem g57_0 {d n sl : Nat} {ln : Nat → Nat} {di : Nat → Nat → Int32} {dl : Nat → Nat → Int64} {dr : Nat → Nat → Option Nat} {x1 : Int32} {Q : Option Value → q_H → Prop} (hg : q_Gr n ln dr)
    (k3 : (¬ x1 = (0 : Int32)) → (¬ x1 = (1 : Int32)) → Q (some (.int (-1))) (n, sl, ln, di, dl, dr))
    (k4 : (¬ x1 = (0 : Int32)) → (x1 = (1 : Int32)) → Q (some (.int (di 39 14))) (n, sl, ln, di, dl, dr))
    (k5 : (x1 = (0 : Int32)) → Q (some (.int (di 39 13))) (n, sl, ln, di, dl, dr)) : q_EX q_KD d 57 0 [.ref 6, .int x1] [] (n, sl, ln, di, dl, dr) Q := by
  refine (x_iload_n 0 i57_0 rfl ?_)
  refine (x_if_ne 1 12 i57_1 rfl (fun c1 => ?_) (fun c1 => ?_))
  · refine (x_iload_n 12 i57_12 rfl ?_)
    refine (x_iconst 13 1 i57_13 rfl ?_)
    refine (x_icmp_ne 14 27 i57_14 rfl (fun c2 => ?_) (fun c2 => ?_))
    · refine (x_iconst 27 (-1) i57_27 rfl ?_)
      exact (x_iretI 28 i57_28 rfl (k3 c1 c2))
    · refine (x_aload_n 17 i57_17 rfl ?_)
      refine (x_getR 18 39 i57_18 rfl (q_lt hg rfl) (Nat.le_of_ble_eq_true rfl) rfl (hg.2.2.1 6 2 39 rfl) ?_)
      refine (x_getI 21 14 (di 39 14) i57_21 rfl (q_lt hg rfl) (Nat.le_of_ble_eq_true rfl) (Or.inl rfl) rfl rfl ?_)
      refine (x_goto 24 28 i57_24 rfl ?_)
      exact (x_iretI 28 i57_28 rfl (k4 c1 c2))
  · refine (x_aload_n 4 i57_4 rfl ?_)
    refine (x_getR 5 39 i57_5 rfl (q_lt hg rfl) (Nat.le_of_ble_eq_true rfl) rfl (hg.2.2.1 6 2 39 rfl) ?_)
    refine (x_getI 8 13 (di 39 13) i57_8 rfl (q_lt hg rfl) (Nat.le_of_ble_eq_true rfl) (Or.inl rfl) rfl rfl ?_)
    exact (x_iretI 11 i57_11 rfl (k5 c1))

/-! SilentHouse.by -/
set_option maxRecDepth 20000 in
theorem g58_0 {m n sl : Nat} {ln : Nat → Nat} {di : Nat → Nat → Int32} {dl : Nat → Nat → Int64} {dr : Nat → Nat → Option Nat} {x1 : Int32} {Q : Option Value → q_H → Prop} (hg : q_Gr n ln dr)
    (k2 : (x1 = (-1 : Int32)) → q_EX q_KD m 59 0 [.ref 53] [] (n, sl, ln, (q_u di 7 15 x1), dl, dr) (fun r1 h1 => q_EX q_KD (m + 1) 58 38 [.ref 6, .retAddr 0] (r1.toList ++ []) h1 Q))
    (k3 : (¬ x1 = (-1 : Int32)) → q_EX q_KD m 12 0 [.int x1, .int ((di 7 14) - (1 : Int32))] [] (n, sl, ln, di, dl, dr) (fun r1 h1 => q_EX q_KD (m + 1) 58 18 [.ref 6, .int x1] (r1.toList ++ []) h1 Q)) : q_EX q_KD (m + 1) 58 0 [.ref 6, .int x1] [] (n, sl, ln, di, dl, dr) Q := by
  refine (x_iload_n 0 i58_0 rfl ?_)
  refine (x_iconst 1 (-1) i58_1 rfl ?_)
  refine (x_icmp_eq 2 23 i58_2 rfl (fun c1 => ?_) (fun c1 => ?_))
  · refine (x_aload_n 23 i58_23 rfl ?_)
    refine (x_getR 24 7 i58_24 rfl (q_lt hg rfl) (Nat.le_of_ble_eq_true rfl) rfl (hg.2.2.1 6 0 7 rfl) ?_)
    refine (x_iload_n 27 i58_27 rfl ?_)
    refine (x_putI 28 15 i58_28 rfl (Nat.le_of_ble_eq_true rfl) (q_lt hg rfl) rfl rfl ?_)
    refine (x_aload_n 31 i58_31 rfl ?_)
    refine (x_getR 32 53 i58_32 rfl (q_lt hg rfl) (Nat.le_of_ble_eq_true rfl) rfl (hg.2.2.1 6 4 53 rfl) ?_)
    refine (xx_loc (ls := [.ref 6, .retAddr 0]) (ls' := [.ref 6, .int x1]) ⟨Or.inl rfl, Or.inr rfl, trivial⟩ ?_)
    exact (x_cv 35 (as := []) (rs := []) i58_35 rfl rfl rfl rfl (Nat.le_of_ble_eq_true rfl) (q_lt hg rfl) rfl (Or.inr (Nat.le_of_ble_eq_true rfl)) (Nat.le_of_ble_eq_true rfl) rfl rfl (k2 c1))
  · refine (x_iload_n 5 i58_5 rfl ?_)
    refine (x_aload_n 6 i58_6 rfl ?_)
    refine (x_getR 7 7 i58_7 rfl (q_lt hg rfl) (Nat.le_of_ble_eq_true rfl) rfl (hg.2.2.1 6 0 7 rfl) ?_)
    refine (x_getI 10 14 (di 7 14) i58_10 rfl (q_lt hg rfl) (Nat.le_of_ble_eq_true rfl) (Or.inl rfl) rfl rfl ?_)
    refine (x_iconst 13 1 i58_13 rfl ?_)
    refine (x_isub 14 i58_14 ?_)
    exact (x_cs 15 (as := [.int x1, .int ((di 7 14) - (1 : Int32))]) (rs := []) i58_15 rfl rfl rfl rfl (Nat.le_of_ble_eq_true rfl) (Nat.le_of_ble_eq_true rfl) rfl rfl (k3 c1))

set_option maxRecDepth 20000 in
theorem g58_38 {m n sl : Nat} {ln : Nat → Nat} {di : Nat → Nat → Int32} {dl : Nat → Nat → Int64} {dr : Nat → Nat → Option Nat} {Q : Option Value → q_H → Prop} (hg : q_Gr n ln dr)
    (k1 : q_EX q_KD m 15 0 [.ref 60] [] (n, sl, ln, di, dl, dr) (fun r1 h1 => q_EX q_KD (m + 1) 58 45 [.retAddr 0, .retAddr 0] (r1.toList ++ []) h1 Q)) : q_EX q_KD (m + 1) 58 38 [.ref 6, .retAddr 0] [] (n, sl, ln, di, dl, dr) Q := by
  refine (x_aload_n 38 i58_38 rfl ?_)
  refine (x_getR 39 60 i58_39 rfl (q_lt hg rfl) (Nat.le_of_ble_eq_true rfl) rfl (hg.2.2.1 6 6 60 rfl) ?_)
  refine (xx_loc (ls := [.retAddr 0, .retAddr 0]) (ls' := [.ref 6, .retAddr 0]) ⟨Or.inr rfl, Or.inl rfl, trivial⟩ ?_)
  exact (x_cv 42 (as := []) (rs := []) i58_42 rfl rfl rfl rfl (Nat.le_of_ble_eq_true rfl) (q_lt hg rfl) rfl (Or.inr (Nat.le_of_ble_eq_true rfl)) (Nat.le_of_ble_eq_true rfl) rfl rfl k1)

set_option maxRecDepth 20000 in
theorem g58_18 {m n sl : Nat} {ln : Nat → Nat} {di : Nat → Nat → Int32} {dl : Nat → Nat → Int64} {dr : Nat → Nat → Option Nat} {x1 : Int32} {y0 : Int32} {Q : Option Value → q_H → Prop} (hg : q_Gr n ln dr)
    (k2 : (¬ y0 = (0 : Int32)) → q_EX q_KD m 59 0 [.ref 53] [] (n, sl, ln, (q_u di 7 15 x1), dl, dr) (fun r1 h1 => q_EX q_KD (m + 1) 58 38 [.ref 6, .retAddr 0] (r1.toList ++ []) h1 Q))
    (k3 : (y0 = (0 : Int32)) → Q (some (.int 0)) (n, sl, ln, di, dl, dr)) : q_EX q_KD (m + 1) 58 18 [.ref 6, .int x1] [.int y0] (n, sl, ln, di, dl, dr) Q := by
  refine (x_if_ne 18 23 i58_18 rfl (fun c1 => ?_) (fun c1 => ?_))
  · refine (x_aload_n 23 i58_23 rfl ?_)
    refine (x_getR 24 7 i58_24 rfl (q_lt hg rfl) (Nat.le_of_ble_eq_true rfl) rfl (hg.2.2.1 6 0 7 rfl) ?_)
    refine (x_iload_n 27 i58_27 rfl ?_)
    refine (x_putI 28 15 i58_28 rfl (Nat.le_of_ble_eq_true rfl) (q_lt hg rfl) rfl rfl ?_)
    refine (x_aload_n 31 i58_31 rfl ?_)
    refine (x_getR 32 53 i58_32 rfl (q_lt hg rfl) (Nat.le_of_ble_eq_true rfl) rfl (hg.2.2.1 6 4 53 rfl) ?_)
    refine (xx_loc (ls := [.ref 6, .retAddr 0]) (ls' := [.ref 6, .int x1]) ⟨Or.inl rfl, Or.inr rfl, trivial⟩ ?_)
    exact (x_cv 35 (as := []) (rs := []) i58_35 rfl rfl rfl rfl (Nat.le_of_ble_eq_true rfl) (q_lt hg rfl) rfl (Or.inr (Nat.le_of_ble_eq_true rfl)) (Nat.le_of_ble_eq_true rfl) rfl rfl (k2 c1))
  · refine (x_iconst 21 0 i58_21 rfl ?_)
    exact (x_iret0 22 i58_22 rfl (k3 c1))

set_option maxRecDepth 20000 in
theorem g58_45 {d n sl : Nat} {ln : Nat → Nat} {di : Nat → Nat → Int32} {dl : Nat → Nat → Int64} {dr : Nat → Nat → Option Nat} {Q : Option Value → q_H → Prop} (hg : q_Gr n ln dr)
    (k1 : Q (some (.int 1)) (n, sl, ln, di, dl, dr)) : q_EX q_KD d 58 45 [.retAddr 0, .retAddr 0] [] (n, sl, ln, di, dl, dr) Q := by
  refine (x_iconst 45 1 i58_45 rfl ?_)
  exact (x_iret1 46 i58_46 rfl k1)

/-! SilentHouse$Ear.forget -/
set_option maxRecDepth 20000 in
theorem g59_0 {m n sl : Nat} {ln : Nat → Nat} {di : Nat → Nat → Int32} {dl : Nat → Nat → Int64} {dr : Nat → Nat → Option Nat} {Q : Option Value → q_H → Prop} (hg : q_Gr n ln dr)
    (k1 : q_EX q_KD m 8 0 [.ref 54, .int 0, .retAddr 0, .retAddr 0] [] (n, sl, ln, di, dl, dr) (fun r1 h1 => q_EX q_KD (m + 1) 59 8 [.ref 53] (r1.toList ++ []) h1 Q)) : q_EX q_KD (m + 1) 59 0 [.ref 53] [] (n, sl, ln, di, dl, dr) Q := by
  refine (x_aload_n 0 i59_0 rfl ?_)
  refine (x_getR 1 54 i59_1 rfl (q_lt hg rfl) (Nat.le_of_ble_eq_true rfl) rfl (hg.2.2.1 53 2 54 rfl) ?_)
  refine (x_iconst 4 0 i59_4 rfl ?_)
  exact (x_cs 5 (as := [.ref 54, .int 0]) (rs := []) i59_5 rfl rfl rfl rfl (Nat.le_of_ble_eq_true rfl) (Nat.le_of_ble_eq_true rfl) rfl rfl k1)

set_option maxRecDepth 20000 in
theorem g59_8 {m n sl : Nat} {ln : Nat → Nat} {di : Nat → Nat → Int32} {dl : Nat → Nat → Int64} {dr : Nat → Nat → Option Nat} {Q : Option Value → q_H → Prop} (hg : q_Gr n ln dr)
    (k1 : q_EX q_KD m 8 0 [.ref 55, .int 0, .retAddr 0, .retAddr 0] [] (n, sl, ln, di, dl, dr) (fun r1 h1 => q_EX q_KD (m + 1) 59 16 [.ref 53] (r1.toList ++ []) h1 Q)) : q_EX q_KD (m + 1) 59 8 [.ref 53] [] (n, sl, ln, di, dl, dr) Q := by
  refine (x_aload_n 8 i59_8 rfl ?_)
  refine (x_getR 9 55 i59_9 rfl (q_lt hg rfl) (Nat.le_of_ble_eq_true rfl) rfl (hg.2.2.1 53 3 55 rfl) ?_)
  refine (x_iconst 12 0 i59_12 rfl ?_)
  exact (x_cs 13 (as := [.ref 55, .int 0]) (rs := []) i59_13 rfl rfl rfl rfl (Nat.le_of_ble_eq_true rfl) (Nat.le_of_ble_eq_true rfl) rfl rfl k1)

set_option maxRecDepth 20000 in
theorem g59_16 {m n sl : Nat} {ln : Nat → Nat} {di : Nat → Nat → Int32} {dl : Nat → Nat → Int64} {dr : Nat → Nat → Option Nat} {Q : Option Value → q_H → Prop} (hg : q_Gr n ln dr)
    (k1 : q_EX q_KD m 8 0 [.ref 56, .int (-1), .retAddr 0, .retAddr 0] [] (n, sl, ln, di, dl, dr) (fun r1 h1 => q_EX q_KD (m + 1) 59 24 [.retAddr 0] (r1.toList ++ []) h1 Q)) : q_EX q_KD (m + 1) 59 16 [.ref 53] [] (n, sl, ln, di, dl, dr) Q := by
  refine (x_aload_n 16 i59_16 rfl ?_)
  refine (x_getR 17 56 i59_17 rfl (q_lt hg rfl) (Nat.le_of_ble_eq_true rfl) rfl (hg.2.2.1 53 4 56 rfl) ?_)
  refine (x_iconst 20 (-1) i59_20 rfl ?_)
  refine (xx_loc (ls := [.retAddr 0]) (ls' := [.ref 53]) ⟨Or.inr rfl, trivial⟩ ?_)
  exact (x_cs 21 (as := [.ref 56, .int (-1)]) (rs := []) i59_21 rfl rfl rfl rfl (Nat.le_of_ble_eq_true rfl) (Nat.le_of_ble_eq_true rfl) rfl rfl k1)

set_option maxRecDepth 20000 in
theorem g59_24 {d n sl : Nat} {ln : Nat → Nat} {di : Nat → Nat → Int32} {dl : Nat → Nat → Int64} {dr : Nat → Nat → Option Nat} {Q : Option Value → q_H → Prop} (hg : q_Gr n ln dr)
    (k1 : Q none (n, sl, ln, di, dl, dr)) : q_EX q_KD d 59 24 [.retAddr 0] [] (n, sl, ln, di, dl, dr) Q := by
  exact (x_vret 24 i59_24 rfl k1)

/-! SilentHouse.seat -/
set_option maxRecDepth 20000 in
theorem g60_0 {m n sl : Nat} {ln : Nat → Nat} {di : Nat → Nat → Int32} {dl : Nat → Nat → Int64} {dr : Nat → Nat → Option Nat} {x1 : Int32} {x2 : Int32} {Q : Option Value → q_H → Prop} (hg : q_Gr n ln dr)
    (k1 : q_EX q_KD m 15 0 [.ref 60] [] (n, sl, ln, di, dl, dr) (fun r1 h1 => q_EX q_KD (m + 1) 60 7 [.ref 6, .int x1, .int x2] (r1.toList ++ []) h1 Q)) : q_EX q_KD (m + 1) 60 0 [.ref 6, .int x1, .int x2] [] (n, sl, ln, di, dl, dr) Q := by
  refine (x_aload_n 0 i60_0 rfl ?_)
  refine (x_getR 1 60 i60_1 rfl (q_lt hg rfl) (Nat.le_of_ble_eq_true rfl) rfl (hg.2.2.1 6 6 60 rfl) ?_)
  exact (x_cv 4 (as := []) (rs := []) i60_4 rfl rfl rfl rfl (Nat.le_of_ble_eq_true rfl) (q_lt hg rfl) rfl (Or.inr (Nat.le_of_ble_eq_true rfl)) (Nat.le_of_ble_eq_true rfl) rfl rfl k1)

set_option maxRecDepth 20000 in
theorem g60_7 {m n sl : Nat} {ln : Nat → Nat} {di : Nat → Nat → Int32} {dl : Nat → Nat → Int64} {dr : Nat → Nat → Option Nat} {x1 : Int32} {x2 : Int32} {Q : Option Value → q_H → Prop} (hg : q_Gr n ln dr)
    (k1 : q_EX q_KD m 61 0 [.ref 7, .int x1, .int x2] [] (n, sl, ln, di, dl, dr) (fun r1 h1 => q_EX q_KD (m + 1) 60 16 [.retAddr 0, .retAddr 0, .retAddr 0] (r1.toList ++ []) h1 Q)) : q_EX q_KD (m + 1) 60 7 [.ref 6, .int x1, .int x2] [] (n, sl, ln, di, dl, dr) Q := by
  refine (x_aload_n 7 i60_7 rfl ?_)
  refine (x_getR 8 7 i60_8 rfl (q_lt hg rfl) (Nat.le_of_ble_eq_true rfl) rfl (hg.2.2.1 6 0 7 rfl) ?_)
  refine (x_iload_n 11 i60_11 rfl ?_)
  refine (x_iload_n 12 i60_12 rfl ?_)
  refine (xx_loc (ls := [.retAddr 0, .retAddr 0, .retAddr 0]) (ls' := [.ref 6, .int x1, .int x2]) ⟨Or.inr rfl, Or.inr rfl, Or.inr rfl, trivial⟩ ?_)
  exact (x_cv 13 (as := [.int x1, .int x2]) (rs := []) i60_13 rfl rfl rfl rfl (Nat.le_of_ble_eq_true rfl) (q_lt hg rfl) rfl (Or.inr (Nat.le_of_ble_eq_true rfl)) (Nat.le_of_ble_eq_true rfl) rfl rfl k1)

set_option maxRecDepth 20000 in
theorem g60_16 {d n sl : Nat} {ln : Nat → Nat} {di : Nat → Nat → Int32} {dl : Nat → Nat → Int64} {dr : Nat → Nat → Option Nat} {y0 : Int32} {Q : Option Value → q_H → Prop} (hg : q_Gr n ln dr)
    (s1 : narrow .boolean (.int y0) = .int y0)
    (k2 : Q (some (.int y0)) (n, sl, ln, di, dl, dr)) : q_EX q_KD d 60 16 [.retAddr 0, .retAddr 0, .retAddr 0] [.int y0] (n, sl, ln, di, dl, dr) Q := by
  exact (x_iret 16 i60_16 rfl s1 k2)

/-! SilentHouse$House.putOn -/
set_option maxRecDepth 20000 in
theorem g61_0 {m n sl : Nat} {ln : Nat → Nat} {di : Nat → Nat → Int32} {dl : Nat → Nat → Int64} {dr : Nat → Nat → Option Nat} {x1 : Int32} {x2 : Int32} {Q : Option Value → q_H → Prop} (hg : q_Gr n ln dr)
    (k1 : q_EX q_KD m 62 0 [.ref 7, .int x1] [] (n, sl, ln, di, dl, dr) (fun r1 h1 => q_EX q_KD (m + 1) 61 5 [.ref 7, .int x1, .int x2] (r1.toList ++ []) h1 Q)) : q_EX q_KD (m + 1) 61 0 [.ref 7, .int x1, .int x2] [] (n, sl, ln, di, dl, dr) Q := by
  refine (x_aload_n 0 i61_0 rfl ?_)
  refine (x_iload_n 1 i61_1 rfl ?_)
  exact (x_cv 2 (as := [.int x1]) (rs := []) i61_2 rfl rfl rfl rfl (Nat.le_of_ble_eq_true rfl) (q_lt hg rfl) rfl (Or.inr (Nat.le_of_ble_eq_true rfl)) (Nat.le_of_ble_eq_true rfl) rfl rfl k1)

set_option maxRecDepth 20000 in
theorem g61_5 {m n sl : Nat} {ln : Nat → Nat} {di : Nat → Nat → Int32} {dl : Nat → Nat → Int64} {dr : Nat → Nat → Option Nat} {x1 : Int32} {x2 : Int32} {y0 : Int32} {Q : Option Value → q_H → Prop} (hg : q_Gr n ln dr)
    (k2 : (y0 = (0 : Int32)) → Q (some (.int 0)) (n, sl, ln, di, dl, dr))
    (k4 : (¬ y0 = (0 : Int32)) → (x2 < (-1 : Int32)) → Q (some (.int 0)) (n, sl, ln, di, dl, dr))
    (k6 : (¬ y0 = (0 : Int32)) → ((-1 : Int32) ≤ x2) → ((16 : Int32) ≤ x2) → Q (some (.int 0)) (n, sl, ln, di, dl, dr))
    (s7 : (¬ y0 = (0 : Int32)) → ((-1 : Int32) ≤ x2) → (x2 < (16 : Int32)) → vp_in x1 6)
    (k10 : (¬ y0 = (0 : Int32)) → ((-1 : Int32) ≤ x2) → (x2 < (16 : Int32)) → (¬ (di 11 x1.toNatClampNeg) = x2) → (x2 = (-1 : Int32)) → q_EX q_KD m 64 0 [.ref 17, .ref 7, .retAddr 0] [] (n, sl, ln, di, dl, dr) (fun r1 h1 => q_EX q_KD (m + 1) 61 55 [.ref 7, .int x1, .int x2] (r1.toList ++ []) h1 Q))
    (k11 : (¬ y0 = (0 : Int32)) → ((-1 : Int32) ≤ x2) → (x2 < (16 : Int32)) → (¬ (di 11 x1.toNatClampNeg) = x2) → (¬ x2 = (-1 : Int32)) → q_EX q_KD m 63 0 [.ref 7, .int x2, .retAddr 0] [] (n, sl, ln, di, dl, dr) (fun r1 h1 => q_EX q_KD (m + 1) 61 41 [.ref 7, .int x1, .int x2] (r1.toList ++ []) h1 Q))
    (k12 : (¬ y0 = (0 : Int32)) → ((-1 : Int32) ≤ x2) → (x2 < (16 : Int32)) → ((di 11 x1.toNatClampNeg) = x2) → Q (some (.int 0)) (n, sl, ln, di, dl, dr)) : q_EX q_KD (m + 1) 61 5 [.ref 7, .int x1, .int x2] [.int y0] (n, sl, ln, di, dl, dr) Q := by
  refine (x_if_eq 5 29 i61_5 rfl (fun c1 => ?_) (fun c1 => ?_))
  · refine (x_iconst 29 0 i61_29 rfl ?_)
    exact (x_iret0 30 i61_30 rfl (k2 c1))
  · refine (x_iload_n 8 i61_8 rfl ?_)
    refine (x_iconst 9 (-1) i61_9 rfl ?_)
    refine (x_icmp_lt 10 29 i61_10 rfl (fun c3 => ?_) (fun c3 => ?_))
    · refine (x_iconst 29 0 i61_29 rfl ?_)
      exact (x_iret0 30 i61_30 rfl (k4 c1 c3))
    · refine (x_iload_n 13 i61_13 rfl ?_)
      refine (x_bipush 14 16 i61_14 rfl ?_)
      refine (x_icmp_ge 16 29 i61_16 rfl (fun c5 => ?_) (fun c5 => ?_))
      · refine (x_iconst 29 0 i61_29 rfl ?_)
        exact (x_iret0 30 i61_30 rfl (k6 c1 c3 c5))
      · refine (x_aload_n 19 i61_19 rfl ?_)
        refine (x_getR 20 11 i61_20 rfl (q_lt hg rfl) (Nat.le_of_ble_eq_true rfl) rfl (hg.2.2.1 7 3 11 rfl) ?_)
        refine (x_iload_n 23 i61_23 rfl ?_)
        refine (x_iaload 24 (di 11 x1.toNatClampNeg) i61_24 rfl (q_lt hg rfl) (q_inE (hg.2.1 11 6 rfl) (s7 c1 c3 c5)) rfl ?_)
        refine (x_iload_n 25 i61_25 rfl ?_)
        refine (x_icmp_ne 26 31 i61_26 rfl (fun c8 => ?_) (fun c8 => ?_))
        · refine (x_iload_n 31 i61_31 rfl ?_)
          refine (x_iconst 32 (-1) i61_32 rfl ?_)
          refine (x_icmp_eq 33 47 i61_33 rfl (fun c9 => ?_) (fun c9 => ?_))
          · refine (x_aload_n 47 i61_47 rfl ?_)
            refine (x_getR 48 17 i61_48 rfl (q_lt hg rfl) (Nat.le_of_ble_eq_true rfl) rfl (hg.2.2.1 7 9 17 rfl) ?_)
            refine (x_aload_n 51 i61_51 rfl ?_)
            exact (x_cv 52 (as := [.ref 7]) (rs := []) i61_52 rfl rfl rfl rfl (Nat.le_of_ble_eq_true rfl) (q_lt hg rfl) rfl (Or.inr (Nat.le_of_ble_eq_true rfl)) (Nat.le_of_ble_eq_true rfl) rfl rfl (k10 c1 c3 c5 c8 c9))
          · refine (x_aload_n 36 i61_36 rfl ?_)
            refine (x_iload_n 37 i61_37 rfl ?_)
            exact (x_cv 38 (as := [.int x2]) (rs := []) i61_38 rfl rfl rfl rfl (Nat.le_of_ble_eq_true rfl) (q_lt hg rfl) rfl (Or.inr (Nat.le_of_ble_eq_true rfl)) (Nat.le_of_ble_eq_true rfl) rfl rfl (k11 c1 c3 c5 c8 c9))
        · refine (x_iconst 29 0 i61_29 rfl ?_)
          exact (x_iret0 30 i61_30 rfl (k12 c1 c3 c5 c8))

set_option maxRecDepth 20000 in
theorem g61_55 {d n sl : Nat} {ln : Nat → Nat} {di : Nat → Nat → Int32} {dl : Nat → Nat → Int64} {dr : Nat → Nat → Option Nat} {x1 : Int32} {x2 : Int32} {Q : Option Value → q_H → Prop} (hg : q_Gr n ln dr)
    (s1 : vp_in x1 6)
    (k2 : Q (some (.int 1)) (n, sl, ln, (q_u di 11 x1.toNatClampNeg x2), dl, dr)) : q_EX q_KD d 61 55 [.ref 7, .int x1, .int x2] [] (n, sl, ln, di, dl, dr) Q := by
  refine (x_aload_n 55 i61_55 rfl ?_)
  refine (x_getR 56 11 i61_56 rfl (q_lt hg rfl) (Nat.le_of_ble_eq_true rfl) rfl (hg.2.2.1 7 3 11 rfl) ?_)
  refine (x_iload_n 59 i61_59 rfl ?_)
  refine (x_iload_n 60 i61_60 rfl ?_)
  refine (x_iastore 61 i61_61 rfl (Nat.le_of_ble_eq_true rfl) (q_lt hg rfl) (q_inE (hg.2.1 11 6 rfl) s1) ?_)
  refine (x_iconst 62 1 i61_62 rfl ?_)
  exact (x_iret1 63 i61_63 rfl k2)

set_option maxRecDepth 20000 in
theorem g61_41 {m n sl : Nat} {ln : Nat → Nat} {di : Nat → Nat → Int32} {dl : Nat → Nat → Int64} {dr : Nat → Nat → Option Nat} {x1 : Int32} {x2 : Int32} {y0 : Int32} {Q : Option Value → q_H → Prop} (hg : q_Gr n ln dr)
    (k2 : (y0 = (-1 : Int32)) → q_EX q_KD m 64 0 [.ref 17, .ref 7, .retAddr 0] [] (n, sl, ln, di, dl, dr) (fun r1 h1 => q_EX q_KD (m + 1) 61 55 [.ref 7, .int x1, .int x2] (r1.toList ++ []) h1 Q))
    (k3 : (¬ y0 = (-1 : Int32)) → Q (some (.int 0)) (n, sl, ln, di, dl, dr)) : q_EX q_KD (m + 1) 61 41 [.ref 7, .int x1, .int x2] [.int y0] (n, sl, ln, di, dl, dr) Q := by
  refine (x_iconst 41 (-1) i61_41 rfl ?_)
  refine (x_icmp_eq 42 47 i61_42 rfl (fun c1 => ?_) (fun c1 => ?_))
  · refine (x_aload_n 47 i61_47 rfl ?_)
    refine (x_getR 48 17 i61_48 rfl (q_lt hg rfl) (Nat.le_of_ble_eq_true rfl) rfl (hg.2.2.1 7 9 17 rfl) ?_)
    refine (x_aload_n 51 i61_51 rfl ?_)
    exact (x_cv 52 (as := [.ref 7]) (rs := []) i61_52 rfl rfl rfl rfl (Nat.le_of_ble_eq_true rfl) (q_lt hg rfl) rfl (Or.inr (Nat.le_of_ble_eq_true rfl)) (Nat.le_of_ble_eq_true rfl) rfl rfl (k2 c1))
  · refine (x_iconst 45 0 i61_45 rfl ?_)
    exact (x_iret0 46 i61_46 rfl (k3 c1))

/-! SilentHouse$House.isTold -/
set_option maxRecDepth 20000 in
theorem g62_0 {d n sl : Nat} {ln : Nat → Nat} {di : Nat → Nat → Int32} {dl : Nat → Nat → Int64} {dr : Nat → Nat → Option Nat} {x1 : Int32} {Q : Option Value → q_H → Prop} (hg : q_Gr n ln dr)
    (k2 : (x1 < (0 : Int32)) → Q (some (.int 0)) (n, sl, ln, di, dl, dr))
    (k4 : ((0 : Int32) ≤ x1) → ((di 7 10) ≤ x1) → Q (some (.int 0)) (n, sl, ln, di, dl, dr))
    (k6 : ((0 : Int32) ≤ x1) → (x1 < (di 7 10)) → ((6 : Int32) ≤ x1) → Q (some (.int 0)) (n, sl, ln, di, dl, dr))
    (k7 : ((0 : Int32) ≤ x1) → (x1 < (di 7 10)) → (x1 < (6 : Int32)) → Q (some (.int 1)) (n, sl, ln, di, dl, dr)) : q_EX q_KD d 62 0 [.ref 7, .int x1] [] (n, sl, ln, di, dl, dr) Q := by
  refine (x_iload_n 0 i62_0 rfl ?_)
  refine (x_if_lt 1 22 i62_1 rfl (fun c1 => ?_) (fun c1 => ?_))
  · refine (x_iconst 22 0 i62_22 rfl ?_)
    exact (x_iret0 23 i62_23 rfl (k2 c1))
  · refine (x_iload_n 4 i62_4 rfl ?_)
    refine (x_aload_n 5 i62_5 rfl ?_)
    refine (x_getI 6 10 (di 7 10) i62_6 rfl (q_lt hg rfl) (Nat.le_of_ble_eq_true rfl) (Or.inl rfl) rfl rfl ?_)
    refine (x_icmp_ge 9 22 i62_9 rfl (fun c3 => ?_) (fun c3 => ?_))
    · refine (x_iconst 22 0 i62_22 rfl ?_)
      exact (x_iret0 23 i62_23 rfl (k4 c1 c3))
    · refine (x_iload_n 12 i62_12 rfl ?_)
      refine (x_bipush 13 6 i62_13 rfl ?_)
      refine (x_icmp_ge 15 22 i62_15 rfl (fun c5 => ?_) (fun c5 => ?_))
      · refine (x_iconst 22 0 i62_22 rfl ?_)
        exact (x_iret0 23 i62_23 rfl (k6 c1 c3 c5))
      · refine (x_iconst 18 1 i62_18 rfl ?_)
        refine (x_goto 19 23 i62_19 rfl ?_)
        exact (x_iret1 23 i62_23 rfl (k7 c1 c3 c5))

/-! SilentHouse$House.whoIsOn -/
set_option maxRecDepth 20000 in
theorem g63_0 {d n sl : Nat} {ln : Nat → Nat} {di : Nat → Nat → Int32} {dl : Nat → Nat → Int64} {dr : Nat → Nat → Option Nat} {x1 : Int32} {Q : Option Value → q_H → Prop} (hg : q_Gr n ln dr)
    (k1 : q_EX q_KD d 63 2 [.ref 7, .int x1, .int 0] [] (n, sl, ln, di, dl, dr) Q) : q_EX q_KD d 63 0 [.ref 7, .int x1, .retAddr 0] [] (n, sl, ln, di, dl, dr) Q := by
  refine (x_iconst 0 0 i63_0 rfl ?_)
  exact (x_istore_n 1 (ls2 := [.ref 7, .int x1, .int 0]) i63_1 (Nat.le_of_ble_eq_true rfl) rfl k1)

set_option maxRecDepth 20000 in
theorem g63_2 {d n sl : Nat} {ln : Nat → Nat} {di : Nat → Nat → Int32} {dl : Nat → Nat → Int64} {dr : Nat → Nat → Option Nat} {x1 : Int32} {x2 : Int32} {Q : Option Value → q_H → Prop} (hg : q_Gr n ln dr)
    (k2 : ((6 : Int32) ≤ x2) → Q (some (.int (-1))) (n, sl, ln, di, dl, dr))
    (s3 : (x2 < (6 : Int32)) → vp_in x2 6)
    (k5 : (x2 < (6 : Int32)) → (¬ (di 11 x2.toNatClampNeg) = x1) → q_EX q_KD d 63 2 [.ref 7, .int x1, .int (x2 + 1)] [] (n, sl, ln, di, dl, dr) Q)
    (k6 : (x2 < (6 : Int32)) → ((di 11 x2.toNatClampNeg) = x1) → Q (some (.int x2)) (n, sl, ln, di, dl, dr)) : q_EX q_KD d 63 2 [.ref 7, .int x1, .int x2] [] (n, sl, ln, di, dl, dr) Q := by
  refine (x_iload_n 2 i63_2 rfl ?_)
  refine (x_bipush 3 6 i63_3 rfl ?_)
  refine (x_icmp_ge 5 26 i63_5 rfl (fun c1 => ?_) (fun c1 => ?_))
  · refine (x_iconst 26 (-1) i63_26 rfl ?_)
    exact (x_iretI 27 i63_27 rfl (k2 c1))
  · refine (x_aload_n 8 i63_8 rfl ?_)
    refine (x_getR 9 11 i63_9 rfl (q_lt hg rfl) (Nat.le_of_ble_eq_true rfl) rfl (hg.2.2.1 7 3 11 rfl) ?_)
    refine (x_iload_n 12 i63_12 rfl ?_)
    refine (x_iaload 13 (di 11 x2.toNatClampNeg) i63_13 rfl (q_lt hg rfl) (q_inE (hg.2.1 11 6 rfl) (s3 c1)) rfl ?_)
    refine (x_iload_n 14 i63_14 rfl ?_)
    refine (x_icmp_ne 15 20 i63_15 rfl (fun c4 => ?_) (fun c4 => ?_))
    · refine (x_iinc 20 (x2 + 1) (ls2 := [.ref 7, .int x1, .int (x2 + 1)]) i63_20 rfl (Nat.le_of_ble_eq_true rfl) rfl rfl ?_)
      exact (x_goto 23 2 i63_23 rfl (k5 c1 c4))
    · refine (x_iload_n 18 i63_18 rfl ?_)
      exact (x_iretI 19 i63_19 rfl (k6 c1 c4))

/-! SilentHouse$Steps.keep -/
set_option maxRecDepth 20000 in
theorem g64_0 {d n sl : Nat} {ln : Nat → Nat} {di : Nat → Nat → Int32} {dl : Nat → Nat → Int64} {dr : Nat → Nat → Option Nat} {Q : Option Value → q_H → Prop} (hg : q_Gr n ln dr)
    (s2 : ((30 : Int32) ≤ (di 17 6)) → ¬ ((((di 17 5) + (di 17 6)) - ((di 17 5) + (di 17 6)) / (30 : Int32) * (30 : Int32)) * (6 : Int32)) < 0)
    (s3 : ((30 : Int32) ≤ (di 17 6)) → ((((di 17 5) + (di 17 6)) - ((di 17 5) + (di 17 6)) / (30 : Int32) * (30 : Int32)) * (6 : Int32)).toNatClampNeg + (6 : Int32).toNatClampNeg ≤ 180)
    (s4 : ((30 : Int32) ≤ (di 17 6)) → ¬ ((((di 17 5) + (di 17 6)) - ((di 17 5) + (di 17 6)) / (30 : Int32) * (30 : Int32)) * (6 : Int32)) < 0)
    (s5 : ((30 : Int32) ≤ (di 17 6)) → ((((di 17 5) + (di 17 6)) - ((di 17 5) + (di 17 6)) / (30 : Int32) * (30 : Int32)) * (6 : Int32)).toNatClampNeg + (6 : Int32).toNatClampNeg ≤ 180)
    (s6 : ((30 : Int32) ≤ (di 17 6)) → vp_in (((di 17 5) + (di 17 6)) - ((di 17 5) + (di 17 6)) / (30 : Int32) * (30 : Int32)) 30)
    (s7 : ((30 : Int32) ≤ (di 17 6)) → vp_in (((di 17 5) + (di 17 6)) - ((di 17 5) + (di 17 6)) / (30 : Int32) * (30 : Int32)) 30)
    (s8 : ((30 : Int32) ≤ (di 17 6)) → vp_in (((di 17 5) + (di 17 6)) - ((di 17 5) + (di 17 6)) / (30 : Int32) * (30 : Int32)) 30)
    (k9 : ((30 : Int32) ≤ (di 17 6)) → Q none (n, sl, ln, (q_u (q_u (q_u (va_up (va_up (q_u di 17 5 (((di 17 5) + (1 : Int32)) - ((di 17 5) + (1 : Int32)) / (30 : Int32) * (30 : Int32))) 18 (va_cpy ((q_u di 17 5 (((di 17 5) + (1 : Int32)) - ((di 17 5) + (1 : Int32)) / (30 : Int32) * (30 : Int32))) 11) ((q_u di 17 5 (((di 17 5) + (1 : Int32)) - ((di 17 5) + (1 : Int32)) / (30 : Int32) * (30 : Int32))) 18) 0 (((((di 17 5) + (di 17 6)) - ((di 17 5) + (di 17 6)) / (30 : Int32) * (30 : Int32)) * (6 : Int32)).toNatClampNeg) 6)) 19 (va_cpy ((va_up (q_u di 17 5 (((di 17 5) + (1 : Int32)) - ((di 17 5) + (1 : Int32)) / (30 : Int32) * (30 : Int32))) 18 (va_cpy ((q_u di 17 5 (((di 17 5) + (1 : Int32)) - ((di 17 5) + (1 : Int32)) / (30 : Int32) * (30 : Int32))) 11) ((q_u di 17 5 (((di 17 5) + (1 : Int32)) - ((di 17 5) + (1 : Int32)) / (30 : Int32) * (30 : Int32))) 18) 0 (((((di 17 5) + (di 17 6)) - ((di 17 5) + (di 17 6)) / (30 : Int32) * (30 : Int32)) * (6 : Int32)).toNatClampNeg) 6)) 12) ((va_up (q_u di 17 5 (((di 17 5) + (1 : Int32)) - ((di 17 5) + (1 : Int32)) / (30 : Int32) * (30 : Int32))) 18 (va_cpy ((q_u di 17 5 (((di 17 5) + (1 : Int32)) - ((di 17 5) + (1 : Int32)) / (30 : Int32) * (30 : Int32))) 11) ((q_u di 17 5 (((di 17 5) + (1 : Int32)) - ((di 17 5) + (1 : Int32)) / (30 : Int32) * (30 : Int32))) 18) 0 (((((di 17 5) + (di 17 6)) - ((di 17 5) + (di 17 6)) / (30 : Int32) * (30 : Int32)) * (6 : Int32)).toNatClampNeg) 6)) 19) 0 (((((di 17 5) + (di 17 6)) - ((di 17 5) + (di 17 6)) / (30 : Int32) * (30 : Int32)) * (6 : Int32)).toNatClampNeg) 6)) 20 ((((di 17 5) + (di 17 6)) - ((di 17 5) + (di 17 6)) / (30 : Int32) * (30 : Int32)).toNatClampNeg) (di 7 11)) 21 ((((di 17 5) + (di 17 6)) - ((di 17 5) + (di 17 6)) / (30 : Int32) * (30 : Int32)).toNatClampNeg) (di 7 16)) 22 ((((di 17 5) + (di 17 6)) - ((di 17 5) + (di 17 6)) / (30 : Int32) * (30 : Int32)).toNatClampNeg) (di 7 17)), dl, dr))
    (s10 : ((di 17 6) < (30 : Int32)) → ¬ ((((di 17 5) + (di 17 6)) - ((di 17 5) + (di 17 6)) / (30 : Int32) * (30 : Int32)) * (6 : Int32)) < 0)
    (s11 : ((di 17 6) < (30 : Int32)) → ((((di 17 5) + (di 17 6)) - ((di 17 5) + (di 17 6)) / (30 : Int32) * (30 : Int32)) * (6 : Int32)).toNatClampNeg + (6 : Int32).toNatClampNeg ≤ 180)
    (s12 : ((di 17 6) < (30 : Int32)) → ¬ ((((di 17 5) + (di 17 6)) - ((di 17 5) + (di 17 6)) / (30 : Int32) * (30 : Int32)) * (6 : Int32)) < 0)
    (s13 : ((di 17 6) < (30 : Int32)) → ((((di 17 5) + (di 17 6)) - ((di 17 5) + (di 17 6)) / (30 : Int32) * (30 : Int32)) * (6 : Int32)).toNatClampNeg + (6 : Int32).toNatClampNeg ≤ 180)
    (s14 : ((di 17 6) < (30 : Int32)) → vp_in (((di 17 5) + (di 17 6)) - ((di 17 5) + (di 17 6)) / (30 : Int32) * (30 : Int32)) 30)
    (s15 : ((di 17 6) < (30 : Int32)) → vp_in (((di 17 5) + (di 17 6)) - ((di 17 5) + (di 17 6)) / (30 : Int32) * (30 : Int32)) 30)
    (s16 : ((di 17 6) < (30 : Int32)) → vp_in (((di 17 5) + (di 17 6)) - ((di 17 5) + (di 17 6)) / (30 : Int32) * (30 : Int32)) 30)
    (k17 : ((di 17 6) < (30 : Int32)) → Q none (n, sl, ln, (q_u (q_u (q_u (va_up (va_up (q_u di 17 6 ((di 17 6) + (1 : Int32))) 18 (va_cpy ((q_u di 17 6 ((di 17 6) + (1 : Int32))) 11) ((q_u di 17 6 ((di 17 6) + (1 : Int32))) 18) 0 (((((di 17 5) + (di 17 6)) - ((di 17 5) + (di 17 6)) / (30 : Int32) * (30 : Int32)) * (6 : Int32)).toNatClampNeg) 6)) 19 (va_cpy ((va_up (q_u di 17 6 ((di 17 6) + (1 : Int32))) 18 (va_cpy ((q_u di 17 6 ((di 17 6) + (1 : Int32))) 11) ((q_u di 17 6 ((di 17 6) + (1 : Int32))) 18) 0 (((((di 17 5) + (di 17 6)) - ((di 17 5) + (di 17 6)) / (30 : Int32) * (30 : Int32)) * (6 : Int32)).toNatClampNeg) 6)) 12) ((va_up (q_u di 17 6 ((di 17 6) + (1 : Int32))) 18 (va_cpy ((q_u di 17 6 ((di 17 6) + (1 : Int32))) 11) ((q_u di 17 6 ((di 17 6) + (1 : Int32))) 18) 0 (((((di 17 5) + (di 17 6)) - ((di 17 5) + (di 17 6)) / (30 : Int32) * (30 : Int32)) * (6 : Int32)).toNatClampNeg) 6)) 19) 0 (((((di 17 5) + (di 17 6)) - ((di 17 5) + (di 17 6)) / (30 : Int32) * (30 : Int32)) * (6 : Int32)).toNatClampNeg) 6)) 20 ((((di 17 5) + (di 17 6)) - ((di 17 5) + (di 17 6)) / (30 : Int32) * (30 : Int32)).toNatClampNeg) (di 7 11)) 21 ((((di 17 5) + (di 17 6)) - ((di 17 5) + (di 17 6)) / (30 : Int32) * (30 : Int32)).toNatClampNeg) (di 7 16)) 22 ((((di 17 5) + (di 17 6)) - ((di 17 5) + (di 17 6)) / (30 : Int32) * (30 : Int32)).toNatClampNeg) (di 7 17)), dl, dr)) : q_EX q_KD d 64 0 [.ref 17, .ref 7, .retAddr 0] [] (n, sl, ln, di, dl, dr) Q := by
  refine (x_aload_n 0 i64_0 rfl ?_)
  refine (x_getI 1 5 (di 17 5) i64_1 rfl (q_lt hg rfl) (Nat.le_of_ble_eq_true rfl) (Or.inl rfl) rfl rfl ?_)
  refine (x_aload_n 4 i64_4 rfl ?_)
  refine (x_getI 5 6 (di 17 6) i64_5 rfl (q_lt hg rfl) (Nat.le_of_ble_eq_true rfl) (Or.inl rfl) rfl rfl ?_)
  refine (x_iadd 8 i64_8 ?_)
  refine (x_bipush 9 30 i64_9 rfl ?_)
  refine (x_irem 11 i64_11 (by decide) ?_)
  refine (x_istore_n 12 (ls2 := [.ref 17, .ref 7, .int (((di 17 5) + (di 17 6)) - ((di 17 5) + (di 17 6)) / (30 : Int32) * (30 : Int32))]) i64_12 (Nat.le_of_ble_eq_true rfl) rfl ?_)
  refine (x_aload_n 13 i64_13 rfl ?_)
  refine (x_getI 14 6 (di 17 6) i64_14 rfl (q_lt hg rfl) (Nat.le_of_ble_eq_true rfl) (Or.inl rfl) rfl rfl ?_)
  refine (x_bipush 17 30 i64_17 rfl ?_)
  refine (x_icmp_ge 19 35 i64_19 rfl (fun c1 => ?_) (fun c1 => ?_))
  · refine (x_aload_n 35 i64_35 rfl ?_)
    refine (x_aload_n 36 i64_36 rfl ?_)
    refine (x_getI 37 5 (di 17 5) i64_37 rfl (q_lt hg rfl) (Nat.le_of_ble_eq_true rfl) (Or.inl rfl) rfl rfl ?_)
    refine (x_iconst 40 1 i64_40 rfl ?_)
    refine (x_iadd 41 i64_41 ?_)
    refine (x_bipush 42 30 i64_42 rfl ?_)
    refine (x_irem 44 i64_44 (by decide) ?_)
    refine (x_putI 45 5 i64_45 rfl (Nat.le_of_ble_eq_true rfl) (q_lt hg rfl) rfl rfl ?_)
    refine (x_aload_n 48 i64_48 rfl ?_)
    refine (x_getR 49 11 i64_49 rfl (q_lt hg rfl) (Nat.le_of_ble_eq_true rfl) rfl (hg.2.2.1 7 3 11 rfl) ?_)
    refine (x_iconst 52 0 i64_52 rfl ?_)
    refine (x_aload_n 53 i64_53 rfl ?_)
    refine (x_getR 54 18 i64_54 rfl (q_lt hg rfl) (Nat.le_of_ble_eq_true rfl) rfl (hg.2.2.1 17 0 18 rfl) ?_)
    refine (x_iload_n 57 i64_57 rfl ?_)
    refine (x_bipush 58 6 i64_58 rfl ?_)
    refine (x_imul 60 i64_60 ?_)
    refine (x_bipush 61 6 i64_61 rfl ?_)
    refine (x_copy 63 i64_63 rfl (Nat.le_of_ble_eq_true rfl) rfl rfl (Nat.le_of_ble_eq_true rfl) (q_lt hg rfl) (Nat.le_of_ble_eq_true rfl) (q_lt hg rfl) (by decide) (s2 c1) (by decide) (q_leE (hg.2.1 11 6 rfl) (by decide)) (q_leE (hg.2.1 18 180 rfl) (s3 c1)) ?_)
    refine (x_aload_n 66 i64_66 rfl ?_)
    refine (x_getR 67 12 i64_67 rfl (q_lt hg rfl) (Nat.le_of_ble_eq_true rfl) rfl (hg.2.2.1 7 4 12 rfl) ?_)
    refine (x_iconst 70 0 i64_70 rfl ?_)
    refine (x_aload_n 71 i64_71 rfl ?_)
    refine (x_getR 72 19 i64_72 rfl (q_lt hg rfl) (Nat.le_of_ble_eq_true rfl) rfl (hg.2.2.1 17 1 19 rfl) ?_)
    refine (x_iload_n 75 i64_75 rfl ?_)
    refine (x_bipush 76 6 i64_76 rfl ?_)
    refine (x_imul 78 i64_78 ?_)
    refine (x_bipush 79 6 i64_79 rfl ?_)
    refine (x_copy 81 i64_81 rfl (Nat.le_of_ble_eq_true rfl) rfl rfl (Nat.le_of_ble_eq_true rfl) (q_lt hg rfl) (Nat.le_of_ble_eq_true rfl) (q_lt hg rfl) (by decide) (s4 c1) (by decide) (q_leE (hg.2.1 12 6 rfl) (by decide)) (q_leE (hg.2.1 19 180 rfl) (s5 c1)) ?_)
    refine (x_aload_n 84 i64_84 rfl ?_)
    refine (x_getR 85 20 i64_85 rfl (q_lt hg rfl) (Nat.le_of_ble_eq_true rfl) rfl (hg.2.2.1 17 2 20 rfl) ?_)
    refine (x_iload_n 88 i64_88 rfl ?_)
    refine (x_aload_n 89 i64_89 rfl ?_)
    refine (x_getI 90 11 (di 7 11) i64_90 rfl (q_lt hg rfl) (Nat.le_of_ble_eq_true rfl) (Or.inl rfl) rfl rfl ?_)
    refine (x_iastore 93 i64_93 rfl (Nat.le_of_ble_eq_true rfl) (q_lt hg rfl) (q_inE (hg.2.1 20 30 rfl) (s6 c1)) ?_)
    refine (x_aload_n 94 i64_94 rfl ?_)
    refine (x_getR 95 21 i64_95 rfl (q_lt hg rfl) (Nat.le_of_ble_eq_true rfl) rfl (hg.2.2.1 17 3 21 rfl) ?_)
    refine (x_iload_n 98 i64_98 rfl ?_)
    refine (x_aload_n 99 i64_99 rfl ?_)
    refine (x_getI 100 16 (di 7 16) i64_100 rfl (q_lt hg rfl) (Nat.le_of_ble_eq_true rfl) (Or.inl rfl) rfl rfl ?_)
    refine (x_iastore 103 i64_103 rfl (Nat.le_of_ble_eq_true rfl) (q_lt hg rfl) (q_inE (hg.2.1 21 30 rfl) (s7 c1)) ?_)
    refine (x_aload_n 104 i64_104 rfl ?_)
    refine (x_getR 105 22 i64_105 rfl (q_lt hg rfl) (Nat.le_of_ble_eq_true rfl) rfl (hg.2.2.1 17 4 22 rfl) ?_)
    refine (x_iload_n 108 i64_108 rfl ?_)
    refine (x_aload_n 109 i64_109 rfl ?_)
    refine (x_getI 110 17 (di 7 17) i64_110 rfl (q_lt hg rfl) (Nat.le_of_ble_eq_true rfl) (Or.inl rfl) rfl rfl ?_)
    refine (x_iastore 113 i64_113 rfl (Nat.le_of_ble_eq_true rfl) (q_lt hg rfl) (q_inE (hg.2.1 22 30 rfl) (s8 c1)) ?_)
    exact (x_vret 114 i64_114 rfl (k9 c1))
  · refine (x_aload_n 22 i64_22 rfl ?_)
    refine (x_dup 23 i64_23 rfl ?_)
    refine (x_getI 24 6 (di 17 6) i64_24 rfl (q_lt hg rfl) (Nat.le_of_ble_eq_true rfl) (Or.inl rfl) rfl rfl ?_)
    refine (x_iconst 27 1 i64_27 rfl ?_)
    refine (x_iadd 28 i64_28 ?_)
    refine (x_putI 29 6 i64_29 rfl (Nat.le_of_ble_eq_true rfl) (q_lt hg rfl) rfl rfl ?_)
    refine (x_goto 32 48 i64_32 rfl ?_)
    refine (x_aload_n 48 i64_48 rfl ?_)
    refine (x_getR 49 11 i64_49 rfl (q_lt hg rfl) (Nat.le_of_ble_eq_true rfl) rfl (hg.2.2.1 7 3 11 rfl) ?_)
    refine (x_iconst 52 0 i64_52 rfl ?_)
    refine (x_aload_n 53 i64_53 rfl ?_)
    refine (x_getR 54 18 i64_54 rfl (q_lt hg rfl) (Nat.le_of_ble_eq_true rfl) rfl (hg.2.2.1 17 0 18 rfl) ?_)
    refine (x_iload_n 57 i64_57 rfl ?_)
    refine (x_bipush 58 6 i64_58 rfl ?_)
    refine (x_imul 60 i64_60 ?_)
    refine (x_bipush 61 6 i64_61 rfl ?_)
    refine (x_copy 63 i64_63 rfl (Nat.le_of_ble_eq_true rfl) rfl rfl (Nat.le_of_ble_eq_true rfl) (q_lt hg rfl) (Nat.le_of_ble_eq_true rfl) (q_lt hg rfl) (by decide) (s10 c1) (by decide) (q_leE (hg.2.1 11 6 rfl) (by decide)) (q_leE (hg.2.1 18 180 rfl) (s11 c1)) ?_)
    refine (x_aload_n 66 i64_66 rfl ?_)
    refine (x_getR 67 12 i64_67 rfl (q_lt hg rfl) (Nat.le_of_ble_eq_true rfl) rfl (hg.2.2.1 7 4 12 rfl) ?_)
    refine (x_iconst 70 0 i64_70 rfl ?_)
    refine (x_aload_n 71 i64_71 rfl ?_)
    refine (x_getR 72 19 i64_72 rfl (q_lt hg rfl) (Nat.le_of_ble_eq_true rfl) rfl (hg.2.2.1 17 1 19 rfl) ?_)
    refine (x_iload_n 75 i64_75 rfl ?_)
    refine (x_bipush 76 6 i64_76 rfl ?_)
    refine (x_imul 78 i64_78 ?_)
    refine (x_bipush 79 6 i64_79 rfl ?_)
    refine (x_copy 81 i64_81 rfl (Nat.le_of_ble_eq_true rfl) rfl rfl (Nat.le_of_ble_eq_true rfl) (q_lt hg rfl) (Nat.le_of_ble_eq_true rfl) (q_lt hg rfl) (by decide) (s12 c1) (by decide) (q_leE (hg.2.1 12 6 rfl) (by decide)) (q_leE (hg.2.1 19 180 rfl) (s13 c1)) ?_)
    refine (x_aload_n 84 i64_84 rfl ?_)
    refine (x_getR 85 20 i64_85 rfl (q_lt hg rfl) (Nat.le_of_ble_eq_true rfl) rfl (hg.2.2.1 17 2 20 rfl) ?_)
    refine (x_iload_n 88 i64_88 rfl ?_)
    refine (x_aload_n 89 i64_89 rfl ?_)
    refine (x_getI 90 11 (di 7 11) i64_90 rfl (q_lt hg rfl) (Nat.le_of_ble_eq_true rfl) (Or.inl rfl) rfl rfl ?_)
    refine (x_iastore 93 i64_93 rfl (Nat.le_of_ble_eq_true rfl) (q_lt hg rfl) (q_inE (hg.2.1 20 30 rfl) (s14 c1)) ?_)
    refine (x_aload_n 94 i64_94 rfl ?_)
    refine (x_getR 95 21 i64_95 rfl (q_lt hg rfl) (Nat.le_of_ble_eq_true rfl) rfl (hg.2.2.1 17 3 21 rfl) ?_)
    refine (x_iload_n 98 i64_98 rfl ?_)
    refine (x_aload_n 99 i64_99 rfl ?_)
    refine (x_getI 100 16 (di 7 16) i64_100 rfl (q_lt hg rfl) (Nat.le_of_ble_eq_true rfl) (Or.inl rfl) rfl rfl ?_)
    refine (x_iastore 103 i64_103 rfl (Nat.le_of_ble_eq_true rfl) (q_lt hg rfl) (q_inE (hg.2.1 21 30 rfl) (s15 c1)) ?_)
    refine (x_aload_n 104 i64_104 rfl ?_)
    refine (x_getR 105 22 i64_105 rfl (q_lt hg rfl) (Nat.le_of_ble_eq_true rfl) rfl (hg.2.2.1 17 4 22 rfl) ?_)
    refine (x_iload_n 108 i64_108 rfl ?_)
    refine (x_aload_n 109 i64_109 rfl ?_)
    refine (x_getI 110 17 (di 7 17) i64_110 rfl (q_lt hg rfl) (Nat.le_of_ble_eq_true rfl) (Or.inl rfl) rfl rfl ?_)
    refine (x_iastore 113 i64_113 rfl (Nat.le_of_ble_eq_true rfl) (q_lt hg rfl) (q_inE (hg.2.1 22 30 rfl) (s16 c1)) ?_)
    exact (x_vret 114 i64_114 rfl (k17 c1))

/-! SilentHouse.hire -/
set_option maxRecDepth 20000 in
theorem g65_0 {m n sl : Nat} {ln : Nat → Nat} {di : Nat → Nat → Int32} {dl : Nat → Nat → Int64} {dr : Nat → Nat → Option Nat} {x1 : Int32} {x2 : Int32} {Q : Option Value → q_H → Prop} (hg : q_Gr n ln dr)
    (k1 : q_EX q_KD m 15 0 [.ref 60] [] (n, sl, ln, di, dl, dr) (fun r1 h1 => q_EX q_KD (m + 1) 65 7 [.ref 6, .int x1, .int x2] (r1.toList ++ []) h1 Q)) : q_EX q_KD (m + 1) 65 0 [.ref 6, .int x1, .int x2] [] (n, sl, ln, di, dl, dr) Q := by
  refine (x_aload_n 0 i65_0 rfl ?_)
  refine (x_getR 1 60 i65_1 rfl (q_lt hg rfl) (Nat.le_of_ble_eq_true rfl) rfl (hg.2.2.1 6 6 60 rfl) ?_)
  exact (x_cv 4 (as := []) (rs := []) i65_4 rfl rfl rfl rfl (Nat.le_of_ble_eq_true rfl) (q_lt hg rfl) rfl (Or.inr (Nat.le_of_ble_eq_true rfl)) (Nat.le_of_ble_eq_true rfl) rfl rfl k1)

set_option maxRecDepth 20000 in
theorem g65_7 {m n sl : Nat} {ln : Nat → Nat} {di : Nat → Nat → Int32} {dl : Nat → Nat → Int64} {dr : Nat → Nat → Option Nat} {x1 : Int32} {x2 : Int32} {Q : Option Value → q_H → Prop} (hg : q_Gr n ln dr)
    (k1 : q_EX q_KD m 66 0 [.ref 7, .int x1, .int x2] [] (n, sl, ln, di, dl, dr) (fun r1 h1 => q_EX q_KD (m + 1) 65 16 [.retAddr 0, .retAddr 0, .retAddr 0] (r1.toList ++ []) h1 Q)) : q_EX q_KD (m + 1) 65 7 [.ref 6, .int x1, .int x2] [] (n, sl, ln, di, dl, dr) Q := by
  refine (x_aload_n 7 i65_7 rfl ?_)
  refine (x_getR 8 7 i65_8 rfl (q_lt hg rfl) (Nat.le_of_ble_eq_true rfl) rfl (hg.2.2.1 6 0 7 rfl) ?_)
  refine (x_iload_n 11 i65_11 rfl ?_)
  refine (x_iload_n 12 i65_12 rfl ?_)
  refine (xx_loc (ls := [.retAddr 0, .retAddr 0, .retAddr 0]) (ls' := [.ref 6, .int x1, .int x2]) ⟨Or.inr rfl, Or.inr rfl, Or.inr rfl, trivial⟩ ?_)
  exact (x_cv 13 (as := [.int x1, .int x2]) (rs := []) i65_13 rfl rfl rfl rfl (Nat.le_of_ble_eq_true rfl) (q_lt hg rfl) rfl (Or.inr (Nat.le_of_ble_eq_true rfl)) (Nat.le_of_ble_eq_true rfl) rfl rfl k1)

set_option maxRecDepth 20000 in
theorem g65_16 {d n sl : Nat} {ln : Nat → Nat} {di : Nat → Nat → Int32} {dl : Nat → Nat → Int64} {dr : Nat → Nat → Option Nat} {y0 : Int32} {Q : Option Value → q_H → Prop} (hg : q_Gr n ln dr)
    (s1 : narrow .boolean (.int y0) = .int y0)
    (k2 : Q (some (.int y0)) (n, sl, ln, di, dl, dr)) : q_EX q_KD d 65 16 [.retAddr 0, .retAddr 0, .retAddr 0] [.int y0] (n, sl, ln, di, dl, dr) Q := by
  exact (x_iret 16 i65_16 rfl s1 k2)

/-! SilentHouse$House.keepStill -/
set_option maxRecDepth 20000 in
theorem g66_0 {m n sl : Nat} {ln : Nat → Nat} {di : Nat → Nat → Int32} {dl : Nat → Nat → Int64} {dr : Nat → Nat → Option Nat} {x1 : Int32} {x2 : Int32} {Q : Option Value → q_H → Prop} (hg : q_Gr n ln dr)
    (k1 : q_EX q_KD m 62 0 [.ref 7, .int x1] [] (n, sl, ln, di, dl, dr) (fun r1 h1 => q_EX q_KD (m + 1) 66 5 [.ref 7, .int x1, .int x2] (r1.toList ++ []) h1 Q)) : q_EX q_KD (m + 1) 66 0 [.ref 7, .int x1, .int x2] [] (n, sl, ln, di, dl, dr) Q := by
  refine (x_aload_n 0 i66_0 rfl ?_)
  refine (x_iload_n 1 i66_1 rfl ?_)
  exact (x_cv 2 (as := [.int x1]) (rs := []) i66_2 rfl rfl rfl rfl (Nat.le_of_ble_eq_true rfl) (q_lt hg rfl) rfl (Or.inr (Nat.le_of_ble_eq_true rfl)) (Nat.le_of_ble_eq_true rfl) rfl rfl k1)

set_option maxRecDepth 20000 in
theorem g66_5 {m n sl : Nat} {ln : Nat → Nat} {di : Nat → Nat → Int32} {dl : Nat → Nat → Int64} {dr : Nat → Nat → Option Nat} {x1 : Int32} {x2 : Int32} {y0 : Int32} {Q : Option Value → q_H → Prop} (hg : q_Gr n ln dr)
    (k2 : (y0 = (0 : Int32)) → Q (some (.int 0)) (n, sl, ln, di, dl, dr))
    (k5 : (¬ y0 = (0 : Int32)) → (x2 = (0 : Int32)) → (¬ (((di 7 11) >>> (x1 &&& 31)) &&& (1 : Int32)) = (0 : Int32)) → q_EX q_KD m 64 0 [.ref 17, .ref 7, .retAddr 0] [] (n, sl, ln, di, dl, dr) (fun r1 h1 => q_EX q_KD (m + 1) 66 38 [.ref 7, .int x1, .retAddr 0] (r1.toList ++ []) h1 Q))
    (k6 : (¬ y0 = (0 : Int32)) → (x2 = (0 : Int32)) → ((((di 7 11) >>> (x1 &&& 31)) &&& (1 : Int32)) = (0 : Int32)) → Q (some (.int 0)) (n, sl, ln, di, dl, dr))
    (k8 : (¬ y0 = (0 : Int32)) → (¬ x2 = (0 : Int32)) → (¬ (((di 7 11) >>> (x1 &&& 31)) &&& (1 : Int32)) = (1 : Int32)) → q_EX q_KD m 64 0 [.ref 17, .ref 7, .retAddr 0] [] (n, sl, ln, di, dl, dr) (fun r1 h1 => q_EX q_KD (m + 1) 66 38 [.ref 7, .int x1, .retAddr 0] (r1.toList ++ []) h1 Q))
    (k9 : (¬ y0 = (0 : Int32)) → (¬ x2 = (0 : Int32)) → ((((di 7 11) >>> (x1 &&& 31)) &&& (1 : Int32)) = (1 : Int32)) → Q (some (.int 0)) (n, sl, ln, di, dl, dr)) : q_EX q_KD (m + 1) 66 5 [.ref 7, .int x1, .int x2] [.int y0] (n, sl, ln, di, dl, dr) Q := by
  refine (x_if_eq 5 28 i66_5 rfl (fun c1 => ?_) (fun c1 => ?_))
  · refine (x_iconst 28 0 i66_28 rfl ?_)
    exact (x_iret0 29 i66_29 rfl (k2 c1))
  · refine (x_aload_n 8 i66_8 rfl ?_)
    refine (x_getI 9 11 (di 7 11) i66_9 rfl (q_lt hg rfl) (Nat.le_of_ble_eq_true rfl) (Or.inl rfl) rfl rfl ?_)
    refine (x_iload_n 12 i66_12 rfl ?_)
    refine (x_ishr 13 i66_13 ?_)
    refine (x_iconst 14 1 i66_14 rfl ?_)
    refine (x_iand 15 i66_15 ?_)
    refine (x_iload_n 16 i66_16 rfl ?_)
    refine (x_if_eq 17 24 i66_17 rfl (fun c3 => ?_) (fun c3 => ?_))
    · refine (x_iconst 24 0 i66_24 rfl ?_)
      refine (x_icmp_ne 25 30 i66_25 rfl (fun c4 => ?_) (fun c4 => ?_))
      · refine (x_aload_n 30 i66_30 rfl ?_)
        refine (x_getR 31 17 i66_31 rfl (q_lt hg rfl) (Nat.le_of_ble_eq_true rfl) rfl (hg.2.2.1 7 9 17 rfl) ?_)
        refine (x_aload_n 34 i66_34 rfl ?_)
        refine (xx_loc (ls := [.ref 7, .int x1, .retAddr 0]) (ls' := [.ref 7, .int x1, .int x2]) ⟨Or.inl rfl, Or.inl rfl, Or.inr rfl, trivial⟩ ?_)
        exact (x_cv 35 (as := [.ref 7]) (rs := []) i66_35 rfl rfl rfl rfl (Nat.le_of_ble_eq_true rfl) (q_lt hg rfl) rfl (Or.inr (Nat.le_of_ble_eq_true rfl)) (Nat.le_of_ble_eq_true rfl) rfl rfl (k5 c1 c3 c4))
      · refine (x_iconst 28 0 i66_28 rfl ?_)
        exact (x_iret0 29 i66_29 rfl (k6 c1 c3 c4))
    · refine (x_iconst 20 1 i66_20 rfl ?_)
      refine (x_goto 21 25 i66_21 rfl ?_)
      refine (x_icmp_ne 25 30 i66_25 rfl (fun c7 => ?_) (fun c7 => ?_))
      · refine (x_aload_n 30 i66_30 rfl ?_)
        refine (x_getR 31 17 i66_31 rfl (q_lt hg rfl) (Nat.le_of_ble_eq_true rfl) rfl (hg.2.2.1 7 9 17 rfl) ?_)
        refine (x_aload_n 34 i66_34 rfl ?_)
        refine (xx_loc (ls := [.ref 7, .int x1, .retAddr 0]) (ls' := [.ref 7, .int x1, .int x2]) ⟨Or.inl rfl, Or.inl rfl, Or.inr rfl, trivial⟩ ?_)
        exact (x_cv 35 (as := [.ref 7]) (rs := []) i66_35 rfl rfl rfl rfl (Nat.le_of_ble_eq_true rfl) (q_lt hg rfl) rfl (Or.inr (Nat.le_of_ble_eq_true rfl)) (Nat.le_of_ble_eq_true rfl) rfl rfl (k8 c1 c3 c7))
      · refine (x_iconst 28 0 i66_28 rfl ?_)
        exact (x_iret0 29 i66_29 rfl (k9 c1 c3 c7))

set_option maxRecDepth 20000 in
theorem g66_38 {d n sl : Nat} {ln : Nat → Nat} {di : Nat → Nat → Int32} {dl : Nat → Nat → Int64} {dr : Nat → Nat → Option Nat} {x1 : Int32} {Q : Option Value → q_H → Prop} (hg : q_Gr n ln dr)
    (k1 : Q (some (.int 1)) (n, sl, ln, (q_u di 7 11 ((di 7 11) ^^^ ((1 : Int32) <<< (x1 &&& 31)))), dl, dr)) : q_EX q_KD d 66 38 [.ref 7, .int x1, .retAddr 0] [] (n, sl, ln, di, dl, dr) Q := by
  refine (x_aload_n 38 i66_38 rfl ?_)
  refine (x_dup 39 i66_39 rfl ?_)
  refine (x_getI 40 11 (di 7 11) i66_40 rfl (q_lt hg rfl) (Nat.le_of_ble_eq_true rfl) (Or.inl rfl) rfl rfl ?_)
  refine (x_iconst 43 1 i66_43 rfl ?_)
  refine (x_iload_n 44 i66_44 rfl ?_)
  refine (x_ishl 45 i66_45 ?_)
  refine (x_ixor 46 i66_46 ?_)
  refine (x_putI 47 11 i66_47 rfl (Nat.le_of_ble_eq_true rfl) (q_lt hg rfl) rfl rfl ?_)
  refine (x_iconst 50 1 i66_50 rfl ?_)
  exact (x_iret1 51 i66_51 rfl k1)

/-! SilentHouse.night -/
set_option maxRecDepth 20000 in
theorem g67_0 {m n sl : Nat} {ln : Nat → Nat} {di : Nat → Nat → Int32} {dl : Nat → Nat → Int64} {dr : Nat → Nat → Option Nat} {Q : Option Value → q_H → Prop} (hg : q_Gr n ln dr)
    (k1 : q_EX q_KD m 68 0 [.ref 57, .retAddr 0, .retAddr 0, .retAddr 0] [] (n, sl, ln, di, dl, dr) (fun r1 h1 => q_EX q_KD (m + 1) 67 7 [.retAddr 0] (r1.toList ++ []) h1 Q)) : q_EX q_KD (m + 1) 67 0 [.ref 6] [] (n, sl, ln, di, dl, dr) Q := by
  refine (x_aload_n 0 i67_0 rfl ?_)
  refine (x_getR 1 57 i67_1 rfl (q_lt hg rfl) (Nat.le_of_ble_eq_true rfl) rfl (hg.2.2.1 6 5 57 rfl) ?_)
  refine (xx_loc (ls := [.retAddr 0]) (ls' := [.ref 6]) ⟨Or.inr rfl, trivial⟩ ?_)
  exact (x_cv 4 (as := []) (rs := []) i67_4 rfl rfl rfl rfl (Nat.le_of_ble_eq_true rfl) (q_lt hg rfl) rfl (Or.inr (Nat.le_of_ble_eq_true rfl)) (Nat.le_of_ble_eq_true rfl) rfl rfl k1)

set_option maxRecDepth 20000 in
theorem g67_7 {d n sl : Nat} {ln : Nat → Nat} {di : Nat → Nat → Int32} {dl : Nat → Nat → Int64} {dr : Nat → Nat → Option Nat} {y0 : Int32} {Q : Option Value → q_H → Prop} (hg : q_Gr n ln dr)
    (k1 : Q (some (.int y0)) (n, sl, ln, di, dl, dr)) : q_EX q_KD d 67 7 [.retAddr 0] [.int y0] (n, sl, ln, di, dl, dr) Q := by
  exact (x_iretI 7 i67_7 rfl k1)

/-! SilentHouse$Evening.play -/
set_option maxRecDepth 20000 in
theorem g68_0 {m n sl : Nat} {ln : Nat → Nat} {di : Nat → Nat → Int32} {dl : Nat → Nat → Int64} {dr : Nat → Nat → Option Nat} {Q : Option Value → q_H → Prop} (hg : q_Gr n ln dr)
    (k1 : q_EX q_KD m 69 0 [.ref 7, .retAddr 0, .retAddr 0] [] (n, sl, ln, di, dl, dr) (fun r1 h1 => q_EX q_KD (m + 1) 68 7 [.ref 57, .retAddr 0, .retAddr 0, .retAddr 0] (r1.toList ++ []) h1 Q)) : q_EX q_KD (m + 1) 68 0 [.ref 57, .retAddr 0, .retAddr 0, .retAddr 0] [] (n, sl, ln, di, dl, dr) Q := by
  refine (x_aload_n 0 i68_0 rfl ?_)
  refine (x_getR 1 7 i68_1 rfl (q_lt hg rfl) (Nat.le_of_ble_eq_true rfl) rfl (hg.2.2.1 57 0 7 rfl) ?_)
  exact (x_cv 4 (as := []) (rs := []) i68_4 rfl rfl rfl rfl (Nat.le_of_ble_eq_true rfl) (q_lt hg rfl) rfl (Or.inr (Nat.le_of_ble_eq_true rfl)) (Nat.le_of_ble_eq_true rfl) rfl rfl k1)

set_option maxRecDepth 20000 in
theorem g68_7 {m n sl : Nat} {ln : Nat → Nat} {di : Nat → Nat → Int32} {dl : Nat → Nat → Int64} {dr : Nat → Nat → Option Nat} {y0 : Int32} {Q : Option Value → q_H → Prop} (hg : q_Gr n ln dr)
    (k2 : (¬ y0 = (0 : Int32)) → q_EX q_KD m 64 0 [.ref 17, .ref 7, .retAddr 0] [] (n, sl, ln, di, dl, dr) (fun r1 h1 => q_EX q_KD (m + 1) 68 28 [.ref 57, .int y0, .retAddr 0, .retAddr 0] (r1.toList ++ []) h1 Q))
    (k3 : (y0 = (0 : Int32)) → Q (some (.int (-1))) (n, sl, ln, di, dl, dr)) : q_EX q_KD (m + 1) 68 7 [.ref 57, .retAddr 0, .retAddr 0, .retAddr 0] [.int y0] (n, sl, ln, di, dl, dr) Q := by
  refine (x_istore_n 7 (ls2 := [.ref 57, .int y0, .retAddr 0, .retAddr 0]) i68_7 (Nat.le_of_ble_eq_true rfl) rfl ?_)
  refine (x_iload_n 8 i68_8 rfl ?_)
  refine (x_if_ne 9 14 i68_9 rfl (fun c1 => ?_) (fun c1 => ?_))
  · refine (x_aload_n 14 i68_14 rfl ?_)
    refine (x_getR 15 7 i68_15 rfl (q_lt hg rfl) (Nat.le_of_ble_eq_true rfl) rfl (hg.2.2.1 57 0 7 rfl) ?_)
    refine (x_getR 18 17 i68_18 rfl (q_lt hg rfl) (Nat.le_of_ble_eq_true rfl) rfl (hg.2.2.1 7 9 17 rfl) ?_)
    refine (x_aload_n 21 i68_21 rfl ?_)
    refine (x_getR 22 7 i68_22 rfl (q_lt hg rfl) (Nat.le_of_ble_eq_true rfl) rfl (hg.2.2.1 57 0 7 rfl) ?_)
    exact (x_cv 25 (as := [.ref 7]) (rs := []) i68_25 rfl rfl rfl rfl (Nat.le_of_ble_eq_true rfl) (q_lt hg rfl) rfl (Or.inr (Nat.le_of_ble_eq_true rfl)) (Nat.le_of_ble_eq_true rfl) rfl rfl (k2 c1))
  · refine (x_iconst 12 (-1) i68_12 rfl ?_)
    exact (x_iretI 13 i68_13 rfl (k3 c1))

set_option maxRecDepth 20000 in
theorem g68_28 {m n sl : Nat} {ln : Nat → Nat} {di : Nat → Nat → Int32} {dl : Nat → Nat → Int64} {dr : Nat → Nat → Option Nat} {x1 : Int32} {Q : Option Value → q_H → Prop} (hg : q_Gr n ln dr)
    (k1 : q_EX q_KD m 8 0 [.ref 58, .int 0, .retAddr 0, .retAddr 0] [] (n, sl, ln, di, dl, dr) (fun r1 h1 => q_EX q_KD (m + 1) 68 36 [.ref 57, .int x1, .retAddr 0, .retAddr 0] (r1.toList ++ []) h1 Q)) : q_EX q_KD (m + 1) 68 28 [.ref 57, .int x1, .retAddr 0, .retAddr 0] [] (n, sl, ln, di, dl, dr) Q := by
  refine (x_aload_n 28 i68_28 rfl ?_)
  refine (x_getR 29 58 i68_29 rfl (q_lt hg rfl) (Nat.le_of_ble_eq_true rfl) rfl (hg.2.2.1 57 3 58 rfl) ?_)
  refine (x_iconst 32 0 i68_32 rfl ?_)
  exact (x_cs 33 (as := [.ref 58, .int 0]) (rs := []) i68_33 rfl rfl rfl rfl (Nat.le_of_ble_eq_true rfl) (Nat.le_of_ble_eq_true rfl) rfl rfl k1)

set_option maxRecDepth 20000 in
theorem g68_36 {m n sl : Nat} {ln : Nat → Nat} {di : Nat → Nat → Int32} {dl : Nat → Nat → Int64} {dr : Nat → Nat → Option Nat} {x1 : Int32} {Q : Option Value → q_H → Prop} (hg : q_Gr n ln dr)
    (k1 : q_EX q_KD m 8 0 [.ref 59, .int 0, .retAddr 0, .retAddr 0] [] (n, sl, ln, di, dl, dr) (fun r1 h1 => q_EX q_KD (m + 1) 68 44 [.ref 57, .int x1, .retAddr 0, .retAddr 0] (r1.toList ++ []) h1 Q)) : q_EX q_KD (m + 1) 68 36 [.ref 57, .int x1, .retAddr 0, .retAddr 0] [] (n, sl, ln, di, dl, dr) Q := by
  refine (x_aload_n 36 i68_36 rfl ?_)
  refine (x_getR 37 59 i68_37 rfl (q_lt hg rfl) (Nat.le_of_ble_eq_true rfl) rfl (hg.2.2.1 57 4 59 rfl) ?_)
  refine (x_iconst 40 0 i68_40 rfl ?_)
  exact (x_cs 41 (as := [.ref 59, .int 0]) (rs := []) i68_41 rfl rfl rfl rfl (Nat.le_of_ble_eq_true rfl) (Nat.le_of_ble_eq_true rfl) rfl rfl k1)

set_option maxRecDepth 20000 in
theorem g68_44 {d n sl : Nat} {ln : Nat → Nat} {di : Nat → Nat → Int32} {dl : Nat → Nat → Int64} {dr : Nat → Nat → Option Nat} {x1 : Int32} {Q : Option Value → q_H → Prop} (hg : q_Gr n ln dr)
    (k1 : q_EX q_KD d 68 48 [.ref 57, .int x1, .int 0, .int 0] [] (n, sl, ln, di, dl, dr) Q) : q_EX q_KD d 68 44 [.ref 57, .int x1, .retAddr 0, .retAddr 0] [] (n, sl, ln, di, dl, dr) Q := by
  refine (x_iconst 44 0 i68_44 rfl ?_)
  refine (x_istore_n 45 (ls2 := [.ref 57, .int x1, .int 0, .retAddr 0]) i68_45 (Nat.le_of_ble_eq_true rfl) rfl ?_)
  refine (x_iconst 46 0 i68_46 rfl ?_)
  exact (x_istore_n 47 (ls2 := [.ref 57, .int x1, .int 0, .int 0]) i68_47 (Nat.le_of_ble_eq_true rfl) rfl k1)

set_option maxRecDepth 20000 in
theorem g68_48 {m n sl : Nat} {ln : Nat → Nat} {di : Nat → Nat → Int32} {dl : Nat → Nat → Int64} {dr : Nat → Nat → Option Nat} {x1 : Int32} {x2 : Int32} {x3 : Int32} {Q : Option Value → q_H → Prop} (hg : q_Gr n ln dr)
    (k2 : ((di 7 12) ≤ x3) → q_EX q_KD (m + 1) 68 106 [.ref 57, .int x1, .int x2, .int 0] [] (n, sl, ln, di, dl, dr) Q)
    (k3 : (x3 < (di 7 12)) → q_EX q_KD m 70 0 [.ref 53, .int x3, .int x1, .int (di 7 11), .ref 11, .retAddr 0, .retAddr 0, .retAddr 0, .retAddr 0, .retAddr 0, .retAddr 0, .retAddr 0, .retAddr 0, .retAddr 0, .retAddr 0] [] (n, sl, ln, di, dl, dr) (fun r1 h1 => q_EX q_KD (m + 1) 68 82 [.ref 57, .int x1, .int x2, .int x3] (r1.toList ++ []) h1 Q)) : q_EX q_KD (m + 1) 68 48 [.ref 57, .int x1, .int x2, .int x3] [] (n, sl, ln, di, dl, dr) Q := by
  refine (x_iload_n 48 i68_48 rfl ?_)
  refine (x_aload_n 49 i68_49 rfl ?_)
  refine (x_getR 50 7 i68_50 rfl (q_lt hg rfl) (Nat.le_of_ble_eq_true rfl) rfl (hg.2.2.1 57 0 7 rfl) ?_)
  refine (x_getI 53 12 (di 7 12) i68_53 rfl (q_lt hg rfl) (Nat.le_of_ble_eq_true rfl) (Or.inl rfl) rfl rfl ?_)
  refine (x_icmp_ge 56 104 i68_56 rfl (fun c1 => ?_) (fun c1 => ?_))
  · refine (x_iconst 104 0 i68_104 rfl ?_)
    exact (x_istore_n 105 (ls2 := [.ref 57, .int x1, .int x2, .int 0]) i68_105 (Nat.le_of_ble_eq_true rfl) rfl (k2 c1))
  · refine (x_aload_n 59 i68_59 rfl ?_)
    refine (x_getR 60 53 i68_60 rfl (q_lt hg rfl) (Nat.le_of_ble_eq_true rfl) rfl (hg.2.2.1 57 2 53 rfl) ?_)
    refine (x_iload_n 63 i68_63 rfl ?_)
    refine (x_iload_n 64 i68_64 rfl ?_)
    refine (x_aload_n 65 i68_65 rfl ?_)
    refine (x_getR 66 7 i68_66 rfl (q_lt hg rfl) (Nat.le_of_ble_eq_true rfl) rfl (hg.2.2.1 57 0 7 rfl) ?_)
    refine (x_getI 69 11 (di 7 11) i68_69 rfl (q_lt hg rfl) (Nat.le_of_ble_eq_true rfl) (Or.inl rfl) rfl rfl ?_)
    refine (x_aload_n 72 i68_72 rfl ?_)
    refine (x_getR 73 7 i68_73 rfl (q_lt hg rfl) (Nat.le_of_ble_eq_true rfl) rfl (hg.2.2.1 57 0 7 rfl) ?_)
    refine (x_getR 76 11 i68_76 rfl (q_lt hg rfl) (Nat.le_of_ble_eq_true rfl) rfl (hg.2.2.1 7 3 11 rfl) ?_)
    exact (x_cv 79 (as := [.int x3, .int x1, .int (di 7 11), .ref 11]) (rs := []) i68_79 rfl rfl rfl rfl (Nat.le_of_ble_eq_true rfl) (q_lt hg rfl) rfl (Or.inr (Nat.le_of_ble_eq_true rfl)) (Nat.le_of_ble_eq_true rfl) rfl rfl (k3 c1))

set_option maxRecDepth 20000 in
theorem g68_106 {m n sl : Nat} {ln : Nat → Nat} {di : Nat → Nat → Int32} {dl : Nat → Nat → Int64} {dr : Nat → Nat → Option Nat} {x1 : Int32} {x2 : Int32} {x3 : Int32} {Q : Option Value → q_H → Prop} (hg : q_Gr n ln dr)
    (k2 : ((6 : Int32) ≤ x3) → Q (some (.int x2)) (n, sl, ln, (q_u di 7 17 ((di 7 17) + (1 : Int32))), dl, dr))
    (k3 : (x3 < (6 : Int32)) → q_EX q_KD m 80 0 [.ref 7, .int x3] [] (n, sl, ln, di, dl, dr) (fun r1 h1 => q_EX q_KD (m + 1) 68 120 [.ref 57, .int x1, .int x2, .int x3] (r1.toList ++ []) h1 Q)) : q_EX q_KD (m + 1) 68 106 [.ref 57, .int x1, .int x2, .int x3] [] (n, sl, ln, di, dl, dr) Q := by
  refine (x_iload_n 106 i68_106 rfl ?_)
  refine (x_bipush 107 6 i68_107 rfl ?_)
  refine (x_icmp_ge 109 151 i68_109 rfl (fun c1 => ?_) (fun c1 => ?_))
  · refine (x_aload_n 151 i68_151 rfl ?_)
    refine (x_getR 152 7 i68_152 rfl (q_lt hg rfl) (Nat.le_of_ble_eq_true rfl) rfl (hg.2.2.1 57 0 7 rfl) ?_)
    refine (x_dup 155 i68_155 rfl ?_)
    refine (x_getI 156 17 (di 7 17) i68_156 rfl (q_lt hg rfl) (Nat.le_of_ble_eq_true rfl) (Or.inl rfl) rfl rfl ?_)
    refine (x_iconst 159 1 i68_159 rfl ?_)
    refine (x_iadd 160 i68_160 ?_)
    refine (x_putI 161 17 i68_161 rfl (Nat.le_of_ble_eq_true rfl) (q_lt hg rfl) rfl rfl ?_)
    refine (x_iload_n 164 i68_164 rfl ?_)
    exact (x_iretI 165 i68_165 rfl (k2 c1))
  · refine (x_aload_n 112 i68_112 rfl ?_)
    refine (x_getR 113 7 i68_113 rfl (q_lt hg rfl) (Nat.le_of_ble_eq_true rfl) rfl (hg.2.2.1 57 0 7 rfl) ?_)
    refine (x_iload_n 116 i68_116 rfl ?_)
    exact (x_cv 117 (as := [.int x3]) (rs := []) i68_117 rfl rfl rfl rfl (Nat.le_of_ble_eq_true rfl) (q_lt hg rfl) rfl (Or.inr (Nat.le_of_ble_eq_true rfl)) (Nat.le_of_ble_eq_true rfl) rfl rfl (k3 c1))

set_option maxRecDepth 20000 in
theorem g68_82 {m n sl : Nat} {ln : Nat → Nat} {di : Nat → Nat → Int32} {dl : Nat → Nat → Int64} {dr : Nat → Nat → Option Nat} {x1 : Int32} {x2 : Int32} {x3 : Int32} {Q : Option Value → q_H → Prop} (hg : q_Gr n ln dr)
    (k1 : q_EX q_KD m 78 0 [.ref 57, .int x1, .retAddr 0, .retAddr 0] [] (n, sl, ln, di, dl, dr) (fun r1 h1 => q_EX q_KD (m + 1) 68 93 [.ref 57, .int x1, .retAddr 0, .int x3] (r1.toList ++ [.int x3, .ref 53, .int x2]) h1 Q)) : q_EX q_KD (m + 1) 68 82 [.ref 57, .int x1, .int x2, .int x3] [] (n, sl, ln, di, dl, dr) Q := by
  refine (x_iload_n 82 i68_82 rfl ?_)
  refine (x_aload_n 83 i68_83 rfl ?_)
  refine (x_getR 84 53 i68_84 rfl (q_lt hg rfl) (Nat.le_of_ble_eq_true rfl) rfl (hg.2.2.1 57 2 53 rfl) ?_)
  refine (x_iload_n 87 i68_87 rfl ?_)
  refine (x_aload_n 88 i68_88 rfl ?_)
  refine (x_iload_n 89 i68_89 rfl ?_)
  refine (xx_loc (ls := [.ref 57, .int x1, .retAddr 0, .int x3]) (ls' := [.ref 57, .int x1, .int x2, .int x3]) ⟨Or.inl rfl, Or.inl rfl, Or.inr rfl, Or.inl rfl, trivial⟩ ?_)
  exact (x_cv 90 (as := [.int x1]) (rs := [.int x3, .ref 53, .int x2]) i68_90 rfl rfl rfl rfl (Nat.le_of_ble_eq_true rfl) (q_lt hg rfl) rfl (Or.inr (Nat.le_of_ble_eq_true rfl)) (Nat.le_of_ble_eq_true rfl) rfl rfl k1)

set_option maxRecDepth 20000 in
theorem g68_120 {m n sl : Nat} {ln : Nat → Nat} {di : Nat → Nat → Int32} {dl : Nat → Nat → Int64} {dr : Nat → Nat → Option Nat} {x1 : Int32} {x2 : Int32} {x3 : Int32} {y0 : Int32} {Q : Option Value → q_H → Prop} (hg : q_Gr n ln dr)
    (k2 : (y0 = (0 : Int32)) → q_EX q_KD (m + 1) 68 106 [.ref 57, .int x1, .int x2, .int (x3 + 1)] [] (n, sl, ln, di, dl, dr) Q)
    (s3 : (¬ y0 = (0 : Int32)) → vp_in x3 6)
    (k4 : (¬ y0 = (0 : Int32)) → q_EX q_KD m 71 0 [.int x1] [] (n, sl, ln, di, dl, dr) (fun r1 h1 => q_EX q_KD (m + 1) 68 140 [.ref 57, .int x1, .int x2, .int x3] (r1.toList ++ [.int x2, .int x3, .ref 57, .int (di 12 x3.toNatClampNeg), .int x3, .ref 12]) h1 Q)) : q_EX q_KD (m + 1) 68 120 [.ref 57, .int x1, .int x2, .int x3] [.int y0] (n, sl, ln, di, dl, dr) Q := by
  refine (x_if_eq 120 145 i68_120 rfl (fun c1 => ?_) (fun c1 => ?_))
  · refine (x_iinc 145 (x3 + 1) (ls2 := [.ref 57, .int x1, .int x2, .int (x3 + 1)]) i68_145 rfl (Nat.le_of_ble_eq_true rfl) rfl rfl ?_)
    exact (x_goto 148 106 i68_148 rfl (k2 c1))
  · refine (x_aload_n 123 i68_123 rfl ?_)
    refine (x_getR 124 7 i68_124 rfl (q_lt hg rfl) (Nat.le_of_ble_eq_true rfl) rfl (hg.2.2.1 57 0 7 rfl) ?_)
    refine (x_getR 127 12 i68_127 rfl (q_lt hg rfl) (Nat.le_of_ble_eq_true rfl) rfl (hg.2.2.1 7 4 12 rfl) ?_)
    refine (x_iload_n 130 i68_130 rfl ?_)
    refine (x_dup2 131 i68_131 rfl rfl ?_)
    refine (x_iaload 132 (di 12 x3.toNatClampNeg) i68_132 rfl (q_lt hg rfl) (q_inE (hg.2.1 12 6 rfl) (s3 c1)) rfl ?_)
    refine (x_aload_n 133 i68_133 rfl ?_)
    refine (x_iload_n 134 i68_134 rfl ?_)
    refine (x_iload_n 135 i68_135 rfl ?_)
    refine (x_iload_n 136 i68_136 rfl ?_)
    exact (x_cs 137 (as := [.int x1]) (rs := [.int x2, .int x3, .ref 57, .int (di 12 x3.toNatClampNeg), .int x3, .ref 12]) i68_137 rfl rfl rfl rfl (Nat.le_of_ble_eq_true rfl) (Nat.le_of_ble_eq_true rfl) rfl rfl (k4 c1))

set_option maxRecDepth 20000 in
theorem g68_93 {m n sl : Nat} {ln : Nat → Nat} {di : Nat → Nat → Int32} {dl : Nat → Nat → Int64} {dr : Nat → Nat → Option Nat} {x1 : Int32} {x3 : Int32} {y0 : Int32} {y1 : Int32} {y3 : Int32} {Q : Option Value → q_H → Prop} (hg : q_Gr n ln dr)
    (k1 : q_EX q_KD m 79 0 [.ref 53, .int y1, .int y0, .retAddr 0, .retAddr 0, .retAddr 0, .retAddr 0] [] (n, sl, ln, di, dl, dr) (fun r1 h1 => q_EX q_KD (m + 1) 68 96 [.ref 57, .int x1, .retAddr 0, .int x3] (r1.toList ++ [.int y3]) h1 Q)) : q_EX q_KD (m + 1) 68 93 [.ref 57, .int x1, .retAddr 0, .int x3] [.int y0, .int y1, .ref 53, .int y3] (n, sl, ln, di, dl, dr) Q := by
  exact (x_cv 93 (as := [.int y1, .int y0]) (rs := [.int y3]) i68_93 rfl rfl rfl rfl (Nat.le_of_ble_eq_true rfl) (q_lt hg rfl) rfl (Or.inr (Nat.le_of_ble_eq_true rfl)) (Nat.le_of_ble_eq_true rfl) rfl rfl k1)

set_option maxRecDepth 20000 in
theorem g68_140 {m n sl : Nat} {ln : Nat → Nat} {di : Nat → Nat → Int32} {dl : Nat → Nat → Int64} {dr : Nat → Nat → Option Nat} {x1 : Int32} {x2 : Int32} {x3 : Int32} {y0 : Int32} {y1 : Int32} {y2 : Int32} {y4 : Int32} {y5 : Int32} {Q : Option Value → q_H → Prop} (hg : q_Gr n ln dr)
    (k1 : q_EX q_KD m 81 0 [.ref 57, .int y2, .int y1, .int y0, .retAddr 0] [] (n, sl, ln, di, dl, dr) (fun r1 h1 => q_EX q_KD (m + 1) 68 143 [.ref 57, .int x1, .int x2, .int x3] (r1.toList ++ [.int y4, .int y5, .ref 12]) h1 Q)) : q_EX q_KD (m + 1) 68 140 [.ref 57, .int x1, .int x2, .int x3] [.int y0, .int y1, .int y2, .ref 57, .int y4, .int y5, .ref 12] (n, sl, ln, di, dl, dr) Q := by
  exact (x_cv 140 (as := [.int y2, .int y1, .int y0]) (rs := [.int y4, .int y5, .ref 12]) i68_140 rfl rfl rfl rfl (Nat.le_of_ble_eq_true rfl) (q_lt hg rfl) rfl (Or.inr (Nat.le_of_ble_eq_true rfl)) (Nat.le_of_ble_eq_true rfl) rfl rfl k1)

set_option maxRecDepth 20000 in
theorem g68_96 {d n sl : Nat} {ln : Nat → Nat} {di : Nat → Nat → Int32} {dl : Nat → Nat → Int64} {dr : Nat → Nat → Option Nat} {x1 : Int32} {x3 : Int32} {y0 : Int32} {y1 : Int32} {Q : Option Value → q_H → Prop} (hg : q_Gr n ln dr)
    (k1 : q_EX q_KD d 68 48 [.ref 57, .int x1, .int (y1 + y0), .int (x3 + 1)] [] (n, sl, ln, di, dl, dr) Q) : q_EX q_KD d 68 96 [.ref 57, .int x1, .retAddr 0, .int x3] [.int y0, .int y1] (n, sl, ln, di, dl, dr) Q := by
  refine (x_iadd 96 i68_96 ?_)
  refine (x_istore_n 97 (ls2 := [.ref 57, .int x1, .int (y1 + y0), .int x3]) i68_97 (Nat.le_of_ble_eq_true rfl) rfl ?_)
  refine (x_iinc 98 (x3 + 1) (ls2 := [.ref 57, .int x1, .int (y1 + y0), .int (x3 + 1)]) i68_98 rfl (Nat.le_of_ble_eq_true rfl) rfl rfl ?_)
  exact (x_goto 101 48 i68_101 rfl k1)

set_option maxRecDepth 20000 in
theorem g68_143 {d n sl : Nat} {ln : Nat → Nat} {di : Nat → Nat → Int32} {dl : Nat → Nat → Int64} {dr : Nat → Nat → Option Nat} {x1 : Int32} {x2 : Int32} {x3 : Int32} {y0 : Int32} {y1 : Int32} {y2 : Int32} {Q : Option Value → q_H → Prop} (hg : q_Gr n ln dr)
    (s1 : vp_in y2 6)
    (k2 : q_EX q_KD d 68 106 [.ref 57, .int x1, .int x2, .int (x3 + 1)] [] (n, sl, ln, (q_u di 12 y2.toNatClampNeg (y1 + y0)), dl, dr) Q) : q_EX q_KD d 68 143 [.ref 57, .int x1, .int x2, .int x3] [.int y0, .int y1, .int y2, .ref 12] (n, sl, ln, di, dl, dr) Q := by
  refine (x_iadd 143 i68_143 ?_)
  refine (x_iastore 144 i68_144 rfl (Nat.le_of_ble_eq_true rfl) (q_lt hg rfl) (q_inE (hg.2.1 12 6 rfl) s1) ?_)
  refine (x_iinc 145 (x3 + 1) (ls2 := [.ref 57, .int x1, .int x2, .int (x3 + 1)]) i68_145 rfl (Nat.le_of_ble_eq_true rfl) rfl rfl ?_)
  exact (x_goto 148 106 i68_148 rfl k2)
