/-! SilentHouseModel.between -/
set_option maxRecDepth 20000 in
theorem g176_0 {d n sl : Nat} {ln : Nat → Nat} {di : Nat → Nat → Int32} {dl : Nat → Nat → Int64} {dr : Nat → Nat → Option Nat} {x0 : Int64} {x2 : Int32} {Q : Option Value → q_H → Prop} (hg : q_Gr n ln dr)
    (k3 : ((0 : Int32) ≤ (lg_cmp x0 (0 : Int64))) → ((lg_cmp x0 x2.toInt64) ≤ (0 : Int32)) → Q (some (.int x0.toInt32)) (n, sl, ln, di, dl, dr))
    (k4 : ((0 : Int32) ≤ (lg_cmp x0 (0 : Int64))) → ((0 : Int32) < (lg_cmp x0 x2.toInt64)) → Q (some (.int x2)) (n, sl, ln, di, dl, dr))
    (k5 : ((lg_cmp x0 (0 : Int64)) < (0 : Int32)) → Q (some (.int 0)) (n, sl, ln, di, dl, dr)) : q_EX q_KD d 176 0 [.long x0, .retAddr 0, .int x2] [] (n, sl, ln, di, dl, dr) Q := by
  refine (x_lload_n 0 i176_0 rfl ?_)
  refine (x_lconst 1 0 i176_1 rfl ?_)
  refine (x_lcmp 2 i176_2 ?_)
  refine (x_if_ge 3 10 i176_3 rfl (fun c1 => ?_) (fun c1 => ?_))
  · refine (x_lload_n 10 i176_10 rfl ?_)
    refine (x_iload_n 11 i176_11 rfl ?_)
    refine (x_i2l 12 i176_12 ?_)
    refine (x_lcmp 13 i176_13 ?_)
    refine (x_if_le 14 21 i176_14 rfl (fun c2 => ?_) (fun c2 => ?_))
    · refine (x_lload_n 21 i176_21 rfl ?_)
      refine (x_l2i 22 i176_22 ?_)
      exact (x_iretI 23 i176_23 rfl (k3 c1 c2))
    · refine (x_iload_n 17 i176_17 rfl ?_)
      refine (x_goto 18 23 i176_18 rfl ?_)
      exact (x_iretI 23 i176_23 rfl (k4 c1 c2))
  · refine (x_iconst 6 0 i176_6 rfl ?_)
    refine (x_goto 7 23 i176_7 rfl ?_)
    exact (x_iretI 23 i176_23 rfl (k5 c1))

/-! SilentHouseModel.undo -/
set_option maxRecDepth 20000 in
theorem g177_0 {d n sl : Nat} {ln : Nat → Nat} {di : Nat → Nat → Int32} {dl : Nat → Nat → Int64} {dr : Nat → Nat → Option Nat} {Q : Option Value → q_H → Prop} (hg : q_Gr n ln dr)
    (s2 : (¬ (di 68 6) = (0 : Int32)) → vp_in (((76 : Int32) + ((21 : Int32) * ((di 68 6) - (1 : Int32)))) + (1 : Int32)) 706)
    (s3 : (¬ (di 68 6) = (0 : Int32)) → vp_in (((76 : Int32) + ((21 : Int32) * ((di 68 6) - (1 : Int32)))) + (2 : Int32)) 706)
    (k4 : (¬ (di 68 6) = (0 : Int32)) → q_EX q_KD d 177 67 [.ref 67, .int ((76 : Int32) + ((21 : Int32) * ((di 68 6) - (1 : Int32)))), .int 0, .retAddr 0] [] (n, sl, ln, (q_u (q_u (q_u di 68 6 ((di 68 6) - (1 : Int32))) 68 3 ((q_u di 68 6 ((di 68 6) - (1 : Int32))) 68 ((((76 : Int32) + ((21 : Int32) * ((di 68 6) - (1 : Int32)))) + (1 : Int32)).toNatClampNeg))) 68 2 ((q_u (q_u di 68 6 ((di 68 6) - (1 : Int32))) 68 3 ((q_u di 68 6 ((di 68 6) - (1 : Int32))) 68 ((((76 : Int32) + ((21 : Int32) * ((di 68 6) - (1 : Int32)))) + (1 : Int32)).toNatClampNeg))) 68 ((((76 : Int32) + ((21 : Int32) * ((di 68 6) - (1 : Int32)))) + (2 : Int32)).toNatClampNeg))), dl, dr) Q)
    (k5 : ((di 68 6) = (0 : Int32)) → Q (some (.int (-1))) (n, sl, ln, di, dl, dr)) : q_EX q_KD d 177 0 [.ref 67, .retAddr 0, .retAddr 0, .retAddr 0] [] (n, sl, ln, di, dl, dr) Q := by
  refine (x_aload_n 0 i177_0 rfl ?_)
  refine (x_getR 1 68 i177_1 rfl (q_lt hg rfl) (Nat.le_of_ble_eq_true rfl) rfl (hg.2.2.1 67 0 68 rfl) ?_)
  refine (x_bipush 4 6 i177_4 rfl ?_)
  refine (x_iaload 6 (di 68 6) i177_6 rfl (q_lt hg rfl) (q_inE (hg.2.1 68 706 rfl) (q_vin rfl)) rfl ?_)
  refine (x_if_ne 7 12 i177_7 rfl (fun c1 => ?_) (fun c1 => ?_))
  · refine (x_aload_n 12 i177_12 rfl ?_)
    refine (x_getR 13 68 i177_13 rfl (q_lt hg rfl) (Nat.le_of_ble_eq_true rfl) rfl (hg.2.2.1 67 0 68 rfl) ?_)
    refine (x_bipush 16 6 i177_16 rfl ?_)
    refine (x_dup2 18 i177_18 rfl rfl ?_)
    refine (x_iaload 19 (di 68 6) i177_19 rfl (q_lt hg rfl) (q_inE (hg.2.1 68 706 rfl) (q_vin rfl)) rfl ?_)
    refine (x_iconst 20 1 i177_20 rfl ?_)
    refine (x_isub 21 i177_21 ?_)
    refine (x_iastore 22 i177_22 rfl (Nat.le_of_ble_eq_true rfl) (q_lt hg rfl) (q_inE (hg.2.1 68 706 rfl) (q_vin rfl)) ?_)
    refine (x_bipush 23 76 i177_23 rfl ?_)
    refine (x_bipush 25 21 i177_25 rfl ?_)
    refine (x_aload_n 27 i177_27 rfl ?_)
    refine (x_getR 28 68 i177_28 rfl (q_lt hg rfl) (Nat.le_of_ble_eq_true rfl) rfl (hg.2.2.1 67 0 68 rfl) ?_)
    refine (x_bipush 31 6 i177_31 rfl ?_)
    refine (x_iaload 33 ((di 68 6) - (1 : Int32)) i177_33 rfl (q_lt hg rfl) (q_inE (hg.2.1 68 706 rfl) (q_vin rfl)) rfl ?_)
    refine (x_imul 34 i177_34 ?_)
    refine (x_iadd 35 i177_35 ?_)
    refine (x_istore_n 36 (ls2 := [.ref 67, .int ((76 : Int32) + ((21 : Int32) * ((di 68 6) - (1 : Int32)))), .retAddr 0, .retAddr 0]) i177_36 (Nat.le_of_ble_eq_true rfl) rfl ?_)
    refine (x_aload_n 37 i177_37 rfl ?_)
    refine (x_getR 38 68 i177_38 rfl (q_lt hg rfl) (Nat.le_of_ble_eq_true rfl) rfl (hg.2.2.1 67 0 68 rfl) ?_)
    refine (x_iconst 41 3 i177_41 rfl ?_)
    refine (x_aload_n 42 i177_42 rfl ?_)
    refine (x_getR 43 68 i177_43 rfl (q_lt hg rfl) (Nat.le_of_ble_eq_true rfl) rfl (hg.2.2.1 67 0 68 rfl) ?_)
    refine (x_iload_n 46 i177_46 rfl ?_)
    refine (x_iconst 47 1 i177_47 rfl ?_)
    refine (x_iadd 48 i177_48 ?_)
    refine (x_iaload 49 ((q_u di 68 6 ((di 68 6) - (1 : Int32))) 68 ((((76 : Int32) + ((21 : Int32) * ((di 68 6) - (1 : Int32)))) + (1 : Int32)).toNatClampNeg)) i177_49 rfl (q_lt hg rfl) (q_inE (hg.2.1 68 706 rfl) (s2 c1)) rfl ?_)
    refine (x_iastore 50 i177_50 rfl (Nat.le_of_ble_eq_true rfl) (q_lt hg rfl) (q_inE (hg.2.1 68 706 rfl) (q_vin rfl)) ?_)
    refine (x_aload_n 51 i177_51 rfl ?_)
    refine (x_getR 52 68 i177_52 rfl (q_lt hg rfl) (Nat.le_of_ble_eq_true rfl) rfl (hg.2.2.1 67 0 68 rfl) ?_)
    refine (x_iconst 55 2 i177_55 rfl ?_)
    refine (x_aload_n 56 i177_56 rfl ?_)
    refine (x_getR 57 68 i177_57 rfl (q_lt hg rfl) (Nat.le_of_ble_eq_true rfl) rfl (hg.2.2.1 67 0 68 rfl) ?_)
    refine (x_iload_n 60 i177_60 rfl ?_)
    refine (x_iconst 61 2 i177_61 rfl ?_)
    refine (x_iadd 62 i177_62 ?_)
    refine (x_iaload 63 ((q_u (q_u di 68 6 ((di 68 6) - (1 : Int32))) 68 3 ((q_u di 68 6 ((di 68 6) - (1 : Int32))) 68 ((((76 : Int32) + ((21 : Int32) * ((di 68 6) - (1 : Int32)))) + (1 : Int32)).toNatClampNeg))) 68 ((((76 : Int32) + ((21 : Int32) * ((di 68 6) - (1 : Int32)))) + (2 : Int32)).toNatClampNeg)) i177_63 rfl (q_lt hg rfl) (q_inE (hg.2.1 68 706 rfl) (s3 c1)) rfl ?_)
    refine (x_iastore 64 i177_64 rfl (Nat.le_of_ble_eq_true rfl) (q_lt hg rfl) (q_inE (hg.2.1 68 706 rfl) (q_vin rfl)) ?_)
    refine (x_iconst 65 0 i177_65 rfl ?_)
    exact (x_istore_n 66 (ls2 := [.ref 67, .int ((76 : Int32) + ((21 : Int32) * ((di 68 6) - (1 : Int32)))), .int 0, .retAddr 0]) i177_66 (Nat.le_of_ble_eq_true rfl) rfl (k4 c1))
  · refine (x_iconst 10 (-1) i177_10 rfl ?_)
    exact (x_iretI 11 i177_11 rfl (k5 c1))

set_option maxRecDepth 20000 in
theorem g177_67 {d n sl : Nat} {ln : Nat → Nat} {di : Nat → Nat → Int32} {dl : Nat → Nat → Int64} {dr : Nat → Nat → Option Nat} {x1 : Int32} {x2 : Int32} {Q : Option Value → q_H → Prop} (hg : q_Gr n ln dr)
    (k2 : ((di 68 0) ≤ x2) → Q (some (.int (di 68 6))) (n, sl, ln, di, dl, dr))
    (k3 : (x2 < (di 68 0)) → q_EX q_KD d 177 79 [.ref 67, .int x1, .int x2, .int 0] [] (n, sl, ln, di, dl, dr) Q) : q_EX q_KD d 177 67 [.ref 67, .int x1, .int x2, .retAddr 0] [] (n, sl, ln, di, dl, dr) Q := by
  refine (x_iload_n 67 i177_67 rfl ?_)
  refine (x_aload_n 68 i177_68 rfl ?_)
  refine (x_getR 69 68 i177_69 rfl (q_lt hg rfl) (Nat.le_of_ble_eq_true rfl) rfl (hg.2.2.1 67 0 68 rfl) ?_)
  refine (x_iconst 72 0 i177_72 rfl ?_)
  refine (x_iaload 73 (di 68 0) i177_73 rfl (q_lt hg rfl) (q_inE (hg.2.1 68 706 rfl) (q_vin rfl)) rfl ?_)
  refine (x_icmp_ge 74 140 i177_74 rfl (fun c1 => ?_) (fun c1 => ?_))
  · refine (x_aload_n 140 i177_140 rfl ?_)
    refine (x_getR 141 68 i177_141 rfl (q_lt hg rfl) (Nat.le_of_ble_eq_true rfl) rfl (hg.2.2.1 67 0 68 rfl) ?_)
    refine (x_bipush 144 6 i177_144 rfl ?_)
    refine (x_iaload 146 (di 68 6) i177_146 rfl (q_lt hg rfl) (q_inE (hg.2.1 68 706 rfl) (q_vin rfl)) rfl ?_)
    exact (x_iretI 147 i177_147 rfl (k2 c1))
  · refine (x_iconst 77 0 i177_77 rfl ?_)
    exact (x_istore_n 78 (ls2 := [.ref 67, .int x1, .int x2, .int 0]) i177_78 (Nat.le_of_ble_eq_true rfl) rfl (k3 c1))

set_option maxRecDepth 20000 in
theorem g177_79 {m n sl : Nat} {ln : Nat → Nat} {di : Nat → Nat → Int32} {dl : Nat → Nat → Int64} {dr : Nat → Nat → Option Nat} {x1 : Int32} {x2 : Int32} {x3 : Int32} {Q : Option Value → q_H → Prop} (hg : q_Gr n ln dr)
    (k2 : ((3 : Int32) ≤ x3) → q_EX q_KD (m + 1) 177 67 [.ref 67, .int x1, .int (x2 + 1), .retAddr 0] [] (n, sl, ln, di, dl, dr) Q)
    (s3 : (x3 < (3 : Int32)) → vp_in x1 706)
    (k6 : (x3 < (3 : Int32)) → ((di 68 x1.toNatClampNeg) ≤ x2) → (¬ x3 = (0 : Int32)) → q_EX q_KD m 119 0 [.ref 67, .int x2, .int ((3 : Int32) + x3), .int 0] [] (n, sl, ln, di, dl, dr) (fun r1 h1 => q_EX q_KD (m + 1) 177 128 [.ref 67, .int x1, .int x2, .int x3] (r1.toList ++ []) h1 Q))
    (k7 : (x3 < (3 : Int32)) → ((di 68 x1.toNatClampNeg) ≤ x2) → (x3 = (0 : Int32)) → q_EX q_KD m 119 0 [.ref 67, .int x2, .int ((3 : Int32) + x3), .int (-1)] [] (n, sl, ln, di, dl, dr) (fun r1 h1 => q_EX q_KD (m + 1) 177 128 [.ref 67, .int x1, .int x2, .int x3] (r1.toList ++ []) h1 Q))
    (s8 : (x3 < (3 : Int32)) → (x2 < (di 68 x1.toNatClampNeg)) → vp_in (((x1 + (3 : Int32)) + ((3 : Int32) * x2)) + x3) 706)
    (k9 : (x3 < (3 : Int32)) → (x2 < (di 68 x1.toNatClampNeg)) → q_EX q_KD m 119 0 [.ref 67, .int x2, .int ((3 : Int32) + x3), .int (di 68 ((((x1 + (3 : Int32)) + ((3 : Int32) * x2)) + x3).toNatClampNeg))] [] (n, sl, ln, di, dl, dr) (fun r1 h1 => q_EX q_KD (m + 1) 177 128 [.ref 67, .int x1, .int x2, .int x3] (r1.toList ++ []) h1 Q)) : q_EX q_KD (m + 1) 177 79 [.ref 67, .int x1, .int x2, .int x3] [] (n, sl, ln, di, dl, dr) Q := by
  refine (x_iload_n 79 i177_79 rfl ?_)
  refine (x_iconst 80 3 i177_80 rfl ?_)
  refine (x_icmp_ge 81 134 i177_81 rfl (fun c1 => ?_) (fun c1 => ?_))
  · refine (x_iinc 134 (x2 + 1) (ls2 := [.ref 67, .int x1, .int (x2 + 1), .int x3]) i177_134 rfl (Nat.le_of_ble_eq_true rfl) rfl rfl ?_)
    refine (x_goto 137 67 i177_137 rfl ?_)
    exact (xx_loc (ls := [.ref 67, .int x1, .int (x2 + 1), .retAddr 0]) (ls' := [.ref 67, .int x1, .int (x2 + 1), .int x3]) ⟨Or.inl rfl, Or.inl rfl, Or.inl rfl, Or.inr rfl, trivial⟩ (k2 c1))
  · refine (x_aload_n 84 i177_84 rfl ?_)
    refine (x_iload_n 85 i177_85 rfl ?_)
    refine (x_iconst 86 3 i177_86 rfl ?_)
    refine (x_iload_n 87 i177_87 rfl ?_)
    refine (x_iadd 88 i177_88 ?_)
    refine (x_iload_n 89 i177_89 rfl ?_)
    refine (x_aload_n 90 i177_90 rfl ?_)
    refine (x_getR 91 68 i177_91 rfl (q_lt hg rfl) (Nat.le_of_ble_eq_true rfl) rfl (hg.2.2.1 67 0 68 rfl) ?_)
    refine (x_iload_n 94 i177_94 rfl ?_)
    refine (x_iaload 95 (di 68 x1.toNatClampNeg) i177_95 rfl (q_lt hg rfl) (q_inE (hg.2.1 68 706 rfl) (s3 c1)) rfl ?_)
    refine (x_icmp_ge 96 116 i177_96 rfl (fun c4 => ?_) (fun c4 => ?_))
    · refine (x_iload_n 116 i177_116 rfl ?_)
      refine (x_if_ne 117 124 i177_117 rfl (fun c5 => ?_) (fun c5 => ?_))
      · refine (x_iconst 124 0 i177_124 rfl ?_)
        exact (x_cv 125 (as := [.int x2, .int ((3 : Int32) + x3), .int 0]) (rs := []) i177_125 rfl rfl rfl rfl (Nat.le_of_ble_eq_true rfl) (q_lt hg rfl) rfl (Or.inr (Nat.le_of_ble_eq_true rfl)) (Nat.le_of_ble_eq_true rfl) rfl rfl (k6 c1 c4 c5))
      · refine (x_iconst 120 (-1) i177_120 rfl ?_)
        refine (x_goto 121 125 i177_121 rfl ?_)
        exact (x_cv 125 (as := [.int x2, .int ((3 : Int32) + x3), .int (-1)]) (rs := []) i177_125 rfl rfl rfl rfl (Nat.le_of_ble_eq_true rfl) (q_lt hg rfl) rfl (Or.inr (Nat.le_of_ble_eq_true rfl)) (Nat.le_of_ble_eq_true rfl) rfl rfl (k7 c1 c4 c5))
    · refine (x_aload_n 99 i177_99 rfl ?_)
      refine (x_getR 100 68 i177_100 rfl (q_lt hg rfl) (Nat.le_of_ble_eq_true rfl) rfl (hg.2.2.1 67 0 68 rfl) ?_)
      refine (x_iload_n 103 i177_103 rfl ?_)
      refine (x_iconst 104 3 i177_104 rfl ?_)
      refine (x_iadd 105 i177_105 ?_)
      refine (x_iconst 106 3 i177_106 rfl ?_)
      refine (x_iload_n 107 i177_107 rfl ?_)
      refine (x_imul 108 i177_108 ?_)
      refine (x_iadd 109 i177_109 ?_)
      refine (x_iload_n 110 i177_110 rfl ?_)
      refine (x_iadd 111 i177_111 ?_)
      refine (x_iaload 112 (di 68 ((((x1 + (3 : Int32)) + ((3 : Int32) * x2)) + x3).toNatClampNeg)) i177_112 rfl (q_lt hg rfl) (q_inE (hg.2.1 68 706 rfl) (s8 c1 c4)) rfl ?_)
      refine (x_goto 113 125 i177_113 rfl ?_)
      exact (x_cv 125 (as := [.int x2, .int ((3 : Int32) + x3), .int (di 68 ((((x1 + (3 : Int32)) + ((3 : Int32) * x2)) + x3).toNatClampNeg))]) (rs := []) i177_125 rfl rfl rfl rfl (Nat.le_of_ble_eq_true rfl) (q_lt hg rfl) rfl (Or.inr (Nat.le_of_ble_eq_true rfl)) (Nat.le_of_ble_eq_true rfl) rfl rfl (k9 c1 c4))

set_option maxRecDepth 20000 in
theorem g177_128 {d n sl : Nat} {ln : Nat → Nat} {di : Nat → Nat → Int32} {dl : Nat → Nat → Int64} {dr : Nat → Nat → Option Nat} {x1 : Int32} {x2 : Int32} {x3 : Int32} {Q : Option Value → q_H → Prop} (hg : q_Gr n ln dr)
    (k1 : q_EX q_KD d 177 79 [.ref 67, .int x1, .int x2, .int (x3 + 1)] [] (n, sl, ln, di, dl, dr) Q) : q_EX q_KD d 177 128 [.ref 67, .int x1, .int x2, .int x3] [] (n, sl, ln, di, dl, dr) Q := by
  refine (x_iinc 128 (x3 + 1) (ls2 := [.ref 67, .int x1, .int x2, .int (x3 + 1)]) i177_128 rfl (Nat.le_of_ble_eq_true rfl) rfl rfl ?_)
  exact (x_goto 131 79 i177_131 rfl k1)

/-! SilentHouseModel.seat -/
set_option maxRecDepth 20000 in
theorem g178_0 {m n sl : Nat} {ln : Nat → Nat} {di : Nat → Nat → Int32} {dl : Nat → Nat → Int64} {dr : Nat → Nat → Option Nat} {x1 : Int32} {x2 : Int32} {Q : Option Value → q_H → Prop} (hg : q_Gr n ln dr)
    (k1 : q_EX q_KD m 160 0 [.ref 67, .int x1] [] (n, sl, ln, di, dl, dr) (fun r1 h1 => q_EX q_KD (m + 1) 178 5 [.ref 67, .int x1, .int x2] (r1.toList ++ []) h1 Q)) : q_EX q_KD (m + 1) 178 0 [.ref 67, .int x1, .int x2] [] (n, sl, ln, di, dl, dr) Q := by
  refine (x_aload_n 0 i178_0 rfl ?_)
  refine (x_iload_n 1 i178_1 rfl ?_)
  exact (x_cv 2 (as := [.int x1]) (rs := []) i178_2 rfl rfl rfl rfl (Nat.le_of_ble_eq_true rfl) (q_lt hg rfl) rfl (Or.inr (Nat.le_of_ble_eq_true rfl)) (Nat.le_of_ble_eq_true rfl) rfl rfl k1)

set_option maxRecDepth 20000 in
theorem g178_5 {m n sl : Nat} {ln : Nat → Nat} {di : Nat → Nat → Int32} {dl : Nat → Nat → Int64} {dr : Nat → Nat → Option Nat} {x1 : Int32} {x2 : Int32} {y0 : Int32} {Q : Option Value → q_H → Prop} (hg : q_Gr n ln dr)
    (k2 : (y0 = (0 : Int32)) → Q (some (.int 0)) (n, sl, ln, di, dl, dr))
    (k3 : (¬ y0 = (0 : Int32)) → q_EX q_KD m 118 0 [.int x2, .int (-1), .int 15] [] (n, sl, ln, di, dl, dr) (fun r1 h1 => q_EX q_KD (m + 1) 178 15 [.ref 67, .int x1, .int x2] (r1.toList ++ []) h1 Q)) : q_EX q_KD (m + 1) 178 5 [.ref 67, .int x1, .int x2] [.int y0] (n, sl, ln, di, dl, dr) Q := by
  refine (x_if_eq 5 40 i178_5 rfl (fun c1 => ?_) (fun c1 => ?_))
  · refine (x_iconst 40 0 i178_40 rfl ?_)
    exact (x_iret0 41 i178_41 rfl (k2 c1))
  · refine (x_iload_n 8 i178_8 rfl ?_)
    refine (x_iconst 9 (-1) i178_9 rfl ?_)
    refine (x_bipush 10 15 i178_10 rfl ?_)
    exact (x_cs 12 (as := [.int x2, .int (-1), .int 15]) (rs := []) i178_12 rfl rfl rfl rfl (Nat.le_of_ble_eq_true rfl) (Nat.le_of_ble_eq_true rfl) rfl rfl (k3 c1))

set_option maxRecDepth 20000 in
theorem g178_15 {m n sl : Nat} {ln : Nat → Nat} {di : Nat → Nat → Int32} {dl : Nat → Nat → Int64} {dr : Nat → Nat → Option Nat} {x1 : Int32} {x2 : Int32} {y0 : Int32} {Q : Option Value → q_H → Prop} (hg : q_Gr n ln dr)
    (k2 : (y0 = (0 : Int32)) → Q (some (.int 0)) (n, sl, ln, di, dl, dr))
    (k3 : (¬ y0 = (0 : Int32)) → q_EX q_KD m 161 0 [.ref 67, .int x1, .int 3] [] (n, sl, ln, di, dl, dr) (fun r1 h1 => q_EX q_KD (m + 1) 178 24 [.ref 67, .int x1, .int x2] (r1.toList ++ []) h1 Q)) : q_EX q_KD (m + 1) 178 15 [.ref 67, .int x1, .int x2] [.int y0] (n, sl, ln, di, dl, dr) Q := by
  refine (x_if_eq 15 40 i178_15 rfl (fun c1 => ?_) (fun c1 => ?_))
  · refine (x_iconst 40 0 i178_40 rfl ?_)
    exact (x_iret0 41 i178_41 rfl (k2 c1))
  · refine (x_aload_n 18 i178_18 rfl ?_)
    refine (x_iload_n 19 i178_19 rfl ?_)
    refine (x_iconst 20 3 i178_20 rfl ?_)
    exact (x_cv 21 (as := [.int x1, .int 3]) (rs := []) i178_21 rfl rfl rfl rfl (Nat.le_of_ble_eq_true rfl) (q_lt hg rfl) rfl (Or.inr (Nat.le_of_ble_eq_true rfl)) (Nat.le_of_ble_eq_true rfl) rfl rfl (k3 c1))

set_option maxRecDepth 20000 in
theorem g178_24 {m n sl : Nat} {ln : Nat → Nat} {di : Nat → Nat → Int32} {dl : Nat → Nat → Int64} {dr : Nat → Nat → Option Nat} {x1 : Int32} {x2 : Int32} {y0 : Int32} {Q : Option Value → q_H → Prop} (hg : q_Gr n ln dr)
    (k2 : (y0 = x2) → Q (some (.int 0)) (n, sl, ln, di, dl, dr))
    (k4 : (¬ y0 = x2) → (x2 < (0 : Int32)) → q_EX q_KD m 180 0 [.ref 67, .retAddr 0, .retAddr 0, .retAddr 0] [] (n, sl, ln, di, dl, dr) (fun r1 h1 => q_EX q_KD (m + 1) 178 46 [.ref 67, .int x1, .int x2] (r1.toList ++ []) h1 Q))
    (k5 : (¬ y0 = x2) → ((0 : Int32) ≤ x2) → q_EX q_KD m 179 0 [.ref 67, .int x2, .retAddr 0] [] (n, sl, ln, di, dl, dr) (fun r1 h1 => q_EX q_KD (m + 1) 178 37 [.ref 67, .int x1, .int x2] (r1.toList ++ []) h1 Q)) : q_EX q_KD (m + 1) 178 24 [.ref 67, .int x1, .int x2] [.int y0] (n, sl, ln, di, dl, dr) Q := by
  refine (x_iload_n 24 i178_24 rfl ?_)
  refine (x_icmp_eq 25 40 i178_25 rfl (fun c1 => ?_) (fun c1 => ?_))
  · refine (x_iconst 40 0 i178_40 rfl ?_)
    exact (x_iret0 41 i178_41 rfl (k2 c1))
  · refine (x_iload_n 28 i178_28 rfl ?_)
    refine (x_if_lt 29 42 i178_29 rfl (fun c3 => ?_) (fun c3 => ?_))
    · refine (x_aload_n 42 i178_42 rfl ?_)
      exact (x_cv 43 (as := []) (rs := []) i178_43 rfl rfl rfl rfl (Nat.le_of_ble_eq_true rfl) (q_lt hg rfl) rfl (Or.inr (Nat.le_of_ble_eq_true rfl)) (Nat.le_of_ble_eq_true rfl) rfl rfl (k4 c1 c3))
    · refine (x_aload_n 32 i178_32 rfl ?_)
      refine (x_iload_n 33 i178_33 rfl ?_)
      exact (x_cv 34 (as := [.int x2]) (rs := []) i178_34 rfl rfl rfl rfl (Nat.le_of_ble_eq_true rfl) (q_lt hg rfl) rfl (Or.inr (Nat.le_of_ble_eq_true rfl)) (Nat.le_of_ble_eq_true rfl) rfl rfl (k5 c1 c3))

set_option maxRecDepth 20000 in
theorem g178_46 {m n sl : Nat} {ln : Nat → Nat} {di : Nat → Nat → Int32} {dl : Nat → Nat → Int64} {dr : Nat → Nat → Option Nat} {x1 : Int32} {x2 : Int32} {Q : Option Value → q_H → Prop} (hg : q_Gr n ln dr)
    (k1 : q_EX q_KD m 119 0 [.ref 67, .int x1, .int 3, .int x2] [] (n, sl, ln, di, dl, dr) (fun r1 h1 => q_EX q_KD (m + 1) 178 53 [.retAddr 0, .retAddr 0, .retAddr 0] (r1.toList ++ []) h1 Q)) : q_EX q_KD (m + 1) 178 46 [.ref 67, .int x1, .int x2] [] (n, sl, ln, di, dl, dr) Q := by
  refine (x_aload_n 46 i178_46 rfl ?_)
  refine (x_iload_n 47 i178_47 rfl ?_)
  refine (x_iconst 48 3 i178_48 rfl ?_)
  refine (x_iload_n 49 i178_49 rfl ?_)
  refine (xx_loc (ls := [.retAddr 0, .retAddr 0, .retAddr 0]) (ls' := [.ref 67, .int x1, .int x2]) ⟨Or.inr rfl, Or.inr rfl, Or.inr rfl, trivial⟩ ?_)
  exact (x_cv 50 (as := [.int x1, .int 3, .int x2]) (rs := []) i178_50 rfl rfl rfl rfl (Nat.le_of_ble_eq_true rfl) (q_lt hg rfl) rfl (Or.inr (Nat.le_of_ble_eq_true rfl)) (Nat.le_of_ble_eq_true rfl) rfl rfl k1)

set_option maxRecDepth 20000 in
theorem g178_37 {m n sl : Nat} {ln : Nat → Nat} {di : Nat → Nat → Int32} {dl : Nat → Nat → Int64} {dr : Nat → Nat → Option Nat} {x1 : Int32} {x2 : Int32} {y0 : Int32} {Q : Option Value → q_H → Prop} (hg : q_Gr n ln dr)
    (k2 : (y0 < (0 : Int32)) → q_EX q_KD m 180 0 [.ref 67, .retAddr 0, .retAddr 0, .retAddr 0] [] (n, sl, ln, di, dl, dr) (fun r1 h1 => q_EX q_KD (m + 1) 178 46 [.ref 67, .int x1, .int x2] (r1.toList ++ []) h1 Q))
    (k3 : ((0 : Int32) ≤ y0) → Q (some (.int 0)) (n, sl, ln, di, dl, dr)) : q_EX q_KD (m + 1) 178 37 [.ref 67, .int x1, .int x2] [.int y0] (n, sl, ln, di, dl, dr) Q := by
  refine (x_if_lt 37 42 i178_37 rfl (fun c1 => ?_) (fun c1 => ?_))
  · refine (x_aload_n 42 i178_42 rfl ?_)
    exact (x_cv 43 (as := []) (rs := []) i178_43 rfl rfl rfl rfl (Nat.le_of_ble_eq_true rfl) (q_lt hg rfl) rfl (Or.inr (Nat.le_of_ble_eq_true rfl)) (Nat.le_of_ble_eq_true rfl) rfl rfl (k2 c1))
  · refine (x_iconst 40 0 i178_40 rfl ?_)
    exact (x_iret0 41 i178_41 rfl (k3 c1))

set_option maxRecDepth 20000 in
theorem g178_53 {d n sl : Nat} {ln : Nat → Nat} {di : Nat → Nat → Int32} {dl : Nat → Nat → Int64} {dr : Nat → Nat → Option Nat} {Q : Option Value → q_H → Prop} (hg : q_Gr n ln dr)
    (k1 : Q (some (.int 1)) (n, sl, ln, di, dl, dr)) : q_EX q_KD d 178 53 [.retAddr 0, .retAddr 0, .retAddr 0] [] (n, sl, ln, di, dl, dr) Q := by
  refine (x_iconst 53 1 i178_53 rfl ?_)
  exact (x_iret1 54 i178_54 rfl k1)

/-! SilentHouseModel.whoIsOn -/
set_option maxRecDepth 20000 in
theorem g179_0 {d n sl : Nat} {ln : Nat → Nat} {di : Nat → Nat → Int32} {dl : Nat → Nat → Int64} {dr : Nat → Nat → Option Nat} {x1 : Int32} {Q : Option Value → q_H → Prop} (hg : q_Gr n ln dr)
    (k1 : q_EX q_KD d 179 2 [.ref 67, .int x1, .int 0] [] (n, sl, ln, di, dl, dr) Q) : q_EX q_KD d 179 0 [.ref 67, .int x1, .retAddr 0] [] (n, sl, ln, di, dl, dr) Q := by
  refine (x_iconst 0 0 i179_0 rfl ?_)
  exact (x_istore_n 1 (ls2 := [.ref 67, .int x1, .int 0]) i179_1 (Nat.le_of_ble_eq_true rfl) rfl k1)

set_option maxRecDepth 20000 in
theorem g179_2 {m n sl : Nat} {ln : Nat → Nat} {di : Nat → Nat → Int32} {dl : Nat → Nat → Int64} {dr : Nat → Nat → Option Nat} {x1 : Int32} {x2 : Int32} {Q : Option Value → q_H → Prop} (hg : q_Gr n ln dr)
    (k2 : ((di 68 0) ≤ x2) → Q (some (.int (-1))) (n, sl, ln, di, dl, dr))
    (k3 : (x2 < (di 68 0)) → q_EX q_KD m 161 0 [.ref 67, .int x2, .int 3] [] (n, sl, ln, di, dl, dr) (fun r1 h1 => q_EX q_KD (m + 1) 179 18 [.ref 67, .int x1, .int x2] (r1.toList ++ []) h1 Q)) : q_EX q_KD (m + 1) 179 2 [.ref 67, .int x1, .int x2] [] (n, sl, ln, di, dl, dr) Q := by
  refine (x_iload_n 2 i179_2 rfl ?_)
  refine (x_aload_n 3 i179_3 rfl ?_)
  refine (x_getR 4 68 i179_4 rfl (q_lt hg rfl) (Nat.le_of_ble_eq_true rfl) rfl (hg.2.2.1 67 0 68 rfl) ?_)
  refine (x_iconst 7 0 i179_7 rfl ?_)
  refine (x_iaload 8 (di 68 0) i179_8 rfl (q_lt hg rfl) (q_inE (hg.2.1 68 706 rfl) (q_vin rfl)) rfl ?_)
  refine (x_icmp_ge 9 30 i179_9 rfl (fun c1 => ?_) (fun c1 => ?_))
  · refine (x_iconst 30 (-1) i179_30 rfl ?_)
    exact (x_iretI 31 i179_31 rfl (k2 c1))
  · refine (x_aload_n 12 i179_12 rfl ?_)
    refine (x_iload_n 13 i179_13 rfl ?_)
    refine (x_iconst 14 3 i179_14 rfl ?_)
    exact (x_cv 15 (as := [.int x2, .int 3]) (rs := []) i179_15 rfl rfl rfl rfl (Nat.le_of_ble_eq_true rfl) (q_lt hg rfl) rfl (Or.inr (Nat.le_of_ble_eq_true rfl)) (Nat.le_of_ble_eq_true rfl) rfl rfl (k3 c1))

set_option maxRecDepth 20000 in
theorem g179_18 {d n sl : Nat} {ln : Nat → Nat} {di : Nat → Nat → Int32} {dl : Nat → Nat → Int64} {dr : Nat → Nat → Option Nat} {x1 : Int32} {x2 : Int32} {y0 : Int32} {Q : Option Value → q_H → Prop} (hg : q_Gr n ln dr)
    (k2 : (¬ y0 = x1) → q_EX q_KD d 179 2 [.ref 67, .int x1, .int (x2 + 1)] [] (n, sl, ln, di, dl, dr) Q)
    (k3 : (y0 = x1) → Q (some (.int x2)) (n, sl, ln, di, dl, dr)) : q_EX q_KD d 179 18 [.ref 67, .int x1, .int x2] [.int y0] (n, sl, ln, di, dl, dr) Q := by
  refine (x_iload_n 18 i179_18 rfl ?_)
  refine (x_icmp_ne 19 24 i179_19 rfl (fun c1 => ?_) (fun c1 => ?_))
  · refine (x_iinc 24 (x2 + 1) (ls2 := [.ref 67, .int x1, .int (x2 + 1)]) i179_24 rfl (Nat.le_of_ble_eq_true rfl) rfl rfl ?_)
    exact (x_goto 27 2 i179_27 rfl (k2 c1))
  · refine (x_iload_n 22 i179_22 rfl ?_)
    exact (x_iretI 23 i179_23 rfl (k3 c1))

/-! SilentHouseModel.keep -/
set_option maxRecDepth 20000 in
theorem g180_0 {d n sl : Nat} {ln : Nat → Nat} {di : Nat → Nat → Int32} {dl : Nat → Nat → Int64} {dr : Nat → Nat → Option Nat} {Q : Option Value → q_H → Prop} (hg : q_Gr n ln dr)
    (s2 : (¬ (di 68 6) = (30 : Int32)) → vp_in ((76 : Int32) + ((21 : Int32) * (di 68 6))) 706)
    (s3 : (¬ (di 68 6) = (30 : Int32)) → vp_in (((76 : Int32) + ((21 : Int32) * (di 68 6))) + (1 : Int32)) 706)
    (s4 : (¬ (di 68 6) = (30 : Int32)) → vp_in (((76 : Int32) + ((21 : Int32) * (di 68 6))) + (2 : Int32)) 706)
    (k5 : (¬ (di 68 6) = (30 : Int32)) → q_EX q_KD d 180 112 [.ref 67, .int ((76 : Int32) + ((21 : Int32) * (di 68 6))), .int 0, .retAddr 0] [] (n, sl, ln, (q_u (q_u (q_u di 68 (((76 : Int32) + ((21 : Int32) * (di 68 6))).toNatClampNeg) (di 68 0)) 68 ((((76 : Int32) + ((21 : Int32) * (di 68 6))) + (1 : Int32)).toNatClampNeg) ((q_u di 68 (((76 : Int32) + ((21 : Int32) * (di 68 6))).toNatClampNeg) (di 68 0)) 68 3)) 68 ((((76 : Int32) + ((21 : Int32) * (di 68 6))) + (2 : Int32)).toNatClampNeg) ((q_u (q_u di 68 (((76 : Int32) + ((21 : Int32) * (di 68 6))).toNatClampNeg) (di 68 0)) 68 ((((76 : Int32) + ((21 : Int32) * (di 68 6))) + (1 : Int32)).toNatClampNeg) ((q_u di 68 (((76 : Int32) + ((21 : Int32) * (di 68 6))).toNatClampNeg) (di 68 0)) 68 3)) 68 2)), dl, dr) Q)
    (k6 : ((di 68 6) = (30 : Int32)) → q_EX q_KD d 180 14 [.ref 67, .int 0, .retAddr 0, .retAddr 0] [] (n, sl, ln, di, dl, dr) Q) : q_EX q_KD d 180 0 [.ref 67, .retAddr 0, .retAddr 0, .retAddr 0] [] (n, sl, ln, di, dl, dr) Q := by
  refine (x_aload_n 0 i180_0 rfl ?_)
  refine (x_getR 1 68 i180_1 rfl (q_lt hg rfl) (Nat.le_of_ble_eq_true rfl) rfl (hg.2.2.1 67 0 68 rfl) ?_)
  refine (x_bipush 4 6 i180_4 rfl ?_)
  refine (x_iaload 6 (di 68 6) i180_6 rfl (q_lt hg rfl) (q_inE (hg.2.1 68 706 rfl) (q_vin rfl)) rfl ?_)
  refine (x_bipush 7 30 i180_7 rfl ?_)
  refine (x_icmp_ne 9 56 i180_9 rfl (fun c1 => ?_) (fun c1 => ?_))
  · refine (x_bipush 56 76 i180_56 rfl ?_)
    refine (x_bipush 58 21 i180_58 rfl ?_)
    refine (x_aload_n 60 i180_60 rfl ?_)
    refine (x_getR 61 68 i180_61 rfl (q_lt hg rfl) (Nat.le_of_ble_eq_true rfl) rfl (hg.2.2.1 67 0 68 rfl) ?_)
    refine (x_bipush 64 6 i180_64 rfl ?_)
    refine (x_iaload 66 (di 68 6) i180_66 rfl (q_lt hg rfl) (q_inE (hg.2.1 68 706 rfl) (q_vin rfl)) rfl ?_)
    refine (x_imul 67 i180_67 ?_)
    refine (x_iadd 68 i180_68 ?_)
    refine (x_istore_n 69 (ls2 := [.ref 67, .int ((76 : Int32) + ((21 : Int32) * (di 68 6))), .retAddr 0, .retAddr 0]) i180_69 (Nat.le_of_ble_eq_true rfl) rfl ?_)
    refine (x_aload_n 70 i180_70 rfl ?_)
    refine (x_getR 71 68 i180_71 rfl (q_lt hg rfl) (Nat.le_of_ble_eq_true rfl) rfl (hg.2.2.1 67 0 68 rfl) ?_)
    refine (x_iload_n 74 i180_74 rfl ?_)
    refine (x_aload_n 75 i180_75 rfl ?_)
    refine (x_getR 76 68 i180_76 rfl (q_lt hg rfl) (Nat.le_of_ble_eq_true rfl) rfl (hg.2.2.1 67 0 68 rfl) ?_)
    refine (x_iconst 79 0 i180_79 rfl ?_)
    refine (x_iaload 80 (di 68 0) i180_80 rfl (q_lt hg rfl) (q_inE (hg.2.1 68 706 rfl) (q_vin rfl)) rfl ?_)
    refine (x_iastore 81 i180_81 rfl (Nat.le_of_ble_eq_true rfl) (q_lt hg rfl) (q_inE (hg.2.1 68 706 rfl) (s2 c1)) ?_)
    refine (x_aload_n 82 i180_82 rfl ?_)
    refine (x_getR 83 68 i180_83 rfl (q_lt hg rfl) (Nat.le_of_ble_eq_true rfl) rfl (hg.2.2.1 67 0 68 rfl) ?_)
    refine (x_iload_n 86 i180_86 rfl ?_)
    refine (x_iconst 87 1 i180_87 rfl ?_)
    refine (x_iadd 88 i180_88 ?_)
    refine (x_aload_n 89 i180_89 rfl ?_)
    refine (x_getR 90 68 i180_90 rfl (q_lt hg rfl) (Nat.le_of_ble_eq_true rfl) rfl (hg.2.2.1 67 0 68 rfl) ?_)
    refine (x_iconst 93 3 i180_93 rfl ?_)
    refine (x_iaload 94 ((q_u di 68 (((76 : Int32) + ((21 : Int32) * (di 68 6))).toNatClampNeg) (di 68 0)) 68 3) i180_94 rfl (q_lt hg rfl) (q_inE (hg.2.1 68 706 rfl) (q_vin rfl)) rfl ?_)
    refine (x_iastore 95 i180_95 rfl (Nat.le_of_ble_eq_true rfl) (q_lt hg rfl) (q_inE (hg.2.1 68 706 rfl) (s3 c1)) ?_)
    refine (x_aload_n 96 i180_96 rfl ?_)
    refine (x_getR 97 68 i180_97 rfl (q_lt hg rfl) (Nat.le_of_ble_eq_true rfl) rfl (hg.2.2.1 67 0 68 rfl) ?_)
    refine (x_iload_n 100 i180_100 rfl ?_)
    refine (x_iconst 101 2 i180_101 rfl ?_)
    refine (x_iadd 102 i180_102 ?_)
    refine (x_aload_n 103 i180_103 rfl ?_)
    refine (x_getR 104 68 i180_104 rfl (q_lt hg rfl) (Nat.le_of_ble_eq_true rfl) rfl (hg.2.2.1 67 0 68 rfl) ?_)
    refine (x_iconst 107 2 i180_107 rfl ?_)
    refine (x_iaload 108 ((q_u (q_u di 68 (((76 : Int32) + ((21 : Int32) * (di 68 6))).toNatClampNeg) (di 68 0)) 68 ((((76 : Int32) + ((21 : Int32) * (di 68 6))) + (1 : Int32)).toNatClampNeg) ((q_u di 68 (((76 : Int32) + ((21 : Int32) * (di 68 6))).toNatClampNeg) (di 68 0)) 68 3)) 68 2) i180_108 rfl (q_lt hg rfl) (q_inE (hg.2.1 68 706 rfl) (q_vin rfl)) rfl ?_)
    refine (x_iastore 109 i180_109 rfl (Nat.le_of_ble_eq_true rfl) (q_lt hg rfl) (q_inE (hg.2.1 68 706 rfl) (s4 c1)) ?_)
    refine (x_iconst 110 0 i180_110 rfl ?_)
    exact (x_istore_n 111 (ls2 := [.ref 67, .int ((76 : Int32) + ((21 : Int32) * (di 68 6))), .int 0, .retAddr 0]) i180_111 (Nat.le_of_ble_eq_true rfl) rfl (k5 c1))
  · refine (x_iconst 12 0 i180_12 rfl ?_)
    exact (x_istore_n 13 (ls2 := [.ref 67, .int 0, .retAddr 0, .retAddr 0]) i180_13 (Nat.le_of_ble_eq_true rfl) rfl (k6 c1))

set_option maxRecDepth 20000 in
theorem g180_112 {d n sl : Nat} {ln : Nat → Nat} {di : Nat → Nat → Int32} {dl : Nat → Nat → Int64} {dr : Nat → Nat → Option Nat} {x1 : Int32} {x2 : Int32} {Q : Option Value → q_H → Prop} (hg : q_Gr n ln dr)
    (k2 : ((6 : Int32) ≤ x2) → Q none (n, sl, ln, (q_u di 68 6 ((di 68 6) + (1 : Int32))), dl, dr))
    (k3 : (x2 < (6 : Int32)) → q_EX q_KD d 180 120 [.ref 67, .int x1, .int x2, .int 0] [] (n, sl, ln, di, dl, dr) Q) : q_EX q_KD d 180 112 [.ref 67, .int x1, .int x2, .retAddr 0] [] (n, sl, ln, di, dl, dr) Q := by
  refine (x_iload_n 112 i180_112 rfl ?_)
  refine (x_bipush 113 6 i180_113 rfl ?_)
  refine (x_icmp_ge 115 159 i180_115 rfl (fun c1 => ?_) (fun c1 => ?_))
  · refine (x_aload_n 159 i180_159 rfl ?_)
    refine (x_getR 160 68 i180_160 rfl (q_lt hg rfl) (Nat.le_of_ble_eq_true rfl) rfl (hg.2.2.1 67 0 68 rfl) ?_)
    refine (x_bipush 163 6 i180_163 rfl ?_)
    refine (x_dup2 165 i180_165 rfl rfl ?_)
    refine (x_iaload 166 (di 68 6) i180_166 rfl (q_lt hg rfl) (q_inE (hg.2.1 68 706 rfl) (q_vin rfl)) rfl ?_)
    refine (x_iconst 167 1 i180_167 rfl ?_)
    refine (x_iadd 168 i180_168 ?_)
    refine (x_iastore 169 i180_169 rfl (Nat.le_of_ble_eq_true rfl) (q_lt hg rfl) (q_inE (hg.2.1 68 706 rfl) (q_vin rfl)) ?_)
    exact (x_vret 170 i180_170 rfl (k2 c1))
  · refine (x_iconst 118 0 i180_118 rfl ?_)
    exact (x_istore_n 119 (ls2 := [.ref 67, .int x1, .int x2, .int 0]) i180_119 (Nat.le_of_ble_eq_true rfl) rfl (k3 c1))

set_option maxRecDepth 20000 in
theorem g180_14 {d n sl : Nat} {ln : Nat → Nat} {di : Nat → Nat → Int32} {dl : Nat → Nat → Int64} {dr : Nat → Nat → Option Nat} {x1 : Int32} {Q : Option Value → q_H → Prop} (hg : q_Gr n ln dr)
    (s2 : ((609 : Int32) ≤ x1) → vp_in ((76 : Int32) + ((21 : Int32) * ((di 68 6) - (1 : Int32)))) 706)
    (s3 : ((609 : Int32) ≤ x1) → vp_in (((76 : Int32) + ((21 : Int32) * ((di 68 6) - (1 : Int32)))) + (1 : Int32)) 706)
    (s4 : ((609 : Int32) ≤ x1) → vp_in (((76 : Int32) + ((21 : Int32) * ((di 68 6) - (1 : Int32)))) + (2 : Int32)) 706)
    (k5 : ((609 : Int32) ≤ x1) → q_EX q_KD d 180 112 [.ref 67, .int ((76 : Int32) + ((21 : Int32) * ((di 68 6) - (1 : Int32)))), .int 0, .retAddr 0] [] (n, sl, ln, (q_u (q_u (q_u (q_u di 68 6 ((di 68 6) - (1 : Int32))) 68 (((76 : Int32) + ((21 : Int32) * ((di 68 6) - (1 : Int32)))).toNatClampNeg) (di 68 0)) 68 ((((76 : Int32) + ((21 : Int32) * ((di 68 6) - (1 : Int32)))) + (1 : Int32)).toNatClampNeg) ((q_u di 68 (((76 : Int32) + ((21 : Int32) * ((di 68 6) - (1 : Int32)))).toNatClampNeg) (di 68 0)) 68 3)) 68 ((((76 : Int32) + ((21 : Int32) * ((di 68 6) - (1 : Int32)))) + (2 : Int32)).toNatClampNeg) ((q_u (q_u di 68 (((76 : Int32) + ((21 : Int32) * ((di 68 6) - (1 : Int32)))).toNatClampNeg) (di 68 0)) 68 ((((76 : Int32) + ((21 : Int32) * ((di 68 6) - (1 : Int32)))) + (1 : Int32)).toNatClampNeg) ((q_u di 68 (((76 : Int32) + ((21 : Int32) * ((di 68 6) - (1 : Int32)))).toNatClampNeg) (di 68 0)) 68 3)) 68 2)), dl, dr) Q)
    (s6 : (x1 < (609 : Int32)) → vp_in ((97 : Int32) + x1) 706)
    (s7 : (x1 < (609 : Int32)) → vp_in ((76 : Int32) + x1) 706)
    (k8 : (x1 < (609 : Int32)) → q_EX q_KD d 180 14 [.ref 67, .int (x1 + 1), .retAddr 0, .retAddr 0] [] (n, sl, ln, (q_u di 68 (((76 : Int32) + x1).toNatClampNeg) (di 68 (((97 : Int32) + x1).toNatClampNeg))), dl, dr) Q) : q_EX q_KD d 180 14 [.ref 67, .int x1, .retAddr 0, .retAddr 0] [] (n, sl, ln, di, dl, dr) Q := by
  refine (x_iload_n 14 i180_14 rfl ?_)
  refine (x_sipush 15 609 i180_15 rfl ?_)
  refine (x_icmp_ge 18 45 i180_18 rfl (fun c1 => ?_) (fun c1 => ?_))
  · refine (x_aload_n 45 i180_45 rfl ?_)
    refine (x_getR 46 68 i180_46 rfl (q_lt hg rfl) (Nat.le_of_ble_eq_true rfl) rfl (hg.2.2.1 67 0 68 rfl) ?_)
    refine (x_bipush 49 6 i180_49 rfl ?_)
    refine (x_dup2 51 i180_51 rfl rfl ?_)
    refine (x_iaload 52 (di 68 6) i180_52 rfl (q_lt hg rfl) (q_inE (hg.2.1 68 706 rfl) (q_vin rfl)) rfl ?_)
    refine (x_iconst 53 1 i180_53 rfl ?_)
    refine (x_isub 54 i180_54 ?_)
    refine (x_iastore 55 i180_55 rfl (Nat.le_of_ble_eq_true rfl) (q_lt hg rfl) (q_inE (hg.2.1 68 706 rfl) (q_vin rfl)) ?_)
    refine (x_bipush 56 76 i180_56 rfl ?_)
    refine (x_bipush 58 21 i180_58 rfl ?_)
    refine (x_aload_n 60 i180_60 rfl ?_)
    refine (x_getR 61 68 i180_61 rfl (q_lt hg rfl) (Nat.le_of_ble_eq_true rfl) rfl (hg.2.2.1 67 0 68 rfl) ?_)
    refine (x_bipush 64 6 i180_64 rfl ?_)
    refine (x_iaload 66 ((di 68 6) - (1 : Int32)) i180_66 rfl (q_lt hg rfl) (q_inE (hg.2.1 68 706 rfl) (q_vin rfl)) rfl ?_)
    refine (x_imul 67 i180_67 ?_)
    refine (x_iadd 68 i180_68 ?_)
    refine (x_istore_n 69 (ls2 := [.ref 67, .int ((76 : Int32) + ((21 : Int32) * ((di 68 6) - (1 : Int32)))), .retAddr 0, .retAddr 0]) i180_69 (Nat.le_of_ble_eq_true rfl) rfl ?_)
    refine (x_aload_n 70 i180_70 rfl ?_)
    refine (x_getR 71 68 i180_71 rfl (q_lt hg rfl) (Nat.le_of_ble_eq_true rfl) rfl (hg.2.2.1 67 0 68 rfl) ?_)
    refine (x_iload_n 74 i180_74 rfl ?_)
    refine (x_aload_n 75 i180_75 rfl ?_)
    refine (x_getR 76 68 i180_76 rfl (q_lt hg rfl) (Nat.le_of_ble_eq_true rfl) rfl (hg.2.2.1 67 0 68 rfl) ?_)
    refine (x_iconst 79 0 i180_79 rfl ?_)
    refine (x_iaload 80 (di 68 0) i180_80 rfl (q_lt hg rfl) (q_inE (hg.2.1 68 706 rfl) (q_vin rfl)) rfl ?_)
    refine (x_iastore 81 i180_81 rfl (Nat.le_of_ble_eq_true rfl) (q_lt hg rfl) (q_inE (hg.2.1 68 706 rfl) (s2 c1)) ?_)
    refine (x_aload_n 82 i180_82 rfl ?_)
    refine (x_getR 83 68 i180_83 rfl (q_lt hg rfl) (Nat.le_of_ble_eq_true rfl) rfl (hg.2.2.1 67 0 68 rfl) ?_)
    refine (x_iload_n 86 i180_86 rfl ?_)
    refine (x_iconst 87 1 i180_87 rfl ?_)
    refine (x_iadd 88 i180_88 ?_)
    refine (x_aload_n 89 i180_89 rfl ?_)
    refine (x_getR 90 68 i180_90 rfl (q_lt hg rfl) (Nat.le_of_ble_eq_true rfl) rfl (hg.2.2.1 67 0 68 rfl) ?_)
    refine (x_iconst 93 3 i180_93 rfl ?_)
    refine (x_iaload 94 ((q_u di 68 (((76 : Int32) + ((21 : Int32) * ((di 68 6) - (1 : Int32)))).toNatClampNeg) (di 68 0)) 68 3) i180_94 rfl (q_lt hg rfl) (q_inE (hg.2.1 68 706 rfl) (q_vin rfl)) rfl ?_)
    refine (x_iastore 95 i180_95 rfl (Nat.le_of_ble_eq_true rfl) (q_lt hg rfl) (q_inE (hg.2.1 68 706 rfl) (s3 c1)) ?_)
    refine (x_aload_n 96 i180_96 rfl ?_)
    refine (x_getR 97 68 i180_97 rfl (q_lt hg rfl) (Nat.le_of_ble_eq_true rfl) rfl (hg.2.2.1 67 0 68 rfl) ?_)
    refine (x_iload_n 100 i180_100 rfl ?_)
    refine (x_iconst 101 2 i180_101 rfl ?_)
    refine (x_iadd 102 i180_102 ?_)
    refine (x_aload_n 103 i180_103 rfl ?_)
    refine (x_getR 104 68 i180_104 rfl (q_lt hg rfl) (Nat.le_of_ble_eq_true rfl) rfl (hg.2.2.1 67 0 68 rfl) ?_)
    refine (x_iconst 107 2 i180_107 rfl ?_)
    refine (x_iaload 108 ((q_u (q_u di 68 (((76 : Int32) + ((21 : Int32) * ((di 68 6) - (1 : Int32)))).toNatClampNeg) (di 68 0)) 68 ((((76 : Int32) + ((21 : Int32) * ((di 68 6) - (1 : Int32)))) + (1 : Int32)).toNatClampNeg) ((q_u di 68 (((76 : Int32) + ((21 : Int32) * ((di 68 6) - (1 : Int32)))).toNatClampNeg) (di 68 0)) 68 3)) 68 2) i180_108 rfl (q_lt hg rfl) (q_inE (hg.2.1 68 706 rfl) (q_vin rfl)) rfl ?_)
    refine (x_iastore 109 i180_109 rfl (Nat.le_of_ble_eq_true rfl) (q_lt hg rfl) (q_inE (hg.2.1 68 706 rfl) (s4 c1)) ?_)
    refine (x_iconst 110 0 i180_110 rfl ?_)
    exact (x_istore_n 111 (ls2 := [.ref 67, .int ((76 : Int32) + ((21 : Int32) * ((di 68 6) - (1 : Int32)))), .int 0, .retAddr 0]) i180_111 (Nat.le_of_ble_eq_true rfl) rfl (k5 c1))
  · refine (x_aload_n 21 i180_21 rfl ?_)
    refine (x_getR 22 68 i180_22 rfl (q_lt hg rfl) (Nat.le_of_ble_eq_true rfl) rfl (hg.2.2.1 67 0 68 rfl) ?_)
    refine (x_bipush 25 76 i180_25 rfl ?_)
    refine (x_iload_n 27 i180_27 rfl ?_)
    refine (x_iadd 28 i180_28 ?_)
    refine (x_aload_n 29 i180_29 rfl ?_)
    refine (x_getR 30 68 i180_30 rfl (q_lt hg rfl) (Nat.le_of_ble_eq_true rfl) rfl (hg.2.2.1 67 0 68 rfl) ?_)
    refine (x_bipush 33 97 i180_33 rfl ?_)
    refine (x_iload_n 35 i180_35 rfl ?_)
    refine (x_iadd 36 i180_36 ?_)
    refine (x_iaload 37 (di 68 (((97 : Int32) + x1).toNatClampNeg)) i180_37 rfl (q_lt hg rfl) (q_inE (hg.2.1 68 706 rfl) (s6 c1)) rfl ?_)
    refine (x_iastore 38 i180_38 rfl (Nat.le_of_ble_eq_true rfl) (q_lt hg rfl) (q_inE (hg.2.1 68 706 rfl) (s7 c1)) ?_)
    refine (x_iinc 39 (x1 + 1) (ls2 := [.ref 67, .int (x1 + 1), .retAddr 0, .retAddr 0]) i180_39 rfl (Nat.le_of_ble_eq_true rfl) rfl rfl ?_)
    exact (x_goto 42 14 i180_42 rfl (k8 c1))

set_option maxRecDepth 20000 in
theorem g180_120 {m n sl : Nat} {ln : Nat → Nat} {di : Nat → Nat → Int32} {dl : Nat → Nat → Int64} {dr : Nat → Nat → Option Nat} {x1 : Int32} {x2 : Int32} {x3 : Int32} {Q : Option Value → q_H → Prop} (hg : q_Gr n ln dr)
    (k2 : ((3 : Int32) ≤ x3) → q_EX q_KD (m + 1) 180 112 [.ref 67, .int x1, .int (x2 + 1), .retAddr 0] [] (n, sl, ln, di, dl, dr) Q)
    (k3 : (x3 < (3 : Int32)) → q_EX q_KD m 161 0 [.ref 67, .int x2, .int ((3 : Int32) + x3)] [] (n, sl, ln, di, dl, dr) (fun r1 h1 => q_EX q_KD (m + 1) 180 146 [.ref 67, .int x1, .int x2, .int x3] (r1.toList ++ [.int (((x1 + (3 : Int32)) + ((3 : Int32) * x2)) + x3), .ref 68]) h1 Q)) : q_EX q_KD (m + 1) 180 120 [.ref 67, .int x1, .int x2, .int x3] [] (n, sl, ln, di, dl, dr) Q := by
  refine (x_iload_n 120 i180_120 rfl ?_)
  refine (x_iconst 121 3 i180_121 rfl ?_)
  refine (x_icmp_ge 122 153 i180_122 rfl (fun c1 => ?_) (fun c1 => ?_))
  · refine (x_iinc 153 (x2 + 1) (ls2 := [.ref 67, .int x1, .int (x2 + 1), .int x3]) i180_153 rfl (Nat.le_of_ble_eq_true rfl) rfl rfl ?_)
    refine (x_goto 156 112 i180_156 rfl ?_)
    exact (xx_loc (ls := [.ref 67, .int x1, .int (x2 + 1), .retAddr 0]) (ls' := [.ref 67, .int x1, .int (x2 + 1), .int x3]) ⟨Or.inl rfl, Or.inl rfl, Or.inl rfl, Or.inr rfl, trivial⟩ (k2 c1))
  · refine (x_aload_n 125 i180_125 rfl ?_)
    refine (x_getR 126 68 i180_126 rfl (q_lt hg rfl) (Nat.le_of_ble_eq_true rfl) rfl (hg.2.2.1 67 0 68 rfl) ?_)
    refine (x_iload_n 129 i180_129 rfl ?_)
    refine (x_iconst 130 3 i180_130 rfl ?_)
    refine (x_iadd 131 i180_131 ?_)
    refine (x_iconst 132 3 i180_132 rfl ?_)
    refine (x_iload_n 133 i180_133 rfl ?_)
    refine (x_imul 134 i180_134 ?_)
    refine (x_iadd 135 i180_135 ?_)
    refine (x_iload_n 136 i180_136 rfl ?_)
    refine (x_iadd 137 i180_137 ?_)
    refine (x_aload_n 138 i180_138 rfl ?_)
    refine (x_iload_n 139 i180_139 rfl ?_)
    refine (x_iconst 140 3 i180_140 rfl ?_)
    refine (x_iload_n 141 i180_141 rfl ?_)
    refine (x_iadd 142 i180_142 ?_)
    exact (x_cv 143 (as := [.int x2, .int ((3 : Int32) + x3)]) (rs := [.int (((x1 + (3 : Int32)) + ((3 : Int32) * x2)) + x3), .ref 68]) i180_143 rfl rfl rfl rfl (Nat.le_of_ble_eq_true rfl) (q_lt hg rfl) rfl (Or.inr (Nat.le_of_ble_eq_true rfl)) (Nat.le_of_ble_eq_true rfl) rfl rfl (k3 c1))

set_option maxRecDepth 20000 in
theorem g180_146 {d n sl : Nat} {ln : Nat → Nat} {di : Nat → Nat → Int32} {dl : Nat → Nat → Int64} {dr : Nat → Nat → Option Nat} {x1 : Int32} {x2 : Int32} {x3 : Int32} {y0 : Int32} {y1 : Int32} {Q : Option Value → q_H → Prop} (hg : q_Gr n ln dr)
    (s1 : vp_in y1 706)
    (k2 : q_EX q_KD d 180 120 [.ref 67, .int x1, .int x2, .int (x3 + 1)] [] (n, sl, ln, (q_u di 68 y1.toNatClampNeg y0), dl, dr) Q) : q_EX q_KD d 180 146 [.ref 67, .int x1, .int x2, .int x3] [.int y0, .int y1, .ref 68] (n, sl, ln, di, dl, dr) Q := by
  refine (x_iastore 146 i180_146 rfl (Nat.le_of_ble_eq_true rfl) (q_lt hg rfl) (q_inE (hg.2.1 68 706 rfl) s1) ?_)
  refine (x_iinc 147 (x3 + 1) (ls2 := [.ref 67, .int x1, .int x2, .int (x3 + 1)]) i180_147 rfl (Nat.le_of_ble_eq_true rfl) rfl rfl ?_)
  exact (x_goto 150 120 i180_150 rfl k2)

/-! SilentHouseModel.hire -/
set_option maxRecDepth 20000 in
theorem g181_0 {m n sl : Nat} {ln : Nat → Nat} {di : Nat → Nat → Int32} {dl : Nat → Nat → Int64} {dr : Nat → Nat → Option Nat} {x1 : Int32} {x2 : Int32} {Q : Option Value → q_H → Prop} (hg : q_Gr n ln dr)
    (k1 : q_EX q_KD m 160 0 [.ref 67, .int x1] [] (n, sl, ln, di, dl, dr) (fun r1 h1 => q_EX q_KD (m + 1) 181 5 [.ref 67, .int x1, .int x2] (r1.toList ++ []) h1 Q)) : q_EX q_KD (m + 1) 181 0 [.ref 67, .int x1, .int x2] [] (n, sl, ln, di, dl, dr) Q := by
  refine (x_aload_n 0 i181_0 rfl ?_)
  refine (x_iload_n 1 i181_1 rfl ?_)
  exact (x_cv 2 (as := [.int x1]) (rs := []) i181_2 rfl rfl rfl rfl (Nat.le_of_ble_eq_true rfl) (q_lt hg rfl) rfl (Or.inr (Nat.le_of_ble_eq_true rfl)) (Nat.le_of_ble_eq_true rfl) rfl rfl k1)

set_option maxRecDepth 20000 in
theorem g181_5 {m n sl : Nat} {ln : Nat → Nat} {di : Nat → Nat → Int32} {dl : Nat → Nat → Int64} {dr : Nat → Nat → Option Nat} {x1 : Int32} {x2 : Int32} {y0 : Int32} {Q : Option Value → q_H → Prop} (hg : q_Gr n ln dr)
    (k2 : (y0 = (0 : Int32)) → Q (some (.int 0)) (n, sl, ln, di, dl, dr))
    (k3 : (¬ y0 = (0 : Int32)) → q_EX q_KD m 161 0 [.ref 67, .int x1, .int 4] [] (n, sl, ln, di, dl, dr) (fun r1 h1 => q_EX q_KD (m + 1) 181 14 [.ref 67, .int x1, .int x2] (r1.toList ++ []) h1 Q)) : q_EX q_KD (m + 1) 181 5 [.ref 67, .int x1, .int x2] [.int y0] (n, sl, ln, di, dl, dr) Q := by
  refine (x_if_eq 5 26 i181_5 rfl (fun c1 => ?_) (fun c1 => ?_))
  · refine (x_iconst 26 0 i181_26 rfl ?_)
    exact (x_iret0 27 i181_27 rfl (k2 c1))
  · refine (x_aload_n 8 i181_8 rfl ?_)
    refine (x_iload_n 9 i181_9 rfl ?_)
    refine (x_iconst 10 4 i181_10 rfl ?_)
    exact (x_cv 11 (as := [.int x1, .int 4]) (rs := []) i181_11 rfl rfl rfl rfl (Nat.le_of_ble_eq_true rfl) (q_lt hg rfl) rfl (Or.inr (Nat.le_of_ble_eq_true rfl)) (Nat.le_of_ble_eq_true rfl) rfl rfl (k3 c1))

set_option maxRecDepth 20000 in
theorem g181_14 {m n sl : Nat} {ln : Nat → Nat} {di : Nat → Nat → Int32} {dl : Nat → Nat → Int64} {dr : Nat → Nat → Option Nat} {x1 : Int32} {x2 : Int32} {y0 : Int32} {Q : Option Value → q_H → Prop} (hg : q_Gr n ln dr)
    (k3 : (x2 = (0 : Int32)) → (¬ y0 = (0 : Int32)) → q_EX q_KD m 180 0 [.ref 67, .retAddr 0, .retAddr 0, .retAddr 0] [] (n, sl, ln, di, dl, dr) (fun r1 h1 => q_EX q_KD (m + 1) 181 32 [.ref 67, .int x1, .int x2] (r1.toList ++ []) h1 Q))
    (k4 : (x2 = (0 : Int32)) → (y0 = (0 : Int32)) → Q (some (.int 0)) (n, sl, ln, di, dl, dr))
    (k6 : (¬ x2 = (0 : Int32)) → (¬ y0 = (1 : Int32)) → q_EX q_KD m 180 0 [.ref 67, .retAddr 0, .retAddr 0, .retAddr 0] [] (n, sl, ln, di, dl, dr) (fun r1 h1 => q_EX q_KD (m + 1) 181 32 [.ref 67, .int x1, .int x2] (r1.toList ++ []) h1 Q))
    (k7 : (¬ x2 = (0 : Int32)) → (y0 = (1 : Int32)) → Q (some (.int 0)) (n, sl, ln, di, dl, dr)) : q_EX q_KD (m + 1) 181 14 [.ref 67, .int x1, .int x2] [.int y0] (n, sl, ln, di, dl, dr) Q := by
  refine (x_iload_n 14 i181_14 rfl ?_)
  refine (x_if_eq 15 22 i181_15 rfl (fun c1 => ?_) (fun c1 => ?_))
  · refine (x_iconst 22 0 i181_22 rfl ?_)
    refine (x_icmp_ne 23 28 i181_23 rfl (fun c2 => ?_) (fun c2 => ?_))
    · refine (x_aload_n 28 i181_28 rfl ?_)
      exact (x_cv 29 (as := []) (rs := []) i181_29 rfl rfl rfl rfl (Nat.le_of_ble_eq_true rfl) (q_lt hg rfl) rfl (Or.inr (Nat.le_of_ble_eq_true rfl)) (Nat.le_of_ble_eq_true rfl) rfl rfl (k3 c1 c2))
    · refine (x_iconst 26 0 i181_26 rfl ?_)
      exact (x_iret0 27 i181_27 rfl (k4 c1 c2))
  · refine (x_iconst 18 1 i181_18 rfl ?_)
    refine (x_goto 19 23 i181_19 rfl ?_)
    refine (x_icmp_ne 23 28 i181_23 rfl (fun c5 => ?_) (fun c5 => ?_))
    · refine (x_aload_n 28 i181_28 rfl ?_)
      exact (x_cv 29 (as := []) (rs := []) i181_29 rfl rfl rfl rfl (Nat.le_of_ble_eq_true rfl) (q_lt hg rfl) rfl (Or.inr (Nat.le_of_ble_eq_true rfl)) (Nat.le_of_ble_eq_true rfl) rfl rfl (k6 c1 c5))
    · refine (x_iconst 26 0 i181_26 rfl ?_)
      exact (x_iret0 27 i181_27 rfl (k7 c1 c5))

set_option maxRecDepth 20000 in
theorem g181_32 {m n sl : Nat} {ln : Nat → Nat} {di : Nat → Nat → Int32} {dl : Nat → Nat → Int64} {dr : Nat → Nat → Option Nat} {x1 : Int32} {x2 : Int32} {Q : Option Value → q_H → Prop} (hg : q_Gr n ln dr)
    (k2 : (x2 = (0 : Int32)) → q_EX q_KD m 119 0 [.ref 67, .int x1, .int 4, .int 0] [] (n, sl, ln, di, dl, dr) (fun r1 h1 => q_EX q_KD (m + 1) 181 47 [.retAddr 0, .retAddr 0, .retAddr 0] (r1.toList ++ []) h1 Q))
    (k3 : (¬ x2 = (0 : Int32)) → q_EX q_KD m 119 0 [.ref 67, .int x1, .int 4, .int 1] [] (n, sl, ln, di, dl, dr) (fun r1 h1 => q_EX q_KD (m + 1) 181 47 [.retAddr 0, .retAddr 0, .retAddr 0] (r1.toList ++ []) h1 Q)) : q_EX q_KD (m + 1) 181 32 [.ref 67, .int x1, .int x2] [] (n, sl, ln, di, dl, dr) Q := by
  refine (x_aload_n 32 i181_32 rfl ?_)
  refine (x_iload_n 33 i181_33 rfl ?_)
  refine (x_iconst 34 4 i181_34 rfl ?_)
  refine (x_iload_n 35 i181_35 rfl ?_)
  refine (x_if_eq 36 43 i181_36 rfl (fun c1 => ?_) (fun c1 => ?_))
  · refine (x_iconst 43 0 i181_43 rfl ?_)
    refine (xx_loc (ls := [.retAddr 0, .retAddr 0, .retAddr 0]) (ls' := [.ref 67, .int x1, .int x2]) ⟨Or.inr rfl, Or.inr rfl, Or.inr rfl, trivial⟩ ?_)
    exact (x_cv 44 (as := [.int x1, .int 4, .int 0]) (rs := []) i181_44 rfl rfl rfl rfl (Nat.le_of_ble_eq_true rfl) (q_lt hg rfl) rfl (Or.inr (Nat.le_of_ble_eq_true rfl)) (Nat.le_of_ble_eq_true rfl) rfl rfl (k2 c1))
  · refine (x_iconst 39 1 i181_39 rfl ?_)
    refine (x_goto 40 44 i181_40 rfl ?_)
    refine (xx_loc (ls := [.retAddr 0, .retAddr 0, .retAddr 0]) (ls' := [.ref 67, .int x1, .int x2]) ⟨Or.inr rfl, Or.inr rfl, Or.inr rfl, trivial⟩ ?_)
    exact (x_cv 44 (as := [.int x1, .int 4, .int 1]) (rs := []) i181_44 rfl rfl rfl rfl (Nat.le_of_ble_eq_true rfl) (q_lt hg rfl) rfl (Or.inr (Nat.le_of_ble_eq_true rfl)) (Nat.le_of_ble_eq_true rfl) rfl rfl (k3 c1))

set_option maxRecDepth 20000 in
theorem g181_47 {d n sl : Nat} {ln : Nat → Nat} {di : Nat → Nat → Int32} {dl : Nat → Nat → Int64} {dr : Nat → Nat → Option Nat} {Q : Option Value → q_H → Prop} (hg : q_Gr n ln dr)
    (k1 : Q (some (.int 1)) (n, sl, ln, di, dl, dr)) : q_EX q_KD d 181 47 [.retAddr 0, .retAddr 0, .retAddr 0] [] (n, sl, ln, di, dl, dr) Q := by
  refine (x_iconst 47 1 i181_47 rfl ?_)
  exact (x_iret1 48 i181_48 rfl k1)

/-! SilentHouseModel.night -/
set_option maxRecDepth 20000 in
theorem g182_0 {m n sl : Nat} {ln : Nat → Nat} {di : Nat → Nat → Int32} {dl : Nat → Nat → Int64} {dr : Nat → Nat → Option Nat} {Q : Option Value → q_H → Prop} (hg : q_Gr n ln dr)
    (k1 : q_EX q_KD m 183 0 [.ref 67, .retAddr 0, .retAddr 0] [] (n, sl, ln, di, dl, dr) (fun r1 h1 => q_EX q_KD (m + 1) 182 4 [.ref 67, .retAddr 0, .retAddr 0, .retAddr 0, .retAddr 0] (r1.toList ++ []) h1 Q)) : q_EX q_KD (m + 1) 182 0 [.ref 67, .retAddr 0, .retAddr 0, .retAddr 0, .retAddr 0] [] (n, sl, ln, di, dl, dr) Q := by
  refine (x_aload_n 0 i182_0 rfl ?_)
  exact (x_cv 1 (as := []) (rs := []) i182_1 rfl rfl rfl rfl (Nat.le_of_ble_eq_true rfl) (q_lt hg rfl) rfl (Or.inr (Nat.le_of_ble_eq_true rfl)) (Nat.le_of_ble_eq_true rfl) rfl rfl k1)

set_option maxRecDepth 20000 in
theorem g182_4 {m n sl : Nat} {ln : Nat → Nat} {di : Nat → Nat → Int32} {dl : Nat → Nat → Int64} {dr : Nat → Nat → Option Nat} {y0 : Int32} {Q : Option Value → q_H → Prop} (hg : q_Gr n ln dr)
    (k2 : (¬ y0 = (0 : Int32)) → q_EX q_KD m 180 0 [.ref 67, .retAddr 0, .retAddr 0, .retAddr 0] [] (n, sl, ln, di, dl, dr) (fun r1 h1 => q_EX q_KD (m + 1) 182 15 [.ref 67, .int y0, .retAddr 0, .retAddr 0, .retAddr 0] (r1.toList ++ []) h1 Q))
    (k3 : (y0 = (0 : Int32)) → Q (some (.int (-1))) (n, sl, ln, di, dl, dr)) : q_EX q_KD (m + 1) 182 4 [.ref 67, .retAddr 0, .retAddr 0, .retAddr 0, .retAddr 0] [.int y0] (n, sl, ln, di, dl, dr) Q := by
  refine (x_istore_n 4 (ls2 := [.ref 67, .int y0, .retAddr 0, .retAddr 0, .retAddr 0]) i182_4 (Nat.le_of_ble_eq_true rfl) rfl ?_)
  refine (x_iload_n 5 i182_5 rfl ?_)
  refine (x_if_ne 6 11 i182_6 rfl (fun c1 => ?_) (fun c1 => ?_))
  · refine (x_aload_n 11 i182_11 rfl ?_)
    exact (x_cv 12 (as := []) (rs := []) i182_12 rfl rfl rfl rfl (Nat.le_of_ble_eq_true rfl) (q_lt hg rfl) rfl (Or.inr (Nat.le_of_ble_eq_true rfl)) (Nat.le_of_ble_eq_true rfl) rfl rfl (k2 c1))
  · refine (x_iconst 9 (-1) i182_9 rfl ?_)
    exact (x_iretI 10 i182_10 rfl (k3 c1))

set_option maxRecDepth 20000 in
theorem g182_15 {m n sl : Nat} {ln : Nat → Nat} {di : Nat → Nat → Int32} {dl : Nat → Nat → Int64} {dr : Nat → Nat → Option Nat} {x1 : Int32} {Q : Option Value → q_H → Prop} (hg : q_Gr n ln dr)
    (k1 : q_EX q_KD m 159 0 [.ref 67, .retAddr 0] [] (n, sl, ln, di, dl, dr) (fun r1 h1 => q_EX q_KD (m + 1) 182 19 [.ref 67, .int x1, .retAddr 0, .retAddr 0, .retAddr 0] (r1.toList ++ []) h1 Q)) : q_EX q_KD (m + 1) 182 15 [.ref 67, .int x1, .retAddr 0, .retAddr 0, .retAddr 0] [] (n, sl, ln, di, dl, dr) Q := by
  refine (x_aload_n 15 i182_15 rfl ?_)
  exact (x_cv 16 (as := []) (rs := []) i182_16 rfl rfl rfl rfl (Nat.le_of_ble_eq_true rfl) (q_lt hg rfl) rfl (Or.inr (Nat.le_of_ble_eq_true rfl)) (Nat.le_of_ble_eq_true rfl) rfl rfl k1)

set_option maxRecDepth 20000 in
theorem g182_19 {d n sl : Nat} {ln : Nat → Nat} {di : Nat → Nat → Int32} {dl : Nat → Nat → Int64} {dr : Nat → Nat → Option Nat} {x1 : Int32} {Q : Option Value → q_H → Prop} (hg : q_Gr n ln dr)
    (k1 : q_EX q_KD d 182 21 [.ref 67, .int x1, .int 0, .retAddr 0, .retAddr 0] [] (n, sl, ln, di, dl, dr) Q) : q_EX q_KD d 182 19 [.ref 67, .int x1, .retAddr 0, .retAddr 0, .retAddr 0] [] (n, sl, ln, di, dl, dr) Q := by
  refine (x_iconst 19 0 i182_19 rfl ?_)
  exact (x_istore_n 20 (ls2 := [.ref 67, .int x1, .int 0, .retAddr 0, .retAddr 0]) i182_20 (Nat.le_of_ble_eq_true rfl) rfl k1)

set_option maxRecDepth 20000 in
theorem g182_21 {d n sl : Nat} {ln : Nat → Nat} {di : Nat → Nat → Int32} {dl : Nat → Nat → Int64} {dr : Nat → Nat → Option Nat} {x1 : Int32} {x2 : Int32} {Q : Option Value → q_H → Prop} (hg : q_Gr n ln dr)
    (k2 : ((6 : Int32) ≤ x2) → q_EX q_KD d 182 51 [.ref 67, .int x1, .int 0, .int 0, .retAddr 0] [] (n, sl, ln, di, dl, dr) Q)
    (s3 : (x2 < (6 : Int32)) → vp_in x2 6)
    (s4 : (x2 < (6 : Int32)) → vp_in x2 6)
    (k5 : (x2 < (6 : Int32)) → q_EX q_KD d 182 21 [.ref 67, .int x1, .int (x2 + 1), .retAddr 0, .retAddr 0] [] (n, sl, ln, (q_u (q_u di 77 x2.toNatClampNeg 0) 78 x2.toNatClampNeg 0), dl, dr) Q) : q_EX q_KD d 182 21 [.ref 67, .int x1, .int x2, .retAddr 0, .retAddr 0] [] (n, sl, ln, di, dl, dr) Q := by
  refine (x_iload_n 21 i182_21 rfl ?_)
  refine (x_bipush 22 6 i182_22 rfl ?_)
  refine (x_icmp_ge 24 47 i182_24 rfl (fun c1 => ?_) (fun c1 => ?_))
  · refine (x_iconst 47 0 i182_47 rfl ?_)
    refine (x_istore_n 48 (ls2 := [.ref 67, .int x1, .int 0, .retAddr 0, .retAddr 0]) i182_48 (Nat.le_of_ble_eq_true rfl) rfl ?_)
    refine (x_iconst 49 0 i182_49 rfl ?_)
    exact (x_istore_n 50 (ls2 := [.ref 67, .int x1, .int 0, .int 0, .retAddr 0]) i182_50 (Nat.le_of_ble_eq_true rfl) rfl (k2 c1))
  · refine (x_aload_n 27 i182_27 rfl ?_)
    refine (x_getR 28 77 i182_28 rfl (q_lt hg rfl) (Nat.le_of_ble_eq_true rfl) rfl (hg.2.2.1 67 29 77 rfl) ?_)
    refine (x_iload_n 31 i182_31 rfl ?_)
    refine (x_iconst 32 0 i182_32 rfl ?_)
    refine (x_iastore 33 i182_33 rfl (Nat.le_of_ble_eq_true rfl) (q_lt hg rfl) (q_inE (hg.2.1 77 6 rfl) (s3 c1)) ?_)
    refine (x_aload_n 34 i182_34 rfl ?_)
    refine (x_getR 35 78 i182_35 rfl (q_lt hg rfl) (Nat.le_of_ble_eq_true rfl) rfl (hg.2.2.1 67 30 78 rfl) ?_)
    refine (x_iload_n 38 i182_38 rfl ?_)
    refine (x_iconst 39 0 i182_39 rfl ?_)
    refine (x_iastore 40 i182_40 rfl (Nat.le_of_ble_eq_true rfl) (q_lt hg rfl) (q_inE (hg.2.1 78 6 rfl) (s4 c1)) ?_)
    refine (x_iinc 41 (x2 + 1) (ls2 := [.ref 67, .int x1, .int (x2 + 1), .retAddr 0, .retAddr 0]) i182_41 rfl (Nat.le_of_ble_eq_true rfl) rfl rfl ?_)
    exact (x_goto 44 21 i182_44 rfl (k5 c1))

set_option maxRecDepth 20000 in
theorem g182_51 {m n sl : Nat} {ln : Nat → Nat} {di : Nat → Nat → Int32} {dl : Nat → Nat → Int64} {dr : Nat → Nat → Option Nat} {x1 : Int32} {x2 : Int32} {x3 : Int32} {Q : Option Value → q_H → Prop} (hg : q_Gr n ln dr)
    (k2 : ((di 68 1) ≤ x3) → q_EX q_KD (m + 1) 182 135 [.ref 67, .int x1, .int x2, .int 0, .retAddr 0] [] (n, sl, ln, di, dl, dr) Q)
    (k3 : (x3 < (di 68 1)) → q_EX q_KD m 163 0 [.ref 67, .int x3, .int x1, .retAddr 0, .retAddr 0] [] (n, sl, ln, di, dl, dr) (fun r1 h1 => q_EX q_KD (m + 1) 182 67 [.ref 67, .int x1, .int x2, .int x3, .retAddr 0] (r1.toList ++ []) h1 Q)) : q_EX q_KD (m + 1) 182 51 [.ref 67, .int x1, .int x2, .int x3, .retAddr 0] [] (n, sl, ln, di, dl, dr) Q := by
  refine (x_iload_n 51 i182_51 rfl ?_)
  refine (x_aload_n 52 i182_52 rfl ?_)
  refine (x_getR 53 68 i182_53 rfl (q_lt hg rfl) (Nat.le_of_ble_eq_true rfl) rfl (hg.2.2.1 67 0 68 rfl) ?_)
  refine (x_iconst 56 1 i182_56 rfl ?_)
  refine (x_iaload 57 (di 68 1) i182_57 rfl (q_lt hg rfl) (q_inE (hg.2.1 68 706 rfl) (q_vin rfl)) rfl ?_)
  refine (x_icmp_ge 58 133 i182_58 rfl (fun c1 => ?_) (fun c1 => ?_))
  · refine (x_iconst 133 0 i182_133 rfl ?_)
    exact (x_istore_n 134 (ls2 := [.ref 67, .int x1, .int x2, .int 0, .retAddr 0]) i182_134 (Nat.le_of_ble_eq_true rfl) rfl (k2 c1))
  · refine (x_aload_n 61 i182_61 rfl ?_)
    refine (x_iload_n 62 i182_62 rfl ?_)
    refine (x_iload_n 63 i182_63 rfl ?_)
    exact (x_cv 64 (as := [.int x3, .int x1]) (rs := []) i182_64 rfl rfl rfl rfl (Nat.le_of_ble_eq_true rfl) (q_lt hg rfl) rfl (Or.inr (Nat.le_of_ble_eq_true rfl)) (Nat.le_of_ble_eq_true rfl) rfl rfl (k3 c1))

set_option maxRecDepth 20000 in
theorem g182_135 {m n sl : Nat} {ln : Nat → Nat} {di : Nat → Nat → Int32} {dl : Nat → Nat → Int64} {dr : Nat → Nat → Option Nat} {x1 : Int32} {x2 : Int32} {x3 : Int32} {Q : Option Value → q_H → Prop} (hg : q_Gr n ln dr)
    (k2 : ((di 68 0) ≤ x3) → Q (some (.int x2)) (n, sl, ln, (q_u di 68 2 ((di 68 2) + (1 : Int32))), dl, dr))
    (k3 : (x3 < (di 68 0)) → q_EX q_KD m 164 0 [.int x1, .int x3] [] (n, sl, ln, di, dl, dr) (fun r1 h1 => q_EX q_KD (m + 1) 182 150 [.ref 67, .int x1, .int x2, .int x3, .retAddr 0] (r1.toList ++ []) h1 Q)) : q_EX q_KD (m + 1) 182 135 [.ref 67, .int x1, .int x2, .int x3, .retAddr 0] [] (n, sl, ln, di, dl, dr) Q := by
  refine (x_iload_n 135 i182_135 rfl ?_)
  refine (x_aload_n 136 i182_136 rfl ?_)
  refine (x_getR 137 68 i182_137 rfl (q_lt hg rfl) (Nat.le_of_ble_eq_true rfl) rfl (hg.2.2.1 67 0 68 rfl) ?_)
  refine (x_iconst 140 0 i182_140 rfl ?_)
  refine (x_iaload 141 (di 68 0) i182_141 rfl (q_lt hg rfl) (q_inE (hg.2.1 68 706 rfl) (q_vin rfl)) rfl ?_)
  refine (x_icmp_ge 142 182 i182_142 rfl (fun c1 => ?_) (fun c1 => ?_))
  · refine (x_aload_n 182 i182_182 rfl ?_)
    refine (x_getR 183 68 i182_183 rfl (q_lt hg rfl) (Nat.le_of_ble_eq_true rfl) rfl (hg.2.2.1 67 0 68 rfl) ?_)
    refine (x_iconst 186 2 i182_186 rfl ?_)
    refine (x_dup2 187 i182_187 rfl rfl ?_)
    refine (x_iaload 188 (di 68 2) i182_188 rfl (q_lt hg rfl) (q_inE (hg.2.1 68 706 rfl) (q_vin rfl)) rfl ?_)
    refine (x_iconst 189 1 i182_189 rfl ?_)
    refine (x_iadd 190 i182_190 ?_)
    refine (x_iastore 191 i182_191 rfl (Nat.le_of_ble_eq_true rfl) (q_lt hg rfl) (q_inE (hg.2.1 68 706 rfl) (q_vin rfl)) ?_)
    refine (x_iload_n 192 i182_192 rfl ?_)
    exact (x_iretI 193 i182_193 rfl (k2 c1))
  · refine (x_iload_n 145 i182_145 rfl ?_)
    refine (x_iload_n 146 i182_146 rfl ?_)
    exact (x_cs 147 (as := [.int x1, .int x3]) (rs := []) i182_147 rfl rfl rfl rfl (Nat.le_of_ble_eq_true rfl) (Nat.le_of_ble_eq_true rfl) rfl rfl (k3 c1))

set_option maxRecDepth 20000 in
theorem g182_67 {d n sl : Nat} {ln : Nat → Nat} {di : Nat → Nat → Int32} {dl : Nat → Nat → Int64} {dr : Nat → Nat → Option Nat} {x1 : Int32} {x2 : Int32} {x3 : Int32} {Q : Option Value → q_H → Prop} (hg : q_Gr n ln dr)
    (k1 : q_EX q_KD d 182 70 [.ref 67, .int x1, .int x2, .int x3, .int 0] [] (n, sl, ln, di, dl, dr) Q) : q_EX q_KD d 182 67 [.ref 67, .int x1, .int x2, .int x3, .retAddr 0] [] (n, sl, ln, di, dl, dr) Q := by
  refine (x_iconst 67 0 i182_67 rfl ?_)
  exact (x_istore 68 (ls2 := [.ref 67, .int x1, .int x2, .int x3, .int 0]) i182_68 (Nat.le_of_ble_eq_true rfl) rfl k1)

set_option maxRecDepth 20000 in
theorem g182_150 {m n sl : Nat} {ln : Nat → Nat} {di : Nat → Nat → Int32} {dl : Nat → Nat → Int64} {dr : Nat → Nat → Option Nat} {x1 : Int32} {x2 : Int32} {x3 : Int32} {y0 : Int32} {Q : Option Value → q_H → Prop} (hg : q_Gr n ln dr)
    (k2 : (y0 = (0 : Int32)) → q_EX q_KD (m + 1) 182 135 [.ref 67, .int x1, .int x2, .int (x3 + 1), .retAddr 0] [] (n, sl, ln, di, dl, dr) Q)
    (k3 : (¬ y0 = (0 : Int32)) → q_EX q_KD m 161 0 [.ref 67, .int x3, .int 5] [] (n, sl, ln, di, dl, dr) (fun r1 h1 => q_EX q_KD (m + 1) 182 162 [.ref 67, .int x1, .int x2, .int x3, .retAddr 0] (r1.toList ++ [.int 5, .int x3, .ref 67]) h1 Q)) : q_EX q_KD (m + 1) 182 150 [.ref 67, .int x1, .int x2, .int x3, .retAddr 0] [.int y0] (n, sl, ln, di, dl, dr) Q := by
  refine (x_if_eq 150 176 i182_150 rfl (fun c1 => ?_) (fun c1 => ?_))
  · refine (x_iinc 176 (x3 + 1) (ls2 := [.ref 67, .int x1, .int x2, .int (x3 + 1), .retAddr 0]) i182_176 rfl (Nat.le_of_ble_eq_true rfl) rfl rfl ?_)
    exact (x_goto 179 135 i182_179 rfl (k2 c1))
  · refine (x_aload_n 153 i182_153 rfl ?_)
    refine (x_iload_n 154 i182_154 rfl ?_)
    refine (x_iconst 155 5 i182_155 rfl ?_)
    refine (x_aload_n 156 i182_156 rfl ?_)
    refine (x_iload_n 157 i182_157 rfl ?_)
    refine (x_iconst 158 5 i182_158 rfl ?_)
    exact (x_cv 159 (as := [.int x3, .int 5]) (rs := [.int 5, .int x3, .ref 67]) i182_159 rfl rfl rfl rfl (Nat.le_of_ble_eq_true rfl) (q_lt hg rfl) rfl (Or.inr (Nat.le_of_ble_eq_true rfl)) (Nat.le_of_ble_eq_true rfl) rfl rfl (k3 c1))

set_option maxRecDepth 20000 in
theorem g182_70 {m n sl : Nat} {ln : Nat → Nat} {di : Nat → Nat → Int32} {dl : Nat → Nat → Int64} {dr : Nat → Nat → Option Nat} {x1 : Int32} {x2 : Int32} {x3 : Int32} {x4 : Int32} {Q : Option Value → q_H → Prop} (hg : q_Gr n ln dr)
    (k2 : ((6 : Int32) ≤ x4) → q_EX q_KD m 184 0 [.ref 67, .int x1, .retAddr 0, .retAddr 0, .retAddr 0] [] (n, sl, ln, di, dl, dr) (fun r1 h1 => q_EX q_KD (m + 1) 182 115 [.ref 67, .int x1, .int x2, .int x3, .retAddr 0] (r1.toList ++ []) h1 Q))
    (s3 : (x4 < (6 : Int32)) → vp_in x4 6)
    (k4 : (x4 < (6 : Int32)) → q_EX q_KD m 164 0 [.int (di 67 27), .int x4] [] (n, sl, ln, di, dl, dr) (fun r1 h1 => q_EX q_KD (m + 1) 182 94 [.ref 67, .int x1, .int x2, .int x3, .int x4] (r1.toList ++ [.int (di 77 x4.toNatClampNeg), .int x4, .ref 77]) h1 Q)) : q_EX q_KD (m + 1) 182 70 [.ref 67, .int x1, .int x2, .int x3, .int x4] [] (n, sl, ln, di, dl, dr) Q := by
  refine (x_iload 70 i182_70 rfl ?_)
  refine (x_bipush 72 6 i182_72 rfl ?_)
  refine (x_icmp_ge 74 110 i182_74 rfl (fun c1 => ?_) (fun c1 => ?_))
  · refine (x_aload_n 110 i182_110 rfl ?_)
    refine (x_iload_n 111 i182_111 rfl ?_)
    refine (xx_loc (ls := [.ref 67, .int x1, .int x2, .int x3, .retAddr 0]) (ls' := [.ref 67, .int x1, .int x2, .int x3, .int x4]) ⟨Or.inl rfl, Or.inl rfl, Or.inl rfl, Or.inl rfl, Or.inr rfl, trivial⟩ ?_)
    exact (x_cv 112 (as := [.int x1]) (rs := []) i182_112 rfl rfl rfl rfl (Nat.le_of_ble_eq_true rfl) (q_lt hg rfl) rfl (Or.inr (Nat.le_of_ble_eq_true rfl)) (Nat.le_of_ble_eq_true rfl) rfl rfl (k2 c1))
  · refine (x_aload_n 77 i182_77 rfl ?_)
    refine (x_getR 78 77 i182_78 rfl (q_lt hg rfl) (Nat.le_of_ble_eq_true rfl) rfl (hg.2.2.1 67 29 77 rfl) ?_)
    refine (x_iload 81 i182_81 rfl ?_)
    refine (x_dup2 83 i182_83 rfl rfl ?_)
    refine (x_iaload 84 (di 77 x4.toNatClampNeg) i182_84 rfl (q_lt hg rfl) (q_inE (hg.2.1 77 6 rfl) (s3 c1)) rfl ?_)
    refine (x_aload_n 85 i182_85 rfl ?_)
    refine (x_getI 86 27 (di 67 27) i182_86 rfl (q_lt hg rfl) (Nat.le_of_ble_eq_true rfl) (Or.inl rfl) rfl rfl ?_)
    refine (x_iload 89 i182_89 rfl ?_)
    exact (x_cs 91 (as := [.int (di 67 27), .int x4]) (rs := [.int (di 77 x4.toNatClampNeg), .int x4, .ref 77]) i182_91 rfl rfl rfl rfl (Nat.le_of_ble_eq_true rfl) (Nat.le_of_ble_eq_true rfl) rfl rfl (k4 c1))

set_option maxRecDepth 20000 in
theorem g182_162 {m n sl : Nat} {ln : Nat → Nat} {di : Nat → Nat → Int32} {dl : Nat → Nat → Int64} {dr : Nat → Nat → Option Nat} {x1 : Int32} {x2 : Int32} {x3 : Int32} {y0 : Int32} {y1 : Int32} {y2 : Int32} {Q : Option Value → q_H → Prop} (hg : q_Gr n ln dr)
    (k1 : q_EX q_KD m 170 0 [.int x1, .retAddr 0, .retAddr 0] [] (n, sl, ln, di, dl, dr) (fun r1 h1 => q_EX q_KD (m + 1) 182 169 [.ref 67, .int x1, .int x2, .int x3, .retAddr 0] (r1.toList ++ [.int x2, .int x3, .ref 67, .int y0, .int y1, .int y2, .ref 67]) h1 Q)) : q_EX q_KD (m + 1) 182 162 [.ref 67, .int x1, .int x2, .int x3, .retAddr 0] [.int y0, .int y1, .int y2, .ref 67] (n, sl, ln, di, dl, dr) Q := by
  refine (x_aload_n 162 i182_162 rfl ?_)
  refine (x_iload_n 163 i182_163 rfl ?_)
  refine (x_iload_n 164 i182_164 rfl ?_)
  refine (x_iload_n 165 i182_165 rfl ?_)
  exact (x_cs 166 (as := [.int x1]) (rs := [.int x2, .int x3, .ref 67, .int y0, .int y1, .int y2, .ref 67]) i182_166 rfl rfl rfl rfl (Nat.le_of_ble_eq_true rfl) (Nat.le_of_ble_eq_true rfl) rfl rfl k1)

set_option maxRecDepth 20000 in
theorem g182_115 {m n sl : Nat} {ln : Nat → Nat} {di : Nat → Nat → Int32} {dl : Nat → Nat → Int64} {dr : Nat → Nat → Option Nat} {x1 : Int32} {x2 : Int32} {x3 : Int32} {y0 : Int32} {Q : Option Value → q_H → Prop} (hg : q_Gr n ln dr)
    (k1 : q_EX q_KD m 175 0 [.ref 67, .int x3, .int y0, .retAddr 0] [] (n, sl, ln, di, dl, dr) (fun r1 h1 => q_EX q_KD (m + 1) 182 125 [.ref 67, .int x1, .retAddr 0, .int x3, .retAddr 0] (r1.toList ++ [.int x2]) h1 Q)) : q_EX q_KD (m + 1) 182 115 [.ref 67, .int x1, .int x2, .int x3, .retAddr 0] [.int y0] (n, sl, ln, di, dl, dr) Q := by
  refine (x_istore 115 (ls2 := [.ref 67, .int x1, .int x2, .int x3, .int y0]) i182_115 (Nat.le_of_ble_eq_true rfl) rfl ?_)
  refine (x_iload_n 117 i182_117 rfl ?_)
  refine (x_aload_n 118 i182_118 rfl ?_)
  refine (x_iload_n 119 i182_119 rfl ?_)
  refine (x_iload 120 i182_120 rfl ?_)
  refine (xx_loc (ls := [.ref 67, .int x1, .retAddr 0, .int x3, .retAddr 0]) (ls' := [.ref 67, .int x1, .int x2, .int x3, .int y0]) ⟨Or.inl rfl, Or.inl rfl, Or.inr rfl, Or.inl rfl, Or.inr rfl, trivial⟩ ?_)
  exact (x_cv 122 (as := [.int x3, .int y0]) (rs := [.int x2]) i182_122 rfl rfl rfl rfl (Nat.le_of_ble_eq_true rfl) (q_lt hg rfl) rfl (Or.inr (Nat.le_of_ble_eq_true rfl)) (Nat.le_of_ble_eq_true rfl) rfl rfl k1)

set_option maxRecDepth 20000 in
theorem g182_94 {d n sl : Nat} {ln : Nat → Nat} {di : Nat → Nat → Int32} {dl : Nat → Nat → Int64} {dr : Nat → Nat → Option Nat} {x1 : Int32} {x2 : Int32} {x3 : Int32} {x4 : Int32} {y0 : Int32} {y1 : Int32} {y2 : Int32} {Q : Option Value → q_H → Prop} (hg : q_Gr n ln dr)
    (s2 : (y0 = (0 : Int32)) → vp_in y2 6)
    (k3 : (y0 = (0 : Int32)) → q_EX q_KD d 182 70 [.ref 67, .int x1, .int x2, .int x3, .int (x4 + 1)] [] (n, sl, ln, (q_u di 77 y2.toNatClampNeg (y1 + (0 : Int32))), dl, dr) Q)
    (s4 : (¬ y0 = (0 : Int32)) → vp_in y2 6)
    (k5 : (¬ y0 = (0 : Int32)) → q_EX q_KD d 182 70 [.ref 67, .int x1, .int x2, .int x3, .int (x4 + 1)] [] (n, sl, ln, (q_u di 77 y2.toNatClampNeg (y1 + (1 : Int32))), dl, dr) Q) : q_EX q_KD d 182 94 [.ref 67, .int x1, .int x2, .int x3, .int x4] [.int y0, .int y1, .int y2, .ref 77] (n, sl, ln, di, dl, dr) Q := by
  refine (x_if_eq 94 101 i182_94 rfl (fun c1 => ?_) (fun c1 => ?_))
  · refine (x_iconst 101 0 i182_101 rfl ?_)
    refine (x_iadd 102 i182_102 ?_)
    refine (x_iastore 103 i182_103 rfl (Nat.le_of_ble_eq_true rfl) (q_lt hg rfl) (q_inE (hg.2.1 77 6 rfl) (s2 c1)) ?_)
    refine (x_iinc 104 (x4 + 1) (ls2 := [.ref 67, .int x1, .int x2, .int x3, .int (x4 + 1)]) i182_104 rfl (Nat.le_of_ble_eq_true rfl) rfl rfl ?_)
    exact (x_goto 107 70 i182_107 rfl (k3 c1))
  · refine (x_iconst 97 1 i182_97 rfl ?_)
    refine (x_goto 98 102 i182_98 rfl ?_)
    refine (x_iadd 102 i182_102 ?_)
    refine (x_iastore 103 i182_103 rfl (Nat.le_of_ble_eq_true rfl) (q_lt hg rfl) (q_inE (hg.2.1 77 6 rfl) (s4 c1)) ?_)
    refine (x_iinc 104 (x4 + 1) (ls2 := [.ref 67, .int x1, .int x2, .int x3, .int (x4 + 1)]) i182_104 rfl (Nat.le_of_ble_eq_true rfl) rfl rfl ?_)
    exact (x_goto 107 70 i182_107 rfl (k5 c1))

set_option maxRecDepth 20000 in
theorem g182_169 {m n sl : Nat} {ln : Nat → Nat} {di : Nat → Nat → Int32} {dl : Nat → Nat → Int64} {dr : Nat → Nat → Option Nat} {x1 : Int32} {x2 : Int32} {x3 : Int32} {y0 : Int32} {y1 : Int32} {y2 : Int32} {y4 : Int32} {y5 : Int32} {y6 : Int32} {Q : Option Value → q_H → Prop} (hg : q_Gr n ln dr)
    (k1 : q_EX q_KD m 185 0 [.ref 67, .int y2, .int y1, .int y0, .retAddr 0] [] (n, sl, ln, di, dl, dr) (fun r1 h1 => q_EX q_KD (m + 1) 182 172 [.ref 67, .int x1, .int x2, .int x3, .retAddr 0] (r1.toList ++ [.int y4, .int y5, .int y6, .ref 67]) h1 Q)) : q_EX q_KD (m + 1) 182 169 [.ref 67, .int x1, .int x2, .int x3, .retAddr 0] [.int y0, .int y1, .int y2, .ref 67, .int y4, .int y5, .int y6, .ref 67] (n, sl, ln, di, dl, dr) Q := by
  exact (x_cv 169 (as := [.int y2, .int y1, .int y0]) (rs := [.int y4, .int y5, .int y6, .ref 67]) i182_169 rfl rfl rfl rfl (Nat.le_of_ble_eq_true rfl) (q_lt hg rfl) rfl (Or.inr (Nat.le_of_ble_eq_true rfl)) (Nat.le_of_ble_eq_true rfl) rfl rfl k1)

set_option maxRecDepth 20000 in
theorem g182_125 {d n sl : Nat} {ln : Nat → Nat} {di : Nat → Nat → Int32} {dl : Nat → Nat → Int64} {dr : Nat → Nat → Option Nat} {x1 : Int32} {x3 : Int32} {y0 : Int32} {y1 : Int32} {Q : Option Value → q_H → Prop} (hg : q_Gr n ln dr)
    (k1 : q_EX q_KD d 182 51 [.ref 67, .int x1, .int (y1 + y0), .int (x3 + 1), .retAddr 0] [] (n, sl, ln, di, dl, dr) Q) : q_EX q_KD d 182 125 [.ref 67, .int x1, .retAddr 0, .int x3, .retAddr 0] [.int y0, .int y1] (n, sl, ln, di, dl, dr) Q := by
  refine (x_iadd 125 i182_125 ?_)
  refine (x_istore_n 126 (ls2 := [.ref 67, .int x1, .int (y1 + y0), .int x3, .retAddr 0]) i182_126 (Nat.le_of_ble_eq_true rfl) rfl ?_)
  refine (x_iinc 127 (x3 + 1) (ls2 := [.ref 67, .int x1, .int (y1 + y0), .int (x3 + 1), .retAddr 0]) i182_127 rfl (Nat.le_of_ble_eq_true rfl) rfl rfl ?_)
  exact (x_goto 130 51 i182_130 rfl k1)

set_option maxRecDepth 20000 in
theorem g182_172 {m n sl : Nat} {ln : Nat → Nat} {di : Nat → Nat → Int32} {dl : Nat → Nat → Int64} {dr : Nat → Nat → Option Nat} {x1 : Int32} {x2 : Int32} {x3 : Int32} {y0 : Int32} {y1 : Int32} {y2 : Int32} {y3 : Int32} {Q : Option Value → q_H → Prop} (hg : q_Gr n ln dr)
    (k1 : q_EX q_KD m 119 0 [.ref 67, .int y3, .int y2, .int (y1 + y0)] [] (n, sl, ln, di, dl, dr) (fun r1 h1 => q_EX q_KD (m + 1) 182 176 [.ref 67, .int x1, .int x2, .int x3, .retAddr 0] (r1.toList ++ []) h1 Q)) : q_EX q_KD (m + 1) 182 172 [.ref 67, .int x1, .int x2, .int x3, .retAddr 0] [.int y0, .int y1, .int y2, .int y3, .ref 67] (n, sl, ln, di, dl, dr) Q := by
  refine (x_iadd 172 i182_172 ?_)
  exact (x_cv 173 (as := [.int y3, .int y2, .int (y1 + y0)]) (rs := []) i182_173 rfl rfl rfl rfl (Nat.le_of_ble_eq_true rfl) (q_lt hg rfl) rfl (Or.inr (Nat.le_of_ble_eq_true rfl)) (Nat.le_of_ble_eq_true rfl) rfl rfl k1)

set_option maxRecDepth 20000 in
theorem g182_176 {d n sl : Nat} {ln : Nat → Nat} {di : Nat → Nat → Int32} {dl : Nat → Nat → Int64} {dr : Nat → Nat → Option Nat} {x1 : Int32} {x2 : Int32} {x3 : Int32} {Q : Option Value → q_H → Prop} (hg : q_Gr n ln dr)
    (k1 : q_EX q_KD d 182 135 [.ref 67, .int x1, .int x2, .int (x3 + 1), .retAddr 0] [] (n, sl, ln, di, dl, dr) Q) : q_EX q_KD d 182 176 [.ref 67, .int x1, .int x2, .int x3, .retAddr 0] [] (n, sl, ln, di, dl, dr) Q := by
  refine (x_iinc 176 (x3 + 1) (ls2 := [.ref 67, .int x1, .int x2, .int (x3 + 1), .retAddr 0]) i182_176 rfl (Nat.le_of_ble_eq_true rfl) rfl rfl ?_)
  exact (x_goto 179 135 i182_179 rfl k1)

/-! SilentHouseModel.sitting -/
set_option maxRecDepth 20000 in
theorem g183_0 {d n sl : Nat} {ln : Nat → Nat} {di : Nat → Nat → Int32} {dl : Nat → Nat → Int64} {dr : Nat → Nat → Option Nat} {Q : Option Value → q_H → Prop} (hg : q_Gr n ln dr)
    (k1 : q_EX q_KD d 183 4 [.ref 67, .int 0, .int 0] [] (n, sl, ln, di, dl, dr) Q) : q_EX q_KD d 183 0 [.ref 67, .retAddr 0, .retAddr 0] [] (n, sl, ln, di, dl, dr) Q := by
  refine (x_iconst 0 0 i183_0 rfl ?_)
  refine (x_istore_n 1 (ls2 := [.ref 67, .int 0, .retAddr 0]) i183_1 (Nat.le_of_ble_eq_true rfl) rfl ?_)
  refine (x_iconst 2 0 i183_2 rfl ?_)
  exact (x_istore_n 3 (ls2 := [.ref 67, .int 0, .int 0]) i183_3 (Nat.le_of_ble_eq_true rfl) rfl k1)

set_option maxRecDepth 20000 in
theorem g183_4 {m n sl : Nat} {ln : Nat → Nat} {di : Nat → Nat → Int32} {dl : Nat → Nat → Int64} {dr : Nat → Nat → Option Nat} {x1 : Int32} {x2 : Int32} {Q : Option Value → q_H → Prop} (hg : q_Gr n ln dr)
    (k2 : ((di 68 0) ≤ x2) → Q (some (.int x1)) (n, sl, ln, di, dl, dr))
    (k3 : (x2 < (di 68 0)) → q_EX q_KD m 161 0 [.ref 67, .int x2, .int 3] [] (n, sl, ln, di, dl, dr) (fun r1 h1 => q_EX q_KD (m + 1) 183 21 [.ref 67, .retAddr 0, .int x2] (r1.toList ++ [.int x1]) h1 Q)) : q_EX q_KD (m + 1) 183 4 [.ref 67, .int x1, .int x2] [] (n, sl, ln, di, dl, dr) Q := by
  refine (x_iload_n 4 i183_4 rfl ?_)
  refine (x_aload_n 5 i183_5 rfl ?_)
  refine (x_getR 6 68 i183_6 rfl (q_lt hg rfl) (Nat.le_of_ble_eq_true rfl) rfl (hg.2.2.1 67 0 68 rfl) ?_)
  refine (x_iconst 9 0 i183_9 rfl ?_)
  refine (x_iaload 10 (di 68 0) i183_10 rfl (q_lt hg rfl) (q_inE (hg.2.1 68 706 rfl) (q_vin rfl)) rfl ?_)
  refine (x_icmp_ge 11 39 i183_11 rfl (fun c1 => ?_) (fun c1 => ?_))
  · refine (x_iload_n 39 i183_39 rfl ?_)
    exact (x_iretI 40 i183_40 rfl (k2 c1))
  · refine (x_iload_n 14 i183_14 rfl ?_)
    refine (x_aload_n 15 i183_15 rfl ?_)
    refine (x_iload_n 16 i183_16 rfl ?_)
    refine (x_iconst 17 3 i183_17 rfl ?_)
    refine (xx_loc (ls := [.ref 67, .retAddr 0, .int x2]) (ls' := [.ref 67, .int x1, .int x2]) ⟨Or.inl rfl, Or.inr rfl, Or.inl rfl, trivial⟩ ?_)
    exact (x_cv 18 (as := [.int x2, .int 3]) (rs := [.int x1]) i183_18 rfl rfl rfl rfl (Nat.le_of_ble_eq_true rfl) (q_lt hg rfl) rfl (Or.inr (Nat.le_of_ble_eq_true rfl)) (Nat.le_of_ble_eq_true rfl) rfl rfl (k3 c1))

set_option maxRecDepth 20000 in
theorem g183_21 {d n sl : Nat} {ln : Nat → Nat} {di : Nat → Nat → Int32} {dl : Nat → Nat → Int64} {dr : Nat → Nat → Option Nat} {x2 : Int32} {y0 : Int32} {y1 : Int32} {Q : Option Value → q_H → Prop} (hg : q_Gr n ln dr)
    (k2 : (y0 < (0 : Int32)) → q_EX q_KD d 183 4 [.ref 67, .int (y1 ||| (0 : Int32)), .int (x2 + 1)] [] (n, sl, ln, di, dl, dr) Q)
    (k3 : ((0 : Int32) ≤ y0) → q_EX q_KD d 183 4 [.ref 67, .int (y1 ||| ((1 : Int32) <<< (x2 &&& 31))), .int (x2 + 1)] [] (n, sl, ln, di, dl, dr) Q) : q_EX q_KD d 183 21 [.ref 67, .retAddr 0, .int x2] [.int y0, .int y1] (n, sl, ln, di, dl, dr) Q := by
  refine (x_if_lt 21 30 i183_21 rfl (fun c1 => ?_) (fun c1 => ?_))
  · refine (x_iconst 30 0 i183_30 rfl ?_)
    refine (x_ior 31 i183_31 ?_)
    refine (x_istore_n 32 (ls2 := [.ref 67, .int (y1 ||| (0 : Int32)), .int x2]) i183_32 (Nat.le_of_ble_eq_true rfl) rfl ?_)
    refine (x_iinc 33 (x2 + 1) (ls2 := [.ref 67, .int (y1 ||| (0 : Int32)), .int (x2 + 1)]) i183_33 rfl (Nat.le_of_ble_eq_true rfl) rfl rfl ?_)
    exact (x_goto 36 4 i183_36 rfl (k2 c1))
  · refine (x_iconst 24 1 i183_24 rfl ?_)
    refine (x_iload_n 25 i183_25 rfl ?_)
    refine (x_ishl 26 i183_26 ?_)
    refine (x_goto 27 31 i183_27 rfl ?_)
    refine (x_ior 31 i183_31 ?_)
    refine (x_istore_n 32 (ls2 := [.ref 67, .int (y1 ||| ((1 : Int32) <<< (x2 &&& 31))), .int x2]) i183_32 (Nat.le_of_ble_eq_true rfl) rfl ?_)
    refine (x_iinc 33 (x2 + 1) (ls2 := [.ref 67, .int (y1 ||| ((1 : Int32) <<< (x2 &&& 31))), .int (x2 + 1)]) i183_33 rfl (Nat.le_of_ble_eq_true rfl) rfl rfl ?_)
    exact (x_goto 36 4 i183_36 rfl (k3 c1))

/-! SilentHouseModel.coughAll -/
set_option maxRecDepth 20000 in
theorem g184_0 {d n sl : Nat} {ln : Nat → Nat} {di : Nat → Nat → Int32} {dl : Nat → Nat → Int64} {dr : Nat → Nat → Option Nat} {x1 : Int32} {Q : Option Value → q_H → Prop} (hg : q_Gr n ln dr)
    (k1 : q_EX q_KD d 184 4 [.ref 67, .int x1, .int 0, .int 0, .retAddr 0] [] (n, sl, ln, di, dl, dr) Q) : q_EX q_KD d 184 0 [.ref 67, .int x1, .retAddr 0, .retAddr 0, .retAddr 0] [] (n, sl, ln, di, dl, dr) Q := by
  refine (x_iconst 0 0 i184_0 rfl ?_)
  refine (x_istore_n 1 (ls2 := [.ref 67, .int x1, .int 0, .retAddr 0, .retAddr 0]) i184_1 (Nat.le_of_ble_eq_true rfl) rfl ?_)
  refine (x_iconst 2 0 i184_2 rfl ?_)
  exact (x_istore_n 3 (ls2 := [.ref 67, .int x1, .int 0, .int 0, .retAddr 0]) i184_3 (Nat.le_of_ble_eq_true rfl) rfl k1)

set_option maxRecDepth 20000 in
theorem g184_4 {m n sl : Nat} {ln : Nat → Nat} {di : Nat → Nat → Int32} {dl : Nat → Nat → Int64} {dr : Nat → Nat → Option Nat} {x1 : Int32} {x2 : Int32} {x3 : Int32} {Q : Option Value → q_H → Prop} (hg : q_Gr n ln dr)
    (k2 : ((di 68 0) ≤ x3) → Q (some (.int x2)) (n, sl, ln, di, dl, dr))
    (k3 : (x3 < (di 68 0)) → q_EX q_KD m 164 0 [.int x1, .int x3] [] (n, sl, ln, di, dl, dr) (fun r1 h1 => q_EX q_KD (m + 1) 184 19 [.ref 67, .int x1, .int x2, .int x3, .retAddr 0] (r1.toList ++ []) h1 Q)) : q_EX q_KD (m + 1) 184 4 [.ref 67, .int x1, .int x2, .int x3, .retAddr 0] [] (n, sl, ln, di, dl, dr) Q := by
  refine (x_iload_n 4 i184_4 rfl ?_)
  refine (x_aload_n 5 i184_5 rfl ?_)
  refine (x_getR 6 68 i184_6 rfl (q_lt hg rfl) (Nat.le_of_ble_eq_true rfl) rfl (hg.2.2.1 67 0 68 rfl) ?_)
  refine (x_iconst 9 0 i184_9 rfl ?_)
  refine (x_iaload 10 (di 68 0) i184_10 rfl (q_lt hg rfl) (q_inE (hg.2.1 68 706 rfl) (q_vin rfl)) rfl ?_)
  refine (x_icmp_ge 11 111 i184_11 rfl (fun c1 => ?_) (fun c1 => ?_))
  · refine (x_iload_n 111 i184_111 rfl ?_)
    exact (x_iretI 112 i184_112 rfl (k2 c1))
  · refine (x_iload_n 14 i184_14 rfl ?_)
    refine (x_iload_n 15 i184_15 rfl ?_)
    exact (x_cs 16 (as := [.int x1, .int x3]) (rs := []) i184_16 rfl rfl rfl rfl (Nat.le_of_ble_eq_true rfl) (Nat.le_of_ble_eq_true rfl) rfl rfl (k3 c1))

set_option maxRecDepth 20000 in
theorem g184_19 {m n sl : Nat} {ln : Nat → Nat} {di : Nat → Nat → Int32} {dl : Nat → Nat → Int64} {dr : Nat → Nat → Option Nat} {x1 : Int32} {x2 : Int32} {x3 : Int32} {y0 : Int32} {Q : Option Value → q_H → Prop} (hg : q_Gr n ln dr)
    (k2 : (¬ y0 = (0 : Int32)) → q_EX q_KD m 161 0 [.ref 67, .int x3, .int 2] [] (n, sl, ln, di, dl, dr) (fun r1 h1 => q_EX q_KD (m + 1) 184 40 [.ref 67, .int x1, .int x2, .int x3, .retAddr 0] (r1.toList ++ [.int ((di 68 3) - (di 68 3) / (10 : Int32) * (10 : Int32))]) h1 Q))
    (k3 : (y0 = (0 : Int32)) → q_EX q_KD (m + 1) 184 4 [.ref 67, .int x1, .int x2, .int (x3 + 1), .retAddr 0] [] (n, sl, ln, di, dl, dr) Q) : q_EX q_KD (m + 1) 184 19 [.ref 67, .int x1, .int x2, .int x3, .retAddr 0] [.int y0] (n, sl, ln, di, dl, dr) Q := by
  refine (x_if_ne 19 25 i184_19 rfl (fun c1 => ?_) (fun c1 => ?_))
  · refine (x_aload_n 25 i184_25 rfl ?_)
    refine (x_getR 26 68 i184_26 rfl (q_lt hg rfl) (Nat.le_of_ble_eq_true rfl) rfl (hg.2.2.1 67 0 68 rfl) ?_)
    refine (x_iconst 29 3 i184_29 rfl ?_)
    refine (x_iaload 30 (di 68 3) i184_30 rfl (q_lt hg rfl) (q_inE (hg.2.1 68 706 rfl) (q_vin rfl)) rfl ?_)
    refine (x_bipush 31 10 i184_31 rfl ?_)
    refine (x_irem 33 i184_33 (by decide) ?_)
    refine (x_aload_n 34 i184_34 rfl ?_)
    refine (x_iload_n 35 i184_35 rfl ?_)
    refine (x_iconst 36 2 i184_36 rfl ?_)
    exact (x_cv 37 (as := [.int x3, .int 2]) (rs := [.int ((di 68 3) - (di 68 3) / (10 : Int32) * (10 : Int32))]) i184_37 rfl rfl rfl rfl (Nat.le_of_ble_eq_true rfl) (q_lt hg rfl) rfl (Or.inr (Nat.le_of_ble_eq_true rfl)) (Nat.le_of_ble_eq_true rfl) rfl rfl (k2 c1))
  · refine (x_goto 22 105 i184_22 rfl ?_)
    refine (x_iinc 105 (x3 + 1) (ls2 := [.ref 67, .int x1, .int x2, .int (x3 + 1), .retAddr 0]) i184_105 rfl (Nat.le_of_ble_eq_true rfl) rfl rfl ?_)
    exact (x_goto 108 4 i184_108 rfl (k3 c1))

set_option maxRecDepth 20000 in
theorem g184_40 {d n sl : Nat} {ln : Nat → Nat} {di : Nat → Nat → Int32} {dl : Nat → Nat → Int64} {dr : Nat → Nat → Option Nat} {x1 : Int32} {x2 : Int32} {x3 : Int32} {y0 : Int32} {y1 : Int32} {Q : Option Value → q_H → Prop} (hg : q_Gr n ln dr)
    (s2 : (y0 ≤ y1) → vp_in x3 6)
    (s4 : (y0 ≤ y1) → ((0 : Int32) = (0 : Int32)) → vp_in x3 6)
    (k6 : (y0 ≤ y1) → ((0 : Int32) = (0 : Int32)) → ((0 : Int32) = (0 : Int32)) → q_EX q_KD d 184 4 [.ref 67, .int x1, .int (x2 + (0 : Int32)), .int (x3 + 1), .retAddr 0] [] (n, sl, ln, (q_u (q_u di 68 3 ((((di 68 3) * (227 : Int32)) + (61 : Int32)) - (((di 68 3) * (227 : Int32)) + (61 : Int32)) / (30119 : Int32) * (30119 : Int32))) 78 x3.toNatClampNeg ((di 78 x3.toNatClampNeg) + (0 : Int32))), dl, dr) Q)
    (k7 : (y0 ≤ y1) → ((0 : Int32) = (0 : Int32)) → (¬ (0 : Int32) = (0 : Int32)) → q_EX q_KD d 184 4 [.ref 67, .int x1, .int (x2 + (1 : Int32)), .int (x3 + 1), .retAddr 0] [] (n, sl, ln, (q_u (q_u di 68 3 ((((di 68 3) * (227 : Int32)) + (61 : Int32)) - (((di 68 3) * (227 : Int32)) + (61 : Int32)) / (30119 : Int32) * (30119 : Int32))) 78 x3.toNatClampNeg ((di 78 x3.toNatClampNeg) + (0 : Int32))), dl, dr) Q)
    (s8 : (y0 ≤ y1) → (¬ (0 : Int32) = (0 : Int32)) → vp_in x3 6)
    (k10 : (y0 ≤ y1) → (¬ (0 : Int32) = (0 : Int32)) → ((0 : Int32) = (0 : Int32)) → q_EX q_KD d 184 4 [.ref 67, .int x1, .int (x2 + (0 : Int32)), .int (x3 + 1), .retAddr 0] [] (n, sl, ln, (q_u (q_u di 68 3 ((((di 68 3) * (227 : Int32)) + (61 : Int32)) - (((di 68 3) * (227 : Int32)) + (61 : Int32)) / (30119 : Int32) * (30119 : Int32))) 78 x3.toNatClampNeg ((di 78 x3.toNatClampNeg) + (1 : Int32))), dl, dr) Q)
    (k11 : (y0 ≤ y1) → (¬ (0 : Int32) = (0 : Int32)) → (¬ (0 : Int32) = (0 : Int32)) → q_EX q_KD d 184 4 [.ref 67, .int x1, .int (x2 + (1 : Int32)), .int (x3 + 1), .retAddr 0] [] (n, sl, ln, (q_u (q_u di 68 3 ((((di 68 3) * (227 : Int32)) + (61 : Int32)) - (((di 68 3) * (227 : Int32)) + (61 : Int32)) / (30119 : Int32) * (30119 : Int32))) 78 x3.toNatClampNeg ((di 78 x3.toNatClampNeg) + (1 : Int32))), dl, dr) Q)
    (s12 : (y1 < y0) → vp_in x3 6)
    (s14 : (y1 < y0) → ((1 : Int32) = (0 : Int32)) → vp_in x3 6)
    (k16 : (y1 < y0) → ((1 : Int32) = (0 : Int32)) → ((1 : Int32) = (0 : Int32)) → q_EX q_KD d 184 4 [.ref 67, .int x1, .int (x2 + (0 : Int32)), .int (x3 + 1), .retAddr 0] [] (n, sl, ln, (q_u (q_u di 68 3 ((((di 68 3) * (227 : Int32)) + (61 : Int32)) - (((di 68 3) * (227 : Int32)) + (61 : Int32)) / (30119 : Int32) * (30119 : Int32))) 78 x3.toNatClampNeg ((di 78 x3.toNatClampNeg) + (0 : Int32))), dl, dr) Q)
    (k17 : (y1 < y0) → ((1 : Int32) = (0 : Int32)) → (¬ (1 : Int32) = (0 : Int32)) → q_EX q_KD d 184 4 [.ref 67, .int x1, .int (x2 + (1 : Int32)), .int (x3 + 1), .retAddr 0] [] (n, sl, ln, (q_u (q_u di 68 3 ((((di 68 3) * (227 : Int32)) + (61 : Int32)) - (((di 68 3) * (227 : Int32)) + (61 : Int32)) / (30119 : Int32) * (30119 : Int32))) 78 x3.toNatClampNeg ((di 78 x3.toNatClampNeg) + (0 : Int32))), dl, dr) Q)
    (s18 : (y1 < y0) → (¬ (1 : Int32) = (0 : Int32)) → vp_in x3 6)
    (k20 : (y1 < y0) → (¬ (1 : Int32) = (0 : Int32)) → ((1 : Int32) = (0 : Int32)) → q_EX q_KD d 184 4 [.ref 67, .int x1, .int (x2 + (0 : Int32)), .int (x3 + 1), .retAddr 0] [] (n, sl, ln, (q_u (q_u di 68 3 ((((di 68 3) * (227 : Int32)) + (61 : Int32)) - (((di 68 3) * (227 : Int32)) + (61 : Int32)) / (30119 : Int32) * (30119 : Int32))) 78 x3.toNatClampNeg ((di 78 x3.toNatClampNeg) + (1 : Int32))), dl, dr) Q)
    (k21 : (y1 < y0) → (¬ (1 : Int32) = (0 : Int32)) → (¬ (1 : Int32) = (0 : Int32)) → q_EX q_KD d 184 4 [.ref 67, .int x1, .int (x2 + (1 : Int32)), .int (x3 + 1), .retAddr 0] [] (n, sl, ln, (q_u (q_u di 68 3 ((((di 68 3) * (227 : Int32)) + (61 : Int32)) - (((di 68 3) * (227 : Int32)) + (61 : Int32)) / (30119 : Int32) * (30119 : Int32))) 78 x3.toNatClampNeg ((di 78 x3.toNatClampNeg) + (1 : Int32))), dl, dr) Q) : q_EX q_KD d 184 40 [.ref 67, .int x1, .int x2, .int x3, .retAddr 0] [.int y0, .int y1] (n, sl, ln, di, dl, dr) Q := by
  refine (x_icmp_ge 40 47 i184_40 rfl (fun c1 => ?_) (fun c1 => ?_))
  · refine (x_iconst 47 0 i184_47 rfl ?_)
    refine (x_istore 48 (ls2 := [.ref 67, .int x1, .int x2, .int x3, .int 0]) i184_48 (Nat.le_of_ble_eq_true rfl) rfl ?_)
    refine (x_aload_n 50 i184_50 rfl ?_)
    refine (x_getR 51 68 i184_51 rfl (q_lt hg rfl) (Nat.le_of_ble_eq_true rfl) rfl (hg.2.2.1 67 0 68 rfl) ?_)
    refine (x_iconst 54 3 i184_54 rfl ?_)
    refine (x_aload_n 55 i184_55 rfl ?_)
    refine (x_getR 56 68 i184_56 rfl (q_lt hg rfl) (Nat.le_of_ble_eq_true rfl) rfl (hg.2.2.1 67 0 68 rfl) ?_)
    refine (x_iconst 59 3 i184_59 rfl ?_)
    refine (x_iaload 60 (di 68 3) i184_60 rfl (q_lt hg rfl) (q_inE (hg.2.1 68 706 rfl) (q_vin rfl)) rfl ?_)
    refine (x_sipush 61 227 i184_61 rfl ?_)
    refine (x_imul 64 i184_64 ?_)
    refine (x_bipush 65 61 i184_65 rfl ?_)
    refine (x_iadd 67 i184_67 ?_)
    refine (x_sipush 68 30119 i184_68 rfl ?_)
    refine (x_irem 71 i184_71 (by decide) ?_)
    refine (x_iastore 72 i184_72 rfl (Nat.le_of_ble_eq_true rfl) (q_lt hg rfl) (q_inE (hg.2.1 68 706 rfl) (q_vin rfl)) ?_)
    refine (x_aload_n 73 i184_73 rfl ?_)
    refine (x_getR 74 78 i184_74 rfl (q_lt hg rfl) (Nat.le_of_ble_eq_true rfl) rfl (hg.2.2.1 67 30 78 rfl) ?_)
    refine (x_iload_n 77 i184_77 rfl ?_)
    refine (x_dup2 78 i184_78 rfl rfl ?_)
    refine (x_iaload 79 (di 78 x3.toNatClampNeg) i184_79 rfl (q_lt hg rfl) (q_inE (hg.2.1 78 6 rfl) (s2 c1)) rfl ?_)
    refine (x_iload 80 i184_80 rfl ?_)
    refine (x_if_eq 82 89 i184_82 rfl (fun c3 => ?_) (fun c3 => ?_))
    · refine (x_iconst 89 0 i184_89 rfl ?_)
      refine (x_iadd 90 i184_90 ?_)
      refine (x_iastore 91 i184_91 rfl (Nat.le_of_ble_eq_true rfl) (q_lt hg rfl) (q_inE (hg.2.1 78 6 rfl) (s4 c1 c3)) ?_)
      refine (x_iload_n 92 i184_92 rfl ?_)
      refine (x_iload 93 i184_93 rfl ?_)
      refine (x_if_eq 95 102 i184_95 rfl (fun c5 => ?_) (fun c5 => ?_))
      · refine (x_iconst 102 0 i184_102 rfl ?_)
        refine (x_iadd 103 i184_103 ?_)
        refine (x_istore_n 104 (ls2 := [.ref 67, .int x1, .int (x2 + (0 : Int32)), .int x3, .int 0]) i184_104 (Nat.le_of_ble_eq_true rfl) rfl ?_)
        refine (x_iinc 105 (x3 + 1) (ls2 := [.ref 67, .int x1, .int (x2 + (0 : Int32)), .int (x3 + 1), .int 0]) i184_105 rfl (Nat.le_of_ble_eq_true rfl) rfl rfl ?_)
        refine (x_goto 108 4 i184_108 rfl ?_)
        exact (xx_loc (ls := [.ref 67, .int x1, .int (x2 + (0 : Int32)), .int (x3 + 1), .retAddr 0]) (ls' := [.ref 67, .int x1, .int (x2 + (0 : Int32)), .int (x3 + 1), .int 0]) ⟨Or.inl rfl, Or.inl rfl, Or.inl rfl, Or.inl rfl, Or.inr rfl, trivial⟩ (k6 c1 c3 c5))
      · refine (x_iconst 98 1 i184_98 rfl ?_)
        refine (x_goto 99 103 i184_99 rfl ?_)
        refine (x_iadd 103 i184_103 ?_)
        refine (x_istore_n 104 (ls2 := [.ref 67, .int x1, .int (x2 + (1 : Int32)), .int x3, .int 0]) i184_104 (Nat.le_of_ble_eq_true rfl) rfl ?_)
        refine (x_iinc 105 (x3 + 1) (ls2 := [.ref 67, .int x1, .int (x2 + (1 : Int32)), .int (x3 + 1), .int 0]) i184_105 rfl (Nat.le_of_ble_eq_true rfl) rfl rfl ?_)
        refine (x_goto 108 4 i184_108 rfl ?_)
        exact (xx_loc (ls := [.ref 67, .int x1, .int (x2 + (1 : Int32)), .int (x3 + 1), .retAddr 0]) (ls' := [.ref 67, .int x1, .int (x2 + (1 : Int32)), .int (x3 + 1), .int 0]) ⟨Or.inl rfl, Or.inl rfl, Or.inl rfl, Or.inl rfl, Or.inr rfl, trivial⟩ (k7 c1 c3 c5))
    · refine (x_iconst 85 1 i184_85 rfl ?_)
      refine (x_goto 86 90 i184_86 rfl ?_)
      refine (x_iadd 90 i184_90 ?_)
      refine (x_iastore 91 i184_91 rfl (Nat.le_of_ble_eq_true rfl) (q_lt hg rfl) (q_inE (hg.2.1 78 6 rfl) (s8 c1 c3)) ?_)
      refine (x_iload_n 92 i184_92 rfl ?_)
      refine (x_iload 93 i184_93 rfl ?_)
      refine (x_if_eq 95 102 i184_95 rfl (fun c9 => ?_) (fun c9 => ?_))
      · refine (x_iconst 102 0 i184_102 rfl ?_)
        refine (x_iadd 103 i184_103 ?_)
        refine (x_istore_n 104 (ls2 := [.ref 67, .int x1, .int (x2 + (0 : Int32)), .int x3, .int 0]) i184_104 (Nat.le_of_ble_eq_true rfl) rfl ?_)
        refine (x_iinc 105 (x3 + 1) (ls2 := [.ref 67, .int x1, .int (x2 + (0 : Int32)), .int (x3 + 1), .int 0]) i184_105 rfl (Nat.le_of_ble_eq_true rfl) rfl rfl ?_)
        refine (x_goto 108 4 i184_108 rfl ?_)
        exact (xx_loc (ls := [.ref 67, .int x1, .int (x2 + (0 : Int32)), .int (x3 + 1), .retAddr 0]) (ls' := [.ref 67, .int x1, .int (x2 + (0 : Int32)), .int (x3 + 1), .int 0]) ⟨Or.inl rfl, Or.inl rfl, Or.inl rfl, Or.inl rfl, Or.inr rfl, trivial⟩ (k10 c1 c3 c9))
      · refine (x_iconst 98 1 i184_98 rfl ?_)
        refine (x_goto 99 103 i184_99 rfl ?_)
        refine (x_iadd 103 i184_103 ?_)
        refine (x_istore_n 104 (ls2 := [.ref 67, .int x1, .int (x2 + (1 : Int32)), .int x3, .int 0]) i184_104 (Nat.le_of_ble_eq_true rfl) rfl ?_)
        refine (x_iinc 105 (x3 + 1) (ls2 := [.ref 67, .int x1, .int (x2 + (1 : Int32)), .int (x3 + 1), .int 0]) i184_105 rfl (Nat.le_of_ble_eq_true rfl) rfl rfl ?_)
        refine (x_goto 108 4 i184_108 rfl ?_)
        exact (xx_loc (ls := [.ref 67, .int x1, .int (x2 + (1 : Int32)), .int (x3 + 1), .retAddr 0]) (ls' := [.ref 67, .int x1, .int (x2 + (1 : Int32)), .int (x3 + 1), .int 0]) ⟨Or.inl rfl, Or.inl rfl, Or.inl rfl, Or.inl rfl, Or.inr rfl, trivial⟩ (k11 c1 c3 c9))
  · refine (x_iconst 43 1 i184_43 rfl ?_)
    refine (x_goto 44 48 i184_44 rfl ?_)
    refine (x_istore 48 (ls2 := [.ref 67, .int x1, .int x2, .int x3, .int 1]) i184_48 (Nat.le_of_ble_eq_true rfl) rfl ?_)
    refine (x_aload_n 50 i184_50 rfl ?_)
    refine (x_getR 51 68 i184_51 rfl (q_lt hg rfl) (Nat.le_of_ble_eq_true rfl) rfl (hg.2.2.1 67 0 68 rfl) ?_)
    refine (x_iconst 54 3 i184_54 rfl ?_)
    refine (x_aload_n 55 i184_55 rfl ?_)
    refine (x_getR 56 68 i184_56 rfl (q_lt hg rfl) (Nat.le_of_ble_eq_true rfl) rfl (hg.2.2.1 67 0 68 rfl) ?_)
    refine (x_iconst 59 3 i184_59 rfl ?_)
    refine (x_iaload 60 (di 68 3) i184_60 rfl (q_lt hg rfl) (q_inE (hg.2.1 68 706 rfl) (q_vin rfl)) rfl ?_)
    refine (x_sipush 61 227 i184_61 rfl ?_)
    refine (x_imul 64 i184_64 ?_)
    refine (x_bipush 65 61 i184_65 rfl ?_)
    refine (x_iadd 67 i184_67 ?_)
    refine (x_sipush 68 30119 i184_68 rfl ?_)
    refine (x_irem 71 i184_71 (by decide) ?_)
    refine (x_iastore 72 i184_72 rfl (Nat.le_of_ble_eq_true rfl) (q_lt hg rfl) (q_inE (hg.2.1 68 706 rfl) (q_vin rfl)) ?_)
    refine (x_aload_n 73 i184_73 rfl ?_)
    refine (x_getR 74 78 i184_74 rfl (q_lt hg rfl) (Nat.le_of_ble_eq_true rfl) rfl (hg.2.2.1 67 30 78 rfl) ?_)
    refine (x_iload_n 77 i184_77 rfl ?_)
    refine (x_dup2 78 i184_78 rfl rfl ?_)
    refine (x_iaload 79 (di 78 x3.toNatClampNeg) i184_79 rfl (q_lt hg rfl) (q_inE (hg.2.1 78 6 rfl) (s12 c1)) rfl ?_)
    refine (x_iload 80 i184_80 rfl ?_)
    refine (x_if_eq 82 89 i184_82 rfl (fun c13 => ?_) (fun c13 => ?_))
    · refine (x_iconst 89 0 i184_89 rfl ?_)
      refine (x_iadd 90 i184_90 ?_)
      refine (x_iastore 91 i184_91 rfl (Nat.le_of_ble_eq_true rfl) (q_lt hg rfl) (q_inE (hg.2.1 78 6 rfl) (s14 c1 c13)) ?_)
      refine (x_iload_n 92 i184_92 rfl ?_)
      refine (x_iload 93 i184_93 rfl ?_)
      refine (x_if_eq 95 102 i184_95 rfl (fun c15 => ?_) (fun c15 => ?_))
      · refine (x_iconst 102 0 i184_102 rfl ?_)
        refine (x_iadd 103 i184_103 ?_)
        refine (x_istore_n 104 (ls2 := [.ref 67, .int x1, .int (x2 + (0 : Int32)), .int x3, .int 1]) i184_104 (Nat.le_of_ble_eq_true rfl) rfl ?_)
        refine (x_iinc 105 (x3 + 1) (ls2 := [.ref 67, .int x1, .int (x2 + (0 : Int32)), .int (x3 + 1), .int 1]) i184_105 rfl (Nat.le_of_ble_eq_true rfl) rfl rfl ?_)
        refine (x_goto 108 4 i184_108 rfl ?_)
        exact (xx_loc (ls := [.ref 67, .int x1, .int (x2 + (0 : Int32)), .int (x3 + 1), .retAddr 0]) (ls' := [.ref 67, .int x1, .int (x2 + (0 : Int32)), .int (x3 + 1), .int 1]) ⟨Or.inl rfl, Or.inl rfl, Or.inl rfl, Or.inl rfl, Or.inr rfl, trivial⟩ (k16 c1 c13 c15))
      · refine (x_iconst 98 1 i184_98 rfl ?_)
        refine (x_goto 99 103 i184_99 rfl ?_)
        refine (x_iadd 103 i184_103 ?_)
        refine (x_istore_n 104 (ls2 := [.ref 67, .int x1, .int (x2 + (1 : Int32)), .int x3, .int 1]) i184_104 (Nat.le_of_ble_eq_true rfl) rfl ?_)
        refine (x_iinc 105 (x3 + 1) (ls2 := [.ref 67, .int x1, .int (x2 + (1 : Int32)), .int (x3 + 1), .int 1]) i184_105 rfl (Nat.le_of_ble_eq_true rfl) rfl rfl ?_)
        refine (x_goto 108 4 i184_108 rfl ?_)
        exact (xx_loc (ls := [.ref 67, .int x1, .int (x2 + (1 : Int32)), .int (x3 + 1), .retAddr 0]) (ls' := [.ref 67, .int x1, .int (x2 + (1 : Int32)), .int (x3 + 1), .int 1]) ⟨Or.inl rfl, Or.inl rfl, Or.inl rfl, Or.inl rfl, Or.inr rfl, trivial⟩ (k17 c1 c13 c15))
    · refine (x_iconst 85 1 i184_85 rfl ?_)
      refine (x_goto 86 90 i184_86 rfl ?_)
      refine (x_iadd 90 i184_90 ?_)
      refine (x_iastore 91 i184_91 rfl (Nat.le_of_ble_eq_true rfl) (q_lt hg rfl) (q_inE (hg.2.1 78 6 rfl) (s18 c1 c13)) ?_)
      refine (x_iload_n 92 i184_92 rfl ?_)
      refine (x_iload 93 i184_93 rfl ?_)
      refine (x_if_eq 95 102 i184_95 rfl (fun c19 => ?_) (fun c19 => ?_))
      · refine (x_iconst 102 0 i184_102 rfl ?_)
        refine (x_iadd 103 i184_103 ?_)
        refine (x_istore_n 104 (ls2 := [.ref 67, .int x1, .int (x2 + (0 : Int32)), .int x3, .int 1]) i184_104 (Nat.le_of_ble_eq_true rfl) rfl ?_)
        refine (x_iinc 105 (x3 + 1) (ls2 := [.ref 67, .int x1, .int (x2 + (0 : Int32)), .int (x3 + 1), .int 1]) i184_105 rfl (Nat.le_of_ble_eq_true rfl) rfl rfl ?_)
        refine (x_goto 108 4 i184_108 rfl ?_)
        exact (xx_loc (ls := [.ref 67, .int x1, .int (x2 + (0 : Int32)), .int (x3 + 1), .retAddr 0]) (ls' := [.ref 67, .int x1, .int (x2 + (0 : Int32)), .int (x3 + 1), .int 1]) ⟨Or.inl rfl, Or.inl rfl, Or.inl rfl, Or.inl rfl, Or.inr rfl, trivial⟩ (k20 c1 c13 c19))
      · refine (x_iconst 98 1 i184_98 rfl ?_)
        refine (x_goto 99 103 i184_99 rfl ?_)
        refine (x_iadd 103 i184_103 ?_)
        refine (x_istore_n 104 (ls2 := [.ref 67, .int x1, .int (x2 + (1 : Int32)), .int x3, .int 1]) i184_104 (Nat.le_of_ble_eq_true rfl) rfl ?_)
        refine (x_iinc 105 (x3 + 1) (ls2 := [.ref 67, .int x1, .int (x2 + (1 : Int32)), .int (x3 + 1), .int 1]) i184_105 rfl (Nat.le_of_ble_eq_true rfl) rfl rfl ?_)
        refine (x_goto 108 4 i184_108 rfl ?_)
        exact (xx_loc (ls := [.ref 67, .int x1, .int (x2 + (1 : Int32)), .int (x3 + 1), .retAddr 0]) (ls' := [.ref 67, .int x1, .int (x2 + (1 : Int32)), .int (x3 + 1), .int 1]) ⟨Or.inl rfl, Or.inl rfl, Or.inl rfl, Or.inl rfl, Or.inr rfl, trivial⟩ (k21 c1 c13 c19))

/-! SilentHouseModel.duesOf -/
set_option maxRecDepth 20000 in
theorem g185_0 {m n sl : Nat} {ln : Nat → Nat} {di : Nat → Nat → Int32} {dl : Nat → Nat → Int64} {dr : Nat → Nat → Option Nat} {x1 : Int32} {x2 : Int32} {x3 : Int32} {Q : Option Value → q_H → Prop} (hg : q_Gr n ln dr)
    (k1 : q_EX q_KD m 166 0 [.ref 67, .int 2, .retAddr 0] [] (n, sl, ln, di, dl, dr) (fun r1 h1 => q_EX q_KD (m + 1) 185 5 [.ref 67, .int x1, .int x2, .int x3, .retAddr 0] (r1.toList ++ []) h1 Q)) : q_EX q_KD (m + 1) 185 0 [.ref 67, .int x1, .int x2, .int x3, .retAddr 0] [] (n, sl, ln, di, dl, dr) Q := by
  refine (x_aload_n 0 i185_0 rfl ?_)
  refine (x_iconst 1 2 i185_1 rfl ?_)
  exact (x_cv 2 (as := [.int 2]) (rs := []) i185_2 rfl rfl rfl rfl (Nat.le_of_ble_eq_true rfl) (q_lt hg rfl) rfl (Or.inr (Nat.le_of_ble_eq_true rfl)) (Nat.le_of_ble_eq_true rfl) rfl rfl k1)

set_option maxRecDepth 20000 in
theorem g185_5 {m n sl : Nat} {ln : Nat → Nat} {di : Nat → Nat → Int32} {dl : Nat → Nat → Int64} {dr : Nat → Nat → Option Nat} {x1 : Int32} {x2 : Int32} {x3 : Int32} {y0 : Int32} {Q : Option Value → q_H → Prop} (hg : q_Gr n ln dr)
    (k2 : ((0 : Int32) ≤ y0) → q_EX q_KD m 161 0 [.ref 67, .int x1, .int 0] [] (n, sl, ln, di, dl, dr) (fun r1 h1 => q_EX q_KD (m + 1) 185 27 [.ref 67, .int x1, .int x2, .int x3, .int y0] (r1.toList ++ [.int 0, .ref 73]) h1 Q))
    (s3 : (y0 < (0 : Int32)) → ¬ x3 = 0)
    (k4 : (y0 < (0 : Int32)) → Q (some (.int (x2 / x3))) (n, sl, ln, di, dl, dr)) : q_EX q_KD (m + 1) 185 5 [.ref 67, .int x1, .int x2, .int x3, .retAddr 0] [.int y0] (n, sl, ln, di, dl, dr) Q := by
  refine (x_istore 5 (ls2 := [.ref 67, .int x1, .int x2, .int x3, .int y0]) i185_5 (Nat.le_of_ble_eq_true rfl) rfl ?_)
  refine (x_iload 7 i185_7 rfl ?_)
  refine (x_if_ge 9 16 i185_9 rfl (fun c1 => ?_) (fun c1 => ?_))
  · refine (x_aload_n 16 i185_16 rfl ?_)
    refine (x_getR 17 73 i185_17 rfl (q_lt hg rfl) (Nat.le_of_ble_eq_true rfl) rfl (hg.2.2.1 67 22 73 rfl) ?_)
    refine (x_iconst 20 0 i185_20 rfl ?_)
    refine (x_aload_n 21 i185_21 rfl ?_)
    refine (x_iload_n 22 i185_22 rfl ?_)
    refine (x_iconst 23 0 i185_23 rfl ?_)
    exact (x_cv 24 (as := [.int x1, .int 0]) (rs := [.int 0, .ref 73]) i185_24 rfl rfl rfl rfl (Nat.le_of_ble_eq_true rfl) (q_lt hg rfl) rfl (Or.inr (Nat.le_of_ble_eq_true rfl)) (Nat.le_of_ble_eq_true rfl) rfl rfl (k2 c1))
  · refine (x_iload_n 12 i185_12 rfl ?_)
    refine (x_iload_n 13 i185_13 rfl ?_)
    refine (x_idiv 14 i185_14 (s3 c1) ?_)
    exact (x_iretI 15 i185_15 rfl (k4 c1))

set_option maxRecDepth 20000 in
theorem g185_27 {m n sl : Nat} {ln : Nat → Nat} {di : Nat → Nat → Int32} {dl : Nat → Nat → Int64} {dr : Nat → Nat → Option Nat} {x1 : Int32} {x2 : Int32} {x3 : Int32} {x4 : Int32} {y0 : Int32} {y1 : Int32} {Q : Option Value → q_H → Prop} (hg : q_Gr n ln dr)
    (s1 : vp_in y1 14)
    (k2 : q_EX q_KD m 161 0 [.ref 67, .int x1, .int 1] [] (n, sl, ln, (q_u di 73 y1.toNatClampNeg y0), dl, dr) (fun r1 h1 => q_EX q_KD (m + 1) 185 39 [.ref 67, .int x1, .int x2, .int x3, .int x4] (r1.toList ++ [.int 1, .ref 73]) h1 Q)) : q_EX q_KD (m + 1) 185 27 [.ref 67, .int x1, .int x2, .int x3, .int x4] [.int y0, .int y1, .ref 73] (n, sl, ln, di, dl, dr) Q := by
  refine (x_iastore 27 i185_27 rfl (Nat.le_of_ble_eq_true rfl) (q_lt hg rfl) (q_inE (hg.2.1 73 14 rfl) s1) ?_)
  refine (x_aload_n 28 i185_28 rfl ?_)
  refine (x_getR 29 73 i185_29 rfl (q_lt hg rfl) (Nat.le_of_ble_eq_true rfl) rfl (hg.2.2.1 67 22 73 rfl) ?_)
  refine (x_iconst 32 1 i185_32 rfl ?_)
  refine (x_aload_n 33 i185_33 rfl ?_)
  refine (x_iload_n 34 i185_34 rfl ?_)
  refine (x_iconst 35 1 i185_35 rfl ?_)
  exact (x_cv 36 (as := [.int x1, .int 1]) (rs := [.int 1, .ref 73]) i185_36 rfl rfl rfl rfl (Nat.le_of_ble_eq_true rfl) (q_lt hg rfl) rfl (Or.inr (Nat.le_of_ble_eq_true rfl)) (Nat.le_of_ble_eq_true rfl) rfl rfl k2)

set_option maxRecDepth 20000 in
theorem g185_39 {m n sl : Nat} {ln : Nat → Nat} {di : Nat → Nat → Int32} {dl : Nat → Nat → Int64} {dr : Nat → Nat → Option Nat} {x1 : Int32} {x2 : Int32} {x3 : Int32} {x4 : Int32} {y0 : Int32} {y1 : Int32} {Q : Option Value → q_H → Prop} (hg : q_Gr n ln dr)
    (s1 : vp_in y1 14)
    (k2 : q_EX q_KD m 161 0 [.ref 67, .int x1, .int 3] [] (n, sl, ln, (q_u di 73 y1.toNatClampNeg y0), dl, dr) (fun r1 h1 => q_EX q_KD (m + 1) 185 51 [.ref 67, .int x1, .int x2, .int x3, .int x4] (r1.toList ++ [.int 2, .ref 73]) h1 Q)) : q_EX q_KD (m + 1) 185 39 [.ref 67, .int x1, .int x2, .int x3, .int x4] [.int y0, .int y1, .ref 73] (n, sl, ln, di, dl, dr) Q := by
  refine (x_iastore 39 i185_39 rfl (Nat.le_of_ble_eq_true rfl) (q_lt hg rfl) (q_inE (hg.2.1 73 14 rfl) s1) ?_)
  refine (x_aload_n 40 i185_40 rfl ?_)
  refine (x_getR 41 73 i185_41 rfl (q_lt hg rfl) (Nat.le_of_ble_eq_true rfl) rfl (hg.2.2.1 67 22 73 rfl) ?_)
  refine (x_iconst 44 2 i185_44 rfl ?_)
  refine (x_aload_n 45 i185_45 rfl ?_)
  refine (x_iload_n 46 i185_46 rfl ?_)
  refine (x_iconst 47 3 i185_47 rfl ?_)
  exact (x_cv 48 (as := [.int x1, .int 3]) (rs := [.int 2, .ref 73]) i185_48 rfl rfl rfl rfl (Nat.le_of_ble_eq_true rfl) (q_lt hg rfl) rfl (Or.inr (Nat.le_of_ble_eq_true rfl)) (Nat.le_of_ble_eq_true rfl) rfl rfl k2)

set_option maxRecDepth 20000 in
theorem g185_51 {m n sl : Nat} {ln : Nat → Nat} {di : Nat → Nat → Int32} {dl : Nat → Nat → Int64} {dr : Nat → Nat → Option Nat} {x1 : Int32} {x2 : Int32} {x3 : Int32} {x4 : Int32} {y0 : Int32} {y1 : Int32} {Q : Option Value → q_H → Prop} (hg : q_Gr n ln dr)
    (s1 : vp_in y1 14)
    (s2 : vp_in x1 6)
    (s3 : vp_in x1 6)
    (k4 : q_EX q_KD m 171 0 [.ref 67, .int x4, .retAddr 0, .retAddr 0, .retAddr 0, .retAddr 0, .retAddr 0, .retAddr 0, .retAddr 0] [] (n, sl, ln, (q_u (q_u (q_u (q_u (q_u di 73 y1.toNatClampNeg (y0 / (4 : Int32))) 73 10 x2) 73 11 x3) 73 12 (di 77 x1.toNatClampNeg)) 73 13 (di 78 x1.toNatClampNeg)), dl, dr) (fun r1 h1 => q_EX q_KD (m + 1) 185 102 [.ref 67, .retAddr 0, .retAddr 0, .retAddr 0, .retAddr 0] (r1.toList ++ []) h1 Q)) : q_EX q_KD (m + 1) 185 51 [.ref 67, .int x1, .int x2, .int x3, .int x4] [.int y0, .int y1, .ref 73] (n, sl, ln, di, dl, dr) Q := by
  refine (x_iconst 51 4 i185_51 rfl ?_)
  refine (x_idiv 52 i185_52 (by decide) ?_)
  refine (x_iastore 53 i185_53 rfl (Nat.le_of_ble_eq_true rfl) (q_lt hg rfl) (q_inE (hg.2.1 73 14 rfl) s1) ?_)
  refine (x_aload_n 54 i185_54 rfl ?_)
  refine (x_getR 55 73 i185_55 rfl (q_lt hg rfl) (Nat.le_of_ble_eq_true rfl) rfl (hg.2.2.1 67 22 73 rfl) ?_)
  refine (x_bipush 58 10 i185_58 rfl ?_)
  refine (x_iload_n 60 i185_60 rfl ?_)
  refine (x_iastore 61 i185_61 rfl (Nat.le_of_ble_eq_true rfl) (q_lt hg rfl) (q_inE (hg.2.1 73 14 rfl) (q_vin rfl)) ?_)
  refine (x_aload_n 62 i185_62 rfl ?_)
  refine (x_getR 63 73 i185_63 rfl (q_lt hg rfl) (Nat.le_of_ble_eq_true rfl) rfl (hg.2.2.1 67 22 73 rfl) ?_)
  refine (x_bipush 66 11 i185_66 rfl ?_)
  refine (x_iload_n 68 i185_68 rfl ?_)
  refine (x_iastore 69 i185_69 rfl (Nat.le_of_ble_eq_true rfl) (q_lt hg rfl) (q_inE (hg.2.1 73 14 rfl) (q_vin rfl)) ?_)
  refine (x_aload_n 70 i185_70 rfl ?_)
  refine (x_getR 71 73 i185_71 rfl (q_lt hg rfl) (Nat.le_of_ble_eq_true rfl) rfl (hg.2.2.1 67 22 73 rfl) ?_)
  refine (x_bipush 74 12 i185_74 rfl ?_)
  refine (x_aload_n 76 i185_76 rfl ?_)
  refine (x_getR 77 77 i185_77 rfl (q_lt hg rfl) (Nat.le_of_ble_eq_true rfl) rfl (hg.2.2.1 67 29 77 rfl) ?_)
  refine (x_iload_n 80 i185_80 rfl ?_)
  refine (x_iaload 81 (di 77 x1.toNatClampNeg) i185_81 rfl (q_lt hg rfl) (q_inE (hg.2.1 77 6 rfl) s2) rfl ?_)
  refine (x_iastore 82 i185_82 rfl (Nat.le_of_ble_eq_true rfl) (q_lt hg rfl) (q_inE (hg.2.1 73 14 rfl) (q_vin rfl)) ?_)
  refine (x_aload_n 83 i185_83 rfl ?_)
  refine (x_getR 84 73 i185_84 rfl (q_lt hg rfl) (Nat.le_of_ble_eq_true rfl) rfl (hg.2.2.1 67 22 73 rfl) ?_)
  refine (x_bipush 87 13 i185_87 rfl ?_)
  refine (x_aload_n 89 i185_89 rfl ?_)
  refine (x_getR 90 78 i185_90 rfl (q_lt hg rfl) (Nat.le_of_ble_eq_true rfl) rfl (hg.2.2.1 67 30 78 rfl) ?_)
  refine (x_iload_n 93 i185_93 rfl ?_)
  refine (x_iaload 94 (di 78 x1.toNatClampNeg) i185_94 rfl (q_lt hg rfl) (q_inE (hg.2.1 78 6 rfl) s3) rfl ?_)
  refine (x_iastore 95 i185_95 rfl (Nat.le_of_ble_eq_true rfl) (q_lt hg rfl) (q_inE (hg.2.1 73 14 rfl) (q_vin rfl)) ?_)
  refine (x_aload_n 96 i185_96 rfl ?_)
  refine (x_iload 97 i185_97 rfl ?_)
  refine (xx_loc (ls := [.ref 67, .retAddr 0, .retAddr 0, .retAddr 0, .retAddr 0]) (ls' := [.ref 67, .int x1, .int x2, .int x3, .int x4]) ⟨Or.inl rfl, Or.inr rfl, Or.inr rfl, Or.inr rfl, Or.inr rfl, trivial⟩ ?_)
  exact (x_cv 99 (as := [.int x4]) (rs := []) i185_99 rfl rfl rfl rfl (Nat.le_of_ble_eq_true rfl) (q_lt hg rfl) rfl (Or.inr (Nat.le_of_ble_eq_true rfl)) (Nat.le_of_ble_eq_true rfl) rfl rfl k4)

set_option maxRecDepth 20000 in
theorem g185_102 {m n sl : Nat} {ln : Nat → Nat} {di : Nat → Nat → Int32} {dl : Nat → Nat → Int64} {dr : Nat → Nat → Option Nat} {Q : Option Value → q_H → Prop} (hg : q_Gr n ln dr)
    (k1 : q_EX q_KD m 176 0 [.long (dl 74 0), .retAddr 0, .int 999] [] (n, sl, ln, di, dl, dr) (fun r1 h1 => q_EX q_KD (m + 1) 185 114 [.retAddr 0, .retAddr 0, .retAddr 0, .retAddr 0, .retAddr 0] (r1.toList ++ []) h1 Q)) : q_EX q_KD (m + 1) 185 102 [.ref 67, .retAddr 0, .retAddr 0, .retAddr 0, .retAddr 0] [] (n, sl, ln, di, dl, dr) Q := by
  refine (x_aload_n 102 i185_102 rfl ?_)
  refine (x_getR 103 74 i185_103 rfl (q_lt hg rfl) (Nat.le_of_ble_eq_true rfl) rfl (hg.2.2.1 67 23 74 rfl) ?_)
  refine (x_iconst 106 0 i185_106 rfl ?_)
  refine (x_laload 107 (dl 74 0) i185_107 rfl (q_lt hg rfl) (q_inE (hg.2.1 74 330 rfl) (q_vin rfl)) rfl ?_)
  refine (x_sipush 108 999 i185_108 rfl ?_)
  refine (xx_loc (ls := [.retAddr 0, .retAddr 0, .retAddr 0, .retAddr 0, .retAddr 0]) (ls' := [.ref 67, .retAddr 0, .retAddr 0, .retAddr 0, .retAddr 0]) ⟨Or.inr rfl, Or.inl rfl, Or.inl rfl, Or.inl rfl, Or.inl rfl, trivial⟩ ?_)
  exact (x_cs 111 (as := [.long (dl 74 0), .int 999]) (rs := []) i185_111 rfl rfl rfl rfl (Nat.le_of_ble_eq_true rfl) (Nat.le_of_ble_eq_true rfl) rfl rfl k1)

set_option maxRecDepth 20000 in
theorem g185_114 {d n sl : Nat} {ln : Nat → Nat} {di : Nat → Nat → Int32} {dl : Nat → Nat → Int64} {dr : Nat → Nat → Option Nat} {y0 : Int32} {Q : Option Value → q_H → Prop} (hg : q_Gr n ln dr)
    (k1 : Q (some (.int y0)) (n, sl, ln, di, dl, dr)) : q_EX q_KD d 185 114 [.retAddr 0, .retAddr 0, .retAddr 0, .retAddr 0, .retAddr 0] [.int y0] (n, sl, ln, di, dl, dr) Q := by
  exact (x_iretI 114 i185_114 rfl k1)

/-! SilentHouseModel.played -/
set_option maxRecDepth 20000 in
theorem g186_0 {m n sl : Nat} {ln : Nat → Nat} {di : Nat → Nat → Int32} {dl : Nat → Nat → Int64} {dr : Nat → Nat → Option Nat} {x1 : Int32} {Q : Option Value → q_H → Prop} (hg : q_Gr n ln dr)
    (k1 : q_EX q_KD m 118 0 [.int x1, .int 0, .int ((di 68 4) - (1 : Int32))] [] (n, sl, ln, di, dl, dr) (fun r1 h1 => q_EX q_KD (m + 1) 186 13 [.ref 67, .int x1, .retAddr 0] (r1.toList ++ []) h1 Q)) : q_EX q_KD (m + 1) 186 0 [.ref 67, .int x1, .retAddr 0] [] (n, sl, ln, di, dl, dr) Q := by
  refine (x_iload_n 0 i186_0 rfl ?_)
  refine (x_iconst 1 0 i186_1 rfl ?_)
  refine (x_aload_n 2 i186_2 rfl ?_)
  refine (x_getR 3 68 i186_3 rfl (q_lt hg rfl) (Nat.le_of_ble_eq_true rfl) rfl (hg.2.2.1 67 0 68 rfl) ?_)
  refine (x_iconst 6 4 i186_6 rfl ?_)
  refine (x_iaload 7 (di 68 4) i186_7 rfl (q_lt hg rfl) (q_inE (hg.2.1 68 706 rfl) (q_vin rfl)) rfl ?_)
  refine (x_iconst 8 1 i186_8 rfl ?_)
  refine (x_isub 9 i186_9 ?_)
  exact (x_cs 10 (as := [.int x1, .int 0, .int ((di 68 4) - (1 : Int32))]) (rs := []) i186_10 rfl rfl rfl rfl (Nat.le_of_ble_eq_true rfl) (Nat.le_of_ble_eq_true rfl) rfl rfl k1)

set_option maxRecDepth 20000 in
theorem g186_13 {d n sl : Nat} {ln : Nat → Nat} {di : Nat → Nat → Int32} {dl : Nat → Nat → Int64} {dr : Nat → Nat → Option Nat} {x1 : Int32} {y0 : Int32} {Q : Option Value → q_H → Prop} (hg : q_Gr n ln dr)
    (k2 : (¬ y0 = (0 : Int32)) → q_EX q_KD d 186 21 [.ref 67, .int x1, .int 0] [] (n, sl, ln, di, dl, dr) Q)
    (k3 : (y0 = (0 : Int32)) → Q (some (.int (-2))) (n, sl, ln, di, dl, dr)) : q_EX q_KD d 186 13 [.ref 67, .int x1, .retAddr 0] [.int y0] (n, sl, ln, di, dl, dr) Q := by
  refine (x_if_ne 13 19 i186_13 rfl (fun c1 => ?_) (fun c1 => ?_))
  · refine (x_iconst 19 0 i186_19 rfl ?_)
    exact (x_istore_n 20 (ls2 := [.ref 67, .int x1, .int 0]) i186_20 (Nat.le_of_ble_eq_true rfl) rfl (k2 c1))
  · refine (x_bipush 16 (-2) i186_16 rfl ?_)
    exact (x_iretI 18 i186_18 rfl (k3 c1))

set_option maxRecDepth 20000 in
theorem g186_21 {m n sl : Nat} {ln : Nat → Nat} {di : Nat → Nat → Int32} {dl : Nat → Nat → Int64} {dr : Nat → Nat → Option Nat} {x1 : Int32} {x2 : Int32} {Q : Option Value → q_H → Prop} (hg : q_Gr n ln dr)
    (s1 : vp_in ((680 : Int32) * x1) 2720)
    (k3 : ((di 70 (((680 : Int32) * x1).toNatClampNeg)) ≤ x2) → Q (some (.int (-1))) (n, sl, ln, di, dl, dr))
    (k4 : (x2 < (di 70 (((680 : Int32) * x1).toNatClampNeg))) → q_EX q_KD m 187 0 [.ref 67, .int ((((680 : Int32) * x1) + (1 : Int32)) + ((3 : Int32) * x2))] [] (n, sl, ln, di, dl, dr) (fun r1 h1 => q_EX q_KD (m + 1) 186 50 [.ref 67, .int x1, .int x2] (r1.toList ++ []) h1 Q)) : q_EX q_KD (m + 1) 186 21 [.ref 67, .int x1, .int x2] [] (n, sl, ln, di, dl, dr) Q := by
  refine (x_iload_n 21 i186_21 rfl ?_)
  refine (x_aload_n 22 i186_22 rfl ?_)
  refine (x_getR 23 70 i186_23 rfl (q_lt hg rfl) (Nat.le_of_ble_eq_true rfl) rfl (hg.2.2.1 67 2 70 rfl) ?_)
  refine (x_sipush 26 680 i186_26 rfl ?_)
  refine (x_iload_n 29 i186_29 rfl ?_)
  refine (x_imul 30 i186_30 ?_)
  refine (x_iaload 31 (di 70 (((680 : Int32) * x1).toNatClampNeg)) i186_31 rfl (q_lt hg rfl) (q_inE (hg.2.1 70 2720 rfl) s1) rfl ?_)
  refine (x_icmp_ge 32 61 i186_32 rfl (fun c2 => ?_) (fun c2 => ?_))
  · refine (x_iconst 61 (-1) i186_61 rfl ?_)
    exact (x_iretI 62 i186_62 rfl (k3 c2))
  · refine (x_aload_n 35 i186_35 rfl ?_)
    refine (x_sipush 36 680 i186_36 rfl ?_)
    refine (x_iload_n 39 i186_39 rfl ?_)
    refine (x_imul 40 i186_40 ?_)
    refine (x_iconst 41 1 i186_41 rfl ?_)
    refine (x_iadd 42 i186_42 ?_)
    refine (x_iconst 43 3 i186_43 rfl ?_)
    refine (x_iload_n 44 i186_44 rfl ?_)
    refine (x_imul 45 i186_45 ?_)
    refine (x_iadd 46 i186_46 ?_)
    exact (x_cv 47 (as := [.int ((((680 : Int32) * x1) + (1 : Int32)) + ((3 : Int32) * x2))]) (rs := []) i186_47 rfl rfl rfl rfl (Nat.le_of_ble_eq_true rfl) (q_lt hg rfl) rfl (Or.inr (Nat.le_of_ble_eq_true rfl)) (Nat.le_of_ble_eq_true rfl) rfl rfl (k4 c2))

set_option maxRecDepth 20000 in
theorem g186_50 {d n sl : Nat} {ln : Nat → Nat} {di : Nat → Nat → Int32} {dl : Nat → Nat → Int64} {dr : Nat → Nat → Option Nat} {x1 : Int32} {x2 : Int32} {y0 : Int32} {Q : Option Value → q_H → Prop} (hg : q_Gr n ln dr)
    (k2 : (¬ y0 = (0 : Int32)) → q_EX q_KD d 186 21 [.ref 67, .int x1, .int (x2 + 1)] [] (n, sl, ln, di, dl, dr) Q)
    (k3 : (y0 = (0 : Int32)) → Q (some (.int x2)) (n, sl, ln, di, dl, dr)) : q_EX q_KD d 186 50 [.ref 67, .int x1, .int x2] [.int y0] (n, sl, ln, di, dl, dr) Q := by
  refine (x_if_ne 50 55 i186_50 rfl (fun c1 => ?_) (fun c1 => ?_))
  · refine (x_iinc 55 (x2 + 1) (ls2 := [.ref 67, .int x1, .int (x2 + 1)]) i186_55 rfl (Nat.le_of_ble_eq_true rfl) rfl rfl ?_)
    exact (x_goto 58 21 i186_58 rfl (k2 c1))
  · refine (x_iload_n 53 i186_53 rfl ?_)
    exact (x_iretI 54 i186_54 rfl (k3 c1))

/-! SilentHouseModel.isPlayed -/
set_option maxRecDepth 20000 in
theorem g187_0 {m n sl : Nat} {ln : Nat → Nat} {di : Nat → Nat → Int32} {dl : Nat → Nat → Int64} {dr : Nat → Nat → Option Nat} {x1 : Int32} {Q : Option Value → q_H → Prop} (hg : q_Gr n ln dr)
    (s1 : vp_in x1 2720)
    (s3 : ((di 70 x1.toNatClampNeg) = 3) → vp_in (x1 + (1 : Int32)) 2720)
    (s4 : ((di 70 x1.toNatClampNeg) = 3) → vp_in (x1 + (2 : Int32)) 2720)
    (k5 : ((di 70 x1.toNatClampNeg) = 3) → q_EX q_KD m 178 0 [.ref 67, .int (di 70 ((x1 + (1 : Int32)).toNatClampNeg)), .int (di 70 ((x1 + (2 : Int32)).toNatClampNeg))] [] (n, sl, ln, di, dl, dr) (fun r1 h1 => q_EX q_KD (m + 1) 187 56 [.retAddr 0, .retAddr 0] (r1.toList ++ []) h1 Q))
    (s6 : ((di 70 x1.toNatClampNeg) = 4) → vp_in (x1 + (1 : Int32)) 2720)
    (k7 : ((di 70 x1.toNatClampNeg) = 4) → q_EX q_KD m 178 0 [.ref 67, .int (di 70 ((x1 + (1 : Int32)).toNatClampNeg)), .int (-1)] [] (n, sl, ln, di, dl, dr) (fun r1 h1 => q_EX q_KD (m + 1) 187 70 [.retAddr 0, .retAddr 0] (r1.toList ++ []) h1 Q))
    (s8 : ((di 70 x1.toNatClampNeg) = 5) → vp_in (x1 + (1 : Int32)) 2720)
    (k9 : ((di 70 x1.toNatClampNeg) = 5) → q_EX q_KD m 181 0 [.ref 67, .int (di 70 ((x1 + (1 : Int32)).toNatClampNeg)), .int 1] [] (n, sl, ln, di, dl, dr) (fun r1 h1 => q_EX q_KD (m + 1) 187 84 [.retAddr 0, .retAddr 0] (r1.toList ++ []) h1 Q))
    (k10 : ((di 70 x1.toNatClampNeg) = 6) → q_EX q_KD m 182 0 [.ref 67, .retAddr 0, .retAddr 0, .retAddr 0, .retAddr 0] [] (n, sl, ln, di, dl, dr) (fun r1 h1 => q_EX q_KD (m + 1) 187 89 [.retAddr 0, .retAddr 0] (r1.toList ++ []) h1 Q))
    (k15 : (¬ (di 70 x1.toNatClampNeg) = 3) → (¬ (di 70 x1.toNatClampNeg) = 4) → (¬ (di 70 x1.toNatClampNeg) = 5) → (¬ (di 70 x1.toNatClampNeg) = 6) → Q (some (.int 1)) (n, sl, ln, di, dl, dr)) : q_EX q_KD (m + 1) 187 0 [.ref 67, .int x1] [] (n, sl, ln, di, dl, dr) Q := by
  refine (x_aload_n 0 i187_0 rfl ?_)
  refine (x_getR 1 70 i187_1 rfl (q_lt hg rfl) (Nat.le_of_ble_eq_true rfl) rfl (hg.2.2.1 67 2 70 rfl) ?_)
  refine (x_iload_n 4 i187_4 rfl ?_)
  refine (x_iaload 5 (di 70 x1.toNatClampNeg) i187_5 rfl (q_lt hg rfl) (q_inE (hg.2.1 70 2720 rfl) s1) rfl ?_)
  exact (by
      by_cases hq : ((di 70 x1.toNatClampNeg)).toInt < 3 ∨ 6 < ((di 70 x1.toNatClampNeg)).toInt
      · exact x_tsw 6 98 rfl (Or.inl ⟨hq, rfl⟩) rfl ((fun c11 c12 c13 c14 => (x_iconst 98 1 i187_98 rfl (x_iret1 99 i187_99 rfl (k15 c11 c12 c13 c14)))) (fun e => by rw [e] at hq; revert hq; decide) (fun e => by rw [e] at hq; revert hq; decide) (fun e => by rw [e] at hq; revert hq; decide) (fun e => by rw [e] at hq; revert hq; decide))
      · have hv : ((di 70 x1.toNatClampNeg)).toInt = 3 ∨ ((di 70 x1.toNatClampNeg)).toInt = 4 ∨ ((di 70 x1.toNatClampNeg)).toInt = 5 ∨ ((di 70 x1.toNatClampNeg)).toInt = 6 := by omega
        rcases hv with hv | hv | hv | hv
        · exact x_tsw 6 (off := 30) 36 rfl (Or.inr ⟨by rw [hv]; decide, by rw [hv]; decide, by rw [hv]; decide +kernel⟩) rfl ((fun c2 => (x_aload_n 36 i187_36 rfl (x_aload_n 37 i187_37 rfl (x_getR 38 70 i187_38 rfl (q_lt hg rfl) (Nat.le_of_ble_eq_true rfl) rfl (hg.2.2.1 67 2 70 rfl) (x_iload_n 41 i187_41 rfl (x_iconst 42 1 i187_42 rfl (x_iadd 43 i187_43 (x_iaload 44 (di 70 ((x1 + (1 : Int32)).toNatClampNeg)) i187_44 rfl (q_lt hg rfl) (q_inE (hg.2.1 70 2720 rfl) (s3 c2)) rfl (x_aload_n 45 i187_45 rfl (x_getR 46 70 i187_46 rfl (q_lt hg rfl) (Nat.le_of_ble_eq_true rfl) rfl (hg.2.2.1 67 2 70 rfl) (x_iload_n 49 i187_49 rfl (x_iconst 50 2 i187_50 rfl (x_iadd 51 i187_51 (x_iaload 52 (di 70 ((x1 + (2 : Int32)).toNatClampNeg)) i187_52 rfl (q_lt hg rfl) (q_inE (hg.2.1 70 2720 rfl) (s4 c2)) rfl (xx_loc (ls := [.retAddr 0, .retAddr 0]) (ls' := [.ref 67, .int x1]) ⟨Or.inr rfl, Or.inr rfl, trivial⟩ (x_cv 53 (as := [.int (di 70 ((x1 + (1 : Int32)).toNatClampNeg)), .int (di 70 ((x1 + (2 : Int32)).toNatClampNeg))]) (rs := []) i187_53 rfl rfl rfl rfl (Nat.le_of_ble_eq_true rfl) (q_lt hg rfl) rfl (Or.inr (Nat.le_of_ble_eq_true rfl)) (Nat.le_of_ble_eq_true rfl) rfl rfl (k5 c2))))))))))))))))) (q_ofI hv rfl))
        · exact x_tsw 6 (off := 51) 57 rfl (Or.inr ⟨by rw [hv]; decide, by rw [hv]; decide, by rw [hv]; decide +kernel⟩) rfl ((fun c2 => (x_aload_n 57 i187_57 rfl (x_aload_n 58 i187_58 rfl (x_getR 59 70 i187_59 rfl (q_lt hg rfl) (Nat.le_of_ble_eq_true rfl) rfl (hg.2.2.1 67 2 70 rfl) (x_iload_n 62 i187_62 rfl (x_iconst 63 1 i187_63 rfl (x_iadd 64 i187_64 (x_iaload 65 (di 70 ((x1 + (1 : Int32)).toNatClampNeg)) i187_65 rfl (q_lt hg rfl) (q_inE (hg.2.1 70 2720 rfl) (s6 c2)) rfl (x_iconst 66 (-1) i187_66 rfl (xx_loc (ls := [.retAddr 0, .retAddr 0]) (ls' := [.ref 67, .int x1]) ⟨Or.inr rfl, Or.inr rfl, trivial⟩ (x_cv 67 (as := [.int (di 70 ((x1 + (1 : Int32)).toNatClampNeg)), .int (-1)]) (rs := []) i187_67 rfl rfl rfl rfl (Nat.le_of_ble_eq_true rfl) (q_lt hg rfl) rfl (Or.inr (Nat.le_of_ble_eq_true rfl)) (Nat.le_of_ble_eq_true rfl) rfl rfl (k7 c2)))))))))))) (q_ofI hv rfl))
        · exact x_tsw 6 (off := 65) 71 rfl (Or.inr ⟨by rw [hv]; decide, by rw [hv]; decide, by rw [hv]; decide +kernel⟩) rfl ((fun c2 => (x_aload_n 71 i187_71 rfl (x_aload_n 72 i187_72 rfl (x_getR 73 70 i187_73 rfl (q_lt hg rfl) (Nat.le_of_ble_eq_true rfl) rfl (hg.2.2.1 67 2 70 rfl) (x_iload_n 76 i187_76 rfl (x_iconst 77 1 i187_77 rfl (x_iadd 78 i187_78 (x_iaload 79 (di 70 ((x1 + (1 : Int32)).toNatClampNeg)) i187_79 rfl (q_lt hg rfl) (q_inE (hg.2.1 70 2720 rfl) (s8 c2)) rfl (x_iconst 80 1 i187_80 rfl (xx_loc (ls := [.retAddr 0, .retAddr 0]) (ls' := [.ref 67, .int x1]) ⟨Or.inr rfl, Or.inr rfl, trivial⟩ (x_cv 81 (as := [.int (di 70 ((x1 + (1 : Int32)).toNatClampNeg)), .int 1]) (rs := []) i187_81 rfl rfl rfl rfl (Nat.le_of_ble_eq_true rfl) (q_lt hg rfl) rfl (Or.inr (Nat.le_of_ble_eq_true rfl)) (Nat.le_of_ble_eq_true rfl) rfl rfl (k9 c2)))))))))))) (q_ofI hv rfl))
        · exact x_tsw 6 (off := 79) 85 rfl (Or.inr ⟨by rw [hv]; decide, by rw [hv]; decide, by rw [hv]; decide +kernel⟩) rfl ((fun c2 => (x_aload_n 85 i187_85 rfl (xx_loc (ls := [.retAddr 0, .retAddr 0]) (ls' := [.ref 67, .int x1]) ⟨Or.inr rfl, Or.inr rfl, trivial⟩ (x_cv 86 (as := []) (rs := []) i187_86 rfl rfl rfl rfl (Nat.le_of_ble_eq_true rfl) (q_lt hg rfl) rfl (Or.inr (Nat.le_of_ble_eq_true rfl)) (Nat.le_of_ble_eq_true rfl) rfl rfl (k10 c2))))) (q_ofI hv rfl)))

set_option maxRecDepth 20000 in
theorem g187_56 {d n sl : Nat} {ln : Nat → Nat} {di : Nat → Nat → Int32} {dl : Nat → Nat → Int64} {dr : Nat → Nat → Option Nat} {y0 : Int32} {Q : Option Value → q_H → Prop} (hg : q_Gr n ln dr)
    (s1 : narrow .boolean (.int y0) = .int y0)
    (k2 : Q (some (.int y0)) (n, sl, ln, di, dl, dr)) : q_EX q_KD d 187 56 [.retAddr 0, .retAddr 0] [.int y0] (n, sl, ln, di, dl, dr) Q := by
  exact (x_iret 56 i187_56 rfl s1 k2)

set_option maxRecDepth 20000 in
theorem g187_70 {d n sl : Nat} {ln : Nat → Nat} {di : Nat → Nat → Int32} {dl : Nat → Nat → Int64} {dr : Nat → Nat → Option Nat} {y0 : Int32} {Q : Option Value → q_H → Prop} (hg : q_Gr n ln dr)
    (s1 : narrow .boolean (.int y0) = .int y0)
    (k2 : Q (some (.int y0)) (n, sl, ln, di, dl, dr)) : q_EX q_KD d 187 70 [.retAddr 0, .retAddr 0] [.int y0] (n, sl, ln, di, dl, dr) Q := by
  exact (x_iret 70 i187_70 rfl s1 k2)

set_option maxRecDepth 20000 in
theorem g187_84 {d n sl : Nat} {ln : Nat → Nat} {di : Nat → Nat → Int32} {dl : Nat → Nat → Int64} {dr : Nat → Nat → Option Nat} {y0 : Int32} {Q : Option Value → q_H → Prop} (hg : q_Gr n ln dr)
    (s1 : narrow .boolean (.int y0) = .int y0)
    (k2 : Q (some (.int y0)) (n, sl, ln, di, dl, dr)) : q_EX q_KD d 187 84 [.retAddr 0, .retAddr 0] [.int y0] (n, sl, ln, di, dl, dr) Q := by
  exact (x_iret 84 i187_84 rfl s1 k2)

set_option maxRecDepth 20000 in
theorem g187_89 {d n sl : Nat} {ln : Nat → Nat} {di : Nat → Nat → Int32} {dl : Nat → Nat → Int64} {dr : Nat → Nat → Option Nat} {y0 : Int32} {Q : Option Value → q_H → Prop} (hg : q_Gr n ln dr)
    (k2 : (y0 < (0 : Int32)) → Q (some (.int 0)) (n, sl, ln, di, dl, dr))
    (k3 : ((0 : Int32) ≤ y0) → Q (some (.int 1)) (n, sl, ln, di, dl, dr)) : q_EX q_KD d 187 89 [.retAddr 0, .retAddr 0] [.int y0] (n, sl, ln, di, dl, dr) Q := by
  refine (x_if_lt 89 96 i187_89 rfl (fun c1 => ?_) (fun c1 => ?_))
  · refine (x_iconst 96 0 i187_96 rfl ?_)
    exact (x_iret0 97 i187_97 rfl (k2 c1))
  · refine (x_iconst 92 1 i187_92 rfl ?_)
    refine (x_goto 93 97 i187_93 rfl ?_)
    exact (x_iret1 97 i187_97 rfl (k3 c1))

/-! SilentHouseModel.of -/
set_option maxRecDepth 20000 in
theorem g188_0 {m n sl : Nat} {ln : Nat → Nat} {di : Nat → Nat → Int32} {dl : Nat → Nat → Int64} {dr : Nat → Nat → Option Nat} {x1 : Int32} {x2 : Int32} {Q : Option Value → q_H → Prop} (hg : q_Gr n ln dr)
    (k1 : q_EX q_KD m 160 0 [.ref 67, .int x1] [] (n, sl, ln, di, dl, dr) (fun r1 h1 => q_EX q_KD (m + 1) 188 5 [.ref 67, .int x1, .int x2] (r1.toList ++ []) h1 Q)) : q_EX q_KD (m + 1) 188 0 [.ref 67, .int x1, .int x2] [] (n, sl, ln, di, dl, dr) Q := by
  refine (x_aload_n 0 i188_0 rfl ?_)
  refine (x_iload_n 1 i188_1 rfl ?_)
  exact (x_cv 2 (as := [.int x1]) (rs := []) i188_2 rfl rfl rfl rfl (Nat.le_of_ble_eq_true rfl) (q_lt hg rfl) rfl (Or.inr (Nat.le_of_ble_eq_true rfl)) (Nat.le_of_ble_eq_true rfl) rfl rfl k1)

set_option maxRecDepth 20000 in
theorem g188_5 {m n sl : Nat} {ln : Nat → Nat} {di : Nat → Nat → Int32} {dl : Nat → Nat → Int64} {dr : Nat → Nat → Option Nat} {x1 : Int32} {x2 : Int32} {y0 : Int32} {Q : Option Value → q_H → Prop} (hg : q_Gr n ln dr)
    (k2 : (y0 = (0 : Int32)) → Q (some (.int (-2))) (n, sl, ln, di, dl, dr))
    (k3 : (¬ y0 = (0 : Int32)) → q_EX q_KD m 118 0 [.int x2, .int 0, .int 5] [] (n, sl, ln, di, dl, dr) (fun r1 h1 => q_EX q_KD (m + 1) 188 14 [.ref 67, .int x1, .int x2] (r1.toList ++ []) h1 Q)) : q_EX q_KD (m + 1) 188 5 [.ref 67, .int x1, .int x2] [.int y0] (n, sl, ln, di, dl, dr) Q := by
  refine (x_if_eq 5 17 i188_5 rfl (fun c1 => ?_) (fun c1 => ?_))
  · refine (x_bipush 17 (-2) i188_17 rfl ?_)
    exact (x_iretI 19 i188_19 rfl (k2 c1))
  · refine (x_iload_n 8 i188_8 rfl ?_)
    refine (x_iconst 9 0 i188_9 rfl ?_)
    refine (x_iconst 10 5 i188_10 rfl ?_)
    exact (x_cs 11 (as := [.int x2, .int 0, .int 5]) (rs := []) i188_11 rfl rfl rfl rfl (Nat.le_of_ble_eq_true rfl) (Nat.le_of_ble_eq_true rfl) rfl rfl (k3 c1))

set_option maxRecDepth 20000 in
theorem g188_14 {m n sl : Nat} {ln : Nat → Nat} {di : Nat → Nat → Int32} {dl : Nat → Nat → Int64} {dr : Nat → Nat → Option Nat} {x1 : Int32} {x2 : Int32} {y0 : Int32} {Q : Option Value → q_H → Prop} (hg : q_Gr n ln dr)
    (k3 : (¬ y0 = (0 : Int32)) → ((3 : Int32) ≤ x2) → q_EX q_KD m 161 0 [.ref 67, .int x1, .int (x2 - (3 : Int32))] [] (n, sl, ln, di, dl, dr) (fun r1 h1 => q_EX q_KD (m + 1) 188 44 [.retAddr 0, .retAddr 0, .retAddr 0] (r1.toList ++ []) h1 Q))
    (k4 : (¬ y0 = (0 : Int32)) → (x2 < (3 : Int32)) → q_EX q_KD m 161 0 [.ref 67, .int x1, .int ((3 : Int32) + x2)] [] (n, sl, ln, di, dl, dr) (fun r1 h1 => q_EX q_KD (m + 1) 188 33 [.retAddr 0, .retAddr 0, .retAddr 0] (r1.toList ++ []) h1 Q))
    (k5 : (y0 = (0 : Int32)) → Q (some (.int (-2))) (n, sl, ln, di, dl, dr)) : q_EX q_KD (m + 1) 188 14 [.ref 67, .int x1, .int x2] [.int y0] (n, sl, ln, di, dl, dr) Q := by
  refine (x_if_ne 14 20 i188_14 rfl (fun c1 => ?_) (fun c1 => ?_))
  · refine (x_iload_n 20 i188_20 rfl ?_)
    refine (x_iconst 21 3 i188_21 rfl ?_)
    refine (x_icmp_ge 22 36 i188_22 rfl (fun c2 => ?_) (fun c2 => ?_))
    · refine (x_aload_n 36 i188_36 rfl ?_)
      refine (x_iload_n 37 i188_37 rfl ?_)
      refine (x_iload_n 38 i188_38 rfl ?_)
      refine (x_iconst 39 3 i188_39 rfl ?_)
      refine (x_isub 40 i188_40 ?_)
      refine (xx_loc (ls := [.retAddr 0, .retAddr 0, .retAddr 0]) (ls' := [.ref 67, .int x1, .int x2]) ⟨Or.inr rfl, Or.inr rfl, Or.inr rfl, trivial⟩ ?_)
      exact (x_cv 41 (as := [.int x1, .int (x2 - (3 : Int32))]) (rs := []) i188_41 rfl rfl rfl rfl (Nat.le_of_ble_eq_true rfl) (q_lt hg rfl) rfl (Or.inr (Nat.le_of_ble_eq_true rfl)) (Nat.le_of_ble_eq_true rfl) rfl rfl (k3 c1 c2))
    · refine (x_aload_n 25 i188_25 rfl ?_)
      refine (x_iload_n 26 i188_26 rfl ?_)
      refine (x_iconst 27 3 i188_27 rfl ?_)
      refine (x_iload_n 28 i188_28 rfl ?_)
      refine (x_iadd 29 i188_29 ?_)
      refine (xx_loc (ls := [.retAddr 0, .retAddr 0, .retAddr 0]) (ls' := [.ref 67, .int x1, .int x2]) ⟨Or.inr rfl, Or.inr rfl, Or.inr rfl, trivial⟩ ?_)
      exact (x_cv 30 (as := [.int x1, .int ((3 : Int32) + x2)]) (rs := []) i188_30 rfl rfl rfl rfl (Nat.le_of_ble_eq_true rfl) (q_lt hg rfl) rfl (Or.inr (Nat.le_of_ble_eq_true rfl)) (Nat.le_of_ble_eq_true rfl) rfl rfl (k4 c1 c2))
  · refine (x_bipush 17 (-2) i188_17 rfl ?_)
    exact (x_iretI 19 i188_19 rfl (k5 c1))

set_option maxRecDepth 20000 in
theorem g188_44 {d n sl : Nat} {ln : Nat → Nat} {di : Nat → Nat → Int32} {dl : Nat → Nat → Int64} {dr : Nat → Nat → Option Nat} {y0 : Int32} {Q : Option Value → q_H → Prop} (hg : q_Gr n ln dr)
    (k1 : Q (some (.int y0)) (n, sl, ln, di, dl, dr)) : q_EX q_KD d 188 44 [.retAddr 0, .retAddr 0, .retAddr 0] [.int y0] (n, sl, ln, di, dl, dr) Q := by
  exact (x_iretI 44 i188_44 rfl k1)

set_option maxRecDepth 20000 in
theorem g188_33 {d n sl : Nat} {ln : Nat → Nat} {di : Nat → Nat → Int32} {dl : Nat → Nat → Int64} {dr : Nat → Nat → Option Nat} {y0 : Int32} {Q : Option Value → q_H → Prop} (hg : q_Gr n ln dr)
    (k1 : Q (some (.int y0)) (n, sl, ln, di, dl, dr)) : q_EX q_KD d 188 33 [.retAddr 0, .retAddr 0, .retAddr 0] [.int y0] (n, sl, ln, di, dl, dr) Q := by
  refine (x_goto 33 44 i188_33 rfl ?_)
  exact (x_iretI 44 i188_44 rfl k1)

/-! SilentHouseModel.all -/
set_option maxRecDepth 20000 in
theorem g189_0 {m n sl : Nat} {ln : Nat → Nat} {di : Nat → Nat → Int32} {dl : Nat → Nat → Int64} {dr : Nat → Nat → Option Nat} {x1 : Int32} {Q : Option Value → q_H → Prop} (hg : q_Gr n ln dr)
    (k1 : q_EX q_KD m 118 0 [.int x1, .int 0, .int 63] [] (n, sl, ln, di, dl, dr) (fun r1 h1 => q_EX q_KD (m + 1) 189 7 [.ref 67, .int x1] (r1.toList ++ []) h1 Q)) : q_EX q_KD (m + 1) 189 0 [.ref 67, .int x1] [] (n, sl, ln, di, dl, dr) Q := by
  refine (x_iload_n 0 i189_0 rfl ?_)
  refine (x_iconst 1 0 i189_1 rfl ?_)
  refine (x_bipush 2 63 i189_2 rfl ?_)
  exact (x_cs 4 (as := [.int x1, .int 0, .int 63]) (rs := []) i189_4 rfl rfl rfl rfl (Nat.le_of_ble_eq_true rfl) (Nat.le_of_ble_eq_true rfl) rfl rfl k1)

set_option maxRecDepth 20000 in
theorem g189_7 {m n sl : Nat} {ln : Nat → Nat} {di : Nat → Nat → Int32} {dl : Nat → Nat → Int64} {dr : Nat → Nat → Option Nat} {x1 : Int32} {y0 : Int32} {Q : Option Value → q_H → Prop} (hg : q_Gr n ln dr)
    (k2 : (¬ y0 = (0 : Int32)) → q_EX q_KD m 159 0 [.ref 67, .retAddr 0] [] (n, sl, ln, di, dl, dr) (fun r1 h1 => q_EX q_KD (m + 1) 189 16 [.ref 67, .int x1] (r1.toList ++ []) h1 Q))
    (k3 : (y0 = (0 : Int32)) → Q (some (.int (-1))) (n, sl, ln, di, dl, dr)) : q_EX q_KD (m + 1) 189 7 [.ref 67, .int x1] [.int y0] (n, sl, ln, di, dl, dr) Q := by
  refine (x_if_ne 7 12 i189_7 rfl (fun c1 => ?_) (fun c1 => ?_))
  · refine (x_aload_n 12 i189_12 rfl ?_)
    exact (x_cv 13 (as := []) (rs := []) i189_13 rfl rfl rfl rfl (Nat.le_of_ble_eq_true rfl) (q_lt hg rfl) rfl (Or.inr (Nat.le_of_ble_eq_true rfl)) (Nat.le_of_ble_eq_true rfl) rfl rfl (k2 c1))
  · refine (x_iconst 10 (-1) i189_10 rfl ?_)
    exact (x_iretI 11 i189_11 rfl (k3 c1))

set_option maxRecDepth 20000 in
theorem g189_16 {m n sl : Nat} {ln : Nat → Nat} {di : Nat → Nat → Int32} {dl : Nat → Nat → Int64} {dr : Nat → Nat → Option Nat} {x1 : Int32} {Q : Option Value → q_H → Prop} (hg : q_Gr n ln dr)
    (k1 : q_EX q_KD m 190 0 [.ref 67, .int x1, .retAddr 0, .retAddr 0] [] (n, sl, ln, di, dl, dr) (fun r1 h1 => q_EX q_KD (m + 1) 189 21 [.retAddr 0, .retAddr 0] (r1.toList ++ []) h1 Q)) : q_EX q_KD (m + 1) 189 16 [.ref 67, .int x1] [] (n, sl, ln, di, dl, dr) Q := by
  refine (x_aload_n 16 i189_16 rfl ?_)
  refine (x_iload_n 17 i189_17 rfl ?_)
  refine (xx_loc (ls := [.retAddr 0, .retAddr 0]) (ls' := [.ref 67, .int x1]) ⟨Or.inr rfl, Or.inr rfl, trivial⟩ ?_)
  exact (x_cv 18 (as := [.int x1]) (rs := []) i189_18 rfl rfl rfl rfl (Nat.le_of_ble_eq_true rfl) (q_lt hg rfl) rfl (Or.inr (Nat.le_of_ble_eq_true rfl)) (Nat.le_of_ble_eq_true rfl) rfl rfl k1)

set_option maxRecDepth 20000 in
theorem g189_21 {d n sl : Nat} {ln : Nat → Nat} {di : Nat → Nat → Int32} {dl : Nat → Nat → Int64} {dr : Nat → Nat → Option Nat} {y0 : Int32} {Q : Option Value → q_H → Prop} (hg : q_Gr n ln dr)
    (k1 : Q (some (.int y0)) (n, sl, ln, di, dl, dr)) : q_EX q_KD d 189 21 [.retAddr 0, .retAddr 0] [.int y0] (n, sl, ln, di, dl, dr) Q := by
  exact (x_iretI 21 i189_21 rfl k1)

/-! SilentHouseModel.allOf -/
set_option maxRecDepth 20000 in
theorem g190_0 {d n sl : Nat} {ln : Nat → Nat} {di : Nat → Nat → Int32} {dl : Nat → Nat → Int64} {dr : Nat → Nat → Option Nat} {x1 : Int32} {Q : Option Value → q_H → Prop} (hg : q_Gr n ln dr)
    (k1 : q_EX q_KD d 190 4 [.ref 67, .int x1, .int 0, .int 0] [] (n, sl, ln, di, dl, dr) Q) : q_EX q_KD d 190 0 [.ref 67, .int x1, .retAddr 0, .retAddr 0] [] (n, sl, ln, di, dl, dr) Q := by
  refine (x_iconst 0 0 i190_0 rfl ?_)
  refine (x_istore_n 1 (ls2 := [.ref 67, .int x1, .int 0, .retAddr 0]) i190_1 (Nat.le_of_ble_eq_true rfl) rfl ?_)
  refine (x_iconst 2 0 i190_2 rfl ?_)
  exact (x_istore_n 3 (ls2 := [.ref 67, .int x1, .int 0, .int 0]) i190_3 (Nat.le_of_ble_eq_true rfl) rfl k1)

set_option maxRecDepth 20000 in
theorem g190_4 {m n sl : Nat} {ln : Nat → Nat} {di : Nat → Nat → Int32} {dl : Nat → Nat → Int64} {dr : Nat → Nat → Option Nat} {x1 : Int32} {x2 : Int32} {x3 : Int32} {Q : Option Value → q_H → Prop} (hg : q_Gr n ln dr)
    (k2 : ((di 68 1) ≤ x3) → Q (some (.int x2)) (n, sl, ln, di, dl, dr))
    (k3 : (x3 < (di 68 1)) → q_EX q_KD m 162 0 [.ref 67, .int x3, .int x1] [] (n, sl, ln, di, dl, dr) (fun r1 h1 => q_EX q_KD (m + 1) 190 21 [.ref 67, .int x1, .retAddr 0, .int x3] (r1.toList ++ [.int x2]) h1 Q)) : q_EX q_KD (m + 1) 190 4 [.ref 67, .int x1, .int x2, .int x3] [] (n, sl, ln, di, dl, dr) Q := by
  refine (x_iload_n 4 i190_4 rfl ?_)
  refine (x_aload_n 5 i190_5 rfl ?_)
  refine (x_getR 6 68 i190_6 rfl (q_lt hg rfl) (Nat.le_of_ble_eq_true rfl) rfl (hg.2.2.1 67 0 68 rfl) ?_)
  refine (x_iconst 9 1 i190_9 rfl ?_)
  refine (x_iaload 10 (di 68 1) i190_10 rfl (q_lt hg rfl) (q_inE (hg.2.1 68 706 rfl) (q_vin rfl)) rfl ?_)
  refine (x_icmp_ge 11 29 i190_11 rfl (fun c1 => ?_) (fun c1 => ?_))
  · refine (x_iload_n 29 i190_29 rfl ?_)
    exact (x_iretI 30 i190_30 rfl (k2 c1))
  · refine (x_iload_n 14 i190_14 rfl ?_)
    refine (x_aload_n 15 i190_15 rfl ?_)
    refine (x_iload_n 16 i190_16 rfl ?_)
    refine (x_iload_n 17 i190_17 rfl ?_)
    refine (xx_loc (ls := [.ref 67, .int x1, .retAddr 0, .int x3]) (ls' := [.ref 67, .int x1, .int x2, .int x3]) ⟨Or.inl rfl, Or.inl rfl, Or.inr rfl, Or.inl rfl, trivial⟩ ?_)
    exact (x_cv 18 (as := [.int x3, .int x1]) (rs := [.int x2]) i190_18 rfl rfl rfl rfl (Nat.le_of_ble_eq_true rfl) (q_lt hg rfl) rfl (Or.inr (Nat.le_of_ble_eq_true rfl)) (Nat.le_of_ble_eq_true rfl) rfl rfl (k3 c1))

set_option maxRecDepth 20000 in
theorem g190_21 {d n sl : Nat} {ln : Nat → Nat} {di : Nat → Nat → Int32} {dl : Nat → Nat → Int64} {dr : Nat → Nat → Option Nat} {x1 : Int32} {x3 : Int32} {y0 : Int32} {y1 : Int32} {Q : Option Value → q_H → Prop} (hg : q_Gr n ln dr)
    (k1 : q_EX q_KD d 190 4 [.ref 67, .int x1, .int (y1 + y0), .int (x3 + 1)] [] (n, sl, ln, di, dl, dr) Q) : q_EX q_KD d 190 21 [.ref 67, .int x1, .retAddr 0, .int x3] [.int y0, .int y1] (n, sl, ln, di, dl, dr) Q := by
  refine (x_iadd 21 i190_21 ?_)
  refine (x_istore_n 22 (ls2 := [.ref 67, .int x1, .int (y1 + y0), .int x3]) i190_22 (Nat.le_of_ble_eq_true rfl) rfl ?_)
  refine (x_iinc 23 (x3 + 1) (ls2 := [.ref 67, .int x1, .int (y1 + y0), .int (x3 + 1)]) i190_23 rfl (Nat.le_of_ble_eq_true rfl) rfl rfl ?_)
  exact (x_goto 26 4 i190_26 rfl k1)

/-! SilentHouseModel.caused -/
set_option maxRecDepth 20000 in
theorem g191_0 {m n sl : Nat} {ln : Nat → Nat} {di : Nat → Nat → Int32} {dl : Nat → Nat → Int64} {dr : Nat → Nat → Option Nat} {x1 : Int32} {Q : Option Value → q_H → Prop} (hg : q_Gr n ln dr)
    (k1 : q_EX q_KD m 160 0 [.ref 67, .int x1] [] (n, sl, ln, di, dl, dr) (fun r1 h1 => q_EX q_KD (m + 1) 191 5 [.ref 67, .int x1] (r1.toList ++ []) h1 Q)) : q_EX q_KD (m + 1) 191 0 [.ref 67, .int x1] [] (n, sl, ln, di, dl, dr) Q := by
  refine (x_aload_n 0 i191_0 rfl ?_)
  refine (x_iload_n 1 i191_1 rfl ?_)
  exact (x_cv 2 (as := [.int x1]) (rs := []) i191_2 rfl rfl rfl rfl (Nat.le_of_ble_eq_true rfl) (q_lt hg rfl) rfl (Or.inr (Nat.le_of_ble_eq_true rfl)) (Nat.le_of_ble_eq_true rfl) rfl rfl k1)

set_option maxRecDepth 20000 in
theorem g191_5 {m n sl : Nat} {ln : Nat → Nat} {di : Nat → Nat → Int32} {dl : Nat → Nat → Int64} {dr : Nat → Nat → Option Nat} {x1 : Int32} {y0 : Int32} {Q : Option Value → q_H → Prop} (hg : q_Gr n ln dr)
    (k2 : (y0 = (0 : Int32)) → Q (some (.int (-1000))) (n, sl, ln, di, dl, dr))
    (k3 : (¬ y0 = (0 : Int32)) → q_EX q_KD m 161 0 [.ref 67, .int x1, .int 3] [] (n, sl, ln, di, dl, dr) (fun r1 h1 => q_EX q_KD (m + 1) 191 14 [.ref 67, .int x1] (r1.toList ++ []) h1 Q)) : q_EX q_KD (m + 1) 191 5 [.ref 67, .int x1] [.int y0] (n, sl, ln, di, dl, dr) Q := by
  refine (x_if_eq 5 17 i191_5 rfl (fun c1 => ?_) (fun c1 => ?_))
  · refine (x_sipush 17 (-1000) i191_17 rfl ?_)
    exact (x_iretI 20 i191_20 rfl (k2 c1))
  · refine (x_aload_n 8 i191_8 rfl ?_)
    refine (x_iload_n 9 i191_9 rfl ?_)
    refine (x_iconst 10 3 i191_10 rfl ?_)
    exact (x_cv 11 (as := [.int x1, .int 3]) (rs := []) i191_11 rfl rfl rfl rfl (Nat.le_of_ble_eq_true rfl) (q_lt hg rfl) rfl (Or.inr (Nat.le_of_ble_eq_true rfl)) (Nat.le_of_ble_eq_true rfl) rfl rfl (k3 c1))

set_option maxRecDepth 20000 in
theorem g191_14 {m n sl : Nat} {ln : Nat → Nat} {di : Nat → Nat → Int32} {dl : Nat → Nat → Int64} {dr : Nat → Nat → Option Nat} {x1 : Int32} {y0 : Int32} {Q : Option Value → q_H → Prop} (hg : q_Gr n ln dr)
    (k2 : ((0 : Int32) ≤ y0) → q_EX q_KD m 159 0 [.ref 67, .retAddr 0] [] (n, sl, ln, di, dl, dr) (fun r1 h1 => q_EX q_KD (m + 1) 191 25 [.ref 67, .int x1] (r1.toList ++ []) h1 Q))
    (k3 : (y0 < (0 : Int32)) → Q (some (.int (-1000))) (n, sl, ln, di, dl, dr)) : q_EX q_KD (m + 1) 191 14 [.ref 67, .int x1] [.int y0] (n, sl, ln, di, dl, dr) Q := by
  refine (x_if_ge 14 21 i191_14 rfl (fun c1 => ?_) (fun c1 => ?_))
  · refine (x_aload_n 21 i191_21 rfl ?_)
    exact (x_cv 22 (as := []) (rs := []) i191_22 rfl rfl rfl rfl (Nat.le_of_ble_eq_true rfl) (q_lt hg rfl) rfl (Or.inr (Nat.le_of_ble_eq_true rfl)) (Nat.le_of_ble_eq_true rfl) rfl rfl (k2 c1))
  · refine (x_sipush 17 (-1000) i191_17 rfl ?_)
    exact (x_iretI 20 i191_20 rfl (k3 c1))

set_option maxRecDepth 20000 in
theorem g191_25 {m n sl : Nat} {ln : Nat → Nat} {di : Nat → Nat → Int32} {dl : Nat → Nat → Int64} {dr : Nat → Nat → Option Nat} {x1 : Int32} {Q : Option Value → q_H → Prop} (hg : q_Gr n ln dr)
    (k1 : q_EX q_KD m 190 0 [.ref 67, .int 63, .retAddr 0, .retAddr 0] [] (n, sl, ln, di, dl, dr) (fun r1 h1 => q_EX q_KD (m + 1) 191 31 [.ref 67, .int x1] (r1.toList ++ []) h1 Q)) : q_EX q_KD (m + 1) 191 25 [.ref 67, .int x1] [] (n, sl, ln, di, dl, dr) Q := by
  refine (x_aload_n 25 i191_25 rfl ?_)
  refine (x_bipush 26 63 i191_26 rfl ?_)
  exact (x_cv 28 (as := [.int 63]) (rs := []) i191_28 rfl rfl rfl rfl (Nat.le_of_ble_eq_true rfl) (q_lt hg rfl) rfl (Or.inr (Nat.le_of_ble_eq_true rfl)) (Nat.le_of_ble_eq_true rfl) rfl rfl k1)

set_option maxRecDepth 20000 in
theorem g191_31 {m n sl : Nat} {ln : Nat → Nat} {di : Nat → Nat → Int32} {dl : Nat → Nat → Int64} {dr : Nat → Nat → Option Nat} {x1 : Int32} {y0 : Int32} {Q : Option Value → q_H → Prop} (hg : q_Gr n ln dr)
    (k1 : q_EX q_KD m 190 0 [.ref 67, .int ((63 : Int32) &&& (((1 : Int32) <<< (x1 &&& 31)) ^^^ (-1 : Int32))), .retAddr 0, .retAddr 0] [] (n, sl, ln, di, dl, dr) (fun r1 h1 => q_EX q_KD (m + 1) 191 43 [.retAddr 0, .retAddr 0] (r1.toList ++ [.int y0]) h1 Q)) : q_EX q_KD (m + 1) 191 31 [.ref 67, .int x1] [.int y0] (n, sl, ln, di, dl, dr) Q := by
  refine (x_aload_n 31 i191_31 rfl ?_)
  refine (x_bipush 32 63 i191_32 rfl ?_)
  refine (x_iconst 34 1 i191_34 rfl ?_)
  refine (x_iload_n 35 i191_35 rfl ?_)
  refine (x_ishl 36 i191_36 ?_)
  refine (x_iconst 37 (-1) i191_37 rfl ?_)
  refine (x_ixor 38 i191_38 ?_)
  refine (x_iand 39 i191_39 ?_)
  refine (xx_loc (ls := [.retAddr 0, .retAddr 0]) (ls' := [.ref 67, .int x1]) ⟨Or.inr rfl, Or.inr rfl, trivial⟩ ?_)
  exact (x_cv 40 (as := [.int ((63 : Int32) &&& (((1 : Int32) <<< (x1 &&& 31)) ^^^ (-1 : Int32)))]) (rs := [.int y0]) i191_40 rfl rfl rfl rfl (Nat.le_of_ble_eq_true rfl) (q_lt hg rfl) rfl (Or.inr (Nat.le_of_ble_eq_true rfl)) (Nat.le_of_ble_eq_true rfl) rfl rfl k1)

set_option maxRecDepth 20000 in
theorem g191_43 {d n sl : Nat} {ln : Nat → Nat} {di : Nat → Nat → Int32} {dl : Nat → Nat → Int64} {dr : Nat → Nat → Option Nat} {y0 : Int32} {y1 : Int32} {Q : Option Value → q_H → Prop} (hg : q_Gr n ln dr)
    (k1 : Q (some (.int (y1 - y0))) (n, sl, ln, di, dl, dr)) : q_EX q_KD d 191 43 [.retAddr 0, .retAddr 0] [.int y0, .int y1] (n, sl, ln, di, dl, dr) Q := by
  refine (x_isub 43 i191_43 ?_)
  exact (x_iretI 44 i191_44 rfl k1)

/-! SilentHouseModel.fair -/
set_option maxRecDepth 20000 in
theorem g192_0 {m n sl : Nat} {ln : Nat → Nat} {di : Nat → Nat → Int32} {dl : Nat → Nat → Int64} {dr : Nat → Nat → Option Nat} {x1 : Int32} {x2 : Int32} {Q : Option Value → q_H → Prop} (hg : q_Gr n ln dr)
    (k1 : q_EX q_KD m 160 0 [.ref 67, .int x1] [] (n, sl, ln, di, dl, dr) (fun r1 h1 => q_EX q_KD (m + 1) 192 5 [.ref 67, .int x1, .int x2, .retAddr 0, .retAddr 0, .retAddr 0, .retAddr 0] (r1.toList ++ []) h1 Q)) : q_EX q_KD (m + 1) 192 0 [.ref 67, .int x1, .int x2, .retAddr 0, .retAddr 0, .retAddr 0, .retAddr 0] [] (n, sl, ln, di, dl, dr) Q := by
  refine (x_aload_n 0 i192_0 rfl ?_)
  refine (x_iload_n 1 i192_1 rfl ?_)
  exact (x_cv 2 (as := [.int x1]) (rs := []) i192_2 rfl rfl rfl rfl (Nat.le_of_ble_eq_true rfl) (q_lt hg rfl) rfl (Or.inr (Nat.le_of_ble_eq_true rfl)) (Nat.le_of_ble_eq_true rfl) rfl rfl k1)

set_option maxRecDepth 20000 in
theorem g192_5 {m n sl : Nat} {ln : Nat → Nat} {di : Nat → Nat → Int32} {dl : Nat → Nat → Int64} {dr : Nat → Nat → Option Nat} {x1 : Int32} {x2 : Int32} {y0 : Int32} {Q : Option Value → q_H → Prop} (hg : q_Gr n ln dr)
    (k2 : (y0 = (0 : Int32)) → Q (some (.int (-1000000))) (n, sl, ln, di, dl, dr))
    (k3 : (¬ y0 = (0 : Int32)) → q_EX q_KD m 161 0 [.ref 67, .int x1, .int 3] [] (n, sl, ln, di, dl, dr) (fun r1 h1 => q_EX q_KD (m + 1) 192 14 [.ref 67, .int x1, .int x2, .retAddr 0, .retAddr 0, .retAddr 0, .retAddr 0] (r1.toList ++ []) h1 Q)) : q_EX q_KD (m + 1) 192 5 [.ref 67, .int x1, .int x2, .retAddr 0, .retAddr 0, .retAddr 0, .retAddr 0] [.int y0] (n, sl, ln, di, dl, dr) Q := by
  refine (x_if_eq 5 26 i192_5 rfl (fun c1 => ?_) (fun c1 => ?_))
  · refine (x_ldc_w 26 (-1000000) i192_26 rfl ?_)
    exact (x_iretI 29 i192_29 rfl (k2 c1))
  · refine (x_aload_n 8 i192_8 rfl ?_)
    refine (x_iload_n 9 i192_9 rfl ?_)
    refine (x_iconst 10 3 i192_10 rfl ?_)
    exact (x_cv 11 (as := [.int x1, .int 3]) (rs := []) i192_11 rfl rfl rfl rfl (Nat.le_of_ble_eq_true rfl) (q_lt hg rfl) rfl (Or.inr (Nat.le_of_ble_eq_true rfl)) (Nat.le_of_ble_eq_true rfl) rfl rfl (k3 c1))

set_option maxRecDepth 20000 in
theorem g192_14 {m n sl : Nat} {ln : Nat → Nat} {di : Nat → Nat → Int32} {dl : Nat → Nat → Int64} {dr : Nat → Nat → Option Nat} {x1 : Int32} {x2 : Int32} {y0 : Int32} {Q : Option Value → q_H → Prop} (hg : q_Gr n ln dr)
    (k2 : (y0 < (0 : Int32)) → Q (some (.int (-1000000))) (n, sl, ln, di, dl, dr))
    (k3 : ((0 : Int32) ≤ y0) → q_EX q_KD m 118 0 [.int x2, .int 0, .int 1] [] (n, sl, ln, di, dl, dr) (fun r1 h1 => q_EX q_KD (m + 1) 192 23 [.ref 67, .int x1, .int x2, .retAddr 0, .retAddr 0, .retAddr 0, .retAddr 0] (r1.toList ++ []) h1 Q)) : q_EX q_KD (m + 1) 192 14 [.ref 67, .int x1, .int x2, .retAddr 0, .retAddr 0, .retAddr 0, .retAddr 0] [.int y0] (n, sl, ln, di, dl, dr) Q := by
  refine (x_if_lt 14 26 i192_14 rfl (fun c1 => ?_) (fun c1 => ?_))
  · refine (x_ldc_w 26 (-1000000) i192_26 rfl ?_)
    exact (x_iretI 29 i192_29 rfl (k2 c1))
  · refine (x_iload_n 17 i192_17 rfl ?_)
    refine (x_iconst 18 0 i192_18 rfl ?_)
    refine (x_iconst 19 1 i192_19 rfl ?_)
    exact (x_cs 20 (as := [.int x2, .int 0, .int 1]) (rs := []) i192_20 rfl rfl rfl rfl (Nat.le_of_ble_eq_true rfl) (Nat.le_of_ble_eq_true rfl) rfl rfl (k3 c1))

set_option maxRecDepth 20000 in
theorem g192_23 {m n sl : Nat} {ln : Nat → Nat} {di : Nat → Nat → Int32} {dl : Nat → Nat → Int64} {dr : Nat → Nat → Option Nat} {x1 : Int32} {x2 : Int32} {y0 : Int32} {Q : Option Value → q_H → Prop} (hg : q_Gr n ln dr)
    (k2 : (¬ y0 = (0 : Int32)) → q_EX q_KD m 159 0 [.ref 67, .retAddr 0] [] (n, sl, ln, di, dl, dr) (fun r1 h1 => q_EX q_KD (m + 1) 192 34 [.ref 67, .int x1, .int x2, .retAddr 0, .retAddr 0, .retAddr 0, .retAddr 0] (r1.toList ++ []) h1 Q))
    (k3 : (y0 = (0 : Int32)) → Q (some (.int (-1000000))) (n, sl, ln, di, dl, dr)) : q_EX q_KD (m + 1) 192 23 [.ref 67, .int x1, .int x2, .retAddr 0, .retAddr 0, .retAddr 0, .retAddr 0] [.int y0] (n, sl, ln, di, dl, dr) Q := by
  refine (x_if_ne 23 30 i192_23 rfl (fun c1 => ?_) (fun c1 => ?_))
  · refine (x_aload_n 30 i192_30 rfl ?_)
    exact (x_cv 31 (as := []) (rs := []) i192_31 rfl rfl rfl rfl (Nat.le_of_ble_eq_true rfl) (q_lt hg rfl) rfl (Or.inr (Nat.le_of_ble_eq_true rfl)) (Nat.le_of_ble_eq_true rfl) rfl rfl (k2 c1))
  · refine (x_ldc_w 26 (-1000000) i192_26 rfl ?_)
    exact (x_iretI 29 i192_29 rfl (k3 c1))

set_option maxRecDepth 20000 in
theorem g192_34 {m n sl : Nat} {ln : Nat → Nat} {di : Nat → Nat → Int32} {dl : Nat → Nat → Int64} {dr : Nat → Nat → Option Nat} {x1 : Int32} {x2 : Int32} {Q : Option Value → q_H → Prop} (hg : q_Gr n ln dr)
    (k1 : q_EX q_KD m 183 0 [.ref 67, .retAddr 0, .retAddr 0] [] (n, sl, ln, di, dl, dr) (fun r1 h1 => q_EX q_KD (m + 1) 192 38 [.ref 67, .int x1, .int x2, .retAddr 0, .retAddr 0, .retAddr 0, .retAddr 0] (r1.toList ++ []) h1 Q)) : q_EX q_KD (m + 1) 192 34 [.ref 67, .int x1, .int x2, .retAddr 0, .retAddr 0, .retAddr 0, .retAddr 0] [] (n, sl, ln, di, dl, dr) Q := by
  refine (x_aload_n 34 i192_34 rfl ?_)
  exact (x_cv 35 (as := []) (rs := []) i192_35 rfl rfl rfl rfl (Nat.le_of_ble_eq_true rfl) (q_lt hg rfl) rfl (Or.inr (Nat.le_of_ble_eq_true rfl)) (Nat.le_of_ble_eq_true rfl) rfl rfl k1)

set_option maxRecDepth 20000 in
theorem g192_38 {m n sl : Nat} {ln : Nat → Nat} {di : Nat → Nat → Int32} {dl : Nat → Nat → Int64} {dr : Nat → Nat → Option Nat} {x1 : Int32} {x2 : Int32} {y0 : Int32} {Q : Option Value → q_H → Prop} (hg : q_Gr n ln dr)
    (k1 : q_EX q_KD m 170 0 [.int y0, .retAddr 0, .retAddr 0] [] (n, sl, ln, di, dl, dr) (fun r1 h1 => q_EX q_KD (m + 1) 192 43 [.ref 67, .int x1, .int x2, .int y0, .retAddr 0, .retAddr 0, .retAddr 0] (r1.toList ++ []) h1 Q)) : q_EX q_KD (m + 1) 192 38 [.ref 67, .int x1, .int x2, .retAddr 0, .retAddr 0, .retAddr 0, .retAddr 0] [.int y0] (n, sl, ln, di, dl, dr) Q := by
  refine (x_istore_n 38 (ls2 := [.ref 67, .int x1, .int x2, .int y0, .retAddr 0, .retAddr 0, .retAddr 0]) i192_38 (Nat.le_of_ble_eq_true rfl) rfl ?_)
  refine (x_iload_n 39 i192_39 rfl ?_)
  exact (x_cs 40 (as := [.int y0]) (rs := []) i192_40 rfl rfl rfl rfl (Nat.le_of_ble_eq_true rfl) (Nat.le_of_ble_eq_true rfl) rfl rfl k1)

set_option maxRecDepth 20000 in
theorem g192_43 {d n sl : Nat} {ln : Nat → Nat} {di : Nat → Nat → Int32} {dl : Nat → Nat → Int64} {dr : Nat → Nat → Option Nat} {x1 : Int32} {x2 : Int32} {x3 : Int32} {y0 : Int32} {Q : Option Value → q_H → Prop} (hg : q_Gr n ln dr)
    (k1 : q_EX q_KD d 192 48 [.ref 67, .int x1, .int x2, .int x3, .int y0, .int 0, .retAddr 0] [] (n, sl, ln, di, dl, dr) Q) : q_EX q_KD d 192 43 [.ref 67, .int x1, .int x2, .int x3, .retAddr 0, .retAddr 0, .retAddr 0] [.int y0] (n, sl, ln, di, dl, dr) Q := by
  refine (x_istore 43 (ls2 := [.ref 67, .int x1, .int x2, .int x3, .int y0, .retAddr 0, .retAddr 0]) i192_43 (Nat.le_of_ble_eq_true rfl) rfl ?_)
  refine (x_iconst 45 0 i192_45 rfl ?_)
  exact (x_istore 46 (ls2 := [.ref 67, .int x1, .int x2, .int x3, .int y0, .int 0, .retAddr 0]) i192_46 (Nat.le_of_ble_eq_true rfl) rfl k1)

set_option maxRecDepth 20000 in
theorem g192_48 {m n sl : Nat} {ln : Nat → Nat} {di : Nat → Nat → Int32} {dl : Nat → Nat → Int64} {dr : Nat → Nat → Option Nat} {x1 : Int32} {x2 : Int32} {x3 : Int32} {x4 : Int32} {x5 : Int32} {Q : Option Value → q_H → Prop} (hg : q_Gr n ln dr)
    (k2 : ((64 : Int32) ≤ x5) → q_EX q_KD (m + 1) 192 89 [.ref 67, .int x1, .int x2, .int x3, .int x4, .int 0, .int 0] [] (n, sl, ln, di, dl, dr) Q)
    (k4 : (x5 < (64 : Int32)) → (¬ (x5 &&& (x3 ^^^ (-1 : Int32))) = (0 : Int32)) → q_EX q_KD (m + 1) 192 48 [.ref 67, .int x1, .int x2, .int x3, .int x4, .int (x5 + 1), .retAddr 0] [] (n, sl, ln, di, dl, dr) Q)
    (k5 : (x5 < (64 : Int32)) → ((x5 &&& (x3 ^^^ (-1 : Int32))) = (0 : Int32)) → q_EX q_KD m 190 0 [.ref 67, .int x5, .retAddr 0, .retAddr 0] [] (n, sl, ln, di, dl, dr) (fun r1 h1 => q_EX q_KD (m + 1) 192 76 [.ref 67, .int x1, .int x2, .int x3, .int x4, .int x5, .retAddr 0] (r1.toList ++ [.int x5, .ref 79]) h1 Q)) : q_EX q_KD (m + 1) 192 48 [.ref 67, .int x1, .int x2, .int x3, .int x4, .int x5, .retAddr 0] [] (n, sl, ln, di, dl, dr) Q := by
  refine (x_iload 48 i192_48 rfl ?_)
  refine (x_bipush 50 64 i192_50 rfl ?_)
  refine (x_icmp_ge 52 83 i192_52 rfl (fun c1 => ?_) (fun c1 => ?_))
  · refine (x_iconst 83 0 i192_83 rfl ?_)
    refine (x_istore 84 (ls2 := [.ref 67, .int x1, .int x2, .int x3, .int x4, .int 0, .retAddr 0]) i192_84 (Nat.le_of_ble_eq_true rfl) rfl ?_)
    refine (x_iconst 86 0 i192_86 rfl ?_)
    exact (x_istore 87 (ls2 := [.ref 67, .int x1, .int x2, .int x3, .int x4, .int 0, .int 0]) i192_87 (Nat.le_of_ble_eq_true rfl) rfl (k2 c1))
  · refine (x_iload 55 i192_55 rfl ?_)
    refine (x_iload_n 57 i192_57 rfl ?_)
    refine (x_iconst 58 (-1) i192_58 rfl ?_)
    refine (x_ixor 59 i192_59 ?_)
    refine (x_iand 60 i192_60 ?_)
    refine (x_if_ne 61 77 i192_61 rfl (fun c3 => ?_) (fun c3 => ?_))
    · refine (x_iinc 77 (x5 + 1) (ls2 := [.ref 67, .int x1, .int x2, .int x3, .int x4, .int (x5 + 1), .retAddr 0]) i192_77 rfl (Nat.le_of_ble_eq_true rfl) rfl rfl ?_)
      exact (x_goto 80 48 i192_80 rfl (k4 c1 c3))
    · refine (x_aload_n 64 i192_64 rfl ?_)
      refine (x_getR 65 79 i192_65 rfl (q_lt hg rfl) (Nat.le_of_ble_eq_true rfl) rfl (hg.2.2.1 67 31 79 rfl) ?_)
      refine (x_iload 68 i192_68 rfl ?_)
      refine (x_aload_n 70 i192_70 rfl ?_)
      refine (x_iload 71 i192_71 rfl ?_)
      exact (x_cv 73 (as := [.int x5]) (rs := [.int x5, .ref 79]) i192_73 rfl rfl rfl rfl (Nat.le_of_ble_eq_true rfl) (q_lt hg rfl) rfl (Or.inr (Nat.le_of_ble_eq_true rfl)) (Nat.le_of_ble_eq_true rfl) rfl rfl (k5 c1 c3))

set_option maxRecDepth 20000 in
theorem g192_89 {m n sl : Nat} {ln : Nat → Nat} {di : Nat → Nat → Int32} {dl : Nat → Nat → Int64} {dr : Nat → Nat → Option Nat} {x1 : Int32} {x2 : Int32} {x3 : Int32} {x4 : Int32} {x5 : Int32} {x6 : Int32} {Q : Option Value → q_H → Prop} (hg : q_Gr n ln dr)
    (k2 : ((64 : Int32) ≤ x6) → q_EX q_KD m 193 0 [.int x4, .retAddr 0, .retAddr 0] [] (n, sl, ln, di, dl, dr) (fun r1 h1 => q_EX q_KD (m + 1) 192 175 [.retAddr 0, .retAddr 0, .int x2, .retAddr 0, .retAddr 0, .int x5, .retAddr 0] (r1.toList ++ []) h1 Q))
    (k4 : (x6 < (64 : Int32)) → (¬ (x6 &&& (x3 ^^^ (-1 : Int32))) = (0 : Int32)) → q_EX q_KD (m + 1) 192 89 [.ref 67, .int x1, .int x2, .int x3, .int x4, .int x5, .int (x6 + 1)] [] (n, sl, ln, di, dl, dr) Q)
    (k5 : (x6 < (64 : Int32)) → ((x6 &&& (x3 ^^^ (-1 : Int32))) = (0 : Int32)) → q_EX q_KD m 164 0 [.int x6, .int x1] [] (n, sl, ln, di, dl, dr) (fun r1 h1 => q_EX q_KD (m + 1) 192 111 [.ref 67, .int x1, .int x2, .int x3, .int x4, .int x5, .int x6] (r1.toList ++ []) h1 Q)) : q_EX q_KD (m + 1) 192 89 [.ref 67, .int x1, .int x2, .int x3, .int x4, .int x5, .int x6] [] (n, sl, ln, di, dl, dr) Q := by
  refine (x_iload 89 i192_89 rfl ?_)
  refine (x_bipush 91 64 i192_91 rfl ?_)
  refine (x_icmp_ge 93 170 i192_93 rfl (fun c1 => ?_) (fun c1 => ?_))
  · refine (x_iload 170 i192_170 rfl ?_)
    refine (xx_loc (ls := [.retAddr 0, .retAddr 0, .int x2, .retAddr 0, .retAddr 0, .int x5, .retAddr 0]) (ls' := [.ref 67, .int x1, .int x2, .int x3, .int x4, .int x5, .int x6]) ⟨Or.inr rfl, Or.inr rfl, Or.inl rfl, Or.inr rfl, Or.inr rfl, Or.inl rfl, Or.inr rfl, trivial⟩ ?_)
    exact (x_cs 172 (as := [.int x4]) (rs := []) i192_172 rfl rfl rfl rfl (Nat.le_of_ble_eq_true rfl) (Nat.le_of_ble_eq_true rfl) rfl rfl (k2 c1))
  · refine (x_iload 96 i192_96 rfl ?_)
    refine (x_iload_n 98 i192_98 rfl ?_)
    refine (x_iconst 99 (-1) i192_99 rfl ?_)
    refine (x_ixor 100 i192_100 ?_)
    refine (x_iand 101 i192_101 ?_)
    refine (x_if_ne 102 164 i192_102 rfl (fun c3 => ?_) (fun c3 => ?_))
    · refine (x_iinc 164 (x6 + 1) (ls2 := [.ref 67, .int x1, .int x2, .int x3, .int x4, .int x5, .int (x6 + 1)]) i192_164 rfl (Nat.le_of_ble_eq_true rfl) rfl rfl ?_)
      exact (x_goto 167 89 i192_167 rfl (k4 c1 c3))
    · refine (x_iload 105 i192_105 rfl ?_)
      refine (x_iload_n 107 i192_107 rfl ?_)
      exact (x_cs 108 (as := [.int x6, .int x1]) (rs := []) i192_108 rfl rfl rfl rfl (Nat.le_of_ble_eq_true rfl) (Nat.le_of_ble_eq_true rfl) rfl rfl (k5 c1 c3))

set_option maxRecDepth 20000 in
theorem g192_76 {d n sl : Nat} {ln : Nat → Nat} {di : Nat → Nat → Int32} {dl : Nat → Nat → Int64} {dr : Nat → Nat → Option Nat} {x1 : Int32} {x2 : Int32} {x3 : Int32} {x4 : Int32} {x5 : Int32} {y0 : Int32} {y1 : Int32} {Q : Option Value → q_H → Prop} (hg : q_Gr n ln dr)
    (s1 : vp_in y1 64)
    (k2 : q_EX q_KD d 192 48 [.ref 67, .int x1, .int x2, .int x3, .int x4, .int (x5 + 1), .retAddr 0] [] (n, sl, ln, (q_u di 79 y1.toNatClampNeg y0), dl, dr) Q) : q_EX q_KD d 192 76 [.ref 67, .int x1, .int x2, .int x3, .int x4, .int x5, .retAddr 0] [.int y0, .int y1, .ref 79] (n, sl, ln, di, dl, dr) Q := by
  refine (x_iastore 76 i192_76 rfl (Nat.le_of_ble_eq_true rfl) (q_lt hg rfl) (q_inE (hg.2.1 79 64 rfl) s1) ?_)
  refine (x_iinc 77 (x5 + 1) (ls2 := [.ref 67, .int x1, .int x2, .int x3, .int x4, .int (x5 + 1), .retAddr 0]) i192_77 rfl (Nat.le_of_ble_eq_true rfl) rfl rfl ?_)
  exact (x_goto 80 48 i192_80 rfl k2)

set_option maxRecDepth 20000 in
theorem g192_175 {m n sl : Nat} {ln : Nat → Nat} {di : Nat → Nat → Int32} {dl : Nat → Nat → Int64} {dr : Nat → Nat → Option Nat} {x2 : Int32} {x5 : Int32} {y0 : Int32} {Q : Option Value → q_H → Prop} (hg : q_Gr n ln dr)
    (k2 : (¬ x2 = (0 : Int32)) → q_EX q_KD m 194 0 [.int x5, .int y0, .retAddr 0, .retAddr 0, .retAddr 0] [] (n, sl, ln, di, dl, dr) (fun r1 h1 => q_EX q_KD (m + 1) 192 195 [.retAddr 0, .retAddr 0, .retAddr 0, .retAddr 0, .retAddr 0, .retAddr 0, .retAddr 0] (r1.toList ++ [.int y0]) h1 Q))
    (k3 : (x2 = (0 : Int32)) → q_EX q_KD m 194 0 [.int x5, .int y0, .retAddr 0, .retAddr 0, .retAddr 0] [] (n, sl, ln, di, dl, dr) (fun r1 h1 => q_EX q_KD (m + 1) 192 195 [.retAddr 0, .retAddr 0, .retAddr 0, .retAddr 0, .retAddr 0, .retAddr 0, .retAddr 0] (r1.toList ++ [.int x5]) h1 Q)) : q_EX q_KD (m + 1) 192 175 [.retAddr 0, .retAddr 0, .int x2, .retAddr 0, .retAddr 0, .int x5, .retAddr 0] [.int y0] (n, sl, ln, di, dl, dr) Q := by
  refine (x_istore 175 (ls2 := [.retAddr 0, .retAddr 0, .int x2, .retAddr 0, .retAddr 0, .int x5, .int y0]) i192_175 (Nat.le_of_ble_eq_true rfl) rfl ?_)
  refine (x_iload_n 177 i192_177 rfl ?_)
  refine (x_if_ne 178 186 i192_178 rfl (fun c1 => ?_) (fun c1 => ?_))
  · refine (x_iload 186 i192_186 rfl ?_)
    refine (x_iload 188 i192_188 rfl ?_)
    refine (x_iload 190 i192_190 rfl ?_)
    refine (xx_loc (ls := [.retAddr 0, .retAddr 0, .retAddr 0, .retAddr 0, .retAddr 0, .retAddr 0, .retAddr 0]) (ls' := [.retAddr 0, .retAddr 0, .int x2, .retAddr 0, .retAddr 0, .int x5, .int y0]) ⟨Or.inl rfl, Or.inl rfl, Or.inr rfl, Or.inl rfl, Or.inl rfl, Or.inr rfl, Or.inr rfl, trivial⟩ ?_)
    exact (x_cs 192 (as := [.int x5, .int y0]) (rs := [.int y0]) i192_192 rfl rfl rfl rfl (Nat.le_of_ble_eq_true rfl) (Nat.le_of_ble_eq_true rfl) rfl rfl (k2 c1))
  · refine (x_iload 181 i192_181 rfl ?_)
    refine (x_goto 183 188 i192_183 rfl ?_)
    refine (x_iload 188 i192_188 rfl ?_)
    refine (x_iload 190 i192_190 rfl ?_)
    refine (xx_loc (ls := [.retAddr 0, .retAddr 0, .retAddr 0, .retAddr 0, .retAddr 0, .retAddr 0, .retAddr 0]) (ls' := [.retAddr 0, .retAddr 0, .int x2, .retAddr 0, .retAddr 0, .int x5, .int y0]) ⟨Or.inl rfl, Or.inl rfl, Or.inr rfl, Or.inl rfl, Or.inl rfl, Or.inr rfl, Or.inr rfl, trivial⟩ ?_)
    exact (x_cs 192 (as := [.int x5, .int y0]) (rs := [.int x5]) i192_192 rfl rfl rfl rfl (Nat.le_of_ble_eq_true rfl) (Nat.le_of_ble_eq_true rfl) rfl rfl (k3 c1))

set_option maxRecDepth 20000 in
theorem g192_111 {m n sl : Nat} {ln : Nat → Nat} {di : Nat → Nat → Int32} {dl : Nat → Nat → Int64} {dr : Nat → Nat → Option Nat} {x1 : Int32} {x2 : Int32} {x3 : Int32} {x4 : Int32} {x5 : Int32} {x6 : Int32} {y0 : Int32} {Q : Option Value → q_H → Prop} (hg : q_Gr n ln dr)
    (k2 : (y0 = (0 : Int32)) → q_EX q_KD m 170 0 [.int x6, .retAddr 0, .retAddr 0] [] (n, sl, ln, di, dl, dr) (fun r1 h1 => q_EX q_KD (m + 1) 192 124 [.ref 67, .int x1, .int x2, .int x3, .int x4, .retAddr 0, .int x6] (r1.toList ++ [.int x5]) h1 Q))
    (k3 : (¬ y0 = (0 : Int32)) → q_EX q_KD (m + 1) 192 89 [.ref 67, .int x1, .int x2, .int x3, .int x4, .int x5, .int (x6 + 1)] [] (n, sl, ln, di, dl, dr) Q) : q_EX q_KD (m + 1) 192 111 [.ref 67, .int x1, .int x2, .int x3, .int x4, .int x5, .int x6] [.int y0] (n, sl, ln, di, dl, dr) Q := by
  refine (x_if_eq 111 117 i192_111 rfl (fun c1 => ?_) (fun c1 => ?_))
  · refine (x_iload 117 i192_117 rfl ?_)
    refine (x_iload 119 i192_119 rfl ?_)
    refine (xx_loc (ls := [.ref 67, .int x1, .int x2, .int x3, .int x4, .retAddr 0, .int x6]) (ls' := [.ref 67, .int x1, .int x2, .int x3, .int x4, .int x5, .int x6]) ⟨Or.inl rfl, Or.inl rfl, Or.inl rfl, Or.inl rfl, Or.inl rfl, Or.inr rfl, Or.inl rfl, trivial⟩ ?_)
    exact (x_cs 121 (as := [.int x6]) (rs := [.int x5]) i192_121 rfl rfl rfl rfl (Nat.le_of_ble_eq_true rfl) (Nat.le_of_ble_eq_true rfl) rfl rfl (k2 c1))
  · refine (x_goto 114 164 i192_114 rfl ?_)
    refine (x_iinc 164 (x6 + 1) (ls2 := [.ref 67, .int x1, .int x2, .int x3, .int x4, .int x5, .int (x6 + 1)]) i192_164 rfl (Nat.le_of_ble_eq_true rfl) rfl rfl ?_)
    exact (x_goto 167 89 i192_167 rfl (k3 c1))

set_option maxRecDepth 20000 in
theorem g192_195 {d n sl : Nat} {ln : Nat → Nat} {di : Nat → Nat → Int32} {dl : Nat → Nat → Int64} {dr : Nat → Nat → Option Nat} {y0 : Int32} {y1 : Int32} {Q : Option Value → q_H → Prop} (hg : q_Gr n ln dr)
    (s1 : ¬ y0 = 0)
    (k2 : Q (some (.int (y1 / y0))) (n, sl, ln, di, dl, dr)) : q_EX q_KD d 192 195 [.retAddr 0, .retAddr 0, .retAddr 0, .retAddr 0, .retAddr 0, .retAddr 0, .retAddr 0] [.int y0, .int y1] (n, sl, ln, di, dl, dr) Q := by
  refine (x_idiv 195 i192_195 s1 ?_)
  exact (x_iretI 196 i192_196 rfl k2)

set_option maxRecDepth 20000 in
theorem g192_124 {m n sl : Nat} {ln : Nat → Nat} {di : Nat → Nat → Int32} {dl : Nat → Nat → Int64} {dr : Nat → Nat → Option Nat} {x1 : Int32} {x2 : Int32} {x3 : Int32} {x4 : Int32} {x6 : Int32} {y0 : Int32} {y1 : Int32} {Q : Option Value → q_H → Prop} (hg : q_Gr n ln dr)
    (k1 : q_EX q_KD m 193 0 [.int y0, .retAddr 0, .retAddr 0] [] (n, sl, ln, di, dl, dr) (fun r1 h1 => q_EX q_KD (m + 1) 192 127 [.ref 67, .int x1, .int x2, .int x3, .int x4, .retAddr 0, .int x6] (r1.toList ++ [.int y1]) h1 Q)) : q_EX q_KD (m + 1) 192 124 [.ref 67, .int x1, .int x2, .int x3, .int x4, .retAddr 0, .int x6] [.int y0, .int y1] (n, sl, ln, di, dl, dr) Q := by
  exact (x_cs 124 (as := [.int y0]) (rs := [.int y1]) i192_124 rfl rfl rfl rfl (Nat.le_of_ble_eq_true rfl) (Nat.le_of_ble_eq_true rfl) rfl rfl k1)

set_option maxRecDepth 20000 in
theorem g192_127 {m n sl : Nat} {ln : Nat → Nat} {di : Nat → Nat → Int32} {dl : Nat → Nat → Int64} {dr : Nat → Nat → Option Nat} {x1 : Int32} {x2 : Int32} {x3 : Int32} {x4 : Int32} {x6 : Int32} {y0 : Int32} {y1 : Int32} {Q : Option Value → q_H → Prop} (hg : q_Gr n ln dr)
    (k1 : q_EX q_KD m 170 0 [.int x6, .retAddr 0, .retAddr 0] [] (n, sl, ln, di, dl, dr) (fun r1 h1 => q_EX q_KD (m + 1) 192 134 [.ref 67, .int x1, .int x2, .int x3, .int x4, .retAddr 0, .int x6] (r1.toList ++ [.int x4, .int y0, .int y1]) h1 Q)) : q_EX q_KD (m + 1) 192 127 [.ref 67, .int x1, .int x2, .int x3, .int x4, .retAddr 0, .int x6] [.int y0, .int y1] (n, sl, ln, di, dl, dr) Q := by
  refine (x_iload 127 i192_127 rfl ?_)
  refine (x_iload 129 i192_129 rfl ?_)
  exact (x_cs 131 (as := [.int x6]) (rs := [.int x4, .int y0, .int y1]) i192_131 rfl rfl rfl rfl (Nat.le_of_ble_eq_true rfl) (Nat.le_of_ble_eq_true rfl) rfl rfl k1)

set_option maxRecDepth 20000 in
theorem g192_134 {m n sl : Nat} {ln : Nat → Nat} {di : Nat → Nat → Int32} {dl : Nat → Nat → Int64} {dr : Nat → Nat → Option Nat} {x1 : Int32} {x2 : Int32} {x3 : Int32} {x4 : Int32} {x6 : Int32} {y0 : Int32} {y1 : Int32} {y2 : Int32} {y3 : Int32} {Q : Option Value → q_H → Prop} (hg : q_Gr n ln dr)
    (k1 : q_EX q_KD m 193 0 [.int ((y1 - y0) - (1 : Int32)), .retAddr 0, .retAddr 0] [] (n, sl, ln, di, dl, dr) (fun r1 h1 => q_EX q_KD (m + 1) 192 140 [.ref 67, .int x1, .int x2, .int x3, .int x4, .retAddr 0, .int x6] (r1.toList ++ [.int y2, .int y3]) h1 Q)) : q_EX q_KD (m + 1) 192 134 [.ref 67, .int x1, .int x2, .int x3, .int x4, .retAddr 0, .int x6] [.int y0, .int y1, .int y2, .int y3] (n, sl, ln, di, dl, dr) Q := by
  refine (x_isub 134 i192_134 ?_)
  refine (x_iconst 135 1 i192_135 rfl ?_)
  refine (x_isub 136 i192_136 ?_)
  exact (x_cs 137 (as := [.int ((y1 - y0) - (1 : Int32))]) (rs := [.int y2, .int y3]) i192_137 rfl rfl rfl rfl (Nat.le_of_ble_eq_true rfl) (Nat.le_of_ble_eq_true rfl) rfl rfl k1)

set_option maxRecDepth 20000 in
theorem g192_140 {d n sl : Nat} {ln : Nat → Nat} {di : Nat → Nat → Int32} {dl : Nat → Nat → Int64} {dr : Nat → Nat → Option Nat} {x1 : Int32} {x2 : Int32} {x3 : Int32} {x4 : Int32} {x6 : Int32} {y0 : Int32} {y1 : Int32} {y2 : Int32} {Q : Option Value → q_H → Prop} (hg : q_Gr n ln dr)
    (s1 : vp_in (x6 ||| ((1 : Int32) <<< (x1 &&& 31))) 64)
    (s2 : vp_in x6 64)
    (k3 : q_EX q_KD d 192 89 [.ref 67, .int x1, .int x2, .int x3, .int x4, .int (y2 + ((y1 * y0) * ((di 79 ((x6 ||| ((1 : Int32) <<< (x1 &&& 31))).toNatClampNeg)) - (di 79 x6.toNatClampNeg)))), .int (x6 + 1)] [] (n, sl, ln, di, dl, dr) Q) : q_EX q_KD d 192 140 [.ref 67, .int x1, .int x2, .int x3, .int x4, .retAddr 0, .int x6] [.int y0, .int y1, .int y2] (n, sl, ln, di, dl, dr) Q := by
  refine (x_imul 140 i192_140 ?_)
  refine (x_aload_n 141 i192_141 rfl ?_)
  refine (x_getR 142 79 i192_142 rfl (q_lt hg rfl) (Nat.le_of_ble_eq_true rfl) rfl (hg.2.2.1 67 31 79 rfl) ?_)
  refine (x_iload 145 i192_145 rfl ?_)
  refine (x_iconst 147 1 i192_147 rfl ?_)
  refine (x_iload_n 148 i192_148 rfl ?_)
  refine (x_ishl 149 i192_149 ?_)
  refine (x_ior 150 i192_150 ?_)
  refine (x_iaload 151 (di 79 ((x6 ||| ((1 : Int32) <<< (x1 &&& 31))).toNatClampNeg)) i192_151 rfl (q_lt hg rfl) (q_inE (hg.2.1 79 64 rfl) s1) rfl ?_)
  refine (x_aload_n 152 i192_152 rfl ?_)
  refine (x_getR 153 79 i192_153 rfl (q_lt hg rfl) (Nat.le_of_ble_eq_true rfl) rfl (hg.2.2.1 67 31 79 rfl) ?_)
  refine (x_iload 156 i192_156 rfl ?_)
  refine (x_iaload 158 (di 79 x6.toNatClampNeg) i192_158 rfl (q_lt hg rfl) (q_inE (hg.2.1 79 64 rfl) s2) rfl ?_)
  refine (x_isub 159 i192_159 ?_)
  refine (x_imul 160 i192_160 ?_)
  refine (x_iadd 161 i192_161 ?_)
  refine (x_istore 162 (ls2 := [.ref 67, .int x1, .int x2, .int x3, .int x4, .int (y2 + ((y1 * y0) * ((di 79 ((x6 ||| ((1 : Int32) <<< (x1 &&& 31))).toNatClampNeg)) - (di 79 x6.toNatClampNeg)))), .int x6]) i192_162 (Nat.le_of_ble_eq_true rfl) rfl ?_)
  refine (x_iinc 164 (x6 + 1) (ls2 := [.ref 67, .int x1, .int x2, .int x3, .int x4, .int (y2 + ((y1 * y0) * ((di 79 ((x6 ||| ((1 : Int32) <<< (x1 &&& 31))).toNatClampNeg)) - (di 79 x6.toNatClampNeg)))), .int (x6 + 1)]) i192_164 rfl (Nat.le_of_ble_eq_true rfl) rfl rfl ?_)
  exact (x_goto 167 89 i192_167 rfl k3)

/-! SilentHouseModel.orders -/
set_option maxRecDepth 20000 in
theorem g193_0 {d n sl : Nat} {ln : Nat → Nat} {di : Nat → Nat → Int32} {dl : Nat → Nat → Int64} {dr : Nat → Nat → Option Nat} {x0 : Int32} {Q : Option Value → q_H → Prop} (hg : q_Gr n ln dr)
    (k1 : q_EX q_KD d 193 4 [.int x0, .int 1, .int 2] [] (n, sl, ln, di, dl, dr) Q) : q_EX q_KD d 193 0 [.int x0, .retAddr 0, .retAddr 0] [] (n, sl, ln, di, dl, dr) Q := by
  refine (x_iconst 0 1 i193_0 rfl ?_)
  refine (x_istore_n 1 (ls2 := [.int x0, .int 1, .retAddr 0]) i193_1 (Nat.le_of_ble_eq_true rfl) rfl ?_)
  refine (x_iconst 2 2 i193_2 rfl ?_)
  exact (x_istore_n 3 (ls2 := [.int x0, .int 1, .int 2]) i193_3 (Nat.le_of_ble_eq_true rfl) rfl k1)

set_option maxRecDepth 20000 in
theorem g193_4 {d n sl : Nat} {ln : Nat → Nat} {di : Nat → Nat → Int32} {dl : Nat → Nat → Int64} {dr : Nat → Nat → Option Nat} {x0 : Int32} {x1 : Int32} {x2 : Int32} {Q : Option Value → q_H → Prop} (hg : q_Gr n ln dr)
    (k2 : (x0 < x2) → Q (some (.int x1)) (n, sl, ln, di, dl, dr))
    (k3 : (x2 ≤ x0) → q_EX q_KD d 193 4 [.int x0, .int (x1 * x2), .int (x2 + 1)] [] (n, sl, ln, di, dl, dr) Q) : q_EX q_KD d 193 4 [.int x0, .int x1, .int x2] [] (n, sl, ln, di, dl, dr) Q := by
  refine (x_iload_n 4 i193_4 rfl ?_)
  refine (x_iload_n 5 i193_5 rfl ?_)
  refine (x_icmp_gt 6 19 i193_6 rfl (fun c1 => ?_) (fun c1 => ?_))
  · refine (x_iload_n 19 i193_19 rfl ?_)
    exact (x_iretI 20 i193_20 rfl (k2 c1))
  · refine (x_iload_n 9 i193_9 rfl ?_)
    refine (x_iload_n 10 i193_10 rfl ?_)
    refine (x_imul 11 i193_11 ?_)
    refine (x_istore_n 12 (ls2 := [.int x0, .int (x1 * x2), .int x2]) i193_12 (Nat.le_of_ble_eq_true rfl) rfl ?_)
    refine (x_iinc 13 (x2 + 1) (ls2 := [.int x0, .int (x1 * x2), .int (x2 + 1)]) i193_13 rfl (Nat.le_of_ble_eq_true rfl) rfl rfl ?_)
    exact (x_goto 16 4 i193_16 rfl (k3 c1))

/-! SilentHouseModel.common -/
set_option maxRecDepth 20000 in
theorem g194_0 {d n sl : Nat} {ln : Nat → Nat} {di : Nat → Nat → Int32} {dl : Nat → Nat → Int64} {dr : Nat → Nat → Option Nat} {x0 : Int32} {x1 : Int32} {Q : Option Value → q_H → Prop} (hg : q_Gr n ln dr)
    (k2 : ((0 : Int32) ≤ x0) → q_EX q_KD d 194 13 [.retAddr 0, .retAddr 0, .int x0, .int x1, .retAddr 0] [] (n, sl, ln, di, dl, dr) Q)
    (k3 : (x0 < (0 : Int32)) → q_EX q_KD d 194 13 [.retAddr 0, .retAddr 0, .int (-x0), .int x1, .retAddr 0] [] (n, sl, ln, di, dl, dr) Q) : q_EX q_KD d 194 0 [.int x0, .int x1, .retAddr 0, .retAddr 0, .retAddr 0] [] (n, sl, ln, di, dl, dr) Q := by
  refine (x_iload_n 0 i194_0 rfl ?_)
  refine (x_if_ge 1 9 i194_1 rfl (fun c1 => ?_) (fun c1 => ?_))
  · refine (x_iload_n 9 i194_9 rfl ?_)
    refine (x_istore_n 10 (ls2 := [.int x0, .int x1, .int x0, .retAddr 0, .retAddr 0]) i194_10 (Nat.le_of_ble_eq_true rfl) rfl ?_)
    refine (x_iload_n 11 i194_11 rfl ?_)
    refine (x_istore_n 12 (ls2 := [.int x0, .int x1, .int x0, .int x1, .retAddr 0]) i194_12 (Nat.le_of_ble_eq_true rfl) rfl ?_)
    exact (xx_loc (ls := [.retAddr 0, .retAddr 0, .int x0, .int x1, .retAddr 0]) (ls' := [.int x0, .int x1, .int x0, .int x1, .retAddr 0]) ⟨Or.inr rfl, Or.inr rfl, Or.inl rfl, Or.inl rfl, Or.inl rfl, trivial⟩ (k2 c1))
  · refine (x_iload_n 4 i194_4 rfl ?_)
    refine (x_ineg 5 i194_5 ?_)
    refine (x_goto 6 10 i194_6 rfl ?_)
    refine (x_istore_n 10 (ls2 := [.int x0, .int x1, .int (-x0), .retAddr 0, .retAddr 0]) i194_10 (Nat.le_of_ble_eq_true rfl) rfl ?_)
    refine (x_iload_n 11 i194_11 rfl ?_)
    refine (x_istore_n 12 (ls2 := [.int x0, .int x1, .int (-x0), .int x1, .retAddr 0]) i194_12 (Nat.le_of_ble_eq_true rfl) rfl ?_)
    exact (xx_loc (ls := [.retAddr 0, .retAddr 0, .int (-x0), .int x1, .retAddr 0]) (ls' := [.int x0, .int x1, .int (-x0), .int x1, .retAddr 0]) ⟨Or.inr rfl, Or.inr rfl, Or.inl rfl, Or.inl rfl, Or.inl rfl, trivial⟩ (k3 c1))

set_option maxRecDepth 20000 in
theorem g194_13 {d n sl : Nat} {ln : Nat → Nat} {di : Nat → Nat → Int32} {dl : Nat → Nat → Int64} {dr : Nat → Nat → Option Nat} {x2 : Int32} {x3 : Int32} {Q : Option Value → q_H → Prop} (hg : q_Gr n ln dr)
    (k2 : (x3 = (0 : Int32)) → Q (some (.int x2)) (n, sl, ln, di, dl, dr))
    (s3 : (¬ x3 = (0 : Int32)) → ¬ x3 = 0)
    (k4 : (¬ x3 = (0 : Int32)) → q_EX q_KD d 194 13 [.retAddr 0, .retAddr 0, .int x3, .int (x2 - x2 / x3 * x3), .retAddr 0] [] (n, sl, ln, di, dl, dr) Q) : q_EX q_KD d 194 13 [.retAddr 0, .retAddr 0, .int x2, .int x3, .retAddr 0] [] (n, sl, ln, di, dl, dr) Q := by
  refine (x_iload_n 13 i194_13 rfl ?_)
  refine (x_if_eq 14 30 i194_14 rfl (fun c1 => ?_) (fun c1 => ?_))
  · refine (x_iload_n 30 i194_30 rfl ?_)
    exact (x_iretI 31 i194_31 rfl (k2 c1))
  · refine (x_iload_n 17 i194_17 rfl ?_)
    refine (x_iload_n 18 i194_18 rfl ?_)
    refine (x_irem 19 i194_19 (s3 c1) ?_)
    refine (x_istore 20 (ls2 := [.retAddr 0, .retAddr 0, .int x2, .int x3, .int (x2 - x2 / x3 * x3)]) i194_20 (Nat.le_of_ble_eq_true rfl) rfl ?_)
    refine (x_iload_n 22 i194_22 rfl ?_)
    refine (x_istore_n 23 (ls2 := [.retAddr 0, .retAddr 0, .int x3, .int x3, .int (x2 - x2 / x3 * x3)]) i194_23 (Nat.le_of_ble_eq_true rfl) rfl ?_)
    refine (x_iload 24 i194_24 rfl ?_)
    refine (x_istore_n 26 (ls2 := [.retAddr 0, .retAddr 0, .int x3, .int (x2 - x2 / x3 * x3), .int (x2 - x2 / x3 * x3)]) i194_26 (Nat.le_of_ble_eq_true rfl) rfl ?_)
    refine (x_goto 27 13 i194_27 rfl ?_)
    exact (xx_loc (ls := [.retAddr 0, .retAddr 0, .int x3, .int (x2 - x2 / x3 * x3), .retAddr 0]) (ls' := [.retAddr 0, .retAddr 0, .int x3, .int (x2 - x2 / x3 * x3), .int (x2 - x2 / x3 * x3)]) ⟨Or.inl rfl, Or.inl rfl, Or.inl rfl, Or.inl rfl, Or.inr rfl, trivial⟩ (k4 c1))

/-! SilentHouseModel.quietest -/
set_option maxRecDepth 20000 in
theorem g195_0 {m n sl : Nat} {ln : Nat → Nat} {di : Nat → Nat → Int32} {dl : Nat → Nat → Int64} {dr : Nat → Nat → Option Nat} {x1 : Int32} {Q : Option Value → q_H → Prop} (hg : q_Gr n ln dr)
    (k1 : q_EX q_KD m 118 0 [.int x1, .int (-1), .int 15] [] (n, sl, ln, di, dl, dr) (fun r1 h1 => q_EX q_KD (m + 1) 195 7 [.ref 67, .int x1, .retAddr 0, .retAddr 0, .retAddr 0, .retAddr 0] (r1.toList ++ []) h1 Q)) : q_EX q_KD (m + 1) 195 0 [.ref 67, .int x1, .retAddr 0, .retAddr 0, .retAddr 0, .retAddr 0] [] (n, sl, ln, di, dl, dr) Q := by
  refine (x_iload_n 0 i195_0 rfl ?_)
  refine (x_iconst 1 (-1) i195_1 rfl ?_)
  refine (x_bipush 2 15 i195_2 rfl ?_)
  exact (x_cs 4 (as := [.int x1, .int (-1), .int 15]) (rs := []) i195_4 rfl rfl rfl rfl (Nat.le_of_ble_eq_true rfl) (Nat.le_of_ble_eq_true rfl) rfl rfl k1)

set_option maxRecDepth 20000 in
theorem g195_7 {m n sl : Nat} {ln : Nat → Nat} {di : Nat → Nat → Int32} {dl : Nat → Nat → Int64} {dr : Nat → Nat → Option Nat} {x1 : Int32} {y0 : Int32} {Q : Option Value → q_H → Prop} (hg : q_Gr n ln dr)
    (k2 : (¬ y0 = (0 : Int32)) → q_EX q_KD m 159 0 [.ref 67, .retAddr 0] [] (n, sl, ln, di, dl, dr) (fun r1 h1 => q_EX q_KD (m + 1) 195 17 [.ref 67, .int x1, .retAddr 0, .retAddr 0, .retAddr 0, .retAddr 0] (r1.toList ++ []) h1 Q))
    (k3 : (y0 = (0 : Int32)) → Q (some (.int (-2))) (n, sl, ln, di, dl, dr)) : q_EX q_KD (m + 1) 195 7 [.ref 67, .int x1, .retAddr 0, .retAddr 0, .retAddr 0, .retAddr 0] [.int y0] (n, sl, ln, di, dl, dr) Q := by
  refine (x_if_ne 7 13 i195_7 rfl (fun c1 => ?_) (fun c1 => ?_))
  · refine (x_aload_n 13 i195_13 rfl ?_)
    exact (x_cv 14 (as := []) (rs := []) i195_14 rfl rfl rfl rfl (Nat.le_of_ble_eq_true rfl) (q_lt hg rfl) rfl (Or.inr (Nat.le_of_ble_eq_true rfl)) (Nat.le_of_ble_eq_true rfl) rfl rfl (k2 c1))
  · refine (x_bipush 10 (-2) i195_10 rfl ?_)
    exact (x_iretI 12 i195_12 rfl (k3 c1))

set_option maxRecDepth 20000 in
theorem g195_17 {m n sl : Nat} {ln : Nat → Nat} {di : Nat → Nat → Int32} {dl : Nat → Nat → Int64} {dr : Nat → Nat → Option Nat} {x1 : Int32} {Q : Option Value → q_H → Prop} (hg : q_Gr n ln dr)
    (k1 : q_EX q_KD m 196 0 [.ref 67, .retAddr 0, .retAddr 0] [] (n, sl, ln, di, dl, dr) (fun r1 h1 => q_EX q_KD (m + 1) 195 21 [.ref 67, .int x1, .retAddr 0, .retAddr 0, .retAddr 0, .retAddr 0] (r1.toList ++ []) h1 Q)) : q_EX q_KD (m + 1) 195 17 [.ref 67, .int x1, .retAddr 0, .retAddr 0, .retAddr 0, .retAddr 0] [] (n, sl, ln, di, dl, dr) Q := by
  refine (x_aload_n 17 i195_17 rfl ?_)
  exact (x_cv 18 (as := []) (rs := []) i195_18 rfl rfl rfl rfl (Nat.le_of_ble_eq_true rfl) (q_lt hg rfl) rfl (Or.inr (Nat.le_of_ble_eq_true rfl)) (Nat.le_of_ble_eq_true rfl) rfl rfl k1)

set_option maxRecDepth 20000 in
theorem g195_21 {d n sl : Nat} {ln : Nat → Nat} {di : Nat → Nat → Int32} {dl : Nat → Nat → Int64} {dr : Nat → Nat → Option Nat} {x1 : Int32} {Q : Option Value → q_H → Prop} (hg : q_Gr n ln dr)
    (k1 : q_EX q_KD d 195 27 [.ref 67, .int x1, .int 1000000, .int 1, .retAddr 0, .retAddr 0] [] (n, sl, ln, di, dl, dr) Q) : q_EX q_KD d 195 21 [.ref 67, .int x1, .retAddr 0, .retAddr 0, .retAddr 0, .retAddr 0] [] (n, sl, ln, di, dl, dr) Q := by
  refine (x_ldc_w 21 1000000 i195_21 rfl ?_)
  refine (x_istore_n 24 (ls2 := [.ref 67, .int x1, .int 1000000, .retAddr 0, .retAddr 0, .retAddr 0]) i195_24 (Nat.le_of_ble_eq_true rfl) rfl ?_)
  refine (x_iconst 25 1 i195_25 rfl ?_)
  exact (x_istore_n 26 (ls2 := [.ref 67, .int x1, .int 1000000, .int 1, .retAddr 0, .retAddr 0]) i195_26 (Nat.le_of_ble_eq_true rfl) rfl k1)

set_option maxRecDepth 20000 in
theorem g195_27 {d n sl : Nat} {ln : Nat → Nat} {di : Nat → Nat → Int32} {dl : Nat → Nat → Int64} {dr : Nat → Nat → Option Nat} {x1 : Int32} {x2 : Int32} {x3 : Int32} {Q : Option Value → q_H → Prop} (hg : q_Gr n ln dr)
    (k3 : (x3 = (0 : Int32)) → (¬ x1 = (-1 : Int32)) → q_EX q_KD d 195 135 [.ref 67, .int x1, .retAddr 0, .retAddr 0, .int 0, .retAddr 0] [] (n, sl, ln, di, dl, dr) Q)
    (k4 : (x3 = (0 : Int32)) → (x1 = (-1 : Int32)) → Q (some (.int x2)) (n, sl, ln, di, dl, dr))
    (k5 : (¬ x3 = (0 : Int32)) → q_EX q_KD d 195 34 [.ref 67, .int x1, .int x2, .retAddr 0, .int 0, .retAddr 0] [] (n, sl, ln, di, dl, dr) Q) : q_EX q_KD d 195 27 [.ref 67, .int x1, .int x2, .int x3, .retAddr 0, .retAddr 0] [] (n, sl, ln, di, dl, dr) Q := by
  refine (x_iload_n 27 i195_27 rfl ?_)
  refine (x_if_eq 28 125 i195_28 rfl (fun c1 => ?_) (fun c1 => ?_))
  · refine (x_iload_n 125 i195_125 rfl ?_)
    refine (x_iconst 126 (-1) i195_126 rfl ?_)
    refine (x_icmp_ne 127 132 i195_127 rfl (fun c2 => ?_) (fun c2 => ?_))
    · refine (x_iconst 132 0 i195_132 rfl ?_)
      refine (x_istore 133 (ls2 := [.ref 67, .int x1, .int x2, .int x3, .int 0, .retAddr 0]) i195_133 (Nat.le_of_ble_eq_true rfl) rfl ?_)
      exact (xx_loc (ls := [.ref 67, .int x1, .retAddr 0, .retAddr 0, .int 0, .retAddr 0]) (ls' := [.ref 67, .int x1, .int x2, .int x3, .int 0, .retAddr 0]) ⟨Or.inl rfl, Or.inl rfl, Or.inr rfl, Or.inr rfl, Or.inl rfl, Or.inl rfl, trivial⟩ (k3 c1 c2))
    · refine (x_iload_n 130 i195_130 rfl ?_)
      exact (x_iretI 131 i195_131 rfl (k4 c1 c2))
  · refine (x_iconst 31 0 i195_31 rfl ?_)
    refine (x_istore 32 (ls2 := [.ref 67, .int x1, .int x2, .int x3, .int 0, .retAddr 0]) i195_32 (Nat.le_of_ble_eq_true rfl) rfl ?_)
    exact (xx_loc (ls := [.ref 67, .int x1, .int x2, .retAddr 0, .int 0, .retAddr 0]) (ls' := [.ref 67, .int x1, .int x2, .int x3, .int 0, .retAddr 0]) ⟨Or.inl rfl, Or.inl rfl, Or.inl rfl, Or.inr rfl, Or.inl rfl, Or.inl rfl, trivial⟩ (k5 c1))

set_option maxRecDepth 20000 in
theorem g195_135 {d n sl : Nat} {ln : Nat → Nat} {di : Nat → Nat → Int32} {dl : Nat → Nat → Int64} {dr : Nat → Nat → Option Nat} {x1 : Int32} {x4 : Int32} {Q : Option Value → q_H → Prop} (hg : q_Gr n ln dr)
    (k2 : ((di 67 35) ≤ x4) → Q (some (.int (-1))) (n, sl, ln, di, dl, dr))
    (s3 : (x4 < (di 67 35)) → vp_in x4 6)
    (k5 : (x4 < (di 67 35)) → (¬ (di 80 x4.toNatClampNeg) = x1) → q_EX q_KD d 195 135 [.ref 67, .int x1, .retAddr 0, .retAddr 0, .int (x4 + 1), .retAddr 0] [] (n, sl, ln, di, dl, dr) Q)
    (s6 : (x4 < (di 67 35)) → ((di 80 x4.toNatClampNeg) = x1) → vp_in x4 6)
    (k7 : (x4 < (di 67 35)) → ((di 80 x4.toNatClampNeg) = x1) → Q (some (.int (di 82 x4.toNatClampNeg))) (n, sl, ln, di, dl, dr)) : q_EX q_KD d 195 135 [.ref 67, .int x1, .retAddr 0, .retAddr 0, .int x4, .retAddr 0] [] (n, sl, ln, di, dl, dr) Q := by
  refine (x_iload 135 i195_135 rfl ?_)
  refine (x_aload_n 137 i195_137 rfl ?_)
  refine (x_getI 138 35 (di 67 35) i195_138 rfl (q_lt hg rfl) (Nat.le_of_ble_eq_true rfl) (Or.inl rfl) rfl rfl ?_)
  refine (x_icmp_ge 141 169 i195_141 rfl (fun c1 => ?_) (fun c1 => ?_))
  · refine (x_iconst 169 (-1) i195_169 rfl ?_)
    exact (x_iretI 170 i195_170 rfl (k2 c1))
  · refine (x_aload_n 144 i195_144 rfl ?_)
    refine (x_getR 145 80 i195_145 rfl (q_lt hg rfl) (Nat.le_of_ble_eq_true rfl) rfl (hg.2.2.1 67 32 80 rfl) ?_)
    refine (x_iload 148 i195_148 rfl ?_)
    refine (x_iaload 150 (di 80 x4.toNatClampNeg) i195_150 rfl (q_lt hg rfl) (q_inE (hg.2.1 80 6 rfl) (s3 c1)) rfl ?_)
    refine (x_iload_n 151 i195_151 rfl ?_)
    refine (x_icmp_ne 152 163 i195_152 rfl (fun c4 => ?_) (fun c4 => ?_))
    · refine (x_iinc 163 (x4 + 1) (ls2 := [.ref 67, .int x1, .retAddr 0, .retAddr 0, .int (x4 + 1), .retAddr 0]) i195_163 rfl (Nat.le_of_ble_eq_true rfl) rfl rfl ?_)
      exact (x_goto 166 135 i195_166 rfl (k5 c1 c4))
    · refine (x_aload_n 155 i195_155 rfl ?_)
      refine (x_getR 156 82 i195_156 rfl (q_lt hg rfl) (Nat.le_of_ble_eq_true rfl) rfl (hg.2.2.1 67 34 82 rfl) ?_)
      refine (x_iload 159 i195_159 rfl ?_)
      refine (x_iaload 161 (di 82 x4.toNatClampNeg) i195_161 rfl (q_lt hg rfl) (q_inE (hg.2.1 82 6 rfl) (s6 c1 c4)) rfl ?_)
      exact (x_iretI 162 i195_162 rfl (k7 c1 c4))

set_option maxRecDepth 20000 in
theorem g195_34 {m n sl : Nat} {ln : Nat → Nat} {di : Nat → Nat → Int32} {dl : Nat → Nat → Int64} {dr : Nat → Nat → Option Nat} {x1 : Int32} {x2 : Int32} {x4 : Int32} {Q : Option Value → q_H → Prop} (hg : q_Gr n ln dr)
    (k2 : ((di 67 35) ≤ x4) → q_EX q_KD m 190 0 [.ref 67, .int 63, .retAddr 0, .retAddr 0] [] (n, sl, ln, di, dl, dr) (fun r1 h1 => q_EX q_KD (m + 1) 195 74 [.ref 67, .int x1, .int x2, .retAddr 0, .retAddr 0, .retAddr 0] (r1.toList ++ []) h1 Q))
    (s3 : (x4 < (di 67 35)) → vp_in x4 6)
    (s4 : (x4 < (di 67 35)) → vp_in x4 6)
    (s5 : (x4 < (di 67 35)) → vp_in (di 81 x4.toNatClampNeg) 6)
    (k6 : (x4 < (di 67 35)) → q_EX q_KD (m + 1) 195 34 [.ref 67, .int x1, .int x2, .retAddr 0, .int (x4 + 1), .retAddr 0] [] (n, sl, ln, (q_u di 76 ((di 81 x4.toNatClampNeg).toNatClampNeg) (di 80 x4.toNatClampNeg)), dl, dr) Q) : q_EX q_KD (m + 1) 195 34 [.ref 67, .int x1, .int x2, .retAddr 0, .int x4, .retAddr 0] [] (n, sl, ln, di, dl, dr) Q := by
  refine (x_iload 34 i195_34 rfl ?_)
  refine (x_aload_n 36 i195_36 rfl ?_)
  refine (x_getI 37 35 (di 67 35) i195_37 rfl (q_lt hg rfl) (Nat.le_of_ble_eq_true rfl) (Or.inl rfl) rfl rfl ?_)
  refine (x_icmp_ge 40 68 i195_40 rfl (fun c1 => ?_) (fun c1 => ?_))
  · refine (x_aload_n 68 i195_68 rfl ?_)
    refine (x_bipush 69 63 i195_69 rfl ?_)
    refine (xx_loc (ls := [.ref 67, .int x1, .int x2, .retAddr 0, .retAddr 0, .retAddr 0]) (ls' := [.ref 67, .int x1, .int x2, .retAddr 0, .int x4, .retAddr 0]) ⟨Or.inl rfl, Or.inl rfl, Or.inl rfl, Or.inl rfl, Or.inr rfl, Or.inl rfl, trivial⟩ ?_)
    exact (x_cv 71 (as := [.int 63]) (rs := []) i195_71 rfl rfl rfl rfl (Nat.le_of_ble_eq_true rfl) (q_lt hg rfl) rfl (Or.inr (Nat.le_of_ble_eq_true rfl)) (Nat.le_of_ble_eq_true rfl) rfl rfl (k2 c1))
  · refine (x_aload_n 43 i195_43 rfl ?_)
    refine (x_getR 44 76 i195_44 rfl (q_lt hg rfl) (Nat.le_of_ble_eq_true rfl) rfl (hg.2.2.1 67 25 76 rfl) ?_)
    refine (x_aload_n 47 i195_47 rfl ?_)
    refine (x_getR 48 81 i195_48 rfl (q_lt hg rfl) (Nat.le_of_ble_eq_true rfl) rfl (hg.2.2.1 67 33 81 rfl) ?_)
    refine (x_iload 51 i195_51 rfl ?_)
    refine (x_iaload 53 (di 81 x4.toNatClampNeg) i195_53 rfl (q_lt hg rfl) (q_inE (hg.2.1 81 6 rfl) (s3 c1)) rfl ?_)
    refine (x_aload_n 54 i195_54 rfl ?_)
    refine (x_getR 55 80 i195_55 rfl (q_lt hg rfl) (Nat.le_of_ble_eq_true rfl) rfl (hg.2.2.1 67 32 80 rfl) ?_)
    refine (x_iload 58 i195_58 rfl ?_)
    refine (x_iaload 60 (di 80 x4.toNatClampNeg) i195_60 rfl (q_lt hg rfl) (q_inE (hg.2.1 80 6 rfl) (s4 c1)) rfl ?_)
    refine (x_iastore 61 i195_61 rfl (Nat.le_of_ble_eq_true rfl) (q_lt hg rfl) (q_inE (hg.2.1 76 6 rfl) (s5 c1)) ?_)
    refine (x_iinc 62 (x4 + 1) (ls2 := [.ref 67, .int x1, .int x2, .retAddr 0, .int (x4 + 1), .retAddr 0]) i195_62 rfl (Nat.le_of_ble_eq_true rfl) rfl rfl ?_)
    exact (x_goto 65 34 i195_65 rfl (k6 c1))

set_option maxRecDepth 20000 in
theorem g195_74 {m n sl : Nat} {ln : Nat → Nat} {di : Nat → Nat → Int32} {dl : Nat → Nat → Int64} {dr : Nat → Nat → Option Nat} {x1 : Int32} {x2 : Int32} {y0 : Int32} {Q : Option Value → q_H → Prop} (hg : q_Gr n ln dr)
    (k2 : (x2 ≤ y0) → q_EX q_KD m 197 0 [.ref 67, .retAddr 0, .retAddr 0, .retAddr 0, .retAddr 0] [] (n, sl, ln, di, dl, dr) (fun r1 h1 => q_EX q_KD (m + 1) 195 121 [.ref 67, .int x1, .int x2, .retAddr 0, .retAddr 0, .retAddr 0] (r1.toList ++ []) h1 Q))
    (k3 : (y0 < x2) → q_EX q_KD (m + 1) 195 88 [.ref 67, .int x1, .int y0, .retAddr 0, .retAddr 0, .int 0] [] (n, sl, ln, di, dl, dr) Q) : q_EX q_KD (m + 1) 195 74 [.ref 67, .int x1, .int x2, .retAddr 0, .retAddr 0, .retAddr 0] [.int y0] (n, sl, ln, di, dl, dr) Q := by
  refine (x_istore 74 (ls2 := [.ref 67, .int x1, .int x2, .retAddr 0, .int y0, .retAddr 0]) i195_74 (Nat.le_of_ble_eq_true rfl) rfl ?_)
  refine (x_iload 76 i195_76 rfl ?_)
  refine (x_iload_n 78 i195_78 rfl ?_)
  refine (x_icmp_ge 79 117 i195_79 rfl (fun c1 => ?_) (fun c1 => ?_))
  · refine (x_aload_n 117 i195_117 rfl ?_)
    refine (xx_loc (ls := [.ref 67, .int x1, .int x2, .retAddr 0, .retAddr 0, .retAddr 0]) (ls' := [.ref 67, .int x1, .int x2, .retAddr 0, .int y0, .retAddr 0]) ⟨Or.inl rfl, Or.inl rfl, Or.inl rfl, Or.inl rfl, Or.inr rfl, Or.inl rfl, trivial⟩ ?_)
    exact (x_cv 118 (as := []) (rs := []) i195_118 rfl rfl rfl rfl (Nat.le_of_ble_eq_true rfl) (q_lt hg rfl) rfl (Or.inr (Nat.le_of_ble_eq_true rfl)) (Nat.le_of_ble_eq_true rfl) rfl rfl (k2 c1))
  · refine (x_iload 82 i195_82 rfl ?_)
    refine (x_istore_n 84 (ls2 := [.ref 67, .int x1, .int y0, .retAddr 0, .int y0, .retAddr 0]) i195_84 (Nat.le_of_ble_eq_true rfl) rfl ?_)
    refine (x_iconst 85 0 i195_85 rfl ?_)
    refine (x_istore 86 (ls2 := [.ref 67, .int x1, .int y0, .retAddr 0, .int y0, .int 0]) i195_86 (Nat.le_of_ble_eq_true rfl) rfl ?_)
    exact (xx_loc (ls := [.ref 67, .int x1, .int y0, .retAddr 0, .retAddr 0, .int 0]) (ls' := [.ref 67, .int x1, .int y0, .retAddr 0, .int y0, .int 0]) ⟨Or.inl rfl, Or.inl rfl, Or.inl rfl, Or.inl rfl, Or.inr rfl, Or.inl rfl, trivial⟩ (k3 c1))

set_option maxRecDepth 20000 in
theorem g195_88 {m n sl : Nat} {ln : Nat → Nat} {di : Nat → Nat → Int32} {dl : Nat → Nat → Int64} {dr : Nat → Nat → Option Nat} {x1 : Int32} {x2 : Int32} {x5 : Int32} {Q : Option Value → q_H → Prop} (hg : q_Gr n ln dr)
    (k2 : ((di 67 35) ≤ x5) → q_EX q_KD m 197 0 [.ref 67, .retAddr 0, .retAddr 0, .retAddr 0, .retAddr 0] [] (n, sl, ln, di, dl, dr) (fun r1 h1 => q_EX q_KD (m + 1) 195 121 [.ref 67, .int x1, .int x2, .retAddr 0, .retAddr 0, .retAddr 0] (r1.toList ++ []) h1 Q))
    (s3 : (x5 < (di 67 35)) → vp_in x5 6)
    (s4 : (x5 < (di 67 35)) → vp_in x5 6)
    (k5 : (x5 < (di 67 35)) → q_EX q_KD (m + 1) 195 88 [.ref 67, .int x1, .int x2, .retAddr 0, .retAddr 0, .int (x5 + 1)] [] (n, sl, ln, (q_u di 82 x5.toNatClampNeg (di 81 x5.toNatClampNeg)), dl, dr) Q) : q_EX q_KD (m + 1) 195 88 [.ref 67, .int x1, .int x2, .retAddr 0, .retAddr 0, .int x5] [] (n, sl, ln, di, dl, dr) Q := by
  refine (x_iload 88 i195_88 rfl ?_)
  refine (x_aload_n 90 i195_90 rfl ?_)
  refine (x_getI 91 35 (di 67 35) i195_91 rfl (q_lt hg rfl) (Nat.le_of_ble_eq_true rfl) (Or.inl rfl) rfl rfl ?_)
  refine (x_icmp_ge 94 117 i195_94 rfl (fun c1 => ?_) (fun c1 => ?_))
  · refine (x_aload_n 117 i195_117 rfl ?_)
    refine (xx_loc (ls := [.ref 67, .int x1, .int x2, .retAddr 0, .retAddr 0, .retAddr 0]) (ls' := [.ref 67, .int x1, .int x2, .retAddr 0, .retAddr 0, .int x5]) ⟨Or.inl rfl, Or.inl rfl, Or.inl rfl, Or.inl rfl, Or.inl rfl, Or.inr rfl, trivial⟩ ?_)
    exact (x_cv 118 (as := []) (rs := []) i195_118 rfl rfl rfl rfl (Nat.le_of_ble_eq_true rfl) (q_lt hg rfl) rfl (Or.inr (Nat.le_of_ble_eq_true rfl)) (Nat.le_of_ble_eq_true rfl) rfl rfl (k2 c1))
  · refine (x_aload_n 97 i195_97 rfl ?_)
    refine (x_getR 98 82 i195_98 rfl (q_lt hg rfl) (Nat.le_of_ble_eq_true rfl) rfl (hg.2.2.1 67 34 82 rfl) ?_)
    refine (x_iload 101 i195_101 rfl ?_)
    refine (x_aload_n 103 i195_103 rfl ?_)
    refine (x_getR 104 81 i195_104 rfl (q_lt hg rfl) (Nat.le_of_ble_eq_true rfl) rfl (hg.2.2.1 67 33 81 rfl) ?_)
    refine (x_iload 107 i195_107 rfl ?_)
    refine (x_iaload 109 (di 81 x5.toNatClampNeg) i195_109 rfl (q_lt hg rfl) (q_inE (hg.2.1 81 6 rfl) (s3 c1)) rfl ?_)
    refine (x_iastore 110 i195_110 rfl (Nat.le_of_ble_eq_true rfl) (q_lt hg rfl) (q_inE (hg.2.1 82 6 rfl) (s4 c1)) ?_)
    refine (x_iinc 111 (x5 + 1) (ls2 := [.ref 67, .int x1, .int x2, .retAddr 0, .retAddr 0, .int (x5 + 1)]) i195_111 rfl (Nat.le_of_ble_eq_true rfl) rfl rfl ?_)
    exact (x_goto 114 88 i195_114 rfl (k5 c1))

set_option maxRecDepth 20000 in
theorem g195_121 {d n sl : Nat} {ln : Nat → Nat} {di : Nat → Nat → Int32} {dl : Nat → Nat → Int64} {dr : Nat → Nat → Option Nat} {x1 : Int32} {x2 : Int32} {y0 : Int32} {Q : Option Value → q_H → Prop} (hg : q_Gr n ln dr)
    (k1 : q_EX q_KD d 195 27 [.ref 67, .int x1, .int x2, .int y0, .retAddr 0, .retAddr 0] [] (n, sl, ln, di, dl, dr) Q) : q_EX q_KD d 195 121 [.ref 67, .int x1, .int x2, .retAddr 0, .retAddr 0, .retAddr 0] [.int y0] (n, sl, ln, di, dl, dr) Q := by
  refine (x_istore_n 121 (ls2 := [.ref 67, .int x1, .int x2, .int y0, .retAddr 0, .retAddr 0]) i195_121 (Nat.le_of_ble_eq_true rfl) rfl ?_)
  exact (x_goto 122 27 i195_122 rfl k1)

/-! SilentHouseModel.firstRow -/
set_option maxRecDepth 20000 in
theorem g196_0 {d n sl : Nat} {ln : Nat → Nat} {di : Nat → Nat → Int32} {dl : Nat → Nat → Int64} {dr : Nat → Nat → Option Nat} {Q : Option Value → q_H → Prop} (hg : q_Gr n ln dr)
    (k1 : q_EX q_KD d 196 7 [.ref 67, .int 0, .retAddr 0] [] (n, sl, ln, (q_u di 67 35 0), dl, dr) Q) : q_EX q_KD d 196 0 [.ref 67, .retAddr 0, .retAddr 0] [] (n, sl, ln, di, dl, dr) Q := by
  refine (x_aload_n 0 i196_0 rfl ?_)
  refine (x_iconst 1 0 i196_1 rfl ?_)
  refine (x_putI 2 35 i196_2 rfl (Nat.le_of_ble_eq_true rfl) (q_lt hg rfl) rfl rfl ?_)
  refine (x_iconst 5 0 i196_5 rfl ?_)
  exact (x_istore_n 6 (ls2 := [.ref 67, .int 0, .retAddr 0]) i196_6 (Nat.le_of_ble_eq_true rfl) rfl k1)

set_option maxRecDepth 20000 in
theorem g196_7 {m n sl : Nat} {ln : Nat → Nat} {di : Nat → Nat → Int32} {dl : Nat → Nat → Int64} {dr : Nat → Nat → Option Nat} {x1 : Int32} {Q : Option Value → q_H → Prop} (hg : q_Gr n ln dr)
    (k2 : ((16 : Int32) ≤ x1) → q_EX q_KD (m + 1) 196 54 [.ref 67, .int 0, .int 0] [] (n, sl, ln, di, dl, dr) Q)
    (k3 : (x1 < (16 : Int32)) → q_EX q_KD m 179 0 [.ref 67, .int x1, .retAddr 0] [] (n, sl, ln, di, dl, dr) (fun r1 h1 => q_EX q_KD (m + 1) 196 18 [.ref 67, .int x1, .retAddr 0] (r1.toList ++ []) h1 Q)) : q_EX q_KD (m + 1) 196 7 [.ref 67, .int x1, .retAddr 0] [] (n, sl, ln, di, dl, dr) Q := by
  refine (x_iload_n 7 i196_7 rfl ?_)
  refine (x_bipush 8 16 i196_8 rfl ?_)
  refine (x_icmp_ge 10 50 i196_10 rfl (fun c1 => ?_) (fun c1 => ?_))
  · refine (x_iconst 50 0 i196_50 rfl ?_)
    refine (x_istore_n 51 (ls2 := [.ref 67, .int 0, .retAddr 0]) i196_51 (Nat.le_of_ble_eq_true rfl) rfl ?_)
    refine (x_iconst 52 0 i196_52 rfl ?_)
    exact (x_istore_n 53 (ls2 := [.ref 67, .int 0, .int 0]) i196_53 (Nat.le_of_ble_eq_true rfl) rfl (k2 c1))
  · refine (x_aload_n 13 i196_13 rfl ?_)
    refine (x_iload_n 14 i196_14 rfl ?_)
    exact (x_cv 15 (as := [.int x1]) (rs := []) i196_15 rfl rfl rfl rfl (Nat.le_of_ble_eq_true rfl) (q_lt hg rfl) rfl (Or.inr (Nat.le_of_ble_eq_true rfl)) (Nat.le_of_ble_eq_true rfl) rfl rfl (k3 c1))

set_option maxRecDepth 20000 in
theorem g196_54 {m n sl : Nat} {ln : Nat → Nat} {di : Nat → Nat → Int32} {dl : Nat → Nat → Int64} {dr : Nat → Nat → Option Nat} {x1 : Int32} {x2 : Int32} {Q : Option Value → q_H → Prop} (hg : q_Gr n ln dr)
    (k2 : ((di 68 0) ≤ x2) → Q none (n, sl, ln, di, dl, dr))
    (k3 : (x2 < (di 68 0)) → q_EX q_KD m 161 0 [.ref 67, .int x2, .int 3] [] (n, sl, ln, di, dl, dr) (fun r1 h1 => q_EX q_KD (m + 1) 196 70 [.ref 67, .int x1, .int x2] (r1.toList ++ []) h1 Q)) : q_EX q_KD (m + 1) 196 54 [.ref 67, .int x1, .int x2] [] (n, sl, ln, di, dl, dr) Q := by
  refine (x_iload_n 54 i196_54 rfl ?_)
  refine (x_aload_n 55 i196_55 rfl ?_)
  refine (x_getR 56 68 i196_56 rfl (q_lt hg rfl) (Nat.le_of_ble_eq_true rfl) rfl (hg.2.2.1 67 0 68 rfl) ?_)
  refine (x_iconst 59 0 i196_59 rfl ?_)
  refine (x_iaload 60 (di 68 0) i196_60 rfl (q_lt hg rfl) (q_inE (hg.2.1 68 706 rfl) (q_vin rfl)) rfl ?_)
  refine (x_icmp_ge 61 92 i196_61 rfl (fun c1 => ?_) (fun c1 => ?_))
  · exact (x_vret 92 i196_92 rfl (k2 c1))
  · refine (x_aload_n 64 i196_64 rfl ?_)
    refine (x_iload_n 65 i196_65 rfl ?_)
    refine (x_iconst 66 3 i196_66 rfl ?_)
    exact (x_cv 67 (as := [.int x2, .int 3]) (rs := []) i196_67 rfl rfl rfl rfl (Nat.le_of_ble_eq_true rfl) (q_lt hg rfl) rfl (Or.inr (Nat.le_of_ble_eq_true rfl)) (Nat.le_of_ble_eq_true rfl) rfl rfl (k3 c1))

set_option maxRecDepth 20000 in
theorem g196_18 {d n sl : Nat} {ln : Nat → Nat} {di : Nat → Nat → Int32} {dl : Nat → Nat → Int64} {dr : Nat → Nat → Option Nat} {x1 : Int32} {y0 : Int32} {Q : Option Value → q_H → Prop} (hg : q_Gr n ln dr)
    (s2 : ((0 : Int32) ≤ y0) → vp_in (di 67 35) 6)
    (k3 : ((0 : Int32) ≤ y0) → q_EX q_KD d 196 7 [.ref 67, .int (x1 + 1), .retAddr 0] [] (n, sl, ln, (q_u (q_u di 80 ((di 67 35).toNatClampNeg) x1) 67 35 ((di 67 35) + (1 : Int32))), dl, dr) Q)
    (k4 : (y0 < (0 : Int32)) → q_EX q_KD d 196 7 [.ref 67, .int (x1 + 1), .retAddr 0] [] (n, sl, ln, di, dl, dr) Q) : q_EX q_KD d 196 18 [.ref 67, .int x1, .retAddr 0] [.int y0] (n, sl, ln, di, dl, dr) Q := by
  refine (x_if_ge 18 24 i196_18 rfl (fun c1 => ?_) (fun c1 => ?_))
  · refine (x_aload_n 24 i196_24 rfl ?_)
    refine (x_getR 25 80 i196_25 rfl (q_lt hg rfl) (Nat.le_of_ble_eq_true rfl) rfl (hg.2.2.1 67 32 80 rfl) ?_)
    refine (x_aload_n 28 i196_28 rfl ?_)
    refine (x_getI 29 35 (di 67 35) i196_29 rfl (q_lt hg rfl) (Nat.le_of_ble_eq_true rfl) (Or.inl rfl) rfl rfl ?_)
    refine (x_iload_n 32 i196_32 rfl ?_)
    refine (x_iastore 33 i196_33 rfl (Nat.le_of_ble_eq_true rfl) (q_lt hg rfl) (q_inE (hg.2.1 80 6 rfl) (s2 c1)) ?_)
    refine (x_aload_n 34 i196_34 rfl ?_)
    refine (x_dup 35 i196_35 rfl ?_)
    refine (x_getI 36 35 (di 67 35) i196_36 rfl (q_lt hg rfl) (Nat.le_of_ble_eq_true rfl) (Or.inl rfl) rfl rfl ?_)
    refine (x_iconst 39 1 i196_39 rfl ?_)
    refine (x_iadd 40 i196_40 ?_)
    refine (x_putI 41 35 i196_41 rfl (Nat.le_of_ble_eq_true rfl) (q_lt hg rfl) rfl rfl ?_)
    refine (x_iinc 44 (x1 + 1) (ls2 := [.ref 67, .int (x1 + 1), .retAddr 0]) i196_44 rfl (Nat.le_of_ble_eq_true rfl) rfl rfl ?_)
    exact (x_goto 47 7 i196_47 rfl (k3 c1))
  · refine (x_goto 21 44 i196_21 rfl ?_)
    refine (x_iinc 44 (x1 + 1) (ls2 := [.ref 67, .int (x1 + 1), .retAddr 0]) i196_44 rfl (Nat.le_of_ble_eq_true rfl) rfl rfl ?_)
    exact (x_goto 47 7 i196_47 rfl (k4 c1))

set_option maxRecDepth 20000 in
theorem g196_70 {d n sl : Nat} {ln : Nat → Nat} {di : Nat → Nat → Int32} {dl : Nat → Nat → Int64} {dr : Nat → Nat → Option Nat} {x1 : Int32} {x2 : Int32} {y0 : Int32} {Q : Option Value → q_H → Prop} (hg : q_Gr n ln dr)
    (s2 : ((0 : Int32) ≤ y0) → vp_in x1 6)
    (k3 : ((0 : Int32) ≤ y0) → q_EX q_KD d 196 54 [.ref 67, .int (x1 + 1), .int (x2 + 1)] [] (n, sl, ln, (q_u di 81 x1.toNatClampNeg x2), dl, dr) Q)
    (k4 : (y0 < (0 : Int32)) → q_EX q_KD d 196 54 [.ref 67, .int x1, .int (x2 + 1)] [] (n, sl, ln, di, dl, dr) Q) : q_EX q_KD d 196 70 [.ref 67, .int x1, .int x2] [.int y0] (n, sl, ln, di, dl, dr) Q := by
  refine (x_if_ge 70 76 i196_70 rfl (fun c1 => ?_) (fun c1 => ?_))
  · refine (x_aload_n 76 i196_76 rfl ?_)
    refine (x_getR 77 81 i196_77 rfl (q_lt hg rfl) (Nat.le_of_ble_eq_true rfl) rfl (hg.2.2.1 67 33 81 rfl) ?_)
    refine (x_iload_n 80 i196_80 rfl ?_)
    refine (x_iload_n 81 i196_81 rfl ?_)
    refine (x_iastore 82 i196_82 rfl (Nat.le_of_ble_eq_true rfl) (q_lt hg rfl) (q_inE (hg.2.1 81 6 rfl) (s2 c1)) ?_)
    refine (x_iinc 83 (x1 + 1) (ls2 := [.ref 67, .int (x1 + 1), .int x2]) i196_83 rfl (Nat.le_of_ble_eq_true rfl) rfl rfl ?_)
    refine (x_iinc 86 (x2 + 1) (ls2 := [.ref 67, .int (x1 + 1), .int (x2 + 1)]) i196_86 rfl (Nat.le_of_ble_eq_true rfl) rfl rfl ?_)
    exact (x_goto 89 54 i196_89 rfl (k3 c1))
  · refine (x_goto 73 86 i196_73 rfl ?_)
    refine (x_iinc 86 (x2 + 1) (ls2 := [.ref 67, .int x1, .int (x2 + 1)]) i196_86 rfl (Nat.le_of_ble_eq_true rfl) rfl rfl ?_)
    exact (x_goto 89 54 i196_89 rfl (k4 c1))

/-! SilentHouseModel.nextRow -/
set_option maxRecDepth 20000 in
theorem g197_0 {d n sl : Nat} {ln : Nat → Nat} {di : Nat → Nat → Int32} {dl : Nat → Nat → Int64} {dr : Nat → Nat → Option Nat} {Q : Option Value → q_H → Prop} (hg : q_Gr n ln dr)
    (k1 : q_EX q_KD d 197 7 [.ref 67, .int ((di 67 35) - (2 : Int32)), .retAddr 0, .retAddr 0, .retAddr 0] [] (n, sl, ln, di, dl, dr) Q) : q_EX q_KD d 197 0 [.ref 67, .retAddr 0, .retAddr 0, .retAddr 0, .retAddr 0] [] (n, sl, ln, di, dl, dr) Q := by
  refine (x_aload_n 0 i197_0 rfl ?_)
  refine (x_getI 1 35 (di 67 35) i197_1 rfl (q_lt hg rfl) (Nat.le_of_ble_eq_true rfl) (Or.inl rfl) rfl rfl ?_)
  refine (x_iconst 4 2 i197_4 rfl ?_)
  refine (x_isub 5 i197_5 ?_)
  exact (x_istore_n 6 (ls2 := [.ref 67, .int ((di 67 35) - (2 : Int32)), .retAddr 0, .retAddr 0, .retAddr 0]) i197_6 (Nat.le_of_ble_eq_true rfl) rfl k1)

set_option maxRecDepth 20000 in
theorem g197_7 {d n sl : Nat} {ln : Nat → Nat} {di : Nat → Nat → Int32} {dl : Nat → Nat → Int64} {dr : Nat → Nat → Option Nat} {x1 : Int32} {Q : Option Value → q_H → Prop} (hg : q_Gr n ln dr)
    (k3 : (x1 < (0 : Int32)) → ((0 : Int32) ≤ x1) → q_EX q_KD d 197 47 [.ref 67, .int x1, .int ((di 67 35) - (1 : Int32)), .retAddr 0, .retAddr 0] [] (n, sl, ln, di, dl, dr) Q)
    (k4 : (x1 < (0 : Int32)) → (x1 < (0 : Int32)) → Q (some (.int 0)) (n, sl, ln, di, dl, dr))
    (s5 : ((0 : Int32) ≤ x1) → vp_in x1 6)
    (s6 : ((0 : Int32) ≤ x1) → vp_in (x1 + (1 : Int32)) 6)
    (k9 : ((0 : Int32) ≤ x1) → ((di 81 x1.toNatClampNeg) ≤ (di 81 ((x1 + (1 : Int32)).toNatClampNeg))) → ((0 : Int32) ≤ x1) → q_EX q_KD d 197 47 [.ref 67, .int x1, .int ((di 67 35) - (1 : Int32)), .retAddr 0, .retAddr 0] [] (n, sl, ln, di, dl, dr) Q)
    (k10 : ((0 : Int32) ≤ x1) → ((di 81 x1.toNatClampNeg) ≤ (di 81 ((x1 + (1 : Int32)).toNatClampNeg))) → (x1 < (0 : Int32)) → Q (some (.int 0)) (n, sl, ln, di, dl, dr))
    (k11 : ((0 : Int32) ≤ x1) → ((di 81 ((x1 + (1 : Int32)).toNatClampNeg)) < (di 81 x1.toNatClampNeg)) → q_EX q_KD d 197 7 [.ref 67, .int (x1 + (-1)), .retAddr 0, .retAddr 0, .retAddr 0] [] (n, sl, ln, di, dl, dr) Q) : q_EX q_KD d 197 7 [.ref 67, .int x1, .retAddr 0, .retAddr 0, .retAddr 0] [] (n, sl, ln, di, dl, dr) Q := by
  refine (x_iload_n 7 i197_7 rfl ?_)
  refine (x_if_lt 8 34 i197_8 rfl (fun c1 => ?_) (fun c1 => ?_))
  · refine (x_iload_n 34 i197_34 rfl ?_)
    refine (x_if_ge 35 40 i197_35 rfl (fun c2 => ?_) (fun c2 => ?_))
    · refine (x_aload_n 40 i197_40 rfl ?_)
      refine (x_getI 41 35 (di 67 35) i197_41 rfl (q_lt hg rfl) (Nat.le_of_ble_eq_true rfl) (Or.inl rfl) rfl rfl ?_)
      refine (x_iconst 44 1 i197_44 rfl ?_)
      refine (x_isub 45 i197_45 ?_)
      exact (x_istore_n 46 (ls2 := [.ref 67, .int x1, .int ((di 67 35) - (1 : Int32)), .retAddr 0, .retAddr 0]) i197_46 (Nat.le_of_ble_eq_true rfl) rfl (k3 c1 c2))
    · refine (x_iconst 38 0 i197_38 rfl ?_)
      exact (x_iret0 39 i197_39 rfl (k4 c1 c2))
  · refine (x_aload_n 11 i197_11 rfl ?_)
    refine (x_getR 12 81 i197_12 rfl (q_lt hg rfl) (Nat.le_of_ble_eq_true rfl) rfl (hg.2.2.1 67 33 81 rfl) ?_)
    refine (x_iload_n 15 i197_15 rfl ?_)
    refine (x_iaload 16 (di 81 x1.toNatClampNeg) i197_16 rfl (q_lt hg rfl) (q_inE (hg.2.1 81 6 rfl) (s5 c1)) rfl ?_)
    refine (x_aload_n 17 i197_17 rfl ?_)
    refine (x_getR 18 81 i197_18 rfl (q_lt hg rfl) (Nat.le_of_ble_eq_true rfl) rfl (hg.2.2.1 67 33 81 rfl) ?_)
    refine (x_iload_n 21 i197_21 rfl ?_)
    refine (x_iconst 22 1 i197_22 rfl ?_)
    refine (x_iadd 23 i197_23 ?_)
    refine (x_iaload 24 (di 81 ((x1 + (1 : Int32)).toNatClampNeg)) i197_24 rfl (q_lt hg rfl) (q_inE (hg.2.1 81 6 rfl) (s6 c1)) rfl ?_)
    refine (x_icmp_le 25 34 i197_25 rfl (fun c7 => ?_) (fun c7 => ?_))
    · refine (x_iload_n 34 i197_34 rfl ?_)
      refine (x_if_ge 35 40 i197_35 rfl (fun c8 => ?_) (fun c8 => ?_))
      · refine (x_aload_n 40 i197_40 rfl ?_)
        refine (x_getI 41 35 (di 67 35) i197_41 rfl (q_lt hg rfl) (Nat.le_of_ble_eq_true rfl) (Or.inl rfl) rfl rfl ?_)
        refine (x_iconst 44 1 i197_44 rfl ?_)
        refine (x_isub 45 i197_45 ?_)
        exact (x_istore_n 46 (ls2 := [.ref 67, .int x1, .int ((di 67 35) - (1 : Int32)), .retAddr 0, .retAddr 0]) i197_46 (Nat.le_of_ble_eq_true rfl) rfl (k9 c1 c7 c8))
      · refine (x_iconst 38 0 i197_38 rfl ?_)
        exact (x_iret0 39 i197_39 rfl (k10 c1 c7 c8))
    · refine (x_iinc 28 (x1 + (-1)) (ls2 := [.ref 67, .int (x1 + (-1)), .retAddr 0, .retAddr 0, .retAddr 0]) i197_28 rfl (Nat.le_of_ble_eq_true rfl) rfl rfl ?_)
      exact (x_goto 31 7 i197_31 rfl (k11 c1 c7))

set_option maxRecDepth 20000 in
theorem g197_47 {m n sl : Nat} {ln : Nat → Nat} {di : Nat → Nat → Int32} {dl : Nat → Nat → Int64} {dr : Nat → Nat → Option Nat} {x1 : Int32} {x2 : Int32} {Q : Option Value → q_H → Prop} (hg : q_Gr n ln dr)
    (s1 : vp_in x2 6)
    (s2 : vp_in x1 6)
    (k4 : ((di 81 x1.toNatClampNeg) ≤ (di 81 x2.toNatClampNeg)) → q_EX q_KD m 198 0 [.ref 67, .int x1, .int x2, .retAddr 0] [] (n, sl, ln, di, dl, dr) (fun r1 h1 => q_EX q_KD (m + 1) 197 74 [.ref 67, .int x1, .retAddr 0, .retAddr 0, .retAddr 0] (r1.toList ++ []) h1 Q))
    (k5 : ((di 81 x2.toNatClampNeg) < (di 81 x1.toNatClampNeg)) → q_EX q_KD (m + 1) 197 47 [.ref 67, .int x1, .int (x2 + (-1)), .retAddr 0, .retAddr 0] [] (n, sl, ln, di, dl, dr) Q) : q_EX q_KD (m + 1) 197 47 [.ref 67, .int x1, .int x2, .retAddr 0, .retAddr 0] [] (n, sl, ln, di, dl, dr) Q := by
  refine (x_aload_n 47 i197_47 rfl ?_)
  refine (x_getR 48 81 i197_48 rfl (q_lt hg rfl) (Nat.le_of_ble_eq_true rfl) rfl (hg.2.2.1 67 33 81 rfl) ?_)
  refine (x_iload_n 51 i197_51 rfl ?_)
  refine (x_iaload 52 (di 81 x2.toNatClampNeg) i197_52 rfl (q_lt hg rfl) (q_inE (hg.2.1 81 6 rfl) s1) rfl ?_)
  refine (x_aload_n 53 i197_53 rfl ?_)
  refine (x_getR 54 81 i197_54 rfl (q_lt hg rfl) (Nat.le_of_ble_eq_true rfl) rfl (hg.2.2.1 67 33 81 rfl) ?_)
  refine (x_iload_n 57 i197_57 rfl ?_)
  refine (x_iaload 58 (di 81 x1.toNatClampNeg) i197_58 rfl (q_lt hg rfl) (q_inE (hg.2.1 81 6 rfl) s2) rfl ?_)
  refine (x_icmp_ge 59 68 i197_59 rfl (fun c3 => ?_) (fun c3 => ?_))
  · refine (x_aload_n 68 i197_68 rfl ?_)
    refine (x_iload_n 69 i197_69 rfl ?_)
    refine (x_iload_n 70 i197_70 rfl ?_)
    refine (xx_loc (ls := [.ref 67, .int x1, .retAddr 0, .retAddr 0, .retAddr 0]) (ls' := [.ref 67, .int x1, .int x2, .retAddr 0, .retAddr 0]) ⟨Or.inl rfl, Or.inl rfl, Or.inr rfl, Or.inl rfl, Or.inl rfl, trivial⟩ ?_)
    exact (x_cv 71 (as := [.int x1, .int x2]) (rs := []) i197_71 rfl rfl rfl rfl (Nat.le_of_ble_eq_true rfl) (q_lt hg rfl) rfl (Or.inr (Nat.le_of_ble_eq_true rfl)) (Nat.le_of_ble_eq_true rfl) rfl rfl (k4 c3))
  · refine (x_iinc 62 (x2 + (-1)) (ls2 := [.ref 67, .int x1, .int (x2 + (-1)), .retAddr 0, .retAddr 0]) i197_62 rfl (Nat.le_of_ble_eq_true rfl) rfl rfl ?_)
    exact (x_goto 65 47 i197_65 rfl (k5 c3))

set_option maxRecDepth 20000 in
theorem g197_74 {d n sl : Nat} {ln : Nat → Nat} {di : Nat → Nat → Int32} {dl : Nat → Nat → Int64} {dr : Nat → Nat → Option Nat} {x1 : Int32} {Q : Option Value → q_H → Prop} (hg : q_Gr n ln dr)
    (k1 : q_EX q_KD d 197 86 [.ref 67, .retAddr 0, .retAddr 0, .int (x1 + (1 : Int32)), .int ((di 67 35) - (1 : Int32))] [] (n, sl, ln, di, dl, dr) Q) : q_EX q_KD d 197 74 [.ref 67, .int x1, .retAddr 0, .retAddr 0, .retAddr 0] [] (n, sl, ln, di, dl, dr) Q := by
  refine (x_iload_n 74 i197_74 rfl ?_)
  refine (x_iconst 75 1 i197_75 rfl ?_)
  refine (x_iadd 76 i197_76 ?_)
  refine (x_istore_n 77 (ls2 := [.ref 67, .int x1, .retAddr 0, .int (x1 + (1 : Int32)), .retAddr 0]) i197_77 (Nat.le_of_ble_eq_true rfl) rfl ?_)
  refine (x_aload_n 78 i197_78 rfl ?_)
  refine (x_getI 79 35 (di 67 35) i197_79 rfl (q_lt hg rfl) (Nat.le_of_ble_eq_true rfl) (Or.inl rfl) rfl rfl ?_)
  refine (x_iconst 82 1 i197_82 rfl ?_)
  refine (x_isub 83 i197_83 ?_)
  refine (x_istore 84 (ls2 := [.ref 67, .int x1, .retAddr 0, .int (x1 + (1 : Int32)), .int ((di 67 35) - (1 : Int32))]) i197_84 (Nat.le_of_ble_eq_true rfl) rfl ?_)
  exact (xx_loc (ls := [.ref 67, .retAddr 0, .retAddr 0, .int (x1 + (1 : Int32)), .int ((di 67 35) - (1 : Int32))]) (ls' := [.ref 67, .int x1, .retAddr 0, .int (x1 + (1 : Int32)), .int ((di 67 35) - (1 : Int32))]) ⟨Or.inl rfl, Or.inr rfl, Or.inl rfl, Or.inl rfl, Or.inl rfl, trivial⟩ k1)

set_option maxRecDepth 20000 in
theorem g197_86 {m n sl : Nat} {ln : Nat → Nat} {di : Nat → Nat → Int32} {dl : Nat → Nat → Int64} {dr : Nat → Nat → Option Nat} {x3 : Int32} {x4 : Int32} {Q : Option Value → q_H → Prop} (hg : q_Gr n ln dr)
    (k2 : (x4 ≤ x3) → Q (some (.int 1)) (n, sl, ln, di, dl, dr))
    (k3 : (x3 < x4) → q_EX q_KD m 198 0 [.ref 67, .int x3, .int x4, .retAddr 0] [] (n, sl, ln, di, dl, dr) (fun r1 h1 => q_EX q_KD (m + 1) 197 99 [.ref 67, .retAddr 0, .retAddr 0, .int x3, .int x4] (r1.toList ++ []) h1 Q)) : q_EX q_KD (m + 1) 197 86 [.ref 67, .retAddr 0, .retAddr 0, .int x3, .int x4] [] (n, sl, ln, di, dl, dr) Q := by
  refine (x_iload_n 86 i197_86 rfl ?_)
  refine (x_iload 87 i197_87 rfl ?_)
  refine (x_icmp_ge 89 108 i197_89 rfl (fun c1 => ?_) (fun c1 => ?_))
  · refine (x_iconst 108 1 i197_108 rfl ?_)
    exact (x_iret1 109 i197_109 rfl (k2 c1))
  · refine (x_aload_n 92 i197_92 rfl ?_)
    refine (x_iload_n 93 i197_93 rfl ?_)
    refine (x_iload 94 i197_94 rfl ?_)
    exact (x_cv 96 (as := [.int x3, .int x4]) (rs := []) i197_96 rfl rfl rfl rfl (Nat.le_of_ble_eq_true rfl) (q_lt hg rfl) rfl (Or.inr (Nat.le_of_ble_eq_true rfl)) (Nat.le_of_ble_eq_true rfl) rfl rfl (k3 c1))

set_option maxRecDepth 20000 in
theorem g197_99 {d n sl : Nat} {ln : Nat → Nat} {di : Nat → Nat → Int32} {dl : Nat → Nat → Int64} {dr : Nat → Nat → Option Nat} {x3 : Int32} {x4 : Int32} {Q : Option Value → q_H → Prop} (hg : q_Gr n ln dr)
    (k1 : q_EX q_KD d 197 86 [.ref 67, .retAddr 0, .retAddr 0, .int (x3 + 1), .int (x4 + (-1))] [] (n, sl, ln, di, dl, dr) Q) : q_EX q_KD d 197 99 [.ref 67, .retAddr 0, .retAddr 0, .int x3, .int x4] [] (n, sl, ln, di, dl, dr) Q := by
  refine (x_iinc 99 (x3 + 1) (ls2 := [.ref 67, .retAddr 0, .retAddr 0, .int (x3 + 1), .int x4]) i197_99 rfl (Nat.le_of_ble_eq_true rfl) rfl rfl ?_)
  refine (x_iinc 102 (x4 + (-1)) (ls2 := [.ref 67, .retAddr 0, .retAddr 0, .int (x3 + 1), .int (x4 + (-1))]) i197_102 rfl (Nat.le_of_ble_eq_true rfl) rfl rfl ?_)
  exact (x_goto 105 86 i197_105 rfl k1)

/-! SilentHouseModel.exchange -/
set_option maxRecDepth 20000 in
theorem g198_0 {d n sl : Nat} {ln : Nat → Nat} {di : Nat → Nat → Int32} {dl : Nat → Nat → Int64} {dr : Nat → Nat → Option Nat} {x1 : Int32} {x2 : Int32} {Q : Option Value → q_H → Prop} (hg : q_Gr n ln dr)
    (s1 : vp_in x1 6)
    (s2 : vp_in x2 6)
    (s3 : vp_in x1 6)
    (s4 : vp_in x2 6)
    (k5 : Q none (n, sl, ln, (q_u (q_u di 81 x1.toNatClampNeg (di 81 x2.toNatClampNeg)) 81 x2.toNatClampNeg (di 81 x1.toNatClampNeg)), dl, dr)) : q_EX q_KD d 198 0 [.ref 67, .int x1, .int x2, .retAddr 0] [] (n, sl, ln, di, dl, dr) Q := by
  refine (x_aload_n 0 i198_0 rfl ?_)
  refine (x_getR 1 81 i198_1 rfl (q_lt hg rfl) (Nat.le_of_ble_eq_true rfl) rfl (hg.2.2.1 67 33 81 rfl) ?_)
  refine (x_iload_n 4 i198_4 rfl ?_)
  refine (x_iaload 5 (di 81 x1.toNatClampNeg) i198_5 rfl (q_lt hg rfl) (q_inE (hg.2.1 81 6 rfl) s1) rfl ?_)
  refine (x_istore_n 6 (ls2 := [.ref 67, .int x1, .int x2, .int (di 81 x1.toNatClampNeg)]) i198_6 (Nat.le_of_ble_eq_true rfl) rfl ?_)
  refine (x_aload_n 7 i198_7 rfl ?_)
  refine (x_getR 8 81 i198_8 rfl (q_lt hg rfl) (Nat.le_of_ble_eq_true rfl) rfl (hg.2.2.1 67 33 81 rfl) ?_)
  refine (x_iload_n 11 i198_11 rfl ?_)
  refine (x_aload_n 12 i198_12 rfl ?_)
  refine (x_getR 13 81 i198_13 rfl (q_lt hg rfl) (Nat.le_of_ble_eq_true rfl) rfl (hg.2.2.1 67 33 81 rfl) ?_)
  refine (x_iload_n 16 i198_16 rfl ?_)
  refine (x_iaload 17 (di 81 x2.toNatClampNeg) i198_17 rfl (q_lt hg rfl) (q_inE (hg.2.1 81 6 rfl) s2) rfl ?_)
  refine (x_iastore 18 i198_18 rfl (Nat.le_of_ble_eq_true rfl) (q_lt hg rfl) (q_inE (hg.2.1 81 6 rfl) s3) ?_)
  refine (x_aload_n 19 i198_19 rfl ?_)
  refine (x_getR 20 81 i198_20 rfl (q_lt hg rfl) (Nat.le_of_ble_eq_true rfl) rfl (hg.2.2.1 67 33 81 rfl) ?_)
  refine (x_iload_n 23 i198_23 rfl ?_)
  refine (x_iload_n 24 i198_24 rfl ?_)
  refine (x_iastore 25 i198_25 rfl (Nat.le_of_ble_eq_true rfl) (q_lt hg rfl) (q_inE (hg.2.1 81 6 rfl) s4) ?_)
  exact (x_vret 26 i198_26 rfl k5)

/-! SilentHouseModel.cut -/
set_option maxRecDepth 20000 in
theorem g199_0 {m n sl : Nat} {ln : Nat → Nat} {di : Nat → Nat → Int32} {dl : Nat → Nat → Int64} {dr : Nat → Nat → Option Nat} {x1 : Int32} {Q : Option Value → q_H → Prop} (hg : q_Gr n ln dr)
    (k1 : q_EX q_KD m 118 0 [.int x1, .int 0, .int 990] [] (n, sl, ln, di, dl, dr) (fun r1 h1 => q_EX q_KD (m + 1) 199 8 [.ref 67, .int x1, .retAddr 0, .retAddr 0, .retAddr 0, .retAddr 0] (r1.toList ++ []) h1 Q)) : q_EX q_KD (m + 1) 199 0 [.ref 67, .int x1, .retAddr 0, .retAddr 0, .retAddr 0, .retAddr 0] [] (n, sl, ln, di, dl, dr) Q := by
  refine (x_iload_n 0 i199_0 rfl ?_)
  refine (x_iconst 1 0 i199_1 rfl ?_)
  refine (x_sipush 2 990 i199_2 rfl ?_)
  exact (x_cs 5 (as := [.int x1, .int 0, .int 990]) (rs := []) i199_5 rfl rfl rfl rfl (Nat.le_of_ble_eq_true rfl) (Nat.le_of_ble_eq_true rfl) rfl rfl k1)

set_option maxRecDepth 20000 in
theorem g199_8 {m n sl : Nat} {ln : Nat → Nat} {di : Nat → Nat → Int32} {dl : Nat → Nat → Int64} {dr : Nat → Nat → Option Nat} {x1 : Int32} {y0 : Int32} {Q : Option Value → q_H → Prop} (hg : q_Gr n ln dr)
    (k2 : (¬ y0 = (0 : Int32)) → q_EX q_KD m 159 0 [.ref 67, .retAddr 0] [] (n, sl, ln, di, dl, dr) (fun r1 h1 => q_EX q_KD (m + 1) 199 17 [.ref 67, .int x1, .retAddr 0, .retAddr 0, .retAddr 0, .retAddr 0] (r1.toList ++ []) h1 Q))
    (k3 : (y0 = (0 : Int32)) → Q (some (.int (-1))) (n, sl, ln, di, dl, dr)) : q_EX q_KD (m + 1) 199 8 [.ref 67, .int x1, .retAddr 0, .retAddr 0, .retAddr 0, .retAddr 0] [.int y0] (n, sl, ln, di, dl, dr) Q := by
  refine (x_if_ne 8 13 i199_8 rfl (fun c1 => ?_) (fun c1 => ?_))
  · refine (x_aload_n 13 i199_13 rfl ?_)
    exact (x_cv 14 (as := []) (rs := []) i199_14 rfl rfl rfl rfl (Nat.le_of_ble_eq_true rfl) (q_lt hg rfl) rfl (Or.inr (Nat.le_of_ble_eq_true rfl)) (Nat.le_of_ble_eq_true rfl) rfl rfl (k2 c1))
  · refine (x_iconst 11 (-1) i199_11 rfl ?_)
    exact (x_iretI 12 i199_12 rfl (k3 c1))

set_option maxRecDepth 20000 in
theorem g199_17 {d n sl : Nat} {ln : Nat → Nat} {di : Nat → Nat → Int32} {dl : Nat → Nat → Int64} {dr : Nat → Nat → Option Nat} {x1 : Int32} {Q : Option Value → q_H → Prop} (hg : q_Gr n ln dr)
    (k1 : q_EX q_KD d 199 19 [.ref 67, .int x1, .int 0, .retAddr 0, .retAddr 0, .retAddr 0] [] (n, sl, ln, di, dl, dr) Q) : q_EX q_KD d 199 17 [.ref 67, .int x1, .retAddr 0, .retAddr 0, .retAddr 0, .retAddr 0] [] (n, sl, ln, di, dl, dr) Q := by
  refine (x_iconst 17 0 i199_17 rfl ?_)
  exact (x_istore_n 18 (ls2 := [.ref 67, .int x1, .int 0, .retAddr 0, .retAddr 0, .retAddr 0]) i199_18 (Nat.le_of_ble_eq_true rfl) rfl k1)

set_option maxRecDepth 20000 in
theorem g199_19 {m n sl : Nat} {ln : Nat → Nat} {di : Nat → Nat → Int32} {dl : Nat → Nat → Int64} {dr : Nat → Nat → Option Nat} {x1 : Int32} {x2 : Int32} {Q : Option Value → q_H → Prop} (hg : q_Gr n ln dr)
    (k2 : ((di 68 1) ≤ x2) → q_EX q_KD (m + 1) 199 52 [.ref 67, .int x1, .int (-1), .int 0, .retAddr 0, .retAddr 0] [] (n, sl, ln, di, dl, dr) Q)
    (k3 : (x2 < (di 68 1)) → q_EX q_KD m 162 0 [.ref 67, .int x2, .int 63] [] (n, sl, ln, di, dl, dr) (fun r1 h1 => q_EX q_KD (m + 1) 199 41 [.ref 67, .int x1, .int x2, .retAddr 0, .retAddr 0, .retAddr 0] (r1.toList ++ [.int x2, .ref 83]) h1 Q)) : q_EX q_KD (m + 1) 199 19 [.ref 67, .int x1, .int x2, .retAddr 0, .retAddr 0, .retAddr 0] [] (n, sl, ln, di, dl, dr) Q := by
  refine (x_iload_n 19 i199_19 rfl ?_)
  refine (x_aload_n 20 i199_20 rfl ?_)
  refine (x_getR 21 68 i199_21 rfl (q_lt hg rfl) (Nat.le_of_ble_eq_true rfl) rfl (hg.2.2.1 67 0 68 rfl) ?_)
  refine (x_iconst 24 1 i199_24 rfl ?_)
  refine (x_iaload 25 (di 68 1) i199_25 rfl (q_lt hg rfl) (q_inE (hg.2.1 68 706 rfl) (q_vin rfl)) rfl ?_)
  refine (x_icmp_ge 26 48 i199_26 rfl (fun c1 => ?_) (fun c1 => ?_))
  · refine (x_iconst 48 (-1) i199_48 rfl ?_)
    refine (x_istore_n 49 (ls2 := [.ref 67, .int x1, .int (-1), .retAddr 0, .retAddr 0, .retAddr 0]) i199_49 (Nat.le_of_ble_eq_true rfl) rfl ?_)
    refine (x_iconst 50 0 i199_50 rfl ?_)
    exact (x_istore_n 51 (ls2 := [.ref 67, .int x1, .int (-1), .int 0, .retAddr 0, .retAddr 0]) i199_51 (Nat.le_of_ble_eq_true rfl) rfl (k2 c1))
  · refine (x_aload_n 29 i199_29 rfl ?_)
    refine (x_getR 30 83 i199_30 rfl (q_lt hg rfl) (Nat.le_of_ble_eq_true rfl) rfl (hg.2.2.1 67 36 83 rfl) ?_)
    refine (x_iload_n 33 i199_33 rfl ?_)
    refine (x_aload_n 34 i199_34 rfl ?_)
    refine (x_iload_n 35 i199_35 rfl ?_)
    refine (x_bipush 36 63 i199_36 rfl ?_)
    exact (x_cv 38 (as := [.int x2, .int 63]) (rs := [.int x2, .ref 83]) i199_38 rfl rfl rfl rfl (Nat.le_of_ble_eq_true rfl) (q_lt hg rfl) rfl (Or.inr (Nat.le_of_ble_eq_true rfl)) (Nat.le_of_ble_eq_true rfl) rfl rfl (k3 c1))

set_option maxRecDepth 20000 in
theorem g199_52 {m n sl : Nat} {ln : Nat → Nat} {di : Nat → Nat → Int32} {dl : Nat → Nat → Int64} {dr : Nat → Nat → Option Nat} {x1 : Int32} {x2 : Int32} {x3 : Int32} {Q : Option Value → q_H → Prop} (hg : q_Gr n ln dr)
    (k2 : (((1 : Int32) <<< ((di 68 1) &&& 31)) ≤ x3) → Q (some (.int x2)) (n, sl, ln, di, dl, dr))
    (k4 : (x3 < ((1 : Int32) <<< ((di 68 1) &&& 31))) → (x2 < (0 : Int32)) → q_EX q_KD (m + 1) 199 88 [.ref 67, .int x1, .int x2, .int x3, .int 0, .int 0] [] (n, sl, ln, di, dl, dr) Q)
    (k5 : (x3 < ((1 : Int32) <<< ((di 68 1) &&& 31))) → ((0 : Int32) ≤ x2) → q_EX q_KD m 170 0 [.int x3, .retAddr 0, .retAddr 0] [] (n, sl, ln, di, dl, dr) (fun r1 h1 => q_EX q_KD (m + 1) 199 72 [.ref 67, .int x1, .int x2, .int x3, .retAddr 0, .retAddr 0] (r1.toList ++ []) h1 Q)) : q_EX q_KD (m + 1) 199 52 [.ref 67, .int x1, .int x2, .int x3, .retAddr 0, .retAddr 0] [] (n, sl, ln, di, dl, dr) Q := by
  refine (x_iload_n 52 i199_52 rfl ?_)
  refine (x_iconst 53 1 i199_53 rfl ?_)
  refine (x_aload_n 54 i199_54 rfl ?_)
  refine (x_getR 55 68 i199_55 rfl (q_lt hg rfl) (Nat.le_of_ble_eq_true rfl) rfl (hg.2.2.1 67 0 68 rfl) ?_)
  refine (x_iconst 58 1 i199_58 rfl ?_)
  refine (x_iaload 59 (di 68 1) i199_59 rfl (q_lt hg rfl) (q_inE (hg.2.1 68 706 rfl) (q_vin rfl)) rfl ?_)
  refine (x_ishl 60 i199_60 ?_)
  refine (x_icmp_ge 61 144 i199_61 rfl (fun c1 => ?_) (fun c1 => ?_))
  · refine (x_iload_n 144 i199_144 rfl ?_)
    exact (x_iretI 145 i199_145 rfl (k2 c1))
  · refine (x_iload_n 64 i199_64 rfl ?_)
    refine (x_if_lt 65 82 i199_65 rfl (fun c3 => ?_) (fun c3 => ?_))
    · refine (x_iconst 82 0 i199_82 rfl ?_)
      refine (x_istore 83 (ls2 := [.ref 67, .int x1, .int x2, .int x3, .int 0, .retAddr 0]) i199_83 (Nat.le_of_ble_eq_true rfl) rfl ?_)
      refine (x_iconst 85 0 i199_85 rfl ?_)
      exact (x_istore 86 (ls2 := [.ref 67, .int x1, .int x2, .int x3, .int 0, .int 0]) i199_86 (Nat.le_of_ble_eq_true rfl) rfl (k4 c1 c3))
    · refine (x_iload_n 68 i199_68 rfl ?_)
      exact (x_cs 69 (as := [.int x3]) (rs := []) i199_69 rfl rfl rfl rfl (Nat.le_of_ble_eq_true rfl) (Nat.le_of_ble_eq_true rfl) rfl rfl (k5 c1 c3))

set_option maxRecDepth 20000 in
theorem g199_41 {d n sl : Nat} {ln : Nat → Nat} {di : Nat → Nat → Int32} {dl : Nat → Nat → Int64} {dr : Nat → Nat → Option Nat} {x1 : Int32} {x2 : Int32} {y0 : Int32} {y1 : Int32} {Q : Option Value → q_H → Prop} (hg : q_Gr n ln dr)
    (s1 : vp_in y1 10)
    (k2 : q_EX q_KD d 199 19 [.ref 67, .int x1, .int (x2 + 1), .retAddr 0, .retAddr 0, .retAddr 0] [] (n, sl, ln, (q_u di 83 y1.toNatClampNeg y0), dl, dr) Q) : q_EX q_KD d 199 41 [.ref 67, .int x1, .int x2, .retAddr 0, .retAddr 0, .retAddr 0] [.int y0, .int y1, .ref 83] (n, sl, ln, di, dl, dr) Q := by
  refine (x_iastore 41 i199_41 rfl (Nat.le_of_ble_eq_true rfl) (q_lt hg rfl) (q_inE (hg.2.1 83 10 rfl) s1) ?_)
  refine (x_iinc 42 (x2 + 1) (ls2 := [.ref 67, .int x1, .int (x2 + 1), .retAddr 0, .retAddr 0, .retAddr 0]) i199_42 rfl (Nat.le_of_ble_eq_true rfl) rfl rfl ?_)
  exact (x_goto 45 19 i199_45 rfl k2)

set_option maxRecDepth 20000 in
theorem g199_88 {m n sl : Nat} {ln : Nat → Nat} {di : Nat → Nat → Int32} {dl : Nat → Nat → Int64} {dr : Nat → Nat → Option Nat} {x1 : Int32} {x2 : Int32} {x3 : Int32} {x4 : Int32} {x5 : Int32} {Q : Option Value → q_H → Prop} (hg : q_Gr n ln dr)
    (k3 : ((di 68 1) ≤ x5) → (x1 < x4) → q_EX q_KD (m + 1) 199 52 [.ref 67, .int x1, .int x2, .int (x3 + 1), .retAddr 0, .retAddr 0] [] (n, sl, ln, di, dl, dr) Q)
    (k4 : ((di 68 1) ≤ x5) → (x4 ≤ x1) → q_EX q_KD (m + 1) 199 52 [.ref 67, .int x1, .int x3, .int (x3 + 1), .retAddr 0, .retAddr 0] [] (n, sl, ln, di, dl, dr) Q)
    (k5 : (x5 < (di 68 1)) → q_EX q_KD m 164 0 [.int x3, .int x5] [] (n, sl, ln, di, dl, dr) (fun r1 h1 => q_EX q_KD (m + 1) 199 107 [.ref 67, .int x1, .int x2, .int x3, .retAddr 0, .int x5] (r1.toList ++ [.int x4]) h1 Q)) : q_EX q_KD (m + 1) 199 88 [.ref 67, .int x1, .int x2, .int x3, .int x4, .int x5] [] (n, sl, ln, di, dl, dr) Q := by
  refine (x_iload 88 i199_88 rfl ?_)
  refine (x_aload_n 90 i199_90 rfl ?_)
  refine (x_getR 91 68 i199_91 rfl (q_lt hg rfl) (Nat.le_of_ble_eq_true rfl) rfl (hg.2.2.1 67 0 68 rfl) ?_)
  refine (x_iconst 94 1 i199_94 rfl ?_)
  refine (x_iaload 95 (di 68 1) i199_95 rfl (q_lt hg rfl) (q_inE (hg.2.1 68 706 rfl) (q_vin rfl)) rfl ?_)
  refine (x_icmp_ge 96 130 i199_96 rfl (fun c1 => ?_) (fun c1 => ?_))
  · refine (x_iload 130 i199_130 rfl ?_)
    refine (x_iload_n 132 i199_132 rfl ?_)
    refine (x_icmp_gt 133 138 i199_133 rfl (fun c2 => ?_) (fun c2 => ?_))
    · refine (x_iinc 138 (x3 + 1) (ls2 := [.ref 67, .int x1, .int x2, .int (x3 + 1), .int x4, .int x5]) i199_138 rfl (Nat.le_of_ble_eq_true rfl) rfl rfl ?_)
      refine (x_goto 141 52 i199_141 rfl ?_)
      exact (xx_loc (ls := [.ref 67, .int x1, .int x2, .int (x3 + 1), .retAddr 0, .retAddr 0]) (ls' := [.ref 67, .int x1, .int x2, .int (x3 + 1), .int x4, .int x5]) ⟨Or.inl rfl, Or.inl rfl, Or.inl rfl, Or.inl rfl, Or.inr rfl, Or.inr rfl, trivial⟩ (k3 c1 c2))
    · refine (x_iload_n 136 i199_136 rfl ?_)
      refine (x_istore_n 137 (ls2 := [.ref 67, .int x1, .int x3, .int x3, .int x4, .int x5]) i199_137 (Nat.le_of_ble_eq_true rfl) rfl ?_)
      refine (x_iinc 138 (x3 + 1) (ls2 := [.ref 67, .int x1, .int x3, .int (x3 + 1), .int x4, .int x5]) i199_138 rfl (Nat.le_of_ble_eq_true rfl) rfl rfl ?_)
      refine (x_goto 141 52 i199_141 rfl ?_)
      exact (xx_loc (ls := [.ref 67, .int x1, .int x3, .int (x3 + 1), .retAddr 0, .retAddr 0]) (ls' := [.ref 67, .int x1, .int x3, .int (x3 + 1), .int x4, .int x5]) ⟨Or.inl rfl, Or.inl rfl, Or.inl rfl, Or.inl rfl, Or.inr rfl, Or.inr rfl, trivial⟩ (k4 c1 c2))
  · refine (x_iload 99 i199_99 rfl ?_)
    refine (x_iload_n 101 i199_101 rfl ?_)
    refine (x_iload 102 i199_102 rfl ?_)
    refine (xx_loc (ls := [.ref 67, .int x1, .int x2, .int x3, .retAddr 0, .int x5]) (ls' := [.ref 67, .int x1, .int x2, .int x3, .int x4, .int x5]) ⟨Or.inl rfl, Or.inl rfl, Or.inl rfl, Or.inl rfl, Or.inr rfl, Or.inl rfl, trivial⟩ ?_)
    exact (x_cs 104 (as := [.int x3, .int x5]) (rs := [.int x4]) i199_104 rfl rfl rfl rfl (Nat.le_of_ble_eq_true rfl) (Nat.le_of_ble_eq_true rfl) rfl rfl (k5 c1))

set_option maxRecDepth 20000 in
theorem g199_72 {m n sl : Nat} {ln : Nat → Nat} {di : Nat → Nat → Int32} {dl : Nat → Nat → Int64} {dr : Nat → Nat → Option Nat} {x1 : Int32} {x2 : Int32} {x3 : Int32} {y0 : Int32} {Q : Option Value → q_H → Prop} (hg : q_Gr n ln dr)
    (k1 : q_EX q_KD m 170 0 [.int x2, .retAddr 0, .retAddr 0] [] (n, sl, ln, di, dl, dr) (fun r1 h1 => q_EX q_KD (m + 1) 199 76 [.ref 67, .int x1, .int x2, .int x3, .retAddr 0, .retAddr 0] (r1.toList ++ [.int y0]) h1 Q)) : q_EX q_KD (m + 1) 199 72 [.ref 67, .int x1, .int x2, .int x3, .retAddr 0, .retAddr 0] [.int y0] (n, sl, ln, di, dl, dr) Q := by
  refine (x_iload_n 72 i199_72 rfl ?_)
  exact (x_cs 73 (as := [.int x2]) (rs := [.int y0]) i199_73 rfl rfl rfl rfl (Nat.le_of_ble_eq_true rfl) (Nat.le_of_ble_eq_true rfl) rfl rfl k1)

set_option maxRecDepth 20000 in
theorem g199_107 {d n sl : Nat} {ln : Nat → Nat} {di : Nat → Nat → Int32} {dl : Nat → Nat → Int64} {dr : Nat → Nat → Option Nat} {x1 : Int32} {x2 : Int32} {x3 : Int32} {x5 : Int32} {y0 : Int32} {y1 : Int32} {Q : Option Value → q_H → Prop} (hg : q_Gr n ln dr)
    (s2 : (y0 = (0 : Int32)) → vp_in x5 10)
    (k3 : (y0 = (0 : Int32)) → q_EX q_KD d 199 88 [.ref 67, .int x1, .int x2, .int x3, .int (y1 + (di 83 x5.toNatClampNeg)), .int (x5 + 1)] [] (n, sl, ln, di, dl, dr) Q)
    (k4 : (¬ y0 = (0 : Int32)) → q_EX q_KD d 199 88 [.ref 67, .int x1, .int x2, .int x3, .int (y1 + (0 : Int32)), .int (x5 + 1)] [] (n, sl, ln, di, dl, dr) Q) : q_EX q_KD d 199 107 [.ref 67, .int x1, .int x2, .int x3, .retAddr 0, .int x5] [.int y0, .int y1] (n, sl, ln, di, dl, dr) Q := by
  refine (x_if_eq 107 114 i199_107 rfl (fun c1 => ?_) (fun c1 => ?_))
  · refine (x_aload_n 114 i199_114 rfl ?_)
    refine (x_getR 115 83 i199_115 rfl (q_lt hg rfl) (Nat.le_of_ble_eq_true rfl) rfl (hg.2.2.1 67 36 83 rfl) ?_)
    refine (x_iload 118 i199_118 rfl ?_)
    refine (x_iaload 120 (di 83 x5.toNatClampNeg) i199_120 rfl (q_lt hg rfl) (q_inE (hg.2.1 83 10 rfl) (s2 c1)) rfl ?_)
    refine (x_iadd 121 i199_121 ?_)
    refine (x_istore 122 (ls2 := [.ref 67, .int x1, .int x2, .int x3, .int (y1 + (di 83 x5.toNatClampNeg)), .int x5]) i199_122 (Nat.le_of_ble_eq_true rfl) rfl ?_)
    refine (x_iinc 124 (x5 + 1) (ls2 := [.ref 67, .int x1, .int x2, .int x3, .int (y1 + (di 83 x5.toNatClampNeg)), .int (x5 + 1)]) i199_124 rfl (Nat.le_of_ble_eq_true rfl) rfl rfl ?_)
    exact (x_goto 127 88 i199_127 rfl (k3 c1))
  · refine (x_iconst 110 0 i199_110 rfl ?_)
    refine (x_goto 111 121 i199_111 rfl ?_)
    refine (x_iadd 121 i199_121 ?_)
    refine (x_istore 122 (ls2 := [.ref 67, .int x1, .int x2, .int x3, .int (y1 + (0 : Int32)), .int x5]) i199_122 (Nat.le_of_ble_eq_true rfl) rfl ?_)
    refine (x_iinc 124 (x5 + 1) (ls2 := [.ref 67, .int x1, .int x2, .int x3, .int (y1 + (0 : Int32)), .int (x5 + 1)]) i199_124 rfl (Nat.le_of_ble_eq_true rfl) rfl rfl ?_)
    exact (x_goto 127 88 i199_127 rfl (k4 c1))

set_option maxRecDepth 20000 in
theorem g199_76 {d n sl : Nat} {ln : Nat → Nat} {di : Nat → Nat → Int32} {dl : Nat → Nat → Int64} {dr : Nat → Nat → Option Nat} {x1 : Int32} {x2 : Int32} {x3 : Int32} {y0 : Int32} {y1 : Int32} {Q : Option Value → q_H → Prop} (hg : q_Gr n ln dr)
    (k2 : (y1 < y0) → q_EX q_KD d 199 88 [.ref 67, .int x1, .int x2, .int x3, .int 0, .int 0] [] (n, sl, ln, di, dl, dr) Q)
    (k3 : (y0 ≤ y1) → q_EX q_KD d 199 52 [.ref 67, .int x1, .int x2, .int (x3 + 1), .retAddr 0, .retAddr 0] [] (n, sl, ln, di, dl, dr) Q) : q_EX q_KD d 199 76 [.ref 67, .int x1, .int x2, .int x3, .retAddr 0, .retAddr 0] [.int y0, .int y1] (n, sl, ln, di, dl, dr) Q := by
  refine (x_icmp_lt 76 82 i199_76 rfl (fun c1 => ?_) (fun c1 => ?_))
  · refine (x_iconst 82 0 i199_82 rfl ?_)
    refine (x_istore 83 (ls2 := [.ref 67, .int x1, .int x2, .int x3, .int 0, .retAddr 0]) i199_83 (Nat.le_of_ble_eq_true rfl) rfl ?_)
    refine (x_iconst 85 0 i199_85 rfl ?_)
    exact (x_istore 86 (ls2 := [.ref 67, .int x1, .int x2, .int x3, .int 0, .int 0]) i199_86 (Nat.le_of_ble_eq_true rfl) rfl (k2 c1))
  · refine (x_goto 79 138 i199_79 rfl ?_)
    refine (x_iinc 138 (x3 + 1) (ls2 := [.ref 67, .int x1, .int x2, .int (x3 + 1), .retAddr 0, .retAddr 0]) i199_138 rfl (Nat.le_of_ble_eq_true rfl) rfl rfl ?_)
    exact (x_goto 141 52 i199_141 rfl (k3 c1))

/-! SilentHouseModel.stilled -/
set_option maxRecDepth 20000 in
theorem g200_0 {m n sl : Nat} {ln : Nat → Nat} {di : Nat → Nat → Int32} {dl : Nat → Nat → Int64} {dr : Nat → Nat → Option Nat} {x1 : Int32} {Q : Option Value → q_H → Prop} (hg : q_Gr n ln dr)
    (k1 : q_EX q_KD m 118 0 [.int x1, .int 0, .int 990] [] (n, sl, ln, di, dl, dr) (fun r1 h1 => q_EX q_KD (m + 1) 200 8 [.ref 67, .int x1, .retAddr 0, .retAddr 0, .retAddr 0, .retAddr 0] (r1.toList ++ []) h1 Q)) : q_EX q_KD (m + 1) 200 0 [.ref 67, .int x1, .retAddr 0, .retAddr 0, .retAddr 0, .retAddr 0] [] (n, sl, ln, di, dl, dr) Q := by
  refine (x_iload_n 0 i200_0 rfl ?_)
  refine (x_iconst 1 0 i200_1 rfl ?_)
  refine (x_sipush 2 990 i200_2 rfl ?_)
  exact (x_cs 5 (as := [.int x1, .int 0, .int 990]) (rs := []) i200_5 rfl rfl rfl rfl (Nat.le_of_ble_eq_true rfl) (Nat.le_of_ble_eq_true rfl) rfl rfl k1)

set_option maxRecDepth 20000 in
theorem g200_8 {m n sl : Nat} {ln : Nat → Nat} {di : Nat → Nat → Int32} {dl : Nat → Nat → Int64} {dr : Nat → Nat → Option Nat} {x1 : Int32} {y0 : Int32} {Q : Option Value → q_H → Prop} (hg : q_Gr n ln dr)
    (k2 : (¬ y0 = (0 : Int32)) → q_EX q_KD m 159 0 [.ref 67, .retAddr 0] [] (n, sl, ln, di, dl, dr) (fun r1 h1 => q_EX q_KD (m + 1) 200 17 [.ref 67, .int x1, .retAddr 0, .retAddr 0, .retAddr 0, .retAddr 0] (r1.toList ++ []) h1 Q))
    (k3 : (y0 = (0 : Int32)) → Q (some (.int (-1))) (n, sl, ln, di, dl, dr)) : q_EX q_KD (m + 1) 200 8 [.ref 67, .int x1, .retAddr 0, .retAddr 0, .retAddr 0, .retAddr 0] [.int y0] (n, sl, ln, di, dl, dr) Q := by
  refine (x_if_ne 8 13 i200_8 rfl (fun c1 => ?_) (fun c1 => ?_))
  · refine (x_aload_n 13 i200_13 rfl ?_)
    exact (x_cv 14 (as := []) (rs := []) i200_14 rfl rfl rfl rfl (Nat.le_of_ble_eq_true rfl) (q_lt hg rfl) rfl (Or.inr (Nat.le_of_ble_eq_true rfl)) (Nat.le_of_ble_eq_true rfl) rfl rfl (k2 c1))
  · refine (x_iconst 11 (-1) i200_11 rfl ?_)
    exact (x_iretI 12 i200_12 rfl (k3 c1))

set_option maxRecDepth 20000 in
theorem g200_17 {m n sl : Nat} {ln : Nat → Nat} {di : Nat → Nat → Int32} {dl : Nat → Nat → Int64} {dr : Nat → Nat → Option Nat} {x1 : Int32} {Q : Option Value → q_H → Prop} (hg : q_Gr n ln dr)
    (k1 : q_EX q_KD m 183 0 [.ref 67, .retAddr 0, .retAddr 0] [] (n, sl, ln, di, dl, dr) (fun r1 h1 => q_EX q_KD (m + 1) 200 26 [.ref 67, .int x1, .int (di 67 26), .retAddr 0, .retAddr 0, .retAddr 0] (r1.toList ++ []) h1 Q)) : q_EX q_KD (m + 1) 200 17 [.ref 67, .int x1, .retAddr 0, .retAddr 0, .retAddr 0, .retAddr 0] [] (n, sl, ln, di, dl, dr) Q := by
  refine (x_aload_n 17 i200_17 rfl ?_)
  refine (x_getI 18 26 (di 67 26) i200_18 rfl (q_lt hg rfl) (Nat.le_of_ble_eq_true rfl) (Or.inl rfl) rfl rfl ?_)
  refine (x_istore_n 21 (ls2 := [.ref 67, .int x1, .int (di 67 26), .retAddr 0, .retAddr 0, .retAddr 0]) i200_21 (Nat.le_of_ble_eq_true rfl) rfl ?_)
  refine (x_aload_n 22 i200_22 rfl ?_)
  exact (x_cv 23 (as := []) (rs := []) i200_23 rfl rfl rfl rfl (Nat.le_of_ble_eq_true rfl) (q_lt hg rfl) rfl (Or.inr (Nat.le_of_ble_eq_true rfl)) (Nat.le_of_ble_eq_true rfl) rfl rfl k1)

set_option maxRecDepth 20000 in
theorem g200_26 {d n sl : Nat} {ln : Nat → Nat} {di : Nat → Nat → Int32} {dl : Nat → Nat → Int64} {dr : Nat → Nat → Option Nat} {x1 : Int32} {x2 : Int32} {y0 : Int32} {Q : Option Value → q_H → Prop} (hg : q_Gr n ln dr)
    (k1 : q_EX q_KD d 200 37 [.ref 67, .int x1, .int x2, .int (y0 &&& (x2 ^^^ (-1 : Int32))), .int (-1), .int 0] [] (n, sl, ln, di, dl, dr) Q) : q_EX q_KD d 200 26 [.ref 67, .int x1, .int x2, .retAddr 0, .retAddr 0, .retAddr 0] [.int y0] (n, sl, ln, di, dl, dr) Q := by
  refine (x_iload_n 26 i200_26 rfl ?_)
  refine (x_iconst 27 (-1) i200_27 rfl ?_)
  refine (x_ixor 28 i200_28 ?_)
  refine (x_iand 29 i200_29 ?_)
  refine (x_istore_n 30 (ls2 := [.ref 67, .int x1, .int x2, .int (y0 &&& (x2 ^^^ (-1 : Int32))), .retAddr 0, .retAddr 0]) i200_30 (Nat.le_of_ble_eq_true rfl) rfl ?_)
  refine (x_iconst 31 (-1) i200_31 rfl ?_)
  refine (x_istore 32 (ls2 := [.ref 67, .int x1, .int x2, .int (y0 &&& (x2 ^^^ (-1 : Int32))), .int (-1), .retAddr 0]) i200_32 (Nat.le_of_ble_eq_true rfl) rfl ?_)
  refine (x_iconst 34 0 i200_34 rfl ?_)
  exact (x_istore 35 (ls2 := [.ref 67, .int x1, .int x2, .int (y0 &&& (x2 ^^^ (-1 : Int32))), .int (-1), .int 0]) i200_35 (Nat.le_of_ble_eq_true rfl) rfl k1)

set_option maxRecDepth 20000 in
theorem g200_37 {m n sl : Nat} {ln : Nat → Nat} {di : Nat → Nat → Int32} {dl : Nat → Nat → Int64} {dr : Nat → Nat → Option Nat} {x1 : Int32} {x2 : Int32} {x3 : Int32} {x4 : Int32} {x5 : Int32} {Q : Option Value → q_H → Prop} (hg : q_Gr n ln dr)
    (k2 : ((64 : Int32) ≤ x5) → Q (some (.int x4)) (n, sl, ln, di, dl, dr))
    (k4 : (x5 < (64 : Int32)) → (¬ (x5 &&& (x3 ^^^ (-1 : Int32))) = (0 : Int32)) → q_EX q_KD (m + 1) 200 37 [.ref 67, .int x1, .int x2, .int x3, .int x4, .int (x5 + 1)] [] (n, sl, ln, di, dl, dr) Q)
    (k6 : (x5 < (64 : Int32)) → ((x5 &&& (x3 ^^^ (-1 : Int32))) = (0 : Int32)) → (x4 < (0 : Int32)) → q_EX q_KD m 190 0 [.ref 67, .int 63, .retAddr 0, .retAddr 0] [] (n, sl, ln, (q_u di 67 26 (x2 ||| x5)), dl, dr) (fun r1 h1 => q_EX q_KD (m + 1) 200 88 [.ref 67, .int x1, .int x2, .int x3, .int x4, .int x5] (r1.toList ++ []) h1 Q))
    (k7 : (x5 < (64 : Int32)) → ((x5 &&& (x3 ^^^ (-1 : Int32))) = (0 : Int32)) → ((0 : Int32) ≤ x4) → q_EX q_KD m 170 0 [.int x5, .retAddr 0, .retAddr 0] [] (n, sl, ln, di, dl, dr) (fun r1 h1 => q_EX q_KD (m + 1) 200 63 [.ref 67, .int x1, .int x2, .int x3, .int x4, .int x5] (r1.toList ++ []) h1 Q)) : q_EX q_KD (m + 1) 200 37 [.ref 67, .int x1, .int x2, .int x3, .int x4, .int x5] [] (n, sl, ln, di, dl, dr) Q := by
  refine (x_iload 37 i200_37 rfl ?_)
  refine (x_bipush 39 64 i200_39 rfl ?_)
  refine (x_icmp_ge 41 102 i200_41 rfl (fun c1 => ?_) (fun c1 => ?_))
  · refine (x_iload 102 i200_102 rfl ?_)
    exact (x_iretI 104 i200_104 rfl (k2 c1))
  · refine (x_iload 44 i200_44 rfl ?_)
    refine (x_iload_n 46 i200_46 rfl ?_)
    refine (x_iconst 47 (-1) i200_47 rfl ?_)
    refine (x_ixor 48 i200_48 ?_)
    refine (x_iand 49 i200_49 ?_)
    refine (x_if_ne 50 96 i200_50 rfl (fun c3 => ?_) (fun c3 => ?_))
    · refine (x_iinc 96 (x5 + 1) (ls2 := [.ref 67, .int x1, .int x2, .int x3, .int x4, .int (x5 + 1)]) i200_96 rfl (Nat.le_of_ble_eq_true rfl) rfl rfl ?_)
      exact (x_goto 99 37 i200_99 rfl (k4 c1 c3))
    · refine (x_iload 53 i200_53 rfl ?_)
      refine (x_if_lt 55 74 i200_55 rfl (fun c5 => ?_) (fun c5 => ?_))
      · refine (x_aload_n 74 i200_74 rfl ?_)
        refine (x_iload_n 75 i200_75 rfl ?_)
        refine (x_iload 76 i200_76 rfl ?_)
        refine (x_ior 78 i200_78 ?_)
        refine (x_putI 79 26 i200_79 rfl (Nat.le_of_ble_eq_true rfl) (q_lt hg rfl) rfl rfl ?_)
        refine (x_aload_n 82 i200_82 rfl ?_)
        refine (x_bipush 83 63 i200_83 rfl ?_)
        exact (x_cv 85 (as := [.int 63]) (rs := []) i200_85 rfl rfl rfl rfl (Nat.le_of_ble_eq_true rfl) (q_lt hg rfl) rfl (Or.inr (Nat.le_of_ble_eq_true rfl)) (Nat.le_of_ble_eq_true rfl) rfl rfl (k6 c1 c3 c5))
      · refine (x_iload 58 i200_58 rfl ?_)
        exact (x_cs 60 (as := [.int x5]) (rs := []) i200_60 rfl rfl rfl rfl (Nat.le_of_ble_eq_true rfl) (Nat.le_of_ble_eq_true rfl) rfl rfl (k7 c1 c3 c5))

set_option maxRecDepth 20000 in
theorem g200_88 {d n sl : Nat} {ln : Nat → Nat} {di : Nat → Nat → Int32} {dl : Nat → Nat → Int64} {dr : Nat → Nat → Option Nat} {x1 : Int32} {x2 : Int32} {x3 : Int32} {x4 : Int32} {x5 : Int32} {y0 : Int32} {Q : Option Value → q_H → Prop} (hg : q_Gr n ln dr)
    (k2 : (x1 < y0) → q_EX q_KD d 200 37 [.ref 67, .int x1, .int x2, .int x3, .int x4, .int (x5 + 1)] [] (n, sl, ln, di, dl, dr) Q)
    (k3 : (y0 ≤ x1) → q_EX q_KD d 200 37 [.ref 67, .int x1, .int x2, .int x3, .int x5, .int (x5 + 1)] [] (n, sl, ln, di, dl, dr) Q) : q_EX q_KD d 200 88 [.ref 67, .int x1, .int x2, .int x3, .int x4, .int x5] [.int y0] (n, sl, ln, di, dl, dr) Q := by
  refine (x_iload_n 88 i200_88 rfl ?_)
  refine (x_icmp_gt 89 96 i200_89 rfl (fun c1 => ?_) (fun c1 => ?_))
  · refine (x_iinc 96 (x5 + 1) (ls2 := [.ref 67, .int x1, .int x2, .int x3, .int x4, .int (x5 + 1)]) i200_96 rfl (Nat.le_of_ble_eq_true rfl) rfl rfl ?_)
    exact (x_goto 99 37 i200_99 rfl (k2 c1))
  · refine (x_iload 92 i200_92 rfl ?_)
    refine (x_istore 94 (ls2 := [.ref 67, .int x1, .int x2, .int x3, .int x5, .int x5]) i200_94 (Nat.le_of_ble_eq_true rfl) rfl ?_)
    refine (x_iinc 96 (x5 + 1) (ls2 := [.ref 67, .int x1, .int x2, .int x3, .int x5, .int (x5 + 1)]) i200_96 rfl (Nat.le_of_ble_eq_true rfl) rfl rfl ?_)
    exact (x_goto 99 37 i200_99 rfl (k3 c1))

set_option maxRecDepth 20000 in
theorem g200_63 {m n sl : Nat} {ln : Nat → Nat} {di : Nat → Nat → Int32} {dl : Nat → Nat → Int64} {dr : Nat → Nat → Option Nat} {x1 : Int32} {x2 : Int32} {x3 : Int32} {x4 : Int32} {x5 : Int32} {y0 : Int32} {Q : Option Value → q_H → Prop} (hg : q_Gr n ln dr)
    (k1 : q_EX q_KD m 170 0 [.int x4, .retAddr 0, .retAddr 0] [] (n, sl, ln, di, dl, dr) (fun r1 h1 => q_EX q_KD (m + 1) 200 68 [.ref 67, .int x1, .int x2, .int x3, .int x4, .int x5] (r1.toList ++ [.int y0]) h1 Q)) : q_EX q_KD (m + 1) 200 63 [.ref 67, .int x1, .int x2, .int x3, .int x4, .int x5] [.int y0] (n, sl, ln, di, dl, dr) Q := by
  refine (x_iload 63 i200_63 rfl ?_)
  exact (x_cs 65 (as := [.int x4]) (rs := [.int y0]) i200_65 rfl rfl rfl rfl (Nat.le_of_ble_eq_true rfl) (Nat.le_of_ble_eq_true rfl) rfl rfl k1)

set_option maxRecDepth 20000 in
theorem g200_68 {m n sl : Nat} {ln : Nat → Nat} {di : Nat → Nat → Int32} {dl : Nat → Nat → Int64} {dr : Nat → Nat → Option Nat} {x1 : Int32} {x2 : Int32} {x3 : Int32} {x4 : Int32} {x5 : Int32} {y0 : Int32} {y1 : Int32} {Q : Option Value → q_H → Prop} (hg : q_Gr n ln dr)
    (k2 : (y1 < y0) → q_EX q_KD m 190 0 [.ref 67, .int 63, .retAddr 0, .retAddr 0] [] (n, sl, ln, (q_u di 67 26 (x2 ||| x5)), dl, dr) (fun r1 h1 => q_EX q_KD (m + 1) 200 88 [.ref 67, .int x1, .int x2, .int x3, .int x4, .int x5] (r1.toList ++ []) h1 Q))
    (k3 : (y0 ≤ y1) → q_EX q_KD (m + 1) 200 37 [.ref 67, .int x1, .int x2, .int x3, .int x4, .int (x5 + 1)] [] (n, sl, ln, di, dl, dr) Q) : q_EX q_KD (m + 1) 200 68 [.ref 67, .int x1, .int x2, .int x3, .int x4, .int x5] [.int y0, .int y1] (n, sl, ln, di, dl, dr) Q := by
  refine (x_icmp_lt 68 74 i200_68 rfl (fun c1 => ?_) (fun c1 => ?_))
  · refine (x_aload_n 74 i200_74 rfl ?_)
    refine (x_iload_n 75 i200_75 rfl ?_)
    refine (x_iload 76 i200_76 rfl ?_)
    refine (x_ior 78 i200_78 ?_)
    refine (x_putI 79 26 i200_79 rfl (Nat.le_of_ble_eq_true rfl) (q_lt hg rfl) rfl rfl ?_)
    refine (x_aload_n 82 i200_82 rfl ?_)
    refine (x_bipush 83 63 i200_83 rfl ?_)
    exact (x_cv 85 (as := [.int 63]) (rs := []) i200_85 rfl rfl rfl rfl (Nat.le_of_ble_eq_true rfl) (q_lt hg rfl) rfl (Or.inr (Nat.le_of_ble_eq_true rfl)) (Nat.le_of_ble_eq_true rfl) rfl rfl (k2 c1))
  · refine (x_goto 71 96 i200_71 rfl ?_)
    refine (x_iinc 96 (x5 + 1) (ls2 := [.ref 67, .int x1, .int x2, .int x3, .int x4, .int (x5 + 1)]) i200_96 rfl (Nat.le_of_ble_eq_true rfl) rfl rfl ?_)
    exact (x_goto 99 37 i200_99 rfl (k3 c1))

/-! SilentHouseModel.seen -/
set_option maxRecDepth 20000 in
theorem g201_0 {m n sl : Nat} {ln : Nat → Nat} {di : Nat → Nat → Int32} {dl : Nat → Nat → Int64} {dr : Nat → Nat → Option Nat} {x1 : Int32} {Q : Option Value → q_H → Prop} (hg : q_Gr n ln dr)
    (k2 : (¬ x1 = (-1 : Int32)) → q_EX q_KD m 118 0 [.int x1, .int 0, .int 99] [] (n, sl, ln, di, dl, dr) (fun r1 h1 => q_EX q_KD (m + 1) 201 22 [.ref 67, .int x1] (r1.toList ++ []) h1 Q))
    (k3 : (x1 = (-1 : Int32)) → Q (some (.int 0)) (n, sl, ln, (q_u di 68 7 0), dl, dr)) : q_EX q_KD (m + 1) 201 0 [.ref 67, .int x1] [] (n, sl, ln, di, dl, dr) Q := by
  refine (x_iload_n 0 i201_0 rfl ?_)
  refine (x_iconst 1 (-1) i201_1 rfl ?_)
  refine (x_icmp_ne 2 15 i201_2 rfl (fun c1 => ?_) (fun c1 => ?_))
  · refine (x_iload_n 15 i201_15 rfl ?_)
    refine (x_iconst 16 0 i201_16 rfl ?_)
    refine (x_bipush 17 99 i201_17 rfl ?_)
    exact (x_cs 19 (as := [.int x1, .int 0, .int 99]) (rs := []) i201_19 rfl rfl rfl rfl (Nat.le_of_ble_eq_true rfl) (Nat.le_of_ble_eq_true rfl) rfl rfl (k2 c1))
  · refine (x_aload_n 5 i201_5 rfl ?_)
    refine (x_getR 6 68 i201_6 rfl (q_lt hg rfl) (Nat.le_of_ble_eq_true rfl) rfl (hg.2.2.1 67 0 68 rfl) ?_)
    refine (x_bipush 9 7 i201_9 rfl ?_)
    refine (x_iconst 11 0 i201_11 rfl ?_)
    refine (x_iastore 12 i201_12 rfl (Nat.le_of_ble_eq_true rfl) (q_lt hg rfl) (q_inE (hg.2.1 68 706 rfl) (q_vin rfl)) ?_)
    refine (x_iconst 13 0 i201_13 rfl ?_)
    exact (x_iretI 14 i201_14 rfl (k3 c1))

set_option maxRecDepth 20000 in
theorem g201_22 {d n sl : Nat} {ln : Nat → Nat} {di : Nat → Nat → Int32} {dl : Nat → Nat → Int64} {dr : Nat → Nat → Option Nat} {x1 : Int32} {y0 : Int32} {Q : Option Value → q_H → Prop} (hg : q_Gr n ln dr)
    (k2 : (y0 = (0 : Int32)) → Q (some (.int (-2))) (n, sl, ln, di, dl, dr))
    (s4 : (¬ y0 = (0 : Int32)) → ((di 68 7) < (di 68 1)) → vp_in ((66 : Int32) + (di 68 7)) 706)
    (k5 : (¬ y0 = (0 : Int32)) → ((di 68 7) < (di 68 1)) → Q (some (.int (((q_u di 68 (((66 : Int32) + (di 68 7)).toNatClampNeg) x1) 68 7) + (1 : Int32)))) (n, sl, ln, (q_u (q_u di 68 (((66 : Int32) + (di 68 7)).toNatClampNeg) x1) 68 7 (((q_u di 68 (((66 : Int32) + (di 68 7)).toNatClampNeg) x1) 68 7) + (1 : Int32))), dl, dr))
    (k6 : (¬ y0 = (0 : Int32)) → ((di 68 1) ≤ (di 68 7)) → Q (some (.int (-2))) (n, sl, ln, di, dl, dr)) : q_EX q_KD d 201 22 [.ref 67, .int x1] [.int y0] (n, sl, ln, di, dl, dr) Q := by
  refine (x_if_eq 22 41 i201_22 rfl (fun c1 => ?_) (fun c1 => ?_))
  · refine (x_bipush 41 (-2) i201_41 rfl ?_)
    exact (x_iretI 43 i201_43 rfl (k2 c1))
  · refine (x_aload_n 25 i201_25 rfl ?_)
    refine (x_getR 26 68 i201_26 rfl (q_lt hg rfl) (Nat.le_of_ble_eq_true rfl) rfl (hg.2.2.1 67 0 68 rfl) ?_)
    refine (x_bipush 29 7 i201_29 rfl ?_)
    refine (x_iaload 31 (di 68 7) i201_31 rfl (q_lt hg rfl) (q_inE (hg.2.1 68 706 rfl) (q_vin rfl)) rfl ?_)
    refine (x_aload_n 32 i201_32 rfl ?_)
    refine (x_getR 33 68 i201_33 rfl (q_lt hg rfl) (Nat.le_of_ble_eq_true rfl) rfl (hg.2.2.1 67 0 68 rfl) ?_)
    refine (x_iconst 36 1 i201_36 rfl ?_)
    refine (x_iaload 37 (di 68 1) i201_37 rfl (q_lt hg rfl) (q_inE (hg.2.1 68 706 rfl) (q_vin rfl)) rfl ?_)
    refine (x_icmp_lt 38 44 i201_38 rfl (fun c3 => ?_) (fun c3 => ?_))
    · refine (x_aload_n 44 i201_44 rfl ?_)
      refine (x_getR 45 68 i201_45 rfl (q_lt hg rfl) (Nat.le_of_ble_eq_true rfl) rfl (hg.2.2.1 67 0 68 rfl) ?_)
      refine (x_bipush 48 66 i201_48 rfl ?_)
      refine (x_aload_n 50 i201_50 rfl ?_)
      refine (x_getR 51 68 i201_51 rfl (q_lt hg rfl) (Nat.le_of_ble_eq_true rfl) rfl (hg.2.2.1 67 0 68 rfl) ?_)
      refine (x_bipush 54 7 i201_54 rfl ?_)
      refine (x_iaload 56 (di 68 7) i201_56 rfl (q_lt hg rfl) (q_inE (hg.2.1 68 706 rfl) (q_vin rfl)) rfl ?_)
      refine (x_iadd 57 i201_57 ?_)
      refine (x_iload_n 58 i201_58 rfl ?_)
      refine (x_iastore 59 i201_59 rfl (Nat.le_of_ble_eq_true rfl) (q_lt hg rfl) (q_inE (hg.2.1 68 706 rfl) (s4 c1 c3)) ?_)
      refine (x_aload_n 60 i201_60 rfl ?_)
      refine (x_getR 61 68 i201_61 rfl (q_lt hg rfl) (Nat.le_of_ble_eq_true rfl) rfl (hg.2.2.1 67 0 68 rfl) ?_)
      refine (x_bipush 64 7 i201_64 rfl ?_)
      refine (x_dup2 66 i201_66 rfl rfl ?_)
      refine (x_iaload 67 ((q_u di 68 (((66 : Int32) + (di 68 7)).toNatClampNeg) x1) 68 7) i201_67 rfl (q_lt hg rfl) (q_inE (hg.2.1 68 706 rfl) (q_vin rfl)) rfl ?_)
      refine (x_iconst 68 1 i201_68 rfl ?_)
      refine (x_iadd 69 i201_69 ?_)
      refine (x_iastore 70 i201_70 rfl (Nat.le_of_ble_eq_true rfl) (q_lt hg rfl) (q_inE (hg.2.1 68 706 rfl) (q_vin rfl)) ?_)
      refine (x_aload_n 71 i201_71 rfl ?_)
      refine (x_getR 72 68 i201_72 rfl (q_lt hg rfl) (Nat.le_of_ble_eq_true rfl) rfl (hg.2.2.1 67 0 68 rfl) ?_)
      refine (x_bipush 75 7 i201_75 rfl ?_)
      refine (x_iaload 77 (((q_u di 68 (((66 : Int32) + (di 68 7)).toNatClampNeg) x1) 68 7) + (1 : Int32)) i201_77 rfl (q_lt hg rfl) (q_inE (hg.2.1 68 706 rfl) (q_vin rfl)) rfl ?_)
      exact (x_iretI 78 i201_78 rfl (k5 c1 c3))
    · refine (x_bipush 41 (-2) i201_41 rfl ?_)
      exact (x_iretI 43 i201_43 rfl (k6 c1 c3))

/-! SilentHouseModel.who -/
set_option maxRecDepth 20000 in
theorem g202_0 {m n sl : Nat} {ln : Nat → Nat} {di : Nat → Nat → Int32} {dl : Nat → Nat → Int64} {dr : Nat → Nat → Option Nat} {x1 : Int32} {Q : Option Value → q_H → Prop} (hg : q_Gr n ln dr)
    (k2 : ((-1 : Int32) ≤ x1) → q_EX q_KD m 159 0 [.ref 67, .retAddr 0] [] (n, sl, ln, di, dl, dr) (fun r1 h1 => q_EX q_KD (m + 1) 202 11 [.ref 67, .int x1, .retAddr 0, .retAddr 0, .retAddr 0] (r1.toList ++ []) h1 Q))
    (k3 : (x1 < (-1 : Int32)) → Q (some (.int (-1))) (n, sl, ln, di, dl, dr)) : q_EX q_KD (m + 1) 202 0 [.ref 67, .int x1, .retAddr 0, .retAddr 0, .retAddr 0] [] (n, sl, ln, di, dl, dr) Q := by
  refine (x_iload_n 0 i202_0 rfl ?_)
  refine (x_iconst 1 (-1) i202_1 rfl ?_)
  refine (x_icmp_ge 2 7 i202_2 rfl (fun c1 => ?_) (fun c1 => ?_))
  · refine (x_aload_n 7 i202_7 rfl ?_)
    exact (x_cv 8 (as := []) (rs := []) i202_8 rfl rfl rfl rfl (Nat.le_of_ble_eq_true rfl) (q_lt hg rfl) rfl (Or.inr (Nat.le_of_ble_eq_true rfl)) (Nat.le_of_ble_eq_true rfl) rfl rfl (k2 c1))
  · refine (x_iconst 5 (-1) i202_5 rfl ?_)
    exact (x_iretI 6 i202_6 rfl (k3 c1))

set_option maxRecDepth 20000 in
theorem g202_11 {m n sl : Nat} {ln : Nat → Nat} {di : Nat → Nat → Int32} {dl : Nat → Nat → Int64} {dr : Nat → Nat → Option Nat} {x1 : Int32} {Q : Option Value → q_H → Prop} (hg : q_Gr n ln dr)
    (k1 : q_EX q_KD m 183 0 [.ref 67, .retAddr 0, .retAddr 0] [] (n, sl, ln, di, dl, dr) (fun r1 h1 => q_EX q_KD (m + 1) 202 15 [.ref 67, .int x1, .retAddr 0, .retAddr 0, .retAddr 0] (r1.toList ++ []) h1 Q)) : q_EX q_KD (m + 1) 202 11 [.ref 67, .int x1, .retAddr 0, .retAddr 0, .retAddr 0] [] (n, sl, ln, di, dl, dr) Q := by
  refine (x_aload_n 11 i202_11 rfl ?_)
  exact (x_cv 12 (as := []) (rs := []) i202_12 rfl rfl rfl rfl (Nat.le_of_ble_eq_true rfl) (q_lt hg rfl) rfl (Or.inr (Nat.le_of_ble_eq_true rfl)) (Nat.le_of_ble_eq_true rfl) rfl rfl k1)

set_option maxRecDepth 20000 in
theorem g202_15 {d n sl : Nat} {ln : Nat → Nat} {di : Nat → Nat → Int32} {dl : Nat → Nat → Int64} {dr : Nat → Nat → Option Nat} {x1 : Int32} {y0 : Int32} {Q : Option Value → q_H → Prop} (hg : q_Gr n ln dr)
    (k1 : q_EX q_KD d 202 21 [.ref 67, .int x1, .int y0, .int 0, .int 0] [] (n, sl, ln, di, dl, dr) Q) : q_EX q_KD d 202 15 [.ref 67, .int x1, .retAddr 0, .retAddr 0, .retAddr 0] [.int y0] (n, sl, ln, di, dl, dr) Q := by
  refine (x_istore_n 15 (ls2 := [.ref 67, .int x1, .int y0, .retAddr 0, .retAddr 0]) i202_15 (Nat.le_of_ble_eq_true rfl) rfl ?_)
  refine (x_iconst 16 0 i202_16 rfl ?_)
  refine (x_istore_n 17 (ls2 := [.ref 67, .int x1, .int y0, .int 0, .retAddr 0]) i202_17 (Nat.le_of_ble_eq_true rfl) rfl ?_)
  refine (x_iconst 18 0 i202_18 rfl ?_)
  exact (x_istore 19 (ls2 := [.ref 67, .int x1, .int y0, .int 0, .int 0]) i202_19 (Nat.le_of_ble_eq_true rfl) rfl k1)

set_option maxRecDepth 20000 in
theorem g202_21 {m n sl : Nat} {ln : Nat → Nat} {di : Nat → Nat → Int32} {dl : Nat → Nat → Int64} {dr : Nat → Nat → Option Nat} {x1 : Int32} {x2 : Int32} {x3 : Int32} {x4 : Int32} {Q : Option Value → q_H → Prop} (hg : q_Gr n ln dr)
    (k3 : ((64 : Int32) ≤ x4) → (¬ x1 = (-1 : Int32)) → Q (some (.int (-1))) (n, sl, ln, di, dl, dr))
    (k4 : ((64 : Int32) ≤ x4) → (x1 = (-1 : Int32)) → Q (some (.int x3)) (n, sl, ln, di, dl, dr))
    (k6 : (x4 < (64 : Int32)) → (¬ (x4 &&& (x2 ^^^ (-1 : Int32))) = (0 : Int32)) → q_EX q_KD (m + 1) 202 21 [.ref 67, .int x1, .int x2, .int x3, .int (x4 + 1)] [] (n, sl, ln, di, dl, dr) Q)
    (k7 : (x4 < (64 : Int32)) → ((x4 &&& (x2 ^^^ (-1 : Int32))) = (0 : Int32)) → q_EX q_KD m 203 0 [.ref 67, .int x4, .retAddr 0] [] (n, sl, ln, di, dl, dr) (fun r1 h1 => q_EX q_KD (m + 1) 202 43 [.ref 67, .int x1, .int x2, .int x3, .int x4] (r1.toList ++ []) h1 Q)) : q_EX q_KD (m + 1) 202 21 [.ref 67, .int x1, .int x2, .int x3, .int x4] [] (n, sl, ln, di, dl, dr) Q := by
  refine (x_iload 21 i202_21 rfl ?_)
  refine (x_bipush 23 64 i202_23 rfl ?_)
  refine (x_icmp_ge 25 66 i202_25 rfl (fun c1 => ?_) (fun c1 => ?_))
  · refine (x_iload_n 66 i202_66 rfl ?_)
    refine (x_iconst 67 (-1) i202_67 rfl ?_)
    refine (x_icmp_ne 68 75 i202_68 rfl (fun c2 => ?_) (fun c2 => ?_))
    · refine (x_iconst 75 (-1) i202_75 rfl ?_)
      exact (x_iretI 76 i202_76 rfl (k3 c1 c2))
    · refine (x_iload_n 71 i202_71 rfl ?_)
      refine (x_goto 72 76 i202_72 rfl ?_)
      exact (x_iretI 76 i202_76 rfl (k4 c1 c2))
  · refine (x_iload 28 i202_28 rfl ?_)
    refine (x_iload_n 30 i202_30 rfl ?_)
    refine (x_iconst 31 (-1) i202_31 rfl ?_)
    refine (x_ixor 32 i202_32 ?_)
    refine (x_iand 33 i202_33 ?_)
    refine (x_if_ne 34 60 i202_34 rfl (fun c5 => ?_) (fun c5 => ?_))
    · refine (x_iinc 60 (x4 + 1) (ls2 := [.ref 67, .int x1, .int x2, .int x3, .int (x4 + 1)]) i202_60 rfl (Nat.le_of_ble_eq_true rfl) rfl rfl ?_)
      exact (x_goto 63 21 i202_63 rfl (k6 c1 c5))
    · refine (x_aload_n 37 i202_37 rfl ?_)
      refine (x_iload 38 i202_38 rfl ?_)
      exact (x_cv 40 (as := [.int x4]) (rs := []) i202_40 rfl rfl rfl rfl (Nat.le_of_ble_eq_true rfl) (q_lt hg rfl) rfl (Or.inr (Nat.le_of_ble_eq_true rfl)) (Nat.le_of_ble_eq_true rfl) rfl rfl (k7 c1 c5))

set_option maxRecDepth 20000 in
theorem g202_43 {d n sl : Nat} {ln : Nat → Nat} {di : Nat → Nat → Int32} {dl : Nat → Nat → Int64} {dr : Nat → Nat → Option Nat} {x1 : Int32} {x2 : Int32} {x3 : Int32} {x4 : Int32} {y0 : Int32} {Q : Option Value → q_H → Prop} (hg : q_Gr n ln dr)
    (k3 : (¬ y0 = (0 : Int32)) → (¬ x3 = x1) → q_EX q_KD d 202 21 [.ref 67, .int x1, .int x2, .int (x3 + 1), .int (x4 + 1)] [] (n, sl, ln, di, dl, dr) Q)
    (k4 : (¬ y0 = (0 : Int32)) → (x3 = x1) → Q (some (.int x4)) (n, sl, ln, di, dl, dr))
    (k5 : (y0 = (0 : Int32)) → q_EX q_KD d 202 21 [.ref 67, .int x1, .int x2, .int x3, .int (x4 + 1)] [] (n, sl, ln, di, dl, dr) Q) : q_EX q_KD d 202 43 [.ref 67, .int x1, .int x2, .int x3, .int x4] [.int y0] (n, sl, ln, di, dl, dr) Q := by
  refine (x_if_ne 43 49 i202_43 rfl (fun c1 => ?_) (fun c1 => ?_))
  · refine (x_iload_n 49 i202_49 rfl ?_)
    refine (x_iload_n 50 i202_50 rfl ?_)
    refine (x_icmp_ne 51 57 i202_51 rfl (fun c2 => ?_) (fun c2 => ?_))
    · refine (x_iinc 57 (x3 + 1) (ls2 := [.ref 67, .int x1, .int x2, .int (x3 + 1), .int x4]) i202_57 rfl (Nat.le_of_ble_eq_true rfl) rfl rfl ?_)
      refine (x_iinc 60 (x4 + 1) (ls2 := [.ref 67, .int x1, .int x2, .int (x3 + 1), .int (x4 + 1)]) i202_60 rfl (Nat.le_of_ble_eq_true rfl) rfl rfl ?_)
      exact (x_goto 63 21 i202_63 rfl (k3 c1 c2))
    · refine (x_iload 54 i202_54 rfl ?_)
      exact (x_iretI 56 i202_56 rfl (k4 c1 c2))
  · refine (x_goto 46 60 i202_46 rfl ?_)
    refine (x_iinc 60 (x4 + 1) (ls2 := [.ref 67, .int x1, .int x2, .int x3, .int (x4 + 1)]) i202_60 rfl (Nat.le_of_ble_eq_true rfl) rfl rfl ?_)
    exact (x_goto 63 21 i202_63 rfl (k5 c1))

/-! SilentHouseModel.canBe -/
set_option maxRecDepth 20000 in
theorem g203_0 {d n sl : Nat} {ln : Nat → Nat} {di : Nat → Nat → Int32} {dl : Nat → Nat → Int64} {dr : Nat → Nat → Option Nat} {x1 : Int32} {Q : Option Value → q_H → Prop} (hg : q_Gr n ln dr)
    (k1 : q_EX q_KD d 203 2 [.ref 67, .int x1, .int 0] [] (n, sl, ln, di, dl, dr) Q) : q_EX q_KD d 203 0 [.ref 67, .int x1, .retAddr 0] [] (n, sl, ln, di, dl, dr) Q := by
  refine (x_iconst 0 0 i203_0 rfl ?_)
  exact (x_istore_n 1 (ls2 := [.ref 67, .int x1, .int 0]) i203_1 (Nat.le_of_ble_eq_true rfl) rfl k1)

set_option maxRecDepth 20000 in
theorem g203_2 {m n sl : Nat} {ln : Nat → Nat} {di : Nat → Nat → Int32} {dl : Nat → Nat → Int64} {dr : Nat → Nat → Option Nat} {x1 : Int32} {x2 : Int32} {Q : Option Value → q_H → Prop} (hg : q_Gr n ln dr)
    (k2 : ((di 68 7) ≤ x2) → Q (some (.int 1)) (n, sl, ln, di, dl, dr))
    (k3 : (x2 < (di 68 7)) → q_EX q_KD m 162 0 [.ref 67, .int x2, .int x1] [] (n, sl, ln, di, dl, dr) (fun r1 h1 => q_EX q_KD (m + 1) 203 19 [.ref 67, .int x1, .int x2] (r1.toList ++ []) h1 Q)) : q_EX q_KD (m + 1) 203 2 [.ref 67, .int x1, .int x2] [] (n, sl, ln, di, dl, dr) Q := by
  refine (x_iload_n 2 i203_2 rfl ?_)
  refine (x_aload_n 3 i203_3 rfl ?_)
  refine (x_getR 4 68 i203_4 rfl (q_lt hg rfl) (Nat.le_of_ble_eq_true rfl) rfl (hg.2.2.1 67 0 68 rfl) ?_)
  refine (x_bipush 7 7 i203_7 rfl ?_)
  refine (x_iaload 9 (di 68 7) i203_9 rfl (q_lt hg rfl) (q_inE (hg.2.1 68 706 rfl) (q_vin rfl)) rfl ?_)
  refine (x_icmp_ge 10 39 i203_10 rfl (fun c1 => ?_) (fun c1 => ?_))
  · refine (x_iconst 39 1 i203_39 rfl ?_)
    exact (x_iret1 40 i203_40 rfl (k2 c1))
  · refine (x_aload_n 13 i203_13 rfl ?_)
    refine (x_iload_n 14 i203_14 rfl ?_)
    refine (x_iload_n 15 i203_15 rfl ?_)
    exact (x_cv 16 (as := [.int x2, .int x1]) (rs := []) i203_16 rfl rfl rfl rfl (Nat.le_of_ble_eq_true rfl) (q_lt hg rfl) rfl (Or.inr (Nat.le_of_ble_eq_true rfl)) (Nat.le_of_ble_eq_true rfl) rfl rfl (k3 c1))

set_option maxRecDepth 20000 in
theorem g203_19 {d n sl : Nat} {ln : Nat → Nat} {di : Nat → Nat → Int32} {dl : Nat → Nat → Int64} {dr : Nat → Nat → Option Nat} {x1 : Int32} {x2 : Int32} {y0 : Int32} {Q : Option Value → q_H → Prop} (hg : q_Gr n ln dr)
    (s1 : vp_in ((66 : Int32) + x2) 706)
    (k3 : (y0 = (di 68 (((66 : Int32) + x2).toNatClampNeg))) → q_EX q_KD d 203 2 [.ref 67, .int x1, .int (x2 + 1)] [] (n, sl, ln, di, dl, dr) Q)
    (k4 : (¬ y0 = (di 68 (((66 : Int32) + x2).toNatClampNeg))) → Q (some (.int 0)) (n, sl, ln, di, dl, dr)) : q_EX q_KD d 203 19 [.ref 67, .int x1, .int x2] [.int y0] (n, sl, ln, di, dl, dr) Q := by
  refine (x_aload_n 19 i203_19 rfl ?_)
  refine (x_getR 20 68 i203_20 rfl (q_lt hg rfl) (Nat.le_of_ble_eq_true rfl) rfl (hg.2.2.1 67 0 68 rfl) ?_)
  refine (x_bipush 23 66 i203_23 rfl ?_)
  refine (x_iload_n 25 i203_25 rfl ?_)
  refine (x_iadd 26 i203_26 ?_)
  refine (x_iaload 27 (di 68 (((66 : Int32) + x2).toNatClampNeg)) i203_27 rfl (q_lt hg rfl) (q_inE (hg.2.1 68 706 rfl) s1) rfl ?_)
  refine (x_icmp_eq 28 33 i203_28 rfl (fun c2 => ?_) (fun c2 => ?_))
  · refine (x_iinc 33 (x2 + 1) (ls2 := [.ref 67, .int x1, .int (x2 + 1)]) i203_33 rfl (Nat.le_of_ble_eq_true rfl) rfl rfl ?_)
    exact (x_goto 36 2 i203_36 rfl (k3 c2))
  · refine (x_iconst 31 0 i203_31 rfl ?_)
    exact (x_iret0 32 i203_32 rfl (k4 c2))

/-! SilentHouseModel.image -/
set_option maxRecDepth 20000 in
theorem g204_0 {m n sl : Nat} {ln : Nat → Nat} {di : Nat → Nat → Int32} {dl : Nat → Nat → Int64} {dr : Nat → Nat → Option Nat} {Q : Option Value → q_H → Prop} (hg : q_Gr n ln dr)
    (k1 : q_EX q_KD m 116 0 [.ref 68, .ref 69, .retAddr 0] [] (n, sl, ln, di, dl, dr) (fun r1 h1 => q_EX q_KD (m + 1) 204 11 [.ref 67] (r1.toList ++ []) h1 Q)) : q_EX q_KD (m + 1) 204 0 [.ref 67] [] (n, sl, ln, di, dl, dr) Q := by
  refine (x_aload_n 0 i204_0 rfl ?_)
  refine (x_getR 1 68 i204_1 rfl (q_lt hg rfl) (Nat.le_of_ble_eq_true rfl) rfl (hg.2.2.1 67 0 68 rfl) ?_)
  refine (x_aload_n 4 i204_4 rfl ?_)
  refine (x_getR 5 69 i204_5 rfl (q_lt hg rfl) (Nat.le_of_ble_eq_true rfl) rfl (hg.2.2.1 67 1 69 rfl) ?_)
  exact (x_cs 8 (as := [.ref 68, .ref 69]) (rs := []) i204_8 rfl rfl rfl rfl (Nat.le_of_ble_eq_true rfl) (Nat.le_of_ble_eq_true rfl) rfl rfl k1)

set_option maxRecDepth 20000 in
theorem g204_11 {d n sl : Nat} {ln : Nat → Nat} {di : Nat → Nat → Int32} {dl : Nat → Nat → Int64} {dr : Nat → Nat → Option Nat} {Q : Option Value → q_H → Prop} (hg : q_Gr n ln dr)
    (k1 : Q (some (.int (di 68 2))) (n, sl, ln, di, dl, dr)) : q_EX q_KD d 204 11 [.ref 67] [] (n, sl, ln, di, dl, dr) Q := by
  refine (x_aload_n 11 i204_11 rfl ?_)
  refine (x_getR 12 68 i204_12 rfl (q_lt hg rfl) (Nat.le_of_ble_eq_true rfl) rfl (hg.2.2.1 67 0 68 rfl) ?_)
  refine (x_iconst 15 2 i204_15 rfl ?_)
  refine (x_iaload 16 (di 68 2) i204_16 rfl (q_lt hg rfl) (q_inE (hg.2.1 68 706 rfl) (q_vin rfl)) rfl ?_)
  exact (x_iretI 17 i204_17 rfl k1)

/-! SilentHouseModel.back -/
set_option maxRecDepth 20000 in
theorem g205_0 {m n sl : Nat} {ln : Nat → Nat} {di : Nat → Nat → Int32} {dl : Nat → Nat → Int64} {dr : Nat → Nat → Option Nat} {Q : Option Value → q_H → Prop} (hg : q_Gr n ln dr)
    (k1 : q_EX q_KD m 116 0 [.ref 69, .ref 68, .retAddr 0] [] (n, sl, ln, di, dl, dr) (fun r1 h1 => q_EX q_KD (m + 1) 205 11 [.ref 67] (r1.toList ++ []) h1 Q)) : q_EX q_KD (m + 1) 205 0 [.ref 67] [] (n, sl, ln, di, dl, dr) Q := by
  refine (x_aload_n 0 i205_0 rfl ?_)
  refine (x_getR 1 69 i205_1 rfl (q_lt hg rfl) (Nat.le_of_ble_eq_true rfl) rfl (hg.2.2.1 67 1 69 rfl) ?_)
  refine (x_aload_n 4 i205_4 rfl ?_)
  refine (x_getR 5 68 i205_5 rfl (q_lt hg rfl) (Nat.le_of_ble_eq_true rfl) rfl (hg.2.2.1 67 0 68 rfl) ?_)
  exact (x_cs 8 (as := [.ref 69, .ref 68]) (rs := []) i205_8 rfl rfl rfl rfl (Nat.le_of_ble_eq_true rfl) (Nat.le_of_ble_eq_true rfl) rfl rfl k1)

set_option maxRecDepth 20000 in
theorem g205_11 {d n sl : Nat} {ln : Nat → Nat} {di : Nat → Nat → Int32} {dl : Nat → Nat → Int64} {dr : Nat → Nat → Option Nat} {Q : Option Value → q_H → Prop} (hg : q_Gr n ln dr)
    (k1 : Q (some (.int (di 68 2))) (n, sl, ln, di, dl, dr)) : q_EX q_KD d 205 11 [.ref 67] [] (n, sl, ln, di, dl, dr) Q := by
  refine (x_aload_n 11 i205_11 rfl ?_)
  refine (x_getR 12 68 i205_12 rfl (q_lt hg rfl) (Nat.le_of_ble_eq_true rfl) rfl (hg.2.2.1 67 0 68 rfl) ?_)
  refine (x_iconst 15 2 i205_15 rfl ?_)
  refine (x_iaload 16 (di 68 2) i205_16 rfl (q_lt hg rfl) (q_inE (hg.2.1 68 706 rfl) (q_vin rfl)) rfl ?_)
  exact (x_iretI 17 i205_17 rfl k1)

/-! SilentHouseModel.about -/
set_option maxRecDepth 20000 in
theorem g206_0 {m n sl : Nat} {ln : Nat → Nat} {di : Nat → Nat → Int32} {dl : Nat → Nat → Int64} {dr : Nat → Nat → Option Nat} {x1 : Int32} {Q : Option Value → q_H → Prop} (hg : q_Gr n ln dr)
    (k1 : q_EX q_KD m 118 0 [.int x1, .int 10, .int 25] [] (n, sl, ln, di, dl, dr) (fun r1 h1 => q_EX q_KD (m + 1) 206 8 [.ref 67, .int x1] (r1.toList ++ []) h1 Q)) : q_EX q_KD (m + 1) 206 0 [.ref 67, .int x1] [] (n, sl, ln, di, dl, dr) Q := by
  refine (x_iload_n 0 i206_0 rfl ?_)
  refine (x_bipush 1 10 i206_1 rfl ?_)
  refine (x_bipush 3 25 i206_3 rfl ?_)
  exact (x_cs 5 (as := [.int x1, .int 10, .int 25]) (rs := []) i206_5 rfl rfl rfl rfl (Nat.le_of_ble_eq_true rfl) (Nat.le_of_ble_eq_true rfl) rfl rfl k1)

set_option maxRecDepth 20000 in
theorem g206_8 {m n sl : Nat} {ln : Nat → Nat} {di : Nat → Nat → Int32} {dl : Nat → Nat → Int64} {dr : Nat → Nat → Option Nat} {x1 : Int32} {y0 : Int32} {Q : Option Value → q_H → Prop} (hg : q_Gr n ln dr)
    (k2 : (y0 = (0 : Int32)) → q_EX q_KD m 118 0 [.int x1, .int 0, .int 7] [] (n, sl, ln, di, dl, dr) (fun r1 h1 => q_EX q_KD (m + 1) 206 27 [.ref 67, .int x1] (r1.toList ++ []) h1 Q))
    (k3 : (¬ y0 = (0 : Int32)) → q_EX q_KD m 179 0 [.ref 67, .int (x1 - (10 : Int32)), .retAddr 0] [] (n, sl, ln, di, dl, dr) (fun r1 h1 => q_EX q_KD (m + 1) 206 19 [.retAddr 0, .retAddr 0] (r1.toList ++ []) h1 Q)) : q_EX q_KD (m + 1) 206 8 [.ref 67, .int x1] [.int y0] (n, sl, ln, di, dl, dr) Q := by
  refine (x_if_eq 8 20 i206_8 rfl (fun c1 => ?_) (fun c1 => ?_))
  · refine (x_iload_n 20 i206_20 rfl ?_)
    refine (x_iconst 21 0 i206_21 rfl ?_)
    refine (x_bipush 22 7 i206_22 rfl ?_)
    exact (x_cs 24 (as := [.int x1, .int 0, .int 7]) (rs := []) i206_24 rfl rfl rfl rfl (Nat.le_of_ble_eq_true rfl) (Nat.le_of_ble_eq_true rfl) rfl rfl (k2 c1))
  · refine (x_aload_n 11 i206_11 rfl ?_)
    refine (x_iload_n 12 i206_12 rfl ?_)
    refine (x_bipush 13 10 i206_13 rfl ?_)
    refine (x_isub 15 i206_15 ?_)
    refine (xx_loc (ls := [.retAddr 0, .retAddr 0]) (ls' := [.ref 67, .int x1]) ⟨Or.inr rfl, Or.inr rfl, trivial⟩ ?_)
    exact (x_cv 16 (as := [.int (x1 - (10 : Int32))]) (rs := []) i206_16 rfl rfl rfl rfl (Nat.le_of_ble_eq_true rfl) (q_lt hg rfl) rfl (Or.inr (Nat.le_of_ble_eq_true rfl)) (Nat.le_of_ble_eq_true rfl) rfl rfl (k3 c1))

set_option maxRecDepth 20000 in
theorem g206_27 {d n sl : Nat} {ln : Nat → Nat} {di : Nat → Nat → Int32} {dl : Nat → Nat → Int64} {dr : Nat → Nat → Option Nat} {x1 : Int32} {y0 : Int32} {Q : Option Value → q_H → Prop} (hg : q_Gr n ln dr)
    (k3 : (y0 = (0 : Int32)) → (¬ x1 = (8 : Int32)) → Q (some (.int (-2))) (n, sl, ln, di, dl, dr))
    (k4 : (y0 = (0 : Int32)) → (x1 = (8 : Int32)) → Q (some (.int (di 67 4))) (n, sl, ln, di, dl, dr))
    (s5 : (¬ y0 = (0 : Int32)) → vp_in x1 706)
    (k6 : (¬ y0 = (0 : Int32)) → Q (some (.int (di 68 x1.toNatClampNeg))) (n, sl, ln, di, dl, dr)) : q_EX q_KD d 206 27 [.ref 67, .int x1] [.int y0] (n, sl, ln, di, dl, dr) Q := by
  refine (x_if_eq 27 39 i206_27 rfl (fun c1 => ?_) (fun c1 => ?_))
  · refine (x_iload_n 39 i206_39 rfl ?_)
    refine (x_bipush 40 8 i206_40 rfl ?_)
    refine (x_icmp_ne 42 52 i206_42 rfl (fun c2 => ?_) (fun c2 => ?_))
    · refine (x_bipush 52 (-2) i206_52 rfl ?_)
      exact (x_iretI 54 i206_54 rfl (k3 c1 c2))
    · refine (x_aload_n 45 i206_45 rfl ?_)
      refine (x_getI 46 4 (di 67 4) i206_46 rfl (q_lt hg rfl) (Nat.le_of_ble_eq_true rfl) (Or.inl rfl) rfl rfl ?_)
      refine (x_goto 49 54 i206_49 rfl ?_)
      exact (x_iretI 54 i206_54 rfl (k4 c1 c2))
  · refine (x_aload_n 30 i206_30 rfl ?_)
    refine (x_getR 31 68 i206_31 rfl (q_lt hg rfl) (Nat.le_of_ble_eq_true rfl) rfl (hg.2.2.1 67 0 68 rfl) ?_)
    refine (x_iload_n 34 i206_34 rfl ?_)
    refine (x_iaload 35 (di 68 x1.toNatClampNeg) i206_35 rfl (q_lt hg rfl) (q_inE (hg.2.1 68 706 rfl) (s5 c1)) rfl ?_)
    refine (x_goto 36 54 i206_36 rfl ?_)
    exact (x_iretI 54 i206_54 rfl (k6 c1))

set_option maxRecDepth 20000 in
theorem g206_19 {d n sl : Nat} {ln : Nat → Nat} {di : Nat → Nat → Int32} {dl : Nat → Nat → Int64} {dr : Nat → Nat → Option Nat} {y0 : Int32} {Q : Option Value → q_H → Prop} (hg : q_Gr n ln dr)
    (k1 : Q (some (.int y0)) (n, sl, ln, di, dl, dr)) : q_EX q_KD d 206 19 [.retAddr 0, .retAddr 0] [.int y0] (n, sl, ln, di, dl, dr) Q := by
  exact (x_iretI 19 i206_19 rfl k1)
