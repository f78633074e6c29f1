theorem u_lt {n a : Nat} (hg : 84 ≤ n) (h : Nat.ble (a + 1) 84 = true) : a < n := Nat.lt_of_lt_of_le (Nat.le_of_ble_eq_true h) hg
set_option maxRecDepth 20000 in
theorem l0_18 {m n sl : Nat} {ln : Nat → Nat} {di : Nat → Nat → Int32} {dl : Nat → Nat → Int64} {dr : Nat → Nat → Option Nat} {x3 : Int32} {Q : Option Value → q_H → Prop} (hg : 84 ≤ n)
    (k2 : (((Int32.ofNat (ln 0)) - (6 : Int32)) < x3) → Q (some (.int 1)) (n, sl, ln, di, dl, dr))
    (s3 : (x3 ≤ ((Int32.ofNat (ln 0)) - (6 : Int32))) → vp_in x3 (ln 0))
    (s5 : (x3 ≤ ((Int32.ofNat (ln 0)) - (6 : Int32))) → (((di 0 x3.toNatClampNeg) &&& (31 : Int32)) = 0) → vp_in (x3 + (1 : Int32)) (ln 0))
    (s6 : (x3 ≤ ((Int32.ofNat (ln 0)) - (6 : Int32))) → (((di 0 x3.toNatClampNeg) &&& (31 : Int32)) = 0) → vp_in (x3 + (2 : Int32)) (ln 0))
    (s7 : (x3 ≤ ((Int32.ofNat (ln 0)) - (6 : Int32))) → (((di 0 x3.toNatClampNeg) &&& (31 : Int32)) = 0) → vp_in (x3 + (3 : Int32)) (ln 0))
    (k8 : (x3 ≤ ((Int32.ofNat (ln 0)) - (6 : Int32))) → (((di 0 x3.toNatClampNeg) &&& (31 : Int32)) = 0) → q_EX q_KD m 11 0 [.ref 6, .int (di 0 ((x3 + (1 : Int32)).toNatClampNeg)), .int (di 0 ((x3 + (2 : Int32)).toNatClampNeg)), .int (di 0 ((x3 + (3 : Int32)).toNatClampNeg))] [] (n, sl, ln, di, dl, dr) (fun r1 h1 => q_EX q_KD (m + 1) 0 171 [.ref 0, .ref 6, .ref 67, .int x3] (r1.toList ++ []) h1 Q))
    (s9 : (x3 ≤ ((Int32.ofNat (ln 0)) - (6 : Int32))) → (((di 0 x3.toNatClampNeg) &&& (31 : Int32)) = 1) → vp_in (x3 + (1 : Int32)) (ln 0))
    (s10 : (x3 ≤ ((Int32.ofNat (ln 0)) - (6 : Int32))) → (((di 0 x3.toNatClampNeg) &&& (31 : Int32)) = 1) → vp_in (x3 + (2 : Int32)) (ln 0))
    (k11 : (x3 ≤ ((Int32.ofNat (ln 0)) - (6 : Int32))) → (((di 0 x3.toNatClampNeg) &&& (31 : Int32)) = 1) → q_EX q_KD m 14 0 [.ref 6, .int (di 0 ((x3 + (1 : Int32)).toNatClampNeg)), .int (di 0 ((x3 + (2 : Int32)).toNatClampNeg))] [] (n, sl, ln, di, dl, dr) (fun r1 h1 => q_EX q_KD (m + 1) 0 209 [.ref 0, .ref 6, .ref 67, .int x3] (r1.toList ++ []) h1 Q))
    (s12 : (x3 ≤ ((Int32.ofNat (ln 0)) - (6 : Int32))) → (((di 0 x3.toNatClampNeg) &&& (31 : Int32)) = 2) → vp_in (x3 + (1 : Int32)) (ln 0))
    (k13 : (x3 ≤ ((Int32.ofNat (ln 0)) - (6 : Int32))) → (((di 0 x3.toNatClampNeg) &&& (31 : Int32)) = 2) → q_EX q_KD m 17 0 [.ref 6, .int (di 0 ((x3 + (1 : Int32)).toNatClampNeg))] [] (n, sl, ln, di, dl, dr) (fun r1 h1 => q_EX q_KD (m + 1) 0 237 [.ref 0, .ref 6, .ref 67, .int x3] (r1.toList ++ []) h1 Q))
    (s14 : (x3 ≤ ((Int32.ofNat (ln 0)) - (6 : Int32))) → (((di 0 x3.toNatClampNeg) &&& (31 : Int32)) = 3) → vp_in (x3 + (1 : Int32)) (ln 0))
    (s15 : (x3 ≤ ((Int32.ofNat (ln 0)) - (6 : Int32))) → (((di 0 x3.toNatClampNeg) &&& (31 : Int32)) = 3) → vp_in (x3 + (2 : Int32)) (ln 0))
    (s16 : (x3 ≤ ((Int32.ofNat (ln 0)) - (6 : Int32))) → (((di 0 x3.toNatClampNeg) &&& (31 : Int32)) = 3) → vp_in (x3 + (3 : Int32)) (ln 0))
    (s17 : (x3 ≤ ((Int32.ofNat (ln 0)) - (6 : Int32))) → (((di 0 x3.toNatClampNeg) &&& (31 : Int32)) = 3) → vp_in (x3 + (4 : Int32)) (ln 0))
    (s18 : (x3 ≤ ((Int32.ofNat (ln 0)) - (6 : Int32))) → (((di 0 x3.toNatClampNeg) &&& (31 : Int32)) = 3) → vp_in (x3 + (5 : Int32)) (ln 0))
    (k19 : (x3 ≤ ((Int32.ofNat (ln 0)) - (6 : Int32))) → (((di 0 x3.toNatClampNeg) &&& (31 : Int32)) = 3) → q_EX q_KD m 18 0 [.ref 6, .int (di 0 ((x3 + (1 : Int32)).toNatClampNeg)), .int (di 0 ((x3 + (2 : Int32)).toNatClampNeg)), .int (di 0 ((x3 + (3 : Int32)).toNatClampNeg)), .int (di 0 ((x3 + (4 : Int32)).toNatClampNeg)), .int (di 0 ((x3 + (5 : Int32)).toNatClampNeg)), .retAddr 0] [] (n, sl, ln, di, dl, dr) (fun r1 h1 => q_EX q_KD (m + 1) 0 280 [.ref 0, .ref 6, .ref 67, .int x3] (r1.toList ++ []) h1 Q))
    (s20 : (x3 ≤ ((Int32.ofNat (ln 0)) - (6 : Int32))) → (((di 0 x3.toNatClampNeg) &&& (31 : Int32)) = 4) → vp_in (x3 + (1 : Int32)) (ln 0))
    (k21 : (x3 ≤ ((Int32.ofNat (ln 0)) - (6 : Int32))) → (((di 0 x3.toNatClampNeg) &&& (31 : Int32)) = 4) → q_EX q_KD m 20 0 [.ref 6, .int (di 0 ((x3 + (1 : Int32)).toNatClampNeg))] [] (n, sl, ln, di, dl, dr) (fun r1 h1 => q_EX q_KD (m + 1) 0 323 [.ref 0, .ref 6, .ref 67, .int x3] (r1.toList ++ []) h1 Q))
    (k22 : (x3 ≤ ((Int32.ofNat (ln 0)) - (6 : Int32))) → (((di 0 x3.toNatClampNeg) &&& (31 : Int32)) = 5) → q_EX q_KD m 21 0 [.ref 6, .retAddr 0] [] (n, sl, ln, di, dl, dr) (fun r1 h1 => q_EX q_KD (m + 1) 0 341 [.ref 0, .ref 6, .ref 67, .int x3] (r1.toList ++ []) h1 Q))
    (s23 : (x3 ≤ ((Int32.ofNat (ln 0)) - (6 : Int32))) → (((di 0 x3.toNatClampNeg) &&& (31 : Int32)) = 6) → vp_in (x3 + (1 : Int32)) (ln 0))
    (k24 : (x3 ≤ ((Int32.ofNat (ln 0)) - (6 : Int32))) → (((di 0 x3.toNatClampNeg) &&& (31 : Int32)) = 6) → q_EX q_KD m 57 0 [.ref 6, .int (di 0 ((x3 + (1 : Int32)).toNatClampNeg))] [] (n, sl, ln, di, dl, dr) (fun r1 h1 => q_EX q_KD (m + 1) 0 359 [.ref 0, .ref 6, .ref 67, .int x3] (r1.toList ++ []) h1 Q))
    (s25 : (x3 ≤ ((Int32.ofNat (ln 0)) - (6 : Int32))) → (((di 0 x3.toNatClampNeg) &&& (31 : Int32)) = 7) → vp_in (x3 + (1 : Int32)) (ln 0))
    (k26 : (x3 ≤ ((Int32.ofNat (ln 0)) - (6 : Int32))) → (((di 0 x3.toNatClampNeg) &&& (31 : Int32)) = 7) → q_EX q_KD m 58 0 [.ref 6, .int (di 0 ((x3 + (1 : Int32)).toNatClampNeg))] [] (n, sl, ln, di, dl, dr) (fun r1 h1 => q_EX q_KD (m + 1) 0 382 [.ref 0, .ref 6, .ref 67, .int x3] (r1.toList ++ []) h1 Q))
    (s27 : (x3 ≤ ((Int32.ofNat (ln 0)) - (6 : Int32))) → (((di 0 x3.toNatClampNeg) &&& (31 : Int32)) = 8) → vp_in (x3 + (1 : Int32)) (ln 0))
    (s28 : (x3 ≤ ((Int32.ofNat (ln 0)) - (6 : Int32))) → (((di 0 x3.toNatClampNeg) &&& (31 : Int32)) = 8) → vp_in (x3 + (2 : Int32)) (ln 0))
    (k29 : (x3 ≤ ((Int32.ofNat (ln 0)) - (6 : Int32))) → (((di 0 x3.toNatClampNeg) &&& (31 : Int32)) = 8) → q_EX q_KD m 60 0 [.ref 6, .int (di 0 ((x3 + (1 : Int32)).toNatClampNeg)), .int (di 0 ((x3 + (2 : Int32)).toNatClampNeg))] [] (n, sl, ln, di, dl, dr) (fun r1 h1 => q_EX q_KD (m + 1) 0 410 [.ref 0, .ref 6, .ref 67, .int x3] (r1.toList ++ []) h1 Q))
    (s30 : (x3 ≤ ((Int32.ofNat (ln 0)) - (6 : Int32))) → (((di 0 x3.toNatClampNeg) &&& (31 : Int32)) = 9) → vp_in (x3 + (1 : Int32)) (ln 0))
    (s31 : (x3 ≤ ((Int32.ofNat (ln 0)) - (6 : Int32))) → (((di 0 x3.toNatClampNeg) &&& (31 : Int32)) = 9) → vp_in (x3 + (2 : Int32)) (ln 0))
    (k33 : (x3 ≤ ((Int32.ofNat (ln 0)) - (6 : Int32))) → (((di 0 x3.toNatClampNeg) &&& (31 : Int32)) = 9) → ((di 0 ((x3 + (2 : Int32)).toNatClampNeg)) = (0 : Int32)) → q_EX q_KD m 65 0 [.ref 6, .int (di 0 ((x3 + (1 : Int32)).toNatClampNeg)), .int 0] [] (n, sl, ln, di, dl, dr) (fun r1 h1 => q_EX q_KD (m + 1) 0 451 [.ref 0, .ref 6, .ref 67, .int x3] (r1.toList ++ []) h1 Q))
    (k34 : (x3 ≤ ((Int32.ofNat (ln 0)) - (6 : Int32))) → (((di 0 x3.toNatClampNeg) &&& (31 : Int32)) = 9) → (¬ (di 0 ((x3 + (2 : Int32)).toNatClampNeg)) = (0 : Int32)) → q_EX q_KD m 65 0 [.ref 6, .int (di 0 ((x3 + (1 : Int32)).toNatClampNeg)), .int 1] [] (n, sl, ln, di, dl, dr) (fun r1 h1 => q_EX q_KD (m + 1) 0 451 [.ref 0, .ref 6, .ref 67, .int x3] (r1.toList ++ []) h1 Q))
    (k35 : (x3 ≤ ((Int32.ofNat (ln 0)) - (6 : Int32))) → (((di 0 x3.toNatClampNeg) &&& (31 : Int32)) = 10) → q_EX q_KD m 67 0 [.ref 6] [] (n, sl, ln, di, dl, dr) (fun r1 h1 => q_EX q_KD (m + 1) 0 482 [.ref 0, .ref 6, .ref 67, .int x3] (r1.toList ++ []) h1 Q))
    (s36 : (x3 ≤ ((Int32.ofNat (ln 0)) - (6 : Int32))) → (((di 0 x3.toNatClampNeg) &&& (31 : Int32)) = 11) → vp_in (x3 + (1 : Int32)) (ln 0))
    (k37 : (x3 ≤ ((Int32.ofNat (ln 0)) - (6 : Int32))) → (((di 0 x3.toNatClampNeg) &&& (31 : Int32)) = 11) → q_EX q_KD m 82 0 [.ref 6, .int (di 0 ((x3 + (1 : Int32)).toNatClampNeg)), .retAddr 0, .retAddr 0] [] (n, sl, ln, di, dl, dr) (fun r1 h1 => q_EX q_KD (m + 1) 0 500 [.ref 0, .ref 6, .ref 67, .int x3] (r1.toList ++ []) h1 Q))
    (k38 : (x3 ≤ ((Int32.ofNat (ln 0)) - (6 : Int32))) → (((di 0 x3.toNatClampNeg) &&& (31 : Int32)) = 12) → q_EX q_KD m 84 0 [.ref 6] [] (n, sl, ln, di, dl, dr) (fun r1 h1 => q_EX q_KD (m + 1) 0 518 [.ref 0, .ref 6, .ref 67, .int x3] (r1.toList ++ []) h1 Q))
    (s39 : (x3 ≤ ((Int32.ofNat (ln 0)) - (6 : Int32))) → (((di 0 x3.toNatClampNeg) &&& (31 : Int32)) = 13) → vp_in (x3 + (1 : Int32)) (ln 0))
    (s40 : (x3 ≤ ((Int32.ofNat (ln 0)) - (6 : Int32))) → (((di 0 x3.toNatClampNeg) &&& (31 : Int32)) = 13) → vp_in (x3 + (2 : Int32)) (ln 0))
    (k41 : (x3 ≤ ((Int32.ofNat (ln 0)) - (6 : Int32))) → (((di 0 x3.toNatClampNeg) &&& (31 : Int32)) = 13) → q_EX q_KD m 86 0 [.ref 6, .int (di 0 ((x3 + (1 : Int32)).toNatClampNeg)), .int (di 0 ((x3 + (2 : Int32)).toNatClampNeg))] [] (n, sl, ln, di, dl, dr) (fun r1 h1 => q_EX q_KD (m + 1) 0 541 [.ref 0, .ref 6, .ref 67, .int x3] (r1.toList ++ []) h1 Q))
    (s42 : (x3 ≤ ((Int32.ofNat (ln 0)) - (6 : Int32))) → (((di 0 x3.toNatClampNeg) &&& (31 : Int32)) = 14) → vp_in (x3 + (1 : Int32)) (ln 0))
    (s43 : (x3 ≤ ((Int32.ofNat (ln 0)) - (6 : Int32))) → (((di 0 x3.toNatClampNeg) &&& (31 : Int32)) = 14) → vp_in (x3 + (2 : Int32)) (ln 0))
    (k44 : (x3 ≤ ((Int32.ofNat (ln 0)) - (6 : Int32))) → (((di 0 x3.toNatClampNeg) &&& (31 : Int32)) = 14) → q_EX q_KD m 87 0 [.ref 6, .int (di 0 ((x3 + (1 : Int32)).toNatClampNeg)), .int (di 0 ((x3 + (2 : Int32)).toNatClampNeg))] [] (n, sl, ln, di, dl, dr) (fun r1 h1 => q_EX q_KD (m + 1) 0 574 [.ref 0, .ref 6, .ref 67, .int x3] (r1.toList ++ []) h1 Q))
    (s45 : (x3 ≤ ((Int32.ofNat (ln 0)) - (6 : Int32))) → (((di 0 x3.toNatClampNeg) &&& (31 : Int32)) = 15) → vp_in (x3 + (1 : Int32)) (ln 0))
    (k46 : (x3 ≤ ((Int32.ofNat (ln 0)) - (6 : Int32))) → (((di 0 x3.toNatClampNeg) &&& (31 : Int32)) = 15) → q_EX q_KD m 88 0 [.ref 6, .int (di 0 ((x3 + (1 : Int32)).toNatClampNeg))] [] (n, sl, ln, di, dl, dr) (fun r1 h1 => q_EX q_KD (m + 1) 0 602 [.ref 0, .ref 6, .ref 67, .int x3] (r1.toList ++ []) h1 Q))
    (s47 : (x3 ≤ ((Int32.ofNat (ln 0)) - (6 : Int32))) → (((di 0 x3.toNatClampNeg) &&& (31 : Int32)) = 16) → vp_in (x3 + (1 : Int32)) (ln 0))
    (k48 : (x3 ≤ ((Int32.ofNat (ln 0)) - (6 : Int32))) → (((di 0 x3.toNatClampNeg) &&& (31 : Int32)) = 16) → q_EX q_KD m 91 0 [.ref 6, .int (di 0 ((x3 + (1 : Int32)).toNatClampNeg))] [] (n, sl, ln, di, dl, dr) (fun r1 h1 => q_EX q_KD (m + 1) 0 625 [.ref 0, .ref 6, .ref 67, .int x3] (r1.toList ++ []) h1 Q))
    (s49 : (x3 ≤ ((Int32.ofNat (ln 0)) - (6 : Int32))) → (((di 0 x3.toNatClampNeg) &&& (31 : Int32)) = 17) → vp_in (x3 + (1 : Int32)) (ln 0))
    (s50 : (x3 ≤ ((Int32.ofNat (ln 0)) - (6 : Int32))) → (((di 0 x3.toNatClampNeg) &&& (31 : Int32)) = 17) → vp_in (x3 + (2 : Int32)) (ln 0))
    (k51 : (x3 ≤ ((Int32.ofNat (ln 0)) - (6 : Int32))) → (((di 0 x3.toNatClampNeg) &&& (31 : Int32)) = 17) → q_EX q_KD m 92 0 [.ref 6, .int (di 0 ((x3 + (1 : Int32)).toNatClampNeg)), .int (di 0 ((x3 + (2 : Int32)).toNatClampNeg))] [] (n, sl, ln, di, dl, dr) (fun r1 h1 => q_EX q_KD (m + 1) 0 653 [.ref 0, .ref 6, .ref 67, .int x3] (r1.toList ++ []) h1 Q))
    (s52 : (x3 ≤ ((Int32.ofNat (ln 0)) - (6 : Int32))) → (((di 0 x3.toNatClampNeg) &&& (31 : Int32)) = 18) → vp_in (x3 + (1 : Int32)) (ln 0))
    (k53 : (x3 ≤ ((Int32.ofNat (ln 0)) - (6 : Int32))) → (((di 0 x3.toNatClampNeg) &&& (31 : Int32)) = 18) → q_EX q_KD m 95 0 [.ref 6, .int (di 0 ((x3 + (1 : Int32)).toNatClampNeg))] [] (n, sl, ln, di, dl, dr) (fun r1 h1 => q_EX q_KD (m + 1) 0 681 [.ref 0, .ref 6, .ref 67, .int x3] (r1.toList ++ []) h1 Q))
    (s54 : (x3 ≤ ((Int32.ofNat (ln 0)) - (6 : Int32))) → (((di 0 x3.toNatClampNeg) &&& (31 : Int32)) = 19) → vp_in (x3 + (1 : Int32)) (ln 0))
    (k55 : (x3 ≤ ((Int32.ofNat (ln 0)) - (6 : Int32))) → (((di 0 x3.toNatClampNeg) &&& (31 : Int32)) = 19) → q_EX q_KD m 101 0 [.ref 6, .int (di 0 ((x3 + (1 : Int32)).toNatClampNeg))] [] (n, sl, ln, di, dl, dr) (fun r1 h1 => q_EX q_KD (m + 1) 0 704 [.ref 0, .ref 6, .ref 67, .int x3] (r1.toList ++ []) h1 Q))
    (s56 : (x3 ≤ ((Int32.ofNat (ln 0)) - (6 : Int32))) → (((di 0 x3.toNatClampNeg) &&& (31 : Int32)) = 20) → vp_in (x3 + (1 : Int32)) (ln 0))
    (k57 : (x3 ≤ ((Int32.ofNat (ln 0)) - (6 : Int32))) → (((di 0 x3.toNatClampNeg) &&& (31 : Int32)) = 20) → q_EX q_KD m 104 0 [.ref 6, .int (di 0 ((x3 + (1 : Int32)).toNatClampNeg))] [] (n, sl, ln, di, dl, dr) (fun r1 h1 => q_EX q_KD (m + 1) 0 727 [.ref 0, .ref 6, .ref 67, .int x3] (r1.toList ++ []) h1 Q))
    (s58 : (x3 ≤ ((Int32.ofNat (ln 0)) - (6 : Int32))) → (((di 0 x3.toNatClampNeg) &&& (31 : Int32)) = 21) → vp_in (x3 + (1 : Int32)) (ln 0))
    (k59 : (x3 ≤ ((Int32.ofNat (ln 0)) - (6 : Int32))) → (((di 0 x3.toNatClampNeg) &&& (31 : Int32)) = 21) → q_EX q_KD m 106 0 [.ref 6, .int (di 0 ((x3 + (1 : Int32)).toNatClampNeg))] [] (n, sl, ln, di, dl, dr) (fun r1 h1 => q_EX q_KD (m + 1) 0 750 [.ref 0, .ref 6, .ref 67, .int x3] (r1.toList ++ []) h1 Q))
    (s60 : (x3 ≤ ((Int32.ofNat (ln 0)) - (6 : Int32))) → (((di 0 x3.toNatClampNeg) &&& (31 : Int32)) = 22) → vp_in (x3 + (1 : Int32)) (ln 0))
    (k61 : (x3 ≤ ((Int32.ofNat (ln 0)) - (6 : Int32))) → (((di 0 x3.toNatClampNeg) &&& (31 : Int32)) = 22) → q_EX q_KD m 107 0 [.ref 6, .int (di 0 ((x3 + (1 : Int32)).toNatClampNeg))] [] (n, sl, ln, di, dl, dr) (fun r1 h1 => q_EX q_KD (m + 1) 0 773 [.ref 0, .ref 6, .ref 67, .int x3] (r1.toList ++ []) h1 Q))
    (k62 : (x3 ≤ ((Int32.ofNat (ln 0)) - (6 : Int32))) → (((di 0 x3.toNatClampNeg) &&& (31 : Int32)) = 23) → q_EX q_KD m 110 0 [.ref 6] [] (n, sl, ln, di, dl, dr) (fun r1 h1 => q_EX q_KD (m + 1) 0 791 [.ref 0, .ref 6, .ref 67, .int x3] (r1.toList ++ []) h1 Q))
    (k63 : (x3 ≤ ((Int32.ofNat (ln 0)) - (6 : Int32))) → (((di 0 x3.toNatClampNeg) &&& (31 : Int32)) = 24) → q_EX q_KD m 113 0 [.ref 6] [] (n, sl, ln, di, dl, dr) (fun r1 h1 => q_EX q_KD (m + 1) 0 804 [.ref 0, .ref 6, .ref 67, .int x3] (r1.toList ++ []) h1 Q))
    (s64 : (x3 ≤ ((Int32.ofNat (ln 0)) - (6 : Int32))) → (((di 0 x3.toNatClampNeg) &&& (31 : Int32)) = 25) → vp_in (x3 + (1 : Int32)) (ln 0))
    (k65 : (x3 ≤ ((Int32.ofNat (ln 0)) - (6 : Int32))) → (((di 0 x3.toNatClampNeg) &&& (31 : Int32)) = 25) → q_EX q_KD m 114 0 [.ref 6, .int (di 0 ((x3 + (1 : Int32)).toNatClampNeg))] [] (n, sl, ln, di, dl, dr) (fun r1 h1 => q_EX q_KD (m + 1) 0 822 [.ref 0, .ref 6, .ref 67, .int x3] (r1.toList ++ []) h1 Q))
    (k92 : (x3 ≤ ((Int32.ofNat (ln 0)) - (6 : Int32))) → (¬ ((di 0 x3.toNatClampNeg) &&& (31 : Int32)) = 0) → (¬ ((di 0 x3.toNatClampNeg) &&& (31 : Int32)) = 1) → (¬ ((di 0 x3.toNatClampNeg) &&& (31 : Int32)) = 2) → (¬ ((di 0 x3.toNatClampNeg) &&& (31 : Int32)) = 3) → (¬ ((di 0 x3.toNatClampNeg) &&& (31 : Int32)) = 4) → (¬ ((di 0 x3.toNatClampNeg) &&& (31 : Int32)) = 5) → (¬ ((di 0 x3.toNatClampNeg) &&& (31 : Int32)) = 6) → (¬ ((di 0 x3.toNatClampNeg) &&& (31 : Int32)) = 7) → (¬ ((di 0 x3.toNatClampNeg) &&& (31 : Int32)) = 8) → (¬ ((di 0 x3.toNatClampNeg) &&& (31 : Int32)) = 9) → (¬ ((di 0 x3.toNatClampNeg) &&& (31 : Int32)) = 10) → (¬ ((di 0 x3.toNatClampNeg) &&& (31 : Int32)) = 11) → (¬ ((di 0 x3.toNatClampNeg) &&& (31 : Int32)) = 12) → (¬ ((di 0 x3.toNatClampNeg) &&& (31 : Int32)) = 13) → (¬ ((di 0 x3.toNatClampNeg) &&& (31 : Int32)) = 14) → (¬ ((di 0 x3.toNatClampNeg) &&& (31 : Int32)) = 15) → (¬ ((di 0 x3.toNatClampNeg) &&& (31 : Int32)) = 16) → (¬ ((di 0 x3.toNatClampNeg) &&& (31 : Int32)) = 17) → (¬ ((di 0 x3.toNatClampNeg) &&& (31 : Int32)) = 18) → (¬ ((di 0 x3.toNatClampNeg) &&& (31 : Int32)) = 19) → (¬ ((di 0 x3.toNatClampNeg) &&& (31 : Int32)) = 20) → (¬ ((di 0 x3.toNatClampNeg) &&& (31 : Int32)) = 21) → (¬ ((di 0 x3.toNatClampNeg) &&& (31 : Int32)) = 22) → (¬ ((di 0 x3.toNatClampNeg) &&& (31 : Int32)) = 23) → (¬ ((di 0 x3.toNatClampNeg) &&& (31 : Int32)) = 24) → (¬ ((di 0 x3.toNatClampNeg) &&& (31 : Int32)) = 25) → q_EX q_KD (m + 1) 0 18 [.ref 0, .ref 6, .ref 67, .int (x3 + 6)] [] (n, sl, ln, di, dl, dr) Q) : q_EX q_KD (m + 1) 0 18 [.ref 0, .ref 6, .ref 67, .int x3] [] (n, sl, ln, di, dl, dr) Q := by
  refine (x_iload_n 18 i0_18 rfl ?_)
  refine (x_aload_n 19 i0_19 rfl ?_)
  refine (x_alen 20 (Int32.ofNat (ln 0)) i0_20 (by decide) (by decide) (u_lt hg rfl) rfl ?_)
  refine (x_bipush 21 6 i0_21 rfl ?_)
  refine (x_isub 23 i0_23 ?_)
  refine (x_icmp_gt 24 842 i0_24 rfl (fun c1 => ?_) (fun c1 => ?_))
  · refine (x_iconst 842 1 i0_842 rfl ?_)
    exact (x_iret1 843 i0_843 rfl (k2 c1))
  · refine (x_aload_n 27 i0_27 rfl ?_)
    refine (x_iload_n 28 i0_28 rfl ?_)
    refine (x_iaload 29 (di 0 x3.toNatClampNeg) i0_29 rfl (u_lt hg rfl) (s3 c1) rfl ?_)
    refine (x_bipush 30 31 i0_30 rfl ?_)
    refine (x_iand 32 i0_32 ?_)
    exact (by
        by_cases hq : (((di 0 x3.toNatClampNeg) &&& (31 : Int32))).toInt < 0 ∨ 25 < (((di 0 x3.toNatClampNeg) &&& (31 : Int32))).toInt
        · exact x_tsw 33 836 rfl (Or.inl ⟨hq, rfl⟩) rfl ((fun c66 c67 c68 c69 c70 c71 c72 c73 c74 c75 c76 c77 c78 c79 c80 c81 c82 c83 c84 c85 c86 c87 c88 c89 c90 c91 => (x_iinc 836 (x3 + 6) (ls2 := [.ref 0, .ref 6, .ref 67, .int (x3 + 6)]) i0_836 rfl (Nat.le_of_ble_eq_true rfl) rfl rfl (x_goto 839 18 i0_839 rfl (k92 c1 c66 c67 c68 c69 c70 c71 c72 c73 c74 c75 c76 c77 c78 c79 c80 c81 c82 c83 c84 c85 c86 c87 c88 c89 c90 c91)))) (fun e => by rw [e] at hq; revert hq; decide) (fun e => by rw [e] at hq; revert hq; decide) (fun e => by rw [e] at hq; revert hq; decide) (fun e => by rw [e] at hq; revert hq; decide) (fun e => by rw [e] at hq; revert hq; decide) (fun e => by rw [e] at hq; revert hq; decide) (fun e => by rw [e] at hq; revert hq; decide) (fun e => by rw [e] at hq; revert hq; decide) (fun e => by rw [e] at hq; revert hq; decide) (fun e => by rw [e] at hq; revert hq; decide) (fun e => by rw [e] at hq; revert hq; decide) (fun e => by rw [e] at hq; revert hq; decide) (fun e => by rw [e] at hq; revert hq; decide) (fun e => by rw [e] at hq; revert hq; decide) (fun e => by rw [e] at hq; revert hq; decide) (fun e => by rw [e] at hq; revert hq; decide) (fun e => by rw [e] at hq; revert hq; decide) (fun e => by rw [e] at hq; revert hq; decide) (fun e => by rw [e] at hq; revert hq; decide) (fun e => by rw [e] at hq; revert hq; decide) (fun e => by rw [e] at hq; revert hq; decide) (fun e => by rw [e] at hq; revert hq; decide) (fun e => by rw [e] at hq; revert hq; decide) (fun e => by rw [e] at hq; revert hq; decide) (fun e => by rw [e] at hq; revert hq; decide) (fun e => by rw [e] at hq; revert hq; decide))
        · have hv : (((di 0 x3.toNatClampNeg) &&& (31 : Int32))).toInt = 0 ∨ (((di 0 x3.toNatClampNeg) &&& (31 : Int32))).toInt = 1 ∨ (((di 0 x3.toNatClampNeg) &&& (31 : Int32))).toInt = 2 ∨ (((di 0 x3.toNatClampNeg) &&& (31 : Int32))).toInt = 3 ∨ (((di 0 x3.toNatClampNeg) &&& (31 : Int32))).toInt = 4 ∨ (((di 0 x3.toNatClampNeg) &&& (31 : Int32))).toInt = 5 ∨ (((di 0 x3.toNatClampNeg) &&& (31 : Int32))).toInt = 6 ∨ (((di 0 x3.toNatClampNeg) &&& (31 : Int32))).toInt = 7 ∨ (((di 0 x3.toNatClampNeg) &&& (31 : Int32))).toInt = 8 ∨ (((di 0 x3.toNatClampNeg) &&& (31 : Int32))).toInt = 9 ∨ (((di 0 x3.toNatClampNeg) &&& (31 : Int32))).toInt = 10 ∨ (((di 0 x3.toNatClampNeg) &&& (31 : Int32))).toInt = 11 ∨ (((di 0 x3.toNatClampNeg) &&& (31 : Int32))).toInt = 12 ∨ (((di 0 x3.toNatClampNeg) &&& (31 : Int32))).toInt = 13 ∨ (((di 0 x3.toNatClampNeg) &&& (31 : Int32))).toInt = 14 ∨ (((di 0 x3.toNatClampNeg) &&& (31 : Int32))).toInt = 15 ∨ (((di 0 x3.toNatClampNeg) &&& (31 : Int32))).toInt = 16 ∨ (((di 0 x3.toNatClampNeg) &&& (31 : Int32))).toInt = 17 ∨ (((di 0 x3.toNatClampNeg) &&& (31 : Int32))).toInt = 18 ∨ (((di 0 x3.toNatClampNeg) &&& (31 : Int32))).toInt = 19 ∨ (((di 0 x3.toNatClampNeg) &&& (31 : Int32))).toInt = 20 ∨ (((di 0 x3.toNatClampNeg) &&& (31 : Int32))).toInt = 21 ∨ (((di 0 x3.toNatClampNeg) &&& (31 : Int32))).toInt = 22 ∨ (((di 0 x3.toNatClampNeg) &&& (31 : Int32))).toInt = 23 ∨ (((di 0 x3.toNatClampNeg) &&& (31 : Int32))).toInt = 24 ∨ (((di 0 x3.toNatClampNeg) &&& (31 : Int32))).toInt = 25 := by omega
          rcases hv with hv | hv | hv | hv | hv | hv | hv | hv | hv | hv | hv | hv | hv | hv | hv | hv | hv | hv | hv | hv | hv | hv | hv | hv | hv | hv
          · exact x_tsw 33 (off := 119) 152 rfl (Or.inr ⟨by rw [hv]; decide, by rw [hv]; decide, by rw [hv]; decide +kernel⟩) rfl ((fun c4 => (x_aload_n 152 i0_152 rfl (x_aload_n 153 i0_153 rfl (x_iload_n 154 i0_154 rfl (x_iconst 155 1 i0_155 rfl (x_iadd 156 i0_156 (x_iaload 157 (di 0 ((x3 + (1 : Int32)).toNatClampNeg)) i0_157 rfl (u_lt hg rfl) (s5 c1 c4) rfl (x_aload_n 158 i0_158 rfl (x_iload_n 159 i0_159 rfl (x_iconst 160 2 i0_160 rfl (x_iadd 161 i0_161 (x_iaload 162 (di 0 ((x3 + (2 : Int32)).toNatClampNeg)) i0_162 rfl (u_lt hg rfl) (s6 c1 c4) rfl (x_aload_n 163 i0_163 rfl (x_iload_n 164 i0_164 rfl (x_iconst 165 3 i0_165 rfl (x_iadd 166 i0_166 (x_iaload 167 (di 0 ((x3 + (3 : Int32)).toNatClampNeg)) i0_167 rfl (u_lt hg rfl) (s7 c1 c4) rfl (x_cv 168 (as := [.int (di 0 ((x3 + (1 : Int32)).toNatClampNeg)), .int (di 0 ((x3 + (2 : Int32)).toNatClampNeg)), .int (di 0 ((x3 + (3 : Int32)).toNatClampNeg))]) (rs := []) i0_168 rfl rfl rfl rfl (Nat.le_of_ble_eq_true rfl) (u_lt hg rfl) rfl (Or.inr (Nat.le_of_ble_eq_true rfl)) (Nat.le_of_ble_eq_true rfl) rfl rfl (k8 c1 c4))))))))))))))))))) (q_ofI hv rfl))
          · exact x_tsw 33 (off := 162) 195 rfl (Or.inr ⟨by rw [hv]; decide, by rw [hv]; decide, by rw [hv]; decide +kernel⟩) rfl ((fun c4 => (x_aload_n 195 i0_195 rfl (x_aload_n 196 i0_196 rfl (x_iload_n 197 i0_197 rfl (x_iconst 198 1 i0_198 rfl (x_iadd 199 i0_199 (x_iaload 200 (di 0 ((x3 + (1 : Int32)).toNatClampNeg)) i0_200 rfl (u_lt hg rfl) (s9 c1 c4) rfl (x_aload_n 201 i0_201 rfl (x_iload_n 202 i0_202 rfl (x_iconst 203 2 i0_203 rfl (x_iadd 204 i0_204 (x_iaload 205 (di 0 ((x3 + (2 : Int32)).toNatClampNeg)) i0_205 rfl (u_lt hg rfl) (s10 c1 c4) rfl (x_cv 206 (as := [.int (di 0 ((x3 + (1 : Int32)).toNatClampNeg)), .int (di 0 ((x3 + (2 : Int32)).toNatClampNeg))]) (rs := []) i0_206 rfl rfl rfl rfl (Nat.le_of_ble_eq_true rfl) (u_lt hg rfl) rfl (Or.inr (Nat.le_of_ble_eq_true rfl)) (Nat.le_of_ble_eq_true rfl) rfl rfl (k11 c1 c4)))))))))))))) (q_ofI hv rfl))
          · exact x_tsw 33 (off := 195) 228 rfl (Or.inr ⟨by rw [hv]; decide, by rw [hv]; decide, by rw [hv]; decide +kernel⟩) rfl ((fun c4 => (x_aload_n 228 i0_228 rfl (x_aload_n 229 i0_229 rfl (x_iload_n 230 i0_230 rfl (x_iconst 231 1 i0_231 rfl (x_iadd 232 i0_232 (x_iaload 233 (di 0 ((x3 + (1 : Int32)).toNatClampNeg)) i0_233 rfl (u_lt hg rfl) (s12 c1 c4) rfl (x_cv 234 (as := [.int (di 0 ((x3 + (1 : Int32)).toNatClampNeg))]) (rs := []) i0_234 rfl rfl rfl rfl (Nat.le_of_ble_eq_true rfl) (u_lt hg rfl) rfl (Or.inr (Nat.le_of_ble_eq_true rfl)) (Nat.le_of_ble_eq_true rfl) rfl rfl (k13 c1 c4))))))))) (q_ofI hv rfl))
          · exact x_tsw 33 (off := 218) 251 rfl (Or.inr ⟨by rw [hv]; decide, by rw [hv]; decide, by rw [hv]; decide +kernel⟩) rfl ((fun c4 => (x_aload_n 251 i0_251 rfl (x_aload_n 252 i0_252 rfl (x_iload_n 253 i0_253 rfl (x_iconst 254 1 i0_254 rfl (x_iadd 255 i0_255 (x_iaload 256 (di 0 ((x3 + (1 : Int32)).toNatClampNeg)) i0_256 rfl (u_lt hg rfl) (s14 c1 c4) rfl (x_aload_n 257 i0_257 rfl (x_iload_n 258 i0_258 rfl (x_iconst 259 2 i0_259 rfl (x_iadd 260 i0_260 (x_iaload 261 (di 0 ((x3 + (2 : Int32)).toNatClampNeg)) i0_261 rfl (u_lt hg rfl) (s15 c1 c4) rfl (x_aload_n 262 i0_262 rfl (x_iload_n 263 i0_263 rfl (x_iconst 264 3 i0_264 rfl (x_iadd 265 i0_265 (x_iaload 266 (di 0 ((x3 + (3 : Int32)).toNatClampNeg)) i0_266 rfl (u_lt hg rfl) (s16 c1 c4) rfl (x_aload_n 267 i0_267 rfl (x_iload_n 268 i0_268 rfl (x_iconst 269 4 i0_269 rfl (x_iadd 270 i0_270 (x_iaload 271 (di 0 ((x3 + (4 : Int32)).toNatClampNeg)) i0_271 rfl (u_lt hg rfl) (s17 c1 c4) rfl (x_aload_n 272 i0_272 rfl (x_iload_n 273 i0_273 rfl (x_iconst 274 5 i0_274 rfl (x_iadd 275 i0_275 (x_iaload 276 (di 0 ((x3 + (5 : Int32)).toNatClampNeg)) i0_276 rfl (u_lt hg rfl) (s18 c1 c4) rfl (x_cv 277 (as := [.int (di 0 ((x3 + (1 : Int32)).toNatClampNeg)), .int (di 0 ((x3 + (2 : Int32)).toNatClampNeg)), .int (di 0 ((x3 + (3 : Int32)).toNatClampNeg)), .int (di 0 ((x3 + (4 : Int32)).toNatClampNeg)), .int (di 0 ((x3 + (5 : Int32)).toNatClampNeg))]) (rs := []) i0_277 rfl rfl rfl rfl (Nat.le_of_ble_eq_true rfl) (u_lt hg rfl) rfl (Or.inr (Nat.le_of_ble_eq_true rfl)) (Nat.le_of_ble_eq_true rfl) rfl rfl (k19 c1 c4))))))))))))))))))))))))))))) (q_ofI hv rfl))
          · exact x_tsw 33 (off := 281) 314 rfl (Or.inr ⟨by rw [hv]; decide, by rw [hv]; decide, by rw [hv]; decide +kernel⟩) rfl ((fun c4 => (x_aload_n 314 i0_314 rfl (x_aload_n 315 i0_315 rfl (x_iload_n 316 i0_316 rfl (x_iconst 317 1 i0_317 rfl (x_iadd 318 i0_318 (x_iaload 319 (di 0 ((x3 + (1 : Int32)).toNatClampNeg)) i0_319 rfl (u_lt hg rfl) (s20 c1 c4) rfl (x_cv 320 (as := [.int (di 0 ((x3 + (1 : Int32)).toNatClampNeg))]) (rs := []) i0_320 rfl rfl rfl rfl (Nat.le_of_ble_eq_true rfl) (u_lt hg rfl) rfl (Or.inr (Nat.le_of_ble_eq_true rfl)) (Nat.le_of_ble_eq_true rfl) rfl rfl (k21 c1 c4))))))))) (q_ofI hv rfl))
          · exact x_tsw 33 (off := 304) 337 rfl (Or.inr ⟨by rw [hv]; decide, by rw [hv]; decide, by rw [hv]; decide +kernel⟩) rfl ((fun c4 => (x_aload_n 337 i0_337 rfl (x_cv 338 (as := []) (rs := []) i0_338 rfl rfl rfl rfl (Nat.le_of_ble_eq_true rfl) (u_lt hg rfl) rfl (Or.inr (Nat.le_of_ble_eq_true rfl)) (Nat.le_of_ble_eq_true rfl) rfl rfl (k22 c1 c4)))) (q_ofI hv rfl))
          · exact x_tsw 33 (off := 317) 350 rfl (Or.inr ⟨by rw [hv]; decide, by rw [hv]; decide, by rw [hv]; decide +kernel⟩) rfl ((fun c4 => (x_aload_n 350 i0_350 rfl (x_aload_n 351 i0_351 rfl (x_iload_n 352 i0_352 rfl (x_iconst 353 1 i0_353 rfl (x_iadd 354 i0_354 (x_iaload 355 (di 0 ((x3 + (1 : Int32)).toNatClampNeg)) i0_355 rfl (u_lt hg rfl) (s23 c1 c4) rfl (x_cv 356 (as := [.int (di 0 ((x3 + (1 : Int32)).toNatClampNeg))]) (rs := []) i0_356 rfl rfl rfl rfl (Nat.le_of_ble_eq_true rfl) (u_lt hg rfl) rfl (Or.inr (Nat.le_of_ble_eq_true rfl)) (Nat.le_of_ble_eq_true rfl) rfl rfl (k24 c1 c4))))))))) (q_ofI hv rfl))
          · exact x_tsw 33 (off := 340) 373 rfl (Or.inr ⟨by rw [hv]; decide, by rw [hv]; decide, by rw [hv]; decide +kernel⟩) rfl ((fun c4 => (x_aload_n 373 i0_373 rfl (x_aload_n 374 i0_374 rfl (x_iload_n 375 i0_375 rfl (x_iconst 376 1 i0_376 rfl (x_iadd 377 i0_377 (x_iaload 378 (di 0 ((x3 + (1 : Int32)).toNatClampNeg)) i0_378 rfl (u_lt hg rfl) (s25 c1 c4) rfl (x_cv 379 (as := [.int (di 0 ((x3 + (1 : Int32)).toNatClampNeg))]) (rs := []) i0_379 rfl rfl rfl rfl (Nat.le_of_ble_eq_true rfl) (u_lt hg rfl) rfl (Or.inr (Nat.le_of_ble_eq_true rfl)) (Nat.le_of_ble_eq_true rfl) rfl rfl (k26 c1 c4))))))))) (q_ofI hv rfl))
          · exact x_tsw 33 (off := 363) 396 rfl (Or.inr ⟨by rw [hv]; decide, by rw [hv]; decide, by rw [hv]; decide +kernel⟩) rfl ((fun c4 => (x_aload_n 396 i0_396 rfl (x_aload_n 397 i0_397 rfl (x_iload_n 398 i0_398 rfl (x_iconst 399 1 i0_399 rfl (x_iadd 400 i0_400 (x_iaload 401 (di 0 ((x3 + (1 : Int32)).toNatClampNeg)) i0_401 rfl (u_lt hg rfl) (s27 c1 c4) rfl (x_aload_n 402 i0_402 rfl (x_iload_n 403 i0_403 rfl (x_iconst 404 2 i0_404 rfl (x_iadd 405 i0_405 (x_iaload 406 (di 0 ((x3 + (2 : Int32)).toNatClampNeg)) i0_406 rfl (u_lt hg rfl) (s28 c1 c4) rfl (x_cv 407 (as := [.int (di 0 ((x3 + (1 : Int32)).toNatClampNeg)), .int (di 0 ((x3 + (2 : Int32)).toNatClampNeg))]) (rs := []) i0_407 rfl rfl rfl rfl (Nat.le_of_ble_eq_true rfl) (u_lt hg rfl) rfl (Or.inr (Nat.le_of_ble_eq_true rfl)) (Nat.le_of_ble_eq_true rfl) rfl rfl (k29 c1 c4)))))))))))))) (q_ofI hv rfl))
          · exact x_tsw 33 (off := 396) 429 rfl (Or.inr ⟨by rw [hv]; decide, by rw [hv]; decide, by rw [hv]; decide +kernel⟩) rfl ((fun c4 => (x_aload_n 429 i0_429 rfl (x_aload_n 430 i0_430 rfl (x_iload_n 431 i0_431 rfl (x_iconst 432 1 i0_432 rfl (x_iadd 433 i0_433 (x_iaload 434 (di 0 ((x3 + (1 : Int32)).toNatClampNeg)) i0_434 rfl (u_lt hg rfl) (s30 c1 c4) rfl (x_aload_n 435 i0_435 rfl (x_iload_n 436 i0_436 rfl (x_iconst 437 2 i0_437 rfl (x_iadd 438 i0_438 (x_iaload 439 (di 0 ((x3 + (2 : Int32)).toNatClampNeg)) i0_439 rfl (u_lt hg rfl) (s31 c1 c4) rfl (x_if_eq 440 447 i0_440 rfl (fun c32 => (x_iconst 447 0 i0_447 rfl (x_cv 448 (as := [.int (di 0 ((x3 + (1 : Int32)).toNatClampNeg)), .int 0]) (rs := []) i0_448 rfl rfl rfl rfl (Nat.le_of_ble_eq_true rfl) (u_lt hg rfl) rfl (Or.inr (Nat.le_of_ble_eq_true rfl)) (Nat.le_of_ble_eq_true rfl) rfl rfl (k33 c1 c4 c32)))) (fun c32 => (x_iconst 443 1 i0_443 rfl (x_goto 444 448 i0_444 rfl (x_cv 448 (as := [.int (di 0 ((x3 + (1 : Int32)).toNatClampNeg)), .int 1]) (rs := []) i0_448 rfl rfl rfl rfl (Nat.le_of_ble_eq_true rfl) (u_lt hg rfl) rfl (Or.inr (Nat.le_of_ble_eq_true rfl)) (Nat.le_of_ble_eq_true rfl) rfl rfl (k34 c1 c4 c32)))))))))))))))))) (q_ofI hv rfl))
          · exact x_tsw 33 (off := 445) 478 rfl (Or.inr ⟨by rw [hv]; decide, by rw [hv]; decide, by rw [hv]; decide +kernel⟩) rfl ((fun c4 => (x_aload_n 478 i0_478 rfl (x_cv 479 (as := []) (rs := []) i0_479 rfl rfl rfl rfl (Nat.le_of_ble_eq_true rfl) (u_lt hg rfl) rfl (Or.inr (Nat.le_of_ble_eq_true rfl)) (Nat.le_of_ble_eq_true rfl) rfl rfl (k35 c1 c4)))) (q_ofI hv rfl))
          · exact x_tsw 33 (off := 458) 491 rfl (Or.inr ⟨by rw [hv]; decide, by rw [hv]; decide, by rw [hv]; decide +kernel⟩) rfl ((fun c4 => (x_aload_n 491 i0_491 rfl (x_aload_n 492 i0_492 rfl (x_iload_n 493 i0_493 rfl (x_iconst 494 1 i0_494 rfl (x_iadd 495 i0_495 (x_iaload 496 (di 0 ((x3 + (1 : Int32)).toNatClampNeg)) i0_496 rfl (u_lt hg rfl) (s36 c1 c4) rfl (x_cv 497 (as := [.int (di 0 ((x3 + (1 : Int32)).toNatClampNeg))]) (rs := []) i0_497 rfl rfl rfl rfl (Nat.le_of_ble_eq_true rfl) (u_lt hg rfl) rfl (Or.inr (Nat.le_of_ble_eq_true rfl)) (Nat.le_of_ble_eq_true rfl) rfl rfl (k37 c1 c4))))))))) (q_ofI hv rfl))
          · exact x_tsw 33 (off := 481) 514 rfl (Or.inr ⟨by rw [hv]; decide, by rw [hv]; decide, by rw [hv]; decide +kernel⟩) rfl ((fun c4 => (x_aload_n 514 i0_514 rfl (x_cv 515 (as := []) (rs := []) i0_515 rfl rfl rfl rfl (Nat.le_of_ble_eq_true rfl) (u_lt hg rfl) rfl (Or.inr (Nat.le_of_ble_eq_true rfl)) (Nat.le_of_ble_eq_true rfl) rfl rfl (k38 c1 c4)))) (q_ofI hv rfl))
          · exact x_tsw 33 (off := 494) 527 rfl (Or.inr ⟨by rw [hv]; decide, by rw [hv]; decide, by rw [hv]; decide +kernel⟩) rfl ((fun c4 => (x_aload_n 527 i0_527 rfl (x_aload_n 528 i0_528 rfl (x_iload_n 529 i0_529 rfl (x_iconst 530 1 i0_530 rfl (x_iadd 531 i0_531 (x_iaload 532 (di 0 ((x3 + (1 : Int32)).toNatClampNeg)) i0_532 rfl (u_lt hg rfl) (s39 c1 c4) rfl (x_aload_n 533 i0_533 rfl (x_iload_n 534 i0_534 rfl (x_iconst 535 2 i0_535 rfl (x_iadd 536 i0_536 (x_iaload 537 (di 0 ((x3 + (2 : Int32)).toNatClampNeg)) i0_537 rfl (u_lt hg rfl) (s40 c1 c4) rfl (x_cv 538 (as := [.int (di 0 ((x3 + (1 : Int32)).toNatClampNeg)), .int (di 0 ((x3 + (2 : Int32)).toNatClampNeg))]) (rs := []) i0_538 rfl rfl rfl rfl (Nat.le_of_ble_eq_true rfl) (u_lt hg rfl) rfl (Or.inr (Nat.le_of_ble_eq_true rfl)) (Nat.le_of_ble_eq_true rfl) rfl rfl (k41 c1 c4)))))))))))))) (q_ofI hv rfl))
          · exact x_tsw 33 (off := 527) 560 rfl (Or.inr ⟨by rw [hv]; decide, by rw [hv]; decide, by rw [hv]; decide +kernel⟩) rfl ((fun c4 => (x_aload_n 560 i0_560 rfl (x_aload_n 561 i0_561 rfl (x_iload_n 562 i0_562 rfl (x_iconst 563 1 i0_563 rfl (x_iadd 564 i0_564 (x_iaload 565 (di 0 ((x3 + (1 : Int32)).toNatClampNeg)) i0_565 rfl (u_lt hg rfl) (s42 c1 c4) rfl (x_aload_n 566 i0_566 rfl (x_iload_n 567 i0_567 rfl (x_iconst 568 2 i0_568 rfl (x_iadd 569 i0_569 (x_iaload 570 (di 0 ((x3 + (2 : Int32)).toNatClampNeg)) i0_570 rfl (u_lt hg rfl) (s43 c1 c4) rfl (x_cv 571 (as := [.int (di 0 ((x3 + (1 : Int32)).toNatClampNeg)), .int (di 0 ((x3 + (2 : Int32)).toNatClampNeg))]) (rs := []) i0_571 rfl rfl rfl rfl (Nat.le_of_ble_eq_true rfl) (u_lt hg rfl) rfl (Or.inr (Nat.le_of_ble_eq_true rfl)) (Nat.le_of_ble_eq_true rfl) rfl rfl (k44 c1 c4)))))))))))))) (q_ofI hv rfl))
          · exact x_tsw 33 (off := 560) 593 rfl (Or.inr ⟨by rw [hv]; decide, by rw [hv]; decide, by rw [hv]; decide +kernel⟩) rfl ((fun c4 => (x_aload_n 593 i0_593 rfl (x_aload_n 594 i0_594 rfl (x_iload_n 595 i0_595 rfl (x_iconst 596 1 i0_596 rfl (x_iadd 597 i0_597 (x_iaload 598 (di 0 ((x3 + (1 : Int32)).toNatClampNeg)) i0_598 rfl (u_lt hg rfl) (s45 c1 c4) rfl (x_cv 599 (as := [.int (di 0 ((x3 + (1 : Int32)).toNatClampNeg))]) (rs := []) i0_599 rfl rfl rfl rfl (Nat.le_of_ble_eq_true rfl) (u_lt hg rfl) rfl (Or.inr (Nat.le_of_ble_eq_true rfl)) (Nat.le_of_ble_eq_true rfl) rfl rfl (k46 c1 c4))))))))) (q_ofI hv rfl))
          · exact x_tsw 33 (off := 583) 616 rfl (Or.inr ⟨by rw [hv]; decide, by rw [hv]; decide, by rw [hv]; decide +kernel⟩) rfl ((fun c4 => (x_aload_n 616 i0_616 rfl (x_aload_n 617 i0_617 rfl (x_iload_n 618 i0_618 rfl (x_iconst 619 1 i0_619 rfl (x_iadd 620 i0_620 (x_iaload 621 (di 0 ((x3 + (1 : Int32)).toNatClampNeg)) i0_621 rfl (u_lt hg rfl) (s47 c1 c4) rfl (x_cv 622 (as := [.int (di 0 ((x3 + (1 : Int32)).toNatClampNeg))]) (rs := []) i0_622 rfl rfl rfl rfl (Nat.le_of_ble_eq_true rfl) (u_lt hg rfl) rfl (Or.inr (Nat.le_of_ble_eq_true rfl)) (Nat.le_of_ble_eq_true rfl) rfl rfl (k48 c1 c4))))))))) (q_ofI hv rfl))
          · exact x_tsw 33 (off := 606) 639 rfl (Or.inr ⟨by rw [hv]; decide, by rw [hv]; decide, by rw [hv]; decide +kernel⟩) rfl ((fun c4 => (x_aload_n 639 i0_639 rfl (x_aload_n 640 i0_640 rfl (x_iload_n 641 i0_641 rfl (x_iconst 642 1 i0_642 rfl (x_iadd 643 i0_643 (x_iaload 644 (di 0 ((x3 + (1 : Int32)).toNatClampNeg)) i0_644 rfl (u_lt hg rfl) (s49 c1 c4) rfl (x_aload_n 645 i0_645 rfl (x_iload_n 646 i0_646 rfl (x_iconst 647 2 i0_647 rfl (x_iadd 648 i0_648 (x_iaload 649 (di 0 ((x3 + (2 : Int32)).toNatClampNeg)) i0_649 rfl (u_lt hg rfl) (s50 c1 c4) rfl (x_cv 650 (as := [.int (di 0 ((x3 + (1 : Int32)).toNatClampNeg)), .int (di 0 ((x3 + (2 : Int32)).toNatClampNeg))]) (rs := []) i0_650 rfl rfl rfl rfl (Nat.le_of_ble_eq_true rfl) (u_lt hg rfl) rfl (Or.inr (Nat.le_of_ble_eq_true rfl)) (Nat.le_of_ble_eq_true rfl) rfl rfl (k51 c1 c4)))))))))))))) (q_ofI hv rfl))
          · exact x_tsw 33 (off := 639) 672 rfl (Or.inr ⟨by rw [hv]; decide, by rw [hv]; decide, by rw [hv]; decide +kernel⟩) rfl ((fun c4 => (x_aload_n 672 i0_672 rfl (x_aload_n 673 i0_673 rfl (x_iload_n 674 i0_674 rfl (x_iconst 675 1 i0_675 rfl (x_iadd 676 i0_676 (x_iaload 677 (di 0 ((x3 + (1 : Int32)).toNatClampNeg)) i0_677 rfl (u_lt hg rfl) (s52 c1 c4) rfl (x_cv 678 (as := [.int (di 0 ((x3 + (1 : Int32)).toNatClampNeg))]) (rs := []) i0_678 rfl rfl rfl rfl (Nat.le_of_ble_eq_true rfl) (u_lt hg rfl) rfl (Or.inr (Nat.le_of_ble_eq_true rfl)) (Nat.le_of_ble_eq_true rfl) rfl rfl (k53 c1 c4))))))))) (q_ofI hv rfl))
          · exact x_tsw 33 (off := 662) 695 rfl (Or.inr ⟨by rw [hv]; decide, by rw [hv]; decide, by rw [hv]; decide +kernel⟩) rfl ((fun c4 => (x_aload_n 695 i0_695 rfl (x_aload_n 696 i0_696 rfl (x_iload_n 697 i0_697 rfl (x_iconst 698 1 i0_698 rfl (x_iadd 699 i0_699 (x_iaload 700 (di 0 ((x3 + (1 : Int32)).toNatClampNeg)) i0_700 rfl (u_lt hg rfl) (s54 c1 c4) rfl (x_cv 701 (as := [.int (di 0 ((x3 + (1 : Int32)).toNatClampNeg))]) (rs := []) i0_701 rfl rfl rfl rfl (Nat.le_of_ble_eq_true rfl) (u_lt hg rfl) rfl (Or.inr (Nat.le_of_ble_eq_true rfl)) (Nat.le_of_ble_eq_true rfl) rfl rfl (k55 c1 c4))))))))) (q_ofI hv rfl))
          · exact x_tsw 33 (off := 685) 718 rfl (Or.inr ⟨by rw [hv]; decide, by rw [hv]; decide, by rw [hv]; decide +kernel⟩) rfl ((fun c4 => (x_aload_n 718 i0_718 rfl (x_aload_n 719 i0_719 rfl (x_iload_n 720 i0_720 rfl (x_iconst 721 1 i0_721 rfl (x_iadd 722 i0_722 (x_iaload 723 (di 0 ((x3 + (1 : Int32)).toNatClampNeg)) i0_723 rfl (u_lt hg rfl) (s56 c1 c4) rfl (x_cv 724 (as := [.int (di 0 ((x3 + (1 : Int32)).toNatClampNeg))]) (rs := []) i0_724 rfl rfl rfl rfl (Nat.le_of_ble_eq_true rfl) (u_lt hg rfl) rfl (Or.inr (Nat.le_of_ble_eq_true rfl)) (Nat.le_of_ble_eq_true rfl) rfl rfl (k57 c1 c4))))))))) (q_ofI hv rfl))
          · exact x_tsw 33 (off := 708) 741 rfl (Or.inr ⟨by rw [hv]; decide, by rw [hv]; decide, by rw [hv]; decide +kernel⟩) rfl ((fun c4 => (x_aload_n 741 i0_741 rfl (x_aload_n 742 i0_742 rfl (x_iload_n 743 i0_743 rfl (x_iconst 744 1 i0_744 rfl (x_iadd 745 i0_745 (x_iaload 746 (di 0 ((x3 + (1 : Int32)).toNatClampNeg)) i0_746 rfl (u_lt hg rfl) (s58 c1 c4) rfl (x_cv 747 (as := [.int (di 0 ((x3 + (1 : Int32)).toNatClampNeg))]) (rs := []) i0_747 rfl rfl rfl rfl (Nat.le_of_ble_eq_true rfl) (u_lt hg rfl) rfl (Or.inr (Nat.le_of_ble_eq_true rfl)) (Nat.le_of_ble_eq_true rfl) rfl rfl (k59 c1 c4))))))))) (q_ofI hv rfl))
          · exact x_tsw 33 (off := 731) 764 rfl (Or.inr ⟨by rw [hv]; decide, by rw [hv]; decide, by rw [hv]; decide +kernel⟩) rfl ((fun c4 => (x_aload_n 764 i0_764 rfl (x_aload_n 765 i0_765 rfl (x_iload_n 766 i0_766 rfl (x_iconst 767 1 i0_767 rfl (x_iadd 768 i0_768 (x_iaload 769 (di 0 ((x3 + (1 : Int32)).toNatClampNeg)) i0_769 rfl (u_lt hg rfl) (s60 c1 c4) rfl (x_cv 770 (as := [.int (di 0 ((x3 + (1 : Int32)).toNatClampNeg))]) (rs := []) i0_770 rfl rfl rfl rfl (Nat.le_of_ble_eq_true rfl) (u_lt hg rfl) rfl (Or.inr (Nat.le_of_ble_eq_true rfl)) (Nat.le_of_ble_eq_true rfl) rfl rfl (k61 c1 c4))))))))) (q_ofI hv rfl))
          · exact x_tsw 33 (off := 754) 787 rfl (Or.inr ⟨by rw [hv]; decide, by rw [hv]; decide, by rw [hv]; decide +kernel⟩) rfl ((fun c4 => (x_aload_n 787 i0_787 rfl (x_cv 788 (as := []) (rs := []) i0_788 rfl rfl rfl rfl (Nat.le_of_ble_eq_true rfl) (u_lt hg rfl) rfl (Or.inr (Nat.le_of_ble_eq_true rfl)) (Nat.le_of_ble_eq_true rfl) rfl rfl (k62 c1 c4)))) (q_ofI hv rfl))
          · exact x_tsw 33 (off := 767) 800 rfl (Or.inr ⟨by rw [hv]; decide, by rw [hv]; decide, by rw [hv]; decide +kernel⟩) rfl ((fun c4 => (x_aload_n 800 i0_800 rfl (x_cv 801 (as := []) (rs := []) i0_801 rfl rfl rfl rfl (Nat.le_of_ble_eq_true rfl) (u_lt hg rfl) rfl (Or.inr (Nat.le_of_ble_eq_true rfl)) (Nat.le_of_ble_eq_true rfl) rfl rfl (k63 c1 c4)))) (q_ofI hv rfl))
          · exact x_tsw 33 (off := 780) 813 rfl (Or.inr ⟨by rw [hv]; decide, by rw [hv]; decide, by rw [hv]; decide +kernel⟩) rfl ((fun c4 => (x_aload_n 813 i0_813 rfl (x_aload_n 814 i0_814 rfl (x_iload_n 815 i0_815 rfl (x_iconst 816 1 i0_816 rfl (x_iadd 817 i0_817 (x_iaload 818 (di 0 ((x3 + (1 : Int32)).toNatClampNeg)) i0_818 rfl (u_lt hg rfl) (s64 c1 c4) rfl (x_cv 819 (as := [.int (di 0 ((x3 + (1 : Int32)).toNatClampNeg))]) (rs := []) i0_819 rfl rfl rfl rfl (Nat.le_of_ble_eq_true rfl) (u_lt hg rfl) rfl (Or.inr (Nat.le_of_ble_eq_true rfl)) (Nat.le_of_ble_eq_true rfl) rfl rfl (k65 c1 c4))))))))) (q_ofI hv rfl)))

set_option maxRecDepth 20000 in
theorem l0_171 {m n sl : Nat} {ln : Nat → Nat} {di : Nat → Nat → Int32} {dl : Nat → Nat → Int64} {dr : Nat → Nat → Option Nat} {x3 : Int32} {y0 : Int32} {Q : Option Value → q_H → Prop} (hg : 84 ≤ n)
    (s1 : vp_in (x3 + (1 : Int32)) (ln 0))
    (s2 : vp_in (x3 + (2 : Int32)) (ln 0))
    (s3 : vp_in (x3 + (3 : Int32)) (ln 0))
    (k4 : q_EX q_KD m 117 0 [.ref 67, .int (di 0 ((x3 + (1 : Int32)).toNatClampNeg)), .int (di 0 ((x3 + (2 : Int32)).toNatClampNeg)), .int (di 0 ((x3 + (3 : Int32)).toNatClampNeg)), .retAddr 0] [] (n, sl, ln, di, dl, dr) (fun r1 h1 => q_EX q_KD (m + 1) 0 190 [.ref 0, .ref 6, .ref 67, .int x3] (r1.toList ++ [.int y0]) h1 Q)) : q_EX q_KD (m + 1) 0 171 [.ref 0, .ref 6, .ref 67, .int x3] [.int y0] (n, sl, ln, di, dl, dr) Q := by
  refine (x_aload_n 171 i0_171 rfl ?_)
  refine (x_aload_n 172 i0_172 rfl ?_)
  refine (x_iload_n 173 i0_173 rfl ?_)
  refine (x_iconst 174 1 i0_174 rfl ?_)
  refine (x_iadd 175 i0_175 ?_)
  refine (x_iaload 176 (di 0 ((x3 + (1 : Int32)).toNatClampNeg)) i0_176 rfl (u_lt hg rfl) s1 rfl ?_)
  refine (x_aload_n 177 i0_177 rfl ?_)
  refine (x_iload_n 178 i0_178 rfl ?_)
  refine (x_iconst 179 2 i0_179 rfl ?_)
  refine (x_iadd 180 i0_180 ?_)
  refine (x_iaload 181 (di 0 ((x3 + (2 : Int32)).toNatClampNeg)) i0_181 rfl (u_lt hg rfl) s2 rfl ?_)
  refine (x_aload_n 182 i0_182 rfl ?_)
  refine (x_iload_n 183 i0_183 rfl ?_)
  refine (x_iconst 184 3 i0_184 rfl ?_)
  refine (x_iadd 185 i0_185 ?_)
  refine (x_iaload 186 (di 0 ((x3 + (3 : Int32)).toNatClampNeg)) i0_186 rfl (u_lt hg rfl) s3 rfl ?_)
  exact (x_cv 187 (as := [.int (di 0 ((x3 + (1 : Int32)).toNatClampNeg)), .int (di 0 ((x3 + (2 : Int32)).toNatClampNeg)), .int (di 0 ((x3 + (3 : Int32)).toNatClampNeg))]) (rs := [.int y0]) i0_187 rfl rfl rfl rfl (Nat.le_of_ble_eq_true rfl) (u_lt hg rfl) rfl (Or.inr (Nat.le_of_ble_eq_true rfl)) (Nat.le_of_ble_eq_true rfl) rfl rfl k4)

set_option maxRecDepth 20000 in
theorem l0_209 {m n sl : Nat} {ln : Nat → Nat} {di : Nat → Nat → Int32} {dl : Nat → Nat → Int64} {dr : Nat → Nat → Option Nat} {x3 : Int32} {y0 : Int32} {Q : Option Value → q_H → Prop} (hg : 84 ≤ n)
    (s1 : vp_in (x3 + (1 : Int32)) (ln 0))
    (s2 : vp_in (x3 + (2 : Int32)) (ln 0))
    (k3 : q_EX q_KD m 120 0 [.ref 67, .int (di 0 ((x3 + (1 : Int32)).toNatClampNeg)), .int (di 0 ((x3 + (2 : Int32)).toNatClampNeg))] [] (n, sl, ln, di, dl, dr) (fun r1 h1 => q_EX q_KD (m + 1) 0 223 [.ref 0, .ref 6, .ref 67, .int x3] (r1.toList ++ [.int y0]) h1 Q)) : q_EX q_KD (m + 1) 0 209 [.ref 0, .ref 6, .ref 67, .int x3] [.int y0] (n, sl, ln, di, dl, dr) Q := by
  refine (x_aload_n 209 i0_209 rfl ?_)
  refine (x_aload_n 210 i0_210 rfl ?_)
  refine (x_iload_n 211 i0_211 rfl ?_)
  refine (x_iconst 212 1 i0_212 rfl ?_)
  refine (x_iadd 213 i0_213 ?_)
  refine (x_iaload 214 (di 0 ((x3 + (1 : Int32)).toNatClampNeg)) i0_214 rfl (u_lt hg rfl) s1 rfl ?_)
  refine (x_aload_n 215 i0_215 rfl ?_)
  refine (x_iload_n 216 i0_216 rfl ?_)
  refine (x_iconst 217 2 i0_217 rfl ?_)
  refine (x_iadd 218 i0_218 ?_)
  refine (x_iaload 219 (di 0 ((x3 + (2 : Int32)).toNatClampNeg)) i0_219 rfl (u_lt hg rfl) s2 rfl ?_)
  exact (x_cv 220 (as := [.int (di 0 ((x3 + (1 : Int32)).toNatClampNeg)), .int (di 0 ((x3 + (2 : Int32)).toNatClampNeg))]) (rs := [.int y0]) i0_220 rfl rfl rfl rfl (Nat.le_of_ble_eq_true rfl) (u_lt hg rfl) rfl (Or.inr (Nat.le_of_ble_eq_true rfl)) (Nat.le_of_ble_eq_true rfl) rfl rfl k3)

set_option maxRecDepth 20000 in
theorem l0_237 {m n sl : Nat} {ln : Nat → Nat} {di : Nat → Nat → Int32} {dl : Nat → Nat → Int64} {dr : Nat → Nat → Option Nat} {x3 : Int32} {y0 : Int32} {Q : Option Value → q_H → Prop} (hg : 84 ≤ n)
    (s1 : vp_in (x3 + (1 : Int32)) (ln 0))
    (k2 : q_EX q_KD m 121 0 [.ref 67, .int (di 0 ((x3 + (1 : Int32)).toNatClampNeg))] [] (n, sl, ln, di, dl, dr) (fun r1 h1 => q_EX q_KD (m + 1) 0 246 [.ref 0, .ref 6, .ref 67, .int x3] (r1.toList ++ [.int y0]) h1 Q)) : q_EX q_KD (m + 1) 0 237 [.ref 0, .ref 6, .ref 67, .int x3] [.int y0] (n, sl, ln, di, dl, dr) Q := by
  refine (x_aload_n 237 i0_237 rfl ?_)
  refine (x_aload_n 238 i0_238 rfl ?_)
  refine (x_iload_n 239 i0_239 rfl ?_)
  refine (x_iconst 240 1 i0_240 rfl ?_)
  refine (x_iadd 241 i0_241 ?_)
  refine (x_iaload 242 (di 0 ((x3 + (1 : Int32)).toNatClampNeg)) i0_242 rfl (u_lt hg rfl) s1 rfl ?_)
  exact (x_cv 243 (as := [.int (di 0 ((x3 + (1 : Int32)).toNatClampNeg))]) (rs := [.int y0]) i0_243 rfl rfl rfl rfl (Nat.le_of_ble_eq_true rfl) (u_lt hg rfl) rfl (Or.inr (Nat.le_of_ble_eq_true rfl)) (Nat.le_of_ble_eq_true rfl) rfl rfl k2)

set_option maxRecDepth 20000 in
theorem l0_280 {m n sl : Nat} {ln : Nat → Nat} {di : Nat → Nat → Int32} {dl : Nat → Nat → Int64} {dr : Nat → Nat → Option Nat} {x3 : Int32} {y0 : Int32} {Q : Option Value → q_H → Prop} (hg : 84 ≤ n)
    (s1 : vp_in (x3 + (1 : Int32)) (ln 0))
    (s2 : vp_in (x3 + (2 : Int32)) (ln 0))
    (s3 : vp_in (x3 + (3 : Int32)) (ln 0))
    (s4 : vp_in (x3 + (4 : Int32)) (ln 0))
    (s5 : vp_in (x3 + (5 : Int32)) (ln 0))
    (k6 : q_EX q_KD m 122 0 [.ref 67, .int (di 0 ((x3 + (1 : Int32)).toNatClampNeg)), .int (di 0 ((x3 + (2 : Int32)).toNatClampNeg)), .int (di 0 ((x3 + (3 : Int32)).toNatClampNeg)), .int (di 0 ((x3 + (4 : Int32)).toNatClampNeg)), .int (di 0 ((x3 + (5 : Int32)).toNatClampNeg))] [] (n, sl, ln, di, dl, dr) (fun r1 h1 => q_EX q_KD (m + 1) 0 309 [.ref 0, .ref 6, .ref 67, .int x3] (r1.toList ++ [.int y0]) h1 Q)) : q_EX q_KD (m + 1) 0 280 [.ref 0, .ref 6, .ref 67, .int x3] [.int y0] (n, sl, ln, di, dl, dr) Q := by
  refine (x_aload_n 280 i0_280 rfl ?_)
  refine (x_aload_n 281 i0_281 rfl ?_)
  refine (x_iload_n 282 i0_282 rfl ?_)
  refine (x_iconst 283 1 i0_283 rfl ?_)
  refine (x_iadd 284 i0_284 ?_)
  refine (x_iaload 285 (di 0 ((x3 + (1 : Int32)).toNatClampNeg)) i0_285 rfl (u_lt hg rfl) s1 rfl ?_)
  refine (x_aload_n 286 i0_286 rfl ?_)
  refine (x_iload_n 287 i0_287 rfl ?_)
  refine (x_iconst 288 2 i0_288 rfl ?_)
  refine (x_iadd 289 i0_289 ?_)
  refine (x_iaload 290 (di 0 ((x3 + (2 : Int32)).toNatClampNeg)) i0_290 rfl (u_lt hg rfl) s2 rfl ?_)
  refine (x_aload_n 291 i0_291 rfl ?_)
  refine (x_iload_n 292 i0_292 rfl ?_)
  refine (x_iconst 293 3 i0_293 rfl ?_)
  refine (x_iadd 294 i0_294 ?_)
  refine (x_iaload 295 (di 0 ((x3 + (3 : Int32)).toNatClampNeg)) i0_295 rfl (u_lt hg rfl) s3 rfl ?_)
  refine (x_aload_n 296 i0_296 rfl ?_)
  refine (x_iload_n 297 i0_297 rfl ?_)
  refine (x_iconst 298 4 i0_298 rfl ?_)
  refine (x_iadd 299 i0_299 ?_)
  refine (x_iaload 300 (di 0 ((x3 + (4 : Int32)).toNatClampNeg)) i0_300 rfl (u_lt hg rfl) s4 rfl ?_)
  refine (x_aload_n 301 i0_301 rfl ?_)
  refine (x_iload_n 302 i0_302 rfl ?_)
  refine (x_iconst 303 5 i0_303 rfl ?_)
  refine (x_iadd 304 i0_304 ?_)
  refine (x_iaload 305 (di 0 ((x3 + (5 : Int32)).toNatClampNeg)) i0_305 rfl (u_lt hg rfl) s5 rfl ?_)
  exact (x_cv 306 (as := [.int (di 0 ((x3 + (1 : Int32)).toNatClampNeg)), .int (di 0 ((x3 + (2 : Int32)).toNatClampNeg)), .int (di 0 ((x3 + (3 : Int32)).toNatClampNeg)), .int (di 0 ((x3 + (4 : Int32)).toNatClampNeg)), .int (di 0 ((x3 + (5 : Int32)).toNatClampNeg))]) (rs := [.int y0]) i0_306 rfl rfl rfl rfl (Nat.le_of_ble_eq_true rfl) (u_lt hg rfl) rfl (Or.inr (Nat.le_of_ble_eq_true rfl)) (Nat.le_of_ble_eq_true rfl) rfl rfl k6)

set_option maxRecDepth 20000 in
theorem l0_323 {m n sl : Nat} {ln : Nat → Nat} {di : Nat → Nat → Int32} {dl : Nat → Nat → Int64} {dr : Nat → Nat → Option Nat} {x3 : Int32} {y0 : Int32} {Q : Option Value → q_H → Prop} (hg : 84 ≤ n)
    (s1 : vp_in (x3 + (1 : Int32)) (ln 0))
    (k2 : q_EX q_KD m 124 0 [.ref 67, .int (di 0 ((x3 + (1 : Int32)).toNatClampNeg))] [] (n, sl, ln, di, dl, dr) (fun r1 h1 => q_EX q_KD (m + 1) 0 332 [.ref 0, .ref 6, .ref 67, .int x3] (r1.toList ++ [.int y0]) h1 Q)) : q_EX q_KD (m + 1) 0 323 [.ref 0, .ref 6, .ref 67, .int x3] [.int y0] (n, sl, ln, di, dl, dr) Q := by
  refine (x_aload_n 323 i0_323 rfl ?_)
  refine (x_aload_n 324 i0_324 rfl ?_)
  refine (x_iload_n 325 i0_325 rfl ?_)
  refine (x_iconst 326 1 i0_326 rfl ?_)
  refine (x_iadd 327 i0_327 ?_)
  refine (x_iaload 328 (di 0 ((x3 + (1 : Int32)).toNatClampNeg)) i0_328 rfl (u_lt hg rfl) s1 rfl ?_)
  exact (x_cv 329 (as := [.int (di 0 ((x3 + (1 : Int32)).toNatClampNeg))]) (rs := [.int y0]) i0_329 rfl rfl rfl rfl (Nat.le_of_ble_eq_true rfl) (u_lt hg rfl) rfl (Or.inr (Nat.le_of_ble_eq_true rfl)) (Nat.le_of_ble_eq_true rfl) rfl rfl k2)

set_option maxRecDepth 20000 in
theorem l0_341 {m n sl : Nat} {ln : Nat → Nat} {di : Nat → Nat → Int32} {dl : Nat → Nat → Int64} {dr : Nat → Nat → Option Nat} {x3 : Int32} {y0 : Int32} {Q : Option Value → q_H → Prop} (hg : 84 ≤ n)
    (k1 : q_EX q_KD m 125 0 [.ref 67] [] (n, sl, ln, di, dl, dr) (fun r1 h1 => q_EX q_KD (m + 1) 0 345 [.ref 0, .ref 6, .ref 67, .int x3] (r1.toList ++ [.int y0]) h1 Q)) : q_EX q_KD (m + 1) 0 341 [.ref 0, .ref 6, .ref 67, .int x3] [.int y0] (n, sl, ln, di, dl, dr) Q := by
  refine (x_aload_n 341 i0_341 rfl ?_)
  exact (x_cv 342 (as := []) (rs := [.int y0]) i0_342 rfl rfl rfl rfl (Nat.le_of_ble_eq_true rfl) (u_lt hg rfl) rfl (Or.inr (Nat.le_of_ble_eq_true rfl)) (Nat.le_of_ble_eq_true rfl) rfl rfl k1)

set_option maxRecDepth 20000 in
theorem l0_359 {m n sl : Nat} {ln : Nat → Nat} {di : Nat → Nat → Int32} {dl : Nat → Nat → Int64} {dr : Nat → Nat → Option Nat} {x3 : Int32} {y0 : Int32} {Q : Option Value → q_H → Prop} (hg : 84 ≤ n)
    (s1 : vp_in (x3 + (1 : Int32)) (ln 0))
    (k2 : q_EX q_KD m 155 0 [.ref 67, .int (di 0 ((x3 + (1 : Int32)).toNatClampNeg))] [] (n, sl, ln, di, dl, dr) (fun r1 h1 => q_EX q_KD (m + 1) 0 368 [.ref 0, .ref 6, .ref 67, .int x3] (r1.toList ++ [.int y0]) h1 Q)) : q_EX q_KD (m + 1) 0 359 [.ref 0, .ref 6, .ref 67, .int x3] [.int y0] (n, sl, ln, di, dl, dr) Q := by
  refine (x_aload_n 359 i0_359 rfl ?_)
  refine (x_aload_n 360 i0_360 rfl ?_)
  refine (x_iload_n 361 i0_361 rfl ?_)
  refine (x_iconst 362 1 i0_362 rfl ?_)
  refine (x_iadd 363 i0_363 ?_)
  refine (x_iaload 364 (di 0 ((x3 + (1 : Int32)).toNatClampNeg)) i0_364 rfl (u_lt hg rfl) s1 rfl ?_)
  exact (x_cv 365 (as := [.int (di 0 ((x3 + (1 : Int32)).toNatClampNeg))]) (rs := [.int y0]) i0_365 rfl rfl rfl rfl (Nat.le_of_ble_eq_true rfl) (u_lt hg rfl) rfl (Or.inr (Nat.le_of_ble_eq_true rfl)) (Nat.le_of_ble_eq_true rfl) rfl rfl k2)

set_option maxRecDepth 20000 in
theorem l0_382 {m n sl : Nat} {ln : Nat → Nat} {di : Nat → Nat → Int32} {dl : Nat → Nat → Int64} {dr : Nat → Nat → Option Nat} {x3 : Int32} {y0 : Int32} {Q : Option Value → q_H → Prop} (hg : 84 ≤ n)
    (s1 : vp_in (x3 + (1 : Int32)) (ln 0))
    (k2 : q_EX q_KD m 156 0 [.ref 67, .int (di 0 ((x3 + (1 : Int32)).toNatClampNeg))] [] (n, sl, ln, di, dl, dr) (fun r1 h1 => q_EX q_KD (m + 1) 0 391 [.ref 0, .ref 6, .ref 67, .int x3] (r1.toList ++ [.int y0]) h1 Q)) : q_EX q_KD (m + 1) 0 382 [.ref 0, .ref 6, .ref 67, .int x3] [.int y0] (n, sl, ln, di, dl, dr) Q := by
  refine (x_aload_n 382 i0_382 rfl ?_)
  refine (x_aload_n 383 i0_383 rfl ?_)
  refine (x_iload_n 384 i0_384 rfl ?_)
  refine (x_iconst 385 1 i0_385 rfl ?_)
  refine (x_iadd 386 i0_386 ?_)
  refine (x_iaload 387 (di 0 ((x3 + (1 : Int32)).toNatClampNeg)) i0_387 rfl (u_lt hg rfl) s1 rfl ?_)
  exact (x_cv 388 (as := [.int (di 0 ((x3 + (1 : Int32)).toNatClampNeg))]) (rs := [.int y0]) i0_388 rfl rfl rfl rfl (Nat.le_of_ble_eq_true rfl) (u_lt hg rfl) rfl (Or.inr (Nat.le_of_ble_eq_true rfl)) (Nat.le_of_ble_eq_true rfl) rfl rfl k2)

set_option maxRecDepth 20000 in
theorem l0_410 {m n sl : Nat} {ln : Nat → Nat} {di : Nat → Nat → Int32} {dl : Nat → Nat → Int64} {dr : Nat → Nat → Option Nat} {x3 : Int32} {y0 : Int32} {Q : Option Value → q_H → Prop} (hg : 84 ≤ n)
    (s1 : vp_in (x3 + (1 : Int32)) (ln 0))
    (s2 : vp_in (x3 + (2 : Int32)) (ln 0))
    (k3 : q_EX q_KD m 178 0 [.ref 67, .int (di 0 ((x3 + (1 : Int32)).toNatClampNeg)), .int (di 0 ((x3 + (2 : Int32)).toNatClampNeg))] [] (n, sl, ln, di, dl, dr) (fun r1 h1 => q_EX q_KD (m + 1) 0 424 [.ref 0, .ref 6, .ref 67, .int x3] (r1.toList ++ [.int y0]) h1 Q)) : q_EX q_KD (m + 1) 0 410 [.ref 0, .ref 6, .ref 67, .int x3] [.int y0] (n, sl, ln, di, dl, dr) Q := by
  refine (x_aload_n 410 i0_410 rfl ?_)
  refine (x_aload_n 411 i0_411 rfl ?_)
  refine (x_iload_n 412 i0_412 rfl ?_)
  refine (x_iconst 413 1 i0_413 rfl ?_)
  refine (x_iadd 414 i0_414 ?_)
  refine (x_iaload 415 (di 0 ((x3 + (1 : Int32)).toNatClampNeg)) i0_415 rfl (u_lt hg rfl) s1 rfl ?_)
  refine (x_aload_n 416 i0_416 rfl ?_)
  refine (x_iload_n 417 i0_417 rfl ?_)
  refine (x_iconst 418 2 i0_418 rfl ?_)
  refine (x_iadd 419 i0_419 ?_)
  refine (x_iaload 420 (di 0 ((x3 + (2 : Int32)).toNatClampNeg)) i0_420 rfl (u_lt hg rfl) s2 rfl ?_)
  exact (x_cv 421 (as := [.int (di 0 ((x3 + (1 : Int32)).toNatClampNeg)), .int (di 0 ((x3 + (2 : Int32)).toNatClampNeg))]) (rs := [.int y0]) i0_421 rfl rfl rfl rfl (Nat.le_of_ble_eq_true rfl) (u_lt hg rfl) rfl (Or.inr (Nat.le_of_ble_eq_true rfl)) (Nat.le_of_ble_eq_true rfl) rfl rfl k3)

set_option maxRecDepth 20000 in
theorem l0_451 {m n sl : Nat} {ln : Nat → Nat} {di : Nat → Nat → Int32} {dl : Nat → Nat → Int64} {dr : Nat → Nat → Option Nat} {x3 : Int32} {y0 : Int32} {Q : Option Value → q_H → Prop} (hg : 84 ≤ n)
    (s1 : vp_in (x3 + (1 : Int32)) (ln 0))
    (s2 : vp_in (x3 + (2 : Int32)) (ln 0))
    (k4 : ((di 0 ((x3 + (2 : Int32)).toNatClampNeg)) = (0 : Int32)) → q_EX q_KD m 181 0 [.ref 67, .int (di 0 ((x3 + (1 : Int32)).toNatClampNeg)), .int 0] [] (n, sl, ln, di, dl, dr) (fun r1 h1 => q_EX q_KD (m + 1) 0 473 [.ref 0, .ref 6, .ref 67, .int x3] (r1.toList ++ [.int y0]) h1 Q))
    (k5 : (¬ (di 0 ((x3 + (2 : Int32)).toNatClampNeg)) = (0 : Int32)) → q_EX q_KD m 181 0 [.ref 67, .int (di 0 ((x3 + (1 : Int32)).toNatClampNeg)), .int 1] [] (n, sl, ln, di, dl, dr) (fun r1 h1 => q_EX q_KD (m + 1) 0 473 [.ref 0, .ref 6, .ref 67, .int x3] (r1.toList ++ [.int y0]) h1 Q)) : q_EX q_KD (m + 1) 0 451 [.ref 0, .ref 6, .ref 67, .int x3] [.int y0] (n, sl, ln, di, dl, dr) Q := by
  refine (x_aload_n 451 i0_451 rfl ?_)
  refine (x_aload_n 452 i0_452 rfl ?_)
  refine (x_iload_n 453 i0_453 rfl ?_)
  refine (x_iconst 454 1 i0_454 rfl ?_)
  refine (x_iadd 455 i0_455 ?_)
  refine (x_iaload 456 (di 0 ((x3 + (1 : Int32)).toNatClampNeg)) i0_456 rfl (u_lt hg rfl) s1 rfl ?_)
  refine (x_aload_n 457 i0_457 rfl ?_)
  refine (x_iload_n 458 i0_458 rfl ?_)
  refine (x_iconst 459 2 i0_459 rfl ?_)
  refine (x_iadd 460 i0_460 ?_)
  refine (x_iaload 461 (di 0 ((x3 + (2 : Int32)).toNatClampNeg)) i0_461 rfl (u_lt hg rfl) s2 rfl ?_)
  refine (x_if_eq 462 469 i0_462 rfl (fun c3 => ?_) (fun c3 => ?_))
  · refine (x_iconst 469 0 i0_469 rfl ?_)
    exact (x_cv 470 (as := [.int (di 0 ((x3 + (1 : Int32)).toNatClampNeg)), .int 0]) (rs := [.int y0]) i0_470 rfl rfl rfl rfl (Nat.le_of_ble_eq_true rfl) (u_lt hg rfl) rfl (Or.inr (Nat.le_of_ble_eq_true rfl)) (Nat.le_of_ble_eq_true rfl) rfl rfl (k4 c3))
  · refine (x_iconst 465 1 i0_465 rfl ?_)
    refine (x_goto 466 470 i0_466 rfl ?_)
    exact (x_cv 470 (as := [.int (di 0 ((x3 + (1 : Int32)).toNatClampNeg)), .int 1]) (rs := [.int y0]) i0_470 rfl rfl rfl rfl (Nat.le_of_ble_eq_true rfl) (u_lt hg rfl) rfl (Or.inr (Nat.le_of_ble_eq_true rfl)) (Nat.le_of_ble_eq_true rfl) rfl rfl (k5 c3))

set_option maxRecDepth 20000 in
theorem l0_482 {m n sl : Nat} {ln : Nat → Nat} {di : Nat → Nat → Int32} {dl : Nat → Nat → Int64} {dr : Nat → Nat → Option Nat} {x3 : Int32} {y0 : Int32} {Q : Option Value → q_H → Prop} (hg : 84 ≤ n)
    (k1 : q_EX q_KD m 182 0 [.ref 67, .retAddr 0, .retAddr 0, .retAddr 0, .retAddr 0] [] (n, sl, ln, di, dl, dr) (fun r1 h1 => q_EX q_KD (m + 1) 0 486 [.ref 0, .ref 6, .ref 67, .int x3] (r1.toList ++ [.int y0]) h1 Q)) : q_EX q_KD (m + 1) 0 482 [.ref 0, .ref 6, .ref 67, .int x3] [.int y0] (n, sl, ln, di, dl, dr) Q := by
  refine (x_aload_n 482 i0_482 rfl ?_)
  exact (x_cv 483 (as := []) (rs := [.int y0]) i0_483 rfl rfl rfl rfl (Nat.le_of_ble_eq_true rfl) (u_lt hg rfl) rfl (Or.inr (Nat.le_of_ble_eq_true rfl)) (Nat.le_of_ble_eq_true rfl) rfl rfl k1)

set_option maxRecDepth 20000 in
theorem l0_500 {m n sl : Nat} {ln : Nat → Nat} {di : Nat → Nat → Int32} {dl : Nat → Nat → Int64} {dr : Nat → Nat → Option Nat} {x3 : Int32} {y0 : Int32} {Q : Option Value → q_H → Prop} (hg : 84 ≤ n)
    (s1 : vp_in (x3 + (1 : Int32)) (ln 0))
    (k2 : q_EX q_KD m 186 0 [.ref 67, .int (di 0 ((x3 + (1 : Int32)).toNatClampNeg)), .retAddr 0] [] (n, sl, ln, di, dl, dr) (fun r1 h1 => q_EX q_KD (m + 1) 0 509 [.ref 0, .ref 6, .ref 67, .int x3] (r1.toList ++ [.int y0]) h1 Q)) : q_EX q_KD (m + 1) 0 500 [.ref 0, .ref 6, .ref 67, .int x3] [.int y0] (n, sl, ln, di, dl, dr) Q := by
  refine (x_aload_n 500 i0_500 rfl ?_)
  refine (x_aload_n 501 i0_501 rfl ?_)
  refine (x_iload_n 502 i0_502 rfl ?_)
  refine (x_iconst 503 1 i0_503 rfl ?_)
  refine (x_iadd 504 i0_504 ?_)
  refine (x_iaload 505 (di 0 ((x3 + (1 : Int32)).toNatClampNeg)) i0_505 rfl (u_lt hg rfl) s1 rfl ?_)
  exact (x_cv 506 (as := [.int (di 0 ((x3 + (1 : Int32)).toNatClampNeg))]) (rs := [.int y0]) i0_506 rfl rfl rfl rfl (Nat.le_of_ble_eq_true rfl) (u_lt hg rfl) rfl (Or.inr (Nat.le_of_ble_eq_true rfl)) (Nat.le_of_ble_eq_true rfl) rfl rfl k2)

set_option maxRecDepth 20000 in
theorem l0_518 {m n sl : Nat} {ln : Nat → Nat} {di : Nat → Nat → Int32} {dl : Nat → Nat → Int64} {dr : Nat → Nat → Option Nat} {x3 : Int32} {y0 : Int32} {Q : Option Value → q_H → Prop} (hg : 84 ≤ n)
    (k1 : q_EX q_KD m 177 0 [.ref 67, .retAddr 0, .retAddr 0, .retAddr 0] [] (n, sl, ln, di, dl, dr) (fun r1 h1 => q_EX q_KD (m + 1) 0 522 [.ref 0, .ref 6, .ref 67, .int x3] (r1.toList ++ [.int y0]) h1 Q)) : q_EX q_KD (m + 1) 0 518 [.ref 0, .ref 6, .ref 67, .int x3] [.int y0] (n, sl, ln, di, dl, dr) Q := by
  refine (x_aload_n 518 i0_518 rfl ?_)
  exact (x_cv 519 (as := []) (rs := [.int y0]) i0_519 rfl rfl rfl rfl (Nat.le_of_ble_eq_true rfl) (u_lt hg rfl) rfl (Or.inr (Nat.le_of_ble_eq_true rfl)) (Nat.le_of_ble_eq_true rfl) rfl rfl k1)

set_option maxRecDepth 20000 in
theorem l0_541 {m n sl : Nat} {ln : Nat → Nat} {di : Nat → Nat → Int32} {dl : Nat → Nat → Int64} {dr : Nat → Nat → Option Nat} {x3 : Int32} {y0 : Int32} {Q : Option Value → q_H → Prop} (hg : 84 ≤ n)
    (s1 : vp_in (x3 + (1 : Int32)) (ln 0))
    (s2 : vp_in (x3 + (2 : Int32)) (ln 0))
    (k3 : q_EX q_KD m 188 0 [.ref 67, .int (di 0 ((x3 + (1 : Int32)).toNatClampNeg)), .int (di 0 ((x3 + (2 : Int32)).toNatClampNeg))] [] (n, sl, ln, di, dl, dr) (fun r1 h1 => q_EX q_KD (m + 1) 0 555 [.ref 0, .ref 6, .ref 67, .int x3] (r1.toList ++ [.int y0]) h1 Q)) : q_EX q_KD (m + 1) 0 541 [.ref 0, .ref 6, .ref 67, .int x3] [.int y0] (n, sl, ln, di, dl, dr) Q := by
  refine (x_aload_n 541 i0_541 rfl ?_)
  refine (x_aload_n 542 i0_542 rfl ?_)
  refine (x_iload_n 543 i0_543 rfl ?_)
  refine (x_iconst 544 1 i0_544 rfl ?_)
  refine (x_iadd 545 i0_545 ?_)
  refine (x_iaload 546 (di 0 ((x3 + (1 : Int32)).toNatClampNeg)) i0_546 rfl (u_lt hg rfl) s1 rfl ?_)
  refine (x_aload_n 547 i0_547 rfl ?_)
  refine (x_iload_n 548 i0_548 rfl ?_)
  refine (x_iconst 549 2 i0_549 rfl ?_)
  refine (x_iadd 550 i0_550 ?_)
  refine (x_iaload 551 (di 0 ((x3 + (2 : Int32)).toNatClampNeg)) i0_551 rfl (u_lt hg rfl) s2 rfl ?_)
  exact (x_cv 552 (as := [.int (di 0 ((x3 + (1 : Int32)).toNatClampNeg)), .int (di 0 ((x3 + (2 : Int32)).toNatClampNeg))]) (rs := [.int y0]) i0_552 rfl rfl rfl rfl (Nat.le_of_ble_eq_true rfl) (u_lt hg rfl) rfl (Or.inr (Nat.le_of_ble_eq_true rfl)) (Nat.le_of_ble_eq_true rfl) rfl rfl k3)

set_option maxRecDepth 20000 in
theorem l0_574 {m n sl : Nat} {ln : Nat → Nat} {di : Nat → Nat → Int32} {dl : Nat → Nat → Int64} {dr : Nat → Nat → Option Nat} {x3 : Int32} {y0 : Int32} {Q : Option Value → q_H → Prop} (hg : 84 ≤ n)
    (s1 : vp_in (x3 + (1 : Int32)) (ln 0))
    (s2 : vp_in (x3 + (2 : Int32)) (ln 0))
    (k3 : q_EX q_KD m 157 0 [.ref 67, .int (di 0 ((x3 + (1 : Int32)).toNatClampNeg)), .int (di 0 ((x3 + (2 : Int32)).toNatClampNeg)), .retAddr 0] [] (n, sl, ln, di, dl, dr) (fun r1 h1 => q_EX q_KD (m + 1) 0 588 [.ref 0, .ref 6, .ref 67, .int x3] (r1.toList ++ [.int y0]) h1 Q)) : q_EX q_KD (m + 1) 0 574 [.ref 0, .ref 6, .ref 67, .int x3] [.int y0] (n, sl, ln, di, dl, dr) Q := by
  refine (x_aload_n 574 i0_574 rfl ?_)
  refine (x_aload_n 575 i0_575 rfl ?_)
  refine (x_iload_n 576 i0_576 rfl ?_)
  refine (x_iconst 577 1 i0_577 rfl ?_)
  refine (x_iadd 578 i0_578 ?_)
  refine (x_iaload 579 (di 0 ((x3 + (1 : Int32)).toNatClampNeg)) i0_579 rfl (u_lt hg rfl) s1 rfl ?_)
  refine (x_aload_n 580 i0_580 rfl ?_)
  refine (x_iload_n 581 i0_581 rfl ?_)
  refine (x_iconst 582 2 i0_582 rfl ?_)
  refine (x_iadd 583 i0_583 ?_)
  refine (x_iaload 584 (di 0 ((x3 + (2 : Int32)).toNatClampNeg)) i0_584 rfl (u_lt hg rfl) s2 rfl ?_)
  exact (x_cv 585 (as := [.int (di 0 ((x3 + (1 : Int32)).toNatClampNeg)), .int (di 0 ((x3 + (2 : Int32)).toNatClampNeg))]) (rs := [.int y0]) i0_585 rfl rfl rfl rfl (Nat.le_of_ble_eq_true rfl) (u_lt hg rfl) rfl (Or.inr (Nat.le_of_ble_eq_true rfl)) (Nat.le_of_ble_eq_true rfl) rfl rfl k3)

set_option maxRecDepth 20000 in
theorem l0_602 {m n sl : Nat} {ln : Nat → Nat} {di : Nat → Nat → Int32} {dl : Nat → Nat → Int64} {dr : Nat → Nat → Option Nat} {x3 : Int32} {y0 : Int32} {Q : Option Value → q_H → Prop} (hg : 84 ≤ n)
    (s1 : vp_in (x3 + (1 : Int32)) (ln 0))
    (k2 : q_EX q_KD m 189 0 [.ref 67, .int (di 0 ((x3 + (1 : Int32)).toNatClampNeg))] [] (n, sl, ln, di, dl, dr) (fun r1 h1 => q_EX q_KD (m + 1) 0 611 [.ref 0, .ref 6, .ref 67, .int x3] (r1.toList ++ [.int y0]) h1 Q)) : q_EX q_KD (m + 1) 0 602 [.ref 0, .ref 6, .ref 67, .int x3] [.int y0] (n, sl, ln, di, dl, dr) Q := by
  refine (x_aload_n 602 i0_602 rfl ?_)
  refine (x_aload_n 603 i0_603 rfl ?_)
  refine (x_iload_n 604 i0_604 rfl ?_)
  refine (x_iconst 605 1 i0_605 rfl ?_)
  refine (x_iadd 606 i0_606 ?_)
  refine (x_iaload 607 (di 0 ((x3 + (1 : Int32)).toNatClampNeg)) i0_607 rfl (u_lt hg rfl) s1 rfl ?_)
  exact (x_cv 608 (as := [.int (di 0 ((x3 + (1 : Int32)).toNatClampNeg))]) (rs := [.int y0]) i0_608 rfl rfl rfl rfl (Nat.le_of_ble_eq_true rfl) (u_lt hg rfl) rfl (Or.inr (Nat.le_of_ble_eq_true rfl)) (Nat.le_of_ble_eq_true rfl) rfl rfl k2)

set_option maxRecDepth 20000 in
theorem l0_625 {m n sl : Nat} {ln : Nat → Nat} {di : Nat → Nat → Int32} {dl : Nat → Nat → Int64} {dr : Nat → Nat → Option Nat} {x3 : Int32} {y0 : Int32} {Q : Option Value → q_H → Prop} (hg : 84 ≤ n)
    (s1 : vp_in (x3 + (1 : Int32)) (ln 0))
    (k2 : q_EX q_KD m 191 0 [.ref 67, .int (di 0 ((x3 + (1 : Int32)).toNatClampNeg))] [] (n, sl, ln, di, dl, dr) (fun r1 h1 => q_EX q_KD (m + 1) 0 634 [.ref 0, .ref 6, .ref 67, .int x3] (r1.toList ++ [.int y0]) h1 Q)) : q_EX q_KD (m + 1) 0 625 [.ref 0, .ref 6, .ref 67, .int x3] [.int y0] (n, sl, ln, di, dl, dr) Q := by
  refine (x_aload_n 625 i0_625 rfl ?_)
  refine (x_aload_n 626 i0_626 rfl ?_)
  refine (x_iload_n 627 i0_627 rfl ?_)
  refine (x_iconst 628 1 i0_628 rfl ?_)
  refine (x_iadd 629 i0_629 ?_)
  refine (x_iaload 630 (di 0 ((x3 + (1 : Int32)).toNatClampNeg)) i0_630 rfl (u_lt hg rfl) s1 rfl ?_)
  exact (x_cv 631 (as := [.int (di 0 ((x3 + (1 : Int32)).toNatClampNeg))]) (rs := [.int y0]) i0_631 rfl rfl rfl rfl (Nat.le_of_ble_eq_true rfl) (u_lt hg rfl) rfl (Or.inr (Nat.le_of_ble_eq_true rfl)) (Nat.le_of_ble_eq_true rfl) rfl rfl k2)

set_option maxRecDepth 20000 in
theorem l0_653 {m n sl : Nat} {ln : Nat → Nat} {di : Nat → Nat → Int32} {dl : Nat → Nat → Int64} {dr : Nat → Nat → Option Nat} {x3 : Int32} {y0 : Int32} {Q : Option Value → q_H → Prop} (hg : 84 ≤ n)
    (s1 : vp_in (x3 + (1 : Int32)) (ln 0))
    (s2 : vp_in (x3 + (2 : Int32)) (ln 0))
    (k3 : q_EX q_KD m 192 0 [.ref 67, .int (di 0 ((x3 + (1 : Int32)).toNatClampNeg)), .int (di 0 ((x3 + (2 : Int32)).toNatClampNeg)), .retAddr 0, .retAddr 0, .retAddr 0, .retAddr 0] [] (n, sl, ln, di, dl, dr) (fun r1 h1 => q_EX q_KD (m + 1) 0 667 [.ref 0, .ref 6, .ref 67, .int x3] (r1.toList ++ [.int y0]) h1 Q)) : q_EX q_KD (m + 1) 0 653 [.ref 0, .ref 6, .ref 67, .int x3] [.int y0] (n, sl, ln, di, dl, dr) Q := by
  refine (x_aload_n 653 i0_653 rfl ?_)
  refine (x_aload_n 654 i0_654 rfl ?_)
  refine (x_iload_n 655 i0_655 rfl ?_)
  refine (x_iconst 656 1 i0_656 rfl ?_)
  refine (x_iadd 657 i0_657 ?_)
  refine (x_iaload 658 (di 0 ((x3 + (1 : Int32)).toNatClampNeg)) i0_658 rfl (u_lt hg rfl) s1 rfl ?_)
  refine (x_aload_n 659 i0_659 rfl ?_)
  refine (x_iload_n 660 i0_660 rfl ?_)
  refine (x_iconst 661 2 i0_661 rfl ?_)
  refine (x_iadd 662 i0_662 ?_)
  refine (x_iaload 663 (di 0 ((x3 + (2 : Int32)).toNatClampNeg)) i0_663 rfl (u_lt hg rfl) s2 rfl ?_)
  exact (x_cv 664 (as := [.int (di 0 ((x3 + (1 : Int32)).toNatClampNeg)), .int (di 0 ((x3 + (2 : Int32)).toNatClampNeg))]) (rs := [.int y0]) i0_664 rfl rfl rfl rfl (Nat.le_of_ble_eq_true rfl) (u_lt hg rfl) rfl (Or.inr (Nat.le_of_ble_eq_true rfl)) (Nat.le_of_ble_eq_true rfl) rfl rfl k3)

set_option maxRecDepth 20000 in
theorem l0_681 {m n sl : Nat} {ln : Nat → Nat} {di : Nat → Nat → Int32} {dl : Nat → Nat → Int64} {dr : Nat → Nat → Option Nat} {x3 : Int32} {y0 : Int32} {Q : Option Value → q_H → Prop} (hg : 84 ≤ n)
    (s1 : vp_in (x3 + (1 : Int32)) (ln 0))
    (k2 : q_EX q_KD m 195 0 [.ref 67, .int (di 0 ((x3 + (1 : Int32)).toNatClampNeg)), .retAddr 0, .retAddr 0, .retAddr 0, .retAddr 0] [] (n, sl, ln, di, dl, dr) (fun r1 h1 => q_EX q_KD (m + 1) 0 690 [.ref 0, .ref 6, .ref 67, .int x3] (r1.toList ++ [.int y0]) h1 Q)) : q_EX q_KD (m + 1) 0 681 [.ref 0, .ref 6, .ref 67, .int x3] [.int y0] (n, sl, ln, di, dl, dr) Q := by
  refine (x_aload_n 681 i0_681 rfl ?_)
  refine (x_aload_n 682 i0_682 rfl ?_)
  refine (x_iload_n 683 i0_683 rfl ?_)
  refine (x_iconst 684 1 i0_684 rfl ?_)
  refine (x_iadd 685 i0_685 ?_)
  refine (x_iaload 686 (di 0 ((x3 + (1 : Int32)).toNatClampNeg)) i0_686 rfl (u_lt hg rfl) s1 rfl ?_)
  exact (x_cv 687 (as := [.int (di 0 ((x3 + (1 : Int32)).toNatClampNeg))]) (rs := [.int y0]) i0_687 rfl rfl rfl rfl (Nat.le_of_ble_eq_true rfl) (u_lt hg rfl) rfl (Or.inr (Nat.le_of_ble_eq_true rfl)) (Nat.le_of_ble_eq_true rfl) rfl rfl k2)

set_option maxRecDepth 20000 in
theorem l0_704 {m n sl : Nat} {ln : Nat → Nat} {di : Nat → Nat → Int32} {dl : Nat → Nat → Int64} {dr : Nat → Nat → Option Nat} {x3 : Int32} {y0 : Int32} {Q : Option Value → q_H → Prop} (hg : 84 ≤ n)
    (s1 : vp_in (x3 + (1 : Int32)) (ln 0))
    (k2 : q_EX q_KD m 199 0 [.ref 67, .int (di 0 ((x3 + (1 : Int32)).toNatClampNeg)), .retAddr 0, .retAddr 0, .retAddr 0, .retAddr 0] [] (n, sl, ln, di, dl, dr) (fun r1 h1 => q_EX q_KD (m + 1) 0 713 [.ref 0, .ref 6, .ref 67, .int x3] (r1.toList ++ [.int y0]) h1 Q)) : q_EX q_KD (m + 1) 0 704 [.ref 0, .ref 6, .ref 67, .int x3] [.int y0] (n, sl, ln, di, dl, dr) Q := by
  refine (x_aload_n 704 i0_704 rfl ?_)
  refine (x_aload_n 705 i0_705 rfl ?_)
  refine (x_iload_n 706 i0_706 rfl ?_)
  refine (x_iconst 707 1 i0_707 rfl ?_)
  refine (x_iadd 708 i0_708 ?_)
  refine (x_iaload 709 (di 0 ((x3 + (1 : Int32)).toNatClampNeg)) i0_709 rfl (u_lt hg rfl) s1 rfl ?_)
  exact (x_cv 710 (as := [.int (di 0 ((x3 + (1 : Int32)).toNatClampNeg))]) (rs := [.int y0]) i0_710 rfl rfl rfl rfl (Nat.le_of_ble_eq_true rfl) (u_lt hg rfl) rfl (Or.inr (Nat.le_of_ble_eq_true rfl)) (Nat.le_of_ble_eq_true rfl) rfl rfl k2)

set_option maxRecDepth 20000 in
theorem l0_727 {m n sl : Nat} {ln : Nat → Nat} {di : Nat → Nat → Int32} {dl : Nat → Nat → Int64} {dr : Nat → Nat → Option Nat} {x3 : Int32} {y0 : Int32} {Q : Option Value → q_H → Prop} (hg : 84 ≤ n)
    (s1 : vp_in (x3 + (1 : Int32)) (ln 0))
    (k2 : q_EX q_KD m 200 0 [.ref 67, .int (di 0 ((x3 + (1 : Int32)).toNatClampNeg)), .retAddr 0, .retAddr 0, .retAddr 0, .retAddr 0] [] (n, sl, ln, di, dl, dr) (fun r1 h1 => q_EX q_KD (m + 1) 0 736 [.ref 0, .ref 6, .ref 67, .int x3] (r1.toList ++ [.int y0]) h1 Q)) : q_EX q_KD (m + 1) 0 727 [.ref 0, .ref 6, .ref 67, .int x3] [.int y0] (n, sl, ln, di, dl, dr) Q := by
  refine (x_aload_n 727 i0_727 rfl ?_)
  refine (x_aload_n 728 i0_728 rfl ?_)
  refine (x_iload_n 729 i0_729 rfl ?_)
  refine (x_iconst 730 1 i0_730 rfl ?_)
  refine (x_iadd 731 i0_731 ?_)
  refine (x_iaload 732 (di 0 ((x3 + (1 : Int32)).toNatClampNeg)) i0_732 rfl (u_lt hg rfl) s1 rfl ?_)
  exact (x_cv 733 (as := [.int (di 0 ((x3 + (1 : Int32)).toNatClampNeg))]) (rs := [.int y0]) i0_733 rfl rfl rfl rfl (Nat.le_of_ble_eq_true rfl) (u_lt hg rfl) rfl (Or.inr (Nat.le_of_ble_eq_true rfl)) (Nat.le_of_ble_eq_true rfl) rfl rfl k2)

set_option maxRecDepth 20000 in
theorem l0_750 {m n sl : Nat} {ln : Nat → Nat} {di : Nat → Nat → Int32} {dl : Nat → Nat → Int64} {dr : Nat → Nat → Option Nat} {x3 : Int32} {y0 : Int32} {Q : Option Value → q_H → Prop} (hg : 84 ≤ n)
    (s1 : vp_in (x3 + (1 : Int32)) (ln 0))
    (k2 : q_EX q_KD m 201 0 [.ref 67, .int (di 0 ((x3 + (1 : Int32)).toNatClampNeg))] [] (n, sl, ln, di, dl, dr) (fun r1 h1 => q_EX q_KD (m + 1) 0 759 [.ref 0, .ref 6, .ref 67, .int x3] (r1.toList ++ [.int y0]) h1 Q)) : q_EX q_KD (m + 1) 0 750 [.ref 0, .ref 6, .ref 67, .int x3] [.int y0] (n, sl, ln, di, dl, dr) Q := by
  refine (x_aload_n 750 i0_750 rfl ?_)
  refine (x_aload_n 751 i0_751 rfl ?_)
  refine (x_iload_n 752 i0_752 rfl ?_)
  refine (x_iconst 753 1 i0_753 rfl ?_)
  refine (x_iadd 754 i0_754 ?_)
  refine (x_iaload 755 (di 0 ((x3 + (1 : Int32)).toNatClampNeg)) i0_755 rfl (u_lt hg rfl) s1 rfl ?_)
  exact (x_cv 756 (as := [.int (di 0 ((x3 + (1 : Int32)).toNatClampNeg))]) (rs := [.int y0]) i0_756 rfl rfl rfl rfl (Nat.le_of_ble_eq_true rfl) (u_lt hg rfl) rfl (Or.inr (Nat.le_of_ble_eq_true rfl)) (Nat.le_of_ble_eq_true rfl) rfl rfl k2)

set_option maxRecDepth 20000 in
theorem l0_773 {m n sl : Nat} {ln : Nat → Nat} {di : Nat → Nat → Int32} {dl : Nat → Nat → Int64} {dr : Nat → Nat → Option Nat} {x3 : Int32} {y0 : Int32} {Q : Option Value → q_H → Prop} (hg : 84 ≤ n)
    (s1 : vp_in (x3 + (1 : Int32)) (ln 0))
    (k2 : q_EX q_KD m 202 0 [.ref 67, .int (di 0 ((x3 + (1 : Int32)).toNatClampNeg)), .retAddr 0, .retAddr 0, .retAddr 0] [] (n, sl, ln, di, dl, dr) (fun r1 h1 => q_EX q_KD (m + 1) 0 782 [.ref 0, .ref 6, .ref 67, .int x3] (r1.toList ++ [.int y0]) h1 Q)) : q_EX q_KD (m + 1) 0 773 [.ref 0, .ref 6, .ref 67, .int x3] [.int y0] (n, sl, ln, di, dl, dr) Q := by
  refine (x_aload_n 773 i0_773 rfl ?_)
  refine (x_aload_n 774 i0_774 rfl ?_)
  refine (x_iload_n 775 i0_775 rfl ?_)
  refine (x_iconst 776 1 i0_776 rfl ?_)
  refine (x_iadd 777 i0_777 ?_)
  refine (x_iaload 778 (di 0 ((x3 + (1 : Int32)).toNatClampNeg)) i0_778 rfl (u_lt hg rfl) s1 rfl ?_)
  exact (x_cv 779 (as := [.int (di 0 ((x3 + (1 : Int32)).toNatClampNeg))]) (rs := [.int y0]) i0_779 rfl rfl rfl rfl (Nat.le_of_ble_eq_true rfl) (u_lt hg rfl) rfl (Or.inr (Nat.le_of_ble_eq_true rfl)) (Nat.le_of_ble_eq_true rfl) rfl rfl k2)

set_option maxRecDepth 20000 in
theorem l0_791 {m n sl : Nat} {ln : Nat → Nat} {di : Nat → Nat → Int32} {dl : Nat → Nat → Int64} {dr : Nat → Nat → Option Nat} {x3 : Int32} {y0 : Int32} {Q : Option Value → q_H → Prop} (hg : 84 ≤ n)
    (k1 : q_EX q_KD m 204 0 [.ref 67] [] (n, sl, ln, di, dl, dr) (fun r1 h1 => q_EX q_KD (m + 1) 0 795 [.ref 0, .ref 6, .ref 67, .int x3] (r1.toList ++ [.int y0]) h1 Q)) : q_EX q_KD (m + 1) 0 791 [.ref 0, .ref 6, .ref 67, .int x3] [.int y0] (n, sl, ln, di, dl, dr) Q := by
  refine (x_aload_n 791 i0_791 rfl ?_)
  exact (x_cv 792 (as := []) (rs := [.int y0]) i0_792 rfl rfl rfl rfl (Nat.le_of_ble_eq_true rfl) (u_lt hg rfl) rfl (Or.inr (Nat.le_of_ble_eq_true rfl)) (Nat.le_of_ble_eq_true rfl) rfl rfl k1)

set_option maxRecDepth 20000 in
theorem l0_804 {m n sl : Nat} {ln : Nat → Nat} {di : Nat → Nat → Int32} {dl : Nat → Nat → Int64} {dr : Nat → Nat → Option Nat} {x3 : Int32} {y0 : Int32} {Q : Option Value → q_H → Prop} (hg : 84 ≤ n)
    (k1 : q_EX q_KD m 205 0 [.ref 67] [] (n, sl, ln, di, dl, dr) (fun r1 h1 => q_EX q_KD (m + 1) 0 808 [.ref 0, .ref 6, .ref 67, .int x3] (r1.toList ++ [.int y0]) h1 Q)) : q_EX q_KD (m + 1) 0 804 [.ref 0, .ref 6, .ref 67, .int x3] [.int y0] (n, sl, ln, di, dl, dr) Q := by
  refine (x_aload_n 804 i0_804 rfl ?_)
  exact (x_cv 805 (as := []) (rs := [.int y0]) i0_805 rfl rfl rfl rfl (Nat.le_of_ble_eq_true rfl) (u_lt hg rfl) rfl (Or.inr (Nat.le_of_ble_eq_true rfl)) (Nat.le_of_ble_eq_true rfl) rfl rfl k1)

set_option maxRecDepth 20000 in
theorem l0_822 {m n sl : Nat} {ln : Nat → Nat} {di : Nat → Nat → Int32} {dl : Nat → Nat → Int64} {dr : Nat → Nat → Option Nat} {x3 : Int32} {y0 : Int32} {Q : Option Value → q_H → Prop} (hg : 84 ≤ n)
    (s1 : vp_in (x3 + (1 : Int32)) (ln 0))
    (k2 : q_EX q_KD m 206 0 [.ref 67, .int (di 0 ((x3 + (1 : Int32)).toNatClampNeg))] [] (n, sl, ln, di, dl, dr) (fun r1 h1 => q_EX q_KD (m + 1) 0 831 [.ref 0, .ref 6, .ref 67, .int x3] (r1.toList ++ [.int y0]) h1 Q)) : q_EX q_KD (m + 1) 0 822 [.ref 0, .ref 6, .ref 67, .int x3] [.int y0] (n, sl, ln, di, dl, dr) Q := by
  refine (x_aload_n 822 i0_822 rfl ?_)
  refine (x_aload_n 823 i0_823 rfl ?_)
  refine (x_iload_n 824 i0_824 rfl ?_)
  refine (x_iconst 825 1 i0_825 rfl ?_)
  refine (x_iadd 826 i0_826 ?_)
  refine (x_iaload 827 (di 0 ((x3 + (1 : Int32)).toNatClampNeg)) i0_827 rfl (u_lt hg rfl) s1 rfl ?_)
  exact (x_cv 828 (as := [.int (di 0 ((x3 + (1 : Int32)).toNatClampNeg))]) (rs := [.int y0]) i0_828 rfl rfl rfl rfl (Nat.le_of_ble_eq_true rfl) (u_lt hg rfl) rfl (Or.inr (Nat.le_of_ble_eq_true rfl)) (Nat.le_of_ble_eq_true rfl) rfl rfl k2)

set_option maxRecDepth 20000 in
theorem l0_190 {d n sl : Nat} {ln : Nat → Nat} {di : Nat → Nat → Int32} {dl : Nat → Nat → Int64} {dr : Nat → Nat → Option Nat} {x3 : Int32} {y0 : Int32} {y1 : Int32} {Q : Option Value → q_H → Prop} (hg : 84 ≤ n)
    (k2 : (y1 = y0) → q_EX q_KD d 0 18 [.ref 0, .ref 6, .ref 67, .int (x3 + 6)] [] (n, sl, ln, di, dl, dr) Q)
    (k3 : (¬ y1 = y0) → Q (some (.int 0)) (n, sl, ln, di, dl, dr)) : q_EX q_KD d 0 190 [.ref 0, .ref 6, .ref 67, .int x3] [.int y0, .int y1] (n, sl, ln, di, dl, dr) Q := by
  refine (x_icmp_eq 190 836 i0_190 rfl (fun c1 => ?_) (fun c1 => ?_))
  · refine (x_iinc 836 (x3 + 6) (ls2 := [.ref 0, .ref 6, .ref 67, .int (x3 + 6)]) i0_836 rfl (Nat.le_of_ble_eq_true rfl) rfl rfl ?_)
    exact (x_goto 839 18 i0_839 rfl (k2 c1))
  · refine (x_iconst 193 0 i0_193 rfl ?_)
    exact (x_iret0 194 i0_194 rfl (k3 c1))

set_option maxRecDepth 20000 in
theorem l0_223 {d n sl : Nat} {ln : Nat → Nat} {di : Nat → Nat → Int32} {dl : Nat → Nat → Int64} {dr : Nat → Nat → Option Nat} {x3 : Int32} {y0 : Int32} {y1 : Int32} {Q : Option Value → q_H → Prop} (hg : 84 ≤ n)
    (k2 : (y1 = y0) → q_EX q_KD d 0 18 [.ref 0, .ref 6, .ref 67, .int (x3 + 6)] [] (n, sl, ln, di, dl, dr) Q)
    (k3 : (¬ y1 = y0) → Q (some (.int 0)) (n, sl, ln, di, dl, dr)) : q_EX q_KD d 0 223 [.ref 0, .ref 6, .ref 67, .int x3] [.int y0, .int y1] (n, sl, ln, di, dl, dr) Q := by
  refine (x_icmp_eq 223 836 i0_223 rfl (fun c1 => ?_) (fun c1 => ?_))
  · refine (x_iinc 836 (x3 + 6) (ls2 := [.ref 0, .ref 6, .ref 67, .int (x3 + 6)]) i0_836 rfl (Nat.le_of_ble_eq_true rfl) rfl rfl ?_)
    exact (x_goto 839 18 i0_839 rfl (k2 c1))
  · refine (x_iconst 226 0 i0_226 rfl ?_)
    exact (x_iret0 227 i0_227 rfl (k3 c1))

set_option maxRecDepth 20000 in
theorem l0_246 {d n sl : Nat} {ln : Nat → Nat} {di : Nat → Nat → Int32} {dl : Nat → Nat → Int64} {dr : Nat → Nat → Option Nat} {x3 : Int32} {y0 : Int32} {y1 : Int32} {Q : Option Value → q_H → Prop} (hg : 84 ≤ n)
    (k2 : (y1 = y0) → q_EX q_KD d 0 18 [.ref 0, .ref 6, .ref 67, .int (x3 + 6)] [] (n, sl, ln, di, dl, dr) Q)
    (k3 : (¬ y1 = y0) → Q (some (.int 0)) (n, sl, ln, di, dl, dr)) : q_EX q_KD d 0 246 [.ref 0, .ref 6, .ref 67, .int x3] [.int y0, .int y1] (n, sl, ln, di, dl, dr) Q := by
  refine (x_icmp_eq 246 836 i0_246 rfl (fun c1 => ?_) (fun c1 => ?_))
  · refine (x_iinc 836 (x3 + 6) (ls2 := [.ref 0, .ref 6, .ref 67, .int (x3 + 6)]) i0_836 rfl (Nat.le_of_ble_eq_true rfl) rfl rfl ?_)
    exact (x_goto 839 18 i0_839 rfl (k2 c1))
  · refine (x_iconst 249 0 i0_249 rfl ?_)
    exact (x_iret0 250 i0_250 rfl (k3 c1))

set_option maxRecDepth 20000 in
theorem l0_309 {d n sl : Nat} {ln : Nat → Nat} {di : Nat → Nat → Int32} {dl : Nat → Nat → Int64} {dr : Nat → Nat → Option Nat} {x3 : Int32} {y0 : Int32} {y1 : Int32} {Q : Option Value → q_H → Prop} (hg : 84 ≤ n)
    (k2 : (y1 = y0) → q_EX q_KD d 0 18 [.ref 0, .ref 6, .ref 67, .int (x3 + 6)] [] (n, sl, ln, di, dl, dr) Q)
    (k3 : (¬ y1 = y0) → Q (some (.int 0)) (n, sl, ln, di, dl, dr)) : q_EX q_KD d 0 309 [.ref 0, .ref 6, .ref 67, .int x3] [.int y0, .int y1] (n, sl, ln, di, dl, dr) Q := by
  refine (x_icmp_eq 309 836 i0_309 rfl (fun c1 => ?_) (fun c1 => ?_))
  · refine (x_iinc 836 (x3 + 6) (ls2 := [.ref 0, .ref 6, .ref 67, .int (x3 + 6)]) i0_836 rfl (Nat.le_of_ble_eq_true rfl) rfl rfl ?_)
    exact (x_goto 839 18 i0_839 rfl (k2 c1))
  · refine (x_iconst 312 0 i0_312 rfl ?_)
    exact (x_iret0 313 i0_313 rfl (k3 c1))

set_option maxRecDepth 20000 in
theorem l0_332 {d n sl : Nat} {ln : Nat → Nat} {di : Nat → Nat → Int32} {dl : Nat → Nat → Int64} {dr : Nat → Nat → Option Nat} {x3 : Int32} {y0 : Int32} {y1 : Int32} {Q : Option Value → q_H → Prop} (hg : 84 ≤ n)
    (k2 : (y1 = y0) → q_EX q_KD d 0 18 [.ref 0, .ref 6, .ref 67, .int (x3 + 6)] [] (n, sl, ln, di, dl, dr) Q)
    (k3 : (¬ y1 = y0) → Q (some (.int 0)) (n, sl, ln, di, dl, dr)) : q_EX q_KD d 0 332 [.ref 0, .ref 6, .ref 67, .int x3] [.int y0, .int y1] (n, sl, ln, di, dl, dr) Q := by
  refine (x_icmp_eq 332 836 i0_332 rfl (fun c1 => ?_) (fun c1 => ?_))
  · refine (x_iinc 836 (x3 + 6) (ls2 := [.ref 0, .ref 6, .ref 67, .int (x3 + 6)]) i0_836 rfl (Nat.le_of_ble_eq_true rfl) rfl rfl ?_)
    exact (x_goto 839 18 i0_839 rfl (k2 c1))
  · refine (x_iconst 335 0 i0_335 rfl ?_)
    exact (x_iret0 336 i0_336 rfl (k3 c1))

set_option maxRecDepth 20000 in
theorem l0_345 {d n sl : Nat} {ln : Nat → Nat} {di : Nat → Nat → Int32} {dl : Nat → Nat → Int64} {dr : Nat → Nat → Option Nat} {x3 : Int32} {y0 : Int32} {y1 : Int32} {Q : Option Value → q_H → Prop} (hg : 84 ≤ n)
    (k2 : (y1 = y0) → q_EX q_KD d 0 18 [.ref 0, .ref 6, .ref 67, .int (x3 + 6)] [] (n, sl, ln, di, dl, dr) Q)
    (k3 : (¬ y1 = y0) → Q (some (.int 0)) (n, sl, ln, di, dl, dr)) : q_EX q_KD d 0 345 [.ref 0, .ref 6, .ref 67, .int x3] [.int y0, .int y1] (n, sl, ln, di, dl, dr) Q := by
  refine (x_icmp_eq 345 836 i0_345 rfl (fun c1 => ?_) (fun c1 => ?_))
  · refine (x_iinc 836 (x3 + 6) (ls2 := [.ref 0, .ref 6, .ref 67, .int (x3 + 6)]) i0_836 rfl (Nat.le_of_ble_eq_true rfl) rfl rfl ?_)
    exact (x_goto 839 18 i0_839 rfl (k2 c1))
  · refine (x_iconst 348 0 i0_348 rfl ?_)
    exact (x_iret0 349 i0_349 rfl (k3 c1))

set_option maxRecDepth 20000 in
theorem l0_368 {d n sl : Nat} {ln : Nat → Nat} {di : Nat → Nat → Int32} {dl : Nat → Nat → Int64} {dr : Nat → Nat → Option Nat} {x3 : Int32} {y0 : Int32} {y1 : Int32} {Q : Option Value → q_H → Prop} (hg : 84 ≤ n)
    (k2 : (y1 = y0) → q_EX q_KD d 0 18 [.ref 0, .ref 6, .ref 67, .int (x3 + 6)] [] (n, sl, ln, di, dl, dr) Q)
    (k3 : (¬ y1 = y0) → Q (some (.int 0)) (n, sl, ln, di, dl, dr)) : q_EX q_KD d 0 368 [.ref 0, .ref 6, .ref 67, .int x3] [.int y0, .int y1] (n, sl, ln, di, dl, dr) Q := by
  refine (x_icmp_eq 368 836 i0_368 rfl (fun c1 => ?_) (fun c1 => ?_))
  · refine (x_iinc 836 (x3 + 6) (ls2 := [.ref 0, .ref 6, .ref 67, .int (x3 + 6)]) i0_836 rfl (Nat.le_of_ble_eq_true rfl) rfl rfl ?_)
    exact (x_goto 839 18 i0_839 rfl (k2 c1))
  · refine (x_iconst 371 0 i0_371 rfl ?_)
    exact (x_iret0 372 i0_372 rfl (k3 c1))

set_option maxRecDepth 20000 in
theorem l0_391 {d n sl : Nat} {ln : Nat → Nat} {di : Nat → Nat → Int32} {dl : Nat → Nat → Int64} {dr : Nat → Nat → Option Nat} {x3 : Int32} {y0 : Int32} {y1 : Int32} {Q : Option Value → q_H → Prop} (hg : 84 ≤ n)
    (k2 : (y1 = y0) → q_EX q_KD d 0 18 [.ref 0, .ref 6, .ref 67, .int (x3 + 6)] [] (n, sl, ln, di, dl, dr) Q)
    (k3 : (¬ y1 = y0) → Q (some (.int 0)) (n, sl, ln, di, dl, dr)) : q_EX q_KD d 0 391 [.ref 0, .ref 6, .ref 67, .int x3] [.int y0, .int y1] (n, sl, ln, di, dl, dr) Q := by
  refine (x_icmp_eq 391 836 i0_391 rfl (fun c1 => ?_) (fun c1 => ?_))
  · refine (x_iinc 836 (x3 + 6) (ls2 := [.ref 0, .ref 6, .ref 67, .int (x3 + 6)]) i0_836 rfl (Nat.le_of_ble_eq_true rfl) rfl rfl ?_)
    exact (x_goto 839 18 i0_839 rfl (k2 c1))
  · refine (x_iconst 394 0 i0_394 rfl ?_)
    exact (x_iret0 395 i0_395 rfl (k3 c1))

set_option maxRecDepth 20000 in
theorem l0_424 {d n sl : Nat} {ln : Nat → Nat} {di : Nat → Nat → Int32} {dl : Nat → Nat → Int64} {dr : Nat → Nat → Option Nat} {x3 : Int32} {y0 : Int32} {y1 : Int32} {Q : Option Value → q_H → Prop} (hg : 84 ≤ n)
    (k2 : (y1 = y0) → q_EX q_KD d 0 18 [.ref 0, .ref 6, .ref 67, .int (x3 + 6)] [] (n, sl, ln, di, dl, dr) Q)
    (k3 : (¬ y1 = y0) → Q (some (.int 0)) (n, sl, ln, di, dl, dr)) : q_EX q_KD d 0 424 [.ref 0, .ref 6, .ref 67, .int x3] [.int y0, .int y1] (n, sl, ln, di, dl, dr) Q := by
  refine (x_icmp_eq 424 836 i0_424 rfl (fun c1 => ?_) (fun c1 => ?_))
  · refine (x_iinc 836 (x3 + 6) (ls2 := [.ref 0, .ref 6, .ref 67, .int (x3 + 6)]) i0_836 rfl (Nat.le_of_ble_eq_true rfl) rfl rfl ?_)
    exact (x_goto 839 18 i0_839 rfl (k2 c1))
  · refine (x_iconst 427 0 i0_427 rfl ?_)
    exact (x_iret0 428 i0_428 rfl (k3 c1))

set_option maxRecDepth 20000 in
theorem l0_473 {d n sl : Nat} {ln : Nat → Nat} {di : Nat → Nat → Int32} {dl : Nat → Nat → Int64} {dr : Nat → Nat → Option Nat} {x3 : Int32} {y0 : Int32} {y1 : Int32} {Q : Option Value → q_H → Prop} (hg : 84 ≤ n)
    (k2 : (y1 = y0) → q_EX q_KD d 0 18 [.ref 0, .ref 6, .ref 67, .int (x3 + 6)] [] (n, sl, ln, di, dl, dr) Q)
    (k3 : (¬ y1 = y0) → Q (some (.int 0)) (n, sl, ln, di, dl, dr)) : q_EX q_KD d 0 473 [.ref 0, .ref 6, .ref 67, .int x3] [.int y0, .int y1] (n, sl, ln, di, dl, dr) Q := by
  refine (x_icmp_eq 473 836 i0_473 rfl (fun c1 => ?_) (fun c1 => ?_))
  · refine (x_iinc 836 (x3 + 6) (ls2 := [.ref 0, .ref 6, .ref 67, .int (x3 + 6)]) i0_836 rfl (Nat.le_of_ble_eq_true rfl) rfl rfl ?_)
    exact (x_goto 839 18 i0_839 rfl (k2 c1))
  · refine (x_iconst 476 0 i0_476 rfl ?_)
    exact (x_iret0 477 i0_477 rfl (k3 c1))

set_option maxRecDepth 20000 in
theorem l0_486 {d n sl : Nat} {ln : Nat → Nat} {di : Nat → Nat → Int32} {dl : Nat → Nat → Int64} {dr : Nat → Nat → Option Nat} {x3 : Int32} {y0 : Int32} {y1 : Int32} {Q : Option Value → q_H → Prop} (hg : 84 ≤ n)
    (k2 : (y1 = y0) → q_EX q_KD d 0 18 [.ref 0, .ref 6, .ref 67, .int (x3 + 6)] [] (n, sl, ln, di, dl, dr) Q)
    (k3 : (¬ y1 = y0) → Q (some (.int 0)) (n, sl, ln, di, dl, dr)) : q_EX q_KD d 0 486 [.ref 0, .ref 6, .ref 67, .int x3] [.int y0, .int y1] (n, sl, ln, di, dl, dr) Q := by
  refine (x_icmp_eq 486 836 i0_486 rfl (fun c1 => ?_) (fun c1 => ?_))
  · refine (x_iinc 836 (x3 + 6) (ls2 := [.ref 0, .ref 6, .ref 67, .int (x3 + 6)]) i0_836 rfl (Nat.le_of_ble_eq_true rfl) rfl rfl ?_)
    exact (x_goto 839 18 i0_839 rfl (k2 c1))
  · refine (x_iconst 489 0 i0_489 rfl ?_)
    exact (x_iret0 490 i0_490 rfl (k3 c1))

set_option maxRecDepth 20000 in
theorem l0_509 {d n sl : Nat} {ln : Nat → Nat} {di : Nat → Nat → Int32} {dl : Nat → Nat → Int64} {dr : Nat → Nat → Option Nat} {x3 : Int32} {y0 : Int32} {y1 : Int32} {Q : Option Value → q_H → Prop} (hg : 84 ≤ n)
    (k2 : (y1 = y0) → q_EX q_KD d 0 18 [.ref 0, .ref 6, .ref 67, .int (x3 + 6)] [] (n, sl, ln, di, dl, dr) Q)
    (k3 : (¬ y1 = y0) → Q (some (.int 0)) (n, sl, ln, di, dl, dr)) : q_EX q_KD d 0 509 [.ref 0, .ref 6, .ref 67, .int x3] [.int y0, .int y1] (n, sl, ln, di, dl, dr) Q := by
  refine (x_icmp_eq 509 836 i0_509 rfl (fun c1 => ?_) (fun c1 => ?_))
  · refine (x_iinc 836 (x3 + 6) (ls2 := [.ref 0, .ref 6, .ref 67, .int (x3 + 6)]) i0_836 rfl (Nat.le_of_ble_eq_true rfl) rfl rfl ?_)
    exact (x_goto 839 18 i0_839 rfl (k2 c1))
  · refine (x_iconst 512 0 i0_512 rfl ?_)
    exact (x_iret0 513 i0_513 rfl (k3 c1))

set_option maxRecDepth 20000 in
theorem l0_522 {d n sl : Nat} {ln : Nat → Nat} {di : Nat → Nat → Int32} {dl : Nat → Nat → Int64} {dr : Nat → Nat → Option Nat} {x3 : Int32} {y0 : Int32} {y1 : Int32} {Q : Option Value → q_H → Prop} (hg : 84 ≤ n)
    (k2 : (y1 = y0) → q_EX q_KD d 0 18 [.ref 0, .ref 6, .ref 67, .int (x3 + 6)] [] (n, sl, ln, di, dl, dr) Q)
    (k3 : (¬ y1 = y0) → Q (some (.int 0)) (n, sl, ln, di, dl, dr)) : q_EX q_KD d 0 522 [.ref 0, .ref 6, .ref 67, .int x3] [.int y0, .int y1] (n, sl, ln, di, dl, dr) Q := by
  refine (x_icmp_eq 522 836 i0_522 rfl (fun c1 => ?_) (fun c1 => ?_))
  · refine (x_iinc 836 (x3 + 6) (ls2 := [.ref 0, .ref 6, .ref 67, .int (x3 + 6)]) i0_836 rfl (Nat.le_of_ble_eq_true rfl) rfl rfl ?_)
    exact (x_goto 839 18 i0_839 rfl (k2 c1))
  · refine (x_iconst 525 0 i0_525 rfl ?_)
    exact (x_iret0 526 i0_526 rfl (k3 c1))

set_option maxRecDepth 20000 in
theorem l0_555 {d n sl : Nat} {ln : Nat → Nat} {di : Nat → Nat → Int32} {dl : Nat → Nat → Int64} {dr : Nat → Nat → Option Nat} {x3 : Int32} {y0 : Int32} {y1 : Int32} {Q : Option Value → q_H → Prop} (hg : 84 ≤ n)
    (k2 : (y1 = y0) → q_EX q_KD d 0 18 [.ref 0, .ref 6, .ref 67, .int (x3 + 6)] [] (n, sl, ln, di, dl, dr) Q)
    (k3 : (¬ y1 = y0) → Q (some (.int 0)) (n, sl, ln, di, dl, dr)) : q_EX q_KD d 0 555 [.ref 0, .ref 6, .ref 67, .int x3] [.int y0, .int y1] (n, sl, ln, di, dl, dr) Q := by
  refine (x_icmp_eq 555 836 i0_555 rfl (fun c1 => ?_) (fun c1 => ?_))
  · refine (x_iinc 836 (x3 + 6) (ls2 := [.ref 0, .ref 6, .ref 67, .int (x3 + 6)]) i0_836 rfl (Nat.le_of_ble_eq_true rfl) rfl rfl ?_)
    exact (x_goto 839 18 i0_839 rfl (k2 c1))
  · refine (x_iconst 558 0 i0_558 rfl ?_)
    exact (x_iret0 559 i0_559 rfl (k3 c1))

set_option maxRecDepth 20000 in
theorem l0_588 {d n sl : Nat} {ln : Nat → Nat} {di : Nat → Nat → Int32} {dl : Nat → Nat → Int64} {dr : Nat → Nat → Option Nat} {x3 : Int32} {y0 : Int32} {y1 : Int32} {Q : Option Value → q_H → Prop} (hg : 84 ≤ n)
    (k2 : (y1 = y0) → q_EX q_KD d 0 18 [.ref 0, .ref 6, .ref 67, .int (x3 + 6)] [] (n, sl, ln, di, dl, dr) Q)
    (k3 : (¬ y1 = y0) → Q (some (.int 0)) (n, sl, ln, di, dl, dr)) : q_EX q_KD d 0 588 [.ref 0, .ref 6, .ref 67, .int x3] [.int y0, .int y1] (n, sl, ln, di, dl, dr) Q := by
  refine (x_icmp_eq 588 836 i0_588 rfl (fun c1 => ?_) (fun c1 => ?_))
  · refine (x_iinc 836 (x3 + 6) (ls2 := [.ref 0, .ref 6, .ref 67, .int (x3 + 6)]) i0_836 rfl (Nat.le_of_ble_eq_true rfl) rfl rfl ?_)
    exact (x_goto 839 18 i0_839 rfl (k2 c1))
  · refine (x_iconst 591 0 i0_591 rfl ?_)
    exact (x_iret0 592 i0_592 rfl (k3 c1))

set_option maxRecDepth 20000 in
theorem l0_611 {d n sl : Nat} {ln : Nat → Nat} {di : Nat → Nat → Int32} {dl : Nat → Nat → Int64} {dr : Nat → Nat → Option Nat} {x3 : Int32} {y0 : Int32} {y1 : Int32} {Q : Option Value → q_H → Prop} (hg : 84 ≤ n)
    (k2 : (y1 = y0) → q_EX q_KD d 0 18 [.ref 0, .ref 6, .ref 67, .int (x3 + 6)] [] (n, sl, ln, di, dl, dr) Q)
    (k3 : (¬ y1 = y0) → Q (some (.int 0)) (n, sl, ln, di, dl, dr)) : q_EX q_KD d 0 611 [.ref 0, .ref 6, .ref 67, .int x3] [.int y0, .int y1] (n, sl, ln, di, dl, dr) Q := by
  refine (x_icmp_eq 611 836 i0_611 rfl (fun c1 => ?_) (fun c1 => ?_))
  · refine (x_iinc 836 (x3 + 6) (ls2 := [.ref 0, .ref 6, .ref 67, .int (x3 + 6)]) i0_836 rfl (Nat.le_of_ble_eq_true rfl) rfl rfl ?_)
    exact (x_goto 839 18 i0_839 rfl (k2 c1))
  · refine (x_iconst 614 0 i0_614 rfl ?_)
    exact (x_iret0 615 i0_615 rfl (k3 c1))

set_option maxRecDepth 20000 in
theorem l0_634 {d n sl : Nat} {ln : Nat → Nat} {di : Nat → Nat → Int32} {dl : Nat → Nat → Int64} {dr : Nat → Nat → Option Nat} {x3 : Int32} {y0 : Int32} {y1 : Int32} {Q : Option Value → q_H → Prop} (hg : 84 ≤ n)
    (k2 : (y1 = y0) → q_EX q_KD d 0 18 [.ref 0, .ref 6, .ref 67, .int (x3 + 6)] [] (n, sl, ln, di, dl, dr) Q)
    (k3 : (¬ y1 = y0) → Q (some (.int 0)) (n, sl, ln, di, dl, dr)) : q_EX q_KD d 0 634 [.ref 0, .ref 6, .ref 67, .int x3] [.int y0, .int y1] (n, sl, ln, di, dl, dr) Q := by
  refine (x_icmp_eq 634 836 i0_634 rfl (fun c1 => ?_) (fun c1 => ?_))
  · refine (x_iinc 836 (x3 + 6) (ls2 := [.ref 0, .ref 6, .ref 67, .int (x3 + 6)]) i0_836 rfl (Nat.le_of_ble_eq_true rfl) rfl rfl ?_)
    exact (x_goto 839 18 i0_839 rfl (k2 c1))
  · refine (x_iconst 637 0 i0_637 rfl ?_)
    exact (x_iret0 638 i0_638 rfl (k3 c1))

set_option maxRecDepth 20000 in
theorem l0_667 {d n sl : Nat} {ln : Nat → Nat} {di : Nat → Nat → Int32} {dl : Nat → Nat → Int64} {dr : Nat → Nat → Option Nat} {x3 : Int32} {y0 : Int32} {y1 : Int32} {Q : Option Value → q_H → Prop} (hg : 84 ≤ n)
    (k2 : (y1 = y0) → q_EX q_KD d 0 18 [.ref 0, .ref 6, .ref 67, .int (x3 + 6)] [] (n, sl, ln, di, dl, dr) Q)
    (k3 : (¬ y1 = y0) → Q (some (.int 0)) (n, sl, ln, di, dl, dr)) : q_EX q_KD d 0 667 [.ref 0, .ref 6, .ref 67, .int x3] [.int y0, .int y1] (n, sl, ln, di, dl, dr) Q := by
  refine (x_icmp_eq 667 836 i0_667 rfl (fun c1 => ?_) (fun c1 => ?_))
  · refine (x_iinc 836 (x3 + 6) (ls2 := [.ref 0, .ref 6, .ref 67, .int (x3 + 6)]) i0_836 rfl (Nat.le_of_ble_eq_true rfl) rfl rfl ?_)
    exact (x_goto 839 18 i0_839 rfl (k2 c1))
  · refine (x_iconst 670 0 i0_670 rfl ?_)
    exact (x_iret0 671 i0_671 rfl (k3 c1))

set_option maxRecDepth 20000 in
theorem l0_690 {d n sl : Nat} {ln : Nat → Nat} {di : Nat → Nat → Int32} {dl : Nat → Nat → Int64} {dr : Nat → Nat → Option Nat} {x3 : Int32} {y0 : Int32} {y1 : Int32} {Q : Option Value → q_H → Prop} (hg : 84 ≤ n)
    (k2 : (y1 = y0) → q_EX q_KD d 0 18 [.ref 0, .ref 6, .ref 67, .int (x3 + 6)] [] (n, sl, ln, di, dl, dr) Q)
    (k3 : (¬ y1 = y0) → Q (some (.int 0)) (n, sl, ln, di, dl, dr)) : q_EX q_KD d 0 690 [.ref 0, .ref 6, .ref 67, .int x3] [.int y0, .int y1] (n, sl, ln, di, dl, dr) Q := by
  refine (x_icmp_eq 690 836 i0_690 rfl (fun c1 => ?_) (fun c1 => ?_))
  · refine (x_iinc 836 (x3 + 6) (ls2 := [.ref 0, .ref 6, .ref 67, .int (x3 + 6)]) i0_836 rfl (Nat.le_of_ble_eq_true rfl) rfl rfl ?_)
    exact (x_goto 839 18 i0_839 rfl (k2 c1))
  · refine (x_iconst 693 0 i0_693 rfl ?_)
    exact (x_iret0 694 i0_694 rfl (k3 c1))

set_option maxRecDepth 20000 in
theorem l0_713 {d n sl : Nat} {ln : Nat → Nat} {di : Nat → Nat → Int32} {dl : Nat → Nat → Int64} {dr : Nat → Nat → Option Nat} {x3 : Int32} {y0 : Int32} {y1 : Int32} {Q : Option Value → q_H → Prop} (hg : 84 ≤ n)
    (k2 : (y1 = y0) → q_EX q_KD d 0 18 [.ref 0, .ref 6, .ref 67, .int (x3 + 6)] [] (n, sl, ln, di, dl, dr) Q)
    (k3 : (¬ y1 = y0) → Q (some (.int 0)) (n, sl, ln, di, dl, dr)) : q_EX q_KD d 0 713 [.ref 0, .ref 6, .ref 67, .int x3] [.int y0, .int y1] (n, sl, ln, di, dl, dr) Q := by
  refine (x_icmp_eq 713 836 i0_713 rfl (fun c1 => ?_) (fun c1 => ?_))
  · refine (x_iinc 836 (x3 + 6) (ls2 := [.ref 0, .ref 6, .ref 67, .int (x3 + 6)]) i0_836 rfl (Nat.le_of_ble_eq_true rfl) rfl rfl ?_)
    exact (x_goto 839 18 i0_839 rfl (k2 c1))
  · refine (x_iconst 716 0 i0_716 rfl ?_)
    exact (x_iret0 717 i0_717 rfl (k3 c1))

set_option maxRecDepth 20000 in
theorem l0_736 {d n sl : Nat} {ln : Nat → Nat} {di : Nat → Nat → Int32} {dl : Nat → Nat → Int64} {dr : Nat → Nat → Option Nat} {x3 : Int32} {y0 : Int32} {y1 : Int32} {Q : Option Value → q_H → Prop} (hg : 84 ≤ n)
    (k2 : (y1 = y0) → q_EX q_KD d 0 18 [.ref 0, .ref 6, .ref 67, .int (x3 + 6)] [] (n, sl, ln, di, dl, dr) Q)
    (k3 : (¬ y1 = y0) → Q (some (.int 0)) (n, sl, ln, di, dl, dr)) : q_EX q_KD d 0 736 [.ref 0, .ref 6, .ref 67, .int x3] [.int y0, .int y1] (n, sl, ln, di, dl, dr) Q := by
  refine (x_icmp_eq 736 836 i0_736 rfl (fun c1 => ?_) (fun c1 => ?_))
  · refine (x_iinc 836 (x3 + 6) (ls2 := [.ref 0, .ref 6, .ref 67, .int (x3 + 6)]) i0_836 rfl (Nat.le_of_ble_eq_true rfl) rfl rfl ?_)
    exact (x_goto 839 18 i0_839 rfl (k2 c1))
  · refine (x_iconst 739 0 i0_739 rfl ?_)
    exact (x_iret0 740 i0_740 rfl (k3 c1))

set_option maxRecDepth 20000 in
theorem l0_759 {d n sl : Nat} {ln : Nat → Nat} {di : Nat → Nat → Int32} {dl : Nat → Nat → Int64} {dr : Nat → Nat → Option Nat} {x3 : Int32} {y0 : Int32} {y1 : Int32} {Q : Option Value → q_H → Prop} (hg : 84 ≤ n)
    (k2 : (y1 = y0) → q_EX q_KD d 0 18 [.ref 0, .ref 6, .ref 67, .int (x3 + 6)] [] (n, sl, ln, di, dl, dr) Q)
    (k3 : (¬ y1 = y0) → Q (some (.int 0)) (n, sl, ln, di, dl, dr)) : q_EX q_KD d 0 759 [.ref 0, .ref 6, .ref 67, .int x3] [.int y0, .int y1] (n, sl, ln, di, dl, dr) Q := by
  refine (x_icmp_eq 759 836 i0_759 rfl (fun c1 => ?_) (fun c1 => ?_))
  · refine (x_iinc 836 (x3 + 6) (ls2 := [.ref 0, .ref 6, .ref 67, .int (x3 + 6)]) i0_836 rfl (Nat.le_of_ble_eq_true rfl) rfl rfl ?_)
    exact (x_goto 839 18 i0_839 rfl (k2 c1))
  · refine (x_iconst 762 0 i0_762 rfl ?_)
    exact (x_iret0 763 i0_763 rfl (k3 c1))

set_option maxRecDepth 20000 in
theorem l0_782 {d n sl : Nat} {ln : Nat → Nat} {di : Nat → Nat → Int32} {dl : Nat → Nat → Int64} {dr : Nat → Nat → Option Nat} {x3 : Int32} {y0 : Int32} {y1 : Int32} {Q : Option Value → q_H → Prop} (hg : 84 ≤ n)
    (k2 : (y1 = y0) → q_EX q_KD d 0 18 [.ref 0, .ref 6, .ref 67, .int (x3 + 6)] [] (n, sl, ln, di, dl, dr) Q)
    (k3 : (¬ y1 = y0) → Q (some (.int 0)) (n, sl, ln, di, dl, dr)) : q_EX q_KD d 0 782 [.ref 0, .ref 6, .ref 67, .int x3] [.int y0, .int y1] (n, sl, ln, di, dl, dr) Q := by
  refine (x_icmp_eq 782 836 i0_782 rfl (fun c1 => ?_) (fun c1 => ?_))
  · refine (x_iinc 836 (x3 + 6) (ls2 := [.ref 0, .ref 6, .ref 67, .int (x3 + 6)]) i0_836 rfl (Nat.le_of_ble_eq_true rfl) rfl rfl ?_)
    exact (x_goto 839 18 i0_839 rfl (k2 c1))
  · refine (x_iconst 785 0 i0_785 rfl ?_)
    exact (x_iret0 786 i0_786 rfl (k3 c1))

set_option maxRecDepth 20000 in
theorem l0_795 {d n sl : Nat} {ln : Nat → Nat} {di : Nat → Nat → Int32} {dl : Nat → Nat → Int64} {dr : Nat → Nat → Option Nat} {x3 : Int32} {y0 : Int32} {y1 : Int32} {Q : Option Value → q_H → Prop} (hg : 84 ≤ n)
    (k2 : (y1 = y0) → q_EX q_KD d 0 18 [.ref 0, .ref 6, .ref 67, .int (x3 + 6)] [] (n, sl, ln, di, dl, dr) Q)
    (k3 : (¬ y1 = y0) → Q (some (.int 0)) (n, sl, ln, di, dl, dr)) : q_EX q_KD d 0 795 [.ref 0, .ref 6, .ref 67, .int x3] [.int y0, .int y1] (n, sl, ln, di, dl, dr) Q := by
  refine (x_icmp_eq 795 836 i0_795 rfl (fun c1 => ?_) (fun c1 => ?_))
  · refine (x_iinc 836 (x3 + 6) (ls2 := [.ref 0, .ref 6, .ref 67, .int (x3 + 6)]) i0_836 rfl (Nat.le_of_ble_eq_true rfl) rfl rfl ?_)
    exact (x_goto 839 18 i0_839 rfl (k2 c1))
  · refine (x_iconst 798 0 i0_798 rfl ?_)
    exact (x_iret0 799 i0_799 rfl (k3 c1))

set_option maxRecDepth 20000 in
theorem l0_808 {d n sl : Nat} {ln : Nat → Nat} {di : Nat → Nat → Int32} {dl : Nat → Nat → Int64} {dr : Nat → Nat → Option Nat} {x3 : Int32} {y0 : Int32} {y1 : Int32} {Q : Option Value → q_H → Prop} (hg : 84 ≤ n)
    (k2 : (y1 = y0) → q_EX q_KD d 0 18 [.ref 0, .ref 6, .ref 67, .int (x3 + 6)] [] (n, sl, ln, di, dl, dr) Q)
    (k3 : (¬ y1 = y0) → Q (some (.int 0)) (n, sl, ln, di, dl, dr)) : q_EX q_KD d 0 808 [.ref 0, .ref 6, .ref 67, .int x3] [.int y0, .int y1] (n, sl, ln, di, dl, dr) Q := by
  refine (x_icmp_eq 808 836 i0_808 rfl (fun c1 => ?_) (fun c1 => ?_))
  · refine (x_iinc 836 (x3 + 6) (ls2 := [.ref 0, .ref 6, .ref 67, .int (x3 + 6)]) i0_836 rfl (Nat.le_of_ble_eq_true rfl) rfl rfl ?_)
    exact (x_goto 839 18 i0_839 rfl (k2 c1))
  · refine (x_iconst 811 0 i0_811 rfl ?_)
    exact (x_iret0 812 i0_812 rfl (k3 c1))

set_option maxRecDepth 20000 in
theorem l0_831 {d n sl : Nat} {ln : Nat → Nat} {di : Nat → Nat → Int32} {dl : Nat → Nat → Int64} {dr : Nat → Nat → Option Nat} {x3 : Int32} {y0 : Int32} {y1 : Int32} {Q : Option Value → q_H → Prop} (hg : 84 ≤ n)
    (k2 : (y1 = y0) → q_EX q_KD d 0 18 [.ref 0, .ref 6, .ref 67, .int (x3 + 6)] [] (n, sl, ln, di, dl, dr) Q)
    (k3 : (¬ y1 = y0) → Q (some (.int 0)) (n, sl, ln, di, dl, dr)) : q_EX q_KD d 0 831 [.ref 0, .ref 6, .ref 67, .int x3] [.int y0, .int y1] (n, sl, ln, di, dl, dr) Q := by
  refine (x_icmp_eq 831 836 i0_831 rfl (fun c1 => ?_) (fun c1 => ?_))
  · refine (x_iinc 836 (x3 + 6) (ls2 := [.ref 0, .ref 6, .ref 67, .int (x3 + 6)]) i0_836 rfl (Nat.le_of_ble_eq_true rfl) rfl rfl ?_)
    exact (x_goto 839 18 i0_839 rfl (k2 c1))
  · refine (x_iconst 834 0 i0_834 rfl ?_)
    exact (x_iret0 835 i0_835 rfl (k3 c1))

