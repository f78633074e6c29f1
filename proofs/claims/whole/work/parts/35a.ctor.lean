/-! THE CONSTRUCTORS -/
section
variable {kd : Nat → Nat} {d i n sl : Nat} {ln : Nat → Nat} {di : Nat → Nat → Int32} {dl : Nat → Nat → Int64} {dr : Nat → Nat → Option Nat} {Q : Option Value → q_H → Prop} {ls st : List Value} {lk : Nat × Nat × Nat × Nat × Int}
theorem y_new (pc n' s' : Nat) {nn : Nat} (hi : q_ins i pc = some (.new nn, 3, lk)) (hk : kd n = lk.2.1) (hn : n + 1 = n') (hs : lk.2.2.1 = s') (k : q_EX kd d i (pc + 3) ls (.ref n :: st) (n', sl + s', ln, va_up di n (fun _ => 0), va_up dl n (fun _ => 0), va_up dr n (fun _ => none)) Q) : q_EX kd d i pc ls st (n, sl, ln, di, dl, dr) Q := by
  subst hn; subst hs; exact x_new pc hi hk k
theorem y_newa_int (pc n' L : Nat) {x : Int32} (hi : q_ins i pc = some (.newarray .int, 2, lk)) (hx : x = nI L) (hL : L ≤ 65536) (hk : kd n = 20) (hn : n + 1 = n') (k : q_EX kd d i (pc + 2) ls (.ref n :: st) (n', sl + L, va_up ln n L, va_up di n (fun _ => 0), va_up dl n (fun _ => 0), va_up dr n (fun _ => none)) Q) : q_EX kd d i pc ls (.int x :: st) (n, sl, ln, di, dl, dr) Q := by
  subst hn; subst hx
  refine x_newa_int pc hi (nI_pos (by omega)) (by rw [nI_clamp (by omega)]; exact hL) hk ?_
  rw [nI_clamp (by omega)]; exact k
theorem y_newa_byte (pc n' L : Nat) {x : Int32} (hi : q_ins i pc = some (.newarray .byte, 2, lk)) (hx : x = nI L) (hL : L ≤ 65536) (hk : kd n = 21) (hn : n + 1 = n') (k : q_EX kd d i (pc + 2) ls (.ref n :: st) (n', sl + L, va_up ln n L, va_up di n (fun _ => 0), va_up dl n (fun _ => 0), va_up dr n (fun _ => none)) Q) : q_EX kd d i pc ls (.int x :: st) (n, sl, ln, di, dl, dr) Q := by
  subst hn; subst hx
  refine x_newa_byte pc hi (nI_pos (by omega)) (by rw [nI_clamp (by omega)]; exact hL) hk ?_
  rw [nI_clamp (by omega)]; exact k
theorem y_newa_boolean (pc n' L : Nat) {x : Int32} (hi : q_ins i pc = some (.newarray .boolean, 2, lk)) (hx : x = nI L) (hL : L ≤ 65536) (hk : kd n = 22) (hn : n + 1 = n') (k : q_EX kd d i (pc + 2) ls (.ref n :: st) (n', sl + L, va_up ln n L, va_up di n (fun _ => 0), va_up dl n (fun _ => 0), va_up dr n (fun _ => none)) Q) : q_EX kd d i pc ls (.int x :: st) (n, sl, ln, di, dl, dr) Q := by
  subst hn; subst hx
  refine x_newa_boolean pc hi (nI_pos (by omega)) (by rw [nI_clamp (by omega)]; exact hL) hk ?_
  rw [nI_clamp (by omega)]; exact k
theorem y_newa_long (pc n' L : Nat) {x : Int32} (hi : q_ins i pc = some (.newarray .long, 2, lk)) (hx : x = nI L) (hL : L ≤ 65536) (hk : kd n = 23) (hn : n + 1 = n') (k : q_EX kd d i (pc + 2) ls (.ref n :: st) (n', sl + L, va_up ln n L, va_up di n (fun _ => 0), va_up dl n (fun _ => 0), va_up dr n (fun _ => none)) Q) : q_EX kd d i pc ls (.int x :: st) (n, sl, ln, di, dl, dr) Q := by
  subst hn; subst hx
  refine x_newa_long pc hi (nI_pos (by omega)) (by rw [nI_clamp (by omega)]; exact hL) hk ?_
  rw [nI_clamp (by omega)]; exact k
theorem y_anew (pc n' L : Nat) {nn : Nat} {x : Int32} (hi : q_ins i pc = some (.anewarray nn, 3, lk)) (hx : x = nI L) (hL : L ≤ 65536) (hk : kd n = 24) (hn : n + 1 = n') (k : q_EX kd d i (pc + 3) ls (.ref n :: st) (n', sl + L, va_up ln n L, va_up di n (fun _ => 0), va_up dl n (fun _ => 0), va_up dr n (fun _ => none)) Q) : q_EX kd d i pc ls (.int x :: st) (n, sl, ln, di, dl, dr) Q := by
  subst hn; subst hx
  refine x_anew pc hi (nI_pos (by omega)) (by rw [nI_clamp (by omega)]; exact hL) hk ?_
  rw [nI_clamp (by omega)]; exact k
theorem y_iastore (pc j L : Nat) {y x : Int32} {a : Nat} (hi : q_ins i pc = some (.iastore, 1, lk)) (hk : kd a = 20) (h6 : 6 ≤ a) (ha : a < n) (hl : ln a = L) (hx : x = nI j) (hj : j < L) (hL : L ≤ 65536) (k : q_EX kd d i (pc + 1) ls st (n, sl, ln, q_u di a j y, dl, dr) Q) : q_EX kd d i pc ls (.int y :: .int x :: .ref a :: st) (n, sl, ln, di, dl, dr) Q := by
  subst hx
  refine x_iastore pc hi hk h6 ha (by rw [hl]; exact vp_in_nI hj (by omega)) ?_
  rw [nI_clamp (by omega)]; exact k
theorem y_iadd (pc : Nat) (v : Int32) {x y : Int32} (hi : q_ins i pc = some (.iadd, 1, lk)) (hv : x + y = v) (k : q_EX kd d i (pc + 1) ls (.int v :: st) (n, sl, ln, di, dl, dr) Q) : q_EX kd d i pc ls (.int y :: .int x :: st) (n, sl, ln, di, dl, dr) Q := by
  subst hv; exact x_iadd pc hi k
theorem y_imul (pc : Nat) (v : Int32) {x y : Int32} (hi : q_ins i pc = some (.imul, 1, lk)) (hv : x * y = v) (k : q_EX kd d i (pc + 1) ls (.int v :: st) (n, sl, ln, di, dl, dr) Q) : q_EX kd d i pc ls (.int y :: .int x :: st) (n, sl, ln, di, dl, dr) Q := by
  subst hv; exact x_imul pc hi k
end
/-- a row filled up to L -/
def u_fl (D : Nat → Nat → Int32) (sa L : Nat) (x : Int32) : Nat → Nat → Int32 := va_up D sa (fun i => if i < L then x else D sa i)
theorem u_fl_e (D : Nat → Nat → Int32) (sa L : Nat) (x : Int32) : q_fill D sa x L 0 = u_fl D sa L x := by
  funext k i
  unfold u_fl
  by_cases e : k = sa
  · subst e
    rw [q_fillI, q_upE, Nat.zero_add]
    by_cases h : i < L
    · rw [if_pos ⟨Nat.zero_le _, h⟩, if_pos h]
    · rw [if_neg (fun q => h q.2), if_neg h]
  · rw [q_fillO e, q_upN _ _ e]
set_option maxRecDepth 20000 in
theorem u8_0 {d n sl : Nat} {ln : Nat → Nat} {di : Nat → Nat → Int32} {dl : Nat → Nat → Int64} {dr : Nat → Nat → Option Nat} {x1 : Int32} {Q : Option Value → q_H → Prop} {sa : Nat} (hk_sa : q_KD sa = 20) (hn_sa : sa < n) (h6_sa : 6 ≤ sa)
    (k1 : q_EX q_KD d 8 5 [.ref sa, .int x1, .int 0, .int (Int32.ofNat (ln sa))] [] (n, sl, ln, di, dl, dr) Q) : q_EX q_KD d 8 0 [.ref sa, .int x1, .retAddr 0, .retAddr 0] [] (n, sl, ln, di, dl, dr) Q := by
  refine (x_iconst 0 0 i8_0 rfl ?_)
  refine (x_istore_n 1 (ls2 := [.ref sa, .int x1, .int 0, .retAddr 0]) i8_1 (Nat.le_of_ble_eq_true rfl) rfl ?_)
  refine (x_aload_n 2 i8_2 rfl ?_)
  refine (x_alen 3 (Int32.ofNat (ln sa)) i8_3 (q_20 hk_sa) (q_24 hk_sa) hn_sa rfl ?_)
  exact (x_istore_n 4 (ls2 := [.ref sa, .int x1, .int 0, .int (Int32.ofNat (ln sa))]) i8_4 (Nat.le_of_ble_eq_true rfl) rfl k1)
set_option maxRecDepth 20000 in
theorem u8_5 {d n sl : Nat} {ln : Nat → Nat} {di : Nat → Nat → Int32} {dl : Nat → Nat → Int64} {dr : Nat → Nat → Option Nat} {x1 : Int32} {x2 : Int32} {x3 : Int32} {Q : Option Value → q_H → Prop} {sa : Nat} (hk_sa : q_KD sa = 20) (hn_sa : sa < n) (h6_sa : 6 ≤ sa)
    (k2 : (x3 ≤ x2) → Q none (n, sl, ln, di, dl, dr))
    (s3 : (x2 < x3) → vp_in x2 (ln sa))
    (k4 : (x2 < x3) → q_EX q_KD d 8 5 [.ref sa, .int x1, .int (x2 + 1), .int x3] [] (n, sl, ln, (q_u di sa x2.toNatClampNeg x1), dl, dr) Q) : q_EX q_KD d 8 5 [.ref sa, .int x1, .int x2, .int x3] [] (n, sl, ln, di, dl, dr) Q := by
  refine (x_iload_n 5 i8_5 rfl ?_)
  refine (x_iload_n 6 i8_6 rfl ?_)
  refine (x_icmp_ge 7 20 i8_7 rfl (fun c1 => ?_) (fun c1 => ?_))
  · exact (x_vret 20 i8_20 rfl (k2 c1))
  · refine (x_aload_n 10 i8_10 rfl ?_)
    refine (x_iload_n 11 i8_11 rfl ?_)
    refine (x_iload_n 12 i8_12 rfl ?_)
    refine (x_iastore 13 i8_13 hk_sa h6_sa hn_sa (s3 c1) ?_)
    refine (x_iinc 14 (x2 + 1) (ls2 := [.ref sa, .int x1, .int (x2 + 1), .int x3]) i8_14 rfl (Nat.le_of_ble_eq_true rfl) rfl rfl ?_)
    exact (x_goto 17 5 i8_17 rfl (k4 c1))
section
variable {d n sl : Nat} {ln : Nat → Nat} {dl : Nat → Nat → Int64} {dr : Nat → Nat → Option Nat} {Q : Option Value → q_H → Prop}
theorem u_fill5 {x : Int32} (sa L : Nat) (hL : L < 2 ^ 31) (hl : ln sa = L) (hk : q_KD sa = 20) (hn : sa < n) (h6 : 6 ≤ sa) : ∀ (c j : Nat) (di : Nat → Nat → Int32), j + c = L → Q none (n, sl, ln, q_fill di sa x c j, dl, dr) → q_EX q_KD d 8 5 [.ref sa, .int x, .int (nI j), .int (nI L)] [] (n, sl, ln, di, dl, dr) Q := by
  intro c
  induction c with
  | zero =>
    intro j di e k
    have hh : ¬ nI j < nI L := nI_nlt (by omega) (by omega)
    exact u8_5 hk hn h6 (fun _ => k) (fun c => absurd c hh) (fun c => absurd c hh)
  | succ c ih =>
    intro j di e k
    have hj : (nI j).toNatClampNeg = j := nI_clamp (by omega)
    refine u8_5 hk hn h6 (fun c' => absurd ((nI_leI (by omega) (by omega)).mp c') (by omega)) (fun _ => by rw [hl]; exact vp_in_nI (by omega) hL) (fun _ => ?_)
    rw [nI_1, hj]
    exact ih (j + 1) _ (by omega) k
theorem u_fill {x : Int32} {di : Nat → Nat → Int32} (sa L : Nat) (hL : L < 2 ^ 31) (hl : ln sa = L) (hk : q_KD sa = 20) (hn : sa < n) (h6 : 6 ≤ sa) (k : Q none (n, sl, ln, u_fl di sa L x, dl, dr)) : q_EX q_KD d 8 0 [.ref sa, .int x, .retAddr 0, .retAddr 0] [] (n, sl, ln, di, dl, dr) Q := by
  refine u8_0 hk hn h6 ?_
  rw [hl]
  exact u_fill5 sa L hL hl hk hn h6 L 0 di (by omega) (by rw [u_fl_e]; exact k)
end
def u_s3_17 (sl : Nat) : Nat := sl + 180 + 180 + 30 + 30 + 30
def u_l3_17 (ln : Nat → Nat) : Nat → Nat := (va_up (va_up (va_up (va_up (va_up ln 18 180) 19 180) 20 30) 21 30) 22 30)
def u_i3_17 (di : Nat → Nat → Int32) : Nat → Nat → Int32 := (q_u (q_u (va_up (va_up (va_up (va_up (va_up di 18 (fun _ => 0)) 19 (fun _ => 0)) 20 (fun _ => 0)) 21 (fun _ => 0)) 22 (fun _ => 0)) 17 5 (0)) 17 6 (0))
def u_j3_17 (dl : Nat → Nat → Int64) : Nat → Nat → Int64 := (va_up (va_up (va_up (va_up (va_up dl 18 (fun _ => 0)) 19 (fun _ => 0)) 20 (fun _ => 0)) 21 (fun _ => 0)) 22 (fun _ => 0))
def u_r3_17 (dr : Nat → Nat → Option Nat) : Nat → Nat → Option Nat := (q_u (va_up (q_u (va_up (q_u (va_up (q_u (va_up (q_u (va_up dr 18 (fun _ => none)) 17 0 (some 18)) 19 (fun _ => none)) 17 1 (some 19)) 20 (fun _ => none)) 17 2 (some 20)) 21 (fun _ => none)) 17 3 (some 21)) 22 (fun _ => none)) 17 4 (some 22))
theorem u_c3_17 {d sl : Nat} {ln : Nat → Nat} {di : Nat → Nat → Int32} {dl : Nat → Nat → Int64} {dr : Nat → Nat → Option Nat} {Q : Option Value → q_H → Prop} (kk : Q none (23, u_s3_17 sl, u_l3_17 ln, u_i3_17 di, u_j3_17 dl, u_r3_17 dr)) : q_EX q_KD d 3 0 [.ref 17] [] (18, sl, ln, di, dl, dr) Q := by
  refine x_aload_n 0 i3_0 rfl ?_
  refine x_oinit 1 i3_1 rfl (Nat.le_of_ble_eq_true rfl) ?_
  refine x_aload_n 4 i3_4 rfl ?_
  refine x_sipush 5 (180) i3_5 rfl ?_
  refine y_newa_int 8 19 180 i3_8 rfl (Nat.le_of_ble_eq_true rfl) rfl rfl ?_
  refine x_putR 10 0 i3_10 rfl (Nat.le_of_ble_eq_true rfl) (Nat.le_of_ble_eq_true rfl) rfl rfl ?_
  refine x_aload_n 13 i3_13 rfl ?_
  refine x_sipush 14 (180) i3_14 rfl ?_
  refine y_newa_int 17 20 180 i3_17 rfl (Nat.le_of_ble_eq_true rfl) rfl rfl ?_
  refine x_putR 19 1 i3_19 rfl (Nat.le_of_ble_eq_true rfl) (Nat.le_of_ble_eq_true rfl) rfl rfl ?_
  refine x_aload_n 22 i3_22 rfl ?_
  refine x_bipush 23 (30) i3_23 rfl ?_
  refine y_newa_int 25 21 30 i3_25 rfl (Nat.le_of_ble_eq_true rfl) rfl rfl ?_
  refine x_putR 27 2 i3_27 rfl (Nat.le_of_ble_eq_true rfl) (Nat.le_of_ble_eq_true rfl) rfl rfl ?_
  refine x_aload_n 30 i3_30 rfl ?_
  refine x_bipush 31 (30) i3_31 rfl ?_
  refine y_newa_int 33 22 30 i3_33 rfl (Nat.le_of_ble_eq_true rfl) rfl rfl ?_
  refine x_putR 35 3 i3_35 rfl (Nat.le_of_ble_eq_true rfl) (Nat.le_of_ble_eq_true rfl) rfl rfl ?_
  refine x_aload_n 38 i3_38 rfl ?_
  refine x_bipush 39 (30) i3_39 rfl ?_
  refine y_newa_int 41 23 30 i3_41 rfl (Nat.le_of_ble_eq_true rfl) rfl rfl ?_
  refine x_putR 43 4 i3_43 rfl (Nat.le_of_ble_eq_true rfl) (Nat.le_of_ble_eq_true rfl) rfl rfl ?_
  refine x_aload_n 46 i3_46 rfl ?_
  refine x_iconst 47 (0) i3_47 rfl ?_
  refine x_putI 48 5 i3_48 rfl (Nat.le_of_ble_eq_true rfl) (Nat.le_of_ble_eq_true rfl) rfl rfl ?_
  refine x_aload_n 51 i3_51 rfl ?_
  refine x_iconst 52 (0) i3_52 rfl ?_
  refine x_putI 53 6 i3_53 rfl (Nat.le_of_ble_eq_true rfl) (Nat.le_of_ble_eq_true rfl) rfl rfl ?_
  exact x_vret 56 i3_56 rfl kk
def u_s2_7 (sl : Nat) : Nat := (u_s3_17 (sl + 6 + 6 + 6 + 6 + 6 + 10 + 10 + 10 + 4 + 7))
def u_l2_7 (ln : Nat → Nat) : Nat → Nat := (u_l3_17 (va_up (va_up (va_up (va_up (va_up (va_up (va_up (va_up (va_up ln 8 6) 9 6) 10 6) 11 6) 12 6) 13 10) 14 10) 15 10) 16 4))
def u_i2_7 (di : Nat → Nat → Int32) : Nat → Nat → Int32 := (q_u (q_u (q_u (q_u (q_u (q_u (q_u (q_u (u_i3_17 (va_up (va_up (va_up (va_up (va_up (va_up (q_u (q_u (q_u (q_u (q_u (q_u (va_up (va_up (va_up (va_up di 8 (fun _ => 0)) 9 (fun _ => 0)) 10 (fun _ => 0)) 11 (fun _ => 0)) 11 0 (-1)) 11 1 (-1)) 11 2 (-1)) 11 3 (-1)) 11 4 (-1)) 11 5 (-1)) 12 (fun _ => 0)) 13 (fun _ => 0)) 14 (fun _ => 0)) 15 (fun _ => 0)) 16 (fun _ => 0)) 17 (fun _ => 0))) 7 10 (0)) 7 11 (0)) 7 12 (0)) 7 13 (0)) 7 14 (0)) 7 15 (-1)) 7 16 (17)) 7 17 (0))
def u_j2_7 (dl : Nat → Nat → Int64) : Nat → Nat → Int64 := (u_j3_17 (va_up (va_up (va_up (va_up (va_up (va_up (va_up (va_up (va_up (va_up dl 8 (fun _ => 0)) 9 (fun _ => 0)) 10 (fun _ => 0)) 11 (fun _ => 0)) 12 (fun _ => 0)) 13 (fun _ => 0)) 14 (fun _ => 0)) 15 (fun _ => 0)) 16 (fun _ => 0)) 17 (fun _ => 0)))
def u_r2_7 (dr : Nat → Nat → Option Nat) : Nat → Nat → Option Nat := (q_u (u_r3_17 (va_up (q_u (va_up (q_u (va_up (q_u (va_up (q_u (va_up (q_u (va_up (q_u (va_up (q_u (va_up (q_u (va_up (q_u (va_up dr 8 (fun _ => none)) 7 0 (some 8)) 9 (fun _ => none)) 7 1 (some 9)) 10 (fun _ => none)) 7 2 (some 10)) 11 (fun _ => none)) 7 3 (some 11)) 12 (fun _ => none)) 7 4 (some 12)) 13 (fun _ => none)) 7 5 (some 13)) 14 (fun _ => none)) 7 6 (some 14)) 15 (fun _ => none)) 7 7 (some 15)) 16 (fun _ => none)) 7 8 (some 16)) 17 (fun _ => none))) 7 9 (some 17))
theorem u_c2_7 {d sl : Nat} {ln : Nat → Nat} {di : Nat → Nat → Int32} {dl : Nat → Nat → Int64} {dr : Nat → Nat → Option Nat} {Q : Option Value → q_H → Prop} (kk : Q none (23, u_s2_7 sl, u_l2_7 ln, u_i2_7 di, u_j2_7 dl, u_r2_7 dr)) : q_EX q_KD (d + 1) 2 0 [.ref 7] [] (8, sl, ln, di, dl, dr) Q := by
  refine x_aload_n 0 i2_0 rfl ?_
  refine x_oinit 1 i2_1 rfl (Nat.le_of_ble_eq_true rfl) ?_
  refine x_aload_n 4 i2_4 rfl ?_
  refine x_bipush 5 (6) i2_5 rfl ?_
  refine y_newa_int 7 9 6 i2_7 rfl (Nat.le_of_ble_eq_true rfl) rfl rfl ?_
  refine x_putR 9 0 i2_9 rfl (Nat.le_of_ble_eq_true rfl) (Nat.le_of_ble_eq_true rfl) rfl rfl ?_
  refine x_aload_n 12 i2_12 rfl ?_
  refine x_bipush 13 (6) i2_13 rfl ?_
  refine y_newa_int 15 10 6 i2_15 rfl (Nat.le_of_ble_eq_true rfl) rfl rfl ?_
  refine x_putR 17 1 i2_17 rfl (Nat.le_of_ble_eq_true rfl) (Nat.le_of_ble_eq_true rfl) rfl rfl ?_
  refine x_aload_n 20 i2_20 rfl ?_
  refine x_bipush 21 (6) i2_21 rfl ?_
  refine y_newa_int 23 11 6 i2_23 rfl (Nat.le_of_ble_eq_true rfl) rfl rfl ?_
  refine x_putR 25 2 i2_25 rfl (Nat.le_of_ble_eq_true rfl) (Nat.le_of_ble_eq_true rfl) rfl rfl ?_
  refine x_aload_n 28 i2_28 rfl ?_
  refine x_bipush 29 (6) i2_29 rfl ?_
  refine y_newa_int 31 12 6 i2_31 rfl (Nat.le_of_ble_eq_true rfl) rfl rfl ?_
  refine x_dup 33 i2_33 rfl ?_
  refine x_iconst 34 (0) i2_34 rfl ?_
  refine x_iconst 35 (-1) i2_35 rfl ?_
  refine y_iastore 36 0 6 i2_36 rfl (Nat.le_of_ble_eq_true rfl) (Nat.le_of_ble_eq_true rfl) rfl rfl (Nat.le_of_ble_eq_true rfl) (Nat.le_of_ble_eq_true rfl) ?_
  refine x_dup 37 i2_37 rfl ?_
  refine x_iconst 38 (1) i2_38 rfl ?_
  refine x_iconst 39 (-1) i2_39 rfl ?_
  refine y_iastore 40 1 6 i2_40 rfl (Nat.le_of_ble_eq_true rfl) (Nat.le_of_ble_eq_true rfl) rfl rfl (Nat.le_of_ble_eq_true rfl) (Nat.le_of_ble_eq_true rfl) ?_
  refine x_dup 41 i2_41 rfl ?_
  refine x_iconst 42 (2) i2_42 rfl ?_
  refine x_iconst 43 (-1) i2_43 rfl ?_
  refine y_iastore 44 2 6 i2_44 rfl (Nat.le_of_ble_eq_true rfl) (Nat.le_of_ble_eq_true rfl) rfl rfl (Nat.le_of_ble_eq_true rfl) (Nat.le_of_ble_eq_true rfl) ?_
  refine x_dup 45 i2_45 rfl ?_
  refine x_iconst 46 (3) i2_46 rfl ?_
  refine x_iconst 47 (-1) i2_47 rfl ?_
  refine y_iastore 48 3 6 i2_48 rfl (Nat.le_of_ble_eq_true rfl) (Nat.le_of_ble_eq_true rfl) rfl rfl (Nat.le_of_ble_eq_true rfl) (Nat.le_of_ble_eq_true rfl) ?_
  refine x_dup 49 i2_49 rfl ?_
  refine x_iconst 50 (4) i2_50 rfl ?_
  refine x_iconst 51 (-1) i2_51 rfl ?_
  refine y_iastore 52 4 6 i2_52 rfl (Nat.le_of_ble_eq_true rfl) (Nat.le_of_ble_eq_true rfl) rfl rfl (Nat.le_of_ble_eq_true rfl) (Nat.le_of_ble_eq_true rfl) ?_
  refine x_dup 53 i2_53 rfl ?_
  refine x_iconst 54 (5) i2_54 rfl ?_
  refine x_iconst 55 (-1) i2_55 rfl ?_
  refine y_iastore 56 5 6 i2_56 rfl (Nat.le_of_ble_eq_true rfl) (Nat.le_of_ble_eq_true rfl) rfl rfl (Nat.le_of_ble_eq_true rfl) (Nat.le_of_ble_eq_true rfl) ?_
  refine x_putR 57 3 i2_57 rfl (Nat.le_of_ble_eq_true rfl) (Nat.le_of_ble_eq_true rfl) rfl rfl ?_
  refine x_aload_n 60 i2_60 rfl ?_
  refine x_bipush 61 (6) i2_61 rfl ?_
  refine y_newa_int 63 13 6 i2_63 rfl (Nat.le_of_ble_eq_true rfl) rfl rfl ?_
  refine x_putR 65 4 i2_65 rfl (Nat.le_of_ble_eq_true rfl) (Nat.le_of_ble_eq_true rfl) rfl rfl ?_
  refine x_aload_n 68 i2_68 rfl ?_
  refine x_bipush 69 (10) i2_69 rfl ?_
  refine y_newa_int 71 14 10 i2_71 rfl (Nat.le_of_ble_eq_true rfl) rfl rfl ?_
  refine x_putR 73 5 i2_73 rfl (Nat.le_of_ble_eq_true rfl) (Nat.le_of_ble_eq_true rfl) rfl rfl ?_
  refine x_aload_n 76 i2_76 rfl ?_
  refine x_bipush 77 (10) i2_77 rfl ?_
  refine y_newa_int 79 15 10 i2_79 rfl (Nat.le_of_ble_eq_true rfl) rfl rfl ?_
  refine x_putR 81 6 i2_81 rfl (Nat.le_of_ble_eq_true rfl) (Nat.le_of_ble_eq_true rfl) rfl rfl ?_
  refine x_aload_n 84 i2_84 rfl ?_
  refine x_bipush 85 (10) i2_85 rfl ?_
  refine y_newa_int 87 16 10 i2_87 rfl (Nat.le_of_ble_eq_true rfl) rfl rfl ?_
  refine x_putR 89 7 i2_89 rfl (Nat.le_of_ble_eq_true rfl) (Nat.le_of_ble_eq_true rfl) rfl rfl ?_
  refine x_aload_n 92 i2_92 rfl ?_
  refine x_iconst 93 (4) i2_93 rfl ?_
  refine y_anew 94 17 4 i2_94 rfl (Nat.le_of_ble_eq_true rfl) rfl rfl ?_
  refine x_putR 97 8 i2_97 rfl (Nat.le_of_ble_eq_true rfl) (Nat.le_of_ble_eq_true rfl) rfl rfl ?_
  refine x_aload_n 100 i2_100 rfl ?_
  refine y_new 101 18 7 i2_101 rfl rfl rfl ?_
  refine x_dup 104 i2_104 rfl ?_
  refine x_ci 105 (a := 17) (as := []) (rs := [.ref 17, .ref 7]) i2_105 rfl rfl rfl rfl (Nat.le_of_ble_eq_true rfl) (Nat.le_of_ble_eq_true rfl) rfl rfl (u_c3_17 ?_)
  refine x_putR 108 9 i2_108 rfl (Nat.le_of_ble_eq_true rfl) (Nat.le_of_ble_eq_true rfl) rfl rfl ?_
  refine x_aload_n 111 i2_111 rfl ?_
  refine x_iconst 112 (0) i2_112 rfl ?_
  refine x_putI 113 10 i2_113 rfl (Nat.le_of_ble_eq_true rfl) (Nat.le_of_ble_eq_true rfl) rfl rfl ?_
  refine x_aload_n 116 i2_116 rfl ?_
  refine x_iconst 117 (0) i2_117 rfl ?_
  refine x_putI 118 11 i2_118 rfl (Nat.le_of_ble_eq_true rfl) (Nat.le_of_ble_eq_true rfl) rfl rfl ?_
  refine x_aload_n 121 i2_121 rfl ?_
  refine x_iconst 122 (0) i2_122 rfl ?_
  refine x_putI 123 12 i2_123 rfl (Nat.le_of_ble_eq_true rfl) (Nat.le_of_ble_eq_true rfl) rfl rfl ?_
  refine x_aload_n 126 i2_126 rfl ?_
  refine x_iconst 127 (0) i2_127 rfl ?_
  refine x_putI 128 13 i2_128 rfl (Nat.le_of_ble_eq_true rfl) (Nat.le_of_ble_eq_true rfl) rfl rfl ?_
  refine x_aload_n 131 i2_131 rfl ?_
  refine x_iconst 132 (0) i2_132 rfl ?_
  refine x_putI 133 14 i2_133 rfl (Nat.le_of_ble_eq_true rfl) (Nat.le_of_ble_eq_true rfl) rfl rfl ?_
  refine x_aload_n 136 i2_136 rfl ?_
  refine x_iconst 137 (-1) i2_137 rfl ?_
  refine x_putI 138 15 i2_138 rfl (Nat.le_of_ble_eq_true rfl) (Nat.le_of_ble_eq_true rfl) rfl rfl ?_
  refine x_aload_n 141 i2_141 rfl ?_
  refine x_bipush 142 (17) i2_142 rfl ?_
  refine x_putI 144 16 i2_144 rfl (Nat.le_of_ble_eq_true rfl) (Nat.le_of_ble_eq_true rfl) rfl rfl ?_
  refine x_aload_n 147 i2_147 rfl ?_
  refine x_iconst 148 (0) i2_148 rfl ?_
  refine x_putI 149 17 i2_149 rfl (Nat.le_of_ble_eq_true rfl) (Nat.le_of_ble_eq_true rfl) rfl rfl ?_
  exact x_vret 152 i2_152 rfl kk
def u_s3_33 (sl : Nat) : Nat := sl + 180 + 180 + 30 + 30 + 30
def u_l3_33 (ln : Nat → Nat) : Nat → Nat := (va_up (va_up (va_up (va_up (va_up ln 34 180) 35 180) 36 30) 37 30) 38 30)
def u_i3_33 (di : Nat → Nat → Int32) : Nat → Nat → Int32 := (q_u (q_u (va_up (va_up (va_up (va_up (va_up di 34 (fun _ => 0)) 35 (fun _ => 0)) 36 (fun _ => 0)) 37 (fun _ => 0)) 38 (fun _ => 0)) 33 5 (0)) 33 6 (0))
def u_j3_33 (dl : Nat → Nat → Int64) : Nat → Nat → Int64 := (va_up (va_up (va_up (va_up (va_up dl 34 (fun _ => 0)) 35 (fun _ => 0)) 36 (fun _ => 0)) 37 (fun _ => 0)) 38 (fun _ => 0))
def u_r3_33 (dr : Nat → Nat → Option Nat) : Nat → Nat → Option Nat := (q_u (va_up (q_u (va_up (q_u (va_up (q_u (va_up (q_u (va_up dr 34 (fun _ => none)) 33 0 (some 34)) 35 (fun _ => none)) 33 1 (some 35)) 36 (fun _ => none)) 33 2 (some 36)) 37 (fun _ => none)) 33 3 (some 37)) 38 (fun _ => none)) 33 4 (some 38))
theorem u_c3_33 {d sl : Nat} {ln : Nat → Nat} {di : Nat → Nat → Int32} {dl : Nat → Nat → Int64} {dr : Nat → Nat → Option Nat} {Q : Option Value → q_H → Prop} (kk : Q none (39, u_s3_33 sl, u_l3_33 ln, u_i3_33 di, u_j3_33 dl, u_r3_33 dr)) : q_EX q_KD d 3 0 [.ref 33] [] (34, sl, ln, di, dl, dr) Q := by
  refine x_aload_n 0 i3_0 rfl ?_
  refine x_oinit 1 i3_1 rfl (Nat.le_of_ble_eq_true rfl) ?_
  refine x_aload_n 4 i3_4 rfl ?_
  refine x_sipush 5 (180) i3_5 rfl ?_
  refine y_newa_int 8 35 180 i3_8 rfl (Nat.le_of_ble_eq_true rfl) rfl rfl ?_
  refine x_putR 10 0 i3_10 rfl (Nat.le_of_ble_eq_true rfl) (Nat.le_of_ble_eq_true rfl) rfl rfl ?_
  refine x_aload_n 13 i3_13 rfl ?_
  refine x_sipush 14 (180) i3_14 rfl ?_
  refine y_newa_int 17 36 180 i3_17 rfl (Nat.le_of_ble_eq_true rfl) rfl rfl ?_
  refine x_putR 19 1 i3_19 rfl (Nat.le_of_ble_eq_true rfl) (Nat.le_of_ble_eq_true rfl) rfl rfl ?_
  refine x_aload_n 22 i3_22 rfl ?_
  refine x_bipush 23 (30) i3_23 rfl ?_
  refine y_newa_int 25 37 30 i3_25 rfl (Nat.le_of_ble_eq_true rfl) rfl rfl ?_
  refine x_putR 27 2 i3_27 rfl (Nat.le_of_ble_eq_true rfl) (Nat.le_of_ble_eq_true rfl) rfl rfl ?_
  refine x_aload_n 30 i3_30 rfl ?_
  refine x_bipush 31 (30) i3_31 rfl ?_
  refine y_newa_int 33 38 30 i3_33 rfl (Nat.le_of_ble_eq_true rfl) rfl rfl ?_
  refine x_putR 35 3 i3_35 rfl (Nat.le_of_ble_eq_true rfl) (Nat.le_of_ble_eq_true rfl) rfl rfl ?_
  refine x_aload_n 38 i3_38 rfl ?_
  refine x_bipush 39 (30) i3_39 rfl ?_
  refine y_newa_int 41 39 30 i3_41 rfl (Nat.le_of_ble_eq_true rfl) rfl rfl ?_
  refine x_putR 43 4 i3_43 rfl (Nat.le_of_ble_eq_true rfl) (Nat.le_of_ble_eq_true rfl) rfl rfl ?_
  refine x_aload_n 46 i3_46 rfl ?_
  refine x_iconst 47 (0) i3_47 rfl ?_
  refine x_putI 48 5 i3_48 rfl (Nat.le_of_ble_eq_true rfl) (Nat.le_of_ble_eq_true rfl) rfl rfl ?_
  refine x_aload_n 51 i3_51 rfl ?_
  refine x_iconst 52 (0) i3_52 rfl ?_
  refine x_putI 53 6 i3_53 rfl (Nat.le_of_ble_eq_true rfl) (Nat.le_of_ble_eq_true rfl) rfl rfl ?_
  exact x_vret 56 i3_56 rfl kk
def u_s2_23 (sl : Nat) : Nat := (u_s3_33 (sl + 6 + 6 + 6 + 6 + 6 + 10 + 10 + 10 + 4 + 7))
def u_l2_23 (ln : Nat → Nat) : Nat → Nat := (u_l3_33 (va_up (va_up (va_up (va_up (va_up (va_up (va_up (va_up (va_up ln 24 6) 25 6) 26 6) 27 6) 28 6) 29 10) 30 10) 31 10) 32 4))
def u_i2_23 (di : Nat → Nat → Int32) : Nat → Nat → Int32 := (q_u (q_u (q_u (q_u (q_u (q_u (q_u (q_u (u_i3_33 (va_up (va_up (va_up (va_up (va_up (va_up (q_u (q_u (q_u (q_u (q_u (q_u (va_up (va_up (va_up (va_up di 24 (fun _ => 0)) 25 (fun _ => 0)) 26 (fun _ => 0)) 27 (fun _ => 0)) 27 0 (-1)) 27 1 (-1)) 27 2 (-1)) 27 3 (-1)) 27 4 (-1)) 27 5 (-1)) 28 (fun _ => 0)) 29 (fun _ => 0)) 30 (fun _ => 0)) 31 (fun _ => 0)) 32 (fun _ => 0)) 33 (fun _ => 0))) 23 10 (0)) 23 11 (0)) 23 12 (0)) 23 13 (0)) 23 14 (0)) 23 15 (-1)) 23 16 (17)) 23 17 (0))
def u_j2_23 (dl : Nat → Nat → Int64) : Nat → Nat → Int64 := (u_j3_33 (va_up (va_up (va_up (va_up (va_up (va_up (va_up (va_up (va_up (va_up dl 24 (fun _ => 0)) 25 (fun _ => 0)) 26 (fun _ => 0)) 27 (fun _ => 0)) 28 (fun _ => 0)) 29 (fun _ => 0)) 30 (fun _ => 0)) 31 (fun _ => 0)) 32 (fun _ => 0)) 33 (fun _ => 0)))
def u_r2_23 (dr : Nat → Nat → Option Nat) : Nat → Nat → Option Nat := (q_u (u_r3_33 (va_up (q_u (va_up (q_u (va_up (q_u (va_up (q_u (va_up (q_u (va_up (q_u (va_up (q_u (va_up (q_u (va_up (q_u (va_up dr 24 (fun _ => none)) 23 0 (some 24)) 25 (fun _ => none)) 23 1 (some 25)) 26 (fun _ => none)) 23 2 (some 26)) 27 (fun _ => none)) 23 3 (some 27)) 28 (fun _ => none)) 23 4 (some 28)) 29 (fun _ => none)) 23 5 (some 29)) 30 (fun _ => none)) 23 6 (some 30)) 31 (fun _ => none)) 23 7 (some 31)) 32 (fun _ => none)) 23 8 (some 32)) 33 (fun _ => none))) 23 9 (some 33))
theorem u_c2_23 {d sl : Nat} {ln : Nat → Nat} {di : Nat → Nat → Int32} {dl : Nat → Nat → Int64} {dr : Nat → Nat → Option Nat} {Q : Option Value → q_H → Prop} (kk : Q none (39, u_s2_23 sl, u_l2_23 ln, u_i2_23 di, u_j2_23 dl, u_r2_23 dr)) : q_EX q_KD (d + 1) 2 0 [.ref 23] [] (24, sl, ln, di, dl, dr) Q := by
  refine x_aload_n 0 i2_0 rfl ?_
  refine x_oinit 1 i2_1 rfl (Nat.le_of_ble_eq_true rfl) ?_
  refine x_aload_n 4 i2_4 rfl ?_
  refine x_bipush 5 (6) i2_5 rfl ?_
  refine y_newa_int 7 25 6 i2_7 rfl (Nat.le_of_ble_eq_true rfl) rfl rfl ?_
  refine x_putR 9 0 i2_9 rfl (Nat.le_of_ble_eq_true rfl) (Nat.le_of_ble_eq_true rfl) rfl rfl ?_
  refine x_aload_n 12 i2_12 rfl ?_
  refine x_bipush 13 (6) i2_13 rfl ?_
  refine y_newa_int 15 26 6 i2_15 rfl (Nat.le_of_ble_eq_true rfl) rfl rfl ?_
  refine x_putR 17 1 i2_17 rfl (Nat.le_of_ble_eq_true rfl) (Nat.le_of_ble_eq_true rfl) rfl rfl ?_
  refine x_aload_n 20 i2_20 rfl ?_
  refine x_bipush 21 (6) i2_21 rfl ?_
  refine y_newa_int 23 27 6 i2_23 rfl (Nat.le_of_ble_eq_true rfl) rfl rfl ?_
  refine x_putR 25 2 i2_25 rfl (Nat.le_of_ble_eq_true rfl) (Nat.le_of_ble_eq_true rfl) rfl rfl ?_
  refine x_aload_n 28 i2_28 rfl ?_
  refine x_bipush 29 (6) i2_29 rfl ?_
  refine y_newa_int 31 28 6 i2_31 rfl (Nat.le_of_ble_eq_true rfl) rfl rfl ?_
  refine x_dup 33 i2_33 rfl ?_
  refine x_iconst 34 (0) i2_34 rfl ?_
  refine x_iconst 35 (-1) i2_35 rfl ?_
  refine y_iastore 36 0 6 i2_36 rfl (Nat.le_of_ble_eq_true rfl) (Nat.le_of_ble_eq_true rfl) rfl rfl (Nat.le_of_ble_eq_true rfl) (Nat.le_of_ble_eq_true rfl) ?_
  refine x_dup 37 i2_37 rfl ?_
  refine x_iconst 38 (1) i2_38 rfl ?_
  refine x_iconst 39 (-1) i2_39 rfl ?_
  refine y_iastore 40 1 6 i2_40 rfl (Nat.le_of_ble_eq_true rfl) (Nat.le_of_ble_eq_true rfl) rfl rfl (Nat.le_of_ble_eq_true rfl) (Nat.le_of_ble_eq_true rfl) ?_
  refine x_dup 41 i2_41 rfl ?_
  refine x_iconst 42 (2) i2_42 rfl ?_
  refine x_iconst 43 (-1) i2_43 rfl ?_
  refine y_iastore 44 2 6 i2_44 rfl (Nat.le_of_ble_eq_true rfl) (Nat.le_of_ble_eq_true rfl) rfl rfl (Nat.le_of_ble_eq_true rfl) (Nat.le_of_ble_eq_true rfl) ?_
  refine x_dup 45 i2_45 rfl ?_
  refine x_iconst 46 (3) i2_46 rfl ?_
  refine x_iconst 47 (-1) i2_47 rfl ?_
  refine y_iastore 48 3 6 i2_48 rfl (Nat.le_of_ble_eq_true rfl) (Nat.le_of_ble_eq_true rfl) rfl rfl (Nat.le_of_ble_eq_true rfl) (Nat.le_of_ble_eq_true rfl) ?_
  refine x_dup 49 i2_49 rfl ?_
  refine x_iconst 50 (4) i2_50 rfl ?_
  refine x_iconst 51 (-1) i2_51 rfl ?_
  refine y_iastore 52 4 6 i2_52 rfl (Nat.le_of_ble_eq_true rfl) (Nat.le_of_ble_eq_true rfl) rfl rfl (Nat.le_of_ble_eq_true rfl) (Nat.le_of_ble_eq_true rfl) ?_
  refine x_dup 53 i2_53 rfl ?_
  refine x_iconst 54 (5) i2_54 rfl ?_
  refine x_iconst 55 (-1) i2_55 rfl ?_
  refine y_iastore 56 5 6 i2_56 rfl (Nat.le_of_ble_eq_true rfl) (Nat.le_of_ble_eq_true rfl) rfl rfl (Nat.le_of_ble_eq_true rfl) (Nat.le_of_ble_eq_true rfl) ?_
  refine x_putR 57 3 i2_57 rfl (Nat.le_of_ble_eq_true rfl) (Nat.le_of_ble_eq_true rfl) rfl rfl ?_
  refine x_aload_n 60 i2_60 rfl ?_
  refine x_bipush 61 (6) i2_61 rfl ?_
  refine y_newa_int 63 29 6 i2_63 rfl (Nat.le_of_ble_eq_true rfl) rfl rfl ?_
  refine x_putR 65 4 i2_65 rfl (Nat.le_of_ble_eq_true rfl) (Nat.le_of_ble_eq_true rfl) rfl rfl ?_
  refine x_aload_n 68 i2_68 rfl ?_
  refine x_bipush 69 (10) i2_69 rfl ?_
  refine y_newa_int 71 30 10 i2_71 rfl (Nat.le_of_ble_eq_true rfl) rfl rfl ?_
  refine x_putR 73 5 i2_73 rfl (Nat.le_of_ble_eq_true rfl) (Nat.le_of_ble_eq_true rfl) rfl rfl ?_
  refine x_aload_n 76 i2_76 rfl ?_
  refine x_bipush 77 (10) i2_77 rfl ?_
  refine y_newa_int 79 31 10 i2_79 rfl (Nat.le_of_ble_eq_true rfl) rfl rfl ?_
  refine x_putR 81 6 i2_81 rfl (Nat.le_of_ble_eq_true rfl) (Nat.le_of_ble_eq_true rfl) rfl rfl ?_
  refine x_aload_n 84 i2_84 rfl ?_
  refine x_bipush 85 (10) i2_85 rfl ?_
  refine y_newa_int 87 32 10 i2_87 rfl (Nat.le_of_ble_eq_true rfl) rfl rfl ?_
  refine x_putR 89 7 i2_89 rfl (Nat.le_of_ble_eq_true rfl) (Nat.le_of_ble_eq_true rfl) rfl rfl ?_
  refine x_aload_n 92 i2_92 rfl ?_
  refine x_iconst 93 (4) i2_93 rfl ?_
  refine y_anew 94 33 4 i2_94 rfl (Nat.le_of_ble_eq_true rfl) rfl rfl ?_
  refine x_putR 97 8 i2_97 rfl (Nat.le_of_ble_eq_true rfl) (Nat.le_of_ble_eq_true rfl) rfl rfl ?_
  refine x_aload_n 100 i2_100 rfl ?_
  refine y_new 101 34 7 i2_101 rfl rfl rfl ?_
  refine x_dup 104 i2_104 rfl ?_
  refine x_ci 105 (a := 33) (as := []) (rs := [.ref 33, .ref 23]) i2_105 rfl rfl rfl rfl (Nat.le_of_ble_eq_true rfl) (Nat.le_of_ble_eq_true rfl) rfl rfl (u_c3_33 ?_)
  refine x_putR 108 9 i2_108 rfl (Nat.le_of_ble_eq_true rfl) (Nat.le_of_ble_eq_true rfl) rfl rfl ?_
  refine x_aload_n 111 i2_111 rfl ?_
  refine x_iconst 112 (0) i2_112 rfl ?_
  refine x_putI 113 10 i2_113 rfl (Nat.le_of_ble_eq_true rfl) (Nat.le_of_ble_eq_true rfl) rfl rfl ?_
  refine x_aload_n 116 i2_116 rfl ?_
  refine x_iconst 117 (0) i2_117 rfl ?_
  refine x_putI 118 11 i2_118 rfl (Nat.le_of_ble_eq_true rfl) (Nat.le_of_ble_eq_true rfl) rfl rfl ?_
  refine x_aload_n 121 i2_121 rfl ?_
  refine x_iconst 122 (0) i2_122 rfl ?_
  refine x_putI 123 12 i2_123 rfl (Nat.le_of_ble_eq_true rfl) (Nat.le_of_ble_eq_true rfl) rfl rfl ?_
  refine x_aload_n 126 i2_126 rfl ?_
  refine x_iconst 127 (0) i2_127 rfl ?_
  refine x_putI 128 13 i2_128 rfl (Nat.le_of_ble_eq_true rfl) (Nat.le_of_ble_eq_true rfl) rfl rfl ?_
  refine x_aload_n 131 i2_131 rfl ?_
  refine x_iconst 132 (0) i2_132 rfl ?_
  refine x_putI 133 14 i2_133 rfl (Nat.le_of_ble_eq_true rfl) (Nat.le_of_ble_eq_true rfl) rfl rfl ?_
  refine x_aload_n 136 i2_136 rfl ?_
  refine x_iconst 137 (-1) i2_137 rfl ?_
  refine x_putI 138 15 i2_138 rfl (Nat.le_of_ble_eq_true rfl) (Nat.le_of_ble_eq_true rfl) rfl rfl ?_
  refine x_aload_n 141 i2_141 rfl ?_
  refine x_bipush 142 (17) i2_142 rfl ?_
  refine x_putI 144 16 i2_144 rfl (Nat.le_of_ble_eq_true rfl) (Nat.le_of_ble_eq_true rfl) rfl rfl ?_
  refine x_aload_n 147 i2_147 rfl ?_
  refine x_iconst 148 (0) i2_148 rfl ?_
  refine x_putI 149 17 i2_149 rfl (Nat.le_of_ble_eq_true rfl) (Nat.le_of_ble_eq_true rfl) rfl rfl ?_
  exact x_vret 152 i2_152 rfl kk
def u_s5_40 (sl : Nat) : Nat := sl + 300 + 301 + 301
def u_l5_40 (ln : Nat → Nat) : Nat → Nat := (va_up (va_up (va_up ln 41 300) 42 301) 43 301)
def u_i5_40 (di : Nat → Nat → Int32) : Nat → Nat → Int32 := (q_u (q_u (va_up (va_up (va_up di 41 (fun _ => 0)) 42 (fun _ => 0)) 43 (fun _ => 0)) 40 3 (0)) 40 4 (0))
def u_j5_40 (dl : Nat → Nat → Int64) : Nat → Nat → Int64 := (va_up (va_up (va_up dl 41 (fun _ => 0)) 42 (fun _ => 0)) 43 (fun _ => 0))
def u_r5_40 (dr : Nat → Nat → Option Nat) : Nat → Nat → Option Nat := (q_u (va_up (q_u (va_up (q_u (va_up dr 41 (fun _ => none)) 40 0 (some 41)) 42 (fun _ => none)) 40 1 (some 42)) 43 (fun _ => none)) 40 2 (some 43))
theorem u_c5_40 {d sl : Nat} {ln : Nat → Nat} {di : Nat → Nat → Int32} {dl : Nat → Nat → Int64} {dr : Nat → Nat → Option Nat} {Q : Option Value → q_H → Prop} (kk : Q none (44, u_s5_40 sl, u_l5_40 ln, u_i5_40 di, u_j5_40 dl, u_r5_40 dr)) : q_EX q_KD d 5 0 [.ref 40] [] (41, sl, ln, di, dl, dr) Q := by
  refine x_aload_n 0 i5_0 rfl ?_
  refine x_oinit 1 i5_1 rfl (Nat.le_of_ble_eq_true rfl) ?_
  refine x_aload_n 4 i5_4 rfl ?_
  refine x_sipush 5 (300) i5_5 rfl ?_
  refine y_newa_byte 8 42 300 i5_8 rfl (Nat.le_of_ble_eq_true rfl) rfl rfl ?_
  refine x_putR 10 0 i5_10 rfl (Nat.le_of_ble_eq_true rfl) (Nat.le_of_ble_eq_true rfl) rfl rfl ?_
  refine x_aload_n 13 i5_13 rfl ?_
  refine x_sipush 14 (301) i5_14 rfl ?_
  refine y_newa_int 17 43 301 i5_17 rfl (Nat.le_of_ble_eq_true rfl) rfl rfl ?_
  refine x_putR 19 1 i5_19 rfl (Nat.le_of_ble_eq_true rfl) (Nat.le_of_ble_eq_true rfl) rfl rfl ?_
  refine x_aload_n 22 i5_22 rfl ?_
  refine x_sipush 23 (301) i5_23 rfl ?_
  refine y_newa_int 26 44 301 i5_26 rfl (Nat.le_of_ble_eq_true rfl) rfl rfl ?_
  refine x_putR 28 2 i5_28 rfl (Nat.le_of_ble_eq_true rfl) (Nat.le_of_ble_eq_true rfl) rfl rfl ?_
  refine x_aload_n 31 i5_31 rfl ?_
  refine x_iconst 32 (0) i5_32 rfl ?_
  refine x_putI 33 3 i5_33 rfl (Nat.le_of_ble_eq_true rfl) (Nat.le_of_ble_eq_true rfl) rfl rfl ?_
  refine x_aload_n 36 i5_36 rfl ?_
  refine x_iconst 37 (0) i5_37 rfl ?_
  refine x_putI 38 4 i5_38 rfl (Nat.le_of_ble_eq_true rfl) (Nat.le_of_ble_eq_true rfl) rfl rfl ?_
  exact x_vret 41 i5_41 rfl kk
def u_s4_39 (sl : Nat) : Nat := (u_s5_40 (sl + 5)) + 300 + 3 + 3 + 24 + 24 + 24
def u_l4_39 (ln : Nat → Nat) : Nat → Nat := (va_up (va_up (va_up (va_up (va_up (va_up (u_l5_40 ln) 44 300) 45 3) 46 3) 47 24) 48 24) 49 24)
def u_i4_39 (di : Nat → Nat → Int32) : Nat → Nat → Int32 := (q_u (q_u (q_u (q_u (q_u (q_u (q_u (q_u (va_up (va_up (va_up (va_up (va_up (va_up (u_i5_40 (va_up di 40 (fun _ => 0))) 44 (fun _ => 0)) 45 (fun _ => 0)) 46 (fun _ => 0)) 47 (fun _ => 0)) 48 (fun _ => 0)) 49 (fun _ => 0)) 39 7 (0)) 39 8 (131)) 39 9 (0)) 39 10 (0)) 39 11 (0)) 39 12 (0)) 39 13 (-1)) 39 14 (-1))
def u_j4_39 (dl : Nat → Nat → Int64) : Nat → Nat → Int64 := (va_up (va_up (va_up (va_up (va_up (va_up (u_j5_40 (va_up dl 40 (fun _ => 0))) 44 (fun _ => 0)) 45 (fun _ => 0)) 46 (fun _ => 0)) 47 (fun _ => 0)) 48 (fun _ => 0)) 49 (fun _ => 0))
def u_r4_39 (dr : Nat → Nat → Option Nat) : Nat → Nat → Option Nat := (q_u (va_up (q_u (va_up (q_u (va_up (q_u (va_up (q_u (va_up (q_u (va_up (q_u (u_r5_40 (va_up dr 40 (fun _ => none))) 39 0 (some 40)) 44 (fun _ => none)) 39 1 (some 44)) 45 (fun _ => none)) 39 2 (some 45)) 46 (fun _ => none)) 39 3 (some 46)) 47 (fun _ => none)) 39 4 (some 47)) 48 (fun _ => none)) 39 5 (some 48)) 49 (fun _ => none)) 39 6 (some 49))
theorem u_c4_39 {d sl : Nat} {ln : Nat → Nat} {di : Nat → Nat → Int32} {dl : Nat → Nat → Int64} {dr : Nat → Nat → Option Nat} {Q : Option Value → q_H → Prop} (kk : Q none (50, u_s4_39 sl, u_l4_39 ln, u_i4_39 di, u_j4_39 dl, u_r4_39 dr)) : q_EX q_KD (d + 1) 4 0 [.ref 39] [] (40, sl, ln, di, dl, dr) Q := by
  refine x_aload_n 0 i4_0 rfl ?_
  refine x_oinit 1 i4_1 rfl (Nat.le_of_ble_eq_true rfl) ?_
  refine x_aload_n 4 i4_4 rfl ?_
  refine y_new 5 41 5 i4_5 rfl rfl rfl ?_
  refine x_dup 8 i4_8 rfl ?_
  refine x_ci 9 (a := 40) (as := []) (rs := [.ref 40, .ref 39]) i4_9 rfl rfl rfl rfl (Nat.le_of_ble_eq_true rfl) (Nat.le_of_ble_eq_true rfl) rfl rfl (u_c5_40 ?_)
  refine x_putR 12 0 i4_12 rfl (Nat.le_of_ble_eq_true rfl) (Nat.le_of_ble_eq_true rfl) rfl rfl ?_
  refine x_aload_n 15 i4_15 rfl ?_
  refine x_sipush 16 (300) i4_16 rfl ?_
  refine y_newa_int 19 45 300 i4_19 rfl (Nat.le_of_ble_eq_true rfl) rfl rfl ?_
  refine x_putR 21 1 i4_21 rfl (Nat.le_of_ble_eq_true rfl) (Nat.le_of_ble_eq_true rfl) rfl rfl ?_
  refine x_aload_n 24 i4_24 rfl ?_
  refine x_iconst 25 (3) i4_25 rfl ?_
  refine y_newa_int 26 46 3 i4_26 rfl (Nat.le_of_ble_eq_true rfl) rfl rfl ?_
  refine x_putR 28 2 i4_28 rfl (Nat.le_of_ble_eq_true rfl) (Nat.le_of_ble_eq_true rfl) rfl rfl ?_
  refine x_aload_n 31 i4_31 rfl ?_
  refine x_iconst 32 (3) i4_32 rfl ?_
  refine y_newa_int 33 47 3 i4_33 rfl (Nat.le_of_ble_eq_true rfl) rfl rfl ?_
  refine x_putR 35 3 i4_35 rfl (Nat.le_of_ble_eq_true rfl) (Nat.le_of_ble_eq_true rfl) rfl rfl ?_
  refine x_aload_n 38 i4_38 rfl ?_
  refine x_bipush 39 (24) i4_39 rfl ?_
  refine y_newa_int 41 48 24 i4_41 rfl (Nat.le_of_ble_eq_true rfl) rfl rfl ?_
  refine x_putR 43 4 i4_43 rfl (Nat.le_of_ble_eq_true rfl) (Nat.le_of_ble_eq_true rfl) rfl rfl ?_
  refine x_aload_n 46 i4_46 rfl ?_
  refine x_bipush 47 (24) i4_47 rfl ?_
  refine y_newa_int 49 49 24 i4_49 rfl (Nat.le_of_ble_eq_true rfl) rfl rfl ?_
  refine x_putR 51 5 i4_51 rfl (Nat.le_of_ble_eq_true rfl) (Nat.le_of_ble_eq_true rfl) rfl rfl ?_
  refine x_aload_n 54 i4_54 rfl ?_
  refine x_bipush 55 (24) i4_55 rfl ?_
  refine y_newa_int 57 50 24 i4_57 rfl (Nat.le_of_ble_eq_true rfl) rfl rfl ?_
  refine x_putR 59 6 i4_59 rfl (Nat.le_of_ble_eq_true rfl) (Nat.le_of_ble_eq_true rfl) rfl rfl ?_
  refine x_aload_n 62 i4_62 rfl ?_
  refine x_iconst 63 (0) i4_63 rfl ?_
  refine x_putI 64 7 i4_64 rfl (Nat.le_of_ble_eq_true rfl) (Nat.le_of_ble_eq_true rfl) rfl rfl ?_
  refine x_aload_n 67 i4_67 rfl ?_
  refine x_sipush 68 (131) i4_68 rfl ?_
  refine x_putI 71 8 i4_71 rfl (Nat.le_of_ble_eq_true rfl) (Nat.le_of_ble_eq_true rfl) rfl rfl ?_
  refine x_aload_n 74 i4_74 rfl ?_
  refine x_iconst 75 (0) i4_75 rfl ?_
  refine x_putI 76 9 i4_76 rfl (Nat.le_of_ble_eq_true rfl) (Nat.le_of_ble_eq_true rfl) rfl rfl ?_
  refine x_aload_n 79 i4_79 rfl ?_
  refine x_iconst 80 (0) i4_80 rfl ?_
  refine x_putI 81 10 i4_81 rfl (Nat.le_of_ble_eq_true rfl) (Nat.le_of_ble_eq_true rfl) rfl rfl ?_
  refine x_aload_n 84 i4_84 rfl ?_
  refine x_iconst 85 (0) i4_85 rfl ?_
  refine x_putI 86 11 i4_86 rfl (Nat.le_of_ble_eq_true rfl) (Nat.le_of_ble_eq_true rfl) rfl rfl ?_
  refine x_aload_n 89 i4_89 rfl ?_
  refine x_iconst 90 (0) i4_90 rfl ?_
  refine x_putZ 91 12 i4_91 rfl (Nat.le_of_ble_eq_true rfl) (Nat.le_of_ble_eq_true rfl) rfl rfl rfl ?_
  refine x_aload_n 94 i4_94 rfl ?_
  refine x_iconst 95 (-1) i4_95 rfl ?_
  refine x_putI 96 13 i4_96 rfl (Nat.le_of_ble_eq_true rfl) (Nat.le_of_ble_eq_true rfl) rfl rfl ?_
  refine x_aload_n 99 i4_99 rfl ?_
  refine x_iconst 100 (-1) i4_100 rfl ?_
  refine x_putI 101 14 i4_101 rfl (Nat.le_of_ble_eq_true rfl) (Nat.le_of_ble_eq_true rfl) rfl rfl ?_
  exact x_vret 104 i4_104 rfl kk
def u_s6_50 (sl : Nat) : Nat := sl + 14 + 300
def u_l6_50 (ln : Nat → Nat) : Nat → Nat := (va_up (va_up ln 51 14) 52 300)
def u_i6_50 (di : Nat → Nat → Int32) : Nat → Nat → Int32 := (va_up (va_up di 51 (fun _ => 0)) 52 (fun _ => 0))
def u_j6_50 (dl : Nat → Nat → Int64) : Nat → Nat → Int64 := (va_up (va_up dl 51 (fun _ => 0)) 52 (fun _ => 0))
def u_r6_50 (dr : Nat → Nat → Option Nat) : Nat → Nat → Option Nat := (q_u (va_up (q_u (va_up dr 51 (fun _ => none)) 50 0 (some 51)) 52 (fun _ => none)) 50 1 (some 52))
theorem u_c6_50 {d sl : Nat} {ln : Nat → Nat} {di : Nat → Nat → Int32} {dl : Nat → Nat → Int64} {dr : Nat → Nat → Option Nat} {Q : Option Value → q_H → Prop} (kk : Q none (53, u_s6_50 sl, u_l6_50 ln, u_i6_50 di, u_j6_50 dl, u_r6_50 dr)) : q_EX q_KD d 6 0 [.ref 50] [] (51, sl, ln, di, dl, dr) Q := by
  refine x_aload_n 0 i6_0 rfl ?_
  refine x_oinit 1 i6_1 rfl (Nat.le_of_ble_eq_true rfl) ?_
  refine x_aload_n 4 i6_4 rfl ?_
  refine x_bipush 5 (14) i6_5 rfl ?_
  refine y_newa_int 7 52 14 i6_7 rfl (Nat.le_of_ble_eq_true rfl) rfl rfl ?_
  refine x_putR 9 0 i6_9 rfl (Nat.le_of_ble_eq_true rfl) (Nat.le_of_ble_eq_true rfl) rfl rfl ?_
  refine x_aload_n 12 i6_12 rfl ?_
  refine x_sipush 13 (300) i6_13 rfl ?_
  refine y_newa_int 16 53 300 i6_16 rfl (Nat.le_of_ble_eq_true rfl) rfl rfl ?_
  refine x_putR 18 1 i6_18 rfl (Nat.le_of_ble_eq_true rfl) (Nat.le_of_ble_eq_true rfl) rfl rfl ?_
  exact x_vret 21 i6_21 rfl kk
def u_s7_53 (sl : Nat) : Nat := sl + 240 + 240 + 490
def u_l7_53 (ln : Nat → Nat) : Nat → Nat := (va_up (va_up (va_up ln 54 240) 55 240) 56 490)
def u_i7_53 (di : Nat → Nat → Int32) : Nat → Nat → Int32 := (u_fl (q_u (q_u (va_up (va_up (va_up di 54 (fun _ => 0)) 55 (fun _ => 0)) 56 (fun _ => 0)) 53 5 (0)) 53 6 (0)) 56 490 (-1))
def u_j7_53 (dl : Nat → Nat → Int64) : Nat → Nat → Int64 := (va_up (va_up (va_up dl 54 (fun _ => 0)) 55 (fun _ => 0)) 56 (fun _ => 0))
def u_r7_53 (dr : Nat → Nat → Option Nat) : Nat → Nat → Option Nat := (q_u (q_u (q_u (va_up (q_u (va_up (q_u (va_up dr 54 (fun _ => none)) 53 2 (some 54)) 55 (fun _ => none)) 53 3 (some 55)) 56 (fun _ => none)) 53 4 (some 56)) 53 0 (some 7)) 53 1 (some 50))
theorem u_c7_53 {d sl : Nat} {ln : Nat → Nat} {di : Nat → Nat → Int32} {dl : Nat → Nat → Int64} {dr : Nat → Nat → Option Nat} {Q : Option Value → q_H → Prop} (kk : Q none (57, u_s7_53 sl, u_l7_53 ln, u_i7_53 di, u_j7_53 dl, u_r7_53 dr)) : q_EX q_KD (d + 1) 7 0 [.ref 53, .ref 7, .ref 50] [] (54, sl, ln, di, dl, dr) Q := by
  refine x_aload_n 0 i7_0 rfl ?_
  refine x_oinit 1 i7_1 rfl (Nat.le_of_ble_eq_true rfl) ?_
  refine x_aload_n 4 i7_4 rfl ?_
  refine x_sipush 5 (240) i7_5 rfl ?_
  refine y_newa_int 8 55 240 i7_8 rfl (Nat.le_of_ble_eq_true rfl) rfl rfl ?_
  refine x_putR 10 2 i7_10 rfl (Nat.le_of_ble_eq_true rfl) (Nat.le_of_ble_eq_true rfl) rfl rfl ?_
  refine x_aload_n 13 i7_13 rfl ?_
  refine x_sipush 14 (240) i7_14 rfl ?_
  refine y_newa_int 17 56 240 i7_17 rfl (Nat.le_of_ble_eq_true rfl) rfl rfl ?_
  refine x_putR 19 3 i7_19 rfl (Nat.le_of_ble_eq_true rfl) (Nat.le_of_ble_eq_true rfl) rfl rfl ?_
  refine x_aload_n 22 i7_22 rfl ?_
  refine x_sipush 23 (490) i7_23 rfl ?_
  refine y_newa_int 26 57 490 i7_26 rfl (Nat.le_of_ble_eq_true rfl) rfl rfl ?_
  refine x_putR 28 4 i7_28 rfl (Nat.le_of_ble_eq_true rfl) (Nat.le_of_ble_eq_true rfl) rfl rfl ?_
  refine x_aload_n 31 i7_31 rfl ?_
  refine x_iconst 32 (0) i7_32 rfl ?_
  refine x_putI 33 5 i7_33 rfl (Nat.le_of_ble_eq_true rfl) (Nat.le_of_ble_eq_true rfl) rfl rfl ?_
  refine x_aload_n 36 i7_36 rfl ?_
  refine x_iconst 37 (0) i7_37 rfl ?_
  refine x_putI 38 6 i7_38 rfl (Nat.le_of_ble_eq_true rfl) (Nat.le_of_ble_eq_true rfl) rfl rfl ?_
  refine x_aload_n 41 i7_41 rfl ?_
  refine x_aload_n 42 i7_42 rfl ?_
  refine x_putR 43 0 i7_43 rfl (Nat.le_of_ble_eq_true rfl) (Nat.le_of_ble_eq_true rfl) rfl rfl ?_
  refine x_aload_n 46 i7_46 rfl ?_
  refine x_aload_n 47 i7_47 rfl ?_
  refine x_putR 48 1 i7_48 rfl (Nat.le_of_ble_eq_true rfl) (Nat.le_of_ble_eq_true rfl) rfl rfl ?_
  refine x_aload_n 51 i7_51 rfl ?_
  refine x_getR 52 56 i7_52 rfl (Nat.le_of_ble_eq_true rfl) (Nat.le_of_ble_eq_true rfl) rfl rfl ?_
  refine x_iconst 55 (-1) i7_55 rfl ?_
  refine x_cs 56 (as := [.ref 56, .int (-1)]) (rs := []) i7_56 rfl rfl rfl rfl (Nat.le_of_ble_eq_true rfl) (Nat.le_of_ble_eq_true rfl) rfl rfl (u_fill 56 490 (by decide) rfl rfl (Nat.le_of_ble_eq_true rfl) (Nat.le_of_ble_eq_true rfl) ?_)
  exact x_vret 59 i7_59 rfl kk
def u_s9_57 (sl : Nat) : Nat := sl + 6 + 6
def u_l9_57 (ln : Nat → Nat) : Nat → Nat := (va_up (va_up ln 58 6) 59 6)
def u_i9_57 (di : Nat → Nat → Int32) : Nat → Nat → Int32 := (va_up (va_up di 58 (fun _ => 0)) 59 (fun _ => 0))
def u_j9_57 (dl : Nat → Nat → Int64) : Nat → Nat → Int64 := (va_up (va_up dl 58 (fun _ => 0)) 59 (fun _ => 0))
def u_r9_57 (dr : Nat → Nat → Option Nat) : Nat → Nat → Option Nat := (q_u (q_u (q_u (q_u (va_up (q_u (va_up dr 58 (fun _ => none)) 57 3 (some 58)) 59 (fun _ => none)) 57 4 (some 59)) 57 0 (some 7)) 57 1 (some 50)) 57 2 (some 53))
theorem u_c9_57 {d sl : Nat} {ln : Nat → Nat} {di : Nat → Nat → Int32} {dl : Nat → Nat → Int64} {dr : Nat → Nat → Option Nat} {Q : Option Value → q_H → Prop} (kk : Q none (60, u_s9_57 sl, u_l9_57 ln, u_i9_57 di, u_j9_57 dl, u_r9_57 dr)) : q_EX q_KD d 9 0 [.ref 57, .ref 7, .ref 50, .ref 53] [] (58, sl, ln, di, dl, dr) Q := by
  refine x_aload_n 0 i9_0 rfl ?_
  refine x_oinit 1 i9_1 rfl (Nat.le_of_ble_eq_true rfl) ?_
  refine x_aload_n 4 i9_4 rfl ?_
  refine x_bipush 5 (6) i9_5 rfl ?_
  refine y_newa_int 7 59 6 i9_7 rfl (Nat.le_of_ble_eq_true rfl) rfl rfl ?_
  refine x_putR 9 3 i9_9 rfl (Nat.le_of_ble_eq_true rfl) (Nat.le_of_ble_eq_true rfl) rfl rfl ?_
  refine x_aload_n 12 i9_12 rfl ?_
  refine x_bipush 13 (6) i9_13 rfl ?_
  refine y_newa_int 15 60 6 i9_15 rfl (Nat.le_of_ble_eq_true rfl) rfl rfl ?_
  refine x_putR 17 4 i9_17 rfl (Nat.le_of_ble_eq_true rfl) (Nat.le_of_ble_eq_true rfl) rfl rfl ?_
  refine x_aload_n 20 i9_20 rfl ?_
  refine x_aload_n 21 i9_21 rfl ?_
  refine x_putR 22 0 i9_22 rfl (Nat.le_of_ble_eq_true rfl) (Nat.le_of_ble_eq_true rfl) rfl rfl ?_
  refine x_aload_n 25 i9_25 rfl ?_
  refine x_aload_n 26 i9_26 rfl ?_
  refine x_putR 27 1 i9_27 rfl (Nat.le_of_ble_eq_true rfl) (Nat.le_of_ble_eq_true rfl) rfl rfl ?_
  refine x_aload_n 30 i9_30 rfl ?_
  refine x_aload_n 31 i9_31 rfl ?_
  refine x_putR 32 2 i9_32 rfl (Nat.le_of_ble_eq_true rfl) (Nat.le_of_ble_eq_true rfl) rfl rfl ?_
  exact x_vret 35 i9_35 rfl kk
def u_s10_60 (sl : Nat) : Nat := sl + 64 + 10 + 6 + 6 + 6 + 16
def u_l10_60 (ln : Nat → Nat) : Nat → Nat := (va_up (va_up (va_up (va_up (va_up (va_up ln 61 64) 62 10) 63 6) 64 6) 65 6) 66 16)
def u_i10_60 (di : Nat → Nat → Int32) : Nat → Nat → Int32 := (u_fl (q_u (q_u (q_u (q_u (q_u (va_up (va_up (va_up (va_up (va_up (va_up di 61 (fun _ => 0)) 62 (fun _ => 0)) 63 (fun _ => 0)) 64 (fun _ => 0)) 65 (fun _ => 0)) 66 (fun _ => 0)) 60 8 (0)) 60 9 (0)) 60 10 (0)) 60 11 (0)) 60 12 (1)) 61 64 (-1))
def u_j10_60 (dl : Nat → Nat → Int64) : Nat → Nat → Int64 := (va_up (va_up (va_up (va_up (va_up (va_up dl 61 (fun _ => 0)) 62 (fun _ => 0)) 63 (fun _ => 0)) 64 (fun _ => 0)) 65 (fun _ => 0)) 66 (fun _ => 0))
def u_r10_60 (dr : Nat → Nat → Option Nat) : Nat → Nat → Option Nat := (q_u (q_u (q_u (va_up (q_u (va_up (q_u (va_up (q_u (va_up (q_u (va_up (q_u (va_up dr 61 (fun _ => none)) 60 2 (some 61)) 62 (fun _ => none)) 60 3 (some 62)) 63 (fun _ => none)) 60 4 (some 63)) 64 (fun _ => none)) 60 5 (some 64)) 65 (fun _ => none)) 60 6 (some 65)) 66 (fun _ => none)) 60 7 (some 66)) 60 0 (some 7)) 60 1 (some 53))
theorem u_c10_60 {d sl : Nat} {ln : Nat → Nat} {di : Nat → Nat → Int32} {dl : Nat → Nat → Int64} {dr : Nat → Nat → Option Nat} {Q : Option Value → q_H → Prop} (kk : Q none (67, u_s10_60 sl, u_l10_60 ln, u_i10_60 di, u_j10_60 dl, u_r10_60 dr)) : q_EX q_KD (d + 1) 10 0 [.ref 60, .ref 7, .ref 53] [] (61, sl, ln, di, dl, dr) Q := by
  refine x_aload_n 0 i10_0 rfl ?_
  refine x_oinit 1 i10_1 rfl (Nat.le_of_ble_eq_true rfl) ?_
  refine x_aload_n 4 i10_4 rfl ?_
  refine x_bipush 5 (64) i10_5 rfl ?_
  refine y_newa_int 7 62 64 i10_7 rfl (Nat.le_of_ble_eq_true rfl) rfl rfl ?_
  refine x_putR 9 2 i10_9 rfl (Nat.le_of_ble_eq_true rfl) (Nat.le_of_ble_eq_true rfl) rfl rfl ?_
  refine x_aload_n 12 i10_12 rfl ?_
  refine x_bipush 13 (10) i10_13 rfl ?_
  refine y_newa_int 15 63 10 i10_15 rfl (Nat.le_of_ble_eq_true rfl) rfl rfl ?_
  refine x_putR 17 3 i10_17 rfl (Nat.le_of_ble_eq_true rfl) (Nat.le_of_ble_eq_true rfl) rfl rfl ?_
  refine x_aload_n 20 i10_20 rfl ?_
  refine x_bipush 21 (6) i10_21 rfl ?_
  refine y_newa_int 23 64 6 i10_23 rfl (Nat.le_of_ble_eq_true rfl) rfl rfl ?_
  refine x_putR 25 4 i10_25 rfl (Nat.le_of_ble_eq_true rfl) (Nat.le_of_ble_eq_true rfl) rfl rfl ?_
  refine x_aload_n 28 i10_28 rfl ?_
  refine x_bipush 29 (6) i10_29 rfl ?_
  refine y_newa_int 31 65 6 i10_31 rfl (Nat.le_of_ble_eq_true rfl) rfl rfl ?_
  refine x_putR 33 5 i10_33 rfl (Nat.le_of_ble_eq_true rfl) (Nat.le_of_ble_eq_true rfl) rfl rfl ?_
  refine x_aload_n 36 i10_36 rfl ?_
  refine x_bipush 37 (6) i10_37 rfl ?_
  refine y_newa_int 39 66 6 i10_39 rfl (Nat.le_of_ble_eq_true rfl) rfl rfl ?_
  refine x_putR 41 6 i10_41 rfl (Nat.le_of_ble_eq_true rfl) (Nat.le_of_ble_eq_true rfl) rfl rfl ?_
  refine x_aload_n 44 i10_44 rfl ?_
  refine x_bipush 45 (16) i10_45 rfl ?_
  refine y_newa_int 47 67 16 i10_47 rfl (Nat.le_of_ble_eq_true rfl) rfl rfl ?_
  refine x_putR 49 7 i10_49 rfl (Nat.le_of_ble_eq_true rfl) (Nat.le_of_ble_eq_true rfl) rfl rfl ?_
  refine x_aload_n 52 i10_52 rfl ?_
  refine x_iconst 53 (0) i10_53 rfl ?_
  refine x_putI 54 8 i10_54 rfl (Nat.le_of_ble_eq_true rfl) (Nat.le_of_ble_eq_true rfl) rfl rfl ?_
  refine x_aload_n 57 i10_57 rfl ?_
  refine x_iconst 58 (0) i10_58 rfl ?_
  refine x_putZ 59 9 i10_59 rfl (Nat.le_of_ble_eq_true rfl) (Nat.le_of_ble_eq_true rfl) rfl rfl rfl ?_
  refine x_aload_n 62 i10_62 rfl ?_
  refine x_iconst 63 (0) i10_63 rfl ?_
  refine x_putI 64 10 i10_64 rfl (Nat.le_of_ble_eq_true rfl) (Nat.le_of_ble_eq_true rfl) rfl rfl ?_
  refine x_aload_n 67 i10_67 rfl ?_
  refine x_iconst 68 (0) i10_68 rfl ?_
  refine x_putI 69 11 i10_69 rfl (Nat.le_of_ble_eq_true rfl) (Nat.le_of_ble_eq_true rfl) rfl rfl ?_
  refine x_aload_n 72 i10_72 rfl ?_
  refine x_iconst 73 (1) i10_73 rfl ?_
  refine x_putI 74 12 i10_74 rfl (Nat.le_of_ble_eq_true rfl) (Nat.le_of_ble_eq_true rfl) rfl rfl ?_
  refine x_aload_n 77 i10_77 rfl ?_
  refine x_aload_n 78 i10_78 rfl ?_
  refine x_putR 79 0 i10_79 rfl (Nat.le_of_ble_eq_true rfl) (Nat.le_of_ble_eq_true rfl) rfl rfl ?_
  refine x_aload_n 82 i10_82 rfl ?_
  refine x_aload_n 83 i10_83 rfl ?_
  refine x_putR 84 1 i10_84 rfl (Nat.le_of_ble_eq_true rfl) (Nat.le_of_ble_eq_true rfl) rfl rfl ?_
  refine x_aload_n 87 i10_87 rfl ?_
  refine x_getR 88 61 i10_88 rfl (Nat.le_of_ble_eq_true rfl) (Nat.le_of_ble_eq_true rfl) rfl rfl ?_
  refine x_iconst 91 (-1) i10_91 rfl ?_
  refine x_cs 92 (as := [.ref 61, .int (-1)]) (rs := []) i10_92 rfl rfl rfl rfl (Nat.le_of_ble_eq_true rfl) (Nat.le_of_ble_eq_true rfl) rfl rfl (u_fill 61 64 (by decide) rfl rfl (Nat.le_of_ble_eq_true rfl) (Nat.le_of_ble_eq_true rfl) ?_)
  exact x_vret 95 i10_95 rfl kk
def u_s1_6 (sl : Nat) : Nat := (u_s10_60 ((u_s9_57 ((u_s7_53 ((u_s6_50 ((u_s4_39 ((u_s2_23 ((u_s2_7 (sl + 18)) + 18)) + 15)) + 2)) + 7)) + 5)) + 13))
def u_l1_6 (ln : Nat → Nat) : Nat → Nat := (u_l10_60 (u_l9_57 (u_l7_53 (u_l6_50 (u_l4_39 (u_l2_23 (u_l2_7 ln)))))))
def u_i1_6 (di : Nat → Nat → Int32) : Nat → Nat → Int32 := (u_i10_60 (va_up (u_i9_57 (va_up (u_i7_53 (va_up (u_i6_50 (va_up (u_i4_39 (va_up (u_i2_23 (va_up (u_i2_7 (va_up di 7 (fun _ => 0))) 23 (fun _ => 0))) 39 (fun _ => 0))) 50 (fun _ => 0))) 53 (fun _ => 0))) 57 (fun _ => 0))) 60 (fun _ => 0)))
def u_j1_6 (dl : Nat → Nat → Int64) : Nat → Nat → Int64 := (u_j10_60 (va_up (u_j9_57 (va_up (u_j7_53 (va_up (u_j6_50 (va_up (u_j4_39 (va_up (u_j2_23 (va_up (u_j2_7 (va_up dl 7 (fun _ => 0))) 23 (fun _ => 0))) 39 (fun _ => 0))) 50 (fun _ => 0))) 53 (fun _ => 0))) 57 (fun _ => 0))) 60 (fun _ => 0)))
def u_r1_6 (dr : Nat → Nat → Option Nat) : Nat → Nat → Option Nat := (q_u (u_r10_60 (va_up (q_u (u_r9_57 (va_up (q_u (u_r7_53 (va_up (q_u (u_r6_50 (va_up (q_u (u_r4_39 (va_up (q_u (u_r2_23 (va_up (q_u (u_r2_7 (va_up dr 7 (fun _ => none))) 6 0 (some 7)) 23 (fun _ => none))) 6 1 (some 23)) 39 (fun _ => none))) 6 2 (some 39)) 50 (fun _ => none))) 6 3 (some 50)) 53 (fun _ => none))) 6 4 (some 53)) 57 (fun _ => none))) 6 5 (some 57)) 60 (fun _ => none))) 6 6 (some 60))
theorem u_c1_6 {d sl : Nat} {ln : Nat → Nat} {di : Nat → Nat → Int32} {dl : Nat → Nat → Int64} {dr : Nat → Nat → Option Nat} {Q : Option Value → q_H → Prop} (kk : Q none (67, u_s1_6 sl, u_l1_6 ln, u_i1_6 di, u_j1_6 dl, u_r1_6 dr)) : q_EX q_KD (d + 2) 1 0 [.ref 6] [] (7, sl, ln, di, dl, dr) Q := by
  refine x_aload_n 0 i1_0 rfl ?_
  refine x_oinit 1 i1_1 rfl (Nat.le_of_ble_eq_true rfl) ?_
  refine x_aload_n 4 i1_4 rfl ?_
  refine y_new 5 8 18 i1_5 rfl rfl rfl ?_
  refine x_dup 8 i1_8 rfl ?_
  refine x_ci 9 (a := 7) (as := []) (rs := [.ref 7, .ref 6]) i1_9 rfl rfl rfl rfl (Nat.le_of_ble_eq_true rfl) (Nat.le_of_ble_eq_true rfl) rfl rfl (u_c2_7 ?_)
  refine x_putR 12 0 i1_12 rfl (Nat.le_of_ble_eq_true rfl) (Nat.le_of_ble_eq_true rfl) rfl rfl ?_
  refine x_aload_n 15 i1_15 rfl ?_
  refine y_new 16 24 18 i1_16 rfl rfl rfl ?_
  refine x_dup 19 i1_19 rfl ?_
  refine x_ci 20 (a := 23) (as := []) (rs := [.ref 23, .ref 6]) i1_20 rfl rfl rfl rfl (Nat.le_of_ble_eq_true rfl) (Nat.le_of_ble_eq_true rfl) rfl rfl (u_c2_23 ?_)
  refine x_putR 23 1 i1_23 rfl (Nat.le_of_ble_eq_true rfl) (Nat.le_of_ble_eq_true rfl) rfl rfl ?_
  refine x_aload_n 26 i1_26 rfl ?_
  refine y_new 27 40 15 i1_27 rfl rfl rfl ?_
  refine x_dup 30 i1_30 rfl ?_
  refine x_ci 31 (a := 39) (as := []) (rs := [.ref 39, .ref 6]) i1_31 rfl rfl rfl rfl (Nat.le_of_ble_eq_true rfl) (Nat.le_of_ble_eq_true rfl) rfl rfl (u_c4_39 ?_)
  refine x_putR 34 2 i1_34 rfl (Nat.le_of_ble_eq_true rfl) (Nat.le_of_ble_eq_true rfl) rfl rfl ?_
  refine x_aload_n 37 i1_37 rfl ?_
  refine y_new 38 51 2 i1_38 rfl rfl rfl ?_
  refine x_dup 41 i1_41 rfl ?_
  refine x_ci 42 (a := 50) (as := []) (rs := [.ref 50, .ref 6]) i1_42 rfl rfl rfl rfl (Nat.le_of_ble_eq_true rfl) (Nat.le_of_ble_eq_true rfl) rfl rfl (u_c6_50 ?_)
  refine x_putR 45 3 i1_45 rfl (Nat.le_of_ble_eq_true rfl) (Nat.le_of_ble_eq_true rfl) rfl rfl ?_
  refine x_aload_n 48 i1_48 rfl ?_
  refine y_new 49 54 7 i1_49 rfl rfl rfl ?_
  refine x_dup 52 i1_52 rfl ?_
  refine x_aload_n 53 i1_53 rfl ?_
  refine x_getR 54 7 i1_54 rfl (Nat.le_of_ble_eq_true rfl) (Nat.le_of_ble_eq_true rfl) rfl rfl ?_
  refine x_aload_n 57 i1_57 rfl ?_
  refine x_getR 58 50 i1_58 rfl (Nat.le_of_ble_eq_true rfl) (Nat.le_of_ble_eq_true rfl) rfl rfl ?_
  refine x_ci 61 (a := 53) (as := [.ref 7, .ref 50]) (rs := [.ref 53, .ref 6]) i1_61 rfl rfl rfl rfl (Nat.le_of_ble_eq_true rfl) (Nat.le_of_ble_eq_true rfl) rfl rfl (u_c7_53 ?_)
  refine x_putR 64 4 i1_64 rfl (Nat.le_of_ble_eq_true rfl) (Nat.le_of_ble_eq_true rfl) rfl rfl ?_
  refine x_aload_n 67 i1_67 rfl ?_
  refine y_new 68 58 5 i1_68 rfl rfl rfl ?_
  refine x_dup 71 i1_71 rfl ?_
  refine x_aload_n 72 i1_72 rfl ?_
  refine x_getR 73 7 i1_73 rfl (Nat.le_of_ble_eq_true rfl) (Nat.le_of_ble_eq_true rfl) rfl rfl ?_
  refine x_aload_n 76 i1_76 rfl ?_
  refine x_getR 77 50 i1_77 rfl (Nat.le_of_ble_eq_true rfl) (Nat.le_of_ble_eq_true rfl) rfl rfl ?_
  refine x_aload_n 80 i1_80 rfl ?_
  refine x_getR 81 53 i1_81 rfl (Nat.le_of_ble_eq_true rfl) (Nat.le_of_ble_eq_true rfl) rfl rfl ?_
  refine x_ci 84 (a := 57) (as := [.ref 7, .ref 50, .ref 53]) (rs := [.ref 57, .ref 6]) i1_84 rfl rfl rfl rfl (Nat.le_of_ble_eq_true rfl) (Nat.le_of_ble_eq_true rfl) rfl rfl (u_c9_57 ?_)
  refine x_putR 87 5 i1_87 rfl (Nat.le_of_ble_eq_true rfl) (Nat.le_of_ble_eq_true rfl) rfl rfl ?_
  refine x_aload_n 90 i1_90 rfl ?_
  refine y_new 91 61 13 i1_91 rfl rfl rfl ?_
  refine x_dup 94 i1_94 rfl ?_
  refine x_aload_n 95 i1_95 rfl ?_
  refine x_getR 96 7 i1_96 rfl (Nat.le_of_ble_eq_true rfl) (Nat.le_of_ble_eq_true rfl) rfl rfl ?_
  refine x_aload_n 99 i1_99 rfl ?_
  refine x_getR 100 53 i1_100 rfl (Nat.le_of_ble_eq_true rfl) (Nat.le_of_ble_eq_true rfl) rfl rfl ?_
  refine x_ci 103 (a := 60) (as := [.ref 7, .ref 53]) (rs := [.ref 60, .ref 6]) i1_103 rfl rfl rfl rfl (Nat.le_of_ble_eq_true rfl) (Nat.le_of_ble_eq_true rfl) rfl rfl (u_c10_60 ?_)
  refine x_putR 106 6 i1_106 rfl (Nat.le_of_ble_eq_true rfl) (Nat.le_of_ble_eq_true rfl) rfl rfl ?_
  exact x_vret 109 i1_109 rfl kk
def u_s115_67 (sl : Nat) : Nat := sl + 706 + 706 + 2720 + 300 + 160 + 14 + 330 + 330 + 6 + 6 + 6 + 64 + 6 + 6 + 6 + 10
def u_l115_67 (ln : Nat → Nat) : Nat → Nat := (va_up (va_up (va_up (va_up (va_up (va_up (va_up (va_up (va_up (va_up (va_up (va_up (va_up (va_up (va_up (va_up ln 68 706) 69 706) 70 2720) 71 300) 72 160) 73 14) 74 330) 75 330) 76 6) 77 6) 78 6) 79 64) 80 6) 81 6) 82 6) 83 10)
def u_i115_67 (di : Nat → Nat → Int32) : Nat → Nat → Int32 := (q_u (q_u (q_u (q_u (q_u (q_u (q_u (q_u (va_up (va_up (va_up (va_up (va_up (va_up (va_up (va_up (va_up (va_up (va_up (va_up (q_u (q_u (va_up (va_up (va_up (va_up di 68 (fun _ => 0)) 69 (fun _ => 0)) 70 (fun _ => 0)) 71 (fun _ => 0)) 67 5 (-1)) 67 6 (-1)) 72 (fun _ => 0)) 73 (fun _ => 0)) 74 (fun _ => 0)) 75 (fun _ => 0)) 76 (fun _ => 0)) 77 (fun _ => 0)) 78 (fun _ => 0)) 79 (fun _ => 0)) 80 (fun _ => 0)) 81 (fun _ => 0)) 82 (fun _ => 0)) 83 (fun _ => 0)) 68 5 (-1)) 68 3 (17)) 68 13 (-1)) 68 19 (-1)) 68 25 (-1)) 68 31 (-1)) 68 37 (-1)) 68 43 (-1))
def u_j115_67 (dl : Nat → Nat → Int64) : Nat → Nat → Int64 := (va_up (va_up (va_up (va_up (va_up (va_up (va_up (va_up (va_up (va_up (va_up (va_up (va_up (va_up (va_up (va_up dl 68 (fun _ => 0)) 69 (fun _ => 0)) 70 (fun _ => 0)) 71 (fun _ => 0)) 72 (fun _ => 0)) 73 (fun _ => 0)) 74 (fun _ => 0)) 75 (fun _ => 0)) 76 (fun _ => 0)) 77 (fun _ => 0)) 78 (fun _ => 0)) 79 (fun _ => 0)) 80 (fun _ => 0)) 81 (fun _ => 0)) 82 (fun _ => 0)) 83 (fun _ => 0))
def u_r115_67 (dr : Nat → Nat → Option Nat) : Nat → Nat → Option Nat := (q_u (va_up (q_u (va_up (q_u (va_up (q_u (va_up (q_u (va_up (q_u (va_up (q_u (va_up (q_u (va_up (q_u (va_up (q_u (va_up (q_u (va_up (q_u (va_up (q_u (va_up (q_u (va_up (q_u (va_up (q_u (va_up dr 68 (fun _ => none)) 67 0 (some 68)) 69 (fun _ => none)) 67 1 (some 69)) 70 (fun _ => none)) 67 2 (some 70)) 71 (fun _ => none)) 67 3 (some 71)) 72 (fun _ => none)) 67 16 (some 72)) 73 (fun _ => none)) 67 22 (some 73)) 74 (fun _ => none)) 67 23 (some 74)) 75 (fun _ => none)) 67 24 (some 75)) 76 (fun _ => none)) 67 25 (some 76)) 77 (fun _ => none)) 67 29 (some 77)) 78 (fun _ => none)) 67 30 (some 78)) 79 (fun _ => none)) 67 31 (some 79)) 80 (fun _ => none)) 67 32 (some 80)) 81 (fun _ => none)) 67 33 (some 81)) 82 (fun _ => none)) 67 34 (some 82)) 83 (fun _ => none)) 67 36 (some 83))
theorem u_c115_67 {d sl : Nat} {ln : Nat → Nat} {di : Nat → Nat → Int32} {dl : Nat → Nat → Int64} {dr : Nat → Nat → Option Nat} {Q : Option Value → q_H → Prop} (hg : q_Gr 84 (u_l115_67 ln) (u_r115_67 dr)) (kk : ∀ b : Nat → Int32, (∀ t, t < 706 → b t = u_i115_67 di 68 t) → Q none (84, u_s115_67 sl, u_l115_67 ln, va_up (u_i115_67 di) 69 b, u_j115_67 dl, u_r115_67 dr)) : q_EX q_KD (d + 1) 115 0 [.ref 67, .retAddr 0] [] (68, sl, ln, di, dl, dr) Q := by
  refine x_aload_n 0 i115_0 rfl ?_
  refine x_oinit 1 i115_1 rfl (Nat.le_of_ble_eq_true rfl) ?_
  refine x_aload_n 4 i115_4 rfl ?_
  refine x_sipush 5 (706) i115_5 rfl ?_
  refine y_newa_int 8 69 706 i115_8 rfl (Nat.le_of_ble_eq_true rfl) rfl rfl ?_
  refine x_putR 10 0 i115_10 rfl (Nat.le_of_ble_eq_true rfl) (Nat.le_of_ble_eq_true rfl) rfl rfl ?_
  refine x_aload_n 13 i115_13 rfl ?_
  refine x_sipush 14 (706) i115_14 rfl ?_
  refine y_newa_int 17 70 706 i115_17 rfl (Nat.le_of_ble_eq_true rfl) rfl rfl ?_
  refine x_putR 19 1 i115_19 rfl (Nat.le_of_ble_eq_true rfl) (Nat.le_of_ble_eq_true rfl) rfl rfl ?_
  refine x_aload_n 22 i115_22 rfl ?_
  refine x_sipush 23 (2720) i115_23 rfl ?_
  refine y_newa_int 26 71 2720 i115_26 rfl (Nat.le_of_ble_eq_true rfl) rfl rfl ?_
  refine x_putR 28 2 i115_28 rfl (Nat.le_of_ble_eq_true rfl) (Nat.le_of_ble_eq_true rfl) rfl rfl ?_
  refine x_aload_n 31 i115_31 rfl ?_
  refine x_sipush 32 (300) i115_32 rfl ?_
  refine y_newa_int 35 72 300 i115_35 rfl (Nat.le_of_ble_eq_true rfl) rfl rfl ?_
  refine x_putR 37 3 i115_37 rfl (Nat.le_of_ble_eq_true rfl) (Nat.le_of_ble_eq_true rfl) rfl rfl ?_
  refine x_aload_n 40 i115_40 rfl ?_
  refine x_iconst 41 (-1) i115_41 rfl ?_
  refine x_putI 42 5 i115_42 rfl (Nat.le_of_ble_eq_true rfl) (Nat.le_of_ble_eq_true rfl) rfl rfl ?_
  refine x_aload_n 45 i115_45 rfl ?_
  refine x_iconst 46 (-1) i115_46 rfl ?_
  refine x_putI 47 6 i115_47 rfl (Nat.le_of_ble_eq_true rfl) (Nat.le_of_ble_eq_true rfl) rfl rfl ?_
  refine x_aload_n 50 i115_50 rfl ?_
  refine x_sipush 51 (160) i115_51 rfl ?_
  refine y_newa_int 54 73 160 i115_54 rfl (Nat.le_of_ble_eq_true rfl) rfl rfl ?_
  refine x_putR 56 16 i115_56 rfl (Nat.le_of_ble_eq_true rfl) (Nat.le_of_ble_eq_true rfl) rfl rfl ?_
  refine x_aload_n 59 i115_59 rfl ?_
  refine x_bipush 60 (14) i115_60 rfl ?_
  refine y_newa_int 62 74 14 i115_62 rfl (Nat.le_of_ble_eq_true rfl) rfl rfl ?_
  refine x_putR 64 22 i115_64 rfl (Nat.le_of_ble_eq_true rfl) (Nat.le_of_ble_eq_true rfl) rfl rfl ?_
  refine x_aload_n 67 i115_67 rfl ?_
  refine x_sipush 68 (330) i115_68 rfl ?_
  refine y_newa_long 71 75 330 i115_71 rfl (Nat.le_of_ble_eq_true rfl) rfl rfl ?_
  refine x_putR 73 23 i115_73 rfl (Nat.le_of_ble_eq_true rfl) (Nat.le_of_ble_eq_true rfl) rfl rfl ?_
  refine x_aload_n 76 i115_76 rfl ?_
  refine x_sipush 77 (330) i115_77 rfl ?_
  refine y_newa_boolean 80 76 330 i115_80 rfl (Nat.le_of_ble_eq_true rfl) rfl rfl ?_
  refine x_putR 82 24 i115_82 rfl (Nat.le_of_ble_eq_true rfl) (Nat.le_of_ble_eq_true rfl) rfl rfl ?_
  refine x_aload_n 85 i115_85 rfl ?_
  refine x_bipush 86 (6) i115_86 rfl ?_
  refine y_newa_int 88 77 6 i115_88 rfl (Nat.le_of_ble_eq_true rfl) rfl rfl ?_
  refine x_putR 90 25 i115_90 rfl (Nat.le_of_ble_eq_true rfl) (Nat.le_of_ble_eq_true rfl) rfl rfl ?_
  refine x_aload_n 93 i115_93 rfl ?_
  refine x_bipush 94 (6) i115_94 rfl ?_
  refine y_newa_int 96 78 6 i115_96 rfl (Nat.le_of_ble_eq_true rfl) rfl rfl ?_
  refine x_putR 98 29 i115_98 rfl (Nat.le_of_ble_eq_true rfl) (Nat.le_of_ble_eq_true rfl) rfl rfl ?_
  refine x_aload_n 101 i115_101 rfl ?_
  refine x_bipush 102 (6) i115_102 rfl ?_
  refine y_newa_int 104 79 6 i115_104 rfl (Nat.le_of_ble_eq_true rfl) rfl rfl ?_
  refine x_putR 106 30 i115_106 rfl (Nat.le_of_ble_eq_true rfl) (Nat.le_of_ble_eq_true rfl) rfl rfl ?_
  refine x_aload_n 109 i115_109 rfl ?_
  refine x_bipush 110 (64) i115_110 rfl ?_
  refine y_newa_int 112 80 64 i115_112 rfl (Nat.le_of_ble_eq_true rfl) rfl rfl ?_
  refine x_putR 114 31 i115_114 rfl (Nat.le_of_ble_eq_true rfl) (Nat.le_of_ble_eq_true rfl) rfl rfl ?_
  refine x_aload_n 117 i115_117 rfl ?_
  refine x_bipush 118 (6) i115_118 rfl ?_
  refine y_newa_int 120 81 6 i115_120 rfl (Nat.le_of_ble_eq_true rfl) rfl rfl ?_
  refine x_putR 122 32 i115_122 rfl (Nat.le_of_ble_eq_true rfl) (Nat.le_of_ble_eq_true rfl) rfl rfl ?_
  refine x_aload_n 125 i115_125 rfl ?_
  refine x_bipush 126 (6) i115_126 rfl ?_
  refine y_newa_int 128 82 6 i115_128 rfl (Nat.le_of_ble_eq_true rfl) rfl rfl ?_
  refine x_putR 130 33 i115_130 rfl (Nat.le_of_ble_eq_true rfl) (Nat.le_of_ble_eq_true rfl) rfl rfl ?_
  refine x_aload_n 133 i115_133 rfl ?_
  refine x_bipush 134 (6) i115_134 rfl ?_
  refine y_newa_int 136 83 6 i115_136 rfl (Nat.le_of_ble_eq_true rfl) rfl rfl ?_
  refine x_putR 138 34 i115_138 rfl (Nat.le_of_ble_eq_true rfl) (Nat.le_of_ble_eq_true rfl) rfl rfl ?_
  refine x_aload_n 141 i115_141 rfl ?_
  refine x_bipush 142 (10) i115_142 rfl ?_
  refine y_newa_int 144 84 10 i115_144 rfl (Nat.le_of_ble_eq_true rfl) rfl rfl ?_
  refine x_putR 146 36 i115_146 rfl (Nat.le_of_ble_eq_true rfl) (Nat.le_of_ble_eq_true rfl) rfl rfl ?_
  refine x_aload_n 149 i115_149 rfl ?_
  refine x_getR 150 68 i115_150 rfl (Nat.le_of_ble_eq_true rfl) (Nat.le_of_ble_eq_true rfl) rfl rfl ?_
  refine x_iconst 153 (5) i115_153 rfl ?_
  refine x_iconst 154 (-1) i115_154 rfl ?_
  refine y_iastore 155 5 706 i115_155 rfl (Nat.le_of_ble_eq_true rfl) (Nat.le_of_ble_eq_true rfl) rfl rfl (Nat.le_of_ble_eq_true rfl) (Nat.le_of_ble_eq_true rfl) ?_
  refine x_aload_n 156 i115_156 rfl ?_
  refine x_getR 157 68 i115_157 rfl (Nat.le_of_ble_eq_true rfl) (Nat.le_of_ble_eq_true rfl) rfl rfl ?_
  refine x_iconst 160 (3) i115_160 rfl ?_
  refine x_bipush 161 (17) i115_161 rfl ?_
  refine y_iastore 163 3 706 i115_163 rfl (Nat.le_of_ble_eq_true rfl) (Nat.le_of_ble_eq_true rfl) rfl rfl (Nat.le_of_ble_eq_true rfl) (Nat.le_of_ble_eq_true rfl) ?_
  refine x_iconst 164 (0) i115_164 rfl ?_
  refine x_istore_n 165 (ls2 := [.ref 67, .int (0)]) i115_165 (Nat.le_of_ble_eq_true rfl) rfl ?_
  refine x_iload_n 166 i115_166 rfl ?_
  refine x_bipush 167 (6) i115_167 rfl ?_
  refine x_icmp_ge 169 193 i115_169 rfl (fun c => absurd c (by decide)) (fun _ => ?_)
  refine x_aload_n 172 i115_172 rfl ?_
  refine x_getR 173 68 i115_173 rfl (Nat.le_of_ble_eq_true rfl) (Nat.le_of_ble_eq_true rfl) rfl rfl ?_
  refine x_bipush 176 (10) i115_176 rfl ?_
  refine x_bipush 178 (6) i115_178 rfl ?_
  refine x_iload_n 180 i115_180 rfl ?_
  refine y_imul 181 (0) i115_181 rfl ?_
  refine y_iadd 182 (10) i115_182 rfl ?_
  refine x_iconst 183 (3) i115_183 rfl ?_
  refine y_iadd 184 (13) i115_184 rfl ?_
  refine x_iconst 185 (-1) i115_185 rfl ?_
  refine y_iastore 186 13 706 i115_186 rfl (Nat.le_of_ble_eq_true rfl) (Nat.le_of_ble_eq_true rfl) rfl rfl (Nat.le_of_ble_eq_true rfl) (Nat.le_of_ble_eq_true rfl) ?_
  refine x_iinc 187 (1) (ls2 := [.ref 67, .int (1)]) i115_187 rfl (Nat.le_of_ble_eq_true rfl) rfl rfl ?_
  refine x_goto 190 166 i115_190 rfl ?_
  refine x_iload_n 166 i115_166 rfl ?_
  refine x_bipush 167 (6) i115_167 rfl ?_
  refine x_icmp_ge 169 193 i115_169 rfl (fun c => absurd c (by decide)) (fun _ => ?_)
  refine x_aload_n 172 i115_172 rfl ?_
  refine x_getR 173 68 i115_173 rfl (Nat.le_of_ble_eq_true rfl) (Nat.le_of_ble_eq_true rfl) rfl rfl ?_
  refine x_bipush 176 (10) i115_176 rfl ?_
  refine x_bipush 178 (6) i115_178 rfl ?_
  refine x_iload_n 180 i115_180 rfl ?_
  refine y_imul 181 (6) i115_181 rfl ?_
  refine y_iadd 182 (16) i115_182 rfl ?_
  refine x_iconst 183 (3) i115_183 rfl ?_
  refine y_iadd 184 (19) i115_184 rfl ?_
  refine x_iconst 185 (-1) i115_185 rfl ?_
  refine y_iastore 186 19 706 i115_186 rfl (Nat.le_of_ble_eq_true rfl) (Nat.le_of_ble_eq_true rfl) rfl rfl (Nat.le_of_ble_eq_true rfl) (Nat.le_of_ble_eq_true rfl) ?_
  refine x_iinc 187 (2) (ls2 := [.ref 67, .int (2)]) i115_187 rfl (Nat.le_of_ble_eq_true rfl) rfl rfl ?_
  refine x_goto 190 166 i115_190 rfl ?_
  refine x_iload_n 166 i115_166 rfl ?_
  refine x_bipush 167 (6) i115_167 rfl ?_
  refine x_icmp_ge 169 193 i115_169 rfl (fun c => absurd c (by decide)) (fun _ => ?_)
  refine x_aload_n 172 i115_172 rfl ?_
  refine x_getR 173 68 i115_173 rfl (Nat.le_of_ble_eq_true rfl) (Nat.le_of_ble_eq_true rfl) rfl rfl ?_
  refine x_bipush 176 (10) i115_176 rfl ?_
  refine x_bipush 178 (6) i115_178 rfl ?_
  refine x_iload_n 180 i115_180 rfl ?_
  refine y_imul 181 (12) i115_181 rfl ?_
  refine y_iadd 182 (22) i115_182 rfl ?_
  refine x_iconst 183 (3) i115_183 rfl ?_
  refine y_iadd 184 (25) i115_184 rfl ?_
  refine x_iconst 185 (-1) i115_185 rfl ?_
  refine y_iastore 186 25 706 i115_186 rfl (Nat.le_of_ble_eq_true rfl) (Nat.le_of_ble_eq_true rfl) rfl rfl (Nat.le_of_ble_eq_true rfl) (Nat.le_of_ble_eq_true rfl) ?_
  refine x_iinc 187 (3) (ls2 := [.ref 67, .int (3)]) i115_187 rfl (Nat.le_of_ble_eq_true rfl) rfl rfl ?_
  refine x_goto 190 166 i115_190 rfl ?_
  refine x_iload_n 166 i115_166 rfl ?_
  refine x_bipush 167 (6) i115_167 rfl ?_
  refine x_icmp_ge 169 193 i115_169 rfl (fun c => absurd c (by decide)) (fun _ => ?_)
  refine x_aload_n 172 i115_172 rfl ?_
  refine x_getR 173 68 i115_173 rfl (Nat.le_of_ble_eq_true rfl) (Nat.le_of_ble_eq_true rfl) rfl rfl ?_
  refine x_bipush 176 (10) i115_176 rfl ?_
  refine x_bipush 178 (6) i115_178 rfl ?_
  refine x_iload_n 180 i115_180 rfl ?_
  refine y_imul 181 (18) i115_181 rfl ?_
  refine y_iadd 182 (28) i115_182 rfl ?_
  refine x_iconst 183 (3) i115_183 rfl ?_
  refine y_iadd 184 (31) i115_184 rfl ?_
  refine x_iconst 185 (-1) i115_185 rfl ?_
  refine y_iastore 186 31 706 i115_186 rfl (Nat.le_of_ble_eq_true rfl) (Nat.le_of_ble_eq_true rfl) rfl rfl (Nat.le_of_ble_eq_true rfl) (Nat.le_of_ble_eq_true rfl) ?_
  refine x_iinc 187 (4) (ls2 := [.ref 67, .int (4)]) i115_187 rfl (Nat.le_of_ble_eq_true rfl) rfl rfl ?_
  refine x_goto 190 166 i115_190 rfl ?_
  refine x_iload_n 166 i115_166 rfl ?_
  refine x_bipush 167 (6) i115_167 rfl ?_
  refine x_icmp_ge 169 193 i115_169 rfl (fun c => absurd c (by decide)) (fun _ => ?_)
  refine x_aload_n 172 i115_172 rfl ?_
  refine x_getR 173 68 i115_173 rfl (Nat.le_of_ble_eq_true rfl) (Nat.le_of_ble_eq_true rfl) rfl rfl ?_
  refine x_bipush 176 (10) i115_176 rfl ?_
  refine x_bipush 178 (6) i115_178 rfl ?_
  refine x_iload_n 180 i115_180 rfl ?_
  refine y_imul 181 (24) i115_181 rfl ?_
  refine y_iadd 182 (34) i115_182 rfl ?_
  refine x_iconst 183 (3) i115_183 rfl ?_
  refine y_iadd 184 (37) i115_184 rfl ?_
  refine x_iconst 185 (-1) i115_185 rfl ?_
  refine y_iastore 186 37 706 i115_186 rfl (Nat.le_of_ble_eq_true rfl) (Nat.le_of_ble_eq_true rfl) rfl rfl (Nat.le_of_ble_eq_true rfl) (Nat.le_of_ble_eq_true rfl) ?_
  refine x_iinc 187 (5) (ls2 := [.ref 67, .int (5)]) i115_187 rfl (Nat.le_of_ble_eq_true rfl) rfl rfl ?_
  refine x_goto 190 166 i115_190 rfl ?_
  refine x_iload_n 166 i115_166 rfl ?_
  refine x_bipush 167 (6) i115_167 rfl ?_
  refine x_icmp_ge 169 193 i115_169 rfl (fun c => absurd c (by decide)) (fun _ => ?_)
  refine x_aload_n 172 i115_172 rfl ?_
  refine x_getR 173 68 i115_173 rfl (Nat.le_of_ble_eq_true rfl) (Nat.le_of_ble_eq_true rfl) rfl rfl ?_
  refine x_bipush 176 (10) i115_176 rfl ?_
  refine x_bipush 178 (6) i115_178 rfl ?_
  refine x_iload_n 180 i115_180 rfl ?_
  refine y_imul 181 (30) i115_181 rfl ?_
  refine y_iadd 182 (40) i115_182 rfl ?_
  refine x_iconst 183 (3) i115_183 rfl ?_
  refine y_iadd 184 (43) i115_184 rfl ?_
  refine x_iconst 185 (-1) i115_185 rfl ?_
  refine y_iastore 186 43 706 i115_186 rfl (Nat.le_of_ble_eq_true rfl) (Nat.le_of_ble_eq_true rfl) rfl rfl (Nat.le_of_ble_eq_true rfl) (Nat.le_of_ble_eq_true rfl) ?_
  refine x_iinc 187 (6) (ls2 := [.ref 67, .int (6)]) i115_187 rfl (Nat.le_of_ble_eq_true rfl) rfl rfl ?_
  refine x_goto 190 166 i115_190 rfl ?_
  refine x_iload_n 166 i115_166 rfl ?_
  refine x_bipush 167 (6) i115_167 rfl ?_
  refine x_icmp_ge 169 193 i115_169 rfl (fun _ => ?_) (fun c => absurd c (by decide))
  refine x_aload_n 193 i115_193 rfl ?_
  refine x_getR 194 68 i115_194 rfl (Nat.le_of_ble_eq_true rfl) (Nat.le_of_ble_eq_true rfl) rfl rfl ?_
  refine x_aload_n 197 i115_197 rfl ?_
  refine x_getR 198 69 i115_198 rfl (Nat.le_of_ble_eq_true rfl) (Nat.le_of_ble_eq_true rfl) rfl rfl ?_
  refine x_cs 201 (as := [.ref 68, .ref 69]) (rs := []) i115_201 rfl rfl rfl rfl (Nat.le_of_ble_eq_true rfl) (Nat.le_of_ble_eq_true rfl) rfl rfl (c_cpMi hg (fun b hb => ?_))
  exact x_vret 204 i115_204 rfl (kk b hb)
