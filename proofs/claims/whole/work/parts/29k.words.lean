/-! the model looks at words -/
def t_kw (i : Nat) : Int64 := Int64.ofNat (t_pr (t_wds.getD i []).reverse)
section
variable {d n sl : Nat} {ln : Nat → Nat} {di : Nat → Nat → Int32} {dl : Nat → Nat → Int64} {dr : Nat → Nat → Option Nat} {Q : Option Value → q_H → Prop} {N : Nat} {bt : Nat → Int32} {p q : Nat} {c : Int32}
theorem c_k0 (hg : q_Gr n ln dr) (kk : Q (some (.long (t_kw 0))) (n, sl, ln, di, dl, dr)) : q_EX q_KD d 135 0 [.int 119, .int 105, .int 116] [] (n, sl, ln, di, dl, dr) Q := by
  have e : (((((119 : Int32).toInt64 <<< ((8 : Int32).toInt64 &&& 63)) ||| (105 : Int32).toInt64) <<< ((8 : Int32).toInt64 &&& 63)) ||| (116 : Int32).toInt64) = t_kw 0 := by decide +kernel
  refine g135_0 hg ?_
  rw [e]; exact kk
theorem c_k1 (hg : q_Gr n ln dr) (kk : Q (some (.long (t_kw 1))) (n, sl, ln, di, dl, dr)) : q_EX q_KD (d + 1) 134 0 [.int 115, .int 104, .int 97, .int 109, .int 101] [] (n, sl, ln, di, dl, dr) Q := by
  have e : (((((((((115 : Int32).toInt64 <<< ((8 : Int32).toInt64 &&& 63)) ||| (104 : Int32).toInt64) <<< ((8 : Int32).toInt64 &&& 63)) ||| (97 : Int32).toInt64) <<< ((8 : Int32).toInt64 &&& 63)) ||| (109 : Int32).toInt64) <<< ((8 : Int32).toInt64 &&& 63)) ||| (101 : Int32).toInt64) = t_kw 1 := by decide +kernel
  refine g134_0 hg (g135_0 hg (g134_6 hg ?_))
  rw [e]; exact kk
theorem c_k2 (hg : q_Gr n ln dr) (kk : Q (some (.long (t_kw 2))) (n, sl, ln, di, dl, dr)) : q_EX q_KD d 135 0 [.int 114, .int 111, .int 119] [] (n, sl, ln, di, dl, dr) Q := by
  have e : (((((114 : Int32).toInt64 <<< ((8 : Int32).toInt64 &&& 63)) ||| (111 : Int32).toInt64) <<< ((8 : Int32).toInt64 &&& 63)) ||| (119 : Int32).toInt64) = t_kw 2 := by decide +kernel
  refine g135_0 hg ?_
  rw [e]; exact kk
theorem c_k3 (hg : q_Gr n ln dr) (kk : Q (some (.long (t_kw 3))) (n, sl, ln, di, dl, dr)) : q_EX q_KD (d + 1) 137 0 [.int 115, .int 111, .int 114, .int 116] [] (n, sl, ln, di, dl, dr) Q := by
  have e : (((((((115 : Int32).toInt64 <<< ((8 : Int32).toInt64 &&& 63)) ||| (111 : Int32).toInt64) <<< ((8 : Int32).toInt64 &&& 63)) ||| (114 : Int32).toInt64) <<< ((8 : Int32).toInt64 &&& 63)) ||| (116 : Int32).toInt64) = t_kw 3 := by decide +kernel
  refine g137_0 hg (g135_0 hg (g137_6 hg ?_))
  rw [e]; exact kk
theorem c_k4 (hg : q_Gr n ln dr) (kk : Q (some (.long (t_kw 4))) (n, sl, ln, di, dl, dr)) : q_EX q_KD (d + 1) 134 0 [.int 112, .int 111, .int 119, .int 101, .int 114] [] (n, sl, ln, di, dl, dr) Q := by
  have e : (((((((((112 : Int32).toInt64 <<< ((8 : Int32).toInt64 &&& 63)) ||| (111 : Int32).toInt64) <<< ((8 : Int32).toInt64 &&& 63)) ||| (119 : Int32).toInt64) <<< ((8 : Int32).toInt64 &&& 63)) ||| (101 : Int32).toInt64) <<< ((8 : Int32).toInt64 &&& 63)) ||| (114 : Int32).toInt64) = t_kw 4 := by decide +kernel
  refine g134_0 hg (g135_0 hg (g134_6 hg ?_))
  rw [e]; exact kk
theorem c_k5 (hg : q_Gr n ln dr) (kk : Q (some (.long (t_kw 5))) (n, sl, ln, di, dl, dr)) : q_EX q_KD (d + 1) 137 0 [.int 110, .int 101, .int 97, .int 114] [] (n, sl, ln, di, dl, dr) Q := by
  have e : (((((((110 : Int32).toInt64 <<< ((8 : Int32).toInt64 &&& 63)) ||| (101 : Int32).toInt64) <<< ((8 : Int32).toInt64 &&& 63)) ||| (97 : Int32).toInt64) <<< ((8 : Int32).toInt64 &&& 63)) ||| (114 : Int32).toInt64) = t_kw 5 := by decide +kernel
  refine g137_0 hg (g135_0 hg (g137_6 hg ?_))
  rw [e]; exact kk
theorem c_k6 (hg : q_Gr n ln dr) (kk : Q (some (.long (t_kw 6))) (n, sl, ln, di, dl, dr)) : q_EX q_KD d 135 0 [.int 97, .int 108, .int 108] [] (n, sl, ln, di, dl, dr) Q := by
  have e : (((((97 : Int32).toInt64 <<< ((8 : Int32).toInt64 &&& 63)) ||| (108 : Int32).toInt64) <<< ((8 : Int32).toInt64 &&& 63)) ||| (108 : Int32).toInt64) = t_kw 6 := by decide +kernel
  refine g135_0 hg ?_
  rw [e]; exact kk
theorem c_k8 (hg : q_Gr n ln dr) (kk : Q (some (.long (t_kw 8))) (n, sl, ln, di, dl, dr)) : q_EX q_KD (d + 2) 133 0 [.int 114, .int 111, .int 117, .int 110, .int 100, .int 115] [] (n, sl, ln, di, dl, dr) Q := by
  have e : (((((((((((114 : Int32).toInt64 <<< ((8 : Int32).toInt64 &&& 63)) ||| (111 : Int32).toInt64) <<< ((8 : Int32).toInt64 &&& 63)) ||| (117 : Int32).toInt64) <<< ((8 : Int32).toInt64 &&& 63)) ||| (110 : Int32).toInt64) <<< ((8 : Int32).toInt64 &&& 63)) ||| (100 : Int32).toInt64) <<< ((8 : Int32).toInt64 &&& 63)) ||| (115 : Int32).toInt64) = t_kw 8 := by decide +kernel
  refine g133_0 hg (g134_0 hg (g135_0 hg (g134_6 hg (g133_9 hg ?_))))
  rw [e]; exact kk
theorem c_k9 (hg : q_Gr n ln dr) (kk : Q (some (.long (t_kw 9))) (n, sl, ln, di, dl, dr)) : q_EX q_KD (d + 2) 133 0 [.int 99, .int 111, .int 117, .int 103, .int 104, .int 115] [] (n, sl, ln, di, dl, dr) Q := by
  have e : (((((((((((99 : Int32).toInt64 <<< ((8 : Int32).toInt64 &&& 63)) ||| (111 : Int32).toInt64) <<< ((8 : Int32).toInt64 &&& 63)) ||| (117 : Int32).toInt64) <<< ((8 : Int32).toInt64 &&& 63)) ||| (103 : Int32).toInt64) <<< ((8 : Int32).toInt64 &&& 63)) ||| (104 : Int32).toInt64) <<< ((8 : Int32).toInt64 &&& 63)) ||| (115 : Int32).toInt64) = t_kw 9 := by decide +kernel
  refine g133_0 hg (g134_0 hg (g135_0 hg (g134_6 hg (g133_9 hg ?_))))
  rw [e]; exact kk
theorem c_k10 (hg : q_Gr n ln dr) (kk : Q (some (.long (t_kw 10))) (n, sl, ln, di, dl, dr)) : q_EX q_KD (d + 1) 137 0 [.int 98, .int 105, .int 108, .int 108] [] (n, sl, ln, di, dl, dr) Q := by
  have e : (((((((98 : Int32).toInt64 <<< ((8 : Int32).toInt64 &&& 63)) ||| (105 : Int32).toInt64) <<< ((8 : Int32).toInt64 &&& 63)) ||| (108 : Int32).toInt64) <<< ((8 : Int32).toInt64 &&& 63)) ||| (108 : Int32).toInt64) = t_kw 10 := by decide +kernel
  refine g137_0 hg (g135_0 hg (g137_6 hg ?_))
  rw [e]; exact kk
theorem c_k11 (hg : q_Gr n ln dr) (kk : Q (some (.long (t_kw 11))) (n, sl, ln, di, dl, dr)) : q_EX q_KD (d + 2) 133 0 [.int 112, .int 101, .int 111, .int 112, .int 108, .int 101] [] (n, sl, ln, di, dl, dr) Q := by
  have e : (((((((((((112 : Int32).toInt64 <<< ((8 : Int32).toInt64 &&& 63)) ||| (101 : Int32).toInt64) <<< ((8 : Int32).toInt64 &&& 63)) ||| (111 : Int32).toInt64) <<< ((8 : Int32).toInt64 &&& 63)) ||| (112 : Int32).toInt64) <<< ((8 : Int32).toInt64 &&& 63)) ||| (108 : Int32).toInt64) <<< ((8 : Int32).toInt64 &&& 63)) ||| (101 : Int32).toInt64) = t_kw 11 := by decide +kernel
  refine g133_0 hg (g134_0 hg (g135_0 hg (g134_6 hg (g133_9 hg ?_))))
  rw [e]; exact kk
theorem c_k12 (hg : q_Gr n ln dr) (kk : Q (some (.long (t_kw 12))) (n, sl, ln, di, dl, dr)) : q_EX q_KD (d + 1) 134 0 [.int 111, .int 102, .int 116, .int 101, .int 110] [] (n, sl, ln, di, dl, dr) Q := by
  have e : (((((((((111 : Int32).toInt64 <<< ((8 : Int32).toInt64 &&& 63)) ||| (102 : Int32).toInt64) <<< ((8 : Int32).toInt64 &&& 63)) ||| (116 : Int32).toInt64) <<< ((8 : Int32).toInt64 &&& 63)) ||| (101 : Int32).toInt64) <<< ((8 : Int32).toInt64 &&& 63)) ||| (110 : Int32).toInt64) = t_kw 12 := by decide +kernel
  refine g134_0 hg (g135_0 hg (g134_6 hg ?_))
  rw [e]; exact kk
theorem c_k14 (hg : q_Gr n ln dr) (kk : Q (some (.long (t_kw 14))) (n, sl, ln, di, dl, dr)) : q_EX q_KD (d + 2) 133 0 [.int 108, .int 97, .int 117, .int 103, .int 104, .int 115] [] (n, sl, ln, di, dl, dr) Q := by
  have e : (((((((((((108 : Int32).toInt64 <<< ((8 : Int32).toInt64 &&& 63)) ||| (97 : Int32).toInt64) <<< ((8 : Int32).toInt64 &&& 63)) ||| (117 : Int32).toInt64) <<< ((8 : Int32).toInt64 &&& 63)) ||| (103 : Int32).toInt64) <<< ((8 : Int32).toInt64 &&& 63)) ||| (104 : Int32).toInt64) <<< ((8 : Int32).toInt64 &&& 63)) ||| (115 : Int32).toInt64) = t_kw 14 := by decide +kernel
  refine g133_0 hg (g134_0 hg (g135_0 hg (g134_6 hg (g133_9 hg ?_))))
  rw [e]; exact kk
theorem c_k15 (hg : q_Gr n ln dr) (kk : Q (some (.long (t_kw 15))) (n, sl, ln, di, dl, dr)) : q_EX q_KD (d + 1) 137 0 [.int 108, .int 111, .int 117, .int 100] [] (n, sl, ln, di, dl, dr) Q := by
  have e : (((((((108 : Int32).toInt64 <<< ((8 : Int32).toInt64 &&& 63)) ||| (111 : Int32).toInt64) <<< ((8 : Int32).toInt64 &&& 63)) ||| (117 : Int32).toInt64) <<< ((8 : Int32).toInt64 &&& 63)) ||| (100 : Int32).toInt64) = t_kw 15 := by decide +kernel
  refine g137_0 hg (g135_0 hg (g137_6 hg ?_))
  rw [e]; exact kk
theorem c_k16 (hg : q_Gr n ln dr) (kk : Q (some (.long (t_kw 16))) (n, sl, ln, di, dl, dr)) : q_EX q_KD (d + 1) 137 0 [.int 100, .int 117, .int 101, .int 115] [] (n, sl, ln, di, dl, dr) Q := by
  have e : (((((((100 : Int32).toInt64 <<< ((8 : Int32).toInt64 &&& 63)) ||| (117 : Int32).toInt64) <<< ((8 : Int32).toInt64 &&& 63)) ||| (101 : Int32).toInt64) <<< ((8 : Int32).toInt64 &&& 63)) ||| (115 : Int32).toInt64) = t_kw 16 := by decide +kernel
  refine g137_0 hg (g135_0 hg (g137_6 hg ?_))
  rw [e]; exact kk
theorem c_k17 (hg : q_Gr n ln dr) (kk : Q (some (.long (t_kw 17))) (n, sl, ln, di, dl, dr)) : q_EX q_KD (d + 1) 137 0 [.int 115, .int 101, .int 97, .int 116] [] (n, sl, ln, di, dl, dr) Q := by
  have e : (((((((115 : Int32).toInt64 <<< ((8 : Int32).toInt64 &&& 63)) ||| (101 : Int32).toInt64) <<< ((8 : Int32).toInt64 &&& 63)) ||| (97 : Int32).toInt64) <<< ((8 : Int32).toInt64 &&& 63)) ||| (116 : Int32).toInt64) = t_kw 17 := by decide +kernel
  refine g137_0 hg (g135_0 hg (g137_6 hg ?_))
  rw [e]; exact kk
theorem c_k18 (hg : q_Gr n ln dr) (kk : Q (some (.long (t_kw 18))) (n, sl, ln, di, dl, dr)) : q_EX q_KD d 135 0 [.int 111, .int 117, .int 116] [] (n, sl, ln, di, dl, dr) Q := by
  have e : (((((111 : Int32).toInt64 <<< ((8 : Int32).toInt64 &&& 63)) ||| (117 : Int32).toInt64) <<< ((8 : Int32).toInt64 &&& 63)) ||| (116 : Int32).toInt64) = t_kw 18 := by decide +kernel
  refine g135_0 hg ?_
  rw [e]; exact kk
theorem c_k19 (hg : q_Gr n ln dr) (kk : Q (some (.long (t_kw 19))) (n, sl, ln, di, dl, dr)) : q_EX q_KD (d + 1) 137 0 [.int 104, .int 105, .int 114, .int 101] [] (n, sl, ln, di, dl, dr) Q := by
  have e : (((((((104 : Int32).toInt64 <<< ((8 : Int32).toInt64 &&& 63)) ||| (105 : Int32).toInt64) <<< ((8 : Int32).toInt64 &&& 63)) ||| (114 : Int32).toInt64) <<< ((8 : Int32).toInt64 &&& 63)) ||| (101 : Int32).toInt64) = t_kw 19 := by decide +kernel
  refine g137_0 hg (g135_0 hg (g137_6 hg ?_))
  rw [e]; exact kk
theorem c_k20 (hg : q_Gr n ln dr) (kk : Q (some (.long (t_kw 20))) (n, sl, ln, di, dl, dr)) : q_EX q_KD (d + 1) 134 0 [.int 110, .int 105, .int 103, .int 104, .int 116] [] (n, sl, ln, di, dl, dr) Q := by
  have e : (((((((((110 : Int32).toInt64 <<< ((8 : Int32).toInt64 &&& 63)) ||| (105 : Int32).toInt64) <<< ((8 : Int32).toInt64 &&& 63)) ||| (103 : Int32).toInt64) <<< ((8 : Int32).toInt64 &&& 63)) ||| (104 : Int32).toInt64) <<< ((8 : Int32).toInt64 &&& 63)) ||| (116 : Int32).toInt64) = t_kw 20 := by decide +kernel
  refine g134_0 hg (g135_0 hg (g134_6 hg ?_))
  rw [e]; exact kk
theorem c_k23 (hg : q_Gr n ln dr) (kk : Q (some (.long (t_kw 23))) (n, sl, ln, di, dl, dr)) : q_EX q_KD d 135 0 [.int 97, .int 110, .int 100] [] (n, sl, ln, di, dl, dr) Q := by
  have e : (((((97 : Int32).toInt64 <<< ((8 : Int32).toInt64 &&& 63)) ||| (110 : Int32).toInt64) <<< ((8 : Int32).toInt64 &&& 63)) ||| (100 : Int32).toInt64) = t_kw 23 := by decide +kernel
  refine g135_0 hg ?_
  rw [e]; exact kk
theorem c_k24 (hg : q_Gr n ln dr) (kk : Q (some (.long (t_kw 24))) (n, sl, ln, di, dl, dr)) : q_EX q_KD d 135 0 [.int 110, .int 111, .int 116] [] (n, sl, ln, di, dl, dr) Q := by
  have e : (((((110 : Int32).toInt64 <<< ((8 : Int32).toInt64 &&& 63)) ||| (111 : Int32).toInt64) <<< ((8 : Int32).toInt64 &&& 63)) ||| (116 : Int32).toInt64) = t_kw 24 := by decide +kernel
  refine g135_0 hg ?_
  rw [e]; exact kk
theorem c_isW {i : Nat} (hi : i < 25) (h7 : ¬ i = 7) (h : t_ms (di 67) (dl 67 11) N bt p c q) (hg : q_Gr n ln dr) (k1 : c = nI (200 + i) → Q (some (.int 1)) (n, sl, ln, di, dl, dr)) (k0 : ¬ c = nI (200 + i) → Q (some (.int 0)) (n, sl, ln, di, dl, dr)) : q_EX q_KD d 136 0 [.ref 67, .long (t_kw i), .retAddr 0] [] (n, sl, ln, di, dl, dr) Q := by
  have hw := t_msw h hi h7
  refine g136_0 hg (fun w => k0 (fun z => w (hw.mpr z).1)) (fun w1 w2 => k0 (fun z => w2 ((w_cmp0 _ _).mpr (hw.mpr z).2))) (fun w1 w2 => k1 (hw.mp ⟨w1, (w_cmp0 _ _).mp w2⟩))
/-- the clause's sort by its word -/
theorem c_sortOf (h : t_ms (di 67) (dl 67 11) N bt p c q) (hg : q_Gr n ln dr) (k1 : ∀ so, so ≤ 6 → c = nI (214 + so) → Q (some (.int (nI so))) (n, sl, ln, di, dl, dr)) (k0 : (∀ so, so ≤ 6 → ¬ c = nI (214 + so)) → Q (some (.int (-1))) (n, sl, ln, di, dl, dr)) : q_EX q_KD (d + 3) 132 0 [.ref 67] [] (n, sl, ln, di, dl, dr) Q := by
  refine g132_0 hg (c_k14 (d := d) hg (g132_16 hg (c_isW (i := 14) (by decide) (by decide) h hg (fun e => g132_19 hg (fun w => absurd w (by decide)) (fun _ => k1 0 (by decide) e)) (fun n0 => g132_19 hg (fun _ => c_k15 (d := d + 1) hg (g132_36 hg (c_isW (i := 15) (by decide) (by decide) h hg (fun e => g132_39 hg (fun w => absurd w (by decide)) (fun _ => k1 1 (by decide) e)) (fun n1 => g132_39 hg (fun _ => c_k16 (d := d + 1) hg (g132_56 hg (c_isW (i := 16) (by decide) (by decide) h hg (fun e => g132_59 hg (fun w => absurd w (by decide)) (fun _ => k1 2 (by decide) e)) (fun n2 => g132_59 hg (fun _ => c_k17 (d := d + 1) hg (g132_76 hg (c_isW (i := 17) (by decide) (by decide) h hg (fun e => g132_79 hg (fun w => absurd w (by decide)) (fun _ => k1 3 (by decide) e)) (fun n3 => g132_79 hg (fun _ => c_k18 (d := d + 2) hg (g132_94 hg (c_isW (i := 18) (by decide) (by decide) h hg (fun e => g132_97 hg (fun w => absurd w (by decide)) (fun _ => k1 4 (by decide) e)) (fun n4 => g132_97 hg (fun _ => c_k19 (d := d + 1) hg (g132_114 hg (c_isW (i := 19) (by decide) (by decide) h hg (fun e => g132_117 hg (fun w => absurd w (by decide)) (fun _ => k1 5 (by decide) e)) (fun n5 => g132_117 hg (fun _ => c_k20 (d := d + 1) hg (g132_138 hg (c_isW (i := 20) (by decide) (by decide) h hg (fun e => g132_141 hg (fun w => absurd w (by decide)) (fun _ => k1 6 (by decide) e)) (fun n6 => g132_141 hg (fun _ => k0 (fun so hso e => ?_)) (fun w => absurd rfl w))))) (fun w => absurd rfl w))))) (fun w => absurd rfl w))))) (fun w => absurd rfl w))))) (fun w => absurd rfl w))))) (fun w => absurd rfl w))))) (fun w => absurd rfl w)))))
  match so, hso, e with
  | 0, _, e => exact n0 e
  | 1, _, e => exact n1 e
  | 2, _, e => exact n2 e
  | 3, _, e => exact n3 e
  | 4, _, e => exact n4 e
  | 5, _, e => exact n5 e
  | 6, _, e => exact n6 e
theorem t_lgh (bt : Nat → Int32) (p : Nat) : t_lst bt 8 p = [108, 97, 117, 103, 104, 105, 110, 103] ↔ (bt p).toNatClampNeg = 108 ∧ (bt (p + 1)).toNatClampNeg = 97 ∧ (bt (p + 2)).toNatClampNeg = 117 ∧ (bt (p + 3)).toNatClampNeg = 103 ∧ (bt (p + 4)).toNatClampNeg = 104 ∧ (bt (p + 5)).toNatClampNeg = 105 ∧ (bt (p + 6)).toNatClampNeg = 110 ∧ (bt (p + 7)).toNatClampNeg = 103 := by
  have e : t_lst bt 8 p = [(bt p).toNatClampNeg, (bt (p + 1)).toNatClampNeg, (bt (p + 2)).toNatClampNeg, (bt (p + 3)).toNatClampNeg, (bt (p + 4)).toNatClampNeg, (bt (p + 5)).toNatClampNeg, (bt (p + 6)).toNatClampNeg, (bt (p + 7)).toNatClampNeg] := rfl
  rw [e]
  simp only [List.cons.injEq, and_true]
theorem c_lgh (hN : N ≤ 300) (h4 : di 67 4 = nI N) (hb : ∀ i, i < N → di 71 i = bt i) (h : t_ms (di 67) (dl 67 11) N bt p c q) (h2 : di 67 9 = 2) (hg : q_Gr n ln dr) (k1 : c = nI 207 → Q (some (.int 1)) (n, sl, ln, di, dl, dr)) (k0 : ¬ c = nI 207 → Q (some (.int 0)) (n, sl, ln, di, dl, dr)) : q_EX q_KD (d + 1) 150 0 [.ref 67] [] (n, sl, ln, di, dl, dr) Q := by
  have h0 := h
  have hcl := t_cl h
  unfold t_isg at hcl
  obtain ⟨f1, f2, f3, f4, f5, f6, f7, f8, f9⟩ := h
  have hle : p < N ∧ t_le (bt p) ∧ t_re (t_pl N bt) p q ∧ c = t_wd (t_lst bt (q - p) p) := by
    rcases f5 with ⟨a1, a2, a3⟩ | ⟨a1, a2, a3, a4⟩ | ⟨a1, a2, a3, a4⟩ | ⟨a1, a2, a3, a4, a5, a6⟩
    · rw [f6 a1] at h2; exact absurd h2 (by decide)
    · exact ⟨a1, a2, a3, a4⟩
    · rw [(f8 a1 a2).1] at h2; exact absurd h2 (by decide)
    · exfalso
      have e9 := f9 a1 a2 a3
      rw [e9] at h2
      unfold t_sm at h2
      by_cases z1 : bt p = 60
      · rw [if_pos z1] at h2
        by_cases z2 : t_by N bt (p + 1) = 61
        · rw [if_pos z2] at h2; exact absurd h2 (by decide)
        · rw [if_neg z2, z1] at h2; exact absurd h2 (by decide)
      · rw [if_neg z1] at h2
        by_cases z3 : bt p = 62
        · rw [if_pos z3] at h2
          by_cases z2 : t_by N bt (p + 1) = 61
          · rw [if_pos z2] at h2; exact absurd h2 (by decide)
          · rw [if_neg z2, z3] at h2; exact absurd h2 (by decide)
        · rw [if_neg z3] at h2
          by_cases z4 : bt p = 61 ∨ bt p = 35 ∨ bt p = 43 ∨ bt p = 45 ∨ bt p = 42 ∨ bt p = 47 ∨ bt p = 40 ∨ bt p = 41 ∨ bt p = 59
          · rw [if_pos z4] at h2
            rcases z4 with y | y | y | y | y | y | y | y | y <;> (rw [y] at h2; exact absurd h2 (by decide))
          · rw [if_neg z4] at h2; exact absurd h2 (by decide)
  obtain ⟨a1, a2, a3, a4⟩ := hle
  have hpq := a3.1
  have hiff : c = nI 207 ↔ t_lst bt (q - p) p = [108, 97, 117, 103, 104, 105, 110, 103] := by
    constructor
    · intro e
      rw [a4] at e
      rcases t_wd_e (t_lst bt (q - p) p) with g | ⟨j, g1, g2, g3⟩
      · rw [g] at e; exact absurd e (by decide)
      · rw [g2] at e
        have ej : j = 7 := by have := (nI_eq (b := 207) (by omega) (by decide)).mp e; omega
        subst ej
        rw [← g3]; rfl
    · intro e
      rw [a4, e]
      exact t_wdI 7 (by decide)
  have esub : di 67 7 - di 67 8 = nI (q - p) := by rw [f1, f2, show q = (q - p) + p by omega, ← nI_add, Int32.add_sub_cancel, Nat.add_sub_cancel]
  have hlen := t_lst_len bt (q - p) p
  by_cases h8 : q - p = 8
  · have h88 : (8 : Int32) = nI 8 := rfl
    rw [h8, t_lgh] at hiff
    have key : ∀ k x, k < 8 → x < 256 → (t_by N bt (p + k) = nI x ↔ (bt (p + k)).toNatClampNeg = x) := fun k x hk hx => by
      have hl := a3.2.1 (p + k) (by omega) (by omega)
      obtain ⟨v, v1, v2, v3⟩ := t_leN hl.2
      have e : t_by N bt (p + k) = bt (p + k) := by unfold t_by; rw [if_pos hl.1]
      rw [e, v3, nI_clamp (by omega)]
      exact nI_eq (by omega) (by omega)
    have kz := key 0 108 (by decide) (by decide)
    rw [Nat.add_zero] at kz
    have e8 : ∀ k : Nat, di 67 8 + nI k = nI (p + k) := fun k => by rw [f2, nI_add]
    have by8 : ∀ (k : Nat) (Q' : Option Value → q_H → Prop), k < 8 → Q' (some (.int (t_by N bt (p + k)))) (n, sl, ln, di, dl, dr) → q_EX q_KD d 128 0 [.ref 67, .int (di 67 8 + nI k)] [] (n, sl, ln, di, dl, dr) Q' := fun k Q' hk kk => by
      rw [e8 k]; exact c_byte (N := N) (bt := bt) hN (by omega) h4 hb hg kk
    refine g150_0 hg (fun w => absurd (by rw [esub, h8]; rfl) w) (fun _ => ?_)
    rw [f2]
    refine c_byte (N := N) (bt := bt) hN (by omega) h4 hb hg (g150_22 hg (fun w => k0 (fun z => w (kz.mpr (hiff.mp z).1))) (fun w0 => by8 1 _ (by decide) (g150_37 hg (fun w => k0 (fun z => w ((key 1 97 (by decide) (by decide)).mpr (hiff.mp z).2.1))) (fun w1 => by8 2 _ (by decide) (g150_52 hg (fun w => k0 (fun z => w ((key 2 117 (by decide) (by decide)).mpr (hiff.mp z).2.2.1))) (fun w2 => by8 3 _ (by decide) (g150_67 hg (fun w3 => by8 4 _ (by decide) (g150_84 hg (fun w => k0 (fun z => w ((key 4 104 (by decide) (by decide)).mpr (hiff.mp z).2.2.2.2.1))) (fun w4 => by8 5 _ (by decide) (g150_99 hg (fun w => k0 (fun z => w ((key 5 105 (by decide) (by decide)).mpr (hiff.mp z).2.2.2.2.2.1))) (fun w5 => by8 6 _ (by decide) (g150_115 hg (fun w => k0 (fun z => w ((key 6 110 (by decide) (by decide)).mpr (hiff.mp z).2.2.2.2.2.2.1))) (fun w6 => by8 7 _ (by decide) (g150_131 hg (fun w => k0 (fun z => w ((key 7 103 (by decide) (by decide)).mpr (hiff.mp z).2.2.2.2.2.2.2))) (fun w7 => k1 (hiff.mpr ⟨kz.mp w0, (key 1 97 (by decide) (by decide)).mp w1, (key 2 117 (by decide) (by decide)).mp w2, (key 3 103 (by decide) (by decide)).mp w3, (key 4 104 (by decide) (by decide)).mp w4, (key 5 105 (by decide) (by decide)).mp w5, (key 6 110 (by decide) (by decide)).mp w6, (key 7 103 (by decide) (by decide)).mp w7⟩)))))))))) (fun w => k0 (fun z => w ((key 3 103 (by decide) (by decide)).mpr (hiff.mp z).2.2.2.1))))))))))
  · refine g150_0 hg (fun _ => k0 (fun z => h8 ?_)) (fun w => ?_)
    · have := hiff.mp z
      rw [← hlen, this]; rfl
    · rw [esub] at w
      exact absurd ((nI_eq (b := 8) (by omega) (by decide)).mp w) h8
end
