/-- row by row of method i -/
def q_OK (i : Nat) : Prop := ∀ pc ins len lk, q_ins i pc = some (ins, len, lk) → decode (q_cd i) pc = .ok (ins, len) ∧ q_okI i ins lk = true
theorem q_at_lt {α : Type} : ∀ {l : List (Option α)} {n : Nat} {e : α}, q_at l n = some e → l[n]? = some (some e)
  | [], _, _, h => by simp [q_at] at h
  | x :: r, 0, e, h => by simp [q_at] at h; simp [h]
  | x :: r, n + 1, e, h => by simp [q_at] at h; simpa using q_at_lt h
theorem q_chR_spec {i a b : Nat} (h : q_chR i a b = true) {pc : Nat} (h1 : a ≤ pc) (h2 : pc < a + b) {ins : Instr} {len : Nat} {lk : q_LK} (he : q_ins i pc = some (ins, len, lk)) : decode (q_cd i) pc = .ok (ins, len) ∧ q_okI i ins lk = true := by
  have e1 := q_at_lt he
  unfold q_chR at h
  rw [List.all_eq_true] at h
  have hm : (some (ins, len, lk), pc - a) ∈ (((q_cs i).drop a).take b).zipIdx := by
    rw [List.mem_zipIdx_iff_getElem?, List.getElem?_take, if_pos (by omega), List.getElem?_drop, show a + (pc - a) = pc by omega]
    exact e1
  have h3 := h _ hm
  simp only [Bool.and_eq_true, decide_eq_true_eq] at h3
  rw [show a + (pc - a) = pc by omega] at h3
  exact h3
theorem q_cov {i n : Nat} (hl : (q_cs i).length ≤ 100 * n) (h : ∀ k, k < n → q_chR i (100 * k) 100 = true) : q_OK i := by
  intro pc ins len lk he
  have e1 := q_at_lt he
  have hlt : pc < (q_cs i).length := (List.getElem?_eq_some_iff.mp e1).1
  exact q_chR_spec (h (pc / 100) (by omega)) (by omega) (by omega) he
theorem q_k0_0 : q_chR 0 (100 * 0) 100 = true := by decide +kernel
theorem q_k0_1 : q_chR 0 (100 * 1) 100 = true := by decide +kernel
theorem q_k0_2 : q_chR 0 (100 * 2) 100 = true := by decide +kernel
theorem q_k0_3 : q_chR 0 (100 * 3) 100 = true := by decide +kernel
theorem q_k0_4 : q_chR 0 (100 * 4) 100 = true := by decide +kernel
theorem q_k0_5 : q_chR 0 (100 * 5) 100 = true := by decide +kernel
theorem q_k0_6 : q_chR 0 (100 * 6) 100 = true := by decide +kernel
theorem q_k0_7 : q_chR 0 (100 * 7) 100 = true := by decide +kernel
theorem q_k0_8 : q_chR 0 (100 * 8) 100 = true := by decide +kernel
theorem q_m0 : q_OK 0 := q_cov (n := 9) (by decide +kernel) (lt_s (lt_s (lt_s (lt_s (lt_s (lt_s (lt_s (lt_s (lt_s lt_0 q_k0_0) q_k0_1) q_k0_2) q_k0_3) q_k0_4) q_k0_5) q_k0_6) q_k0_7) q_k0_8)
theorem q_k1_0 : q_chR 1 (100 * 0) 100 = true := by decide +kernel
theorem q_k1_1 : q_chR 1 (100 * 1) 100 = true := by decide +kernel
theorem q_m1 : q_OK 1 := q_cov (n := 2) (by decide +kernel) (lt_s (lt_s lt_0 q_k1_0) q_k1_1)
theorem q_k2_0 : q_chR 2 (100 * 0) 100 = true := by decide +kernel
theorem q_k2_1 : q_chR 2 (100 * 1) 100 = true := by decide +kernel
theorem q_m2 : q_OK 2 := q_cov (n := 2) (by decide +kernel) (lt_s (lt_s lt_0 q_k2_0) q_k2_1)
theorem q_k3_0 : q_chR 3 (100 * 0) 100 = true := by decide +kernel
theorem q_m3 : q_OK 3 := q_cov (n := 1) (by decide +kernel) (lt_s lt_0 q_k3_0)
theorem q_k4_0 : q_chR 4 (100 * 0) 100 = true := by decide +kernel
theorem q_k4_1 : q_chR 4 (100 * 1) 100 = true := by decide +kernel
theorem q_m4 : q_OK 4 := q_cov (n := 2) (by decide +kernel) (lt_s (lt_s lt_0 q_k4_0) q_k4_1)
theorem q_k5_0 : q_chR 5 (100 * 0) 100 = true := by decide +kernel
theorem q_m5 : q_OK 5 := q_cov (n := 1) (by decide +kernel) (lt_s lt_0 q_k5_0)
theorem q_k6_0 : q_chR 6 (100 * 0) 100 = true := by decide +kernel
theorem q_m6 : q_OK 6 := q_cov (n := 1) (by decide +kernel) (lt_s lt_0 q_k6_0)
theorem q_k7_0 : q_chR 7 (100 * 0) 100 = true := by decide +kernel
theorem q_m7 : q_OK 7 := q_cov (n := 1) (by decide +kernel) (lt_s lt_0 q_k7_0)
theorem q_k8_0 : q_chR 8 (100 * 0) 100 = true := by decide +kernel
theorem q_m8 : q_OK 8 := q_cov (n := 1) (by decide +kernel) (lt_s lt_0 q_k8_0)
theorem q_k9_0 : q_chR 9 (100 * 0) 100 = true := by decide +kernel
theorem q_m9 : q_OK 9 := q_cov (n := 1) (by decide +kernel) (lt_s lt_0 q_k9_0)
theorem q_k10_0 : q_chR 10 (100 * 0) 100 = true := by decide +kernel
theorem q_m10 : q_OK 10 := q_cov (n := 1) (by decide +kernel) (lt_s lt_0 q_k10_0)
theorem q_k11_0 : q_chR 11 (100 * 0) 100 = true := by decide +kernel
theorem q_m11 : q_OK 11 := q_cov (n := 1) (by decide +kernel) (lt_s lt_0 q_k11_0)
theorem q_k12_0 : q_chR 12 (100 * 0) 100 = true := by decide +kernel
theorem q_m12 : q_OK 12 := q_cov (n := 1) (by decide +kernel) (lt_s lt_0 q_k12_0)
theorem q_k13_0 : q_chR 13 (100 * 0) 100 = true := by decide +kernel
theorem q_m13 : q_OK 13 := q_cov (n := 1) (by decide +kernel) (lt_s lt_0 q_k13_0)
theorem q_k14_0 : q_chR 14 (100 * 0) 100 = true := by decide +kernel
theorem q_m14 : q_OK 14 := q_cov (n := 1) (by decide +kernel) (lt_s lt_0 q_k14_0)
theorem q_k15_0 : q_chR 15 (100 * 0) 100 = true := by decide +kernel
theorem q_m15 : q_OK 15 := q_cov (n := 1) (by decide +kernel) (lt_s lt_0 q_k15_0)
theorem q_k16_0 : q_chR 16 (100 * 0) 100 = true := by decide +kernel
theorem q_m16 : q_OK 16 := q_cov (n := 1) (by decide +kernel) (lt_s lt_0 q_k16_0)
theorem q_k17_0 : q_chR 17 (100 * 0) 100 = true := by decide +kernel
theorem q_m17 : q_OK 17 := q_cov (n := 1) (by decide +kernel) (lt_s lt_0 q_k17_0)
theorem q_k18_0 : q_chR 18 (100 * 0) 100 = true := by decide +kernel
theorem q_m18 : q_OK 18 := q_cov (n := 1) (by decide +kernel) (lt_s lt_0 q_k18_0)
theorem q_k19_0 : q_chR 19 (100 * 0) 100 = true := by decide +kernel
theorem q_m19 : q_OK 19 := q_cov (n := 1) (by decide +kernel) (lt_s lt_0 q_k19_0)
theorem q_k20_0 : q_chR 20 (100 * 0) 100 = true := by decide +kernel
theorem q_m20 : q_OK 20 := q_cov (n := 1) (by decide +kernel) (lt_s lt_0 q_k20_0)
theorem q_k21_0 : q_chR 21 (100 * 0) 100 = true := by decide +kernel
theorem q_m21 : q_OK 21 := q_cov (n := 1) (by decide +kernel) (lt_s lt_0 q_k21_0)
theorem q_k22_0 : q_chR 22 (100 * 0) 100 = true := by decide +kernel
theorem q_k22_1 : q_chR 22 (100 * 1) 100 = true := by decide +kernel
theorem q_m22 : q_OK 22 := q_cov (n := 2) (by decide +kernel) (lt_s (lt_s lt_0 q_k22_0) q_k22_1)
theorem q_k23_0 : q_chR 23 (100 * 0) 100 = true := by decide +kernel
theorem q_k23_1 : q_chR 23 (100 * 1) 100 = true := by decide +kernel
theorem q_k23_2 : q_chR 23 (100 * 2) 100 = true := by decide +kernel
theorem q_m23 : q_OK 23 := q_cov (n := 3) (by decide +kernel) (lt_s (lt_s (lt_s lt_0 q_k23_0) q_k23_1) q_k23_2)
theorem q_k24_0 : q_chR 24 (100 * 0) 100 = true := by decide +kernel
theorem q_m24 : q_OK 24 := q_cov (n := 1) (by decide +kernel) (lt_s lt_0 q_k24_0)
theorem q_k25_0 : q_chR 25 (100 * 0) 100 = true := by decide +kernel
theorem q_m25 : q_OK 25 := q_cov (n := 1) (by decide +kernel) (lt_s lt_0 q_k25_0)
theorem q_k26_0 : q_chR 26 (100 * 0) 100 = true := by decide +kernel
theorem q_m26 : q_OK 26 := q_cov (n := 1) (by decide +kernel) (lt_s lt_0 q_k26_0)
theorem q_k27_0 : q_chR 27 (100 * 0) 100 = true := by decide +kernel
theorem q_m27 : q_OK 27 := q_cov (n := 1) (by decide +kernel) (lt_s lt_0 q_k27_0)
theorem q_k28_0 : q_chR 28 (100 * 0) 100 = true := by decide +kernel
theorem q_m28 : q_OK 28 := q_cov (n := 1) (by decide +kernel) (lt_s lt_0 q_k28_0)
theorem q_k29_0 : q_chR 29 (100 * 0) 100 = true := by decide +kernel
theorem q_m29 : q_OK 29 := q_cov (n := 1) (by decide +kernel) (lt_s lt_0 q_k29_0)
set_option maxRecDepth 100000 in
theorem q_cw_1 : lw_tbl[(q_mP 1).1]? = some (.code (q_mn 1) (q_cd 1) (q_mx 1) (q_rt 1)) := rfl
set_option maxRecDepth 100000 in
theorem q_cw_2 : lw_tbl[(q_mP 2).1]? = some (.code (q_mn 2) (q_cd 2) (q_mx 2) (q_rt 2)) := rfl
set_option maxRecDepth 100000 in
theorem q_cw_3 : lw_tbl[(q_mP 3).1]? = some (.code (q_mn 3) (q_cd 3) (q_mx 3) (q_rt 3)) := rfl
set_option maxRecDepth 100000 in
theorem q_cw_4 : lw_tbl[(q_mP 4).1]? = some (.code (q_mn 4) (q_cd 4) (q_mx 4) (q_rt 4)) := rfl
set_option maxRecDepth 100000 in
theorem q_cw_5 : lw_tbl[(q_mP 5).1]? = some (.code (q_mn 5) (q_cd 5) (q_mx 5) (q_rt 5)) := rfl
set_option maxRecDepth 100000 in
theorem q_cw_6 : lw_tbl[(q_mP 6).1]? = some (.code (q_mn 6) (q_cd 6) (q_mx 6) (q_rt 6)) := rfl
set_option maxRecDepth 100000 in
theorem q_cw_7 : lw_tbl[(q_mP 7).1]? = some (.code (q_mn 7) (q_cd 7) (q_mx 7) (q_rt 7)) := rfl
set_option maxRecDepth 100000 in
theorem q_cw_8 : lw_tbl[(q_mP 8).1]? = some (.code (q_mn 8) (q_cd 8) (q_mx 8) (q_rt 8)) := rfl
set_option maxRecDepth 100000 in
theorem q_cw_9 : lw_tbl[(q_mP 9).1]? = some (.code (q_mn 9) (q_cd 9) (q_mx 9) (q_rt 9)) := rfl
set_option maxRecDepth 100000 in
theorem q_cw_10 : lw_tbl[(q_mP 10).1]? = some (.code (q_mn 10) (q_cd 10) (q_mx 10) (q_rt 10)) := rfl
set_option maxRecDepth 100000 in
theorem q_cw_11 : lw_tbl[(q_mP 11).1]? = some (.code (q_mn 11) (q_cd 11) (q_mx 11) (q_rt 11)) := rfl
set_option maxRecDepth 100000 in
theorem q_cw_12 : lw_tbl[(q_mP 12).1]? = some (.code (q_mn 12) (q_cd 12) (q_mx 12) (q_rt 12)) := rfl
set_option maxRecDepth 100000 in
theorem q_cw_13 : lw_tbl[(q_mP 13).1]? = some (.code (q_mn 13) (q_cd 13) (q_mx 13) (q_rt 13)) := rfl
set_option maxRecDepth 100000 in
theorem q_cw_14 : lw_tbl[(q_mP 14).1]? = some (.code (q_mn 14) (q_cd 14) (q_mx 14) (q_rt 14)) := rfl
set_option maxRecDepth 100000 in
theorem q_cw_15 : lw_tbl[(q_mP 15).1]? = some (.code (q_mn 15) (q_cd 15) (q_mx 15) (q_rt 15)) := rfl
set_option maxRecDepth 100000 in
theorem q_cw_16 : lw_tbl[(q_mP 16).1]? = some (.code (q_mn 16) (q_cd 16) (q_mx 16) (q_rt 16)) := rfl
set_option maxRecDepth 100000 in
theorem q_cw_17 : lw_tbl[(q_mP 17).1]? = some (.code (q_mn 17) (q_cd 17) (q_mx 17) (q_rt 17)) := rfl
set_option maxRecDepth 100000 in
theorem q_cw_18 : lw_tbl[(q_mP 18).1]? = some (.code (q_mn 18) (q_cd 18) (q_mx 18) (q_rt 18)) := rfl
set_option maxRecDepth 100000 in
theorem q_cw_19 : lw_tbl[(q_mP 19).1]? = some (.code (q_mn 19) (q_cd 19) (q_mx 19) (q_rt 19)) := rfl
set_option maxRecDepth 100000 in
theorem q_cw_20 : lw_tbl[(q_mP 20).1]? = some (.code (q_mn 20) (q_cd 20) (q_mx 20) (q_rt 20)) := rfl
set_option maxRecDepth 100000 in
theorem q_cw_21 : lw_tbl[(q_mP 21).1]? = some (.code (q_mn 21) (q_cd 21) (q_mx 21) (q_rt 21)) := rfl
set_option maxRecDepth 100000 in
theorem q_cw_22 : lw_tbl[(q_mP 22).1]? = some (.code (q_mn 22) (q_cd 22) (q_mx 22) (q_rt 22)) := rfl
set_option maxRecDepth 100000 in
theorem q_cw_23 : lw_tbl[(q_mP 23).1]? = some (.code (q_mn 23) (q_cd 23) (q_mx 23) (q_rt 23)) := rfl
set_option maxRecDepth 100000 in
theorem q_cw_24 : lw_tbl[(q_mP 24).1]? = some (.code (q_mn 24) (q_cd 24) (q_mx 24) (q_rt 24)) := rfl
set_option maxRecDepth 100000 in
theorem q_cw_25 : lw_tbl[(q_mP 25).1]? = some (.code (q_mn 25) (q_cd 25) (q_mx 25) (q_rt 25)) := rfl
set_option maxRecDepth 100000 in
theorem q_cw_26 : lw_tbl[(q_mP 26).1]? = some (.code (q_mn 26) (q_cd 26) (q_mx 26) (q_rt 26)) := rfl
set_option maxRecDepth 100000 in
theorem q_cw_27 : lw_tbl[(q_mP 27).1]? = some (.code (q_mn 27) (q_cd 27) (q_mx 27) (q_rt 27)) := rfl
set_option maxRecDepth 100000 in
theorem q_cw_28 : lw_tbl[(q_mP 28).1]? = some (.code (q_mn 28) (q_cd 28) (q_mx 28) (q_rt 28)) := rfl
set_option maxRecDepth 100000 in
theorem q_cw_29 : lw_tbl[(q_mP 29).1]? = some (.code (q_mn 29) (q_cd 29) (q_mx 29) (q_rt 29)) := rfl
