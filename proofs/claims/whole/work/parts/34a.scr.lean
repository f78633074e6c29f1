/-! A SCRIPT IS MADE -/
section
variable {d n sl : Nat} {ln : Nat → Nat} {di : Nat → Nat → Int32} {dl : Nat → Nat → Int64} {dr : Nat → Nat → Option Nat} {Q : Option Value → q_H → Prop}
theorem c_copyOf {a m : Nat} (hk : q_KD a = 20) (h6 : 6 ≤ a) (ha : a < n) (hm : m ≤ ln a) (hl : ln a ≤ 65536) (hkn : q_KD n = 20) (hn6 : 6 ≤ n) (kk : ∀ R : Nat → Int32, (∀ i, i < m → R i = di a i) → Q (some (.ref n)) (n + 1, sl + m, va_up ln n m, va_up di n R, va_up dl n (fun _ => 0), va_up dr n (fun _ => none))) : q_EX q_KD d 55 0 [.ref a, .int (nI m), .retAddr 0] [] (n, sl, ln, di, dl, dr) Q := by
  have e : Int32.ofNat (ln a) = nI (ln a) := rfl
  refine x_iload_n 0 i55_0 rfl (x_aload_n 1 i55_1 rfl (x_alen 2 (nI (ln a)) i55_2 (q_20 hk) (q_24 hk) ha e (x_icmp_ne 3 14 i55_3 rfl (fun c => ?_) (fun c => ?_))))
  · refine x_iload_n 14 i55_14 rfl (x_newa_int 15 i55_15 (nI_pos (by omega)) (by rw [nI_clamp (by omega)]; omega) hkn (x_astore_n 17 (ls2 := [.ref a, .int (nI m), .ref n]) i55_17 (Nat.le_of_ble_eq_true rfl) rfl ?_))
    have na : ¬ a = n := by omega
    have la : (va_up ln n (nI m).toNatClampNeg) a = ln a := q_upN _ _ na
    refine x_aload_n 18 i55_18 rfl (x_iconst 19 0 i55_19 rfl (x_aload_n 20 i55_20 rfl (x_iconst 21 0 i55_21 rfl (x_aload_n 22 i55_22 rfl (x_alen 23 (nI (ln a)) i55_23 (q_20 hk) (q_24 hk) (by omega) (by rw [la]; rfl) (x_iload_n 24 i55_24 rfl (x_min 25 i55_25 rfl (Nat.le_of_ble_eq_true rfl) ?_)))))))
    have mn : (if nI m < nI (ln a) then nI m else nI (ln a)) = nI m := by
      by_cases q : nI m < nI (ln a)
      · rw [if_pos q]
      · rw [if_neg q]
        rcases Nat.lt_or_ge m (ln a) with y | y
        · exact absurd (nI_lt y (by omega)) q
        · rw [show m = ln a by omega]
    rw [mn]
    refine x_copy 28 i55_28 rfl (Nat.le_of_ble_eq_true rfl) hk hkn h6 (by omega) hn6 (by omega) (by decide) (by decide) (nI_pos (by omega)) ?_ ?_ (x_aload_n 31 i55_31 rfl (x_aret 32 i55_32 ?_))
    · rw [la, nI_clamp (by omega)]; show 0 + m ≤ ln a; omega
    · rw [q_upE, nI_clamp (by omega)]; show 0 + m ≤ m; omega
    · rw [nI_clamp (by omega), q_upup]
      refine kk _ (fun i hi => ?_)
      show (if 0 ≤ i ∧ i < 0 + m then _ else _) = _
      rw [if_pos ⟨Nat.zero_le _, by omega⟩, q_upN _ _ na]
      show di a (0 + (i - 0)) = di a i
      rw [Nat.zero_add, Nat.sub_zero]
  · have c' : m = ln a := (nI_eq (by omega) (by omega)).mp c
    refine x_aload_n 6 i55_6 rfl (x_clone 7 i55_7 rfl (Nat.le_of_ble_eq_true rfl) hk h6 ha hl hkn (x_cast 10 i55_10 hkn hn6 (by omega) (x_aret 13 i55_13 ?_)))
    rw [← c']
    exact kk _ (fun _ _ => rfl)
end
def t_lens (W K : Nat) : List Nat := [W, 3, 3, K, K, K]
/-- j of the six rows of the script z are made -/
def t_SI (z W K B : Nat) (ln0 : Nat → Nat) (di0 : Nat → Nat → Int32) (dr0 : Nat → Nat → Option Nat) (j : Nat) (n sl : Nat) (ln : Nat → Nat) (di : Nat → Nat → Int32) (dr : Nat → Nat → Option Nat) : Prop :=
  n = z + 1 + j ∧ sl ≤ B ∧ (∀ k, k < z → ln k = ln0 k ∧ di k = di0 k ∧ dr k = dr0 k) ∧ (∀ i, i < j → dr z i = some (z + 1 + i) ∧ ln (z + 1 + i) = (t_lens W K).getD i 0 ∧ ∀ p, p < (t_lens W K).getD i 0 → di (z + 1 + i) p = di0 (44 + i) p)
/-- one more row -/
theorem t_SIs {z W K B m j n sl : Nat} {ln0 ln : Nat → Nat} {di0 di : Nat → Nat → Int32} {dr0 dr : Nat → Nat → Option Nat} {R : Nat → Int32} (h : t_SI z W K B ln0 di0 dr0 j n sl ln di dr) (hz : 84 ≤ z) (hj : j < 6) (hm : m = (t_lens W K).getD j 0) (hR : ∀ i, i < m → R i = di (44 + j) i) : t_SI z W K (B + m) ln0 di0 dr0 (j + 1) (n + 1) (sl + m) (va_up ln n m) (va_up di n R) (q_u (va_up dr n (fun _ => none)) z j (some n)) := by
  obtain ⟨h1, h2, h3, h4⟩ := h
  refine ⟨by omega, by omega, fun k hk => ?_, fun i hi => ?_⟩
  · rw [q_upN _ _ (show ¬ k = n by omega), q_upN _ _ (show ¬ k = n by omega), q_uR (show ¬ k = z by omega), q_upN _ _ (show ¬ k = n by omega)]
    exact h3 k hk
  · by_cases e : i = j
    · subst e
      rw [q_uE, h1]
      refine ⟨rfl, by rw [q_upE]; exact hm, fun p hp => ?_⟩
      rw [q_upE, hR p (by rw [hm]; exact hp), (h3 (44 + i) (by omega)).2.1]
    · obtain ⟨g1, g2, g3⟩ := h4 i (by omega)
      refine ⟨?_, ?_, fun p hp => ?_⟩
      · rw [q_uN _ _ _ _ _ e, q_upN _ _ (show ¬ z = n by omega)]; exact g1
      · rw [q_upN _ _ (show ¬ z + 1 + i = n by omega)]; exact g2
      · rw [q_upN _ _ (show ¬ z + 1 + i = n by omega)]; exact g3 p hp
section
variable {d z W K B sl : Nat} {ln0 ln : Nat → Nat} {di0 di : Nat → Nat → Int32} {dl : Nat → Nat → Int64} {dr0 dr : Nat → Nat → Option Nat} {Q : Option Value → q_H → Prop}
theorem t_in0 (hz0 : q_scr (z + 7) z) (hW : W ≤ 300) (hK : K ≤ 24) (hg : ∀ k L, q_lO k = some L → ln0 k = L) (hgr : ∀ k j b, q_rO k j = some b → dr0 k j = some b) (h9 : di0 39 9 = nI W) (h10 : di0 39 10 = nI K) (h : t_SI z W K B ln0 di0 dr0 0 (z + 1 + 0) sl ln di dr)
    (kk : ∀ sl' ln' di' dl' dr', t_SI z W K (B + W) ln0 di0 dr0 1 (z + 1 + 1) sl' ln' di' dr' → q_EX q_KD (d + 1) 54 19 [.ref z, .ref 39] [] (z + 1 + 1, sl', ln', di', dl', dr') Q) : q_EX q_KD (d + 1) 54 4 [.ref z, .ref 39] [] (z + 1 + 0, sl, ln, di, dl, dr) Q := by
  have hz := hz0
  have z84 := hz0.1
  have e0 : dr 39 1 = some 44 := by rw [(h.2.2.1 39 (by omega)).2.2]; exact hgr 39 1 44 rfl
  have f9 : di 39 9 = nI W := by rw [(h.2.2.1 39 (by omega)).2.1]; exact h9
  have f10 : di 39 10 = nI K := by rw [(h.2.2.1 39 (by omega)).2.1]; exact h10
  have l0 : ln 44 = 300 := by rw [(h.2.2.1 44 (by omega)).1]; exact hg 44 300 rfl
  refine x_aload_n 4 i54_4 rfl (x_aload_n 5 i54_5 rfl (x_getR 6 44 i54_6 rfl (by omega) (by decide) rfl e0 (x_aload_n 9 i54_9 rfl (x_getI 10 9 (nI W) i54_10 rfl (by omega) (by decide) (Or.inl rfl) rfl f9 (x_cs 13 (as := [.ref 44, .int (nI W)]) (rs := [.ref z]) i54_13 rfl rfl rfl rfl (Nat.le_of_ble_eq_true rfl) (Nat.le_of_ble_eq_true rfl) rfl rfl (c_copyOf (m := W) rfl (by decide) (by omega) ?_ ?_ (q_kA hz (by decide)) (by omega) (fun R hR => ?_)))))))
  · rw [l0]; omega
  · rw [l0]; decide
  · refine x_putR 16 0 i54_16 (q_kS hz) (by omega) (by omega) rfl rfl (kk _ _ _ _ _ (t_SIs h z84 (by decide) rfl hR))
theorem t_in1 (hz0 : q_scr (z + 7) z) (hW : W ≤ 300) (hK : K ≤ 24) (hg : ∀ k L, q_lO k = some L → ln0 k = L) (hgr : ∀ k j b, q_rO k j = some b → dr0 k j = some b) (h9 : di0 39 9 = nI W) (h10 : di0 39 10 = nI K) (h : t_SI z W K B ln0 di0 dr0 1 (z + 1 + 1) sl ln di dr)
    (kk : ∀ sl' ln' di' dl' dr', t_SI z W K (B + 3) ln0 di0 dr0 2 (z + 1 + 2) sl' ln' di' dr' → q_EX q_KD (d + 1) 54 31 [.ref z, .ref 39] [] (z + 1 + 2, sl', ln', di', dl', dr') Q) : q_EX q_KD (d + 1) 54 19 [.ref z, .ref 39] [] (z + 1 + 1, sl, ln, di, dl, dr) Q := by
  have hz := hz0
  have z84 := hz0.1
  have e1 : dr 39 2 = some 45 := by rw [(h.2.2.1 39 (by omega)).2.2]; exact hgr 39 2 45 rfl
  have f9 : di 39 9 = nI W := by rw [(h.2.2.1 39 (by omega)).2.1]; exact h9
  have f10 : di 39 10 = nI K := by rw [(h.2.2.1 39 (by omega)).2.1]; exact h10
  have l0 : ln 45 = 3 := by rw [(h.2.2.1 45 (by omega)).1]; exact hg 45 3 rfl
  refine x_aload_n 19 i54_19 rfl (x_aload_n 20 i54_20 rfl (x_getR 21 45 i54_21 rfl (by omega) (by decide) rfl e1 (x_iconst 24 3 i54_24 rfl (x_cs 25 (as := [.ref 45, .int (nI 3)]) (rs := [.ref z]) i54_25 rfl rfl rfl rfl (Nat.le_of_ble_eq_true rfl) (Nat.le_of_ble_eq_true rfl) rfl rfl (c_copyOf (m := 3) rfl (by decide) (by omega) ?_ ?_ (q_kA hz (by decide)) (by omega) (fun R hR => ?_))))))
  · rw [l0]; omega
  · rw [l0]; decide
  · refine x_putR 28 1 i54_28 (q_kS hz) (by omega) (by omega) rfl rfl (kk _ _ _ _ _ (t_SIs h z84 (by decide) rfl hR))
theorem t_in2 (hz0 : q_scr (z + 7) z) (hW : W ≤ 300) (hK : K ≤ 24) (hg : ∀ k L, q_lO k = some L → ln0 k = L) (hgr : ∀ k j b, q_rO k j = some b → dr0 k j = some b) (h9 : di0 39 9 = nI W) (h10 : di0 39 10 = nI K) (h : t_SI z W K B ln0 di0 dr0 2 (z + 1 + 2) sl ln di dr)
    (kk : ∀ sl' ln' di' dl' dr', t_SI z W K (B + 3) ln0 di0 dr0 3 (z + 1 + 3) sl' ln' di' dr' → q_EX q_KD (d + 1) 54 43 [.ref z, .ref 39] [] (z + 1 + 3, sl', ln', di', dl', dr') Q) : q_EX q_KD (d + 1) 54 31 [.ref z, .ref 39] [] (z + 1 + 2, sl, ln, di, dl, dr) Q := by
  have hz := hz0
  have z84 := hz0.1
  have e2 : dr 39 3 = some 46 := by rw [(h.2.2.1 39 (by omega)).2.2]; exact hgr 39 3 46 rfl
  have f9 : di 39 9 = nI W := by rw [(h.2.2.1 39 (by omega)).2.1]; exact h9
  have f10 : di 39 10 = nI K := by rw [(h.2.2.1 39 (by omega)).2.1]; exact h10
  have l0 : ln 46 = 3 := by rw [(h.2.2.1 46 (by omega)).1]; exact hg 46 3 rfl
  refine x_aload_n 31 i54_31 rfl (x_aload_n 32 i54_32 rfl (x_getR 33 46 i54_33 rfl (by omega) (by decide) rfl e2 (x_iconst 36 3 i54_36 rfl (x_cs 37 (as := [.ref 46, .int (nI 3)]) (rs := [.ref z]) i54_37 rfl rfl rfl rfl (Nat.le_of_ble_eq_true rfl) (Nat.le_of_ble_eq_true rfl) rfl rfl (c_copyOf (m := 3) rfl (by decide) (by omega) ?_ ?_ (q_kA hz (by decide)) (by omega) (fun R hR => ?_))))))
  · rw [l0]; omega
  · rw [l0]; decide
  · refine x_putR 40 2 i54_40 (q_kS hz) (by omega) (by omega) rfl rfl (kk _ _ _ _ _ (t_SIs h z84 (by decide) rfl hR))
theorem t_in3 (hz0 : q_scr (z + 7) z) (hW : W ≤ 300) (hK : K ≤ 24) (hg : ∀ k L, q_lO k = some L → ln0 k = L) (hgr : ∀ k j b, q_rO k j = some b → dr0 k j = some b) (h9 : di0 39 9 = nI W) (h10 : di0 39 10 = nI K) (h : t_SI z W K B ln0 di0 dr0 3 (z + 1 + 3) sl ln di dr)
    (kk : ∀ sl' ln' di' dl' dr', t_SI z W K (B + K) ln0 di0 dr0 4 (z + 1 + 4) sl' ln' di' dr' → q_EX q_KD (d + 1) 54 58 [.ref z, .ref 39] [] (z + 1 + 4, sl', ln', di', dl', dr') Q) : q_EX q_KD (d + 1) 54 43 [.ref z, .ref 39] [] (z + 1 + 3, sl, ln, di, dl, dr) Q := by
  have hz := hz0
  have z84 := hz0.1
  have e3 : dr 39 4 = some 47 := by rw [(h.2.2.1 39 (by omega)).2.2]; exact hgr 39 4 47 rfl
  have f9 : di 39 9 = nI W := by rw [(h.2.2.1 39 (by omega)).2.1]; exact h9
  have f10 : di 39 10 = nI K := by rw [(h.2.2.1 39 (by omega)).2.1]; exact h10
  have l0 : ln 47 = 24 := by rw [(h.2.2.1 47 (by omega)).1]; exact hg 47 24 rfl
  refine x_aload_n 43 i54_43 rfl (x_aload_n 44 i54_44 rfl (x_getR 45 47 i54_45 rfl (by omega) (by decide) rfl e3 (x_aload_n 48 i54_48 rfl (x_getI 49 10 (nI K) i54_49 rfl (by omega) (by decide) (Or.inl rfl) rfl f10 (x_cs 52 (as := [.ref 47, .int (nI K)]) (rs := [.ref z]) i54_52 rfl rfl rfl rfl (Nat.le_of_ble_eq_true rfl) (Nat.le_of_ble_eq_true rfl) rfl rfl (c_copyOf (m := K) rfl (by decide) (by omega) ?_ ?_ (q_kA hz (by decide)) (by omega) (fun R hR => ?_)))))))
  · rw [l0]; omega
  · rw [l0]; decide
  · refine x_putR 55 3 i54_55 (q_kS hz) (by omega) (by omega) rfl rfl (kk _ _ _ _ _ (t_SIs h z84 (by decide) rfl hR))
theorem t_in4 (hz0 : q_scr (z + 7) z) (hW : W ≤ 300) (hK : K ≤ 24) (hg : ∀ k L, q_lO k = some L → ln0 k = L) (hgr : ∀ k j b, q_rO k j = some b → dr0 k j = some b) (h9 : di0 39 9 = nI W) (h10 : di0 39 10 = nI K) (h : t_SI z W K B ln0 di0 dr0 4 (z + 1 + 4) sl ln di dr)
    (kk : ∀ sl' ln' di' dl' dr', t_SI z W K (B + K) ln0 di0 dr0 5 (z + 1 + 5) sl' ln' di' dr' → q_EX q_KD (d + 1) 54 73 [.ref z, .ref 39] [] (z + 1 + 5, sl', ln', di', dl', dr') Q) : q_EX q_KD (d + 1) 54 58 [.ref z, .ref 39] [] (z + 1 + 4, sl, ln, di, dl, dr) Q := by
  have hz := hz0
  have z84 := hz0.1
  have e4 : dr 39 5 = some 48 := by rw [(h.2.2.1 39 (by omega)).2.2]; exact hgr 39 5 48 rfl
  have f9 : di 39 9 = nI W := by rw [(h.2.2.1 39 (by omega)).2.1]; exact h9
  have f10 : di 39 10 = nI K := by rw [(h.2.2.1 39 (by omega)).2.1]; exact h10
  have l0 : ln 48 = 24 := by rw [(h.2.2.1 48 (by omega)).1]; exact hg 48 24 rfl
  refine x_aload_n 58 i54_58 rfl (x_aload_n 59 i54_59 rfl (x_getR 60 48 i54_60 rfl (by omega) (by decide) rfl e4 (x_aload_n 63 i54_63 rfl (x_getI 64 10 (nI K) i54_64 rfl (by omega) (by decide) (Or.inl rfl) rfl f10 (x_cs 67 (as := [.ref 48, .int (nI K)]) (rs := [.ref z]) i54_67 rfl rfl rfl rfl (Nat.le_of_ble_eq_true rfl) (Nat.le_of_ble_eq_true rfl) rfl rfl (c_copyOf (m := K) rfl (by decide) (by omega) ?_ ?_ (q_kA hz (by decide)) (by omega) (fun R hR => ?_)))))))
  · rw [l0]; omega
  · rw [l0]; decide
  · refine x_putR 70 4 i54_70 (q_kS hz) (by omega) (by omega) rfl rfl (kk _ _ _ _ _ (t_SIs h z84 (by decide) rfl hR))
theorem t_in5 (hz0 : q_scr (z + 7) z) (hW : W ≤ 300) (hK : K ≤ 24) (hg : ∀ k L, q_lO k = some L → ln0 k = L) (hgr : ∀ k j b, q_rO k j = some b → dr0 k j = some b) (h9 : di0 39 9 = nI W) (h10 : di0 39 10 = nI K) (h : t_SI z W K B ln0 di0 dr0 5 (z + 1 + 5) sl ln di dr)
    (kk : ∀ sl' ln' di' dl' dr', t_SI z W K (B + K) ln0 di0 dr0 6 (z + 1 + 6) sl' ln' di' dr' → q_EX q_KD (d + 1) 54 88 [.ref z, .ref 39] [] (z + 1 + 6, sl', ln', di', dl', dr') Q) : q_EX q_KD (d + 1) 54 73 [.ref z, .ref 39] [] (z + 1 + 5, sl, ln, di, dl, dr) Q := by
  have hz := hz0
  have z84 := hz0.1
  have e5 : dr 39 6 = some 49 := by rw [(h.2.2.1 39 (by omega)).2.2]; exact hgr 39 6 49 rfl
  have f9 : di 39 9 = nI W := by rw [(h.2.2.1 39 (by omega)).2.1]; exact h9
  have f10 : di 39 10 = nI K := by rw [(h.2.2.1 39 (by omega)).2.1]; exact h10
  have l0 : ln 49 = 24 := by rw [(h.2.2.1 49 (by omega)).1]; exact hg 49 24 rfl
  refine x_aload_n 73 i54_73 rfl (x_aload_n 74 i54_74 rfl (x_getR 75 49 i54_75 rfl (by omega) (by decide) rfl e5 (x_aload_n 78 i54_78 rfl (x_getI 79 10 (nI K) i54_79 rfl (by omega) (by decide) (Or.inl rfl) rfl f10 (x_cs 82 (as := [.ref 49, .int (nI K)]) (rs := [.ref z]) i54_82 rfl rfl rfl rfl (Nat.le_of_ble_eq_true rfl) (Nat.le_of_ble_eq_true rfl) rfl rfl (c_copyOf (m := K) rfl (by decide) (by omega) ?_ ?_ (q_kA hz (by decide)) (by omega) (fun R hR => ?_)))))))
  · rw [l0]; omega
  · rw [l0]; decide
  · refine x_putR 85 5 i54_85 (q_kS hz) (by omega) (by omega) rfl rfl (kk _ _ _ _ _ (t_SIs h z84 (by decide) rfl hR))
/-- the constructor of a script -/
theorem c_scr {A : Int32} (hz0 : q_scr (z + 7) z) (hW : W ≤ 300) (hK : K ≤ 24) (hg : ∀ k L, q_lO k = some L → ln0 k = L) (hgr : ∀ k j b, q_rO k j = some b → dr0 k j = some b) (h9 : di0 39 9 = nI W) (h10 : di0 39 10 = nI K) (h12 : di0 39 12 = A) (hA : A = 0 ∨ A = 1) (h : t_SI z W K B ln0 di0 dr0 0 (z + 1) sl ln di dr)
    (kk : ∀ sl' ln' di' dl' dr', t_SI z W K (B + W + 3 + 3 + K + K + K) ln0 di0 dr0 6 (z + 7) sl' ln' di' dr' → Q none (z + 7, sl', ln', q_u di' z 6 A, dl', dr')) : q_EX q_KD (d + 1) 54 0 [.ref z, .ref 39] [] (z + 1, sl, ln, di, dl, dr) Q := by
  have z84 := hz0.1
  refine x_aload_n 0 i54_0 rfl (x_oinit 1 i54_1 rfl (Nat.le_of_ble_eq_true rfl) ?_)
  refine t_in0 hz0 hW hK hg hgr h9 h10 h (fun s1 l1 d1 L1 r1 h1 => t_in1 hz0 hW hK hg hgr h9 h10 h1 (fun s2 l2 d2 L2 r2 h2 => t_in2 hz0 hW hK hg hgr h9 h10 h2 (fun s3 l3 d3 L3 r3 h3 => t_in3 hz0 hW hK hg hgr h9 h10 h3 (fun s4 l4 d4 L4 r4 h4 => t_in4 hz0 hW hK hg hgr h9 h10 h4 (fun s5 l5 d5 L5 r5 h5 => t_in5 hz0 hW hK hg hgr h9 h10 h5 (fun s6 l6 d6 L6 r6 h6 => ?_))))))
  have f12 : d6 39 12 = A := by rw [(h6.2.2.1 39 (by omega)).2.1]; exact h12
  refine x_aload_n 88 i54_88 rfl (x_aload_n 89 i54_89 rfl (x_getI 90 12 A i54_90 rfl (by omega) (by decide) (Or.inr rfl) rfl f12 (x_putZ 93 6 i54_93 (q_kS hz0) (by omega) (by omega) rfl ?_ rfl (x_vret 96 i54_96 rfl (kk _ _ _ _ _ h6)))))
  rcases hA with q | q <;> (rw [q]; rfl)
end
