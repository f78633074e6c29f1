theorem w_t999 : (999 : Int32).toInt = 999 := rfl
theorem w_btw9 {y : Int32} : q_btw y.toInt64 999 = (if (0 : Int32) < (if y < 999 then y else 999) then (if y < 999 then y else 999) else 0) := by
  unfold q_btw
  have h0 : y.toInt64 < 0 ↔ y < 0 := fa_wide_lt y 0
  have h9 : (999 : Int32).toInt64 < y.toInt64 ↔ 999 < y := fa_wide_lt 999 y
  by_cases h : y < 0
  · have h1 : y < 999 := by rw [fa_lt, q_t0] at h; rw [fa_lt, w_t999]; omega
    have h2 : ¬ (0 : Int32) < y := by rw [fa_lt, q_t0] at h; rw [fa_lt, q_t0]; omega
    rw [if_pos (h0.mpr h), if_pos h1, if_neg h2]
  · rw [if_neg (fun z => h (h0.mp z))]
    by_cases h2 : 999 < y
    · have h1 : ¬ y < 999 := by rw [fa_lt, w_t999] at h2; rw [fa_lt, w_t999]; omega
      rw [if_pos (h9.mpr h2), if_neg h1, if_pos (by decide)]
    · rw [if_neg (fun z => h2 (h9.mp z)), Int32.toInt32_toInt64]
      by_cases h3 : y < 999
      · rw [if_pos h3]
        by_cases h4 : (0 : Int32) < y
        · rw [if_pos h4]
        · rw [if_neg h4, fa_eq]
          rw [fa_lt, q_t0] at h h4
          rw [q_t0]
          omega
      · rw [if_neg h3, if_pos (by decide), fa_eq, w_t999]
        rw [fa_lt, w_t999] at h2 h3
        omega
theorem w_nm2 {i : Nat} (hi : q_nmok 2 i = true) : i = 0 ∨ i = 1 ∨ i = 2 ∨ i = 10 ∨ i = 11 ∨ i = 12 ∨ i = 13 := by
  have : (Nat.ble i 2 || (Nat.ble 10 i && Nat.ble i 13)) = true := hi
  simp only [Bool.or_eq_true, Bool.and_eq_true, Nat.ble_eq] at this
  omega
section
variable {c d n sl : Nat} {ln : Nat → Nat} {di : Nat → Nat → Int32} {dl : Nat → Nat → Int64} {dr : Nat → Nat → Option Nat} {Q : Option Value → q_H → Prop} {a tx pl : Nat → Int32} {P L : Nat}
/-- Evening.dues -/
theorem c_duX {j B M s t1 t2 : Nat} (hj : j < 6) (hB : B ≤ 1000) (hM1 : 1 ≤ M) (hM : M ≤ 6) (hs : di 11 j = nI s) (hs16 : s < 16) (h1 : di 58 j = nI t1) (ht1 : t1 ≤ 1000) (h2 : di 59 j = nI t2) (ht2 : t2 ≤ 1000) (hW : q_W n ln di dr a tx P L) (hg : q_Gr n ln dr)
    (k : ∀ e, (∀ i, ¬ i = 51 → ¬ i = 52 → e i = di i) → Q (some (.int (q_du a tx j (nI s / 4) (nI B) (nI M) (nI t1) (nI t2)))) (n, sl, ln, e, dl, dr)) :
    q_EX q_KD (d + 3) 81 0 [.ref 57, .int (nI j), .int (nI B), .int (nI M), .retAddr 0] [] (n, sl, ln, di, dl, dr) Q := by
  have jn : (nI j).toNatClampNeg = j := nI_clamp (by omega)
  have vj : vp_in (nI j) 6 := vp_in_nI hj (by decide)
  have hd8 := hW.2.2.2.2.1 j hj
  refine g81_0 hg (c_rul 2 (by decide) hW hg (fun h0 => ?_) (fun t z F E ht hz l1 l2 hE hWd hFE f1 f2 hcd hty hkl hlv _ => ?_))
  · have hq : q_kl5 a tx 2 < 0 := by
      have : q_kl5 a tx 2 = -1 := h0
      rw [this]; decide
    have kk := k di (fun _ _ _ => rfl)
    unfold q_du at kk
    rw [if_pos hq] at kk
    exact g81_8 hg (fun w => absurd w (nI_nle (by omega) (by omega))) (fun _ => nI_ne0 (by omega) (by omega)) (fun _ => kk)
  · have hlo : q_du a tx j (nI s / 4) (nI B) (nI M) (nI t1) (nI t2) = q_btw ((q_ev tx (680 * t + 75) F E (q_nl2 a j (nI s / 4) (nI B) (nI M) (nI t1) (nI t2))).2.1 0) 999 := by
      unfold q_du
      rw [if_neg (show ¬ q_kl5 a tx 2 < 0 from hkl)]
      have hlv' : ∀ nm, q_lv a tx 2 nm = q_ev tx (680 * t + 75) F E nm := hlv
      rw [hlv']
    refine g81_8_1 hg hz vj vj vj vj vj ?_
    rw [jn, hs, h1, h2]
    have hz84 := hz.1
    refine c_value (d := d + 1) (F := F) (E := E) (L := 2) (C := 680 * t + 75) tx (q_nl2 a j (nI s / 4) (nI B) (nI M) (nI t1) (nI t2)) hz (by decide) l1 l2 hE hWd hFE ?_ ?_ ?_ hty rfl ?_ hg (fun st _ hV => g81_151 hg ?_)
    · rw [q_uR (by omega), q_uR (by omega), q_uR (by omega), q_uR (by omega), q_uR (by omega), q_uR (by omega), q_uR (by omega)]; exact f1
    · rw [q_uR (by omega), q_uR (by omega), q_uR (by omega), q_uR (by omega), q_uR (by omega), q_uR (by omega), q_uR (by omega)]; exact f2
    · rw [q_uR (by omega), q_uR (by omega), q_uR (by omega), q_uR (by omega), q_uR (by omega), q_uR (by omega), q_uR (by omega)]; exact hcd
    · intro i hi
      obtain ⟨w, w1, w2⟩ := hd8.2.2.1
      obtain ⟨s', s1', s2'⟩ := hd8.2.2.2
      rcases w_nm2 hi with h | h | h | h | h | h | h <;> subst h
      · exact ⟨hd8.1, q_small (m := w) (by omega) w2⟩
      · exact ⟨hd8.2.1, q_small (m := s') (by omega) s2'⟩
      · exact ⟨rfl, q_small (m := s / 4) (by omega) (w_d4 s hs16)⟩
      · exact ⟨rfl, q_small (m := B) (by omega) rfl⟩
      · exact ⟨rfl, q_small (m := M) (by omega) rfl⟩
      · exact ⟨rfl, q_small (m := t1) (by omega) rfl⟩
      · exact ⟨rfl, q_small (m := t2) (by omega) rfl⟩
    · have hVV := hV rfl
      rw [← hVV, w_btw9] at hlo
      rw [← hlo]
      refine k _ (fun i g1 g2 => ?_)
      rw [q_upN _ _ g2, q_uR g1, q_uR g1, q_uR g1, q_uR g1, q_uR g1, q_uR g1, q_uR g1]
/-- the model's duesOf -/
theorem c_duM {j : Nat} {B M : Int32} (hj : j < 6) (hM : ¬ M = 0) (h : q_MT (di 68) (di 70)) (hg : q_Gr n ln dr)
    (k : ∀ e dl', Q (some (.int (q_du (di 68) (di 70) j (di 68 (10 + 6 * j + 3) / 4) B M (di 77 j) (di 78 j)))) (n, sl, ln, q_F q_Sw di e, dl', dr)) :
    q_EX q_KD (d + 3) 185 0 [.ref 67, .int (nI j), .int B, .int M, .retAddr 0] [] (n, sl, ln, di, dl, dr) Q := by
  have jn : (nI j).toNatClampNeg = j := nI_clamp (by omega)
  have vj : vp_in (nI j) 6 := vp_in_nI hj (by decide)
  refine g185_0 hg (c_claM h hg ?_)
  rcases q_law h 2 (by decide) with h0 | ⟨t, kk, F, E, ht, hk, h5, hkl, hFE, hE, _, hF', hE', hty, hlv⟩
  · have hq : q_kl5 (di 68) (di 70) 2 < 0 := by
      have : q_kl5 (di 68) (di 70) 2 = -1 := h0
      rw [this]; decide
    unfold q_du at k
    rw [if_pos hq] at k
    refine g185_5 hg (fun c => absurd hq (q_nle c)) (fun _ => hM) (fun _ => ?_)
    have := k di dl
    rwa [q_Fid] at this
  · have hq : q_kl5 (di 68) (di 70) 2 = nI kk := hkl
    have hqp : ¬ q_kl5 (di 68) (di 70) 2 < 0 := by rw [hq]; exact nI_pos (by omega)
    have hlv' : ∀ nm, q_lv (di 68) (di 70) 2 nm = q_ev (di 70) (680 * t + 75) F E nm := hlv
    unfold q_du at k
    rw [if_neg hqp, hlv'] at k
    refine g185_5 hg (fun _ => c_get j 0 hg (by omega) ?_) (fun c => absurd c hqp) (fun c => absurd c hqp)
    rw [hq]
    refine g185_27 hg (vp_in_nI (n := 0) (by decide) (by decide)) (c_get j 1 hg (by omega) (g185_39 hg (vp_in_nI (n := 1) (by decide) (by decide)) (c_get j 3 hg (by omega) (g185_51 hg (vp_in_nI (n := 2) (by decide) (by decide)) vj vj ?_))))
    rw [jn]
    refine c_work (t := t) (kk := kk) (F := F) (E := E) (L := 2) (q_nl2 (di 68) j (di 68 (10 + 6 * j + 3) / 4) B M (di 77 j) (di 78 j)) ht hk h5 hF' hE' (by omega) hE hty ?_ hg (fun V T hV _ => g185_102 hg (c_between hg (g185_114 hg ?_)))
    · intro i hi
      rcases w_nm2 hi with h | h | h | h | h | h | h <;> subst h <;> rfl
    · have h0 : V 0 = (q_ev (di 70) (680 * t + 75) F E (q_nl2 (di 68) j (di 68 (10 + 6 * j + 3) / 4) B M (di 77 j) (di 78 j))).2.1 0 := hV 0 (by decide)
      have kk2 := k (va_up (q_u (q_u (q_u (q_u (q_u (q_u (q_u di 73 (nI 0).toNatClampNeg (di 68 (10 + 6 * j + 0))) 73 (nI 1).toNatClampNeg (di 68 (10 + 6 * j + 1))) 73 (nI 2).toNatClampNeg (di 68 (10 + 6 * j + 3) / 4)) 73 10 B) 73 11 M) 73 12 (di 77 j)) 73 13 (di 78 j)) 75 T) (va_up dl 74 V)
      rw [← h0] at kk2
      rw [← q_Fin (S := q_Sw) (di := di)] at kk2
      · exact kk2
      · intro k' hk'
        have h73 : ¬ k' = 73 := fun e => by rw [e] at hk'; exact absurd hk' (by decide)
        have h75 : ¬ k' = 75 := fun e => by rw [e] at hk'; exact absurd hk' (by decide)
        rw [q_upN _ _ h75, q_uR h73, q_uR h73, q_uR h73, q_uR h73, q_uR h73, q_uR h73, q_uR h73]
end
