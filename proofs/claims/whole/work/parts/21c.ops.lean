/-- a told person's number, in all the forms in which it is asked -/
theorem w_told {x : Int32} {P : Nat} (hP : P ≤ 6) : ((0 : Int32) ≤ x ∧ x < nI P ∧ x < 6) ↔ ∃ j, j < P ∧ x = nI j := by
  constructor
  · rintro ⟨h1, h2, h3⟩
    obtain ⟨j, hj, hx⟩ := nI_of (q_not_lt h1)
    subst hx
    exact ⟨j, (nI_ltI hj (by omega)).mp h2, rfl⟩
  · rintro ⟨j, hj, hx⟩
    subst hx
    exact ⟨nI_pos' (by omega), nI_lt hj (by omega), nI_lt (b := 6) (by omega) (by decide)⟩
theorem w_told2 {x : Int32} {P : Nat} (hP : P < 2 ^ 31) : ((0 : Int32) ≤ x ∧ x ≤ nI P - 1) ↔ ∃ j, j < P ∧ x = nI j := by
  constructor
  · rintro ⟨h1, h2⟩
    obtain ⟨j, hj, hx⟩ := nI_of (q_not_lt h1)
    subst hx
    exact ⟨j, (q_pP hj hP).mp ⟨h1, h2⟩, rfl⟩
  · rintro ⟨j, hj, hx⟩
    subst hx
    exact (q_pP (by omega) hP).mpr hj
section
variable {c d n sl : Nat} {ln : Nat → Nat} {di : Nat → Nat → Int32} {dl : Nat → Nat → Int64} {dr : Nat → Nat → Option Nat} {Q : Option Value → q_H → Prop} {a tx pl : Nat → Int32} {P L : Nat}
/-- the model's sitting -/
theorem c_sitA (h : w_MF di a tx P L) (hv : ∀ j, j < 6 → q_pl a j = -1 ∨ ∃ s, s < 16 ∧ q_pl a j = nI s) (hg : q_Gr n ln dr) (k : Q (some (.int (nI (w_si (q_pl a))))) (n, sl, ln, di, dl, dr)) : q_EX q_KD (d + 1) 183 0 [.ref 67, .retAddr 0, .retAddr 0] [] (n, sl, ln, di, dl, dr) Q := by
  obtain ⟨h1, h2, h3, h4, h5, h6, h7, h8⟩ := h
  subst h1
  refine c_sitM P h3 h5 (fun j hj hn => ?_) hg ?_
  · rcases hv j (by omega) with q | ⟨s, q1, q2⟩
    · exact q
    · have : di 68 (10 + 6 * j + 3) = nI s := q2
      rw [this] at hn
      exact absurd hn (nI_pos (by omega))
  · have e1 : q_sit (fun j => di 68 (10 + 6 * j + 3)) P 0 0 = nI (q_it (fun j x => if ¬ q_pl (di 68) j = -1 then x ||| 2 ^ j else x) P 0 0) := w_sitI (q_pl (di 68)) P 0 0 (by omega)
    have e2 : w_si (q_pl (di 68)) = q_it (fun j x => if ¬ q_pl (di 68) j = -1 then x ||| 2 ^ j else x) P 0 0 := q_itP h3 (fun i x g1 g2 => if_neg (fun z => z (h7 i g1 g2).1))
    rw [e1, ← e2]
    exact k
theorem o_caused {x1 : Int32} (h : q_RR c n sl ln di dr) : o_op (d + 8) 91 191 [.ref 6, .int x1] [.ref 67, .int x1] c (n, sl, ln, di, dl, dr) := by
  have hR := h
  obtain ⟨hg, _, _, _, _, _, P, L, T, S, K, _, _, _, _, _, b1, _, _, b4, b5⟩ := hR
  have hH := w_RH_H h b1 b4 b5
  have hF := w_RH_MF b1
  have hP := hF.2.2.1
  have h10 : di 7 10 = nI P := hH.2.2.2.2.1
  have h0 : di 68 0 = nI P := hF.2.2.2.2.1
  refine g91_0 hg (c_sits hg (g91_8 hg (fun y => ?_) (fun y => ?_)))
  · obtain ⟨y1, y2⟩ := q_bp.mp y
    rw [h10] at y1
    obtain ⟨j, hj, hx⟩ := (w_told hP).mp y1
    subst hx
    rw [nI_clamp (by omega), hH.2.2.1 j (by omega)] at y2
    have hms : (63 : Int32) &&& (((1 : Int32) <<< (nI j &&& 31)) ^^^ (-1)) = nI (q_an 63 (2 ^ j)) := by
      rw [q_sh (by omega)]; exact q_anI 63 _
    have hml : q_an 63 (2 ^ j) < 2 ^ 31 := Nat.lt_of_lt_of_le (q_anlt (k := 6) (by decide)) (by decide)
    refine c_sumOf (d := d + 1) (s := 63) hH hg (fun e hH2 => g91_24 hg ?_)
    rw [hms]
    refine c_sumOf (d := d + 1) hH2 hg (fun e2 hH3 => g91_39 hg ⟨_, rfl, ?_⟩)
    rw [q_FF] at hH3 ⊢
    have hF2 : w_MF (q_F w_S di e2) (di 68) (di 70) P L := hF
    refine g191_0 hg (c_isPerson (d := d + 6) hg (g191_5 hg (fun z => ?_) (fun _ => c_get j 3 hg (by omega) (g191_14 hg (fun _ => ?_) (fun z => ?_)))))
    · exact absurd (show ((0 : Int32) ≤ nI j ∧ nI j ≤ di 68 0 - 1) by rw [h0]; exact (w_told2 (by omega)).mpr ⟨j, hj, rfl⟩) (q_bn.mp z)
    · refine c_seatA (d := d + 4) hF2 hg (fun D hM hN => g191_25 hg (c_allA (d := d) (s := 63) (by decide) (w_MF_M hF2 hM) hN (w_plneg hF) hg (fun D2 dl2 hM2 r1 r2 => g191_31 hg ?_)))
      rw [hms]
      have hN2 : w_N D2 (q_sm (di 68)) (q_pl (di 68)) := ⟨r1.trans hN.1, fun i hi => by rw [r2]; exact hN.2 i hi⟩
      refine c_allA (d := d) hml (w_MF_M hF2 (w_M_tr hM hM2)) hN2 (w_plneg hF) hg (fun D3 dl3 hM3 _ _ => g191_43 hg ⟨rfl, ?_⟩)
      exact w_end h (fun k hk => w_S_in hk) (w_M_tr (w_M_tr hM hM2) hM3) (w_hcS b1 hH3)
    · have z' : q_pl (di 68) j < 0 := z
      exact absurd ((w_pos (hH.2.2.2.2.2.1 j (by omega))).mpr y2) (q_lt0.mp z')
  · refine ⟨-1000, rfl, g191_0 hg (c_isPerson (d := d + 6) hg (g191_5 hg (fun z => ⟨rfl, w_RR_up h⟩) (fun z => ?_)))⟩
    obtain ⟨j, hj, hx⟩ := (w_told2 (P := P) (by omega)).mp (show ((0 : Int32) ≤ x1 ∧ x1 ≤ nI P - 1) by rw [← h0]; exact q_bp.mp z)
    subst hx
    have hs : q_pl (di 68) j = -1 := by
      have y' := q_bn.mp y
      rw [h10, nI_clamp (by omega), hH.2.2.1 j (by omega)] at y'
      rcases hH.2.2.2.2.2.1 j (by omega) with q | ⟨s, s1, s2⟩
      · exact q
      · exact absurd ⟨(w_told hP).mpr ⟨j, hj, rfl⟩, (w_pos (Or.inr ⟨s, s1, s2⟩)).mp (by rw [s2]; exact nI_pos' (by omega))⟩ y'
    have hs' : di 68 (10 + 6 * j + 3) = -1 := hs
    refine c_get j 3 hg (by omega) (g191_14 hg (fun z2 => ?_) (fun _ => ⟨rfl, w_RR_up h⟩))
    rw [hs'] at z2
    exact absurd z2 (by decide)
/-- a wave before all who sit, by the class's set and by the model's -/
theorem w_wvS (h : w_H n ln di dr a tx P L) {l st p : Nat} (hp : ∀ j, j < 6 → (p.testBit j = true ↔ ¬ q_pl a j = -1)) : q_wv a tx (di 11) l (q_an p st) 7 0 0 = q_wv a tx (q_pl a) l (q_an 63 st) 7 0 0 := by
  rw [q_wv_cg h.2.2.1]
  refine (w_wv_m (fun j hj => ?_) (fun _ _ _ _ => rfl) 7 0 0 (by decide) (fun _ _ _ => rfl))
  have h63 : ∀ j, j < 6 → (63 : Nat).testBit j = true := by decide
  rw [q_anT, q_anT, h63 j hj, w_pos (h.2.2.2.2.2.1 j hj), Bool.and_eq_true, Bool.and_eq_true, hp j hj]
  exact ⟨fun z => ⟨⟨z.2, z.1.2⟩, z.2⟩, fun z => ⟨⟨rfl, z.1.2⟩, z.2⟩⟩
theorem w_hcE {e : Nat → Nat → Int32} {P L T S K : Nat} (b : q_RH n ln di (di 7) (di 8) (di 9) (di 10) (di 11) (di 12) (di 13) (di 14) (di 15) (di 17) (di 18) (di 19) (di 20) (di 21) (di 22) (dr 16) (di 68) (di 70) P L T S K) (hE : q_CE (e 54) (e 55) (e 56) (di 68) (di 70) P L) : ∀ P2 L2 T2 S2 K2, q_RH n ln di (di 7) (di 8) (di 9) (di 10) (di 11) (di 12) (di 13) (di 14) (di 15) (di 17) (di 18) (di 19) (di 20) (di 21) (di 22) (dr 16) (di 68) (di 70) P2 L2 T2 S2 K2 → q_CE (di 54) (di 55) (di 56) (di 68) (di 70) P2 L2 → q_CR (di 60) (di 61) (di 66) (di 68) (di 70) P2 L2 → q_CE (q_F w_E di e 54) (q_F w_E di e 55) (q_F w_E di e 56) (di 68) (di 70) P2 L2 ∧ q_CR (q_F w_E di e 60) (q_F w_E di e 61) (q_F w_E di e 66) (di 68) (di 70) P2 L2 := by
  intro P2 L2 T2 S2 K2 b2 _ q2
  obtain ⟨e1, e2⟩ := w_PL b b2
  subst e1 e2
  exact ⟨hE, q2⟩
theorem o_wave {x1 x2 : Int32} (h : q_RR c n sl ln di dr) : o_op (d + 7) 87 157 [.ref 6, .int x1, .int x2] [.ref 67, .int x1, .int x2, .retAddr 0] c (n, sl, ln, di, dl, dr) := by
  have hR := h
  obtain ⟨hg, _, _, _, _, _, P, L, T, S, K, _, _, _, _, _, b1, _, _, b4, b5⟩ := hR
  have hH := w_RH_H h b1 b4 b5
  have hF := w_RH_MF b1
  have hL := hF.2.2.2.1
  have h12 : di 7 12 = nI L := hH.1.2.2.2.1
  have h1 : di 68 1 = nI L := hF.2.2.2.2.2.1
  refine g87_0 hg (c_within hg (g87_13 hg (fun y => ?_) (fun y => ?_)))
  · rw [h12] at y
    obtain ⟨l, hl, hx⟩ := (w_told2 (P := L) (by omega)).mp (q_bp.mp y)
    subst hx
    have hln : (nI l).toNatClampNeg = l := nI_clamp (by omega)
    have hsi : w_si (di 11) = w_si (q_pl (di 68)) := w_si_cg hH.2.2.1
    refine c_sitH hg ?_
    rw [w_sit6, hsi]
    refine g87_30 hg ?_
    rw [hH.2.2.2.1]
    have hpl := w_H_pl hH (w_siL (q_pl (di 68))) (fun j hj => hj)
    refine c_listen (d := d + 2) hl hpl rfl (q_lt hg rfl) (hg.2.1 11 6 rfl) rfl hH.1 hH.2.1 hg (fun e q1 q2 q3 => ?_)
    have ew := w_wvS (l := l) (st := q_sm (di 68)) hH (p := w_si (q_pl (di 68))) (fun j hj => by rw [w_siT, decide_eq_true_iff]; exact ⟨fun z => z.2, fun z => ⟨hj, z⟩⟩)
    rw [ew] at q1 q2
    have hF2 : w_MF (q_F w_E di e) (di 68) (di 70) P L := hF
    -- the model's side, by what is asked
    have hin : ¬ q_b ((0 : Int32) ≤ nI l ∧ nI l ≤ di 68 1 - 1) = 0 := q_bp.mpr (by rw [h1]; exact (w_told2 (by omega)).mpr ⟨l, hl, rfl⟩)
    have hsmall : ∀ (v : Int32) (e2 : Nat → Nat → Int32), q_CE (e2 54) (e2 55) (e2 56) (di 68) (di 70) P L → (0 : Int32) ≤ x2 → x2 ≤ 4 → x2 ≤ 2 → (x2 = 0 → v = nI (q_wv (di 68) (di 70) (q_pl (di 68)) l (q_an 63 (q_sm (di 68))) 7 0 0).1) → (x2 = 1 → v = nI (q_wv (di 68) (di 70) (q_pl (di 68)) l (q_an 63 (q_sm (di 68))) 7 0 0).2) → (¬ x2 = 0 → ¬ x2 = 1 → v = q_lb (di 68) (di 70) (q_pl (di 68)) l (q_an 63 (q_sm (di 68)))) →
        q_EX q_KD (d + 7) 157 0 [.ref 67, .int (nI l), .int x2, .retAddr 0] [] (n, sl, ln, q_F w_E di e2, dl, dr) (fun r2 h2 => r2 = some (.int v) ∧ w_R (c + 1) h2) := by
      intro v e2 hCE2 z1 z2 z3 v0 v1 v2
      have hF3 : w_MF (q_F w_E di e2) (di 68) (di 70) P L := hF
      refine g157_0 hg (c_isLine (d := d + 5) hg (g157_5 hg (fun z => absurd z hin) (fun _ => c_isIn hg (g157_14 hg (fun _ _ => c_seatA (d := d + 3) hF3 hg (fun D hM hN => g157_44 hg (c_lbA (d := d) hl (by decide) (w_MF_M hF3 hM) hN (w_plneg hF) hg (fun D2 dl2 hM2 _ _ r3 r4 => g157_51 hg (fun w1 w2 => ⟨?_, ?_⟩) (fun w1 w2 => ⟨?_, ?_⟩) (fun w1 => ⟨?_, ?_⟩))))) (fun _ w => absurd w (q_not_lt z3)) (fun _ w => absurd w (q_not_lt z3)) (fun w => absurd w (q_bp.mpr ⟨z1, z2⟩))))))
      · rw [v2 w1 w2]
      · exact w_end h (fun k hk => w_E_in hk) (w_M_tr hM hM2) (w_hcE b1 hCE2)
      · rw [r4, v1 w2]
      · exact w_end h (fun k hk => w_E_in hk) (w_M_tr hM hM2) (w_hcE b1 hCE2)
      · rw [r3, v0 w1]
      · exact w_end h (fun k hk => w_E_in hk) (w_M_tr hM hM2) (w_hcE b1 hCE2)
    have hlate : ∀ (v : Int32), (0 : Int32) ≤ x2 → x2 ≤ 4 → 2 < x2 → v = di 68 ((((46 : Int32) + (2 : Int32) * nI l) + x2) - 3).toNatClampNeg → vp_in ((((46 : Int32) + (2 : Int32) * nI l) + x2) - 3) 706 →
        q_EX q_KD (d + 7) 157 0 [.ref 67, .int (nI l), .int x2, .retAddr 0] [] (n, sl, ln, q_F w_E di e, dl, dr) (fun r2 h2 => r2 = some (.int v) ∧ w_R (c + 1) h2) := by
      intro v z1 z2 z3 hv hin2
      refine g157_0 hg (c_isLine (d := d + 5) hg (g157_5 hg (fun z => absurd z hin) (fun _ => c_isIn hg (g157_14 hg (fun _ w => absurd z3 (q_not_lt w)) (fun _ _ => hin2) (fun _ _ => ⟨?_, ?_⟩) (fun w => absurd w (q_bp.mpr ⟨z1, z2⟩))))))
      · rw [hv]; rfl
      · exact w_end h (fun k hk => w_E_in hk) (w_M_refl _) (w_hcE b1 q3)
    refine g87_47 hg (fun w => ⟨_, rfl, ?_⟩) (fun w => ⟨_, rfl, ?_⟩) (fun w => c_loudX (d := d + 3) (c := 0) hl (w_wv64 _ _ _ _ _ 7 0 0 (by decide)) (w_wv6 _ _ _ _ _ 7 0 0 (Nat.zero_le _)) (by decide) q1 q2 (q_W_F hH.1) q3 hg (fun e2 _ q5 => g87_109 hg ⟨_, rfl, ?_⟩)) (fun _ => vp_in_nI (by omega) (by decide)) (fun w => ⟨_, rfl, ?_⟩) (fun _ => vp_in_nI (by omega) (by decide)) (fun w => ⟨_, rfl, ?_⟩) (fun w0 w1 w2 w3 w4 => ⟨_, rfl, ?_⟩)
    · subst w
      exact hsmall _ e q3 (by decide) (by decide) (by decide) (fun _ => q1) (fun w => absurd w (by decide)) (fun w => absurd rfl w)
    · subst w
      exact hsmall _ e q3 (by decide) (by decide) (by decide) (fun w => absurd w (by decide)) (fun _ => q2) (fun _ w => absurd rfl w)
    · subst w
      rw [q_FF]
      exact hsmall _ e2 q5 (by decide) (by decide) (by decide) (fun w => absurd w (by decide)) (fun w => absurd w (by decide)) (fun _ _ => rfl)
    · subst w
      have e46 : (((46 : Int32) + (2 : Int32) * nI l) + 3) - 3 = nI (46 + 2 * l) := by
        rw [q_i46, Int32.add_comm]; exact q_sub1 3 _
      refine hlate _ (by decide) (by decide) (by decide) ?_ ?_
      · rw [e46, hln, nI_clamp (by omega)]; exact (hH.1.2.2.2.2.2.1 l (by omega)).1
      · rw [e46]; exact vp_in_nI (by omega) (by decide)
    · subst w
      have e46 : (((46 : Int32) + (2 : Int32) * nI l) + 4) - 3 = nI (46 + 2 * l + 1) := by
        have e4 : nI (46 + 2 * l) + 4 = 3 + nI (46 + 2 * l + 1) := by
          rw [show (4 : Int32) = nI 4 from rfl, show (3 : Int32) = nI 3 from rfl, nI_add, nI_add, show 46 + 2 * l + 4 = 3 + (46 + 2 * l + 1) by omega]
        rw [q_i46, e4]
        exact q_sub1 3 _
      refine hlate _ (by decide) (by decide) (by decide) ?_ ?_
      · rw [e46, hln, nI_clamp (by omega)]; exact (hH.1.2.2.2.2.2.1 l (by omega)).2.1
      · rw [e46]; exact vp_in_nI (by omega) (by decide)
    · refine g157_0 hg (c_isLine (d := d + 5) hg (g157_5 hg (fun z => absurd z hin) (fun _ => c_isIn hg (g157_14 hg (fun w _ => ?_) (fun w _ => ?_) (fun w _ => ?_) (fun w => ⟨rfl, w_end h (fun k hk => w_E_in hk) (w_M_refl _) (w_hcE b1 q3)⟩)))))
      all_goals
        exfalso
        obtain ⟨z1, z2⟩ := q_bp.mp w
        simp only [fa_le, fa_eq, q_t0, q_t1, q_t2, q_t3, q_t4] at z1 z2 w0 w1 w2 w3 w4
        omega
  · rw [h12, ← h1] at y
    exact ⟨-1, rfl, g157_0 hg (c_isLine (d := d + 5) hg (g157_5 hg (fun _ => ⟨rfl, w_RR_up h⟩) (fun z => absurd y z)))⟩
end
