/-! small operations -/
theorem w_RHd {n : Nat} {ln : Nat → Nat} {di di' : Nat → Nat → Int32} {h w s c st pd so po se r17 r18 r19 r20 r21 r22 : Nat → Int32} {sc : Nat → Option Nat} {a tx : Nat → Int32} {P L T S K : Nat} (b : q_RH n ln di h w s c st pd so po se r17 r18 r19 r20 r21 r22 sc a tx P L T S K) (hd : ∀ k, 84 ≤ k → di' k = di k) : q_RH n ln di' h w s c st pd so po se r17 r18 r19 r20 r21 r22 sc a tx P L T S K := by
  obtain ⟨c1, c2, c3, c4, c5, c6, c7, c8, c9, c10, c11⟩ := b
  exact ⟨c1, c2, c3, c4, c5, c6, c7, c8, c9, c10, q_Sc_cg c11 hd⟩
theorem w_RHa {n : Nat} {ln : Nat → Nat} {di di' : Nat → Nat → Int32} {h h' w s c st pd so po se se' r17 r18 r19 r20 r21 r22 : Nat → Int32} {sc : Nat → Option Nat} {a a' tx : Nat → Int32} {P L T S K K' : Nat} (b : q_RH n ln di h w s c st pd so po se r17 r18 r19 r20 r21 r22 sc a tx P L T S K) (hd : ∀ k, 84 ≤ k → di' k = di k) (ha : ∀ i, 10 ≤ i → ¬ (66 ≤ i ∧ i < 76) → a' i = a i) (hIc : q_Ic a' P L T S K') (hCo : q_Co h' a') (h11 : h' 11 = h 11) (hSe : q_Se se' a') : q_RH n ln di' h' w s c st pd so po se' r17 r18 r19 r20 r21 r22 sc a' tx P L T S K' := by
  obtain ⟨c1, c2, c3, c4, c5, c6, c7, c8, c9, c10, c11⟩ := b
  have hS := c1.2.2.2.1
  refine ⟨hIc, q_Ip_cg c2 (fun i h1 h2 => ha i h1 (by omega)), q_Il_cg c3 (fun i h1 h2 => ha i (by omega) (by omega)), q_Is_cg c4 hS (fun i h1 h2 => ha i (by omega) (by omega)), hCo, q_Pe_cg c6 (fun i h1 h2 => ha i h1 (by omega)), ?_, q_Li_cg c8 (fun i h1 h2 => ha i (by omega) (by omega)), hSe, q_St_cg c10 hS (fun i h1 h2 => ha i (by omega) (by omega)), q_Sc_cg c11 hd⟩
  rw [h11]
  exact q_sb_cg c7 (fun j hj => ha _ (by omega) (by omega))
theorem w_84 {di : Nat → Nat → Int32} {a j k : Nat} {v : Int32} (ha : a < 84) (hk : 84 ≤ k) : q_u di a j v k = di k := q_uR (by omega)
section
variable {c d n sl : Nat} {ln : Nat → Nat} {di : Nat → Nat → Int32} {dl : Nat → Nat → Int64} {dr : Nat → Nat → Option Nat}
theorem o_seed {x1 : Int32} (h : q_RR c n sl ln di dr) : o_op (d + 1) 17 121 [.ref 6, .int x1] [.ref 67, .int x1] c (n, sl, ln, di, dl, dr) := by
  have hR := h
  obtain ⟨hg, a2, a3, a4, a5, a6, P, L, T, S, K, P', L', T', S', K', b1, b2, b3, b4, b5⟩ := hR
  refine c_seedX hg (fun hx => ⟨_, rfl, c_seedM hg (fun _ => ⟨rfl, ?_⟩) (fun hn => absurd hx hn)⟩) (fun hn => ⟨_, rfl, c_seedM hg (fun hx => absurd hx hn) (fun _ => ⟨rfl, w_RR_up h⟩)⟩)
  refine w_RR_up ⟨hg, a2, a3, a4, a5, a6, P, L, T, S, K, P', L', T', S', K', ?_, w_RHd b2 (fun k hk => (w_84 (by decide) hk).trans (w_84 (by decide) hk)), b3, ?_, ?_⟩
  · refine w_RHa (h' := va_up (di 7) 16 ((x1 * 3) + 17)) (a' := va_up (di 68) 3 ((x1 * 3) + 17)) b1 (fun k hk => (w_84 (by decide) hk).trans (w_84 (by decide) hk)) (fun i h1 h2 => q_upN _ _ (by omega)) ?_ ?_ rfl ?_
    · exact b1.1
    · exact ⟨b1.2.2.2.2.1.1, b1.2.2.2.2.1.2.1, b1.2.2.2.2.1.2.2.1, rfl, b1.2.2.2.2.1.2.2.2.2⟩
    · exact q_Se_cg b1.2.2.2.2.2.2.2.2.1 (fun i h1 h2 => q_upN _ _ (by omega))
  · exact q_CE_cg (a' := va_up (di 68) 3 ((x1 * 3) + 17)) b4 (Nat.le_refl _) (Nat.le_refl _) rfl (fun j _ => ⟨q_upN _ _ (by omega), q_upN _ _ (by omega)⟩) (fun l _ => ⟨q_upN _ _ (by omega), q_upN _ _ (by omega)⟩)
  · exact w_CR_T (a' := va_up (di 68) 3 ((x1 * 3) + 17)) b5 b1.1.1 rfl (fun j _ => ⟨q_upN _ _ (by omega), q_upN _ _ (by omega), q_upN _ _ (by omega), q_upN _ _ (by omega)⟩) (fun l _ => ⟨q_upN _ _ (by omega), q_upN _ _ (by omega)⟩)
theorem o_fault {x1 : Int32} (h : q_RR c n sl ln di dr) : o_op d 57 155 [.ref 6, .int x1] [.ref 67, .int x1] c (n, sl, ln, di, dl, dr) := by
  have hg := h.1
  have hF := h.2.2.2.2.2.1
  refine g57_0 hg (fun w1 w2 => ⟨_, rfl, g155_0 hg (fun _ _ => ⟨rfl, w_RR_up h⟩) (fun _ z => absurd z w2) (fun z => absurd z w1)⟩) (fun w1 w2 => ⟨_, rfl, g155_0 hg (fun _ z => absurd w2 z) (fun _ _ => ⟨by rw [hF.2], w_RR_up h⟩) (fun z => absurd z w1)⟩) (fun w1 => ⟨_, rfl, g155_0 hg (fun z => absurd w1 z) (fun z => absurd w1 z) (fun _ => ⟨by rw [hF.1], w_RR_up h⟩)⟩)
theorem o_end {x1 : Int32} (h : q_RR c n sl ln di dr) : o_op (d + 1) 20 124 [.ref 6, .int x1] [.ref 67, .int x1] c (n, sl, ln, di, dl, dr) := by
  have hR := h
  obtain ⟨hg, a2, a3, a4, ⟨N, hN, n1, n2, n3⟩, a6, P, L, T, S, K, P', L', T', S', K', b1, b2, b3, b4, b5⟩ := hR
  refine g20_0 hg (c_within hg (g20_14 hg (fun y => ⟨_, rfl, g124_0 hg (c_isIn hg (g124_9 hg (fun y2 => ⟨rfl, ?_⟩) (fun y2 => ?_)))⟩) (fun y => ⟨_, rfl, g124_0 hg (c_isIn hg (g124_9 hg (fun y2 => ?_) (fun _ => ⟨rfl, w_RR_up h⟩)))⟩)))
  · have y' := q_bp.mp y
    rw [n1] at y'
    obtain ⟨m, hm, hx⟩ := nI_of2 (M := nI N) (n := N) (nI_toInt (by omega)) (q_not_lt y'.1) y'.2
    subst hx
    refine w_RR_up ⟨hg, a2, a3, a4, ⟨m, by omega, rfl, rfl, fun i hi => n3 i (by omega)⟩, a6, P, L, T, S, K, P', L', T', S', K', w_RHd b1 (fun k hk => (w_84 (by decide) hk).trans (w_84 (by decide) hk)), w_RHd b2 (fun k hk => (w_84 (by decide) hk).trans (w_84 (by decide) hk)), b3, b4, b5⟩
  · have y2' : ¬ ((0 : Int32) ≤ x1 ∧ x1 ≤ di 67 4) := q_bn.mp y2
    rw [n2, ← n1] at y2'
    exact absurd (q_bp.mp y) y2'
  · have y2' : (0 : Int32) ≤ x1 ∧ x1 ≤ di 67 4 := q_bp.mp y2
    rw [n2, ← n1] at y2'
    exact absurd y2' (q_bn.mp y)
theorem o_seen {x1 : Int32} (h : q_RR c n sl ln di dr) : o_op (d + 1) 106 201 [.ref 6, .int x1] [.ref 67, .int x1] c (n, sl, ln, di, dl, dr) := by
  have hR := h
  obtain ⟨hg, a2, a3, a4, a5, a6, P, L, T, S, K, P', L', T', S', K', b1, b2, b3, b4, b5⟩ := hR
  obtain ⟨i1, i2, i3, i4, i5, i6, i7, i8, i9, i10, i11⟩ := b1.1
  have h13 : di 7 13 = nI K := by rw [b1.2.2.2.2.1.2.2.2.2.2.2]; exact i10
  have h12 : di 7 12 = nI L := by rw [b1.2.2.2.2.1.2.1]; exact i7
  have hKn : (nI K).toNatClampNeg = K := nI_clamp (by omega)
  have e66 : (66 : Int32) + nI K = nI (66 + K) := by rw [q_pa]; rfl
  have e66n : (nI (66 + K)).toNatClampNeg = 66 + K := nI_clamp (by omega)
  refine g106_0 hg (fun w => c_within hg (g106_21 hg (fun y => ⟨_, rfl, g201_0 hg (fun _ => c_isIn hg (g201_22 hg (fun _ => ⟨rfl, w_RR_up h⟩) (fun z => absurd y z) (fun z => absurd y z) (fun z => absurd y z))) (fun z => absurd z w)⟩) (fun _ y2 => ?_) (fun y y2 => ⟨_, rfl, ?_⟩) (fun y y2 => ⟨_, rfl, ?_⟩))) (fun w => ⟨_, rfl, g201_0 hg (fun z => absurd w z) (fun _ => ⟨rfl, ?_⟩)⟩)
  · rw [h13, h12] at y2
    have := (nI_ltI (by omega) (by omega)).mp y2
    rw [h13]; exact vp_in_nI (by omega) (by decide)
  · rw [h13, h12] at y2
    have hlt := (nI_ltI (by omega) (by omega)).mp y2
    rw [h13, hKn, nI_1]
    have j7 : (q_u (q_u di 15 K x1) 7 13 (nI (K + 1))) 68 7 = nI K := i10
    have j1 : (q_u (q_u di 15 K x1) 7 13 (nI (K + 1))) 68 1 = nI L := i7
    refine g201_0 hg (fun _ => c_isIn hg (g201_22 hg (fun z => absurd z y) (fun _ _ => ?_) (fun _ _ => ?_) (fun _ z => ?_))) (fun z => absurd z w)
    · rw [j7, e66]; exact vp_in_nI (by omega) (by decide)
    · rw [j7, e66, e66n, q_uN _ _ _ _ _ (by omega), j7, nI_1]
      refine ⟨rfl, w_RR_up ⟨hg, a2, a3, a4, a5, a6, P, L, T, S, K + 1, P', L', T', S', K', ?_, w_RHd b2 (fun k hk => (w_84 (by decide) hk).trans ((w_84 (by decide) hk).trans ((w_84 (by decide) hk).trans (w_84 (by decide) hk)))), b3, ?_, ?_⟩⟩
      · refine w_RHa (h' := va_up (di 7) 13 (nI (K + 1))) (se' := va_up (di 15) K x1) (a' := va_up (va_up (di 68) (66 + K) x1) 7 (nI (K + 1))) b1 (fun k hk => (w_84 (by decide) hk).trans ((w_84 (by decide) hk).trans ((w_84 (by decide) hk).trans (w_84 (by decide) hk)))) (fun i h1 h2 => by rw [q_upN _ _ (by omega), q_upN _ _ (by omega)]) ?_ ?_ rfl ?_
        · refine ⟨i1, i2, i3, i4, by omega, ?_, ?_, ?_, ?_, rfl, ?_⟩
          · rw [q_upN _ _ (by omega), q_upN _ _ (by omega)]; exact i6
          · rw [q_upN _ _ (by omega), q_upN _ _ (by omega)]; exact i7
          · rw [q_upN _ _ (by omega), q_upN _ _ (by omega)]; exact i8
          · rw [q_upN _ _ (by omega), q_upN _ _ (by omega)]; exact i9
          · rw [q_upN _ _ (by omega), q_upN _ _ (by omega)]; exact i11
        · obtain ⟨c1, c2, c3, c4, c5, c6, c7⟩ := b1.2.2.2.2.1
          refine ⟨?_, ?_, ?_, ?_, ?_, ?_, rfl⟩
          · rw [q_upN (va_up (di 68) (66 + K) x1) _ (by omega), q_upN (di 68) _ (by omega)]; exact c1
          · rw [q_upN (va_up (di 68) (66 + K) x1) _ (by omega), q_upN (di 68) _ (by omega)]; exact c2
          · rw [q_upN (va_up (di 68) (66 + K) x1) _ (by omega), q_upN (di 68) _ (by omega)]; exact c3
          · rw [q_upN (va_up (di 68) (66 + K) x1) _ (by omega), q_upN (di 68) _ (by omega)]; exact c4
          · rw [q_upN (va_up (di 68) (66 + K) x1) _ (by omega), q_upN (di 68) _ (by omega)]; exact c5
          · rw [q_upN (va_up (di 68) (66 + K) x1) _ (by omega), q_upN (di 68) _ (by omega)]; exact c6
        · intro l hl
          rw [q_upN (va_up (di 68) (66 + K) x1) _ (by omega)]
          by_cases e : l = K
          · subst e; rw [q_upE, q_upE]
          · rw [q_upN _ _ e, q_upN _ _ (by omega)]; exact b1.2.2.2.2.2.2.2.2.1 l hl
      · exact q_CE_cg (a' := va_up (va_up (di 68) (66 + K) x1) 7 (nI (K + 1))) b4 (Nat.le_refl _) (Nat.le_refl _) (by rw [q_upN _ _ (by omega), q_upN _ _ (by omega)]) (fun j _ => ⟨by rw [q_upN _ _ (by omega), q_upN _ _ (by omega)], by rw [q_upN _ _ (by omega), q_upN _ _ (by omega)]⟩) (fun l _ => ⟨by rw [q_upN _ _ (by omega), q_upN _ _ (by omega)], by rw [q_upN _ _ (by omega), q_upN _ _ (by omega)]⟩)
      · exact w_CR_T (a' := va_up (va_up (di 68) (66 + K) x1) 7 (nI (K + 1))) b5 i1 (by rw [q_upN _ _ (by omega), q_upN _ _ (by omega)]) (fun j _ => ⟨by rw [q_upN _ _ (by omega), q_upN _ _ (by omega)], by rw [q_upN _ _ (by omega), q_upN _ _ (by omega)], by rw [q_upN _ _ (by omega), q_upN _ _ (by omega)], by rw [q_upN _ _ (by omega), q_upN _ _ (by omega)]⟩) (fun l _ => ⟨by rw [q_upN _ _ (by omega), q_upN _ _ (by omega)], by rw [q_upN _ _ (by omega), q_upN _ _ (by omega)]⟩)
    · rw [j7, j1] at z
      exact absurd y2 (q_nle z)
  · rw [h13, h12] at y2
    refine g201_0 hg (fun _ => c_isIn hg (g201_22 hg (fun z => absurd z y) (fun _ z => ?_) (fun _ z => ?_) (fun _ _ => ⟨rfl, w_RR_up h⟩))) (fun z => absurd z w)
    · rw [i10, i7] at z; exact absurd z (q_not_lt y2)
    · rw [i10, i7] at z; exact absurd z (q_not_lt y2)
  · refine w_RR_up ⟨hg, a2, a3, a4, a5, a6, P, L, T, S, 0, P', L', T', S', K', ?_, w_RHd b2 (fun k hk => (w_84 (by decide) hk).trans (w_84 (by decide) hk)), b3, ?_, ?_⟩
    · refine w_RHa (h' := va_up (di 7) 13 0) (a' := va_up (di 68) 7 0) b1 (fun k hk => (w_84 (by decide) hk).trans (w_84 (by decide) hk)) (fun i h1 h2 => q_upN _ _ (by omega)) ⟨i1, i2, i3, i4, by omega, i6, i7, i8, i9, rfl, i11⟩ ?_ rfl (q_Se_cg b1.2.2.2.2.2.2.2.2.1 (fun i h1 h2 => q_upN _ _ (by omega)))
      obtain ⟨c1, c2, c3, c4, c5, c6, c7⟩ := b1.2.2.2.2.1
      exact ⟨c1, c2, c3, c4, c5, c6, rfl⟩
    · exact q_CE_cg (a' := va_up (di 68) 7 0) b4 (Nat.le_refl _) (Nat.le_refl _) rfl (fun j _ => ⟨q_upN _ _ (by omega), q_upN _ _ (by omega)⟩) (fun l _ => ⟨q_upN _ _ (by omega), q_upN _ _ (by omega)⟩)
    · exact w_CR_T (a' := va_up (di 68) 7 0) b5 i1 rfl (fun j _ => ⟨q_upN _ _ (by omega), q_upN _ _ (by omega), q_upN _ _ (by omega), q_upN _ _ (by omega)⟩) (fun l _ => ⟨q_upN _ _ (by omega), q_upN _ _ (by omega)⟩)
end
