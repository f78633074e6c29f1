theorem w_lowI (z : Int32) : z.toInt8.toInt32 &&& 255 = z &&& 255 := by
  obtain ⟨m, hm, e⟩ := pk_andE z (m := 255) 8 (by decide)
  have h1 : (z &&& 255).toInt8 = z.toInt8 := by
    apply Int8.toBitVec_inj.1
    show BitVec.signExtend 8 (z.toBitVec &&& 255#32) = BitVec.signExtend 8 z.toBitVec
    apply BitVec.eq_of_getLsbD_eq
    intro i hi
    rw [BitVec.getLsbD_signExtend, BitVec.getLsbD_signExtend]
    have : ∀ i, i < 8 → (255#32).getLsbD i = true := by decide
    simp only [BitVec.getLsbD_and, this i hi, Bool.and_true, show i < 32 by omega, if_true, hi, decide_true]
  rw [← h1, e]
  exact sc_k8 m hm
section
variable {c d n sl : Nat} {ln : Nat → Nat} {di : Nat → Nat → Int32} {dl : Nat → Nat → Int64} {dr : Nat → Nat → Option Nat} {Q : Option Value → q_H → Prop}
theorem o_line {x1 x2 : Int32} (h : q_RR c n sl ln di dr) : o_op (d + 2) 14 120 [.ref 6, .int x1, .int x2] [.ref 67, .int x1, .int x2] c (n, sl, ln, di, dl, dr) := by
  have hR := h
  obtain ⟨hg, a2, a3, a4, a5, a6, P, L, T, S, K, P', L', T', S', K', b1, b2, b3, b4, b5⟩ := hR
  obtain ⟨i1, i2, i3, i4, i5, i6, i7, i8, i9, i10, i11⟩ := b1.1
  have h12 : di 7 12 = nI L := by rw [b1.2.2.2.2.1.2.1]; exact i7
  refine c_lineX L i2 h12 (hg.2.1 61 64 rfl) hg (fun q1 q2 hL => ⟨_, rfl, ?_⟩) (fun q1 q2 hL => ⟨_, rfl, ?_⟩) (fun z => ⟨_, rfl, c_lineM (d := d + 1) L i2 i7 hg (fun q1 q2 hL => absurd ⟨q1, q2⟩ z) (fun _ => ⟨rfl, w_RR_up h⟩)⟩)
  · rw [w_fill]
    refine c_lineM (d := d + 1) L i2 i7 hg (fun _ _ _ => ⟨rfl, ?_⟩) (fun z => absurd ⟨q1, q2, hL⟩ z)
    obtain ⟨v1, hv1, e1⟩ := nI_of2 (M := 2) (n := 2) rfl (q_not_lt q1.1) q1.2
    obtain ⟨v2, hv2, e2⟩ := nI_of2 (M := 9) (n := 9) rfl (q_not_lt q2.1) q2.2
    obtain ⟨a', ha⟩ : ∃ a', a' = va_up (va_up (va_up (di 68) (46 + 2 * L) x1) (46 + 2 * L + 1) x2) 1 (nI (L + 1)) := ⟨_, rfl⟩
    have A1 : a' 1 = nI (L + 1) := by rw [ha, q_upE]
    have As : a' (46 + 2 * L) = x1 := by rw [ha, q_upN _ _ (by omega), q_upN _ _ (by omega), q_upE]
    have Ap : a' (46 + 2 * L + 1) = x2 := by rw [ha, q_upN _ _ (by omega), q_upE]
    have AN : ∀ i, ¬ i = 1 → ¬ i = 46 + 2 * L → ¬ i = 46 + 2 * L + 1 → a' i = di 68 i := fun i h1 h2 h3 => by
      rw [ha, q_upN _ _ h1, q_upN _ _ h3, q_upN _ _ h2]
    have hd : ∀ k, 84 ≤ k → q_u (q_u (q_u (q_u (q_u (q_u (q_u (va_up di 61 (w_fl (di 61) (-1) 64)) 60 9 0) 13 L x1) 14 L x2) 7 12 (nI (L + 1))) 68 (46 + 2 * L) x1) 68 (46 + 2 * L + 1) x2) 68 1 (nI (L + 1)) k = di k := fun k hk => by
      rw [w_84 (by decide) hk, w_84 (by decide) hk, w_84 (by decide) hk, w_84 (by decide) hk, w_84 (by decide) hk, w_84 (by decide) hk, w_84 (by decide) hk, w_84u (by decide) hk]
    have e68 : (q_u (q_u (q_u (q_u (q_u (q_u (q_u (va_up di 61 (w_fl (di 61) (-1) 64)) 60 9 0) 13 L x1) 14 L x2) 7 12 (nI (L + 1))) 68 (46 + 2 * L) x1) 68 (46 + 2 * L + 1) x2) 68 1 (nI (L + 1))) 68 = a' := by rw [ha]; rfl
    obtain ⟨c1, c2, c3, c4, c5, c6, c7⟩ := b1.2.2.2.2.1
    refine w_RR_up ⟨hg, a2, a3, a4, a5, a6, P, L + 1, T, S, K, P', L', T', S', K', ?_, w_RHd b2 hd, b3, ?_, w_CR_0 (fun m hm => w_flI hm) rfl⟩
    · show q_RH n ln _ (va_up (di 7) 12 (nI (L + 1))) (di 8) (di 9) (di 10) (di 11) (di 12) (va_up (di 13) L x1) (va_up (di 14) L x2) (di 15) (di 17) (di 18) (di 19) (di 20) (di 21) (di 22) (dr 16) (q_u (q_u (q_u (q_u (q_u (q_u (q_u (va_up di 61 (w_fl (di 61) (-1) 64)) 60 9 0) 13 L x1) 14 L x2) 7 12 (nI (L + 1))) 68 (46 + 2 * L) x1) 68 (46 + 2 * L + 1) x2) 68 1 (nI (L + 1)) 68) (di 70) P (L + 1) T S K
      rw [e68]
      refine ⟨⟨i1, by omega, i3, i4, by omega, ?_, A1, ?_, ?_, ?_, ?_⟩, q_Ip_cg b1.2.1 (fun i h1 h2 => AN i (by omega) (by omega) (by omega)), fun l hl => ?_, q_Is_cg b1.2.2.2.1 i4 (fun i h1 h2 => AN i (by omega) (by omega) (by omega)), ⟨?_, ?_, ?_, ?_, ?_, ?_, ?_⟩, q_Pe_cg b1.2.2.2.2.2.1 (fun i h1 h2 => AN i (by omega) (by omega) (by omega)), q_sb_cg b1.2.2.2.2.2.2.1 (fun j hj => AN _ (by omega) (by omega) (by omega)), fun l hl => ?_, q_Se_cg b1.2.2.2.2.2.2.2.2.1 (fun i h1 h2 => AN i (by omega) (by omega) (by omega)), q_St_cg b1.2.2.2.2.2.2.2.2.2.1 i4 (fun i h1 h2 => AN i (by omega) (by omega) (by omega)), q_Sc_cg b1.2.2.2.2.2.2.2.2.2.2 hd⟩
      · rw [AN 0 (by omega) (by omega) (by omega)]; exact i6
      · rw [AN 4 (by omega) (by omega) (by omega)]; exact i8
      · rw [AN 6 (by omega) (by omega) (by omega)]; exact i9
      · rw [AN 7 (by omega) (by omega) (by omega)]; exact i10
      · rw [AN 5 (by omega) (by omega) (by omega)]; exact i11
      · by_cases e : l = L
        · subst e
          rw [As, Ap]
          exact ⟨⟨v1, by omega, e1⟩, ⟨v2, by omega, e2⟩⟩
        · rw [AN _ (by omega) (by omega) (by omega), AN _ (by omega) (by omega) (by omega)]
          exact b1.2.2.1 l hl
      · rw [AN 0 (by omega) (by omega) (by omega)]; exact c1
      · rw [A1]; rfl
      · rw [AN 2 (by omega) (by omega) (by omega)]; exact c3
      · rw [AN 3 (by omega) (by omega) (by omega)]; exact c4
      · rw [AN 4 (by omega) (by omega) (by omega)]; exact c5
      · rw [AN 5 (by omega) (by omega) (by omega)]; exact c6
      · rw [AN 7 (by omega) (by omega) (by omega)]; exact c7
      · by_cases e : l = L
        · subst e
          rw [As, Ap, q_upE, q_upE]
          exact ⟨rfl, rfl⟩
        · rw [AN _ (by omega) (by omega) (by omega), AN _ (by omega) (by omega) (by omega), q_upN _ _ e, q_upN _ _ e]
          exact b1.2.2.2.2.2.2.2.1 l hl
    · show q_CE (di 54) (di 55) (di 56) (q_u (q_u (q_u (q_u (q_u (q_u (q_u (va_up di 61 (w_fl (di 61) (-1) 64)) 60 9 0) 13 L x1) 14 L x2) 7 12 (nI (L + 1))) 68 (46 + 2 * L) x1) 68 (46 + 2 * L + 1) x2) 68 1 (nI (L + 1)) 68) (di 70) P (L + 1)
      rw [e68]
      exact q_CE_cg b4 (Nat.le_refl _) (by omega) (AN 5 (by omega) (by omega) (by omega)) (fun j hj => ⟨AN _ (by omega) (by omega) (by omega), AN _ (by omega) (by omega) (by omega)⟩) (fun l hl => ⟨AN _ (by omega) (by omega) (by omega), AN _ (by omega) (by omega) (by omega)⟩)
  · rw [w_fill]
    refine c_lineM (d := d + 1) L i2 i7 hg (fun _ _ z => absurd z (by omega)) (fun _ => ⟨rfl, ?_⟩)
    exact w_RR_up ⟨hg, a2, a3, a4, a5, a6, P, L, T, S, K, P', L', T', S', K', w_RHd b1 (fun k hk => (w_84 (by decide) hk).trans (w_84u (by decide) hk)), w_RHd b2 (fun k hk => (w_84 (by decide) hk).trans (w_84u (by decide) hk)), b3, b4, w_CR_0 (fun m hm => w_flI hm) rfl⟩
/-- four bytes behind the tape -/
theorem c_app {x : Int32} {N : Nat} (hN : N + 4 ≤ 300) (h3 : di 40 3 = nI N) (hg : q_Gr n ln dr)
    (k : ∀ r : Nat → Int32, (∀ i, i < N → r i = di 41 i) → r N &&& 255 = (x >>> ((24 : Int32) &&& 31)) &&& 255 → r (N + 1) &&& 255 = (x >>> ((16 : Int32) &&& 31)) &&& 255 → r (N + 2) &&& 255 = (x >>> ((8 : Int32) &&& 31)) &&& 255 → r (N + 3) &&& 255 = (x >>> ((0 : Int32) &&& 31)) &&& 255 → Q none (n, sl, ln, va_up (va_up di 41 r) 40 (va_up (di 40) 3 (nI (N + 4))), dl, dr)) :
    q_EX q_KD d 19 0 [.ref 40, .int x, .retAddr 0] [] (n, sl, ln, di, dl, dr) Q := by
  have one : ∀ (M : Nat) (r : Nat → Int32) (s : Int32), M < 300 → (0 : Int32) ≤ s → q_EX q_KD d 19 3 [.ref 40, .int x, .int (s + -8)] [] (n, sl, ln, va_up (va_up di 41 (va_up r M (vp_nar .byte ((x >>> (s &&& 31)).toInt8.toInt32)))) 40 (va_up (di 40) 3 (nI (M + 1))), dl, dr) Q → q_EX q_KD d 19 3 [.ref 40, .int x, .int s] [] (n, sl, ln, va_up (va_up di 41 r) 40 (va_up (di 40) 3 (nI M)), dl, dr) Q := by
    intro M r s hM hs kk
    have e3 : va_up (va_up di 41 r) 40 (va_up (di 40) 3 (nI M)) 40 3 = nI M := rfl
    refine g19_3 hg (fun w => absurd hs (q_lt0.mp w)) (fun _ w => absurd w (by rw [e3]; exact nI_ge (b := 300) hM (by decide))) (fun _ _ => by rw [e3]; exact vp_in_nI hM (by decide)) (fun _ _ => ?_)
    rw [e3, nI_clamp (by omega), nI_1]
    have eh : q_u (q_u (va_up (va_up di 41 r) 40 (va_up (di 40) 3 (nI M))) 41 M (vp_nar .byte ((x >>> (s &&& 31)).toInt8.toInt32))) 40 3 (nI (M + 1)) = va_up (va_up di 41 (va_up r M (vp_nar .byte ((x >>> (s &&& 31)).toInt8.toInt32)))) 40 (va_up (di 40) 3 (nI (M + 1))) := by
      funext i
      by_cases h1 : i = 40
      · subst h1
        show va_up (va_up (di 40) 3 (nI M)) 3 (nI (M + 1)) = va_up (di 40) 3 (nI (M + 1))
        rw [q_upup]
      · rw [q_uR h1, q_upN _ _ h1]
        by_cases h2 : i = 41
        · subst h2; rfl
        · rw [q_uR h2, q_upN _ _ h1, q_upN _ _ h2, q_upN _ _ h2]
    rw [eh]
    exact kk
  have e0 : di = va_up (va_up di 41 (di 41)) 40 (va_up (di 40) 3 (nI N)) := by rw [← h3, q_upid, q_upid, q_upid]
  refine g19_0 hg ?_
  rw [e0]
  refine one N _ 24 (by omega) (by decide) ?_
  rw [show (24 : Int32) + -8 = 16 from rfl]
  refine one (N + 1) _ 16 (by omega) (by decide) ?_
  rw [show (16 : Int32) + -8 = 8 from rfl]
  refine one (N + 2) _ 8 (by omega) (by decide) ?_
  rw [show (8 : Int32) + -8 = 0 from rfl]
  refine one (N + 3) _ 0 (by omega) (by decide) ?_
  refine g19_3 hg (fun _ => k _ (fun i hi => ?_) ?_ ?_ ?_ ?_) (fun w => absurd w (by decide)) (fun w => absurd w (by decide)) (fun w => absurd w (by decide))
  · rw [q_upN _ _ (by omega), q_upN _ _ (by omega), q_upN _ _ (by omega), q_upN _ _ (by omega)]
  · rw [q_upN _ _ (by omega), q_upN _ _ (by omega), q_upN _ _ (by omega), q_upE, pk_vb, w_lowI]
  · rw [q_upN _ _ (by omega), q_upN _ _ (by omega), q_upE, pk_vb, w_lowI]
  · rw [q_upN _ _ (by omega), q_upE, pk_vb, w_lowI]
  · rw [q_upE, pk_vb, w_lowI]
theorem c_four {x : Int32} {N : Nat} (hN : N + 4 ≤ 300) (h4 : di 67 4 = nI N) (hg : q_Gr n ln dr)
    (k : ∀ r : Nat → Int32, (∀ i, i < N → r i = di 71 i) → r N = (x >>> ((24 : Int32) &&& 31)) &&& 255 → r (N + 1) = (x >>> ((16 : Int32) &&& 31)) &&& 255 → r (N + 2) = (x >>> ((8 : Int32) &&& 31)) &&& 255 → r (N + 3) = (x >>> ((0 : Int32) &&& 31)) &&& 255 → Q none (n, sl, ln, va_up (va_up di 71 r) 67 (va_up (di 67) 4 (nI (N + 4))), dl, dr)) :
    q_EX q_KD d 123 0 [.ref 67, .int x, .retAddr 0] [] (n, sl, ln, di, dl, dr) Q := by
  have one : ∀ (M : Nat) (r : Nat → Int32) (s : Int32), M < 300 → (0 : Int32) ≤ s → q_EX q_KD d 123 3 [.ref 67, .int x, .int (s + -8)] [] (n, sl, ln, va_up (va_up di 71 (va_up r M ((x >>> (s &&& 31)) &&& 255))) 67 (va_up (di 67) 4 (nI (M + 1))), dl, dr) Q → q_EX q_KD d 123 3 [.ref 67, .int x, .int s] [] (n, sl, ln, va_up (va_up di 71 r) 67 (va_up (di 67) 4 (nI M)), dl, dr) Q := by
    intro M r s hM hs kk
    have e3 : va_up (va_up di 71 r) 67 (va_up (di 67) 4 (nI M)) 67 4 = nI M := rfl
    refine g123_3 hg (fun w => absurd hs (q_lt0.mp w)) (fun _ => by rw [e3]; exact vp_in_nI hM (by decide)) (fun _ => ?_)
    rw [e3, nI_clamp (by omega), nI_1]
    have eh : q_u (q_u (va_up (va_up di 71 r) 67 (va_up (di 67) 4 (nI M))) 71 M ((x >>> (s &&& 31)) &&& 255)) 67 4 (nI (M + 1)) = va_up (va_up di 71 (va_up r M ((x >>> (s &&& 31)) &&& 255))) 67 (va_up (di 67) 4 (nI (M + 1))) := by
      funext i
      by_cases h1 : i = 67
      · subst h1
        show va_up (va_up (di 67) 4 (nI M)) 4 (nI (M + 1)) = va_up (di 67) 4 (nI (M + 1))
        rw [q_upup]
      · rw [q_uR h1, q_upN _ _ h1]
        by_cases h2 : i = 71
        · subst h2; rfl
        · rw [q_uR h2, q_upN _ _ h1, q_upN _ _ h2, q_upN _ _ h2]
    rw [eh]
    exact kk
  have e0 : di = va_up (va_up di 71 (di 71)) 67 (va_up (di 67) 4 (nI N)) := by rw [← h4, q_upid, q_upid, q_upid]
  refine g123_0 hg ?_
  rw [e0]
  refine one N _ 24 (by omega) (by decide) ?_
  rw [show (24 : Int32) + -8 = 16 from rfl]
  refine one (N + 1) _ 16 (by omega) (by decide) ?_
  rw [show (16 : Int32) + -8 = 8 from rfl]
  refine one (N + 2) _ 8 (by omega) (by decide) ?_
  rw [show (8 : Int32) + -8 = 0 from rfl]
  refine one (N + 3) _ 0 (by omega) (by decide) ?_
  refine g123_3 hg (fun _ => k _ (fun i hi => ?_) ?_ ?_ ?_ ?_) (fun w => absurd w (by decide)) (fun w => absurd w (by decide))
  · rw [q_upN _ _ (by omega), q_upN _ _ (by omega), q_upN _ _ (by omega), q_upN _ _ (by omega)]
  · rw [q_upN _ _ (by omega), q_upN _ _ (by omega), q_upN _ _ (by omega), q_upE]
  · rw [q_upN _ _ (by omega), q_upN _ _ (by omega), q_upE]
  · rw [q_upN _ _ (by omega), q_upE]
  · rw [q_upE]
end
