section
variable {c d n sl : Nat} {ln : Nat → Nat} {di : Nat → Nat → Int32} {dl : Nat → Nat → Int64} {dr : Nat → Nat → Option Nat} {Q : Option Value → q_H → Prop}
theorem o_by {x1 : Int32} (h : q_RR c n sl ln di dr) : o_op (d + 2) 58 156 [.ref 6, .int x1] [.ref 67, .int x1] c (n, sl, ln, di, dl, dr) := by
  have hR := h
  obtain ⟨hg, a2, a3, a4, a5, a6, P, L, T, S, K, P', L', T', S', K', b1, b2, b3, b4, b5⟩ := hR
  obtain ⟨i1, i2, i3, i4, i5, i6, i7, i8, i9, i10, i11⟩ := b1.1
  have h14 : di 7 14 = nI T := by rw [b1.2.2.2.2.1.2.2.2.2.1]; exact i8
  have go : (x1 = -1 ∨ ∃ t, t < T ∧ x1 = nI t) → q_EX q_KD (d + 1) 59 0 [.ref 53] [] (n, sl, ln, q_u di 7 15 x1, dl, dr) (fun r1 h1 => q_EX q_KD (d + 1 + 1) 58 38 [.ref 6, .retAddr 0] (r1.toList ++ []) h1 (fun r h1 => ∃ v : Int32, r = some (.int v) ∧ q_EX q_KD (d + 2) 156 0 [.ref 67, .int x1] [] h1 (fun r2 h2 => r2 = some (.int v) ∧ w_R (c + 1) h2))) := by
    intro hx
    refine c_forE (d := d) hg (g58_38 hg (c_forR (d := d) hg (g58_45 hg ⟨_, rfl, ?_⟩)))
    refine g156_0 hg (c_isIn hg (g156_13 hg (fun _ => ⟨rfl, ?_⟩) (fun z => absurd z (q_bp.mpr ?_))))
    · refine w_RR_up ⟨hg, a2, a3, a4, a5, a6, P, L, T, S, K, P', L', T', S', K', ?_, w_RHd b2 (fun k hk => (w_84 (by decide) hk).trans ((w_84 (by decide) hk).trans ((w_84u (by decide) hk).trans ((w_84u (by decide) hk).trans ((w_84u (by decide) hk).trans ((w_84u (by decide) hk).trans (w_84 (by decide) hk))))))), b3, w_CE_0 (fun i hi => w_flI hi) (fun i hi => w_flI hi) (fun i hi => w_flI hi), w_CR_0 (fun m hm => w_flI hm) rfl⟩
      refine w_RHa (h' := va_up (di 7) 15 x1) (a' := va_up (di 68) 5 x1) b1 (fun k hk => (w_84 (by decide) hk).trans ((w_84 (by decide) hk).trans ((w_84u (by decide) hk).trans ((w_84u (by decide) hk).trans ((w_84u (by decide) hk).trans ((w_84u (by decide) hk).trans (w_84 (by decide) hk))))))) (fun i h1 h2 => q_upN _ _ (by omega)) ⟨i1, i2, i3, i4, i5, i6, i7, i8, i9, i10, hx⟩ ?_ rfl (q_Se_cg b1.2.2.2.2.2.2.2.2.1 (fun i h1 h2 => q_upN _ _ (by omega)))
      obtain ⟨c1, c2, c3, c4, c5, c6, c7⟩ := b1.2.2.2.2.1
      exact ⟨c1, c2, c3, c4, c5, rfl, c7⟩
    · have e4 : (q_u (va_up (va_up (va_up (va_up (q_u di 7 15 x1) 54 (w_fl (di 54) 0 240)) 55 (w_fl (di 55) 0 240)) 56 (w_fl (di 56) (-1) 490)) 61 (w_fl (di 61) (-1) 64)) 60 9 0) 68 4 = nI T := i8
      show (-1 : Int32) ≤ x1 ∧ x1 ≤ di 68 4 - 1
      rw [i8]
      rcases hx with q | ⟨t, q1, q2⟩
      · rw [q]
        refine ⟨by decide, ?_⟩
        cases T with
        | zero => decide
        | succ T => rw [nI_pred, fa_le, q_tm1, nI_toInt (by omega)]; omega
      · rw [q2]
        refine ⟨by rw [fa_le, q_tm1, nI_toInt (by omega)]; omega, ((q_pP (by omega) (by omega)).mpr q1).2⟩
  refine g58_0 hg (fun w => go (Or.inl w)) (fun w => c_within hg (g58_18 hg (fun y => ?_) (fun y => ⟨_, rfl, ?_⟩)))
  · have y' := q_bp.mp y
    rw [h14] at y'
    exact go (Or.inr ((w_told2 (by omega)).mp y'))
  · refine g156_0 hg (c_isIn hg (g156_13 hg (fun z => ?_) (fun _ => ⟨rfl, w_RR_up h⟩)))
    exfalso
    have z' := q_bp.mp z
    rw [i8] at z'
    have y' := q_bn.mp y
    rw [h14] at y'
    refine y' ⟨?_, z'.2⟩
    have z1 := z'.1
    rw [fa_le, q_tm1] at z1
    rw [fa_le, q_t0]
    have : ¬ x1.toInt = -1 := fun e => w (by rw [fa_eq, q_tm1]; exact e)
    omega
theorem o_person {x1 x2 x3 : Int32} (h : q_RR c n sl ln di dr) : o_op (d + 1) 11 117 [.ref 6, .int x1, .int x2, .int x3] [.ref 67, .int x1, .int x2, .int x3, .retAddr 0] c (n, sl, ln, di, dl, dr) := by
  have hR := h
  obtain ⟨hg, a2, a3, a4, a5, a6, P, L, T, S, K, P', L', T', S', K', b1, b2, b3, b4, b5⟩ := hR
  obtain ⟨i1, i2, i3, i4, i5, i6, i7, i8, i9, i10, i11⟩ := b1.1
  have h10 : di 7 10 = nI P := by rw [b1.2.2.2.2.1.1]; exact i6
  refine c_personX P i1 h10 hg (fun q1 q2 q3 hP => ⟨_, rfl, c_personM P i1 i6 hg (fun _ _ _ _ => ⟨rfl, ?_⟩) (fun z => absurd ⟨q1, q2, q3, hP⟩ z)⟩) (fun z => ⟨_, rfl, c_personM P i1 i6 hg (fun q1 q2 q3 hP => absurd ⟨q1, q2, q3, hP⟩ z) (fun _ => ⟨rfl, w_RR_up h⟩)⟩)
  obtain ⟨v1, hv1, e1⟩ := nI_of2 (M := 9) (n := 9) rfl (q_not_lt q1.1) q1.2
  obtain ⟨v2, hv2, e2⟩ := nI_of2 (M := 9) (n := 9) rfl (q_not_lt q2.1) q2.2
  have ip := b1.2.1
  have hun := ip.2.2.1 P (Nat.le_refl _) hP
  have hun3 : di 68 (10 + 6 * P + 3) = -1 := hun.1
  have hun4 : di 68 (10 + 6 * P + 4) = 0 := hun.2.1
  have hun5 : di 68 (10 + 6 * P + 5) = 0 := hun.2.2
  -- the model's new row
  have ha : ∃ a', a' = va_up (va_up (va_up (va_up (va_up (va_up (va_up (di 68) (10 + 6 * P + 0) x1) (10 + 6 * P + 1) x2) (10 + 6 * P + 2) x3) (10 + 6 * P + 3) (-1)) (10 + 6 * P + 4) 0) (10 + 6 * P + 5) 0) 0 (nI (P + 1)) := ⟨_, rfl⟩
  obtain ⟨a', ha⟩ := ha
  have A0 : a' 0 = nI (P + 1) := by rw [ha, q_upE]
  have Aw : a' (10 + 6 * P + 0) = x1 := by rw [ha, q_upN _ _ (by omega), q_upN _ _ (by omega), q_upN _ _ (by omega), q_upN _ _ (by omega), q_upN _ _ (by omega), q_upN _ _ (by omega), q_upE]
  have As : a' (10 + 6 * P + 1) = x2 := by rw [ha, q_upN _ _ (by omega), q_upN _ _ (by omega), q_upN _ _ (by omega), q_upN _ _ (by omega), q_upN _ _ (by omega), q_upE]
  have Ac : a' (10 + 6 * P + 2) = x3 := by rw [ha, q_upN _ _ (by omega), q_upN _ _ (by omega), q_upN _ _ (by omega), q_upN _ _ (by omega), q_upE]
  have A3 : a' (10 + 6 * P + 3) = -1 := by rw [ha, q_upN _ _ (by omega), q_upN _ _ (by omega), q_upN _ _ (by omega), q_upE]
  have A4 : a' (10 + 6 * P + 4) = 0 := by rw [ha, q_upN _ _ (by omega), q_upN _ _ (by omega), q_upE]
  have A5 : a' (10 + 6 * P + 5) = 0 := by rw [ha, q_upN _ _ (by omega), q_upE]
  have AN : ∀ i, ¬ i = 0 → ¬ i = 10 + 6 * P + 0 → ¬ i = 10 + 6 * P + 1 → ¬ i = 10 + 6 * P + 2 → a' i = di 68 i := by
    intro i h0 h1 h2 h3
    by_cases g3 : i = 10 + 6 * P + 3
    · rw [g3, A3, hun3]
    by_cases g4 : i = 10 + 6 * P + 4
    · rw [g4, A4, hun4]
    by_cases g5 : i = 10 + 6 * P + 5
    · rw [g5, A5, hun5]
    rw [ha, q_upN _ _ h0, q_upN _ _ g5, q_upN _ _ g4, q_upN _ _ g3, q_upN _ _ h3, q_upN _ _ h2, q_upN _ _ h1]
  have hd : ∀ k, 84 ≤ k → q_u (q_u (q_u (q_u (q_u (q_u (q_u (q_u (q_u (q_u (q_u di 8 P x1) 9 P x2) 10 P x3) 7 10 (nI (P + 1))) 68 (10 + 6 * P + 0) x1) 68 (10 + 6 * P + 1) x2) 68 (10 + 6 * P + 2) x3) 68 (10 + 6 * P + 3) (-1)) 68 (10 + 6 * P + 4) 0) 68 (10 + 6 * P + 5) 0) 68 0 (nI (P + 1)) k = di k := fun k hk => by
    rw [w_84 (by decide) hk, w_84 (by decide) hk, w_84 (by decide) hk, w_84 (by decide) hk, w_84 (by decide) hk, w_84 (by decide) hk, w_84 (by decide) hk, w_84 (by decide) hk, w_84 (by decide) hk, w_84 (by decide) hk, w_84 (by decide) hk]
  have e68 : (q_u (q_u (q_u (q_u (q_u (q_u (q_u (q_u (q_u (q_u (q_u di 8 P x1) 9 P x2) 10 P x3) 7 10 (nI (P + 1))) 68 (10 + 6 * P + 0) x1) 68 (10 + 6 * P + 1) x2) 68 (10 + 6 * P + 2) x3) 68 (10 + 6 * P + 3) (-1)) 68 (10 + 6 * P + 4) 0) 68 (10 + 6 * P + 5) 0) 68 0 (nI (P + 1))) 68 = a' := by rw [ha]; rfl
  obtain ⟨c1, c2, c3, c4, c5, c6, c7⟩ := b1.2.2.2.2.1
  refine w_RR_up ⟨hg, a2, a3, a4, a5, a6, P + 1, L, T, S, K, P', L', T', S', K', ?_, w_RHd b2 hd, b3, ?_, ?_⟩
  · show q_RH n ln _ (va_up (di 7) 10 (nI (P + 1))) (va_up (di 8) P x1) (va_up (di 9) P x2) (va_up (di 10) P x3) (di 11) (di 12) (di 13) (di 14) (di 15) (di 17) (di 18) (di 19) (di 20) (di 21) (di 22) (dr 16) (q_u (q_u (q_u (q_u (q_u (q_u (q_u (q_u (q_u (q_u (q_u di 8 P x1) 9 P x2) 10 P x3) 7 10 (nI (P + 1))) 68 (10 + 6 * P + 0) x1) 68 (10 + 6 * P + 1) x2) 68 (10 + 6 * P + 2) x3) 68 (10 + 6 * P + 3) (-1)) 68 (10 + 6 * P + 4) 0) 68 (10 + 6 * P + 5) 0) 68 0 (nI (P + 1)) 68) (di 70) (P + 1) L T S K
    rw [e68]
    refine ⟨⟨by omega, i2, i3, i4, i5, A0, ?_, ?_, ?_, ?_, ?_⟩, ⟨fun j hj => ?_, ?_⟩, ?_, ?_, ⟨?_, ?_, ?_, ?_, ?_, ?_, ?_⟩, fun j hj => ?_, ?_, ?_, ?_, ?_, q_Sc_cg b1.2.2.2.2.2.2.2.2.2.2 hd⟩
    · rw [AN 1 (by omega) (by omega) (by omega) (by omega)]; exact i7
    · rw [AN 4 (by omega) (by omega) (by omega) (by omega)]; exact i8
    · rw [AN 6 (by omega) (by omega) (by omega) (by omega)]; exact i9
    · rw [AN 7 (by omega) (by omega) (by omega) (by omega)]; exact i10
    · rw [AN 5 (by omega) (by omega) (by omega) (by omega)]; exact i11
    · by_cases e : j = P
      · subst e
        rw [Aw, As]
        exact ⟨⟨v1, by omega, e1⟩, ⟨v2, by omega, e2⟩⟩
      · rw [AN _ (by omega) (by omega) (by omega) (by omega), AN _ (by omega) (by omega) (by omega) (by omega)]
        exact ip.1 j hj
    · have hpi := q_PI_cg (f' := fun j e => a' (10 + 6 * j + 3 + e)) ip.2 (fun j e hj he => AN _ (by omega) (by omega) (by omega) (by omega))
      exact ⟨hpi.1, fun j h1 h2 => hpi.2.1 j (by omega) h2, hpi.2.2⟩
    · exact q_Il_cg b1.2.2.1 (fun i h1 h2 => AN i (by omega) (by omega) (by omega) (by omega))
    · have his := q_Is_cg (a' := a') b1.2.2.2.1 i4 (fun i h1 h2 => AN i (by omega) (by omega) (by omega) (by omega))
      intro s hs
      obtain ⟨Ps, g1, g2, g3⟩ := his s hs
      exact ⟨Ps, by omega, g2, g3⟩
    · rw [A0]; rfl
    · rw [AN 1 (by omega) (by omega) (by omega) (by omega)]; exact c2
    · rw [AN 2 (by omega) (by omega) (by omega) (by omega)]; exact c3
    · rw [AN 3 (by omega) (by omega) (by omega) (by omega)]; exact c4
    · rw [AN 4 (by omega) (by omega) (by omega) (by omega)]; exact c5
    · rw [AN 5 (by omega) (by omega) (by omega) (by omega)]; exact c6
    · rw [AN 7 (by omega) (by omega) (by omega) (by omega)]; exact c7
    · have pe := b1.2.2.2.2.2.1 j hj
      rw [AN (10 + 6 * j + 3) (by omega) (by omega) (by omega) (by omega), AN (10 + 6 * j + 5) (by omega) (by omega) (by omega) (by omega)]
      by_cases e : j = P
      · subst e
        rw [Aw, As, Ac, q_upE, q_upE, q_upE]
        exact ⟨rfl, rfl, rfl, pe.2.2.2⟩
      · rw [AN (10 + 6 * j + 0) (by omega) (by omega) (by omega) (by omega), AN (10 + 6 * j + 1) (by omega) (by omega) (by omega) (by omega), AN (10 + 6 * j + 2) (by omega) (by omega) (by omega) (by omega), q_upN _ _ e, q_upN _ _ e, q_upN _ _ e]
        exact pe
    · exact q_sb_cg b1.2.2.2.2.2.2.1 (fun j hj => AN _ (by omega) (by omega) (by omega) (by omega))
    · exact q_Li_cg b1.2.2.2.2.2.2.2.1 (fun i h1 h2 => AN i (by omega) (by omega) (by omega) (by omega))
    · exact q_Se_cg b1.2.2.2.2.2.2.2.2.1 (fun i h1 h2 => AN i (by omega) (by omega) (by omega) (by omega))
    · exact q_St_cg b1.2.2.2.2.2.2.2.2.2.1 i4 (fun i h1 h2 => AN i (by omega) (by omega) (by omega) (by omega))
  · show q_CE (di 54) (di 55) (di 56) (q_u (q_u (q_u (q_u (q_u (q_u (q_u (q_u (q_u (q_u (q_u di 8 P x1) 9 P x2) 10 P x3) 7 10 (nI (P + 1))) 68 (10 + 6 * P + 0) x1) 68 (10 + 6 * P + 1) x2) 68 (10 + 6 * P + 2) x3) 68 (10 + 6 * P + 3) (-1)) 68 (10 + 6 * P + 4) 0) 68 (10 + 6 * P + 5) 0) 68 0 (nI (P + 1)) 68) (di 70) (P + 1) L
    rw [e68]
    exact q_CE_cg b4 (by omega) (Nat.le_refl _) (AN 5 (by omega) (by omega) (by omega) (by omega)) (fun j hj => ⟨AN _ (by omega) (by omega) (by omega) (by omega), AN _ (by omega) (by omega) (by omega) (by omega)⟩) (fun l hl => ⟨AN _ (by omega) (by omega) (by omega) (by omega), AN _ (by omega) (by omega) (by omega) (by omega)⟩)
  · show q_CR (di 60) (di 61) (di 66) (q_u (q_u (q_u (q_u (q_u (q_u (q_u (q_u (q_u (q_u (q_u di 8 P x1) 9 P x2) 10 P x3) 7 10 (nI (P + 1))) 68 (10 + 6 * P + 0) x1) 68 (10 + 6 * P + 1) x2) 68 (10 + 6 * P + 2) x3) 68 (10 + 6 * P + 3) (-1)) 68 (10 + 6 * P + 4) 0) 68 (10 + 6 * P + 5) 0) 68 0 (nI (P + 1)) 68) (di 70) (P + 1) L
    rw [e68]
    refine w_CR_cg (S := fun j => ¬ j = P) b5 (by omega) (AN 5 (by omega) (by omega) (by omega) (by omega)) (fun j hj => AN _ (by omega) (by omega) (by omega) (by omega)) (fun j hj => AN _ (by omega) (by omega) (by omega) (by omega)) (fun j hj e => ⟨AN _ (by omega) (by omega) (by omega) (by omega), AN _ (by omega) (by omega) (by omega) (by omega)⟩) (fun l hl => ⟨AN _ (by omega) (by omega) (by omega) (by omega), AN _ (by omega) (by omega) (by omega) (by omega)⟩) (by omega) (fun j h1 h2 => (by rw [show j = P by omega]; exact hun3)) ?_ (fun j hj hp e => ?_)
    · intro k hk e
      rcases Nat.eq_zero_or_pos P with z | z
      · subst z
        have : (q_tk (q_pl (di 68)) 0).1 = 0 := rfl
        omega
      · have key : ∀ (c j : Nat) (st : Nat × (Nat → Int32)), j + c ≤ P → (∀ k, (st.2 k).toNatClampNeg < P) → ∀ k, ((q_it (fun j st => if q_pl (di 68) j < 0 then st else (st.1 + 1, va_up st.2 st.1 (nI j))) c j st).2 k).toNatClampNeg < P := by
          intro c
          induction c with
          | zero => intro j st _ hh; exact hh
          | succ c ih =>
            intro j st hj hh
            refine ih (j + 1) _ (by omega) ?_
            show ∀ k, ((if q_pl (di 68) j < 0 then st else (st.1 + 1, va_up st.2 st.1 (nI j))).2 k).toNatClampNeg < P
            by_cases g : q_pl (di 68) j < 0
            · rw [if_pos g]; exact hh
            · rw [if_neg g]
              intro k
              show (va_up st.2 st.1 (nI j) k).toNatClampNeg < P
              by_cases g2 : k = st.1
              · subst g2; rw [q_upE, nI_clamp (by omega)]; omega
              · rw [q_upN _ _ g2]; exact hh k
        have := key P 0 (0, fun _ => 0) (by omega) (fun k => by show (0 : Int32).toNatClampNeg < P; exact z) k
        have e' : ((q_it (fun j st => if q_pl (di 68) j < 0 then st else (st.1 + 1, va_up st.2 st.1 (nI j))) P 0 (0, fun _ => 0)).2 k).toNatClampNeg = P := e
        omega
    · have e3 : q_pl (di 68) j = -1 := by rw [e]; exact hun3
      rw [e3] at hp
      exact absurd hp (by decide)
end
