theorem q_nlt2 {o : Int32} (h : 1 < o) : ¬ o ≤ 1 := fun c => by
  rw [fa_lt] at h
  rw [fa_le] at c
  omega
theorem q_narA {o : Int32} {x y : Int64} : vp_nar .boolean (q_ask o x y) = q_ask o x y := by
  unfold q_ask
  split
  · exact q_nar1
  split
  · exact q_nar1
  split
  · exact q_nar1
  split
  · exact q_nar1
  split
  · exact q_nar1
  · exact q_nar1
section
variable {d n sl : Nat} {ln : Nat → Nat} {di : Nat → Nat → Int32} {dl : Nat → Nat → Int64} {dr : Nat → Nat → Option Nat} {Q : Option Value → q_H → Prop}
set_option maxHeartbeats 1000000 in
theorem c_wk1 {X C i nn tt L : Nat} {o v : Int32} {s' : Nat × Nat} (hX : X + 2 < 2720) (hC : C + 2 * i + 1 < 2720) (ho : di 70 (C + 2 * i) = o) (hv : di 70 (C + 2 * i + 1) = v) (hE : nI i < di 70 (X + 2)) (hty : q_tq L o v nn tt = some s') (hnn : nn < 330) (htt : tt < 330) (hg : q_Gr n ln dr)
    (k : q_EX q_KD (d + 2) 171 47 [.ref 67, .retAddr 0, .int (nI X), .int (nI C), .int (nI (q_es o v (di 73) (nn, dl 74, tt, di 75)).1), .int (nI (q_es o v (di 73) (nn, dl 74, tt, di 75)).2.2.1), .int (nI (i + 1)), .retAddr 0, .retAddr 0] [] (n, sl, ln, va_up di 75 (q_es o v (di 73) (nn, dl 74, tt, di 75)).2.2.2, va_up dl 74 (q_es o v (di 73) (nn, dl 74, tt, di 75)).2.1, dr) Q) :
    q_EX q_KD (d + 2) 171 47 [.ref 67, .retAddr 0, .int (nI X), .int (nI C), .int (nI nn), .int (nI tt), .int (nI i), .retAddr 0, .retAddr 0] [] (n, sl, ln, di, dl, dr) Q := by
  have e2 : nI X + (2 : Int32) = nI (X + 2) := (q_pa X 2).symm
  have e3 : nI C + (2 : Int32) * nI i = nI (C + 2 * i) := by rw [q_pa, q_pm]; rfl
  have e5 : (nI (X + 2)).toNatClampNeg = X + 2 := nI_clamp (by omega)
  have e6 : (nI (C + 2 * i)).toNatClampNeg = C + 2 * i := nI_clamp (by omega)
  have e7 : (nI (C + 2 * i + 1)).toNatClampNeg = C + 2 * i + 1 := nI_clamp (by omega)
  have hinv := q_tq_inv hty
  refine g171_47 hg ?s1 ?k3 ?s4 ?s5 ?s12 ?s14 ?k15 ?s16 ?s18 ?k19 ?s20 ?k21 ?s22 ?s24 ?k25 ?s26 ?s28 ?k29 ?s30 ?k31 ?s32 ?s34 ?k35 ?s36 ?k37 ?s38 ?s39 ?k40 ?s41 ?s42 ?k43 ?s44 ?s45 ?k46 ?s48 ?s49 ?k50 ?s51 ?k52
  case s1 =>
    simp only [e2, e3, nI_1, e5, e6, e7, ho, hv]
    exact vp_in_nI (by omega) (by decide)
  case k3 =>
    intro c1
    simp only [e2, e3, nI_1, e5, e6, e7, ho, hv] at *
    exact absurd hE (q_nle c1)
  case s4 =>
    intro c1
    simp only [e2, e3, nI_1, e5, e6, e7, ho, hv] at *
    exact vp_in_nI (by omega) (by decide)
  case s5 =>
    intro c1
    simp only [e2, e3, nI_1, e5, e6, e7, ho, hv] at *
    exact vp_in_nI (by omega) (by decide)
  case s12 =>
    intro c1 c2 c3 c4 c5 c6 c7
    simp only [e2, e3, nI_1, e5, e6, e7, ho, hv] at *
    have h22 : nn = 0 ∧ 2 ≤ tt ∧ (o = 21 ∨ o = 22) := by
      rcases hinv with ⟨a, _⟩ | ⟨a, _⟩ | ⟨a, _⟩ | ⟨a, _⟩ | ⟨a, _⟩ | ⟨a, _⟩ | ⟨a, b, c, _⟩
      all_goals first | exact ⟨b, c, a⟩ | (exfalso; clear hty ho hv hE k; rcases a with a | a | a | a | a | a <;> subst a <;> revert c2 c3 c4 c5 c6 <;> decide) | (exfalso; clear hty ho hv hE k; rcases a with a | a | a | a <;> subst a <;> revert c2 c3 c4 c5 c6 <;> decide) | (exfalso; clear hty ho hv hE k; subst a; revert c2 c3 c4 c5 c6; decide)
    obtain ⟨t', rfl⟩ : ∃ t', tt = t' + 2 := ⟨tt - 2, by omega⟩
    have ee : nI (t' + 2) + (-1) = nI (t' + 1) := q_mm1 (t' + 1)
    have ef : nI (t' + 1) - 1 = nI t' := nI_pred t'
    have eg : (nI t').toNatClampNeg = t' := nI_clamp (by omega)
    have eh : (nI (t' + 1)).toNatClampNeg = t' + 1 := nI_clamp (by omega)
    rw [ee, ef]
    exact vp_in_nI (by omega) (by decide)
  case s14 =>
    intro c1 c2 c3 c4 c5 c6 c7 c8
    simp only [e2, e3, nI_1, e5, e6, e7, ho, hv] at *
    have h22 : nn = 0 ∧ 2 ≤ tt ∧ (o = 21 ∨ o = 22) := by
      rcases hinv with ⟨a, _⟩ | ⟨a, _⟩ | ⟨a, _⟩ | ⟨a, _⟩ | ⟨a, _⟩ | ⟨a, _⟩ | ⟨a, b, c, _⟩
      all_goals first | exact ⟨b, c, a⟩ | (exfalso; clear hty ho hv hE k; rcases a with a | a | a | a | a | a <;> subst a <;> revert c2 c3 c4 c5 c6 <;> decide) | (exfalso; clear hty ho hv hE k; rcases a with a | a | a | a <;> subst a <;> revert c2 c3 c4 c5 c6 <;> decide) | (exfalso; clear hty ho hv hE k; subst a; revert c2 c3 c4 c5 c6; decide)
    obtain ⟨t', rfl⟩ : ∃ t', tt = t' + 2 := ⟨tt - 2, by omega⟩
    have ee : nI (t' + 2) + (-1) = nI (t' + 1) := q_mm1 (t' + 1)
    have ef : nI (t' + 1) - 1 = nI t' := nI_pred t'
    have eg : (nI t').toNatClampNeg = t' := nI_clamp (by omega)
    have eh : (nI (t' + 1)).toNatClampNeg = t' + 1 := nI_clamp (by omega)
    rw [ee, ef]
    exact vp_in_nI (by omega) (by decide)
  case k15 =>
    intro c1 c2 c3 c4 c5 c6 c7 c8
    simp only [e2, e3, nI_1, e5, e6, e7, ho, hv] at *
    have h22 : nn = 0 ∧ 2 ≤ tt ∧ (o = 21 ∨ o = 22) := by
      rcases hinv with ⟨a, _⟩ | ⟨a, _⟩ | ⟨a, _⟩ | ⟨a, _⟩ | ⟨a, _⟩ | ⟨a, _⟩ | ⟨a, b, c, _⟩
      all_goals first | exact ⟨b, c, a⟩ | (exfalso; clear hty ho hv hE k; rcases a with a | a | a | a | a | a <;> subst a <;> revert c2 c3 c4 c5 c6 <;> decide) | (exfalso; clear hty ho hv hE k; rcases a with a | a | a | a <;> subst a <;> revert c2 c3 c4 c5 c6 <;> decide) | (exfalso; clear hty ho hv hE k; subst a; revert c2 c3 c4 c5 c6; decide)
    obtain ⟨t', rfl⟩ : ∃ t', tt = t' + 2 := ⟨tt - 2, by omega⟩
    have ee : nI (t' + 2) + (-1) = nI (t' + 1) := q_mm1 (t' + 1)
    have ef : nI (t' + 1) - 1 = nI t' := nI_pred t'
    have eg : (nI t').toNatClampNeg = t' := nI_clamp (by omega)
    have eh : (nI (t' + 1)).toNatClampNeg = t' + 1 := nI_clamp (by omega)
    rw [ee, ef, eg] at c8
    rw [ee, ef, eg]
    have es : q_es o v (di 73) (nn, dl 74, t' + 2, di 75) = (nn, dl 74, t' + 1, va_up (di 75) t' 1) := by
      unfold q_es
      rw [if_neg (q_nlt2 c2), if_neg c3, if_neg (q_not_lt c4), if_neg (q_not_lt c5), if_neg c6, if_neg c7]
      show (nn, dl 74, t' + 1, va_up (di 75) t' (q_b (¬ di 75 t' = 0 ∨ ¬ di 75 (t' + 1) = 0))) = _
      rw [q_b1 (Or.inl c8)]
    rw [es, q_upid] at k
    exact k
  case s16 =>
    intro c1 c2 c3 c4 c5 c6 c7 c8
    simp only [e2, e3, nI_1, e5, e6, e7, ho, hv] at *
    have h22 : nn = 0 ∧ 2 ≤ tt ∧ (o = 21 ∨ o = 22) := by
      rcases hinv with ⟨a, _⟩ | ⟨a, _⟩ | ⟨a, _⟩ | ⟨a, _⟩ | ⟨a, _⟩ | ⟨a, _⟩ | ⟨a, b, c, _⟩
      all_goals first | exact ⟨b, c, a⟩ | (exfalso; clear hty ho hv hE k; rcases a with a | a | a | a | a | a <;> subst a <;> revert c2 c3 c4 c5 c6 <;> decide) | (exfalso; clear hty ho hv hE k; rcases a with a | a | a | a <;> subst a <;> revert c2 c3 c4 c5 c6 <;> decide) | (exfalso; clear hty ho hv hE k; subst a; revert c2 c3 c4 c5 c6; decide)
    obtain ⟨t', rfl⟩ : ∃ t', tt = t' + 2 := ⟨tt - 2, by omega⟩
    have ee : nI (t' + 2) + (-1) = nI (t' + 1) := q_mm1 (t' + 1)
    have ef : nI (t' + 1) - 1 = nI t' := nI_pred t'
    have eg : (nI t').toNatClampNeg = t' := nI_clamp (by omega)
    have eh : (nI (t' + 1)).toNatClampNeg = t' + 1 := nI_clamp (by omega)
    rw [ee]
    exact vp_in_nI (by omega) (by decide)
  case s18 =>
    intro c1 c2 c3 c4 c5 c6 c7 c8 c9
    simp only [e2, e3, nI_1, e5, e6, e7, ho, hv] at *
    have h22 : nn = 0 ∧ 2 ≤ tt ∧ (o = 21 ∨ o = 22) := by
      rcases hinv with ⟨a, _⟩ | ⟨a, _⟩ | ⟨a, _⟩ | ⟨a, _⟩ | ⟨a, _⟩ | ⟨a, _⟩ | ⟨a, b, c, _⟩
      all_goals first | exact ⟨b, c, a⟩ | (exfalso; clear hty ho hv hE k; rcases a with a | a | a | a | a | a <;> subst a <;> revert c2 c3 c4 c5 c6 <;> decide) | (exfalso; clear hty ho hv hE k; rcases a with a | a | a | a <;> subst a <;> revert c2 c3 c4 c5 c6 <;> decide) | (exfalso; clear hty ho hv hE k; subst a; revert c2 c3 c4 c5 c6; decide)
    obtain ⟨t', rfl⟩ : ∃ t', tt = t' + 2 := ⟨tt - 2, by omega⟩
    have ee : nI (t' + 2) + (-1) = nI (t' + 1) := q_mm1 (t' + 1)
    have ef : nI (t' + 1) - 1 = nI t' := nI_pred t'
    have eg : (nI t').toNatClampNeg = t' := nI_clamp (by omega)
    have eh : (nI (t' + 1)).toNatClampNeg = t' + 1 := nI_clamp (by omega)
    rw [ee, ef]
    exact vp_in_nI (by omega) (by decide)
  case k19 =>
    intro c1 c2 c3 c4 c5 c6 c7 c8 c9
    simp only [e2, e3, nI_1, e5, e6, e7, ho, hv] at *
    have h22 : nn = 0 ∧ 2 ≤ tt ∧ (o = 21 ∨ o = 22) := by
      rcases hinv with ⟨a, _⟩ | ⟨a, _⟩ | ⟨a, _⟩ | ⟨a, _⟩ | ⟨a, _⟩ | ⟨a, _⟩ | ⟨a, b, c, _⟩
      all_goals first | exact ⟨b, c, a⟩ | (exfalso; clear hty ho hv hE k; rcases a with a | a | a | a | a | a <;> subst a <;> revert c2 c3 c4 c5 c6 <;> decide) | (exfalso; clear hty ho hv hE k; rcases a with a | a | a | a <;> subst a <;> revert c2 c3 c4 c5 c6 <;> decide) | (exfalso; clear hty ho hv hE k; subst a; revert c2 c3 c4 c5 c6; decide)
    obtain ⟨t', rfl⟩ : ∃ t', tt = t' + 2 := ⟨tt - 2, by omega⟩
    have ee : nI (t' + 2) + (-1) = nI (t' + 1) := q_mm1 (t' + 1)
    have ef : nI (t' + 1) - 1 = nI t' := nI_pred t'
    have eg : (nI t').toNatClampNeg = t' := nI_clamp (by omega)
    have eh : (nI (t' + 1)).toNatClampNeg = t' + 1 := nI_clamp (by omega)
    rw [ee, ef, eg] at c8
    rw [ee, eh] at c9
    rw [ee, ef, eg]
    have es : q_es o v (di 73) (nn, dl 74, t' + 2, di 75) = (nn, dl 74, t' + 1, va_up (di 75) t' 0) := by
      unfold q_es
      rw [if_neg (q_nlt2 c2), if_neg c3, if_neg (q_not_lt c4), if_neg (q_not_lt c5), if_neg c6, if_neg c7]
      show (nn, dl 74, t' + 1, va_up (di 75) t' (q_b (¬ di 75 t' = 0 ∨ ¬ di 75 (t' + 1) = 0))) = _
      rw [q_b0 (fun h => h.elim (fun z => z c8) (fun z => z c9))]
    rw [es, q_upid] at k
    exact k
  case s20 =>
    intro c1 c2 c3 c4 c5 c6 c7 c8 c9
    simp only [e2, e3, nI_1, e5, e6, e7, ho, hv] at *
    have h22 : nn = 0 ∧ 2 ≤ tt ∧ (o = 21 ∨ o = 22) := by
      rcases hinv with ⟨a, _⟩ | ⟨a, _⟩ | ⟨a, _⟩ | ⟨a, _⟩ | ⟨a, _⟩ | ⟨a, _⟩ | ⟨a, b, c, _⟩
      all_goals first | exact ⟨b, c, a⟩ | (exfalso; clear hty ho hv hE k; rcases a with a | a | a | a | a | a <;> subst a <;> revert c2 c3 c4 c5 c6 <;> decide) | (exfalso; clear hty ho hv hE k; rcases a with a | a | a | a <;> subst a <;> revert c2 c3 c4 c5 c6 <;> decide) | (exfalso; clear hty ho hv hE k; subst a; revert c2 c3 c4 c5 c6; decide)
    obtain ⟨t', rfl⟩ : ∃ t', tt = t' + 2 := ⟨tt - 2, by omega⟩
    have ee : nI (t' + 2) + (-1) = nI (t' + 1) := q_mm1 (t' + 1)
    have ef : nI (t' + 1) - 1 = nI t' := nI_pred t'
    have eg : (nI t').toNatClampNeg = t' := nI_clamp (by omega)
    have eh : (nI (t' + 1)).toNatClampNeg = t' + 1 := nI_clamp (by omega)
    rw [ee, ef]
    exact vp_in_nI (by omega) (by decide)
  case k21 =>
    intro c1 c2 c3 c4 c5 c6 c7 c8 c9
    simp only [e2, e3, nI_1, e5, e6, e7, ho, hv] at *
    have h22 : nn = 0 ∧ 2 ≤ tt ∧ (o = 21 ∨ o = 22) := by
      rcases hinv with ⟨a, _⟩ | ⟨a, _⟩ | ⟨a, _⟩ | ⟨a, _⟩ | ⟨a, _⟩ | ⟨a, _⟩ | ⟨a, b, c, _⟩
      all_goals first | exact ⟨b, c, a⟩ | (exfalso; clear hty ho hv hE k; rcases a with a | a | a | a | a | a <;> subst a <;> revert c2 c3 c4 c5 c6 <;> decide) | (exfalso; clear hty ho hv hE k; rcases a with a | a | a | a <;> subst a <;> revert c2 c3 c4 c5 c6 <;> decide) | (exfalso; clear hty ho hv hE k; subst a; revert c2 c3 c4 c5 c6; decide)
    obtain ⟨t', rfl⟩ : ∃ t', tt = t' + 2 := ⟨tt - 2, by omega⟩
    have ee : nI (t' + 2) + (-1) = nI (t' + 1) := q_mm1 (t' + 1)
    have ef : nI (t' + 1) - 1 = nI t' := nI_pred t'
    have eg : (nI t').toNatClampNeg = t' := nI_clamp (by omega)
    have eh : (nI (t' + 1)).toNatClampNeg = t' + 1 := nI_clamp (by omega)
    rw [ee, ef, eg] at c8
    rw [ee, eh] at c9
    rw [ee, ef, eg]
    have es : q_es o v (di 73) (nn, dl 74, t' + 2, di 75) = (nn, dl 74, t' + 1, va_up (di 75) t' 1) := by
      unfold q_es
      rw [if_neg (q_nlt2 c2), if_neg c3, if_neg (q_not_lt c4), if_neg (q_not_lt c5), if_neg c6, if_neg c7]
      show (nn, dl 74, t' + 1, va_up (di 75) t' (q_b (¬ di 75 t' = 0 ∨ ¬ di 75 (t' + 1) = 0))) = _
      rw [q_b1 (Or.inr c9)]
    rw [es, q_upid] at k
    exact k
  case s22 =>
    intro c1 c2 c3 c4 c5 c6 c7
    simp only [e2, e3, nI_1, e5, e6, e7, ho, hv] at *
    have h22 : nn = 0 ∧ 2 ≤ tt ∧ (o = 21 ∨ o = 22) := by
      rcases hinv with ⟨a, _⟩ | ⟨a, _⟩ | ⟨a, _⟩ | ⟨a, _⟩ | ⟨a, _⟩ | ⟨a, _⟩ | ⟨a, b, c, _⟩
      all_goals first | exact ⟨b, c, a⟩ | (exfalso; clear hty ho hv hE k; rcases a with a | a | a | a | a | a <;> subst a <;> revert c2 c3 c4 c5 c6 <;> decide) | (exfalso; clear hty ho hv hE k; rcases a with a | a | a | a <;> subst a <;> revert c2 c3 c4 c5 c6 <;> decide) | (exfalso; clear hty ho hv hE k; subst a; revert c2 c3 c4 c5 c6; decide)
    obtain ⟨t', rfl⟩ : ∃ t', tt = t' + 2 := ⟨tt - 2, by omega⟩
    have ee : nI (t' + 2) + (-1) = nI (t' + 1) := q_mm1 (t' + 1)
    have ef : nI (t' + 1) - 1 = nI t' := nI_pred t'
    have eg : (nI t').toNatClampNeg = t' := nI_clamp (by omega)
    have eh : (nI (t' + 1)).toNatClampNeg = t' + 1 := nI_clamp (by omega)
    rw [ee, ef]
    exact vp_in_nI (by omega) (by decide)
  case s24 =>
    intro c1 c2 c3 c4 c5 c6 c7 c8
    simp only [e2, e3, nI_1, e5, e6, e7, ho, hv] at *
    have h22 : nn = 0 ∧ 2 ≤ tt ∧ (o = 21 ∨ o = 22) := by
      rcases hinv with ⟨a, _⟩ | ⟨a, _⟩ | ⟨a, _⟩ | ⟨a, _⟩ | ⟨a, _⟩ | ⟨a, _⟩ | ⟨a, b, c, _⟩
      all_goals first | exact ⟨b, c, a⟩ | (exfalso; clear hty ho hv hE k; rcases a with a | a | a | a | a | a <;> subst a <;> revert c2 c3 c4 c5 c6 <;> decide) | (exfalso; clear hty ho hv hE k; rcases a with a | a | a | a <;> subst a <;> revert c2 c3 c4 c5 c6 <;> decide) | (exfalso; clear hty ho hv hE k; subst a; revert c2 c3 c4 c5 c6; decide)
    obtain ⟨t', rfl⟩ : ∃ t', tt = t' + 2 := ⟨tt - 2, by omega⟩
    have ee : nI (t' + 2) + (-1) = nI (t' + 1) := q_mm1 (t' + 1)
    have ef : nI (t' + 1) - 1 = nI t' := nI_pred t'
    have eg : (nI t').toNatClampNeg = t' := nI_clamp (by omega)
    have eh : (nI (t' + 1)).toNatClampNeg = t' + 1 := nI_clamp (by omega)
    rw [ee, ef]
    exact vp_in_nI (by omega) (by decide)
  case k25 =>
    intro c1 c2 c3 c4 c5 c6 c7 c8
    simp only [e2, e3, nI_1, e5, e6, e7, ho, hv] at *
    have h22 : nn = 0 ∧ 2 ≤ tt ∧ (o = 21 ∨ o = 22) := by
      rcases hinv with ⟨a, _⟩ | ⟨a, _⟩ | ⟨a, _⟩ | ⟨a, _⟩ | ⟨a, _⟩ | ⟨a, _⟩ | ⟨a, b, c, _⟩
      all_goals first | exact ⟨b, c, a⟩ | (exfalso; clear hty ho hv hE k; rcases a with a | a | a | a | a | a <;> subst a <;> revert c2 c3 c4 c5 c6 <;> decide) | (exfalso; clear hty ho hv hE k; rcases a with a | a | a | a <;> subst a <;> revert c2 c3 c4 c5 c6 <;> decide) | (exfalso; clear hty ho hv hE k; subst a; revert c2 c3 c4 c5 c6; decide)
    obtain ⟨t', rfl⟩ : ∃ t', tt = t' + 2 := ⟨tt - 2, by omega⟩
    have ee : nI (t' + 2) + (-1) = nI (t' + 1) := q_mm1 (t' + 1)
    have ef : nI (t' + 1) - 1 = nI t' := nI_pred t'
    have eg : (nI t').toNatClampNeg = t' := nI_clamp (by omega)
    have eh : (nI (t' + 1)).toNatClampNeg = t' + 1 := nI_clamp (by omega)
    rw [ee, ef, eg] at c8
    rw [ee, ef, eg]
    have es : q_es o v (di 73) (nn, dl 74, t' + 2, di 75) = (nn, dl 74, t' + 1, va_up (di 75) t' 0) := by
      unfold q_es
      rw [if_neg (q_nlt2 c2), if_neg c3, if_neg (q_not_lt c4), if_neg (q_not_lt c5), if_neg c6, if_pos c7]
      show (nn, dl 74, t' + 1, va_up (di 75) t' (q_b (¬ di 75 t' = 0 ∧ ¬ di 75 (t' + 1) = 0))) = _
      rw [q_b0 (fun h => h.1 c8)]
    rw [es, q_upid] at k
    exact k
  case s26 =>
    intro c1 c2 c3 c4 c5 c6 c7 c8
    simp only [e2, e3, nI_1, e5, e6, e7, ho, hv] at *
    have h22 : nn = 0 ∧ 2 ≤ tt ∧ (o = 21 ∨ o = 22) := by
      rcases hinv with ⟨a, _⟩ | ⟨a, _⟩ | ⟨a, _⟩ | ⟨a, _⟩ | ⟨a, _⟩ | ⟨a, _⟩ | ⟨a, b, c, _⟩
      all_goals first | exact ⟨b, c, a⟩ | (exfalso; clear hty ho hv hE k; rcases a with a | a | a | a | a | a <;> subst a <;> revert c2 c3 c4 c5 c6 <;> decide) | (exfalso; clear hty ho hv hE k; rcases a with a | a | a | a <;> subst a <;> revert c2 c3 c4 c5 c6 <;> decide) | (exfalso; clear hty ho hv hE k; subst a; revert c2 c3 c4 c5 c6; decide)
    obtain ⟨t', rfl⟩ : ∃ t', tt = t' + 2 := ⟨tt - 2, by omega⟩
    have ee : nI (t' + 2) + (-1) = nI (t' + 1) := q_mm1 (t' + 1)
    have ef : nI (t' + 1) - 1 = nI t' := nI_pred t'
    have eg : (nI t').toNatClampNeg = t' := nI_clamp (by omega)
    have eh : (nI (t' + 1)).toNatClampNeg = t' + 1 := nI_clamp (by omega)
    rw [ee]
    exact vp_in_nI (by omega) (by decide)
  case s28 =>
    intro c1 c2 c3 c4 c5 c6 c7 c8 c9
    simp only [e2, e3, nI_1, e5, e6, e7, ho, hv] at *
    have h22 : nn = 0 ∧ 2 ≤ tt ∧ (o = 21 ∨ o = 22) := by
      rcases hinv with ⟨a, _⟩ | ⟨a, _⟩ | ⟨a, _⟩ | ⟨a, _⟩ | ⟨a, _⟩ | ⟨a, _⟩ | ⟨a, b, c, _⟩
      all_goals first | exact ⟨b, c, a⟩ | (exfalso; clear hty ho hv hE k; rcases a with a | a | a | a | a | a <;> subst a <;> revert c2 c3 c4 c5 c6 <;> decide) | (exfalso; clear hty ho hv hE k; rcases a with a | a | a | a <;> subst a <;> revert c2 c3 c4 c5 c6 <;> decide) | (exfalso; clear hty ho hv hE k; subst a; revert c2 c3 c4 c5 c6; decide)
    obtain ⟨t', rfl⟩ : ∃ t', tt = t' + 2 := ⟨tt - 2, by omega⟩
    have ee : nI (t' + 2) + (-1) = nI (t' + 1) := q_mm1 (t' + 1)
    have ef : nI (t' + 1) - 1 = nI t' := nI_pred t'
    have eg : (nI t').toNatClampNeg = t' := nI_clamp (by omega)
    have eh : (nI (t' + 1)).toNatClampNeg = t' + 1 := nI_clamp (by omega)
    rw [ee, ef]
    exact vp_in_nI (by omega) (by decide)
  case k29 =>
    intro c1 c2 c3 c4 c5 c6 c7 c8 c9
    simp only [e2, e3, nI_1, e5, e6, e7, ho, hv] at *
    have h22 : nn = 0 ∧ 2 ≤ tt ∧ (o = 21 ∨ o = 22) := by
      rcases hinv with ⟨a, _⟩ | ⟨a, _⟩ | ⟨a, _⟩ | ⟨a, _⟩ | ⟨a, _⟩ | ⟨a, _⟩ | ⟨a, b, c, _⟩
      all_goals first | exact ⟨b, c, a⟩ | (exfalso; clear hty ho hv hE k; rcases a with a | a | a | a | a | a <;> subst a <;> revert c2 c3 c4 c5 c6 <;> decide) | (exfalso; clear hty ho hv hE k; rcases a with a | a | a | a <;> subst a <;> revert c2 c3 c4 c5 c6 <;> decide) | (exfalso; clear hty ho hv hE k; subst a; revert c2 c3 c4 c5 c6; decide)
    obtain ⟨t', rfl⟩ : ∃ t', tt = t' + 2 := ⟨tt - 2, by omega⟩
    have ee : nI (t' + 2) + (-1) = nI (t' + 1) := q_mm1 (t' + 1)
    have ef : nI (t' + 1) - 1 = nI t' := nI_pred t'
    have eg : (nI t').toNatClampNeg = t' := nI_clamp (by omega)
    have eh : (nI (t' + 1)).toNatClampNeg = t' + 1 := nI_clamp (by omega)
    rw [ee, ef, eg] at c8
    rw [ee, eh] at c9
    rw [ee, ef, eg]
    have es : q_es o v (di 73) (nn, dl 74, t' + 2, di 75) = (nn, dl 74, t' + 1, va_up (di 75) t' 0) := by
      unfold q_es
      rw [if_neg (q_nlt2 c2), if_neg c3, if_neg (q_not_lt c4), if_neg (q_not_lt c5), if_neg c6, if_pos c7]
      show (nn, dl 74, t' + 1, va_up (di 75) t' (q_b (¬ di 75 t' = 0 ∧ ¬ di 75 (t' + 1) = 0))) = _
      rw [q_b0 (fun h => h.2 c9)]
    rw [es, q_upid] at k
    exact k
  case s30 =>
    intro c1 c2 c3 c4 c5 c6 c7 c8 c9
    simp only [e2, e3, nI_1, e5, e6, e7, ho, hv] at *
    have h22 : nn = 0 ∧ 2 ≤ tt ∧ (o = 21 ∨ o = 22) := by
      rcases hinv with ⟨a, _⟩ | ⟨a, _⟩ | ⟨a, _⟩ | ⟨a, _⟩ | ⟨a, _⟩ | ⟨a, _⟩ | ⟨a, b, c, _⟩
      all_goals first | exact ⟨b, c, a⟩ | (exfalso; clear hty ho hv hE k; rcases a with a | a | a | a | a | a <;> subst a <;> revert c2 c3 c4 c5 c6 <;> decide) | (exfalso; clear hty ho hv hE k; rcases a with a | a | a | a <;> subst a <;> revert c2 c3 c4 c5 c6 <;> decide) | (exfalso; clear hty ho hv hE k; subst a; revert c2 c3 c4 c5 c6; decide)
    obtain ⟨t', rfl⟩ : ∃ t', tt = t' + 2 := ⟨tt - 2, by omega⟩
    have ee : nI (t' + 2) + (-1) = nI (t' + 1) := q_mm1 (t' + 1)
    have ef : nI (t' + 1) - 1 = nI t' := nI_pred t'
    have eg : (nI t').toNatClampNeg = t' := nI_clamp (by omega)
    have eh : (nI (t' + 1)).toNatClampNeg = t' + 1 := nI_clamp (by omega)
    rw [ee, ef]
    exact vp_in_nI (by omega) (by decide)
  case k31 =>
    intro c1 c2 c3 c4 c5 c6 c7 c8 c9
    simp only [e2, e3, nI_1, e5, e6, e7, ho, hv] at *
    have h22 : nn = 0 ∧ 2 ≤ tt ∧ (o = 21 ∨ o = 22) := by
      rcases hinv with ⟨a, _⟩ | ⟨a, _⟩ | ⟨a, _⟩ | ⟨a, _⟩ | ⟨a, _⟩ | ⟨a, _⟩ | ⟨a, b, c, _⟩
      all_goals first | exact ⟨b, c, a⟩ | (exfalso; clear hty ho hv hE k; rcases a with a | a | a | a | a | a <;> subst a <;> revert c2 c3 c4 c5 c6 <;> decide) | (exfalso; clear hty ho hv hE k; rcases a with a | a | a | a <;> subst a <;> revert c2 c3 c4 c5 c6 <;> decide) | (exfalso; clear hty ho hv hE k; subst a; revert c2 c3 c4 c5 c6; decide)
    obtain ⟨t', rfl⟩ : ∃ t', tt = t' + 2 := ⟨tt - 2, by omega⟩
    have ee : nI (t' + 2) + (-1) = nI (t' + 1) := q_mm1 (t' + 1)
    have ef : nI (t' + 1) - 1 = nI t' := nI_pred t'
    have eg : (nI t').toNatClampNeg = t' := nI_clamp (by omega)
    have eh : (nI (t' + 1)).toNatClampNeg = t' + 1 := nI_clamp (by omega)
    rw [ee, ef, eg] at c8
    rw [ee, eh] at c9
    rw [ee, ef, eg]
    have es : q_es o v (di 73) (nn, dl 74, t' + 2, di 75) = (nn, dl 74, t' + 1, va_up (di 75) t' 1) := by
      unfold q_es
      rw [if_neg (q_nlt2 c2), if_neg c3, if_neg (q_not_lt c4), if_neg (q_not_lt c5), if_neg c6, if_pos c7]
      show (nn, dl 74, t' + 1, va_up (di 75) t' (q_b (¬ di 75 t' = 0 ∧ ¬ di 75 (t' + 1) = 0))) = _
      rw [q_b1 ⟨c8, c9⟩]
    rw [es, q_upid] at k
    exact k
  case s32 =>
    intro c1 c2 c3 c4 c5 c6
    simp only [e2, e3, nI_1, e5, e6, e7, ho, hv] at *
    have h22 : nn = 0 ∧ 1 ≤ tt := by
      rcases hinv with ⟨a, _⟩ | ⟨a, _⟩ | ⟨a, _⟩ | ⟨a, _⟩ | ⟨a, _⟩ | ⟨a, b, c, _⟩ | ⟨a, _⟩
      all_goals first | exact ⟨b, c⟩ | (exfalso; rw [c6] at a; revert a; decide)
    obtain ⟨t', rfl⟩ : ∃ t', tt = t' + 1 := ⟨tt - 1, by omega⟩
    have ef : nI (t' + 1) - 1 = nI t' := nI_pred t'
    have eg : (nI t').toNatClampNeg = t' := nI_clamp (by omega)
    rw [ef]
    exact vp_in_nI (by omega) (by decide)
  case s34 =>
    intro c1 c2 c3 c4 c5 c6 c7
    simp only [e2, e3, nI_1, e5, e6, e7, ho, hv] at *
    have h22 : nn = 0 ∧ 1 ≤ tt := by
      rcases hinv with ⟨a, _⟩ | ⟨a, _⟩ | ⟨a, _⟩ | ⟨a, _⟩ | ⟨a, _⟩ | ⟨a, b, c, _⟩ | ⟨a, _⟩
      all_goals first | exact ⟨b, c⟩ | (exfalso; rw [c6] at a; revert a; decide)
    obtain ⟨t', rfl⟩ : ∃ t', tt = t' + 1 := ⟨tt - 1, by omega⟩
    have ef : nI (t' + 1) - 1 = nI t' := nI_pred t'
    have eg : (nI t').toNatClampNeg = t' := nI_clamp (by omega)
    rw [ef]
    exact vp_in_nI (by omega) (by decide)
  case k35 =>
    intro c1 c2 c3 c4 c5 c6 c7
    simp only [e2, e3, nI_1, e5, e6, e7, ho, hv] at *
    have h22 : nn = 0 ∧ 1 ≤ tt := by
      rcases hinv with ⟨a, _⟩ | ⟨a, _⟩ | ⟨a, _⟩ | ⟨a, _⟩ | ⟨a, _⟩ | ⟨a, b, c, _⟩ | ⟨a, _⟩
      all_goals first | exact ⟨b, c⟩ | (exfalso; rw [c6] at a; revert a; decide)
    obtain ⟨t', rfl⟩ : ∃ t', tt = t' + 1 := ⟨tt - 1, by omega⟩
    have ef : nI (t' + 1) - 1 = nI t' := nI_pred t'
    have eg : (nI t').toNatClampNeg = t' := nI_clamp (by omega)
    rw [ef, eg] at c7
    rw [ef, eg]
    have es : q_es o v (di 73) (nn, dl 74, t' + 1, di 75) = (nn, dl 74, t' + 1, va_up (di 75) t' 0) := by
      unfold q_es
      rw [if_neg (q_nlt2 c2), if_neg c3, if_neg (q_not_lt c4), if_neg (q_not_lt c5), if_pos c6]
      show (nn, dl 74, t' + 1, va_up (di 75) t' (q_b (di 75 t' = 0))) = _
      rw [q_b0 c7]
    rw [es, q_upid] at k
    exact k
  case s36 =>
    intro c1 c2 c3 c4 c5 c6 c7
    simp only [e2, e3, nI_1, e5, e6, e7, ho, hv] at *
    have h22 : nn = 0 ∧ 1 ≤ tt := by
      rcases hinv with ⟨a, _⟩ | ⟨a, _⟩ | ⟨a, _⟩ | ⟨a, _⟩ | ⟨a, _⟩ | ⟨a, b, c, _⟩ | ⟨a, _⟩
      all_goals first | exact ⟨b, c⟩ | (exfalso; rw [c6] at a; revert a; decide)
    obtain ⟨t', rfl⟩ : ∃ t', tt = t' + 1 := ⟨tt - 1, by omega⟩
    have ef : nI (t' + 1) - 1 = nI t' := nI_pred t'
    have eg : (nI t').toNatClampNeg = t' := nI_clamp (by omega)
    rw [ef]
    exact vp_in_nI (by omega) (by decide)
  case k37 =>
    intro c1 c2 c3 c4 c5 c6 c7
    simp only [e2, e3, nI_1, e5, e6, e7, ho, hv] at *
    have h22 : nn = 0 ∧ 1 ≤ tt := by
      rcases hinv with ⟨a, _⟩ | ⟨a, _⟩ | ⟨a, _⟩ | ⟨a, _⟩ | ⟨a, _⟩ | ⟨a, b, c, _⟩ | ⟨a, _⟩
      all_goals first | exact ⟨b, c⟩ | (exfalso; rw [c6] at a; revert a; decide)
    obtain ⟨t', rfl⟩ : ∃ t', tt = t' + 1 := ⟨tt - 1, by omega⟩
    have ef : nI (t' + 1) - 1 = nI t' := nI_pred t'
    have eg : (nI t').toNatClampNeg = t' := nI_clamp (by omega)
    rw [ef, eg] at c7
    rw [ef, eg]
    have es : q_es o v (di 73) (nn, dl 74, t' + 1, di 75) = (nn, dl 74, t' + 1, va_up (di 75) t' 1) := by
      unfold q_es
      rw [if_neg (q_nlt2 c2), if_neg c3, if_neg (q_not_lt c4), if_neg (q_not_lt c5), if_pos c6]
      show (nn, dl 74, t' + 1, va_up (di 75) t' (q_b (di 75 t' = 0))) = _
      rw [q_b1 c7]
    rw [es, q_upid] at k
    exact k
  case s38 =>
    intro c1 c2 c3 c4 c5
    simp only [e2, e3, nI_1, e5, e6, e7, ho, hv] at *
    have h22 : nn = 2 := by
      rcases hinv with ⟨a, _⟩ | ⟨a, _⟩ | ⟨a, _⟩ | ⟨a, _⟩ | ⟨a, b, _⟩ | ⟨a, _⟩ | ⟨a, _⟩
      all_goals first | exact b | (exfalso; clear hty ho hv hE k; rcases a with a | a | a | a <;> subst a <;> revert c2 c3 c4 c5 <;> decide) | (exfalso; clear hty ho hv hE k; rcases a with a | a <;> subst a <;> revert c2 c3 c4 c5 <;> decide) | (exfalso; clear hty ho hv hE k; subst a; revert c2 c3 c4 c5; decide)
    subst h22
    have ee : nI 2 + (-2) = nI 0 := rfl
    have ef : nI 0 + 1 = nI 1 := rfl
    have eg : (nI 0).toNatClampNeg = 0 := rfl
    have eh : (nI 1).toNatClampNeg = 1 := rfl
    rw [ee]
    exact vp_in_nI (by omega) (by decide)
  case s39 =>
    intro c1 c2 c3 c4 c5
    simp only [e2, e3, nI_1, e5, e6, e7, ho, hv] at *
    have h22 : nn = 2 := by
      rcases hinv with ⟨a, _⟩ | ⟨a, _⟩ | ⟨a, _⟩ | ⟨a, _⟩ | ⟨a, b, _⟩ | ⟨a, _⟩ | ⟨a, _⟩
      all_goals first | exact b | (exfalso; clear hty ho hv hE k; rcases a with a | a | a | a <;> subst a <;> revert c2 c3 c4 c5 <;> decide) | (exfalso; clear hty ho hv hE k; rcases a with a | a <;> subst a <;> revert c2 c3 c4 c5 <;> decide) | (exfalso; clear hty ho hv hE k; subst a; revert c2 c3 c4 c5; decide)
    subst h22
    have ee : nI 2 + (-2) = nI 0 := rfl
    have ef : nI 0 + 1 = nI 1 := rfl
    have eg : (nI 0).toNatClampNeg = 0 := rfl
    have eh : (nI 1).toNatClampNeg = 1 := rfl
    rw [ee, ef]
    exact vp_in_nI (by omega) (by decide)
  case k40 =>
    intro c1 c2 c3 c4 c5
    simp only [e2, e3, nI_1, e5, e6, e7, ho, hv] at *
    have h22 : nn = 2 := by
      rcases hinv with ⟨a, _⟩ | ⟨a, _⟩ | ⟨a, _⟩ | ⟨a, _⟩ | ⟨a, b, _⟩ | ⟨a, _⟩ | ⟨a, _⟩
      all_goals first | exact b | (exfalso; clear hty ho hv hE k; rcases a with a | a | a | a <;> subst a <;> revert c2 c3 c4 c5 <;> decide) | (exfalso; clear hty ho hv hE k; rcases a with a | a <;> subst a <;> revert c2 c3 c4 c5 <;> decide) | (exfalso; clear hty ho hv hE k; subst a; revert c2 c3 c4 c5; decide)
    subst h22
    have ee : nI 2 + (-2) = nI 0 := rfl
    have ef : nI 0 + 1 = nI 1 := rfl
    have eg : (nI 0).toNatClampNeg = 0 := rfl
    have eh : (nI 1).toNatClampNeg = 1 := rfl
    rw [ee, ef, eg, eh]
    have es : q_es o v (di 73) (2, dl 74, tt, di 75) = (0, dl 74, tt + 1, va_up (di 75) tt (q_ask o (dl 74 0) (dl 74 1))) := by
      unfold q_es
      rw [if_neg (q_nlt2 c2), if_neg c3, if_neg (q_not_lt c4), if_pos c5]
      rfl
    rw [es, q_upid] at k
    refine c_isAsked hg (g171_234 hg (vp_in_nI (by omega) (by decide)) ?_)
    rw [q_narA, nI_clamp (show tt < 2 ^ 31 by omega), nI_1, nI_1]
    exact k
  case s41 =>
    intro c1 c2 c3 c4
    simp only [e2, e3, nI_1, e5, e6, e7, ho, hv] at *
    have h22 : 2 ≤ nn := by
      rcases hinv with ⟨a, _⟩ | ⟨a, _⟩ | ⟨a, _⟩ | ⟨a, b, _⟩ | ⟨a, _⟩ | ⟨a, _⟩ | ⟨a, _⟩
      all_goals first | exact b | (exfalso; clear hty ho hv hE k; rcases a with a | a | a | a | a | a <;> subst a <;> revert c2 c3 c4 <;> decide) | (exfalso; clear hty ho hv hE k; rcases a with a | a <;> subst a <;> revert c2 c3 c4 <;> decide) | (exfalso; clear hty ho hv hE k; subst a; revert c2 c3 c4; decide)
    obtain ⟨n', rfl⟩ : ∃ n', nn = n' + 2 := ⟨nn - 2, by omega⟩
    have ee : nI (n' + 2) + (-1) = nI (n' + 1) := q_mm1 (n' + 1)
    have ef : nI (n' + 1) - 1 = nI n' := nI_pred n'
    have eg : (nI n').toNatClampNeg = n' := nI_clamp (by omega)
    have eh : (nI (n' + 1)).toNatClampNeg = n' + 1 := nI_clamp (by omega)
    rw [ee, ef]
    exact vp_in_nI (by omega) (by decide)
  case s42 =>
    intro c1 c2 c3 c4
    simp only [e2, e3, nI_1, e5, e6, e7, ho, hv] at *
    have h22 : 2 ≤ nn := by
      rcases hinv with ⟨a, _⟩ | ⟨a, _⟩ | ⟨a, _⟩ | ⟨a, b, _⟩ | ⟨a, _⟩ | ⟨a, _⟩ | ⟨a, _⟩
      all_goals first | exact b | (exfalso; clear hty ho hv hE k; rcases a with a | a | a | a | a | a <;> subst a <;> revert c2 c3 c4 <;> decide) | (exfalso; clear hty ho hv hE k; rcases a with a | a <;> subst a <;> revert c2 c3 c4 <;> decide) | (exfalso; clear hty ho hv hE k; subst a; revert c2 c3 c4; decide)
    obtain ⟨n', rfl⟩ : ∃ n', nn = n' + 2 := ⟨nn - 2, by omega⟩
    have ee : nI (n' + 2) + (-1) = nI (n' + 1) := q_mm1 (n' + 1)
    have ef : nI (n' + 1) - 1 = nI n' := nI_pred n'
    have eg : (nI n').toNatClampNeg = n' := nI_clamp (by omega)
    have eh : (nI (n' + 1)).toNatClampNeg = n' + 1 := nI_clamp (by omega)
    rw [ee]
    exact vp_in_nI (by omega) (by decide)
  case k43 =>
    intro c1 c2 c3 c4
    simp only [e2, e3, nI_1, e5, e6, e7, ho, hv] at *
    have h22 : 2 ≤ nn := by
      rcases hinv with ⟨a, _⟩ | ⟨a, _⟩ | ⟨a, _⟩ | ⟨a, b, _⟩ | ⟨a, _⟩ | ⟨a, _⟩ | ⟨a, _⟩
      all_goals first | exact b | (exfalso; clear hty ho hv hE k; rcases a with a | a | a | a | a | a <;> subst a <;> revert c2 c3 c4 <;> decide) | (exfalso; clear hty ho hv hE k; rcases a with a | a <;> subst a <;> revert c2 c3 c4 <;> decide) | (exfalso; clear hty ho hv hE k; subst a; revert c2 c3 c4; decide)
    obtain ⟨n', rfl⟩ : ∃ n', nn = n' + 2 := ⟨nn - 2, by omega⟩
    have ee : nI (n' + 2) + (-1) = nI (n' + 1) := q_mm1 (n' + 1)
    have ef : nI (n' + 1) - 1 = nI n' := nI_pred n'
    have eg : (nI n').toNatClampNeg = n' := nI_clamp (by omega)
    have eh : (nI (n' + 1)).toNatClampNeg = n' + 1 := nI_clamp (by omega)
    rw [ee, ef, eg, eh]
    have es : q_es o v (di 73) (n' + 2, dl 74, tt, di 75) = (n' + 1, va_up (dl 74) n' (q_two o (dl 74 n') (dl 74 (n' + 1))), tt, di 75) := by
      unfold q_es
      rw [if_neg (q_nlt2 c2), if_neg c3, if_pos c4]
      rfl
    rw [es, q_upid] at k
    refine c_two hg (g171_193 hg (vp_in_nI (show n' < 330 by omega) (by decide)) ?_)
    rw [eg, nI_1]
    exact k
  case s44 =>
    intro c1 c2 c3
    simp only [e2, e3, nI_1, e5, e6, e7, ho, hv] at *
    have h22 : 1 ≤ nn := by
      rcases hinv with ⟨a, _⟩ | ⟨a, _⟩ | ⟨a, b, _⟩ | ⟨a, _⟩ | ⟨a, _⟩ | ⟨a, _⟩ | ⟨a, _⟩
      all_goals first | exact b | (exfalso; rw [c3] at a; revert a; decide)
    obtain ⟨n', rfl⟩ : ∃ n', nn = n' + 1 := ⟨nn - 1, by omega⟩
    have ef : nI (n' + 1) - 1 = nI n' := nI_pred n'
    have eg : (nI n').toNatClampNeg = n' := nI_clamp (by omega)
    rw [ef]
    exact vp_in_nI (by omega) (by decide)
  case s45 =>
    intro c1 c2 c3
    simp only [e2, e3, nI_1, e5, e6, e7, ho, hv] at *
    have h22 : 1 ≤ nn := by
      rcases hinv with ⟨a, _⟩ | ⟨a, _⟩ | ⟨a, b, _⟩ | ⟨a, _⟩ | ⟨a, _⟩ | ⟨a, _⟩ | ⟨a, _⟩
      all_goals first | exact b | (exfalso; rw [c3] at a; revert a; decide)
    obtain ⟨n', rfl⟩ : ∃ n', nn = n' + 1 := ⟨nn - 1, by omega⟩
    have ef : nI (n' + 1) - 1 = nI n' := nI_pred n'
    have eg : (nI n').toNatClampNeg = n' := nI_clamp (by omega)
    rw [ef]
    exact vp_in_nI (by omega) (by decide)
  case k46 =>
    intro c1 c2 c3
    simp only [e2, e3, nI_1, e5, e6, e7, ho, hv] at *
    have h22 : 1 ≤ nn := by
      rcases hinv with ⟨a, _⟩ | ⟨a, _⟩ | ⟨a, b, _⟩ | ⟨a, _⟩ | ⟨a, _⟩ | ⟨a, _⟩ | ⟨a, _⟩
      all_goals first | exact b | (exfalso; rw [c3] at a; revert a; decide)
    obtain ⟨n', rfl⟩ : ∃ n', nn = n' + 1 := ⟨nn - 1, by omega⟩
    have ef : nI (n' + 1) - 1 = nI n' := nI_pred n'
    have eg : (nI n').toNatClampNeg = n' := nI_clamp (by omega)
    rw [ef, eg]
    have es : q_es o v (di 73) (n' + 1, dl 74, tt, di 75) = (n' + 1, va_up (dl 74) n' (-(dl 74 n')), tt, di 75) := by
      unfold q_es
      rw [if_neg (q_nlt2 c2), if_pos c3]
      rfl
    rw [es, q_upid] at k
    exact k
  case s48 =>
    intro c1 c2 c3
    simp only [e2, e3, nI_1, e5, e6, e7, ho, hv] at *
    have h22 : o = 1 ∧ v = nI v.toNatClampNeg ∧ v.toNatClampNeg < 14 := by
      rcases hinv with ⟨a, _⟩ | ⟨a, b, c, _⟩ | ⟨a, _⟩ | ⟨a, _⟩ | ⟨a, _⟩ | ⟨a, _⟩ | ⟨a, _⟩
      all_goals first | exact ⟨a, c, q_nmok14 b⟩ | (exfalso; clear hty ho hv hE k; rcases a with a | a | a | a | a | a <;> subst a <;> revert c2 c3 <;> decide) | (exfalso; clear hty ho hv hE k; rcases a with a | a | a | a <;> subst a <;> revert c2 c3 <;> decide) | (exfalso; clear hty ho hv hE k; rcases a with a | a <;> subst a <;> revert c2 c3 <;> decide) | (exfalso; clear hty ho hv hE k; subst a; revert c2 c3; decide)
    have eg : (nI nn).toNatClampNeg = nn := nI_clamp (by omega)
    rw [h22.2.1]
    exact vp_in_nI h22.2.2 (by decide)
  case s49 =>
    intro c1 c2 c3
    simp only [e2, e3, nI_1, e5, e6, e7, ho, hv] at *
    have h22 : o = 1 ∧ v = nI v.toNatClampNeg ∧ v.toNatClampNeg < 14 := by
      rcases hinv with ⟨a, _⟩ | ⟨a, b, c, _⟩ | ⟨a, _⟩ | ⟨a, _⟩ | ⟨a, _⟩ | ⟨a, _⟩ | ⟨a, _⟩
      all_goals first | exact ⟨a, c, q_nmok14 b⟩ | (exfalso; clear hty ho hv hE k; rcases a with a | a | a | a | a | a <;> subst a <;> revert c2 c3 <;> decide) | (exfalso; clear hty ho hv hE k; rcases a with a | a | a | a <;> subst a <;> revert c2 c3 <;> decide) | (exfalso; clear hty ho hv hE k; rcases a with a | a <;> subst a <;> revert c2 c3 <;> decide) | (exfalso; clear hty ho hv hE k; subst a; revert c2 c3; decide)
    have eg : (nI nn).toNatClampNeg = nn := nI_clamp (by omega)
    exact vp_in_nI (by omega) (by decide)
  case k50 =>
    intro c1 c2 c3
    simp only [e2, e3, nI_1, e5, e6, e7, ho, hv] at *
    have h22 : o = 1 ∧ v = nI v.toNatClampNeg ∧ v.toNatClampNeg < 14 := by
      rcases hinv with ⟨a, _⟩ | ⟨a, b, c, _⟩ | ⟨a, _⟩ | ⟨a, _⟩ | ⟨a, _⟩ | ⟨a, _⟩ | ⟨a, _⟩
      all_goals first | exact ⟨a, c, q_nmok14 b⟩ | (exfalso; clear hty ho hv hE k; rcases a with a | a | a | a | a | a <;> subst a <;> revert c2 c3 <;> decide) | (exfalso; clear hty ho hv hE k; rcases a with a | a | a | a <;> subst a <;> revert c2 c3 <;> decide) | (exfalso; clear hty ho hv hE k; rcases a with a | a <;> subst a <;> revert c2 c3 <;> decide) | (exfalso; clear hty ho hv hE k; subst a; revert c2 c3; decide)
    have eg : (nI nn).toNatClampNeg = nn := nI_clamp (by omega)
    rw [eg]
    have es : q_es o v (di 73) (nn, dl 74, tt, di 75) = (nn + 1, va_up (dl 74) nn (di 73 v.toNatClampNeg).toInt64, tt, di 75) := by
      unfold q_es
      rw [if_pos c2, if_neg c3]
    rw [es, q_upid] at k
    exact k
  case s51 =>
    intro c1 c2 c3
    simp only [e2, e3, nI_1, e5, e6, e7, ho, hv] at *
    exact vp_in_nI (by omega) (by decide)
  case k52 =>
    intro c1 c2 c3
    simp only [e2, e3, nI_1, e5, e6, e7, ho, hv] at *
    rw [nI_clamp (show nn < 2 ^ 31 by omega)]
    have es : q_es o v (di 73) (nn, dl 74, tt, di 75) = (nn + 1, va_up (dl 74) nn v.toInt64, tt, di 75) := by
      unfold q_es
      rw [if_pos c2, if_pos c3]
    rw [es, q_upid] at k
    exact k
end
