/-! what a play does to the model's row, up to what the row does not hold -/
def w_ee (a a1 : Nat → Int32) : Prop := ∃ S, S ≤ 30 ∧ a 6 = nI S ∧ ∀ i, i < 76 + 21 * S → a1 i = a i
theorem w_ee7 {a a1 : Nat → Int32} (h : w_ee a a1) : ∀ i, i < 76 → a1 i = a i := by
  obtain ⟨S, _, _, h3⟩ := h
  exact fun i hi => h3 i (by omega)
theorem w_kp_l {a a1 b : Nat → Int32} {S : Nat} (h : w_kp a b S) (hS : S ≤ 30) (he : ∀ i, i < 76 + 21 * S → a1 i = a i) : w_kp a1 b S := by
  obtain ⟨S', δ, k1, k2, k3, k4, k5, k6, k7, k8, k9⟩ := h
  refine ⟨S', δ, k1, k2, fun i h1 h2 => ?_, k4, fun s hs i hi => ?_, ?_, ?_, ?_, fun p e hp h3 => ?_⟩
  · rw [he i (by omega)]; exact k3 i h1 h2
  · have : s + δ < S := by
      by_cases q : S = 30
      · rw [if_pos q] at k1 k2; omega
      · rw [if_neg q] at k1 k2; omega
    rw [he _ (by omega)]; exact k5 s hs i hi
  · rw [he _ (by omega)]; exact k6
  · rw [he _ (by omega)]; exact k7
  · rw [he _ (by omega)]; exact k8
  · rw [he _ (by omega)]; exact k9 p e hp h3
theorem w_kp_d {a b b1 : Nat → Int32} {S : Nat} (hS : S ≤ 30) (h : w_kp a b S) (h1 : w_kp a b1 S) : ∃ S', S' ≤ 30 ∧ b 6 = nI S' ∧ ∀ i, i < 76 + 21 * S' → b1 i = b i := by
  obtain ⟨S', δ, k1, k2, k3, k4, k5, k6, k7, k8, k9⟩ := h
  obtain ⟨S2, δ2, m1, m2, m3, m4, m5, m6, m7, m8, m9⟩ := h1
  have e1 : S2 = S' := by rw [k1, m1]
  have e2 : δ2 = δ := by rw [k2, m2]
  subst e1 e2
  have hS' : S2 ≤ 30 ∧ 1 ≤ S2 := by
    by_cases q : S = 30
    · rw [if_pos q] at k1; omega
    · rw [if_neg q] at k1; omega
  refine ⟨S2, hS'.1, k4, fun i hi => ?_⟩
  by_cases q : i < 76
  · by_cases q6 : i = 6
    · subst q6; rw [k4, m4]
    · rw [k3 i q q6, m3 i q q6]
  · obtain ⟨s, r, hr, hs, hir⟩ : ∃ s r, r < 21 ∧ s < S2 ∧ i = 76 + 21 * s + r := ⟨(i - 76) / 21, (i - 76) % 21, by omega, by omega, by omega⟩
    subst hir
    by_cases hl : s + 1 < S2
    · rw [k5 s hl r hr, m5 s hl r hr]
    · have es : s = S2 - 1 := by omega
      subst es
      by_cases r0 : r = 0
      · subst r0; rw [Nat.add_zero, k6, m6]
      · by_cases r1 : r = 1
        · subst r1; rw [k7, m7]
        · by_cases r2 : r = 2
          · subst r2; rw [k8, m8]
          · obtain ⟨p, e, hp, he, hre⟩ : ∃ p e, p < 6 ∧ e < 3 ∧ r = 3 + 3 * p + e := ⟨(r - 3) / 3, (r - 3) % 3, by omega, by omega, by omega⟩
            subst hre
            have g1 := k9 p e hp he
            have g2 := m9 p e hp he
            have ea : 76 + 21 * (S2 - 1) + (3 + 3 * p + e) = 76 + 21 * (S2 - 1) + 3 + 3 * p + e := by omega
            rw [ea, g1, g2]
theorem w_S1 {x : Int32} {S S2 : Nat} (h : S ≤ 30) (h2 : S2 ≤ 30) (e : x = nI S) (e2 : x = nI S2) : S2 = S := by
  rw [e] at e2
  exact ((nI_eq (by omega) (by omega)).mp e2).symm
theorem w_j1 {x : Int32} {P j j2 : Nat} (hP : P ≤ 6) (h : j < P) (h2 : j2 < P) (e : x = nI j) (e2 : x = nI j2) : j2 = j := by
  rw [e] at e2
  exact ((nI_eq (by omega) (by omega)).mp e2).symm
theorem w_sOK_l {a a1 : Nat → Int32} {P : Nat} {x1 x2 : Int32} (hP : P ≤ 6) (he : ∀ i, i < 76 → a1 i = a i) (h : w_sOK a P x1 x2) : w_sOK a1 P x1 x2 := by
  obtain ⟨j, h1, h2, h3, h4, h5, h6⟩ := h
  refine ⟨j, h1, h2, h3, h4, by rw [he _ (by omega)]; exact h5, ?_⟩
  rcases h6 with q | q
  · exact Or.inl q
  · exact Or.inr (fun i hi => by rw [he _ (by omega)]; exact q i hi)
theorem w_hOK_l {a a1 : Nat → Int32} {P : Nat} {x1 x2 : Int32} (hP : P ≤ 6) (he : ∀ i, i < 76 → a1 i = a i) (h : w_hOK a P x1 x2) : w_hOK a1 P x1 x2 := by
  obtain ⟨j, h1, h2, h3⟩ := h
  exact ⟨j, h1, h2, by rw [he _ (by omega)]; exact h3⟩
theorem w_seat_l {a a1 b : Nat → Int32} {P : Nat} {x1 x2 : Int32} (he : w_ee a a1) (h : w_seat a P x1 x2 b) : w_seat a1 P x1 x2 b := by
  obtain ⟨S, g1, g2, g3⟩ := he
  obtain ⟨S2, b0, h1, h2, h3, h4⟩ := h
  have := w_S1 g1 h1 g2 h2
  subst this
  exact ⟨S2, b0, h1, by rw [g3 6 (by omega)]; exact h2, w_kp_l h3 h1 g3, h4⟩
theorem w_hire_l {a a1 b : Nat → Int32} {P : Nat} {x1 x2 : Int32} (he : w_ee a a1) (h : w_hire a P x1 x2 b) : w_hire a1 P x1 x2 b := by
  obtain ⟨S, g1, g2, g3⟩ := he
  obtain ⟨S2, b0, h1, h2, h3, h4⟩ := h
  have := w_S1 g1 h1 g2 h2
  subst this
  exact ⟨S2, b0, h1, by rw [g3 6 (by omega)]; exact h2, w_kp_l h3 h1 g3, h4⟩
theorem w_seat_d {a b b1 : Nat → Int32} {P : Nat} {x1 x2 : Int32} (hP : P ≤ 6) (h : w_seat a P x1 x2 b) (h1 : w_seat a P x1 x2 b1) : w_ee b b1 := by
  obtain ⟨S, c, k1, k2, k3, j, k4, k5, k6⟩ := h
  obtain ⟨S2, c2, m1, m2, m3, j2, m4, m5, m6⟩ := h1
  have := w_S1 k1 m1 k2 m2
  subst this
  have := w_j1 hP k4 m4 k5 m5
  subst this
  obtain ⟨S', s1, s2, s3⟩ := w_kp_d k1 k3 m3
  refine ⟨S', s1, ?_, fun i hi => ?_⟩
  · rw [k6 6 (by omega), q_upN _ _ (by omega)]; exact s2
  · rw [k6 i (by omega), m6 i (by omega)]
    by_cases e : i = 10 + 6 * j2 + 3
    · rw [e, q_upE, q_upE]
    · rw [q_upN _ _ e, q_upN _ _ e]; exact s3 i hi
theorem w_hire_d {a b b1 : Nat → Int32} {P : Nat} {x1 x2 : Int32} (hP : P ≤ 6) (h : w_hire a P x1 x2 b) (h1 : w_hire a P x1 x2 b1) : w_ee b b1 := by
  obtain ⟨S, c, k1, k2, k3, j, k4, k5, k6⟩ := h
  obtain ⟨S2, c2, m1, m2, m3, j2, m4, m5, m6⟩ := h1
  have := w_S1 k1 m1 k2 m2
  subst this
  have := w_j1 hP k4 m4 k5 m5
  subst this
  obtain ⟨S', s1, s2, s3⟩ := w_kp_d k1 k3 m3
  refine ⟨S', s1, ?_, fun i hi => ?_⟩
  · rw [k6 6 (by omega), q_upN _ _ (by omega)]; exact s2
  · rw [k6 i (by omega), m6 i (by omega)]
    by_cases e : i = 10 + 6 * j2 + 4
    · rw [e, q_upE, q_upE]
    · rw [q_upN _ _ e, q_upN _ _ e]; exact s3 i hi
theorem w_cg_j {cold cold' : Nat → Int32} {si j : Nat} {z : Int32 × (Nat → Int32) × Nat} (h : cold' j = cold j) : w_cg cold' si j z = w_cg cold si j z := by
  unfold w_cg
  rw [h]
theorem w_nt_l {a a1 tx : Nat → Int32} (he : ∀ i, i < 76 → a1 i = a i) (c l : Nat) (s : Int32 × (Nat → Int32) × (Nat → Int32) × Int32) (hl : l + c ≤ 10) : w_nt a1 tx c l s = w_nt a tx c l s := by
  have epl : ∀ j, j < 6 → q_pl a1 j = q_pl a j := fun j hj => he _ (by omega)
  have esi : w_si (q_pl a1) = w_si (q_pl a) := w_si_cg epl
  have esm : q_sm a1 = q_sm a := q_ms_cg (fun j hj => he _ (by omega))
  unfold w_nt
  rw [esi, esm]
  refine q_itC c l s (fun i x h1 h2 => ?_)
  have ewv : q_wv a1 tx (q_pl a1) i (q_an (w_si (q_pl a)) (q_sm a)) 7 0 0 = q_wv a tx (q_pl a) i (q_an (w_si (q_pl a)) (q_sm a)) 7 0 0 := by
    rw [q_wv_cg epl]
    exact w_wv_a (he _ (by omega)) (fun j hj _ => ⟨he _ (by omega), he _ (by omega)⟩) ⟨he _ (by omega), he _ (by omega)⟩ 7 0 0
  have ecg : ∀ y, q_it (w_cg (fun j => a1 (10 + 6 * j + 2)) (w_si (q_pl a))) 6 0 y = q_it (w_cg (fun j => a (10 + 6 * j + 2)) (w_si (q_pl a))) 6 0 y := fun y => q_itC 6 0 y (fun j z g1 g2 => w_cg_j (he (10 + 6 * j + 2) (by omega)))
  unfold w_ln
  rw [ewv, ecg, q_lo_cg (a := a) (a' := a1) (he _ (by omega)) (he _ (by omega)) (he _ (by omega))]
theorem w_py_l {a a1 tx : Nat → Int32} {L j : Nat} (he : ∀ i, i < 76 → a1 i = a i) (hL : L ≤ 10) (hj : j < 6) : w_py a1 tx L j = w_py a tx L j := by
  have esi : w_si (q_pl a1) = w_si (q_pl a) := w_si_cg (fun j hj => he _ (by omega))
  have epl : q_pl a1 j = q_pl a j := he _ (by omega)
  unfold w_py
  rw [esi, epl, he 3 (by omega), he (10 + 6 * j + 5) (by omega), w_nt_l he L 0 _ (by omega), w_du_cg (a := a) (a' := a1) (he _ (by omega)) (he _ (by omega)) (he _ (by omega))]
theorem w_ngt_l {a a1 b tx : Nat → Int32} {L : Nat} (hL : L ≤ 10) (he : w_ee a a1) (h : w_ngt a tx L b) : w_ngt a1 tx L b := by
  have h7 := w_ee7 he
  obtain ⟨S, g1, g2, g3⟩ := he
  obtain ⟨S2, b0, h1, h2, h3, h4, h5, h6, h8⟩ := h
  have := w_S1 g1 h1 g2 h2
  subst this
  refine ⟨S2, b0, h1, by rw [g3 6 (by omega)]; exact h2, w_kp_l h3 h1 g3, ?_, ?_, fun j hj => ?_, h8⟩
  · rw [h7 3 (by omega), w_nt_l h7 L 0 _ (by omega)]; exact h4
  · rw [h7 2 (by omega)]; exact h5
  · rw [w_py_l h7 hL hj]; exact h6 j hj
theorem w_ngt_d {a b b1 tx : Nat → Int32} {L : Nat} (h : w_ngt a tx L b) (h1 : w_ngt a tx L b1) : w_ee b b1 := by
  obtain ⟨S, c, k1, k2, k3, k4, k5, k6, k7⟩ := h
  obtain ⟨S2, c2, m1, m2, m3, m4, m5, m6, m7⟩ := h1
  have := w_S1 k1 m1 k2 m2
  subst this
  obtain ⟨S', s1, s2, s3⟩ := w_kp_d k1 k3 m3
  refine ⟨S', s1, ?_, fun i hi => ?_⟩
  · rw [k7 6 (by omega) (by omega) (by omega) (fun j hj => by omega)]; exact s2
  · by_cases e2 : i = 2
    · subst e2; rw [k5, m5]
    · by_cases e3 : i = 3
      · subst e3; rw [k4, m4]
      · by_cases e5 : ∃ j, j < 6 ∧ i = 10 + 6 * j + 5
        · obtain ⟨j, hj, e⟩ := e5
          rw [e, k6 j hj, m6 j hj]
        · have n5 : ∀ j, j < 6 → ¬ i = 10 + 6 * j + 5 := fun j hj e => e5 ⟨j, hj, e⟩
          rw [k7 i (by omega) e2 e3 n5, m7 i (by omega) e2 e3 n5]
          exact s3 i hi
