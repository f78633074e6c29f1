section
variable {c d n sl : Nat} {ln : Nat → Nat} {di : Nat → Nat → Int32} {dl : Nat → Nat → Int64} {dr : Nat → Nat → Option Nat} {Q : Option Value → q_H → Prop} {a tx : Nat → Int32} {P L T K : Nat}
/-- the same, with the Reckoner's memos kept -/
theorem w_joinC {a' : Nat → Int32} {D : Nat → Nat → Int32} {P' L' T' S' K' : Nat} (h : q_RR c n sl ln di dr) (hD : ∀ k, w_Z k = false → ¬ k = 60 → ¬ k = 61 → D k = di k) (hCR : q_CR (D 60) (D 61) (D 66) a' (di 70) P L) (b2 : q_RH n ln di (di 23) (di 24) (di 25) (di 26) (di 27) (di 28) (di 29) (di 30) (di 31) (di 33) (di 34) (di 35) (di 36) (di 37) (di 38) (dr 32) (di 69) (di 70) P' L' T' S' K') (hT : T' ≤ T) (hc : w_CX n ln D dr a' (di 70) P L T K) : q_RR (c + 1) n sl ln (va_up D 68 a') dr := by
  obtain ⟨a1, a2, a3, a4, a5, a6, _⟩ := h
  obtain ⟨⟨S, b1⟩, hCE⟩ := hc
  have hd : ∀ k, 84 ≤ k → D k = di k := fun k hk => hD k (by
    cases hz : w_Z k with
    | false => rfl
    | true =>
      have h' : (Nat.beq k 7 || Nat.beq k 11 || Nat.beq k 12 || (Nat.ble 17 k && Nat.ble k 22) || (Nat.ble 51 k && Nat.ble k 59)) = true := hz
      simp only [Bool.or_eq_true, Bool.and_eq_true, Nat.beq_eq, Nat.ble_eq] at h'
      omega) (by omega) (by omega)
  have hd2 : ∀ k, 84 ≤ k → va_up D 68 a' k = di k := fun k hk => by rw [w_84u (by decide) hk]; exact hd k hk
  have e : ∀ k, ¬ k = 68 → w_Z k = false → ¬ k = 60 → ¬ k = 61 → va_up D 68 a' k = di k := fun k h1 h2 h3 h4 => by rw [q_upN _ _ h1]; exact hD k h2 h3 h4
  refine w_RR_up ⟨a1, a2, a3, ?_, ?_, ?_, P, L, T, S, K, P', L', T', S', K', ?_, ?_, hT, ?_, ?_⟩
  · unfold q_Cn at *
    rw [e 1 (by decide) rfl (by decide) (by decide), e 2 (by decide) rfl (by decide) (by decide), e 3 (by decide) rfl (by decide) (by decide), e 5 (by decide) rfl (by decide) (by decide)]
    exact a4
  · unfold q_Tp at *
    rw [e 40 (by decide) rfl (by decide) (by decide), e 41 (by decide) rfl (by decide) (by decide), e 67 (by decide) rfl (by decide) (by decide), e 71 (by decide) rfl (by decide) (by decide)]
    exact a5
  · unfold q_Ft at *
    rw [e 39 (by decide) rfl (by decide) (by decide), e 67 (by decide) rfl (by decide) (by decide)]
    exact a6
  · have e70 : va_up D 68 a' 70 = di 70 := e 70 (by decide) rfl (by decide) (by decide)
    rw [e70]
    exact w_RHd b1 (fun k hk => w_84u (by decide) hk)
  · rw [e 23 (by decide) rfl (by decide) (by decide), e 24 (by decide) rfl (by decide) (by decide), e 25 (by decide) rfl (by decide) (by decide), e 26 (by decide) rfl (by decide) (by decide), e 27 (by decide) rfl (by decide) (by decide), e 28 (by decide) rfl (by decide) (by decide), e 29 (by decide) rfl (by decide) (by decide), e 30 (by decide) rfl (by decide) (by decide), e 31 (by decide) rfl (by decide) (by decide), e 33 (by decide) rfl (by decide) (by decide), e 34 (by decide) rfl (by decide) (by decide), e 35 (by decide) rfl (by decide) (by decide), e 36 (by decide) rfl (by decide) (by decide), e 37 (by decide) rfl (by decide) (by decide), e 38 (by decide) rfl (by decide) (by decide), e 69 (by decide) rfl (by decide) (by decide), e 70 (by decide) rfl (by decide) (by decide)]
    exact w_RHd b2 hd2
  · rw [e 70 (by decide) rfl (by decide) (by decide)]
    exact hCE
  · rw [e 70 (by decide) rfl (by decide) (by decide)]
    exact hCR
/-- R at the end of steps that the model made with scratch rows -/
theorem w_scrN {D D' : Nat → Nat → Int32} {a' : Nat → Int32} (h : q_RR c n sl ln (va_up D 68 a') dr) (hM : w_NM D D') (h68 : D' 68 = a') : q_RR c n sl ln D' dr := by
  have hX : ∀ k, w_X k = true → D' k = va_up D 68 a' k := fun k hk => by
    by_cases e : k = 68
    · subst e; rw [q_upE]; exact h68
    · rw [q_upN _ _ e]; exact hM.1 k hk e
  refine w_RR_scr h (fun k hk => hX k (w_XP hk)) (by rw [q_upN _ _ (show ¬ 67 = 68 by decide)]; exact hM.2.1) (by rw [q_upN _ _ (show ¬ 67 = 68 by decide)]; exact hM.2.2.1) (by rw [q_upN _ _ (show ¬ 67 = 68 by decide)]; exact hM.2.2.2) (fun P L T S K _ b2 b3 => ?_)
  rw [hX 54 rfl, hX 55 rfl, hX 56 rfl, hX 60 rfl, hX 61 rfl, hX 66 rfl]
  exact ⟨b2, b3⟩
theorem o_night (h : q_RR c n sl ln di dr) : o_op (d + 6) 67 182 [.ref 6] [.ref 67, .retAddr 0, .retAddr 0, .retAddr 0, .retAddr 0] c (n, sl, ln, di, dl, dr) := by
  have hR := h
  obtain ⟨hg, a2, a3, a4, a5, a6, P, L, T, S, K, P', L', T', S', K', b1, b2, b3, b4, b5⟩ := hR
  have hF := w_RH_MF b1
  have hv : ∀ j, j < 6 → q_pl (di 68) j = -1 ∨ ∃ s, s < 16 ∧ q_pl (di 68) j = nI s := fun j hj => b1.2.1.2.1 j hj
  have hS := b1.1.2.2.2.1
  have h6 := b1.1.2.2.2.2.2.2.2.2.1
  refine g67_0 hg (x_night (d := d) (a := di 68) (tx := di 70) a4.1 ⟨⟨S, b1⟩, b4⟩ hg (fun hne D hD hcl => g67_7 hg ⟨_, rfl, ?_⟩) (fun h0 => g67_7 hg ⟨_, rfl, ?_⟩))
  · have e68 : D 68 = di 68 := hD 68 rfl
    have hFD : w_MF D (di 68) (di 70) P L := ⟨e68, hD 70 rfl, hF.2.2⟩
    refine m_night (d := d) hFD hv hS h6 hg (fun _ D' a' dl' hM h68 ha' => ⟨rfl, ?_⟩) (fun z => absurd z hne)
    refine w_scrN (w_joinC h (fun k g1 _ _ => hD k g1) ?_ b2 b3 (hcl a' ha')) hM h68
    rw [hD 60 rfl, hD 61 rfl, hD 66 rfl]
    obtain ⟨S2, b, s1, s2, s3, s4, s5, s6, s7⟩ := ha'
    obtain ⟨S3, δ, _, _, bE, _⟩ := s3
    have A : ∀ i, i < 76 → ¬ i = 6 → ¬ i = 2 → ¬ i = 3 → ¬ (15 ≤ i ∧ i < 46 ∧ i % 6 = 3) → a' i = di 68 i := fun i y1 y2 y3 y4 y5 => (s7 i (by omega) y3 y4 (fun j hj e => y5 (by omega))).trans (bE i y1 y2)
    have hL := b1.1.2.1
    exact w_CR_T b5 b1.1.1 (A 5 (by omega) (by omega) (by omega) (by omega) (by omega)) (fun j hj => ⟨A _ (by omega) (by omega) (by omega) (by omega) (by omega), A _ (by omega) (by omega) (by omega) (by omega) (by omega), A _ (by omega) (by omega) (by omega) (by omega) (by omega), A _ (by omega) (by omega) (by omega) (by omega) (by omega)⟩) (fun l hl => ⟨A _ (by omega) (by omega) (by omega) (by omega) (by omega), A _ (by omega) (by omega) (by omega) (by omega) (by omega)⟩)
  · exact m_night (d := d) hF hv hS h6 hg (fun hne => absurd h0 hne) (fun _ => ⟨rfl, w_RR_up h⟩)
end
