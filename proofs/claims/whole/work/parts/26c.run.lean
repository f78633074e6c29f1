/-- what holds of the model's row at each step of a play -/
def w_MI (a tx : Nat → Int32) (P L : Nat) : Prop := P ≤ 6 ∧ L ≤ 10 ∧ a 0 = nI P ∧ a 1 = nI L ∧ (∀ j, P ≤ j → j < 6 → a (10 + 6 * j + 3) = -1 ∧ a (10 + 6 * j + 4) = 0) ∧ q_MT a tx ∧ (∀ j, j < 6 → q_pl a j = -1 ∨ ∃ s, s < 16 ∧ q_pl a j = nI s) ∧ ∃ S, S ≤ 30 ∧ a 6 = nI S
theorem w_MI_MF {D : Nat → Nat → Int32} {a tx : Nat → Int32} {P L : Nat} (h : w_MI a tx P L) (h68 : D 68 = a) (h70 : D 70 = tx) : w_MF D a tx P L :=
  ⟨h68, h70, h.1, h.2.1, h.2.2.1, h.2.2.2.1, h.2.2.2.2.1, h.2.2.2.2.2.1⟩
theorem w_CX_MI {n : Nat} {ln : Nat → Nat} {di : Nat → Nat → Int32} {dr : Nat → Nat → Option Nat} {a tx : Nat → Int32} {P L T K : Nat} (h : w_CX n ln di dr a tx P L T K) : w_MI a tx P L := by
  obtain ⟨⟨S, c1, c2, c3, c4, c5, c6, c7, c8, c9, c10, c11⟩, _⟩ := h
  refine ⟨c1.1, c1.2.1, c1.2.2.2.2.2.1, c1.2.2.2.2.2.2.1, fun j h1 h2 => ⟨(c2.2.2.1 j h1 h2).1, (c2.2.2.1 j h1 h2).2.1⟩, ?_, fun j hj => c2.2.1 j hj, S, c1.2.2.2.1, c1.2.2.2.2.2.2.2.2.1⟩
  rcases c1.2.2.2.2.2.2.2.2.2.2 with q | ⟨t, q1, q2⟩
  · exact Or.inl q
  · obtain ⟨z, z1, z2, z3⟩ := c11.1 t q1
    have hT := c1.2.2.1
    exact Or.inr ⟨t, by omega, q2, q_TX_tw z3⟩
theorem w_x15 {x : Int32} (h1 : (-1 : Int32) ≤ x) (h2 : x ≤ 15) : x = -1 ∨ ∃ s, s < 16 ∧ x = nI s := by
  by_cases e : x = -1
  · exact Or.inl e
  · have : (0 : Int32) ≤ x := by
      rw [fa_le, q_tm1] at h1
      rw [fa_le, q_t0]
      have : ¬ x.toInt = -1 := fun z => e (by rw [fa_eq, q_tm1]; exact z)
      omega
    obtain ⟨s, hs, he⟩ := nI_of2 (M := 15) (n := 15) rfl (q_not_lt this) h2
    exact Or.inr ⟨s, by omega, he⟩
theorem w_kp_S {a b : Nat → Int32} {S : Nat} (h : w_kp a b S) (hS : S ≤ 30) : (∀ i, i < 76 → ¬ i = 6 → b i = a i) ∧ ∃ S', S' ≤ 30 ∧ b 6 = nI S' := by
  obtain ⟨S', δ, k1, _, k3, k4, _⟩ := h
  refine ⟨k3, S', ?_, k4⟩
  by_cases q : S = 30
  · rw [if_pos q] at k1; omega
  · rw [if_neg q] at k1; omega
theorem w_MI_seat {a b tx : Nat → Int32} {P L : Nat} {x1 x2 : Int32} (h : w_MI a tx P L) (hk : w_sOK a P x1 x2) (hs : w_seat a P x1 x2 b) : w_MI b tx P L := by
  obtain ⟨h1, h2, h3, h4, h5, h6, h7, _⟩ := h
  obtain ⟨j0, _, _, v3, v4, _⟩ := hk
  obtain ⟨S, c, s1, s2, s3, j, s4, s5, s6⟩ := hs
  obtain ⟨e, S', e1, e2⟩ := w_kp_S s3 s1
  have E : ∀ i, i < 76 → ¬ i = 6 → ¬ i = 10 + 6 * j + 3 → b i = a i := fun i g1 g2 g3 => by rw [s6 i (by omega), q_upN _ _ g3]; exact e i g1 g2
  refine ⟨h1, h2, by rw [E 0 (by omega) (by omega) (by omega)]; exact h3, by rw [E 1 (by omega) (by omega) (by omega)]; exact h4, fun i g1 g2 => by rw [E _ (by omega) (by omega) (by omega), E _ (by omega) (by omega) (by omega)]; exact h5 i g1 g2, w_MT_cg h6 (E 5 (by omega) (by omega) (by omega)), fun i hi => ?_, S', e1, by rw [s6 6 (by omega), q_upN _ _ (by omega)]; exact e2⟩
  show b (10 + 6 * i + 3) = -1 ∨ ∃ s, s < 16 ∧ b (10 + 6 * i + 3) = nI s
  by_cases q : i = j
  · subst q
    rw [s6 _ (by omega), q_upE]; exact w_x15 v3 v4
  · rw [E _ (by omega) (by omega) (by omega)]; exact h7 i hi
theorem w_MI_hire {a b tx : Nat → Int32} {P L : Nat} {x1 x2 : Int32} (h : w_MI a tx P L) (hs : w_hire a P x1 x2 b) : w_MI b tx P L := by
  obtain ⟨h1, h2, h3, h4, h5, h6, h7, _⟩ := h
  obtain ⟨S, c, s1, s2, s3, j, s4, s5, s6⟩ := hs
  obtain ⟨e, S', e1, e2⟩ := w_kp_S s3 s1
  have E : ∀ i, i < 76 → ¬ i = 6 → ¬ i = 10 + 6 * j + 4 → b i = a i := fun i g1 g2 g3 => by rw [s6 i (by omega), q_upN _ _ g3]; exact e i g1 g2
  refine ⟨h1, h2, by rw [E 0 (by omega) (by omega) (by omega)]; exact h3, by rw [E 1 (by omega) (by omega) (by omega)]; exact h4, fun i g1 g2 => by rw [E _ (by omega) (by omega) (by omega), E _ (by omega) (by omega) (by omega)]; exact h5 i g1 g2, w_MT_cg h6 (E 5 (by omega) (by omega) (by omega)), fun i hi => ?_, S', e1, by rw [s6 6 (by omega), q_upN _ _ (by omega)]; exact e2⟩
  show b (10 + 6 * i + 3) = -1 ∨ ∃ s, s < 16 ∧ b (10 + 6 * i + 3) = nI s
  rw [E _ (by omega) (by omega) (by omega)]; exact h7 i hi
theorem w_MI_ngt {a b tx : Nat → Int32} {P L : Nat} (h : w_MI a tx P L) (hs : w_ngt a tx L b) : w_MI b tx P L := by
  obtain ⟨h1, h2, h3, h4, h5, h6, h7, _⟩ := h
  obtain ⟨S, c, s1, s2, s3, s4, s5, s6, s7⟩ := hs
  obtain ⟨e, S', e1, e2⟩ := w_kp_S s3 s1
  have E : ∀ i, i < 76 → ¬ i = 6 → ¬ i = 2 → ¬ i = 3 → ¬ (15 ≤ i ∧ i < 46 ∧ i % 6 = 3) → b i = a i := fun i y1 y2 y3 y4 y5 => (s7 i (by omega) y3 y4 (fun j hj e => y5 (by omega))).trans (e i y1 y2)
  refine ⟨h1, h2, by rw [E 0 (by omega) (by omega) (by omega) (by omega) (by omega)]; exact h3, by rw [E 1 (by omega) (by omega) (by omega) (by omega) (by omega)]; exact h4, fun i g1 g2 => by rw [E _ (by omega) (by omega) (by omega) (by omega) (by omega), E _ (by omega) (by omega) (by omega) (by omega) (by omega)]; exact h5 i g1 g2, w_MT_cg h6 (E 5 (by omega) (by omega) (by omega) (by omega) (by omega)), fun i hi => ?_, S', e1, by rw [s7 6 (by omega) (by omega) (by omega) (fun j hj => by omega)]; exact e2⟩
  show b (10 + 6 * i + 3) = -1 ∨ ∃ s, s < 16 ∧ b (10 + 6 * i + 3) = nI s
  rw [E _ (by omega) (by omega) (by omega) (by omega) (by omega)]; exact h7 i hi
theorem w_MI_ee {a b tx : Nat → Int32} {P L : Nat} (h : w_MI a tx P L) (he : w_ee a b) : w_MI b tx P L := by
  obtain ⟨h1, h2, h3, h4, h5, h6, h7, S, h8, h9⟩ := h
  have E := w_ee7 he
  refine ⟨h1, h2, by rw [E 0 (by omega)]; exact h3, by rw [E 1 (by omega)]; exact h4, fun i g1 g2 => by rw [E _ (by omega), E _ (by omega)]; exact h5 i g1 g2, w_MT_cg h6 (E 5 (by omega)), fun i hi => ?_, S, h8, by rw [E 6 (by omega)]; exact h9⟩
  show b (10 + 6 * i + 3) = -1 ∨ ∃ s, s < 16 ∧ b (10 + 6 * i + 3) = nI s
  rw [E _ (by omega)]; exact h7 i hi
theorem w_MI_st {a b tx : Nat → Int32} {t k P L : Nat} (h : w_MI a tx P L) (hs : w_st tx t k P L a b) : w_MI b tx P L := by
  rcases hs with ⟨q1, q2, q3⟩ | ⟨q1, q2, q3⟩ | ⟨q1, q2, q3⟩ | ⟨q1, q2, q3⟩ | ⟨q1, q2⟩
  · exact w_MI_seat h q2 q3
  · exact w_MI_seat h q2 q3
  · exact w_MI_hire h q3
  · exact w_MI_ngt h q3
  · exact w_MI_ee h q2
section
variable {c d n sl : Nat} {ln : Nat → Nat} {di : Nat → Nat → Int32} {dl : Nat → Nat → Int64} {dr : Nat → Nat → Option Nat} {Q : Option Value → q_H → Prop} {a tx : Nat → Int32} {P L t k : Nat}
/-- the model carries out a clause -/
theorem m_act (hI : w_MI a tx P L) (h68 : di 68 = a) (h70 : di 70 = tx) (ht : t < 4) (hk : k < 24) (hg : q_Gr n ln dr)
    (k1 : ∀ D b dl', w_NM di D → D 68 = b → w_st tx t k P L a b → Q (some (.int 1)) (n, sl, ln, D, dl', dr))
    (k0 : w_rf tx t k P a → Q (some (.int 0)) (n, sl, ln, di, dl, dr)) : q_EX q_KD (d + 7) 187 0 [.ref 67, .int (nI (680 * t + 1 + 3 * k))] [] (n, sl, ln, di, dl, dr) Q := by
  have hF := w_MI_MF hI h68 h70
  obtain ⟨h1, h2, h3, h4, h5, h6, h7, S, h8, h9⟩ := hI
  have x0 : (nI (680 * t + 1 + 3 * k)).toNatClampNeg = 680 * t + 1 + 3 * k := nI_clamp (by omega)
  have e1 : nI (680 * t + 1 + 3 * k) + 1 = nI (680 * t + 1 + 3 * k + 1) := nI_1 _
  have e2 : nI (680 * t + 1 + 3 * k) + 2 = nI (680 * t + 1 + 3 * k + 2) := nI_add _ 2
  have x1 : (nI (680 * t + 1 + 3 * k) + 1).toNatClampNeg = 680 * t + 1 + 3 * k + 1 := by rw [e1]; exact nI_clamp (by omega)
  have x2 : (nI (680 * t + 1 + 3 * k) + 2).toNatClampNeg = 680 * t + 1 + 3 * k + 2 := by rw [e2]; exact nI_clamp (by omega)
  have v0 : vp_in (nI (680 * t + 1 + 3 * k)) 2720 := vp_in_nI (by omega) (by decide)
  have v1 : vp_in (nI (680 * t + 1 + 3 * k) + 1) 2720 := by rw [e1]; exact vp_in_nI (by omega) (by decide)
  have v2 : vp_in (nI (680 * t + 1 + 3 * k) + 2) 2720 := by rw [e2]; exact vp_in_nI (by omega) (by decide)
  have hM68 : ∀ b, w_NM di (va_up di 68 b) := fun b => w_NM_68 (w_NM_0 (w_M_refl di))
  have hOK : ∃ B, B ≤ 99 * (0 + L) ∧ (w_nt a tx L 0 (a 3, fun _ => 0, fun _ => 0, 0)).2.2.2 = nI B := (w_nt_OK (a := a) (tx := tx) L 0 (a 3, fun _ => 0, fun _ => 0, 0) (w_nt0.2 _)).1
  have s68 : di 68 0 = nI P := by rw [h68]; exact h3
  have s6 : di 68 6 = nI S := by rw [h68]; exact h9
  refine g187_0 hg v0 (fun _ => v1) (fun _ => v2) (fun y => ?_) (fun _ => v1) (fun y => ?_) (fun _ => v1) (fun y => ?_) (fun y => ?_) (fun y3 y4 y5 y6 => ?_)
  · rw [x1, x2, h70]
    rw [x0, h70] at y
    refine m_seat (d := d + 4) h1 h8 s68 s6 hg (fun hok b hb => g187_56 hg rfl ?_) (fun hno => g187_56 hg rfl ?_)
    · rw [h68] at hok hb
      exact k1 _ b dl (hM68 b) (q_upE _ _ _) (Or.inl ⟨y, hok, hb⟩)
    · rw [h68] at hno
      exact k0 (Or.inl ⟨y, hno⟩)
  · rw [x1, h70]
    rw [x0, h70] at y
    refine m_seat (d := d + 4) h1 h8 s68 s6 hg (fun hok b hb => g187_70 hg rfl ?_) (fun hno => g187_70 hg rfl ?_)
    · rw [h68] at hok hb
      exact k1 _ b dl (hM68 b) (q_upE _ _ _) (Or.inr (Or.inl ⟨y, hok, hb⟩))
    · rw [h68] at hno
      exact k0 (Or.inr (Or.inl ⟨y, hno⟩))
  · rw [x1, h70]
    rw [x0, h70] at y
    refine m_hire (d := d + 4) h1 h8 s68 s6 hg (fun hok b hb => g187_84 hg rfl ?_) (fun hno => g187_84 hg rfl ?_)
    · rw [h68] at hok hb
      exact k1 _ b dl (hM68 b) (q_upE _ _ _) (Or.inr (Or.inr (Or.inl ⟨y, hok, hb⟩)))
    · rw [h68] at hno
      exact k0 (Or.inr (Or.inr (Or.inl ⟨y, hno⟩)))
  · rw [x0, h70] at y
    obtain ⟨B, hB, hBe⟩ := hOK
    refine m_night (d := d) hF h7 h8 h9 hg (fun hne D b dl' hM hb hn => g187_89 hg (fun w => ?_) (fun _ => k1 D b dl' hM hb (Or.inr (Or.inr (Or.inr (Or.inl ⟨y, hne, hn⟩)))))) (fun h0 => g187_89 hg (fun _ => k0 (Or.inr (Or.inr (Or.inr ⟨y, h0⟩)))) (fun w => absurd w (by decide)))
    rw [hBe] at w
    exact absurd w (nI_pos (by omega))
  · rw [x0, h70] at y3 y4 y5 y6
    exact k1 di a dl (w_NM_0 (w_M_refl di)) h68 (Or.inr (Or.inr (Or.inr (Or.inr ⟨⟨y3, y4, y5, y6⟩, S, h8, h9, fun _ _ => rfl⟩))))
/-- the model plays from clause k on -/
theorem m_run {N : Nat} (ht : t < 4) (hN : N ≤ 24) (htN : tx (680 * t) = nI N) (hg : q_Gr n ln dr) : ∀ (c k : Nat) (a : Nat → Int32) (D : Nat → Nat → Int32) (dl : Nat → Nat → Int64), k + c = N → w_MI a tx P L → w_NM di D → D 68 = a → D 70 = tx →
    (∀ D' a' dl' v, w_NM di D' → D' 68 = a' → w_run tx t P L c k a a' v → Q (some (.int v)) (n, sl, ln, D', dl', dr)) → q_EX q_KD (d + 8) 186 21 [.ref 67, .int (nI t), .int (nI k)] [] (n, sl, ln, D, dl, dr) Q := by
  have e0 : (680 : Int32) * nI t = nI (680 * t) := nI_mulN 680 t
  have x0 : ((680 : Int32) * nI t).toNatClampNeg = 680 * t := by rw [e0]; exact nI_clamp (by omega)
  have v0 : vp_in ((680 : Int32) * nI t) 2720 := by rw [e0]; exact vp_in_nI (by omega) (by decide)
  intro c
  induction c with
  | zero =>
    intro k a D dl hk hI hM h68 h70 kk
    obtain ⟨_, _, _, _, _, _, _, S, h8, h9⟩ := hI
    refine g186_21 hg v0 (fun _ => kk D a dl (-1) hM h68 ⟨⟨S, h8, h9, fun _ _ => rfl⟩, rfl⟩) (fun w => ?_)
    rw [x0, h70, htN] at w
    exact absurd w (nI_nlt (by omega) (by omega))
  | succ c ih =>
    intro k a D dl hk hI hM h68 h70 kk
    refine g186_21 hg v0 (fun w => ?_) (fun _ => ?_)
    · rw [x0, h70, htN] at w
      exact absurd w (nI_ge (by omega) (by omega))
    rw [q_ixc]
    refine m_act (d := d) hI h68 h70 ht (by omega) hg (fun D1 b dl1 hM1 h681 hst => g186_50 hg (fun _ => ?_) (fun w => absurd w (by decide))) (fun hrf => g186_50 hg (fun w => absurd rfl w) (fun _ => ?_))
    · rw [nI_1]
      exact ih (k + 1) b D1 dl1 (by omega) (w_MI_st hI hst) (w_NM_tr hM hM1) h681 ((hM1.1 70 rfl (by decide)).trans h70) (fun D' a' dl' v g1 g2 g3 => kk D' a' dl' v g1 g2 (Or.inr ⟨b, hst, g3⟩))
    · obtain ⟨_, _, _, _, _, _, _, S, h8, h9⟩ := hI
      exact kk D a dl (nI k) hM h68 (Or.inl ⟨hrf, ⟨S, h8, h9, fun _ _ => rfl⟩, rfl⟩)
end
