theorem w_ee_sy {a b : Nat → Int32} (h : w_ee a b) : w_ee b a := by
  obtain ⟨S, h1, h2, h3⟩ := h
  exact ⟨S, h1, by rw [h3 6 (by omega)]; exact h2, fun i hi => (h3 i hi).symm⟩
theorem w_ee_tr {a b c : Nat → Int32} (h : w_ee a b) (h' : w_ee b c) : w_ee a c := by
  obtain ⟨S, h1, h2, h3⟩ := h
  obtain ⟨S2, g1, g2, g3⟩ := h'
  have := w_S1 h1 g1 (by rw [h3 6 (by omega)]; exact h2) g2
  subst this
  exact ⟨S2, h1, h2, fun i hi => (g3 i hi).trans (h3 i hi)⟩
theorem w_CX_ee {n : Nat} {ln : Nat → Nat} {di : Nat → Nat → Int32} {dr : Nat → Nat → Option Nat} {a a' tx : Nat → Int32} {P L T K : Nat} (h : w_CX n ln di dr a tx P L T K) (he : w_ee a a') : w_CX n ln di dr a' tx P L T K := by
  obtain ⟨⟨S, b1⟩, hCE⟩ := h
  have h7 := w_ee7 he
  obtain ⟨c1, c2, c3, c4, c5, c6, c7, c8, c9, c10, c11⟩ := b1
  obtain ⟨S2, g1, g2, g3⟩ := he
  have hP := c1.1
  have hL := c1.2.1
  have := w_S1 g1 c1.2.2.2.1 g2 c1.2.2.2.2.2.2.2.2.1
  subst this
  refine ⟨⟨S, q_Ic_cg c1 (fun i hi => h7 i (by omega)), q_Ip_cg c2 (fun i _ h2 => h7 i (by omega)), q_Il_cg c3 (fun i _ h2 => h7 i (by omega)), fun s hs => ?_, ?_, q_Pe_cg c6 (fun i _ h2 => h7 i (by omega)), q_sb_cg c7 (fun j hj => h7 _ (by omega)), q_Li_cg c8 (fun i _ h2 => h7 i (by omega)), q_Se_cg c9 (fun i _ h2 => h7 i (by omega)), ?_, c11⟩, ?_⟩
  · obtain ⟨Ps, h1, h2, h3⟩ := c4 s hs
    exact ⟨Ps, h1, by rw [g3 _ (by omega)]; exact h2, q_PI_cg h3 (fun j e hj he => g3 _ (by omega))⟩
  · unfold q_Co at *
    rw [h7 0 (by omega), h7 1 (by omega), h7 2 (by omega), h7 3 (by omega), h7 4 (by omega), h7 5 (by omega), h7 7 (by omega)]
    exact c5
  · obtain ⟨o, h1, h2, h3, h4⟩ := c10
    exact ⟨o, h1, h2, h3, fun s hs => q_S1_cg (h4 s hs) (fun i hi => g3 _ (by omega))⟩
  · exact q_CE_cg hCE (Nat.le_refl _) (Nat.le_refl _) (h7 5 (by omega)) (fun j hj => ⟨h7 _ (by omega), h7 _ (by omega)⟩) (fun l hl => ⟨h7 _ (by omega), h7 _ (by omega)⟩)
/-- a clause's first number, second, sort -/
abbrev w_c0 (tx : Nat → Int32) (t k : Nat) : Int32 := tx (680 * t + 1 + 3 * k)
abbrev w_c1 (tx : Nat → Int32) (t k : Nat) : Int32 := tx (680 * t + 1 + 3 * k + 1)
abbrev w_c2 (tx : Nat → Int32) (t k : Nat) : Int32 := tx (680 * t + 1 + 3 * k + 2)
/-- a clause is carried out -/
def w_st (tx : Nat → Int32) (t k P L : Nat) (a b : Nat → Int32) : Prop :=
  (w_c0 tx t k = 3 ∧ w_sOK a P (w_c1 tx t k) (w_c2 tx t k) ∧ w_seat a P (w_c1 tx t k) (w_c2 tx t k) b) ∨ (w_c0 tx t k = 4 ∧ w_sOK a P (w_c1 tx t k) (-1) ∧ w_seat a P (w_c1 tx t k) (-1) b) ∨ (w_c0 tx t k = 5 ∧ w_hOK a P (w_c1 tx t k) 1 ∧ w_hire a P (w_c1 tx t k) 1 b) ∨ (w_c0 tx t k = 6 ∧ ¬ w_si (q_pl a) = 0 ∧ w_ngt a tx L b) ∨ ((¬ w_c0 tx t k = 3 ∧ ¬ w_c0 tx t k = 4 ∧ ¬ w_c0 tx t k = 5 ∧ ¬ w_c0 tx t k = 6) ∧ w_ee a b)
/-- a clause is refused -/
def w_rf (tx : Nat → Int32) (t k P : Nat) (a : Nat → Int32) : Prop :=
  (w_c0 tx t k = 3 ∧ ¬ w_sOK a P (w_c1 tx t k) (w_c2 tx t k)) ∨ (w_c0 tx t k = 4 ∧ ¬ w_sOK a P (w_c1 tx t k) (-1)) ∨ (w_c0 tx t k = 5 ∧ ¬ w_hOK a P (w_c1 tx t k) 1) ∨ (w_c0 tx t k = 6 ∧ w_si (q_pl a) = 0)
def w_run (tx : Nat → Int32) (t P L : Nat) : Nat → Nat → (Nat → Int32) → (Nat → Int32) → Int32 → Prop
  | 0, _, a, a', v => w_ee a a' ∧ v = -1
  | c + 1, k, a, a', v => (w_rf tx t k P a ∧ w_ee a a' ∧ v = nI k) ∨ ∃ b, w_st tx t k P L a b ∧ w_run tx t P L c (k + 1) b a' v
theorem w_st_l {tx : Nat → Int32} {t k P L : Nat} {a a1 b : Nat → Int32} (hP : P ≤ 6) (hL : L ≤ 10) (he : w_ee a a1) (h : w_st tx t k P L a b) : w_st tx t k P L a1 b := by
  have h7 := w_ee7 he
  have esi : w_si (q_pl a1) = w_si (q_pl a) := w_si_cg (fun j hj => h7 _ (by omega))
  rcases h with ⟨q1, q2, q3⟩ | ⟨q1, q2, q3⟩ | ⟨q1, q2, q3⟩ | ⟨q1, q2, q3⟩ | ⟨q1, q2⟩
  · exact Or.inl ⟨q1, w_sOK_l hP h7 q2, w_seat_l he q3⟩
  · exact Or.inr (Or.inl ⟨q1, w_sOK_l hP h7 q2, w_seat_l he q3⟩)
  · exact Or.inr (Or.inr (Or.inl ⟨q1, w_hOK_l hP h7 q2, w_hire_l he q3⟩))
  · exact Or.inr (Or.inr (Or.inr (Or.inl ⟨q1, by rw [esi]; exact q2, w_ngt_l hL he q3⟩)))
  · exact Or.inr (Or.inr (Or.inr (Or.inr ⟨q1, w_ee_tr (w_ee_sy he) q2⟩)))
theorem w_rf_l {tx : Nat → Int32} {t k P : Nat} {a a1 : Nat → Int32} (hP : P ≤ 6) (he : w_ee a a1) (h : w_rf tx t k P a) : w_rf tx t k P a1 := by
  have h7 := w_ee7 he
  have h8 : ∀ i, i < 76 → a i = a1 i := fun i hi => (h7 i hi).symm
  have esi : w_si (q_pl a1) = w_si (q_pl a) := w_si_cg (fun j hj => h7 _ (by omega))
  rcases h with ⟨q1, q2⟩ | ⟨q1, q2⟩ | ⟨q1, q2⟩ | ⟨q1, q2⟩
  · exact Or.inl ⟨q1, fun z => q2 (w_sOK_l hP h8 z)⟩
  · exact Or.inr (Or.inl ⟨q1, fun z => q2 (w_sOK_l hP h8 z)⟩)
  · exact Or.inr (Or.inr (Or.inl ⟨q1, fun z => q2 (w_hOK_l hP h8 z)⟩))
  · exact Or.inr (Or.inr (Or.inr ⟨q1, by rw [esi]; exact q2⟩))
theorem w_run_l {tx : Nat → Int32} {t P L : Nat} (hP : P ≤ 6) (hL : L ≤ 10) {c k : Nat} {a a1 a' : Nat → Int32} {v : Int32} (he : w_ee a a1) (h : w_run tx t P L c k a a' v) : w_run tx t P L c k a1 a' v := by
  cases c with
  | zero => exact ⟨w_ee_tr (w_ee_sy he) h.1, h.2⟩
  | succ c =>
    rcases h with ⟨q1, q2, q3⟩ | ⟨b, q1, q2⟩
    · exact Or.inl ⟨w_rf_l hP he q1, w_ee_tr (w_ee_sy he) q2, q3⟩
    · exact Or.inr ⟨b, w_st_l hP hL he q1, q2⟩
theorem w_n36 : ¬ (3 : Int32) = 4 ∧ ¬ (3 : Int32) = 5 ∧ ¬ (3 : Int32) = 6 ∧ ¬ (4 : Int32) = 5 ∧ ¬ (4 : Int32) = 6 ∧ ¬ (5 : Int32) = 6 := by decide
theorem w_st_rf {tx : Nat → Int32} {t k P L : Nat} {a b : Nat → Int32} (h : w_st tx t k P L a b) (h' : w_rf tx t k P a) : False := by
  obtain ⟨n1, n2, n3, n4, n5, n6⟩ := w_n36
  rcases h with ⟨q1, q2, q3⟩ | ⟨q1, q2, q3⟩ | ⟨q1, q2, q3⟩ | ⟨q1, q2, q3⟩ | ⟨q1, q2⟩
  · rcases h' with ⟨m1, m2⟩ | ⟨m1, m2⟩ | ⟨m1, m2⟩ | ⟨m1, m2⟩
    · exact m2 q2
    · exact n1 (q1.symm.trans m1)
    · exact n2 (q1.symm.trans m1)
    · exact n3 (q1.symm.trans m1)
  · rcases h' with ⟨m1, m2⟩ | ⟨m1, m2⟩ | ⟨m1, m2⟩ | ⟨m1, m2⟩
    · exact n1 (m1.symm.trans q1)
    · exact m2 q2
    · exact n4 (q1.symm.trans m1)
    · exact n5 (q1.symm.trans m1)
  · rcases h' with ⟨m1, m2⟩ | ⟨m1, m2⟩ | ⟨m1, m2⟩ | ⟨m1, m2⟩
    · exact n2 (m1.symm.trans q1)
    · exact n4 (m1.symm.trans q1)
    · exact m2 q2
    · exact n6 (q1.symm.trans m1)
  · rcases h' with ⟨m1, m2⟩ | ⟨m1, m2⟩ | ⟨m1, m2⟩ | ⟨m1, m2⟩
    · exact n3 (m1.symm.trans q1)
    · exact n5 (m1.symm.trans q1)
    · exact n6 (m1.symm.trans q1)
    · exact q2 m2
  · rcases h' with ⟨m1, m2⟩ | ⟨m1, m2⟩ | ⟨m1, m2⟩ | ⟨m1, m2⟩
    · exact q1.1 m1
    · exact q1.2.1 m1
    · exact q1.2.2.1 m1
    · exact q1.2.2.2 m1
theorem w_st_d {tx : Nat → Int32} {t k P L : Nat} {a b b1 : Nat → Int32} (hP : P ≤ 6) (h : w_st tx t k P L a b) (h' : w_st tx t k P L a b1) : w_ee b b1 := by
  obtain ⟨n1, n2, n3, n4, n5, n6⟩ := w_n36
  rcases h with ⟨q1, q2, q3⟩ | ⟨q1, q2, q3⟩ | ⟨q1, q2, q3⟩ | ⟨q1, q2, q3⟩ | ⟨q1, q2⟩
  · rcases h' with ⟨m1, m2, m3⟩ | ⟨m1, m2, m3⟩ | ⟨m1, m2, m3⟩ | ⟨m1, m2, m3⟩ | ⟨m1, m2⟩
    · exact w_seat_d hP q3 m3
    · exact absurd (q1.symm.trans m1) n1
    · exact absurd (q1.symm.trans m1) n2
    · exact absurd (q1.symm.trans m1) n3
    · exact absurd q1 m1.1
  · rcases h' with ⟨m1, m2, m3⟩ | ⟨m1, m2, m3⟩ | ⟨m1, m2, m3⟩ | ⟨m1, m2, m3⟩ | ⟨m1, m2⟩
    · exact absurd (m1.symm.trans q1) n1
    · exact w_seat_d hP q3 m3
    · exact absurd (q1.symm.trans m1) n4
    · exact absurd (q1.symm.trans m1) n5
    · exact absurd q1 m1.2.1
  · rcases h' with ⟨m1, m2, m3⟩ | ⟨m1, m2, m3⟩ | ⟨m1, m2, m3⟩ | ⟨m1, m2, m3⟩ | ⟨m1, m2⟩
    · exact absurd (m1.symm.trans q1) n2
    · exact absurd (m1.symm.trans q1) n4
    · exact w_hire_d hP q3 m3
    · exact absurd (q1.symm.trans m1) n6
    · exact absurd q1 m1.2.2.1
  · rcases h' with ⟨m1, m2, m3⟩ | ⟨m1, m2, m3⟩ | ⟨m1, m2, m3⟩ | ⟨m1, m2, m3⟩ | ⟨m1, m2⟩
    · exact absurd (m1.symm.trans q1) n3
    · exact absurd (m1.symm.trans q1) n5
    · exact absurd (m1.symm.trans q1) n6
    · exact w_ngt_d q3 m3
    · exact absurd q1 m1.2.2.2
  · rcases h' with ⟨m1, m2, m3⟩ | ⟨m1, m2, m3⟩ | ⟨m1, m2, m3⟩ | ⟨m1, m2, m3⟩ | ⟨m1, m2⟩
    · exact absurd m1 q1.1
    · exact absurd m1 q1.2.1
    · exact absurd m1 q1.2.2.1
    · exact absurd m1 q1.2.2.2
    · exact w_ee_tr (w_ee_sy q2) m2
