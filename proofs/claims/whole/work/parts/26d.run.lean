/-! the class plays -/
theorem w_st3 {tx : Nat → Int32} {t k P L : Nat} {a b : Nat → Int32} (h : w_st tx t k P L a b) (e : w_c0 tx t k = 3) : w_seat a P (w_c1 tx t k) (w_c2 tx t k) b := by
  obtain ⟨n1, n2, n3, n4, n5, n6⟩ := w_n36
  rcases h with ⟨q1, q2, q3⟩ | ⟨q1, q2, q3⟩ | ⟨q1, q2, q3⟩ | ⟨q1, q2, q3⟩ | ⟨q1, q2⟩
  · exact q3
  · exact absurd (e.symm.trans q1) n1
  · exact absurd (e.symm.trans q1) n2
  · exact absurd (e.symm.trans q1) n3
  · exact absurd e q1.1
theorem w_st4 {tx : Nat → Int32} {t k P L : Nat} {a b : Nat → Int32} (h : w_st tx t k P L a b) (e : w_c0 tx t k = 4) : w_seat a P (w_c1 tx t k) (-1) b := by
  obtain ⟨n1, n2, n3, n4, n5, n6⟩ := w_n36
  rcases h with ⟨q1, q2, q3⟩ | ⟨q1, q2, q3⟩ | ⟨q1, q2, q3⟩ | ⟨q1, q2, q3⟩ | ⟨q1, q2⟩
  · exact absurd (q1.symm.trans e) n1
  · exact q3
  · exact absurd (e.symm.trans q1) n4
  · exact absurd (e.symm.trans q1) n5
  · exact absurd e q1.2.1
theorem w_st5 {tx : Nat → Int32} {t k P L : Nat} {a b : Nat → Int32} (h : w_st tx t k P L a b) (e : w_c0 tx t k = 5) : w_hire a P (w_c1 tx t k) 1 b := by
  obtain ⟨n1, n2, n3, n4, n5, n6⟩ := w_n36
  rcases h with ⟨q1, q2, q3⟩ | ⟨q1, q2, q3⟩ | ⟨q1, q2, q3⟩ | ⟨q1, q2, q3⟩ | ⟨q1, q2⟩
  · exact absurd (q1.symm.trans e) n2
  · exact absurd (q1.symm.trans e) n4
  · exact q3
  · exact absurd (e.symm.trans q1) n6
  · exact absurd e q1.2.2.1
theorem w_st6 {tx : Nat → Int32} {t k P L : Nat} {a b : Nat → Int32} (h : w_st tx t k P L a b) (e : w_c0 tx t k = 6) : w_ngt a tx L b := by
  obtain ⟨n1, n2, n3, n4, n5, n6⟩ := w_n36
  rcases h with ⟨q1, q2, q3⟩ | ⟨q1, q2, q3⟩ | ⟨q1, q2, q3⟩ | ⟨q1, q2, q3⟩ | ⟨q1, q2⟩
  · exact absurd (q1.symm.trans e) n3
  · exact absurd (q1.symm.trans e) n5
  · exact absurd (q1.symm.trans e) n6
  · exact q3
  · exact absurd e q1.2.2.2
theorem w_rfk {tx : Nat → Int32} {t k P : Nat} {a : Nat → Int32} (h : w_rf tx t k P a) : (w_c0 tx t k = 3 → ¬ w_sOK a P (w_c1 tx t k) (w_c2 tx t k)) ∧ (w_c0 tx t k = 4 → ¬ w_sOK a P (w_c1 tx t k) (-1)) ∧ (w_c0 tx t k = 5 → ¬ w_hOK a P (w_c1 tx t k) 1) ∧ (w_c0 tx t k = 6 → w_si (q_pl a) = 0) ∧ (w_c0 tx t k = 3 ∨ w_c0 tx t k = 4 ∨ w_c0 tx t k = 5 ∨ w_c0 tx t k = 6) := by
  obtain ⟨n1, n2, n3, n4, n5, n6⟩ := w_n36
  rcases h with ⟨m1, m2⟩ | ⟨m1, m2⟩ | ⟨m1, m2⟩ | ⟨m1, m2⟩
  · exact ⟨fun _ => m2, fun e => absurd (m1.symm.trans e) n1, fun e => absurd (m1.symm.trans e) n2, fun e => absurd (m1.symm.trans e) n3, Or.inl m1⟩
  · exact ⟨fun e => absurd (e.symm.trans m1) n1, fun _ => m2, fun e => absurd (m1.symm.trans e) n4, fun e => absurd (m1.symm.trans e) n5, Or.inr (Or.inl m1)⟩
  · exact ⟨fun e => absurd (e.symm.trans m1) n2, fun e => absurd (e.symm.trans m1) n4, fun _ => m2, fun e => absurd (m1.symm.trans e) n6, Or.inr (Or.inr (Or.inl m1))⟩
  · exact ⟨fun e => absurd (e.symm.trans m1) n3, fun e => absurd (e.symm.trans m1) n5, fun e => absurd (e.symm.trans m1) n6, fun _ => m2, Or.inr (Or.inr (Or.inr m1))⟩
section
variable {c d n sl : Nat} {ln : Nat → Nat} {di : Nat → Nat → Int32} {dl : Nat → Nat → Int64} {dr : Nat → Nat → Option Nat} {Q : Option Value → q_H → Prop} {a tx : Nat → Int32} {P L T K t k z : Nat}
theorem w_st_ex (hI : w_MI a tx P L) (ht : t < 4) (hk : k < 24) (hg : q_Gr n ln dr) : (∃ b, w_st tx t k P L a b) ∨ w_rf tx t k P a := by
  have st := m_act (d := 0) (n := n) (sl := 0) (ln := ln) (dl := fun _ _ => 0) (dr := dr) (di := va_up (va_up (fun _ _ => 0) 68 a) 70 tx) (Q := fun _ _ => (∃ b, w_st tx t k P L a b) ∨ w_rf tx t k P a) hI rfl rfl ht hk hg (fun _ b _ _ _ hb => Or.inl ⟨b, hb⟩) (fun h => Or.inr h)
  obtain ⟨_, _, _, _, h⟩ := st
  exact h
/-- the class carries out a clause -/
theorem x_act (hn : ∀ i, i < 16 → di 1 i = q_near.getD i 0) (ht : t < T) (hz : dr 16 t = some z) (hk : k < ln (z + 1 + 3)) (hc : w_CX n ln di dr a tx P L T K) (hg : q_Gr n ln dr)
    (k1 : ¬ w_rf tx t k P a → ∀ D, (∀ k, w_Z k = false → D k = di k) → (∀ b, w_st tx t k P L a b → w_CX n ln D dr b tx P L T K) → Q (some (.int 1)) (n, sl, ln, D, dl, dr))
    (k0 : w_rf tx t k P a → Q (some (.int 0)) (n, sl, ln, di, dl, dr)) : q_EX q_KD (d + 6) 83 0 [.ref 6, .ref z, .int (nI k), .retAddr 0] [] (n, sl, ln, di, dl, dr) Q := by
  have hc0 := hc
  obtain ⟨⟨S, b1⟩, _⟩ := hc0
  obtain ⟨z', z1, z2, z3⟩ := b1.2.2.2.2.2.2.2.2.2.2.1 t ht
  rw [hz] at z1
  have ez : z' = z := (Option.some.inj z1).symm
  subst ez
  obtain ⟨N, W, hN, hW, _, _, _, _, l3, l4, l5, hcl, _⟩ := z3
  have hkN : k < N := by omega
  obtain ⟨so, s1, s2, s3, s4, s5, _⟩ := hcl k hkN
  have hkn : (nI k).toNatClampNeg = k := nI_clamp (by omega)
  have vN : vp_in (nI k) N := vp_in_nI hkN (by omega)
  have so17 : ∀ q : Nat, q < 7 → (di (z' + 1 + 3) (nI k).toNatClampNeg = nI (q + 14) ↔ so = q) := fun q hq => by
    rw [hkn, s3, nI_eq (by omega) (by omega)]; omega
  have c0 : ∀ q : Nat, q < 7 → (w_c0 tx t k = nI q ↔ so = q) := fun q hq => by
    show tx (680 * t + 1 + 3 * k) = nI q ↔ so = q
    rw [s2, nI_eq (by omega) (by omega)]
  have hB : ∃ B, B ≤ 99 * (0 + L) ∧ (w_nt a tx L 0 (a 3, fun _ => 0, fun _ => 0, 0)).2.2.2 = nI B := (w_nt_OK (a := a) (tx := tx) L 0 (a 3, fun _ => 0, fun _ => 0, 0) (w_nt0.2 _)).1
  have hL := b1.1.2.1
  refine g83_0 hg z2 (by rw [l4]; exact vN) (by rw [l3]; exact vN) (fun _ => by rw [l5]; exact vN) (fun y => ?_) (fun y => ?_) (fun y => ?_) (fun y => ?_) (fun y3 y4 y5 y6 => ?_)
  · have e : so = 3 := (so17 3 (by decide)).mp y
    have e0 : w_c0 tx t k = 3 := (c0 3 (by decide)).mpr e
    obtain ⟨p, _, p1, p2⟩ := s4 (by omega) (by omega)
    obtain ⟨s, _, u1, u2⟩ := s5 e
    have ea : di (z' + 1 + 4) (nI k).toNatClampNeg = w_c1 tx t k := by rw [hkn, p2]; exact p1.symm
    have eb : di (z' + 1 + 5) (nI k).toNatClampNeg = w_c2 tx t k := by rw [hkn, u2]; exact u1.symm
    rw [ea, eb]
    refine x_putOn (d := d + 4) hc hg (fun hok D hD hcl => g83_58 hg rfl (k1 (fun z => (w_rfk z).1 e0 hok) D hD (fun b hb => hcl b (w_st3 hb e0)))) (fun hno => g83_58 hg rfl (k0 (Or.inl ⟨e0, hno⟩)))
  · have e : so = 4 := (so17 4 (by decide)).mp y
    have e0 : w_c0 tx t k = 4 := (c0 4 (by decide)).mpr e
    obtain ⟨p, _, p1, p2⟩ := s4 (by omega) (by omega)
    have ea : di (z' + 1 + 4) (nI k).toNatClampNeg = w_c1 tx t k := by rw [hkn, p2]; exact p1.symm
    rw [ea]
    refine x_putOn (d := d + 4) hc hg (fun hok D hD hcl => g83_68 hg rfl (k1 (fun z => (w_rfk z).2.1 e0 hok) D hD (fun b hb => hcl b (w_st4 hb e0)))) (fun hno => g83_68 hg rfl (k0 (Or.inr (Or.inl ⟨e0, hno⟩))))
  · have e : so = 5 := (so17 5 (by decide)).mp y
    have e0 : w_c0 tx t k = 5 := (c0 5 (by decide)).mpr e
    obtain ⟨p, _, p1, p2⟩ := s4 (by omega) (by omega)
    have ea : di (z' + 1 + 4) (nI k).toNatClampNeg = w_c1 tx t k := by rw [hkn, p2]; exact p1.symm
    rw [ea]
    refine x_still (d := d + 4) hc hg (fun hok D hD hcl => g83_78 hg rfl (k1 (fun z => (w_rfk z).2.2.1 e0 hok) D hD (fun b hb => hcl b (w_st5 hb e0)))) (fun hno => g83_78 hg rfl (k0 (Or.inr (Or.inr (Or.inl ⟨e0, hno⟩)))))
  · have e : so = 6 := (so17 6 (by decide)).mp y
    have e0 : w_c0 tx t k = 6 := (c0 6 (by decide)).mpr e
    obtain ⟨B, hB1, hB2⟩ := hB
    refine x_night (d := d) hn hc hg (fun hne D hD hcl => g83_86 hg (fun w => ?_) (fun _ => k1 (fun z => hne ((w_rfk z).2.2.2.1 e0)) D hD (fun b hb => hcl b (w_st6 hb e0)))) (fun h0 => g83_86 hg (fun _ => k0 (Or.inr (Or.inr (Or.inr ⟨e0, h0⟩)))) (fun w => absurd rfl w))
    rw [hB2] at w
    exact absurd w (w_neg1 (by omega))
  · have f3 : ¬ w_c0 tx t k = 3 := fun e => y3 ((so17 3 (by decide)).mpr ((c0 3 (by decide)).mp e))
    have f4 : ¬ w_c0 tx t k = 4 := fun e => y4 ((so17 4 (by decide)).mpr ((c0 4 (by decide)).mp e))
    have f5 : ¬ w_c0 tx t k = 5 := fun e => y5 ((so17 5 (by decide)).mpr ((c0 5 (by decide)).mp e))
    have f6 : ¬ w_c0 tx t k = 6 := fun e => y6 ((so17 6 (by decide)).mpr ((c0 6 (by decide)).mp e))
    refine k1 (fun z => ?_) di (fun _ _ => rfl) (fun b hb => ?_)
    · rcases (w_rfk z).2.2.2.2 with q | q | q | q
      · exact f3 q
      · exact f4 q
      · exact f5 q
      · exact f6 q
    · rcases hb with ⟨q1, q2, q3⟩ | ⟨q1, q2, q3⟩ | ⟨q1, q2, q3⟩ | ⟨q1, q2, q3⟩ | ⟨q1, q2⟩
      · exact absurd q1 f3
      · exact absurd q1 f4
      · exact absurd q1 f5
      · exact absurd q1 f6
      · exact w_CX_ee hc q2
/-- the class plays from clause k on -/
theorem x_run {N : Nat} (hn : ∀ i, i < 16 → di 1 i = q_near.getD i 0) (hN : N ≤ 24) (hlN : ln (z + 1 + 3) = N) (ht : t < T) (ht4 : t < 4) (hz : dr 16 t = some z) (hzs : q_scr n z) (hg : q_Gr n ln dr) : ∀ (c k : Nat) (a : Nat → Int32) (D : Nat → Nat → Int32), k + c = N → (∀ k, w_Z k = false → D k = di k) → w_CX n ln D dr a tx P L T K →
    (∀ D' v, (∀ k, w_Z k = false → D' k = di k) → (∀ a' v', w_run tx t P L c k a a' v' → v' = v ∧ w_CX n ln D' dr a' tx P L T K) → Q (some (.int v)) (n, sl, ln, D', dl, dr)) → q_EX q_KD (d + 7) 82 48 [.ref 6, .retAddr 0, .ref z, .int (nI k)] [] (n, sl, ln, D, dl, dr) Q := by
  intro c
  induction c with
  | zero =>
    intro k a D hk hD hc kk
    refine g82_48 hg hzs (fun _ => kk D (-1) hD (fun a' v' hr => ⟨hr.2, w_CX_ee hc hr.1⟩)) (fun w => ?_)
    rw [hlN] at w
    exact absurd w (nI_nlt (by omega) (by omega))
  | succ c ih =>
    intro k a D hk hD hc kk
    have hI := w_CX_MI hc
    refine g82_48 hg hzs (fun w => ?_) (fun _ => ?_)
    · rw [hlN] at w
      exact absurd w (nI_ge (by omega) (by omega))
    refine x_act (d := d) (fun i hi => by rw [hD 1 rfl]; exact hn i hi) ht hz (by omega) hc hg (fun hnr D1 hD1 hcl => g82_63 hg hzs (fun _ => ?_) (fun w => absurd w (by decide))) (fun hrf => g82_63 hg hzs (fun w => absurd rfl w) (fun _ => ?_))
    · rw [nI_1]
      rcases w_st_ex (t := t) (k := k) hI ht4 (by omega) hg with ⟨b, hb⟩ | q
      · refine ih (k + 1) b D1 (by omega) (fun i hi => (hD1 i hi).trans (hD i hi)) (hcl b hb) (fun D' v hD' hcl' => kk D' v hD' (fun a' v' hr => ?_))
        rcases hr with ⟨q1, _⟩ | ⟨b2, q1, q2⟩
        · exact absurd q1 hnr
        · exact hcl' a' v' (w_run_l hI.1 hI.2.1 (w_st_d hI.1 q1 hb) q2)
      · exact absurd q hnr
    · refine kk D (nI k) hD (fun a' v' hr => ?_)
      rcases hr with ⟨_, q2, q3⟩ | ⟨b2, q1, _⟩
      · exact ⟨q3, w_CX_ee hc q2⟩
      · exact (w_st_rf q1 hrf).elim
theorem o_played {x1 : Int32} (h : q_RR c n sl ln di dr) : o_op (d + 8) 82 186 [.ref 6, .int x1, .retAddr 0, .retAddr 0] [.ref 67, .int x1, .retAddr 0] c (n, sl, ln, di, dl, dr) := by
  have hR := h
  obtain ⟨hg, a2, a3, a4, a5, a6, P, L, T, S, K, P', L', T', S', K', b1, b2, b3, b4, b5⟩ := hR
  have hT := b1.1.2.2.1
  have h4 : di 68 4 = nI T := b1.1.2.2.2.2.2.2.2.1
  have h14 : di 7 14 = nI T := by rw [b1.2.2.2.2.1.2.2.2.2.1]; exact h4
  have mno : (¬ ∃ j, j < T ∧ x1 = nI j) → q_EX q_KD (d + 8) 186 0 [.ref 67, .int x1, .retAddr 0] [] (n, sl, ln, di, dl, dr) (fun r2 h2 => r2 = some (.int (-2)) ∧ w_R (c + 1) h2) := fun hno =>
    g186_0 hg (c_isIn hg (g186_13 hg (fun y => absurd ((w_told2 (P := T) (by omega)).mp (by have := q_bp.mp y; rw [h4] at this; exact this)) hno) (fun _ => ⟨rfl, w_RR_up h⟩)))
  have tno : ∀ t, T ≤ t → t < 4 → ¬ ∃ j, j < T ∧ nI t = nI j := fun t g1 g2 ⟨j, z1, z2⟩ => by
    have := (nI_eq (by omega) (by omega)).mp z2
    omega
  refine g82_0 hg (c_within hg ?_)
  by_cases hx : ∃ t, t < 4 ∧ x1 = nI t
  · obtain ⟨t, ht4, hx⟩ := hx
    subst hx
    have htn : (nI t).toNatClampNeg = t := nI_clamp (by omega)
    have ge : ∀ {i : Nat}, (di 7 14 ≤ nI t) → T ≤ t := fun w => by
      rw [h14] at w
      exact (nI_leI (by omega) (by omega)).mp w
    have lt : (nI t < di 7 14) → t < T := fun w => by
      rw [h14] at w
      exact (nI_ltI (by omega) (by omega)).mp w
    refine g82_5 hg (fun _ => vp_in_nI ht4 (by decide)) (fun _ _ w => ⟨_, rfl, mno (tno t (ge (i := 0) w) ht4)⟩) (fun _ e w => ?_) (fun _ z e => ?_) (fun _ z e hz w => ⟨_, rfl, mno (tno t (ge (i := 0) w) ht4)⟩) (fun _ z e hz w => ?_) (fun y => absurd ((w_told2 (P := 4) (by decide)).mpr ⟨t, ht4, rfl⟩) (q_bn.mp y))
    · rw [htn] at e
      obtain ⟨z, z1, _⟩ := b1.2.2.2.2.2.2.2.2.2.2.1 t (lt w)
      rw [e] at z1
      exact absurd z1 (fun q => by cases q)
    · rw [htn] at e
      exact b1.2.2.2.2.2.2.2.2.2.2.2 t z ht4 e
    · rw [htn] at e
      have htT := lt w
      obtain ⟨z', z1, z2, z3⟩ := b1.2.2.2.2.2.2.2.2.2.2.1 t htT
      rw [e] at z1
      have ez : z' = z := (Option.some.inj z1).symm
      subst ez
      obtain ⟨N, W, hN, _, htN, _, _, _, l3, _⟩ := z3
      refine c_forR (d := d + 6) hg (g82_46 hg hz ?_)
      refine x_run (d := d + 1) (di := q_u (va_up di 61 (w_fl (di 61) (-1) 64)) 60 9 0) (tx := di 70) (P := P) (L := L) (T := T) (K := K) (N := N) a4.1 hN l3 htT ht4 e hz hg N 0 (di 68) _ (by omega) (fun _ _ => rfl) (w_CX0 b1 b4) (fun D v hD hcl => ⟨v, rfl, ?_⟩)
      have e68 : D 68 = di 68 := hD 68 rfl
      have e70 : D 70 = di 70 := hD 70 rfl
      refine g186_0 hg (c_isIn hg (g186_13 hg (fun _ => ?_) (fun y => absurd ((w_told2 (P := T) (by omega)).mpr ⟨t, htT, rfl⟩) (by have := q_bn.mp y; rw [e68, h4] at this; exact this))))
      refine m_run (d := d) (di := D) (tx := di 70) (P := P) (L := L) ht4 hN htN hg N 0 (di 68) D dl (by omega) (w_CX_MI (w_CX0 b1 b4)) (w_NM_0 (w_M_refl D)) e68 e70 (fun D' a' dl' v' hM h68 hr => ?_)
      obtain ⟨ev, hcx⟩ := hcl a' v' hr
      refine ⟨by rw [ev], w_scrN (w_join h (fun k h1 h2 h3 => ?_) ?_ ?_ b2 b3 hcx) hM h68⟩
      · rw [hD k h1, q_uR h2, q_upN _ _ h3]
      · rw [hD 60 rfl]; rfl
      · intro m hm; rw [hD 61 rfl]; exact w_flI hm
  · have hbad : ∀ {y : Int32}, y = q_b ((0 : Int32) ≤ x1 ∧ x1 ≤ 3) → ¬ ¬ y = 0 := fun ey y => by
      rw [ey] at y
      exact hx ((w_told2 (P := 4) (by decide)).mp (q_bp.mp y))
    exact g82_5 hg (fun y => absurd y (hbad rfl)) (fun y => absurd y (hbad rfl)) (fun y => absurd y (hbad rfl)) (fun y => absurd y (hbad rfl)) (fun y => absurd y (hbad rfl)) (fun y => absurd y (hbad rfl)) (fun _ => ⟨_, rfl, mno (fun ⟨j, z1, z2⟩ => hx ⟨j, by omega, z2⟩)⟩)
end
