theorem w_zero {x : Nat} (h : ∀ i, x.testBit i = false) : x = 0 := Nat.eq_of_testBit_eq (fun i => by rw [h i, Nat.zero_testBit])
theorem w_othr {s m j : Nat} : q_an s (q_an m (2 ^ j)) = 0 ↔ q_an s m = 0 ∧ s.testBit j = false := by
  constructor
  · intro h
    have hs := w_sub h
    refine ⟨w_zero (fun i => ?_), ?_⟩
    · rw [q_anT]
      cases hb : s.testBit i with
      | false => rfl
      | true =>
        have := hs i hb
        rw [q_anT, Bool.and_eq_true] at this
        rw [this.1]; rfl
    · cases hb : s.testBit j with
      | false => rfl
      | true =>
        have := hs j hb
        rw [q_anT, Nat.testBit_two_pow, decide_eq_true rfl, Bool.and_eq_true] at this
        exact absurd this.2 (by decide)
  · rintro ⟨h1, h2⟩
    refine w_zero (fun i => ?_)
    rw [q_anT, q_anT, Nat.testBit_two_pow]
    cases hb : s.testBit i with
    | false => rfl
    | true =>
      rw [w_sub h1 i hb]
      have : ¬ j = i := fun e => by rw [← e, h2] at hb; exact absurd hb (by decide)
      rw [decide_eq_false this]; rfl
abbrev w_T : Nat → Bool := fun k => w_S k || Nat.beq k 60
theorem w_T_in {k : Nat} (h : w_T k = true) : 50 ≤ k ∧ k ≤ 66 := by
  have h' : (w_S k || Nat.beq k 60) = true := h
  rw [Bool.or_eq_true] at h'
  rcases h' with h' | h'
  · exact w_S_in h'
  · have := Nat.eq_of_beq_eq_true h'; omega
section
variable {c d n sl : Nat} {ln : Nat → Nat} {di : Nat → Nat → Int32} {dl : Nat → Nat → Int64} {dr : Nat → Nat → Option Nat} {Q : Option Value → q_H → Prop} {a tx pl : Nat → Int32} {P L : Nat}
theorem c_fr48 {x1 x2 : Int32} {st si M : Nat} (h : w_MF di a tx P L) (hN : w_N di st pl) (hpl : ∀ j, P ≤ j → j < 6 → pl j < 0) (hg : q_Gr n ln dr) : ∀ (c s : Nat) (D : Nat → Nat → Int32) (dl : Nat → Nat → Int64), s + c = 64 → w_M di D → D 67 26 = di 67 26 → D 76 = di 76 → (∀ m, m < s → q_an m si = 0 → D 79 m = q_al a tx pl (q_an m st) L) →
    (∀ D' dl', w_M di D' → (∀ m, m < 64 → q_an m si = 0 → D' 79 m = q_al a tx pl (q_an m st) L) → q_EX q_KD (d + 8) 192 89 [.ref 67, .int x1, .int x2, .int (nI si), .int (nI M), .int 0, .int 0] [] (n, sl, ln, D', dl', dr) Q) →
    q_EX q_KD (d + 8) 192 48 [.ref 67, .int x1, .int x2, .int (nI si), .int (nI M), .int (nI s), .retAddr 0] [] (n, sl, ln, D, dl, dr) Q := by
  intro c
  induction c with
  | zero =>
    intro s D dl hs hM r1 r2 h79 k
    have : s = 64 := by omega
    subst this
    exact g192_48 hg (fun _ => k D dl hM h79) (fun w => absurd w (by decide)) (fun w => absurd w (by decide))
  | succ c ih =>
    intro s D dl hs hM r1 r2 h79 k
    have hn : ¬ (64 : Int32) ≤ nI s := fun w => absurd ((nI_leI (a := 64) (by decide) (by omega)).mp w) (by omega)
    refine g192_48 hg (fun w => absurd w hn) (fun _ w => ?_) (fun _ w => ?_)
    · rw [nI_1]
      refine ih (s + 1) D dl (by omega) hM r1 r2 (fun m hm hz => ?_) k
      by_cases e : m = s
      · subst e; exact absurd ((w_an0 (by omega)).mpr hz) w
      · exact h79 m (by omega) hz
    · have hD68 : D 68 = a := (hM.1 68 rfl).trans h.1
      have hD70 : D 70 = tx := (hM.1 70 rfl).trans h.2.1
      refine c_alM (d := d) (di := D) (s := s) (st := st) (P := P) (L := L) h.2.2.2.1 (by rw [hD68]; exact h.2.2.2.2.2.1) h.2.2.1 (by rw [hD68]; exact h.2.2.2.2.1) (r1.trans hN.1) (by omega) (fun j hj hj6 => by rw [r2, hN.2 j hj6]; exact hpl j hj hj6) (by rw [hD68, hD70]; exact h.2.2.2.2.2.2.2) hg (fun x y e dl2 => g192_76 hg (vp_in_nI (by omega) (by decide)) ?_)
      have eal : q_al (D 68) (D 70) (D 76) (q_an s st) L = q_al a tx pl (q_an s st) L := by rw [hD68, hD70, r2, q_al_cg hN.2]
      rw [eal, nI_clamp (show s < 2 ^ 31 by omega), nI_1]
      have hM2 : w_M D (q_F q_Sw (q_h67 D x y) e) := w_M_tr w_M_h67 w_M_F
      refine ih (s + 1) _ dl2 (by omega) (w_M_tr hM (w_M_tr hM2 (w_M_u rfl (by decide)))) r1 r2 (fun m hm hz => ?_) k
      by_cases ei : m = s
      · subst ei; exact q_uE _ _ _ _
      · rw [q_uN _ _ _ _ _ ei]; exact h79 m (by omega) hz
theorem c_fr89 {x2 : Int32} {st si j M : Nat} (hL : L ≤ 10) (hj : j < 6) (hM : M = w_ct si) (hsi : si < 64) (hsit : si.testBit j = true) (h79 : ∀ m, m < 64 → q_an m si = 0 → di 79 m = q_al a tx pl (q_an m st) L) (hg : q_Gr n ln dr) : ∀ (c s : Nat) (x : Nat × Nat), s + c = 64 → x.1 ≤ 118800 * s → x.2 ≤ 118800 * s →
    q_EX q_KD d 193 0 [.int (nI M), .retAddr 0, .retAddr 0] [] (n, sl, ln, di, dl, dr) (fun r1 h1 => q_EX q_KD (d + 1) 192 175 [.retAddr 0, .retAddr 0, .int x2, .retAddr 0, .retAddr 0, .int (nI (w_sh (fun m => (q_al a tx pl (q_an m st) L).toNatClampNeg) (q_an si (2 ^ j)) j M c s x).1 - nI (w_sh (fun m => (q_al a tx pl (q_an m st) L).toNatClampNeg) (q_an si (2 ^ j)) j M c s x).2), .retAddr 0] (r1.toList ++ []) h1 Q) →
    q_EX q_KD (d + 1) 192 89 [.ref 67, .int (nI j), .int x2, .int (nI si), .int (nI M), .int (nI x.1 - nI x.2), .int (nI s)] [] (n, sl, ln, di, dl, dr) Q := by
  have hM6 : M ≤ 6 := by rw [hM]; exact w_ct6 _
  intro c
  induction c with
  | zero =>
    intro s x hs hx1 hx2 k
    have : s = 64 := by omega
    subst this
    exact g192_89 hg (fun _ => k) (fun w => absurd w (by decide)) (fun w => absurd w (by decide))
  | succ c ih =>
    intro s x hs hx1 hx2 k
    have hn : ¬ (64 : Int32) ≤ nI s := fun w => absurd ((nI_leI (a := 64) (by decide) (by omega)).mp w) (by omega)
    have est : w_sh (fun m => (q_al a tx pl (q_an m st) L).toNatClampNeg) (q_an si (2 ^ j)) j M (c + 1) s x = w_sh (fun m => (q_al a tx pl (q_an m st) L).toNatClampNeg) (q_an si (2 ^ j)) j M c (s + 1) (if q_an s (q_an si (2 ^ j)) = 0 then (x.1 + w_od (w_ct s) * w_od (M - 1 - w_ct s) * (q_al a tx pl (q_an (s ||| 2 ^ j) st) L).toNatClampNeg, x.2 + w_od (w_ct s) * w_od (M - 1 - w_ct s) * (q_al a tx pl (q_an s st) L).toNatClampNeg) else x) := rfl
    rw [est] at k
    have skip : ¬ q_an s (q_an si (2 ^ j)) = 0 → q_EX q_KD (d + 1) 192 89 [.ref 67, .int (nI j), .int x2, .int (nI si), .int (nI M), .int (nI x.1 - nI x.2), .int (nI s + 1)] [] (n, sl, ln, di, dl, dr) Q := by
      intro hz
      rw [if_neg hz] at k
      rw [nI_1]
      exact ih (s + 1) x (by omega) (by omega) (by omega) k
    refine g192_89 hg (fun w => absurd w hn) (fun _ w => skip (fun z => w ((w_an0 (by omega)).mpr (w_othr.mp z).1))) (fun _ w => c_has hg (g192_111 hg (fun w2 => ?_) (fun w2 => skip (fun z => ?_))))
    · have hsub0 := (w_an0 (show s < 2 ^ 31 by omega)).mp w
      have hsj : s.testBit j = false := by
        cases hb : s.testBit j with
        | false => rfl
        | true => exact absurd ((q_bt1 (m := s) (j := j) (by omega) (by omega)).mpr hb) (q_bn.mp w2)
      have hin : q_an s (q_an si (2 ^ j)) = 0 := w_othr.mpr ⟨hsub0, hsj⟩
      have hlt : w_ct s + 1 ≤ M := by
        rw [hM]
        exact w_ctlt hj hsit (w_sub hsub0) hsj
      refine c_bits hg ?_
      rw [w_bct s (by omega)]
      refine g192_124 hg (c_ords (by omega) hg (g192_127 hg (c_bits hg ?_)))
      rw [w_bct s (by omega)]
      have eb : (nI M - nI (w_ct s)) - 1 = nI (M - 1 - w_ct s) := by
        obtain ⟨k', rfl⟩ : ∃ k', M = w_ct s + (k' + 1) := ⟨M - 1 - w_ct s, by omega⟩
        rw [q_pa, q_sub1, nI_pred, show w_ct s + (k' + 1) - 1 - w_ct s = k' by omega]
      refine g192_134 hg ?_
      rw [eb]
      refine c_ords (by omega) hg ?_
      have hs64 : s ||| 2 ^ j < 64 := q_orlt (k := 6) (by omega) (q_plt (by omega))
      have hor : q_an (s ||| 2 ^ j) si = 0 := w_zero (fun i => by
        rw [q_anT, q_bset]
        cases hb : s.testBit i with
        | true => rw [w_sub hsub0 i hb]; rfl
        | false =>
          by_cases e : i = j
          · rw [e, hsit]; simp
          · rw [decide_eq_false e]; rfl)
      refine g192_140 hg (by rw [q_sh (show j < 31 by omega), fa_or]; exact vp_in_nI hs64 (by decide)) (vp_in_nI (by omega) (by decide)) ?_
      rw [q_sh (show j < 31 by omega), fa_or, nI_clamp (show s ||| 2 ^ j < 2 ^ 31 by omega), nI_clamp (show s < 2 ^ 31 by omega), h79 _ hs64 hor, h79 s (by omega) hsub0]
      obtain ⟨t1, t1b⟩ := w_Tal a tx pl (q_an (s ||| 2 ^ j) st) hL
      obtain ⟨t2, t2b⟩ := w_Tal a tx pl (q_an s st) hL
      rw [t1, t2, ← q_pm, w_ringI, nI_1]
      rw [if_pos hin] at k
      have hw := w_bnd hM6 hlt
      have g1 : w_od (w_ct s) * w_od (M - 1 - w_ct s) * (q_al a tx pl (q_an (s ||| 2 ^ j) st) L).toNatClampNeg ≤ 120 * 990 := Nat.mul_le_mul hw t1b
      have g2 : w_od (w_ct s) * w_od (M - 1 - w_ct s) * (q_al a tx pl (q_an s st) L).toNatClampNeg ≤ 120 * 990 := Nat.mul_le_mul hw t2b
      obtain ⟨y1, hy1⟩ : ∃ y1, y1 = x.1 + w_od (w_ct s) * w_od (M - 1 - w_ct s) * (q_al a tx pl (q_an (s ||| 2 ^ j) st) L).toNatClampNeg := ⟨_, rfl⟩
      obtain ⟨y2, hy2⟩ : ∃ y2, y2 = x.2 + w_od (w_ct s) * w_od (M - 1 - w_ct s) * (q_al a tx pl (q_an s st) L).toNatClampNeg := ⟨_, rfl⟩
      rw [← hy1, ← hy2] at k ⊢
      exact ih (s + 1) (y1, y2) (by omega) (by show y1 ≤ _; omega) (by show y2 ≤ _; omega) k
    · have := (q_bt1 (m := s) (j := j) (by omega) (by omega)).mp (q_bp.mp w2)
      rw [(w_othr.mp z).2] at this
      exact absurd this (by decide)
/-- the sums are small -/
theorem w_shB {A : Nat → Nat} {ot j M : Nat} (hA : ∀ m, A m ≤ 990) (hM : M ≤ 6) (hlt : ∀ s, s < 64 → q_an s ot = 0 → w_ct s + 1 ≤ M) : ∀ (c s : Nat) (x : Nat × Nat), s + c ≤ 64 → x.1 ≤ 118800 * s → x.2 ≤ 118800 * s → (w_sh A ot j M c s x).1 ≤ 118800 * (s + c) ∧ (w_sh A ot j M c s x).2 ≤ 118800 * (s + c) := by
  intro c
  induction c with
  | zero => intro s x _ h1 h2; exact ⟨h1, h2⟩
  | succ c ih =>
    intro s x hs h1 h2
    have e : w_sh A ot j M (c + 1) s x = w_sh A ot j M c (s + 1) (if q_an s ot = 0 then (x.1 + w_od (w_ct s) * w_od (M - 1 - w_ct s) * A (s ||| 2 ^ j), x.2 + w_od (w_ct s) * w_od (M - 1 - w_ct s) * A s) else x) := rfl
    rw [e, show s + (c + 1) = s + 1 + c by omega]
    by_cases z : q_an s ot = 0
    · rw [if_pos z]
      have hw := w_bnd hM (hlt s (by omega) z)
      have g1 : w_od (w_ct s) * w_od (M - 1 - w_ct s) * A (s ||| 2 ^ j) ≤ 120 * 990 := Nat.mul_le_mul hw (hA _)
      have g2 : w_od (w_ct s) * w_od (M - 1 - w_ct s) * A s ≤ 120 * 990 := Nat.mul_le_mul hw (hA _)
      exact ih (s + 1) _ (by omega) (by show x.1 + _ ≤ _; omega) (by show x.2 + _ ≤ _; omega)
    · rw [if_neg z]
      exact ih (s + 1) x (by omega) (by omega) (by omega)
theorem o_fair {x1 x2 : Int32} (h : q_RR c n sl ln di dr) : o_op (d + 9) 92 192 [.ref 6, .int x1, .int x2] [.ref 67, .int x1, .int x2, .retAddr 0, .retAddr 0, .retAddr 0, .retAddr 0] c (n, sl, ln, di, dl, dr) := by
  have hR := h
  obtain ⟨hg, _, _, hcn, _, _, P, L, T, S, K, _, _, _, _, _, b1, _, _, b4, b5⟩ := hR
  have hH := w_RH_H h b1 b4 b5
  have hF := w_RH_MF b1
  have hP := hF.2.2.1
  have hL := hF.2.2.2.1
  have h10 : di 7 10 = nI P := hH.2.2.2.2.1
  have h0 : di 68 0 = nI P := hF.2.2.2.2.1
  have hno : ∀ (D : Nat → Nat → Int32), D = di → ((∀ j, j < P → x1 = nI j → q_pl (di 68) j = -1) ∨ ¬ ((0 : Int32) ≤ x2 ∧ x2 ≤ 1)) → q_EX q_KD (d + 9) 192 0 [.ref 67, .int x1, .int x2, .retAddr 0, .retAddr 0, .retAddr 0, .retAddr 0] [] (n, sl, ln, D, dl, dr) (fun r2 h2 => r2 = some (.int (-1000000)) ∧ w_R (c + 1) h2) := by
    intro D hD hx
    subst hD
    refine g192_0 hg (c_isPerson (d := d + 7) hg (g192_5 hg (fun _ => ⟨rfl, w_RR_up h⟩) (fun z => ?_)))
    obtain ⟨j, hj, hxj⟩ := (w_told2 (P := P) (by omega)).mp (show ((0 : Int32) ≤ x1 ∧ x1 ≤ nI P - 1) by rw [← h0]; exact q_bp.mp z)
    subst hxj
    refine c_get j 3 hg (by omega) (g192_14 hg (fun _ => ⟨rfl, w_RR_up h⟩) (fun z2 => c_isIn hg (g192_23 hg (fun z3 => ?_) (fun _ => ⟨rfl, w_RR_up h⟩))))
    exfalso
    rcases hx with q | q
    · have e : D 68 (10 + 6 * j + 3) = -1 := q j hj rfl
      rw [e] at z2
      exact absurd z2 (by decide)
    · exact q (q_bp.mp z3)
  refine g92_0 hg (c_sits hg (g92_8 hg (fun y => ⟨_, rfl, hno di rfl (Or.inl (fun j hj hx => ?_))⟩) (fun y => c_within hg (g92_16 hg (fun y2 => ?_) (fun y2 => ⟨_, rfl, hno di rfl (Or.inr (q_bn.mp y2))⟩)))))
  · have y' := q_bn.mp y
    rw [h10, hx, nI_clamp (by omega), hH.2.2.1 j (by omega)] at y'
    rcases hH.2.2.2.2.2.1 j (by omega) with q | ⟨s, s1, s2⟩
    · exact q
    · exact absurd ⟨(w_told hP).mpr ⟨j, hj, rfl⟩, (w_pos (Or.inr ⟨s, s1, s2⟩)).mp (by rw [s2]; exact nI_pos' (by omega))⟩ y'
  · obtain ⟨y1, y3⟩ := q_bp.mp y
    rw [h10] at y1
    obtain ⟨j, hj, hx⟩ := (w_told hP).mp y1
    subst hx
    rw [nI_clamp (by omega), hH.2.2.1 j (by omega)] at y3
    have hj6 : j < 6 := by omega
    have hsl := w_siL (q_pl (di 68))
    have hsit : (w_si (q_pl (di 68))).testBit j = true := by rw [w_siT]; exact decide_eq_true ⟨hj6, y3⟩
    obtain ⟨M, hM⟩ : ∃ M, M = w_ct (w_si (q_pl (di 68))) := ⟨_, rfl⟩
    have hM6 : M ≤ 6 := by rw [hM]; exact w_ct6 _
    have hM1 : 1 ≤ M := by
      rw [hM]
      have := w_ctlt (s := 0) hj6 hsit (fun i hi => by rw [Nat.zero_testBit] at hi; exact absurd hi (by decide)) (Nat.zero_testBit _)
      omega
    have hAb : ∀ m, (q_al (di 68) (di 70) (q_pl (di 68)) (q_an m (q_sm (di 68))) L).toNatClampNeg ≤ 990 := fun m => (w_Tal _ _ _ _ hL).2
    have hsb := w_shB (A := fun m => (q_al (di 68) (di 70) (q_pl (di 68)) (q_an m (q_sm (di 68))) L).toNatClampNeg) (ot := q_an (w_si (q_pl (di 68))) (2 ^ j)) (j := j) (M := M) hAb hM6 (fun s _ hz => by
      have hz' := w_othr.mp hz
      rw [hM]
      exact w_ctlt hj6 hsit (w_sub hz'.1) hz'.2) 64 0 (0, 0) (by decide) (Nat.zero_le _) (Nat.zero_le _)
    obtain ⟨X, hX⟩ : ∃ X, X = w_sh (fun m => (q_al (di 68) (di 70) (q_pl (di 68)) (q_an m (q_sm (di 68))) L).toNatClampNeg) (q_an (w_si (q_pl (di 68))) (2 ^ j)) j M 64 0 (0, 0) := ⟨_, rfl⟩
    rw [← hX] at hsb
    have hod := w_od1 M (by omega)
    -- size of the difference
    obtain ⟨Dn, hDn, hDl⟩ : ∃ Dn, (if (0 : Int32) ≤ nI X.1 - nI X.2 then nI X.1 - nI X.2 else 0 - (nI X.1 - nI X.2)) = nI Dn ∧ Dn < 2 ^ 31 := by
      have wd := w_dif (p := X.1) (q := X.2) (by omega) (by omega)
      rcases Nat.lt_or_ge X.1 X.2 with z | z
      · have := wd.2 z
        rw [if_neg (q_lt0.mp this.1)]
        exact ⟨_, this.2.1, by omega⟩
      · rw [wd.1 z, if_pos (nI_pos' (by omega))]
        exact ⟨_, rfl, by omega⟩
    have hDm : ((0 : Int32) ≤ nI X.1 - nI X.2 → nI X.1 - nI X.2 = nI Dn) ∧ (nI X.1 - nI X.2 < 0 → -(nI X.1 - nI X.2) = nI Dn) := by
      refine ⟨fun z => by rw [if_pos z] at hDn; exact hDn, fun z => ?_⟩
      rw [if_neg (q_lt0.mp z), Int32.zero_sub] at hDn
      exact hDn
    have hgp : 0 < w_gc 100 Dn (w_od M) ∧ w_gc 100 Dn (w_od M) ≤ w_od M := w_gcP 99 Dn (w_od M) (by omega)
    have hmod : ∀ (D : Nat → Nat → Int32), (∀ k, w_T k = false → D k = di k) → q_CE (D 54) (D 55) (D 56) (di 68) (di 70) P L → (∀ m, m < 64 → D 61 m = -1 ∨ D 61 m = q_al (di 68) (di 70) (q_pl (di 68)) (q_an m (q_sm (di 68))) L) → D 60 9 = di 60 9 → D 60 10 = di 60 10 → q_EX q_KD (d + 9) 192 0 [.ref 67, .int (nI j), .int x2, .retAddr 0, .retAddr 0, .retAddr 0, .retAddr 0] [] (n, sl, ln, D, dl, dr) (fun r2 h2 => r2 = some (.int (if x2 = 0 then (nI X.1 - nI X.2) / nI (w_gc 100 Dn (w_od M)) else nI (w_od M) / nI (w_gc 100 Dn (w_od M)))) ∧ w_R (c + 1) h2) := by
      intro D hD q54 q61 q9 q10
      have hDF : D = q_F w_T di D := q_Fin hD
      have hF2 : w_MF D (di 68) (di 70) P L := ⟨hD 68 rfl, hD 70 rfl, hF.2.2⟩
      have D68 : D 68 = di 68 := hD 68 rfl
      refine g192_0 hg (c_isPerson (d := d + 7) hg (g192_5 hg (fun z => absurd z (q_bp.mpr (by rw [D68, h0]; exact (w_told2 (by omega)).mpr ⟨j, hj, rfl⟩))) (fun _ => c_get j 3 hg (by omega) (g192_14 hg (fun z => ?_) (fun _ => c_isIn hg (g192_23 hg (fun _ => c_seatA (d := d + 5) hF2 hg (fun D1 hM1' hN => g192_34 hg (c_sitA (d := d + 7) (w_MF_M hF2 hM1') hH.2.2.2.2.2.1 hg (g192_38 hg (c_bits hg (g192_43 hg ?_)))))) (fun z => absurd z y2)))))))
      · rw [D68] at z
        have z' : q_pl (di 68) j < 0 := z
        exact absurd ((w_pos (hH.2.2.2.2.2.1 j hj6)).mpr y3) (q_lt0.mp z')
      · rw [w_bct _ hsl, ← hM]
        refine c_fr48 (d := d + 1) (st := q_sm (di 68)) (pl := q_pl (di 68)) (w_MF_M hF2 hM1') hN (w_plneg hF) hg 64 0 D1 dl rfl (w_M_refl _) rfl rfl (fun m hm => absurd hm (Nat.not_lt_zero m)) (fun D2 dl2 hM2 h79 => ?_)
        have fin := c_fr89 (d := d + 8) (sl := sl) (dl := dl2) (di := D2) (a := di 68) (tx := di 70) (pl := q_pl (di 68)) (L := L) (x2 := x2) (st := q_sm (di 68)) (Q := fun r2 h2 => r2 = some (.int (if x2 = 0 then (nI X.1 - nI X.2) / nI (w_gc 100 Dn (w_od M)) else nI (w_od M) / nI (w_gc 100 Dn (w_od M)))) ∧ w_R (c + 1) h2) hL hj6 hM hsl hsit h79 hg 64 0 (0, 0) rfl (Nat.zero_le _) (Nat.zero_le _)
        rw [← hX] at fin
        refine fin (c_ords (by omega) hg ?_)
        have hend : w_R (c + 1) (n, sl, ln, D2, dl2, dr) := by
          refine w_end (S := w_T) (e := D) h (fun k hk => w_T_in hk) (by rw [← hDF]; exact w_M_tr hM1' hM2) (fun P2 L2 T2 S2 K2 bb _ q2 => ?_)
          obtain ⟨e1, e2⟩ := w_PL b1 bb
          subst e1 e2
          rw [← hDF]
          refine ⟨q54, q61, fun z => ?_⟩
          rw [q10, hD 66 rfl]
          exact q2.2 (by rw [← q9]; exact z)
        have gcd : ∀ (R : Int32), q_EX q_KD (d + 8) 194 0 [.int (nI X.1 - nI X.2), .int (nI (w_od M)), .retAddr 0, .retAddr 0, .retAddr 0] [] (n, sl, ln, D2, dl2, dr) (fun r1 h1 => q_EX q_KD (d + 8 + 1) 192 195 [.retAddr 0, .retAddr 0, .retAddr 0, .retAddr 0, .retAddr 0, .retAddr 0, .retAddr 0] (r1.toList ++ [.int R]) h1 (fun r2 h2 => r2 = some (.int (R / nI (w_gc 100 Dn (w_od M)))) ∧ w_R (c + 1) h2)) := by
          intro R
          have lp : q_EX q_KD (d + 8) 194 13 [.retAddr 0, .retAddr 0, .int (nI Dn), .int (nI (w_od M)), .retAddr 0] [] (n, sl, ln, D2, dl2, dr) (fun r1 h1 => q_EX q_KD (d + 8 + 1) 192 195 [.retAddr 0, .retAddr 0, .retAddr 0, .retAddr 0, .retAddr 0, .retAddr 0, .retAddr 0] (r1.toList ++ [.int R]) h1 (fun r2 h2 => r2 = some (.int (R / nI (w_gc 100 Dn (w_od M)))) ∧ w_R (c + 1) h2)) := by
            refine c_gcM hg 721 Dn (w_od M) (by omega) hDl (by omega) ?_
            rw [w_gc100 hod.2]
            exact g192_195 hg (nI_ne0 hgp.1 (by omega)) ⟨rfl, hend⟩
          refine g194_0 hg (fun z => ?_) (fun z => ?_)
          · rw [hDm.1 z]; exact lp
          · rw [hDm.2 z]; exact lp
        refine g192_175 hg (fun z => ?_) (fun z => ?_)
        · rw [if_neg z]; exact gcd _
        · rw [if_pos z]; exact gcd _
    refine g93_0 hg (c_sitH hg ?_)
    rw [w_sit6, w_si_cg hH.2.2.1]
    refine g93_7 hg (c_bc hg ?_)
    rw [q_bc10 _ (by omega), w_bct _ hsl, ← hM]
    refine g93_12 hg ?_
    rw [q_sh (show j < 31 by omega), q_anI]
    have start := c_sh28 (d := d + 1) (sl := sl) (dl := dl) (di := di) (a := di 68) (tx := di 70) (P := P) (L := L) (Q := fun r1 h1 => q_EX q_KD (d + 9) 92 30 [.ref 6, .retAddr 0, .int x2] (r1.toList ++ []) h1 (fun r h1 => ∃ v : Int32, r = some (.int v) ∧ q_EX q_KD (d + 9) 192 0 [.ref 67, .int (nI j), .int x2, .retAddr 0, .retAddr 0, .retAddr 0, .retAddr 0] [] h1 (fun r2 h2 => r2 = some (.int v) ∧ w_R (c + 1) h2))) hj6 hM hsit hcn.2.1 hg 64 0 (0, 0) di rfl (Nat.zero_le _) (Nat.zero_le _) (by rw [q_Fid]; exact hH) (fun e hH2 => by
      rw [← hX]
      have e2M : q_F w_S di e 2 M = nI (w_od M) := (hcn.2.1 M (by omega)).trans (w_odI M (by omega))
      refine g93_28 hg (fun _ => vp_in_nI (by omega) (by decide)) (fun _ => ?_) (fun w => absurd w (by decide))
      rw [nI_clamp (show M < 2 ^ 31 by omega), e2M, hDn]
      refine g94_0 hg (c_gcX hg 100 0 Dn (w_od M) rfl hDl (by omega) ?_)
      have gpos : (0 : Int32) < nI (w_gc 100 Dn (w_od M)) := nI_lt (a := 0) hgp.1 (by omega)
      refine g93_123 hg (fun z => absurd gpos (q_not_lt z)) (fun z => absurd gpos (q_not_lt z)) (fun z => absurd gpos (q_not_lt z)) (fun z => absurd gpos (q_not_lt z)) (fun _ => nI_ne0 hgp.1 (by omega)) (fun _ z => absurd gpos (q_not_lt z)) (fun _ _ => vp_in_nI (by omega) (by decide)) (fun _ _ => nI_ne0 hgp.1 (by omega)) (fun _ _ => ?_)
      rw [nI_clamp (show M < 2 ^ 31 by omega), e2M]
      have hmd := hmod (q_u (q_u (q_F w_S di e) 60 11 ((nI X.1 - nI X.2) / nI (w_gc 100 Dn (w_od M)))) 60 12 (nI (w_od M) / nI (w_gc 100 Dn (w_od M)))) (fun k hk => by
        have h60 : ¬ k = 60 := fun e => by rw [e] at hk; exact absurd hk (by decide)
        rw [q_uR h60, q_uR h60]
        refine q_Fo ?_
        cases hb : w_S k with
        | false => rfl
        | true =>
          have : w_T k = true := by show (w_S k || Nat.beq k 60) = true; rw [hb]; rfl
          rw [hk] at this
          exact absurd this (by decide)) hH2.2.1 hH2.2.2.2.2.2.2.2.2 rfl rfl
      refine g92_30 hg (fun z => ⟨_, rfl, ?_⟩) (fun z => ⟨_, rfl, ?_⟩)
      · rw [if_neg z] at hmd; exact hmd
      · rw [if_pos z] at hmd; exact hmd)
    rw [q_Fid] at start
    exact start
end
