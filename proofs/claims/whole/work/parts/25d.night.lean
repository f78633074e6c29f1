theorem w_VZ {k : Nat} (h : w_Z k = false) : w_V k = false := by
  cases hv : w_V k with
  | false => rfl
  | true =>
    have h' : (Nat.beq k 7 || Nat.beq k 12 || (Nat.ble 51 k && Nat.ble k 59)) = true := hv
    have h2 : w_Z k = true := by
      show (Nat.beq k 7 || Nat.beq k 11 || Nat.beq k 12 || (Nat.ble 17 k && Nat.ble k 22) || (Nat.ble 51 k && Nat.ble k 59)) = true
      simp only [Bool.or_eq_true, Bool.and_eq_true, Nat.beq_eq, Nat.ble_eq] at h' ⊢
      omega
    rw [h] at h2
    exact absurd h2 (by decide)
section
variable {c d n sl : Nat} {ln : Nat → Nat} {di : Nat → Nat → Int32} {dl : Nat → Nat → Int64} {dr : Nat → Nat → Option Nat} {Q : Option Value → q_H → Prop} {a tx pl : Nat → Int32} {P L T K : Nat}
/-- the class's dues -/
theorem c_pl106 {x : Int32} {B : Nat} {o' c' : Nat → Int32} (h : q_W n ln di dr a tx P L) (h11 : ∀ j, j < 6 → di 11 j = q_pl a j) (h10 : di 7 10 = nI P) (hv : ∀ j, j < 6 → q_pl a j = -1 ∨ ∃ s, s < 16 ∧ q_pl a j = nI s) (hun : ∀ j, P ≤ j → j < 6 → q_pl a j = -1) (hpd : ∀ j, j < 6 → di 12 j = a (10 + 6 * j + 5)) (hB : B ≤ 1000) (hBe : (w_nt a tx L 0 (a 3, fun _ => 0, fun _ => 0, 0)).2.2.2 = nI B) (ho : ∀ j, j < 6 → o' j = (w_nt a tx L 0 (a 3, fun _ => 0, fun _ => 0, 0)).2.1 j) (hc : ∀ j, j < 6 → c' j = (w_nt a tx L 0 (a 3, fun _ => 0, fun _ => 0, 0)).2.2.1 j) (hob : ∀ j, j < 6 → ∃ t, t ≤ 1000 ∧ o' j = nI t) (hcb : ∀ j, j < 6 → ∃ t, t ≤ 1000 ∧ c' j = nI t) (hg : q_Gr n ln dr) : ∀ (c j : Nat) (e : Nat → Nat → Int32), j + c = 6 → e 7 = va_up (di 7) 16 x → e 58 = o' → e 59 = c' → (∀ i, i < 6 → e 12 i = if i < j then w_py a tx L i else di 12 i) → q_CE (e 54) (e 55) (e 56) a tx P L →
    (∀ e', e' 7 = va_up (di 7) 16 x → (∀ i, i < 6 → e' 12 i = w_py a tx L i) → q_CE (e' 54) (e' 55) (e' 56) a tx P L → Q (some (.int (nI B))) (n, sl, ln, q_u (q_F w_V di e') 7 17 (di 7 17 + 1), dl, dr)) →
    q_EX q_KD (d + 4) 68 106 [.ref 57, .int (nI (w_si (q_pl a))), .int (nI B), .int (nI j)] [] (n, sl, ln, q_F w_V di e, dl, dr) Q := by
  have hsl := w_siL (q_pl a)
  have hP := h.2.1
  intro c
  induction c with
  | zero =>
    intro j e hj e7 e58 e59 e12 hCE k
    have : j = 6 := by omega
    subst this
    refine g68_106 hg (fun _ => ?_) (fun w => absurd w (by decide))
    have e17 : q_F w_V di e 7 17 = di 7 17 := by show e 7 17 = di 7 17; rw [e7]; rfl
    rw [e17]
    exact k e e7 (fun i hi => by rw [e12 i hi, if_pos hi]) hCE
  | succ c ih =>
    intro j e hj e7 e58 e59 e12 hCE k
    have hj6 : j < 6 := by omega
    have hjn : (nI j).toNatClampNeg = j := nI_clamp (by omega)
    have E10 : q_F w_V di e 7 10 = nI P := by show e 7 10 = nI P; rw [e7]; exact h10
    have E11 : q_F w_V di e 11 j = q_pl a j := h11 j hj6
    refine g68_106 hg (fun w => absurd ((nI_leI (a := 6) (by decide) (by omega)).mp w) (by omega)) (fun _ => c_sits hg (g68_120 hg (fun y => ?_) (fun _ => vp_in_nI hj6 (by decide)) (fun y => c_bc hg ?_)))
    · have y' := q_bn.mp y
      rw [E10, hjn, E11] at y'
      have hno : ¬ (w_si (q_pl a)).testBit j = true := fun z => by
        rw [w_siT, decide_eq_true_iff] at z
        refine y' ⟨(w_told hP).mpr ⟨j, ?_, rfl⟩, z.2⟩
        rcases Nat.lt_or_ge j P with q | q
        · exact q
        · exact absurd (hun j q hj6) z.2
      rw [nI_1]
      refine ih (j + 1) e (by omega) e7 e58 e59 (fun i hi => ?_) hCE k
      rw [e12 i hi]
      by_cases q : i = j
      · subst q
        rw [if_neg (by omega), if_pos (by omega), hpd i hi]
        unfold w_py
        rw [if_neg hno]
      · by_cases q2 : i < j
        · rw [if_pos q2, if_pos (by omega)]
        · rw [if_neg q2, if_neg (by omega)]
    · have y' := q_bp.mp y
      rw [E10, hjn, E11] at y'
      have hyes : (w_si (q_pl a)).testBit j = true := by rw [w_siT]; exact decide_eq_true ⟨hj6, y'.2⟩
      obtain ⟨s, hs16, hse⟩ := (hv j hj6).resolve_left y'.2
      obtain ⟨t1, ht1, hte1⟩ := hob j hj6
      obtain ⟨t2, ht2, hte2⟩ := hcb j hj6
      have hM1 : 1 ≤ w_ct (w_si (q_pl a)) := by
        have := w_ctlt (s := 0) hj6 hyes (fun i hi => by rw [Nat.zero_testBit] at hi; exact absurd hi (by decide)) (Nat.zero_testBit _)
        omega
      rw [q_bc10 _ (by omega), w_bct _ hsl]
      refine g68_140 hg (c_duX (d := d) (di := q_F w_V di e) (s := s) (t1 := t1) (t2 := t2) hj6 hB hM1 (w_ct6 _) (by rw [E11]; exact hse) hs16 (by show e 58 j = _; rw [e58]; exact hte1) ht1 (by show e 59 j = _; rw [e59]; exact hte2) ht2 (q_W_FV h e7) hg (fun e2 p => g68_143 hg (vp_in_nI hj6 (by decide)) ?_))
      rw [hjn, nI_1]
      have E12 : q_F w_V di e 12 j = a (10 + 6 * j + 5) := by
        show e 12 j = _
        rw [e12 j hj6, if_neg (by omega)]; exact hpd j hj6
      rw [E12]
      have epy : a (10 + 6 * j + 5) + q_du a tx j (nI s / 4) (nI B) (nI (w_ct (w_si (q_pl a)))) (nI t1) (nI t2) = w_py a tx L j := by
        unfold w_py
        rw [if_pos hyes, hBe, ← ho j hj6, ← hc j hj6, hte1, hte2, hse]
      rw [epy]
      have ehp : q_u e2 12 j (w_py a tx L j) = q_F w_V di (q_u e2 12 j (w_py a tx L j)) := q_Fin (fun k hk => by
        have g1 : ¬ k = 12 := fun z => by rw [z] at hk; exact absurd hk (by decide)
        have g2 : ¬ k = 51 := fun z => by rw [z] at hk; exact absurd hk (by decide)
        have g3 : ¬ k = 52 := fun z => by rw [z] at hk; exact absurd hk (by decide)
        rw [q_uR g1, p k g2 g3]
        exact q_Fo hk)
      rw [ehp]
      refine ih (j + 1) _ (by omega) ?_ ?_ ?_ (fun i hi => ?_) ?_ k
      · rw [q_uR (by decide), p 7 (by decide) (by decide)]; exact e7
      · rw [q_uR (by decide), p 58 (by decide) (by decide)]; exact e58
      · rw [q_uR (by decide), p 59 (by decide) (by decide)]; exact e59
      · by_cases q : i = j
        · subst q
          rw [q_uE, if_pos (by omega)]
        · rw [q_uN _ _ _ _ _ q, p 12 (by decide) (by decide)]
          show e 12 i = _
          rw [e12 i hi]
          by_cases q2 : i < j
          · rw [if_pos q2, if_pos (by omega)]
          · rw [if_neg q2, if_neg (by omega)]
      · rw [q_uR (by decide), q_uR (by decide), q_uR (by decide), p 54 (by decide) (by decide), p 55 (by decide) (by decide), p 56 (by decide) (by decide)]
        exact hCE
/-- a night, for the model's row -/
def w_ngt (a tx : Nat → Int32) (L : Nat) (a' : Nat → Int32) : Prop := ∃ S b, S ≤ 30 ∧ a 6 = nI S ∧ w_kp a b S ∧ a' 3 = (w_nt a tx L 0 (a 3, fun _ => 0, fun _ => 0, 0)).1 ∧ a' 2 = a 2 + 1 ∧ (∀ j, j < 6 → a' (10 + 6 * j + 5) = w_py a tx L j) ∧ (∀ i, i < 706 → ¬ i = 2 → ¬ i = 3 → (∀ j, j < 6 → ¬ i = 10 + 6 * j + 5) → a' i = b i)
theorem w_nt0 : w_nOK ((0 : Int32), (fun _ => 0), (fun _ => 0), 0) 0 ∧ ∀ x : Int32, w_nOK (x, (fun _ => 0), (fun _ => 0), 0) 0 :=
  ⟨⟨⟨0, by omega, rfl⟩, fun _ _ => ⟨0, by omega, rfl⟩, fun _ _ => ⟨0, by omega, rfl⟩⟩, fun _ => ⟨⟨0, by omega, rfl⟩, fun _ _ => ⟨0, by omega, rfl⟩, fun _ _ => ⟨0, by omega, rfl⟩⟩⟩
/-- x, nights and what was paid may change -/
theorem w_RHn {D : Nat → Nat → Int32} {h w s cc st pd pd' so po se r17 r18 r19 r20 r21 r22 : Nat → Int32} {sc : Nat → Option Nat} {b a' : Nat → Int32} {S : Nat} {x y : Int32} (b1 : q_RH n ln di h w s cc st pd so po se r17 r18 r19 r20 r21 r22 sc b tx P L T S K) (hd : ∀ k, 84 ≤ k → D k = di k) (h3 : a' 3 = x) (h2 : a' 2 = y) (hpd : ∀ j, j < 6 → pd' j = a' (10 + 6 * j + 5)) (hun : ∀ j, P ≤ j → j < 6 → a' (10 + 6 * j + 5) = 0) (ha : ∀ i, i < 706 → ¬ i = 2 → ¬ i = 3 → (∀ j, j < 6 → ¬ i = 10 + 6 * j + 5) → a' i = b i) : q_RH n ln D (va_up (va_up h 16 x) 17 y) w s cc st pd' so po se r17 r18 r19 r20 r21 r22 sc a' tx P L T S K := by
  obtain ⟨c1, c2, c3, c4, c5, c6, c7, c8, c9, c10, c11⟩ := b1
  obtain ⟨i1, i2, i3, i4, i5, i6, i7, i8, i9, i10, i11⟩ := c1
  have A : ∀ i, i < 706 → ¬ i = 2 → ¬ i = 3 → ¬ (15 ≤ i ∧ i < 46 ∧ i % 6 = 3) → a' i = b i := fun i g1 g2 g3 g4 => ha i g1 g2 g3 (fun j hj e => g4 (by omega))
  refine ⟨⟨i1, i2, i3, i4, i5, ?_, ?_, ?_, ?_, ?_, ?_⟩, ⟨fun j hj => ?_, ⟨fun j hj => ?_, fun j g1 g2 => ?_, fun i j hi hj hne he => ?_⟩⟩, q_Il_cg c3 (fun i g1 g2 => A i (by omega) (by omega) (by omega) (by omega)), q_Is_cg c4 i4 (fun i g1 g2 => A i (by omega) (by omega) (by omega) (by omega)), ⟨?_, ?_, ?_, ?_, ?_, ?_, ?_⟩, fun j hj => ?_, ?_, q_Li_cg c8 (fun i g1 g2 => A i (by omega) (by omega) (by omega) (by omega)), q_Se_cg c9 (fun i g1 g2 => A i (by omega) (by omega) (by omega) (by omega)), q_St_cg c10 i4 (fun i g1 g2 => A i (by omega) (by omega) (by omega) (by omega)), q_Sc_cg c11 hd⟩
  · rw [A 0 (by omega) (by omega) (by omega) (by omega)]; exact i6
  · rw [A 1 (by omega) (by omega) (by omega) (by omega)]; exact i7
  · rw [A 4 (by omega) (by omega) (by omega) (by omega)]; exact i8
  · rw [A 6 (by omega) (by omega) (by omega) (by omega)]; exact i9
  · rw [A 7 (by omega) (by omega) (by omega) (by omega)]; exact i10
  · rw [A 5 (by omega) (by omega) (by omega) (by omega)]; exact i11
  · rw [A _ (by omega) (by omega) (by omega) (by omega), A _ (by omega) (by omega) (by omega) (by omega)]; exact c2.1 j hj
  · show a' (10 + 6 * j + 3) = -1 ∨ ∃ s, s < 16 ∧ a' (10 + 6 * j + 3) = nI s
    rw [A _ (by omega) (by omega) (by omega) (by omega)]; exact c2.2.1 j hj
  · show a' (10 + 6 * j + 3) = -1 ∧ a' (10 + 6 * j + 3 + 1) = 0 ∧ a' (10 + 6 * j + 3 + 2) = 0
    rw [A _ (by omega) (by omega) (by omega) (by omega), A (10 + 6 * j + 3 + 1) (by omega) (by omega) (by omega) (by omega)]
    exact ⟨(c2.2.2.1 j g1 g2).1, (c2.2.2.1 j g1 g2).2.1, hun j g1 g2⟩
  · have he' : a' (10 + 6 * i + 3) = a' (10 + 6 * j + 3) := he
    show a' (10 + 6 * i + 3) = -1
    rw [A _ (by omega) (by omega) (by omega) (by omega), A (10 + 6 * j + 3) (by omega) (by omega) (by omega) (by omega)] at he'
    rw [A _ (by omega) (by omega) (by omega) (by omega)]
    exact c2.2.2.2 i j hi hj hne he'
  · rw [A 0 (by omega) (by omega) (by omega) (by omega)]; exact c5.1
  · rw [A 1 (by omega) (by omega) (by omega) (by omega)]; exact c5.2.1
  · rw [h2, q_upE]
  · rw [h3, q_upN _ _ (by omega), q_upE]
  · rw [A 4 (by omega) (by omega) (by omega) (by omega)]; exact c5.2.2.2.2.1
  · rw [A 5 (by omega) (by omega) (by omega) (by omega)]; exact c5.2.2.2.2.2.1
  · rw [A 7 (by omega) (by omega) (by omega) (by omega)]; exact c5.2.2.2.2.2.2
  · rw [A (10 + 6 * j + 0) (by omega) (by omega) (by omega) (by omega), A (10 + 6 * j + 1) (by omega) (by omega) (by omega) (by omega), A (10 + 6 * j + 2) (by omega) (by omega) (by omega) (by omega), A (10 + 6 * j + 3) (by omega) (by omega) (by omega) (by omega)]
    exact ⟨(c6 j hj).1, (c6 j hj).2.1, (c6 j hj).2.2.1, (c6 j hj).2.2.2.1, hpd j hj⟩
  · rw [q_upN _ _ (by omega), q_upN _ _ (by omega)]
    exact q_sb_cg c7 (fun j hj => A _ (by omega) (by omega) (by omega) (by omega))
/-- Evening.play -/
theorem x_night (hn : ∀ i, i < 16 → di 1 i = q_near.getD i 0) (hc : w_CX n ln di dr a tx P L T K) (hg : q_Gr n ln dr)
    (k1 : ¬ w_si (q_pl a) = 0 → ∀ D, (∀ k, w_Z k = false → D k = di k) → (∀ a', w_ngt a tx L a' → w_CX n ln D dr a' tx P L T K) → Q (some (.int (w_nt a tx L 0 (a 3, fun _ => 0, fun _ => 0, 0)).2.2.2)) (n, sl, ln, D, dl, dr))
    (k0 : w_si (q_pl a) = 0 → Q (some (.int (-1))) (n, sl, ln, di, dl, dr)) : q_EX q_KD (d + 5) 68 0 [.ref 57, .retAddr 0, .retAddr 0, .retAddr 0] [] (n, sl, ln, di, dl, dr) Q := by
  obtain ⟨⟨S, b1⟩, hCE⟩ := hc
  have hP := b1.1.1
  have hS := b1.1.2.2.2.1
  have hL := b1.1.2.1
  obtain ⟨o, ho, o5, o6, o4⟩ := b1.2.2.2.2.2.2.2.2.2.1
  have hsl := w_siL (q_pl a)
  have h11 : ∀ j, j < 6 → di 11 j = q_pl a j := fun j hj => (b1.2.2.2.2.2.1 j hj).2.2.2.1
  refine g68_0 hg (c_sitH hg ?_)
  rw [w_sit6, w_si_cg h11]
  refine g68_7 hg (fun w => ?_) (fun w => k0 ((nI_eq (b := 0) (by omega) (by decide)).mp w))
  have hne : ¬ w_si (q_pl a) = 0 := fun z => w (by rw [z]; rfl)
  refine c_keepX (d := d + 4) ho hS o5 o6 hg (fun q17 q5 q6 => g68_28 hg (c_fill 58 6 (by decide) (hg.2.1 58 6 rfl) rfl (q_lt hg rfl) (by decide) hg ?_))
  rw [w_fill]
  refine g68_36 hg (c_fill 59 6 (by decide) (hg.2.1 59 6 rfl) rfl (q_lt hg rfl) (by decide) hg ?_)
  rw [w_fill]
  refine g68_44 hg ?_
  obtain ⟨E, hE⟩ : ∃ E, E = va_up (va_up (q_u (q_u (q_u (va_up (va_up (va_up di 17 q17) 18 (va_cpy (di 11) (di 18) 0 ((o + S) % 30 * 6) 6)) 19 (va_cpy (di 12) (di 19) 0 ((o + S) % 30 * 6) 6)) 20 ((o + S) % 30) (di 7 11)) 21 ((o + S) % 30) (di 7 16)) 22 ((o + S) % 30) (di 7 17)) 58 (w_fl (di 58) 0 6)) 59 (w_fl (di 59) 0 6) := ⟨_, rfl⟩
  have EN : ∀ k, ¬ (17 ≤ k ∧ k ≤ 22) → ¬ k = 58 → ¬ k = 59 → E k = di k := fun k g1 g2 g3 => by
    rw [hE, q_upN _ _ g3, q_upN _ _ g2, q_uR (by omega), q_uR (by omega), q_uR (by omega), q_upN _ _ (by omega), q_upN _ _ (by omega), q_upN _ _ (by omega)]
  have E58 : ∀ j, j < 6 → E 58 j = 0 := fun j hj => by rw [hE]; exact w_flI hj
  have E59 : ∀ j, j < 6 → E 59 j = 0 := fun j hj => by rw [hE]; exact w_flI hj
  have E17 : E 17 = q17 := by rw [hE]; rfl
  have E18 : E 18 = va_cpy (di 11) (di 18) 0 ((o + S) % 30 * 6) 6 := by rw [hE]; rfl
  have E19 : E 19 = va_cpy (di 12) (di 19) 0 ((o + S) % 30 * 6) 6 := by rw [hE]; rfl
  have E20 : E 20 = va_up (di 20) ((o + S) % 30) (di 7 11) := by rw [hE]; rfl
  have E21 : E 21 = va_up (di 21) ((o + S) % 30) (di 7 16) := by rw [hE]; rfl
  have E22 : E 22 = va_up (di 22) ((o + S) % 30) (di 7 17) := by rw [hE]; rfl
  have e7 : E 7 = di 7 := EN 7 (by omega) (by omega) (by omega)
  have x0 : di 7 16 = a 3 := b1.2.2.2.2.1.2.2.2.1
  have hW0 : q_W n ln di dr a tx P L := by
    refine ⟨hn, hP, hL, ?_, fun j hj => ⟨(b1.2.2.2.2.2.1 j hj).1, (b1.2.2.2.2.2.1 j hj).2.1, b1.2.1.1 j hj⟩, fun l hl => ⟨(b1.2.2.2.2.2.2.2.1 l hl).1, (b1.2.2.2.2.2.2.2.1 l hl).2, b1.2.2.1 l hl⟩, ?_⟩
    · rw [b1.2.2.2.2.1.2.1]; exact b1.1.2.2.2.2.2.2.1
    · have e : di 7 15 = a 5 := b1.2.2.2.2.1.2.2.2.2.2.1
      rcases b1.1.2.2.2.2.2.2.2.2.2.2 with q | ⟨t, q1, q2⟩
      · exact Or.inl ⟨by rw [e]; exact q, q⟩
      · obtain ⟨z, z1, z2, z3⟩ := b1.2.2.2.2.2.2.2.2.2.2.1 t q1
        have hT := b1.1.2.2.1
        exact Or.inr ⟨t, z, by omega, by rw [e]; exact q2, q2, z1, z2, z3⟩
  have hWE : q_W n ln E dr a tx P L := q_W_cg hW0 (EN 1 (by omega) (by omega) (by omega)) (by rw [e7]) (by rw [e7]) (EN 8 (by omega) (by omega) (by omega)) (EN 9 (by omega) (by omega) (by omega)) (EN 13 (by omega) (by omega) (by omega)) (EN 14 (by omega) (by omega) (by omega)) (fun k hk => EN k (by omega) (by omega) (by omega))
  have hE11 : ∀ j, j < 6 → E 11 j = q_pl a j := fun j hj => by rw [EN 11 (by omega) (by omega) (by omega)]; exact h11 j hj
  have hv : ∀ j, j < 6 → q_pl a j = -1 ∨ ∃ s, s < 16 ∧ q_pl a j = nI s := fun j hj => b1.2.1.2.1 j hj
  have hun : ∀ j, P ≤ j → j < 6 → q_pl a j = -1 := fun j g1 g2 => (b1.2.1.2.2.1 j g1 g2).1
  have hpl : w_pl (E 11) (w_si (q_pl a)) P := by
    refine ⟨hsl, fun j hj hb => ?_, fun i j hi hj hbi hbj hij => ?_⟩
    · rw [w_siT, decide_eq_true_iff] at hb
      refine ⟨?_, ?_⟩
      · rcases Nat.lt_or_ge j P with y | y
        · exact y
        · exact absurd (hun j y hj) hb.2
      · rw [hE11 j hj]; exact (hv j hj).resolve_left hb.2
    · rw [w_siT, decide_eq_true_iff] at hbi
      rw [hE11 i hi, hE11 j hj]
      exact fun z => hbi.2 (b1.2.1.2.2.2 i j hi hj hij z)
  have hOK := w_nt_OK (a := a) (tx := tx) L 0 (a 3, fun _ => 0, fun _ => 0, 0) (w_nt0.2 _)
  obtain ⟨⟨B, hB, hBe⟩, ho6, hc6⟩ := hOK
  have start := c_pl48 (d := d) (sl := sl) (dl := dl) (Q := Q) (di := E) (a := a) (tx := tx) (P := P) (L := L) hWE hE11 (by rw [e7]; exact b1.2.2.2.2.2.2.1.1) hpl (fun j hj => by rw [EN 10 (by omega) (by omega) (by omega)]; exact (b1.2.2.2.2.2.1 j hj).2.2.1) hg L 0 (a 3, fun _ => 0, fun _ => 0, 0) E (by omega) (by rw [e7]; show di 7 = va_up (di 7) 16 (a 3); rw [← x0, q_upid]) E58 E59 rfl (by rw [EN 54 (by omega) (by omega) (by omega), EN 55 (by omega) (by omega) (by omega), EN 56 (by omega) (by omega) (by omega)]; exact hCE) (fun e' x' o' c' g1 g2 g3 g4 g5 g6 g7 g8 => by
    rw [hBe]
    refine c_pl106 (d := d + 1) (x := x') (B := B) (o' := o') (c' := c') hWE hE11 (by rw [e7, b1.2.2.2.2.1.1]; exact b1.1.2.2.2.2.2.1) hv hun (fun j hj => by rw [EN 12 (by omega) (by omega) (by omega)]; exact (b1.2.2.2.2.2.1 j hj).2.2.2.2) (by omega) hBe g2 g3 (fun j hj => by
      obtain ⟨t, t1, t2⟩ := ho6 j hj
      exact ⟨t, by omega, (g2 j hj).trans t2⟩) (fun j hj => by
      obtain ⟨t, t1, t2⟩ := hc6 j hj
      exact ⟨t, by omega, (g3 j hj).trans t2⟩) hg 6 0 e' rfl g4 g5 g6 (fun i hi => by rw [if_neg (by omega), g7]) g8 (fun e2 r7 r12 rCE => ?_)
    rw [← hBe]
    refine k1 hne _ (fun k hk => ?_) (fun a' ha' => ?_)
    · have z7 : ¬ k = 7 := w_Z_no hk rfl
      have hVk : w_V k = false := w_VZ hk
      rw [q_uR z7, q_Fo hVk]
      exact EN k (fun z => by
        have : w_Z k = true := by
          show (Nat.beq k 7 || Nat.beq k 11 || Nat.beq k 12 || (Nat.ble 17 k && Nat.ble k 22) || (Nat.ble 51 k && Nat.ble k 59)) = true
          simp only [Bool.or_eq_true, Bool.and_eq_true, Nat.beq_eq, Nat.ble_eq]
          omega
        rw [hk] at this
        exact absurd this (by decide)) (w_Z_no hk rfl) (w_Z_no hk rfl)
    · obtain ⟨S2, b, s1, s2, s3, s4, s5, s6, s7⟩ := ha'
      have eS : S2 = S := by
        rw [b1.1.2.2.2.2.2.2.2.2.1] at s2
        exact ((nI_eq (by omega) (by omega)).mp s2).symm
      subst eS
      have kp := s3
      obtain ⟨S3, δ, _, _, kk1, _⟩ := kp
      have bE : ∀ i, i < 76 → ¬ i = 6 → b i = a i := kk1
      obtain ⟨S', hRH⟩ := w_after (n := n) (ln := ln) (dr := dr) (tx := tx) (P := P) (L := L) (T := T) (K := K) (a' := b) (h11 := di 7 11) (x := 0) (st' := di 11) (j := 0) (D := di) b1 hCE ho o4 q5 q6 s3 (fun _ _ _ => rfl) (fun i hi => ⟨bE _ (by omega) (by omega), bE _ (by omega) (by omega), bE _ (by omega) (by omega), bE _ (by omega) (by omega)⟩) (fun i hi => by rw [bE _ (by omega) (by omega)]; exact h11 i hi) (q_sb_cg b1.2.2.2.2.2.2.1 (fun i hi => bE _ (by omega) (by omega))) (q_PI_cg b1.2.1.2 (fun i e hi he => bE _ (by omega) (by omega))) (fun _ _ => rfl)
      rw [q_upid] at hRH
      have hpy0 : ∀ j, P ≤ j → j < 6 → w_py a tx L j = 0 := fun j y1 y2 => by
        have hno : ¬ (w_si (q_pl a)).testBit j = true := fun z => by
          rw [w_siT, decide_eq_true_iff] at z
          exact z.2 (hun j y1 y2)
        unfold w_py
        rw [if_neg hno]
        exact (b1.2.1.2.2.1 j y1 y2).2.2
      obtain ⟨D, hD⟩ : ∃ D, D = q_u (q_F w_V E e2) 7 17 (E 7 17 + 1) := ⟨_, rfl⟩
      rw [← hD]
      have D7 : D 7 = va_up (va_up (di 7) 16 x') 17 (a 2 + 1) := by
        rw [hD]
        show va_up (e2 7) 17 (E 7 17 + 1) = _
        rw [r7, e7, b1.2.2.2.2.1.2.2.1]
      have DV : ∀ k, ¬ k = 7 → w_V k = false → D k = E k := fun k y1 y2 => by rw [hD, q_uR y1, q_Fo y2]
      have D12 : ∀ i, i < 6 → D 12 i = w_py a tx L i := fun i hi => by rw [hD]; exact r12 i hi
      have DE : ∀ k, w_V k = false → ¬ k = 7 → ¬ (17 ≤ k ∧ k ≤ 22) → ¬ k = 58 → ¬ k = 59 → D k = di k := fun k y1 y2 y3 y4 y5 => by rw [DV k y2 y1]; exact EN k y3 y4 y5
      refine ⟨⟨S', ?_⟩, ?_⟩
      · rw [D7, DE 8 rfl (by omega) (by omega) (by omega) (by omega), DE 9 rfl (by omega) (by omega) (by omega) (by omega), DE 10 rfl (by omega) (by omega) (by omega) (by omega), DE 11 rfl (by omega) (by omega) (by omega) (by omega), DE 13 rfl (by omega) (by omega) (by omega) (by omega), DE 14 rfl (by omega) (by omega) (by omega) (by omega), DE 15 rfl (by omega) (by omega) (by omega) (by omega), DV 17 (by decide) rfl, DV 18 (by decide) rfl, DV 19 (by decide) rfl, DV 20 (by decide) rfl, DV 21 (by decide) rfl, DV 22 (by decide) rfl, E17, E18, E19, E20, E21, E22]
        refine w_RHn hRH (fun k hk => ?_) (by rw [s4]; exact g1.symm) s5 (fun j hj => by rw [D12 j hj, s6 j hj]) (fun j y1 y2 => by rw [s6 j y2]; exact hpy0 j y1 y2) s7
        exact DE k (w_V84 hk) (by omega) (by omega) (by omega) (by omega)
      · have D54 : D 54 = e2 54 := by rw [hD]; rfl
        have D55 : D 55 = e2 55 := by rw [hD]; rfl
        have D56 : D 56 = e2 56 := by rw [hD]; rfl
        rw [D54, D55, D56]
        have A : ∀ i, i < 76 → ¬ i = 6 → ¬ i = 2 → ¬ i = 3 → ¬ (15 ≤ i ∧ i < 46 ∧ i % 6 = 3) → a' i = a i := fun i y1 y2 y3 y4 y5 => (s7 i (by omega) y3 y4 (fun j hj e => y5 (by omega))).trans (bE i y1 y2)
        exact q_CE_cg (a' := a') rCE (Nat.le_refl _) (Nat.le_refl _) (A 5 (by omega) (by omega) (by omega) (by omega) (by omega)) (fun j hj => ⟨A _ (by omega) (by omega) (by omega) (by omega) (by omega), A _ (by omega) (by omega) (by omega) (by omega) (by omega)⟩) (fun l hl => ⟨A _ (by omega) (by omega) (by omega) (by omega) (by omega), A _ (by omega) (by omega) (by omega) (by omega) (by omega)⟩))
  rw [q_Fid, hE] at start
  exact start
end
