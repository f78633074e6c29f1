section
variable {c d n sl : Nat} {ln : Nat → Nat} {di : Nat → Nat → Int32} {dl : Nat → Nat → Int64} {dr : Nat → Nat → Option Nat} {Q : Option Value → q_H → Prop} {a tx : Nat → Int32}
theorem w_CX0 {P L T S K : Nat} (b1 : q_RH n ln di (di 7) (di 8) (di 9) (di 10) (di 11) (di 12) (di 13) (di 14) (di 15) (di 17) (di 18) (di 19) (di 20) (di 21) (di 22) (dr 16) a tx P L T S K) (b4 : q_CE (di 54) (di 55) (di 56) a tx P L) : w_CX n ln (q_u (va_up di 61 (w_fl (di 61) (-1) 64)) 60 9 0) dr a tx P L T K :=
  ⟨⟨S, w_RHd b1 (fun k hk => (w_84 (by decide) hk).trans (w_84u (by decide) hk))⟩, b4⟩
/-- forgetting alone keeps R -/
theorem w_for0 (h : q_RR c n sl ln di dr) : q_RR c n sl ln (q_u (va_up di 61 (w_fl (di 61) (-1) 64)) 60 9 0) dr := by
  obtain ⟨hg, a2, a3, a4, a5, a6, P, L, T, S, K, P', L', T', S', K', b1, b2, b3, b4, b5⟩ := h
  exact ⟨hg, a2, a3, a4, a5, a6, P, L, T, S, K, P', L', T', S', K', w_RHd b1 (fun k hk => (w_84 (by decide) hk).trans (w_84u (by decide) hk)), w_RHd b2 (fun k hk => (w_84 (by decide) hk).trans (w_84u (by decide) hk)), b3, b4, w_CR_0 (fun m hm => w_flI hm) rfl⟩
theorem o_seat {x1 x2 : Int32} (h : q_RR c n sl ln di dr) : o_op (d + 2) 60 178 [.ref 6, .int x1, .int x2] [.ref 67, .int x1, .int x2] c (n, sl, ln, di, dl, dr) := by
  have h0 := w_for0 h
  have hR := h
  obtain ⟨hg, a2, a3, a4, a5, a6, P, L, T, S, K, P', L', T', S', K', b1, b2, b3, b4, b5⟩ := hR
  refine g60_0 hg (c_forR (d := d) hg (g60_7 hg (x_putOn (d := d) (w_CX0 b1 b4) hg (fun hok D hD hcl => g60_16 hg rfl ⟨_, rfl, ?_⟩) (fun hno => g60_16 hg rfl ⟨_, rfl, ?_⟩))))
  · have e68 : D 68 = di 68 := hD 68 rfl
    refine m_seat (d := d) (P := P) (S := S) b1.1.1 b1.1.2.2.2.1 (by rw [e68]; exact b1.1.2.2.2.2.2.1) (by rw [e68]; exact b1.1.2.2.2.2.2.2.2.2.1) hg (fun _ a' ha' => ⟨rfl, ?_⟩) (fun hno => ?_)
    · rw [e68] at ha'
      refine w_join h (fun k h1 h2 h3 => ?_) ?_ ?_ b2 b3 (hcl a' ha')
      · rw [hD k h1, q_uR h2, q_upN _ _ h3]
      · rw [hD 60 rfl]; rfl
      · intro m hm; rw [hD 61 rfl]; exact w_flI hm
    · rw [e68] at hno; exact absurd hok hno
  · exact m_seat (d := d) (P := P) (S := S) b1.1.1 b1.1.2.2.2.1 b1.1.2.2.2.2.2.1 b1.1.2.2.2.2.2.2.2.2.1 hg (fun hok => absurd hok hno) (fun _ => ⟨rfl, w_RR_up h0⟩)
theorem o_hire {x1 x2 : Int32} (h : q_RR c n sl ln di dr) : o_op (d + 2) 65 181 [.ref 6, .int x1, .int x2] [.ref 67, .int x1, .int x2] c (n, sl, ln, di, dl, dr) := by
  have h0 := w_for0 h
  have hR := h
  obtain ⟨hg, a2, a3, a4, a5, a6, P, L, T, S, K, P', L', T', S', K', b1, b2, b3, b4, b5⟩ := hR
  refine g65_0 hg (c_forR (d := d) hg (g65_7 hg (x_still (d := d) (w_CX0 b1 b4) hg (fun hok D hD hcl => g65_16 hg rfl ⟨_, rfl, ?_⟩) (fun hno => g65_16 hg rfl ⟨_, rfl, ?_⟩))))
  · have e68 : D 68 = di 68 := hD 68 rfl
    refine m_hire (d := d) (P := P) (S := S) b1.1.1 b1.1.2.2.2.1 (by rw [e68]; exact b1.1.2.2.2.2.2.1) (by rw [e68]; exact b1.1.2.2.2.2.2.2.2.2.1) hg (fun _ a' ha' => ⟨rfl, ?_⟩) (fun hno => ?_)
    · rw [e68] at ha'
      refine w_join h (fun k h1 h2 h3 => ?_) ?_ ?_ b2 b3 (hcl a' ha')
      · rw [hD k h1, q_uR h2, q_upN _ _ h3]
      · rw [hD 60 rfl]; rfl
      · intro m hm; rw [hD 61 rfl]; exact w_flI hm
    · rw [e68] at hno; exact absurd hok hno
  · exact m_hire (d := d) (P := P) (S := S) b1.1.1 b1.1.2.2.2.1 b1.1.2.2.2.2.2.1 b1.1.2.2.2.2.2.2.2.2.1 hg (fun hok => absurd hok hno) (fun _ => ⟨rfl, w_RR_up h0⟩)
/-- the model's undo: the inner loops -/
theorem c_un79 {z p Ps : Nat} {b0 : Nat → Int32} (hz : 76 ≤ z) (hz2 : z + 21 ≤ 706) (hp : p < 6) (hb : b0 z = nI Ps) (hPs : Ps ≤ 6) (hun : ∀ p, Ps ≤ p → p < 6 → b0 (z + 3 + 3 * p) = -1 ∧ b0 (z + 3 + 3 * p + 1) = 0 ∧ b0 (z + 3 + 3 * p + 2) = 0) (hg : q_Gr n ln dr) : ∀ (c e : Nat) (b : Nat → Int32), e + c = 3 → (∀ i, 46 ≤ i → b i = b0 i) → (∀ e', e' < e → b (10 + 6 * p + 3 + e') = b0 (z + 3 + 3 * p + e')) →
    (∀ b', (∀ i, ¬ (10 + 6 * p + 3 ≤ i ∧ i < 10 + 6 * p + 6) → b' i = b i) → (∀ e', e' < 3 → b' (10 + 6 * p + 3 + e') = b0 (z + 3 + 3 * p + e')) → q_EX q_KD (d + 1) 177 67 [.ref 67, .int (nI z), .int (nI (p + 1)), .retAddr 0] [] (n, sl, ln, va_up di 68 b', dl, dr) Q) →
    q_EX q_KD (d + 1) 177 79 [.ref 67, .int (nI z), .int (nI p), .int (nI e)] [] (n, sl, ln, va_up di 68 b, dl, dr) Q := by
  intro c
  induction c with
  | zero =>
    intro e b he h1 h2 k
    have e3 : e = 3 := by omega
    subst e3
    refine g177_79 hg (fun _ => ?_) (fun w => absurd w (by decide)) (fun w => absurd w (by decide)) (fun w => absurd w (by decide)) (fun w => absurd w (by decide)) (fun w => absurd w (by decide))
    rw [nI_1]
    exact k b (fun _ _ => rfl) h2
  | succ c ih =>
    intro e b he h1 h2 k
    have e1 : (3 : Int32) + nI e = nI (3 + e) := by rw [q_pa]; rfl
    have e2 : ((nI z + 3) + (3 : Int32) * nI p) + nI e = nI (z + 3 + 3 * p + e) := by rw [q_pa, q_pa, q_pm, q_pa]; rfl
    have e3 : (nI (z + 3 + 3 * p + e)).toNatClampNeg = z + 3 + 3 * p + e := nI_clamp (by omega)
    have ez : (nI z).toNatClampNeg = z := nI_clamp (by omega)
    have hzv : va_up di 68 b 68 z = nI Ps := by show b z = nI Ps; rw [h1 z (by omega)]; exact hb
    have nxt : ∀ v : Int32, v = b0 (z + 3 + 3 * p + e) → q_EX q_KD d 119 0 [.ref 67, .int (nI p), .int (nI (3 + e)), .int v] [] (n, sl, ln, va_up di 68 b, dl, dr) (fun r1 h1 => q_EX q_KD (d + 1) 177 128 [.ref 67, .int (nI z), .int (nI p), .int (nI e)] (r1.toList ++ []) h1 Q) := by
      intro v hv
      refine c_set p (3 + e) hg (by omega) (g177_128 hg ?_)
      have eh : q_u (va_up di 68 b) 68 (10 + 6 * p + (3 + e)) v = va_up di 68 (va_up b (10 + 6 * p + (3 + e)) v) := by
        show va_up (va_up di 68 b) 68 (va_up (va_up di 68 b 68) (10 + 6 * p + (3 + e)) v) = _
        rw [q_upup, q_upE]
      rw [eh, nI_1]
      refine ih (e + 1) _ (by omega) (fun i hi => ?_) (fun e' he' => ?_) (fun b' r1 r2 => k b' (fun i hi => ?_) r2)
      · rw [q_upN _ _ (by omega)]; exact h1 i hi
      · by_cases g : e' = e
        · subst g; rw [show 10 + 6 * p + 3 + e' = 10 + 6 * p + (3 + e') by omega, q_upE]; exact hv
        · rw [q_upN _ _ (by omega)]; exact h2 e' (by omega)
      · rw [r1 i hi, q_upN _ _ (by omega)]
    refine g177_79 hg (fun w => absurd ((nI_leI (a := 3) (by decide) (by omega)).mp w) (by omega)) (fun _ => vp_in_nI (by omega) (by decide)) (fun _ w1 w2 => ?_) (fun _ w1 w2 => ?_) (fun _ w1 => ?_) (fun _ w1 => ?_)
    · rw [e1]
      rw [ez, hzv] at w1
      have hPp := (nI_leI (by omega) (by omega)).mp w1
      have := hun p hPp hp
      have he0 : ¬ e = 0 := fun y => w2 (by rw [y]; rfl)
      refine nxt 0 ?_
      rcases (show e = 1 ∨ e = 2 by omega) with y | y
      · subst y; exact this.2.1.symm
      · subst y; exact this.2.2.symm
    · rw [e1]
      rw [ez, hzv] at w1
      have hPp := (nI_leI (by omega) (by omega)).mp w1
      have he0 : e = 0 := (nI_eq (b := 0) (by omega) (by decide)).mp w2
      refine nxt (-1) ?_
      rw [he0]; exact (hun p hPp hp).1.symm
    · rw [e2]; exact vp_in_nI (by omega) (by decide)
    · rw [e1, e2, e3]
      refine nxt _ ?_
      show b (z + 3 + 3 * p + e) = _
      exact h1 _ (by omega)
theorem c_un67 {z P Ps : Nat} {b0 : Nat → Int32} (hz : 76 ≤ z) (hz2 : z + 21 ≤ 706) (hP : P ≤ 6) (h0 : b0 0 = nI P) (hb : b0 z = nI Ps) (hPs : Ps ≤ 6) (hun : ∀ p, Ps ≤ p → p < 6 → b0 (z + 3 + 3 * p) = -1 ∧ b0 (z + 3 + 3 * p + 1) = 0 ∧ b0 (z + 3 + 3 * p + 2) = 0) (hg : q_Gr n ln dr) : ∀ (c p : Nat) (b : Nat → Int32), p + c = P → (∀ i, ¬ (10 ≤ i ∧ i < 46) → b i = b0 i) → (∀ i, i < 6 → b (10 + 6 * i + 0) = b0 (10 + 6 * i + 0) ∧ b (10 + 6 * i + 1) = b0 (10 + 6 * i + 1) ∧ b (10 + 6 * i + 2) = b0 (10 + 6 * i + 2)) → (∀ i e, i < p → e < 3 → b (10 + 6 * i + 3 + e) = b0 (z + 3 + 3 * i + e)) → (∀ i e, p ≤ i → i < 6 → e < 3 → b (10 + 6 * i + 3 + e) = b0 (10 + 6 * i + 3 + e)) →
    (∀ b', (∀ i, ¬ (10 ≤ i ∧ i < 46) → b' i = b0 i) → (∀ i, i < 6 → b' (10 + 6 * i + 0) = b0 (10 + 6 * i + 0) ∧ b' (10 + 6 * i + 1) = b0 (10 + 6 * i + 1) ∧ b' (10 + 6 * i + 2) = b0 (10 + 6 * i + 2)) → (∀ i e, i < P → e < 3 → b' (10 + 6 * i + 3 + e) = b0 (z + 3 + 3 * i + e)) → (∀ i e, P ≤ i → i < 6 → e < 3 → b' (10 + 6 * i + 3 + e) = b0 (10 + 6 * i + 3 + e)) → Q (some (.int (b0 6))) (n, sl, ln, va_up di 68 b', dl, dr)) →
    q_EX q_KD (d + 1) 177 67 [.ref 67, .int (nI z), .int (nI p), .retAddr 0] [] (n, sl, ln, va_up di 68 b, dl, dr) Q := by
  intro c
  induction c with
  | zero =>
    intro p b hp h1 h2 h3 h4 k
    have hpP : p = P := by omega
    subst hpP
    have e0 : va_up di 68 b 68 0 = nI p := by show b 0 = nI p; rw [h1 0 (by omega)]; exact h0
    refine g177_67 hg (fun _ => ?_) (fun w => absurd w (by rw [e0]; exact nI_nlt (Nat.le_refl _) (by omega)))
    have e6 : va_up di 68 b 68 6 = b0 6 := h1 6 (by omega)
    rw [e6]
    exact k b h1 h2 h3 h4
  | succ c ih =>
    intro p b hp h1 h2 h3 h4 k
    have e0 : va_up di 68 b 68 0 = nI P := by show b 0 = nI P; rw [h1 0 (by omega)]; exact h0
    refine g177_67 hg (fun w => absurd w (by rw [e0]; exact nI_ge (by omega) (by omega))) (fun _ => ?_)
    refine c_un79 (b0 := b0) hz hz2 (by omega) hb hPs hun hg 3 0 b rfl (fun i hi => h1 i (by omega)) (fun e' he' => absurd he' (Nat.not_lt_zero e')) (fun b' r1 r2 => ?_)
    refine ih (p + 1) b' (by omega) (fun i hi => (r1 i (by omega)).trans (h1 i hi)) (fun i hi => ?_) (fun i e hi he => ?_) (fun i e hi hi6 he => (r1 _ (by omega)).trans (h4 i e (by omega) hi6 he)) k
    · rw [r1 _ (by omega), r1 _ (by omega), r1 _ (by omega)]; exact h2 i hi
    · by_cases g : i = p
      · subst g; exact r2 e he
      · rw [r1 _ (by omega)]; exact h3 i e (by omega) he
theorem o_undo (h : q_RR c n sl ln di dr) : o_op (d + 2) 84 177 [.ref 6] [.ref 67, .retAddr 0, .retAddr 0, .retAddr 0] c (n, sl, ln, di, dl, dr) := by
  have hR := h
  obtain ⟨hg, a2, a3, a4, a5, a6, P, L, T, S, K, P', L', T', S', K', b1, b2, b3, b4, b5⟩ := hR
  obtain ⟨i1, i2, i3, i4, i5, i6, i7, i8, i9, i10, i11⟩ := b1.1
  obtain ⟨o, ho, o5, o6, o4⟩ := b1.2.2.2.2.2.2.2.2.2.1
  refine g84_0 hg ?_
  by_cases hS0 : S = 0
  · have hz : di 17 6 ≤ 0 := by rw [o6, hS0]; decide
    have hn : ¬ (0 : Int32) < di 17 6 := q_not_lt hz
    refine g85_0 hg (fun w => absurd w hn) (fun w => absurd w hn) (fun w => absurd w hn) (fun w => absurd w hn) (fun w => absurd w hn) (fun w => absurd w hn) (fun w => absurd w hn) (fun w => absurd w hn) (fun _ => g84_14 hg (fun z => absurd rfl z) (fun _ => ⟨_, rfl, ?_⟩))
    have hm : di 68 6 = 0 := by rw [i9, hS0]; rfl
    exact g177_0 hg (fun w => absurd hm w) (fun w => absurd hm w) (fun w => absurd hm w) (fun _ => ⟨rfl, w_RR_up h⟩)
  · obtain ⟨R, rfl⟩ : ∃ R, S = R + 1 := ⟨S - 1, by omega⟩
    have hq : (o + R) % 30 < 30 := Nat.mod_lt _ (by decide)
    have e1 : (di 17 5 + (di 17 6 - 1)) - (di 17 5 + (di 17 6 - 1)) / 30 * 30 = nI ((o + R) % 30) := by
      rw [o5, o6, nI_pred, nI_add]; exact w_rem (o + R) (by omega)
    have e2 : nI ((o + R) % 30) * 6 = nI ((o + R) % 30 * 6) := (q_pm _ 6).symm
    have e3 : (nI ((o + R) % 30 * 6)).toNatClampNeg = (o + R) % 30 * 6 := nI_clamp (by omega)
    have e4 : (nI ((o + R) % 30)).toNatClampNeg = (o + R) % 30 := nI_clamp (by omega)
    have p1 : ¬ ((di 17 5 + (di 17 6 - 1)) - (di 17 5 + (di 17 6 - 1)) / 30 * 30) * 6 < 0 := by rw [e1, e2]; exact nI_pos (by omega)
    have p2 : (((di 17 5 + (di 17 6 - 1)) - (di 17 5 + (di 17 6 - 1)) / 30 * 30) * 6).toNatClampNeg + (6 : Int32).toNatClampNeg ≤ 180 := by rw [e1, e2, e3, show (6 : Int32).toNatClampNeg = 6 from rfl]; omega
    have p3 : vp_in ((di 17 5 + (di 17 6 - 1)) - (di 17 5 + (di 17 6 - 1)) / 30 * 30) 30 := by rw [e1]; exact vp_in_nI hq (by decide)
    have hpos : (0 : Int32) < di 17 6 := by rw [o6]; exact nI_lt (a := 0) (by omega) (by omega)
    refine g85_0 hg (fun _ => p1) (fun _ => p2) (fun _ => p1) (fun _ => p2) (fun _ => p3) (fun _ => p3) (fun _ => p3) (fun _ => ?_) (fun w => absurd hpos (q_not_lt w))
    rw [e1, e2, e3, e4, o6, nI_pred]
    refine g84_14 hg (fun _ => c_forR (d := d) hg (g84_26 hg ⟨nI R, rfl, ?_⟩)) (fun z => absurd z (by decide))
    -- the model
    have hm : ¬ di 68 6 = 0 := by rw [i9]; exact nI_ne0 (by omega) (by omega)
    obtain ⟨Ps, f1, f2, f3⟩ := b1.2.2.2.1 R (by omega)
    have hst := o4 R (by omega)
    have ex : (76 : Int32) + (21 : Int32) * (nI (R + 1) - 1) = nI (76 + 21 * R) := by rw [nI_pred, q_pa, q_pm]; rfl
    have ex1 : nI (76 + 21 * R) + 1 = nI (76 + 21 * R + 1) := nI_1 _
    have ex2 : nI (76 + 21 * R) + 2 = nI (76 + 21 * R + 2) := by rw [q_pa (76 + 21 * R) 2]; rfl
    have n1 : (nI (76 + 21 * R + 1)).toNatClampNeg = 76 + 21 * R + 1 := nI_clamp (by omega)
    have n2 : (nI (76 + 21 * R + 2)).toNatClampNeg = 76 + 21 * R + 2 := nI_clamp (by omega)
    obtain ⟨D, hD⟩ : ∃ D, D = q_u (va_up (q_u (q_u (q_u (va_up (va_up (q_u di 17 6 (nI R)) 11 (va_cpy ((q_u di 17 6 (nI R)) 18) ((q_u di 17 6 (nI R)) 11) ((o + R) % 30 * 6) 0 6)) 12 (va_cpy ((va_up (q_u di 17 6 (nI R)) 11 (va_cpy ((q_u di 17 6 (nI R)) 18) ((q_u di 17 6 (nI R)) 11) ((o + R) % 30 * 6) 0 6)) 19) ((va_up (q_u di 17 6 (nI R)) 11 (va_cpy ((q_u di 17 6 (nI R)) 18) ((q_u di 17 6 (nI R)) 11) ((o + R) % 30 * 6) 0 6)) 12) ((o + R) % 30 * 6) 0 6)) 7 11 (di 20 ((o + R) % 30))) 7 16 (di 21 ((o + R) % 30))) 7 17 (di 22 ((o + R) % 30))) 61 (w_fl (di 61) (-1) 64)) 60 9 0 := ⟨_, rfl⟩
    have goal2 : q_EX q_KD (d + 2) 177 0 [.ref 67, .retAddr 0, .retAddr 0, .retAddr 0] [] (n, sl, ln, D, dl, dr) (fun r2 h2 => r2 = some (.int (nI R)) ∧ w_R (c + 1) h2) := by
      have D68 : D 68 = di 68 := by rw [hD]; rfl
      have D7 : D 7 = va_up (va_up (va_up (di 7) 11 (di 20 ((o + R) % 30))) 16 (di 21 ((o + R) % 30))) 17 (di 22 ((o + R) % 30)) := by rw [hD]; rfl
      have D11 : D 11 = va_cpy (di 18) (di 11) ((o + R) % 30 * 6) 0 6 := by rw [hD]; rfl
      have D12 : D 12 = va_cpy (di 19) (di 12) ((o + R) % 30 * 6) 0 6 := by rw [hD]; rfl
      have D17 : D 17 = va_up (di 17) 6 (nI R) := by rw [hD]; rfl
      have D60 : D 60 9 = 0 := by rw [hD]; rfl
      have D61 : ∀ m, m < 64 → D 61 m = -1 := fun m hm => by rw [hD]; exact w_flI hm
      have DN : ∀ k, ¬ k = 7 → ¬ k = 11 → ¬ k = 12 → ¬ k = 17 → ¬ k = 60 → ¬ k = 61 → D k = di k := fun k g1 g2 g3 g4 g5 g6 => by
        rw [hD, q_uR g5, q_upN _ _ g6, q_uR g1, q_uR g1, q_uR g1, q_upN _ _ g3, q_upN _ _ g2, q_uR g4]
      clear hD
      have D6 : D 68 6 = nI (R + 1) := by rw [D68]; exact i9
      refine g177_0 hg (fun _ => by rw [D6, ex, ex1]; exact vp_in_nI (by omega) (by decide)) (fun _ => by rw [D6, ex, ex2]; exact vp_in_nI (by omega) (by decide)) (fun _ => ?_) (fun w => absurd (by rw [← D68]; exact w) hm)
      rw [D6, ex, ex1, ex2, n1, n2, nI_pred]
      have eh : q_u (q_u (q_u D 68 6 (nI R)) 68 3 (q_u D 68 6 (nI R) 68 (76 + 21 * R + 1))) 68 2 (q_u (q_u D 68 6 (nI R)) 68 3 (q_u D 68 6 (nI R) 68 (76 + 21 * R + 1)) 68 (76 + 21 * R + 2)) = va_up D 68 (va_up (va_up (va_up (di 68) 6 (nI R)) 3 (di 68 (76 + 21 * R + 1))) 2 (di 68 (76 + 21 * R + 2))) := by
        rw [q_uN _ _ _ _ _ (show 76 + 21 * R + 1 ≠ 6 by omega), q_uN _ _ _ _ _ (show 76 + 21 * R + 2 ≠ 3 by omega), q_uN _ _ _ _ _ (show 76 + 21 * R + 2 ≠ 6 by omega), D68]
        funext i
        by_cases hi : i = 68
        · subst hi
          show va_up (va_up (va_up (D 68) 6 (nI R)) 3 (di 68 (76 + 21 * R + 1))) 2 (di 68 (76 + 21 * R + 2)) = va_up (va_up (va_up (di 68) 6 (nI R)) 3 (di 68 (76 + 21 * R + 1))) 2 (di 68 (76 + 21 * R + 2))
          rw [D68]
        · rw [q_uR hi, q_uR hi, q_uR hi, q_upN _ _ hi]
      rw [eh]
      have B : ∀ i, ¬ i = 2 → ¬ i = 3 → ¬ i = 6 → va_up (va_up (va_up (di 68) 6 (nI R)) 3 (di 68 (76 + 21 * R + 1))) 2 (di 68 (76 + 21 * R + 2)) i = di 68 i := fun i g1 g2 g3 => by rw [q_upN _ _ g1, q_upN _ _ g2, q_upN _ _ g3]
      have hPs6 : Ps ≤ 6 := by omega
      refine c_un67 (d := d + 1) (z := 76 + 21 * R) (P := P) (Ps := Ps) (b0 := va_up (va_up (va_up (di 68) 6 (nI R)) 3 (di 68 (76 + 21 * R + 1))) 2 (di 68 (76 + 21 * R + 2))) (by omega) (by omega) i1 (by rw [B 0 (by omega) (by omega) (by omega)]; exact i6) (by rw [B _ (by omega) (by omega) (by omega)]; exact f2) hPs6 (fun p h1 h2 => by rw [B _ (by omega) (by omega) (by omega), B _ (by omega) (by omega) (by omega), B _ (by omega) (by omega) (by omega)]; exact f3.2.1 p h1 h2) hg P 0 _ (by omega) (fun _ _ => rfl) (fun _ _ => ⟨rfl, rfl, rfl⟩) (fun i e hi => absurd hi (Nat.not_lt_zero i)) (fun _ _ _ _ _ => rfl) (fun b r1 r2 r3 r4 => ⟨by rw [q_upN _ _ (by omega), q_upN _ _ (by omega), q_upE], ?_⟩)
      have bN : ∀ i, ¬ (10 ≤ i ∧ i < 46) → ¬ i = 2 → ¬ i = 3 → ¬ i = 6 → b i = di 68 i := fun i g1 g2 g3 g4 => (r1 i g1).trans (B i g2 g3 g4)
      have b6 : b 6 = nI R := by rw [r1 6 (by omega), q_upN _ _ (by omega), q_upN _ _ (by omega), q_upE]
      have b3' : b 3 = di 68 (76 + 21 * R + 1) := by rw [r1 3 (by omega), q_upN _ _ (by omega), q_upE]
      have b2' : b 2 = di 68 (76 + 21 * R + 2) := by rw [r1 2 (by omega), q_upE]
      have bp : ∀ j e, j < 6 → e < 3 → b (10 + 6 * j + 3 + e) = di 68 (76 + 21 * R + 3 + 3 * j + e) := fun j e hj he => by
        rcases Nat.lt_or_ge j P with y | y
        · rw [r3 j e y he, B _ (by omega) (by omega) (by omega)]
        · rw [r4 j e y hj he, B _ (by omega) (by omega) (by omega)]
          have u1 := b1.2.1.2.2.1 j y hj
          have u2 := f3.2.1 j (by omega) hj
          have u10 : di 68 (10 + 6 * j + 3) = -1 := u1.1
          have u11 : di 68 (10 + 6 * j + 3 + 1) = 0 := u1.2.1
          have u12 : di 68 (10 + 6 * j + 3 + 2) = 0 := u1.2.2
          have u20 : di 68 (76 + 21 * R + 3 + 3 * j) = -1 := u2.1
          have u21 : di 68 (76 + 21 * R + 3 + 3 * j + 1) = 0 := u2.2.1
          have u22 : di 68 (76 + 21 * R + 3 + 3 * j + 2) = 0 := u2.2.2
          rcases (show e = 0 ∨ e = 1 ∨ e = 2 by omega) with z | z | z
          · subst z; exact u10.trans u20.symm
          · subst z; rw [u11, u21]
          · subst z; rw [u12, u22]
      have bw : ∀ j, j < 6 → b (10 + 6 * j + 0) = di 68 (10 + 6 * j + 0) ∧ b (10 + 6 * j + 1) = di 68 (10 + 6 * j + 1) ∧ b (10 + 6 * j + 2) = di 68 (10 + 6 * j + 2) := fun j hj => by
        have := r2 j hj
        rw [B _ (by omega) (by omega) (by omega), B _ (by omega) (by omega) (by omega), B _ (by omega) (by omega) (by omega)] at this
        exact this
      have hd : ∀ k, 84 ≤ k → va_up D 68 b k = di k := fun k hk => by rw [w_84u (by decide) hk]; exact DN k (by omega) (by omega) (by omega) (by omega) (by omega) (by omega)
      have E : ∀ k, ¬ k = 68 → ¬ k = 7 → ¬ k = 11 → ¬ k = 12 → ¬ k = 17 → ¬ k = 60 → ¬ k = 61 → va_up D 68 b k = di k := fun k g0 g1 g2 g3 g4 g5 g6 => by rw [q_upN _ _ g0]; exact DN k g1 g2 g3 g4 g5 g6
      obtain ⟨c1, c2, c3, c4, c5, c6, c7⟩ := b1.2.2.2.2.1
      obtain ⟨g1, g2, g3, g4⟩ := hst
      show q_RR (c + 1) n sl ln (va_up D 68 b) dr
      refine w_RR_up ⟨hg, a2, a3, ?_, ?_, ?_, P, L, T, R, K, P', L', T', S', K', ?_, ?_, b3, ?_, w_CR_0 D61 D60⟩
      · unfold q_Cn at *
        rw [E 1 (by decide) (by decide) (by decide) (by decide) (by decide) (by decide) (by decide), E 2 (by decide) (by decide) (by decide) (by decide) (by decide) (by decide) (by decide), E 3 (by decide) (by decide) (by decide) (by decide) (by decide) (by decide) (by decide), E 5 (by decide) (by decide) (by decide) (by decide) (by decide) (by decide) (by decide)]
        exact a4
      · unfold q_Tp at *
        rw [E 40 (by decide) (by decide) (by decide) (by decide) (by decide) (by decide) (by decide), E 41 (by decide) (by decide) (by decide) (by decide) (by decide) (by decide) (by decide), E 67 (by decide) (by decide) (by decide) (by decide) (by decide) (by decide) (by decide), E 71 (by decide) (by decide) (by decide) (by decide) (by decide) (by decide) (by decide)]
        exact a5
      · unfold q_Ft at *
        rw [E 39 (by decide) (by decide) (by decide) (by decide) (by decide) (by decide) (by decide), E 67 (by decide) (by decide) (by decide) (by decide) (by decide) (by decide) (by decide)]
        exact a6
      · rw [E 8 (by decide) (by decide) (by decide) (by decide) (by decide) (by decide) (by decide), E 9 (by decide) (by decide) (by decide) (by decide) (by decide) (by decide) (by decide), E 10 (by decide) (by decide) (by decide) (by decide) (by decide) (by decide) (by decide), E 13 (by decide) (by decide) (by decide) (by decide) (by decide) (by decide) (by decide), E 14 (by decide) (by decide) (by decide) (by decide) (by decide) (by decide) (by decide), E 15 (by decide) (by decide) (by decide) (by decide) (by decide) (by decide) (by decide), E 18 (by decide) (by decide) (by decide) (by decide) (by decide) (by decide) (by decide), E 19 (by decide) (by decide) (by decide) (by decide) (by decide) (by decide) (by decide), E 20 (by decide) (by decide) (by decide) (by decide) (by decide) (by decide) (by decide), E 21 (by decide) (by decide) (by decide) (by decide) (by decide) (by decide) (by decide), E 22 (by decide) (by decide) (by decide) (by decide) (by decide) (by decide) (by decide), E 70 (by decide) (by decide) (by decide) (by decide) (by decide) (by decide) (by decide), q_upE, q_upN _ _ (show ¬ 7 = 68 by decide), q_upN _ _ (show ¬ 11 = 68 by decide), q_upN _ _ (show ¬ 12 = 68 by decide), q_upN _ _ (show ¬ 17 = 68 by decide), D7, D11, D12, D17]
        refine ⟨⟨i1, i2, i3, by omega, i5, ?_, ?_, ?_, b6, ?_, ?_⟩, ⟨fun j hj => ?_, ?_⟩, q_Il_cg b1.2.2.1 (fun i h1 h2 => bN i (by omega) (by omega) (by omega) (by omega)), fun s hs => ?_, ⟨?_, ?_, ?_, ?_, ?_, ?_, ?_⟩, fun j hj => ?_, ?_, q_Li_cg b1.2.2.2.2.2.2.2.1 (fun i h1 h2 => bN i (by omega) (by omega) (by omega) (by omega)), q_Se_cg b1.2.2.2.2.2.2.2.2.1 (fun i h1 h2 => bN i (by omega) (by omega) (by omega) (by omega)), ⟨o, ho, o5, rfl, fun s hs => q_S1_cg (o4 s (by omega)) (fun i hi => bN _ (by omega) (by omega) (by omega) (by omega))⟩, q_Sc_cg b1.2.2.2.2.2.2.2.2.2.2 hd⟩
        · rw [bN 0 (by omega) (by omega) (by omega) (by omega)]; exact i6
        · rw [bN 1 (by omega) (by omega) (by omega) (by omega)]; exact i7
        · rw [bN 4 (by omega) (by omega) (by omega) (by omega)]; exact i8
        · rw [bN 7 (by omega) (by omega) (by omega) (by omega)]; exact i10
        · rw [bN 5 (by omega) (by omega) (by omega) (by omega)]; exact i11
        · rw [(bw j hj).1, (bw j hj).2.1]; exact b1.2.1.1 j hj
        · have hpi := q_PI_cg (f' := fun j e => b (10 + 6 * j + 3 + e)) f3 (fun j e hj he => bp j e hj he)
          exact ⟨hpi.1, fun j h1 h2 => hpi.2.1 j (by omega) h2, hpi.2.2⟩
        · obtain ⟨Pt, t1, t2, t3⟩ := b1.2.2.2.1 s (by omega)
          refine ⟨Pt, t1, ?_, q_PI_cg t3 (fun j e hj he => bN _ (by omega) (by omega) (by omega) (by omega))⟩
          rw [bN _ (by omega) (by omega) (by omega) (by omega)]; exact t2
        · rw [bN 0 (by omega) (by omega) (by omega) (by omega)]; exact c1
        · rw [bN 1 (by omega) (by omega) (by omega) (by omega)]; exact c2
        · rw [b2', q_upE]; exact g4
        · rw [b3', q_upN _ _ (by omega), q_upE]; exact g3
        · rw [bN 4 (by omega) (by omega) (by omega) (by omega)]; exact c5
        · rw [bN 5 (by omega) (by omega) (by omega) (by omega)]; exact c6
        · rw [bN 7 (by omega) (by omega) (by omega) (by omega)]; exact c7
        · have t0 := bp j 0 hj (by decide)
          have t2 := bp j 2 hj (by decide)
          rw [Nat.add_zero, Nat.add_zero] at t0
          rw [(bw j hj).1, (bw j hj).2.1, (bw j hj).2.2, t0, show 10 + 6 * j + 5 = 10 + 6 * j + 3 + 2 by omega, t2, pk_cpy_in (Nat.zero_le _) (by omega), pk_cpy_in (Nat.zero_le _) (by omega), Nat.sub_zero]
          have pe := b1.2.2.2.2.2.1 j hj
          exact ⟨pe.1, pe.2.1, pe.2.2.1, (g1 j hj).1, (g1 j hj).2⟩
        · rw [q_upN _ _ (show ¬ 11 = 17 by decide), q_upN _ _ (show ¬ 11 = 16 by decide), q_upE]
          exact q_sb_cg g2 (fun j hj => bp j 1 hj (by decide))
      · rw [E 23 (by decide) (by decide) (by decide) (by decide) (by decide) (by decide) (by decide), E 24 (by decide) (by decide) (by decide) (by decide) (by decide) (by decide) (by decide), E 25 (by decide) (by decide) (by decide) (by decide) (by decide) (by decide) (by decide), E 26 (by decide) (by decide) (by decide) (by decide) (by decide) (by decide) (by decide), E 27 (by decide) (by decide) (by decide) (by decide) (by decide) (by decide) (by decide), E 28 (by decide) (by decide) (by decide) (by decide) (by decide) (by decide) (by decide), E 29 (by decide) (by decide) (by decide) (by decide) (by decide) (by decide) (by decide), E 30 (by decide) (by decide) (by decide) (by decide) (by decide) (by decide) (by decide), E 31 (by decide) (by decide) (by decide) (by decide) (by decide) (by decide) (by decide), E 33 (by decide) (by decide) (by decide) (by decide) (by decide) (by decide) (by decide), E 34 (by decide) (by decide) (by decide) (by decide) (by decide) (by decide) (by decide), E 35 (by decide) (by decide) (by decide) (by decide) (by decide) (by decide) (by decide), E 36 (by decide) (by decide) (by decide) (by decide) (by decide) (by decide) (by decide), E 37 (by decide) (by decide) (by decide) (by decide) (by decide) (by decide) (by decide), E 38 (by decide) (by decide) (by decide) (by decide) (by decide) (by decide) (by decide), E 69 (by decide) (by decide) (by decide) (by decide) (by decide) (by decide) (by decide), E 70 (by decide) (by decide) (by decide) (by decide) (by decide) (by decide) (by decide)]
        exact w_RHd b2 hd
      · rw [E 54 (by decide) (by decide) (by decide) (by decide) (by decide) (by decide) (by decide), E 55 (by decide) (by decide) (by decide) (by decide) (by decide) (by decide) (by decide), E 56 (by decide) (by decide) (by decide) (by decide) (by decide) (by decide) (by decide), E 70 (by decide) (by decide) (by decide) (by decide) (by decide) (by decide) (by decide), q_upE]
        exact q_CE_cg b4 (Nat.le_refl _) (Nat.le_refl _) (bN 5 (by omega) (by omega) (by omega) (by omega)) (fun j hj => ⟨(bw j (by omega)).1, (bw j (by omega)).2.1⟩) (fun l hl => ⟨bN _ (by omega) (by omega) (by omega) (by omega), bN _ (by omega) (by omega) (by omega) (by omega)⟩)
    rw [hD] at goal2
    exact goal2
end
