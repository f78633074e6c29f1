/-! THE CLASS READS: names; what a reading leaves behind -/
theorem t_enN (v : Int32) : q_enc (nI 1) v = 10000 + v := by unfold q_enc; rw [if_neg (by decide), if_pos (by decide)]
theorem t_en0 (v : Int32) : q_enc (nI 0) v = v := by unfold q_enc; rw [if_pos (by decide)]
theorem t_enR (c : Int32) (h : ¬ t_rc c < 0) : q_enc (nI (t_rc c).toNatClampNeg) (nI 0) = 20000 + c := by
  unfold t_rc at *
  by_cases h1 : c = 60
  · subst h1; decide
  · rw [if_neg h1] at h ⊢
    by_cases h2 : c = 128
    · subst h2; decide
    · rw [if_neg h2] at h ⊢
      by_cases h3 : c = 62
      · subst h3; decide
      · rw [if_neg h3] at h ⊢
        by_cases h4 : c = 129
        · subst h4; decide
        · rw [if_neg h4] at h ⊢
          by_cases h5 : c = 61
          · subst h5; decide
          · rw [if_neg h5] at h ⊢
            by_cases h6 : c = 35
            · subst h6; decide
            · rw [if_neg h6] at h
              exact absurd (show (-1 : Int32) < 0 by decide) h
theorem t_nmX : ∀ L, L < 3 → ∀ nm, nm < 14 → (((q_nol.getD L 0 >>> (nI nm &&& 31)) &&& 1 = 0) ↔ q_nmok L nm = false) := by decide +kernel
/-- live, behind the codes cs -/
def t_lv (D : Nat → Nat → Int32) (tk : Nat → Int32) (L W : Nat) (A : Int32) (r : Nat → Int32) (j : Nat) (cs : List (Nat × Nat)) : Nat → Nat → Int32 := t_LV D tk j (W + cs.length) (t_as L A cs) (t_em r W (t_en cs))
theorem t_lv_app (D : Nat → Nat → Int32) (tk : Nat → Int32) (L W : Nat) (A : Int32) (r : Nat → Int32) (j : Nat) (a b : List (Nat × Nat)) : t_lv D tk L W A r j (a ++ b) = t_lv D tk L (W + a.length) (t_as L A a) (t_em r W (t_en a)) j b := by
  unfold t_lv
  rw [List.length_append, t_as_app, t_en_app, t_em_app, t_en_len, Nat.add_assoc]
theorem t_lv_s (D : Nat → Nat → Int32) (tk : Nat → Int32) (L W : Nat) (A : Int32) (r : Nat → Int32) (j : Nat) (a : List (Nat × Nat)) (o v : Nat) : t_lv D tk L W A r j (a ++ [(o, v)]) = t_LV D tk j (W + a.length + 1) (if L = 0 ∧ o = 1 ∧ (v = 2 ∨ v = 5) then 1 else t_as L A a) (va_up (t_em r W (t_en a)) (W + a.length) (q_enc (nI o) (nI v))) := by
  rw [t_lv_app]; rfl
theorem t_lv_o (D : Nat → Nat → Int32) (tk : Nat → Int32) (L W : Nat) (A : Int32) (r : Nat → Int32) (j : Nat) (a : List (Nat × Nat)) {o v : Nat} (ho : ¬ o = 1) : t_lv D tk L W A r j (a ++ [(o, v)]) = t_LV D tk j (W + a.length + 1) (t_as L A a) (va_up (t_em r W (t_en a)) (W + a.length) (q_enc (nI o) (nI v))) := by
  rw [t_lv_s, if_neg (fun h => ho h.2.1)]
def t_ok (n sl : Nat) (ln : Nat → Nat) (dl : Nat → Nat → Int64) (dr : Nat → Nat → Option Nat) (D : Nat → Nat → Int32) (tk : Nat → Int32) (bg : Nat → Nat) (L W : Nat) (A : Int32) (r : Nat → Int32) (Q : Option Value → q_H → Prop) (R : t_R) : Prop :=
  (R.1 = 0 → Q none (n, sl, ln, t_lv D tk L W A r R.2.1 R.2.2, dl, dr)) ∧ (¬ R.1 = 0 → ∀ E, t_DD D (nI R.1) (nI (bg R.2.1)) E → Q none (n, sl, ln, E, dl, dr))
theorem t_bdI {x : Option t_R} {k : Nat → List (Nat × Nat) → Option t_R} {R1 R : t_R} (hx : x = some R1) (h : t_bd x k = some R) : (R1.1 = 0 ∧ k R1.2.1 R1.2.2 = some R) ∨ (¬ R1.1 = 0 ∧ R = (R1.1, R1.2.1, [])) := by
  by_cases h0 : R1.1 = 0
  · rw [t_bd_0 hx h0] at h; exact Or.inl ⟨h0, h⟩
  · rw [t_bd_1 hx h0] at h; exact Or.inr ⟨h0, (Option.some.inj h).symm⟩
section
variable {d n sl : Nat} {ln : Nat → Nat} {dl : Nat → Nat → Int64} {dr : Nat → Nat → Option Nat} {Q : Option Value → q_H → Prop} {tk : Nat → Int32} {bg : Nat → Nat} {L C : Nat} {D : Nat → Nat → Int32} {j W δ : Nat} {A ρ : Int32} {r : Nat → Int32}
theorem t_LV12 {x : Int32} : q_u (t_LV D tk j W A r) 39 12 x = t_LV D tk j W x r := by
  unfold t_LV
  rw [t_LV_u, t_39_12]
theorem c_nmX {nm : Nat} (hx : t_cx D tk bg L C) (hj : j < C) (hW : W < 300) (hnm : nm < 14) (hg : q_Gr n ln dr)
    (k1 : q_nmok L nm = true → Q none (n, sl, ln, t_lv D tk L W A r (j + 1) [(1, nm)], dl, dr))
    (k0 : q_nmok L nm = false → ∀ E, t_DD D 5 (nI (bg j)) E → Q none (n, sl, ln, E, dl, dr)) : q_EX q_KD (d + 1) 50 0 [.ref 39, .int (nI nm)] [] (n, sl, ln, t_LV D tk j W A r, dl, dr) Q := by
  have e11 : t_LV D tk j W A r 39 11 = nI L := hx.2.2.2.2.1
  have hL := hx.2.2.2.2.2.1
  have e3 : t_LV D tk j W A r 3 (t_LV D tk j W A r 39 11).toNatClampNeg = q_nol.getD L 0 := by
    rw [e11, nI_clamp (by omega)]; exact hx.2.2.2.2.2.2 L hL
  have hb := t_nmX L hL nm hnm
  have yes : ¬ ((q_nol.getD L 0 >>> (nI nm &&& 31)) &&& 1 = 0) → q_nmok L nm = true := fun z => by
    cases h : q_nmok L nm with
    | true => rfl
    | false => exact absurd (hb.mpr h) z
  have n5 : nI nm = 5 ↔ nm = 5 := nI_eq (b := 5) (by omega) (by decide)
  have n2 : nI nm = 2 ↔ nm = 2 := nI_eq (b := 2) (by omega) (by decide)
  have go : ∀ A', A' = (if L = 0 ∧ (1 : Nat) = 1 ∧ (nm = 2 ∨ nm = 5) then 1 else A) → q_nmok L nm = true → q_EX q_KD d 46 0 [.ref 39, .int (10000 + nI nm)] [] (n, sl, ln, t_LV D tk j W A' r, dl, dr) (fun r1 h1 => q_EX q_KD (d + 1) 50 52 [.ref 39, .retAddr 0] (r1.toList ++ []) h1 Q) := by
    intro A' hA z
    refine c_emit hW hg (g50_52 hg (c_adv hx hj hg (g50_56 hg ?_)))
    have := k1 z
    rw [show [(1, nm)] = [] ++ [(1, nm)] from rfl, t_lv_s, t_enN] at this
    rw [hA]
    exact this
  refine g50_0 hg (by rw [e11]; exact vp_in_nI hL (by decide)) (fun w1 w2 => ?_) (fun w1 w2 w3 => ?_) (fun w1 w2 w3 w4 => ?_) (fun w1 w2 w3 w4 => ?_) (fun w1 => ?_)
  all_goals rw [e3] at w1
  · refine go _ ?_ (yes w1)
    rw [if_neg (fun q => w2 (by rw [e11, q.1]; rfl))]
  · rw [t_LV12]
    refine go _ ?_ (yes w1)
    rw [if_pos ⟨(nI_eq (b := 0) (by omega) (by decide)).mp (e11.symm.trans w2), rfl, Or.inr (n5.mp w3)⟩]
  · refine go _ ?_ (yes w1)
    rw [if_neg (fun q => by rcases q.2.2 with y | y; exact w4 (n2.mpr y); exact w3 (n5.mpr y))]
  · rw [t_LV12]
    refine go _ ?_ (yes w1)
    rw [if_pos ⟨(nI_eq (b := 0) (by omega) (by decide)).mp (e11.symm.trans w2), rfl, Or.inl (n2.mp w4)⟩]
  · exact c_ref hx (by decide) (by omega) (by omega) hg (fun E h => g50_20 hg (k0 (hb.mp w1) E h))
/-- a chain: its first operand -/
theorem t_chE {dd : Nat} (hρ : ¬ -1 = ρ) {R1 : t_R} (hg : q_Gr n ln dr) (op : ∀ Q, t_ok n sl ln dl dr D tk bg L W A r Q R1 → q_EX q_KD dd 43 0 [.ref 39, .int ρ, .int (nI δ)] [] (n, sl, ln, t_LV D tk j W A r, dl, dr) Q)
    (lp : R1.1 = 0 → q_EX q_KD (dd + 1) 42 8 [.ref 39, .int ρ, .int (nI δ), .int (nI 0), .retAddr 0] [] (n, sl, ln, t_lv D tk L W A r R1.2.1 R1.2.2, dl, dr) Q)
    (de : ¬ R1.1 = 0 → ∀ E, t_DD D (nI R1.1) (nI (bg R1.2.1)) E → Q none (n, sl, ln, E, dl, dr)) : q_EX q_KD (dd + 1) 42 0 [.ref 39, .int ρ, .int (nI δ), .retAddr 0, .retAddr 0] [] (n, sl, ln, t_LV D tk j W A r, dl, dr) Q :=
  g42_0 hg (op _ ⟨fun h => g42_6 hg (nI_0 ▸ lp h), fun h E hE => g42_6 hg (c_chLD hρ hE hg (de h E hE))⟩)
/-- a chain ends -/
theorem t_ch0 {dd i : Nat} (hg : q_Gr n ln dr) (hr : ¬ t_rank (tk j) = ρ) (kk : Q none (n, sl, ln, t_LV D tk j W A r, dl, dr)) : q_EX q_KD (dd + 1) 42 8 [.ref 39, .int ρ, .int (nI δ), .int (nI i), .retAddr 0] [] (n, sl, ln, t_LV D tk j W A r, dl, dr) Q :=
  g42_8 hg (fun _ => kk) (fun _ => c_rank hg (g42_22 hg (fun _ => kk) (fun w => absurd w hr)))
/-- a chain goes on -/
theorem t_chS {dd i o : Nat} (hx : t_cx D tk bg L C) (hρ : ¬ -1 = ρ) {R1 : t_R} (hg : q_Gr n ln dr) (hr : t_rank (tk j) = ρ) (hj : j < C) (hi : i ≤ j) (ho : ¬ o = 1) (he : q_enc (nI o) (nI 0) = 20000 + tk j)
    (op : ∀ Q, t_ok n sl ln dl dr D tk bg L W A r Q R1 → q_EX q_KD dd 43 0 [.ref 39, .int ρ, .int (nI δ)] [] (n, sl, ln, t_LV D tk (j + 1) W A r, dl, dr) Q)
    (hW : R1.1 = 0 → W + R1.2.2.length < 300)
    (lp : R1.1 = 0 → q_EX q_KD (dd + 1) 42 8 [.ref 39, .int ρ, .int (nI δ), .int (nI (i + 1)), .retAddr 0] [] (n, sl, ln, t_lv D tk L W A r R1.2.1 (R1.2.2 ++ [(o, 0)]), dl, dr) Q)
    (de : ¬ R1.1 = 0 → ∀ E, t_DD D (nI R1.1) (nI (bg R1.2.1)) E → Q none (n, sl, ln, E, dl, dr)) : q_EX q_KD (dd + 1) 42 8 [.ref 39, .int ρ, .int (nI δ), .int (nI i), .retAddr 0] [] (n, sl, ln, t_LV D tk j W A r, dl, dr) Q := by
  have hC := hx.2.2.1
  refine g42_8 hg (fun w => absurd w (nI_ge (b := 300) (by omega) (by decide))) (fun _ => c_rank hg (g42_22 hg (fun w => absurd hr w) (fun _ => c_adv hx hj hg (g42_36 hg (op _ ⟨fun h => ?_, fun h E hE => ?_⟩)))))
  · refine g42_42 hg (c_emit (hW h) hg (g42_52 hg ?_))
    have := lp h
    rw [t_lv_o _ _ _ _ _ _ _ _ ho, he] at this
    rw [nI_1]
    exact this
  · exact g42_42 hg (c_emitD hE hg (fun E' hE' => g42_52 hg (c_chLD hρ hE' hg (de h E' hE'))))
end
