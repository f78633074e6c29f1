/-! THE CLASS READS as it is meant -/
def t_dp (m : Nat) : Nat := match m with
  | 0 => 0
  | 1 => 2
  | 2 => 2
  | 3 => 4
  | 4 => 4
  | 5 => 5
  | 6 => 7
  | 7 => 7
  | _ => 9
def t_ent (n sl : Nat) (ln : Nat → Nat) (dl : Nat → Nat → Int64) (dr : Nat → Nat → Option Nat) (D : Nat → Nat → Int32) (tk : Nat → Int32) (dd m δ j W : Nat) (A : Int32) (r : Nat → Int32) (Q : Option Value → q_H → Prop) : Prop := match m with
  | 0 => q_EX q_KD dd 48 0 [.ref 39, .int (nI δ)] [] (n, sl, ln, t_LV D tk j W A r, dl, dr) Q
  | 1 => q_EX q_KD dd 42 0 [.ref 39, .int 3, .int (nI δ), .retAddr 0, .retAddr 0] [] (n, sl, ln, t_LV D tk j W A r, dl, dr) Q
  | 2 => ∀ i, i ≤ j → q_EX q_KD dd 42 8 [.ref 39, .int 3, .int (nI δ), .int (nI i), .retAddr 0] [] (n, sl, ln, t_LV D tk j W A r, dl, dr) Q
  | 3 => q_EX q_KD dd 42 0 [.ref 39, .int 2, .int (nI δ), .retAddr 0, .retAddr 0] [] (n, sl, ln, t_LV D tk j W A r, dl, dr) Q
  | 4 => ∀ i, i ≤ j → q_EX q_KD dd 42 8 [.ref 39, .int 2, .int (nI δ), .int (nI i), .retAddr 0] [] (n, sl, ln, t_LV D tk j W A r, dl, dr) Q
  | 5 => q_EX q_KD dd 44 0 [.ref 39, .int (nI δ), .retAddr 0] [] (n, sl, ln, t_LV D tk j W A r, dl, dr) Q
  | 6 => q_EX q_KD dd 42 0 [.ref 39, .int 1, .int (nI δ), .retAddr 0, .retAddr 0] [] (n, sl, ln, t_LV D tk j W A r, dl, dr) Q
  | 7 => ∀ i, i ≤ j → q_EX q_KD dd 42 8 [.ref 39, .int 1, .int (nI δ), .int (nI i), .retAddr 0] [] (n, sl, ln, t_LV D tk j W A r, dl, dr) Q
  | 8 => q_EX q_KD dd 42 0 [.ref 39, .int 0, .int (nI δ), .retAddr 0, .retAddr 0] [] (n, sl, ln, t_LV D tk j W A r, dl, dr) Q
  | _ => ∀ i, i ≤ j → q_EX q_KD dd 42 8 [.ref 39, .int 0, .int (nI δ), .int (nI i), .retAddr 0] [] (n, sl, ln, t_LV D tk j W A r, dl, dr) Q
section
variable {n sl : Nat} {ln : Nat → Nat} {dl : Nat → Nat → Int64} {dr : Nat → Nat → Option Nat} {tk : Nat → Int32} {bg : Nat → Nat} {L C : Nat} {D : Nat → Nat → Int32}
/-- what is to be shown, for one fuel -/
def t_IH (n sl : Nat) (ln : Nat → Nat) (dl : Nat → Nat → Int64) (dr : Nat → Nat → Option Nat) (D : Nat → Nat → Int32) (tk : Nat → Int32) (bg : Nat → Nat) (L C f : Nat) : Prop :=
  ∀ (m δ j W dd : Nat) (A : Int32) (r : Nat → Int32) (R : t_R) (Q : Option Value → q_H → Prop), m ≤ 9 → j ≤ C → 10 * (C - j) + t_rk m + 1 ≤ f → δ ≤ 8 → W + (C - j) ≤ 300 → t_S tk L f m δ j = some R → t_ok n sl ln dl dr D tk bg L W A r Q R → t_dp m + 5 * (8 - δ) + 2 ≤ dd → t_ent n sl ln dl dr D tk dd m δ j W A r Q
/-- a chain of two modes: mA its operand, mB its rest -/
theorem t_chain {f δ j W dd : Nat} {A ρ : Int32} {r : Nat → Int32} {R : t_R} {Q : Option Value → q_H → Prop} {mA mB : Nat} (loA : t_lo mA = false) (hρ : ¬ -1 = ρ) (hC : tk C = 131) (hC2 : ∀ j, j < C → ¬ tk j = 131) (h3 : ∀ j, 300 ≤ tk j → ∃ v, v ≤ 10000 ∧ tk j = nI (300 + v)) (hg : q_Gr n ln dr)
    (hmA : mA ≤ 9) (hmB : mB ≤ 9) (hj : j ≤ C) (hfA : 10 * (C - j) + t_rk mA + 1 ≤ f) (rB : t_rk mB = 0) (hW : W + (C - j) ≤ 300)
    (hS : t_bd (t_S tk L f mA δ j) (fun j1 c1 => t_bd (t_S tk L f mB δ j1) (fun j2 c2 => some (0, j2, c1 ++ c2))) = some R) (hQ : t_ok n sl ln dl dr D tk bg L W A r Q R)
    (op : ∀ R1 Q, t_S tk L f mA δ j = some R1 → t_ok n sl ln dl dr D tk bg L W A r Q R1 → q_EX q_KD dd 43 0 [.ref 39, .int ρ, .int (nI δ)] [] (n, sl, ln, t_LV D tk j W A r, dl, dr) Q)
    (lp : ∀ (j1 W1 : Nat) (A1 : Int32) (r1 : Nat → Int32) (R2 : t_R), j1 ≤ C → j < j1 → W1 + (C - j1) ≤ 300 → t_S tk L f mB δ j1 = some R2 → t_ok n sl ln dl dr D tk bg L W1 A1 r1 Q R2 → q_EX q_KD (dd + 1) 42 8 [.ref 39, .int ρ, .int (nI δ), .int (nI 0), .retAddr 0] [] (n, sl, ln, t_LV D tk j1 W1 A1 r1, dl, dr) Q) :
    q_EX q_KD (dd + 1) 42 0 [.ref 39, .int ρ, .int (nI δ), .retAddr 0, .retAddr 0] [] (n, sl, ln, t_LV D tk j W A r, dl, dr) Q := by
  obtain ⟨R1, e1, g1⟩ := t_SG (L := L) hC hC2 h3 f mA δ j hmA hj hfA
  refine t_chE hρ hg (fun Q' h' => op R1 Q' e1 h') (fun h0 => ?_) (fun h0 E hE => ?_)
  · obtain ⟨a1, a2, a3, a4, a5, a6⟩ := g1.1 h0
    rcases t_bdI e1 hS with ⟨_, hk⟩ | ⟨z, _⟩
    · have a2' := a2 loA
      obtain ⟨R2, e2, g2⟩ := t_SG (L := L) hC hC2 h3 f mB δ R1.2.1 hmB a3 (by rw [rB]; omega)
      refine lp R1.2.1 _ _ _ R2 a3 a2' (by omega) e2 ?_
      rcases t_bdI e2 hk with ⟨z2, hk2⟩ | ⟨z2, hk2⟩
      · have eR := (Option.some.inj hk2).symm
        refine ⟨fun _ => ?_, fun z => absurd z2 z⟩
        rw [eR] at hQ
        have := hQ.1 rfl
        rw [t_lv_app] at this
        exact this
      · refine ⟨fun z => absurd z z2, fun _ E hE => ?_⟩
        rw [hk2] at hQ
        exact hQ.2 z2 E hE
    · exact absurd h0 z
  · rcases t_bdI e1 hS with ⟨z, _⟩ | ⟨_, hk⟩
    · exact absurd z h0
    · rw [hk] at hQ; exact hQ.2 h0 E hE
/-- its rest, where it goes on -/
theorem t_rest {f δ j W dd i o : Nat} {A ρ : Int32} {r : Nat → Int32} {R : t_R} {Q : Option Value → q_H → Prop} {mA mB : Nat} (hx : t_cx D tk bg L C) (loA : t_lo mA = false) (hρ : ¬ -1 = ρ) (hC : tk C = 131) (hC2 : ∀ j, j < C → ¬ tk j = 131) (h3 : ∀ j, 300 ≤ tk j → ∃ v, v ≤ 10000 ∧ tk j = nI (300 + v)) (hg : q_Gr n ln dr)
    (hmA : mA ≤ 9) (hmB : mB ≤ 9) (hj : j < C) (hi : i ≤ j) (hfA : 10 * (C - (j + 1)) + t_rk mA + 1 ≤ f) (rB : t_rk mB = 0) (hW : W + (C - j) ≤ 300) (hr : t_rank (tk j) = ρ) (ho : ¬ o = 1) (he : q_enc (nI o) (nI 0) = 20000 + tk j)
    (hS : t_bd (t_S tk L f mA δ (j + 1)) (fun j1 c1 => t_bd (t_S tk L f mB δ j1) (fun j2 c2 => some (0, j2, c1 ++ (o, 0) :: c2))) = some R) (hQ : t_ok n sl ln dl dr D tk bg L W A r Q R)
    (op : ∀ R1 Q, t_S tk L f mA δ (j + 1) = some R1 → t_ok n sl ln dl dr D tk bg L W A r Q R1 → q_EX q_KD dd 43 0 [.ref 39, .int ρ, .int (nI δ)] [] (n, sl, ln, t_LV D tk (j + 1) W A r, dl, dr) Q)
    (lp : ∀ (j1 W1 : Nat) (A1 : Int32) (r1 : Nat → Int32) (R2 : t_R), j1 ≤ C → j + 1 < j1 → W1 + (C - j1) ≤ 300 → t_S tk L f mB δ j1 = some R2 → t_ok n sl ln dl dr D tk bg L W1 A1 r1 Q R2 → q_EX q_KD (dd + 1) 42 8 [.ref 39, .int ρ, .int (nI δ), .int (nI (i + 1)), .retAddr 0] [] (n, sl, ln, t_LV D tk j1 W1 A1 r1, dl, dr) Q) :
    q_EX q_KD (dd + 1) 42 8 [.ref 39, .int ρ, .int (nI δ), .int (nI i), .retAddr 0] [] (n, sl, ln, t_LV D tk j W A r, dl, dr) Q := by
  obtain ⟨R1, e1, g1⟩ := t_SG (L := L) hC hC2 h3 f mA δ (j + 1) hmA (by omega) hfA
  refine t_chS hx hρ hg hr hj hi ho he (fun Q' h' => op R1 Q' e1 h') (fun h0 => ?_) (fun h0 => ?_) (fun h0 E hE => ?_)
  · obtain ⟨a1, a2, a3, a4, a5, a6⟩ := g1.1 h0
    have := a2 loA
    omega
  · obtain ⟨a1, a2, a3, a4, a5, a6⟩ := g1.1 h0
    rcases t_bdI e1 hS with ⟨_, hk⟩ | ⟨z, _⟩
    · have a2' := a2 loA
      obtain ⟨R2, e2, g2⟩ := t_SG (L := L) hC hC2 h3 f mB δ R1.2.1 hmB a3 (by rw [rB]; omega)
      refine lp R1.2.1 _ _ _ R2 a3 a2' (by rw [List.length_append]; show W + (R1.2.2.length + 1) + (C - R1.2.1) ≤ 300; omega) e2 ?_
      rcases t_bdI e2 hk with ⟨z2, hk2⟩ | ⟨z2, hk2⟩
      · have eR := (Option.some.inj hk2).symm
        refine ⟨fun _ => ?_, fun z => absurd z2 z⟩
        rw [eR] at hQ
        have := hQ.1 rfl
        rw [show R1.2.2 ++ (o, 0) :: R2.2.2 = (R1.2.2 ++ [(o, 0)]) ++ R2.2.2 by rw [List.append_assoc]; rfl, t_lv_app] at this
        exact this
      · refine ⟨fun z => absurd z z2, fun _ E hE => ?_⟩
        rw [hk2] at hQ
        exact hQ.2 z2 E hE
    · exact absurd h0 z
  · rcases t_bdI e1 hS with ⟨z, _⟩ | ⟨_, hk⟩
    · exact absurd z h0
    · rw [hk] at hQ; exact hQ.2 h0 E hE
end
