section
variable {n sl : Nat} {ln : Nat → Nat} {dl : Nat → Nat → Int64} {dr : Nat → Nat → Option Nat} {tk : Nat → Int32} {bg : Nat → Nat} {L C : Nat} {D : Nat → Nat → Int32} {f δ j W dd : Nat} {A : Int32} {r : Nat → Int32} {R : t_R} {Q : Option Value → q_H → Prop}
theorem t_neC (hC : tk C = 131) (h1 : j ≤ C) (h2 : ¬ tk j = 131) : j < C := by
  rcases Nat.lt_or_ge j C with y | y
  · exact y
  · exact absurd (by rw [show j = C by omega]; exact hC) h2
/-- one -/
theorem t_m0 (ih : t_IH n sl ln dl dr D tk bg L C f) (hx : t_cx D tk bg L C) (hC : tk C = 131) (hC2 : ∀ j, j < C → ¬ tk j = 131) (h3 : ∀ j, 300 ≤ tk j → ∃ v, v ≤ 10000 ∧ tk j = nI (300 + v)) (htk : ∀ j, ∃ v, v ≤ 10300 ∧ tk j = nI v) (hg : q_Gr n ln dr)
    (hj : j ≤ C) (hf : 10 * (C - j) + 1 ≤ f + 1) (hδ : δ ≤ 8) (hW : W + (C - j) ≤ 300) (hS : t_S tk L (f + 1) 0 δ j = some R) (hQ : t_ok n sl ln dl dr D tk bg L W A r Q R) (hdd : 5 * (8 - δ) + 2 ≤ dd) : q_EX q_KD dd 48 0 [.ref 39, .int (nI δ)] [] (n, sl, ln, t_LV D tk j W A r, dl, dr) Q := by
  obtain ⟨e, rfl⟩ : ∃ e, dd = e + 2 := ⟨dd - 2, by omega⟩
  have hCl := hx.2.2.1
  have e8 : t_LV D tk j W A r 39 8 = tk j := rfl
  unfold t_S at hS
  change (if 300 ≤ tk j then _ else _) = some R at hS
  by_cases z1 : 300 ≤ tk j
  · rw [if_pos z1] at hS
    have hjC : j < C := t_neC hC hj (fun q => by rw [q] at z1; exact absurd z1 (by decide))
    have nz : ¬ t_LV D tk j W A r 39 8 < 300 := q_not_lt z1
    refine g48_0 hg (fun w => absurd w nz) (fun w => absurd w nz) (fun w => absurd w nz) (fun w => absurd w nz) (fun w => absurd w nz) (fun w => absurd w nz) (fun w => absurd w nz) (fun _ => ?_)
    refine c_numTo (M := 9999) hx h3 htk (by decide) hj hC (by omega) hg (fun u u1 u2 => ?_) (fun u u1 u2 u3 E hE => ?_) (fun w => absurd z1 w)
    · have z2 : ¬ tk j = 10300 := fun q => by
        rw [u2] at q
        have := (nI_eq (b := 10300) (by omega) (by decide)).mp q
        omega
      rw [if_neg z2] at hS
      have eu : (tk j).toNatClampNeg - 300 = u := by rw [u2, nI_clamp (by omega)]; omega
      rw [eu] at hS
      have eR := (Option.some.inj hS).symm
      subst eR
      refine g48_18 hg (c_emit (by omega) hg (g48_21 hg ?_))
      have : Q none (n, sl, ln, t_lv D tk L W A r (j + 1) ([] ++ [(0, u)]), dl, dr) := hQ.1 rfl
      rw [t_lv_o _ _ _ _ _ _ _ _ (by decide), t_en0] at this
      exact this
    · have z2 : tk j = 10300 := by rw [u3, show u = 10000 by omega]; rfl
      rw [if_pos z2] at hS
      have eR := (Option.some.inj hS).symm
      subst eR
      exact g48_18 hg (c_emitD hE hg (fun E' h' => g48_21 hg (hQ.2 (Nat.succ_ne_zero _) E' h')))
  · rw [if_neg z1] at hS
    have nz : ¬ (300 : Int32) ≤ t_LV D tk j W A r 39 8 := z1
    by_cases z2 : 200 ≤ tk j ∧ tk j < 214
    · rw [if_pos z2] at hS
      obtain ⟨u, u1, u2⟩ := htk j
      have a1 : 200 ≤ u := by
        have := z2.1
        rw [u2] at this
        exact (nI_leI (a := 200) (by decide) (by omega)).mp this
      have a2 : u < 214 := by
        have := z2.2
        rw [u2] at this
        exact (nI_ltI (b := 214) (by omega) (by decide)).mp this
      have hjC : j < C := t_neC hC hj (fun q => by rw [q] at z2; exact absurd z2 (by decide))
      have ev : (tk j).toNatClampNeg - 200 = u - 200 := by rw [u2, nI_clamp (by omega)]
      rw [ev] at hS
      have es : t_LV D tk j W A r 39 8 - 200 = nI (u - 200) := by
        rw [e8, u2]
        obtain ⟨w, rfl⟩ : ∃ w, u = w + 200 := ⟨u - 200, by omega⟩
        rw [← nI_add, show (200 : Int32) = nI 200 from rfl, Int32.add_sub_cancel, Nat.add_sub_cancel]
      have y2 : ¬ t_LV D tk j W A r 39 8 < 200 := q_not_lt z2.1
      have y3 : ¬ (214 : Int32) ≤ t_LV D tk j W A r 39 8 := Int32.not_le.mpr z2.2
      refine g48_0 hg (fun _ w => absurd w y2) (fun _ w => absurd w y2) (fun _ w => absurd w y2) (fun _ _ w => absurd w y3) (fun _ _ w => absurd w y3) (fun _ _ w => absurd w y3) (fun _ _ _ => ?_) (fun w => absurd w nz)
      rw [es]
      refine c_nmX hx hjC (by omega) (by omega) hg (fun y => g48_56 hg ?_) (fun y E hE => g48_56 hg ?_)
      · rw [if_pos y] at hS
        have eR := (Option.some.inj hS).symm
        subst eR
        exact hQ.1 rfl
      · rw [if_neg (by rw [y]; decide)] at hS
        have eR := (Option.some.inj hS).symm
        subst eR
        exact hQ.2 (Nat.succ_ne_zero _) E hE
    · rw [if_neg z2] at hS
      by_cases z4 : tk j = 40
      · rw [if_pos z4] at hS
        have hjC : j < C := t_neC hC hj (by rw [z4]; decide)
        have par : q_EX q_KD (e + 1) 45 0 [.ref 39, .int (nI δ)] [] (n, sl, ln, t_LV D tk j W A r, dl, dr) (fun r1 h1 => q_EX q_KD (e + 1 + 1) 48 73 [.ref 39, .int (nI δ)] (r1.toList ++ []) h1 Q) := by
          refine c_opn hx hδ hjC (by omega) hg (fun h8 => g48_73 hg (fun w => absurd w (by decide)) (fun _ => ?_)) (fun h8 E hE => g48_73 hg (fun _ => ?_) (fun w => absurd rfl w))
          · rw [if_neg (by omega)] at hS
            rw [nI_1]
            obtain ⟨R1, s1, g1⟩ := t_SG (L := L) hC hC2 h3 f 3 (δ + 1) (j + 1) (by decide) (by omega) (by show 10 * (C - (j + 1)) + 2 + 1 ≤ f; omega)
            refine ih 3 (δ + 1) (j + 1) W (e + 1) A r R1 _ (by decide) (by omega) (by show 10 * (C - (j + 1)) + 2 + 1 ≤ f; omega) (by omega) (by omega) s1 ⟨fun h0 => ?_, fun h0 E hE => ?_⟩ (by show 4 + 5 * (8 - (δ + 1)) + 2 ≤ e + 1; omega)
            · obtain ⟨a1, a2, a3, a4, a5, a6⟩ := g1.1 h0
              rcases t_bdI s1 hS with ⟨_, hk⟩ | ⟨z, _⟩
              · replace hk : (if tk R1.2.1 = 41 then some (0, R1.2.1 + 1, R1.2.2) else some (1, R1.2.1, [])) = some R := hk
                refine g48_84 hg (c_exp hx a3 (by omega) (fun q => t_neC hC a3 (by rw [q]; decide)) hg (fun q => g48_90 hg ?_) (fun q E hE => g48_90 hg ?_))
                · rw [if_pos q] at hk
                  have eR := (Option.some.inj hk).symm
                  subst eR
                  exact hQ.1 rfl
                · rw [if_neg q] at hk
                  have eR := (Option.some.inj hk).symm
                  subst eR
                  exact hQ.2 (Nat.succ_ne_zero _) E hE
              · exact absurd h0 z
            · rcases t_bdI s1 hS with ⟨z, _⟩ | ⟨_, hk⟩
              · exact absurd z h0
              · subst hk
                exact g48_84 hg (c_expD hE (by decide) hg (fun E' hE' => g48_90 hg (hQ.2 h0 E' hE')))
          · rw [if_pos h8] at hS
            have eR := (Option.some.inj hS).symm
            subst eR
            exact hQ.2 (Nat.succ_ne_zero _) E hE
        have n45 : ¬ t_LV D tk j W A r 39 8 = 45 := by rw [e8, z4]; decide
        have y40 : t_LV D tk j W A r 39 8 = 40 := z4
        exact g48_0 hg (fun _ _ w => absurd y40 w) (fun _ _ w => absurd y40 w) (fun _ _ _ => par) (fun _ _ _ w => absurd y40 w) (fun _ _ _ w => absurd y40 w) (fun _ _ _ _ => par) (fun _ w1 w2 => absurd ⟨w1, w2⟩ z2) (fun w => absurd w nz)
      · rw [if_neg z4] at hS
        have n40 : ¬ t_LV D tk j W A r 39 8 = 40 := z4
        by_cases z6 : tk j = 45
        · rw [if_pos z6] at hS
          have hjC : j < C := t_neC hC hj (by rw [z6]; decide)
          have neg : q_EX q_KD (e + 1) 45 0 [.ref 39, .int (nI δ)] [] (n, sl, ln, t_LV D tk j W A r, dl, dr) (fun r1 h1 => q_EX q_KD (e + 1 + 1) 48 107 [.ref 39, .int (nI δ)] (r1.toList ++ []) h1 Q) := by
            refine c_opn hx hδ hjC (by omega) hg (fun h8 => g48_107 hg (fun w => absurd w (by decide)) (fun _ => ?_)) (fun h8 E hE => g48_107 hg (fun _ => ?_) (fun w => absurd rfl w))
            · rw [if_neg (by omega)] at hS
              rw [nI_1]
              obtain ⟨R1, s1, g1⟩ := t_SG (L := L) hC hC2 h3 f 0 (δ + 1) (j + 1) (by decide) (by omega) (by show 10 * (C - (j + 1)) + 0 + 1 ≤ f; omega)
              refine ih 0 (δ + 1) (j + 1) W (e + 1) A r R1 _ (by decide) (by omega) (by show 10 * (C - (j + 1)) + 0 + 1 ≤ f; omega) (by omega) (by omega) s1 ⟨fun h0 => ?_, fun h0 E hE => ?_⟩ (by show 0 + 5 * (8 - (δ + 1)) + 2 ≤ e + 1; omega)
              · obtain ⟨a1, a2, a3, a4, a5, a6⟩ := g1.1 h0
                rcases t_bdI s1 hS with ⟨_, hk⟩ | ⟨z, _⟩
                · have eR := (Option.some.inj hk).symm
                  subst eR
                  refine g48_117 hg (c_emit (by omega) hg (g48_124 hg ?_))
                  have : Q none (n, sl, ln, t_lv D tk L W A r R1.2.1 (R1.2.2 ++ [(2, 0)]), dl, dr) := hQ.1 rfl
                  rw [t_lv_o _ _ _ _ _ _ _ _ (by decide)] at this
                  exact this
                · exact absurd h0 z
              · rcases t_bdI s1 hS with ⟨z, _⟩ | ⟨_, hk⟩
                · exact absurd z h0
                · subst hk
                  exact g48_117 hg (c_emitD hE hg (fun E' hE' => g48_124 hg (hQ.2 h0 E' hE')))
            · rw [if_pos h8] at hS
              have eR := (Option.some.inj hS).symm
              subst eR
              exact hQ.2 (Nat.succ_ne_zero _) E hE
          have y45 : t_LV D tk j W A r 39 8 = 45 := z6
          exact g48_0 hg (fun _ _ _ w => absurd y45 w) (fun _ _ _ _ => neg) (fun _ _ w => absurd w n40) (fun _ _ _ _ w => absurd y45 w) (fun _ _ _ _ _ => neg) (fun _ _ _ w => absurd w n40) (fun _ w1 w2 => absurd ⟨w1, w2⟩ z2) (fun w => absurd w nz)
        · rw [if_neg z6] at hS
          have eR := (Option.some.inj hS).symm
          subst eR
          have n45 : ¬ t_LV D tk j W A r 39 8 = 45 := z6
          have rf : q_EX q_KD (e + 1) 40 0 [.ref 39, .int 1] [] (n, sl, ln, t_LV D tk j W A r, dl, dr) (fun r1 h1 => q_EX q_KD (e + 1 + 1) 48 132 [.retAddr 0, .retAddr 0] (r1.toList ++ []) h1 Q) := c_ref hx (by decide) hj (by omega) hg (fun E hE => g48_132 hg (hQ.2 (Nat.succ_ne_zero _) E hE))
          exact g48_0 hg (fun _ _ _ _ => rf) (fun _ _ _ w => absurd w n45) (fun _ _ w => absurd w n40) (fun _ _ _ _ _ => rf) (fun _ _ _ _ w => absurd w n45) (fun _ _ _ w => absurd w n40) (fun _ w1 w2 => absurd ⟨w1, w2⟩ z2) (fun w => absurd w nz)
/-- an asking -/
theorem t_m5 (ih : t_IH n sl ln dl dr D tk bg L C f) (hx : t_cx D tk bg L C) (hC : tk C = 131) (hC2 : ∀ j, j < C → ¬ tk j = 131) (h3 : ∀ j, 300 ≤ tk j → ∃ v, v ≤ 10000 ∧ tk j = nI (300 + v)) (hg : q_Gr n ln dr)
    (hj : j ≤ C) (hf : 10 * (C - j) + 3 + 1 ≤ f + 1) (hδ : δ ≤ 8) (hW : W + (C - j) ≤ 300) (hS : t_S tk L (f + 1) 5 δ j = some R) (hQ : t_ok n sl ln dl dr D tk bg L W A r Q R) (hdd : 5 + 5 * (8 - δ) + 2 ≤ dd) : q_EX q_KD dd 44 0 [.ref 39, .int (nI δ), .retAddr 0] [] (n, sl, ln, t_LV D tk j W A r, dl, dr) Q := by
  obtain ⟨e, rfl⟩ : ∃ e, dd = e + 2 := ⟨dd - 2, by omega⟩
  have hCl := hx.2.2.1
  unfold t_S at hS
  change (if tk j = 224 then _ else _) = some R at hS
  by_cases z : tk j = 224
  · rw [if_pos z] at hS
    have hjC : j < C := t_neC hC hj (by rw [z]; decide)
    refine g44_0 hg (fun w => absurd z w) (fun _ => c_opn hx hδ hjC (by omega) hg (fun h8 => g44_15 hg (fun w => absurd w (by decide)) (fun _ => ?_)) (fun h8 E hE => g44_15 hg (fun _ => ?_) (fun w => absurd rfl w)))
    · rw [if_neg (by omega)] at hS
      rw [nI_1]
      obtain ⟨R1, s1, g1⟩ := t_SG (L := L) hC hC2 h3 f 5 (δ + 1) (j + 1) (by decide) (by omega) (by show 10 * (C - (j + 1)) + 3 + 1 ≤ f; omega)
      refine ih 5 (δ + 1) (j + 1) W (e + 1) A r R1 _ (by decide) (by omega) (by show 10 * (C - (j + 1)) + 3 + 1 ≤ f; omega) (by omega) (by omega) s1 ⟨fun h0 => ?_, fun h0 E hE => ?_⟩ (by show 5 + 5 * (8 - (δ + 1)) + 2 ≤ e + 1; omega)
      · obtain ⟨a1, a2, a3, a4, a5, a6⟩ := g1.1 h0
        rcases t_bdI s1 hS with ⟨_, hk⟩ | ⟨z, _⟩
        · have eR := (Option.some.inj hk).symm
          subst eR
          refine g44_25 hg (c_emit (by omega) hg (g44_32 hg ?_))
          have : Q none (n, sl, ln, t_lv D tk L W A r R1.2.1 (R1.2.2 ++ [(20, 0)]), dl, dr) := hQ.1 rfl
          rw [t_lv_o _ _ _ _ _ _ _ _ (by decide)] at this
          exact this
        · exact absurd h0 z
      · rcases t_bdI s1 hS with ⟨z, _⟩ | ⟨_, hk⟩
        · exact absurd z h0
        · subst hk
          exact g44_25 hg (c_emitD hE hg (fun E' hE' => g44_32 hg (hQ.2 h0 E' hE')))
    · rw [if_pos h8] at hS
      have eR := (Option.some.inj hS).symm
      subst eR
      exact hQ.2 (Nat.succ_ne_zero _) E hE
  · rw [if_neg z] at hS
    obtain ⟨R1, s1, g1⟩ := t_SG (L := L) hC hC2 h3 f 3 δ j (by decide) hj (by show 10 * (C - j) + 2 + 1 ≤ f; omega)
    refine g44_0 hg (fun _ => ?_) (fun w => absurd w z)
    refine ih 3 δ j W (e + 1) A r R1 _ (by decide) hj (by show 10 * (C - j) + 2 + 1 ≤ f; omega) hδ hW s1 ⟨fun h0 => ?_, fun h0 E hE => ?_⟩ (by show 4 + 5 * (8 - δ) + 2 ≤ e + 1; omega)
    · obtain ⟨a1, a2, a3, a4, a5, a6⟩ := g1.1 h0
      have a2' := a2 rfl
      rcases t_bdI s1 hS with ⟨_, hk⟩ | ⟨z, _⟩
      · replace hk : (if t_rc (tk R1.2.1) < 0 then some (1, R1.2.1, []) else t_bd (t_S tk L f 3 δ (R1.2.1 + 1)) (fun j2 c2 => some (0, j2, R1.2.2 ++ (c2 ++ [((t_rc (tk R1.2.1)).toNatClampNeg, 0)])))) = some R := hk
        refine g44_39 hg (c_isRel hg (fun w => ?_) (fun w => ?_))
        · rw [if_neg (show ¬ t_rc (tk R1.2.1) < 0 from w)] at hk
          obtain ⟨v, v1, v2, v3⟩ := t_rc_v _ (show ¬ t_rc (tk R1.2.1) < 0 from w)
          have ev : (t_rc (tk R1.2.1)).toNatClampNeg = v := by rw [v3, nI_clamp (by omega)]
          have he := t_enR _ (show ¬ t_rc (tk R1.2.1) < 0 from w)
          rw [ev] at hk he
          have hrC : R1.2.1 < C := t_neC hC a3 (fun q => absurd (show t_rc 131 < 0 by decide) (by rw [← q]; exact w))
          refine g44_48 hg (fun w => absurd w (by decide)) (fun _ => c_adv hx hrC hg (g44_55 hg ?_))
          obtain ⟨R2, s2, g2⟩ := t_SG (L := L) hC hC2 h3 f 3 δ (R1.2.1 + 1) (by decide) (by omega) (by show 10 * (C - (R1.2.1 + 1)) + 2 + 1 ≤ f; omega)
          refine ih 3 δ (R1.2.1 + 1) _ (e + 1) _ _ R2 _ (by decide) (by omega) (by show 10 * (C - (R1.2.1 + 1)) + 2 + 1 ≤ f; omega) hδ (by omega) s2 ⟨fun g0 => ?_, fun g0 E hE => ?_⟩ (by show 4 + 5 * (8 - δ) + 2 ≤ e + 1; omega)
          · obtain ⟨b1, b2, b3, b4, b5, b6⟩ := g2.1 g0
            rcases t_bdI s2 hk with ⟨_, hk⟩ | ⟨z, _⟩
            · have eR := (Option.some.inj hk).symm
              subst eR
              refine g44_61 hg (c_emit (by omega) hg (g44_70 hg ?_))
              have : Q none (n, sl, ln, t_lv D tk L W A r R2.2.1 (R1.2.2 ++ (R2.2.2 ++ [(v, 0)])), dl, dr) := hQ.1 rfl
              rw [t_lv_app, t_lv_o _ _ _ _ _ _ _ _ (by omega), he] at this
              exact this
            · exact absurd g0 z
          · rcases t_bdI s2 hk with ⟨z, _⟩ | ⟨_, hk⟩
            · exact absurd z g0
            · subst hk
              exact g44_61 hg (c_emitD hE hg (fun E' hE' => g44_70 hg (hQ.2 g0 E' hE')))
        · rw [if_pos (show t_rc (tk R1.2.1) < 0 from w)] at hk
          have eR := (Option.some.inj hk).symm
          subst eR
          exact g44_48 hg (fun _ => c_ref hx (by decide) a3 (by omega) hg (fun E hE => g44_78 hg (hQ.2 (Nat.succ_ne_zero _) E hE))) (fun w => absurd rfl w)
      · exact absurd h0 z
    · rcases t_bdI s1 hS with ⟨z, _⟩ | ⟨_, hk⟩
      · exact absurd z h0
      · subst hk
        refine g44_39 hg (c_isRel hg (fun w => ?_) (fun _ => g44_48 hg (fun _ => c_refD hE hg (fun E2 h2 => g44_78 hg (hQ.2 h0 E2 h2))) (fun w => absurd rfl w)))
        rw [hE.2.2.2.2.1] at w
        exact absurd (show t_rc 131 < 0 by decide) w
end
