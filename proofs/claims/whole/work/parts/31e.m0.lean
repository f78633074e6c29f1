section
variable {n sl : Nat} {ln : Nat → Nat} {dr : Nat → Nat → Option Nat} {Q : Option Value → q_H → Prop} {D0 : Nat → Nat → Int32} {N T L C e f : Nat} {bt : Nat → Int32}
/-- one: a number, a name, or what opens -/
theorem t_M0s (hx : t_mx D0 N bt T L) (hg : q_Gr n ln dr) (hC : t_tc N bt C = 131) (hC2 : ∀ j, j < C → ¬ t_tc N bt j = 131) (h3 : ∀ j, 300 ≤ t_tc N bt j → ∃ v, v ≤ 10000 ∧ t_tc N bt j = nI (300 + v))
    (i0 : t_M0 D0 N bt T L C (t_LH e n sl ln dr Q) (t_FC n sl ln dr Q D0 N bt T) f) (i3 : t_M3 D0 N bt T L C (t_LH e n sl ln dr Q) (t_FC n sl ln dr Q D0 N bt T) f) : t_M0 D0 N bt T L C (t_LH e n sl ln dr Q) (t_FC n sl ln dr Q D0 N bt T) (f + 1) := by
  intro b k j S cs D dl R hj hf hδ hS ht hc hSf hM hF kk
  have hM0 := hM
  obtain ⟨h1, h2, h4, h5, h6, h7, h8, h9⟩ := hM
  obtain ⟨s60, s62, s61, s35, s43, s45, s42, s47, s40, s41, s59, s4, s5, s0⟩ := t_sgq h2
  have hlen : (List.replicate k 2 ++ S).length = k + S.length := by rw [List.length_append, List.length_replicate]
  have pl : D 67 8 = nI (t_bg N bt j) := h2.2.1
  have ret0 : ∀ D' dl', t_LH e n sl ln dr Q D' dl' → q_EX q_KD (e + 4 + 1) 140 42 [.ref 67, .retAddr 0] ((some (Value.int 0)).toList ++ []) (n, sl, ln, D', dl', dr) Q := fun D' dl' h => g140_42 hg (fun _ => h) (fun w => absurd rfl w)
  have retf : ∀ (fl : Nat), 1 ≤ fl → fl ≤ 6 → t_FC n sl ln dr Q D0 N bt T fl j → q_EX q_KD (e + 4 + 1) 140 42 [.ref 67, .retAddr 0] ((some (Value.int (nI fl))).toList ++ []) (n, sl, ln, D, dl, dr) Q := fun fl a1 a2 h => g140_42 hg (fun w => absurd w (nI_ne0 (by omega) (by omega))) (fun _ => h D dl h1 pl)
  unfold t_S at hSf
  change (if 300 ≤ t_tc N bt j then _ else _) = some R at hSf
  refine g140_10 hg (fun _ _ => ?_) (fun w w' => absurd w w') (fun w => absurd h7 w)
  have d4 : D 67 4 = nI N := by rw [h1.2.1 4 (by decide) (by decide) (by decide) (by decide) (by decide) (by decide) (by decide) (by decide)]; exact hx.2.2.1
  have d20 : D 67 20 = nI L := by rw [h1.2.1 20 (by decide) (by decide) (by decide) (by decide) (by decide) (by decide) (by decide) (by decide)]; exact hx.2.2.2.2.2.2.1
  have d71 : ∀ i, i < N → D 71 i = bt i := by rw [h1.1 71 (by decide) (by decide) (by decide)]; exact hx.2.2.2.1
  rcases t_num h2 with ⟨m, m1, m2, m3, m4⟩ | ⟨m, m1, m2, m3, m4, m5⟩ | ⟨m1, m2⟩
  · have z1 : 300 ≤ t_tc N bt j := by rw [m2]; exact (nI_leI (a := 300) (by decide) (by omega)).mpr (by omega)
    have hjC : j < C := t_neC hC hj (fun q => by rw [q] at z1; exact absurd z1 (by decide))
    rw [if_pos z1, if_neg (fun q => by rw [m2] at q; have := (nI_eq (b := 10300) (by omega) (by decide)).mp q; omega), m2, nI_clamp (by omega), Nat.add_sub_cancel_left] at hSf
    have eR := (Option.some.inj hSf).symm
    subst eR
    refine g148_0 hg (fun w => absurd m3 w) (fun _ _ => ?_) (fun _ w => ?_)
    · rw [m4]
      refine c_emM (o := 0) (v := m) hx hM0 (by omega) hg (fun D1 g1 => g148_29 hg (c_nxM hx g1 hg (fun D2 dl2 g2 => g148_33 hg (c_whM hx hg ht g2 ?_ (by omega) (fun D3 g3 => g148_37 hg (ret0 D3 dl2 (kk rfl D3 dl2 ?_)))))))
      · rw [List.length_append]; show cs.length + 1 + k ≤ 300; omega
      · rw [List.append_assoc] at g3
        exact g3
    · rw [m4] at w
      exact absurd ((nI_ltI (a := 9999) (by decide) (by omega)).mp w) (by omega)
  · have z1 : 300 ≤ t_tc N bt j := by rw [m3]; decide
    rw [if_pos z1, if_pos (show t_tc N bt j = 10300 from m3)] at hSf
    have eR := (Option.some.inj hSf).symm
    subst eR
    refine g148_0 hg (fun w => absurd m4 w) (fun _ w => ?_) (fun _ _ => retf 2 (by decide) (by decide) (hF (Nat.succ_ne_zero _)))
    rw [m5] at w
    exact absurd ((nI_leI (b := 9999) (by omega) (by decide)).mp w) (by omega)
  · have z1 : ¬ 300 ≤ t_tc N bt j := Int32.not_le.mpr m1
    rw [if_neg z1] at hSf
    refine g148_0 hg (fun _ => ?_) (fun w => absurd w m2) (fun w => absurd w m2)
    refine c_nameM hx.1 d4 d71 h2 hg (fun nm a1 a2 => ?_) (fun a1 => ?_)
    · -- a name
      have z2 : 200 ≤ t_tc N bt j ∧ t_tc N bt j < 214 := ⟨by rw [a2]; exact (nI_leI (a := 200) (by decide) (by omega)).mpr (by omega), by rw [a2]; exact (nI_ltI (b := 214) (by omega) (by decide)).mpr (by omega)⟩
      have hjC : j < C := t_neC hC hj (fun q => by rw [q] at z2; exact absurd z2 (by decide))
      rw [if_pos z2, a2, nI_clamp (by omega), Nat.add_sub_cancel_left] at hSf
      have z4 : ¬ nI nm < 0 := nI_pos (by omega)
      refine g148_43 hg (fun w => absurd w z4) (fun w => absurd w z4) (fun w => absurd w z4) (fun w => absurd w z4) (fun w => absurd w z4) (fun w => absurd w z4) (fun w => absurd w z4) (fun w => absurd w z4) (fun w => absurd w z4) (fun _ => ?_)
      have same : ∀ nm', nm' < 14 → t_tc N bt j = nI (200 + nm') → nm' = nm := fun nm' b1 b2 => by
        rw [a2] at b2
        have := (nI_eq (by omega) (by omega)).mp b2
        omega
      refine c_nameM hx.1 d4 d71 h2 hg (fun nm' b1 b2 => ?_) (fun b1 => absurd a2 (b1 nm a1))
      obtain rfl := same nm' b1 b2
      refine g148_51 hg (c_bar hx.2.2.2.2.2.2.2 b1 d20 hg (fun y => ?_) (fun y => ?_))
      · rw [if_neg (by rw [y]; decide)] at hSf
        have eR := (Option.some.inj hSf).symm
        subst eR
        exact g148_54 hg (fun w => absurd w (by decide)) (fun _ => retf 5 (by decide) (by decide) (hF (Nat.succ_ne_zero _)))
      · rw [if_pos y] at hSf
        have eR := (Option.some.inj hSf).symm
        subst eR
        refine g148_54 hg (fun _ => ?_) (fun w => absurd rfl w)
        refine c_nameM hx.1 d4 d71 h2 hg (fun nm2 c1 c2 => ?_) (fun b1 => absurd a2 (b1 nm' a1))
        obtain rfl := same nm2 c1 c2
        refine g148_65 hg (c_emM (o := 1) (v := nm2) hx hM0 (by omega) hg (fun D1 g1 => g148_68 hg (c_nxM hx g1 hg (fun D2 dl2 g2 => g148_72 hg (c_whM hx hg ht g2 ?_ (by omega) (fun D3 g3 => g148_76 hg (ret0 D3 dl2 (kk rfl D3 dl2 ?_))))))))
        · rw [List.length_append]; show cs.length + 1 + k ≤ 300; omega
        · rw [List.append_assoc] at g3
          exact g3
    · have z2 : ¬ (200 ≤ t_tc N bt j ∧ t_tc N bt j < 214) := fun q => by
        obtain ⟨v, v1, v2⟩ := nI_of2 (x := t_tc N bt j) (M := 213) (n := 213) rfl (q_not_lt (by
          have := (fa_le _ _).mp q.1
          rw [show (200 : Int32).toInt = 200 by decide] at this
          rw [fa_le, show (0 : Int32).toInt = 0 by decide]; omega)) (by
          have := (fa_lt _ _).mp q.2
          rw [show (214 : Int32).toInt = 214 by decide] at this
          rw [fa_le, show (213 : Int32).toInt = 213 by decide]; omega)
        have v3 : 200 ≤ v := by
          have := q.1
          rw [v2] at this
          exact (nI_leI (a := 200) (by decide) (by omega)).mp this
        exact a1 (v - 200) (by omega) (by rw [v2, show 200 + (v - 200) = v by omega])
      rw [if_neg z2] at hSf
      have d18 : D 67 18 = nI (b + k) := h6
      by_cases z4 : t_tc N bt j = 40
      · rw [if_pos z4] at hSf
        have y40 := s40.mpr z4
        have hjC : j < C := t_neC hC hj (by rw [z4]; decide)
        refine g148_43 hg (fun _ w => absurd y40 w) (fun _ w => absurd y40 w) (fun _ w => absurd y40 w) (fun _ w => absurd y40 w) (fun _ w => absurd y40 w) (fun _ w => absurd y40 w) (fun _ _ _ w => ?_) (fun _ _ _ w => ?_) (fun _ _ w => absurd w (by decide)) (fun w => absurd w (by decide))
        · have n8 : ¬ 8 ≤ b + k := fun q => w (by rw [d18, show b + k = 8 by omega]; rfl)
          rw [if_neg n8] at hSf
          rw [d18, nI_1]
          obtain ⟨R1, e1, g1⟩ := t_SG (L := L) hC hC2 h3 f 3 (b + k + 1) (j + 1) (by decide) (by omega) (by show 10 * (C - (j + 1)) + 2 + 1 ≤ f; omega)
          refine c_puM (x := 40) (t_MM18 (d' := b + k + 1) hM0) (by omega) (by decide) hg (fun D1 u1 => g148_139 hg (c_nxM hx u1 hg (fun D2 dl2 u2 => g148_143 hg (ret0 D2 dl2 ?_))))
          refine i3 (b + k + 1) (j + 1) (40 :: (List.replicate k 2 ++ S)) cs D2 dl2 R1 (by omega) (by omega) (by omega) (by show (List.replicate k 2 ++ S).length + 1 ≤ 3 * (b + k + 1); omega) (fun x S2 ex => by cases ex; rfl) (by show cs.length + ((List.replicate k 2 ++ S).length + 1) + (C - (j + 1)) ≤ 300; omega) e1 u2 (fun z1 => ?_) (fun z1 n42 n47 n43 n45 q cs' D3 dl3 c1 c2 c3 u3 => ?_)
          · rcases t_bdI e1 hSf with ⟨y, _⟩ | ⟨_, hk⟩
            · exact absurd y z1
            · rw [hk] at hF; exact hF z1
          · obtain ⟨a1, a2, a3, a4, a5, a6⟩ := g1.1 z1
            have a2' := a2 rfl
            have clen : cs'.length + q.length = cs.length + R1.2.2.length := by
              have := congrArg List.length c3
              rw [List.length_append, List.length_append, List.length_map] at this
              exact this
            have hq' : ∀ x, x ∈ q → 3 ≤ x ∧ x < 40 := fun x hx => by have := c1 x hx; omega
            have ht' : ∀ x S2, 40 :: (List.replicate k 2 ++ S) = x :: S2 → x = 40 ∨ x < 3 := fun x S2 ex => by cases ex; exact Or.inl rfl
            have h19 : ¬ D3 67 19 = 0 := by rw [u3.2.2.2.2.2.1]; decide
            have ql : (q ++ 40 :: (List.replicate k 2 ++ S)).length = q.length + (k + S.length + 1) := by rw [List.length_append, List.length_cons, hlen]
            have ql2 : (40 :: (List.replicate k 2 ++ S)).length = k + S.length + 1 := by rw [List.length_cons, hlen]
            obtain ⟨x60, x62, x61, x35, x43, x45, x42, x47, x40, x41, x59, x4, x5, x0⟩ := t_sgq u3.2.1
            rcases t_bdI e1 hSf with ⟨_, hk⟩ | ⟨y, _⟩
            · replace hk : (if t_tc N bt R1.2.1 = 41 then some (0, R1.2.1 + 1, R1.2.2) else some (1, R1.2.1, [])) = some R := hk
              refine g140_10 hg (fun w => absurd w h19) (fun w => absurd w h19) (fun _ => c_goM hg u3 (by omega) (fun w => g140_21 hg (fun w => absurd w (by decide)) (fun _ w => absurd w h19) (fun _ _ => ?_)) (fun w => g140_21 hg (fun _ => ?_) (fun w => absurd rfl w) (fun w => absurd rfl w)))
              · have y41 : t_tc N bt R1.2.1 = 41 := by
                  rcases w with w | w | w | w | w
                  · exact absurd w n43
                  · exact absurd w n45
                  · exact absurd w n42
                  · exact absurd w n47
                  · exact w.1
                rw [if_pos y41] at hk
                have eR := (Option.some.inj hk).symm
                subst eR
                refine p143_0 hg (fun w => absurd (x43.mp w) n43) (fun _ _ w => absurd (x42.mp w) n42) (fun _ _ _ _ => ?_) (fun _ _ _ w => absurd (x47.mp w) n47) (fun _ w => absurd (x45.mp w) n45)
                refine c_seM (lo := 3) (by decide) hx hg ht' q cs' D3 hq' u3 (by omega) (by omega) (fun D4 u4 => p143_91 hg ?_)
                have f17 : D4 67 17 - 1 = nI (List.replicate k 2 ++ S).length := by rw [u4.2.2.2.1]; exact nI_pred _
                have f18 : D4 67 18 - 1 = nI (b + k) := by rw [u4.2.2.2.2.1]; exact nI_pred _
                rw [f17, f18]
                have u5 : t_MM D0 N bt T R1.2.1 (b + k) 1 (List.replicate k 2 ++ S) (cs' ++ q.map (fun x => (x, 0))) (q_u (q_u D4 67 17 (nI (List.replicate k 2 ++ S).length)) 67 18 (nI (b + k))) dl3 := t_MM18 (d := b + k + 1) (t_MM17 (x := 40) u4)
                have c3' : cs' ++ q.map (fun x => (x, 0)) = cs ++ R1.2.2 := c3
                rw [c3'] at u5
                refine c_whM hx hg ht u5 ?_ (by omega) (fun D6 u6 => p143_115 hg (c_nxM hx u6 hg (fun D7 dl7 u7 => p143_119 hg (g140_35 hg (fun _ => kk rfl D7 dl7 ?_) (fun w => absurd rfl w)))))
                · rw [List.length_append]; omega
                · rw [List.append_assoc] at u7
                  exact u7
              · have n41 : ¬ t_tc N bt R1.2.1 = 41 := fun y => w.2.2.2.2 ⟨y, List.mem_append_right _ List.mem_cons_self⟩
                rw [if_neg n41] at hk
                have eR := (Option.some.inj hk).symm
                subst eR
                refine c_seM (lo := 3) (by decide) hx hg ht' q cs' D3 hq' u3 (by omega) (by omega) (fun D4 u4 => g140_57 hg (fun w => ?_) (fun _ => hF (Nat.succ_ne_zero _) D4 dl3 u4.1 u4.2.1.2.1))
                rw [u4.2.2.2.1, ql2] at w
                exact absurd w (nI_nle (by omega) (by omega))
            · exact absurd z1 y
        · have n8 : 8 ≤ b + k := by
            rw [d18] at w
            have := (nI_eq (b := 8) (by omega) (by decide)).mp w
            omega
          rw [if_pos n8] at hSf
          have eR := (Option.some.inj hSf).symm
          subst eR
          exact retf 3 (by decide) (by decide) (hF (Nat.succ_ne_zero _))
      · rw [if_neg z4] at hSf
        have n40 : ¬ D 67 9 = 40 := fun y => z4 (s40.mp y)
        by_cases z6 : t_tc N bt j = 45
        · rw [if_pos z6] at hSf
          have y45 := s45.mpr z6
          have hjC : j < C := t_neC hC hj (by rw [z6]; decide)
          refine g148_43 hg (fun _ _ w => absurd y45 w) (fun _ _ w => absurd y45 w) (fun _ _ w => absurd y45 w) (fun _ _ _ _ w => ?_) (fun _ _ _ _ w => ?_) (fun _ _ _ w => absurd w (by decide)) (fun _ w => absurd w n40) (fun _ w => absurd w n40) (fun _ w => absurd w n40) (fun w => absurd w (by decide))
          · have n8 : ¬ 8 ≤ b + k := fun q => w (by rw [d18, show b + k = 8 by omega]; rfl)
            rw [if_neg n8] at hSf
            rw [d18, nI_1]
            obtain ⟨R1, e1, g1⟩ := t_SG (L := L) hC hC2 h3 f 0 (b + k + 1) (j + 1) (by decide) (by omega) (by show 10 * (C - (j + 1)) + 0 + 1 ≤ f; omega)
            refine c_puM (x := 2) (t_MM18 (d' := b + k + 1) hM0) (by omega) (by decide) hg (fun D1 u1 => g148_139 hg (c_nxM hx u1 hg (fun D2 dl2 u2 => g148_143 hg (ret0 D2 dl2 ?_))))
            refine i0 b (k + 1) (j + 1) S cs D2 dl2 R1 (by omega) (by omega) (by omega) (by omega) ht (by omega) e1 u2 (fun z1 => ?_) (fun z1 D3 dl3 u3 => ?_)
            · rcases t_bdI e1 hSf with ⟨y, _⟩ | ⟨_, hk⟩
              · exact absurd y z1
              · rw [hk] at hF; exact hF z1
            · rcases t_bdI e1 hSf with ⟨_, hk⟩ | ⟨y, _⟩
              · have eR := (Option.some.inj hk).symm
                subst eR
                refine kk rfl D3 dl3 ?_
                show t_MM D0 N bt T R1.2.1 b 1 S (cs ++ (R1.2.2 ++ [(2, 0)] ++ List.replicate k (2, 0))) D3 dl3
                rw [List.append_assoc]
                exact u3
              · exact absurd z1 y
          · have n8 : 8 ≤ b + k := by
              rw [d18] at w
              have := (nI_eq (b := 8) (by omega) (by decide)).mp w
              omega
            rw [if_pos n8] at hSf
            have eR := (Option.some.inj hSf).symm
            subst eR
            exact retf 3 (by decide) (by decide) (hF (Nat.succ_ne_zero _))
        · rw [if_neg z6] at hSf
          have n45 : ¬ D 67 9 = 45 := fun y => z6 (s45.mp y)
          have eR := (Option.some.inj hSf).symm
          subst eR
          exact g148_43 hg (fun _ _ _ w => absurd rfl w) (fun _ _ _ w => absurd rfl w) (fun _ _ _ _ => retf 1 (by decide) (by decide) (hF (Nat.succ_ne_zero _))) (fun _ _ w => absurd w n45) (fun _ _ w => absurd w n45) (fun _ _ w => absurd w n45) (fun _ w => absurd w n40) (fun _ w => absurd w n40) (fun _ w => absurd w n40) (fun w => absurd w (by decide))
/-- all modes of a sum -/
theorem t_Mall (hx : t_mx D0 N bt T L) (hg : q_Gr n ln dr) (hC : t_tc N bt C = 131) (hC2 : ∀ j, j < C → ¬ t_tc N bt j = 131) (h3 : ∀ j, 300 ≤ t_tc N bt j → ∃ v, v ≤ 10000 ∧ t_tc N bt j = nI (300 + v)) : ∀ f, t_M0 D0 N bt T L C (t_LH e n sl ln dr Q) (t_FC n sl ln dr Q D0 N bt T) f ∧ t_M1 D0 N bt T L C (t_LH e n sl ln dr Q) (t_FC n sl ln dr Q D0 N bt T) f ∧ t_M2 D0 N bt T L C (t_LH e n sl ln dr Q) (t_FC n sl ln dr Q D0 N bt T) f ∧ t_M3 D0 N bt T L C (t_LH e n sl ln dr Q) (t_FC n sl ln dr Q D0 N bt T) f ∧ t_M4 D0 N bt T L C (t_LH e n sl ln dr Q) (t_FC n sl ln dr Q D0 N bt T) f := by
  intro f
  induction f with
  | zero =>
    refine ⟨fun b k j S cs D dl R hj hf => ?_, fun δ j S cs D dl R hj hf => ?_, fun δ j S q cs D dl R hj hf => ?_, fun δ j S cs D dl R hj hf => ?_, fun δ j S q cs D dl R hj hf => ?_⟩ <;> omega
  | succ f ih =>
    obtain ⟨i0, i1, i2, i3, i4⟩ := ih
    exact ⟨t_M0s hx hg hC hC2 h3 i0 i3, t_M1s hC hC2 h3 i0 i2, t_M2s hx hg hC hC2 h3 i0 i2, t_M3s hC hC2 h3 i1 i4, t_M4s hx hg hC hC2 h3 i1 i4⟩
/-- summed -/
theorem c_sumM {δ j : Nat} {cs : List (Nat × Nat)} {D : Nat → Nat → Int32} {dl : Nat → Nat → Int64} {R : t_R} (hx : t_mx D0 N bt T L) (hg : q_Gr n ln dr) (hC : t_tc N bt C = 131) (hC2 : ∀ j, j < C → ¬ t_tc N bt j = 131) (h3 : ∀ j, 300 ≤ t_tc N bt j → ∃ v, v ≤ 10000 ∧ t_tc N bt j = nI (300 + v)) (hj : j ≤ C) (hf : 10 * (C - j) + 3 ≤ f) (hδ : δ ≤ 8) (hc : cs.length + (C - j) ≤ 300) (hS : t_S (t_tc N bt) L f 3 δ j = some R) (hM : t_MN D0 N bt T j δ cs D dl)
    (hF : ¬ R.1 = 0 → t_FC n sl ln dr Q D0 N bt T R.1 R.2.1) (kk : R.1 = 0 → ∀ D' dl', t_MM D0 N bt T R.2.1 δ 1 [] (cs ++ R.2.2) D' dl' → Q (some (.int 0)) (n, sl, ln, D', dl', dr)) : q_EX q_KD (e + 5) 140 0 [.ref 67, .retAddr 0] [] (n, sl, ln, D, dl, dr) Q := by
  refine g140_0 hg ?_
  obtain ⟨_, _, _, i3, _⟩ := t_Mall (e := e) (sl := sl) (Q := Q) hx hg hC hC2 h3 f
  refine i3 δ j [] cs _ dl R hj hf hδ (by show 0 ≤ 3 * δ; omega) (fun x S2 ex => by cases ex) (by show cs.length + 0 + (C - j) ≤ 300; omega) hS (t_MN_sum hM) hF (fun z n42 n47 n43 n45 q cs' D' dl' c1 c2 c3 u => ?_)
  have clen : cs'.length + q.length = cs.length + R.2.2.length := by
    have := congrArg List.length c3
    rw [List.length_append, List.length_append, List.length_map] at this
    exact this
  obtain ⟨r, e1, g1⟩ := t_SG (L := L) hC hC2 h3 f 3 δ j (by decide) hj (by show 10 * (C - j) + 2 + 1 ≤ f; omega)
  have er : r = R := Option.some.inj (e1.symm.trans hS)
  subst er
  obtain ⟨a1, a2, a3, a4, a5, a6⟩ := g1.1 z
  have h19 : ¬ D' 67 19 = 0 := by rw [u.2.2.2.2.2.1]; decide
  have ql : (q ++ ([] : List Nat)).length = q.length := by rw [List.append_nil]
  refine g140_10 hg (fun w => absurd w h19) (fun w => absurd w h19) (fun _ => c_goM hg u (by omega) (fun w => ?_) (fun w => g140_21 hg (fun _ => ?_) (fun w => absurd rfl w) (fun w => absurd rfl w)))
  · rcases w with w | w | w | w | w
    · exact absurd w n43
    · exact absurd w n45
    · exact absurd w n42
    · exact absurd w n47
    · exfalso
      have m := w.2
      rw [List.append_nil] at m
      have := c1 40 m
      omega
  · refine c_seM (lo := 3) (by decide) hx hg (fun x S2 ex => by cases ex) q cs' D' (fun x hx => by have := c1 x hx; omega) u (by omega) (by show q.length + 0 < 160; omega) (fun D4 u4 => g140_57 hg (fun _ => kk z D4 dl' ?_) (fun w => ?_))
    · have c3' : cs' ++ q.map (fun x => (x, 0)) = cs ++ r.2.2 := c3
      rw [c3'] at u4
      exact u4
    · have : D4 67 17 = 0 := u4.2.2.2.1
      rw [this] at w
      exact absurd w (by decide)
end
