section
variable {n sl : Nat} {ln : Nat → Nat} {dr : Nat → Nat → Option Nat} {Q : Option Value → q_H → Prop} {D0 : Nat → Nat → Int32} {N T L C e : Nat} {bt : Nat → Int32}
/-- the nots of an asking, behind it -/
theorem c_nots {k b j : Nat} {w : Int32} {S : List Nat} {dl : Nat → Nat → Int64} (hx : t_mx D0 N bt T L) (hg : q_Gr n ln dr) (hk : k ≤ 8) : ∀ (c i : Nat) (cs : List (Nat × Nat)) (D : Nat → Nat → Int32), i + c = k → cs.length + c ≤ 300 → t_MM D0 N bt T j b w S cs D dl → (∀ D', t_MM D0 N bt T j b w S (cs ++ List.replicate c (20, 0)) D' dl → Q (some (.int 0)) (n, sl, ln, D', dl, dr)) → q_EX q_KD (e + 1) 139 105 [.ref 67, .int (nI k), .retAddr 0, .retAddr 0, .int (nI i)] [] (n, sl, ln, D, dl, dr) Q := by
  intro c
  induction c with
  | zero =>
    intro i cs D hi hc hM kk
    refine g139_105 hg (fun _ => kk D (by rw [show List.replicate 0 ((20 : Nat), (0 : Nat)) = [] from rfl, List.append_nil]; exact hM)) (fun w => absurd w (nI_nlt (by omega) (by omega)))
  | succ c ih =>
    intro i cs D hi hc hM kk
    refine g139_105 hg (fun w => absurd w (nI_ge (by omega) (by omega))) (fun _ => c_emM (o := 20) (v := 0) hx hM (by omega) hg (fun D' h' => g139_118 hg ?_))
    rw [nI_1]
    refine ih (i + 1) _ D' (by omega) (by rw [List.length_append]; show cs.length + 1 + c ≤ 300; omega) h' (fun D2 h2 => kk D2 ?_)
    rw [List.append_assoc] at h2
    exact h2
/-- asks, k nots read -/
theorem c_ask2 (hx : t_mx D0 N bt T L) (hg : q_Gr n ln dr) (hC : t_tc N bt C = 131) (hC2 : ∀ j, j < C → ¬ t_tc N bt j = 131) (h3 : ∀ j, 300 ≤ t_tc N bt j → ∃ v, v ≤ 10000 ∧ t_tc N bt j = nI (300 + v)) : ∀ (f k b j : Nat) (cs : List (Nat × Nat)) (D : Nat → Nat → Int32) (dl : Nat → Nat → Int64) (R : t_R), j ≤ C → 10 * (C - j) + 4 ≤ f → b + k ≤ 8 → cs.length + k + (C - j) ≤ 300 → t_S (t_tc N bt) L f 5 (b + k) j = some R → t_MN D0 N bt T j (b + k) cs D dl → (¬ R.1 = 0 → t_FC n sl ln dr Q D0 N bt T R.1 R.2.1) → (R.1 = 0 → ∀ D' dl', t_MM D0 N bt T R.2.1 b 1 [] (cs ++ (R.2.2 ++ List.replicate k (20, 0))) D' dl' → Q (some (.int 0)) (n, sl, ln, D', dl', dr)) → q_EX q_KD (e + 6) 139 2 [.ref 67, .int (nI k), .retAddr 0, .retAddr 0, .retAddr 0] [] (n, sl, ln, D, dl, dr) Q := by
  intro f
  induction f with
  | zero => intro k b j cs D dl R hj hf; omega
  | succ f ih =>
    intro k b j cs D dl R hj hf hδ hc hS hM hF kk
    unfold t_S at hS
    change (if t_tc N bt j = 224 then _ else _) = some R at hS
    refine g139_2 hg (c_k24 hg (g139_12 hg (c_isW (i := 24) (by decide) (by decide) hM.2.1 hg (fun z => ?_) (fun z => ?_))))
    · have z' : t_tc N bt j = 224 := z
      rw [if_pos z'] at hS
      have hjC : j < C := t_neC hC hj (by rw [z']; decide)
      have d18 : D 67 18 = nI (b + k) := hM.2.2.2.1
      refine g139_15 hg (fun w => absurd w (by decide)) (fun _ w => ?_) (fun _ w => ?_)
      · have n8 : ¬ 8 ≤ b + k := fun q => w (by rw [d18, show b + k = 8 by omega]; rfl)
        rw [if_neg n8] at hS
        rw [d18, nI_1, nI_1]
        obtain ⟨R1, e1, g1⟩ := t_SG (L := L) hC hC2 h3 f 5 (b + k + 1) (j + 1) (by decide) (by omega) (by show 10 * (C - (j + 1)) + 3 + 1 ≤ f; omega)
        refine c_nxN hx (t_MN18 (d' := b + k + 1) hM) hg (fun D2 dl2 u2 => g139_46 hg (ih (k + 1) b (j + 1) cs D2 dl2 R1 (by omega) (by omega) (by omega) (by omega) e1 u2 (fun z1 => ?_) (fun z1 D3 dl3 u3 => ?_)))
        · rcases t_bdI e1 hS with ⟨y, _⟩ | ⟨_, hk⟩
          · exact absurd y z1
          · rw [hk] at hF; exact hF z1
        · rcases t_bdI e1 hS with ⟨_, hk⟩ | ⟨y, _⟩
          · have eR := (Option.some.inj hk).symm
            subst eR
            refine kk rfl D3 dl3 ?_
            show t_MM D0 N bt T R1.2.1 b 1 [] (cs ++ (R1.2.2 ++ [(20, 0)] ++ List.replicate k (20, 0))) D3 dl3
            rw [List.append_assoc]
            exact u3
          · exact absurd z1 y
      · have n8 : 8 ≤ b + k := by
          rw [d18] at w
          have := (nI_eq (b := 8) (by omega) (by decide)).mp w
          omega
        rw [if_pos n8] at hS
        have eR := (Option.some.inj hS).symm
        subst eR
        exact hF (Nat.succ_ne_zero _) D dl hM.1 hM.2.1.2.1
    · have z' : ¬ t_tc N bt j = 224 := z
      rw [if_neg z'] at hS
      refine g139_15 hg (fun _ => ?_) (fun w => absurd rfl w) (fun w => absurd rfl w)
      obtain ⟨R1, e1, g1⟩ := t_SG (L := L) hC hC2 h3 f 3 (b + k) j (by decide) hj (by show 10 * (C - j) + 2 + 1 ≤ f; omega)
      refine c_sumM (f := f) hx hg hC hC2 h3 hj (by omega) hδ (by omega) e1 hM (fun z1 D1 dl1 v1 v2 => ?_) (fun z1 D1 dl1 u1 => ?_)
      · have l6 := (g1.2 z1).2
        refine g139_53 hg (fun w => absurd w (nI_ne0 (by omega) (by omega))) (fun _ => ?_)
        rcases t_bdI e1 hS with ⟨y, _⟩ | ⟨_, hk⟩
        · exact absurd y z1
        · rw [hk] at hF; exact hF z1 D1 dl1 v1 v2
      · obtain ⟨a1, a2, a3, a4, a5, a6⟩ := g1.1 z1
        have a2' := a2 rfl
        rcases t_bdI e1 hS with ⟨_, hk⟩ | ⟨y, _⟩
        · replace hk : (if t_rc (t_tc N bt R1.2.1) < 0 then some (1, R1.2.1, []) else t_bd (t_S (t_tc N bt) L f 3 (b + k) (R1.2.1 + 1)) (fun j2 c2 => some (0, j2, R1.2.2 ++ (c2 ++ [((t_rc (t_tc N bt R1.2.1)).toNatClampNeg, 0)])))) = some R := hk
          refine g139_53 hg (fun _ => c_cmpM u1.2.1 hg (g139_64 hg (fun w => ?_) (fun w => ?_))) (fun w => absurd rfl w)
          · have w' : ¬ t_rc (t_tc N bt R1.2.1) < 0 := q_not_lt w
            rw [if_neg w'] at hk
            obtain ⟨v, v1, v2, v3⟩ := t_rc_v _ w'
            have ev : (t_rc (t_tc N bt R1.2.1)).toNatClampNeg = v := by rw [v3, nI_clamp (by omega)]
            rw [ev] at hk
            have hrC : R1.2.1 < C := t_neC hC a3 (fun q => absurd (show t_rc 131 < 0 by decide) (by rw [← q]; exact w'))
            obtain ⟨R2, e2, g2⟩ := t_SG (L := L) hC hC2 h3 f 3 (b + k) (R1.2.1 + 1) (by decide) (by omega) (by show 10 * (C - (R1.2.1 + 1)) + 2 + 1 ≤ f; omega)
            rw [v3]
            refine c_nxM hx u1 hg (fun D2 dl2 u2 => g139_75 hg (c_sumM (f := f) hx hg hC hC2 h3 (by omega) (by omega) hδ (by rw [List.length_append]; omega) e2 (t_MN_of u2) (fun z2 D3 dl3 y1 y2 => ?_) (fun z2 D3 dl3 u3 => ?_)))
            · have l6 := (g2.2 z2).2
              refine g139_79 hg (fun w => absurd w (nI_ne0 (by omega) (by omega))) (fun _ => ?_)
              rcases t_bdI e2 hk with ⟨y, _⟩ | ⟨_, hk2⟩
              · exact absurd y z2
              · rw [hk2] at hF; exact hF z2 D3 dl3 y1 y2
            · obtain ⟨b1, b2, b3, b4, b5, b6⟩ := g2.1 z2
              rcases t_bdI e2 hk with ⟨_, hk2⟩ | ⟨y, _⟩
              · have eR := (Option.some.inj hk2).symm
                subst eR
                refine g139_79 hg (fun _ => c_emM (o := v) (v := 0) hx u3 (by rw [List.length_append, List.length_append]; omega) hg (fun D4 u4 => g139_92 hg ?_)) (fun w => absurd rfl w)
                have f18 : D4 67 18 - nI k = nI b := by rw [u4.2.2.2.2.1, ← nI_add, Int32.add_sub_cancel]
                rw [f18]
                refine nI_0 ▸ c_nots (k := k) hx hg (by omega) k 0 _ _ (by omega) ?_ (t_MM18 (d' := b) u4) (fun D5 u5 => kk rfl D5 dl3 ?_)
                · rw [List.length_append, List.length_append, List.length_append]; show cs.length + R1.2.2.length + R2.2.2.length + 1 + k ≤ 300; omega
                · show t_MM D0 N bt T R2.2.1 b 1 [] (cs ++ (R1.2.2 ++ (R2.2.2 ++ [(v, 0)]) ++ List.replicate k (20, 0))) D5 dl3
                  simp only [List.append_assoc] at u5 ⊢
                  exact u5
              · exact absurd z2 y
          · rw [if_pos w] at hk
            have eR := (Option.some.inj hk).symm
            subst eR
            exact hF (Nat.succ_ne_zero _) D1 dl1 u1.1 u1.2.1.2.1
        · exact absurd z1 y
theorem c_askM (hx : t_mx D0 N bt T L) (hg : q_Gr n ln dr) (hC : t_tc N bt C = 131) (hC2 : ∀ j, j < C → ¬ t_tc N bt j = 131) (h3 : ∀ j, 300 ≤ t_tc N bt j → ∃ v, v ≤ 10000 ∧ t_tc N bt j = nI (300 + v)) {f j b : Nat} {cs : List (Nat × Nat)} {D : Nat → Nat → Int32} {dl : Nat → Nat → Int64} {R : t_R} (hj : j ≤ C) (hf : 10 * (C - j) + 4 ≤ f) (hb : b ≤ 8) (hc : cs.length + (C - j) ≤ 300) (hS : t_S (t_tc N bt) L f 5 b j = some R) (hM : t_MN D0 N bt T j b cs D dl) (hF : ¬ R.1 = 0 → t_FC n sl ln dr Q D0 N bt T R.1 R.2.1) (kk : R.1 = 0 → ∀ D' dl', t_MM D0 N bt T R.2.1 b 1 [] (cs ++ R.2.2) D' dl' → Q (some (.int 0)) (n, sl, ln, D', dl', dr)) : q_EX q_KD (e + 6) 139 0 [.ref 67, .retAddr 0, .retAddr 0, .retAddr 0, .retAddr 0] [] (n, sl, ln, D, dl, dr) Q := by
  refine g139_0 hg (nI_0 ▸ c_ask2 hx hg hC hC2 h3 f 0 b j cs D dl R hj hf hb (by omega) hS hM hF (fun z D' dl' u => kk z D' dl' ?_))
  rw [show List.replicate 0 ((20 : Nat), (0 : Nat)) = [] from rfl, List.append_nil] at u
  exact u
end
