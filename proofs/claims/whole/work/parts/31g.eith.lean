/-! either: LE a o: its loop's head; YY o: behind an asking -/
abbrev t_LE (e n sl : Nat) (ln : Nat → Nat) (dr : Nat → Nat → Option Nat) (Q : Option Value → q_H → Prop) (a o : Nat) (D : Nat → Nat → Int32) (dl : Nat → Nat → Int64) : Prop := q_EX q_KD (e + 7) 138 6 [.ref 67, .int (nI a), .int (nI o), .int 1, .retAddr 0, .retAddr 0] [] (n, sl, ln, D, dl, dr) Q
abbrev t_YY (e n sl : Nat) (ln : Nat → Nat) (dr : Nat → Nat → Option Nat) (Q : Option Value → q_H → Prop) (o : Nat) (D : Nat → Nat → Int32) (dl : Nat → Nat → Int64) : Prop := q_EX q_KD (e + 6) 135 0 [.int 97, .int 110, .int 100] [] (n, sl, ln, D, dl, dr) (fun r1 h1 => q_EX q_KD (e + 6 + 1) 138 45 [.ref 67, .retAddr 0, .int (nI o), .retAddr 0, .retAddr 0, .retAddr 0] (r1.toList ++ [.ref 67]) h1 Q)
def t_or (o : Nat) : List (Nat × Nat) := if o = 0 then [] else [(22, 0)]
section
variable {n sl : Nat} {ln : Nat → Nat} {dr : Nat → Nat → Option Nat} {Q : Option Value → q_H → Prop} {D0 : Nat → Nat → Int32} {N T L C e : Nat} {bt : Nat → Int32}
theorem c_YY {o j b : Nat} {w : Int32} {S : List Nat} {cs : List (Nat × Nat)} {D : Nat → Nat → Int32} {dl : Nat → Nat → Int64} (ho : o ≤ 1) (hx : t_mx D0 N bt T L) (hg : q_Gr n ln dr) (hM : t_MM D0 N bt T j b w S cs D dl) (hc : cs.length < 300)
    (k1 : t_tc N bt j = 223 → ∀ D' dl', t_MM D0 N bt T (j + 1) b w S cs D' dl' → t_LE e n sl ln dr Q 1 o D' dl')
    (k2 : t_tc N bt j = 222 → ∀ D' dl', t_MM D0 N bt T (j + 1) b w S (cs ++ t_or o) D' dl' → t_LE e n sl ln dr Q 0 1 D' dl')
    (k3 : ¬ t_tc N bt j = 223 → ¬ t_tc N bt j = 222 → ∀ D', t_MM D0 N bt T j b w S (cs ++ t_or o) D' dl → Q (some (.int 0)) (n, sl, ln, D', dl, dr)) : t_YY e n sl ln dr Q o D dl := by
  have hor : (D 67 9 = 2 ∧ lg_cmp (dl 67 11) 28530 = 0) ↔ t_tc N bt j = 222 := by
    rw [w_cmp0]
    exact t_msw hM.2.1 (i := 22) (by decide) (by decide)
  have oo : o = 0 ∨ o = 1 := by omega
  have n0 : ¬ nI 1 = 0 := by decide
  refine c_k23 hg (p138_45 hg (c_isW (i := 23) (by decide) (by decide) hM.2.1 hg (fun z => ?_) (fun z => ?_)))
  · have z' : t_tc N bt j = 223 := z
    have nx : q_EX q_KD (e + 6) 127 0 [.ref 67, .retAddr 0, .retAddr 0] [] (n, sl, ln, D, dl, dr) (fun r1 h1 => q_EX q_KD (e + 6 + 1) 138 116 [.ref 67, .int 1, .int (nI o), .int 1, .retAddr 0, .retAddr 0] (r1.toList ++ []) h1 Q) := c_nxM hx hM hg (fun D' dl' u => p138_116 hg (k1 z' D' dl' u))
    exact p138_48 hg (fun _ _ => nx) (fun _ w => absurd w (by decide)) (fun _ w => absurd w (by decide)) (fun _ _ _ => nx) (fun _ _ w => absurd w (by decide)) (fun _ _ w => absurd w (by decide)) (fun _ _ _ => nx) (fun _ _ w => absurd w (by decide)) (fun _ _ w => absurd w (by decide))
  · have z' : ¬ t_tc N bt j = 223 := z
    rcases oo with e0 | e0
    · subst e0
      have ec : cs ++ t_or 0 = cs := List.append_nil cs
      rw [ec] at k2 k3
      have fin : ¬ t_tc N bt j = 222 → q_EX q_KD (e + 6 + 1) 138 6 [.ref 67, .int 0, .int 0, .int 0, .retAddr 0, .retAddr 0] [] (n, sl, ln, D, dl, dr) Q := fun y => p138_6 hg (fun _ => k3 z' y D hM) (fun w => absurd rfl w)
      exact p138_48 hg (fun _ w => absurd rfl w) (fun w _ _ => fin (fun y => w (hor.mpr y).1)) (fun _ _ w => absurd rfl w) (fun _ _ w => absurd rfl w) (fun _ w _ _ => fin (fun y => w (hor.mpr y).2)) (fun _ _ _ w => absurd rfl w) (fun _ _ w => absurd rfl w) (fun w1 w2 _ _ => c_nxM hx hM hg (fun D' dl' u => p138_116 hg (k2 (hor.mp ⟨w1, w2⟩) D' dl' u))) (fun _ _ _ w => absurd rfl w)
    · subst e0
      have ec : cs ++ t_or 1 = cs ++ [(22, 0)] := rfl
      rw [ec] at k2 k3
      have fin : ¬ t_tc N bt j = 222 → q_EX q_KD (e + 6) 145 0 [.ref 67, .int 22, .int 0] [] (n, sl, ln, D, dl, dr) (fun r1 h1 => q_EX q_KD (e + 6 + 1) 138 90 [.ref 67, .int 0, .retAddr 0, .retAddr 0, .retAddr 0, .int 0] (r1.toList ++ []) h1 Q) := fun y =>
        c_emM (o := 22) (v := 0) hx hM hc hg (fun D1 u1 => p138_90 hg (fun w => absurd rfl w) (fun _ _ => p138_6 hg (fun _ => k3 z' y D1 u1) (fun w => absurd rfl w)) (fun _ w => absurd rfl w))
      exact p138_48 hg (fun _ w => absurd rfl w) (fun _ _ w => absurd w n0) (fun w _ _ => fin (fun y => w (hor.mpr y).1)) (fun _ _ w => absurd rfl w) (fun _ _ _ w => absurd w n0) (fun _ w _ _ => fin (fun y => w (hor.mpr y).2)) (fun _ _ w => absurd rfl w) (fun _ _ _ w => absurd w n0) (fun w1 w2 _ _ => c_emM (o := 22) (v := 0) hx hM hc hg (fun D1 u1 => p138_90 hg (fun w => absurd rfl w) (fun _ w => absurd w (by decide)) (fun _ _ => c_nxM hx u1 hg (fun D' dl' u => p138_116 hg (k2 (hor.mp ⟨w1, w2⟩) D' dl' u)))))
theorem c_E7 {o : Nat} (ho : o ≤ 1) (hx : t_mx D0 N bt T L) (hg : q_Gr n ln dr) (hC : t_tc N bt C = 131) (hC2 : ∀ j, j < C → ¬ t_tc N bt j = 131) (h3 : ∀ j, 300 ≤ t_tc N bt j → ∃ v, v ≤ 10000 ∧ t_tc N bt j = nI (300 + v)) : ∀ (f j : Nat) (cs : List (Nat × Nat)) (D : Nat → Nat → Int32) (dl : Nat → Nat → Int64) (R : t_R), j ≤ C → 10 * (C - j) + 1 ≤ f → cs.length + (C - j) ≤ 300 → t_S (t_tc N bt) L f 7 0 j = some R → t_MM D0 N bt T j 0 1 [] cs D dl → (¬ R.1 = 0 → t_FC n sl ln dr Q D0 N bt T R.1 R.2.1) → (R.1 = 0 → ¬ t_tc N bt R.2.1 = 223 → ∀ D' dl', t_MM D0 N bt T R.2.1 0 1 [] (cs ++ R.2.2) D' dl' → t_YY e n sl ln dr Q o D' dl') → t_YY e n sl ln dr Q o D dl := by
  intro f
  induction f with
  | zero => intro j cs D dl R hj hf; omega
  | succ f ih =>
    intro j cs D dl R hj hf hc hS hM hF kk
    unfold t_S at hS
    change (if t_tc N bt j = 223 then _ else _) = some R at hS
    by_cases z : t_tc N bt j = 223
    · rw [if_pos z] at hS
      have hjC : j < C := t_neC hC hj (by rw [z]; decide)
      obtain ⟨R1, e1, g1⟩ := t_SG (L := L) hC hC2 h3 f 5 0 (j + 1) (by decide) (by omega) (by show 10 * (C - (j + 1)) + 3 + 1 ≤ f; omega)
      refine c_YY ho hx hg hM (by omega) (fun _ D1 dl1 u1 => ?_) (fun y => absurd (z.symm.trans y) (by decide)) (fun y => absurd z y)
      refine p138_6 hg (fun w => absurd w (by decide)) (fun _ => c_askM hx hg hC hC2 h3 (f := f) (j := j + 1) (b := 0) (by omega) (by omega) (by decide) (by omega) e1 (t_MN_of u1) (fun z1 D2 dl2 v1 v2 => ?_) (fun z1 D2 dl2 u2 => ?_))
      · have l6 := (g1.2 z1).2
        refine p138_14 hg (fun w => absurd w (nI_ne0 (by omega) (by omega))) (fun w => absurd w (nI_ne0 (by omega) (by omega))) (fun _ => ?_)
        rcases t_bdI e1 hS with ⟨y, _⟩ | ⟨_, hk⟩
        · exact absurd y z1
        · rw [hk] at hF; exact hF z1 D2 dl2 v1 v2
      · obtain ⟨a1, a2, a3, a4, a5, a6⟩ := g1.1 z1
        have a2' := a2 rfl
        rcases t_bdI e1 hS with ⟨_, hk⟩ | ⟨y, _⟩
        · obtain ⟨R2, e2, g2⟩ := t_SG (L := L) hC hC2 h3 f 7 0 R1.2.1 (by decide) a3 (by show 10 * (C - R1.2.1) + 0 + 1 ≤ f; omega)
          refine p138_14 hg (fun _ w => absurd w (by decide)) (fun _ _ => c_emM (o := 21) (v := 0) hx u2 (by rw [List.length_append]; omega) hg (fun D3 u3 => p138_35 hg ?_)) (fun w => absurd rfl w)
          refine ih R1.2.1 _ D3 dl2 R2 a3 (by omega) (by rw [List.length_append, List.length_append]; show cs.length + R1.2.2.length + 1 + (C - R1.2.1) ≤ 300; omega) e2 u3 (fun z2 => ?_) (fun z2 n3 D4 dl4 u4 => ?_)
          · rcases t_bdI e2 hk with ⟨y, _⟩ | ⟨_, hk2⟩
            · exact absurd y z2
            · rw [hk2] at hF; exact hF z2
          · rcases t_bdI e2 hk with ⟨_, hk2⟩ | ⟨y, _⟩
            · have eR := (Option.some.inj hk2).symm
              subst eR
              refine kk rfl n3 D4 dl4 ?_
              show t_MM D0 N bt T R2.2.1 0 1 [] (cs ++ (R1.2.2 ++ (21, 0) :: R2.2.2)) D4 dl4
              simp only [List.append_assoc, List.singleton_append] at u4
              exact u4
            · exact absurd z2 y
        · exact absurd z1 y
    · rw [if_neg z] at hS
      have eR := (Option.some.inj hS).symm
      subst eR
      exact kk rfl z D dl (by rw [List.append_nil]; exact hM)
theorem c_E6 {o : Nat} (ho : o ≤ 1) (hx : t_mx D0 N bt T L) (hg : q_Gr n ln dr) (hC : t_tc N bt C = 131) (hC2 : ∀ j, j < C → ¬ t_tc N bt j = 131) (h3 : ∀ j, 300 ≤ t_tc N bt j → ∃ v, v ≤ 10000 ∧ t_tc N bt j = nI (300 + v)) {f j : Nat} {cs : List (Nat × Nat)} {D : Nat → Nat → Int32} {dl : Nat → Nat → Int64} {R : t_R} (hj : j ≤ C) (hf : 10 * (C - j) + 5 ≤ f + 1) (hc : cs.length + (C - j) ≤ 300) (hS : t_S (t_tc N bt) L (f + 1) 6 0 j = some R) (hM : t_MN D0 N bt T j 0 cs D dl) (hF : ¬ R.1 = 0 → t_FC n sl ln dr Q D0 N bt T R.1 R.2.1) (kk : R.1 = 0 → ¬ t_tc N bt R.2.1 = 223 → ∀ D' dl', t_MM D0 N bt T R.2.1 0 1 [] (cs ++ R.2.2) D' dl' → t_YY e n sl ln dr Q o D' dl') : t_LE e n sl ln dr Q 0 o D dl := by
  unfold t_S at hS
  obtain ⟨R1, e1, g1⟩ := t_SG (L := L) hC hC2 h3 f 5 0 j (by decide) hj (by show 10 * (C - j) + 3 + 1 ≤ f; omega)
  refine p138_6 hg (fun w => absurd w (by decide)) (fun _ => c_askM hx hg hC hC2 h3 (f := f) (b := 0) hj (by omega) (by decide) hc e1 hM (fun z1 D2 dl2 v1 v2 => ?_) (fun z1 D2 dl2 u2 => ?_))
  · have l6 := (g1.2 z1).2
    refine p138_14 hg (fun w => absurd w (nI_ne0 (by omega) (by omega))) (fun w => absurd w (nI_ne0 (by omega) (by omega))) (fun _ => ?_)
    rcases t_bdI e1 hS with ⟨y, _⟩ | ⟨_, hk⟩
    · exact absurd y z1
    · rw [hk] at hF; exact hF z1 D2 dl2 v1 v2
  · obtain ⟨a1, a2, a3, a4, a5, a6⟩ := g1.1 z1
    have a2' := a2 rfl
    rcases t_bdI e1 hS with ⟨_, hk⟩ | ⟨y, _⟩
    · obtain ⟨R2, e2, g2⟩ := t_SG (L := L) hC hC2 h3 f 7 0 R1.2.1 (by decide) a3 (by show 10 * (C - R1.2.1) + 0 + 1 ≤ f; omega)
      refine p138_14 hg (fun _ _ => ?_) (fun _ w => absurd rfl w) (fun w => absurd rfl w)
      refine c_E7 ho hx hg hC hC2 h3 f R1.2.1 _ D2 dl2 R2 a3 (by omega) (by rw [List.length_append]; omega) e2 u2 (fun z2 => ?_) (fun z2 n3 D4 dl4 u4 => ?_)
      · rcases t_bdI e2 hk with ⟨y, _⟩ | ⟨_, hk2⟩
        · exact absurd y z2
        · rw [hk2] at hF; exact hF z2
      · rcases t_bdI e2 hk with ⟨_, hk2⟩ | ⟨y, _⟩
        · have eR := (Option.some.inj hk2).symm
          subst eR
          refine kk rfl n3 D4 dl4 ?_
          rw [List.append_assoc] at u4
          exact u4
        · exact absurd z2 y
    · exact absurd z1 y
theorem c_E9 (hx : t_mx D0 N bt T L) (hg : q_Gr n ln dr) (hC : t_tc N bt C = 131) (hC2 : ∀ j, j < C → ¬ t_tc N bt j = 131) (h3 : ∀ j, 300 ≤ t_tc N bt j → ∃ v, v ≤ 10000 ∧ t_tc N bt j = nI (300 + v)) : ∀ (f o j : Nat) (cs : List (Nat × Nat)) (D : Nat → Nat → Int32) (dl : Nat → Nat → Int64) (R : t_R), o ≤ 1 → j ≤ C → 10 * (C - j) + 1 ≤ f → cs.length + o + (C - j) ≤ 300 → cs.length < 300 → ¬ t_tc N bt j = 223 → t_S (t_tc N bt) L f 9 0 j = some R → t_MM D0 N bt T j 0 1 [] cs D dl → (¬ R.1 = 0 → t_FC n sl ln dr Q D0 N bt T R.1 R.2.1) → (R.1 = 0 → ∀ D' dl', t_MM D0 N bt T R.2.1 0 1 [] (cs ++ (t_or o ++ R.2.2)) D' dl' → Q (some (.int 0)) (n, sl, ln, D', dl', dr)) → t_YY e n sl ln dr Q o D dl := by
  intro f
  induction f with
  | zero => intro o j cs D dl R ho hj hf; omega
  | succ f ih =>
    intro o j cs D dl R ho hj hf hc hc3 n223 hS hM hF kk
    have ol : (t_or o).length ≤ o := by
      unfold t_or
      by_cases q : o = 0
      · rw [if_pos q]; exact Nat.zero_le _
      · rw [if_neg q]; show 1 ≤ o; omega
    unfold t_S at hS
    change (if t_tc N bt j = 222 then _ else _) = some R at hS
    by_cases z : t_tc N bt j = 222
    · rw [if_pos z] at hS
      have hjC : j < C := t_neC hC hj (by rw [z]; decide)
      obtain ⟨f', rfl⟩ : ∃ f', f = f' + 1 := ⟨f - 1, by omega⟩
      obtain ⟨R1, e1, g1⟩ := t_SG (L := L) hC hC2 h3 (f' + 1) 6 0 (j + 1) (by decide) (by omega) (by show 10 * (C - (j + 1)) + 4 + 1 ≤ f' + 1; omega)
      refine c_YY ho hx hg hM hc3 (fun y => absurd y n223) (fun _ D1 dl1 u1 => ?_) (fun _ y => absurd z y)
      refine c_E6 (o := 1) (Nat.le_refl 1) hx hg hC hC2 h3 (f := f') (j := j + 1) (by omega) (by omega) (by rw [List.length_append]; omega) e1 (t_MN_of u1) (fun z1 => ?_) (fun z1 n3 D2 dl2 u2 => ?_)
      · rcases t_bdI e1 hS with ⟨y, _⟩ | ⟨_, hk⟩
        · exact absurd y z1
        · rw [hk] at hF; exact hF z1
      · obtain ⟨a1, a2, a3, a4, a5, a6⟩ := g1.1 z1
        have a2' := a2 rfl
        rcases t_bdI e1 hS with ⟨_, hk⟩ | ⟨y, _⟩
        · obtain ⟨R2, e2, g2⟩ := t_SG (L := L) hC hC2 h3 (f' + 1) 9 0 R1.2.1 (by decide) a3 (by show 10 * (C - R1.2.1) + 0 + 1 ≤ f' + 1; omega)
          refine ih 1 R1.2.1 _ D2 dl2 R2 (Nat.le_refl 1) a3 (by omega) (by rw [List.length_append, List.length_append]; omega) (by rw [List.length_append, List.length_append]; omega) n3 e2 u2 (fun z2 => ?_) (fun z2 D4 dl4 u4 => ?_)
          · rcases t_bdI e2 hk with ⟨y, _⟩ | ⟨_, hk2⟩
            · exact absurd y z2
            · rw [hk2] at hF; exact hF z2
          · rcases t_bdI e2 hk with ⟨_, hk2⟩ | ⟨y, _⟩
            · have eR := (Option.some.inj hk2).symm
              subst eR
              refine kk rfl D4 dl4 ?_
              show t_MM D0 N bt T R2.2.1 0 1 [] (cs ++ (t_or o ++ (R1.2.2 ++ (22, 0) :: R2.2.2))) D4 dl4
              rw [show t_or 1 = [(22, 0)] from rfl] at u4
              simp only [List.append_assoc, List.singleton_append] at u4
              exact u4
            · exact absurd z2 y
        · exact absurd z1 y
    · rw [if_neg z] at hS
      have eR := (Option.some.inj hS).symm
      subst eR
      refine c_YY ho hx hg hM hc3 (fun y => absurd y n223) (fun y => absurd y z) (fun _ _ D' u => kk rfl D' dl ?_)
      show t_MM D0 N bt T j 0 1 [] (cs ++ (t_or o ++ [])) D' dl
      rw [List.append_nil]; exact u
/-- either -/
theorem c_eitM (hx : t_mx D0 N bt T L) (hg : q_Gr n ln dr) (hC : t_tc N bt C = 131) (hC2 : ∀ j, j < C → ¬ t_tc N bt j = 131) (h3 : ∀ j, 300 ≤ t_tc N bt j → ∃ v, v ≤ 10000 ∧ t_tc N bt j = nI (300 + v)) {f j : Nat} {cs : List (Nat × Nat)} {D : Nat → Nat → Int32} {dl : Nat → Nat → Int64} {R : t_R} (hj : j ≤ C) (hf : 10 * (C - j) + 6 ≤ f + 1) (hc : cs.length + (C - j) ≤ 300) (hc3 : cs.length < j) (hC3 : C ≤ 300) (hS : t_S (t_tc N bt) L (f + 1) 8 0 j = some R) (hM : t_MN D0 N bt T j 0 cs D dl) (hF : ¬ R.1 = 0 → t_FC n sl ln dr Q D0 N bt T R.1 R.2.1) (kk : R.1 = 0 → ∀ D' dl', t_MM D0 N bt T R.2.1 0 1 [] (cs ++ R.2.2) D' dl' → Q (some (.int 0)) (n, sl, ln, D', dl', dr)) : q_EX q_KD (e + 7) 138 0 [.ref 67, .retAddr 0, .retAddr 0, .retAddr 0, .retAddr 0, .retAddr 0] [] (n, sl, ln, D, dl, dr) Q := by
  unfold t_S at hS
  obtain ⟨f', rfl⟩ : ∃ f', f = f' + 1 := ⟨f - 1, by omega⟩
  obtain ⟨R1, e1, g1⟩ := t_SG (L := L) hC hC2 h3 (f' + 1) 6 0 j (by decide) hj (by show 10 * (C - j) + 4 + 1 ≤ f' + 1; omega)
  refine p138_0 hg ?_
  refine c_E6 (o := 0) (Nat.zero_le 1) hx hg hC hC2 h3 (f := f') hj (by omega) hc e1 hM (fun z1 => ?_) (fun z1 n3 D2 dl2 u2 => ?_)
  · rcases t_bdI e1 hS with ⟨y, _⟩ | ⟨_, hk⟩
    · exact absurd y z1
    · rw [hk] at hF; exact hF z1
  · obtain ⟨a1, a2, a3, a4, a5, a6⟩ := g1.1 z1
    have a2' := a2 rfl
    rcases t_bdI e1 hS with ⟨_, hk⟩ | ⟨y, _⟩
    · obtain ⟨R2, e2, g2⟩ := t_SG (L := L) hC hC2 h3 (f' + 1) 9 0 R1.2.1 (by decide) a3 (by show 10 * (C - R1.2.1) + 0 + 1 ≤ f' + 1; omega)
      refine c_E9 hx hg hC hC2 h3 (f' + 1) 0 R1.2.1 _ D2 dl2 R2 (Nat.zero_le 1) a3 (by omega) (by rw [List.length_append]; omega) (by rw [List.length_append]; omega) n3 e2 u2 (fun z2 => ?_) (fun z2 D4 dl4 u4 => ?_)
      · rcases t_bdI e2 hk with ⟨y, _⟩ | ⟨_, hk2⟩
        · exact absurd y z2
        · rw [hk2] at hF; exact hF z2
      · rcases t_bdI e2 hk with ⟨_, hk2⟩ | ⟨y, _⟩
        · have eR := (Option.some.inj hk2).symm
          subst eR
          refine kk rfl D4 dl4 ?_
          rw [show t_or 0 = [] from rfl, List.nil_append, List.append_assoc] at u4
          exact u4
        · exact absurd z2 y
    · exact absurd z1 y
end
