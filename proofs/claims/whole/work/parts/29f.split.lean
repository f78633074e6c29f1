/-! Tokens.signs, Tokens.split -/
section
variable {d n sl : Nat} {ln : Nat → Nat} {di : Nat → Nat → Int32} {dl : Nat → Nat → Int64} {dr : Nat → Nat → Option Nat} {Q : Option Value → q_H → Prop} {N : Nat} {bt : Nat → Int32}
theorem c_signs {c c2 : Int32} (hg : q_Gr n ln dr) (kk : Q (some (.int (t_sg c c2).1)) (n, sl, ln, di, dl, dr)) : q_EX q_KD d 38 0 [.int c, .int c2] [] (n, sl, ln, di, dl, dr) Q := by
  have e1 : ∀ v, (v = 61 ∨ v = 35 ∨ v = 43 ∨ v = 45 ∨ v = 42 ∨ v = 47 ∨ v = 40 ∨ v = 41 ∨ v = 59) → ¬ v = 60 → ¬ v = 62 → c = v → Q (some (.int c)) (n, sl, ln, di, dl, dr) := fun v hv h1 h2 e => by
    subst e
    unfold t_sg at kk
    rwa [if_neg h1, if_neg h2, if_pos hv] at kk
  have e2 : ¬ (c = 61 ∨ c = 35 ∨ c = 43 ∨ c = 45 ∨ c = 42 ∨ c = 47 ∨ c = 40 ∨ c = 41 ∨ c = 59) → ¬ c = 60 → ¬ c = 62 → Q (some (.int 132)) (n, sl, ln, di, dl, dr) := fun hv h1 h2 => by
    unfold t_sg at kk
    rwa [if_neg h1, if_neg h2, if_neg hv] at kk
  exact g38_0 hg (fun e => e1 35 (by decide) (by decide) (by decide) e) (fun e => e2 (by rw [e]; decide) (by rw [e]; decide) (by rw [e]; decide)) (fun e => e2 (by rw [e]; decide) (by rw [e]; decide) (by rw [e]; decide)) (fun e => e2 (by rw [e]; decide) (by rw [e]; decide) (by rw [e]; decide)) (fun e => e2 (by rw [e]; decide) (by rw [e]; decide) (by rw [e]; decide)) (fun e => e1 40 (by decide) (by decide) (by decide) e) (fun e => e1 41 (by decide) (by decide) (by decide) e) (fun e => e1 42 (by decide) (by decide) (by decide) e) (fun e => e1 43 (by decide) (by decide) (by decide) e) (fun e => e2 (by rw [e]; decide) (by rw [e]; decide) (by rw [e]; decide)) (fun e => e1 45 (by decide) (by decide) (by decide) e) (fun e => e2 (by rw [e]; decide) (by rw [e]; decide) (by rw [e]; decide)) (fun e => e1 47 (by decide) (by decide) (by decide) e) (fun e => e2 (by rw [e]; decide) (by rw [e]; decide) (by rw [e]; decide)) (fun e => e2 (by rw [e]; decide) (by rw [e]; decide) (by rw [e]; decide)) (fun e => e2 (by rw [e]; decide) (by rw [e]; decide) (by rw [e]; decide)) (fun e => e2 (by rw [e]; decide) (by rw [e]; decide) (by rw [e]; decide)) (fun e => e2 (by rw [e]; decide) (by rw [e]; decide) (by rw [e]; decide)) (fun e => e2 (by rw [e]; decide) (by rw [e]; decide) (by rw [e]; decide)) (fun e => e2 (by rw [e]; decide) (by rw [e]; decide) (by rw [e]; decide)) (fun e => e2 (by rw [e]; decide) (by rw [e]; decide) (by rw [e]; decide)) (fun e => e2 (by rw [e]; decide) (by rw [e]; decide) (by rw [e]; decide)) (fun e => e2 (by rw [e]; decide) (by rw [e]; decide) (by rw [e]; decide)) (fun e => e2 (by rw [e]; decide) (by rw [e]; decide) (by rw [e]; decide)) (fun e => e1 59 (by decide) (by decide) (by decide) e) (fun e z => by unfold t_sg at kk; rwa [if_pos e, if_neg z] at kk) (fun e z => by unfold t_sg at kk; rwa [if_pos e, if_pos z] at kk) (fun e => e1 61 (by decide) (by decide) (by decide) e) (fun e z => by unfold t_sg at kk; rwa [if_neg (show ¬ c = 60 by rw [e]; decide), if_pos e, if_neg z] at kk) (fun e z => by unfold t_sg at kk; rwa [if_neg (show ¬ c = 60 by rw [e]; decide), if_pos e, if_pos z] at kk) (fun h35 h36 h37 h38 h39 h40 h41 h42 h43 h44 h45 h46 h47 h48 h49 h50 h51 h52 h53 h54 h55 h56 h57 h58 h59 h60 h61 h62 => e2 (fun z => z.elim h61 (fun z => z.elim h35 (fun z => z.elim h43 (fun z => z.elim h45 (fun z => z.elim h42 (fun z => z.elim h47 (fun z => z.elim h40 (fun z => z.elim h41 h59)))))))) h60 h62)
def t_sfr (di D : Nat → Nat → Int32) : Prop := (∀ k, ¬ k = 40 → ¬ k = 42 → ¬ k = 43 → D k = di k) ∧ (∀ i, ¬ i = 4 → D 40 i = di 40 i)
/-- tokens found so far -/
def t_fo (N : Nat) (bt : Nat → Int32) (j : Nat) (D : Nat → Nat → Int32) : Prop := ∀ p, p < j → D 42 p = t_tc N bt p ∧ D 43 p = nI (t_bg N bt p)
theorem t_fo_s {j : Nat} {D : Nat → Nat → Int32} {c : Int32} {b : Nat} (h : t_fo N bt j D) (hc : t_tc N bt j = c) (hb : t_bg N bt j = b) : t_fo N bt (j + 1) (q_u (q_u D 43 j (nI b)) 42 j c) := by
  intro p hp
  by_cases e : p = j
  · subst e
    exact ⟨by rw [q_uE, hc], by rw [q_uR (by decide), q_uE, hb]⟩
  · rw [q_uN _ _ _ _ _ e, q_uR (by decide), q_uR (by decide), q_uN _ _ _ _ _ e]
    exact h p (by omega)
set_option maxHeartbeats 1000000 in
theorem c_split9 {C : Nat} (hN : N ≤ 300) (h3 : di 40 3 = nI N) (hb : ∀ i, i < N → di 41 i &&& 255 = bt i) (h5 : ∀ i, i < 134 → di 5 i = q_byt.getD i 0) (hg : q_Gr n ln dr) (hC : C ≤ N) (hC1 : t_tc N bt C = 131) (hC2 : ∀ j, j < C → ¬ t_tc N bt j = 131)
    (kk : ∀ D, t_sfr di D → D 40 4 = nI C → t_fo N bt (C + 1) D → Q none (n, sl, ln, D, dl, dr)) :
    ∀ (c x i j : Nat) (D : Nat → Nat → Int32), N - x ≤ c → x ≤ N → i ≤ x → j ≤ C → t_nt N bt x (t_bg N bt j) (t_tc N bt j) (t_ps N bt (j + 1)) → t_sfr di D → D 40 4 = nI j → t_fo N bt j D → q_EX q_KD (d + 5) 23 9 [.ref 40, .int (nI x), .int (nI i), .retAddr 0, .retAddr 0] [] (n, sl, ln, D, dl, dr) Q := by
  have fin : ∀ (x j : Nat) (D : Nat → Nat → Int32), x = N → j ≤ C → t_nt N bt x (t_bg N bt j) (t_tc N bt j) (t_ps N bt (j + 1)) → t_sfr di D → D 40 4 = nI j → t_fo N bt j D → Q none (n, sl, ln, q_u (q_u D 42 (D 40 4).toNatClampNeg 131) 43 (D 40 4).toNatClampNeg (D 40 3), dl, dr) := by
    intro x j D hx hj hnt hfr h4 hff
    have hp : t_bg N bt j = N := by have := hnt.1.1; have := hnt.2.1; omega
    have hc : t_tc N bt j = 131 := (t_tk_end hnt.2.2.2).mpr hp
    have hjC : j = C := by
      rcases Nat.lt_or_ge j C with y | y
      · exact absurd hc (hC2 j y)
      · omega
    subst hjC
    rw [h4, nI_clamp (by omega), hfr.2 3 (by decide), h3]
    refine kk _ ⟨fun k h1 h2 h3 => by rw [q_uR h3, q_uR h2]; exact hfr.1 k h1 h2 h3, fun i hi => by rw [q_uR (by decide), q_uR (by decide)]; exact hfr.2 i hi⟩ (by rw [q_uR (by decide), q_uR (by decide)]; exact h4) (fun p hp' => ?_)
    by_cases e : p = j
    · subst e
      exact ⟨by rw [q_uR (by decide), q_uE, hc], by rw [q_uE, hp]⟩
    · rw [q_uR (by decide), q_uN _ _ _ _ _ e, q_uN _ _ _ _ _ e, q_uR (by decide)]
      exact hff p (by omega)
  intro c
  induction c with
  | zero =>
    intro x i j D hx hxN hi hj hnt hfr h4 hff
    have ex : x = N := by omega
    have v4 : vp_in (D 40 4) 301 := by rw [h4]; exact vp_in_nI (by omega) (by decide)
    have e3 : D 40 3 = nI N := by rw [hfr.2 3 (by decide)]; exact h3
    have ff := fin x j D ex hj hnt hfr h4 hff
    exact g23_9 hg (fun _ => v4) (fun _ => v4) (fun _ => ff) (fun _ _ => v4) (fun _ _ => v4) (fun _ _ => ff) (fun _ w => absurd w (by rw [e3]; exact nI_nlt (by omega) (by omega)))
  | succ c ih =>
    intro x i j D hx hxN hi hj hnt hfr h4 hff
    have v4 : vp_in (D 40 4) 301 := by rw [h4]; exact vp_in_nI (by omega) (by decide)
    have e3 : D 40 3 = nI N := by rw [hfr.2 3 (by decide)]; exact h3
    have eb : ∀ i, i < N → D 41 i &&& 255 = bt i := fun i hi => by rw [hfr.1 41 (by decide) (by decide) (by decide)]; exact hb i hi
    have e5 : ∀ i, i < 134 → D 5 i = q_byt.getD i 0 := fun i hi => by rw [hfr.1 5 (by decide) (by decide) (by decide)]; exact h5 i hi
    rcases Nat.lt_or_ge x N with hlt | hge
    · refine g23_9 hg (fun w => absurd ((nI_leI (a := 300) (b := i) (by decide) (by omega)).mp w) (by omega)) (fun w => absurd ((nI_leI (a := 300) (b := i) (by decide) (by omega)).mp w) (by omega)) (fun w => absurd ((nI_leI (a := 300) (b := i) (by decide) (by omega)).mp w) (by omega)) (fun _ w => absurd w (by rw [e3]; exact nI_ge hlt (by omega))) (fun _ w => absurd w (by rw [e3]; exact nI_ge hlt (by omega))) (fun _ w => absurd w (by rw [e3]; exact nI_ge hlt (by omega))) (fun _ _ => ?_)
      have hby : t_by N bt x = bt x := by unfold t_by; rw [if_pos hlt]
      refine c_sign (N := N) (bt := bt) hN (by omega) e3 eb hg (g23_29 hg ?_)
      rw [hby, nI_1]
      refine c_isBl hg (fun hbl => g23_39 hg (fun _ => ?_) (fun w => absurd w (by decide)) (fun w => absurd w (by decide))) (fun hbl => g23_39 hg (fun w => absurd rfl w) (fun _ => v4) (fun _ => ?_))
      · rw [nI_1]
        exact ih (x + 1) (i + 1) j D (by omega) (by omega) (by omega) hj ⟨t_re_s hnt.1 ⟨hlt, hbl⟩, hnt.2⟩ hfr h4 hff
      · have hpx : t_bg N bt j = x := t_re_0 hnt.1 (fun z => hbl z.2)
        obtain ⟨_, _, hq, htk⟩ := hnt
        rw [hpx] at htk
        have hnC : ¬ t_tc N bt j = 131 := fun e => by have := (t_tk_end htk).mp e; omega
        have hjC : j < C := by
          rcases Nat.lt_or_ge j C with y | y
          · exact y
          · exact absurd (by rw [show j = C by omega]; exact hC1) hnC
        have hxq := t_tk_lt htk hlt
        rw [h4, nI_clamp (by omega)]
        obtain ⟨E, hE⟩ : ∃ E, E = q_u D 43 j (nI x) := ⟨_, rfl⟩
        rw [← hE]
        have Eo : ∀ k, ¬ k = 43 → E k = D k := fun k hk => by rw [hE]; exact q_uR hk
        have E4 : E 40 4 = nI j := by rw [Eo 40 (by decide)]; exact h4
        have E3 : E 40 3 = nI N := by rw [Eo 40 (by decide)]; exact e3
        have EB : ∀ i, i < N → E 41 i &&& 255 = bt i := fun i hi => by rw [Eo 41 (by decide)]; exact eb i hi
        have E5 : ∀ i, i < 134 → E 5 i = q_byt.getD i 0 := fun i hi => by rw [Eo 5 (by decide)]; exact e5 i hi
        have hjn : (nI j).toNatClampNeg = j := nI_clamp (by omega)
        have vj : vp_in (nI j) 301 := vp_in_nI (by omega) (by decide)
        -- behind the token: the rest
        have go : ∀ v, t_tc N bt j = v → q_EX q_KD (d + 5) 23 9 [.ref 40, .int (nI (t_ps N bt (j + 1))), .int (nI i + 1), .retAddr 0, .retAddr 0] [] (n, sl, ln, q_u (q_u E 42 j v) 40 4 (E 40 4 + 1), dl, dr) Q := fun v hv => by
          rw [E4, nI_1, nI_1]
          refine ih (t_ps N bt (j + 1)) (i + 1) (j + 1) _ (by omega) hq (by omega) (by omega) (t_seq N bt (j + 1)) ⟨fun k h1 h2 h3 => ?_, fun i hi => ?_⟩ (q_uE _ _ _ _) ?_
          · rw [q_uR h1, q_uR h2, Eo k h3]; exact hfr.1 k h1 h2 h3
          · rw [q_uN _ _ _ _ _ hi, q_uR (by decide), Eo 40 (by decide)]; exact hfr.2 i hi
          · have h1 := t_fo_s hff hv hpx
            rw [← hE] at h1
            intro p hp
            exact h1 p hp
        rcases htk with ⟨a1, a2, a3⟩ | ⟨a1, a2, a3, a4⟩ | ⟨a1, a2, a3, a4⟩ | ⟨a1, a2, a3, a4, a5, a6⟩
        · omega
        · refine c_isLe hg (fun _ => g23_56 hg (fun w => absurd w (by decide)) (fun _ => ?_)) (fun z => absurd a2 z)
          refine c_beL (d := d + 3) (e := t_ps N bt (j + 1)) hN E3 EB hg hq (t_re_s a3 ⟨a1, a2⟩) (g23_65 hg ?_)
          refine c_word (d := d) hN E3 EB E5 hg hq (by omega) (fun k h1 h2 => (a3.2.1 k h1 h2).2) ?_
          rw [E4]
          refine g23_82 hg vj ?_
          rw [hjn, ← a4]
          exact go _ rfl
        · have hnl : ¬ t_le (bt x) := fun z => by
            obtain ⟨v, v1, v2⟩ := t_dgN a2
            obtain ⟨u, u1, u2, u3⟩ := t_leN z
            rw [v2] at u3
            have := (nI_eq (by omega) (by omega)).mp u3
            omega
          refine c_isLe hg (fun z => absurd z hnl) (fun _ => g23_56 hg (fun _ => c_isDg hg (fun _ => g23_90 hg (fun w => absurd w (by decide)) (fun _ => ?_)) (fun z => absurd a2 z)) (fun w => absurd rfl w))
          refine c_beD (d := d + 3) (e := t_ps N bt (j + 1)) hN E3 EB hg hq (t_re_s a3 ⟨a1, a2⟩) (g23_99 hg ?_)
          refine c_num (d := d + 3) hN E3 EB hg hq (by omega) (fun k h1 h2 => a3.2.1 k h1 h2) ?_
          rw [E4]
          refine g23_119 hg vj ?_
          have e300 : (300 : Int32) + nI (t_nu bt (t_ps N bt (j + 1) - x) x 0) = t_tc N bt j := by rw [a4, show (300 : Int32) = nI 300 from rfl, nI_add]
          rw [hjn, e300]
          exact go _ rfl
        · refine c_isLe hg (fun z => absurd z a2) (fun _ => g23_56 hg (fun _ => c_isDg hg (fun z => absurd z a3) (fun _ => g23_90 hg (fun _ => ?_) (fun w => absurd rfl w))) (fun w => absurd rfl w))
          rw [nI_1]
          refine c_sign (N := N) (bt := bt) hN (by omega) E3 EB hg (g23_140 hg (c_signs hg ?_))
          rw [← a5]
          have u42 : (q_u E 42 j (t_tc N bt j)) 42 j = t_tc N bt j := q_uE _ _ _ _
          have hlen : (t_tc N bt j = 128 ∨ t_tc N bt j = 129 → t_ps N bt (j + 1) = x + 1 + 1) ∧ (¬ t_tc N bt j = 128 → ¬ t_tc N bt j = 129 → t_ps N bt (j + 1) = x + 1) := by
            rw [a5, a6]
            unfold t_sg
            by_cases h1 : bt x = 60
            · rw [if_pos h1]
              by_cases h2 : t_by N bt (x + 1) = 61
              · rw [if_pos h2]; exact ⟨fun _ => rfl, fun z => absurd rfl z⟩
              · rw [if_neg h2]
                refine ⟨fun z => ?_, fun _ _ => rfl⟩
                rw [h1] at z
                exact absurd z (by decide)
            · rw [if_neg h1]
              by_cases h4 : bt x = 62
              · rw [if_pos h4]
                by_cases h2 : t_by N bt (x + 1) = 61
                · rw [if_pos h2]; exact ⟨fun _ => rfl, fun _ z => absurd rfl z⟩
                · rw [if_neg h2]
                  refine ⟨fun z => ?_, fun _ _ => rfl⟩
                  rw [h4] at z
                  exact absurd z (by decide)
              · rw [if_neg h4]
                by_cases h6 : bt x = 61 ∨ bt x = 35 ∨ bt x = 43 ∨ bt x = 45 ∨ bt x = 42 ∨ bt x = 47 ∨ bt x = 40 ∨ bt x = 41 ∨ bt x = 59
                · rw [if_pos h6]
                  refine ⟨fun z => ?_, fun _ _ => rfl⟩
                  exfalso
                  rcases h6 with y | y | y | y | y | y | y | y | y <;> (rw [y] at z; exact absurd z (by decide))
                · rw [if_neg h6]
                  exact ⟨fun z => absurd z (by decide), fun _ _ => rfl⟩
          rw [E4]
          refine g23_143 hg vj (by rw [E4]; exact vj) (fun w => ?_) (fun _ => by rw [E4]; exact vj) (fun w1 w2 => ?_) (fun w1 w2 => ?_)
          · rw [E4, hjn, u42] at w
            rw [hjn, nI_1, ← hlen.1 (Or.inl w)]
            exact go _ rfl
          · rw [E4, hjn, u42] at w1 w2
            rw [hjn, Int32.add_zero, ← hlen.2 w1 w2]
            exact go _ rfl
          · rw [E4, hjn, u42] at w2
            rw [hjn, nI_1, ← hlen.1 (Or.inr w2)]
            exact go _ rfl
    · have ff := fin x j D (by omega) hj hnt hfr h4 hff
      exact g23_9 hg (fun _ => v4) (fun _ => v4) (fun _ => ff) (fun _ _ => v4) (fun _ _ => v4) (fun _ _ => ff) (fun _ w => absurd w (by rw [e3]; exact nI_nlt (by omega) (by omega)))
theorem c_split {C : Nat} (hN : N ≤ 300) (h3 : di 40 3 = nI N) (hb : ∀ i, i < N → di 41 i &&& 255 = bt i) (h5 : ∀ i, i < 134 → di 5 i = q_byt.getD i 0) (hg : q_Gr n ln dr) (hC : C ≤ N) (hC1 : t_tc N bt C = 131) (hC2 : ∀ j, j < C → ¬ t_tc N bt j = 131)
    (kk : ∀ D, t_sfr di D → D 40 4 = nI C → t_fo N bt (C + 1) D → Q none (n, sl, ln, D, dl, dr)) : q_EX q_KD (d + 5) 23 0 [.ref 40, .retAddr 0, .retAddr 0, .retAddr 0, .retAddr 0] [] (n, sl, ln, di, dl, dr) Q := by
  refine g23_0 hg ?_
  refine c_split9 (d := d) (di := di) hN h3 hb h5 hg hC hC1 hC2 kk N 0 0 0 _ (by omega) (by omega) (Nat.le_refl _) (Nat.zero_le _) (t_seq N bt 0) ⟨fun k h1 _ _ => q_uR h1, fun i hi => q_uN _ _ _ _ _ hi⟩ (q_uE _ _ _ _) (fun p hp => absurd hp (Nat.not_lt_zero p))
end
