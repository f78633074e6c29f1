section
variable {d n sl : Nat} {ln : Nat → Nat} {dl : Nat → Nat → Int64} {dr : Nat → Nat → Option Nat} {Q : Option Value → q_H → Prop} {tk : Nat → Int32} {bg : Nat → Nat} {C F : Nat} {H0 : Nat → Nat → Int32}
theorem c_rd68 (hh : t_hx H0 tk bg C) (hC : tk C = 131) (hC2 : ∀ j, j < C → ¬ tk j = 131) (h3 : ∀ j, 300 ≤ tk j → ∃ v, v ≤ 10000 ∧ tk j = nI (300 + v)) (htk : ∀ j, ∃ v, v ≤ 10300 ∧ tk j = nI v) (hF : 3010 ≤ F) (hg : q_Gr n ln dr) : ∀ (g : Nat) (ks : List t_k3) (cs : List (Nat × Nat)) (j : Nat) (A : Int32) (E : Nat → Nat → Int32), 26 ≤ g + ks.length → j ≤ C → t_KG ks cs j A → t_XX H0 tk ks cs A j E →
    (∀ j' ks' cs' A' E', t_TT F tk g ks cs j = (0, j', ks', cs') → t_KG ks' cs' j' A' → t_XX H0 tk ks' cs' A' j' E' → j' ≤ C → Q (some (.int 1)) (n, sl, ln, E', dl, dr)) →
    (∀ fl p ks' cs' E', t_TT F tk g ks cs j = (fl, p, ks', cs') → ¬ fl = 0 → fl ≤ 6 → p ≤ C → t_XE H0 (nI fl) (nI (bg p)) E' → Q (some (.int 0)) (n, sl, ln, E', dl, dr)) →
    q_EX q_KD (d + 61) 22 68 [.ref 39, .int (nI ks.length)] [] (n, sl, ln, E, dl, dr) Q := by
  intro g
  induction g with
  | zero => intro ks cs j A E h1 _ hK; have := hK.1; omega
  | succ g ih =>
    intro ks cs j A E h1 hj hK hX k1 k0
    have kl := hK.1
    have n24 : ¬ 24 < nI ks.length := nI_nlt (a := 24) (by omega) (by decide)
    have X8 := hX.2.2.1
    have X13 : E 39 13 = 0 := hX.2.2.2.2.2.2.1
    by_cases z : tk j = 131
    · refine g22_68 hg (fun w => absurd w n24) (fun w => absurd w n24) (fun _ _ w => absurd X13 w) (fun _ _ _ => ?_) (fun _ w => absurd (X8.trans z) w)
      exact k1 j ks cs A E (by unfold t_TT; rw [if_pos z]) hK hX hj
    · have hjC := t_neC hC hj z
      refine g22_68 hg (fun w => absurd w n24) (fun w => absurd w n24) (fun _ w => absurd (X8.symm.trans w) z) (fun _ w => absurd (X8.symm.trans w) z) (fun _ _ => ?_)
      have gO := t_cla_g (F := F) (ks := ks) (W := cs.length) htk hC hC2 h3 hh.2.1 hF hj
      refine c_claX (d := d) hh hC hC2 h3 htk hF hg hK hjC hX (fun h0 E' hX' hk => g22_88 hg ?_) (fun h0 E' hE => g22_88 hg ?_)
      · have eT : t_TT F tk (g + 1) ks cs j = t_TT F tk g (ks ++ [(t_cla F tk ks cs.length j).2.2.1]) (cs ++ (t_cla F tk ks cs.length j).2.2.2) (t_cla F tk ks cs.length j).2.1 := by
          rw [t_TT, if_neg z, if_pos h0]
        rw [eT] at k1 k0
        rw [nI_1, show ks.length + 1 = (ks ++ [(t_cla F tk ks cs.length j).2.2.1]).length by rw [List.length_append]; rfl]
        exact ih _ _ _ _ E' (by rw [List.length_append]; show 26 ≤ g + (ks.length + 1); omega) (gO.1 h0).2.1 (t_KGs hK hk gO h0) hX' k1 k0
      · have eT : t_TT F tk (g + 1) ks cs j = ((t_cla F tk ks cs.length j).1, (t_cla F tk ks cs.length j).2.1, ks, cs) := by
          rw [t_TT, if_neg z, if_neg h0]
        have fin := k0 _ _ _ _ E' eT h0 (gO.2 h0).1 (gO.2 h0).2 hE
        have ne : ¬ E' 39 13 = 0 := by rw [hE.2.2.1]; exact hE.2.1
        exact g22_68 hg (fun _ _ => fin) (fun _ w => absurd w ne) (fun _ _ _ => fin) (fun _ _ w => absurd w ne) (fun _ w => absurd hE.2.2.2.2 w)
end
section
variable {d n sl N F : Nat} {ln : Nat → Nat} {dl : Nat → Nat → Int64} {dr : Nat → Nat → Option Nat} {Q : Option Value → q_H → Prop} {bt : Nat → Int32} {di : Nat → Nat → Int32}
/-- the class reads the tape -/
theorem c_readX {C : Nat} (hN : N ≤ 300) (h3 : di 40 3 = nI N) (hb : ∀ i, i < N → di 41 i &&& 255 = bt i) (h5 : ∀ i, i < 134 → di 5 i = q_byt.getD i 0) (hn3 : ∀ i, i < 3 → di 3 i = q_nol.getD i 0) (hg : q_Gr n ln dr) (hC : C ≤ N) (hC1 : t_tc N bt C = 131) (hC2 : ∀ j, j < C → ¬ t_tc N bt j = 131) (hF : 3010 ≤ F)
    (k1 : ∀ H0 j' ks' cs' A' E', (∀ k, t_nr k → ¬ k = 40 → ¬ k = 42 → ¬ k = 43 → H0 k = di k) → (∀ i, ¬ i = 4 → H0 40 i = di 40 i) → t_TT F (t_tc N bt) 26 [] [] 0 = (0, j', ks', cs') → t_KG ks' cs' j' A' → t_XX H0 (t_tc N bt) ks' cs' A' j' E' → j' ≤ C → Q (some (.int 1)) (n, sl, ln, E', dl, dr))
    (k0 : ∀ H0 fl p ks' cs' E', (∀ k, t_nr k → ¬ k = 40 → ¬ k = 42 → ¬ k = 43 → H0 k = di k) → (∀ i, ¬ i = 4 → H0 40 i = di 40 i) → t_TT F (t_tc N bt) 26 [] [] 0 = (fl, p, ks', cs') → ¬ fl = 0 → fl ≤ 6 → p ≤ C → t_XE H0 (nI fl) (nI (t_bg N bt p)) E' → Q (some (.int 0)) (n, sl, ln, E', dl, dr)) :
    q_EX q_KD (d + 61) 22 0 [.ref 39, .retAddr 0] [] (n, sl, ln, di, dl, dr) Q := by
  obtain ⟨B, hB⟩ : ∃ B, B = q_u (q_u (q_u (q_u (q_u di 39 13 0) 39 14 (-1)) 39 9 0) 39 10 0) 39 12 0 := ⟨_, rfl⟩
  have B39 : B 39 13 = 0 ∧ B 39 14 = -1 ∧ B 39 9 = 0 ∧ B 39 10 = 0 ∧ B 39 12 = 0 := by rw [hB]; exact ⟨rfl, rfl, rfl, rfl, rfl⟩
  have Bo : ∀ k, ¬ k = 39 → B k = di k := fun k hk => by rw [hB, q_uR hk, q_uR hk, q_uR hk, q_uR hk, q_uR hk]
  refine g22_0 hg ?_
  rw [← hB]
  clear hB
  refine c_fill 45 3 (by decide) (hg.2.1 45 3 rfl) rfl (q_lt hg rfl) (by decide) hg (g22_33 hg (c_fill 46 3 (by decide) (hg.2.1 46 3 rfl) rfl (q_lt hg rfl) (by decide) hg (g22_41 hg ?_)))
  obtain ⟨G, hG⟩ : ∃ G, G = q_fill (q_fill B 45 0 3 0) 46 0 3 0 := ⟨_, rfl⟩
  have G45 : ∀ i, i < 3 → G 45 i = 0 ∧ G 46 i = 0 := fun i hi => by
    rw [hG, q_fillO (by decide), q_fillI, q_fillI, if_pos ⟨Nat.zero_le _, by omega⟩, if_pos ⟨Nat.zero_le _, by omega⟩]
    exact ⟨rfl, rfl⟩
  have Go : ∀ k, ¬ k = 45 → ¬ k = 46 → G k = B k := fun k h1 h2 => by
    funext i
    rw [hG, q_fillO h2, q_fillO h1]
  rw [← hG]
  clear hG
  have Gd : ∀ k, ¬ k = 39 → ¬ k = 45 → ¬ k = 46 → G k = di k := fun k a b c => (Go k b c).trans (Bo k a)
  refine c_split (N := N) (bt := bt) hN (by rw [Gd 40 (by decide) (by decide) (by decide)]; exact h3) (by rw [Gd 41 (by decide) (by decide) (by decide)]; exact hb) (by rw [Gd 5 (by decide) (by decide) (by decide)]; exact h5) hg hC hC1 hC2 (fun D f1 f2 f3 => g22_48 hg ?_)
  have D39 : D 39 = B 39 := (f1.1 39 (by decide) (by decide) (by decide)).trans (Go 39 (by decide) (by decide))
  have e42 : D 42 0 = t_tc N bt 0 := (f3 0 (by omega)).1
  rw [e42]
  obtain ⟨E, hE⟩ : ∃ E, E = q_u (q_u D 39 7 0) 39 8 (t_tc N bt 0) := ⟨_, rfl⟩
  have Eo : ∀ k, ¬ k = 39 → E k = D k := fun k hk => by rw [hE, q_uR hk, q_uR hk]
  have E39 : ∀ i, ¬ i = 7 → ¬ i = 8 → E 39 i = B 39 i := fun i a b => by rw [hE, q_uN _ _ _ _ _ b, q_uN _ _ _ _ _ a, D39]
  have E7 : E 39 7 = nI 0 ∧ E 39 8 = t_tc N bt 0 := by rw [hE]; exact ⟨rfl, rfl⟩
  have fr1 : ∀ k, t_nr k → ¬ k = 40 → ¬ k = 42 → ¬ k = 43 → E k = di k := fun k hk a b c => by
    rw [Eo k hk.1, f1.1 k a b c]
    exact Gd k hk.1 hk.2.2.1 hk.2.2.2.1
  have fr2 : ∀ i, ¬ i = 4 → E 40 i = di 40 i := fun i hi => by
    rw [Eo 40 (by decide), f1.2 i hi, Gd 40 (by decide) (by decide) (by decide)]
  have hh : t_hx E (t_tc N bt) (t_bg N bt) C := ⟨by rw [Eo 40 (by decide)]; exact f2, by omega, fun p hp => by rw [Eo 42 (by decide), Eo 43 (by decide)]; exact f3 p (by omega), fun i hi => by rw [fr1 3 (by unfold t_nr; omega) (by decide) (by decide) (by decide)]; exact hn3 i hi⟩
  have hX : t_XX E (t_tc N bt) [] [] 0 0 E := by
    refine ⟨fun _ _ => rfl, E7.1, E7.2, ?_, ?_, ?_, ?_, ?_, fun i hi => absurd hi (Nat.not_lt_zero i), fun L hL => ⟨fun _ => ?_, fun k hk => absurd hk List.not_mem_nil⟩, fun i hi => absurd hi (Nat.not_lt_zero i)⟩
    · rw [E39 9 (by decide) (by decide)]; exact B39.2.2.1
    · rw [E39 10 (by decide) (by decide)]; exact B39.2.2.2.1
    · rw [E39 12 (by decide) (by decide)]; exact B39.2.2.2.2
    · rw [E39 13 (by decide) (by decide)]; exact B39.1
    · rw [E39 14 (by decide) (by decide)]; exact B39.2.1
    · rw [Eo 45 (by decide), Eo 46 (by decide), f1.1 45 (by decide) (by decide) (by decide), f1.1 46 (by decide) (by decide) (by decide)]
      exact G45 L hL
  rw [← hE]
  exact c_rd68 (d := d) hh hC1 hC2 (t_tc3 N bt) (t_tcv N bt) hF hg 26 [] [] 0 0 E (by decide) (Nat.zero_le _) t_KG0 hX (fun j' ks' cs' A' E' a b c e => k1 E j' ks' cs' A' E' fr1 fr2 a b c e) (fun fl p ks' cs' E' a b b' c e => k0 E fl p ks' cs' E' fr1 fr2 a b b' c e)
end
