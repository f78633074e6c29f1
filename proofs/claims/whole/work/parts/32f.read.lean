theorem t_tkv {N p q : Nat} {bt : Nat → Int32} {c : Int32} (h : t_tk N bt p c q) : ∃ v, v ≤ 10300 ∧ c = nI v := by
  rcases h with ⟨_, h, _⟩ | ⟨_, _, _, h⟩ | ⟨_, _, _, h⟩ | ⟨_, _, _, _, h, _⟩
  · exact ⟨131, by decide, h⟩
  · rcases t_wd_e (t_lst bt (q - p) p) with e | ⟨i, i1, i2, _⟩
    · exact ⟨132, by decide, h.trans e⟩
    · exact ⟨200 + i, by omega, h.trans i2⟩
  · have := t_nuL bt (q - p) p 0 (by decide)
    exact ⟨_, by omega, h⟩
  · rcases t_sg_e (bt p) (t_by N bt (p + 1)) with e | e | e | ⟨e, s⟩
    · exact ⟨128, by decide, h.trans e⟩
    · exact ⟨129, by decide, h.trans e⟩
    · exact ⟨132, by decide, h.trans e⟩
    · rw [e] at h
      rcases s with s | s | s | s | s | s | s | s | s | s | s <;> rw [s] at h
      · exact ⟨60, by decide, h⟩
      · exact ⟨62, by decide, h⟩
      · exact ⟨61, by decide, h⟩
      · exact ⟨35, by decide, h⟩
      · exact ⟨43, by decide, h⟩
      · exact ⟨45, by decide, h⟩
      · exact ⟨42, by decide, h⟩
      · exact ⟨47, by decide, h⟩
      · exact ⟨40, by decide, h⟩
      · exact ⟨41, by decide, h⟩
      · exact ⟨59, by decide, h⟩
theorem t_tcv (N : Nat) (bt : Nat → Int32) (j : Nat) : ∃ v, v ≤ 10300 ∧ t_tc N bt j = nI v := t_tkv (t_seq N bt j).2.2.2
theorem t_tc3 (N : Nat) (bt : Nat → Int32) (j : Nat) (h : 300 ≤ t_tc N bt j) : ∃ v, v ≤ 10000 ∧ t_tc N bt j = nI (300 + v) := by
  obtain ⟨v, v1, v2⟩ := t_tcv N bt j
  rw [v2] at h
  have := (nI_leI (a := 300) (by decide) (by omega)).mp h
  exact ⟨v - 300, by omega, by rw [v2, show 300 + (v - 300) = v by omega]⟩
section
variable {d n sl : Nat} {ln : Nat → Nat} {dl : Nat → Nat → Int64} {dr : Nat → Nat → Option Nat} {Q : Option Value → q_H → Prop} {tk : Nat → Int32} {bg : Nat → Nat} {C F : Nat} {H0 : Nat → Nat → Int32}
theorem c_claX {ks : List t_k3} {cs : List (Nat × Nat)} {A : Int32} {j : Nat} {E : Nat → Nat → Int32} (hh : t_hx H0 tk bg C) (hC : tk C = 131) (hC2 : ∀ j, j < C → ¬ tk j = 131) (h3 : ∀ j, 300 ≤ tk j → ∃ v, v ≤ 10000 ∧ tk j = nI (300 + v)) (htk : ∀ j, ∃ v, v ≤ 10300 ∧ tk j = nI v) (hF : 3010 ≤ F) (hg : q_Gr n ln dr) (hK : t_KG ks cs j A) (hj : j < C) (hX : t_XX H0 tk ks cs A j E)
    (k1 : (t_cla F tk ks cs.length j).1 = 0 → ∀ E', t_XX H0 tk (ks ++ [(t_cla F tk ks cs.length j).2.2.1]) (cs ++ (t_cla F tk ks cs.length j).2.2.2) (t_as (t_cla F tk ks cs.length j).2.2.1.1 A (t_cla F tk ks cs.length j).2.2.2) (t_cla F tk ks cs.length j).2.1 E' → ks.length < 24 → Q none (n, sl, ln, E', dl, dr))
    (k0 : ¬ (t_cla F tk ks cs.length j).1 = 0 → ∀ E', t_XE H0 (nI (t_cla F tk ks cs.length j).1) (nI (bg (t_cla F tk ks cs.length j).2.1)) E' → Q none (n, sl, ln, E', dl, dr)) : q_EX q_KD (d + 60) 39 0 [.ref 39, .retAddr 0] [] (n, sl, ln, E, dl, dr) Q := by
  obtain ⟨X1, X7, X8, X9, X10, X12, X13, X14, X44, X456, X479⟩ := hX
  have hCl := hh.2.1
  have self := t_LVself (tk := tk) X7 X8 X9 X12
  have cyE : t_cy E tk bg C := ⟨X13, by rw [X1 40 (by unfold t_nr; omega)]; exact hh.1, hCl, fun p hp => by rw [X1 42 (by unfold t_nr; omega), X1 43 (by unfold t_nr; omega)]; exact hh.2.2.1 p hp⟩
  have hcs := hK.2.1
  have rf : ∀ (fl : Nat) (Q' : Option Value → q_H → Prop), 1 ≤ fl → fl ≤ 6 → (∀ E', t_XE H0 (nI fl) (nI (bg j)) E' → Q' none (n, sl, ln, E', dl, dr)) → q_EX q_KD (d + 59) 40 0 [.ref 39, .int (nI fl)] [] (n, sl, ln, E, dl, dr) Q' := by
    intro fl Q' f1 f2 kk
    have := c_refY (d := d + 59) (n := n) (sl := sl) (dl := dl) (Q := Q') (x := nI fl) (j := j) (W := cs.length) (A := A) (r := E 44) cyE (nI_ne0 (by omega) (by omega)) (by omega) (by omega) hg (fun E' hE => kk E' (t_XEof2 hE X1))
    rw [self] at this
    exact this
  obtain ⟨v, v1, v2⟩ := htk j
  by_cases zz : 214 ≤ tk j ∧ tk j ≤ 220
  · have v3 : 214 ≤ v := by
      have := zz.1
      rw [v2] at this
      exact (nI_leI (a := 214) (by decide) (by omega)).mp this
    have v4 : v ≤ 220 := by
      have := zz.2
      rw [v2] at this
      exact (nI_leI (b := 220) (by omega) (by decide)).mp this
    obtain ⟨so, rfl⟩ : ∃ so, v = so + 214 := ⟨v - 214, by omega⟩
    have eo : t_cla F tk ks cs.length j = t_cl2 F tk ks cs.length j so := by
      unfold t_cla
      rw [if_pos zz, v2, nI_clamp (by omega), Nat.add_sub_cancel]
    rw [eo] at k1 k0
    have ex : E 39 8 - 200 = nI (so + 14) := by rw [X8, v2, t_s200 (by omega), show so + 214 - 200 = so + 14 by omega]
    have g14 : ¬ nI (so + 14) < 14 := nI_nlt (b := 14) (by omega) (by omega)
    have g20 : ¬ 20 < nI (so + 14) := nI_nlt (a := 20) (by omega) (by decide)
    have eK : (E 39 10).toNatClampNeg = ks.length := by rw [X10]; exact nI_clamp (by have := hK.1; omega)
    have vK : ks.length < 24 → vp_in (E 39 10) 24 := fun q => by rw [X10]; exact vp_in_nI q (by decide)
    have c24 : ¬ E 39 10 < 24 → 24 ≤ ks.length := fun q => by
      rcases Nat.lt_or_ge ks.length 24 with y | y
      · exact absurd (by rw [X10]; exact nI_lt (b := 24) y (by decide)) q
      · exact y
    have l24 : E 39 10 < 24 → ks.length < 24 := fun q => by
      rw [X10] at q
      exact (nI_ltI (b := 24) (by have := hK.1; omega) (by decide)).mp q
    -- the clause itself
    have go : ks.length < 24 → (so < 3 → ¬ so ∈ ks.map (fun k => k.1)) → q_EX q_KD (d + 59) 41 0 [.ref 39] [] (n, sl, ln, q_u (q_u (q_u E 47 ks.length (nI (so + 14))) 48 ks.length (-1)) 49 ks.length (-1), dl, dr) (fun r1 h1 => q_EX q_KD (d + 59 + 1) 39 107 [.ref 39, .int (nI (so + 14))] (r1.toList ++ []) h1 Q) := by
      intro hk hn
      have eo2 : t_cl2 F tk ks cs.length j so = if so < 3 then t_law F tk cs.length j so else t_dee tk j so := by
        unfold t_cl2
        rw [if_neg (fun q => hn q.1 q.2), if_neg (by omega)]
      obtain ⟨G, hG⟩ : ∃ G, G = q_u (q_u (q_u E 47 ks.length (nI (so + 14))) 48 ks.length (-1)) 49 ks.length (-1) := ⟨_, rfl⟩
      have cyG : t_cy G tk bg C := by rw [hG]; exact t_cyo (t_cyo (t_cyo cyE (by decide)) (by decide)) (by decide)
      have selfG : t_LV G tk j cs.length A (G 44) = G := t_LVself (by rw [hG]; exact X7) (by rw [hG]; exact X8) (by rw [hG]; exact X9) (by rw [hG]; exact X12)
      rw [← hG]
      have := c_advY (d := d + 59) (n := n) (sl := sl) (dl := dl) (Q := fun r1 h1 => q_EX q_KD (d + 59 + 1) 39 107 [.ref 39, .int (nI (so + 14))] (r1.toList ++ []) h1 Q) (W := cs.length) (A := A) (r := G 44) cyG hj hg (c_cl107 hh hC hC2 h3 htk hF hg hk hcs (by omega) (by omega) (by rw [hG]; exact t_nro (t_nro (t_nro X1 (by decide)) (by decide)) (by decide)) (by rw [hG]; exact X13) (by rw [hG]; exact X14) (by rw [hG]; exact X10) (by rw [hG]; exact X44) (by rw [hG]; exact X456) (E 47) (E 48) (E 49) X479 (fun i hi => ?_) ?_ hn eo2 (fun z E' h' => k1 z E' h' hk) k0)
      · rw [selfG] at this
        exact this
      · rw [hG]
        refine ⟨?_, ?_, ?_⟩
        · show (q_u E 47 ks.length (nI (so + 14))) 47 i = E 47 i
          exact q_uN _ _ _ _ _ (by omega)
        · show (q_u (q_u E 47 ks.length (nI (so + 14))) 48 ks.length (-1)) 48 i = E 48 i
          rw [q_uN _ _ _ _ _ (by omega)]; rfl
        · rw [q_uN _ _ _ _ _ (by omega)]; rfl
      · rw [hG]
        exact q_uE E 47 ks.length (nI (so + 14))
    by_cases c3 : so < 3
    · have e14 : nI (so + 14) - 14 = nI so := t_s14
      have lo16 : ¬ 16 < nI (so + 14) := nI_nlt (a := 16) (by omega) (by decide)
      have a1 : (14 : Int32) ≤ nI (so + 14) := Int32.not_lt.mp g14
      have inn : 0 < E 46 so → so ∈ ks.map (fun k => k.1) := fun w => by
        by_cases q : so ∈ ks.map (fun k => k.1)
        · exact q
        · rw [((X456 so c3).1 q).2] at w; exact absurd w (by decide)
      have nin : E 46 so ≤ 0 → ¬ so ∈ ks.map (fun k => k.1) := fun w q => by
        obtain ⟨k, kk1, kk2⟩ := List.mem_map.mp q
        have := (X456 so c3).2 k kk1 kk2
        rw [this.2] at w
        obtain ⟨p1, p2, _⟩ := (hK.2.2.1 k kk1).2.2.2 (by omega)
        exact absurd w (nI_nle (by omega) (by omega))
      refine g39_0 hg (fun w => absurd (ex ▸ w) g14) (fun _ _ w => absurd (ex ▸ w) lo16) (fun _ _ w => absurd (ex ▸ w) lo16) (fun _ _ w => absurd (ex ▸ w) lo16) (fun _ _ w => absurd (ex ▸ w) lo16) (fun _ _ w => absurd (ex ▸ w) lo16) (fun _ _ _ => by rw [ex, e14]; exact vp_in_nI c3 (by decide)) (fun _ _ _ _ w => vK (l24 w)) (fun _ _ _ _ w => vK (l24 w)) (fun _ _ _ _ w => vK (l24 w)) (fun _ _ _ w1 w2 => ?_) (fun _ _ _ w1 w2 => ?_) (fun _ _ _ w1 => ?_) (fun _ w => absurd (ex ▸ w) g20)
      · rw [ex, e14, nI_clamp (by omega)] at w1
        rw [ex, eK]
        exact go (l24 w2) (fun _ => nin w1)
      · rw [ex, e14, nI_clamp (by omega)] at w1
        have hk : 24 ≤ ks.length := c24 (q_not_lt w2)
        have e6 : t_cl2 F tk ks cs.length j so = t_oF 6 j := by
          unfold t_cl2
          rw [if_neg (fun q => nin w1 q.2), if_pos hk]
        rw [e6] at k0
        exact rf 6 _ (by decide) (by decide) (fun E' h' => g39_70 hg (k0 (Nat.succ_ne_zero _) E' h'))
      · rw [ex, e14, nI_clamp (by omega)] at w1
        have e4 : t_cl2 F tk ks cs.length j so = t_oF 4 j := by
          unfold t_cl2
          rw [if_pos ⟨c3, inn w1⟩]
        rw [e4] at k0
        exact rf 4 _ (by decide) (by decide) (fun E' h' => g39_52 hg (k0 (Nat.succ_ne_zero _) E' h'))
    · have hi16 : ¬ nI (so + 14) ≤ 16 := nI_ge (a := 16) (by omega) (by omega)
      refine g39_0 hg (fun w => absurd (ex ▸ w) g14) (fun _ _ _ w => vK (l24 w)) (fun _ _ _ w => vK (l24 w)) (fun _ _ _ w => vK (l24 w)) (fun _ _ _ w2 => ?_) (fun _ _ _ w2 => ?_) (fun _ _ w => absurd (ex ▸ w) hi16) (fun _ _ w => absurd (ex ▸ w) hi16) (fun _ _ w => absurd (ex ▸ w) hi16) (fun _ _ w => absurd (ex ▸ w) hi16) (fun _ _ w => absurd (ex ▸ w) hi16) (fun _ _ w => absurd (ex ▸ w) hi16) (fun _ _ w => absurd (ex ▸ w) hi16) (fun _ w => absurd (ex ▸ w) g20)
      · rw [ex, eK]
        exact go (l24 w2) (fun q => absurd q c3)
      · have hk : 24 ≤ ks.length := c24 (q_not_lt w2)
        have e6 : t_cl2 F tk ks cs.length j so = t_oF 6 j := by
          unfold t_cl2
          rw [if_neg (fun q => c3 q.1), if_pos hk]
        rw [e6] at k0
        exact rf 6 _ (by decide) (by decide) (fun E' h' => g39_70 hg (k0 (Nat.succ_ne_zero _) E' h'))
  · have eo : t_cla F tk ks cs.length j = t_oF 1 j := by
      unfold t_cla
      rw [if_neg zz]
    rw [eo] at k0
    have rf1 := rf 1 (fun r1 h1 => q_EX q_KD (d + 59 + 1) 39 26 [.retAddr 0, .retAddr 0] (r1.toList ++ []) h1 Q) (by decide) (by decide) (fun E' h' => g39_26 hg (k0 (Nat.succ_ne_zero _) E' h'))
    have cond : E 39 8 - 200 < 14 ∨ (14 ≤ E 39 8 - 200 ∧ 20 < E 39 8 - 200) := by
      rw [X8, v2]
      rcases Nat.lt_or_ge v 200 with y | y
      · exact Or.inl (t_v200 v y).1
      · rw [t_s200 y]
        rcases Nat.lt_or_ge v 214 with y2 | y2
        · exact Or.inl (nI_lt (b := 14) (by omega) (by decide))
        · refine Or.inr ⟨nI_le (a := 14) (by omega) (by omega), nI_lt (a := 20) ?_ (by omega)⟩
          rcases Nat.lt_or_ge 220 v with y3 | y3
          · omega
          · exact absurd ⟨by rw [v2]; exact nI_le (a := 214) (by omega) (by omega), by rw [v2]; exact nI_le (b := 220) (by omega) (by decide)⟩ zz
    rcases cond with w0 | ⟨w0, w1⟩
    · have na := Int32.not_le.mpr w0
      exact g39_0 hg (fun _ => rf1) (fun w => absurd w na) (fun w => absurd w na) (fun w => absurd w na) (fun w => absurd w na) (fun w => absurd w na) (fun w => absurd w na) (fun w => absurd w na) (fun w => absurd w na) (fun w => absurd w na) (fun w => absurd w na) (fun w => absurd w na) (fun w => absurd w na) (fun w => absurd w na)
    · have na := Int32.not_le.mpr w1
      exact g39_0 hg (fun _ => rf1) (fun _ w => absurd w na) (fun _ w => absurd w na) (fun _ w => absurd w na) (fun _ w => absurd w na) (fun _ w => absurd w na) (fun _ w => absurd w na) (fun _ w => absurd w na) (fun _ w => absurd w na) (fun _ w => absurd w na) (fun _ w => absurd w na) (fun _ w => absurd w na) (fun _ w => absurd w na) (fun _ _ => rf1)
end
