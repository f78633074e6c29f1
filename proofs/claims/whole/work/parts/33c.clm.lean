section
variable {e n sl : Nat} {ln : Nat → Nat} {dr : Nat → Nat → Option Nat} {Q : Option Value → q_H → Prop} {D0 : Nat → Nat → Int32} {N T C F : Nat} {bt : Nat → Int32}
theorem t_mf2_r {D3 D' : Nat → Nat → Int32} (h : t_mf2 T D0 D3) (g : t_mfr T D3 D') : t_mf2 T D0 D' :=
  ⟨fun k a b c => (g.1 k a b c).trans (h.1 k a b c), fun i hi => (g.2.1 i (by omega) (by omega) (by omega) (by omega) (by omega) (by omega) (by omega) (by omega)).trans (h.2.1 i hi), fun i hi => (g.2.2 i (by omega)).trans (h.2.2 i hi)⟩
/-- a clause behind its first token -/
theorem c_cl75 {ks : List t_k3} {cs : List (Nat × Nat)} {j so : Nat} {D : Nat → Nat → Int32} {dl : Nat → Nat → Int64} (hx : t_my D0 N bt T) (hg : q_Gr n ln dr) (hC : t_tc N bt C = 131) (hC2 : ∀ j, j < C → ¬ t_tc N bt j = 131) (hCN : C ≤ N) (hF : 3010 ≤ F) (hso : so ≤ 6) (hK : ks.length < 24) (hcs : cs.length ≤ j) (hj : j + 1 ≤ C)
    (hf : t_mf2 T D0 D) (h12 : D 67 12 = nI (680 * T)) (hms : t_ms (D 67) (dl 67 11) N bt (t_bg N bt (j + 1)) (t_tc N bt (j + 1)) (t_ps N bt (j + 1 + 1))) (h14 : D 67 14 = nI cs.length) (h18 : D 67 18 = nI 0) (h20 : D 67 20 = nI so) (h21 : ∀ k : t_k3, k.1 = so → t_on (D 67 21) (fun L => L ∈ (ks ++ [k]).map (fun k => k.1))) (h70 : D 70 (680 * T) = nI ks.length) (hhd : t_hd (D 70) T ks) (hcod : t_cod (D 70) T cs)
    {o : t_O} (ho : o = if so < 3 then t_law F (t_tc N bt) cs.length j so else t_dee (t_tc N bt) j so)
    (k1 : o.1 = 0 → ∀ D' dl', t_MC D0 N bt T (ks ++ [o.2.2.1]) (cs ++ o.2.2.2) o.2.1 D' dl' → Q (some (.int 0)) (n, sl, ln, D', dl', dr))
    (k0 : ¬ o.1 = 0 → ∀ D' dl', t_mf2 T D0 D' → D' 67 8 = nI (t_bg N bt o.2.1) → Q (some (.int (nI o.1))) (n, sl, ln, D', dl', dr)) : q_EX q_KD (e + 8) 131 75 [.ref 67, .int (nI so), .int (nI ks.length), .retAddr 0, .retAddr 0, .retAddr 0] [] (n, sl, ln, D, dl, dr) Q := by
  have hx' := hx
  obtain ⟨y1, y2, y3, y4, y5⟩ := hx'
  have e75 : D 67 12 + 1 + 3 * nI ks.length = nI (680 * T + 1 + 3 * ks.length) := by
    rw [h12, nI_1, show (3 : Int32) = nI 3 from rfl, nI_mulN, nI_add]
  have i0 : nI so = 0 ↔ so = 0 := nI_eq (b := 0) (by omega) (by decide)
  -- the heap with the clause's sort
  obtain ⟨G, hG⟩ : ∃ G, G = q_u D 70 (680 * T + 1 + 3 * ks.length) (nI so) := ⟨_, rfl⟩
  have Go : ∀ k, ¬ k = 70 → G k = D k := fun k hk => by rw [hG, q_uR hk]
  have G67 : G 67 = D 67 := Go 67 (by decide)
  have G70 : G 70 = va_up (D 70) (680 * T + 1 + 3 * ks.length) (nI so) := by rw [hG]; rfl
  have Gf : t_mf2 T D0 G := ⟨fun k a b c => (Go k b).trans (hf.1 k a b c), fun i hi => by rw [G67]; exact hf.2.1 i hi, fun i hi => by rw [G70, q_upN _ _ (by omega)]; exact hf.2.2 i hi⟩
  have G70K : G 70 (680 * T) = nI ks.length := by rw [G70, q_upN _ _ (by omega)]; exact h70
  have Ghd : t_hd (G 70) T ks := fun i hi => by
    rw [G70, q_upN _ _ (by omega), q_upN _ _ (by omega), q_upN _ _ (by omega)]; exact hhd i hi
  have Gk0 : G 70 (680 * T + 1 + 3 * ks.length) = nI so := by rw [G70]; exact q_upE _ _ _
  have Gcod : t_cod (G 70) T cs := t_cod_c hcod (fun i hi => by rw [G70, q_upN _ _ (by omega)])
  by_cases c3 : so < 3
  · rw [if_pos c3] at ho
    unfold t_law at ho
    have hm : (if so = 0 then 8 else 3) ≤ 9 ∧ t_rk (if so = 0 then 8 else 3) ≤ 5 ∧ t_lo (if so = 0 then 8 else 3) = false := by
      by_cases y : so = 0
      · rw [if_pos y]; decide
      · rw [if_neg y]; decide
    obtain ⟨R, r1, r2⟩ := t_SG (L := so) hC hC2 (t_tc3 N bt) F (if so = 0 then 8 else 3) 0 (j + 1) hm.1 hj (by have := hm.2.1; omega)
    rw [r1] at ho
    replace ho : o = if R.1 = 0 then t_sc (t_tc N bt) R.2.1 (so, cs.length, cs.length + R.2.2.length) R.2.2 else t_oF R.1 R.2.1 := ho
    have hmx : t_mx G N bt T so := ⟨y1, y2, by rw [Gf.2.1 4 (by decide)]; exact y3, by rw [Gf.1 71 (by decide) (by decide) (by decide)]; exact y4, by rw [G67]; exact h12, y5, by rw [G67]; exact h20, c3⟩
    have hMN : t_MN G N bt T (j + 1) 0 cs G dl := ⟨⟨fun _ _ _ _ => rfl, fun _ _ _ _ _ _ _ _ _ => rfl, fun _ _ => rfl⟩, by rw [G67]; exact hms, by rw [G67]; exact h14, by rw [G67]; exact h18, Gcod⟩
    -- what comes behind
    have bad : ¬ R.1 = 0 → ∀ D' dl', t_mfr T G D' → D' 67 8 = nI (t_bg N bt R.2.1) → Q (some (.int (nI R.1))) (n, sl, ln, D', dl', dr) := fun z D' dl' a b => by
      rw [if_neg z] at ho
      subst ho
      exact k0 z D' dl' (t_mf2_r Gf a) b
    have nz : ¬ R.1 = 0 → ¬ nI R.1 = 0 := fun z => nI_ne0 (by omega) (by have := (r2.2 z).2; omega)
    have lens : R.1 = 0 → cs.length + R.2.2.length ≤ 300 := fun z => by
      obtain ⟨a1, a2, a3, a4, a5, a6⟩ := r2.1 z
      omega
    have good : R.1 = 0 → ∀ D' dl', t_MM G N bt T R.2.1 0 1 [] (cs ++ R.2.2) D' dl' → t_mf2 T D0 D' ∧ D' 67 12 = nI (680 * T) ∧ D' 67 18 = nI 0 ∧ t_on (D' 67 21) (fun L => L ∈ (ks ++ [(so, cs.length, (cs ++ R.2.2).length)]).map (fun k => k.1)) ∧ D' 70 (680 * T) = nI ks.length ∧ t_hd (D' 70) T ks ∧ D' 70 (680 * T + 1 + 3 * ks.length) = nI so := fun z D' dl' u => by
      have f67 : ∀ i, i = 12 ∨ i = 21 → D' 67 i = D 67 i := fun i hi => by
        rw [u.1.2.1 i (by omega) (by omega) (by omega) (by omega) (by omega) (by omega) (by omega) (by omega), G67]
      refine ⟨t_mf2_r Gf u.1, ?_, u.2.2.2.2.1, ?_, ?_, fun i hi => ?_, ?_⟩
      · rw [f67 12 (Or.inl rfl)]; exact h12
      · rw [f67 21 (Or.inr rfl)]; exact h21 (so, cs.length, (cs ++ R.2.2).length) rfl
      · rw [u.1.2.2 _ (by omega)]; exact G70K
      · rw [u.1.2.2 _ (by omega), u.1.2.2 _ (by omega), u.1.2.2 _ (by omega)]; exact Ghd i hi
      · rw [u.1.2.2 _ (by omega)]; exact Gk0
    have el : (cs ++ R.2.2).length = cs.length + R.2.2.length := List.length_append
    refine p131_75 hg (by rw [e75]; exact vp_in_nI (by omega) (by decide)) (fun _ w => absurd w (nI_ge (b := 3) (by omega) (by decide))) (fun w _ => ?_) (fun w => ?_)
    · rw [e75, h14, nI_clamp (by omega), ← hG]
      rw [if_neg (fun q => w (i0.mpr q))] at r1
      refine c_sumM (f := F) (e := e + 2) hmx hg hC hC2 (t_tc3 N bt) hj (by omega) (by decide) (by omega) r1 hMN (fun z D' dl' a b => ?_) (fun z D' dl' u => ?_)
      · exact p131_119 hg (fun w => absurd w (nz z)) (fun w => absurd w (nz z)) (fun w => absurd w (nz z)) (fun w => absurd w (nz z)) (fun w => absurd w (nz z)) (fun w => absurd w (nz z)) (fun w => absurd w (nz z)) (fun w => absurd w (nz z)) (fun w => absurd w (nz z)) (fun w => absurd w (nz z)) (fun _ => bad z D' dl' a b)
      · obtain ⟨b1, b2, b3, b4, b5, b6, b7⟩ := good z D' dl' u
        rw [if_pos z] at ho
        rw [← el] at ho
        refine c_clE119 (e := e + 4) (k := (so, cs.length, (cs ++ R.2.2).length)) hx hg hso hK (by rw [el]; exact lens z) b1 b2 u.2.1 u.2.2.1 b3 b4 b5 b6 b7 u.2.2.2.2.2.2.2 (fun _ => rfl) (fun q => absurd q (by omega)) (fun q D2 dl2 u2 => ?_) (fun q D2 a b => ?_)
        · unfold t_sc at ho
          rw [if_pos q] at ho
          subst ho
          exact k1 rfl D2 dl2 u2
        · unfold t_sc at ho
          rw [if_neg q] at ho
          subst ho
          exact k0 (Nat.succ_ne_zero _) D2 dl' a b
    · rw [e75, h14, nI_clamp (by omega), ← hG]
      rw [if_pos (i0.mp w)] at r1
      obtain ⟨F', rfl⟩ : ∃ F', F = F' + 1 := ⟨F - 1, by omega⟩
      refine c_eitM (f := F') (e := e) hmx hg hC hC2 (t_tc3 N bt) hj (by omega) (by omega) (by omega) (by omega) r1 hMN (fun z D' dl' a b => ?_) (fun z D' dl' u => ?_)
      · exact p131_107 hg (fun w => absurd w (nz z)) (fun w => absurd w (nz z)) (fun w => absurd w (nz z)) (fun w => absurd w (nz z)) (fun w => absurd w (nz z)) (fun w => absurd w (nz z)) (fun w => absurd w (nz z)) (fun w => absurd w (nz z)) (fun w => absurd w (nz z)) (fun w => absurd w (nz z)) (fun _ => bad z D' dl' a b)
      · obtain ⟨b1, b2, b3, b4, b5, b6, b7⟩ := good z D' dl' u
        rw [if_pos z] at ho
        rw [← el] at ho
        refine c_clE107 (e := e + 4) (k := (so, cs.length, (cs ++ R.2.2).length)) hx hg hso hK (by rw [el]; exact lens z) b1 b2 u.2.1 u.2.2.1 b3 b4 b5 b6 b7 u.2.2.2.2.2.2.2 (fun _ => rfl) (fun q => absurd q (by omega)) (fun q D2 dl2 u2 => ?_) (fun q D2 a b => ?_)
        · unfold t_sc at ho
          rw [if_pos q] at ho
          subst ho
          exact k1 rfl D2 dl2 u2
        · unfold t_sc at ho
          rw [if_neg q] at ho
          subst ho
          exact k0 (Nat.succ_ne_zero _) D2 dl' a b
  · rw [if_neg c3] at ho
    refine p131_75 hg (by rw [e75]; exact vp_in_nI (by omega) (by decide)) (fun w _ => ?_) (fun _ w => absurd w (nI_nlt (b := 3) (by omega) (by omega))) (fun w => absurd (i0.mp w) (by omega))
    rw [e75, h14, nI_clamp (by omega), ← hG]
    -- a deed well read
    have good : ∀ (jj p s : Nat) (D' : Nat → Nat → Int32) (dl' : Nat → Nat → Int64) (r : Nat → Int32), t_mg G D' r → (∀ i, ¬ i = 680 * T + 1 + 3 * ks.length + 1 → ¬ i = 680 * T + 1 + 3 * ks.length + 2 → r i = G 70 i) → (so ≤ 5 → r (680 * T + 1 + 3 * ks.length + 1) = nI p) → (so = 3 → r (680 * T + 1 + 3 * ks.length + 2) = nI s) → t_ms (D' 67) (dl' 67 11) N bt (t_bg N bt jj) (t_tc N bt jj) (t_ps N bt (jj + 1)) → o = t_sc (t_tc N bt) jj (so, p, s) [] → q_EX q_KD (e + 4 + 4) 131 128 [.ref 67, .int (nI so), .retAddr 0, .int (nI (680 * T + 1 + 3 * ks.length)), .int (nI cs.length), .retAddr 0] [.int 0] (n, sl, ln, D', dl', dr) Q := by
      intro jj p s D' dl' r g a b1 b2 m eo
      have f67 : ∀ i, ¬ i = 7 → ¬ i = 8 → ¬ i = 9 → ¬ i = 10 → D' 67 i = D 67 i := fun i a b c q => by rw [g.2.1 i a b c q, G67]
      have m2 : t_mf2 T D0 D' := ⟨fun k a' b' c' => (g.1 k a' b').trans (Gf.1 k a' b' c'), fun i hi => (g.2.1 i (by omega) (by omega) (by omega) (by omega)).trans (Gf.2.1 i hi), fun i hi => by rw [g.2.2, a i (by omega) (by omega)]; exact Gf.2.2 i hi⟩
      refine c_clE128 (e := e + 4) (cs := cs) (k := (so, p, s)) hx hg hso hK (by omega) m2 ?_ m ?_ ?_ ?_ ?_ ?_ ?_ ?_ (fun q => absurd q c3) (fun _ => ⟨rfl, fun q => ?_, fun q => ?_⟩) (fun q D2 dl2 u2 => ?_) (fun q D2 a b => ?_)
      · rw [f67 12 (by decide) (by decide) (by decide) (by decide)]; exact h12
      · rw [f67 14 (by decide) (by decide) (by decide) (by decide)]; exact h14
      · rw [f67 18 (by decide) (by decide) (by decide) (by decide)]; exact h18
      · rw [f67 21 (by decide) (by decide) (by decide) (by decide)]; exact h21 (so, p, s) rfl
      · rw [g.2.2, a _ (by omega) (by omega)]; exact G70K
      · rw [g.2.2]
        intro i hi
        rw [a _ (by omega) (by omega), a _ (by omega) (by omega), a _ (by omega) (by omega)]
        exact Ghd i hi
      · rw [g.2.2, a _ (by omega) (by omega)]; exact Gk0
      · rw [g.2.2]
        exact t_cod_c Gcod (fun i hi => a i (by omega) (by omega))
      · rw [g.2.2]; exact b1 q
      · rw [g.2.2]; exact b2 q
      · unfold t_sc at eo
        rw [if_pos q] at eo
        subst eo
        exact k1 rfl D2 dl2 (by rw [show (0, jj + 1, (so, p, s), ([] : List (Nat × Nat))).2.2.2 = [] from rfl, List.append_nil]; exact u2)
      · unfold t_sc at eo
        rw [if_neg q] at eo
        subst eo
        exact k0 (Nat.succ_ne_zero _) D2 dl' a b
    refine c_liM (dd := e + 2) (j := j) (so := so) (X := 680 * T + 1 + 3 * ks.length) (by omega) hso (by omega) y1 y2 (by rw [Gf.2.1 4 (by decide)]; exact y3) (by rw [Gf.1 71 (by decide) (by decide) (by decide)]; exact y4) (by rw [G67]; exact hms) hg (fun z => ?_) (fun z6 z3 p p1 p2 p3 D' dl' g m => ?_) (fun z3 p s p1 s1 p2 D' dl' g m => ?_) (fun fl p f1 f2 e1 D' dl' r g a b => ?_)
    · refine good (j + 1) 0 0 G dl _ (t_mg_r G) (fun _ _ _ => rfl) (fun q => absurd q (by omega)) (fun q => absurd q (by omega)) (by rw [G67]; exact hms) ?_
      rw [ho]
      unfold t_dee
      rw [if_pos z, z]
    · exact good (j + 2) p 0 D' dl' _ g (fun i a b => q_upN _ _ a) (fun _ => q_upE _ _ _) (fun q => absurd q z3) m (ho.trans p2)
    · exact good (j + 4) p s D' dl' _ g (fun i a b => by rw [q_upN _ _ b, q_upN _ _ a]) (fun _ => by rw [q_upN _ _ (by omega)]; exact q_upE _ _ _) (fun _ => q_upE _ _ _) m (by rw [ho, p2, z3])
    · have eo := ho.trans e1
      subst eo
      have nz : ¬ nI fl = 0 := nI_ne0 (by omega) (by omega)
      have m2 : t_mf2 T D0 D' := ⟨fun k a' b' c' => (g.1 k a' b').trans (Gf.1 k a' b' c'), fun i hi => (g.2.1 i (by omega) (by omega) (by omega) (by omega)).trans (Gf.2.1 i hi), fun i hi => by rw [g.2.2, a i (by omega)]; exact Gf.2.2 i hi⟩
      exact p131_128 hg (fun w => absurd w nz) (fun w => absurd w nz) (fun w => absurd w nz) (fun w => absurd w nz) (fun w => absurd w nz) (fun w => absurd w nz) (fun w => absurd w nz) (fun w => absurd w nz) (fun w => absurd w nz) (fun w => absurd w nz) (fun _ => k0 (by show ¬ fl = 0; omega) D' dl' m2 b)
end
