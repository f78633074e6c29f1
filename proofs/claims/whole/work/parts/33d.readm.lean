section
variable {e n sl : Nat} {ln : Nat → Nat} {dr : Nat → Nat → Option Nat} {Q : Option Value → q_H → Prop} {D0 : Nat → Nat → Int32} {N T C F : Nat} {bt : Nat → Int32}
theorem c_clauM {ks : List t_k3} {cs : List (Nat × Nat)} {j : Nat} {D : Nat → Nat → Int32} {dl : Nat → Nat → Int64} (hx : t_my D0 N bt T) (hg : q_Gr n ln dr) (hC : t_tc N bt C = 131) (hC2 : ∀ j, j < C → ¬ t_tc N bt j = 131) (hCN : C ≤ N) (hF : 3010 ≤ F) (hk24 : ks.length ≤ 24) (hcs : cs.length ≤ j) (hj : j < C) (hM : t_MC D0 N bt T ks cs j D dl)
    (k1 : (t_cla F (t_tc N bt) ks cs.length j).1 = 0 → ∀ D' dl', t_MC D0 N bt T (ks ++ [(t_cla F (t_tc N bt) ks cs.length j).2.2.1]) (cs ++ (t_cla F (t_tc N bt) ks cs.length j).2.2.2) (t_cla F (t_tc N bt) ks cs.length j).2.1 D' dl' → ks.length < 24 → Q (some (.int 0)) (n, sl, ln, D', dl', dr))
    (k0 : ¬ (t_cla F (t_tc N bt) ks cs.length j).1 = 0 → ∀ D' dl', t_mf2 T D0 D' → D' 67 8 = nI (t_bg N bt (t_cla F (t_tc N bt) ks cs.length j).2.1) → Q (some (.int (nI (t_cla F (t_tc N bt) ks cs.length j).1))) (n, sl, ln, D', dl', dr)) : q_EX q_KD (e + 8) 131 0 [.ref 67, .retAddr 0, .retAddr 0, .retAddr 0, .retAddr 0, .retAddr 0] [] (n, sl, ln, D, dl, dr) Q := by
  have hx' := hx
  obtain ⟨y1, y2, y3, y4, y5⟩ := hx'
  obtain ⟨hf, h12, hms, h14, h18, ⟨m, m1, m2, m3⟩, h70, hhd, hcod⟩ := hM
  have pl : D 67 8 = nI (t_bg N bt j) := hms.2.1
  refine p131_0 hg (c_sortOf (d := e + 4) hms hg (fun so so6 hc => ?_) (fun hc => ?_))
  · have zz : 214 ≤ t_tc N bt j ∧ t_tc N bt j ≤ 220 := ⟨by rw [hc]; exact nI_le (a := 214) (by omega) (by omega), by rw [hc]; exact nI_le (b := 220) (by omega) (by decide)⟩
    have eo : t_cla F (t_tc N bt) ks cs.length j = t_cl2 F (t_tc N bt) ks cs.length j so := by
      unfold t_cla
      rw [if_pos zz, hc, nI_clamp (by omega), Nat.add_sub_cancel_left]
    rw [eo] at k1 k0
    have v12 : vp_in (D 67 12) 2720 := by rw [h12]; exact vp_in_nI (by omega) (by decide)
    have c12 : (D 67 12).toNatClampNeg = 680 * T := by rw [h12]; exact nI_clamp (by omega)
    have e24 : D 70 (D 67 12).toNatClampNeg = 24 ↔ ks.length = 24 := by
      rw [c12, h70]; exact nI_eq (b := 24) (by omega) (by decide)
    have n0 : ¬ nI so < 0 := nI_pos (by omega)
    -- the clause itself
    have go : ∀ D1 : Nat → Nat → Int32, ks.length < 24 → (so < 3 → ¬ so ∈ ks.map (fun k => k.1)) → (∀ k, ¬ k = 67 → D1 k = D k) → (∀ i, ¬ i = 20 → ¬ i = 21 → D1 67 i = D 67 i) → D1 67 20 = nI so → (∀ k : t_k3, k.1 = so → t_on (D1 67 21) (fun L => L ∈ (ks ++ [k]).map (fun k => k.1))) → q_EX q_KD (e + 7) 127 0 [.ref 67, .retAddr 0, .retAddr 0] [] (n, sl, ln, D1, dl, dr) (fun r1 h1 => q_EX q_KD (e + 7 + 1) 131 75 [.ref 67, .int (nI so), .int (D 70 (D 67 12).toNatClampNeg), .retAddr 0, .retAddr 0, .retAddr 0] (r1.toList ++ []) h1 Q) := by
      intro D1 hk hn d1 d2 d3 d4
      have eo2 : t_cl2 F (t_tc N bt) ks cs.length j so = if so < 3 then t_law F (t_tc N bt) cs.length j so else t_dee (t_tc N bt) j so := by
        unfold t_cl2
        rw [if_neg (fun q => hn q.1 q.2), if_neg (by omega)]
      rw [c12, h70]
      have ms1 : t_ms (D1 67) (dl 67 11) N bt (t_bg N bt j) (t_tc N bt j) (t_ps N bt (j + 1)) := by
        unfold t_ms at hms ⊢
        rw [d2 7 (by decide) (by decide), d2 8 (by decide) (by decide), d2 9 (by decide) (by decide), d2 10 (by decide) (by decide)]
        exact hms
      refine c_nxG (dd := e + 4) (j := j) y1 y2 (by rw [d2 4 (by decide) (by decide), hf.2.1 4 (by decide)]; exact y3) (by rw [d1 71 (by decide), hf.1 71 (by decide) (by decide) (by decide)]; exact y4) ms1 hg (fun D2 dl2 f1 f2 => ?_)
      have g67 : ∀ i, ¬ i = 7 → ¬ i = 8 → ¬ i = 9 → ¬ i = 10 → ¬ i = 20 → ¬ i = 21 → D2 67 i = D 67 i := fun i a b c q p1 p2 => (f1.2 i a b c q).trans (d2 i p1 p2)
      have go' : ∀ k, ¬ k = 67 → D2 k = D k := fun k hk => (f1.1 k hk).trans (d1 k hk)
      refine c_cl75 (e := e) hx hg hC hC2 hCN hF so6 hk hcs (by omega) ⟨fun k a b c => (go' k a).trans (hf.1 k a b c), fun i hi => (g67 i (by omega) (by omega) (by omega) (by omega) (by omega) (by omega)).trans (hf.2.1 i hi), fun i hi => by rw [go' 70 (by decide)]; exact hf.2.2 i hi⟩ ?_ f2 ?_ ?_ ?_ ?_ ?_ ?_ ?_ eo2 (fun z D' dl' u => k1 z D' dl' u hk) k0
      · rw [g67 12 (by decide) (by decide) (by decide) (by decide) (by decide) (by decide)]; exact h12
      · rw [g67 14 (by decide) (by decide) (by decide) (by decide) (by decide) (by decide)]; exact h14
      · rw [g67 18 (by decide) (by decide) (by decide) (by decide) (by decide) (by decide)]; exact h18
      · rw [f1.2 20 (by decide) (by decide) (by decide) (by decide)]; exact d3
      · intro k hk'
        rw [f1.2 21 (by decide) (by decide) (by decide) (by decide)]; exact d4 k hk'
      · rw [go' 70 (by decide)]; exact h70
      · rw [go' 70 (by decide)]; exact hhd
      · rw [go' 70 (by decide)]; exact hcod
    by_cases c3 : so < 3
    · obtain ⟨b1, b2, b3, b4⟩ := t_onb m m1 so c3
      have n3 : ¬ (3 : Int32) ≤ nI so := nI_ge (b := 3) (by omega) (by decide)
      have hbit : ((D 67 21 >>> (nI so &&& 31)) &&& 1 = 1) ↔ so ∈ ks.map (fun k => k.1) := by
        rw [m2]; exact b1.trans (m3 so c3)
      refine p131_4 hg (fun _ w => absurd w n3) (fun _ w => absurd w n3) (fun _ w => absurd w n3) (fun _ _ _ => v12) (fun _ _ w1 w2 => ?_) (fun _ _ w1 w2 => ?_) (fun _ _ w1 => ?_) (fun w => absurd w n0)
      · refine go _ (Nat.lt_of_le_of_ne hk24 (fun q => w2 (e24.mpr q))) (fun _ q => w1 (hbit.mpr q)) (fun k hk => by rw [q_uR hk, q_uR hk]) (fun i a b => by rw [q_uN _ _ _ _ _ a, q_uN _ _ _ _ _ b]) (q_uE _ _ _ _) (fun k hk => ⟨m ||| 2 ^ so, b3, ?_, fun L hL => ?_⟩)
        · show D 67 21 ||| (1 <<< (nI so &&& 31)) = nI (m ||| 2 ^ so)
          rw [m2, b2]
        · show _ ↔ L ∈ (ks ++ [k]).map (fun k => k.1)
          rw [b4 L hL, t_map1, m3 L hL, hk]
      · have e6 : t_cl2 F (t_tc N bt) ks cs.length j so = t_oF 6 j := by
          unfold t_cl2
          rw [if_neg (fun q => w1 (hbit.mpr q.2)), if_pos (by have := e24.mp w2; omega)]
        rw [e6] at k0
        exact k0 (Nat.succ_ne_zero _) D dl hf pl
      · have e4 : t_cl2 F (t_tc N bt) ks cs.length j so = t_oF 4 j := by
          unfold t_cl2
          rw [if_pos ⟨c3, hbit.mp w1⟩]
        rw [e4] at k0
        exact k0 (Nat.succ_ne_zero _) D dl hf pl
    · have n3 : ¬ nI so < 3 := nI_nlt (b := 3) (by omega) (by omega)
      refine p131_4 hg (fun _ _ => v12) (fun _ _ w2 => ?_) (fun _ _ w2 => ?_) (fun _ w => absurd w n3) (fun _ w => absurd w n3) (fun _ w => absurd w n3) (fun _ w => absurd w n3) (fun w => absurd w n0)
      · refine go _ (Nat.lt_of_le_of_ne hk24 (fun q => w2 (e24.mpr q))) (fun q => absurd q c3) (fun k hk => by rw [q_uR hk]) (fun i a b => by rw [q_uN _ _ _ _ _ a]) (q_uE _ _ _ _) (fun k hk => ⟨m, m1, m2, fun L hL => ?_⟩)
        show _ ↔ L ∈ (ks ++ [k]).map (fun k => k.1)
        rw [t_map1, m3 L hL, hk]
        exact ⟨Or.inl, fun q => q.resolve_right (by omega)⟩
      · have e6 : t_cl2 F (t_tc N bt) ks cs.length j so = t_oF 6 j := by
          unfold t_cl2
          rw [if_neg (fun q => c3 q.1), if_pos (by have := e24.mp w2; omega)]
        rw [e6] at k0
        exact k0 (Nat.succ_ne_zero _) D dl hf pl
  · have eo : t_cla F (t_tc N bt) ks cs.length j = t_oF 1 j := by
      unfold t_cla
      rw [if_neg]
      intro zz
      obtain ⟨v, v1, v2⟩ := t_tcv N bt j
      have v3 : 214 ≤ v := by
        have := zz.1
        rw [v2] at this
        exact (nI_leI (a := 214) (by decide) (by omega)).mp this
      have v4 : v ≤ 220 := by
        have := zz.2
        rw [v2] at this
        exact (nI_leI (b := 220) (by omega) (by decide)).mp this
      exact hc (v - 214) (by omega) (by rw [v2, show 214 + (v - 214) = v by omega])
    rw [eo] at k0
    have n1 : ¬ (0 : Int32) ≤ -1 := by decide
    exact p131_4 hg (fun w => absurd w n1) (fun w => absurd w n1) (fun w => absurd w n1) (fun w => absurd w n1) (fun w => absurd w n1) (fun w => absurd w n1) (fun w => absurd w n1) (fun _ => k0 (Nat.succ_ne_zero _) D dl hf pl)
theorem c_rt48 (hx : t_my D0 N bt T) (hg : q_Gr n ln dr) (hC : t_tc N bt C = 131) (hC2 : ∀ j, j < C → ¬ t_tc N bt j = 131) (hCN : C ≤ N) (hF : 3010 ≤ F) : ∀ (g : Nat) (ks : List t_k3) (cs : List (Nat × Nat)) (j : Nat) (A : Int32) (D : Nat → Nat → Int32) (dl : Nat → Nat → Int64), 26 ≤ g + ks.length → j ≤ C → t_KG ks cs j A → t_MC D0 N bt T ks cs j D dl →
    (∀ j' ks' cs' D' dl', t_TT F (t_tc N bt) g ks cs j = (0, j', ks', cs') → t_MC D0 N bt T ks' cs' j' D' dl' → Q (some (.int 0)) (n, sl, ln, D', dl', dr)) →
    (∀ fl p ks' cs' D' dl', t_TT F (t_tc N bt) g ks cs j = (fl, p, ks', cs') → ¬ fl = 0 → t_mf2 T D0 D' → D' 67 8 = nI (t_bg N bt p) → Q (some (.int (nI fl))) (n, sl, ln, D', dl', dr)) →
    q_EX q_KD (e + 9) 126 48 [.ref 67, .retAddr 0] [] (n, sl, ln, D, dl, dr) Q := by
  intro g
  induction g with
  | zero => intro ks cs j A D dl h1 _ hK; have := hK.1; omega
  | succ g ih =>
    intro ks cs j A D dl h1 hj hK hM k1 k0
    have s0 := (t_sgq hM.2.2.1).2.2.2.2.2.2.2.2.2.2.2.2.2
    by_cases z : t_tc N bt j = 131
    · exact g126_48 hg (fun _ => k1 j ks cs D dl (by rw [t_TT, if_pos z]) hM) (fun w => absurd (s0.mpr z) w)
    · have hjC := t_neC hC hj z
      have hN := hx.1
      refine g126_48 hg (fun w => absurd (s0.mp w) z) (fun _ => ?_)
      have gO := t_cla_g (F := F) (ks := ks) (W := cs.length) (t_tcv N bt) hC hC2 (t_tc3 N bt) (by omega) hF hj
      refine c_clauM (e := e) hx hg hC hC2 hCN hF hK.1 hK.2.1 hjC hM (fun h0 D' dl' u hk => g126_59 hg (fun _ => ?_) (fun w => absurd rfl w)) (fun h0 D' dl' a b => g126_59 hg (fun w => absurd w (nI_ne0 (by omega) (by have := (gO.2 h0).1; omega))) (fun _ => ?_))
      · have eT : t_TT F (t_tc N bt) (g + 1) ks cs j = t_TT F (t_tc N bt) g (ks ++ [(t_cla F (t_tc N bt) ks cs.length j).2.2.1]) (cs ++ (t_cla F (t_tc N bt) ks cs.length j).2.2.2) (t_cla F (t_tc N bt) ks cs.length j).2.1 := by
          rw [t_TT, if_neg z, if_pos h0]
        rw [eT] at k1 k0
        exact ih _ _ _ _ D' dl' (by rw [List.length_append]; show 26 ≤ g + (ks.length + 1); omega) (gO.1 h0).2.1 (t_KGs hK hk gO h0) u k1 k0
      · exact k0 _ _ _ _ D' dl' (by rw [t_TT, if_neg z, if_neg h0]) h0 a b
/-- the model reads the tape -/
theorem c_readM {D : Nat → Nat → Int32} {dl : Nat → Nat → Int64} (hx : t_my D N bt T) (h68 : D 68 4 = nI T) (hg : q_Gr n ln dr) (hC : t_tc N bt C = 131) (hC2 : ∀ j, j < C → ¬ t_tc N bt j = 131) (hCN : C ≤ N) (hF : 3010 ≤ F)
    (k1 : ∀ j' ks' cs' D' dl', t_TT F (t_tc N bt) 26 [] [] 0 = (0, j', ks', cs') → t_MC D N bt T ks' cs' j' D' dl' → Q (some (.int 0)) (n, sl, ln, D', dl', dr))
    (k0 : ∀ fl p ks' cs' D' dl', t_TT F (t_tc N bt) 26 [] [] 0 = (fl, p, ks', cs') → ¬ fl = 0 → t_mf2 T D D' → D' 67 8 = nI (t_bg N bt p) → Q (some (.int (nI fl))) (n, sl, ln, D', dl', dr)) :
    q_EX q_KD (e + 9) 126 0 [.ref 67, .retAddr 0] [] (n, sl, ln, D, dl, dr) Q := by
  have hx' := hx
  obtain ⟨y1, y2, y3, y4, y5⟩ := hx'
  have e680 : 680 * D 68 4 = nI (680 * T) := by rw [h68, show (680 : Int32) = nI 680 from rfl, nI_mulN]
  refine g126_0 hg (by rw [e680]; exact vp_in_nI (by omega) (by decide)) ?_
  rw [e680, nI_clamp (by omega)]
  obtain ⟨G, hG⟩ : ∃ G, G = q_u (q_u (q_u (q_u (q_u (q_u D 67 12 (nI (680 * T))) 70 (680 * T) 0) 67 14 0) 67 18 0) 67 21 0) 67 7 0 := ⟨_, rfl⟩
  have Go : ∀ k, ¬ k = 67 → ¬ k = 70 → G k = D k := fun k a b => by rw [hG, q_uR a, q_uR a, q_uR a, q_uR a, q_uR b, q_uR a]
  have G67 : ∀ i, i < 7 → G 67 i = D 67 i := fun i hi => by
    rw [hG, q_uN _ _ _ _ _ (by omega), q_uN _ _ _ _ _ (by omega), q_uN _ _ _ _ _ (by omega), q_uN _ _ _ _ _ (by omega), q_uR (show ¬ (67 : Nat) = 70 by decide), q_uN _ _ _ _ _ (by omega)]
  have Gv : G 67 12 = nI (680 * T) ∧ G 67 14 = nI 0 ∧ G 67 18 = nI 0 ∧ G 67 21 = nI 0 ∧ G 67 7 = nI 0 := by rw [hG]; exact ⟨rfl, rfl, rfl, rfl, rfl⟩
  have G70 : G 70 = va_up (D 70) (680 * T) 0 := by rw [hG]; rfl
  rw [← hG]
  clear hG
  have hq := t_seq N bt 0
  refine c_next (d := e + 5) y1 y2 hg _ 0 G (Nat.le_refl _) hq (by rw [G67 4 (by decide)]; exact y3) (by rw [Go 71 (by decide) (by decide)]; exact y4) Gv.2.2.2.2 (fun D' dl' f1 f2 => ?_)
  have m67 : ∀ i, ¬ i = 7 → ¬ i = 8 → ¬ i = 9 → ¬ i = 10 → D' 67 i = G 67 i := f1.2
  refine c_rt48 (e := e) hx hg hC hC2 hCN hF 26 [] [] 0 0 D' dl' (by decide) (Nat.zero_le _) t_KG0 ⟨⟨fun k a b c => (f1.1 k a).trans (Go k a b), fun i hi => (f1.2 i (by omega) (by omega) (by omega) (by omega)).trans (G67 i hi), fun i hi => ?_⟩, ?_, f2, ?_, ?_, ?_, ?_, fun i hi => absurd hi (Nat.not_lt_zero i), fun i hi => absurd hi (Nat.not_lt_zero i)⟩ k1 k0
  · rw [f1.1 70 (by decide), G70, q_upN _ _ (by omega)]
  · rw [m67 12 (by decide) (by decide) (by decide) (by decide)]; exact Gv.1
  · rw [m67 14 (by decide) (by decide) (by decide) (by decide)]; exact Gv.2.1
  · rw [m67 18 (by decide) (by decide) (by decide) (by decide)]; exact Gv.2.2.1
  · rw [m67 21 (by decide) (by decide) (by decide) (by decide)]
    refine ⟨0, by decide, Gv.2.2.2.1, fun L hL => ⟨fun q => ?_, fun q => absurd q List.not_mem_nil⟩⟩
    rw [Nat.zero_testBit] at q
    exact absurd q (by decide)
  · rw [f1.1 70 (by decide), G70]; exact q_upE _ _ _
end
