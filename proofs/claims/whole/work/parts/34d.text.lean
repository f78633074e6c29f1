/-! TEXT on both sides -/
theorem t_255 (x : Int32) : (0 : Int32) ≤ x &&& 255 := by
  rw [fa_le, show (0 : Int32).toInt = 0 by decide]
  have h : (x &&& 255).toBitVec.toNat ≤ 255 := by
    rw [Int32.toBitVec_and, BitVec.toNat_and]
    exact Nat.and_le_right
  have e : (x &&& 255).toInt = ((x &&& 255).toBitVec.toNat : Int) := BitVec.toInt_eq_toNat_of_lt (by omega)
  rw [e]
  omega
theorem t_RRnew {c n n' sl' T1 : Nat} {ln ln' : Nat → Nat} {di G : Nat → Nat → Int32} {dr dr1 : Nat → Nat → Option Nat} {P L T S K P' L' T' S' K' : Nat} (a4 : q_Cn di)
    (b1 : q_RH n ln di (di 7) (di 8) (di 9) (di 10) (di 11) (di 12) (di 13) (di 14) (di 15) (di 17) (di 18) (di 19) (di 20) (di 21) (di 22) (dr 16) (di 68) (di 70) P L T S K)
    (b2 : q_RH n ln di (di 23) (di 24) (di 25) (di 26) (di 27) (di 28) (di 29) (di 30) (di 31) (di 33) (di 34) (di 35) (di 36) (di 37) (di 38) (dr 32) (di 69) (di 70) P' L' T' S' K')
    (b3 : T' ≤ T) (b4 : q_CE (di 54) (di 55) (di 56) (di 68) (di 70) P L) (b5 : q_CR (di 60) (di 61) (di 66) (di 68) (di 70) P L)
    (hg' : q_Gr n' ln' dr1) (hn' : ∃ N, N ≤ c + 1 ∧ n' = 84 + 7 * N) (hsl : sl' ≤ 20000 + 500 * (c + 1)) (hnn : n ≤ n')
    (hl : ∀ k, 84 ≤ k → k < n → ln' k = ln k ∧ G k = di k) (hG : ∀ k, k < 84 → ¬ k = 7 → ¬ k = 67 → ¬ k = 68 → ¬ k = 70 → ¬ k = 72 → t_nr k → ¬ k = 40 → ¬ k = 42 → ¬ k = 43 → G k = di k)
    (h7 : ∀ i, ¬ i = 14 → G 7 i = di 7 i) (h714 : G 7 14 = nI T1) (h68 : ∀ i, ¬ i = 4 → G 68 i = di 68 i) (h684 : G 68 4 = nI T1) (htx : ∀ i, i < 680 * T → G 70 i = di 70 i)
    (htp : q_Tp (G 40) (G 41) (G 67) (G 71)) (hft : q_Ft (G 39) (G 67)) (hd32 : dr1 32 = dr 32) (hd16 : ∀ t, t < T → dr1 16 t = dr 16 t) (hT1 : T ≤ T1) (hT4 : T1 ≤ 4)
    (hnew : ∀ t, T ≤ t → t < T1 → ∃ z, dr1 16 t = some z ∧ q_scr n' z ∧ q_TX ln' G z (G 70) t) (hsc : ∀ t z, t < 4 → dr1 16 t = some z → q_scr n' z) : q_RR (c + 1) n' sl' ln' G dr1 := by
  have row : ∀ k, (k = 1 ∨ k = 2 ∨ k = 3 ∨ k = 5 ∨ (8 ≤ k ∧ k ≤ 38) ∨ (53 ≤ k ∧ k ≤ 66) ∨ k = 69) → G k = di k := fun k hk => hG k (by omega) (by omega) (by omega) (by omega) (by omega) (by omega) (by unfold t_nr; omega) (by omega) (by omega) (by omega)
  obtain ⟨c1, c2, c3, c4, c5, c6, c7, c8, c9, c10, c11⟩ := b1
  obtain ⟨e1, e2, e3, e4, e5, e6, e7, e8, e9, e10, e11⟩ := b2
  obtain ⟨i1, i2, i3, i4, i5, i6, i7, i8, i9, i10, i11⟩ := c1
  have scrup : ∀ z, q_scr n z → q_scr n' z := fun z hz => ⟨hz.1, hz.2.1, by have := hz.2.2; omega⟩
  have txup : ∀ t z, t < T → q_scr n z → q_TX ln di z (di 70) t → q_TX ln' G z (G 70) t := fun t z ht hz hx => t_TX_cg hx hz hl (fun i hi => htx i (by omega))
  have h5 : di 68 5 = -1 ∨ ∃ t z, t < T ∧ di 68 5 = nI t ∧ q_TX ln di z (di 70) t := by
    rcases i11 with q | ⟨t, q1, q2⟩
    · exact Or.inl q
    · obtain ⟨z, z1, z2, z3⟩ := c11.1 t q1
      exact Or.inr ⟨t, z, q1, q2, z3⟩
  have hla : ∀ l j row near all, q_la (di 68) (G 70) l j row near all = q_la (di 68) (di 70) l j row near all := fun l j r nn a => t_la_cg h5 i3 htx
  have hlo : ∀ l many rounds coughs, q_lo (di 68) (G 70) l many rounds coughs = q_lo (di 68) (di 70) l many rounds coughs := fun l m r cc => t_lo_cg h5 i3 htx
  have ha : ∀ i, 10 ≤ i → G 68 i = di 68 i := fun i hi => h68 i (by omega)
  refine ⟨hg', hn', hsl, ?_, htp, hft, P, L, T1, S, K, P', L', T', S', K', ⟨⟨i1, i2, hT4, i4, i5, ?_, ?_, h684, ?_, ?_, ?_⟩, q_Ip_cg c2 (fun i h1 _ => ha i h1), q_Il_cg c3 (fun i h1 _ => ha i (by omega)), q_Is_cg c4 i4 (fun i h1 _ => ha i (by omega)), ?_, ?_, ?_, ?_, ?_, ?_, ?_⟩, ?_, by omega, ?_, ?_⟩
  · unfold q_Cn at *
    rw [row 1 (by omega), row 2 (by omega), row 3 (by omega), row 5 (by omega)]
    exact a4
  · rw [h68 0 (by decide)]; exact i6
  · rw [h68 1 (by decide)]; exact i7
  · rw [h68 6 (by decide)]; exact i9
  · rw [h68 7 (by decide)]; exact i10
  · rw [h68 5 (by decide)]
    rcases i11 with q | ⟨t, q1, q2⟩
    · exact Or.inl q
    · exact Or.inr ⟨t, by omega, q2⟩
  · obtain ⟨o1, o2, o3, o4, o5, o6, o7⟩ := c5
    refine ⟨?_, ?_, ?_, ?_, h714.trans h684.symm, ?_, ?_⟩
    · rw [h7 10 (by decide), h68 0 (by decide)]; exact o1
    · rw [h7 12 (by decide), h68 1 (by decide)]; exact o2
    · rw [h7 17 (by decide), h68 2 (by decide)]; exact o3
    · rw [h7 16 (by decide), h68 3 (by decide)]; exact o4
    · rw [h7 15 (by decide), h68 5 (by decide)]; exact o6
    · rw [h7 13 (by decide), h68 7 (by decide)]; exact o7
  · rw [row 8 (by omega), row 9 (by omega), row 10 (by omega), row 11 (by omega), row 12 (by omega)]
    exact q_Pe_cg c6 (fun i h1 _ => ha i h1)
  · rw [h7 11 (by decide)]
    exact q_sb_cg c7 (fun j hj => ha _ (by omega))
  · rw [row 13 (by omega), row 14 (by omega)]
    exact q_Li_cg c8 (fun i h1 _ => ha i (by omega))
  · rw [row 15 (by omega)]
    exact q_Se_cg c9 (fun i h1 _ => ha i (by omega))
  · rw [row 17 (by omega), row 18 (by omega), row 19 (by omega), row 20 (by omega), row 21 (by omega), row 22 (by omega)]
    exact q_St_cg c10 i4 (fun i h1 _ => ha i (by omega))
  · refine ⟨fun t ht => ?_, hsc⟩
    rcases Nat.lt_or_ge t T with y | y
    · obtain ⟨z, z1, z2, z3⟩ := c11.1 t y
      exact ⟨z, by rw [hd16 t y]; exact z1, scrup z z2, txup t z y z2 z3⟩
    · exact hnew t y ht
  · rw [row 23 (by omega), row 24 (by omega), row 25 (by omega), row 26 (by omega), row 27 (by omega), row 28 (by omega), row 29 (by omega), row 30 (by omega), row 31 (by omega), row 33 (by omega), row 34 (by omega), row 35 (by omega), row 36 (by omega), row 37 (by omega), row 38 (by omega), row 69 (by omega), hd32]
    refine ⟨e1, e2, e3, e4, e5, e6, e7, e8, e9, e10, fun t ht => ?_, fun t z ht hz => scrup z (e11.2 t z ht hz)⟩
    obtain ⟨z, z1, z2, z3⟩ := e11.1 t ht
    exact ⟨z, z1, scrup z z2, txup t z (by omega) z2 z3⟩
  · rw [row 54 (by omega), row 55 (by omega), row 56 (by omega)]
    exact q_CE_cg (t_CE_cg hla hlo b4) (Nat.le_refl _) (Nat.le_refl _) (h68 5 (by decide)) (fun j _ => ⟨h68 _ (by omega), h68 _ (by omega)⟩) (fun l _ => ⟨h68 _ (by omega), h68 _ (by omega)⟩)
  · rw [row 60 (by omega), row 61 (by omega), row 66 (by omega)]
    exact w_CR_T (t_CR_cg hla hlo b5) i1 (h68 5 (by decide)) (fun j _ => ⟨h68 _ (by omega), h68 _ (by omega), h68 _ (by omega), h68 _ (by omega)⟩) (fun l _ => ⟨h68 _ (by omega), h68 _ (by omega)⟩)
section
variable {c d n sl : Nat} {ln : Nat → Nat} {di : Nat → Nat → Int32} {dl : Nat → Nat → Int64} {dr : Nat → Nat → Option Nat}
theorem o_text (h : q_RR c n sl ln di dr) : o_op (d + 62) 21 125 [.ref 6, .retAddr 0] [.ref 67] c (n, sl, ln, di, dl, dr) := by
  have hR := h
  obtain ⟨hg, ⟨NN, NN1, NN2⟩, a3, a4, ⟨N, hN, n1, n2, n3⟩, a6, P, L, T, S, K, P', L', T', S', K', b1, b2, b3, b4, b5⟩ := hR
  obtain ⟨bt, hbt⟩ : ∃ bt : Nat → Int32, bt = fun i => di 41 i &&& 255 := ⟨_, rfl⟩
  have hbx : ∀ i, i < N → di 41 i &&& 255 = bt i := fun i _ => by rw [hbt]
  have hpos : ∀ i, i < N → (0 : Int32) ≤ bt i := fun i _ => by rw [hbt]; exact t_255 _
  have hbm : ∀ i, i < N → di 71 i = bt i := fun i hi => by rw [n3 i hi, hbt]
  obtain ⟨C, C1, C2, C3⟩ := t_cnt N bt
  obtain ⟨F, hF⟩ : ∃ F : Nat, 3010 ≤ F := ⟨3010, Nat.le_refl _⟩
  have hT := b1.1.2.2.1
  have m4 : di 68 4 = nI T := b1.1.2.2.2.2.2.2.2.1
  have h14 : di 7 14 = nI T := by rw [b1.2.2.2.2.1.2.2.2.2.1]; exact m4
  have n84 := hg.1
  have c11 := b1.2.2.2.2.2.2.2.2.2.2
  refine c_textX (d := d) (F := F) hN n1 hbx a4.2.2.2 a4.2.2.1 hg (by omega) C1 C2 C3 hF hT h14 (fun e => ?_) (fun hT4 H0 j' ks cs A E sl' ln' di' dl' dr' f1 f2 eT hK hX hj' hS => ?_) (fun hT4 H0 fl p ks cs E f1 f2 eT hfl hfl6 hp hE => ?_)
  · subst e
    exact ⟨_, rfl, p125_0 hg (fun w => absurd m4 w) (fun _ => ⟨rfl, w_RR_up h⟩)⟩
  · -- well read
    obtain ⟨X, hXX⟩ : ∃ X, X = q_u (q_u di' n 6 A) 7 14 (nI (T + 1)) := ⟨_, rfl⟩
    have hg1 : q_Gr (n + 7) ln' (q_u dr' 16 T (some n)) := w_Gr16 (t_GrN hg (by omega) hS)
    have lo : ∀ k, k < n → ¬ k = 7 → ¬ k = 40 → X k = E k := fun k hk h7 h40 => by
      rw [hXX, q_uR h7, q_uR (show ¬ k = n by omega), (hS.2.2.1 k hk).2.1, q_uR h40]
    have ed : ∀ k, t_nr k → ¬ k = 40 → ¬ k = 42 → ¬ k = 43 → E k = di k := fun k a b e g => (hX.1 k a).trans (f1 k a b e g)
    have X7 : ∀ i, ¬ i = 14 → X 7 i = di 7 i := fun i hi => by
      rw [hXX, q_uN _ _ _ _ _ hi, q_uR (show ¬ 7 = n by omega), (hS.2.2.1 7 (by omega)).2.1]
      show E 7 i = di 7 i
      rw [ed 7 (by unfold t_nr; omega) (by decide) (by decide) (by decide)]
    have X714 : X 7 14 = nI (T + 1) := by rw [hXX]; exact q_uE _ _ _ _
    have X403 : X 40 3 = 0 := by
      rw [hXX, q_uR (show ¬ (40 : Nat) = 7 by decide), q_uR (show ¬ 40 = n by omega), (hS.2.2.1 40 (by omega)).2.1]
      exact q_uE _ _ _ _
    have Xr : ∀ k, k < n → ¬ k = 7 → t_nr k → ¬ k = 40 → ¬ k = 42 → ¬ k = 43 → X k = di k := fun k hk h7 a b e g => (lo k hk h7 b).trans (ed k a b e g)
    have X67 : X 67 = di 67 := Xr 67 (by omega) (by decide) (by unfold t_nr; omega) (by decide) (by decide) (by decide)
    have X68 : X 68 = di 68 := Xr 68 (by omega) (by decide) (by unfold t_nr; omega) (by decide) (by decide) (by decide)
    have X71 : X 71 = di 71 := Xr 71 (by omega) (by decide) (by unfold t_nr; omega) (by decide) (by decide) (by decide)
    have X70 : X 70 = di 70 := Xr 70 (by omega) (by decide) (by unfold t_nr; omega) (by decide) (by decide) (by decide)
    have X39 : X 39 13 = 0 ∧ X 39 14 = -1 := by
      rw [lo 39 (by omega) (by decide) (by decide)]
      exact ⟨hX.2.2.2.2.2.2.1, hX.2.2.2.2.2.2.2.1⟩
    have Xn : ∀ i, i < 6 → ∀ p, p < (t_lens cs.length ks.length).getD i 0 → X (n + 1 + i) p = E (44 + i) p := fun i hi p hp => by
      rw [hXX, q_uR (show ¬ n + 1 + i = 7 by omega), q_uR (show ¬ n + 1 + i = n by omega), (hS.2.2.2 i hi).2.2 p hp, q_uR (show ¬ 44 + i = 40 by omega)]
    have Xz : X n 6 = A := by rw [hXX, q_uR (show ¬ n = 7 by omega)]; exact q_uE _ _ _ _
    rw [← hXX]
    clear hXX
    refine ⟨_, rfl, p125_0 hg1 (fun _ => ?_) (fun w => ?_)⟩
    · have hmy : t_my X N bt T := ⟨hN, hpos, by rw [X67]; exact n2, by rw [X71]; exact hbm, hT4⟩
      refine c_readM (e := d + 52) (F := F) hmy (by rw [X68]; exact m4) hg1 C2 C3 C1 hF (fun j2 ks2 cs2 D' dl2 e2 hM => ?_) (fun fl2 p2 ks2 cs2 D' dl2 e2 hfl2 _ _ => ?_)
      · have ee := eT.symm.trans e2
        obtain ⟨_, rfl, rfl, rfl⟩ : (0 : Nat) = 0 ∧ j' = j2 ∧ ks = ks2 ∧ cs = cs2 := by
          have e3 := congrArg (fun x => x.2.1) ee
          have e4 := congrArg (fun x => x.2.2.1) ee
          have e5 := congrArg (fun x => x.2.2.2) ee
          exact ⟨rfl, e3, e4, e5⟩
        obtain ⟨M1, M12, Mms, M14, M18, M21, M70, Mhd, Mcod⟩ := hM
        have D68 : D' 68 4 = nI T := by rw [M1.1 68 (by decide) (by decide) (by decide), X68]; exact m4
        refine p125_17 hg1 (fun w => absurd rfl w) (fun _ => ⟨?_, ?_⟩)
        · rw [D68, nI_1, nI_pred]
        · rw [D68, nI_1]
          obtain ⟨G, hG⟩ : ∃ G, G = q_u (q_u (q_u (q_u D' 67 5 0) 67 6 (-1)) 67 4 0) 68 4 (nI (T + 1)) := ⟨_, rfl⟩
          have Go : ∀ k, ¬ k = 67 → ¬ k = 68 → G k = D' k := fun k a b => by rw [hG, q_uR b, q_uR a, q_uR a, q_uR a]
          have GX : ∀ k, ¬ k = 67 → ¬ k = 68 → ¬ k = 70 → ¬ k = 72 → G k = X k := fun k a b e g => (Go k a b).trans (M1.1 k a e g)
          have G70 : G 70 = D' 70 := Go 70 (by decide) (by decide)
          have G67 : G 67 5 = 0 ∧ G 67 6 = -1 ∧ G 67 4 = 0 := by rw [hG]; exact ⟨rfl, rfl, rfl⟩
          have G68 : ∀ i, ¬ i = 4 → G 68 i = di 68 i := fun i hi => by
            rw [hG, q_uN _ _ _ _ _ hi, q_uR (show ¬ (68 : Nat) = 67 by decide), q_uR (show ¬ (68 : Nat) = 67 by decide), q_uR (show ¬ (68 : Nat) = 67 by decide), M1.1 68 (by decide) (by decide) (by decide), X68]
          have G684 : G 68 4 = nI (T + 1) := by rw [hG]; exact q_uE _ _ _ _
          show q_RR (c + 1) (n + 7) sl' ln' (q_u (q_u (q_u (q_u D' 67 5 0) 67 6 (-1)) 67 4 0) 68 4 (nI (T + 1))) (q_u dr' 16 T (some n))
          rw [← hG]
          clear hG
          have hz0 : q_scr (n + 7) n := ⟨n84, by omega, by omega⟩
          have hsl1 : sl' ≤ sl + 400 := hS.2.1
          have hsl2 : sl' ≤ 20000 + 500 * (c + 1) := Nat.le_trans hsl1 (by rw [Nat.mul_add]; exact Nat.le_trans (Nat.add_le_add_right a3 400) (by omega))
          refine t_RRnew (T1 := T + 1) a4 b1 b2 b3 b4 b5 hg1 ⟨NN + 1, by omega, by omega⟩ hsl2 (by omega) (fun k k1 k2 => ⟨(hS.2.2.1 k k2).1, ?_⟩) (fun k k0 k7 k67 k68 k70 k72 kn k40 k42 k43 => ?_) (fun i hi => ?_) ?_ G68 G684 (fun i hi => ?_) ⟨0, by decide, ?_, G67.2.2, fun i hi => absurd hi (Nat.not_lt_zero i)⟩ ⟨?_, ?_⟩ ?_ (fun t ht => ?_) (by omega) (by omega) (fun t t1 t2 => ?_) (fun t z t4 hz => ?_)
          · rw [GX k (by omega) (by omega) (by omega) (by omega)]
            exact Xr k k2 (by omega) (by unfold t_nr; omega) (by omega) (by omega) (by omega)
          · rw [GX k k67 k68 k70 k72]
            exact Xr k (by omega) k7 kn k40 k42 k43
          · rw [GX 7 (by decide) (by decide) (by decide) (by decide)]; exact X7 i hi
          · rw [GX 7 (by decide) (by decide) (by decide) (by decide)]; exact X714
          · rw [G70, M1.2.2 i hi, X70]
          · rw [GX 40 (by decide) (by decide) (by decide) (by decide)]; exact X403
          · rw [GX 39 (by decide) (by decide) (by decide) (by decide), X39.1, G67.1]
          · rw [GX 39 (by decide) (by decide) (by decide) (by decide), X39.2, G67.2.1]
          · rw [q_uR (show ¬ (32 : Nat) = 16 by decide)]; exact (hS.2.2.1 32 (by omega)).2.2
          · rw [q_uN _ _ _ _ _ (by omega), (hS.2.2.1 16 (by omega)).2.2]
          · have et : t = T := by omega
            subst et
            refine ⟨n, q_uE _ _ _ _, hz0, ?_⟩
            rw [G70]
            refine t_TXnew (E := E) hK (by have := hK.2.1; omega) (fun i hi => ⟨(hS.2.2.2 i hi).2.1, fun p hp => ?_⟩) ?_ hX.2.2.2.2.2.2.2.2.1 hX.2.2.2.2.2.2.2.2.2.1 hX.2.2.2.2.2.2.2.2.2.2 M70 Mhd Mcod
            · rw [GX (n + 1 + i) (by omega) (by omega) (by omega) (by omega)]; exact Xn i hi p hp
            · rw [GX n (by omega) (by omega) (by omega) (by omega)]; exact Xz
          · by_cases e : t = T
            · subst e
              rw [q_uE] at hz
              cases hz
              exact hz0
            · rw [q_uN _ _ _ _ _ e, (hS.2.2.1 16 (by omega)).2.2] at hz
              have q := c11.2 t z t4 hz
              exact ⟨q.1, q.2.1, by have := q.2.2; omega⟩
      · have ee := congrArg (fun x => x.1) (eT.symm.trans e2)
        exact absurd ee.symm hfl2
    · rw [X68, m4] at w
      exact absurd ((nI_eq (b := 4) (by omega) (by decide)).mp w) (by omega)
  · -- a fault
    obtain ⟨X, hXX⟩ : ∃ X, X = q_u E 40 3 0 := ⟨_, rfl⟩
    have ed : ∀ k, t_nr k → ¬ k = 40 → ¬ k = 42 → ¬ k = 43 → X k = di k := fun k a b e g => by
      rw [hXX, q_uR b]; exact (hE.1 k a).trans (f1 k a b e g)
    have X403 : X 40 3 = 0 := by rw [hXX]; exact q_uE _ _ _ _
    have X39 : X 39 13 = nI fl ∧ X 39 14 = nI (t_bg N bt p) := by rw [hXX]; exact ⟨hE.2.2.1, hE.2.2.2.1⟩
    have X67 : X 67 = di 67 := ed 67 (by unfold t_nr; omega) (by decide) (by decide) (by decide)
    have X68 : X 68 = di 68 := ed 68 (by unfold t_nr; omega) (by decide) (by decide) (by decide)
    have X71 : X 71 = di 71 := ed 71 (by unfold t_nr; omega) (by decide) (by decide) (by decide)
    have X70 : X 70 = di 70 := ed 70 (by unfold t_nr; omega) (by decide) (by decide) (by decide)
    rw [← hXX]
    clear hXX
    refine ⟨_, rfl, p125_0 hg (fun _ => ?_) (fun w => ?_)⟩
    · have hmy : t_my X N bt T := ⟨hN, hpos, by rw [X67]; exact n2, by rw [X71]; exact hbm, hT4⟩
      refine c_readM (e := d + 52) (F := F) hmy (by rw [X68]; exact m4) hg C2 C3 C1 hF (fun j2 ks2 cs2 D' dl2 e2 _ => ?_) (fun fl2 p2 ks2 cs2 D' dl2 e2 hfl2 M1 M8 => ?_)
      · have ee := congrArg (fun x => x.1) (eT.symm.trans e2)
        exact absurd ee hfl
      · have ee := eT.symm.trans e2
        obtain ⟨rfl, rfl⟩ : fl = fl2 ∧ p = p2 := ⟨congrArg (fun x => x.1) ee, congrArg (fun x => x.2.1) ee⟩
        refine p125_17 hg (fun _ => ⟨rfl, ?_⟩) (fun w => absurd w (nI_ne0 (by omega) (by omega)))
        rw [M8]
        obtain ⟨G, hG⟩ : ∃ G, G = q_u (q_u (q_u D' 67 5 (nI fl)) 67 6 (nI (t_bg N bt p))) 67 4 0 := ⟨_, rfl⟩
        have GX : ∀ k, ¬ k = 67 → ¬ k = 70 → ¬ k = 72 → G k = X k := fun k a e g => by
          rw [hG, q_uR a, q_uR a, q_uR a]; exact M1.1 k a e g
        have G70 : G 70 = D' 70 := by rw [hG]; rfl
        have G67 : G 67 5 = nI fl ∧ G 67 6 = nI (t_bg N bt p) ∧ G 67 4 = 0 := by rw [hG]; exact ⟨rfl, rfl, rfl⟩
        show q_RR (c + 1) n sl ln (q_u (q_u (q_u D' 67 5 (nI fl)) 67 6 (nI (t_bg N bt p))) 67 4 0) dr
        rw [← hG]
        clear hG
        refine t_RRnew (T1 := T) a4 b1 b2 b3 b4 b5 hg ⟨NN, by omega, NN2⟩ (by omega) (Nat.le_refl _) (fun k k1 k2 => ⟨rfl, ?_⟩) (fun k k0 k7 k67 k68 k70 k72 kn k40 k42 k43 => ?_) (fun i hi => ?_) ?_ (fun i hi => ?_) ?_ (fun i hi => ?_) ⟨0, by decide, ?_, G67.2.2, fun i hi => absurd hi (Nat.not_lt_zero i)⟩ ⟨?_, ?_⟩ rfl (fun t ht => rfl) (Nat.le_refl _) hT (fun t t1 t2 => absurd t1 (by omega)) c11.2
        · rw [GX k (by omega) (by omega) (by omega)]
          exact ed k (by unfold t_nr; omega) (by omega) (by omega) (by omega)
        · rw [GX k k67 k70 k72]
          exact ed k kn k40 k42 k43
        · rw [GX 7 (by decide) (by decide) (by decide), ed 7 (by unfold t_nr; omega) (by decide) (by decide) (by decide)]
        · rw [GX 7 (by decide) (by decide) (by decide), ed 7 (by unfold t_nr; omega) (by decide) (by decide) (by decide)]; exact h14
        · rw [GX 68 (by decide) (by decide) (by decide), X68]
        · rw [GX 68 (by decide) (by decide) (by decide), X68]; exact m4
        · rw [G70, M1.2.2 i hi, X70]
        · rw [GX 40 (by decide) (by decide) (by decide)]; exact X403
        · rw [GX 39 (by decide) (by decide) (by decide), X39.1, G67.1]
        · rw [GX 39 (by decide) (by decide) (by decide), X39.2, G67.2.1]
    · rw [X68, m4] at w
      exact absurd ((nI_eq (b := 4) (by omega) (by decide)).mp w) (by omega)
end
