def w_stl (p ok : Nat → Bool) : Nat → Nat → Int32 → Int32
  | 0, _, b => b
  | c + 1, s, b => if p s = true ∧ (b = -1 ∨ q_bits (nI s) 10 0 0 < q_bits b 10 0 0) ∧ ok s = true then w_stl p ok c (s + 1) (nI s) else w_stl p ok c (s + 1) b
theorem w_neg1 {t : Nat} (h : t < 2 ^ 31) : ¬ nI t = -1 := fun e => by
  have := congrArg Int32.toInt e
  rw [q_tm1, nI_toInt h] at this
  omega
section
variable {c d n sl : Nat} {ln : Nat → Nat} {di : Nat → Nat → Int32} {dl : Nat → Nat → Int64} {dr : Nat → Nat → Option Nat} {Q : Option Value → q_H → Prop} {a tx pl : Nat → Int32} {P L : Nat}
/-- all who sit, with some more still: enough or not -/
theorem w_alS (h : w_H n ln di dr a tx P L) {st : Nat} : q_al a tx (di 11) (q_an (w_si (q_pl a)) st) L = q_al a tx (q_pl a) (q_an 63 st) L := by
  rw [q_al_cg h.2.2.1]
  refine w_al_m (fun j hj => ?_) (fun _ _ _ _ => rfl)
  have h63 : ∀ j, j < 6 → (63 : Nat).testBit j = true := by decide
  rw [q_anT, q_anT, h63 j hj, w_pos (h.2.2.2.2.2.1 j hj), Bool.and_eq_true, Bool.and_eq_true, w_siT, decide_eq_true_iff]
  exact ⟨fun z => ⟨⟨⟨hj, z.2⟩, z.1.2⟩, z.2⟩, fun z => ⟨⟨rfl, z.1.2⟩, z.2⟩⟩
theorem c_stl26 {b0 : Nat} (hb : b0 ≤ 990) (h : w_H n ln di dr a tx P L) (hg : q_Gr n ln dr) : ∀ (c s : Nat) (b : Int32) (e : Nat → Nat → Int32), s + c = 64 → (b = -1 ∨ ∃ t, t < 64 ∧ b = nI t) → q_CE (e 54) (e 55) (e 56) a tx P L →
    (∀ e', q_CE (e' 54) (e' 55) (e' 56) a tx P L → Q (some (.int (w_stl (fun s => decide (q_an s (q_an (w_si (q_pl a)) (q_sm a)) = 0)) (fun s => decide (q_al a tx (q_pl a) (q_an 63 (q_sm a ||| s)) L ≤ nI b0)) c s b))) (n, sl, ln, q_F w_E di e', dl, dr)) →
    q_EX q_KD (d + 6) 105 26 [.ref 60, .int (nI b0), .int (nI (w_si (q_pl a))), .int (nI (q_an (w_si (q_pl a)) (q_sm a))), .int b, .int (nI s), .retAddr 0] [] (n, sl, ln, q_F w_E di e, dl, dr) Q := by
  intro c
  induction c with
  | zero =>
    intro s b e hs hbb hCE k
    have hlt : ¬ nI s ≤ 63 := by rw [show (63 : Int32) = nI 63 from rfl, nI_leI (by omega) (by decide)]; omega
    exact g105_26 hg (fun _ => k e hCE) (fun w => absurd w hlt) (fun w => absurd w hlt) (fun w => absurd w hlt) (fun w => absurd w hlt)
  | succ c ih =>
    intro s b e hs hbb hCE k
    have hle : ¬ (63 : Int32) < nI s := by rw [show (63 : Int32) = nI 63 from rfl, nI_ltI (by decide) (by omega)]; omega
    have kno : ¬ (q_an s (q_an (w_si (q_pl a)) (q_sm a)) = 0 ∧ (b = -1 ∨ q_bits (nI s) 10 0 0 < q_bits b 10 0 0) ∧ q_al a tx (q_pl a) (q_an 63 (q_sm a ||| s)) L ≤ nI b0) → ∀ e2, q_CE (e2 54) (e2 55) (e2 56) a tx P L → q_EX q_KD (d + 6) 105 26 [.ref 60, .int (nI b0), .int (nI (w_si (q_pl a))), .int (nI (q_an (w_si (q_pl a)) (q_sm a))), .int b, .int (nI s + 1), .retAddr 0] [] (n, sl, ln, q_F w_E di e2, dl, dr) Q := by
      intro hn e2 q2
      rw [nI_1]
      refine ih (s + 1) b e2 (by omega) hbb q2 (fun e' r => ?_)
      have kk := k e' r
      unfold w_stl at kk
      rwa [if_neg (fun z => hn ⟨of_decide_eq_true z.1, z.2.1, of_decide_eq_true z.2.2⟩)] at kk
    have htog : q_an s (q_an (w_si (q_pl a)) (q_sm a)) = 0 → (b = -1 ∨ q_bits (nI s) 10 0 0 < q_bits b 10 0 0) → q_EX q_KD (d + 5) 90 0 [.ref 53, .int (nI (w_si (q_pl a))), .int (q_F w_E di e 7 11 ||| nI s), .ref 11, .int (nI b0 + 1), .retAddr 0, .retAddr 0] [] (n, sl, ln, q_F w_E di e, dl, dr) (fun r1 h1 => q_EX q_KD (d + 5 + 1) 105 101 [.ref 60, .int (nI b0), .int (nI (w_si (q_pl a))), .int (nI (q_an (w_si (q_pl a)) (q_sm a))), .int b, .int (nI s), .retAddr 0] (r1.toList ++ []) h1 Q) := by
      intro h0 hb1
      rw [show q_F w_E di e 7 11 = nI (q_sm a) from h.2.2.2.1, fa_or, nI_1]
      refine c_tog (d := d) (di := q_F w_E di e) (sa := 11) (p := w_si (q_pl a)) (by omega) (w_H_pl h (w_siL _) (fun j hj => hj)) rfl (q_lt hg rfl) (hg.2.1 11 6 rfl) rfl (q_W_F h.1) hCE hg (fun e2 y hy q1 q2 => ?_)
      rw [q_FF]
      have hL := h.1.2.2.1
      obtain ⟨T, t1, t2, t3⟩ := w_alb a tx (di 11) (q_an (w_si (q_pl a)) (q_sm a ||| s)) L 0 0
      have t3' : q_al a tx (di 11) (q_an (w_si (q_pl a)) (q_sm a ||| s)) L = nI T := t3
      have hq := q2 T (by omega) t3'
      have t4 : q_al a tx (q_pl a) (q_an 63 (q_sm a ||| s)) L = nI T := by rw [← w_alS h]; exact t3'
      refine g105_101 hg (fun w => ?_) (fun w => ?_)
      · have w' := (nI_ltI (by omega) (by omega)).mp w
        refine kno (fun z => ?_) e2 q1
        have z' := z.2.2
        rw [t4, nI_leI (by omega) (by omega)] at z'
        have := hq.1 (by omega)
        omega
      · have w' := (nI_leI (by omega) (by omega)).mp w
        have hTb : T ≤ b0 := by
          rcases Nat.lt_or_ge T (b0 + 1) with z | z
          · omega
          · have := hq.2 z; omega
        rw [nI_1]
        refine ih (s + 1) (nI s) e2 (by omega) (Or.inr ⟨s, by omega, rfl⟩) q1 (fun e' r => ?_)
        have kk := k e' r
        unfold w_stl at kk
        rwa [if_pos ⟨decide_eq_true h0, hb1, decide_eq_true (by rw [t4, nI_leI (by omega) (by omega)]; exact hTb)⟩] at kk
    refine g105_26 hg (fun w => absurd w hle) (fun _ _ w => absurd w (by decide)) (fun _ w1 _ w3 => kno (fun z => w3 ((w_an0 (by omega)).mpr z.1)) e hCE) (fun _ w1 _ w3 => htog ((w_an0 (by omega)).mp w3) (Or.inl w1)) (fun _ w1 => c_bc hg (g105_44 hg (c_bc hg ?_)))
    obtain ⟨t, ht, hbt⟩ := hbb.resolve_left w1
    have eb1 : q_bcI (nI s) = q_bits (nI s) 10 0 0 := q_bc10 s (by omega)
    have eb2 : q_bcI b = q_bits b 10 0 0 := by rw [hbt]; exact q_bc10 t (by omega)
    rw [eb1, eb2]
    refine g105_49 hg (fun w _ => kno (fun z => z.2.1.elim (fun z1 => w1 z1) (fun z1 => q_not_lt w z1)) e hCE) (fun _ w => absurd rfl w) (fun _ w => absurd rfl w) (fun _ w => absurd w (by decide)) (fun _ _ w3 => kno (fun z => w3 ((w_an0 (by omega)).mpr z.1)) e hCE) (fun w2 _ w3 => htog ((w_an0 (by omega)).mp w3) (Or.inr w2))
theorem c_stl37 {b0 sm si : Nat} (hb : b0 ≤ 990) (hsm : sm < 64) (h : w_MF di a tx P L) (hN : ∀ j, j < 6 → di 76 j = pl j) (hpl : ∀ j, P ≤ j → j < 6 → pl j < 0) (hg : q_Gr n ln dr) : ∀ (c s : Nat) (b : Int32) (D : Nat → Nat → Int32) (dl : Nat → Nat → Int64), s + c = 64 → (b = -1 ∨ ∃ t, t < 64 ∧ b = nI t) → w_M di D → D 76 = di 76 →
    (∀ D' dl', w_M di D' → Q (some (.int (w_stl (fun s => decide (q_an s si = 0)) (fun s => decide (q_al a tx pl (q_an 63 (sm ||| s)) L ≤ nI b0)) c s b))) (n, sl, ln, D', dl', dr)) →
    q_EX q_KD (d + 8) 200 37 [.ref 67, .int (nI b0), .int (nI sm), .int (nI si), .int b, .int (nI s)] [] (n, sl, ln, D, dl, dr) Q := by
  intro c
  induction c with
  | zero =>
    intro s b D dl hs hbb hM r2 k
    have hlt : ¬ nI s < 64 := by rw [show (64 : Int32) = nI 64 from rfl, nI_ltI (by omega) (by decide)]; omega
    exact g200_37 hg (fun _ => k D dl hM) (fun w => absurd w hlt) (fun w => absurd w hlt) (fun w => absurd w hlt)
  | succ c ih =>
    intro s b D dl hs hbb hM r2 k
    have hle : ¬ (64 : Int32) ≤ nI s := by rw [show (64 : Int32) = nI 64 from rfl, nI_leI (by decide) (by omega)]; omega
    have kno : ¬ (q_an s si = 0 ∧ (b = -1 ∨ q_bits (nI s) 10 0 0 < q_bits b 10 0 0) ∧ q_al a tx pl (q_an 63 (sm ||| s)) L ≤ nI b0) → ∀ D2 dl2, w_M di D2 → D2 76 = di 76 → q_EX q_KD (d + 8) 200 37 [.ref 67, .int (nI b0), .int (nI sm), .int (nI si), .int b, .int (nI s + 1)] [] (n, sl, ln, D2, dl2, dr) Q := by
      intro hn D2 dl2 hM2 q2
      rw [nI_1]
      refine ih (s + 1) b D2 dl2 (by omega) hbb hM2 q2 (fun D' dl' t1 => ?_)
      have kk := k D' dl' t1
      unfold w_stl at kk
      rwa [if_neg (fun z => hn ⟨of_decide_eq_true z.1, z.2.1, of_decide_eq_true z.2.2⟩)] at kk
    have htog : q_an s si = 0 → (b = -1 ∨ q_bits (nI s) 10 0 0 < q_bits b 10 0 0) → q_EX q_KD (d + 7) 190 0 [.ref 67, .int 63, .retAddr 0, .retAddr 0] [] (n, sl, ln, q_u D 67 26 (nI sm ||| nI s), dl, dr) (fun r1 h1 => q_EX q_KD (d + 7 + 1) 200 88 [.ref 67, .int (nI b0), .int (nI sm), .int (nI si), .int b, .int (nI s)] (r1.toList ++ []) h1 Q) := by
      intro h0 hb1
      rw [fa_or]
      have hMu : w_M di (q_u D 67 26 (nI (sm ||| s))) := w_M_tr hM (w_M_67 (by decide))
      refine c_allA (d := d) (s := 63) (st := sm ||| s) (pl := pl) (by decide) (w_MF_M h hMu) ⟨q_uE _ _ _ _, fun j hj => by rw [q_uR (by decide), r2]; exact hN j hj⟩ hpl hg (fun D2 dl2 hM2 s1 s2 => g200_88 hg (fun w => ?_) (fun w => ?_))
      · exact kno (fun z => q_not_lt z.2.2 w) D2 dl2 (w_M_tr hMu hM2) (s2.trans r2)
      · rw [nI_1]
        refine ih (s + 1) (nI s) D2 dl2 (by omega) (Or.inr ⟨s, by omega, rfl⟩) (w_M_tr hMu hM2) (s2.trans r2) (fun D' dl' t1 => ?_)
        have kk := k D' dl' t1
        unfold w_stl at kk
        rwa [if_pos ⟨decide_eq_true h0, hb1, decide_eq_true w⟩] at kk
    refine g200_37 hg (fun w => absurd w hle) (fun _ w => kno (fun z => w ((w_an0 (by omega)).mpr z.1)) D dl hM r2) (fun _ w w2 => htog ((w_an0 (by omega)).mp w) (Or.inl ?_)) (fun _ w w2 => c_bits hg (g200_63 hg (c_bits hg (g200_68 hg (fun w3 => htog ((w_an0 (by omega)).mp w) (Or.inr w3)) (fun w3 => kno (fun z => z.2.1.elim (fun z1 => ?_) (fun z1 => q_not_lt w3 z1)) D dl hM r2)))))
    · rcases hbb with q | ⟨t, q1, q2⟩
      · exact q
      · rw [q2] at w2; exact absurd w2 (nI_pos (by omega))
    · rw [z1] at w2; exact absurd w2 (by decide)
theorem o_stilled {x1 : Int32} (h : q_RR c n sl ln di dr) : o_op (d + 8) 104 200 [.ref 6, .int x1] [.ref 67, .int x1, .retAddr 0, .retAddr 0, .retAddr 0, .retAddr 0] c (n, sl, ln, di, dl, dr) := by
  have hR := h
  obtain ⟨hg, _, _, _, _, _, P, L, T, S, K, _, _, _, _, _, b1, _, _, b4, b5⟩ := hR
  have hH := w_RH_H h b1 b4 b5
  have hF := w_RH_MF b1
  refine g104_0 hg (c_within hg (g104_7 hg (fun y => ?_) (fun y => ?_)))
  · exact ⟨-1, rfl, g200_0 hg (c_isIn hg (g200_8 hg (fun w => absurd y w) (fun _ => ⟨rfl, w_RR_up h⟩)))⟩
  · obtain ⟨y1, y2⟩ := q_bp.mp y
    obtain ⟨b0, hb0, hx⟩ := nI_of2 (M := 990) (n := 990) rfl (q_not_lt y1) y2
    subst hx
    refine g105_0 hg (c_sitH hg (g105_7 hg ?_))
    rw [w_sit6, w_si_cg hH.2.2.1, hH.2.2.2.1, q_anI]
    have hfin : ∀ e : Nat → Nat → Int32, q_CE (e 54) (e 55) (e 56) (di 68) (di 70) P L → q_EX q_KD (d + 8) 200 0 [.ref 67, .int (nI b0), .retAddr 0, .retAddr 0, .retAddr 0, .retAddr 0] [] (n, sl, ln, q_F w_E di e, dl, dr) (fun r2 h2 => r2 = some (.int (w_stl (fun s => decide (q_an s (q_an (w_si (q_pl (di 68))) (q_sm (di 68))) = 0)) (fun s => decide (q_al (di 68) (di 70) (q_pl (di 68)) (q_an 63 (q_sm (di 68) ||| s)) L ≤ nI b0)) 64 0 (-1))) ∧ w_R (c + 1) h2) := by
      intro e hCE
      have hF2 : w_MF (q_F w_E di e) (di 68) (di 70) P L := hF
      refine g200_0 hg (c_isIn hg (g200_8 hg (fun _ => c_seatA (d := d + 4) hF2 hg (fun D hM hN => g200_17 hg (c_sitA (d := d + 6) (w_MF_M hF2 hM) hH.2.2.2.2.2.1 hg (g200_26 hg ?_)))) (fun w => absurd w y)))
      rw [hN.1, q_anI]
      exact c_stl37 (d := d) (pl := q_pl (di 68)) hb0 (q_msL _) (w_MF_M hF2 hM) hN.2 (w_plneg hF) hg 64 0 (-1) D dl rfl (Or.inl rfl) (w_M_refl _) rfl (fun D2 dl2 hM2 => ⟨rfl, w_end h (fun k hk => w_E_in hk) (w_M_tr hM hM2) (w_hcE b1 hCE)⟩)
    have hp := c_stl26 (d := d + 1) (sl := sl) (dl := dl) (Q := fun r1 h1 => q_EX q_KD (d + 8) 104 18 [.retAddr 0, .retAddr 0] (r1.toList ++ []) h1 (fun r h1 => ∃ v : Int32, r = some (.int v) ∧ q_EX q_KD (d + 8) 200 0 [.ref 67, .int (nI b0), .retAddr 0, .retAddr 0, .retAddr 0, .retAddr 0] [] h1 (fun r2 h2 => r2 = some (.int v) ∧ w_R (c + 1) h2))) hb0 hH hg 64 0 (-1) di rfl (Or.inl rfl) hH.2.1 (fun e hCE => g104_18 hg ⟨_, rfl, hfin e hCE⟩)
    rw [q_Fid] at hp
    exact hp
end
