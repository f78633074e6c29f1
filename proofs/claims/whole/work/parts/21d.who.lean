/-! who, stilled -/
def w_cb (lb se : Nat → Int32) : Nat → Nat → Bool
  | 0, _ => true
  | c + 1, l => if lb l = se l then w_cb lb se c (l + 1) else false
theorem w_cb_cg {lb lb' se se' : Nat → Int32} : ∀ (c l : Nat), (∀ i, l ≤ i → i < l + c → lb' i = lb i ∧ se' i = se i) → w_cb lb' se' c l = w_cb lb se c l := by
  intro c
  induction c with
  | zero => intro l _; rfl
  | succ c ih =>
    intro l h
    unfold w_cb
    rw [(h l (Nat.le_refl _) (by omega)).1, (h l (Nat.le_refl _) (by omega)).2, ih (l + 1) (fun i h1 h2 => h i (by omega) (by omega))]
def w_wh (p : Nat → Bool) (x1 : Int32) : Nat → Nat → Int32 → Int32
  | 0, _, f => if x1 = -1 then f else -1
  | c + 1, s, f => if p s = true then (if f = x1 then nI s else w_wh p x1 c (s + 1) (f + 1)) else w_wh p x1 c (s + 1) f
theorem w_wh_cg {p p' : Nat → Bool} {x1 : Int32} (h : ∀ s, s < 64 → p' s = p s) : ∀ (c s : Nat) (f : Int32), s + c ≤ 64 → w_wh p' x1 c s f = w_wh p x1 c s f := by
  intro c
  induction c with
  | zero => intro s f _; rfl
  | succ c ih =>
    intro s f hs
    unfold w_wh
    rw [h s (by omega), ih (s + 1) _ (by omega), ih (s + 1) _ (by omega)]
theorem w_an0 {s m : Nat} (hs : s < 2 ^ 31) : (nI s &&& (nI m ^^^ (-1))) = 0 ↔ q_an s m = 0 := by
  rw [q_anI]
  exact ⟨fun h => (nI_eq (b := 0) (q_anlt hs) (by decide)).mp h, fun h => by rw [h]; rfl⟩
theorem w_sub {s m : Nat} (h : q_an s m = 0) (j : Nat) (hj : s.testBit j = true) : m.testBit j = true := by
  have := q_anT s m j
  rw [h, Nat.zero_testBit, hj] at this
  revert this
  cases m.testBit j <;> decide
section
variable {c d n sl : Nat} {ln : Nat → Nat} {di : Nat → Nat → Int32} {dl : Nat → Nat → Int64} {dr : Nat → Nat → Option Nat} {Q : Option Value → q_H → Prop} {a tx pl : Nat → Int32} {P L K : Nat}
theorem c_sounds2 {s : Nat} (h : w_H n ln di dr a tx P L) (hK : K ≤ L) (h13 : di 7 13 = nI K) (hs : w_pl (di 11) s P) (hg : q_Gr n ln dr) : ∀ (c l : Nat) (e : Nat → Nat → Int32), l + c = K → q_CE (e 54) (e 55) (e 56) a tx P L →
    (∀ e', q_CE (e' 54) (e' 55) (e' 56) a tx P L → Q (some (.int (if w_cb (fun l => q_lb a tx (di 11) l (q_an s (q_sm a))) (di 15) c l = true then 1 else 0))) (n, sl, ln, q_F w_E di e', dl, dr)) →
    q_EX q_KD (d + 5) 109 2 [.ref 60, .int (nI s), .int (nI l)] [] (n, sl, ln, q_F w_E di e, dl, dr) Q := by
  have hL := h.1.2.2.1
  intro c
  induction c with
  | zero =>
    intro l e hl hCE k
    have h13' : q_F w_E di e 7 13 = nI K := h13
    exact g109_2 hg (fun _ => k e hCE) (fun c => absurd c (by rw [h13']; exact nI_nlt (by omega) (by omega)))
  | succ c ih =>
    intro l e hl hCE k
    have h13' : q_F w_E di e 7 13 = nI K := h13
    refine g109_2 hg (fun c' => absurd c' (by rw [h13']; exact nI_ge (by omega) (by omega))) (fun _ => ?_)
    rw [show q_F w_E di e 7 11 = nI (q_sm a) from h.2.2.2.1]
    refine c_listen (d := d) (di := q_F w_E di e) (sa := 11) (by omega) hs rfl (q_lt hg rfl) (hg.2.1 11 6 rfl) rfl (q_W_F h.1) hCE hg (fun e1 q1 q2 q3 => ?_)
    rw [q_FF]
    refine g109_36 hg (c_loudX (d := d + 1) (di := q_F w_E di e1) (l := l) (c := 0) (by omega) (w_wv64 _ _ _ _ _ 7 0 0 (by decide)) (w_wv6 _ _ _ _ _ 7 0 0 (Nat.zero_le _)) (by decide) q1 q2 (q_W_F h.1) q3 hg (fun e2 _ q5 => g109_45 hg (vp_in_nI (by omega) (by decide)) (fun w => ?_) (fun w => ?_)))
    · rw [q_FF, nI_1]
      rw [nI_clamp (by omega)] at w
      refine ih (l + 1) e2 (by omega) q5 (fun e' r => ?_)
      have kk := k e' r
      unfold w_cb at kk
      rwa [if_pos (show (fun l => q_lb a tx (di 11) l (q_an s (q_sm a))) l = di 15 l from w)] at kk
    · rw [q_FF]
      rw [nI_clamp (by omega)] at w
      have kk := k e2 q5
      unfold w_cb at kk
      rwa [if_neg (show ¬ (fun l => q_lb a tx (di 11) l (q_an s (q_sm a))) l = di 15 l from w)] at kk
theorem c_sounds {s : Nat} (h : w_H n ln di dr a tx P L) (hK : K ≤ L) (h13 : di 7 13 = nI K) (hs : w_pl (di 11) s P) (hg : q_Gr n ln dr)
    (k : ∀ e', q_CE (e' 54) (e' 55) (e' 56) a tx P L → Q (some (.int (if w_cb (fun l => q_lb a tx (di 11) l (q_an s (q_sm a))) (di 15) K 0 = true then 1 else 0))) (n, sl, ln, q_F w_E di e', dl, dr)) :
    q_EX q_KD (d + 5) 109 0 [.ref 60, .int (nI s), .retAddr 0] [] (n, sl, ln, di, dl, dr) Q := by
  refine g109_0 hg ?_
  have := c_sounds2 (d := d) (sl := sl) (dl := dl) (Q := Q) h hK h13 hs hg K 0 di (by omega) h.2.1 k
  rwa [q_Fid] at this
theorem c_poss13 {x1 : Int32} (h : w_H n ln di dr a tx P L) (hK : K ≤ L) (h13 : di 7 13 = nI K) (hg : q_Gr n ln dr) : ∀ (c s : Nat) (f : Int32) (e : Nat → Nat → Int32), s + c = 64 → q_CE (e 54) (e 55) (e 56) a tx P L →
    (∀ e', q_CE (e' 54) (e' 55) (e' 56) a tx P L → Q (some (.int (w_wh (fun s => decide (q_an s (w_si (q_pl a)) = 0) && w_cb (fun l => q_lb a tx (di 11) l (q_an s (q_sm a))) (di 15) K 0) x1 c s f))) (n, sl, ln, q_F w_E di e', dl, dr)) →
    q_EX q_KD (d + 6) 108 13 [.ref 60, .int x1, .int (nI (w_si (q_pl a))), .int f, .int (nI s)] [] (n, sl, ln, q_F w_E di e, dl, dr) Q := by
  intro c
  induction c with
  | zero =>
    intro s f e hs hCE k
    have kk := k e hCE
    unfold w_wh at kk
    have hlt : ¬ nI s ≤ 63 := by rw [show (63 : Int32) = nI 63 from rfl, nI_leI (by omega) (by decide)]; omega
    refine g108_13 hg (fun _ w => ?_) (fun _ w => ?_) (fun w => absurd w hlt) (fun w => absurd w hlt)
    · rwa [if_neg w] at kk
    · rwa [if_pos w] at kk
  | succ c ih =>
    intro s f e hs hCE k
    have hle : ¬ (63 : Int32) < nI s := by rw [show (63 : Int32) = nI 63 from rfl, nI_ltI (by decide) (by omega)]; omega
    have hH : w_H n ln (q_F w_E di e) dr a tx P L := ⟨q_W_F h.1, hCE, h.2.2.1, h.2.2.2.1, h.2.2.2.2.1, h.2.2.2.2.2.1, h.2.2.2.2.2.2.1, h.2.2.2.2.2.2.2.1, h.2.2.2.2.2.2.2.2⟩
    refine g108_13 hg (fun w => absurd w hle) (fun w => absurd w hle) (fun _ w => ?_) (fun _ w => ?_)
    · rw [nI_1]
      refine ih (s + 1) f e (by omega) hCE (fun e' r => ?_)
      have kk := k e' r
      unfold w_wh at kk
      rwa [if_neg (by rw [decide_eq_false (fun z => w ((w_an0 (by omega)).mpr z))]; exact Bool.false_ne_true)] at kk
    · have w0 := (w_an0 (show s < 2 ^ 31 by omega)).mp w
      refine c_sounds (d := d) hH hK h13 (w_H_pl h (by omega) (w_sub w0)) hg (fun e2 q => g108_35 hg (fun y => ?_) (fun y z => ?_) (fun y z => ?_))
      · rw [q_FF, nI_1]
        refine ih (s + 1) f e2 (by omega) q (fun e' r => ?_)
        have kk := k e' r
        unfold w_wh at kk
        rwa [if_neg (fun w2 => by
          rw [Bool.and_eq_true] at w2
          have y' : (if w_cb (fun l => q_lb a tx (di 11) l (q_an s (q_sm a))) (di 15) K 0 = true then (1 : Int32) else 0) = 0 := y
          rw [if_pos w2.2] at y'
          exact absurd y' (by decide))] at kk
      · rw [q_FF, nI_1]
        refine ih (s + 1) (f + 1) e2 (by omega) q (fun e' r => ?_)
        have kk := k e' r
        unfold w_wh at kk
        have y1 : w_cb (fun l => q_lb a tx (di 11) l (q_an s (q_sm a))) (di 15) K 0 = true := by
          cases hb : w_cb (fun l => q_lb a tx (di 11) l (q_an s (q_sm a))) (di 15) K 0 with
          | true => rfl
          | false =>
            exfalso
            have y' : ¬ (if w_cb (fun l => q_lb a tx (di 11) l (q_an s (q_sm a))) (di 15) K 0 = true then (1 : Int32) else 0) = 0 := y
            rw [hb] at y'
            exact y' (by decide)
        rwa [if_pos (by rw [decide_eq_true w0, y1]; rfl), if_neg z] at kk
      · rw [q_FF]
        have kk := k e2 q
        unfold w_wh at kk
        have y1 : w_cb (fun l => q_lb a tx (di 11) l (q_an s (q_sm a))) (di 15) K 0 = true := by
          cases hb : w_cb (fun l => q_lb a tx (di 11) l (q_an s (q_sm a))) (di 15) K 0 with
          | true => rfl
          | false =>
            exfalso
            have y' : ¬ (if w_cb (fun l => q_lb a tx (di 11) l (q_an s (q_sm a))) (di 15) K 0 = true then (1 : Int32) else 0) = 0 := y
            rw [hb] at y'
            exact y' (by decide)
        rwa [if_pos (by rw [decide_eq_true w0, y1]; rfl), if_pos z] at kk
theorem c_canBe2 {s st : Nat} (h : w_MF di a tx P L) (hN : w_N di st pl) (hpl : ∀ j, P ≤ j → j < 6 → pl j < 0) (hs : s < 2 ^ 31) (hK : K ≤ L) (h7 : a 7 = nI K) (hg : q_Gr n ln dr) : ∀ (c l : Nat) (D : Nat → Nat → Int32) (dl : Nat → Nat → Int64), l + c = K → w_M di D → D 67 26 = di 67 26 → D 76 = di 76 →
    (∀ D' dl', w_M di D' → D' 67 26 = di 67 26 → D' 76 = di 76 → Q (some (.int (if w_cb (fun l => q_lb a tx pl l (q_an s st)) (fun l => a (66 + l)) c l = true then 1 else 0))) (n, sl, ln, D', dl', dr)) →
    q_EX q_KD (d + 7) 203 2 [.ref 67, .int (nI s), .int (nI l)] [] (n, sl, ln, D, dl, dr) Q := by
  have hL := h.2.2.2.1
  intro c
  induction c with
  | zero =>
    intro l D dl hl hM r1 r2 k
    have hD : D 68 7 = nI K := by rw [hM.1 68 rfl, h.1]; exact h7
    exact g203_2 hg (fun _ => k D dl hM r1 r2) (fun c => absurd c (by rw [hD]; exact nI_nlt (by omega) (by omega)))
  | succ c ih =>
    intro l D dl hl hM r1 r2 k
    have hD : D 68 7 = nI K := by rw [hM.1 68 rfl, h.1]; exact h7
    have e66 : (66 : Int32) + nI l = nI (66 + l) := by rw [q_pa]; rfl
    refine g203_2 hg (fun c' => absurd c' (by rw [hD]; exact nI_ge (by omega) (by omega))) (fun _ => ?_)
    refine c_lbA (d := d) (by omega) hs (w_MF_M h hM) ⟨r1.trans hN.1, fun j hj => by rw [r2]; exact hN.2 j hj⟩ hpl hg (fun D2 dl2 hM2 s1 s2 _ _ => g203_19 hg (by rw [e66]; exact vp_in_nI (by omega) (by decide)) (fun w => ?_) (fun w => ?_))
    · rw [e66, nI_clamp (by omega), hM2.1 68 rfl, hM.1 68 rfl, h.1] at w
      rw [nI_1]
      refine ih (l + 1) D2 dl2 (by omega) (w_M_tr hM hM2) (s1.trans r1) (s2.trans r2) (fun D' dl' t1 t2 t3 => ?_)
      have kk := k D' dl' t1 t2 t3
      unfold w_cb at kk
      rwa [if_pos (show (fun l => q_lb a tx pl l (q_an s st)) l = (fun l => a (66 + l)) l from w)] at kk
    · rw [e66, nI_clamp (by omega), hM2.1 68 rfl, hM.1 68 rfl, h.1] at w
      have kk := k D2 dl2 (w_M_tr hM hM2) (s1.trans r1) (s2.trans r2)
      unfold w_cb at kk
      rwa [if_neg (show ¬ (fun l => q_lb a tx pl l (q_an s st)) l = (fun l => a (66 + l)) l from w)] at kk
theorem c_who21 {x1 : Int32} {st si : Nat} (h : w_MF di a tx P L) (hN : w_N di st pl) (hpl : ∀ j, P ≤ j → j < 6 → pl j < 0) (hK : K ≤ L) (h7 : a 7 = nI K) (hg : q_Gr n ln dr) : ∀ (c s : Nat) (f : Int32) (D : Nat → Nat → Int32) (dl : Nat → Nat → Int64), s + c = 64 → w_M di D → D 67 26 = di 67 26 → D 76 = di 76 →
    (∀ D' dl', w_M di D' → Q (some (.int (w_wh (fun s => decide (q_an s si = 0) && w_cb (fun l => q_lb a tx pl l (q_an s st)) (fun l => a (66 + l)) K 0) x1 c s f))) (n, sl, ln, D', dl', dr)) →
    q_EX q_KD (d + 8) 202 21 [.ref 67, .int x1, .int (nI si), .int f, .int (nI s)] [] (n, sl, ln, D, dl, dr) Q := by
  intro c
  induction c with
  | zero =>
    intro s f D dl hs hM r1 r2 k
    have kk := k D dl hM
    unfold w_wh at kk
    have hlt : ¬ nI s < 64 := by rw [show (64 : Int32) = nI 64 from rfl, nI_ltI (by omega) (by decide)]; omega
    refine g202_21 hg (fun _ w => ?_) (fun _ w => ?_) (fun w => absurd w hlt) (fun w => absurd w hlt)
    · rwa [if_neg w] at kk
    · rwa [if_pos w] at kk
  | succ c ih =>
    intro s f D dl hs hM r1 r2 k
    have hle : ¬ (64 : Int32) ≤ nI s := by rw [show (64 : Int32) = nI 64 from rfl, nI_leI (by decide) (by omega)]; omega
    refine g202_21 hg (fun w => absurd w hle) (fun w => absurd w hle) (fun _ w => ?_) (fun _ w => ?_)
    · rw [nI_1]
      refine ih (s + 1) f D dl (by omega) hM r1 r2 (fun D' dl' t1 => ?_)
      have kk := k D' dl' t1
      unfold w_wh at kk
      rwa [if_neg (by rw [decide_eq_false (fun z => w ((w_an0 (by omega)).mpr z))]; exact Bool.false_ne_true)] at kk
    · have w0 := (w_an0 (show s < 2 ^ 31 by omega)).mp w
      refine g203_0 hg (c_canBe2 (d := d) (st := st) (K := K) h hN hpl (by omega) hK h7 hg K 0 D dl (by omega) hM r1 r2 (fun D2 dl2 t1 t2 t3 => g202_43 hg (fun y z => ?_) (fun y z => ?_) (fun y => ?_)))
      · have y1 : w_cb (fun l => q_lb a tx pl l (q_an s st)) (fun l => a (66 + l)) K 0 = true := by
          cases hb : w_cb (fun l => q_lb a tx pl l (q_an s st)) (fun l => a (66 + l)) K 0 with
          | true => rfl
          | false =>
            exfalso
            rw [hb] at y
            exact y (by decide)
        rw [nI_1]
        refine ih (s + 1) (f + 1) D2 dl2 (by omega) t1 t2 t3 (fun D' dl' u1 => ?_)
        have kk := k D' dl' u1
        unfold w_wh at kk
        rwa [if_pos (by rw [decide_eq_true w0, y1]; rfl), if_neg z] at kk
      · have y1 : w_cb (fun l => q_lb a tx pl l (q_an s st)) (fun l => a (66 + l)) K 0 = true := by
          cases hb : w_cb (fun l => q_lb a tx pl l (q_an s st)) (fun l => a (66 + l)) K 0 with
          | true => rfl
          | false =>
            exfalso
            rw [hb] at y
            exact y (by decide)
        have kk := k D2 dl2 t1
        unfold w_wh at kk
        rwa [if_pos (by rw [decide_eq_true w0, y1]; rfl), if_pos z] at kk
      · rw [nI_1]
        refine ih (s + 1) f D2 dl2 (by omega) t1 t2 t3 (fun D' dl' u1 => ?_)
        have kk := k D' dl' u1
        unfold w_wh at kk
        rwa [if_neg (fun w2 => by
          rw [Bool.and_eq_true] at w2
          rw [if_pos w2.2] at y
          exact absurd y (by decide))] at kk
theorem o_who {x1 : Int32} (h : q_RR c n sl ln di dr) : o_op (d + 8) 107 202 [.ref 6, .int x1] [.ref 67, .int x1, .retAddr 0, .retAddr 0, .retAddr 0] c (n, sl, ln, di, dl, dr) := by
  have hR := h
  obtain ⟨hg, _, _, _, _, _, P, L, T, S, K, _, _, _, _, _, b1, _, _, b4, b5⟩ := hR
  have hH := w_RH_H h b1 b4 b5
  have hF := w_RH_MF b1
  have hK : K ≤ L := b1.1.2.2.2.2.1
  have h7 : di 68 7 = nI K := b1.1.2.2.2.2.2.2.2.2.2.1
  have h13 : di 7 13 = nI K := by rw [b1.2.2.2.2.1.2.2.2.2.2.2]; exact h7
  refine g107_0 hg (fun y => ?_) (fun y => ?_)
  · refine g108_0 hg (c_sitH hg (g108_7 hg ?_))
    rw [w_sit6, w_si_cg hH.2.2.1]
    have hfin : ∀ e : Nat → Nat → Int32, q_CE (e 54) (e 55) (e 56) (di 68) (di 70) P L → q_EX q_KD (d + 8) 202 0 [.ref 67, .int x1, .retAddr 0, .retAddr 0, .retAddr 0] [] (n, sl, ln, q_F w_E di e, dl, dr) (fun r2 h2 => r2 = some (.int (w_wh (fun s => decide (q_an s (w_si (q_pl (di 68))) = 0) && w_cb (fun l => q_lb (di 68) (di 70) (di 11) l (q_an s (q_sm (di 68)))) (di 15) K 0) x1 64 0 0)) ∧ w_R (c + 1) h2) := by
      intro e hCE
      have hF2 : w_MF (q_F w_E di e) (di 68) (di 70) P L := hF
      refine g202_0 hg (fun _ => c_seatA (d := d + 4) hF2 hg (fun D hM hN => g202_11 hg (c_sitA (d := d + 6) (w_MF_M hF2 hM) hH.2.2.2.2.2.1 hg (g202_15 hg ?_)))) (fun w => absurd w (q_not_lt y))
      refine c_who21 (d := d) (st := q_sm (di 68)) (pl := q_pl (di 68)) (K := K) (w_MF_M hF2 hM) hN (w_plneg hF) hK h7 hg 64 0 0 D dl rfl (w_M_refl _) rfl rfl (fun D2 dl2 hM2 => ⟨?_, w_end h (fun k hk => w_E_in hk) (w_M_tr hM hM2) (w_hcE b1 hCE)⟩)
      have e1 : w_wh (fun s => decide (q_an s (w_si (q_pl (di 68))) = 0) && w_cb (fun l => q_lb (di 68) (di 70) (di 11) l (q_an s (q_sm (di 68)))) (di 15) K 0) x1 64 0 0 = w_wh (fun s => decide (q_an s (w_si (q_pl (di 68))) = 0) && w_cb (fun l => q_lb (di 68) (di 70) (q_pl (di 68)) l (q_an s (q_sm (di 68)))) (fun l => di 68 (66 + l)) K 0) x1 64 0 0 := by
        refine w_wh_cg (fun s _ => ?_) 64 0 0 (by decide)
        have hL := hF.2.2.2.1
        rw [w_cb_cg (lb := fun l => q_lb (di 68) (di 70) (q_pl (di 68)) l (q_an s (q_sm (di 68)))) (se := fun l => di 68 (66 + l)) K 0 (fun i _ hi => ⟨q_lb_cg hH.2.2.1, b1.2.2.2.2.2.2.2.2.1 i (by omega)⟩)]
      rw [e1]
    have hp := c_poss13 (d := d + 1) (sl := sl) (dl := dl) (x1 := x1) (K := K) (Q := fun r1 h1 => q_EX q_KD (d + 8) 107 17 [.retAddr 0, .retAddr 0] (r1.toList ++ []) h1 (fun r h1 => ∃ v : Int32, r = some (.int v) ∧ q_EX q_KD (d + 8) 202 0 [.ref 67, .int x1, .retAddr 0, .retAddr 0, .retAddr 0] [] h1 (fun r2 h2 => r2 = some (.int v) ∧ w_R (c + 1) h2))) hH hK h13 hg 64 0 0 di rfl hH.2.1 (fun e hCE => g107_17 hg ⟨_, rfl, hfin e hCE⟩)
    rw [q_Fid] at hp
    exact hp
  · exact ⟨-1, rfl, g202_0 hg (fun w => absurd y (q_not_lt w)) (fun _ => ⟨rfl, w_RR_up h⟩)⟩
end
