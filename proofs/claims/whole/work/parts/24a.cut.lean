/-- from the full set on, or from none: the same is found -/
theorem w_stlF {L : Nat} {ok : Nat → Bool} (hL : L ≤ 10) (hf : ok (2 ^ L - 1) = true) : ∀ (c s : Nat), s + (c + 1) = 2 ^ L → w_stl (fun _ => true) ok (c + 1) s (-1) = w_stl (fun _ => true) ok (c + 1) s (nI (2 ^ L - 1)) := by
  have h2 := w_2L hL
  have hn : ∀ t, t < 2 ^ L → ¬ nI t = -1 := fun t ht => w_neg1 (by omega)
  intro c
  induction c with
  | zero =>
    intro s hs
    have es : s = 2 ^ L - 1 := by omega
    subst es
    unfold w_stl
    rw [if_pos ⟨rfl, Or.inl rfl, hf⟩]
    unfold w_stl
    by_cases z : true = true ∧ (nI (2 ^ L - 1) = -1 ∨ q_bits (nI (2 ^ L - 1)) 10 0 0 < q_bits (nI (2 ^ L - 1)) 10 0 0) ∧ ok (2 ^ L - 1) = true
    · rw [if_pos z]
    · rw [if_neg z]
  | succ c ih =>
    intro s hs
    have hlt := w_pcL L (by omega) s (by omega) (by omega)
    have hb : q_bits (nI s) 10 0 0 < q_bits (nI (2 ^ L - 1)) 10 0 0 := by
      rw [w_pcB s (by omega), w_pcB (2 ^ L - 1) (by omega)]
      have := w_pc10 (2 ^ L - 1)
      exact nI_lt hlt (by omega)
    unfold w_stl
    by_cases z : ok s = true
    · rw [if_pos ⟨rfl, Or.inl rfl, z⟩, if_pos ⟨rfl, Or.inr hb, z⟩]
    · rw [if_neg (fun y => z y.2.2), if_neg (fun y => z y.2.2)]
      exact ih (s + 1) (by omega)
/-- sums over a set of lines, and over the others -/
def w_in (b : Nat → Nat) (s c l x : Nat) : Nat := q_it (fun l x => if s.testBit l = true then x + b l else x) c l x
def w_out (b : Nat → Nat) (s c l x : Nat) : Nat := q_it (fun l x => if s.testBit l = true then x else x + b l) c l x
def w_tot (b : Nat → Nat) (c l x : Nat) : Nat := q_it (fun l x => x + b l) c l x
theorem w_inout (b : Nat → Nat) (s : Nat) : ∀ (c l x y : Nat), w_in b s c l x + w_out b s c l y = w_tot b c l (x + y) := by
  intro c
  induction c with
  | zero => intro l x y; rfl
  | succ c ih =>
    intro l x y
    show w_in b s c (l + 1) (if s.testBit l = true then x + b l else x) + w_out b s c (l + 1) (if s.testBit l = true then y else y + b l) = w_tot b c (l + 1) (x + y + b l)
    by_cases h : s.testBit l = true
    · rw [if_pos h, if_pos h, ih, show x + b l + y = x + y + b l by omega]
    · rw [if_neg h, if_neg h, ih, show x + (y + b l) = x + y + b l by omega]
theorem w_totL (b : Nat → Nat) (hb : ∀ l, b l ≤ 99) : ∀ (c l x : Nat), w_tot b c l x ≤ x + 99 * c := by
  intro c
  induction c with
  | zero => intro l x; exact Nat.le_refl _
  | succ c ih =>
    intro l x
    have := ih (l + 1) (x + b l)
    have := hb l
    show w_tot b c (l + 1) (x + b l) ≤ _
    omega
theorem w_in10 {b : Nat → Nat} {s L : Nat} (hs : s < 2 ^ L) (hL : L ≤ 10) : w_in b s 10 0 0 = w_in b s L 0 0 := by
  refine q_itP hL (fun i x h1 h2 => if_neg (fun z => ?_))
  rw [Nat.testBit_lt_two_pow (Nat.lt_of_lt_of_le hs (Nat.pow_le_pow_right (by decide) h1))] at z
  exact absurd z (by decide)
abbrev w_Q : Nat → Bool := fun k => (Nat.ble 51 k && Nat.ble k 56) || Nat.beq k 62
theorem w_EQ {k : Nat} (h : w_E k = true) : w_Q k = true := by
  have h' : (Nat.ble 51 k && Nat.ble k 56) = true := h
  show ((Nat.ble 51 k && Nat.ble k 56) || Nat.beq k 62) = true
  rw [h', Bool.true_or]
theorem w_Q_in {k : Nat} (h : w_Q k = true) : 50 ≤ k ∧ k ≤ 66 := by
  have h' : ((Nat.ble 51 k && Nat.ble k 56) || Nat.beq k 62) = true := h
  simp only [Bool.or_eq_true, Bool.and_eq_true, Nat.beq_eq, Nat.ble_eq] at h'
  omega
theorem q_W_FQ {n : Nat} {ln : Nat → Nat} {di e : Nat → Nat → Int32} {dr : Nat → Nat → Option Nat} {a tx : Nat → Int32} {P L : Nat} (h : q_W n ln di dr a tx P L) : q_W n ln (q_F w_Q di e) dr a tx P L :=
  q_W_cg h rfl rfl rfl rfl rfl rfl rfl (fun k hk => q_Fo (by
    cases hS : w_Q k with
    | false => rfl
    | true => have := w_Q_in hS; omega))
/-- loud of line l as a number -/
def w_bl (a tx pl : Nat → Int32) (m l : Nat) : Nat := (q_lb a tx pl l m).toNatClampNeg
theorem w_blE (a tx pl : Nat → Int32) (m l : Nat) : q_lb a tx pl l m = nI (w_bl a tx pl m l) ∧ w_bl a tx pl m l ≤ 99 := by
  obtain ⟨b, h1, h2⟩ := w_lbb a tx pl l m
  unfold w_bl
  rw [h2, nI_clamp (by omega)]
  exact ⟨rfl, h1⟩
section
variable {c d n sl : Nat} {ln : Nat → Nat} {di : Nat → Nat → Int32} {dl : Nat → Nat → Int64} {dr : Nat → Nat → Option Nat} {Q : Option Value → q_H → Prop} {a tx pl : Nat → Int32} {P L : Nat}
theorem c_ct13 {x1 : Int32} (h : w_H n ln di dr a tx P L) (hg : q_Gr n ln dr) : ∀ (c l acc : Nat) (e : Nat → Nat → Int32), l + c = L → acc ≤ 99 * l → q_CE (e 54) (e 55) (e 56) a tx P L → (∀ i, i < l → e 62 i = nI (w_bl a tx (q_pl a) (q_an 63 (q_sm a)) i)) →
    (∀ e', q_CE (e' 54) (e' 55) (e' 56) a tx P L → (∀ i, i < L → e' 62 i = nI (w_bl a tx (q_pl a) (q_an 63 (q_sm a)) i)) → q_EX q_KD (d + 5) 102 98 [.ref 60, .int x1, .retAddr 0, .int (nI (w_tot (w_bl a tx (q_pl a) (q_an 63 (q_sm a))) c l acc)), .int (nI (2 ^ L) - 1), .int 0] [] (n, sl, ln, q_F w_Q di e', dl, dr) Q) →
    q_EX q_KD (d + 5) 102 13 [.ref 60, .int x1, .int (nI (w_si (q_pl a))), .int (nI acc), .int (nI l), .retAddr 0] [] (n, sl, ln, q_F w_Q di e, dl, dr) Q := by
  have hL := h.1.2.2.1
  intro c
  induction c with
  | zero =>
    intro l acc e hl hacc hCE h62 k
    have h12 : q_F w_Q di e 7 12 = nI L := h.1.2.2.2.1
    refine g102_13 hg (fun _ => ?_) (fun w => absurd w (by rw [h12]; exact nI_nlt (by omega) (by omega)))
    rw [h12, q_sh (by omega)]
    exact k e hCE (fun i hi => h62 i (by omega))
  | succ c ih =>
    intro l acc e hl hacc hCE h62 k
    have h12 : q_F w_Q di e 7 12 = nI L := h.1.2.2.2.1
    refine g102_13 hg (fun w => absurd w (by rw [h12]; exact nI_ge (by omega) (by omega))) (fun _ => ?_)
    rw [show q_F w_Q di e 7 11 = nI (q_sm a) from h.2.2.2.1]
    refine c_listen (d := d) (di := q_F w_Q di e) (sa := 11) (by omega) (w_H_pl h (w_siL _) (fun j hj => hj)) rfl (q_lt hg rfl) (hg.2.1 11 6 rfl) rfl (q_W_FQ h.1) hCE hg (fun e1 q1 q2 q3 => ?_)
    refine g102_49 hg (c_loudX (d := d + 1) (l := l) (c := 0) (by omega) (w_wv64 _ _ _ _ _ 7 0 0 (by decide)) (w_wv6 _ _ _ _ _ 7 0 0 (Nat.zero_le _)) (by decide) q1 q2 (q_W_F (q_W_FQ h.1)) q3 hg (fun e2 _ q5 => g102_65 hg (vp_in_nI (by omega) (by decide)) (vp_in_nI (by omega) (by decide)) ?_))
    rw [q_FF, q_FFs (fun k hk => w_EQ hk), q_Fu rfl, nI_1, nI_clamp (show l < 2 ^ 31 by omega)]
    have ew := w_wvS (l := l) (st := q_sm a) h (p := w_si (q_pl a)) (fun j hj => by rw [w_siT, decide_eq_true_iff]; exact ⟨fun z => z.2, fun z => ⟨hj, z⟩⟩)
    have ev : q_lo a tx l (q_bits (nI (q_wv a tx (q_F w_Q di e 11) l (q_an (w_si (q_pl a)) (q_sm a)) 7 0 0).1) 10 0 0) (nI (q_wv a tx (q_F w_Q di e 11) l (q_an (w_si (q_pl a)) (q_sm a)) 7 0 0).2) (nI 0) = nI (w_bl a tx (q_pl a) (q_an 63 (q_sm a)) l) := by
      rw [← (w_blE a tx (q_pl a) (q_an 63 (q_sm a)) l).1]
      show q_lo a tx l (q_bits (nI (q_wv a tx (di 11) l (q_an (w_si (q_pl a)) (q_sm a)) 7 0 0).1) 10 0 0) (nI (q_wv a tx (di 11) l (q_an (w_si (q_pl a)) (q_sm a)) 7 0 0).2) (nI 0) = _
      rw [ew]
      rfl
    rw [ev]
    have e62 : (q_F w_Q di (q_u (q_F w_E e e2) 62 l (nI (w_bl a tx (q_pl a) (q_an 63 (q_sm a)) l)))) 62 l = nI (w_bl a tx (q_pl a) (q_an 63 (q_sm a)) l) := by rw [q_Fi (show w_Q 62 = true from rfl)]; exact q_uE _ _ _ _
    rw [e62, nI_add]
    have hb := (w_blE a tx (q_pl a) (q_an 63 (q_sm a)) l).2
    refine ih (l + 1) (acc + w_bl a tx (q_pl a) (q_an 63 (q_sm a)) l) _ (by omega) (by omega) q5 (fun i hi => ?_) k
    by_cases ei : i = l
    · subst ei; exact q_uE _ _ _ _
    · rw [q_uN _ _ _ _ _ ei]; exact h62 i (by omega)
theorem c_ldX {b : Nat → Nat} {s : Nat} (hs : s < 2 ^ L) (hL : L ≤ 10) (hb : ∀ i, i < L → di 62 i = nI (b i)) (hg : q_Gr n ln dr) : ∀ (c l x : Nat), l + c = 10 → Q (some (.int (nI (w_in b s c l x)))) (n, sl, ln, di, dl, dr) → q_EX q_KD d 103 4 [.ref 60, .int (nI s), .int (nI x), .int (nI l)] [] (n, sl, ln, di, dl, dr) Q := by
  have h2 := w_2L hL
  intro c
  induction c with
  | zero =>
    intro l x hl k
    have : l = 10 := by omega
    subst this
    exact g103_4 hg (fun _ => k) (fun w => absurd w (by decide)) (fun w => absurd w (by decide)) (fun w => absurd w (by decide))
  | succ c ih =>
    intro l x hl k
    have e2 : w_in b s (c + 1) l x = w_in b s c (l + 1) (if s.testBit l = true then x + b l else x) := rfl
    rw [e2] at k
    refine g103_4 hg (fun w => absurd ((nI_leI (a := 10) (by decide) (by omega)).mp w) (by omega)) (fun _ w => ?_) (fun _ _ => vp_in_nI (by omega) (by decide)) (fun _ w => ?_)
    · have hb0 := (q_bt0 (m := s) (j := l) (by omega) (by omega)).mp w
      rw [if_neg (by rw [hb0]; decide)] at k
      rw [nI_1]
      exact ih (l + 1) x (by omega) k
    · have hb1 : s.testBit l = true := by
        cases hh : s.testBit l with
        | true => rfl
        | false => exact absurd ((q_bt0 (m := s) (j := l) (by omega) (by omega)).mpr hh) w
      have hlL : l < L := by
        rcases Nat.lt_or_ge l L with z | z
        · exact z
        · rw [Nat.testBit_lt_two_pow (Nat.lt_of_lt_of_le hs (Nat.pow_le_pow_right (by decide) z))] at hb1
          exact absurd hb1 (by decide)
      rw [if_pos hb1] at k
      rw [nI_1, nI_clamp (by omega), hb l hlL, nI_add]
      exact ih (l + 1) _ (by omega) k
theorem c_ct98 {b0 : Nat} {b : Nat → Nat} (hb0 : b0 ≤ 990) (hL : L ≤ 10) (h12 : di 7 12 = nI L) (hb : ∀ i, i < L → di 62 i = nI (b i)) (hb9 : ∀ l, b l ≤ 99) (hg : q_Gr n ln dr) : ∀ (c s t : Nat), s + c = 2 ^ L → t < 2 ^ L → Q (some (.int (w_stl (fun _ => true) (fun s => decide (w_out b s L 0 0 ≤ b0)) c s (nI t)))) (n, sl, ln, di, dl, dr) →
    q_EX q_KD (d + 1) 102 98 [.ref 60, .int (nI b0), .retAddr 0, .int (nI (w_tot b L 0 0)), .int (nI t), .int (nI s)] [] (n, sl, ln, di, dl, dr) Q := by
  have h2 := w_2L hL
  have esh : (1 : Int32) <<< (di 7 12 &&& 31) = nI (2 ^ L) := by rw [h12]; exact q_sh (by omega)
  intro c
  induction c with
  | zero =>
    intro s t hs ht k
    exact g102_98 hg (fun _ => k) (fun w => absurd w (by rw [esh]; exact nI_nlt (by omega) (by omega)))
  | succ c ih =>
    intro s t hs ht k
    have hsL : s < 2 ^ L := by omega
    refine g102_98 hg (fun w => absurd w (by rw [esh]; exact nI_ge hsL (by omega))) (fun _ => c_bc hg (g102_117 hg (c_bc hg ?_)))
    rw [q_bc10 s (by omega), q_bc10 t (by omega)]
    unfold w_stl at k
    refine g102_122 hg (fun w => ?_) (fun w => g103_0 hg (c_ldX hsL hL hb hg 10 0 0 rfl ?_))
    · rw [nI_1]
      rw [if_neg (fun z => z.2.1.elim (fun y => w_neg1 (by omega) y) (fun y => q_not_lt w y))] at k
      exact ih (s + 1) t (by omega) ht k
    · rw [w_in10 hsL hL]
      have hio : w_in b s L 0 0 + w_out b s L 0 0 = w_tot b L 0 0 := w_inout b s L 0 0 0
      have htl := w_totL b hb9 L 0 0
      have esub : nI (w_tot b L 0 0) - nI (w_in b s L 0 0) = nI (w_out b s L 0 0) := by
        rw [show w_tot b L 0 0 = w_in b s L 0 0 + w_out b s L 0 0 from hio.symm, q_pa]
        exact q_sub1 _ _
      refine g102_132 hg (fun w2 => ?_) (fun w2 => ?_)
      · rw [esub] at w2
        have := (nI_ltI (by omega) (by omega)).mp w2
        rw [if_neg (fun z => absurd (of_decide_eq_true z.2.2) (by omega))] at k
        rw [nI_1]
        exact ih (s + 1) t (by omega) ht k
      · rw [esub] at w2
        have := (nI_leI (by omega) (by omega)).mp w2
        rw [if_pos ⟨rfl, Or.inr w, decide_eq_true this⟩] at k
        rw [nI_1]
        exact ih (s + 1) s (by omega) hsL k
theorem c_ctM19 {x1 : Int32} {st : Nat} (h : w_MF di a tx P L) (hN : w_N di st pl) (hpl : ∀ j, P ≤ j → j < 6 → pl j < 0) (hg : q_Gr n ln dr) : ∀ (c l : Nat) (D : Nat → Nat → Int32) (dl : Nat → Nat → Int64), l + c = L → w_M di D → D 67 26 = di 67 26 → D 76 = di 76 → (∀ i, i < l → D 83 i = nI (w_bl a tx pl (q_an 63 st) i)) →
    (∀ D' dl', w_M di D' → (∀ i, i < L → D' 83 i = nI (w_bl a tx pl (q_an 63 st) i)) → q_EX q_KD (d + 7) 199 52 [.ref 67, .int x1, .int (-1), .int 0, .retAddr 0, .retAddr 0] [] (n, sl, ln, D', dl', dr) Q) →
    q_EX q_KD (d + 7) 199 19 [.ref 67, .int x1, .int (nI l), .retAddr 0, .retAddr 0, .retAddr 0] [] (n, sl, ln, D, dl, dr) Q := by
  have hL := h.2.2.2.1
  intro c
  induction c with
  | zero =>
    intro l D dl hl hM r1 r2 h83 k
    have hD : D 68 1 = nI L := by rw [hM.1 68 rfl, h.1]; exact h.2.2.2.2.2.1
    exact g199_19 hg (fun _ => k D dl hM (fun i hi => h83 i (by omega))) (fun w => absurd w (by rw [hD]; exact nI_nlt (by omega) (by omega)))
  | succ c ih =>
    intro l D dl hl hM r1 r2 h83 k
    have hD : D 68 1 = nI L := by rw [hM.1 68 rfl, h.1]; exact h.2.2.2.2.2.1
    refine g199_19 hg (fun w => absurd w (by rw [hD]; exact nI_ge (by omega) (by omega))) (fun _ => ?_)
    have h83f : ∀ D2, w_M D D2 → True := fun _ _ => trivial
    refine c_lbM (d := d) (di := D) (l := l) (s := 63) (st := st) (P := P) (by omega) h.2.2.1 (by rw [hM.1 68 rfl, h.1]; exact h.2.2.2.2.1) (r1.trans hN.1) (by decide) (fun j hj hj6 => by rw [r2, hN.2 j hj6]; exact hpl j hj hj6) (by rw [hM.1 68 rfl, hM.1 70 rfl, h.1, h.2.1]; exact h.2.2.2.2.2.2.2) hg (fun e dl2 => g199_41 hg (vp_in_nI (by omega) (by decide)) ?_)
    have elb : q_lb (D 68) (D 70) (D 76) l (q_an 63 st) = nI (w_bl a tx pl (q_an 63 st) l) := by
      rw [hM.1 68 rfl, hM.1 70 rfl, h.1, h.2.1, r2, q_lb_cg hN.2]
      exact (w_blE a tx pl (q_an 63 st) l).1
    rw [elb, nI_clamp (show l < 2 ^ 31 by omega), nI_1]
    have hM2 : w_M D (q_F q_Sw (q_h67 D (nI (q_wv (D 68) (D 70) (D 76) l (q_an 63 st) 7 0 0).1) (nI (q_wv (D 68) (D 70) (D 76) l (q_an 63 st) 7 0 0).2)) e) := w_M_tr w_M_h67 w_M_F
    refine ih (l + 1) _ dl2 (by omega) (w_M_tr hM (w_M_tr hM2 (w_M_u rfl (by decide)))) r1 r2 (fun i hi => ?_) k
    by_cases ei : i = l
    · subst ei; exact q_uE _ _ _ _
    · rw [q_uN _ _ _ _ _ ei]; exact h83 i (by omega)
theorem c_ctM88 {b0 s : Nat} {b : Nat → Nat} {x2 : Int32} (hL : L ≤ 10) (hs : s < 1024) (h1 : di 68 1 = nI L) (hb : ∀ i, i < L → di 83 i = nI (b i)) (hb9 : ∀ l, b l ≤ 99) (hb0 : b0 ≤ 990) (hg : q_Gr n ln dr) : ∀ (c l x : Nat), l + c = L → x ≤ 99 * l →
    (w_out b s c l x ≤ b0 → q_EX q_KD (d + 1) 199 52 [.ref 67, .int (nI b0), .int (nI s), .int (nI (s + 1)), .retAddr 0, .retAddr 0] [] (n, sl, ln, di, dl, dr) Q) → (¬ w_out b s c l x ≤ b0 → q_EX q_KD (d + 1) 199 52 [.ref 67, .int (nI b0), .int x2, .int (nI (s + 1)), .retAddr 0, .retAddr 0] [] (n, sl, ln, di, dl, dr) Q) →
    q_EX q_KD (d + 1) 199 88 [.ref 67, .int (nI b0), .int x2, .int (nI s), .int (nI x), .int (nI l)] [] (n, sl, ln, di, dl, dr) Q := by
  intro c
  induction c with
  | zero =>
    intro l x hl hx k1 k2
    refine g199_88 hg (fun _ w => ?_) (fun _ w => ?_) (fun w => absurd w (by rw [h1]; exact nI_nlt (by omega) (by omega)))
    · have := (nI_ltI (by omega) (by omega)).mp w
      rw [nI_1]
      exact k2 (by show ¬ x ≤ b0; omega)
    · have := (nI_leI (by omega) (by omega)).mp w
      rw [nI_1]
      exact k1 this
  | succ c ih =>
    intro l x hl hx k1 k2
    have e2 : w_out b s (c + 1) l x = w_out b s c (l + 1) (if s.testBit l = true then x else x + b l) := rfl
    rw [e2] at k1 k2
    have hbl := hb9 l
    refine g199_88 hg (fun w => absurd w (by rw [h1]; exact nI_ge (by omega) (by omega))) (fun w => absurd w (by rw [h1]; exact nI_ge (by omega) (by omega))) (fun _ => c_has hg (g199_107 hg (fun _ => vp_in_nI (by omega) (by decide)) (fun w => ?_) (fun w => ?_)))
    · have hb1 : ¬ s.testBit l = true := fun z => q_bn.mp w ((q_bt1 (m := s) (j := l) (by omega) (by omega)).mpr z)
      rw [if_neg hb1] at k1 k2
      rw [nI_clamp (by omega), hb l (by omega), nI_add, nI_1]
      exact ih (l + 1) _ (by omega) (by omega) k1 k2
    · have hb1 : s.testBit l = true := (q_bt1 (m := s) (j := l) (by omega) (by omega)).mp (q_bp.mp w)
      rw [if_pos hb1] at k1 k2
      rw [Int32.add_zero, nI_1]
      exact ih (l + 1) _ (by omega) (by omega) k1 k2
theorem c_ctM52 {b0 : Nat} {b : Nat → Nat} (hb0 : b0 ≤ 990) (hL : L ≤ 10) (h1 : di 68 1 = nI L) (hb : ∀ i, i < L → di 83 i = nI (b i)) (hb9 : ∀ l, b l ≤ 99) (hg : q_Gr n ln dr) : ∀ (c s : Nat) (f : Int32), s + c = 2 ^ L → (f = -1 ∨ ∃ t, t < 2 ^ L ∧ f = nI t) → Q (some (.int (w_stl (fun _ => true) (fun s => decide (w_out b s L 0 0 ≤ b0)) c s f))) (n, sl, ln, di, dl, dr) →
    q_EX q_KD (d + 1) 199 52 [.ref 67, .int (nI b0), .int f, .int (nI s), .retAddr 0, .retAddr 0] [] (n, sl, ln, di, dl, dr) Q := by
  have h2 := w_2L hL
  have esh : (1 : Int32) <<< (di 68 1 &&& 31) = nI (2 ^ L) := by rw [h1]; exact q_sh (by omega)
  intro c
  induction c with
  | zero =>
    intro s f hs hf k
    have hn : ¬ nI s < (1 : Int32) <<< (di 68 1 &&& 31) := by rw [esh]; exact nI_nlt (by omega) (by omega)
    exact g199_52 hg (fun _ => k) (fun w => absurd w hn) (fun w => absurd w hn)
  | succ c ih =>
    intro s f hs hf k
    have hsL : s < 2 ^ L := by omega
    have hn : ¬ (1 : Int32) <<< (di 68 1 &&& 31) ≤ nI s := by rw [esh]; exact nI_ge hsL (by omega)
    unfold w_stl at k
    have try1 : (f = -1 ∨ q_bits (nI s) 10 0 0 < q_bits f 10 0 0) → q_EX q_KD (d + 1) 199 88 [.ref 67, .int (nI b0), .int f, .int (nI s), .int (nI 0), .int (nI 0)] [] (n, sl, ln, di, dl, dr) Q := fun hfb =>
      c_ctM88 hL (by omega) h1 hb hb9 hb0 hg L 0 0 (by omega) (by omega) (fun z => ih (s + 1) (nI s) (by omega) (Or.inr ⟨s, hsL, rfl⟩) (by rwa [if_pos ⟨rfl, hfb, decide_eq_true z⟩] at k)) (fun z => ih (s + 1) f (by omega) hf (by rwa [if_neg (fun y => z (of_decide_eq_true y.2.2))] at k))
    refine g199_52 hg (fun w => absurd w hn) (fun _ w => try1 (Or.inl ?_)) (fun _ w => c_bits hg (g199_72 hg (c_bits hg (g199_76 hg (fun w2 => try1 (Or.inr w2)) (fun w2 => ?_)))))
    · rcases hf with q | ⟨t, q1, q2⟩
      · exact q
      · rw [q2] at w; exact absurd w (nI_pos (by omega))
    · rw [nI_1]
      refine ih (s + 1) f (by omega) hf ?_
      rwa [if_neg (fun z => z.2.1.elim (fun y => by rw [y] at w; exact absurd w (by decide)) (fun y => q_not_lt w2 y))] at k
theorem o_cut {x1 : Int32} (h : q_RR c n sl ln di dr) : o_op (d + 7) 101 199 [.ref 6, .int x1] [.ref 67, .int x1, .retAddr 0, .retAddr 0, .retAddr 0, .retAddr 0] c (n, sl, ln, di, dl, dr) := by
  have hR := h
  obtain ⟨hg, _, _, _, _, _, P, L, T, S, K, _, _, _, _, _, b1, _, _, b4, b5⟩ := hR
  have hH := w_RH_H h b1 b4 b5
  have hF := w_RH_MF b1
  have hL := hF.2.2.2.1
  have h2 := w_2L hL
  have h2p : 1 ≤ 2 ^ L := Nat.one_le_two_pow
  refine g101_0 hg (c_within hg (g101_7 hg (fun y => ?_) (fun y => ?_)))
  · exact ⟨-1, rfl, g199_0 hg (c_isIn hg (g199_8 hg (fun w => absurd y w) (fun _ => ⟨rfl, w_RR_up h⟩)))⟩
  · obtain ⟨y1, y2⟩ := q_bp.mp y
    obtain ⟨b0, hb0, hx⟩ := nI_of2 (M := 990) (n := 990) rfl (q_not_lt y1) y2
    subst hx
    refine g102_0 hg (c_sitH hg (g102_7 hg ?_))
    rw [w_sit6, w_si_cg hH.2.2.1]
    have hb9 : ∀ l, w_bl (di 68) (di 70) (q_pl (di 68)) (q_an 63 (q_sm (di 68))) l ≤ 99 := fun l => (w_blE _ _ _ _ l).2
    have hfull : decide (w_out (w_bl (di 68) (di 70) (q_pl (di 68)) (q_an 63 (q_sm (di 68)))) (2 ^ L - 1) L 0 0 ≤ b0) = true := by
      refine decide_eq_true ?_
      have key : ∀ (c l : Nat), l + c ≤ L → w_out (w_bl (di 68) (di 70) (q_pl (di 68)) (q_an 63 (q_sm (di 68)))) (2 ^ L - 1) c l 0 = 0 := by
        intro c
        induction c with
        | zero => intro l _; rfl
        | succ c ih =>
          intro l hl
          have e : w_out (w_bl (di 68) (di 70) (q_pl (di 68)) (q_an 63 (q_sm (di 68)))) (2 ^ L - 1) (c + 1) l 0 = w_out (w_bl (di 68) (di 70) (q_pl (di 68)) (q_an 63 (q_sm (di 68)))) (2 ^ L - 1) c (l + 1) (if (2 ^ L - 1).testBit l = true then 0 else 0 + w_bl (di 68) (di 70) (q_pl (di 68)) (q_an 63 (q_sm (di 68))) l) := rfl
          rw [e, if_pos (by rw [Nat.testBit_two_pow_sub_one]; exact decide_eq_true (by omega))]
          exact ih (l + 1) (by omega)
      rw [key L 0 (by omega)]
      omega
    obtain ⟨cc, hcc⟩ : ∃ cc, 2 ^ L = cc + 1 := ⟨2 ^ L - 1, by omega⟩
    have hsame := w_stlF (ok := fun s => decide (w_out (w_bl (di 68) (di 70) (q_pl (di 68)) (q_an 63 (q_sm (di 68)))) s L 0 0 ≤ b0)) hL hfull cc 0 (by omega)
    rw [← hcc] at hsame
    have hfin : ∀ e : Nat → Nat → Int32, q_CE (e 54) (e 55) (e 56) (di 68) (di 70) P L → q_EX q_KD (d + 7) 199 0 [.ref 67, .int (nI b0), .retAddr 0, .retAddr 0, .retAddr 0, .retAddr 0] [] (n, sl, ln, q_F w_Q di e, dl, dr) (fun r2 h2 => r2 = some (.int (w_stl (fun _ => true) (fun s => decide (w_out (w_bl (di 68) (di 70) (q_pl (di 68)) (q_an 63 (q_sm (di 68)))) s L 0 0 ≤ b0)) (2 ^ L) 0 (nI (2 ^ L - 1)))) ∧ w_R (c + 1) h2) := by
      intro e hCE
      have hF2 : w_MF (q_F w_Q di e) (di 68) (di 70) P L := hF
      refine g199_0 hg (c_isIn hg (g199_8 hg (fun _ => c_seatA (d := d + 3) hF2 hg (fun D hM hN => g199_17 hg ?_)) (fun w => absurd w y)))
      refine c_ctM19 (d := d) (w_MF_M hF2 hM) hN (w_plneg hF) hg L 0 D dl (by omega) (w_M_refl _) rfl rfl (fun i hi => absurd hi (Nat.not_lt_zero i)) (fun D2 dl2 hM2 h83 => ?_)
      refine c_ctM52 (d := d + 6) hb0 hL (by rw [hM2.1 68 rfl, hM.1 68 rfl]; exact hF.2.2.2.2.2.1) h83 hb9 hg (2 ^ L) 0 (-1) (by omega) (Or.inl rfl) ⟨by rw [hsame], ?_⟩
      refine w_end h (fun k hk => w_Q_in hk) (w_M_tr hM hM2) (fun P2 L2 T2 S2 K2 bb _ q2 => ?_)
      obtain ⟨e1, e2⟩ := w_PL b1 bb
      subst e1 e2
      exact ⟨hCE, q2⟩
    have hp := c_ct13 (d := d + 1) (sl := sl) (dl := dl) (x1 := nI b0) (Q := fun r1 h1 => q_EX q_KD (d + 7) 101 18 [.retAddr 0, .retAddr 0] (r1.toList ++ []) h1 (fun r h1 => ∃ v : Int32, r = some (.int v) ∧ q_EX q_KD (d + 7) 199 0 [.ref 67, .int (nI b0), .retAddr 0, .retAddr 0, .retAddr 0, .retAddr 0] [] h1 (fun r2 h2 => r2 = some (.int v) ∧ w_R (c + 1) h2))) hH hg L 0 0 di (by omega) (by omega) hH.2.1 (fun i hi => absurd hi (Nat.not_lt_zero i)) (fun e hCE h62 => by
      have e1 : nI (2 ^ L) - 1 = nI (2 ^ L - 1) := by rw [hcc, nI_pred, Nat.add_sub_cancel]
      rw [e1]
      refine c_ct98 (d := d + 5) (di := q_F w_Q di e) (b := w_bl (di 68) (di 70) (q_pl (di 68)) (q_an 63 (q_sm (di 68)))) hb0 hL hH.1.2.2.2.1 h62 hb9 hg (2 ^ L) 0 (2 ^ L - 1) (by omega) (by omega) ?_
      exact g101_18 hg ⟨_, rfl, hfin e hCE⟩)
    rw [q_Fid] at hp
    exact hp
end
