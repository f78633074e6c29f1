/-! the model's scratch rows -/
abbrev w_X : Nat → Bool := fun k => Nat.ble k 66 || (Nat.ble 68 k && Nat.ble k 71) || Nat.ble 84 k
def w_M (di D : Nat → Nat → Int32) : Prop := (∀ k, w_X k = true → D k = di k) ∧ D 67 4 = di 67 4 ∧ D 67 5 = di 67 5 ∧ D 67 6 = di 67 6
theorem w_M_refl (di : Nat → Nat → Int32) : w_M di di := ⟨fun _ _ => rfl, rfl, rfl, rfl⟩
theorem w_M_tr {di D D' : Nat → Nat → Int32} (h : w_M di D) (h' : w_M D D') : w_M di D' :=
  ⟨fun k hk => (h'.1 k hk).trans (h.1 k hk), h'.2.1.trans h.2.1, h'.2.2.1.trans h.2.2.1, h'.2.2.2.trans h.2.2.2⟩
theorem w_XP {k : Nat} (h : w_P k = true) : w_X k = true := by
  have h' : (Nat.ble k 49 || (Nat.ble 68 k && Nat.ble k 71) || Nat.ble 84 k) = true := h
  show (Nat.ble k 66 || (Nat.ble 68 k && Nat.ble k 71) || Nat.ble 84 k) = true
  simp only [Bool.or_eq_true, Bool.and_eq_true, Nat.ble_eq] at h' ⊢
  omega
theorem w_Xne {k j : Nat} (h : w_X k = true) (hj : w_X j = false) : ¬ k = j := fun e => by rw [e, hj] at h; exact absurd h (by decide)
/-- writes to scratch rows -/
theorem w_M_F {di e : Nat → Nat → Int32} : w_M di (q_F q_Sw di e) := by
  refine ⟨fun k hk => q_Fo ?_, rfl, rfl, rfl⟩
  cases hS : q_Sw k with
  | false => rfl
  | true =>
    have h' : (Nat.beq k 73 || Nat.beq k 75) = true := hS
    simp only [Bool.or_eq_true, Nat.beq_eq] at h'
    rcases h' with h' | h' <;> subst h' <;> exact absurd hk (by decide)
theorem w_M_u {di : Nat → Nat → Int32} {k j : Nat} {v : Int32} (hk : w_X k = false) (h : ¬ k = 67) : w_M di (q_u di k j v) :=
  ⟨fun i hi => q_uR (w_Xne hi hk), by rw [q_uR (fun e => h e.symm)], by rw [q_uR (fun e => h e.symm)], by rw [q_uR (fun e => h e.symm)]⟩
theorem w_M_up {di : Nat → Nat → Int32} {k : Nat} {f : Nat → Int32} (hk : w_X k = false) (h : ¬ k = 67) : w_M di (va_up di k f) :=
  ⟨fun i hi => q_upN _ _ (w_Xne hi hk), by rw [q_upN _ _ (fun e => h e.symm)], by rw [q_upN _ _ (fun e => h e.symm)], by rw [q_upN _ _ (fun e => h e.symm)]⟩
theorem w_M_67 {di : Nat → Nat → Int32} {j : Nat} {v : Int32} (hj : 7 ≤ j) : w_M di (q_u di 67 j v) :=
  ⟨fun i hi => q_uR (w_Xne hi rfl), q_uN _ _ _ _ _ (by omega), q_uN _ _ _ _ _ (by omega), q_uN _ _ _ _ _ (by omega)⟩
theorem w_M_h67 {di : Nat → Nat → Int32} {x y : Int32} : w_M di (q_h67 di x y) := by
  rw [← q_h670]
  exact w_M_tr (w_M_67 (by decide)) (w_M_67 (by decide))
/-- what the model's hearing needs -/
def w_MF (D : Nat → Nat → Int32) (a tx : Nat → Int32) (P L : Nat) : Prop := D 68 = a ∧ D 70 = tx ∧ P ≤ 6 ∧ L ≤ 10 ∧ a 0 = nI P ∧ a 1 = nI L ∧ (∀ j, P ≤ j → j < 6 → a (10 + 6 * j + 3) = -1 ∧ a (10 + 6 * j + 4) = 0) ∧ q_MT a tx
theorem w_MF_M {di D : Nat → Nat → Int32} {a tx : Nat → Int32} {P L : Nat} (h : w_MF di a tx P L) (hM : w_M di D) : w_MF D a tx P L :=
  ⟨(hM.1 68 rfl).trans h.1, (hM.1 70 rfl).trans h.2.1, h.2.2⟩
theorem w_RH_MF {n : Nat} {ln : Nat → Nat} {di : Nat → Nat → Int32} {dr : Nat → Nat → Option Nat} {P L T S K : Nat} (b1 : q_RH n ln di (di 7) (di 8) (di 9) (di 10) (di 11) (di 12) (di 13) (di 14) (di 15) (di 17) (di 18) (di 19) (di 20) (di 21) (di 22) (dr 16) (di 68) (di 70) P L T S K) : w_MF di (di 68) (di 70) P L := by
  obtain ⟨c1, c2, c3, c4, c5, c6, c7, c8, c9, c10, c11⟩ := b1
  refine ⟨rfl, rfl, c1.1, c1.2.1, c1.2.2.2.2.2.1, c1.2.2.2.2.2.2.1, fun j h1 h2 => ⟨(c2.2.2.1 j h1 h2).1, (c2.2.2.1 j h1 h2).2.1⟩, ?_⟩
  rcases c1.2.2.2.2.2.2.2.2.2.2 with q | ⟨t, q1, q2⟩
  · exact Or.inl q
  · obtain ⟨z, z1, z2, z3⟩ := c11.1 t q1
    have hT := c1.2.2.1
    exact Or.inr ⟨t, by omega, q2, q_TX_tw z3⟩
/-- the model has seated all: stills st, places those of the persons -/
def w_N (D : Nat → Nat → Int32) (st : Nat) (pl : Nat → Int32) : Prop := D 67 26 = nI st ∧ ∀ j, j < 6 → D 76 j = pl j
section
variable {d n sl : Nat} {ln : Nat → Nat} {di : Nat → Nat → Int32} {dl : Nat → Nat → Int64} {dr : Nat → Nat → Option Nat} {Q : Option Value → q_H → Prop} {a tx pl : Nat → Int32} {P L : Nat}
theorem c_seatA (h : w_MF di a tx P L) (hg : q_Gr n ln dr) (k : ∀ D, w_M di D → w_N D (q_sm a) (q_pl a) → Q none (n, sl, ln, D, dl, dr)) : q_EX q_KD (d + 3) 159 0 [.ref 67, .retAddr 0] [] (n, sl, ln, di, dl, dr) Q := by
  obtain ⟨h1, h2, h3, h4, h5, h6, h7, h8⟩ := h
  subst h1
  refine c_seatAll h3 h5 h7 hg (fun r hr => k _ ?_ ⟨rfl, hr⟩)
  have e : va_up (va_up di 76 r) 67 (va_up (di 67) 26 (nI (q_sm (di 68)))) = q_u (va_up di 76 r) 67 26 (nI (q_sm (di 68))) := rfl
  rw [e]
  exact w_M_tr (w_M_up rfl (by decide)) (w_M_67 (by decide))
theorem c_lbA {l s st : Nat} (hl : l < L) (hs : s < 2 ^ 31) (h : w_MF di a tx P L) (hN : w_N di st pl) (hpl : ∀ j, P ≤ j → j < 6 → pl j < 0) (hg : q_Gr n ln dr)
    (k : ∀ D dl', w_M di D → D 67 26 = di 67 26 → D 76 = di 76 → D 67 27 = nI (q_wv a tx pl l (q_an s st) 7 0 0).1 → D 67 28 = nI (q_wv a tx pl l (q_an s st) 7 0 0).2 → Q (some (.int (q_lb a tx pl l (q_an s st)))) (n, sl, ln, D, dl', dr)) :
    q_EX q_KD (d + 6) 162 0 [.ref 67, .int (nI l), .int (nI s)] [] (n, sl, ln, di, dl, dr) Q := by
  obtain ⟨h1, h2, h3, h4, h5, h6, h7, h8⟩ := h
  subst h1 h2
  have e1 := q_wv_cg (a := di 68) (tx := di 70) (l := l) (m := q_an s st) hN.2 7 0 0
  have e2 := q_lb_cg (a := di 68) (tx := di 70) (l := l) (m := q_an s st) hN.2
  refine c_lbM (by omega) h3 h5 hN.1 hs (fun j hj hj6 => by rw [hN.2 j hj6]; exact hpl j hj hj6) h8 hg (fun e dl' => ?_)
  rw [e1, e2]
  exact k _ _ (w_M_tr w_M_h67 w_M_F) rfl rfl rfl rfl
theorem c_allA {s st : Nat} (hs : s < 2 ^ 31) (h : w_MF di a tx P L) (hN : w_N di st pl) (hpl : ∀ j, P ≤ j → j < 6 → pl j < 0) (hg : q_Gr n ln dr)
    (k : ∀ D dl', w_M di D → D 67 26 = di 67 26 → D 76 = di 76 → Q (some (.int (q_al a tx pl (q_an s st) L))) (n, sl, ln, D, dl', dr)) :
    q_EX q_KD (d + 7) 190 0 [.ref 67, .int (nI s), .retAddr 0, .retAddr 0] [] (n, sl, ln, di, dl, dr) Q := by
  obtain ⟨h1, h2, h3, h4, h5, h6, h7, h8⟩ := h
  subst h1 h2
  have e2 := q_al_cg (a := di 68) (tx := di 70) (m := q_an s st) (L := L) hN.2
  refine c_alM h4 h6 h3 h5 hN.1 hs (fun j hj hj6 => by rw [hN.2 j hj6]; exact hpl j hj hj6) h8 hg (fun x y e dl' => ?_)
  rw [e2]
  exact k _ _ (w_M_tr w_M_h67 w_M_F) rfl rfl
theorem w_plneg (h : w_MF di a tx P L) : ∀ j, P ≤ j → j < 6 → q_pl a j < 0 := fun j h1 h2 => by
  have := (h.2.2.2.2.2.2.1 j h1 h2).1
  show a (10 + 6 * j + 3) < 0
  rw [this]; decide
end
/-- the end of an operation that only heard: class and model wrote nothing but scratch rows and right memos -/
theorem w_end {c n sl : Nat} {ln : Nat → Nat} {di e D : Nat → Nat → Int32} {dr : Nat → Nat → Option Nat} {S : Nat → Bool} (h : q_RR c n sl ln di dr) (hS : ∀ k, S k = true → 50 ≤ k ∧ k ≤ 66) (hM : w_M (q_F S di e) D)
    (hc : ∀ P L T S' K, q_RH n ln di (di 7) (di 8) (di 9) (di 10) (di 11) (di 12) (di 13) (di 14) (di 15) (di 17) (di 18) (di 19) (di 20) (di 21) (di 22) (dr 16) (di 68) (di 70) P L T S' K → q_CE (di 54) (di 55) (di 56) (di 68) (di 70) P L → q_CR (di 60) (di 61) (di 66) (di 68) (di 70) P L → q_CE (q_F S di e 54) (q_F S di e 55) (q_F S di e 56) (di 68) (di 70) P L ∧ q_CR (q_F S di e 60) (q_F S di e 61) (q_F S di e 66) (di 68) (di 70) P L) : q_RR (c + 1) n sl ln D dr := by
  have ho : ∀ k, w_P k = true → q_F S di e k = di k := fun k hk => q_Fo (by
    cases hb : S k with
    | false => rfl
    | true =>
      have := hS k hb
      have h' : (Nat.ble k 49 || (Nat.ble 68 k && Nat.ble k 71) || Nat.ble 84 k) = true := hk
      simp only [Bool.or_eq_true, Bool.and_eq_true, Nat.ble_eq] at h'
      omega)
  have h67 : q_F S di e 67 = di 67 := q_Fo (by
    cases hb : S 67 with
    | false => rfl
    | true => have := hS 67 hb; omega)
  refine w_RR_up (w_RR_scr h (fun k hk => (hM.1 k (w_XP hk)).trans (ho k hk)) (by rw [hM.2.1, h67]) (by rw [hM.2.2.1, h67]) (by rw [hM.2.2.2, h67]) (fun P L T S' K b1 b2 b3 => ?_))
  rw [hM.1 54 rfl, hM.1 55 rfl, hM.1 56 rfl, hM.1 60 rfl, hM.1 61 rfl, hM.1 66 rfl]
  exact hc P L T S' K b1 b2 b3
/-- P and L are fixed by the model's rows -/
theorem w_PL {n : Nat} {ln : Nat → Nat} {di : Nat → Nat → Int32} {dr : Nat → Nat → Option Nat} {P L T S K P2 L2 T2 S2 K2 : Nat} (b1 : q_RH n ln di (di 7) (di 8) (di 9) (di 10) (di 11) (di 12) (di 13) (di 14) (di 15) (di 17) (di 18) (di 19) (di 20) (di 21) (di 22) (dr 16) (di 68) (di 70) P L T S K) (b2 : q_RH n ln di (di 7) (di 8) (di 9) (di 10) (di 11) (di 12) (di 13) (di 14) (di 15) (di 17) (di 18) (di 19) (di 20) (di 21) (di 22) (dr 16) (di 68) (di 70) P2 L2 T2 S2 K2) : P2 = P ∧ L2 = L := by
  obtain ⟨h1, h2, _, _, _, h6, h7, _⟩ := b1.1
  obtain ⟨g1, g2, _, _, _, g6, g7, _⟩ := b2.1
  rw [h6] at g6
  rw [h7] at g7
  exact ⟨((nI_eq (by omega) (by omega)).mp g6).symm, ((nI_eq (by omega) (by omega)).mp g7).symm⟩
theorem w_S_in {k : Nat} (h : w_S k = true) : 50 ≤ k ∧ k ≤ 66 := by have := w_SP h; omega
theorem w_E_in {k : Nat} (h : w_E k = true) : 50 ≤ k ∧ k ≤ 66 := w_S_in (w_ES h)
section
variable {c d n sl : Nat} {ln : Nat → Nat} {di : Nat → Nat → Int32} {dl : Nat → Nat → Int64} {dr : Nat → Nat → Option Nat}
/-- the memos of an operation that used sums alone -/
theorem w_hcS {e : Nat → Nat → Int32} {P L T S K : Nat} (b : q_RH n ln di (di 7) (di 8) (di 9) (di 10) (di 11) (di 12) (di 13) (di 14) (di 15) (di 17) (di 18) (di 19) (di 20) (di 21) (di 22) (dr 16) (di 68) (di 70) P L T S K) (hH : w_H n ln (q_F w_S di e) dr (di 68) (di 70) P L) : ∀ P2 L2 T2 S2 K2, q_RH n ln di (di 7) (di 8) (di 9) (di 10) (di 11) (di 12) (di 13) (di 14) (di 15) (di 17) (di 18) (di 19) (di 20) (di 21) (di 22) (dr 16) (di 68) (di 70) P2 L2 T2 S2 K2 → q_CE (di 54) (di 55) (di 56) (di 68) (di 70) P2 L2 → q_CR (di 60) (di 61) (di 66) (di 68) (di 70) P2 L2 → q_CE (q_F w_S di e 54) (q_F w_S di e 55) (q_F w_S di e 56) (di 68) (di 70) P2 L2 ∧ q_CR (q_F w_S di e 60) (q_F w_S di e 61) (q_F w_S di e 66) (di 68) (di 70) P2 L2 := by
  intro P2 L2 T2 S2 K2 b2 _ q2
  obtain ⟨e1, e2⟩ := w_PL b b2
  subst e1 e2
  exact ⟨hH.2.1, hH.2.2.2.2.2.2.2.2, q2.2⟩
theorem o_all {x1 : Int32} (h : q_RR c n sl ln di dr) : o_op (d + 8) 88 189 [.ref 6, .int x1] [.ref 67, .int x1] c (n, sl, ln, di, dl, dr) := by
  have hR := h
  obtain ⟨hg, _, _, _, _, _, P, L, T, S, K, _, _, _, _, _, b1, _, _, b4, b5⟩ := hR
  have hH := w_RH_H h b1 b4 b5
  have hF := w_RH_MF b1
  refine g88_0 hg (c_within hg (g88_6 hg (fun y => ?_) (fun y => ?_)))
  · refine ⟨-1, rfl, g189_0 hg (c_isIn hg (g189_7 hg (fun y2 => absurd y y2) (fun _ => ⟨rfl, w_RR_up h⟩)))⟩
  · obtain ⟨y1, y2⟩ := q_bp.mp y
    obtain ⟨s, hs, hx⟩ := nI_of2 (M := 63) (n := 63) rfl (q_not_lt y1) y2
    subst hx
    refine c_sumOf (d := d + 1) hH hg (fun e hH2 => g88_17 hg ⟨_, rfl, ?_⟩)
    have hF2 : w_MF (q_F w_S di e) (di 68) (di 70) P L := hF
    refine g189_0 hg (c_isIn hg (g189_7 hg (fun _ => ?_) (fun y3 => absurd y3 y)))
    refine c_seatA (d := d + 4) hF2 hg (fun D hM hN => g189_16 hg (c_allA (d := d) (by omega) (w_MF_M hF2 hM) hN (w_plneg hF) hg (fun D2 dl2 hM2 _ _ => g189_21 hg ⟨rfl, ?_⟩)))
    exact w_end h (fun k hk => w_S_in hk) (w_M_tr hM hM2) (w_hcS b1 hH2)
end
