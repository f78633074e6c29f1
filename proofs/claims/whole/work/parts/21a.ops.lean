/-! FROM THE RELATION to what hearing needs, and back -/
abbrev w_R (c : Nat) (h : q_H) : Prop := q_RR c h.1 h.2.1 h.2.2.1 h.2.2.2.1 h.2.2.2.2.2
/-- one operation on both sides: the same answer, and the relation holds -/
def o_op (d i1 i2 : Nat) (as1 as2 : List Value) (c : Nat) (h : q_H) : Prop := q_EX q_KD d i1 0 as1 [] h (fun r h1 => ∃ v : Int32, r = some (.int v) ∧ q_EX q_KD d i2 0 as2 [] h1 (fun r2 h2 => r2 = some (.int v) ∧ w_R (c + 1) h2))
/-- rows that last from call to call, memos aside -/
abbrev w_P : Nat → Bool := fun k => Nat.ble k 49 || (Nat.ble 68 k && Nat.ble k 71) || Nat.ble 84 k
theorem w_P84 {k : Nat} (h : 84 ≤ k) : w_P k = true := by
  show (Nat.ble k 49 || (Nat.ble 68 k && Nat.ble k 71) || Nat.ble 84 k) = true
  rw [Nat.ble_eq_true_of_le h, Bool.or_true]
theorem w_RR_up {c n sl : Nat} {ln : Nat → Nat} {di : Nat → Nat → Int32} {dr : Nat → Nat → Option Nat} (h : q_RR c n sl ln di dr) : q_RR (c + 1) n sl ln di dr := by
  obtain ⟨h1, ⟨N, h2, h3⟩, h4, h5⟩ := h
  exact ⟨h1, ⟨N, by omega, h3⟩, by omega, h5⟩
theorem w_RR_scr {c n sl : Nat} {ln : Nat → Nat} {di di' : Nat → Nat → Int32} {dr : Nat → Nat → Option Nat} (h : q_RR c n sl ln di dr) (hp : ∀ k, w_P k = true → di' k = di k) (h4 : di' 67 4 = di 67 4) (h5 : di' 67 5 = di 67 5) (h6 : di' 67 6 = di 67 6)
    (hc : ∀ P L T S K, q_RH n ln di (di 7) (di 8) (di 9) (di 10) (di 11) (di 12) (di 13) (di 14) (di 15) (di 17) (di 18) (di 19) (di 20) (di 21) (di 22) (dr 16) (di 68) (di 70) P L T S K → q_CE (di 54) (di 55) (di 56) (di 68) (di 70) P L → q_CR (di 60) (di 61) (di 66) (di 68) (di 70) P L → q_CE (di' 54) (di' 55) (di' 56) (di 68) (di 70) P L ∧ q_CR (di' 60) (di' 61) (di' 66) (di 68) (di 70) P L) :
    q_RR c n sl ln di' dr := by
  obtain ⟨a1, a2, a3, a4, a5, a6, P, L, T, S, K, P', L', T', S', K', b1, b2, b3, b4, b5⟩ := h
  have hd : ∀ k, 84 ≤ k → di' k = di k := fun k hk => hp k (w_P84 hk)
  refine ⟨a1, a2, a3, ?_, ?_, ?_, P, L, T, S, K, P', L', T', S', K', ?_, ?_, b3, ?_⟩
  · unfold q_Cn at *
    rw [hp 1 rfl, hp 2 rfl, hp 3 rfl, hp 5 rfl]
    exact a4
  · unfold q_Tp at *
    rw [hp 40 rfl, hp 41 rfl, hp 71 rfl, h4]
    exact a5
  · unfold q_Ft at *
    rw [hp 39 rfl, h5, h6]
    exact a6
  · rw [hp 7 rfl, hp 8 rfl, hp 9 rfl, hp 10 rfl, hp 11 rfl, hp 12 rfl, hp 13 rfl, hp 14 rfl, hp 15 rfl, hp 17 rfl, hp 18 rfl, hp 19 rfl, hp 20 rfl, hp 21 rfl, hp 22 rfl, hp 68 rfl, hp 70 rfl]
    obtain ⟨c1, c2, c3, c4, c5, c6, c7, c8, c9, c10, c11⟩ := b1
    exact ⟨c1, c2, c3, c4, c5, c6, c7, c8, c9, c10, q_Sc_cg c11 hd⟩
  · rw [hp 23 rfl, hp 24 rfl, hp 25 rfl, hp 26 rfl, hp 27 rfl, hp 28 rfl, hp 29 rfl, hp 30 rfl, hp 31 rfl, hp 33 rfl, hp 34 rfl, hp 35 rfl, hp 36 rfl, hp 37 rfl, hp 38 rfl, hp 69 rfl, hp 70 rfl]
    obtain ⟨c1, c2, c3, c4, c5, c6, c7, c8, c9, c10, c11⟩ := b2
    exact ⟨c1, c2, c3, c4, c5, c6, c7, c8, c9, c10, q_Sc_cg c11 hd⟩
  · rw [hp 68 rfl, hp 70 rfl]
    exact hc P L T S K b1 b4 b5
/-- what the Reckoner needs of the heap; a, tx: the model's rows -/
def w_H (n : Nat) (ln : Nat → Nat) (di : Nat → Nat → Int32) (dr : Nat → Nat → Option Nat) (a tx : Nat → Int32) (P L : Nat) : Prop :=
  q_W n ln di dr a tx P L ∧ q_CE (di 54) (di 55) (di 56) a tx P L ∧ (∀ j, j < 6 → di 11 j = q_pl a j) ∧ di 7 11 = nI (q_sm a) ∧ di 7 10 = nI P
  ∧ (∀ j, j < 6 → q_pl a j = -1 ∨ ∃ s, s < 16 ∧ q_pl a j = nI s) ∧ (∀ j, P ≤ j → j < 6 → q_pl a j = -1) ∧ (∀ i j, i < 6 → j < 6 → i ≠ j → q_pl a i = q_pl a j → q_pl a i = -1)
  ∧ (∀ m, m < 64 → di 61 m = -1 ∨ di 61 m = q_al a tx (q_pl a) (q_an m (q_sm a)) L)
theorem w_RH_H {c n sl : Nat} {ln : Nat → Nat} {di : Nat → Nat → Int32} {dr : Nat → Nat → Option Nat} {P L T S K : Nat} (h : q_RR c n sl ln di dr) (b1 : q_RH n ln di (di 7) (di 8) (di 9) (di 10) (di 11) (di 12) (di 13) (di 14) (di 15) (di 17) (di 18) (di 19) (di 20) (di 21) (di 22) (dr 16) (di 68) (di 70) P L T S K) (b4 : q_CE (di 54) (di 55) (di 56) (di 68) (di 70) P L) (b5 : q_CR (di 60) (di 61) (di 66) (di 68) (di 70) P L) : w_H n ln di dr (di 68) (di 70) P L := by
  obtain ⟨c1, c2, c3, c4, c5, c6, c7, c8, c9, c10, c11⟩ := b1
  refine ⟨⟨h.2.2.2.1.1, c1.1, c1.2.1, ?_, fun j hj => ⟨(c6 j hj).1, (c6 j hj).2.1, c2.1 j hj⟩, fun l hl => ⟨(c8 l hl).1, (c8 l hl).2, c3 l hl⟩, ?_⟩, b4, fun j hj => (c6 j hj).2.2.2.1, c7.1, ?_, fun j hj => c2.2.1 j hj, fun j h1 h2 => (c2.2.2.1 j h1 h2).1, fun i j h1 h2 h3 h4 => c2.2.2.2 i j h1 h2 h3 h4, b5.1⟩
  · rw [c5.2.1]; exact c1.2.2.2.2.2.2.1
  · have e : di 7 15 = di 68 5 := c5.2.2.2.2.2.1
    rcases c1.2.2.2.2.2.2.2.2.2.2 with q | ⟨t, q1, q2⟩
    · exact Or.inl ⟨by rw [e]; exact q, q⟩
    · obtain ⟨z, z1, z2, z3⟩ := c11.1 t q1
      have hT := c1.2.2.1
      exact Or.inr ⟨t, z, by omega, by rw [e]; exact q2, q2, z1, z2, z3⟩
  · rw [c5.1]; exact c1.2.2.2.2.2.1
/-- rows that a sum writes -/
abbrev w_S : Nat → Bool := fun k => (Nat.ble 51 k && Nat.ble k 56) || Nat.beq k 61
theorem w_SP {k : Nat} (h : w_S k = true) : 51 ≤ k ∧ k ≤ 61 := by
  have h' : ((Nat.ble 51 k && Nat.ble k 56) || Nat.beq k 61) = true := h
  simp only [Bool.or_eq_true, Bool.and_eq_true, Nat.beq_eq, Nat.ble_eq] at h'
  omega
theorem w_ES {k : Nat} (h : w_E k = true) : w_S k = true := by
  have h' : (Nat.ble 51 k && Nat.ble k 56) = true := h
  show ((Nat.ble 51 k && Nat.ble k 56) || Nat.beq k 61) = true
  rw [h', Bool.true_or]
theorem q_FFs {S S' : Nat → Bool} (h : ∀ k, S k = true → S' k = true) (di e e' : Nat → Nat → Int32) : q_F S (q_F S' di e) e' = q_F S' di (q_F S e e') := by
  funext k
  unfold q_F
  cases hS : S k with
  | true => rw [h k hS]; rfl
  | false => cases S' k <;> rfl
theorem w_H_F {n : Nat} {ln : Nat → Nat} {di e : Nat → Nat → Int32} {dr : Nat → Nat → Option Nat} {a tx : Nat → Int32} {P L : Nat} (h : w_H n ln di dr a tx P L) (hCE : q_CE (e 54) (e 55) (e 56) a tx P L) (h61 : ∀ m, m < 64 → e 61 m = -1 ∨ e 61 m = q_al a tx (q_pl a) (q_an m (q_sm a)) L) : w_H n ln (q_F w_S di e) dr a tx P L := by
  obtain ⟨h1, h2, h3, h4, h5, h6, h7, h8, h9⟩ := h
  refine ⟨q_W_cg h1 rfl rfl rfl rfl rfl rfl rfl (fun k hk => q_Fo ?_), hCE, h3, h4, h5, h6, h7, h8, h61⟩
  cases hS : w_S k with
  | false => rfl
  | true => have := w_SP hS; omega
theorem w_H_pl {n : Nat} {ln : Nat → Nat} {di : Nat → Nat → Int32} {dr : Nat → Nat → Option Nat} {a tx : Nat → Int32} {P L : Nat} (h : w_H n ln di dr a tx P L) {p : Nat} (hp : p < 64) (hs : ∀ j, p.testBit j = true → (w_si (q_pl a)).testBit j = true) : w_pl (di 11) p P := by
  obtain ⟨h1, h2, h3, h4, h5, h6, h7, h8, h9⟩ := h
  have hne : ∀ j, p.testBit j = true → ¬ q_pl a j = -1 := fun j hj => by
    have := hs j hj
    rw [w_siT, decide_eq_true_iff] at this
    exact this.2
  refine ⟨hp, fun j hj hb => ?_, fun i j hi hj hbi hbj hij => ?_⟩
  · have hn := hne j hb
    refine ⟨?_, ?_⟩
    · rcases Nat.lt_or_ge j P with y | y
      · exact y
      · exact absurd (h7 j y hj) hn
    · rw [h3 j hj]
      exact (h6 j hj).resolve_left hn
  · rw [h3 i hi, h3 j hj]
    exact fun z => hne i hbi (h8 i j hi hj hij z)
theorem w_pos {x : Int32} (h : x = -1 ∨ ∃ s, s < 16 ∧ x = nI s) : (0 : Int32) ≤ x ↔ ¬ x = -1 := by
  rcases h with h | ⟨s, h1, h2⟩
  · rw [h]; decide
  · rw [h2]
    exact ⟨fun _ z => absurd (congrArg Int32.toInt z) (by rw [q_tm1, nI_toInt (by omega)]; omega), fun _ => nI_pos' (by omega)⟩
section
variable {d n sl : Nat} {ln : Nat → Nat} {di : Nat → Nat → Int32} {dl : Nat → Nat → Int64} {dr : Nat → Nat → Option Nat} {Q : Option Value → q_H → Prop} {a tx : Nat → Int32} {P L : Nat}
/-- Reckoner.sumOf -/
theorem c_sumOf {s : Nat} (h : w_H n ln di dr a tx P L) (hg : q_Gr n ln dr)
    (k : ∀ e, w_H n ln (q_F w_S di e) dr a tx P L → Q (some (.int (q_al a tx (q_pl a) (q_an s (q_sm a)) L))) (n, sl, ln, q_F w_S di e, dl, dr)) :
    q_EX q_KD (d + 6) 89 0 [.ref 60, .int (nI s), .retAddr 0] [] (n, sl, ln, di, dl, dr) Q := by
  have hsi : w_si (di 11) = w_si (q_pl a) := w_si_cg h.2.2.1
  have hsl := w_siL (q_pl a)
  refine g89_0 hg (c_sitH hg ?_)
  rw [w_sit6, hsi]
  have ep : (nI s &&& 63) &&& nI (w_si (q_pl a)) = nI ((s &&& 63) &&& w_si (q_pl a)) := by
    rw [show (63 : Int32) = nI 63 from rfl, fa_and, fa_and]
  have hp64 : (s &&& 63) &&& w_si (q_pl a) < 64 := Nat.lt_of_le_of_lt Nat.and_le_right hsl
  have hpn : (nI ((s &&& 63) &&& w_si (q_pl a))).toNatClampNeg = (s &&& 63) &&& w_si (q_pl a) := nI_clamp (by omega)
  have vs : vp_in ((nI s &&& 63) &&& nI (w_si (q_pl a))) 64 := by rw [ep]; exact vp_in_nI hp64 (by decide)
  have eal : q_al a tx (q_pl a) (q_an s (q_sm a)) L = q_al a tx (q_pl a) (q_an ((s &&& 63) &&& w_si (q_pl a)) (q_sm a)) L := by
    refine w_al_m (fun j hj => ?_) (fun _ _ _ _ => rfl)
    rw [q_anT, q_anT, Nat.testBit_and, Nat.testBit_and, w_siT, w_pos (h.2.2.2.2.2.1 j hj)]
    have h63 : ∀ j, j < 6 → (63 : Nat).testBit j = true := by decide
    rw [h63 j hj]
    by_cases hq : q_pl a j = -1
    · exact ⟨fun z => absurd hq z.2, fun z => absurd hq z.2⟩
    · rw [decide_eq_true (show j < 6 ∧ ¬ q_pl a j = -1 from ⟨hj, hq⟩), Bool.and_true, Bool.and_true]
  refine g89_11 hg vs (fun _ => vs) (fun c1 => ?_) (fun c1 => ?_)
  · rw [ep, hpn] at c1 ⊢
    have := k di (w_H_F h h.2.1 h.2.2.2.2.2.2.2.2)
    rw [q_Fid, eal] at this
    rw [(h.2.2.2.2.2.2.2.2 _ hp64).resolve_left c1]
    exact this
  · rw [ep, h.2.2.2.1]
    have hpl : w_pl (di 11) ((s &&& 63) &&& w_si (q_pl a)) P := w_H_pl h hp64 (fun j hj => by
      rw [Nat.testBit_and, Bool.and_eq_true] at hj
      exact hj.2)
    have hls : ln 11 = 6 := hg.2.1 11 6 rfl
    refine c_tog (d := d) (en := 991) (sa := 11) (by decide) hpl rfl (q_lt hg rfl) hls rfl h.1 h.2.1 hg (fun e y _ q1 q2 => ?_)
    obtain ⟨T, t1, t2, t3⟩ := w_alb a tx (di 11) (q_an ((s &&& 63) &&& w_si (q_pl a)) (q_sm a)) L 0 0
    have hL := h.1.2.2.1
    have hT : y = T := (q2 T (by omega) t3).1 (by omega)
    have e2 : q_al a tx (q_pl a) (q_an s (q_sm a)) L = nI T := by
      rw [eal, ← q_al_cg (pl := q_pl a) (pl' := di 11) h.2.2.1]
      exact t3
    have vs2 : vp_in (nI ((s &&& 63) &&& w_si (q_pl a))) 64 := vp_in_nI hp64 (by decide)
    refine g89_53 hg vs2 vs2 ?_
    rw [hpn, q_uE, hT, ← e2]
    have h61 : ∀ m, m < 64 → (q_u (q_F w_E di e) 61 ((s &&& 63) &&& w_si (q_pl a)) (q_al a tx (q_pl a) (q_an s (q_sm a)) L)) 61 m = -1 ∨ (q_u (q_F w_E di e) 61 ((s &&& 63) &&& w_si (q_pl a)) (q_al a tx (q_pl a) (q_an s (q_sm a)) L)) 61 m = q_al a tx (q_pl a) (q_an m (q_sm a)) L := fun m hm => by
      by_cases em : m = (s &&& 63) &&& w_si (q_pl a)
      · subst em
        rw [q_uE]
        exact Or.inr eal
      · rw [q_uN _ _ _ _ _ em]
        exact h.2.2.2.2.2.2.2.2 m hm
    have kk := k (q_u (q_F w_E di e) 61 ((s &&& 63) &&& w_si (q_pl a)) (q_al a tx (q_pl a) (q_an s (q_sm a)) L)) (w_H_F h q1 h61)
    rw [← q_Fin (S := w_S) (di := di)] at kk
    · exact kk
    · intro k' hk'
      have h61' : ¬ k' = 61 := fun e => by rw [e] at hk'; exact absurd hk' (by decide)
      rw [q_uR h61']
      refine q_Fo ?_
      cases hE : w_E k' with
      | false => rfl
      | true => rw [w_ES hE] at hk'; exact absurd hk' (by decide)
end
