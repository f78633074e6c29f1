/-- the first L cells are x -/
def w_fl (f : Nat → Int32) (x : Int32) (L : Nat) : Nat → Int32 := fun i => if i < L then x else f i
theorem w_fill (di : Nat → Nat → Int32) (a : Nat) (x : Int32) (L : Nat) : q_fill di a x L 0 = va_up di a (w_fl (di a) x L) := by
  funext k i
  by_cases h : k = a
  · subst h
    rw [q_fillI, q_upE]
    unfold w_fl
    by_cases h2 : i < L
    · rw [if_pos (by omega), if_pos h2]
    · rw [if_neg (by omega), if_neg h2]
  · rw [q_fillO h, q_upN _ _ h]
theorem w_flI {f : Nat → Int32} {x : Int32} {L i : Nat} (h : i < L) : w_fl f x L i = x := if_pos h
theorem w_CE_0 {r54 r55 r56 a tx : Nat → Int32} {P L : Nat} (h4 : ∀ i, i < 240 → r54 i = 0) (h5 : ∀ i, i < 240 → r55 i = 0) (h6 : ∀ i, i < 490 → r56 i = -1) : q_CE r54 r55 r56 a tx P L := by
  refine ⟨fun l j r u v g1 g2 g3 g4 g5 => ?_, fun l g r g1 g2 g3 g4 => absurd (h6 _ (by omega)) g4⟩
  rw [h4 _ (by omega), h5 _ (by omega)]
  exact ⟨fun _ => Int32.zero_and, fun h => absurd Int32.zero_and h⟩
section
variable {c d n sl : Nat} {ln : Nat → Nat} {di : Nat → Nat → Int32} {dl : Nat → Nat → Int64} {dr : Nat → Nat → Option Nat} {Q : Option Value → q_H → Prop}
theorem c_forR (hg : q_Gr n ln dr) (k : Q none (n, sl, ln, q_u (va_up di 61 (w_fl (di 61) (-1) 64)) 60 9 0, dl, dr)) : q_EX q_KD (d + 1) 15 0 [.ref 60] [] (n, sl, ln, di, dl, dr) Q := by
  have hL : ln 61 = 64 := hg.2.1 61 64 rfl
  refine c_forgetR hg ?_ (by rw [hL]; decide)
  rw [hL, w_fill]
  exact k
theorem c_forE (hg : q_Gr n ln dr) (k : Q none (n, sl, ln, va_up (va_up (va_up di 54 (w_fl (di 54) 0 240)) 55 (w_fl (di 55) 0 240)) 56 (w_fl (di 56) (-1) 490), dl, dr)) : q_EX q_KD (d + 1) 59 0 [.ref 53] [] (n, sl, ln, di, dl, dr) Q := by
  refine g59_0 hg (c_fill 54 240 (by decide) (hg.2.1 54 240 rfl) rfl (q_lt hg rfl) (by decide) hg ?_)
  rw [w_fill]
  refine g59_8 hg (c_fill 55 240 (by decide) (hg.2.1 55 240 rfl) rfl (q_lt hg rfl) (by decide) hg ?_)
  rw [w_fill]
  refine g59_16 hg (c_fill 56 490 (by decide) (hg.2.1 56 490 rfl) rfl (q_lt hg rfl) (by decide) hg ?_)
  rw [w_fill]
  exact g59_24 hg k
theorem w_84u {di : Nat → Nat → Int32} {a k : Nat} {f : Nat → Int32} (ha : a < 84) (hk : 84 ≤ k) : va_up di a f k = di k := q_upN _ _ (by omega)
theorem o_of {x1 x2 : Int32} (h : q_RR c n sl ln di dr) : o_op (d + 2) 86 188 [.ref 6, .int x1, .int x2] [.ref 67, .int x1, .int x2] c (n, sl, ln, di, dl, dr) := by
  have hR := h
  obtain ⟨hg, a2, a3, a4, a5, a6, P, L, T, S, K, P', L', T', S', K', b1, b2, b3, b4, b5⟩ := hR
  have hP := b1.1.1
  have h0 : di 68 0 = nI P := b1.1.2.2.2.2.2.1
  have h10 : di 7 10 = nI P := by rw [b1.2.2.2.2.1.1]; exact h0
  refine g86_0 hg (c_isTold hg ?_)
  rcases Classical.em (∃ j, j < P ∧ x1 = nI j) with hj | hj
  · obtain ⟨j, hj, hx⟩ := hj
    subst hx
    have y : ¬ q_b ((0 : Int32) ≤ nI j ∧ nI j < di 7 10 ∧ nI j < 6) = 0 := q_bp.mpr (by rw [h10]; exact (w_told hP).mpr ⟨j, hj, rfl⟩)
    have y2 : ¬ q_b ((0 : Int32) ≤ nI j ∧ nI j ≤ di 68 0 - 1) = 0 := q_bp.mpr (by rw [h0]; exact (w_told2 (by omega)).mpr ⟨j, hj, rfl⟩)
    have hjn : (nI j).toNatClampNeg = j := nI_clamp (by omega)
    have pe := b1.2.2.2.2.2.1 j (by omega)
    have vj : vp_in (nI j) 6 := vp_in_nI (by omega) (by decide)
    have lo : ∀ (k : Nat) (v : Int32), x2 = nI k → k < 3 → v = di 68 (10 + 6 * j + (3 + k)) → q_EX q_KD (d + 2) 188 0 [.ref 67, .int (nI j), .int x2] [] (n, sl, ln, di, dl, dr) (fun r2 h2 => r2 = some (.int v) ∧ w_R (c + 1) h2) := by
      intro k v hk hk3 hv
      subst hk
      have e3 : (3 : Int32) + nI k = nI (3 + k) := by rw [q_pa]; rfl
      refine g188_0 hg (c_isPerson (d := d) hg (g188_5 hg (fun z => absurd z y2) (fun _ => c_isIn hg (g188_14 hg (fun _ z => absurd ((nI_leI (a := 3) (by decide) (by omega)).mp z) (by omega)) (fun _ _ => ?_) (fun z => absurd z (q_bp.mpr ⟨nI_pos' (by omega), (nI_leI (b := 5) (by omega) (by decide)).mpr (by omega)⟩))))))
      rw [e3]
      exact c_get j (3 + k) hg (by omega) (g188_33 hg ⟨by rw [hv], w_RR_up h⟩)
    have hi : ∀ (k : Nat) (v : Int32), x2 = nI (3 + k) → k < 3 → v = di 68 (10 + 6 * j + k) → q_EX q_KD (d + 2) 188 0 [.ref 67, .int (nI j), .int x2] [] (n, sl, ln, di, dl, dr) (fun r2 h2 => r2 = some (.int v) ∧ w_R (c + 1) h2) := by
      intro k v hk hk3 hv
      subst hk
      have e3 : nI (3 + k) - 3 = nI k := by rw [q_pa]; exact q_sub1 _ _
      refine g188_0 hg (c_isPerson (d := d) hg (g188_5 hg (fun z => absurd z y2) (fun _ => c_isIn hg (g188_14 hg (fun _ _ => ?_) (fun _ z => absurd ((nI_ltI (b := 3) (by omega) (by decide)).mp z) (by omega)) (fun z => absurd z (q_bp.mpr ⟨nI_pos' (by omega), (nI_leI (b := 5) (by omega) (by decide)).mpr (by omega)⟩))))))
      rw [e3]
      exact c_get j k hg (by omega) (g188_44 hg ⟨by rw [hv], w_RR_up h⟩)
    refine g86_8 hg (fun _ _ => vj) (fun _ w => ⟨_, rfl, lo 0 _ w (by decide) (by rw [hjn]; exact pe.2.2.2.1)⟩) (fun _ w => ⟨_, rfl, lo 1 _ w (by decide) ?_⟩) (fun _ _ => vj) (fun _ w => ⟨_, rfl, lo 2 _ w (by decide) (by rw [hjn]; exact pe.2.2.2.2)⟩) (fun _ _ => vj) (fun _ w => ⟨_, rfl, hi 0 _ w (by decide) (by rw [hjn]; exact pe.1)⟩) (fun _ _ => vj) (fun _ w => ⟨_, rfl, hi 1 _ w (by decide) (by rw [hjn]; exact pe.2.1)⟩) (fun _ _ => vj) (fun _ w => ⟨_, rfl, hi 2 _ w (by decide) (by rw [hjn]; exact pe.2.2.1)⟩) (fun _ w0 w1 w2 w3 w4 w5 => ⟨_, rfl, ?_⟩) (fun z => absurd z y)
    · have hsb := b1.2.2.2.2.2.2.1
      rw [hsb.1, q_bt (Nat.lt_of_lt_of_le (q_msL _) (by decide)) (by omega), q_msT]
      rcases hsb.2 j (by omega) with q | q
      · have q' : di 68 (10 + 6 * j + 4) = 0 := q
        rw [decide_eq_false (fun z => absurd (q'.symm.trans z.2) (by decide))]; exact q'.symm
      · have q' : di 68 (10 + 6 * j + 4) = 1 := q
        rw [decide_eq_true ⟨by omega, q'⟩]; exact q'.symm
    · refine g188_0 hg (c_isPerson (d := d) hg (g188_5 hg (fun z => absurd z y2) (fun _ => c_isIn hg (g188_14 hg (fun z _ => ?_) (fun z _ => ?_) (fun _ => ⟨rfl, w_RR_up h⟩)))))
      all_goals
        exfalso
        obtain ⟨z1, z2⟩ := q_bp.mp z
        simp only [fa_le, fa_eq, q_t0, q_t1, q_t2, q_t3, q_t4, q_t5] at z1 z2 w0 w1 w2 w3 w4 w5
        omega
  · have y : q_b ((0 : Int32) ≤ x1 ∧ x1 < di 7 10 ∧ x1 < 6) = 0 := q_bn.mpr (by rw [h10]; exact fun z => hj ((w_told hP).mp z))
    have y2 : q_b ((0 : Int32) ≤ x1 ∧ x1 ≤ di 68 0 - 1) = 0 := q_bn.mpr (by rw [h0]; exact fun z => hj ((w_told2 (by omega)).mp z))
    have kk : ∃ v : Int32, some (Value.int (-2)) = some (.int v) ∧ q_EX q_KD (d + 2) 188 0 [.ref 67, .int x1, .int x2] [] (n, sl, ln, di, dl, dr) (fun r2 h2 => r2 = some (.int v) ∧ w_R (c + 1) h2) :=
      ⟨-2, rfl, g188_0 hg (c_isPerson (d := d) hg (g188_5 hg (fun _ => ⟨rfl, w_RR_up h⟩) (fun z => absurd y2 z)))⟩
    exact g86_8 hg (fun z => absurd y z) (fun z => absurd y z) (fun z => absurd y z) (fun z => absurd y z) (fun z => absurd y z) (fun z => absurd y z) (fun z => absurd y z) (fun z => absurd y z) (fun z => absurd y z) (fun z => absurd y z) (fun z => absurd y z) (fun z => absurd y z) (fun _ => kk)
/-- who is on a seat: six persons of the class, P of the model -/
theorem w_onE {P L T S K : Nat} (b1 : q_RH n ln di (di 7) (di 8) (di 9) (di 10) (di 11) (di 12) (di 13) (di 14) (di 15) (di 17) (di 18) (di 19) (di 20) (di 21) (di 22) (dr 16) (di 68) (di 70) P L T S K) {s : Nat} (hs : s < 16) : q_on (di 11) (nI s) 6 0 = q_on (fun j => di 68 (10 + 6 * j + 3)) (nI s) P 0 := by
  have hP := b1.1.1
  rw [q_on_cg (g := fun j => di 68 (10 + 6 * j + 3)) 6 0 (fun i _ hi => (b1.2.2.2.2.2.1 i (by omega)).2.2.2.1)]
  refine w_on_ext hP (fun j h1 h2 z => ?_)
  have e : di 68 (10 + 6 * j + 3) = -1 := (b1.2.1.2.2.1 j h1 h2).1
  have z' : di 68 (10 + 6 * j + 3) = nI s := z
  rw [e] at z'
  exact absurd (congrArg Int32.toInt z') (by rw [q_tm1, nI_toInt (by omega)]; omega)
theorem o_about {x1 : Int32} (h : q_RR c n sl ln di dr) : o_op (d + 2) 114 206 [.ref 6, .int x1] [.ref 67, .int x1] c (n, sl, ln, di, dl, dr) := by
  have hR := h
  obtain ⟨hg, a2, a3, a4, ⟨N, hN, n1, n2, n3⟩, a6, P, L, T, S, K, P', L', T', S', K', b1, b2, b3, b4, b5⟩ := hR
  obtain ⟨c1, c2, c3, c4, c5, c6, c7⟩ := b1.2.2.2.2.1
  obtain ⟨o, o1, o2, o3, o4⟩ := b1.2.2.2.2.2.2.2.2.2.1
  have c8 : di 17 6 = di 68 6 := by rw [o3]; exact b1.1.2.2.2.2.2.2.2.2.1.symm
  have lo : ∀ (k : Nat) (v : Int32), x1 = nI k → k < 8 → v = di 68 k → q_EX q_KD (d + 2) 206 0 [.ref 67, .int x1] [] (n, sl, ln, di, dl, dr) (fun r2 h2 => r2 = some (.int v) ∧ w_R (c + 1) h2) := by
    intro k v hk hk8 hv
    subst hk
    refine g206_0 hg (c_isIn hg (g206_8 hg (fun _ => c_isIn hg (g206_27 hg (fun z => absurd z (q_bp.mpr ⟨nI_pos' (by omega), (nI_leI (b := 7) (by omega) (by decide)).mpr (by omega)⟩)) (fun z => absurd z (q_bp.mpr ⟨nI_pos' (by omega), (nI_leI (b := 7) (by omega) (by decide)).mpr (by omega)⟩)) (fun _ => vp_in_nI (by omega) (by decide)) (fun _ => ⟨by rw [hv, nI_clamp (by omega)], w_RR_up h⟩))) (fun z => absurd ((nI_leI (a := 10) (by decide) (by omega)).mp (q_bp.mp z).1) (by omega))))
  have no : ¬ (10 ≤ x1 ∧ x1 ≤ 25) → ¬ ((0 : Int32) ≤ x1 ∧ x1 ≤ 7) → ¬ x1 = 8 → q_EX q_KD (d + 2) 206 0 [.ref 67, .int x1] [] (n, sl, ln, di, dl, dr) (fun r2 h2 => r2 = some (.int (-2)) ∧ w_R (c + 1) h2) := fun h1 h2 h3 =>
    g206_0 hg (c_isIn hg (g206_8 hg (fun _ => c_isIn hg (g206_27 hg (fun _ _ => ⟨rfl, w_RR_up h⟩) (fun _ z => absurd z h3) (fun z => absurd (q_bp.mp z) h2) (fun z => absurd (q_bp.mp z) h2))) (fun z => absurd (q_bp.mp z) h1)))
  refine g114_0 hg (fun w => ⟨_, rfl, lo 0 _ w (by decide) c1⟩) (fun w => ⟨_, rfl, lo 1 _ w (by decide) c2⟩) (fun w => ⟨_, rfl, lo 2 _ w (by decide) c3⟩) (fun w => ⟨_, rfl, lo 3 _ w (by decide) c4⟩) (fun w => ⟨_, rfl, lo 4 _ w (by decide) c5⟩) (fun w => ⟨_, rfl, lo 5 _ w (by decide) c6⟩) (fun w => ⟨_, rfl, lo 6 _ w (by decide) c8⟩) (fun w => ⟨_, rfl, lo 7 _ w (by decide) c7⟩) (fun w => ⟨_, rfl, ?_⟩) (fun w0 w1 w2 w3 w4 w5 w6 w7 w8 w9 => ⟨_, rfl, no ?_ ?_ w8⟩) (fun w0 w1 w2 w3 w4 w5 w6 w7 w8 w9 w10 => ⟨_, rfl, no ?_ ?_ w8⟩) (fun w0 w1 w2 w3 w4 w5 w6 w7 w8 w9 w10 => ?_)
  · subst w
    exact g206_0 hg (c_isIn hg (g206_8 hg (fun _ => c_isIn hg (g206_27 hg (fun _ z => absurd rfl z) (fun _ _ => ⟨by rw [n1, n2], w_RR_up h⟩) (fun z => absurd (q_bp.mp z) (by decide)) (fun z => absurd (q_bp.mp z) (by decide)))) (fun z => absurd (q_bp.mp z) (by decide))))
  · exact fun z => q_not_lt z.1 w9
  · have t7 : (7 : Int32).toInt = 7 := rfl
    have t8 : (8 : Int32).toInt = 8 := rfl
    rintro ⟨z1, z2⟩
    simp only [fa_le, fa_lt, fa_eq, q_t0, q_t1, q_t2, q_t3, q_t4, q_t5, q_t6, t7, t8, q_t10] at z1 z2 w0 w1 w2 w3 w4 w5 w6 w7 w8 w9
    omega
  · have t25 : (25 : Int32).toInt = 25 := rfl
    have t26 : (26 : Int32).toInt = 26 := rfl
    rintro ⟨z1, z2⟩
    rw [fa_le, t25] at z2
    rw [fa_le, t26] at w10
    omega
  · have t7 : (7 : Int32).toInt = 7 := rfl
    rintro ⟨z1, z2⟩
    rw [fa_le, t7] at z2
    rw [fa_le, q_t10] at w9
    omega
  · obtain ⟨t, ht, hx⟩ := nI_of (x := x1) (fun z => by rw [fa_lt, q_t0] at z; rw [fa_le, q_t10] at w9; omega)
    subst hx
    have g1 := (nI_leI (a := 10) (by decide) ht).mp w9
    have g2 := (nI_ltI (b := 26) ht (by decide)).mp w10
    obtain ⟨s, rfl⟩ : ∃ s, t = 10 + s := ⟨t - 10, by omega⟩
    have e10 : nI (10 + s) - 10 = nI s := by rw [q_pa]; exact q_sub1 _ _
    rw [e10]
    refine c_onH hg (g114_153 hg ⟨_, rfl, g206_0 hg (c_isIn hg (g206_8 hg (fun z => absurd z (q_bp.mpr ⟨(nI_leI (a := 10) (by decide) (by omega)).mpr (by omega), (nI_leI (b := 25) (by omega) (by decide)).mpr (by omega)⟩)) (fun _ => ?_)))⟩)
    rw [e10]
    exact c_onM (d := d) P b1.1.1 b1.1.2.2.2.2.2.1 hg (g206_19 hg ⟨by rw [w_onE b1 (by omega)], w_RR_up h⟩)
end
