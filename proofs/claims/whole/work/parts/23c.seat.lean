section
variable {c d n sl : Nat} {ln : Nat → Nat} {di : Nat → Nat → Int32} {dl : Nat → Nat → Int64} {dr : Nat → Nat → Option Nat} {Q : Option Value → q_H → Prop} {a tx : Nat → Int32} {P L T K : Nat}
/-- House.keepStill -/
theorem x_still {x1 x2 : Int32} (hc : w_CX n ln di dr a tx P L T K) (hg : q_Gr n ln dr)
    (k1 : w_hOK a P x1 x2 → ∀ D, (∀ k, w_Z k = false → D k = di k) → (∀ a', w_hire a P x1 x2 a' → w_CX n ln D dr a' tx P L T K) → Q (some (.int 1)) (n, sl, ln, D, dl, dr))
    (k0 : ¬ w_hOK a P x1 x2 → Q (some (.int 0)) (n, sl, ln, di, dl, dr)) : q_EX q_KD (d + 1) 66 0 [.ref 7, .int x1, .int x2] [] (n, sl, ln, di, dl, dr) Q := by
  obtain ⟨⟨S, b1⟩, hCE⟩ := hc
  have hP := b1.1.1
  have hS := b1.1.2.2.2.1
  have h10 : di 7 10 = nI P := by rw [b1.2.2.2.2.1.1]; exact b1.1.2.2.2.2.2.1
  obtain ⟨o, ho, o5, o6, o4⟩ := b1.2.2.2.2.2.2.2.2.2.1
  have hsb := b1.2.2.2.2.2.2.1
  have hml := q_msL (fun j => a (10 + 6 * j + 4))
  have bitE : ∀ j, j < 6 → ((di 7 11 >>> (nI j &&& 31)) &&& 1) = a (10 + 6 * j + 4) := fun j hj => by
    rw [hsb.1, q_bt (by omega) (by omega), q_msT]
    rcases hsb.2 j hj with q | q
    · have q' : a (10 + 6 * j + 4) = 0 := q
      rw [decide_eq_false (fun z => absurd (q'.symm.trans z.2) (by decide))]; exact q'.symm
    · have q' : a (10 + 6 * j + 4) = 1 := q
      rw [decide_eq_true ⟨hj, q'⟩]; exact q'.symm
  have fin : ∀ j, j < P → x1 = nI j → w_hOK a P x1 x2 → q_EX q_KD d 64 0 [.ref 17, .ref 7, .retAddr 0] [] (n, sl, ln, di, dl, dr) (fun r1 h1 => q_EX q_KD (d + 1) 66 38 [.ref 7, .int x1, .retAddr 0] (r1.toList ++ []) h1 Q) := by
    intro j hj hx hok
    refine c_keepX ho hS o5 o6 hg (fun q17 q5 q6 => g66_38 hg ?_)
    have e11 : (q_u (q_u (q_u (va_up (va_up (va_up di 17 q17) 18 (va_cpy (di 11) (di 18) 0 ((o + S) % 30 * 6) 6)) 19 (va_cpy (di 12) (di 19) 0 ((o + S) % 30 * 6) 6)) 20 ((o + S) % 30) (di 7 11)) 21 ((o + S) % 30) (di 7 16)) 22 ((o + S) % 30) (di 7 17)) 7 11 = nI (q_ms (fun j => a (10 + 6 * j + 4))) := hsb.1
    rw [hx, e11, q_sh (by omega), q_xor]
    refine k1 hok _ (fun k hk => ?_) (fun a' ha' => ?_)
    · rw [q_uR (w_Z_no hk rfl), q_uR (w_Z_no hk rfl), q_uR (w_Z_no hk rfl), q_uR (w_Z_no hk rfl), q_upN _ _ (w_Z_no hk rfl), q_upN _ _ (w_Z_no hk rfl), q_upN _ _ (w_Z_no hk rfl)]
    · obtain ⟨S2, b, s1, s2, s3, j2, j3, j4, j5⟩ := ha'
      have eS : S2 = S := by
        rw [b1.1.2.2.2.2.2.2.2.2.1] at s2
        exact ((nI_eq (by omega) (by omega)).mp s2).symm
      subst eS
      have ej : j2 = j := by
        rw [hx] at j4
        exact ((nI_eq (by omega) (by omega)).mp j4).symm
      subst ej
      have kp := s3
      obtain ⟨S3, δ, _, _, kk1, _⟩ := kp
      have bE : ∀ i, 10 ≤ i → i < 46 → b i = a i := fun i h1 h2 => kk1 i (by omega) (by omega)
      obtain ⟨jj, v1, v2, v3⟩ := hok
      have ejj : jj = j2 := by
        rw [hx] at v2
        exact ((nI_eq (by omega) (by omega)).mp v2).symm
      subst ejj
      have hdD : ∀ k, 84 ≤ k → q_u (q_u (q_u (q_u (va_up (va_up (va_up di 17 q17) 18 (va_cpy (di 11) (di 18) 0 ((o + S2) % 30 * 6) 6)) 19 (va_cpy (di 12) (di 19) 0 ((o + S2) % 30 * 6) 6)) 20 ((o + S2) % 30) (di 7 11)) 21 ((o + S2) % 30) (di 7 16)) 22 ((o + S2) % 30) (di 7 17)) 7 11 (nI (q_ms (fun j => a (10 + 6 * j + 4)) ^^^ 2 ^ jj)) k = di k := fun k hk => by
        rw [w_84 (by decide) hk, w_84 (by decide) hk, w_84 (by decide) hk, w_84 (by decide) hk, w_84u (by decide) hk, w_84u (by decide) hk, w_84u (by decide) hk]
      have aN : ∀ i, 10 ≤ i → i < 46 → ¬ i = 10 + 6 * jj + 4 → a' i = a i := fun i h1 h2 h3 => by
        rw [j5 _ (by omega), q_upN _ _ h3]; exact bE i h1 h2
      have aS : a' (10 + 6 * jj + 4) = if x2 = 0 then 0 else 1 := by rw [j5 _ (by omega), q_upE]
      have hv01 : (if x2 = 0 then (0 : Int32) else 1) = 0 ∨ (if x2 = 0 then (0 : Int32) else 1) = 1 := by
        by_cases z : x2 = 0
        · rw [if_pos z]; exact Or.inl rfl
        · rw [if_neg z]; exact Or.inr rfl
      have hsb' : q_sb (nI (q_ms (fun j => a (10 + 6 * j + 4)) ^^^ 2 ^ jj)) (fun j => a' (10 + 6 * j + 4)) := by
        refine ⟨congrArg nI ?_, fun i hi => ?_⟩
        · refine q_ext (k := 6) (Nat.xor_lt_two_pow hml (q_plt (by omega))) (q_msL _) (fun i hi => ?_)
          rw [Nat.testBit_xor, Nat.testBit_two_pow, q_msT, q_msT]
          by_cases e : i = jj
          · subst e
            rw [decide_eq_true (show i = i from rfl), aS]
            rcases hsb.2 i hi with q | q
            · have q' : a (10 + 6 * i + 4) = 0 := q
              rw [q'] at v3 ⊢
              rw [hv01.resolve_left (fun z => v3 z.symm)]
              rw [decide_eq_false (show ¬ (i < 6 ∧ (0 : Int32) = 1) from fun z => absurd z.2 (by decide)), decide_eq_true (show i < 6 ∧ (1 : Int32) = 1 from ⟨hi, rfl⟩)]
              rfl
            · have q' : a (10 + 6 * i + 4) = 1 := q
              rw [q'] at v3 ⊢
              rw [hv01.resolve_right (fun z => v3 z.symm)]
              rw [decide_eq_false (show ¬ (i < 6 ∧ (0 : Int32) = 1) from fun z => absurd z.2 (by decide)), decide_eq_true (show i < 6 ∧ (1 : Int32) = 1 from ⟨hi, rfl⟩)]
              rfl
          · rw [decide_eq_false (show ¬ jj = i by omega), Bool.xor_false, aN _ (by omega) (by omega) (by omega)]
        · show a' (10 + 6 * i + 4) = 0 ∨ a' (10 + 6 * i + 4) = 1
          by_cases e : i = jj
          · subst e; rw [aS]; exact hv01
          · rw [aN _ (by omega) (by omega) (by omega)]; exact hsb.2 i hi
      obtain ⟨S', hRH⟩ := w_after (n := n) (ln := ln) (dr := dr) (tx := tx) (P := P) (L := L) (T := T) (K := K) (a' := a') (h11 := nI (q_ms (fun j => a (10 + 6 * j + 4)) ^^^ 2 ^ jj)) (x := x2) (st' := di 11) (j := jj) b1 hCE ho o4 q5 q6 s3 (fun i h1 h2 => by rw [j5 i h1, q_upN _ _ (by omega)]) (fun i hi => ⟨aN _ (by omega) (by omega) (by omega), aN _ (by omega) (by omega) (by omega), aN _ (by omega) (by omega) (by omega), aN _ (by omega) (by omega) (by omega)⟩) (fun i hi => by
          rw [aN _ (by omega) (by omega) (by omega)]; exact (b1.2.2.2.2.2.1 i hi).2.2.2.1) hsb' (by
          have ip := b1.2.1.2
          refine ⟨fun i hi => ?_, fun i h1 h2 => ?_, fun i i' hi hi' hne he => ?_⟩
          · show a' (10 + 6 * i + 3) = -1 ∨ ∃ s, s < 16 ∧ a' (10 + 6 * i + 3) = nI s
            rw [aN _ (by omega) (by omega) (by omega)]; exact ip.1 i hi
          · show a' (10 + 6 * i + 3) = -1 ∧ a' (10 + 6 * i + 3 + 1) = 0 ∧ a' (10 + 6 * i + 3 + 2) = 0
            rw [aN _ (by omega) (by omega) (by omega), aN _ (by omega) (by omega) (by omega), aN _ (by omega) (by omega) (by omega)]; exact ip.2.1 i h1 h2
          · have he' : a' (10 + 6 * i + 3) = a' (10 + 6 * i' + 3) := he
            show a' (10 + 6 * i + 3) = -1
            rw [aN _ (by omega) (by omega) (by omega), aN _ (by omega) (by omega) (by omega)] at he'
            rw [aN _ (by omega) (by omega) (by omega)]
            exact ip.2.2 i i' hi hi' hne he') hdD
      refine ⟨⟨S', hRH⟩, ?_⟩
      exact q_CE_cg (a' := a') hCE (Nat.le_refl _) (Nat.le_refl _) (by rw [j5 5 (by omega), q_upN _ _ (by omega)]; exact kk1 5 (by omega) (by omega)) (fun i hi => ⟨aN _ (by omega) (by omega) (by omega), aN _ (by omega) (by omega) (by omega)⟩) (fun l hl => by
          have hL := b1.1.2.1
          refine ⟨?_, ?_⟩
          · rw [j5 _ (by omega), q_upN _ _ (by omega)]; exact kk1 _ (by omega) (by omega)
          · rw [j5 _ (by omega), q_upN _ _ (by omega)]; exact kk1 _ (by omega) (by omega))
  refine g66_0 hg (c_isTold hg ?_)
  rcases Classical.em (∃ j, j < P ∧ x1 = nI j) with hj | hj
  · obtain ⟨j, hj, hx⟩ := hj
    have y : ¬ q_b ((0 : Int32) ≤ x1 ∧ x1 < di 7 10 ∧ x1 < 6) = 0 := q_bp.mpr (by rw [h10]; exact (w_told hP).mpr ⟨j, hj, hx⟩)
    have un : ∀ v : Int32, a (10 + 6 * j + 4) = v → (if x2 = 0 then (0 : Int32) else 1) = v → ¬ w_hOK a P x1 x2 := fun v h1 h2 ⟨jj, z1, z2, z3⟩ => by
      rw [hx] at z2
      have : j = jj := (nI_eq (by omega) (by omega)).mp z2
      subst this
      exact z3 (h1.trans h2.symm)
    refine g66_5 hg (fun z => absurd z y) (fun _ w1 w2 => fin j hj hx ⟨j, hj, hx, ?_⟩) (fun _ w1 w2 => k0 ?_) (fun _ w1 w2 => fin j hj hx ⟨j, hj, hx, ?_⟩) (fun _ w1 w2 => k0 ?_)
    · rw [hx, bitE j (by omega)] at w2; rw [if_pos w1]; exact w2
    · rw [hx, bitE j (by omega)] at w2; exact un 0 w2 (if_pos w1)
    · rw [hx, bitE j (by omega)] at w2; rw [if_neg w1]; exact w2
    · rw [hx, bitE j (by omega)] at w2; exact un 1 w2 (if_neg w1)
  · have y : q_b ((0 : Int32) ≤ x1 ∧ x1 < di 7 10 ∧ x1 < 6) = 0 := q_bn.mpr (by rw [h10]; exact fun z => hj ((w_told hP).mp z))
    have kk : Q (some (.int 0)) (n, sl, ln, di, dl, dr) := k0 (fun ⟨j, z1, z2, _⟩ => hj ⟨j, z1, z2⟩)
    exact g66_5 hg (fun _ => kk) (fun z => absurd y z) (fun z => absurd y z) (fun z => absurd y z) (fun z => absurd y z)
/-- the model's seat -/
theorem m_seat {S : Nat} {x1 x2 : Int32} (hP : P ≤ 6) (hS : S ≤ 30) (h0 : di 68 0 = nI P) (h6 : di 68 6 = nI S) (hg : q_Gr n ln dr)
    (k1 : w_sOK (di 68) P x1 x2 → ∀ a', w_seat (di 68) P x1 x2 a' → Q (some (.int 1)) (n, sl, ln, va_up di 68 a', dl, dr))
    (k0 : ¬ w_sOK (di 68) P x1 x2 → Q (some (.int 0)) (n, sl, ln, di, dl, dr)) : q_EX q_KD (d + 2) 178 0 [.ref 67, .int x1, .int x2] [] (n, sl, ln, di, dl, dr) Q := by
  have fin : ∀ j, j < P → x1 = nI j → w_sOK (di 68) P x1 x2 → q_EX q_KD (d + 1) 180 0 [.ref 67, .retAddr 0, .retAddr 0, .retAddr 0] [] (n, sl, ln, di, dl, dr) (fun r1 h1 => q_EX q_KD (d + 2) 178 46 [.ref 67, .int x1, .int x2] (r1.toList ++ []) h1 Q) := by
    intro j hj hx hok
    refine c_keepM (d := d) hS h6 hg (fun b hb => g178_46 hg ?_)
    rw [hx]
    refine c_set j 3 hg (by omega) (g178_53 hg ?_)
    have eh : q_u (va_up di 68 b) 68 (10 + 6 * j + 3) x2 = va_up di 68 (va_up b (10 + 6 * j + 3) x2) := by
      show va_up (va_up di 68 b) 68 (va_up (va_up di 68 b 68) (10 + 6 * j + 3) x2) = _
      rw [q_upup, q_upE]
    rw [eh]
    exact k1 hok _ ⟨S, b, hS, h6, hb, j, hj, hx, fun _ _ => rfl⟩
  refine g178_0 hg (c_isPerson (d := d) hg ?_)
  rcases Classical.em (∃ j, j < P ∧ x1 = nI j) with hj | hj
  · obtain ⟨j, hj, hx⟩ := hj
    have y : ¬ q_b ((0 : Int32) ≤ x1 ∧ x1 ≤ di 68 0 - 1) = 0 := q_bp.mpr (by rw [h0]; exact (w_told2 (by omega)).mpr ⟨j, hj, hx⟩)
    have same : ∀ jj, x1 = nI jj → jj < P → jj = j := fun jj z1 z2 => by
      rw [hx] at z1
      exact ((nI_eq (by omega) (by omega)).mp z1).symm
    refine g178_5 hg (fun z => absurd z y) (fun _ => c_isIn hg (g178_15 hg (fun z => k0 ?_) (fun z => ?_)))
    · rintro ⟨jj, _, _, z1, z2, _⟩; exact q_bn.mp z ⟨z1, z2⟩
    · obtain ⟨z1, z2⟩ := q_bp.mp z
      have hget : q_EX q_KD (d + 1) 161 0 [.ref 67, .int x1, .int 3] [] (n, sl, ln, di, dl, dr) (fun r1 h1 => q_EX q_KD (d + 1 + 1) 178 24 [.ref 67, .int x1, .int x2] (r1.toList ++ []) h1 Q) := by
        rw [hx]
        refine c_get j 3 hg (by omega) ?_
        rw [← hx]
        refine g178_24 hg (fun w => k0 ?_) (fun w1 w2 => fin j hj hx ⟨j, hj, hx, z1, z2, w1, Or.inl ?_⟩) (fun w1 w2 => c_onM (d := d) P hP h0 hg (g178_37 hg (fun w3 => fin j hj hx ⟨j, hj, hx, z1, z2, w1, Or.inr (fun i hi => ?_)⟩) (fun w3 => k0 ?_)))
        · rintro ⟨jj, v1, v2, _, _, v3, _⟩
          have := same jj v2 v1
          subst this
          exact v3 w
        · rw [fa_le, q_tm1] at z1
          rw [fa_lt, q_t0] at w2
          rw [fa_eq, q_tm1]; omega
        · exact ((w_on_none (seat := fun j => di 68 (10 + 6 * j + 3)) (x := x2) P 0 (by omega)).1.mp w3) i (by omega) (by omega)
        · rintro ⟨jj, v1, v2, _, _, _, v4⟩
          rcases v4 with v4 | v4
          · rw [v4] at w2; exact absurd w2 (by decide)
          · exact q_lt0.mp ((w_on_none (seat := fun j => di 68 (10 + 6 * j + 3)) (x := x2) P 0 (by omega)).1.mpr (fun i _ hi => v4 i (by omega))) w3
      exact hget
  · have y : q_b ((0 : Int32) ≤ x1 ∧ x1 ≤ di 68 0 - 1) = 0 := q_bn.mpr (by rw [h0]; exact fun z => hj ((w_told2 (by omega)).mp z))
    exact g178_5 hg (fun _ => k0 (fun ⟨j, z1, z2, _⟩ => hj ⟨j, z1, z2⟩)) (fun z => absurd y z)
/-- the model's hire -/
theorem m_hire {S : Nat} {x1 x2 : Int32} (hP : P ≤ 6) (hS : S ≤ 30) (h0 : di 68 0 = nI P) (h6 : di 68 6 = nI S) (hg : q_Gr n ln dr)
    (k1 : w_hOK (di 68) P x1 x2 → ∀ a', w_hire (di 68) P x1 x2 a' → Q (some (.int 1)) (n, sl, ln, va_up di 68 a', dl, dr))
    (k0 : ¬ w_hOK (di 68) P x1 x2 → Q (some (.int 0)) (n, sl, ln, di, dl, dr)) : q_EX q_KD (d + 2) 181 0 [.ref 67, .int x1, .int x2] [] (n, sl, ln, di, dl, dr) Q := by
  have fin : ∀ j, j < P → x1 = nI j → w_hOK (di 68) P x1 x2 → q_EX q_KD (d + 1) 180 0 [.ref 67, .retAddr 0, .retAddr 0, .retAddr 0] [] (n, sl, ln, di, dl, dr) (fun r1 h1 => q_EX q_KD (d + 1 + 1) 181 32 [.ref 67, .int x1, .int x2] (r1.toList ++ []) h1 Q) := by
    intro j hj hx hok
    refine c_keepM (d := d) hS h6 hg (fun b hb => ?_)
    have eh : ∀ v, q_u (va_up di 68 b) 68 (10 + 6 * j + 4) v = va_up di 68 (va_up b (10 + 6 * j + 4) v) := fun v => by
      show va_up (va_up di 68 b) 68 (va_up (va_up di 68 b 68) (10 + 6 * j + 4) v) = _
      rw [q_upup, q_upE]
    refine g181_32 hg (fun w => ?_) (fun w => ?_)
    · rw [hx]
      refine c_set j 4 hg (by omega) (g181_47 hg ?_)
      rw [eh]
      exact k1 hok _ ⟨S, b, hS, h6, hb, j, hj, hx, fun _ _ => by rw [if_pos w]⟩
    · rw [hx]
      refine c_set j 4 hg (by omega) (g181_47 hg ?_)
      rw [eh]
      exact k1 hok _ ⟨S, b, hS, h6, hb, j, hj, hx, fun _ _ => by rw [if_neg w]⟩
  refine g181_0 hg (c_isPerson (d := d) hg ?_)
  rcases Classical.em (∃ j, j < P ∧ x1 = nI j) with hj | hj
  · obtain ⟨j, hj, hx⟩ := hj
    have y : ¬ q_b ((0 : Int32) ≤ x1 ∧ x1 ≤ di 68 0 - 1) = 0 := q_bp.mpr (by rw [h0]; exact (w_told2 (by omega)).mpr ⟨j, hj, hx⟩)
    have un : ∀ v : Int32, di 68 (10 + 6 * j + 4) = v → (if x2 = 0 then (0 : Int32) else 1) = v → ¬ w_hOK (di 68) P x1 x2 := fun v h1 h2 ⟨jj, z1, z2, z3⟩ => by
      rw [hx] at z2
      have : j = jj := (nI_eq (by omega) (by omega)).mp z2
      subst this
      exact z3 (h1.trans h2.symm)
    have hget : q_EX q_KD (d + 1) 161 0 [.ref 67, .int x1, .int 4] [] (n, sl, ln, di, dl, dr) (fun r1 h1 => q_EX q_KD (d + 1 + 1) 181 14 [.ref 67, .int x1, .int x2] (r1.toList ++ []) h1 Q) := by
      rw [hx]
      refine c_get j 4 hg (by omega) ?_
      rw [← hx]
      refine g181_14 hg (fun w1 w2 => fin j hj hx ⟨j, hj, hx, ?_⟩) (fun w1 w2 => k0 (un 0 w2 (if_pos w1))) (fun w1 w2 => fin j hj hx ⟨j, hj, hx, ?_⟩) (fun w1 w2 => k0 (un 1 w2 (if_neg w1)))
      · rw [if_pos w1]; exact w2
      · rw [if_neg w1]; exact w2
    exact g181_5 hg (fun z => absurd z y) (fun _ => hget)
  · have y : q_b ((0 : Int32) ≤ x1 ∧ x1 ≤ di 68 0 - 1) = 0 := q_bn.mpr (by rw [h0]; exact fun z => hj ((w_told2 (by omega)).mp z))
    exact g181_5 hg (fun _ => k0 (fun ⟨j, z1, z2, _⟩ => hj ⟨j, z1, z2⟩)) (fun z => absurd y z)
/-- R from the class's side against the model's new row -/
theorem w_join {a' : Nat → Int32} {D : Nat → Nat → Int32} {P' L' T' S' K' : Nat} (h : q_RR c n sl ln di dr) (hD : ∀ k, w_Z k = false → ¬ k = 60 → ¬ k = 61 → D k = di k) (h60 : D 60 9 = 0) (h61 : ∀ m, m < 64 → D 61 m = -1) (b2 : q_RH n ln di (di 23) (di 24) (di 25) (di 26) (di 27) (di 28) (di 29) (di 30) (di 31) (di 33) (di 34) (di 35) (di 36) (di 37) (di 38) (dr 32) (di 69) (di 70) P' L' T' S' K') (hT : T' ≤ T) (hc : w_CX n ln D dr a' (di 70) P L T K) : q_RR (c + 1) n sl ln (va_up D 68 a') dr := by
  obtain ⟨a1, a2, a3, a4, a5, a6, _⟩ := h
  obtain ⟨⟨S, b1⟩, hCE⟩ := hc
  have hd : ∀ k, 84 ≤ k → D k = di k := fun k hk => hD k (by
    cases hz : w_Z k with
    | false => rfl
    | true =>
      have h' : (Nat.beq k 7 || Nat.beq k 11 || Nat.beq k 12 || (Nat.ble 17 k && Nat.ble k 22) || (Nat.ble 51 k && Nat.ble k 59)) = true := hz
      simp only [Bool.or_eq_true, Bool.and_eq_true, Nat.beq_eq, Nat.ble_eq] at h'
      omega) (by omega) (by omega)
  have hd2 : ∀ k, 84 ≤ k → va_up D 68 a' k = di k := fun k hk => by rw [w_84u (by decide) hk]; exact hd k hk
  have e : ∀ k, ¬ k = 68 → w_Z k = false → ¬ k = 60 → ¬ k = 61 → va_up D 68 a' k = di k := fun k h1 h2 h3 h4 => by rw [q_upN _ _ h1]; exact hD k h2 h3 h4
  refine w_RR_up ⟨a1, a2, a3, ?_, ?_, ?_, P, L, T, S, K, P', L', T', S', K', ?_, ?_, hT, ?_, ?_⟩
  · unfold q_Cn at *
    rw [e 1 (by decide) rfl (by decide) (by decide), e 2 (by decide) rfl (by decide) (by decide), e 3 (by decide) rfl (by decide) (by decide), e 5 (by decide) rfl (by decide) (by decide)]
    exact a4
  · unfold q_Tp at *
    rw [e 40 (by decide) rfl (by decide) (by decide), e 41 (by decide) rfl (by decide) (by decide), e 67 (by decide) rfl (by decide) (by decide), e 71 (by decide) rfl (by decide) (by decide)]
    exact a5
  · unfold q_Ft at *
    rw [e 39 (by decide) rfl (by decide) (by decide), e 67 (by decide) rfl (by decide) (by decide)]
    exact a6
  · have e70 : va_up D 68 a' 70 = di 70 := e 70 (by decide) rfl (by decide) (by decide)
    rw [e70]
    exact w_RHd b1 (fun k hk => w_84u (by decide) hk)
  · rw [e 23 (by decide) rfl (by decide) (by decide), e 24 (by decide) rfl (by decide) (by decide), e 25 (by decide) rfl (by decide) (by decide), e 26 (by decide) rfl (by decide) (by decide), e 27 (by decide) rfl (by decide) (by decide), e 28 (by decide) rfl (by decide) (by decide), e 29 (by decide) rfl (by decide) (by decide), e 30 (by decide) rfl (by decide) (by decide), e 31 (by decide) rfl (by decide) (by decide), e 33 (by decide) rfl (by decide) (by decide), e 34 (by decide) rfl (by decide) (by decide), e 35 (by decide) rfl (by decide) (by decide), e 36 (by decide) rfl (by decide) (by decide), e 37 (by decide) rfl (by decide) (by decide), e 38 (by decide) rfl (by decide) (by decide), e 69 (by decide) rfl (by decide) (by decide), e 70 (by decide) rfl (by decide) (by decide)]
    exact w_RHd b2 hd2
  · rw [e 70 (by decide) rfl (by decide) (by decide)]
    exact hCE
  · exact w_CR_0 h61 h60
end
