theorem w_shr_le {M : Nat} : ∀ (f f' : Nat) (row : Nat → Int32), f ≤ f' → w_shr M f row → w_shr M f' row := by
  intro f
  induction f with
  | zero => intro f' row _ h; exact h.elim
  | succ f ih =>
    intro f' row hf h
    obtain ⟨g, rfl⟩ : ∃ g, f' = g + 1 := ⟨f' - 1, by omega⟩
    unfold w_shr at h ⊢
    cases hn : q_nx M row with
    | none => exact True.intro
    | some r =>
      rw [hn] at h
      exact ih g r (by omega) h
theorem w_qs_b {a tx tk : Nat → Int32} {L M m f : Nat} {pl row best best' : Nat → Int32} {least : Int32} (h : q_al a tx (w_pua row tk M 0 pl) m L < least) : q_qs a tx tk L M m (f + 1) pl row least best = q_qs a tx tk L M m (f + 1) pl row least best' := by
  have ep : q_it (fun k pl => va_up pl (row k).toNatClampNeg (tk k)) M 0 pl = w_pua row tk M 0 pl := rfl
  rw [q_qs, q_qs]
  simp only [ep, if_pos h]
section
variable {c d n sl : Nat} {ln : Nat → Nat} {di : Nat → Nat → Int32} {dl : Nat → Nat → Int64} {dr : Nat → Nat → Option Nat} {Q : Option Value → q_H → Prop} {a tx : Nat → Int32} {P L M : Nat}
set_option maxHeartbeats 1000000 in
/-- the model's quietest, whole -/
theorem c_quM {x1 : Int32} (hx : (-1 : Int32) ≤ x1 ∧ x1 ≤ 15) (hF : w_MF di a tx P L) (hv : ∀ j, j < 6 → q_pl a j = -1 ∨ ∃ s, s < 16 ∧ q_pl a j = nI s) (hun : ∀ j, P ≤ j → j < 6 → q_pl a j = -1) (hd : ∀ i j, i < 6 → j < 6 → i ≠ j → q_pl a i = q_pl a j → q_pl a i = -1) (hg : q_Gr n ln dr)
    (k : ∀ D' dl', w_M di D' → Q (some (.int (if x1 = -1 then (q_qu a tx P L).1 else q_fs (q_tk (q_pl a) P).2 (q_qu a tx P L).2 x1 (q_tk (q_pl a) P).1 0))) (n, sl, ln, D', dl', dr)) :
    q_EX q_KD (d + 8) 195 0 [.ref 67, .int x1, .retAddr 0, .retAddr 0, .retAddr 0, .retAddr 0] [] (n, sl, ln, di, dl, dr) Q := by
  have hP := hF.2.2.1
  have hL := hF.2.2.2.1
  obtain ⟨m1, m2⟩ := w_MM hP hv hun hd
  have hRl : w_lz1 (fun j => decide (¬ q_pl a j = -1)) P (q_ro (q_pl a) P) := w_ls1_q (by omega) (w_ro_pu (fun j hj => hv j (by omega)))
  have hKl : w_lz1 (fun s => decide (¬ q_on (q_pl a) (nI s) 6 0 = -1)) 16 (q_tk (q_pl a) P) := w_ls1_q (by decide) (w_tk_pu hP hun)
  refine g195_0 hg (c_isIn hg (g195_7 hg (fun _ => ?_) (fun w => absurd w (q_bp.mpr hx))))
  refine c_seatA (d := d + 4) hF hg (fun D hM1 hN => g195_17 hg ?_)
  have hF1 := w_MF_M hF hM1
  have e68 : D 68 = a := hF1.1
  refine c_firstM (d := d + 5) (P := P) (seat := q_pl a) (di := D) hP (by rw [e68]; exact hF.2.2.2.2.1) (by rw [e68]; rfl) hv hun hd hg (fun r80 r81 h81 h80 => g195_21 hg ?_)
  unfold q_qu at k
  obtain ⟨R, hR⟩ : ∃ R, R = q_ro (q_pl a) P := ⟨_, rfl⟩
  obtain ⟨K, hK⟩ : ∃ K, K = q_tk (q_pl a) P := ⟨_, rfl⟩
  rw [← hR, ← hK] at m1
  rw [← hR] at m2 h81 hRl k
  rw [← hK] at h80 hKl k ⊢
  obtain ⟨M, hMd⟩ : ∃ M, M = K.1 := ⟨_, rfl⟩
  rw [← hMd] at h80 k m1 ⊢
  rw [← m1] at h81 m2
  have hM6 : M ≤ 6 := by omega
  have hRl' : w_lz1 (fun j => decide (¬ q_pl a j = -1)) P (M, r81) := by
    have := w_ls1_cg hRl (r := r81) (fun i hi => h81 i (by rw [m1]; exact hi))
    rwa [← m1] at this
  have hgr : w_gr M (q_pl a) r81 := w_ls1_gr (q := (M, r81)) hP hun hRl'
  have hsh0 : w_shr M ([1, 1, 2, 6, 24, 120, 720].getD M 0) r81 := w_ls1_pm (q := (M, r81)) hP hRl' hM6
  have hsh : w_shr M (719 + 1) r81 := w_shr_le _ _ r81 (w_or6 M hM6).2.2 hsh0
  have hgt : w_gt M r80 := by
    have := w_ls1_gt (q := K) (Nat.le_refl 16) hKl
    rw [← hMd] at this
    exact w_gt_cg this h80
  obtain ⟨E, hE⟩ : ∃ E, E = va_up (va_up (va_up D 80 r80) 67 (va_up (D 67) 35 (nI M))) 81 r81 := ⟨_, rfl⟩
  rw [← hE]
  have hM2 : w_M di E := by
    refine w_M_tr hM1 ?_
    rw [hE]
    refine w_M_tr (w_M_tr (w_M_up (k := 80) (f := r80) rfl (by decide)) ?_) (w_M_up (k := 81) rfl (by decide))
    exact w_M_67 (di := va_up D 80 r80) (j := 35) (v := nI M) (by decide)
  have E26 : E 67 26 = nI (q_sm a) := by
    have e : E 67 26 = D 67 26 := by rw [hE]; rfl
    rw [e]; exact hN.1
  have E35 : E 67 35 = nI M := by rw [hE]; rfl
  have E80 : E 80 = r80 := by rw [hE]; rfl
  have E81 : E 81 = r81 := by rw [hE]; exact q_upE _ _ _
  have E76 : E 76 = D 76 := by rw [hE]; rfl
  refine c_qM27 (d := d) (x1 := x1) (r80 := r80) (di := di) hM6 hgt hF hv hun hg (719 + 1) E dl r81 (E 82) 1000000 hsh hM2 E26 E35 E80 E81 hgr (fun p hp hs => ?_) (fun _ _ => rfl) (fun D' dl' v hM' hv2 => ?_)
  · rw [E76, hN.2 p hp, hs]; decide
  · have hal : q_al a tx (w_pua r81 r80 M 0 (E 76)) (q_an 63 (q_sm a)) L < 1000000 := by
      obtain ⟨T, _, t2, t3⟩ := w_alb a tx (w_pua r81 r80 M 0 (E 76)) (q_an 63 (q_sm a)) L 0 0
      rw [show q_al a tx (w_pua r81 r80 M 0 (E 76)) (q_an 63 (q_sm a)) L = nI T from t3, show (1000000 : Int32) = nI 1000000 from rfl, nI_ltI (by omega) (by omega)]
      omega
    rw [w_qs_b (best' := fun _ => 0) hal] at hv2
    have e2 := w_qs_cg (a := a) (tx := tx) (L := L) (m := q_an 63 (q_sm a)) (seat := q_pl a) (tk := K.2) (tk' := r80) h80 (719 + 1) (q_pl a) (E 76) R.2 r81 1000000 (fun _ => 0) (fun _ => 0) (fun j hj => by rw [E76]; exact hN.2 j hj) h81 (fun _ _ => rfl)
    have e3 : q_fs r80 (q_qs a tx r80 L M (q_an 63 (q_sm a)) (719 + 1) (E 76) r81 1000000 (fun _ => 0)).2 x1 M 0 = q_fs K.2 (q_qs a tx K.2 L M (q_an 63 (q_sm a)) (719 + 1) (q_pl a) R.2 1000000 (fun _ => 0)).2 x1 M 0 := w_fs_cg M 0 (fun i _ hi => ⟨h80 i (by omega), e2.2 i (by omega)⟩)
    rw [e2.1, e3] at hv2
    rw [hv2]
    exact k D' dl' hM'
theorem o_quietest {x1 : Int32} (h : q_RR c n sl ln di dr) : o_op (d + 8) 95 195 [.ref 6, .int x1] [.ref 67, .int x1, .retAddr 0, .retAddr 0, .retAddr 0, .retAddr 0] c (n, sl, ln, di, dl, dr) := by
  have hR := h
  obtain ⟨hg, _, _, hCn, _, _, P, L, T, S, K, _, _, _, _, _, b1, _, _, b4, b5⟩ := hR
  have hH := w_RH_H h b1 b4 b5
  have hF := w_RH_MF b1
  have fin : ∀ D, (∀ k, w_TT k = false → D k = di k) → q_CE (D 54) (D 55) (D 56) (di 68) (di 70) P L → ¬ D 60 9 = 0 → D 60 10 = (q_qu (di 68) (di 70) P L).1 → (∀ s, s < 16 → D 66 s = q_fs (q_tk (q_pl (di 68)) P).2 (q_qu (di 68) (di 70) P L).2 (nI s) (q_tk (q_pl (di 68)) P).1 0) → ((-1 : Int32) ≤ x1 ∧ x1 ≤ 15) → q_EX q_KD (d + 8) 95 24 [.ref 6, .int x1] [] (n, sl, ln, D, dl, dr) (fun r h1 => ∃ v : Int32, r = some (.int v) ∧ q_EX q_KD (d + 8) 195 0 [.ref 67, .int x1, .retAddr 0, .retAddr 0, .retAddr 0, .retAddr 0] [] h1 (fun r2 h2 => r2 = some (.int v) ∧ w_R (c + 1) h2)) := by
    intro D f1 f2 f3 f4 f5 hx
    have eD : D = q_F w_TT di D := q_Fin f1
    have hFD : w_MF D (di 68) (di 70) P L := by
      obtain ⟨a1, a2, a3⟩ := hF
      exact ⟨f1 68 rfl, f1 70 rfl, a3⟩
    have mod : q_EX q_KD (d + 8) 195 0 [.ref 67, .int x1, .retAddr 0, .retAddr 0, .retAddr 0, .retAddr 0] [] (n, sl, ln, D, dl, dr) (fun r2 h2 => r2 = some (.int (if x1 = -1 then (q_qu (di 68) (di 70) P L).1 else q_fs (q_tk (q_pl (di 68)) P).2 (q_qu (di 68) (di 70) P L).2 x1 (q_tk (q_pl (di 68)) P).1 0)) ∧ w_R (c + 1) h2) := by
      refine c_quM (d := d) hx hFD hH.2.2.2.2.2.1 hH.2.2.2.2.2.2.1 hH.2.2.2.2.2.2.2.1 hg (fun D' dl' hM' => ⟨rfl, ?_⟩)
      refine w_end (S := w_TT) (e := D) h (fun k hk => w_TT_in hk) (by rw [← eD]; exact hM') (fun P2 L2 T2 S2 K2 bb _ q2 => ?_)
      obtain ⟨e1, e2⟩ := w_PL b1 bb
      subst e1 e2
      rw [← eD]
      refine ⟨f2, ?_, fun _ => ⟨f4, f5⟩⟩
      rw [f1 61 rfl]
      exact q2.1
    refine g95_24 hg (fun w => ?_) (fun w => ?_) (fun w => ?_)
    · obtain ⟨s, hs, e⟩ := nI_of2 (x := x1) (M := 15) (n := 15) rfl (q_not_lt (by
        have h1 := (fa_le _ _).mp hx.1
        rw [fa_le]
        rw [fa_eq] at w
        rw [show (-1 : Int32).toInt = -1 by decide] at h1 w
        show (0 : Int) ≤ x1.toInt
        omega)) hx.2
      rw [e]; exact vp_in_nI (by omega) (by decide)
    · obtain ⟨s, hs, e⟩ := nI_of2 (x := x1) (M := 15) (n := 15) rfl (q_not_lt (by
        have h1 := (fa_le _ _).mp hx.1
        rw [fa_le]
        rw [fa_eq] at w
        rw [show (-1 : Int32).toInt = -1 by decide] at h1 w
        show (0 : Int) ≤ x1.toInt
        omega)) hx.2
      rw [if_neg w] at mod
      refine ⟨_, rfl, ?_⟩
      have : D 66 x1.toNatClampNeg = q_fs (q_tk (q_pl (di 68)) P).2 (q_qu (di 68) (di 70) P L).2 x1 (q_tk (q_pl (di 68)) P).1 0 := by
        rw [e, nI_clamp (by omega)]
        exact f5 s (by omega)
      rw [this]
      exact mod
    · rw [if_pos w] at mod
      refine ⟨_, rfl, ?_⟩
      rw [f4]
      exact mod
  have arr : ((-1 : Int32) ≤ x1 ∧ x1 ≤ 15) → q_EX q_KD (d + 7) 96 0 [.ref 60, .retAddr 0, .retAddr 0, .retAddr 0, .retAddr 0] [] (n, sl, ln, di, dl, dr) (fun r1 h1 => q_EX q_KD (d + 8) 95 24 [.ref 6, .int x1] (r1.toList ++ []) h1 (fun r h1 => ∃ v : Int32, r = some (.int v) ∧ q_EX q_KD (d + 8) 195 0 [.ref 67, .int x1, .retAddr 0, .retAddr 0, .retAddr 0, .retAddr 0] [] h1 (fun r2 h2 => r2 = some (.int v) ∧ w_R (c + 1) h2))) := fun hx => by
    by_cases h9 : di 60 9 = 0
    · exact c_arr (d := d) hH hCn.2.1 h9 hg (fun D f1 f2 f3 f4 f5 => fin D f1 f2 f3 f4 f5 hx)
    · refine g96_0 hg (fun w => absurd w h9) (fun _ => ?_)
      exact fin di (fun _ _ => rfl) b4 h9 (b5.2 h9).1 (b5.2 h9).2 hx
  refine g95_0 hg (fun y => arr (by rw [y]; decide)) (fun y => c_within hg (g95_11 hg (fun w => arr ?_) (fun w => ?_)))
  · have w' := q_bp.mp w
    refine ⟨?_, w'.2⟩
    have := (fa_le _ _).mp w'.1
    rw [show (0 : Int32).toInt = 0 by decide] at this
    rw [fa_le, show (-1 : Int32).toInt = -1 by decide]
    omega
  · have w' := q_bn.mp w
    refine ⟨-2, rfl, g195_0 hg (c_isIn hg (g195_7 hg (fun w2 => absurd (q_bp.mp w2) (fun z => w' ⟨?_, z.2⟩)) (fun _ => ⟨rfl, w_RR_up h⟩)))⟩
    have h1 := (fa_le _ _).mp z.1
    rw [fa_eq] at y
    rw [show (-1 : Int32).toInt = -1 by decide] at h1 y
    rw [fa_le, show (0 : Int32).toInt = 0 by decide]
    omega
end
