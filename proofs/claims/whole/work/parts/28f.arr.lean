theorem w_ro_cg2 {seat seat' : Nat → Int32} {P : Nat} (h : ∀ j, j < P → seat' j = seat j) : q_ro seat' P = q_ro seat P := q_itC P 0 _ (fun i x _ h2 => by rw [h i (by omega)])
theorem w_tk_cg2 {seat seat' : Nat → Int32} {P : Nat} (h : ∀ j, j < P → seat' j = seat j) : q_tk seat' P = q_tk seat P := by
  unfold q_tk
  have e : ∀ s, q_on seat' (nI s) P 0 = q_on seat (nI s) P 0 := fun s => q_on_cg P 0 (fun i _ hi => h i (by omega))
  simp only [e]
theorem w_ls1_cg {A : Nat → Bool} {j : Nat} {st : Nat × (Nat → Int32)} {r : Nat → Int32} (h : w_lz1 A j st) (e : ∀ i, i < st.1 → r i = st.2 i) : w_lz1 A j (st.1, r) := by
  obtain ⟨h1, h2, h3⟩ := h
  refine ⟨fun i hi => ?_, fun i k p q hik hk hp hq ei ek => ?_, fun p hp hA => ?_⟩
  · have hi' : i < st.1 := hi
    obtain ⟨p, p1, p2, p3⟩ := h1 i hi'
    exact ⟨p, p1, (e i hi').trans p2, p3⟩
  · have hk' : k < st.1 := hk
    exact h2 i k p q hik hk' hp hq ((e i (by omega)).symm.trans ei) ((e k hk').symm.trans ek)
  · obtain ⟨i, i1, i2⟩ := h3 p hp hA
    exact ⟨i, i1, (e i i1).trans i2⟩
theorem w_or6 : ∀ M, M ≤ 6 → q_ord.getD M 0 = nI ([1, 1, 2, 6, 24, 120, 720].getD M 0) ∧ 1 ≤ [1, 1, 2, 6, 24, 120, 720].getD M 0 ∧ [1, 1, 2, 6, 24, 120, 720].getD M 0 ≤ 720 := by decide
/-- what the class finds is what is meant; N turns -/
theorem w_qcE {a tx r63 r64 seat : Nat → Int32} {P L M N m : Nat} {R K : Nat × (Nat → Int32)} (hM6 : M ≤ 6) (hr : w_gr M seat r64) (hsh : w_shr M ([1, 1, 2, 6, 24, 120, 720].getD M 0) r64) (ht : w_gt M r63) (h64 : ∀ i, i < M → r64 i = R.2 i) (h63 : ∀ i, i < M → r63 i = K.2 i)
    (hN : N = [1, 1, 2, 6, 24, 120, 720].getD M 0 ∨ (N = 1 ∧ ∀ l j r r' u u' v, q_la a tx l j r u v = q_la a tx l j r' u' v)) : (w_qc a tx r63 L M m N seat r64 1000000 (fun _ => 0)).1 = (q_qs a tx K.2 L M m 720 seat R.2 1000000 (fun _ => 0)).1 ∧ ∀ x, q_fs r63 (w_qc a tx r63 L M m N seat r64 1000000 (fun _ => 0)).2 x M 0 = q_fs K.2 (q_qs a tx K.2 L M m 720 seat R.2 1000000 (fun _ => 0)).2 x M 0 := by
  have e1 : w_qc a tx r63 L M m N seat r64 1000000 (fun _ => 0) = q_qs a tx r63 L M m 720 seat r64 1000000 (fun _ => 0) := by
    rw [w_qs_qc _ 720 seat r64 1000000 (fun _ => 0) (w_or6 M hM6).2.2 hr hsh]
    rcases hN with h | ⟨h, hi⟩
    · rw [h]
    · rw [h]
      exact (w_qc_1 ht hi _ seat r64 1000000 (fun _ => 0) hr (w_or6 M hM6).2.1).symm
  have e2 := w_qs_cg (a := a) (tx := tx) (L := L) (m := m) (seat := seat) (tk := K.2) (tk' := r63) h63 720 seat seat R.2 r64 1000000 (fun _ => 0) (fun _ => 0) (fun _ _ => rfl) h64 (fun _ _ => rfl)
  rw [e1]
  exact ⟨e2.1, fun x => w_fs_cg M 0 (fun i _ hi => ⟨h63 i (by omega), e2.2 i (by omega)⟩)⟩
section
variable {c d n sl : Nat} {ln : Nat → Nat} {di : Nat → Nat → Int32} {dl : Nat → Nat → Int64} {dr : Nat → Nat → Option Nat} {Q : Option Value → q_H → Prop} {a tx : Nat → Int32} {P L M : Nat}
set_option maxHeartbeats 1000000 in
theorem c_arr (hH : w_H n ln di dr a tx P L) (h2 : ∀ i, i < 7 → di 2 i = q_ord.getD i 0) (h9 : di 60 9 = 0) (hg : q_Gr n ln dr)
    (k : ∀ D, (∀ k, w_TT k = false → D k = di k) → q_CE (D 54) (D 55) (D 56) a tx P L → ¬ D 60 9 = 0 → D 60 10 = (q_qu a tx P L).1 → (∀ s, s < 16 → D 66 s = q_fs (q_tk (q_pl a) P).2 (q_qu a tx P L).2 (nI s) (q_tk (q_pl a) P).1 0) → Q none (n, sl, ln, D, dl, dr)) :
    q_EX q_KD (d + 7) 96 0 [.ref 60, .retAddr 0, .retAddr 0, .retAddr 0, .retAddr 0] [] (n, sl, ln, di, dl, dr) Q := by
  have hH' := hH
  obtain ⟨hW, hCE, hpl, hst, h10, hv, hun, hd, _⟩ := hH'
  have hP := hW.2.1
  obtain ⟨m1, m2⟩ := w_MM hP hv hun hd
  have eR : q_ro (di 11) P = q_ro (q_pl a) P := w_ro_cg2 (fun j hj => hpl j (by omega))
  have eK : q_tk (di 11) P = q_tk (q_pl a) P := w_tk_cg2 (fun j hj => hpl j (by omega))
  have hRl : w_lz1 (fun j => decide (¬ q_pl a j = -1)) P (q_ro (q_pl a) P) := w_ls1_q (by omega) (w_ro_pu (fun j hj => hv j (by omega)))
  have hKl : w_lz1 (fun s => decide (¬ q_on (q_pl a) (nI s) 6 0 = -1)) 16 (q_tk (q_pl a) P) := w_ls1_q (by decide) (w_tk_pu hP hun)
  obtain ⟨E, hE⟩ : ∃ E, E = q_u di 60 9 1 := ⟨_, rfl⟩
  have Eo : ∀ x, ¬ x = 60 → E x = di x := fun x hx => by rw [hE]; exact q_uR hx
  have E11 : E 11 = di 11 := Eo 11 (by decide)
  have E9 : E 60 9 = 1 := by rw [hE]; exact q_uE _ _ _ _
  unfold q_qu at k
  refine g96_0 hg (fun _ => ?_) (fun w => absurd h9 w)
  rw [← hE]
  refine c_startX (d := d + 4) (di := E) (P := P) hP (by rw [Eo 7 (by decide)]; exact h10) (fun j hj => by rw [E11, hpl j hj]; exact hv j hj) (fun j h1 h2 => by rw [E11, hpl j h2]; exact hun j h1 h2) (fun i j hi hj hij e => by
    rw [E11, hpl i hi, hpl j hj] at e
    rw [E11, hpl i hi]; exact hd i j hi hj hij e) hg (fun r63 r64 h64 h63 => ?_)
  rw [E11, eR] at h64 ⊢
  rw [E11, eK] at h63
  obtain ⟨R, hR⟩ : ∃ R, R = q_ro (q_pl a) P := ⟨_, rfl⟩
  obtain ⟨K, hK⟩ : ∃ K, K = q_tk (q_pl a) P := ⟨_, rfl⟩
  rw [← hR, ← hK] at m1
  rw [← hR] at m2 h64 hRl ⊢
  rw [← hK] at h63 k hKl
  rw [← hR] at k
  obtain ⟨M, hMd⟩ : ∃ M, M = R.1 := ⟨_, rfl⟩
  have hKM : K.1 = M := by rw [m1, hMd]
  rw [hKM] at k h63
  rw [← hMd] at h64 m2 ⊢
  have hM6 : M ≤ 6 := by omega
  have hRl' : w_lz1 (fun j => decide (¬ q_pl a j = -1)) P (M, r64) := by
    have := w_ls1_cg hRl (r := r64) (fun i hi => h64 i (by rw [hMd]; exact hi))
    rwa [← hMd] at this
  have hgr : w_gr M (q_pl a) r64 := w_ls1_gr (q := (M, r64)) hP hun hRl'
  have hsh : w_shr M ([1, 1, 2, 6, 24, 120, 720].getD M 0) r64 := w_ls1_pm (q := (M, r64)) hP hRl' hM6
  have hgt : w_gt M r63 := by
    have := w_ls1_gt (q := K) (Nat.le_refl 16) hKl
    rw [hKM] at this
    exact w_gt_cg this h63
  obtain ⟨F, hF⟩ : ∃ F, F = va_up (va_up (va_up E 64 r64) 60 (va_up (E 60) 8 (nI M))) 63 r63 := ⟨_, rfl⟩
  rw [← hF]
  have Fo : ∀ x, ¬ x = 63 → ¬ x = 60 → ¬ x = 64 → F x = E x := fun x h1 h2 h3 => by rw [hF, q_upN _ _ h1, q_upN _ _ h2, q_upN _ _ h3]
  have F8 : F 60 8 = nI M := by rw [hF]; rfl
  have F9 : F 60 9 = 1 := by
    have e : F 60 9 = E 60 9 := by rw [hF]; rfl
    rw [e]; exact E9
  have F63 : F 63 = r63 := by rw [hF]; exact q_upE _ _ _
  have F64 : F 64 = r64 := by rw [hF]; rfl
  refine g96_17 hg ?_
  obtain ⟨G, hG⟩ : ∃ G, G = q_u F 60 10 991 := ⟨_, rfl⟩
  rw [← hG]
  have Go : ∀ x, ¬ x = 60 → G x = F x := fun x hx => by rw [hG]; exact q_uR hx
  have G8 : G 60 8 = nI M := by rw [hG, q_uN _ _ _ _ _ (by decide)]; exact F8
  have G9 : ¬ G 60 9 = 0 := by rw [hG, q_uN _ _ _ _ _ (by decide), F9]; decide
  have G10 : G 60 10 = nI 991 := by rw [hG]; exact q_uE _ _ _ _
  have Gf : ∀ k, w_TT k = false → G k = di k := fun k hk => by
    rw [Go k (w_TT_ne hk rfl), Fo k (w_TT_ne hk rfl) (w_TT_ne hk rfl) (w_TT_ne hk rfl)]
    exact Eo k (w_TT_ne hk rfl)
  have GCE : q_CE (G 54) (G 55) (G 56) a tx P L := by
    have e : ∀ x, ¬ x = 63 → ¬ x = 60 → ¬ x = 64 → G x = di x := fun x h1 h2 h3 => by rw [Go x h2, Fo x h1 h2 h3]; exact Eo x h2
    rw [e 54 (by decide) (by decide) (by decide), e 55 (by decide) (by decide) (by decide), e 56 (by decide) (by decide) (by decide)]
    exact hCE
  have G63 : G 63 = r63 := (Go 63 (by decide)).trans F63
  have G64 : G 64 = r64 := (Go 64 (by decide)).trans F64
  have hplneg : ∀ p, p < 6 → q_pl a p = -1 → q_pl a p < 0 := fun p _ e => by rw [e]; decide
  have fin : ∀ N, N < 2 ^ 31 → 1 ≤ N → (N = [1, 1, 2, 6, 24, 120, 720].getD M 0 ∨ (N = 1 ∧ ∀ l j r r' u u' v, q_la a tx l j r u v = q_la a tx l j r' u' v)) → q_EX q_KD (d + 7) 96 59 [.ref 60, .retAddr 0, .int (nI N), .int (nI 0), .retAddr 0] [] (n, sl, ln, G, dl, dr) Q := fun N hN hN1 hNN => by
    have hE2 := w_qcE (a := a) (tx := tx) (L := L) (P := P) (m := q_an 63 (q_sm a)) (R := R) (K := K) (seat := q_pl a) (r63 := r63) (r64 := r64) hM6 hgr hsh hgt h64 h63 hNN
    refine c_ar59 (d := d + 1) (N := N) (r63 := r63) hN hM6 hgt hH hg N 0 G r64 (q_pl a) (fun _ => 0) 991 1000000 (by omega) ⟨Gf, GCE, G8, G63, G64⟩ G9 hgr hplneg G10 (Nat.le_refl _) (Or.inr ⟨rfl, rfl, hN1⟩) (fun D' row' hZ' h9' h10' h66' => ?_)
    refine k D' hZ'.1 hZ'.2.1 h9' (by rw [h10']; exact hE2.1) (fun s hs => by rw [h66' s hs]; exact hE2.2 (nI s))
  have hWG := w_ZS_W (n := n) (ln := ln) (dr := dr) (D := G) hW Gf
  refine c_rul 0 (by decide) hWG hg (fun h0 => ?_) (fun t z F' E' ht hz l1 l2 hE' hWd hFE f1 f2 hcd hty hkl hlv hno => ?_)
  · refine g96_32 hg (fin 1 (by decide) (Nat.le_refl _) (Or.inr ⟨rfl, fun l j r r' u u' v => ?_⟩))
    have hq : q_kl5 a tx 0 < 0 := by
      have : q_kl5 a tx 0 = -1 := h0
      rw [this]; decide
    unfold q_la
    rw [if_pos hq, if_pos hq]
  · refine g96_32_1 hg hz (fun w => fin 1 (by decide) (Nat.le_refl _) (Or.inr ⟨rfl, fun l j r r' u u' v => ?_⟩)) (fun _ => by rw [G8]; exact vp_in_nI (by omega) (by decide)) (fun _ => ?_)
    · unfold q_la
      rw [if_neg (show ¬ q_kl5 a tx 0 < 0 from hkl), if_neg (show ¬ q_kl5 a tx 0 < 0 from hkl)]
      have e1 := hlv (q_nl0 a l j r u v)
      have e2 := hlv (q_nl0 a l j r' u' v)
      have e3 := w_ev_nm (nm := q_nl0 a l j r' u' v) (nm' := q_nl0 a l j r u v) hty (hno rfl w) (fun i h1 h2 => by
        unfold q_nl0
        match i, h1, h2 with
        | 0, _, _ => rfl
        | 1, _, _ => rfl
        | 2, h1, _ => exact absurd rfl h1
        | 3, _, _ => rfl
        | 4, _, _ => rfl
        | 5, _, h2 => exact absurd rfl h2
        | 6, _, _ => rfl
        | _ + 7, _, _ => rfl)
      rw [show q_lv a tx 0 (q_nl0 a l j r u v) = q_lv a tx 0 (q_nl0 a l j r' u' v) from e1.trans (e3.trans e2.symm)]
    · rw [G8, nI_clamp (show M < 2 ^ 31 by omega), Gf 2 rfl, h2 M (by omega), (w_or6 M hM6).1]
      have o2 := (w_or6 M hM6).2
      exact fin _ (by omega) o2.1 (Or.inl rfl)
end
