theorem t_fgL {tk : Nat → Int32} {M j p : Nat} {k : Nat → t_O} (hM : M ≤ 9999) (hp : p ≤ M) (h : tk j = nI (300 + p)) : t_fg tk M j k = k p := by
  unfold t_fg
  rw [if_pos (by rw [h]; exact (nI_leI (a := 300) (by decide) (by omega)).mpr (by omega)), if_pos (by rw [h]; exact (nI_leI (by omega) (by omega)).mpr (by omega)), h, nI_clamp (by omega), Nat.add_sub_cancel_left]
theorem t_fg2 {tk : Nat → Int32} {M j v : Nat} {k : Nat → t_O} (hv : v ≤ 10000) (hp : M < v) (h : tk j = nI (300 + v)) : t_fg tk M j k = t_oF 2 j := by
  unfold t_fg
  rw [if_pos (by rw [h]; exact (nI_leI (a := 300) (by decide) (by omega)).mpr (by omega)), if_neg (by rw [h]; exact fun q => by have := (nI_leI (by omega) (by omega)).mp q; omega)]
theorem t_fg1 {tk : Nat → Int32} {M j : Nat} {k : Nat → t_O} (h : ¬ 300 ≤ tk j) : t_fg tk M j k = t_oF 1 j := by
  unfold t_fg
  rw [if_neg h]
section
variable {d n sl : Nat} {ln : Nat → Nat} {dl : Nat → Nat → Int64} {dr : Nat → Nat → Option Nat} {Q : Option Value → q_H → Prop} {tk : Nat → Int32} {bg : Nat → Nat} {L C : Nat} {D H0 : Nat → Nat → Int32} {j W K : Nat} {A : Int32} {r : Nat → Int32}
theorem t_LVo {a i : Nat} {v : Int32} (h39 : ¬ a = 39) (h44 : ¬ a = 44) : q_u (t_LV D tk j W A r) a i v = t_LV (q_u D a i v) tk j W A r := by
  funext k
  unfold t_LV
  by_cases e : k = a
  · subst e
    rw [q_upN _ _ h44, q_upN _ _ h39]
    have : ∀ f : Nat → Nat → Int32, q_u f k i v k = va_up (f k) i v := fun f => q_upE _ _ _
    rw [this, this, q_upN _ _ h44, q_upN _ _ h39]
  · rw [q_uR e]
    by_cases e4 : k = 44
    · subst e4; rw [q_upE, q_upE]
    · rw [q_upN _ _ e4, q_upN _ _ e4]
      by_cases e9 : k = 39
      · subst e9; rw [q_upE, q_upE, q_uR e]
      · rw [q_upN _ _ e9, q_upN _ _ e9, q_uR e]
theorem t_cyo {a i : Nat} {v : Int32} (h : t_cy D tk bg C) (ha : 44 ≤ a ∧ a ≤ 49) : t_cy (q_u D a i v) tk bg C := by
  obtain ⟨h1, h2, h3, h4⟩ := h
  unfold t_cy
  rw [q_uR (show ¬ (39 : Nat) = a by omega), q_uR (show ¬ (40 : Nat) = a by omega), q_uR (show ¬ (42 : Nat) = a by omega), q_uR (show ¬ (43 : Nat) = a by omega)]
  exact ⟨h1, h2, h3, h4⟩
theorem t_nro {a i : Nat} {v : Int32} (h : ∀ k, t_nr k → D k = H0 k) (ha : 44 ≤ a ∧ a ≤ 49) : ∀ k, t_nr k → (q_u D a i v) k = H0 k := fun k hk => by
  have : ¬ k = a := fun q => by
    obtain ⟨p1, p2, p3, p4, p5, p6, p7⟩ := hk
    omega
  rw [q_uR this]; exact h k hk
/-- a deed -/
theorem c_deeX {so : Nat} (hx : t_cy D tk bg C) (hD : ∀ k, t_nr k → D k = H0 k) (h10 : D 39 10 = nI K) (hK : K < 24) (htk : ∀ j, ∃ v, v ≤ 10300 ∧ tk j = nI v) (hC : tk C = 131) (h3s : 3 ≤ so) (hs6 : so ≤ 6) (hj : j + 1 ≤ C) (hW : W ≤ 300) (hg : q_Gr n ln dr)
    (k6 : so = 6 → Q none (n, sl, ln, t_LV D tk (j + 1) W A r, dl, dr))
    (k4 : ¬ so = 6 → ¬ so = 3 → ∀ p, p ≤ 5 → t_dee tk j so = t_sc tk (j + 2) (so, p, 0) [] → j + 2 ≤ C → Q none (n, sl, ln, t_LV (q_u D 48 K (nI p)) tk (j + 2) W A r, dl, dr))
    (k3 : so = 3 → ∀ p s, p ≤ 5 → s ≤ 15 → t_dee tk j so = t_sc tk (j + 4) (3, p, s) [] → j + 4 ≤ C → Q none (n, sl, ln, t_LV (q_u (q_u D 48 K (nI p)) 49 K (nI s)) tk (j + 4) W A r, dl, dr))
    (kd : ∀ fl p, 1 ≤ fl → t_dee tk j so = t_oF fl p → ∀ E, t_XD H0 (nI fl) (nI (bg p)) K E → Q none (n, sl, ln, E, dl, dr)) : q_EX q_KD (d + 3) 53 0 [.ref 39, .int (nI (so + 14))] [] (n, sl, ln, t_LV D tk (j + 1) W A r, dl, dr) Q := by
  have i6 : nI (so + 14) = 20 ↔ so = 6 := by
    rw [show (20 : Int32) = nI 20 from rfl, nI_eq (by omega) (by decide)]; omega
  have i3 : nI (so + 14) = 17 ↔ so = 3 := by
    rw [show (17 : Int32) = nI 17 from rfl, nI_eq (by omega) (by decide)]; omega
  have hv : vp_in (nI K) 24 := vp_in_nI hK (by decide)
  have hy : t_LV D tk (j + 1) W A r 39 10 = nI K := h10
  refine g53_0 hg (fun w _ => k6 (i6.mp w)) (fun w1 w2 => absurd (i6.mp w1) (by have := i3.mp w2; omega)) (fun w => ?_)
  have n6 : ¬ so = 6 := fun q => w (i6.mpr q)
  rw [hy]
  -- a fault at the first number
  have bad : ∀ fl E, 1 ≤ fl → fl ≤ 2 → t_dee tk j so = t_oF fl (j + 1) → t_DD D (nI fl) (nI (bg (j + 1))) E → q_EX q_KD (d + 2 + 1) 53 19 [.ref 39, .int (nI (so + 14))] [.int 0, .int (nI K), .ref 48] (n, sl, ln, E, dl, dr) Q := by
    intro fl E f1 f2 e1 hE
    have hz := t_XDu (t_XDof hE hD h10) (a := 48) (i := (nI K).toNatClampNeg) (v := 0) (by omega)
    exact g53_19 hg hv (fun _ => kd fl (j + 1) f1 e1 _ hz) (fun _ => c_expZ hz (by decide) hg (fun E' h' => c_deeZ h' hK hg (kd fl (j + 1) f1 e1)))
  have eD : t_dee tk j so = t_fg tk 5 (j + 1) (fun p => if so = 3 then (if tk (j + 2) = 221 then t_fg tk 15 (j + 3) (fun s => t_sc tk (j + 4) (3, p, s) []) else t_oF 1 (j + 2)) else t_sc tk (j + 2) (so, p, 0) []) := by
    unfold t_dee
    rw [if_neg n6]
  refine c_numY (M := 5) hx htk (by decide) hj hC hW hg (fun p p1 p2 => ?_) (fun v v1 v2 v3 E hE => bad 2 E (by decide) (by decide) (by rw [eD, t_fg2 v2 v1 v3]) hE) (fun v1 E hE => bad 1 E (by decide) (by decide) (by rw [eD, t_fg1 v1]) hE)
  have eD2 := eD
  rw [t_fgL (by decide) p1 p2] at eD2
  have hjC : j + 1 < C := t_neC hC hj (by rw [p2]; exact fun q => absurd ((nI_eq (b := 131) (by omega) (by decide)).mp q) (by omega))
  refine g53_19 hg hv (fun w2 => ?_) (fun w2 => ?_)
  · have n3 : ¬ so = 3 := fun q => w2 (i3.mpr q)
    rw [if_neg n3] at eD2
    rw [nI_clamp (by omega), t_LVo (by decide) (by decide)]
    exact k4 n6 n3 p p1 eD2 (by omega)
  · have y3 := i3.mp w2
    rw [if_pos y3] at eD2
    rw [nI_clamp (by omega), t_LVo (by decide) (by decide)]
    have hx1 : t_cy (q_u D 48 K (nI p)) tk bg C := t_cyo hx (by decide)
    have hD1 : ∀ k, t_nr k → (q_u D 48 K (nI p)) k = H0 k := t_nro hD (by decide)
    have h101 : (q_u D 48 K (nI p)) 39 10 = nI K := h10
    refine c_expY hx1 (by omega) hW (fun q => t_neC hC (by omega) (by rw [q]; decide)) hg (fun z => ?_) (fun z E hE => ?_)
    · rw [if_pos z] at eD2
      have hjC2 : j + 2 < C := t_neC hC (by omega) (by rw [z]; decide)
      refine g53_33 hg ?_
      have hy2 : t_LV (q_u D 48 K (nI p)) tk (j + 2 + 1) W A r 39 10 = nI K := h10
      rw [hy2]
      have bad2 : ∀ fl E, 1 ≤ fl → fl ≤ 2 → t_dee tk j so = t_oF fl (j + 3) → t_DD (q_u D 48 K (nI p)) (nI fl) (nI (bg (j + 3))) E → q_EX q_KD (d + 2 + 1) 53 47 [.retAddr 0, .retAddr 0] [.int 0, .int (nI K), .ref 49] (n, sl, ln, E, dl, dr) Q := by
        intro fl E f1 f2 e1 hE
        exact g53_47 hg hv (kd fl (j + 3) f1 e1 _ (t_XDu (t_XDof hE hD1 h101) (by omega)))
      refine c_numY (M := 15) hx1 htk (by decide) (by omega) hC hW hg (fun s s1 s2 => ?_) (fun v v1 v2 v3 E hE => bad2 2 E (by decide) (by decide) (by rw [eD2, t_fg2 v2 v1 v3]) hE) (fun v1 E hE => bad2 1 E (by decide) (by decide) (by rw [eD2, t_fg1 v1]) hE)
      rw [t_fgL (by decide) s1 s2] at eD2
      have hjC3 : j + 3 < C := t_neC hC (by omega) (by rw [s2]; exact fun q => absurd ((nI_eq (b := 131) (by omega) (by decide)).mp q) (by omega))
      refine g53_47 hg hv ?_
      rw [nI_clamp (by omega), t_LVo (by decide) (by decide)]
      exact k3 y3 p s p1 s1 eD2 (by omega)
    · rw [if_neg z] at eD2
      exact c_deeZ (t_XDof hE hD1 h101) hK hg (kd 1 (j + 2) (by decide) eD2)
end
