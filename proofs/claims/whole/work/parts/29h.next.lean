section
variable {d n sl : Nat} {ln : Nat → Nat} {di : Nat → Nat → Int32} {dl : Nat → Nat → Int64} {dr : Nat → Nat → Option Nat} {Q : Option Value → q_H → Prop} {N : Nat} {bt : Nat → Int32}
theorem c_byte {k : Nat} (hN : N ≤ 300) (hk : k ≤ 1000) (h4 : di 67 4 = nI N) (hb : ∀ i, i < N → di 71 i = bt i) (hg : q_Gr n ln dr) (kk : Q (some (.int (t_by N bt k))) (n, sl, ln, di, dl, dr)) : q_EX q_KD d 128 0 [.ref 67, .int (nI k)] [] (n, sl, ln, di, dl, dr) Q := by
  have kn : (nI k).toNatClampNeg = k := nI_clamp (by omega)
  unfold t_by at kk
  refine g128_0 hg (fun w => ?_) (fun w => ?_) (fun w => ?_)
  · rw [h4, nI_leI (by omega) (by omega)] at w
    rwa [if_neg (by omega)] at kk
  · rw [h4, nI_ltI (by omega) (by omega)] at w
    exact vp_in_nI (by omega) (by decide)
  · rw [h4, nI_ltI (by omega) (by omega)] at w
    rw [if_pos w, ← hb k w] at kk
    rw [kn]; exact kk
theorem c_dgM {x : Int32} (hg : q_Gr n ln dr) (k1 : t_dg x → Q (some (.int 1)) (n, sl, ln, di, dl, dr)) (k0 : ¬ t_dg x → Q (some (.int 0)) (n, sl, ln, di, dl, dr)) : q_EX q_KD (d + 1) 129 0 [.int x] [] (n, sl, ln, di, dl, dr) Q := by
  refine g129_0 hg (c_isIn hg (g129_8 hg q_bnar ?_))
  by_cases h : t_dg x
  · rw [q_b1 (show (48 : Int32) ≤ x ∧ x ≤ 57 from h)]; exact k1 h
  · rw [q_b0 (show ¬ ((48 : Int32) ≤ x ∧ x ≤ 57) from h)]; exact k0 h
theorem c_leM {x : Int32} (hg : q_Gr n ln dr) (k1 : t_le x → Q (some (.int 1)) (n, sl, ln, di, dl, dr)) (k0 : ¬ t_le x → Q (some (.int 0)) (n, sl, ln, di, dl, dr)) : q_EX q_KD (d + 1) 130 0 [.int x] [] (n, sl, ln, di, dl, dr) Q := by
  refine g130_0 hg (c_isIn hg (g130_8 hg (fun w => k1 (Or.inl (q_bp.mp w))) (fun w => c_isIn hg (g130_19 hg (fun w2 => k0 (fun z => z.elim (q_bn.mp w) (q_bn.mp w2))) (fun w2 => k1 (Or.inr (q_bp.mp w2)))))))
/-- digits -/
theorem c_nx85 {e p : Nat} (hN : N ≤ 300) (hg : q_Gr n ln dr) (he : e ≤ N) : ∀ (c i x : Nat) (D : Nat → Nat → Int32), i + c = e → t_re (t_pd N bt) i e → x < 1000000 → D 67 4 = nI N → (∀ i, i < N → D 71 i = bt i) → D 67 7 = nI i → D 67 10 = nI x → (∀ D', t_mf D D' → D' 67 8 = D 67 8 → D' 67 9 = D 67 9 → D' 67 7 = nI e → D' 67 10 = nI (t_nm bt c i x) → Q none (n, sl, ln, D', dl, dr)) → q_EX q_KD (d + 2) 127 85 [.ref 67, .retAddr 0, .retAddr 0] [] (n, sl, ln, D, dl, dr) Q := by
  intro c
  induction c with
  | zero =>
    intro i x D hi hre hx h4 hb h7 h10 kk
    have ei : i = e := by omega
    subst ei
    refine p127_85 hg ?_
    rw [h7]
    refine c_byte (N := N) (bt := bt) hN (by omega) h4 hb hg (p127_93 hg (c_dgM (d := d) hg (fun z => ?_) (fun _ => p127_96 hg (fun _ => kk D (t_mf_r D) rfl rfl h7 h10) (fun w => absurd rfl w) (fun w => absurd rfl w))))
    unfold t_by at z
    by_cases h : i < N
    · rw [if_pos h] at z; exact absurd ⟨h, z⟩ hre.2.2
    · rw [if_neg h] at z; exact absurd z.1 (by decide)
  | succ c ih =>
    intro i x D hi hre hx h4 hb h7 h10 kk
    have hp := hre.2.1 i (Nat.le_refl _) (by omega)
    obtain ⟨v, v1, v2⟩ := t_dgN hp.2
    have hby : t_by N bt i = bt i := by unfold t_by; rw [if_pos hp.1]
    have e3 : (bt i).toNatClampNeg - 48 = v := by rw [v2, nI_clamp (by omega)]; omega
    unfold t_nm at kk
    rw [e3] at kk
    refine p127_85 hg ?_
    rw [h7]
    refine c_byte (N := N) (bt := bt) hN (by omega) h4 hb hg (p127_93 hg (c_dgM (d := d) hg (fun _ => p127_96 hg (fun w => absurd w (by decide)) (fun _ w => ?_) (fun _ w => ?_)) (fun z => absurd (by rw [hby]; exact hp.2) z)))
    · rw [h10, show (100000 : Int32) = nI 100000 from rfl, nI_leI (by decide) (by omega)] at w
      rw [if_neg (by omega)] at kk
      rw [h7, nI_1]
      refine ih (i + 1) x _ (by omega) (t_re_s hre hp) hx h4 hb (q_uE _ _ _ _) h10 (fun D' f1 f2 f3 f4 f5 => kk D' (t_mf_t (t_mf_u (Or.inl rfl)) f1) f2 f3 f4 f5)
    · rw [h10, show (100000 : Int32) = nI 100000 from rfl, nI_ltI (by omega) (by decide)] at w
      rw [if_pos w] at kk
      rw [h7]
      refine c_byte (N := N) (bt := bt) hN (by omega) h4 hb hg (p127_124 hg ?_)
      have e1 : (10 : Int32) * D 67 10 + t_by N bt i - 48 = nI (10 * x + v) := by
        rw [h10, hby, v2, show (10 : Int32) * nI x = nI (10 * x) from nI_mulN 10 x, nI_add, show 10 * x + (48 + v) = (10 * x + v) + 48 by omega, ← nI_add, show (48 : Int32) = nI 48 from rfl, Int32.add_sub_cancel]
      rw [e1, h7, nI_1]
      refine ih (i + 1) (10 * x + v) _ (by omega) (t_re_s hre hp) (by omega) h4 hb (q_uE _ _ _ _) rfl (fun D' f1 f2 f3 f4 f5 => kk D' (t_mf_t (t_mf_t (t_mf_u (Or.inr (Or.inr (Or.inr rfl)))) (t_mf_u (Or.inl rfl))) f1) f2 f3 f4 f5)
/-- letters -/
theorem c_nx161 {e p : Nat} (hN : N ≤ 300) (hg : q_Gr n ln dr) (he : e ≤ N) (hl : ∀ k, p ≤ k → k < e → t_le (bt k)) : ∀ (c i : Nat) (D : Nat → Nat → Int32) (dl : Nat → Nat → Int64), i + c = e → p ≤ i → t_re (t_pl N bt) i e → D 67 4 = nI N → (∀ i, i < N → D 71 i = bt i) → D 67 7 = nI i → D 67 8 = nI p → (i - p ≤ 7 → dl 67 11 = Int64.ofNat (t_pr (t_lr bt p (i - p)))) → (∀ D' dl', t_mf D D' → D' 67 8 = D 67 8 → D' 67 9 = D 67 9 → D' 67 7 = nI e → dl' 67 11 = (if e - p ≤ 7 then Int64.ofNat (t_pr (t_lr bt p (e - p))) else 0) → Q none (n, sl, ln, D', dl', dr)) → q_EX q_KD (d + 2) 127 161 [.ref 67, .retAddr 0, .retAddr 0] [] (n, sl, ln, D, dl, dr) Q := by
  intro c
  induction c with
  | zero =>
    intro i D dl hi hpi hre h4 hb h7 h8 hw kk
    have ei : i = e := by omega
    subst ei
    have esub : D 67 7 - D 67 8 = nI (i - p) := by rw [h7, h8, show i = (i - p) + p by omega, ← nI_add, Int32.add_sub_cancel, Nat.add_sub_cancel]
    refine p127_161 hg ?_
    rw [h7]
    refine c_byte (N := N) (bt := bt) hN (by omega) h4 hb hg (p127_169 hg (c_leM (d := d) hg (fun z => ?_) (fun _ => p127_172 hg (fun _ w => ?_) (fun _ w => ?_) (fun w => absurd rfl w) (fun w => absurd rfl w))))
    · unfold t_by at z
      by_cases h : i < N
      · rw [if_pos h] at z; exact absurd ⟨h, z⟩ hre.2.2
      · rw [if_neg h] at z; exact absurd z (fun y => by rcases y with y | y <;> exact absurd y.1 (by decide))
    · rw [esub, show (7 : Int32) = nI 7 from rfl, nI_leI (by omega) (by decide)] at w
      exact kk D dl (t_mf_r D) rfl rfl h7 (by rw [if_pos w]; exact hw w)
    · rw [esub, show (7 : Int32) = nI 7 from rfl, nI_ltI (by decide) (by omega)] at w
      exact kk D _ (t_mf_r D) rfl rfl h7 (by rw [if_neg (by omega)]; exact q_uE _ _ _ _)
  | succ c ih =>
    intro i D dl hi hpi hre h4 hb h7 h8 hw kk
    have hp := hre.2.1 i (Nat.le_refl _) (by omega)
    obtain ⟨v, v1, v2, v3⟩ := t_leN hp.2
    have hby : t_by N bt i = bt i := by unfold t_by; rw [if_pos hp.1]
    have esub : D 67 7 - D 67 8 = nI (i - p) := by rw [h7, h8, show i = (i - p) + p by omega, ← nI_add, Int32.add_sub_cancel, Nat.add_sub_cancel]
    refine p127_161 hg ?_
    rw [h7]
    refine c_byte (N := N) (bt := bt) hN (by omega) h4 hb hg (p127_169 hg (c_leM (d := d) hg (fun _ => p127_172 hg (fun w => absurd w (by decide)) (fun w => absurd w (by decide)) (fun _ w => ?_) (fun _ w => ?_)) (fun z => absurd (by rw [hby]; exact hp.2) z)))
    · rw [esub, show (7 : Int32) = nI 7 from rfl, nI_leI (by decide) (by omega)] at w
      rw [h7, nI_1]
      exact ih (i + 1) _ dl (by omega) (by omega) (t_re_s hre hp) h4 hb (q_uE _ _ _ _) h8 (fun z => by omega) (fun D' dl' f1 f2 f3 f4 f5 => kk D' dl' (t_mf_t (t_mf_u (Or.inl rfl)) f1) f2 f3 f4 f5)
    · rw [esub, show (7 : Int32) = nI 7 from rfl, nI_ltI (by omega) (by decide)] at w
      rw [h7]
      refine c_byte (N := N) (bt := bt) hN (by omega) h4 hb hg (p127_205 hg ?_)
      rw [h7, nI_1]
      refine ih (i + 1) _ _ (by omega) (by omega) (t_re_s hre hp) h4 hb (q_uE _ _ _ _) h8 (fun _ => ?_) (fun D' dl' f1 f2 f3 f4 f5 => kk D' dl' (t_mf_t (t_mf_u (Or.inl rfl)) f1) f2 f3 f4 f5)
      rw [q_uE, hw (by omega), hby, v3]
      have hlt := t_pr_lt (t_lr bt p (i - p)) (t_lr_ok (i - p) (fun k a b => hl k a (by omega)))
      rw [t_lr_len] at hlt
      have h48 : 256 ^ (i - p) ≤ 256 ^ 6 := Nat.pow_le_pow_right (by decide) (by omega)
      have h6 : (256 : Nat) ^ 6 = 2 ^ 48 := by decide
      rw [t_or8 (by omega) (by omega), show i + 1 - p = (i - p) + 1 by omega]
      show _ = Int64.ofNat (256 * t_pr (t_lr bt p (i - p)) + (bt (p + (i - p))).toNatClampNeg)
      rw [show p + (i - p) = i by omega, v3, nI_clamp (by omega)]
end
