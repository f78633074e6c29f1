theorem w_NM_tr {di D D' : Nat → Nat → Int32} (h : w_NM di D) (h' : w_NM D D') : w_NM di D' :=
  ⟨fun k h1 h2 => (h'.1 k h1 h2).trans (h.1 k h1 h2), h'.2.1.trans h.2.1, h'.2.2.1.trans h.2.2.1, h'.2.2.2.trans h.2.2.2⟩
theorem w_NM_0 {di D : Nat → Nat → Int32} (h : w_M di D) : w_NM di D := ⟨fun k h1 _ => h.1 k h1, h.2.1, h.2.2.1, h.2.2.2⟩
section
variable {c d n sl : Nat} {ln : Nat → Nat} {di : Nat → Nat → Int32} {dl : Nat → Nat → Int64} {dr : Nat → Nat → Option Nat} {Q : Option Value → q_H → Prop} {a tx pl : Nat → Int32} {P L : Nat}
/-- the model's tallies are cleared -/
theorem c_nt21 {x1 : Int32} (hg : q_Gr n ln dr) : ∀ (c j : Nat) (D : Nat → Nat → Int32), j + c = 6 → w_M di D → D 67 26 = di 67 26 → D 76 = di 76 → (∀ i, i < j → D 77 i = 0) → (∀ i, i < j → D 78 i = 0) →
    (∀ D', w_M di D' → D' 67 26 = di 67 26 → D' 76 = di 76 → (∀ i, i < 6 → D' 77 i = 0) → (∀ i, i < 6 → D' 78 i = 0) → q_EX q_KD d 182 51 [.ref 67, .int x1, .int 0, .int 0, .retAddr 0] [] (n, sl, ln, D', dl, dr) Q) →
    q_EX q_KD d 182 21 [.ref 67, .int x1, .int (nI j), .retAddr 0, .retAddr 0] [] (n, sl, ln, D, dl, dr) Q := by
  intro c
  induction c with
  | zero =>
    intro j D hj hM e26 e76 h7 h8 k
    have : j = 6 := by omega
    subst this
    exact g182_21 hg (fun _ => k D hM e26 e76 h7 h8) (fun w => absurd w (by decide)) (fun w => absurd w (by decide)) (fun w => absurd w (by decide))
  | succ c ih =>
    intro j D hj hM e26 e76 h7 h8 k
    have hjn : (nI j).toNatClampNeg = j := nI_clamp (by omega)
    have vj : vp_in (nI j) 6 := vp_in_nI (by omega) (by decide)
    refine g182_21 hg (fun w => absurd ((nI_leI (a := 6) (by decide) (by omega)).mp w) (by omega)) (fun _ => vj) (fun _ => vj) (fun _ => ?_)
    rw [hjn, nI_1]
    refine ih (j + 1) _ (by omega) (w_M_tr hM (w_M_tr (w_M_u rfl (by decide)) (w_M_u rfl (by decide)))) e26 e76 (fun i hi => ?_) (fun i hi => ?_) k
    · rw [q_uR (by decide)]
      by_cases e : i = j
      · subst e; rw [q_uE]
      · rw [q_uN _ _ _ _ _ e]; exact h7 i (by omega)
    · by_cases e : i = j
      · subst e; rw [q_uE]
      · rw [q_uN _ _ _ _ _ e, q_uR (by decide)]; exact h8 i (by omega)
/-- the model's night -/
theorem m_night {S : Nat} (hF : w_MF di a tx P L) (hv : ∀ j, j < 6 → q_pl a j = -1 ∨ ∃ s, s < 16 ∧ q_pl a j = nI s) (hS : S ≤ 30) (h6 : a 6 = nI S) (hg : q_Gr n ln dr)
    (k1 : ¬ w_si (q_pl a) = 0 → ∀ D a' dl', w_NM di D → D 68 = a' → w_ngt a tx L a' → Q (some (.int (w_nt a tx L 0 (a 3, fun _ => 0, fun _ => 0, 0)).2.2.2)) (n, sl, ln, D, dl', dr))
    (k0 : w_si (q_pl a) = 0 → Q (some (.int (-1))) (n, sl, ln, di, dl, dr)) : q_EX q_KD (d + 6) 182 0 [.ref 67, .retAddr 0, .retAddr 0, .retAddr 0, .retAddr 0] [] (n, sl, ln, di, dl, dr) Q := by
  have hsl := w_siL (q_pl a)
  obtain ⟨f1, f2, f3, f4, f5, f6, f7, f8⟩ := hF
  have hun : ∀ j, P ≤ j → j < 6 → q_pl a j = -1 := fun j g1 g2 => (f7 j g1 g2).1
  refine g182_0 hg (c_sitA (d := d + 4) ⟨f1, f2, f3, f4, f5, f6, f7, f8⟩ hv hg (g182_4 hg (fun y => ?_) (fun y => k0 ((nI_eq (b := 0) (by omega) (by decide)).mp y))))
  have hne : ¬ w_si (q_pl a) = 0 := fun z => y (by rw [z]; rfl)
  refine c_keepM (d := d + 4) (di := di) hS (by rw [f1]; exact h6) hg (fun b hb => g182_15 hg ?_)
  rw [f1] at hb
  have kp := hb
  obtain ⟨_, _, _, _, bE, _⟩ := kp
  have hFb : w_MF (va_up di 68 b) b tx P L := ⟨q_upE _ _ _, by rw [q_upN _ _ (by decide)]; exact f2, f3, f4, by rw [bE 0 (by omega) (by omega)]; exact f5, by rw [bE 1 (by omega) (by omega)]; exact f6, fun j g1 g2 => by rw [bE _ (by omega) (by omega), bE _ (by omega) (by omega)]; exact f7 j g1 g2, w_MT_cg f8 (bE 5 (by omega) (by omega))⟩
  refine c_seatA (d := d + 2) hFb hg (fun D1 hM1 hN1 => g182_19 hg ?_)
  have esm : q_sm b = q_sm a := q_ms_cg (fun j hj => bE _ (by omega) (by omega))
  have epl : ∀ j, j < 6 → q_pl b j = q_pl a j := fun j hj => bE _ (by omega) (by omega)
  refine c_nt21 (di := D1) hg 6 0 D1 rfl (w_M_refl _) rfl rfl (fun i hi => absurd hi (Nat.not_lt_zero i)) (fun i hi => absurd hi (Nat.not_lt_zero i)) (fun D2 hM2 g26 g76 g77 g78 => ?_)
  have D168 : D1 68 = b := by rw [hM1.1 68 rfl, q_upE]
  have D170 : D1 70 = tx := by rw [hM1.1 70 rfl, q_upN _ _ (by decide)]; exact f2
  have eb3 : b 3 = a 3 := bE 3 (by omega) (by omega)
  refine c_nt51 (d := d) (di := D1) (a := a) (tx := tx) (P := P) (L := L) (b := b) f3 f4 bE f5 f6 hun f8 D170 (by rw [hN1.1, esm]) (fun j hj => (hN1.2 j hj).trans (epl j hj)) hg L 0 (a 3, fun _ => 0, fun _ => 0, 0) D2 dl (by omega) (w_NM_0 hM2) (by rw [hM2.1 68 rfl, D168]; show b = va_up b 3 (a 3); rw [← eb3, q_upid]) g26 g76 g77 g78 (fun D3 dl3 hM3 h68 h77 h78 => ?_)
  obtain ⟨x, hx⟩ : ∃ x, x = (w_nt a tx L 0 (a 3, fun _ => 0, fun _ => 0, 0)).1 := ⟨_, rfl⟩
  rw [← hx] at h68
  have B : ∀ i, i < 76 → ¬ i = 6 → ¬ i = 3 → va_up b 3 x i = a i := fun i g1 g2 g3 => by rw [q_upN _ _ g3]; exact bE i g1 g2
  refine c_nt135 (d := d + 1) (di := D1) (a := a) (tx := tx) (P := P) (L := L) (b1 := va_up b 3 x) f3 (by rw [B 0 (by omega) (by omega) (by omega)]; exact f5) (B 5 (by omega) (by omega) (by omega)) (fun j hj => ⟨B _ (by omega) (by omega) (by omega), B _ (by omega) (by omega) (by omega), B _ (by omega) (by omega) (by omega), B _ (by omega) (by omega) (by omega)⟩) f8 D170 rfl hne hun hg P 0 (va_up b 3 x) D3 dl3 (by omega) hM3 h68 (fun _ _ _ => rfl) (fun t ht => by rw [if_neg (by omega)]) h77 h78 (fun D4 a' dl4 hM4 h468 ha1 ha2 ha3 => ?_)
  have hM0 : w_NM di D1 := w_NM_M (w_NM_68 (f := b) (w_NM_0 (w_M_refl di))) hM1
  refine k1 hne D4 a' dl4 (w_NM_tr hM0 hM4) h468 ⟨S, b, hS, h6, hb, ?_, ?_, ha3, fun i g1 g2 g3 g4 => ?_⟩
  · rw [ha1 3 (by omega) (by omega) (fun t _ => by omega), q_upE]; exact hx
  · rw [ha2, B 2 (by omega) (by omega) (by omega)]
  · rw [ha1 i g1 g2 g4, q_upN _ _ g3]
end
