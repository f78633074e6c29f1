theorem w_btw {y : Int32} : q_btw y.toInt64 99 = (if (0 : Int32) < (if y < 99 then y else 99) then (if y < 99 then y else 99) else 0) := by
  unfold q_btw
  have h0 : y.toInt64 < 0 ↔ y < 0 := fa_wide_lt y 0
  have h9 : (99 : Int32).toInt64 < y.toInt64 ↔ 99 < y := fa_wide_lt 99 y
  by_cases h : y < 0
  · have h1 : y < 99 := by rw [fa_lt, q_t0] at h; rw [fa_lt, q_t99]; omega
    have h2 : ¬ (0 : Int32) < y := by rw [fa_lt, q_t0] at h; rw [fa_lt, q_t0]; omega
    rw [if_pos (h0.mpr h), if_pos h1, if_neg h2]
  · rw [if_neg (fun z => h (h0.mp z))]
    by_cases h2 : 99 < y
    · have h1 : ¬ y < 99 := by rw [fa_lt, q_t99] at h2; rw [fa_lt, q_t99]; omega
      rw [if_pos (h9.mpr h2), if_neg h1, if_pos (by decide)]
    · rw [if_neg (fun z => h2 (h9.mp z)), Int32.toInt32_toInt64]
      by_cases h3 : y < 99
      · rw [if_pos h3]
        by_cases h4 : (0 : Int32) < y
        · rw [if_pos h4]
        · rw [if_neg h4, fa_eq]
          rw [fa_lt, q_t0] at h h4
          rw [q_t0]
          omega
      · rw [if_neg h3, if_pos (by decide), fa_eq, q_t99]
        rw [fa_lt, q_t99] at h2 h3
        omega
/-- loud is 0 to 99, or as many as laugh and cough -/
theorem w_lob (a tx : Nat → Int32) (l g : Nat) (rounds : Int32) (hg : g ≤ 6) : ∃ b, b ≤ 99 ∧ q_lo a tx l (nI g) rounds 0 = nI b := by
  unfold q_lo
  by_cases h : q_kl5 a tx 1 < 0
  · rw [if_pos h, Int32.add_zero]
    exact ⟨g, by omega, rfl⟩
  · rw [if_neg h]
    unfold q_btw
    by_cases h1 : (q_lv a tx 1 (q_nl1 a l (nI g) rounds 0)).2.1 0 < 0
    · rw [if_pos h1]; exact ⟨0, by omega, rfl⟩
    · rw [if_neg h1]
      by_cases h2 : (99 : Int32).toInt64 < (q_lv a tx 1 (q_nl1 a l (nI g) rounds 0)).2.1 0
      · rw [if_pos h2]; exact ⟨99, by omega, rfl⟩
      · rw [if_neg h2]
        rw [fa_lt64] at h1 h2
        have e1 : (0 : Int64).toInt = 0 := rfl
        have e2 : (99 : Int32).toInt64.toInt = 99 := rfl
        rw [e1] at h1
        rw [e2] at h2
        refine ⟨((q_lv a tx 1 (q_nl1 a l (nI g) rounds 0)).2.1 0).toInt.toNat, by omega, ?_⟩
        rw [fa_eq, q_nar32 (by omega) (by omega), nI_toInt (by omega)]
        omega
theorem w_wv64 (a tx pl : Nat → Int32) (l m : Nat) : ∀ (f g r : Nat), g < 64 → (q_wv a tx pl l m f g r).1 < 64 := by
  intro f
  induction f with
  | zero => intro g r h; exact h
  | succ f ih =>
    intro g r h
    unfold q_wv
    by_cases z : q_rd a tx pl l (q_an m g) g = 0
    · rw [if_pos z]; exact h
    · rw [if_neg z]; exact ih _ _ (q_orlt (k := 6) h (q_rdL _ _ _ _ _ _))
theorem w_wv6 (a tx pl : Nat → Int32) (l m : Nat) : ∀ (f g r : Nat), r ≤ w_ct g → (q_wv a tx pl l m f g r).2 ≤ 6 := by
  intro f
  induction f with
  | zero => intro g r h; have := w_ct6 g; show r ≤ 6; omega
  | succ f ih =>
    intro g r h
    unfold q_wv
    by_cases z : q_rd a tx pl l (q_an m g) g = 0
    · rw [if_pos z]; have := w_ct6 g; show r ≤ 6; omega
    · rw [if_neg z]
      have := w_ctS (q_rdL a tx pl l (q_an m g) g) z (fun i hi => q_rd_new hi)
      exact ih _ _ (by omega)
theorem w_lbb (a tx pl : Nat → Int32) (l m : Nat) : ∃ b, b ≤ 99 ∧ q_lb a tx pl l m = nI b := by
  unfold q_lb
  rw [w_bct _ (w_wv64 a tx pl l m 7 0 0 (by decide))]
  exact w_lob a tx l _ _ (w_ct6 _)
theorem w_alb (a tx pl : Nat → Int32) (m : Nat) : ∀ (c l acc : Nat), ∃ T, acc ≤ T ∧ T ≤ acc + 99 * c ∧ q_it (fun l s => s + q_lb a tx pl l m) c l (nI acc) = nI T := by
  intro c
  induction c with
  | zero => intro l acc; exact ⟨acc, Nat.le_refl _, by omega, rfl⟩
  | succ c ih =>
    intro l acc
    obtain ⟨b, h1, h2⟩ := w_lbb a tx pl l m
    obtain ⟨T, h3, h4, h5⟩ := ih (l + 1) (acc + b)
    refine ⟨T, by omega, by omega, ?_⟩
    show q_it (fun l s => s + q_lb a tx pl l m) c (l + 1) (nI acc + q_lb a tx pl l m) = nI T
    rw [h2, nI_add]
    exact h5
section
variable {d n sl : Nat} {ln : Nat → Nat} {di : Nat → Nat → Int32} {dl : Nat → Nat → Int64} {dr : Nat → Nat → Option Nat} {Q : Option Value → q_H → Prop} {a tx : Nat → Int32} {P L : Nat}
/-- Ear.loudness -/
theorem c_loudX {l g R c : Nat} (hl : l < L) (hg64 : g < 64) (hR : R ≤ 6) (hc : c ≤ 1000) (h5 : di 53 5 = nI g) (h6 : di 53 6 = nI R) (hW : q_W n ln di dr a tx P L) (hCE : q_CE (di 54) (di 55) (di 56) a tx P L) (hg : q_Gr n ln dr)
    (k : ∀ e, e 53 = di 53 → q_CE (e 54) (e 55) (e 56) a tx P L → Q (some (.int (q_lo a tx l (q_bits (nI g) 10 0 0) (nI R) (nI c)))) (n, sl, ln, q_F w_E di e, dl, dr)) :
    q_EX q_KD (d + 3) 79 0 [.ref 53, .int (nI l), .int (nI c), .retAddr 0, .retAddr 0, .retAddr 0, .retAddr 0] [] (n, sl, ln, di, dl, dr) Q := by
  have hL := hW.2.2.1
  have hm6 := w_ct6 g
  have ln' : (nI l).toNatClampNeg = l := nI_clamp (by omega)
  have hd13 := hW.2.2.2.2.2.1 l (by omega)
  have ksame : ∀ y, y = q_lo a tx l (q_bits (nI g) 10 0 0) (nI R) (nI c) → Q (some (.int y)) (n, sl, ln, di, dl, dr) := fun y hy => by
    have := k di rfl hCE
    rw [q_Fid] at this
    rw [hy]; exact this
  refine g79_0 hg (c_bc hg (g79_7 hg (c_rul 1 (by decide) hW hg (fun h0 => ?_) (fun t z F E ht hz l1 l2 hE hWd hFE f1 f2 hcd hty hkl hlv _ => ?_))))
  · refine g79_16 hg (ksame _ ?_)
    have hq : q_kl5 a tx 1 < 0 := by
      have : q_kl5 a tx 1 = -1 := h0
      rw [this]; decide
    unfold q_lo
    rw [if_pos hq, h5, q_bc10 g (by omega)]
  · have hlo : q_lo a tx l (q_bits (nI g) 10 0 0) (nI R) (nI c) = q_btw ((q_ev tx (680 * t + 75) F E (q_nl1 a l (q_bits (nI g) 10 0 0) (nI R) (nI c))).2.1 0) 99 := by
      unfold q_lo
      rw [if_neg (show ¬ q_kl5 a tx 1 < 0 from hkl)]
      have hlv' : ∀ nm, q_lv a tx 1 nm = q_ev tx (680 * t + 75) F E nm := hlv
      rw [hlv']
    rw [h5, q_bc10 g (by omega), w_bct g hg64]
    rw [w_bct g hg64] at hlo
    rw [w_bct g hg64] at k ksame
    have es : ((nI l * 7 + nI (w_ct g)) * 7) + nI R = nI ((l * 7 + w_ct g) * 7 + R) := by
      rw [q_pa, q_pm, q_pa, q_pm]; rfl
    have esn : (nI ((l * 7 + w_ct g) * 7 + R)).toNatClampNeg = (l * 7 + w_ct g) * 7 + R := nI_clamp (by omega)
    have vs : vp_in (((nI l * 7 + nI (w_ct g)) * 7) + di 53 6) 490 := by rw [h6, es]; exact vp_in_nI (by omega) (by decide)
    have hval : q_EX q_KD (d + 2) 75 0 [.ref 50, .ref z, .int 1, .retAddr 0, .retAddr 0, .retAddr 0, .retAddr 0, .retAddr 0] [] (n, sl, ln, q_u (q_u (q_u (q_u (q_u di 51 3 (di 13 (nI l).toNatClampNeg)) 51 4 (di 14 (nI l).toNatClampNeg)) 51 7 (nI (w_ct g))) 51 8 (di 53 6)) 51 9 (nI c), dl, dr) (fun r1 h1 => q_EX q_KD (d + 2 + 1) 79 160 [.ref 53, .retAddr 0, .int (nI c), .retAddr 0, .retAddr 0, .int (((nI l * 7 + nI (w_ct g)) * 7) + di 53 6), .retAddr 0] (r1.toList ++ [.int 99, .int 0]) h1 Q) := by
      rw [ln', h6, es]
      have hz84 := hz.1
      refine c_value (d := d + 1) (F := F) (E := E) (L := 1) (C := 680 * t + 75) tx (q_nl1 a l (nI (w_ct g)) (nI R) (nI c)) hz (by decide) l1 l2 hE hWd hFE ?_ ?_ ?_ hty rfl ?_ hg (fun st _ hV => ?_)
      · rw [q_uR (by omega), q_uR (by omega), q_uR (by omega), q_uR (by omega), q_uR (by omega)]; exact f1
      · rw [q_uR (by omega), q_uR (by omega), q_uR (by omega), q_uR (by omega), q_uR (by omega)]; exact f2
      · rw [q_uR (by omega), q_uR (by omega), q_uR (by omega), q_uR (by omega), q_uR (by omega)]; exact hcd
      · intro i hi
        obtain ⟨x, x1, x2⟩ := hd13.2.2.1
        obtain ⟨p, p1, p2⟩ := hd13.2.2.2
        have hi' : (i = 3 ∨ i = 4) ∨ (7 ≤ i ∧ i ≤ 9) := by
          have : ((Nat.beq i 3 || Nat.beq i 4) || (Nat.ble 7 i && Nat.ble i 9)) = true := hi
          simpa only [Bool.or_eq_true, Bool.and_eq_true, Nat.beq_eq, Nat.ble_eq] using this
        rcases hi' with (h | h) | h
        · subst h; exact ⟨hd13.1, q_small (m := x) (by omega) x2⟩
        · subst h; exact ⟨hd13.2.1, q_small (m := p) (by omega) p2⟩
        · match i, h with
          | 7, _ => exact ⟨rfl, q_small (m := w_ct g) (by omega) rfl⟩
          | 8, _ => exact ⟨rfl, q_small (m := R) (by omega) rfl⟩
          | 9, _ => exact ⟨rfl, q_small (m := c) (by omega) rfl⟩
          | 0, h => omega
          | 1, h => omega
          | 2, h => omega
          | 3, h => omega
          | 4, h => omega
          | 5, h => omega
          | 6, h => omega
          | i + 10, h => omega
      · have hVV := hV rfl
        rw [← hVV, w_btw] at hlo
        have fin : ∀ (D : Nat → Nat → Int32), (∀ k', ¬ k' = 51 → ¬ k' = 52 → ¬ k' = 56 → D k' = di k') → (D 56 = di 56 ∨ (c = 0 ∧ D 56 = va_up (di 56) ((l * 7 + w_ct g) * 7 + R) (q_lo a tx l (nI (w_ct g)) (nI R) (nI c)))) → Q (some (.int (q_lo a tx l (nI (w_ct g)) (nI R) (nI c)))) (n, sl, ln, D, dl, dr) := by
          intro D hD h56
          have kk := k D (hD 53 (by decide) (by decide) (by decide)) (by
            rw [hD 54 (by decide) (by decide) (by decide), hD 55 (by decide) (by decide) (by decide)]
            refine ⟨hCE.1, fun l' g' r' h1 h2 h3 h4 => ?_⟩
            rcases h56 with h56 | ⟨c0, h56⟩
            · rw [h56] at h4 ⊢; exact hCE.2 l' g' r' h1 h2 h3 h4
            · by_cases e : (l' * 7 + g') * 7 + r' = (l * 7 + w_ct g) * 7 + R
              · have e1 : l' = l := by omega
                have e2 : g' = w_ct g := by omega
                have e3 : r' = R := by omega
                subst e1 e2 e3
                rw [h56, q_upE]
                refine ⟨hl, ?_⟩
                rw [c0]; rfl
              · rw [h56, q_upN _ _ e] at h4 ⊢
                exact hCE.2 l' g' r' h1 h2 h3 h4)
          rw [← q_Fin (S := w_E) (di := di)] at kk
          · exact kk
          · intro k' hk'
            exact hD k' (fun e => by rw [e] at hk'; exact absurd hk' (by decide)) (fun e => by rw [e] at hk'; exact absurd hk' (by decide)) (fun e => by rw [e] at hk'; exact absurd hk' (by decide))
        refine g79_160 hg (fun c1 => ?_) (fun _ => vp_in_nI (by omega) (by decide)) (fun c1 => ?_)
        · rw [← hlo]
          refine fin _ (fun k' h1 h2 h3 => ?_) (Or.inl rfl)
          rw [q_upN _ _ h2, q_uR h1, q_uR h1, q_uR h1, q_uR h1, q_uR h1]
        · rw [← hlo, esn]
          have c0 : c = 0 := (nI_eq (b := 0) (by omega) (by decide)).mp c1
          refine fin _ (fun k' h1 h2 h3 => ?_) (Or.inr ⟨c0, rfl⟩)
          rw [q_uR h3, q_upN _ _ h2, q_uR h1, q_uR h1, q_uR h1, q_uR h1, q_uR h1]
    refine g79_16_1 hg hz (c_within hg (g79_29 hg hz (fun _ _ => vp_in_nI (by omega) (by decide)) (fun _ _ => vp_in_nI (by omega) (by decide)) (fun _ _ => hval) (fun _ _ => vs) (fun _ _ _ => vp_in_nI (by omega) (by decide)) (fun _ _ _ => vp_in_nI (by omega) (by decide)) (fun _ _ _ => hval) (fun _ _ _ => vs) (fun _ c1 c2 => ksame _ ?_) (fun c1 => absurd c1 (q_bp.mpr ⟨nI_pos' (by omega), (nI_leI (b := 9) (by omega) (by decide)).mpr (by omega)⟩))))
    rw [h6, es, esn] at c2 ⊢
    have c0 : c = 0 := (nI_eq (b := 0) (by omega) (by decide)).mp c1
    rw [c0]
    exact (hCE.2 l (w_ct g) R (by omega) hm6 hR c2).2
end
