/-! THE MODEL READS A CLAUSE: deeds -/
def t_mg (D D' : Nat → Nat → Int32) (r : Nat → Int32) : Prop := (∀ k, ¬ k = 67 → ¬ k = 70 → D' k = D k) ∧ (∀ i, ¬ i = 7 → ¬ i = 8 → ¬ i = 9 → ¬ i = 10 → D' 67 i = D 67 i) ∧ D' 70 = r
theorem t_mg_mf {D D1 D' : Nat → Nat → Int32} {r : Nat → Int32} (h : t_mg D D1 r) (g : t_mf D1 D') : t_mg D D' r := ⟨fun k a b => (g.1 k a).trans (h.1 k a b), fun i a b c e => (g.2 i a b c e).trans (h.2.1 i a b c e), (g.1 70 (by decide)).trans h.2.2⟩
theorem t_mg_r (D : Nat → Nat → Int32) : t_mg D D (D 70) := ⟨fun _ _ _ => rfl, fun _ _ _ _ _ => rfl, rfl⟩
theorem t_mg_u {D D' : Nat → Nat → Int32} {r : Nat → Int32} {x : Nat} {v : Int32} (h : t_mg D D' r) : t_mg D (q_u D' 70 x v) (va_up r x v) :=
  ⟨fun k a b => by rw [q_uR b]; exact h.1 k a b, fun i a b c e => h.2.1 i a b c e, by rw [← h.2.2]; exact q_upE _ _ _⟩
section
variable {dd n sl : Nat} {ln : Nat → Nat} {dl : Nat → Nat → Int64} {dr : Nat → Nat → Option Nat} {Q : Option Value → q_H → Prop} {D : Nat → Nat → Int32} {N j : Nat} {bt : Nat → Int32}
/-- nextToken, bare -/
theorem c_nxG (hN : N ≤ 300) (hpos : ∀ i, i < N → (0 : Int32) ≤ bt i) (h4 : D 67 4 = nI N) (hb : ∀ i, i < N → D 71 i = bt i) (h : t_ms (D 67) (dl 67 11) N bt (t_bg N bt j) (t_tc N bt j) (t_ps N bt (j + 1))) (hg : q_Gr n ln dr) (kk : ∀ D' dl', t_mf D D' → t_ms (D' 67) (dl' 67 11) N bt (t_bg N bt (j + 1)) (t_tc N bt (j + 1)) (t_ps N bt (j + 1 + 1)) → Q none (n, sl, ln, D', dl', dr)) : q_EX q_KD (dd + 3) 127 0 [.ref 67, .retAddr 0, .retAddr 0] [] (n, sl, ln, D, dl, dr) Q :=
  c_next hN hpos hg _ (t_ps N bt (j + 1)) D (Nat.le_refl _) (t_seq N bt (j + 1)) h4 hb h.1 kk
/-- figure -/
theorem c_fgM {M x : Nat} (hM : M ≤ 9999) (hxx : x < 2720) (hN : N ≤ 300) (hpos : ∀ i, i < N → (0 : Int32) ≤ bt i) (h4 : D 67 4 = nI N) (hb : ∀ i, i < N → D 71 i = bt i) (h : t_ms (D 67) (dl 67 11) N bt (t_bg N bt j) (t_tc N bt j) (t_ps N bt (j + 1))) (hg : q_Gr n ln dr)
    (k1 : ∀ p, p ≤ M → t_tc N bt j = nI (300 + p) → ∀ D' dl', t_mf (q_u D 70 x (nI p)) D' → t_ms (D' 67) (dl' 67 11) N bt (t_bg N bt (j + 1)) (t_tc N bt (j + 1)) (t_ps N bt (j + 1 + 1)) → Q (some (.int 0)) (n, sl, ln, D', dl', dr))
    (k2 : ∀ v, M < v → v ≤ 10000 → t_tc N bt j = nI (300 + v) → Q (some (.int 2)) (n, sl, ln, D, dl, dr))
    (k0 : ¬ 300 ≤ t_tc N bt j → Q (some (.int 1)) (n, sl, ln, D, dl, dr)) : q_EX q_KD (dd + 4) 154 0 [.ref 67, .int (nI x), .int (nI M)] [] (n, sl, ln, D, dl, dr) Q := by
  have hv : vp_in (nI x) 2720 := vp_in_nI hxx (by decide)
  rcases t_num h with ⟨m, m1, m2, m3, m4⟩ | ⟨m, m1, m2, m3, m4, m5⟩ | ⟨m1, m2⟩
  · refine g154_0 hg (fun _ _ => hv) (fun _ w => ?_) (fun _ w => ?_) (fun w => absurd m3 w)
    · rw [m4] at w ⊢
      rw [nI_clamp (by omega)]
      exact c_nxG hN hpos h4 hb h hg (fun D' dl' f1 f2 => g154_34 hg (k1 m ((nI_leI (by omega) (by omega)).mp w) m2 D' dl' f1 f2))
    · rw [m4] at w
      exact k2 m ((nI_ltI (by omega) (by omega)).mp w) (by omega) m2
  · refine g154_0 hg (fun _ _ => hv) (fun _ w => ?_) (fun _ w => ?_) (fun w => absurd m4 w)
    · rw [m5] at w
      exact absurd ((nI_leI (by omega) (by omega)).mp w) (by omega)
    · exact k2 10000 (by omega) (by omega) m3
  · exact g154_0 hg (fun w => absurd w m2) (fun w => absurd w m2) (fun w => absurd w m2) (fun _ => k0 (Int32.not_le.mpr m1))
/-- line0 -/
theorem c_liM {so X : Nat} (h3s : 3 ≤ so) (hs6 : so ≤ 6) (hX : X + 2 < 2720) (hN : N ≤ 300) (hpos : ∀ i, i < N → (0 : Int32) ≤ bt i) (h4 : D 67 4 = nI N) (hb : ∀ i, i < N → D 71 i = bt i) (h : t_ms (D 67) (dl 67 11) N bt (t_bg N bt (j + 1)) (t_tc N bt (j + 1)) (t_ps N bt (j + 1 + 1))) (hg : q_Gr n ln dr)
    (k6 : so = 6 → Q (some (.int 0)) (n, sl, ln, D, dl, dr))
    (k4 : ¬ so = 6 → ¬ so = 3 → ∀ p, p ≤ 5 → t_dee (t_tc N bt) j so = t_sc (t_tc N bt) (j + 2) (so, p, 0) [] → t_tc N bt (j + 1) = nI (300 + p) → ∀ D' dl', t_mg D D' (va_up (D 70) (X + 1) (nI p)) → t_ms (D' 67) (dl' 67 11) N bt (t_bg N bt (j + 2)) (t_tc N bt (j + 2)) (t_ps N bt (j + 2 + 1)) → Q (some (.int 0)) (n, sl, ln, D', dl', dr))
    (k3 : so = 3 → ∀ p s, p ≤ 5 → s ≤ 15 → t_dee (t_tc N bt) j so = t_sc (t_tc N bt) (j + 4) (3, p, s) [] → ∀ D' dl', t_mg D D' (va_up (va_up (D 70) (X + 1) (nI p)) (X + 2) (nI s)) → t_ms (D' 67) (dl' 67 11) N bt (t_bg N bt (j + 4)) (t_tc N bt (j + 4)) (t_ps N bt (j + 4 + 1)) → Q (some (.int 0)) (n, sl, ln, D', dl', dr))
    (kd : ∀ fl p, 1 ≤ fl → fl ≤ 2 → t_dee (t_tc N bt) j so = t_oF fl p → ∀ D' dl' r, t_mg D D' r → (∀ i, i ≤ X → r i = D 70 i) → D' 67 8 = nI (t_bg N bt p) → Q (some (.int (nI fl))) (n, sl, ln, D', dl', dr)) : q_EX q_KD (dd + 5) 153 0 [.ref 67, .int (nI so), .int (nI X), .retAddr 0] [] (n, sl, ln, D, dl, dr) Q := by
  have i6 : nI so = 6 ↔ so = 6 := nI_eq (b := 6) (by omega) (by decide)
  have i3 : nI so = 3 ↔ so = 3 := nI_eq (b := 3) (by omega) (by decide)
  refine g153_0 hg (fun w => ?_) (fun w => k6 (i6.mp w))
  have n6 : ¬ so = 6 := fun q => w (i6.mpr q)
  have eD : t_dee (t_tc N bt) j so = t_fg (t_tc N bt) 5 (j + 1) (fun p => if so = 3 then (if t_tc N bt (j + 2) = 221 then t_fg (t_tc N bt) 15 (j + 3) (fun s => t_sc (t_tc N bt) (j + 4) (3, p, s) []) else t_oF 1 (j + 2)) else t_sc (t_tc N bt) (j + 2) (so, p, 0) []) := by
    unfold t_dee
    rw [if_neg n6]
  rw [nI_1]
  refine c_fgM (M := 5) (j := j + 1) (by decide) (by omega) hN hpos h4 hb h hg (fun p p1 p2 D1 dl1 f1 f2 => ?_) (fun v v1 v2 v3 => ?_) (fun v1 => ?_)
  · have eD2 := eD
    rw [t_fgL (by decide) p1 p2] at eD2
    have g1 : t_mg D D1 (va_up (D 70) (X + 1) (nI p)) := t_mg_mf (t_mg_u (t_mg_r D)) f1
    have hat : (D1 67 9 = 2 ∧ lg_cmp (dl1 67 11) 24948 = 0) ↔ t_tc N bt (j + 2) = 221 := by
      rw [w_cmp0]
      exact t_msw f2 (i := 21) (by decide) (by decide)
    have ra : ∀ i, i ≤ X → (va_up (D 70) (X + 1) (nI p)) i = D 70 i := fun i hi => q_upN _ _ (by omega)
    refine g153_16 hg (fun w => absurd rfl w) (fun _ y w => ?_) (fun _ y w1 w2 => ?_) (fun _ y w1 w2 => ?_) (fun _ y => ?_)
    · have y3 := i3.mp y
      rw [if_pos y3, if_neg (fun q => w (hat.mpr q).1)] at eD2
      exact kd 1 (j + 2) (by decide) (by decide) eD2 D1 dl1 _ g1 ra f2.2.1
    · have y3 := i3.mp y
      rw [if_pos y3, if_pos (hat.mp ⟨w1, w2⟩)] at eD2
      have a4 : D1 67 4 = nI N := by rw [g1.2.1 4 (by decide) (by decide) (by decide) (by decide)]; exact h4
      have a71 : ∀ i, i < N → D1 71 i = bt i := by rw [g1.1 71 (by decide) (by decide)]; exact hb
      refine c_nxG (j := j + 2) hN hpos a4 a71 f2 hg (fun D2 dl2 f3 f4 => g153_53 hg ?_)
      have g2 := t_mg_mf g1 f3
      have b4 : D2 67 4 = nI N := by rw [g2.2.1 4 (by decide) (by decide) (by decide) (by decide)]; exact h4
      have b71 : ∀ i, i < N → D2 71 i = bt i := by rw [g2.1 71 (by decide) (by decide)]; exact hb
      rw [show nI X + 2 = nI (X + 2) from nI_add X 2]
      refine c_fgM (M := 15) (j := j + 3) (by decide) hX hN hpos b4 b71 f4 hg (fun s s1 s2 D3 dl3 f5 f6 => g153_62 hg ?_) (fun v v1 v2 v3 => g153_62 hg ?_) (fun v1 => g153_62 hg ?_)
      · rw [t_fgL (by decide) s1 s2] at eD2
        exact k3 y3 p s p1 s1 eD2 D3 dl3 (t_mg_mf (t_mg_u g2) f5) f6
      · rw [t_fg2 v2 v1 v3] at eD2
        exact kd 2 (j + 3) (by decide) (by decide) eD2 D2 dl2 _ g2 ra f4.2.1
      · rw [t_fg1 v1] at eD2
        exact kd 1 (j + 3) (by decide) (by decide) eD2 D2 dl2 _ g2 ra f4.2.1
    · have y3 := i3.mp y
      rw [if_pos y3, if_neg (fun q => w2 (hat.mpr q).2)] at eD2
      exact kd 1 (j + 2) (by decide) (by decide) eD2 D1 dl1 _ g1 ra f2.2.1
    · have n3 : ¬ so = 3 := fun q => y (i3.mpr q)
      rw [if_neg n3] at eD2
      exact k4 n6 n3 p p1 eD2 p2 D1 dl1 g1 f2
  · rw [t_fg2 v2 v1 v3] at eD
    exact g153_16 hg (fun _ => kd 2 (j + 1) (by decide) (by decide) eD D dl _ (t_mg_r D) (fun _ _ => rfl) h.2.1) (fun w => absurd w (by decide)) (fun w => absurd w (by decide)) (fun w => absurd w (by decide)) (fun w => absurd w (by decide))
  · rw [t_fg1 v1] at eD
    exact g153_16 hg (fun _ => kd 1 (j + 1) (by decide) (by decide) eD D dl _ (t_mg_r D) (fun _ _ => rfl) h.2.1) (fun w => absurd w (by decide)) (fun w => absurd w (by decide)) (fun w => absurd w (by decide)) (fun w => absurd w (by decide))
end
