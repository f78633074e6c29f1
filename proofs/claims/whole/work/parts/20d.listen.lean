section
variable {d n sl : Nat} {ln : Nat → Nat} {di : Nat → Nat → Int32} {dl : Nat → Nat → Int64} {dr : Nat → Nat → Option Nat} {Q : Option Value → q_H → Prop} {a tx : Nat → Int32} {P L : Nat}
/-- the places of those who are there: told persons on different seats -/
def w_pl (pl : Nat → Int32) (p P : Nat) : Prop := p < 64 ∧ (∀ j, j < 6 → p.testBit j = true → j < P ∧ ∃ s, s < 16 ∧ pl j = nI s) ∧ (∀ i j, i < 6 → j < 6 → p.testBit i = true → p.testBit j = true → i ≠ j → ¬ pl i = pl j)
theorem c_lis56 {l p m g sa : Nat} {x8 : Int32} (hl : l < L) (hpl : w_pl (di sa) p P) (hm : ∀ i, m.testBit i = true → p.testBit i = true) (hgm : ∀ i, g.testBit i = true → p.testBit i = true) (hm64 : m < 64) (hg64 : g < 64) (hks : q_KD sa = 20) (hns : sa < n) (hls : ln sa = 6) (hsE : w_E sa = false) (hW : q_W n ln di dr a tx P L) (hg : q_Gr n ln dr) : ∀ (c j came : Nat) (e : Nat → Nat → Int32), j + c = 6 → e 53 5 = nI g → q_CE (e 54) (e 55) (e 56) a tx P L →
    (∀ e', e' 53 = e 53 → q_CE (e' 54) (e' 55) (e' 56) a tx P L → q_EX q_KD (d + 4) 70 56 [.ref 53, .int (nI l), .retAddr 0, .retAddr 0, .ref sa, .int (nI (q_an m g)), .int (nI (w_ls (di sa) g)), .retAddr 0, .int x8, .int (nI (q_it (fun j x => if (q_an m g).testBit j = true ∧ (0 : Int32) ≤ di sa j ∧ ¬ q_la a tx l j (di sa j / 4) (q_nearOf (nI g) (di sa) j 6 0 0) (q_bits (nI g) 10 0 0) = 0 then x ||| 2 ^ j else x) c j came)), .int (nI (w_ls (di sa) (q_it (fun j x => if (q_an m g).testBit j = true ∧ (0 : Int32) ≤ di sa j ∧ ¬ q_la a tx l j (di sa j / 4) (q_nearOf (nI g) (di sa) j 6 0 0) (q_bits (nI g) 10 0 0) = 0 then x ||| 2 ^ j else x) c j came))), .int (q_bits (nI g) 10 0 0), .int (nI 6), .retAddr 0, .retAddr 0] [] (n, sl, ln, q_F w_E di e', dl, dr) Q) →
    q_EX q_KD (d + 4) 70 56 [.ref 53, .int (nI l), .retAddr 0, .retAddr 0, .ref sa, .int (nI (q_an m g)), .int (nI (w_ls (di sa) g)), .retAddr 0, .int x8, .int (nI came), .int (nI (w_ls (di sa) came)), .int (q_bits (nI g) 10 0 0), .int (nI j), .retAddr 0, .retAddr 0] [] (n, sl, ln, q_F w_E di e, dl, dr) Q := by
  intro c
  induction c with
  | zero =>
    intro j came e hj h5 hCE k
    have : j = 6 := by omega
    subst this
    exact k e rfl hCE
  | succ c ih =>
    intro j came e hj h5 hCE k
    have hjn : (nI j).toNatClampNeg = j := nI_clamp (by omega)
    have hlen : Int32.ofNat (ln sa) = nI 6 := by rw [hls]; rfl
    have hsa : q_F w_E di e sa = di sa := q_Fo hsE
    have hml : q_an m g < 2 ^ 31 := Nat.lt_of_lt_of_le (q_anlt (k := 6) hm64) (by decide)
    have kn : ¬ ((q_an m g).testBit j = true ∧ (0 : Int32) ≤ di sa j ∧ ¬ q_la a tx l j (di sa j / 4) (q_nearOf (nI g) (di sa) j 6 0 0) (q_bits (nI g) 10 0 0) = 0) → ∀ e2, e2 53 = e 53 → q_CE (e2 54) (e2 55) (e2 56) a tx P L → q_EX q_KD (d + 4) 70 56 [.ref 53, .int (nI l), .retAddr 0, .retAddr 0, .ref sa, .int (nI (q_an m g)), .int (nI (w_ls (di sa) g)), .retAddr 0, .int x8, .int (nI came), .int (nI (w_ls (di sa) came)), .int (q_bits (nI g) 10 0 0), .int (nI j + 1), .retAddr 0, .retAddr 0] [] (n, sl, ln, q_F w_E di e2, dl, dr) Q := by
      intro hn e2 q1 q2
      rw [nI_1]
      refine ih (j + 1) came e2 (by omega) (by rw [q1]; exact h5) q2 (fun e' r1 r2 => ?_)
      have := k e' (r1.trans q1) r2
      rwa [show q_it (fun j x => if (q_an m g).testBit j = true ∧ (0 : Int32) ≤ di sa j ∧ ¬ q_la a tx l j (di sa j / 4) (q_nearOf (nI g) (di sa) j 6 0 0) (q_bits (nI g) 10 0 0) = 0 then x ||| 2 ^ j else x) (c + 1) j came = q_it (fun j x => if (q_an m g).testBit j = true ∧ (0 : Int32) ≤ di sa j ∧ ¬ q_la a tx l j (di sa j / 4) (q_nearOf (nI g) (di sa) j 6 0 0) (q_bits (nI g) 10 0 0) = 0 then x ||| 2 ^ j else x) c (j + 1) (if (q_an m g).testBit j = true ∧ (0 : Int32) ≤ di sa j ∧ ¬ q_la a tx l j (di sa j / 4) (q_nearOf (nI g) (di sa) j 6 0 0) (q_bits (nI g) 10 0 0) = 0 then came ||| 2 ^ j else came) from rfl, if_neg hn] at this
    have hlt : nI j < nI 6 := nI_lt (by omega) (by decide)
    refine g70_56 hg hks hns (fun c' => absurd hlt (q_nle c')) (fun c' => absurd hlt (q_nle c')) (fun c' => absurd hlt (q_nle c')) (fun c' => absurd hlt (q_nle c')) (fun _ c' => absurd hlt (q_nle (by rw [hlen] at c'; exact c'))) (fun _ c' => absurd hlt (q_nle (by rw [hlen] at c'; exact c'))) (fun _ c' => absurd hlt (q_nle (by rw [hlen] at c'; exact c'))) (fun _ c' => absurd hlt (q_nle (by rw [hlen] at c'; exact c'))) (fun _ _ => by rw [hls]; exact vp_in_nI (by omega) (by decide)) (fun _ _ c2 => ?_) (fun _ _ c2 => c_within hg ?_)
    · have hb := (q_bt0 hml (by omega)).mp c2
      exact kn (fun z => by rw [z.1] at hb; exact absurd hb (by decide)) e rfl hCE
    · have hb : (q_an m g).testBit j = true := by
        cases hc : (q_an m g).testBit j with
        | true => rfl
        | false => exact absurd ((q_bt0 hml (by omega)).mpr hc) c2
      have hbb : m.testBit j = true ∧ g.testBit j = false := by
        rw [q_anT] at hb
        revert hb
        cases m.testBit j <;> cases g.testBit j <;> decide
      obtain ⟨hjP, s, hs, hps⟩ := hpl.2.1 j (by omega) (hm j hbb.1)
      rw [hsa, hjn, hps]
      have hsn : (nI s).toNatClampNeg = s := nI_clamp (by omega)
      have hW' := q_W_F (e := e) hW
      have hcnt := w_near (pl := di sa) (g := g) (x := j) hg64 hs hps (fun i hi hgi => (hpl.2.1 i hi (hgm i hgi)).2) (fun i k hi hk h1 h2 h3 => hpl.2.2 i k hi hk (hgm i h1) (hgm k h2) h3)
      have hc4 := q_cp4 (w_ls (di sa) g).testBit s hs
      have hv5 := w_ct5 (g := g) (j := j) (by omega) hbb.2
      refine g70_95 hg hks hns (fun _ => vp_in_nI hs (by decide)) (fun _ => c_bc hg (g70_113 hg hks hns ?_)) (fun c3 => absurd c3 (q_bp.mpr ⟨nI_pos' (by omega), (nI_leI (b := 15) (by omega) (by decide)).mpr (by omega)⟩))
      rw [hsn, show q_F w_E di e 1 s = q_near.getD s 0 from hW.1 s hs, q_bsA _ s hs, w_d4 s hs, w_bct g hg64]
      refine c_laX (d := d) (di := q_F w_E di e) (l := l) (j := j) (r := s / 4) (u := (q_nk2 s).countP (w_ls (di sa) g).testBit) (v := w_ct g) hl hjP (by omega) hc4 hv5 hW' hCE hg (fun e2 y q1 q2 q3 => ?_)
      rw [q_FF]
      have q1' : e2 53 = e 53 := q1
      rw [hcnt, ← w_d4 s hs, ← w_bct g hg64, ← hps] at q3
      rw [← w_bct g hg64]
      refine g70_130 hg hks hns (fun y0 => ?_) (fun y0 => ?_)
      · exact kn (fun z => z.2.2 (q3.mp y0)) e2 q1' q2
      · have hcond : (q_an m g).testBit j = true ∧ (0 : Int32) ≤ di sa j ∧ ¬ q_la a tx l j (di sa j / 4) (q_nearOf (nI g) (di sa) j 6 0 0) (q_bits (nI g) 10 0 0) = 0 := ⟨hb, by rw [hps]; exact nI_pos' (by omega), fun z => y0 (q3.mpr z)⟩
        rw [nI_1, q_sh (show j < 31 by omega), fa_or, q_sh (show s < 31 by omega), fa_or]
        have ecs : w_ls (di sa) came ||| 2 ^ s = w_ls (di sa) (came ||| 2 ^ j) := by
          rw [w_lsO, w_ls1 _ j (by omega), hps, hsn]
        rw [ecs]
        refine ih (j + 1) (came ||| 2 ^ j) e2 (by omega) (by rw [q1']; exact h5) q2 (fun e' r1 r2 => ?_)
        have := k e' (r1.trans q1') r2
        rwa [show q_it (fun j x => if (q_an m g).testBit j = true ∧ (0 : Int32) ≤ di sa j ∧ ¬ q_la a tx l j (di sa j / 4) (q_nearOf (nI g) (di sa) j 6 0 0) (q_bits (nI g) 10 0 0) = 0 then x ||| 2 ^ j else x) (c + 1) j came = q_it (fun j x => if (q_an m g).testBit j = true ∧ (0 : Int32) ≤ di sa j ∧ ¬ q_la a tx l j (di sa j / 4) (q_nearOf (nI g) (di sa) j 6 0 0) (q_bits (nI g) 10 0 0) = 0 then x ||| 2 ^ j else x) c (j + 1) (if (q_an m g).testBit j = true ∧ (0 : Int32) ≤ di sa j ∧ ¬ q_la a tx l j (di sa j / 4) (q_nearOf (nI g) (di sa) j 6 0 0) (q_bits (nI g) 10 0 0) = 0 then came ||| 2 ^ j else came) from rfl, if_pos hcond] at this
/-- one round of listening after another -/
theorem c_lis26 {l p m sa : Nat} (hl : l < L) (hpl : w_pl (di sa) p P) (hm : ∀ i, m.testBit i = true → p.testBit i = true) (hm64 : m < 64) (hks : q_KD sa = 20) (hns : sa < n) (hls : ln sa = 6) (hsE : w_E sa = false) (hW : q_W n ln di dr a tx P L) (hg : q_Gr n ln dr) : ∀ (f g r : Nat) (e : Nat → Nat → Int32), r + f = 6 → r ≤ w_ct g → g < 64 → (∀ i, g.testBit i = true → p.testBit i = true) → e 53 5 = nI g → e 53 6 = nI r → q_CE (e 54) (e 55) (e 56) a tx P L →
    (∀ e', e' 53 5 = nI (q_wv a tx (di sa) l m (f + 1) g r).1 → e' 53 6 = nI (q_wv a tx (di sa) l m (f + 1) g r).2 → q_CE (e' 54) (e' 55) (e' 56) a tx P L → Q none (n, sl, ln, q_F w_E di e', dl, dr)) →
    q_EX q_KD (d + 4) 70 26 [.ref 53, .int (nI l), .retAddr 0, .retAddr 0, .ref sa, .int (nI (q_an m g)), .int (nI (w_ls (di sa) g)), .int 1, .int (nI r), .retAddr 0, .retAddr 0, .retAddr 0, .retAddr 0, .retAddr 0, .retAddr 0] [] (n, sl, ln, q_F w_E di e, dl, dr) Q := by
  intro f
  induction f with
  | zero =>
    intro g r e hr hrc hg64 hgm h5 h6 hCE k
    have hr6 : r = 6 := by omega
    subst hr6
    refine g70_26 hg hks hns (fun _ => k e ?_ ?_ hCE) (fun c' => absurd c' (by decide)) (fun c' => absurd c' (by decide))
    all_goals
      unfold q_wv
      rw [if_pos]
      · assumption
      · refine q_ext (k := 6) (q_rdL _ _ _ _ _ _) (by decide) (fun j hj => ?_)
        rw [Nat.zero_testBit]
        cases hb : (q_rd a tx (di sa) l (q_an m g) g).testBit j with
        | false => rfl
        | true =>
          have := q_rd_new hb
          rw [w_ct66 hrc j hj] at this
          exact absurd this (by decide)
  | succ f ih =>
    intro g r e hr hrc hg64 hgm h5 h6 hCE k
    have h5' : q_F w_E di e 53 5 = nI g := h5
    have h6' : q_F w_E di e 53 6 = nI r := h6
    refine g70_26 hg hks hns (fun c' => absurd c' (fun z => absurd ((nI_leI (a := 6) (by decide) (by omega)).mp z) (by omega))) (fun _ c' => absurd c' (by decide)) (fun _ _ => c_bc hg (g70_51 hg hks hns ?_))
    rw [h5', q_bc10 g (by omega)]
    have h0 := c_lis56 (d := d) (sl := sl) (dl := dl) (Q := Q) (x8 := nI r) hl hpl hm hgm hm64 hg64 hks hns hls hsE hW hg 6 0 0 e rfl h5 hCE
    rw [w_ls0] at h0
    refine h0 (fun e2 q1 q2 => ?_)
    have erd : q_it (fun j x => if (q_an m g).testBit j = true ∧ (0 : Int32) ≤ di sa j ∧ ¬ q_la a tx l j (di sa j / 4) (q_nearOf (nI g) (di sa) j 6 0 0) (q_bits (nI g) 10 0 0) = 0 then x ||| 2 ^ j else x) 6 0 0 = q_rd a tx (di sa) l (q_an m g) g := rfl
    rw [erd]
    have hrl := q_rdL a tx (di sa) l (q_an m g) g
    have h52 : q_F w_E di e2 53 5 = nI g := by show e2 53 5 = nI g; rw [q1]; exact h5
    have h62 : q_F w_E di e2 53 6 = nI r := by show e2 53 6 = nI r; rw [q1]; exact h6
    have ean : q_an (q_an m g) (q_rd a tx (di sa) l (q_an m g) g) = q_an m (g ||| q_rd a tx (di sa) l (q_an m g) g) := by
      apply Nat.eq_of_testBit_eq
      intro i
      rw [q_anT, q_anT, q_anT, Nat.testBit_or]
      cases m.testBit i <;> cases g.testBit i <;> cases (q_rd a tx (di sa) l (q_an m g) g).testBit i <;> rfl
    have hlast : ∀ y : Int32, nI (q_rd a tx (di sa) l (q_an m g) g) = 0 → q_EX q_KD (d + 4) 70 26 [.ref 53, .int (nI l), .retAddr 0, .retAddr 0, .ref sa, .int (nI (q_an m g) &&& (nI (q_rd a tx (di sa) l (q_an m g) g) ^^^ (-1))), .int (nI (w_ls (di sa) g) ||| nI (w_ls (di sa) (q_rd a tx (di sa) l (q_an m g) g))), .int 0, .int (nI r + 1), .retAddr 0, .retAddr 0, .retAddr 0, .retAddr 0, .retAddr 0, .retAddr 0] [] (n, sl, ln, q_u (q_u (q_F w_E di e2) 53 5 (q_F w_E di e2 53 5 ||| nI (q_rd a tx (di sa) l (q_an m g) g))) 53 6 (q_F w_E di e2 53 6 + 0), dl, dr) Q := by
      intro y z
      have z0 : q_rd a tx (di sa) l (q_an m g) g = 0 := (nI_eq (by omega) (by decide)).mp z
      have eo : nI g ||| nI 0 = nI g := by rw [fa_or, Nat.or_zero]
      rw [z0, h52, h62, eo, Int32.add_zero, q_Fu rfl, q_Fu rfl]
      have kk : Q none (n, sl, ln, q_F w_E di (q_u (q_u e2 53 5 (nI g)) 53 6 (nI r)), dl, dr) := by
        refine k _ ?_ ?_ q2
        · unfold q_wv
          rw [if_pos z0]
          rfl
        · unfold q_wv
          rw [if_pos z0]
          rfl
      exact g70_26 hg hks hns (fun _ => kk) (fun _ _ => kk) (fun _ c => absurd rfl c)
    have hmore : ¬ nI (q_rd a tx (di sa) l (q_an m g) g) = 0 → q_EX q_KD (d + 4) 70 26 [.ref 53, .int (nI l), .retAddr 0, .retAddr 0, .ref sa, .int (nI (q_an m g) &&& (nI (q_rd a tx (di sa) l (q_an m g) g) ^^^ (-1))), .int (nI (w_ls (di sa) g) ||| nI (w_ls (di sa) (q_rd a tx (di sa) l (q_an m g) g))), .int 1, .int (nI r + 1), .retAddr 0, .retAddr 0, .retAddr 0, .retAddr 0, .retAddr 0, .retAddr 0] [] (n, sl, ln, q_u (q_u (q_F w_E di e2) 53 5 (q_F w_E di e2 53 5 ||| nI (q_rd a tx (di sa) l (q_an m g) g))) 53 6 (q_F w_E di e2 53 6 + 1), dl, dr) Q := by
      intro z
      have z0 : ¬ q_rd a tx (di sa) l (q_an m g) g = 0 := fun y => z (by rw [y]; rfl)
      rw [q_anI, ean, h52, h62, fa_or, fa_or, ← w_lsO, nI_1, q_Fu rfl, q_Fu rfl]
      have hct := w_ctS hrl z0 (fun i hi => q_rd_new hi)
      refine ih (g ||| q_rd a tx (di sa) l (q_an m g) g) (r + 1) _ (by omega) (by omega) (q_orlt (k := 6) hg64 hrl) (fun i hi => ?_) rfl rfl q2 (fun e' r1 r2 r3 => k e' ?_ ?_ r3)
      · rw [Nat.testBit_or, Bool.or_eq_true] at hi
        rcases hi with hi | hi
        · exact hgm i hi
        · have := ((q_rdT a tx (di sa) l (q_an m g) g i).mp hi).2.1
          rw [q_anT] at this
          refine hm i ?_
          revert this
          cases m.testBit i <;> cases g.testBit i <;> decide
      · rw [r1]
        conv => rhs; unfold q_wv
        rw [if_neg z0]
      · rw [r2]
        conv => rhs; unfold q_wv
        rw [if_neg z0]
    exact g70_56 hg hks hns (fun _ z _ => hlast 0 z) (fun _ _ z => absurd rfl z) (fun _ _ z => absurd z (by decide)) (fun _ z _ => hmore z) (fun c => absurd c (by decide)) (fun c => absurd c (by decide)) (fun c => absurd c (by decide)) (fun c => absurd c (by decide)) (fun c => absurd c (by decide)) (fun c => absurd c (by decide)) (fun c => absurd c (by decide))
/-- Ear.listen -/
theorem c_listen {l p st sa : Nat} (hl : l < L) (hpl : w_pl (di sa) p P) (hks : q_KD sa = 20) (hns : sa < n) (hls : ln sa = 6) (hsE : w_E sa = false) (hW : q_W n ln di dr a tx P L) (hCE : q_CE (di 54) (di 55) (di 56) a tx P L) (hg : q_Gr n ln dr)
    (k : ∀ e', e' 53 5 = nI (q_wv a tx (di sa) l (q_an p st) 7 0 0).1 → e' 53 6 = nI (q_wv a tx (di sa) l (q_an p st) 7 0 0).2 → q_CE (e' 54) (e' 55) (e' 56) a tx P L → Q none (n, sl, ln, q_F w_E di e', dl, dr)) :
    q_EX q_KD (d + 4) 70 0 [.ref 53, .int (nI l), .int (nI p), .int (nI st), .ref sa, .retAddr 0, .retAddr 0, .retAddr 0, .retAddr 0, .retAddr 0, .retAddr 0, .retAddr 0, .retAddr 0, .retAddr 0, .retAddr 0] [] (n, sl, ln, di, dl, dr) Q := by
  refine g70_0 hg hks hns ?_
  rw [q_anI]
  have hsub : ∀ i, (q_an p st).testBit i = true → p.testBit i = true := fun i hi => by
    rw [q_anT] at hi
    revert hi
    cases p.testBit i <;> cases st.testBit i <;> decide
  have h0 := c_lis26 (d := d) (sl := sl) (dl := dl) (Q := Q) (l := l) (p := p) (m := q_an p st) (sa := sa) hl hpl hsub (q_anlt (k := 6) hpl.1) hks hns hls hsE hW hg 6 0 0 (q_u (q_u di 53 5 0) 53 6 0) rfl (Nat.zero_le _) (by decide) (fun i hi => by rw [Nat.zero_testBit] at hi; exact absurd hi (by decide)) rfl rfl hCE k
  have e0 : q_an (q_an p st) 0 = q_an p st := by
    apply Nat.eq_of_testBit_eq
    intro i
    rw [q_anT, Nat.zero_testBit]
    cases (q_an p st).testBit i <;> rfl
  rw [e0, w_ls0] at h0
  have e1 : q_F w_E di (q_u (q_u di 53 5 0) 53 6 0) = q_u (q_u di 53 5 0) 53 6 0 := by
    rw [← q_Fu rfl, ← q_Fu rfl, q_Fid]
  rw [e1] at h0
  exact h0
end
