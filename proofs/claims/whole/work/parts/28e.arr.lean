/-- the heap while orders are tried: D from di; the seats r63, the order row -/
def w_ZS (di D : Nat → Nat → Int32) (a tx : Nat → Int32) (P L M : Nat) (r63 row : Nat → Int32) : Prop := (∀ k, w_TT k = false → D k = di k) ∧ q_CE (D 54) (D 55) (D 56) a tx P L ∧ D 60 8 = nI M ∧ D 63 = r63 ∧ D 64 = row
def w_nxr (M : Nat) (row : Nat → Int32) : Nat → Int32 := match q_nx M row with | none => row | some r => r
theorem w_qc_s (a tx tk : Nat → Int32) (L M m f : Nat) (pl row : Nat → Int32) (least : Int32) (best : Nat → Int32) : w_qc a tx tk L M m (f + 1) pl row least best = w_qc a tx tk L M m f (w_pua row tk M 0 pl) (w_nxr M row) (if q_al a tx (w_pua row tk M 0 pl) m L < least then q_al a tx (w_pua row tk M 0 pl) m L else least) (if q_al a tx (w_pua row tk M 0 pl) m L < least then row else best) := rfl
theorem w_gr_nxr {M : Nat} {seat row : Nat → Int32} (hr : w_gr M seat row) : w_gr M seat (w_nxr M row) := by
  unfold w_nxr
  cases hn : q_nx M row with
  | none => exact hr
  | some r => exact w_gr_nx hr hn
section
variable {c d n sl : Nat} {ln : Nat → Nat} {di : Nat → Nat → Int32} {dl : Nat → Nat → Int64} {dr : Nat → Nat → Option Nat} {Q : Option Value → q_H → Prop} {a tx : Nat → Int32} {P L M : Nat}
theorem w_ZS_W {D : Nat → Nat → Int32} (hW : q_W n ln di dr a tx P L) (h : ∀ k, w_TT k = false → D k = di k) : q_W n ln D dr a tx P L := by
  refine q_W_cg hW (h 1 rfl) (by rw [h 7 rfl]) (by rw [h 7 rfl]) (h 8 rfl) (h 9 rfl) (h 13 rfl) (h 14 rfl) (fun k hk => h k ?_)
  cases hb : w_TT k with
  | false => rfl
  | true => have := w_TT_in hb; omega
theorem c_nextR {G : Nat → Nat → Int32} (hM : M ≤ 6) (h8 : G 60 8 = nI M) (hg : q_Gr n ln dr) (k : Q none (n, sl, ln, va_up G 64 (w_nxr M (G 64)), dl, dr)) : q_EX q_KD (d + 2) 99 0 [.ref 60, .retAddr 0, .retAddr 0, .retAddr 0, .retAddr 0] [] (n, sl, ln, G, dl, dr) Q := by
  have := c_nextX (d := d) (n := n) (sl := sl) (ln := ln) (dl := dl) (dr := dr) (Q := Q) (di := G) (row := G 64) hM h8 hg (fun e => by
    unfold w_nxr at k
    rwa [e] at k) (fun r e => by
    unfold w_nxr at k
    rwa [e] at k)
  rwa [q_upid] at this
set_option maxHeartbeats 1000000 in
theorem c_ar59 {N : Nat} {r63 : Nat → Int32} (hN : N < 2 ^ 31) (hM : M ≤ 6) (hgt : w_gt M r63) (hH : w_H n ln di dr a tx P L) (hg : q_Gr n ln dr) : ∀ (t x3 : Nat) (D : Nat → Nat → Int32) (row pl best : Nat → Int32) (lx : Nat) (lm : Int32), x3 + t = N → w_ZS di D a tx P L M r63 row → ¬ D 60 9 = 0 → w_gr M (q_pl a) row → (∀ p, p < 6 → q_pl a p = -1 → pl p < 0) → D 60 10 = nI lx → lx ≤ 991 → ((nI lx = lm ∧ ∀ s, s < 16 → D 66 s = q_fs r63 best (nI s) M 0) ∨ (lx = 991 ∧ lm = 1000000 ∧ 1 ≤ t)) →
    (∀ D' row', w_ZS di D' a tx P L M r63 row' → ¬ D' 60 9 = 0 → D' 60 10 = (w_qc a tx r63 L M (q_an 63 (q_sm a)) t pl row lm best).1 → (∀ s, s < 16 → D' 66 s = q_fs r63 (w_qc a tx r63 L M (q_an 63 (q_sm a)) t pl row lm best).2 (nI s) M 0) → Q none (n, sl, ln, D', dl, dr)) →
    q_EX q_KD (d + 6) 96 59 [.ref 60, .retAddr 0, .int (nI N), .int (nI x3), .retAddr 0] [] (n, sl, ln, D, dl, dr) Q := by
  intro t
  induction t with
  | zero =>
    intro x3 D row pl best lx lm hx hZ h9 hr hpl h10 hlx hinv k
    refine g96_59 hg (fun _ => ?_) (fun w => absurd w (nI_nlt (by omega) (by omega)))
    rcases hinv with ⟨i1, i2⟩ | ⟨_, _, i3⟩
    · exact k D row hZ h9 (by rw [h10, i1]; rfl) i2
    · omega
  | succ t ih =>
    intro x3 D row pl best lx lm hx hZ h9 hr hpl h10 hlx hinv k
    obtain ⟨z1, z2, z3, z4, z5⟩ := hZ
    rw [w_qc_s] at k
    obtain ⟨T, _, t2, t3⟩ := w_alb a tx (w_pua row r63 M 0 pl) (q_an 63 (q_sm a)) L 0 0
    have hL := hH.1.2.2.1
    have t3' : q_al a tx (w_pua row r63 M 0 pl) (q_an 63 (q_sm a)) L = nI T := t3
    rw [t3'] at k
    refine g96_59 hg (fun w => absurd w (nI_ge (by omega) (by omega))) (fun _ => ?_)
    have hor := w_al_or (a := a) (tx := tx) (L := L) (st := q_sm a) (tk := r63) (tk' := r63) (row := row) (row' := row) (pl := pl) (pl' := D 65) hr hgt (fun _ _ => rfl) (fun _ _ => rfl) hpl
    have st := c_ar67 (d := d + 5) (n := n) (sl := sl) (ln := ln) (dl := dl) (dr := dr) (Q := Q) (x2 := nI N) (x3 := nI x3) (di := D) hM z3 (fun k hk => by
      obtain ⟨p, p1, p2, _⟩ := hr.1 k hk
      exact ⟨p, p1, by rw [z5]; exact p2⟩) hg M 0 (D 65) (by omega) ?_
    · rw [q_upid] at st
      exact st
    rw [z5, z4]
    obtain ⟨E, hE⟩ : ∃ E, E = va_up D 65 (w_pua row r63 M 0 (D 65)) := ⟨_, rfl⟩
    rw [← hE]
    have E65 : E 65 = w_pua row r63 M 0 (D 65) := by rw [hE]; exact q_upE _ _ _
    have Eo : ∀ x, ¬ x = 65 → E x = D x := fun x hx => by rw [hE]; exact q_upN _ _ hx
    have Ef : ∀ k, w_TT k = false → E k = di k := fun k hk => (Eo k (w_TT_ne hk rfl)).trans (z1 k hk)
    refine c_sitH hg (g96_112 hg ?_)
    have e11 : q_sit (E 11) 6 0 0 = nI (w_si (q_pl a)) := by rw [w_sit6, Ef 11 rfl, w_si_cg hH.2.2.1]
    have e7 : E 7 11 = nI (q_sm a) := by rw [Ef 7 rfl]; exact hH.2.2.2.1
    have e60 : E 60 10 = nI lx := by rw [Eo 60 (by decide)]; exact h10
    rw [e11, e7, e60]
    have hls : ln 65 = 6 := hg.2.1 65 6 rfl
    have hCE : q_CE (E 54) (E 55) (E 56) a tx P L := by rw [Eo 54 (by decide), Eo 55 (by decide), Eo 56 (by decide)]; exact z2
    have hplc : w_pl (E 65) (w_si (q_pl a)) P := by
      rw [E65]
      refine ⟨w_siL _, fun j hj hb => ?_, fun i j hi hj hbi hbj hij => ?_⟩
      · rw [w_siT, decide_eq_true_iff] at hb
        obtain ⟨k0, k1, k2, k3⟩ := w_gr_pua (tk := r63) (pl := D 65) hr hj hb.2
        refine ⟨?_, ?_⟩
        · rcases Nat.lt_or_ge j P with y | y
          · exact y
          · exact absurd (hH.2.2.2.2.2.2.1 j y hj) hb.2
        · rw [k3]; exact hgt.1 k0 k1
      · rw [w_siT, decide_eq_true_iff] at hbi hbj
        obtain ⟨k0, k1, k2, k3⟩ := w_gr_pua (tk := r63) (pl := D 65) hr hi hbi.2
        obtain ⟨k0', k1', k2', k3'⟩ := w_gr_pua (tk := r63) (pl := D 65) hr hj hbj.2
        rw [k3, k3']
        intro e
        have ek := hgt.2 k0 k0' k1 k1' e
        subst ek
        rw [k2] at k2'
        exact hij ((nI_eq (by omega) (by omega)).mp k2')
    refine c_tog (d := d) (en := lx) (sa := 65) (di := E) (by omega) hplc rfl (q_lt hg rfl) hls rfl (w_ZS_W hH.1 Ef) hCE hg (fun e' y hy q1 q2 => ?_)
    have q2' := q2 T (by omega) (by rw [E65, hor]; exact t3')
    obtain ⟨G, hG⟩ : ∃ G, G = q_F w_E E e' := ⟨_, rfl⟩
    rw [← hG]
    have Gf : ∀ k, w_TT k = false → G k = di k := fun k hk => by rw [hG, q_Fo (w_TT_E hk)]; exact Ef k hk
    have Go : ∀ x, w_E x = false → ¬ x = 65 → G x = D x := fun x h1 h2 => by rw [hG, q_Fo h1]; exact Eo x h2
    have GCE : q_CE (G 54) (G 55) (G 56) a tx P L := by rw [hG]; exact q1
    have G60 : G 60 = D 60 := Go 60 rfl (by decide)
    have G63 : G 63 = r63 := by rw [Go 63 rfl (by decide)]; exact z4
    have G64 : G 64 = row := by rw [Go 64 rfl (by decide)]; exact z5
    have G66 : G 66 = D 66 := Go 66 rfl (by decide)
    have G10 : G 60 10 = nI lx := by rw [G60]; exact h10
    have hpl2 : ∀ p, p < 6 → q_pl a p = -1 → w_pua row r63 M 0 pl p < 0 := fun p hp hs => by
      rw [w_gr_pua_o hr hp hs]; exact hpl p hp hs
    have eT : nI T < lm ↔ T < lx := by
      rcases hinv with ⟨i1, _⟩ | ⟨i1, i2, _⟩
      · rw [← i1, nI_ltI (by omega) (by omega)]
      · rw [i2, i1, show (1000000 : Int32) = nI 1000000 from rfl, nI_ltI (by omega) (by omega)]
        omega
    refine g96_130 hg (fun w => ?_) (fun w => ?_)
    · rw [G10] at w
      have w' := (nI_leI (by omega) (by omega)).mp w
      have hTl : ¬ T < lx := by omega
      have hTm : ¬ nI T < lm := fun z => hTl (eT.mp z)
      rw [if_neg hTm, if_neg hTm] at k
      refine c_nextR (d := d + 3) (G := G) hM (by rw [G60]; exact z3) hg (g96_155 hg ?_)
      rw [nI_1, G64]
      refine ih (x3 + 1) _ (w_nxr M row) (w_pua row r63 M 0 pl) best lx lm (by omega) ⟨fun k hk => ?_, GCE, ?_, G63, rfl⟩ ?_ (w_gr_nxr hr) hpl2 G10 hlx ?_ k
      · rw [q_upN _ _ (w_TT_ne hk rfl)]; exact Gf k hk
      · show G 60 8 = nI M
        rw [G60]; exact z3
      · show ¬ G 60 9 = 0
        rw [G60]; exact h9
      · rcases hinv with ⟨i1, i2⟩ | ⟨i1, i2, _⟩
        · refine Or.inl ⟨i1, fun s hs => ?_⟩
          show G 66 s = _
          rw [G66]; exact i2 s hs
        · omega
    · rw [G10] at w
      have w' := (nI_ltI (by omega) (by omega)).mp w
      have hTl : T < lx := by omega
      have hyT : y = T := q2'.1 hTl
      have hTm : nI T < lm := eT.mpr hTl
      rw [if_pos hTm, if_pos hTm] at k
      rw [hyT]
      obtain ⟨G2, hG2⟩ : ∃ G2, G2 = q_u G 60 10 (nI T) := ⟨_, rfl⟩
      rw [← hG2]
      have G2o : ∀ x, ¬ x = 60 → G2 x = G x := fun x hx => by rw [hG2]; exact q_uR hx
      have G28 : G2 60 8 = nI M := by rw [hG2, q_uN _ _ _ _ _ (by decide), G60]; exact z3
      have G29 : ¬ G2 60 9 = 0 := by rw [hG2, q_uN _ _ _ _ _ (by decide), G60]; exact h9
      have G210 : G2 60 10 = nI T := by rw [hG2]; exact q_uE _ _ _ _
      have G263 : G2 63 = r63 := (G2o 63 (by decide)).trans G63
      have G264 : G2 64 = row := (G2o 64 (by decide)).trans G64
      refine c_kO (d := d + 4) (di := G2) hM G28 (by rw [G263]; exact hgt) hg (fun r' hr' => g96_151 hg ?_)
      rw [G263, G264] at hr'
      obtain ⟨G3, hG3⟩ : ∃ G3, G3 = va_up G2 66 r' := ⟨_, rfl⟩
      rw [← hG3]
      have G3o : ∀ x, ¬ x = 66 → G3 x = G2 x := fun x hx => by rw [hG3]; exact q_upN _ _ hx
      have G366 : G3 66 = r' := by rw [hG3]; exact q_upE _ _ _
      refine c_nextR (d := d + 3) (G := G3) hM (by rw [G3o 60 (by decide)]; exact G28) hg (g96_155 hg ?_)
      rw [nI_1, G3o 64 (by decide), G264]
      refine ih (x3 + 1) _ (w_nxr M row) (w_pua row r63 M 0 pl) row T (nI T) (by omega) ⟨fun k hk => ?_, ?_, ?_, ?_, rfl⟩ ?_ (w_gr_nxr hr) hpl2 ?_ (by omega) (Or.inl ⟨rfl, fun s hs => ?_⟩) k
      · rw [q_upN _ _ (w_TT_ne hk rfl), G3o k (w_TT_ne hk rfl), G2o k (w_TT_ne hk rfl)]; exact Gf k hk
      · show q_CE (G3 54) (G3 55) (G3 56) a tx P L
        rw [G3o 54 (by decide), G3o 55 (by decide), G3o 56 (by decide), G2o 54 (by decide), G2o 55 (by decide), G2o 56 (by decide)]; exact GCE
      · show G3 60 8 = nI M
        rw [G3o 60 (by decide)]; exact G28
      · show G3 63 = r63
        rw [G3o 63 (by decide)]; exact G263
      · show ¬ G3 60 9 = 0
        rw [G3o 60 (by decide)]; exact G29
      · show G3 60 10 = nI T
        rw [G3o 60 (by decide)]; exact G210
      · show G3 66 s = _
        rw [G366]; exact hr' s hs
end
