/-! TEXTS: bytes and tokens -/
/-- the byte at k; N bytes -/
def t_by (N : Nat) (bt : Nat → Int32) (k : Nat) : Int32 := if k < N then bt k else -1
def t_bl (x : Int32) : Prop := x = 32 ∨ x = 10
def t_le (x : Int32) : Prop := (97 ≤ x ∧ x ≤ 122) ∨ (65 ≤ x ∧ x ≤ 90)
def t_dg (x : Int32) : Prop := 48 ≤ x ∧ x ≤ 57
section
variable {d n sl : Nat} {ln : Nat → Nat} {di : Nat → Nat → Int32} {dl : Nat → Nat → Int64} {dr : Nat → Nat → Option Nat} {Q : Option Value → q_H → Prop}
theorem c_isBl {x : Int32} (hg : q_Gr n ln dr) (k1 : t_bl x → Q (some (.int 1)) (n, sl, ln, di, dl, dr)) (k0 : ¬ t_bl x → Q (some (.int 0)) (n, sl, ln, di, dl, dr)) : q_EX q_KD d 25 0 [.int x] [] (n, sl, ln, di, dl, dr) Q :=
  g25_0 hg (fun e => k1 (Or.inl e)) (fun e1 e2 => k0 (fun z => z.elim e1 e2)) (fun _ e => k1 (Or.inr e))
theorem c_isLe {x : Int32} (hg : q_Gr n ln dr) (k1 : t_le x → Q (some (.int 1)) (n, sl, ln, di, dl, dr)) (k0 : ¬ t_le x → Q (some (.int 0)) (n, sl, ln, di, dl, dr)) : q_EX q_KD d 26 0 [.int x] [] (n, sl, ln, di, dl, dr) Q :=
  g26_0 hg (fun a b => k0 (fun z => z.elim (fun y => q_not_lt y.1 a) (fun y => q_not_lt y.1 b))) (fun a _ b => k0 (fun z => z.elim (fun y => q_not_lt y.1 a) (fun y => q_not_lt y.2 b))) (fun _ a b => k1 (Or.inr ⟨a, b⟩)) (fun a b => k1 (Or.inl ⟨a, b⟩)) (fun _ a b => k0 (fun z => z.elim (fun y => q_not_lt y.2 a) (fun y => q_not_lt y.1 b))) (fun _ a _ b => k0 (fun z => z.elim (fun y => q_not_lt y.2 a) (fun y => q_not_lt y.2 b))) (fun _ _ a b => k1 (Or.inr ⟨a, b⟩))
theorem c_isDg {x : Int32} (hg : q_Gr n ln dr) (k1 : t_dg x → Q (some (.int 1)) (n, sl, ln, di, dl, dr)) (k0 : ¬ t_dg x → Q (some (.int 0)) (n, sl, ln, di, dl, dr)) : q_EX q_KD d 28 0 [.int x] [] (n, sl, ln, di, dl, dr) Q :=
  g28_0 hg (fun a => k0 (fun z => q_not_lt z.1 a)) (fun _ a => k0 (fun z => q_not_lt z.2 a)) (fun a b => k1 ⟨a, b⟩)
/-- Tokens.sign -/
theorem c_sign {N k : Nat} {bt : Nat → Int32} (hN : N ≤ 300) (hk : k ≤ 1000) (h3 : di 40 3 = nI N) (hb : ∀ i, i < N → di 41 i &&& 255 = bt i) (hg : q_Gr n ln dr) (kk : Q (some (.int (t_by N bt k))) (n, sl, ln, di, dl, dr)) : q_EX q_KD d 24 0 [.ref 40, .int (nI k)] [] (n, sl, ln, di, dl, dr) Q := by
  have kn : (nI k).toNatClampNeg = k := nI_clamp (by omega)
  unfold t_by at kk
  refine g24_0 hg (fun w => absurd w (nI_pos (by omega))) (fun _ w => ?_) (fun _ w w2 => ?_) (fun _ _ w => ?_) (fun _ w _ => ?_)
  · rw [h3, nI_leI (by omega) (by omega)] at w
    rwa [if_neg (by omega)] at kk
  · rw [h3, nI_ltI (by omega) (by omega)] at w
    exact absurd ((nI_leI (a := 300) (b := k) (by decide) (by omega)).mp w2) (by omega)
  · exact vp_in_nI ((nI_ltI (a := k) (b := 300) (by omega) (by decide)).mp w) (by decide)
  · rw [h3, nI_ltI (by omega) (by omega)] at w
    rw [if_pos w, ← hb k w] at kk
    rw [kn]; exact kk
end
/-- a run of p from i on ends at e -/
def t_re (p : Nat → Prop) (i e : Nat) : Prop := i ≤ e ∧ (∀ k, i ≤ k → k < e → p k) ∧ ¬ p e
theorem t_re_s {p : Nat → Prop} {i e : Nat} (h : t_re p i e) (hp : p i) : t_re p (i + 1) e := by
  obtain ⟨h1, h2, h3⟩ := h
  have : ¬ i = e := fun z => h3 (by rw [← z]; exact hp)
  exact ⟨by omega, fun k a b => h2 k (by omega) b, h3⟩
theorem t_re_0 {p : Nat → Prop} {i e : Nat} (h : t_re p i e) (hp : ¬ p i) : e = i := by
  obtain ⟨h1, h2, h3⟩ := h
  rcases Nat.lt_or_ge i e with y | y
  · exact absurd (h2 i (Nat.le_refl _) y) hp
  · omega
theorem t_re_c {p : Nat → Prop} {i e : Nat} (h : t_re p (i + 1) e) (hp : p i) : t_re p i e := by
  obtain ⟨h1, h2, h3⟩ := h
  refine ⟨by omega, fun k a b => ?_, h3⟩
  by_cases z : k = i
  · rw [z]; exact hp
  · exact h2 k (by omega) b
theorem t_re_u {p : Nat → Prop} {i e e' : Nat} (h : t_re p i e) (h' : t_re p i e') : e = e' := by
  obtain ⟨h1, h2, h3⟩ := h
  obtain ⟨g1, g2, g3⟩ := h'
  rcases Nat.lt_trichotomy e e' with y | y | y
  · exact absurd (g2 e h1 y) h3
  · exact y
  · exact absurd (h2 e' g1 y) g3
theorem t_re_x {p : Nat → Prop} {N : Nat} (hN : ∀ k, N ≤ k → ¬ p k) : ∀ (c i : Nat), N ≤ i + c → ∃ e, t_re p i e ∧ (i ≤ N → e ≤ N) := by
  intro c
  induction c with
  | zero => intro i h; exact ⟨i, ⟨Nat.le_refl _, fun k a b => absurd b (by omega), hN i (by omega)⟩, fun h => h⟩
  | succ c ih =>
    intro i h
    by_cases hp : p i
    · obtain ⟨e, e1, e2⟩ := ih (i + 1) (by omega)
      refine ⟨e, t_re_c e1 hp, fun hi => e2 ?_⟩
      rcases Nat.lt_or_ge i N with y | y
      · exact y
      · exact absurd hp (hN i y)
    · exact ⟨i, ⟨Nat.le_refl _, fun k a b => absurd b (by omega), hp⟩, fun h => h⟩
def t_pl (N : Nat) (bt : Nat → Int32) (k : Nat) : Prop := k < N ∧ t_le (bt k)
def t_pd (N : Nat) (bt : Nat → Int32) (k : Nat) : Prop := k < N ∧ t_dg (bt k)
def t_pb (N : Nat) (bt : Nat → Int32) (k : Nat) : Prop := k < N ∧ t_bl (bt k)
section
variable {d n sl : Nat} {ln : Nat → Nat} {di : Nat → Nat → Int32} {dl : Nat → Nat → Int64} {dr : Nat → Nat → Option Nat} {Q : Option Value → q_H → Prop} {N : Nat} {bt : Nat → Int32}
/-- Tokens.behind, letters -/
theorem c_beL4 {e : Nat} (hN : N ≤ 300) (h3 : di 40 3 = nI N) (hb : ∀ i, i < N → di 41 i &&& 255 = bt i) (hg : q_Gr n ln dr) (he : e ≤ N) (kk : Q (some (.int (nI e))) (n, sl, ln, di, dl, dr)) : ∀ (c i : Nat), i + c = e → t_re (t_pl N bt) i e → q_EX q_KD (d + 1) 27 4 [.ref 40, .retAddr 0, .int 1, .int (nI i)] [] (n, sl, ln, di, dl, dr) Q := by
  intro c
  induction c with
  | zero =>
    intro i hi h
    have ei : i = e := by omega
    subst ei
    refine g27_4 hg (fun _ => kk) (fun _ w => absurd w (by decide)) (fun w _ => c_sign hN (by omega) h3 hb hg (g27_21 hg (c_isLe hg (fun y => ?_) (fun _ => g27_24 hg (fun _ => kk) (fun w => absurd rfl w)))))
    rw [h3, nI_ltI (by omega) (by omega)] at w
    unfold t_by at y
    rw [if_pos w] at y
    exact absurd ⟨w, y⟩ h.2.2
  | succ c ih =>
    intro i hi h
    have hp := h.2.1 i (Nat.le_refl _) (by omega)
    refine g27_4 hg (fun w => ?_) (fun _ w => absurd w (by decide)) (fun w _ => c_sign hN (by omega) h3 hb hg (g27_21 hg (c_isLe hg (fun _ => g27_24 hg (fun z => absurd z (by decide)) (fun _ => ?_)) (fun y => ?_))))
    · rw [h3, nI_leI (by omega) (by omega)] at w
      have := hp.1
      omega
    · rw [nI_1]; exact ih (i + 1) (by omega) (t_re_s h hp)
    · unfold t_by at y
      rw [if_pos hp.1] at y
      exact absurd hp.2 y
theorem c_beD4 {e : Nat} (hN : N ≤ 300) (h3 : di 40 3 = nI N) (hb : ∀ i, i < N → di 41 i &&& 255 = bt i) (hg : q_Gr n ln dr) (he : e ≤ N) (kk : Q (some (.int (nI e))) (n, sl, ln, di, dl, dr)) : ∀ (c i : Nat), i + c = e → t_re (t_pd N bt) i e → q_EX q_KD (d + 1) 27 4 [.ref 40, .retAddr 0, .int 0, .int (nI i)] [] (n, sl, ln, di, dl, dr) Q := by
  intro c
  induction c with
  | zero =>
    intro i hi h
    have ei : i = e := by omega
    subst ei
    refine g27_4 hg (fun _ => kk) (fun w _ => c_sign hN (by omega) h3 hb hg (g27_35 hg (c_isDg hg (fun y => ?_) (fun _ => g27_38 hg (fun _ => kk) (fun w => absurd rfl w))))) (fun _ w => absurd rfl w)
    rw [h3, nI_ltI (by omega) (by omega)] at w
    unfold t_by at y
    rw [if_pos w] at y
    exact absurd ⟨w, y⟩ h.2.2
  | succ c ih =>
    intro i hi h
    have hp := h.2.1 i (Nat.le_refl _) (by omega)
    refine g27_4 hg (fun w => ?_) (fun w _ => c_sign hN (by omega) h3 hb hg (g27_35 hg (c_isDg hg (fun _ => g27_38 hg (fun z => absurd z (by decide)) (fun _ => ?_)) (fun y => ?_)))) (fun _ w => absurd rfl w)
    · rw [h3, nI_leI (by omega) (by omega)] at w
      have := hp.1
      omega
    · rw [nI_1]; exact ih (i + 1) (by omega) (t_re_s h hp)
    · unfold t_by at y
      rw [if_pos hp.1] at y
      exact absurd hp.2 y
theorem c_beL {p e : Nat} (hN : N ≤ 300) (h3 : di 40 3 = nI N) (hb : ∀ i, i < N → di 41 i &&& 255 = bt i) (hg : q_Gr n ln dr) (he : e ≤ N) (h : t_re (t_pl N bt) (p + 1) e) (kk : Q (some (.int (nI e))) (n, sl, ln, di, dl, dr)) : q_EX q_KD (d + 1) 27 0 [.ref 40, .int (nI p), .int 1, .retAddr 0] [] (n, sl, ln, di, dl, dr) Q := by
  refine g27_0 hg ?_
  rw [nI_1]
  exact c_beL4 hN h3 hb hg he kk (e - (p + 1)) (p + 1) (by have := h.1; omega) h
theorem c_beD {p e : Nat} (hN : N ≤ 300) (h3 : di 40 3 = nI N) (hb : ∀ i, i < N → di 41 i &&& 255 = bt i) (hg : q_Gr n ln dr) (he : e ≤ N) (h : t_re (t_pd N bt) (p + 1) e) (kk : Q (some (.int (nI e))) (n, sl, ln, di, dl, dr)) : q_EX q_KD (d + 1) 27 0 [.ref 40, .int (nI p), .int 0, .retAddr 0] [] (n, sl, ln, di, dl, dr) Q := by
  refine g27_0 hg ?_
  rw [nI_1]
  exact c_beD4 hN h3 hb hg he kk (e - (p + 1)) (p + 1) (by have := h.1; omega) h
end
