/-! THE CLASS READS: heaps while it does -/
def t_39 (r : Nat → Int32) (x y z A : Int32) : Nat → Int32 := va_up (va_up (va_up (va_up r 7 x) 8 y) 9 z) 12 A
theorem t_39_7 {r : Nat → Int32} {x y z A x' : Int32} : va_up (t_39 r x y z A) 7 x' = t_39 r x' y z A := by
  funext i
  unfold t_39
  by_cases h7 : i = 7
  · subst h7; rfl
  · rw [q_upN _ _ h7]
    by_cases h12 : i = 12
    · subst h12; rfl
    · rw [q_upN _ _ h12, q_upN _ _ h12]
      by_cases h9 : i = 9
      · subst h9; rfl
      · rw [q_upN _ _ h9, q_upN _ _ h9]
        by_cases h8 : i = 8
        · subst h8; rfl
        · rw [q_upN _ _ h8, q_upN _ _ h8, q_upN _ _ h7, q_upN _ _ h7]
theorem t_39_8 {r : Nat → Int32} {x y z A y' : Int32} : va_up (t_39 r x y z A) 8 y' = t_39 r x y' z A := by
  funext i
  unfold t_39
  by_cases h8 : i = 8
  · subst h8; rfl
  · rw [q_upN _ _ h8]
    by_cases h12 : i = 12
    · subst h12; rfl
    · rw [q_upN _ _ h12, q_upN _ _ h12]
      by_cases h9 : i = 9
      · subst h9; rfl
      · rw [q_upN _ _ h9, q_upN _ _ h9, q_upN _ _ h8, q_upN _ _ h8]
theorem t_39_9 {r : Nat → Int32} {x y z A z' : Int32} : va_up (t_39 r x y z A) 9 z' = t_39 r x y z' A := by
  funext i
  unfold t_39
  by_cases h9 : i = 9
  · subst h9; rfl
  · rw [q_upN _ _ h9]
    by_cases h12 : i = 12
    · subst h12; rfl
    · rw [q_upN _ _ h12, q_upN _ _ h12, q_upN _ _ h9, q_upN _ _ h9]
theorem t_39_12 {r : Nat → Int32} {x y z A A' : Int32} : va_up (t_39 r x y z A) 12 A' = t_39 r x y z A' := q_upup _ _ _ _
/-- reading, at token j, W codes written (in row r), A: a place is asked for -/
def t_LV (D : Nat → Nat → Int32) (tk : Nat → Int32) (j W : Nat) (A : Int32) (r : Nat → Int32) : Nat → Nat → Int32 := va_up (va_up D 39 (t_39 (D 39) (nI j) (tk j) (nI W) A)) 44 r
theorem t_LV_u {D : Nat → Nat → Int32} {f r : Nat → Int32} {i : Nat} {v : Int32} : q_u (va_up (va_up D 39 f) 44 r) 39 i v = va_up (va_up D 39 (va_up f i v)) 44 r := by
  funext k
  by_cases h : k = 39
  · subst h
    show va_up (va_up (va_up D 39 f) 44 r) 39 (va_up ((va_up (va_up D 39 f) 44 r) 39) i v) 39 = _
    rw [q_upE]; rfl
  · rw [q_uR h]
    by_cases h4 : k = 44
    · subst h4; rfl
    · rw [q_upN _ _ h4, q_upN _ _ h, q_upN _ _ h4, q_upN _ _ h]
/-- what reading stands on -/
def t_cx (D : Nat → Nat → Int32) (tk : Nat → Int32) (bg : Nat → Nat) (L C : Nat) : Prop := D 39 13 = 0 ∧ D 40 4 = nI C ∧ C ≤ 300 ∧ (∀ p, p ≤ C → D 42 p = tk p ∧ D 43 p = nI (bg p)) ∧ D 39 11 = nI L ∧ L < 3 ∧ (∀ i, i < 3 → D 3 i = q_nol.getD i 0)
/-- a fault has been found: fl at pl -/
def t_DD (D : Nat → Nat → Int32) (fl pl : Int32) (E : Nat → Nat → Int32) : Prop := (∀ k, ¬ k = 39 → ¬ k = 44 → E k = D k) ∧ ¬ fl = 0 ∧ E 39 13 = fl ∧ E 39 14 = pl ∧ E 39 8 = 131 ∧ (∃ W, W ≤ 300 ∧ E 39 9 = nI W) ∧ E 39 10 = D 39 10 ∧ E 39 11 = D 39 11
def t_em (r : Nat → Int32) (W : Nat) : List Int32 → (Nat → Int32)
  | [] => r
  | x :: xs => t_em (va_up r W x) (W + 1) xs
theorem t_em_app : ∀ (xs ys : List Int32) (r : Nat → Int32) (W : Nat), t_em r W (xs ++ ys) = t_em (t_em r W xs) (W + xs.length) ys := by
  intro xs
  induction xs with
  | nil => intro ys r W; rfl
  | cons x xs ih =>
    intro ys r W
    show t_em (va_up r W x) (W + 1) (xs ++ ys) = t_em (t_em (va_up r W x) (W + 1) xs) (W + (xs.length + 1)) ys
    rw [ih, show W + 1 + xs.length = W + (xs.length + 1) by omega]
def t_en (cs : List (Nat × Nat)) : List Int32 := cs.map (fun x => q_enc (nI x.1) (nI x.2))
theorem t_en_app (a b : List (Nat × Nat)) : t_en (a ++ b) = t_en a ++ t_en b := List.map_append
theorem t_en_len (a : List (Nat × Nat)) : (t_en a).length = a.length := List.length_map _
def t_as (L : Nat) (A : Int32) : List (Nat × Nat) → Int32
  | [] => A
  | x :: r => t_as L (if L = 0 ∧ x.1 = 1 ∧ (x.2 = 2 ∨ x.2 = 5) then 1 else A) r
theorem t_as_app (L : Nat) : ∀ (a b : List (Nat × Nat)) (A : Int32), t_as L A (a ++ b) = t_as L (t_as L A a) b := by
  intro a
  induction a with
  | nil => intro b A; rfl
  | cons x a ih => intro b A; exact ih b _
section
variable {d n sl : Nat} {ln : Nat → Nat} {dl : Nat → Nat → Int64} {dr : Nat → Nat → Option Nat} {Q : Option Value → q_H → Prop} {tk : Nat → Int32} {bg : Nat → Nat} {L C : Nat} {D : Nat → Nat → Int32} {j W : Nat} {A : Int32} {r : Nat → Int32}
theorem c_adv (hx : t_cx D tk bg L C) (hj : j < C) (hg : q_Gr n ln dr) (kk : Q none (n, sl, ln, t_LV D tk (j + 1) W A r, dl, dr)) : q_EX q_KD d 41 0 [.ref 39] [] (n, sl, ln, t_LV D tk j W A r, dl, dr) Q := by
  obtain ⟨x1, x2, x3, x4, x5, x6, x7⟩ := hx
  have e13 : t_LV D tk j W A r 39 13 = 0 := x1
  have e4 : t_LV D tk j W A r 40 4 = nI C := x2
  have e7 : t_LV D tk j W A r 39 7 = nI j := rfl
  refine g41_0 hg (fun w => absurd e13 w) (fun _ w => absurd w (by rw [e4, e7]; exact nI_ge hj (by omega))) (fun _ _ => by rw [e7, nI_1]; exact vp_in_nI (by omega) (by decide)) (fun _ _ => ?_)
  rw [e7, nI_1, nI_clamp (show j + 1 < 2 ^ 31 by omega)]
  have e42 : t_LV D tk j W A r 42 (j + 1) = tk (j + 1) := (x4 (j + 1) (by omega)).1
  rw [e42]
  unfold t_LV
  rw [t_LV_u, t_LV_u, t_39_7, t_39_8]
  exact kk
theorem c_emit {x : Int32} (hW : W < 300) (hg : q_Gr n ln dr) (kk : Q none (n, sl, ln, t_LV D tk j (W + 1) A (va_up r W x), dl, dr)) : q_EX q_KD d 46 0 [.ref 39, .int x] [] (n, sl, ln, t_LV D tk j W A r, dl, dr) Q := by
  have e9 : t_LV D tk j W A r 39 9 = nI W := rfl
  refine g46_0 hg (fun w => absurd w (by rw [e9]; exact nI_ge (b := 300) hW (by decide))) (fun _ => by rw [e9]; exact vp_in_nI hW (by decide)) (fun _ => ?_)
  rw [e9, nI_1, nI_clamp (show W < 2 ^ 31 by omega)]
  unfold t_LV
  rw [w_uup, t_LV_u, t_39_9]
  exact kk
theorem c_ref {x : Int32} (hx : t_cx D tk bg L C) (hx0 : ¬ x = 0) (hj : j ≤ C) (hW : W ≤ 300) (hg : q_Gr n ln dr) (kk : ∀ E, t_DD D x (nI (bg j)) E → Q none (n, sl, ln, E, dl, dr)) : q_EX q_KD d 40 0 [.ref 39, .int x] [] (n, sl, ln, t_LV D tk j W A r, dl, dr) Q := by
  obtain ⟨x1, x2, x3, x4, x5, x6, x7⟩ := hx
  have e13 : t_LV D tk j W A r 39 13 = 0 := x1
  have e7 : t_LV D tk j W A r 39 7 = nI j := rfl
  refine g40_0 hg (fun w => absurd e13 w) (fun _ => by rw [e7]; exact vp_in_nI (by omega) (by decide)) (fun _ => ?_)
  rw [e7, nI_clamp (show j < 2 ^ 31 by omega)]
  have e43 : t_LV D tk j W A r 43 j = nI (bg j) := (x4 j hj).2
  rw [e43]
  refine kk _ ⟨fun k h1 h2 => ?_, hx0, rfl, rfl, rfl, ⟨W, hW, rfl⟩, rfl, rfl⟩
  rw [q_uR h1, q_uR h1, q_uR h1]
  unfold t_LV
  rw [q_upN _ _ h2, q_upN _ _ h1]
/-- behind a fault -/
theorem c_refD {x fl pl : Int32} {E : Nat → Nat → Int32} (h : t_DD D fl pl E) (hg : q_Gr n ln dr) (kk : ∀ E', t_DD D fl pl E' → Q none (n, sl, ln, E', dl, dr)) : q_EX q_KD d 40 0 [.ref 39, .int x] [] (n, sl, ln, E, dl, dr) Q := by
  obtain ⟨h1, h2, h3, h4, h5, h6, h7, h8⟩ := h
  refine g40_0 hg (fun _ => kk _ ⟨fun k a b => by rw [q_uR a]; exact h1 k a b, h2, h3, h4, rfl, h6, h7, h8⟩) (fun w => absurd (h3.symm.trans w) h2) (fun w => absurd (h3.symm.trans w) h2)
theorem c_emitD {x fl pl : Int32} {E : Nat → Nat → Int32} (h : t_DD D fl pl E) (hg : q_Gr n ln dr) (kk : ∀ E', t_DD D fl pl E' → Q none (n, sl, ln, E', dl, dr)) : q_EX q_KD d 46 0 [.ref 39, .int x] [] (n, sl, ln, E, dl, dr) Q := by
  have h0 := h
  obtain ⟨h1, h2, h3, h4, h5, ⟨W, w1, w2⟩, h7, h8⟩ := h
  refine g46_0 hg (fun _ => kk _ h0) (fun w => ?_) (fun w => ?_)
  · rw [w2] at w ⊢
    exact vp_in_nI ((nI_ltI (b := 300) (by omega) (by decide)).mp w) (by decide)
  · rw [w2] at w ⊢
    have hW := (nI_ltI (b := 300) (by omega) (by decide)).mp w
    refine kk _ ⟨fun k a b => by rw [q_uR a, q_uR b]; exact h1 k a b, h2, h3, h4, h5, ⟨W + 1, by omega, by rw [nI_1]; exact q_uE _ _ _ _⟩, h7, h8⟩
theorem c_advD {fl pl : Int32} {E : Nat → Nat → Int32} (h : t_DD D fl pl E) (hg : q_Gr n ln dr) (kk : Q none (n, sl, ln, E, dl, dr)) : q_EX q_KD d 41 0 [.ref 39] [] (n, sl, ln, E, dl, dr) Q :=
  g41_0 hg (fun _ => kk) (fun w => absurd (h.2.2.1.symm.trans w) h.2.1) (fun w => absurd (h.2.2.1.symm.trans w) h.2.1) (fun w => absurd (h.2.2.1.symm.trans w) h.2.1)
theorem c_expD {x fl pl : Int32} {E : Nat → Nat → Int32} (h : t_DD D fl pl E) (hx : ¬ x = 131) (hg : q_Gr n ln dr) (kk : ∀ E', t_DD D fl pl E' → Q none (n, sl, ln, E', dl, dr)) : q_EX q_KD (d + 1) 51 0 [.ref 39, .int x] [] (n, sl, ln, E, dl, dr) Q :=
  g51_0 hg (fun _ => c_refD h hg (fun E' h' => g51_20 hg (kk E' h'))) (fun w => absurd (w.symm.trans h.2.2.2.2.1) hx)
/-- expect -/
theorem c_exp {x : Int32} (hx : t_cx D tk bg L C) (hj : j ≤ C) (hW : W ≤ 300) (hjC : tk j = x → j < C) (hg : q_Gr n ln dr) (k1 : tk j = x → Q none (n, sl, ln, t_LV D tk (j + 1) W A r, dl, dr)) (k0 : ¬ tk j = x → ∀ E, t_DD D 1 (nI (bg j)) E → Q none (n, sl, ln, E, dl, dr)) : q_EX q_KD (d + 1) 51 0 [.ref 39, .int x] [] (n, sl, ln, t_LV D tk j W A r, dl, dr) Q :=
  g51_0 hg (fun w => c_ref hx (by decide) hj hW hg (fun E h => g51_20 hg (k0 w E h))) (fun w => c_adv hx (hjC w) hg (g51_12 hg (k1 w)))
/-- opens -/
theorem c_opn {δ : Nat} (hx : t_cx D tk bg L C) (hδ : δ ≤ 8) (hj : j < C) (hW : W ≤ 300) (hg : q_Gr n ln dr) (k1 : δ < 8 → Q (some (.int 1)) (n, sl, ln, t_LV D tk (j + 1) W A r, dl, dr)) (k0 : 8 ≤ δ → ∀ E, t_DD D 3 (nI (bg j)) E → Q (some (.int 0)) (n, sl, ln, E, dl, dr)) : q_EX q_KD (d + 1) 45 0 [.ref 39, .int (nI δ)] [] (n, sl, ln, t_LV D tk j W A r, dl, dr) Q :=
  g45_0 hg (fun w => c_adv hx hj hg (g45_17 hg (k1 ((nI_ltI (b := 8) (by omega) (by decide)).mp w)))) (fun w => c_ref hx (by decide) (by omega) hW hg (fun E h => g45_11 hg (k0 ((nI_leI (a := 8) (by decide) (by omega)).mp w) E h)))
def t_rank (c : Int32) : Int32 := if c = 42 then 3 else if c = 43 then 2 else if c = 45 then 2 else if c = 47 then 3 else if c = 222 then 0 else if c = 223 then 1 else -1
theorem c_rank {di : Nat → Nat → Int32} {c : Int32} (hg : q_Gr n ln dr) (kk : Q (some (.int (t_rank c))) (n, sl, ln, di, dl, dr)) : q_EX q_KD d 52 0 [.int c] [] (n, sl, ln, di, dl, dr) Q := by
  unfold t_rank at kk
  refine g52_0 hg (fun e => ?_) (fun e => ?_) (fun e => ?_) (fun e => ?_) (fun e => ?_) (fun e => ?_) (fun a b e f g h => ?_)
  · rwa [if_pos e] at kk
  · subst e; exact kk
  · subst e; exact kk
  · subst e; exact kk
  · subst e; exact kk
  · subst e; exact kk
  · rwa [if_neg a, if_neg b, if_neg e, if_neg f, if_neg g, if_neg h] at kk
theorem c_isRel {di : Nat → Nat → Int32} {c : Int32} (hg : q_Gr n ln dr) (k1 : ¬ t_rc c < 0 → Q (some (.int 1)) (n, sl, ln, di, dl, dr)) (k0 : t_rc c < 0 → Q (some (.int 0)) (n, sl, ln, di, dl, dr)) : q_EX q_KD d 47 0 [.int c] [] (n, sl, ln, di, dl, dr) Q := by
  refine g47_0 hg (fun e => k1 (by subst e; decide)) (fun _ e => k1 (by subst e; decide)) (fun _ _ e => k1 (by subst e; decide)) (fun _ _ _ e => k1 (by subst e; decide)) (fun _ _ _ _ e => k1 (by subst e; decide)) (fun a b e f g h => k0 ?_) (fun _ _ _ _ _ e => k1 (by subst e; decide))
  unfold t_rc
  rw [if_neg a, if_neg g, if_neg b, if_neg h, if_neg e, if_neg f]
  decide
end
