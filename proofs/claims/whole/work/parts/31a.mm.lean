/-! THE MODEL READS: its heap while it does -/
def t_mfr (T : Nat) (D0 D : Nat → Nat → Int32) : Prop := (∀ k, ¬ k = 67 → ¬ k = 70 → ¬ k = 72 → D k = D0 k) ∧ (∀ i, ¬ i = 7 → ¬ i = 8 → ¬ i = 9 → ¬ i = 10 → ¬ i = 14 → ¬ i = 17 → ¬ i = 18 → ¬ i = 19 → D 67 i = D0 67 i) ∧ (∀ i, i < 680 * T + 75 → D 70 i = D0 70 i)
def t_stk (r : Nat → Int32) : List Nat → Prop
  | [] => True
  | x :: S => x ≤ 40 ∧ r S.length = nI x ∧ t_stk r S
def t_cod (r : Nat → Int32) (T : Nat) (cs : List (Nat × Nat)) : Prop := ∀ i, i < cs.length → r (680 * T + 75 + 2 * i) = nI (cs.getD i (0, 0)).1 ∧ r (680 * T + 75 + 2 * i + 1) = nI (cs.getD i (0, 0)).2
/-- at token j, d open, w: whole, pile S (its top first), codes cs -/
def t_MM (D0 : Nat → Nat → Int32) (N : Nat) (bt : Nat → Int32) (T j d : Nat) (w : Int32) (S : List Nat) (cs : List (Nat × Nat)) (D : Nat → Nat → Int32) (dl : Nat → Nat → Int64) : Prop :=
  t_mfr T D0 D ∧ t_ms (D 67) (dl 67 11) N bt (t_bg N bt j) (t_tc N bt j) (t_ps N bt (j + 1)) ∧ D 67 14 = nI cs.length ∧ D 67 17 = nI S.length ∧ D 67 18 = nI d ∧ D 67 19 = w ∧ t_stk (D 72) S ∧ t_cod (D 70) T cs
def t_mx (D0 : Nat → Nat → Int32) (N : Nat) (bt : Nat → Int32) (T L : Nat) : Prop := N ≤ 300 ∧ (∀ i, i < N → (0 : Int32) ≤ bt i) ∧ D0 67 4 = nI N ∧ (∀ i, i < N → D0 71 i = bt i) ∧ D0 67 12 = nI (680 * T) ∧ T < 4 ∧ D0 67 20 = nI L ∧ L < 3
theorem t_stk_up {r : Nat → Int32} {i : Nat} {v : Int32} : ∀ {S : List Nat}, t_stk r S → S.length ≤ i → t_stk (va_up r i v) S := by
  intro S
  induction S with
  | nil => intro _ _; exact trivial
  | cons x S ih =>
    intro h hi
    have hi' : S.length + 1 ≤ i := hi
    exact ⟨h.1, by rw [q_upN _ _ (by omega)]; exact h.2.1, ih h.2.2 (by omega)⟩
theorem t_getD_l (cs : List (Nat × Nat)) (x : Nat × Nat) : (cs ++ [x]).getD cs.length (0, 0) = x := by
  rw [List.getD_eq_getElem?_getD, List.getElem?_append_right (Nat.le_refl _), Nat.sub_self]; rfl
theorem t_getD_a (cs ds : List (Nat × Nat)) {i : Nat} (h : i < cs.length) : (cs ++ ds).getD i (0, 0) = cs.getD i (0, 0) := by
  rw [List.getD_eq_getElem?_getD, List.getD_eq_getElem?_getD, List.getElem?_append_left h]
theorem t_cod_s {r : Nat → Int32} {T o v : Nat} {cs : List (Nat × Nat)} (h : t_cod r T cs) : t_cod (va_up (va_up r (680 * T + 75 + 2 * cs.length) (nI o)) (680 * T + 75 + 2 * cs.length + 1) (nI v)) T (cs ++ [(o, v)]) := by
  intro i hi
  rw [List.length_append] at hi
  have hi' : i < cs.length + 1 := hi
  by_cases e : i = cs.length
  · subst e
    rw [t_getD_l]
    refine ⟨?_, q_upE _ _ _⟩
    rw [q_upN _ _ (by omega)]; exact q_upE _ _ _
  · rw [t_getD_a _ _ (by omega), q_upN _ _ (by omega), q_upN _ _ (by omega), q_upN _ _ (by omega), q_upN _ _ (by omega)]
    exact h i (by omega)
section
variable {dd n sl : Nat} {ln : Nat → Nat} {dl : Nat → Nat → Int64} {dr : Nat → Nat → Option Nat} {Q : Option Value → q_H → Prop} {D0 D : Nat → Nat → Int32} {N T L j d d' x : Nat} {bt : Nat → Int32} {w w' : Int32} {S : List Nat} {cs : List (Nat × Nat)}
theorem t_mfr67 {i : Nat} {v : Int32} (h : t_mfr T D0 D) (hi : i = 14 ∨ i = 17 ∨ i = 18 ∨ i = 19) : t_mfr T D0 (q_u D 67 i v) :=
  ⟨fun k a b c => by rw [q_uR a]; exact h.1 k a b c, fun k a b c e f g p q => by rw [q_uN _ _ _ _ _ (show k ≠ i by omega)]; exact h.2.1 k a b c e f g p q, fun k hk => h.2.2 k hk⟩
theorem t_MM18 (h : t_MM D0 N bt T j d w S cs D dl) : t_MM D0 N bt T j d' w S cs (q_u D 67 18 (nI d')) dl :=
  ⟨t_mfr67 h.1 (Or.inr (Or.inr (Or.inl rfl))), h.2.1, h.2.2.1, h.2.2.2.1, q_uE _ _ _ _, h.2.2.2.2.2.1, h.2.2.2.2.2.2⟩
theorem t_MM19 (h : t_MM D0 N bt T j d w S cs D dl) : t_MM D0 N bt T j d w' S cs (q_u D 67 19 w') dl :=
  ⟨t_mfr67 h.1 (Or.inr (Or.inr (Or.inr rfl))), h.2.1, h.2.2.1, h.2.2.2.1, h.2.2.2.2.1, q_uE _ _ _ _, h.2.2.2.2.2.2⟩
theorem t_MM17 (h : t_MM D0 N bt T j d w (x :: S) cs D dl) : t_MM D0 N bt T j d w S cs (q_u D 67 17 (nI S.length)) dl :=
  ⟨t_mfr67 h.1 (Or.inr (Or.inl rfl)), h.2.1, h.2.2.1, q_uE _ _ _ _, h.2.2.2.2.1, h.2.2.2.2.2.1, h.2.2.2.2.2.2.1.2.2, h.2.2.2.2.2.2.2⟩
theorem t_MM17e (h : t_MM D0 N bt T j d w S cs D dl) : t_MM D0 N bt T j d w [] cs (q_u D 67 17 0) dl :=
  ⟨t_mfr67 h.1 (Or.inr (Or.inl rfl)), h.2.1, h.2.2.1, q_uE _ _ _ _, h.2.2.2.2.1, h.2.2.2.2.2.1, trivial, h.2.2.2.2.2.2.2⟩
/-- emit -/
theorem c_emM {o v : Nat} (hx : t_mx D0 N bt T L) (h : t_MM D0 N bt T j d w S cs D dl) (hW : cs.length < 300) (hg : q_Gr n ln dr) (kk : ∀ D', t_MM D0 N bt T j d w S (cs ++ [(o, v)]) D' dl → Q none (n, sl, ln, D', dl, dr)) : q_EX q_KD dd 145 0 [.ref 67, .int (nI o), .int (nI v)] [] (n, sl, ln, D, dl, dr) Q := by
  obtain ⟨h1, h2, h3, h4, h5, h6, h7, h8⟩ := h
  have e12 : D 67 12 = nI (680 * T) := by rw [h1.2.1 12 (by decide) (by decide) (by decide) (by decide) (by decide) (by decide) (by decide) (by decide)]; exact hx.2.2.2.2.1
  have hT := hx.2.2.2.2.2.1
  have ei : D 67 12 + 75 + 2 * D 67 14 = nI (680 * T + 75 + 2 * cs.length) := by
    rw [e12, h3, show (75 : Int32) = nI 75 from rfl, show (2 : Int32) = nI 2 from rfl, nI_add, nI_mulN, nI_add]
  refine g145_0 hg (by rw [ei]; exact vp_in_nI (by omega) (by decide)) (by rw [ei, nI_1]; exact vp_in_nI (by omega) (by decide)) ?_
  rw [ei, nI_1, nI_clamp (show 680 * T + 75 + 2 * cs.length < 2 ^ 31 by omega), nI_clamp (show 680 * T + 75 + 2 * cs.length + 1 < 2 ^ 31 by omega), h3, nI_1]
  refine kk _ ⟨⟨fun k a b c => ?_, fun i a b c e f g p q => ?_, fun i hi => ?_⟩, h2, ?_, h4, h5, h6, h7, ?_⟩
  · rw [q_uR a, q_uR b, q_uR b]; exact h1.1 k a b c
  · rw [q_uN _ _ _ _ _ (show i ≠ 14 by omega)]
    show (q_u (q_u D 70 _ _) 70 _ _) 67 i = _
    rw [q_uR (show ¬ (67 : Nat) = 70 by decide), q_uR (show ¬ (67 : Nat) = 70 by decide)]
    exact h1.2.1 i a b c e f g p q
  · rw [q_uR (show ¬ (70 : Nat) = 67 by decide), q_uN _ _ _ _ _ (show i ≠ 680 * T + 75 + 2 * cs.length + 1 by omega), q_uN _ _ _ _ _ (show i ≠ 680 * T + 75 + 2 * cs.length by omega)]
    exact h1.2.2 i hi
  · rw [q_uE, List.length_append]; rfl
  · rw [q_uR (show ¬ (70 : Nat) = 67 by decide)]
    have : (q_u (q_u D 70 (680 * T + 75 + 2 * cs.length) (nI o)) 70 (680 * T + 75 + 2 * cs.length + 1) (nI v)) 70 = va_up (va_up (D 70) (680 * T + 75 + 2 * cs.length) (nI o)) (680 * T + 75 + 2 * cs.length + 1) (nI v) := rfl
    rw [this]
    exact t_cod_s h8
/-- push -/
theorem c_puM (h : t_MM D0 N bt T j d w S cs D dl) (hS : S.length < 160) (hx40 : x ≤ 40) (hg : q_Gr n ln dr) (kk : ∀ D', t_MM D0 N bt T j d w (x :: S) cs D' dl → Q none (n, sl, ln, D', dl, dr)) : q_EX q_KD dd 146 0 [.ref 67, .int (nI x)] [] (n, sl, ln, D, dl, dr) Q := by
  obtain ⟨h1, h2, h3, h4, h5, h6, h7, h8⟩ := h
  refine g146_0 hg (by rw [h4]; exact vp_in_nI hS (by decide)) ?_
  rw [h4, nI_1, nI_clamp (show S.length < 2 ^ 31 by omega)]
  refine kk _ ⟨⟨fun k a b c => ?_, fun i a b c e f g p q => ?_, fun i hi => h1.2.2 i hi⟩, h2, h3, q_uE _ _ _ _, h5, h6, ?_, h8⟩
  · rw [q_uR a, q_uR c]; exact h1.1 k a b c
  · rw [q_uN _ _ _ _ _ (show i ≠ 17 by omega), q_uR (show ¬ (67 : Nat) = 72 by decide)]
    exact h1.2.1 i a b c e f g p q
  · rw [q_uR (show ¬ (72 : Nat) = 67 by decide)]
    have : (q_u D 72 S.length (nI x)) 72 = va_up (D 72) S.length (nI x) := rfl
    rw [this]
    exact ⟨hx40, q_upE _ _ _, t_stk_up h7 (Nat.le_refl _)⟩
/-- nextToken -/
theorem c_nxM (hx : t_mx D0 N bt T L) (h : t_MM D0 N bt T j d w S cs D dl) (hg : q_Gr n ln dr) (kk : ∀ D' dl', t_MM D0 N bt T (j + 1) d w S cs D' dl' → Q none (n, sl, ln, D', dl', dr)) : q_EX q_KD (dd + 3) 127 0 [.ref 67, .retAddr 0, .retAddr 0] [] (n, sl, ln, D, dl, dr) Q := by
  obtain ⟨h1, h2, h3, h4, h5, h6, h7, h8⟩ := h
  have hq := t_seq N bt (j + 1)
  refine c_next hx.1 hx.2.1 hg _ (t_ps N bt (j + 1)) D (Nat.le_refl _) hq ?_ ?_ h2.1 (fun D' dl' f1 f2 => kk D' dl' ⟨⟨fun k a b c => ?_, fun i a b c e f g p q => ?_, fun i hi => ?_⟩, f2, ?_, ?_, ?_, ?_, ?_, ?_⟩)
  · rw [h1.2.1 4 (by decide) (by decide) (by decide) (by decide) (by decide) (by decide) (by decide) (by decide)]; exact hx.2.2.1
  · rw [h1.1 71 (by decide) (by decide) (by decide)]; exact hx.2.2.2.1
  · rw [f1.1 k a]; exact h1.1 k a b c
  · rw [f1.2 i a b c e]; exact h1.2.1 i a b c e f g p q
  · rw [f1.1 70 (by decide)]; exact h1.2.2 i hi
  · rw [f1.2 14 (by decide) (by decide) (by decide) (by decide)]; exact h3
  · rw [f1.2 17 (by decide) (by decide) (by decide) (by decide)]; exact h4
  · rw [f1.2 18 (by decide) (by decide) (by decide) (by decide)]; exact h5
  · rw [f1.2 19 (by decide) (by decide) (by decide) (by decide)]; exact h6
  · rw [f1.1 72 (by decide)]; exact h7
  · rw [f1.1 70 (by decide)]; exact h8
end
