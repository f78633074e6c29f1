/-- as t_MM, but nothing is known of the pile -/
def t_MN (D0 : Nat → Nat → Int32) (N : Nat) (bt : Nat → Int32) (T j d : Nat) (cs : List (Nat × Nat)) (D : Nat → Nat → Int32) (dl : Nat → Nat → Int64) : Prop :=
  t_mfr T D0 D ∧ t_ms (D 67) (dl 67 11) N bt (t_bg N bt j) (t_tc N bt j) (t_ps N bt (j + 1)) ∧ D 67 14 = nI cs.length ∧ D 67 18 = nI d ∧ t_cod (D 70) T cs
section
variable {dd n sl : Nat} {ln : Nat → Nat} {dl : Nat → Nat → Int64} {dr : Nat → Nat → Option Nat} {Q : Option Value → q_H → Prop} {D0 D : Nat → Nat → Int32} {N T L j d d' : Nat} {bt : Nat → Int32} {w : Int32} {S : List Nat} {cs : List (Nat × Nat)}
theorem t_MN_of (h : t_MM D0 N bt T j d w S cs D dl) : t_MN D0 N bt T j d cs D dl := ⟨h.1, h.2.1, h.2.2.1, h.2.2.2.2.1, h.2.2.2.2.2.2.2⟩
theorem t_MN_sum (h : t_MN D0 N bt T j d cs D dl) : t_MM D0 N bt T j d 0 [] cs (q_u (q_u D 67 17 0) 67 19 0) dl :=
  ⟨t_mfr67 (t_mfr67 h.1 (Or.inr (Or.inl rfl))) (Or.inr (Or.inr (Or.inr rfl))), h.2.1, h.2.2.1, rfl, h.2.2.2.1, rfl, trivial, h.2.2.2.2⟩
theorem t_MN18 (h : t_MN D0 N bt T j d cs D dl) : t_MN D0 N bt T j d' cs (q_u D 67 18 (nI d')) dl :=
  ⟨t_mfr67 h.1 (Or.inr (Or.inr (Or.inl rfl))), h.2.1, h.2.2.1, q_uE _ _ _ _, h.2.2.2.2⟩
theorem c_nxN (hx : t_mx D0 N bt T L) (h : t_MN D0 N bt T j d cs D dl) (hg : q_Gr n ln dr) (kk : ∀ D' dl', t_MN D0 N bt T (j + 1) d cs D' dl' → Q none (n, sl, ln, D', dl', dr)) : q_EX q_KD (dd + 3) 127 0 [.ref 67, .retAddr 0, .retAddr 0] [] (n, sl, ln, D, dl, dr) Q := by
  obtain ⟨h1, h2, h3, h5, h8⟩ := h
  have hq := t_seq N bt (j + 1)
  refine c_next hx.1 hx.2.1 hg _ (t_ps N bt (j + 1)) D (Nat.le_refl _) hq ?_ ?_ h2.1 (fun D' dl' f1 f2 => kk D' dl' ⟨⟨fun k a b c => ?_, fun i a b c e f g p q => ?_, fun i hi => ?_⟩, f2, ?_, ?_, ?_⟩)
  · rw [h1.2.1 4 (by decide) (by decide) (by decide) (by decide) (by decide) (by decide) (by decide) (by decide)]; exact hx.2.2.1
  · rw [h1.1 71 (by decide) (by decide) (by decide)]; exact hx.2.2.2.1
  · rw [f1.1 k a]; exact h1.1 k a b c
  · rw [f1.2 i a b c e]; exact h1.2.1 i a b c e f g p q
  · rw [f1.1 70 (by decide)]; exact h1.2.2 i hi
  · rw [f1.2 14 (by decide) (by decide) (by decide) (by decide)]; exact h3
  · rw [f1.2 18 (by decide) (by decide) (by decide) (by decide)]; exact h5
  · rw [f1.1 70 (by decide)]; exact h8
end
