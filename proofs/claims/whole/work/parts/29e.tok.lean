/-! the tokens of a tape -/
/-- a sign and the byte behind it: the token, and how long it is -/
def t_sg (c c2 : Int32) : Int32 × Nat :=
  if c = 60 then (if c2 = 61 then (128, 2) else (c, 1)) else if c = 62 then (if c2 = 61 then (129, 2) else (c, 1))
  else if c = 61 ∨ c = 35 ∨ c = 43 ∨ c = 45 ∨ c = 42 ∨ c = 47 ∨ c = 40 ∨ c = 41 ∨ c = 59 then (c, 1) else (132, 1)
/-- the token at p is c and ends at q -/
def t_tk (N : Nat) (bt : Nat → Int32) (p : Nat) (c : Int32) (q : Nat) : Prop :=
  (p = N ∧ c = 131 ∧ q = N)
  ∨ (p < N ∧ t_le (bt p) ∧ t_re (t_pl N bt) p q ∧ c = t_wd (t_lst bt (q - p) p))
  ∨ (p < N ∧ t_dg (bt p) ∧ t_re (t_pd N bt) p q ∧ c = nI (300 + t_nu bt (q - p) p 0))
  ∨ (p < N ∧ ¬ t_le (bt p) ∧ ¬ t_dg (bt p) ∧ ¬ t_bl (bt p) ∧ c = (t_sg (bt p) (t_by N bt (p + 1))).1 ∧ q = p + (t_sg (bt p) (t_by N bt (p + 1))).2)
/-- from i on, the next token begins at p, is c and ends at q -/
def t_nt (N : Nat) (bt : Nat → Int32) (i p : Nat) (c : Int32) (q : Nat) : Prop := t_re (t_pb N bt) i p ∧ p ≤ N ∧ q ≤ N ∧ t_tk N bt p c q
theorem t_sg2 (c c2 : Int32) : (t_sg c c2).2 = 1 ∨ ((t_sg c c2).2 = 2 ∧ c2 = 61) := by
  unfold t_sg
  by_cases h1 : c = 60
  · rw [if_pos h1]
    by_cases h2 : c2 = 61
    · rw [if_pos h2]; exact Or.inr ⟨rfl, h2⟩
    · rw [if_neg h2]; exact Or.inl rfl
  · rw [if_neg h1]
    by_cases h3 : c = 62
    · rw [if_pos h3]
      by_cases h2 : c2 = 61
      · rw [if_pos h2]; exact Or.inr ⟨rfl, h2⟩
      · rw [if_neg h2]; exact Or.inl rfl
    · rw [if_neg h3]
      by_cases h4 : c = 61 ∨ c = 35 ∨ c = 43 ∨ c = 45 ∨ c = 42 ∨ c = 47 ∨ c = 40 ∨ c = 41 ∨ c = 59
      · rw [if_pos h4]; exact Or.inl rfl
      · rw [if_neg h4]; exact Or.inl rfl
theorem t_sg_e (c c2 : Int32) : (t_sg c c2).1 = 128 ∨ (t_sg c c2).1 = 129 ∨ (t_sg c c2).1 = 132 ∨ ((t_sg c c2).1 = c ∧ (c = 60 ∨ c = 62 ∨ c = 61 ∨ c = 35 ∨ c = 43 ∨ c = 45 ∨ c = 42 ∨ c = 47 ∨ c = 40 ∨ c = 41 ∨ c = 59)) := by
  unfold t_sg
  by_cases h1 : c = 60
  · rw [if_pos h1]
    by_cases h2 : c2 = 61
    · rw [if_pos h2]; exact Or.inl rfl
    · rw [if_neg h2]; exact Or.inr (Or.inr (Or.inr ⟨rfl, Or.inl h1⟩))
  · rw [if_neg h1]
    by_cases h3 : c = 62
    · rw [if_pos h3]
      by_cases h2 : c2 = 61
      · rw [if_pos h2]; exact Or.inr (Or.inl rfl)
      · rw [if_neg h2]; exact Or.inr (Or.inr (Or.inr ⟨rfl, Or.inr (Or.inl h3)⟩))
    · rw [if_neg h3]
      by_cases h4 : c = 61 ∨ c = 35 ∨ c = 43 ∨ c = 45 ∨ c = 42 ∨ c = 47 ∨ c = 40 ∨ c = 41 ∨ c = 59
      · rw [if_pos h4]; exact Or.inr (Or.inr (Or.inr ⟨rfl, Or.inr (Or.inr h4)⟩))
      · rw [if_neg h4]; exact Or.inr (Or.inr (Or.inl rfl))
theorem t_wk_e (L : List Nat) : ∀ (ws : List (List Nat)) (k : Nat), t_wk L ws k = 132 ∨ ∃ i, i < ws.length ∧ t_wk L ws k = nI (200 + (k + i)) ∧ ws.getD i [] = L := by
  intro ws
  induction ws with
  | nil => intro k; exact Or.inl rfl
  | cons w ws ih =>
    intro k
    unfold t_wk
    by_cases e : L = w
    · rw [if_pos e]
      exact Or.inr ⟨0, by simp, rfl, e.symm⟩
    · rw [if_neg e]
      rcases ih (k + 1) with h | ⟨i, h1, h2, h3⟩
      · exact Or.inl h
      · refine Or.inr ⟨i + 1, by simp only [List.length_cons]; omega, ?_, h3⟩
        rw [h2]; congr 2; omega
theorem t_wd_e (L : List Nat) : t_wd L = 132 ∨ ∃ i, i < 25 ∧ t_wd L = nI (200 + i) ∧ t_wds.getD i [] = L := by
  rcases t_wk_e L t_wds 0 with h | ⟨i, h1, h2, h3⟩
  · exact Or.inl h
  · exact Or.inr ⟨i, h1, by rw [show 200 + i = 200 + (0 + i) by omega]; exact h2, h3⟩
theorem t_tk_end {N : Nat} {bt : Nat → Int32} {p q : Nat} {c : Int32} (h : t_tk N bt p c q) : (c = 131 ↔ p = N) := by
  rcases h with ⟨h1, h2, h3⟩ | ⟨h1, h2, h3, h4⟩ | ⟨h1, h2, h3, h4⟩ | ⟨h1, h2, h3, h4, h5, h6⟩
  · exact ⟨fun _ => h1, fun _ => h2⟩
  · refine ⟨fun e => ?_, fun e => absurd h1 (by omega)⟩
    exfalso
    rw [h4] at e
    rcases t_wd_e (t_lst bt (q - p) p) with g | ⟨i, g1, g2, _⟩
    · rw [g] at e; exact absurd e (by decide)
    · rw [g2] at e
      have := (nI_eq (b := 131) (by omega) (by decide)).mp e
      omega
  · refine ⟨fun e => ?_, fun e => absurd h1 (by omega)⟩
    have hl := t_nuL bt (q - p) p 0 (by omega)
    rw [h4] at e
    have := (nI_eq (b := 131) (by omega) (by decide)).mp e
    omega
  · refine ⟨fun e => ?_, fun e => absurd h1 (by omega)⟩
    exfalso
    rw [h5] at e
    rcases t_sg_e (bt p) (t_by N bt (p + 1)) with g | g | g | ⟨g, g2⟩
    · rw [g] at e; exact absurd e (by decide)
    · rw [g] at e; exact absurd e (by decide)
    · rw [g] at e; exact absurd e (by decide)
    · rw [g] at e
      rcases g2 with y | y | y | y | y | y | y | y | y | y | y <;> (rw [y] at e; exact absurd e (by decide))
theorem t_tk_lt {N : Nat} {bt : Nat → Int32} {p q : Nat} {c : Int32} (h : t_tk N bt p c q) (hp : p < N) : p < q := by
  rcases h with ⟨h1, h2, h3⟩ | ⟨h1, h2, h3, h4⟩ | ⟨h1, h2, h3, h4⟩ | ⟨h1, h2, h3, h4, h5, h6⟩
  · omega
  · have := (t_re_s h3 ⟨h1, h2⟩).1; omega
  · have := (t_re_s h3 ⟨h1, h2⟩).1; omega
  · rcases t_sg2 (bt p) (t_by N bt (p + 1)) with g | ⟨g, _⟩ <;> omega
/-- there is always a next token -/
theorem t_nt_x {N : Nat} {bt : Nat → Int32} {i : Nat} (hi : i ≤ N) : ∃ x : Nat × Int32 × Nat, t_nt N bt i x.1 x.2.1 x.2.2 := by
  obtain ⟨p, p1, p2⟩ := t_re_x (p := t_pb N bt) (N := N) (fun k hk z => absurd z.1 (by omega)) N i (by omega)
  have hpN := p2 hi
  by_cases e : p = N
  · exact ⟨(p, 131, N), p1, hpN, Nat.le_refl _, Or.inl ⟨e, rfl, rfl⟩⟩
  · have hp : p < N := by omega
    have hnb : ¬ t_bl (bt p) := fun z => p1.2.2 ⟨hp, z⟩
    by_cases hl : t_le (bt p)
    · obtain ⟨q, q1, q2⟩ := t_re_x (p := t_pl N bt) (N := N) (fun k hk z => absurd z.1 (by omega)) N p (by omega)
      exact ⟨(p, t_wd (t_lst bt (q - p) p), q), p1, hpN, q2 hpN, Or.inr (Or.inl ⟨hp, hl, q1, rfl⟩)⟩
    · by_cases hd : t_dg (bt p)
      · obtain ⟨q, q1, q2⟩ := t_re_x (p := t_pd N bt) (N := N) (fun k hk z => absurd z.1 (by omega)) N p (by omega)
        exact ⟨(p, nI (300 + t_nu bt (q - p) p 0), q), p1, hpN, q2 hpN, Or.inr (Or.inr (Or.inl ⟨hp, hd, q1, rfl⟩))⟩
      · refine ⟨(p, (t_sg (bt p) (t_by N bt (p + 1))).1, p + (t_sg (bt p) (t_by N bt (p + 1))).2), p1, hpN, ?_, Or.inr (Or.inr (Or.inr ⟨hp, hl, hd, hnb, rfl, rfl⟩))⟩
        show p + (t_sg (bt p) (t_by N bt (p + 1))).2 ≤ N
        rcases t_sg2 (bt p) (t_by N bt (p + 1)) with g | ⟨g, g2⟩
        · omega
        · unfold t_by at g2
          by_cases h1 : p + 1 < N
          · omega
          · rw [if_neg h1] at g2; exact absurd g2 (by decide)
noncomputable def t_chx (N : Nat) (bt : Nat → Int32) (i : Nat) : Nat × Int32 × Nat := @dite _ (∃ x : Nat × Int32 × Nat, t_nt N bt i x.1 x.2.1 x.2.2) (Classical.propDecidable _) (fun h => Classical.choose h) (fun _ => (N, 131, N))
noncomputable def t_ps (N : Nat) (bt : Nat → Int32) : Nat → Nat
  | 0 => 0
  | j + 1 => (t_chx N bt (t_ps N bt j)).2.2
noncomputable def t_bg (N : Nat) (bt : Nat → Int32) (j : Nat) : Nat := (t_chx N bt (t_ps N bt j)).1
noncomputable def t_tc (N : Nat) (bt : Nat → Int32) (j : Nat) : Int32 := (t_chx N bt (t_ps N bt j)).2.1
theorem t_chx_s {N : Nat} {bt : Nat → Int32} {i : Nat} (hi : i ≤ N) : t_nt N bt i (t_chx N bt i).1 (t_chx N bt i).2.1 (t_chx N bt i).2.2 := by
  have h := t_nt_x (bt := bt) hi
  have e : t_chx N bt i = Classical.choose h := by
    unfold t_chx
    exact dif_pos h
  rw [e]
  exact Classical.choose_spec h
theorem t_psN (N : Nat) (bt : Nat → Int32) : ∀ j, t_ps N bt j ≤ N := by
  intro j
  induction j with
  | zero => exact Nat.zero_le _
  | succ j ih => exact (t_chx_s (bt := bt) ih).2.2.1
theorem t_seq (N : Nat) (bt : Nat → Int32) (j : Nat) : t_nt N bt (t_ps N bt j) (t_bg N bt j) (t_tc N bt j) (t_ps N bt (j + 1)) := t_chx_s (t_psN N bt j)
theorem t_psj {N : Nat} {bt : Nat → Int32} : ∀ k, (∀ j, j < k → ¬ t_tc N bt j = 131) → k ≤ t_ps N bt k := by
  intro k
  induction k with
  | zero => intro _; exact Nat.zero_le _
  | succ k ih =>
    intro h
    have h1 := ih (fun j hj => h j (by omega))
    obtain ⟨s1, s2, s3, s4⟩ := t_seq N bt k
    have hp : t_bg N bt k < N := by
      have : ¬ t_bg N bt k = N := fun e => h k (by omega) ((t_tk_end s4).mpr e)
      omega
    have := t_tk_lt s4 hp
    have := s1.1
    omega
/-- how many tokens there are ahead of the end -/
theorem t_cnt (N : Nat) (bt : Nat → Int32) : ∃ C, C ≤ N ∧ t_tc N bt C = 131 ∧ (∀ j, j < C → ¬ t_tc N bt j = 131) := by
  have key : ∀ k, (∃ C, C < k ∧ t_tc N bt C = 131 ∧ (∀ j, j < C → ¬ t_tc N bt j = 131)) ∨ (∀ j, j < k → ¬ t_tc N bt j = 131) := by
    intro k
    induction k with
    | zero => exact Or.inr (fun j hj => absurd hj (Nat.not_lt_zero j))
    | succ k ih =>
      rcases ih with ⟨C, h1, h2⟩ | h
      · exact Or.inl ⟨C, by omega, h2⟩
      · by_cases e : t_tc N bt k = 131
        · exact Or.inl ⟨k, by omega, e, h⟩
        · refine Or.inr (fun j hj => ?_)
          by_cases ej : j = k
          · rw [ej]; exact e
          · exact h j (by omega)
  rcases key (N + 1) with ⟨C, h1, h2, h3⟩ | h
  · exact ⟨C, by omega, h2, h3⟩
  · have h1 := t_psj (N := N) (bt := bt) (N + 1) h
    have h2 := t_psN N bt (N + 1)
    omega
