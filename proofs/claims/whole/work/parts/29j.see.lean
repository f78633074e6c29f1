/-! what the model sees of a token -/
theorem t_wdI : ∀ i, i < 25 → t_wd (t_wds.getD i []) = nI (200 + i) := by decide +kernel
theorem t_wdO : ∀ i, i < 25 → ∀ x, x ∈ t_wds.getD i [] → 1 ≤ x ∧ x < 256 := by decide +kernel
theorem t_wdN : ∀ i, i < 25 → ¬ i = 7 → 1 ≤ (t_wds.getD i []).length ∧ (t_wds.getD i []).length ≤ 7 ∧ 1 ≤ t_pr (t_wds.getD i []).reverse ∧ t_pr (t_wds.getD i []).reverse < 2 ^ 56 := by decide +kernel
def t_isg (x : Int) : Prop := x = 60 ∨ x = 62 ∨ x = 61 ∨ x = 35 ∨ x = 43 ∨ x = 45 ∨ x = 42 ∨ x = 47 ∨ x = 40 ∨ x = 41 ∨ x = 59
section
variable {r67 : Nat → Int32} {w : Int64} {N : Nat} {bt : Nat → Int32} {p : Nat} {c : Int32} {q : Nat}
/-- the tokens of both sides, as numbers -/
theorem t_cl (h : t_ms r67 w N bt p c q) : (c.toInt = 131 ∧ (r67 9).toInt = 0) ∨ (c.toInt = 128 ∧ (r67 9).toInt = 4) ∨ (c.toInt = 129 ∧ (r67 9).toInt = 5) ∨ (c.toInt = 132 ∧ (r67 9).toInt = 3) ∨ ((r67 9).toInt = c.toInt ∧ t_isg c.toInt) ∨ ((c.toInt = 132 ∨ (200 ≤ c.toInt ∧ c.toInt < 225)) ∧ (r67 9).toInt = 2) ∨ (300 ≤ c.toInt ∧ c.toInt ≤ 10300 ∧ (r67 9).toInt = 1) := by
  obtain ⟨h1, h2, h3, h4, h5, h6, h7, h8, h9⟩ := h
  rcases h5 with ⟨a1, a2, a3⟩ | ⟨a1, a2, a3, a4⟩ | ⟨a1, a2, a3, a4⟩ | ⟨a1, a2, a3, a4, a5, a6⟩
  · refine Or.inl ⟨by rw [a2]; decide, by rw [h6 a1]; decide⟩
  · refine Or.inr (Or.inr (Or.inr (Or.inr (Or.inr (Or.inl ⟨?_, by rw [(h7 a1 a2).1]; decide⟩)))))
    rw [a4]
    rcases t_wd_e (t_lst bt (q - p) p) with g | ⟨i, g1, g2, _⟩
    · rw [g]; exact Or.inl (by decide)
    · rw [g2, nI_toInt (by omega)]; right; omega
  · refine Or.inr (Or.inr (Or.inr (Or.inr (Or.inr (Or.inr ⟨?_, ?_, by rw [(h8 a1 a2).1]; decide⟩)))))
    · rw [a4, nI_toInt (by have := t_nuL bt (q - p) p 0 (by omega); omega)]; omega
    · have := t_nuL bt (q - p) p 0 (by omega)
      rw [a4, nI_toInt (by omega)]; omega
  · have e9 := h9 a1 a2 a3
    rw [e9, a5]
    unfold t_sm t_sg
    by_cases z1 : bt p = 60
    · rw [if_pos z1, if_pos z1]
      by_cases z2 : t_by N bt (p + 1) = 61
      · rw [if_pos z2, if_pos z2]; exact Or.inr (Or.inl ⟨by decide, by decide⟩)
      · rw [if_neg z2, if_neg z2]
        refine Or.inr (Or.inr (Or.inr (Or.inr (Or.inl ⟨rfl, Or.inl (by rw [z1]; decide)⟩))))
    · rw [if_neg z1, if_neg z1]
      by_cases z3 : bt p = 62
      · rw [if_pos z3, if_pos z3]
        by_cases z2 : t_by N bt (p + 1) = 61
        · rw [if_pos z2, if_pos z2]; exact Or.inr (Or.inr (Or.inl ⟨by decide, by decide⟩))
        · rw [if_neg z2, if_neg z2]
          refine Or.inr (Or.inr (Or.inr (Or.inr (Or.inl ⟨rfl, Or.inr (Or.inl (by rw [z3]; decide))⟩))))
      · rw [if_neg z3, if_neg z3]
        by_cases z4 : bt p = 61 ∨ bt p = 35 ∨ bt p = 43 ∨ bt p = 45 ∨ bt p = 42 ∨ bt p = 47 ∨ bt p = 40 ∨ bt p = 41 ∨ bt p = 59
        · rw [if_pos z4, if_pos z4]
          refine Or.inr (Or.inr (Or.inr (Or.inr (Or.inl ⟨rfl, Or.inr (Or.inr ?_)⟩))))
          simp only [fa_eq] at z4
          exact z4
        · rw [if_neg z4, if_neg z4]
          exact Or.inr (Or.inr (Or.inr (Or.inl ⟨by decide, by decide⟩)))
/-- a word of the language, laughing aside -/
theorem t_msw (h : t_ms r67 w N bt p c q) {i : Nat} (hi : i < 25) (h7' : ¬ i = 7) : (r67 9 = 2 ∧ w = Int64.ofNat (t_pr (t_wds.getD i []).reverse)) ↔ c = nI (200 + i) := by
  have hcl := t_cl h
  unfold t_isg at hcl
  obtain ⟨h1, h2, h3, h4, h5, h6, h7, h8, h9⟩ := h
  obtain ⟨k1, k2, k3, k4⟩ := t_wdN i hi h7'
  have letters : p < N → t_le (bt p) → t_re (t_pl N bt) p q → c = t_wd (t_lst bt (q - p) p) → ((r67 9 = 2 ∧ w = Int64.ofNat (t_pr (t_wds.getD i []).reverse)) ↔ c = nI (200 + i)) := fun a1 a2 a3 a4 => by
    have hrev := t_lr_rev bt (q - p) p
    have hlen := t_lst_len bt (q - p) p
    have hok : ∀ x, x ∈ t_lr bt p (q - p) → 1 ≤ x ∧ x < 256 := t_lr_ok (q - p) (fun k b1 b2 => (a3.2.1 k b1 (by omega)).2)
    constructor
    · rintro ⟨_, e⟩
      rw [(h7 a1 a2).2] at e
      by_cases z : q - p ≤ 7
      · rw [if_pos z] at e
        have hlt := t_pr_lt (t_lr bt p (q - p)) hok
        rw [t_lr_len] at hlt
        have h56 : 256 ^ (q - p) ≤ 256 ^ 7 := Nat.pow_le_pow_right (by decide) z
        have h567 : (256 : Nat) ^ 7 = 2 ^ 56 := by decide
        have en : t_pr (t_lr bt p (q - p)) = t_pr (t_wds.getD i []).reverse := by
          have := congrArg Int64.toInt e
          rw [Int64.toInt_ofNat_of_lt (by omega), Int64.toInt_ofNat_of_lt (by omega)] at this
          omega
        have el := t_pr_inj _ _ hok (fun x hx => t_wdO i hi x (List.mem_reverse.mp hx)) en
        rw [← hrev] at el
        have := List.reverse_inj.mp el
        rw [a4, this]
        exact t_wdI i hi
      · rw [if_neg z] at e
        have := congrArg Int64.toInt e
        rw [Int64.toInt_ofNat_of_lt (by omega)] at this
        have z0 : (0 : Int64).toInt = 0 := by decide
        omega
    · intro e
      refine ⟨(h7 a1 a2).1, ?_⟩
      rw [a4] at e
      rcases t_wd_e (t_lst bt (q - p) p) with g | ⟨j, g1, g2, g3⟩
      · rw [g] at e
        have := (nI_eq (a := 132) (by decide) (by omega)).mp e
        omega
      · rw [g2] at e
        have ej : j = i := by have := (nI_eq (by omega) (by omega)).mp e; omega
        subst ej
        rw [(h7 a1 a2).2]
        have hl7 : q - p ≤ 7 := by rw [← hlen, ← g3]; exact k2
        rw [if_pos hl7, ← hrev, g3]
  have none' : (¬ (r67 9).toInt = 2) → ¬ (200 ≤ c.toInt ∧ c.toInt < 225) → ((r67 9 = 2 ∧ w = Int64.ofNat (t_pr (t_wds.getD i []).reverse)) ↔ c = nI (200 + i)) := fun n1 n2 =>
    ⟨fun z => absurd (by rw [z.1]; decide) n1, fun z => absurd (by rw [z, nI_toInt (by omega)]; omega) n2⟩
  rcases h5 with ⟨a1, a2, a3⟩ | ⟨a1, a2, a3, a4⟩ | ⟨a1, a2, a3, a4⟩ | ⟨a1, a2, a3, a4, a5, a6⟩
  · have z9 := h6 a1
    refine none' (by rw [z9]; decide) (by rw [a2]; decide)
  · exact letters a1 a2 a3 a4
  · have z9 := (h8 a1 a2).1
    refine none' (by rw [z9]; decide) ?_
    rw [z9] at hcl
    have : (1 : Int32).toInt = 1 := by decide
    omega
  · have e9 := h9 a1 a2 a3
    have : ¬ (r67 9).toInt = 2 := by
      rw [e9]
      unfold t_sm
      by_cases z1 : bt p = 60
      · rw [if_pos z1]
        by_cases z2 : t_by N bt (p + 1) = 61
        · rw [if_pos z2]; decide
        · rw [if_neg z2, z1]; decide
      · rw [if_neg z1]
        by_cases z3 : bt p = 62
        · rw [if_pos z3]
          by_cases z2 : t_by N bt (p + 1) = 61
          · rw [if_pos z2]; decide
          · rw [if_neg z2, z3]; decide
        · rw [if_neg z3]
          by_cases z4 : bt p = 61 ∨ bt p = 35 ∨ bt p = 43 ∨ bt p = 45 ∨ bt p = 42 ∨ bt p = 47 ∨ bt p = 40 ∨ bt p = 41 ∨ bt p = 59
          · rw [if_pos z4]
            rcases z4 with y | y | y | y | y | y | y | y | y <;> (rw [y]; decide)
          · rw [if_neg z4]; decide
    refine none' this ?_
    omega
theorem t_num (h : t_ms r67 w N bt p c q) : (∃ m, m ≤ 9999 ∧ c = nI (300 + m) ∧ r67 9 = 1 ∧ r67 10 = nI m) ∨ (∃ m, 10000 ≤ m ∧ m < 1000000 ∧ c = nI 10300 ∧ r67 9 = 1 ∧ r67 10 = nI m) ∨ (c < 300 ∧ ¬ r67 9 = 1) := by
  have hcl := t_cl h
  unfold t_isg at hcl
  have i300 : (300 : Int32).toInt = 300 := by decide
  have i1 : (1 : Int32).toInt = 1 := by decide
  obtain ⟨h1, h2, h3, h4, h5, h6, h7, h8, h9⟩ := h
  by_cases hd : p < N ∧ t_dg (bt p)
  · obtain ⟨d1, d2⟩ := hd
    rcases h5 with ⟨a1, a2, a3⟩ | ⟨a1, a2, a3, a4⟩ | ⟨a1, a2, a3, a4⟩ | ⟨a1, a2, a3, a4, a5, a6⟩
    · omega
    · exfalso
      obtain ⟨v, v1, v2⟩ := t_dgN d2
      obtain ⟨u, u1, u2, u3⟩ := t_leN a2
      rw [v2] at u3
      have := (nI_eq (by omega) (by omega)).mp u3
      omega
    · have key := t_nm_nu (N := N) (bt := bt) (q - p) p 0 0 (fun k b1 b2 => a3.2.1 k b1 (by omega)) (Or.inl ⟨rfl, by omega⟩)
      obtain ⟨g1, g2⟩ := h8 a1 a2
      rcases key with ⟨e1, e2⟩ | ⟨e1, e2, e3⟩
      · exact Or.inl ⟨_, e2, a4, g1, by rw [g2, e1]⟩
      · exact Or.inr (Or.inl ⟨_, e2, e3, by rw [a4, e1], g1, g2⟩)
    · exact absurd d2 a3
  · right; right
    rw [fa_lt, fa_eq, i300, i1]
    rcases hcl with g | g | g | g | g | g | g
    · omega
    · omega
    · omega
    · omega
    · omega
    · omega
    · exfalso
      rcases h5 with ⟨a1, a2, a3⟩ | ⟨a1, a2, a3, a4⟩ | ⟨a1, a2, a3, a4⟩ | ⟨a1, a2, a3, a4, a5, a6⟩
      · rw [h6 a1] at g; exact absurd g.2.2 (by decide)
      · rw [(h7 a1 a2).1] at g; exact absurd g.2.2 (by decide)
      · exact hd ⟨a1, a2⟩
      · rw [a5] at g
        rcases t_sg_e (bt p) (t_by N bt (p + 1)) with y | y | y | ⟨y, y2⟩
        · rw [y] at g; exact absurd g.1 (by decide)
        · rw [y] at g; exact absurd g.1 (by decide)
        · rw [y] at g; exact absurd g.1 (by decide)
        · rw [y] at g
          rcases y2 with y | y | y | y | y | y | y | y | y | y | y <;> (rw [y] at g; exact absurd g.1 (by decide))
end
