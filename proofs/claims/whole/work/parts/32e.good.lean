/-! clauses and codes stay good -/
theorem t_as0 (L : Nat) : ∀ (c : List (Nat × Nat)) (A : Int32), t_as L A c = 0 → A = 0 ∧ (L = 0 → ∀ x, x ∈ c → ¬ (x.1 = 1 ∧ (x.2 = 2 ∨ x.2 = 5))) := by
  intro c
  induction c with
  | nil => intro A h; exact ⟨h, fun _ x hx => absurd hx List.not_mem_nil⟩
  | cons y c ih =>
    intro A h
    obtain ⟨h1, h2⟩ := ih _ h
    by_cases e : L = 0 ∧ y.1 = 1 ∧ (y.2 = 2 ∨ y.2 = 5)
    · rw [if_pos e] at h1; exact absurd h1 (by decide)
    · rw [if_neg e] at h1
      refine ⟨h1, fun hL x hx => ?_⟩
      rcases List.mem_cons.mp hx with q | q
      · rw [q]; exact fun w => e ⟨hL, w.1, w.2⟩
      · exact h2 hL x q
theorem t_slice {cs c : List (Nat × Nat)} {F E : Nat} (h : E ≤ cs.length) (hF : F ≤ E) : ((cs ++ c).drop F).take (E - F) = (cs.drop F).take (E - F) := by
  rw [List.drop_append_of_le_length (by omega), List.take_append_of_le_length (by rw [List.length_drop]; omega)]
theorem t_slice2 (cs c : List (Nat × Nat)) : ((cs ++ c).drop cs.length).take (cs.length + c.length - cs.length) = c := by
  rw [List.drop_append_of_le_length (Nat.le_refl _), List.drop_length, List.nil_append, Nat.add_sub_cancel_left, List.take_length]
/-- clauses ks, codes cs at token j; A: a place is asked for -/
def t_KG (ks : List t_k3) (cs : List (Nat × Nat)) (j : Nat) (A : Int32) : Prop := ks.length ≤ 24 ∧ cs.length ≤ j ∧ (∀ k, k ∈ ks → t_gk k cs) ∧ (∀ x, x ∈ cs → x.1 ≤ 22 ∧ x.2 ≤ 9999)
  ∧ (A = 0 → ∀ k, k ∈ ks → k.1 = 0 → ∀ i, k.2.1 ≤ i → i < k.2.2 → ¬ ((cs.getD i (0, 0)).1 = 1 ∧ ((cs.getD i (0, 0)).2 = 2 ∨ (cs.getD i (0, 0)).2 = 5))) ∧ (A = 0 ∨ A = 1)
theorem t_as01 (L : Nat) : ∀ (c : List (Nat × Nat)) (A : Int32), (A = 0 ∨ A = 1) → (t_as L A c = 0 ∨ t_as L A c = 1) := by
  intro c
  induction c with
  | nil => intro A h; exact h
  | cons y c ih =>
    intro A h
    refine ih _ ?_
    by_cases e : L = 0 ∧ y.1 = 1 ∧ (y.2 = 2 ∨ y.2 = 5)
    · rw [if_pos e]; exact Or.inr rfl
    · rw [if_neg e]; exact h
theorem t_KG0 : t_KG [] [] 0 0 := ⟨by decide, by decide, fun k hk => absurd hk List.not_mem_nil, fun k hk => absurd hk List.not_mem_nil, fun _ k hk => absurd hk List.not_mem_nil, Or.inl rfl⟩
theorem t_KGs {ks : List t_k3} {cs : List (Nat × Nat)} {C j : Nat} {A : Int32} {o : t_O} (h : t_KG ks cs j A) (hk : ks.length < 24) (ho : t_gO cs.length C j o) (h0 : o.1 = 0) : t_KG (ks ++ [o.2.2.1]) (cs ++ o.2.2.2) o.2.1 (t_as o.2.2.1.1 A o.2.2.2) := by
  obtain ⟨h1, h2, h3, h4, h5, h6⟩ := h
  obtain ⟨a1, a2, a3, a4, a5, a6, a7, a8, a9⟩ := ho.1 h0
  refine ⟨by rw [List.length_append]; show ks.length + 1 ≤ 24; omega, by rw [List.length_append]; omega, fun k hk => ?_, fun x hx => ?_, fun hA k hk hk0 i i1 i2 => ?_, t_as01 _ _ _ h6⟩
  · rcases List.mem_append.mp hk with q | q
    · obtain ⟨b1, b2, b3, b4⟩ := h3 k q
      refine ⟨b1, b2, b3, fun c3 => ?_⟩
      obtain ⟨c1, c2, c4⟩ := b4 c3
      refine ⟨c1, by rw [List.length_append]; omega, ?_⟩
      rw [t_slice c2 (by omega)]
      exact c4
    · rw [List.mem_singleton.mp q]
      refine ⟨a5, a6, a7, fun c3 => ?_⟩
      obtain ⟨c1, c2, c4⟩ := a9 c3
      rw [c1, c2]
      refine ⟨by have := c4.1; omega, by rw [List.length_append]; omega, ?_⟩
      rw [t_slice2]
      exact c4
  · rcases List.mem_append.mp hx with q | q
    · exact h4 x q
    · exact a4 x q
  · obtain ⟨e1, e2⟩ := t_as0 _ _ _ hA
    rcases List.mem_append.mp hk with q | q
    · have b4 := (h3 k q).2.2.2 (by omega)
      rw [t_getD_a _ _ (by omega)]
      exact h5 e1 k q hk0 i i1 i2
    · rw [List.mem_singleton.mp q] at hk0 i1 i2
      obtain ⟨c1, c2, c4⟩ := a9 (by omega)
      rw [c1] at i1
      rw [c2] at i2
      obtain ⟨p, rfl⟩ : ∃ p, i = cs.length + p := ⟨i - cs.length, by omega⟩
      have hp : p < o.2.2.2.length := by omega
      have ee : (cs ++ o.2.2.2).getD (cs.length + p) (0, 0) = o.2.2.2[p] := by
        rw [List.getD_eq_getElem?_getD, List.getElem?_append_right (Nat.le_add_right _ _), Nat.add_sub_cancel_left, List.getElem?_eq_getElem hp]
        rfl
      rw [ee]
      exact e2 hk0 _ (List.getElem_mem hp)
