/-! the next order looks at how cells compare, and moves them -/
section
variable {R : Int32 → Int32 → Prop} {M : Nat}
theorem w_sw_R {f g : Nat → Int32} {i k : Nat} (hi : i < M) (hk : k < M) (h : ∀ j, j < M → R (f j) (g j)) : ∀ j, j < M → R (q_sw f i k j) (q_sw g i k j) := by
  intro j hj
  unfold q_sw
  by_cases e : j = k
  · subst e; rw [q_upE, q_upE]; exact h i hi
  · rw [q_upN _ _ e, q_upN _ _ e]
    by_cases e2 : j = i
    · subst e2; rw [q_upE, q_upE]; exact h k hk
    · rw [q_upN _ _ e2, q_upN _ _ e2]; exact h j hj
theorem w_rv_R : ∀ (c : Nat) (f g : Nat → Int32) (p q : Nat), (q < M ∨ q ≤ p) → (∀ j, j < M → R (f j) (g j)) → ∀ j, j < M → R (q_rv c f p q j) (q_rv c g p q j) := by
  intro c
  induction c with
  | zero => intro f g p q _ h; exact h
  | succ c ih =>
    intro f g p q hq h
    unfold q_rv
    by_cases e : p < q
    · rw [if_pos e, if_pos e]
      exact ih _ _ _ _ (by omega) (w_sw_R (by omega) (by omega) h)
    · rw [if_neg e, if_neg e]; exact h
theorem w_nxi_R {f g : Nat → Int32} (hm : ∀ x y x' y', R x y → R x' y' → (x < x' ↔ y < y')) (h : ∀ j, j < M → R (f j) (g j)) : ∀ m, m < M → q_nxi f m = q_nxi g m := by
  intro m
  induction m with
  | zero => intro _; rfl
  | succ m ih =>
    intro hl
    have e := hm _ _ _ _ (h (m + 1) hl) (h m (by omega))
    unfold q_nxi
    by_cases q : f (m + 1) < f m
    · rw [if_pos q, if_pos (e.mp q)]; exact ih (by omega)
    · rw [if_neg q, if_neg (fun z => q (e.mpr z))]
theorem w_nxk_R {f g : Nat → Int32} {x y : Int32} (hm : ∀ x y x' y', R x y → R x' y' → (x < x' ↔ y < y')) (hx : R x y) (h : ∀ j, j < M → R (f j) (g j)) : ∀ k, k < M → q_nxk f x k = q_nxk g y k := by
  intro k
  induction k with
  | zero => intro _; rfl
  | succ k ih =>
    intro hl
    have e := hm _ _ _ _ (h (k + 1) hl) hx
    unfold q_nxk
    by_cases q : f (k + 1) < x
    · rw [if_pos q, if_pos (e.mp q)]; exact ih (by omega)
    · rw [if_neg q, if_neg (fun z => q (e.mpr z))]
theorem w_nxk_lt {f : Nat → Int32} {x : Int32} : ∀ k, q_nxk f x k ≤ k := by
  intro k
  induction k with
  | zero => exact Nat.le_refl _
  | succ k ih =>
    unfold q_nxk
    by_cases q : f (k + 1) < x
    · rw [if_pos q]; omega
    · rw [if_neg q]; omega
theorem w_nxi_l {f : Nat → Int32} : ∀ m i, q_nxi f m = some i → i < m := by
  intro m
  induction m with
  | zero => intro i h; exact absurd h (fun q => by cases q)
  | succ m ih =>
    intro i h
    unfold q_nxi at h
    by_cases q : f (m + 1) < f m
    · rw [if_pos q] at h; have := ih i h; omega
    · rw [if_neg q] at h; have := Option.some.inj h; omega
theorem w_nx_R {f g : Nat → Int32} (hm : ∀ x y x' y', R x y → R x' y' → (x < x' ↔ y < y')) (h : ∀ j, j < M → R (f j) (g j)) : (q_nx M g = none → q_nx M f = none) ∧ ∀ g', q_nx M g = some g' → ∃ f', q_nx M f = some f' ∧ ∀ j, j < M → R (f' j) (g' j) := by
  by_cases h0 : M = 0
  · subst h0
    exact ⟨fun _ => rfl, fun g' e => absurd e (fun q => by cases q)⟩
  · have e1 := w_nxi_R hm h (M - 1) (by omega)
    unfold q_nx
    rw [e1]
    cases hi : q_nxi g (M - 1) with
    | none => exact ⟨fun _ => rfl, fun g' e => absurd e (fun q => by cases q)⟩
    | some i =>
      have hil := w_nxi_l _ _ hi
      refine ⟨fun e => absurd e (fun q => by cases q), fun g' e => ⟨_, rfl, ?_⟩⟩
      have e' := Option.some.inj e
      rw [← e', w_nxk_R hm (h i (by omega)) h (M - 1) (by omega)]
      have hk := w_nxk_lt (f := g) (x := g i) (M - 1)
      exact w_rv_R M _ _ _ _ (by omega) (w_sw_R (by omega) (by omega) h)
end
