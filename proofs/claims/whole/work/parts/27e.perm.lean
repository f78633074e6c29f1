/-- from the first order on, all orders are met within M! steps -/
theorem w_pm {M : Nat} (hM : M ≤ 6) {row : Nat → Int32} {p : Nat → Nat} (hp : ∀ i j, i < M → j < M → (p i < p j ↔ i < j)) (hp6 : ∀ i, i < M → p i < 6) (h : ∀ j, j < M → row j = nI (p j)) : w_shr M ([1, 1, 2, 6, 24, 120, 720].getD M 0) row := by
  have hm : ∀ x y x' y', (∃ r, r < M ∧ y = nI r ∧ x = nI (p r)) → (∃ r, r < M ∧ y' = nI r ∧ x' = nI (p r)) → (x < x' ↔ y < y') := by
    intro x y x' y' ⟨r, r1, r2, r3⟩ ⟨s, s1, s2, s3⟩
    have g1 := hp6 r r1
    have g2 := hp6 s s1
    rw [r2, r3, s2, s3, nI_ltI (by omega) (by omega), nI_ltI (by omega) (by omega)]
    exact hp r s r1 s1
  have hs : M = 0 ∨ M = 1 ∨ M = 2 ∨ M = 3 ∨ M = 4 ∨ M = 5 ∨ M = 6 := by omega
  rcases hs with e | e | e | e | e | e | e
  · subst e; exact w_P0 hm row (fun j hj => ⟨j, hj, (show ∀ j, j < 0 → w_dg 0 j = nI j by decide) j hj, h j hj⟩)
  · subst e; exact w_P1 hm row (fun j hj => ⟨j, hj, (show ∀ j, j < 1 → w_dg 0 j = nI j by decide) j hj, h j hj⟩)
  · subst e; exact w_P2 hm row (fun j hj => ⟨j, hj, (show ∀ j, j < 2 → w_dg 8 j = nI j by decide) j hj, h j hj⟩)
  · subst e; exact w_P3 hm row (fun j hj => ⟨j, hj, (show ∀ j, j < 3 → w_dg 136 j = nI j by decide) j hj, h j hj⟩)
  · subst e; exact w_P4 hm row (fun j hj => ⟨j, hj, (show ∀ j, j < 4 → w_dg 1672 j = nI j by decide) j hj, h j hj⟩)
  · subst e; exact w_P5 hm row (fun j hj => ⟨j, hj, (show ∀ j, j < 5 → w_dg 18056 j = nI j by decide) j hj, h j hj⟩)
  · subst e; exact w_P6 hm row (fun j hj => ⟨j, hj, (show ∀ j, j < 6 → w_dg 181896 j = nI j by decide) j hj, h j hj⟩)
