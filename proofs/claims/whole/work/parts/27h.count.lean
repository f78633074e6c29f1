/-! as many seats are taken as persons sit -/
def w_cn (A : Nat → Bool) : Nat → Nat → Nat
  | 0, _ => 0
  | c + 1, j => (if A j = true then 1 else 0) + w_cn A c (j + 1)
theorem w_pu_cn (A : Nat → Bool) : ∀ (c j : Nat) (st : Nat × (Nat → Int32)), (q_it (w_pu A) c j st).1 = st.1 + w_cn A c j := by
  intro c
  induction c with
  | zero => intro j st; rfl
  | succ c ih =>
    intro j st
    have e : q_it (w_pu A) (c + 1) j st = q_it (w_pu A) c (j + 1) (w_pu A j st) := rfl
    have e2 : w_cn A (c + 1) j = (if A j = true then 1 else 0) + w_cn A c (j + 1) := rfl
    rw [e, ih, e2]
    by_cases q : A j = true
    · have ew : (w_pu A j st).1 = st.1 + 1 := by unfold w_pu; rw [if_pos q]
      rw [ew, if_pos q]; omega
    · have ew : w_pu A j st = st := by unfold w_pu; rw [if_neg q]
      rw [ew, if_neg q]; omega
theorem w_cn_cg {A B : Nat → Bool} : ∀ (c j : Nat), (∀ i, j ≤ i → i < j + c → A i = B i) → w_cn A c j = w_cn B c j := by
  intro c
  induction c with
  | zero => intro j _; rfl
  | succ c ih =>
    intro j h
    unfold w_cn
    rw [h j (Nat.le_refl _) (by omega), ih (j + 1) (fun i h1 h2 => h i (by omega) (by omega))]
theorem w_cn_or {A B : Nat → Bool} {s0 : Nat} (h0 : A s0 = false) (h1 : B s0 = true) (h : ∀ s, ¬ s = s0 → B s = A s) : ∀ (c j : Nat), w_cn B c j = w_cn A c j + (if j ≤ s0 ∧ s0 < j + c then 1 else 0) := by
  intro c
  induction c with
  | zero => intro j; rw [if_neg (by omega)]; rfl
  | succ c ih =>
    intro j
    have eA : w_cn A (c + 1) j = (if A j = true then 1 else 0) + w_cn A c (j + 1) := rfl
    have eB : w_cn B (c + 1) j = (if B j = true then 1 else 0) + w_cn B c (j + 1) := rfl
    rw [eA, eB, ih (j + 1)]
    by_cases e : j = s0
    · subst e
      rw [if_pos h1, if_neg (show ¬ A j = true by rw [h0]; decide), if_neg (show ¬ (j + 1 ≤ j ∧ j < j + 1 + c) by omega), if_pos (show j ≤ j ∧ j < j + (c + 1) by omega)]
      omega
    · rw [h j e]
      by_cases q : j ≤ s0 ∧ s0 < j + (c + 1)
      · rw [if_pos q, if_pos (show j + 1 ≤ s0 ∧ s0 < j + 1 + c by omega)]; omega
      · rw [if_neg q, if_neg (show ¬ (j + 1 ≤ s0 ∧ s0 < j + 1 + c) by omega)]; omega
theorem w_cn_end (A : Nat → Bool) : ∀ (c j : Nat), w_cn A (c + 1) j = w_cn A c j + (if A (j + c) = true then 1 else 0) := by
  intro c
  induction c with
  | zero => intro j; show (if A j = true then 1 else 0) + 0 = 0 + _; rw [Nat.add_zero, Nat.add_zero, Nat.zero_add]
  | succ c ih =>
    intro j
    have e : w_cn A (c + 1 + 1) j = (if A j = true then 1 else 0) + w_cn A (c + 1) (j + 1) := rfl
    have e2 : w_cn A (c + 1) j = (if A j = true then 1 else 0) + w_cn A c (j + 1) := rfl
    rw [e, e2, ih (j + 1), show j + 1 + c = j + (c + 1) by omega]
    omega
theorem w_cn_0 (A : Nat → Bool) : ∀ (c j : Nat), (∀ i, j ≤ i → i < j + c → A i = false) → w_cn A c j = 0 := by
  intro c
  induction c with
  | zero => intro j _; rfl
  | succ c ih =>
    intro j h
    unfold w_cn
    rw [h j (Nat.le_refl _) (by omega), ih (j + 1) (fun i h1 h2 => h i (by omega) (by omega)), if_neg (by decide)]
theorem w_tkro {seat : Nat → Int32} {N : Nat} (hN : N ≤ 16) : ∀ P, P ≤ 6 → (∀ j, j < P → seat j = -1 ∨ ∃ s, s < N ∧ seat j = nI s) → (∀ i j, i < P → j < P → i ≠ j → seat i = seat j → seat i = -1) → w_cn (fun s => decide (∃ i, i < P ∧ seat i = nI s)) N 0 = w_cn (fun j => decide (¬ seat j = -1)) P 0 := by
  intro P
  induction P with
  | zero =>
    intro _ _ _
    rw [w_cn_0 _ N 0 (fun s _ _ => decide_eq_false (fun ⟨i, h1, _⟩ => absurd h1 (Nat.not_lt_zero i)))]
    rfl
  | succ P ih =>
    intro hP hv hd
    have IH := ih (by omega) (fun j hj => hv j (by omega)) (fun i j hi hj => hd i j (by omega) (by omega))
    rw [w_cn_end (fun j => decide (¬ seat j = -1)) P 0, Nat.zero_add, ← IH]
    rcases hv P (by omega) with q | ⟨s0, q1, q2⟩
    · rw [if_neg (fun z => absurd q (of_decide_eq_true z)), Nat.add_zero]
      refine w_cn_cg N 0 (fun s _ hs => decide_eq_decide.mpr ⟨fun ⟨i, g1, g2⟩ => ⟨i, ?_, g2⟩, fun ⟨i, g1, g2⟩ => ⟨i, by omega, g2⟩⟩)
      by_cases e : i = P
      · subst e; rw [q] at g2; exact absurd g2.symm (w_neg1 (by omega))
      · omega
    · have hne : ¬ seat P = -1 := by rw [q2]; exact w_neg1 (by omega)
      rw [if_pos (decide_eq_true hne)]
      have key := w_cn_or (A := fun s => decide (∃ i, i < P ∧ seat i = nI s) && decide (s < N)) (B := fun s => decide (∃ i, i < P + 1 ∧ seat i = nI s) && decide (s < N)) (s0 := s0) (by
        rw [Bool.and_eq_false_iff]
        refine Or.inl (decide_eq_false (fun ⟨i, g1, g2⟩ => hne ?_))
        exact hd P i (by omega) (by omega) (by omega) (by rw [q2, g2])) (by
        rw [Bool.and_eq_true]
        exact ⟨decide_eq_true ⟨P, by omega, q2⟩, decide_eq_true q1⟩) (fun s hs => by
        by_cases h16 : s < N
        · congr 1
          refine decide_eq_decide.mpr ⟨fun ⟨i, g1, g2⟩ => ⟨i, ?_, g2⟩, fun ⟨i, g1, g2⟩ => ⟨i, by omega, g2⟩⟩
          by_cases e : i = P
          · subst e
            rw [q2] at g2
            exact absurd ((nI_eq (by omega) (by omega)).mp g2).symm hs
          · omega
        · rw [decide_eq_false h16, Bool.and_false, Bool.and_false]) N 0
      rw [if_pos (by omega)] at key
      have c1 : w_cn (fun s => decide (∃ i, i < P ∧ seat i = nI s) && decide (s < N)) N 0 = w_cn (fun s => decide (∃ i, i < P ∧ seat i = nI s)) N 0 := w_cn_cg N 0 (fun s _ hs => by
        rw [decide_eq_true (show s < N by omega), Bool.and_true])
      have c2 : w_cn (fun s => decide (∃ i, i < P + 1 ∧ seat i = nI s) && decide (s < N)) N 0 = w_cn (fun s => decide (∃ i, i < P + 1 ∧ seat i = nI s)) N 0 := w_cn_cg N 0 (fun s _ hs => by
        rw [decide_eq_true (show s < N by omega), Bool.and_true])
      rw [c1, c2] at key
      exact key
