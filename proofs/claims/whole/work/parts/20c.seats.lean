/-! seats of those who laugh, as bits -/
def w_ls (pl : Nat → Int32) (g : Nat) : Nat := q_it (fun j x => if g.testBit j = true then x ||| 2 ^ (pl j).toNatClampNeg else x) 6 0 0
theorem w_lsT0 {pl : Nat → Int32} {g : Nat} (i : Nat) : ∀ (c j acc : Nat), (q_it (fun j x => if g.testBit j = true then x ||| 2 ^ (pl j).toNatClampNeg else x) c j acc).testBit i = true ↔ (acc.testBit i = true ∨ ∃ k, j ≤ k ∧ k < j + c ∧ g.testBit k = true ∧ (pl k).toNatClampNeg = i) := by
  intro c
  induction c with
  | zero =>
    intro j acc
    exact ⟨Or.inl, fun h => h.elim id (fun ⟨k, h1, h2, _⟩ => by omega)⟩
  | succ c ih =>
    intro j acc
    show (q_it (fun j x => if g.testBit j = true then x ||| 2 ^ (pl j).toNatClampNeg else x) c (j + 1) (if g.testBit j = true then acc ||| 2 ^ (pl j).toNatClampNeg else acc)).testBit i = true ↔ _
    rw [ih]
    by_cases hb : g.testBit j = true
    · rw [if_pos hb, q_bset, Bool.or_eq_true, decide_eq_true_iff]
      constructor
      · rintro ((h | h) | ⟨k, h1, h2, h3, h4⟩)
        · exact Or.inl h
        · exact Or.inr ⟨j, Nat.le_refl _, by omega, hb, h.symm⟩
        · exact Or.inr ⟨k, by omega, by omega, h3, h4⟩
      · rintro (h | ⟨k, h1, h2, h3, h4⟩)
        · exact Or.inl (Or.inl h)
        · by_cases e : k = j
          · subst e; exact Or.inl (Or.inr h4.symm)
          · exact Or.inr ⟨k, by omega, by omega, h3, h4⟩
    · rw [if_neg hb]
      constructor
      · rintro (h | ⟨k, h1, h2, h3, h4⟩)
        · exact Or.inl h
        · exact Or.inr ⟨k, by omega, by omega, h3, h4⟩
      · rintro (h | ⟨k, h1, h2, h3, h4⟩)
        · exact Or.inl h
        · by_cases e : k = j
          · subst e; exact absurd h3 hb
          · exact Or.inr ⟨k, by omega, by omega, h3, h4⟩
theorem w_lsT {pl : Nat → Int32} {g i : Nat} : (w_ls pl g).testBit i = true ↔ ∃ k, k < 6 ∧ g.testBit k = true ∧ (pl k).toNatClampNeg = i := by
  unfold w_ls
  rw [w_lsT0 i 6 0 0, Nat.zero_testBit]
  constructor
  · rintro (h | ⟨k, h1, h2, h3, h4⟩)
    · exact absurd h (by decide)
    · exact ⟨k, by omega, h3, h4⟩
  · rintro ⟨k, h2, h3, h4⟩
    exact Or.inr ⟨k, by omega, by omega, h3, h4⟩
theorem w_lsO (pl : Nat → Int32) (g c : Nat) : w_ls pl (g ||| c) = w_ls pl g ||| w_ls pl c := by
  apply Nat.eq_of_testBit_eq
  intro i
  rw [Bool.eq_iff_iff, Nat.testBit_or, Bool.or_eq_true, w_lsT, w_lsT, w_lsT]
  constructor
  · rintro ⟨k, h1, h2, h3⟩
    rw [Nat.testBit_or, Bool.or_eq_true] at h2
    exact h2.elim (fun h => Or.inl ⟨k, h1, h, h3⟩) (fun h => Or.inr ⟨k, h1, h, h3⟩)
  · rintro (⟨k, h1, h2, h3⟩ | ⟨k, h1, h2, h3⟩)
    · exact ⟨k, h1, by rw [Nat.testBit_or, h2, Bool.true_or], h3⟩
    · exact ⟨k, h1, by rw [Nat.testBit_or, h2, Bool.or_true], h3⟩
theorem w_ls1 (pl : Nat → Int32) (j : Nat) (hj : j < 6) : w_ls pl (2 ^ j) = 2 ^ (pl j).toNatClampNeg := by
  apply Nat.eq_of_testBit_eq
  intro i
  rw [Bool.eq_iff_iff, w_lsT, Nat.testBit_two_pow, decide_eq_true_iff]
  constructor
  · rintro ⟨k, h1, h2, h3⟩
    rw [Nat.testBit_two_pow, decide_eq_true_iff] at h2
    rw [h2]; exact h3
  · intro h
    exact ⟨j, hj, by rw [Nat.testBit_two_pow, decide_eq_true_iff], h⟩
theorem w_ls0 (pl : Nat → Int32) : w_ls pl 0 = 0 := by
  apply Nat.eq_of_testBit_eq
  intro i
  rw [Bool.eq_iff_iff, w_lsT, Nat.zero_testBit]
  exact ⟨fun ⟨k, _, h, _⟩ => by rw [Nat.zero_testBit] at h; exact absurd h (by decide), fun h => absurd h (by decide)⟩
theorem w_bct : ∀ g, g < 64 → q_bits (nI g) 10 0 0 = nI (w_ct g) := by decide +kernel
theorem w_ct5 {g j : Nat} (hj : j < 6) (h : g.testBit j = false) : w_ct g ≤ 5 := by
  have h' : ∀ b : Bool, b.toNat ≤ 1 := by decide
  have e0 := h' (g.testBit 0)
  have e1 := h' (g.testBit 1)
  have e2 := h' (g.testBit 2)
  have e3 := h' (g.testBit 3)
  have e4 := h' (g.testBit 4)
  have e5 := h' (g.testBit 5)
  have hz : (g.testBit j).toNat = 0 := by rw [h]; rfl
  unfold w_ct
  match j, hj, hz with
  | 0, _, hz => omega
  | 1, _, hz => omega
  | 2, _, hz => omega
  | 3, _, hz => omega
  | 4, _, hz => omega
  | 5, _, hz => omega
  | j + 6, hj, _ => omega
theorem w_ct66 {g : Nat} (h : 6 ≤ w_ct g) (j : Nat) (hj : j < 6) : g.testBit j = true := by
  cases hb : g.testBit j with
  | true => rfl
  | false => have := w_ct5 hj hb; omega
theorem w_d4 : ∀ s, s < 16 → nI s / 4 = nI (s / 4) := by decide +kernel
/-- near: by the bits of the seats as by the persons -/
theorem w_near {pl : Nat → Int32} {g x s : Nat} (hg : g < 64) (hs : s < 16) (hx : pl x = nI s) (hseat : ∀ j, j < 6 → g.testBit j = true → ∃ t, t < 16 ∧ pl j = nI t) (hdis : ∀ i j, i < 6 → j < 6 → g.testBit i = true → g.testBit j = true → i ≠ j → ¬ pl i = pl j) : nI ((q_nk2 s).countP (w_ls pl g).testBit) = q_nearOf (nI g) pl x 6 0 0 := by
  have key : ∀ (c j acc : Nat) (y : Nat), j + c = 6 → (∀ i, acc.testBit i = true → ∃ k, k < j ∧ g.testBit k = true ∧ (pl k).toNatClampNeg = i) → y = (q_nk2 s).countP acc.testBit → nI ((q_nk2 s).countP (q_it (fun j x => if g.testBit j = true then x ||| 2 ^ (pl j).toNatClampNeg else x) c j acc).testBit) = q_nearOf (nI g) pl x c j (nI y) := by
    intro c
    induction c with
    | zero => intro j acc y _ _ hy; rw [hy]; rfl
    | succ c ih =>
      intro j acc y hj hacc hy
      show nI ((q_nk2 s).countP (q_it (fun j x => if g.testBit j = true then x ||| 2 ^ (pl j).toNatClampNeg else x) c (j + 1) (if g.testBit j = true then acc ||| 2 ^ (pl j).toNatClampNeg else acc)).testBit) = q_nearOf (nI g) pl x c (j + 1) (if ((nI g >>> (nI j &&& 31)) &&& 1) = 1 ∧ ¬ q_nr (pl x) (pl j) = 0 then nI y + 1 else nI y)
      by_cases hb : g.testBit j = true
      · obtain ⟨t, ht, hpt⟩ := hseat j (by omega) hb
        have htn : (pl j).toNatClampNeg = t := by rw [hpt]; exact nI_clamp (by omega)
        have hnt : acc.testBit t = false := by
          cases hc : acc.testBit t with
          | false => rfl
          | true =>
            obtain ⟨k, k1, k2, k3⟩ := hacc t hc
            obtain ⟨t', ht', hpt'⟩ := hseat k (by omega) k2
            rw [hpt', nI_clamp (by omega)] at k3
            exact absurd (by rw [hpt, hpt', k3]) (hdis k j (by omega) (by omega) k2 hb (by omega))
        have h1 := (q_bt1 (m := g) (j := j) (by omega) (by omega)).mpr hb
        rw [if_pos hb, htn]
        have hcs := q_cpS (x := acc) hs ht hnt
        by_cases hn : q_nr (nI s) (nI t) = 0
        · rw [if_neg (fun z => z.2 (by rw [hx, hpt]; exact hn))]
          rw [if_pos hn, Nat.add_zero] at hcs
          refine ih (j + 1) _ y (by omega) (fun i hi => ?_) (by rw [hcs]; exact hy)
          rw [q_bset, Bool.or_eq_true, decide_eq_true_iff] at hi
          rcases hi with hi | hi
          · obtain ⟨k, k1, k2, k3⟩ := hacc i hi
            exact ⟨k, by omega, k2, k3⟩
          · exact ⟨j, by omega, hb, by rw [htn, hi]⟩
        · rw [if_pos ⟨h1, by rw [hx, hpt]; exact hn⟩, nI_1]
          rw [if_neg hn] at hcs
          refine ih (j + 1) _ (y + 1) (by omega) (fun i hi => ?_) (by rw [hcs, hy])
          rw [q_bset, Bool.or_eq_true, decide_eq_true_iff] at hi
          rcases hi with hi | hi
          · obtain ⟨k, k1, k2, k3⟩ := hacc i hi
            exact ⟨k, by omega, k2, k3⟩
          · exact ⟨j, by omega, hb, by rw [htn, hi]⟩
      · have h1 : ¬ ((nI g >>> (nI j &&& 31)) &&& 1) = 1 := fun z => hb ((q_bt1 (m := g) (j := j) (by omega) (by omega)).mp z)
        rw [if_neg hb, if_neg (fun z => h1 z.1)]
        exact ih (j + 1) acc y (by omega) (fun i hi => by obtain ⟨k, k1, k2, k3⟩ := hacc i hi; exact ⟨k, by omega, k2, k3⟩) hy
  exact key 6 0 0 0 rfl (fun i hi => by rw [Nat.zero_testBit] at hi; exact absurd hi (by decide)) (by
    have : (0 : Nat).testBit = fun _ => false := by funext i; exact Nat.zero_testBit i
    rw [this]
    induction q_nk2 s with
    | nil => rfl
    | cons b l ih => rw [List.countP_cons, ← ih]; rfl)
