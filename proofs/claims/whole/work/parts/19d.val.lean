theorem fa_wide_lt (a b : Int32) : a.toInt64 < b.toInt64 ↔ a < b := by rw [fa_lt64, fa_lt, Int32.toInt_toInt64, Int32.toInt_toInt64]
theorem fa_wide_le (a b : Int32) : a.toInt64 ≤ b.toInt64 ↔ a ≤ b := by rw [fa_le64, fa_le, Int32.toInt_toInt64, Int32.toInt_toInt64]
theorem fa_wide_eq (a b : Int32) : a.toInt64 = b.toInt64 ↔ a = b := by rw [fa_eq64, fa_eq, Int32.toInt_toInt64, Int32.toInt_toInt64]
theorem q_tM : (1000000 : Int64).toInt = 1000000 := rfl
theorem q_tN : (-1000000 : Int64).toInt = -1000000 := rfl
theorem q_tM32 : (1000000 : Int32).toInt = 1000000 := rfl
theorem q_tN32 : (-1000000 : Int32).toInt = -1000000 := rfl
theorem q_nar32 {r : Int64} (h1 : -1000000 ≤ r.toInt) (h2 : r.toInt ≤ 1000000) : r.toInt32.toInt = r.toInt := by
  rw [Int64.toInt_toInt32]
  exact Int.bmod_eq_of_le (by omega) (by omega)
theorem q_clIb (r : Int64) : (q_clI r).toInt64 = q_clL r ∧ -1000000 ≤ (q_clI r).toInt ∧ (q_clI r).toInt ≤ 1000000 := by
  unfold q_clI q_clL
  by_cases h1 : (1000000 : Int64) < r
  · rw [if_pos h1, if_pos h1]; decide
  · rw [if_neg h1, if_neg h1]
    by_cases h2 : r < (-1000000 : Int64)
    · rw [if_pos h2, if_pos h2]; decide
    · rw [if_neg h2, if_neg h2]
      rw [fa_lt64, q_tM] at h1
      rw [fa_lt64, q_tN] at h2
      have e := q_nar32 (r := r) (by omega) (by omega)
      refine ⟨?_, by omega, by omega⟩
      rw [fa_eq64, Int32.toInt_toInt64, e]
theorem q_neg64 {x : Int32} (h1 : -1000000 ≤ x.toInt) (h2 : x.toInt ≤ 1000000) : (-x).toInt64 = -(x.toInt64) ∧ -1000000 ≤ (-x).toInt ∧ (-x).toInt ≤ 1000000 := by
  have e1 : (-x).toInt = -x.toInt := by
    rw [Int32.toInt_neg]
    exact Int.bmod_eq_of_le (by omega) (by omega)
  refine ⟨?_, by omega, by omega⟩
  rw [fa_eq64, Int32.toInt_toInt64, Int64.toInt_neg, Int32.toInt_toInt64, e1]
  exact (Int.bmod_eq_of_le (by omega) (by omega)).symm
theorem q_encb {o v x y : Int32} (h : o = 3 ∨ o = 4 ∨ o = 5 ∨ o = 6) : (20000 : Int32) ≤ q_enc o v ∧ ¬ q_enc o v = 20224 ∧ ¬ q_enc o v = 20130 ∧ q_two o x.toInt64 y.toInt64 = (q_clI (q_join (q_enc o v - 20000) x y)).toInt64 := by
  rw [(q_clIb _).1]
  have hc0 : q_clL 0 = 0 := by decide
  rcases h with h | h | h | h <;> subst h
  · have e : q_enc 3 v = 20043 := by unfold q_enc; simp
    rw [e]
    refine ⟨by decide, by decide, by decide, ?_⟩
    rw [show (20043 : Int32) - 20000 = 43 from rfl]
    unfold q_two q_join
    rw [if_pos rfl, if_neg (by decide), if_neg (by decide), if_pos rfl]
  · have e : q_enc 4 v = 20045 := by unfold q_enc; simp
    rw [e]
    refine ⟨by decide, by decide, by decide, ?_⟩
    rw [show (20045 : Int32) - 20000 = 45 from rfl]
    unfold q_two q_join
    rw [if_neg (by decide), if_pos rfl, if_neg (by decide), if_neg (by decide), if_neg (by decide), if_pos rfl]
  · have e : q_enc 5 v = 20042 := by unfold q_enc; simp
    rw [e]
    refine ⟨by decide, by decide, by decide, ?_⟩
    rw [show (20042 : Int32) - 20000 = 42 from rfl]
    unfold q_two q_join
    rw [if_neg (by decide), if_neg (by decide), if_pos rfl, if_neg (by decide), if_pos rfl]
  · have e : q_enc 6 v = 20047 := by unfold q_enc; simp
    rw [e]
    refine ⟨by decide, by decide, by decide, ?_⟩
    rw [show (20047 : Int32) - 20000 = 47 from rfl]
    have e1 : q_two 6 x.toInt64 y.toInt64 = if y.toInt64 = 0 then 0 else q_clL (x.toInt64 / y.toInt64) := by
      unfold q_two; rw [if_neg (by decide), if_neg (by decide), if_neg (by decide)]
    have e2 : q_join 47 x y = if y = 0 then 0 else x.toInt64 / y.toInt64 := by
      unfold q_join; rw [if_neg (by decide), if_neg (by decide), if_neg (by decide), if_neg (by decide), if_pos rfl]
    rw [e1, e2]
    by_cases hy : y = 0
    · rw [if_pos (show y.toInt64 = 0 from (fa_wide_eq y 0).mpr hy), if_pos hy, hc0]
    · rw [if_neg (show ¬ y.toInt64 = 0 from fun z => hy ((fa_wide_eq y 0).mp z)), if_neg hy]
theorem q_encc {o v x y : Int32} (h : o = 10 ∨ o = 11 ∨ o = 12 ∨ o = 13 ∨ o = 14 ∨ o = 15) : (20000 : Int32) ≤ q_enc o v ∧ ¬ q_enc o v = 20224 ∧ ¬ q_enc o v = 20130 ∧ q_ask o x.toInt64 y.toInt64 = q_clI (q_join (q_enc o v - 20000) x y) := by
  have hb : ∀ (p : Prop) [Decidable p] (r : Int64), r = (if p then 1 else 0) → q_b p = q_clI r := fun p _ r hr => by
    subst hr
    by_cases z : p
    · rw [q_b1 z, if_pos z]; decide
    · rw [q_b0 z, if_neg z]; decide
  have hp : ∀ (p q : Prop) [Decidable p] [Decidable q], (p ↔ q) → q_b p = q_b q := fun p q _ _ hpq => by
    by_cases z : p
    · rw [q_b1 z, q_b1 (hpq.mp z)]
    · rw [q_b0 z, q_b0 (fun y => z (hpq.mpr y))]
  rcases h with h | h | h | h | h | h <;> subst h
  · have e : q_enc 10 v = 20060 := by unfold q_enc; simp
    rw [e]
    refine ⟨by decide, by decide, by decide, ?_⟩
    rw [show (20060 : Int32) - 20000 = 60 from rfl]
    unfold q_ask
    rw [if_pos rfl]
    exact (hp _ _ (fa_wide_lt x y)).trans (hb _ _ (by unfold q_join; simp))
  · have e : q_enc 11 v = 20128 := by unfold q_enc; simp
    rw [e]
    refine ⟨by decide, by decide, by decide, ?_⟩
    rw [show (20128 : Int32) - 20000 = 128 from rfl]
    unfold q_ask
    rw [if_neg (by decide), if_pos rfl]
    exact (hp _ _ (fa_wide_le x y)).trans (hb _ _ (by unfold q_join; simp))
  · have e : q_enc 12 v = 20062 := by unfold q_enc; simp
    rw [e]
    refine ⟨by decide, by decide, by decide, ?_⟩
    rw [show (20062 : Int32) - 20000 = 62 from rfl]
    unfold q_ask
    rw [if_neg (by decide), if_neg (by decide), if_pos rfl]
    exact (hp _ _ (fa_wide_lt y x)).trans (hb _ _ (by unfold q_join; simp))
  · have e : q_enc 13 v = 20129 := by unfold q_enc; simp
    rw [e]
    refine ⟨by decide, by decide, by decide, ?_⟩
    rw [show (20129 : Int32) - 20000 = 129 from rfl]
    unfold q_ask
    rw [if_neg (by decide), if_neg (by decide), if_neg (by decide), if_pos rfl]
    exact (hp _ _ (fa_wide_le y x)).trans (hb _ _ (by unfold q_join; simp))
  · have e : q_enc 14 v = 20061 := by unfold q_enc; simp
    rw [e]
    refine ⟨by decide, by decide, by decide, ?_⟩
    rw [show (20061 : Int32) - 20000 = 61 from rfl]
    unfold q_ask
    rw [if_neg (by decide), if_neg (by decide), if_neg (by decide), if_neg (by decide), if_pos rfl]
    exact (hp _ _ (fa_wide_eq x y)).trans (hb _ _ (by unfold q_join; simp))
  · have e : q_enc 15 v = 20035 := by unfold q_enc; simp
    rw [e]
    refine ⟨by decide, by decide, by decide, ?_⟩
    rw [show (20035 : Int32) - 20000 = 35 from rfl]
    unfold q_ask
    rw [if_neg (by decide), if_neg (by decide), if_neg (by decide), if_neg (by decide), if_neg (by decide)]
    refine (hp _ _ (not_congr (fa_wide_eq x y))).trans (hb _ _ ?_)
    unfold q_join
    rw [if_pos rfl]
    by_cases z : x = y
    · rw [if_pos z, if_neg (fun q => q z)]
    · rw [if_neg z, if_pos z]
theorem q_enca {v x y : Int32} (hx : x = 0 ∨ x = 1) (hy : y = 0 ∨ y = 1) : q_enc 21 v = 20223 ∧ q_enc 22 v = 20222 ∧ q_b (¬ x = 0 ∧ ¬ y = 0) = q_clI (q_join (20223 - 20000) x y) ∧ q_b (¬ x = 0 ∨ ¬ y = 0) = q_clI (q_join (20222 - 20000) x y) := by
  refine ⟨by unfold q_enc; simp, by unfold q_enc; simp, ?_⟩
  rcases hx with hx | hx <;> rcases hy with hy | hy <;> subst hx <;> subst hy <;> decide
/-- the class's one stack holds the truths and above them the values -/
def q_vr (st : Nat → Int32) (s : Nat × (Nat → Int64) × Nat × (Nat → Int32)) : Prop :=
  (∀ j, j < s.2.2.1 → st j = s.2.2.2 j ∧ (st j = 0 ∨ st j = 1)) ∧ (∀ j, j < s.1 → s.2.1 j = (st (s.2.2.1 + j)).toInt64 ∧ -1000000 ≤ (st (s.2.2.1 + j)).toInt ∧ (st (s.2.2.1 + j)).toInt ≤ 1000000)
