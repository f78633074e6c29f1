/-- the seats near a seat -/
def q_nkL : List (List Nat) := [[1, 4], [0, 2, 5], [1, 3, 6], [2, 7], [0, 5, 8], [1, 4, 6, 9], [2, 5, 7, 10], [3, 6, 11], [4, 9, 12], [5, 8, 10, 13], [6, 9, 11, 14], [7, 10, 15], [8, 13], [9, 12, 14], [10, 13, 15], [11, 14]]
def q_nk2 (s : Nat) : List Nat := q_nkL.getD s []
theorem q_a2p (x k : Nat) : x &&& 2 ^ k = if x.testBit k then 2 ^ k else 0 := by
  apply Nat.eq_of_testBit_eq
  intro i
  rw [Nat.testBit_and, Nat.testBit_two_pow]
  by_cases h : k = i
  · subst h
    cases hx : x.testBit k <;> simp
  · cases hx : x.testBit k <;> simp [h, Nat.testBit_two_pow]

theorem q_bs0 (x : Nat) : q_bcI (nI (x &&& 18)) = nI ((q_nk2 0).countP x.testBit) := by
  have h : ∀ b1 b4 : Bool, q_bcI (nI ((if b1 then 2 ^ 1 else 0) ||| (if b4 then 2 ^ 4 else 0))) = nI (0 + (if b4 then 1 else 0) + (if b1 then 1 else 0)) := by decide +kernel
  rw [show (18 : Nat) = 2 ^ 1 ||| 2 ^ 4 from by decide, Nat.and_or_distrib_left, q_a2p, q_a2p]
  show _ = nI (List.countP x.testBit [1, 4])
  rw [List.countP_cons, List.countP_cons, List.countP_nil]
  exact h (x.testBit 1) (x.testBit 4)
theorem q_bs1 (x : Nat) : q_bcI (nI (x &&& 37)) = nI ((q_nk2 1).countP x.testBit) := by
  have h : ∀ b0 b2 b5 : Bool, q_bcI (nI ((if b0 then 2 ^ 0 else 0) ||| (if b2 then 2 ^ 2 else 0) ||| (if b5 then 2 ^ 5 else 0))) = nI (0 + (if b5 then 1 else 0) + (if b2 then 1 else 0) + (if b0 then 1 else 0)) := by decide +kernel
  rw [show (37 : Nat) = 2 ^ 0 ||| 2 ^ 2 ||| 2 ^ 5 from by decide, Nat.and_or_distrib_left, Nat.and_or_distrib_left, q_a2p, q_a2p, q_a2p]
  show _ = nI (List.countP x.testBit [0, 2, 5])
  rw [List.countP_cons, List.countP_cons, List.countP_cons, List.countP_nil]
  exact h (x.testBit 0) (x.testBit 2) (x.testBit 5)
theorem q_bs2 (x : Nat) : q_bcI (nI (x &&& 74)) = nI ((q_nk2 2).countP x.testBit) := by
  have h : ∀ b1 b3 b6 : Bool, q_bcI (nI ((if b1 then 2 ^ 1 else 0) ||| (if b3 then 2 ^ 3 else 0) ||| (if b6 then 2 ^ 6 else 0))) = nI (0 + (if b6 then 1 else 0) + (if b3 then 1 else 0) + (if b1 then 1 else 0)) := by decide +kernel
  rw [show (74 : Nat) = 2 ^ 1 ||| 2 ^ 3 ||| 2 ^ 6 from by decide, Nat.and_or_distrib_left, Nat.and_or_distrib_left, q_a2p, q_a2p, q_a2p]
  show _ = nI (List.countP x.testBit [1, 3, 6])
  rw [List.countP_cons, List.countP_cons, List.countP_cons, List.countP_nil]
  exact h (x.testBit 1) (x.testBit 3) (x.testBit 6)
theorem q_bs3 (x : Nat) : q_bcI (nI (x &&& 132)) = nI ((q_nk2 3).countP x.testBit) := by
  have h : ∀ b2 b7 : Bool, q_bcI (nI ((if b2 then 2 ^ 2 else 0) ||| (if b7 then 2 ^ 7 else 0))) = nI (0 + (if b7 then 1 else 0) + (if b2 then 1 else 0)) := by decide +kernel
  rw [show (132 : Nat) = 2 ^ 2 ||| 2 ^ 7 from by decide, Nat.and_or_distrib_left, q_a2p, q_a2p]
  show _ = nI (List.countP x.testBit [2, 7])
  rw [List.countP_cons, List.countP_cons, List.countP_nil]
  exact h (x.testBit 2) (x.testBit 7)
theorem q_bs4 (x : Nat) : q_bcI (nI (x &&& 289)) = nI ((q_nk2 4).countP x.testBit) := by
  have h : ∀ b0 b5 b8 : Bool, q_bcI (nI ((if b0 then 2 ^ 0 else 0) ||| (if b5 then 2 ^ 5 else 0) ||| (if b8 then 2 ^ 8 else 0))) = nI (0 + (if b8 then 1 else 0) + (if b5 then 1 else 0) + (if b0 then 1 else 0)) := by decide +kernel
  rw [show (289 : Nat) = 2 ^ 0 ||| 2 ^ 5 ||| 2 ^ 8 from by decide, Nat.and_or_distrib_left, Nat.and_or_distrib_left, q_a2p, q_a2p, q_a2p]
  show _ = nI (List.countP x.testBit [0, 5, 8])
  rw [List.countP_cons, List.countP_cons, List.countP_cons, List.countP_nil]
  exact h (x.testBit 0) (x.testBit 5) (x.testBit 8)
theorem q_bs5 (x : Nat) : q_bcI (nI (x &&& 594)) = nI ((q_nk2 5).countP x.testBit) := by
  have h : ∀ b1 b4 b6 b9 : Bool, q_bcI (nI ((if b1 then 2 ^ 1 else 0) ||| (if b4 then 2 ^ 4 else 0) ||| (if b6 then 2 ^ 6 else 0) ||| (if b9 then 2 ^ 9 else 0))) = nI (0 + (if b9 then 1 else 0) + (if b6 then 1 else 0) + (if b4 then 1 else 0) + (if b1 then 1 else 0)) := by decide +kernel
  rw [show (594 : Nat) = 2 ^ 1 ||| 2 ^ 4 ||| 2 ^ 6 ||| 2 ^ 9 from by decide, Nat.and_or_distrib_left, Nat.and_or_distrib_left, Nat.and_or_distrib_left, q_a2p, q_a2p, q_a2p, q_a2p]
  show _ = nI (List.countP x.testBit [1, 4, 6, 9])
  rw [List.countP_cons, List.countP_cons, List.countP_cons, List.countP_cons, List.countP_nil]
  exact h (x.testBit 1) (x.testBit 4) (x.testBit 6) (x.testBit 9)
theorem q_bs6 (x : Nat) : q_bcI (nI (x &&& 1188)) = nI ((q_nk2 6).countP x.testBit) := by
  have h : ∀ b2 b5 b7 b10 : Bool, q_bcI (nI ((if b2 then 2 ^ 2 else 0) ||| (if b5 then 2 ^ 5 else 0) ||| (if b7 then 2 ^ 7 else 0) ||| (if b10 then 2 ^ 10 else 0))) = nI (0 + (if b10 then 1 else 0) + (if b7 then 1 else 0) + (if b5 then 1 else 0) + (if b2 then 1 else 0)) := by decide +kernel
  rw [show (1188 : Nat) = 2 ^ 2 ||| 2 ^ 5 ||| 2 ^ 7 ||| 2 ^ 10 from by decide, Nat.and_or_distrib_left, Nat.and_or_distrib_left, Nat.and_or_distrib_left, q_a2p, q_a2p, q_a2p, q_a2p]
  show _ = nI (List.countP x.testBit [2, 5, 7, 10])
  rw [List.countP_cons, List.countP_cons, List.countP_cons, List.countP_cons, List.countP_nil]
  exact h (x.testBit 2) (x.testBit 5) (x.testBit 7) (x.testBit 10)
theorem q_bs7 (x : Nat) : q_bcI (nI (x &&& 2120)) = nI ((q_nk2 7).countP x.testBit) := by
  have h : ∀ b3 b6 b11 : Bool, q_bcI (nI ((if b3 then 2 ^ 3 else 0) ||| (if b6 then 2 ^ 6 else 0) ||| (if b11 then 2 ^ 11 else 0))) = nI (0 + (if b11 then 1 else 0) + (if b6 then 1 else 0) + (if b3 then 1 else 0)) := by decide +kernel
  rw [show (2120 : Nat) = 2 ^ 3 ||| 2 ^ 6 ||| 2 ^ 11 from by decide, Nat.and_or_distrib_left, Nat.and_or_distrib_left, q_a2p, q_a2p, q_a2p]
  show _ = nI (List.countP x.testBit [3, 6, 11])
  rw [List.countP_cons, List.countP_cons, List.countP_cons, List.countP_nil]
  exact h (x.testBit 3) (x.testBit 6) (x.testBit 11)
theorem q_bs8 (x : Nat) : q_bcI (nI (x &&& 4624)) = nI ((q_nk2 8).countP x.testBit) := by
  have h : ∀ b4 b9 b12 : Bool, q_bcI (nI ((if b4 then 2 ^ 4 else 0) ||| (if b9 then 2 ^ 9 else 0) ||| (if b12 then 2 ^ 12 else 0))) = nI (0 + (if b12 then 1 else 0) + (if b9 then 1 else 0) + (if b4 then 1 else 0)) := by decide +kernel
  rw [show (4624 : Nat) = 2 ^ 4 ||| 2 ^ 9 ||| 2 ^ 12 from by decide, Nat.and_or_distrib_left, Nat.and_or_distrib_left, q_a2p, q_a2p, q_a2p]
  show _ = nI (List.countP x.testBit [4, 9, 12])
  rw [List.countP_cons, List.countP_cons, List.countP_cons, List.countP_nil]
  exact h (x.testBit 4) (x.testBit 9) (x.testBit 12)
theorem q_bs9 (x : Nat) : q_bcI (nI (x &&& 9504)) = nI ((q_nk2 9).countP x.testBit) := by
  have h : ∀ b5 b8 b10 b13 : Bool, q_bcI (nI ((if b5 then 2 ^ 5 else 0) ||| (if b8 then 2 ^ 8 else 0) ||| (if b10 then 2 ^ 10 else 0) ||| (if b13 then 2 ^ 13 else 0))) = nI (0 + (if b13 then 1 else 0) + (if b10 then 1 else 0) + (if b8 then 1 else 0) + (if b5 then 1 else 0)) := by decide +kernel
  rw [show (9504 : Nat) = 2 ^ 5 ||| 2 ^ 8 ||| 2 ^ 10 ||| 2 ^ 13 from by decide, Nat.and_or_distrib_left, Nat.and_or_distrib_left, Nat.and_or_distrib_left, q_a2p, q_a2p, q_a2p, q_a2p]
  show _ = nI (List.countP x.testBit [5, 8, 10, 13])
  rw [List.countP_cons, List.countP_cons, List.countP_cons, List.countP_cons, List.countP_nil]
  exact h (x.testBit 5) (x.testBit 8) (x.testBit 10) (x.testBit 13)
theorem q_bs10 (x : Nat) : q_bcI (nI (x &&& 19008)) = nI ((q_nk2 10).countP x.testBit) := by
  have h : ∀ b6 b9 b11 b14 : Bool, q_bcI (nI ((if b6 then 2 ^ 6 else 0) ||| (if b9 then 2 ^ 9 else 0) ||| (if b11 then 2 ^ 11 else 0) ||| (if b14 then 2 ^ 14 else 0))) = nI (0 + (if b14 then 1 else 0) + (if b11 then 1 else 0) + (if b9 then 1 else 0) + (if b6 then 1 else 0)) := by decide +kernel
  rw [show (19008 : Nat) = 2 ^ 6 ||| 2 ^ 9 ||| 2 ^ 11 ||| 2 ^ 14 from by decide, Nat.and_or_distrib_left, Nat.and_or_distrib_left, Nat.and_or_distrib_left, q_a2p, q_a2p, q_a2p, q_a2p]
  show _ = nI (List.countP x.testBit [6, 9, 11, 14])
  rw [List.countP_cons, List.countP_cons, List.countP_cons, List.countP_cons, List.countP_nil]
  exact h (x.testBit 6) (x.testBit 9) (x.testBit 11) (x.testBit 14)
theorem q_bs11 (x : Nat) : q_bcI (nI (x &&& 33920)) = nI ((q_nk2 11).countP x.testBit) := by
  have h : ∀ b7 b10 b15 : Bool, q_bcI (nI ((if b7 then 2 ^ 7 else 0) ||| (if b10 then 2 ^ 10 else 0) ||| (if b15 then 2 ^ 15 else 0))) = nI (0 + (if b15 then 1 else 0) + (if b10 then 1 else 0) + (if b7 then 1 else 0)) := by decide +kernel
  rw [show (33920 : Nat) = 2 ^ 7 ||| 2 ^ 10 ||| 2 ^ 15 from by decide, Nat.and_or_distrib_left, Nat.and_or_distrib_left, q_a2p, q_a2p, q_a2p]
  show _ = nI (List.countP x.testBit [7, 10, 15])
  rw [List.countP_cons, List.countP_cons, List.countP_cons, List.countP_nil]
  exact h (x.testBit 7) (x.testBit 10) (x.testBit 15)
theorem q_bs12 (x : Nat) : q_bcI (nI (x &&& 8448)) = nI ((q_nk2 12).countP x.testBit) := by
  have h : ∀ b8 b13 : Bool, q_bcI (nI ((if b8 then 2 ^ 8 else 0) ||| (if b13 then 2 ^ 13 else 0))) = nI (0 + (if b13 then 1 else 0) + (if b8 then 1 else 0)) := by decide +kernel
  rw [show (8448 : Nat) = 2 ^ 8 ||| 2 ^ 13 from by decide, Nat.and_or_distrib_left, q_a2p, q_a2p]
  show _ = nI (List.countP x.testBit [8, 13])
  rw [List.countP_cons, List.countP_cons, List.countP_nil]
  exact h (x.testBit 8) (x.testBit 13)
theorem q_bs13 (x : Nat) : q_bcI (nI (x &&& 20992)) = nI ((q_nk2 13).countP x.testBit) := by
  have h : ∀ b9 b12 b14 : Bool, q_bcI (nI ((if b9 then 2 ^ 9 else 0) ||| (if b12 then 2 ^ 12 else 0) ||| (if b14 then 2 ^ 14 else 0))) = nI (0 + (if b14 then 1 else 0) + (if b12 then 1 else 0) + (if b9 then 1 else 0)) := by decide +kernel
  rw [show (20992 : Nat) = 2 ^ 9 ||| 2 ^ 12 ||| 2 ^ 14 from by decide, Nat.and_or_distrib_left, Nat.and_or_distrib_left, q_a2p, q_a2p, q_a2p]
  show _ = nI (List.countP x.testBit [9, 12, 14])
  rw [List.countP_cons, List.countP_cons, List.countP_cons, List.countP_nil]
  exact h (x.testBit 9) (x.testBit 12) (x.testBit 14)
theorem q_bs14 (x : Nat) : q_bcI (nI (x &&& 41984)) = nI ((q_nk2 14).countP x.testBit) := by
  have h : ∀ b10 b13 b15 : Bool, q_bcI (nI ((if b10 then 2 ^ 10 else 0) ||| (if b13 then 2 ^ 13 else 0) ||| (if b15 then 2 ^ 15 else 0))) = nI (0 + (if b15 then 1 else 0) + (if b13 then 1 else 0) + (if b10 then 1 else 0)) := by decide +kernel
  rw [show (41984 : Nat) = 2 ^ 10 ||| 2 ^ 13 ||| 2 ^ 15 from by decide, Nat.and_or_distrib_left, Nat.and_or_distrib_left, q_a2p, q_a2p, q_a2p]
  show _ = nI (List.countP x.testBit [10, 13, 15])
  rw [List.countP_cons, List.countP_cons, List.countP_cons, List.countP_nil]
  exact h (x.testBit 10) (x.testBit 13) (x.testBit 15)
theorem q_bs15 (x : Nat) : q_bcI (nI (x &&& 18432)) = nI ((q_nk2 15).countP x.testBit) := by
  have h : ∀ b11 b14 : Bool, q_bcI (nI ((if b11 then 2 ^ 11 else 0) ||| (if b14 then 2 ^ 14 else 0))) = nI (0 + (if b14 then 1 else 0) + (if b11 then 1 else 0)) := by decide +kernel
  rw [show (18432 : Nat) = 2 ^ 11 ||| 2 ^ 14 from by decide, Nat.and_or_distrib_left, q_a2p, q_a2p]
  show _ = nI (List.countP x.testBit [11, 14])
  rw [List.countP_cons, List.countP_cons, List.countP_nil]
  exact h (x.testBit 11) (x.testBit 14)
theorem q_bsA (x s : Nat) (hs : s < 16) : q_bcI (nI x &&& q_near.getD s 0) = nI ((q_nk2 s).countP x.testBit) := by
  match s, hs with
  | 0, _ => exact (congrArg q_bcI (fa_and x 18)).trans (q_bs0 x)
  | 1, _ => exact (congrArg q_bcI (fa_and x 37)).trans (q_bs1 x)
  | 2, _ => exact (congrArg q_bcI (fa_and x 74)).trans (q_bs2 x)
  | 3, _ => exact (congrArg q_bcI (fa_and x 132)).trans (q_bs3 x)
  | 4, _ => exact (congrArg q_bcI (fa_and x 289)).trans (q_bs4 x)
  | 5, _ => exact (congrArg q_bcI (fa_and x 594)).trans (q_bs5 x)
  | 6, _ => exact (congrArg q_bcI (fa_and x 1188)).trans (q_bs6 x)
  | 7, _ => exact (congrArg q_bcI (fa_and x 2120)).trans (q_bs7 x)
  | 8, _ => exact (congrArg q_bcI (fa_and x 4624)).trans (q_bs8 x)
  | 9, _ => exact (congrArg q_bcI (fa_and x 9504)).trans (q_bs9 x)
  | 10, _ => exact (congrArg q_bcI (fa_and x 19008)).trans (q_bs10 x)
  | 11, _ => exact (congrArg q_bcI (fa_and x 33920)).trans (q_bs11 x)
  | 12, _ => exact (congrArg q_bcI (fa_and x 8448)).trans (q_bs12 x)
  | 13, _ => exact (congrArg q_bcI (fa_and x 20992)).trans (q_bs13 x)
  | 14, _ => exact (congrArg q_bcI (fa_and x 41984)).trans (q_bs14 x)
  | 15, _ => exact (congrArg q_bcI (fa_and x 18432)).trans (q_bs15 x)
  | s + 16, h => exact absurd h (by omega)
theorem q_nkD : ∀ s, s < 16 → ∀ t, t < 16 → (q_nk2 s).countP (fun k => decide (k = t)) = if q_nr (nI s) (nI t) = 0 then 0 else 1 := by decide +kernel
theorem q_cpO {b b2 : Nat → Bool} (h : ∀ k, ¬ (b k = true ∧ b2 k = true)) : ∀ l : List Nat, l.countP (fun k => b k || b2 k) = l.countP b + l.countP b2 := by
  intro l
  induction l with
  | nil => rfl
  | cons a l ih =>
    rw [List.countP_cons, List.countP_cons, List.countP_cons, ih]
    have := h a
    cases h1 : b a <;> cases h2 : b2 a <;> simp [h1, h2] at this ⊢ <;> omega
/-- a seat more -/
theorem q_cpS {x t s : Nat} (hs : s < 16) (ht : t < 16) (hb : x.testBit t = false) : (q_nk2 s).countP (x ||| 2 ^ t).testBit = (q_nk2 s).countP x.testBit + if q_nr (nI s) (nI t) = 0 then 0 else 1 := by
  rw [← q_nkD s hs t ht, ← q_cpO (fun k h => ?_)]
  · congr 1
    funext k
    exact q_bset x t k
  · have e := of_decide_eq_true h.2
    rw [e, hb] at h
    exact absurd h.1 (by decide)
/-- at most four -/
theorem q_cp4 (b : Nat → Bool) (s : Nat) (hs : s < 16) : (q_nk2 s).countP b ≤ 4 := by
  have h1 : (q_nk2 s).countP b ≤ (q_nk2 s).length := List.countP_le_length
  have h2 : ∀ s, s < 16 → (q_nk2 s).length ≤ 4 := by decide
  have := h2 s hs
  omega
