theorem nI_mulN (a b : Nat) : nI a * nI b = nI (a * b) := (Int32.ofNat_mul a b).symm
theorem q_ix (j k : Nat) : ((10 : Int32) + ((6 : Int32) * nI j)) + nI k = nI (10 + 6 * j + k) := by
  have e1 : (6 : Int32) * nI j = nI (6 * j) := nI_mulN 6 j
  have e2 : (10 : Int32) + nI (6 * j) = nI (10 + 6 * j) := nI_add 10 _
  rw [e1, e2, nI_add]
/-- who sits: c persons from j on -/
def q_sit (seat : Nat → Int32) (c j : Nat) (a : Int32) : Int32 := q_it (fun j a => if seat j = -1 then a else a ||| ((1 : Int32) <<< (nI j &&& 31))) c j a
theorem q_sit_out {seat : Nat → Int32} : ∀ (c j : Nat) (a : Int32), (∀ i, j ≤ i → seat i = -1) → q_sit seat c j a = a := by
  intro c
  induction c with
  | zero => intro j a _; rfl
  | succ c ih =>
    intro j a h
    show q_sit seat c (j + 1) (if seat j = -1 then a else _) = a
    rw [if_pos (h j (Nat.le_refl _))]
    exact ih (j + 1) a (fun i hi => h i (by omega))
section
variable {d n sl : Nat} {ln : Nat → Nat} {di : Nat → Nat → Int32} {dl : Nat → Nat → Int64} {dr : Nat → Nat → Option Nat} {Q : Option Value → q_H → Prop}
theorem c_get (j k : Nat) (hg : q_Gr n ln dr) (h : 10 + 6 * j + k < 706) (q : Q (some (.int (di 68 (10 + 6 * j + k)))) (n, sl, ln, di, dl, dr)) : q_EX q_KD d 161 0 [.ref 67, .int (nI j), .int (nI k)] [] (n, sl, ln, di, dl, dr) Q := by
  refine g161_0 hg ?_ ?_
  · rw [q_ix]; exact vp_in_nI h (by decide)
  · rw [q_ix, nI_clamp (by omega)]; exact q
theorem c_set (j k : Nat) {x3 : Int32} (hg : q_Gr n ln dr) (h : 10 + 6 * j + k < 706) (q : Q none (n, sl, ln, q_u di 68 (10 + 6 * j + k) x3, dl, dr)) : q_EX q_KD d 119 0 [.ref 67, .int (nI j), .int (nI k), .int x3] [] (n, sl, ln, di, dl, dr) Q := by
  refine g119_0 hg ?_ ?_
  · rw [q_ix]; exact vp_in_nI h (by decide)
  · rw [q_ix, nI_clamp (by omega)]; exact q
theorem c_sitH4 (hg : q_Gr n ln dr) : ∀ (c j : Nat) (a : Int32), j + c = 6 → Q (some (.int (q_sit (di 11) c j a))) (n, sl, ln, di, dl, dr) → q_EX q_KD d 69 4 [.ref 7, .int a, .int (nI j)] [] (n, sl, ln, di, dl, dr) Q := by
  intro c
  induction c with
  | zero =>
    intro j a e k
    have hn : ¬ nI j < 6 := fun c' => absurd ((nI_ltI (b := 6) (by omega) (by decide)).mp c') (by omega)
    exact g69_4 hg (fun _ => k) (fun c' => absurd c' hn) (fun c' => absurd c' hn) (fun c' => absurd c' hn)
  | succ c ih =>
    intro j a e k
    have hj : (nI j).toNatClampNeg = j := nI_clamp (by omega)
    refine g69_4 hg (fun c' => absurd ((nI_leI (a := 6) (by decide) (by omega)).mp c') (by omega)) (fun _ => vp_in_nI (by omega) (by decide)) (fun _ c2 => ?_) (fun _ c2 => ?_)
    · rw [hj] at c2
      rw [nI_1]
      refine ih (j + 1) _ (by omega) ?_
      have e2 : q_sit (di 11) (c + 1) j a = q_sit (di 11) c (j + 1) (if di 11 j = -1 then a else a ||| ((1 : Int32) <<< (nI j &&& 31))) := rfl
      rwa [e2, if_pos c2] at k
    · rw [hj] at c2
      rw [nI_1]
      refine ih (j + 1) _ (by omega) ?_
      have e2 : q_sit (di 11) (c + 1) j a = q_sit (di 11) c (j + 1) (if di 11 j = -1 then a else a ||| ((1 : Int32) <<< (nI j &&& 31))) := rfl
      rwa [e2, if_neg c2] at k
theorem c_sitH (hg : q_Gr n ln dr) (k : Q (some (.int (q_sit (di 11) 6 0 0))) (n, sl, ln, di, dl, dr)) : q_EX q_KD d 69 0 [.ref 7, .retAddr 0, .retAddr 0] [] (n, sl, ln, di, dl, dr) Q :=
  g69_0 hg (c_sitH4 hg 6 0 0 rfl k)
theorem c_gap {x0 x1 : Int32} (hg : q_Gr n ln dr) (k : Q (some (.int (if x1 ≤ x0 then x0 - x1 else x1 - x0))) (n, sl, ln, di, dl, dr)) : q_EX q_KD d 169 0 [.int x0, .int x1] [] (n, sl, ln, di, dl, dr) Q := by
  refine g169_0 hg (fun c => ?_) (fun c => ?_)
  · rwa [if_pos c] at k
  · rwa [if_neg (fun h => q_not_lt h c)] at k
end
/-- the model's nearness of two seats -/
def q_gap (x0 x1 : Int32) : Int32 := if x1 ≤ x0 then x0 - x1 else x1 - x0
def q_nr (x0 x1 : Int32) : Int32 := q_b (q_gap (x0 / 4) (x1 / 4) + q_gap (x0 - x0 / 4 * 4) (x1 - x1 / 4 * 4) = 1)
section
variable {d n sl : Nat} {ln : Nat → Nat} {di : Nat → Nat → Int32} {dl : Nat → Nat → Int64} {dr : Nat → Nat → Option Nat} {Q : Option Value → q_H → Prop}
theorem c_isNear {x0 x1 : Int32} (hg : q_Gr n ln dr) (k : Q (some (.int (q_nr x0 x1))) (n, sl, ln, di, dl, dr)) : q_EX q_KD (d + 1) 168 0 [.int x0, .int x1] [] (n, sl, ln, di, dl, dr) Q := by
  refine g168_0 hg (c_gap hg (g168_9 hg (c_gap hg (g168_18 hg (fun c => ?_) (fun c => ?_)))))
  · have e : q_nr x0 x1 = 0 := q_b0 c
    rwa [e] at k
  · have e : q_nr x0 x1 = 1 := q_b1 c
    rwa [e] at k
end
