/-- an answer of true or false as the machine's int -/
def q_b (p : Prop) [Decidable p] : Int32 := if p then 1 else 0
theorem q_b1 {p : Prop} [Decidable p] (h : p) : q_b p = 1 := if_pos h
theorem q_b0 {p : Prop} [Decidable p] (h : ¬ p) : q_b p = 0 := if_neg h
theorem q_bn {p : Prop} [Decidable p] : q_b p = 0 ↔ ¬ p := by
  by_cases h : p
  · rw [q_b1 h]; exact ⟨fun c => absurd c (by decide), fun c => absurd h c⟩
  · rw [q_b0 h]; exact ⟨fun _ => h, fun _ => rfl⟩
theorem q_bp {p : Prop} [Decidable p] : ¬ q_b p = 0 ↔ p := by
  rw [q_bn, Decidable.not_not]
theorem q_bnar {p : Prop} [Decidable p] : narrow .boolean (.int (q_b p)) = .int (q_b p) := by
  by_cases h : p
  · rw [q_b1 h]; rfl
  · rw [q_b0 h]; rfl
/-- c times: f j, f (j+1), .. -/
def q_it {α : Type} (f : Nat → α → α) : Nat → Nat → α → α
  | 0, _, a => a
  | c + 1, j, a => q_it f c (j + 1) (f j a)
/-- the first of j, j+1, .. (c of them) with p -/
def q_fd (p : Nat → Bool) : Nat → Nat → Option Nat
  | 0, _ => none
  | c + 1, j => if p j then some j else q_fd p c (j + 1)
theorem q_in {x : Int32} {N : Nat} (h0 : (0 : Int32) ≤ x) (h1 : x < nI N) (hN : N < 2 ^ 31) : vp_in x N := by
  intro h
  have e1 : (nI N).toInt = N := Int32.toInt_ofNat_of_lt hN
  have e2 : (0 : Int32).toInt ≤ x.toInt := Int32.le_iff_toInt_le.mp h0
  have e3 : x.toInt < (nI N).toInt := Int32.lt_iff_toInt_lt.mp h1
  have e4 : (0 : Int32).toInt = 0 := rfl
  rcases h with h | h
  · have := Int32.lt_iff_toInt_lt.mp h; omega
  · have e5 : x.toNatClampNeg = x.toInt.toNat := rfl
    omega
theorem q_not_lt {a b : Int32} (h : a ≤ b) : ¬ b < a := Int32.not_lt.mpr h
section
variable {d n sl : Nat} {ln : Nat → Nat} {di : Nat → Nat → Int32} {dl : Nat → Nat → Int64} {dr : Nat → Nat → Option Nat} {Q : Option Value → q_H → Prop}
theorem c_within {x0 x1 : Int32} (hg : q_Gr n ln dr) (k : Q (some (.int (q_b ((0 : Int32) ≤ x0 ∧ x0 ≤ x1)))) (n, sl, ln, di, dl, dr)) : q_EX q_KD d 12 0 [.int x0, .int x1] [] (n, sl, ln, di, dl, dr) Q := by
  refine g12_0 hg (fun c => ?_) (fun c c' => ?_) (fun c c' => ?_)
  · rwa [q_b0 (fun h => q_not_lt h.1 c)] at k
  · rwa [q_b0 (fun h => q_not_lt h.2 c')] at k
  · rwa [q_b1 ⟨c, c'⟩] at k
theorem c_isIn {x0 x1 x2 : Int32} (hg : q_Gr n ln dr) (k : Q (some (.int (q_b (x1 ≤ x0 ∧ x0 ≤ x2)))) (n, sl, ln, di, dl, dr)) : q_EX q_KD d 118 0 [.int x0, .int x1, .int x2] [] (n, sl, ln, di, dl, dr) Q := by
  refine g118_0 hg (fun c => ?_) (fun c c' => ?_) (fun c c' => ?_)
  · rwa [q_b0 (fun h => q_not_lt h.1 c)] at k
  · rwa [q_b0 (fun h => q_not_lt h.2 c')] at k
  · rwa [q_b1 ⟨c, c'⟩] at k
theorem c_has {x0 x1 : Int32} (hg : q_Gr n ln dr) (k : Q (some (.int (q_b (((x0 >>> (x1 &&& 31)) &&& 1) = 1)))) (n, sl, ln, di, dl, dr)) : q_EX q_KD d 164 0 [.int x0, .int x1] [] (n, sl, ln, di, dl, dr) Q := by
  refine g164_0 hg (fun c => ?_) (fun c => ?_)
  · rwa [q_b0 c] at k
  · rwa [q_b1 c] at k
theorem c_isTold {x1 : Int32} (hg : q_Gr n ln dr) (k : Q (some (.int (q_b ((0 : Int32) ≤ x1 ∧ x1 < di 7 10 ∧ x1 < 6)))) (n, sl, ln, di, dl, dr)) : q_EX q_KD d 62 0 [.ref 7, .int x1] [] (n, sl, ln, di, dl, dr) Q := by
  refine g62_0 hg (fun c => ?_) (fun c c' => ?_) (fun c c' c'' => ?_) (fun c c' c'' => ?_)
  · rwa [q_b0 (fun h => q_not_lt h.1 c)] at k
  · rwa [q_b0 (fun h => q_not_lt c' h.2.1)] at k
  · rwa [q_b0 (fun h => q_not_lt c'' h.2.2)] at k
  · rwa [q_b1 ⟨c, c', c''⟩] at k
theorem c_isPerson {x1 : Int32} (hg : q_Gr n ln dr) (k : Q (some (.int (q_b ((0 : Int32) ≤ x1 ∧ x1 ≤ di 68 0 - 1)))) (n, sl, ln, di, dl, dr)) : q_EX q_KD (d + 1) 160 0 [.ref 67, .int x1] [] (n, sl, ln, di, dl, dr) Q :=
  g160_0 hg (c_isIn hg (g160_13 hg q_bnar k))
theorem c_isLine {x1 : Int32} (hg : q_Gr n ln dr) (k : Q (some (.int (q_b ((0 : Int32) ≤ x1 ∧ x1 ≤ di 68 1 - 1)))) (n, sl, ln, di, dl, dr)) : q_EX q_KD (d + 1) 158 0 [.ref 67, .int x1] [] (n, sl, ln, di, dl, dr) Q :=
  g158_0 hg (c_isIn hg (g158_13 hg q_bnar k))
/-- the model's bits: c bits of x from bit j on, added to a -/
def q_bits (x : Int32) (c j : Nat) (a : Int32) : Int32 := q_it (fun j a => a + ((x >>> (nI j &&& 31)) &&& 1)) c j a
theorem c_bits4 {x : Int32} (hg : q_Gr n ln dr) : ∀ (c j : Nat) (a : Int32), j + c = 10 → Q (some (.int (q_bits x c j a))) (n, sl, ln, di, dl, dr) → q_EX q_KD d 170 4 [.int x, .int a, .int (nI j)] [] (n, sl, ln, di, dl, dr) Q := by
  intro c
  induction c with
  | zero =>
    intro j a e k
    refine g170_4 hg (fun _ => k) (fun c' => ?_)
    exact absurd ((nI_ltI (b := 10) (by omega) (by decide)).mp c') (by omega)
  | succ c ih =>
    intro j a e k
    refine g170_4 hg (fun c' => ?_) (fun _ => ?_)
    · exact absurd ((nI_leI (a := 10) (by decide) (by omega)).mp c') (by omega)
    · rw [nI_1]
      exact ih (j + 1) _ (by omega) k
theorem c_bits {x : Int32} (hg : q_Gr n ln dr) (k : Q (some (.int (q_bits x 10 0 0))) (n, sl, ln, di, dl, dr)) : q_EX q_KD d 170 0 [.int x, .retAddr 0, .retAddr 0] [] (n, sl, ln, di, dl, dr) Q :=
  g170_0 hg (c_bits4 hg 10 0 0 rfl k)
theorem c_sits {x1 : Int32} (hg : q_Gr n ln dr) (k : Q (some (.int (q_b (((0 : Int32) ≤ x1 ∧ x1 < di 7 10 ∧ x1 < 6) ∧ ¬ di 11 x1.toNatClampNeg = -1)))) (n, sl, ln, di, dl, dr)) : q_EX q_KD (d + 1) 80 0 [.ref 7, .int x1] [] (n, sl, ln, di, dl, dr) Q := by
  refine g80_0 hg (c_isTold hg (g80_5 hg (fun c => ?_) (fun c => ?_) (fun c c' => ?_) (fun c c' => ?_)))
  · rwa [q_b0 (fun h => q_bn.mp c h.1)] at k
  · exact q_in (N := 6) (q_bp.mp c).1 (q_bp.mp c).2.2 (by decide)
  · rwa [q_b0 (fun h => h.2 c')] at k
  · rwa [q_b1 ⟨q_bp.mp c, c'⟩] at k
end
