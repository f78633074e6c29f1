/-- the first of c persons from j on who is on seat x, or -1 -/
def q_on (seat : Nat → Int32) (x : Int32) : Nat → Nat → Int32
  | 0, _ => -1
  | c + 1, j => if seat j = x then nI j else q_on seat x c (j + 1)
theorem q_on_out {seat : Nat → Int32} {x : Int32} : ∀ (c j : Nat), (∀ i, j ≤ i → i < j + c → ¬ seat i = x) → q_on seat x c j = -1 := by
  intro c
  induction c with
  | zero => intro j _; rfl
  | succ c ih =>
    intro j h
    show (if seat j = x then nI j else q_on seat x c (j + 1)) = -1
    rw [if_neg (h j (Nat.le_refl _) (by omega))]
    exact ih (j + 1) (fun i h1 h2 => h i (by omega) (by omega))
theorem q_on_app {seat : Nat → Int32} {x : Int32} : ∀ (c c' j : Nat), (∀ i, j + c ≤ i → i < j + c + c' → ¬ seat i = x) → q_on seat x (c + c') j = q_on seat x c j := by
  intro c
  induction c with
  | zero =>
    intro c' j h
    rw [Nat.zero_add]
    exact q_on_out c' j (fun i h1 h2 => h i (by omega) (by omega))
  | succ c ih =>
    intro c' j h
    rw [Nat.succ_add]
    show (if seat j = x then nI j else q_on seat x (c + c') (j + 1)) = (if seat j = x then nI j else q_on seat x c (j + 1))
    rw [ih c' (j + 1) (fun i h1 h2 => h i (by omega) (by omega))]
theorem q_on_cg {f g : Nat → Int32} {x : Int32} : ∀ (c j : Nat), (∀ i, j ≤ i → i < j + c → f i = g i) → q_on f x c j = q_on g x c j := by
  intro c
  induction c with
  | zero => intro j _; rfl
  | succ c ih =>
    intro j h
    show (if f j = x then nI j else q_on f x c (j + 1)) = (if g j = x then nI j else q_on g x c (j + 1))
    rw [ih (j + 1) (fun i h1 h2 => h i (by omega) (by omega)), h j (Nat.le_refl _) (by omega)]
section
variable {d n sl : Nat} {ln : Nat → Nat} {di : Nat → Nat → Int32} {dl : Nat → Nat → Int64} {dr : Nat → Nat → Option Nat} {Q : Option Value → q_H → Prop}
theorem c_onH2 {x : Int32} (hg : q_Gr n ln dr) : ∀ (c j : Nat), j + c = 6 → Q (some (.int (q_on (di 11) x c j))) (n, sl, ln, di, dl, dr) → q_EX q_KD d 63 2 [.ref 7, .int x, .int (nI j)] [] (n, sl, ln, di, dl, dr) Q := by
  intro c
  induction c with
  | zero =>
    intro j e k
    have hn : ¬ nI j < 6 := fun c' => absurd ((nI_ltI (b := 6) (by omega) (by decide)).mp c') (by omega)
    exact g63_2 hg (fun _ => k) (fun c' => absurd c' hn) (fun c' => absurd c' hn) (fun c' => absurd c' hn)
  | succ c ih =>
    intro j e k
    have hj : (nI j).toNatClampNeg = j := nI_clamp (by omega)
    have e2 : q_on (di 11) x (c + 1) j = if di 11 j = x then nI j else q_on (di 11) x c (j + 1) := rfl
    rw [e2] at k
    refine g63_2 hg (fun c' => absurd ((nI_leI (a := 6) (by decide) (by omega)).mp c') (by omega)) (fun _ => vp_in_nI (by omega) (by decide)) (fun _ c2 => ?_) (fun _ c2 => ?_)
    · rw [hj] at c2
      rw [nI_1]
      rw [if_neg c2] at k
      exact ih (j + 1) (by omega) k
    · rw [hj] at c2
      rwa [if_pos c2] at k
theorem c_onH {x : Int32} (hg : q_Gr n ln dr) (k : Q (some (.int (q_on (di 11) x 6 0))) (n, sl, ln, di, dl, dr)) : q_EX q_KD d 63 0 [.ref 7, .int x, .retAddr 0] [] (n, sl, ln, di, dl, dr) Q :=
  g63_0 hg (c_onH2 hg 6 0 rfl k)
theorem c_onM2 {x : Int32} (p : Nat) (hp : p ≤ 6) (he : di 68 0 = nI p) (hg : q_Gr n ln dr) : ∀ (c j : Nat), j + c = p → Q (some (.int (q_on (fun j => di 68 (10 + 6 * j + 3)) x c j))) (n, sl, ln, di, dl, dr) → q_EX q_KD (d + 1) 179 2 [.ref 67, .int x, .int (nI j)] [] (n, sl, ln, di, dl, dr) Q := by
  intro c
  induction c with
  | zero =>
    intro j e k
    refine g179_2 hg (fun _ => k) (fun c' => ?_)
    rw [he] at c'
    exact absurd ((nI_ltI (by omega) (by omega)).mp c') (by omega)
  | succ c ih =>
    intro j e k
    have e2 : q_on (fun j => di 68 (10 + 6 * j + 3)) x (c + 1) j = if di 68 (10 + 6 * j + 3) = x then nI j else q_on (fun j => di 68 (10 + 6 * j + 3)) x c (j + 1) := rfl
    rw [e2] at k
    refine g179_2 hg (fun c' => ?_) (fun _ => c_get j 3 hg (by omega) (g179_18 hg (fun c2 => ?_) (fun c2 => ?_)))
    · rw [he] at c'
      exact absurd ((nI_leI (by omega) (by omega)).mp c') (by omega)
    · rw [nI_1]
      rw [if_neg c2] at k
      exact ih (j + 1) (by omega) k
    · rwa [if_pos c2] at k
theorem c_onM {x : Int32} (p : Nat) (hp : p ≤ 6) (he : di 68 0 = nI p) (hg : q_Gr n ln dr) (k : Q (some (.int (q_on (fun j => di 68 (10 + 6 * j + 3)) x p 0))) (n, sl, ln, di, dl, dr)) : q_EX q_KD (d + 1) 179 0 [.ref 67, .int x, .retAddr 0] [] (n, sl, ln, di, dl, dr) Q :=
  g179_0 hg (c_onM2 p hp he hg p 0 (by omega) k)
end
