/-- the model's clause of sort x in the text that rules: c clauses from j on of the text at t -/
def q_cla (tx : Nat → Int32) (t : Nat) (x : Int32) : Nat → Nat → Int32
  | 0, _ => -1
  | c + 1, j => if tx (680 * t + 1 + 3 * j) = x then nI j else q_cla tx t x c (j + 1)
theorem q_ixc (t j : Nat) : (((680 : Int32) * nI t) + 1) + ((3 : Int32) * nI j) = nI (680 * t + 1 + 3 * j) := by
  have e1 : (680 : Int32) * nI t = nI (680 * t) := nI_mulN 680 t
  have e2 : (3 : Int32) * nI j = nI (3 * j) := nI_mulN 3 j
  rw [e1, e2, nI_1, nI_add]
section
variable {d n sl : Nat} {ln : Nat → Nat} {di : Nat → Nat → Int32} {dl : Nat → Nat → Int64} {dr : Nat → Nat → Option Nat} {Q : Option Value → q_H → Prop}
theorem c_cla0 {x : Int32} (h : di 68 5 < 0) (hg : q_Gr n ln dr) (k : Q (some (.int (-1))) (n, sl, ln, di, dl, dr)) : q_EX q_KD d 166 0 [.ref 67, .int x, .retAddr 0] [] (n, sl, ln, di, dl, dr) Q :=
  g166_0 hg (g166_2 hg (fun _ => k) (fun c => absurd h (q_nle c)) (fun c => absurd h (q_nle c)) (fun c => absurd h (q_nle c)) (fun c => absurd h (q_nle c)) (fun c => absurd h (q_nle c)))
theorem c_cla2 {x : Int32} (t p : Nat) (ht : t < 4) (hp : p ≤ 24) (h5 : di 68 5 = nI t) (hn : di 70 (680 * t) = nI p) (hg : q_Gr n ln dr) : ∀ (c j : Nat), j + c = p → Q (some (.int (q_cla (di 70) t x c j))) (n, sl, ln, di, dl, dr) → q_EX q_KD d 166 2 [.ref 67, .int x, .int (nI j)] [] (n, sl, ln, di, dl, dr) Q := by
  have e1 : (680 : Int32) * di 68 5 = nI (680 * t) := by rw [h5]; exact nI_mulN 680 t
  have e2 : ((680 : Int32) * di 68 5).toNatClampNeg = 680 * t := by rw [e1]; exact nI_clamp (by omega)
  have hp5 : ¬ di 68 5 < 0 := by rw [h5]; exact nI_pos (by omega)
  intro c
  induction c with
  | zero =>
    intro j e k
    have hh : ¬ nI j < di 70 ((680 : Int32) * di 68 5).toNatClampNeg := by
      rw [e2, hn]; exact nI_nlt (by omega) (by omega)
    exact g166_2 hg (fun c => absurd c hp5) (fun _ => by rw [e1]; exact vp_in_nI (by omega) (by decide)) (fun _ _ => k) (fun _ c => absurd c hh) (fun _ c => absurd c hh) (fun _ c => absurd c hh)
  | succ c ih =>
    intro j e k
    have e3 : (((680 : Int32) * di 68 5) + 1) + ((3 : Int32) * nI j) = nI (680 * t + 1 + 3 * j) := by rw [h5]; exact q_ixc t j
    have e4 : ((((680 : Int32) * di 68 5) + 1) + ((3 : Int32) * nI j)).toNatClampNeg = 680 * t + 1 + 3 * j := by rw [e3]; exact nI_clamp (by omega)
    have e5 : q_cla (di 70) t x (c + 1) j = if di 70 (680 * t + 1 + 3 * j) = x then nI j else q_cla (di 70) t x c (j + 1) := rfl
    rw [e5] at k
    refine g166_2 hg (fun c => absurd c hp5) (fun _ => by rw [e1]; exact vp_in_nI (by omega) (by decide)) (fun _ c => ?_) (fun _ _ => by rw [e3]; exact vp_in_nI (by omega) (by decide)) (fun _ _ c => ?_) (fun _ _ c => ?_)
    · rw [e2, hn] at c
      exact absurd ((nI_leI (by omega) (by omega)).mp c) (by omega)
    · rw [e4] at c
      rw [if_neg c] at k
      rw [nI_1]
      exact ih (j + 1) (by omega) k
    · rw [e4] at c
      rwa [if_pos c] at k
theorem c_cla {x : Int32} (t p : Nat) (ht : t < 4) (hp : p ≤ 24) (h5 : di 68 5 = nI t) (hn : di 70 (680 * t) = nI p) (hg : q_Gr n ln dr) (k : Q (some (.int (q_cla (di 70) t x p 0))) (n, sl, ln, di, dl, dr)) : q_EX q_KD d 166 0 [.ref 67, .int x, .retAddr 0] [] (n, sl, ln, di, dl, dr) Q :=
  g166_0 hg (c_cla2 t p ht hp h5 hn hg p 0 (by omega) k)
end
