section
variable {d n sl : Nat} {ln : Nat → Nat} {di : Nat → Nat → Int32} {dl : Nat → Nat → Int64} {dr : Nat → Nat → Option Nat} {Q : Option Value → q_H → Prop}
/-- how many of c persons from j on are laughing (in w) and near the place of person x -/
def q_nearOf (w : Int32) (pl : Nat → Int32) (x c j : Nat) (a : Int32) : Int32 := q_it (fun j a => if ((w >>> (nI j &&& 31)) &&& 1) = 1 ∧ ¬ q_nr (pl x) (pl j) = 0 then a + 1 else a) c j a
theorem c_nearOf4 (x : Nat) (hx : x < 6) (hg : q_Gr n ln dr) : ∀ (c j : Nat) (a : Int32), j + c = 6 → Q (some (.int (q_nearOf (di 67 27) (di 76) x c j a))) (n, sl, ln, di, dl, dr) → q_EX q_KD (d + 2) 167 4 [.ref 67, .int (nI x), .int a, .int (nI j)] [] (n, sl, ln, di, dl, dr) Q := by
  intro c
  induction c with
  | zero =>
    intro j a e k
    exact g167_4 hg (fun _ => k) (fun c' => absurd ((nI_ltI (b := 6) (by omega) (by decide)).mp c') (by omega))
  | succ c ih =>
    intro j a e k
    have hj : (nI j).toNatClampNeg = j := nI_clamp (by omega)
    have hx' : (nI x).toNatClampNeg = x := nI_clamp (by omega)
    have e2 : q_nearOf (di 67 27) (di 76) x (c + 1) j a = q_nearOf (di 67 27) (di 76) x c (j + 1) (if ((di 67 27 >>> (nI j &&& 31)) &&& 1) = 1 ∧ ¬ q_nr (di 76 x) (di 76 j) = 0 then a + 1 else a) := rfl
    rw [e2] at k
    refine g167_4 hg (fun c' => absurd ((nI_leI (a := 6) (by decide) (by omega)).mp c') (by omega)) (fun _ => c_has hg (g167_19 hg (fun c1 => ?_) (fun _ => vp_in_nI hx (by decide)) (fun _ => vp_in_nI (by omega) (by decide)) (fun c1 => c_isNear hg (g167_37 hg (fun c2 => ?_) (fun c2 => ?_)))))
    · rw [nI_1, Int32.add_zero]
      rw [if_neg (fun h => q_bn.mp c1 h.1)] at k
      exact ih (j + 1) _ (by omega) k
    · rw [nI_1, Int32.add_zero]
      rw [hj, hx'] at c2
      rw [if_neg (fun h => h.2 c2)] at k
      exact ih (j + 1) _ (by omega) k
    · rw [nI_1]
      rw [hj, hx'] at c2
      rw [if_pos ⟨q_bp.mp c1, c2⟩] at k
      exact ih (j + 1) _ (by omega) k
theorem c_nearOf (x : Nat) (hx : x < 6) (hg : q_Gr n ln dr) (k : Q (some (.int (q_nearOf (di 67 27) (di 76) x 6 0 0))) (n, sl, ln, di, dl, dr)) : q_EX q_KD (d + 2) 167 0 [.ref 67, .int (nI x), .retAddr 0, .retAddr 0] [] (n, sl, ln, di, dl, dr) Q :=
  g167_0 hg (c_nearOf4 x hx hg 6 0 0 rfl k)
/-- the model's sitting: persons of the row, p of them -/
theorem c_sitM4 (p : Nat) (hp : p ≤ 6) (he : di 68 0 = nI p) (h1 : ∀ j, j < p → di 68 (10 + 6 * j + 3) < 0 → di 68 (10 + 6 * j + 3) = -1) (hg : q_Gr n ln dr) : ∀ (c j : Nat) (a : Int32), j + c = p → Q (some (.int (q_sit (fun j => di 68 (10 + 6 * j + 3)) c j a))) (n, sl, ln, di, dl, dr) → q_EX q_KD (d + 1) 183 4 [.ref 67, .int a, .int (nI j)] [] (n, sl, ln, di, dl, dr) Q := by
  intro c
  induction c with
  | zero =>
    intro j a e k
    refine g183_4 hg (fun _ => k) (fun c' => ?_)
    rw [he] at c'
    exact absurd ((nI_ltI (by omega) (by omega)).mp c') (by omega)
  | succ c ih =>
    intro j a e k
    have e2 : q_sit (fun j => di 68 (10 + 6 * j + 3)) (c + 1) j a = q_sit (fun j => di 68 (10 + 6 * j + 3)) c (j + 1) (if di 68 (10 + 6 * j + 3) = -1 then a else a ||| ((1 : Int32) <<< (nI j &&& 31))) := rfl
    rw [e2] at k
    refine g183_4 hg (fun c' => ?_) (fun _ => c_get j 3 hg (by omega) (g183_21 hg (fun c1 => ?_) (fun c1 => ?_)))
    · rw [he] at c'
      exact absurd ((nI_leI (by omega) (by omega)).mp c') (by omega)
    · rw [nI_1, Int32.or_zero]
      rw [if_pos (h1 j (by omega) c1)] at k
      exact ih (j + 1) _ (by omega) k
    · rw [nI_1]
      rw [if_neg (fun h => by rw [h] at c1; revert c1; decide)] at k
      exact ih (j + 1) _ (by omega) k
theorem c_sitM (p : Nat) (hp : p ≤ 6) (he : di 68 0 = nI p) (h1 : ∀ j, j < p → di 68 (10 + 6 * j + 3) < 0 → di 68 (10 + 6 * j + 3) = -1) (hg : q_Gr n ln dr) (k : Q (some (.int (q_sit (fun j => di 68 (10 + 6 * j + 3)) p 0 0))) (n, sl, ln, di, dl, dr)) : q_EX q_KD (d + 1) 183 0 [.ref 67, .retAddr 0, .retAddr 0] [] (n, sl, ln, di, dl, dr) Q :=
  g183_0 hg (c_sitM4 p hp he h1 hg p 0 0 (by omega) k)
end
