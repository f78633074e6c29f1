theorem q_pP {p P : Nat} (hp : p < 2 ^ 31) (hP : P < 2 ^ 31) : ((0 : Int32) ≤ nI p ∧ nI p ≤ nI P - 1) ↔ p < P := by
  cases P with
  | zero =>
    refine ⟨fun h => ?_, fun h => absurd h (Nat.not_lt_zero p)⟩
    have h2 := h.2
    rw [show nI 0 - 1 = (-1 : Int32) from rfl, fa_le, nI_toInt hp, q_tm1] at h2
    omega
  | succ P =>
    rw [nI_pred, nI_leI hp (by omega)]
    exact ⟨fun h => by omega, fun h => ⟨nI_pos' hp, by omega⟩⟩
theorem q_sa1 {di : Nat → Nat → Int32} {r76 : Nat → Int32} {p : Nat} {v w w' : Int32} : q_u (q_u (va_up (va_up di 76 r76) 67 (va_up (di 67) 26 w)) 76 p v) 67 26 w' = va_up (va_up di 76 (va_up r76 p v)) 67 (va_up (di 67) 26 w') := by
  funext k
  by_cases h1 : k = 67
  · subst h1
    show va_up (va_up (di 67) 26 w) 26 w' = va_up (di 67) 26 w'
    rw [q_upup]
  · rw [q_uR h1, q_upN _ _ h1]
    by_cases h2 : k = 76
    · subst h2
      rfl
    · rw [q_uR h2, q_upN _ _ h1, q_upN _ _ h2, q_upN _ _ h2]
section
variable {d n sl : Nat} {ln : Nat → Nat} {di : Nat → Nat → Int32} {dl : Nat → Nat → Int64} {dr : Nat → Nat → Option Nat} {Q : Option Value → q_H → Prop}
theorem c_seatAll7 {P : Nat} (hP : P ≤ 6) (h0 : di 68 0 = nI P) (hs : ∀ j, P ≤ j → j < 6 → di 68 (10 + 6 * j + 3) = -1 ∧ di 68 (10 + 6 * j + 4) = 0) (hg : q_Gr n ln dr) : ∀ (c p acc : Nat) (r76 : Nat → Int32), p + c = 6 → (∀ j, j < p → r76 j = di 68 (10 + 6 * j + 3)) →
    (∀ r : Nat → Int32, (∀ j, j < 6 → r j = di 68 (10 + 6 * j + 3)) → Q none (n, sl, ln, va_up (va_up di 76 r) 67 (va_up (di 67) 26 (nI (q_it (fun j x => if di 68 (10 + 6 * j + 4) = 1 then x ||| 2 ^ j else x) c p acc))), dl, dr)) →
    q_EX q_KD (d + 3) 159 7 [.ref 67, .int (nI p)] [] (n, sl, ln, va_up (va_up di 76 r76) 67 (va_up (di 67) 26 (nI acc)), dl, dr) Q := by
  intro c
  induction c with
  | zero =>
    intro p acc r76 hp hr k
    exact g159_7 hg (fun _ => k r76 (fun j hj => hr j (by omega))) (fun c => absurd ((nI_ltI (b := 6) (by omega) (by decide)).mp c) (by omega))
  | succ c ih =>
    intro p acc r76 hp hr k
    have hpn : (nI p).toNatClampNeg = p := nI_clamp (by omega)
    have hb : ∀ x : Int32, (x = nI P) → (q_b ((0 : Int32) ≤ nI p ∧ nI p ≤ x - 1) = 0 ↔ ¬ p < P) := fun x hx => by
      rw [q_bn, hx, q_pP (by omega) (by omega)]
    have hu : ∀ (v : Int32) (acc' : Nat), v = di 68 (10 + 6 * p + 3) → acc' = (if di 68 (10 + 6 * p + 4) = 1 then acc ||| 2 ^ p else acc) → q_EX q_KD (d + 3) 159 7 [.ref 67, .int (nI p + 1)] [] (n, sl, ln, va_up (va_up di 76 (va_up r76 p v)) 67 (va_up (di 67) 26 (nI acc')), dl, dr) Q := by
      intro v acc' hv ha
      rw [nI_1]
      refine ih (p + 1) acc' _ (by omega) (fun j hj => ?_) (fun r h => ?_)
      · by_cases e : j = p
        · subst e; rw [q_upE]; exact hv
        · rw [q_upN _ _ e]; exact hr j (by omega)
      · have := k r h
        rw [show q_it (fun j x => if di 68 (10 + 6 * j + 4) = 1 then x ||| 2 ^ j else x) (c + 1) p acc = q_it (fun j x => if di 68 (10 + 6 * j + 4) = 1 then x ||| 2 ^ j else x) c (p + 1) (if di 68 (10 + 6 * p + 4) = 1 then acc ||| 2 ^ p else acc) from rfl, ← ha] at this
        exact this
    refine g159_7 hg (fun c' => absurd ((nI_leI (a := 6) (by decide) (by omega)).mp c') (by omega)) (fun _ => c_isPerson hg (g159_23 hg (fun _ => vp_in_nI (by omega) (by decide)) (fun y => c_isPerson hg (g159_47 hg (fun y2 => ?_) (fun y2 => ?_))) (fun y => c_get p 3 hg (by omega) (g159_32 hg (vp_in_nI (by omega) (by decide)) (c_isPerson hg (g159_47 hg (fun y2 => ?_) (fun y2 => c_get p 4 hg (by omega) (g159_56 hg (fun y3 => ?_) (fun y3 => ?_)))))))))
    · have hn : ¬ p < P := (hb _ h0).mp y
      rw [hpn, q_sa1]
      show q_EX q_KD (d + 3) 159 7 [.ref 67, .int (nI p + 1)] [] (n, sl, ln, va_up (va_up di 76 (va_up r76 p (-1))) 67 (va_up (di 67) 26 (nI acc ||| nI 0)), dl, dr) Q
      rw [fa_or, Nat.or_zero]
      have hh := hs p (by omega) (by omega)
      exact hu _ _ hh.1.symm (by rw [hh.2, if_neg (by decide)])
    · exact absurd ((hb _ h0).mpr ((hb _ h0).mp y)) y2
    · exact absurd y2 y
    · rw [hpn, q_sa1]
      show q_EX q_KD (d + 3) 159 7 [.ref 67, .int (nI p + 1)] [] (n, sl, ln, va_up (va_up di 76 (va_up r76 p (di 68 (10 + 6 * p + 3)))) 67 (va_up (di 67) 26 (nI acc ||| nI 0)), dl, dr) Q
      rw [fa_or, Nat.or_zero]
      exact hu _ _ rfl (if_neg (show ¬ di 68 (10 + 6 * p + 4) = 1 from y3)).symm
    · rw [hpn, q_sa1]
      show q_EX q_KD (d + 3) 159 7 [.ref 67, .int (nI p + 1)] [] (n, sl, ln, va_up (va_up di 76 (va_up r76 p (di 68 (10 + 6 * p + 3)))) 67 (va_up (di 67) 26 (nI acc ||| ((1 : Int32) <<< (nI p &&& 31)))), dl, dr) Q
      rw [q_sh (by omega), fa_or]
      exact hu _ _ rfl (if_pos (show di 68 (10 + 6 * p + 4) = 1 from y3)).symm
theorem c_seatAll {P : Nat} (hP : P ≤ 6) (h0 : di 68 0 = nI P) (hs : ∀ j, P ≤ j → j < 6 → di 68 (10 + 6 * j + 3) = -1 ∧ di 68 (10 + 6 * j + 4) = 0) (hg : q_Gr n ln dr)
    (k : ∀ r : Nat → Int32, (∀ j, j < 6 → r j = di 68 (10 + 6 * j + 3)) → Q none (n, sl, ln, va_up (va_up di 76 r) 67 (va_up (di 67) 26 (nI (q_sm (di 68)))), dl, dr)) :
    q_EX q_KD (d + 3) 159 0 [.ref 67, .retAddr 0] [] (n, sl, ln, di, dl, dr) Q := by
  refine g159_0 hg ?_
  have := c_seatAll7 (d := d) (sl := sl) (dl := dl) (Q := Q) hP h0 hs hg 6 0 0 (di 76) rfl (fun j hj => absurd hj (Nat.not_lt_zero j)) k
  rwa [q_upid] at this
end
