/-! Reckoner.arrange: one turn, and all turns -/
theorem w_uup {α : Type} (f : Nat → Nat → α) (k : Nat) (r : Nat → α) (x : Nat) (v : α) : q_u (va_up f k r) k x v = va_up f k (va_up r x v) := by
  show va_up (va_up f k r) k (va_up (va_up f k r k) x v) = _
  rw [q_upup, q_upE]
abbrev w_TT : Nat → Bool := fun k => (Nat.ble 51 k && Nat.ble k 56) || Nat.beq k 60 || (Nat.ble 63 k && Nat.ble k 66)
theorem w_TT_in {k : Nat} (h : w_TT k = true) : 50 ≤ k ∧ k ≤ 66 := by
  have h' : ((Nat.ble 51 k && Nat.ble k 56) || Nat.beq k 60 || (Nat.ble 63 k && Nat.ble k 66)) = true := h
  simp only [Bool.or_eq_true, Bool.and_eq_true, Nat.ble_eq, Nat.beq_eq] at h'
  omega
theorem w_TT_E {k : Nat} (h : w_TT k = false) : w_E k = false := by
  have h' : ((Nat.ble 51 k && Nat.ble k 56) || Nat.beq k 60 || (Nat.ble 63 k && Nat.ble k 66)) = false := h
  rw [Bool.or_eq_false_iff, Bool.or_eq_false_iff] at h'
  exact h'.1.1
theorem w_TT_ne {k j : Nat} (h : w_TT k = false) (hj : w_TT j = true) : ¬ k = j := fun e => by rw [e, hj] at h; exact absurd h (by decide)
section
variable {c d n sl : Nat} {ln : Nat → Nat} {di : Nat → Nat → Int32} {dl : Nat → Nat → Int64} {dr : Nat → Nat → Option Nat} {Q : Option Value → q_H → Prop} {a tx : Nat → Int32} {P L M : Nat}
theorem c_kO10 (hM : M ≤ 6) (h8 : di 60 8 = nI M) (hgt : w_gt M (di 63)) (hg : q_Gr n ln dr) : ∀ (c j : Nat) (r : Nat → Int32), j + c = M → (∀ i, i < j → r (di 63 i).toNatClampNeg = di 64 i) → (∀ s, s < 16 → (∀ i, i < j → ¬ di 63 i = nI s) → r s = -1) → (∀ r', (∀ s, s < 16 → r' s = q_fs (di 63) (di 64) (nI s) M 0) → Q none (n, sl, ln, va_up di 66 r', dl, dr)) → q_EX q_KD d 98 10 [.ref 60, .int (nI j)] [] (n, sl, ln, va_up di 66 r, dl, dr) Q := by
  intro c
  induction c with
  | zero =>
    intro j r hj h1 h2 k
    have ej : j = M := by omega
    subst ej
    have e8 : va_up di 66 r 60 8 = nI j := h8
    refine g98_10 hg (fun _ => k r (fun s hs => ?_)) (fun w => absurd w (by rw [e8]; exact nI_nlt (Nat.le_refl _) (by omega))) (fun w => absurd w (by rw [e8]; exact nI_nlt (Nat.le_refl _) (by omega))) (fun w => absurd w (by rw [e8]; exact nI_nlt (Nat.le_refl _) (by omega))) (fun w => absurd w (by rw [e8]; exact nI_nlt (Nat.le_refl _) (by omega)))
    by_cases e : ∃ i, i < j ∧ di 63 i = nI s
    · obtain ⟨i, i1, i2⟩ := e
      rw [w_fs_i j 0 (fun p q _ a2 _ a4 => hgt.2 p q (by omega) (by omega)) (Nat.zero_le i) (by omega) i2, ← h1 i i1, i2, nI_clamp (by omega)]
    · rw [w_fs_n j 0 (fun p _ hp z => e ⟨p, by omega, z⟩)]
      exact h2 s hs (fun i hi z => e ⟨i, hi, z⟩)
  | succ c ih =>
    intro j r hj h1 h2 k
    have jn : (nI j).toNatClampNeg = j := nI_clamp (by omega)
    have e8 : va_up di 66 r 60 8 = nI M := h8
    obtain ⟨s0, s1, s2⟩ := hgt.1 j (by omega)
    refine g98_10 hg (fun w => absurd w (by rw [e8]; exact nI_ge (by omega) (by omega))) (fun _ => vp_in_nI (by omega) (by decide)) (fun _ => vp_in_nI (by omega) (by decide)) (fun _ => ?_) (fun _ => ?_)
    · show vp_in (di 63 (nI j).toNatClampNeg) 16
      rw [jn, s2]
      exact vp_in_nI s1 (by decide)
    · rw [w_uup, nI_1, jn]
      refine ih (j + 1) _ (by omega) (fun i hi => ?_) (fun s hs hn => ?_) k
      · show va_up r (di 63 j).toNatClampNeg (di 64 j) (di 63 i).toNatClampNeg = di 64 i
        by_cases e : i = j
        · rw [e, q_upE]
        · rw [q_upN _ _ (fun z => ?_)]
          · exact h1 i (by omega)
          · obtain ⟨s', s1', s2'⟩ := hgt.1 i (by omega)
            rw [s2', s2, nI_clamp (by omega), nI_clamp (by omega)] at z
            exact e (hgt.2 i j (by omega) (by omega) (by rw [s2', s2, z]))
      · show va_up r (di 63 j).toNatClampNeg (di 64 j) s = -1
        rw [q_upN _ _ (fun z => ?_)]
        · exact h2 s hs (fun i hi => hn i (by omega))
        · rw [s2, nI_clamp (by omega)] at z
          exact hn j (by omega) (by rw [s2, z])
theorem c_kO (hM : M ≤ 6) (h8 : di 60 8 = nI M) (hgt : w_gt M (di 63)) (hg : q_Gr n ln dr) (k : ∀ r', (∀ s, s < 16 → r' s = q_fs (di 63) (di 64) (nI s) M 0) → Q none (n, sl, ln, va_up di 66 r', dl, dr)) : q_EX q_KD (d + 1) 98 0 [.ref 60, .retAddr 0] [] (n, sl, ln, di, dl, dr) Q := by
  have hl : ln 66 = 16 := hg.2.1 66 16 rfl
  refine g98_0 hg (c_fill 66 16 (by decide) hl rfl (q_lt hg rfl) (by decide) hg (g98_8 hg ?_))
  have e : q_fill di 66 (-1) 16 0 = va_up di 66 (q_fill di 66 (-1) 16 0 66) := by
    funext x i
    by_cases ex : x = 66
    · subst ex; rw [q_upE]
    · rw [q_upN _ _ ex, q_fillO ex]
  rw [e]
  refine c_kO10 (d := d + 1) hM h8 hgt hg M 0 _ (by omega) (fun i hi => absurd hi (Nat.not_lt_zero i)) (fun s hs _ => ?_) k
  rw [q_fillI, if_pos (by omega)]
theorem c_ar67 {x2 x3 : Int32} (hM : M ≤ 6) (h8 : di 60 8 = nI M) (hrow : ∀ k, k < M → ∃ p, p < 6 ∧ di 64 k = nI p) (hg : q_Gr n ln dr) : ∀ (c j : Nat) (t : Nat → Int32), j + c = M →
    q_EX q_KD d 69 0 [.ref 7, .retAddr 0, .retAddr 0] [] (n, sl, ln, va_up di 65 (w_pua (di 64) (di 63) c j t), dl, dr) (fun r1 h1 => q_EX q_KD (d + 1) 96 112 [.ref 60, .retAddr 0, .int x2, .int x3, .retAddr 0] (r1.toList ++ [.ref 53]) h1 Q) →
    q_EX q_KD (d + 1) 96 67 [.ref 60, .retAddr 0, .int x2, .int x3, .int (nI j)] [] (n, sl, ln, va_up di 65 t, dl, dr) Q := by
  intro c
  induction c with
  | zero =>
    intro j t hj k
    have e8 : va_up di 65 t 60 8 = nI M := h8
    have hn : ¬ nI j < va_up di 65 t 60 8 := by rw [e8]; exact nI_nlt (by omega) (by omega)
    exact g96_67 hg (fun _ => k) (fun w => absurd w hn) (fun w => absurd w hn) (fun w => absurd w hn) (fun w => absurd w hn)
  | succ c ih =>
    intro j t hj k
    have jn : (nI j).toNatClampNeg = j := nI_clamp (by omega)
    have e8 : va_up di 65 t 60 8 = nI M := h8
    obtain ⟨p, p1, p2⟩ := hrow j (by omega)
    refine g96_67 hg (fun w => absurd w (by rw [e8]; exact nI_ge (by omega) (by omega))) (fun _ => vp_in_nI (by omega) (by decide)) (fun _ => vp_in_nI (by omega) (by decide)) (fun _ => ?_) (fun _ => ?_)
    · show vp_in (di 64 (nI j).toNatClampNeg) 6
      rw [jn, p2]
      exact vp_in_nI p1 (by decide)
    · rw [w_uup, nI_1, jn]
      exact ih (j + 1) _ (by omega) k
end
