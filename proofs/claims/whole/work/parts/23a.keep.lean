/-! steps: keep on both sides -/
theorem w_rem : ∀ a, a < 61 → nI a - nI a / 30 * 30 = nI (a % 30) := by decide +kernel
section
variable {c d n sl : Nat} {ln : Nat → Nat} {di : Nat → Nat → Int32} {dl : Nat → Nat → Int64} {dr : Nat → Nat → Option Nat} {Q : Option Value → q_H → Prop}
theorem c_keepX {o S : Nat} (ho : o < 30) (hS : S ≤ 30) (h5 : di 17 5 = nI o) (h6 : di 17 6 = nI S) (hg : q_Gr n ln dr)
    (k : ∀ r17 : Nat → Int32, (r17 5 = nI (if S = 30 then (o + 1) % 30 else o)) → (r17 6 = nI (if S = 30 then 30 else S + 1)) → Q none (n, sl, ln, q_u (q_u (q_u (va_up (va_up (va_up di 17 r17) 18 (va_cpy (di 11) (di 18) 0 ((o + S) % 30 * 6) 6)) 19 (va_cpy (di 12) (di 19) 0 ((o + S) % 30 * 6) 6)) 20 ((o + S) % 30) (di 7 11)) 21 ((o + S) % 30) (di 7 16)) 22 ((o + S) % 30) (di 7 17), dl, dr)) :
    q_EX q_KD d 64 0 [.ref 17, .ref 7, .retAddr 0] [] (n, sl, ln, di, dl, dr) Q := by
  have hq : (o + S) % 30 < 30 := Nat.mod_lt _ (by decide)
  have e1 : (di 17 5 + di 17 6) - (di 17 5 + di 17 6) / 30 * 30 = nI ((o + S) % 30) := by
    rw [h5, h6, nI_add]; exact w_rem (o + S) (by omega)
  have e2 : nI ((o + S) % 30) * 6 = nI ((o + S) % 30 * 6) := (q_pm _ 6).symm
  have e3 : (nI ((o + S) % 30 * 6)).toNatClampNeg = (o + S) % 30 * 6 := nI_clamp (by omega)
  have e4 : (nI ((o + S) % 30)).toNatClampNeg = (o + S) % 30 := nI_clamp (by omega)
  have e6 : (6 : Int32).toNatClampNeg = 6 := rfl
  have p1 : ¬ ((di 17 5 + di 17 6) - (di 17 5 + di 17 6) / 30 * 30) * 6 < 0 := by rw [e1, e2]; exact nI_pos (by omega)
  have p2 : (((di 17 5 + di 17 6) - (di 17 5 + di 17 6) / 30 * 30) * 6).toNatClampNeg + (6 : Int32).toNatClampNeg ≤ 180 := by rw [e1, e2, e3, e6]; omega
  have p3 : vp_in ((di 17 5 + di 17 6) - (di 17 5 + di 17 6) / 30 * 30) 30 := by rw [e1]; exact vp_in_nI hq (by decide)
  refine g64_0 hg (fun _ => p1) (fun _ => p2) (fun _ => p1) (fun _ => p2) (fun _ => p3) (fun _ => p3) (fun _ => p3) (fun w => ?_) (fun _ => p1) (fun _ => p2) (fun _ => p1) (fun _ => p2) (fun _ => p3) (fun _ => p3) (fun _ => p3) (fun w => ?_)
  · have hS30 : S = 30 := by
      rw [h6] at w
      have := (nI_leI (a := 30) (by decide) (by omega)).mp w
      omega
    have e7 : (di 17 5 + 1) - (di 17 5 + 1) / 30 * 30 = nI ((o + 1) % 30) := by
      rw [h5, nI_1]; exact w_rem (o + 1) (by omega)
    rw [e1, e2, e3, e4, e7]
    exact k (va_up (di 17) 5 (nI ((o + 1) % 30))) (by rw [if_pos hS30]; rfl) (by rw [if_pos hS30, ← hS30, ← h6]; rfl)
  · have hS30 : ¬ S = 30 := by
      rw [h6] at w
      have := (nI_ltI (b := 30) (by omega) (by decide)).mp w
      omega
    rw [e1, e2, e3, e4]
    exact k (va_up (di 17) 6 (di 17 6 + 1)) (by rw [if_neg hS30, ← h5]; rfl) (by rw [if_neg hS30]; show di 17 6 + 1 = _; rw [h6, nI_1])
/-- the model's keep: the inner loops -/
theorem c_kpM120 {z p : Nat} {b0 : Nat → Int32} (hz : 76 ≤ z) (hz2 : z + 21 ≤ 706) (hp : p < 6) (hg : q_Gr n ln dr) : ∀ (c e : Nat) (b : Nat → Int32), e + c = 3 → (∀ i, ¬ (z + 3 ≤ i ∧ i < z + 21) → b i = b0 i) → (∀ t, t < 3 * p + e → b (z + 3 + t) = b0 (10 + 6 * (t / 3) + 3 + t % 3)) →
    (∀ b', (∀ i, ¬ (z + 3 ≤ i ∧ i < z + 21) → b' i = b0 i) → (∀ t, t < 3 * p + 3 → b' (z + 3 + t) = b0 (10 + 6 * (t / 3) + 3 + t % 3)) → q_EX q_KD (d + 1) 180 112 [.ref 67, .int (nI z), .int (nI (p + 1)), .retAddr 0] [] (n, sl, ln, va_up di 68 b', dl, dr) Q) →
    q_EX q_KD (d + 1) 180 120 [.ref 67, .int (nI z), .int (nI p), .int (nI e)] [] (n, sl, ln, va_up di 68 b, dl, dr) Q := by
  intro c
  induction c with
  | zero =>
    intro e b he h1 h2 k
    have e3 : e = 3 := by omega
    subst e3
    refine g180_120 hg (fun _ => ?_) (fun w => absurd w (by decide))
    rw [nI_1]
    exact k b h1 h2
  | succ c ih =>
    intro e b he h1 h2 k
    have e1 : (3 : Int32) + nI e = nI (3 + e) := by rw [q_pa]; rfl
    have e2 : ((nI z + 3) + (3 : Int32) * nI p) + nI e = nI (z + 3 + (3 * p + e)) := by
      rw [show z + 3 + (3 * p + e) = z + 3 + 3 * p + e by omega, q_pa, q_pa, q_pm, q_pa]; rfl
    have e3 : (nI (z + 3 + (3 * p + e))).toNatClampNeg = z + 3 + (3 * p + e) := nI_clamp (by omega)
    refine g180_120 hg (fun w => absurd ((nI_leI (a := 3) (by decide) (by omega)).mp w) (by omega)) (fun _ => ?_)
    rw [e1]
    refine c_get p (3 + e) hg (by omega) ?_
    rw [e2]
    refine g180_146 hg (vp_in_nI (by omega) (by decide)) ?_
    rw [e3, nI_1]
    have eh : q_u (va_up di 68 b) 68 (z + 3 + (3 * p + e)) (va_up di 68 b 68 (10 + 6 * p + (3 + e))) = va_up di 68 (va_up b (z + 3 + (3 * p + e)) (b (10 + 6 * p + (3 + e)))) := by
      show va_up (va_up di 68 b) 68 (va_up (va_up di 68 b 68) (z + 3 + (3 * p + e)) (va_up di 68 b 68 (10 + 6 * p + (3 + e)))) = _
      rw [q_upup, q_upE]
    rw [eh]
    refine ih (e + 1) _ (by omega) (fun i hi => ?_) (fun t ht => ?_) k
    · rw [q_upN _ _ (by omega)]; exact h1 i hi
    · by_cases g : t = 3 * p + e
      · subst g
        rw [q_upE, h1 _ (by omega)]
        have g1 : (3 * p + e) / 3 = p := by omega
        have g2 : (3 * p + e) % 3 = e := by omega
        rw [g1, g2, show 10 + 6 * p + (3 + e) = 10 + 6 * p + 3 + e by omega]
      · rw [q_upN _ _ (by omega)]; exact h2 t (by omega)
theorem c_kpM112 {z : Nat} {b0 : Nat → Int32} (hz : 76 ≤ z) (hz2 : z + 21 ≤ 706) (hg : q_Gr n ln dr) : ∀ (c p : Nat) (b : Nat → Int32), p + c = 6 → (∀ i, ¬ (z + 3 ≤ i ∧ i < z + 21) → b i = b0 i) → (∀ t, t < 3 * p → b (z + 3 + t) = b0 (10 + 6 * (t / 3) + 3 + t % 3)) →
    (∀ b', (∀ i, ¬ (z + 3 ≤ i ∧ i < z + 21) → b' i = b0 i) → (∀ t, t < 18 → b' (z + 3 + t) = b0 (10 + 6 * (t / 3) + 3 + t % 3)) → Q none (n, sl, ln, va_up di 68 (va_up b' 6 (b' 6 + 1)), dl, dr)) →
    q_EX q_KD (d + 1) 180 112 [.ref 67, .int (nI z), .int (nI p), .retAddr 0] [] (n, sl, ln, va_up di 68 b, dl, dr) Q := by
  intro c
  induction c with
  | zero =>
    intro p b hp h1 h2 k
    have : p = 6 := by omega
    subst this
    refine g180_112 hg (fun _ => ?_) (fun w => absurd w (by decide))
    have eh : q_u (va_up di 68 b) 68 6 (va_up di 68 b 68 6 + 1) = va_up di 68 (va_up b 6 (b 6 + 1)) := by
      show va_up (va_up di 68 b) 68 (va_up (va_up di 68 b 68) 6 (va_up di 68 b 68 6 + 1)) = _
      rw [q_upup, q_upE]
    rw [eh]
    exact k b h1 h2
  | succ c ih =>
    intro p b hp h1 h2 k
    refine g180_112 hg (fun w => absurd ((nI_leI (a := 6) (by decide) (by omega)).mp w) (by omega)) (fun _ => ?_)
    exact c_kpM120 (b0 := b0) hz hz2 (by omega) hg 3 0 b rfl h1 h2 (fun b' r1 r2 => ih (p + 1) b' (by omega) r1 (fun t ht => r2 t (by omega)) k)
theorem c_kpM14 {a : Nat → Int32} (h6 : a 6 = nI 30) (hg : q_Gr n ln dr) : ∀ (c k : Nat) (b : Nat → Int32), k + c = 609 → (∀ i, ¬ (76 ≤ i ∧ i < 76 + k) → b i = a i) → (∀ i, i < k → b (76 + i) = a (97 + i)) →
    (∀ b', (∀ i, ¬ (76 ≤ i ∧ i < 685) → b' i = a i) → (∀ i, i < 609 → b' (76 + i) = a (97 + i)) → q_EX q_KD (d + 1) 180 112 [.ref 67, .int (nI 685), .int (nI 0), .retAddr 0] [] (n, sl, ln, va_up di 68 (va_up (va_up (va_up (va_up b' 6 (nI 29)) 685 (a 0)) 686 (a 3)) 687 (a 2)), dl, dr) Q) →
    q_EX q_KD (d + 1) 180 14 [.ref 67, .int (nI k), .retAddr 0, .retAddr 0] [] (n, sl, ln, va_up di 68 b, dl, dr) Q := by
  intro c
  induction c with
  | zero =>
    intro k b hk h1 h2 q
    have : k = 609 := by omega
    subst this
    have b6 : va_up di 68 b 68 6 = nI 30 := by show b 6 = nI 30; rw [h1 6 (by omega)]; exact h6
    have ex : (76 : Int32) + (21 : Int32) * (va_up di 68 b 68 6 - 1) = nI 685 := by rw [b6]; rfl
    have b0' : b 0 = a 0 := h1 0 (by omega)
    have b3' : b 3 = a 3 := h1 3 (by omega)
    have b2' : b 2 = a 2 := h1 2 (by omega)
    refine g180_14 hg (fun _ => by rw [ex]; exact vp_in_nI (by decide) (by decide)) (fun _ => by rw [ex]; exact vp_in_nI (n := 686) (by decide) (by decide)) (fun _ => by rw [ex]; exact vp_in_nI (n := 687) (by decide) (by decide)) (fun _ => ?_) (fun w => absurd w (by decide)) (fun w => absurd w (by decide)) (fun w => absurd w (by decide))
    rw [ex]
    have qq := q b h1 h2
    rw [← b0', ← b3', ← b2'] at qq
    have eh : q_u (q_u (q_u (q_u (va_up di 68 b) 68 6 (va_up di 68 b 68 6 - 1)) 68 (nI 685).toNatClampNeg (va_up di 68 b 68 0)) 68 (nI 685 + 1).toNatClampNeg (q_u (va_up di 68 b) 68 (nI 685).toNatClampNeg (va_up di 68 b 68 0) 68 3)) 68 (nI 685 + 2).toNatClampNeg (q_u (q_u (va_up di 68 b) 68 (nI 685).toNatClampNeg (va_up di 68 b 68 0)) 68 (nI 685 + 1).toNatClampNeg (q_u (va_up di 68 b) 68 (nI 685).toNatClampNeg (va_up di 68 b 68 0) 68 3) 68 2) = va_up di 68 (va_up (va_up (va_up (va_up b 6 (nI 29)) 685 (b 0)) 686 (b 3)) 687 (b 2)) := by
      rw [b6]
      funext i
      by_cases hi : i = 68
      · subst hi; rfl
      · rw [q_uR hi, q_uR hi, q_uR hi, q_uR hi, q_upN _ _ hi, q_upN _ _ hi]
    rw [eh]
    exact qq
  | succ c ih =>
    intro k b hk h1 h2 q
    have e1 : (97 : Int32) + nI k = nI (97 + k) := by rw [q_pa]; rfl
    have e2 : (76 : Int32) + nI k = nI (76 + k) := by rw [q_pa]; rfl
    have hn : ¬ (609 : Int32) ≤ nI k := fun w => absurd ((nI_leI (a := 609) (by decide) (by omega)).mp w) (by omega)
    refine g180_14 hg (fun w => absurd w hn) (fun w => absurd w hn) (fun w => absurd w hn) (fun w => absurd w hn) (fun _ => by rw [e1]; exact vp_in_nI (by omega) (by decide)) (fun _ => by rw [e2]; exact vp_in_nI (by omega) (by decide)) (fun _ => ?_)
    rw [e1, e2, nI_clamp (show 76 + k < 2 ^ 31 by omega), nI_clamp (show 97 + k < 2 ^ 31 by omega), nI_1]
    have eh : q_u (va_up di 68 b) 68 (76 + k) (va_up di 68 b 68 (97 + k)) = va_up di 68 (va_up b (76 + k) (b (97 + k))) := by
      show va_up (va_up di 68 b) 68 (va_up (va_up di 68 b 68) (76 + k) (va_up di 68 b 68 (97 + k))) = _
      rw [q_upup, q_upE]
    rw [eh]
    refine ih (k + 1) _ (by omega) (fun i hi => ?_) (fun i hi => ?_) q
    · rw [q_upN _ _ (by omega)]; exact h1 i (by omega)
    · by_cases g : i = k
      · subst g; rw [q_upE]; exact h1 _ (by omega)
      · rw [q_upN _ _ (by omega)]; exact h2 i (by omega)
/-- the model's keep -/
def w_kp (a a' : Nat → Int32) (S : Nat) : Prop := ∃ S' δ, (S' = if S = 30 then 30 else S + 1) ∧ (δ = if S = 30 then 1 else 0) ∧ (∀ i, i < 76 → ¬ i = 6 → a' i = a i) ∧ a' 6 = nI S' ∧ (∀ s, s + 1 < S' → ∀ i, i < 21 → a' (76 + 21 * s + i) = a (76 + 21 * (s + δ) + i)) ∧ a' (76 + 21 * (S' - 1)) = a 0 ∧ a' (76 + 21 * (S' - 1) + 1) = a 3 ∧ a' (76 + 21 * (S' - 1) + 2) = a 2 ∧ (∀ p e, p < 6 → e < 3 → a' (76 + 21 * (S' - 1) + 3 + 3 * p + e) = a (10 + 6 * p + 3 + e))
theorem c_keepM {S : Nat} (hS : S ≤ 30) (h6 : di 68 6 = nI S) (hg : q_Gr n ln dr) (k : ∀ a', w_kp (di 68) a' S → Q none (n, sl, ln, va_up di 68 a', dl, dr)) : q_EX q_KD (d + 1) 180 0 [.ref 67, .retAddr 0, .retAddr 0, .retAddr 0] [] (n, sl, ln, di, dl, dr) Q := by
  have tdiv : ∀ p e, e < 3 → (3 * p + e) / 3 = p ∧ (3 * p + e) % 3 = e := fun p e he => by omega
  by_cases h30 : S = 30
  · subst h30
    refine g180_0 hg (fun w => absurd h6 w) (fun w => absurd h6 w) (fun w => absurd h6 w) (fun w => absurd h6 w) (fun _ => ?_)
    suffices st : q_EX q_KD (d + 1) 180 14 [.ref 67, .int (nI 0), .retAddr 0, .retAddr 0] [] (n, sl, ln, va_up di 68 (di 68), dl, dr) Q by
      rw [q_upid] at st
      exact st
    refine c_kpM14 (a := di 68) h6 hg 609 0 (di 68) rfl (fun _ _ => rfl) (fun i hi => absurd hi (Nat.not_lt_zero i)) (fun b r1 r2 => ?_)
    · refine c_kpM112 (z := 685) (b0 := va_up (va_up (va_up (va_up b 6 (nI 29)) 685 (di 68 0)) 686 (di 68 3)) 687 (di 68 2)) (by decide) (by decide) hg 6 0 _ rfl (fun _ _ => rfl) (fun t ht => absurd ht (Nat.not_lt_zero t)) (fun b' s1 s2 => k _ ⟨30, 1, by rw [if_pos rfl], by rw [if_pos rfl], ?_, ?_, ?_, ?_, ?_, ?_, ?_⟩)
      · intro i h1 h2
        rw [q_upN _ _ h2, s1 i (by omega), q_upN _ _ (by omega), q_upN _ _ (by omega), q_upN _ _ (by omega), q_upN _ _ h2]
        exact r1 i (by omega)
      · rw [q_upE, s1 6 (by omega), q_upN _ _ (by omega), q_upN _ _ (by omega), q_upN _ _ (by omega), q_upE]
        exact nI_1 29
      · intro s hs i hi
        rw [q_upN _ _ (by omega), s1 _ (by omega), q_upN _ _ (by omega), q_upN _ _ (by omega), q_upN _ _ (by omega), q_upN _ _ (by omega)]
        rw [show 76 + 21 * s + i = 76 + (21 * s + i) by omega, r2 _ (by omega), show 97 + (21 * s + i) = 76 + 21 * (s + 1) + i by omega]
      · rw [q_upN _ _ (by omega), s1 _ (by omega), q_upN _ _ (by omega), q_upN _ _ (by omega)]
        exact q_upE _ _ _
      · rw [q_upN _ _ (by omega), s1 _ (by omega), q_upN _ _ (by omega)]
        exact q_upE _ _ _
      · rw [q_upN _ _ (by omega), s1 _ (by omega)]
        exact q_upE _ _ _
      · intro p e hp he
        have td := tdiv p e he
        have ss := s2 (3 * p + e) (by omega)
        rw [td.1, td.2] at ss
        rw [q_upN _ _ (by omega), show 76 + 21 * (30 - 1) + 3 + 3 * p + e = 685 + 3 + (3 * p + e) by omega, ss, q_upN _ _ (by omega), q_upN _ _ (by omega), q_upN _ _ (by omega), q_upN _ _ (by omega)]
        exact r1 _ (by omega)
  · have hn : ¬ di 68 6 = 30 := fun w => by
      rw [h6] at w
      exact h30 ((nI_eq (b := 30) (by omega) (by decide)).mp w)
    have ex : (76 : Int32) + (21 : Int32) * di 68 6 = nI (76 + 21 * S) := by rw [h6, q_pa, q_pm]; rfl
    have ex1 : nI (76 + 21 * S) + 1 = nI (76 + 21 * S + 1) := nI_1 _
    have ex2 : nI (76 + 21 * S) + 2 = nI (76 + 21 * S + 2) := by rw [q_pa (76 + 21 * S) 2]; rfl
    have n0 : (nI (76 + 21 * S)).toNatClampNeg = 76 + 21 * S := nI_clamp (by omega)
    have n1 : (nI (76 + 21 * S + 1)).toNatClampNeg = 76 + 21 * S + 1 := nI_clamp (by omega)
    have n2 : (nI (76 + 21 * S + 2)).toNatClampNeg = 76 + 21 * S + 2 := nI_clamp (by omega)
    refine g180_0 hg (fun _ => by rw [ex]; exact vp_in_nI (by omega) (by decide)) (fun _ => by rw [ex, ex1]; exact vp_in_nI (by omega) (by decide)) (fun _ => by rw [ex, ex2]; exact vp_in_nI (by omega) (by decide)) (fun _ => ?_) (fun w => absurd w hn)
    rw [ex, ex1, ex2, n0, n1, n2]
    have eh : q_u (q_u (q_u di 68 (76 + 21 * S) (di 68 0)) 68 (76 + 21 * S + 1) (q_u di 68 (76 + 21 * S) (di 68 0) 68 3)) 68 (76 + 21 * S + 2) (q_u (q_u di 68 (76 + 21 * S) (di 68 0)) 68 (76 + 21 * S + 1) (q_u di 68 (76 + 21 * S) (di 68 0) 68 3) 68 2) = va_up di 68 (va_up (va_up (va_up (di 68) (76 + 21 * S) (di 68 0)) (76 + 21 * S + 1) (di 68 3)) (76 + 21 * S + 2) (di 68 2)) := by
      rw [q_uN _ _ _ _ _ (show (3 : Nat) ≠ 76 + 21 * S by omega), q_uN _ _ _ _ _ (show (2 : Nat) ≠ 76 + 21 * S + 1 by omega), q_uN _ _ _ _ _ (show (2 : Nat) ≠ 76 + 21 * S by omega)]
      funext i
      by_cases hi : i = 68
      · subst hi; rfl
      · rw [q_uR hi, q_uR hi, q_uR hi, q_upN _ _ hi]
    rw [eh]
    refine c_kpM112 (z := 76 + 21 * S) (b0 := va_up (va_up (va_up (di 68) (76 + 21 * S) (di 68 0)) (76 + 21 * S + 1) (di 68 3)) (76 + 21 * S + 2) (di 68 2)) (by omega) (by omega) hg 6 0 _ rfl (fun _ _ => rfl) (fun t ht => absurd ht (Nat.not_lt_zero t)) (fun b' s1 s2 => k _ ⟨S + 1, 0, by rw [if_neg h30], by rw [if_neg h30], ?_, ?_, ?_, ?_, ?_, ?_, ?_⟩)
    · intro i h1 h2
      rw [q_upN _ _ h2, s1 i (by omega), q_upN _ _ (by omega), q_upN _ _ (by omega), q_upN _ _ (by omega)]
    · rw [q_upE, s1 6 (by omega), q_upN _ _ (by omega), q_upN _ _ (by omega), q_upN _ _ (by omega), h6]
      exact nI_1 S
    · intro s hs i hi
      rw [q_upN _ _ (by omega), s1 _ (by omega), q_upN _ _ (by omega), q_upN _ _ (by omega), q_upN _ _ (by omega), Nat.add_zero]
    · rw [Nat.add_sub_cancel, q_upN _ _ (by omega), s1 _ (by omega), q_upN _ _ (by omega), q_upN _ _ (by omega), q_upE]
    · rw [Nat.add_sub_cancel, q_upN _ _ (by omega), s1 _ (by omega), q_upN _ _ (by omega), q_upE]
    · rw [Nat.add_sub_cancel, q_upN _ _ (by omega), s1 _ (by omega), q_upE]
    · intro p e hp he
      have td := tdiv p e he
      have ss := s2 (3 * p + e) (by omega)
      rw [td.1, td.2] at ss
      rw [Nat.add_sub_cancel, q_upN _ _ (by omega), show 76 + 21 * S + 3 + 3 * p + e = 76 + 21 * S + 3 + (3 * p + e) by omega, ss, q_upN _ _ (by omega), q_upN _ _ (by omega), q_upN _ _ (by omega)]
end
