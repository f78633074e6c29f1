theorem q_uN {α : Type} (f : Nat → Nat → α) (a j i : Nat) (v : α) (h : i ≠ j) : q_u f a j v a i = f a i := by
  show va_up f a (va_up (f a) j v) a i = f a i
  rw [va_up_self, va_up_ne _ _ h]
theorem q_uO {α : Type} (f : Nat → Nat → α) (a b j i : Nat) (v : α) (h : b ≠ a) : q_u f a j v b i = f b i := by
  show va_up f a (va_up (f a) j v) b i = f b i
  rw [va_up_ne _ _ h]
/-- an array filled from j on, c cells -/
def q_fill (di : Nat → Nat → Int32) (a : Nat) (x : Int32) : Nat → Nat → (Nat → Nat → Int32)
  | 0, _ => di
  | c + 1, j => q_fill (q_u di a j x) a x c (j + 1)
theorem q_fillO {a b : Nat} {x : Int32} (h : b ≠ a) : ∀ (c j : Nat) (di : Nat → Nat → Int32) (i : Nat), q_fill di a x c j b i = di b i := by
  intro c
  induction c with
  | zero => intro j di i; rfl
  | succ c ih =>
    intro j di i
    show q_fill (q_u di a j x) a x c (j + 1) b i = di b i
    rw [ih, q_uO _ _ _ _ _ _ h]
theorem q_fillI {a : Nat} {x : Int32} : ∀ (c j : Nat) (di : Nat → Nat → Int32) (i : Nat), q_fill di a x c j a i = if j ≤ i ∧ i < j + c then x else di a i := by
  intro c
  induction c with
  | zero => intro j di i; rw [if_neg (by omega)]; rfl
  | succ c ih =>
    intro j di i
    show q_fill (q_u di a j x) a x c (j + 1) a i = _
    rw [ih]
    by_cases h : i = j
    · subst h
      rw [if_neg (by omega), if_pos (by omega), q_uE]
    · rw [q_uN _ _ _ _ _ h]
      by_cases h2 : j + 1 ≤ i ∧ i < j + 1 + c
      · rw [if_pos h2, if_pos (by omega)]
      · rw [if_neg h2, if_neg (by omega)]
section
variable {d n sl : Nat} {ln : Nat → Nat} {dl : Nat → Nat → Int64} {dr : Nat → Nat → Option Nat} {Q : Option Value → q_H → Prop}
theorem c_fill5 {x : Int32} (sa L : Nat) (hL : L < 2 ^ 31) (hl : ln sa = L) (hk : q_KD sa = 20) (hn : sa < n) (h6 : 6 ≤ sa) (hg : q_Gr n ln dr) : ∀ (c j : Nat) (di : Nat → Nat → Int32), j + c = L → Q none (n, sl, ln, q_fill di sa x c j, dl, dr) → q_EX q_KD d 8 5 [.ref sa, .int x, .int (nI j), .int (nI L)] [] (n, sl, ln, di, dl, dr) Q := by
  intro c
  induction c with
  | zero =>
    intro j di e k
    have hh : ¬ nI j < nI L := nI_nlt (by omega) (by omega)
    exact g8_5 hg hk hn h6 (fun _ => k) (fun c => absurd c hh) (fun c => absurd c hh)
  | succ c ih =>
    intro j di e k
    have hj : (nI j).toNatClampNeg = j := nI_clamp (by omega)
    refine g8_5 hg hk hn h6 (fun c' => absurd ((nI_leI (by omega) (by omega)).mp c') (by omega)) (fun _ => by rw [hl]; exact vp_in_nI (by omega) hL) (fun _ => ?_)
    rw [nI_1, hj]
    exact ih (j + 1) _ (by omega) k
theorem c_fill {x : Int32} {di : Nat → Nat → Int32} (sa L : Nat) (hL : L < 2 ^ 31) (hl : ln sa = L) (hk : q_KD sa = 20) (hn : sa < n) (h6 : 6 ≤ sa) (hg : q_Gr n ln dr) (k : Q none (n, sl, ln, q_fill di sa x L 0, dl, dr)) : q_EX q_KD d 8 0 [.ref sa, .int x, .retAddr 0, .retAddr 0] [] (n, sl, ln, di, dl, dr) Q :=
  g8_0 hg hk hn h6 (by rw [hl]; exact c_fill5 sa L hL hl hk hn h6 hg L 0 di (by omega) k)
end
