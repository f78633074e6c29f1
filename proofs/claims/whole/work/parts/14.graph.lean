/-! THE OBJECT GRAPH: which cell is what, and the rows that the segments stand on -/
def q_kT : List Nat := [20, 20, 20, 20, 30, 21, 9, 2, 20, 20, 20, 20, 20, 20, 20, 20, 24, 7, 20, 20, 20, 20, 20, 2, 20, 20, 20, 20, 20, 20, 20, 20, 24, 7, 20, 20, 20, 20, 20, 4, 8, 21, 20, 20, 20, 20, 20, 20, 20, 20, 3, 20, 20, 0, 20, 20, 20, 1, 20, 20, 5, 20, 20, 20, 20, 20, 20, 10, 20, 20, 20, 20, 20, 20, 23, 22, 20, 20, 20, 20, 20, 20, 20, 20]
def q_KD (k : Nat) : Nat := cond (Nat.ble 84 k) (cond (Nat.beq ((k - 84) % 7) 0) 6 20) (q_kT.getD k 99)
def q_lT : List (Option Nat) := [none, some 16, some 7, some 3, none, some 134, none, none, some 6, some 6, some 6, some 6, some 6, some 10, some 10, some 10, some 4, none, some 180, some 180, some 30, some 30, some 30, none, some 6, some 6, some 6, some 6, some 6, some 10, some 10, some 10, some 4, none, some 180, some 180, some 30, some 30, some 30, none, none, some 300, some 301, some 301, some 300, some 3, some 3, some 24, some 24, some 24, none, some 14, some 300, none, some 240, some 240, some 490, none, some 6, some 6, none, some 64, some 10, some 6, some 6, some 6, some 16, none, some 706, some 706, some 2720, some 300, some 160, some 14, some 330, some 330, some 6, some 6, some 6, some 64, some 6, some 6, some 6, some 10]
def q_lO (k : Nat) : Option Nat := q_lT.getD k none
def q_rT : List (List (Option Nat)) := [[], [], [], [], [], [], [some 7, some 23, some 39, some 50, some 53, some 57, some 60], [some 8, some 9, some 10, some 11, some 12, some 13, some 14, some 15, some 16, some 17, none, none, none, none, none, none, none, none], [], [], [], [], [], [], [], [], [], [some 18, some 19, some 20, some 21, some 22, none, none], [], [], [], [], [], [some 24, some 25, some 26, some 27, some 28, some 29, some 30, some 31, some 32, some 33, none, none, none, none, none, none, none, none], [], [], [], [], [], [], [], [], [], [some 34, some 35, some 36, some 37, some 38, none, none], [], [], [], [], [], [some 40, some 44, some 45, some 46, some 47, some 48, some 49, none, none, none, none, none, none, none, none], [some 41, some 42, some 43, none, none], [], [], [], [], [], [], [], [], [], [some 51, some 52], [], [], [some 7, some 50, some 54, some 55, some 56, none, none], [], [], [], [some 7, some 50, some 53, some 58, some 59], [], [], [some 7, some 53, some 61, some 62, some 63, some 64, some 65, some 66, none, none, none, none, none], [], [], [], [], [], [], [some 68, some 69, some 70, some 71, none, none, none, none, none, none, none, none, none, none, none, none, some 72, none, none, none, none, none, some 73, some 74, some 75, some 76, none, none, none, some 77, some 78, some 79, some 80, some 81, some 82, none, some 83], [], [], [], [], [], [], [], [], [], [], [], [], [], [], [], []]
def q_rO (k j : Nat) : Option Nat := (q_rT.getD k []).getD j none
/-- a script: the text as it was read, its six rows behind it -/
def q_scr (n s : Nat) : Prop := 84 ≤ s ∧ (s - 84) % 7 = 0 ∧ s + 6 < n
def q_Gr (n : Nat) (ln : Nat → Nat) (dr : Nat → Nat → Option Nat) : Prop := 84 ≤ n ∧ (∀ k L, q_lO k = some L → ln k = L) ∧ (∀ k j b, q_rO k j = some b → dr k j = some b) ∧ (∀ s j, q_scr n s → j < 6 → dr s j = some (s + 1 + j))
theorem q_uE {α : Type} (f : Nat → Nat → α) (a j : Nat) (v : α) : q_u f a j v a j = v := by simp [q_u, va_up]
theorem q_lt {n a : Nat} {ln : Nat → Nat} {dr : Nat → Nat → Option Nat} (hg : q_Gr n ln dr) (h : Nat.ble (a + 1) 84 = true) : a < n := Nat.lt_of_lt_of_le (Nat.le_of_ble_eq_true h) hg.1
theorem q_inE {x : Int32} {n m : Nat} (e : n = m) (h : vp_in x m) : vp_in x n := by rw [e]; exact h
theorem q_leE {a n m : Nat} (e : n = m) (h : a ≤ m) : a ≤ n := by rw [e]; exact h
theorem q_lenE {n m : Nat} {v : Int32} (e : n = m) (h : Int32.ofNat m = v) : Int32.ofNat n = v := by rw [e]; exact h
theorem q_vin {x : Int32} {n : Nat} (h : (!(decide (x < 0)) && Nat.ble (x.toNatClampNeg + 1) n) = true) : vp_in x n := by
  rw [Bool.and_eq_true] at h
  intro q
  rcases q with q | q
  · simp [q] at h
  · exact absurd (Nat.le_of_ble_eq_true h.2) (by omega)
theorem q_ofI {x y : Int32} {z : Int} (h : x.toInt = z) (h2 : y.toInt = z) : x = y := Int32.toInt_inj.mp (h.trans h2.symm)
theorem q_kS {n s : Nat} (h : q_scr n s) : q_KD s = 6 := by
  obtain ⟨h1, h2, h3⟩ := h
  unfold q_KD
  rw [show Nat.ble 84 s = true from Nat.ble_eq_true_of_le h1, h2]
  rfl
theorem q_kA {n s j : Nat} (h : q_scr n s) (hj : j < 6) : q_KD (s + 1 + j) = 20 := by
  obtain ⟨h1, h2, h3⟩ := h
  unfold q_KD
  rw [show Nat.ble 84 (s + 1 + j) = true from Nat.ble_eq_true_of_le (by omega)]
  have e : (s + 1 + j - 84) % 7 = j + 1 := by omega
  rw [e]
  rfl
theorem q_ltS {n s : Nat} (h : q_scr n s) : s < n := by have := h.2.2; omega
theorem q_ltA {n s j : Nat} (h : q_scr n s) (hj : j < 6) : s + 1 + j < n := by have := h.2.2; omega
theorem q_6S {n s : Nat} (h : q_scr n s) : 6 ≤ s := by have := h.1; omega
theorem q_6A {n s j : Nat} (h : q_scr n s) : 6 ≤ s + 1 + j := by have := h.1; omega
theorem q_3S {n s : Nat} (h : q_scr n s) : q_KD s = 6 ∧ 6 ≤ s ∧ s < n := ⟨q_kS h, q_6S h, q_ltS h⟩
theorem q_20 {a : Nat} (h : q_KD a = 20) : 20 ≤ q_KD a := by omega
theorem q_24 {a : Nat} (h : q_KD a = 20) : q_KD a ≤ 24 := by omega
theorem x_aaq (pc : Nat) {d i a : Nat} {ls st : List Value} {n sl : Nat} {ln : Nat → Nat} {di : Nat → Nat → Int32} {dl : Nat → Nat → Int64} {dr : Nat → Nat → Option Nat} {Q : Option Value → q_H → Prop} {lk : q_LK} {x : Int32} (hi : q_ins i pc = some (.aaload, 1, lk)) (hk : q_KD a = 24) (ha : a < n) (hin : vp_in x (ln a))
    (kn : dr a x.toNatClampNeg = none → q_EX q_KD d i (pc + 1) ls (.null :: st) (n, sl, ln, di, dl, dr) Q) (ks : ∀ s, dr a x.toNatClampNeg = some s → q_EX q_KD d i (pc + 1) ls (.ref s :: st) (n, sl, ln, di, dl, dr) Q) : q_EX q_KD d i pc ls (.int x :: .ref a :: st) (n, sl, ln, di, dl, dr) Q := by
  cases h : dr a x.toNatClampNeg with
  | none => exact x_aaload pc hi hk ha hin (by show va_rf (dr a x.toNatClampNeg) = _; rw [h]; rfl) (kn h)
  | some s => exact x_aaload pc hi hk ha hin (by show va_rf (dr a x.toNatClampNeg) = _; rw [h]; rfl) (ks s h)
