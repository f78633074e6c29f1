/-! TOOLS: numbers, bits, heaps that differ in some rows -/
theorem fa_lt (a b : Int32) : a < b ↔ a.toInt < b.toInt := Int32.lt_iff_toInt_lt
theorem fa_le (a b : Int32) : a ≤ b ↔ a.toInt ≤ b.toInt := Int32.le_iff_toInt_le
theorem fa_eq (a b : Int32) : a = b ↔ a.toInt = b.toInt := Int32.toInt_inj.symm
theorem fa_lt64 (a b : Int64) : a < b ↔ a.toInt < b.toInt := Int64.lt_iff_toInt_lt
theorem fa_le64 (a b : Int64) : a ≤ b ↔ a.toInt ≤ b.toInt := Int64.le_iff_toInt_le
theorem fa_eq64 (a b : Int64) : a = b ↔ a.toInt = b.toInt := Int64.toInt_inj.symm
theorem fa_and (a b : Nat) : nI a &&& nI b = nI (a &&& b) := by
  apply Int32.toBitVec_inj.1
  show BitVec.ofNat 32 a &&& BitVec.ofNat 32 b = BitVec.ofNat 32 (a &&& b)
  apply BitVec.eq_of_getLsbD_eq
  intro i hi
  simp [hi]
theorem fa_or (a b : Nat) : nI a ||| nI b = nI (a ||| b) := by
  apply Int32.toBitVec_inj.1
  show BitVec.ofNat 32 a ||| BitVec.ofNat 32 b = BitVec.ofNat 32 (a ||| b)
  apply BitVec.eq_of_getLsbD_eq
  intro i hi
  simp [hi]
theorem q_xor (a b : Nat) : nI a ^^^ nI b = nI (a ^^^ b) := by
  apply Int32.toBitVec_inj.1
  show BitVec.ofNat 32 a ^^^ BitVec.ofNat 32 b = BitVec.ofNat 32 (a ^^^ b)
  apply BitVec.eq_of_getLsbD_eq
  intro i hi
  simp [hi]
/-- a without b, as sets of bits -/
def q_an (a b : Nat) : Nat := a ^^^ (a &&& b)
theorem q_anI (a b : Nat) : nI a &&& (nI b ^^^ (-1)) = nI (q_an a b) := by
  unfold q_an
  rw [← q_xor, ← fa_and]
  apply Int32.toBitVec_inj.1
  show BitVec.ofNat 32 a &&& (BitVec.ofNat 32 b ^^^ BitVec.allOnes 32) = BitVec.ofNat 32 a ^^^ (BitVec.ofNat 32 a &&& BitVec.ofNat 32 b)
  apply BitVec.eq_of_getLsbD_eq
  intro i hi
  simp only [BitVec.getLsbD_and, BitVec.getLsbD_xor, BitVec.getLsbD_allOnes, hi, decide_true]
  cases (BitVec.ofNat 32 a).getLsbD i <;> cases (BitVec.ofNat 32 b).getLsbD i <;> rfl
theorem q_anT (a b j : Nat) : (q_an a b).testBit j = (a.testBit j && !b.testBit j) := by
  unfold q_an
  rw [Nat.testBit_xor, Nat.testBit_and]
  cases a.testBit j <;> cases b.testBit j <;> rfl
theorem q_s32 : ∀ n, n < 32 → ((nI n &&& 31).toBitVec.smod 32).toNat = n := by decide +kernel
theorem q_sh {j : Nat} (hj : j < 31) : (1 : Int32) <<< (nI j &&& 31) = nI (2 ^ j) := by
  have h2 : 2 ^ j < 2 ^ 32 := Nat.pow_lt_pow_right (by decide) (by omega)
  have h := pk_shlN (n := 1) (nI j &&& 31) j (q_s32 j (by omega)) (by omega)
  rw [Nat.one_mul] at h
  exact h
theorem q_bt {m j : Nat} (hm : m < 2 ^ 31) (hj : j < 31) : ((nI m >>> (nI j &&& 31)) &&& 1) = if m.testBit j then 1 else 0 := by
  have hd := Nat.div_le_self m (2 ^ j)
  rw [pk_shrN hm _ j (q_s32 j (by omega)), pk_andN (n := m / 2 ^ j) (by omega) (m := 1) 1 (by decide), Nat.testBit_eq_decide_div_mod_eq]
  have h := Nat.mod_two_eq_zero_or_one (m / 2 ^ j)
  rcases h with h | h <;> simp [h] <;> rfl
theorem q_bt0 {m j : Nat} (hm : m < 2 ^ 31) (hj : j < 31) : ((nI m >>> (nI j &&& 31)) &&& 1) = 0 ↔ m.testBit j = false := by
  rw [q_bt hm hj]
  cases m.testBit j <;> simp
theorem q_bt1 {m j : Nat} (hm : m < 2 ^ 31) (hj : j < 31) : ((nI m >>> (nI j &&& 31)) &&& 1) = 1 ↔ m.testBit j = true := by
  rw [q_bt hm hj]
  cases m.testBit j <;> simp
/-- two sets of few bits are one if their bits are -/
theorem q_ext {a b k : Nat} (ha : a < 2 ^ k) (hb : b < 2 ^ k) (h : ∀ j, j < k → a.testBit j = b.testBit j) : a = b := by
  apply Nat.eq_of_testBit_eq
  intro i
  rcases Nat.lt_or_ge i k with hi | hi
  · exact h i hi
  · have e : 2 ^ k ≤ 2 ^ i := Nat.pow_le_pow_right (by decide) hi
    rw [Nat.testBit_lt_two_pow (Nat.lt_of_lt_of_le ha e), Nat.testBit_lt_two_pow (Nat.lt_of_lt_of_le hb e)]
theorem q_orlt {a b k : Nat} (ha : a < 2 ^ k) (hb : b < 2 ^ k) : a ||| b < 2 ^ k := Nat.or_lt_two_pow ha hb
theorem q_anlt {a b k : Nat} (ha : a < 2 ^ k) : q_an a b < 2 ^ k := Nat.xor_lt_two_pow ha (Nat.lt_of_le_of_lt Nat.and_le_left ha)
theorem q_bset (n j i : Nat) : (n ||| 2 ^ j).testBit i = (n.testBit i || decide (i = j)) := by
  rw [Nat.testBit_or, Nat.testBit_two_pow]
  congr 1
  exact decide_eq_decide.mpr ⟨Eq.symm, Eq.symm⟩
theorem q_plt {j k : Nat} (h : j < k) : 2 ^ j < 2 ^ k := Nat.pow_lt_pow_right (by decide) h
/-- heap rows: those of S are e's, the others di's -/
def q_F (S : Nat → Bool) (di e : Nat → Nat → Int32) : Nat → Nat → Int32 := fun k => cond (S k) (e k) (di k)
theorem q_Fi {S : Nat → Bool} {di e : Nat → Nat → Int32} {k : Nat} (h : S k = true) : q_F S di e k = e k := by unfold q_F; rw [h]; rfl
theorem q_Fo {S : Nat → Bool} {di e : Nat → Nat → Int32} {k : Nat} (h : S k = false) : q_F S di e k = di k := by unfold q_F; rw [h]; rfl
theorem q_FF (S : Nat → Bool) (di e e' : Nat → Nat → Int32) : q_F S (q_F S di e) e' = q_F S di e' := by
  funext k
  unfold q_F
  cases S k <;> rfl
theorem q_Fid (S : Nat → Bool) (di : Nat → Nat → Int32) : q_F S di di = di := by
  funext k
  unfold q_F
  cases S k <;> rfl
theorem q_FS {S : Nat → Bool} {di e : Nat → Nat → Int32} : q_F S di (q_F S di e) = q_F S di e := by
  funext k
  unfold q_F
  cases S k <;> rfl
theorem q_Fup {S : Nat → Bool} {di e : Nat → Nat → Int32} {a : Nat} {f : Nat → Int32} (h : S a = true) : va_up (q_F S di e) a f = q_F S di (va_up e a f) := by
  funext k
  unfold q_F va_up
  by_cases hk : k = a
  · subst hk; simp [h]
  · simp [hk]
theorem q_Fu {S : Nat → Bool} {di e : Nat → Nat → Int32} {a j : Nat} {v : Int32} (h : S a = true) : q_u (q_F S di e) a j v = q_F S di (q_u e a j v) := by
  show va_up (q_F S di e) a (va_up (q_F S di e a) j v) = q_F S di (va_up e a (va_up (e a) j v))
  rw [q_Fi h, q_Fup h]
/-- any change within S -/
theorem q_Fin {S : Nat → Bool} {di di' : Nat → Nat → Int32} (h : ∀ k, S k = false → di' k = di k) : di' = q_F S di di' := by
  funext k
  unfold q_F
  cases hk : S k with
  | true => rfl
  | false => exact h k hk
theorem q_upup {α : Type} (f : Nat → α) (k : Nat) (v w : α) : va_up (va_up f k v) k w = va_up f k w := bx_uu f k v w
theorem q_upE {α : Type} (f : Nat → α) (k : Nat) (v : α) : va_up f k v k = v := by unfold va_up; exact if_pos rfl
theorem q_upN {α : Type} (f : Nat → α) {k j : Nat} (v : α) (h : ¬ j = k) : va_up f k v j = f j := by unfold va_up; exact if_neg h
theorem q_lt0 {x : Int32} : x < 0 ↔ ¬ (0 : Int32) ≤ x := by rw [fa_lt, fa_le]; show x.toInt < 0 ↔ ¬ 0 ≤ x.toInt; omega
theorem q_itS {α : Type} (f : Nat → α → α) : ∀ (c j : Nat) (a : α), q_it f (c + 1) j a = f (j + c) (q_it f c j a) := by
  intro c
  induction c with
  | zero => intro j a; rfl
  | succ c ih =>
    intro j a
    show q_it f (c + 1) (j + 1) (f j a) = f (j + (c + 1)) (q_it f c (j + 1) (f j a))
    rw [ih (j + 1), show j + 1 + c = j + (c + 1) by omega]
theorem q_itC {α : Type} {f g : Nat → α → α} : ∀ (c j : Nat) (a : α), (∀ i x, j ≤ i → i < j + c → f i x = g i x) → q_it f c j a = q_it g c j a := by
  intro c
  induction c with
  | zero => intro j a _; rfl
  | succ c ih =>
    intro j a h
    show q_it f c (j + 1) (f j a) = q_it g c (j + 1) (g j a)
    rw [h j a (Nat.le_refl _) (by omega), ih (j + 1) _ (fun i x h1 h2 => h i x (by omega) (by omega))]
theorem q_itA {α : Type} (f : Nat → α → α) : ∀ (c c' j : Nat) (a : α), q_it f (c + c') j a = q_it f c' (j + c) (q_it f c j a) := by
  intro c
  induction c with
  | zero => intro c' j a; rw [Nat.zero_add]; rfl
  | succ c ih =>
    intro c' j a
    rw [Nat.succ_add]
    show q_it f (c + c') (j + 1) (f j a) = _
    rw [ih, show j + 1 + c = j + (c + 1) by omega]
    rfl
