/-- sets that are made person by person -/
theorem q_mkT {p : Nat → Prop} [DecidablePred p] : ∀ (c j acc i : Nat), (q_it (fun j x => if p j then x ||| 2 ^ j else x) c j acc).testBit i = (acc.testBit i || decide (j ≤ i ∧ i < j + c ∧ p i)) := by
  intro c
  induction c with
  | zero =>
    intro j acc i
    show acc.testBit i = _
    rw [decide_eq_false (by omega), Bool.or_false]
  | succ c ih =>
    intro j acc i
    show (q_it (fun j x => if p j then x ||| 2 ^ j else x) c (j + 1) (if p j then acc ||| 2 ^ j else acc)).testBit i = _
    rw [ih]
    by_cases hp : p j
    · rw [if_pos hp, q_bset, Bool.or_assoc]
      congr 1
      by_cases hi : i = j
      · subst hi
        rw [decide_eq_true rfl, Bool.true_or, decide_eq_true ⟨Nat.le_refl _, by omega, hp⟩]
      · rw [decide_eq_false hi, Bool.false_or]
        exact decide_eq_decide.mpr ⟨fun h => ⟨by omega, by omega, h.2.2⟩, fun h => ⟨by omega, by omega, h.2.2⟩⟩
    · rw [if_neg hp]
      congr 1
      refine decide_eq_decide.mpr ⟨fun h => ⟨by omega, by omega, h.2.2⟩, fun h => ⟨?_, by omega, h.2.2⟩⟩
      rcases Nat.lt_or_ge j i with h' | h'
      · omega
      · exact absurd ((show i = j by omega) ▸ h.2.2) hp
theorem q_mkL {p : Nat → Prop} [DecidablePred p] {K : Nat} : ∀ (c j acc : Nat), acc < 2 ^ K → j + c ≤ K → q_it (fun j x => if p j then x ||| 2 ^ j else x) c j acc < 2 ^ K := by
  intro c
  induction c with
  | zero => intro j acc h _; exact h
  | succ c ih =>
    intro j acc h hj
    show q_it (fun j x => if p j then x ||| 2 ^ j else x) c (j + 1) (if p j then acc ||| 2 ^ j else acc) < 2 ^ K
    refine ih (j + 1) _ ?_ (by omega)
    by_cases hp : p j
    · rw [if_pos hp]; exact q_orlt h (q_plt (by omega))
    · rw [if_neg hp]; exact h
theorem q_msT (f : Nat → Int32) (i : Nat) : (q_ms f).testBit i = decide (i < 6 ∧ f i = 1) := by
  unfold q_ms
  rw [q_mkT (p := fun j => f j = 1), Nat.zero_testBit, Bool.false_or]
  exact decide_eq_decide.mpr ⟨fun h => ⟨by omega, h.2.2⟩, fun h => ⟨by omega, by omega, h.2⟩⟩
theorem q_msL (f : Nat → Int32) : q_ms f < 64 := q_mkL (p := fun j => f j = 1) (K := 6) 6 0 0 (by decide) (by decide)
/-- whether person j comes to laugh -/
def q_cm2 (a tx pl : Nat → Int32) (l m g j : Nat) : Prop := m.testBit j = true ∧ (0 : Int32) ≤ pl j ∧ ¬ q_la a tx l j (pl j / 4) (q_nearOf (nI g) pl j 6 0 0) (q_bits (nI g) 10 0 0) = 0
theorem q_rdT (a tx pl : Nat → Int32) (l m g i : Nat) : (q_rd a tx pl l m g).testBit i = true ↔ i < 6 ∧ q_cm2 a tx pl l m g i := by
  unfold q_rd
  rw [q_mkT (p := fun j => m.testBit j = true ∧ (0 : Int32) ≤ pl j ∧ ¬ q_la a tx l j (pl j / 4) (q_nearOf (nI g) pl j 6 0 0) (q_bits (nI g) 10 0 0) = 0), Nat.zero_testBit, Bool.false_or, decide_eq_true_iff]
  exact ⟨fun h => ⟨by omega, h.2.2⟩, fun h => ⟨by omega, by omega, h.2⟩⟩
theorem q_rdL (a tx pl : Nat → Int32) (l m g : Nat) : q_rd a tx pl l m g < 64 := q_mkL (p := fun j => m.testBit j = true ∧ (0 : Int32) ≤ pl j ∧ ¬ q_la a tx l j (pl j / 4) (q_nearOf (nI g) pl j 6 0 0) (q_bits (nI g) 10 0 0) = 0) (K := 6) 6 0 0 (by decide) (by decide)
/-- how many of six bits -/
def w_ct (g : Nat) : Nat := (g.testBit 0).toNat + (g.testBit 1).toNat + (g.testBit 2).toNat + (g.testBit 3).toNat + (g.testBit 4).toNat + (g.testBit 5).toNat
theorem w_ct6 (g : Nat) : w_ct g ≤ 6 := by
  unfold w_ct
  have h : ∀ b : Bool, b.toNat ≤ 1 := by decide
  have h0 := h (g.testBit 0)
  have h1 := h (g.testBit 1)
  have h2 := h (g.testBit 2)
  have h3 := h (g.testBit 3)
  have h4 := h (g.testBit 4)
  have h5 := h (g.testBit 5)
  omega
theorem w_ctS {g c : Nat} (hc : c < 64) (h0 : ¬ c = 0) (hd : ∀ i, c.testBit i = true → g.testBit i = false) : w_ct g + 1 ≤ w_ct (g ||| c) := by
  have hx : ∃ i, i < 6 ∧ c.testBit i = true := by
    rcases Classical.em (∃ i, i < 6 ∧ c.testBit i = true) with h | h
    · exact h
    · refine absurd (q_ext (k := 6) (a := c) (b := 0) hc (by decide) (fun j hj => ?_)) h0
      rw [Nat.zero_testBit]
      cases hb : c.testBit j with
      | false => rfl
      | true => exact absurd ⟨j, hj, hb⟩ h
  obtain ⟨i, hi, hb⟩ := hx
  have hgi := hd i hb
  unfold w_ct
  simp only [Nat.testBit_or]
  have h : ∀ x y : Bool, x.toNat ≤ (x || y).toNat := by decide
  have e0 := h (g.testBit 0) (c.testBit 0)
  have e1 := h (g.testBit 1) (c.testBit 1)
  have e2 := h (g.testBit 2) (c.testBit 2)
  have e3 := h (g.testBit 3) (c.testBit 3)
  have e4 := h (g.testBit 4) (c.testBit 4)
  have e5 := h (g.testBit 5) (c.testBit 5)
  have hz : (g.testBit i).toNat + 1 ≤ (g.testBit i || c.testBit i).toNat := by rw [hgi, hb]; decide
  match i, hi, hz with
  | 0, _, hz => omega
  | 1, _, hz => omega
  | 2, _, hz => omega
  | 3, _, hz => omega
  | 4, _, hz => omega
  | 5, _, hz => omega
  | i + 6, hi, _ => omega
theorem q_rd_new {a tx pl : Nat → Int32} {l m g i : Nat} (h : (q_rd a tx pl l (q_an m g) g).testBit i = true) : g.testBit i = false := by
  have := ((q_rdT a tx pl l (q_an m g) g i).mp h).2.1
  rw [q_anT] at this
  revert this
  cases m.testBit i <;> cases g.testBit i <;> decide
/-- laughing g, rounds r -/
abbrev q_h67 (di : Nat → Nat → Int32) (x y : Int32) : Nat → Nat → Int32 := va_up di 67 (va_up (va_up (di 67) 27 x) 28 y)
theorem q_h67u {di e : Nat → Nat → Int32} {x y x' y' : Int32} : q_u (q_u (q_F q_Sw (q_h67 di x y) e) 67 27 x') 67 28 y' = q_F q_Sw (q_h67 di x' y') e := by
  funext k
  by_cases hk : k = 67
  · subst hk
    funext i
    show va_up (va_up (va_up (va_up (di 67) 27 x) 28 y) 27 x') 28 y' i = va_up (va_up (di 67) 27 x') 28 y' i
    by_cases h1 : i = 28
    · subst h1; rw [q_upE, q_upE]
    · rw [q_upN _ _ h1, q_upN _ _ h1]
      by_cases h2 : i = 27
      · subst h2; rw [q_upE, q_upE]
      · rw [q_upN _ _ h2, q_upN _ _ h2, q_upN _ _ h1, q_upN _ _ h2]
  · rw [q_uR hk, q_uR hk]
    unfold q_F q_h67
    rw [q_upN _ _ hk, q_upN _ _ hk]
section
variable {d n sl : Nat} {ln : Nat → Nat} {dr : Nat → Nat → Option Nat} {Q : Option Value → q_H → Prop}
theorem c_hear21 {di : Nat → Nat → Int32} {l s st g P : Nat} (hl : l < 10) (hP : P ≤ 6) (h0 : di 68 0 = nI P) (hst : di 67 26 = nI st) (hgg : di 67 27 = nI g) (hs : s < 2 ^ 31) (hMT : q_MT (di 68) (di 70)) (hg : q_Gr n ln dr) : ∀ (c j acc : Nat) (e : Nat → Nat → Int32) (dl : Nat → Nat → Int64), j + c = P →
    (∀ e' dl', q_EX q_KD (d + 5) 163 21 [.ref 67, .int (nI l), .int (nI s), .int (nI (q_it (fun j x => if (q_an (q_an s st) g).testBit j = true ∧ (0 : Int32) ≤ di 76 j ∧ ¬ q_la (di 68) (di 70) l j (di 76 j / 4) (q_nearOf (nI g) (di 76) j 6 0 0) (q_bits (nI g) 10 0 0) = 0 then x ||| 2 ^ j else x) c j acc)), .int (nI P)] [] (n, sl, ln, q_F q_Sw di e', dl', dr) Q) →
    q_EX q_KD (d + 5) 163 21 [.ref 67, .int (nI l), .int (nI s), .int (nI acc), .int (nI j)] [] (n, sl, ln, q_F q_Sw di e, dl, dr) Q := by
  intro c
  induction c with
  | zero =>
    intro j acc e dl hj k
    have : j = P := by omega
    subst this
    exact k e dl
  | succ c ih =>
    intro j acc e dl hj k
    have hjn : (nI j).toNatClampNeg = j := nI_clamp (by omega)
    have hlt : nI j < nI P := nI_lt (by omega) (by omega)
    have h0' : q_F q_Sw di e 68 0 = nI P := h0
    have hm : (nI s &&& (di 67 26 ^^^ (-1))) &&& (di 67 27 ^^^ (-1)) = nI (q_an (q_an s st) g) := by rw [hst, hgg, q_anI, q_anI]
    have hml : q_an (q_an s st) g < 2 ^ 31 := q_anlt (q_anlt hs)
    have kn : ¬ ((q_an (q_an s st) g).testBit j = true ∧ (0 : Int32) ≤ di 76 j ∧ ¬ q_la (di 68) (di 70) l j (di 76 j / 4) (q_nearOf (nI g) (di 76) j 6 0 0) (q_bits (nI g) 10 0 0) = 0) → ∀ e2 dl2, q_EX q_KD (d + 5) 163 21 [.ref 67, .int (nI l), .int (nI s), .int (nI acc), .int (nI j + 1)] [] (n, sl, ln, q_F q_Sw di e2, dl2, dr) Q := by
      intro hn e2 dl2
      rw [nI_1]
      refine ih (j + 1) acc e2 dl2 (by omega) (fun e' dl' => ?_)
      have := k e' dl'
      rwa [show q_it (fun j x => if (q_an (q_an s st) g).testBit j = true ∧ (0 : Int32) ≤ di 76 j ∧ ¬ q_la (di 68) (di 70) l j (di 76 j / 4) (q_nearOf (nI g) (di 76) j 6 0 0) (q_bits (nI g) 10 0 0) = 0 then x ||| 2 ^ j else x) (c + 1) j acc = q_it (fun j x => if (q_an (q_an s st) g).testBit j = true ∧ (0 : Int32) ≤ di 76 j ∧ ¬ q_la (di 68) (di 70) l j (di 76 j / 4) (q_nearOf (nI g) (di 76) j 6 0 0) (q_bits (nI g) 10 0 0) = 0 then x ||| 2 ^ j else x) c (j + 1) (if (q_an (q_an s st) g).testBit j = true ∧ (0 : Int32) ≤ di 76 j ∧ ¬ q_la (di 68) (di 70) l j (di 76 j / 4) (q_nearOf (nI g) (di 76) j 6 0 0) (q_bits (nI g) 10 0 0) = 0 then acc ||| 2 ^ j else acc) from rfl, if_neg hn] at this
    refine g163_21 hg (fun c' _ => absurd hlt (q_nle (by rw [h0'] at c'; exact c'))) (fun c' _ => absurd hlt (q_nle (by rw [h0'] at c'; exact c'))) (fun _ => c_has hg (g163_52 hg (fun y => kn (fun z => ?_) e dl) (fun _ => vp_in_nI (by omega) (by decide)) (fun _ y => kn (fun z => ?_) e dl) (fun y1 y2 => c_laM hl (by omega) hMT hg (fun e2 dl2 => g163_72 hg (fun y3 => ?_) (fun y3 => ?_)))))
    · have y' := q_bn.mp y
      exact y' (by
        show ((((nI s &&& (di 67 26 ^^^ (-1))) &&& (di 67 27 ^^^ (-1))) >>> (nI j &&& 31)) &&& 1) = 1
        rw [hm]; exact (q_bt1 hml (by omega)).mpr z.1)
    · have y' : di 76 (nI j).toNatClampNeg < 0 := y
      rw [hjn] at y'
      exact q_lt0.mp y' z.2.1
    · rw [q_FF]
      refine kn (fun z => z.2.2 ?_) e2 dl2
      rw [← hgg]
      exact y3
    · rw [q_FF]
      have y1' : (q_an (q_an s st) g).testBit j = true := by
        have := q_bp.mp y1
        have t1 : ((((nI s &&& (di 67 26 ^^^ (-1))) &&& (di 67 27 ^^^ (-1))) >>> (nI j &&& 31)) &&& 1) = 1 := this
        rw [hm] at t1
        exact (q_bt1 hml (by omega)).mp t1
      have y2' : (0 : Int32) ≤ di 76 j := by
        have : (0 : Int32) ≤ di 76 (nI j).toNatClampNeg := y2
        rwa [hjn] at this
      have y3' : ¬ q_la (di 68) (di 70) l j (di 76 j / 4) (q_nearOf (nI g) (di 76) j 6 0 0) (q_bits (nI g) 10 0 0) = 0 := by
        rw [← hgg]; exact y3
      rw [nI_1, q_sh (by omega), fa_or]
      refine ih (j + 1) (acc ||| 2 ^ j) e2 dl2 (by omega) (fun e' dl' => ?_)
      have := k e' dl'
      rwa [show q_it (fun j x => if (q_an (q_an s st) g).testBit j = true ∧ (0 : Int32) ≤ di 76 j ∧ ¬ q_la (di 68) (di 70) l j (di 76 j / 4) (q_nearOf (nI g) (di 76) j 6 0 0) (q_bits (nI g) 10 0 0) = 0 then x ||| 2 ^ j else x) (c + 1) j acc = q_it (fun j x => if (q_an (q_an s st) g).testBit j = true ∧ (0 : Int32) ≤ di 76 j ∧ ¬ q_la (di 68) (di 70) l j (di 76 j / 4) (q_nearOf (nI g) (di 76) j 6 0 0) (q_bits (nI g) 10 0 0) = 0 then x ||| 2 ^ j else x) c (j + 1) (if (q_an (q_an s st) g).testBit j = true ∧ (0 : Int32) ≤ di 76 j ∧ ¬ q_la (di 68) (di 70) l j (di 76 j / 4) (q_nearOf (nI g) (di 76) j 6 0 0) (q_bits (nI g) 10 0 0) = 0 then acc ||| 2 ^ j else acc) from rfl, if_pos ⟨y1', y2', y3'⟩] at this
end
