/-! nights -/
def w_nx (x : Int32) : Int32 := ((x * 227) + 61) - ((x * 227) + 61) / 30119 * 30119
/-- coughs: x, how often each coughed, how many -/
def w_cg (cold : Nat → Int32) (si : Nat) (j : Nat) (s : Int32 × (Nat → Int32) × Nat) : Int32 × (Nat → Int32) × Nat := if si.testBit j = true then (w_nx s.1, if s.1 - s.1 / 10 * 10 < cold j then va_up s.2.1 j (s.2.1 j + 1) else s.2.1, if s.1 - s.1 / 10 * 10 < cold j then s.2.2 + 1 else s.2.2) else s
def w_ofs (g : Nat) (f : Nat → Int32) : Nat → Int32 := fun j => f j + (if g.testBit j = true then 1 else 0)
/-- one line of a night: x, often, coughed, bill -/
def w_ln (a tx pl cold : Nat → Int32) (si m l : Nat) (s : Int32 × (Nat → Int32) × (Nat → Int32) × Int32) : Int32 × (Nat → Int32) × (Nat → Int32) × Int32 :=
  ((q_it (w_cg cold si) 6 0 (s.1, s.2.2.1, 0)).1, w_ofs (q_wv a tx pl l m 7 0 0).1 s.2.1, (q_it (w_cg cold si) 6 0 (s.1, s.2.2.1, 0)).2.1, s.2.2.2 + q_lo a tx l (q_bits (nI (q_wv a tx pl l m 7 0 0).1) 10 0 0) (nI (q_wv a tx pl l m 7 0 0).2) (nI (q_it (w_cg cold si) 6 0 (s.1, s.2.2.1, 0)).2.2))
/-- what only the first six cells decide -/
theorem w_cg_cg {cold cold' : Nat → Int32} {si : Nat} (hc : ∀ j, j < 6 → cold' j = cold j) : ∀ (c j : Nat) (x : Int32) (co co' : Nat → Int32) (k : Nat), j + c ≤ 6 → (∀ i, i < 6 → co' i = co i) → (q_it (w_cg cold' si) c j (x, co', k)).1 = (q_it (w_cg cold si) c j (x, co, k)).1 ∧ (q_it (w_cg cold' si) c j (x, co', k)).2.2 = (q_it (w_cg cold si) c j (x, co, k)).2.2 ∧ ∀ i, i < 6 → (q_it (w_cg cold' si) c j (x, co', k)).2.1 i = (q_it (w_cg cold si) c j (x, co, k)).2.1 i := by
  intro c
  induction c with
  | zero => intro j x co co' k _ h; exact ⟨rfl, rfl, h⟩
  | succ c ih =>
    intro j x co co' k hj h
    show (q_it (w_cg cold' si) c (j + 1) (w_cg cold' si j (x, co', k))).1 = (q_it (w_cg cold si) c (j + 1) (w_cg cold si j (x, co, k))).1 ∧ (q_it (w_cg cold' si) c (j + 1) (w_cg cold' si j (x, co', k))).2.2 = (q_it (w_cg cold si) c (j + 1) (w_cg cold si j (x, co, k))).2.2 ∧ ∀ i, i < 6 → (q_it (w_cg cold' si) c (j + 1) (w_cg cold' si j (x, co', k))).2.1 i = (q_it (w_cg cold si) c (j + 1) (w_cg cold si j (x, co, k))).2.1 i
    unfold w_cg
    simp only
    rw [hc j (by omega)]
    by_cases hb : si.testBit j = true
    · rw [if_pos hb, if_pos hb]
      by_cases hx : x - x / 10 * 10 < cold j
      · rw [if_pos hx, if_pos hx, if_pos hx]
        refine ih (j + 1) _ _ _ _ (by omega) (fun i hi => ?_)
        by_cases e : i = j
        · subst e; rw [q_upE, q_upE, h i hi]
        · rw [q_upN _ _ e, q_upN _ _ e, h i hi]
      · rw [if_neg hx, if_neg hx, if_neg hx]
        exact ih (j + 1) _ _ _ _ (by omega) h
    · rw [if_neg hb, if_neg hb]
      exact ih (j + 1) _ _ _ _ (by omega) h
theorem w_cgB {cold : Nat → Int32} {si : Nat} : ∀ (c j : Nat) (x : Int32) (co : Nat → Int32) (k : Nat), (q_it (w_cg cold si) c j (x, co, k)).2.2 ≤ k + c := by
  intro c
  induction c with
  | zero => intro j x co k; exact Nat.le_refl _
  | succ c ih =>
    intro j x co k
    show (q_it (w_cg cold si) c (j + 1) (w_cg cold si j (x, co, k))).2.2 ≤ _
    unfold w_cg
    simp only
    by_cases hb : si.testBit j = true
    · rw [if_pos hb]
      by_cases hx : x - x / 10 * 10 < cold j
      · rw [if_pos hx, if_pos hx]; exact Nat.le_trans (ih (j + 1) (w_nx x) (va_up co j (co j + 1)) (k + 1)) (by omega)
      · rw [if_neg hx, if_neg hx]; exact Nat.le_trans (ih (j + 1) (w_nx x) co k) (by omega)
    · rw [if_neg hb]; exact Nat.le_trans (ih (j + 1) x co k) (by omega)
theorem w_cgC {cold : Nat → Int32} {si B : Nat} : ∀ (c j : Nat) (x : Int32) (co : Nat → Int32) (k : Nat), (∀ i, i < 6 → ∃ t, t ≤ B + (if i < j then 1 else 0) ∧ co i = nI t) → ∀ i, i < 6 → ∃ t, t ≤ B + (if i < j + c then 1 else 0) ∧ (q_it (w_cg cold si) c j (x, co, k)).2.1 i = nI t := by
  intro c
  induction c with
  | zero => intro j x co k h; exact h
  | succ c ih =>
    intro j x co k h
    rw [show j + (c + 1) = j + 1 + c by omega]
    show ∀ i, i < 6 → ∃ t, t ≤ B + (if i < j + 1 + c then 1 else 0) ∧ (q_it (w_cg cold si) c (j + 1) (w_cg cold si j (x, co, k))).2.1 i = nI t
    have h' : ∀ i, i < 6 → ∃ t, t ≤ B + (if i < j + 1 then 1 else 0) ∧ co i = nI t := fun i hi => by
      obtain ⟨t, t1, t2⟩ := h i hi
      refine ⟨t, ?_, t2⟩
      by_cases e : i < j
      · rw [if_pos e] at t1; rw [if_pos (by omega)]; exact t1
      · rw [if_neg e] at t1; omega
    unfold w_cg
    simp only
    by_cases hb : si.testBit j = true
    · rw [if_pos hb]
      by_cases hx : x - x / 10 * 10 < cold j
      · rw [if_pos hx, if_pos hx]
        refine ih (j + 1) _ _ _ (fun i hi => ?_)
        by_cases e : i = j
        · subst e
          obtain ⟨t, t1, t2⟩ := h i hi
          rw [if_neg (by omega)] at t1
          rw [q_upE, t2, nI_1, if_pos (by omega)]
          exact ⟨t + 1, by omega, rfl⟩
        · rw [q_upN _ _ e]; exact h' i hi
      · rw [if_neg hx, if_neg hx]; exact ih (j + 1) _ _ _ h'
    · rw [if_neg hb]; exact ih (j + 1) _ _ _ h'
/-- loud with coughs -/
theorem w_lobC (a tx : Nat → Int32) (l g k : Nat) (rounds : Int32) (hg : g ≤ 6) (hk : k ≤ 6) : ∃ b, b ≤ 99 ∧ q_lo a tx l (nI g) rounds (nI k) = nI b := by
  unfold q_lo
  by_cases h : q_kl5 a tx 1 < 0
  · rw [if_pos h, nI_add]
    exact ⟨g + k, by omega, rfl⟩
  · rw [if_neg h]
    unfold q_btw
    by_cases h1 : (q_lv a tx 1 (q_nl1 a l (nI g) rounds (nI k))).2.1 0 < 0
    · rw [if_pos h1]; exact ⟨0, by omega, rfl⟩
    · rw [if_neg h1]
      by_cases h2 : (99 : Int32).toInt64 < (q_lv a tx 1 (q_nl1 a l (nI g) rounds (nI k))).2.1 0
      · rw [if_pos h2]; exact ⟨99, by omega, rfl⟩
      · rw [if_neg h2]
        rw [fa_lt64] at h1 h2
        have e1 : (0 : Int64).toInt = 0 := rfl
        have e2 : (99 : Int32).toInt64.toInt = 99 := rfl
        rw [e1] at h1
        rw [e2] at h2
        refine ⟨((q_lv a tx 1 (q_nl1 a l (nI g) rounds (nI k))).2.1 0).toInt.toNat, by omega, ?_⟩
        rw [fa_eq, q_nar32 (by omega) (by omega), nI_toInt (by omega)]
        omega
section
variable {c d n sl : Nat} {ln : Nat → Nat} {di : Nat → Nat → Int32} {dl : Nat → Nat → Int64} {dr : Nat → Nat → Option Nat} {Q : Option Value → q_H → Prop} {a tx pl : Nat → Int32} {P L : Nat}
/-- Evening.count -/
theorem c_cnt4 {si g : Nat} {cold : Nat → Int32} (hsi : si < 64) (hg64 : g < 64) (h5 : di 53 5 = nI g) (hcold : ∀ j, j < 6 → di 10 j = cold j) (hg : q_Gr n ln dr) : ∀ (c j : Nat) (x : Int32) (o co : Nat → Int32) (k : Nat), j + c = 6 →
    Q (some (.int (nI (q_it (w_cg cold si) c j (x, co, k)).2.2))) (n, sl, ln, va_up (va_up (va_up di 58 (q_it (fun j f => if si.testBit j = true then va_up f j (f j + (if g.testBit j = true then 1 else 0)) else f) c j o)) 59 (q_it (w_cg cold si) c j (x, co, k)).2.1) 7 (va_up (di 7) 16 (q_it (w_cg cold si) c j (x, co, k)).1), dl, dr) →
    q_EX q_KD d 78 4 [.ref 57, .int (nI si), .int (nI k), .int (nI j)] [] (n, sl, ln, va_up (va_up (va_up di 58 o) 59 co) 7 (va_up (di 7) 16 x), dl, dr) Q := by
  intro c
  induction c with
  | zero =>
    intro j x o co k hj kk
    have : j = 6 := by omega
    subst this
    exact g78_4 hg (fun _ => kk) (fun w => absurd w (by decide)) (fun w => absurd w (by decide)) (fun w => absurd w (by decide)) (fun w => absurd w (by decide)) (fun w => absurd w (by decide)) (fun w => absurd w (by decide)) (fun w => absurd w (by decide)) (fun w => absurd w (by decide))
  | succ c ih =>
    intro j x o co k hj kk
    have hjn : (nI j).toNatClampNeg = j := nI_clamp (by omega)
    have vj : vp_in (nI j) 6 := vp_in_nI (by omega) (by decide)
    have e16 : (va_up (va_up (va_up di 58 o) 59 co) 7 (va_up (di 7) 16 x)) 7 16 = x := rfl
    have e58 : (va_up (va_up (va_up di 58 o) 59 co) 7 (va_up (di 7) 16 x)) 58 = o := rfl
    have e59 : (va_up (va_up (va_up di 58 o) 59 co) 7 (va_up (di 7) 16 x)) 59 = co := rfl
    have e53 : (va_up (va_up (va_up di 58 o) 59 co) 7 (va_up (di 7) 16 x)) 53 5 = nI g := h5
    have e10 : (va_up (va_up (va_up di 58 o) 59 co) 7 (va_up (di 7) 16 x)) 10 j = cold j := hcold j (by omega)
    have est : q_it (w_cg cold si) (c + 1) j (x, co, k) = q_it (w_cg cold si) c (j + 1) (w_cg cold si j (x, co, k)) := rfl
    have eso : q_it (fun j f => if si.testBit j = true then va_up f j (f j + (if g.testBit j = true then 1 else 0)) else f) (c + 1) j o = q_it (fun j f => if si.testBit j = true then va_up f j (f j + (if g.testBit j = true then 1 else 0)) else f) c (j + 1) (if si.testBit j = true then va_up o j (o j + (if g.testBit j = true then 1 else 0)) else o) := rfl
    rw [est, eso] at kk
    have eh : ∀ (o' co' : Nat → Int32) (x' : Int32), q_u (q_u (q_u (va_up (va_up (va_up di 58 o) 59 co) 7 (va_up (di 7) 16 x)) 58 j (o' j)) 59 j (co' j)) 7 16 x' = va_up (va_up (va_up di 58 (va_up o j (o' j))) 59 (va_up co j (co' j))) 7 (va_up (di 7) 16 x') := fun o' co' x' => by
      funext i
      by_cases h7 : i = 7
      · subst h7
        show va_up (va_up (di 7) 16 x) 16 x' = va_up (di 7) 16 x'
        rw [q_upup]
      · rw [q_uR h7, q_upN _ _ h7]
        by_cases h59 : i = 59
        · subst h59; rfl
        · rw [q_uR h59, q_upN _ _ h59]
          by_cases h58 : i = 58
          · subst h58; rfl
          · rw [q_uR h58, q_upN _ _ h7, q_upN _ _ h59, q_upN _ _ h58, q_upN _ _ h58]
    have hbit : ((nI g >>> (nI j &&& 31)) &&& 1) = if g.testBit j = true then 1 else 0 := q_bt (by omega) (by omega)
    refine g78_4 hg (fun w => absurd ((nI_leI (a := 6) (by decide) (by omega)).mp w) (by omega)) (fun _ _ => vj) (fun _ _ => vj) (fun _ _ => vj) (fun _ w w2 => ?_) (fun _ _ _ => vj) (fun _ _ _ => vj) (fun _ w w2 => ?_) (fun _ w => ?_)
    · have hb : si.testBit j = true := by
        cases hh : si.testBit j with
        | true => rfl
        | false => exact absurd ((q_bt0 (m := si) (j := j) (by omega) (by omega)).mpr hh) w
      rw [hjn, e10, e16] at w2
      rw [hjn, e58, e53, e16, hbit, nI_1]
      have eh2 : q_u (q_u (va_up (va_up (va_up di 58 o) 59 co) 7 (va_up (di 7) 16 x)) 58 j (o j + (if g.testBit j = true then 1 else 0))) 7 16 (w_nx x) = va_up (va_up (va_up di 58 (va_up o j (o j + (if g.testBit j = true then 1 else 0)))) 59 co) 7 (va_up (di 7) 16 (w_nx x)) := by
        funext i
        by_cases h7 : i = 7
        · subst h7
          show va_up (va_up (di 7) 16 x) 16 (w_nx x) = va_up (di 7) 16 (w_nx x)
          rw [q_upup]
        · rw [q_uR h7, q_upN _ _ h7]
          by_cases h58 : i = 58
          · subst h58; rfl
          · rw [q_uR h58, q_upN _ _ h7]
            by_cases h59 : i = 59
            · subst h59; rfl
            · rw [q_upN _ _ h59, q_upN _ _ h59, q_upN _ _ h58, q_upN _ _ h58]
      show q_EX q_KD d 78 4 [.ref 57, .int (nI si), .int (nI k), .int (nI (j + 1))] [] (n, sl, ln, q_u (q_u (va_up (va_up (va_up di 58 o) 59 co) 7 (va_up (di 7) 16 x)) 58 j (o j + (if g.testBit j = true then 1 else 0))) 7 16 (w_nx x), dl, dr) Q
      rw [eh2]
      refine ih (j + 1) (w_nx x) _ co k (by omega) ?_
      unfold w_cg at kk ⊢
      simp only at kk
      rwa [if_pos hb, if_neg (q_not_lt w2), if_neg (q_not_lt w2), if_pos hb] at kk
    · have hb : si.testBit j = true := by
        cases hh : si.testBit j with
        | true => rfl
        | false => exact absurd ((q_bt0 (m := si) (j := j) (by omega) (by omega)).mpr hh) w
      rw [hjn, e10, e16] at w2
      rw [hjn, e58, e53, e16, hbit, nI_1, nI_1]
      have ehx := eh (fun _ => o j + (if g.testBit j = true then 1 else 0)) (fun _ => co j + 1) (w_nx x)
      show q_EX q_KD d 78 4 [.ref 57, .int (nI si), .int (nI (k + 1)), .int (nI (j + 1))] [] (n, sl, ln, q_u (q_u (q_u (va_up (va_up (va_up di 58 o) 59 co) 7 (va_up (di 7) 16 x)) 58 j (o j + (if g.testBit j = true then 1 else 0))) 59 j (co j + 1)) 7 16 (w_nx x), dl, dr) Q
      rw [ehx]
      refine ih (j + 1) (w_nx x) _ _ (k + 1) (by omega) ?_
      unfold w_cg at kk ⊢
      simp only at kk
      rwa [if_pos hb, if_pos w2, if_pos w2, if_pos hb] at kk
    · have hb := (q_bt0 (m := si) (j := j) (by omega) (by omega)).mp w
      have hb' : ¬ si.testBit j = true := by rw [hb]; decide
      rw [nI_1]
      refine ih (j + 1) x o co k (by omega) ?_
      unfold w_cg at kk ⊢
      simp only at kk
      rwa [if_neg hb', if_neg hb'] at kk
/-- the model's coughAll -/
theorem c_cgM4 {si P : Nat} {cold : Nat → Int32} (hP : P ≤ 6) (hsi : si < 64) (h0 : di 68 0 = nI P) (hcold : ∀ j, j < 6 → di 68 (10 + 6 * j + 2) = cold j) (hg : q_Gr n ln dr) : ∀ (c j : Nat) (x : Int32) (co : Nat → Int32) (k : Nat), j + c = P →
    Q (some (.int (nI (q_it (w_cg cold si) c j (x, co, k)).2.2))) (n, sl, ln, va_up (va_up di 78 (q_it (w_cg cold si) c j (x, co, k)).2.1) 68 (va_up (di 68) 3 (q_it (w_cg cold si) c j (x, co, k)).1), dl, dr) →
    q_EX q_KD (d + 1) 184 4 [.ref 67, .int (nI si), .int (nI k), .int (nI j), .retAddr 0] [] (n, sl, ln, va_up (va_up di 78 co) 68 (va_up (di 68) 3 x), dl, dr) Q := by
  intro c
  induction c with
  | zero =>
    intro j x co k hj kk
    have e0 : (va_up (va_up di 78 co) 68 (va_up (di 68) 3 x)) 68 0 = nI P := h0
    exact g184_4 hg (fun _ => kk) (fun w => absurd w (by rw [e0]; exact nI_nlt (by omega) (by omega)))
  | succ c ih =>
    intro j x co k hj kk
    have hjn : (nI j).toNatClampNeg = j := nI_clamp (by omega)
    have vj : vp_in (nI j) 6 := vp_in_nI (by omega) (by decide)
    have e0 : (va_up (va_up di 78 co) 68 (va_up (di 68) 3 x)) 68 0 = nI P := h0
    have e3 : (va_up (va_up di 78 co) 68 (va_up (di 68) 3 x)) 68 3 = x := rfl
    have e78 : (va_up (va_up di 78 co) 68 (va_up (di 68) 3 x)) 78 = co := rfl
    have ec : (va_up (va_up di 78 co) 68 (va_up (di 68) 3 x)) 68 (10 + 6 * j + 2) = cold j := by
      show va_up (di 68) 3 x (10 + 6 * j + 2) = _
      rw [q_upN _ _ (by omega)]; exact hcold j (by omega)
    have est : q_it (w_cg cold si) (c + 1) j (x, co, k) = q_it (w_cg cold si) c (j + 1) (w_cg cold si j (x, co, k)) := rfl
    rw [est] at kk
    have eh : ∀ v : Int32, q_u (q_u (va_up (va_up di 78 co) 68 (va_up (di 68) 3 x)) 68 3 (w_nx x)) 78 j v = va_up (va_up di 78 (va_up co j v)) 68 (va_up (di 68) 3 (w_nx x)) := fun v => by
      funext i
      by_cases h7 : i = 78
      · subst h7; rfl
      · rw [q_uR h7]
        by_cases h6 : i = 68
        · subst h6
          show va_up (va_up (di 68) 3 x) 3 (w_nx x) = va_up (di 68) 3 (w_nx x)
          rw [q_upup]
        · rw [q_uR h6, q_upN _ _ h6, q_upN _ _ h7, q_upN _ _ h6, q_upN _ _ h7]
    refine g184_4 hg (fun w => absurd w (by rw [e0]; exact nI_ge (by omega) (by omega))) (fun _ => c_has hg (g184_19 hg (fun w => c_get j 2 hg (by omega) ?_) (fun w => ?_)))
    · have hb : si.testBit j = true := (q_bt1 (m := si) (j := j) (by omega) (by omega)).mp (q_bp.mp w)
      rw [ec, e3]
      refine g184_40 hg (fun _ => vj) (fun _ _ => vj) (fun w2 _ _ => ?_) (fun _ _ w3 => absurd rfl w3) (fun _ w3 => absurd rfl w3) (fun _ w3 => absurd rfl w3) (fun _ w3 => absurd rfl w3) (fun _ => vj) (fun _ w3 => absurd w3 (by decide)) (fun _ w3 => absurd w3 (by decide)) (fun _ w3 => absurd w3 (by decide)) (fun _ _ => vj) (fun _ _ w3 => absurd w3 (by decide)) (fun w2 _ _ => ?_)
      · rw [hjn, e78, e3, Int32.add_zero, Int32.add_zero, nI_1]
        show q_EX q_KD (d + 1) 184 4 [.ref 67, .int (nI si), .int (nI k), .int (nI (j + 1)), .retAddr 0] [] (n, sl, ln, q_u (q_u (va_up (va_up di 78 co) 68 (va_up (di 68) 3 x)) 68 3 (w_nx x)) 78 j (co j), dl, dr) Q
        rw [eh, q_upid]
        refine ih (j + 1) (w_nx x) co k (by omega) ?_
        unfold w_cg at kk ⊢
        simp only at kk
        rwa [if_pos hb, if_neg (q_not_lt w2), if_neg (q_not_lt w2)] at kk
      · rw [hjn, e78, e3, nI_1, nI_1]
        show q_EX q_KD (d + 1) 184 4 [.ref 67, .int (nI si), .int (nI (k + 1)), .int (nI (j + 1)), .retAddr 0] [] (n, sl, ln, q_u (q_u (va_up (va_up di 78 co) 68 (va_up (di 68) 3 x)) 68 3 (w_nx x)) 78 j (co j + 1), dl, dr) Q
        rw [eh]
        refine ih (j + 1) (w_nx x) _ (k + 1) (by omega) ?_
        unfold w_cg at kk ⊢
        simp only at kk
        rwa [if_pos hb, if_pos w2, if_pos w2] at kk
    · have hb : ¬ si.testBit j = true := fun z => q_bn.mp w ((q_bt1 (m := si) (j := j) (by omega) (by omega)).mpr z)
      rw [nI_1]
      refine ih (j + 1) x co k (by omega) ?_
      unfold w_cg at kk ⊢
      simp only at kk
      rwa [if_neg hb] at kk
end
