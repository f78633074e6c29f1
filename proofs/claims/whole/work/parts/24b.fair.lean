/-! fair -/
def w_od (k : Nat) : Nat := [1, 1, 2, 6, 24, 120, 720].getD k 0
theorem w_odI : ∀ k, k < 7 → q_ord.getD k 0 = nI (w_od k) := by decide +kernel
theorem w_od1 : ∀ k, k < 7 → 1 ≤ w_od k ∧ w_od k ≤ 720 := by decide +kernel
theorem w_od2 : ∀ i, i < 6 → ∀ k, k < 6 → i + k < 6 → w_od i * w_od k ≤ 120 := by decide +kernel
theorem w_odM : ∀ k, k < 7 → q_it (fun i v => v * nI i) (k - 1) 2 (1 : Int32) = nI (w_od k) := by decide +kernel
/-- Euclid, at most f turns -/
def w_gc : Nat → Nat → Nat → Nat
  | 0, p, _ => p
  | f + 1, p, q => if q = 0 then p else w_gc f q (p % q)
theorem w_gcS : ∀ (k p q x : Nat), q < 2 ^ k → w_gc (2 * k + 1 + x) p q = w_gc (2 * k + 1) p q := by
  intro k
  induction k with
  | zero =>
    intro p q x h
    have hq : q = 0 := by simpa using h
    subst hq
    rw [show 2 * 0 + 1 + x = x + 1 by omega]
    unfold w_gc
    rw [if_pos rfl, if_pos rfl]
  | succ k ih =>
    intro p q x h
    rw [show 2 * (k + 1) + 1 + x = (2 * k + 1 + x) + 1 + 1 by omega, show 2 * (k + 1) + 1 = (2 * k + 1) + 1 + 1 by omega]
    unfold w_gc
    by_cases z : q = 0
    · rw [if_pos z, if_pos z]
    · rw [if_neg z, if_neg z]
      unfold w_gc
      by_cases z2 : p % q = 0
      · rw [if_pos z2, if_pos z2]
      · rw [if_neg z2, if_neg z2]
        refine ih _ _ _ ?_
        have h1 : p % q < q := Nat.mod_lt _ (by omega)
        have h3 : q % (p % q) < p % q := Nat.mod_lt _ (by omega)
        have h4 : q % (p % q) + p % q ≤ q := by
          have := Nat.div_add_mod q (p % q)
          have h5 : 1 ≤ q / (p % q) := (Nat.one_le_div_iff (by omega)).mpr (by omega)
          have h6 : p % q ≤ (p % q) * (q / (p % q)) := Nat.le_mul_of_pos_right _ (by omega)
          omega
        have h7 : 2 ^ (k + 1) = 2 * 2 ^ k := by rw [Nat.pow_succ]; omega
        omega
theorem w_gc100 {p q : Nat} (h : q ≤ 720) : w_gc 721 p q = w_gc 100 p q := by
  rw [show 721 = 2 * 10 + 1 + 700 from rfl, show 100 = 2 * 10 + 1 + 79 from rfl, w_gcS 10 p q 700 (by omega), w_gcS 10 p q 79 (by omega)]
theorem w_gcP : ∀ (f p q : Nat), 0 < q → 0 < w_gc (f + 1) p q ∧ w_gc (f + 1) p q ≤ q := by
  intro f
  induction f with
  | zero =>
    intro p q h
    unfold w_gc
    rw [if_neg (by omega)]
    exact ⟨h, Nat.le_refl _⟩
  | succ f ih =>
    intro p q h
    rw [show w_gc (f + 1 + 1) p q = if q = 0 then p else w_gc (f + 1) q (p % q) from rfl, if_neg (by omega)]
    have h1 : p % q < q := Nat.mod_lt _ h
    by_cases z : p % q = 0
    · rw [z]
      show 0 < (if 0 = 0 then q else w_gc f 0 (q % 0)) ∧ (if 0 = 0 then q else w_gc f 0 (q % 0)) ≤ q
      rw [if_pos rfl]
      exact ⟨h, Nat.le_refl _⟩
    · have := ih q (p % q) (by omega)
      omega
/-- the two sums whose difference is the share, over sets from s on; A: all of a set -/
def w_sh (A : Nat → Nat) (ot j M : Nat) (c s : Nat) (x : Nat × Nat) : Nat × Nat := q_it (fun s x => if q_an s ot = 0 then (x.1 + w_od (w_ct s) * w_od (M - 1 - w_ct s) * A (s ||| 2 ^ j), x.2 + w_od (w_ct s) * w_od (M - 1 - w_ct s) * A s) else x) c s x
/-- an int that is a difference of numbers: its size and sign -/
theorem w_dif {p q : Nat} (hp : p < 2 ^ 30) (hq : q < 2 ^ 30) : (q ≤ p → nI p - nI q = nI (p - q)) ∧ (p < q → nI p - nI q < 0 ∧ (0 : Int32) - (nI p - nI q) = nI (q - p) ∧ -(nI p - nI q) = nI (q - p)) := by
  constructor
  · intro h
    obtain ⟨k, rfl⟩ : ∃ k, p = q + k := ⟨p - q, by omega⟩
    rw [q_pa, Nat.add_sub_cancel_left]
    exact q_sub1 _ _
  · intro h
    obtain ⟨k, rfl⟩ : ∃ k, q = p + k := ⟨q - p, by omega⟩
    rw [Nat.add_sub_cancel_left]
    have e : nI p - nI (p + k) = -nI k := by
      rw [q_pa, Int32.sub_eq_add_neg, Int32.neg_add, Int32.sub_eq_add_neg, ← Int32.add_assoc, Int32.add_right_neg, Int32.zero_add]
    have hk : (-nI k).toInt = -(k : Int) := by
      rw [Int32.toInt_neg, nI_toInt (by omega)]
      exact Int.bmod_eq_of_le (by omega) (by omega)
    rw [e]
    refine ⟨?_, ?_, Int32.neg_neg⟩
    · rw [fa_lt, hk, q_t0]; omega
    · rw [Int32.zero_sub, Int32.neg_neg]
theorem w_ringI (p q u t1 t2 : Nat) : (nI p - nI q) + nI u * (nI t1 - nI t2) = nI (p + u * t1) - nI (q + u * t2) := by
  rw [q_pa, q_pa, q_pm, q_pm, Int32.mul_sub]
  rw [Int32.sub_eq_add_neg, Int32.sub_eq_add_neg, Int32.sub_eq_add_neg, Int32.neg_add, Int32.sub_eq_add_neg]
  rw [Int32.add_assoc, Int32.add_assoc]
  congr 1
  rw [← Int32.add_assoc, Int32.add_comm (-nI q), Int32.add_assoc]
theorem w_ct_or {s j : Nat} (h : s.testBit j = false) : True := trivial
/-- a set without one who sits has fewer than sit -/
theorem w_ctlt {s m j : Nat} (hj : j < 6) (hm : m.testBit j = true) (hs : ∀ i, s.testBit i = true → m.testBit i = true) (hsj : s.testBit j = false) : w_ct s + 1 ≤ w_ct m := by
  have hle : ∀ i, (s.testBit i).toNat ≤ (m.testBit i).toNat := fun i => by
    cases h1 : s.testBit i with
    | false => exact Nat.zero_le _
    | true => rw [hs i h1]; exact Nat.le_refl _
  have e0 := hle 0
  have e1 := hle 1
  have e2 := hle 2
  have e3 := hle 3
  have e4 := hle 4
  have e5 := hle 5
  have hz : (s.testBit j).toNat + 1 ≤ (m.testBit j).toNat := by rw [hsj, hm]; decide
  unfold w_ct
  match j, hj, hz with
  | 0, _, hz => omega
  | 1, _, hz => omega
  | 2, _, hz => omega
  | 3, _, hz => omega
  | 4, _, hz => omega
  | 5, _, hz => omega
  | j + 6, hj, _ => omega
theorem w_Tal (a tx pl : Nat → Int32) (m : Nat) {L : Nat} (hL : L ≤ 10) : q_al a tx pl m L = nI (q_al a tx pl m L).toNatClampNeg ∧ (q_al a tx pl m L).toNatClampNeg ≤ 990 := by
  obtain ⟨T, h1, h2, h3⟩ := w_alb a tx pl m L 0 0
  have h3' : q_al a tx pl m L = nI T := h3
  rw [h3', nI_clamp (by omega)]
  exact ⟨rfl, by omega⟩
/-- the step of the sums: a set within the others, or not -/
theorem w_bnd {M k : Nat} (hM : M ≤ 6) (hk : k + 1 ≤ M) : w_od k * w_od (M - 1 - k) ≤ 120 := w_od2 k (by omega) (M - 1 - k) (by omega) (by omega)
section
variable {c d n sl : Nat} {ln : Nat → Nat} {di : Nat → Nat → Int32} {dl : Nat → Nat → Int64} {dr : Nat → Nat → Option Nat} {Q : Option Value → q_H → Prop} {a tx pl : Nat → Int32} {P L : Nat}
theorem c_gcX (hg : q_Gr n ln dr) : ∀ (f i p q : Nat), i + f = 100 → p < 2 ^ 31 → q < 2 ^ 31 → Q (some (.int (nI (w_gc f p q)))) (n, sl, ln, di, dl, dr) → q_EX q_KD d 94 7 [.retAddr 0, .retAddr 0, .int (nI p), .int (nI q), .int (nI i), .retAddr 0] [] (n, sl, ln, di, dl, dr) Q := by
  intro f
  induction f with
  | zero =>
    intro i p q hi hp hq k
    have : i = 100 := by omega
    subst this
    exact g94_7 hg (fun _ => k) (fun w => absurd w (by decide)) (fun w => absurd w (by decide)) (fun w => absurd w (by decide))
  | succ f ih =>
    intro i p q hi hp hq k
    unfold w_gc at k
    refine g94_7 hg (fun w => absurd ((nI_leI (a := 100) (by decide) (by omega)).mp w) (by omega)) (fun _ w => ?_) (fun _ w => w) (fun _ w => ?_)
    · have := (nI_eq (b := 0) hq (by decide)).mp w
      rwa [if_pos this] at k
    · have hq0 : ¬ q = 0 := fun z => w (by rw [z]; rfl)
      rw [if_neg hq0] at k
      have hr : p % q < q := Nat.mod_lt _ (by omega)
      rw [pk_rem hp (by omega) hq, nI_1]
      exact ih (i + 1) q (p % q) (by omega) hq (by omega) k
theorem c_gcM (hg : q_Gr n ln dr) : ∀ (f p q : Nat), q < f → p < 2 ^ 31 → q < 2 ^ 31 → Q (some (.int (nI (w_gc f p q)))) (n, sl, ln, di, dl, dr) → q_EX q_KD d 194 13 [.retAddr 0, .retAddr 0, .int (nI p), .int (nI q), .retAddr 0] [] (n, sl, ln, di, dl, dr) Q := by
  intro f
  induction f with
  | zero => intro p q h; omega
  | succ f ih =>
    intro p q h hp hq k
    unfold w_gc at k
    refine g194_13 hg (fun w => ?_) (fun w => w) (fun w => ?_)
    · have := (nI_eq (b := 0) hq (by decide)).mp w
      rwa [if_pos this] at k
    · have hq0 : ¬ q = 0 := fun z => w (by rw [z]; rfl)
      rw [if_neg hq0] at k
      have hr : p % q < q := Nat.mod_lt _ (by omega)
      rw [pk_rem hp (by omega) hq]
      exact ih q (p % q) (by omega) hq (by omega) k
theorem c_ords {k : Nat} (hk : k < 7) (hg : q_Gr n ln dr) (q : Q (some (.int (nI (w_od k)))) (n, sl, ln, di, dl, dr)) : q_EX q_KD d 193 0 [.int (nI k), .retAddr 0, .retAddr 0] [] (n, sl, ln, di, dl, dr) Q := by
  have lp : ∀ (c i : Nat) (v : Int32), 2 ≤ i → (i + c = k + 1 ∨ (c = 0 ∧ k < i)) → i ≤ 8 → Q (some (.int (q_it (fun i v => v * nI i) c i v))) (n, sl, ln, di, dl, dr) → q_EX q_KD d 193 4 [.int (nI k), .int v, .int (nI i)] [] (n, sl, ln, di, dl, dr) Q := by
    intro c
    induction c with
    | zero =>
      intro i v h2 h3 h8 kk
      exact g193_4 hg (fun _ => kk) (fun w => absurd ((nI_leI (by omega) (by omega)).mp w) (by omega))
    | succ c ih =>
      intro i v h2 h3 h8 kk
      refine g193_4 hg (fun w => absurd ((nI_ltI (by omega) (by omega)).mp w) (by omega)) (fun _ => ?_)
      rw [nI_1]
      exact ih (i + 1) _ (by omega) (by omega) (by omega) kk
  refine g193_0 hg (lp (k - 1) 2 1 (by decide) (by omega) (by decide) ?_)
  rw [w_odM k hk]
  exact q
/-- the class's sums -/
theorem c_sh28 {j M : Nat} (hj : j < 6) (hM : M = w_ct (w_si (q_pl a))) (hsit : (w_si (q_pl a)).testBit j = true) (h2 : ∀ i, i < 7 → di 2 i = q_ord.getD i 0) (hg : q_Gr n ln dr) : ∀ (c s : Nat) (x : Nat × Nat) (e : Nat → Nat → Int32), s + c = 64 → x.1 ≤ 118800 * s → x.2 ≤ 118800 * s → w_H n ln (q_F w_S di e) dr a tx P L →
    (∀ e', w_H n ln (q_F w_S di e') dr a tx P L → q_EX q_KD (d + 7) 93 28 [.ref 60, .int (nI j), .retAddr 0, .int (nI M), .int (nI (q_an (w_si (q_pl a)) (2 ^ j))), .int (nI (w_sh (fun m => (q_al a tx (q_pl a) (q_an m (q_sm a)) L).toNatClampNeg) (q_an (w_si (q_pl a)) (2 ^ j)) j M c s x).1 - nI (w_sh (fun m => (q_al a tx (q_pl a) (q_an m (q_sm a)) L).toNatClampNeg) (q_an (w_si (q_pl a)) (2 ^ j)) j M c s x).2), .int (nI 64), .retAddr 0, .retAddr 0] [] (n, sl, ln, q_F w_S di e', dl, dr) Q) →
    q_EX q_KD (d + 7) 93 28 [.ref 60, .int (nI j), .retAddr 0, .int (nI M), .int (nI (q_an (w_si (q_pl a)) (2 ^ j))), .int (nI x.1 - nI x.2), .int (nI s), .retAddr 0, .retAddr 0] [] (n, sl, ln, q_F w_S di e, dl, dr) Q := by
  have hM6 : M ≤ 6 := by rw [hM]; exact w_ct6 _
  intro c
  induction c with
  | zero =>
    intro s x e hs hx1 hx2 hH k
    have : s = 64 := by omega
    subst this
    exact k e hH
  | succ c ih =>
    intro s x e hs hx1 hx2 hH k
    have hL := hH.1.2.2.1
    have est : w_sh (fun m => (q_al a tx (q_pl a) (q_an m (q_sm a)) L).toNatClampNeg) (q_an (w_si (q_pl a)) (2 ^ j)) j M (c + 1) s x = w_sh (fun m => (q_al a tx (q_pl a) (q_an m (q_sm a)) L).toNatClampNeg) (q_an (w_si (q_pl a)) (2 ^ j)) j M c (s + 1) (if q_an s (q_an (w_si (q_pl a)) (2 ^ j)) = 0 then (x.1 + w_od (w_ct s) * w_od (M - 1 - w_ct s) * (q_al a tx (q_pl a) (q_an (s ||| 2 ^ j) (q_sm a)) L).toNatClampNeg, x.2 + w_od (w_ct s) * w_od (M - 1 - w_ct s) * (q_al a tx (q_pl a) (q_an s (q_sm a)) L).toNatClampNeg) else x) := rfl
    rw [est] at k
    refine g93_28 hg (fun w => absurd ((nI_ltI (a := 63) (by decide) (by omega)).mp w) (by omega)) (fun w => absurd ((nI_ltI (a := 63) (by decide) (by omega)).mp w) (by omega)) (fun _ => c_bc hg ?_)
    rw [q_bc10 s (by omega), w_bct s (by omega)]
    have skip : ¬ q_an s (q_an (w_si (q_pl a)) (2 ^ j)) = 0 → q_EX q_KD (d + 7) 93 28 [.ref 60, .int (nI j), .retAddr 0, .int (nI M), .int (nI (q_an (w_si (q_pl a)) (2 ^ j))), .int (nI x.1 - nI x.2), .int (nI s + 1), .retAddr 0, .retAddr 0] [] (n, sl, ln, q_F w_S di e, dl, dr) Q := by
      intro hn
      rw [if_neg hn] at k
      rw [nI_1]
      exact ih (s + 1) x e (by omega) (by omega) (by omega) hH k
    by_cases hin : q_an s (q_an (w_si (q_pl a)) (2 ^ j)) = 0
    · have hsub := w_sub hin
      have hsj : s.testBit j = false := by
        cases hb : s.testBit j with
        | false => rfl
        | true =>
          have := hsub j hb
          rw [q_anT, Nat.testBit_two_pow, decide_eq_true rfl] at this
          rw [hsit] at this
          exact absurd this (by decide)
      have hlt : w_ct s + 1 ≤ M := by
        rw [hM]
        refine w_ctlt hj hsit (fun i hi => ?_) hsj
        have := hsub i hi
        rw [q_anT, Bool.and_eq_true] at this
        exact this.1
      have eb : (nI M - 1) - nI (w_ct s) = nI (M - 1 - w_ct s) := by
        obtain ⟨k', rfl⟩ : ∃ k', M = w_ct s + k' + 1 := ⟨M - 1 - w_ct s, by omega⟩
        rw [nI_pred, q_pa, show w_ct s + k' + 1 - 1 - w_ct s = k' by omega]
        exact q_sub1 _ _
      refine g93_43 hg (fun w => absurd ((w_an0 (by omega)).mpr hin) w) (fun _ w => absurd w (by rw [eb]; exact nI_pos (by omega))) (fun _ _ => c_bc hg ?_)
      rw [q_bc10 s (by omega), w_bct s (by omega), eb]
      refine g93_69 hg (vp_in_nI (by omega) (by decide)) (vp_in_nI (by omega) (by decide)) ?_
      rw [nI_clamp (show w_ct s < 2 ^ 31 by omega), nI_clamp (show M - 1 - w_ct s < 2 ^ 31 by omega), show q_F w_S di e 2 (w_ct s) = nI (w_od (w_ct s)) from (h2 _ (by omega)).trans (w_odI _ (by omega)), show q_F w_S di e 2 (M - 1 - w_ct s) = nI (w_od (M - 1 - w_ct s)) from (h2 _ (by omega)).trans (w_odI _ (by omega)), q_sh (show j < 31 by omega), fa_or, ← q_pm]
      refine c_sumOf (d := d) hH hg (fun e1 hH1 => g93_93 hg ?_)
      rw [q_FF] at hH1 ⊢
      refine c_sumOf (d := d) hH1 hg (fun e2 hH2 => g93_99 hg ?_)
      rw [q_FF] at hH2 ⊢
      obtain ⟨t1, t1b⟩ := w_Tal a tx (q_pl a) (q_an (s ||| 2 ^ j) (q_sm a)) hL
      obtain ⟨t2, t2b⟩ := w_Tal a tx (q_pl a) (q_an s (q_sm a)) hL
      rw [t1, t2, w_ringI, nI_1]
      rw [if_pos hin] at k
      have hw := w_bnd hM6 hlt
      have g1 : w_od (w_ct s) * w_od (M - 1 - w_ct s) * (q_al a tx (q_pl a) (q_an (s ||| 2 ^ j) (q_sm a)) L).toNatClampNeg ≤ 120 * 990 := Nat.mul_le_mul hw t1b
      have g2 : w_od (w_ct s) * w_od (M - 1 - w_ct s) * (q_al a tx (q_pl a) (q_an s (q_sm a)) L).toNatClampNeg ≤ 120 * 990 := Nat.mul_le_mul hw t2b
      obtain ⟨y1, hy1⟩ : ∃ y1, y1 = x.1 + w_od (w_ct s) * w_od (M - 1 - w_ct s) * (q_al a tx (q_pl a) (q_an (s ||| 2 ^ j) (q_sm a)) L).toNatClampNeg := ⟨_, rfl⟩
      obtain ⟨y2, hy2⟩ : ∃ y2, y2 = x.2 + w_od (w_ct s) * w_od (M - 1 - w_ct s) * (q_al a tx (q_pl a) (q_an s (q_sm a)) L).toNatClampNeg := ⟨_, rfl⟩
      rw [← hy1, ← hy2] at k ⊢
      exact ih (s + 1) (y1, y2) e2 (by omega) (by show y1 ≤ _; omega) (by show y2 ≤ _; omega) hH2 k
    · exact g93_43 hg (fun _ => skip hin) (fun w => absurd ((w_an0 (by omega)).mp w) hin) (fun w => absurd ((w_an0 (by omega)).mp w) hin)
end
