section
variable {d n sl : Nat} {ln : Nat → Nat} {di : Nat → Nat → Int32} {dl : Nat → Nat → Int64} {dr : Nat → Nat → Option Nat} {Q : Option Value → q_H → Prop} {N : Nat} {bt : Nat → Int32} {p q : Nat} {c : Int32}
theorem c_nameM (hN : N ≤ 300) (h4 : di 67 4 = nI N) (hb : ∀ i, i < N → di 71 i = bt i) (h : t_ms (di 67) (dl 67 11) N bt p c q) (hg : q_Gr n ln dr) (k1 : ∀ nm, nm < 14 → c = nI (200 + nm) → Q (some (.int (nI nm))) (n, sl, ln, di, dl, dr)) (k0 : (∀ nm, nm < 14 → ¬ c = nI (200 + nm)) → Q (some (.int (-1))) (n, sl, ln, di, dl, dr)) : q_EX q_KD (d + 3) 149 0 [.ref 67] [] (n, sl, ln, di, dl, dr) Q := by
  by_cases h2 : di 67 9 = 2
  · have hw : ∀ i, i < 25 → ¬ i = 7 → (lg_cmp (dl 67 11) (t_kw i) = 0 ↔ c = nI (200 + i)) := fun i hi h7 => by
      rw [w_cmp0]
      exact ⟨fun e => (t_msw h hi h7).mp ⟨h2, e⟩, fun e => ((t_msw h hi h7).mpr e).2⟩
    have e13 : ((((((99 : Int32).toInt64 <<< ((8 : Int32).toInt64 &&& 63)) ||| (111 : Int32).toInt64) <<< ((8 : Int32).toInt64 &&& 63)) ||| (117 : Int32).toInt64) <<< ((32 : Int32).toInt64 &&& 63)) ||| (((((((103 : Int32).toInt64 <<< ((8 : Int32).toInt64 &&& 63)) ||| (104 : Int32).toInt64) <<< ((8 : Int32).toInt64 &&& 63)) ||| (101 : Int32).toInt64) <<< ((8 : Int32).toInt64 &&& 63)) ||| (100 : Int32).toInt64) = t_kw 13 := by decide +kernel
    refine g149_0 hg (fun _ => c_k0 (d := d + 2) hg (g149_23 hg (fun n0 => c_k1 (d := d + 1) hg (g149_46 hg (fun n1 => c_k2 (d := d + 2) hg (g149_65 hg (fun n2 => c_k3 (d := d + 1) hg (g149_86 hg (fun n3 => c_k4 (d := d + 1) hg (g149_109 hg (fun n4 => c_k5 (d := d + 1) hg (g149_130 hg (fun n5 => c_k6 (d := d + 2) hg (g149_149 hg (fun n6 => c_lgh (d := d + 1) hN h4 hb h h2 hg (fun e => g149_160 hg (fun w => absurd w (by decide)) (fun _ => k1 7 (by decide) e)) (fun n7 => g149_160 hg (fun _ => c_k8 (d := d) hg (g149_185 hg (fun n8 => c_k9 (d := d) hg (g149_211 hg (fun n9 => c_k10 (d := d + 1) hg (g149_233 hg (fun n10 => c_k11 (d := d) hg (g149_259 hg (fun n11 => c_k12 (d := d + 1) hg (g149_283 hg (fun n12 => g135_0 hg (g149_305 hg (g137_0 hg (g135_0 hg (g137_6 hg (g149_319 hg (fun n13 => k0 (fun nm hnm e => ?_)) (fun e => k1 13 (by decide) ((hw 13 (by decide) (by decide)).mp (by rw [← e13]; exact e))))))))) (fun e => k1 12 (by decide) ((hw 12 (by decide) (by decide)).mp e)))) (fun e => k1 11 (by decide) ((hw 11 (by decide) (by decide)).mp e)))) (fun e => k1 10 (by decide) ((hw 10 (by decide) (by decide)).mp e)))) (fun e => k1 9 (by decide) ((hw 9 (by decide) (by decide)).mp e)))) (fun e => k1 8 (by decide) ((hw 8 (by decide) (by decide)).mp e)))) (fun w => absurd rfl w))) (fun e => k1 6 (by decide) ((hw 6 (by decide) (by decide)).mp e)))) (fun e => k1 5 (by decide) ((hw 5 (by decide) (by decide)).mp e)))) (fun e => k1 4 (by decide) ((hw 4 (by decide) (by decide)).mp e)))) (fun e => k1 3 (by decide) ((hw 3 (by decide) (by decide)).mp e)))) (fun e => k1 2 (by decide) ((hw 2 (by decide) (by decide)).mp e)))) (fun e => k1 1 (by decide) ((hw 1 (by decide) (by decide)).mp e)))) (fun e => k1 0 (by decide) ((hw 0 (by decide) (by decide)).mp e)))) (fun w => absurd h2 w)
    match nm, hnm, e with
    | 0, _, e => exact n0 ((hw 0 (by decide) (by decide)).mpr e)
    | 1, _, e => exact n1 ((hw 1 (by decide) (by decide)).mpr e)
    | 2, _, e => exact n2 ((hw 2 (by decide) (by decide)).mpr e)
    | 3, _, e => exact n3 ((hw 3 (by decide) (by decide)).mpr e)
    | 4, _, e => exact n4 ((hw 4 (by decide) (by decide)).mpr e)
    | 5, _, e => exact n5 ((hw 5 (by decide) (by decide)).mpr e)
    | 6, _, e => exact n6 ((hw 6 (by decide) (by decide)).mpr e)
    | 7, _, e => exact n7 e
    | 8, _, e => exact n8 ((hw 8 (by decide) (by decide)).mpr e)
    | 9, _, e => exact n9 ((hw 9 (by decide) (by decide)).mpr e)
    | 10, _, e => exact n10 ((hw 10 (by decide) (by decide)).mpr e)
    | 11, _, e => exact n11 ((hw 11 (by decide) (by decide)).mpr e)
    | 12, _, e => exact n12 ((hw 12 (by decide) (by decide)).mpr e)
    | 13, _, e => exact n13 (by rw [e13]; exact (hw 13 (by decide) (by decide)).mpr e)
  · refine g149_0 hg (fun w => absurd w h2) (fun _ => k0 (fun nm hnm e => h2 ?_))
    have hcl := t_cl h
    unfold t_isg at hcl
    rw [e, nI_toInt (by omega)] at hcl
    rw [fa_eq, show (2 : Int32).toInt = 2 by decide]
    omega
/-- the names that a law may not use -/
theorem c_bar {L nm : Nat} (hL : L < 3) (hnm : nm < 14) (h20 : di 67 20 = nI L) (hg : q_Gr n ln dr) (k1 : q_nmok L nm = false → Q (some (.int 1)) (n, sl, ln, di, dl, dr)) (k0 : q_nmok L nm = true → Q (some (.int 0)) (n, sl, ln, di, dl, dr)) : q_EX q_KD (d + 1) 151 0 [.ref 67, .int (nI nm)] [] (n, sl, ln, di, dl, dr) Q := by
  have n3 : nI nm = 3 ↔ nm = 3 := nI_eq (b := 3) (by omega) (by decide)
  have n4 : nI nm = 4 ↔ nm = 4 := nI_eq (b := 4) (by omega) (by decide)
  have hs : L = 0 ∨ L = 1 ∨ L = 2 := by omega
  have nz : ∀ b, q_nmok L nm = b → (b = true → Q (some (.int 0)) (n, sl, ln, di, dl, dr)) ∧ (b = false → Q (some (.int 1)) (n, sl, ln, di, dl, dr)) := fun b e => ⟨fun z => k0 (by rw [e, z]), fun z => k1 (by rw [e, z])⟩
  rcases hs with e | e | e
  · subst e
    have ho : q_nmok 0 nm = Nat.ble nm 6 := rfl
    refine g151_0 hg (fun w => absurd h20 w) (fun w => absurd h20 w) (fun w => absurd h20 w) (fun w => absurd h20 w) (fun _ w => (nz _ ho).1 (Nat.ble_eq_true_of_le ((nI_leI (a := nm) (b := 6) (by omega) (by decide)).mp w))) (fun _ w => (nz _ ho).2 ?_)
    have := (nI_ltI (a := 6) (b := nm) (by decide) (by omega)).mp w
    cases hb : Nat.ble nm 6 with
    | false => rfl
    | true => have := Nat.le_of_ble_eq_true hb; omega
  · subst e
    have ne0 : ¬ di 67 20 = 0 := by rw [h20]; decide
    have ho : q_nmok 1 nm = ((Nat.beq nm 3 || Nat.beq nm 4) || (Nat.ble 7 nm && Nat.ble nm 9)) := rfl
    refine g151_0 hg (fun _ w => absurd h20 w) (fun _ _ w => (nz _ ho).1 (by rw [n3.mp w]; rfl)) (fun _ _ _ w => (nz _ ho).1 (by rw [n4.mp w]; rfl)) (fun _ _ w3 w4 => c_isIn hg (g151_45 hg (fun w => (nz _ ho).1 ?_) (fun w => (nz _ ho).2 ?_))) (fun w => absurd w ne0) (fun w => absurd w ne0)
    · have w' := q_bp.mp w
      have a1 := (nI_leI (a := 7) (b := nm) (by decide) (by omega)).mp w'.1
      have a2 := (nI_leI (a := nm) (b := 9) (by omega) (by decide)).mp w'.2
      rw [Nat.ble_eq_true_of_le a1, Nat.ble_eq_true_of_le a2, Bool.and_true, Bool.or_true]
    · have w' := q_bn.mp w
      rw [Bool.or_eq_false_iff, Bool.or_eq_false_iff]
      refine ⟨⟨?_, ?_⟩, ?_⟩
      · cases hb : Nat.beq nm 3 with
        | false => rfl
        | true => exact absurd (n3.mpr (Nat.eq_of_beq_eq_true hb)) w3
      · cases hb : Nat.beq nm 4 with
        | false => rfl
        | true => exact absurd (n4.mpr (Nat.eq_of_beq_eq_true hb)) w4
      · cases hb : (Nat.ble 7 nm && Nat.ble nm 9) with
        | false => rfl
        | true =>
          rw [Bool.and_eq_true] at hb
          exact absurd ⟨(nI_leI (a := 7) (b := nm) (by decide) (by omega)).mpr (Nat.le_of_ble_eq_true hb.1), (nI_leI (a := nm) (b := 9) (by omega) (by decide)).mpr (Nat.le_of_ble_eq_true hb.2)⟩ w'
  · subst e
    have ne0 : ¬ di 67 20 = 0 := by rw [h20]; decide
    have ne1 : ¬ di 67 20 = 1 := by rw [h20]; decide
    have ho : q_nmok 2 nm = (Nat.ble nm 2 || (Nat.ble 10 nm && Nat.ble nm 13)) := rfl
    refine g151_0 hg (fun _ _ => c_isIn hg (g151_63 hg q_bnar ?_)) (fun _ w => absurd w ne1) (fun _ w => absurd w ne1) (fun _ w => absurd w ne1) (fun w => absurd w ne0) (fun w => absurd w ne0)
    by_cases z : 3 ≤ nm ∧ nm ≤ 9
    · rw [q_b1 (show (3 : Int32) ≤ nI nm ∧ nI nm ≤ 9 from ⟨(nI_leI (a := 3) (b := nm) (by decide) (by omega)).mpr z.1, (nI_leI (a := nm) (b := 9) (by omega) (by decide)).mpr z.2⟩)]
      refine (nz _ ho).2 ?_
      rw [Bool.or_eq_false_iff]
      constructor
      · cases hb : Nat.ble nm 2 with
        | false => rfl
        | true => have := Nat.le_of_ble_eq_true hb; omega
      · cases hb : (Nat.ble 10 nm && Nat.ble nm 13) with
        | false => rfl
        | true =>
          rw [Bool.and_eq_true] at hb
          have := Nat.le_of_ble_eq_true hb.1; omega
    · rw [q_b0 (show ¬ ((3 : Int32) ≤ nI nm ∧ nI nm ≤ 9) from fun y => z ⟨(nI_leI (a := 3) (b := nm) (by decide) (by omega)).mp y.1, (nI_leI (a := nm) (b := 9) (by omega) (by decide)).mp y.2⟩)]
      refine (nz _ ho).1 ?_
      rcases Nat.lt_or_ge nm 3 with y | y
      · rw [Nat.ble_eq_true_of_le (show nm ≤ 2 by omega), Bool.true_or]
      · rw [Nat.ble_eq_true_of_le (show 10 ≤ nm by omega), Nat.ble_eq_true_of_le (show nm ≤ 13 by omega), Bool.and_true, Bool.or_true]
end
/-- relations: the model's code -/
def t_rc (c : Int32) : Int32 := if c = 60 then 10 else if c = 128 then 11 else if c = 62 then 12 else if c = 129 then 13 else if c = 61 then 14 else if c = 35 then 15 else -1
section
variable {d n sl : Nat} {ln : Nat → Nat} {di : Nat → Nat → Int32} {dl : Nat → Nat → Int64} {dr : Nat → Nat → Option Nat} {Q : Option Value → q_H → Prop} {N : Nat} {bt : Nat → Int32} {p q : Nat} {c : Int32}
/-- a sign token is the same on both sides -/
theorem t_sgq (h : t_ms (di 67) (dl 67 11) N bt p c q) : (di 67 9 = 60 ↔ c = 60) ∧ (di 67 9 = 62 ↔ c = 62) ∧ (di 67 9 = 61 ↔ c = 61) ∧ (di 67 9 = 35 ↔ c = 35) ∧ (di 67 9 = 43 ↔ c = 43) ∧ (di 67 9 = 45 ↔ c = 45) ∧ (di 67 9 = 42 ↔ c = 42) ∧ (di 67 9 = 47 ↔ c = 47) ∧ (di 67 9 = 40 ↔ c = 40) ∧ (di 67 9 = 41 ↔ c = 41) ∧ (di 67 9 = 59 ↔ c = 59) ∧ (di 67 9 = 4 ↔ c = 128) ∧ (di 67 9 = 5 ↔ c = 129) ∧ (di 67 9 = 0 ↔ c = 131) := by
  have hcl := t_cl h
  unfold t_isg at hcl
  have l : (60 : Int32).toInt = 60 ∧ (62 : Int32).toInt = 62 ∧ (61 : Int32).toInt = 61 ∧ (35 : Int32).toInt = 35 ∧ (43 : Int32).toInt = 43 ∧ (45 : Int32).toInt = 45 ∧ (42 : Int32).toInt = 42 ∧ (47 : Int32).toInt = 47 ∧ (40 : Int32).toInt = 40 ∧ (41 : Int32).toInt = 41 ∧ (59 : Int32).toInt = 59 ∧ (4 : Int32).toInt = 4 ∧ (128 : Int32).toInt = 128 ∧ (5 : Int32).toInt = 5 ∧ (129 : Int32).toInt = 129 ∧ (0 : Int32).toInt = 0 ∧ (131 : Int32).toInt = 131 := by decide
  obtain ⟨l1, l2, l3, l4, l5, l6, l7, l8, l9, l10, l11, l12, l13, l14, l15, l16, l17⟩ := l
  simp only [fa_eq, l1, l2, l3, l4, l5, l6, l7, l8, l9, l10, l11, l12, l13, l14, l15, l16, l17]
  refine ⟨?_, ?_, ?_, ?_, ?_, ?_, ?_, ?_, ?_, ?_, ?_, ?_, ?_, ?_⟩ <;> omega
theorem c_cmpM (h : t_ms (di 67) (dl 67 11) N bt p c q) (hg : q_Gr n ln dr) (kk : Q (some (.int (t_rc c))) (n, sl, ln, di, dl, dr)) : q_EX q_KD d 152 0 [.ref 67] [] (n, sl, ln, di, dl, dr) Q := by
  obtain ⟨s60, s62, s61, s35, _, _, _, _, _, _, _, s4, s5, _⟩ := t_sgq h
  unfold t_rc at kk
  refine p152_0 hg (fun a b e f g k => ?_) (fun a b e f g k => ?_) (fun a b e f g => ?_) (fun a b e f => ?_) (fun a b e => ?_) (fun a b => ?_) (fun a => ?_)
  · rwa [if_neg (fun z => a (s60.mpr z)), if_neg (fun z => b (s4.mpr z)), if_neg (fun z => e (s62.mpr z)), if_neg (fun z => f (s5.mpr z)), if_neg (fun z => g (s61.mpr z)), if_neg (fun z => k (s35.mpr z))] at kk
  · rwa [if_neg (fun z => a (s60.mpr z)), if_neg (fun z => b (s4.mpr z)), if_neg (fun z => e (s62.mpr z)), if_neg (fun z => f (s5.mpr z)), if_neg (fun z => g (s61.mpr z)), if_pos (s35.mp k)] at kk
  · rwa [if_neg (fun z => a (s60.mpr z)), if_neg (fun z => b (s4.mpr z)), if_neg (fun z => e (s62.mpr z)), if_neg (fun z => f (s5.mpr z)), if_pos (s61.mp g)] at kk
  · rwa [if_neg (fun z => a (s60.mpr z)), if_neg (fun z => b (s4.mpr z)), if_neg (fun z => e (s62.mpr z)), if_pos (s5.mp f)] at kk
  · rwa [if_neg (fun z => a (s60.mpr z)), if_neg (fun z => b (s4.mpr z)), if_pos (s62.mp e)] at kk
  · rwa [if_neg (fun z => a (s60.mpr z)), if_pos (s4.mp b)] at kk
  · rwa [if_pos (s60.mp a)] at kk
end
