/-! THE CLASS READS A CLAUSE -/
def t_cy (D : Nat → Nat → Int32) (tk : Nat → Int32) (bg : Nat → Nat) (C : Nat) : Prop := D 39 13 = 0 ∧ D 40 4 = nI C ∧ C ≤ 300 ∧ (∀ p, p ≤ C → D 42 p = tk p ∧ D 43 p = nI (bg p))
def t_nr (k : Nat) : Prop := ¬ k = 39 ∧ ¬ k = 44 ∧ ¬ k = 45 ∧ ¬ k = 46 ∧ ¬ k = 47 ∧ ¬ k = 48 ∧ ¬ k = 49
/-- a fault has been found; K clauses -/
def t_XD (H0 : Nat → Nat → Int32) (fl pl : Int32) (K : Nat) (E : Nat → Nat → Int32) : Prop := (∀ k, t_nr k → E k = H0 k) ∧ ¬ fl = 0 ∧ E 39 13 = fl ∧ E 39 14 = pl ∧ E 39 8 = 131 ∧ E 39 10 = nI K
theorem t_LVself {E : Nat → Nat → Int32} {tk : Nat → Int32} {j W : Nat} {A : Int32} (h7 : E 39 7 = nI j) (h8 : E 39 8 = tk j) (h9 : E 39 9 = nI W) (h12 : E 39 12 = A) : t_LV E tk j W A (E 44) = E := by
  funext k
  unfold t_LV
  by_cases h : k = 44
  · subst h; exact q_upE _ _ _
  · rw [q_upN _ _ h]
    by_cases g : k = 39
    · subst g
      rw [q_upE]
      funext i
      unfold t_39
      by_cases e12 : i = 12
      · subst e12; rw [q_upE]; exact h12.symm
      · rw [q_upN _ _ e12]
        by_cases e9 : i = 9
        · subst e9; rw [q_upE]; exact h9.symm
        · rw [q_upN _ _ e9]
          by_cases e8 : i = 8
          · subst e8; rw [q_upE]; exact h8.symm
          · rw [q_upN _ _ e8]
            by_cases e7 : i = 7
            · subst e7; rw [q_upE]; exact h7.symm
            · rw [q_upN _ _ e7]
    · rw [q_upN _ _ g]
theorem t_v200 : ∀ v, v < 200 → nI v - 200 < 14 ∧ nI v - 300 < 0 := by decide +kernel
theorem t_s200 {v : Nat} (h : 200 ≤ v) : nI v - 200 = nI (v - 200) := by
  obtain ⟨w, rfl⟩ : ∃ w, v = w + 200 := ⟨v - 200, by omega⟩
  rw [← nI_add, show (200 : Int32) = nI 200 from rfl, Int32.add_sub_cancel, Nat.add_sub_cancel]
theorem t_s14 {v : Nat} : nI (v + 14) - 14 = nI v := by
  rw [← nI_add, show (14 : Int32) = nI 14 from rfl, Int32.add_sub_cancel]
section
variable {d n sl : Nat} {ln : Nat → Nat} {dl : Nat → Nat → Int64} {dr : Nat → Nat → Option Nat} {Q : Option Value → q_H → Prop} {tk : Nat → Int32} {bg : Nat → Nat} {L C : Nat} {D H0 : Nat → Nat → Int32} {j W K : Nat} {A : Int32} {r : Nat → Int32} {fl pl : Int32} {E : Nat → Nat → Int32}
theorem c_advY (hx : t_cy D tk bg C) (hj : j < C) (hg : q_Gr n ln dr) (kk : Q none (n, sl, ln, t_LV D tk (j + 1) W A r, dl, dr)) : q_EX q_KD d 41 0 [.ref 39] [] (n, sl, ln, t_LV D tk j W A r, dl, dr) Q := by
  obtain ⟨x1, x2, x3, x4⟩ := hx
  have e13 : t_LV D tk j W A r 39 13 = 0 := x1
  have e4 : t_LV D tk j W A r 40 4 = nI C := x2
  have e7 : t_LV D tk j W A r 39 7 = nI j := rfl
  refine g41_0 hg (fun w => absurd e13 w) (fun _ w => absurd w (by rw [e4, e7]; exact nI_ge hj (by omega))) (fun _ _ => by rw [e7, nI_1]; exact vp_in_nI (by omega) (by decide)) (fun _ _ => ?_)
  rw [e7, nI_1, nI_clamp (show j + 1 < 2 ^ 31 by omega)]
  have e42 : t_LV D tk j W A r 42 (j + 1) = tk (j + 1) := (x4 (j + 1) (by omega)).1
  rw [e42]
  unfold t_LV
  rw [t_LV_u, t_LV_u, t_39_7, t_39_8]
  exact kk
theorem c_refY {x : Int32} (hx : t_cy D tk bg C) (hx0 : ¬ x = 0) (hj : j ≤ C) (hW : W ≤ 300) (hg : q_Gr n ln dr) (kk : ∀ E, t_DD D x (nI (bg j)) E → Q none (n, sl, ln, E, dl, dr)) : q_EX q_KD d 40 0 [.ref 39, .int x] [] (n, sl, ln, t_LV D tk j W A r, dl, dr) Q := by
  obtain ⟨x1, x2, x3, x4⟩ := hx
  have e13 : t_LV D tk j W A r 39 13 = 0 := x1
  have e7 : t_LV D tk j W A r 39 7 = nI j := rfl
  refine g40_0 hg (fun w => absurd e13 w) (fun _ => by rw [e7]; exact vp_in_nI (by omega) (by decide)) (fun _ => ?_)
  rw [e7, nI_clamp (show j < 2 ^ 31 by omega)]
  have e43 : t_LV D tk j W A r 43 j = nI (bg j) := (x4 j hj).2
  rw [e43]
  refine kk _ ⟨fun k h1 h2 => ?_, hx0, rfl, rfl, rfl, ⟨W, hW, rfl⟩, rfl, rfl⟩
  rw [q_uR h1, q_uR h1, q_uR h1]
  unfold t_LV
  rw [q_upN _ _ h2, q_upN _ _ h1]
theorem c_expY {x : Int32} (hx : t_cy D tk bg C) (hj : j ≤ C) (hW : W ≤ 300) (hjC : tk j = x → j < C) (hg : q_Gr n ln dr) (k1 : tk j = x → Q none (n, sl, ln, t_LV D tk (j + 1) W A r, dl, dr)) (k0 : ¬ tk j = x → ∀ E, t_DD D 1 (nI (bg j)) E → Q none (n, sl, ln, E, dl, dr)) : q_EX q_KD (d + 1) 51 0 [.ref 39, .int x] [] (n, sl, ln, t_LV D tk j W A r, dl, dr) Q :=
  g51_0 hg (fun w => c_refY hx (by decide) hj hW hg (fun E h => g51_20 hg (k0 w E h))) (fun w => c_advY hx (hjC w) hg (g51_12 hg (k1 w)))
/-- a number up to a bound, as it is meant -/
theorem c_numY {M : Nat} (hx : t_cy D tk bg C) (htk : ∀ j, ∃ v, v ≤ 10300 ∧ tk j = nI v) (hM : M ≤ 9999) (hj : j ≤ C) (hC : tk C = 131) (hW : W ≤ 300) (hg : q_Gr n ln dr)
    (k1 : ∀ v, v ≤ M → tk j = nI (300 + v) → Q (some (.int (nI v))) (n, sl, ln, t_LV D tk (j + 1) W A r, dl, dr))
    (k2 : ∀ v, M < v → v ≤ 10000 → tk j = nI (300 + v) → ∀ E, t_DD D 2 (nI (bg j)) E → Q (some (.int 0)) (n, sl, ln, E, dl, dr))
    (k0 : ¬ 300 ≤ tk j → ∀ E, t_DD D 1 (nI (bg j)) E → Q (some (.int 0)) (n, sl, ln, E, dl, dr)) : q_EX q_KD (d + 1) 49 0 [.ref 39, .int (nI M), .retAddr 0] [] (n, sl, ln, t_LV D tk j W A r, dl, dr) Q := by
  have e8 : t_LV D tk j W A r 39 8 = tk j := rfl
  have hC3 := hx.2.2.1
  obtain ⟨u, u1, u2⟩ := htk j
  by_cases z : 300 ≤ u
  · obtain ⟨v, rfl⟩ : ∃ v, u = 300 + v := ⟨u - 300, by omega⟩
    have es : t_LV D tk j W A r 39 8 - 300 = nI v := by rw [e8, u2, show 300 + v = v + 300 by omega, ← nI_add, show (300 : Int32) = nI 300 from rfl, Int32.add_sub_cancel]
    have hjC : j < C := t_neC hC hj (by rw [u2]; exact fun q => absurd ((nI_eq (b := 131) (by omega) (by decide)).mp q) (by omega))
    refine g49_0 hg (fun _ w => ?_) (fun _ w => ?_) (fun w => absurd w (by rw [es]; exact nI_pos (by omega)))
    · rw [es] at w ⊢
      exact c_advY hx hjC hg (g49_36 hg (k1 v ((nI_leI (by omega) (by omega)).mp w) u2))
    · rw [es] at w
      exact c_refY hx (by decide) hj hW hg (fun E h => g49_30 hg (k2 v ((nI_ltI (by omega) (by omega)).mp w) (by omega) u2 E h))
  · have es : t_LV D tk j W A r 39 8 - 300 < 0 := by
      have : ∀ u, u < 300 → nI u - 300 < 0 := by decide +kernel
      rw [e8, u2]
      exact this u (by omega)
    have z' : ¬ 300 ≤ tk j := fun y => z (by rw [u2] at y; exact (nI_leI (a := 300) (by decide) (by omega)).mp y)
    exact g49_0 hg (fun w => absurd w (by rw [Int32.not_le]; exact es)) (fun w => absurd w (by rw [Int32.not_le]; exact es)) (fun _ => c_refY hx (by decide) hj hW hg (fun E h => g49_18 hg (k0 z' E h)))
/-! behind a fault -/
theorem t_XDu (h : t_XD H0 fl pl K E) {a i : Nat} {v : Int32} (ha : a = 44 ∨ a = 45 ∨ a = 46 ∨ a = 47 ∨ a = 48 ∨ a = 49) : t_XD H0 fl pl K (q_u E a i v) := by
  have n39 : ¬ (39 : Nat) = a := by omega
  refine ⟨fun k hk => ?_, h.2.1, ?_, ?_, ?_, ?_⟩
  · have : ¬ k = a := fun q => by
      obtain ⟨p1, p2, p3, p4, p5, p6, p7⟩ := hk
      omega
    rw [q_uR this]; exact h.1 k hk
  all_goals rw [q_uR n39]
  · exact h.2.2.1
  · exact h.2.2.2.1
  · exact h.2.2.2.2.1
  · exact h.2.2.2.2.2
theorem t_XDof (h : t_DD D fl pl E) (hD : ∀ k, t_nr k → D k = H0 k) (h10 : D 39 10 = nI K) : t_XD H0 fl pl K E :=
  ⟨fun k hk => (h.1 k hk.1 hk.2.1).trans (hD k hk), h.2.1, h.2.2.1, h.2.2.2.1, h.2.2.2.2.1, h.2.2.2.2.2.2.1.trans h10⟩
theorem c_refZ {x : Int32} (h : t_XD H0 fl pl K E) (hg : q_Gr n ln dr) (kk : ∀ E', t_XD H0 fl pl K E' → Q none (n, sl, ln, E', dl, dr)) : q_EX q_KD d 40 0 [.ref 39, .int x] [] (n, sl, ln, E, dl, dr) Q := by
  obtain ⟨h1, h2, h3, h4, h5, h6⟩ := h
  exact g40_0 hg (fun _ => kk _ ⟨fun k hk => by rw [q_uR hk.1]; exact h1 k hk, h2, h3, h4, rfl, h6⟩) (fun w => absurd (h3.symm.trans w) h2) (fun w => absurd (h3.symm.trans w) h2)
theorem c_expZ {x : Int32} (h : t_XD H0 fl pl K E) (hx : ¬ x = 131) (hg : q_Gr n ln dr) (kk : ∀ E', t_XD H0 fl pl K E' → Q none (n, sl, ln, E', dl, dr)) : q_EX q_KD (d + 1) 51 0 [.ref 39, .int x] [] (n, sl, ln, E, dl, dr) Q :=
  g51_0 hg (fun _ => c_refZ h hg (fun E' h' => g51_20 hg (kk E' h'))) (fun w => absurd (w.symm.trans h.2.2.2.2.1) hx)
theorem c_numZ {x : Int32} (h : t_XD H0 fl pl K E) (hg : q_Gr n ln dr) (kk : ∀ E', t_XD H0 fl pl K E' → Q (some (.int 0)) (n, sl, ln, E', dl, dr)) : q_EX q_KD (d + 1) 49 0 [.ref 39, .int x, .retAddr 0] [] (n, sl, ln, E, dl, dr) Q := by
  have e : E 39 8 - 300 < 0 := by rw [h.2.2.2.2.1]; decide
  exact g49_0 hg (fun w => absurd w (Int32.not_le.mpr e)) (fun w => absurd w (Int32.not_le.mpr e)) (fun _ => c_refZ h hg (fun E' h' => g49_18 hg (kk E' h')))
/-- the rest of a deed, behind a fault -/
theorem c_deeZ (h : t_XD H0 fl pl K E) (hK : K < 24) (hg : q_Gr n ln dr) (kk : ∀ E', t_XD H0 fl pl K E' → Q none (n, sl, ln, E', dl, dr)) : q_EX q_KD (d + 2) 53 33 [.ref 39, .retAddr 0] [] (n, sl, ln, E, dl, dr) Q :=
  g53_33 hg (c_numZ h hg (fun E' h' => g53_47 hg (by rw [h.2.2.2.2.2]; exact vp_in_nI hK (by decide)) (kk _ (t_XDu h' (by omega)))))
end
