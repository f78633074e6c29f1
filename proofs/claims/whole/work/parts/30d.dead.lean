section
variable {d n sl : Nat} {ln : Nat → Nat} {dl : Nat → Nat → Int64} {dr : Nat → Nat → Option Nat} {Q : Option Value → q_H → Prop} {tk : Nat → Int32} {bg : Nat → Nat} {L C : Nat} {D : Nat → Nat → Int32} {j W : Nat} {A : Int32} {r : Nat → Int32} {fl pl : Int32} {E : Nat → Nat → Int32}
theorem c_oneD {x : Int32} (h : t_DD D fl pl E) (hg : q_Gr n ln dr) (kk : ∀ E', t_DD D fl pl E' → Q none (n, sl, ln, E', dl, dr)) : q_EX q_KD (d + 1) 48 0 [.ref 39, .int x] [] (n, sl, ln, E, dl, dr) Q := by
  have h8 := h.2.2.2.2.1
  have a1 : ¬ (300 : Int32) ≤ E 39 8 := by rw [h8]; decide
  have a2 : ¬ (200 : Int32) ≤ E 39 8 := by rw [h8]; decide
  have a3 : ¬ E 39 8 = 40 := by rw [h8]; decide
  have a4 : ¬ E 39 8 = 45 := by rw [h8]; decide
  exact g48_0 hg (fun _ _ _ _ => c_refD h hg (fun E' h' => g48_132 hg (kk E' h'))) (fun _ _ _ w => absurd w a4) (fun _ _ w => absurd w a3) (fun _ w => absurd w a2) (fun _ w => absurd w a2) (fun _ w => absurd w a2) (fun _ w => absurd w a2) (fun w => absurd w a1)
theorem c_chLD {x x3 ρ : Int32} (hρ : ¬ -1 = ρ) (h : t_DD D fl pl E) (hg : q_Gr n ln dr) (kk : Q none (n, sl, ln, E, dl, dr)) : q_EX q_KD (d + 1) 42 8 [.ref 39, .int ρ, .int x, .int x3, .retAddr 0] [] (n, sl, ln, E, dl, dr) Q := by
  refine g42_8 hg (fun _ => kk) (fun _ => c_rank hg ?_)
  rw [h.2.2.2.2.1, show t_rank 131 = -1 by decide]
  exact g42_22 hg (fun _ => kk) (fun w => absurd w hρ)
theorem c_ch3D {x : Int32} (h : t_DD D fl pl E) (hg : q_Gr n ln dr) (kk : ∀ E', t_DD D fl pl E' → Q none (n, sl, ln, E', dl, dr)) : q_EX q_KD (d + 3) 42 0 [.ref 39, .int 3, .int x, .retAddr 0, .retAddr 0] [] (n, sl, ln, E, dl, dr) Q :=
  g42_0 hg (g43_0 hg (fun w => absurd w (by decide)) (fun w => absurd w (by decide)) (fun w => absurd w (by decide)) (fun _ _ _ => c_oneD h hg (fun E' h' => g43_59 hg (g42_6 hg (c_chLD (by decide) h' hg (kk E' h'))))))
theorem c_ch2D {x : Int32} (h : t_DD D fl pl E) (hg : q_Gr n ln dr) (kk : ∀ E', t_DD D fl pl E' → Q none (n, sl, ln, E', dl, dr)) : q_EX q_KD (d + 5) 42 0 [.ref 39, .int 2, .int x, .retAddr 0, .retAddr 0] [] (n, sl, ln, E, dl, dr) Q :=
  g42_0 hg (g43_0 hg (fun w => absurd w (by decide)) (fun w => absurd w (by decide)) (fun _ => c_ch3D h hg (fun E' h' => g43_51 hg (g42_6 hg (c_chLD (by decide) h' hg (kk E' h'))))) (fun _ _ w => absurd rfl w))
theorem c_askD {x : Int32} (h : t_DD D fl pl E) (hg : q_Gr n ln dr) (kk : ∀ E', t_DD D fl pl E' → Q none (n, sl, ln, E', dl, dr)) : q_EX q_KD (d + 6) 44 0 [.ref 39, .int x, .retAddr 0] [] (n, sl, ln, E, dl, dr) Q := by
  refine g44_0 hg (fun _ => c_ch2D h hg (fun E' h' => g44_39 hg (c_isRel hg (fun w => ?_) (fun _ => g44_48 hg (fun _ => c_refD h' hg (fun E2 h2 => g44_78 hg (kk E2 h2))) (fun w => absurd rfl w))))) (fun w => absurd (h.2.2.2.2.1.symm.trans w) (by decide))
  rw [h'.2.2.2.2.1] at w
  exact absurd (show t_rc 131 < 0 by decide) w
theorem c_ch1D {x : Int32} (h : t_DD D fl pl E) (hg : q_Gr n ln dr) (kk : ∀ E', t_DD D fl pl E' → Q none (n, sl, ln, E', dl, dr)) : q_EX q_KD (d + 8) 42 0 [.ref 39, .int 1, .int x, .retAddr 0, .retAddr 0] [] (n, sl, ln, E, dl, dr) Q :=
  g42_0 hg (g43_0 hg (fun w => absurd w (by decide)) (fun _ => c_askD h hg (fun E' h' => g43_42 hg (g42_6 hg (c_chLD (by decide) h' hg (kk E' h'))))) (fun w => absurd w (by decide)) (fun _ w => absurd rfl w))
/-- a number up to a bound -/
theorem c_numTo {M : Nat} (hx : t_cx D tk bg L C) (h3 : ∀ j, 300 ≤ tk j → ∃ v, v ≤ 10000 ∧ tk j = nI (300 + v)) (htk : ∀ j, ∃ v, v ≤ 10300 ∧ tk j = nI v) (hM : M ≤ 9999) (hj : j ≤ C) (hC : tk C = 131) (hW : W ≤ 300) (hg : q_Gr n ln dr)
    (k1 : ∀ v, v ≤ M → tk j = nI (300 + v) → Q (some (.int (nI v))) (n, sl, ln, t_LV D tk (j + 1) W A r, dl, dr))
    (k2 : ∀ v, M < v → v ≤ 10000 → tk j = nI (300 + v) → ∀ E, t_DD D 2 (nI (bg j)) E → Q (some (.int 0)) (n, sl, ln, E, dl, dr))
    (k0 : ¬ 300 ≤ tk j → ∀ E, t_DD D 1 (nI (bg j)) E → Q (some (.int 0)) (n, sl, ln, E, dl, dr)) : q_EX q_KD (d + 1) 49 0 [.ref 39, .int (nI M), .retAddr 0] [] (n, sl, ln, t_LV D tk j W A r, dl, dr) Q := by
  have e8 : t_LV D tk j W A r 39 8 = tk j := rfl
  obtain ⟨u, u1, u2⟩ := htk j
  by_cases z : 300 ≤ tk j
  · obtain ⟨v, v1, v2⟩ := h3 j z
    have es : t_LV D tk j W A r 39 8 - 300 = nI v := by rw [e8, v2, show 300 + v = v + 300 by omega, ← nI_add, show (300 : Int32) = nI 300 from rfl, Int32.add_sub_cancel]
    have hjC : j < C := by
      rcases Nat.lt_or_ge j C with y | y
      · exact y
      · have : j = C := by omega
        rw [this, hC] at z; exact absurd z (by decide)
    refine g49_0 hg (fun _ w => ?_) (fun _ w => ?_) (fun w => absurd w (by rw [es]; exact nI_pos (by omega)))
    · rw [es] at w ⊢
      exact c_adv hx hjC hg (g49_36 hg (k1 v ((nI_leI (by omega) (by omega)).mp w) v2))
    · rw [es] at w
      exact c_ref hx (by decide) hj hW hg (fun E h => g49_30 hg (k2 v ((nI_ltI (by omega) (by omega)).mp w) v1 v2 E h))
  · have hu : u < 300 := by
      rcases Nat.lt_or_ge u 300 with y | y
      · exact y
      · exact absurd (by rw [u2]; exact (nI_leI (a := 300) (by decide) (by omega)).mpr y) z
    have es : t_LV D tk j W A r 39 8 - 300 < 0 := by
      have : ∀ u, u < 300 → nI u - 300 < 0 := by decide +kernel
      rw [e8, u2]
      exact this u hu
    exact g49_0 hg (fun w => absurd w (by rw [Int32.not_le]; exact es)) (fun w => absurd w (by rw [Int32.not_le]; exact es)) (fun _ => c_ref hx (by decide) hj hW hg (fun E h => g49_18 hg (k0 z E h)))
end
