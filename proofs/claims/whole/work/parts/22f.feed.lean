theorem w_byt {M : Nat} {r r' m m' : Nat → Int32} {b0 b1 b2 b3 : Int32} (h : ∀ i, i < M → m i = r i &&& 255) (hr : ∀ i, i < M → r' i = r i) (hm : ∀ i, i < M → m' i = m i) (r0 : r' M &&& 255 = b0) (r1 : r' (M + 1) &&& 255 = b1) (r2 : r' (M + 2) &&& 255 = b2) (r3 : r' (M + 3) &&& 255 = b3) (m0 : m' M = b0) (m1 : m' (M + 1) = b1) (m2 : m' (M + 2) = b2) (m3 : m' (M + 3) = b3) : ∀ i, i < M + 4 → m' i = r' i &&& 255 := by
  intro i hi
  by_cases g : i < M
  · rw [hr i g, hm i g]; exact h i g
  · by_cases g0 : i = M
    · subst g0; rw [m0, r0]
    by_cases g1 : i = M + 1
    · subst g1; rw [m1, r1]
    by_cases g2 : i = M + 2
    · subst g2; rw [m2, r2]
    have g3 : i = M + 3 := by omega
    subst g3; rw [m3, r3]
section
variable {c d n sl : Nat} {ln : Nat → Nat} {di : Nat → Nat → Int32} {dl : Nat → Nat → Int64} {dr : Nat → Nat → Option Nat} {Q : Option Value → q_H → Prop}
theorem o_feed {x1 x2 x3 x4 x5 : Int32} (h : q_RR c n sl ln di dr) : o_op (d + 1) 18 122 [.ref 6, .int x1, .int x2, .int x3, .int x4, .int x5, .retAddr 0] [.ref 67, .int x1, .int x2, .int x3, .int x4, .int x5] c (n, sl, ln, di, dl, dr) := by
  have hR := h
  obtain ⟨hg, a2, a3, a4, ⟨N, hN, n1, n2, n3⟩, a6, P, L, T, S, K, P', L', T', S', K', b1, b2, b3, b4, b5⟩ := hR
  have e20 : nI N + 20 = nI (N + 20) := by rw [q_pa]; rfl
  refine g18_0 hg (fun w => ?_) (fun w => ⟨_, rfl, g122_0 hg (fun w2 => absurd w (q_not_lt (by rw [n1, ← n2]; exact w2))) (fun _ => ⟨rfl, w_RR_up h⟩)⟩)
  have hN20 : N + 20 ≤ 300 := by
    rw [n1, e20] at w
    exact (nI_leI (b := 300) (by omega) (by decide)).mp w
  refine c_app (N := N) (by omega) n1 hg (fun r1 p0 p1 p2 p3 p4 => g18_31 hg (c_app (N := N + 4) (by omega) rfl hg (fun r2 q0 q1 q2 q3 q4 => g18_37 hg (c_app (N := N + 8) (by omega) rfl hg (fun r3 s0 s1 s2 s3 s4 => g18_43 hg (c_app (N := N + 12) (by omega) rfl hg (fun r4 t0 t1 t2 t3 t4 => g18_50 hg (c_app (N := N + 16) (by omega) rfl hg (fun r5 u0 u1 u2 u3 u4 => g18_57 hg ⟨_, rfl, ?_⟩)))))))))
  refine g122_0 hg (fun _ => ?_) (fun w2 => absurd w2 (q_not_lt (by
    show di 67 4 + 20 ≤ 300
    rw [n2, ← n1]; exact w)))
  refine c_four (N := N) (by omega) n2 hg (fun m1 f0 f1 f2 f3 f4 => g122_20 hg (c_four (N := N + 4) (by omega) rfl hg (fun m2 g0 g1 g2 g3 g4 => g122_25 hg (c_four (N := N + 8) (by omega) rfl hg (fun m3 h0 h1 h2 h3 h4 => g122_30 hg (c_four (N := N + 12) (by omega) rfl hg (fun m4 k0 k1 k2 k3 k4 => g122_36 hg (c_four (N := N + 16) (by omega) rfl hg (fun m5 l0 l1 l2 l3 l4 => g122_42 hg ⟨rfl, ?_⟩)))))))))
  have B1 := w_byt (r := di 41) (r' := r1) (m := di 71) (m' := m1) n3 p0 f0 p1 p2 p3 p4 f1 f2 f3 f4
  have B2 := w_byt (M := N + 4) (r := r1) (r' := r2) (m := m1) (m' := m2) B1 q0 g0 q1 q2 q3 q4 g1 g2 g3 g4
  have B3 := w_byt (M := N + 8) (r := r2) (r' := r3) (m := m2) (m' := m3) B2 s0 h0 s1 s2 s3 s4 h1 h2 h3 h4
  have B4 := w_byt (M := N + 12) (r := r3) (r' := r4) (m := m3) (m' := m4) B3 t0 k0 t1 t2 t3 t4 k1 k2 k3 k4
  have B5 := w_byt (M := N + 16) (r := r4) (r' := r5) (m := m4) (m' := m5) B4 u0 l0 u1 u2 u3 u4 l1 l2 l3 l4
  have hd : ∀ (D : Nat → Nat → Int32) (x y k : Nat) (f g : Nat → Int32), x < 84 → y < 84 → 84 ≤ k → va_up (va_up D x f) y g k = D k := fun D x y k f g h1 h2 h3 => by rw [w_84u h2 h3, w_84u h1 h3]
  have hd84 : ∀ k, 84 ≤ k → (va_up (va_up (va_up (va_up (va_up (va_up (va_up (va_up (va_up (va_up (va_up (va_up (va_up (va_up (va_up (va_up (va_up (va_up (va_up (va_up di 41 r1) 40 (va_up (di 40) 3 (nI (N + 4)))) 41 r2) 40 (va_up (va_up (di 40) 3 (nI (N + 4))) 3 (nI (N + 4 + 4)))) 41 r3) 40 (va_up (va_up (va_up (di 40) 3 (nI (N + 4))) 3 (nI (N + 4 + 4))) 3 (nI (N + 8 + 4)))) 41 r4) 40 (va_up (va_up (va_up (va_up (di 40) 3 (nI (N + 4))) 3 (nI (N + 4 + 4))) 3 (nI (N + 8 + 4))) 3 (nI (N + 12 + 4)))) 41 r5) 40 (va_up (va_up (va_up (va_up (va_up (di 40) 3 (nI (N + 4))) 3 (nI (N + 4 + 4))) 3 (nI (N + 8 + 4))) 3 (nI (N + 12 + 4))) 3 (nI (N + 16 + 4)))) 71 m1) 67 (va_up (di 67) 4 (nI (N + 4)))) 71 m2) 67 (va_up (va_up (di 67) 4 (nI (N + 4))) 4 (nI (N + 4 + 4)))) 71 m3) 67 (va_up (va_up (va_up (di 67) 4 (nI (N + 4))) 4 (nI (N + 4 + 4))) 4 (nI (N + 8 + 4)))) 71 m4) 67 (va_up (va_up (va_up (va_up (di 67) 4 (nI (N + 4))) 4 (nI (N + 4 + 4))) 4 (nI (N + 8 + 4))) 4 (nI (N + 12 + 4)))) 71 m5) 67 (va_up (va_up (va_up (va_up (va_up (di 67) 4 (nI (N + 4))) 4 (nI (N + 4 + 4))) 4 (nI (N + 8 + 4))) 4 (nI (N + 12 + 4))) 4 (nI (N + 16 + 4)))) k = di k := fun k hk => by
    rw [hd _ 71 67 k _ _ (by decide) (by decide) hk, hd _ 71 67 k _ _ (by decide) (by decide) hk, hd _ 71 67 k _ _ (by decide) (by decide) hk, hd _ 71 67 k _ _ (by decide) (by decide) hk, hd _ 71 67 k _ _ (by decide) (by decide) hk, hd _ 41 40 k _ _ (by decide) (by decide) hk, hd _ 41 40 k _ _ (by decide) (by decide) hk, hd _ 41 40 k _ _ (by decide) (by decide) hk, hd _ 41 40 k _ _ (by decide) (by decide) hk, hd _ 41 40 k _ _ (by decide) (by decide) hk]
  exact w_RR_up ⟨hg, a2, a3, a4, ⟨N + 20, hN20, rfl, rfl, B5⟩, a6, P, L, T, S, K, P', L', T', S', K', w_RHd b1 hd84, w_RHd b2 hd84, b3, b4, b5⟩
end
