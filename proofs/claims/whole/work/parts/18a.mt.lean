/-! the model hears: laughs, hear, loudOf, loudBefore, allOf -/
/-- the texts of the model: those of t < T are well formed -/
def q_tw (tx : Nat → Int32) (t : Nat) : Prop := ∃ N : Nat, N ≤ 24 ∧ tx (680 * t) = nI N ∧ ∀ k, k < N → ∃ so, so ≤ 6 ∧ tx (680 * t + 1 + 3 * k) = nI so
  ∧ (3 ≤ so → so ≤ 5 → ∃ p, p < 6 ∧ tx (680 * t + 1 + 3 * k + 1) = nI p) ∧ (so = 3 → ∃ s, s < 16 ∧ tx (680 * t + 1 + 3 * k + 2) = nI s)
  ∧ (so < 3 → ∃ F E, F < E ∧ E ≤ 300 ∧ tx (680 * t + 1 + 3 * k + 1) = nI F ∧ tx (680 * t + 1 + 3 * k + 2) = nI E ∧ q_tyr tx (680 * t + 75) so (E - F) F (0, 0) = some (if so = 0 then (0, 1) else (1, 0)))
def q_MT (a tx : Nat → Int32) : Prop := a 5 = -1 ∨ ∃ t, t < 4 ∧ a 5 = nI t ∧ q_tw tx t
theorem q_cla_some {tx : Nat → Int32} {t : Nat} {x : Int32} : ∀ (c j : Nat), j + c < 2 ^ 31 → q_cla tx t x c j = -1 ∨ ∃ k, j ≤ k ∧ k < j + c ∧ q_cla tx t x c j = nI k ∧ tx (680 * t + 1 + 3 * k) = x := by
  intro c
  induction c with
  | zero => intro j _; exact Or.inl rfl
  | succ c ih =>
    intro j hj
    unfold q_cla
    by_cases h : tx (680 * t + 1 + 3 * j) = x
    · rw [if_pos h]; exact Or.inr ⟨j, Nat.le_refl _, by omega, rfl, h⟩
    · rw [if_neg h]
      rcases ih (j + 1) (by omega) with h' | ⟨k, h1, h2, h3, h4⟩
      · exact Or.inl h'
      · exact Or.inr ⟨k, by omega, by omega, h3, h4⟩
/-- a law: the text has none, or here it is -/
theorem q_law {a tx : Nat → Int32} (h : q_MT a tx) (x : Nat) (hx : x < 3) : q_kl5 a tx (nI x) = -1 ∨ ∃ t k F E, t < 4 ∧ k < 24 ∧ a 5 = nI t ∧ q_kl5 a tx (nI x) = nI k ∧ F < E ∧ E ≤ 300 ∧ tx (680 * t + 1 + 3 * k) = nI x ∧ tx (680 * t + 1 + 3 * k + 1) = nI F ∧ tx (680 * t + 1 + 3 * k + 2) = nI E ∧ q_tyr tx (680 * t + 75) x (E - F) F (0, 0) = some (if x = 0 then (0, 1) else (1, 0))
    ∧ ∀ nm, q_lv a tx (nI x) nm = q_ev tx (680 * t + 75) F E nm := by
  rcases h with h | ⟨t, ht, h5, N, hN, h1, h2⟩
  · exact Or.inl (by unfold q_kl5; rw [h, if_pos (by decide)])
  · have e5 : (a 5).toNatClampNeg = t := by rw [h5]; exact nI_clamp (by omega)
    have e1 : q_kl5 a tx (nI x) = q_cla tx t (nI x) N 0 := by
      unfold q_kl5
      rw [if_neg (by rw [h5]; exact nI_pos (by omega)), e5, h1, nI_clamp (by omega)]
    rcases q_cla_some (tx := tx) (t := t) (x := nI x) N 0 (by omega) with h3 | ⟨k, _, hk, h3, h4⟩
    · exact Or.inl (e1.trans h3)
    · obtain ⟨so, hso, g1, _, _, g2⟩ := h2 k (by omega)
      have hsx : so = x := by
        rw [h4] at g1
        exact ((nI_eq (by omega) (by omega)).mp g1).symm
      subst hsx
      obtain ⟨F, E, f1, f2, f3, f4, f5⟩ := g2 hx
      refine Or.inr ⟨t, k, F, E, ht, by omega, h5, e1.trans h3, f1, f2, h4, f3, f4, f5, fun nm => ?_⟩
      unfold q_lv
      rw [e1, h3, e5, nI_clamp (by omega), f3, f4, nI_clamp (by omega), nI_clamp (by omega)]
theorem q_uR {α : Type} {f : Nat → Nat → α} {a j k : Nat} {v : α} (h : ¬ k = a) : q_u f a j v k = f k := q_upN _ _ h
/-- truths are 0 or 1 -/
theorem q_esb01 {o v : Int32} {nm : Nat → Int32} {s : Nat × (Nat → Int64) × Nat × (Nat → Int32)} (h : ∀ j, s.2.2.2 j = 0 ∨ s.2.2.2 j = 1) : ∀ j, (q_es o v nm s).2.2.2 j = 0 ∨ (q_es o v nm s).2.2.2 j = 1 := by
  have hb : ∀ (p : Prop) [Decidable p], q_b p = 0 ∨ q_b p = 1 := fun p _ => by
    by_cases z : p
    · exact Or.inr (q_b1 z)
    · exact Or.inl (q_b0 z)
  have hask : ∀ x y, q_ask o x y = 0 ∨ q_ask o x y = 1 := fun x y => by
    unfold q_ask
    split
    · exact hb _
    split
    · exact hb _
    split
    · exact hb _
    split
    · exact hb _
    split
    · exact hb _
    · exact hb _
  have hu : ∀ k x, (x = 0 ∨ x = 1) → ∀ j, va_up s.2.2.2 k x j = 0 ∨ va_up s.2.2.2 k x j = 1 := fun k x hx j => by
    by_cases z : j = k
    · subst z; rw [q_upE]; exact hx
    · rw [q_upN _ _ z]; exact h j
  unfold q_es
  split
  · exact h
  split
  · exact h
  split
  · exact h
  split
  · exact hu _ _ (hask _ _)
  split
  · exact hu _ _ (hb _)
  · refine hu _ _ ?_
    split
    · exact hb _
    · exact hb _
theorem q_it01 {tx nm : Nat → Int32} {k : Nat} : ∀ (c i : Nat) (s : Nat × (Nat → Int64) × Nat × (Nat → Int32)), (∀ j, s.2.2.2 j = 0 ∨ s.2.2.2 j = 1) → ∀ j, (q_it (fun i s => q_es (tx (k + 2 * i)) (tx (k + 2 * i + 1)) nm s) c i s).2.2.2 j = 0 ∨ (q_it (fun i s => q_es (tx (k + 2 * i)) (tx (k + 2 * i + 1)) nm s) c i s).2.2.2 j = 1 := by
  intro c
  induction c with
  | zero => intro i s h; exact h
  | succ c ih => intro i s h; exact ih (i + 1) _ (q_esb01 h)
theorem q_ev01 {tx nm : Nat → Int32} {k F E : Nat} (j : Nat) : (q_ev tx k F E nm).2.2.2 j = 0 ∨ (q_ev tx k F E nm).2.2.2 j = 1 := q_it01 _ _ _ (fun _ => Or.inl rfl) j
theorem q_nar01 {x : Int32} (h : x = 0 ∨ x = 1) : narrow .boolean (.int x) = .int x := by
  rcases h with h | h <;> subst h <;> rfl
section
variable {d n sl : Nat} {ln : Nat → Nat} {di : Nat → Nat → Int32} {dl : Nat → Nat → Int64} {dr : Nat → Nat → Option Nat} {Q : Option Value → q_H → Prop}
theorem c_claM {x : Int32} (h : q_MT (di 68) (di 70)) (hg : q_Gr n ln dr) (k : Q (some (.int (q_kl5 (di 68) (di 70) x))) (n, sl, ln, di, dl, dr)) : q_EX q_KD d 166 0 [.ref 67, .int x, .retAddr 0] [] (n, sl, ln, di, dl, dr) Q := by
  rcases h with h | ⟨t, ht, h5, N, hN, h1, h2⟩
  · refine c_cla0 (by rw [h]; decide) hg ?_
    unfold q_kl5 at k
    rwa [h, if_pos (by decide)] at k
  · refine c_cla t N ht hN h5 h1 hg ?_
    unfold q_kl5 at k
    rwa [if_neg (by rw [h5]; exact nI_pos (by omega)), h5, nI_clamp (by omega), h1, nI_clamp (by omega)] at k
/-- rows that working out a law writes -/
abbrev q_Sw : Nat → Bool := fun k => Nat.beq k 73 || Nat.beq k 75
theorem q_i46 (l : Nat) : (46 : Int32) + (2 : Int32) * nI l = nI (46 + 2 * l) := by rw [q_pa, q_pm]; rfl
theorem c_laM {l j : Nat} (hl : l < 10) (hj : j < 6) (h : q_MT (di 68) (di 70)) (hg : q_Gr n ln dr)
    (k : ∀ e dl', Q (some (.int (q_la (di 68) (di 70) l j (di 76 j / 4) (q_nearOf (di 67 27) (di 76) j 6 0 0) (q_bits (di 67 27) 10 0 0)))) (n, sl, ln, q_F q_Sw di e, dl', dr)) :
    q_EX q_KD (d + 4) 165 0 [.ref 67, .int (nI j), .int (nI l), .retAddr 0] [] (n, sl, ln, di, dl, dr) Q := by
  have hjn : (nI j).toNatClampNeg = j := nI_clamp (by omega)
  have e1 := q_i46 l
  have e2 : (nI (46 + 2 * l)).toNatClampNeg = 46 + 2 * l := nI_clamp (by omega)
  have e3 : (nI (46 + 2 * l + 1)).toNatClampNeg = 46 + 2 * l + 1 := nI_clamp (by omega)
  have kd : ∀ dl', Q (some (.int (q_la (di 68) (di 70) l j (di 76 j / 4) (q_nearOf (di 67 27) (di 76) j 6 0 0) (q_bits (di 67 27) 10 0 0)))) (n, sl, ln, di, dl', dr) := fun dl' => by
    have := k di dl'
    rwa [q_Fid] at this
  refine g165_0 hg (c_claM h hg ?_)
  rcases q_law h 0 (by decide) with h0 | ⟨t, kk, F, E, ht, hk, h5, hkl, hFE, hE, _, hF', hE', hty, hlv⟩
  · have hq : q_kl5 (di 68) (di 70) 0 < 0 := by
      have : q_kl5 (di 68) (di 70) 0 = -1 := h0
      rw [this]; decide
    unfold q_la at kd
    rw [if_pos hq] at kd
    refine g165_5 hg (fun c => absurd hq (q_nle c)) (fun _ => by rw [e1]; exact vp_in_nI (by omega) (by decide)) (fun _ c => ?_) (fun _ c => by rw [e1, nI_1]; exact vp_in_nI (by omega) (by decide)) (fun _ c => c_get j 1 hg (by omega) (g165_44 hg (fun c2 => ?_) (fun c2 => ?_)))
    · rw [e1, e2] at c
      have := kd dl
      rwa [q_b0 (fun z => c z.1)] at this
    · rw [e1, nI_1, e3] at c2
      have := kd dl
      rwa [q_b0 (fun z => q_not_lt c2 z.2)] at this
    · rw [e1, e2] at c
      rw [e1, nI_1, e3] at c2
      have := kd dl
      rwa [q_b1 ⟨c, c2⟩] at this
  · have hq : q_kl5 (di 68) (di 70) 0 = nI kk := hkl
    have hqp : ¬ q_kl5 (di 68) (di 70) 0 < 0 := by rw [hq]; exact nI_pos (by omega)
    have hlv' : ∀ nm, q_lv (di 68) (di 70) 0 nm = q_ev (di 70) (680 * t + 75) F E nm := hlv
    unfold q_la at k
    rw [if_neg hqp, hlv'] at k
    refine g165_5 hg (fun _ => c_get j 0 hg (by omega) ?_) (fun c => absurd c hqp) (fun c => absurd c hqp) (fun c => absurd c hqp) (fun c => absurd c hqp)
    rw [hq]
    refine g165_64 hg (vp_in_nI (n := 0) (by decide) (by decide)) (c_get j 1 hg (by omega) (g165_76 hg (vp_in_nI (n := 1) (by decide) (by decide)) (vp_in_nI hj (by decide)) (by rw [e1]; exact vp_in_nI (by omega) (by decide)) (by rw [e1, nI_1]; exact vp_in_nI (by omega) (by decide)) (c_nearOf j hj hg (g165_137 hg (vp_in_nI (n := 5) (by decide) (by decide)) (c_bits hg (g165_151 hg (vp_in_nI (n := 6) (by decide) (by decide)) ?_))))))
    rw [hjn, e1, e2, nI_1, e3]
    refine c_work (t := t) (kk := kk) (F := F) (E := E) (L := 0) (q_nl0 (di 68) l j (di 76 j / 4) (q_nearOf (di 67 27) (di 76) j 6 0 0) (q_bits (di 67 27) 10 0 0)) ht hk h5 hF' hE' (by omega) hE hty ?_ hg (fun V T _ hT => g165_157 hg ?_ ?_)
    · intro i hi
      have hi6 : i ≤ 6 := Nat.le_of_ble_eq_true hi
      match i, hi6 with
      | 0, _ => rfl
      | 1, _ => rfl
      | 2, _ => rfl
      | 3, _ => rfl
      | 4, _ => rfl
      | 5, _ => rfl
      | 6, _ => rfl
      | i + 7, h => omega
    · show narrow .boolean (.int (T 0)) = .int (T 0)
      rw [hT 0 (by decide)]
      exact q_nar01 (q_ev01 0)
    · have h0 : T 0 = (q_ev (di 70) (680 * t + 75) F E (q_nl0 (di 68) l j (di 76 j / 4) (q_nearOf (di 67 27) (di 76) j 6 0 0) (q_bits (di 67 27) 10 0 0))).2.2.2 0 := hT 0 (by decide)
      have kk2 := k (va_up (q_u (q_u (q_u (q_u (q_u (q_u (q_u di 73 (nI 0).toNatClampNeg (di 68 (10 + 6 * j + 0))) 73 (nI 1).toNatClampNeg (di 68 (10 + 6 * j + 1))) 73 2 (di 76 j / 4)) 73 3 (di 68 (46 + 2 * l))) 73 4 (di 68 (46 + 2 * l + 1))) 73 (nI 5).toNatClampNeg (q_nearOf (di 67 27) (di 76) j 6 0 0)) 73 (nI 6).toNatClampNeg (q_bits (di 67 27) 10 0 0)) 75 T) (va_up dl 74 V)
      rw [← h0] at kk2
      rw [← q_Fin (S := q_Sw) (di := di)] at kk2
      · exact kk2
      · intro k' hk'
        have h73 : ¬ k' = 73 := fun e => by rw [e] at hk'; exact absurd hk' (by decide)
        have h75 : ¬ k' = 75 := fun e => by rw [e] at hk'; exact absurd hk' (by decide)
        rw [q_upN _ _ h75, q_uR h73, q_uR h73, q_uR h73, q_uR h73, q_uR h73, q_uR h73, q_uR h73]
end
