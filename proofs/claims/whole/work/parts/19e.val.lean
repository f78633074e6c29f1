section
variable {d n sl : Nat} {ln : Nat → Nat} {dl : Nat → Nat → Int64} {dr : Nat → Nat → Option Nat} {Q : Option Value → q_H → Prop}
/-- what a write to the stack leaves -/
theorem q_upd {st : Nat → Int32} {T : Nat → Int32} {k t : Nat} {x : Int32} (h : ∀ j, j < t → st j = T j ∧ (st j = 0 ∨ st j = 1)) (hk : t ≤ k) : ∀ j, j < t → va_up st k x j = T j ∧ (va_up st k x j = 0 ∨ va_up st k x j = 1) := by
  intro j hj
  rw [q_upN _ _ (by omega)]
  exact h j hj
set_option maxHeartbeats 1000000 in
theorem c_vl1 {di : Nat → Nat → Int32} {z i E nn tt L : Nat} {V : Nat → Int64} {T nm : Nat → Int32} {o v : Int32} {r : Nat × Nat} (hz : q_scr n z) (hE : E ≤ ln (z + 1 + 0)) (hW : ln (z + 1 + 0) ≤ 300) (hi : i < E) (hw : di (z + 1 + 0) i = q_enc o v) (hty : q_tq L o v nn tt = some r) (hnt : nn + tt ≤ i) (hvr : q_vr (di 52) (nn, V, tt, T)) (hnm : ∀ i, q_nmok L i = true → di 51 i = nm i ∧ -1000000 ≤ (nm i).toInt ∧ (nm i).toInt ≤ 1000000) (hg : q_Gr n ln dr)
    (k : ∀ st, q_vr st (q_es o v nm (nn, V, tt, T)) → q_EX q_KD (d + 1) 75 36 [.ref 50, .ref z, .retAddr 0, .int (nI (r.2 + r.1)), .int (nI E), .int (nI (i + 1)), .retAddr 0, .retAddr 0] [] (n, sl, ln, va_up di 52 st, dl, dr) Q) :
    q_EX q_KD (d + 1) 75 36 [.ref 50, .ref z, .retAddr 0, .int (nI (tt + nn)), .int (nI E), .int (nI i), .retAddr 0, .retAddr 0] [] (n, sl, ln, di, dl, dr) Q := by
  obtain ⟨h1, h2⟩ := hvr
  simp only at h1 h2
  rcases q_tq_inv hty with ⟨a, b, c, e⟩ | ⟨a, b, c, e⟩ | ⟨a, b, e⟩ | ⟨a, b, e⟩ | ⟨a, b, e⟩ | ⟨a, b, c, e⟩ | ⟨a, b, c, e⟩
  · subst a e
    have ew : q_enc 0 v = v := by unfold q_enc; rw [if_pos rfl]
    rw [ew] at hw
    refine c_v0 hz hE hW hi hw (by rw [c]; exact (nI_ltI (b := 10000) (by omega) (by decide)).mpr (by omega)) (by omega) hg (k _ ?_)
    rw [q_es0]
    refine ⟨q_upd h1 (by simp only; omega), fun j hj => ?_⟩
    simp only at hj ⊢
    by_cases q : j = nn
    · subst q
      rw [q_upE, q_upE]
      refine ⟨rfl, ?_⟩
      have : v.toInt = v.toNatClampNeg := by rw [c]; rw [nI_toInt (by omega), nI_clamp (by omega)]
      omega
    · rw [q_upN _ _ q, q_upN _ _ (by omega)]
      exact h2 j (by omega)
  · subst a e
    have hv14 := q_nmok14 b
    have ew : q_enc 1 v = nI (10000 + v.toNatClampNeg) := by
      unfold q_enc; rw [if_neg (by decide), if_pos rfl, q_pa, ← c]; rfl
    rw [ew] at hw
    refine c_v1 (v := v.toNatClampNeg) hz hE hW hi hw rfl hv14 (by omega) hg (k _ ?_)
    rw [q_es1]
    refine ⟨q_upd h1 (by simp only; omega), fun j hj => ?_⟩
    simp only at hj ⊢
    by_cases q : j = nn
    · subst q
      rw [q_upE, q_upE, (hnm _ b).1]
      exact ⟨rfl, (hnm _ b).2⟩
    · rw [q_upN _ _ q, q_upN _ _ (by omega)]
      exact h2 j (by omega)
  · subst a e
    obtain ⟨n', rfl⟩ : ∃ n', nn = n' + 1 := ⟨nn - 1, by omega⟩
    have ew : q_enc 2 v = 20130 := by unfold q_enc; simp
    rw [ew] at hw
    refine c_vm (top := tt + n') hz hE hW hi hw rfl (by omega) hg (k _ ?_)
    rw [q_es2]
    refine ⟨q_upd h1 (by simp only; omega), fun j hj => ?_⟩
    simp only [Nat.add_sub_cancel] at hj ⊢
    by_cases q : j = n'
    · subst q
      have hh := h2 j (by omega)
      rw [q_upE, q_upE, hh.1]
      have hq := q_neg64 hh.2.1 hh.2.2
      exact ⟨hq.1.symm, hq.2⟩
    · rw [q_upN _ _ q, q_upN _ _ (by omega)]
      exact h2 j (by omega)
  · subst e
    obtain ⟨n', rfl⟩ : ∃ n', nn = n' + 2 := ⟨nn - 2, by omega⟩
    have ew := q_encb (v := v) (x := di 52 (tt + n')) (y := di 52 (tt + n' + 1)) a
    refine c_vj (top := tt + n') hz hE hW hi hw ew.1 ew.2.1 ew.2.2.1 (by omega) hg (k _ ?_)
    rw [q_esb a]
    refine ⟨q_upd h1 (by simp only; omega), fun j hj => ?_⟩
    simp only at hj ⊢
    rw [show n' + 2 - 2 = n' from rfl, show n' + 2 - 1 = n' + 1 from rfl] at *
    have g1 := h2 n' (by omega)
    have g2 := h2 (n' + 1) (by omega)
    by_cases q : j = n'
    · subst q
      rw [q_upE, q_upE, g1.1, g2.1]
      exact ⟨ew.2.2.2, (q_clIb _).2⟩
    · rw [q_upN _ _ q, q_upN _ _ (by omega)]
      exact h2 j (by omega)
  · subst e b
    have ew := q_encc (v := v) (x := di 52 tt) (y := di 52 (tt + 1)) a
    refine c_vj (top := tt) hz hE hW hi hw ew.1 ew.2.1 ew.2.2.1 (by omega) hg (k _ ?_)
    rw [q_esc a]
    have g1 := h2 0 (by decide)
    have g2 := h2 1 (by decide)
    refine ⟨fun j hj => ?_, fun j hj => absurd hj (Nat.not_lt_zero j)⟩
    simp only at hj ⊢
    by_cases q : j = tt
    · subst q
      rw [q_upE, q_upE, ← ew.2.2.2]
      refine ⟨?_, ?_⟩
      · show q_ask o _ _ = q_ask o (V 0) (V 1)
        rw [g1.1, g2.1]; rfl
      · have hb : ∀ (p : Prop) [Decidable p], q_b p = 0 ∨ q_b p = 1 := fun p _ => by
          by_cases y : p
          · exact Or.inr (q_b1 y)
          · exact Or.inl (q_b0 y)
        unfold q_ask
        split
        · exact hb _
        split
        · exact hb _
        split
        · exact hb _
        split
        · exact hb _
        split
        · exact hb _
        · exact hb _
    · rw [q_upN _ _ q, q_upN _ _ q]
      exact h1 j (by omega)
  · subst a e b
    obtain ⟨t', rfl⟩ : ∃ t', tt = t' + 1 := ⟨tt - 1, by omega⟩
    have ew : q_enc 20 v = 20224 := by unfold q_enc; simp
    rw [ew] at hw
    refine c_vn (top := t') hz hE hW hi hw rfl (by omega) hg (k _ ?_)
    rw [q_esn]
    have g1 := h1 t' (by omega)
    refine ⟨fun j hj => ?_, fun j hj => absurd hj (Nat.not_lt_zero j)⟩
    simp only [Nat.add_sub_cancel] at hj ⊢
    by_cases q : j = t'
    · subst q
      rw [q_upE, q_upE, ← g1.1]
      rcases g1.2 with y | y <;> rw [y] <;> decide
    · rw [q_upN _ _ q, q_upN _ _ q]
      exact h1 j (by omega)
  · subst e b
    obtain ⟨t', rfl⟩ : ∃ t', tt = t' + 2 := ⟨tt - 2, by omega⟩
    have g1 := h1 t' (by omega)
    have g2 := h1 (t' + 1) (by omega)
    have ew := q_enca (v := v) g1.2 g2.2
    have hb : ∀ (p : Prop) [Decidable p], q_b p = 0 ∨ q_b p = 1 := fun p _ => by
      by_cases y : p
      · exact Or.inr (q_b1 y)
      · exact Or.inl (q_b0 y)
    rcases a with a | a <;> subst a
    · rw [ew.1] at hw
      refine c_vj (top := t') hz hE hW hi hw (by decide) (by decide) (by decide) (by omega) hg (k _ ?_)
      rw [q_esa]
      refine ⟨fun j hj => ?_, fun j hj => absurd hj (Nat.not_lt_zero j)⟩
      simp only [show t' + 2 - 2 = t' from rfl, show t' + 2 - 1 = t' + 1 from rfl] at hj ⊢
      by_cases q : j = t'
      · subst q
        rw [q_upE, q_upE, ← ew.2.2.1]
        refine ⟨?_, hb _⟩
        simp only [g1.1, g2.1]
      · rw [q_upN _ _ q, q_upN _ _ q]
        exact h1 j (by omega)
    · rw [ew.2.1] at hw
      refine c_vj (top := t') hz hE hW hi hw (by decide) (by decide) (by decide) (by omega) hg (k _ ?_)
      rw [q_eso]
      refine ⟨fun j hj => ?_, fun j hj => absurd hj (Nat.not_lt_zero j)⟩
      simp only [show t' + 2 - 2 = t' from rfl, show t' + 2 - 1 = t' + 1 from rfl] at hj ⊢
      by_cases q : j = t'
      · subst q
        rw [q_upE, q_upE, ← ew.2.2.2]
        refine ⟨?_, hb _⟩
        simp only [g1.1, g2.1]
      · rw [q_upN _ _ q, q_upN _ _ q]
        exact h1 j (by omega)
end
