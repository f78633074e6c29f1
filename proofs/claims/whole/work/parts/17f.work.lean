theorem q_es0 {v : Int32} {nm : Nat → Int32} {s : Nat × (Nat → Int64) × Nat × (Nat → Int32)} : q_es 0 v nm s = (s.1 + 1, va_up s.2.1 s.1 v.toInt64, s.2.2.1, s.2.2.2) := by
  unfold q_es; rw [if_pos (by decide), if_pos rfl]
theorem q_es1 {v : Int32} {nm : Nat → Int32} {s : Nat × (Nat → Int64) × Nat × (Nat → Int32)} : q_es 1 v nm s = (s.1 + 1, va_up s.2.1 s.1 (nm v.toNatClampNeg).toInt64, s.2.2.1, s.2.2.2) := by
  unfold q_es; rw [if_pos (by decide), if_neg (by decide)]
theorem q_es2 {v : Int32} {nm : Nat → Int32} {s : Nat × (Nat → Int64) × Nat × (Nat → Int32)} : q_es 2 v nm s = (s.1, va_up s.2.1 (s.1 - 1) (-(s.2.1 (s.1 - 1))), s.2.2.1, s.2.2.2) := by
  unfold q_es; rw [if_neg (by decide), if_pos rfl]
theorem q_esb {o v : Int32} {nm : Nat → Int32} {s : Nat × (Nat → Int64) × Nat × (Nat → Int32)} (h : o = 3 ∨ o = 4 ∨ o = 5 ∨ o = 6) : q_es o v nm s = (s.1 - 1, va_up s.2.1 (s.1 - 2) (q_two o (s.2.1 (s.1 - 2)) (s.2.1 (s.1 - 1))), s.2.2.1, s.2.2.2) := by
  unfold q_es; rcases h with h | h | h | h <;> subst h <;> rw [if_neg (by decide), if_neg (by decide), if_pos (by decide)]
theorem q_esc {o v : Int32} {nm : Nat → Int32} {s : Nat × (Nat → Int64) × Nat × (Nat → Int32)} (h : o = 10 ∨ o = 11 ∨ o = 12 ∨ o = 13 ∨ o = 14 ∨ o = 15) : q_es o v nm s = (s.1 - 2, s.2.1, s.2.2.1 + 1, va_up s.2.2.2 s.2.2.1 (q_ask o (s.2.1 (s.1 - 2)) (s.2.1 (s.1 - 1)))) := by
  unfold q_es; rcases h with h | h | h | h | h | h <;> subst h <;> rw [if_neg (by decide), if_neg (by decide), if_neg (by decide), if_pos (by decide)]
theorem q_esn {v : Int32} {nm : Nat → Int32} {s : Nat × (Nat → Int64) × Nat × (Nat → Int32)} : q_es 20 v nm s = (s.1, s.2.1, s.2.2.1, va_up s.2.2.2 (s.2.2.1 - 1) (q_b (s.2.2.2 (s.2.2.1 - 1) = 0))) := by
  unfold q_es; rw [if_neg (by decide), if_neg (by decide), if_neg (by decide), if_neg (by decide), if_pos rfl]
theorem q_esa {v : Int32} {nm : Nat → Int32} {s : Nat × (Nat → Int64) × Nat × (Nat → Int32)} : q_es 21 v nm s = (s.1, s.2.1, s.2.2.1 - 1, va_up s.2.2.2 (s.2.2.1 - 2) (q_b (¬ s.2.2.2 (s.2.2.1 - 2) = 0 ∧ ¬ s.2.2.2 (s.2.2.1 - 1) = 0))) := by
  unfold q_es; rw [if_neg (by decide), if_neg (by decide), if_neg (by decide), if_neg (by decide), if_neg (by decide), if_pos rfl]
theorem q_eso {v : Int32} {nm : Nat → Int32} {s : Nat × (Nat → Int64) × Nat × (Nat → Int32)} : q_es 22 v nm s = (s.1, s.2.1, s.2.2.1 - 1, va_up s.2.2.2 (s.2.2.1 - 2) (q_b (¬ s.2.2.2 (s.2.2.1 - 2) = 0 ∨ ¬ s.2.2.2 (s.2.2.1 - 1) = 0))) := by
  unfold q_es; rw [if_neg (by decide), if_neg (by decide), if_neg (by decide), if_neg (by decide), if_neg (by decide), if_neg (by decide)]
/-- two states that have the same counts and the same below them -/
def q_ag (s s' : Nat × (Nat → Int64) × Nat × (Nat → Int32)) : Prop := s'.1 = s.1 ∧ s'.2.2.1 = s.2.2.1 ∧ (∀ j, j < s.1 → s'.2.1 j = s.2.1 j) ∧ (∀ j, j < s.2.2.1 → s'.2.2.2 j = s.2.2.2 j)
theorem q_upag {α : Type} {f g : Nat → α} {n k : Nat} {v : α} (h : ∀ j, j < n → g j = f j) : ∀ j, j < n → va_up g k v j = va_up f k v j := by
  intro j hj
  unfold va_up
  by_cases e : j = k
  · rw [if_pos e, if_pos e]
  · rw [if_neg e, if_neg e, h j hj]
theorem q_upag1 {α : Type} {f g : Nat → α} {n : Nat} {v : α} (h : ∀ j, j < n → g j = f j) : ∀ j, j < n + 1 → va_up g n v j = va_up f n v j := by
  intro j hj
  unfold va_up
  by_cases e : j = n
  · rw [if_pos e, if_pos e]
  · rw [if_neg e, if_neg e, h j (by omega)]
theorem q_es_ag {L : Nat} {o v : Int32} {nm nm' : Nat → Int32} {s s' : Nat × (Nat → Int64) × Nat × (Nat → Int32)} {r : Nat × Nat} (hty : q_tq L o v s.1 s.2.2.1 = some r) (h : q_ag s s') (hnm : ∀ i, q_nmok L i = true → nm' i = nm i) : q_ag (q_es o v nm s) (q_es o v nm' s') ∧ ((q_es o v nm s).1, (q_es o v nm s).2.2.1) = r := by
  obtain ⟨n, V, t, T⟩ := s
  obtain ⟨n', V', t', T'⟩ := s'
  obtain ⟨h1, h2, h3, h4⟩ := h
  simp only at h1 h2 h3 h4 hty
  subst h1
  subst h2
  rcases q_tq_inv hty with ⟨a, _, _, b⟩ | ⟨a, c, _, b⟩ | ⟨a, c, b⟩ | ⟨a, c, b⟩ | ⟨a, c, b⟩ | ⟨a, c, e, b⟩ | ⟨a, c, e, b⟩
  · subst a; rw [q_es0, q_es0]; exact ⟨⟨rfl, rfl, q_upag1 h3, h4⟩, b.symm⟩
  · subst a; rw [q_es1, q_es1, hnm _ c]; exact ⟨⟨rfl, rfl, q_upag1 h3, h4⟩, b.symm⟩
  · subst a; rw [q_es2, q_es2]
    simp only
    rw [h3 (n' - 1) (by omega)]
    exact ⟨⟨rfl, rfl, q_upag h3, h4⟩, b.symm⟩
  · rw [q_esb a, q_esb a]
    simp only
    rw [h3 (n' - 2) (by omega), h3 (n' - 1) (by omega)]
    exact ⟨⟨rfl, rfl, fun j hj => q_upag h3 j (by simp only at hj; omega), h4⟩, b.symm⟩
  · rw [q_esc a, q_esc a]
    simp only
    rw [h3 (n' - 2) (by omega), h3 (n' - 1) (by omega)]
    refine ⟨⟨rfl, rfl, fun j hj => h3 j (by simp only at hj; omega), q_upag1 h4⟩, ?_⟩
    rw [b, c]
  · subst a; rw [q_esn, q_esn]
    simp only
    simp only [h4 (t' - 1) (by omega)]
    refine ⟨⟨rfl, rfl, h3, q_upag h4⟩, ?_⟩
    rw [b, c]
  · rcases a with a | a
    · subst a; rw [q_esa, q_esa]
      simp only
      simp only [h4 (t' - 1) (by omega), h4 (t' - 2) (by omega)]
      refine ⟨⟨rfl, rfl, h3, fun j hj => q_upag h4 j (by simp only at hj; omega)⟩, ?_⟩
      rw [b, c]
    · subst a; rw [q_eso, q_eso]
      simp only
      simp only [h4 (t' - 1) (by omega), h4 (t' - 2) (by omega)]
      refine ⟨⟨rfl, rfl, h3, fun j hj => q_upag h4 j (by simp only at hj; omega)⟩, ?_⟩
      rw [b, c]
theorem q_tq_grow {L : Nat} {o v : Int32} {n t : Nat} {r : Nat × Nat} (h : q_tq L o v n t = some r) : r.1 + r.2 ≤ n + t + 1 := by
  rcases q_tq_inv h with ⟨_, _, _, b⟩ | ⟨_, _, _, b⟩ | ⟨_, _, b⟩ | ⟨_, _, b⟩ | ⟨_, _, b⟩ | ⟨_, _, _, b⟩ | ⟨_, _, _, b⟩ <;> rw [b] <;> simp only <;> omega
theorem q_tyr1 {tx : Nat → Int32} {k L c i : Nat} {s r : Nat × Nat} (h : q_tyr tx k L (c + 1) i s = some r) : ∃ s', q_tq L (tx (k + 2 * i)) (tx (k + 2 * i + 1)) s.1 s.2 = some s' ∧ q_tyr tx k L c (i + 1) s' = some r := by
  unfold q_tyr at h
  split at h
  · cases h
  · rename_i s' e
    exact ⟨s', e, h⟩
/-- a whole law: what comes out doesn't depend on what lay there before -/
theorem q_ev_ag {tx nm nm' : Nat → Int32} {k L : Nat} (hnm : ∀ i, q_nmok L i = true → nm' i = nm i) : ∀ (c i : Nat) (s s' : Nat × (Nat → Int64) × Nat × (Nat → Int32)) (r : Nat × Nat), q_tyr tx k L c i (s.1, s.2.2.1) = some r → q_ag s s' →
    q_ag (q_it (fun i s => q_es (tx (k + 2 * i)) (tx (k + 2 * i + 1)) nm s) c i s) (q_it (fun i s => q_es (tx (k + 2 * i)) (tx (k + 2 * i + 1)) nm' s) c i s') ∧ ((q_it (fun i s => q_es (tx (k + 2 * i)) (tx (k + 2 * i + 1)) nm s) c i s).1, (q_it (fun i s => q_es (tx (k + 2 * i)) (tx (k + 2 * i + 1)) nm s) c i s).2.2.1) = r := by
  intro c
  induction c with
  | zero => intro i s s' r h1 h2; cases h1; exact ⟨h2, rfl⟩
  | succ c ih =>
    intro i s s' r h1 h2
    obtain ⟨u, h3, h4⟩ := q_tyr1 h1
    obtain ⟨h5, h6⟩ := q_es_ag h3 h2 hnm
    rw [← h6] at h4
    exact ih (i + 1) _ _ r h4 h5
section
variable {d n sl : Nat} {ln : Nat → Nat} {dr : Nat → Nat → Option Nat} {Q : Option Value → q_H → Prop}
theorem c_work47 {X C E L : Nat} {r : Nat × Nat} (tx nm : Nat → Int32) (hX : X + 2 < 2720) (hC : C + 2 * E < 2720) (hE3 : E ≤ 300) (hE : tx (X + 2) = nI E) (hg : q_Gr n ln dr) : ∀ (c i nn tt : Nat) (di : Nat → Nat → Int32) (dl : Nat → Nat → Int64), di 70 = tx → di 73 = nm → i + c = E → nn + tt ≤ i → q_tyr tx C L c i (nn, tt) = some r →
    Q none (n, sl, ln, va_up di 75 (q_it (fun i s => q_es (tx (C + 2 * i)) (tx (C + 2 * i + 1)) nm s) c i (nn, dl 74, tt, di 75)).2.2.2, va_up dl 74 (q_it (fun i s => q_es (tx (C + 2 * i)) (tx (C + 2 * i + 1)) nm s) c i (nn, dl 74, tt, di 75)).2.1, dr) →
    q_EX q_KD (d + 2) 171 47 [.ref 67, .retAddr 0, .int (nI X), .int (nI C), .int (nI nn), .int (nI tt), .int (nI i), .retAddr 0, .retAddr 0] [] (n, sl, ln, di, dl, dr) Q := by
  intro c
  induction c with
  | zero =>
    intro i nn tt di dl h70 h73 e hs hty k
    have e2 : nI X + (2 : Int32) = nI (X + 2) := (q_pa X 2).symm
    have e5 : (nI (X + 2)).toNatClampNeg = X + 2 := nI_clamp (by omega)
    have hh : ¬ nI i < di 70 (nI X + (2 : Int32)).toNatClampNeg := by
      rw [e2, e5, h70, hE]; exact nI_nlt (by omega) (by omega)
    have kk : Q none (n, sl, ln, di, dl, dr) := by
      have k' : Q none (n, sl, ln, va_up di 75 (di 75), va_up dl 74 (dl 74), dr) := k
      rwa [q_upid, q_upid] at k'
    refine g171_47 hg (by rw [e2]; exact vp_in_nI (by omega) (by decide)) (fun _ => kk) ?_ ?_ ?_ ?_ ?_ ?_ ?_ ?_ ?_ ?_ ?_ ?_ ?_ ?_ ?_ ?_ ?_ ?_ ?_ ?_ ?_ ?_ ?_ ?_ ?_ ?_ ?_ ?_ ?_ ?_ ?_ ?_ ?_ ?_ ?_ ?_ ?_ <;> intro c' <;> exact absurd c' hh
  | succ c ih =>
    intro i nn tt di dl h70 h73 e hs hty k
    obtain ⟨u, h3, h4⟩ := q_tyr1 hty
    have hgr := q_tq_grow h3
    have h6 := (q_es_ag (nm := nm) (nm' := nm) (s := (nn, dl 74, tt, di 75)) h3 ⟨rfl, rfl, fun _ _ => rfl, fun _ _ => rfl⟩ (fun _ _ => rfl)).2
    refine c_wk1 (L := L) (o := tx (C + 2 * i)) (v := tx (C + 2 * i + 1)) hX (by omega) (by rw [h70]) (by rw [h70]) (by rw [h70, hE]; exact nI_lt (by omega) (by omega)) h3 (by omega) (by omega) hg ?_
    rw [h73]
    have e1 : (q_es (tx (C + 2 * i)) (tx (C + 2 * i + 1)) nm (nn, dl 74, tt, di 75)).1 = u.1 := congrArg Prod.fst h6
    have e2 : (q_es (tx (C + 2 * i)) (tx (C + 2 * i + 1)) nm (nn, dl 74, tt, di 75)).2.2.1 = u.2 := congrArg Prod.snd h6
    simp only at hgr
    rw [← h6] at h4
    refine ih (i + 1) _ _ _ _ h70 h73 (by omega) (by rw [e1, e2]; omega) h4 ?_
    rw [q_upup, q_upup, q_upE, q_upE]
    exact k
/-- work(k): the clause at X; its code at F .. E of the text's codes at C -/
theorem c_work {t kk F E L : Nat} {r : Nat × Nat} {di : Nat → Nat → Int32} {dl : Nat → Nat → Int64} (nm : Nat → Int32) (ht : t < 4) (hk : kk < 24) (h5 : di 68 5 = nI t) (hF : di 70 (680 * t + 1 + 3 * kk + 1) = nI F) (hE : di 70 (680 * t + 1 + 3 * kk + 2) = nI E) (hFE : F ≤ E) (hE3 : E ≤ 300) (hty : q_tyr (di 70) (680 * t + 75) L (E - F) F (0, 0) = some r) (hnm : ∀ i, q_nmok L i = true → di 73 i = nm i) (hg : q_Gr n ln dr)
    (k : ∀ (V : Nat → Int64) (T : Nat → Int32), (∀ j, j < r.1 → V j = (q_ev (di 70) (680 * t + 75) F E nm).2.1 j) → (∀ j, j < r.2 → T j = (q_ev (di 70) (680 * t + 75) F E nm).2.2.2 j) → Q none (n, sl, ln, va_up di 75 T, va_up dl 74 V, dr)) :
    q_EX q_KD (d + 2) 171 0 [.ref 67, .int (nI kk), .retAddr 0, .retAddr 0, .retAddr 0, .retAddr 0, .retAddr 0, .retAddr 0, .retAddr 0] [] (n, sl, ln, di, dl, dr) Q := by
  have e1 : ((680 : Int32) * di 68 5 + 1) + (3 : Int32) * nI kk = nI (680 * t + 1 + 3 * kk) := by rw [h5]; exact q_ixc t kk
  have e2 : (680 : Int32) * di 68 5 + 75 = nI (680 * t + 75) := by rw [h5, q_pa, q_pm]; rfl
  have e3 : (nI (680 * t + 1 + 3 * kk + 1)).toNatClampNeg = 680 * t + 1 + 3 * kk + 1 := nI_clamp (by omega)
  refine g171_0 hg (by rw [e1, nI_1]; exact vp_in_nI (by omega) (by decide)) ?_
  rw [e1, e2, nI_1, e3, hF]
  have h := q_ev_ag (tx := di 70) (nm := nm) (nm' := di 73) (k := 680 * t + 75) hnm (E - F) F q_e0 (0, dl 74, 0, di 75) r hty ⟨rfl, rfl, fun j hj => absurd hj (Nat.not_lt_zero j), fun j hj => absurd hj (Nat.not_lt_zero j)⟩
  have hr1 : (q_it (fun i s => q_es (di 70 (680 * t + 75 + 2 * i)) (di 70 (680 * t + 75 + 2 * i + 1)) nm s) (E - F) F q_e0).1 = r.1 := congrArg Prod.fst h.2
  have hr2 : (q_it (fun i s => q_es (di 70 (680 * t + 75 + 2 * i)) (di 70 (680 * t + 75 + 2 * i + 1)) nm s) (E - F) F q_e0).2.2.1 = r.2 := congrArg Prod.snd h.2
  refine c_work47 (E := E) (L := L) (r := r) (di 70) (di 73) (by omega) (by omega) hE3 hE hg (E - F) F 0 0 di dl rfl rfl (by omega) (by omega) hty (k _ _ (fun j hj => ?_) (fun j hj => ?_))
  · exact h.1.2.2.1 j (by rw [hr1]; exact hj)
  · exact h.1.2.2.2 j (by rw [hr2]; exact hj)
end
