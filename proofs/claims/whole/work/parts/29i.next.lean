section
variable {d n sl : Nat} {ln : Nat → Nat} {di : Nat → Nat → Int32} {dl : Nat → Nat → Int64} {dr : Nat → Nat → Option Nat} {Q : Option Value → q_H → Prop} {N : Nat} {bt : Nat → Int32}
set_option maxHeartbeats 1000000 in
/-- at the token's first byte -/
theorem c_nx55 {p q : Nat} {c : Int32} (hN : N ≤ 300) (hpos : ∀ i, i < N → (0 : Int32) ≤ bt i) (hg : q_Gr n ln dr) (hpN : p ≤ N) (hq : q ≤ N) (htk : t_tk N bt p c q) (D : Nat → Nat → Int32) (h4 : D 67 4 = nI N) (hb : ∀ i, i < N → D 71 i = bt i) (h7 : D 67 7 = nI p) (h8 : D 67 8 = nI p)
    (kk : ∀ D' dl', t_mf D D' → t_ms (D' 67) (dl' 67 11) N bt p c q → Q none (n, sl, ln, D', dl', dr)) : q_EX q_KD (d + 3) 127 55 [.ref 67, .retAddr 0, .retAddr 0] [.int (t_by N bt p)] (n, sl, ln, D, dl, dr) Q := by
  have nd : ∀ {x : Int32}, t_dg x → ¬ t_le x := fun a2 z => by
    obtain ⟨v, v1, v2⟩ := t_dgN a2
    obtain ⟨u, u1, u2, u3⟩ := t_leN z
    rw [v2] at u3
    have := (nI_eq (by omega) (by omega)).mp u3
    omega
  have htk0 := htk
  rcases htk with ⟨a1, a2, a3⟩ | ⟨a1, a2, a3, a4⟩ | ⟨a1, a2, a3, a4⟩ | ⟨a1, a2, a3, a4, a5, a6⟩
  · have hby : t_by N bt p = -1 := by unfold t_by; rw [if_neg (by omega)]
    rw [hby]
    refine p127_55 hg (fun w => absurd w (by decide)) (fun _ => kk _ dl (t_mf_u (Or.inr (Or.inr (Or.inl rfl)))) ?_)
    exact ⟨by rw [a3, ← a1]; exact h7, h8, hpN, hq, htk0, fun _ => rfl, fun z => absurd z (by omega), fun z => absurd z (by omega), fun z => absurd z (by omega)⟩
  · have hby : t_by N bt p = bt p := by unfold t_by; rw [if_pos a1]
    obtain ⟨u, u1, u2, u3⟩ := t_leN a2
    rw [hby]
    refine p127_55 hg (fun _ => c_dgM (d := d + 1) hg (fun z => absurd a2 (nd z)) (fun _ => p127_72 hg (fun _ => c_leM (d := d + 1) hg (fun _ => ?_) (fun z => absurd a2 z)) (fun w => absurd rfl w))) (fun w => absurd w (by rw [u3]; exact nI_pos (by omega)))
    refine p127_148 hg (fun w => absurd w (by decide)) (fun w => absurd w (by decide)) (fun w => absurd w (by decide)) (fun w => absurd w (by decide)) (fun w => absurd w (by decide)) (fun w => absurd w (by decide)) (fun w => absurd w (by decide)) (fun w => absurd w (by decide)) (fun w => absurd w (by decide)) (fun w => absurd w (by decide)) (fun w => absurd w (by decide)) (fun w => absurd w (by decide)) (fun _ => ?_)
    refine c_nx161 (d := d + 1) (p := p) hN hg hq (fun k h1 h2 => (a3.2.1 k h1 h2).2) (q - p) p _ _ (by have := a3.1; omega) (Nat.le_refl _) a3 h4 hb h7 h8 (fun _ => ?_) (fun D' dl' f1 f2 f3 f4 f5 => kk D' dl' (t_mf_t (t_mf_u (Or.inr (Or.inr (Or.inl rfl)))) f1) ?_)
    · rw [Nat.sub_self]; exact q_uE _ _ _ _
    · refine ⟨f4, f2.trans h8, hpN, hq, htk0, fun z => absurd z (by omega), fun _ _ => ⟨f3.trans (q_uE _ _ _ _), f5⟩, fun _ z => absurd a2 (nd z), fun _ z => absurd a2 z⟩
  · have hby : t_by N bt p = bt p := by unfold t_by; rw [if_pos a1]
    obtain ⟨v, v1, v2⟩ := t_dgN a2
    rw [hby]
    refine p127_55 hg (fun _ => c_dgM (d := d + 1) hg (fun _ => p127_72 hg (fun w => absurd w (by decide)) (fun _ => ?_)) (fun z => absurd a2 z)) (fun w => absurd w (by rw [v2]; exact nI_pos (by omega)))
    refine c_nx85 (d := d + 1) (p := p) hN hg hq (q - p) p 0 _ (by have := a3.1; omega) a3 (by omega) h4 hb h7 (q_uE _ _ _ _) (fun D' f1 f2 f3 f4 f5 => kk D' dl (t_mf_t (t_mf_t (t_mf_u (Or.inr (Or.inr (Or.inl rfl)))) (t_mf_u (Or.inr (Or.inr (Or.inr rfl))))) f1) ?_)
    exact ⟨f4, f2.trans h8, hpN, hq, htk0, fun z => absurd z (by omega), fun _ z => absurd z (nd a2), fun _ _ => ⟨f3, f5⟩, fun _ _ z => absurd a2 z⟩
  · have hby : t_by N bt p = bt p := by unfold t_by; rw [if_pos a1]
    rw [hby]
    have hnn : (0 : Int32) ≤ bt p → q_EX q_KD (d + 2) 129 0 [.int (bt p)] [] (n, sl, ln, D, dl, dr) (fun r1 h1 => q_EX q_KD (d + 3) 127 72 [.ref 67, .int (bt p), .retAddr 0] (r1.toList ++ []) h1 Q) := fun _ => by
      refine c_dgM (d := d + 1) hg (fun z => absurd z a3) (fun _ => p127_72 hg (fun _ => c_leM (d := d + 1) hg (fun z => absurd z a2) (fun _ => ?_)) (fun w => absurd rfl w))
      have st : ∀ v, (t_sm (bt p) (t_by N bt (p + 1)) = v) → q = p + 1 → Q none (n, sl, ln, q_u (q_u D 67 7 (nI (p + 1))) 67 9 v, dl, dr) := fun v hv hq1 => by
        refine kk _ dl (t_mf_t (t_mf_u (Or.inl rfl)) (t_mf_u (Or.inr (Or.inr (Or.inl rfl))))) ?_
        refine ⟨by rw [hq1]; rfl, h8, hpN, hq, htk0, fun z => absurd z (by omega), fun _ z => absurd z a2, fun _ z => absurd z a3, fun _ _ _ => hv.symm⟩
      have st2 : ∀ (v : Int32) (D2 : Nat → Nat → Int32), D2 = q_u (q_u D 67 7 (nI (p + 1))) 67 9 v → t_sm (bt p) (t_by N bt (p + 1)) = v → q = p + 1 → Q none (n, sl, ln, D2, dl, dr) := fun v D2 e hv hq1 => by rw [e]; exact st v hv hq1
      have eq : ∀ x, bt p = x → (x = 61 ∨ x = 35 ∨ x = 43 ∨ x = 45 ∨ x = 42 ∨ x = 47 ∨ x = 40 ∨ x = 41 ∨ x = 59) → ¬ x = 60 → ¬ x = 62 → t_sm (bt p) (t_by N bt (p + 1)) = bt p ∧ q = p + 1 := fun x e hx h1 h2 => by
        rw [a6]
        unfold t_sm t_sg
        rw [e, if_neg h1, if_neg h2, if_pos hx, if_neg h1, if_neg h2, if_pos hx]
        exact ⟨rfl, rfl⟩
      have one : ∀ x, bt p = x → (x = 61 ∨ x = 35 ∨ x = 43 ∨ x = 45 ∨ x = 42 ∨ x = 47 ∨ x = 40 ∨ x = 41 ∨ x = 59) → ¬ x = 60 → ¬ x = 62 → Q none (n, sl, ln, q_u (q_u D 67 7 (nI (p + 1))) 67 9 (bt p), dl, dr) := fun x e hx h1 h2 => st (bt p) (eq x e hx h1 h2).1 (eq x e hx h1 h2).2
      have cmp : ∀ (x y4 : Int32), bt p = x → ((x = 60 ∧ y4 = 4) ∨ (x = 62 ∧ y4 = 5)) → q_EX q_KD (d + 2) 128 0 [.ref 67, .int (nI (p + 1))] [] (n, sl, ln, q_u (q_u D 67 7 (nI (p + 1))) 67 9 (bt p), dl, dr) (fun r1 h1 => q_EX q_KD (d + 3) 127 360 [.ref 67, .int (bt p), .retAddr 0] (r1.toList ++ []) h1 Q) := fun x y4 e hx => by
        refine c_byte (N := N) (bt := bt) hN (by omega) h4 hb hg ?_
        have yes : t_by N bt (p + 1) = 61 → Q none (n, sl, ln, q_u (q_u (q_u (q_u D 67 7 (nI (p + 1))) 67 9 (bt p)) 67 7 (nI (p + 2))) 67 9 y4, dl, dr) := fun z => by
          have hq2 : q = p + 2 ∧ t_sm (bt p) (t_by N bt (p + 1)) = y4 := by
            rw [a6]
            unfold t_sm t_sg
            rcases hx with ⟨x1, x2⟩ | ⟨x1, x2⟩
            · rw [e, if_pos x1, if_pos z, if_pos x1, if_pos z]; exact ⟨rfl, x2.symm⟩
            · rw [e, if_neg (by rw [x1]; decide), if_pos x1, if_pos z, if_neg (by rw [x1]; decide), if_pos x1, if_pos z]; exact ⟨rfl, x2.symm⟩
          refine kk _ dl (t_mf_t (t_mf_t (t_mf_t (t_mf_u (Or.inl rfl)) (t_mf_u (Or.inr (Or.inr (Or.inl rfl))))) (t_mf_u (Or.inl rfl))) (t_mf_u (Or.inr (Or.inr (Or.inl rfl))))) ?_
          exact ⟨by rw [hq2.1]; rfl, h8, hpN, hq, htk0, fun z => absurd z (by omega), fun _ z => absurd z a2, fun _ z => absurd z a3, fun _ _ _ => hq2.2.symm⟩
        have e7 : (q_u (q_u D 67 7 (nI (p + 1))) 67 9 (bt p)) 67 7 + 1 = nI (p + 2) := by
          show nI (p + 1) + 1 = nI (p + 2)
          rw [nI_1]
        refine p127_360 hg (fun z => ?_) (fun z1 z2 => ?_) (fun z1 z2 => ?_)
        · have hq1 : q = p + 1 ∧ t_sm (bt p) (t_by N bt (p + 1)) = bt p := by
            rw [a6]
            unfold t_sm t_sg
            rcases hx with ⟨x1, x2⟩ | ⟨x1, x2⟩
            · rw [e, if_pos x1, if_neg z, if_pos x1, if_neg z]; exact ⟨rfl, rfl⟩
            · rw [e, if_neg (by rw [x1]; decide), if_pos x1, if_neg z, if_neg (by rw [x1]; decide), if_pos x1, if_neg z]; exact ⟨rfl, rfl⟩
          exact st (bt p) hq1.2 hq1.1
        · rw [e7]
          have := yes z1
          rcases hx with ⟨x1, _⟩ | ⟨_, x2⟩
          · exact absurd (e.trans x1) z2
          · rw [x2] at this; exact this
        · rw [e7]
          have := yes z1
          rcases hx with ⟨_, x2⟩ | ⟨x1, _⟩
          · rw [x2] at this; exact this
          · exact absurd (x1.symm.trans (e.symm.trans z2)) (by decide)
      refine p127_148 hg (fun _ e => by rw [h7, nI_1]; exact cmp 60 4 e (Or.inl ⟨rfl, rfl⟩)) (fun _ _ e => by rw [h7, nI_1]; exact cmp 62 5 e (Or.inr ⟨rfl, rfl⟩)) (fun _ _ _ e => by rw [h7, nI_1]; exact one 61 e (by decide) (by decide) (by decide)) (fun _ _ _ _ e => by rw [h7, nI_1]; exact one 35 e (by decide) (by decide) (by decide)) (fun _ _ _ _ _ e => by rw [h7, nI_1]; exact one 43 e (by decide) (by decide) (by decide)) (fun _ _ _ _ _ _ e => by rw [h7, nI_1]; exact one 45 e (by decide) (by decide) (by decide)) (fun _ _ _ _ _ _ _ e => by rw [h7, nI_1]; exact one 42 e (by decide) (by decide) (by decide)) (fun _ _ _ _ _ _ _ _ e => by rw [h7, nI_1]; exact one 47 e (by decide) (by decide) (by decide)) (fun _ _ _ _ _ _ _ _ _ e => by rw [h7, nI_1]; exact one 40 e (by decide) (by decide) (by decide)) (fun _ _ _ _ _ _ _ _ _ _ e => by rw [h7, nI_1]; exact one 41 e (by decide) (by decide) (by decide)) (fun _ n60 n62 n61 n35 n43 n45 n42 n47 n40 n41 n59 => ?_) (fun _ _ _ _ _ _ _ _ _ _ _ e => by rw [h7, nI_1]; exact one 59 e (by decide) (by decide) (by decide)) (fun w => absurd rfl w)
      rw [h7, nI_1]
      have hno : ¬ (bt p = 61 ∨ bt p = 35 ∨ bt p = 43 ∨ bt p = 45 ∨ bt p = 42 ∨ bt p = 47 ∨ bt p = 40 ∨ bt p = 41 ∨ bt p = 59) := fun z => z.elim n61 (fun z => z.elim n35 (fun z => z.elim n43 (fun z => z.elim n45 (fun z => z.elim n42 (fun z => z.elim n47 (fun z => z.elim n40 (fun z => z.elim n41 n59)))))))
      refine st 3 ?_ ?_
      · unfold t_sm; rw [if_neg n60, if_neg n62, if_neg hno]
      · rw [a6]; unfold t_sg; rw [if_neg n60, if_neg n62, if_neg hno]
    exact p127_55 hg hnn (fun w => absurd w (q_not_lt (hpos p a1)))
/-- nextToken -/
theorem c_next {p q : Nat} {c : Int32} (hN : N ≤ 300) (hpos : ∀ i, i < N → (0 : Int32) ≤ bt i) (hg : q_Gr n ln dr) : ∀ (f i : Nat) (D : Nat → Nat → Int32), p - i ≤ f → t_nt N bt i p c q → D 67 4 = nI N → (∀ i, i < N → D 71 i = bt i) → D 67 7 = nI i →
    (∀ D' dl', t_mf D D' → t_ms (D' 67) (dl' 67 11) N bt p c q → Q none (n, sl, ln, D', dl', dr)) → q_EX q_KD (d + 3) 127 0 [.ref 67, .retAddr 0, .retAddr 0] [] (n, sl, ln, D, dl, dr) Q := by
  intro f
  induction f with
  | zero =>
    intro i D hf hnt h4 hb h7 kk
    obtain ⟨n1, n2, n3, n4⟩ := hnt
    have ei : p = i := by have := n1.1; omega
    subst ei
    have hnb : ¬ t_by N bt p = 32 ∧ ¬ t_by N bt p = 10 := by
      unfold t_by
      by_cases h : p < N
      · rw [if_pos h]; exact ⟨fun z => n1.2.2 ⟨h, Or.inl z⟩, fun z => n1.2.2 ⟨h, Or.inr z⟩⟩
      · rw [if_neg h]; decide
    refine p127_0 hg ?_
    rw [h7]
    refine c_byte (N := N) (bt := bt) hN (by omega) h4 hb hg (p127_8 hg (fun w => absurd w hnb.1) (fun _ => ?_))
    rw [h7]
    refine c_byte (N := N) (bt := bt) hN (by omega) h4 hb hg (p127_21 hg (fun _ => ?_) (fun w => absurd w hnb.2))
    rw [h7]
    refine c_byte (N := N) (bt := bt) hN (by omega) h4 hb hg ?_
    exact c_nx55 (d := d) hN hpos hg n2 n3 n4 _ h4 hb h7 rfl (fun D' dl' f1 f2 => kk D' dl' (t_mf_t (t_mf_u (Or.inr (Or.inl rfl))) f1) f2)
  | succ f ih =>
    intro i D hf hnt h4 hb h7 kk
    obtain ⟨n1, n2, n3, n4⟩ := hnt
    by_cases hi : t_pb N bt i
    · have hlt := hi.1
      have hby : t_by N bt i = bt i := by unfold t_by; rw [if_pos hlt]
      have hs := t_re_s n1 hi
      have nxt : q_EX q_KD (d + 3) 127 0 [.ref 67, .retAddr 0, .retAddr 0] [] (n, sl, ln, q_u D 67 7 (D 67 7 + 1), dl, dr) Q := by
        rw [h7, nI_1]
        exact ih (i + 1) _ (by omega) ⟨hs, n2, n3, n4⟩ h4 hb (q_uE _ _ _ _) (fun D' dl' f1 f2 => kk D' dl' (t_mf_t (t_mf_u (Or.inl rfl)) f1) f2)
      refine p127_0 hg ?_
      rw [h7]
      refine c_byte (N := N) (bt := bt) hN (by omega) h4 hb hg (p127_8 hg (fun _ => nxt) (fun w => ?_))
      rw [h7]
      refine c_byte (N := N) (bt := bt) hN (by omega) h4 hb hg (p127_21 hg (fun w2 => ?_) (fun _ => nxt))
      rw [hby] at w w2
      exact absurd hi.2 (fun z => z.elim w w2)
    · have ei : p = i := t_re_0 n1 hi
      exact ih i D (by omega) ⟨n1, n2, n3, n4⟩ h4 hb h7 kk
end
