/-! ROWS BELOW 6 are never written -/
def u_sm (h h' : q_H) : Prop := (∀ k, k < 6 → h'.2.2.1 k = h.2.2.1 k ∧ h'.2.2.2.1 k = h.2.2.2.1 k)
theorem u_sm_r (h : q_H) : u_sm h h := fun _ _ => ⟨rfl, rfl⟩
theorem u_sm_t {h1 h2 h3 : q_H} (a : u_sm h1 h2) (b : u_sm h2 h3) : u_sm h1 h3 := fun k hk => ⟨(b k hk).1.trans (a k hk).1, (b k hk).2.trans (a k hk).2⟩
theorem u_smI {h : q_H} {a j : Nat} {v : Int32} (h6 : 6 ≤ a) : u_sm h (q_sI h a j v) := fun k hk => ⟨rfl, q_uR (show ¬ k = a by omega)⟩
theorem u_smO {h : q_H} {s : Nat} (h6 : 6 ≤ h.1) : u_sm h (q_nO h s) := fun k hk => ⟨rfl, q_upN _ _ (show ¬ k = h.1 by omega)⟩
theorem u_smA {h : q_H} {L : Nat} {f : Nat → Int32} (h6 : 6 ≤ h.1) : u_sm h (q_nA h L f) := fun k hk => ⟨q_upN _ _ (show ¬ k = h.1 by omega), q_upN _ _ (show ¬ k = h.1 by omega)⟩
theorem u_smC {h : q_H} {a : Nat} {f : Nat → Int32} (h6 : 6 ≤ a) : u_sm h (q_sA h a f) := fun k hk => ⟨rfl, q_upN _ _ (show ¬ k = a by omega)⟩
def u_oS (h : q_H) (o : q_O) : Prop := match o with
  | .inl (_, _, _, h2) => u_sm h h2
  | .inr _ => True
set_option maxHeartbeats 2000000 in
theorem u_sr {kd : Nat → Nat} {i pc : Nat} {ins : Instr} {len : Nat} {lk : q_LK} {ls st : List Value} {h : q_H} {o : q_O} (hs : q_sr kd i pc ins len lk ls st h o) (h6 : 6 ≤ h.1) : u_oS h o := by
  cases ins <;> first
    | exact False.elim hs
    | (repeat' (first | refine Or.elim hs (fun hs => ?_) (fun hs => ?_) | refine Exists.elim hs (fun _ hs => ?_) | refine And.elim (fun _ hs => ?_) hs)
       all_goals (subst hs; first | exact u_sm_r _ | exact trivial | exact u_smI (by assumption) | exact u_smO h6 | exact u_smA h6 | exact u_smC (by assumption) | exact fun _ _ => ⟨rfl, rfl⟩))
theorem u_X (kd : Nat → Nat) : ∀ n d i pc ls st h r h', q_X kd n d i pc ls st h r h' → 6 ≤ h.1 → u_sm h h' ∧ h.1 ≤ h'.1 := by
  intro n
  induction n with
  | zero => intro d i pc ls st h r h' q; exact q.elim
  | succ n ih =>
    intro d i pc ls st h r h' q h6
    obtain ⟨ins, len, lk, o, g1, g2, g3⟩ := q
    have gs := u_sr g2 h6
    match o, g3, gs with
    | .inl (pc2, ls2, st2, h2), g3, gs =>
      obtain ⟨a1, a2⟩ := ih _ _ _ _ _ _ _ _ g3.2.2 (Nat.le_trans h6 g3.1)
      exact ⟨u_sm_t gs a1, Nat.le_trans g3.1 a2⟩
    | .inr (.inl v), g3, _ =>
      rw [← g3.2]
      exact ⟨u_sm_r _, Nat.le_refl _⟩
    | .inr (.inr (y, as, rs)), g3, _ =>
      obtain ⟨d2, r1, hh1, e, hl, q1, q2⟩ := g3
      obtain ⟨a1, a2⟩ := ih _ _ _ _ _ _ _ _ q1 h6
      obtain ⟨b1, b2⟩ := ih _ _ _ _ _ _ _ _ q2 (Nat.le_trans h6 a2)
      exact ⟨u_sm_t a1 b1, Nat.le_trans a2 b2⟩
theorem u_EX {kd : Nat → Nat} {d i pc : Nat} {ls st : List Value} {h : q_H} {Q Q' : Option Value → q_H → Prop} (q : q_EX kd d i pc ls st h Q) (h6 : 6 ≤ h.1) (hq : ∀ r h', Q r h' → u_sm h h' → h.1 ≤ h'.1 → Q' r h') : q_EX kd d i pc ls st h Q' := by
  obtain ⟨n, r, h', q1, q2⟩ := q
  obtain ⟨a1, a2⟩ := u_X kd n d i pc ls st h r h' q1 h6
  exact ⟨n, r, h', q1, hq r h' q2 a1 a2⟩
