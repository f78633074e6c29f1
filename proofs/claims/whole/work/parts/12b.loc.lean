/-! what a local holds that nobody reads does no harm -/
def q_le : List Value → List Value → Prop
  | [], [] => True
  | a :: l, b :: m => (a = b ∨ a = .retAddr 0) ∧ q_le l m
  | [], _ :: _ => False
  | _ :: _, [] => False
theorem q_le_at : ∀ {l m : List Value} {k : Nat} {v : Value}, q_le l m → l[k]? = some v → v ≠ .retAddr 0 → m[k]? = some v
  | [], _, _, _, _, h, _ => by simp at h
  | a :: l, [], _, _, hl, _, _ => hl.elim
  | a :: l, b :: m, 0, v, hl, h, hv => by
    simp at h
    subst h
    rcases hl.1 with e | e
    · rw [e]; rfl
    · exact absurd e hv
  | a :: l, b :: m, k + 1, v, hl, h, hv => by
    simp at h
    simpa using q_le_at hl.2 h hv
theorem q_le_set : ∀ {l m : List Value} (k : Nat) (v : Value), q_le l m → q_le (l.set k v) (m.set k v)
  | [], [], _, _, _ => trivial
  | [], _ :: _, _, _, h => h.elim
  | _ :: _, [], _, _, h => h.elim
  | a :: l, b :: m, 0, v, h => ⟨Or.inl rfl, h.2⟩
  | a :: l, b :: m, k + 1, v, h => ⟨h.1, q_le_set k v h.2⟩
theorem q_le_setR : ∀ {l m : List Value} (k : Nat) (v : Value), q_le l m → l[k]? = some (.retAddr 0) → q_le l (m.set k v)
  | [], _, _, _, _, h => by simp at h
  | _ :: _, [], _, _, h, _ => h.elim
  | a :: l, b :: m, 0, v, h, e => by
    simp at e
    exact ⟨Or.inr e, h.2⟩
  | a :: l, b :: m, k + 1, v, h, e => by
    simp at e
    exact ⟨h.1, q_le_setR k v h.2 e⟩
theorem q_le_or : ∀ {l m : List Value} {k : Nat} {v : Value}, q_le l m → m[k]? = some v → l[k]? = some v ∨ l[k]? = some (.retAddr 0)
  | [], [], _, _, _, h => by simp at h
  | [], _ :: _, _, _, hl, _ => hl.elim
  | _ :: _, [], _, _, hl, _ => hl.elim
  | a :: l, b :: m, 0, v, hl, h => by
    simp at h
    subst h
    rcases hl.1 with e | e
    · left; rw [e]; rfl
    · right; rw [e]; rfl
  | a :: l, b :: m, k + 1, v, hl, h => by
    simp at h
    simpa using q_le_or hl.2 h
theorem q_le_kl {l m : List Value} (i : Nat) (h : q_le l m) : q_le (q_kl l i) (q_kl m i) := by
  cases i with
  | zero => exact h
  | succ j =>
    have key : ∀ v, m[j]? = some v → (v.category = 2) → q_le (q_kl l (j + 1)) (m.set j (.retAddr 0)) := by
      intro v hv hc
      rcases q_le_or h hv with e | e
      · have e2 : q_kl l (j + 1) = l.set j (.retAddr 0) := by
          unfold q_kl
          simp only [e]
          cases v <;> first | rfl | (simp [Value.category] at hc; done)
        rw [e2]
        exact q_le_set j _ h
      · have e2 : q_kl l (j + 1) = l := by
          unfold q_kl
          simp only [e]
        rw [e2]
        exact q_le_setR j _ h e
    have none : (∀ v, m[j]? = some v → v.category ≠ 2) → q_le (q_kl l (j + 1)) m := by
      intro hn
      have e2 : q_kl l (j + 1) = l := by
        unfold q_kl
        cases hl : l[j]? with
        | none => simp [hl]
        | some u =>
          cases u with
          | long x => exact absurd rfl (hn _ (q_le_at h hl (by intro e; cases e)))
          | double x => exact absurd rfl (hn _ (q_le_at h hl (by intro e; cases e)))
          | _ => simp [hl]
      rw [e2]
      exact h
    cases hm : m[j]? with
    | none =>
      have e : q_kl m (j + 1) = m := by unfold q_kl; simp only [hm]
      rw [e]
      exact none (fun v hv => by rw [hm] at hv; cases hv)
    | some u =>
      cases u with
      | long x =>
        have e : q_kl m (j + 1) = m.set j (.retAddr 0) := by unfold q_kl; simp only [hm]
        rw [e]
        exact key _ hm rfl
      | double x =>
        have e : q_kl m (j + 1) = m.set j (.retAddr 0) := by unfold q_kl; simp only [hm]
        rw [e]
        exact key _ hm rfl
      | _ =>
        have e : q_kl m (j + 1) = m := by unfold q_kl; simp only [hm]
        rw [e]
        exact none (fun v hv => by rw [hm] at hv; cases hv; intro q; cases q)
theorem q_le_s1 {l m : List Value} (i : Nat) (v : Value) (h : q_le l m) : q_le (q_s1 l i v) (q_s1 m i v) := q_le_set i v (q_le_kl i h)
theorem q_le_s2 {l m : List Value} (i : Nat) (v : Value) (h : q_le l m) : q_le (q_s2 l i v) (q_s2 m i v) := q_le_set (i + 1) _ (q_le_set i v (q_le_kl i h))
set_option maxHeartbeats 4000000 in
theorem q_loc1 {kd : Nat → Nat} {i pc : Nat} {ins : Instr} {len : Nat} {lk : q_LK} {ls ls' st : List Value} {h : q_H} {pc2 : Nat} {ls2 st2 : List Value} {h2 : q_H} (hl : q_le ls ls') (hs : q_sr kd i pc ins len lk ls st h (.inl (pc2, ls2, st2, h2))) : ∃ ls2', q_le ls2 ls2' ∧ q_sr kd i pc ins len lk ls' st h (.inl (pc2, ls2', st2, h2)) := by
  cases ins
  case iconst n =>
    obtain ⟨rfl, ho⟩ := hs
    cases ho
    exact ⟨ls', hl, ⟨rfl, rfl⟩⟩
  case bipush n =>
    obtain ⟨rfl, ho⟩ := hs
    cases ho
    exact ⟨ls', hl, ⟨rfl, rfl⟩⟩
  case sipush n =>
    obtain ⟨rfl, ho⟩ := hs
    cases ho
    exact ⟨ls', hl, ⟨rfl, rfl⟩⟩
  case lconst n =>
    obtain ⟨rfl, ho⟩ := hs
    cases ho
    exact ⟨ls', hl, ⟨rfl, rfl⟩⟩
  case aconst_null =>
    obtain ⟨rfl, ho⟩ := hs
    cases ho
    exact ⟨ls', hl, ⟨rfl, rfl⟩⟩
  case ldc_w n =>
    obtain ⟨rfl, ho⟩ := hs
    cases ho
    exact ⟨ls', hl, ⟨rfl, rfl⟩⟩
  case ldc2_w n =>
    obtain ⟨rfl, ho⟩ := hs
    cases ho
    exact ⟨ls', hl, ⟨rfl, rfl⟩⟩
  case iadd =>
    obtain ⟨rfl, x, y, r, rfl, ho⟩ := hs
    cases ho
    exact ⟨ls', hl, ⟨rfl, x, y, _, rfl, rfl⟩⟩
  case isub =>
    obtain ⟨rfl, x, y, r, rfl, ho⟩ := hs
    cases ho
    exact ⟨ls', hl, ⟨rfl, x, y, _, rfl, rfl⟩⟩
  case imul =>
    obtain ⟨rfl, x, y, r, rfl, ho⟩ := hs
    cases ho
    exact ⟨ls', hl, ⟨rfl, x, y, _, rfl, rfl⟩⟩
  case iand =>
    obtain ⟨rfl, x, y, r, rfl, ho⟩ := hs
    cases ho
    exact ⟨ls', hl, ⟨rfl, x, y, _, rfl, rfl⟩⟩
  case ior =>
    obtain ⟨rfl, x, y, r, rfl, ho⟩ := hs
    cases ho
    exact ⟨ls', hl, ⟨rfl, x, y, _, rfl, rfl⟩⟩
  case ixor =>
    obtain ⟨rfl, x, y, r, rfl, ho⟩ := hs
    cases ho
    exact ⟨ls', hl, ⟨rfl, x, y, _, rfl, rfl⟩⟩
  case ishl =>
    obtain ⟨rfl, x, y, r, rfl, ho⟩ := hs
    cases ho
    exact ⟨ls', hl, ⟨rfl, x, y, _, rfl, rfl⟩⟩
  case ishr =>
    obtain ⟨rfl, x, y, r, rfl, ho⟩ := hs
    cases ho
    exact ⟨ls', hl, ⟨rfl, x, y, _, rfl, rfl⟩⟩
  case iushr =>
    obtain ⟨rfl, x, y, r, rfl, ho⟩ := hs
    cases ho
    exact ⟨ls', hl, ⟨rfl, x, y, _, rfl, rfl⟩⟩
  case ladd =>
    obtain ⟨rfl, x, y, r, rfl, ho⟩ := hs
    cases ho
    exact ⟨ls', hl, ⟨rfl, x, y, _, rfl, rfl⟩⟩
  case lsub =>
    obtain ⟨rfl, x, y, r, rfl, ho⟩ := hs
    cases ho
    exact ⟨ls', hl, ⟨rfl, x, y, _, rfl, rfl⟩⟩
  case lmul =>
    obtain ⟨rfl, x, y, r, rfl, ho⟩ := hs
    cases ho
    exact ⟨ls', hl, ⟨rfl, x, y, _, rfl, rfl⟩⟩
  case lor =>
    obtain ⟨rfl, x, y, r, rfl, ho⟩ := hs
    cases ho
    exact ⟨ls', hl, ⟨rfl, x, y, _, rfl, rfl⟩⟩
  case lshl =>
    obtain ⟨rfl, x, y, r, rfl, ho⟩ := hs
    cases ho
    exact ⟨ls', hl, ⟨rfl, x, y, _, rfl, rfl⟩⟩
  case lcmp =>
    obtain ⟨rfl, x, y, r, rfl, ho⟩ := hs
    cases ho
    exact ⟨ls', hl, ⟨rfl, x, y, _, rfl, rfl⟩⟩
  case idiv =>
    obtain ⟨rfl, x, y, r, rfl, hne, ho⟩ := hs
    cases ho
    exact ⟨ls', hl, ⟨rfl, x, y, _, rfl, hne, rfl⟩⟩
  case irem =>
    obtain ⟨rfl, x, y, r, rfl, hne, ho⟩ := hs
    cases ho
    exact ⟨ls', hl, ⟨rfl, x, y, _, rfl, hne, rfl⟩⟩
  case ldiv =>
    obtain ⟨rfl, x, y, r, rfl, hne, ho⟩ := hs
    cases ho
    exact ⟨ls', hl, ⟨rfl, x, y, _, rfl, hne, rfl⟩⟩
  case ineg =>
    obtain ⟨rfl, x, r, rfl, ho⟩ := hs
    cases ho
    exact ⟨ls', hl, ⟨rfl, x, _, rfl, rfl⟩⟩
  case lneg =>
    obtain ⟨rfl, x, r, rfl, ho⟩ := hs
    cases ho
    exact ⟨ls', hl, ⟨rfl, x, _, rfl, rfl⟩⟩
  case i2l =>
    obtain ⟨rfl, x, r, rfl, ho⟩ := hs
    cases ho
    exact ⟨ls', hl, ⟨rfl, x, _, rfl, rfl⟩⟩
  case l2i =>
    obtain ⟨rfl, x, r, rfl, ho⟩ := hs
    cases ho
    exact ⟨ls', hl, ⟨rfl, x, _, rfl, rfl⟩⟩
  case i2b =>
    obtain ⟨rfl, x, r, rfl, ho⟩ := hs
    cases ho
    exact ⟨ls', hl, ⟨rfl, x, _, rfl, rfl⟩⟩
  case i2c =>
    obtain ⟨rfl, x, r, rfl, ho⟩ := hs
    cases ho
    exact ⟨ls', hl, ⟨rfl, x, _, rfl, rfl⟩⟩
  case dup =>
    obtain ⟨rfl, v, r, rfl, hc, ho⟩ := hs
    cases ho
    exact ⟨ls', hl, ⟨rfl, v, _, rfl, hc, rfl⟩⟩
  case pop =>
    obtain ⟨rfl, v, r, rfl, hc, ho⟩ := hs
    cases ho
    exact ⟨ls', hl, ⟨rfl, v, _, rfl, hc, rfl⟩⟩
  case dup2 =>
    obtain ⟨rfl, v, w, r, rfl, hc, hc2, ho⟩ := hs
    cases ho
    exact ⟨ls', hl, ⟨rfl, v, w, _, rfl, hc, hc2, rfl⟩⟩
  case goto n =>
    obtain ⟨rfl, tgt, ht, ho⟩ := hs
    cases ho
    exact ⟨ls', hl, ⟨rfl, _, ht, rfl⟩⟩
  case tableswitch a b c d =>
    obtain ⟨x, r, off, tgt, rfl, hsw, ht, ho⟩ := hs
    cases ho
    exact ⟨ls', hl, ⟨x, _, _, _, rfl, hsw, ht, rfl⟩⟩
  case lookupswitch a b =>
    obtain ⟨hsort, x, r, off, tgt, rfl, hsw, ht, ho⟩ := hs
    cases ho
    exact ⟨ls', hl, ⟨hsort, x, _, _, _, rfl, hsw, ht, rfl⟩⟩
  case iaload =>
    obtain ⟨rfl, x, a, r, rfl, hk, ha, hin, ho⟩ := hs
    cases ho
    exact ⟨ls', hl, ⟨rfl, x, a, _, rfl, hk, ha, hin, rfl⟩⟩
  case laload =>
    obtain ⟨rfl, x, a, r, rfl, hk, ha, hin, ho⟩ := hs
    cases ho
    exact ⟨ls', hl, ⟨rfl, x, a, _, rfl, hk, ha, hin, rfl⟩⟩
  case aaload =>
    obtain ⟨rfl, x, a, r, rfl, hk, ha, hin, ho⟩ := hs
    cases ho
    exact ⟨ls', hl, ⟨rfl, x, a, _, rfl, hk, ha, hin, rfl⟩⟩
  case baload =>
    obtain ⟨rfl, x, a, r, rfl, hk, ha, hin, ho⟩ := hs
    cases ho
    exact ⟨ls', hl, ⟨rfl, x, a, _, rfl, hk, ha, hin, rfl⟩⟩
  case iastore =>
    obtain ⟨rfl, y, x, a, r, rfl, hk, h6, ha, hin, ho⟩ := hs
    cases ho
    exact ⟨ls', hl, ⟨rfl, y, x, a, _, rfl, hk, h6, ha, hin, rfl⟩⟩
  case lastore =>
    obtain ⟨rfl, y, x, a, r, rfl, hk, h6, ha, hin, ho⟩ := hs
    cases ho
    exact ⟨ls', hl, ⟨rfl, y, x, a, _, rfl, hk, h6, ha, hin, rfl⟩⟩
  case aastore =>
    obtain ⟨rfl, v, x, a, r, rfl, hv, hk, h6, ha, hin, ho⟩ := hs
    cases ho
    exact ⟨ls', hl, ⟨rfl, v, x, a, _, rfl, hv, hk, h6, ha, hin, rfl⟩⟩
  case arraylength =>
    obtain ⟨rfl, a, r, rfl, hk, hk2, ha, ho⟩ := hs
    cases ho
    exact ⟨ls', hl, ⟨rfl, a, _, rfl, hk, hk2, ha, rfl⟩⟩
  case new n =>
    obtain ⟨rfl, hk, ho⟩ := hs
    cases ho
    exact ⟨ls', hl, ⟨rfl, hk, rfl⟩⟩
  case newarray t =>
    obtain ⟨rfl, x, r, rfl, hn, hn2, ht, ho⟩ := hs
    cases ho
    exact ⟨ls', hl, ⟨rfl, x, _, rfl, hn, hn2, ht, rfl⟩⟩
  case anewarray n =>
    obtain ⟨rfl, x, r, rfl, hn, hn2, hk, ho⟩ := hs
    cases ho
    exact ⟨ls', hl, ⟨rfl, x, _, rfl, hn, hn2, hk, rfl⟩⟩
  case checkcast n =>
    obtain ⟨rfl, a, r, rfl, hk, h6, ha, ho⟩ := hs
    cases ho
    exact ⟨ls', hl, ⟨rfl, a, _, rfl, hk, h6, ha, rfl⟩⟩
  case ldc n =>
    obtain ⟨rfl, ⟨ht, ho⟩ | ⟨ht, ho⟩⟩ := hs
    · cases ho
      exact ⟨ls', hl, ⟨rfl, Or.inl ⟨ht, rfl⟩⟩⟩
    · cases ho
      exact ⟨ls', hl, ⟨rfl, Or.inr ⟨ht, rfl⟩⟩⟩
  case ifCond cn off =>
    obtain ⟨rfl, x, r, tgt, rfl, ht, ⟨hc, ho⟩ | ⟨hc, ho⟩⟩ := hs
    · cases ho
      exact ⟨ls', hl, ⟨rfl, x, _, _, rfl, ht, Or.inl ⟨hc, rfl⟩⟩⟩
    · cases ho
      exact ⟨ls', hl, ⟨rfl, x, _, _, rfl, ht, Or.inr ⟨hc, rfl⟩⟩⟩
  case if_icmp cn off =>
    obtain ⟨rfl, x, y, r, tgt, rfl, ht, ⟨hc, ho⟩ | ⟨hc, ho⟩⟩ := hs
    · cases ho
      exact ⟨ls', hl, ⟨rfl, x, y, _, _, rfl, ht, Or.inl ⟨hc, rfl⟩⟩⟩
    · cases ho
      exact ⟨ls', hl, ⟨rfl, x, y, _, _, rfl, ht, Or.inr ⟨hc, rfl⟩⟩⟩
  case ifnull off =>
    obtain ⟨rfl, v, r, tgt, rfl, ht, ⟨hc, ho⟩ | ⟨hc, ho⟩⟩ := hs
    · cases ho
      exact ⟨ls', hl, ⟨rfl, v, _, _, rfl, ht, Or.inl ⟨hc, rfl⟩⟩⟩
    · cases ho
      exact ⟨ls', hl, ⟨rfl, v, _, _, rfl, ht, Or.inr ⟨hc, rfl⟩⟩⟩
  case ifnonnull off =>
    obtain ⟨rfl, v, r, tgt, rfl, ht, ⟨hc, ho⟩ | ⟨hc, ho⟩⟩ := hs
    · cases ho
      exact ⟨ls', hl, ⟨rfl, v, _, _, rfl, ht, Or.inl ⟨hc, rfl⟩⟩⟩
    · cases ho
      exact ⟨ls', hl, ⟨rfl, v, _, _, rfl, ht, Or.inr ⟨hc, rfl⟩⟩⟩
  case bastore =>
    obtain ⟨rfl, y, x, a, r, rfl, h6, ha, hin, ⟨hk, ho⟩ | ⟨hk, ho⟩⟩ := hs
    · cases ho
      exact ⟨ls', hl, ⟨rfl, y, x, a, _, rfl, h6, ha, hin, Or.inl ⟨hk, rfl⟩⟩⟩
    · cases ho
      exact ⟨ls', hl, ⟨rfl, y, x, a, _, rfl, h6, ha, hin, Or.inr ⟨hk, rfl⟩⟩⟩
  case getfield n =>
    obtain ⟨rfl, a, r, rfl, hk, ha, ⟨ht, h6, ho⟩ | ⟨ht, h6, ho⟩ | ⟨ht, h6, ho⟩ | ⟨ht, h6, ho⟩ | ⟨ht, h6, ho⟩⟩ := hs
    · cases ho
      exact ⟨ls', hl, ⟨rfl, a, _, rfl, hk, ha, Or.inl ⟨ht, h6, rfl⟩⟩⟩
    · cases ho
      exact ⟨ls', hl, ⟨rfl, a, _, rfl, hk, ha, Or.inr (Or.inl ⟨ht, h6, rfl⟩)⟩⟩
    · cases ho
      exact ⟨ls', hl, ⟨rfl, a, _, rfl, hk, ha, Or.inr (Or.inr (Or.inl ⟨ht, h6, rfl⟩))⟩⟩
    · cases ho
      exact ⟨ls', hl, ⟨rfl, a, _, rfl, hk, ha, Or.inr (Or.inr (Or.inr (Or.inl ⟨ht, h6, rfl⟩)))⟩⟩
    · cases ho
      exact ⟨ls', hl, ⟨rfl, a, _, rfl, hk, ha, Or.inr (Or.inr (Or.inr (Or.inr (⟨ht, h6, rfl⟩))))⟩⟩
  case putfield n =>
    obtain ⟨rfl, a, r, hk, h6, ha, ⟨x, ht, hst, ho⟩ | ⟨x, ht, hn, hst, ho⟩ | ⟨x, ht, hst, ho⟩ | ⟨x, ht, hst, ho⟩⟩ := hs
    · cases ho
      exact ⟨ls', hl, ⟨rfl, a, _, hk, h6, ha, Or.inl ⟨x, ht, hst, rfl⟩⟩⟩
    · cases ho
      exact ⟨ls', hl, ⟨rfl, a, _, hk, h6, ha, Or.inr (Or.inl ⟨x, ht, hn, hst, rfl⟩)⟩⟩
    · cases ho
      exact ⟨ls', hl, ⟨rfl, a, _, hk, h6, ha, Or.inr (Or.inr (Or.inl ⟨x, ht, hst, rfl⟩))⟩⟩
    · cases ho
      exact ⟨ls', hl, ⟨rfl, a, _, hk, h6, ha, Or.inr (Or.inr (Or.inr (⟨x, ht, hst, rfl⟩)))⟩⟩
  case getstatic n =>
    obtain ⟨rfl, ⟨ht, ho⟩ | ⟨ht, ho⟩ | ⟨ht, ho⟩⟩ := hs
    · cases ho
      exact ⟨ls', hl, ⟨rfl, Or.inl ⟨ht, rfl⟩⟩⟩
    · cases ho
      exact ⟨ls', hl, ⟨rfl, Or.inr (Or.inl ⟨ht, rfl⟩)⟩⟩
    · cases ho
      exact ⟨ls', hl, ⟨rfl, Or.inr (Or.inr (⟨ht, rfl⟩))⟩⟩
  case invokespecial n =>
    obtain ⟨rfl, ⟨ht, a, r, rfl, h8, ho⟩ | ⟨ht, a, as, rs, hst, hm, h8, ho⟩⟩ := hs
    · cases ho
      exact ⟨ls', hl, ⟨rfl, Or.inl ⟨ht, a, _, rfl, h8, rfl⟩⟩⟩
    · cases ho
  case invokevirtual n =>
    obtain ⟨rfl, ⟨ht, a, r, rfl, h8, hk, h6, ha, hln, hkn, ho⟩ | ⟨ht, a, as, rs, hst, hm, h8, ha, hk, h46, ho⟩⟩ := hs
    · cases ho
      exact ⟨ls', hl, ⟨rfl, Or.inl ⟨ht, a, _, rfl, h8, hk, h6, ha, hln, hkn, rfl⟩⟩⟩
    · cases ho
  case invokestatic n =>
    obtain ⟨rfl, ⟨ht, a, b, sp, dp, nz, r, rfl, h8, e1, e2, e3, e4, e5, e6, e7, e8, e9, e10, e11, ho⟩ | ⟨ht, x, y, r, rfl, h8, ho⟩ | ⟨ht, x, y, r, rfl, h8, ho⟩ | ⟨ht, x, r, rfl, h8, ho⟩ | ⟨ht, as, rs, hst, hm, h8, ho⟩⟩ := hs
    · cases ho
      exact ⟨ls', hl, ⟨rfl, Or.inl ⟨ht, a, b, sp, dp, nz, _, rfl, h8, e1, e2, e3, e4, e5, e6, e7, e8, e9, e10, e11, rfl⟩⟩⟩
    · cases ho
      exact ⟨ls', hl, ⟨rfl, Or.inr (Or.inl ⟨ht, x, y, _, rfl, h8, rfl⟩)⟩⟩
    · cases ho
      exact ⟨ls', hl, ⟨rfl, Or.inr (Or.inr (Or.inl ⟨ht, x, y, _, rfl, h8, rfl⟩))⟩⟩
    · cases ho
      exact ⟨ls', hl, ⟨rfl, Or.inr (Or.inr (Or.inr (Or.inl ⟨ht, x, _, rfl, h8, rfl⟩)))⟩⟩
    · cases ho
  case iload n =>
    obtain ⟨rfl, x, hv, ho⟩ := hs
    cases ho
    exact ⟨ls', hl, ⟨rfl, x, q_le_at hl hv (by intro e; cases e), rfl⟩⟩
  case lload n =>
    obtain ⟨rfl, x, hv, ho⟩ := hs
    cases ho
    exact ⟨ls', hl, ⟨rfl, x, q_le_at hl hv (by intro e; cases e), rfl⟩⟩
  case iload_n n =>
    obtain ⟨rfl, x, hv, ho⟩ := hs
    cases ho
    exact ⟨ls', hl, ⟨rfl, x, q_le_at hl hv (by intro e; cases e), rfl⟩⟩
  case lload_n n =>
    obtain ⟨rfl, x, hv, ho⟩ := hs
    cases ho
    exact ⟨ls', hl, ⟨rfl, x, q_le_at hl hv (by intro e; cases e), rfl⟩⟩
  case aload n =>
    obtain ⟨rfl, v, hv, hr, ho⟩ := hs
    cases ho
    exact ⟨ls', hl, ⟨rfl, v, q_le_at hl hv (by rcases hr with e | ⟨a, e⟩ <;> rw [e] <;> intro e2 <;> cases e2), hr, rfl⟩⟩
  case aload_n n =>
    obtain ⟨rfl, v, hv, hr, ho⟩ := hs
    cases ho
    exact ⟨ls', hl, ⟨rfl, v, q_le_at hl hv (by rcases hr with e | ⟨a, e⟩ <;> rw [e] <;> intro e2 <;> cases e2), hr, rfl⟩⟩
  case istore n =>
    obtain ⟨rfl, x, r, rfl, hn, ho⟩ := hs
    cases ho
    exact ⟨_, q_le_s1 _ _ hl, ⟨rfl, x, _, rfl, hn, rfl⟩⟩
  case istore_n n =>
    obtain ⟨rfl, x, r, rfl, hn, ho⟩ := hs
    cases ho
    exact ⟨_, q_le_s1 _ _ hl, ⟨rfl, x, _, rfl, hn, rfl⟩⟩
  case lstore n =>
    obtain ⟨rfl, x, r, rfl, hn, ho⟩ := hs
    cases ho
    exact ⟨_, q_le_s2 _ _ hl, ⟨rfl, x, _, rfl, hn, rfl⟩⟩
  case lstore_n n =>
    obtain ⟨rfl, x, r, rfl, hn, ho⟩ := hs
    cases ho
    exact ⟨_, q_le_s2 _ _ hl, ⟨rfl, x, _, rfl, hn, rfl⟩⟩
  case astore n =>
    obtain ⟨rfl, v, r, rfl, hr, hn, ho⟩ := hs
    cases ho
    exact ⟨_, q_le_s1 _ _ hl, ⟨rfl, v, _, rfl, hr, hn, rfl⟩⟩
  case astore_n n =>
    obtain ⟨rfl, v, r, rfl, hr, hn, ho⟩ := hs
    cases ho
    exact ⟨_, q_le_s1 _ _ hl, ⟨rfl, v, _, rfl, hr, hn, rfl⟩⟩
  case iinc n z =>
    obtain ⟨rfl, x, hv, hn, ho⟩ := hs
    cases ho
    exact ⟨_, q_le_s1 _ _ hl, ⟨rfl, x, q_le_at hl hv (by intro e; cases e), hn, rfl⟩⟩
  case ireturn => obtain ⟨-, x, -, -, ho⟩ := hs; cases ho
  case lreturn => obtain ⟨-, x, -, -, ho⟩ := hs; cases ho
  case areturn => obtain ⟨-, x, -, -, ho⟩ := hs; cases ho
  case return_ => obtain ⟨-, -, -, ho⟩ := hs; cases ho
  all_goals exact False.elim hs
set_option maxHeartbeats 4000000 in
theorem q_loc2 {kd : Nat → Nat} {i pc : Nat} {ins : Instr} {len : Nat} {lk : q_LK} {ls ls' st : List Value} {h : q_H} {v : Option Value} (hs : q_sr kd i pc ins len lk ls st h (.inr (.inl v))) : q_sr kd i pc ins len lk ls' st h (.inr (.inl v)) := by
  cases ins
  case ireturn => exact hs
  case lreturn => exact hs
  case areturn => exact hs
  case return_ => exact hs
  all_goals first | exact False.elim hs | (simp [q_sr] at hs; done)
set_option maxHeartbeats 4000000 in
theorem q_loc3 {kd : Nat → Nat} {i pc : Nat} {ins : Instr} {len : Nat} {lk : q_LK} {ls ls' st : List Value} {h : q_H} {y : Nat} {as rs : List Value} (hs : q_sr kd i pc ins len lk ls st h (.inr (.inr (y, as, rs)))) : q_sr kd i pc ins len lk ls' st h (.inr (.inr (y, as, rs))) := by
  cases ins
  case invokespecial n =>
    obtain ⟨e, ⟨-, a, r, -, -, ho⟩ | hq⟩ := hs
    · cases ho
    · exact ⟨e, Or.inr hq⟩
  case invokevirtual n =>
    obtain ⟨e, ⟨-, a, r, -, -, -, -, -, -, -, ho⟩ | hq⟩ := hs
    · cases ho
    · exact ⟨e, Or.inr hq⟩
  case invokestatic n =>
    obtain ⟨e, ⟨-, a, b, sp, dp, nz, r, -, -, -, -, -, -, -, -, -, -, -, -, -, ho⟩ | ⟨-, x, y, r, -, -, ho⟩ | ⟨-, x, y, r, -, -, ho⟩ | ⟨-, x, r, -, -, ho⟩ | hq⟩ := hs
    · cases ho
    · cases ho
    · cases ho
    · cases ho
    · exact ⟨e, Or.inr (Or.inr (Or.inr (Or.inr hq)))⟩
  all_goals first | exact False.elim hs | (simp [q_sr] at hs; done)
theorem q_X_loc (kd : Nat → Nat) : ∀ n d i pc ls st h r h', q_X kd n d i pc ls st h r h' → ∀ ls', q_le ls ls' → q_X kd n d i pc ls' st h r h' := by
  intro n
  induction n with
  | zero => intro d i pc ls st h r h' q; exact q.elim
  | succ n ih =>
    intro d i pc ls st h r h' q ls' hl
    obtain ⟨ins, len, lk, o, h1, h2, h3⟩ := q
    match o, h2, h3 with
    | .inl (pc2, ls2, st2, h2'), h2, h3 =>
      obtain ⟨ls2', g1, g2⟩ := q_loc1 hl h2
      exact ⟨ins, len, lk, .inl (pc2, ls2', st2, h2'), h1, g2, h3.1, h3.2.1, ih _ _ _ _ _ _ _ _ h3.2.2 _ g1⟩
    | .inr (.inl v), h2, h3 => exact ⟨ins, len, lk, _, h1, q_loc2 h2, h3⟩
    | .inr (.inr (y, as, rs)), h2, h3 =>
      obtain ⟨d2, r1, hh1, e, hn, q1, q2⟩ := h3
      exact ⟨ins, len, lk, _, h1, q_loc3 h2, d2, r1, hh1, e, hn, q1, ih _ _ _ _ _ _ _ _ q2 _ hl⟩
/-- a local that is dead may be forgotten -/
theorem xx_loc {kd : Nat → Nat} {d i pc : Nat} {ls ls' st : List Value} {h : q_H} {Q : Option Value → q_H → Prop} (hl : q_le ls ls') (k : q_EX kd d i pc ls st h Q) : q_EX kd d i pc ls' st h Q := by
  obtain ⟨n, r, h', q1, q2⟩ := k
  exact ⟨n, r, h', q_X_loc kd n _ _ _ _ _ _ _ _ q1 _ hl, q2⟩
