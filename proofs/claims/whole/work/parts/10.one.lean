section QV
variable {p : Program} {l : Launch} {e : Env} {R : Room} {s : State} {m : MethodId} {args : Array Value} {below : List Frame} {meth : Method} {c : Code} {Q : State → Prop} {G : q_G} {n0 s0 i : Nat}
theorem q_fitR {t : FieldType} (h : q_isT t = true) (o : Option Nat) : narrow t (va_rf o) = va_rf o ∧ fits t (va_rf o) = true := by
  cases t <;> first | (exact Bool.noConfusion h; done) | (simp [q_isT] at h; done) | (cases o <;> exact ⟨rfl, rfl⟩)
theorem q_nb {x : Int32} (h : narrow .boolean (.int x) = .int x) : x = 0 ∨ x = 1 := by
  have h1 : x &&& 1 = x := by
    have h2 : Value.int (x &&& 1) = .int x := h
    exact Value.int.inj h2
  have h3 := pk_and x (m := 1) 1 rfl
  rw [h1] at h3
  have h4 : x.toBitVec.toNat % 2 ^ 1 = 0 ∨ x.toBitVec.toNat % 2 ^ 1 = 1 := by omega
  rcases h4 with h4 | h4
  · left; rw [h3, h4]; rfl
  · right; rw [h3, h4]; rfl
theorem q_av_i {h : q_H} {k t : Nat} (h23 : t ≠ 23) (h24 : t ≠ 24) : q_av G h k t = fun j => .int (h.2.2.2.1 k j) := by
  funext j
  unfold q_av
  split
  · exact absurd rfl h23
  · exact absurd rfl h24
  · rfl
theorem q_memL {ls : List Value} {Ls : Array Slot} {nL k : Nat} {x : Int32} (hL : lv_has Ls nL (q_as G ls)) (hv : ls[k]? = some (.int x)) : ∃ j : Nat, (q_as G ls)[j]? = some (k, Value.int x) := List.getElem?_of_mem (q_as_mem.mpr ⟨.int x, hv, rfl, rfl⟩)

set_option maxHeartbeats 4000000 in
theorem q1_iconst (cx : q_Cx G i p s m meth c) {pc : Nat} {n : Int} {len : Nat} {lk : q_LK} {ls st : List Value} {h : q_H} {pc2 : Nat} {ls2 st2 : List Value} {h2 : q_H} (hd : decode (q_cd i) pc = .ok (Instr.iconst n, len)) (hok : q_okI i (Instr.iconst n) lk = true) (hs : q_sr (gKd G) i pc (Instr.iconst n) len lk ls st h (.inl (pc2, ls2, st2, h2)))
    (hroom : h2.1 - n0 ≤ R.cells ∧ h2.2.1 - s0 ≤ R.slots) (hfr : 1 ≤ R.frames) (hlo : 200 ≤ R.locals) (k : q_Wt p l e R s m args below meth c Q G n0 s0 i pc2 ls2 st2 h2) : q_Wt p l e R s m args below meth c Q G n0 s0 i pc ls st h := by
  intro H locs Ls hR hl hL g1 g2
  have hx := cx.1
  have hb := cx.2.1
  have hml : c.maxLocals = Ls.size := cx.2.2.1.trans hL.1.symm
  have hown := cx.2.2.2.1
  have hSx := cx.2.2.2.2.2.1
  have hF : q_isR (gF G) := hSx.2.2.2.2.2.2.2.2.2.2.2.2.2.2.2.1
  have hw8 : ∀ r : List Value, q_W8 r → ((r.map (q_cv G)).map fun v => v.category).sum ≤ 8 := fun r h => by rw [q_cats hF]; exact h
  obtain ⟨rfl, ho⟩ := hs
  cases ho
  exact lv_iconst hx hb hd rfl (k H locs Ls hR hl hL g1 g2)
set_option maxHeartbeats 4000000 in
theorem q1_bipush (cx : q_Cx G i p s m meth c) {pc : Nat} {n : Int} {len : Nat} {lk : q_LK} {ls st : List Value} {h : q_H} {pc2 : Nat} {ls2 st2 : List Value} {h2 : q_H} (hd : decode (q_cd i) pc = .ok (Instr.bipush n, len)) (hok : q_okI i (Instr.bipush n) lk = true) (hs : q_sr (gKd G) i pc (Instr.bipush n) len lk ls st h (.inl (pc2, ls2, st2, h2)))
    (hroom : h2.1 - n0 ≤ R.cells ∧ h2.2.1 - s0 ≤ R.slots) (hfr : 1 ≤ R.frames) (hlo : 200 ≤ R.locals) (k : q_Wt p l e R s m args below meth c Q G n0 s0 i pc2 ls2 st2 h2) : q_Wt p l e R s m args below meth c Q G n0 s0 i pc ls st h := by
  intro H locs Ls hR hl hL g1 g2
  have hx := cx.1
  have hb := cx.2.1
  have hml : c.maxLocals = Ls.size := cx.2.2.1.trans hL.1.symm
  have hown := cx.2.2.2.1
  have hSx := cx.2.2.2.2.2.1
  have hF : q_isR (gF G) := hSx.2.2.2.2.2.2.2.2.2.2.2.2.2.2.2.1
  have hw8 : ∀ r : List Value, q_W8 r → ((r.map (q_cv G)).map fun v => v.category).sum ≤ 8 := fun r h => by rw [q_cats hF]; exact h
  obtain ⟨rfl, ho⟩ := hs
  cases ho
  exact lv_bipush hx hb hd rfl (k H locs Ls hR hl hL g1 g2)
set_option maxHeartbeats 4000000 in
theorem q1_sipush (cx : q_Cx G i p s m meth c) {pc : Nat} {n : Int} {len : Nat} {lk : q_LK} {ls st : List Value} {h : q_H} {pc2 : Nat} {ls2 st2 : List Value} {h2 : q_H} (hd : decode (q_cd i) pc = .ok (Instr.sipush n, len)) (hok : q_okI i (Instr.sipush n) lk = true) (hs : q_sr (gKd G) i pc (Instr.sipush n) len lk ls st h (.inl (pc2, ls2, st2, h2)))
    (hroom : h2.1 - n0 ≤ R.cells ∧ h2.2.1 - s0 ≤ R.slots) (hfr : 1 ≤ R.frames) (hlo : 200 ≤ R.locals) (k : q_Wt p l e R s m args below meth c Q G n0 s0 i pc2 ls2 st2 h2) : q_Wt p l e R s m args below meth c Q G n0 s0 i pc ls st h := by
  intro H locs Ls hR hl hL g1 g2
  have hx := cx.1
  have hb := cx.2.1
  have hml : c.maxLocals = Ls.size := cx.2.2.1.trans hL.1.symm
  have hown := cx.2.2.2.1
  have hSx := cx.2.2.2.2.2.1
  have hF : q_isR (gF G) := hSx.2.2.2.2.2.2.2.2.2.2.2.2.2.2.2.1
  have hw8 : ∀ r : List Value, q_W8 r → ((r.map (q_cv G)).map fun v => v.category).sum ≤ 8 := fun r h => by rw [q_cats hF]; exact h
  obtain ⟨rfl, ho⟩ := hs
  cases ho
  exact lv_sipush hx hb hd rfl (k H locs Ls hR hl hL g1 g2)
set_option maxHeartbeats 4000000 in
theorem q1_lconst (cx : q_Cx G i p s m meth c) {pc : Nat} {n : Fin 2} {len : Nat} {lk : q_LK} {ls st : List Value} {h : q_H} {pc2 : Nat} {ls2 st2 : List Value} {h2 : q_H} (hd : decode (q_cd i) pc = .ok (Instr.lconst n, len)) (hok : q_okI i (Instr.lconst n) lk = true) (hs : q_sr (gKd G) i pc (Instr.lconst n) len lk ls st h (.inl (pc2, ls2, st2, h2)))
    (hroom : h2.1 - n0 ≤ R.cells ∧ h2.2.1 - s0 ≤ R.slots) (hfr : 1 ≤ R.frames) (hlo : 200 ≤ R.locals) (k : q_Wt p l e R s m args below meth c Q G n0 s0 i pc2 ls2 st2 h2) : q_Wt p l e R s m args below meth c Q G n0 s0 i pc ls st h := by
  intro H locs Ls hR hl hL g1 g2
  have hx := cx.1
  have hb := cx.2.1
  have hml : c.maxLocals = Ls.size := cx.2.2.1.trans hL.1.symm
  have hown := cx.2.2.2.1
  have hSx := cx.2.2.2.2.2.1
  have hF : q_isR (gF G) := hSx.2.2.2.2.2.2.2.2.2.2.2.2.2.2.2.1
  have hw8 : ∀ r : List Value, q_W8 r → ((r.map (q_cv G)).map fun v => v.category).sum ≤ 8 := fun r h => by rw [q_cats hF]; exact h
  obtain ⟨rfl, ho⟩ := hs
  cases ho
  exact lv_lconst hx hb hd rfl (k H locs Ls hR hl hL g1 g2)
set_option maxHeartbeats 4000000 in
theorem q1_aconst_null (cx : q_Cx G i p s m meth c) {pc : Nat} {len : Nat} {lk : q_LK} {ls st : List Value} {h : q_H} {pc2 : Nat} {ls2 st2 : List Value} {h2 : q_H} (hd : decode (q_cd i) pc = .ok (Instr.aconst_null, len)) (hok : q_okI i (Instr.aconst_null) lk = true) (hs : q_sr (gKd G) i pc (Instr.aconst_null) len lk ls st h (.inl (pc2, ls2, st2, h2)))
    (hroom : h2.1 - n0 ≤ R.cells ∧ h2.2.1 - s0 ≤ R.slots) (hfr : 1 ≤ R.frames) (hlo : 200 ≤ R.locals) (k : q_Wt p l e R s m args below meth c Q G n0 s0 i pc2 ls2 st2 h2) : q_Wt p l e R s m args below meth c Q G n0 s0 i pc ls st h := by
  intro H locs Ls hR hl hL g1 g2
  have hx := cx.1
  have hb := cx.2.1
  have hml : c.maxLocals = Ls.size := cx.2.2.1.trans hL.1.symm
  have hown := cx.2.2.2.1
  have hSx := cx.2.2.2.2.2.1
  have hF : q_isR (gF G) := hSx.2.2.2.2.2.2.2.2.2.2.2.2.2.2.2.1
  have hw8 : ∀ r : List Value, q_W8 r → ((r.map (q_cv G)).map fun v => v.category).sum ≤ 8 := fun r h => by rw [q_cats hF]; exact h
  obtain ⟨rfl, ho⟩ := hs
  cases ho
  exact lv_null hx hb hd (k H locs Ls hR hl hL g1 g2)
set_option maxHeartbeats 4000000 in
theorem q1_ldc (cx : q_Cx G i p s m meth c) {pc : Nat} {idx : Nat} {len : Nat} {lk : q_LK} {ls st : List Value} {h : q_H} {pc2 : Nat} {ls2 st2 : List Value} {h2 : q_H} (hd : decode (q_cd i) pc = .ok (Instr.ldc idx, len)) (hok : q_okI i (Instr.ldc idx) lk = true) (hs : q_sr (gKd G) i pc (Instr.ldc idx) len lk ls st h (.inl (pc2, ls2, st2, h2)))
    (hroom : h2.1 - n0 ≤ R.cells ∧ h2.2.1 - s0 ≤ R.slots) (hfr : 1 ≤ R.frames) (hlo : 200 ≤ R.locals) (k : q_Wt p l e R s m args below meth c Q G n0 s0 i pc2 ls2 st2 h2) : q_Wt p l e R s m args below meth c Q G n0 s0 i pc ls st h := by
  intro H locs Ls hR hl hL g1 g2
  have hx := cx.1
  have hb := cx.2.1
  have hml : c.maxLocals = Ls.size := cx.2.2.1.trans hL.1.symm
  have hown := cx.2.2.2.1
  have hSx := cx.2.2.2.2.2.1
  have hF : q_isR (gF G) := hSx.2.2.2.2.2.2.2.2.2.2.2.2.2.2.2.1
  have hw8 : ∀ r : List Value, q_W8 r → ((r.map (q_cv G)).map fun v => v.category).sum ≤ 8 := fun r h => by rw [q_cats hF]; exact h
  obtain ⟨rfl, ⟨ht, ho⟩ | ⟨ht, ho⟩⟩ := hs
  · cases ho
    simp only [q_okI, decide_eq_true_eq] at hok
    rcases hok with ⟨-, hw⟩ | ⟨ht2, -⟩
    · exact lv_ldc hx hb hown (q_wp cx hw rfl args) hd (k H locs Ls hR hl hL g1 g2)
    · omega
  · cases ho
    simp only [q_okI, decide_eq_true_eq] at hok
    rcases hok with ⟨ht2, -⟩ | ⟨-, hcl, rfl⟩
    · omega
    · rw [hcl] at hown
      exact va_ldcS hx hb hown hSx.2.2.2.2.2.2.2.2.1 hd (k H locs Ls hR hl hL g1 g2)
set_option maxHeartbeats 4000000 in
theorem q1_ldc_w (cx : q_Cx G i p s m meth c) {pc : Nat} {idx : Nat} {len : Nat} {lk : q_LK} {ls st : List Value} {h : q_H} {pc2 : Nat} {ls2 st2 : List Value} {h2 : q_H} (hd : decode (q_cd i) pc = .ok (Instr.ldc_w idx, len)) (hok : q_okI i (Instr.ldc_w idx) lk = true) (hs : q_sr (gKd G) i pc (Instr.ldc_w idx) len lk ls st h (.inl (pc2, ls2, st2, h2)))
    (hroom : h2.1 - n0 ≤ R.cells ∧ h2.2.1 - s0 ≤ R.slots) (hfr : 1 ≤ R.frames) (hlo : 200 ≤ R.locals) (k : q_Wt p l e R s m args below meth c Q G n0 s0 i pc2 ls2 st2 h2) : q_Wt p l e R s m args below meth c Q G n0 s0 i pc ls st h := by
  intro H locs Ls hR hl hL g1 g2
  have hx := cx.1
  have hb := cx.2.1
  have hml : c.maxLocals = Ls.size := cx.2.2.1.trans hL.1.symm
  have hown := cx.2.2.2.1
  have hSx := cx.2.2.2.2.2.1
  have hF : q_isR (gF G) := hSx.2.2.2.2.2.2.2.2.2.2.2.2.2.2.2.1
  have hw8 : ∀ r : List Value, q_W8 r → ((r.map (q_cv G)).map fun v => v.category).sum ≤ 8 := fun r h => by rw [q_cats hF]; exact h
  obtain ⟨rfl, ho⟩ := hs
  cases ho
  simp only [q_okI, decide_eq_true_eq] at hok
  exact lv_ldcw hx hb hown (q_wp cx hok rfl args) hd (k H locs Ls hR hl hL g1 g2)
set_option maxHeartbeats 4000000 in
theorem q1_ldc2_w (cx : q_Cx G i p s m meth c) {pc : Nat} {idx : Nat} {len : Nat} {lk : q_LK} {ls st : List Value} {h : q_H} {pc2 : Nat} {ls2 st2 : List Value} {h2 : q_H} (hd : decode (q_cd i) pc = .ok (Instr.ldc2_w idx, len)) (hok : q_okI i (Instr.ldc2_w idx) lk = true) (hs : q_sr (gKd G) i pc (Instr.ldc2_w idx) len lk ls st h (.inl (pc2, ls2, st2, h2)))
    (hroom : h2.1 - n0 ≤ R.cells ∧ h2.2.1 - s0 ≤ R.slots) (hfr : 1 ≤ R.frames) (hlo : 200 ≤ R.locals) (k : q_Wt p l e R s m args below meth c Q G n0 s0 i pc2 ls2 st2 h2) : q_Wt p l e R s m args below meth c Q G n0 s0 i pc ls st h := by
  intro H locs Ls hR hl hL g1 g2
  have hx := cx.1
  have hb := cx.2.1
  have hml : c.maxLocals = Ls.size := cx.2.2.1.trans hL.1.symm
  have hown := cx.2.2.2.1
  have hSx := cx.2.2.2.2.2.1
  have hF : q_isR (gF G) := hSx.2.2.2.2.2.2.2.2.2.2.2.2.2.2.2.1
  have hw8 : ∀ r : List Value, q_W8 r → ((r.map (q_cv G)).map fun v => v.category).sum ≤ 8 := fun r h => by rw [q_cats hF]; exact h
  obtain ⟨rfl, ho⟩ := hs
  cases ho
  simp only [q_okI, decide_eq_true_eq] at hok
  exact lv_ldc2 hx hb hown (q_wp cx hok rfl args) hd (k H locs Ls hR hl hL g1 g2)
set_option maxHeartbeats 4000000 in
theorem q1_iload (cx : q_Cx G i p s m meth c) {pc : Nat} {n : Nat} {len : Nat} {lk : q_LK} {ls st : List Value} {h : q_H} {pc2 : Nat} {ls2 st2 : List Value} {h2 : q_H} (hd : decode (q_cd i) pc = .ok (Instr.iload n, len)) (hok : q_okI i (Instr.iload n) lk = true) (hs : q_sr (gKd G) i pc (Instr.iload n) len lk ls st h (.inl (pc2, ls2, st2, h2)))
    (hroom : h2.1 - n0 ≤ R.cells ∧ h2.2.1 - s0 ≤ R.slots) (hfr : 1 ≤ R.frames) (hlo : 200 ≤ R.locals) (k : q_Wt p l e R s m args below meth c Q G n0 s0 i pc2 ls2 st2 h2) : q_Wt p l e R s m args below meth c Q G n0 s0 i pc ls st h := by
  intro H locs Ls hR hl hL g1 g2
  have hx := cx.1
  have hb := cx.2.1
  have hml : c.maxLocals = Ls.size := cx.2.2.1.trans hL.1.symm
  have hown := cx.2.2.2.1
  have hSx := cx.2.2.2.2.2.1
  have hF : q_isR (gF G) := hSx.2.2.2.2.2.2.2.2.2.2.2.2.2.2.2.1
  have hw8 : ∀ r : List Value, q_W8 r → ((r.map (q_cv G)).map fun v => v.category).sum ≤ 8 := fun r h => by rw [q_cats hF]; exact h
  obtain ⟨rfl, x, hv, ho⟩ := hs
  cases ho
  exact lv_iload hx hb hd (q_lat hL hv rfl) (k H locs Ls hR hl hL g1 g2)
set_option maxHeartbeats 4000000 in
theorem q1_iload_n (cx : q_Cx G i p s m meth c) {pc : Nat} {n : Fin 4} {len : Nat} {lk : q_LK} {ls st : List Value} {h : q_H} {pc2 : Nat} {ls2 st2 : List Value} {h2 : q_H} (hd : decode (q_cd i) pc = .ok (Instr.iload_n n, len)) (hok : q_okI i (Instr.iload_n n) lk = true) (hs : q_sr (gKd G) i pc (Instr.iload_n n) len lk ls st h (.inl (pc2, ls2, st2, h2)))
    (hroom : h2.1 - n0 ≤ R.cells ∧ h2.2.1 - s0 ≤ R.slots) (hfr : 1 ≤ R.frames) (hlo : 200 ≤ R.locals) (k : q_Wt p l e R s m args below meth c Q G n0 s0 i pc2 ls2 st2 h2) : q_Wt p l e R s m args below meth c Q G n0 s0 i pc ls st h := by
  intro H locs Ls hR hl hL g1 g2
  have hx := cx.1
  have hb := cx.2.1
  have hml : c.maxLocals = Ls.size := cx.2.2.1.trans hL.1.symm
  have hown := cx.2.2.2.1
  have hSx := cx.2.2.2.2.2.1
  have hF : q_isR (gF G) := hSx.2.2.2.2.2.2.2.2.2.2.2.2.2.2.2.1
  have hw8 : ∀ r : List Value, q_W8 r → ((r.map (q_cv G)).map fun v => v.category).sum ≤ 8 := fun r h => by rw [q_cats hF]; exact h
  obtain ⟨rfl, x, hv, ho⟩ := hs
  cases ho
  exact lv_iload_n hx hb hd rfl (q_lat hL hv rfl) (k H locs Ls hR hl hL g1 g2)
set_option maxHeartbeats 4000000 in
theorem q1_lload (cx : q_Cx G i p s m meth c) {pc : Nat} {n : Nat} {len : Nat} {lk : q_LK} {ls st : List Value} {h : q_H} {pc2 : Nat} {ls2 st2 : List Value} {h2 : q_H} (hd : decode (q_cd i) pc = .ok (Instr.lload n, len)) (hok : q_okI i (Instr.lload n) lk = true) (hs : q_sr (gKd G) i pc (Instr.lload n) len lk ls st h (.inl (pc2, ls2, st2, h2)))
    (hroom : h2.1 - n0 ≤ R.cells ∧ h2.2.1 - s0 ≤ R.slots) (hfr : 1 ≤ R.frames) (hlo : 200 ≤ R.locals) (k : q_Wt p l e R s m args below meth c Q G n0 s0 i pc2 ls2 st2 h2) : q_Wt p l e R s m args below meth c Q G n0 s0 i pc ls st h := by
  intro H locs Ls hR hl hL g1 g2
  have hx := cx.1
  have hb := cx.2.1
  have hml : c.maxLocals = Ls.size := cx.2.2.1.trans hL.1.symm
  have hown := cx.2.2.2.1
  have hSx := cx.2.2.2.2.2.1
  have hF : q_isR (gF G) := hSx.2.2.2.2.2.2.2.2.2.2.2.2.2.2.2.1
  have hw8 : ∀ r : List Value, q_W8 r → ((r.map (q_cv G)).map fun v => v.category).sum ≤ 8 := fun r h => by rw [q_cats hF]; exact h
  obtain ⟨rfl, x, hv, ho⟩ := hs
  cases ho
  exact lv_lload hx hb hd (q_lat hL hv rfl) (k H locs Ls hR hl hL g1 g2)
set_option maxHeartbeats 4000000 in
theorem q1_lload_n (cx : q_Cx G i p s m meth c) {pc : Nat} {n : Fin 4} {len : Nat} {lk : q_LK} {ls st : List Value} {h : q_H} {pc2 : Nat} {ls2 st2 : List Value} {h2 : q_H} (hd : decode (q_cd i) pc = .ok (Instr.lload_n n, len)) (hok : q_okI i (Instr.lload_n n) lk = true) (hs : q_sr (gKd G) i pc (Instr.lload_n n) len lk ls st h (.inl (pc2, ls2, st2, h2)))
    (hroom : h2.1 - n0 ≤ R.cells ∧ h2.2.1 - s0 ≤ R.slots) (hfr : 1 ≤ R.frames) (hlo : 200 ≤ R.locals) (k : q_Wt p l e R s m args below meth c Q G n0 s0 i pc2 ls2 st2 h2) : q_Wt p l e R s m args below meth c Q G n0 s0 i pc ls st h := by
  intro H locs Ls hR hl hL g1 g2
  have hx := cx.1
  have hb := cx.2.1
  have hml : c.maxLocals = Ls.size := cx.2.2.1.trans hL.1.symm
  have hown := cx.2.2.2.1
  have hSx := cx.2.2.2.2.2.1
  have hF : q_isR (gF G) := hSx.2.2.2.2.2.2.2.2.2.2.2.2.2.2.2.1
  have hw8 : ∀ r : List Value, q_W8 r → ((r.map (q_cv G)).map fun v => v.category).sum ≤ 8 := fun r h => by rw [q_cats hF]; exact h
  obtain ⟨rfl, x, hv, ho⟩ := hs
  cases ho
  exact lv_lload_n hx hb hd rfl (q_lat hL hv rfl) (k H locs Ls hR hl hL g1 g2)
set_option maxHeartbeats 4000000 in
theorem q1_aload (cx : q_Cx G i p s m meth c) {pc : Nat} {n : Nat} {len : Nat} {lk : q_LK} {ls st : List Value} {h : q_H} {pc2 : Nat} {ls2 st2 : List Value} {h2 : q_H} (hd : decode (q_cd i) pc = .ok (Instr.aload n, len)) (hok : q_okI i (Instr.aload n) lk = true) (hs : q_sr (gKd G) i pc (Instr.aload n) len lk ls st h (.inl (pc2, ls2, st2, h2)))
    (hroom : h2.1 - n0 ≤ R.cells ∧ h2.2.1 - s0 ≤ R.slots) (hfr : 1 ≤ R.frames) (hlo : 200 ≤ R.locals) (k : q_Wt p l e R s m args below meth c Q G n0 s0 i pc2 ls2 st2 h2) : q_Wt p l e R s m args below meth c Q G n0 s0 i pc ls st h := by
  intro H locs Ls hR hl hL g1 g2
  have hx := cx.1
  have hb := cx.2.1
  have hml : c.maxLocals = Ls.size := cx.2.2.1.trans hL.1.symm
  have hown := cx.2.2.2.1
  have hSx := cx.2.2.2.2.2.1
  have hF : q_isR (gF G) := hSx.2.2.2.2.2.2.2.2.2.2.2.2.2.2.2.1
  have hw8 : ∀ r : List Value, q_W8 r → ((r.map (q_cv G)).map fun v => v.category).sum ≤ 8 := fun r h => by rw [q_cats hF]; exact h
  obtain ⟨rfl, v, hv, hr, ho⟩ := hs
  cases ho
  rcases hr with rfl | ⟨a, rfl⟩
  · exact lv_aloadN hx hb hd (q_lat hL hv rfl) (k H locs Ls hR hl hL g1 g2)
  · exact lv_aload hx hb hd (q_lat hL hv rfl) (k H locs Ls hR hl hL g1 g2)
set_option maxHeartbeats 4000000 in
theorem q1_aload_n (cx : q_Cx G i p s m meth c) {pc : Nat} {n : Fin 4} {len : Nat} {lk : q_LK} {ls st : List Value} {h : q_H} {pc2 : Nat} {ls2 st2 : List Value} {h2 : q_H} (hd : decode (q_cd i) pc = .ok (Instr.aload_n n, len)) (hok : q_okI i (Instr.aload_n n) lk = true) (hs : q_sr (gKd G) i pc (Instr.aload_n n) len lk ls st h (.inl (pc2, ls2, st2, h2)))
    (hroom : h2.1 - n0 ≤ R.cells ∧ h2.2.1 - s0 ≤ R.slots) (hfr : 1 ≤ R.frames) (hlo : 200 ≤ R.locals) (k : q_Wt p l e R s m args below meth c Q G n0 s0 i pc2 ls2 st2 h2) : q_Wt p l e R s m args below meth c Q G n0 s0 i pc ls st h := by
  intro H locs Ls hR hl hL g1 g2
  have hx := cx.1
  have hb := cx.2.1
  have hml : c.maxLocals = Ls.size := cx.2.2.1.trans hL.1.symm
  have hown := cx.2.2.2.1
  have hSx := cx.2.2.2.2.2.1
  have hF : q_isR (gF G) := hSx.2.2.2.2.2.2.2.2.2.2.2.2.2.2.2.1
  have hw8 : ∀ r : List Value, q_W8 r → ((r.map (q_cv G)).map fun v => v.category).sum ≤ 8 := fun r h => by rw [q_cats hF]; exact h
  obtain ⟨rfl, v, hv, hr, ho⟩ := hs
  cases ho
  rcases hr with rfl | ⟨a, rfl⟩
  · exact lv_aload_nN hx hb hd rfl (q_lat hL hv rfl) (k H locs Ls hR hl hL g1 g2)
  · exact lv_aload_n hx hb hd rfl (q_lat hL hv rfl) (k H locs Ls hR hl hL g1 g2)
set_option maxHeartbeats 4000000 in
theorem q1_istore (cx : q_Cx G i p s m meth c) {pc : Nat} {n : Nat} {len : Nat} {lk : q_LK} {ls st : List Value} {h : q_H} {pc2 : Nat} {ls2 st2 : List Value} {h2 : q_H} (hd : decode (q_cd i) pc = .ok (Instr.istore n, len)) (hok : q_okI i (Instr.istore n) lk = true) (hs : q_sr (gKd G) i pc (Instr.istore n) len lk ls st h (.inl (pc2, ls2, st2, h2)))
    (hroom : h2.1 - n0 ≤ R.cells ∧ h2.2.1 - s0 ≤ R.slots) (hfr : 1 ≤ R.frames) (hlo : 200 ≤ R.locals) (k : q_Wt p l e R s m args below meth c Q G n0 s0 i pc2 ls2 st2 h2) : q_Wt p l e R s m args below meth c Q G n0 s0 i pc ls st h := by
  intro H locs Ls hR hl hL g1 g2
  have hx := cx.1
  have hb := cx.2.1
  have hml : c.maxLocals = Ls.size := cx.2.2.1.trans hL.1.symm
  have hown := cx.2.2.2.1
  have hSx := cx.2.2.2.2.2.1
  have hF : q_isR (gF G) := hSx.2.2.2.2.2.2.2.2.2.2.2.2.2.2.2.1
  have hw8 : ∀ r : List Value, q_W8 r → ((r.map (q_cv G)).map fun v => v.category).sum ≤ 8 := fun r h => by rw [q_cats hF]; exact h
  obtain ⟨rfl, x, r, rfl, hn, ho⟩ := hs
  cases ho
  exact lv_istore hx hb hd hL hn rfl (fun Ls' hL' => k H locs Ls' hR hl (q_s1_has hF hL') g1 g2)
set_option maxHeartbeats 4000000 in
theorem q1_istore_n (cx : q_Cx G i p s m meth c) {pc : Nat} {n : Fin 4} {len : Nat} {lk : q_LK} {ls st : List Value} {h : q_H} {pc2 : Nat} {ls2 st2 : List Value} {h2 : q_H} (hd : decode (q_cd i) pc = .ok (Instr.istore_n n, len)) (hok : q_okI i (Instr.istore_n n) lk = true) (hs : q_sr (gKd G) i pc (Instr.istore_n n) len lk ls st h (.inl (pc2, ls2, st2, h2)))
    (hroom : h2.1 - n0 ≤ R.cells ∧ h2.2.1 - s0 ≤ R.slots) (hfr : 1 ≤ R.frames) (hlo : 200 ≤ R.locals) (k : q_Wt p l e R s m args below meth c Q G n0 s0 i pc2 ls2 st2 h2) : q_Wt p l e R s m args below meth c Q G n0 s0 i pc ls st h := by
  intro H locs Ls hR hl hL g1 g2
  have hx := cx.1
  have hb := cx.2.1
  have hml : c.maxLocals = Ls.size := cx.2.2.1.trans hL.1.symm
  have hown := cx.2.2.2.1
  have hSx := cx.2.2.2.2.2.1
  have hF : q_isR (gF G) := hSx.2.2.2.2.2.2.2.2.2.2.2.2.2.2.2.1
  have hw8 : ∀ r : List Value, q_W8 r → ((r.map (q_cv G)).map fun v => v.category).sum ≤ 8 := fun r h => by rw [q_cats hF]; exact h
  obtain ⟨rfl, x, r, rfl, hn, ho⟩ := hs
  cases ho
  exact lv_istore_n hx hb hd rfl hL hn rfl (fun Ls' hL' => k H locs Ls' hR hl (q_s1_has hF hL') g1 g2)
set_option maxHeartbeats 4000000 in
theorem q1_lstore (cx : q_Cx G i p s m meth c) {pc : Nat} {n : Nat} {len : Nat} {lk : q_LK} {ls st : List Value} {h : q_H} {pc2 : Nat} {ls2 st2 : List Value} {h2 : q_H} (hd : decode (q_cd i) pc = .ok (Instr.lstore n, len)) (hok : q_okI i (Instr.lstore n) lk = true) (hs : q_sr (gKd G) i pc (Instr.lstore n) len lk ls st h (.inl (pc2, ls2, st2, h2)))
    (hroom : h2.1 - n0 ≤ R.cells ∧ h2.2.1 - s0 ≤ R.slots) (hfr : 1 ≤ R.frames) (hlo : 200 ≤ R.locals) (k : q_Wt p l e R s m args below meth c Q G n0 s0 i pc2 ls2 st2 h2) : q_Wt p l e R s m args below meth c Q G n0 s0 i pc ls st h := by
  intro H locs Ls hR hl hL g1 g2
  have hx := cx.1
  have hb := cx.2.1
  have hml : c.maxLocals = Ls.size := cx.2.2.1.trans hL.1.symm
  have hown := cx.2.2.2.1
  have hSx := cx.2.2.2.2.2.1
  have hF : q_isR (gF G) := hSx.2.2.2.2.2.2.2.2.2.2.2.2.2.2.2.1
  have hw8 : ∀ r : List Value, q_W8 r → ((r.map (q_cv G)).map fun v => v.category).sum ≤ 8 := fun r h => by rw [q_cats hF]; exact h
  obtain ⟨rfl, x, r, rfl, hn, ho⟩ := hs
  cases ho
  exact lv_lstore hx hb hd hL hn rfl (fun Ls' hL' => k H locs Ls' hR hl (q_s2_has hF hL') g1 g2)
set_option maxHeartbeats 4000000 in
theorem q1_lstore_n (cx : q_Cx G i p s m meth c) {pc : Nat} {n : Fin 4} {len : Nat} {lk : q_LK} {ls st : List Value} {h : q_H} {pc2 : Nat} {ls2 st2 : List Value} {h2 : q_H} (hd : decode (q_cd i) pc = .ok (Instr.lstore_n n, len)) (hok : q_okI i (Instr.lstore_n n) lk = true) (hs : q_sr (gKd G) i pc (Instr.lstore_n n) len lk ls st h (.inl (pc2, ls2, st2, h2)))
    (hroom : h2.1 - n0 ≤ R.cells ∧ h2.2.1 - s0 ≤ R.slots) (hfr : 1 ≤ R.frames) (hlo : 200 ≤ R.locals) (k : q_Wt p l e R s m args below meth c Q G n0 s0 i pc2 ls2 st2 h2) : q_Wt p l e R s m args below meth c Q G n0 s0 i pc ls st h := by
  intro H locs Ls hR hl hL g1 g2
  have hx := cx.1
  have hb := cx.2.1
  have hml : c.maxLocals = Ls.size := cx.2.2.1.trans hL.1.symm
  have hown := cx.2.2.2.1
  have hSx := cx.2.2.2.2.2.1
  have hF : q_isR (gF G) := hSx.2.2.2.2.2.2.2.2.2.2.2.2.2.2.2.1
  have hw8 : ∀ r : List Value, q_W8 r → ((r.map (q_cv G)).map fun v => v.category).sum ≤ 8 := fun r h => by rw [q_cats hF]; exact h
  obtain ⟨rfl, x, r, rfl, hn, ho⟩ := hs
  cases ho
  exact lv_lstore_n hx hb hd rfl hL hn rfl (fun Ls' hL' => k H locs Ls' hR hl (q_s2_has hF hL') g1 g2)
set_option maxHeartbeats 4000000 in
theorem q1_astore (cx : q_Cx G i p s m meth c) {pc : Nat} {n : Nat} {len : Nat} {lk : q_LK} {ls st : List Value} {h : q_H} {pc2 : Nat} {ls2 st2 : List Value} {h2 : q_H} (hd : decode (q_cd i) pc = .ok (Instr.astore n, len)) (hok : q_okI i (Instr.astore n) lk = true) (hs : q_sr (gKd G) i pc (Instr.astore n) len lk ls st h (.inl (pc2, ls2, st2, h2)))
    (hroom : h2.1 - n0 ≤ R.cells ∧ h2.2.1 - s0 ≤ R.slots) (hfr : 1 ≤ R.frames) (hlo : 200 ≤ R.locals) (k : q_Wt p l e R s m args below meth c Q G n0 s0 i pc2 ls2 st2 h2) : q_Wt p l e R s m args below meth c Q G n0 s0 i pc ls st h := by
  intro H locs Ls hR hl hL g1 g2
  have hx := cx.1
  have hb := cx.2.1
  have hml : c.maxLocals = Ls.size := cx.2.2.1.trans hL.1.symm
  have hown := cx.2.2.2.1
  have hSx := cx.2.2.2.2.2.1
  have hF : q_isR (gF G) := hSx.2.2.2.2.2.2.2.2.2.2.2.2.2.2.2.1
  have hw8 : ∀ r : List Value, q_W8 r → ((r.map (q_cv G)).map fun v => v.category).sum ≤ 8 := fun r h => by rw [q_cats hF]; exact h
  obtain ⟨rfl, v, r, rfl, hr, hn, ho⟩ := hs
  cases ho
  rcases hr with rfl | ⟨a, rfl⟩
  · exact lv_astoreN hx hb hd hL hn rfl (fun Ls' hL' => k H locs Ls' hR hl (q_s1_has hF hL') g1 g2)
  · exact lv_astore hx hb hd hL hn rfl (fun Ls' hL' => k H locs Ls' hR hl (q_s1_has hF hL') g1 g2)
set_option maxHeartbeats 4000000 in
theorem q1_astore_n (cx : q_Cx G i p s m meth c) {pc : Nat} {n : Fin 4} {len : Nat} {lk : q_LK} {ls st : List Value} {h : q_H} {pc2 : Nat} {ls2 st2 : List Value} {h2 : q_H} (hd : decode (q_cd i) pc = .ok (Instr.astore_n n, len)) (hok : q_okI i (Instr.astore_n n) lk = true) (hs : q_sr (gKd G) i pc (Instr.astore_n n) len lk ls st h (.inl (pc2, ls2, st2, h2)))
    (hroom : h2.1 - n0 ≤ R.cells ∧ h2.2.1 - s0 ≤ R.slots) (hfr : 1 ≤ R.frames) (hlo : 200 ≤ R.locals) (k : q_Wt p l e R s m args below meth c Q G n0 s0 i pc2 ls2 st2 h2) : q_Wt p l e R s m args below meth c Q G n0 s0 i pc ls st h := by
  intro H locs Ls hR hl hL g1 g2
  have hx := cx.1
  have hb := cx.2.1
  have hml : c.maxLocals = Ls.size := cx.2.2.1.trans hL.1.symm
  have hown := cx.2.2.2.1
  have hSx := cx.2.2.2.2.2.1
  have hF : q_isR (gF G) := hSx.2.2.2.2.2.2.2.2.2.2.2.2.2.2.2.1
  have hw8 : ∀ r : List Value, q_W8 r → ((r.map (q_cv G)).map fun v => v.category).sum ≤ 8 := fun r h => by rw [q_cats hF]; exact h
  obtain ⟨rfl, v, r, rfl, hr, hn, ho⟩ := hs
  cases ho
  rcases hr with rfl | ⟨a, rfl⟩
  · exact lv_astore_nN hx hb hd rfl hL hn rfl (fun Ls' hL' => k H locs Ls' hR hl (q_s1_has hF hL') g1 g2)
  · exact lv_astore_n hx hb hd rfl hL hn rfl (fun Ls' hL' => k H locs Ls' hR hl (q_s1_has hF hL') g1 g2)
set_option maxHeartbeats 4000000 in
theorem q1_iinc (cx : q_Cx G i p s m meth c) {pc : Nat} {n : Nat} {z : Int} {len : Nat} {lk : q_LK} {ls st : List Value} {h : q_H} {pc2 : Nat} {ls2 st2 : List Value} {h2 : q_H} (hd : decode (q_cd i) pc = .ok (Instr.iinc n z, len)) (hok : q_okI i (Instr.iinc n z) lk = true) (hs : q_sr (gKd G) i pc (Instr.iinc n z) len lk ls st h (.inl (pc2, ls2, st2, h2)))
    (hroom : h2.1 - n0 ≤ R.cells ∧ h2.2.1 - s0 ≤ R.slots) (hfr : 1 ≤ R.frames) (hlo : 200 ≤ R.locals) (k : q_Wt p l e R s m args below meth c Q G n0 s0 i pc2 ls2 st2 h2) : q_Wt p l e R s m args below meth c Q G n0 s0 i pc ls st h := by
  intro H locs Ls hR hl hL g1 g2
  have hx := cx.1
  have hb := cx.2.1
  have hml : c.maxLocals = Ls.size := cx.2.2.1.trans hL.1.symm
  have hown := cx.2.2.2.1
  have hSx := cx.2.2.2.2.2.1
  have hF : q_isR (gF G) := hSx.2.2.2.2.2.2.2.2.2.2.2.2.2.2.2.1
  have hw8 : ∀ r : List Value, q_W8 r → ((r.map (q_cv G)).map fun v => v.category).sum ≤ 8 := fun r h => by rw [q_cats hF]; exact h
  obtain ⟨rfl, x, hv, hn, ho⟩ := hs
  cases ho
  obtain ⟨j, hj⟩ := q_memL hL hv
  exact lv_iinc hx hb hd hL hj rfl hn rfl (fun Ls' hL' => k H locs Ls' hR hl (q_s1_has hF hL') g1 g2)
set_option maxHeartbeats 4000000 in
theorem q1_iadd (cx : q_Cx G i p s m meth c) {pc : Nat} {len : Nat} {lk : q_LK} {ls st : List Value} {h : q_H} {pc2 : Nat} {ls2 st2 : List Value} {h2 : q_H} (hd : decode (q_cd i) pc = .ok (Instr.iadd, len)) (hok : q_okI i (Instr.iadd) lk = true) (hs : q_sr (gKd G) i pc (Instr.iadd) len lk ls st h (.inl (pc2, ls2, st2, h2)))
    (hroom : h2.1 - n0 ≤ R.cells ∧ h2.2.1 - s0 ≤ R.slots) (hfr : 1 ≤ R.frames) (hlo : 200 ≤ R.locals) (k : q_Wt p l e R s m args below meth c Q G n0 s0 i pc2 ls2 st2 h2) : q_Wt p l e R s m args below meth c Q G n0 s0 i pc ls st h := by
  intro H locs Ls hR hl hL g1 g2
  have hx := cx.1
  have hb := cx.2.1
  have hml : c.maxLocals = Ls.size := cx.2.2.1.trans hL.1.symm
  have hown := cx.2.2.2.1
  have hSx := cx.2.2.2.2.2.1
  have hF : q_isR (gF G) := hSx.2.2.2.2.2.2.2.2.2.2.2.2.2.2.2.1
  have hw8 : ∀ r : List Value, q_W8 r → ((r.map (q_cv G)).map fun v => v.category).sum ≤ 8 := fun r h => by rw [q_cats hF]; exact h
  obtain ⟨rfl, x, y, r, rfl, ho⟩ := hs
  cases ho
  exact lv_iadd hx hb hd (k H locs Ls hR hl hL g1 g2)
set_option maxHeartbeats 4000000 in
theorem q1_isub (cx : q_Cx G i p s m meth c) {pc : Nat} {len : Nat} {lk : q_LK} {ls st : List Value} {h : q_H} {pc2 : Nat} {ls2 st2 : List Value} {h2 : q_H} (hd : decode (q_cd i) pc = .ok (Instr.isub, len)) (hok : q_okI i (Instr.isub) lk = true) (hs : q_sr (gKd G) i pc (Instr.isub) len lk ls st h (.inl (pc2, ls2, st2, h2)))
    (hroom : h2.1 - n0 ≤ R.cells ∧ h2.2.1 - s0 ≤ R.slots) (hfr : 1 ≤ R.frames) (hlo : 200 ≤ R.locals) (k : q_Wt p l e R s m args below meth c Q G n0 s0 i pc2 ls2 st2 h2) : q_Wt p l e R s m args below meth c Q G n0 s0 i pc ls st h := by
  intro H locs Ls hR hl hL g1 g2
  have hx := cx.1
  have hb := cx.2.1
  have hml : c.maxLocals = Ls.size := cx.2.2.1.trans hL.1.symm
  have hown := cx.2.2.2.1
  have hSx := cx.2.2.2.2.2.1
  have hF : q_isR (gF G) := hSx.2.2.2.2.2.2.2.2.2.2.2.2.2.2.2.1
  have hw8 : ∀ r : List Value, q_W8 r → ((r.map (q_cv G)).map fun v => v.category).sum ≤ 8 := fun r h => by rw [q_cats hF]; exact h
  obtain ⟨rfl, x, y, r, rfl, ho⟩ := hs
  cases ho
  exact lv_isub hx hb hd (k H locs Ls hR hl hL g1 g2)
set_option maxHeartbeats 4000000 in
theorem q1_imul (cx : q_Cx G i p s m meth c) {pc : Nat} {len : Nat} {lk : q_LK} {ls st : List Value} {h : q_H} {pc2 : Nat} {ls2 st2 : List Value} {h2 : q_H} (hd : decode (q_cd i) pc = .ok (Instr.imul, len)) (hok : q_okI i (Instr.imul) lk = true) (hs : q_sr (gKd G) i pc (Instr.imul) len lk ls st h (.inl (pc2, ls2, st2, h2)))
    (hroom : h2.1 - n0 ≤ R.cells ∧ h2.2.1 - s0 ≤ R.slots) (hfr : 1 ≤ R.frames) (hlo : 200 ≤ R.locals) (k : q_Wt p l e R s m args below meth c Q G n0 s0 i pc2 ls2 st2 h2) : q_Wt p l e R s m args below meth c Q G n0 s0 i pc ls st h := by
  intro H locs Ls hR hl hL g1 g2
  have hx := cx.1
  have hb := cx.2.1
  have hml : c.maxLocals = Ls.size := cx.2.2.1.trans hL.1.symm
  have hown := cx.2.2.2.1
  have hSx := cx.2.2.2.2.2.1
  have hF : q_isR (gF G) := hSx.2.2.2.2.2.2.2.2.2.2.2.2.2.2.2.1
  have hw8 : ∀ r : List Value, q_W8 r → ((r.map (q_cv G)).map fun v => v.category).sum ≤ 8 := fun r h => by rw [q_cats hF]; exact h
  obtain ⟨rfl, x, y, r, rfl, ho⟩ := hs
  cases ho
  exact lv_imul hx hb hd (k H locs Ls hR hl hL g1 g2)
set_option maxHeartbeats 4000000 in
theorem q1_iand (cx : q_Cx G i p s m meth c) {pc : Nat} {len : Nat} {lk : q_LK} {ls st : List Value} {h : q_H} {pc2 : Nat} {ls2 st2 : List Value} {h2 : q_H} (hd : decode (q_cd i) pc = .ok (Instr.iand, len)) (hok : q_okI i (Instr.iand) lk = true) (hs : q_sr (gKd G) i pc (Instr.iand) len lk ls st h (.inl (pc2, ls2, st2, h2)))
    (hroom : h2.1 - n0 ≤ R.cells ∧ h2.2.1 - s0 ≤ R.slots) (hfr : 1 ≤ R.frames) (hlo : 200 ≤ R.locals) (k : q_Wt p l e R s m args below meth c Q G n0 s0 i pc2 ls2 st2 h2) : q_Wt p l e R s m args below meth c Q G n0 s0 i pc ls st h := by
  intro H locs Ls hR hl hL g1 g2
  have hx := cx.1
  have hb := cx.2.1
  have hml : c.maxLocals = Ls.size := cx.2.2.1.trans hL.1.symm
  have hown := cx.2.2.2.1
  have hSx := cx.2.2.2.2.2.1
  have hF : q_isR (gF G) := hSx.2.2.2.2.2.2.2.2.2.2.2.2.2.2.2.1
  have hw8 : ∀ r : List Value, q_W8 r → ((r.map (q_cv G)).map fun v => v.category).sum ≤ 8 := fun r h => by rw [q_cats hF]; exact h
  obtain ⟨rfl, x, y, r, rfl, ho⟩ := hs
  cases ho
  exact lv_iand hx hb hd (k H locs Ls hR hl hL g1 g2)
set_option maxHeartbeats 4000000 in
theorem q1_ior (cx : q_Cx G i p s m meth c) {pc : Nat} {len : Nat} {lk : q_LK} {ls st : List Value} {h : q_H} {pc2 : Nat} {ls2 st2 : List Value} {h2 : q_H} (hd : decode (q_cd i) pc = .ok (Instr.ior, len)) (hok : q_okI i (Instr.ior) lk = true) (hs : q_sr (gKd G) i pc (Instr.ior) len lk ls st h (.inl (pc2, ls2, st2, h2)))
    (hroom : h2.1 - n0 ≤ R.cells ∧ h2.2.1 - s0 ≤ R.slots) (hfr : 1 ≤ R.frames) (hlo : 200 ≤ R.locals) (k : q_Wt p l e R s m args below meth c Q G n0 s0 i pc2 ls2 st2 h2) : q_Wt p l e R s m args below meth c Q G n0 s0 i pc ls st h := by
  intro H locs Ls hR hl hL g1 g2
  have hx := cx.1
  have hb := cx.2.1
  have hml : c.maxLocals = Ls.size := cx.2.2.1.trans hL.1.symm
  have hown := cx.2.2.2.1
  have hSx := cx.2.2.2.2.2.1
  have hF : q_isR (gF G) := hSx.2.2.2.2.2.2.2.2.2.2.2.2.2.2.2.1
  have hw8 : ∀ r : List Value, q_W8 r → ((r.map (q_cv G)).map fun v => v.category).sum ≤ 8 := fun r h => by rw [q_cats hF]; exact h
  obtain ⟨rfl, x, y, r, rfl, ho⟩ := hs
  cases ho
  exact lv_ior hx hb hd (k H locs Ls hR hl hL g1 g2)
set_option maxHeartbeats 4000000 in
theorem q1_ixor (cx : q_Cx G i p s m meth c) {pc : Nat} {len : Nat} {lk : q_LK} {ls st : List Value} {h : q_H} {pc2 : Nat} {ls2 st2 : List Value} {h2 : q_H} (hd : decode (q_cd i) pc = .ok (Instr.ixor, len)) (hok : q_okI i (Instr.ixor) lk = true) (hs : q_sr (gKd G) i pc (Instr.ixor) len lk ls st h (.inl (pc2, ls2, st2, h2)))
    (hroom : h2.1 - n0 ≤ R.cells ∧ h2.2.1 - s0 ≤ R.slots) (hfr : 1 ≤ R.frames) (hlo : 200 ≤ R.locals) (k : q_Wt p l e R s m args below meth c Q G n0 s0 i pc2 ls2 st2 h2) : q_Wt p l e R s m args below meth c Q G n0 s0 i pc ls st h := by
  intro H locs Ls hR hl hL g1 g2
  have hx := cx.1
  have hb := cx.2.1
  have hml : c.maxLocals = Ls.size := cx.2.2.1.trans hL.1.symm
  have hown := cx.2.2.2.1
  have hSx := cx.2.2.2.2.2.1
  have hF : q_isR (gF G) := hSx.2.2.2.2.2.2.2.2.2.2.2.2.2.2.2.1
  have hw8 : ∀ r : List Value, q_W8 r → ((r.map (q_cv G)).map fun v => v.category).sum ≤ 8 := fun r h => by rw [q_cats hF]; exact h
  obtain ⟨rfl, x, y, r, rfl, ho⟩ := hs
  cases ho
  exact lv_ixor hx hb hd (k H locs Ls hR hl hL g1 g2)
set_option maxHeartbeats 4000000 in
theorem q1_ladd (cx : q_Cx G i p s m meth c) {pc : Nat} {len : Nat} {lk : q_LK} {ls st : List Value} {h : q_H} {pc2 : Nat} {ls2 st2 : List Value} {h2 : q_H} (hd : decode (q_cd i) pc = .ok (Instr.ladd, len)) (hok : q_okI i (Instr.ladd) lk = true) (hs : q_sr (gKd G) i pc (Instr.ladd) len lk ls st h (.inl (pc2, ls2, st2, h2)))
    (hroom : h2.1 - n0 ≤ R.cells ∧ h2.2.1 - s0 ≤ R.slots) (hfr : 1 ≤ R.frames) (hlo : 200 ≤ R.locals) (k : q_Wt p l e R s m args below meth c Q G n0 s0 i pc2 ls2 st2 h2) : q_Wt p l e R s m args below meth c Q G n0 s0 i pc ls st h := by
  intro H locs Ls hR hl hL g1 g2
  have hx := cx.1
  have hb := cx.2.1
  have hml : c.maxLocals = Ls.size := cx.2.2.1.trans hL.1.symm
  have hown := cx.2.2.2.1
  have hSx := cx.2.2.2.2.2.1
  have hF : q_isR (gF G) := hSx.2.2.2.2.2.2.2.2.2.2.2.2.2.2.2.1
  have hw8 : ∀ r : List Value, q_W8 r → ((r.map (q_cv G)).map fun v => v.category).sum ≤ 8 := fun r h => by rw [q_cats hF]; exact h
  obtain ⟨rfl, x, y, r, rfl, ho⟩ := hs
  cases ho
  exact lv_ladd hx hb hd (k H locs Ls hR hl hL g1 g2)
set_option maxHeartbeats 4000000 in
theorem q1_lsub (cx : q_Cx G i p s m meth c) {pc : Nat} {len : Nat} {lk : q_LK} {ls st : List Value} {h : q_H} {pc2 : Nat} {ls2 st2 : List Value} {h2 : q_H} (hd : decode (q_cd i) pc = .ok (Instr.lsub, len)) (hok : q_okI i (Instr.lsub) lk = true) (hs : q_sr (gKd G) i pc (Instr.lsub) len lk ls st h (.inl (pc2, ls2, st2, h2)))
    (hroom : h2.1 - n0 ≤ R.cells ∧ h2.2.1 - s0 ≤ R.slots) (hfr : 1 ≤ R.frames) (hlo : 200 ≤ R.locals) (k : q_Wt p l e R s m args below meth c Q G n0 s0 i pc2 ls2 st2 h2) : q_Wt p l e R s m args below meth c Q G n0 s0 i pc ls st h := by
  intro H locs Ls hR hl hL g1 g2
  have hx := cx.1
  have hb := cx.2.1
  have hml : c.maxLocals = Ls.size := cx.2.2.1.trans hL.1.symm
  have hown := cx.2.2.2.1
  have hSx := cx.2.2.2.2.2.1
  have hF : q_isR (gF G) := hSx.2.2.2.2.2.2.2.2.2.2.2.2.2.2.2.1
  have hw8 : ∀ r : List Value, q_W8 r → ((r.map (q_cv G)).map fun v => v.category).sum ≤ 8 := fun r h => by rw [q_cats hF]; exact h
  obtain ⟨rfl, x, y, r, rfl, ho⟩ := hs
  cases ho
  exact lv_lsub hx hb hd (k H locs Ls hR hl hL g1 g2)
set_option maxHeartbeats 4000000 in
theorem q1_lmul (cx : q_Cx G i p s m meth c) {pc : Nat} {len : Nat} {lk : q_LK} {ls st : List Value} {h : q_H} {pc2 : Nat} {ls2 st2 : List Value} {h2 : q_H} (hd : decode (q_cd i) pc = .ok (Instr.lmul, len)) (hok : q_okI i (Instr.lmul) lk = true) (hs : q_sr (gKd G) i pc (Instr.lmul) len lk ls st h (.inl (pc2, ls2, st2, h2)))
    (hroom : h2.1 - n0 ≤ R.cells ∧ h2.2.1 - s0 ≤ R.slots) (hfr : 1 ≤ R.frames) (hlo : 200 ≤ R.locals) (k : q_Wt p l e R s m args below meth c Q G n0 s0 i pc2 ls2 st2 h2) : q_Wt p l e R s m args below meth c Q G n0 s0 i pc ls st h := by
  intro H locs Ls hR hl hL g1 g2
  have hx := cx.1
  have hb := cx.2.1
  have hml : c.maxLocals = Ls.size := cx.2.2.1.trans hL.1.symm
  have hown := cx.2.2.2.1
  have hSx := cx.2.2.2.2.2.1
  have hF : q_isR (gF G) := hSx.2.2.2.2.2.2.2.2.2.2.2.2.2.2.2.1
  have hw8 : ∀ r : List Value, q_W8 r → ((r.map (q_cv G)).map fun v => v.category).sum ≤ 8 := fun r h => by rw [q_cats hF]; exact h
  obtain ⟨rfl, x, y, r, rfl, ho⟩ := hs
  cases ho
  exact lv_lmul hx hb hd (k H locs Ls hR hl hL g1 g2)
set_option maxHeartbeats 4000000 in
theorem q1_lor (cx : q_Cx G i p s m meth c) {pc : Nat} {len : Nat} {lk : q_LK} {ls st : List Value} {h : q_H} {pc2 : Nat} {ls2 st2 : List Value} {h2 : q_H} (hd : decode (q_cd i) pc = .ok (Instr.lor, len)) (hok : q_okI i (Instr.lor) lk = true) (hs : q_sr (gKd G) i pc (Instr.lor) len lk ls st h (.inl (pc2, ls2, st2, h2)))
    (hroom : h2.1 - n0 ≤ R.cells ∧ h2.2.1 - s0 ≤ R.slots) (hfr : 1 ≤ R.frames) (hlo : 200 ≤ R.locals) (k : q_Wt p l e R s m args below meth c Q G n0 s0 i pc2 ls2 st2 h2) : q_Wt p l e R s m args below meth c Q G n0 s0 i pc ls st h := by
  intro H locs Ls hR hl hL g1 g2
  have hx := cx.1
  have hb := cx.2.1
  have hml : c.maxLocals = Ls.size := cx.2.2.1.trans hL.1.symm
  have hown := cx.2.2.2.1
  have hSx := cx.2.2.2.2.2.1
  have hF : q_isR (gF G) := hSx.2.2.2.2.2.2.2.2.2.2.2.2.2.2.2.1
  have hw8 : ∀ r : List Value, q_W8 r → ((r.map (q_cv G)).map fun v => v.category).sum ≤ 8 := fun r h => by rw [q_cats hF]; exact h
  obtain ⟨rfl, x, y, r, rfl, ho⟩ := hs
  cases ho
  exact lv_lor hx hb hd (k H locs Ls hR hl hL g1 g2)
set_option maxHeartbeats 4000000 in
theorem q1_ishl (cx : q_Cx G i p s m meth c) {pc : Nat} {len : Nat} {lk : q_LK} {ls st : List Value} {h : q_H} {pc2 : Nat} {ls2 st2 : List Value} {h2 : q_H} (hd : decode (q_cd i) pc = .ok (Instr.ishl, len)) (hok : q_okI i (Instr.ishl) lk = true) (hs : q_sr (gKd G) i pc (Instr.ishl) len lk ls st h (.inl (pc2, ls2, st2, h2)))
    (hroom : h2.1 - n0 ≤ R.cells ∧ h2.2.1 - s0 ≤ R.slots) (hfr : 1 ≤ R.frames) (hlo : 200 ≤ R.locals) (k : q_Wt p l e R s m args below meth c Q G n0 s0 i pc2 ls2 st2 h2) : q_Wt p l e R s m args below meth c Q G n0 s0 i pc ls st h := by
  intro H locs Ls hR hl hL g1 g2
  have hx := cx.1
  have hb := cx.2.1
  have hml : c.maxLocals = Ls.size := cx.2.2.1.trans hL.1.symm
  have hown := cx.2.2.2.1
  have hSx := cx.2.2.2.2.2.1
  have hF : q_isR (gF G) := hSx.2.2.2.2.2.2.2.2.2.2.2.2.2.2.2.1
  have hw8 : ∀ r : List Value, q_W8 r → ((r.map (q_cv G)).map fun v => v.category).sum ≤ 8 := fun r h => by rw [q_cats hF]; exact h
  obtain ⟨rfl, x, y, r, rfl, ho⟩ := hs
  cases ho
  exact lv_ishl hx hb hd (k H locs Ls hR hl hL g1 g2)
set_option maxHeartbeats 4000000 in
theorem q1_ishr (cx : q_Cx G i p s m meth c) {pc : Nat} {len : Nat} {lk : q_LK} {ls st : List Value} {h : q_H} {pc2 : Nat} {ls2 st2 : List Value} {h2 : q_H} (hd : decode (q_cd i) pc = .ok (Instr.ishr, len)) (hok : q_okI i (Instr.ishr) lk = true) (hs : q_sr (gKd G) i pc (Instr.ishr) len lk ls st h (.inl (pc2, ls2, st2, h2)))
    (hroom : h2.1 - n0 ≤ R.cells ∧ h2.2.1 - s0 ≤ R.slots) (hfr : 1 ≤ R.frames) (hlo : 200 ≤ R.locals) (k : q_Wt p l e R s m args below meth c Q G n0 s0 i pc2 ls2 st2 h2) : q_Wt p l e R s m args below meth c Q G n0 s0 i pc ls st h := by
  intro H locs Ls hR hl hL g1 g2
  have hx := cx.1
  have hb := cx.2.1
  have hml : c.maxLocals = Ls.size := cx.2.2.1.trans hL.1.symm
  have hown := cx.2.2.2.1
  have hSx := cx.2.2.2.2.2.1
  have hF : q_isR (gF G) := hSx.2.2.2.2.2.2.2.2.2.2.2.2.2.2.2.1
  have hw8 : ∀ r : List Value, q_W8 r → ((r.map (q_cv G)).map fun v => v.category).sum ≤ 8 := fun r h => by rw [q_cats hF]; exact h
  obtain ⟨rfl, x, y, r, rfl, ho⟩ := hs
  cases ho
  exact lv_ishr hx hb hd (k H locs Ls hR hl hL g1 g2)
set_option maxHeartbeats 4000000 in
theorem q1_idiv (cx : q_Cx G i p s m meth c) {pc : Nat} {len : Nat} {lk : q_LK} {ls st : List Value} {h : q_H} {pc2 : Nat} {ls2 st2 : List Value} {h2 : q_H} (hd : decode (q_cd i) pc = .ok (Instr.idiv, len)) (hok : q_okI i (Instr.idiv) lk = true) (hs : q_sr (gKd G) i pc (Instr.idiv) len lk ls st h (.inl (pc2, ls2, st2, h2)))
    (hroom : h2.1 - n0 ≤ R.cells ∧ h2.2.1 - s0 ≤ R.slots) (hfr : 1 ≤ R.frames) (hlo : 200 ≤ R.locals) (k : q_Wt p l e R s m args below meth c Q G n0 s0 i pc2 ls2 st2 h2) : q_Wt p l e R s m args below meth c Q G n0 s0 i pc ls st h := by
  intro H locs Ls hR hl hL g1 g2
  have hx := cx.1
  have hb := cx.2.1
  have hml : c.maxLocals = Ls.size := cx.2.2.1.trans hL.1.symm
  have hown := cx.2.2.2.1
  have hSx := cx.2.2.2.2.2.1
  have hF : q_isR (gF G) := hSx.2.2.2.2.2.2.2.2.2.2.2.2.2.2.2.1
  have hw8 : ∀ r : List Value, q_W8 r → ((r.map (q_cv G)).map fun v => v.category).sum ≤ 8 := fun r h => by rw [q_cats hF]; exact h
  obtain ⟨rfl, x, y, r, rfl, hne, ho⟩ := hs
  cases ho
  exact lv_idiv hx hb hd hne (k H locs Ls hR hl hL g1 g2)
set_option maxHeartbeats 4000000 in
theorem q1_irem (cx : q_Cx G i p s m meth c) {pc : Nat} {len : Nat} {lk : q_LK} {ls st : List Value} {h : q_H} {pc2 : Nat} {ls2 st2 : List Value} {h2 : q_H} (hd : decode (q_cd i) pc = .ok (Instr.irem, len)) (hok : q_okI i (Instr.irem) lk = true) (hs : q_sr (gKd G) i pc (Instr.irem) len lk ls st h (.inl (pc2, ls2, st2, h2)))
    (hroom : h2.1 - n0 ≤ R.cells ∧ h2.2.1 - s0 ≤ R.slots) (hfr : 1 ≤ R.frames) (hlo : 200 ≤ R.locals) (k : q_Wt p l e R s m args below meth c Q G n0 s0 i pc2 ls2 st2 h2) : q_Wt p l e R s m args below meth c Q G n0 s0 i pc ls st h := by
  intro H locs Ls hR hl hL g1 g2
  have hx := cx.1
  have hb := cx.2.1
  have hml : c.maxLocals = Ls.size := cx.2.2.1.trans hL.1.symm
  have hown := cx.2.2.2.1
  have hSx := cx.2.2.2.2.2.1
  have hF : q_isR (gF G) := hSx.2.2.2.2.2.2.2.2.2.2.2.2.2.2.2.1
  have hw8 : ∀ r : List Value, q_W8 r → ((r.map (q_cv G)).map fun v => v.category).sum ≤ 8 := fun r h => by rw [q_cats hF]; exact h
  obtain ⟨rfl, x, y, r, rfl, hne, ho⟩ := hs
  cases ho
  exact lv_irem hx hb hd hne (k H locs Ls hR hl hL g1 g2)
set_option maxHeartbeats 4000000 in
theorem q1_ldiv (cx : q_Cx G i p s m meth c) {pc : Nat} {len : Nat} {lk : q_LK} {ls st : List Value} {h : q_H} {pc2 : Nat} {ls2 st2 : List Value} {h2 : q_H} (hd : decode (q_cd i) pc = .ok (Instr.ldiv, len)) (hok : q_okI i (Instr.ldiv) lk = true) (hs : q_sr (gKd G) i pc (Instr.ldiv) len lk ls st h (.inl (pc2, ls2, st2, h2)))
    (hroom : h2.1 - n0 ≤ R.cells ∧ h2.2.1 - s0 ≤ R.slots) (hfr : 1 ≤ R.frames) (hlo : 200 ≤ R.locals) (k : q_Wt p l e R s m args below meth c Q G n0 s0 i pc2 ls2 st2 h2) : q_Wt p l e R s m args below meth c Q G n0 s0 i pc ls st h := by
  intro H locs Ls hR hl hL g1 g2
  have hx := cx.1
  have hb := cx.2.1
  have hml : c.maxLocals = Ls.size := cx.2.2.1.trans hL.1.symm
  have hown := cx.2.2.2.1
  have hSx := cx.2.2.2.2.2.1
  have hF : q_isR (gF G) := hSx.2.2.2.2.2.2.2.2.2.2.2.2.2.2.2.1
  have hw8 : ∀ r : List Value, q_W8 r → ((r.map (q_cv G)).map fun v => v.category).sum ≤ 8 := fun r h => by rw [q_cats hF]; exact h
  obtain ⟨rfl, x, y, r, rfl, hne, ho⟩ := hs
  cases ho
  exact lv_ldiv hx hb hd hne (k H locs Ls hR hl hL g1 g2)
set_option maxHeartbeats 4000000 in
theorem q1_iushr (cx : q_Cx G i p s m meth c) {pc : Nat} {len : Nat} {lk : q_LK} {ls st : List Value} {h : q_H} {pc2 : Nat} {ls2 st2 : List Value} {h2 : q_H} (hd : decode (q_cd i) pc = .ok (Instr.iushr, len)) (hok : q_okI i (Instr.iushr) lk = true) (hs : q_sr (gKd G) i pc (Instr.iushr) len lk ls st h (.inl (pc2, ls2, st2, h2)))
    (hroom : h2.1 - n0 ≤ R.cells ∧ h2.2.1 - s0 ≤ R.slots) (hfr : 1 ≤ R.frames) (hlo : 200 ≤ R.locals) (k : q_Wt p l e R s m args below meth c Q G n0 s0 i pc2 ls2 st2 h2) : q_Wt p l e R s m args below meth c Q G n0 s0 i pc ls st h := by
  intro H locs Ls hR hl hL g1 g2
  have hx := cx.1
  have hb := cx.2.1
  have hml : c.maxLocals = Ls.size := cx.2.2.1.trans hL.1.symm
  have hown := cx.2.2.2.1
  have hSx := cx.2.2.2.2.2.1
  have hF : q_isR (gF G) := hSx.2.2.2.2.2.2.2.2.2.2.2.2.2.2.2.1
  have hw8 : ∀ r : List Value, q_W8 r → ((r.map (q_cv G)).map fun v => v.category).sum ≤ 8 := fun r h => by rw [q_cats hF]; exact h
  obtain ⟨rfl, x, y, r, rfl, ho⟩ := hs
  cases ho
  exact lv_iushr hx hb hd rfl (k H locs Ls hR hl hL g1 g2)
set_option maxHeartbeats 4000000 in
theorem q1_lshl (cx : q_Cx G i p s m meth c) {pc : Nat} {len : Nat} {lk : q_LK} {ls st : List Value} {h : q_H} {pc2 : Nat} {ls2 st2 : List Value} {h2 : q_H} (hd : decode (q_cd i) pc = .ok (Instr.lshl, len)) (hok : q_okI i (Instr.lshl) lk = true) (hs : q_sr (gKd G) i pc (Instr.lshl) len lk ls st h (.inl (pc2, ls2, st2, h2)))
    (hroom : h2.1 - n0 ≤ R.cells ∧ h2.2.1 - s0 ≤ R.slots) (hfr : 1 ≤ R.frames) (hlo : 200 ≤ R.locals) (k : q_Wt p l e R s m args below meth c Q G n0 s0 i pc2 ls2 st2 h2) : q_Wt p l e R s m args below meth c Q G n0 s0 i pc ls st h := by
  intro H locs Ls hR hl hL g1 g2
  have hx := cx.1
  have hb := cx.2.1
  have hml : c.maxLocals = Ls.size := cx.2.2.1.trans hL.1.symm
  have hown := cx.2.2.2.1
  have hSx := cx.2.2.2.2.2.1
  have hF : q_isR (gF G) := hSx.2.2.2.2.2.2.2.2.2.2.2.2.2.2.2.1
  have hw8 : ∀ r : List Value, q_W8 r → ((r.map (q_cv G)).map fun v => v.category).sum ≤ 8 := fun r h => by rw [q_cats hF]; exact h
  obtain ⟨rfl, x, y, r, rfl, ho⟩ := hs
  cases ho
  exact lv_lshl hx hb hd rfl (k H locs Ls hR hl hL g1 g2)
set_option maxHeartbeats 4000000 in
theorem q1_lcmp (cx : q_Cx G i p s m meth c) {pc : Nat} {len : Nat} {lk : q_LK} {ls st : List Value} {h : q_H} {pc2 : Nat} {ls2 st2 : List Value} {h2 : q_H} (hd : decode (q_cd i) pc = .ok (Instr.lcmp, len)) (hok : q_okI i (Instr.lcmp) lk = true) (hs : q_sr (gKd G) i pc (Instr.lcmp) len lk ls st h (.inl (pc2, ls2, st2, h2)))
    (hroom : h2.1 - n0 ≤ R.cells ∧ h2.2.1 - s0 ≤ R.slots) (hfr : 1 ≤ R.frames) (hlo : 200 ≤ R.locals) (k : q_Wt p l e R s m args below meth c Q G n0 s0 i pc2 ls2 st2 h2) : q_Wt p l e R s m args below meth c Q G n0 s0 i pc ls st h := by
  intro H locs Ls hR hl hL g1 g2
  have hx := cx.1
  have hb := cx.2.1
  have hml : c.maxLocals = Ls.size := cx.2.2.1.trans hL.1.symm
  have hown := cx.2.2.2.1
  have hSx := cx.2.2.2.2.2.1
  have hF : q_isR (gF G) := hSx.2.2.2.2.2.2.2.2.2.2.2.2.2.2.2.1
  have hw8 : ∀ r : List Value, q_W8 r → ((r.map (q_cv G)).map fun v => v.category).sum ≤ 8 := fun r h => by rw [q_cats hF]; exact h
  obtain ⟨rfl, x, y, r, rfl, ho⟩ := hs
  cases ho
  exact W.lcmp hx hb hd (k H locs Ls hR hl hL g1 g2)
set_option maxHeartbeats 4000000 in
theorem q1_ineg (cx : q_Cx G i p s m meth c) {pc : Nat} {len : Nat} {lk : q_LK} {ls st : List Value} {h : q_H} {pc2 : Nat} {ls2 st2 : List Value} {h2 : q_H} (hd : decode (q_cd i) pc = .ok (Instr.ineg, len)) (hok : q_okI i (Instr.ineg) lk = true) (hs : q_sr (gKd G) i pc (Instr.ineg) len lk ls st h (.inl (pc2, ls2, st2, h2)))
    (hroom : h2.1 - n0 ≤ R.cells ∧ h2.2.1 - s0 ≤ R.slots) (hfr : 1 ≤ R.frames) (hlo : 200 ≤ R.locals) (k : q_Wt p l e R s m args below meth c Q G n0 s0 i pc2 ls2 st2 h2) : q_Wt p l e R s m args below meth c Q G n0 s0 i pc ls st h := by
  intro H locs Ls hR hl hL g1 g2
  have hx := cx.1
  have hb := cx.2.1
  have hml : c.maxLocals = Ls.size := cx.2.2.1.trans hL.1.symm
  have hown := cx.2.2.2.1
  have hSx := cx.2.2.2.2.2.1
  have hF : q_isR (gF G) := hSx.2.2.2.2.2.2.2.2.2.2.2.2.2.2.2.1
  have hw8 : ∀ r : List Value, q_W8 r → ((r.map (q_cv G)).map fun v => v.category).sum ≤ 8 := fun r h => by rw [q_cats hF]; exact h
  obtain ⟨rfl, x, r, rfl, ho⟩ := hs
  cases ho
  exact lv_ineg hx hb hd (k H locs Ls hR hl hL g1 g2)
set_option maxHeartbeats 4000000 in
theorem q1_lneg (cx : q_Cx G i p s m meth c) {pc : Nat} {len : Nat} {lk : q_LK} {ls st : List Value} {h : q_H} {pc2 : Nat} {ls2 st2 : List Value} {h2 : q_H} (hd : decode (q_cd i) pc = .ok (Instr.lneg, len)) (hok : q_okI i (Instr.lneg) lk = true) (hs : q_sr (gKd G) i pc (Instr.lneg) len lk ls st h (.inl (pc2, ls2, st2, h2)))
    (hroom : h2.1 - n0 ≤ R.cells ∧ h2.2.1 - s0 ≤ R.slots) (hfr : 1 ≤ R.frames) (hlo : 200 ≤ R.locals) (k : q_Wt p l e R s m args below meth c Q G n0 s0 i pc2 ls2 st2 h2) : q_Wt p l e R s m args below meth c Q G n0 s0 i pc ls st h := by
  intro H locs Ls hR hl hL g1 g2
  have hx := cx.1
  have hb := cx.2.1
  have hml : c.maxLocals = Ls.size := cx.2.2.1.trans hL.1.symm
  have hown := cx.2.2.2.1
  have hSx := cx.2.2.2.2.2.1
  have hF : q_isR (gF G) := hSx.2.2.2.2.2.2.2.2.2.2.2.2.2.2.2.1
  have hw8 : ∀ r : List Value, q_W8 r → ((r.map (q_cv G)).map fun v => v.category).sum ≤ 8 := fun r h => by rw [q_cats hF]; exact h
  obtain ⟨rfl, x, r, rfl, ho⟩ := hs
  cases ho
  exact lv_lneg hx hb hd (k H locs Ls hR hl hL g1 g2)
set_option maxHeartbeats 4000000 in
theorem q1_i2l (cx : q_Cx G i p s m meth c) {pc : Nat} {len : Nat} {lk : q_LK} {ls st : List Value} {h : q_H} {pc2 : Nat} {ls2 st2 : List Value} {h2 : q_H} (hd : decode (q_cd i) pc = .ok (Instr.i2l, len)) (hok : q_okI i (Instr.i2l) lk = true) (hs : q_sr (gKd G) i pc (Instr.i2l) len lk ls st h (.inl (pc2, ls2, st2, h2)))
    (hroom : h2.1 - n0 ≤ R.cells ∧ h2.2.1 - s0 ≤ R.slots) (hfr : 1 ≤ R.frames) (hlo : 200 ≤ R.locals) (k : q_Wt p l e R s m args below meth c Q G n0 s0 i pc2 ls2 st2 h2) : q_Wt p l e R s m args below meth c Q G n0 s0 i pc ls st h := by
  intro H locs Ls hR hl hL g1 g2
  have hx := cx.1
  have hb := cx.2.1
  have hml : c.maxLocals = Ls.size := cx.2.2.1.trans hL.1.symm
  have hown := cx.2.2.2.1
  have hSx := cx.2.2.2.2.2.1
  have hF : q_isR (gF G) := hSx.2.2.2.2.2.2.2.2.2.2.2.2.2.2.2.1
  have hw8 : ∀ r : List Value, q_W8 r → ((r.map (q_cv G)).map fun v => v.category).sum ≤ 8 := fun r h => by rw [q_cats hF]; exact h
  obtain ⟨rfl, x, r, rfl, ho⟩ := hs
  cases ho
  exact lv_i2l hx hb hd rfl (k H locs Ls hR hl hL g1 g2)
set_option maxHeartbeats 4000000 in
theorem q1_l2i (cx : q_Cx G i p s m meth c) {pc : Nat} {len : Nat} {lk : q_LK} {ls st : List Value} {h : q_H} {pc2 : Nat} {ls2 st2 : List Value} {h2 : q_H} (hd : decode (q_cd i) pc = .ok (Instr.l2i, len)) (hok : q_okI i (Instr.l2i) lk = true) (hs : q_sr (gKd G) i pc (Instr.l2i) len lk ls st h (.inl (pc2, ls2, st2, h2)))
    (hroom : h2.1 - n0 ≤ R.cells ∧ h2.2.1 - s0 ≤ R.slots) (hfr : 1 ≤ R.frames) (hlo : 200 ≤ R.locals) (k : q_Wt p l e R s m args below meth c Q G n0 s0 i pc2 ls2 st2 h2) : q_Wt p l e R s m args below meth c Q G n0 s0 i pc ls st h := by
  intro H locs Ls hR hl hL g1 g2
  have hx := cx.1
  have hb := cx.2.1
  have hml : c.maxLocals = Ls.size := cx.2.2.1.trans hL.1.symm
  have hown := cx.2.2.2.1
  have hSx := cx.2.2.2.2.2.1
  have hF : q_isR (gF G) := hSx.2.2.2.2.2.2.2.2.2.2.2.2.2.2.2.1
  have hw8 : ∀ r : List Value, q_W8 r → ((r.map (q_cv G)).map fun v => v.category).sum ≤ 8 := fun r h => by rw [q_cats hF]; exact h
  obtain ⟨rfl, x, r, rfl, ho⟩ := hs
  cases ho
  exact lv_l2i hx hb hd rfl (k H locs Ls hR hl hL g1 g2)
set_option maxHeartbeats 4000000 in
theorem q1_i2b (cx : q_Cx G i p s m meth c) {pc : Nat} {len : Nat} {lk : q_LK} {ls st : List Value} {h : q_H} {pc2 : Nat} {ls2 st2 : List Value} {h2 : q_H} (hd : decode (q_cd i) pc = .ok (Instr.i2b, len)) (hok : q_okI i (Instr.i2b) lk = true) (hs : q_sr (gKd G) i pc (Instr.i2b) len lk ls st h (.inl (pc2, ls2, st2, h2)))
    (hroom : h2.1 - n0 ≤ R.cells ∧ h2.2.1 - s0 ≤ R.slots) (hfr : 1 ≤ R.frames) (hlo : 200 ≤ R.locals) (k : q_Wt p l e R s m args below meth c Q G n0 s0 i pc2 ls2 st2 h2) : q_Wt p l e R s m args below meth c Q G n0 s0 i pc ls st h := by
  intro H locs Ls hR hl hL g1 g2
  have hx := cx.1
  have hb := cx.2.1
  have hml : c.maxLocals = Ls.size := cx.2.2.1.trans hL.1.symm
  have hown := cx.2.2.2.1
  have hSx := cx.2.2.2.2.2.1
  have hF : q_isR (gF G) := hSx.2.2.2.2.2.2.2.2.2.2.2.2.2.2.2.1
  have hw8 : ∀ r : List Value, q_W8 r → ((r.map (q_cv G)).map fun v => v.category).sum ≤ 8 := fun r h => by rw [q_cats hF]; exact h
  obtain ⟨rfl, x, r, rfl, ho⟩ := hs
  cases ho
  exact lv_i2b hx hb hd rfl (k H locs Ls hR hl hL g1 g2)
set_option maxHeartbeats 4000000 in
theorem q1_i2c (cx : q_Cx G i p s m meth c) {pc : Nat} {len : Nat} {lk : q_LK} {ls st : List Value} {h : q_H} {pc2 : Nat} {ls2 st2 : List Value} {h2 : q_H} (hd : decode (q_cd i) pc = .ok (Instr.i2c, len)) (hok : q_okI i (Instr.i2c) lk = true) (hs : q_sr (gKd G) i pc (Instr.i2c) len lk ls st h (.inl (pc2, ls2, st2, h2)))
    (hroom : h2.1 - n0 ≤ R.cells ∧ h2.2.1 - s0 ≤ R.slots) (hfr : 1 ≤ R.frames) (hlo : 200 ≤ R.locals) (k : q_Wt p l e R s m args below meth c Q G n0 s0 i pc2 ls2 st2 h2) : q_Wt p l e R s m args below meth c Q G n0 s0 i pc ls st h := by
  intro H locs Ls hR hl hL g1 g2
  have hx := cx.1
  have hb := cx.2.1
  have hml : c.maxLocals = Ls.size := cx.2.2.1.trans hL.1.symm
  have hown := cx.2.2.2.1
  have hSx := cx.2.2.2.2.2.1
  have hF : q_isR (gF G) := hSx.2.2.2.2.2.2.2.2.2.2.2.2.2.2.2.1
  have hw8 : ∀ r : List Value, q_W8 r → ((r.map (q_cv G)).map fun v => v.category).sum ≤ 8 := fun r h => by rw [q_cats hF]; exact h
  obtain ⟨rfl, x, r, rfl, ho⟩ := hs
  cases ho
  exact lv_i2c hx hb hd rfl (k H locs Ls hR hl hL g1 g2)
set_option maxHeartbeats 4000000 in
theorem q1_dup (cx : q_Cx G i p s m meth c) {pc : Nat} {len : Nat} {lk : q_LK} {ls st : List Value} {h : q_H} {pc2 : Nat} {ls2 st2 : List Value} {h2 : q_H} (hd : decode (q_cd i) pc = .ok (Instr.dup, len)) (hok : q_okI i (Instr.dup) lk = true) (hs : q_sr (gKd G) i pc (Instr.dup) len lk ls st h (.inl (pc2, ls2, st2, h2)))
    (hroom : h2.1 - n0 ≤ R.cells ∧ h2.2.1 - s0 ≤ R.slots) (hfr : 1 ≤ R.frames) (hlo : 200 ≤ R.locals) (k : q_Wt p l e R s m args below meth c Q G n0 s0 i pc2 ls2 st2 h2) : q_Wt p l e R s m args below meth c Q G n0 s0 i pc ls st h := by
  intro H locs Ls hR hl hL g1 g2
  have hx := cx.1
  have hb := cx.2.1
  have hml : c.maxLocals = Ls.size := cx.2.2.1.trans hL.1.symm
  have hown := cx.2.2.2.1
  have hSx := cx.2.2.2.2.2.1
  have hF : q_isR (gF G) := hSx.2.2.2.2.2.2.2.2.2.2.2.2.2.2.2.1
  have hw8 : ∀ r : List Value, q_W8 r → ((r.map (q_cv G)).map fun v => v.category).sum ≤ 8 := fun r h => by rw [q_cats hF]; exact h
  obtain ⟨rfl, v, r, rfl, hc, ho⟩ := hs
  cases ho
  exact lv_dup hx hb hd (by rw [q_cat hF]; exact hc) (k H locs Ls hR hl hL g1 g2)
set_option maxHeartbeats 4000000 in
theorem q1_pop (cx : q_Cx G i p s m meth c) {pc : Nat} {len : Nat} {lk : q_LK} {ls st : List Value} {h : q_H} {pc2 : Nat} {ls2 st2 : List Value} {h2 : q_H} (hd : decode (q_cd i) pc = .ok (Instr.pop, len)) (hok : q_okI i (Instr.pop) lk = true) (hs : q_sr (gKd G) i pc (Instr.pop) len lk ls st h (.inl (pc2, ls2, st2, h2)))
    (hroom : h2.1 - n0 ≤ R.cells ∧ h2.2.1 - s0 ≤ R.slots) (hfr : 1 ≤ R.frames) (hlo : 200 ≤ R.locals) (k : q_Wt p l e R s m args below meth c Q G n0 s0 i pc2 ls2 st2 h2) : q_Wt p l e R s m args below meth c Q G n0 s0 i pc ls st h := by
  intro H locs Ls hR hl hL g1 g2
  have hx := cx.1
  have hb := cx.2.1
  have hml : c.maxLocals = Ls.size := cx.2.2.1.trans hL.1.symm
  have hown := cx.2.2.2.1
  have hSx := cx.2.2.2.2.2.1
  have hF : q_isR (gF G) := hSx.2.2.2.2.2.2.2.2.2.2.2.2.2.2.2.1
  have hw8 : ∀ r : List Value, q_W8 r → ((r.map (q_cv G)).map fun v => v.category).sum ≤ 8 := fun r h => by rw [q_cats hF]; exact h
  obtain ⟨rfl, v, r, rfl, hc, ho⟩ := hs
  cases ho
  exact lv_pop hx hb hd (by rw [q_cat hF]; exact hc) (k H locs Ls hR hl hL g1 g2)
set_option maxHeartbeats 4000000 in
theorem q1_dup2 (cx : q_Cx G i p s m meth c) {pc : Nat} {len : Nat} {lk : q_LK} {ls st : List Value} {h : q_H} {pc2 : Nat} {ls2 st2 : List Value} {h2 : q_H} (hd : decode (q_cd i) pc = .ok (Instr.dup2, len)) (hok : q_okI i (Instr.dup2) lk = true) (hs : q_sr (gKd G) i pc (Instr.dup2) len lk ls st h (.inl (pc2, ls2, st2, h2)))
    (hroom : h2.1 - n0 ≤ R.cells ∧ h2.2.1 - s0 ≤ R.slots) (hfr : 1 ≤ R.frames) (hlo : 200 ≤ R.locals) (k : q_Wt p l e R s m args below meth c Q G n0 s0 i pc2 ls2 st2 h2) : q_Wt p l e R s m args below meth c Q G n0 s0 i pc ls st h := by
  intro H locs Ls hR hl hL g1 g2
  have hx := cx.1
  have hb := cx.2.1
  have hml : c.maxLocals = Ls.size := cx.2.2.1.trans hL.1.symm
  have hown := cx.2.2.2.1
  have hSx := cx.2.2.2.2.2.1
  have hF : q_isR (gF G) := hSx.2.2.2.2.2.2.2.2.2.2.2.2.2.2.2.1
  have hw8 : ∀ r : List Value, q_W8 r → ((r.map (q_cv G)).map fun v => v.category).sum ≤ 8 := fun r h => by rw [q_cats hF]; exact h
  obtain ⟨rfl, v, w, r, rfl, hc, hc2, ho⟩ := hs
  cases ho
  exact lv_dup2_11 hx hb hd (by rw [q_cat hF]; exact hc) (by rw [q_cat hF]; exact hc2) (k H locs Ls hR hl hL g1 g2)
set_option maxHeartbeats 4000000 in
theorem q1_ifCond (cx : q_Cx G i p s m meth c) {pc : Nat} {cn : ClassFile.Cond} {off : Int} {len : Nat} {lk : q_LK} {ls st : List Value} {h : q_H} {pc2 : Nat} {ls2 st2 : List Value} {h2 : q_H} (hd : decode (q_cd i) pc = .ok (Instr.ifCond cn off, len)) (hok : q_okI i (Instr.ifCond cn off) lk = true) (hs : q_sr (gKd G) i pc (Instr.ifCond cn off) len lk ls st h (.inl (pc2, ls2, st2, h2)))
    (hroom : h2.1 - n0 ≤ R.cells ∧ h2.2.1 - s0 ≤ R.slots) (hfr : 1 ≤ R.frames) (hlo : 200 ≤ R.locals) (k : q_Wt p l e R s m args below meth c Q G n0 s0 i pc2 ls2 st2 h2) : q_Wt p l e R s m args below meth c Q G n0 s0 i pc ls st h := by
  intro H locs Ls hR hl hL g1 g2
  have hx := cx.1
  have hb := cx.2.1
  have hml : c.maxLocals = Ls.size := cx.2.2.1.trans hL.1.symm
  have hown := cx.2.2.2.1
  have hSx := cx.2.2.2.2.2.1
  have hF : q_isR (gF G) := hSx.2.2.2.2.2.2.2.2.2.2.2.2.2.2.2.1
  have hw8 : ∀ r : List Value, q_W8 r → ((r.map (q_cv G)).map fun v => v.category).sum ≤ 8 := fun r h => by rw [q_cats hF]; exact h
  obtain ⟨rfl, x, r, tgt, rfl, ht, hc⟩ := hs
  cases cn
  · rcases hc with ⟨hc, ho⟩ | ⟨hc, ho⟩
    · cases ho; exact lv_if_eq hx hb hd ht (fun _ => (k H locs Ls hR hl hL g1 g2)) (fun q => absurd hc q)
    · cases ho; exact lv_if_eq hx hb hd ht (fun q => absurd q hc) (fun _ => (k H locs Ls hR hl hL g1 g2))
  · rcases hc with ⟨hc, ho⟩ | ⟨hc, ho⟩
    · cases ho; exact lv_if_ne hx hb hd ht (fun _ => (k H locs Ls hR hl hL g1 g2)) (fun q => absurd q hc)
    · cases ho; exact lv_if_ne hx hb hd ht (fun q => absurd q hc) (fun _ => (k H locs Ls hR hl hL g1 g2))
  · rcases hc with ⟨hc, ho⟩ | ⟨hc, ho⟩
    · cases ho; exact lv_if_lt hx hb hd ht (fun _ => (k H locs Ls hR hl hL g1 g2)) (fun q => absurd hc q)
    · cases ho; exact lv_if_lt hx hb hd ht (fun q => absurd q hc) (fun _ => (k H locs Ls hR hl hL g1 g2))
  · rcases hc with ⟨hc, ho⟩ | ⟨hc, ho⟩
    · cases ho; exact lv_if_ge hx hb hd ht (fun _ => (k H locs Ls hR hl hL g1 g2)) (fun q => absurd hc q)
    · cases ho; exact lv_if_ge hx hb hd ht (fun q => absurd q hc) (fun _ => (k H locs Ls hR hl hL g1 g2))
  · rcases hc with ⟨hc, ho⟩ | ⟨hc, ho⟩
    · cases ho; exact lv_if_gt hx hb hd ht (fun _ => (k H locs Ls hR hl hL g1 g2)) (fun q => absurd hc q)
    · cases ho; exact lv_if_gt hx hb hd ht (fun q => absurd q hc) (fun _ => (k H locs Ls hR hl hL g1 g2))
  · rcases hc with ⟨hc, ho⟩ | ⟨hc, ho⟩
    · cases ho; exact lv_if_le hx hb hd ht (fun _ => (k H locs Ls hR hl hL g1 g2)) (fun q => absurd hc q)
    · cases ho; exact lv_if_le hx hb hd ht (fun q => absurd q hc) (fun _ => (k H locs Ls hR hl hL g1 g2))
set_option maxHeartbeats 4000000 in
theorem q1_if_icmp (cx : q_Cx G i p s m meth c) {pc : Nat} {cn : ClassFile.Cond} {off : Int} {len : Nat} {lk : q_LK} {ls st : List Value} {h : q_H} {pc2 : Nat} {ls2 st2 : List Value} {h2 : q_H} (hd : decode (q_cd i) pc = .ok (Instr.if_icmp cn off, len)) (hok : q_okI i (Instr.if_icmp cn off) lk = true) (hs : q_sr (gKd G) i pc (Instr.if_icmp cn off) len lk ls st h (.inl (pc2, ls2, st2, h2)))
    (hroom : h2.1 - n0 ≤ R.cells ∧ h2.2.1 - s0 ≤ R.slots) (hfr : 1 ≤ R.frames) (hlo : 200 ≤ R.locals) (k : q_Wt p l e R s m args below meth c Q G n0 s0 i pc2 ls2 st2 h2) : q_Wt p l e R s m args below meth c Q G n0 s0 i pc ls st h := by
  intro H locs Ls hR hl hL g1 g2
  have hx := cx.1
  have hb := cx.2.1
  have hml : c.maxLocals = Ls.size := cx.2.2.1.trans hL.1.symm
  have hown := cx.2.2.2.1
  have hSx := cx.2.2.2.2.2.1
  have hF : q_isR (gF G) := hSx.2.2.2.2.2.2.2.2.2.2.2.2.2.2.2.1
  have hw8 : ∀ r : List Value, q_W8 r → ((r.map (q_cv G)).map fun v => v.category).sum ≤ 8 := fun r h => by rw [q_cats hF]; exact h
  obtain ⟨rfl, x, y, r, tgt, rfl, ht, hc⟩ := hs
  cases cn
  · rcases hc with ⟨hc, ho⟩ | ⟨hc, ho⟩
    · cases ho; exact lv_icmp_eq hx hb hd ht (fun _ => (k H locs Ls hR hl hL g1 g2)) (fun q => absurd hc q)
    · cases ho; exact lv_icmp_eq hx hb hd ht (fun q => absurd q hc) (fun _ => (k H locs Ls hR hl hL g1 g2))
  · rcases hc with ⟨hc, ho⟩ | ⟨hc, ho⟩
    · cases ho; exact lv_icmp_ne hx hb hd ht (fun _ => (k H locs Ls hR hl hL g1 g2)) (fun q => absurd q hc)
    · cases ho; exact lv_icmp_ne hx hb hd ht (fun q => absurd q hc) (fun _ => (k H locs Ls hR hl hL g1 g2))
  · rcases hc with ⟨hc, ho⟩ | ⟨hc, ho⟩
    · cases ho; exact lv_icmp_lt hx hb hd ht (fun _ => (k H locs Ls hR hl hL g1 g2)) (fun q => absurd hc q)
    · cases ho; exact lv_icmp_lt hx hb hd ht (fun q => absurd q hc) (fun _ => (k H locs Ls hR hl hL g1 g2))
  · rcases hc with ⟨hc, ho⟩ | ⟨hc, ho⟩
    · cases ho; exact lv_icmp_ge hx hb hd ht (fun _ => (k H locs Ls hR hl hL g1 g2)) (fun q => absurd hc q)
    · cases ho; exact lv_icmp_ge hx hb hd ht (fun q => absurd q hc) (fun _ => (k H locs Ls hR hl hL g1 g2))
  · rcases hc with ⟨hc, ho⟩ | ⟨hc, ho⟩
    · cases ho; exact lv_icmp_gt hx hb hd ht (fun _ => (k H locs Ls hR hl hL g1 g2)) (fun q => absurd hc q)
    · cases ho; exact lv_icmp_gt hx hb hd ht (fun q => absurd q hc) (fun _ => (k H locs Ls hR hl hL g1 g2))
  · rcases hc with ⟨hc, ho⟩ | ⟨hc, ho⟩
    · cases ho; exact lv_icmp_le hx hb hd ht (fun _ => (k H locs Ls hR hl hL g1 g2)) (fun q => absurd hc q)
    · cases ho; exact lv_icmp_le hx hb hd ht (fun q => absurd q hc) (fun _ => (k H locs Ls hR hl hL g1 g2))
set_option maxHeartbeats 4000000 in
theorem q1_ifnull (cx : q_Cx G i p s m meth c) {pc : Nat} {off : Int} {len : Nat} {lk : q_LK} {ls st : List Value} {h : q_H} {pc2 : Nat} {ls2 st2 : List Value} {h2 : q_H} (hd : decode (q_cd i) pc = .ok (Instr.ifnull off, len)) (hok : q_okI i (Instr.ifnull off) lk = true) (hs : q_sr (gKd G) i pc (Instr.ifnull off) len lk ls st h (.inl (pc2, ls2, st2, h2)))
    (hroom : h2.1 - n0 ≤ R.cells ∧ h2.2.1 - s0 ≤ R.slots) (hfr : 1 ≤ R.frames) (hlo : 200 ≤ R.locals) (k : q_Wt p l e R s m args below meth c Q G n0 s0 i pc2 ls2 st2 h2) : q_Wt p l e R s m args below meth c Q G n0 s0 i pc ls st h := by
  intro H locs Ls hR hl hL g1 g2
  have hx := cx.1
  have hb := cx.2.1
  have hml : c.maxLocals = Ls.size := cx.2.2.1.trans hL.1.symm
  have hown := cx.2.2.2.1
  have hSx := cx.2.2.2.2.2.1
  have hF : q_isR (gF G) := hSx.2.2.2.2.2.2.2.2.2.2.2.2.2.2.2.1
  have hw8 : ∀ r : List Value, q_W8 r → ((r.map (q_cv G)).map fun v => v.category).sum ≤ 8 := fun r h => by rw [q_cats hF]; exact h
  obtain ⟨rfl, v, r, tgt, rfl, ht, ⟨rfl, ho⟩ | ⟨⟨a, rfl⟩, ho⟩⟩ := hs
  · cases ho; exact lv_ifnullN hx hb hd ht (k H locs Ls hR hl hL g1 g2)
  · cases ho; exact lv_ifnull hx hb hd (k H locs Ls hR hl hL g1 g2)
set_option maxHeartbeats 4000000 in
theorem q1_ifnonnull (cx : q_Cx G i p s m meth c) {pc : Nat} {off : Int} {len : Nat} {lk : q_LK} {ls st : List Value} {h : q_H} {pc2 : Nat} {ls2 st2 : List Value} {h2 : q_H} (hd : decode (q_cd i) pc = .ok (Instr.ifnonnull off, len)) (hok : q_okI i (Instr.ifnonnull off) lk = true) (hs : q_sr (gKd G) i pc (Instr.ifnonnull off) len lk ls st h (.inl (pc2, ls2, st2, h2)))
    (hroom : h2.1 - n0 ≤ R.cells ∧ h2.2.1 - s0 ≤ R.slots) (hfr : 1 ≤ R.frames) (hlo : 200 ≤ R.locals) (k : q_Wt p l e R s m args below meth c Q G n0 s0 i pc2 ls2 st2 h2) : q_Wt p l e R s m args below meth c Q G n0 s0 i pc ls st h := by
  intro H locs Ls hR hl hL g1 g2
  have hx := cx.1
  have hb := cx.2.1
  have hml : c.maxLocals = Ls.size := cx.2.2.1.trans hL.1.symm
  have hown := cx.2.2.2.1
  have hSx := cx.2.2.2.2.2.1
  have hF : q_isR (gF G) := hSx.2.2.2.2.2.2.2.2.2.2.2.2.2.2.2.1
  have hw8 : ∀ r : List Value, q_W8 r → ((r.map (q_cv G)).map fun v => v.category).sum ≤ 8 := fun r h => by rw [q_cats hF]; exact h
  obtain ⟨rfl, v, r, tgt, rfl, ht, ⟨rfl, ho⟩ | ⟨⟨a, rfl⟩, ho⟩⟩ := hs
  · cases ho; exact lv_ifnonnullN hx hb hd (k H locs Ls hR hl hL g1 g2)
  · cases ho; exact lv_ifnonnull hx hb hd ht (k H locs Ls hR hl hL g1 g2)
set_option maxHeartbeats 4000000 in
theorem q1_goto (cx : q_Cx G i p s m meth c) {pc : Nat} {off : Int} {len : Nat} {lk : q_LK} {ls st : List Value} {h : q_H} {pc2 : Nat} {ls2 st2 : List Value} {h2 : q_H} (hd : decode (q_cd i) pc = .ok (Instr.goto off, len)) (hok : q_okI i (Instr.goto off) lk = true) (hs : q_sr (gKd G) i pc (Instr.goto off) len lk ls st h (.inl (pc2, ls2, st2, h2)))
    (hroom : h2.1 - n0 ≤ R.cells ∧ h2.2.1 - s0 ≤ R.slots) (hfr : 1 ≤ R.frames) (hlo : 200 ≤ R.locals) (k : q_Wt p l e R s m args below meth c Q G n0 s0 i pc2 ls2 st2 h2) : q_Wt p l e R s m args below meth c Q G n0 s0 i pc ls st h := by
  intro H locs Ls hR hl hL g1 g2
  have hx := cx.1
  have hb := cx.2.1
  have hml : c.maxLocals = Ls.size := cx.2.2.1.trans hL.1.symm
  have hown := cx.2.2.2.1
  have hSx := cx.2.2.2.2.2.1
  have hF : q_isR (gF G) := hSx.2.2.2.2.2.2.2.2.2.2.2.2.2.2.2.1
  have hw8 : ∀ r : List Value, q_W8 r → ((r.map (q_cv G)).map fun v => v.category).sum ≤ 8 := fun r h => by rw [q_cats hF]; exact h
  obtain ⟨rfl, tgt, ht, ho⟩ := hs
  cases ho
  exact lv_goto hx hb hd ht (k H locs Ls hR hl hL g1 g2)
set_option maxHeartbeats 4000000 in
theorem q1_tableswitch (cx : q_Cx G i p s m meth c) {pc : Nat} {df : Int} {lw : Int} {hg : Int} {offs : Array Int} {len : Nat} {lk : q_LK} {ls st : List Value} {h : q_H} {pc2 : Nat} {ls2 st2 : List Value} {h2 : q_H} (hd : decode (q_cd i) pc = .ok (Instr.tableswitch df lw hg offs, len)) (hok : q_okI i (Instr.tableswitch df lw hg offs) lk = true) (hs : q_sr (gKd G) i pc (Instr.tableswitch df lw hg offs) len lk ls st h (.inl (pc2, ls2, st2, h2)))
    (hroom : h2.1 - n0 ≤ R.cells ∧ h2.2.1 - s0 ≤ R.slots) (hfr : 1 ≤ R.frames) (hlo : 200 ≤ R.locals) (k : q_Wt p l e R s m args below meth c Q G n0 s0 i pc2 ls2 st2 h2) : q_Wt p l e R s m args below meth c Q G n0 s0 i pc ls st h := by
  intro H locs Ls hR hl hL g1 g2
  have hx := cx.1
  have hb := cx.2.1
  have hml : c.maxLocals = Ls.size := cx.2.2.1.trans hL.1.symm
  have hown := cx.2.2.2.1
  have hSx := cx.2.2.2.2.2.1
  have hF : q_isR (gF G) := hSx.2.2.2.2.2.2.2.2.2.2.2.2.2.2.2.1
  have hw8 : ∀ r : List Value, q_W8 r → ((r.map (q_cv G)).map fun v => v.category).sum ≤ 8 := fun r h => by rw [q_cats hF]; exact h
  obtain ⟨x, r, off, tgt, rfl, hsw, ht, ho⟩ := hs
  cases ho
  rcases hsw with ⟨h1, rfl⟩ | ⟨h1, h2, h3⟩
  · exact lv_tableOut hx hb hd h1 ht (k H locs Ls hR hl hL g1 g2)
  · exact lv_tableIn hx hb hd h1 h2 h3 ht (k H locs Ls hR hl hL g1 g2)
set_option maxHeartbeats 4000000 in
theorem q1_lookupswitch (cx : q_Cx G i p s m meth c) {pc : Nat} {df : Int} {ps : Array (Int × Int)} {len : Nat} {lk : q_LK} {ls st : List Value} {h : q_H} {pc2 : Nat} {ls2 st2 : List Value} {h2 : q_H} (hd : decode (q_cd i) pc = .ok (Instr.lookupswitch df ps, len)) (hok : q_okI i (Instr.lookupswitch df ps) lk = true) (hs : q_sr (gKd G) i pc (Instr.lookupswitch df ps) len lk ls st h (.inl (pc2, ls2, st2, h2)))
    (hroom : h2.1 - n0 ≤ R.cells ∧ h2.2.1 - s0 ≤ R.slots) (hfr : 1 ≤ R.frames) (hlo : 200 ≤ R.locals) (k : q_Wt p l e R s m args below meth c Q G n0 s0 i pc2 ls2 st2 h2) : q_Wt p l e R s m args below meth c Q G n0 s0 i pc ls st h := by
  intro H locs Ls hR hl hL g1 g2
  have hx := cx.1
  have hb := cx.2.1
  have hml : c.maxLocals = Ls.size := cx.2.2.1.trans hL.1.symm
  have hown := cx.2.2.2.1
  have hSx := cx.2.2.2.2.2.1
  have hF : q_isR (gF G) := hSx.2.2.2.2.2.2.2.2.2.2.2.2.2.2.2.1
  have hw8 : ∀ r : List Value, q_W8 r → ((r.map (q_cv G)).map fun v => v.category).sum ≤ 8 := fun r h => by rw [q_cats hF]; exact h
  obtain ⟨hsort, x, r, off, tgt, rfl, hsw, ht, ho⟩ := hs
  cases ho
  exact lv_lookup hx hb hd hsort hsw ht (k H locs Ls hR hl hL g1 g2)
set_option maxHeartbeats 4000000 in
theorem q1_iaload (cx : q_Cx G i p s m meth c) {pc : Nat} {len : Nat} {lk : q_LK} {ls st : List Value} {h : q_H} {pc2 : Nat} {ls2 st2 : List Value} {h2 : q_H} (hd : decode (q_cd i) pc = .ok (Instr.iaload, len)) (hok : q_okI i (Instr.iaload) lk = true) (hs : q_sr (gKd G) i pc (Instr.iaload) len lk ls st h (.inl (pc2, ls2, st2, h2)))
    (hroom : h2.1 - n0 ≤ R.cells ∧ h2.2.1 - s0 ≤ R.slots) (hfr : 1 ≤ R.frames) (hlo : 200 ≤ R.locals) (k : q_Wt p l e R s m args below meth c Q G n0 s0 i pc2 ls2 st2 h2) : q_Wt p l e R s m args below meth c Q G n0 s0 i pc ls st h := by
  intro H locs Ls hR hl hL g1 g2
  have hx := cx.1
  have hb := cx.2.1
  have hml : c.maxLocals = Ls.size := cx.2.2.1.trans hL.1.symm
  have hown := cx.2.2.2.1
  have hSx := cx.2.2.2.2.2.1
  have hF : q_isR (gF G) := hSx.2.2.2.2.2.2.2.2.2.2.2.2.2.2.2.1
  have hw8 : ∀ r : List Value, q_W8 r → ((r.map (q_cv G)).map fun v => v.category).sum ≤ 8 := fun r h => by rw [q_cats hF]; exact h
  obtain ⟨rfl, x, a, r, rfl, hk, ha, hin, ho⟩ := hs
  cases ho
  obtain ⟨cell, c1, c2, c3, c4, -, c6⟩ := q_arr cx hR ha (by omega) (by omega)
  rw [hk] at c2 c6
  exact W.iald hx hb c1 c2 c3 (c4 x hin) (c6 _ (Nat.not_le.mp fun q => hin (Or.inr q))) rfl rfl hd (k H locs Ls hR hl hL g1 g2)
set_option maxHeartbeats 4000000 in
theorem q1_laload (cx : q_Cx G i p s m meth c) {pc : Nat} {len : Nat} {lk : q_LK} {ls st : List Value} {h : q_H} {pc2 : Nat} {ls2 st2 : List Value} {h2 : q_H} (hd : decode (q_cd i) pc = .ok (Instr.laload, len)) (hok : q_okI i (Instr.laload) lk = true) (hs : q_sr (gKd G) i pc (Instr.laload) len lk ls st h (.inl (pc2, ls2, st2, h2)))
    (hroom : h2.1 - n0 ≤ R.cells ∧ h2.2.1 - s0 ≤ R.slots) (hfr : 1 ≤ R.frames) (hlo : 200 ≤ R.locals) (k : q_Wt p l e R s m args below meth c Q G n0 s0 i pc2 ls2 st2 h2) : q_Wt p l e R s m args below meth c Q G n0 s0 i pc ls st h := by
  intro H locs Ls hR hl hL g1 g2
  have hx := cx.1
  have hb := cx.2.1
  have hml : c.maxLocals = Ls.size := cx.2.2.1.trans hL.1.symm
  have hown := cx.2.2.2.1
  have hSx := cx.2.2.2.2.2.1
  have hF : q_isR (gF G) := hSx.2.2.2.2.2.2.2.2.2.2.2.2.2.2.2.1
  have hw8 : ∀ r : List Value, q_W8 r → ((r.map (q_cv G)).map fun v => v.category).sum ≤ 8 := fun r h => by rw [q_cats hF]; exact h
  obtain ⟨rfl, x, a, r, rfl, hk, ha, hin, ho⟩ := hs
  cases ho
  obtain ⟨cell, c1, c2, c3, c4, -, c6⟩ := q_arr cx hR ha (by omega) (by omega)
  rw [hk] at c2 c6
  exact W.lald hx hb c1 c2 c3 (c4 x hin) (c6 _ (Nat.not_le.mp fun q => hin (Or.inr q))) rfl rfl hd (k H locs Ls hR hl hL g1 g2)
set_option maxHeartbeats 4000000 in
theorem q1_aaload (cx : q_Cx G i p s m meth c) {pc : Nat} {len : Nat} {lk : q_LK} {ls st : List Value} {h : q_H} {pc2 : Nat} {ls2 st2 : List Value} {h2 : q_H} (hd : decode (q_cd i) pc = .ok (Instr.aaload, len)) (hok : q_okI i (Instr.aaload) lk = true) (hs : q_sr (gKd G) i pc (Instr.aaload) len lk ls st h (.inl (pc2, ls2, st2, h2)))
    (hroom : h2.1 - n0 ≤ R.cells ∧ h2.2.1 - s0 ≤ R.slots) (hfr : 1 ≤ R.frames) (hlo : 200 ≤ R.locals) (k : q_Wt p l e R s m args below meth c Q G n0 s0 i pc2 ls2 st2 h2) : q_Wt p l e R s m args below meth c Q G n0 s0 i pc ls st h := by
  intro H locs Ls hR hl hL g1 g2
  have hx := cx.1
  have hb := cx.2.1
  have hml : c.maxLocals = Ls.size := cx.2.2.1.trans hL.1.symm
  have hown := cx.2.2.2.1
  have hSx := cx.2.2.2.2.2.1
  have hF : q_isR (gF G) := hSx.2.2.2.2.2.2.2.2.2.2.2.2.2.2.2.1
  have hw8 : ∀ r : List Value, q_W8 r → ((r.map (q_cv G)).map fun v => v.category).sum ≤ 8 := fun r h => by rw [q_cats hF]; exact h
  obtain ⟨rfl, x, a, r, rfl, hk, ha, hin, ho⟩ := hs
  cases ho
  obtain ⟨cell, c1, c2, c3, c4, -, c6⟩ := q_arr cx hR ha (by omega) (by omega)
  rw [hk] at c2 c6
  exact W.aald hx hb c1 c2 rfl c3 (c4 x hin) (c6 _ (Nat.not_le.mp fun q => hin (Or.inr q))) rfl rfl hd (k H locs Ls hR hl hL g1 g2)
set_option maxHeartbeats 4000000 in
theorem q1_baload (cx : q_Cx G i p s m meth c) {pc : Nat} {len : Nat} {lk : q_LK} {ls st : List Value} {h : q_H} {pc2 : Nat} {ls2 st2 : List Value} {h2 : q_H} (hd : decode (q_cd i) pc = .ok (Instr.baload, len)) (hok : q_okI i (Instr.baload) lk = true) (hs : q_sr (gKd G) i pc (Instr.baload) len lk ls st h (.inl (pc2, ls2, st2, h2)))
    (hroom : h2.1 - n0 ≤ R.cells ∧ h2.2.1 - s0 ≤ R.slots) (hfr : 1 ≤ R.frames) (hlo : 200 ≤ R.locals) (k : q_Wt p l e R s m args below meth c Q G n0 s0 i pc2 ls2 st2 h2) : q_Wt p l e R s m args below meth c Q G n0 s0 i pc ls st h := by
  intro H locs Ls hR hl hL g1 g2
  have hx := cx.1
  have hb := cx.2.1
  have hml : c.maxLocals = Ls.size := cx.2.2.1.trans hL.1.symm
  have hown := cx.2.2.2.1
  have hSx := cx.2.2.2.2.2.1
  have hF : q_isR (gF G) := hSx.2.2.2.2.2.2.2.2.2.2.2.2.2.2.2.1
  have hw8 : ∀ r : List Value, q_W8 r → ((r.map (q_cv G)).map fun v => v.category).sum ≤ 8 := fun r h => by rw [q_cats hF]; exact h
  obtain ⟨rfl, x, a, r, rfl, hk, ha, hin, ho⟩ := hs
  cases ho
  obtain ⟨cell, c1, c2, c3, c4, -, c6⟩ := q_arr cx hR ha (by omega) (by omega)
  rcases hk with hk | hk
  · rw [hk] at c2 c6
    exact W.bald hx hb c1 c2 c3 (c4 x hin) (c6 _ (Nat.not_le.mp fun q => hin (Or.inr q))) rfl rfl hd (k H locs Ls hR hl hL g1 g2)
  · rw [hk] at c2 c6
    exact W.zald hx hb c1 c2 c3 (c4 x hin) (c6 _ (Nat.not_le.mp fun q => hin (Or.inr q))) rfl rfl hd (k H locs Ls hR hl hL g1 g2)
set_option maxHeartbeats 4000000 in
theorem q1_iastore (cx : q_Cx G i p s m meth c) {pc : Nat} {len : Nat} {lk : q_LK} {ls st : List Value} {h : q_H} {pc2 : Nat} {ls2 st2 : List Value} {h2 : q_H} (hd : decode (q_cd i) pc = .ok (Instr.iastore, len)) (hok : q_okI i (Instr.iastore) lk = true) (hs : q_sr (gKd G) i pc (Instr.iastore) len lk ls st h (.inl (pc2, ls2, st2, h2)))
    (hroom : h2.1 - n0 ≤ R.cells ∧ h2.2.1 - s0 ≤ R.slots) (hfr : 1 ≤ R.frames) (hlo : 200 ≤ R.locals) (k : q_Wt p l e R s m args below meth c Q G n0 s0 i pc2 ls2 st2 h2) : q_Wt p l e R s m args below meth c Q G n0 s0 i pc ls st h := by
  intro H locs Ls hR hl hL g1 g2
  have hx := cx.1
  have hb := cx.2.1
  have hml : c.maxLocals = Ls.size := cx.2.2.1.trans hL.1.symm
  have hown := cx.2.2.2.1
  have hSx := cx.2.2.2.2.2.1
  have hF : q_isR (gF G) := hSx.2.2.2.2.2.2.2.2.2.2.2.2.2.2.2.1
  have hw8 : ∀ r : List Value, q_W8 r → ((r.map (q_cv G)).map fun v => v.category).sum ≤ 8 := fun r h => by rw [q_cats hF]; exact h
  obtain ⟨rfl, y, x, a, r, rfl, hk, h6, ha, hin, ho⟩ := hs
  cases ho
  have hA := (hSx.2.2.1 (gKd G a) (by omega) (by omega)).1 (h.2.2.1 a) (q_av G h a (gKd G a))
  rw [show q_ty (gKd G a) = .int from by rw [hk]; rfl] at hA
  refine W.iast hx hb (q_own hR h6 ha (by omega)) hA (fun q => by cases q) (by rw [arrV_size]; exact hin) rfl rfl hd (fun H' e1 z oq => k H' _ Ls (q_stA hR h6 ha (by omega) (by omega) e1 z oq rfl (fun b hb => ?_) rfl (fun q => ?_)) (q_lc hl h6) hL g1 g2)
  · simp [va_up, hb]
  · rw [hk]
    by_cases hq : q = x.toNatClampNeg
    · simp [q_av, updV, va_up, hq]
    · simp [q_av, updV, va_up, hq]
set_option maxHeartbeats 4000000 in
theorem q1_lastore (cx : q_Cx G i p s m meth c) {pc : Nat} {len : Nat} {lk : q_LK} {ls st : List Value} {h : q_H} {pc2 : Nat} {ls2 st2 : List Value} {h2 : q_H} (hd : decode (q_cd i) pc = .ok (Instr.lastore, len)) (hok : q_okI i (Instr.lastore) lk = true) (hs : q_sr (gKd G) i pc (Instr.lastore) len lk ls st h (.inl (pc2, ls2, st2, h2)))
    (hroom : h2.1 - n0 ≤ R.cells ∧ h2.2.1 - s0 ≤ R.slots) (hfr : 1 ≤ R.frames) (hlo : 200 ≤ R.locals) (k : q_Wt p l e R s m args below meth c Q G n0 s0 i pc2 ls2 st2 h2) : q_Wt p l e R s m args below meth c Q G n0 s0 i pc ls st h := by
  intro H locs Ls hR hl hL g1 g2
  have hx := cx.1
  have hb := cx.2.1
  have hml : c.maxLocals = Ls.size := cx.2.2.1.trans hL.1.symm
  have hown := cx.2.2.2.1
  have hSx := cx.2.2.2.2.2.1
  have hF : q_isR (gF G) := hSx.2.2.2.2.2.2.2.2.2.2.2.2.2.2.2.1
  have hw8 : ∀ r : List Value, q_W8 r → ((r.map (q_cv G)).map fun v => v.category).sum ≤ 8 := fun r h => by rw [q_cats hF]; exact h
  obtain ⟨rfl, y, x, a, r, rfl, hk, h6, ha, hin, ho⟩ := hs
  cases ho
  have hA := (hSx.2.2.1 (gKd G a) (by omega) (by omega)).1 (h.2.2.1 a) (q_av G h a (gKd G a))
  rw [show q_ty (gKd G a) = .long from by rw [hk]; rfl] at hA
  refine W.last hx hb (q_own hR h6 ha (by omega)) hA (fun q => by cases q) (by rw [arrV_size]; exact hin) rfl rfl hd (fun H' e1 z oq => k H' _ Ls (q_stA hR h6 ha (by omega) (by omega) e1 z oq rfl (fun b hb => ?_) rfl (fun q => ?_)) (q_lc hl h6) hL g1 g2)
  · simp [va_up, hb]
  · rw [hk]
    by_cases hq : q = x.toNatClampNeg
    · simp [q_av, updV, va_up, hq]
    · simp [q_av, updV, va_up, hq]
set_option maxHeartbeats 4000000 in
theorem q1_bastore (cx : q_Cx G i p s m meth c) {pc : Nat} {len : Nat} {lk : q_LK} {ls st : List Value} {h : q_H} {pc2 : Nat} {ls2 st2 : List Value} {h2 : q_H} (hd : decode (q_cd i) pc = .ok (Instr.bastore, len)) (hok : q_okI i (Instr.bastore) lk = true) (hs : q_sr (gKd G) i pc (Instr.bastore) len lk ls st h (.inl (pc2, ls2, st2, h2)))
    (hroom : h2.1 - n0 ≤ R.cells ∧ h2.2.1 - s0 ≤ R.slots) (hfr : 1 ≤ R.frames) (hlo : 200 ≤ R.locals) (k : q_Wt p l e R s m args below meth c Q G n0 s0 i pc2 ls2 st2 h2) : q_Wt p l e R s m args below meth c Q G n0 s0 i pc ls st h := by
  intro H locs Ls hR hl hL g1 g2
  have hx := cx.1
  have hb := cx.2.1
  have hml : c.maxLocals = Ls.size := cx.2.2.1.trans hL.1.symm
  have hown := cx.2.2.2.1
  have hSx := cx.2.2.2.2.2.1
  have hF : q_isR (gF G) := hSx.2.2.2.2.2.2.2.2.2.2.2.2.2.2.2.1
  have hw8 : ∀ r : List Value, q_W8 r → ((r.map (q_cv G)).map fun v => v.category).sum ≤ 8 := fun r h => by rw [q_cats hF]; exact h
  obtain ⟨rfl, y, x, a, r, rfl, h6, ha, hin, ⟨hk, ho⟩ | ⟨hk, ho⟩⟩ := hs
  · cases ho
    have hA := (hSx.2.2.1 (gKd G a) (by omega) (by omega)).1 (h.2.2.1 a) (q_av G h a (gKd G a))
    rw [show q_ty (gKd G a) = .byte from by rw [hk]; rfl] at hA
    refine W.bast hx hb (q_own hR h6 ha (by omega)) hA (fun q => by cases q) (by rw [arrV_size]; exact hin) rfl rfl hd (fun H' e1 z oq => k H' _ Ls (q_stA hR h6 ha (by omega) (by omega) e1 z oq rfl (fun b hb => ?_) rfl (fun q => ?_)) (q_lc hl h6) hL g1 g2)
    · simp [va_up, hb]
    · rw [hk]
      by_cases hq : q = x.toNatClampNeg
      · simp [q_av, updV, va_up, hq, vp_nar, narrow]
      · simp [q_av, updV, va_up, hq]
  · cases ho
    have hA := (hSx.2.2.1 (gKd G a) (by omega) (by omega)).1 (h.2.2.1 a) (q_av G h a (gKd G a))
    rw [show q_ty (gKd G a) = .boolean from by rw [hk]; rfl] at hA
    refine W.zast hx hb (q_own hR h6 ha (by omega)) hA (fun q => by cases q) (by rw [arrV_size]; exact hin) rfl rfl hd (fun H' e1 z oq => k H' _ Ls (q_stA hR h6 ha (by omega) (by omega) e1 z oq rfl (fun b hb => ?_) rfl (fun q => ?_)) (q_lc hl h6) hL g1 g2)
    · simp [va_up, hb]
    · rw [hk]
      by_cases hq : q = x.toNatClampNeg
      · simp [q_av, updV, va_up, hq, vp_nar, narrow]
      · simp [q_av, updV, va_up, hq]
set_option maxHeartbeats 4000000 in
theorem q1_aastore (cx : q_Cx G i p s m meth c) {pc : Nat} {len : Nat} {lk : q_LK} {ls st : List Value} {h : q_H} {pc2 : Nat} {ls2 st2 : List Value} {h2 : q_H} (hd : decode (q_cd i) pc = .ok (Instr.aastore, len)) (hok : q_okI i (Instr.aastore) lk = true) (hs : q_sr (gKd G) i pc (Instr.aastore) len lk ls st h (.inl (pc2, ls2, st2, h2)))
    (hroom : h2.1 - n0 ≤ R.cells ∧ h2.2.1 - s0 ≤ R.slots) (hfr : 1 ≤ R.frames) (hlo : 200 ≤ R.locals) (k : q_Wt p l e R s m args below meth c Q G n0 s0 i pc2 ls2 st2 h2) : q_Wt p l e R s m args below meth c Q G n0 s0 i pc ls st h := by
  intro H locs Ls hR hl hL g1 g2
  have hx := cx.1
  have hb := cx.2.1
  have hml : c.maxLocals = Ls.size := cx.2.2.1.trans hL.1.symm
  have hown := cx.2.2.2.1
  have hSx := cx.2.2.2.2.2.1
  have hF : q_isR (gF G) := hSx.2.2.2.2.2.2.2.2.2.2.2.2.2.2.2.1
  have hw8 : ∀ r : List Value, q_W8 r → ((r.map (q_cv G)).map fun v => v.category).sum ≤ 8 := fun r h => by rw [q_cats hF]; exact h
  obtain ⟨rfl, v, x, a, r, rfl, hv, hk, h6, ha, hin, ho⟩ := hs
  cases ho
  have hA := (hSx.2.2.1 (gKd G a) (by omega) (by omega)).1 (h.2.2.1 a) (q_av G h a (gKd G a))
  have hAR := (hSx.2.2.1 (gKd G a) (by omega) (by omega)).2
  rw [show q_ty (gKd G a) = .object "SilentHouse$Script" from by rw [hk]; rfl] at hA hAR
  have fin : ∀ (H' : Heap), H'[q_ad G a]? = some ((arrV (gA G (gKd G a)) (h.2.2.1 a) (q_av G h a (gKd G a))).setSlot x.toNatClampNeg (q_cv G (va_rf v))) → H'.size = H.size → (∀ q, q ≠ q_ad G a → H'[q]? = H[q]?) → q_Rp G (q_sR h a x.toNatClampNeg v) H' := by
    intro H' e1 z oq
    refine q_stA hR h6 ha (by omega) (by omega) e1 z oq rfl (fun b hb => ?_) rfl (fun q => ?_)
    · simp [va_up, hb]
    · rw [hk]
      by_cases hq : q = x.toNatClampNeg
      · simp [q_av, updV, va_up, hq]
      · simp [q_av, updV, va_up, hq]
  cases v with
  | none => exact va_WaastN hx hb (q_own hR h6 ha (by omega)) hA (fun q => by cases q) (by rw [arrV_size]; exact hin) rfl rfl hd (fun H' e1 z oq => k H' _ Ls (fin H' e1 z oq) (q_lc hl h6) hL g1 g2)
  | some b =>
    obtain ⟨hkb, h6b, hab⟩ := hv b rfl
    obtain ⟨cellV, v1, v2, v3, -⟩ := q_obj hR h6b hab (by omega)
    rw [hkb] at v2
    have hcls := (hSx.2.1.1 6 _ (q_cl (by omega))).2
    obtain ⟨kA, comp, k1, k2, k3, -⟩ := hAR
    have hcomp : comp = gC G 6 := Option.some.inj (k3.symm.trans hcls.1)
    subst hcomp
    obtain ⟨kC, hkC, -⟩ := hcls.2
    exact W.aast hx hb (q_own hR h6 ha (by omega)) (fun q h => by cases h) (fun h => by cases h) k1 k2 rfl hkC ⟨fun q => hin (Or.inl q), by rw [arrV_size]; exact Nat.not_le.mp fun q => hin (Or.inr q)⟩ v1 (fun q h => by rw [v3] at h; cases h) (by rw [v2]; exact hkC) (by rw [v2]; exact va_assign hcls) rfl rfl hd (fun H' e1 z oq => k H' _ Ls (fin H' e1 z oq) (q_lc hl h6) hL g1 g2)
set_option maxHeartbeats 4000000 in
theorem q1_arraylength (cx : q_Cx G i p s m meth c) {pc : Nat} {len : Nat} {lk : q_LK} {ls st : List Value} {h : q_H} {pc2 : Nat} {ls2 st2 : List Value} {h2 : q_H} (hd : decode (q_cd i) pc = .ok (Instr.arraylength, len)) (hok : q_okI i (Instr.arraylength) lk = true) (hs : q_sr (gKd G) i pc (Instr.arraylength) len lk ls st h (.inl (pc2, ls2, st2, h2)))
    (hroom : h2.1 - n0 ≤ R.cells ∧ h2.2.1 - s0 ≤ R.slots) (hfr : 1 ≤ R.frames) (hlo : 200 ≤ R.locals) (k : q_Wt p l e R s m args below meth c Q G n0 s0 i pc2 ls2 st2 h2) : q_Wt p l e R s m args below meth c Q G n0 s0 i pc ls st h := by
  intro H locs Ls hR hl hL g1 g2
  have hx := cx.1
  have hb := cx.2.1
  have hml : c.maxLocals = Ls.size := cx.2.2.1.trans hL.1.symm
  have hown := cx.2.2.2.1
  have hSx := cx.2.2.2.2.2.1
  have hF : q_isR (gF G) := hSx.2.2.2.2.2.2.2.2.2.2.2.2.2.2.2.1
  have hw8 : ∀ r : List Value, q_W8 r → ((r.map (q_cv G)).map fun v => v.category).sum ≤ 8 := fun r h => by rw [q_cats hF]; exact h
  obtain ⟨rfl, a, r, rfl, hk, hk2, ha, ho⟩ := hs
  cases ho
  obtain ⟨cell, c1, c2, c3, c4, c5, c6⟩ := q_arr cx hR ha hk hk2
  exact W.alen hx hb c1 c2 c5 rfl rfl hd (k H locs Ls hR hl hL g1 g2)
set_option maxHeartbeats 4000000 in
theorem q1_getfield (cx : q_Cx G i p s m meth c) {pc : Nat} {idx : Nat} {len : Nat} {lk : q_LK} {ls st : List Value} {h : q_H} {pc2 : Nat} {ls2 st2 : List Value} {h2 : q_H} (hd : decode (q_cd i) pc = .ok (Instr.getfield idx, len)) (hok : q_okI i (Instr.getfield idx) lk = true) (hs : q_sr (gKd G) i pc (Instr.getfield idx) len lk ls st h (.inl (pc2, ls2, st2, h2)))
    (hroom : h2.1 - n0 ≤ R.cells ∧ h2.2.1 - s0 ≤ R.slots) (hfr : 1 ≤ R.frames) (hlo : 200 ≤ R.locals) (k : q_Wt p l e R s m args below meth c Q G n0 s0 i pc2 ls2 st2 h2) : q_Wt p l e R s m args below meth c Q G n0 s0 i pc ls st h := by
  intro H locs Ls hR hl hL g1 g2
  have hx := cx.1
  have hb := cx.2.1
  have hml : c.maxLocals = Ls.size := cx.2.2.1.trans hL.1.symm
  have hown := cx.2.2.2.1
  have hSx := cx.2.2.2.2.2.1
  have hF : q_isR (gF G) := hSx.2.2.2.2.2.2.2.2.2.2.2.2.2.2.2.1
  have hw8 : ∀ r : List Value, q_W8 r → ((r.map (q_cv G)).map fun v => v.category).sum ≤ 8 := fun r h => by rw [q_cats hF]; exact h
  obtain ⟨rfl, a, r, rfl, hk, ha, hcs⟩ := hs
  by_cases h30 : lk.2.1 = 30
  · have hok2 : (lk.2.2.2.1 = 5 ∧ lw_tbl[lk.1]? = some (.fieldLink (q_mn i).cls idx "java/lang/String" "value" "[B")) ∨ (lk.2.2.2.1 = 6 ∧ lw_tbl[lk.1]? = some (.fieldLink (q_mn i).cls idx "java/lang/String" "coder" "B")) := by
      simp only [q_okI, h30, if_true, decide_eq_true_eq] at hok
      exact hok
    rcases hcs with ⟨h1, -⟩ | ⟨h1, -⟩ | ⟨h1, -⟩ | ⟨rfl, h1, ho⟩ | ⟨rfl, h1, ho⟩
    · omega
    · omega
    · omega
    · cases ho
      rcases hok2 with ⟨-, hw⟩ | ⟨h9, -⟩
      · exact q_getS cx hR hSx.2.2.2.2.2.2.2.1 hw hd (k H locs Ls hR hl hL g1 g2)
      · omega
    · cases ho
      rcases hok2 with ⟨h9, -⟩ | ⟨-, hw⟩
      · omega
      · exact q_getS cx hR hSx.2.2.2.2.2.2.1 hw hd (k H locs Ls hR hl hL g1 g2)
  · have hok2 : q_okF i idx lk = true := by
      simp only [q_okI, if_neg h30] at hok
      exact hok
    have e5 := (q_flE hok2).2.2.1
    have e4 := (q_ftt _ (q_flE hok2).1 _ (q_flE hok2).2.1).2.2.2.2
    rcases hcs with ⟨h1, h6, ho⟩ | ⟨h1, h6, ho⟩ | ⟨h1, h6, ho⟩ | ⟨rfl, h1, ho⟩ | ⟨rfl, h1, ho⟩
    · cases ho
      refine q_getf cx hR h6 ha hk hok2 hd ?_
      rw [← e5]
      rcases h1 with h1 | h1 <;> rw [h1] <;> exact (k H locs Ls hR hl hL g1 g2)
    · cases ho
      refine q_getf cx hR h6 ha hk hok2 hd ?_
      rw [← e5, h1]
      exact (k H locs Ls hR hl hL g1 g2)
    · cases ho
      refine q_getf cx hR h6 ha hk hok2 hd ?_
      rw [← e5, h1]
      exact (k H locs Ls hR hl hL g1 g2)
    · omega
    · omega
set_option maxHeartbeats 4000000 in
theorem q1_putfield (cx : q_Cx G i p s m meth c) {pc : Nat} {idx : Nat} {len : Nat} {lk : q_LK} {ls st : List Value} {h : q_H} {pc2 : Nat} {ls2 st2 : List Value} {h2 : q_H} (hd : decode (q_cd i) pc = .ok (Instr.putfield idx, len)) (hok : q_okI i (Instr.putfield idx) lk = true) (hs : q_sr (gKd G) i pc (Instr.putfield idx) len lk ls st h (.inl (pc2, ls2, st2, h2)))
    (hroom : h2.1 - n0 ≤ R.cells ∧ h2.2.1 - s0 ≤ R.slots) (hfr : 1 ≤ R.frames) (hlo : 200 ≤ R.locals) (k : q_Wt p l e R s m args below meth c Q G n0 s0 i pc2 ls2 st2 h2) : q_Wt p l e R s m args below meth c Q G n0 s0 i pc ls st h := by
  intro H locs Ls hR hl hL g1 g2
  have hx := cx.1
  have hb := cx.2.1
  have hml : c.maxLocals = Ls.size := cx.2.2.1.trans hL.1.symm
  have hown := cx.2.2.2.1
  have hSx := cx.2.2.2.2.2.1
  have hF : q_isR (gF G) := hSx.2.2.2.2.2.2.2.2.2.2.2.2.2.2.2.1
  have hw8 : ∀ r : List Value, q_W8 r → ((r.map (q_cv G)).map fun v => v.category).sum ≤ 8 := fun r h => by rw [q_cats hF]; exact h
  obtain ⟨rfl, a, r, hk, h6, ha, hcs⟩ := hs
  have hok2 : q_okF i idx lk = true := by
    have := hok
    simp only [q_okI, Bool.and_eq_true] at this
    exact this.1
  obtain ⟨c11, cj, e5, -⟩ := q_flE hok2
  obtain ⟨t0, t3, t1, t2, -⟩ := q_ftt _ c11 _ cj
  have lo : ∀ locs' : List Loc, (∀ x ∈ locs', x ∈ locs ∨ gB G ≤ x.base) → ∀ x ∈ locs', gB G ≤ x.base := fun locs' q x hx => (q x hx).elim (hl x) id
  rcases hcs with ⟨x, h1, rfl, ho⟩ | ⟨x, h1, hnz, rfl, ho⟩ | ⟨x, h1, rfl, ho⟩ | ⟨x, h1, rfl, ho⟩
  · cases ho
    have ht := t0 (by rw [← e5]; exact h1)
    refine q_putf cx (h' := q_sI h a lk.2.2.1 x) hR h6 ha hk hok hd (by rw [ht]; rfl) (by rw [ht]; rfl) rfl (fun b hb => ?_) (fun j => ?_) (fun H' locs' q1 q2 => k H' locs' Ls q1 (lo locs' q2) hL g1 g2)
    · simp [va_up, hb]
    · by_cases hj : j = lk.2.2.1
      · simp [updV, va_up, hj, q_fv, ← e5, h1] <;> rfl
      · simp only [updV, hj, if_false, q_fv, va_up]
        split <;> simp [va_up, hj]
  · cases ho
    have ht := t3 (by rw [← e5]; exact h1)
    refine q_putf cx (h' := q_sI h a lk.2.2.1 x) hR h6 ha hk hok hd (by rw [ht]; exact hnz) (by rw [ht]; rcases q_nb hnz with rfl | rfl <;> rfl) rfl (fun b hb => ?_) (fun j => ?_) (fun H' locs' q1 q2 => k H' locs' Ls q1 (lo locs' q2) hL g1 g2)
    · simp [va_up, hb]
    · by_cases hj : j = lk.2.2.1
      · simp [updV, va_up, hj, q_fv, ← e5, h1] <;> rfl
      · simp only [updV, hj, if_false, q_fv, va_up]
        split <;> simp [va_up, hj]
  · cases ho
    have ht := t1 (by rw [← e5]; exact h1)
    refine q_putf cx (h' := q_sL h a lk.2.2.1 x) hR h6 ha hk hok hd (by rw [ht]; rfl) (by rw [ht]; rfl) rfl (fun b hb => ?_) (fun j => ?_) (fun H' locs' q1 q2 => k H' locs' Ls q1 (lo locs' q2) hL g1 g2)
    · simp [va_up, hb]
    · by_cases hj : j = lk.2.2.1
      · simp [updV, va_up, hj, q_fv, ← e5, h1] <;> rfl
      · simp only [updV, hj, if_false, q_fv, va_up]
        split <;> simp [va_up, hj]
  · cases ho
    have ht := t2 (by rw [← e5]; exact h1)
    have hf2 := q_fitR ht (x.map (q_ad G))
    refine q_putf cx (h' := q_sR h a lk.2.2.1 x) hR h6 ha hk hok hd (by rw [q_cv_rf]; exact hf2.1) (by rw [q_cv_rf]; exact hf2.2) rfl (fun b hb => ?_) (fun j => ?_) (fun H' locs' q1 q2 => k H' locs' Ls q1 (lo locs' q2) hL g1 g2)
    · simp [va_up, hb]
    · by_cases hj : j = lk.2.2.1
      · simp [updV, va_up, hj, q_fv, ← e5, h1] <;> rfl
      · simp only [updV, hj, if_false, q_fv, va_up]
        split <;> simp [va_up, hj]
set_option maxHeartbeats 4000000 in
theorem q1_getstatic (cx : q_Cx G i p s m meth c) {pc : Nat} {idx : Nat} {len : Nat} {lk : q_LK} {ls st : List Value} {h : q_H} {pc2 : Nat} {ls2 st2 : List Value} {h2 : q_H} (hd : decode (q_cd i) pc = .ok (Instr.getstatic idx, len)) (hok : q_okI i (Instr.getstatic idx) lk = true) (hs : q_sr (gKd G) i pc (Instr.getstatic idx) len lk ls st h (.inl (pc2, ls2, st2, h2)))
    (hroom : h2.1 - n0 ≤ R.cells ∧ h2.2.1 - s0 ≤ R.slots) (hfr : 1 ≤ R.frames) (hlo : 200 ≤ R.locals) (k : q_Wt p l e R s m args below meth c Q G n0 s0 i pc2 ls2 st2 h2) : q_Wt p l e R s m args below meth c Q G n0 s0 i pc ls st h := by
  intro H locs Ls hR hl hL g1 g2
  have hx := cx.1
  have hb := cx.2.1
  have hml : c.maxLocals = Ls.size := cx.2.2.1.trans hL.1.symm
  have hown := cx.2.2.2.1
  have hSx := cx.2.2.2.2.2.1
  have hF : q_isR (gF G) := hSx.2.2.2.2.2.2.2.2.2.2.2.2.2.2.2.1
  have hw8 : ∀ r : List Value, q_W8 r → ((r.map (q_cv G)).map fun v => v.category).sum ≤ 8 := fun r h => by rw [q_cats hF]; exact h
  obtain ⟨rfl, hcs⟩ := hs
  simp only [q_okI] at hok
  cases he : q_sf[lk.1]? with
  | none => rw [he] at hok; cases hok
  | some x =>
    rw [he] at hok
    obtain ⟨own, ix, C, n, d, nest, place⟩ := x
    simp only [decide_eq_true_eq] at hok
    obtain ⟨rfl, rfl, hcase⟩ := hok
    have hw := List.all_eq_true.mp q_sf_ok _ (List.mem_of_getElem? he)
    simp only [decide_eq_true_eq] at hw
    unfold q_sfw at hw
    rcases hcs with ⟨h1, ho⟩ | ⟨h1, ho⟩ | ⟨h1, ho⟩
    · cases ho
      rcases hcase with ⟨-, h2, rfl, rfl, rfl⟩ | ⟨-, h2, rfl, rfl, rfl⟩ | ⟨-, h2, rfl, rfl, rfl⟩ | ⟨h9, -⟩ | ⟨h9, -⟩
      · refine q_gets cx hR hSx.2.2.2.2.2.2.2.2.2.1 hw hd ?_
        have := (k H locs Ls hR hl hL g1 g2)
        rw [h2] at this
        exact this
      · refine q_gets cx hR hSx.2.2.2.2.2.2.2.2.2.2.1 hw hd ?_
        have := (k H locs Ls hR hl hL g1 g2)
        rw [h2] at this
        exact this
      · refine q_gets cx hR hSx.2.2.2.2.2.2.2.2.2.2.2.1 hw hd ?_
        have := (k H locs Ls hR hl hL g1 g2)
        rw [h2] at this
        exact this
      · omega
      · omega
    · cases ho
      rcases hcase with ⟨h9, -⟩ | ⟨h9, -⟩ | ⟨h9, -⟩ | ⟨-, rfl, rfl, rfl⟩ | ⟨h9, -⟩
      · omega
      · omega
      · omega
      · exact q_gets cx hR hSx.2.2.2.2.2.2.2.2.2.2.2.2.1 hw hd (k H locs Ls hR hl hL g1 g2)
      · omega
    · cases ho
      rcases hcase with ⟨h9, -⟩ | ⟨h9, -⟩ | ⟨h9, -⟩ | ⟨h9, -⟩ | ⟨-, rfl, rfl, rfl⟩
      · omega
      · omega
      · omega
      · omega
      · exact q_gets cx hR hSx.2.2.2.2.2.2.2.2.2.2.2.2.2.1 hw hd (k H locs Ls hR hl hL g1 g2)
set_option maxHeartbeats 4000000 in
theorem q1_new (cx : q_Cx G i p s m meth c) {pc : Nat} {idx : Nat} {len : Nat} {lk : q_LK} {ls st : List Value} {h : q_H} {pc2 : Nat} {ls2 st2 : List Value} {h2 : q_H} (hd : decode (q_cd i) pc = .ok (Instr.new idx, len)) (hok : q_okI i (Instr.new idx) lk = true) (hs : q_sr (gKd G) i pc (Instr.new idx) len lk ls st h (.inl (pc2, ls2, st2, h2)))
    (hroom : h2.1 - n0 ≤ R.cells ∧ h2.2.1 - s0 ≤ R.slots) (hfr : 1 ≤ R.frames) (hlo : 200 ≤ R.locals) (k : q_Wt p l e R s m args below meth c Q G n0 s0 i pc2 ls2 st2 h2) : q_Wt p l e R s m args below meth c Q G n0 s0 i pc ls st h := by
  intro H locs Ls hR hl hL g1 g2
  have hx := cx.1
  have hb := cx.2.1
  have hml : c.maxLocals = Ls.size := cx.2.2.1.trans hL.1.symm
  have hown := cx.2.2.2.1
  have hSx := cx.2.2.2.2.2.1
  have hF : q_isR (gF G) := hSx.2.2.2.2.2.2.2.2.2.2.2.2.2.2.2.1
  have hw8 : ∀ r : List Value, q_W8 r → ((r.map (q_cv G)).map fun v => v.category).sum ≤ 8 := fun r h => by rw [q_cats hF]; exact h
  obtain ⟨rfl, hk, ho⟩ := hs
  cases ho
  simp only [q_okI, decide_eq_true_eq] at hok
  obtain ⟨hw, c11, hN⟩ := hok
  have hKn := hSx.2.1.1 _ _ (q_cl c11)
  have r1 : h.1 + 1 - n0 ≤ R.cells := hroom.1
  have r2 : h.2.1 + lk.2.2.1 - s0 ≤ R.slots := hroom.2
  refine W.newcK hx hb hown (q_wp cx hw rfl args) (q_wd cx (q_ins11 _ c11).1 rfl args) (q_wd cx (q_ins11 _ c11).2 rfl args) rfl hd (by omega) (by omega) hKn.2.1 hR.at fun H1 kC hkC e1 z1 o1 => ?_
  have kk := k H1 locs Ls (hR.new (by rw [z1, hR.at]) (fun q hq => o1 q (by rw [← hR.at]; exact hq)) rfl (fun b hb => by simp [va_up, hb]) (Or.inl ⟨by omega, ?_⟩)) hl hL (by show n0 ≤ h.1 + 1; omega) (by show s0 ≤ h.2.1 + lk.2.2.1; omega)
  · have e1' : (q_nO h lk.2.2.1).1 - n0 = h.1 - n0 + 1 := by show h.1 + 1 - n0 = _; omega
    have e2' : (q_nO h lk.2.2.1).2.1 - s0 = h.2.1 - s0 + q_nf lk.2.1 := by show h.2.1 + lk.2.2.1 - s0 = _; omega
    rw [e1', e2'] at kk
    exact kk
  · rw [hk]
    exact (u_born (q_tyc lk.2.1) (q_hts cx c11 args) (fun _ h => h) hKn hkC e1 (q_tyok c11)).to (fun j hj => q_dflt c11 hj G h _)
set_option maxHeartbeats 4000000 in
theorem q1_newarray (cx : q_Cx G i p s m meth c) {pc : Nat} {t : ArrayType} {len : Nat} {lk : q_LK} {ls st : List Value} {h : q_H} {pc2 : Nat} {ls2 st2 : List Value} {h2 : q_H} (hd : decode (q_cd i) pc = .ok (Instr.newarray t, len)) (hok : q_okI i (Instr.newarray t) lk = true) (hs : q_sr (gKd G) i pc (Instr.newarray t) len lk ls st h (.inl (pc2, ls2, st2, h2)))
    (hroom : h2.1 - n0 ≤ R.cells ∧ h2.2.1 - s0 ≤ R.slots) (hfr : 1 ≤ R.frames) (hlo : 200 ≤ R.locals) (k : q_Wt p l e R s m args below meth c Q G n0 s0 i pc2 ls2 st2 h2) : q_Wt p l e R s m args below meth c Q G n0 s0 i pc ls st h := by
  intro H locs Ls hR hl hL g1 g2
  have hx := cx.1
  have hb := cx.2.1
  have hml : c.maxLocals = Ls.size := cx.2.2.1.trans hL.1.symm
  have hown := cx.2.2.2.1
  have hSx := cx.2.2.2.2.2.1
  have hF : q_isR (gF G) := hSx.2.2.2.2.2.2.2.2.2.2.2.2.2.2.2.1
  have hw8 : ∀ r : List Value, q_W8 r → ((r.map (q_cv G)).map fun v => v.category).sum ≤ 8 := fun r h => by rw [q_cats hF]; exact h
  obtain ⟨rfl, x, r, rfl, hn, hn2, ht, ho⟩ := hs
  injection ho with ho
  injection ho with o1 ho
  injection ho with o2 ho
  injection ho with o3 o4
  subst o1 o2 o3 o4
  have r1 : h.1 + 1 - n0 ≤ R.cells := hroom.1
  have r2 : h.2.1 + x.toNatClampNeg - s0 ≤ R.slots := hroom.2
  have e1' : (q_nA h x.toNatClampNeg (fun _ => 0)).1 - n0 = h.1 - n0 + 1 := by show h.1 + 1 - n0 = _; omega
  have e2' : (q_nA h x.toNatClampNeg (fun _ => 0)).2.1 - s0 = h.2.1 - s0 + x.toNatClampNeg := by show h.2.1 + x.toNatClampNeg - s0 = _; omega
  have go : ∀ (t' : ArrayType) (n : Nat), Cond.arrayClass (newarray.typeOf t') ∈ lw_tbl → newarray.typeOf t' = q_ty n → 20 ≤ n → n ≤ 23 → x.toNatClampNeg * componentBytes (newarray.typeOf t') ≤ 536870912 → decode (q_cd i) pc = .ok (.newarray t', 2) → gKd G h.1 = n → W p l e R s m args below meth c H locs (h.1 - n0) (h.2.1 - s0) Q (F0 m pc Ls (.int x :: r.map (q_cv G))) := by
    intro t' n hw hq h20 h23 hby hd hk
    refine va_newaK (atype := t') (n := x) (N := x.toNatClampNeg) (rest := r.map (q_cv G)) hx hb (q_wd cx hw rfl args) rfl hd rfl hn rfl hby (by omega) (by omega) hR.at fun H1 cA e1 z1 o1 hAr hNm => ?_
    rw [hq] at e1 hNm
    have hc : cA = gA G n := by
      have h2 := (hSx.2.2.1 n h20 (by omega)).2
      have hcs : n = 20 ∨ n = 21 ∨ n = 22 ∨ n = 23 := by omega
      rcases hcs with rfl | rfl | rfl | rfl <;> exact Option.some.inj (hNm.symm.trans h2)
    subst hc
    have hav : q_av G (q_nA h x.toNatClampNeg (fun _ => 0)) h.1 n = fun _ => defaultValue (q_ty n) := by
      funext j
      have hcs : n = 20 ∨ n = 21 ∨ n = 22 ∨ n = 23 := by omega
      rcases hcs with rfl | rfl | rfl | rfl <;> simp [va_up, q_av, q_ty, defaultValue]
    have kk := k H1 locs Ls (hR.new (by rw [z1, hR.at]) (fun q hq => o1 q (by rw [← hR.at]; exact hq)) rfl (fun b hb => by simp [va_up, hb]) (Or.inr ⟨by omega, by omega, by rw [hk, e1, hav]; simp [va_up]⟩)) hl hL (by show n0 ≤ h.1 + 1; omega) (by show s0 ≤ h.2.1 + x.toNatClampNeg; omega)
    rw [e1', e2'] at kk
    exact kk
  have hb1 : ∀ z, z ≤ 8 → x.toNatClampNeg * z ≤ 536870912 := fun z hz => Nat.le_trans (Nat.mul_le_mul hn2 hz) (by decide)
  rcases ht with ⟨e, hk⟩ | ⟨e, hk⟩ | ⟨e, hk⟩ | ⟨e, hk⟩
  · rw [e] at hd; exact go .int 20 q_acl.1.1 rfl (by omega) (by omega) (hb1 _ (by decide)) hd hk
  · rw [e] at hd; exact go .byte 21 q_acl.1.2 rfl (by omega) (by omega) (hb1 _ (by decide)) hd hk
  · rw [e] at hd; exact go .boolean 22 q_acl.2.1 rfl (by omega) (by omega) (hb1 _ (by decide)) hd hk
  · rw [e] at hd; exact go .long 23 q_acl.2.2 rfl (by omega) (by omega) (hb1 _ (by decide)) hd hk
set_option maxHeartbeats 4000000 in
theorem q1_anewarray (cx : q_Cx G i p s m meth c) {pc : Nat} {idx : Nat} {len : Nat} {lk : q_LK} {ls st : List Value} {h : q_H} {pc2 : Nat} {ls2 st2 : List Value} {h2 : q_H} (hd : decode (q_cd i) pc = .ok (Instr.anewarray idx, len)) (hok : q_okI i (Instr.anewarray idx) lk = true) (hs : q_sr (gKd G) i pc (Instr.anewarray idx) len lk ls st h (.inl (pc2, ls2, st2, h2)))
    (hroom : h2.1 - n0 ≤ R.cells ∧ h2.2.1 - s0 ≤ R.slots) (hfr : 1 ≤ R.frames) (hlo : 200 ≤ R.locals) (k : q_Wt p l e R s m args below meth c Q G n0 s0 i pc2 ls2 st2 h2) : q_Wt p l e R s m args below meth c Q G n0 s0 i pc ls st h := by
  intro H locs Ls hR hl hL g1 g2
  have hx := cx.1
  have hb := cx.2.1
  have hml : c.maxLocals = Ls.size := cx.2.2.1.trans hL.1.symm
  have hown := cx.2.2.2.1
  have hSx := cx.2.2.2.2.2.1
  have hF : q_isR (gF G) := hSx.2.2.2.2.2.2.2.2.2.2.2.2.2.2.2.1
  have hw8 : ∀ r : List Value, q_W8 r → ((r.map (q_cv G)).map fun v => v.category).sum ≤ 8 := fun r h => by rw [q_cats hF]; exact h
  obtain ⟨rfl, x, r, rfl, hn, hn2, hk, ho⟩ := hs
  cases ho
  simp only [q_okI, decide_eq_true_eq] at hok
  have r1 : h.1 + 1 - n0 ≤ R.cells := hroom.1
  have r2 : h.2.1 + x.toNatClampNeg - s0 ≤ R.slots := hroom.2
  have e1' : (q_nA h x.toNatClampNeg (fun _ => 0)).1 - n0 = h.1 - n0 + 1 := by show h.1 + 1 - n0 = _; omega
  have e2' : (q_nA h x.toNatClampNeg (fun _ => 0)).2.1 - s0 = h.2.1 - s0 + x.toNatClampNeg := by show h.2.1 + x.toNatClampNeg - s0 = _; omega
  refine W.anew hx hb hown (q_wp cx hok rfl args) (va_AO.use hSx.2.2.2.2.2.2.2.2.2.2.2.2.2.2.1.1) rfl hd rfl hn (Nat.le_trans (Nat.mul_le_mul hn2 (Nat.le_refl 4)) (by decide)) (by omega) (by omega) fun cA kA comp f1 f2 f3 f4 => ?_
  obtain ⟨kA', comp', k1, k2, k3, k4⟩ := (hSx.2.2.1 24 (by omega) (by omega)).2
  have hc : cA = gA G 24 := Option.some.inj (f1.symm.trans k4)
  subst hc
  generalize hH1 : H.push ({ cls := gA G 24, slots := Array.replicate x.toNatClampNeg .null, vm := .none } : Cell) = H1
  have z1 : H1.size = H.size + 1 := by rw [← hH1, Array.size_push]
  have e1 : H1[H.size]? = some (arrV (gA G 24) x.toNatClampNeg (fun _ => .null)) := by rw [← hH1, Array.getElem?_push_size, ← arrV_new]
  have o1 : ∀ q : Nat, q < H.size → H1[q]? = H[q]? := fun q hq => by rw [← hH1, Array.getElem?_push, if_neg (Nat.ne_of_lt hq)]
  have kk := k H1 locs Ls (hR.new z1 o1 rfl (fun b hb => by simp [va_up, hb]) (Or.inr ⟨by omega, by omega, ?_⟩)) hl hL (by show n0 ≤ h.1 + 1; omega) (by show s0 ≤ h.2.1 + x.toNatClampNeg; omega)
  · rw [e1', e2'] at kk
    show W p l e R s m args below meth c H1 locs _ _ Q (F0 m (pc + 3) Ls (.ref H.size :: r.map (q_cv G)))
    rw [hR.at]
    exact kk
  · rw [hk, ← hR.at, e1]
    have hq : q_av G (q_nA h x.toNatClampNeg (fun _ => 0)) h.1 24 = fun _ => .null := by
      funext j
      simp [q_av, va_up, va_rf, q_cv]
    rw [hq]
    simp [va_up]
set_option maxHeartbeats 4000000 in
theorem q1_checkcast (cx : q_Cx G i p s m meth c) {pc : Nat} {idx : Nat} {len : Nat} {lk : q_LK} {ls st : List Value} {h : q_H} {pc2 : Nat} {ls2 st2 : List Value} {h2 : q_H} (hd : decode (q_cd i) pc = .ok (Instr.checkcast idx, len)) (hok : q_okI i (Instr.checkcast idx) lk = true) (hs : q_sr (gKd G) i pc (Instr.checkcast idx) len lk ls st h (.inl (pc2, ls2, st2, h2)))
    (hroom : h2.1 - n0 ≤ R.cells ∧ h2.2.1 - s0 ≤ R.slots) (hfr : 1 ≤ R.frames) (hlo : 200 ≤ R.locals) (k : q_Wt p l e R s m args below meth c Q G n0 s0 i pc2 ls2 st2 h2) : q_Wt p l e R s m args below meth c Q G n0 s0 i pc ls st h := by
  intro H locs Ls hR hl hL g1 g2
  have hx := cx.1
  have hb := cx.2.1
  have hml : c.maxLocals = Ls.size := cx.2.2.1.trans hL.1.symm
  have hown := cx.2.2.2.1
  have hSx := cx.2.2.2.2.2.1
  have hF : q_isR (gF G) := hSx.2.2.2.2.2.2.2.2.2.2.2.2.2.2.2.1
  have hw8 : ∀ r : List Value, q_W8 r → ((r.map (q_cv G)).map fun v => v.category).sum ≤ 8 := fun r h => by rw [q_cats hF]; exact h
  obtain ⟨rfl, a, r, rfl, hk, h6, ha, ho⟩ := hs
  cases ho
  simp only [q_okI, decide_eq_true_eq] at hok
  have hc := q_own hR h6 ha (by omega)
  rw [hk] at hc
  exact va_castA (D := (gC G, gI G)) (cl := vwCl) (ws := [(q_ad G a, .inl (gA G 20, h.2.2.1 a, .inl (h.2.2.2.1 a)))]) hx hb hown (q_wp cx hok rfl args) (fun kq q hq => by
    cases kq with
    | zero => cases hq; exact hc
    | succ n => simp at hq) 0 rfl (hSx.2.2.1 20 (by omega) (by omega)).2 hd (k H locs Ls hR hl hL g1 g2)
set_option maxHeartbeats 4000000 in
theorem q1_invokespecial (cx : q_Cx G i p s m meth c) {pc : Nat} {idx : Nat} {len : Nat} {lk : q_LK} {ls st : List Value} {h : q_H} {pc2 : Nat} {ls2 st2 : List Value} {h2 : q_H} (hd : decode (q_cd i) pc = .ok (Instr.invokespecial idx, len)) (hok : q_okI i (Instr.invokespecial idx) lk = true) (hs : q_sr (gKd G) i pc (Instr.invokespecial idx) len lk ls st h (.inl (pc2, ls2, st2, h2)))
    (hroom : h2.1 - n0 ≤ R.cells ∧ h2.2.1 - s0 ≤ R.slots) (hfr : 1 ≤ R.frames) (hlo : 200 ≤ R.locals) (k : q_Wt p l e R s m args below meth c Q G n0 s0 i pc2 ls2 st2 h2) : q_Wt p l e R s m args below meth c Q G n0 s0 i pc ls st h := by
  intro H locs Ls hR hl hL g1 g2
  have hx := cx.1
  have hb := cx.2.1
  have hml : c.maxLocals = Ls.size := cx.2.2.1.trans hL.1.symm
  have hown := cx.2.2.2.1
  have hSx := cx.2.2.2.2.2.1
  have hF : q_isR (gF G) := hSx.2.2.2.2.2.2.2.2.2.2.2.2.2.2.2.1
  have hw8 : ∀ r : List Value, q_W8 r → ((r.map (q_cv G)).map fun v => v.category).sum ≤ 8 := fun r h => by rw [q_cats hF]; exact h
  obtain ⟨rfl, hcs⟩ := hs
  rcases hcs with ⟨h9, a, r, rfl, h8, ho⟩ | ⟨-, a, as, rs, -, -, -, ho⟩
  · cases ho
    simp only [q_okI, h9, if_true, decide_eq_true_eq] at hok
    exact W.objInit hx hb hown (q_wp cx hok rfl args) (q_wd cx q_objw.1 rfl args) (q_wd cx q_objw.2 rfl args) rfl hml.symm rfl hd hfr (by have := hw8 _ h8; show 2 * 0 + _ + 12 ≤ _; omega) (k H locs Ls hR hl hL g1 g2)
  · cases ho
set_option maxHeartbeats 4000000 in
theorem q1_invokestatic (cx : q_Cx G i p s m meth c) {pc : Nat} {idx : Nat} {len : Nat} {lk : q_LK} {ls st : List Value} {h : q_H} {pc2 : Nat} {ls2 st2 : List Value} {h2 : q_H} (hd : decode (q_cd i) pc = .ok (Instr.invokestatic idx, len)) (hok : q_okI i (Instr.invokestatic idx) lk = true) (hs : q_sr (gKd G) i pc (Instr.invokestatic idx) len lk ls st h (.inl (pc2, ls2, st2, h2)))
    (hroom : h2.1 - n0 ≤ R.cells ∧ h2.2.1 - s0 ≤ R.slots) (hfr : 1 ≤ R.frames) (hlo : 200 ≤ R.locals) (k : q_Wt p l e R s m args below meth c Q G n0 s0 i pc2 ls2 st2 h2) : q_Wt p l e R s m args below meth c Q G n0 s0 i pc ls st h := by
  intro H locs Ls hR hl hL g1 g2
  have hx := cx.1
  have hb := cx.2.1
  have hml : c.maxLocals = Ls.size := cx.2.2.1.trans hL.1.symm
  have hown := cx.2.2.2.1
  have hSx := cx.2.2.2.2.2.1
  have hF : q_isR (gF G) := hSx.2.2.2.2.2.2.2.2.2.2.2.2.2.2.2.1
  have hw8 : ∀ r : List Value, q_W8 r → ((r.map (q_cv G)).map fun v => v.category).sum ≤ 8 := fun r h => by rw [q_cats hF]; exact h
  obtain ⟨rfl, hcs⟩ := hs
  rcases hcs with ⟨h9, a, b, sp, dp, n, r, rfl, h8, hka, hkb, h6a, haa, h6b, hab, hsp, hdp, hn, hl1, hl2, ho⟩ | ⟨h9, x, y, r, rfl, h8, ho⟩ | ⟨h9, x, y, r, rfl, h8, ho⟩ | ⟨h9, x, r, rfl, h8, ho⟩ | ⟨-, as, rs, -, -, -, ho⟩
  · cases ho
    simp [q_okI, h9] at hok
    have hca := q_own hR h6a haa (by omega)
    have hcb := q_own hR h6b hab (by omega)
    rw [hka] at hca
    rw [hkb] at hcb
    refine q_copy cx hml (q_wp cx hok rfl args) hca hcb hsp hdp hn hl1 hl2 hfr (by have := hw8 _ h8; have hnw : nativeFrameWords "java/lang/System" "arraycopy" 5 ≤ 100 := by decide +kernel
                                                                                   omega) hd (fun H1 L e1 z1 o1 hL1 => k H1 _ Ls (hR.put h6b hab z1 o1 rfl (fun b' hb' => by simp [va_up, hb']) (Or.inr ⟨by omega, by omega, ?_⟩)) (fun z hz => ?_) hL g1 g2)
    · rw [hkb, e1, q_av_i (by omega) (by omega)]
      simp [va_up]
    · rcases List.mem_append.mp hz with q | q
      · exact hl z q
      · rw [hL1 z q, q_adE G h6b]; omega
  · cases ho
    simp [q_okI, h9] at hok
    exact va_mmax hx hb hml hown (q_wp cx hok rfl args) (q_wd cx q_mathw.2.1.1 rfl args) (q_wd cx q_mathw.1 rfl args) (q_wd cx q_mathw.2.1.2 rfl args) hfr (by have := hw8 _ h8; omega) hroom.1 hroom.2 hd (k H locs Ls hR hl hL g1 g2)
  · cases ho
    simp [q_okI, h9] at hok
    exact va_mmin hx hb hml hown (q_wp cx hok rfl args) (q_wd cx q_mathw.2.2.1.1 rfl args) (q_wd cx q_mathw.1 rfl args) (q_wd cx q_mathw.2.2.1.2 rfl args) hfr (by have := hw8 _ h8; omega) hroom.1 hroom.2 hd (k H locs Ls hR hl hL g1 g2)
  · cases ho
    simp [q_okI, h9] at hok
    exact va_mabs hx hb hml hown (q_wp cx hok rfl args) (q_wd cx q_mathw.2.2.2.1 rfl args) (q_wd cx q_mathw.1 rfl args) (q_wd cx q_mathw.2.2.2.2 rfl args) hfr (by have := hw8 _ h8; omega) hroom.1 hroom.2 hd (k H locs Ls hR hl hL g1 g2)
  · cases ho
set_option maxHeartbeats 4000000 in
theorem q1_invokevirtual (cx : q_Cx G i p s m meth c) {pc : Nat} {idx : Nat} {len : Nat} {lk : q_LK} {ls st : List Value} {h : q_H} {pc2 : Nat} {ls2 st2 : List Value} {h2 : q_H} (hd : decode (q_cd i) pc = .ok (Instr.invokevirtual idx, len)) (hok : q_okI i (Instr.invokevirtual idx) lk = true) (hs : q_sr (gKd G) i pc (Instr.invokevirtual idx) len lk ls st h (.inl (pc2, ls2, st2, h2)))
    (hroom : h2.1 - n0 ≤ R.cells ∧ h2.2.1 - s0 ≤ R.slots) (hfr : 1 ≤ R.frames) (hlo : 200 ≤ R.locals) (k : q_Wt p l e R s m args below meth c Q G n0 s0 i pc2 ls2 st2 h2) : q_Wt p l e R s m args below meth c Q G n0 s0 i pc ls st h := by
  intro H locs Ls hR hl hL g1 g2
  have hx := cx.1
  have hb := cx.2.1
  have hml : c.maxLocals = Ls.size := cx.2.2.1.trans hL.1.symm
  have hown := cx.2.2.2.1
  have hSx := cx.2.2.2.2.2.1
  have hF : q_isR (gF G) := hSx.2.2.2.2.2.2.2.2.2.2.2.2.2.2.2.1
  have hw8 : ∀ r : List Value, q_W8 r → ((r.map (q_cv G)).map fun v => v.category).sum ≤ 8 := fun r h => by rw [q_cats hF]; exact h
  obtain ⟨rfl, hcs⟩ := hs
  rcases hcs with ⟨h9, a, r, rfl, h8, hk, h6, ha, hlen, hkn, ho⟩ | ⟨-, a, as, rs, -, -, -, -, -, -, ho⟩
  · cases ho
    simp [q_okI, h9] at hok
    have hc := q_own hR h6 ha (by omega)
    rw [hk] at hc
    have r1 : h.1 + 1 - n0 ≤ R.cells := hroom.1
    have r2 : h.2.1 + h.2.2.1 a - s0 ≤ R.slots := hroom.2
    have e1' : (q_nA h (h.2.2.1 a) (h.2.2.2.1 a)).1 - n0 = h.1 - n0 + 1 := by show h.1 + 1 - n0 = _; omega
    have e2' : (q_nA h (h.2.2.1 a) (h.2.2.2.1 a)).2.1 - s0 = h.2.1 - s0 + h.2.2.1 a := by show h.2.1 + h.2.2.1 a - s0 = _; omega
    refine q_clone cx hml (q_wp cx hok rfl args) hc hfr (by have := hw8 _ h8; omega) (by omega) (by omega) hd (fun H1 e1 z1 o1 => ?_)
    have kk := k H1 locs Ls (hR.new z1 o1 rfl (fun b hb => by simp [va_up, hb]) (Or.inr ⟨by omega, by omega, ?_⟩)) hl hL (by show n0 ≤ h.1 + 1; omega) (by show s0 ≤ h.2.1 + h.2.2.1 a; omega)
    · rw [e1', e2'] at kk
      rw [hR.at]
      exact kk
    · rw [hkn, ← hR.at, e1, q_av_i (by omega) (by omega)]
      simp [va_up]
  · cases ho
set_option maxHeartbeats 4000000 in
theorem q1_ireturn (cx : q_Cx G i p s m meth c) {pc : Nat} {len : Nat} {lk : q_LK} {ls st : List Value} {h : q_H} {pc2 : Nat} {ls2 st2 : List Value} {h2 : q_H} (hd : decode (q_cd i) pc = .ok (Instr.ireturn, len)) (hok : q_okI i (Instr.ireturn) lk = true) (hs : q_sr (gKd G) i pc (Instr.ireturn) len lk ls st h (.inl (pc2, ls2, st2, h2)))
    (hroom : h2.1 - n0 ≤ R.cells ∧ h2.2.1 - s0 ≤ R.slots) (hfr : 1 ≤ R.frames) (hlo : 200 ≤ R.locals) (k : q_Wt p l e R s m args below meth c Q G n0 s0 i pc2 ls2 st2 h2) : q_Wt p l e R s m args below meth c Q G n0 s0 i pc ls st h := by
  intro H locs Ls hR hl hL g1 g2
  have hx := cx.1
  have hb := cx.2.1
  have hml : c.maxLocals = Ls.size := cx.2.2.1.trans hL.1.symm
  have hown := cx.2.2.2.1
  have hSx := cx.2.2.2.2.2.1
  have hF : q_isR (gF G) := hSx.2.2.2.2.2.2.2.2.2.2.2.2.2.2.2.1
  have hw8 : ∀ r : List Value, q_W8 r → ((r.map (q_cv G)).map fun v => v.category).sum ≤ 8 := fun r h => by rw [q_cats hF]; exact h
  obtain ⟨-, x, -, -, ho⟩ := hs
  cases ho
set_option maxHeartbeats 4000000 in
theorem q1_lreturn (cx : q_Cx G i p s m meth c) {pc : Nat} {len : Nat} {lk : q_LK} {ls st : List Value} {h : q_H} {pc2 : Nat} {ls2 st2 : List Value} {h2 : q_H} (hd : decode (q_cd i) pc = .ok (Instr.lreturn, len)) (hok : q_okI i (Instr.lreturn) lk = true) (hs : q_sr (gKd G) i pc (Instr.lreturn) len lk ls st h (.inl (pc2, ls2, st2, h2)))
    (hroom : h2.1 - n0 ≤ R.cells ∧ h2.2.1 - s0 ≤ R.slots) (hfr : 1 ≤ R.frames) (hlo : 200 ≤ R.locals) (k : q_Wt p l e R s m args below meth c Q G n0 s0 i pc2 ls2 st2 h2) : q_Wt p l e R s m args below meth c Q G n0 s0 i pc ls st h := by
  intro H locs Ls hR hl hL g1 g2
  have hx := cx.1
  have hb := cx.2.1
  have hml : c.maxLocals = Ls.size := cx.2.2.1.trans hL.1.symm
  have hown := cx.2.2.2.1
  have hSx := cx.2.2.2.2.2.1
  have hF : q_isR (gF G) := hSx.2.2.2.2.2.2.2.2.2.2.2.2.2.2.2.1
  have hw8 : ∀ r : List Value, q_W8 r → ((r.map (q_cv G)).map fun v => v.category).sum ≤ 8 := fun r h => by rw [q_cats hF]; exact h
  obtain ⟨-, x, -, -, ho⟩ := hs
  cases ho
set_option maxHeartbeats 4000000 in
theorem q1_areturn (cx : q_Cx G i p s m meth c) {pc : Nat} {len : Nat} {lk : q_LK} {ls st : List Value} {h : q_H} {pc2 : Nat} {ls2 st2 : List Value} {h2 : q_H} (hd : decode (q_cd i) pc = .ok (Instr.areturn, len)) (hok : q_okI i (Instr.areturn) lk = true) (hs : q_sr (gKd G) i pc (Instr.areturn) len lk ls st h (.inl (pc2, ls2, st2, h2)))
    (hroom : h2.1 - n0 ≤ R.cells ∧ h2.2.1 - s0 ≤ R.slots) (hfr : 1 ≤ R.frames) (hlo : 200 ≤ R.locals) (k : q_Wt p l e R s m args below meth c Q G n0 s0 i pc2 ls2 st2 h2) : q_Wt p l e R s m args below meth c Q G n0 s0 i pc ls st h := by
  intro H locs Ls hR hl hL g1 g2
  have hx := cx.1
  have hb := cx.2.1
  have hml : c.maxLocals = Ls.size := cx.2.2.1.trans hL.1.symm
  have hown := cx.2.2.2.1
  have hSx := cx.2.2.2.2.2.1
  have hF : q_isR (gF G) := hSx.2.2.2.2.2.2.2.2.2.2.2.2.2.2.2.1
  have hw8 : ∀ r : List Value, q_W8 r → ((r.map (q_cv G)).map fun v => v.category).sum ≤ 8 := fun r h => by rw [q_cats hF]; exact h
  obtain ⟨-, x, -, -, ho⟩ := hs
  cases ho
set_option maxHeartbeats 4000000 in
theorem q1_return_ (cx : q_Cx G i p s m meth c) {pc : Nat} {len : Nat} {lk : q_LK} {ls st : List Value} {h : q_H} {pc2 : Nat} {ls2 st2 : List Value} {h2 : q_H} (hd : decode (q_cd i) pc = .ok (Instr.return_, len)) (hok : q_okI i (Instr.return_) lk = true) (hs : q_sr (gKd G) i pc (Instr.return_) len lk ls st h (.inl (pc2, ls2, st2, h2)))
    (hroom : h2.1 - n0 ≤ R.cells ∧ h2.2.1 - s0 ≤ R.slots) (hfr : 1 ≤ R.frames) (hlo : 200 ≤ R.locals) (k : q_Wt p l e R s m args below meth c Q G n0 s0 i pc2 ls2 st2 h2) : q_Wt p l e R s m args below meth c Q G n0 s0 i pc ls st h := by
  intro H locs Ls hR hl hL g1 g2
  have hx := cx.1
  have hb := cx.2.1
  have hml : c.maxLocals = Ls.size := cx.2.2.1.trans hL.1.symm
  have hown := cx.2.2.2.1
  have hSx := cx.2.2.2.2.2.1
  have hF : q_isR (gF G) := hSx.2.2.2.2.2.2.2.2.2.2.2.2.2.2.2.1
  have hw8 : ∀ r : List Value, q_W8 r → ((r.map (q_cv G)).map fun v => v.category).sum ≤ 8 := fun r h => by rw [q_cats hF]; exact h
  obtain ⟨-, -, -, ho⟩ := hs
  cases ho
set_option maxHeartbeats 4000000 in
theorem q_one (cx : q_Cx G i p s m meth c) {pc : Nat} {ins : Instr} {len : Nat} {lk : q_LK} {ls st : List Value} {h : q_H} {pc2 : Nat} {ls2 st2 : List Value} {h2 : q_H} (hd : decode (q_cd i) pc = .ok (ins, len)) (hok : q_okI i (ins) lk = true) (hs : q_sr (gKd G) i pc (ins) len lk ls st h (.inl (pc2, ls2, st2, h2)))
    (hroom : h2.1 - n0 ≤ R.cells ∧ h2.2.1 - s0 ≤ R.slots) (hfr : 1 ≤ R.frames) (hlo : 200 ≤ R.locals) (k : q_Wt p l e R s m args below meth c Q G n0 s0 i pc2 ls2 st2 h2) : q_Wt p l e R s m args below meth c Q G n0 s0 i pc ls st h := by
  cases ins
  case iconst n => exact q1_iconst cx hd hok hs hroom hfr hlo k
  case bipush n => exact q1_bipush cx hd hok hs hroom hfr hlo k
  case sipush n => exact q1_sipush cx hd hok hs hroom hfr hlo k
  case lconst n => exact q1_lconst cx hd hok hs hroom hfr hlo k
  case aconst_null => exact q1_aconst_null cx hd hok hs hroom hfr hlo k
  case ldc idx => exact q1_ldc cx hd hok hs hroom hfr hlo k
  case ldc_w idx => exact q1_ldc_w cx hd hok hs hroom hfr hlo k
  case ldc2_w idx => exact q1_ldc2_w cx hd hok hs hroom hfr hlo k
  case iload n => exact q1_iload cx hd hok hs hroom hfr hlo k
  case iload_n n => exact q1_iload_n cx hd hok hs hroom hfr hlo k
  case lload n => exact q1_lload cx hd hok hs hroom hfr hlo k
  case lload_n n => exact q1_lload_n cx hd hok hs hroom hfr hlo k
  case aload n => exact q1_aload cx hd hok hs hroom hfr hlo k
  case aload_n n => exact q1_aload_n cx hd hok hs hroom hfr hlo k
  case istore n => exact q1_istore cx hd hok hs hroom hfr hlo k
  case istore_n n => exact q1_istore_n cx hd hok hs hroom hfr hlo k
  case lstore n => exact q1_lstore cx hd hok hs hroom hfr hlo k
  case lstore_n n => exact q1_lstore_n cx hd hok hs hroom hfr hlo k
  case astore n => exact q1_astore cx hd hok hs hroom hfr hlo k
  case astore_n n => exact q1_astore_n cx hd hok hs hroom hfr hlo k
  case iinc n z => exact q1_iinc cx hd hok hs hroom hfr hlo k
  case iadd => exact q1_iadd cx hd hok hs hroom hfr hlo k
  case isub => exact q1_isub cx hd hok hs hroom hfr hlo k
  case imul => exact q1_imul cx hd hok hs hroom hfr hlo k
  case iand => exact q1_iand cx hd hok hs hroom hfr hlo k
  case ior => exact q1_ior cx hd hok hs hroom hfr hlo k
  case ixor => exact q1_ixor cx hd hok hs hroom hfr hlo k
  case ladd => exact q1_ladd cx hd hok hs hroom hfr hlo k
  case lsub => exact q1_lsub cx hd hok hs hroom hfr hlo k
  case lmul => exact q1_lmul cx hd hok hs hroom hfr hlo k
  case lor => exact q1_lor cx hd hok hs hroom hfr hlo k
  case ishl => exact q1_ishl cx hd hok hs hroom hfr hlo k
  case ishr => exact q1_ishr cx hd hok hs hroom hfr hlo k
  case idiv => exact q1_idiv cx hd hok hs hroom hfr hlo k
  case irem => exact q1_irem cx hd hok hs hroom hfr hlo k
  case ldiv => exact q1_ldiv cx hd hok hs hroom hfr hlo k
  case iushr => exact q1_iushr cx hd hok hs hroom hfr hlo k
  case lshl => exact q1_lshl cx hd hok hs hroom hfr hlo k
  case lcmp => exact q1_lcmp cx hd hok hs hroom hfr hlo k
  case ineg => exact q1_ineg cx hd hok hs hroom hfr hlo k
  case lneg => exact q1_lneg cx hd hok hs hroom hfr hlo k
  case i2l => exact q1_i2l cx hd hok hs hroom hfr hlo k
  case l2i => exact q1_l2i cx hd hok hs hroom hfr hlo k
  case i2b => exact q1_i2b cx hd hok hs hroom hfr hlo k
  case i2c => exact q1_i2c cx hd hok hs hroom hfr hlo k
  case dup => exact q1_dup cx hd hok hs hroom hfr hlo k
  case pop => exact q1_pop cx hd hok hs hroom hfr hlo k
  case dup2 => exact q1_dup2 cx hd hok hs hroom hfr hlo k
  case ifCond cn off => exact q1_ifCond cx hd hok hs hroom hfr hlo k
  case if_icmp cn off => exact q1_if_icmp cx hd hok hs hroom hfr hlo k
  case ifnull off => exact q1_ifnull cx hd hok hs hroom hfr hlo k
  case ifnonnull off => exact q1_ifnonnull cx hd hok hs hroom hfr hlo k
  case goto off => exact q1_goto cx hd hok hs hroom hfr hlo k
  case tableswitch df lw hg offs => exact q1_tableswitch cx hd hok hs hroom hfr hlo k
  case lookupswitch df ps => exact q1_lookupswitch cx hd hok hs hroom hfr hlo k
  case iaload => exact q1_iaload cx hd hok hs hroom hfr hlo k
  case laload => exact q1_laload cx hd hok hs hroom hfr hlo k
  case aaload => exact q1_aaload cx hd hok hs hroom hfr hlo k
  case baload => exact q1_baload cx hd hok hs hroom hfr hlo k
  case iastore => exact q1_iastore cx hd hok hs hroom hfr hlo k
  case lastore => exact q1_lastore cx hd hok hs hroom hfr hlo k
  case bastore => exact q1_bastore cx hd hok hs hroom hfr hlo k
  case aastore => exact q1_aastore cx hd hok hs hroom hfr hlo k
  case arraylength => exact q1_arraylength cx hd hok hs hroom hfr hlo k
  case getfield idx => exact q1_getfield cx hd hok hs hroom hfr hlo k
  case putfield idx => exact q1_putfield cx hd hok hs hroom hfr hlo k
  case getstatic idx => exact q1_getstatic cx hd hok hs hroom hfr hlo k
  case new idx => exact q1_new cx hd hok hs hroom hfr hlo k
  case newarray t => exact q1_newarray cx hd hok hs hroom hfr hlo k
  case anewarray idx => exact q1_anewarray cx hd hok hs hroom hfr hlo k
  case checkcast idx => exact q1_checkcast cx hd hok hs hroom hfr hlo k
  case invokespecial idx => exact q1_invokespecial cx hd hok hs hroom hfr hlo k
  case invokestatic idx => exact q1_invokestatic cx hd hok hs hroom hfr hlo k
  case invokevirtual idx => exact q1_invokevirtual cx hd hok hs hroom hfr hlo k
  case ireturn => exact q1_ireturn cx hd hok hs hroom hfr hlo k
  case lreturn => exact q1_lreturn cx hd hok hs hroom hfr hlo k
  case areturn => exact q1_areturn cx hd hok hs hroom hfr hlo k
  case return_ => exact q1_return_ cx hd hok hs hroom hfr hlo k
  all_goals exact False.elim hs
end QV
