/-! each step of the small machine is the machine's -/
theorem q_ins11 : ∀ c, c < 11 → Cond.instantiable (q_R c) (q_nf c) ∈ lw_tbl ∧ Cond.initialized (q_R c) ∈ lw_tbl := by decide +kernel
theorem q_acl : (Cond.arrayClass .int ∈ lw_tbl ∧ Cond.arrayClass .byte ∈ lw_tbl) ∧ (Cond.arrayClass .boolean ∈ lw_tbl ∧ Cond.arrayClass .long ∈ lw_tbl) := by decide +kernel
theorem q_sysw : (Cond.native arraycopyName ∈ lw_tbl ∧ Cond.static arraycopyName ∈ lw_tbl ∧ Cond.initialized "java/lang/System" ∈ lw_tbl) ∧ (Cond.sameMethod "[I" "java/lang/Object" "clone" "()Ljava/lang/Object;" ∈ lw_tbl ∧ Cond.native ⟨"java/lang/Object", "clone", "()Ljava/lang/Object;"⟩ ∈ lw_tbl ∧ Cond.instanceMethod ⟨"java/lang/Object", "clone", "()Ljava/lang/Object;"⟩ ∈ lw_tbl ∧ Cond.selects "[I" ⟨"[I", "clone", "()Ljava/lang/Object;"⟩ ⟨"java/lang/Object", "clone", "()Ljava/lang/Object;"⟩ ∈ lw_tbl ∧ Cond.castable "[I" "java/lang/Cloneable" ∈ lw_tbl) := by decide +kernel
theorem q_objw : Cond.instanceMethod objectInit ∈ lw_tbl ∧ Cond.code objectInit ⟨#[0xb1]⟩ 1 none ∈ lw_tbl := by decide +kernel
theorem q_mathw : Cond.initialized "java/lang/Math" ∈ lw_tbl ∧ (Cond.static Lib.Math.max.name ∈ lw_tbl ∧ Cond.code Lib.Math.max.name Lib.Math.max.code 2 (some .int) ∈ lw_tbl) ∧ (Cond.static Lib.Math.min.name ∈ lw_tbl ∧ Cond.code Lib.Math.min.name Lib.Math.min.code 2 (some .int) ∈ lw_tbl) ∧ (Cond.static Lib.Math.abs.name ∈ lw_tbl ∧ Cond.code Lib.Math.abs.name Lib.Math.abs.code 1 (some .int) ∈ lw_tbl) := by decide +kernel
section QT
variable {p : Program} {l : Launch} {e : Env} {R : Room} {s : State} {m : MethodId} {args : Array Value} {below : List Frame} {meth : Method} {c : Code} {Q : State → Prop} {G : q_G} {n0 s0 i : Nat}
def q_Wt (p : Program) (l : Launch) (e : Env) (R : Room) (s : State) (m : MethodId) (args : Array Value) (below : List Frame) (meth : Method) (c : Code) (Q : State → Prop) (G : q_G) (n0 s0 i pc : Nat) (ls st : List Value) (h : q_H) : Prop :=
  ∀ (H : Heap) (locs : List Loc) (Ls : Array Slot), q_Rp G h H → (∀ x ∈ locs, gB G ≤ x.base) → lv_has Ls (q_mx i) (q_as G ls) → n0 ≤ h.1 → s0 ≤ h.2.1 → W p l e R s m args below meth c H locs (h.1 - n0) (h.2.1 - s0) Q (F0 m pc Ls (st.map (q_cv G)))
theorem q_lc {locs : List Loc} (hl : ∀ x ∈ locs, gB G ≤ x.base) {a j : Nat} (h6 : 6 ≤ a) : ∀ x ∈ locs ++ [(⟨q_ad G a, j⟩ : Loc)], gB G ≤ x.base := by
  intro x hx
  rcases List.mem_append.mp hx with h | h
  · exact hl x h
  · rw [List.mem_singleton.mp h]
    show gB G ≤ q_ad G a
    rw [q_adE G h6]
    omega
/-- System.arraycopy of ints -/
theorem q_copy (cx : q_Cx G i p s m meth c) {H : Heap} {locs : List Loc} {cells slots pc index : Nat} {Ls : Array Slot} {rest : List Value} (hml : c.maxLocals = Ls.size) (hlink : (Cond.methodLink (q_mn i).cls index arraycopyName).before args s = true) {a b n0 n1 : Nat} {f g : Nat → Int32} (hc0 : H[a]? = some (arrV (gA G 20) n0 (fun j => .int (f j)))) (hc1 : H[b]? = some (arrV (gA G 20) n1 (fun j => .int (g j))))
    {sp dp n : Int32} (h1 : ¬ sp < 0) (h2 : ¬ dp < 0) (h3 : ¬ n < 0) (h4 : sp.toNatClampNeg + n.toNatClampNeg ≤ n0) (h5 : dp.toNatClampNeg + n.toNatClampNeg ≤ n1)
    (hframes : 1 ≤ R.frames) (hlocals : (rest.map fun v => v.category).sum + (nativeFrameWords "java/lang/System" "arraycopy" 5 + 11) ≤ R.locals) (hdg : decode (q_cd i) pc = .ok (.invokestatic index, 3))
    (kk : ∀ (H1 : Heap) (L : List Loc), H1[b]? = some (arrV (gA G 20) n1 (fun j => .int (va_cpy f g sp.toNatClampNeg dp.toNatClampNeg n.toNatClampNeg j))) → H1.size = H.size → (∀ q, q ≠ b → H1[q]? = H[q]?) → (∀ x ∈ L, x.base = b) → W p l e R s m args below meth c H1 (locs ++ L) cells slots Q (F0 m (pc + 3) Ls rest)) : W p l e R s m args below meth c H locs cells slots Q (F0 m pc Ls (.int n :: .int dp :: .ref b :: .int sp :: .ref a :: rest)) := by
  have nn : ∀ z : Int32, ¬ z < 0 → z.toInt = (z.toNatClampNeg : Int) := by
    intro z hz
    have hz0 : (0 : Int) ≤ z.toInt := by
      have := Int32.not_lt.mp hz
      simpa using Int32.le_iff_toInt_le.mp this
    show z.toInt = ((z.toInt.toNat : Nat) : Int)
    omega
  intro T hT X
  have hb := cx.2.1
  have hAr := (cx.2.2.2.2.2.1.2.2.1 20 (by omega) (by omega)).1
  obtain ⟨-, k0, hk0, cm0, hkk0⟩ := hAr n0 (fun j => .int (f j))
  obtain ⟨vm', X', step⟩ := X.arraycopy cx.1 cx.2.2.2.1 hlink (q_wd cx q_sysw.1.1 rfl args) (q_wd cx q_sysw.1.2.1 rfl args) (q_wd cx q_sysw.1.2.2 rfl args) (src := a) (dst := b) (cs := arrV (gA G 20) n0 (fun j => .int (f j))) (cd := arrV (gA G 20) n1 (fun j => .int (g j))) (srcPos := sp) (destPos := dp) (n := n) (by rw [hT]; exact hc0) (by rw [hT]; exact hc1)
    (fun _ h => by cases h) (fun _ h => by cases h) (fun h => by cases h) (fun h => by cases h) hk0 hk0 hkk0 hkk0 (by simp [q_ty, refKind]) h1 h2 h3
    (by rw [nn sp h1, nn n h3, arrV_size]; omega)
    (by rw [nn dp h2, nn n h3, arrV_size]; omega)
    (fun vm₁ _ i hi => by
      have e : (arrV (gA G 20) n0 (fun j => .int (f j))).slots.getD (sp.toNatClampNeg + i) .null = .int (f (sp.toNatClampNeg + i)) := by
        rw [Array.getD_eq_getD_getElem?, arrV_read _ _ (by omega)]
        rfl
      refine ⟨?_, ?_⟩
      · rw [e]
        rfl
      · rw [e]
        exact trivial)
    (g := F0 m pc Ls (.int n :: .int dp :: .ref b :: .int sp :: .ref a :: rest)) rfl (by rw [hml]) (rest := rest) rfl (by rw [hb]; exact hdg) hframes (by show 2 * 0 + _ + _ ≤ _; omega)
  have e1 : copied (arrV (gA G 20) n0 (fun j => .int (f j))) (arrV (gA G 20) n1 (fun j => .int (g j))) sp dp n = arrV (gA G 20) n1 (fun j => .int (va_cpy f g sp.toNatClampNeg dp.toNatClampNeg n.toNatClampNeg j)) := va_copied (fun z => .int z) (gA G 20) (gA G 20) f g h4
  rw [e1] at X' step
  have hl : b < H.size := (Array.getElem?_eq_some_iff.mp hc1).1
  have hheap : ((T.setVm vm').setCell b (arrV (gA G 20) n1 (fun j => .int (va_cpy f g sp.toNatClampNeg dp.toNatClampNeg n.toNatClampNeg j)))).heap = H.setIfInBounds b (arrV (gA G 20) n1 (fun j => .int (va_cpy f g sp.toNatClampNeg dp.toNatClampNeg n.toNatClampNeg j))) := by rw [← hT]; rfl
  obtain ⟨t, a1, b1⟩ := kk _ _ (by simp [Array.getElem?_setIfInBounds, hl]) (by simp) (fun q hq => by simp [Array.getElem?_setIfInBounds, Ne.symm hq]) (fun x hx => by
    obtain ⟨z, -, hz⟩ := List.mem_map.mp hx
    rw [← hz]) _ hheap X'
  exact ⟨t, step t a1, b1⟩
/-- clone of a row of ints -/
theorem q_clone (cx : q_Cx G i p s m meth c) {H : Heap} {locs : List Loc} {cells slots pc index : Nat} {Ls : Array Slot} {rest : List Value} (hml : c.maxLocals = Ls.size) (hlink : (Cond.methodLink (q_mn i).cls index ⟨"[I", "clone", "()Ljava/lang/Object;"⟩).before args s = true) {a n : Nat} {f : Nat → Int32} (hc0 : H[a]? = some (arrV (gA G 20) n (fun j => .int (f j))))
    (hframes : 1 ≤ R.frames) (hlocals : (rest.map fun v => v.category).sum + 14 ≤ R.locals) (hcells : cells + 1 ≤ R.cells) (hslots : slots + n ≤ R.slots) (hdg : decode (q_cd i) pc = .ok (.invokevirtual index, 3))
    (kk : ∀ (H1 : Heap), H1[H.size]? = some (arrV (gA G 20) n (fun j => .int (f j))) → H1.size = H.size + 1 → (∀ q, q < H.size → H1[q]? = H[q]?) → W p l e R s m args below meth c H1 locs (cells + 1) (slots + n) Q (F0 m (pc + 3) Ls (.ref H.size :: rest))) : W p l e R s m args below meth c H locs cells slots Q (F0 m pc Ls (.ref a :: rest)) := by
  have hsz : (arrV (gA G 20) n (fun j => .int (f j))).slots.size = n := arrV_size _ _ _
  have hb := cx.2.1
  have hAr := (cx.2.2.2.2.2.1.2.2.1 20 (by omega) (by omega)).1
  have hnm : s.vm.findClass "[I" = some (gA G 20) := (cx.2.2.2.2.2.1.2.2.1 20 (by omega) (by omega)).2
  obtain ⟨c0, t0', f1, f2, f3⟩ := Cond.castable_spec (va_Nw.use (A := args) rfl cx.2.2.2.2.2.1.2.2.2.2.2.2.2.2.2.2.2.2.2.2.1.2)
  cases hnm.symm.trans f1
  intro T hT X
  have hcellT : T.heap[a]? = some (arrV (gA G 20) n (fun j => .int (f j))) := by rw [hT]; exact hc0
  obtain ⟨-, kA, hkA, comp, hkind⟩ := State.isArrayOf_alike X.warmed.alike (hAr 0 (fun _ => .null))
  obtain ⟨-, kS, hkS, compS, hkindS⟩ := hAr 0 (fun _ => .null)
  obtain ⟨vm', X', st⟩ := X.cloneArray cx.1 cx.2.2.2.1 hlink (q_wd cx q_sysw.2.1 rfl args) (q_wd cx q_sysw.2.2.1 rfl args) (q_wd cx q_sysw.2.2.2.1 rfl args) (q_wd cx q_sysw.2.2.2.2.1 rfl args) (a := a) (cell := arrV (gA G 20) n (fun j => .int (f j))) hcellT (fun k h => by cases h) (fun h => by cases h) hnm f2 f3
    (fun i v hv => by
      have hk' : T.vm.classes[gA G 20]? = some kA := hkA
      have hlt : i < n := by
        have := (Array.getElem?_eq_some_iff.mp hv).1
        rwa [hsz] at this
      rw [arrV_read _ _ hlt] at hv
      cases hv
      show T.fitsSlot (gA G 20) _ i _ = true
      simp [State.fitsSlot, State.slotType?, hk', hkind, arrV, fits, q_ty])
    (g := F0 m pc Ls (.ref a :: rest)) rfl (by rw [hml]) rfl (by rw [hb]; exact hdg) hframes (by show 2 * 0 + _ + 14 ≤ _; omega) hcells (by rw [hsz]; exact hslots) (hloader := Vm.clonesLoader_of_array hkS hkindS)
  rw [hsz] at X'
  obtain ⟨t, b1, b2⟩ := kk (H.push (arrV (gA G 20) n (fun j => .int (f j)))) (by rw [Array.getElem?_push_size]) (by rw [Array.size_push]) (fun q hq => by rw [Array.getElem?_push, if_neg (Nat.ne_of_lt hq)]) _ (by rw [← hT]; rfl) X'
  rw [← hT] at b1
  exact ⟨t, st t b1, b2⟩
end QT
