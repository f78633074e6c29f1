/-! RUNS: what the small machine says of a run is so in the machine -/
theorem q_X_mono (kd : Nat → Nat) : ∀ n d i pc ls st h r h', q_X kd n d i pc ls st h r h' → h.1 ≤ h'.1 ∧ h.2.1 ≤ h'.2.1 := by
  intro n
  induction n with
  | zero => intro d i pc ls st h r h' q; exact q.elim
  | succ n ih =>
    intro d i pc ls st h r h' q
    obtain ⟨ins, len, lk, o, h1, h2, h3⟩ := q
    match o, h3 with
    | .inl (pc2, ls2, st2, h2), h3 =>
      have := ih _ _ _ _ _ _ _ _ h3.2.2
      exact ⟨Nat.le_trans h3.1 this.1, Nat.le_trans h3.2.1 this.2⟩
    | .inr (.inl v), h3 =>
      rw [h3.2]
      exact ⟨Nat.le_refl _, Nat.le_refl _⟩
    | .inr (.inr (y, as, rs)), h3 =>
      obtain ⟨d2, r1, hh1, e, hl, q1, q2⟩ := h3
      have a1 := ih _ _ _ _ _ _ _ _ q1
      have a2 := ih _ _ _ _ _ _ _ _ q2
      exact ⟨Nat.le_trans a1.1 a2.1, Nat.le_trans a1.2 a2.2⟩
def q_arR (i : Nat) : Bool := (q_cs i).all (fun e => match e with
  | some (.areturn, _, _) => (match q_rt i with
    | some t => q_isT t
    | none => false)
  | _ => true)
theorem q_arOK : ∀ i, i < 207 → q_arR i = true := by decide +kernel
theorem q_arT {i pc len : Nat} {lk : q_LK} (hi : i < 207) (he : q_ins i pc = some (.areturn, len, lk)) : ∃ t, q_rt i = some t ∧ q_isT t = true := by
  have h := q_arOK i hi
  unfold q_arR at h
  have h2 := List.all_eq_true.mp h _ (List.mem_of_getElem? (q_at_lt he))
  simp only at h2
  cases hr : q_rt i with
  | none => rw [hr] at h2; cases h2
  | some t => rw [hr] at h2; exact ⟨t, rfl, h2⟩
theorem q_initN : ∀ y, y < 207 → (q_mn y).name = "<init>" → q_rt y = none := by decide +kernel
def q_rtd (i pc : Nat) (r : Option Value) : Prop :=
  (∃ x ty, r = some (.int x) ∧ decode (q_cd i) pc = .ok (.ireturn, 1) ∧ q_rt i = some ty ∧ narrow ty (.int x) = .int x) ∨ (∃ x, r = some (.long x) ∧ decode (q_cd i) pc = .ok (.lreturn, 1) ∧ q_rt i = some .long) ∨
  (∃ v t, r = some v ∧ q_isR v ∧ decode (q_cd i) pc = .ok (.areturn, 1) ∧ q_rt i = some t ∧ q_isT t = true) ∨ (r = none ∧ decode (q_cd i) pc = .ok (.return_, 1) ∧ q_rt i = none)
def q_rm (d mc ms : Nat) : Room := { frames := d + 2, cells := mc, slots := ms, locals := 200 * (d + 2) }
def q_Snd (l : Launch) (G : q_G) (n : Nat) : Prop := ∀ (d i pc : Nat) (ls st : List Value) (h : q_H) (r : Option Value) (h' : q_H), q_X (gKd G) n d i pc ls st h r h' → ∀ (p : Program) (e : Env) (R : Room) (s : State) (m : MethodId) (args : Array Value) (below : List Frame) (meth : Method) (c : Code) (Q : State → Prop) (n0 s0 : Nat), q_Cx G i p s m meth c → d + 2 ≤ R.frames → 200 * (d + 2) ≤ R.locals → h'.1 - n0 ≤ R.cells → h'.2.1 - s0 ≤ R.slots →
  (∀ (pc' : Nat) (H' : Heap) (locs' : List Loc) (Ls' : Array Slot), q_Rp G h' H' → (∀ x ∈ locs', gB G ≤ x.base) → q_rtd i pc' r → W p l e R s m args below meth c H' locs' (h'.1 - n0) (h'.2.1 - s0) Q (F0 m pc' Ls' (r.toList.map (q_cv G)))) → q_Wt p l e R s m args below meth c Q G n0 s0 i pc ls st h
theorem q_mlE {i idx : Nat} {lk : q_LK} (hok : q_okM i idx lk = true) : 0 < lk.2.1 ∧ lk.2.1 < 207 ∧ q_mk lk.2.1 lk.2.2.2.1 = true ∧ (lk.2.2.2.1 = 1 → (q_mn lk.2.1).name = "<init>") ∧ (parseMethodDescriptor (q_mn lk.2.1).desc).map (fun d => d.parameters.length) = some (lk.2.2.1 - (if lk.2.2.2.1 = 2 then 0 else 1)) ∧
    ∃ (nest : Bool) (place : Nat), lw_tbl[place]? = some (if nest then Cond.methodLinkNest (q_mn i).cls idx (q_mn lk.2.1) "SilentHouse" else Cond.methodLink (q_mn i).cls idx (q_mn lk.2.1)) := by
  unfold q_okM at hok
  cases he : q_ml[lk.1]? with
  | none => rw [he] at hok; cases hok
  | some x =>
    rw [he] at hok
    obtain ⟨own, ix, y, kind, nest, place⟩ := x
    simp only [Bool.and_eq_true, decide_eq_true_eq] at hok
    obtain ⟨⟨e1, e2, e3, e4⟩, e5⟩ := hok
    have ha := List.all_eq_true.mp q_ml_ok _ (List.mem_of_getElem? he)
    have hb := List.all_eq_true.mp q_mk_ok _ (List.mem_of_getElem? he)
    simp only [Bool.and_eq_true, decide_eq_true_eq] at ha
    obtain ⟨a1, a2, a3, a4, -⟩ := ha
    subst e1 e2 e3 e4
    exact ⟨a2, a3, hb, a4, e5, nest, place, a1⟩
theorem q_mkE {y k : Nat} (h : q_mk y k = true) : lw_tbl[(q_mP y).2.1]? = some (.initialized (q_mn y).cls) ∧ lw_tbl[(q_mP y).2.2.1]? = some (if k = 2 then .static (q_mn y) else .instanceMethod (q_mn y)) ∧ (k = 0 → lw_tbl[(q_mP y).2.2.2]? = some (.selects (q_mn y).cls (q_mn y) (q_mn y))) ∧ q_mx y ≤ 40 ∧ plainName (q_mn y).cls = true ∧ ((q_mn y).cls ≠ "java/lang/invoke/MethodHandle" ∧ (q_mn y).cls ≠ "java/lang/invoke/VarHandle") := by
  unfold q_mk at h
  simp only [Bool.and_eq_true, decide_eq_true_eq] at h
  exact h
theorem q_room {z : Nat} (h : z ≤ 40) (d : Nat) : 8 + (z + 11) + 200 * (d + 2) ≤ 200 * (d + 1 + 2) := by omega
section QX
variable {p : Program} {l : Launch} {e : Env} {R : Room} {s : State} {m : MethodId} {args : Array Value} {below : List Frame} {meth : Method} {c : Code} {Q : State → Prop} {G : q_G}
theorem q_go {H : Heap} {locs : List Loc} {cells slots mc ms : Nat} {g : JFrame} {rest : List Value} {h1 : q_H} {r1 : Option Value} (hr : va_Run p l e R s m args below meth c H locs cells slots mc ms g rest (fun _ o t => o = .returned (r1.map (q_cv G)) ∧ q_Rp G h1 t.heap) (fun q => gB G ≤ q)) (hl : ∀ x ∈ locs, gB G ≤ x.base)
    (kk : ∀ (H1 : Heap) (locs1 : List Loc), q_Rp G h1 H1 → (∀ x ∈ locs1, gB G ≤ x.base) → W p l e R s m args below meth c H1 locs1 (cells + mc) (slots + ms) Q { g with pc := g.pc + 3, stack := (r1.map (q_cv G)).toList ++ rest }) : W p l e R s m args below meth c H locs cells slots Q g := by
  intro T hT X
  obtain ⟨v, st₀, t, T', L, h0, X', hL, e1, e2, ⟨hv, hR⟩, st⟩ := hr T hT X
  cases hv
  obtain ⟨t2, a1, b1⟩ := kk T'.heap (locs ++ L) (by rw [e1]; exact hR) (fun x hx => by
    rcases List.mem_append.mp hx with h | h
    · exact hl x h
    · exact hL x h) T' rfl X'
  exact ⟨t2, st t2 a1, b1⟩
theorem q_blind (G : q_G) (av : List Value) (h : q_H) : FrameBlind (fun a U => a = (av.map (q_cv G)).toArray ∧ q_Rp G h U.heap ∧ q_Sx G U) := by
  intro a U g mk q
  exact ⟨q.1, q.2.1, q_Sx.warm (s := U) (U := U.calling g mk a) (State.WarmedH.refl U) q.2.2⟩
theorem q_met {n : Nat} (ih : q_Snd l G n) {d2 y : Nat} {as : List Value} {h h1 : q_H} {r1 : Option Value} {k : Nat} (hy : y < 207) (hk : q_mk y k = true) (hn : (q_fl2 as).length ≤ q_mx y) (hX : q_X (gKd G) n d2 y 0 (q_ent as (q_mx y)) [] h r1 h1) :
    Met l (q_mn y) [.code (q_mn y) (q_cd y) (q_mx y) (q_rt y)] (q_rm d2 (h1.1 - h.1) (h1.2.1 - h.2.1)) (fun a U => a = (as.map (q_cv G)).toArray ∧ q_Rp G h U.heap ∧ q_Sx G U) (fun _ _ o t => o = .returned (r1.map (q_cv G)) ∧ q_Rp G h1 t.heap) (h1.1 - h.1) (h1.2.1 - h.2.1) (fun q => gB G ≤ q) := by
  refine Met.ofW (cc := q_cd y) (maxL := q_mx y) (ret := q_rt y) (q_mkE hk).2.2.2.2.1 rfl ?_
  intro p e s m args below meth c s₁ B hml hv
  obtain ⟨rfl, hR, hSx⟩ := hv
  have cx : q_Cx G y p s m meth c := ⟨B.exec, B.bytes, hml, findClass_of_methodNamed B.named, fun _ => (name_of_methodNamed B.named B.method).1, hSx, hy⟩
  have hret : meth.sig.returnType = q_rt y := B.returns
  have hlocks := B.notSynchronized
  have hF : q_isR (gF G) := hSx.2.2.2.2.2.2.2.2.2.2.2.2.2.2.2.1
  rw [lg_entry_eq]
  have K := ih d2 y 0 _ [] h r1 h1 hX p e (q_rm d2 (h1.1 - h.1) (h1.2.1 - h.2.1)) s m (as.map (q_cv G)).toArray below meth c (MQ below (fun _ _ o t => o = .returned (r1.map (q_cv G)) ∧ q_Rp G h1 t.heap) (as.map (q_cv G)).toArray s (h1.1 - h.1) (h1.2.1 - h.2.1) (fun q => gB G ≤ q)) h.1 h.2.1 cx (Nat.le_refl _) (Nat.le_refl _) (Nat.le_refl _) (Nat.le_refl _) (by
    intro pc' H' locs' Ls' hR' hl' hrt
    rcases hrt with ⟨x, ty, rfl, hd, ht, hnr⟩ | ⟨x, rfl, hd, ht⟩ | ⟨v, t, rfl, hv, hd, ht, hT⟩ | ⟨rfl, hd, ht⟩
    · exact W.zret B.exec B.bytes (hret.trans ht) hnr (fun t ht hW => ⟨rfl, by rw [ht]; exact hR'⟩) hl' hd
    · exact W.lret B.exec B.bytes (hret.trans ht) (fun t ht hW => ⟨rfl, by rw [ht]; exact hR'⟩) hl' hd
    · refine W.aret B.exec B.bytes (hret.trans ht) ?_ ?_ (fun t ht hW => ⟨rfl, by rw [ht]; exact hR'⟩) hl' hd
      · cases t <;> first | (exact Bool.noConfusion hT; done) | (simp [q_isT] at hT; done) | exact Or.inl ⟨_, rfl⟩ | exact Or.inr ⟨_, rfl⟩
      · rcases hv with rfl | ⟨a, rfl⟩
        · exact Or.inl rfl
        · exact Or.inr ⟨_, rfl⟩
    · exact W.vret B.exec B.bytes (hret.trans ht) (fun t ht hW => ⟨rfl, by rw [ht]; exact hR'⟩) hl' hd) s.heap [] _ hR (fun x hx => by cases hx) (q_ent_has hF hn) (Nat.le_refl _) (Nat.le_refl _)
  rw [Nat.sub_self, Nat.sub_self] at K
  exact K
/-- what every call row asks of the callee -/
theorem q_cB {i : Nat} (cx : q_Cx G i p s m meth c) {d2 mc ms y k n : Nat} (hy0 : 0 < y) (hy : y < 207) (hk : q_mk y k = true) (hfr : d2 + 1 + 2 ≤ R.frames) (hlo : 200 * (d2 + 1 + 2) ≤ R.locals) (hpar : (parseMethodDescriptor (q_mn y).desc).map (fun d => d.parameters.length) = some n) :
    ((q_rm d2 mc ms).cells = mc ∧ (q_rm d2 mc ms).slots = ms ∧ (q_rm d2 mc ms).frames + 1 ≤ R.frames ∧ 8 + (q_mx y + 11) + (q_rm d2 mc ms).locals ≤ R.locals ∧ (∀ w ∈ [Cond.code (q_mn y) (q_cd y) (q_mx y) (q_rt y)], ∀ (a' : Array Value) (U : State), s.WarmedH U.vm → w.before a' U = true) ∧ Cond.code (q_mn y) (q_cd y) (q_mx y) (q_rt y) ∈ [Cond.code (q_mn y) (q_cd y) (q_mx y) (q_rt y)]) ∧
    (Cond.code (q_mn y) (q_cd y) (q_mx y) (q_rt y)).before args s = true ∧ (Cond.initialized (q_mn y).cls).before args s = true ∧ ((q_mn y).cls ≠ "java/lang/invoke/MethodHandle" ∧ (q_mn y).cls ≠ "java/lang/invoke/VarHandle") ∧ (∀ sig, parseMethodDescriptor (q_mn y).desc = some sig → n = sig.parameters.length) := by
  obtain ⟨k1, k2, k3, k4, k5, k6⟩ := q_mkE hk
  have hcw := q_cwA y hy hy0
  refine ⟨⟨rfl, rfl, ?_, ?_, ?_, List.mem_singleton.mpr rfl⟩, q_wp cx hcw rfl args, q_wp cx k1 rfl args, k6, ?_⟩
  · show d2 + 2 + 1 ≤ R.frames; omega
  · show 8 + (q_mx y + 11) + 200 * (d2 + 2) ≤ R.locals
    exact Nat.le_trans (q_room k4 d2) hlo
  · intro w hw a' U hW
    rw [List.mem_singleton.mp hw]
    exact q_wb rfl hW (q_wp cx hcw rfl args)
  · intro sig hs
    rw [hs] at hpar
    exact (Option.some.inj hpar).symm
end QX
set_option maxHeartbeats 4000000 in
theorem q_sound (l : Launch) (G : q_G) : ∀ n, q_Snd l G n := by
  intro n
  induction n with
  | zero => intro d i pc ls st h r h' q; exact q.elim
  | succ n ih =>
    intro d i pc ls st h r h' q p e R s m args below meth c Q n0 s0 cx hfr hlo hrc hrs fin
    obtain ⟨ins, len, lk, o, hins, hsr, hrest⟩ := q
    obtain ⟨hd, hok⟩ := q_all i cx.2.2.2.2.2.2 pc ins len lk hins
    have hSx := cx.2.2.2.2.2.1
    have hF : q_isR (gF G) := hSx.2.2.2.2.2.2.2.2.2.2.2.2.2.2.2.1
    match o, hsr, hrest with
    | .inl (pc2, ls2, st2, h2), hsr, hrest =>
      obtain ⟨m1, m2, hX⟩ := hrest
      have mo := q_X_mono _ _ _ _ _ _ _ _ _ _ hX
      exact q_one cx hd hok hsr ⟨by omega, by omega⟩ (by omega) (by omega) (ih d i pc2 ls2 st2 h2 r h' hX p e R s m args below meth c Q n0 s0 cx hfr hlo hrc hrs fin)
    | .inr (.inl v), hsr, hrest =>
      obtain ⟨rfl, rfl⟩ := hrest
      intro H locs Ls hR hl hL g1 g2
      cases ins
      case ireturn =>
        obtain ⟨rfl, x, rfl, ⟨ty, t1, t2⟩, ho⟩ := hsr
        cases ho
        exact fin pc H locs Ls hR hl (Or.inl ⟨x, ty, rfl, hd, t1, t2⟩)
      case lreturn =>
        obtain ⟨rfl, x, rfl, t1, ho⟩ := hsr
        cases ho
        exact fin pc H locs Ls hR hl (Or.inr (Or.inl ⟨x, rfl, hd, t1⟩))
      case areturn =>
        obtain ⟨t, t1, t2⟩ := q_arT cx.2.2.2.2.2.2 hins
        obtain ⟨rfl, x, rfl, hx, ho⟩ := hsr
        cases ho
        exact fin pc H locs Ls hR hl (Or.inr (Or.inr (Or.inl ⟨x, t, rfl, hx, hd, t1, t2⟩)))
      case return_ =>
        obtain ⟨rfl, rfl, t1, ho⟩ := hsr
        cases ho
        exact fin pc H locs Ls hR hl (Or.inr (Or.inr (Or.inr ⟨rfl, hd, t1⟩)))
      all_goals first | exact False.elim hsr | (simp [q_sr] at hsr; done)
    | .inr (.inr (y, as, rs)), hsr, hrest =>
      obtain ⟨d2, r1, h1, rfl, hnl, hX1, hX2⟩ := hrest
      have mo1 := q_X_mono _ _ _ _ _ _ _ _ _ _ hX1
      have mo2 := q_X_mono _ _ _ _ _ _ _ _ _ _ hX2
      have k2 := ih (d2 + 1) i (pc + 3) ls (r1.toList ++ rs) h1 r h' hX2 p e R s m args below meth c Q n0 s0 cx hfr hlo hrc hrs fin
      intro H locs Ls hR hl hL g1 g2
      have hml : c.maxLocals = q_mx i := cx.2.2.1
      have hcells : h.1 - n0 + (h1.1 - h.1) ≤ R.cells ∧ h.2.1 - s0 + (h1.2.1 - h.2.1) ≤ R.slots := ⟨by omega, by omega⟩
      have kk : ∀ (H1 : Heap) (locs1 : List Loc), q_Rp G h1 H1 → (∀ x ∈ locs1, gB G ≤ x.base) → W p l e R s m args below meth c H1 locs1 (h.1 - n0 + (h1.1 - h.1)) (h.2.1 - s0 + (h1.2.1 - h.2.1)) Q (F0 m (pc + 3) Ls ((r1.map (q_cv G)).toList ++ rs.map (q_cv G))) := by
        intro H1 locs1 hR1 hl1
        have := k2 H1 locs1 Ls hR1 hl1 hL (by omega) (by omega)
        rw [show h.1 - n0 + (h1.1 - h.1) = h1.1 - n0 by omega, show h.2.1 - s0 + (h1.2.1 - h.2.1) = h1.2.1 - s0 by omega]
        have e : (r1.map (q_cv G)).toList ++ rs.map (q_cv G) = (r1.toList ++ rs).map (q_cv G) := by cases r1 <;> simp
        rw [e]
        exact this
      have hpre : ∀ U : State, U.heap = H → s.WarmedH U.vm → (fun a U => a = (as.map (q_cv G)).toArray ∧ q_Rp G h U.heap ∧ q_Sx G U) (as.map (q_cv G)).toArray U := fun U hU hW => ⟨rfl, by rw [hU]; exact hR, hSx.warm hW⟩
      have S : CallFix p m c (q_cd i) (q_mx i) s args [] (q_mn i).cls := ⟨cx.1, cx.2.1, hml, cx.2.2.2.1, fun w h => by cases h⟩
      have hw8 : q_W8 rs → 2 * (F0 m pc Ls (st.map (q_cv G))).monitorRoom + ((rs.map (q_cv G)).map fun v => v.category).sum ≤ 8 := fun h => by rw [q_cats hF]; show 2 * 0 + _ ≤ 8; unfold q_W8 at h; omega
      cases ins
      case invokevirtual idx =>
        obtain ⟨rfl, ⟨-, a, r0, -, -, -, -, -, -, -, ho⟩ | ⟨h0, a, as', rs', hst, hlen, h8, ha, hkd, h46, ho⟩⟩ := hsr
        · cases ho
        · cases ho
          simp only [q_okI, h0, Bool.and_eq_true, decide_eq_true_eq] at hok
          rw [if_neg (by omega)] at hok
          simp only [Bool.and_eq_true, decide_eq_true_eq] at hok
          obtain ⟨hokM, hcls⟩ := hok
          obtain ⟨y0, y7, hmk, -, hpar, nest, place, hw⟩ := q_mlE hokM
          rw [h0] at hmk hpar
          have hM := q_met (l := l) ih y7 hmk hnl hX1
          obtain ⟨b1, b2, b3, b4, b5⟩ := q_cB (R := R) (args := args) (mc := h1.1 - h.1) (ms := h1.2.1 - h.2.1) cx y0 y7 hmk hfr hlo hpar
          have hrecv : ∃ cellB : Cell, H[q_ad G a]? = some cellB ∧ cellB.vm.isStatics = false ∧ s.vm.findClass (q_mn lk.2.1).cls = some cellB.cls := by
            rcases hcls with ⟨c1, c2⟩ | ⟨c1, c1', c2⟩
            · have e4 : a = 4 := by
                rcases h46 with e4 | e4
                · exact e4
                · have := hR.2.2.2.1 a e4 ha
                  rcases this with ⟨g, -⟩ | ⟨g, g', -⟩ <;> omega
              subst e4
              obtain ⟨cell, v1, v2, v3, v4⟩ := hSx.2.2.2.2.2.1
              exact ⟨cell, by show H[gEx G 4]? = _; rw [hR.2.2.1 _ (Nat.not_le.mp v4)]; exact v1, v2, by rw [c2]; exact v3⟩
            · have e4 : 6 ≤ a := by
                rcases h46 with e4 | e4
                · subst e4
                  have := hSx.2.2.2.2.2.2.2.2.2.2.2.2.2.2.2.2.2.2.2.2.1
                  omega
                · exact e4
              have hk11 : gKd G a < 11 := by omega
              obtain ⟨cellV, v1, v2, v3, -⟩ := q_obj hR e4 ha hk11
              have hcl := (hSx.2.1.1 _ _ (q_cl hk11)).2.1
              refine ⟨cellV, v1, by rw [v3]; rfl, ?_⟩
              rw [c2, v2, show lk.2.2.2.2.toNat = gKd G a by omega]
              exact hcl
          have hp : PreV s H (q_mn lk.2.1).cls (q_ad G a) (fun b U => b = ((.ref a :: as').map (q_cv G)).toArray ∧ q_Rp G h U.heap ∧ q_Sx G U) (as'.map (q_cv G)) := ⟨q_blind G _ h, hrecv, hpre⟩
          have hstk : (F0 m pc Ls (st.map (q_cv G))).stack = (as'.map (q_cv G)).reverse ++ .ref (q_ad G a) :: rs.map (q_cv G) := by
            show st.map (q_cv G) = _
            rw [hst]
            simp [q_cv]
          have hal : (as'.map (q_cv G)).length = lk.2.2.1 - 1 := by rw [List.length_map]; omega
          cases nest with
          | false => exact q_go (va_runV S hM ⟨⟨b1.1, b1.2.1, b1.2.2.1, b1.2.2.2.1, b1.2.2.2.2.1, b1.2.2.2.2.2, b2, b3, b4, b5, q_wp cx hw rfl args⟩, q_wp cx (q_mkE hmk).2.1 rfl args, q_wp cx ((q_mkE hmk).2.2.1 rfl) rfl args⟩ hp rfl hal hL.1 hstk (hw8 h8) hd hcells) hl kk
          | true => exact q_go (va_runVN S hM ⟨⟨b1, b2, b3, b4, b5, q_wp cx hw rfl args⟩, q_wp cx (q_mkE hmk).2.1 rfl args, q_wp cx ((q_mkE hmk).2.2.1 rfl) rfl args⟩ hp rfl hal hL.1 hstk (hw8 h8) hd hcells) hl kk
      case invokespecial idx =>
        obtain ⟨rfl, ⟨-, a, r0, -, -, ho⟩ | ⟨h0, a, as', rs', hst, hlen, h8, ho⟩⟩ := hsr
        · cases ho
        · cases ho
          simp only [q_okI, h0] at hok
          rw [if_neg (by omega)] at hok
          obtain ⟨y0, y7, hmk, hinit, hpar, nest, place, hw⟩ := q_mlE hok
          rw [h0] at hmk hpar
          have hM := q_met (l := l) ih y7 hmk hnl hX1
          obtain ⟨b1, b2, b3, b4, b5⟩ := q_cB (R := R) (args := args) (mc := h1.1 - h.1) (ms := h1.2.1 - h.2.1) cx y0 y7 hmk hfr hlo hpar
          have hq : q_rt lk.2.1 = none := q_initN _ y7 (hinit h0)
          rw [hq] at hM b1 b2
          have hp : PreS s H (fun b U => b = ((.ref a :: as').map (q_cv G)).toArray ∧ q_Rp G h U.heap ∧ q_Sx G U) (.ref (q_ad G a) :: as'.map (q_cv G)) := ⟨q_blind G _ h, hpre⟩
          have hstk : (F0 m pc Ls (st.map (q_cv G))).stack = (as'.map (q_cv G)).reverse ++ .ref (q_ad G a) :: rs.map (q_cv G) := by
            show st.map (q_cv G) = _
            rw [hst]
            simp [q_cv]
          have hal : (as'.map (q_cv G)).length = lk.2.2.1 - 1 := by rw [List.length_map]; omega
          cases nest with
          | false => exact q_go (va_runI S hM ⟨⟨b1.1, b1.2.1, b1.2.2.1, b1.2.2.2.1, b1.2.2.2.2.1, b1.2.2.2.2.2, b2, b3, b4, b5, q_wp cx hw rfl args⟩, hinit h0, q_wp cx (q_mkE hmk).2.1 rfl args⟩ hp rfl hal hL.1 hstk (hw8 h8) hd hcells) hl kk
          | true => exact q_go (va_runIN S hM ⟨⟨b1, b2, b3, b4, b5, q_wp cx hw rfl args⟩, hinit h0, q_wp cx (q_mkE hmk).2.1 rfl args⟩ hp rfl hal hL.1 hstk (hw8 h8) hd hcells) hl kk
      case invokestatic idx =>
        obtain ⟨rfl, hcs⟩ := hsr
        rcases hcs with ⟨-, a, b, sp, dp, n, r0, -, -, -, -, -, -, -, -, -, -, -, -, -, ho⟩ | ⟨-, x, z, r0, -, -, ho⟩ | ⟨-, x, z, r0, -, -, ho⟩ | ⟨-, x, r0, -, -, ho⟩ | ⟨h0, as', rs', hst, hlen, h8, ho⟩
        · cases ho
        · cases ho
        · cases ho
        · cases ho
        · cases ho
          simp only [q_okI, h0] at hok
          rw [if_neg (by omega), if_neg (by omega), if_neg (by omega), if_neg (by omega), if_neg (by omega)] at hok
          obtain ⟨y0, y7, hmk, -, hpar, nest, place, hw⟩ := q_mlE hok
          rw [h0] at hmk hpar
          have hM := q_met (l := l) ih y7 hmk hnl hX1
          obtain ⟨b1, b2, b3, b4, b5⟩ := q_cB (R := R) (args := args) (mc := h1.1 - h.1) (ms := h1.2.1 - h.2.1) cx y0 y7 hmk hfr hlo hpar
          have hp : PreS s H (fun b U => b = (as.map (q_cv G)).toArray ∧ q_Rp G h U.heap ∧ q_Sx G U) (as.map (q_cv G)) := ⟨q_blind G _ h, hpre⟩
          have hstk : (F0 m pc Ls (st.map (q_cv G))).stack = (as.map (q_cv G)).reverse ++ rs.map (q_cv G) := by
            show st.map (q_cv G) = _
            rw [hst]
            simp
          have hal : (as.map (q_cv G)).length = lk.2.2.1 - 0 := by rw [List.length_map]; omega
          cases nest with
          | false => exact q_go (va_runS S hM ⟨⟨b1.1, b1.2.1, b1.2.2.1, b1.2.2.2.1, b1.2.2.2.2.1, b1.2.2.2.2.2, b2, b3, b4, b5, q_wp cx hw rfl args⟩, q_wp cx (q_mkE hmk).2.1 rfl args⟩ hp rfl hal hL.1 hstk (hw8 h8) hd hcells) hl kk
          | true => exact q_go (va_runSN S hM ⟨⟨b1, b2, b3, b4, b5, q_wp cx hw rfl args⟩, q_wp cx (q_mkE hmk).2.1 rfl args, trivial⟩ hp rfl hal hL.1 hstk (hw8 h8) hd hcells) hl kk
      all_goals first | exact False.elim hsr | (simp [q_sr] at hsr; done)
