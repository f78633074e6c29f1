/-! THE CLAIM OUT OF ONE WALK OF THE LAW'S BODY. Your part is whole_start (and what it stands on); all else here is the same for every law, but numbers. -/
def R_law : String := "SilentHouseLaw"
def lw_P (b : Addr) (xs : List Int32) (args : Array Value) (s : State) : Prop := args = #[.ref b] ∧ s.IntsAt b xs ∧ xs.length ≤ 3072 ∧ (Jvm.Cond.and given_1 narrow_1).before args s = true
def lw_Q (_ : Array Value) (s : State) (o : Outcome) (t : State) : Prop := o = .returned (some (.int 1)) ∧ Framed s o t [] 738922 6885481
def lw_Z (below : List Frame) (a : Array Value) (s : State) : State → Prop := fun t => ∃ o, t.status = .running ∧ Ended t below o ∧ lw_Q a s o t
/-- the law's own end, with 1 on the stack, nothing written that was there before, its room as the claim has it -/
theorem lw_ret {p : Program} {l : Launch} {e : Env} {s : State} {m : MethodId} {below : List Frame} {meth : Method} {c : Code} {b : Nat} (hx : p.tables.exec = Jvm.exec) (hb : c.code = code) (hr : meth.sig.returnType = ret) (hlocks : meth.locks = false) {pc : Nat} {H : Heap} {ls : Array Slot} (hdg : decode code pc = .ok (.ireturn, 1)) : W p l e room_1 s m #[Value.ref b] below meth c H [] 738922 6885481 (lw_Z below #[Value.ref b] s) (F0 m pc ls [.int 1]) := by
  intro T hT X
  obtain ⟨fs, hret, hrun, hended, hW, hframe⟩ := X.leave (v := some (.int 1)) (hlocks := hlocks) (fun h => by rw [hr] at h; cases h)
  have hmeth' : T.vm.method? m = some meth := X.method'
  refine ⟨T.setFrames fs, ?_, .returned (some (.int 1)), hrun, hended, rfl, ⟨_, rfl⟩, hW, hframe⟩
  jvm_step X.here [X.here.top, hx, hb, hdg, hmeth', hr, ret, narrow_b1]
  (try refine ⟨rfl, ?_⟩); (try refine ⟨rfl, ?_⟩)
  first | (intro acts; rw [hret _ acts rfl rfl rfl]) | rw [hret _ _ rfl rfl rfl]
  exact Steps.refl _
/-- what holds at the law's entry: the machine, the code, the tables' words (any of lw_tbl by 'hts w (by decide +kernel)'), the script of L ints xs at the cell b, what the Statement gives of the start (any of its parts by flat_of_before) -/
def lw_At (p : Program) (s : State) (m : MethodId) (meth : Method) (c : Code) (b L : Nat) (xs : Nat → Int32) : Prop :=
  p.tables.exec = Jvm.exec ∧ c.code = code ∧ meth.sig.returnType = ret ∧ c.maxLocals = 4 ∧ s.vm.findClass R_law = some m.cls ∧ (∀ w ∈ lw_tbl, w.before #[Value.ref b] s = true) ∧ va_X b L xs s s.heap ∧ b < s.heap.size ∧ meth.locks = false ∧ (Jvm.Cond.and given_1 narrow_1).before #[Value.ref b] s = true

def q_near : List Int32 := [0x0012, 0x0025, 0x004A, 0x0084, 0x0121, 0x0252, 0x04A4, 0x0848, 0x1210, 0x2520, 0x4A40, 0x8480, 0x2100, 0x5200, 0xA400, 0x4800]
def q_ord : List Int32 := [1, 1, 2, 6, 24, 120, 720]
def q_nol : List Int32 := [0x007F, 0x0398, 0x3C07]
def q_byt : List Int32 := [119, 105, 116, 32, 115, 104, 97, 109, 101, 32, 114, 111, 119, 32, 115, 111, 114, 116, 32, 112, 111, 119, 101, 114, 32, 110, 101, 97, 114, 32, 97, 108, 108, 32, 108, 97, 117, 103, 104, 105, 110, 103, 32, 114, 111, 117, 110, 100, 115, 32, 99, 111, 117, 103, 104, 115, 32, 98, 105, 108, 108, 32, 112, 101, 111, 112, 108, 101, 32, 111, 102, 116, 101, 110, 32, 99, 111, 117, 103, 104, 101, 100, 32, 108, 97, 117, 103, 104, 115, 32, 108, 111, 117, 100, 32, 100, 117, 101, 115, 32, 115, 101, 97, 116, 32, 111, 117, 116, 32, 104, 105, 114, 101, 32, 110, 105, 103, 104, 116, 32, 97, 116, 32, 111, 114, 32, 97, 110, 100, 32, 110, 111, 116, 32]
def q_xl (L k : Nat) : Nat := match k with
  | 0 => L
  | 1 => 16
  | 2 => 7
  | 3 => 3
  | 5 => 134
  | _ => 0
def q_xi (xs : Nat → Int32) (k : Nat) : Nat → Int32 := match k with
  | 0 => xs
  | 1 => fun j => q_near.getD j 0
  | 2 => fun j => q_ord.getD j 0
  | 3 => fun j => q_nol.getD j 0
  | 5 => fun j => q_byt.getD j 0
  | _ => fun _ => 0
def q_h0 (L : Nat) (xs : Nat → Int32) : q_H := (6, 0, q_xl L, q_xi xs, fun _ _ => 0, fun _ _ => none)
abbrev q_pre : Cond := Jvm.Cond.and given_1 narrow_1
theorem q_el1 : ∀ j, j < 16 → Cond.eq (.elem (.static "SilentHouse" "NEAR_SEATS" "[I") (.int (Int32.ofNat j))) (.int (q_near.getD j 0)) ∈ flatC q_pre := by decide +kernel
theorem q_el2 : ∀ j, j < 7 → Cond.eq (.elem (.static "SilentHouse" "ORDERS" "[I") (.int (Int32.ofNat j))) (.int (q_ord.getD j 0)) ∈ flatC q_pre := by decide +kernel
theorem q_el3 : ∀ j, j < 3 → Cond.eq (.elem (.static "SilentHouse" "NAMES_OF_LAW" "[I") (.int (Int32.ofNat j))) (.int (q_nol.getD j 0)) ∈ flatC q_pre := by decide +kernel
theorem q_el5_0 : ∀ j, j < 30 → (flatC q_pre)[48 + (0 + j)]? = some (Cond.eq (.elem (.field (.string "SilentHouse$Tokens" 62) "java/lang/String" "value" "[B") (.int (Int32.ofNat (0 + j)))) (.int (q_byt.getD (0 + j) 0))) := by decide +kernel
theorem q_el5_30 : ∀ j, j < 30 → (flatC q_pre)[48 + (30 + j)]? = some (Cond.eq (.elem (.field (.string "SilentHouse$Tokens" 62) "java/lang/String" "value" "[B") (.int (Int32.ofNat (30 + j)))) (.int (q_byt.getD (30 + j) 0))) := by decide +kernel
theorem q_el5_60 : ∀ j, j < 30 → (flatC q_pre)[48 + (60 + j)]? = some (Cond.eq (.elem (.field (.string "SilentHouse$Tokens" 62) "java/lang/String" "value" "[B") (.int (Int32.ofNat (60 + j)))) (.int (q_byt.getD (60 + j) 0))) := by decide +kernel
theorem q_el5_90 : ∀ j, j < 44 → (flatC q_pre)[48 + (90 + j)]? = some (Cond.eq (.elem (.field (.string "SilentHouse$Tokens" 62) "java/lang/String" "value" "[B") (.int (Int32.ofNat (90 + j)))) (.int (q_byt.getD (90 + j) 0))) := by decide +kernel
theorem q_el5 (j : Nat) (hj : j < 134) : Cond.eq (.elem (.field (.string "SilentHouse$Tokens" 62) "java/lang/String" "value" "[B") (.int (Int32.ofNat j))) (.int (q_byt.getD j 0)) ∈ flatC q_pre := by
  rcases Nat.lt_or_ge j 30 with h | h
  · have := q_el5_0 j h
    rw [Nat.zero_add] at this
    exact List.mem_of_getElem? this
  rcases Nat.lt_or_ge j 60 with h2 | h2
  · have := q_el5_30 (j - 30) (by omega)
    rw [show 30 + (j - 30) = j by omega] at this
    exact List.mem_of_getElem? this
  rcases Nat.lt_or_ge j 90 with h3 | h3
  · have := q_el5_60 (j - 60) (by omega)
    rw [show 60 + (j - 60) = j by omega] at this
    exact List.mem_of_getElem? this
  · have := q_el5_90 (j - 90) (by omega)
    rw [show 90 + (j - 90) = j by omega] at this
    exact List.mem_of_getElem? this
theorem q_swk : Cond.stringRef "SilentHouse$Tokens" 62 q_tx ∈ lw_tbl ∧ Cond.arrayOver (.object "SilentHouse$Script") ∈ lw_tbl ∧ Cond.castable "[I" "java/lang/Cloneable" ∈ lw_tbl ∧ Cond.laysStatic "SilentHouse" "NEAR_SEATS" "[I" ∈ lw_tbl ∧ Cond.laysStatic "SilentHouse" "ORDERS" "[I" ∈ lw_tbl ∧ Cond.laysStatic "SilentHouse" "NAMES_OF_LAW" "[I" ∈ lw_tbl ∧ Cond.laysStatic "java/lang/String" "COMPACT_STRINGS" "Z" ∈ lw_tbl ∧ Cond.laysStatic "jdk/internal/util/Preconditions" "SIOOBE_FORMATTER" "Ljava/util/function/BiFunction;" ∈ lw_tbl ∧ Cond.initialized "SilentHouse" ∈ lw_tbl ∧ Cond.initialized "java/lang/String" ∈ lw_tbl ∧ Cond.initialized "jdk/internal/util/Preconditions" ∈ lw_tbl := by decide +kernel
theorem q_arrT {s : State} {args : Array Value} {ty : FieldType} (h : (Cond.arrayClass ty).before args s = true) : ∃ cA, ArrOfT s cA ty ∧ s.vm.findClass ("[" ++ ty.toString) = some cA := by
  obtain ⟨c, k, comp, h1, h2, h3⟩ := Cond.arrayClass_spec h
  exact ⟨c, fun n z => ⟨fun k h => (by cases h), k, h2, comp, h3⟩, h1⟩
set_option maxHeartbeats 4000000 in
theorem q_glue {p : Program} {e : Env} {s : State} {m : MethodId} {below : List Frame} {meth : Method} {c : Code} (l : Launch) {b L : Nat} {xs : Nat → Int32} (C0 : lw_At p s m meth c b L xs) (kd : Nat → Nat) (hkd : kd 0 = 20 ∧ kd 1 = 20 ∧ kd 2 = 20 ∧ kd 3 = 20 ∧ kd 4 = 30 ∧ kd 5 = 21) (D : Nat) (hD : D ≤ 400)
    (hmain : q_EX kd D 0 0 (q_ent [.ref 0] 4) [] (q_h0 L xs) (fun r h' => r = some (.int 1) ∧ h'.1 ≤ 738000 ∧ h'.2.1 ≤ 6885000)) : W p l e room_1 s m #[Value.ref b] below meth c s.heap [] 0 0 (lw_Z below #[Value.ref b] s) (entryFrame m ([Value.ref b] : List Value).toArray 4) := by
  obtain ⟨hx, hb, hr, hml, hown, hts, hX, hbl, hlocks, hgv⟩ := C0
  have hs := flat_of_before _ hgv
  have hA : ∀ a : Nat, a < s.heap.size → ¬ (fun q : Nat => s.heap.size ≤ q) a := fun a h => Nat.not_le.mpr h
  obtain ⟨w1, w2, w3, w4, w5, w6, w7, w8, w9, w10, w11⟩ := q_swk
  obtain ⟨t1, ht1, hT1⟩ := va_Tof (N := 16) (f := fun j => .int (q_near.getD j 0)) (A := fun q => s.heap.size ≤ q) (by decide) (hs (Cond.arrayOf (.static "SilentHouse" "NEAR_SEATS" "[I") .int) (by decide +kernel)) (va_eqt (hs (Cond.eq (.length (.static "SilentHouse" "NEAR_SEATS" "[I")) (.int 16)) (by decide +kernel))) (fun j hj => va_eqt (hs _ (q_el1 j hj))) hA
  obtain ⟨t2, ht2, hT2⟩ := va_Tof (N := 7) (f := fun j => .int (q_ord.getD j 0)) (A := fun q => s.heap.size ≤ q) (by decide) (hs (Cond.arrayOf (.static "SilentHouse" "ORDERS" "[I") .int) (by decide +kernel)) (va_eqt (hs (Cond.eq (.length (.static "SilentHouse" "ORDERS" "[I")) (.int 7)) (by decide +kernel))) (fun j hj => va_eqt (hs _ (q_el2 j hj))) hA
  obtain ⟨t3, ht3, hT3⟩ := va_Tof (N := 3) (f := fun j => .int (q_nol.getD j 0)) (A := fun q => s.heap.size ≤ q) (by decide) (hs (Cond.arrayOf (.static "SilentHouse" "NAMES_OF_LAW" "[I") .int) (by decide +kernel)) (va_eqt (hs (Cond.eq (.length (.static "SilentHouse" "NAMES_OF_LAW" "[I")) (.int 3)) (by decide +kernel))) (fun j hj => va_eqt (hs _ (q_el3 j hj))) hA
  obtain ⟨adK, adV, hvS, hvE⟩ := vk_Sof (N := 1) (tm := fun _ => .string "SilentHouse$Tokens" 62) (len := [134]) (byt := [q_byt]) (A := fun q => s.heap.size ≤ q) (s := s) (args := #[Value.ref b]) (by decide) (fun _ _ => hs (Cond.exactly (.string "SilentHouse$Tokens" 62) "java/lang/String") (by decide +kernel)) (fun _ _ => hs (Cond.eq (.field (.string "SilentHouse$Tokens" 62) "java/lang/String" "coder" "B") (.int 0)) (by decide +kernel)) (fun _ _ => hs (Cond.arrayOf (.field (.string "SilentHouse$Tokens" 62) "java/lang/String" "value" "[B") .byte) (by decide +kernel))
    (fun i hi => by
      have e : i = 0 := by omega
      subst e
      exact hs (Cond.eq (.length (.field (.string "SilentHouse$Tokens" 62) "java/lang/String" "value" "[B")) (.int 134)) (by decide +kernel))
    (fun i hi j hj => by
      have e : i = 0 := by omega
      subst e
      exact hs _ (q_el5 j hj)) (fun i j hi hj hij => absurd (by omega) hij) hA
  obtain ⟨k1, k2, k3, k4⟩ := hvS.1 0 (by omega)
  obtain ⟨fv, hfv, hfr⟩ := Cond.isRef_spec (hs (Cond.isRef (.static "jdk/internal/util/Preconditions" "SIOOBE_FORMATTER" "Ljava/util/function/BiFunction;")) (by decide +kernel))
  have hcl : ∀ k : Nat, ∃ q : ClassId × (Nat → Nat), k < 11 → u_Kn s (q_R k) (q_T k) (q_nf k) q.1 q.2 := by
    intro k
    by_cases hk : k < 11
    · obtain ⟨cC, iS, hKn⟩ := u_known (C := q_R k) (T := q_T k) (N := q_nf k) (n := q_nf k) hts (q_inc hk) (hts _ (q_ins11 k hk).1)
      exact ⟨(cC, iS), fun _ => hKn⟩
    · exact ⟨(0, fun _ => 0), fun h => absurd h hk⟩
  obtain ⟨dq, hdq⟩ := Classical.axiomOfChoice hcl
  obtain ⟨a20, b20, c20⟩ := q_arrT (hts _ q_acl.1.1)
  obtain ⟨a21, b21, c21⟩ := q_arrT (hts _ q_acl.1.2)
  obtain ⟨a22, b22, c22⟩ := q_arrT (hts _ q_acl.2.1)
  obtain ⟨a23, b23, c23⟩ := q_arrT (hts _ q_acl.2.2)
  obtain ⟨comp, a24, k24, o1, -, o3, o4, o5⟩ := Cond.arrayOver_spec (hts _ w2)
  generalize hG : ((kd, s.heap.size, s.heap, (fun k => match k with
    | 0 => b
    | 1 => t1
    | 2 => t2
    | 3 => t3
    | 4 => adK 0
    | _ => adV 0), (fun k => (dq k).1), (fun k => (dq k).2), (fun k => match k with
    | 20 => a20
    | 21 => a21
    | 22 => a22
    | 23 => a23
    | _ => a24), q_xl L, q_xi xs, fv) : q_G) = G
  have hF : q_isR (gF G) := by
    rw [← hG]
    show q_isR fv
    cases fv <;> first | exact Or.inl rfl | exact Or.inr ⟨_, rfl⟩ | (simp [Value.isRef] at hfr; done)
  have hSx : q_Sx G s := by
    rw [← hG]
    refine ⟨fun w hw hk => q_wb hk (State.WarmedH.refl s) (hts w hw), ⟨fun k q hq => ?_, fun k q hq => by simp at hq⟩, fun t g1 g2 => ?_, fun k hk => ?_, k4, k1, k2, k3, vk_R.of (hts _ w1) (hvE 0 (by omega)), va_Zof (hts _ w4) (hts _ w9) ht1 hA, va_Zof (hts _ w5) (hts _ w9) ht2 hA, va_Zof (hts _ w6) (hts _ w9) ht3 hA, va_Zof (hts _ w7) (hts _ w10) (va_eqt (hs (Cond.eq (.static "java/lang/String" "COMPACT_STRINGS" "Z") (.int 1)) (by decide +kernel))) hA, va_Zof (hts _ w8) (hts _ w11) hfv hA, ⟨va_AO.of (hts _ w2), va_Nw.of rfl (hts _ w3)⟩, by rw [← hG] at hF; exact hF, hkd⟩
    · have hk : k < 11 := (List.getElem?_eq_some_iff.mp hq).1
      rw [q_cl hk] at hq
      cases hq
      exact hdq k hk
    · have e : t = 20 ∨ t = 21 ∨ t = 22 ∨ t = 23 ∨ t = 24 := by omega
      rcases e with rfl | rfl | rfl | rfl | rfl
      · exact ⟨b20, c20⟩
      · exact ⟨b21, c21⟩
      · exact ⟨b22, c22⟩
      · exact ⟨b23, c23⟩
      · exact ⟨fun n z => ⟨fun k h => (by cases h), k24, o3, comp, o4⟩, k24, comp, o3, o4, o1, o5⟩
    · have e : k = 0 ∨ k = 1 ∨ k = 2 ∨ k = 3 := by omega
      rcases e with rfl | rfl | rfl | rfl
      · obtain ⟨scr, x1, x2, x3, x4, x5⟩ := hX
        exact ⟨scr, x1, x2, x3, by rw [x4]; exact Nat.le_refl _, by rw [x4]; rfl, x5, hA b hbl⟩
      · exact hT1
      · exact hT2
      · exact hT3
  have hkdG : gKd G = kd := by rw [← hG]
  have hBG : gB G = s.heap.size := by rw [← hG]
  have hRp : q_Rp G (q_h0 L xs) s.heap := by
    rw [← hG]
    exact ⟨Nat.le_refl _, rfl, fun _ _ => rfl, fun k g1 g2 => absurd g2 (Nat.not_lt.mpr g1), fun k _ => ⟨rfl, rfl⟩⟩
  have cx : q_Cx G 0 p s m meth c := ⟨hx, hb, hml, hown, fun h => absurd h (Nat.lt_irrefl 0), hSx, by omega⟩
  obtain ⟨n, r, h', hrun, hr1, hc1, hc2⟩ := hmain
  subst hr1
  rw [← hkdG] at hrun
  rw [lg_entry_eq]
  have hent := q_ent_has hF (as := [.ref 0]) (n := 4) (by decide)
  have e0 : ([.ref 0] : List Value).map (q_cv G) = [.ref b] := by rw [← hG]; rfl
  rw [e0] at hent
  have K := q_sound l G n D 0 0 _ [] (q_h0 L xs) (some (.int 1)) h' hrun p e room_1 s m #[Value.ref b] below meth c (lw_Z below #[Value.ref b] s) 6 0 cx (by show D + 2 ≤ 2048; omega) (by show 200 * (D + 2) ≤ 84000; omega) (by show h'.1 - 6 ≤ 738922; omega) (by show h'.2.1 - 0 ≤ 6885481; omega) (by
    intro pc' H' locs' Ls' hR' hl' hrt
    rcases hrt with ⟨x, ty, e1, hd, -, -⟩ | ⟨x, e1, -, -⟩ | ⟨v, t, e1, hv, -, -, -⟩ | ⟨e1, -, -⟩
    · refine va_forget (fun q hq => by rw [← hBG]; exact hl' q hq) ?_
      refine W.widen (k := 738922) (n := 6885481) (by omega) (by omega) ?_
      exact lw_ret hx hb hr hlocks hd
    · cases e1
    · cases e1
      rcases hv with hv | ⟨a, hv⟩ <;> cases hv
    · cases e1) s.heap [] _ hRp (fun x hx => by cases hx) hent (Nat.le_refl _) (Nat.le_refl _)
  exact K
