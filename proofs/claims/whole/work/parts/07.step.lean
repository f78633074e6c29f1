/-! what a heap of the small machine says of a cell; how a store moves it -/
def q_tyc (c : Nat) : Nat → FieldType := cond (Nat.ble 5 c) (cond (Nat.ble 8 c) (cond (Nat.ble 9 c) (cond (Nat.ble 10 c) tyX10 tyX9) tyX8) (cond (Nat.ble 6 c) (cond (Nat.ble 7 c) tyX7 tyX6) tyX5)) (cond (Nat.ble 2 c) (cond (Nat.ble 3 c) (cond (Nat.ble 4 c) tyX4 tyX3) tyX2) (cond (Nat.ble 1 c) tyX1 tyX0))
theorem q_cl {c : Nat} (h : c < 11) : vwCl[c]? = some (q_R c, q_T c, q_nf c) := by
  match c, h with
  | 0, _ | 1, _ | 2, _ | 3, _ | 4, _ | 5, _ | 6, _ | 7, _ | 8, _ | 9, _ | 10, _ => rfl
  | n + 11, h => exact absurd h (by omega)
theorem q_inc {c : Nat} (h : c < 11) : ∀ w ∈ u_ws (q_R c) (q_T c) (q_nf c), w ∈ lw_tbl := by
  match c, h with
  | 0, _ => exact inX0
  | 1, _ => exact inX1
  | 2, _ => exact inX2
  | 3, _ => exact inX3
  | 4, _ => exact inX4
  | 5, _ => exact inX5
  | 6, _ => exact inX6
  | 7, _ => exact inX7
  | 8, _ => exact inX8
  | 9, _ => exact inX9
  | 10, _ => exact inX10
  | n + 11, h => exact absurd h (by omega)
theorem q_tyok {c : Nat} (h : c < 11) : ∀ k, k < q_nf c → parseFieldDescriptor (q_T c k).2.2.1 = some (q_tyc c k) := by
  match c, h with
  | 0, _ => exact tyX0_ok
  | 1, _ => exact tyX1_ok
  | 2, _ => exact tyX2_ok
  | 3, _ => exact tyX3_ok
  | 4, _ => exact tyX4_ok
  | 5, _ => exact tyX5_ok
  | 6, _ => exact tyX6_ok
  | 7, _ => exact tyX7_ok
  | 8, _ => exact tyX8_ok
  | 9, _ => exact tyX9_ok
  | 10, _ => exact tyX10_ok
  | n + 11, h => exact absurd h (by omega)
theorem q_nmc {c : Nat} (h : c < 11) : ∀ a, a < q_nf c → ∀ b, b < q_nf c → a ≠ b → (q_T c a).2.1 ≠ (q_T c b).2.1 := by
  match c, h with
  | 0, _ => exact nmX0
  | 1, _ => exact nmX1
  | 2, _ => exact nmX2
  | 3, _ => exact nmX3
  | 4, _ => exact nmX4
  | 5, _ => exact nmX5
  | 6, _ => exact nmX6
  | 7, _ => exact nmX7
  | 8, _ => exact nmX8
  | 9, _ => exact nmX9
  | 10, _ => exact nmX10
  | n + 11, h => exact absurd h (by omega)
def q_isT (t : FieldType) : Bool := match t with
  | .object _ => true
  | .array _ => true
  | _ => false
theorem q_ftt : ∀ c, c < 11 → ∀ j, j < q_nf c → ((q_ft c j = 0 → q_tyc c j = .int) ∧ (q_ft c j = 3 → q_tyc c j = .boolean) ∧ (q_ft c j = 1 → q_tyc c j = .long) ∧ (q_ft c j = 2 → q_isT (q_tyc c j) = true) ∧ q_ft c j < 4) := by decide +kernel
theorem q_dflt {c j : Nat} (hc : c < 11) (hj : j < q_nf c) (G : q_G) (h : q_H) (N : Nat) : defaultValue (q_tyc c j) = q_fv G (q_nO h N) h.1 (q_ft c j) j := by
  obtain ⟨h0, h3, h1, h2, h4⟩ := q_ftt c hc j hj
  have e : q_ft c j = 0 ∨ q_ft c j = 1 ∨ q_ft c j = 2 ∨ q_ft c j = 3 := by omega
  rcases e with e | e | e | e
  · rw [h0 e, e]; simp [q_fv, va_up, defaultValue]
  · rw [h1 e, e]; simp [q_fv, va_up, defaultValue]
  · have := h2 e
    rw [e]
    cases ht : q_tyc c j <;> rw [ht] at this <;> first | (exact Bool.noConfusion this; done) | (simp [q_isT] at this; done) | simp [q_fv, va_up, defaultValue, va_rf, q_cv]
  · rw [h3 e, e]; simp [q_fv, va_up, defaultValue]
theorem q_adE (G : q_G) {k : Nat} (h : 6 ≤ k) : q_ad G k = gB G + (k - 6) := by
  unfold q_ad
  rw [if_neg (by omega)]
theorem q_adN (G : q_G) {k a : Nat} (h : 6 ≤ k) (h2 : 6 ≤ a) (hne : k ≠ a) : q_ad G k ≠ q_ad G a := by
  rw [q_adE G h, q_adE G h2]
  omega
theorem q_ct.kept {G : q_G} {h h' : q_H} {k : Nat} {H H' : Heap} (hc : q_ct G h k H) (he : H'[q_ad G k]? = H[q_ad G k]?) (e1 : h'.2.2.1 k = h.2.2.1 k) (e2 : h'.2.2.2.1 k = h.2.2.2.1 k) (e3 : h'.2.2.2.2.1 k = h.2.2.2.2.1 k) (e4 : h'.2.2.2.2.2 k = h.2.2.2.2.2 k) : q_ct G h' k H' := by
  rcases hc with ⟨g1, g2⟩ | ⟨g1, g2, g3⟩
  · refine Or.inl ⟨g1, (g2.kept he).to (fun j _ => ?_)⟩
    unfold q_fv
    rw [e2, e3, e4]
  · refine Or.inr ⟨g1, g2, ?_⟩
    have ea : q_av G h' k (gKd G k) = q_av G h k (gKd G k) := by
      funext j
      unfold q_av
      rw [e2, e3, e4]
    rw [he, g3, e1, ea]
theorem q_Rp.put {G : q_G} {h h' : q_H} {H H' : Heap} {a : Nat} (hR : q_Rp G h H) (ha : 6 ≤ a) (_hlt : a < h.1) (z : H'.size = H.size) (oq : ∀ q, q ≠ q_ad G a → H'[q]? = H[q]?) (e1 : h'.1 = h.1)
    (ho : ∀ k, k ≠ a → h'.2.2.1 k = h.2.2.1 k ∧ h'.2.2.2.1 k = h.2.2.2.1 k ∧ h'.2.2.2.2.1 k = h.2.2.2.2.1 k ∧ h'.2.2.2.2.2 k = h.2.2.2.2.2 k) (hs : q_ct G h' a H') : q_Rp G h' H' := by
  obtain ⟨r1, r2, r3, r4, r5⟩ := hR
  refine ⟨by rw [e1]; exact r1, by rw [e1, z]; exact r2, fun q hq => ?_, fun k h1 h2 => ?_, fun k hk => ?_⟩
  · rw [oq q (by rw [q_adE G ha]; omega)]
    exact r3 q hq
  · by_cases e : k = a
    · rw [e]; exact hs
    · obtain ⟨o1, o2, o3, o4⟩ := ho k e
      rw [e1] at h2
      exact (r4 k h1 h2).kept (oq _ (q_adN G h1 ha e)) o1 o2 o3 o4
  · obtain ⟨o1, o2, -, -⟩ := ho k (by omega)
    rw [o1, o2]
    exact r5 k hk
theorem q_Rp.new {G : q_G} {h h' : q_H} {H H' : Heap} (hR : q_Rp G h H) (z : H'.size = H.size + 1) (oq : ∀ q, q < H.size → H'[q]? = H[q]?) (e1 : h'.1 = h.1 + 1)
    (ho : ∀ k, k ≠ h.1 → h'.2.2.1 k = h.2.2.1 k ∧ h'.2.2.2.1 k = h.2.2.2.1 k ∧ h'.2.2.2.2.1 k = h.2.2.2.2.1 k ∧ h'.2.2.2.2.2 k = h.2.2.2.2.2 k) (hs : q_ct G h' h.1 H') : q_Rp G h' H' := by
  obtain ⟨r1, r2, r3, r4, r5⟩ := hR
  refine ⟨by omega, by omega, fun q hq => ?_, fun k h1 h2 => ?_, fun k hk => ?_⟩
  · rw [oq q (by omega)]
    exact r3 q hq
  · by_cases e : k = h.1
    · rw [e]; exact hs
    · obtain ⟨o1, o2, o3, o4⟩ := ho k e
      exact (r4 k h1 (by omega)).kept (oq _ (by rw [q_adE G h1]; omega)) o1 o2 o3 o4
  · obtain ⟨o1, o2, -, -⟩ := ho k (by omega)
    rw [o1, o2]
    exact r5 k hk
theorem q_Rp.at {G : q_G} {h : q_H} {H : Heap} (hR : q_Rp G h H) : H.size = q_ad G h.1 := by
  rw [q_adE G hR.1]
  exact hR.2.1
def q_Cx (G : q_G) (i : Nat) (p : Program) (s : State) (m : MethodId) (meth : Method) (c : Code) : Prop := p.tables.exec = Jvm.exec ∧ c.code = q_cd i ∧ c.maxLocals = q_mx i ∧ s.vm.findClass (q_mn i).cls = some m.cls ∧ (0 < i → meth.name = (q_mn i).name) ∧ q_Sx G s ∧ i < 207
section QS
variable {p : Program} {l : Launch} {e : Env} {R : Room} {s : State} {m : MethodId} {args : Array Value} {below : List Frame} {meth : Method} {c : Code} {Q : State → Prop} {G : q_G} {n0 s0 i : Nat}
theorem q_wd (cx : q_Cx G i p s m meth c) {w : Cond} (hm : w ∈ lw_tbl) (hk : q_wk w = true) (args : Array Value) : w.before args s = true := q_wb hk (State.WarmedH.refl s) (cx.2.2.2.2.2.1.1 w hm hk)
theorem q_wp (cx : q_Cx G i p s m meth c) {w : Cond} {k : Nat} (hm : lw_tbl[k]? = some w) (hk : q_wk w = true) (args : Array Value) : w.before args s = true := q_wd cx (List.mem_of_getElem? hm) hk args
theorem q_hts (cx : q_Cx G i p s m meth c) {k : Nat} (hc : k < 11) (args : Array Value) : ∀ w ∈ u_ws (q_R k) (q_T k) (q_nf k), w.before args s = true := fun w hw => q_wd cx (q_inc hc w hw) (by
  obtain ⟨j, _, rfl⟩ := List.mem_map.mp hw
  unfold u_lay
  split <;> rfl) args
/-- a row of the heap, its own or one that was there -/
theorem q_arr (cx : q_Cx G i p s m meth c) {h : q_H} {H : Heap} (hR : q_Rp G h H) {a : Nat} (ha : a < h.1) (h20 : 20 ≤ gKd G a) (h24 : gKd G a ≤ 24) : ∃ cell : Cell, H[q_ad G a]? = some cell ∧ s.isArrayOf cell (q_ty (gKd G a)) ∧ cell.vm ≠ .unknown ∧ (∀ x : Int32, vp_in x (h.2.2.1 a) → ¬ (x < 0 ∨ cell.slots.size ≤ x.toNatClampNeg)) ∧ cell.slots.size.toInt32 = Int32.ofNat (h.2.2.1 a) ∧ ∀ j, j < h.2.2.1 a → cell.slots[j]? = some (q_av G h a (gKd G a) j) := by
  obtain ⟨r1, r2, r3, r4, r5⟩ := hR
  by_cases h6 : 6 ≤ a
  · rcases r4 a h6 ha with ⟨g1, -⟩ | ⟨-, -, g3⟩
    · omega
    · refine ⟨_, g3, (cx.2.2.2.2.2.1.2.2.1 _ h20 h24).1 _ _, (fun q => by cases q), fun x hx => ?_, ?_, fun j hj => arrV_read _ _ hj⟩
      · rw [arrV_size]; exact hx
      · rw [arrV_size]
  · have hx := cx.2.2.2.2.2.1
    obtain ⟨h1, h2, h3, h4, h5, h6', h7, h8, h9, h10, h11, h12, h13, h14, h15, h16, k0, k1, k2, k3, k4, k5⟩ := hx
    obtain ⟨e1, e2⟩ := r5 a (by omega)
    have done : ∀ ty, q_ty (gKd G a) = ty → gKd G a ≠ 23 → gKd G a ≠ 24 → va_T ty (gEx G a) (gXL G a) (fun j => .int (gXI G a j)) (fun q => gB G ≤ q) s (gHs G) → ∃ cell : Cell, H[q_ad G a]? = some cell ∧ s.isArrayOf cell (q_ty (gKd G a)) ∧ cell.vm ≠ .unknown ∧ (∀ x : Int32, vp_in x (h.2.2.1 a) → ¬ (x < 0 ∨ cell.slots.size ≤ x.toNatClampNeg)) ∧ cell.slots.size.toInt32 = Int32.ofNat (h.2.2.1 a) ∧ ∀ j, j < h.2.2.1 a → cell.slots[j]? = some (q_av G h a (gKd G a) j) := by
      rintro ty rfl n23 n24 ⟨cell, c1, c2, c3, c4, c5, c6, c7⟩
      have ead : q_ad G a = gEx G a := by unfold q_ad; rw [if_pos (by omega)]
      refine ⟨cell, by rw [ead, r3 _ (Nat.not_le.mp c7)]; exact c1, c2, c3, fun x hx q => hx ?_, by rw [e1]; exact c5, fun j hj => ?_⟩
      · rcases q with q | q
        · exact Or.inl q
        · exact Or.inr (by rw [e1]; omega)
      · rw [e1] at hj
        rw [c6 j hj]
        unfold q_av
        split
        · rename_i hh; exact absurd hh n23
        · rename_i hh; exact absurd hh n24
        · rw [e2]
    have hcase : a = 0 ∨ a = 1 ∨ a = 2 ∨ a = 3 ∨ a = 4 ∨ a = 5 := by omega
    rcases hcase with rfl | rfl | rfl | rfl | rfl | rfl
    · exact done _ (by rw [k0]; rfl) (by omega) (by omega) (h4 0 (by omega))
    · exact done _ (by rw [k1]; rfl) (by omega) (by omega) (h4 1 (by omega))
    · exact done _ (by rw [k2]; rfl) (by omega) (by omega) (h4 2 (by omega))
    · exact done _ (by rw [k3]; rfl) (by omega) (by omega) (h4 3 (by omega))
    · omega
    · exact done _ (by rw [k5]; rfl) (by omega) (by omega) h5
/-- a row of its own -/
theorem q_own {h : q_H} {H : Heap} (hR : q_Rp G h H) {a : Nat} (h6 : 6 ≤ a) (ha : a < h.1) (h20 : 20 ≤ gKd G a) : H[q_ad G a]? = some (arrV (gA G (gKd G a)) (h.2.2.1 a) (q_av G h a (gKd G a))) := by
  rcases hR.2.2.2.1 a h6 ha with ⟨g1, -⟩ | ⟨-, -, g3⟩
  · omega
  · exact g3
theorem q_stA {h h' : q_H} {H H' : Heap} (hR : q_Rp G h H) {a : Nat} (h6 : 6 ≤ a) (ha : a < h.1) (h20 : 20 ≤ gKd G a) (h24 : gKd G a ≤ 24) {j : Nat} {v : Value} (he : H'[q_ad G a]? = some ((arrV (gA G (gKd G a)) (h.2.2.1 a) (q_av G h a (gKd G a))).setSlot j v)) (z : H'.size = H.size) (oq : ∀ q, q ≠ q_ad G a → H'[q]? = H[q]?) (e1 : h'.1 = h.1)
    (ho : ∀ k, k ≠ a → h'.2.2.1 k = h.2.2.1 k ∧ h'.2.2.2.1 k = h.2.2.2.1 k ∧ h'.2.2.2.2.1 k = h.2.2.2.2.1 k ∧ h'.2.2.2.2.2 k = h.2.2.2.2.2 k) (el : h'.2.2.1 a = h.2.2.1 a) (hv : ∀ q, q_av G h' a (gKd G a) q = updV (q_av G h a (gKd G a)) j v q) : q_Rp G h' H' := by
  refine hR.put h6 ha z oq e1 ho (Or.inr ⟨h20, h24, ?_⟩)
  rw [he, arrV_store, el, show q_av G h' a (gKd G a) = updV (q_av G h a (gKd G a)) j v from funext hv]
/-- an object of its own -/
theorem q_obj {h : q_H} {H : Heap} (hR : q_Rp G h H) {a : Nat} (h6 : 6 ≤ a) (ha : a < h.1) (h11 : gKd G a < 11) : t_OB (q_ad G a) (gC G (gKd G a)) (q_nf (gKd G a)) (gI G (gKd G a)) H (fun j => q_fv G h a (q_ft (gKd G a) j) j) := by
  rcases hR.2.2.2.1 a h6 ha with ⟨-, g2⟩ | ⟨g1, -, -⟩
  · exact g2
  · omega
end QS
