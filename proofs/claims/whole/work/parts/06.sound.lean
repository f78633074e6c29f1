/-! THE SMALL MACHINE IS TRUE: checks of its tables; what a heap of it says of the machine's heap; each step -/
/-- kinds, base, the heap at the start, places of what was there, classes, slots, array classes, lengths and contents of what was there, the formatter -/
abbrev q_G : Type := (Nat → Nat) × Nat × Heap × (Nat → Nat) × (Nat → ClassId) × (Nat → Nat → Nat) × (Nat → ClassId) × (Nat → Nat) × (Nat → Nat → Int32) × Value
abbrev gKd (G : q_G) := G.1
abbrev gB (G : q_G) := G.2.1
abbrev gHs (G : q_G) := G.2.2.1
abbrev gEx (G : q_G) := G.2.2.2.1
abbrev gC (G : q_G) := G.2.2.2.2.1
abbrev gI (G : q_G) := G.2.2.2.2.2.1
abbrev gA (G : q_G) := G.2.2.2.2.2.2.1
abbrev gXL (G : q_G) := G.2.2.2.2.2.2.2.1
abbrev gXI (G : q_G) := G.2.2.2.2.2.2.2.2.1
abbrev gF (G : q_G) := G.2.2.2.2.2.2.2.2.2
def q_ad (G : q_G) (k : Nat) : Nat := if k < 6 then gEx G k else gB G + (k - 6)
def q_cv (G : q_G) : Value → Value
  | .ref k => .ref (q_ad G k)
  | .retAddr 7 => gF G
  | v => v
def q_fv (G : q_G) (h : q_H) (k t j : Nat) : Value := match t with
  | 1 => .long (h.2.2.2.2.1 k j)
  | 2 => q_cv G (va_rf (h.2.2.2.2.2 k j))
  | _ => .int (h.2.2.2.1 k j)
def q_av (G : q_G) (h : q_H) (k t j : Nat) : Value := match t with
  | 23 => .long (h.2.2.2.2.1 k j)
  | 24 => q_cv G (va_rf (h.2.2.2.2.2 k j))
  | _ => .int (h.2.2.2.1 k j)
def q_ct (G : q_G) (h : q_H) (k : Nat) (H : Heap) : Prop :=
  (gKd G k < 11 ∧ t_OB (q_ad G k) (gC G (gKd G k)) (q_nf (gKd G k)) (gI G (gKd G k)) H (fun j => q_fv G h k (q_ft (gKd G k) j) j)) ∨
  (20 ≤ gKd G k ∧ gKd G k ≤ 24 ∧ H[q_ad G k]? = some (arrV (gA G (gKd G k)) (h.2.2.1 k) (q_av G h k (gKd G k))))
def q_Rp (G : q_G) (h : q_H) (H : Heap) : Prop := 6 ≤ h.1 ∧ H.size = gB G + (h.1 - 6) ∧ (∀ q, q < gB G → H[q]? = (gHs G)[q]?) ∧ (∀ k, 6 ≤ k → k < h.1 → q_ct G h k H) ∧ (∀ k, k < 6 → h.2.2.1 k = gXL G k ∧ h.2.2.2.1 k = gXI G k)
def q_ty (t : Nat) : FieldType := match t with
  | 20 => .int
  | 21 => .byte
  | 22 => .boolean
  | 23 => .long
  | _ => .object "SilentHouse$Script"
abbrev q_tx : String := "wit shame row sort power near all laughing rounds coughs bill people often coughed laughs loud dues seat out hire night at or and not "
def q_wk (w : Cond) : Bool := goodWord w || (w.onTables && w.keepsH)
def q_Sx (G : q_G) (U : State) : Prop :=
  (∀ w ∈ lw_tbl, q_wk w = true → w.before #[] U = true) ∧ va_K (gC G, gI G) vwCl [] U ∧
  (∀ t, 20 ≤ t → t ≤ 24 → ArrOfT U (gA G t) (q_ty t) ∧ va_RA U (gA G t) (q_ty t)) ∧
  (∀ k, k < 4 → va_T .int (gEx G k) (gXL G k) (fun j => .int (gXI G k j)) (fun q => gB G ≤ q) U (gHs G)) ∧
  va_T .byte (gEx G 5) (gXL G 5) (fun j => .int (gXI G 5 j)) (fun q => gB G ≤ q) U (gHs G) ∧
  va_O "java/lang/String" (gEx G 4) (fun q => gB G ≤ q) U (gHs G) ∧ va_OF "java/lang/String" "coder" "B" (.int 0) (gEx G 4) (fun q => gB G ≤ q) U (gHs G) ∧ va_OF "java/lang/String" "value" "[B" (.ref (gEx G 5)) (gEx G 4) (fun q => gB G ≤ q) U (gHs G) ∧
  vk_R "SilentHouse$Tokens" 62 q_tx (gEx G 4) U ∧
  va_Z "SilentHouse" "NEAR_SEATS" "[I" (.ref (gEx G 1)) (fun q => gB G ≤ q) U (gHs G) ∧ va_Z "SilentHouse" "ORDERS" "[I" (.ref (gEx G 2)) (fun q => gB G ≤ q) U (gHs G) ∧ va_Z "SilentHouse" "NAMES_OF_LAW" "[I" (.ref (gEx G 3)) (fun q => gB G ≤ q) U (gHs G) ∧
  va_Z "java/lang/String" "COMPACT_STRINGS" "Z" (.int 1) (fun q => gB G ≤ q) U (gHs G) ∧ va_Z "jdk/internal/util/Preconditions" "SIOOBE_FORMATTER" "Ljava/util/function/BiFunction;" (gF G) (fun q => gB G ≤ q) U (gHs G) ∧
  (va_AO "SilentHouse$Script" U ∧ va_Nw (.castable "[I" "java/lang/Cloneable") U) ∧ q_isR (gF G) ∧ (gKd G 0 = 20 ∧ gKd G 1 = 20 ∧ gKd G 2 = 20 ∧ gKd G 3 = 20 ∧ gKd G 4 = 30 ∧ gKd G 5 = 21)
theorem q_wb {w : Cond} (hk : q_wk w = true) {a a' : Array Value} {s U : State} (hW : s.WarmedH U.vm) (h : w.before a s = true) : w.before a' U = true := by
  unfold q_wk at hk
  rw [Bool.or_eq_true] at hk
  rcases hk with hk | hk
  · exact word_at hW (good_of_word hk) h
  · rw [Bool.and_eq_true] at hk
    have h1 := Cond.onTables_warmH (args' := a') (T := U) hW hk.1 hk.2 h
    rwa [State.setVm_self] at h1
theorem q_Sx.warm {G : q_G} {s U : State} (hW : s.WarmedH U.vm) (h : q_Sx G s) : q_Sx G U := by
  obtain ⟨h1, h2, h3, h4, h5, h6, h7, h8, h9, h10, h11, h12, h13, h14, h15, h16⟩ := h
  have hA := hW.alike
  exact ⟨fun w hw hk => q_wb hk hW (h1 w hw hk), va_K.moved hA h2, fun t g1 g2 => ⟨arrOfT_moved hA (h3 t g1 g2).1, (h3 t g1 g2).2.moved hA⟩, fun k hk => (h4 k hk).moved hA, h5.moved hA, h6.moved hA, h7.moved hA, h8.moved hA, h9.warm hW, h10.moved hA, h11.moved hA, h12.moved hA, h13.moved hA, h14.moved hA, ⟨h15.1.moved hA, va_Nw.warmC hW h15.2⟩, h16⟩
theorem q_cat {G : q_G} (hF : q_isR (gF G)) (v : Value) : (q_cv G v).category = v.category := by
  have hf : (gF G).category = 1 := by
    rcases hF with h | ⟨a, h⟩ <;> rw [h] <;> rfl
  unfold q_cv
  split
  · rfl
  · exact hf
  · rfl
theorem q_cats {G : q_G} (hF : q_isR (gF G)) (r : List Value) : ((r.map (q_cv G)).map fun v => v.category).sum = (r.map fun v => v.category).sum := by
  induction r with
  | nil => rfl
  | cons v r ih => simp only [List.map_cons, List.sum_cons, q_cat hF, ih]
theorem q_cv_rf (G : q_G) (o : Option Nat) : q_cv G (va_rf o) = va_rf (o.map (q_ad G)) := by
  cases o <;> rfl
/-! locals -/
def q_re (v : Value) : Bool := match v with
  | .retAddr _ => false
  | _ => true
def q_as (G : q_G) (ls : List Value) : List (Nat × Value) := ls.zipIdx.filterMap (fun q => if q_re q.1 then some (q.2, q_cv G q.1) else none)
theorem q_as_mem {G : q_G} {ls : List Value} {j : Nat} {w : Value} : (j, w) ∈ q_as G ls ↔ ∃ v, ls[j]? = some v ∧ q_re v = true ∧ w = q_cv G v := by
  unfold q_as
  rw [List.mem_filterMap]
  constructor
  · rintro ⟨⟨v, k⟩, hm, he⟩
    have hm' := List.mem_zipIdx_iff_getElem?.mp hm
    by_cases hr : q_re v = true
    · rw [if_pos hr] at he
      cases he
      exact ⟨v, hm', hr, rfl⟩
    · rw [if_neg hr] at he
      cases he
  · rintro ⟨v, hv, hr, rfl⟩
    exact ⟨(v, j), List.mem_zipIdx_iff_getElem?.mpr hv, by rw [if_pos hr]⟩
theorem q_lat {G : q_G} {Ls : Array Slot} {n : Nat} {ls : List Value} (hL : lv_has Ls n (q_as G ls)) {k : Nat} {v : Value} (hv : ls[k]? = some v) (hr : q_re v = true) : Ls[k]? = some (.val (q_cv G v)) := hL.2.2 (k, _) (q_as_mem.mpr ⟨v, hv, hr, rfl⟩)
theorem q_kl_at {ls : List Value} {i j : Nat} {u : Value} (h : (q_kl ls i)[j]? = some u) (hr : q_re u = true) : ls[j]? = some u ∧ (j + 1 = i → u.category ≠ 2) := by
  unfold q_kl at h
  cases i with
  | zero => exact ⟨h, fun e => absurd e (Nat.succ_ne_zero j)⟩
  | succ i =>
    simp only at h
    have key : ∀ v, ls[i]? = some v → (ls.set i (.retAddr 0))[j]? = some u → ls[j]? = some u ∧ (j + 1 = i + 1 → u.category ≠ 2) := by
      intro v hv hs
      rw [List.getElem?_set] at hs
      by_cases e : i = j
      · subst e
        simp at hs
        rw [← hs.2] at hr
        cases hr
      · rw [if_neg e] at hs
        exact ⟨hs, fun q => absurd (by omega) e⟩
    split at h
    · rename_i x hx
      exact key _ hx h
    · rename_i x hx
      exact key _ hx h
    · rename_i h1 h2
      refine ⟨h, fun q => ?_⟩
      have e : j = i := by omega
      subst e
      intro hc
      cases u <;> first | exact absurd h (h1 _) | exact absurd h (h2 _) | (revert hc; simp [Value.category])
theorem q_s1_has {G : q_G} {Ls : Array Slot} {n : Nat} {ls : List Value} {k : Nat} {v : Value} (hF : q_isR (gF G)) (hL : lv_has Ls n ((k, q_cv G v) :: (q_as G ls).filter (fun q => !(q.1 == k) && !(q.1 + 1 == k && q.2.category == 2)))) : lv_has Ls n (q_as G (q_s1 ls k v)) := by
  refine ⟨hL.1, hL.2.1, fun q hq => ?_⟩
  obtain ⟨j, w⟩ := q
  obtain ⟨u, hu, hr, rfl⟩ := q_as_mem.mp hq
  refine hL.2.2 _ ?_
  unfold q_s1 at hu
  rw [List.getElem?_set] at hu
  by_cases e : k = j
  · subst e
    simp at hu
    rw [← hu.2]
    exact List.mem_cons_self
  · rw [if_neg e] at hu
    obtain ⟨h1, h2⟩ := q_kl_at hu hr
    refine List.mem_cons_of_mem _ (List.mem_filter.mpr ⟨q_as_mem.mpr ⟨u, h1, hr, rfl⟩, ?_⟩)
    have e1 : (j == k) = false := by simp; omega
    have e2 : (j + 1 == k && (q_cv G u).category == 2) = false := by
      rw [q_cat hF]
      by_cases g : j + 1 = k
      · have := h2 g
        simp [this]
      · simp [g]
    simp [e1, e2]
theorem q_s2_has {G : q_G} {Ls : Array Slot} {n : Nat} {ls : List Value} {k : Nat} {v : Value} (hF : q_isR (gF G)) (hL : lv_has Ls n ((k, q_cv G v) :: (q_as G ls).filter (fun q => !(q.1 == k) && (!(q.1 == k + 1) && !(q.1 + 1 == k && q.2.category == 2))))) : lv_has Ls n (q_as G (q_s2 ls k v)) := by
  refine ⟨hL.1, hL.2.1, fun q hq => ?_⟩
  obtain ⟨j, w⟩ := q
  obtain ⟨u, hu, hr, rfl⟩ := q_as_mem.mp hq
  refine hL.2.2 _ ?_
  unfold q_s2 at hu
  rw [List.getElem?_set] at hu
  by_cases e0 : k + 1 = j
  · subst e0
    simp at hu
    rw [← hu.2] at hr
    cases hr
  · rw [if_neg e0, List.getElem?_set] at hu
    by_cases e : k = j
    · subst e
      simp at hu
      rw [← hu.2]
      exact List.mem_cons_self
    · rw [if_neg e] at hu
      obtain ⟨h1, h2⟩ := q_kl_at hu hr
      refine List.mem_cons_of_mem _ (List.mem_filter.mpr ⟨q_as_mem.mpr ⟨u, h1, hr, rfl⟩, ?_⟩)
      have e1 : (j == k) = false := by simp; omega
      have e3 : (j == k + 1) = false := by simp; omega
      have e2 : (j + 1 == k && (q_cv G u).category == 2) = false := by
        rw [q_cat hF]
        by_cases g : j + 1 = k
        · have := h2 g
          simp [this]
        · simp [g]
      simp [e1, e2, e3]
theorem q_fl2_args {G : q_G} (hF : q_isR (gF G)) : ∀ (as : List Value) (i j : Nat) (u : Value), (q_fl2 as)[j]? = some u → q_re u = true → (i + j, q_cv G u) ∈ lv_args i (as.map (q_cv G)) := by
  intro as
  induction as with
  | nil => intro i j u h; simp [q_fl2] at h
  | cons v r ih =>
    intro i j u h hr
    have one : v.category = 1 → q_fl2 (v :: r) = v :: q_fl2 r → (i + j, q_cv G u) ∈ lv_args i ((v :: r).map (q_cv G)) := by
      intro hc e
      rw [e] at h
      rw [List.map_cons, lv_args, q_cat hF, if_neg (by omega)]
      cases j with
      | zero => simp at h; subst h; exact List.mem_cons_self
      | succ j =>
        simp at h
        have := ih (i + 1) j u h hr
        rw [show i + 1 + j = i + (j + 1) by omega] at this
        exact List.mem_cons_of_mem _ this
    have two : v.category = 2 → q_fl2 (v :: r) = v :: .retAddr 0 :: q_fl2 r → (i + j, q_cv G u) ∈ lv_args i ((v :: r).map (q_cv G)) := by
      intro hc e
      rw [e] at h
      rw [List.map_cons, lv_args, q_cat hF, if_pos hc]
      cases j with
      | zero => simp at h; subst h; exact List.mem_cons_self
      | succ j =>
        cases j with
        | zero => simp at h; subst h; cases hr
        | succ j =>
          simp at h
          have := ih (i + 2) j u h hr
          rw [show i + 2 + j = i + (j + 1 + 1) by omega] at this
          exact List.mem_cons_of_mem _ this
    cases v <;> first | exact one rfl rfl | exact two rfl rfl
theorem q_fl2_len {G : q_G} (hF : q_isR (gF G)) : ∀ (as : List Value), (lg_sl (as.map (q_cv G))).length = (q_fl2 as).length := by
  intro as
  induction as with
  | nil => rfl
  | cons v r ih =>
    have e : lg_sl ((v :: r).map (q_cv G)) = (if (q_cv G v).category = 2 then [.val (q_cv G v), .second] else [.val (q_cv G v)]) ++ lg_sl (r.map (q_cv G)) := rfl
    rw [e, List.length_append, ih, q_cat hF]
    cases v <;> simp [Value.category, q_fl2] <;> omega
theorem q_ent_has {G : q_G} (hF : q_isR (gF G)) {as : List Value} {n : Nat} (hn : (q_fl2 as).length ≤ n) : lv_has ((lg_sl (as.map (q_cv G)) ++ List.replicate (n - (lg_sl (as.map (q_cv G))).length) Slot.unset).toArray) n (q_as G (q_ent as n)) := by
  have h := lv_entry (as.map (q_cv G)) (n := n) (by rw [q_fl2_len hF]; exact hn)
  refine ⟨h.1, h.2.1, fun q hq => h.2.2 q ?_⟩
  obtain ⟨j, w⟩ := q
  obtain ⟨u, hu, hr, rfl⟩ := q_as_mem.mp hq
  unfold q_ent at hu
  by_cases hj : j < (q_fl2 as).length
  · rw [List.getElem?_append_left hj] at hu
    have := q_fl2_args hF as 0 j u hu hr
    rwa [Nat.zero_add] at this
  · rw [List.getElem?_append_right (by omega), List.getElem?_replicate] at hu
    split at hu
    · cases hu; cases hr
    · cases hu
