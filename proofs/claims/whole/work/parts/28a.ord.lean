/-! ORDERS: what stays the same from one order to the next, and where an order puts people -/
/-- an order of those who sit: each of them once -/
def w_gr (M : Nat) (seat row : Nat → Int32) : Prop := (∀ k, k < M → ∃ p, p < 6 ∧ row k = nI p ∧ ¬ seat p = -1) ∧ (∀ i j, i < M → j < M → row i = row j → i = j) ∧ (∀ p, p < 6 → ¬ seat p = -1 → ∃ k, k < M ∧ row k = nI p)
theorem w_gr_cg {M : Nat} {seat row row' : Nat → Int32} (h : w_gr M seat row) (e : ∀ k, k < M → row' k = row k) : w_gr M seat row' := by
  obtain ⟨h1, h2, h3⟩ := h
  refine ⟨fun k hk => ?_, fun i j hi hj => ?_, fun p hp hs => ?_⟩
  · rw [e k hk]; exact h1 k hk
  · rw [e i hi, e j hj]; exact h2 i j hi hj
  · obtain ⟨k, k1, k2⟩ := h3 p hp hs
    exact ⟨k, k1, by rw [e k k1]; exact k2⟩
def w_tau (i k j : Nat) : Nat := if j = k then i else if j = i then k else j
theorem w_tau_sw (row : Nat → Int32) (i k j : Nat) : q_sw row i k j = row (w_tau i k j) := by
  unfold q_sw w_tau
  by_cases e : j = k
  · rw [if_pos e, e, q_upE]
  · rw [if_neg e, q_upN _ _ e]
    by_cases e2 : j = i
    · rw [if_pos e2, e2, q_upE]
    · rw [if_neg e2, q_upN _ _ e2]
theorem w_tau_2 (i k j : Nat) : w_tau i k (w_tau i k j) = j := by
  unfold w_tau
  by_cases e : j = k
  · rw [if_pos e]
    by_cases e2 : i = k
    · rw [if_pos e2]; omega
    · rw [if_neg e2, if_pos rfl]; exact e.symm
  · rw [if_neg e]
    by_cases e2 : j = i
    · rw [if_pos e2, if_pos rfl]; exact e2.symm
    · rw [if_neg e2, if_neg e, if_neg e2]
theorem w_tau_l {M i k j : Nat} (hi : i < M) (hk : k < M) (hj : j < M) : w_tau i k j < M := by
  unfold w_tau
  by_cases e : j = k
  · rw [if_pos e]; exact hi
  · rw [if_neg e]
    by_cases e2 : j = i
    · rw [if_pos e2]; exact hk
    · rw [if_neg e2]; exact hj
theorem w_gr_sw {M : Nat} {seat row : Nat → Int32} (h : w_gr M seat row) {i k : Nat} (hi : i < M) (hk : k < M) : w_gr M seat (q_sw row i k) := by
  obtain ⟨h1, h2, h3⟩ := h
  refine ⟨fun j hj => ?_, fun x y hx hy e => ?_, fun p hp hs => ?_⟩
  · rw [w_tau_sw]; exact h1 _ (w_tau_l hi hk hj)
  · rw [w_tau_sw, w_tau_sw] at e
    have := h2 _ _ (w_tau_l hi hk hx) (w_tau_l hi hk hy) e
    have e2 := congrArg (w_tau i k) this
    rw [w_tau_2, w_tau_2] at e2
    exact e2
  · obtain ⟨j, j1, j2⟩ := h3 p hp hs
    refine ⟨w_tau i k j, w_tau_l hi hk j1, ?_⟩
    rw [w_tau_sw, w_tau_2]; exact j2
theorem w_gr_rv {M : Nat} {seat : Nat → Int32} : ∀ (c : Nat) (row : Nat → Int32) (p q : Nat), (q < M ∨ q ≤ p) → w_gr M seat row → w_gr M seat (q_rv c row p q) := by
  intro c
  induction c with
  | zero => intro row p q _ h; exact h
  | succ c ih =>
    intro row p q hq h
    unfold q_rv
    by_cases e : p < q
    · rw [if_pos e]
      exact ih _ _ _ (by omega) (w_gr_sw h (by omega) (by omega))
    · rw [if_neg e]; exact h
theorem w_gr_nx {M : Nat} {seat row r : Nat → Int32} (h : w_gr M seat row) (e : q_nx M row = some r) : w_gr M seat r := by
  unfold q_nx at e
  cases hi : q_nxi row (M - 1) with
  | none => rw [hi] at e; exact absurd e (fun q => by cases q)
  | some i =>
    rw [hi] at e
    have e' := Option.some.inj e
    have hil := w_nxi_l _ _ hi
    have hk := w_nxk_lt (f := row) (x := row i) (M - 1)
    rw [← e']
    exact w_gr_rv M _ _ _ (by omega) (w_gr_sw h (by omega) (by omega))
/-- where an order puts people: c of them from j on -/
def w_pua (row tk : Nat → Int32) (c j : Nat) (pl : Nat → Int32) : Nat → Int32 := q_it (fun k pl => va_up pl (row k).toNatClampNeg (tk k)) c j pl
theorem w_pua_o {row tk : Nat → Int32} : ∀ (c j : Nat) (pl : Nat → Int32) (p : Nat), (∀ k, j ≤ k → k < j + c → ¬ p = (row k).toNatClampNeg) → w_pua row tk c j pl p = pl p := by
  intro c
  induction c with
  | zero => intro j pl p _; rfl
  | succ c ih =>
    intro j pl p h
    show w_pua row tk c (j + 1) (va_up pl (row j).toNatClampNeg (tk j)) p = pl p
    rw [ih (j + 1) _ p (fun k h1 h2 => h k (by omega) (by omega)), q_upN _ _ (h j (Nat.le_refl _) (by omega))]
theorem w_pua_i {row tk : Nat → Int32} : ∀ (c j : Nat) (pl : Nat → Int32), (∀ i k, j ≤ i → i < j + c → j ≤ k → k < j + c → (row i).toNatClampNeg = (row k).toNatClampNeg → i = k) → ∀ k, j ≤ k → k < j + c → w_pua row tk c j pl (row k).toNatClampNeg = tk k := by
  intro c
  induction c with
  | zero => intro j pl _ k h1 h2; omega
  | succ c ih =>
    intro j pl h k h1 h2
    show w_pua row tk c (j + 1) (va_up pl (row j).toNatClampNeg (tk j)) (row k).toNatClampNeg = tk k
    by_cases e : k = j
    · subst e
      rw [w_pua_o c (k + 1) _ _ (fun i h3 h4 e2 => ?_), q_upE]
      have := h k i (by omega) (by omega) (by omega) (by omega) e2
      omega
    · exact ih (j + 1) _ (fun i k a1 a2 a3 a4 => h i k (by omega) (by omega) (by omega) (by omega)) k (by omega) (by omega)
theorem w_pua_cg {row row' tk tk' : Nat → Int32} {c j : Nat} (h : ∀ k, j ≤ k → k < j + c → row' k = row k ∧ tk' k = tk k) (pl : Nat → Int32) : w_pua row' tk' c j pl = w_pua row tk c j pl :=
  q_itC c j pl (fun i x h1 h2 => by rw [(h i h1 h2).1, (h i h1 h2).2])
theorem w_gr_inj {M : Nat} {seat row : Nat → Int32} (h : w_gr M seat row) : ∀ i k, i < M → k < M → (row i).toNatClampNeg = (row k).toNatClampNeg → i = k := by
  intro i k hi hk e
  obtain ⟨p, p1, p2, _⟩ := h.1 i hi
  obtain ⟨q, q1, q2, _⟩ := h.1 k hk
  rw [p2, q2, nI_clamp (by omega), nI_clamp (by omega)] at e
  exact h.2.1 i k hi hk (by rw [p2, q2, e])
/-- those who sit are where the order puts them -/
theorem w_gr_pua {M : Nat} {seat row tk pl : Nat → Int32} (h : w_gr M seat row) {p : Nat} (hp : p < 6) (hs : ¬ seat p = -1) : ∃ k, k < M ∧ row k = nI p ∧ w_pua row tk M 0 pl p = tk k := by
  obtain ⟨k, k1, k2⟩ := h.2.2 p hp hs
  refine ⟨k, k1, k2, ?_⟩
  have := w_pua_i (tk := tk) M 0 pl (fun i j _ hi _ hj => w_gr_inj h i j (by omega) (by omega)) k (Nat.zero_le _) (by omega)
  rwa [k2, nI_clamp (by omega)] at this
theorem w_gr_pua_o {M : Nat} {seat row tk pl : Nat → Int32} (h : w_gr M seat row) {p : Nat} (hp : p < 6) (hs : seat p = -1) : w_pua row tk M 0 pl p = pl p := by
  refine w_pua_o M 0 pl p (fun k _ hk e => ?_)
  obtain ⟨q, q1, q2, q3⟩ := h.1 k (by omega)
  rw [q2, nI_clamp (by omega)] at e
  rw [e] at hs
  exact q3 hs
/-- the lists: what stands there, rising -/
def w_lz1 (A : Nat → Bool) (j : Nat) (st : Nat × (Nat → Int32)) : Prop := (∀ i, i < st.1 → ∃ p, p < j ∧ st.2 i = nI p ∧ A p = true) ∧ (∀ i k p q, i < k → k < st.1 → p < 2 ^ 31 → q < 2 ^ 31 → st.2 i = nI p → st.2 k = nI q → p < q) ∧ (∀ p, p < j → A p = true → ∃ i, i < st.1 ∧ st.2 i = nI p)
theorem w_ls1_st {A : Nat → Bool} {j : Nat} {st : Nat × (Nat → Int32)} (hj : j < 1000) (h : w_lz1 A j st) : w_lz1 A (j + 1) (w_pu A j st) := by
  obtain ⟨h1, h2, h3⟩ := h
  unfold w_pu
  by_cases e : A j = true
  · rw [if_pos e]
    refine ⟨fun i hi => ?_, fun i k p q hik hk hp hq ei ek => ?_, fun p hp hA => ?_⟩
    · by_cases ei : i = st.1
      · exact ⟨j, by omega, by show va_up st.2 st.1 (nI j) i = nI j; rw [ei, q_upE], e⟩
      · have hi' : i < st.1 + 1 := hi
        obtain ⟨p, p1, p2, p3⟩ := h1 i (by omega)
        exact ⟨p, by omega, by show va_up st.2 st.1 (nI j) i = nI p; rw [q_upN _ _ ei]; exact p2, p3⟩
    · have hk' : k < st.1 + 1 := hk
      have ei' : va_up st.2 st.1 (nI j) i = nI p := ei
      have ek' : va_up st.2 st.1 (nI j) k = nI q := ek
      rw [q_upN _ _ (by omega)] at ei'
      by_cases e2 : k = st.1
      · rw [e2, q_upE] at ek'
        have hjq : j = q := (nI_eq (by omega) (by omega)).mp ek'
        obtain ⟨p', p1, p2, _⟩ := h1 i (by omega)
        rw [ei'] at p2
        have := (nI_eq (by omega) (by omega)).mp p2
        omega
      · rw [q_upN _ _ e2] at ek'
        exact h2 i k p q hik (by omega) hp hq ei' ek'
    · by_cases ep : p = j
      · exact ⟨st.1, by show st.1 < st.1 + 1; omega, by show va_up st.2 st.1 (nI j) st.1 = nI p; rw [q_upE, ep]⟩
      · obtain ⟨i, i1, i2⟩ := h3 p (by omega) hA
        exact ⟨i, by show i < st.1 + 1; omega, by show va_up st.2 st.1 (nI j) i = nI p; rw [q_upN _ _ (by omega)]; exact i2⟩
  · rw [if_neg e]
    refine ⟨fun i hi => ?_, h2, fun p hp hA => ?_⟩
    · obtain ⟨p, p1, p2⟩ := h1 i hi
      exact ⟨p, by omega, p2⟩
    · by_cases ep : p = j
      · rw [ep] at hA; exact absurd hA e
      · exact h3 p (by omega) hA
theorem w_ls1_it {A : Nat → Bool} : ∀ (c j : Nat) (st : Nat × (Nat → Int32)), j + c ≤ 1000 → w_lz1 A j st → w_lz1 A (j + c) (q_it (w_pu A) c j st) := by
  intro c
  induction c with
  | zero => intro j st _ h; exact h
  | succ c ih =>
    intro j st hj h
    have e : q_it (w_pu A) (c + 1) j st = q_it (w_pu A) c (j + 1) (w_pu A j st) := rfl
    rw [e, show j + (c + 1) = j + 1 + c by omega]
    exact ih (j + 1) _ (by omega) (w_ls1_st (by omega) h)
theorem w_ls1_0 (A : Nat → Bool) : w_lz1 A 0 (0, fun _ => 0) := ⟨fun i hi => absurd hi (Nat.not_lt_zero i), fun i k p q _ hk => absurd hk (Nat.not_lt_zero k), fun p hp => absurd hp (Nat.not_lt_zero p)⟩
