/-! what is meant looks at few of the model's cells -/
theorem w_rd_a {a a' tx pl : Nat → Int32} {l m g : Nat} (h5 : a' 5 = a 5) (hp : ∀ j, j < 6 → (0 : Int32) ≤ pl j → a' (10 + 6 * j + 0) = a (10 + 6 * j + 0) ∧ a' (10 + 6 * j + 1) = a (10 + 6 * j + 1)) (hl : a' (46 + 2 * l) = a (46 + 2 * l) ∧ a' (46 + 2 * l + 1) = a (46 + 2 * l + 1)) : q_rd a' tx pl l m g = q_rd a tx pl l m g := by
  refine q_itC 6 0 0 (fun i x _ hi => ?_)
  by_cases h : (0 : Int32) ≤ pl i
  · rw [q_la_cg h5 (hp i (by omega) h).1 (hp i (by omega) h).2 hl.1 hl.2]
  · rw [if_neg (fun z => h z.2.1), if_neg (fun z => h z.2.1)]
theorem w_wv_a {a a' tx pl : Nat → Int32} {l m : Nat} (h5 : a' 5 = a 5) (hp : ∀ j, j < 6 → (0 : Int32) ≤ pl j → a' (10 + 6 * j + 0) = a (10 + 6 * j + 0) ∧ a' (10 + 6 * j + 1) = a (10 + 6 * j + 1)) (hl : a' (46 + 2 * l) = a (46 + 2 * l) ∧ a' (46 + 2 * l + 1) = a (46 + 2 * l + 1)) : ∀ f g r, q_wv a' tx pl l m f g r = q_wv a tx pl l m f g r := by
  intro f
  induction f with
  | zero => intro g r; rfl
  | succ f ih => intro g r; unfold q_wv; rw [w_rd_a h5 hp hl, ih]
theorem w_lb_a {a a' tx pl : Nat → Int32} {l m : Nat} (h5 : a' 5 = a 5) (hp : ∀ j, j < 6 → (0 : Int32) ≤ pl j → a' (10 + 6 * j + 0) = a (10 + 6 * j + 0) ∧ a' (10 + 6 * j + 1) = a (10 + 6 * j + 1)) (hl : a' (46 + 2 * l) = a (46 + 2 * l) ∧ a' (46 + 2 * l + 1) = a (46 + 2 * l + 1)) : q_lb a' tx pl l m = q_lb a tx pl l m := by
  unfold q_lb
  rw [w_wv_a h5 hp hl, q_lo_cg h5 hl.1 hl.2]
theorem w_al_a {a a' tx pl : Nat → Int32} {m L : Nat} (h5 : a' 5 = a 5) (hp : ∀ j, j < 6 → (0 : Int32) ≤ pl j → a' (10 + 6 * j + 0) = a (10 + 6 * j + 0) ∧ a' (10 + 6 * j + 1) = a (10 + 6 * j + 1)) (hl : ∀ l, l < L → a' (46 + 2 * l) = a (46 + 2 * l) ∧ a' (46 + 2 * l + 1) = a (46 + 2 * l + 1)) : q_al a' tx pl m L = q_al a tx pl m L :=
  q_itC L 0 0 (fun i x _ hi => by rw [w_lb_a h5 hp (hl i (by omega))])
/-- orders: what holds of all entries holds of all entries of the next order -/
theorem w_sw_all {S : Int32 → Prop} {M : Nat} {row : Nat → Int32} (h : ∀ k, k < M → S (row k)) {i k : Nat} (hi : i < M) (hk : k < M) : ∀ x, x < M → S (q_sw row i k x) := by
  intro x hx
  unfold q_sw
  by_cases e : x = k
  · subst e; rw [q_upE]; exact h i hi
  · rw [q_upN _ _ e]
    by_cases e2 : x = i
    · subst e2; rw [q_upE]; exact h k hk
    · rw [q_upN _ _ e2]; exact h x hx
theorem w_rv_all {S : Int32 → Prop} {M : Nat} : ∀ (f : Nat) (row : Nat → Int32) (p q : Nat), q < M → (∀ k, k < M → S (row k)) → ∀ x, x < M → S (q_rv f row p q x) := by
  intro f
  induction f with
  | zero => intro row p q _ h; exact h
  | succ f ih =>
    intro row p q hq h
    unfold q_rv
    by_cases e : p < q
    · rw [if_pos e]; exact ih _ _ _ (by omega) (w_sw_all h (by omega) hq)
    · rw [if_neg e]; exact h
theorem w_nxi_lt {row : Nat → Int32} : ∀ (k i : Nat), q_nxi row k = some i → i < k := by
  intro k
  induction k with
  | zero => intro i h; cases h
  | succ k ih =>
    intro i h
    unfold q_nxi at h
    by_cases e : row (k + 1) < row k
    · rw [if_pos e] at h; have := ih i h; omega
    · rw [if_neg e] at h; cases h; omega
theorem w_nxk_le {row : Nat → Int32} {x : Int32} : ∀ k, q_nxk row x k ≤ k := by
  intro k
  induction k with
  | zero => exact Nat.le_refl _
  | succ k ih =>
    unfold q_nxk
    by_cases e : row (k + 1) < x
    · rw [if_pos e]; omega
    · rw [if_neg e]; omega
theorem w_nx_all {S : Int32 → Prop} {M : Nat} {row row' : Nat → Int32} (h : q_nx M row = some row') (hS : ∀ k, k < M → S (row k)) : ∀ k, k < M → S (row' k) := by
  unfold q_nx at h
  split at h
  · cases h
  · rename_i i hi
    cases h
    have h1 := w_nxi_lt _ _ hi
    have h2 := w_nxk_le (row := row) (x := row i) (M - 1)
    exact w_rv_all M _ _ _ (by omega) (w_sw_all hS (by omega) (by omega))
theorem w_put {tk row : Nat → Int32} {S : Nat → Prop} {M : Nat} (hrow : ∀ k, k < M → S (row k).toNatClampNeg) : ∀ (c k : Nat) (pl : Nat → Int32), k + c ≤ M → (∀ j, j < 6 → (0 : Int32) ≤ pl j → S j) → ∀ j, j < 6 → (0 : Int32) ≤ q_it (fun k pl => va_up pl (row k).toNatClampNeg (tk k)) c k pl j → S j := by
  intro c
  induction c with
  | zero => intro k pl _ h; exact h
  | succ c ih =>
    intro k pl hk h
    refine ih (k + 1) _ (by omega) (fun j hj hp => ?_)
    by_cases e : j = (row k).toNatClampNeg
    · rw [e]; exact hrow k (by omega)
    · have hp' : (0 : Int32) ≤ va_up pl (row k).toNatClampNeg (tk k) j := hp
      rw [q_upN _ _ e] at hp'; exact h j hj hp'
theorem w_qs_a {a a' tx tk : Nat → Int32} {L M m : Nat} {S : Nat → Prop} (h5 : a' 5 = a 5) (hp : ∀ j, j < 6 → S j → a' (10 + 6 * j + 0) = a (10 + 6 * j + 0) ∧ a' (10 + 6 * j + 1) = a (10 + 6 * j + 1)) (hl : ∀ l, l < L → a' (46 + 2 * l) = a (46 + 2 * l) ∧ a' (46 + 2 * l + 1) = a (46 + 2 * l + 1)) : ∀ (f : Nat) (pl row : Nat → Int32) (least : Int32) (best : Nat → Int32), (∀ k, k < M → S (row k).toNatClampNeg) → (∀ j, j < 6 → (0 : Int32) ≤ pl j → S j) → q_qs a' tx tk L M m f pl row least best = q_qs a tx tk L M m f pl row least best := by
  intro f
  induction f with
  | zero => intro pl row least best _ _; rfl
  | succ f ih =>
    intro pl row least best hrow hpl
    have hput := w_put (tk := tk) hrow M 0 pl (by omega) hpl
    have e1 : q_al a' tx (q_it (fun k pl => va_up pl (row k).toNatClampNeg (tk k)) M 0 pl) m L = q_al a tx (q_it (fun k pl => va_up pl (row k).toNatClampNeg (tk k)) M 0 pl) m L := w_al_a h5 (fun j hj h => hp j hj (hput j hj h)) hl
    unfold q_qs
    simp only [e1]
    cases hn : q_nx M row with
    | none => rfl
    | some row' => exact ih _ row' _ _ (w_nx_all (S := fun x => S x.toNatClampNeg) hn hrow) hput
/-- the rows of those who sit -/
theorem w_ro_all {seat : Nat → Int32} {S : Nat → Prop} (hS : ∀ j, j < 6 → ¬ seat j < 0 → S j) : ∀ (c j : Nat) (st : Nat × (Nat → Int32)), j + c ≤ 6 → (∀ k, k < st.1 → S (st.2 k).toNatClampNeg) → ∀ k, k < (q_it (fun j st => if seat j < 0 then st else (st.1 + 1, va_up st.2 st.1 (nI j))) c j st).1 → S ((q_it (fun j st => if seat j < 0 then st else (st.1 + 1, va_up st.2 st.1 (nI j))) c j st).2 k).toNatClampNeg := by
  intro c
  induction c with
  | zero => intro j st _ h; exact h
  | succ c ih =>
    intro j st hj h
    refine ih (j + 1) _ (by omega) ?_
    show ∀ k, k < (if seat j < 0 then st else (st.1 + 1, va_up st.2 st.1 (nI j))).1 → S ((if seat j < 0 then st else (st.1 + 1, va_up st.2 st.1 (nI j))).2 k).toNatClampNeg
    by_cases e : seat j < 0
    · rw [if_pos e]; exact h
    · rw [if_neg e]
      intro k hk
      simp only at hk ⊢
      by_cases ek : k = st.1
      · subst ek; rw [q_upE, nI_clamp (by omega)]; exact hS j (by omega) e
      · rw [q_upN _ _ ek]; exact h k (by omega)
/-- how many seats are taken: as many as persons sit (counts) -/
theorem w_tk_cg {seat seat' : Nat → Int32} {P P' : Nat} (h : ∀ s, s < 16 → q_on seat' (nI s) P' 0 = q_on seat (nI s) P 0) : q_tk seat' P' = q_tk seat P :=
  q_itC 16 0 _ (fun i x _ hi => by rw [h i (by omega)])
theorem w_on_ext {seat : Nat → Int32} {P P' : Nat} {x : Int32} (hP : P ≤ P') (h : ∀ j, P ≤ j → j < P' → ¬ seat j = x) : q_on seat x P' 0 = q_on seat x P 0 := by
  obtain ⟨c, rfl⟩ : ∃ c, P' = P + c := ⟨P' - P, by omega⟩
  exact q_on_app P c 0 (fun i h1 h2 => h i (by omega) (by omega))
theorem w_ro_cg {seat seat' : Nat → Int32} {P P' : Nat} (hP : P ≤ P') (hs : ∀ j, j < P → seat' j = seat j) (h : ∀ j, P ≤ j → j < P' → seat' j < 0) : q_ro seat' P' = q_ro seat P := by
  unfold q_ro
  rw [q_itP hP (fun i x h1 h2 => if_pos (h i h1 h2))]
  exact q_itC P 0 _ (fun i x _ hi => by rw [hs i (by omega)])
/-- the number of seats taken is the number of those who sit, so far as this: M of q_tk is at most the count of q_ro -/
theorem w_neg_of {x : Int32} (h : x = -1) : x < 0 := by rw [h]; decide
theorem w_put_pl {tk row pl pl' : Nat → Int32} (h : ∀ j, j < 6 → pl' j = pl j) : ∀ (c k : Nat) (p p' : Nat → Int32), (∀ j, j < 6 → p' j = p j) → ∀ j, j < 6 → q_it (fun k pl => va_up pl (row k).toNatClampNeg (tk k)) c k p' j = q_it (fun k pl => va_up pl (row k).toNatClampNeg (tk k)) c k p j := by
  intro c
  induction c with
  | zero => intro k p p' hp; exact hp
  | succ c ih =>
    intro k p p' hp
    refine ih (k + 1) _ _ (fun j hj => ?_)
    show va_up p' (row k).toNatClampNeg (tk k) j = va_up p (row k).toNatClampNeg (tk k) j
    by_cases e : j = (row k).toNatClampNeg
    · rw [e, q_upE, q_upE]
    · rw [q_upN _ _ e, q_upN _ _ e]; exact hp j hj
theorem w_qs_pl {a tx tk : Nat → Int32} {L M m : Nat} : ∀ (f : Nat) (pl pl' row : Nat → Int32) (least : Int32) (best : Nat → Int32), (∀ j, j < 6 → pl' j = pl j) → q_qs a tx tk L M m f pl' row least best = q_qs a tx tk L M m f pl row least best := by
  intro f
  induction f with
  | zero => intro pl pl' row least best _; rfl
  | succ f ih =>
    intro pl pl' row least best h
    have hput := w_put_pl (tk := tk) (row := row) h M 0 pl pl' h
    have e1 : q_al a tx (q_it (fun k pl => va_up pl (row k).toNatClampNeg (tk k)) M 0 pl') m L = q_al a tx (q_it (fun k pl => va_up pl (row k).toNatClampNeg (tk k)) M 0 pl) m L := q_al_cg hput
    unfold q_qs
    simp only [e1]
    cases hn : q_nx M row with
    | none => rfl
    | some row' => exact ih _ _ row' _ _ hput
theorem w_CR_cg {r60 r61 r66 a a' tx : Nat → Int32} {P P' L : Nat} {S : Nat → Prop} (h : q_CR r60 r61 r66 a tx P L) (hP' : P' ≤ 6) (h5 : a' 5 = a 5) (hseat : ∀ j, j < 6 → a' (10 + 6 * j + 3) = a (10 + 6 * j + 3)) (hstill : ∀ j, j < 6 → a' (10 + 6 * j + 4) = a (10 + 6 * j + 4)) (hp : ∀ j, j < 6 → S j → a' (10 + 6 * j + 0) = a (10 + 6 * j + 0) ∧ a' (10 + 6 * j + 1) = a (10 + 6 * j + 1)) (hl : ∀ l, l < L → a' (46 + 2 * l) = a (46 + 2 * l) ∧ a' (46 + 2 * l + 1) = a (46 + 2 * l + 1)) (hPP : P ≤ P') (hneg : ∀ j, P ≤ j → j < P' → a (10 + 6 * j + 3) = -1) (hS0 : ∀ k, k < (q_tk (q_pl a) P).1 → S ((q_ro (q_pl a) P).2 k).toNatClampNeg) (hSp : ∀ j, j < 6 → (0 : Int32) ≤ q_pl a j → S j) : q_CR r60 r61 r66 a' tx P' L := by
  have epl : ∀ j, j < 6 → q_pl a' j = q_pl a j := hseat
  have esm : q_sm a' = q_sm a := q_ms_cg hstill
  have eal : ∀ m, q_al a' tx (q_pl a') m L = q_al a tx (q_pl a) m L := fun m => by
    rw [q_al_cg epl]
    exact w_al_a h5 (fun j hj hn => hp j hj (hSp j hj hn)) hl
  have e1 : ∀ x, q_on (q_pl a') x P' 0 = q_on (q_pl a) x P' 0 := fun x => q_on_cg P' 0 (fun i _ hi => epl i (by omega))
  have etk : q_tk (q_pl a') P' = q_tk (q_pl a) P := w_tk_cg (fun s hs => by
    rw [e1]
    refine w_on_ext hPP (fun j h1 h2 z => ?_)
    have e : q_pl a j = -1 := hneg j h1 h2
    rw [e] at z
    exact absurd (congrArg Int32.toInt z) (by rw [q_tm1, nI_toInt (by omega)]; omega))
  have ero : q_ro (q_pl a') P' = q_ro (q_pl a) P := w_ro_cg hPP (fun j hj => epl j (by omega)) (fun j h1 h2 => by rw [epl j (by omega)]; exact w_neg_of (hneg j h1 h2))
  have equ : q_qu a' tx P' L = q_qu a tx P L := by
    unfold q_qu
    rw [etk, ero, esm, w_qs_pl 720 (q_pl a) (q_pl a') _ _ _ epl]
    exact w_qs_a h5 hp hl 720 _ _ _ _ hS0 hSp
  refine ⟨fun m hm => ?_, fun h9 => ?_⟩
  · rw [eal, esm]; exact h.1 m hm
  · rw [etk, equ]; exact h.2 h9
theorem w_CR_T {r60 r61 r66 a a' tx : Nat → Int32} {P L : Nat} (h : q_CR r60 r61 r66 a tx P L) (hP : P ≤ 6) (h5 : a' 5 = a 5) (hp : ∀ j, j < 6 → a' (10 + 6 * j + 0) = a (10 + 6 * j + 0) ∧ a' (10 + 6 * j + 1) = a (10 + 6 * j + 1) ∧ a' (10 + 6 * j + 3) = a (10 + 6 * j + 3) ∧ a' (10 + 6 * j + 4) = a (10 + 6 * j + 4)) (hl : ∀ l, l < L → a' (46 + 2 * l) = a (46 + 2 * l) ∧ a' (46 + 2 * l + 1) = a (46 + 2 * l + 1)) : q_CR r60 r61 r66 a' tx P L :=
  w_CR_cg (S := fun _ => True) h hP h5 (fun j hj => (hp j hj).2.2.1) (fun j hj => (hp j hj).2.2.2) (fun j hj _ => ⟨(hp j hj).1, (hp j hj).2.1⟩) hl (Nat.le_refl _) (fun j h1 h2 => absurd h1 (by omega)) (fun _ _ => trivial) (fun _ _ _ => trivial)
/-- after forgetting, all memos of the Reckoner are right -/
theorem w_CR_0 {r60 r61 r66 a tx : Nat → Int32} {P L : Nat} (h1 : ∀ m, m < 64 → r61 m = -1) (h9 : r60 9 = 0) : q_CR r60 r61 r66 a tx P L :=
  ⟨fun m hm => Or.inl (h1 m hm), fun h => absurd h9 h⟩
