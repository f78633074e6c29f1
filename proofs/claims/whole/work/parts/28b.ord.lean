theorem w_ls1_q {A : Nat → Bool} {N : Nat} (hN : N ≤ 1000) {q : Nat × (Nat → Int32)} (hq : q = q_it (w_pu A) N 0 (0, fun _ => 0)) : w_lz1 A N q := by
  have := w_ls1_it (A := A) N 0 (0, fun _ => 0) (by omega) (w_ls1_0 A)
  rw [Nat.zero_add] at this
  rw [hq]
  exact this
theorem w_ls1_gr {seat : Nat → Int32} {P : Nat} (hP : P ≤ 6) (hun : ∀ j, P ≤ j → j < 6 → seat j = -1) {q : Nat × (Nat → Int32)} (h : w_lz1 (fun j => decide (¬ seat j = -1)) P q) : w_gr q.1 seat q.2 := by
  obtain ⟨h1, h2, h3⟩ := h
  refine ⟨fun k hk => ?_, fun i j hi hj e => ?_, fun p hp hs => ?_⟩
  · obtain ⟨p, p1, p2, p3⟩ := h1 k hk
    exact ⟨p, by omega, p2, of_decide_eq_true p3⟩
  · obtain ⟨p, p1, p2, _⟩ := h1 i hi
    obtain ⟨r, r1, r2, _⟩ := h1 j hj
    have epr : p = r := (nI_eq (by omega) (by omega)).mp (p2.symm.trans (e.trans r2))
    rcases Nat.lt_trichotomy i j with y | y | y
    · have := h2 i j p r y hj (by omega) (by omega) p2 r2; omega
    · exact y
    · have := h2 j i r p y hi (by omega) (by omega) r2 p2; omega
  · have hpP : p < P := by
      rcases Nat.lt_or_ge p P with y | y
      · exact y
      · exact absurd (hun p y hp) hs
    exact h3 p hpP (decide_eq_true hs)
theorem w_ls1_pm {A : Nat → Bool} {P : Nat} (hP : P ≤ 6) {q : Nat × (Nat → Int32)} (h : w_lz1 A P q) (hM : q.1 ≤ 6) : w_shr q.1 ([1, 1, 2, 6, 24, 120, 720].getD q.1 0) q.2 := by
  obtain ⟨h1, h2, h3⟩ := h
  have e : ∀ i, i < q.1 → q.2 i = nI (q.2 i).toNatClampNeg ∧ (q.2 i).toNatClampNeg < 6 := fun i hi => by
    obtain ⟨p, p1, p2, _⟩ := h1 i hi
    rw [p2, nI_clamp (by omega)]
    exact ⟨rfl, by omega⟩
  refine w_pm hM (p := fun i => (q.2 i).toNatClampNeg) (fun i j hi hj => ?_) (fun i hi => (e i hi).2) (fun j hj => (e j hj).1)
  have g1 := e i hi
  have g2 := e j hj
  rcases Nat.lt_trichotomy i j with y | y | y
  · exact ⟨fun _ => y, fun _ => h2 i j _ _ y hj (by omega) (by omega) g1.1 g2.1⟩
  · subst y; exact ⟨fun z => absurd z (Nat.lt_irrefl _), fun z => absurd z (Nat.lt_irrefl _)⟩
  · have := h2 j i _ _ y hi (by omega) (by omega) g2.1 g1.1
    exact ⟨fun z => absurd (Nat.lt_trans this z) (Nat.lt_irrefl _), fun z => absurd z (by omega)⟩
/-- seats: different ones -/
def w_gt (M : Nat) (tk : Nat → Int32) : Prop := (∀ k, k < M → ∃ s, s < 16 ∧ tk k = nI s) ∧ (∀ i j, i < M → j < M → tk i = tk j → i = j)
theorem w_gt_cg {M : Nat} {tk tk' : Nat → Int32} (h : w_gt M tk) (e : ∀ k, k < M → tk' k = tk k) : w_gt M tk' :=
  ⟨fun k hk => by rw [e k hk]; exact h.1 k hk, fun i j hi hj => by rw [e i hi, e j hj]; exact h.2 i j hi hj⟩
theorem w_ls1_gt {A : Nat → Bool} {N : Nat} (hN : N ≤ 16) {q : Nat × (Nat → Int32)} (h : w_lz1 A N q) : w_gt q.1 q.2 := by
  obtain ⟨h1, h2, _⟩ := h
  refine ⟨fun k hk => ?_, fun i j hi hj e => ?_⟩
  · obtain ⟨p, p1, p2, _⟩ := h1 k hk
    exact ⟨p, by omega, p2⟩
  · obtain ⟨p, p1, p2, _⟩ := h1 i hi
    obtain ⟨r, r1, r2, _⟩ := h1 j hj
    have epr : p = r := (nI_eq (by omega) (by omega)).mp (p2.symm.trans (e.trans r2))
    rcases Nat.lt_trichotomy i j with y | y | y
    · have := h2 i j p r y hj (by omega) (by omega) p2 r2; omega
    · exact y
    · have := h2 j i r p y hi (by omega) (by omega) r2 p2; omega
/-- who is on a seat -/
theorem w_fs_cg {tk tk' best best' : Nat → Int32} {x : Int32} : ∀ (c k : Nat), (∀ i, k ≤ i → i < k + c → tk' i = tk i ∧ best' i = best i) → q_fs tk' best' x c k = q_fs tk best x c k := by
  intro c
  induction c with
  | zero => intro k _; rfl
  | succ c ih =>
    intro k h
    unfold q_fs
    rw [(h k (Nat.le_refl _) (by omega)).1, (h k (Nat.le_refl _) (by omega)).2, ih (k + 1) (fun i h1 h2 => h i (by omega) (by omega))]
/-- the sum looks at places of those only who sit -/
theorem w_al_or {a tx seat row tk tk' row' pl pl' : Nat → Int32} {M L st : Nat} (hr : w_gr M seat row) (ht : w_gt M tk) (er : ∀ k, k < M → row' k = row k) (et : ∀ k, k < M → tk' k = tk k) (hpl : ∀ p, p < 6 → seat p = -1 → pl p < 0) :
    q_al a tx (w_pua row' tk' M 0 pl') (q_an (w_si seat) st) L = q_al a tx (w_pua row tk M 0 pl) (q_an 63 st) L := by
  rw [w_pua_cg (row := row) (row' := row') (tk := tk) (tk' := tk') (c := M) (j := 0) (fun k _ hk => ⟨er k (by omega), et k (by omega)⟩) pl']
  have h63 : ∀ j, j < 6 → (63 : Nat).testBit j = true := by decide
  refine w_al_m (fun j hj => ?_) (fun j hj _ h0 => ?_)
  · rw [q_anT, q_anT, h63 j hj, Bool.and_eq_true, Bool.and_eq_true, w_siT, decide_eq_true_iff]
    by_cases hs : seat j = -1
    · rw [w_gr_pua_o hr hj hs]
      exact ⟨fun z => absurd z.2 (q_lt0.mp (hpl j hj hs)), fun z => absurd hs z.1.1.2⟩
    · obtain ⟨k, k1, k2, k3⟩ := w_gr_pua (tk := tk) (pl := pl) hr hj hs
      obtain ⟨k', k1', k2', k3'⟩ := w_gr_pua (tk := tk) (pl := pl') hr hj hs
      have ek : k' = k := hr.2.1 k' k k1' k1 (k2'.trans k2.symm)
      subst ek
      rw [k3, k3']
      exact ⟨fun z => ⟨⟨⟨hj, hs⟩, z.1.2⟩, z.2⟩, fun z => ⟨⟨rfl, z.1.2⟩, z.2⟩⟩
  · by_cases hs : seat j = -1
    · rw [w_gr_pua_o hr hj hs] at h0
      exact absurd h0 (q_lt0.mp (hpl j hj hs))
    · obtain ⟨k, k1, k2, k3⟩ := w_gr_pua (tk := tk) (pl := pl) hr hj hs
      obtain ⟨k', k1', k2', k3'⟩ := w_gr_pua (tk := tk) (pl := pl') hr hj hs
      have ek : k' = k := hr.2.1 k' k k1' k1 (k2'.trans k2.symm)
      subst ek
      rw [k3, k3']
/-- laws that ask for no place: every order is as loud -/
theorem w_rd_i {a tx pl pl' : Nat → Int32} {l m g : Nat} (hi : ∀ j r r' u u' v, q_la a tx l j r u v = q_la a tx l j r' u' v) (hp : ∀ j, j < 6 → ((0 : Int32) ≤ pl' j ↔ (0 : Int32) ≤ pl j)) : q_rd a tx pl' l m g = q_rd a tx pl l m g := by
  refine q_ext (k := 6) (q_rdL _ _ _ _ _ _) (q_rdL _ _ _ _ _ _) (fun j hj => ?_)
  rw [Bool.eq_iff_iff, q_rdT, q_rdT]
  unfold q_cm2
  rw [hp j hj, hi j (pl' j / 4) (pl j / 4) (q_nearOf (nI g) pl' j 6 0 0) (q_nearOf (nI g) pl j 6 0 0)]
theorem w_wv_i {a tx pl pl' : Nat → Int32} {l m : Nat} (hi : ∀ j r r' u u' v, q_la a tx l j r u v = q_la a tx l j r' u' v) (hp : ∀ j, j < 6 → ((0 : Int32) ≤ pl' j ↔ (0 : Int32) ≤ pl j)) : ∀ (f g r : Nat), q_wv a tx pl' l m f g r = q_wv a tx pl l m f g r := by
  intro f
  induction f with
  | zero => intro g r; rfl
  | succ f ih =>
    intro g r
    unfold q_wv
    rw [w_rd_i hi hp, ih]
theorem w_al_i {a tx pl pl' : Nat → Int32} {m L : Nat} (hi : ∀ l j r r' u u' v, q_la a tx l j r u v = q_la a tx l j r' u' v) (hp : ∀ j, j < 6 → ((0 : Int32) ≤ pl' j ↔ (0 : Int32) ≤ pl j)) : q_al a tx pl' m L = q_al a tx pl m L :=
  q_itC L 0 0 (fun l y _ _ => by unfold q_lb; rw [w_wv_i (hi l) hp])
theorem w_ty_in {tx : Nat → Int32} {k L : Nat} : ∀ (c i : Nat) (s s' : Nat × Nat), q_tyr tx k L c i s = some s' → ∀ x, i ≤ x → x < i + c → ∃ n t r, q_tq L (tx (k + 2 * x)) (tx (k + 2 * x + 1)) n t = some r := by
  intro c
  induction c with
  | zero => intro i s s' _ x h1 h2; omega
  | succ c ih =>
    intro i s s' h x h1 h2
    unfold q_tyr at h
    cases hq : q_tq L (tx (k + 2 * i)) (tx (k + 2 * i + 1)) s.1 s.2 with
    | none => rw [hq] at h; exact absurd h (fun q => by cases q)
    | some r =>
      rw [hq] at h
      by_cases e : x = i
      · subst e; exact ⟨_, _, _, hq⟩
      · exact ih (i + 1) r s' h x (by omega) (by omega)
theorem w_tq_1 {L n t : Nat} {o v : Int32} {r : Nat × Nat} (h : q_tq L o v n t = some r) (h1 : o ≤ 1) : o = 0 ∨ (o = 1 ∧ v = nI v.toNatClampNeg) := by
  unfold q_tq at h
  by_cases e0 : o = 0
  · exact Or.inl e0
  · rw [if_neg e0] at h
    by_cases e1 : o = 1
    · rw [if_pos e1] at h
      by_cases e2 : q_nmok L v.toNatClampNeg = true ∧ v = nI v.toNatClampNeg
      · exact Or.inr ⟨e1, e2.2⟩
      · rw [if_neg e2] at h; exact absurd h (fun q => by cases q)
    · exfalso
      rw [fa_le] at h1
      have i1 : (1 : Int32).toInt = 1 := by decide
      rw [i1] at h1
      have n2 : ¬ o = 2 := fun e => by rw [e] at h1; exact absurd h1 (by decide)
      have n3 : ¬ (3 ≤ o ∧ o ≤ 6) := fun e => by
        have := (fa_le _ _).mp e.1
        rw [show (3 : Int32).toInt = 3 by decide] at this; omega
      have n10 : ¬ (10 ≤ o ∧ o ≤ 15) := fun e => by
        have := (fa_le _ _).mp e.1
        rw [show (10 : Int32).toInt = 10 by decide] at this; omega
      have n20 : ¬ o = 20 := fun e => by rw [e] at h1; exact absurd h1 (by decide)
      have n21 : ¬ (o = 21 ∨ o = 22) := fun e => by
        rcases e with e | e <;> (rw [e] at h1; exact absurd h1 (by decide))
      rw [if_neg e1, if_neg n2, if_neg n3, if_neg n10, if_neg n20, if_neg n21] at h
      exact absurd h (fun q => by cases q)
/-- what a law says does not hang on names that it doesn't use -/
theorem w_ev_nm {tx nm nm' : Nat → Int32} {k F E L : Nat} {s' : Nat × Nat} (hty : q_tyr tx k L (E - F) F (0, 0) = some s') (hno : ∀ i, F ≤ i → i < E → ¬ (tx (k + 2 * i) = 1 ∧ (tx (k + 2 * i + 1) = 2 ∨ tx (k + 2 * i + 1) = 5))) (hn : ∀ i, ¬ i = 2 → ¬ i = 5 → nm' i = nm i) : q_ev tx k F E nm' = q_ev tx k F E nm := by
  unfold q_ev
  refine q_itC (E - F) F q_e0 (fun i s h1 h2 => ?_)
  obtain ⟨n, t, r, hr⟩ := w_ty_in (E - F) F (0, 0) s' hty i h1 h2
  unfold q_es
  by_cases e : tx (k + 2 * i) ≤ 1
  · rw [if_pos e, if_pos e]
    rcases w_tq_1 hr e with h | ⟨h, hv⟩
    · rw [if_pos h, if_pos h]
    · have hne : ¬ tx (k + 2 * i) = 0 := fun z => by rw [h] at z; exact absurd z (by decide)
      rw [if_neg hne, if_neg hne]
      have hh := hno i h1 (by omega)
      rw [hn (tx (k + 2 * i + 1)).toNatClampNeg (fun z => hh ⟨h, Or.inl (by rw [hv, z]; rfl)⟩) (fun z => hh ⟨h, Or.inr (by rw [hv, z]; rfl)⟩)]
  · rw [if_neg e, if_neg e]
