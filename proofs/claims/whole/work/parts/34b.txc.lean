/-! A NEW TEXT leaves what the elder ones mean -/
theorem t_lO84 {k L : Nat} (h : q_lO k = some L) : k < 84 := by
  rcases Nat.lt_or_ge k 84 with y | y
  · exact y
  · unfold q_lO at h
    rw [List.getD_eq_getElem?_getD, List.getElem?_eq_none (by show 84 ≤ k; exact y)] at h
    cases h
theorem t_rO84 {k j b : Nat} (h : q_rO k j = some b) : k < 84 := by
  rcases Nat.lt_or_ge k 84 with y | y
  · exact y
  · unfold q_rO at h
    rw [List.getD_eq_getElem?_getD (l := q_rT), List.getElem?_eq_none (by show 84 ≤ k; exact y)] at h
    have h' : (([] : List (Option Nat)).getD j none) = some b := h
    rw [List.getD_eq_getElem?_getD, List.getElem?_nil] at h'
    cases h'
theorem t_cla_cg {tx tx' : Nat → Int32} {t : Nat} {x : Int32} : ∀ (c j : Nat), (∀ i, i < 680 * (t + 1) → tx' i = tx i) → j + c ≤ 24 → q_cla tx' t x c j = q_cla tx t x c j := by
  intro c
  induction c with
  | zero => intro j _ _; rfl
  | succ c ih =>
    intro j h hj
    unfold q_cla
    rw [h _ (by omega), ih (j + 1) h (by omega)]
section
variable {ln : Nat → Nat} {di : Nat → Nat → Int32} {a tx tx' : Nat → Int32} {T : Nat}
theorem t_kl_cg (h5 : a 5 = -1 ∨ ∃ t z, t < T ∧ a 5 = nI t ∧ q_TX ln di z tx t) (hT : T ≤ 4) (htx : ∀ i, i < 680 * T → tx' i = tx i) {x : Nat} (hx : x < 3) : q_kl5 a tx' (nI x) = q_kl5 a tx (nI x) ∧ (q_kl5 a tx (nI x) < 0 ∨ ∀ nm, q_lv a tx' (nI x) nm = q_lv a tx (nI x) nm) := by
  rcases h5 with e | ⟨t, z, t1, t2, t3⟩
  · have n : a 5 < 0 := by rw [e]; decide
    unfold q_kl5
    rw [if_pos n, if_pos n]
    exact ⟨rfl, Or.inl (by decide)⟩
  · obtain ⟨NN, W, w1, w2, w3, _, _, _, _, _, _, w10, _, _⟩ := t3
    have n : ¬ a 5 < 0 := by rw [t2]; exact nI_pos (by omega)
    have ct : (a 5).toNatClampNeg = t := by rw [t2]; exact nI_clamp (by omega)
    have e0 : tx' (680 * t) = nI NN := by rw [htx _ (by omega)]; exact w3
    have hag : ∀ i, i < 680 * (t + 1) → tx' i = tx i := fun i hi => htx i (by omega)
    have ek : q_kl5 a tx (nI x) = q_cla tx t (nI x) NN 0 := by
      unfold q_kl5
      rw [if_neg n, ct, w3, nI_clamp (by omega)]
    have ek' : q_kl5 a tx' (nI x) = q_kl5 a tx (nI x) := by
      rw [ek]
      unfold q_kl5
      rw [if_neg n, ct, e0, nI_clamp (by omega), t_cla_cg NN 0 hag (by omega)]
    refine ⟨ek', ?_⟩
    rcases q_cla_some (tx := tx) (t := t) (x := nI x) NN 0 (by omega) with q | ⟨k, k1, k2, k3, k4⟩
    · exact Or.inl (by rw [ek, q]; decide)
    · refine Or.inr (fun nm => ?_)
      obtain ⟨so, so1, so2, _, _, _, so6⟩ := w10 k (by omega)
      have es : so = x := (nI_eq (by omega) (by omega)).mp (so2.symm.trans k4)
      obtain ⟨F, E, f1, f2, f3, f4, _⟩ := so6 (by omega)
      have ekk : q_kl5 a tx (nI x) = nI k := by rw [ek]; exact k3
      unfold q_lv
      rw [ek', ekk, ct, nI_clamp (show k < 2 ^ 31 by omega), hag _ (by omega), hag _ (by omega), f3, f4, nI_clamp (show F < 2 ^ 31 by omega), nI_clamp (show E < 2 ^ 31 by omega)]
      unfold q_ev
      refine q_itC _ _ _ (fun i s i1 i2 => ?_)
      rw [hag _ (by omega), hag _ (by omega)]
theorem t_la_cg (h5 : a 5 = -1 ∨ ∃ t z, t < T ∧ a 5 = nI t ∧ q_TX ln di z tx t) (hT : T ≤ 4) (htx : ∀ i, i < 680 * T → tx' i = tx i) {l j : Nat} {row near all : Int32} : q_la a tx' l j row near all = q_la a tx l j row near all := by
  obtain ⟨h1, h2⟩ := t_kl_cg h5 hT htx (x := 0) (by decide)
  have h1' : q_kl5 a tx' 0 = q_kl5 a tx 0 := h1
  unfold q_la
  rw [h1']
  rcases h2 with q | q
  · rw [if_pos (show q_kl5 a tx 0 < 0 from q), if_pos (show q_kl5 a tx 0 < 0 from q)]
  · rw [show q_lv a tx' 0 (q_nl0 a l j row near all) = q_lv a tx 0 (q_nl0 a l j row near all) from q _]
theorem t_lo_cg (h5 : a 5 = -1 ∨ ∃ t z, t < T ∧ a 5 = nI t ∧ q_TX ln di z tx t) (hT : T ≤ 4) (htx : ∀ i, i < 680 * T → tx' i = tx i) {l : Nat} {many rounds coughs : Int32} : q_lo a tx' l many rounds coughs = q_lo a tx l many rounds coughs := by
  obtain ⟨h1, h2⟩ := t_kl_cg h5 hT htx (x := 1) (by decide)
  have h1' : q_kl5 a tx' 1 = q_kl5 a tx 1 := h1
  unfold q_lo
  rw [h1']
  rcases h2 with q | q
  · rw [if_pos (show q_kl5 a tx 1 < 0 from q), if_pos (show q_kl5 a tx 1 < 0 from q)]
  · rw [show q_lv a tx' 1 (q_nl1 a l many rounds coughs) = q_lv a tx 1 (q_nl1 a l many rounds coughs) from q _]
end
section
variable {a tx tx' : Nat → Int32}
theorem t_rd_cg (hla : ∀ l j row near all, q_la a tx' l j row near all = q_la a tx l j row near all) {pl : Nat → Int32} {l m g : Nat} : q_rd a tx' pl l m g = q_rd a tx pl l m g := by
  unfold q_rd
  refine q_itC _ _ _ (fun i s _ _ => ?_)
  rw [hla]
theorem t_wv_cg (hla : ∀ l j row near all, q_la a tx' l j row near all = q_la a tx l j row near all) {pl : Nat → Int32} {l m : Nat} : ∀ (f g r : Nat), q_wv a tx' pl l m f g r = q_wv a tx pl l m f g r := by
  intro f
  induction f with
  | zero => intro g r; rfl
  | succ f ih =>
    intro g r
    unfold q_wv
    rw [t_rd_cg hla, ih]
theorem t_al_cg (hla : ∀ l j row near all, q_la a tx' l j row near all = q_la a tx l j row near all) (hlo : ∀ l many rounds coughs, q_lo a tx' l many rounds coughs = q_lo a tx l many rounds coughs) {pl : Nat → Int32} {m L : Nat} : q_al a tx' pl m L = q_al a tx pl m L := by
  unfold q_al
  refine q_itC _ _ _ (fun i s _ _ => ?_)
  unfold q_lb
  rw [t_wv_cg hla, hlo]
theorem t_qs_cg (hal : ∀ pl m L, q_al a tx' pl m L = q_al a tx pl m L) {tk : Nat → Int32} {L M m : Nat} : ∀ (f : Nat) (pl row : Nat → Int32) (least : Int32) (best : Nat → Int32), q_qs a tx' tk L M m f pl row least best = q_qs a tx tk L M m f pl row least best := by
  intro f
  induction f with
  | zero => intro pl row least best; rfl
  | succ f ih =>
    intro pl row least best
    unfold q_qs
    simp only [hal]
    cases q_nx M row with
    | none => rfl
    | some row' => exact ih _ _ _ _
theorem t_CE_cg {r54 r55 r56 : Nat → Int32} {P L : Nat} (hla : ∀ l j row near all, q_la a tx' l j row near all = q_la a tx l j row near all) (hlo : ∀ l many rounds coughs, q_lo a tx' l many rounds coughs = q_lo a tx l many rounds coughs) (h : q_CE r54 r55 r56 a tx P L) : q_CE r54 r55 r56 a tx' P L := by
  unfold q_CE at h ⊢
  simp only [hla, hlo]
  exact h
theorem t_CR_cg {r60 r61 r66 : Nat → Int32} {P L : Nat} (hla : ∀ l j row near all, q_la a tx' l j row near all = q_la a tx l j row near all) (hlo : ∀ l many rounds coughs, q_lo a tx' l many rounds coughs = q_lo a tx l many rounds coughs) (h : q_CR r60 r61 r66 a tx P L) : q_CR r60 r61 r66 a tx' P L := by
  have hal : ∀ pl m L, q_al a tx' pl m L = q_al a tx pl m L := fun pl m L => t_al_cg hla hlo
  have hqu : q_qu a tx' P L = q_qu a tx P L := by unfold q_qu; exact t_qs_cg hal _ _ _ _ _
  unfold q_CR at h ⊢
  rw [hqu]
  refine ⟨fun m hm => ?_, h.2⟩
  rw [hal]
  exact h.1 m hm
end
/-- a script of the elder heap means what it did -/
theorem t_TX_cg {ln ln' : Nat → Nat} {di di' : Nat → Nat → Int32} {z t n : Nat} {tx tx' : Nat → Int32} (h : q_TX ln di z tx t) (hz : q_scr n z) (hl : ∀ k, 84 ≤ k → k < n → ln' k = ln k ∧ di' k = di k) (htx : ∀ i, i < 680 * (t + 1) → tx' i = tx i) : q_TX ln' di' z tx' t := by
  obtain ⟨N, W, w1, w2, w3, w4, w5, w6, w7, w8, w9, w10, w11, w12⟩ := h
  obtain ⟨z1, z2, z3⟩ := hz
  have e0 := hl (z + 1 + 0) (by omega) (by omega)
  have e1 := hl (z + 1 + 1) (by omega) (by omega)
  have e2 := hl (z + 1 + 2) (by omega) (by omega)
  have e3 := hl (z + 1 + 3) (by omega) (by omega)
  have e4 := hl (z + 1 + 4) (by omega) (by omega)
  have e5 := hl (z + 1 + 5) (by omega) (by omega)
  have ez := hl z (by omega) (by omega)
  refine ⟨N, W, w1, w2, by rw [htx _ (by omega)]; exact w3, e0.1.trans w4, e1.1.trans w5, e2.1.trans w6, e3.1.trans w7, e4.1.trans w8, e5.1.trans w9, fun k hk => ?_, fun x hx hn => ?_, fun i hi => ?_⟩
  · obtain ⟨so, s1, s2, s3, s4, s5, s6⟩ := w10 k hk
    rw [e3.2, e4.2, e5.2, e1.2, e2.2, ez.2, htx _ (by omega), htx _ (by omega), htx _ (by omega)]
    refine ⟨so, s1, s2, s3, s4, s5, fun h3 => ?_⟩
    obtain ⟨F, E, f1, f2, f3, f4, f5, f6, f7, f8⟩ := s6 h3
    have ty : ∀ (c i : Nat) (s : Nat × Nat), i + c ≤ 300 → q_tyr tx' (680 * t + 75) so c i s = q_tyr tx (680 * t + 75) so c i s := by
      intro c
      induction c with
      | zero => intro i s _; rfl
      | succ c ih =>
        intro i s hi
        unfold q_tyr
        rw [htx _ (by omega), htx _ (by omega)]
        cases q_tq so (tx (680 * t + 75 + 2 * i)) (tx (680 * t + 75 + 2 * i + 1)) s.1 s.2 with
        | none => rfl
        | some s' => exact ih (i + 1) s' (by omega)
    refine ⟨F, E, f1, f2, f3, f4, f5, f6, by rw [ty _ _ _ (by omega)]; exact f7, fun h0 h6 i i1 i2 => ?_⟩
    rw [htx _ (by omega), htx _ (by omega)]
    exact f8 h0 h6 i i1 i2
  · rw [e1.2, e2.2]
    refine w11 x hx (fun k hk => ?_)
    rw [← htx _ (by omega)]
    exact hn k hk
  · rw [e0.2, htx _ (by omega), htx _ (by omega)]
    exact w12 i hi
