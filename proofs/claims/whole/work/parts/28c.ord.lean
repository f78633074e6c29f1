/-! the quietest order, as the class seeks it: t turns -/
def w_qc (a tx tk : Nat → Int32) (L M m : Nat) : Nat → (Nat → Int32) → (Nat → Int32) → Int32 → (Nat → Int32) → Int32 × (Nat → Int32)
  | 0, _, _, least, best => (least, best)
  | f + 1, pl, row, least, best =>
    w_qc a tx tk L M m f (w_pua row tk M 0 pl) (match q_nx M row with | none => row | some r => r) (if q_al a tx (w_pua row tk M 0 pl) m L < least then q_al a tx (w_pua row tk M 0 pl) m L else least) (if q_al a tx (w_pua row tk M 0 pl) m L < least then row else best)
theorem w_pua_pl {row tk pl pl' : Nat → Int32} {p : Nat} : ∀ (c j : Nat) (pl pl' : Nat → Int32), pl' p = pl p → w_pua row tk c j pl' p = w_pua row tk c j pl p := by
  intro c
  induction c with
  | zero => intro j pl pl' h; exact h
  | succ c ih =>
    intro j pl pl' h
    show w_pua row tk c (j + 1) (va_up pl' (row j).toNatClampNeg (tk j)) p = w_pua row tk c (j + 1) (va_up pl (row j).toNatClampNeg (tk j)) p
    refine ih (j + 1) _ _ ?_
    by_cases e : p = (row j).toNatClampNeg
    · rw [e, q_upE, q_upE]
    · rw [q_upN _ _ e, q_upN _ _ e]; exact h
theorem w_pua2 {M : Nat} {seat row tk pl : Nat → Int32} (h : w_gr M seat row) : ∀ p, p < 6 → w_pua row tk M 0 (w_pua row tk M 0 pl) p = w_pua row tk M 0 pl p := by
  intro p hp
  by_cases hs : seat p = -1
  · exact w_gr_pua_o h hp hs
  · obtain ⟨k, k1, k2, k3⟩ := w_gr_pua (tk := tk) (pl := pl) h hp hs
    obtain ⟨k', k1', k2', k3'⟩ := w_gr_pua (tk := tk) (pl := w_pua row tk M 0 pl) h hp hs
    have ek : k' = k := h.2.1 k' k k1' k1 (k2'.trans k2.symm)
    subst ek
    rw [k3, k3']
/-- once the last order is heard, nothing changes -/
theorem w_qc_end {a tx tk seat : Nat → Int32} {L M m : Nat} {row : Nat → Int32} (hr : w_gr M seat row) (hn : q_nx M row = none) : ∀ (t : Nat) (pl : Nat → Int32) (least : Int32) (best : Nat → Int32), ¬ q_al a tx (w_pua row tk M 0 pl) m L < least → w_qc a tx tk L M m t pl row least best = (least, best) := by
  intro t
  induction t with
  | zero => intro pl least best _; rfl
  | succ t ih =>
    intro pl least best h
    unfold w_qc
    rw [hn, if_neg h, if_neg h]
    refine ih _ _ _ ?_
    rw [q_al_cg (w_pua2 (tk := tk) (pl := pl) hr)]
    exact h
theorem w_qs_qc {a tx tk seat : Nat → Int32} {L M m : Nat} : ∀ (t f : Nat) (pl row : Nat → Int32) (least : Int32) (best : Nat → Int32), t ≤ f → w_gr M seat row → w_shr M t row → q_qs a tx tk L M m f pl row least best = w_qc a tx tk L M m t pl row least best := by
  intro t
  induction t with
  | zero => intro f pl row least best _ _ h; exact h.elim
  | succ t ih =>
    intro f pl row least best hf hr h
    obtain ⟨f', rfl⟩ : ∃ f', f = f' + 1 := ⟨f - 1, by omega⟩
    unfold w_shr at h
    have ep : q_it (fun k pl => va_up pl (row k).toNatClampNeg (tk k)) M 0 pl = w_pua row tk M 0 pl := rfl
    unfold q_qs w_qc
    rw [ep]
    cases hn : q_nx M row with
    | none =>
      by_cases e : q_al a tx (w_pua row tk M 0 pl) m L < least
      · simp only [if_pos e]
        refine (w_qc_end hr hn t _ _ _ ?_).symm
        rw [q_al_cg (w_pua2 (tk := tk) (pl := pl) hr)]
        exact fun z => Int32.lt_irrefl z
      · simp only [if_neg e]
        refine (w_qc_end hr hn t _ _ _ ?_).symm
        rw [q_al_cg (w_pua2 (tk := tk) (pl := pl) hr)]
        exact e
    | some r =>
      rw [hn] at h
      have hr' := w_gr_nx hr hn
      by_cases e : q_al a tx (w_pua row tk M 0 pl) m L < least
      · simp only [if_pos e]
        exact ih f' _ r _ _ (by omega) hr' h
      · simp only [if_neg e]
        exact ih f' _ r _ _ (by omega) hr' h
/-- where every order is as loud, the first is it -/
theorem w_qc_i {a tx tk seat : Nat → Int32} {L M m : Nat} (ht : w_gt M tk) (hi : ∀ l j r r' u u' v, q_la a tx l j r u v = q_la a tx l j r' u' v) : ∀ (t : Nat) (pl row : Nat → Int32) (least : Int32) (best : Nat → Int32), w_gr M seat row → ¬ q_al a tx (w_pua row tk M 0 pl) m L < least → w_qc a tx tk L M m t pl row least best = (least, best) := by
  intro t
  induction t with
  | zero => intro pl row least best _ _; rfl
  | succ t ih =>
    intro pl row least best hr h
    unfold w_qc
    rw [if_neg h, if_neg h]
    have hsame : ∀ (r : Nat → Int32), w_gr M seat r → ∀ j, j < 6 → ((0 : Int32) ≤ w_pua r tk M 0 (w_pua row tk M 0 pl) j ↔ (0 : Int32) ≤ w_pua row tk M 0 pl j) := fun r hrr j hj => by
      by_cases hs : seat j = -1
      · rw [w_gr_pua_o hrr hj hs]
      · obtain ⟨k, k1, k2, k3⟩ := w_gr_pua (tk := tk) (pl := pl) hr hj hs
        obtain ⟨k', k1', k2', k3'⟩ := w_gr_pua (tk := tk) (pl := w_pua row tk M 0 pl) hrr hj hs
        rw [k3, k3']
        obtain ⟨s, s1, s2⟩ := ht.1 k k1
        obtain ⟨s', s1', s2'⟩ := ht.1 k' k1'
        rw [s2, s2']
        exact ⟨fun _ => nI_pos' (by omega), fun _ => nI_pos' (by omega)⟩
    cases hn : q_nx M row with
    | none => exact ih _ row _ _ hr (by rw [w_al_i hi (hsame row hr)]; exact h)
    | some r => exact ih _ r _ _ (w_gr_nx hr hn) (by rw [w_al_i hi (hsame r (w_gr_nx hr hn))]; exact h)
theorem w_qc_1 {a tx tk seat : Nat → Int32} {L M m : Nat} (ht : w_gt M tk) (hi : ∀ l j r r' u u' v, q_la a tx l j r u v = q_la a tx l j r' u' v) (t : Nat) (pl row : Nat → Int32) (least : Int32) (best : Nat → Int32) (hr : w_gr M seat row) (ht1 : 1 ≤ t) : w_qc a tx tk L M m t pl row least best = w_qc a tx tk L M m 1 pl row least best := by
  obtain ⟨t', rfl⟩ : ∃ t', t = t' + 1 := ⟨t - 1, by omega⟩
  have hsame : ∀ (r : Nat → Int32), w_gr M seat r → ∀ j, j < 6 → ((0 : Int32) ≤ w_pua r tk M 0 (w_pua row tk M 0 pl) j ↔ (0 : Int32) ≤ w_pua row tk M 0 pl j) := fun r hrr j hj => by
      by_cases hs : seat j = -1
      · rw [w_gr_pua_o hrr hj hs]
      · obtain ⟨k, k1, k2, k3⟩ := w_gr_pua (tk := tk) (pl := pl) hr hj hs
        obtain ⟨k', k1', k2', k3'⟩ := w_gr_pua (tk := tk) (pl := w_pua row tk M 0 pl) hrr hj hs
        rw [k3, k3']
        obtain ⟨s, s1, s2⟩ := ht.1 k k1
        obtain ⟨s', s1', s2'⟩ := ht.1 k' k1'
        rw [s2, s2']
        exact ⟨fun _ => nI_pos' (by omega), fun _ => nI_pos' (by omega)⟩
  have key : ∀ r, w_gr M seat r → ∀ ls bs, ¬ q_al a tx (w_pua row tk M 0 pl) m L < ls → w_qc a tx tk L M m t' (w_pua row tk M 0 pl) r ls bs = (ls, bs) := fun r hrr ls bs hls => w_qc_i ht hi t' _ r ls bs hrr (by rw [w_al_i hi (hsame r hrr)]; exact hls)
  have hnx : w_gr M seat (match q_nx M row with | none => row | some r => r) := by
    cases hn : q_nx M row with
    | none => exact hr
    | some r => exact w_gr_nx hr hn
  unfold w_qc
  by_cases e : q_al a tx (w_pua row tk M 0 pl) m L < least
  · rw [if_pos e, if_pos e, key _ hnx _ _ (fun z => Int32.lt_irrefl z)]
    rfl
  · rw [if_neg e, if_neg e, key _ hnx _ _ e]
    rfl
/-- what is sought looks at the rows below M alone -/
theorem w_qs_cg {a tx tk tk' seat : Nat → Int32} {L M m : Nat} (ht : ∀ k, k < M → tk' k = tk k) : ∀ (f : Nat) (pl pl' row row' : Nat → Int32) (least : Int32) (best best' : Nat → Int32), (∀ j, j < 6 → pl' j = pl j) → (∀ k, k < M → row' k = row k) → (∀ k, k < M → best' k = best k) → (q_qs a tx tk' L M m f pl' row' least best').1 = (q_qs a tx tk L M m f pl row least best).1 ∧ ∀ k, k < M → (q_qs a tx tk' L M m f pl' row' least best').2 k = (q_qs a tx tk L M m f pl row least best).2 k := by
  intro f
  induction f with
  | zero => intro pl pl' row row' least best best' _ _ hb; exact ⟨rfl, hb⟩
  | succ f ih =>
    intro pl pl' row row' least best best' hp hr hb
    have ep : ∀ (tk row pl : Nat → Int32), q_it (fun k pl => va_up pl (row k).toNatClampNeg (tk k)) M 0 pl = w_pua row tk M 0 pl := fun _ _ _ => rfl
    have hpp : ∀ j, j < 6 → w_pua row' tk' M 0 pl' j = w_pua row tk M 0 pl j := fun j hj => by
      rw [w_pua_cg (row := row) (tk := tk) (fun k _ hk => ⟨hr k (by omega), ht k (by omega)⟩) pl']
      exact w_pua_pl (pl := pl) (pl' := pl') M 0 pl pl' (hp j hj)
    have hal := q_al_cg (a := a) (tx := tx) (m := m) (L := L) hpp
    have hR := w_nx_R (R := fun x y => x = y) (M := M) (f := row') (g := row) (fun x y x' y' e1 e2 => by rw [e1, e2]) hr
    unfold q_qs
    simp only [ep, hal]
    have hlb : ∀ k, k < M → (if q_al a tx (w_pua row tk M 0 pl) m L < least then (q_al a tx (w_pua row tk M 0 pl) m L, row') else (least, best')).2 k = (if q_al a tx (w_pua row tk M 0 pl) m L < least then (q_al a tx (w_pua row tk M 0 pl) m L, row) else (least, best)).2 k := fun k hk => by
      by_cases e : q_al a tx (w_pua row tk M 0 pl) m L < least
      · rw [if_pos e, if_pos e]; exact hr k hk
      · rw [if_neg e, if_neg e]; exact hb k hk
    have hlb1 : (if q_al a tx (w_pua row tk M 0 pl) m L < least then (q_al a tx (w_pua row tk M 0 pl) m L, row') else (least, best')).1 = (if q_al a tx (w_pua row tk M 0 pl) m L < least then (q_al a tx (w_pua row tk M 0 pl) m L, row) else (least, best)).1 := by
      by_cases e : q_al a tx (w_pua row tk M 0 pl) m L < least
      · rw [if_pos e, if_pos e]
      · rw [if_neg e, if_neg e]
    cases hn : q_nx M row with
    | none =>
      rw [hR.1 hn]
      exact ⟨hlb1, hlb⟩
    | some r =>
      obtain ⟨r', r1, r2⟩ := hR.2 r hn
      rw [r1]
      simp only []
      rw [hlb1]
      exact ih _ _ r r' _ _ _ hpp r2 hlb
theorem w_fs_i {tk best : Nat → Int32} {x : Int32} {i : Nat} : ∀ (c k : Nat), (∀ p q, k ≤ p → p < k + c → k ≤ q → q < k + c → tk p = tk q → p = q) → k ≤ i → i < k + c → tk i = x → q_fs tk best x c k = best i := by
  intro c
  induction c with
  | zero => intro k _ h1 h2; omega
  | succ c ih =>
    intro k hinj h1 h2 e
    unfold q_fs
    by_cases ek : tk k = x
    · rw [if_pos ek]
      have := hinj k i (by omega) (by omega) h1 h2 (ek.trans e.symm)
      rw [this]
    · rw [if_neg ek]
      have : ¬ i = k := fun z => ek (by rw [← z]; exact e)
      exact ih (k + 1) (fun p q a1 a2 a3 a4 => hinj p q (by omega) (by omega) (by omega) (by omega)) (by omega) (by omega) e
theorem w_fs_n {tk best : Nat → Int32} {x : Int32} : ∀ (c k : Nat), (∀ p, k ≤ p → p < k + c → ¬ tk p = x) → q_fs tk best x c k = -1 := by
  intro c
  induction c with
  | zero => intro k _; rfl
  | succ c ih =>
    intro k h
    unfold q_fs
    rw [if_neg (h k (Nat.le_refl _) (by omega))]
    exact ih (k + 1) (fun p h1 h2 => h p (by omega) (by omega))
