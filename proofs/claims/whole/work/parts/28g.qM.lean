/-! the model's quietest -/
section
variable {c d n sl : Nat} {ln : Nat → Nat} {di : Nat → Nat → Int32} {dl : Nat → Nat → Int64} {dr : Nat → Nat → Option Nat} {Q : Option Value → q_H → Prop} {a tx : Nat → Int32} {P L M : Nat}
theorem c_qM34 {x1 x2 : Int32} (hM : M ≤ 6) (h8 : di 67 35 = nI M) (hrow : ∀ k, k < M → ∃ p, p < 6 ∧ di 81 k = nI p) (hg : q_Gr n ln dr) : ∀ (c j : Nat) (t : Nat → Int32), j + c = M →
    q_EX q_KD d 190 0 [.ref 67, .int 63, .retAddr 0, .retAddr 0] [] (n, sl, ln, va_up di 76 (w_pua (di 81) (di 80) c j t), dl, dr) (fun r1 h1 => q_EX q_KD (d + 1) 195 74 [.ref 67, .int x1, .int x2, .retAddr 0, .retAddr 0, .retAddr 0] (r1.toList ++ []) h1 Q) →
    q_EX q_KD (d + 1) 195 34 [.ref 67, .int x1, .int x2, .retAddr 0, .int (nI j), .retAddr 0] [] (n, sl, ln, va_up di 76 t, dl, dr) Q := by
  intro c
  induction c with
  | zero =>
    intro j t hj k
    have e8 : va_up di 76 t 67 35 = nI M := h8
    have hn : ¬ nI j < va_up di 76 t 67 35 := by rw [e8]; exact nI_nlt (by omega) (by omega)
    exact g195_34 hg (fun _ => k) (fun w => absurd w hn) (fun w => absurd w hn) (fun w => absurd w hn) (fun w => absurd w hn)
  | succ c ih =>
    intro j t hj k
    have jn : (nI j).toNatClampNeg = j := nI_clamp (by omega)
    have e8 : va_up di 76 t 67 35 = nI M := h8
    obtain ⟨p, p1, p2⟩ := hrow j (by omega)
    refine g195_34 hg (fun w => absurd w (by rw [e8]; exact nI_ge (by omega) (by omega))) (fun _ => vp_in_nI (by omega) (by decide)) (fun _ => vp_in_nI (by omega) (by decide)) (fun _ => ?_) (fun _ => ?_)
    · show vp_in (di 81 (nI j).toNatClampNeg) 6
      rw [jn, p2]
      exact vp_in_nI p1 (by decide)
    · rw [w_uup, nI_1, jn]
      exact ih (j + 1) _ (by omega) k
theorem c_qM88 {x1 x2 : Int32} (hM : M ≤ 6) (h8 : di 67 35 = nI M) (hg : q_Gr n ln dr) : ∀ (c j : Nat) (t : Nat → Int32), j + c = M → (∀ i, i < j → t i = di 81 i) →
    (∀ t', (∀ i, i < M → t' i = di 81 i) → q_EX q_KD d 197 0 [.ref 67, .retAddr 0, .retAddr 0, .retAddr 0, .retAddr 0] [] (n, sl, ln, va_up di 82 t', dl, dr) (fun r1 h1 => q_EX q_KD (d + 1) 195 121 [.ref 67, .int x1, .int x2, .retAddr 0, .retAddr 0, .retAddr 0] (r1.toList ++ []) h1 Q)) →
    q_EX q_KD (d + 1) 195 88 [.ref 67, .int x1, .int x2, .retAddr 0, .retAddr 0, .int (nI j)] [] (n, sl, ln, va_up di 82 t, dl, dr) Q := by
  intro c
  induction c with
  | zero =>
    intro j t hj h k
    have ej : j = M := by omega
    have e8 : va_up di 82 t 67 35 = nI M := h8
    have hn : ¬ nI j < va_up di 82 t 67 35 := by rw [e8]; exact nI_nlt (by omega) (by omega)
    exact g195_88 hg (fun _ => k t (fun i hi => h i (by omega))) (fun w => absurd w hn) (fun w => absurd w hn) (fun w => absurd w hn)
  | succ c ih =>
    intro j t hj h k
    have jn : (nI j).toNatClampNeg = j := nI_clamp (by omega)
    have e8 : va_up di 82 t 67 35 = nI M := h8
    refine g195_88 hg (fun w => absurd w (by rw [e8]; exact nI_ge (by omega) (by omega))) (fun _ => vp_in_nI (by omega) (by decide)) (fun _ => vp_in_nI (by omega) (by decide)) (fun _ => ?_)
    rw [w_uup, nI_1, jn]
    refine ih (j + 1) _ (by omega) (fun i hi => ?_) k
    show va_up t j (di 81 j) i = di 81 i
    by_cases e : i = j
    · rw [e, q_upE]
    · rw [q_upN _ _ e]; exact h i (by omega)
theorem c_qM135 {x1 : Int32} (hM : M ≤ 6) (h8 : di 67 35 = nI M) (hg : q_Gr n ln dr) : ∀ (c j : Nat), j + c = M → Q (some (.int (q_fs (di 80) (di 82) x1 c j))) (n, sl, ln, di, dl, dr) → q_EX q_KD d 195 135 [.ref 67, .int x1, .retAddr 0, .retAddr 0, .int (nI j), .retAddr 0] [] (n, sl, ln, di, dl, dr) Q := by
  intro c
  induction c with
  | zero =>
    intro j hj k
    have hn : ¬ nI j < di 67 35 := by rw [h8]; exact nI_nlt (by omega) (by omega)
    exact g195_135 hg (fun _ => k) (fun w => absurd w hn) (fun w => absurd w hn) (fun w => absurd w hn) (fun w => absurd w hn)
  | succ c ih =>
    intro j hj k
    have jn : (nI j).toNatClampNeg = j := nI_clamp (by omega)
    unfold q_fs at k
    refine g195_135 hg (fun w => absurd w (by rw [h8]; exact nI_ge (by omega) (by omega))) (fun _ => vp_in_nI (by omega) (by decide)) (fun _ w => ?_) (fun _ _ => vp_in_nI (by omega) (by decide)) (fun _ w => ?_)
    · rw [jn] at w
      rw [if_neg w] at k
      rw [nI_1]
      exact ih (j + 1) (by omega) k
    · rw [jn] at w ⊢
      rw [if_pos w] at k
      exact k
theorem c_allB {s st : Nat} {pl : Nat → Int32} (hs : s < 2 ^ 31) (h : w_MF di a tx P L) (hN : w_N di st pl) (hpl : ∀ j, P ≤ j → j < 6 → pl j < 0) (hg : q_Gr n ln dr)
    (k : ∀ D dl', w_M di D → (∀ i, ¬ i = 27 → ¬ i = 28 → D 67 i = di 67 i) → (∀ x, ¬ x = 67 → ¬ x = 73 → ¬ x = 75 → D x = di x) → Q (some (.int (q_al a tx pl (q_an s st) L))) (n, sl, ln, D, dl', dr)) :
    q_EX q_KD (d + 7) 190 0 [.ref 67, .int (nI s), .retAddr 0, .retAddr 0] [] (n, sl, ln, di, dl, dr) Q := by
  obtain ⟨h1, h2, h3, h4, h5, h6, h7, h8⟩ := h
  subst h1 h2
  have e2 := q_al_cg (a := di 68) (tx := di 70) (m := q_an s st) (L := L) hN.2
  refine c_alM h4 h6 h3 h5 hN.1 hs (fun j hj hj6 => by rw [hN.2 j hj6]; exact hpl j hj hj6) h8 hg (fun x y e dl' => ?_)
  rw [e2]
  refine k _ _ (w_M_tr w_M_h67 w_M_F) (fun i h27 h28 => ?_) (fun z z1 z2 z3 => ?_)
  · rw [q_Fo (show q_Sw 67 = false from rfl)]
    rw [← q_h670, q_uN _ _ _ _ _ (by omega), q_uN _ _ _ _ _ (by omega)]
  · rw [q_Fo]
    · rw [← q_h670, q_uR z1, q_uR z1]
    · show (Nat.beq z 73 || Nat.beq z 75) = false
      rw [Bool.or_eq_false_iff]
      constructor
      · cases hb : Nat.beq z 73 with
        | false => rfl
        | true => exact absurd (Nat.eq_of_beq_eq_true hb) z2
      · cases hb : Nat.beq z 75 with
        | false => rfl
        | true => exact absurd (Nat.eq_of_beq_eq_true hb) z3
set_option maxHeartbeats 1000000 in
theorem c_qM27 {x1 : Int32} {r80 : Nat → Int32} (hM : M ≤ 6) (hgt : w_gt M r80) (hF : w_MF di a tx P L) (hv : ∀ j, j < 6 → q_pl a j = -1 ∨ ∃ s, s < 16 ∧ q_pl a j = nI s) (hun : ∀ j, P ≤ j → j < 6 → q_pl a j = -1) (hg : q_Gr n ln dr) : ∀ (f : Nat) (D : Nat → Nat → Int32) (dl : Nat → Nat → Int64) (row best : Nat → Int32) (lm : Int32), w_shr M f row → w_M di D → D 67 26 = nI (q_sm a) → D 67 35 = nI M → D 80 = r80 → D 81 = row → w_gr M (q_pl a) row → (∀ p, p < 6 → q_pl a p = -1 → D 76 p < 0) → (∀ k, k < M → D 82 k = best k) →
    (∀ D' dl' v, w_M di D' → v = (if x1 = -1 then (q_qs a tx r80 L M (q_an 63 (q_sm a)) f (D 76) row lm best).1 else q_fs r80 (q_qs a tx r80 L M (q_an 63 (q_sm a)) f (D 76) row lm best).2 x1 M 0) → Q (some (.int v)) (n, sl, ln, D', dl', dr)) →
    q_EX q_KD (d + 8) 195 27 [.ref 67, .int x1, .int lm, .int 1, .retAddr 0, .retAddr 0] [] (n, sl, ln, D, dl, dr) Q := by
  intro f
  induction f with
  | zero => intro D dl row best lm h; exact h.elim
  | succ f ih =>
    intro D dl row best lm hsh hMD h26 h35 h80 h81 hr hneg h82 k
    refine g195_27 hg (fun w => absurd w (by decide)) (fun w => absurd w (by decide)) (fun _ => ?_)
    have st := c_qM34 (d := d + 7) (n := n) (sl := sl) (ln := ln) (dl := dl) (dr := dr) (Q := Q) (x1 := x1) (x2 := lm) (di := D) hM h35 (fun k hk => by
      obtain ⟨p, p1, p2, _⟩ := hr.1 k hk
      exact ⟨p, p1, by rw [h81]; exact p2⟩) hg M 0 (D 76) (by omega) ?_
    · rw [q_upid] at st
      exact st
    rw [h81, h80]
    obtain ⟨E, hE⟩ : ∃ E, E = va_up D 76 (w_pua row r80 M 0 (D 76)) := ⟨_, rfl⟩
    rw [← hE]
    have E76 : E 76 = w_pua row r80 M 0 (D 76) := by rw [hE]; exact q_upE _ _ _
    have Eo : ∀ x, ¬ x = 76 → E x = D x := fun x hx => by rw [hE]; exact q_upN _ _ hx
    have hME : w_M di E := by rw [hE]; exact w_M_tr hMD (w_M_up rfl (by decide))
    have hFE := w_MF_M hF hME
    have hneg2 : ∀ p, p < 6 → q_pl a p = -1 → w_pua row r80 M 0 (D 76) p < 0 := fun p hp hs => by
      rw [w_gr_pua_o hr hp hs]; exact hneg p hp hs
    refine c_allB (d := d) (s := 63) (st := q_sm a) (pl := w_pua row r80 M 0 (D 76)) (by decide) hFE ⟨by rw [Eo 67 (by decide)]; exact h26, fun j _ => by rw [E76]⟩ (fun j h1 h2 => hneg2 j h2 (hun j h1 h2)) hg (fun G dl2 hMG g67 go => ?_)
    have hMG' := w_M_tr hME hMG
    have G26 : G 67 26 = nI (q_sm a) := by rw [g67 26 (by decide) (by decide), Eo 67 (by decide)]; exact h26
    have G35 : G 67 35 = nI M := by rw [g67 35 (by decide) (by decide), Eo 67 (by decide)]; exact h35
    have G80 : G 80 = r80 := by rw [go 80 (by decide) (by decide) (by decide), Eo 80 (by decide)]; exact h80
    have G81 : G 81 = row := by rw [go 81 (by decide) (by decide) (by decide), Eo 81 (by decide)]; exact h81
    have G82 : G 82 = D 82 := by rw [go 82 (by decide) (by decide) (by decide), Eo 82 (by decide)]
    have G76 : G 76 = w_pua row r80 M 0 (D 76) := by rw [go 76 (by decide) (by decide) (by decide)]; exact E76
    have ep : q_it (fun k pl => va_up pl (row k).toNatClampNeg (r80 k)) M 0 (D 76) = w_pua row r80 M 0 (D 76) := rfl
    -- the rest of a turn: the next order
    have nxt : ∀ (H : Nat → Nat → Int32) (b2 : Nat → Int32) (l2 : Int32), w_M di H → H 67 26 = nI (q_sm a) → H 67 35 = nI M → H 80 = r80 → H 81 = row → H 76 = w_pua row r80 M 0 (D 76) → (∀ k, k < M → H 82 k = b2 k) →
        (q_nx M row = none → ∀ D' dl' v, w_M di D' → v = (if x1 = -1 then l2 else q_fs r80 b2 x1 M 0) → Q (some (.int v)) (n, sl, ln, D', dl', dr)) →
        (∀ r, q_nx M row = some r → ∀ D' dl' v, w_M di D' → v = (if x1 = -1 then (q_qs a tx r80 L M (q_an 63 (q_sm a)) f (w_pua row r80 M 0 (D 76)) r l2 b2).1 else q_fs r80 (q_qs a tx r80 L M (q_an 63 (q_sm a)) f (w_pua row r80 M 0 (D 76)) r l2 b2).2 x1 M 0) → Q (some (.int v)) (n, sl, ln, D', dl', dr)) →
        q_EX q_KD (d + 7) 197 0 [.ref 67, .retAddr 0, .retAddr 0, .retAddr 0, .retAddr 0] [] (n, sl, ln, H, dl2, dr) (fun r1 h1 => q_EX q_KD (d + 8) 195 121 [.ref 67, .int x1, .int l2, .retAddr 0, .retAddr 0, .retAddr 0] (r1.toList ++ []) h1 Q) := by
      intro H b2 l2 hMH q26 q35 q80 q81 q76 q82 kn ks
      have cn := c_nextM (d := d + 5) (n := n) (sl := sl) (ln := ln) (dl := dl2) (dr := dr) (Q := fun r1 h1 => q_EX q_KD (d + 8) 195 121 [.ref 67, .int x1, .int l2, .retAddr 0, .retAddr 0, .retAddr 0] (r1.toList ++ []) h1 Q) (di := H) (row := row) hM q35 hg (fun hn => g195_121 hg ?_) (fun r hr2 => g195_121 hg ?_)
      · rw [show va_up H 81 row = H from by rw [← q81]; exact q_upid H 81] at cn
        exact cn
      · have hH81 : va_up H 81 row = H := by rw [← q81]; exact q_upid H 81
        rw [hH81]
        refine g195_27 hg (fun _ w => ?_) (fun _ w => ?_) (fun w => absurd rfl w)
        · refine c_qM135 (M := M) hM q35 hg M 0 (by omega) (kn hn H dl2 _ hMH ?_)
          rw [if_neg w, q80]
          exact w_fs_cg M 0 (fun i _ hi => ⟨rfl, q82 i (by omega)⟩)
        · exact kn hn H dl2 _ hMH (by rw [if_pos w])
      · have hsh' : w_shr M f r := by
          unfold w_shr at hsh
          rwa [hr2] at hsh
        refine ih (va_up H 81 r) dl2 r b2 l2 hsh' (w_M_tr hMH (w_M_up rfl (by decide))) q26 q35 q80 rfl (w_gr_nx hr hr2) (fun p hp hs => ?_) (fun k hk => ?_) (fun D' dl' v hMD' hv2 => ?_)
        · show H 76 p < 0
          rw [q76]; exact hneg2 p hp hs
        · exact q82 k hk
        · refine ks r hr2 D' dl' v hMD' ?_
          rw [hv2]
          show (if x1 = -1 then (q_qs a tx r80 L M (q_an 63 (q_sm a)) f (H 76) r l2 b2).1 else q_fs r80 (q_qs a tx r80 L M (q_an 63 (q_sm a)) f (H 76) r l2 b2).2 x1 M 0) = _
          rw [q76]
    have kq : ∀ (l2 : Int32) (b2 : Nat → Int32), ((if q_al a tx (w_pua row r80 M 0 (D 76)) (q_an 63 (q_sm a)) L < lm then (q_al a tx (w_pua row r80 M 0 (D 76)) (q_an 63 (q_sm a)) L, row) else (lm, best)) = (l2, b2)) → (q_nx M row = none → q_qs a tx r80 L M (q_an 63 (q_sm a)) (f + 1) (D 76) row lm best = (l2, b2)) ∧ (∀ r, q_nx M row = some r → q_qs a tx r80 L M (q_an 63 (q_sm a)) (f + 1) (D 76) row lm best = q_qs a tx r80 L M (q_an 63 (q_sm a)) f (w_pua row r80 M 0 (D 76)) r l2 b2) := fun l2 b2 he => by
      constructor
      · intro hn
        unfold q_qs
        simp only [ep, he, hn]
      · intro r hn
        have e1 : q_qs a tx r80 L M (q_an 63 (q_sm a)) (f + 1) (D 76) row lm best = q_qs a tx r80 L M (q_an 63 (q_sm a)) f (w_pua row r80 M 0 (D 76)) r (if q_al a tx (w_pua row r80 M 0 (D 76)) (q_an 63 (q_sm a)) L < lm then (q_al a tx (w_pua row r80 M 0 (D 76)) (q_an 63 (q_sm a)) L, row) else (lm, best)).1 (if q_al a tx (w_pua row r80 M 0 (D 76)) (q_an 63 (q_sm a)) L < lm then (q_al a tx (w_pua row r80 M 0 (D 76)) (q_an 63 (q_sm a)) L, row) else (lm, best)).2 := by
          rw [q_qs]
          simp only [ep, hn]
        rw [e1, he]
    refine g195_74 hg (fun w => ?_) (fun w => ?_)
    · have hk := kq lm best (if_neg (q_not_lt w))
      refine nxt G best lm hMG' G26 G35 G80 G81 G76 (fun k hk => by rw [G82]; exact h82 k hk) (fun hn D' dl' v hM' hv2 => k D' dl' v hM' ?_) (fun r hn D' dl' v hM' hv2 => k D' dl' v hM' ?_)
      · rw [hk.1 hn]; exact hv2
      · rw [hk.2 r hn]; exact hv2
    · have hk := kq _ row (if_pos w)
      have cb := c_qM88 (d := d + 7) (n := n) (sl := sl) (ln := ln) (dl := dl2) (dr := dr) (Q := Q) (x1 := x1) (x2 := q_al a tx (w_pua row r80 M 0 (D 76)) (q_an 63 (q_sm a)) L) (di := G) hM G35 hg M 0 (G 82) (by omega) (fun i hi => absurd hi (Nat.not_lt_zero i)) (fun t' ht' => ?_)
      · rw [q_upid] at cb
        exact cb
      rw [G81] at ht'
      refine nxt (va_up G 82 t') row _ (w_M_tr hMG' (w_M_up rfl (by decide))) G26 G35 G80 G81 G76 (fun k hk => ht' k hk) (fun hn D' dl' v hM' hv2 => k D' dl' v hM' ?_) (fun r hn D' dl' v hM' hv2 => k D' dl' v hM' ?_)
      · rw [hk.1 hn]; exact hv2
      · rw [hk.2 r hn]; exact hv2
end
