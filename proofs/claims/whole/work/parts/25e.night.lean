theorem w_du_cg {a a' tx : Nat → Int32} {j : Nat} {row bill people often coughed : Int32} (h5 : a' 5 = a 5) (h0 : a' (10 + 6 * j + 0) = a (10 + 6 * j + 0)) (h1 : a' (10 + 6 * j + 1) = a (10 + 6 * j + 1)) : q_du a' tx j row bill people often coughed = q_du a tx j row bill people often coughed := by
  have e : q_nl2 a' j row bill people often coughed = q_nl2 a j row bill people often coughed := by
    funext i
    unfold q_nl2
    rw [h0, h1]
  unfold q_du
  rw [q_kl5_cg h5, e, q_lv_cg h5]
theorem w_MT_cg {a a' tx : Nat → Int32} (h : q_MT a tx) (h5 : a' 5 = a 5) : q_MT a' tx := by
  unfold q_MT at *
  rw [h5]; exact h
/-- the model's heap in a night: scratch rows aside only the row 68 differs -/
def w_NM (di D : Nat → Nat → Int32) : Prop := (∀ k, w_X k = true → ¬ k = 68 → D k = di k) ∧ D 67 4 = di 67 4 ∧ D 67 5 = di 67 5 ∧ D 67 6 = di 67 6
theorem w_NM_M {di D D' : Nat → Nat → Int32} (h : w_NM di D) (hM : w_M D D') : w_NM di D' :=
  ⟨fun k h1 h2 => (hM.1 k h1).trans (h.1 k h1 h2), hM.2.1.trans h.2.1, hM.2.2.1.trans h.2.2.1, hM.2.2.2.trans h.2.2.2⟩
theorem w_NM_68 {di D : Nat → Nat → Int32} {f : Nat → Int32} (h : w_NM di D) : w_NM di (va_up D 68 f) :=
  ⟨fun k h1 h2 => by rw [q_upN _ _ h2]; exact h.1 k h1 h2, h.2.1, h.2.2.1, h.2.2.2⟩
section
variable {c d n sl : Nat} {ln : Nat → Nat} {di : Nat → Nat → Int32} {dl : Nat → Nat → Int64} {dr : Nat → Nat → Option Nat} {Q : Option Value → q_H → Prop} {a tx pl : Nat → Int32} {P L : Nat}
/-- often is counted -/
theorem c_nt70 {x1 x2 x3 : Int32} {g : Nat} {o : Nat → Int32} (hg64 : g < 64) (h27 : di 67 27 = nI g) (hg : q_Gr n ln dr) : ∀ (c j : Nat) (r : Nat → Int32), j + c = 6 → (∀ i, i < 6 → r i = if i < j then w_ofs g o i else o i) →
    (∀ r', (∀ i, i < 6 → r' i = w_ofs g o i) → q_EX q_KD d 184 0 [.ref 67, .int x1, .retAddr 0, .retAddr 0, .retAddr 0] [] (n, sl, ln, va_up di 77 r', dl, dr) (fun r1 h1 => q_EX q_KD (d + 1) 182 115 [.ref 67, .int x1, .int x2, .int x3, .retAddr 0] (r1.toList ++ []) h1 Q)) →
    q_EX q_KD (d + 1) 182 70 [.ref 67, .int x1, .int x2, .int x3, .int (nI j)] [] (n, sl, ln, va_up di 77 r, dl, dr) Q := by
  intro c
  induction c with
  | zero =>
    intro j r hj hr k
    have : j = 6 := by omega
    subst this
    exact g182_70 hg (fun _ => k r (fun i hi => by rw [hr i hi, if_pos hi])) (fun w => absurd w (by decide)) (fun w => absurd w (by decide))
  | succ c ih =>
    intro j r hj hr k
    have hjn : (nI j).toNatClampNeg = j := nI_clamp (by omega)
    have vj : vp_in (nI j) 6 := vp_in_nI (by omega) (by decide)
    have eh : ∀ v : Int32, q_u (va_up di 77 r) 77 j v = va_up di 77 (va_up r j v) := fun v => by
      show va_up (va_up di 77 r) 77 (va_up (va_up di 77 r 77) j v) = _
      rw [q_upup, q_upE]
    have nxt : ∀ v : Int32, v = w_ofs g o j → q_EX q_KD (d + 1) 182 70 [.ref 67, .int x1, .int x2, .int x3, .int (nI j + 1)] [] (n, sl, ln, q_u (va_up di 77 r) 77 j v, dl, dr) Q := fun v hv => by
      rw [eh, nI_1]
      refine ih (j + 1) _ (by omega) (fun i hi => ?_) k
      by_cases e : i = j
      · subst e; rw [q_upE, if_pos (by omega)]; exact hv
      · rw [q_upN _ _ e, hr i hi]
        by_cases e2 : i < j
        · rw [if_pos e2, if_pos (by omega)]
        · rw [if_neg e2, if_neg (by omega)]
    have e77 : va_up di 77 r 77 j = o j := by show r j = o j; rw [hr j (by omega), if_neg (by omega)]
    refine g182_70 hg (fun w => absurd ((nI_leI (a := 6) (by decide) (by omega)).mp w) (by omega)) (fun _ => vj) (fun _ => c_has hg (g182_94 hg (fun _ => vj) (fun y => ?_) (fun _ => vj) (fun y => ?_)))
    · have y' : ¬ ((di 67 27 >>> (nI j &&& 31)) &&& 1) = 1 := q_bn.mp y
      rw [h27] at y'
      have hb : ¬ g.testBit j = true := fun z => y' ((q_bt1 (m := g) (j := j) (by omega) (by omega)).mpr z)
      rw [hjn, e77]
      exact nxt _ (by unfold w_ofs; rw [if_neg hb])
    · have y' : ((di 67 27 >>> (nI j &&& 31)) &&& 1) = 1 := q_bp.mp y
      rw [h27] at y'
      have hb : g.testBit j = true := (q_bt1 (m := g) (j := j) (by omega) (by omega)).mp y'
      rw [hjn, e77]
      exact nxt _ (by unfold w_ofs; rw [if_pos hb])
/-- the model's lines of a night -/
theorem c_nt51 {b : Nat → Int32} (hP : P ≤ 6) (hL : L ≤ 10) (hb : ∀ i, i < 76 → ¬ i = 6 → b i = a i) (h0 : a 0 = nI P) (h1 : a 1 = nI L) (hun : ∀ j, P ≤ j → j < 6 → q_pl a j = -1) (hMT : q_MT a tx) (h70 : di 70 = tx) (h26 : di 67 26 = nI (q_sm a)) (h76 : ∀ j, j < 6 → di 76 j = q_pl a j) (hg : q_Gr n ln dr) : ∀ (c l : Nat) (s : Int32 × (Nat → Int32) × (Nat → Int32) × Int32) (D : Nat → Nat → Int32) (dl : Nat → Nat → Int64), l + c = L → w_NM di D → D 68 = va_up b 3 s.1 → D 67 26 = di 67 26 → D 76 = di 76 → (∀ j, j < 6 → D 77 j = s.2.1 j) → (∀ j, j < 6 → D 78 j = s.2.2.1 j) →
    (∀ D' dl', w_NM di D' → D' 68 = va_up b 3 (w_nt a tx c l s).1 → (∀ j, j < 6 → D' 77 j = (w_nt a tx c l s).2.1 j) → (∀ j, j < 6 → D' 78 j = (w_nt a tx c l s).2.2.1 j) → q_EX q_KD (d + 6) 182 135 [.ref 67, .int (nI (w_si (q_pl a))), .int (w_nt a tx c l s).2.2.2, .int 0, .retAddr 0] [] (n, sl, ln, D', dl', dr) Q) →
    q_EX q_KD (d + 6) 182 51 [.ref 67, .int (nI (w_si (q_pl a))), .int s.2.2.2, .int (nI l), .retAddr 0] [] (n, sl, ln, D, dl, dr) Q := by
  have hsl := w_siL (q_pl a)
  have B : ∀ (x : Int32) i, i < 76 → ¬ i = 6 → ¬ i = 3 → va_up b 3 x i = a i := fun x i g1 g2 g3 => by rw [q_upN _ _ g3]; exact hb i g1 g2
  intro c
  induction c with
  | zero =>
    intro l s D dl hl hM e68 e26 e76 e77 e78 k
    have hD : D 68 1 = nI L := by rw [e68, B _ 1 (by omega) (by omega) (by omega)]; exact h1
    exact g182_51 hg (fun _ => k D dl hM e68 e77 e78) (fun w => absurd w (by rw [hD]; exact nI_nlt (by omega) (by omega)))
  | succ c ih =>
    intro l s D dl hl hM e68 e26 e76 e77 e78 k
    have hD : D 68 1 = nI L := by rw [e68, B _ 1 (by omega) (by omega) (by omega)]; exact h1
    have hD0 : D 68 0 = nI P := by rw [e68, B _ 0 (by omega) (by omega) (by omega)]; exact h0
    have e70 : D 70 = tx := by rw [hM.1 70 rfl (by decide)]; exact h70
    have hMD : q_MT (D 68) (D 70) := by rw [e70]; exact w_MT_cg hMT (by rw [e68, B _ 5 (by omega) (by omega) (by omega)])
    refine g182_51 hg (fun w => absurd w (by rw [hD]; exact nI_ge (by omega) (by omega))) (fun _ => ?_)
    refine c_hear (d := d) (di := D) (l := l) (s := w_si (q_pl a)) (st := q_sm a) (P := P) (by omega) hP hD0 (by rw [e26]; exact h26) (by omega) (fun j g1 g2 => by rw [e76, h76 j g2, hun j g1 g2]; decide) hMD hg (fun e1 dl1 => g182_67 hg ?_)
    have ewv : q_wv (D 68) (D 70) (D 76) l (q_an (w_si (q_pl a)) (q_sm a)) 7 0 0 = q_wv a tx (q_pl a) l (q_an (w_si (q_pl a)) (q_sm a)) 7 0 0 := by
      rw [e70, e76, q_wv_cg h76, e68]
      exact w_wv_a (B _ 5 (by omega) (by omega) (by omega)) (fun j hj _ => ⟨B _ _ (by omega) (by omega) (by omega), B _ _ (by omega) (by omega) (by omega)⟩) ⟨B _ _ (by omega) (by omega) (by omega), B _ _ (by omega) (by omega) (by omega)⟩ 7 0 0
    rw [ewv]
    obtain ⟨G, hG⟩ : ∃ G, G = (q_wv a tx (q_pl a) l (q_an (w_si (q_pl a)) (q_sm a)) 7 0 0).1 := ⟨_, rfl⟩
    obtain ⟨R, hR⟩ : ∃ R, R = (q_wv a tx (q_pl a) l (q_an (w_si (q_pl a)) (q_sm a)) 7 0 0).2 := ⟨_, rfl⟩
    rw [← hG, ← hR]
    have hG64 : G < 64 := by rw [hG]; exact w_wv64 _ _ _ _ _ 7 0 0 (by decide)
    obtain ⟨E, hE⟩ : ∃ E, E = q_F q_Sw (q_h67 D (nI G) (nI R)) e1 := ⟨_, rfl⟩
    rw [← hE]
    have hME : w_M D E := by rw [hE]; exact w_M_tr w_M_h67 w_M_F
    have E27 : E 67 27 = nI G := by rw [hE]; rfl
    have E28 : E 67 28 = nI R := by rw [hE]; rfl
    have E26 : E 67 26 = D 67 26 := by rw [hE]; rfl
    have E76 : E 76 = D 76 := by rw [hE]; rfl
    have E77 : E 77 = D 77 := by rw [hE]; rfl
    have E78 : E 78 = D 78 := by rw [hE]; rfl
    have E68 : E 68 = D 68 := by rw [hE]; rfl
    suffices st70 : q_EX q_KD (d + 6) 182 70 [.ref 67, .int (nI (w_si (q_pl a))), .int s.2.2.2, .int (nI l), .int (nI 0)] [] (n, sl, ln, va_up E 77 (E 77), dl1, dr) Q by
      rw [q_upid] at st70
      exact st70
    refine c_nt70 (d := d + 5) (di := E) (o := s.2.1) hG64 E27 hg 6 0 (E 77) rfl (fun i hi => by rw [if_neg (by omega), E77]; exact e77 i hi) (fun r77 hr77 => g184_0 hg ?_)
    obtain ⟨F, hF⟩ : ∃ F, F = va_up E 77 r77 := ⟨_, rfl⟩
    rw [← hF]
    have FE : ∀ k, ¬ k = 77 → F k = E k := fun k g => by rw [hF, q_upN _ _ g]
    have F68 : F 68 = va_up b 3 s.1 := by rw [FE 68 (by decide), E68, e68]
    have Ff : F = va_up (va_up F 78 (F 78)) 68 (va_up (F 68) 3 s.1) := by rw [q_upid, F68, q_upup, ← F68, q_upid]
    rw [Ff]
    refine c_cgM4 (d := d + 4) (di := F) (P := P) (cold := fun j => a (10 + 6 * j + 2)) hP hsl (by rw [F68, B _ 0 (by omega) (by omega) (by omega)]; exact h0) (fun j hj => by rw [F68, B _ _ (by omega) (by omega) (by omega)]) hg P 0 s.1 (F 78) 0 (by omega) (g182_115 hg ?_)
    have F78 : ∀ j, j < 6 → F 78 j = s.2.2.1 j := fun j hj => by rw [FE 78 (by decide), E78]; exact e78 j hj
    have eP6 : ∀ y, q_it (w_cg (fun j => a (10 + 6 * j + 2)) (w_si (q_pl a))) P 0 y = q_it (w_cg (fun j => a (10 + 6 * j + 2)) (w_si (q_pl a))) 6 0 y := fun y => (q_itP hP (fun i z g1 g2 => by
      unfold w_cg
      rw [if_neg (fun q => by
        rw [w_siT, decide_eq_true_iff] at q
        exact q.2 (hun i g1 g2))])).symm
    rw [eP6]
    obtain ⟨z1, z2, z3⟩ := w_cg_cg (cold := fun j => a (10 + 6 * j + 2)) (cold' := fun j => a (10 + 6 * j + 2)) (si := w_si (q_pl a)) (fun _ _ => rfl) 6 0 s.1 s.2.2.1 (F 78) 0 (by decide) F78
    rw [z1, z2]
    obtain ⟨H, hH⟩ : ∃ H, H = va_up (va_up F 78 (q_it (w_cg (fun j => a (10 + 6 * j + 2)) (w_si (q_pl a))) 6 0 (s.1, F 78, 0)).2.1) 68 (va_up (F 68) 3 (q_it (w_cg (fun j => a (10 + 6 * j + 2)) (w_si (q_pl a))) 6 0 (s.1, s.2.2.1, 0)).1) := ⟨_, rfl⟩
    rw [← hH]
    have HF : ∀ k, ¬ k = 78 → ¬ k = 68 → H k = F k := fun k g1 g2 => by rw [hH, q_upN _ _ g2, q_upN _ _ g1]
    have H68 : H 68 = va_up b 3 (q_it (w_cg (fun j => a (10 + 6 * j + 2)) (w_si (q_pl a))) 6 0 (s.1, s.2.2.1, 0)).1 := by rw [hH, q_upE, F68, q_upup]
    have H67 : H 67 = E 67 := by rw [HF 67 (by decide) (by decide), FE 67 (by decide)]
    have H70 : H 70 = tx := by rw [HF 70 (by decide) (by decide), FE 70 (by decide), hME.1 70 rfl, e70]
    have hMH : q_MT (H 68) (H 70) := by rw [H70]; exact w_MT_cg hMT (by rw [H68, B _ 5 (by omega) (by omega) (by omega)])
    refine c_loM (d := d + 2) (di := H) (by omega) hMH hg (fun e2 dl2 => g182_125 hg ?_)
    rw [nI_1]
    have elo : q_lo (H 68) (H 70) l (q_bits (H 67 27) 10 0 0) (H 67 28) (nI (q_it (w_cg (fun j => a (10 + 6 * j + 2)) (w_si (q_pl a))) 6 0 (s.1, s.2.2.1, 0)).2.2) = q_lo a tx l (q_bits (nI (q_wv a tx (q_pl a) l (q_an (w_si (q_pl a)) (q_sm a)) 7 0 0).1) 10 0 0) (nI (q_wv a tx (q_pl a) l (q_an (w_si (q_pl a)) (q_sm a)) 7 0 0).2) (nI (q_it (w_cg (fun j => a (10 + 6 * j + 2)) (w_si (q_pl a))) 6 0 (s.1, s.2.2.1, 0)).2.2) := by
      rw [H67, E27, E28, H70, hG, hR]
      exact q_lo_cg (by rw [H68, B _ 5 (by omega) (by omega) (by omega)]) (by rw [H68, B _ _ (by omega) (by omega) (by omega)]) (by rw [H68, B _ _ (by omega) (by omega) (by omega)])
    rw [elo]
    have hNMH : w_NM di H := by
      rw [hH]
      refine w_NM_68 ?_
      refine w_NM_M ?_ (w_M_up rfl (by decide))
      rw [hF]
      exact w_NM_M (w_NM_M hM hME) (w_M_up rfl (by decide))
    exact ih (l + 1) (w_ln a tx (q_pl a) (fun j => a (10 + 6 * j + 2)) (w_si (q_pl a)) (q_an (w_si (q_pl a)) (q_sm a)) l s) (q_F q_Sw H e2) dl2 (by omega) (w_NM_M hNMH w_M_F) H68 (by show H 67 26 = _; rw [H67, E26]; exact e26) (by show H 76 = _; rw [HF 76 (by decide) (by decide), FE 76 (by decide), E76]; exact e76) (fun j hj => by
        show H 77 j = _
        rw [HF 77 (by decide) (by decide), hF, q_upE, hr77 j hj, hG]; rfl) (fun j hj => by
        show H 78 j = _
        rw [hH, q_upN _ _ (show ¬ 78 = 68 by decide), q_upE]; exact z3 j hj) k
/-- the model's dues -/
theorem c_nt135 {B : Int32} {b1 : Nat → Int32} (hP : P ≤ 6) (h0 : b1 0 = nI P) (h5 : b1 5 = a 5) (hw : ∀ j, j < 6 → b1 (10 + 6 * j + 0) = a (10 + 6 * j + 0) ∧ b1 (10 + 6 * j + 1) = a (10 + 6 * j + 1) ∧ b1 (10 + 6 * j + 3) = q_pl a j ∧ b1 (10 + 6 * j + 5) = a (10 + 6 * j + 5)) (hMT : q_MT a tx) (h70 : di 70 = tx) (hBe : (w_nt a tx L 0 (a 3, fun _ => 0, fun _ => 0, 0)).2.2.2 = B) (hne : ¬ w_si (q_pl a) = 0) (hun : ∀ j, P ≤ j → j < 6 → q_pl a j = -1) (hg : q_Gr n ln dr) : ∀ (c j : Nat) (b : Nat → Int32) (D : Nat → Nat → Int32) (dl : Nat → Nat → Int64), j + c = P → w_NM di D → D 68 = b → (∀ i, i < 706 → (∀ t, t < 6 → ¬ i = 10 + 6 * t + 5) → b i = b1 i) → (∀ t, t < 6 → b (10 + 6 * t + 5) = if t < j then w_py a tx L t else b1 (10 + 6 * t + 5)) → (∀ t, t < 6 → D 77 t = (w_nt a tx L 0 (a 3, fun _ => 0, fun _ => 0, 0)).2.1 t) → (∀ t, t < 6 → D 78 t = (w_nt a tx L 0 (a 3, fun _ => 0, fun _ => 0, 0)).2.2.1 t) →
    (∀ D' b' dl', w_NM di D' → D' 68 = b' → (∀ i, i < 706 → ¬ i = 2 → (∀ t, t < 6 → ¬ i = 10 + 6 * t + 5) → b' i = b1 i) → b' 2 = b1 2 + 1 → (∀ t, t < 6 → b' (10 + 6 * t + 5) = w_py a tx L t) → Q (some (.int B)) (n, sl, ln, D', dl', dr)) →
    q_EX q_KD (d + 5) 182 135 [.ref 67, .int (nI (w_si (q_pl a))), .int B, .int (nI j), .retAddr 0] [] (n, sl, ln, D, dl, dr) Q := by
  have hsl := w_siL (q_pl a)
  intro c
  induction c with
  | zero =>
    intro j b D dl hj hM e68 hb hp e77 e78 k
    have hjP : j = P := by omega
    have hD0 : D 68 0 = nI P := by rw [e68, hb 0 (by omega) (fun t _ => by omega)]; exact h0
    refine g182_135 hg (fun _ => ?_) (fun w => absurd w (by rw [hD0]; exact nI_nlt (by omega) (by omega)))
    have eh : q_u D 68 2 (D 68 2 + 1) = va_up D 68 (va_up b 2 (b 2 + 1)) := by
      show va_up D 68 (va_up (D 68) 2 (D 68 2 + 1)) = _
      rw [e68]
    rw [eh]
    refine k _ (va_up b 2 (b 2 + 1)) dl (w_NM_68 hM) (q_upE _ _ _) (fun i g1 g2 g3 => by rw [q_upN _ _ g2]; exact hb i g1 g3) (by rw [q_upE, hb 2 (by omega) (fun t _ => by omega)]) (fun t ht => ?_)
    rw [q_upN _ _ (by omega), hp t ht]
    by_cases q : t < j
    · rw [if_pos q]
    · rw [if_neg q, (hw t ht).2.2.2]
      unfold w_py
      rw [if_neg (fun z => by
        rw [w_siT, decide_eq_true_iff] at z
        exact z.2 (hun t (by omega) ht))]
  | succ c ih =>
    intro j b D dl hj hM e68 hb hp e77 e78 k
    have hj6 : j < 6 := by omega
    have hD0 : D 68 0 = nI P := by rw [e68, hb 0 (by omega) (fun t _ => by omega)]; exact h0
    refine g182_135 hg (fun w => absurd w (by rw [hD0]; exact nI_ge (by omega) (by omega))) (fun _ => c_has hg (g182_150 hg (fun y => ?_) (fun y => ?_)))
    · have hno : ¬ (w_si (q_pl a)).testBit j = true := fun z => q_bn.mp y ((q_bt1 (m := w_si (q_pl a)) (j := j) (by omega) (by omega)).mpr z)
      rw [nI_1]
      refine ih (j + 1) b D dl (by omega) hM e68 hb (fun t ht => ?_) e77 e78 k
      rw [hp t ht]
      by_cases q : t = j
      · subst q
        rw [if_neg (by omega), if_pos (by omega), (hw t ht).2.2.2]
        unfold w_py
        rw [if_neg hno]
      · by_cases q2 : t < j
        · rw [if_pos q2, if_pos (by omega)]
        · rw [if_neg q2, if_neg (by omega)]
    · have hyes : (w_si (q_pl a)).testBit j = true := (q_bt1 (m := w_si (q_pl a)) (j := j) (by omega) (by omega)).mp (q_bp.mp y)
      refine c_get j 5 hg (by omega) (g182_162 hg (c_bits hg ?_))
      rw [w_bct _ hsl]
      have hM1 : 1 ≤ w_ct (w_si (q_pl a)) := by
        have := w_ctlt (s := 0) hj6 hyes (fun i hi => by rw [Nat.zero_testBit] at hi; exact absurd hi (by decide)) (Nat.zero_testBit _)
        omega
      have hM6 := w_ct6 (w_si (q_pl a))
      have e70 : D 70 = tx := by rw [hM.1 70 rfl (by decide)]; exact h70
      have eb5 : b 5 = a 5 := by rw [hb 5 (by omega) (fun t _ => by omega)]; exact h5
      have hMD : q_MT (D 68) (D 70) := by rw [e70, e68]; exact w_MT_cg hMT eb5
      refine g182_169 hg (c_duM (d := d + 1) (di := D) hj6 (nI_ne0 (by omega) (by omega)) hMD hg (fun e2 dl2 => g182_172 hg ?_))
      have edu : q_du (D 68) (D 70) j (D 68 (10 + 6 * j + 3) / 4) B (nI (w_ct (w_si (q_pl a)))) (D 77 j) (D 78 j) = q_du a tx j (q_pl a j / 4) (w_nt a tx L 0 (a 3, fun _ => 0, fun _ => 0, 0)).2.2.2 (nI (w_ct (w_si (q_pl a)))) ((w_nt a tx L 0 (a 3, fun _ => 0, fun _ => 0, 0)).2.1 j) ((w_nt a tx L 0 (a 3, fun _ => 0, fun _ => 0, 0)).2.2.1 j) := by
        rw [e70, e68, e77 j hj6, e78 j hj6, hBe, hb (10 + 6 * j + 3) (by omega) (fun t _ => by omega), (hw j hj6).2.2.1]
        exact w_du_cg eb5 (by rw [hb _ (by omega) (fun t _ => by omega)]; exact (hw j hj6).1) (by rw [hb _ (by omega) (fun t _ => by omega)]; exact (hw j hj6).2.1)
      rw [edu]
      have ep : D 68 (10 + 6 * j + 5) = a (10 + 6 * j + 5) := by rw [e68, hp j hj6, if_neg (by omega)]; exact (hw j hj6).2.2.2
      rw [ep]
      have epy : a (10 + 6 * j + 5) + q_du a tx j (q_pl a j / 4) (w_nt a tx L 0 (a 3, fun _ => 0, fun _ => 0, 0)).2.2.2 (nI (w_ct (w_si (q_pl a)))) ((w_nt a tx L 0 (a 3, fun _ => 0, fun _ => 0, 0)).2.1 j) ((w_nt a tx L 0 (a 3, fun _ => 0, fun _ => 0, 0)).2.2.1 j) = w_py a tx L j := by
        unfold w_py
        rw [if_pos hyes]
      rw [epy]
      refine c_set j 5 hg (by omega) (g182_176 hg ?_)
      rw [nI_1]
      have eh : q_u (q_F q_Sw D e2) 68 (10 + 6 * j + 5) (w_py a tx L j) = va_up (q_F q_Sw D e2) 68 (va_up b (10 + 6 * j + 5) (w_py a tx L j)) := by
        show va_up (q_F q_Sw D e2) 68 (va_up (q_F q_Sw D e2 68) (10 + 6 * j + 5) (w_py a tx L j)) = _
        rw [show q_F q_Sw D e2 68 = b from e68]
      rw [eh]
      refine ih (j + 1) (va_up b (10 + 6 * j + 5) (w_py a tx L j)) _ dl2 (by omega) (w_NM_68 (w_NM_M hM w_M_F)) (q_upE _ _ _) (fun i g1 g2 => by rw [q_upN _ _ (g2 j hj6)]; exact hb i g1 g2) (fun t ht => ?_) e77 e78 k
      by_cases q : t = j
      · subst q; rw [q_upE, if_pos (by omega)]
      · rw [q_upN _ _ (by omega), hp t ht]
        by_cases q2 : t < j
        · rw [if_pos q2, if_pos (by omega)]
        · rw [if_neg q2, if_neg (by omega)]
end
