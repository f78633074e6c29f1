def t_r44 (r : Nat → Int32) (cs : List (Nat × Nat)) : Prop := ∀ i, i < cs.length → r i = q_enc (nI (cs.getD i (0, 0)).1) (nI (cs.getD i (0, 0)).2)
def t_r456 (r s : Nat → Int32) (ks : List t_k3) : Prop := ∀ L, L < 3 → (¬ L ∈ ks.map (fun k => k.1) → r L = 0 ∧ s L = 0) ∧ (∀ k, k ∈ ks → k.1 = L → r L = nI k.2.1 ∧ s L = nI k.2.2)
def t_r479 (a b c : Nat → Int32) (ks : List t_k3) : Prop := ∀ i, i < ks.length → a i = nI ((ks.getD i (0, 0, 0)).1 + 14) ∧ (3 ≤ (ks.getD i (0, 0, 0)).1 → (ks.getD i (0, 0, 0)).1 ≤ 5 → b i = nI (ks.getD i (0, 0, 0)).2.1) ∧ ((ks.getD i (0, 0, 0)).1 = 3 → c i = nI (ks.getD i (0, 0, 0)).2.2)
def t_XX (H0 : Nat → Nat → Int32) (tk : Nat → Int32) (ks : List t_k3) (cs : List (Nat × Nat)) (A : Int32) (j : Nat) (E : Nat → Nat → Int32) : Prop :=
  (∀ k, t_nr k → E k = H0 k) ∧ E 39 7 = nI j ∧ E 39 8 = tk j ∧ E 39 9 = nI cs.length ∧ E 39 10 = nI ks.length ∧ E 39 12 = A ∧ E 39 13 = 0 ∧ E 39 14 = -1 ∧ t_r44 (E 44) cs ∧ t_r456 (E 45) (E 46) ks ∧ t_r479 (E 47) (E 48) (E 49) ks
def t_XE (H0 : Nat → Nat → Int32) (fl pl : Int32) (E : Nat → Nat → Int32) : Prop := (∀ k, t_nr k → E k = H0 k) ∧ ¬ fl = 0 ∧ E 39 13 = fl ∧ E 39 14 = pl ∧ E 39 8 = 131
def t_hx (H0 : Nat → Nat → Int32) (tk : Nat → Int32) (bg : Nat → Nat) (C : Nat) : Prop := H0 40 4 = nI C ∧ C ≤ 300 ∧ (∀ p, p ≤ C → H0 42 p = tk p ∧ H0 43 p = nI (bg p)) ∧ (∀ i, i < 3 → H0 3 i = q_nol.getD i 0)
theorem t_getD3_l (ks : List t_k3) (x : t_k3) : (ks ++ [x]).getD ks.length (0, 0, 0) = x := by
  rw [List.getD_eq_getElem?_getD, List.getElem?_append_right (Nat.le_refl _), Nat.sub_self]; rfl
theorem t_getD3_a (ks ds : List t_k3) {i : Nat} (h : i < ks.length) : (ks ++ ds).getD i (0, 0, 0) = ks.getD i (0, 0, 0) := by
  rw [List.getD_eq_getElem?_getD, List.getD_eq_getElem?_getD, List.getElem?_append_left h]
theorem t_r479_s {a b c a' b' c' : Nat → Int32} {ks : List t_k3} {k : t_k3} (h : t_r479 a b c ks) (hi : ∀ i, i < ks.length → a' i = a i ∧ b' i = b i ∧ c' i = c i) (h1 : a' ks.length = nI (k.1 + 14)) (h2 : 3 ≤ k.1 → k.1 ≤ 5 → b' ks.length = nI k.2.1) (h3 : k.1 = 3 → c' ks.length = nI k.2.2) : t_r479 a' b' c' (ks ++ [k]) := by
  intro i hl
  rw [List.length_append] at hl
  have hl' : i < ks.length + 1 := hl
  by_cases e : i = ks.length
  · subst e
    rw [t_getD3_l]
    exact ⟨h1, h2, h3⟩
  · rw [t_getD3_a _ _ (by omega), (hi i (by omega)).1, (hi i (by omega)).2.1, (hi i (by omega)).2.2]
    exact h i (by omega)
theorem t_map1 {ks : List t_k3} {k : t_k3} {L : Nat} : L ∈ (ks ++ [k]).map (fun k => k.1) ↔ L ∈ ks.map (fun k => k.1) ∨ L = k.1 := by
  rw [List.map_append, List.mem_append]
  show _ ∨ L ∈ [k.1] ↔ _
  rw [List.mem_singleton]
theorem t_r456_d {r s : Nat → Int32} {ks : List t_k3} {k : t_k3} (h : t_r456 r s ks) (hk : 3 ≤ k.1) : t_r456 r s (ks ++ [k]) := by
  intro L hL
  refine ⟨fun hn => (h L hL).1 (fun y => hn (t_map1.mpr (Or.inl y))), fun k' hk' e => ?_⟩
  rcases List.mem_append.mp hk' with y | y
  · exact (h L hL).2 k' y e
  · rw [List.mem_singleton.mp y] at e; omega
theorem t_r456_l {r s r' s' : Nat → Int32} {ks : List t_k3} {k : t_k3} (h : t_r456 r s ks) (hn : ¬ k.1 ∈ ks.map (fun k => k.1)) (h1 : ∀ L, ¬ L = k.1 → r' L = r L ∧ s' L = s L) (h2 : r' k.1 = nI k.2.1) (h3 : s' k.1 = nI k.2.2) : t_r456 r' s' (ks ++ [k]) := by
  intro L hL
  refine ⟨fun hn2 => ?_, fun k' hk' e => ?_⟩
  · have hne : ¬ L = k.1 := fun q => hn2 (t_map1.mpr (Or.inr q))
    rw [(h1 L hne).1, (h1 L hne).2]
    exact (h L hL).1 (fun y => hn2 (t_map1.mpr (Or.inl y)))
  · rcases List.mem_append.mp hk' with y | y
    · have hne : ¬ L = k.1 := fun q => hn (by rw [← q, ← e]; exact List.mem_map_of_mem y)
      rw [(h1 L hne).1, (h1 L hne).2]
      exact (h L hL).2 k' y e
    · rw [List.mem_singleton.mp y] at e ⊢
      rw [e] at h2 h3
      exact ⟨h2, h3⟩
theorem t_em_lt : ∀ (xs : List Int32) (r : Nat → Int32) (W i : Nat), i < W → t_em r W xs i = r i := by
  intro xs
  induction xs with
  | nil => intro r W i h; rfl
  | cons x xs ih =>
    intro r W i h
    show t_em (va_up r W x) (W + 1) xs i = r i
    rw [ih _ _ _ (by omega), q_upN _ _ (by omega)]
theorem t_em_ge : ∀ (xs : List Int32) (r : Nat → Int32) (W i : Nat), i < xs.length → t_em r W xs (W + i) = xs.getD i 0 := by
  intro xs
  induction xs with
  | nil => intro r W i h; exact absurd h (Nat.not_lt_zero i)
  | cons x xs ih =>
    intro r W i h
    show t_em (va_up r W x) (W + 1) xs (W + i) = _
    cases i with
    | zero => rw [t_em_lt _ _ _ _ (by omega)]; exact q_upE _ _ _
    | succ i =>
      rw [show W + (i + 1) = W + 1 + i by omega, ih _ _ _ (Nat.lt_of_succ_lt_succ h)]
      rfl
theorem t_r44_app {r : Nat → Int32} {cs c : List (Nat × Nat)} (h : t_r44 r cs) : t_r44 (t_em r cs.length (t_en c)) (cs ++ c) := by
  intro i hi
  rw [List.length_append] at hi
  by_cases e : i < cs.length
  · rw [t_em_lt _ _ _ _ e, t_getD_a _ _ e]; exact h i e
  · obtain ⟨p, rfl⟩ : ∃ p, i = cs.length + p := ⟨i - cs.length, by omega⟩
    rw [t_em_ge _ _ _ _ (by rw [t_en_len]; omega)]
    have hp : p < c.length := by omega
    have e1 : (cs ++ c).getD (cs.length + p) (0, 0) = c.getD p (0, 0) := by
      rw [List.getD_eq_getElem?_getD, List.getElem?_append_right (Nat.le_add_right _ _), Nat.add_sub_cancel_left, List.getD_eq_getElem?_getD]
    rw [e1]
    unfold t_en
    rw [List.getD_eq_getElem?_getD, List.getElem?_map, List.getD_eq_getElem?_getD, List.getElem?_eq_getElem hp]
    rfl
theorem t_XXmk {H0 D : Nat → Nat → Int32} {tk r : Nat → Int32} {ks : List t_k3} {cs : List (Nat × Nat)} {A : Int32} {j : Nat} (hD : ∀ k, t_nr k → D k = H0 k) (h13 : D 39 13 = 0) (h14 : D 39 14 = -1) (hr : t_r44 r cs) (h456 : t_r456 (D 45) (D 46) ks) (h479 : t_r479 (D 47) (D 48) (D 49) ks) : t_XX H0 tk ks cs A j (q_u (t_LV D tk j cs.length A r) 39 10 (nI ks.length)) := by
  refine ⟨fun k hk => ?_, rfl, rfl, rfl, q_uE _ _ _ _, rfl, h13, h14, hr, h456, h479⟩
  rw [q_uR hk.1]
  unfold t_LV
  rw [q_upN _ _ hk.2.1, q_upN _ _ hk.1]
  exact hD k hk
section
variable {d n sl : Nat} {ln : Nat → Nat} {dl : Nat → Nat → Int64} {dr : Nat → Nat → Option Nat} {Q : Option Value → q_H → Prop} {tk : Nat → Int32} {bg : Nat → Nat} {C F : Nat} {H0 : Nat → Nat → Int32}
theorem t_XEof {fl pl : Int32} {K : Nat} {E : Nat → Nat → Int32} (h : t_XD H0 fl pl K E) {v : Int32} : t_XE H0 fl pl (q_u E 39 10 v) :=
  ⟨fun k hk => by rw [q_uR hk.1]; exact h.1 k hk, h.2.1, h.2.2.1, h.2.2.2.1, h.2.2.2.2.1⟩
theorem t_XEof2 {fl pl : Int32} {D E : Nat → Nat → Int32} (h : t_DD D fl pl E) (hD : ∀ k, t_nr k → D k = H0 k) : t_XE H0 fl pl E :=
  ⟨fun k hk => (h.1 k hk.1 hk.2.1).trans (hD k hk), h.2.1, h.2.2.1, h.2.2.2.1, h.2.2.2.2.1⟩
/-- a clause behind its first token -/
theorem c_cl107 {ks : List t_k3} {cs : List (Nat × Nat)} {A : Int32} {j so : Nat} {D : Nat → Nat → Int32} (hh : t_hx H0 tk bg C) (hC : tk C = 131) (hC2 : ∀ j, j < C → ¬ tk j = 131) (h3 : ∀ j, 300 ≤ tk j → ∃ v, v ≤ 10000 ∧ tk j = nI (300 + v)) (htk : ∀ j, ∃ v, v ≤ 10300 ∧ tk j = nI v) (hF : 3010 ≤ F) (hg : q_Gr n ln dr) (hks : ks.length < 24) (hcs : cs.length ≤ j) (hj : j + 1 ≤ C) (hso : so ≤ 6)
    (hD : ∀ k, t_nr k → D k = H0 k) (h13 : D 39 13 = 0) (h14 : D 39 14 = -1) (h10 : D 39 10 = nI ks.length) (hr : t_r44 (D 44) cs) (h456 : t_r456 (D 45) (D 46) ks) (a b c : Nat → Int32) (h479 : t_r479 a b c ks) (ha : ∀ i, i < ks.length → D 47 i = a i ∧ D 48 i = b i ∧ D 49 i = c i) (haK : D 47 ks.length = nI (so + 14))
    (hn : so < 3 → ¬ so ∈ ks.map (fun k => k.1)) {o : t_O} (ho : o = if so < 3 then t_law F tk cs.length j so else t_dee tk j so)
    (k1 : o.1 = 0 → ∀ E', t_XX H0 tk (ks ++ [o.2.2.1]) (cs ++ o.2.2.2) (t_as o.2.2.1.1 A o.2.2.2) o.2.1 E' → Q none (n, sl, ln, E', dl, dr))
    (k0 : ¬ o.1 = 0 → ∀ E', t_XE H0 (nI o.1) (nI (bg o.2.1)) E' → Q none (n, sl, ln, E', dl, dr)) : q_EX q_KD (d + 60) 39 107 [.ref 39, .int (nI (so + 14))] [] (n, sl, ln, t_LV D tk (j + 1) cs.length A (D 44), dl, dr) Q := by
  obtain ⟨x1, x2, x3, x4⟩ := hh
  have cyD : t_cy D tk bg C := ⟨h13, by rw [hD 40 (by unfold t_nr; omega)]; exact x1, x2, fun p hp => by rw [hD 42 (by unfold t_nr; omega), hD 43 (by unfold t_nr; omega)]; exact x3 p hp⟩
  -- the end of a clause
  have fin : ∀ (D' : Nat → Nat → Int32) (jj : Nat) (A' : Int32) (cs' : List (Nat × Nat)) (r' : Nat → Int32) (k : t_k3) (c' : List (Nat × Nat)), t_cy D' tk bg C → (∀ k, t_nr k → D' k = H0 k) → D' 39 14 = -1 → D' 39 10 = nI ks.length → t_r44 r' cs' → t_r456 (D' 45) (D' 46) (ks ++ [k]) → t_r479 (D' 47) (D' 48) (D' 49) (ks ++ [k]) → cs' = cs ++ c' → A' = t_as k.1 A c' → jj ≤ C → cs'.length ≤ 300 → o = t_sc tk jj k c' → q_EX q_KD (d + 59) 51 0 [.ref 39, .int 59] [] (n, sl, ln, t_LV D' tk jj cs'.length A' r', dl, dr) (fun r1 h1 => q_EX q_KD (d + 59 + 1) 39 178 [.ref 39, .retAddr 0] (r1.toList ++ []) h1 Q) := by
    intro D' jj A' cs' r' k c' p1 p2 p3 p4 p5 p6 p7 p8 p9 p10 p11 p12
    refine c_expY p1 p10 p11 (fun q => t_neC hC p10 (by rw [q]; decide)) hg (fun z => g39_178 hg ?_) (fun z E hE => g39_178 hg ?_)
    · unfold t_sc at p12
      rw [if_pos z] at p12
      subst p12
      have e10 : t_LV D' tk (jj + 1) cs'.length A' r' 39 10 = nI ks.length := p4
      rw [e10, nI_1, show ks.length + 1 = (ks ++ [k]).length by rw [List.length_append]; rfl]
      have := t_XXmk (tk := tk) (A := A') (j := jj + 1) p2 p1.1 p3 p5 p6 p7
      rw [p8, p9] at this
      rw [p8, p9]
      exact k1 rfl _ this
    · unfold t_sc at p12
      rw [if_neg z] at p12
      subst p12
      exact k0 (Nat.succ_ne_zero _) _ (t_XEof (t_XDof hE p2 p4))
  by_cases c3 : so < 3
  · rw [if_pos c3] at ho
    unfold t_law at ho
    have hm : (if so = 0 then 8 else 3) ≤ 9 ∧ t_rk (if so = 0 then 8 else 3) ≤ 5 ∧ t_lo (if so = 0 then 8 else 3) = false := by
      by_cases y : so = 0
      · rw [if_pos y]; decide
      · rw [if_neg y]; decide
    obtain ⟨R, r1, r2⟩ := t_SG (L := so) hC hC2 h3 F (if so = 0 then 8 else 3) 0 (j + 1) hm.1 hj (by have := hm.2.1; omega)
    rw [r1] at ho
    replace ho : o = if R.1 = 0 then t_sc tk R.2.1 (so, cs.length, cs.length + R.2.2.length) R.2.2 else t_oF R.1 R.2.1 := ho
    have e14 : nI (so + 14) - 14 = nI so := t_s14
    have lo16 : ¬ 16 < nI (so + 14) := fun w => by have := (nI_ltI (a := 16) (by decide) (by omega)).mp w; omega
    have e9 : t_LV D tk (j + 1) cs.length A (D 44) 39 9 = nI cs.length := rfl
    -- the heap ahead of the chain
    obtain ⟨G, hG⟩ : ∃ G, G = q_u (q_u D 39 11 (nI so)) 45 so (nI cs.length) := ⟨_, rfl⟩
    have eG : q_u (q_u (t_LV D tk (j + 1) cs.length A (D 44)) 39 11 (nI so)) 45 so (nI cs.length) = t_LV G tk (j + 1) cs.length A (D 44) := by
      rw [hG, ← t_LVo (by decide) (by decide)]
      congr 1
      funext k
      by_cases e : k = 39
      · subst e
        funext i
        by_cases e11 : i = 11
        · subst e11; rw [q_uE]; rfl
        · rw [q_uN _ _ _ _ _ e11]
          unfold t_LV
          rw [q_upN _ _ (show ¬ (39 : Nat) = 44 by decide), q_upN _ _ (show ¬ (39 : Nat) = 44 by decide), q_upE, q_upE]
          unfold t_39
          by_cases e12 : i = 12
          · subst e12; rw [q_upE, q_upE]
          · rw [q_upN _ _ e12, q_upN _ _ e12]
            by_cases e9 : i = 9
            · subst e9; rw [q_upE, q_upE]
            · rw [q_upN _ _ e9, q_upN _ _ e9]
              by_cases e8 : i = 8
              · subst e8; rw [q_upE, q_upE]
              · rw [q_upN _ _ e8, q_upN _ _ e8]
                by_cases e7 : i = 7
                · subst e7; rw [q_upE, q_upE]
                · rw [q_upN _ _ e7, q_upN _ _ e7, q_uN _ _ _ _ _ e11]
      · rw [q_uR e]
        unfold t_LV
        by_cases e4 : k = 44
        · subst e4; rw [q_upE, q_upE]
        · rw [q_upN _ _ e4, q_upN _ _ e4, q_upN _ _ e, q_upN _ _ e, q_uR e]
    have G13 : G 39 13 = 0 := by rw [hG]; exact h13
    have G14 : G 39 14 = -1 := by rw [hG]; exact h14
    have G10 : G 39 10 = nI ks.length := by rw [hG]; exact h10
    have G11 : G 39 11 = nI so := by rw [hG]; rfl
    have Gnr : ∀ k, t_nr k → G k = H0 k := by
      rw [hG]
      exact t_nro (fun k hk => by rw [q_uR hk.1]; exact hD k hk) (by decide)
    have cxG : t_cx G tk bg so C := ⟨G13, by rw [Gnr 40 (by unfold t_nr; omega)]; exact x1, x2, fun p hp => by rw [Gnr 42 (by unfold t_nr; omega), Gnr 43 (by unfold t_nr; omega)]; exact x3 p hp, G11, c3, fun i hi => by rw [Gnr 3 (by unfold t_nr; omega)]; exact x4 i hi⟩
    have G45 : ∀ L, ¬ L = so → G 45 L = D 45 L := fun L hL => by rw [hG, q_uN _ _ _ _ _ hL]; rfl
    have G45s : G 45 so = nI cs.length := by rw [hG, q_uE]
    have G46 : G 46 = D 46 := by rw [hG]; rfl
    have G479 : G 47 = D 47 ∧ G 48 = D 48 ∧ G 49 = D 49 := by rw [hG]; exact ⟨rfl, rfl, rfl⟩
    clear hG
    -- behind the chain
    have main : t_ok n sl ln dl dr G tk bg so cs.length A (D 44) (fun r1 h1 => q_EX q_KD (d + 59 + 1) 39 151 [.ref 39, .retAddr 0] (r1.toList ++ []) h1 Q) R := by
      refine ⟨fun h0 => ?_, fun h0 E hE => ?_⟩
      · obtain ⟨a1, a2, a3, a4, a5, a6⟩ := r2.1 h0
        have a2' := a2 hm.2.2
        rw [if_pos h0] at ho
        have f11 : t_lv G tk so cs.length A (D 44) R.2.1 R.2.2 39 11 = nI so := G11
        have f9 : t_lv G tk so cs.length A (D 44) R.2.1 R.2.2 39 9 = nI (cs.length + R.2.2.length) := rfl
        refine g39_151 hg (by rw [f11]; exact vp_in_nI c3 (by decide)) ?_
        rw [f11, f9, nI_clamp (by omega)]
        unfold t_lv
        rw [t_LVo (by decide) (by decide)]
        have := fin (q_u G 46 so (nI (cs.length + R.2.2.length))) R.2.1 (t_as so A R.2.2) (cs ++ R.2.2) (t_em (D 44) cs.length (t_en R.2.2)) (so, cs.length, cs.length + R.2.2.length) R.2.2 (t_cyo ⟨G13, cxG.2.1, cxG.2.2.1, cxG.2.2.2.1⟩ (by decide)) (t_nro Gnr (by decide)) G14 G10 (t_r44_app hr) ?_ ?_ rfl rfl a3 (by rw [List.length_append]; omega) ho
        · rw [List.length_append] at this
          exact this
        · refine t_r456_l h456 (hn c3) (fun L hL => ⟨G45 L hL, ?_⟩) G45s (q_uE _ _ _ _)
          rw [q_uN _ _ _ _ _ hL]
          exact congrFun G46 L
        · show t_r479 (G 47) (G 48) (G 49) _
          rw [G479.1, G479.2.1, G479.2.2]
          exact t_r479_s h479 ha haK (fun q => absurd q (by show ¬ 3 ≤ so; omega)) (fun q => absurd q (by show ¬ so = 3; omega))
      · rw [if_neg h0] at ho
        subst ho
        have f11 : E 39 11 = nI so := hE.2.2.2.2.2.2.2.trans G11
        refine g39_151 hg (by rw [f11]; exact vp_in_nI c3 (by decide)) ?_
        exact c_expZ (t_XDu (t_XDof hE Gnr G10) (by omega)) (by decide) hg (fun E' h' => g39_178 hg (k0 h0 _ (t_XEof h')))
    have ih := c_rdX (sl := sl) (dl := dl) cxG hC hC2 h3 htk hg F
    refine g39_107 hg (fun w => absurd w lo16) (fun _ => by rw [e14]; exact vp_in_nI c3 (by decide)) (fun _ w => ?_) (fun _ w => ?_)
    · rw [e14] at w ⊢
      rw [nI_clamp (by omega), e9, eG]
      have so0 : ¬ so = 0 := fun q => w (by rw [q]; rfl)
      rw [if_neg so0] at r1
      exact ih 3 0 (j + 1) cs.length (d + 59) A (D 44) R _ (by decide) hj (by show 10 * (C - (j + 1)) + 2 + 1 ≤ F; omega) (by decide) (by omega) r1 main (by show 4 + 5 * (8 - 0) + 2 ≤ d + 59; omega)
    · rw [e14] at w ⊢
      rw [nI_clamp (by omega), e9, eG]
      have so0 : so = 0 := (nI_eq (b := 0) (by omega) (by decide)).mp w
      rw [if_pos so0] at r1
      exact ih 8 0 (j + 1) cs.length (d + 59) A (D 44) R _ (by decide) hj (by show 10 * (C - (j + 1)) + 5 + 1 ≤ F; omega) (by decide) (by omega) r1 main (by show 9 + 5 * (8 - 0) + 2 ≤ d + 59; omega)
  · rw [if_neg c3] at ho
    have hi16 : 16 < nI (so + 14) := (nI_ltI (a := 16) (by decide) (by omega)).mpr (by omega)
    refine g39_107 hg (fun _ => ?_) (fun w => absurd hi16 (q_not_lt w)) (fun w => absurd hi16 (q_not_lt w)) (fun w => absurd hi16 (q_not_lt w))
    refine c_deeX (so := so) cyD hD h10 hks htk hC (by omega) hso hj (by omega) hg (fun z => ?_) (fun z6 z3 p p1 p2 p3 => ?_) (fun z3 p s p1 s1 p2 p3 => ?_) (fun fl p f1 e1 E hE => ?_)
    · refine g39_172 hg (fin D (j + 1) A cs (D 44) (6, 0, 0) [] cyD hD h14 h10 hr (t_r456_d h456 (by show 3 ≤ 6; decide)) (t_r479_s h479 ha (by rw [haK, z]) (fun _ q => absurd q (by decide)) (fun q => absurd q (by decide))) (by rw [List.append_nil]) rfl hj (by omega) ?_)
      rw [ho]
      unfold t_dee
      rw [if_pos z]
    · refine g39_172 hg (fin (q_u D 48 ks.length (nI p)) (j + 2) A cs (D 44) (so, p, 0) [] (t_cyo cyD (by decide)) (t_nro hD (by decide)) h14 h10 hr (t_r456_d h456 (by show 3 ≤ so; omega)) (t_r479_s h479 (fun i hi => ⟨(ha i hi).1, ?_, (ha i hi).2.2⟩) haK (fun _ _ => q_uE _ _ _ _) (fun q => absurd q z3)) (by rw [List.append_nil]) rfl p3 (by omega) (ho.trans p2))
      rw [q_uN _ _ _ _ _ (by omega)]; exact (ha i hi).2.1
    · refine g39_172 hg (fin (q_u (q_u D 48 ks.length (nI p)) 49 ks.length (nI s)) (j + 4) A cs (D 44) (3, p, s) [] (t_cyo (t_cyo cyD (by decide)) (by decide)) (t_nro (t_nro hD (by decide)) (by decide)) h14 h10 hr (t_r456_d h456 (by show 3 ≤ 3; decide)) (t_r479_s h479 (fun i hi => ⟨(ha i hi).1, ?_, ?_⟩) (by rw [← z3]; exact haK) (fun _ _ => ?_) (fun _ => q_uE _ _ _ _)) (by rw [List.append_nil]) rfl p3 (by omega) (ho.trans p2))
      · show (q_u D 48 ks.length (nI p)) 48 i = b i
        rw [q_uN _ _ _ _ _ (by omega)]; exact (ha i hi).2.1
      · rw [q_uN _ _ _ _ _ (by omega)]; exact (ha i hi).2.2
      · exact q_uE D 48 ks.length (nI p)
    · have eo := ho.trans e1
      subst eo
      exact g39_172 hg (c_expZ hE (by decide) hg (fun E' h' => g39_178 hg (k0 (by show ¬ fl = 0; omega) _ (t_XEof h'))))
end
