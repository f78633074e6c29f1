/-! THE MODEL READS A CLAUSE -/
def t_mf2 (T : Nat) (D0 D : Nat → Nat → Int32) : Prop := (∀ k, ¬ k = 67 → ¬ k = 70 → ¬ k = 72 → D k = D0 k) ∧ (∀ i, i < 7 → D 67 i = D0 67 i) ∧ (∀ i, i < 680 * T → D 70 i = D0 70 i)
def t_hd (r : Nat → Int32) (T : Nat) (ks : List t_k3) : Prop := ∀ i, i < ks.length → r (680 * T + 1 + 3 * i) = nI (ks.getD i (0, 0, 0)).1 ∧ ((ks.getD i (0, 0, 0)).1 ≤ 5 → r (680 * T + 1 + 3 * i + 1) = nI (ks.getD i (0, 0, 0)).2.1) ∧ ((ks.getD i (0, 0, 0)).1 ≤ 3 → r (680 * T + 1 + 3 * i + 2) = nI (ks.getD i (0, 0, 0)).2.2)
def t_on (x : Int32) (p : Nat → Prop) : Prop := ∃ m, m < 8 ∧ x = nI m ∧ ∀ L, L < 3 → (m.testBit L = true ↔ p L)
def t_MC (D0 : Nat → Nat → Int32) (N : Nat) (bt : Nat → Int32) (T : Nat) (ks : List t_k3) (cs : List (Nat × Nat)) (j : Nat) (D : Nat → Nat → Int32) (dl : Nat → Nat → Int64) : Prop :=
  t_mf2 T D0 D ∧ D 67 12 = nI (680 * T) ∧ t_ms (D 67) (dl 67 11) N bt (t_bg N bt j) (t_tc N bt j) (t_ps N bt (j + 1)) ∧ D 67 14 = nI cs.length ∧ D 67 18 = nI 0 ∧ t_on (D 67 21) (fun L => L ∈ ks.map (fun k => k.1)) ∧ D 70 (680 * T) = nI ks.length ∧ t_hd (D 70) T ks ∧ t_cod (D 70) T cs
def t_my (D0 : Nat → Nat → Int32) (N : Nat) (bt : Nat → Int32) (T : Nat) : Prop := N ≤ 300 ∧ (∀ i, i < N → (0 : Int32) ≤ bt i) ∧ D0 67 4 = nI N ∧ (∀ i, i < N → D0 71 i = bt i) ∧ T < 4
theorem t_hd_s {r r' : Nat → Int32} {T : Nat} {ks : List t_k3} {k : t_k3} (h : t_hd r T ks) (hi : ∀ i, 680 * T < i → i < 680 * T + 1 + 3 * ks.length → r' i = r i) (h1 : r' (680 * T + 1 + 3 * ks.length) = nI k.1) (h2 : k.1 ≤ 5 → r' (680 * T + 1 + 3 * ks.length + 1) = nI k.2.1) (h3 : k.1 ≤ 3 → r' (680 * T + 1 + 3 * ks.length + 2) = nI k.2.2) : t_hd r' T (ks ++ [k]) := by
  intro i hl
  rw [List.length_append] at hl
  have hl' : i < ks.length + 1 := hl
  by_cases e : i = ks.length
  · subst e
    rw [t_getD3_l]
    exact ⟨h1, h2, h3⟩
  · rw [t_getD3_a _ _ (by omega), hi _ (by omega) (by omega), hi _ (by omega) (by omega), hi _ (by omega) (by omega)]
    exact h i (by omega)
theorem t_cod_c {r r' : Nat → Int32} {T : Nat} {cs : List (Nat × Nat)} (h : t_cod r T cs) (hi : ∀ i, 680 * T + 75 ≤ i → r' i = r i) : t_cod r' T cs := fun i hl => by
  rw [hi _ (by omega), hi _ (by omega)]; exact h i hl
theorem t_onb : ∀ m, m < 8 → ∀ L, L < 3 → (((nI m >>> (nI L &&& 31)) &&& 1 = 1) ↔ m.testBit L = true) ∧ nI m ||| (1 <<< (nI L &&& 31)) = nI (m ||| 2 ^ L) ∧ m ||| 2 ^ L < 8 ∧ (∀ K, K < 3 → ((m ||| 2 ^ L).testBit K = true ↔ m.testBit K = true ∨ K = L)) := by decide +kernel
section
variable {e n sl : Nat} {ln : Nat → Nat} {dl : Nat → Nat → Int64} {dr : Nat → Nat → Option Nat} {Q : Option Value → q_H → Prop} {D0 D : Nat → Nat → Int32} {N T jj so : Nat} {bt : Nat → Int32} {ks : List t_k3} {k : t_k3} {cs : List (Nat × Nat)}
theorem c_clE107 {F0 : Nat} (hx : t_my D0 N bt T) (hg : q_Gr n ln dr) (hso : so ≤ 6) (hK : ks.length < 24) (hc : cs.length ≤ 300) (hf : t_mf2 T D0 D) (h12 : D 67 12 = nI (680 * T)) (hms : t_ms (D 67) (dl 67 11) N bt (t_bg N bt jj) (t_tc N bt jj) (t_ps N bt (jj + 1))) (h14 : D 67 14 = nI cs.length) (h18 : D 67 18 = nI 0) (h21 : t_on (D 67 21) (fun L => L ∈ (ks ++ [k]).map (fun k => k.1))) (h70 : D 70 (680 * T) = nI ks.length) (hhd : t_hd (D 70) T ks) (hk0 : D 70 (680 * T + 1 + 3 * ks.length) = nI so) (hcod : t_cod (D 70) T cs)
    (hl : so < 3 → k = (so, F0, cs.length)) (hd : 3 ≤ so → k.1 = so ∧ (so ≤ 5 → D 70 (680 * T + 1 + 3 * ks.length + 1) = nI k.2.1) ∧ (so = 3 → D 70 (680 * T + 1 + 3 * ks.length + 2) = nI k.2.2))
    (k1 : t_tc N bt jj = 59 → ∀ D' dl', t_MC D0 N bt T (ks ++ [k]) cs (jj + 1) D' dl' → Q (some (.int 0)) (n, sl, ln, D', dl', dr)) (k0 : ¬ t_tc N bt jj = 59 → ∀ D', t_mf2 T D0 D' → D' 67 8 = nI (t_bg N bt jj) → Q (some (.int 1)) (n, sl, ln, D', dl, dr)) : q_EX q_KD (e + 4) 131 107 [.ref 67, .int (nI so), .retAddr 0, .int (nI (680 * T + 1 + 3 * ks.length)), .int (nI F0), .retAddr 0] [.int 0] (n, sl, ln, D, dl, dr) Q := by
  obtain ⟨y1, y2, y3, y4, y5⟩ := hx
  have s59 := (t_sgq hms).2.2.2.2.2.2.2.2.2.2.1
  have v12 : vp_in (D 67 12) 2720 := by rw [h12]; exact vp_in_nI (by omega) (by decide)
  have c12 : (D 67 12).toNatClampNeg = 680 * T := by rw [h12]; exact nI_clamp (by omega)
  -- behind the writes
  have fin : ∀ r, (∀ i, i < 680 * T → r i = D 70 i) → r (680 * T) = nI (ks.length + 1) → t_hd r T (ks ++ [k]) → t_cod r T cs → ∀ G, G 70 = r → (∀ k, ¬ k = 70 → G k = D k) → (D 67 9 = 59 → q_EX q_KD (e + 3) 127 0 [.ref 67, .retAddr 0, .retAddr 0] [] (n, sl, ln, G, dl, dr) (fun r1 h1 => q_EX q_KD (e + 3 + 1) 131 193 [.retAddr 0, .retAddr 0, .retAddr 0, .retAddr 0, .retAddr 0, .retAddr 0] (r1.toList ++ []) h1 Q)) ∧ (¬ D 67 9 = 59 → Q (some (.int 1)) (n, sl, ln, G, dl, dr)) := by
    intro r r1 r2 r3 r4 G G1 G2
    have m2 : t_mf2 T D0 G := ⟨fun k a b c => (G2 k b).trans (hf.1 k a b c), fun i hi => (congrFun (G2 67 (by decide)) i).trans (hf.2.1 i hi), fun i hi => by rw [G1, r1 i hi]; exact hf.2.2 i hi⟩
    refine ⟨fun w => ?_, fun w => k0 (fun q => w (s59.mpr q)) G m2 (by rw [G2 67 (by decide)]; exact hms.2.1)⟩
    refine c_nxG (j := jj) y1 y2 (by rw [m2.2.1 4 (by decide)]; exact y3) (by rw [m2.1 71 (by decide) (by decide) (by decide)]; exact y4) (by rw [G2 67 (by decide)]; exact hms) hg (fun D' dl' f1 f2 => p131_193 hg (k1 (s59.mp w) D' dl' ?_))
    have g67 : ∀ i, ¬ i = 7 → ¬ i = 8 → ¬ i = 9 → ¬ i = 10 → D' 67 i = D 67 i := fun i a b c q => (f1.2 i a b c q).trans (congrFun (G2 67 (by decide)) i)
    have g70 : D' 70 = r := (f1.1 70 (by decide)).trans G1
    refine ⟨⟨fun k a b c => (f1.1 k a).trans (m2.1 k a b c), fun i hi => (f1.2 i (by omega) (by omega) (by omega) (by omega)).trans (m2.2.1 i hi), fun i hi => (congrFun (f1.1 70 (by decide)) i).trans (m2.2.2 i hi)⟩, ?_, f2, ?_, ?_, ?_, ?_, ?_, ?_⟩
    · rw [g67 12 (by decide) (by decide) (by decide) (by decide)]; exact h12
    · rw [g67 14 (by decide) (by decide) (by decide) (by decide)]; exact h14
    · rw [g67 18 (by decide) (by decide) (by decide) (by decide)]; exact h18
    · rw [g67 21 (by decide) (by decide) (by decide) (by decide)]; exact h21
    · rw [g70, r2, List.length_append]; rfl
    · rw [g70]; exact r3
    · rw [g70]; exact r4
  by_cases c3 : so < 3
  · have n3 : ¬ 3 ≤ nI so := nI_ge (b := 3) (by omega) (by decide)
    have e1 : nI (680 * T + 1 + 3 * ks.length) + 1 = nI (680 * T + 1 + 3 * ks.length + 1) := nI_1 _
    have e2 : nI (680 * T + 1 + 3 * ks.length) + 2 = nI (680 * T + 1 + 3 * ks.length + 2) := nI_add _ 2
    obtain ⟨r, hr⟩ : ∃ r, r = va_up (va_up (va_up (D 70) (680 * T + 1 + 3 * ks.length + 1) (nI F0)) (680 * T + 1 + 3 * ks.length + 2) (nI cs.length)) (680 * T) (nI (ks.length + 1)) := ⟨_, rfl⟩
    have ek := hl c3
    have f := fin r (fun i hi => by rw [hr, q_upN _ _ (by omega), q_upN _ _ (by omega), q_upN _ _ (by omega)]) (by rw [hr]; exact q_upE _ _ _) (t_hd_s hhd (fun i h1 h2 => by rw [hr, q_upN _ _ (by omega), q_upN _ _ (by omega), q_upN _ _ (by omega)]) (by rw [hr, q_upN _ _ (by omega), q_upN _ _ (by omega), q_upN _ _ (by omega), hk0, ek]) (fun _ => by rw [hr, q_upN _ _ (by omega), q_upN _ _ (by omega), ek]; exact q_upE _ _ _) (fun _ => by rw [hr, q_upN _ _ (by omega), ek]; exact q_upE _ _ _)) (t_cod_c hcod (fun i hi => by rw [hr, q_upN _ _ (by omega), q_upN _ _ (by omega), q_upN _ _ (by omega)]))
      (q_u (q_u (q_u D 70 (680 * T + 1 + 3 * ks.length + 1) (nI F0)) 70 (680 * T + 1 + 3 * ks.length + 2) (nI cs.length)) 70 (680 * T) (nI (ks.length + 1))) (by rw [hr]; rfl) (fun k hk => by rw [q_uR hk, q_uR hk, q_uR hk])
    have e70 : (q_u (q_u D 70 (680 * T + 1 + 3 * ks.length + 1) (nI F0)) 70 (680 * T + 1 + 3 * ks.length + 2) (nI cs.length)) 70 (680 * T) + 1 = nI (ks.length + 1) := by
      rw [q_uN _ _ _ _ _ (by omega), q_uN _ _ _ _ _ (by omega), h70, nI_1]
    refine p131_107 hg (fun _ w => absurd w n3) (fun _ w => absurd w n3) (fun _ w => absurd w n3) (fun _ w => absurd w n3) (fun _ _ => by rw [e1]; exact vp_in_nI (by omega) (by decide)) (fun _ _ => by rw [e2]; exact vp_in_nI (by omega) (by decide)) (fun _ _ => v12) (fun _ _ => v12) (fun _ _ w => ?_) (fun _ _ w => ?_) (fun w => absurd rfl w)
    · rw [e1, e2, c12, h14, nI_clamp (show 680 * T + 1 + 3 * ks.length + 1 < 2 ^ 31 by omega), nI_clamp (show 680 * T + 1 + 3 * ks.length + 2 < 2 ^ 31 by omega), e70]
      exact f.1 w
    · rw [e1, e2, c12, h14, nI_clamp (show 680 * T + 1 + 3 * ks.length + 1 < 2 ^ 31 by omega), nI_clamp (show 680 * T + 1 + 3 * ks.length + 2 < 2 ^ 31 by omega), e70]
      exact f.2 w
  · have n3 : ¬ nI so < 3 := nI_nlt (b := 3) (by omega) (by omega)
    obtain ⟨d1, d2, d3⟩ := hd (by omega)
    have f := fin (va_up (D 70) (680 * T) (nI (ks.length + 1))) (fun i hi => by rw [q_upN _ _ (by omega)]) (q_upE _ _ _) (t_hd_s hhd (fun i h1 h2 => by rw [q_upN _ _ (by omega)]) (by rw [q_upN _ _ (by omega), hk0, d1]) (fun w => by rw [q_upN _ _ (by omega)]; exact d2 (by omega)) (fun w => by rw [q_upN _ _ (by omega)]; exact d3 (by omega))) (t_cod_c hcod (fun i hi => by rw [q_upN _ _ (by omega)]))
      (q_u D 70 (680 * T) (nI (ks.length + 1))) rfl (fun k hk => by rw [q_uR hk])
    refine p131_107 hg (fun _ _ => v12) (fun _ _ => v12) (fun _ _ w => ?_) (fun _ _ w => ?_) (fun _ w => absurd w n3) (fun _ w => absurd w n3) (fun _ w => absurd w n3) (fun _ w => absurd w n3) (fun _ w => absurd w n3) (fun _ w => absurd w n3) (fun w => absurd rfl w)
    · rw [c12, h70, nI_1]
      exact f.1 w
    · rw [c12, h70, nI_1]
      exact f.2 w
theorem c_clE119 {F0 : Nat} (hx : t_my D0 N bt T) (hg : q_Gr n ln dr) (hso : so ≤ 6) (hK : ks.length < 24) (hc : cs.length ≤ 300) (hf : t_mf2 T D0 D) (h12 : D 67 12 = nI (680 * T)) (hms : t_ms (D 67) (dl 67 11) N bt (t_bg N bt jj) (t_tc N bt jj) (t_ps N bt (jj + 1))) (h14 : D 67 14 = nI cs.length) (h18 : D 67 18 = nI 0) (h21 : t_on (D 67 21) (fun L => L ∈ (ks ++ [k]).map (fun k => k.1))) (h70 : D 70 (680 * T) = nI ks.length) (hhd : t_hd (D 70) T ks) (hk0 : D 70 (680 * T + 1 + 3 * ks.length) = nI so) (hcod : t_cod (D 70) T cs)
    (hl : so < 3 → k = (so, F0, cs.length)) (hd : 3 ≤ so → k.1 = so ∧ (so ≤ 5 → D 70 (680 * T + 1 + 3 * ks.length + 1) = nI k.2.1) ∧ (so = 3 → D 70 (680 * T + 1 + 3 * ks.length + 2) = nI k.2.2))
    (k1 : t_tc N bt jj = 59 → ∀ D' dl', t_MC D0 N bt T (ks ++ [k]) cs (jj + 1) D' dl' → Q (some (.int 0)) (n, sl, ln, D', dl', dr)) (k0 : ¬ t_tc N bt jj = 59 → ∀ D', t_mf2 T D0 D' → D' 67 8 = nI (t_bg N bt jj) → Q (some (.int 1)) (n, sl, ln, D', dl, dr)) : q_EX q_KD (e + 4) 131 119 [.ref 67, .int (nI so), .retAddr 0, .int (nI (680 * T + 1 + 3 * ks.length)), .int (nI F0), .retAddr 0] [.int 0] (n, sl, ln, D, dl, dr) Q := by
  obtain ⟨y1, y2, y3, y4, y5⟩ := hx
  have s59 := (t_sgq hms).2.2.2.2.2.2.2.2.2.2.1
  have v12 : vp_in (D 67 12) 2720 := by rw [h12]; exact vp_in_nI (by omega) (by decide)
  have c12 : (D 67 12).toNatClampNeg = 680 * T := by rw [h12]; exact nI_clamp (by omega)
  -- behind the writes
  have fin : ∀ r, (∀ i, i < 680 * T → r i = D 70 i) → r (680 * T) = nI (ks.length + 1) → t_hd r T (ks ++ [k]) → t_cod r T cs → ∀ G, G 70 = r → (∀ k, ¬ k = 70 → G k = D k) → (D 67 9 = 59 → q_EX q_KD (e + 3) 127 0 [.ref 67, .retAddr 0, .retAddr 0] [] (n, sl, ln, G, dl, dr) (fun r1 h1 => q_EX q_KD (e + 3 + 1) 131 193 [.retAddr 0, .retAddr 0, .retAddr 0, .retAddr 0, .retAddr 0, .retAddr 0] (r1.toList ++ []) h1 Q)) ∧ (¬ D 67 9 = 59 → Q (some (.int 1)) (n, sl, ln, G, dl, dr)) := by
    intro r r1 r2 r3 r4 G G1 G2
    have m2 : t_mf2 T D0 G := ⟨fun k a b c => (G2 k b).trans (hf.1 k a b c), fun i hi => (congrFun (G2 67 (by decide)) i).trans (hf.2.1 i hi), fun i hi => by rw [G1, r1 i hi]; exact hf.2.2 i hi⟩
    refine ⟨fun w => ?_, fun w => k0 (fun q => w (s59.mpr q)) G m2 (by rw [G2 67 (by decide)]; exact hms.2.1)⟩
    refine c_nxG (j := jj) y1 y2 (by rw [m2.2.1 4 (by decide)]; exact y3) (by rw [m2.1 71 (by decide) (by decide) (by decide)]; exact y4) (by rw [G2 67 (by decide)]; exact hms) hg (fun D' dl' f1 f2 => p131_193 hg (k1 (s59.mp w) D' dl' ?_))
    have g67 : ∀ i, ¬ i = 7 → ¬ i = 8 → ¬ i = 9 → ¬ i = 10 → D' 67 i = D 67 i := fun i a b c q => (f1.2 i a b c q).trans (congrFun (G2 67 (by decide)) i)
    have g70 : D' 70 = r := (f1.1 70 (by decide)).trans G1
    refine ⟨⟨fun k a b c => (f1.1 k a).trans (m2.1 k a b c), fun i hi => (f1.2 i (by omega) (by omega) (by omega) (by omega)).trans (m2.2.1 i hi), fun i hi => (congrFun (f1.1 70 (by decide)) i).trans (m2.2.2 i hi)⟩, ?_, f2, ?_, ?_, ?_, ?_, ?_, ?_⟩
    · rw [g67 12 (by decide) (by decide) (by decide) (by decide)]; exact h12
    · rw [g67 14 (by decide) (by decide) (by decide) (by decide)]; exact h14
    · rw [g67 18 (by decide) (by decide) (by decide) (by decide)]; exact h18
    · rw [g67 21 (by decide) (by decide) (by decide) (by decide)]; exact h21
    · rw [g70, r2, List.length_append]; rfl
    · rw [g70]; exact r3
    · rw [g70]; exact r4
  by_cases c3 : so < 3
  · have n3 : ¬ 3 ≤ nI so := nI_ge (b := 3) (by omega) (by decide)
    have e1 : nI (680 * T + 1 + 3 * ks.length) + 1 = nI (680 * T + 1 + 3 * ks.length + 1) := nI_1 _
    have e2 : nI (680 * T + 1 + 3 * ks.length) + 2 = nI (680 * T + 1 + 3 * ks.length + 2) := nI_add _ 2
    obtain ⟨r, hr⟩ : ∃ r, r = va_up (va_up (va_up (D 70) (680 * T + 1 + 3 * ks.length + 1) (nI F0)) (680 * T + 1 + 3 * ks.length + 2) (nI cs.length)) (680 * T) (nI (ks.length + 1)) := ⟨_, rfl⟩
    have ek := hl c3
    have f := fin r (fun i hi => by rw [hr, q_upN _ _ (by omega), q_upN _ _ (by omega), q_upN _ _ (by omega)]) (by rw [hr]; exact q_upE _ _ _) (t_hd_s hhd (fun i h1 h2 => by rw [hr, q_upN _ _ (by omega), q_upN _ _ (by omega), q_upN _ _ (by omega)]) (by rw [hr, q_upN _ _ (by omega), q_upN _ _ (by omega), q_upN _ _ (by omega), hk0, ek]) (fun _ => by rw [hr, q_upN _ _ (by omega), q_upN _ _ (by omega), ek]; exact q_upE _ _ _) (fun _ => by rw [hr, q_upN _ _ (by omega), ek]; exact q_upE _ _ _)) (t_cod_c hcod (fun i hi => by rw [hr, q_upN _ _ (by omega), q_upN _ _ (by omega), q_upN _ _ (by omega)]))
      (q_u (q_u (q_u D 70 (680 * T + 1 + 3 * ks.length + 1) (nI F0)) 70 (680 * T + 1 + 3 * ks.length + 2) (nI cs.length)) 70 (680 * T) (nI (ks.length + 1))) (by rw [hr]; rfl) (fun k hk => by rw [q_uR hk, q_uR hk, q_uR hk])
    have e70 : (q_u (q_u D 70 (680 * T + 1 + 3 * ks.length + 1) (nI F0)) 70 (680 * T + 1 + 3 * ks.length + 2) (nI cs.length)) 70 (680 * T) + 1 = nI (ks.length + 1) := by
      rw [q_uN _ _ _ _ _ (by omega), q_uN _ _ _ _ _ (by omega), h70, nI_1]
    refine p131_119 hg (fun _ w => absurd w n3) (fun _ w => absurd w n3) (fun _ w => absurd w n3) (fun _ w => absurd w n3) (fun _ _ => by rw [e1]; exact vp_in_nI (by omega) (by decide)) (fun _ _ => by rw [e2]; exact vp_in_nI (by omega) (by decide)) (fun _ _ => v12) (fun _ _ => v12) (fun _ _ w => ?_) (fun _ _ w => ?_) (fun w => absurd rfl w)
    · rw [e1, e2, c12, h14, nI_clamp (show 680 * T + 1 + 3 * ks.length + 1 < 2 ^ 31 by omega), nI_clamp (show 680 * T + 1 + 3 * ks.length + 2 < 2 ^ 31 by omega), e70]
      exact f.1 w
    · rw [e1, e2, c12, h14, nI_clamp (show 680 * T + 1 + 3 * ks.length + 1 < 2 ^ 31 by omega), nI_clamp (show 680 * T + 1 + 3 * ks.length + 2 < 2 ^ 31 by omega), e70]
      exact f.2 w
  · have n3 : ¬ nI so < 3 := nI_nlt (b := 3) (by omega) (by omega)
    obtain ⟨d1, d2, d3⟩ := hd (by omega)
    have f := fin (va_up (D 70) (680 * T) (nI (ks.length + 1))) (fun i hi => by rw [q_upN _ _ (by omega)]) (q_upE _ _ _) (t_hd_s hhd (fun i h1 h2 => by rw [q_upN _ _ (by omega)]) (by rw [q_upN _ _ (by omega), hk0, d1]) (fun w => by rw [q_upN _ _ (by omega)]; exact d2 (by omega)) (fun w => by rw [q_upN _ _ (by omega)]; exact d3 (by omega))) (t_cod_c hcod (fun i hi => by rw [q_upN _ _ (by omega)]))
      (q_u D 70 (680 * T) (nI (ks.length + 1))) rfl (fun k hk => by rw [q_uR hk])
    refine p131_119 hg (fun _ _ => v12) (fun _ _ => v12) (fun _ _ w => ?_) (fun _ _ w => ?_) (fun _ w => absurd w n3) (fun _ w => absurd w n3) (fun _ w => absurd w n3) (fun _ w => absurd w n3) (fun _ w => absurd w n3) (fun _ w => absurd w n3) (fun w => absurd rfl w)
    · rw [c12, h70, nI_1]
      exact f.1 w
    · rw [c12, h70, nI_1]
      exact f.2 w
theorem c_clE128 {F0 : Nat} (hx : t_my D0 N bt T) (hg : q_Gr n ln dr) (hso : so ≤ 6) (hK : ks.length < 24) (hc : cs.length ≤ 300) (hf : t_mf2 T D0 D) (h12 : D 67 12 = nI (680 * T)) (hms : t_ms (D 67) (dl 67 11) N bt (t_bg N bt jj) (t_tc N bt jj) (t_ps N bt (jj + 1))) (h14 : D 67 14 = nI cs.length) (h18 : D 67 18 = nI 0) (h21 : t_on (D 67 21) (fun L => L ∈ (ks ++ [k]).map (fun k => k.1))) (h70 : D 70 (680 * T) = nI ks.length) (hhd : t_hd (D 70) T ks) (hk0 : D 70 (680 * T + 1 + 3 * ks.length) = nI so) (hcod : t_cod (D 70) T cs)
    (hl : so < 3 → k = (so, F0, cs.length)) (hd : 3 ≤ so → k.1 = so ∧ (so ≤ 5 → D 70 (680 * T + 1 + 3 * ks.length + 1) = nI k.2.1) ∧ (so = 3 → D 70 (680 * T + 1 + 3 * ks.length + 2) = nI k.2.2))
    (k1 : t_tc N bt jj = 59 → ∀ D' dl', t_MC D0 N bt T (ks ++ [k]) cs (jj + 1) D' dl' → Q (some (.int 0)) (n, sl, ln, D', dl', dr)) (k0 : ¬ t_tc N bt jj = 59 → ∀ D', t_mf2 T D0 D' → D' 67 8 = nI (t_bg N bt jj) → Q (some (.int 1)) (n, sl, ln, D', dl, dr)) : q_EX q_KD (e + 4) 131 128 [.ref 67, .int (nI so), .retAddr 0, .int (nI (680 * T + 1 + 3 * ks.length)), .int (nI F0), .retAddr 0] [.int 0] (n, sl, ln, D, dl, dr) Q := by
  obtain ⟨y1, y2, y3, y4, y5⟩ := hx
  have s59 := (t_sgq hms).2.2.2.2.2.2.2.2.2.2.1
  have v12 : vp_in (D 67 12) 2720 := by rw [h12]; exact vp_in_nI (by omega) (by decide)
  have c12 : (D 67 12).toNatClampNeg = 680 * T := by rw [h12]; exact nI_clamp (by omega)
  -- behind the writes
  have fin : ∀ r, (∀ i, i < 680 * T → r i = D 70 i) → r (680 * T) = nI (ks.length + 1) → t_hd r T (ks ++ [k]) → t_cod r T cs → ∀ G, G 70 = r → (∀ k, ¬ k = 70 → G k = D k) → (D 67 9 = 59 → q_EX q_KD (e + 3) 127 0 [.ref 67, .retAddr 0, .retAddr 0] [] (n, sl, ln, G, dl, dr) (fun r1 h1 => q_EX q_KD (e + 3 + 1) 131 193 [.retAddr 0, .retAddr 0, .retAddr 0, .retAddr 0, .retAddr 0, .retAddr 0] (r1.toList ++ []) h1 Q)) ∧ (¬ D 67 9 = 59 → Q (some (.int 1)) (n, sl, ln, G, dl, dr)) := by
    intro r r1 r2 r3 r4 G G1 G2
    have m2 : t_mf2 T D0 G := ⟨fun k a b c => (G2 k b).trans (hf.1 k a b c), fun i hi => (congrFun (G2 67 (by decide)) i).trans (hf.2.1 i hi), fun i hi => by rw [G1, r1 i hi]; exact hf.2.2 i hi⟩
    refine ⟨fun w => ?_, fun w => k0 (fun q => w (s59.mpr q)) G m2 (by rw [G2 67 (by decide)]; exact hms.2.1)⟩
    refine c_nxG (j := jj) y1 y2 (by rw [m2.2.1 4 (by decide)]; exact y3) (by rw [m2.1 71 (by decide) (by decide) (by decide)]; exact y4) (by rw [G2 67 (by decide)]; exact hms) hg (fun D' dl' f1 f2 => p131_193 hg (k1 (s59.mp w) D' dl' ?_))
    have g67 : ∀ i, ¬ i = 7 → ¬ i = 8 → ¬ i = 9 → ¬ i = 10 → D' 67 i = D 67 i := fun i a b c q => (f1.2 i a b c q).trans (congrFun (G2 67 (by decide)) i)
    have g70 : D' 70 = r := (f1.1 70 (by decide)).trans G1
    refine ⟨⟨fun k a b c => (f1.1 k a).trans (m2.1 k a b c), fun i hi => (f1.2 i (by omega) (by omega) (by omega) (by omega)).trans (m2.2.1 i hi), fun i hi => (congrFun (f1.1 70 (by decide)) i).trans (m2.2.2 i hi)⟩, ?_, f2, ?_, ?_, ?_, ?_, ?_, ?_⟩
    · rw [g67 12 (by decide) (by decide) (by decide) (by decide)]; exact h12
    · rw [g67 14 (by decide) (by decide) (by decide) (by decide)]; exact h14
    · rw [g67 18 (by decide) (by decide) (by decide) (by decide)]; exact h18
    · rw [g67 21 (by decide) (by decide) (by decide) (by decide)]; exact h21
    · rw [g70, r2, List.length_append]; rfl
    · rw [g70]; exact r3
    · rw [g70]; exact r4
  by_cases c3 : so < 3
  · have n3 : ¬ 3 ≤ nI so := nI_ge (b := 3) (by omega) (by decide)
    have e1 : nI (680 * T + 1 + 3 * ks.length) + 1 = nI (680 * T + 1 + 3 * ks.length + 1) := nI_1 _
    have e2 : nI (680 * T + 1 + 3 * ks.length) + 2 = nI (680 * T + 1 + 3 * ks.length + 2) := nI_add _ 2
    obtain ⟨r, hr⟩ : ∃ r, r = va_up (va_up (va_up (D 70) (680 * T + 1 + 3 * ks.length + 1) (nI F0)) (680 * T + 1 + 3 * ks.length + 2) (nI cs.length)) (680 * T) (nI (ks.length + 1)) := ⟨_, rfl⟩
    have ek := hl c3
    have f := fin r (fun i hi => by rw [hr, q_upN _ _ (by omega), q_upN _ _ (by omega), q_upN _ _ (by omega)]) (by rw [hr]; exact q_upE _ _ _) (t_hd_s hhd (fun i h1 h2 => by rw [hr, q_upN _ _ (by omega), q_upN _ _ (by omega), q_upN _ _ (by omega)]) (by rw [hr, q_upN _ _ (by omega), q_upN _ _ (by omega), q_upN _ _ (by omega), hk0, ek]) (fun _ => by rw [hr, q_upN _ _ (by omega), q_upN _ _ (by omega), ek]; exact q_upE _ _ _) (fun _ => by rw [hr, q_upN _ _ (by omega), ek]; exact q_upE _ _ _)) (t_cod_c hcod (fun i hi => by rw [hr, q_upN _ _ (by omega), q_upN _ _ (by omega), q_upN _ _ (by omega)]))
      (q_u (q_u (q_u D 70 (680 * T + 1 + 3 * ks.length + 1) (nI F0)) 70 (680 * T + 1 + 3 * ks.length + 2) (nI cs.length)) 70 (680 * T) (nI (ks.length + 1))) (by rw [hr]; rfl) (fun k hk => by rw [q_uR hk, q_uR hk, q_uR hk])
    have e70 : (q_u (q_u D 70 (680 * T + 1 + 3 * ks.length + 1) (nI F0)) 70 (680 * T + 1 + 3 * ks.length + 2) (nI cs.length)) 70 (680 * T) + 1 = nI (ks.length + 1) := by
      rw [q_uN _ _ _ _ _ (by omega), q_uN _ _ _ _ _ (by omega), h70, nI_1]
    refine p131_128 hg (fun _ w => absurd w n3) (fun _ w => absurd w n3) (fun _ w => absurd w n3) (fun _ w => absurd w n3) (fun _ _ => by rw [e1]; exact vp_in_nI (by omega) (by decide)) (fun _ _ => by rw [e2]; exact vp_in_nI (by omega) (by decide)) (fun _ _ => v12) (fun _ _ => v12) (fun _ _ w => ?_) (fun _ _ w => ?_) (fun w => absurd rfl w)
    · rw [e1, e2, c12, h14, nI_clamp (show 680 * T + 1 + 3 * ks.length + 1 < 2 ^ 31 by omega), nI_clamp (show 680 * T + 1 + 3 * ks.length + 2 < 2 ^ 31 by omega), e70]
      exact f.1 w
    · rw [e1, e2, c12, h14, nI_clamp (show 680 * T + 1 + 3 * ks.length + 1 < 2 ^ 31 by omega), nI_clamp (show 680 * T + 1 + 3 * ks.length + 2 < 2 ^ 31 by omega), e70]
      exact f.2 w
  · have n3 : ¬ nI so < 3 := nI_nlt (b := 3) (by omega) (by omega)
    obtain ⟨d1, d2, d3⟩ := hd (by omega)
    have f := fin (va_up (D 70) (680 * T) (nI (ks.length + 1))) (fun i hi => by rw [q_upN _ _ (by omega)]) (q_upE _ _ _) (t_hd_s hhd (fun i h1 h2 => by rw [q_upN _ _ (by omega)]) (by rw [q_upN _ _ (by omega), hk0, d1]) (fun w => by rw [q_upN _ _ (by omega)]; exact d2 (by omega)) (fun w => by rw [q_upN _ _ (by omega)]; exact d3 (by omega))) (t_cod_c hcod (fun i hi => by rw [q_upN _ _ (by omega)]))
      (q_u D 70 (680 * T) (nI (ks.length + 1))) rfl (fun k hk => by rw [q_uR hk])
    refine p131_128 hg (fun _ _ => v12) (fun _ _ => v12) (fun _ _ w => ?_) (fun _ _ w => ?_) (fun _ w => absurd w n3) (fun _ w => absurd w n3) (fun _ w => absurd w n3) (fun _ w => absurd w n3) (fun _ w => absurd w n3) (fun _ w => absurd w n3) (fun w => absurd rfl w)
    · rw [c12, h70, nI_1]
      exact f.1 w
    · rw [c12, h70, nI_1]
      exact f.2 w
end
