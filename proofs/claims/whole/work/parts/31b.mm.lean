section
variable {dd n sl : Nat} {ln : Nat → Nat} {dl : Nat → Nat → Int64} {dr : Nat → Nat → Option Nat} {Q : Option Value → q_H → Prop} {D0 : Nat → Nat → Int32} {N T L j : Nat} {bt : Nat → Int32} {w : Int32}
/-- whole -/
theorem c_wh5 (hx : t_mx D0 N bt T L) (hg : q_Gr n ln dr) {S' : List Nat} (ht : ∀ x S2, S' = x :: S2 → ¬ x = 2) : ∀ (k d : Nat) (cs : List (Nat × Nat)) (D : Nat → Nat → Int32), t_MM D0 N bt T j (d + k) 1 (List.replicate k 2 ++ S') cs D dl → cs.length + k ≤ 300 → k + S'.length < 160 → (∀ D', t_MM D0 N bt T j d 1 S' (cs ++ List.replicate k (2, 0)) D' dl → Q none (n, sl, ln, D', dl, dr)) → q_EX q_KD (dd + 1) 147 5 [.ref 67] [] (n, sl, ln, D, dl, dr) Q := by
  intro k
  induction k with
  | zero =>
    intro d cs D h hc hl kk
    have h4 : D 67 17 = nI S'.length := h.2.2.2.1
    have hk : Q none (n, sl, ln, D, dl, dr) := kk D (by rw [show List.replicate 0 ((2 : Nat), (0 : Nat)) = [] from rfl, List.append_nil]; exact h)
    cases S' with
    | nil =>
      have e : D 67 17 = 0 := h4
      have nz : ¬ 0 < D 67 17 := by rw [e]; decide
      exact g147_5 hg (fun _ => hk) (fun w => absurd w nz) (fun w => absurd w nz) (fun w => absurd w nz)
    | cons x S2 =>
      have e : D 67 17 - 1 = nI S2.length := by rw [h4]; exact nI_pred _
      have hst : t_stk (D 72) (x :: S2) := h.2.2.2.2.2.2.1
      have hl' : 0 + (S2.length + 1) < 160 := hl
      refine g147_5 hg (fun _ => hk) (fun _ => by rw [e]; exact vp_in_nI (by omega) (by decide)) (fun _ _ => hk) (fun _ w => ?_)
      rw [e, nI_clamp (by omega), hst.2.1] at w
      exact absurd ((nI_eq (b := 2) (by have := hst.1; omega) (by decide)).mp w) (ht x S2 rfl)
  | succ k ih =>
    intro d cs D h hc hl kk
    have h4 : D 67 17 = nI ((List.replicate k 2 ++ S').length + 1) := h.2.2.2.1
    have e : D 67 17 - 1 = nI (List.replicate k 2 ++ S').length := by rw [h4]; exact nI_pred _
    have hlen : (List.replicate k 2 ++ S').length = k + S'.length := by rw [List.length_append, List.length_replicate]
    have hst : t_stk (D 72) (2 :: (List.replicate k 2 ++ S')) := h.2.2.2.2.2.2.1
    have e18 : D 67 18 - 1 = nI (d + k) := by rw [h.2.2.2.2.1]; exact nI_pred _
    refine g147_5 hg (fun w => absurd w (by rw [h4]; exact nI_nle (by omega) (by omega))) (fun _ => by rw [e]; exact vp_in_nI (by omega) (by decide)) (fun _ w => ?_) (fun _ _ => ?_)
    · rw [e, nI_clamp (by omega)] at w
      exact absurd hst.2.1 w
    · rw [e, e18]
      have h2 : t_MM D0 N bt T j (d + k) 1 (List.replicate k 2 ++ S') cs (q_u (q_u D 67 17 (nI (List.replicate k 2 ++ S').length)) 67 18 (nI (d + k))) dl := t_MM18 (d := d + (k + 1)) (t_MM17 (x := 2) h)
      refine c_emM (o := 2) (v := 0) hx h2 (by omega) hg (fun D' h' => g147_53 hg (ih d _ D' h' (by rw [List.length_append]; show cs.length + 1 + k ≤ 300; omega) (by omega) (fun D2 h3 => kk D2 ?_)))
      rw [List.append_assoc] at h3
      exact h3
theorem c_whM (hx : t_mx D0 N bt T L) (hg : q_Gr n ln dr) {S' : List Nat} (ht : ∀ x S2, S' = x :: S2 → ¬ x = 2) {k d : Nat} {cs : List (Nat × Nat)} {D : Nat → Nat → Int32} (h : t_MM D0 N bt T j (d + k) w (List.replicate k 2 ++ S') cs D dl) (hc : cs.length + k ≤ 300) (hl : k + S'.length < 160) (kk : ∀ D', t_MM D0 N bt T j d 1 S' (cs ++ List.replicate k (2, 0)) D' dl → Q none (n, sl, ln, D', dl, dr)) : q_EX q_KD (dd + 1) 147 0 [.ref 67] [] (n, sl, ln, D, dl, dr) Q :=
  g147_0 hg (c_wh5 hx hg ht k d cs _ (t_MM19 h) hc hl kk)
/-- settle -/
theorem c_seM {lo : Nat} (hlo : lo ≤ 5) (hx : t_mx D0 N bt T L) (hg : q_Gr n ln dr) {S' : List Nat} {d : Nat} (ht : ∀ x S2, S' = x :: S2 → x = 40 ∨ x < lo) : ∀ (q : List Nat) (cs : List (Nat × Nat)) (D : Nat → Nat → Int32), (∀ x, x ∈ q → lo ≤ x ∧ x < 40) → t_MM D0 N bt T j d w (q ++ S') cs D dl → cs.length + q.length ≤ 300 → q.length + S'.length < 160 → (∀ D', t_MM D0 N bt T j d w S' (cs ++ q.map (fun x => (x, 0))) D' dl → Q none (n, sl, ln, D', dl, dr)) → q_EX q_KD (dd + 1) 144 0 [.ref 67, .int (nI lo)] [] (n, sl, ln, D, dl, dr) Q := by
  intro q
  induction q with
  | nil =>
    intro cs D _ h hc hl kk
    have h4 : D 67 17 = nI S'.length := h.2.2.2.1
    have hk : Q none (n, sl, ln, D, dl, dr) := kk D (by rw [show List.map (fun x => (x, 0)) ([] : List Nat) = ([] : List (Nat × Nat)) from rfl, List.append_nil]; exact h)
    cases S' with
    | nil =>
      have e : D 67 17 = 0 := h4
      have nz : ¬ 0 < D 67 17 := by rw [e]; decide
      exact g144_0 hg (fun _ => hk) (fun w => absurd w nz) (fun w => absurd w nz) (fun w => absurd w nz) (fun w => absurd w nz) (fun w => absurd w nz) (fun w => absurd w nz)
    | cons x S2 =>
      have e : D 67 17 - 1 = nI S2.length := by rw [h4]; exact nI_pred _
      have hst : t_stk (D 72) (x :: S2) := h.2.2.2.2.2.2.1
      have hl' : 0 + (S2.length + 1) < 160 := hl
      have hv : vp_in (D 67 17 - 1) 160 := by rw [e]; exact vp_in_nI (by omega) (by decide)
      have et : D 72 (D 67 17 - 1).toNatClampNeg = nI x := by rw [e, nI_clamp (by omega)]; exact hst.2.1
      have x40 := hst.1
      refine g144_0 hg (fun _ => hk) (fun _ => hv) (fun _ _ => hk) (fun _ _ => hv) (fun _ _ _ => hk) (fun _ _ _ => hv) (fun _ w1 w2 => ?_)
      rw [et] at w1 w2
      have y1 := (nI_ltI (b := 40) (by omega) (by decide)).mp w1
      have y2 := (nI_leI (by omega) (by omega)).mp w2
      rcases ht x S2 rfl with y | y <;> omega
  | cons x q ih =>
    intro cs D hq h hc hl kk
    have h4 : D 67 17 = nI ((q ++ S').length + 1) := h.2.2.2.1
    have e : D 67 17 - 1 = nI (q ++ S').length := by rw [h4]; exact nI_pred _
    have hlen : (q ++ S').length = q.length + S'.length := List.length_append
    have hc' : cs.length + (q.length + 1) ≤ 300 := hc
    have hl' : q.length + 1 + S'.length < 160 := hl
    have hst : t_stk (D 72) (x :: (q ++ S')) := h.2.2.2.2.2.2.1
    have hv : vp_in (D 67 17 - 1) 160 := by rw [e]; exact vp_in_nI (by omega) (by decide)
    have et : D 72 (D 67 17 - 1).toNatClampNeg = nI x := by rw [e, nI_clamp (by omega)]; exact hst.2.1
    obtain ⟨q1, q2⟩ := hq x List.mem_cons_self
    refine g144_0 hg (fun w => absurd w (by rw [h4]; exact nI_nle (by omega) (by omega))) (fun _ => hv) (fun _ w => ?_) (fun _ _ => hv) (fun _ _ w => ?_) (fun _ _ _ => hv) (fun _ _ _ => ?_)
    · rw [et] at w
      exact absurd ((nI_leI (a := 40) (by decide) (by omega)).mp w) (by omega)
    · rw [et] at w
      exact absurd ((nI_ltI (by omega) (by omega)).mp w) (by omega)
    · rw [et, e]
      refine c_emM (o := x) (v := 0) hx (t_MM17 (x := x) h) (by omega) hg (fun D' h' => g144_62 hg (ih _ D' (fun y hy => hq y (List.mem_cons_of_mem _ hy)) h' (by rw [List.length_append]; show cs.length + 1 + q.length ≤ 300; omega) (by omega) (fun D2 h3 => kk D2 ?_)))
      rw [List.append_assoc] at h3
      exact h3
theorem t_stk_i {r : Nat → Int32} : ∀ (S : List Nat), t_stk r S → ∀ i, i < S.length → ∃ x, x ∈ S ∧ x ≤ 40 ∧ r i = nI x := by
  intro S
  induction S with
  | nil => intro _ i hi; exact absurd hi (Nat.not_lt_zero i)
  | cons x S ih =>
    intro h i hi
    have hi' : i < S.length + 1 := hi
    by_cases e : i = S.length
    · subst e; exact ⟨x, List.mem_cons_self, h.1, h.2.1⟩
    · obtain ⟨y, y1, y2⟩ := ih h.2.2 i (by omega)
      exact ⟨y, List.mem_cons_of_mem _ y1, y2⟩
theorem t_stk_m {r : Nat → Int32} : ∀ (S : List Nat), t_stk r S → ∀ x, x ∈ S → ∃ i, i < S.length ∧ r i = nI x := by
  intro S
  induction S with
  | nil => intro _ i hi; exact absurd hi List.not_mem_nil
  | cons y S ih =>
    intro h x hx
    rcases List.mem_cons.mp hx with e | e
    · rw [e]; exact ⟨S.length, Nat.lt_succ_self _, h.2.1⟩
    · obtain ⟨i, i1, i2⟩ := ih h.2.2 x e
      exact ⟨i, Nat.lt_succ_of_lt i1, i2⟩
/-- hasParen -/
theorem c_hpM {S : List Nat} {D : Nat → Nat → Int32} (hg : q_Gr n ln dr) (h17 : D 67 17 = nI S.length) (hst : t_stk (D 72) S) (hl : S.length < 160) (k1 : 40 ∈ S → Q (some (.int 1)) (n, sl, ln, D, dl, dr)) (k0 : ¬ 40 ∈ S → Q (some (.int 0)) (n, sl, ln, D, dl, dr)) : q_EX q_KD dd 142 0 [.ref 67, .retAddr 0] [] (n, sl, ln, D, dl, dr) Q := by
  have key : ∀ (c i : Nat), i + c = S.length → (∀ i', i' < i → ¬ D 72 i' = 40) → q_EX q_KD dd 142 2 [.ref 67, .int (nI i)] [] (n, sl, ln, D, dl, dr) Q := by
    intro c
    induction c with
    | zero =>
      intro i hi hn
      have nl : ¬ nI i < D 67 17 := by rw [h17, show i = S.length by omega]; exact nI_nlt (Nat.le_refl _) (by omega)
      refine g142_2 hg (fun _ => k0 (fun m => ?_)) (fun w => absurd w nl) (fun w => absurd w nl) (fun w => absurd w nl)
      obtain ⟨i', i1, i2⟩ := t_stk_m S hst 40 m
      exact hn i' (by omega) i2
    | succ c ih =>
      intro i hi hn
      refine g142_2 hg (fun w => absurd w (by rw [h17]; exact nI_ge (by omega) (by omega))) (fun _ => vp_in_nI (by omega) (by decide)) (fun _ w => ?_) (fun _ w => ?_)
      · rw [nI_clamp (by omega)] at w
        rw [nI_1]
        refine ih (i + 1) (by omega) (fun i' h' => ?_)
        by_cases e : i' = i
        · rw [e]; exact w
        · exact hn i' (by omega)
      · rw [nI_clamp (by omega)] at w
        obtain ⟨y, y1, y2, y3⟩ := t_stk_i S hst i (by omega)
        rw [y3] at w
        rw [(nI_eq (b := 40) (by omega) (by decide)).mp w] at y1
        exact k1 y1
  exact g142_0 hg (nI_0 ▸ key S.length 0 (by omega) (fun i' h' => absurd h' (Nat.not_lt_zero _)))
/-- goesOn -/
theorem c_goM {S : List Nat} {cs : List (Nat × Nat)} {d : Nat} {D : Nat → Nat → Int32} (hg : q_Gr n ln dr) (h : t_MM D0 N bt T j d w S cs D dl) (hl : S.length < 160) (k1 : (t_tc N bt j = 43 ∨ t_tc N bt j = 45 ∨ t_tc N bt j = 42 ∨ t_tc N bt j = 47 ∨ (t_tc N bt j = 41 ∧ 40 ∈ S)) → Q (some (.int 1)) (n, sl, ln, D, dl, dr)) (k0 : (¬ t_tc N bt j = 43 ∧ ¬ t_tc N bt j = 45 ∧ ¬ t_tc N bt j = 42 ∧ ¬ t_tc N bt j = 47 ∧ ¬ (t_tc N bt j = 41 ∧ 40 ∈ S)) → Q (some (.int 0)) (n, sl, ln, D, dl, dr)) : q_EX q_KD (dd + 1) 141 0 [.ref 67] [] (n, sl, ln, D, dl, dr) Q := by
  obtain ⟨s60, s62, s61, s35, s43, s45, s42, s47, s40, s41, s59, s4, s5, s0⟩ := t_sgq h.2.1
  refine p141_0 hg (fun a => k1 (Or.inl (s43.mp a))) (fun _ a => k1 (Or.inr (Or.inl (s45.mp a)))) (fun _ _ a => k1 (Or.inr (Or.inr (Or.inl (s42.mp a))))) (fun _ _ _ a => k1 (Or.inr (Or.inr (Or.inr (Or.inl (s47.mp a)))))) (fun a b c e f => k0 ⟨fun z => a (s43.mpr z), fun z => b (s45.mpr z), fun z => c (s42.mpr z), fun z => e (s47.mpr z), fun z => f (s41.mpr z.1)⟩) (fun a b c e f => c_hpM hg h.2.2.2.1 h.2.2.2.2.2.2.1 hl (fun m => p141_49 hg (fun w => absurd w (by decide)) (fun _ => k1 (Or.inr (Or.inr (Or.inr (Or.inr ⟨s41.mp f, m⟩)))))) (fun m => p141_49 hg (fun _ => k0 ⟨fun z => a (s43.mpr z), fun z => b (s45.mpr z), fun z => c (s42.mpr z), fun z => e (s47.mpr z), fun z => m z.2⟩) (fun w => absurd rfl w)))
end
