/-! THE MODEL'S PILE against what is meant. LH: the loop goes well from there; FC: a fault is well told -/
abbrev t_bl2 : Nat → Nat × Nat := fun x => (x, 0)
def t_M0 (D0 : Nat → Nat → Int32) (N : Nat) (bt : Nat → Int32) (T L C : Nat) (LH : (Nat → Nat → Int32) → (Nat → Nat → Int64) → Prop) (FC : Nat → Nat → Prop) (f : Nat) : Prop :=
  ∀ (b k j : Nat) (S : List Nat) (cs : List (Nat × Nat)) (D : Nat → Nat → Int32) (dl : Nat → Nat → Int64) (R : t_R), j ≤ C → 10 * (C - j) + 1 ≤ f → b + k ≤ 8 → k + S.length ≤ 3 * (b + k) + 2 → (∀ x S2, S = x :: S2 → ¬ x = 2) → cs.length + (k + S.length) + (C - j) ≤ 300 → t_S (t_tc N bt) L f 0 (b + k) j = some R → t_MM D0 N bt T j (b + k) 0 (List.replicate k 2 ++ S) cs D dl → (¬ R.1 = 0 → FC R.1 R.2.1) → (R.1 = 0 → ∀ D' dl', t_MM D0 N bt T R.2.1 b 1 S (cs ++ (R.2.2 ++ List.replicate k (2, 0))) D' dl' → LH D' dl') → LH D dl
def t_M1 (D0 : Nat → Nat → Int32) (N : Nat) (bt : Nat → Int32) (T L C : Nat) (LH : (Nat → Nat → Int32) → (Nat → Nat → Int64) → Prop) (FC : Nat → Nat → Prop) (f : Nat) : Prop :=
  ∀ (δ j : Nat) (S : List Nat) (cs : List (Nat × Nat)) (D : Nat → Nat → Int32) (dl : Nat → Nat → Int64) (R : t_R), j ≤ C → 10 * (C - j) + 2 ≤ f → δ ≤ 8 → S.length ≤ 3 * δ + 1 → (∀ x S2, S = x :: S2 → x = 3 ∨ x = 4 ∨ x = 40) → cs.length + S.length + (C - j) ≤ 300 → t_S (t_tc N bt) L f 1 δ j = some R → t_MM D0 N bt T j δ 0 S cs D dl → (¬ R.1 = 0 → FC R.1 R.2.1) → (R.1 = 0 → ¬ t_tc N bt R.2.1 = 42 → ¬ t_tc N bt R.2.1 = 47 → ∀ q cs' D' dl', (∀ x, x ∈ q → x = 5 ∨ x = 6) → q.length ≤ 1 → cs' ++ q.map t_bl2 = cs ++ R.2.2 → t_MM D0 N bt T R.2.1 δ 1 (q ++ S) cs' D' dl' → LH D' dl') → LH D dl
def t_M2 (D0 : Nat → Nat → Int32) (N : Nat) (bt : Nat → Int32) (T L C : Nat) (LH : (Nat → Nat → Int32) → (Nat → Nat → Int64) → Prop) (FC : Nat → Nat → Prop) (f : Nat) : Prop :=
  ∀ (δ j : Nat) (S q : List Nat) (cs : List (Nat × Nat)) (D : Nat → Nat → Int32) (dl : Nat → Nat → Int64) (R : t_R), j ≤ C → 10 * (C - j) + 1 ≤ f → δ ≤ 8 → S.length ≤ 3 * δ + 1 → (∀ x S2, S = x :: S2 → x = 3 ∨ x = 4 ∨ x = 40) → (∀ x, x ∈ q → x = 5 ∨ x = 6) → q.length ≤ 1 → cs.length + (q.length + S.length) + (C - j) ≤ 300 → t_S (t_tc N bt) L f 2 δ j = some R → t_MM D0 N bt T j δ 1 (q ++ S) cs D dl → (¬ R.1 = 0 → FC R.1 R.2.1) → (R.1 = 0 → ¬ t_tc N bt R.2.1 = 42 → ¬ t_tc N bt R.2.1 = 47 → ∀ q' cs' D' dl', (∀ x, x ∈ q' → x = 5 ∨ x = 6) → q'.length ≤ 1 → cs' ++ q'.map t_bl2 = cs ++ (q.map t_bl2 ++ R.2.2) → t_MM D0 N bt T R.2.1 δ 1 (q' ++ S) cs' D' dl' → LH D' dl') → LH D dl
def t_M3 (D0 : Nat → Nat → Int32) (N : Nat) (bt : Nat → Int32) (T L C : Nat) (LH : (Nat → Nat → Int32) → (Nat → Nat → Int64) → Prop) (FC : Nat → Nat → Prop) (f : Nat) : Prop :=
  ∀ (δ j : Nat) (S : List Nat) (cs : List (Nat × Nat)) (D : Nat → Nat → Int32) (dl : Nat → Nat → Int64) (R : t_R), j ≤ C → 10 * (C - j) + 3 ≤ f → δ ≤ 8 → S.length ≤ 3 * δ → (∀ x S2, S = x :: S2 → x = 40) → cs.length + S.length + (C - j) ≤ 300 → t_S (t_tc N bt) L f 3 δ j = some R → t_MM D0 N bt T j δ 0 S cs D dl → (¬ R.1 = 0 → FC R.1 R.2.1) → (R.1 = 0 → ¬ t_tc N bt R.2.1 = 42 → ¬ t_tc N bt R.2.1 = 47 → ¬ t_tc N bt R.2.1 = 43 → ¬ t_tc N bt R.2.1 = 45 → ∀ q cs' D' dl', (∀ x, x ∈ q → 3 ≤ x ∧ x ≤ 6) → q.length ≤ 2 → cs' ++ q.map t_bl2 = cs ++ R.2.2 → t_MM D0 N bt T R.2.1 δ 1 (q ++ S) cs' D' dl' → LH D' dl') → LH D dl
def t_M4 (D0 : Nat → Nat → Int32) (N : Nat) (bt : Nat → Int32) (T L C : Nat) (LH : (Nat → Nat → Int32) → (Nat → Nat → Int64) → Prop) (FC : Nat → Nat → Prop) (f : Nat) : Prop :=
  ∀ (δ j : Nat) (S q : List Nat) (cs : List (Nat × Nat)) (D : Nat → Nat → Int32) (dl : Nat → Nat → Int64) (R : t_R), j ≤ C → 10 * (C - j) + 1 ≤ f → δ ≤ 8 → S.length ≤ 3 * δ → (∀ x S2, S = x :: S2 → x = 40) → (∀ x, x ∈ q → 3 ≤ x ∧ x ≤ 6) → q.length ≤ 2 → ¬ t_tc N bt j = 42 → ¬ t_tc N bt j = 47 → cs.length + (q.length + S.length) + (C - j) ≤ 300 → t_S (t_tc N bt) L f 4 δ j = some R → t_MM D0 N bt T j δ 1 (q ++ S) cs D dl → (¬ R.1 = 0 → FC R.1 R.2.1) → (R.1 = 0 → ¬ t_tc N bt R.2.1 = 42 → ¬ t_tc N bt R.2.1 = 47 → ¬ t_tc N bt R.2.1 = 43 → ¬ t_tc N bt R.2.1 = 45 → ∀ q' cs' D' dl', (∀ x, x ∈ q' → 3 ≤ x ∧ x ≤ 6) → q'.length ≤ 2 → cs' ++ q'.map t_bl2 = cs ++ (q.map t_bl2 ++ R.2.2) → t_MM D0 N bt T R.2.1 δ 1 (q' ++ S) cs' D' dl' → LH D' dl') → LH D dl
section
variable {n sl : Nat} {ln : Nat → Nat} {dr : Nat → Nat → Option Nat} {Q : Option Value → q_H → Prop} {D0 : Nat → Nat → Int32} {N T L C e f : Nat} {bt : Nat → Int32}
abbrev t_LH (e n sl : Nat) (ln : Nat → Nat) (dr : Nat → Nat → Option Nat) (Q : Option Value → q_H → Prop) (D : Nat → Nat → Int32) (dl : Nat → Nat → Int64) : Prop := q_EX q_KD (e + 5) 140 10 [.ref 67, .retAddr 0] [] (n, sl, ln, D, dl, dr) Q
abbrev t_FC (n sl : Nat) (ln : Nat → Nat) (dr : Nat → Nat → Option Nat) (Q : Option Value → q_H → Prop) (D0 : Nat → Nat → Int32) (N : Nat) (bt : Nat → Int32) (T : Nat) (fl jj : Nat) : Prop := ∀ (D' : Nat → Nat → Int32) (dl' : Nat → Nat → Int64), t_mfr T D0 D' → D' 67 8 = nI (t_bg N bt jj) → Q (some (.int (nI fl))) (n, sl, ln, D', dl', dr)
theorem t_M2s (hx : t_mx D0 N bt T L) (hg : q_Gr n ln dr) (hC : t_tc N bt C = 131) (hC2 : ∀ j, j < C → ¬ t_tc N bt j = 131) (h3 : ∀ j, 300 ≤ t_tc N bt j → ∃ v, v ≤ 10000 ∧ t_tc N bt j = nI (300 + v))
    (i0 : t_M0 D0 N bt T L C (t_LH e n sl ln dr Q) (t_FC n sl ln dr Q D0 N bt T) f) (i2 : t_M2 D0 N bt T L C (t_LH e n sl ln dr Q) (t_FC n sl ln dr Q D0 N bt T) f) : t_M2 D0 N bt T L C (t_LH e n sl ln dr Q) (t_FC n sl ln dr Q D0 N bt T) (f + 1) := by
  intro δ j S q cs D dl R hj hf hδ hS ht hq hql hc hSf hM hF kk
  unfold t_S at hSf
  change (if t_tc N bt j = 42 ∨ t_tc N bt j = 47 then _ else _) = some R at hSf
  obtain ⟨s60, s62, s61, s35, s43, s45, s42, s47, s40, s41, s59, s4, s5, s0⟩ := t_sgq hM.2.1
  by_cases z : t_tc N bt j = 42 ∨ t_tc N bt j = 47
  · rw [if_pos z] at hSf
    have hjC : j < C := t_neC hC hj (by rcases z with z | z <;> (rw [z]; decide))
    have h19 : ¬ D 67 19 = 0 := by rw [hM.2.2.2.2.2.1]; decide
    have hlen : (q ++ S).length = q.length + S.length := List.length_append
    obtain ⟨R1, e1, g1⟩ := t_SG (L := L) hC hC2 h3 f 0 δ (j + 1) (by decide) (by omega) (by show 10 * (C - (j + 1)) + 0 + 1 ≤ f; omega)
    -- behind push and nextToken
    have go : ∀ (o : Nat) (D' : Nat → Nat → Int32) (dl' : Nat → Nat → Int64), (o = 5 ∨ o = 6) → o = t_oc (t_tc N bt j) → t_MM D0 N bt T (j + 1) δ 0 (o :: S) (cs ++ q.map t_bl2) D' dl' → t_LH e n sl ln dr Q D' dl' := by
      intro o D' dl' ho ho2 h'
      rw [← ho2] at hSf
      refine i0 δ 0 (j + 1) (o :: S) (cs ++ q.map t_bl2) D' dl' R1 (by omega) (by omega) hδ (by show 0 + (S.length + 1) ≤ 3 * (δ + 0) + 2; omega) (fun x S2 ex => by cases ex; omega) ?_ e1 h' (fun z1 => ?_) (fun z1 D2 dl2 h2 => ?_)
      · rw [List.length_append, List.length_map]; show cs.length + q.length + (0 + (S.length + 1)) + (C - (j + 1)) ≤ 300; omega
      · rcases t_bdI e1 hSf with ⟨y, _⟩ | ⟨_, hk⟩
        · exact absurd y z1
        · rw [hk] at hF; exact hF z1
      · obtain ⟨a1, a2, a3, a4, a5, a6⟩ := g1.1 z1
        have a2' := a2 rfl
        rcases t_bdI e1 hSf with ⟨_, hk⟩ | ⟨y, _⟩
        · obtain ⟨R2, e2, g2⟩ := t_SG (L := L) hC hC2 h3 f 2 δ R1.2.1 (by decide) a3 (by show 10 * (C - R1.2.1) + 0 + 1 ≤ f; omega)
          rw [show List.replicate 0 ((2 : Nat), (0 : Nat)) = [] from rfl, List.append_nil] at h2
          refine i2 δ R1.2.1 S [o] (cs ++ q.map t_bl2 ++ R1.2.2) D2 dl2 R2 a3 (by omega) hδ hS ht (fun x hx => by rw [List.mem_singleton.mp hx]; exact ho) (Nat.le_refl 1) ?_ e2 h2 (fun z2 => ?_) (fun z2 n42 n47 q' cs' D3 dl3 b1 b2 b3 b4 => ?_)
          · rw [List.length_append, List.length_append, List.length_map]; show cs.length + q.length + R1.2.2.length + (1 + S.length) + (C - R1.2.1) ≤ 300; omega
          · rcases t_bdI e2 hk with ⟨y, _⟩ | ⟨_, hk2⟩
            · exact absurd y z2
            · rw [hk2] at hF; exact hF z2
          · rcases t_bdI e2 hk with ⟨_, hk2⟩ | ⟨y, _⟩
            · have eR := (Option.some.inj hk2).symm
              subst eR
              refine kk rfl n42 n47 q' cs' D3 dl3 b1 b2 ?_ b4
              rw [b3]
              show cs ++ q.map t_bl2 ++ R1.2.2 ++ ([(o, 0)] ++ R2.2.2) = cs ++ (q.map t_bl2 ++ (R1.2.2 ++ (o, 0) :: R2.2.2))
              simp only [List.append_assoc, List.singleton_append]
            · exact absurd z2 y
        · exact absurd z1 y
    refine g140_10 hg (fun w => absurd w h19) (fun w => absurd w h19) (fun _ => c_goM hg hM (by omega) (fun _ => g140_21 hg (fun w => absurd w (by decide)) (fun _ w => absurd w h19) (fun _ _ => ?_)) (fun w => ?_))
    · have n43 : ¬ D 67 9 = 43 := fun y => by have := s43.mp y; rcases z with z | z <;> (rw [z] at this; exact absurd this (by decide))
      have n45 : ¬ D 67 9 = 45 := fun y => by have := s45.mp y; rcases z with z | z <;> (rw [z] at this; exact absurd this (by decide))
      have hq' : ∀ x, x ∈ q → 5 ≤ x ∧ x < 40 := fun x hx => by have := hq x hx; omega
      have ht' : ∀ x S2, S = x :: S2 → x = 40 ∨ x < 5 := fun x S2 ex => by have := ht x S2 ex; omega
      by_cases z42 : t_tc N bt j = 42
      · refine p143_0 hg (fun w => absurd w n43) (fun _ _ _ => ?_) (fun _ _ w => absurd (s42.mpr z42) w) (fun _ _ w => absurd (s42.mpr z42) w) (fun _ w => absurd w n45)
        refine c_seM (lo := 5) (by decide) hx hg ht' q cs D hq' hM (by omega) (by omega) (fun D1 h1 => p143_62 hg (fun w => absurd (s42.mpr z42) w) (fun _ => ?_))
        refine c_puM (x := 5) h1 (by omega) (by decide) hg (fun D2 h2 => p143_78 hg (c_nxM hx (t_MM19 (w' := 0) h2) hg (fun D3 dl3 h3 => p143_119 hg (g140_35 hg (fun _ => go 5 D3 dl3 (Or.inl rfl) (by rw [z42]; rfl) h3) (fun w => absurd rfl w)))))
      · have z47 : t_tc N bt j = 47 := z.resolve_left z42
        have n42 : ¬ D 67 9 = 42 := fun y => z42 (s42.mp y)
        refine p143_0 hg (fun w => absurd w n43) (fun _ _ w => absurd w n42) (fun _ _ _ w => absurd (s47.mpr z47) w) (fun _ _ _ _ => ?_) (fun _ w => absurd w n45)
        refine c_seM (lo := 5) (by decide) hx hg ht' q cs D hq' hM (by omega) (by omega) (fun D1 h1 => p143_62 hg (fun _ => ?_) (fun w => absurd w n42))
        refine c_puM (x := 6) h1 (by omega) (by decide) hg (fun D2 h2 => p143_78 hg (c_nxM hx (t_MM19 (w' := 0) h2) hg (fun D3 dl3 h3 => p143_119 hg (g140_35 hg (fun _ => go 6 D3 dl3 (Or.inr rfl) (by rw [z47]; rfl) h3) (fun w => absurd rfl w)))))
    · rcases z with z | z
      · exact absurd z w.2.2.1
      · exact absurd z w.2.2.2.1
  · rw [if_neg z] at hSf
    have eR := (Option.some.inj hSf).symm
    subst eR
    exact kk rfl (fun y => z (Or.inl y)) (fun y => z (Or.inr y)) q cs D dl hq hql (by rw [List.append_nil]) hM
end
