section
variable {n sl : Nat} {ln : Nat → Nat} {dr : Nat → Nat → Option Nat} {Q : Option Value → q_H → Prop} {D0 : Nat → Nat → Int32} {N T L C e f : Nat} {bt : Nat → Int32}
theorem t_M4s (hx : t_mx D0 N bt T L) (hg : q_Gr n ln dr) (hC : t_tc N bt C = 131) (hC2 : ∀ j, j < C → ¬ t_tc N bt j = 131) (h3 : ∀ j, 300 ≤ t_tc N bt j → ∃ v, v ≤ 10000 ∧ t_tc N bt j = nI (300 + v))
    (i1 : t_M1 D0 N bt T L C (t_LH e n sl ln dr Q) (t_FC n sl ln dr Q D0 N bt T) f) (i4 : t_M4 D0 N bt T L C (t_LH e n sl ln dr Q) (t_FC n sl ln dr Q D0 N bt T) f) : t_M4 D0 N bt T L C (t_LH e n sl ln dr Q) (t_FC n sl ln dr Q D0 N bt T) (f + 1) := by
  intro δ j S q cs D dl R hj hf hδ hS ht hq hql nm42 nm47 hc hSf hM hF kk
  unfold t_S at hSf
  change (if t_tc N bt j = 43 ∨ t_tc N bt j = 45 then _ else _) = some R at hSf
  obtain ⟨s60, s62, s61, s35, s43, s45, s42, s47, s40, s41, s59, s4, s5, s0⟩ := t_sgq hM.2.1
  by_cases z : t_tc N bt j = 43 ∨ t_tc N bt j = 45
  · rw [if_pos z] at hSf
    have hjC : j < C := t_neC hC hj (by rcases z with z | z <;> (rw [z]; decide))
    have h19 : ¬ D 67 19 = 0 := by rw [hM.2.2.2.2.2.1]; decide
    have hlen : (q ++ S).length = q.length + S.length := List.length_append
    obtain ⟨R1, e1, g1⟩ := t_SG (L := L) hC hC2 h3 f 1 δ (j + 1) (by decide) (by omega) (by show 10 * (C - (j + 1)) + 1 + 1 ≤ f; omega)
    have go : ∀ (o : Nat) (D' : Nat → Nat → Int32) (dl' : Nat → Nat → Int64), (o = 3 ∨ o = 4) → o = t_oc (t_tc N bt j) → t_MM D0 N bt T (j + 1) δ 0 (o :: S) (cs ++ q.map t_bl2) D' dl' → t_LH e n sl ln dr Q D' dl' := by
      intro o D' dl' ho ho2 h'
      rw [← ho2] at hSf
      refine i1 δ (j + 1) (o :: S) (cs ++ q.map t_bl2) D' dl' R1 (by omega) (by omega) hδ (by show S.length + 1 ≤ 3 * δ + 1; omega) (fun x S2 ex => by cases ex; omega) ?_ e1 h' (fun z1 => ?_) (fun z1 n42 n47 q1 cs1 D2 dl2 c1 c2 c3 h2 => ?_)
      · rw [List.length_append, List.length_map]; show cs.length + q.length + (S.length + 1) + (C - (j + 1)) ≤ 300; omega
      · rcases t_bdI e1 hSf with ⟨y, _⟩ | ⟨_, hk⟩
        · exact absurd y z1
        · rw [hk] at hF; exact hF z1
      · obtain ⟨a1, a2, a3, a4, a5, a6⟩ := g1.1 z1
        have a2' := a2 rfl
        have clen : cs1.length + q1.length = cs.length + q.length + R1.2.2.length := by
          have := congrArg List.length c3
          rw [List.length_append, List.length_append, List.length_append, List.length_map, List.length_map] at this
          exact this
        rcases t_bdI e1 hSf with ⟨_, hk⟩ | ⟨y, _⟩
        · obtain ⟨R2, e2, g2⟩ := t_SG (L := L) hC hC2 h3 f 4 δ R1.2.1 (by decide) a3 (by show 10 * (C - R1.2.1) + 0 + 1 ≤ f; omega)
          have ql : (q1 ++ [o]).length = q1.length + 1 := by rw [List.length_append]; rfl
          refine i4 δ R1.2.1 S (q1 ++ [o]) cs1 D2 dl2 R2 a3 (by omega) hδ hS ht (fun x hx => ?_) (by omega) n42 n47 (by omega) e2 (by rw [List.append_assoc]; exact h2) (fun z2 => ?_) (fun z2 m42 m47 m43 m45 q' cs' D3 dl3 b1 b2 b3 b4 => ?_)
          · rcases List.mem_append.mp hx with y | y
            · have := c1 x y; omega
            · rw [List.mem_singleton.mp y]; omega
          · rcases t_bdI e2 hk with ⟨y, _⟩ | ⟨_, hk2⟩
            · exact absurd y z2
            · rw [hk2] at hF; exact hF z2
          · rcases t_bdI e2 hk with ⟨_, hk2⟩ | ⟨y, _⟩
            · have eR := (Option.some.inj hk2).symm
              subst eR
              refine kk rfl m42 m47 m43 m45 q' cs' D3 dl3 b1 b2 ?_ b4
              rw [b3, List.map_append]
              show cs1 ++ (q1.map t_bl2 ++ [(o, 0)] ++ R2.2.2) = cs ++ (q.map t_bl2 ++ (R1.2.2 ++ (o, 0) :: R2.2.2))
              rw [List.append_assoc, ← List.append_assoc cs1, c3]
              simp only [List.append_assoc, List.singleton_append]
            · exact absurd z2 y
        · exact absurd z1 y
    refine g140_10 hg (fun w => absurd w h19) (fun w => absurd w h19) (fun _ => c_goM hg hM (by omega) (fun _ => g140_21 hg (fun w => absurd w (by decide)) (fun _ w => absurd w h19) (fun _ _ => ?_)) (fun w => ?_))
    · have hq' : ∀ x, x ∈ q → 3 ≤ x ∧ x < 40 := fun x hx => by have := hq x hx; omega
      have ht' : ∀ x S2, S = x :: S2 → x = 40 ∨ x < 3 := fun x S2 ex => by have := ht x S2 ex; omega
      by_cases z43 : t_tc N bt j = 43
      · have y43 := s43.mpr z43
        refine p143_0 hg (fun _ => ?_) (fun w => absurd y43 w) (fun w => absurd y43 w) (fun w => absurd y43 w) (fun w => absurd y43 w)
        refine c_seM (lo := 3) (by decide) hx hg ht' q cs D hq' hM (by omega) (by omega) (fun D1 h1 => p143_22 hg (fun w => absurd y43 w) (fun _ => ?_))
        refine c_puM (x := 3) h1 (by omega) (by decide) hg (fun D2 h2 => p143_37 hg (c_nxM hx (t_MM19 (w' := 0) h2) hg (fun D3 dl3 h3 => p143_119 hg (g140_35 hg (fun _ => go 3 D3 dl3 (Or.inl rfl) (by rw [z43]; rfl) h3) (fun w => absurd rfl w)))))
      · have z45 : t_tc N bt j = 45 := z.resolve_left z43
        have n43 : ¬ D 67 9 = 43 := fun y => z43 (s43.mp y)
        have y45 := s45.mpr z45
        refine p143_0 hg (fun w => absurd w n43) (fun _ w => absurd y45 w) (fun _ w => absurd y45 w) (fun _ w => absurd y45 w) (fun _ _ => ?_)
        refine c_seM (lo := 3) (by decide) hx hg ht' q cs D hq' hM (by omega) (by omega) (fun D1 h1 => p143_22 hg (fun _ => ?_) (fun w => absurd w n43))
        refine c_puM (x := 4) h1 (by omega) (by decide) hg (fun D2 h2 => p143_37 hg (c_nxM hx (t_MM19 (w' := 0) h2) hg (fun D3 dl3 h3 => p143_119 hg (g140_35 hg (fun _ => go 4 D3 dl3 (Or.inr rfl) (by rw [z45]; rfl) h3) (fun w => absurd rfl w)))))
    · rcases z with z | z
      · exact absurd z w.1
      · exact absurd z w.2.1
  · rw [if_neg z] at hSf
    have eR := (Option.some.inj hSf).symm
    subst eR
    exact kk rfl nm42 nm47 (fun y => z (Or.inl y)) (fun y => z (Or.inr y)) q cs D dl hq hql (by rw [List.append_nil]) hM
theorem t_M1s (hC : t_tc N bt C = 131) (hC2 : ∀ j, j < C → ¬ t_tc N bt j = 131) (h3 : ∀ j, 300 ≤ t_tc N bt j → ∃ v, v ≤ 10000 ∧ t_tc N bt j = nI (300 + v)) {LH : (Nat → Nat → Int32) → (Nat → Nat → Int64) → Prop} {FC : Nat → Nat → Prop}
    (i0 : t_M0 D0 N bt T L C LH FC f) (i2 : t_M2 D0 N bt T L C LH FC f) : t_M1 D0 N bt T L C LH FC (f + 1) := by
  intro δ j S cs D dl R hj hf hδ hS ht hc hSf hM hF kk
  unfold t_S at hSf
  obtain ⟨R1, e1, g1⟩ := t_SG (L := L) hC hC2 h3 f 0 δ j (by decide) hj (by show 10 * (C - j) + 0 + 1 ≤ f; omega)
  refine i0 δ 0 j S cs D dl R1 hj (by omega) hδ (by omega) (fun x S2 ex => by have := ht x S2 ex; omega) (by omega) e1 hM (fun z1 => ?_) (fun z1 D2 dl2 h2 => ?_)
  · rcases t_bdI e1 hSf with ⟨y, _⟩ | ⟨_, hk⟩
    · exact absurd y z1
    · rw [hk] at hF; exact hF z1
  · obtain ⟨a1, a2, a3, a4, a5, a6⟩ := g1.1 z1
    have a2' := a2 rfl
    rcases t_bdI e1 hSf with ⟨_, hk⟩ | ⟨y, _⟩
    · obtain ⟨R2, e2, g2⟩ := t_SG (L := L) hC hC2 h3 f 2 δ R1.2.1 (by decide) a3 (by show 10 * (C - R1.2.1) + 0 + 1 ≤ f; omega)
      rw [show List.replicate 0 ((2 : Nat), (0 : Nat)) = [] from rfl, List.append_nil] at h2
      refine i2 δ R1.2.1 S [] (cs ++ R1.2.2) D2 dl2 R2 a3 (by omega) hδ hS ht (fun x hx => absurd hx List.not_mem_nil) (by decide) (by rw [List.length_append]; show cs.length + R1.2.2.length + (0 + S.length) + (C - R1.2.1) ≤ 300; omega) e2 h2 (fun z2 => ?_) (fun z2 n42 n47 q' cs' D3 dl3 b1 b2 b3 b4 => ?_)
      · rcases t_bdI e2 hk with ⟨y, _⟩ | ⟨_, hk2⟩
        · exact absurd y z2
        · rw [hk2] at hF; exact hF z2
      · rcases t_bdI e2 hk with ⟨_, hk2⟩ | ⟨y, _⟩
        · have eR := (Option.some.inj hk2).symm
          subst eR
          refine kk rfl n42 n47 q' cs' D3 dl3 b1 b2 ?_ b4
          rw [b3]
          show cs ++ R1.2.2 ++ R2.2.2 = cs ++ (R1.2.2 ++ R2.2.2)
          rw [List.append_assoc]
        · exact absurd z2 y
    · exact absurd z1 y
theorem t_M3s (hC : t_tc N bt C = 131) (hC2 : ∀ j, j < C → ¬ t_tc N bt j = 131) (h3 : ∀ j, 300 ≤ t_tc N bt j → ∃ v, v ≤ 10000 ∧ t_tc N bt j = nI (300 + v)) {LH : (Nat → Nat → Int32) → (Nat → Nat → Int64) → Prop} {FC : Nat → Nat → Prop}
    (i1 : t_M1 D0 N bt T L C LH FC f) (i4 : t_M4 D0 N bt T L C LH FC f) : t_M3 D0 N bt T L C LH FC (f + 1) := by
  intro δ j S cs D dl R hj hf hδ hS ht hc hSf hM hF kk
  unfold t_S at hSf
  obtain ⟨R1, e1, g1⟩ := t_SG (L := L) hC hC2 h3 f 1 δ j (by decide) hj (by show 10 * (C - j) + 1 + 1 ≤ f; omega)
  refine i1 δ j S cs D dl R1 hj (by omega) hδ (by omega) (fun x S2 ex => by have := ht x S2 ex; omega) (by omega) e1 hM (fun z1 => ?_) (fun z1 n42 n47 q1 cs1 D2 dl2 c1 c2 c3 h2 => ?_)
  · rcases t_bdI e1 hSf with ⟨y, _⟩ | ⟨_, hk⟩
    · exact absurd y z1
    · rw [hk] at hF; exact hF z1
  · obtain ⟨a1, a2, a3, a4, a5, a6⟩ := g1.1 z1
    have a2' := a2 rfl
    have clen : cs1.length + q1.length = cs.length + R1.2.2.length := by
      have := congrArg List.length c3
      rw [List.length_append, List.length_append, List.length_map] at this
      exact this
    rcases t_bdI e1 hSf with ⟨_, hk⟩ | ⟨y, _⟩
    · obtain ⟨R2, e2, g2⟩ := t_SG (L := L) hC hC2 h3 f 4 δ R1.2.1 (by decide) a3 (by show 10 * (C - R1.2.1) + 0 + 1 ≤ f; omega)
      refine i4 δ R1.2.1 S q1 cs1 D2 dl2 R2 a3 (by omega) hδ hS ht (fun x hx => by have := c1 x hx; omega) (by omega) n42 n47 (by omega) e2 h2 (fun z2 => ?_) (fun z2 m42 m47 m43 m45 q' cs' D3 dl3 b1 b2 b3 b4 => ?_)
      · rcases t_bdI e2 hk with ⟨y, _⟩ | ⟨_, hk2⟩
        · exact absurd y z2
        · rw [hk2] at hF; exact hF z2
      · rcases t_bdI e2 hk with ⟨_, hk2⟩ | ⟨y, _⟩
        · have eR := (Option.some.inj hk2).symm
          subst eR
          refine kk rfl m42 m47 m43 m45 q' cs' D3 dl3 b1 b2 ?_ b4
          rw [b3, ← List.append_assoc, c3]
          show cs ++ R1.2.2 ++ R2.2.2 = cs ++ (R1.2.2 ++ R2.2.2)
          rw [List.append_assoc]
        · exact absurd z2 y
    · exact absurd z1 y
end
