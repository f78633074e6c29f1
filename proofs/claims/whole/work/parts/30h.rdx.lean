/-! THE CLASS READS: all modes -/
theorem t_rkI (c : Int32) : (t_rank c = 3 ↔ c = 42 ∨ c = 47) ∧ (t_rank c = 2 ↔ c = 43 ∨ c = 45) ∧ (t_rank c = 1 ↔ c = 223) ∧ (t_rank c = 0 ↔ c = 222) := by
  unfold t_rank
  by_cases h1 : c = 42
  · subst h1; decide
  · rw [if_neg h1]
    by_cases h2 : c = 43
    · subst h2; decide
    · rw [if_neg h2]
      by_cases h3 : c = 45
      · subst h3; decide
      · rw [if_neg h3]
        by_cases h4 : c = 47
        · subst h4; decide
        · rw [if_neg h4]
          by_cases h5 : c = 222
          · subst h5; decide
          · rw [if_neg h5]
            by_cases h6 : c = 223
            · subst h6; decide
            · rw [if_neg h6]
              exact ⟨⟨fun q => absurd q (by decide), fun q => by rcases q with q | q; exact absurd q h1; exact absurd q h4⟩, ⟨fun q => absurd q (by decide), fun q => by rcases q with q | q; exact absurd q h2; exact absurd q h3⟩, ⟨fun q => absurd q (by decide), fun q => absurd q h6⟩, ⟨fun q => absurd q (by decide), fun q => absurd q h5⟩⟩
theorem t_oc1 (c : Int32) : ¬ t_oc c = 1 := by
  unfold t_oc
  by_cases h1 : c = 43
  · rw [if_pos h1]; omega
  · rw [if_neg h1]
    by_cases h2 : c = 45
    · rw [if_pos h2]; omega
    · rw [if_neg h2]
      by_cases h3 : c = 42
      · rw [if_pos h3]; omega
      · rw [if_neg h3]; omega
section
variable {n sl : Nat} {ln : Nat → Nat} {dl : Nat → Nat → Int64} {dr : Nat → Nat → Option Nat} {tk : Nat → Int32} {bg : Nat → Nat} {L C : Nat} {D : Nat → Nat → Int32}
theorem c_rdX (hx : t_cx D tk bg L C) (hC : tk C = 131) (hC2 : ∀ j, j < C → ¬ tk j = 131) (h3 : ∀ j, 300 ≤ tk j → ∃ v, v ≤ 10000 ∧ tk j = nI (300 + v)) (htk : ∀ j, ∃ v, v ≤ 10300 ∧ tk j = nI v) (hg : q_Gr n ln dr) : ∀ f, t_IH n sl ln dl dr D tk bg L C f := by
  intro f
  induction f with
  | zero => intro m δ j W dd A r R Q hm hj hf; omega
  | succ f ih =>
    intro m δ j W dd A r R Q hm hj hf hδ hW hS hQ hdd
    match m, hm, hf, hS, hdd with
    | 0, _, hf, hS, hdd =>
      have hdd' : 0 + 5 * (8 - δ) + 2 ≤ dd := hdd
      exact t_m0 ih hx hC hC2 h3 htk hg hj hf hδ hW hS hQ (by omega)
    | 5, _, hf, hS, hdd => exact t_m5 ih hx hC hC2 h3 hg hj hf hδ hW hS hQ hdd
    | 1, _, hf, hS, hdd =>
      have hf' : 10 * (C - j) + 1 + 1 ≤ f + 1 := hf
      have hdd' : 2 + 5 * (8 - δ) + 2 ≤ dd := hdd
      obtain ⟨e, rfl⟩ : ∃ e, dd = e + 2 := ⟨dd - 2, by omega⟩
      unfold t_S at hS
      refine t_chain (mA := 0) (mB := 2) rfl (by decide) hC hC2 h3 hg (by decide) (by decide) hj (by show 10 * (C - j) + 0 + 1 ≤ f; omega) rfl hW hS hQ (fun R1 Q' s1 h1 => ?_) (fun j1 W1 A1 r1 R2 b1 b2 b3 s2 h2 => ?_)
      · refine g43_0 hg (fun w => absurd w (by decide)) (fun w => absurd w (by decide)) (fun w => absurd w (by decide)) (fun _ _ _ => ?_)
        exact ih 0 δ j W e A r R1 _ (by decide) hj (by show 10 * (C - j) + 0 + 1 ≤ f; omega) hδ hW s1 ⟨fun h0 => g43_59 hg (h1.1 h0), fun h0 E hE => g43_59 hg (h1.2 h0 E hE)⟩ (by show 0 + 5 * (8 - δ) + 2 ≤ e; omega)
      · exact ih 2 δ j1 W1 (e + 2) A1 r1 R2 Q (by decide) b1 (by show 10 * (C - j1) + 0 + 1 ≤ f; omega) hδ b3 s2 h2 (by show 2 + 5 * (8 - δ) + 2 ≤ e + 2; omega) 0 (by omega)
    | 2, _, hf, hS, hdd =>
      intro i hi
      have hf' : 10 * (C - j) + 0 + 1 ≤ f + 1 := hf
      have hdd' : 2 + 5 * (8 - δ) + 2 ≤ dd := hdd
      obtain ⟨e, rfl⟩ : ∃ e, dd = e + 2 := ⟨dd - 2, by omega⟩
      unfold t_S at hS
      change (if tk j = 42 ∨ tk j = 47 then _ else _) = some R at hS
      by_cases z : tk j = 42 ∨ tk j = 47
      · rw [if_pos z] at hS
        have hjC : j < C := t_neC hC hj (by rcases z with z | z <;> (rw [z]; decide))
        refine t_rest (mA := 0) (mB := 2) (o := t_oc (tk j)) hx rfl (by decide) hC hC2 h3 hg (by decide) (by decide) hjC hi (by show 10 * (C - (j + 1)) + 0 + 1 ≤ f; omega) rfl hW ((t_rkI (tk j)).1.mpr z) (t_oc1 _) (by rcases z with z | z <;> (rw [z]; decide)) hS hQ (fun R1 Q' s1 h1 => ?_) (fun j1 W1 A1 r1 R2 b1 b2 b3 s2 h2 => ?_)
        · refine g43_0 hg (fun w => absurd w (by decide)) (fun w => absurd w (by decide)) (fun w => absurd w (by decide)) (fun _ _ _ => ?_)
          exact ih 0 δ (j + 1) W e A r R1 _ (by decide) (by omega) (by show 10 * (C - (j + 1)) + 0 + 1 ≤ f; omega) hδ (by omega) s1 ⟨fun h0 => g43_59 hg (h1.1 h0), fun h0 E hE => g43_59 hg (h1.2 h0 E hE)⟩ (by show 0 + 5 * (8 - δ) + 2 ≤ e; omega)
        · exact ih 2 δ j1 W1 (e + 2) A1 r1 R2 Q (by decide) b1 (by show 10 * (C - j1) + 0 + 1 ≤ f; omega) hδ b3 s2 h2 (by show 2 + 5 * (8 - δ) + 2 ≤ e + 2; omega) (i + 1) (by omega)
      · rw [if_neg z] at hS
        have eR := (Option.some.inj hS).symm
        subst eR
        exact t_ch0 hg (fun q => z ((t_rkI (tk j)).1.mp q)) (hQ.1 rfl)
    | 3, _, hf, hS, hdd =>
      have hf' : 10 * (C - j) + 2 + 1 ≤ f + 1 := hf
      have hdd' : 4 + 5 * (8 - δ) + 2 ≤ dd := hdd
      obtain ⟨e, rfl⟩ : ∃ e, dd = e + 2 := ⟨dd - 2, by omega⟩
      unfold t_S at hS
      refine t_chain (mA := 1) (mB := 4) rfl (by decide) hC hC2 h3 hg (by decide) (by decide) hj (by show 10 * (C - j) + 1 + 1 ≤ f; omega) rfl hW hS hQ (fun R1 Q' s1 h1 => ?_) (fun j1 W1 A1 r1 R2 b1 b2 b3 s2 h2 => ?_)
      · refine g43_0 hg (fun w => absurd w (by decide)) (fun w => absurd w (by decide)) (fun _ => ?_) (fun _ _ w => absurd rfl w)
        exact ih 1 δ j W e A r R1 _ (by decide) hj (by show 10 * (C - j) + 1 + 1 ≤ f; omega) hδ hW s1 ⟨fun h0 => g43_51 hg (h1.1 h0), fun h0 E hE => g43_51 hg (h1.2 h0 E hE)⟩ (by show 2 + 5 * (8 - δ) + 2 ≤ e; omega)
      · exact ih 4 δ j1 W1 (e + 2) A1 r1 R2 Q (by decide) b1 (by show 10 * (C - j1) + 0 + 1 ≤ f; omega) hδ b3 s2 h2 (by show 4 + 5 * (8 - δ) + 2 ≤ e + 2; omega) 0 (by omega)
    | 4, _, hf, hS, hdd =>
      intro i hi
      have hf' : 10 * (C - j) + 0 + 1 ≤ f + 1 := hf
      have hdd' : 4 + 5 * (8 - δ) + 2 ≤ dd := hdd
      obtain ⟨e, rfl⟩ : ∃ e, dd = e + 2 := ⟨dd - 2, by omega⟩
      unfold t_S at hS
      change (if tk j = 43 ∨ tk j = 45 then _ else _) = some R at hS
      by_cases z : tk j = 43 ∨ tk j = 45
      · rw [if_pos z] at hS
        have hjC : j < C := t_neC hC hj (by rcases z with z | z <;> (rw [z]; decide))
        refine t_rest (mA := 1) (mB := 4) (o := t_oc (tk j)) hx rfl (by decide) hC hC2 h3 hg (by decide) (by decide) hjC hi (by show 10 * (C - (j + 1)) + 1 + 1 ≤ f; omega) rfl hW ((t_rkI (tk j)).2.1.mpr z) (t_oc1 _) (by rcases z with z | z <;> (rw [z]; decide)) hS hQ (fun R1 Q' s1 h1 => ?_) (fun j1 W1 A1 r1 R2 b1 b2 b3 s2 h2 => ?_)
        · refine g43_0 hg (fun w => absurd w (by decide)) (fun w => absurd w (by decide)) (fun _ => ?_) (fun _ _ w => absurd rfl w)
          exact ih 1 δ (j + 1) W e A r R1 _ (by decide) (by omega) (by show 10 * (C - (j + 1)) + 1 + 1 ≤ f; omega) hδ (by omega) s1 ⟨fun h0 => g43_51 hg (h1.1 h0), fun h0 E hE => g43_51 hg (h1.2 h0 E hE)⟩ (by show 2 + 5 * (8 - δ) + 2 ≤ e; omega)
        · exact ih 4 δ j1 W1 (e + 2) A1 r1 R2 Q (by decide) b1 (by show 10 * (C - j1) + 0 + 1 ≤ f; omega) hδ b3 s2 h2 (by show 4 + 5 * (8 - δ) + 2 ≤ e + 2; omega) (i + 1) (by omega)
      · rw [if_neg z] at hS
        have eR := (Option.some.inj hS).symm
        subst eR
        exact t_ch0 hg (fun q => z ((t_rkI (tk j)).2.1.mp q)) (hQ.1 rfl)
    | 6, _, hf, hS, hdd =>
      have hf' : 10 * (C - j) + 4 + 1 ≤ f + 1 := hf
      have hdd' : 7 + 5 * (8 - δ) + 2 ≤ dd := hdd
      obtain ⟨e, rfl⟩ : ∃ e, dd = e + 2 := ⟨dd - 2, by omega⟩
      unfold t_S at hS
      refine t_chain (mA := 5) (mB := 7) rfl (by decide) hC hC2 h3 hg (by decide) (by decide) hj (by show 10 * (C - j) + 3 + 1 ≤ f; omega) rfl hW hS hQ (fun R1 Q' s1 h1 => ?_) (fun j1 W1 A1 r1 R2 b1 b2 b3 s2 h2 => ?_)
      · refine g43_0 hg (fun w => absurd w (by decide)) (fun _ => ?_) (fun w => absurd w (by decide)) (fun _ w => absurd rfl w)
        exact ih 5 δ j W e A r R1 _ (by decide) hj (by show 10 * (C - j) + 3 + 1 ≤ f; omega) hδ hW s1 ⟨fun h0 => g43_42 hg (h1.1 h0), fun h0 E hE => g43_42 hg (h1.2 h0 E hE)⟩ (by show 5 + 5 * (8 - δ) + 2 ≤ e; omega)
      · exact ih 7 δ j1 W1 (e + 2) A1 r1 R2 Q (by decide) b1 (by show 10 * (C - j1) + 0 + 1 ≤ f; omega) hδ b3 s2 h2 (by show 7 + 5 * (8 - δ) + 2 ≤ e + 2; omega) 0 (by omega)
    | 7, _, hf, hS, hdd =>
      intro i hi
      have hf' : 10 * (C - j) + 0 + 1 ≤ f + 1 := hf
      have hdd' : 7 + 5 * (8 - δ) + 2 ≤ dd := hdd
      obtain ⟨e, rfl⟩ : ∃ e, dd = e + 2 := ⟨dd - 2, by omega⟩
      unfold t_S at hS
      change (if tk j = 223 then _ else _) = some R at hS
      by_cases z : tk j = 223
      · rw [if_pos z] at hS
        have hjC : j < C := t_neC hC hj (by rw [z]; decide)
        refine t_rest (mA := 5) (mB := 7) (o := 21) hx rfl (by decide) hC hC2 h3 hg (by decide) (by decide) hjC hi (by show 10 * (C - (j + 1)) + 3 + 1 ≤ f; omega) rfl hW ((t_rkI (tk j)).2.2.1.mpr z) (by decide) (by rw [z]; decide) hS hQ (fun R1 Q' s1 h1 => ?_) (fun j1 W1 A1 r1 R2 b1 b2 b3 s2 h2 => ?_)
        · refine g43_0 hg (fun w => absurd w (by decide)) (fun _ => ?_) (fun w => absurd w (by decide)) (fun _ w => absurd rfl w)
          exact ih 5 δ (j + 1) W e A r R1 _ (by decide) (by omega) (by show 10 * (C - (j + 1)) + 3 + 1 ≤ f; omega) hδ (by omega) s1 ⟨fun h0 => g43_42 hg (h1.1 h0), fun h0 E hE => g43_42 hg (h1.2 h0 E hE)⟩ (by show 5 + 5 * (8 - δ) + 2 ≤ e; omega)
        · exact ih 7 δ j1 W1 (e + 2) A1 r1 R2 Q (by decide) b1 (by show 10 * (C - j1) + 0 + 1 ≤ f; omega) hδ b3 s2 h2 (by show 7 + 5 * (8 - δ) + 2 ≤ e + 2; omega) (i + 1) (by omega)
      · rw [if_neg z] at hS
        have eR := (Option.some.inj hS).symm
        subst eR
        exact t_ch0 hg (fun q => z ((t_rkI (tk j)).2.2.1.mp q)) (hQ.1 rfl)
    | 8, _, hf, hS, hdd =>
      have hf' : 10 * (C - j) + 5 + 1 ≤ f + 1 := hf
      have hdd' : 9 + 5 * (8 - δ) + 2 ≤ dd := hdd
      obtain ⟨e, rfl⟩ : ∃ e, dd = e + 2 := ⟨dd - 2, by omega⟩
      unfold t_S at hS
      refine t_chain (mA := 6) (mB := 9) rfl (by decide) hC hC2 h3 hg (by decide) (by decide) hj (by show 10 * (C - j) + 4 + 1 ≤ f; omega) rfl hW hS hQ (fun R1 Q' s1 h1 => ?_) (fun j1 W1 A1 r1 R2 b1 b2 b3 s2 h2 => ?_)
      · refine g43_0 hg (fun _ => ?_) (fun w => absurd w (by decide)) (fun w => absurd w (by decide)) (fun w => absurd rfl w)
        exact ih 6 δ j W e A r R1 _ (by decide) hj (by show 10 * (C - j) + 4 + 1 ≤ f; omega) hδ hW s1 ⟨fun h0 => g43_34 hg (h1.1 h0), fun h0 E hE => g43_34 hg (h1.2 h0 E hE)⟩ (by show 7 + 5 * (8 - δ) + 2 ≤ e; omega)
      · exact ih 9 δ j1 W1 (e + 2) A1 r1 R2 Q (by decide) b1 (by show 10 * (C - j1) + 0 + 1 ≤ f; omega) hδ b3 s2 h2 (by show 9 + 5 * (8 - δ) + 2 ≤ e + 2; omega) 0 (by omega)
    | 9, _, hf, hS, hdd =>
      intro i hi
      have hf' : 10 * (C - j) + 0 + 1 ≤ f + 1 := hf
      have hdd' : 9 + 5 * (8 - δ) + 2 ≤ dd := hdd
      obtain ⟨e, rfl⟩ : ∃ e, dd = e + 2 := ⟨dd - 2, by omega⟩
      unfold t_S at hS
      change (if tk j = 222 then _ else _) = some R at hS
      by_cases z : tk j = 222
      · rw [if_pos z] at hS
        have hjC : j < C := t_neC hC hj (by rw [z]; decide)
        refine t_rest (mA := 6) (mB := 9) (o := 22) hx rfl (by decide) hC hC2 h3 hg (by decide) (by decide) hjC hi (by show 10 * (C - (j + 1)) + 4 + 1 ≤ f; omega) rfl hW ((t_rkI (tk j)).2.2.2.mpr z) (by decide) (by rw [z]; decide) hS hQ (fun R1 Q' s1 h1 => ?_) (fun j1 W1 A1 r1 R2 b1 b2 b3 s2 h2 => ?_)
        · refine g43_0 hg (fun _ => ?_) (fun w => absurd w (by decide)) (fun w => absurd w (by decide)) (fun w => absurd rfl w)
          exact ih 6 δ (j + 1) W e A r R1 _ (by decide) (by omega) (by show 10 * (C - (j + 1)) + 4 + 1 ≤ f; omega) hδ (by omega) s1 ⟨fun h0 => g43_34 hg (h1.1 h0), fun h0 E hE => g43_34 hg (h1.2 h0 E hE)⟩ (by show 7 + 5 * (8 - δ) + 2 ≤ e; omega)
        · exact ih 9 δ j1 W1 (e + 2) A1 r1 R2 Q (by decide) b1 (by show 10 * (C - j1) + 0 + 1 ≤ f; omega) hδ b3 s2 h2 (by show 9 + 5 * (8 - δ) + 2 ≤ e + 2; omega) (i + 1) (by omega)
      · rw [if_neg z] at hS
        have eR := (Option.some.inj hS).symm
        subst eR
        exact t_ch0 hg (fun q => z ((t_rkI (tk j)).2.2.2.mp q)) (hQ.1 rfl)
    | _ + 10, hm, _, _, _ => omega
end
