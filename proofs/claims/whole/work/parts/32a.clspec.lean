/-! WHAT A CLAUSE MEANS: (fault, token, the clause, its codes) -/
abbrev t_k3 : Type := Nat × Nat × Nat
abbrev t_O : Type := Nat × Nat × t_k3 × List (Nat × Nat)
def t_oF (fl j : Nat) : t_O := (fl, j, (0, 0, 0), [])
def t_sc (tk : Nat → Int32) (j : Nat) (k : t_k3) (c : List (Nat × Nat)) : t_O := if tk j = 59 then (0, j + 1, k, c) else t_oF 1 j
def t_fg (tk : Nat → Int32) (M j : Nat) (k : Nat → t_O) : t_O := if 300 ≤ tk j then (if tk j ≤ nI (300 + M) then k ((tk j).toNatClampNeg - 300) else t_oF 2 j) else t_oF 1 j
def t_law (F : Nat) (tk : Nat → Int32) (W j so : Nat) : t_O := match t_S tk so F (if so = 0 then 8 else 3) 0 (j + 1) with
  | none => t_oF 1 j
  | some r => if r.1 = 0 then t_sc tk r.2.1 (so, W, W + r.2.2.length) r.2.2 else t_oF r.1 r.2.1
def t_dee (tk : Nat → Int32) (j so : Nat) : t_O := if so = 6 then t_sc tk (j + 1) (6, 0, 0) [] else t_fg tk 5 (j + 1) (fun p => if so = 3 then (if tk (j + 2) = 221 then t_fg tk 15 (j + 3) (fun s => t_sc tk (j + 4) (3, p, s) []) else t_oF 1 (j + 2)) else t_sc tk (j + 2) (so, p, 0) [])
def t_cl2 (F : Nat) (tk : Nat → Int32) (ks : List t_k3) (W j so : Nat) : t_O := if so < 3 ∧ so ∈ ks.map (fun k => k.1) then t_oF 4 j else if 24 ≤ ks.length then t_oF 6 j else if so < 3 then t_law F tk W j so else t_dee tk j so
def t_cla (F : Nat) (tk : Nat → Int32) (ks : List t_k3) (W j : Nat) : t_O := if 214 ≤ tk j ∧ tk j ≤ 220 then t_cl2 F tk ks W j ((tk j).toNatClampNeg - 214) else t_oF 1 j
def t_TT (F : Nat) (tk : Nat → Int32) : Nat → List t_k3 → List (Nat × Nat) → Nat → Nat × Nat × List t_k3 × List (Nat × Nat)
  | 0, ks, cs, j => (0, j, ks, cs)
  | g + 1, ks, cs, j => if tk j = 131 then (0, j, ks, cs) else if (t_cla F tk ks cs.length j).1 = 0 then t_TT F tk g (ks ++ [(t_cla F tk ks cs.length j).2.2.1]) (cs ++ (t_cla F tk ks cs.length j).2.2.2) (t_cla F tk ks cs.length j).2.1 else ((t_cla F tk ks cs.length j).1, (t_cla F tk ks cs.length j).2.1, ks, cs)
/-- codes of a law are well made -/
def t_gl (so : Nat) (c : List (Nat × Nat)) : Prop := 0 < c.length ∧ t_lt so c (0, 0) = some (if so = 0 then (0, 1) else (1, 0))
/-- a good clause, its law's codes in cs -/
def t_gk (k : t_k3) (cs : List (Nat × Nat)) : Prop := k.1 ≤ 6 ∧ (3 ≤ k.1 → k.1 ≤ 5 → k.2.1 < 6) ∧ (k.1 = 3 → k.2.2 < 16) ∧ (k.1 < 3 → k.2.1 < k.2.2 ∧ k.2.2 ≤ cs.length ∧ t_gl k.1 ((cs.drop k.2.1).take (k.2.2 - k.2.1)))
/-- a good result of a clause at j -/
def t_gO (W C j : Nat) (o : t_O) : Prop := (o.1 = 0 → j < o.2.1 ∧ o.2.1 ≤ C ∧ o.2.2.2.length + j < o.2.1 ∧ (∀ x, x ∈ o.2.2.2 → x.1 ≤ 22 ∧ x.2 ≤ 9999) ∧ o.2.2.1.1 ≤ 6 ∧ (3 ≤ o.2.2.1.1 → o.2.2.1.1 ≤ 5 → o.2.2.1.2.1 < 6) ∧ (o.2.2.1.1 = 3 → o.2.2.1.2.2 < 16) ∧ (3 ≤ o.2.2.1.1 → o.2.2.2 = []) ∧ (o.2.2.1.1 < 3 → o.2.2.1.2.1 = W ∧ o.2.2.1.2.2 = W + o.2.2.2.length ∧ t_gl o.2.2.1.1 o.2.2.2)) ∧ (¬ o.1 = 0 → o.1 ≤ 6 ∧ o.2.1 ≤ C)
theorem t_gO_f {W C j fl p : Nat} (h0 : 1 ≤ fl) (h6 : fl ≤ 6) (hp : p ≤ C) : t_gO W C j (t_oF fl p) := ⟨fun e => absurd e (by show ¬ fl = 0; omega), fun _ => ⟨h6, hp⟩⟩
section
variable {tk : Nat → Int32} {C F : Nat}
theorem t_fg_g {M j W p0 : Nat} {k : Nat → t_O} (hj : j ≤ C) (htk : ∀ j, ∃ v, v ≤ 10300 ∧ tk j = nI v) (hC : tk C = 131) (hM : M ≤ 9999) (hk : ∀ p, p ≤ M → tk j = nI (300 + p) → j < C → t_gO W C p0 (k p)) : t_gO W C p0 (t_fg tk M j k) := by
  unfold t_fg
  by_cases z : 300 ≤ tk j
  · rw [if_pos z]
    obtain ⟨v, v1, v2⟩ := htk j
    have v3 : 300 ≤ v := by
      rw [v2] at z
      exact (nI_leI (a := 300) (by decide) (by omega)).mp z
    by_cases y : tk j ≤ nI (300 + M)
    · rw [if_pos y, v2, nI_clamp (by omega)]
      have v4 : v ≤ 300 + M := by
        rw [v2] at y
        exact (nI_leI (by omega) (by omega)).mp y
      refine hk (v - 300) (by omega) (by rw [v2, show 300 + (v - 300) = v by omega]) (t_neC hC hj ?_)
      rw [v2]
      exact fun q => absurd ((nI_eq (b := 131) (by omega) (by decide)).mp q) (by omega)
    · rw [if_neg y]; exact t_gO_f (by decide) (by decide) hj
  · rw [if_neg z]; exact t_gO_f (by decide) (by decide) hj
theorem t_sc_g {j W p0 : Nat} {k : t_k3} (hj : j ≤ C) (hC : tk C = 131) (hp : p0 < j) (h6 : k.1 ≤ 6) (h3 : 3 ≤ k.1) (ha : k.1 ≤ 5 → k.2.1 < 6) (hb : k.1 = 3 → k.2.2 < 16) : t_gO W C p0 (t_sc tk j k []) := by
  unfold t_sc
  by_cases z : tk j = 59
  · rw [if_pos z]
    have := t_neC hC hj (by rw [z]; decide)
    exact ⟨fun _ => ⟨by show p0 < j + 1; omega, by show j + 1 ≤ C; omega, by show 0 + p0 < j + 1; omega, fun x hx => absurd hx List.not_mem_nil, h6, fun _ => ha, hb, fun _ => rfl, fun y => absurd y (by show ¬ k.1 < 3; omega)⟩, fun y => absurd rfl y⟩
  · rw [if_neg z]; exact t_gO_f (by decide) (by decide) hj
theorem t_cla_g {ks : List t_k3} {W j : Nat} (htk : ∀ j, ∃ v, v ≤ 10300 ∧ tk j = nI v) (hC : tk C = 131) (hC2 : ∀ j, j < C → ¬ tk j = 131) (h3 : ∀ j, 300 ≤ tk j → ∃ v, v ≤ 10000 ∧ tk j = nI (300 + v)) (hC3 : C ≤ 300) (hF : 3010 ≤ F) (hj : j ≤ C) : t_gO W C j (t_cla F tk ks W j) := by
  unfold t_cla
  by_cases z : 214 ≤ tk j ∧ tk j ≤ 220
  · rw [if_pos z]
    obtain ⟨v, v1, v2⟩ := htk j
    have v3 : 214 ≤ v := by
      have := z.1
      rw [v2] at this
      exact (nI_leI (a := 214) (by decide) (by omega)).mp this
    have v4 : v ≤ 220 := by
      have := z.2
      rw [v2] at this
      exact (nI_leI (b := 220) (by omega) (by decide)).mp this
    have hjC : j < C := t_neC hC hj (by rw [v2]; exact fun q => absurd ((nI_eq (b := 131) (by omega) (by decide)).mp q) (by omega))
    rw [v2, nI_clamp (by omega)]
    obtain ⟨so, so1, so2⟩ : ∃ so, v - 214 = so ∧ so ≤ 6 := ⟨v - 214, rfl, by omega⟩
    rw [so1]
    unfold t_cl2
    by_cases c1 : so < 3 ∧ so ∈ ks.map (fun k => k.1)
    · rw [if_pos c1]; exact t_gO_f (by decide) (by decide) hj
    · rw [if_neg c1]
      by_cases c2 : 24 ≤ ks.length
      · rw [if_pos c2]; exact t_gO_f (by decide) (by decide) hj
      · rw [if_neg c2]
        by_cases c3 : so < 3
        · rw [if_pos c3]
          unfold t_law
          have hm : (if so = 0 then 8 else 3) ≤ 9 ∧ t_rk (if so = 0 then 8 else 3) ≤ 5 ∧ t_lo (if so = 0 then 8 else 3) = false := by
            by_cases y : so = 0
            · rw [if_pos y]; decide
            · rw [if_neg y]; decide
          obtain ⟨r, r1, r2⟩ := t_SG (L := so) hC hC2 h3 F (if so = 0 then 8 else 3) 0 (j + 1) hm.1 (by omega) (by have := hm.2.1; omega)
          rw [r1]
          show t_gO W C j (if r.1 = 0 then _ else _)
          by_cases y : r.1 = 0
          · rw [if_pos y]
            obtain ⟨a1, a2, a3, a4, a5, a6⟩ := r2.1 y
            have a2' := a2 hm.2.2
            unfold t_sc
            by_cases x : tk r.2.1 = 59
            · rw [if_pos x]
              have := t_neC hC a3 (by rw [x]; decide)
              have hl : t_lt so r.2.2 (0, 0) = some (if so = 0 then (0, 1) else (1, 0)) := by
                by_cases y : so = 0
                · rw [if_pos y] at a6 ⊢; exact a6 0
                · rw [if_neg y] at a6 ⊢; exact a6 0 0
              have hp : 0 < r.2.2.length := by
                cases hq : r.2.2 with
                | nil =>
                  rw [hq] at hl
                  have hl' : some ((0 : Nat), (0 : Nat)) = some (if so = 0 then (0, 1) else (1, 0)) := hl
                  by_cases y : so = 0
                  · rw [if_pos y] at hl'; cases hl'
                  · rw [if_neg y] at hl'; cases hl'
                | cons x xs => exact Nat.succ_pos _
              exact ⟨fun _ => ⟨by show j < r.2.1 + 1; omega, by show r.2.1 + 1 ≤ C; omega, by show r.2.2.length + j < r.2.1 + 1; omega, a5, by show so ≤ 6; omega, fun q => absurd q (by show ¬ 3 ≤ so; omega), fun q => absurd q (by show ¬ so = 3; omega), fun q => absurd q (by show ¬ 3 ≤ so; omega), fun _ => ⟨rfl, rfl, hp, hl⟩⟩, fun q => absurd rfl q⟩
            · rw [if_neg x]; exact t_gO_f (by decide) (by decide) a3
          · rw [if_neg y]
            obtain ⟨b1, b2⟩ := r2.2 y
            exact t_gO_f (by omega) b2 b1
        · rw [if_neg c3]
          unfold t_dee
          by_cases c4 : so = 6
          · rw [if_pos c4]
            exact t_sc_g (by omega) hC (by omega) (by decide) (by decide) (fun q => absurd q (by decide)) (fun q => absurd q (by decide))
          · rw [if_neg c4]
            refine t_fg_g (by omega) htk hC (by decide) (fun p p1 p2 p3 => ?_)
            by_cases c5 : so = 3
            · rw [if_pos c5]
              by_cases c6 : tk (j + 2) = 221
              · rw [if_pos c6]
                have := t_neC hC (j := j + 2) (by omega) (by rw [c6]; decide)
                refine t_fg_g (by omega) htk hC (by decide) (fun s s1 s2 s3 => ?_)
                exact t_sc_g (by omega) hC (by omega) (show 3 ≤ 6 by decide) (Nat.le_refl 3) (fun _ => by show p < 6; omega) (fun _ => by show s < 16; omega)
              · rw [if_neg c6]; exact t_gO_f (by decide) (by decide) (by omega)
            · rw [if_neg c5]
              exact t_sc_g (by omega) hC (by omega) so2 (by show 3 ≤ so; omega) (fun _ => by show p < 6; omega) (fun q => absurd q c5)
  · rw [if_neg z]; exact t_gO_f (by decide) (by decide) hj
end
