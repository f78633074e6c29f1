section
variable {tk : Nat → Int32} {L C : Nat}
theorem t_seq1 {x : Option t_R} {y : Nat → Option t_R} {mA mB m j : Nat} (hA : ∃ r, x = some r ∧ t_G L C mA j r) (loA : t_lo mA = false) (hB : ∀ j1, j < j1 → j1 ≤ C → ∃ r, y j1 = some r ∧ t_G L C mB j1 r) (hty : ∀ c1 c2, t_ty L mA c1 → t_ty L mB c2 → t_ty L m (c1 ++ c2)) :
    ∃ r, t_bd x (fun j1 c1 => t_bd (y j1) (fun j2 c2 => some (0, j2, c1 ++ c2))) = some r ∧ t_G L C m j r := by
  obtain ⟨r, r1, r2⟩ := hA
  by_cases h0 : r.1 = 0
  · obtain ⟨a1, a2, a3, a4, a5, a6⟩ := r2.1 h0
    rw [t_bd_0 r1 h0]
    obtain ⟨s, s1, s2⟩ := hB r.2.1 (a2 loA) a3
    by_cases g0 : s.1 = 0
    · obtain ⟨b1, b2, b3, b4, b5, b6⟩ := s2.1 g0
      rw [t_bd_0 s1 g0]
      have := a2 loA
      refine ⟨_, rfl, fun _ => ⟨by show j ≤ s.2.1; omega, fun _ => by show j < s.2.1; omega, b3, ?_, ?_, hty _ _ a6 b6⟩, fun z => absurd rfl z⟩
      · show (r.2.2 ++ s.2.2).length + j ≤ s.2.1
        rw [List.length_append]; omega
      · intro z hz
        rcases List.mem_append.mp hz with q | q
        · exact a5 z q
        · exact b5 z q
    · rw [t_bd_1 s1 g0]
      exact ⟨_, rfl, t_G_f g0 (s2.2 g0).2 (s2.2 g0).1⟩
  · rw [t_bd_1 r1 h0]
    exact ⟨_, rfl, t_G_f h0 (r2.2 h0).2 (r2.2 h0).1⟩
theorem t_seq2 {x : Option t_R} {y : Nat → Option t_R} {mA mB m j o : Nat} (ho : o ≤ 22) (hA : ∃ r, x = some r ∧ t_G L C mA (j + 1) r) (loA : t_lo mA = false) (hB : ∀ j1, j < j1 → j1 ≤ C → ∃ r, y j1 = some r ∧ t_G L C mB j1 r) (hty : ∀ c1 c2, t_ty L mA c1 → t_ty L mB c2 → t_ty L m (c1 ++ (o, 0) :: c2)) :
    ∃ r, t_bd x (fun j1 c1 => t_bd (y j1) (fun j2 c2 => some (0, j2, c1 ++ (o, 0) :: c2))) = some r ∧ t_G L C m j r := by
  obtain ⟨r, r1, r2⟩ := hA
  by_cases h0 : r.1 = 0
  · obtain ⟨a1, a2, a3, a4, a5, a6⟩ := r2.1 h0
    rw [t_bd_0 r1 h0]
    obtain ⟨s, s1, s2⟩ := hB r.2.1 (by omega) a3
    by_cases g0 : s.1 = 0
    · obtain ⟨b1, b2, b3, b4, b5, b6⟩ := s2.1 g0
      rw [t_bd_0 s1 g0]
      refine ⟨_, rfl, fun _ => ⟨by show j ≤ s.2.1; omega, fun _ => by show j < s.2.1; omega, b3, ?_, ?_, hty _ _ a6 b6⟩, fun z => absurd rfl z⟩
      · show (r.2.2 ++ (o, 0) :: s.2.2).length + j ≤ s.2.1
        rw [List.length_append, List.length_cons]; omega
      · intro z hz
        rcases List.mem_append.mp hz with q | q
        · exact a5 z q
        · rcases List.mem_cons.mp q with q | q
          · rw [q]; exact ⟨ho, Nat.zero_le _⟩
          · exact b5 z q
    · rw [t_bd_1 s1 g0]
      exact ⟨_, rfl, t_G_f g0 (s2.2 g0).2 (s2.2 g0).1⟩
  · rw [t_bd_1 r1 h0]
    exact ⟨_, rfl, t_G_f h0 (r2.2 h0).2 (r2.2 h0).1⟩
/-- one more code behind -/
theorem t_seq3 {x : Option t_R} {mA m j o : Nat} (ho : o ≤ 22) (hA : ∃ r, x = some r ∧ t_G L C mA (j + 1) r) (hty : ∀ c1, t_ty L mA c1 → t_ty L m (c1 ++ [(o, 0)])) :
    ∃ r, t_bd x (fun j1 c1 => some (0, j1, c1 ++ [(o, 0)])) = some r ∧ t_G L C m j r := by
  obtain ⟨r, r1, r2⟩ := hA
  by_cases h0 : r.1 = 0
  · obtain ⟨a1, a2, a3, a4, a5, a6⟩ := r2.1 h0
    rw [t_bd_0 r1 h0]
    refine ⟨_, rfl, fun _ => ⟨by show j ≤ r.2.1; omega, fun _ => by show j < r.2.1; omega, a3, ?_, ?_, hty _ a6⟩, fun z => absurd rfl z⟩
    · show (r.2.2 ++ [(o, 0)]).length + j ≤ r.2.1
      rw [List.length_append]; show r.2.2.length + 1 + j ≤ r.2.1; omega
    · intro z hz
      rcases List.mem_append.mp hz with q | q
      · exact a5 z q
      · rw [List.mem_singleton.mp q]; exact ⟨ho, Nat.zero_le _⟩
  · rw [t_bd_1 r1 h0]
    exact ⟨_, rfl, t_G_f h0 (r2.2 h0).2 (r2.2 h0).1⟩
theorem t_ty_i {a b o : Nat} {c1 c2 : List (Nat × Nat)} {n t : Nat} (h1 : t_lt L c1 (a, b) = some (n, t)) {s : Nat × Nat} (h2 : q_tq L (nI o) (nI 0) n t = some s) : t_lt L (c1 ++ (o, 0) :: c2) (a, b) = t_lt L c2 s := by
  rw [t_lt_app L c1 _ _ _ h1]
  show (match q_tq L (nI o) (nI 0) n t with | none => none | some s' => t_lt L c2 s') = _
  rw [h2]
set_option maxHeartbeats 1000000 in
theorem t_SG (hC : tk C = 131) (hC2 : ∀ j, j < C → ¬ tk j = 131) (h3 : ∀ j, 300 ≤ tk j → ∃ v, v ≤ 10000 ∧ tk j = nI (300 + v)) : ∀ (f m d j : Nat), m ≤ 9 → j ≤ C → 10 * (C - j) + t_rk m + 1 ≤ f → ∃ r, t_S tk L f m d j = some r ∧ t_G L C m j r := by
  have ne : ∀ {j : Nat}, j ≤ C → ¬ tk j = 131 → j < C := fun {j} h1 h2 => by
    rcases Nat.lt_or_ge j C with y | y
    · exact y
    · exact absurd (by rw [show j = C by omega]; exact hC) h2
  intro f
  induction f with
  | zero => intro m d j _ _ h; omega
  | succ f ih =>
    intro m d j hm hj hf
    unfold t_S
    match m, hm, hf with
    | 0, _, hf =>
      have hf' : 10 * (C - j) + 0 + 1 ≤ f + 1 := hf
      show ∃ r, (if 300 ≤ tk j then _ else _) = some r ∧ _
      by_cases z1 : 300 ≤ tk j
      · rw [if_pos z1]
        obtain ⟨v, v1, v2⟩ := h3 j z1
        have hjC : j < C := ne hj (by rw [v2]; exact fun z => absurd ((nI_eq (b := 131) (by omega) (by decide)).mp z) (by omega))
        by_cases z2 : tk j = 10300
        · rw [if_pos z2]; exact ⟨_, rfl, t_G_f (by decide) (by decide) hj⟩
        · rw [if_neg z2]
          have hv : v ≤ 9999 := by
            have : ¬ v = 10000 := fun q => z2 (by rw [v2, q]; rfl)
            omega
          have ev : (tk j).toNatClampNeg - 300 = v := by rw [v2, nI_clamp (by omega)]; omega
          rw [ev]
          refine ⟨_, rfl, fun _ => ⟨by show j ≤ j + 1; omega, fun _ => by show j < j + 1; omega, by show j + 1 ≤ C; omega, by show 1 + j ≤ j + 1; omega, fun x hx => by rw [List.mem_singleton.mp hx]; exact ⟨Nat.zero_le _, hv⟩, fun n t => ?_⟩, fun z => absurd rfl z⟩
          show (match q_tq L (nI 0) (nI v) n t with | none => none | some s' => t_lt L [] s') = some (n + 1, t)
          have : q_tq L (nI 0) (nI v) n t = some (n + 1, t) := by
            unfold q_tq
            rw [if_pos (show nI 0 = 0 from rfl), nI_clamp (by omega), if_pos ⟨hv, rfl⟩]
          rw [this]; rfl
      · rw [if_neg z1]
        by_cases z2 : 200 ≤ tk j ∧ tk j < 214
        · rw [if_pos z2]
          obtain ⟨v, v1, v2⟩ := nI_of2 (x := tk j) (M := 213) (n := 213) rfl (q_not_lt (by
            have := (fa_le _ _).mp z2.1
            rw [show (200 : Int32).toInt = 200 by decide] at this
            rw [fa_le, show (0 : Int32).toInt = 0 by decide]; omega)) (by
            have := (fa_lt _ _).mp z2.2
            rw [show (214 : Int32).toInt = 214 by decide] at this
            rw [fa_le, show (213 : Int32).toInt = 213 by decide]; omega)
          have v3 : 200 ≤ v := by
            have := z2.1
            rw [v2] at this
            exact (nI_leI (a := 200) (by decide) (by omega)).mp this
          have hjC : j < C := ne hj (by rw [v2]; exact fun z => absurd ((nI_eq (b := 131) (by omega) (by decide)).mp z) (by omega))
          have ev : (tk j).toNatClampNeg - 200 = v - 200 := by rw [v2, nI_clamp (by omega)]
          rw [ev]
          by_cases z3 : q_nmok L (v - 200) = true
          · rw [if_pos z3]
            refine ⟨_, rfl, fun _ => ⟨by show j ≤ j + 1; omega, fun _ => by show j < j + 1; omega, by show j + 1 ≤ C; omega, by show 1 + j ≤ j + 1; omega, fun x hx => by rw [List.mem_singleton.mp hx]; exact ⟨by show 1 ≤ 22; decide, by show v - 200 ≤ 9999; omega⟩, fun n t => ?_⟩, fun z => absurd rfl z⟩
            show (match q_tq L (nI 1) (nI (v - 200)) n t with | none => none | some s' => t_lt L [] s') = some (n + 1, t)
            have : q_tq L (nI 1) (nI (v - 200)) n t = some (n + 1, t) := by
              unfold q_tq
              rw [if_neg (by decide), if_pos (show nI 1 = 1 from rfl), nI_clamp (by omega), if_pos ⟨z3, rfl⟩]
            rw [this]; rfl
          · rw [if_neg z3]; exact ⟨_, rfl, t_G_f (by decide) (by decide) hj⟩
        · rw [if_neg z2]
          by_cases z4 : tk j = 40
          · rw [if_pos z4]
            have hjC : j < C := ne hj (by rw [z4]; decide)
            by_cases z5 : 8 ≤ d
            · rw [if_pos z5]; exact ⟨_, rfl, t_G_f (by decide) (by decide) hj⟩
            · rw [if_neg z5]
              obtain ⟨r, r1, r2⟩ := ih 3 (d + 1) (j + 1) (by decide) (by omega) (by show 10 * (C - (j + 1)) + 2 + 1 ≤ f; omega)
              by_cases h0 : r.1 = 0
              · obtain ⟨a1, a2, a3, a4, a5, a6⟩ := r2.1 h0
                rw [t_bd_0 r1 h0]
                by_cases z6 : tk r.2.1 = 41
                · rw [if_pos z6]
                  have hrC : r.2.1 < C := ne a3 (by rw [z6]; decide)
                  exact ⟨_, rfl, fun _ => ⟨by show j ≤ r.2.1 + 1; omega, fun _ => by show j < r.2.1 + 1; omega, by show r.2.1 + 1 ≤ C; omega, by show r.2.2.length + j ≤ r.2.1 + 1; omega, a5, a6⟩, fun z => absurd rfl z⟩
                · rw [if_neg z6]; exact ⟨_, rfl, t_G_f (by decide) (by decide) a3⟩
              · rw [t_bd_1 r1 h0]; exact ⟨_, rfl, t_G_f h0 (r2.2 h0).2 (r2.2 h0).1⟩
          · rw [if_neg z4]
            by_cases z6 : tk j = 45
            · rw [if_pos z6]
              have hjC : j < C := ne hj (by rw [z6]; decide)
              by_cases z5 : 8 ≤ d
              · rw [if_pos z5]; exact ⟨_, rfl, t_G_f (by decide) (by decide) hj⟩
              · rw [if_neg z5]
                refine t_seq3 (mA := 0) (by decide) (ih 0 (d + 1) (j + 1) (by decide) (by omega) (by show 10 * (C - (j + 1)) + 0 + 1 ≤ f; omega)) (fun c1 h1 n t => ?_)
                rw [t_ty_i (h1 n t) (t_q2 L n t)]
                rfl
            · rw [if_neg z6]; exact ⟨_, rfl, t_G_f (by decide) (by decide) hj⟩
    | 1, _, hf =>
      have hf' : 10 * (C - j) + 1 + 1 ≤ f + 1 := hf
      refine t_seq1 (mA := 0) (mB := 2) (ih 0 d j (by decide) hj (by show 10 * (C - j) + 0 + 1 ≤ f; omega)) rfl (fun j1 g1 g2 => ih 2 d j1 (by decide) g2 (by show 10 * (C - j1) + 0 + 1 ≤ f; omega)) (fun c1 c2 h1 h2 n t => ?_)
      rw [t_lt_app L c1 c2 _ _ (h1 n t)]; exact h2 n t
    | 2, _, hf =>
      have hf' : 10 * (C - j) + 0 + 1 ≤ f + 1 := hf
      show ∃ r, (if tk j = 42 ∨ tk j = 47 then _ else _) = some r ∧ _
      by_cases z : tk j = 42 ∨ tk j = 47
      · rw [if_pos z]
        have hjC : j < C := ne hj (by rcases z with z | z <;> (rw [z]; decide))
        refine t_seq2 (mA := 0) (mB := 2) (t_oc_l _) (ih 0 d (j + 1) (by decide) (by omega) (by show 10 * (C - (j + 1)) + 0 + 1 ≤ f; omega)) rfl (fun j1 g1 g2 => ih 2 d j1 (by decide) g2 (by show 10 * (C - j1) + 0 + 1 ≤ f; omega)) (fun c1 c2 h1 h2 n t => ?_)
        rw [t_ty_i (h1 (n + 1) t) (t_qo L (tk j) n t)]; exact h2 n t
      · rw [if_neg z]
        exact ⟨_, rfl, fun _ => ⟨Nat.le_refl _, fun q => (by cases q), hj, by show 0 + j ≤ j; omega, fun x hx => absurd hx List.not_mem_nil, fun n t => rfl⟩, fun z => absurd rfl z⟩
    | 3, _, hf =>
      have hf' : 10 * (C - j) + 2 + 1 ≤ f + 1 := hf
      refine t_seq1 (mA := 1) (mB := 4) (ih 1 d j (by decide) hj (by show 10 * (C - j) + 1 + 1 ≤ f; omega)) rfl (fun j1 g1 g2 => ih 4 d j1 (by decide) g2 (by show 10 * (C - j1) + 0 + 1 ≤ f; omega)) (fun c1 c2 h1 h2 n t => ?_)
      rw [t_lt_app L c1 c2 _ _ (h1 n t)]; exact h2 n t
    | 4, _, hf =>
      have hf' : 10 * (C - j) + 0 + 1 ≤ f + 1 := hf
      show ∃ r, (if tk j = 43 ∨ tk j = 45 then _ else _) = some r ∧ _
      by_cases z : tk j = 43 ∨ tk j = 45
      · rw [if_pos z]
        have hjC : j < C := ne hj (by rcases z with z | z <;> (rw [z]; decide))
        refine t_seq2 (mA := 1) (mB := 4) (t_oc_l _) (ih 1 d (j + 1) (by decide) (by omega) (by show 10 * (C - (j + 1)) + 1 + 1 ≤ f; omega)) rfl (fun j1 g1 g2 => ih 4 d j1 (by decide) g2 (by show 10 * (C - j1) + 0 + 1 ≤ f; omega)) (fun c1 c2 h1 h2 n t => ?_)
        rw [t_ty_i (h1 (n + 1) t) (t_qo L (tk j) n t)]; exact h2 n t
      · rw [if_neg z]
        exact ⟨_, rfl, fun _ => ⟨Nat.le_refl _, fun q => (by cases q), hj, by show 0 + j ≤ j; omega, fun x hx => absurd hx List.not_mem_nil, fun n t => rfl⟩, fun z => absurd rfl z⟩
    | 5, _, hf =>
      have hf' : 10 * (C - j) + 3 + 1 ≤ f + 1 := hf
      show ∃ r, (if tk j = 224 then _ else _) = some r ∧ _
      by_cases z : tk j = 224
      · rw [if_pos z]
        have hjC : j < C := ne hj (by rw [z]; decide)
        by_cases z5 : 8 ≤ d
        · rw [if_pos z5]; exact ⟨_, rfl, t_G_f (by decide) (by decide) hj⟩
        · rw [if_neg z5]
          refine t_seq3 (mA := 5) (by decide) (ih 5 (d + 1) (j + 1) (by decide) (by omega) (by show 10 * (C - (j + 1)) + 3 + 1 ≤ f; omega)) (fun c1 h1 t => ?_)
          rw [t_ty_i (h1 t) (t_q20 L t)]
          rfl
      · rw [if_neg z]
        obtain ⟨r, r1, r2⟩ := ih 3 d j (by decide) hj (by show 10 * (C - j) + 2 + 1 ≤ f; omega)
        by_cases h0 : r.1 = 0
        · obtain ⟨a1, a2, a3, a4, a5, a6⟩ := r2.1 h0
          rw [t_bd_0 r1 h0]
          have a2' := a2 rfl
          by_cases z6 : t_rc (tk r.2.1) < 0
          · rw [if_pos z6]; exact ⟨_, rfl, t_G_f (by decide) (by decide) a3⟩
          · rw [if_neg z6]
            obtain ⟨v, v1, v2, v3⟩ := t_rc_v _ z6
            have hrC : r.2.1 < C := ne a3 (fun q => by rw [q] at v3; exact absurd v3 (by
              show ¬ t_rc 131 = nI v
              have : t_rc 131 = -1 := by decide
              rw [this]
              exact fun q => w_neg1 (t := v) (by omega) q.symm))
            rw [v3, nI_clamp (by omega)]
            obtain ⟨s, s1, s2⟩ := ih 3 d (r.2.1 + 1) (by decide) (by omega) (by show 10 * (C - (r.2.1 + 1)) + 2 + 1 ≤ f; omega)
            by_cases g0 : s.1 = 0
            · obtain ⟨b1, b2, b3, b4, b5, b6⟩ := s2.1 g0
              rw [t_bd_0 s1 g0]
              refine ⟨_, rfl, fun _ => ⟨by show j ≤ s.2.1; omega, fun _ => by show j < s.2.1; omega, b3, ?_, ?_, fun t => ?_⟩, fun z => absurd rfl z⟩
              · show (r.2.2 ++ (s.2.2 ++ [(v, 0)])).length + j ≤ s.2.1
                rw [List.length_append, List.length_append]; show r.2.2.length + (s.2.2.length + 1) + j ≤ s.2.1; omega
              · intro y hy
                rcases List.mem_append.mp hy with q | q
                · exact a5 y q
                · rcases List.mem_append.mp q with q | q
                  · exact b5 y q
                  · rw [List.mem_singleton.mp q]; exact ⟨by show v ≤ 22; omega, Nat.zero_le _⟩
              · show t_lt L (r.2.2 ++ (s.2.2 ++ [(v, 0)])) (0, t) = some (0, t + 1)
                rw [t_lt_app L _ _ _ _ (a6 0 t), t_ty_i (b6 1 t) (t_qr L t v ⟨v1, v2⟩)]
                rfl
            · rw [t_bd_1 s1 g0]
              exact ⟨_, rfl, t_G_f g0 (s2.2 g0).2 (s2.2 g0).1⟩
        · rw [t_bd_1 r1 h0]
          exact ⟨_, rfl, t_G_f h0 (r2.2 h0).2 (r2.2 h0).1⟩
    | 6, _, hf =>
      have hf' : 10 * (C - j) + 4 + 1 ≤ f + 1 := hf
      refine t_seq1 (mA := 5) (mB := 7) (ih 5 d j (by decide) hj (by show 10 * (C - j) + 3 + 1 ≤ f; omega)) rfl (fun j1 g1 g2 => ih 7 d j1 (by decide) g2 (by show 10 * (C - j1) + 0 + 1 ≤ f; omega)) (fun c1 c2 h1 h2 t => ?_)
      rw [t_lt_app L c1 c2 _ _ (h1 t)]; exact h2 t
    | 7, _, hf =>
      have hf' : 10 * (C - j) + 0 + 1 ≤ f + 1 := hf
      show ∃ r, (if tk j = 223 then _ else _) = some r ∧ _
      by_cases z : tk j = 223
      · rw [if_pos z]
        have hjC : j < C := ne hj (by rw [z]; decide)
        refine t_seq2 (mA := 5) (mB := 7) (by decide) (ih 5 d (j + 1) (by decide) (by omega) (by show 10 * (C - (j + 1)) + 3 + 1 ≤ f; omega)) rfl (fun j1 g1 g2 => ih 7 d j1 (by decide) g2 (by show 10 * (C - j1) + 0 + 1 ≤ f; omega)) (fun c1 c2 h1 h2 t => ?_)
        rw [t_ty_i (h1 (t + 1)) (t_q21 L t 21 (Or.inl rfl))]; exact h2 t
      · rw [if_neg z]
        exact ⟨_, rfl, fun _ => ⟨Nat.le_refl _, fun q => (by cases q), hj, by show 0 + j ≤ j; omega, fun x hx => absurd hx List.not_mem_nil, fun t => rfl⟩, fun z => absurd rfl z⟩
    | 8, _, hf =>
      have hf' : 10 * (C - j) + 5 + 1 ≤ f + 1 := hf
      refine t_seq1 (mA := 6) (mB := 9) (ih 6 d j (by decide) hj (by show 10 * (C - j) + 4 + 1 ≤ f; omega)) rfl (fun j1 g1 g2 => ih 9 d j1 (by decide) g2 (by show 10 * (C - j1) + 0 + 1 ≤ f; omega)) (fun c1 c2 h1 h2 t => ?_)
      rw [t_lt_app L c1 c2 _ _ (h1 t)]; exact h2 t
    | 9, _, hf =>
      have hf' : 10 * (C - j) + 0 + 1 ≤ f + 1 := hf
      show ∃ r, (if tk j = 222 then _ else _) = some r ∧ _
      by_cases z : tk j = 222
      · rw [if_pos z]
        have hjC : j < C := ne hj (by rw [z]; decide)
        refine t_seq2 (mA := 6) (mB := 9) (by decide) (ih 6 d (j + 1) (by decide) (by omega) (by show 10 * (C - (j + 1)) + 4 + 1 ≤ f; omega)) rfl (fun j1 g1 g2 => ih 9 d j1 (by decide) g2 (by show 10 * (C - j1) + 0 + 1 ≤ f; omega)) (fun c1 c2 h1 h2 t => ?_)
        rw [t_ty_i (h1 (t + 1)) (t_q21 L t 22 (Or.inr rfl))]; exact h2 t
      · rw [if_neg z]
        exact ⟨_, rfl, fun _ => ⟨Nat.le_refl _, fun q => (by cases q), hj, by show 0 + j ≤ j; omega, fun x hx => absurd hx List.not_mem_nil, fun t => rfl⟩, fun z => absurd rfl z⟩
    | _ + 10, hm, _ => omega
end
