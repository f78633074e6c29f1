/-! WHAT READING MEANS: from token j on, with d open, by a mode: 0 one, 1 a product, 2 its rest, 3 a sum, 4 its rest, 5 an asking, 6 askings with and, 7 their rest, 8 all askings, 9 their rest. (fault, token, codes) -/
abbrev t_R : Type := Nat × Nat × List (Nat × Nat)
def t_bd (x : Option t_R) (k : Nat → List (Nat × Nat) → Option t_R) : Option t_R := match x with
  | none => none
  | some r => if r.1 = 0 then k r.2.1 r.2.2 else some (r.1, r.2.1, [])
def t_oc (c : Int32) : Nat := if c = 43 then 3 else if c = 45 then 4 else if c = 42 then 5 else 6
def t_S (tk : Nat → Int32) (L : Nat) : Nat → Nat → Nat → Nat → Option t_R
  | 0, _, _, _ => none
  | f + 1, m, d, j => match m with
    | 0 =>
      if 300 ≤ tk j then (if tk j = 10300 then some (2, j, []) else some (0, j + 1, [(0, (tk j).toNatClampNeg - 300)]))
      else if 200 ≤ tk j ∧ tk j < 214 then (if q_nmok L ((tk j).toNatClampNeg - 200) = true then some (0, j + 1, [(1, (tk j).toNatClampNeg - 200)]) else some (5, j, []))
      else if tk j = 40 then (if 8 ≤ d then some (3, j, []) else t_bd (t_S tk L f 3 (d + 1) (j + 1)) (fun j1 c1 => if tk j1 = 41 then some (0, j1 + 1, c1) else some (1, j1, [])))
      else if tk j = 45 then (if 8 ≤ d then some (3, j, []) else t_bd (t_S tk L f 0 (d + 1) (j + 1)) (fun j1 c1 => some (0, j1, c1 ++ [(2, 0)])))
      else some (1, j, [])
    | 1 => t_bd (t_S tk L f 0 d j) (fun j1 c1 => t_bd (t_S tk L f 2 d j1) (fun j2 c2 => some (0, j2, c1 ++ c2)))
    | 2 => if tk j = 42 ∨ tk j = 47 then t_bd (t_S tk L f 0 d (j + 1)) (fun j1 c1 => t_bd (t_S tk L f 2 d j1) (fun j2 c2 => some (0, j2, c1 ++ (t_oc (tk j), 0) :: c2))) else some (0, j, [])
    | 3 => t_bd (t_S tk L f 1 d j) (fun j1 c1 => t_bd (t_S tk L f 4 d j1) (fun j2 c2 => some (0, j2, c1 ++ c2)))
    | 4 => if tk j = 43 ∨ tk j = 45 then t_bd (t_S tk L f 1 d (j + 1)) (fun j1 c1 => t_bd (t_S tk L f 4 d j1) (fun j2 c2 => some (0, j2, c1 ++ (t_oc (tk j), 0) :: c2))) else some (0, j, [])
    | 5 =>
      if tk j = 224 then (if 8 ≤ d then some (3, j, []) else t_bd (t_S tk L f 5 (d + 1) (j + 1)) (fun j1 c1 => some (0, j1, c1 ++ [(20, 0)])))
      else t_bd (t_S tk L f 3 d j) (fun j1 c1 => if t_rc (tk j1) < 0 then some (1, j1, []) else t_bd (t_S tk L f 3 d (j1 + 1)) (fun j2 c2 => some (0, j2, c1 ++ (c2 ++ [((t_rc (tk j1)).toNatClampNeg, 0)]))))
    | 6 => t_bd (t_S tk L f 5 d j) (fun j1 c1 => t_bd (t_S tk L f 7 d j1) (fun j2 c2 => some (0, j2, c1 ++ c2)))
    | 7 => if tk j = 223 then t_bd (t_S tk L f 5 d (j + 1)) (fun j1 c1 => t_bd (t_S tk L f 7 d j1) (fun j2 c2 => some (0, j2, c1 ++ (21, 0) :: c2))) else some (0, j, [])
    | 8 => t_bd (t_S tk L f 6 d j) (fun j1 c1 => t_bd (t_S tk L f 9 d j1) (fun j2 c2 => some (0, j2, c1 ++ c2)))
    | _ => if tk j = 222 then t_bd (t_S tk L f 6 d (j + 1)) (fun j1 c1 => t_bd (t_S tk L f 9 d j1) (fun j2 c2 => some (0, j2, c1 ++ (22, 0) :: c2))) else some (0, j, [])
/-- how codes move the counts -/
def t_lt (L : Nat) : List (Nat × Nat) → Nat × Nat → Option (Nat × Nat)
  | [], s => some s
  | x :: r, s => match q_tq L (nI x.1) (nI x.2) s.1 s.2 with
    | none => none
    | some s' => t_lt L r s'
theorem t_lt_app (L : Nat) : ∀ (a b : List (Nat × Nat)) (s s' : Nat × Nat), t_lt L a s = some s' → t_lt L (a ++ b) s = t_lt L b s' := by
  intro a
  induction a with
  | nil => intro b s s' h; rw [Option.some.inj h]; rfl
  | cons x a ih =>
    intro b s s' h
    unfold t_lt at h
    show (match q_tq L (nI x.1) (nI x.2) s.1 s.2 with | none => none | some s' => t_lt L (a ++ b) s') = _
    cases hq : q_tq L (nI x.1) (nI x.2) s.1 s.2 with
    | none => rw [hq] at h; exact absurd h (fun q => by cases q)
    | some s2 => rw [hq] at h; exact ih b s2 s' h
def t_rk (m : Nat) : Nat := match m with
  | 1 => 1
  | 3 => 2
  | 5 => 3
  | 6 => 4
  | 8 => 5
  | _ => 0
def t_lo (m : Nat) : Bool := match m with
  | 2 => true
  | 4 => true
  | 7 => true
  | 9 => true
  | _ => false
def t_ty (L m : Nat) (cs : List (Nat × Nat)) : Prop := match m with
  | 0 => ∀ n t, t_lt L cs (n, t) = some (n + 1, t)
  | 1 => ∀ n t, t_lt L cs (n, t) = some (n + 1, t)
  | 2 => ∀ n t, t_lt L cs (n + 1, t) = some (n + 1, t)
  | 3 => ∀ n t, t_lt L cs (n, t) = some (n + 1, t)
  | 4 => ∀ n t, t_lt L cs (n + 1, t) = some (n + 1, t)
  | 5 => ∀ t, t_lt L cs (0, t) = some (0, t + 1)
  | 6 => ∀ t, t_lt L cs (0, t) = some (0, t + 1)
  | 7 => ∀ t, t_lt L cs (0, t + 1) = some (0, t + 1)
  | 8 => ∀ t, t_lt L cs (0, t) = some (0, t + 1)
  | _ => ∀ t, t_lt L cs (0, t + 1) = some (0, t + 1)
/-- a good result of mode m from j on -/
def t_G (L C m j : Nat) (r : t_R) : Prop := (r.1 = 0 → j ≤ r.2.1 ∧ (t_lo m = false → j < r.2.1) ∧ r.2.1 ≤ C ∧ r.2.2.length + j ≤ r.2.1 ∧ (∀ x, x ∈ r.2.2 → x.1 ≤ 22 ∧ x.2 ≤ 9999) ∧ t_ty L m r.2.2) ∧ (¬ r.1 = 0 → r.2.1 ≤ C ∧ r.1 ≤ 6)
theorem t_G_f {L C m j f p : Nat} (hf : ¬ f = 0) (h6 : f ≤ 6) (hp : p ≤ C) : t_G L C m j (f, p, []) := ⟨fun e => absurd e hf, fun _ => ⟨hp, h6⟩⟩
theorem t_bd_0 {x : Option t_R} {r : t_R} {k : Nat → List (Nat × Nat) → Option t_R} (hx : x = some r) (h : r.1 = 0) : t_bd x k = k r.2.1 r.2.2 := by
  rw [hx]
  show (if r.1 = 0 then k r.2.1 r.2.2 else some (r.1, r.2.1, [])) = _
  rw [if_pos h]
theorem t_bd_1 {x : Option t_R} {r : t_R} {k : Nat → List (Nat × Nat) → Option t_R} (hx : x = some r) (h : ¬ r.1 = 0) : t_bd x k = some (r.1, r.2.1, []) := by
  rw [hx]
  show (if r.1 = 0 then k r.2.1 r.2.2 else some (r.1, r.2.1, [])) = _
  rw [if_neg h]
theorem t_q2 (L n t : Nat) : q_tq L (nI 2) (nI 0) (n + 1) t = some (n + 1, t) := by
  unfold q_tq
  rw [if_neg (by decide), if_neg (by decide), if_pos (by decide), if_pos (by omega)]
theorem t_qo (L : Nat) (c : Int32) (n t : Nat) : q_tq L (nI (t_oc c)) (nI 0) (n + 2) t = some (n + 1, t) := by
  have h : t_oc c = 3 ∨ t_oc c = 4 ∨ t_oc c = 5 ∨ t_oc c = 6 := by
    unfold t_oc
    by_cases h1 : c = 43
    · rw [if_pos h1]; omega
    · rw [if_neg h1]
      by_cases h2 : c = 45
      · rw [if_pos h2]; omega
      · rw [if_neg h2]
        by_cases h3 : c = 42
        · rw [if_pos h3]; omega
        · rw [if_neg h3]; omega
  rcases h with e | e | e | e <;> (rw [e]; unfold q_tq; rw [if_neg (by decide), if_neg (by decide), if_neg (by decide), if_pos (by decide), if_pos (by omega)]; rfl)
theorem t_oc_l (c : Int32) : t_oc c ≤ 22 := by
  unfold t_oc
  by_cases h1 : c = 43
  · rw [if_pos h1]; omega
  · rw [if_neg h1]
    by_cases h2 : c = 45
    · rw [if_pos h2]; omega
    · rw [if_neg h2]
      by_cases h3 : c = 42
      · rw [if_pos h3]; omega
      · rw [if_neg h3]; omega
theorem t_q20 (L t : Nat) : q_tq L (nI 20) (nI 0) 0 (t + 1) = some (0, t + 1) := by
  unfold q_tq
  rw [if_neg (by decide), if_neg (by decide), if_neg (by decide), if_neg (by decide), if_neg (by decide), if_pos (by decide), if_pos (by omega)]
theorem t_q21 (L t x : Nat) (hx : x = 21 ∨ x = 22) : q_tq L (nI x) (nI 0) 0 (t + 2) = some (0, t + 1) := by
  rcases hx with e | e <;> (rw [e]; unfold q_tq; rw [if_neg (by decide), if_neg (by decide), if_neg (by decide), if_neg (by decide), if_neg (by decide), if_neg (by decide), if_pos (by decide), if_pos (by omega)]; rfl)
theorem t_rc_v (c : Int32) (h : ¬ t_rc c < 0) : ∃ r, 10 ≤ r ∧ r ≤ 15 ∧ t_rc c = nI r := by
  unfold t_rc at *
  by_cases h1 : c = 60
  · rw [if_pos h1]; exact ⟨10, by decide, by decide, rfl⟩
  · rw [if_neg h1] at h ⊢
    by_cases h2 : c = 128
    · rw [if_pos h2]; exact ⟨11, by decide, by decide, rfl⟩
    · rw [if_neg h2] at h ⊢
      by_cases h3 : c = 62
      · rw [if_pos h3]; exact ⟨12, by decide, by decide, rfl⟩
      · rw [if_neg h3] at h ⊢
        by_cases h4 : c = 129
        · rw [if_pos h4]; exact ⟨13, by decide, by decide, rfl⟩
        · rw [if_neg h4] at h ⊢
          by_cases h5 : c = 61
          · rw [if_pos h5]; exact ⟨14, by decide, by decide, rfl⟩
          · rw [if_neg h5] at h ⊢
            by_cases h6 : c = 35
            · rw [if_pos h6]; exact ⟨15, by decide, by decide, rfl⟩
            · rw [if_neg h6] at h
              exact absurd (show (-1 : Int32) < 0 by decide) h
theorem t_qr (L t r : Nat) (h : 10 ≤ r ∧ r ≤ 15) : q_tq L (nI r) (nI 0) 2 t = some (0, t + 1) := by
  have hs : r = 10 ∨ r = 11 ∨ r = 12 ∨ r = 13 ∨ r = 14 ∨ r = 15 := by omega
  rcases hs with e | e | e | e | e | e <;> (rw [e]; unfold q_tq; rw [if_neg (by decide), if_neg (by decide), if_neg (by decide), if_neg (by decide), if_pos (by decide), if_pos rfl])
