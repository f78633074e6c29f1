theorem t_leN {x : Int32} (h : t_le x) : ∃ v, 65 ≤ v ∧ v ≤ 122 ∧ x = nI v := by
  have h1 : (65 : Int32) ≤ x ∧ x ≤ 122 := by
    rcases h with ⟨a, b⟩ | ⟨a, b⟩
    · refine ⟨?_, b⟩
      rw [fa_le, show (97 : Int32).toInt = 97 by decide] at a
      rw [fa_le, show (65 : Int32).toInt = 65 by decide]; omega
    · refine ⟨a, ?_⟩
      rw [fa_le, show (90 : Int32).toInt = 90 by decide] at b
      rw [fa_le, show (122 : Int32).toInt = 122 by decide]; omega
  obtain ⟨j, h3, h2⟩ := nI_of2 (x := x) (M := 122) (n := 122) rfl (q_not_lt (by
    have := (fa_le _ _).mp h1.1
    rw [show (65 : Int32).toInt = 65 by decide] at this
    rw [fa_le, show (0 : Int32).toInt = 0 by decide]; omega)) h1.2
  have h4 := h1.1
  rw [h2, show (65 : Int32) = nI 65 from rfl, nI_leI (by decide) (by omega)] at h4
  exact ⟨j, h4, h3, h2⟩
def t_rok (bt : Nat → Int32) (p e : Nat) : Option (List Nat) → Prop
  | none => True
  | some r => r.length ≤ e - p ∧ r = t_lst bt r.length (e - r.length)
def t_run : List Nat → Option (List Nat) → Option (List Nat)
  | [], o => o
  | x :: w, o => t_run w (t_stp x o)
theorem t_run_none : ∀ w, t_run w none = none := by
  intro w
  induction w with
  | nil => rfl
  | cons x w ih => exact ih
theorem t_run_eq : ∀ (w L : List Nat), t_run w (some L) = some [] ↔ L = w := by
  intro w
  induction w with
  | nil => intro L; exact ⟨fun h => Option.some.inj h, fun h => by rw [h]; rfl⟩
  | cons x w ih =>
    intro L
    cases L with
    | nil =>
      show t_run w none = some [] ↔ _
      rw [t_run_none]
      exact ⟨fun h => (by cases h), fun h => (by cases h)⟩
    | cons y r =>
      show t_run w (if y = x then some r else none) = some [] ↔ _
      by_cases e : y = x
      · rw [if_pos e, ih r, e]
        exact ⟨fun h => by rw [h], fun h => (List.cons.inj h).2⟩
      · rw [if_neg e, t_run_none]
        exact ⟨fun h => (by cases h), fun h => absurd (List.cons.inj h).1 e⟩
theorem t_rok_stp {bt : Nat → Int32} {p e x : Nat} (he : p ≤ e) {o : Option (List Nat)} (h : t_rok bt p e o) : t_rok bt p e (t_stp x o) := by
  match o, h with
  | none, _ => exact True.intro
  | some [], _ => exact True.intro
  | some (y :: r), h =>
    show t_rok bt p e (if y = x then some r else none)
    by_cases q : y = x
    · rw [if_pos q]
      obtain ⟨h1, h2⟩ := h
      have h1' : r.length + 1 ≤ e - p := h1
      refine ⟨by omega, ?_⟩
      have h2' : y :: r = (bt (e - (r.length + 1))).toNatClampNeg :: t_lst bt r.length (e - (r.length + 1) + 1) := h2
      have := (List.cons.inj h2').2
      rw [show e - (r.length + 1) + 1 = e - r.length by omega] at this
      exact this
    · rw [if_neg q]; exact True.intro
section
variable {d n sl : Nat} {ln : Nat → Nat} {di : Nat → Nat → Int32} {dl : Nat → Nat → Int64} {dr : Nat → Nat → Option Nat} {Q : Option Value → q_H → Prop} {N : Nat} {bt : Nat → Int32}
/-- letters of one word passed by -/
theorem c_wd8 {p e k : Nat} (hN : N ≤ 300) (h3 : di 40 3 = nI N) (hb : ∀ i, i < N → di 41 i &&& 255 = bt i) (hg : q_Gr n ln dr) (he : e ≤ N) (hpe : p ≤ e) (hl : ∀ i, p ≤ i → i < e → t_le (bt i)) : ∀ (w : List Nat) (i : Nat) (o : Option (List Nat)), i + w.length ≤ 134 → (∀ x, x ∈ w → x < 128 ∧ ¬ x = 32) → (∀ (j : Nat), j < w.length → di 5 (i + j) = nI (w.getD j 0)) → t_rok bt p e o →
    q_EX q_KD (d + 4) 29 8 [.ref 40, .int (nI p), .int (nI e), .int (nI k), .int (t_pos e (t_run w o)), .int (nI (i + w.length)), .retAddr 0] [] (n, sl, ln, di, dl, dr) Q →
    q_EX q_KD (d + 4) 29 8 [.ref 40, .int (nI p), .int (nI e), .int (nI k), .int (t_pos e o), .int (nI i), .retAddr 0] [] (n, sl, ln, di, dl, dr) Q := by
  intro w
  induction w with
  | nil => intro i o _ _ _ _ kk; exact kk
  | cons x w ih =>
    intro i o hi hw h5 ho kk
    have hi' : i + (w.length + 1) ≤ 134 := hi
    obtain ⟨x1, x2⟩ := hw x (List.mem_cons_self ..)
    have hx : di 5 i = nI x := h5 0 (Nat.succ_pos _)
    have next : q_EX q_KD (d + 4) 29 8 [.ref 40, .int (nI p), .int (nI e), .int (nI k), .int (t_pos e (t_stp x o)), .int (nI (i + 1)), .retAddr 0] [] (n, sl, ln, di, dl, dr) Q := by
      refine ih (i + 1) (t_stp x o) (by omega) (fun y hy => hw y (List.mem_cons_of_mem _ hy)) (fun j hj => ?_) (t_rok_stp hpe ho) ?_
      · have := h5 (j + 1) (by show j + 1 < w.length + 1; omega)
        rw [show i + 1 + j = i + (j + 1) by omega, this]
        rfl
      · rw [show i + 1 + w.length = i + (w.length + 1) by omega]
        exact kk
    have nx32 : ¬ nI x = 32 := fun z => x2 ((nI_eq (b := 32) (by omega) (by decide)).mp z)
    refine g29_8 hg (c_slen (d := d + 2) hg (g29_15 hg (fun z => absurd ((nI_leI (a := 134) (b := i) (by decide) (by omega)).mp z) (by omega)) (fun _ => c_char (d := d) (by omega) x1 hx hg ?_)))
    match o, ho, next with
    | none, _, next =>
      exact g29_25 hg (fun _ _ => by rw [nI_1]; exact next) (fun _ z => absurd rfl z) (fun _ z => absurd rfl z) (fun z => absurd z nx32) (fun z => absurd z nx32)
    | some [], _, next =>
      have hne : ¬ nI (e - 0) = -1 := w_neg1 (by omega)
      exact g29_25 hg (fun _ z => absurd z hne) (fun _ _ _ => by rw [nI_1]; exact next) (fun _ _ z => absurd z (nI_nlt (Nat.le_refl _) (by omega))) (fun z => absurd z nx32) (fun z => absurd z nx32)
    | some (y :: r), ho, next =>
      obtain ⟨ho1, ho2⟩ := ho
      have ho1' : r.length + 1 ≤ e - p := ho1
      have ho2' : y :: r = (bt (e - (r.length + 1))).toNatClampNeg :: t_lst bt r.length (e - (r.length + 1) + 1) := ho2
      have hy := (List.cons.inj ho2').1
      have hlt : e - (r.length + 1) < e := by omega
      obtain ⟨v, v1, v2, v3⟩ := t_leN (hl (e - (r.length + 1)) (by omega) hlt)
      have hyv : y = v := by rw [hy, v3, nI_clamp (by omega)]
      have hne : ¬ nI (e - (r.length + 1)) = -1 := w_neg1 (by omega)
      have hby : t_by N bt (e - (r.length + 1)) = nI v := by unfold t_by; rw [if_pos (by omega)]; exact v3
      refine g29_25 hg (fun _ z => absurd z hne) (fun _ _ z => absurd z (nI_ge hlt (by omega))) (fun _ _ _ => c_sign hN (by omega) h3 hb hg (g29_73 hg (fun z => ?_) (fun z => ?_))) (fun z => absurd z nx32) (fun z => absurd z nx32)
      · have hyx : ¬ y = x := fun q => z (hby.trans (by rw [← q, hyv]))
        rw [nI_1]
        have en : t_stp x (some (y :: r)) = none := by show (if y = x then some r else none) = none; rw [if_neg hyx]
        rw [en] at next
        exact next
      · have hyx : y = x := by rw [hyv]; exact (nI_eq (by omega) (by omega)).mp (hby.symm.trans z)
        rw [nI_1]
        have en : t_stp x (some (y :: r)) = some r := by show (if y = x then some r else none) = some r; rw [if_pos hyx]
        rw [en] at next
        have ep : nI (e - (r.length + 1)) + 1 = nI (e - r.length) := by rw [nI_1]; congr 1; omega
        show q_EX q_KD (d + 4) 29 8 [.ref 40, .int (nI p), .int (nI e), .int (nI k), .int (nI (e - (r.length + 1)) + 1), .int (nI (i + 1)), .retAddr 0] [] (n, sl, ln, di, dl, dr) Q
        rw [ep]
        exact next
theorem t_at_w {f : Nat → Int32} : ∀ (w : List Nat) (i : Nat) (r : List Nat), t_at f i (w ++ r) → (∀ j, j < w.length → f (i + j) = nI (w.getD j 0)) ∧ t_at f (i + w.length) r := by
  intro w
  induction w with
  | nil => intro i r h; exact ⟨fun j hj => absurd hj (Nat.not_lt_zero j), h⟩
  | cons x w ih =>
    intro i r h
    obtain ⟨h1, h2⟩ := h
    obtain ⟨g1, g2⟩ := ih (i + 1) r h2
    refine ⟨fun j hj => ?_, ?_⟩
    · cases j with
      | zero => exact h1
      | succ j =>
        have hj' : j + 1 < w.length + 1 := hj
        have := g1 j (by omega)
        rw [show i + (j + 1) = i + 1 + j by omega, this]
        rfl
    · rw [show i + (x :: w).length = i + 1 + w.length by simp only [List.length_cons]; omega]
      exact g2
/-- Tokens.word: over the words that are left -/
theorem c_wds {p e : Nat} (hN : N ≤ 300) (h3 : di 40 3 = nI N) (hb : ∀ i, i < N → di 41 i &&& 255 = bt i) (hg : q_Gr n ln dr) (he : e ≤ N) (hpe : p ≤ e) (hl : ∀ i, p ≤ i → i < e → t_le (bt i)) : ∀ (ws : List (List Nat)) (k i : Nat), i + (t_fl ws).length = 134 → t_at (di 5) i (t_fl ws) → (∀ w, w ∈ ws → ∀ x, x ∈ w → x < 128 ∧ ¬ x = 32) →
    Q (some (.int (t_wk (t_lst bt (e - p) p) ws k))) (n, sl, ln, di, dl, dr) →
    q_EX q_KD (d + 4) 29 8 [.ref 40, .int (nI p), .int (nI e), .int (nI k), .int (nI p), .int (nI i), .retAddr 0] [] (n, sl, ln, di, dl, dr) Q := by
  intro ws
  induction ws with
  | nil =>
    intro k i hi _ _ kk
    have hi' : i = 134 := hi
    subst hi'
    exact g29_8 hg (c_slen (d := d + 2) hg (g29_15 hg (fun _ => kk) (fun z => absurd z (by decide))))
  | cons w ws ih =>
    intro k i hi h5 hok kk
    have hfl : t_fl (w :: ws) = w ++ 32 :: t_fl ws := rfl
    rw [hfl] at h5 hi
    rw [List.length_append, List.length_cons] at hi
    obtain ⟨g1, g2, g3⟩ := t_at_w w i (32 :: t_fl ws) h5
    have hr0 : t_rok bt p e (some (t_lst bt (e - p) p)) := by
      refine ⟨by rw [t_lst_len]; omega, ?_⟩
      rw [t_lst_len, show e - (e - p) = p by omega]
    have hp0 : t_pos e (some (t_lst bt (e - p) p)) = nI p := by
      show nI (e - (t_lst bt (e - p) p).length) = nI p
      rw [t_lst_len, show e - (e - p) = p by omega]
    have st := c_wd8 (d := d) (sl := sl) (dl := dl) (Q := Q) (k := k) hN h3 hb hg he hpe hl w i (some (t_lst bt (e - p) p)) (by omega) (hok w (List.mem_cons_self ..)) g1 hr0 ?_
    · rw [hp0] at st
      exact st
    have hq := t_run_eq w (t_lst bt (e - p) p)
    obtain ⟨o, hO⟩ : ∃ o, o = t_run w (some (t_lst bt (e - p) p)) := ⟨_, rfl⟩
    rw [← hO] at hq ⊢
    have hro : t_rok bt p e o := by
      rw [hO]
      have : ∀ (w : List Nat) (o : Option (List Nat)), t_rok bt p e o → t_rok bt p e (t_run w o) := by
        intro w
        induction w with
        | nil => intro o h; exact h
        | cons x w ih => intro o h; exact ih _ (t_rok_stp hpe h)
      exact this w _ hr0
    unfold t_wk at kk
    refine g29_8 hg (c_slen (d := d + 2) hg (g29_15 hg (fun z => absurd ((nI_leI (a := 134) (b := i + w.length) (by decide) (by omega)).mp z) (by omega)) (fun _ => c_char (d := d) (b := 32) (by omega) (by decide) g2 hg ?_)))
    have cont : ¬ t_lst bt (e - p) p = w → q_EX q_KD (d + 4) 29 8 [.ref 40, .int (nI p), .int (nI e), .int (nI k + 1), .int (nI p), .int (nI (i + w.length) + 1), .retAddr 0] [] (n, sl, ln, di, dl, dr) Q := fun hne => by
      rw [if_neg hne] at kk
      rw [nI_1, nI_1]
      exact ih (k + 1) (i + w.length + 1) (by omega) g3 (fun v hv => hok v (List.mem_cons_of_mem _ hv)) kk
    refine g29_25 hg (fun z => absurd rfl z) (fun z => absurd rfl z) (fun z => absurd rfl z) (fun _ z => ?_) (fun _ z => ?_)
    · refine cont (fun y => z ?_)
      rw [hq.mpr y]
      rfl
    · have hs : o = some [] := by
        match o, hro, z with
        | none, _, z => exact absurd z.symm (w_neg1 (by omega))
        | some [], _, _ => rfl
        | some (y :: r), hro, z =>
          have h1 : r.length + 1 ≤ e - p := hro.1
          have h2 : e - (r.length + 1) = e := (nI_eq (by omega) (by omega)).mp z
          omega
      rw [if_pos (hq.mp hs)] at kk
      have e2 : (200 : Int32) + nI k = nI (200 + k) := by rw [show (200 : Int32) = nI 200 from rfl, nI_add]
      rw [e2]; exact kk
theorem c_word {p e : Nat} (hN : N ≤ 300) (h3 : di 40 3 = nI N) (hb : ∀ i, i < N → di 41 i &&& 255 = bt i) (h5 : ∀ i, i < 134 → di 5 i = q_byt.getD i 0) (hg : q_Gr n ln dr) (he : e ≤ N) (hpe : p ≤ e) (hl : ∀ i, p ≤ i → i < e → t_le (bt i)) (kk : Q (some (.int (t_wd (t_lst bt (e - p) p)))) (n, sl, ln, di, dl, dr)) : q_EX q_KD (d + 4) 29 0 [.ref 40, .int (nI p), .int (nI e), .retAddr 0, .retAddr 0, .retAddr 0, .retAddr 0] [] (n, sl, ln, di, dl, dr) Q :=
  g29_0 hg (c_wds (d := d) hN h3 hb hg he hpe hl t_wds 0 0 (by rw [t_flL]) (t_at5 h5) t_flok kk)
end
