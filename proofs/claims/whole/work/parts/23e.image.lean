/-! image and back -/
theorem w_Gr16 {n : Nat} {ln : Nat → Nat} {dr : Nat → Nat → Option Nat} {i : Nat} {v : Option Nat} (h : q_Gr n ln dr) : q_Gr n ln (q_u dr 16 i v) := by
  refine ⟨h.1, h.2.1, fun k j b hb => ?_, fun s j hs hj => ?_⟩
  · by_cases e : k = 16
    · subst e; exact absurd hb (by show ¬ (none : Option Nat) = some b; intro z; cases z)
    · rw [q_uR e]; exact h.2.2.1 k j b hb
  · have := hs.1
    rw [q_uR (by omega)]; exact h.2.2.2 s j hs hj
theorem w_Gr32 {n : Nat} {ln : Nat → Nat} {dr : Nat → Nat → Option Nat} {i : Nat} {v : Option Nat} (h : q_Gr n ln dr) : q_Gr n ln (q_u dr 32 i v) := by
  refine ⟨h.1, h.2.1, fun k j b hb => ?_, fun s j hs hj => ?_⟩
  · by_cases e : k = 32
    · subst e; exact absurd hb (by show ¬ (none : Option Nat) = some b; intro z; cases z)
    · rw [q_uR e]; exact h.2.2.1 k j b hb
  · have := hs.1
    rw [q_uR (by omega)]; exact h.2.2.2 s j hs hj
/-- one house is as another where it is read -/
theorem w_RH_cp {n : Nat} {ln : Nat → Nat} {di di' : Nat → Nat → Int32} {h h' w w' s s' c c' st st' pd pd' so so' po po' se se' r17 q17 r18 q18 r19 q19 r20 q20 r21 q21 r22 q22 : Nat → Int32} {sc sc' : Nat → Option Nat} {a a' tx : Nat → Int32} {P L T S K : Nat} (b : q_RH n ln di h w s c st pd so po se r17 r18 r19 r20 r21 r22 sc a tx P L T S K)
    (eh : ∀ i, 10 ≤ i → i < 18 → h' i = h i) (ew : ∀ j, j < 6 → w' j = w j) (es : ∀ j, j < 6 → s' j = s j) (ec : ∀ j, j < 6 → c' j = c j) (est : ∀ j, j < 6 → st' j = st j) (epd : ∀ j, j < 6 → pd' j = pd j) (eso : ∀ j, j < 10 → so' j = so j) (epo : ∀ j, j < 10 → po' j = po j) (ese : ∀ j, j < 10 → se' j = se j) (e17a : q17 5 = r17 5) (e17b : q17 6 = r17 6) (e18 : ∀ i, i < 180 → q18 i = r18 i) (e19 : ∀ i, i < 180 → q19 i = r19 i) (e20 : ∀ i, i < 30 → q20 i = r20 i) (e21 : ∀ i, i < 30 → q21 i = r21 i) (e22 : ∀ i, i < 30 → q22 i = r22 i) (esc : ∀ t, t < 4 → sc' t = sc t) (ea : ∀ i, i < 706 → a' i = a i) (hd : ∀ k, 84 ≤ k → di' k = di k) :
    q_RH n ln di' h' w' s' c' st' pd' so' po' se' q17 q18 q19 q20 q21 q22 sc' a' tx P L T S K := by
  obtain ⟨c1, c2, c3, c4, c5, c6, c7, c8, c9, c10, c11⟩ := b
  have hS := c1.2.2.2.1
  have hT := c1.2.2.1
  refine ⟨q_Ic_cg c1 (fun i hi => ea i (by omega)), q_Ip_cg c2 (fun i _ h2 => ea i (by omega)), q_Il_cg c3 (fun i _ h2 => ea i (by omega)), q_Is_cg c4 hS (fun i _ h2 => ea i h2), ?_, fun j hj => ?_, ?_, fun l hl => ?_, fun l hl => ?_, ?_, ⟨fun t ht => ?_, fun t z ht hz => ?_⟩⟩
  · unfold q_Co at *
    rw [eh 10 (by decide) (by decide), eh 12 (by decide) (by decide), eh 17 (by decide) (by decide), eh 16 (by decide) (by decide), eh 14 (by decide) (by decide), eh 15 (by decide) (by decide), eh 13 (by decide) (by decide), ea 0 (by decide), ea 1 (by decide), ea 2 (by decide), ea 3 (by decide), ea 4 (by decide), ea 5 (by decide), ea 7 (by decide)]
    exact c5
  · rw [ew j hj, es j hj, ec j hj, est j hj, epd j hj, ea _ (by omega), ea _ (by omega), ea _ (by omega), ea _ (by omega), ea _ (by omega)]
    exact c6 j hj
  · rw [eh 11 (by decide) (by decide)]
    exact q_sb_cg c7 (fun j hj => ea _ (by omega))
  · rw [eso l hl, epo l hl, ea _ (by omega), ea _ (by omega)]; exact c8 l hl
  · rw [ese l hl, ea _ (by omega)]; exact c9 l hl
  · obtain ⟨o, o1, o2, o3, o4⟩ := c10
    refine ⟨o, o1, e17a.trans o2, e17b.trans o3, fun x hx => ?_⟩
    have hq : (o + x) % 30 < 30 := Nat.mod_lt _ (by decide)
    have h1 := q_S1_cg (a' := a') (o4 x hx) (fun i hi => ea _ (by omega))
    obtain ⟨g1, g2, g3, g4⟩ := h1
    refine ⟨fun j hj => ?_, ?_, ?_, ?_⟩
    · rw [e18 _ (by omega), e19 _ (by omega)]; exact g1 j hj
    · rw [e20 _ hq]; exact g2
    · rw [e21 _ hq]; exact g3
    · rw [e22 _ hq]; exact g4
  · obtain ⟨z, z1, z2, z3⟩ := c11.1 t ht
    exact ⟨z, (esc t (by omega)).trans z1, z2, q_TX_cg z3 z2.1 hd⟩
  · exact c11.2 t z ht ((esc t ht).symm.trans hz)
section
variable {c d n sl : Nat} {ln : Nat → Nat} {di : Nat → Nat → Int32} {dl : Nat → Nat → Int64} {dr : Nat → Nat → Option Nat} {Q : Option Value → q_H → Prop}
theorem c_cpb122 (hs : ∀ t z, t < 4 → dr 32 t = some z → q_scr n z) (hg : q_Gr n ln dr) : ∀ (c i : Nat) (dr1 : Nat → Nat → Option Nat), i + c = 4 → (∀ t, t < i → dr1 16 t = dr 32 t) → (∀ k, ¬ k = 16 → dr1 k = dr k) → q_Gr n ln dr1 →
    (∀ dr', (∀ t, t < 4 → dr' 16 t = dr 32 t) → (∀ k, ¬ k = 16 → dr' k = dr k) → q_Gr n ln dr' → q_EX q_KD d 112 0 [.ref 17, .ref 33] [] (n, sl, ln, di, dl, dr') (fun r1 h1 => q_EX q_KD (d + 1) 111 156 [.ref 7, .ref 23, .retAddr 0] (r1.toList ++ []) h1 Q)) →
    q_EX q_KD (d + 1) 111 122 [.ref 7, .ref 23, .int (nI i)] [] (n, sl, ln, di, dl, dr1) Q := by
  intro c
  induction c with
  | zero =>
    intro i dr1 hi h1 h2 h3 k
    have : i = 4 := by omega
    subst this
    exact g111_122b h3 (fun _ => k dr1 h1 h2 h3) (fun w => absurd w (by decide)) (fun w => absurd w (by decide)) (fun w => absurd w (by decide)) (fun w => absurd w (by decide)) (fun w => absurd w (by decide)) (fun w => absurd w (by decide))
  | succ c ih =>
    intro i dr1 hi h1 h2 h3 k
    have hin : (nI i).toNatClampNeg = i := nI_clamp (by omega)
    have v4 : vp_in (nI i) 4 := vp_in_nI (by omega) (by decide)
    have e32 : dr1 32 = dr 32 := h2 32 (by decide)
    refine g111_122b h3 (fun w => absurd ((nI_leI (a := 4) (by decide) (by omega)).mp w) (by omega)) (fun _ => v4) (fun _ _ => v4) (fun _ w => ?_) (fun _ z hz => ?_) (fun _ _ _ _ => v4) (fun _ z hz _ => ?_)
    · rw [hin, e32] at w
      rw [hin, nI_1]
      refine ih (i + 1) _ (by omega) (fun t ht => ?_) (fun x hx => by rw [q_uR hx]; exact h2 x hx) (w_Gr16 h3) k
      by_cases e : t = i
      · subst e; rw [q_uE]; exact w.symm
      · rw [q_uN _ _ _ _ _ e]; exact h1 t (by omega)
    · rw [hin, e32] at hz; exact hs i z (by omega) hz
    · rw [hin, e32] at hz
      rw [hin, nI_1]
      refine ih (i + 1) _ (by omega) (fun t ht => ?_) (fun x hx => by rw [q_uR hx]; exact h2 x hx) (w_Gr16 h3) k
      by_cases e : t = i
      · subst e; rw [q_uE]; exact hz.symm
      · rw [q_uN _ _ _ _ _ e]; exact h1 t (by omega)
set_option maxHeartbeats 2000000 in
theorem c_cpb (hs : ∀ t z, t < 4 → dr 32 t = some z → q_scr n z) (hg : q_Gr n ln dr) (k : ∀ (D : Nat → Nat → Int32) (dr' : Nat → Nat → Option Nat), (∀ i, i < 6 → D 8 i = di 24 i) → (∀ i, i < 6 → D 9 i = di 25 i) → (∀ i, i < 6 → D 10 i = di 26 i) → (∀ i, i < 6 → D 11 i = di 27 i) → (∀ i, i < 6 → D 12 i = di 28 i) → (∀ i, i < 10 → D 13 i = di 29 i) → (∀ i, i < 10 → D 14 i = di 30 i) → (∀ i, i < 10 → D 15 i = di 31 i) → (∀ i, i < 180 → D 18 i = di 34 i) → (∀ i, i < 180 → D 19 i = di 35 i) → (∀ i, i < 30 → D 20 i = di 36 i) → (∀ i, i < 30 → D 21 i = di 37 i) → (∀ i, i < 30 → D 22 i = di 38 i) → (∀ i, 10 ≤ i → i < 18 → D 7 i = di 23 i) → D 17 5 = di 33 5 → D 17 6 = di 33 6 → (∀ k, ¬ (7 ≤ k ∧ k ≤ 22) → D k = di k) → (∀ t, t < 4 → dr' 16 t = dr 32 t) → (∀ k, ¬ k = 16 → dr' k = dr k) → q_Gr n ln dr' → Q none (n, sl, ln, D, dl, dr')) : q_EX q_KD (d + 1) 111 0 [.ref 7, .ref 23, .retAddr 0] [] (n, sl, ln, di, dl, dr) Q := by
  refine g111_0b hg (c_cpb122 (d := d) hs hg 4 0 dr rfl (fun t ht => absurd ht (Nat.not_lt_zero t)) (fun _ _ => rfl) hg (fun dr' r1 r2 r3 => g112_0b r3 (g111_156b r3 (k _ dr' ?_ ?_ ?_ ?_ ?_ ?_ ?_ ?_ ?_ ?_ ?_ ?_ ?_ ?_ ?_ ?_ ?_ r1 r2 r3))))
  · intro i hi; exact sb_cpy0 hi
  · intro i hi; exact sb_cpy0 hi
  · intro i hi; exact sb_cpy0 hi
  · intro i hi; exact sb_cpy0 hi
  · intro i hi; exact sb_cpy0 hi
  · intro i hi; exact sb_cpy0 hi
  · intro i hi; exact sb_cpy0 hi
  · intro i hi; exact sb_cpy0 hi
  · intro i hi; exact sb_cpy0 hi
  · intro i hi; exact sb_cpy0 hi
  · intro i hi; exact sb_cpy0 hi
  · intro i hi; exact sb_cpy0 hi
  · intro i hi; exact sb_cpy0 hi
  · intro i h1 h2
    match i, h1, h2 with
    | 10, _, _ => rfl
    | 11, _, _ => rfl
    | 12, _, _ => rfl
    | 13, _, _ => rfl
    | 14, _, _ => rfl
    | 15, _, _ => rfl
    | 16, _, _ => rfl
    | 17, _, _ => rfl
    | i + 18, _, h => omega
    | 0, h, _ => omega
    | 1, h, _ => omega
    | 2, h, _ => omega
    | 3, h, _ => omega
    | 4, h, _ => omega
    | 5, h, _ => omega
    | 6, h, _ => omega
    | 7, h, _ => omega
    | 8, h, _ => omega
    | 9, h, _ => omega
  · rfl
  · rfl
  · intro x hx
    rw [q_uR (by omega), q_uR (by omega), q_uR (by omega), q_uR (by omega), q_uR (by omega), q_uR (by omega), q_uR (by omega), q_uR (by omega), q_uR (by omega), q_uR (by omega), q_upN _ _ (by omega), q_upN _ _ (by omega), q_upN _ _ (by omega), q_upN _ _ (by omega), q_upN _ _ (by omega), q_upN _ _ (by omega), q_upN _ _ (by omega), q_upN _ _ (by omega), q_upN _ _ (by omega), q_upN _ _ (by omega), q_upN _ _ (by omega), q_upN _ _ (by omega), q_upN _ _ (by omega)]
theorem c_cpi122 (hs : ∀ t z, t < 4 → dr 16 t = some z → q_scr n z) (hg : q_Gr n ln dr) : ∀ (c i : Nat) (dr1 : Nat → Nat → Option Nat), i + c = 4 → (∀ t, t < i → dr1 32 t = dr 16 t) → (∀ k, ¬ k = 32 → dr1 k = dr k) → q_Gr n ln dr1 →
    (∀ dr', (∀ t, t < 4 → dr' 32 t = dr 16 t) → (∀ k, ¬ k = 32 → dr' k = dr k) → q_Gr n ln dr' → q_EX q_KD d 112 0 [.ref 33, .ref 17] [] (n, sl, ln, di, dl, dr') (fun r1 h1 => q_EX q_KD (d + 1) 111 156 [.ref 23, .ref 7, .retAddr 0] (r1.toList ++ []) h1 Q)) →
    q_EX q_KD (d + 1) 111 122 [.ref 23, .ref 7, .int (nI i)] [] (n, sl, ln, di, dl, dr1) Q := by
  intro c
  induction c with
  | zero =>
    intro i dr1 hi h1 h2 h3 k
    have : i = 4 := by omega
    subst this
    exact g111_122i h3 (fun _ => k dr1 h1 h2 h3) (fun w => absurd w (by decide)) (fun w => absurd w (by decide)) (fun w => absurd w (by decide)) (fun w => absurd w (by decide)) (fun w => absurd w (by decide)) (fun w => absurd w (by decide))
  | succ c ih =>
    intro i dr1 hi h1 h2 h3 k
    have hin : (nI i).toNatClampNeg = i := nI_clamp (by omega)
    have v4 : vp_in (nI i) 4 := vp_in_nI (by omega) (by decide)
    have e32 : dr1 16 = dr 16 := h2 16 (by decide)
    refine g111_122i h3 (fun w => absurd ((nI_leI (a := 4) (by decide) (by omega)).mp w) (by omega)) (fun _ => v4) (fun _ _ => v4) (fun _ w => ?_) (fun _ z hz => ?_) (fun _ _ _ _ => v4) (fun _ z hz _ => ?_)
    · rw [hin, e32] at w
      rw [hin, nI_1]
      refine ih (i + 1) _ (by omega) (fun t ht => ?_) (fun x hx => by rw [q_uR hx]; exact h2 x hx) (w_Gr32 h3) k
      by_cases e : t = i
      · subst e; rw [q_uE]; exact w.symm
      · rw [q_uN _ _ _ _ _ e]; exact h1 t (by omega)
    · rw [hin, e32] at hz; exact hs i z (by omega) hz
    · rw [hin, e32] at hz
      rw [hin, nI_1]
      refine ih (i + 1) _ (by omega) (fun t ht => ?_) (fun x hx => by rw [q_uR hx]; exact h2 x hx) (w_Gr32 h3) k
      by_cases e : t = i
      · subst e; rw [q_uE]; exact hz.symm
      · rw [q_uN _ _ _ _ _ e]; exact h1 t (by omega)
set_option maxHeartbeats 2000000 in
theorem c_cpi (hs : ∀ t z, t < 4 → dr 16 t = some z → q_scr n z) (hg : q_Gr n ln dr) (k : ∀ (D : Nat → Nat → Int32) (dr' : Nat → Nat → Option Nat), (∀ i, i < 6 → D 24 i = di 8 i) → (∀ i, i < 6 → D 25 i = di 9 i) → (∀ i, i < 6 → D 26 i = di 10 i) → (∀ i, i < 6 → D 27 i = di 11 i) → (∀ i, i < 6 → D 28 i = di 12 i) → (∀ i, i < 10 → D 29 i = di 13 i) → (∀ i, i < 10 → D 30 i = di 14 i) → (∀ i, i < 10 → D 31 i = di 15 i) → (∀ i, i < 180 → D 34 i = di 18 i) → (∀ i, i < 180 → D 35 i = di 19 i) → (∀ i, i < 30 → D 36 i = di 20 i) → (∀ i, i < 30 → D 37 i = di 21 i) → (∀ i, i < 30 → D 38 i = di 22 i) → (∀ i, 10 ≤ i → i < 18 → D 23 i = di 7 i) → D 33 5 = di 17 5 → D 33 6 = di 17 6 → (∀ k, ¬ (23 ≤ k ∧ k ≤ 38) → D k = di k) → (∀ t, t < 4 → dr' 32 t = dr 16 t) → (∀ k, ¬ k = 32 → dr' k = dr k) → q_Gr n ln dr' → Q none (n, sl, ln, D, dl, dr')) : q_EX q_KD (d + 1) 111 0 [.ref 23, .ref 7, .retAddr 0] [] (n, sl, ln, di, dl, dr) Q := by
  refine g111_0i hg (c_cpi122 (d := d) hs hg 4 0 dr rfl (fun t ht => absurd ht (Nat.not_lt_zero t)) (fun _ _ => rfl) hg (fun dr' r1 r2 r3 => g112_0i r3 (g111_156i r3 (k _ dr' ?_ ?_ ?_ ?_ ?_ ?_ ?_ ?_ ?_ ?_ ?_ ?_ ?_ ?_ ?_ ?_ ?_ r1 r2 r3))))
  · intro i hi; exact sb_cpy0 hi
  · intro i hi; exact sb_cpy0 hi
  · intro i hi; exact sb_cpy0 hi
  · intro i hi; exact sb_cpy0 hi
  · intro i hi; exact sb_cpy0 hi
  · intro i hi; exact sb_cpy0 hi
  · intro i hi; exact sb_cpy0 hi
  · intro i hi; exact sb_cpy0 hi
  · intro i hi; exact sb_cpy0 hi
  · intro i hi; exact sb_cpy0 hi
  · intro i hi; exact sb_cpy0 hi
  · intro i hi; exact sb_cpy0 hi
  · intro i hi; exact sb_cpy0 hi
  · intro i h1 h2
    match i, h1, h2 with
    | 10, _, _ => rfl
    | 11, _, _ => rfl
    | 12, _, _ => rfl
    | 13, _, _ => rfl
    | 14, _, _ => rfl
    | 15, _, _ => rfl
    | 16, _, _ => rfl
    | 17, _, _ => rfl
    | i + 18, _, h => omega
    | 0, h, _ => omega
    | 1, h, _ => omega
    | 2, h, _ => omega
    | 3, h, _ => omega
    | 4, h, _ => omega
    | 5, h, _ => omega
    | 6, h, _ => omega
    | 7, h, _ => omega
    | 8, h, _ => omega
    | 9, h, _ => omega
  · rfl
  · rfl
  · intro x hx
    rw [q_uR (by omega), q_uR (by omega), q_uR (by omega), q_uR (by omega), q_uR (by omega), q_uR (by omega), q_uR (by omega), q_uR (by omega), q_uR (by omega), q_uR (by omega), q_upN _ _ (by omega), q_upN _ _ (by omega), q_upN _ _ (by omega), q_upN _ _ (by omega), q_upN _ _ (by omega), q_upN _ _ (by omega), q_upN _ _ (by omega), q_upN _ _ (by omega), q_upN _ _ (by omega), q_upN _ _ (by omega), q_upN _ _ (by omega), q_upN _ _ (by omega), q_upN _ _ (by omega)]
theorem c_cpMi2 (a : Nat → Int32) (hg : q_Gr n ln dr) : ∀ (c i : Nat) (b : Nat → Int32) (D : Nat → Nat → Int32), D 68 = a → i + c = 706 → (∀ t, t < i → b t = a t) → D = va_up di 69 b →
    (∀ b', (∀ t, t < 706 → b' t = a t) → Q none (n, sl, ln, va_up di 69 b', dl, dr)) → q_EX q_KD d 116 2 [.ref 68, .ref 69, .int (nI i)] [] (n, sl, ln, D, dl, dr) Q := by
  intro c
  induction c with
  | zero =>
    intro i b D h1 h2 h3 h4 k
    have : i = 706 := by omega
    subst this
    refine g116_2i hg (fun _ => ?_) (fun w => absurd w (by decide)) (fun w => absurd w (by decide)) (fun w => absurd w (by decide))
    rw [h4]
    exact k b h3
  | succ c ih =>
    intro i b D h1 h2 h3 h4 k
    have hin : (nI i).toNatClampNeg = i := nI_clamp (by omega)
    have v4 : vp_in (nI i) 706 := vp_in_nI (by omega) (by decide)
    refine g116_2i hg (fun w => absurd ((nI_leI (a := 706) (by decide) (by omega)).mp w) (by omega)) (fun _ => v4) (fun _ => v4) (fun _ => ?_)
    rw [hin, nI_1, h1]
    refine ih (i + 1) (va_up b i (a i)) _ (by rw [q_uR (by decide)]; exact h1) (by omega) (fun t ht => ?_) ?_ k
    · by_cases e : t = i
      · subst e; rw [q_upE]
      · rw [q_upN _ _ e]; exact h3 t (by omega)
    · rw [h4]
      show va_up (va_up di 69 b) 69 (va_up (va_up di 69 b 69) i (a i)) = _
      rw [q_upup, q_upE]
theorem c_cpMi (hg : q_Gr n ln dr) (k : ∀ b', (∀ t, t < 706 → b' t = di 68 t) → Q none (n, sl, ln, va_up di 69 b', dl, dr)) : q_EX q_KD d 116 0 [.ref 68, .ref 69, .retAddr 0] [] (n, sl, ln, di, dl, dr) Q :=
  g116_0i hg (c_cpMi2 (di 68) hg 706 0 (di 69) di rfl rfl (fun t ht => absurd ht (Nat.not_lt_zero t)) (q_upid _ _).symm k)
theorem c_cpMb2 (a : Nat → Int32) (hg : q_Gr n ln dr) : ∀ (c i : Nat) (b : Nat → Int32) (D : Nat → Nat → Int32), D 69 = a → i + c = 706 → (∀ t, t < i → b t = a t) → D = va_up di 68 b →
    (∀ b', (∀ t, t < 706 → b' t = a t) → Q none (n, sl, ln, va_up di 68 b', dl, dr)) → q_EX q_KD d 116 2 [.ref 69, .ref 68, .int (nI i)] [] (n, sl, ln, D, dl, dr) Q := by
  intro c
  induction c with
  | zero =>
    intro i b D h1 h2 h3 h4 k
    have : i = 706 := by omega
    subst this
    refine g116_2b hg (fun _ => ?_) (fun w => absurd w (by decide)) (fun w => absurd w (by decide)) (fun w => absurd w (by decide))
    rw [h4]
    exact k b h3
  | succ c ih =>
    intro i b D h1 h2 h3 h4 k
    have hin : (nI i).toNatClampNeg = i := nI_clamp (by omega)
    have v4 : vp_in (nI i) 706 := vp_in_nI (by omega) (by decide)
    refine g116_2b hg (fun w => absurd ((nI_leI (a := 706) (by decide) (by omega)).mp w) (by omega)) (fun _ => v4) (fun _ => v4) (fun _ => ?_)
    rw [hin, nI_1, h1]
    refine ih (i + 1) (va_up b i (a i)) _ (by rw [q_uR (by decide)]; exact h1) (by omega) (fun t ht => ?_) ?_ k
    · by_cases e : t = i
      · subst e; rw [q_upE]
      · rw [q_upN _ _ e]; exact h3 t (by omega)
    · rw [h4]
      show va_up (va_up di 68 b) 68 (va_up (va_up di 68 b 68) i (a i)) = _
      rw [q_upup, q_upE]
theorem c_cpMb (hg : q_Gr n ln dr) (k : ∀ b', (∀ t, t < 706 → b' t = di 69 t) → Q none (n, sl, ln, va_up di 68 b', dl, dr)) : q_EX q_KD d 116 0 [.ref 69, .ref 68, .retAddr 0] [] (n, sl, ln, di, dl, dr) Q :=
  g116_0b hg (c_cpMb2 (di 69) hg 706 0 (di 68) di rfl rfl (fun t ht => absurd ht (Nat.not_lt_zero t)) (q_upid _ _).symm k)
theorem o_image (h : q_RR c n sl ln di dr) : o_op (d + 2) 110 204 [.ref 6] [.ref 67] c (n, sl, ln, di, dl, dr) := by
  have hR := h
  obtain ⟨hg, a2, a3, a4, a5, a6, P, L, T, S, K, P', L', T', S', K', b1, b2, b3, b4, b5⟩ := hR
  refine g110_0 hg (c_cpi (d := d) b1.2.2.2.2.2.2.2.2.2.2.2 hg (fun D dr' f1 f2 f3 f4 f5 f6 f7 f8 f11 f12 f13 f14 f15 fh f5' f6' fD s1 s2 s3 => g110_11 s3 ⟨_, rfl, ?_⟩))
  refine g204_0 s3 (c_cpMi s3 (fun b hb => g204_11 s3 ⟨?_, ?_⟩))
  · have e7 : D 7 = di 7 := fD 7 (by omega)
    have e68 : va_up D 69 b 68 = di 68 := fD 68 (by omega)
    rw [e7, e68, b1.2.2.2.2.1.2.2.1]
  · show q_RR (c + 1) n sl ln (va_up D 69 b) dr'
    have e68 : D 68 = di 68 := fD 68 (by omega)
    rw [e68] at hb
    have E : ∀ k, ¬ k = 69 → ¬ (23 ≤ k ∧ k ≤ 38) → va_up D 69 b k = di k := fun k g0 g1 => by rw [q_upN _ _ g0]; exact fD k g1
    have hd : ∀ k, 84 ≤ k → va_up D 69 b k = di k := fun k hk => E k (by omega) (by omega)
    have d16 : dr' 16 = dr 16 := s2 16 (by decide)
    refine w_RR_up ⟨s3, a2, a3, ?_, ?_, ?_, P, L, T, S, K, P, L, T, S, K, ?_, ?_, Nat.le_refl _, ?_, ?_⟩
    · unfold q_Cn at *
      rw [E 1 (by omega) (by omega), E 2 (by omega) (by omega), E 3 (by omega) (by omega), E 5 (by omega) (by omega)]
      exact a4
    · unfold q_Tp at *
      rw [E 40 (by omega) (by omega), E 41 (by omega) (by omega), E 67 (by omega) (by omega), E 71 (by omega) (by omega)]
      exact a5
    · unfold q_Ft at *
      rw [E 39 (by omega) (by omega), E 67 (by omega) (by omega)]
      exact a6
    · rw [E 7 (by omega) (by omega), E 8 (by omega) (by omega), E 9 (by omega) (by omega), E 10 (by omega) (by omega), E 11 (by omega) (by omega), E 12 (by omega) (by omega), E 13 (by omega) (by omega), E 14 (by omega) (by omega), E 15 (by omega) (by omega), E 17 (by omega) (by omega), E 18 (by omega) (by omega), E 19 (by omega) (by omega), E 20 (by omega) (by omega), E 21 (by omega) (by omega), E 22 (by omega) (by omega), E 68 (by omega) (by omega), E 70 (by omega) (by omega), d16]
      exact w_RHd b1 hd
    · rw [E 70 (by omega) (by omega), q_upE, q_upN _ _ (show ¬ 23 = 69 by decide), q_upN _ _ (show ¬ 24 = 69 by decide), q_upN _ _ (show ¬ 25 = 69 by decide), q_upN _ _ (show ¬ 26 = 69 by decide), q_upN _ _ (show ¬ 27 = 69 by decide), q_upN _ _ (show ¬ 28 = 69 by decide), q_upN _ _ (show ¬ 29 = 69 by decide), q_upN _ _ (show ¬ 30 = 69 by decide), q_upN _ _ (show ¬ 31 = 69 by decide), q_upN _ _ (show ¬ 33 = 69 by decide), q_upN _ _ (show ¬ 34 = 69 by decide), q_upN _ _ (show ¬ 35 = 69 by decide), q_upN _ _ (show ¬ 36 = 69 by decide), q_upN _ _ (show ¬ 37 = 69 by decide), q_upN _ _ (show ¬ 38 = 69 by decide)]
      exact w_RH_cp b1 fh f1 f2 f3 f4 f5 f6 f7 f8 f5' f6' f11 f12 f13 f14 f15 s1 hb hd
    · rw [E 54 (by omega) (by omega), E 55 (by omega) (by omega), E 56 (by omega) (by omega), E 68 (by omega) (by omega), E 70 (by omega) (by omega)]
      exact b4
    · rw [E 60 (by omega) (by omega), E 61 (by omega) (by omega), E 66 (by omega) (by omega), E 68 (by omega) (by omega), E 70 (by omega) (by omega)]
      exact b5
theorem o_back (h : q_RR c n sl ln di dr) : o_op (d + 2) 113 205 [.ref 6] [.ref 67] c (n, sl, ln, di, dl, dr) := by
  have hR := h
  obtain ⟨hg, a2, a3, a4, a5, a6, P, L, T, S, K, P', L', T', S', K', b1, b2, b3, b4, b5⟩ := hR
  refine g113_0 hg (c_cpb (d := d) b2.2.2.2.2.2.2.2.2.2.2.2 hg (fun D dr' f1 f2 f3 f4 f5 f6 f7 f8 f11 f12 f13 f14 f15 fh f5' f6' fD s1 s2 s3 => g113_11 s3 (c_forE (d := d) s3 (g113_18 s3 (c_forR (d := d) s3 (g113_25 s3 ⟨_, rfl, ?_⟩))))))
  obtain ⟨F, hF⟩ : ∃ F, F = q_u (va_up (va_up (va_up (va_up D 54 (w_fl (D 54) 0 240)) 55 (w_fl (D 55) 0 240)) 56 (w_fl (D 56) (-1) 490)) 61 (w_fl (D 61) (-1) 64)) 60 9 0 := ⟨_, rfl⟩
  have FN : ∀ k, ¬ k = 54 → ¬ k = 55 → ¬ k = 56 → ¬ k = 60 → ¬ k = 61 → F k = D k := fun k g1 g2 g3 g4 g5 => by rw [hF, q_uR g4, q_upN _ _ g5, q_upN _ _ g3, q_upN _ _ g2, q_upN _ _ g1]
  have F54 : ∀ i, i < 240 → F 54 i = 0 := fun i hi => by rw [hF]; exact w_flI hi
  have F55 : ∀ i, i < 240 → F 55 i = 0 := fun i hi => by rw [hF]; exact w_flI hi
  have F56 : ∀ i, i < 490 → F 56 i = -1 := fun i hi => by rw [hF]; exact w_flI hi
  have F61 : ∀ m, m < 64 → F 61 m = -1 := fun i hi => by rw [hF]; exact w_flI hi
  have F60 : F 60 9 = 0 := by rw [hF]; rfl
  have goal2 : q_EX q_KD (d + 2) 205 0 [.ref 67] [] (n, sl, ln, F, dl, dr') (fun r2 h2 => r2 = some (.int (F 7 17)) ∧ w_R (c + 1) h2) := by
    refine g205_0 s3 (c_cpMb s3 (fun b hb => g205_11 s3 ⟨?_, ?_⟩))
    · have e7 : F 7 17 = di 23 17 := by rw [FN 7 (by decide) (by decide) (by decide) (by decide) (by decide)]; exact fh 17 (by decide) (by decide)
      have e69 : F 69 = di 69 := by rw [FN 69 (by decide) (by decide) (by decide) (by decide) (by decide)]; exact fD 69 (by omega)
      have eb : va_up F 68 b 68 2 = di 69 2 := by show b 2 = di 69 2; rw [hb 2 (by decide), e69]
      rw [e7, eb, b2.2.2.2.2.1.2.2.1]
    · show q_RR (c + 1) n sl ln (va_up F 68 b) dr'
      have e69 : F 69 = di 69 := by rw [FN 69 (by decide) (by decide) (by decide) (by decide) (by decide)]; exact fD 69 (by omega)
      rw [e69] at hb
      have E : ∀ k, ¬ k = 68 → ¬ k = 54 → ¬ k = 55 → ¬ k = 56 → ¬ k = 60 → ¬ k = 61 → ¬ (7 ≤ k ∧ k ≤ 22) → va_up F 68 b k = di k := fun k g0 g1 g2 g3 g4 g5 g6 => by rw [q_upN _ _ g0, FN k g1 g2 g3 g4 g5]; exact fD k g6
      have G : ∀ k, ¬ k = 68 → ¬ k = 54 → ¬ k = 55 → ¬ k = 56 → ¬ k = 60 → ¬ k = 61 → va_up F 68 b k = D k := fun k g0 g1 g2 g3 g4 g5 => by rw [q_upN _ _ g0, FN k g1 g2 g3 g4 g5]
      have hd : ∀ k, 84 ≤ k → va_up F 68 b k = di k := fun k hk => E k (by omega) (by omega) (by omega) (by omega) (by omega) (by omega) (by omega)
      have d32 : dr' 32 = dr 32 := s2 32 (by decide)
      refine w_RR_up ⟨s3, a2, a3, ?_, ?_, ?_, P', L', T', S', K', P', L', T', S', K', ?_, ?_, Nat.le_refl _, w_CE_0 (fun i hi => by rw [q_upN _ _ (show ¬ 54 = 68 by decide)]; exact F54 i hi) (fun i hi => by rw [q_upN _ _ (show ¬ 55 = 68 by decide)]; exact F55 i hi) (fun i hi => by rw [q_upN _ _ (show ¬ 56 = 68 by decide)]; exact F56 i hi), w_CR_0 (fun m hm => by rw [q_upN _ _ (show ¬ 61 = 68 by decide)]; exact F61 m hm) (by rw [q_upN _ _ (show ¬ 60 = 68 by decide)]; exact F60)⟩
      · unfold q_Cn at *
        rw [E 1 (by omega) (by omega) (by omega) (by omega) (by omega) (by omega) (by omega), E 2 (by omega) (by omega) (by omega) (by omega) (by omega) (by omega) (by omega), E 3 (by omega) (by omega) (by omega) (by omega) (by omega) (by omega) (by omega), E 5 (by omega) (by omega) (by omega) (by omega) (by omega) (by omega) (by omega)]
        exact a4
      · unfold q_Tp at *
        rw [E 40 (by omega) (by omega) (by omega) (by omega) (by omega) (by omega) (by omega), E 41 (by omega) (by omega) (by omega) (by omega) (by omega) (by omega) (by omega), E 67 (by omega) (by omega) (by omega) (by omega) (by omega) (by omega) (by omega), E 71 (by omega) (by omega) (by omega) (by omega) (by omega) (by omega) (by omega)]
        exact a5
      · unfold q_Ft at *
        rw [E 39 (by omega) (by omega) (by omega) (by omega) (by omega) (by omega) (by omega), E 67 (by omega) (by omega) (by omega) (by omega) (by omega) (by omega) (by omega)]
        exact a6
      · rw [E 70 (by omega) (by omega) (by omega) (by omega) (by omega) (by omega) (by omega), q_upE, G 7 (by omega) (by omega) (by omega) (by omega) (by omega) (by omega), G 8 (by omega) (by omega) (by omega) (by omega) (by omega) (by omega), G 9 (by omega) (by omega) (by omega) (by omega) (by omega) (by omega), G 10 (by omega) (by omega) (by omega) (by omega) (by omega) (by omega), G 11 (by omega) (by omega) (by omega) (by omega) (by omega) (by omega), G 12 (by omega) (by omega) (by omega) (by omega) (by omega) (by omega), G 13 (by omega) (by omega) (by omega) (by omega) (by omega) (by omega), G 14 (by omega) (by omega) (by omega) (by omega) (by omega) (by omega), G 15 (by omega) (by omega) (by omega) (by omega) (by omega) (by omega), G 17 (by omega) (by omega) (by omega) (by omega) (by omega) (by omega), G 18 (by omega) (by omega) (by omega) (by omega) (by omega) (by omega), G 19 (by omega) (by omega) (by omega) (by omega) (by omega) (by omega), G 20 (by omega) (by omega) (by omega) (by omega) (by omega) (by omega), G 21 (by omega) (by omega) (by omega) (by omega) (by omega) (by omega), G 22 (by omega) (by omega) (by omega) (by omega) (by omega) (by omega)]
        exact w_RH_cp b2 fh f1 f2 f3 f4 f5 f6 f7 f8 f5' f6' f11 f12 f13 f14 f15 s1 hb hd
      · rw [E 70 (by omega) (by omega) (by omega) (by omega) (by omega) (by omega) (by omega), E 69 (by omega) (by omega) (by omega) (by omega) (by omega) (by omega) (by omega), E 23 (by omega) (by omega) (by omega) (by omega) (by omega) (by omega) (by omega), E 24 (by omega) (by omega) (by omega) (by omega) (by omega) (by omega) (by omega), E 25 (by omega) (by omega) (by omega) (by omega) (by omega) (by omega) (by omega), E 26 (by omega) (by omega) (by omega) (by omega) (by omega) (by omega) (by omega), E 27 (by omega) (by omega) (by omega) (by omega) (by omega) (by omega) (by omega), E 28 (by omega) (by omega) (by omega) (by omega) (by omega) (by omega) (by omega), E 29 (by omega) (by omega) (by omega) (by omega) (by omega) (by omega) (by omega), E 30 (by omega) (by omega) (by omega) (by omega) (by omega) (by omega) (by omega), E 31 (by omega) (by omega) (by omega) (by omega) (by omega) (by omega) (by omega), E 33 (by omega) (by omega) (by omega) (by omega) (by omega) (by omega) (by omega), E 34 (by omega) (by omega) (by omega) (by omega) (by omega) (by omega) (by omega), E 35 (by omega) (by omega) (by omega) (by omega) (by omega) (by omega) (by omega), E 36 (by omega) (by omega) (by omega) (by omega) (by omega) (by omega) (by omega), E 37 (by omega) (by omega) (by omega) (by omega) (by omega) (by omega) (by omega), E 38 (by omega) (by omega) (by omega) (by omega) (by omega) (by omega) (by omega), d32]
        exact w_RHd b2 hd
  rw [hF] at goal2
  exact goal2
end
