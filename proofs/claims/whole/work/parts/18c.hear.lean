theorem q_itI {α : Type} {f : Nat → α → α} : ∀ (c j : Nat) (a : α), (∀ i x, j ≤ i → i < j + c → f i x = x) → q_it f c j a = a := by
  intro c
  induction c with
  | zero => intro j a _; rfl
  | succ c ih =>
    intro j a h
    show q_it f c (j + 1) (f j a) = a
    rw [h j a (Nat.le_refl _) (by omega), ih (j + 1) a (fun i x h1 h2 => h i x (by omega) (by omega))]
theorem q_itP {α : Type} {f : Nat → α → α} {P N : Nat} {a : α} (hP : P ≤ N) (h : ∀ i x, P ≤ i → i < N → f i x = x) : q_it f N 0 a = q_it f P 0 a := by
  obtain ⟨c, rfl⟩ : ∃ c, N = P + c := ⟨N - P, by omega⟩
  rw [q_itA, q_itI c (0 + P) _ (fun i x h1 h2 => h i x (by omega) (by omega))]
/-- the meaning looks at six places only -/
theorem q_near_cg {w : Int32} {pl pl' : Nat → Int32} {x : Nat} (hx : x < 6) (h : ∀ j, j < 6 → pl' j = pl j) : q_nearOf w pl' x 6 0 0 = q_nearOf w pl x 6 0 0 :=
  q_itC 6 0 0 (fun i y _ h2 => by rw [h i (by omega), h x hx])
theorem q_rd_cg {a tx pl pl' : Nat → Int32} {l m g : Nat} (h : ∀ j, j < 6 → pl' j = pl j) : q_rd a tx pl' l m g = q_rd a tx pl l m g :=
  q_itC 6 0 0 (fun i y _ h2 => by rw [h i (by omega), q_near_cg (by omega) h])
theorem q_wv_cg {a tx pl pl' : Nat → Int32} {l m : Nat} (h : ∀ j, j < 6 → pl' j = pl j) : ∀ (f g r : Nat), q_wv a tx pl' l m f g r = q_wv a tx pl l m f g r := by
  intro f
  induction f with
  | zero => intro g r; rfl
  | succ f ih =>
    intro g r
    unfold q_wv
    rw [q_rd_cg h, ih]
theorem q_lb_cg {a tx pl pl' : Nat → Int32} {l m : Nat} (h : ∀ j, j < 6 → pl' j = pl j) : q_lb a tx pl' l m = q_lb a tx pl l m := by
  unfold q_lb
  rw [q_wv_cg h]
theorem q_al_cg {a tx pl pl' : Nat → Int32} {m L : Nat} (h : ∀ j, j < 6 → pl' j = pl j) : q_al a tx pl' m L = q_al a tx pl m L :=
  q_itC L 0 0 (fun i y _ _ => by rw [q_lb_cg h])
theorem q_h67F {di e e' : Nat → Nat → Int32} {x y x' y' : Int32} : q_F q_Sw (q_h67 (q_F q_Sw (q_h67 di x y) e) x' y') e' = q_F q_Sw (q_h67 di x' y') e' := by
  funext k
  by_cases hk : k = 67
  · subst hk
    funext i
    show va_up (va_up (va_up (va_up (di 67) 27 x) 28 y) 27 x') 28 y' i = va_up (va_up (di 67) 27 x') 28 y' i
    by_cases h1 : i = 28
    · subst h1; rw [q_upE, q_upE]
    · rw [q_upN _ _ h1, q_upN _ _ h1]
      by_cases h2 : i = 27
      · subst h2; rw [q_upE, q_upE]
      · rw [q_upN _ _ h2, q_upN _ _ h2, q_upN _ _ h1, q_upN _ _ h2]
  · unfold q_F q_h67
    cases hS : q_Sw k with
    | true => rfl
    | false =>
      simp only [cond_false]
      rw [q_upN _ _ hk, q_upN _ _ hk]
      simp only [hS, cond_false]
      rw [q_upN _ _ hk]
theorem q_h670 {di : Nat → Nat → Int32} {x y : Int32} : q_u (q_u di 67 27 x) 67 28 y = q_h67 di x y := by
  show va_up (va_up di 67 (va_up (di 67) 27 x)) 67 (va_up (va_up di 67 (va_up (di 67) 27 x) 67) 28 y) = _
  rw [q_upup, q_upE]
section
variable {d n sl : Nat} {ln : Nat → Nat} {dr : Nat → Nat → Option Nat} {Q : Option Value → q_H → Prop}
theorem c_hear12 {di : Nat → Nat → Int32} {l s st P : Nat} (hl : l < 10) (hP : P ≤ 6) (h0 : di 68 0 = nI P) (hst : di 67 26 = nI st) (hs : s < 2 ^ 31) (hpl : ∀ j, P ≤ j → j < 6 → di 76 j < 0) (hMT : q_MT (di 68) (di 70)) (hg : q_Gr n ln dr) : ∀ (f g r : Nat) (x : Int32) (e : Nat → Nat → Int32) (dl : Nat → Nat → Int64), 7 ≤ w_ct g + f → ¬ x = 0 →
    (∀ e' dl', Q none (n, sl, ln, q_F q_Sw (q_h67 di (nI (q_wv (di 68) (di 70) (di 76) l (q_an s st) f g r).1) (nI (q_wv (di 68) (di 70) (di 76) l (q_an s st) f g r).2)) e', dl', dr)) →
    q_EX q_KD (d + 5) 163 12 [.ref 67, .int (nI l), .int (nI s), .int x, .retAddr 0] [] (n, sl, ln, q_F q_Sw (q_h67 di (nI g) (nI r)) e, dl, dr) Q := by
  intro f
  induction f with
  | zero => intro g r x e dl h; have := w_ct6 g; omega
  | succ f ih =>
    intro g r x e dl h hx k
    refine g163_12 hg (fun c => absurd c hx) (fun _ => ?_)
    refine c_hear21 (di := q_h67 di (nI g) (nI r)) (st := st) (g := g) (P := P) hl hP h0 hst rfl hs hMT hg P 0 0 e dl (by omega) (fun e' dl' => ?_)
    have erd : q_it (fun j x => if (q_an (q_an s st) g).testBit j = true ∧ (0 : Int32) ≤ di 76 j ∧ ¬ q_la (di 68) (di 70) l j (di 76 j / 4) (q_nearOf (nI g) (di 76) j 6 0 0) (q_bits (nI g) 10 0 0) = 0 then x ||| 2 ^ j else x) P 0 0 = q_rd (di 68) (di 70) (di 76) l (q_an (q_an s st) g) g := by
      unfold q_rd
      exact (q_itP hP (fun i y h1 h2 => if_neg (fun z => q_lt0.mp (hpl i h1 h2) z.2.1))).symm
    show q_EX q_KD (d + 5) 163 21 [.ref 67, .int (nI l), .int (nI s), .int (nI (q_it (fun j x => if (q_an (q_an s st) g).testBit j = true ∧ (0 : Int32) ≤ di 76 j ∧ ¬ q_la (di 68) (di 70) l j (di 76 j / 4) (q_nearOf (nI g) (di 76) j 6 0 0) (q_bits (nI g) 10 0 0) = 0 then x ||| 2 ^ j else x) P 0 0)), .int (nI P)] [] (n, sl, ln, q_F q_Sw (q_h67 di (nI g) (nI r)) e', dl', dr) Q
    rw [erd]
    have h0' : q_F q_Sw (q_h67 di (nI g) (nI r)) e' 68 0 = nI P := h0
    have hrl := q_rdL (di 68) (di 70) (di 76) l (q_an (q_an s st) g) g
    refine g163_21 hg (fun _ z => ?_) (fun _ z => ?_) (fun c => absurd c (by rw [h0']; exact nI_nlt (Nat.le_refl _) (by omega)))
    · have z0 : q_rd (di 68) (di 70) (di 76) l (q_an (q_an s st) g) g = 0 := (nI_eq (by omega) (by decide)).mp z
      rw [z0, q_h67u]
      refine g163_12 hg (fun _ => ?_) (fun c => absurd rfl c)
      show Q none (n, sl, ln, q_F q_Sw (q_h67 di (nI g ||| nI 0) (nI r + 0)) e', dl', dr)
      rw [fa_or, Nat.or_zero, Int32.add_zero]
      have kk := k e' dl'
      unfold q_wv at kk
      rwa [if_pos z0] at kk
    · have z0 : ¬ q_rd (di 68) (di 70) (di 76) l (q_an (q_an s st) g) g = 0 := fun y => z (by rw [y]; rfl)
      rw [q_h67u]
      show q_EX q_KD (d + 5) 163 12 [.ref 67, .int (nI l), .int (nI s), .int (nI (q_rd (di 68) (di 70) (di 76) l (q_an (q_an s st) g) g)), .retAddr 0] [] (n, sl, ln, q_F q_Sw (q_h67 di (nI g ||| nI (q_rd (di 68) (di 70) (di 76) l (q_an (q_an s st) g) g)) (nI r + 1)) e', dl', dr) Q
      rw [fa_or, nI_1]
      have hct := w_ctS hrl z0 (fun i hi => q_rd_new hi)
      refine ih _ (r + 1) _ e' dl' (by omega) z (fun e2 dl2 => ?_)
      have kk := k e2 dl2
      unfold q_wv at kk
      rwa [if_neg z0] at kk
theorem c_hear {di : Nat → Nat → Int32} {dl : Nat → Nat → Int64} {l s st P : Nat} (hl : l < 10) (hP : P ≤ 6) (h0 : di 68 0 = nI P) (hst : di 67 26 = nI st) (hs : s < 2 ^ 31) (hpl : ∀ j, P ≤ j → j < 6 → di 76 j < 0) (hMT : q_MT (di 68) (di 70)) (hg : q_Gr n ln dr)
    (k : ∀ e' dl', Q none (n, sl, ln, q_F q_Sw (q_h67 di (nI (q_wv (di 68) (di 70) (di 76) l (q_an s st) 7 0 0).1) (nI (q_wv (di 68) (di 70) (di 76) l (q_an s st) 7 0 0).2)) e', dl', dr)) :
    q_EX q_KD (d + 5) 163 0 [.ref 67, .int (nI l), .int (nI s), .retAddr 0, .retAddr 0] [] (n, sl, ln, di, dl, dr) Q := by
  refine g163_0 hg ?_
  rw [q_h670]
  have := c_hear12 (d := d) (sl := sl) (Q := Q) hl hP h0 hst hs hpl hMT hg 7 0 0 1 (q_h67 di (nI 0) (nI 0)) dl (by decide) (by decide) k
  rwa [q_Fid] at this
/-- loudOf -/
theorem c_loM {di : Nat → Nat → Int32} {dl : Nat → Nat → Int64} {l : Nat} {x2 : Int32} (hl : l < 10) (h : q_MT (di 68) (di 70)) (hg : q_Gr n ln dr)
    (k : ∀ e dl', Q (some (.int (q_lo (di 68) (di 70) l (q_bits (di 67 27) 10 0 0) (di 67 28) x2))) (n, sl, ln, q_F q_Sw di e, dl', dr)) :
    q_EX q_KD (d + 3) 175 0 [.ref 67, .int (nI l), .int x2, .retAddr 0] [] (n, sl, ln, di, dl, dr) Q := by
  have e1 := q_i46 l
  have e2 : (nI (46 + 2 * l)).toNatClampNeg = 46 + 2 * l := nI_clamp (by omega)
  have e3 : (nI (46 + 2 * l + 1)).toNatClampNeg = 46 + 2 * l + 1 := nI_clamp (by omega)
  refine g175_0 hg (c_claM h hg ?_)
  rcases q_law h 1 (by decide) with h0 | ⟨t, kk, F, E, ht, hk, h5, hkl, hFE, hE, _, hF', hE', hty, hlv⟩
  · have hq : q_kl5 (di 68) (di 70) 1 < 0 := by
      have : q_kl5 (di 68) (di 70) 1 = -1 := h0
      rw [this]; decide
    unfold q_lo at k
    rw [if_pos hq] at k
    refine g175_5 hg (fun c => absurd hq (q_nle c)) (fun c => absurd hq (q_nle c)) (fun c => absurd hq (q_nle c)) (fun _ => c_bits hg (g175_17 hg ?_))
    have := k di dl
    rwa [q_Fid] at this
  · have hq : q_kl5 (di 68) (di 70) 1 = nI kk := hkl
    have hqp : ¬ q_kl5 (di 68) (di 70) 1 < 0 := by rw [hq]; exact nI_pos (by omega)
    have hlv' : ∀ nm, q_lv (di 68) (di 70) 1 nm = q_ev (di 70) (680 * t + 75) F E nm := hlv
    unfold q_lo at k
    rw [if_neg hqp, hlv'] at k
    refine g175_5 hg (fun _ => by rw [e1]; exact vp_in_nI (by omega) (by decide)) (fun _ => by rw [e1, nI_1]; exact vp_in_nI (by omega) (by decide)) (fun _ => c_bits hg ?_) (fun c => absurd c hqp)
    rw [hq, e1, e2, nI_1, e3]
    refine g175_69 hg (vp_in_nI (n := 7) (by decide) (by decide)) ?_
    refine c_work (t := t) (kk := kk) (F := F) (E := E) (L := 1) (q_nl1 (di 68) l (q_bits (di 67 27) 10 0 0) (di 67 28) x2) ht hk h5 hF' hE' (by omega) hE hty ?_ hg (fun V T hV _ => g175_94 hg (c_between hg (g175_105 hg ?_)))
    · intro i hi
      have hi' : (i = 3 ∨ i = 4) ∨ (7 ≤ i ∧ i ≤ 9) := by
        have : ((Nat.beq i 3 || Nat.beq i 4) || (Nat.ble 7 i && Nat.ble i 9)) = true := hi
        simpa only [Bool.or_eq_true, Bool.and_eq_true, Nat.beq_eq, Nat.ble_eq] using this
      rcases hi' with (h | h) | h
      · subst h; rfl
      · subst h; rfl
      · match i, h with
        | 7, _ => rfl
        | 8, _ => rfl
        | 9, _ => rfl
        | 0, h => omega
        | 1, h => omega
        | 2, h => omega
        | 3, h => omega
        | 4, h => omega
        | 5, h => omega
        | 6, h => omega
        | i + 10, h => omega
    · have h0 : V 0 = (q_ev (di 70) (680 * t + 75) F E (q_nl1 (di 68) l (q_bits (di 67 27) 10 0 0) (di 67 28) x2)).2.1 0 := hV 0 (by decide)
      have kk2 := k (va_up (q_u (q_u (q_u (q_u (q_u di 73 3 (di 68 (46 + 2 * l))) 73 4 (di 68 (46 + 2 * l + 1))) 73 (nI 7).toNatClampNeg (q_bits (di 67 27) 10 0 0)) 73 8 (di 67 28)) 73 9 x2) 75 T) (va_up dl 74 V)
      rw [← h0] at kk2
      rw [← q_Fin (S := q_Sw) (di := di)] at kk2
      · exact kk2
      · intro k' hk'
        have h73 : ¬ k' = 73 := fun e => by rw [e] at hk'; exact absurd hk' (by decide)
        have h75 : ¬ k' = 75 := fun e => by rw [e] at hk'; exact absurd hk' (by decide)
        rw [q_upN _ _ h75, q_uR h73, q_uR h73, q_uR h73, q_uR h73, q_uR h73]
/-- loudBefore -/
theorem c_lbM {di : Nat → Nat → Int32} {dl : Nat → Nat → Int64} {l s st P : Nat} (hl : l < 10) (hP : P ≤ 6) (h0 : di 68 0 = nI P) (hst : di 67 26 = nI st) (hs : s < 2 ^ 31) (hpl : ∀ j, P ≤ j → j < 6 → di 76 j < 0) (hMT : q_MT (di 68) (di 70)) (hg : q_Gr n ln dr)
    (k : ∀ e' dl', Q (some (.int (q_lb (di 68) (di 70) (di 76) l (q_an s st)))) (n, sl, ln, q_F q_Sw (q_h67 di (nI (q_wv (di 68) (di 70) (di 76) l (q_an s st) 7 0 0).1) (nI (q_wv (di 68) (di 70) (di 76) l (q_an s st) 7 0 0).2)) e', dl', dr)) :
    q_EX q_KD (d + 6) 162 0 [.ref 67, .int (nI l), .int (nI s)] [] (n, sl, ln, di, dl, dr) Q := by
  refine g162_0 hg (c_hear hl hP h0 hst hs hpl hMT hg (fun e' dl' => g162_6 hg (c_loM (d := d + 2) hl hMT hg (fun e2 dl2 => g162_12 hg ?_))))
  rw [q_FF]
  exact k e2 dl2
/-- allOf -/
theorem c_alM4 {di : Nat → Nat → Int32} {s st P L : Nat} (hL : L ≤ 10) (h1 : di 68 1 = nI L) (hP : P ≤ 6) (h0 : di 68 0 = nI P) (hst : di 67 26 = nI st) (hs : s < 2 ^ 31) (hpl : ∀ j, P ≤ j → j < 6 → di 76 j < 0) (hMT : q_MT (di 68) (di 70)) (hg : q_Gr n ln dr) : ∀ (c l : Nat) (acc x y : Int32) (e : Nat → Nat → Int32) (dl : Nat → Nat → Int64), l + c = L →
    (∀ x' y' e' dl', Q (some (.int (q_it (fun l s' => s' + q_lb (di 68) (di 70) (di 76) l (q_an s st)) c l acc))) (n, sl, ln, q_F q_Sw (q_h67 di x' y') e', dl', dr)) →
    q_EX q_KD (d + 7) 190 4 [.ref 67, .int (nI s), .int acc, .int (nI l)] [] (n, sl, ln, q_F q_Sw (q_h67 di x y) e, dl, dr) Q := by
  intro c
  induction c with
  | zero =>
    intro l acc x y e dl hl k
    have h1' : q_F q_Sw (q_h67 di x y) e 68 1 = nI L := h1
    refine g190_4 hg (fun _ => k x y e dl) (fun c => absurd c (by rw [h1']; exact nI_nlt (by omega) (by omega)))
  | succ c ih =>
    intro l acc x y e dl hl k
    have h1' : q_F q_Sw (q_h67 di x y) e 68 1 = nI L := h1
    refine g190_4 hg (fun c' => absurd ((nI_leI (a := L) (b := l) (by omega) (by omega)).mp (by rw [h1'] at c'; exact c')) (by omega)) (fun _ => ?_)
    refine c_lbM (d := d) (di := q_F q_Sw (q_h67 di x y) e) (l := l) (s := s) (st := st) (P := P) (by omega) hP h0 hst hs hpl hMT hg (fun e' dl' => g190_21 hg ?_)
    rw [q_h67F, nI_1]
    exact ih (l + 1) _ _ _ e' dl' (by omega) k
theorem c_alM {di : Nat → Nat → Int32} {dl : Nat → Nat → Int64} {s st P L : Nat} (hL : L ≤ 10) (h1 : di 68 1 = nI L) (hP : P ≤ 6) (h0 : di 68 0 = nI P) (hst : di 67 26 = nI st) (hs : s < 2 ^ 31) (hpl : ∀ j, P ≤ j → j < 6 → di 76 j < 0) (hMT : q_MT (di 68) (di 70)) (hg : q_Gr n ln dr)
    (k : ∀ x' y' e' dl', Q (some (.int (q_al (di 68) (di 70) (di 76) (q_an s st) L))) (n, sl, ln, q_F q_Sw (q_h67 di x' y') e', dl', dr)) :
    q_EX q_KD (d + 7) 190 0 [.ref 67, .int (nI s), .retAddr 0, .retAddr 0] [] (n, sl, ln, di, dl, dr) Q := by
  refine g190_0 hg ?_
  have hid : q_h67 di (di 67 27) (di 67 28) = di := by
    show va_up di 67 (va_up (va_up (di 67) 27 (di 67 27)) 28 (di 67 28)) = di
    rw [q_upid, q_upid, q_upid]
  have := c_alM4 (d := d) (sl := sl) (Q := Q) hL h1 hP h0 hst hs hpl hMT hg L 0 0 (di 67 27) (di 67 28) di dl (by omega) k
  rwa [hid, q_Fid] at this
end
