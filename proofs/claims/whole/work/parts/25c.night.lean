theorem w_wv_sub (a tx pl : Nat → Int32) (l m : Nat) : ∀ (f g r : Nat), (∀ i, g.testBit i = true → m.testBit i = true) → ∀ i, (q_wv a tx pl l m f g r).1.testBit i = true → m.testBit i = true := by
  intro f
  induction f with
  | zero => intro g r h; exact h
  | succ f ih =>
    intro g r h
    unfold q_wv
    by_cases z : q_rd a tx pl l (q_an m g) g = 0
    · rw [if_pos z]; exact h
    · rw [if_neg z]
      refine ih _ _ (fun i hi => ?_)
      rw [Nat.testBit_or, Bool.or_eq_true] at hi
      rcases hi with hi | hi
      · exact h i hi
      · have := ((q_rdT a tx pl l (q_an m g) g i).mp hi).2.1
        rw [q_anT, Bool.and_eq_true] at this
        exact this.1
theorem w_ofE {si g : Nat} (hs : ∀ i, g.testBit i = true → si.testBit i = true) : ∀ (c j : Nat) (f : Nat → Int32) (i : Nat), q_it (fun j f => if si.testBit j = true then va_up f j (f j + (if g.testBit j = true then 1 else 0)) else f) c j f i = if j ≤ i ∧ i < j + c then f i + (if g.testBit i = true then 1 else 0) else f i := by
  intro c
  induction c with
  | zero => intro j f i; rw [if_neg (by omega)]; rfl
  | succ c ih =>
    intro j f i
    show q_it (fun j f => if si.testBit j = true then va_up f j (f j + (if g.testBit j = true then 1 else 0)) else f) c (j + 1) (if si.testBit j = true then va_up f j (f j + (if g.testBit j = true then 1 else 0)) else f) i = _
    rw [ih]
    by_cases e : i = j
    · subst e
      rw [if_neg (show ¬ (i + 1 ≤ i ∧ i < i + 1 + c) by omega), if_pos (show i ≤ i ∧ i < i + (c + 1) by omega)]
      by_cases hb : si.testBit i = true
      · rw [if_pos hb, q_upE]
      · rw [if_neg hb, if_neg (fun z => hb (hs i z)), Int32.add_zero]
    · have ef : (if si.testBit j = true then va_up f j (f j + (if g.testBit j = true then 1 else 0)) else f) i = f i := by
        by_cases hb : si.testBit j = true
        · rw [if_pos hb, q_upN _ _ e]
        · rw [if_neg hb]
      rw [ef]
      by_cases hr : j + 1 ≤ i ∧ i < j + 1 + c
      · rw [if_pos hr, if_pos (show j ≤ i ∧ i < j + (c + 1) by omega)]
      · rw [if_neg hr, if_neg (show ¬ (j ≤ i ∧ i < j + (c + 1)) by omega)]
/-- all lines of a night -/
def w_nt (a tx : Nat → Int32) (c l : Nat) (s : Int32 × (Nat → Int32) × (Nat → Int32) × Int32) : Int32 × (Nat → Int32) × (Nat → Int32) × Int32 := q_it (w_ln a tx (q_pl a) (fun j => a (10 + 6 * j + 2)) (w_si (q_pl a)) (q_an (w_si (q_pl a)) (q_sm a))) c l s
def w_nOK (s : Int32 × (Nat → Int32) × (Nat → Int32) × Int32) (l : Nat) : Prop := (∃ B, B ≤ 99 * l ∧ s.2.2.2 = nI B) ∧ (∀ j, j < 6 → ∃ t, t ≤ l ∧ s.2.1 j = nI t) ∧ (∀ j, j < 6 → ∃ t, t ≤ l ∧ s.2.2.1 j = nI t)
theorem w_ln_OK {a tx : Nat → Int32} {l : Nat} {s : Int32 × (Nat → Int32) × (Nat → Int32) × Int32} (h : w_nOK s l) : w_nOK (w_ln a tx (q_pl a) (fun j => a (10 + 6 * j + 2)) (w_si (q_pl a)) (q_an (w_si (q_pl a)) (q_sm a)) l s) (l + 1) := by
  obtain ⟨⟨B, hB, hBe⟩, h1, h2⟩ := h
  refine ⟨?_, fun j hj => ?_, fun j hj => ?_⟩
  · have hk := w_cgB (cold := fun j => a (10 + 6 * j + 2)) (si := w_si (q_pl a)) 6 0 s.1 s.2.2.1 0
    obtain ⟨b, hb, hbe⟩ := w_lobC a tx l (w_ct (q_wv a tx (q_pl a) l (q_an (w_si (q_pl a)) (q_sm a)) 7 0 0).1) (q_it (w_cg (fun j => a (10 + 6 * j + 2)) (w_si (q_pl a))) 6 0 (s.1, s.2.2.1, 0)).2.2 (nI (q_wv a tx (q_pl a) l (q_an (w_si (q_pl a)) (q_sm a)) 7 0 0).2) (w_ct6 _) (by omega)
    refine ⟨B + b, by omega, ?_⟩
    show s.2.2.2 + q_lo a tx l (q_bits (nI (q_wv a tx (q_pl a) l (q_an (w_si (q_pl a)) (q_sm a)) 7 0 0).1) 10 0 0) _ _ = _
    rw [w_bct _ (w_wv64 a tx (q_pl a) l _ 7 0 0 (by decide)), hbe, hBe, nI_add]
  · obtain ⟨t, t1, t2⟩ := h1 j hj
    show ∃ t, t ≤ l + 1 ∧ s.2.1 j + (if (q_wv a tx (q_pl a) l (q_an (w_si (q_pl a)) (q_sm a)) 7 0 0).1.testBit j = true then 1 else 0) = nI t
    rw [t2]
    by_cases hb : (q_wv a tx (q_pl a) l (q_an (w_si (q_pl a)) (q_sm a)) 7 0 0).1.testBit j = true
    · rw [if_pos hb, nI_1]; exact ⟨t + 1, by omega, rfl⟩
    · rw [if_neg hb, Int32.add_zero]; exact ⟨t, by omega, rfl⟩
  · have := w_cgC (cold := fun j => a (10 + 6 * j + 2)) (si := w_si (q_pl a)) (B := l) 6 0 s.1 s.2.2.1 0 (fun i hi => by
      obtain ⟨t, t1, t2⟩ := h2 i hi
      exact ⟨t, by omega, t2⟩) j hj
    obtain ⟨t, t1, t2⟩ := this
    refine ⟨t, ?_, t2⟩
    rw [if_pos (by omega)] at t1
    exact t1
theorem w_nt_OK {a tx : Nat → Int32} : ∀ (c l : Nat) (s : Int32 × (Nat → Int32) × (Nat → Int32) × Int32), w_nOK s l → w_nOK (w_nt a tx c l s) (l + c) := by
  intro c
  induction c with
  | zero => intro l s h; exact h
  | succ c ih =>
    intro l s h
    rw [show l + (c + 1) = l + 1 + c by omega]
    exact ih (l + 1) _ (w_ln_OK h)
/-- what each has paid behind a night -/
def w_py (a tx : Nat → Int32) (L j : Nat) : Int32 := if (w_si (q_pl a)).testBit j = true then a (10 + 6 * j + 5) + q_du a tx j (q_pl a j / 4) (w_nt a tx L 0 (a 3, fun _ => 0, fun _ => 0, 0)).2.2.2 (nI (w_ct (w_si (q_pl a)))) ((w_nt a tx L 0 (a 3, fun _ => 0, fun _ => 0, 0)).2.1 j) ((w_nt a tx L 0 (a 3, fun _ => 0, fun _ => 0, 0)).2.2.1 j) else a (10 + 6 * j + 5)
abbrev w_V : Nat → Bool := fun k => Nat.beq k 7 || Nat.beq k 12 || (Nat.ble 51 k && Nat.ble k 59)
theorem w_EV {k : Nat} (h : w_E k = true) : w_V k = true := by
  have h' : (Nat.ble 51 k && Nat.ble k 56) = true := h
  show (Nat.beq k 7 || Nat.beq k 12 || (Nat.ble 51 k && Nat.ble k 59)) = true
  simp only [Bool.or_eq_true, Bool.and_eq_true, Nat.beq_eq, Nat.ble_eq] at h' ⊢
  omega
theorem w_V84 {k : Nat} (h : 84 ≤ k) : w_V k = false := by
  cases hv : w_V k with
  | false => rfl
  | true =>
    have h' : (Nat.beq k 7 || Nat.beq k 12 || (Nat.ble 51 k && Nat.ble k 59)) = true := hv
    simp only [Bool.or_eq_true, Bool.and_eq_true, Nat.beq_eq, Nat.ble_eq] at h'
    omega
section
variable {c d n sl : Nat} {ln : Nat → Nat} {di : Nat → Nat → Int32} {dl : Nat → Nat → Int64} {dr : Nat → Nat → Option Nat} {Q : Option Value → q_H → Prop} {a tx pl : Nat → Int32} {P L : Nat}
theorem q_W_FV {e : Nat → Nat → Int32} {x : Int32} (h : q_W n ln di dr a tx P L) (h7 : e 7 = va_up (di 7) 16 x) : q_W n ln (q_F w_V di e) dr a tx P L :=
  q_W_cg h rfl (by show e 7 12 = di 7 12; rw [h7]; rfl) (by show e 7 15 = di 7 15; rw [h7]; rfl) rfl rfl rfl rfl (fun k hk => q_Fo (w_V84 hk))
/-- the class's lines of a night -/
theorem c_pl48 (h : q_W n ln di dr a tx P L) (h11 : ∀ j, j < 6 → di 11 j = q_pl a j) (hst : di 7 11 = nI (q_sm a)) (hpl : w_pl (di 11) (w_si (q_pl a)) P) (hcold : ∀ j, j < 6 → di 10 j = a (10 + 6 * j + 2)) (hg : q_Gr n ln dr) : ∀ (c l : Nat) (s : Int32 × (Nat → Int32) × (Nat → Int32) × Int32) (e : Nat → Nat → Int32), l + c = L → e 7 = va_up (di 7) 16 s.1 → (∀ j, j < 6 → e 58 j = s.2.1 j) → (∀ j, j < 6 → e 59 j = s.2.2.1 j) → e 12 = di 12 → q_CE (e 54) (e 55) (e 56) a tx P L →
    (∀ e' x' o' c', x' = (w_nt a tx c l s).1 → (∀ j, j < 6 → o' j = (w_nt a tx c l s).2.1 j) → (∀ j, j < 6 → c' j = (w_nt a tx c l s).2.2.1 j) → e' 7 = va_up (di 7) 16 x' → e' 58 = o' → e' 59 = c' → e' 12 = di 12 → q_CE (e' 54) (e' 55) (e' 56) a tx P L → q_EX q_KD (d + 5) 68 106 [.ref 57, .int (nI (w_si (q_pl a))), .int (w_nt a tx c l s).2.2.2, .int 0] [] (n, sl, ln, q_F w_V di e', dl, dr) Q) →
    q_EX q_KD (d + 5) 68 48 [.ref 57, .int (nI (w_si (q_pl a))), .int s.2.2.2, .int (nI l)] [] (n, sl, ln, q_F w_V di e, dl, dr) Q := by
  have hL := h.2.2.1
  have hsl := w_siL (q_pl a)
  intro c
  induction c with
  | zero =>
    intro l s e hl e7 e58 e59 e12 hCE k
    have h12 : q_F w_V di e 7 12 = nI L := by show e 7 12 = nI L; rw [e7]; exact h.2.2.2.1
    exact g68_48 hg (fun _ => k e s.1 (e 58) (e 59) rfl e58 e59 e7 rfl rfl e12 hCE) (fun w => absurd w (by rw [h12]; exact nI_nlt (by omega) (by omega)))
  | succ c ih =>
    intro l s e hl e7 e58 e59 e12 hCE k
    have h12 : q_F w_V di e 7 12 = nI L := by show e 7 12 = nI L; rw [e7]; exact h.2.2.2.1
    have h711 : q_F w_V di e 7 11 = nI (q_sm a) := by show e 7 11 = _; rw [e7]; exact hst
    refine g68_48 hg (fun w => absurd w (by rw [h12]; exact nI_ge (by omega) (by omega))) (fun _ => ?_)
    rw [h711]
    refine c_listen (d := d) (di := q_F w_V di e) (sa := 11) (by omega) hpl rfl (q_lt hg rfl) (hg.2.1 11 6 rfl) rfl (q_W_FV h e7) hCE hg (fun e1 q1 q2 q3 => ?_)
    rw [q_FFs (fun k hk => w_EV hk)]
    have ewv : q_wv a tx (q_F w_V di e 11) l (q_an (w_si (q_pl a)) (q_sm a)) 7 0 0 = q_wv a tx (q_pl a) l (q_an (w_si (q_pl a)) (q_sm a)) 7 0 0 := q_wv_cg h11 7 0 0
    rw [ewv] at q1 q2
    obtain ⟨G, hG⟩ : ∃ G, G = (q_wv a tx (q_pl a) l (q_an (w_si (q_pl a)) (q_sm a)) 7 0 0).1 := ⟨_, rfl⟩
    have hG64 : G < 64 := by rw [hG]; exact w_wv64 _ _ _ _ _ 7 0 0 (by decide)
    have hGs : ∀ i, G.testBit i = true → (w_si (q_pl a)).testBit i = true := fun i hi => by
      have := w_wv_sub a tx (q_pl a) l (q_an (w_si (q_pl a)) (q_sm a)) 7 0 0 (fun i hi => by rw [Nat.zero_testBit] at hi; exact absurd hi (by decide)) i (by rw [← hG]; exact hi)
      rw [q_anT, Bool.and_eq_true] at this
      exact this.1
    rw [← hG] at q1
    -- the heap before counting, in the form that count takes
    obtain ⟨E, hE⟩ : ∃ E, E = q_F w_V di (q_F w_E e e1) := ⟨_, rfl⟩
    have hEf : E = va_up (va_up (va_up E 58 (E 58)) 59 (E 59)) 7 (va_up (E 7) 16 s.1) := by
      have e16 : E 7 16 = s.1 := by rw [hE]; show e 7 16 = s.1; rw [e7]; rfl
      rw [q_upid, q_upid, ← e16, q_upid, q_upid]
    rw [← hE]
    refine g68_82 hg (g78_0 hg ?_)
    rw [hEf]
    refine c_cnt4 (di := E) (cold := fun j => a (10 + 6 * j + 2)) hsl hG64 (by rw [hE]; exact q1) (fun j hj => by rw [hE]; exact hcold j hj) hg 6 0 s.1 (E 58) (E 59) 0 rfl (g68_93 hg ?_)
    have E59 : ∀ j, j < 6 → E 59 j = s.2.2.1 j := fun j hj => by rw [hE]; exact e59 j hj
    have E58 : ∀ j, j < 6 → E 58 j = s.2.1 j := fun j hj => by rw [hE]; exact e58 j hj
    obtain ⟨z1, z2, z3⟩ := w_cg_cg (cold := fun j => a (10 + 6 * j + 2)) (cold' := fun j => a (10 + 6 * j + 2)) (si := w_si (q_pl a)) (fun _ _ => rfl) 6 0 s.1 s.2.2.1 (E 59) 0 (by decide) E59
    have hk6 := w_cgB (cold := fun j => a (10 + 6 * j + 2)) (si := w_si (q_pl a)) 6 0 s.1 s.2.2.1 0
    rw [z1, z2]
    obtain ⟨N, hN⟩ : ∃ N, N = (q_it (w_cg (fun j => a (10 + 6 * j + 2)) (w_si (q_pl a))) 6 0 (s.1, s.2.2.1, 0)).2.2 := ⟨_, rfl⟩
    rw [← hN] at hk6 ⊢
    -- fold the writes
    obtain ⟨x1, hx1⟩ : ∃ x1, x1 = (q_it (w_cg (fun j => a (10 + 6 * j + 2)) (w_si (q_pl a))) 6 0 (s.1, s.2.2.1, 0)).1 := ⟨_, rfl⟩
    rw [← hx1]
    obtain ⟨F, hF⟩ : ∃ F, F = va_up (va_up (va_up E 58 (q_it (fun j f => if (w_si (q_pl a)).testBit j = true then va_up f j (f j + (if G.testBit j = true then 1 else 0)) else f) 6 0 (E 58))) 59 (q_it (w_cg (fun j => a (10 + 6 * j + 2)) (w_si (q_pl a))) 6 0 (s.1, E 59, 0)).2.1) 7 (va_up (E 7) 16 x1) := ⟨_, rfl⟩
    rw [← hF]
    have FE : ∀ k, ¬ k = 58 → ¬ k = 59 → ¬ k = 7 → F k = E k := fun k g1 g2 g3 => by rw [hF, q_upN _ _ g3, q_upN _ _ g2, q_upN _ _ g1]
    have F7 : F 7 = va_up (di 7) 16 x1 := by
      rw [hF, q_upE, hE]
      show va_up (e 7) 16 x1 = _
      rw [e7, q_upup]
    have F58 : ∀ j, j < 6 → F 58 j = w_ofs G s.2.1 j := fun j hj => by
      rw [hF, q_upN _ _ (show ¬ 58 = 7 by decide), q_upN _ _ (show ¬ 58 = 59 by decide), q_upE, w_ofE hGs, if_pos (by omega), E58 j hj]
      rfl
    have F59 : ∀ j, j < 6 → F 59 j = (q_it (w_cg (fun j => a (10 + 6 * j + 2)) (w_si (q_pl a))) 6 0 (s.1, s.2.2.1, 0)).2.1 j := fun j hj => by
      rw [hF, q_upN _ _ (show ¬ 59 = 7 by decide), q_upE]; exact z3 j hj
    have FV : F = q_F w_V di F := q_Fin (fun k hk => by
      have g1 : ¬ k = 58 := fun e => by rw [e] at hk; exact absurd hk (by decide)
      have g2 : ¬ k = 59 := fun e => by rw [e] at hk; exact absurd hk (by decide)
      have g3 : ¬ k = 7 := fun e => by rw [e] at hk; exact absurd hk (by decide)
      rw [FE k g1 g2 g3, hE]
      exact q_Fo hk)
    have F53 : F 53 = e1 53 := by rw [FE 53 (by decide) (by decide) (by decide), hE]; rfl
    have F54 : F 54 = e1 54 := by rw [FE 54 (by decide) (by decide) (by decide), hE]; rfl
    have F55 : F 55 = e1 55 := by rw [FE 55 (by decide) (by decide) (by decide), hE]; rfl
    have F56 : F 56 = e1 56 := by rw [FE 56 (by decide) (by decide) (by decide), hE]; rfl
    have F12 : F 12 = di 12 := by rw [FE 12 (by decide) (by decide) (by decide), hE]; exact e12
    have FW : q_W n ln F dr a tx P L := by rw [FV]; exact q_W_FV h F7
    refine c_loudX (d := d + 1) (di := F) (l := l) (g := G) (R := (q_wv a tx (q_pl a) l (q_an (w_si (q_pl a)) (q_sm a)) 7 0 0).2) (c := N) (by omega) hG64 (w_wv6 _ _ _ _ _ 7 0 0 (Nat.zero_le _)) (by omega) (by rw [F53]; exact q1) (by rw [F53]; exact q2) FW (by rw [F54, F55, F56]; exact q3) hg (fun e2 p53 p54 => g68_96 hg ?_)
    rw [nI_1]
    have est : w_nt a tx (c + 1) l s = w_nt a tx c (l + 1) (w_ln a tx (q_pl a) (fun j => a (10 + 6 * j + 2)) (w_si (q_pl a)) (q_an (w_si (q_pl a)) (q_sm a)) l s) := rfl
    rw [est] at k
    have eheap : q_F w_E F e2 = q_F w_V di (q_F w_E F e2) := by
      rw [← q_FFs (fun k hk => w_EV hk), ← FV]
    have ebill : s.2.2.2 + q_lo a tx l (q_bits (nI G) 10 0 0) (nI (q_wv a tx (q_pl a) l (q_an (w_si (q_pl a)) (q_sm a)) 7 0 0).2) (nI N) = (w_ln a tx (q_pl a) (fun j => a (10 + 6 * j + 2)) (w_si (q_pl a)) (q_an (w_si (q_pl a)) (q_sm a)) l s).2.2.2 := by rw [hG, hN]; rfl
    rw [ebill, eheap]
    refine ih (l + 1) (w_ln a tx (q_pl a) (fun j => a (10 + 6 * j + 2)) (w_si (q_pl a)) (q_an (w_si (q_pl a)) (q_sm a)) l s) (q_F w_E F e2) (by omega) ?_ (fun j hj => ?_) (fun j hj => ?_) F12 p54 k
    · show F 7 = _
      rw [F7, hx1]; rfl
    · show F 58 j = _
      rw [F58 j hj, hG]; rfl
    · show F 59 j = _
      rw [F59 j hj]; rfl
end
