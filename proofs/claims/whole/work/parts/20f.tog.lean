section
variable {d n sl : Nat} {ln : Nat → Nat} {di : Nat → Nat → Int32} {dl : Nat → Nat → Int64} {dr : Nat → Nat → Option Nat} {Q : Option Value → q_H → Prop} {a tx : Nat → Int32} {P L : Nat}
theorem c_tog6 {p st sa en : Nat} (hen : en < 2 ^ 31) (hpl : w_pl (di sa) p P) (hks : q_KD sa = 20) (hns : sa < n) (hls : ln sa = 6) (hsE : w_E sa = false) (hW : q_W n ln di dr a tx P L) (hg : q_Gr n ln dr) : ∀ (c l acc : Nat) (e : Nat → Nat → Int32), l + c = L → acc ≤ 99 * l → q_CE (e 54) (e 55) (e 56) a tx P L →
    (∀ e' y, y ≤ 990 → q_CE (e' 54) (e' 55) (e' 56) a tx P L → (∀ T, T ≤ 990 → q_it (fun l s => s + q_lb a tx (di sa) l (q_an p st)) c l (nI acc) = nI T → (T < en → y = T) ∧ (en ≤ T → en ≤ y)) → Q (some (.int (nI y))) (n, sl, ln, q_F w_E di e', dl, dr)) →
    q_EX q_KD (d + 5) 90 6 [.ref 53, .int (nI p), .int (nI st), .ref sa, .int (nI en), .int (nI acc), .int (nI l)] [] (n, sl, ln, q_F w_E di e, dl, dr) Q := by
  have hL := hW.2.2.1
  intro c
  induction c with
  | zero =>
    intro l acc e hl hacc hCE k
    have h12 : q_F w_E di e 7 12 = nI L := hW.2.2.2.1
    refine g90_6 hg hks hns (fun _ => k e acc (by omega) hCE (fun T hT h => ?_)) (fun c => absurd c (by rw [h12]; exact nI_nlt (by omega) (by omega))) (fun c => absurd c (by rw [h12]; exact nI_nlt (by omega) (by omega)))
    have : acc = T := (nI_eq (by omega) (by omega)).mp h
    omega
  | succ c ih =>
    intro l acc e hl hacc hCE k
    have h12 : q_F w_E di e 7 12 = nI L := hW.2.2.2.1
    have hsa : q_F w_E di e sa = di sa := q_Fo hsE
    refine g90_6 hg hks hns (fun c' => absurd c' (by rw [h12]; exact nI_ge (by omega) (by omega))) (fun _ c' => k e acc (by omega) hCE (fun T hT h => ?_)) (fun _ _ => ?_)
    · have h1 := (nI_leI (by omega) (by omega)).mp c'
      obtain ⟨T', t1, t2, t3⟩ := w_alb a tx (di sa) (q_an p st) (c + 1) l acc
      rw [h] at t3
      have : T = T' := (nI_eq (by omega) (by omega)).mp t3
      omega
    · refine c_listen (d := d) (di := q_F w_E di e) (l := l) (p := p) (st := st) (sa := sa) (by omega) (by rw [hsa]; exact hpl) hks hns hls hsE (q_W_F hW) hCE hg (fun e1 q1 q2 q3 => ?_)
      rw [q_FF]
      rw [hsa] at q1 q2
      refine g90_34 hg hks hns (c_loudX (d := d + 1) (di := q_F w_E di e1) (l := l) (c := 0) (by omega) (w_wv64 a tx (di sa) l (q_an p st) 7 0 0 (by decide)) (w_wv6 a tx (di sa) l (q_an p st) 7 0 0 (Nat.zero_le _)) (by decide) q1 q2 (q_W_F hW) q3 hg (fun e2 _ q5 => g90_43 hg hks hns ?_))
      rw [q_FF, nI_1]
      obtain ⟨b, hb1, hb2⟩ := w_lbb a tx (di sa) l (q_an p st)
      have hb3 : q_lo a tx l (q_bits (nI (q_wv a tx (di sa) l (q_an p st) 7 0 0).1) 10 0 0) (nI (q_wv a tx (di sa) l (q_an p st) 7 0 0).2) (nI 0) = nI b := hb2
      rw [hb3, nI_add]
      refine ih (l + 1) (acc + b) e2 (by omega) (by omega) q5 (fun e' y r0 r1 r2 => k e' y r0 r1 (fun T hT h => r2 T hT ?_))
      have h' : q_it (fun l s => s + q_lb a tx (di sa) l (q_an p st)) c (l + 1) (nI acc + q_lb a tx (di sa) l (q_an p st)) = nI T := h
      rw [hb2, nI_add] at h'
      exact h'
/-- Ear.together -/
theorem c_tog {p st sa en : Nat} (hen : en < 2 ^ 31) (hpl : w_pl (di sa) p P) (hks : q_KD sa = 20) (hns : sa < n) (hls : ln sa = 6) (hsE : w_E sa = false) (hW : q_W n ln di dr a tx P L) (hCE : q_CE (di 54) (di 55) (di 56) a tx P L) (hg : q_Gr n ln dr)
    (k : ∀ e' y, y ≤ 990 → q_CE (e' 54) (e' 55) (e' 56) a tx P L → (∀ T, T ≤ 990 → q_al a tx (di sa) (q_an p st) L = nI T → (T < en → y = T) ∧ (en ≤ T → en ≤ y)) → Q (some (.int (nI y))) (n, sl, ln, q_F w_E di e', dl, dr)) :
    q_EX q_KD (d + 5) 90 0 [.ref 53, .int (nI p), .int (nI st), .ref sa, .int (nI en), .retAddr 0, .retAddr 0] [] (n, sl, ln, di, dl, dr) Q := by
  refine g90_0 hg hks hns ?_
  have := c_tog6 (d := d) (sl := sl) (dl := dl) (Q := Q) (st := st) hen hpl hks hns hls hsE hW hg L 0 0 di (by omega) (by omega) hCE k
  rwa [q_Fid] at this
end
/-- those who sit -/
def w_si (pl : Nat → Int32) : Nat := q_it (fun j x => if ¬ pl j = -1 then x ||| 2 ^ j else x) 6 0 0
theorem w_siT (pl : Nat → Int32) (i : Nat) : (w_si pl).testBit i = decide (i < 6 ∧ ¬ pl i = -1) := by
  unfold w_si
  rw [q_mkT (p := fun j => ¬ pl j = -1), Nat.zero_testBit, Bool.false_or]
  exact decide_eq_decide.mpr ⟨fun h => ⟨by omega, h.2.2⟩, fun h => ⟨by omega, by omega, h.2⟩⟩
theorem w_siL (pl : Nat → Int32) : w_si pl < 64 := q_mkL (p := fun j => ¬ pl j = -1) (K := 6) 6 0 0 (by decide) (by decide)
theorem w_sitI (pl : Nat → Int32) : ∀ (c j acc : Nat), j + c ≤ 6 → q_sit pl c j (nI acc) = nI (q_it (fun j x => if ¬ pl j = -1 then x ||| 2 ^ j else x) c j acc) := by
  intro c
  induction c with
  | zero => intro j acc _; rfl
  | succ c ih =>
    intro j acc hj
    show q_sit pl c (j + 1) (if pl j = -1 then nI acc else nI acc ||| ((1 : Int32) <<< (nI j &&& 31))) = nI (q_it (fun j x => if ¬ pl j = -1 then x ||| 2 ^ j else x) c (j + 1) (if ¬ pl j = -1 then acc ||| 2 ^ j else acc))
    by_cases h : pl j = -1
    · rw [if_pos h, if_neg (fun z => z h)]; exact ih (j + 1) acc (by omega)
    · rw [if_neg h, if_pos h, q_sh (by omega), fa_or]; exact ih (j + 1) _ (by omega)
theorem w_sit6 (pl : Nat → Int32) : q_sit pl 6 0 0 = nI (w_si pl) := w_sitI pl 6 0 0 (by decide)
theorem w_si_cg {pl pl' : Nat → Int32} (h : ∀ j, j < 6 → pl' j = pl j) : w_si pl' = w_si pl := q_itC 6 0 0 (fun i x _ h2 => by rw [h i (by omega)])
/-- the meaning looks at the set of those only who have a place -/
theorem w_rd_m {a tx pl pl' : Nat → Int32} {l m m' g : Nat} (hm : ∀ j, j < 6 → ((m.testBit j = true ∧ (0 : Int32) ≤ pl j) ↔ (m'.testBit j = true ∧ (0 : Int32) ≤ pl' j))) (hp : ∀ j, j < 6 → m.testBit j = true → (0 : Int32) ≤ pl j → pl' j = pl j) (hg : ∀ j, j < 6 → g.testBit j = true → pl' j = pl j) (hg64 : g < 64) : q_rd a tx pl' l (q_an m' g) g = q_rd a tx pl l (q_an m g) g := by
  refine q_ext (k := 6) (q_rdL _ _ _ _ _ _) (q_rdL _ _ _ _ _ _) (fun j hj => ?_)
  rw [Bool.eq_iff_iff, q_rdT, q_rdT]
  have key : ∀ (pj : pl' j = pl j), q_la a tx l j (pl' j / 4) (q_nearOf (nI g) pl' j 6 0 0) (q_bits (nI g) 10 0 0) = q_la a tx l j (pl j / 4) (q_nearOf (nI g) pl j 6 0 0) (q_bits (nI g) 10 0 0) := fun pj => by
    have e : q_nearOf (nI g) pl' j 6 0 0 = q_nearOf (nI g) pl j 6 0 0 := by
      refine q_itC 6 0 0 (fun i y _ h2 => ?_)
      by_cases hb : g.testBit i = true
      · rw [pj, hg i (by omega) hb]
      · have hz : ¬ ((nI g >>> (nI i &&& 31)) &&& 1) = 1 := fun z => hb ((q_bt1 (by omega) (by omega)).mp z)
        rw [if_neg (fun z => hz z.1), if_neg (fun z => hz z.1)]
    rw [e, pj]
  unfold q_cm2
  rw [q_anT, q_anT, Bool.and_eq_true, Bool.and_eq_true]
  constructor
  · rintro ⟨h1, ⟨h2, h3⟩, h4, h5⟩
    have hh := (hm j hj).mpr ⟨h2, h4⟩
    have pj := hp j hj hh.1 hh.2
    exact ⟨h1, ⟨hh.1, h3⟩, hh.2, by rw [← key pj]; exact h5⟩
  · rintro ⟨h1, ⟨h2, h3⟩, h4, h5⟩
    have hh := (hm j hj).mp ⟨h2, h4⟩
    have pj := hp j hj h2 h4
    exact ⟨h1, ⟨hh.1, h3⟩, hh.2, by rw [key pj]; exact h5⟩
theorem w_wv_m {a tx pl pl' : Nat → Int32} {l m m' : Nat} (hm : ∀ j, j < 6 → ((m.testBit j = true ∧ (0 : Int32) ≤ pl j) ↔ (m'.testBit j = true ∧ (0 : Int32) ≤ pl' j))) (hp : ∀ j, j < 6 → m.testBit j = true → (0 : Int32) ≤ pl j → pl' j = pl j) : ∀ (f g r : Nat), g < 64 → (∀ j, j < 6 → g.testBit j = true → pl' j = pl j) → q_wv a tx pl' l m' f g r = q_wv a tx pl l m f g r := by
  intro f
  induction f with
  | zero => intro g r _ _; rfl
  | succ f ih =>
    intro g r hg64 hg
    unfold q_wv
    rw [w_rd_m hm hp hg hg64]
    by_cases z : q_rd a tx pl l (q_an m g) g = 0
    · rw [if_pos z, if_pos z]
    · rw [if_neg z, if_neg z]
      refine ih _ _ (q_orlt (k := 6) hg64 (q_rdL _ _ _ _ _ _)) (fun j hj hb => ?_)
      rw [Nat.testBit_or, Bool.or_eq_true] at hb
      rcases hb with hb | hb
      · exact hg j hj hb
      · have := ((q_rdT a tx pl l (q_an m g) g j).mp hb).2
        have h1 := this.1
        rw [q_anT, Bool.and_eq_true] at h1
        exact hp j hj h1.1 this.2.1
theorem w_lb_m {a tx pl pl' : Nat → Int32} {l m m' : Nat} (hm : ∀ j, j < 6 → ((m.testBit j = true ∧ (0 : Int32) ≤ pl j) ↔ (m'.testBit j = true ∧ (0 : Int32) ≤ pl' j))) (hp : ∀ j, j < 6 → m.testBit j = true → (0 : Int32) ≤ pl j → pl' j = pl j) : q_lb a tx pl' l m' = q_lb a tx pl l m := by
  unfold q_lb
  rw [w_wv_m hm hp 7 0 0 (by decide) (fun j _ h => by rw [Nat.zero_testBit] at h; exact absurd h (by decide))]
theorem w_al_m {a tx pl pl' : Nat → Int32} {m m' L : Nat} (hm : ∀ j, j < 6 → ((m.testBit j = true ∧ (0 : Int32) ≤ pl j) ↔ (m'.testBit j = true ∧ (0 : Int32) ≤ pl' j))) (hp : ∀ j, j < 6 → m.testBit j = true → (0 : Int32) ≤ pl j → pl' j = pl j) : q_al a tx pl' m' L = q_al a tx pl m L :=
  q_itC L 0 0 (fun i y _ _ => by rw [w_lb_m hm hp])
