theorem t_tyr {r : Nat → Int32} {T L : Nat} {cs : List (Nat × Nat)} (h : t_cod r T cs) : ∀ (c F : Nat) (s : Nat × Nat), F + c ≤ cs.length → q_tyr r (680 * T + 75) L c F s = t_lt L ((cs.drop F).take c) s := by
  intro c
  induction c with
  | zero => intro F s _; rw [List.take_zero]; rfl
  | succ c ih =>
    intro F s hF
    have hl : F < cs.length := by omega
    have e : (cs.drop F).take (c + 1) = cs[F] :: (cs.drop (F + 1)).take c := by rw [List.drop_eq_getElem_cons hl, List.take_succ_cons]
    have g : cs.getD F (0, 0) = cs[F] := by rw [List.getD_eq_getElem?_getD, List.getElem?_eq_getElem hl]; rfl
    rw [e]
    unfold q_tyr t_lt
    rw [(h F hl).1, (h F hl).2, g]
    cases q_tq L (nI cs[F].1) (nI cs[F].2) s.1 s.2 with
    | none => rfl
    | some s' => exact ih (F + 1) s' (by omega)
theorem t_getD3m {ks : List t_k3} {i : Nat} (h : i < ks.length) : ks.getD i (0, 0, 0) ∈ ks := by
  rw [List.getD_eq_getElem?_getD, List.getElem?_eq_getElem h]
  exact List.getElem_mem h
theorem t_getDm {cs : List (Nat × Nat)} {i : Nat} (h : i < cs.length) : cs.getD i (0, 0) ∈ cs := by
  rw [List.getD_eq_getElem?_getD, List.getElem?_eq_getElem h]
  exact List.getElem_mem h
/-- the new script is the new text -/
theorem t_TXnew {ln : Nat → Nat} {di E : Nat → Nat → Int32} {z T j : Nat} {tx : Nat → Int32} {ks : List t_k3} {cs : List (Nat × Nat)} {A : Int32} (hK : t_KG ks cs j A) (hcs : cs.length ≤ 300) (hrow : ∀ i, i < 6 → ln (z + 1 + i) = (t_lens cs.length ks.length).getD i 0 ∧ ∀ p, p < (t_lens cs.length ks.length).getD i 0 → di (z + 1 + i) p = E (44 + i) p) (h6 : di z 6 = A)
    (r44 : t_r44 (E 44) cs) (r456 : t_r456 (E 45) (E 46) ks) (r479 : t_r479 (E 47) (E 48) (E 49) ks) (t0 : tx (680 * T) = nI ks.length) (thd : t_hd tx T ks) (tcd : t_cod tx T cs) : q_TX ln di z tx T := by
  obtain ⟨g1, g2, g3, g4, g5, g6⟩ := hK
  have q0 := hrow 0 (by decide)
  have q1 := hrow 1 (by decide)
  have q2 := hrow 2 (by decide)
  have q3 := hrow 3 (by decide)
  have q4 := hrow 4 (by decide)
  have q5 := hrow 5 (by decide)
  refine ⟨ks.length, cs.length, g1, hcs, t0, q0.1, q1.1, q2.1, q3.1, q4.1, q5.1, fun k hk => ?_, fun x hx hn => ?_, fun i hi => ?_⟩
  · obtain ⟨k3, hk3⟩ : ∃ k3, k3 = ks.getD k (0, 0, 0) := ⟨_, rfl⟩
    have hm : k3 ∈ ks := by rw [hk3]; exact t_getD3m hk
    have hh := thd k hk
    have hr := r479 k hk
    rw [← hk3] at hh hr
    obtain ⟨a1, a2, a3, a4⟩ := g3 k3 hm
    refine ⟨k3.1, a1, hh.1, ?_, fun h3 h5 => ⟨k3.2.1, a2 h3 h5, hh.2.1 h5, ?_⟩, fun h3 => ⟨k3.2.2, a3 h3, hh.2.2 (by omega), ?_⟩, fun h3 => ?_⟩
    · rw [q3.2 k hk]; exact hr.1
    · rw [q4.2 k hk]; exact hr.2.1 h3 h5
    · rw [q5.2 k hk]; exact hr.2.2 h3
    · obtain ⟨b1, b2, b3⟩ := a4 h3
      obtain ⟨c1, c2⟩ := (r456 k3.1 h3).2 k3 hm rfl
      refine ⟨k3.2.1, k3.2.2, b1, b2, hh.2.1 (by omega), hh.2.2 (by omega), ?_, ?_, ?_, fun h0 hz i i1 i2 w => ?_⟩
      · rw [q1.2 k3.1 h3]; exact c1
      · rw [q2.2 k3.1 h3]; exact c2
      · rw [t_tyr tcd _ _ _ (by omega)]; exact b3.2
      · have hi : i < cs.length := by omega
        obtain ⟨e1, e2⟩ := tcd i hi
        obtain ⟨l1, l2⟩ := g4 _ (t_getDm hi)
        rw [e1, e2] at w
        refine g5 (by rw [← h6]; exact hz) k3 hm h0 i i1 i2 ⟨(nI_eq (b := 1) (by omega) (by decide)).mp w.1, ?_⟩
        rcases w.2 with y | y
        · exact Or.inl ((nI_eq (b := 2) (by omega) (by decide)).mp y)
        · exact Or.inr ((nI_eq (b := 5) (by omega) (by decide)).mp y)
  · have hni : ¬ x ∈ ks.map (fun k => k.1) := fun m => by
      obtain ⟨k3, m1, m2⟩ := List.mem_map.mp m
      obtain ⟨i, i1, i2⟩ := List.mem_iff_getElem.mp m1
      have := (thd i i1).1
      rw [List.getD_eq_getElem?_getD, List.getElem?_eq_getElem i1] at this
      have e : ks[i].1 = x := by rw [i2]; exact m2
      exact hn i i1 (by rw [this]; show nI ks[i].1 = nI x; rw [e])
    obtain ⟨c1, c2⟩ := (r456 x hx).1 hni
    rw [q1.2 x hx, q2.2 x hx]
    show ¬ E 45 x < E 46 x
    rw [c1, c2]
    decide
  · rw [q0.2 i hi]
    show E 44 i = _
    rw [r44 i hi, (tcd i hi).1, (tcd i hi).2]
/-- the heap with a script more -/
theorem t_GrN {n W K B sl : Nat} {ln ln' : Nat → Nat} {di0 di' : Nat → Nat → Int32} {dr dr' : Nat → Nat → Option Nat} (hg : q_Gr n ln dr) (hn : (n - 84) % 7 = 0) (h : t_SI n W K B ln di0 dr 6 (n + 7) sl ln' di' dr') : q_Gr (n + 7) ln' dr' := by
  obtain ⟨h1, h2, h3, h4⟩ := hg
  obtain ⟨s1, s2, s3, s4⟩ := h
  refine ⟨by omega, fun k L hk => ?_, fun k j b hk => ?_, fun s j hs hj => ?_⟩
  · have := t_lO84 hk
    rw [(s3 k (by omega)).1]; exact h2 k L hk
  · have := t_rO84 hk
    rw [(s3 k (by omega)).2.2]; exact h3 k j b hk
  · obtain ⟨a1, a2, a3⟩ := hs
    by_cases e : s = n
    · subst e; exact (s4 j hj).1
    · have : s + 6 < n := by omega
      rw [(s3 s (by omega)).2.2]
      exact h4 s j ⟨a1, a2, this⟩ hj
section
variable {d n sl N F : Nat} {ln : Nat → Nat} {dl : Nat → Nat → Int64} {dr : Nat → Nat → Option Nat} {Q : Option Value → q_H → Prop} {bt : Nat → Int32} {di : Nat → Nat → Int32}
/-- text of the class -/
theorem c_textX {C T : Nat} (hN : N ≤ 300) (h3 : di 40 3 = nI N) (hb : ∀ i, i < N → di 41 i &&& 255 = bt i) (h5 : ∀ i, i < 134 → di 5 i = q_byt.getD i 0) (hn3 : ∀ i, i < 3 → di 3 i = q_nol.getD i 0) (hg : q_Gr n ln dr) (hn : (n - 84) % 7 = 0) (hC : C ≤ N) (hC1 : t_tc N bt C = 131) (hC2 : ∀ j, j < C → ¬ t_tc N bt j = 131) (hF : 3010 ≤ F) (hT : T ≤ 4) (h14 : di 7 14 = nI T)
    (k4 : T = 4 → Q (some (.int (-1))) (n, sl, ln, di, dl, dr))
    (k1 : T < 4 → ∀ H0 j' ks' cs' A' E' sl' ln' di' dl' dr', (∀ k, t_nr k → ¬ k = 40 → ¬ k = 42 → ¬ k = 43 → H0 k = di k) → (∀ i, ¬ i = 4 → H0 40 i = di 40 i) → t_TT F (t_tc N bt) 26 [] [] 0 = (0, j', ks', cs') → t_KG ks' cs' j' A' → t_XX H0 (t_tc N bt) ks' cs' A' j' E' → j' ≤ C → t_SI n cs'.length ks'.length (sl + 400) ln (q_u E' 40 3 0) dr 6 (n + 7) sl' ln' di' dr' → Q (some (.int (nI T))) (n + 7, sl', ln', q_u (q_u di' n 6 A') 7 14 (nI (T + 1)), dl', q_u dr' 16 T (some n)))
    (k0 : T < 4 → ∀ H0 fl p ks' cs' E', (∀ k, t_nr k → ¬ k = 40 → ¬ k = 42 → ¬ k = 43 → H0 k = di k) → (∀ i, ¬ i = 4 → H0 40 i = di 40 i) → t_TT F (t_tc N bt) 26 [] [] 0 = (fl, p, ks', cs') → ¬ fl = 0 → fl ≤ 6 → p ≤ C → t_XE H0 (nI fl) (nI (t_bg N bt p)) E' → Q (some (.int (-1))) (n, sl, ln, q_u E' 40 3 0, dl, dr)) :
    q_EX q_KD (d + 62) 21 0 [.ref 6, .retAddr 0] [] (n, sl, ln, di, dl, dr) Q := by
  have n84 := hg.1
  have W0 : q_W8 [] := Nat.le_of_ble_eq_true rfl
  refine x_aload_n 0 i21_0 rfl (x_getR 1 7 i21_1 rfl (q_lt hg rfl) (by decide) rfl (hg.2.2.1 6 0 7 rfl) (x_getI 4 14 (nI T) i21_4 rfl (q_lt hg rfl) (by decide) (Or.inl rfl) rfl h14 (x_iconst 7 4 i21_7 rfl (x_icmp_lt 8 13 i21_8 rfl (fun c => ?_) (fun c => x_iconst 11 (-1) i21_11 rfl (x_iretI 12 i21_12 rfl (k4 ?_)))))))
  · have hT4 : T < 4 := (nI_ltI (b := 4) (by omega) (by decide)).mp c
    refine x_aload_n 13 i21_13 rfl (x_getR 14 39 i21_14 rfl (q_lt hg rfl) (by decide) rfl (hg.2.2.1 6 2 39 rfl) (x_cv 17 (as := []) (rs := []) i21_17 rfl rfl rfl rfl (Nat.le_of_ble_eq_true rfl) (q_lt hg rfl) rfl (Or.inr (by decide)) (Nat.le_of_ble_eq_true rfl) rfl rfl ?_))
    refine c_readX (d := d) hN h3 hb h5 hn3 hg hC hC1 hC2 hF (fun H0 j' ks' cs' A' E' f1 f2 eT hK hX hj' => ?_) (fun H0 fl p ks' cs' E' f1 f2 eT hfl hfl6 hp hE => ?_)
    · refine x_istore_n 20 (ls2 := [.ref 6, .int 1]) i21_20 (Nat.le_of_ble_eq_true rfl) rfl (x_aload_n 21 i21_21 rfl (x_getR 22 39 i21_22 rfl (q_lt hg rfl) (by decide) rfl (hg.2.2.1 6 2 39 rfl) (x_getR 25 40 i21_25 rfl (q_lt hg rfl) (by decide) rfl (hg.2.2.1 39 0 40 rfl) (x_iconst 28 0 i21_28 rfl (x_putI 29 3 i21_29 rfl (by decide) (q_lt hg rfl) rfl rfl (x_iload_n 32 i21_32 rfl (x_if_eq 33 57 i21_33 rfl (fun c => absurd c (by decide)) (fun _ => ?_))))))))
      have kn : q_KD n = 6 := q_kS (n := n + 7) ⟨n84, hn, by omega⟩
      have hz0 : q_scr (n + 7) n := ⟨n84, hn, by omega⟩
      refine x_aload_n 36 i21_36 rfl (x_getR 37 7 i21_37 rfl (q_lt hg rfl) (by decide) rfl (hg.2.2.1 6 0 7 rfl) (x_new 40 i21_40 kn (x_dup 43 i21_43 rfl (x_aload_n 44 i21_44 rfl (x_getR 45 39 i21_45 rfl (by omega) (by decide) rfl ?_ (x_ci 48 (a := n) (as := [.ref 39]) (rs := [.ref n, .ref 7]) i21_48 rfl rfl rfl rfl (Nat.le_of_ble_eq_true rfl) (Nat.le_of_ble_eq_true rfl) rfl rfl ?_))))))
      · rw [q_upN _ _ (show ¬ 6 = n by omega)]; exact hg.2.2.1 6 2 39 rfl
      · have X9 : (q_u E' 40 3 0) 39 9 = nI cs'.length := hX.2.2.2.1
        have X10 : (q_u E' 40 3 0) 39 10 = nI ks'.length := hX.2.2.2.2.1
        have X12 : (q_u E' 40 3 0) 39 12 = A' := hX.2.2.2.2.2.1
        have S0 : t_SI n cs'.length ks'.length (sl + 7) ln (q_u E' 40 3 0) dr 0 (n + 1) (sl + 7) ln (va_up (q_u E' 40 3 0) n (fun _ => 0)) (va_up dr n (fun _ => none)) :=
          ⟨rfl, Nat.le_refl _, fun k hk => ⟨rfl, q_upN _ _ (by omega), q_upN _ _ (by omega)⟩, fun i hi => absurd hi (Nat.not_lt_zero i)⟩
        refine c_scr (d := d + 60) hz0 (by have := hK.2.1; omega) hK.1 hg.2.1 hg.2.2.1 X9 X10 X12 hK.2.2.2.2.2 S0 (fun sl' ln' di' dl' dr' S6 => ?_)
        have S6' : t_SI n cs'.length ks'.length (sl + 400) ln (q_u E' 40 3 0) dr 6 (n + 7) sl' ln' di' dr' := ⟨S6.1, by have := S6.2.1; have := hK.1; have := hK.2.1; omega, S6.2.2⟩
        have hg' := t_GrN hg hn S6'
        have e14 : (q_u di' n 6 A') 7 14 = nI T := by
          rw [q_uR (show ¬ 7 = n by omega), (S6.2.2.1 7 (by omega)).2.1]
          show E' 7 14 = nI T
          rw [hX.1 7 (by unfold t_nr; omega), f1 7 (by unfold t_nr; omega) (by decide) (by decide) (by decide)]
          exact h14
        refine x_cv 51 (a := 7) (as := [.ref n]) (rs := []) i21_51 rfl rfl rfl rfl (Nat.le_of_ble_eq_true rfl) (by omega) rfl (Or.inr (by decide)) (Nat.le_of_ble_eq_true rfl) rfl rfl ?_
        refine g56_0 hg' hz0 (fun _ => by rw [e14]; exact vp_in_nI hT4 (by decide)) (fun _ => x_goto 54 58 i21_54 rfl (x_iretI 58 i21_58 rfl ?_)) (fun w => ?_)
        · rw [e14, nI_clamp (by omega), nI_1, nI_pred]
          exact k1 hT4 H0 j' ks' cs' A' E' sl' ln' di' dl' dr' f1 f2 eT hK hX hj' S6'
        · rw [e14] at w
          exact absurd ((nI_leI (a := 4) (by decide) (by omega)).mp w) (by omega)
    · refine x_istore_n 20 (ls2 := [.ref 6, .int 0]) i21_20 (Nat.le_of_ble_eq_true rfl) rfl (x_aload_n 21 i21_21 rfl (x_getR 22 39 i21_22 rfl (q_lt hg rfl) (by decide) rfl (hg.2.2.1 6 2 39 rfl) (x_getR 25 40 i21_25 rfl (q_lt hg rfl) (by decide) rfl (hg.2.2.1 39 0 40 rfl) (x_iconst 28 0 i21_28 rfl (x_putI 29 3 i21_29 rfl (by decide) (q_lt hg rfl) rfl rfl (x_iload_n 32 i21_32 rfl (x_if_eq 33 57 i21_33 rfl (fun _ => x_iconst 57 (-1) i21_57 rfl (x_iretI 58 i21_58 rfl (k0 hT4 H0 fl p ks' cs' E' f1 f2 eT hfl hfl6 hp hE))) (fun c => absurd rfl c))))))))
  · have := (nI_leI (a := 4) (by decide) (by omega)).mp c
    omega
end
