theorem u_neg : ∀ L, L < 6 → nI L - 6 < 0 := by decide +kernel
theorem u_s6 {L : Nat} (h : 6 ≤ L) : nI L - 6 = nI (L - 6) := by
  obtain ⟨w, rfl⟩ : ∃ w, L = w + 6 := ⟨L - 6, by omega⟩
  rw [← nI_add, show (6 : Int32) = nI 6 from rfl, Int32.add_sub_cancel, Nat.add_sub_cancel]
theorem u_end {L c : Nat} {ln : Nat → Nat} (hL : L ≤ 3072) (hl : ln 0 = L) (h : ¬ 6 * c + 6 ≤ L) (hc : c ≤ 512 := by omega) : Int32.ofNat (ln 0) - 6 < nI (6 * c) := by
  rw [hl]
  show nI L - 6 < nI (6 * c)
  rcases Nat.lt_or_ge L 6 with y | y
  · have h1 := (fa_lt _ _).mp (u_neg L y)
    have h2 := (fa_le _ _).mp (nI_pos' (n := 6 * c) (by omega))
    rw [fa_lt]
    omega
  · rw [u_s6 y]
    exact nI_lt (by omega) (by omega)
theorem u_more {L c : Nat} {ln : Nat → Nat} (hL : L ≤ 3072) (hl : ln 0 = L) (h : 6 * c + 6 ≤ L) : nI (6 * c) ≤ Int32.ofNat (ln 0) - 6 := by
  rw [hl]
  show nI (6 * c) ≤ nI L - 6
  rw [u_s6 (by omega)]
  exact nI_le (by omega) (by omega)
/-! THE LAW'S LOOP -/
theorem u_stp {c m i1 i2 pc1 pc2 n sl : Nat} {as1 as2 ls : List Value} {ln : Nat → Nat} {di : Nat → Nat → Int32} {dl : Nat → Nat → Int64} {dr : Nat → Nat → Option Nat} {Q : Option Value → q_H → Prop} (hop : o_op m i1 i2 as1 as2 c (n, sl, ln, di, dl, dr)) (h6 : 6 ≤ n)
    (k1 : ∀ (v : Int32) (n1 sl1 : Nat) (ln1 : Nat → Nat) (di1 : Nat → Nat → Int32) (dl1 : Nat → Nat → Int64) (dr1 : Nat → Nat → Option Nat), n ≤ n1 → ln1 0 = ln 0 → di1 0 = di 0 → q_EX q_KD m i2 0 as2 [] (n1, sl1, ln1, di1, dl1, dr1) (fun r2 h2 => q_EX q_KD (m + 1) 0 pc2 ls (r2.toList ++ [.int v]) h2 Q) → q_EX q_KD (m + 1) 0 pc1 ls [.int v] (n1, sl1, ln1, di1, dl1, dr1) Q)
    (k2 : ∀ (v : Int32) (n2 sl2 : Nat) (ln2 : Nat → Nat) (di2 : Nat → Nat → Int32) (dl2 : Nat → Nat → Int64) (dr2 : Nat → Nat → Option Nat), q_RR (c + 1) n2 sl2 ln2 di2 dr2 → ln2 0 = ln 0 → q_EX q_KD (m + 1) 0 pc2 ls [.int v, .int v] (n2, sl2, ln2, di2, dl2, dr2) Q) :
    q_EX q_KD m i1 0 as1 [] (n, sl, ln, di, dl, dr) (fun r1 h1 => q_EX q_KD (m + 1) 0 pc1 ls (r1.toList ++ []) h1 Q) := by
  refine u_EX hop h6 (fun r h1 hq sm le => ?_)
  obtain ⟨v, rfl, q⟩ := hq
  obtain ⟨n1, sl1, ln1, di1, dl1, dr1⟩ := h1
  refine k1 v n1 sl1 ln1 di1 dl1 dr1 le (sm 0 (by decide)).1 (sm 0 (by decide)).2 ?_
  refine u_EX q (Nat.le_trans h6 le) (fun r2 h2 hq2 sm2 le2 => ?_)
  obtain ⟨rfl, hR⟩ := hq2
  obtain ⟨n2, sl2, ln2, di2, dl2, dr2⟩ := h2
  exact k2 v n2 sl2 ln2 di2 dl2 dr2 hR ((sm2 0 (by decide)).1.trans (sm 0 (by decide)).1)
set_option maxHeartbeats 2000000 in
theorem u_loop {L : Nat} (hL : L ≤ 3072) : ∀ (g c n sl : Nat) (ln : Nat → Nat) (di : Nat → Nat → Int32) (dl : Nat → Nat → Int64) (dr : Nat → Nat → Option Nat), c + g = 512 → q_RR c n sl ln di dr → ln 0 = L → q_EX q_KD 101 0 18 [.ref 0, .ref 6, .ref 67, .int (nI (6 * c))] [] (n, sl, ln, di, dl, dr) (fun r h' => r = some (.int 1) ∧ h'.1 ≤ 738000 ∧ h'.2.1 ≤ 6885000) := by
  intro g
  induction g with
  | zero =>
    intro c n sl ln di dl dr hc hR hl
    have h84 := hR.1.1
    obtain ⟨N, hN, hn⟩ := hR.2.1
    have hsl := hR.2.2.1
    have hgt : Int32.ofNat (ln 0) - 6 < nI (6 * c) := u_end hL hl (by omega)
    have nle : ¬ nI (6 * c) ≤ Int32.ofNat (ln 0) - 6 := Int32.not_le.mpr hgt
    exact l0_18 h84 (fun _ => ⟨rfl, by show n ≤ 738000; omega, by show sl ≤ 6885000; omega⟩) (fun w => absurd w nle) (fun w => absurd w nle) (fun w => absurd w nle) (fun w => absurd w nle) (fun w => absurd w nle) (fun w => absurd w nle) (fun w => absurd w nle) (fun w => absurd w nle) (fun w => absurd w nle) (fun w => absurd w nle) (fun w => absurd w nle) (fun w => absurd w nle) (fun w => absurd w nle) (fun w => absurd w nle) (fun w => absurd w nle) (fun w => absurd w nle) (fun w => absurd w nle) (fun w => absurd w nle) (fun w => absurd w nle) (fun w => absurd w nle) (fun w => absurd w nle) (fun w => absurd w nle) (fun w => absurd w nle) (fun w => absurd w nle) (fun w => absurd w nle) (fun w => absurd w nle) (fun w => absurd w nle) (fun w => absurd w nle) (fun w => absurd w nle) (fun w => absurd w nle) (fun w => absurd w nle) (fun w => absurd w nle) (fun w => absurd w nle) (fun w => absurd w nle) (fun w => absurd w nle) (fun w => absurd w nle) (fun w => absurd w nle) (fun w => absurd w nle) (fun w => absurd w nle) (fun w => absurd w nle) (fun w => absurd w nle) (fun w => absurd w nle) (fun w => absurd w nle) (fun w => absurd w nle) (fun w => absurd w nle) (fun w => absurd w nle) (fun w => absurd w nle) (fun w => absurd w nle) (fun w => absurd w nle) (fun w => absurd w nle) (fun w => absurd w nle) (fun w => absurd w nle) (fun w => absurd w nle) (fun w => absurd w nle) (fun w => absurd w nle) (fun w => absurd w nle) (fun w => absurd w nle) (fun w => absurd w nle) (fun w => absurd w nle) (fun w => absurd w nle) (fun w => absurd w nle) (fun w => absurd w nle)
  | succ g ih =>
    intro c n sl ln di dl dr hc hR hl
    have h84 := hR.1.1
    obtain ⟨N, hN, hn⟩ := hR.2.1
    have hsl := hR.2.2.1
    by_cases z : 6 * c + 6 ≤ L
    · have hle : nI (6 * c) ≤ Int32.ofNat (ln 0) - 6 := u_more hL hl z
      obtain ⟨x, hx⟩ : ∃ x, x = nI (6 * c) := ⟨_, rfl⟩
      have hv0 : vp_in x (ln 0) := by rw [hx, hl]; exact vp_in_nI (by omega) (by omega)
      have hv1 : vp_in (x + 1) (ln 0) := by rw [hx, hl, show nI (6 * c) + 1 = nI (6 * c + 1) from nI_add _ 1]; exact vp_in_nI (by omega) (by omega)
      have hv2 : vp_in (x + 2) (ln 0) := by rw [hx, hl, show nI (6 * c) + 2 = nI (6 * c + 2) from nI_add _ 2]; exact vp_in_nI (by omega) (by omega)
      have hv3 : vp_in (x + 3) (ln 0) := by rw [hx, hl, show nI (6 * c) + 3 = nI (6 * c + 3) from nI_add _ 3]; exact vp_in_nI (by omega) (by omega)
      have hv4 : vp_in (x + 4) (ln 0) := by rw [hx, hl, show nI (6 * c) + 4 = nI (6 * c + 4) from nI_add _ 4]; exact vp_in_nI (by omega) (by omega)
      have hv5 : vp_in (x + 5) (ln 0) := by rw [hx, hl, show nI (6 * c) + 5 = nI (6 * c + 5) from nI_add _ 5]; exact vp_in_nI (by omega) (by omega)
      have nxt : ∀ (n2 sl2 : Nat) (ln2 : Nat → Nat) (di2 : Nat → Nat → Int32) (dl2 : Nat → Nat → Int64) (dr2 : Nat → Nat → Option Nat), q_RR (c + 1) n2 sl2 ln2 di2 dr2 → ln2 0 = ln 0 → q_EX q_KD 101 0 18 [.ref 0, .ref 6, .ref 67, .int (x + 6)] [] (n2, sl2, ln2, di2, dl2, dr2) (fun r h' => r = some (.int 1) ∧ h'.1 ≤ 738000 ∧ h'.2.1 ≤ 6885000) := by
        intro n2 sl2 ln2 di2 dl2 dr2 hR2 eb
        rw [hx, show nI (6 * c) + 6 = nI (6 * (c + 1)) from nI_add _ 6]
        exact ih (c + 1) n2 sl2 ln2 di2 dl2 dr2 (by omega) hR2 (eb.trans hl)
      rw [← hx] at hle ⊢
      clear hx
      exact l0_18 h84
        (fun w => absurd w (q_not_lt hle))
        (fun _ => hv0)
        (fun _ _ => hv1)
        (fun _ _ => hv2)
        (fun _ _ => hv3)
        (fun _ _ => u_stp (o_person (d := 99) hR) (by omega) (fun v n1 sl1 ln1 di1 dl1 dr1 ea eb ed q => l0_171 (by omega) (by rw [eb]; exact hv1) (by rw [eb]; exact hv2) (by rw [eb]; exact hv3) (by rw [ed]; exact q)) (fun v n2 sl2 ln2 di2 dl2 dr2 hR2 eb => l0_190 hR2.1.1 (fun _ => nxt n2 sl2 ln2 di2 dl2 dr2 hR2 eb) (fun w => absurd rfl w)))
        (fun _ _ => hv1)
        (fun _ _ => hv2)
        (fun _ _ => u_stp (o_line (d := 98) hR) (by omega) (fun v n1 sl1 ln1 di1 dl1 dr1 ea eb ed q => l0_209 (by omega) (by rw [eb]; exact hv1) (by rw [eb]; exact hv2) (by rw [ed]; exact q)) (fun v n2 sl2 ln2 di2 dl2 dr2 hR2 eb => l0_223 hR2.1.1 (fun _ => nxt n2 sl2 ln2 di2 dl2 dr2 hR2 eb) (fun w => absurd rfl w)))
        (fun _ _ => hv1)
        (fun _ _ => u_stp (o_seed (d := 99) hR) (by omega) (fun v n1 sl1 ln1 di1 dl1 dr1 ea eb ed q => l0_237 (by omega) (by rw [eb]; exact hv1) (by rw [ed]; exact q)) (fun v n2 sl2 ln2 di2 dl2 dr2 hR2 eb => l0_246 hR2.1.1 (fun _ => nxt n2 sl2 ln2 di2 dl2 dr2 hR2 eb) (fun w => absurd rfl w)))
        (fun _ _ => hv1)
        (fun _ _ => hv2)
        (fun _ _ => hv3)
        (fun _ _ => hv4)
        (fun _ _ => hv5)
        (fun _ _ => u_stp (o_feed (d := 99) hR) (by omega) (fun v n1 sl1 ln1 di1 dl1 dr1 ea eb ed q => l0_280 (by omega) (by rw [eb]; exact hv1) (by rw [eb]; exact hv2) (by rw [eb]; exact hv3) (by rw [eb]; exact hv4) (by rw [eb]; exact hv5) (by rw [ed]; exact q)) (fun v n2 sl2 ln2 di2 dl2 dr2 hR2 eb => l0_309 hR2.1.1 (fun _ => nxt n2 sl2 ln2 di2 dl2 dr2 hR2 eb) (fun w => absurd rfl w)))
        (fun _ _ => hv1)
        (fun _ _ => u_stp (o_end (d := 99) hR) (by omega) (fun v n1 sl1 ln1 di1 dl1 dr1 ea eb ed q => l0_323 (by omega) (by rw [eb]; exact hv1) (by rw [ed]; exact q)) (fun v n2 sl2 ln2 di2 dl2 dr2 hR2 eb => l0_332 hR2.1.1 (fun _ => nxt n2 sl2 ln2 di2 dl2 dr2 hR2 eb) (fun w => absurd rfl w)))
        (fun _ _ => u_stp (o_text (d := 38) hR) (by omega) (fun v n1 sl1 ln1 di1 dl1 dr1 ea eb ed q => l0_341 (by omega) (by exact q)) (fun v n2 sl2 ln2 di2 dl2 dr2 hR2 eb => l0_345 hR2.1.1 (fun _ => nxt n2 sl2 ln2 di2 dl2 dr2 hR2 eb) (fun w => absurd rfl w)))
        (fun _ _ => hv1)
        (fun _ _ => u_stp (o_fault (d := 100) hR) (by omega) (fun v n1 sl1 ln1 di1 dl1 dr1 ea eb ed q => l0_359 (by omega) (by rw [eb]; exact hv1) (by rw [ed]; exact q)) (fun v n2 sl2 ln2 di2 dl2 dr2 hR2 eb => l0_368 hR2.1.1 (fun _ => nxt n2 sl2 ln2 di2 dl2 dr2 hR2 eb) (fun w => absurd rfl w)))
        (fun _ _ => hv1)
        (fun _ _ => u_stp (o_by (d := 98) hR) (by omega) (fun v n1 sl1 ln1 di1 dl1 dr1 ea eb ed q => l0_382 (by omega) (by rw [eb]; exact hv1) (by rw [ed]; exact q)) (fun v n2 sl2 ln2 di2 dl2 dr2 hR2 eb => l0_391 hR2.1.1 (fun _ => nxt n2 sl2 ln2 di2 dl2 dr2 hR2 eb) (fun w => absurd rfl w)))
        (fun _ _ => hv1)
        (fun _ _ => hv2)
        (fun _ _ => u_stp (o_seat (d := 98) hR) (by omega) (fun v n1 sl1 ln1 di1 dl1 dr1 ea eb ed q => l0_410 (by omega) (by rw [eb]; exact hv1) (by rw [eb]; exact hv2) (by rw [ed]; exact q)) (fun v n2 sl2 ln2 di2 dl2 dr2 hR2 eb => l0_424 hR2.1.1 (fun _ => nxt n2 sl2 ln2 di2 dl2 dr2 hR2 eb) (fun w => absurd rfl w)))
        (fun _ _ => hv1)
        (fun _ _ => hv2)
        (fun _ _ e2 => u_stp (o_hire (d := 98) hR) (by omega) (fun v n1 sl1 ln1 di1 dl1 dr1 ea eb ed q => l0_451 (by omega) (by rw [eb]; exact hv1) (by rw [eb]; exact hv2) (fun _ => by rw [ed]; exact q) (fun w => absurd (by rw [ed]; exact e2) w)) (fun v n2 sl2 ln2 di2 dl2 dr2 hR2 eb => l0_473 hR2.1.1 (fun _ => nxt n2 sl2 ln2 di2 dl2 dr2 hR2 eb) (fun w => absurd rfl w)))
        (fun _ _ e2 => u_stp (o_hire (d := 98) hR) (by omega) (fun v n1 sl1 ln1 di1 dl1 dr1 ea eb ed q => l0_451 (by omega) (by rw [eb]; exact hv1) (by rw [eb]; exact hv2) (fun w => absurd (by rw [← ed]; exact w) e2) (fun _ => by rw [ed]; exact q)) (fun v n2 sl2 ln2 di2 dl2 dr2 hR2 eb => l0_473 hR2.1.1 (fun _ => nxt n2 sl2 ln2 di2 dl2 dr2 hR2 eb) (fun w => absurd rfl w)))
        (fun _ _ => u_stp (o_night (d := 94) hR) (by omega) (fun v n1 sl1 ln1 di1 dl1 dr1 ea eb ed q => l0_482 (by omega) (by exact q)) (fun v n2 sl2 ln2 di2 dl2 dr2 hR2 eb => l0_486 hR2.1.1 (fun _ => nxt n2 sl2 ln2 di2 dl2 dr2 hR2 eb) (fun w => absurd rfl w)))
        (fun _ _ => hv1)
        (fun _ _ => u_stp (o_played (d := 92) hR) (by omega) (fun v n1 sl1 ln1 di1 dl1 dr1 ea eb ed q => l0_500 (by omega) (by rw [eb]; exact hv1) (by rw [ed]; exact q)) (fun v n2 sl2 ln2 di2 dl2 dr2 hR2 eb => l0_509 hR2.1.1 (fun _ => nxt n2 sl2 ln2 di2 dl2 dr2 hR2 eb) (fun w => absurd rfl w)))
        (fun _ _ => u_stp (o_undo (d := 98) hR) (by omega) (fun v n1 sl1 ln1 di1 dl1 dr1 ea eb ed q => l0_518 (by omega) (by exact q)) (fun v n2 sl2 ln2 di2 dl2 dr2 hR2 eb => l0_522 hR2.1.1 (fun _ => nxt n2 sl2 ln2 di2 dl2 dr2 hR2 eb) (fun w => absurd rfl w)))
        (fun _ _ => hv1)
        (fun _ _ => hv2)
        (fun _ _ => u_stp (o_of (d := 98) hR) (by omega) (fun v n1 sl1 ln1 di1 dl1 dr1 ea eb ed q => l0_541 (by omega) (by rw [eb]; exact hv1) (by rw [eb]; exact hv2) (by rw [ed]; exact q)) (fun v n2 sl2 ln2 di2 dl2 dr2 hR2 eb => l0_555 hR2.1.1 (fun _ => nxt n2 sl2 ln2 di2 dl2 dr2 hR2 eb) (fun w => absurd rfl w)))
        (fun _ _ => hv1)
        (fun _ _ => hv2)
        (fun _ _ => u_stp (o_wave (d := 93) hR) (by omega) (fun v n1 sl1 ln1 di1 dl1 dr1 ea eb ed q => l0_574 (by omega) (by rw [eb]; exact hv1) (by rw [eb]; exact hv2) (by rw [ed]; exact q)) (fun v n2 sl2 ln2 di2 dl2 dr2 hR2 eb => l0_588 hR2.1.1 (fun _ => nxt n2 sl2 ln2 di2 dl2 dr2 hR2 eb) (fun w => absurd rfl w)))
        (fun _ _ => hv1)
        (fun _ _ => u_stp (o_all (d := 92) hR) (by omega) (fun v n1 sl1 ln1 di1 dl1 dr1 ea eb ed q => l0_602 (by omega) (by rw [eb]; exact hv1) (by rw [ed]; exact q)) (fun v n2 sl2 ln2 di2 dl2 dr2 hR2 eb => l0_611 hR2.1.1 (fun _ => nxt n2 sl2 ln2 di2 dl2 dr2 hR2 eb) (fun w => absurd rfl w)))
        (fun _ _ => hv1)
        (fun _ _ => u_stp (o_caused (d := 92) hR) (by omega) (fun v n1 sl1 ln1 di1 dl1 dr1 ea eb ed q => l0_625 (by omega) (by rw [eb]; exact hv1) (by rw [ed]; exact q)) (fun v n2 sl2 ln2 di2 dl2 dr2 hR2 eb => l0_634 hR2.1.1 (fun _ => nxt n2 sl2 ln2 di2 dl2 dr2 hR2 eb) (fun w => absurd rfl w)))
        (fun _ _ => hv1)
        (fun _ _ => hv2)
        (fun _ _ => u_stp (o_fair (d := 91) hR) (by omega) (fun v n1 sl1 ln1 di1 dl1 dr1 ea eb ed q => l0_653 (by omega) (by rw [eb]; exact hv1) (by rw [eb]; exact hv2) (by rw [ed]; exact q)) (fun v n2 sl2 ln2 di2 dl2 dr2 hR2 eb => l0_667 hR2.1.1 (fun _ => nxt n2 sl2 ln2 di2 dl2 dr2 hR2 eb) (fun w => absurd rfl w)))
        (fun _ _ => hv1)
        (fun _ _ => u_stp (o_quietest (d := 92) hR) (by omega) (fun v n1 sl1 ln1 di1 dl1 dr1 ea eb ed q => l0_681 (by omega) (by rw [eb]; exact hv1) (by rw [ed]; exact q)) (fun v n2 sl2 ln2 di2 dl2 dr2 hR2 eb => l0_690 hR2.1.1 (fun _ => nxt n2 sl2 ln2 di2 dl2 dr2 hR2 eb) (fun w => absurd rfl w)))
        (fun _ _ => hv1)
        (fun _ _ => u_stp (o_cut (d := 93) hR) (by omega) (fun v n1 sl1 ln1 di1 dl1 dr1 ea eb ed q => l0_704 (by omega) (by rw [eb]; exact hv1) (by rw [ed]; exact q)) (fun v n2 sl2 ln2 di2 dl2 dr2 hR2 eb => l0_713 hR2.1.1 (fun _ => nxt n2 sl2 ln2 di2 dl2 dr2 hR2 eb) (fun w => absurd rfl w)))
        (fun _ _ => hv1)
        (fun _ _ => u_stp (o_stilled (d := 92) hR) (by omega) (fun v n1 sl1 ln1 di1 dl1 dr1 ea eb ed q => l0_727 (by omega) (by rw [eb]; exact hv1) (by rw [ed]; exact q)) (fun v n2 sl2 ln2 di2 dl2 dr2 hR2 eb => l0_736 hR2.1.1 (fun _ => nxt n2 sl2 ln2 di2 dl2 dr2 hR2 eb) (fun w => absurd rfl w)))
        (fun _ _ => hv1)
        (fun _ _ => u_stp (o_seen (d := 99) hR) (by omega) (fun v n1 sl1 ln1 di1 dl1 dr1 ea eb ed q => l0_750 (by omega) (by rw [eb]; exact hv1) (by rw [ed]; exact q)) (fun v n2 sl2 ln2 di2 dl2 dr2 hR2 eb => l0_759 hR2.1.1 (fun _ => nxt n2 sl2 ln2 di2 dl2 dr2 hR2 eb) (fun w => absurd rfl w)))
        (fun _ _ => hv1)
        (fun _ _ => u_stp (o_who (d := 92) hR) (by omega) (fun v n1 sl1 ln1 di1 dl1 dr1 ea eb ed q => l0_773 (by omega) (by rw [eb]; exact hv1) (by rw [ed]; exact q)) (fun v n2 sl2 ln2 di2 dl2 dr2 hR2 eb => l0_782 hR2.1.1 (fun _ => nxt n2 sl2 ln2 di2 dl2 dr2 hR2 eb) (fun w => absurd rfl w)))
        (fun _ _ => u_stp (o_image (d := 98) hR) (by omega) (fun v n1 sl1 ln1 di1 dl1 dr1 ea eb ed q => l0_791 (by omega) (by exact q)) (fun v n2 sl2 ln2 di2 dl2 dr2 hR2 eb => l0_795 hR2.1.1 (fun _ => nxt n2 sl2 ln2 di2 dl2 dr2 hR2 eb) (fun w => absurd rfl w)))
        (fun _ _ => u_stp (o_back (d := 98) hR) (by omega) (fun v n1 sl1 ln1 di1 dl1 dr1 ea eb ed q => l0_804 (by omega) (by exact q)) (fun v n2 sl2 ln2 di2 dl2 dr2 hR2 eb => l0_808 hR2.1.1 (fun _ => nxt n2 sl2 ln2 di2 dl2 dr2 hR2 eb) (fun w => absurd rfl w)))
        (fun _ _ => hv1)
        (fun _ _ => u_stp (o_about (d := 98) hR) (by omega) (fun v n1 sl1 ln1 di1 dl1 dr1 ea eb ed q => l0_822 (by omega) (by rw [eb]; exact hv1) (by rw [ed]; exact q)) (fun v n2 sl2 ln2 di2 dl2 dr2 hR2 eb => l0_831 hR2.1.1 (fun _ => nxt n2 sl2 ln2 di2 dl2 dr2 hR2 eb) (fun w => absurd rfl w)))
        (fun _ _ _ _ _ _ _ _ _ _ _ _ _ _ _ _ _ _ _ _ _ _ _ _ _ _ _ => nxt n sl ln di dl dr (w_RR_up hR) rfl)
    · have hgt : Int32.ofNat (ln 0) - 6 < nI (6 * c) := u_end hL hl z
      have nle : ¬ nI (6 * c) ≤ Int32.ofNat (ln 0) - 6 := Int32.not_le.mpr hgt
      exact l0_18 h84 (fun _ => ⟨rfl, by show n ≤ 738000; omega, by show sl ≤ 6885000; omega⟩) (fun w => absurd w nle) (fun w => absurd w nle) (fun w => absurd w nle) (fun w => absurd w nle) (fun w => absurd w nle) (fun w => absurd w nle) (fun w => absurd w nle) (fun w => absurd w nle) (fun w => absurd w nle) (fun w => absurd w nle) (fun w => absurd w nle) (fun w => absurd w nle) (fun w => absurd w nle) (fun w => absurd w nle) (fun w => absurd w nle) (fun w => absurd w nle) (fun w => absurd w nle) (fun w => absurd w nle) (fun w => absurd w nle) (fun w => absurd w nle) (fun w => absurd w nle) (fun w => absurd w nle) (fun w => absurd w nle) (fun w => absurd w nle) (fun w => absurd w nle) (fun w => absurd w nle) (fun w => absurd w nle) (fun w => absurd w nle) (fun w => absurd w nle) (fun w => absurd w nle) (fun w => absurd w nle) (fun w => absurd w nle) (fun w => absurd w nle) (fun w => absurd w nle) (fun w => absurd w nle) (fun w => absurd w nle) (fun w => absurd w nle) (fun w => absurd w nle) (fun w => absurd w nle) (fun w => absurd w nle) (fun w => absurd w nle) (fun w => absurd w nle) (fun w => absurd w nle) (fun w => absurd w nle) (fun w => absurd w nle) (fun w => absurd w nle) (fun w => absurd w nle) (fun w => absurd w nle) (fun w => absurd w nle) (fun w => absurd w nle) (fun w => absurd w nle) (fun w => absurd w nle) (fun w => absurd w nle) (fun w => absurd w nle) (fun w => absurd w nle) (fun w => absurd w nle) (fun w => absurd w nle) (fun w => absurd w nle) (fun w => absurd w nle) (fun w => absurd w nle) (fun w => absurd w nle) (fun w => absurd w nle)
