theorem q_ib (x : Int32) (k : Nat) (hk : k < 32) : x &&& nI (2 ^ k) = 0 ↔ x.toBitVec.getLsbD k = false := by
  have e : ∀ i, (x &&& nI (2 ^ k)).toBitVec.getLsbD i = (x.toBitVec.getLsbD i && (decide (i < 32) && decide (k = i))) := fun i => by
    show (x.toBitVec &&& BitVec.ofNat 32 (2 ^ k)).getLsbD i = _
    rw [BitVec.getLsbD_and, BitVec.getLsbD_ofNat, Nat.testBit_two_pow]
  constructor
  · intro h
    have h2 := e k
    rw [h, decide_eq_true hk, decide_eq_true rfl, Bool.and_self, Bool.and_true] at h2
    rw [← h2]
    show (0#32).getLsbD k = false
    exact BitVec.getLsbD_zero
  · intro h
    apply Int32.toBitVec_inj.1
    apply BitVec.eq_of_getLsbD_eq
    intro i hi
    rw [e i]
    show _ = (0#32).getLsbD i
    rw [BitVec.getLsbD_zero]
    by_cases hki : k = i
    · subst hki; rw [h]; rfl
    · rw [decide_eq_false hki, Bool.and_false, Bool.and_false]
theorem q_ibS (x : Int32) {i k : Nat} (hi : i < 32) (hk : k < 32) : (x ||| nI (2 ^ i)) &&& nI (2 ^ k) = 0 ↔ (¬ i = k ∧ x &&& nI (2 ^ k) = 0) := by
  rw [q_ib _ k hk, q_ib x k hk]
  have e : (x ||| nI (2 ^ i)).toBitVec.getLsbD k = (x.toBitVec.getLsbD k || decide (i = k)) := by
    show (x.toBitVec ||| BitVec.ofNat 32 (2 ^ i)).getLsbD k = _
    rw [BitVec.getLsbD_or, BitVec.getLsbD_ofNat, Nat.testBit_two_pow, decide_eq_true hk, Bool.true_and]
  rw [e]
  by_cases h : i = k
  · subst h; simp
  · simp [h]
section
variable {d n sl : Nat} {ln : Nat → Nat} {di : Nat → Nat → Int32} {dl : Nat → Nat → Int64} {dr : Nat → Nat → Option Nat} {Q : Option Value → q_H → Prop} {a tx : Nat → Int32} {P L : Nat}
/-- the memo rows, once one more is asked -/
theorem q_CE_ask {r54 r55 r55' r56 : Nat → Int32} {l j r u v : Nat} (h : q_CE r54 r55 r56 a tx P L) (hl : l < L) (hL : L ≤ 10) (hj : j < P) (hP : P ≤ 6) (hr : r < 4) (hu : u ≤ 4) (hv : v ≤ 5) (h0 : r54 ((l * 6 + j) * 4 + r) &&& nI (2 ^ (u * 6 + v)) = 0)
    (h5 : (r55' = r55 ∧ q_la a tx l j (nI r) (nI u) (nI v) = 0) ∨ (r55' = va_up r55 ((l * 6 + j) * 4 + r) (r55 ((l * 6 + j) * 4 + r) ||| nI (2 ^ (u * 6 + v))) ∧ ¬ q_la a tx l j (nI r) (nI u) (nI v) = 0)) :
    q_CE (va_up r54 ((l * 6 + j) * 4 + r) (r54 ((l * 6 + j) * 4 + r) ||| nI (2 ^ (u * 6 + v)))) r55' r56 a tx P L := by
  refine ⟨fun l' j' r' u' v' g1 g2 g3 g4 g5 => ?_, h.2⟩
  have ho := h.1 l' j' r' u' v' g1 g2 g3 g4 g5
  by_cases es : (l' * 6 + j') * 4 + r' = (l * 6 + j) * 4 + r
  · have e1 : l' = l := by omega
    have e2 : j' = j := by omega
    have e3 : r' = r := by omega
    subst e1 e2 e3
    rw [q_upE, q_ibS _ (by omega) (by omega)]
    by_cases eb : u * 6 + v = u' * 6 + v'
    · have e4 : u' = u := by omega
      have e5 : v' = v := by omega
      subst e4 e5
      refine ⟨fun z => absurd rfl z.1, fun _ => ⟨hl, hj, ?_⟩⟩
      rcases h5 with ⟨q1, q2⟩ | ⟨q1, q2⟩
      · rw [q1]
        exact ⟨fun _ => q2, fun _ => ho.1 h0⟩
      · rw [q1, q_upE, q_ibS _ (by omega) (by omega)]
        exact ⟨fun z => absurd rfl z.1, fun z => absurd z q2⟩
    · have eqv : r55' ((l' * 6 + j') * 4 + r') &&& nI (2 ^ (u' * 6 + v')) = 0 ↔ r55 ((l' * 6 + j') * 4 + r') &&& nI (2 ^ (u' * 6 + v')) = 0 := by
        rcases h5 with ⟨q1, _⟩ | ⟨q1, _⟩
        · rw [q1]
        · rw [q1, q_upE, q_ibS _ (by omega) (by omega)]
          exact ⟨fun z => z.2, fun z => ⟨eb, z⟩⟩
      rw [eqv]
      exact ⟨fun z => ho.1 z.2, fun z => ho.2 (fun y => z ⟨eb, y⟩)⟩
  · rw [q_upN _ _ es]
    have eqv : r55' ((l' * 6 + j') * 4 + r') = r55 ((l' * 6 + j') * 4 + r') := by
      rcases h5 with ⟨q1, _⟩ | ⟨q1, _⟩
      · rw [q1]
      · rw [q1, q_upN _ _ es]
    rw [eqv]
    exact ho
theorem q_small {x : Int32} {m : Nat} (h : m < 100000) (e : x = nI m) : -1000000 ≤ x.toInt ∧ x.toInt ≤ 1000000 := by
  rw [e, nI_toInt (by omega)]; omega
set_option maxHeartbeats 1000000 in
theorem c_laX {l j r u v : Nat} (hl : l < L) (hj : j < P) (hr : r < 4) (hu : u ≤ 4) (hv : v ≤ 5) (hW : q_W n ln di dr a tx P L) (hCE : q_CE (di 54) (di 55) (di 56) a tx P L) (hg : q_Gr n ln dr)
    (k : ∀ e y, e 53 = di 53 → q_CE (e 54) (e 55) (e 56) a tx P L → (y = 0 ↔ q_la a tx l j (nI r) (nI u) (nI v) = 0) → Q (some (.int y)) (n, sl, ln, q_F w_E di e, dl, dr)) :
    q_EX q_KD (d + 3) 72 0 [.ref 53, .int (nI l), .int (nI j), .int (nI r), .int (nI u), .int (nI v), .retAddr 0, .retAddr 0, .retAddr 0] [] (n, sl, ln, di, dl, dr) Q := by
  have hP := hW.2.1
  have hL := hW.2.2.1
  have wi : ∀ (x m : Nat), x ≤ m → m < 2 ^ 31 → ¬ q_b ((0 : Int32) ≤ nI x ∧ nI x ≤ nI m) = 0 := fun x m h1 h2 => q_bp.mpr ⟨nI_pos' (by omega), nI_le h1 h2⟩
  have ln' : (nI l).toNatClampNeg = l := nI_clamp (by omega)
  have jn : (nI j).toNatClampNeg = j := nI_clamp (by omega)
  have hd13 := hW.2.2.2.2.2.1 l (by omega)
  have hd8 := hW.2.2.2.2.1 j (by omega)
  have ksame : ∀ y, (y = 0 ↔ q_la a tx l j (nI r) (nI u) (nI v) = 0) → Q (some (.int y)) (n, sl, ln, di, dl, dr) := fun y hy => by
    have := k di y rfl hCE hy
    rwa [q_Fid] at this
  refine g72_0 hg (c_within hg (g72_6 hg (fun c => absurd c (wi l 9 (by omega) (by decide))) (fun _ => c_within hg (g72_14 hg (fun c => absurd c (wi j 5 (by omega) (by decide))) (fun _ => c_within hg (g72_22 hg (fun _ => ?_) (fun c => absurd c (wi r 3 (by omega) (by decide)))))))))
  refine c_rul 0 (by decide) hW hg (fun h0 => ?_) (fun t z F E ht hz l1 l2 hE hWd hFE f1 f2 hcd hty hkl hlv _ => ?_)
  · have hq : q_kl5 a tx 0 < 0 := by
      have : q_kl5 a tx 0 = -1 := h0
      rw [this]; decide
    have hla : q_la a tx l j (nI r) (nI u) (nI v) = q_b (a (46 + 2 * l) = 1 ∧ a (10 + 6 * j + 1) < a (46 + 2 * l + 1)) := by
      unfold q_la; rw [if_pos hq]
    refine g72_35 hg (vp_in_nI (by omega) (by decide)) (fun c => ksame 0 ?_) (fun _ => vp_in_nI (by omega) (by decide)) (fun _ => vp_in_nI (by omega) (by decide)) (fun c1 c2 => ksame 0 ?_) (fun c1 c2 => ksame 1 ?_)
    · rw [ln', hd13.1] at c
      rw [hla, q_b0 (fun y => c y.1)]
    · rw [ln', jn, hd13.2.1, hd8.2.1] at c2
      rw [hla, q_b0 (fun y => q_not_lt c2 y.2)]
    · rw [ln', hd13.1] at c1
      rw [ln', jn, hd13.2.1, hd8.2.1] at c2
      rw [hla, q_b1 ⟨c1, c2⟩]
  · have hla : q_la a tx l j (nI r) (nI u) (nI v) = (q_ev tx (680 * t + 75) F E (q_nl0 a l j (nI r) (nI u) (nI v))).2.2.2 0 := by
      unfold q_la
      rw [if_neg (show ¬ q_kl5 a tx 0 < 0 from hkl)]
      exact congrArg (fun s => s.2.2.2 0) (hlv _)
    have es : ((nI l * 6 + nI j) * 4) + nI r = nI ((l * 6 + j) * 4 + r) := by
      rw [q_pa, q_pm, q_pa, q_pm]; rfl
    have esn : (nI ((l * 6 + j) * 4 + r)).toNatClampNeg = (l * 6 + j) * 4 + r := nI_clamp (by omega)
    have eb : (1 : Int32) <<< ((nI u * 6 + nI v) &&& 31) = nI (2 ^ (u * 6 + v)) := by
      rw [show nI u * 6 + nI v = nI (u * 6 + v) from by rw [q_pa, q_pm]; rfl]
      exact q_sh (by omega)
    have vs : vp_in (((nI l * 6 + nI j) * 4) + nI r) 240 := by rw [es]; exact vp_in_nI (by omega) (by decide)
    refine g72_35_1 hg hz vs (fun _ => vs) (fun c1 c2 => ksame 0 ?_) (fun c1 c2 => ksame 1 ?_) (fun _ => vs) (fun _ => vs) (fun _ => vp_in_nI (by omega) (by decide)) (fun _ => vp_in_nI (by omega) (by decide)) (fun _ => vp_in_nI (by omega) (by decide)) (fun _ => vp_in_nI (by omega) (by decide)) (fun c1 => ?_)
    · rw [es, esn, eb] at c1 c2
      exact ⟨fun _ => (((hCE.1 l j r u v (by omega) (by omega) hr hu hv).2 c1).2.2.mp c2), fun _ => rfl⟩
    · rw [es, esn, eb] at c1 c2
      exact ⟨fun y => absurd y (by decide), fun y => absurd (((hCE.1 l j r u v (by omega) (by omega) hr hu hv).2 c1).2.2.mpr y) c2⟩
    · rw [es, esn, eb] at c1
      rw [es, esn, eb, ln', jn]
      have hz84 := hz.1
      refine c_value (d := d + 1) (F := F) (E := E) (L := 0) (C := 680 * t + 75) tx (q_nl0 a l j (nI r) (nI u) (nI v)) hz (by decide) l1 l2 hE hWd hFE ?_ ?_ ?_ hty rfl ?_ hg (fun st hT _ => ?_)
      · rw [q_uR (by omega), q_uR (by omega), q_uR (by omega), q_uR (by omega), q_uR (by omega), q_uR (by omega), q_uR (by omega), q_uR (by omega)]; exact f1
      · rw [q_uR (by omega), q_uR (by omega), q_uR (by omega), q_uR (by omega), q_uR (by omega), q_uR (by omega), q_uR (by omega), q_uR (by omega)]; exact f2
      · rw [q_uR (by omega), q_uR (by omega), q_uR (by omega), q_uR (by omega), q_uR (by omega), q_uR (by omega), q_uR (by omega), q_uR (by omega)]; exact hcd
      · intro i hi
        have hi6 : i ≤ 6 := Nat.le_of_ble_eq_true hi
        obtain ⟨w, w1, w2⟩ := hd8.2.2.1
        obtain ⟨s, s1, s2⟩ := hd8.2.2.2
        obtain ⟨x, x1, x2⟩ := hd13.2.2.1
        obtain ⟨p, p1, p2⟩ := hd13.2.2.2
        match i, hi6 with
        | 0, _ => exact ⟨hd8.1, q_small (m := w) (by omega) w2⟩
        | 1, _ => exact ⟨hd8.2.1, q_small (m := s) (by omega) s2⟩
        | 2, _ => exact ⟨rfl, q_small (m := r) (by omega) rfl⟩
        | 3, _ => exact ⟨hd13.1, q_small (m := x) (by omega) x2⟩
        | 4, _ => exact ⟨hd13.2.1, q_small (m := p) (by omega) p2⟩
        | 5, _ => exact ⟨rfl, q_small (m := u) (by omega) rfl⟩
        | 6, _ => exact ⟨rfl, q_small (m := v) (by omega) rfl⟩
        | i + 7, h => omega
      · have hT' : st 0 = q_la a tx l j (nI r) (nI u) (nI v) := by rw [hla]; exact hT rfl
        have vs2 : vp_in (nI ((l * 6 + j) * 4 + r)) 240 := vp_in_nI (by omega) (by decide)
        have hun : di 55 ((l * 6 + j) * 4 + r) &&& nI (2 ^ (u * 6 + v)) = 0 := (hCE.1 l j r u v (by omega) (by omega) hr hu hv).1 c1
        refine g72_246 hg (fun _ => vs2) (fun y c => ?_) (fun y c => ?_) (fun _ => vs2) (fun _ => vs2) (fun _ => vs2) (fun y c => ?_) (fun y c => ?_)
        · have kk := k (va_up (q_u (q_u (q_u (q_u (q_u (q_u (q_u (q_u di 54 ((l * 6 + j) * 4 + r) (di 54 ((l * 6 + j) * 4 + r) ||| nI (2 ^ (u * 6 + v)))) 51 0 (di 8 j)) 51 1 (di 9 j)) 51 2 (nI r)) 51 3 (di 13 l)) 51 4 (di 14 l)) 51 5 (nI u)) 51 6 (nI v)) 52 st) 0 rfl (q_CE_ask hCE hl hL hj hP hr hu hv c1 (Or.inl ⟨rfl, by rw [← hT']; exact y⟩)) ⟨fun _ => by rw [← hT']; exact y, fun _ => rfl⟩
          rw [← q_Fin (S := w_E) (di := di)] at kk
          · exact kk
          · intro k' hk'
            have h54 : ¬ k' = 54 := fun e => by rw [e] at hk'; exact absurd hk' (by decide)
            have h51 : ¬ k' = 51 := fun e => by rw [e] at hk'; exact absurd hk' (by decide)
            have h52 : ¬ k' = 52 := fun e => by rw [e] at hk'; exact absurd hk' (by decide)
            rw [q_upN _ _ h52, q_uR h51, q_uR h51, q_uR h51, q_uR h51, q_uR h51, q_uR h51, q_uR h51, q_uR h54]
        · rw [esn] at c
          exact absurd hun c
        · rw [esn] at c
          have c' : (di 55 ((l * 6 + j) * 4 + r) ||| nI (2 ^ (u * 6 + v))) &&& nI (2 ^ (u * 6 + v)) = 0 := c
          rw [q_ibS _ (by omega) (by omega)] at c'
          exact absurd rfl c'.1
        · rw [esn]
          have kk := k (q_u (va_up (q_u (q_u (q_u (q_u (q_u (q_u (q_u (q_u di 54 ((l * 6 + j) * 4 + r) (di 54 ((l * 6 + j) * 4 + r) ||| nI (2 ^ (u * 6 + v)))) 51 0 (di 8 j)) 51 1 (di 9 j)) 51 2 (nI r)) 51 3 (di 13 l)) 51 4 (di 14 l)) 51 5 (nI u)) 51 6 (nI v)) 52 st) 55 ((l * 6 + j) * 4 + r) (di 55 ((l * 6 + j) * 4 + r) ||| nI (2 ^ (u * 6 + v)))) 1 rfl (q_CE_ask hCE hl hL hj hP hr hu hv c1 (Or.inr ⟨rfl, by rw [← hT']; exact y⟩)) ⟨fun y' => absurd y' (by decide), fun y' => absurd (by rw [hT']; exact y') y⟩
          rw [← q_Fin (S := w_E) (di := di)] at kk
          · exact kk
          · intro k' hk'
            have h54 : ¬ k' = 54 := fun e => by rw [e] at hk'; exact absurd hk' (by decide)
            have h55 : ¬ k' = 55 := fun e => by rw [e] at hk'; exact absurd hk' (by decide)
            have h51 : ¬ k' = 51 := fun e => by rw [e] at hk'; exact absurd hk' (by decide)
            have h52 : ¬ k' = 52 := fun e => by rw [e] at hk'; exact absurd hk' (by decide)
            rw [q_uR h55, q_upN _ _ h52, q_uR h51, q_uR h51, q_uR h51, q_uR h51, q_uR h51, q_uR h51, q_uR h51, q_uR h54]
end
