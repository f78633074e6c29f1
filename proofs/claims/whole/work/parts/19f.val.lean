section
variable {d n sl : Nat} {ln : Nat → Nat} {dl : Nat → Nat → Int64} {dr : Nat → Nat → Option Nat} {Q : Option Value → q_H → Prop}
theorem c_val36 {z E L C : Nat} {r : Nat × Nat} (tx nm : Nat → Int32) (cd : Nat → Int32) (hz : q_scr n z) (hE : E ≤ ln (z + 1 + 0)) (hW : ln (z + 1 + 0) ≤ 300) (hcd : ∀ i, i < E → cd i = q_enc (tx (C + 2 * i)) (tx (C + 2 * i + 1))) (hr : r.1 + r.2 = 1) (hb : ∀ i, q_nmok L i = true → -1000000 ≤ (nm i).toInt ∧ (nm i).toInt ≤ 1000000) (hg : q_Gr n ln dr) : ∀ (c i nn tt : Nat) (V : Nat → Int64) (T : Nat → Int32) (di : Nat → Nat → Int32), di (z + 1 + 0) = cd → (∀ i, q_nmok L i = true → di 51 i = nm i) → i + c = E → nn + tt ≤ i → q_tyr tx C L c i (nn, tt) = some r → q_vr (di 52) (nn, V, tt, T) →
    (∀ st, q_vr st (q_it (fun i s => q_es (tx (C + 2 * i)) (tx (C + 2 * i + 1)) nm s) c i (nn, V, tt, T)) → Q (some (.int (st 0))) (n, sl, ln, va_up di 52 st, dl, dr)) →
    q_EX q_KD (d + 1) 75 36 [.ref 50, .ref z, .retAddr 0, .int (nI (tt + nn)), .int (nI E), .int (nI i), .retAddr 0, .retAddr 0] [] (n, sl, ln, di, dl, dr) Q := by
  intro c
  induction c with
  | zero =>
    intro i nn tt V T di h1 h2 h3 h4 h5 h6 k
    cases h5
    simp only at hr
    have ht : tt + nn = 1 := by omega
    have hle : ¬ nI i < nI E := nI_nlt (by omega) (by omega)
    rw [ht]
    have kk := k (di 52) h6
    rw [q_upid] at kk
    refine g75_36 hg hz (fun _ c => absurd c (by decide)) (fun _ _ => vp_in_nI (n := 0) (by decide) (by decide)) (fun _ _ => kk) ?_ ?_ ?_ ?_ ?_ ?_ ?_ ?_ ?_ ?_ ?_ ?_ ?_ ?_ ?_ ?_ ?_ ?_ ?_ ?_ ?_ <;> intro c' <;> exact absurd c' hle
  | succ c ih =>
    intro i nn tt V T di h1 h2 h3 h4 h5 h6 k
    obtain ⟨u, h7, h8⟩ := q_tyr1 h5
    have hgr := q_tq_grow h7
    have h9 := (q_es_ag (nm := nm) (nm' := nm) (s := (nn, V, tt, T)) h7 ⟨rfl, rfl, fun _ _ => rfl, fun _ _ => rfl⟩ (fun _ _ => rfl)).2
    refine c_vl1 (o := tx (C + 2 * i)) (v := tx (C + 2 * i + 1)) (nm := nm) hz hE hW (by omega) (by rw [h1]; exact hcd i (by omega)) h7 h4 h6 (fun i hi => ⟨h2 i hi, hb i hi⟩) hg (fun st hst => ?_)
    have e1 : (q_es (tx (C + 2 * i)) (tx (C + 2 * i + 1)) nm (nn, V, tt, T)).1 = u.1 := congrArg Prod.fst h9
    have e2 : (q_es (tx (C + 2 * i)) (tx (C + 2 * i + 1)) nm (nn, V, tt, T)).2.2.1 = u.2 := congrArg Prod.snd h9
    have hz84 := hz.1
    simp only at hgr
    have hst2 : q_vr st (u.1, (q_es (tx (C + 2 * i)) (tx (C + 2 * i + 1)) nm (nn, V, tt, T)).2.1, u.2, (q_es (tx (C + 2 * i)) (tx (C + 2 * i + 1)) nm (nn, V, tt, T)).2.2.2) := by
      rw [← e1, ← e2]; exact hst
    refine ih (i + 1) u.1 u.2 _ _ _ (by rw [q_upN _ _ (by omega)]; exact h1) (fun i hi => h2 i hi) (by omega) (by omega) h8 (by rw [q_upE]; exact hst2) (fun st' hst' => ?_)
    rw [q_upup]
    refine k st' ?_
    show q_vr st' (q_it (fun i s => q_es (tx (C + 2 * i)) (tx (C + 2 * i + 1)) nm s) c (i + 1) (q_es (tx (C + 2 * i)) (tx (C + 2 * i + 1)) nm (nn, V, tt, T)))
    have e3 : q_es (tx (C + 2 * i)) (tx (C + 2 * i + 1)) nm (nn, V, tt, T) = (u.1, (q_es (tx (C + 2 * i)) (tx (C + 2 * i + 1)) nm (nn, V, tt, T)).2.1, u.2, (q_es (tx (C + 2 * i)) (tx (C + 2 * i + 1)) nm (nn, V, tt, T)).2.2.2) := by
      rw [← e1, ← e2]
    rw [e3]
    exact hst'
/-- Judge.value -/
theorem c_value {di : Nat → Nat → Int32} {z F E L C : Nat} {r : Nat × Nat} (tx nm : Nat → Int32) (hz : q_scr n z) (hL : L < 3) (hl1 : ln (z + 1 + 1) = 3) (hl2 : ln (z + 1 + 2) = 3) (hE : E ≤ ln (z + 1 + 0)) (hW : ln (z + 1 + 0) ≤ 300) (hFE : F < E) (h1 : di (z + 1 + 1) L = nI F) (h2 : di (z + 1 + 2) L = nI E) (hcd : ∀ i, i < E → di (z + 1 + 0) i = q_enc (tx (C + 2 * i)) (tx (C + 2 * i + 1))) (hty : q_tyr tx C L (E - F) F (0, 0) = some r) (hr : r.1 + r.2 = 1) (hnm : ∀ i, q_nmok L i = true → di 51 i = nm i ∧ -1000000 ≤ (nm i).toInt ∧ (nm i).toInt ≤ 1000000) (hg : q_Gr n ln dr)
    (k : ∀ st, (r.2 = 1 → st 0 = (q_ev tx C F E nm).2.2.2 0) → (r.1 = 1 → (st 0).toInt64 = (q_ev tx C F E nm).2.1 0) → Q (some (.int (st 0))) (n, sl, ln, va_up di 52 st, dl, dr)) :
    q_EX q_KD (d + 1) 75 0 [.ref 50, .ref z, .int (nI L), .retAddr 0, .retAddr 0, .retAddr 0, .retAddr 0, .retAddr 0] [] (n, sl, ln, di, dl, dr) Q := by
  have hLn : (nI L).toNatClampNeg = L := nI_clamp (by omega)
  refine g75_0 hg hz (c_hasS L hL hl1 hl2 hg hz (g75_5 hg hz (fun _ => by rw [hl2]; exact vp_in_nI hL (by decide)) (fun _ => by rw [hl1]; exact vp_in_nI hL (by decide)) (fun _ => ?_) (fun c => absurd (q_bn.mp c) (fun z' => z' (by rw [h1, h2]; exact nI_lt hFE (by omega))))))
  rw [hLn, h1, h2]
  have hmin : (if (Int32.ofNat (ln (z + 1 + 0))) < nI E then (Int32.ofNat (ln (z + 1 + 0))) else nI E) = nI E := by
    rcases Nat.lt_or_ge (ln (z + 1 + 0)) E with h | h
    · omega
    · exact if_neg (nI_nlt h (by omega))
  rw [hmin]
  have hag := (q_ev_ag (tx := tx) (nm := nm) (nm' := nm) (k := C) (fun _ _ => rfl) (E - F) F q_e0 q_e0 r hty ⟨rfl, rfl, fun _ _ => rfl, fun _ _ => rfl⟩).2
  have hr1 : (q_ev tx C F E nm).1 = r.1 := congrArg Prod.fst hag
  have hr2 : (q_ev tx C F E nm).2.2.1 = r.2 := congrArg Prod.snd hag
  refine c_val36 (L := L) (C := C) (r := r) (nn := 0) (tt := 0) tx nm (di (z + 1 + 0)) hz hE hW hcd hr (fun i hi => (hnm i hi).2) hg (E - F) F (fun _ => 0) (fun _ => 0) di rfl (fun i hi => (hnm i hi).1) (by omega) (by omega) hty ⟨fun j hj => absurd hj (Nat.not_lt_zero j), fun j hj => absurd hj (Nat.not_lt_zero j)⟩ (fun st hst => k st (fun q => ?_) (fun q => ?_))
  · exact (hst.1 0 (by show 0 < (q_ev tx C F E nm).2.2.1; rw [hr2, q]; decide)).1
  · have hh := (hst.2 0 (by show 0 < (q_ev tx C F E nm).1; rw [hr1, q]; decide)).1
    have e0 : (q_it (fun i s => q_es (tx (C + 2 * i)) (tx (C + 2 * i + 1)) nm s) (E - F) F (0, fun _ => 0, 0, fun _ => 0)).2.2.1 = 0 := by
      show (q_ev tx C F E nm).2.2.1 = 0
      omega
    rw [e0] at hh
    exact hh.symm
end
