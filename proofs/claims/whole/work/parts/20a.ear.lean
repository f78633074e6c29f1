/-! the class hears: ruler, laughs -/
theorem q_TX_cg {ln : Nat → Nat} {di di' : Nat → Nat → Int32} {z : Nat} {tx : Nat → Int32} {t : Nat} (h : q_TX ln di z tx t) (hz : 84 ≤ z) (hd : ∀ k, 84 ≤ k → di' k = di k) : q_TX ln di' z tx t := by
  unfold q_TX at h ⊢
  rw [hd (z + 1 + 0) (by omega), hd (z + 1 + 1) (by omega), hd (z + 1 + 2) (by omega), hd (z + 1 + 3) (by omega), hd (z + 1 + 4) (by omega), hd (z + 1 + 5) (by omega), hd z hz]
  exact h
theorem q_TX_tw {ln : Nat → Nat} {di : Nat → Nat → Int32} {z : Nat} {tx : Nat → Int32} {t : Nat} (h : q_TX ln di z tx t) : q_tw tx t := by
  obtain ⟨N, W, h1, h2, h3, _, _, _, _, _, _, h4, _, _⟩ := h
  refine ⟨N, h1, h3, fun k hk => ?_⟩
  obtain ⟨so, g1, g2, _, g3, g4, g5⟩ := h4 k hk
  refine ⟨so, g1, g2, fun a b => ?_, fun a => ?_, fun a => ?_⟩
  · obtain ⟨p, q1, q2, _⟩ := g3 a b
    exact ⟨p, q1, q2⟩
  · obtain ⟨s, q1, q2, _⟩ := g4 a
    exact ⟨s, q1, q2⟩
  · obtain ⟨F, E, q1, q2, q3, q4, _, _, q5, _⟩ := g5 a
    exact ⟨F, E, q1, by omega, q3, q4, q5⟩
/-- what the Ear and the Reckoner see of the house: the model's rows a, tx -/
def q_W (n : Nat) (ln : Nat → Nat) (di : Nat → Nat → Int32) (dr : Nat → Nat → Option Nat) (a tx : Nat → Int32) (P L : Nat) : Prop :=
  (∀ i, i < 16 → di 1 i = q_near.getD i 0) ∧ P ≤ 6 ∧ L ≤ 10 ∧ di 7 12 = nI L
  ∧ (∀ j, j < 6 → di 8 j = a (10 + 6 * j + 0) ∧ di 9 j = a (10 + 6 * j + 1) ∧ (∃ w, w < 10 ∧ a (10 + 6 * j + 0) = nI w) ∧ (∃ s, s < 10 ∧ a (10 + 6 * j + 1) = nI s))
  ∧ (∀ l, l < 10 → di 13 l = a (46 + 2 * l) ∧ di 14 l = a (46 + 2 * l + 1) ∧ (∃ s, s < 10 ∧ a (46 + 2 * l) = nI s) ∧ (∃ p, p < 10 ∧ a (46 + 2 * l + 1) = nI p))
  ∧ ((di 7 15 = -1 ∧ a 5 = -1) ∨ ∃ t z, t < 4 ∧ di 7 15 = nI t ∧ a 5 = nI t ∧ dr 16 t = some z ∧ q_scr n z ∧ q_TX ln di z tx t)
/-- rows that hearing writes in the class -/
abbrev w_E : Nat → Bool := fun k => Nat.ble 51 k && Nat.ble k 56
theorem w_EO {k : Nat} (h : 84 ≤ k) : w_E k = false := by
  show (Nat.ble 51 k && Nat.ble k 56) = false
  rw [Bool.and_eq_false_iff]
  right
  cases hb : Nat.ble k 56 with
  | false => rfl
  | true => have := Nat.le_of_ble_eq_true hb; omega
theorem q_W_cg {n : Nat} {ln : Nat → Nat} {di di' : Nat → Nat → Int32} {dr : Nat → Nat → Option Nat} {a tx : Nat → Int32} {P L : Nat} (h : q_W n ln di dr a tx P L) (h1 : di' 1 = di 1) (h7a : di' 7 12 = di 7 12) (h7b : di' 7 15 = di 7 15) (h8 : di' 8 = di 8) (h9 : di' 9 = di 9) (h13 : di' 13 = di 13) (h14 : di' 14 = di 14) (hd : ∀ k, 84 ≤ k → di' k = di k) : q_W n ln di' dr a tx P L := by
  unfold q_W at *
  rw [h1, h7a, h7b, h8, h9, h13, h14]
  refine ⟨h.1, h.2.1, h.2.2.1, h.2.2.2.1, h.2.2.2.2.1, h.2.2.2.2.2.1, ?_⟩
  rcases h.2.2.2.2.2.2 with q | ⟨t, z, q1, q2, q3, q4, q5, q6⟩
  · exact Or.inl q
  · exact Or.inr ⟨t, z, q1, q2, q3, q4, q5, q_TX_cg q6 q5.1 hd⟩
theorem q_W_F {n : Nat} {ln : Nat → Nat} {di e : Nat → Nat → Int32} {dr : Nat → Nat → Option Nat} {a tx : Nat → Int32} {P L : Nat} (h : q_W n ln di dr a tx P L) : q_W n ln (q_F w_E di e) dr a tx P L :=
  q_W_cg h rfl rfl rfl rfl rfl rfl rfl (fun k hk => q_Fo (w_EO hk))
theorem q_W_MT {n : Nat} {ln : Nat → Nat} {di : Nat → Nat → Int32} {dr : Nat → Nat → Option Nat} {a tx : Nat → Int32} {P L : Nat} (h : q_W n ln di dr a tx P L) : q_MT a tx := by
  rcases h.2.2.2.2.2.2 with q | ⟨t, z, q1, q2, q3, q4, q5, q6⟩
  · exact Or.inl q.2
  · exact Or.inr ⟨t, q1, q3, q_TX_tw q6⟩
section
variable {d n sl : Nat} {ln : Nat → Nat} {di : Nat → Nat → Int32} {dl : Nat → Nat → Int64} {dr : Nat → Nat → Option Nat} {Q : Option Value → q_H → Prop} {a tx : Nat → Int32} {P L : Nat}
/-- House.ruler: the text that rules, if it has the law x -/
theorem c_rul (x : Nat) (hx : x < 3) (h : q_W n ln di dr a tx P L) (hg : q_Gr n ln dr)
    (k0 : q_kl5 a tx (nI x) = -1 → Q (some .null) (n, sl, ln, di, dl, dr))
    (k1 : ∀ t z F E, t < 4 → q_scr n z → ln (z + 1 + 1) = 3 → ln (z + 1 + 2) = 3 → E ≤ ln (z + 1 + 0) → ln (z + 1 + 0) ≤ 300 → F < E → di (z + 1 + 1) x = nI F → di (z + 1 + 2) x = nI E → (∀ i, i < E → di (z + 1 + 0) i = q_enc (tx (680 * t + 75 + 2 * i)) (tx (680 * t + 75 + 2 * i + 1))) → q_tyr tx (680 * t + 75) x (E - F) F (0, 0) = some (if x = 0 then (0, 1) else (1, 0)) → ¬ q_kl5 a tx (nI x) < 0 → (∀ nm, q_lv a tx (nI x) nm = q_ev tx (680 * t + 75) F E nm)
      → (x = 0 → di z 6 = 0 → ∀ i, F ≤ i → i < E → ¬ (tx (680 * t + 75 + 2 * i) = 1 ∧ (tx (680 * t + 75 + 2 * i + 1) = 2 ∨ tx (680 * t + 75 + 2 * i + 1) = 5))) → Q (some (.ref z)) (n, sl, ln, di, dl, dr)) :
    q_EX q_KD (d + 1) 73 0 [.ref 7, .int (nI x), .retAddr 0] [] (n, sl, ln, di, dl, dr) Q := by
  have hMT := q_W_MT h
  rcases h.2.2.2.2.2.2 with ⟨q, q'⟩ | ⟨t, z, q1, q2, q3, q4, q5, q6⟩
  · exact c_ruler0 (by rw [q]; decide) hg (k0 (by unfold q_kl5; rw [q', if_pos (by decide)]))
  · obtain ⟨N, W, w1, w2, w3, w4, w5, w6, _, _, _, w7, w8, w9⟩ := q6
    refine c_ruler t x z q1 hx q2 q4 q5 w5 w6 hg (fun hn => k0 ?_) (fun hlt => ?_)
    · rcases q_law hMT x hx with h0 | ⟨t', kk, F, E, ht, hk, h5, hkl, hFE, hE, hso, hF', hE', hty, hlv⟩
      · exact h0
      · exfalso
        have ett : t' = t := by
          rw [q3] at h5
          exact ((nI_eq (by omega) (by omega)).mp h5).symm
        subst ett
        have hkN : kk < N := by
          rcases Nat.lt_or_ge kk N with y | y
          · exact y
          · exfalso
            have e5 : (a 5).toNatClampNeg = t' := by rw [h5]; exact nI_clamp (by omega)
            have e1 : q_kl5 a tx (nI x) = q_cla tx t' (nI x) N 0 := by
              unfold q_kl5
              rw [if_neg (by rw [h5]; exact nI_pos (by omega)), e5, w3, nI_clamp (by omega)]
            rcases q_cla_some (tx := tx) (t := t') (x := nI x) N 0 (by omega) with y3 | ⟨k2, _, y4, y5, _⟩
            · rw [e1, y3] at hkl
              have := congrArg Int32.toInt hkl
              rw [q_tm1, nI_toInt (by omega)] at this
              omega
            · rw [e1, y5] at hkl
              have := (nI_eq (by omega) (by omega)).mp hkl
              omega
        obtain ⟨so, g1, g2, _, _, _, g5⟩ := w7 kk hkN
        have esx : so = x := by
          rw [hso] at g2
          exact ((nI_eq (by omega) (by omega)).mp g2).symm
        subst esx
        obtain ⟨F2, E2, f1, _, _, _, f5, f6, _⟩ := g5 hx
        exact hn (by rw [f5, f6]; exact nI_lt f1 (by omega))
    · rcases Classical.em (∀ k, k < N → ¬ tx (680 * t + 1 + 3 * k) = nI x) with y | y
      · exact absurd hlt (w8 x hx y)
      · rcases q_law hMT x hx with h0 | ⟨t', kk, F, E, ht, hk, h5, hkl, hFE, hE, hso, hF', hE', hty, hlv⟩
        · exfalso
          refine y (fun k hk hc => ?_)
          have e5 : (a 5).toNatClampNeg = t := by rw [q3]; exact nI_clamp (by omega)
          have e1 : q_kl5 a tx (nI x) = q_cla tx t (nI x) N 0 := by
            unfold q_kl5
            rw [if_neg (by rw [q3]; exact nI_pos (by omega)), e5, w3, nI_clamp (by omega)]
          have : ∀ (c j : Nat), j + c < 2 ^ 31 → j ≤ k → k < j + c → ¬ q_cla tx t (nI x) c j = -1 := by
            intro c
            induction c with
            | zero => intro j _ h1 h2; omega
            | succ c ih =>
              intro j hj h1 h2
              unfold q_cla
              by_cases e : tx (680 * t + 1 + 3 * j) = nI x
              · rw [if_pos e]
                intro q
                have := congrArg Int32.toInt q
                rw [q_tm1, nI_toInt (by omega)] at this
                omega
              · rw [if_neg e]
                have : ¬ k = j := fun q => e (q ▸ hc)
                exact ih (j + 1) (by omega) (by omega) (by omega)
          exact this N 0 (by omega) (by omega) (by omega) (e1.symm.trans h0)
        · have ett : t' = t := by
            rw [q3] at h5
            exact ((nI_eq (by omega) (by omega)).mp h5).symm
          subst ett
          have hkN : kk < N := by
            have e5 : (a 5).toNatClampNeg = t' := by rw [h5]; exact nI_clamp (by omega)
            have e1 : q_kl5 a tx (nI x) = q_cla tx t' (nI x) N 0 := by
              unfold q_kl5
              rw [if_neg (by rw [h5]; exact nI_pos (by omega)), e5, w3, nI_clamp (by omega)]
            rcases q_cla_some (tx := tx) (t := t') (x := nI x) N 0 (by omega) with y3 | ⟨k2, _, y4, y5, _⟩
            · rw [e1, y3] at hkl
              have := congrArg Int32.toInt hkl
              rw [q_tm1, nI_toInt (by omega)] at this
              omega
            · rw [e1, y5] at hkl
              have := (nI_eq (by omega) (by omega)).mp hkl
              omega
          obtain ⟨so, g1, g2, _, _, _, g5⟩ := w7 kk hkN
          have esx : so = x := by
            rw [hso] at g2
            exact ((nI_eq (by omega) (by omega)).mp g2).symm
          subst esx
          obtain ⟨F2, E2, f1, f2, f3, f4, f5, f6, f7, f8⟩ := g5 hx
          have eF : F2 = F := by
            rw [hF'] at f3
            exact ((nI_eq (by omega) (by omega)).mp f3).symm
          have eE : E2 = E := by
            rw [hE'] at f4
            exact ((nI_eq (by omega) (by omega)).mp f4).symm
          subst eF eE
          exact k1 t' z F2 E2 q1 q5 w5 w6 (by omega) (by omega) f1 f5 f6 (fun i hi => w9 i (by omega)) f7 (by rw [hkl]; exact nI_pos (by omega)) hlv f8
end
