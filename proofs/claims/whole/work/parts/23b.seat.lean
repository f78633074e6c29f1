/-! seats and stillness: the class's house against any row a of the model's -/
/-- after keep: the ring and the model's steps -/
theorem w_keepR {n : Nat} {ln : Nat → Nat} {di0 : Nat → Nat → Int32} {h w s cc st pd so po se r17 r18 r19 r20 r21 r22 : Nat → Int32} {sc : Nat → Option Nat} {a tx a' : Nat → Int32} {P L T S K o : Nat} (b1 : q_RH n ln di0 h w s cc st pd so po se r17 r18 r19 r20 r21 r22 sc a tx P L T S K) (ho : o < 30) (h4 : ∀ s, s < S → q_S1 r18 r19 r20 r21 r22 a ((o + s) % 30) s) (hkp : w_kp a a' S) {q17 : Nat → Int32} (h5 : q17 5 = nI (if S = 30 then (o + 1) % 30 else o)) (h6 : q17 6 = nI (if S = 30 then 30 else S + 1)) :
    ∃ S', S' ≤ 30 ∧ a' 6 = nI S' ∧ q_St q17 (va_cpy st r18 0 ((o + S) % 30 * 6) 6) (va_cpy pd r19 0 ((o + S) % 30 * 6) 6) (va_up r20 ((o + S) % 30) (h 11)) (va_up r21 ((o + S) % 30) (h 16)) (va_up r22 ((o + S) % 30) (h 17)) a' S' ∧ q_Is a' P S' := by
  obtain ⟨S', δ, hS', hδ, k1, k2, k3, k4, k5, k6, k7⟩ := hkp
  obtain ⟨c1, c2, c3, c4, c5, c6, c7, c8, c9, c10, c11⟩ := b1
  have hS := c1.2.2.2.1
  have hS1 : 1 ≤ S' ∧ S' ≤ 30 := by
    by_cases z : S = 30
    · rw [if_pos z] at hS'; omega
    · rw [if_neg z] at hS'; omega
  have hq : (o + S) % 30 < 30 := Nat.mod_lt _ (by decide)
  have hsd : ∀ s, s + 1 < S' → s + δ < S := fun s hs => by
    by_cases z : S = 30
    · rw [if_pos z] at hS' hδ; omega
    · rw [if_neg z] at hS' hδ; omega
  refine ⟨S', hS1.2, k2, ⟨if S = 30 then (o + 1) % 30 else o, ?_, h5, by rw [h6, hS'], fun s hs => ?_⟩, fun s hs => ?_⟩
  · by_cases z : S = 30
    · rw [if_pos z]; omega
    · rw [if_neg z]; exact ho
  · by_cases hl : s + 1 < S'
    · have hidx : ((if S = 30 then (o + 1) % 30 else o) + s) % 30 = (o + (s + δ)) % 30 := by
        by_cases z : S = 30
        · rw [if_pos z]; rw [if_pos z] at hδ; omega
        · rw [if_neg z]; rw [if_neg z] at hδ; rw [hδ]; rfl
      have hne : ¬ (o + (s + δ)) % 30 = (o + S) % 30 := by
        by_cases z : S = 30
        · rw [if_pos z] at hδ hS'; omega
        · rw [if_neg z] at hδ hS'; omega
      rw [hidx]
      have hold := h4 (s + δ) (hsd s hl)
      obtain ⟨g1, g2, g3, g4⟩ := hold
      refine ⟨fun j hj => ?_, ?_, ?_, ?_⟩
      · rw [pk_cpy_out (by omega), pk_cpy_out (by omega)]
        have e1 := k3 s hl (3 + 3 * j) (by omega)
        have e2 := k3 s hl (3 + 3 * j + 2) (by omega)
        simp only [← Nat.add_assoc] at e1 e2
        rw [e1, e2]
        exact g1 j hj
      · rw [q_upN _ _ hne]
        refine q_sb_cg g2 (fun j hj => ?_)
        have e1 := k3 s hl (3 + 3 * j + 1) (by omega)
        simp only [← Nat.add_assoc] at e1
        exact e1
      · rw [q_upN _ _ hne, k3 s hl 1 (by omega)]; exact g3
      · rw [q_upN _ _ hne, k3 s hl 2 (by omega)]; exact g4
    · have es : s = S' - 1 := by omega
      have hidx : ((if S = 30 then (o + 1) % 30 else o) + s) % 30 = (o + S) % 30 := by
        by_cases z : S = 30
        · rw [if_pos z]; rw [if_pos z] at hS'; omega
        · rw [if_neg z]; rw [if_neg z] at hS'; rw [es, hS', Nat.add_sub_cancel]
      rw [hidx, es]
      refine ⟨fun j hj => ?_, ?_, ?_, ?_⟩
      · rw [pk_cpy_in (by omega) (by omega), pk_cpy_in (by omega) (by omega)]
        have e1 := k7 j 0 hj (by decide)
        have e2 := k7 j 2 hj (by decide)
        rw [Nat.add_zero, Nat.add_zero] at e1
        rw [e1, e2, show 0 + ((o + S) % 30 * 6 + j - (o + S) % 30 * 6) = j by omega]
        exact ⟨(c6 j hj).2.2.2.1, (c6 j hj).2.2.2.2⟩
      · rw [q_upE]
        exact q_sb_cg c7 (fun j hj => k7 j 1 hj (by decide))
      · rw [q_upE, k5]; exact c5.2.2.2.1
      · rw [q_upE, k6]; exact c5.2.2.1
  · by_cases hl : s + 1 < S'
    · obtain ⟨Ps, g1, g2, g3⟩ := c4 (s + δ) (hsd s hl)
      refine ⟨Ps, g1, ?_, q_PI_cg g3 (fun j e hj he => ?_)⟩
      · have e1 := k3 s hl 0 (by omega)
        rw [Nat.add_zero, Nat.add_zero] at e1
        rw [e1]; exact g2
      · have e1 := k3 s hl (3 + 3 * j + e) (by omega)
        simp only [← Nat.add_assoc] at e1
        exact e1
    · have es : s = S' - 1 := by omega
      rw [es]
      exact ⟨P, Nat.le_refl _, k4.trans c1.2.2.2.2.2.1, q_PI_cg c2.2 (fun j e hj he => k7 j e hj he)⟩
/-- the class's house and memos against a; the Reckoner has forgotten -/
def w_CX (n : Nat) (ln : Nat → Nat) (di : Nat → Nat → Int32) (dr : Nat → Nat → Option Nat) (a tx : Nat → Int32) (P L T K : Nat) : Prop :=
  (∃ S, q_RH n ln di (di 7) (di 8) (di 9) (di 10) (di 11) (di 12) (di 13) (di 14) (di 15) (di 17) (di 18) (di 19) (di 20) (di 21) (di 22) (dr 16) a tx P L T S K) ∧ q_CE (di 54) (di 55) (di 56) a tx P L
/-- rows that a step may write -/
abbrev w_Z : Nat → Bool := fun k => Nat.beq k 7 || Nat.beq k 11 || Nat.beq k 12 || (Nat.ble 17 k && Nat.ble k 22) || (Nat.ble 51 k && Nat.ble k 59)
theorem w_Z_no {k j : Nat} (h : w_Z k = false) (hj : w_Z j = true) : ¬ k = j := fun e => by rw [e, hj] at h; exact absurd h (by decide)
/-- a seat may be had -/
def w_sOK (a : Nat → Int32) (P : Nat) (x1 x2 : Int32) : Prop := ∃ j, j < P ∧ x1 = nI j ∧ (-1 : Int32) ≤ x2 ∧ x2 ≤ 15 ∧ ¬ a (10 + 6 * j + 3) = x2 ∧ (x2 = -1 ∨ ∀ i, i < P → ¬ a (10 + 6 * i + 3) = x2)
def w_seat (a : Nat → Int32) (P : Nat) (x1 x2 : Int32) (a' : Nat → Int32) : Prop := ∃ S b, S ≤ 30 ∧ a 6 = nI S ∧ w_kp a b S ∧ ∃ j, j < P ∧ x1 = nI j ∧ ∀ i, i < 706 → a' i = va_up b (10 + 6 * j + 3) x2 i
def w_hOK (a : Nat → Int32) (P : Nat) (x1 x2 : Int32) : Prop := ∃ j, j < P ∧ x1 = nI j ∧ ¬ a (10 + 6 * j + 4) = (if x2 = 0 then 0 else 1)
def w_hire (a : Nat → Int32) (P : Nat) (x1 x2 : Int32) (a' : Nat → Int32) : Prop := ∃ S b, S ≤ 30 ∧ a 6 = nI S ∧ w_kp a b S ∧ ∃ j, j < P ∧ x1 = nI j ∧ ∀ i, i < 706 → a' i = va_up b (10 + 6 * j + 4) (if x2 = 0 then 0 else 1) i
theorem w_on_none {seat : Nat → Int32} {x : Int32} : ∀ (c j : Nat), j + c < 2 ^ 31 → (q_on seat x c j < 0 ↔ ∀ i, j ≤ i → i < j + c → ¬ seat i = x) ∧ (¬ q_on seat x c j = -1 ↔ ¬ q_on seat x c j < 0) := by
  intro c
  induction c with
  | zero => intro j _; exact ⟨⟨fun _ i h1 h2 => by omega, fun _ => by show (-1 : Int32) < 0; decide⟩, by show (¬ (-1 : Int32) = -1) ↔ ¬ (-1 : Int32) < 0; decide⟩
  | succ c ih =>
    intro j hj
    unfold q_on
    by_cases e : seat j = x
    · rw [if_pos e]
      refine ⟨⟨fun h => absurd h (nI_pos (by omega)), fun h => absurd e (h j (Nat.le_refl _) (by omega))⟩, ⟨fun _ => nI_pos (by omega), fun _ => w_neg1 (by omega)⟩⟩
    · rw [if_neg e]
      have := ih (j + 1) (by omega)
      refine ⟨?_, this.2⟩
      rw [this.1]
      exact ⟨fun h i h1 h2 => by
        by_cases ei : i = j
        · subst ei; exact e
        · exact h i (by omega) (by omega), fun h i h1 h2 => h i (by omega) (by omega)⟩
section
variable {c d n sl : Nat} {ln : Nat → Nat} {di : Nat → Nat → Int32} {dl : Nat → Nat → Int64} {dr : Nat → Nat → Option Nat} {Q : Option Value → q_H → Prop} {a tx : Nat → Int32} {P L T K : Nat}
/-- the class's house after a step that changed one person's seat or stillness -/
theorem w_after {S o j : Nat} {di : Nat → Nat → Int32} {q17 : Nat → Int32} {a a' b : Nat → Int32} {h11 x : Int32} {st' : Nat → Int32} {D : Nat → Nat → Int32} (b1 : q_RH n ln di (di 7) (di 8) (di 9) (di 10) (di 11) (di 12) (di 13) (di 14) (di 15) (di 17) (di 18) (di 19) (di 20) (di 21) (di 22) (dr 16) a tx P L T S K) (hCE : q_CE (di 54) (di 55) (di 56) a tx P L) (ho : o < 30) (h4 : ∀ s, s < S → q_S1 (di 18) (di 19) (di 20) (di 21) (di 22) a ((o + s) % 30) s) (h5 : q17 5 = nI (if S = 30 then (o + 1) % 30 else o)) (h6 : q17 6 = nI (if S = 30 then 30 else S + 1)) (hkp : w_kp a b S)
    (ha : ∀ i, i < 706 → ¬ (10 ≤ i ∧ i < 46) → a' i = b i) (hp : ∀ j, j < 6 → a' (10 + 6 * j + 0) = a (10 + 6 * j + 0) ∧ a' (10 + 6 * j + 1) = a (10 + 6 * j + 1) ∧ a' (10 + 6 * j + 2) = a (10 + 6 * j + 2) ∧ a' (10 + 6 * j + 5) = a (10 + 6 * j + 5)) (hst : ∀ j, j < 6 → st' j = a' (10 + 6 * j + 3)) (hsb : q_sb h11 (fun j => a' (10 + 6 * j + 4))) (hPI : q_PI P (fun j e => a' (10 + 6 * j + 3 + e)))
    (hD : ∀ k, 84 ≤ k → D k = di k) : ∃ S', q_RH n ln D (va_up (di 7) 11 h11) (di 8) (di 9) (di 10) st' (di 12) (di 13) (di 14) (di 15) q17 (va_cpy (di 11) (di 18) 0 ((o + S) % 30 * 6) 6) (va_cpy (di 12) (di 19) 0 ((o + S) % 30 * 6) 6) (va_up (di 20) ((o + S) % 30) (di 7 11)) (va_up (di 21) ((o + S) % 30) (di 7 16)) (va_up (di 22) ((o + S) % 30) (di 7 17)) (dr 16) a' tx P L T S' K := by
  obtain ⟨S', hS', g6, gSt, gIs⟩ := w_keepR b1 ho h4 hkp h5 h6
  obtain ⟨S2, δ, e1, e2, k1, k2, k3, k4, k5, k6, k7⟩ := hkp
  obtain ⟨c1, c2, c3, c4, c5, c6, c7, c8, c9, c10, c11⟩ := b1
  obtain ⟨i1, i2, i3, i4, i5, i6, i7, i8, i9, i10, i11⟩ := c1
  have AN : ∀ i, i < 76 → ¬ (10 ≤ i ∧ i < 46) → ¬ i = 6 → a' i = a i := fun i h1 h2 h3 => (ha i (by omega) h2).trans (k1 i h1 h3)
  refine ⟨S', ⟨i1, i2, i3, hS', i5, ?_, ?_, ?_, (ha 6 (by omega) (by omega)).trans g6, ?_, ?_⟩, ⟨fun j hj => ?_, hPI⟩, q_Il_cg c3 (fun i h1 h2 => AN i (by omega) (by omega) (by omega)), q_Is_cg gIs hS' (fun i h1 h2 => ha i (by omega) (by omega)), ⟨?_, ?_, ?_, ?_, ?_, ?_, ?_⟩, fun j hj => ?_, hsb, q_Li_cg c8 (fun i h1 h2 => AN i (by omega) (by omega) (by omega)), q_Se_cg c9 (fun i h1 h2 => AN i (by omega) (by omega) (by omega)), q_St_cg gSt hS' (fun i h1 h2 => ha i (by omega) (by omega)), q_Sc_cg c11 hD⟩
  · rw [AN 0 (by omega) (by omega) (by omega)]; exact i6
  · rw [AN 1 (by omega) (by omega) (by omega)]; exact i7
  · rw [AN 4 (by omega) (by omega) (by omega)]; exact i8
  · rw [AN 7 (by omega) (by omega) (by omega)]; exact i10
  · rw [AN 5 (by omega) (by omega) (by omega)]; exact i11
  · rw [(hp j hj).1, (hp j hj).2.1]; exact c2.1 j hj
  · rw [AN 0 (by omega) (by omega) (by omega)]; exact c5.1
  · rw [AN 1 (by omega) (by omega) (by omega)]; exact c5.2.1
  · rw [AN 2 (by omega) (by omega) (by omega)]; exact c5.2.2.1
  · rw [AN 3 (by omega) (by omega) (by omega)]; exact c5.2.2.2.1
  · rw [AN 4 (by omega) (by omega) (by omega)]; exact c5.2.2.2.2.1
  · rw [AN 5 (by omega) (by omega) (by omega)]; exact c5.2.2.2.2.2.1
  · rw [AN 7 (by omega) (by omega) (by omega)]; exact c5.2.2.2.2.2.2
  · rw [(hp j hj).1, (hp j hj).2.1, (hp j hj).2.2.1, (hp j hj).2.2.2]
    exact ⟨(c6 j hj).1, (c6 j hj).2.1, (c6 j hj).2.2.1, hst j hj, (c6 j hj).2.2.2.2⟩
/-- House.putOn -/
theorem x_putOn {x1 x2 : Int32} (hc : w_CX n ln di dr a tx P L T K) (hg : q_Gr n ln dr)
    (k1 : w_sOK a P x1 x2 → ∀ D, (∀ k, w_Z k = false → D k = di k) → (∀ a', w_seat a P x1 x2 a' → w_CX n ln D dr a' tx P L T K) → Q (some (.int 1)) (n, sl, ln, D, dl, dr))
    (k0 : ¬ w_sOK a P x1 x2 → Q (some (.int 0)) (n, sl, ln, di, dl, dr)) : q_EX q_KD (d + 1) 61 0 [.ref 7, .int x1, .int x2] [] (n, sl, ln, di, dl, dr) Q := by
  obtain ⟨⟨S, b1⟩, hCE⟩ := hc
  have hP := b1.1.1
  have hS := b1.1.2.2.2.1
  have h10 : di 7 10 = nI P := by rw [b1.2.2.2.2.1.1]; exact b1.1.2.2.2.2.2.1
  obtain ⟨o, ho, o5, o6, o4⟩ := b1.2.2.2.2.2.2.2.2.2.1
  have t16 : (16 : Int32).toInt = 16 := rfl
  have seatE : ∀ j, j < 6 → di 11 j = a (10 + 6 * j + 3) := fun j hj => (b1.2.2.2.2.2.1 j hj).2.2.2.1
  have fin : ∀ j, j < P → x1 = nI j → w_sOK a P x1 x2 → q_EX q_KD d 64 0 [.ref 17, .ref 7, .retAddr 0] [] (n, sl, ln, di, dl, dr) (fun r1 h1 => q_EX q_KD (d + 1) 61 55 [.ref 7, .int x1, .int x2] (r1.toList ++ []) h1 Q) := by
    intro j hj hx hok
    refine c_keepX ho hS o5 o6 hg (fun q17 q5 q6 => g61_55 hg (by rw [hx]; exact vp_in_nI (by omega) (by decide)) ?_)
    rw [hx, nI_clamp (show j < 2 ^ 31 by omega)]
    refine k1 hok _ (fun k hk => ?_) (fun a' ha' => ?_)
    · rw [q_uR (w_Z_no hk rfl), q_uR (w_Z_no hk rfl), q_uR (w_Z_no hk rfl), q_uR (w_Z_no hk rfl), q_upN _ _ (w_Z_no hk rfl), q_upN _ _ (w_Z_no hk rfl), q_upN _ _ (w_Z_no hk rfl)]
    · obtain ⟨S2, b, s1, s2, s3, j2, j3, j4, j5⟩ := ha'
      have eS : S2 = S := by
        rw [b1.1.2.2.2.2.2.2.2.2.1] at s2
        exact ((nI_eq (by omega) (by omega)).mp s2).symm
      subst eS
      have ej : j2 = j := by
        rw [hx] at j4
        exact ((nI_eq (by omega) (by omega)).mp j4).symm
      subst ej
      have kp := s3
      obtain ⟨S3, δ, _, _, kk1, _⟩ := kp
      have bE : ∀ i, 10 ≤ i → i < 46 → b i = a i := fun i h1 h2 => kk1 i (by omega) (by omega)
      obtain ⟨jj, v1, v2, v3, v4, v5, v6⟩ := hok
      have ejj : jj = j2 := by
        rw [hx] at v2
        exact ((nI_eq (by omega) (by omega)).mp v2).symm
      subst ejj
      have hdD : ∀ k, 84 ≤ k → q_u (q_u (q_u (q_u (va_up (va_up (va_up di 17 q17) 18 (va_cpy (di 11) (di 18) 0 ((o + S2) % 30 * 6) 6)) 19 (va_cpy (di 12) (di 19) 0 ((o + S2) % 30 * 6) 6)) 20 ((o + S2) % 30) (di 7 11)) 21 ((o + S2) % 30) (di 7 16)) 22 ((o + S2) % 30) (di 7 17)) 11 jj x2 k = di k := fun k hk => by
        rw [w_84 (by decide) hk, w_84 (by decide) hk, w_84 (by decide) hk, w_84 (by decide) hk, w_84u (by decide) hk, w_84u (by decide) hk, w_84u (by decide) hk]
      have aS : ∀ i, i < 6 → a' (10 + 6 * i + 3) = if i = jj then x2 else a (10 + 6 * i + 3) := fun i hi => by
        rw [j5 _ (by omega)]
        by_cases e : i = jj
        · subst e; rw [if_pos rfl, q_upE]
        · rw [if_neg e, q_upN _ _ (by omega)]; exact bE _ (by omega) (by omega)
      have aN : ∀ i, 10 ≤ i → i < 46 → ¬ i = 10 + 6 * jj + 3 → a' i = a i := fun i h1 h2 h3 => by
        rw [j5 _ (by omega), q_upN _ _ h3]; exact bE i h1 h2
      have hx2 : x2 = -1 ∨ ∃ s, s < 16 ∧ x2 = nI s := by
        by_cases e : x2 = -1
        · exact Or.inl e
        · have : (0 : Int32) ≤ x2 := by
            rw [fa_le, q_tm1] at v3
            rw [fa_le, q_t0]
            have : ¬ x2.toInt = -1 := fun z => e (by rw [fa_eq, q_tm1]; exact z)
            omega
          obtain ⟨s, hs, he⟩ := nI_of2 (M := 15) (n := 15) rfl (q_not_lt this) v4
          exact Or.inr ⟨s, by omega, he⟩
      obtain ⟨S', hRH⟩ := w_after (n := n) (ln := ln) (dr := dr) (tx := tx) (P := P) (L := L) (T := T) (K := K) (a' := a') (h11 := di 7 11) (x := x2) (st' := va_up (di 11) jj x2) (j := jj) b1 hCE ho o4 q5 q6 s3 (fun i h1 h2 => by rw [j5 i h1, q_upN _ _ (by omega)]) (fun i hi => ⟨aN _ (by omega) (by omega) (by omega), aN _ (by omega) (by omega) (by omega), aN _ (by omega) (by omega) (by omega), aN _ (by omega) (by omega) (by omega)⟩) (fun i hi => by
          rw [aS i hi]
          by_cases e : i = jj
          · subst e; rw [if_pos rfl, q_upE]
          · rw [if_neg e, q_upN _ _ e]; exact seatE i hi) (q_sb_cg b1.2.2.2.2.2.2.1 (fun i hi => aN _ (by omega) (by omega) (by omega))) (by
          have ip := b1.2.1.2
          refine ⟨fun i hi => ?_, fun i h1 h2 => ?_, fun i i' hi hi' hne he => ?_⟩
          · show a' (10 + 6 * i + 3) = -1 ∨ ∃ s, s < 16 ∧ a' (10 + 6 * i + 3) = nI s
            rw [aS i hi]
            by_cases e : i = jj
            · rw [if_pos e]; exact hx2
            · rw [if_neg e]; exact ip.1 i hi
          · show a' (10 + 6 * i + 3) = -1 ∧ a' (10 + 6 * i + 3 + 1) = 0 ∧ a' (10 + 6 * i + 3 + 2) = 0
            rw [aS i h2, if_neg (by omega), aN _ (by omega) (by omega) (by omega), aN _ (by omega) (by omega) (by omega)]
            exact ip.2.1 i h1 h2
          · have he' : a' (10 + 6 * i + 3) = a' (10 + 6 * i' + 3) := he
            show a' (10 + 6 * i + 3) = -1
            rw [aS i hi, aS i' hi'] at he'
            rw [aS i hi]
            by_cases e : i = jj
            · rw [if_pos e]
              rw [if_pos e, if_neg (by omega)] at he'
              rcases v6 with z | z
              · exact z
              · rcases Nat.lt_or_ge i' P with y | y
                · exact absurd he'.symm (z i' y)
                · rw [he']; exact (ip.2.1 i' y hi').1
            · rw [if_neg e]
              rw [if_neg e] at he'
              by_cases e' : i' = jj
              · rw [if_pos e'] at he'
                rcases v6 with z | z
                · rw [he']; exact z
                · rcases Nat.lt_or_ge i P with y | y
                  · exact absurd he' (z i y)
                  · exact (ip.2.1 i y hi).1
              · rw [if_neg e'] at he'
                exact ip.2.2 i i' hi hi' hne he') hdD
      refine ⟨⟨S', ?_⟩, ?_⟩
      · have e7 : va_up (di 7) 11 (di 7 11) = di 7 := q_upid _ _
        rw [e7] at hRH
        exact hRH
      · exact q_CE_cg (a' := a') hCE (Nat.le_refl _) (Nat.le_refl _) (by rw [j5 5 (by omega), q_upN _ _ (by omega)]; exact kk1 5 (by omega) (by omega)) (fun i hi => ⟨aN _ (by omega) (by omega) (by omega), aN _ (by omega) (by omega) (by omega)⟩) (fun l hl => by
          have hL := b1.1.2.1
          refine ⟨?_, ?_⟩
          · rw [j5 _ (by omega), q_upN _ _ (by omega)]; exact kk1 _ (by omega) (by omega)
          · rw [j5 _ (by omega), q_upN _ _ (by omega)]; exact kk1 _ (by omega) (by omega))
  refine g61_0 hg (c_isTold hg ?_)
  rcases Classical.em (∃ j, j < P ∧ x1 = nI j) with hj | hj
  · obtain ⟨j, hj, hx⟩ := hj
    have hjn : x1.toNatClampNeg = j := by rw [hx]; exact nI_clamp (by omega)
    have y : ¬ q_b ((0 : Int32) ≤ x1 ∧ x1 < di 7 10 ∧ x1 < 6) = 0 := q_bp.mpr (by rw [h10]; exact (w_told hP).mpr ⟨j, hj, hx⟩)
    have vj : vp_in x1 6 := by rw [hx]; exact vp_in_nI (by omega) (by decide)
    refine g61_5 hg (fun z => absurd z y) (fun _ w => k0 ?_) (fun _ _ w => k0 ?_) (fun _ _ _ => vj) (fun _ w1 w2 w3 w4 => fin j hj hx ⟨j, hj, hx, w1, ?_, ?_, Or.inl w4⟩) (fun _ w1 w2 w3 w4 => c_onH hg (g61_41 hg (fun w5 => fin j hj hx ⟨j, hj, hx, w1, ?_, ?_, Or.inr ?_⟩) (fun w5 => k0 ?_))) (fun _ w1 w2 w3 => k0 ?_)
    · rintro ⟨_, _, _, z, _⟩; exact q_not_lt z w
    · rintro ⟨_, _, _, _, z, _⟩
      rw [fa_le, q_t15] at z
      rw [fa_le, t16] at w
      omega
    · rw [fa_lt, t16] at w2; rw [fa_le, q_t15]; omega
    · rw [hjn, seatE j (by omega)] at w3; exact w3
    · rw [fa_lt, t16] at w2; rw [fa_le, q_t15]; omega
    · rw [hjn, seatE j (by omega)] at w3; exact w3
    · intro i hi
      have hn := (w_on_none (seat := di 11) (x := x2) 6 0 (by decide)).2
      have hneg : q_on (di 11) x2 6 0 < 0 := by rw [w5]; decide
      rw [← seatE i (by omega)]
      exact ((w_on_none 6 0 (by decide)).1.mp hneg) i (by omega) (by omega)
    · rintro ⟨_, _, _, _, _, _, z⟩
      rcases z with z | z
      · exact w4 z
      · refine w5 ?_
        have : ∀ i, 0 ≤ i → i < 0 + 6 → ¬ di 11 i = x2 := fun i _ hi e => by
          rw [seatE i (by omega)] at e
          rcases Nat.lt_or_ge i P with y' | y'
          · exact z i y' e
          · have := (b1.2.1.2.2.1 i y' (by omega)).1
            have e' : a (10 + 6 * i + 3) = -1 := this
            exact w4 (e.symm.trans e')
        exact q_on_out 6 0 (fun i h1 h2 => this i h1 h2)
    · rintro ⟨jj, z1, z2, _, _, z3, _⟩
      rw [hx] at z2
      have : j = jj := (nI_eq (by omega) (by omega)).mp z2
      subst this
      rw [hjn, seatE j (by omega)] at w3
      exact z3 w3
  · have y : q_b ((0 : Int32) ≤ x1 ∧ x1 < di 7 10 ∧ x1 < 6) = 0 := q_bn.mpr (by rw [h10]; exact fun z => hj ((w_told hP).mp z))
    have kk : Q (some (.int 0)) (n, sl, ln, di, dl, dr) := k0 (fun ⟨j, z1, z2, _⟩ => hj ⟨j, z1, z2⟩)
    exact g61_5 hg (fun _ => kk) (fun z => absurd y z) (fun z => absurd y z) (fun z => absurd y z) (fun z => absurd y z) (fun z => absurd y z) (fun z => absurd y z)
end
