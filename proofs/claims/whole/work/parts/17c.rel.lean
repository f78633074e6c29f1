/-! THE RELATION, all of it -/
/-- one house of the class (rows h .. r22, scripts sc) is the model's row a -/
def q_RH (n : Nat) (ln : Nat → Nat) (di : Nat → Nat → Int32) (h w s c st pd so po se r17 r18 r19 r20 r21 r22 : Nat → Int32) (sc : Nat → Option Nat) (a tx : Nat → Int32) (P L T S K : Nat) : Prop :=
  q_Ic a P L T S K ∧ q_Ip a P ∧ q_Il a ∧ q_Is a P S ∧ q_Co h a ∧ q_Pe w s c st pd a ∧ q_sb (h 11) (fun j => a (10 + 6 * j + 4)) ∧ q_Li so po a ∧ q_Se se a ∧ q_St r17 r18 r19 r20 r21 r22 a S ∧ q_Sc n ln di sc tx T
/-- the tape -/
def q_Tp (r40 r41 r67 r71 : Nat → Int32) : Prop := ∃ N, N ≤ 300 ∧ r40 3 = nI N ∧ r67 4 = nI N ∧ ∀ i, i < N → r71 i = r41 i &&& 255
def q_Ft (r39 r67 : Nat → Int32) : Prop := r39 13 = r67 5 ∧ r39 14 = r67 6
/-- the class's constant rows -/
def q_Cn (di : Nat → Nat → Int32) : Prop := (∀ i, i < 16 → di 1 i = q_near.getD i 0) ∧ (∀ i, i < 7 → di 2 i = q_ord.getD i 0) ∧ (∀ i, i < 3 → di 3 i = q_nol.getD i 0) ∧ (∀ i, i < 134 → di 5 i = q_byt.getD i 0)
/-- c: how many calls there were -/
def q_RR (c n sl : Nat) (ln : Nat → Nat) (di : Nat → Nat → Int32) (dr : Nat → Nat → Option Nat) : Prop :=
  q_Gr n ln dr ∧ (∃ N, N ≤ c ∧ n = 84 + 7 * N) ∧ sl ≤ 20000 + 500 * c ∧ q_Cn di ∧ q_Tp (di 40) (di 41) (di 67) (di 71) ∧ q_Ft (di 39) (di 67)
  ∧ ∃ P L T S K P' L' T' S' K' : Nat,
    q_RH n ln di (di 7) (di 8) (di 9) (di 10) (di 11) (di 12) (di 13) (di 14) (di 15) (di 17) (di 18) (di 19) (di 20) (di 21) (di 22) (dr 16) (di 68) (di 70) P L T S K
    ∧ q_RH n ln di (di 23) (di 24) (di 25) (di 26) (di 27) (di 28) (di 29) (di 30) (di 31) (di 33) (di 34) (di 35) (di 36) (di 37) (di 38) (dr 32) (di 69) (di 70) P' L' T' S' K'
    ∧ T' ≤ T ∧ q_CE (di 54) (di 55) (di 56) (di 68) (di 70) P L ∧ q_CR (di 60) (di 61) (di 66) (di 68) (di 70) P L
/-- a clause of R that speaks of scripts alone looks at rows from 84 on -/
theorem q_Sc_cg {n : Nat} {ln : Nat → Nat} {di di' : Nat → Nat → Int32} {sc : Nat → Option Nat} {tx : Nat → Int32} {T : Nat} (h : q_Sc n ln di sc tx T) (hd : ∀ k, 84 ≤ k → di' k = di k) : q_Sc n ln di' sc tx T := by
  refine ⟨fun t ht => ?_, h.2⟩
  obtain ⟨z, h1, h2, h3⟩ := h.1 t ht
  refine ⟨z, h1, h2, ?_⟩
  have hz := h2.1
  unfold q_TX at h3 ⊢
  rw [hd (z + 1 + 0) (by omega), hd (z + 1 + 1) (by omega), hd (z + 1 + 2) (by omega), hd (z + 1 + 3) (by omega), hd (z + 1 + 4) (by omega), hd (z + 1 + 5) (by omega), hd z hz]
  exact h3
theorem q_Co_cg {h h' a a' : Nat → Int32} (q : q_Co h a) (hh : ∀ i, h' i = h i) (ha : ∀ i, i < 8 → a' i = a i) : q_Co h' a' := by
  unfold q_Co at *
  simp only [hh]
  rw [ha 0 (by decide), ha 1 (by decide), ha 2 (by decide), ha 3 (by decide), ha 4 (by decide), ha 5 (by decide), ha 7 (by decide)]
  exact q
theorem q_Pe_cg {w s c st pd a a' : Nat → Int32} (q : q_Pe w s c st pd a) (ha : ∀ i, 10 ≤ i → i < 46 → a' i = a i) : q_Pe w s c st pd a' := by
  intro j hj
  rw [ha _ (by omega) (by omega), ha _ (by omega) (by omega), ha _ (by omega) (by omega), ha _ (by omega) (by omega), ha _ (by omega) (by omega)]
  exact q j hj
theorem q_ms_cg {f f' : Nat → Int32} (h : ∀ j, j < 6 → f' j = f j) : q_ms f' = q_ms f :=
  q_itC 6 0 0 (fun i x _ h2 => by rw [h i (by omega)])
theorem q_sb_cg {x : Int32} {f f' : Nat → Int32} (q : q_sb x f) (h : ∀ j, j < 6 → f' j = f j) : q_sb x f' := by
  refine ⟨by rw [q_ms_cg h]; exact q.1, fun j hj => ?_⟩
  rw [h j hj]; exact q.2 j hj
theorem q_Li_cg {so po a a' : Nat → Int32} (q : q_Li so po a) (ha : ∀ i, 46 ≤ i → i < 66 → a' i = a i) : q_Li so po a' := by
  intro j hj
  rw [ha _ (by omega) (by omega), ha _ (by omega) (by omega)]
  exact q j hj
theorem q_Se_cg {se a a' : Nat → Int32} (q : q_Se se a) (ha : ∀ i, 66 ≤ i → i < 76 → a' i = a i) : q_Se se a' := by
  intro j hj
  rw [ha _ (by omega) (by omega)]
  exact q j hj
theorem q_S1_cg {r18 r19 r20 r21 r22 a a' : Nat → Int32} {q s : Nat} (h : q_S1 r18 r19 r20 r21 r22 a q s) (ha : ∀ i, i < 21 → a' (76 + 21 * s + i) = a (76 + 21 * s + i)) : q_S1 r18 r19 r20 r21 r22 a' q s := by
  obtain ⟨h1, h2, h3, h4⟩ := h
  refine ⟨fun j hj => ?_, q_sb_cg h2 (fun j hj => ?_), ?_, ?_⟩
  · have e1 := ha (3 + 3 * j) (by omega)
    have e2 := ha (3 + 3 * j + 2) (by omega)
    simp only [← Nat.add_assoc] at e1 e2
    rw [e1, e2]; exact h1 j hj
  · have e1 := ha (3 + 3 * j + 1) (by omega)
    simp only [← Nat.add_assoc] at e1
    exact e1
  · rw [ha 1 (by omega)]; exact h3
  · rw [ha 2 (by omega)]; exact h4
theorem q_St_cg {r17 r18 r19 r20 r21 r22 a a' : Nat → Int32} {S : Nat} (h : q_St r17 r18 r19 r20 r21 r22 a S) (hS : S ≤ 30) (ha : ∀ i, 76 ≤ i → i < 706 → a' i = a i) : q_St r17 r18 r19 r20 r21 r22 a' S := by
  obtain ⟨o, h1, h2, h3, h4⟩ := h
  exact ⟨o, h1, h2, h3, fun s hs => q_S1_cg (h4 s hs) (fun i hi => ha _ (by omega) (by omega))⟩
theorem q_PI_cg {P : Nat} {f f' : Nat → Nat → Int32} (h : q_PI P f) (hf : ∀ j e, j < 6 → e < 3 → f' j e = f j e) : q_PI P f' := by
  obtain ⟨h1, h2, h3⟩ := h
  refine ⟨fun j hj => ?_, fun j h hj => ?_, fun i j hi hj => ?_⟩
  · rw [hf j 0 hj (by decide)]; exact h1 j hj
  · rw [hf j 0 hj (by decide), hf j 1 hj (by decide), hf j 2 hj (by decide)]; exact h2 j h hj
  · rw [hf j 0 hj (by decide), hf i 0 hi (by decide)]; exact h3 i j hi hj
theorem q_Ip_cg {a a' : Nat → Int32} {P : Nat} (h : q_Ip a P) (ha : ∀ i, 10 ≤ i → i < 46 → a' i = a i) : q_Ip a' P := by
  refine ⟨fun j hj => ?_, q_PI_cg h.2 (fun j e hj he => ha _ (by omega) (by omega))⟩
  rw [ha _ (by omega) (by omega), ha _ (by omega) (by omega)]; exact h.1 j hj
theorem q_Il_cg {a a' : Nat → Int32} (h : q_Il a) (ha : ∀ i, 46 ≤ i → i < 66 → a' i = a i) : q_Il a' := by
  intro j hj
  rw [ha _ (by omega) (by omega), ha _ (by omega) (by omega)]
  exact h j hj
theorem q_Is_cg {a a' : Nat → Int32} {P S : Nat} (h : q_Is a P S) (hS : S ≤ 30) (ha : ∀ i, 76 ≤ i → i < 706 → a' i = a i) : q_Is a' P S := by
  intro s hs
  obtain ⟨Ps, h1, h2, h3⟩ := h s hs
  refine ⟨Ps, h1, by rw [ha _ (by omega) (by omega)]; exact h2, q_PI_cg h3 (fun j e hj he => ha _ (by omega) (by omega))⟩
theorem q_Ic_cg {a a' : Nat → Int32} {P L T S K : Nat} (h : q_Ic a P L T S K) (ha : ∀ i, i < 8 → a' i = a i) : q_Ic a' P L T S K := by
  unfold q_Ic at *
  rw [ha 0 (by decide), ha 1 (by decide), ha 4 (by decide), ha 5 (by decide), ha 6 (by decide), ha 7 (by decide)]
  exact h
/-! how what is meant depends on the rows -/
theorem q_kl5_cg {a a' tx : Nat → Int32} {x : Int32} (h5 : a' 5 = a 5) : q_kl5 a' tx x = q_kl5 a tx x := by unfold q_kl5; rw [h5]
theorem q_lv_cg {a a' tx nm : Nat → Int32} {x : Int32} (h5 : a' 5 = a 5) : q_lv a' tx x nm = q_lv a tx x nm := by unfold q_lv; rw [q_kl5_cg h5, h5]
theorem q_la_cg {a a' tx : Nat → Int32} {l j : Nat} {row near all : Int32} (h5 : a' 5 = a 5) (h0 : a' (10 + 6 * j + 0) = a (10 + 6 * j + 0)) (h1 : a' (10 + 6 * j + 1) = a (10 + 6 * j + 1)) (h2 : a' (46 + 2 * l) = a (46 + 2 * l)) (h3 : a' (46 + 2 * l + 1) = a (46 + 2 * l + 1)) : q_la a' tx l j row near all = q_la a tx l j row near all := by
  have e : q_nl0 a' l j row near all = q_nl0 a l j row near all := by
    funext i
    unfold q_nl0
    rw [h0, h1, h2, h3]
  unfold q_la
  rw [q_kl5_cg h5, h2, h3, h1, e, q_lv_cg h5]
theorem q_lo_cg {a a' tx : Nat → Int32} {l : Nat} {many rounds coughs : Int32} (h5 : a' 5 = a 5) (h2 : a' (46 + 2 * l) = a (46 + 2 * l)) (h3 : a' (46 + 2 * l + 1) = a (46 + 2 * l + 1)) : q_lo a' tx l many rounds coughs = q_lo a tx l many rounds coughs := by
  have e : q_nl1 a' l many rounds coughs = q_nl1 a l many rounds coughs := by
    funext i
    unfold q_nl1
    rw [h2, h3]
  unfold q_lo
  rw [q_kl5_cg h5, e, q_lv_cg h5]
theorem q_CE_cg {r54 r55 r56 a a' tx : Nat → Int32} {P L P' L' : Nat} (h : q_CE r54 r55 r56 a tx P L) (hP : P ≤ P') (hL : L ≤ L') (h5 : a' 5 = a 5) (hp : ∀ j, j < P → a' (10 + 6 * j + 0) = a (10 + 6 * j + 0) ∧ a' (10 + 6 * j + 1) = a (10 + 6 * j + 1)) (hl : ∀ l, l < L → a' (46 + 2 * l) = a (46 + 2 * l) ∧ a' (46 + 2 * l + 1) = a (46 + 2 * l + 1)) : q_CE r54 r55 r56 a' tx P' L' := by
  refine ⟨fun l j r u v h1 h2 h3 h4 h6 => ⟨(h.1 l j r u v h1 h2 h3 h4 h6).1, fun h7 => ?_⟩, fun l g r h1 h2 h3 h4 => ?_⟩
  · obtain ⟨q1, q2, q3⟩ := (h.1 l j r u v h1 h2 h3 h4 h6).2 h7
    refine ⟨by omega, by omega, ?_⟩
    rw [q_la_cg h5 (hp j q2).1 (hp j q2).2 (hl l q1).1 (hl l q1).2]
    exact q3
  · obtain ⟨q1, q2⟩ := h.2 l g r h1 h2 h3 h4
    refine ⟨by omega, ?_⟩
    rw [q_lo_cg h5 (hl l q1).1 (hl l q1).2]
    exact q2
