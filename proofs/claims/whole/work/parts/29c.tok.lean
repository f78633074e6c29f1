/-! numbers and words -/
/-- a number by its digits, 10000 if it is higher -/
def t_nu (bt : Nat → Int32) : Nat → Nat → Nat → Nat
  | 0, _, x => x
  | c + 1, i, x => t_nu bt c (i + 1) (min (x * 10 + ((bt i).toNatClampNeg - 48)) 10000)
theorem t_nuL (bt : Nat → Int32) : ∀ (c i x : Nat), x ≤ 10000 → t_nu bt c i x ≤ 10000 := by
  intro c
  induction c with
  | zero => intro i x h; exact h
  | succ c ih => intro i x h; exact ih (i + 1) _ (Nat.min_le_right _ _)
theorem t_dgN {x : Int32} (h : t_dg x) : ∃ v, v < 10 ∧ x = nI (48 + v) := by
  obtain ⟨j, h1, h2⟩ := nI_of2 (x := x) (M := 57) (n := 57) rfl (q_not_lt (by
    have := (fa_le _ _).mp h.1
    rw [show (48 : Int32).toInt = 48 by decide] at this
    rw [fa_le, show (0 : Int32).toInt = 0 by decide]; omega)) h.2
  have h3 := h.1
  rw [h2, show (48 : Int32) = nI 48 from rfl, nI_leI (by decide) (by omega)] at h3
  exact ⟨j - 48, by omega, by rw [h2]; congr 1; omega⟩
section
variable {d n sl : Nat} {ln : Nat → Nat} {di : Nat → Nat → Int32} {dl : Nat → Nat → Int64} {dr : Nat → Nat → Option Nat} {Q : Option Value → q_H → Prop} {N : Nat} {bt : Nat → Int32}
theorem c_num5 {e : Nat} (hN : N ≤ 300) (h3 : di 40 3 = nI N) (hb : ∀ i, i < N → di 41 i &&& 255 = bt i) (hg : q_Gr n ln dr) (he : e ≤ N) : ∀ (c i x : Nat), i + c = e → (∀ k, i ≤ k → k < e → t_pd N bt k) → x ≤ 10000 → Q (some (.int (nI (t_nu bt c i x)))) (n, sl, ln, di, dl, dr) → q_EX q_KD (d + 1) 37 5 [.ref 40, .retAddr 0, .int (nI e), .int (nI x), .int (nI i)] [] (n, sl, ln, di, dl, dr) Q := by
  intro c
  induction c with
  | zero =>
    intro i x hi h hx kk
    exact g37_5 hg (fun _ => kk) (fun w => absurd w (nI_nlt (by omega) (by omega)))
  | succ c ih =>
    intro i x hi h hx kk
    have hp := h i (Nat.le_refl _) (by omega)
    obtain ⟨v, v1, v2⟩ := t_dgN hp.2
    refine g37_5 hg (fun w => absurd w (nI_ge (by omega) (by omega))) (fun _ => c_sign hN (by omega) h3 hb hg (g37_21 hg ?_))
    have e1 : t_by N bt i = nI (48 + v) := by unfold t_by; rw [if_pos hp.1]; exact v2
    have e2 : nI x * 10 + nI (48 + v) - 48 = nI (x * 10 + v) := by
      rw [show nI x * 10 = nI (x * 10) from by rw [q_pm]; rfl, nI_add, show x * 10 + (48 + v) = (x * 10 + v) + 48 by omega, ← nI_add, show (48 : Int32) = nI 48 from rfl, Int32.add_sub_cancel]
    have e3 : (bt i).toNatClampNeg - 48 = v := by rw [v2, nI_clamp (by omega)]; omega
    have e4 : (if (10000 : Int32) < nI (x * 10 + v) then 10000 else nI (x * 10 + v)) = nI (min (x * 10 + v) 10000) := by
      rw [show (10000 : Int32) = nI 10000 from rfl]
      by_cases z : nI 10000 < nI (x * 10 + v)
      · rw [if_pos z]
        rw [nI_ltI (by decide) (by omega)] at z
        rw [Nat.min_eq_right (by omega)]
      · rw [if_neg z]
        rw [nI_ltI (by decide) (by omega)] at z
        rw [Nat.min_eq_left (by omega)]
    rw [e1, e2, e4, nI_1]
    refine ih (i + 1) _ (by omega) (fun k a b => h k (by omega) b) (Nat.min_le_right _ _) ?_
    unfold t_nu at kk
    rw [e3] at kk
    exact kk
theorem c_num {p e : Nat} (hN : N ≤ 300) (h3 : di 40 3 = nI N) (hb : ∀ i, i < N → di 41 i &&& 255 = bt i) (hg : q_Gr n ln dr) (he : e ≤ N) (hpe : p ≤ e) (h : ∀ k, p ≤ k → k < e → t_pd N bt k) (kk : Q (some (.int (nI (t_nu bt (e - p) p 0)))) (n, sl, ln, di, dl, dr)) : q_EX q_KD (d + 1) 37 0 [.ref 40, .int (nI p), .int (nI e), .retAddr 0, .retAddr 0] [] (n, sl, ln, di, dl, dr) Q :=
  g37_0 hg (c_num5 hN h3 hb hg he (e - p) p 0 (by omega) h (by omega) kk)
theorem c_slen (hg : q_Gr n ln dr) (kk : Q (some (.int 134)) (n, sl, ln, di, dl, dr)) : q_EX q_KD (d + 1) 30 0 [.ref 4] [] (n, sl, ln, di, dl, dr) Q := by
  refine g30_0 hg (g31_0 hg (fun w => absurd w (by decide)) (fun _ => g30_9 hg ?_))
  have e : (134 : Int32) >>> ((0 : Int32) &&& 31) = 134 := by decide
  rw [e]; exact kk
theorem t_ch : ∀ b, b < 128 → (((nI b &&& 255).toUInt32 % 65536).toInt32) = nI b := by decide +kernel
theorem c_char {i b : Nat} (hi : i < 134) (hb : b < 128) (h5 : di 5 i = nI b) (hg : q_Gr n ln dr) (kk : Q (some (.int (nI b))) (n, sl, ln, di, dl, dr)) : q_EX q_KD (d + 3) 32 0 [.ref 4, .int (nI i)] [] (n, sl, ln, di, dl, dr) Q := by
  have hn : (nI i).toNatClampNeg = i := nI_clamp (by omega)
  refine g32_0 hg (g33_0 hg (fun w => absurd w (by decide)) (fun _ w => absurd rfl w) (fun _ _ => g32_4 hg (fun w => absurd w (by decide)) (fun _ => ?_)))
  refine g34_0 hg (g35_0 hg (g36_0 hg (fun w => absurd w (nI_pos (by omega))) (fun _ _ => g35_8 hg (g34_6 hg (vp_in_nI hi (by decide)) (pk_nc _) ?_)) (fun _ w => absurd ((nI_leI (a := 134) (b := i) (by decide) (by omega)).mp w) (by omega))))
  rw [hn, h5, t_ch b hb]
  exact g32_15 hg (pk_charN (by omega)).1 kk
end
/-- letters of a token -/
def t_lst (bt : Nat → Int32) : Nat → Nat → List Nat
  | 0, _ => []
  | c + 1, i => (bt i).toNatClampNeg :: t_lst bt c (i + 1)
def t_wds : List (List Nat) := [[119, 105, 116], [115, 104, 97, 109, 101], [114, 111, 119], [115, 111, 114, 116], [112, 111, 119, 101, 114], [110, 101, 97, 114], [97, 108, 108], [108, 97, 117, 103, 104, 105, 110, 103], [114, 111, 117, 110, 100, 115], [99, 111, 117, 103, 104, 115], [98, 105, 108, 108], [112, 101, 111, 112, 108, 101], [111, 102, 116, 101, 110], [99, 111, 117, 103, 104, 101, 100], [108, 97, 117, 103, 104, 115], [108, 111, 117, 100], [100, 117, 101, 115], [115, 101, 97, 116], [111, 117, 116], [104, 105, 114, 101], [110, 105, 103, 104, 116], [97, 116], [111, 114], [97, 110, 100], [110, 111, 116]]
def t_wk (L : List Nat) : List (List Nat) → Nat → Int32
  | [], _ => 132
  | w :: r, k => if L = w then nI (200 + k) else t_wk L r (k + 1)
/-- the word whose letters are L, as a token -/
def t_wd (L : List Nat) : Int32 := t_wk L t_wds 0
def t_fl : List (List Nat) → List Nat
  | [] => []
  | w :: r => w ++ 32 :: t_fl r
def t_at (f : Nat → Int32) : Nat → List Nat → Prop
  | _, [] => True
  | i, x :: r => f i = nI x ∧ t_at f (i + 1) r
theorem t_at_of {f : Nat → Int32} : ∀ (l : List Nat) (i : Nat), (∀ k, k < l.length → f (i + k) = nI (l.getD k 0)) → t_at f i l := by
  intro l
  induction l with
  | nil => intro i _; exact True.intro
  | cons x r ih =>
    intro i h
    refine ⟨h 0 (by simp), ih (i + 1) (fun k hk => ?_)⟩
    have := h (k + 1) (by simp only [List.length_cons]; omega)
    rw [show i + 1 + k = i + (k + 1) by omega, this]
    rfl
theorem t_byt : ∀ k, k < 134 → q_byt.getD k 0 = nI ((t_fl t_wds).getD k 0) := by decide +kernel
theorem t_flL : (t_fl t_wds).length = 134 := by decide +kernel
theorem t_flok : ∀ w, w ∈ t_wds → ∀ x, x ∈ w → x < 128 ∧ ¬ x = 32 := by decide +kernel
theorem t_at5 {f : Nat → Int32} (h : ∀ i, i < 134 → f i = q_byt.getD i 0) : t_at f 0 (t_fl t_wds) :=
  t_at_of _ 0 (fun k hk => by rw [t_flL] at hk; rw [Nat.zero_add, h k hk, t_byt k hk])
/-- letters still to be met: some r if those before were -/
def t_pos (e : Nat) : Option (List Nat) → Int32
  | none => -1
  | some r => nI (e - r.length)
def t_stp (x : Nat) : Option (List Nat) → Option (List Nat)
  | some (y :: r) => if y = x then some r else none
  | _ => none
theorem t_lst_len (bt : Nat → Int32) : ∀ (c i : Nat), (t_lst bt c i).length = c := by
  intro c
  induction c with
  | zero => intro i; rfl
  | succ c ih => intro i; show (t_lst bt c (i + 1)).length + 1 = c + 1; rw [ih]
