def q_two (o : Int32) (x y : Int64) : Int64 :=
  if o = 3 then q_clL (x + y) else if o = 4 then q_clL (x - y) else if o = 5 then q_clL (x * y) else if y = 0 then 0 else q_clL (x / y)
def q_ask (o : Int32) (x y : Int64) : Int32 :=
  if o = 10 then q_b (x < y) else if o = 11 then q_b (x ≤ y) else if o = 12 then q_b (y < x) else if o = 13 then q_b (y ≤ x) else if o = 14 then q_b (x = y) else q_b (¬ x = y)
def q_btw (x : Int64) (m : Int32) : Int32 := if x < 0 then 0 else if m.toInt64 < x then m else x.toInt32
theorem q_nleL {a b : Int64} (h : a ≤ b) : ¬ b < a := Int64.not_lt.mpr h
theorem q_nltL {a b : Int64} (h : a < b) : ¬ b ≤ a := fun c => Int64.not_lt.mpr c h
section
variable {d n sl : Nat} {ln : Nat → Nat} {di : Nat → Nat → Int32} {dl : Nat → Nat → Int64} {dr : Nat → Nat → Option Nat} {Q : Option Value → q_H → Prop}
theorem c_between {x : Int64} {m : Int32} (hg : q_Gr n ln dr) (k : Q (some (.int (q_btw x m))) (n, sl, ln, di, dl, dr)) : q_EX q_KD d 176 0 [.long x, .retAddr 0, .int m] [] (n, sl, ln, di, dl, dr) Q := by
  unfold q_btw at k
  refine g176_0 hg (fun c c' => ?_) (fun c c' => ?_) (fun c => ?_)
  · rwa [if_neg (q_nleL ((lg_cmp_ge _ _).mp c)), if_neg (q_nleL ((lg_cmp_le _ _).mp c'))] at k
  · rwa [if_neg (q_nleL ((lg_cmp_ge _ _).mp c)), if_pos ((lg_cmp_gt _ _).mp c')] at k
  · rwa [if_pos ((lg_cmp_lt _ _).mp c)] at k
theorem c_two {o : Int32} {x y : Int64} (hg : q_Gr n ln dr) (k : Q (some (.long (q_two o x y))) (n, sl, ln, di, dl, dr)) : q_EX q_KD (d + 1) 172 0 [.int o, .long x, .retAddr 0, .long y, .retAddr 0] [] (n, sl, ln, di, dl, dr) Q := by
  unfold q_two at k
  refine g172_0 hg (fun e => c_clip hg (g172_34 hg ?_)) (fun e => c_clip hg (g172_41 hg ?_)) (fun e => c_clip hg (g172_48 hg ?_)) (fun _ _ _ c => fun e => c ((lg_cmp_eq _ _).mpr e)) (fun e1 e2 e3 c => c_clip hg (g172_65 hg ?_)) (fun e1 e2 e3 c => ?_)
  · rwa [if_pos e] at k
  · rwa [if_neg (by rw [e]; decide), if_pos e] at k
  · rwa [if_neg (by rw [e]; decide), if_neg (by rw [e]; decide), if_pos e] at k
  · rwa [if_neg e1, if_neg e2, if_neg e3, if_neg (fun z => c ((lg_cmp_eq _ _).mpr z))] at k
  · rwa [if_neg e1, if_neg e2, if_neg e3, if_pos ((lg_cmp_eq _ _).mp c)] at k
theorem c_isAsked {o : Int32} {x y : Int64} (hg : q_Gr n ln dr) (k : Q (some (.int (q_ask o x y))) (n, sl, ln, di, dl, dr)) : q_EX q_KD d 174 0 [.int o, .long x, .retAddr 0, .long y, .retAddr 0] [] (n, sl, ln, di, dl, dr) Q := by
  unfold q_ask at k
  refine g174_0 hg (fun a b c e f g => ?_) (fun a b c e f g => ?_) (fun a b c e f g => ?_) (fun a b c e f g => ?_) (fun a b c e g => ?_) (fun a b c e g => ?_) (fun a b c g => ?_) (fun a b c g => ?_) (fun a b g => ?_) (fun a b g => ?_) (fun a g => ?_) (fun a g => ?_)
  · rwa [if_neg a, if_neg b, if_neg c, if_neg e, if_neg f, q_b0 (fun z => z ((lg_cmp_eq _ _).mp g))] at k
  · rwa [if_neg a, if_neg b, if_neg c, if_neg e, if_neg f, q_b1 (p := ¬ x = y) (fun z => g ((lg_cmp_eq _ _).mpr z))] at k
  · rwa [if_neg a, if_neg b, if_neg c, if_neg e, if_pos f, q_b0 (fun z => g ((lg_cmp_eq _ _).mpr z))] at k
  · rwa [if_neg a, if_neg b, if_neg c, if_neg e, if_pos f, q_b1 ((lg_cmp_eq _ _).mp g)] at k
  · rwa [if_neg a, if_neg b, if_neg c, if_pos e, q_b0 (q_nltL ((lg_cmp_lt _ _).mp g))] at k
  · rwa [if_neg a, if_neg b, if_neg c, if_pos e, q_b1 ((lg_cmp_ge _ _).mp g)] at k
  · rwa [if_neg a, if_neg b, if_pos c, q_b0 (q_nleL ((lg_cmp_le _ _).mp g))] at k
  · rwa [if_neg a, if_neg b, if_pos c, q_b1 ((lg_cmp_gt _ _).mp g)] at k
  · rwa [if_neg a, if_pos b, q_b0 (q_nltL ((lg_cmp_gt _ _).mp g))] at k
  · rwa [if_neg a, if_pos b, q_b1 ((lg_cmp_le _ _).mp g)] at k
  · rwa [if_pos a, q_b0 (q_nleL ((lg_cmp_ge _ _).mp g))] at k
  · rwa [if_pos a, q_b1 ((lg_cmp_lt _ _).mp g)] at k
theorem c_stands (j : Nat) (hj : j < 14) (hg : q_Gr n ln dr) (k : Q (some (.int (di 51 j))) (n, sl, ln, di, dl, dr)) : q_EX q_KD d 76 0 [.ref 50, .int (nI j)] [] (n, sl, ln, di, dl, dr) Q := by
  have e : (nI j).toNatClampNeg = j := nI_clamp (by omega)
  refine g76_0 hg (fun c => absurd c (nI_pos (by omega))) (fun _ c => absurd ((nI_leI (a := 14) (by decide) (by omega)).mp c) (by omega)) (fun _ _ => vp_in_nI hj (by decide)) (fun _ _ => ?_)
  rw [e]; exact k
theorem c_hasS {s : Nat} (j : Nat) (hj : j < 3) (h1 : ln (s + 1 + 1) = 3) (h2 : ln (s + 1 + 2) = 3) (hg : q_Gr n ln dr) (hs : q_scr n s) (k : Q (some (.int (q_b (di (s + 1 + 1) j < di (s + 1 + 2) j)))) (n, sl, ln, di, dl, dr)) : q_EX q_KD d 74 0 [.ref s, .int (nI j)] [] (n, sl, ln, di, dl, dr) Q := by
  have e : (nI j).toNatClampNeg = j := nI_clamp (by omega)
  refine g74_0 hg hs (fun c => absurd c (nI_pos (by omega))) (fun _ c => absurd ((nI_leI (a := 3) (by decide) (by omega)).mp c) (by omega)) (fun _ _ => by rw [h1]; exact vp_in_nI hj (by decide)) (fun _ _ => by rw [h2]; exact vp_in_nI hj (by decide)) (fun _ _ c => ?_) (fun _ _ c => ?_)
  · rw [e] at c; rwa [q_b0 (q_nle c)] at k
  · rw [e] at c; rwa [q_b1 c] at k
end
