/-- the class's and the model's bound of a value -/
def q_clI (r : Int64) : Int32 := if 1000000 < r then 1000000 else if r < -1000000 then -1000000 else r.toInt32
def q_clL (r : Int64) : Int64 := if 1000000 < r then 1000000 else if r < -1000000 then -1000000 else r
/-- what the class's join works out before it is bounded -/
def q_join (o x y : Int32) : Int64 :=
  if o = 35 then (if x = y then 0 else 1)
  else if o = 42 then x.toInt64 * y.toInt64
  else if o = 43 then x.toInt64 + y.toInt64
  else if o = 45 then x.toInt64 - y.toInt64
  else if o = 47 then (if y = 0 then 0 else x.toInt64 / y.toInt64)
  else if o = 60 then (if x < y then 1 else 0)
  else if o = 61 then (if x = y then 1 else 0)
  else if o = 62 then (if y < x then 1 else 0)
  else if o = 128 then (if x ≤ y then 1 else 0)
  else if o = 129 then (if y ≤ x then 1 else 0)
  else if o = 222 then (x ||| y).toInt64 else (x &&& y).toInt64
theorem q_cl1 {r : Int64} (h : lg_cmp r 1000000 ≤ 0) (h' : 0 ≤ lg_cmp r (-1000000)) : q_clI r = r.toInt32 ∧ q_clL r = r := by
  have a := (lg_cmp_le _ _).mp h
  have b := (lg_cmp_ge _ _).mp h'
  have a' : ¬ (1000000 : Int64) < r := Int64.not_lt.mpr a
  have b' : ¬ r < (-1000000 : Int64) := Int64.not_lt.mpr b
  unfold q_clI q_clL
  rw [if_neg a', if_neg b', if_neg a', if_neg b']
  exact ⟨rfl, rfl⟩
theorem q_cl2 {r : Int64} (h : lg_cmp r 1000000 ≤ 0) (h' : lg_cmp r (-1000000) < 0) : q_clI r = -1000000 ∧ q_clL r = -1000000 := by
  have a := (lg_cmp_le _ _).mp h
  have b := (lg_cmp_lt _ _).mp h'
  have a' : ¬ (1000000 : Int64) < r := Int64.not_lt.mpr a
  unfold q_clI q_clL
  rw [if_neg a', if_pos b, if_neg a', if_pos b]
  exact ⟨rfl, rfl⟩
theorem q_cl3 {r : Int64} (h : 0 < lg_cmp r 1000000) : q_clI r = 1000000 ∧ q_clL r = 1000000 := by
  have a := (lg_cmp_gt _ _).mp h
  unfold q_clI q_clL
  rw [if_pos a, if_pos a]
  exact ⟨rfl, rfl⟩
theorem q_nle {a b : Int32} (h : a ≤ b) : ¬ b < a := Int32.not_lt.mpr h
theorem q_nlt {a b : Int32} (h : a < b) : ¬ b ≤ a := fun c => Int32.not_lt.mpr c h
theorem q_jn35 {x y : Int32} : q_join 35 x y = (if x = y then 0 else 1) := by
  unfold q_join
  rw [if_pos rfl]
theorem q_jn42 {x y : Int32} : q_join 42 x y = x.toInt64 * y.toInt64 := by
  unfold q_join
  rw [if_neg (by decide), if_pos rfl]
theorem q_jn43 {x y : Int32} : q_join 43 x y = x.toInt64 + y.toInt64 := by
  unfold q_join
  rw [if_neg (by decide), if_neg (by decide), if_pos rfl]
theorem q_jn45 {x y : Int32} : q_join 45 x y = x.toInt64 - y.toInt64 := by
  unfold q_join
  rw [if_neg (by decide), if_neg (by decide), if_neg (by decide), if_pos rfl]
theorem q_jn47 {x y : Int32} : q_join 47 x y = (if y = 0 then 0 else x.toInt64 / y.toInt64) := by
  unfold q_join
  rw [if_neg (by decide), if_neg (by decide), if_neg (by decide), if_neg (by decide), if_pos rfl]
theorem q_jn60 {x y : Int32} : q_join 60 x y = (if x < y then 1 else 0) := by
  unfold q_join
  rw [if_neg (by decide), if_neg (by decide), if_neg (by decide), if_neg (by decide), if_neg (by decide), if_pos rfl]
theorem q_jn61 {x y : Int32} : q_join 61 x y = (if x = y then 1 else 0) := by
  unfold q_join
  rw [if_neg (by decide), if_neg (by decide), if_neg (by decide), if_neg (by decide), if_neg (by decide), if_neg (by decide), if_pos rfl]
theorem q_jn62 {x y : Int32} : q_join 62 x y = (if y < x then 1 else 0) := by
  unfold q_join
  rw [if_neg (by decide), if_neg (by decide), if_neg (by decide), if_neg (by decide), if_neg (by decide), if_neg (by decide), if_neg (by decide), if_pos rfl]
theorem q_jn128 {x y : Int32} : q_join 128 x y = (if x ≤ y then 1 else 0) := by
  unfold q_join
  rw [if_neg (by decide), if_neg (by decide), if_neg (by decide), if_neg (by decide), if_neg (by decide), if_neg (by decide), if_neg (by decide), if_neg (by decide), if_pos rfl]
theorem q_jn129 {x y : Int32} : q_join 129 x y = (if y ≤ x then 1 else 0) := by
  unfold q_join
  rw [if_neg (by decide), if_neg (by decide), if_neg (by decide), if_neg (by decide), if_neg (by decide), if_neg (by decide), if_neg (by decide), if_neg (by decide), if_neg (by decide), if_pos rfl]
theorem q_jn222 {x y : Int32} : q_join 222 x y = (x ||| y).toInt64 := by
  unfold q_join
  rw [if_neg (by decide), if_neg (by decide), if_neg (by decide), if_neg (by decide), if_neg (by decide), if_neg (by decide), if_neg (by decide), if_neg (by decide), if_neg (by decide), if_neg (by decide), if_pos rfl]
theorem q_jnz {o x y : Int32} (h35 : ¬ o = 35) (h42 : ¬ o = 42) (h43 : ¬ o = 43) (h45 : ¬ o = 45) (h47 : ¬ o = 47) (h60 : ¬ o = 60) (h61 : ¬ o = 61) (h62 : ¬ o = 62) (h128 : ¬ o = 128) (h129 : ¬ o = 129) (h222 : ¬ o = 222) : q_join o x y = (x &&& y).toInt64 := by
  unfold q_join
  rw [if_neg h35, if_neg h42, if_neg h43, if_neg h45, if_neg h47, if_neg h60, if_neg h61, if_neg h62, if_neg h128, if_neg h129, if_neg h222]
theorem q_l0 {y : Int32} (h : ¬ y = 0) : ¬ y.toInt64 = 0 := by
  intro h'
  apply h
  have e : y.toInt64.toInt = y.toInt := Int32.toInt_toInt64 y
  rw [h'] at e
  exact Int32.toInt_inj.mp e.symm
section
variable {d n sl : Nat} {ln : Nat → Nat} {di : Nat → Nat → Int32} {dl : Nat → Nat → Int64} {dr : Nat → Nat → Option Nat} {Q : Option Value → q_H → Prop}
theorem c_clip {x : Int64} (hg : q_Gr n ln dr) (k : Q (some (.long (q_clL x))) (n, sl, ln, di, dl, dr)) : q_EX q_KD d 173 0 [.long x, .retAddr 0] [] (n, sl, ln, di, dl, dr) Q := by
  refine g173_0 hg (fun c c' => ?_) (fun c c' => ?_) (fun c => ?_)
  · rwa [(q_cl1 c c').2] at k
  · rwa [(q_cl2 c c').2] at k
  · rwa [(q_cl3 c).2] at k
theorem c_join {o x y : Int32} (hg : q_Gr n ln dr) (k : Q (some (.int (q_clI (q_join o x y)))) (n, sl, ln, di, dl, dr)) : q_EX q_KD d 77 0 [.int o, .int x, .int y, .retAddr 0, .retAddr 0] [] (n, sl, ln, di, dl, dr) Q := by
  have K : ∀ r : Int64, q_join o x y = r → Q (some (.int (q_clI r))) (n, sl, ln, di, dl, dr) := fun r e => e ▸ k
  have K1 : ∀ r : Int64, q_join o x y = r → lg_cmp r 1000000 ≤ 0 → 0 ≤ lg_cmp r (-1000000) → Q (some (.int r.toInt32)) (n, sl, ln, di, dl, dr) := fun r e c c' => by have := K r e; rwa [(q_cl1 c c').1] at this
  have K2 : ∀ r : Int64, q_join o x y = r → lg_cmp r 1000000 ≤ 0 → lg_cmp r (-1000000) < 0 → Q (some (.int (-1000000))) (n, sl, ln, di, dl, dr) := fun r e c c' => by have := K r e; rwa [(q_cl2 c c').1] at this
  have K3 : ∀ r : Int64, q_join o x y = r → 0 < lg_cmp r 1000000 → Q (some (.int 1000000)) (n, sl, ln, di, dl, dr) := fun r e c => by have := K r e; rwa [(q_cl3 c).1] at this
  exact g77_0 hg
    (fun e c a b => K1 0 (by rw [e, q_jn35]; exact if_pos c) a b)
    (fun e c a b => K2 0 (by rw [e, q_jn35]; exact if_pos c) a b)
    (fun e c a => K3 0 (by rw [e, q_jn35]; exact if_pos c) a)
    (fun e c a b => K1 1 (by rw [e, q_jn35]; exact if_neg c) a b)
    (fun e c a b => K2 1 (by rw [e, q_jn35]; exact if_neg c) a b)
    (fun e c a => K3 1 (by rw [e, q_jn35]; exact if_neg c) a)
    (fun e a b => K1 (x.toInt64 * y.toInt64) (by rw [e, q_jn42]) a b)
    (fun e a b => K2 (x.toInt64 * y.toInt64) (by rw [e, q_jn42]) a b)
    (fun e a => K3 (x.toInt64 * y.toInt64) (by rw [e, q_jn42]) a)
    (fun e a b => K1 (x.toInt64 + y.toInt64) (by rw [e, q_jn43]) a b)
    (fun e a b => K2 (x.toInt64 + y.toInt64) (by rw [e, q_jn43]) a b)
    (fun e a => K3 (x.toInt64 + y.toInt64) (by rw [e, q_jn43]) a)
    (fun e a b => K1 (x.toInt64 - y.toInt64) (by rw [e, q_jn45]) a b)
    (fun e a b => K2 (x.toInt64 - y.toInt64) (by rw [e, q_jn45]) a b)
    (fun e a => K3 (x.toInt64 - y.toInt64) (by rw [e, q_jn45]) a)
    (fun _ c => q_l0 c)
    (fun e c a b => K1 (x.toInt64 / y.toInt64) (by rw [e, q_jn47]; exact if_neg c) a b)
    (fun e c a b => K2 (x.toInt64 / y.toInt64) (by rw [e, q_jn47]; exact if_neg c) a b)
    (fun e c a => K3 (x.toInt64 / y.toInt64) (by rw [e, q_jn47]; exact if_neg c) a)
    (fun e c a b => K1 0 (by rw [e, q_jn47]; exact if_pos c) a b)
    (fun e c a b => K2 0 (by rw [e, q_jn47]; exact if_pos c) a b)
    (fun e c a => K3 0 (by rw [e, q_jn47]; exact if_pos c) a)
    (fun e c a b => K1 0 (by rw [e, q_jn60]; exact if_neg (q_nle c)) a b)
    (fun e c a b => K2 0 (by rw [e, q_jn60]; exact if_neg (q_nle c)) a b)
    (fun e c a => K3 0 (by rw [e, q_jn60]; exact if_neg (q_nle c)) a)
    (fun e c a b => K1 1 (by rw [e, q_jn60]; exact if_pos c) a b)
    (fun e c a b => K2 1 (by rw [e, q_jn60]; exact if_pos c) a b)
    (fun e c a => K3 1 (by rw [e, q_jn60]; exact if_pos c) a)
    (fun e c a b => K1 0 (by rw [e, q_jn61]; exact if_neg c) a b)
    (fun e c a b => K2 0 (by rw [e, q_jn61]; exact if_neg c) a b)
    (fun e c a => K3 0 (by rw [e, q_jn61]; exact if_neg c) a)
    (fun e c a b => K1 1 (by rw [e, q_jn61]; exact if_pos c) a b)
    (fun e c a b => K2 1 (by rw [e, q_jn61]; exact if_pos c) a b)
    (fun e c a => K3 1 (by rw [e, q_jn61]; exact if_pos c) a)
    (fun e c a b => K1 0 (by rw [e, q_jn62]; exact if_neg (q_nle c)) a b)
    (fun e c a b => K2 0 (by rw [e, q_jn62]; exact if_neg (q_nle c)) a b)
    (fun e c a => K3 0 (by rw [e, q_jn62]; exact if_neg (q_nle c)) a)
    (fun e c a b => K1 1 (by rw [e, q_jn62]; exact if_pos c) a b)
    (fun e c a b => K2 1 (by rw [e, q_jn62]; exact if_pos c) a b)
    (fun e c a => K3 1 (by rw [e, q_jn62]; exact if_pos c) a)
    (fun e c a b => K1 0 (by rw [e, q_jn128]; exact if_neg (q_nlt c)) a b)
    (fun e c a b => K2 0 (by rw [e, q_jn128]; exact if_neg (q_nlt c)) a b)
    (fun e c a => K3 0 (by rw [e, q_jn128]; exact if_neg (q_nlt c)) a)
    (fun e c a b => K1 1 (by rw [e, q_jn128]; exact if_pos c) a b)
    (fun e c a b => K2 1 (by rw [e, q_jn128]; exact if_pos c) a b)
    (fun e c a => K3 1 (by rw [e, q_jn128]; exact if_pos c) a)
    (fun e c a b => K1 0 (by rw [e, q_jn129]; exact if_neg (q_nlt c)) a b)
    (fun e c a b => K2 0 (by rw [e, q_jn129]; exact if_neg (q_nlt c)) a b)
    (fun e c a => K3 0 (by rw [e, q_jn129]; exact if_neg (q_nlt c)) a)
    (fun e c a b => K1 1 (by rw [e, q_jn129]; exact if_pos c) a b)
    (fun e c a b => K2 1 (by rw [e, q_jn129]; exact if_pos c) a b)
    (fun e c a => K3 1 (by rw [e, q_jn129]; exact if_pos c) a)
    (fun e a b => K1 ((x ||| y).toInt64) (by rw [e, q_jn222]) a b)
    (fun e a b => K2 ((x ||| y).toInt64) (by rw [e, q_jn222]) a b)
    (fun e a => K3 ((x ||| y).toInt64) (by rw [e, q_jn222]) a)
    (fun h0 h1 h2 h3 h4 h5 h6 h7 h8 h9 h10 a b => K1 ((x &&& y).toInt64) (q_jnz h0 h1 h2 h3 h4 h5 h6 h7 h8 h9 h10) a b)
    (fun h0 h1 h2 h3 h4 h5 h6 h7 h8 h9 h10 a b => K2 ((x &&& y).toInt64) (q_jnz h0 h1 h2 h3 h4 h5 h6 h7 h8 h9 h10) a b)
    (fun h0 h1 h2 h3 h4 h5 h6 h7 h8 h9 h10 a => K3 ((x &&& y).toInt64) (q_jnz h0 h1 h2 h3 h4 h5 h6 h7 h8 h9 h10) a)
end
