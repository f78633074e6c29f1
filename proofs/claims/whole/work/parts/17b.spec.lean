/-! WHAT BOTH SIDES MEAN: a law's value, a line's wave, all lines together; over the model's rows a (68) and tx (70) -/
/-- one code of a law: n values V, t truths T -/
def q_es (o v : Int32) (nm : Nat → Int32) (s : Nat × (Nat → Int64) × Nat × (Nat → Int32)) : Nat × (Nat → Int64) × Nat × (Nat → Int32) :=
  if o ≤ 1 then (s.1 + 1, va_up s.2.1 s.1 (if o = 0 then v.toInt64 else (nm v.toNatClampNeg).toInt64), s.2.2.1, s.2.2.2)
  else if o = 2 then (s.1, va_up s.2.1 (s.1 - 1) (-(s.2.1 (s.1 - 1))), s.2.2.1, s.2.2.2)
  else if o < 10 then (s.1 - 1, va_up s.2.1 (s.1 - 2) (q_two o (s.2.1 (s.1 - 2)) (s.2.1 (s.1 - 1))), s.2.2.1, s.2.2.2)
  else if o < 20 then (s.1 - 2, s.2.1, s.2.2.1 + 1, va_up s.2.2.2 s.2.2.1 (q_ask o (s.2.1 (s.1 - 2)) (s.2.1 (s.1 - 1))))
  else if o = 20 then (s.1, s.2.1, s.2.2.1, va_up s.2.2.2 (s.2.2.1 - 1) (q_b (s.2.2.2 (s.2.2.1 - 1) = 0)))
  else (s.1, s.2.1, s.2.2.1 - 1, va_up s.2.2.2 (s.2.2.1 - 2) (if o = 21 then q_b (¬ s.2.2.2 (s.2.2.1 - 2) = 0 ∧ ¬ s.2.2.2 (s.2.2.1 - 1) = 0) else q_b (¬ s.2.2.2 (s.2.2.1 - 2) = 0 ∨ ¬ s.2.2.2 (s.2.2.1 - 1) = 0)))
/-- names that a law may use -/
def q_nmok (L v : Nat) : Bool := match L with
  | 0 => Nat.ble v 6
  | 1 => (Nat.beq v 3 || Nat.beq v 4) || (Nat.ble 7 v && Nat.ble v 9)
  | _ => Nat.ble v 2 || (Nat.ble 10 v && Nat.ble v 13)
/-- how one code moves the two counts, if it may stand there -/
def q_tq (L : Nat) (o v : Int32) (n t : Nat) : Option (Nat × Nat) :=
  if o = 0 then (if v.toNatClampNeg ≤ 9999 ∧ v = nI v.toNatClampNeg then some (n + 1, t) else none)
  else if o = 1 then (if q_nmok L v.toNatClampNeg = true ∧ v = nI v.toNatClampNeg then some (n + 1, t) else none)
  else if o = 2 then (if 1 ≤ n then some (n, t) else none)
  else if 3 ≤ o ∧ o ≤ 6 then (if 2 ≤ n then some (n - 1, t) else none)
  else if 10 ≤ o ∧ o ≤ 15 then (if n = 2 then some (0, t + 1) else none)
  else if o = 20 then (if n = 0 ∧ 1 ≤ t then some (n, t) else none)
  else if o = 21 ∨ o = 22 then (if n = 0 ∧ 2 ≤ t then some (n, t - 1) else none)
  else none
/-- the counts behind c codes from i on; k: where the codes begin -/
def q_tyr (tx : Nat → Int32) (k L : Nat) : Nat → Nat → Nat × Nat → Option (Nat × Nat)
  | 0, _, s => some s
  | c + 1, i, s => match q_tq L (tx (k + 2 * i)) (tx (k + 2 * i + 1)) s.1 s.2 with
    | none => none
    | some s' => q_tyr tx k L c (i + 1) s'
def q_e0 : Nat × (Nat → Int64) × Nat × (Nat → Int32) := (0, fun _ => 0, 0, fun _ => 0)
def q_ev (tx : Nat → Int32) (k F E : Nat) (nm : Nat → Int32) : Nat × (Nat → Int64) × Nat × (Nat → Int32) := q_it (fun i s => q_es (tx (k + 2 * i)) (tx (k + 2 * i + 1)) nm s) (E - F) F q_e0
/-- the clause of law x in the text that rules -/
def q_kl5 (a tx : Nat → Int32) (x : Int32) : Int32 := if a 5 < 0 then -1 else q_cla tx (a 5).toNatClampNeg x (tx (680 * (a 5).toNatClampNeg)).toNatClampNeg 0
def q_lv (a tx : Nat → Int32) (x : Int32) (nm : Nat → Int32) : Nat × (Nat → Int64) × Nat × (Nat → Int32) :=
  q_ev tx (680 * (a 5).toNatClampNeg + 75) (tx (680 * (a 5).toNatClampNeg + 1 + 3 * (q_kl5 a tx x).toNatClampNeg + 1)).toNatClampNeg (tx (680 * (a 5).toNatClampNeg + 1 + 3 * (q_kl5 a tx x).toNatClampNeg + 2)).toNatClampNeg nm
def q_nl0 (a : Nat → Int32) (l j : Nat) (row near all : Int32) : Nat → Int32 := fun i => match i with
  | 0 => a (10 + 6 * j + 0)
  | 1 => a (10 + 6 * j + 1)
  | 2 => row
  | 3 => a (46 + 2 * l)
  | 4 => a (46 + 2 * l + 1)
  | 5 => near
  | 6 => all
  | _ => 0
def q_nl1 (a : Nat → Int32) (l : Nat) (many rounds coughs : Int32) : Nat → Int32 := fun i => match i with
  | 3 => a (46 + 2 * l)
  | 4 => a (46 + 2 * l + 1)
  | 7 => many
  | 8 => rounds
  | 9 => coughs
  | _ => 0
def q_nl2 (a : Nat → Int32) (j : Nat) (row bill people often coughed : Int32) : Nat → Int32 := fun i => match i with
  | 0 => a (10 + 6 * j + 0)
  | 1 => a (10 + 6 * j + 1)
  | 2 => row
  | 10 => bill
  | 11 => people
  | 12 => often
  | 13 => coughed
  | _ => 0
/-- whether a person laughs at a line -/
def q_la (a tx : Nat → Int32) (l j : Nat) (row near all : Int32) : Int32 :=
  if q_kl5 a tx 0 < 0 then q_b (a (46 + 2 * l) = 1 ∧ a (10 + 6 * j + 1) < a (46 + 2 * l + 1)) else (q_lv a tx 0 (q_nl0 a l j row near all)).2.2.2 0
/-- how loud a line is -/
def q_lo (a tx : Nat → Int32) (l : Nat) (many rounds coughs : Int32) : Int32 :=
  if q_kl5 a tx 1 < 0 then many + coughs else q_btw ((q_lv a tx 1 (q_nl1 a l many rounds coughs)).2.1 0) 99
/-- what one pays -/
def q_du (a tx : Nat → Int32) (j : Nat) (row bill people often coughed : Int32) : Int32 :=
  if q_kl5 a tx 2 < 0 then bill / people else q_btw ((q_lv a tx 2 (q_nl2 a j row bill people often coughed)).2.1 0) 999
/-- those of the set m who come to laugh, with the places pl, while g laugh -/
def q_rd (a tx pl : Nat → Int32) (l m g : Nat) : Nat :=
  q_it (fun j c => if m.testBit j = true ∧ (0 : Int32) ≤ pl j ∧ ¬ q_la a tx l j (pl j / 4) (q_nearOf (nI g) pl j 6 0 0) (q_bits (nI g) 10 0 0) = 0 then c ||| 2 ^ j else c) 6 0 0
/-- the wave: rounds from (g, r) on, f of them at most -/
def q_wv (a tx pl : Nat → Int32) (l m : Nat) : Nat → Nat → Nat → Nat × Nat
  | 0, g, r => (g, r)
  | f + 1, g, r => if q_rd a tx pl l (q_an m g) g = 0 then (g, r) else q_wv a tx pl l m f (g ||| q_rd a tx pl l (q_an m g) g) (r + 1)
/-- loud of a line before the set m (of those not still), without coughs -/
def q_lb (a tx pl : Nat → Int32) (l m : Nat) : Int32 := q_lo a tx l (q_bits (nI (q_wv a tx pl l m 7 0 0).1) 10 0 0) (nI (q_wv a tx pl l m 7 0 0).2) 0
/-- all lines together, L of them -/
def q_al (a tx pl : Nat → Int32) (m L : Nat) : Int32 := q_it (fun l s => s + q_lb a tx pl l m) L 0 0
/-- the seats of the persons -/
def q_pl (a : Nat → Int32) : Nat → Int32 := fun j => a (10 + 6 * j + 3)
/-! THE RELATION of class and model, row by row -/
/-- the set of those j below 6 with f j = 1 -/
def q_ms (f : Nat → Int32) : Nat := q_it (fun j c => if f j = 1 then c ||| 2 ^ j else c) 6 0 0
def q_sb (x : Int32) (f : Nat → Int32) : Prop := x = nI (q_ms f) ∧ ∀ j, j < 6 → f j = 0 ∨ f j = 1
def q_Co (h a : Nat → Int32) : Prop := h 10 = a 0 ∧ h 12 = a 1 ∧ h 17 = a 2 ∧ h 16 = a 3 ∧ h 14 = a 4 ∧ h 15 = a 5 ∧ h 13 = a 7
def q_Pe (w s c st pd : Nat → Int32) (a : Nat → Int32) : Prop := ∀ j, j < 6 → w j = a (10 + 6 * j + 0) ∧ s j = a (10 + 6 * j + 1) ∧ c j = a (10 + 6 * j + 2) ∧ st j = a (10 + 6 * j + 3) ∧ pd j = a (10 + 6 * j + 5)
def q_Li (so po a : Nat → Int32) : Prop := ∀ l, l < 10 → so l = a (46 + 2 * l) ∧ po l = a (46 + 2 * l + 1)
def q_Se (se a : Nat → Int32) : Prop := ∀ l, l < 10 → se l = a (66 + l)
def q_S1 (r18 r19 r20 r21 r22 a : Nat → Int32) (q s : Nat) : Prop :=
  (∀ j, j < 6 → r18 (q * 6 + j) = a (76 + 21 * s + 3 + 3 * j) ∧ r19 (q * 6 + j) = a (76 + 21 * s + 3 + 3 * j + 2)) ∧ q_sb (r20 q) (fun j => a (76 + 21 * s + 3 + 3 * j + 1)) ∧ r21 q = a (76 + 21 * s + 1) ∧ r22 q = a (76 + 21 * s + 2)
def q_St (r17 r18 r19 r20 r21 r22 a : Nat → Int32) (S : Nat) : Prop := ∃ o, o < 30 ∧ r17 5 = nI o ∧ r17 6 = nI S ∧ ∀ s, s < S → q_S1 r18 r19 r20 r21 r22 a ((o + s) % 30) s
/-- seats, stillness, paid of the persons: f j 0, f j 1, f j 2; P are told -/
def q_PI (P : Nat) (f : Nat → Nat → Int32) : Prop :=
  (∀ j, j < 6 → f j 0 = -1 ∨ ∃ s, s < 16 ∧ f j 0 = nI s) ∧ (∀ j, P ≤ j → j < 6 → f j 0 = -1 ∧ f j 1 = 0 ∧ f j 2 = 0) ∧ (∀ i j, i < 6 → j < 6 → i ≠ j → f i 0 = f j 0 → f i 0 = -1)
def q_Ic (a : Nat → Int32) (P L T S K : Nat) : Prop := P ≤ 6 ∧ L ≤ 10 ∧ T ≤ 4 ∧ S ≤ 30 ∧ K ≤ L ∧ a 0 = nI P ∧ a 1 = nI L ∧ a 4 = nI T ∧ a 6 = nI S ∧ a 7 = nI K ∧ (a 5 = -1 ∨ ∃ t, t < T ∧ a 5 = nI t)
def q_Ip (a : Nat → Int32) (P : Nat) : Prop := (∀ j, j < 6 → (∃ w, w < 10 ∧ a (10 + 6 * j + 0) = nI w) ∧ (∃ s, s < 10 ∧ a (10 + 6 * j + 1) = nI s)) ∧ q_PI P (fun j e => a (10 + 6 * j + 3 + e))
def q_Il (a : Nat → Int32) : Prop := ∀ l, l < 10 → (∃ s, s < 10 ∧ a (46 + 2 * l) = nI s) ∧ (∃ p, p < 10 ∧ a (46 + 2 * l + 1) = nI p)
def q_Is (a : Nat → Int32) (P S : Nat) : Prop := ∀ s, s < S → ∃ Ps, Ps ≤ P ∧ a (76 + 21 * s) = nI Ps ∧ q_PI Ps (fun j e => a (76 + 21 * s + 3 + 3 * j + e))
/-- a code of the class for one of the model -/
def q_enc (o v : Int32) : Int32 :=
  if o = 0 then v else if o = 1 then 10000 + v else if o = 2 then 20130 else if o = 3 then 20043 else if o = 4 then 20045 else if o = 5 then 20042 else if o = 6 then 20047
  else if o = 10 then 20060 else if o = 11 then 20128 else if o = 12 then 20062 else if o = 13 then 20129 else if o = 14 then 20061 else if o = 15 then 20035
  else if o = 20 then 20224 else if o = 21 then 20223 else 20222
/-- the script z of the class is the text t of the model -/
def q_TX (ln : Nat → Nat) (di : Nat → Nat → Int32) (z : Nat) (tx : Nat → Int32) (t : Nat) : Prop :=
  ∃ N W : Nat, N ≤ 24 ∧ W ≤ 300 ∧ tx (680 * t) = nI N ∧ ln (z + 1 + 0) = W ∧ ln (z + 1 + 1) = 3 ∧ ln (z + 1 + 2) = 3 ∧ ln (z + 1 + 3) = N ∧ ln (z + 1 + 4) = N ∧ ln (z + 1 + 5) = N
  ∧ (∀ k, k < N → ∃ so, so ≤ 6 ∧ tx (680 * t + 1 + 3 * k) = nI so ∧ di (z + 1 + 3) k = nI (so + 14)
      ∧ (3 ≤ so → so ≤ 5 → ∃ p, p < 6 ∧ tx (680 * t + 1 + 3 * k + 1) = nI p ∧ di (z + 1 + 4) k = nI p)
      ∧ (so = 3 → ∃ s, s < 16 ∧ tx (680 * t + 1 + 3 * k + 2) = nI s ∧ di (z + 1 + 5) k = nI s)
      ∧ (so < 3 → ∃ F E, F < E ∧ E ≤ W ∧ tx (680 * t + 1 + 3 * k + 1) = nI F ∧ tx (680 * t + 1 + 3 * k + 2) = nI E ∧ di (z + 1 + 1) so = nI F ∧ di (z + 1 + 2) so = nI E
          ∧ q_tyr tx (680 * t + 75) so (E - F) F (0, 0) = some (if so = 0 then (0, 1) else (1, 0))
          ∧ (so = 0 → di z 6 = 0 → ∀ i, F ≤ i → i < E → ¬ (tx (680 * t + 75 + 2 * i) = 1 ∧ (tx (680 * t + 75 + 2 * i + 1) = 2 ∨ tx (680 * t + 75 + 2 * i + 1) = 5)))))
  ∧ (∀ x, x < 3 → (∀ k, k < N → ¬ tx (680 * t + 1 + 3 * k) = nI x) → ¬ di (z + 1 + 1) x < di (z + 1 + 2) x)
  ∧ (∀ i, i < W → di (z + 1 + 0) i = q_enc (tx (680 * t + 75 + 2 * i)) (tx (680 * t + 75 + 2 * i + 1)))
def q_Sc (n : Nat) (ln : Nat → Nat) (di : Nat → Nat → Int32) (sc : Nat → Option Nat) (tx : Nat → Int32) (T : Nat) : Prop :=
  (∀ t, t < T → ∃ z, sc t = some z ∧ q_scr n z ∧ q_TX ln di z tx t) ∧ (∀ t z, t < 4 → sc t = some z → q_scr n z)
/-- what the Ear keeps is right -/
def q_CE (r54 r55 r56 a tx : Nat → Int32) (P L : Nat) : Prop :=
  (∀ l j r u v, l < 10 → j < 6 → r < 4 → u ≤ 4 → v ≤ 5 → (r54 ((l * 6 + j) * 4 + r) &&& nI (2 ^ (u * 6 + v)) = 0 → r55 ((l * 6 + j) * 4 + r) &&& nI (2 ^ (u * 6 + v)) = 0) ∧ (¬ r54 ((l * 6 + j) * 4 + r) &&& nI (2 ^ (u * 6 + v)) = 0 → l < L ∧ j < P ∧ (r55 ((l * 6 + j) * 4 + r) &&& nI (2 ^ (u * 6 + v)) = 0 ↔ q_la a tx l j (nI r) (nI u) (nI v) = 0)))
  ∧ (∀ l g r, l < 10 → g ≤ 6 → r ≤ 6 → ¬ r56 ((l * 7 + g) * 7 + r) = -1 → l < L ∧ r56 ((l * 7 + g) * 7 + r) = q_lo a tx l (nI g) (nI r) 0)
/-- those who are still -/
def q_sm (a : Nat → Int32) : Nat := q_ms (fun j => a (10 + 6 * j + 4))
/-- seats that are taken, persons who sit: how many and which -/
def q_tk (seat : Nat → Int32) (P : Nat) : Nat × (Nat → Int32) := q_it (fun s st => if q_on seat (nI s) P 0 < 0 then st else (st.1 + 1, va_up st.2 st.1 (nI s))) 16 0 (0, fun _ => 0)
def q_ro (seat : Nat → Int32) (P : Nat) : Nat × (Nat → Int32) := q_it (fun j st => if seat j < 0 then st else (st.1 + 1, va_up st.2 st.1 (nI j))) P 0 (0, fun _ => 0)
/-- the order that comes next -/
def q_nxi (row : Nat → Int32) : Nat → Option Nat
  | 0 => none
  | i + 1 => if row (i + 1) < row i then q_nxi row i else some i
def q_nxk (row : Nat → Int32) (x : Int32) : Nat → Nat
  | 0 => 0
  | k + 1 => if row (k + 1) < x then q_nxk row x k else k + 1
def q_sw (row : Nat → Int32) (i k : Nat) : Nat → Int32 := va_up (va_up row i (row k)) k (row i)
def q_rv : Nat → (Nat → Int32) → Nat → Nat → (Nat → Int32)
  | 0, row, _, _ => row
  | f + 1, row, p, q => if p < q then q_rv f (q_sw row p q) (p + 1) (q - 1) else row
def q_nx (M : Nat) (row : Nat → Int32) : Option (Nat → Int32) := match q_nxi row (M - 1) with
  | none => none
  | some i => some (q_rv M (q_sw row i (q_nxk row (row i) (M - 1))) (i + 1) (M - 1))
/-- the quietest order: from (pl, row, least, best) on -/
def q_qs (a tx tk : Nat → Int32) (L M m : Nat) : Nat → (Nat → Int32) → (Nat → Int32) → Int32 → (Nat → Int32) → Int32 × (Nat → Int32)
  | 0, _, _, least, best => (least, best)
  | f + 1, pl, row, least, best =>
    let pl' := q_it (fun k pl => va_up pl (row k).toNatClampNeg (tk k)) M 0 pl
    let lb := if q_al a tx pl' m L < least then (q_al a tx pl' m L, row) else (least, best)
    match q_nx M row with
    | none => lb
    | some row' => q_qs a tx tk L M m f pl' row' lb.1 lb.2
def q_qu (a tx : Nat → Int32) (P L : Nat) : Int32 × (Nat → Int32) := q_qs a tx (q_tk (q_pl a) P).2 L (q_tk (q_pl a) P).1 (q_an 63 (q_sm a)) 720 (q_pl a) (q_ro (q_pl a) P).2 1000000 (fun _ => 0)
/-- who is on the seat x by taken seats and an order -/
def q_fs (tk best : Nat → Int32) (x : Int32) : Nat → Nat → Int32
  | 0, _ => -1
  | c + 1, k => if tk k = x then best k else q_fs tk best x c (k + 1)
/-- what the Reckoner keeps is right -/
def q_CR (r60 r61 r66 a tx : Nat → Int32) (P L : Nat) : Prop :=
  (∀ m, m < 64 → r61 m = -1 ∨ r61 m = q_al a tx (q_pl a) (q_an m (q_sm a)) L)
  ∧ (¬ r60 9 = 0 → r60 10 = (q_qu a tx P L).1 ∧ ∀ s, s < 16 → r66 s = q_fs (q_tk (q_pl a) P).2 (q_qu a tx P L).2 (nI s) (q_tk (q_pl a) P).1 0)
