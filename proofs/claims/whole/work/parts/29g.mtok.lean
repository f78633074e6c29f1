/-! the model's tokens -/
theorem w_cmp0 (x y : Int64) : lg_cmp x y = 0 ↔ x = y := lg_cmp_eq x y
/-- letters packed, the last first -/
def t_pr : List Nat → Nat
  | [] => 0
  | x :: r => 256 * t_pr r + x
theorem t_pr_inj : ∀ (r s : List Nat), (∀ x, x ∈ r → 1 ≤ x ∧ x < 256) → (∀ x, x ∈ s → 1 ≤ x ∧ x < 256) → t_pr r = t_pr s → r = s := by
  intro r
  induction r with
  | nil =>
    intro s _ hs e
    cases s with
    | nil => rfl
    | cons y s =>
      have h1 := hs y (List.mem_cons_self ..)
      have e' : 0 = 256 * t_pr s + y := e
      omega
  | cons x r ih =>
    intro s hr hs e
    have h1 := hr x (List.mem_cons_self ..)
    cases s with
    | nil =>
      have e' : 256 * t_pr r + x = 0 := e
      omega
    | cons y s =>
      have h2 := hs y (List.mem_cons_self ..)
      have e' : 256 * t_pr r + x = 256 * t_pr s + y := e
      rw [ih s (fun z hz => hr z (List.mem_cons_of_mem _ hz)) (fun z hz => hs z (List.mem_cons_of_mem _ hz)) (by omega), show x = y by omega]
theorem t_pr_lt : ∀ (r : List Nat), (∀ x, x ∈ r → 1 ≤ x ∧ x < 256) → t_pr r < 256 ^ r.length := by
  intro r
  induction r with
  | nil => intro _; decide
  | cons x r ih =>
    intro h
    have h1 := h x (List.mem_cons_self ..)
    have h2 := ih (fun z hz => h z (List.mem_cons_of_mem _ hz))
    show 256 * t_pr r + x < 256 ^ (r.length + 1)
    rw [Nat.pow_succ]
    omega
theorem t_or8 {w x : Nat} (hw : w < 2 ^ 48) (hx : x < 256) : (Int64.ofNat w <<< ((8 : Int32).toInt64 &&& 63)) ||| (nI x).toInt64 = Int64.ofNat (256 * w + x) := by
  have e8 : ((8 : Int32).toInt64 &&& 63) = (8 : Int64) := by decide
  have ex : (nI x).toInt64 = Int64.ofNat x := by
    apply Int64.toInt_inj.1
    rw [Int32.toInt_toInt64, nI_toInt (by omega), Int64.toInt_ofNat_of_lt (by omega)]
  rw [e8, ex]
  apply Int64.toBitVec_inj.1
  apply BitVec.eq_of_toNat_eq
  have e1 : (Int64.ofNat w <<< (8 : Int64)).toBitVec = (Int64.ofNat w).toBitVec <<< 8 := by
    rw [Int64.toBitVec_shiftLeft]
    rfl
  rw [Int64.toBitVec_or, e1, BitVec.toNat_or, BitVec.toNat_shiftLeft]
  have t1 : (Int64.ofNat w).toBitVec.toNat = w := by
    show (BitVec.ofNat 64 w).toNat = w
    rw [BitVec.toNat_ofNat, Nat.mod_eq_of_lt (by omega)]
  have t2 : (Int64.ofNat x).toBitVec.toNat = x := by
    show (BitVec.ofNat 64 x).toNat = x
    rw [BitVec.toNat_ofNat, Nat.mod_eq_of_lt (by omega)]
  have t3 : (Int64.ofNat (256 * w + x)).toBitVec.toNat = 256 * w + x := by
    show (BitVec.ofNat 64 (256 * w + x)).toNat = 256 * w + x
    rw [BitVec.toNat_ofNat, Nat.mod_eq_of_lt (by omega)]
  rw [t1, t2, t3, Nat.shiftLeft_eq, Nat.mod_eq_of_lt (by omega)]
  have := Nat.shiftLeft_add_eq_or_of_lt (i := 8) (b := x) (by omega) w
  rw [Nat.shiftLeft_eq] at this
  rw [← this]
  omega
/-- letters from p to i, the last first -/
def t_lr (bt : Nat → Int32) (p : Nat) : Nat → List Nat
  | 0 => []
  | c + 1 => (bt (p + c)).toNatClampNeg :: t_lr bt p c
theorem t_lr_rev (bt : Nat → Int32) : ∀ (c p : Nat), (t_lst bt c p).reverse = t_lr bt p c := by
  have key : ∀ (c p : Nat), t_lst bt (c + 1) p = t_lst bt c p ++ [(bt (p + c)).toNatClampNeg] := by
    intro c
    induction c with
    | zero => intro p; rfl
    | succ c ih =>
      intro p
      show (bt p).toNatClampNeg :: t_lst bt (c + 1) (p + 1) = (bt p).toNatClampNeg :: (t_lst bt c (p + 1) ++ [(bt (p + (c + 1))).toNatClampNeg])
      rw [ih (p + 1), show p + 1 + c = p + (c + 1) by omega]
  intro c
  induction c with
  | zero => intro p; rfl
  | succ c ih =>
    intro p
    rw [key c p, List.reverse_append, ih p]
    rfl
theorem t_lr_len (bt : Nat → Int32) (p : Nat) : ∀ c, (t_lr bt p c).length = c := by
  intro c
  induction c with
  | zero => rfl
  | succ c ih => show (t_lr bt p c).length + 1 = c + 1; rw [ih]
theorem t_lr_ok {bt : Nat → Int32} {p : Nat} : ∀ c, (∀ k, p ≤ k → k < p + c → t_le (bt k)) → ∀ x, x ∈ t_lr bt p c → 1 ≤ x ∧ x < 256 := by
  intro c
  induction c with
  | zero => intro _ x hx; exact absurd hx (by unfold t_lr; exact List.not_mem_nil)
  | succ c ih =>
    intro h x hx
    have hx' : x ∈ (bt (p + c)).toNatClampNeg :: t_lr bt p c := hx
    rcases List.mem_cons.mp hx' with e | e
    · obtain ⟨v, v1, v2, v3⟩ := t_leN (h (p + c) (by omega) (by omega))
      rw [e, v3, nI_clamp (by omega)]
      omega
    · exact ih (fun k a b => h k a (by omega)) x e
/-- the model's number -/
def t_nm (bt : Nat → Int32) : Nat → Nat → Nat → Nat
  | 0, _, x => x
  | c + 1, i, x => t_nm bt c (i + 1) (if x < 100000 then 10 * x + ((bt i).toNatClampNeg - 48) else x)
theorem t_nm_nu {N : Nat} {bt : Nat → Int32} : ∀ (c i x y : Nat), (∀ k, i ≤ k → k < i + c → t_pd N bt k) → ((x = y ∧ x ≤ 9999) ∨ (x = 10000 ∧ 10000 ≤ y ∧ y < 1000000)) → (t_nu bt c i x = t_nm bt c i y ∧ t_nu bt c i x ≤ 9999) ∨ (t_nu bt c i x = 10000 ∧ 10000 ≤ t_nm bt c i y ∧ t_nm bt c i y < 1000000) := by
  intro c
  induction c with
  | zero => intro i x y _ h; exact h
  | succ c ih =>
    intro i x y hp h
    obtain ⟨v, v1, v2⟩ := t_dgN (hp i (Nat.le_refl _) (by omega)).2
    have e3 : (bt i).toNatClampNeg - 48 = v := by rw [v2, nI_clamp (by omega)]; omega
    unfold t_nu t_nm
    rw [e3]
    refine ih (i + 1) _ _ (fun k a b => hp k (by omega) (by omega)) ?_
    rcases h with ⟨h1, h2⟩ | ⟨h1, h2, h3⟩
    · rw [if_pos (by omega)]
      rcases Nat.lt_or_ge 9999 (x * 10 + v) with y1 | y1
      · right
        rw [Nat.min_eq_right (by omega)]
        omega
      · left
        rw [Nat.min_eq_left (by omega)]
        omega
    · right
      rw [Nat.min_eq_right (by omega)]
      by_cases z : y < 100000
      · rw [if_pos z]; omega
      · rw [if_neg z]; omega
/-- the sign's token in the model -/
def t_sm (c c2 : Int32) : Int32 :=
  if c = 60 then (if c2 = 61 then 4 else c) else if c = 62 then (if c2 = 61 then 5 else c)
  else if c = 61 ∨ c = 35 ∨ c = 43 ∨ c = 45 ∨ c = 42 ∨ c = 47 ∨ c = 40 ∨ c = 41 ∨ c = 59 then c else 3
/-- the model stands at the token c that begins at p and ends at q -/
def t_ms (r67 : Nat → Int32) (w : Int64) (N : Nat) (bt : Nat → Int32) (p : Nat) (c : Int32) (q : Nat) : Prop :=
  r67 7 = nI q ∧ r67 8 = nI p ∧ p ≤ N ∧ q ≤ N ∧ t_tk N bt p c q ∧ (p = N → r67 9 = 0)
  ∧ (p < N → t_le (bt p) → r67 9 = 2 ∧ w = (if q - p ≤ 7 then Int64.ofNat (t_pr (t_lr bt p (q - p))) else 0))
  ∧ (p < N → t_dg (bt p) → r67 9 = 1 ∧ r67 10 = nI (t_nm bt (q - p) p 0))
  ∧ (p < N → ¬ t_le (bt p) → ¬ t_dg (bt p) → r67 9 = t_sm (bt p) (t_by N bt (p + 1)))
def t_mf (D D' : Nat → Nat → Int32) : Prop := (∀ k, ¬ k = 67 → D' k = D k) ∧ (∀ i, ¬ i = 7 → ¬ i = 8 → ¬ i = 9 → ¬ i = 10 → D' 67 i = D 67 i)
theorem t_mf_r (D : Nat → Nat → Int32) : t_mf D D := ⟨fun _ _ => rfl, fun _ _ _ _ _ => rfl⟩
theorem t_mf_t {D E F : Nat → Nat → Int32} (h : t_mf D E) (g : t_mf E F) : t_mf D F := ⟨fun k hk => (g.1 k hk).trans (h.1 k hk), fun i a b c d => (g.2 i a b c d).trans (h.2 i a b c d)⟩
theorem t_mf_u {D : Nat → Nat → Int32} {i : Nat} {v : Int32} (h : i = 7 ∨ i = 8 ∨ i = 9 ∨ i = 10) : t_mf D (q_u D 67 i v) :=
  ⟨fun k hk => q_uR hk, fun j h7 h8 h9 h10 => q_uN _ _ _ _ _ (fun e => by omega)⟩
