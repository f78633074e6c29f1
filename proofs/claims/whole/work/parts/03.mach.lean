/-! THE SMALL MACHINE: a heap of numbered cells whose kinds are foretold (q_kd), one step, runs with a bound on the depth of calls -/
abbrev q_H : Type := Nat × Nat × (Nat → Nat) × (Nat → Nat → Int32) × (Nat → Nat → Int64) × (Nat → Nat → Option Nat)
abbrev q_O : Type := (Nat × List Value × List Value × q_H) ⊕ (Option Value) ⊕ (Nat × List Value × List Value)
-- the kinds of the cells: 0 to 10 objects of a class, 20 ints, 21 bytes, 22 booleans, 23 longs, 24 scripts, 30 the text
/-- one int (long, reference) of the heap is set -/
abbrev q_sI (h : q_H) (a i : Nat) (x : Int32) : q_H := (h.1, h.2.1, h.2.2.1, va_up h.2.2.2.1 a (va_up (h.2.2.2.1 a) i x), h.2.2.2.2.1, h.2.2.2.2.2)
abbrev q_sL (h : q_H) (a i : Nat) (x : Int64) : q_H := (h.1, h.2.1, h.2.2.1, h.2.2.2.1, va_up h.2.2.2.2.1 a (va_up (h.2.2.2.2.1 a) i x), h.2.2.2.2.2)
abbrev q_sR (h : q_H) (a i : Nat) (x : Option Nat) : q_H := (h.1, h.2.1, h.2.2.1, h.2.2.2.1, h.2.2.2.2.1, va_up h.2.2.2.2.2 a (va_up (h.2.2.2.2.2 a) i x))
abbrev q_sA (h : q_H) (a : Nat) (f : Nat → Int32) : q_H := (h.1, h.2.1, h.2.2.1, va_up h.2.2.2.1 a f, h.2.2.2.2.1, h.2.2.2.2.2)
abbrev q_nO (h : q_H) (N : Nat) : q_H := (h.1 + 1, h.2.1 + N, h.2.2.1, va_up h.2.2.2.1 h.1 (fun _ => 0), va_up h.2.2.2.2.1 h.1 (fun _ => 0), va_up h.2.2.2.2.2 h.1 (fun _ => none))
abbrev q_nA (h : q_H) (L : Nat) (f : Nat → Int32) : q_H := (h.1 + 1, h.2.1 + L, va_up h.2.2.1 h.1 L, va_up h.2.2.2.1 h.1 f, va_up h.2.2.2.2.1 h.1 (fun _ => 0), va_up h.2.2.2.2.2 h.1 (fun _ => none))
/-- locals: one value a place; what isn't there is .retAddr 0 -/
def q_kl (ls : List Value) (i : Nat) : List Value := match i with
  | 0 => ls
  | j + 1 => match ls[j]? with
    | some (.long _) => ls.set j (.retAddr 0)
    | some (.double _) => ls.set j (.retAddr 0)
    | _ => ls
def q_s1 (ls : List Value) (i : Nat) (v : Value) : List Value := (q_kl ls i).set i v
def q_s2 (ls : List Value) (i : Nat) (v : Value) : List Value := ((q_kl ls i).set i v).set (i + 1) (.retAddr 0)
def q_fl2 : List Value → List Value
  | [] => []
  | .long x :: r => .long x :: .retAddr 0 :: q_fl2 r
  | .double x :: r => .double x :: .retAddr 0 :: q_fl2 r
  | v :: r => v :: q_fl2 r
def q_ent (as : List Value) (n : Nat) : List Value := q_fl2 as ++ List.replicate (n - (q_fl2 as).length) (.retAddr 0)
def q_at {α : Type} : List (Option α) → Nat → Option α
  | [], _ => none
  | x :: _, 0 => x
  | _ :: r, n + 1 => q_at r n
def q_ins (i pc : Nat) : q_E := q_at (q_cs i) pc
def q_isR (v : Value) : Prop := v = .null ∨ ∃ a, v = .ref a
def q_cm (c : ClassFile.Cond) (x y : Int32) : Prop := match c with
  | .eq => x = y
  | .ne => ¬ x = y
  | .lt => x < y
  | .ge => y ≤ x
  | .gt => y < x
  | .le => x ≤ y
def q_W8 (r : List Value) : Prop := (r.map fun v => v.category).sum ≤ 8
/-- one step, by the kinds kd of the cells -/
def q_sr (kd : Nat → Nat) (i pc : Nat) (ins : Instr) (len : Nat) (lk : q_LK) (ls st : List Value) (h : q_H) (o : q_O) : Prop := match ins with
  | .iconst n => len = 1 ∧ o = .inl (pc + 1, ls, .int (Int32.ofInt n) :: st, h)
  | .bipush n => len = 2 ∧ o = .inl (pc + 2, ls, .int (Int8.ofInt n).toInt32 :: st, h)
  | .sipush n => len = 3 ∧ o = .inl (pc + 3, ls, .int (Int16.ofInt n).toInt32 :: st, h)
  | .lconst n => len = 1 ∧ o = .inl (pc + 1, ls, .long (Int64.ofNat n) :: st, h)
  | .aconst_null => len = 1 ∧ o = .inl (pc + 1, ls, .null :: st, h)
  | .ldc _ => len = 2 ∧ ((lk.2.2.2.1 = 0 ∧ o = .inl (pc + 2, ls, .int (Int32.ofInt lk.2.2.2.2) :: st, h)) ∨ (lk.2.2.2.1 = 1 ∧ o = .inl (pc + 2, ls, .ref 4 :: st, h)))
  | .ldc_w _ => len = 3 ∧ o = .inl (pc + 3, ls, .int (Int32.ofInt lk.2.2.2.2) :: st, h)
  | .ldc2_w _ => len = 3 ∧ o = .inl (pc + 3, ls, .long (Int64.ofInt lk.2.2.2.2) :: st, h)
  | .iload k => len = 2 ∧ ∃ x, ls[k]? = some (.int x) ∧ o = .inl (pc + 2, ls, .int x :: st, h)
  | .iload_n k => len = 1 ∧ ∃ x, ls[(k : Nat)]? = some (.int x) ∧ o = .inl (pc + 1, ls, .int x :: st, h)
  | .lload k => len = 2 ∧ ∃ x, ls[k]? = some (.long x) ∧ o = .inl (pc + 2, ls, .long x :: st, h)
  | .lload_n k => len = 1 ∧ ∃ x, ls[(k : Nat)]? = some (.long x) ∧ o = .inl (pc + 1, ls, .long x :: st, h)
  | .aload k => len = 2 ∧ ∃ v, ls[k]? = some v ∧ q_isR v ∧ o = .inl (pc + 2, ls, v :: st, h)
  | .aload_n k => len = 1 ∧ ∃ v, ls[(k : Nat)]? = some v ∧ q_isR v ∧ o = .inl (pc + 1, ls, v :: st, h)
  | .istore k => len = 2 ∧ ∃ x r, st = .int x :: r ∧ k < q_mx i ∧ o = .inl (pc + 2, q_s1 ls k (.int x), r, h)
  | .istore_n k => len = 1 ∧ ∃ x r, st = .int x :: r ∧ (k : Nat) < q_mx i ∧ o = .inl (pc + 1, q_s1 ls k (.int x), r, h)
  | .lstore k => len = 2 ∧ ∃ x r, st = .long x :: r ∧ k + 1 < q_mx i ∧ o = .inl (pc + 2, q_s2 ls k (.long x), r, h)
  | .lstore_n k => len = 1 ∧ ∃ x r, st = .long x :: r ∧ (k : Nat) + 1 < q_mx i ∧ o = .inl (pc + 1, q_s2 ls k (.long x), r, h)
  | .astore k => len = 2 ∧ ∃ v r, st = v :: r ∧ q_isR v ∧ k < q_mx i ∧ o = .inl (pc + 2, q_s1 ls k v, r, h)
  | .astore_n k => len = 1 ∧ ∃ v r, st = v :: r ∧ q_isR v ∧ (k : Nat) < q_mx i ∧ o = .inl (pc + 1, q_s1 ls k v, r, h)
  | .iinc k n => len = 3 ∧ ∃ x, ls[k]? = some (.int x) ∧ k < q_mx i ∧ o = .inl (pc + 3, q_s1 ls k (.int (x + Int32.ofInt n)), st, h)
  | .iadd => len = 1 ∧ ∃ x y r, st = .int y :: .int x :: r ∧ o = .inl (pc + 1, ls, .int (x + y) :: r, h)
  | .isub => len = 1 ∧ ∃ x y r, st = .int y :: .int x :: r ∧ o = .inl (pc + 1, ls, .int (x - y) :: r, h)
  | .imul => len = 1 ∧ ∃ x y r, st = .int y :: .int x :: r ∧ o = .inl (pc + 1, ls, .int (x * y) :: r, h)
  | .iand => len = 1 ∧ ∃ x y r, st = .int y :: .int x :: r ∧ o = .inl (pc + 1, ls, .int (x &&& y) :: r, h)
  | .ior => len = 1 ∧ ∃ x y r, st = .int y :: .int x :: r ∧ o = .inl (pc + 1, ls, .int (x ||| y) :: r, h)
  | .ixor => len = 1 ∧ ∃ x y r, st = .int y :: .int x :: r ∧ o = .inl (pc + 1, ls, .int (x ^^^ y) :: r, h)
  | .idiv => len = 1 ∧ ∃ x y r, st = .int y :: .int x :: r ∧ ¬ y = 0 ∧ o = .inl (pc + 1, ls, .int (x / y) :: r, h)
  | .irem => len = 1 ∧ ∃ x y r, st = .int y :: .int x :: r ∧ ¬ y = 0 ∧ o = .inl (pc + 1, ls, .int (x - x / y * y) :: r, h)
  | .ineg => len = 1 ∧ ∃ x r, st = .int x :: r ∧ o = .inl (pc + 1, ls, .int (-x) :: r, h)
  | .ishl => len = 1 ∧ ∃ x y r, st = .int y :: .int x :: r ∧ o = .inl (pc + 1, ls, .int (x <<< (y &&& 31)) :: r, h)
  | .ishr => len = 1 ∧ ∃ x y r, st = .int y :: .int x :: r ∧ o = .inl (pc + 1, ls, .int (x >>> (y &&& 31)) :: r, h)
  | .iushr => len = 1 ∧ ∃ x y r, st = .int y :: .int x :: r ∧ o = .inl (pc + 1, ls, .int (x.toUInt32 >>> (y.toUInt32 &&& Int32.toUInt32 31)).toInt32 :: r, h)
  | .ladd => len = 1 ∧ ∃ x y r, st = .long y :: .long x :: r ∧ o = .inl (pc + 1, ls, .long (x + y) :: r, h)
  | .lsub => len = 1 ∧ ∃ x y r, st = .long y :: .long x :: r ∧ o = .inl (pc + 1, ls, .long (x - y) :: r, h)
  | .lmul => len = 1 ∧ ∃ x y r, st = .long y :: .long x :: r ∧ o = .inl (pc + 1, ls, .long (x * y) :: r, h)
  | .ldiv => len = 1 ∧ ∃ x y r, st = .long y :: .long x :: r ∧ ¬ y = 0 ∧ o = .inl (pc + 1, ls, .long (x / y) :: r, h)
  | .lneg => len = 1 ∧ ∃ x r, st = .long x :: r ∧ o = .inl (pc + 1, ls, .long (-x) :: r, h)
  | .lor => len = 1 ∧ ∃ x y r, st = .long y :: .long x :: r ∧ o = .inl (pc + 1, ls, .long (x ||| y) :: r, h)
  | .lshl => len = 1 ∧ ∃ x y r, st = .int y :: .long x :: r ∧ o = .inl (pc + 1, ls, .long (x <<< (y.toInt64 &&& 63)) :: r, h)
  | .lcmp => len = 1 ∧ ∃ x y r, st = .long y :: .long x :: r ∧ o = .inl (pc + 1, ls, .int (lg_cmp x y) :: r, h)
  | .i2l => len = 1 ∧ ∃ x r, st = .int x :: r ∧ o = .inl (pc + 1, ls, .long x.toInt64 :: r, h)
  | .l2i => len = 1 ∧ ∃ x r, st = .long x :: r ∧ o = .inl (pc + 1, ls, .int x.toInt32 :: r, h)
  | .i2b => len = 1 ∧ ∃ x r, st = .int x :: r ∧ o = .inl (pc + 1, ls, .int x.toInt8.toInt32 :: r, h)
  | .i2c => len = 1 ∧ ∃ x r, st = .int x :: r ∧ o = .inl (pc + 1, ls, .int (x.toUInt32 % 65536).toInt32 :: r, h)
  | .dup => len = 1 ∧ ∃ v r, st = v :: r ∧ v.category = 1 ∧ o = .inl (pc + 1, ls, v :: v :: r, h)
  | .dup2 => len = 1 ∧ ∃ v w r, st = v :: w :: r ∧ v.category = 1 ∧ w.category = 1 ∧ o = .inl (pc + 1, ls, v :: w :: v :: w :: r, h)
  | .pop => len = 1 ∧ ∃ v r, st = v :: r ∧ v.category = 1 ∧ o = .inl (pc + 1, ls, r, h)
  | .ifCond c off => len = 3 ∧ ∃ x r, ∃ tgt : Nat, st = .int x :: r ∧ (pc : Int) + off = (tgt : Int) ∧ ((q_cm c x 0 ∧ o = .inl (tgt, ls, r, h)) ∨ (¬ q_cm c x 0 ∧ o = .inl (pc + 3, ls, r, h)))
  | .if_icmp c off => len = 3 ∧ ∃ x y r, ∃ tgt : Nat, st = .int y :: .int x :: r ∧ (pc : Int) + off = (tgt : Int) ∧ ((q_cm c x y ∧ o = .inl (tgt, ls, r, h)) ∨ (¬ q_cm c x y ∧ o = .inl (pc + 3, ls, r, h)))
  | .ifnull off => len = 3 ∧ ∃ v r, ∃ tgt : Nat, st = v :: r ∧ (pc : Int) + off = (tgt : Int) ∧ ((v = .null ∧ o = .inl (tgt, ls, r, h)) ∨ ((∃ a, v = .ref a) ∧ o = .inl (pc + 3, ls, r, h)))
  | .ifnonnull off => len = 3 ∧ ∃ v r, ∃ tgt : Nat, st = v :: r ∧ (pc : Int) + off = (tgt : Int) ∧ ((v = .null ∧ o = .inl (pc + 3, ls, r, h)) ∨ ((∃ a, v = .ref a) ∧ o = .inl (tgt, ls, r, h)))
  | .goto off => len = 3 ∧ ∃ tgt : Nat, (pc : Int) + off = (tgt : Int) ∧ o = .inl (tgt, ls, st, h)
  | .tableswitch dflt lo hi offs => ∃ x r off, ∃ tgt : Nat, st = .int x :: r ∧ (((x.toInt < lo ∨ hi < x.toInt) ∧ off = dflt) ∨ (¬ x.toInt < lo ∧ ¬ hi < x.toInt ∧ offs[(x.toInt - lo).toNat]? = some off)) ∧ (pc : Int) + off = (tgt : Int) ∧ o = .inl (tgt, ls, r, h)
  | .lookupswitch dflt ps => (ps.toList.zip (ps.toList.drop 1)).all (fun (a, next) => a.1 < next.1) = true ∧ ∃ x r off, ∃ tgt : Nat, st = .int x :: r ∧ Op.lookupswitch.offset ps.toList dflt x.toInt = off ∧ (pc : Int) + off = (tgt : Int) ∧ o = .inl (tgt, ls, r, h)
  | .iaload => len = 1 ∧ ∃ x a r, st = .int x :: .ref a :: r ∧ kd a = 20 ∧ a < h.1 ∧ vp_in x (h.2.2.1 a) ∧ o = .inl (pc + 1, ls, .int (h.2.2.2.1 a x.toNatClampNeg) :: r, h)
  | .baload => len = 1 ∧ ∃ x a r, st = .int x :: .ref a :: r ∧ (kd a = 21 ∨ kd a = 22) ∧ a < h.1 ∧ vp_in x (h.2.2.1 a) ∧ o = .inl (pc + 1, ls, .int (h.2.2.2.1 a x.toNatClampNeg) :: r, h)
  | .laload => len = 1 ∧ ∃ x a r, st = .int x :: .ref a :: r ∧ kd a = 23 ∧ a < h.1 ∧ vp_in x (h.2.2.1 a) ∧ o = .inl (pc + 1, ls, .long (h.2.2.2.2.1 a x.toNatClampNeg) :: r, h)
  | .aaload => len = 1 ∧ ∃ x a r, st = .int x :: .ref a :: r ∧ kd a = 24 ∧ a < h.1 ∧ vp_in x (h.2.2.1 a) ∧ o = .inl (pc + 1, ls, va_rf (h.2.2.2.2.2 a x.toNatClampNeg) :: r, h)
  | .iastore => len = 1 ∧ ∃ y x a r, st = .int y :: .int x :: .ref a :: r ∧ kd a = 20 ∧ 6 ≤ a ∧ a < h.1 ∧ vp_in x (h.2.2.1 a) ∧ o = .inl (pc + 1, ls, r, q_sI h a x.toNatClampNeg y)
  | .bastore => len = 1 ∧ ∃ y x a r, st = .int y :: .int x :: .ref a :: r ∧ 6 ≤ a ∧ a < h.1 ∧ vp_in x (h.2.2.1 a) ∧ ((kd a = 21 ∧ o = .inl (pc + 1, ls, r, q_sI h a x.toNatClampNeg (vp_nar .byte y))) ∨ (kd a = 22 ∧ o = .inl (pc + 1, ls, r, q_sI h a x.toNatClampNeg (vp_nar .boolean y))))
  | .lastore => len = 1 ∧ ∃ y x a r, st = .long y :: .int x :: .ref a :: r ∧ kd a = 23 ∧ 6 ≤ a ∧ a < h.1 ∧ vp_in x (h.2.2.1 a) ∧ o = .inl (pc + 1, ls, r, q_sL h a x.toNatClampNeg y)
  | .aastore => len = 1 ∧ ∃ v x a r, st = va_rf v :: .int x :: .ref a :: r ∧ (∀ b, v = some b → kd b = 6 ∧ 6 ≤ b ∧ b < h.1) ∧ kd a = 24 ∧ 6 ≤ a ∧ a < h.1 ∧ vp_in x (h.2.2.1 a) ∧ o = .inl (pc + 1, ls, r, q_sR h a x.toNatClampNeg v)
  | .arraylength => len = 1 ∧ ∃ a r, st = .ref a :: r ∧ 20 ≤ kd a ∧ kd a ≤ 24 ∧ a < h.1 ∧ o = .inl (pc + 1, ls, .int (Int32.ofNat (h.2.2.1 a)) :: r, h)
  | .getfield _ => len = 3 ∧ ∃ a r, st = .ref a :: r ∧ kd a = lk.2.1 ∧ a < h.1 ∧ (((lk.2.2.2.1 = 0 ∨ lk.2.2.2.1 = 3) ∧ 6 ≤ a ∧ o = .inl (pc + 3, ls, .int (h.2.2.2.1 a lk.2.2.1) :: r, h)) ∨ (lk.2.2.2.1 = 1 ∧ 6 ≤ a ∧ o = .inl (pc + 3, ls, .long (h.2.2.2.2.1 a lk.2.2.1) :: r, h)) ∨ (lk.2.2.2.1 = 2 ∧ 6 ≤ a ∧ o = .inl (pc + 3, ls, va_rf (h.2.2.2.2.2 a lk.2.2.1) :: r, h))
      ∨ (a = 4 ∧ lk.2.2.2.1 = 5 ∧ o = .inl (pc + 3, ls, .ref 5 :: r, h)) ∨ (a = 4 ∧ lk.2.2.2.1 = 6 ∧ o = .inl (pc + 3, ls, .int 0 :: r, h)))
  | .putfield _ => len = 3 ∧ ∃ a r, kd a = lk.2.1 ∧ 6 ≤ a ∧ a < h.1 ∧ ((∃ x, lk.2.2.2.1 = 0 ∧ st = .int x :: .ref a :: r ∧ o = .inl (pc + 3, ls, r, q_sI h a lk.2.2.1 x)) ∨ (∃ x, lk.2.2.2.1 = 3 ∧ narrow .boolean (.int x) = .int x ∧ st = .int x :: .ref a :: r ∧ o = .inl (pc + 3, ls, r, q_sI h a lk.2.2.1 x)) ∨ (∃ x, lk.2.2.2.1 = 1 ∧ st = .long x :: .ref a :: r ∧ o = .inl (pc + 3, ls, r, q_sL h a lk.2.2.1 x)) ∨ (∃ x, lk.2.2.2.1 = 2 ∧ st = va_rf x :: .ref a :: r ∧ o = .inl (pc + 3, ls, r, q_sR h a lk.2.2.1 x)))
  | .getstatic _ => len = 3 ∧ ((lk.2.2.2.1 = 0 ∧ o = .inl (pc + 3, ls, .ref lk.2.1 :: st, h)) ∨ (lk.2.2.2.1 = 1 ∧ o = .inl (pc + 3, ls, .int 1 :: st, h)) ∨ (lk.2.2.2.1 = 2 ∧ o = .inl (pc + 3, ls, .retAddr 7 :: st, h)))
  | .new _ => len = 3 ∧ kd h.1 = lk.2.1 ∧ o = .inl (pc + 3, ls, .ref h.1 :: st, q_nO h lk.2.2.1)
  | .newarray t => len = 2 ∧ ∃ x r, st = .int x :: r ∧ ¬ x < 0 ∧ x.toNatClampNeg ≤ 65536 ∧ ((t = .int ∧ kd h.1 = 20) ∨ (t = .byte ∧ kd h.1 = 21) ∨ (t = .boolean ∧ kd h.1 = 22) ∨ (t = .long ∧ kd h.1 = 23)) ∧ o = .inl (pc + 2, ls, .ref h.1 :: r, q_nA h x.toNatClampNeg (fun _ => 0))
  | .anewarray _ => len = 3 ∧ ∃ x r, st = .int x :: r ∧ ¬ x < 0 ∧ x.toNatClampNeg ≤ 65536 ∧ kd h.1 = 24 ∧ o = .inl (pc + 3, ls, .ref h.1 :: r, q_nA h x.toNatClampNeg (fun _ => 0))
  | .checkcast _ => len = 3 ∧ ∃ a r, st = .ref a :: r ∧ kd a = 20 ∧ 6 ≤ a ∧ a < h.1 ∧ o = .inl (pc + 3, ls, .ref a :: r, h)
  | .invokespecial _ => len = 3 ∧ ((lk.2.2.2.1 = 9 ∧ ∃ a r, st = .ref a :: r ∧ q_W8 r ∧ o = .inl (pc + 3, ls, r, h))
      ∨ (lk.2.2.2.1 = 1 ∧ ∃ a as rs, st = (.ref a :: as).reverse ++ rs ∧ as.length + 1 = lk.2.2.1 ∧ q_W8 rs ∧ o = .inr (.inr (lk.2.1, .ref a :: as, rs))))
  | .invokestatic _ => len = 3 ∧ ((lk.2.2.2.1 = 8 ∧ ∃ a b sp dp n r, st = .int n :: .int dp :: .ref b :: .int sp :: .ref a :: r ∧ q_W8 r ∧ kd a = 20 ∧ kd b = 20 ∧ 6 ≤ a ∧ a < h.1 ∧ 6 ≤ b ∧ b < h.1 ∧ ¬ sp < 0 ∧ ¬ dp < 0 ∧ ¬ n < 0 ∧ sp.toNatClampNeg + n.toNatClampNeg ≤ h.2.2.1 a ∧ dp.toNatClampNeg + n.toNatClampNeg ≤ h.2.2.1 b
        ∧ o = .inl (pc + 3, ls, r, q_sA h b (va_cpy (h.2.2.2.1 a) (h.2.2.2.1 b) sp.toNatClampNeg dp.toNatClampNeg n.toNatClampNeg)))
      ∨ (lk.2.2.2.1 = 10 ∧ ∃ x y r, st = .int y :: .int x :: r ∧ q_W8 r ∧ o = .inl (pc + 3, ls, .int (if x < y then y else x) :: r, h))
      ∨ (lk.2.2.2.1 = 11 ∧ ∃ x y r, st = .int y :: .int x :: r ∧ q_W8 r ∧ o = .inl (pc + 3, ls, .int (if y < x then y else x) :: r, h))
      ∨ (lk.2.2.2.1 = 12 ∧ ∃ x r, st = .int x :: r ∧ q_W8 r ∧ o = .inl (pc + 3, ls, .int (if 0 ≤ x then x else 0 - x) :: r, h))
      ∨ (lk.2.2.2.1 = 2 ∧ ∃ as rs, st = as.reverse ++ rs ∧ as.length = lk.2.2.1 ∧ q_W8 rs ∧ o = .inr (.inr (lk.2.1, as, rs))))
  | .invokevirtual _ => len = 3 ∧ ((lk.2.2.2.1 = 7 ∧ ∃ a r, st = .ref a :: r ∧ q_W8 r ∧ kd a = 20 ∧ 6 ≤ a ∧ a < h.1 ∧ h.2.2.1 a ≤ 65536 ∧ kd h.1 = 20 ∧ o = .inl (pc + 3, ls, .ref h.1 :: r, q_nA h (h.2.2.1 a) (h.2.2.2.1 a)))
      ∨ (lk.2.2.2.1 = 0 ∧ ∃ a as rs, st = (.ref a :: as).reverse ++ rs ∧ as.length + 1 = lk.2.2.1 ∧ q_W8 rs ∧ a < h.1 ∧ (kd a : Int) = lk.2.2.2.2 ∧ (a = 4 ∨ 6 ≤ a) ∧ o = .inr (.inr (lk.2.1, .ref a :: as, rs))))
  | .ireturn => len = 1 ∧ ∃ x, st = [.int x] ∧ (∃ ty, q_rt i = some ty ∧ narrow ty (.int x) = .int x) ∧ o = .inr (.inl (some (.int x)))
  | .lreturn => len = 1 ∧ ∃ x, st = [.long x] ∧ q_rt i = some .long ∧ o = .inr (.inl (some (.long x)))
  | .areturn => len = 1 ∧ ∃ v, st = [v] ∧ q_isR v ∧ o = .inr (.inl (some v))
  | .return_ => len = 1 ∧ st = [] ∧ q_rt i = none ∧ o = .inr (.inl none)
  | _ => False
/-- a run of method i from pc, at most d calls deep, to its answer r and the heap h' -/
def q_X (kd : Nat → Nat) : Nat → Nat → Nat → Nat → List Value → List Value → q_H → Option Value → q_H → Prop
  | 0, _, _, _, _, _, _, _, _ => False
  | n + 1, d, i, pc, ls, st, h, r, h' => ∃ ins len lk o, q_ins i pc = some (ins, len, lk) ∧ q_sr kd i pc ins len lk ls st h o ∧
      match o with
      | .inl (pc2, ls2, st2, h2) => h.1 ≤ h2.1 ∧ h.2.1 ≤ h2.2.1 ∧ q_X kd n d i pc2 ls2 st2 h2 r h'
      | .inr (.inl v) => v = r ∧ h = h'
      | .inr (.inr (y, as, rs)) => ∃ d2 r1 h1, d = d2 + 1 ∧ (q_fl2 as).length ≤ q_mx y ∧ q_X kd n d2 y 0 (q_ent as (q_mx y)) [] h r1 h1 ∧ q_X kd n d i (pc + 3) ls (r1.toList ++ rs) h1 r h'
/-- it comes to an end, where Q holds -/
def q_EX (kd : Nat → Nat) (d i pc : Nat) (ls st : List Value) (h : q_H) (Q : Option Value → q_H → Prop) : Prop := ∃ n r h', q_X kd n d i pc ls st h r h' ∧ Q r h'
theorem q_X_up (kd : Nat → Nat) : ∀ n d i pc ls st h r h', q_X kd n d i pc ls st h r h' → q_X kd (n + 1) d i pc ls st h r h' := by
  intro n
  induction n with
  | zero => intro d i pc ls st h r h' q; exact q.elim
  | succ n ih =>
    intro d i pc ls st h r h' q
    obtain ⟨ins, len, lk, o, h1, h2, h3⟩ := q
    refine ⟨ins, len, lk, o, h1, h2, ?_⟩
    match o, h3 with
    | .inl (pc2, ls2, st2, h2), h3 => exact ⟨h3.1, h3.2.1, ih _ _ _ _ _ _ _ _ h3.2.2⟩
    | .inr (.inl v), h3 => exact h3
    | .inr (.inr (y, as, rs)), h3 =>
      obtain ⟨d2, r1, hh1, e, hl, q1, q2⟩ := h3
      exact ⟨d2, r1, hh1, e, hl, ih _ _ _ _ _ _ _ _ q1, ih _ _ _ _ _ _ _ _ q2⟩
theorem q_X_le (kd : Nat → Nat) {n m d i pc : Nat} {ls st : List Value} {h h' : q_H} {r : Option Value} (hnm : n ≤ m) (q : q_X kd n d i pc ls st h r h') : q_X kd m d i pc ls st h r h' := by
  induction hnm with
  | refl => exact q
  | step _ ih => exact q_X_up kd _ _ _ _ _ _ _ _ _ ih
/-- more depth does no harm -/
theorem q_X_dp (kd : Nat → Nat) : ∀ n d i pc ls st h r h', q_X kd n d i pc ls st h r h' → ∀ d', d ≤ d' → q_X kd n d' i pc ls st h r h' := by
  intro n
  induction n with
  | zero => intro d i pc ls st h r h' q; exact q.elim
  | succ n ih =>
    intro d i pc ls st h r h' q d' hd
    obtain ⟨ins, len, lk, o, h1, h2, h3⟩ := q
    refine ⟨ins, len, lk, o, h1, h2, ?_⟩
    match o, h3 with
    | .inl (pc2, ls2, st2, h2), h3 => exact ⟨h3.1, h3.2.1, ih _ _ _ _ _ _ _ _ h3.2.2 _ hd⟩
    | .inr (.inl v), h3 => exact h3
    | .inr (.inr (y, as, rs)), h3 =>
      obtain ⟨d2, r1, hh1, e, hl, q1, q2⟩ := h3
      exact ⟨d' - 1, r1, hh1, by omega, hl, ih _ _ _ _ _ _ _ _ q1 _ (by omega), ih _ _ _ _ _ _ _ _ q2 _ hd⟩
theorem q_EX.dp {kd : Nat → Nat} {d d' i pc : Nat} {ls st : List Value} {h : q_H} {Q : Option Value → q_H → Prop} (q : q_EX kd d i pc ls st h Q) (hd : d ≤ d') : q_EX kd d' i pc ls st h Q := by
  obtain ⟨n, r, h', q1, q2⟩ := q
  exact ⟨n, r, h', q_X_dp kd n _ _ _ _ _ _ _ _ q1 _ hd, q2⟩
theorem q_EX.imp {kd : Nat → Nat} {d i pc : Nat} {ls st : List Value} {h : q_H} {Q Q' : Option Value → q_H → Prop} (q : q_EX kd d i pc ls st h Q) (hq : ∀ r h', Q r h' → Q' r h') : q_EX kd d i pc ls st h Q' := by
  obtain ⟨n, r, h', q1, q2⟩ := q
  exact ⟨n, r, h', q1, hq _ _ q2⟩
theorem x_step {kd : Nat → Nat} {d i pc len : Nat} {ls st : List Value} {h : q_H} {Q : Option Value → q_H → Prop} {ins : Instr} {lk : q_LK} {pc2 : Nat} {ls2 st2 : List Value} {h2 : q_H} (hi : q_ins i pc = some (ins, len, lk)) (hs : q_sr kd i pc ins len lk ls st h (.inl (pc2, ls2, st2, h2))) (g1 : h.1 ≤ h2.1) (g2 : h.2.1 ≤ h2.2.1) (k : q_EX kd d i pc2 ls2 st2 h2 Q) : q_EX kd d i pc ls st h Q := by
  obtain ⟨n, r, h', q1, q2⟩ := k
  exact ⟨n + 1, r, h', ⟨ins, len, lk, _, hi, hs, g1, g2, q1⟩, q2⟩
theorem x_end {kd : Nat → Nat} {d i pc len : Nat} {ls st : List Value} {h : q_H} {Q : Option Value → q_H → Prop} {ins : Instr} {lk : q_LK} {v : Option Value} (hi : q_ins i pc = some (ins, len, lk)) (hs : q_sr kd i pc ins len lk ls st h (.inr (.inl v))) (k : Q v h) : q_EX kd d i pc ls st h Q :=
  ⟨1, v, h, ⟨ins, len, lk, _, hi, hs, rfl, rfl⟩, k⟩
theorem x_call {kd : Nat → Nat} {d i pc len : Nat} {ls st : List Value} {h : q_H} {Q : Option Value → q_H → Prop} {ins : Instr} {lk : q_LK} {y : Nat} {as rs : List Value} (hi : q_ins i pc = some (ins, len, lk)) (hs : q_sr kd i pc ins len lk ls st h (.inr (.inr (y, as, rs)))) (hl : (q_fl2 as).length ≤ q_mx y)
    (k : q_EX kd d y 0 (q_ent as (q_mx y)) [] h (fun r1 h1 => q_EX kd (d + 1) i (pc + 3) ls (r1.toList ++ rs) h1 Q)) : q_EX kd (d + 1) i pc ls st h Q := by
  obtain ⟨n, r1, h1, q1, n2, r, h', q2, q3⟩ := k
  exact ⟨max n n2 + 1, r, h', ⟨ins, len, lk, _, hi, hs, d, r1, h1, rfl, hl, q_X_le kd (Nat.le_max_left _ _) q1, q_X_le kd (Nat.le_max_right _ _) q2⟩, q3⟩
