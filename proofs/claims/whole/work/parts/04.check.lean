/-! the tables of the small machine, checked against the machine's -/
def q_flw (e : String × Nat × Nat × Nat × Bool × Nat) : Cond := if e.2.2.2.2.1 then .fieldLinkNest e.1 e.2.1 (q_T e.2.2.1 e.2.2.2.1).1 (q_T e.2.2.1 e.2.2.2.1).2.1 (q_T e.2.2.1 e.2.2.2.1).2.2.1 "SilentHouse" else .fieldLink e.1 e.2.1 (q_T e.2.2.1 e.2.2.2.1).1 (q_T e.2.2.1 e.2.2.2.1).2.1 (q_T e.2.2.1 e.2.2.2.1).2.2.1
theorem q_fl_ok : (q_fl.all fun e => decide (lw_tbl[e.2.2.2.2.2]? = some (q_flw e)) && (decide (e.2.2.1 < 11) && decide (e.2.2.2.1 < q_nf e.2.2.1))) = true := by decide +kernel
def q_sfw (e : String × Nat × String × String × String × Bool × Nat) : Cond := if e.2.2.2.2.2.1 then .fieldLinkNest e.1 e.2.1 e.2.2.1 e.2.2.2.1 e.2.2.2.2.1 "SilentHouse" else .fieldLink e.1 e.2.1 e.2.2.1 e.2.2.2.1 e.2.2.2.2.1
theorem q_sf_ok : (q_sf.all fun e => decide (lw_tbl[e.2.2.2.2.2.2]? = some (q_sfw e))) = true := by decide +kernel
def q_mlw (e : String × Nat × Nat × Nat × Bool × Nat) : Cond := if e.2.2.2.2.1 then .methodLinkNest e.1 e.2.1 (q_mn e.2.2.1) "SilentHouse" else .methodLink e.1 e.2.1 (q_mn e.2.2.1)
theorem q_ml_ok : (q_ml.all fun e => decide (lw_tbl[e.2.2.2.2.2]? = some (q_mlw e)) && (decide (0 < e.2.2.1) && (decide (e.2.2.1 < 207) && decide ((e.2.2.2.1 = 1 → (q_mn e.2.2.1).name = "<init>") ∧ e.2.2.2.1 < 3)))) = true := by decide +kernel
def q_mP (y : Nat) : Nat × Nat × Nat × Nat := q_mp.getD y (0, 0, 0, 0)
/-- kinds of calls by the callee: 2 static, 0 virtual, 1 a constructor -/
def q_mk (y k : Nat) : Bool := decide (lw_tbl[(q_mP y).2.1]? = some (.initialized (q_mn y).cls)) && (decide (lw_tbl[(q_mP y).2.2.1]? = some (if k = 2 then .static (q_mn y) else .instanceMethod (q_mn y))) &&
  (decide (k = 0 → lw_tbl[(q_mP y).2.2.2]? = some (.selects (q_mn y).cls (q_mn y) (q_mn y))) && (decide (q_mx y ≤ 40) && (plainName (q_mn y).cls && decide ((q_mn y).cls ≠ "java/lang/invoke/MethodHandle" ∧ (q_mn y).cls ≠ "java/lang/invoke/VarHandle")))))
theorem q_mk_ok : (q_ml.all fun e => q_mk e.2.2.1 e.2.2.2.1) = true := by decide +kernel
def q_okM (i idx : Nat) (lk : q_LK) : Bool := match q_ml[lk.1]? with
  | some e => decide (e.1 = (q_mn i).cls ∧ e.2.1 = idx ∧ e.2.2.1 = lk.2.1 ∧ e.2.2.2.1 = lk.2.2.2.1) && decide ((parseMethodDescriptor (q_mn lk.2.1).desc).map (fun d => d.parameters.length) = some (lk.2.2.1 - (if lk.2.2.2.1 = 2 then 0 else 1)))
  | none => false
def q_okF (i idx : Nat) (lk : q_LK) : Bool := match q_fl[lk.1]? with
  | some e => decide (e.1 = (q_mn i).cls ∧ e.2.1 = idx ∧ e.2.2.1 = lk.2.1 ∧ e.2.2.2.1 = lk.2.2.1 ∧ lk.2.2.2.1 = q_ft lk.2.1 lk.2.2.1)
  | none => false
def q_okI (i : Nat) (ins : Instr) (lk : q_LK) : Bool := match ins with
  | .getfield idx => if lk.2.1 = 30 then decide ((lk.2.2.2.1 = 5 ∧ lw_tbl[lk.1]? = some (.fieldLink (q_mn i).cls idx "java/lang/String" "value" "[B")) ∨ (lk.2.2.2.1 = 6 ∧ lw_tbl[lk.1]? = some (.fieldLink (q_mn i).cls idx "java/lang/String" "coder" "B"))) else q_okF i idx lk
  | .putfield idx => q_okF i idx lk && decide ((q_T lk.2.1 lk.2.2.1).2.2.2 = false ∨ ((q_mn i).name = "<init>" ∧ (q_T lk.2.1 lk.2.2.1).1 = (q_mn i).cls ∧ (q_fl[lk.1]?.map fun e => e.2.2.2.2.1) = some false))
  | .getstatic idx => (match q_sf[lk.1]? with
    | some e => decide (e.1 = (q_mn i).cls ∧ e.2.1 = idx ∧ ((lk.2.2.2.1 = 0 ∧ lk.2.1 = 1 ∧ e.2.2.1 = "SilentHouse" ∧ e.2.2.2.1 = "NEAR_SEATS" ∧ e.2.2.2.2.1 = "[I") ∨ (lk.2.2.2.1 = 0 ∧ lk.2.1 = 2 ∧ e.2.2.1 = "SilentHouse" ∧ e.2.2.2.1 = "ORDERS" ∧ e.2.2.2.2.1 = "[I") ∨ (lk.2.2.2.1 = 0 ∧ lk.2.1 = 3 ∧ e.2.2.1 = "SilentHouse" ∧ e.2.2.2.1 = "NAMES_OF_LAW" ∧ e.2.2.2.2.1 = "[I")
        ∨ (lk.2.2.2.1 = 1 ∧ e.2.2.1 = "java/lang/String" ∧ e.2.2.2.1 = "COMPACT_STRINGS" ∧ e.2.2.2.2.1 = "Z") ∨ (lk.2.2.2.1 = 2 ∧ e.2.2.1 = "jdk/internal/util/Preconditions" ∧ e.2.2.2.1 = "SIOOBE_FORMATTER" ∧ e.2.2.2.2.1 = "Ljava/util/function/BiFunction;")))
    | none => false)
  | .new idx => decide (lw_tbl[lk.1]? = some (.classLink (q_mn i).cls idx (q_R lk.2.1)) ∧ lk.2.1 < 11 ∧ lk.2.2.1 = q_nf lk.2.1)
  | .anewarray idx => decide (lw_tbl[lk.1]? = some (.classLink (q_mn i).cls idx "SilentHouse$Script"))
  | .checkcast idx => decide (lw_tbl[lk.1]? = some (.classLink (q_mn i).cls idx "[I"))
  | .ldc idx => decide ((lk.2.2.2.1 = 0 ∧ lw_tbl[lk.1]? = some (.constant (q_mn i).cls idx (Int32.ofInt lk.2.2.2.2))) ∨ (lk.2.2.2.1 = 1 ∧ (q_mn i).cls = "SilentHouse$Tokens" ∧ idx = 62))
  | .ldc_w idx => decide (lw_tbl[lk.1]? = some (.constant (q_mn i).cls idx (Int32.ofInt lk.2.2.2.2)))
  | .ldc2_w idx => decide (lw_tbl[lk.1]? = some (.constantLong (q_mn i).cls idx (Int64.ofInt lk.2.2.2.2)))
  | .invokespecial idx => if lk.2.2.2.1 = 9 then decide (lw_tbl[lk.1]? = some (.methodLink (q_mn i).cls idx objectInit)) else q_okM i idx lk
  | .invokestatic idx => if lk.2.2.2.1 = 0 then true else if lk.2.2.2.1 = 8 then decide (lw_tbl[lk.1]? = some (.methodLink (q_mn i).cls idx arraycopyName)) else if lk.2.2.2.1 = 10 then decide (lw_tbl[lk.1]? = some (.methodLink (q_mn i).cls idx Lib.Math.max.name)) else if lk.2.2.2.1 = 11 then decide (lw_tbl[lk.1]? = some (.methodLink (q_mn i).cls idx Lib.Math.min.name)) else if lk.2.2.2.1 = 12 then decide (lw_tbl[lk.1]? = some (.methodLink (q_mn i).cls idx Lib.Math.abs.name)) else q_okM i idx lk
  | .invokevirtual idx => if lk.2.2.2.1 = 7 then decide (lw_tbl[lk.1]? = some (.methodLink (q_mn i).cls idx ⟨"[I", "clone", "()Ljava/lang/Object;"⟩)) else q_okM i idx lk && decide ((lk.2.2.2.2 = 30 ∧ (q_mn lk.2.1).cls = "java/lang/String") ∨ (lk.2.2.2.2 < 11 ∧ 0 ≤ lk.2.2.2.2 ∧ (q_mn lk.2.1).cls = q_R lk.2.2.2.2.toNat))
  | _ => true
def q_chR (i a b : Nat) : Bool := (((q_cs i).drop a).take b).zipIdx.all (fun e => match e.1 with
  | none => true
  | some x => decide (decode (q_cd i) (a + e.2) = .ok (x.1, x.2.1)) && q_okI i x.1 x.2.2)
