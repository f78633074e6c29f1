/-! ONE STEP -/
section QU
variable {p : Program} {l : Launch} {e : Env} {R : Room} {s : State} {m : MethodId} {args : Array Value} {below : List Frame} {meth : Method} {c : Code} {Q : State → Prop} {G : q_G} {n0 s0 i : Nat}
theorem q_flE {idx : Nat} {lk : q_LK} (hok : q_okF i idx lk = true) : lk.2.1 < 11 ∧ lk.2.2.1 < q_nf lk.2.1 ∧ lk.2.2.2.1 = q_ft lk.2.1 lk.2.2.1 ∧ ∃ nest place own, q_fl[lk.1]? = some (own, idx, lk.2.1, lk.2.2.1, nest, place) ∧ lw_tbl[place]? = some (if nest then .fieldLinkNest (q_mn i).cls idx (q_T lk.2.1 lk.2.2.1).1 (q_T lk.2.1 lk.2.2.1).2.1 (q_T lk.2.1 lk.2.2.1).2.2.1 "SilentHouse" else .fieldLink (q_mn i).cls idx (q_T lk.2.1 lk.2.2.1).1 (q_T lk.2.1 lk.2.2.1).2.1 (q_T lk.2.1 lk.2.2.1).2.2.1) := by
  unfold q_okF at hok
  cases he : q_fl[lk.1]? with
  | none => rw [he] at hok; cases hok
  | some x =>
    rw [he] at hok
    obtain ⟨own, ix, cc, jj, nest, place⟩ := x
    simp only [decide_eq_true_eq] at hok
    obtain ⟨e1, e2, e3, e4, e5⟩ := hok
    have ha := List.all_eq_true.mp q_fl_ok _ (List.mem_of_getElem? he)
    simp only [Bool.and_eq_true, decide_eq_true_eq] at ha
    obtain ⟨a1, a2, a3⟩ := ha
    subst e1 e2 e3 e4
    exact ⟨a2, a3, e5, nest, place, _, rfl, a1⟩
theorem q_getf (cx : q_Cx G i p s m meth c) {pc idx a : Nat} {lk : q_LK} {h : q_H} {H : Heap} {locs : List Loc} {cells slots : Nat} {Ls : Array Slot} {rest : List Value} (hR : q_Rp G h H) (h6 : 6 ≤ a) (ha : a < h.1) (hk : gKd G a = lk.2.1) (hok : q_okF i idx lk = true) (hd : decode (q_cd i) pc = .ok (.getfield idx, 3))
    (kk : W p l e R s m args below meth c H locs cells slots Q (F0 m (pc + 3) Ls (q_fv G h a (q_ft lk.2.1 lk.2.2.1) lk.2.2.1 :: rest))) : W p l e R s m args below meth c H locs cells slots Q (F0 m pc Ls (.ref (q_ad G a) :: rest)) := by
  obtain ⟨c11, cj, -, nest, place, own, -, hw⟩ := q_flE hok
  obtain ⟨cell, q1, q2, q3, q4⟩ := q_obj hR h6 ha (by omega)
  rw [hk] at q4
  obtain ⟨hS, hfc, kC, hkC, hkind⟩ := cx.2.2.2.2.2.1.2.1.1 _ _ (q_cl c11)
  obtain ⟨cf, kf, fi, f, hi, hsl⟩ := hS _ cj
  have hst := (u_facts hfc hkC (u_lays (q_hts cx c11 args) (fun _ h => h) cj) hi).1
  cases nest with
  | false => exact W.getf cx.1 cx.2.1 cx.2.2.2.1 (q_wp cx hw rfl args) hi hst q1 (by rw [q3]; exact fun h => by cases h) (by rw [hsl]; exact q4 _ cj) rfl rfl hd kk
  | true => exact va_Wgetf cx.1 cx.2.1 cx.2.2.2.1 (q_wp cx hw rfl args) hi hst q1 (by rw [q3]; exact fun h => by cases h) (by rw [hsl]; exact q4 _ cj) rfl rfl hd kk
theorem q_putf (cx : q_Cx G i p s m meth c) {pc idx a : Nat} {lk : q_LK} {h h' : q_H} {H : Heap} {locs : List Loc} {cells slots : Nat} {Ls : Array Slot} {rest : List Value} {v : Value} (hR : q_Rp G h H) (h6 : 6 ≤ a) (ha : a < h.1) (hk : gKd G a = lk.2.1) (hok : q_okI i (.putfield idx) lk = true) (hd : decode (q_cd i) pc = .ok (.putfield idx, 3)) (hn : narrow (q_tyc lk.2.1 lk.2.2.1) v = v) (hfit : fits (q_tyc lk.2.1 lk.2.2.1) v = true)
    (e1 : h'.1 = h.1) (ho : ∀ k, k ≠ a → h'.2.2.1 k = h.2.2.1 k ∧ h'.2.2.2.1 k = h.2.2.2.1 k ∧ h'.2.2.2.2.1 k = h.2.2.2.2.1 k ∧ h'.2.2.2.2.2 k = h.2.2.2.2.2 k) (hv : ∀ j, updV (fun j => q_fv G h a (q_ft lk.2.1 j) j) lk.2.2.1 v j = q_fv G h' a (q_ft lk.2.1 j) j)
    (kk : ∀ (H' : Heap) (locs' : List Loc), q_Rp G h' H' → (∀ x ∈ locs', x ∈ locs ∨ gB G ≤ x.base) → W p l e R s m args below meth c H' locs' cells slots Q (F0 m (pc + 3) Ls rest)) : W p l e R s m args below meth c H locs cells slots Q (F0 m pc Ls (v :: .ref (q_ad G a) :: rest)) := by
  have hok2 : q_okF i idx lk = true ∧ ((q_T lk.2.1 lk.2.2.1).2.2.2 = false ∨ ((q_mn i).name = "<init>" ∧ (q_T lk.2.1 lk.2.2.1).1 = (q_mn i).cls ∧ (q_fl[lk.1]?.map fun e => e.2.2.2.2.1) = some false)) := by
    have := hok
    simp only [q_okI, Bool.and_eq_true, decide_eq_true_eq] at this
    exact this
  obtain ⟨hok, hfin⟩ := hok2
  obtain ⟨c11, cj, -, nest, place, own, hfl, hw⟩ := q_flE hok
  obtain ⟨cell, q1, q2, q3, q4⟩ := q_obj hR h6 ha (by omega)
  rw [hk] at q4 q2
  have hht := q_hts cx c11 args
  have hK := cx.2.2.2.2.2.1.2.1
  have hap := va_apart (own := (q_mn i).cls) hht (fun _ h => h) (q_tyc lk.2.1) (q_tyok c11) (q_nmc c11) hK (q_cl c11)
  obtain ⟨hS, hfc, kC, hkC, hkind⟩ := hK.1 _ _ (q_cl c11)
  obtain ⟨cf, kf, fi, f, hi, hsl⟩ := hS _ cj
  have hst := (u_facts hfc hkC (u_lays hht (fun _ h => h) cj) hi).1
  have hlay := hht _ (u_in_lay cj)
  unfold u_lay at hlay
  have go : ∀ H' : Heap, H'[q_ad G a]? = some (cell.setSlot f.slot v) → H'.size = H.size → (∀ q, q ≠ q_ad G a → H'[q]? = H[q]?) → q_Rp G h' H' := by
    intro H' g1 g2 g3
    rw [hsl] at g1
    refine hR.put h6 ha g2 g3 e1 ho (Or.inl ⟨by omega, ?_⟩)
    rw [hk]
    exact t_OB.to (V := updV (fun j => q_fv G h a (q_ft lk.2.1 j) j) lk.2.2.1 v) ⟨_, g1, q2, q3, t_set q4 hap cj v⟩ (fun j _ => hv j)
  have lo : ∀ x ∈ locs ++ [(⟨q_ad G a, f.slot⟩ : Loc)], x ∈ locs ∨ gB G ≤ x.base := by
    intro x hx
    rcases List.mem_append.mp hx with h | h
    · exact Or.inl h
    · refine Or.inr ?_
      rw [List.mem_singleton.mp h]
      show gB G ≤ q_ad G a
      rw [q_adE G h6]
      omega
  by_cases hf : (q_T lk.2.1 lk.2.2.1).2.2.2 = true
  · rcases hfin with hfin | ⟨hin, hdecl, hnest⟩
    · rw [hf] at hfin; cases hfin
    · rw [if_pos hf] at hlay
      have en : nest = false := by
        rw [hfl] at hnest
        exact Option.some.inj hnest
      subst en
      have hcf : m.cls = cf := by
        obtain ⟨_, _, c', _, _, _, -, -, hf', -, -, -, hown2, -⟩ := Cond.laysFinal_spec hlay
        have e1 : c' = cf := by have := hi.symm.trans hf'; simp at this; exact this.1.symm
        rw [hdecl] at hown2
        rw [← e1]; exact Option.some.inj (cx.2.2.2.1.symm.trans hown2)
      have h6' := u_fits hfc hkC hkind (Or.inr hlay) hi (q_tyok c11 _ cj) hn hfit
      exact W.putFinK cx.1 cx.2.1 cx.2.2.2.1 (q_wp cx hw rfl args) hi hst hcf (by
        have h0 : 0 < i := by
          rcases Nat.eq_zero_or_pos i with e | e
          · subst e
            exact absurd hin (by decide)
          · exact e
        rw [cx.2.2.2.2.1 h0]
        exact hin) (by rw [q2]; exact h6') q1 q3 (by rw [hsl]; exact k2_hasslot (q4 _ cj)) rfl rfl hd (fun H' g1 g2 g3 => kk H' _ (go H' g1 g2 g3) lo)
  · rw [if_neg hf] at hlay
    have h6' := u_store hfc hkC hkind hlay hi (q_tyok c11 _ cj) hn hfit
    cases nest with
    | false => exact W.putK cx.1 cx.2.1 (f := f) ⟨cx.2.2.2.1, q_wp cx hw rfl args, ⟨_, _, _, hi⟩, hst⟩ (by rw [q2]; exact h6') q1 q3 (by rw [hsl]; exact k2_hasslot (q4 _ cj)) rfl rfl hd (fun H' g1 g2 g3 => kk H' _ (go H' g1 g2 g3) lo)
    | true => exact va_WputK cx.1 cx.2.1 (f := f) cx.2.2.2.1 (q_wp cx hw rfl args) hi hst (by rw [q2]; exact h6') q1 q3 (by rw [hsl]; exact k2_hasslot (q4 _ cj)) rfl rfl hd (fun H' g1 g2 g3 => kk H' _ (go H' g1 g2 g3) lo)
/-- a static field, its holder in what was there -/
theorem q_gets (cx : q_Cx G i p s m meth c) {pc idx : Nat} {C n d : String} {v : Value} {nest : Bool} {place : Nat} {h : q_H} {H : Heap} {locs : List Loc} {cells slots : Nat} {Ls : Array Slot} {rest : List Value} (hR : q_Rp G h H) (hZ : va_Z C n d v (fun q => gB G ≤ q) s (gHs G)) (hw : lw_tbl[place]? = some (if nest then .fieldLinkNest (q_mn i).cls idx C n d "SilentHouse" else .fieldLink (q_mn i).cls idx C n d)) (hd : decode (q_cd i) pc = .ok (.getstatic idx, 3))
    (kk : W p l e R s m args below meth c H locs cells slots Q (F0 m (pc + 3) Ls (v :: rest))) : W p l e R s m args below meth c H locs cells slots Q (F0 m pc Ls rest) := by
  obtain ⟨cf, kf, fi, f, a, cell, h1, h2, h3, h4, h5, h6, h7, h8⟩ := hZ
  have hc : H[a]? = some cell := by rw [hR.2.2.1 a (Nat.not_le.mp h8)]; exact h5
  cases nest with
  | false => exact W.gets cx.1 cx.2.1 cx.2.2.2.1 (q_wp cx hw rfl args) h1 h2 h3 h4 hc (fun e => by rw [e] at h6; cases h6) h7 rfl hd kk
  | true => exact va_WgetsN cx.1 cx.2.1 cx.2.2.2.1 (q_wp cx hw rfl args) h1 h2 h3 h4 hc (fun e => by rw [e] at h6; cases h6) h7 rfl hd kk
theorem q_getS (cx : q_Cx G i p s m meth c) {pc idx place : Nat} {n d : String} {v : Value} {h : q_H} {H : Heap} {locs : List Loc} {cells slots : Nat} {Ls : Array Slot} {rest : List Value} (hR : q_Rp G h H) (hZ : va_OF "java/lang/String" n d v (gEx G 4) (fun q => gB G ≤ q) s (gHs G)) (hw : lw_tbl[place]? = some (.fieldLink (q_mn i).cls idx "java/lang/String" n d)) (hd : decode (q_cd i) pc = .ok (.getfield idx, 3))
    (kk : W p l e R s m args below meth c H locs cells slots Q (F0 m (pc + 3) Ls (v :: rest))) : W p l e R s m args below meth c H locs cells slots Q (F0 m pc Ls (.ref (gEx G 4) :: rest)) := by
  obtain ⟨cf, k, fi, f, cell, h1, h2, h3, h4, h5, h6⟩ := hZ
  exact W.getf cx.1 cx.2.1 cx.2.2.2.1 (q_wp cx hw rfl args) h1 h2 (by rw [hR.2.2.1 _ (Nat.not_le.mp h6)]; exact h3) h4 h5 rfl rfl hd kk
end QU
