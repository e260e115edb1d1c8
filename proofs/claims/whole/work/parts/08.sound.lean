/-! each instruction of the abstract machine is right -/
theorem e_refc {g : e_G} (h : ∀ k, e_refv (g.2.1 k)) : ∀ k, (g.2.1 k).category = 1 := fun k => e_refv_cat (h k)
/-- an instruction that touches the stack alone -/
theorem e_pure {k pc pc' : Nat} {loc : List (Option Value)} {st st' : List Value} {h : e_H} {bc bs : Nat} {Q : e_O → e_H → Prop}
    (row : ∀ (p : Program) (l : Launch) (e : Env) (R : Room) (s : State) (m : MethodId) (args : Array Value) (below : List Frame) (meth : Method) (c : Code) (g : e_G) (H : Heap) (locs : List Loc) (cells slots : Nat) (ls : Array Slot) (Qs : State → Prop),
      p.tables.exec = Jvm.exec → c.code = e_mb k → (∀ k, e_refv (g.2.1 k)) → s.vm.findClass (e_nm k).cls = some m.cls → (∀ w ∈ e_tb, w.before args s = true) → W p l e R s m args below meth c H locs cells slots Qs (F0 m pc' ls (st'.map (e_rel g))) → W p l e R s m args below meth c H locs cells slots Qs (F0 m pc ls (st.map (e_rel g))))
    (H : e_Wp k pc' loc st' h bc bs Q) : e_Wp k pc loc st h bc bs Q := by
  intro p l e R s m args below meth c g A Hp locs cells slots mc ms ls Qc XC C hw hS hl hn hcb hsb hk
  exact row p l e R s m args below meth c g Hp locs cells slots ls _ C.1 C.2.1 C.2.2.2.2.2.2.2.2.2.2.2.2.2.2.2.2.1 C.2.2.2.1 C.2.2.2.2.1 (H p l e R s m args below meth c g A Hp locs cells slots mc ms ls Qc XC C hw hS hl hn hcb hsb hk)
/-- a branch on the stack's top -/
theorem e_two {k pc pt pf : Nat} {loc : List (Option Value)} {st st' : List Value} {h : e_H} {bc bs : Nat} {Q : e_O → e_H → Prop} {cnd : Prop}
    (row : ∀ (p : Program) (l : Launch) (e : Env) (R : Room) (s : State) (m : MethodId) (args : Array Value) (below : List Frame) (meth : Method) (c : Code) (g : e_G) (H : Heap) (locs : List Loc) (cells slots : Nat) (ls : Array Slot) (Qs : State → Prop),
      p.tables.exec = Jvm.exec → c.code = e_mb k → (cnd → W p l e R s m args below meth c H locs cells slots Qs (F0 m pt ls (st'.map (e_rel g)))) → (¬ cnd → W p l e R s m args below meth c H locs cells slots Qs (F0 m pf ls (st'.map (e_rel g)))) → W p l e R s m args below meth c H locs cells slots Qs (F0 m pc ls (st.map (e_rel g))))
    (H : (cnd → e_Wp k pt loc st' h bc bs Q) ∧ (¬ cnd → e_Wp k pf loc st' h bc bs Q)) : e_Wp k pc loc st h bc bs Q := by
  intro p l e R s m args below meth c g A Hp locs cells slots mc ms ls Qc XC C hw hS hl hn hcb hsb hk
  exact row p l e R s m args below meth c g Hp locs cells slots ls _ C.1 C.2.1 (fun hc => H.1 hc p l e R s m args below meth c g A Hp locs cells slots mc ms ls Qc XC C hw hS hl hn hcb hsb hk) (fun hc => H.2 hc p l e R s m args below meth c g A Hp locs cells slots mc ms ls Qc XC C hw hS hl hn hcb hsb hk)
/-- a load of a local -/
theorem e_loadv {k pc pc' i : Nat} {loc : List (Option Value)} {st : List Value} {v : Value} {h : e_H} {bc bs : Nat} {Q : e_O → e_H → Prop} (hv : loc[i]? = some (some v))
    (row : ∀ (p : Program) (l : Launch) (e : Env) (R : Room) (s : State) (m : MethodId) (args : Array Value) (below : List Frame) (meth : Method) (c : Code) (g : e_G) (H : Heap) (locs : List Loc) (cells slots : Nat) (ls : Array Slot) (Qs : State → Prop),
      p.tables.exec = Jvm.exec → c.code = e_mb k → (∀ k, e_refv (g.2.1 k)) → ls[i]? = some (.val (e_rel g v)) → W p l e R s m args below meth c H locs cells slots Qs (F0 m pc' ls (e_rel g v :: st.map (e_rel g))) → W p l e R s m args below meth c H locs cells slots Qs (F0 m pc ls (st.map (e_rel g))))
    (H : e_Wp k pc' loc (v :: st) h bc bs Q) : e_Wp k pc loc st h bc bs Q := by
  intro p l e R s m args below meth c g A Hp locs cells slots mc ms ls Qc XC C hw hS hl hn hcb hsb hk
  exact row p l e R s m args below meth c g Hp locs cells slots ls _ C.1 C.2.1 C.2.2.2.2.2.2.2.2.2.2.2.2.2.2.2.2.1 (e_lget hl hv) (H p l e R s m args below meth c g A Hp locs cells slots mc ms ls Qc XC C hw hS hl hn hcb hsb hk)
/-- a store of one slot -/
theorem e_store1 {k pc pc' i : Nat} {loc : List (Option Value)} {st : List Value} {v : Value} {h : e_H} {bc bs : Nat} {Q : e_O → e_H → Prop} (hi : Nat.ble (i + 1) loc.length = true)
    (row : ∀ (p : Program) (l : Launch) (e : Env) (R : Room) (s : State) (m : MethodId) (args : Array Value) (below : List Frame) (meth : Method) (c : Code) (g : e_G) (H : Heap) (locs : List Loc) (cells slots : Nat) (ls : Array Slot) (Qs : State → Prop) (lv : List (Nat × Value)),
      p.tables.exec = Jvm.exec → c.code = e_mb k → (∀ k, e_refv (g.2.1 k)) → lv_has ls (e_ml k) lv → i < e_ml k → (∀ ls' : Array Slot, lv_has ls' (e_ml k) ((i, e_rel g v) :: lv.filter (fun q => !(q.1 == i) && !(q.1 + 1 == i && q.2.category == 2))) → W p l e R s m args below meth c H locs cells slots Qs (F0 m pc' ls' (st.map (e_rel g)))) → W p l e R s m args below meth c H locs cells slots Qs (F0 m pc ls (e_rel g v :: st.map (e_rel g))))
    (H : e_Wp k pc' (e_set1 loc i v) st h bc bs Q) : e_Wp k pc loc (v :: st) h bc bs Q := by
  intro p l e R s m args below meth c g A Hp locs cells slots mc ms ls Qc XC C hw hS hl hn hcb hsb hk
  have hx := C.2.2.2.2.2.2.2.2.2.2.2.2.2.2.2.2.1
  refine row p l e R s m args below meth c g Hp locs cells slots ls _ (e_as g loc) C.1 C.2.1 hx hl ?_ (fun ls' hl' => ?_)
  · have := Nat.le_of_ble_eq_true hi
    omega
  · exact H p l e R s m args below meth c g A Hp locs cells slots mc ms ls' Qc XC C hw hS (e_lmono hl' (e_set1_sub (e_refc hx))) ((e_set1_len _ _ _).trans hn) hcb hsb hk
theorem e_store2 {k pc pc' i : Nat} {loc : List (Option Value)} {st : List Value} {v : Value} {h : e_H} {bc bs : Nat} {Q : e_O → e_H → Prop} (hi : Nat.ble (i + 2) loc.length = true)
    (row : ∀ (p : Program) (l : Launch) (e : Env) (R : Room) (s : State) (m : MethodId) (args : Array Value) (below : List Frame) (meth : Method) (c : Code) (g : e_G) (H : Heap) (locs : List Loc) (cells slots : Nat) (ls : Array Slot) (Qs : State → Prop) (lv : List (Nat × Value)),
      p.tables.exec = Jvm.exec → c.code = e_mb k → lv_has ls (e_ml k) lv → i + 1 < e_ml k → (∀ ls' : Array Slot, lv_has ls' (e_ml k) ((i, e_rel g v) :: lv.filter (fun q => !(q.1 == i) && (!(q.1 == i + 1) && !(q.1 + 1 == i && q.2.category == 2)))) → W p l e R s m args below meth c H locs cells slots Qs (F0 m pc' ls' (st.map (e_rel g)))) → W p l e R s m args below meth c H locs cells slots Qs (F0 m pc ls (e_rel g v :: st.map (e_rel g))))
    (H : e_Wp k pc' (e_set2 loc i v) st h bc bs Q) : e_Wp k pc loc (v :: st) h bc bs Q := by
  intro p l e R s m args below meth c g A Hp locs cells slots mc ms ls Qc XC C hw hS hl hn hcb hsb hk
  have hx := C.2.2.2.2.2.2.2.2.2.2.2.2.2.2.2.2.1
  have hi2 := Nat.le_of_ble_eq_true hi
  refine row p l e R s m args below meth c g Hp locs cells slots ls _ (e_as g loc) C.1 C.2.1 hl (by omega) (fun ls' hl' => ?_)
  exact H p l e R s m args below meth c g A Hp locs cells slots mc ms ls' Qc XC C hw hS (e_lmono hl' (e_set2_sub (e_refc hx) (by omega))) ((e_set2_len _ _ _).trans hn) hcb hsb hk
theorem e_s_null {k pc len : Nat} {v : Value} {ns : List Nat} {ps : List (Nat × Nat)} {loc : List (Option Value)} {st : List Value} {h : e_H} {bc bs : Nat} {K : Nat → List (Option Value) → List Value → e_H → Nat → Nat → Prop} {Q : e_O → e_H → Prop}  (hd : decode (e_mb k) pc = .ok (.aconst_null, 1))  (hK : ∀ pc loc st h bc bs, K pc loc st h bc bs → e_Wp k pc loc st h bc bs Q)
    (H : e_stp loc st h bc bs K Q (e_rt k) (pc, .aconst_null, len, v, ns, ps)) : e_Wp k pc loc st h bc bs Q := by
  exact e_pure (fun p l e R s m args below meth c g Hp locs cells slots ls Qs hx hb hr ho ht kk => lv_null hx hb hd kk) (hK _ _ _ _ _ _ H)
theorem e_s_iconst {k pc len : Nat} {v : Value} {ns : List Nat} {ps : List (Nat × Nat)} {loc : List (Option Value)} {st : List Value} {h : e_H} {bc bs : Nat} {K : Nat → List (Option Value) → List Value → e_H → Nat → Nat → Prop} {Q : e_O → e_H → Prop} {n : Int} (hd : decode (e_mb k) pc = .ok (.iconst n, 1))  (hK : ∀ pc loc st h bc bs, K pc loc st h bc bs → e_Wp k pc loc st h bc bs Q)
    (H : e_stp loc st h bc bs K Q (e_rt k) (pc, .iconst n, len, v, ns, ps)) : e_Wp k pc loc st h bc bs Q := by
  exact e_pure (fun p l e R s m args below meth c g Hp locs cells slots ls Qs hx hb hr ho ht kk => lv_iconst hx hb hd rfl kk) (hK _ _ _ _ _ _ H)
theorem e_s_bipush {k pc len : Nat} {v : Value} {ns : List Nat} {ps : List (Nat × Nat)} {loc : List (Option Value)} {st : List Value} {h : e_H} {bc bs : Nat} {K : Nat → List (Option Value) → List Value → e_H → Nat → Nat → Prop} {Q : e_O → e_H → Prop} {n : Int} (hd : decode (e_mb k) pc = .ok (.bipush n, 2))  (hK : ∀ pc loc st h bc bs, K pc loc st h bc bs → e_Wp k pc loc st h bc bs Q)
    (H : e_stp loc st h bc bs K Q (e_rt k) (pc, .bipush n, len, v, ns, ps)) : e_Wp k pc loc st h bc bs Q := by
  exact e_pure (fun p l e R s m args below meth c g Hp locs cells slots ls Qs hx hb hr ho ht kk => lv_bipush hx hb hd rfl kk) (hK _ _ _ _ _ _ H)
theorem e_s_sipush {k pc len : Nat} {v : Value} {ns : List Nat} {ps : List (Nat × Nat)} {loc : List (Option Value)} {st : List Value} {h : e_H} {bc bs : Nat} {K : Nat → List (Option Value) → List Value → e_H → Nat → Nat → Prop} {Q : e_O → e_H → Prop} {n : Int} (hd : decode (e_mb k) pc = .ok (.sipush n, 3))  (hK : ∀ pc loc st h bc bs, K pc loc st h bc bs → e_Wp k pc loc st h bc bs Q)
    (H : e_stp loc st h bc bs K Q (e_rt k) (pc, .sipush n, len, v, ns, ps)) : e_Wp k pc loc st h bc bs Q := by
  exact e_pure (fun p l e R s m args below meth c g Hp locs cells slots ls Qs hx hb hr ho ht kk => lv_sipush hx hb hd rfl kk) (hK _ _ _ _ _ _ H)
theorem e_s_lconst {k pc len : Nat} {v : Value} {ns : List Nat} {ps : List (Nat × Nat)} {loc : List (Option Value)} {st : List Value} {h : e_H} {bc bs : Nat} {K : Nat → List (Option Value) → List Value → e_H → Nat → Nat → Prop} {Q : e_O → e_H → Prop} {n : Fin 2} (hd : decode (e_mb k) pc = .ok (.lconst n, 1))  (hK : ∀ pc loc st h bc bs, K pc loc st h bc bs → e_Wp k pc loc st h bc bs Q)
    (H : e_stp loc st h bc bs K Q (e_rt k) (pc, .lconst n, len, v, ns, ps)) : e_Wp k pc loc st h bc bs Q := by
  exact e_pure (fun p l e R s m args below meth c g Hp locs cells slots ls Qs hx hb hr ho ht kk => lv_lconst hx hb hd rfl kk) (hK _ _ _ _ _ _ H)
theorem e_s_dconst {k pc len : Nat} {v : Value} {ns : List Nat} {ps : List (Nat × Nat)} {loc : List (Option Value)} {st : List Value} {h : e_H} {bc bs : Nat} {K : Nat → List (Option Value) → List Value → e_H → Nat → Nat → Prop} {Q : e_O → e_H → Prop} {n : Fin 2} (hd : decode (e_mb k) pc = .ok (.dconst n, 1))  (hK : ∀ pc loc st h bc bs, K pc loc st h bc bs → e_Wp k pc loc st h bc bs Q)
    (H : e_stp loc st h bc bs K Q (e_rt k) (pc, .dconst n, len, v, ns, ps)) : e_Wp k pc loc st h bc bs Q := by
  replace H : (bif Nat.beq (n : Nat) 0 then K (pc + 1) loc (.double FP.dconst0 :: st) h bc bs else False) := H
  by_cases hn : (n : Nat) = 0
  · have hn' : n = 0 := Fin.ext hn
    subst hn'
    exact e_pure (fun p l e R s m args below meth c g Hp locs cells slots ls Qs hx hb hr ho ht kk => lv_dconst0 hx hb hd kk) (hK _ _ _ _ _ _ H)
  · have : Nat.beq (n : Nat) 0 = false := Bool.eq_false_iff.mpr (fun hh => hn (Nat.eq_of_beq_eq_true hh))
    rw [this] at H
    exact False.elim H
theorem e_s_ldcI {k pc len : Nat} {v : Value} {ns : List Nat} {ps : List (Nat × Nat)} {loc : List (Option Value)} {st : List Value} {h : e_H} {bc bs : Nat} {K : Nat → List (Option Value) → List Value → e_H → Nat → Nat → Prop} {Q : e_O → e_H → Prop} {ix : Nat} {x : Int32} (hd : decode (e_mb k) pc = .ok (.ldc ix, 2)) (hv : v = .int x) (hw : Cond.constant (e_nm k).cls ix x ∈ e_tb) (hK : ∀ pc loc st h bc bs, K pc loc st h bc bs → e_Wp k pc loc st h bc bs Q)
    (H : e_stp loc st h bc bs K Q (e_rt k) (pc, .ldc ix, len, v, ns, ps)) : e_Wp k pc loc st h bc bs Q := by
  subst hv
  exact e_pure (fun p l e R s m args below meth c g Hp locs cells slots ls Qs hx hb hr ho ht kk => lv_ldc hx hb ho (ht _ hw) hd kk) (hK _ _ _ _ _ _ H)
theorem e_s_ldcwI {k pc len : Nat} {v : Value} {ns : List Nat} {ps : List (Nat × Nat)} {loc : List (Option Value)} {st : List Value} {h : e_H} {bc bs : Nat} {K : Nat → List (Option Value) → List Value → e_H → Nat → Nat → Prop} {Q : e_O → e_H → Prop} {ix : Nat} {x : Int32} (hd : decode (e_mb k) pc = .ok (.ldc_w ix, 3)) (hv : v = .int x) (hw : Cond.constant (e_nm k).cls ix x ∈ e_tb) (hK : ∀ pc loc st h bc bs, K pc loc st h bc bs → e_Wp k pc loc st h bc bs Q)
    (H : e_stp loc st h bc bs K Q (e_rt k) (pc, .ldc_w ix, len, v, ns, ps)) : e_Wp k pc loc st h bc bs Q := by
  subst hv
  exact e_pure (fun p l e R s m args below meth c g Hp locs cells slots ls Qs hx hb hr ho ht kk => lv_ldcw hx hb ho (ht _ hw) hd kk) (hK _ _ _ _ _ _ H)
theorem e_s_ldc2 {k pc len : Nat} {v : Value} {ns : List Nat} {ps : List (Nat × Nat)} {loc : List (Option Value)} {st : List Value} {h : e_H} {bc bs : Nat} {K : Nat → List (Option Value) → List Value → e_H → Nat → Nat → Prop} {Q : e_O → e_H → Prop} {ix : Nat} {x : Int64} (hd : decode (e_mb k) pc = .ok (.ldc2_w ix, 3)) (hv : v = .long x) (hw : Cond.constantLong (e_nm k).cls ix x ∈ e_tb) (hK : ∀ pc loc st h bc bs, K pc loc st h bc bs → e_Wp k pc loc st h bc bs Q)
    (H : e_stp loc st h bc bs K Q (e_rt k) (pc, .ldc2_w ix, len, v, ns, ps)) : e_Wp k pc loc st h bc bs Q := by
  subst hv
  exact e_pure (fun p l e R s m args below meth c g Hp locs cells slots ls Qs hx hb hr ho ht kk => lv_ldc2 hx hb ho (ht _ hw) hd kk) (hK _ _ _ _ _ _ H)
section EWS
variable {p : Program} {l : Launch} {e : Env} {R : Room} {s : State} {m : MethodId} {args : Array Value} {below : List Frame} {meth : Method} {c : Code} {H : Heap} {locs : List Loc} {cells slots : Nat} {Q : State → Prop}
/-- follows Stand.ldcString of the library (WalkGen4), for ldc_w -/
theorem e_ldcwS {cc : ByteArray} {pc : Nat} {ls : Array Slot} {rest : List Value} (hexec : p.tables.exec = Jvm.exec) (hb : c.code = cc) {own tx : String} {index q : Nat} (hown : s.vm.findClass own = some m.cls) (hZ : vk_R own index tx q s) (hdg : decode cc pc = .ok (.ldc_w index, 3))
    (kk : W p l e R s m args below meth c H locs cells slots Q (F0 m (pc + 3) ls (.ref q :: rest))) : W p l e R s m args below meth c H locs cells slots Q (F0 m pc ls rest) := by
  intro T hT X
  obtain ⟨t, a1, b1⟩ := kk T hT X
  refine ⟨t, ?_, b1⟩
  obtain ⟨k, cf, i, a', hk, hcf, hcp, -, hr, hev'⟩ := Cond.stringRef_spec (args := args) hown hZ.1
  have hev : (Term.string own index).eval args s none [] s = some (.ref q) := hZ.2
  cases hev.symm.trans hev'
  obtain ⟨k', hk', he⟩ := X.warmed.alike.2.2 _ _ hk
  have hr' : k'.resolved[index]? = some (some (.string q)) := by
    rcases X.warmed.entry hk hk' index with h | ⟨h, -⟩
    · rw [h]; exact hr
    · rw [hr] at h; cases h
  subst hb
  jvm_step X.here [hexec, hdg, ldc_w.wp_string (e := e) (s := T) (f := F0 m pc ls rest) X.here.top hk' (by rw [he]; exact hcf) hcp hr']
  exact a1
end EWS
theorem e_s_ldcS {k pc len : Nat} {v : Value} {ns : List Nat} {ps : List (Nat × Nat)} {loc : List (Option Value)} {st : List Value} {h : e_H} {bc bs : Nat} {K : Nat → List (Option Value) → List Value → e_H → Nat → Nat → Prop} {Q : e_O → e_H → Prop} {ix j : Nat} (hd : decode (e_mb k) pc = .ok (.ldc ix, 2)) (hv : v = .retAddr j) (hj : (e_srefs[j]?).map (fun r => (r.1, r.2.1)) = some ((e_nm k).cls, ix)) (hK : ∀ pc loc st h bc bs, K pc loc st h bc bs → e_Wp k pc loc st h bc bs Q)
    (H : e_stp loc st h bc bs K Q (e_rt k) (pc, .ldc ix, len, v, ns, ps)) : e_Wp k pc loc st h bc bs Q := by
  subst hv
  intro p l e R s m args below meth c g A Hp locs cells slots mc ms ls Qc XC C hw hS hl hn hcb hsb hk
  obtain ⟨-, -, -, -, ⟨adV, -, h5⟩, h6, -⟩ := C.2.2.2.2.2.2.2.2.2.2.2.2.2.2.2.2
  obtain ⟨tx, hj2⟩ : ∃ tx, e_srefs[j]? = some ((e_nm k).cls, ix, tx) := by
    cases hq : e_srefs[j]? with
    | none => rw [hq] at hj; cases hj
    | some r =>
      rw [hq] at hj
      obtain ⟨r1, r2, r3⟩ := r
      simp only [Option.map_some, Option.some.injEq, Prod.mk.injEq] at hj
      exact ⟨r3, by rw [hj.1, hj.2]⟩
  have hj3 : j < 3 := (List.getElem?_eq_some_iff.mp hj2).1
  refine va_ldcS C.1 C.2.1 C.2.2.2.1 (h6 j _ hj2) hd ?_
  have kk := hK _ _ _ _ _ _ H p l e R s m args below meth c g A Hp locs cells slots mc ms ls Qc XC C hw hS hl hn hcb hsb hk
  rw [List.map_cons, show e_rel g (.retAddr j) = g.2.1 j from rfl, (h5 j hj3).1] at kk
  exact kk
theorem e_s_ldcwS {k pc len : Nat} {v : Value} {ns : List Nat} {ps : List (Nat × Nat)} {loc : List (Option Value)} {st : List Value} {h : e_H} {bc bs : Nat} {K : Nat → List (Option Value) → List Value → e_H → Nat → Nat → Prop} {Q : e_O → e_H → Prop} {ix j : Nat} (hd : decode (e_mb k) pc = .ok (.ldc_w ix, 3)) (hv : v = .retAddr j) (hj : (e_srefs[j]?).map (fun r => (r.1, r.2.1)) = some ((e_nm k).cls, ix)) (hK : ∀ pc loc st h bc bs, K pc loc st h bc bs → e_Wp k pc loc st h bc bs Q)
    (H : e_stp loc st h bc bs K Q (e_rt k) (pc, .ldc_w ix, len, v, ns, ps)) : e_Wp k pc loc st h bc bs Q := by
  subst hv
  intro p l e R s m args below meth c g A Hp locs cells slots mc ms ls Qc XC C hw hS hl hn hcb hsb hk
  obtain ⟨-, -, -, -, ⟨adV, -, h5⟩, h6, -⟩ := C.2.2.2.2.2.2.2.2.2.2.2.2.2.2.2.2
  obtain ⟨tx, hj2⟩ : ∃ tx, e_srefs[j]? = some ((e_nm k).cls, ix, tx) := by
    cases hq : e_srefs[j]? with
    | none => rw [hq] at hj; cases hj
    | some r =>
      rw [hq] at hj
      obtain ⟨r1, r2, r3⟩ := r
      simp only [Option.map_some, Option.some.injEq, Prod.mk.injEq] at hj
      exact ⟨r3, by rw [hj.1, hj.2]⟩
  have hj3 : j < 3 := (List.getElem?_eq_some_iff.mp hj2).1
  refine e_ldcwS C.1 C.2.1 C.2.2.2.1 (h6 j _ hj2) hd ?_
  have kk := hK _ _ _ _ _ _ H p l e R s m args below meth c g A Hp locs cells slots mc ms ls Qc XC C hw hS hl hn hcb hsb hk
  rw [List.map_cons, show e_rel g (.retAddr j) = g.2.1 j from rfl, (h5 j hj3).1] at kk
  exact kk
theorem e_s_gsC {k pc len : Nat} {v : Value} {ns : List Nat} {ps : List (Nat × Nat)} {loc : List (Option Value)} {st : List Value} {h : e_H} {bc bs : Nat} {K : Nat → List (Option Value) → List Value → e_H → Nat → Nat → Prop} {Q : e_O → e_H → Prop} {ix : Nat} (hd : decode (e_mb k) pc = .ok (.getstatic ix, 3)) (hv : v = .int 1) (hw1 : Cond.fieldLink (e_nm k).cls ix "java/lang/String" "COMPACT_STRINGS" "Z" ∈ e_tb) (hK : ∀ pc loc st h bc bs, K pc loc st h bc bs → e_Wp k pc loc st h bc bs Q)
    (H : e_stp loc st h bc bs K Q (e_rt k) (pc, .getstatic ix, len, v, ns, ps)) : e_Wp k pc loc st h bc bs Q := by
  subst hv
  intro p l e R s m args below meth c g A Hp locs cells slots mc ms ls Qc XC C hw hS hl hn hcb hsb hk
  exact va_gets C.1 C.2.1 C.2.2.2.2.2.2.2.2.2.2.2.2.2.2.2.2.2.1 hS C.2.2.2.1 (C.2.2.2.2.1 _ hw1) (fun _ hh => hh) hd (hK _ _ _ _ _ _ H p l e R s m args below meth c g A Hp locs cells slots mc ms ls Qc XC C hw hS hl hn hcb hsb hk)
theorem e_s_gsF {k pc len : Nat} {v : Value} {ns : List Nat} {ps : List (Nat × Nat)} {loc : List (Option Value)} {st : List Value} {h : e_H} {bc bs : Nat} {K : Nat → List (Option Value) → List Value → e_H → Nat → Nat → Prop} {Q : e_O → e_H → Prop} {ix : Nat} (hd : decode (e_mb k) pc = .ok (.getstatic ix, 3)) (hv : v = .retAddr 40) (hw1 : Cond.fieldLink (e_nm k).cls ix "jdk/internal/util/Preconditions" "SIOOBE_FORMATTER" "Ljava/util/function/BiFunction;" ∈ e_tb) (hK : ∀ pc loc st h bc bs, K pc loc st h bc bs → e_Wp k pc loc st h bc bs Q)
    (H : e_stp loc st h bc bs K Q (e_rt k) (pc, .getstatic ix, len, v, ns, ps)) : e_Wp k pc loc st h bc bs Q := by
  subst hv
  intro p l e R s m args below meth c g A Hp locs cells slots mc ms ls Qc XC C hw hS hl hn hcb hsb hk
  exact va_gets C.1 C.2.1 C.2.2.2.2.2.2.2.2.2.2.2.2.2.2.2.2.2.2.1 hS C.2.2.2.1 (C.2.2.2.2.1 _ hw1) (fun _ hh => hh) hd (hK _ _ _ _ _ _ H p l e R s m args below meth c g A Hp locs cells slots mc ms ls Qc XC C hw hS hl hn hcb hsb hk)
theorem e_s_gsA {k pc len : Nat} {v : Value} {ns : List Nat} {ps : List (Nat × Nat)} {loc : List (Option Value)} {st : List Value} {h : e_H} {bc bs : Nat} {K : Nat → List (Option Value) → List Value → e_H → Nat → Nat → Prop} {Q : e_O → e_H → Prop} {ix j : Nat} (hd : decode (e_mb k) pc = .ok (.getstatic ix, 3)) (hv : v = .retAddr (10 + j)) (hj : j < e_sts.length) (hw1 : Cond.fieldLink (e_nm k).cls ix (e_sts.getD j ("", "", [])).1 (e_sts.getD j ("", "", [])).2.1 "[I" ∈ e_tb) (hK : ∀ pc loc st h bc bs, K pc loc st h bc bs → e_Wp k pc loc st h bc bs Q)
    (H : e_stp loc st h bc bs K Q (e_rt k) (pc, .getstatic ix, len, v, ns, ps)) : e_Wp k pc loc st h bc bs Q := by
  subst hv
  intro p l e R s m args below meth c g A Hp locs cells slots mc ms ls Qc XC C hw hS hl hn hcb hsb hk
  have h3 := (C.2.2.2.2.2.2.2.2.2.2.2.2.2.2.2.2.2.2.2.1 j _ (e_getL (d := ("", "", [])) hj)).1
  exact va_gets C.1 C.2.1 h3 hS C.2.2.2.1 (C.2.2.2.2.1 _ hw1) (fun _ hh => hh) hd (hK _ _ _ _ _ _ H p l e R s m args below meth c g A Hp locs cells slots mc ms ls Qc XC C hw hS hl hn hcb hsb hk)
theorem e_s_iload {k pc len : Nat} {v : Value} {ns : List Nat} {ps : List (Nat × Nat)} {loc : List (Option Value)} {st : List Value} {h : e_H} {bc bs : Nat} {K : Nat → List (Option Value) → List Value → e_H → Nat → Nat → Prop} {Q : e_O → e_H → Prop} {i : Nat} (hd : decode (e_mb k) pc = .ok (.iload i, 2))  (hK : ∀ pc loc st h bc bs, K pc loc st h bc bs → e_Wp k pc loc st h bc bs Q)
    (H : e_stp loc st h bc bs K Q (e_rt k) (pc, .iload i, len, v, ns, ps)) : e_Wp k pc loc st h bc bs Q := by
  replace H : e_ldI loc i (fun w => K (pc + 2) loc (w :: st) h bc bs) := H
  unfold e_ldI at H
  split at H
  · exact e_loadv (by assumption) (fun p l e R s m args below meth c g Hp locs cells slots ls Qs hx hb hr hl kk => lv_iload hx hb hd hl kk) (hK _ _ _ _ _ _ H)
  · exact False.elim H
theorem e_s_iload_n {k pc len : Nat} {v : Value} {ns : List Nat} {ps : List (Nat × Nat)} {loc : List (Option Value)} {st : List Value} {h : e_H} {bc bs : Nat} {K : Nat → List (Option Value) → List Value → e_H → Nat → Nat → Prop} {Q : e_O → e_H → Prop} {i : Fin 4} (hd : decode (e_mb k) pc = .ok (.iload_n i, 1))  (hK : ∀ pc loc st h bc bs, K pc loc st h bc bs → e_Wp k pc loc st h bc bs Q)
    (H : e_stp loc st h bc bs K Q (e_rt k) (pc, .iload_n i, len, v, ns, ps)) : e_Wp k pc loc st h bc bs Q := by
  replace H : e_ldI loc (i : Nat) (fun w => K (pc + 1) loc (w :: st) h bc bs) := H
  unfold e_ldI at H
  split at H
  · exact e_loadv (by assumption) (fun p l e R s m args below meth c g Hp locs cells slots ls Qs hx hb hr hl kk => lv_iload_n hx hb hd rfl hl kk) (hK _ _ _ _ _ _ H)
  · exact False.elim H
theorem e_s_lload {k pc len : Nat} {v : Value} {ns : List Nat} {ps : List (Nat × Nat)} {loc : List (Option Value)} {st : List Value} {h : e_H} {bc bs : Nat} {K : Nat → List (Option Value) → List Value → e_H → Nat → Nat → Prop} {Q : e_O → e_H → Prop} {i : Nat} (hd : decode (e_mb k) pc = .ok (.lload i, 2))  (hK : ∀ pc loc st h bc bs, K pc loc st h bc bs → e_Wp k pc loc st h bc bs Q)
    (H : e_stp loc st h bc bs K Q (e_rt k) (pc, .lload i, len, v, ns, ps)) : e_Wp k pc loc st h bc bs Q := by
  replace H : e_ldL loc i (fun w => K (pc + 2) loc (w :: st) h bc bs) := H
  unfold e_ldL at H
  split at H
  · exact e_loadv (by assumption) (fun p l e R s m args below meth c g Hp locs cells slots ls Qs hx hb hr hl kk => lv_lload hx hb hd hl kk) (hK _ _ _ _ _ _ H)
  · exact False.elim H
theorem e_s_lload_n {k pc len : Nat} {v : Value} {ns : List Nat} {ps : List (Nat × Nat)} {loc : List (Option Value)} {st : List Value} {h : e_H} {bc bs : Nat} {K : Nat → List (Option Value) → List Value → e_H → Nat → Nat → Prop} {Q : e_O → e_H → Prop} {i : Fin 4} (hd : decode (e_mb k) pc = .ok (.lload_n i, 1))  (hK : ∀ pc loc st h bc bs, K pc loc st h bc bs → e_Wp k pc loc st h bc bs Q)
    (H : e_stp loc st h bc bs K Q (e_rt k) (pc, .lload_n i, len, v, ns, ps)) : e_Wp k pc loc st h bc bs Q := by
  replace H : e_ldL loc (i : Nat) (fun w => K (pc + 1) loc (w :: st) h bc bs) := H
  unfold e_ldL at H
  split at H
  · exact e_loadv (by assumption) (fun p l e R s m args below meth c g Hp locs cells slots ls Qs hx hb hr hl kk => lv_lload_n hx hb hd rfl hl kk) (hK _ _ _ _ _ _ H)
  · exact False.elim H
theorem e_s_dload {k pc len : Nat} {v : Value} {ns : List Nat} {ps : List (Nat × Nat)} {loc : List (Option Value)} {st : List Value} {h : e_H} {bc bs : Nat} {K : Nat → List (Option Value) → List Value → e_H → Nat → Nat → Prop} {Q : e_O → e_H → Prop} {i : Nat} (hd : decode (e_mb k) pc = .ok (.dload i, 2))  (hK : ∀ pc loc st h bc bs, K pc loc st h bc bs → e_Wp k pc loc st h bc bs Q)
    (H : e_stp loc st h bc bs K Q (e_rt k) (pc, .dload i, len, v, ns, ps)) : e_Wp k pc loc st h bc bs Q := by
  replace H : e_ldD loc i (fun w => K (pc + 2) loc (w :: st) h bc bs) := H
  unfold e_ldD at H
  split at H
  · exact e_loadv (by assumption) (fun p l e R s m args below meth c g Hp locs cells slots ls Qs hx hb hr hl kk => lv_dload hx hb hd hl kk) (hK _ _ _ _ _ _ H)
  · exact False.elim H
theorem e_s_dload_n {k pc len : Nat} {v : Value} {ns : List Nat} {ps : List (Nat × Nat)} {loc : List (Option Value)} {st : List Value} {h : e_H} {bc bs : Nat} {K : Nat → List (Option Value) → List Value → e_H → Nat → Nat → Prop} {Q : e_O → e_H → Prop} {i : Fin 4} (hd : decode (e_mb k) pc = .ok (.dload_n i, 1))  (hK : ∀ pc loc st h bc bs, K pc loc st h bc bs → e_Wp k pc loc st h bc bs Q)
    (H : e_stp loc st h bc bs K Q (e_rt k) (pc, .dload_n i, len, v, ns, ps)) : e_Wp k pc loc st h bc bs Q := by
  replace H : e_ldD loc (i : Nat) (fun w => K (pc + 1) loc (w :: st) h bc bs) := H
  unfold e_ldD at H
  split at H
  · exact e_loadv (by assumption) (fun p l e R s m args below meth c g Hp locs cells slots ls Qs hx hb hr hl kk => lv_dload_n hx hb hd rfl hl kk) (hK _ _ _ _ _ _ H)
  · exact False.elim H
theorem e_s_aload {k pc len : Nat} {v : Value} {ns : List Nat} {ps : List (Nat × Nat)} {loc : List (Option Value)} {st : List Value} {h : e_H} {bc bs : Nat} {K : Nat → List (Option Value) → List Value → e_H → Nat → Nat → Prop} {Q : e_O → e_H → Prop} {i : Nat} (hd : decode (e_mb k) pc = .ok (.aload i, 2))  (hK : ∀ pc loc st h bc bs, K pc loc st h bc bs → e_Wp k pc loc st h bc bs Q)
    (H : e_stp loc st h bc bs K Q (e_rt k) (pc, .aload i, len, v, ns, ps)) : e_Wp k pc loc st h bc bs Q := by
  replace H : e_ldA loc i (fun w => K (pc + 2) loc (w :: st) h bc bs) := H
  unfold e_ldA at H
  split at H
  · exact e_loadv (by assumption) (fun p l e R s m args below meth c g Hp locs cells slots ls Qs hx hb hr hl kk => lv_aload hx hb hd hl kk) (hK _ _ _ _ _ _ H)
  · rename_i x hx0
    refine e_loadv hx0 (fun p l e R s m args below meth c g Hp locs cells slots ls Qs hx hb hr hl kk => ?_) (hK _ _ _ _ _ _ H)
    rw [show e_rel g (.retAddr x) = g.2.1 x from rfl] at hl kk
    rcases hr x with hq | ⟨q, hq⟩
    · rw [hq] at hl kk
      exact lv_aloadN hx hb hd hl kk
    · rw [hq] at hl kk
      exact lv_aload hx hb hd hl kk
  · exact e_loadv (by assumption) (fun p l e R s m args below meth c g Hp locs cells slots ls Qs hx hb hr hl kk => lv_aloadN hx hb hd hl kk) (hK _ _ _ _ _ _ H)
  · exact False.elim H
theorem e_s_aload_n {k pc len : Nat} {v : Value} {ns : List Nat} {ps : List (Nat × Nat)} {loc : List (Option Value)} {st : List Value} {h : e_H} {bc bs : Nat} {K : Nat → List (Option Value) → List Value → e_H → Nat → Nat → Prop} {Q : e_O → e_H → Prop} {i : Fin 4} (hd : decode (e_mb k) pc = .ok (.aload_n i, 1))  (hK : ∀ pc loc st h bc bs, K pc loc st h bc bs → e_Wp k pc loc st h bc bs Q)
    (H : e_stp loc st h bc bs K Q (e_rt k) (pc, .aload_n i, len, v, ns, ps)) : e_Wp k pc loc st h bc bs Q := by
  replace H : e_ldA loc (i : Nat) (fun w => K (pc + 1) loc (w :: st) h bc bs) := H
  unfold e_ldA at H
  split at H
  · exact e_loadv (by assumption) (fun p l e R s m args below meth c g Hp locs cells slots ls Qs hx hb hr hl kk => lv_aload_n hx hb hd rfl hl kk) (hK _ _ _ _ _ _ H)
  · rename_i x hx0
    refine e_loadv hx0 (fun p l e R s m args below meth c g Hp locs cells slots ls Qs hx hb hr hl kk => ?_) (hK _ _ _ _ _ _ H)
    rw [show e_rel g (.retAddr x) = g.2.1 x from rfl] at hl kk
    rcases hr x with hq | ⟨q, hq⟩
    · rw [hq] at hl kk
      exact lv_aload_nN hx hb hd rfl hl kk
    · rw [hq] at hl kk
      exact lv_aload_n hx hb hd rfl hl kk
  · exact e_loadv (by assumption) (fun p l e R s m args below meth c g Hp locs cells slots ls Qs hx hb hr hl kk => lv_aload_nN hx hb hd rfl hl kk) (hK _ _ _ _ _ _ H)
  · exact False.elim H
theorem e_s_istore {k pc len : Nat} {v : Value} {ns : List Nat} {ps : List (Nat × Nat)} {loc : List (Option Value)} {st : List Value} {h : e_H} {bc bs : Nat} {K : Nat → List (Option Value) → List Value → e_H → Nat → Nat → Prop} {Q : e_O → e_H → Prop} {i : Nat} (hd : decode (e_mb k) pc = .ok (.istore i, 2))  (hK : ∀ pc loc st h bc bs, K pc loc st h bc bs → e_Wp k pc loc st h bc bs Q)
    (H : e_stp loc st h bc bs K Q (e_rt k) (pc, .istore i, len, v, ns, ps)) : e_Wp k pc loc st h bc bs Q := by
  replace H : e_stI loc st i (fun lo r => K (pc + 2) lo r h bc bs) := H
  unfold e_stI at H
  split at H
  · cases hb0 : Nat.ble (i + 1) loc.length with
    | false => rw [hb0] at H; exact False.elim H
    | true => rw [hb0] at H; exact e_store1 hb0 (fun p l e R s m args below meth c g Hp locs cells slots ls Qs lv hx hb hr hl hi kk => lv_istore hx hb hd hl hi rfl kk) (hK _ _ _ _ _ _ H)
  · exact False.elim H
theorem e_s_istore_n {k pc len : Nat} {v : Value} {ns : List Nat} {ps : List (Nat × Nat)} {loc : List (Option Value)} {st : List Value} {h : e_H} {bc bs : Nat} {K : Nat → List (Option Value) → List Value → e_H → Nat → Nat → Prop} {Q : e_O → e_H → Prop} {i : Fin 4} (hd : decode (e_mb k) pc = .ok (.istore_n i, 1))  (hK : ∀ pc loc st h bc bs, K pc loc st h bc bs → e_Wp k pc loc st h bc bs Q)
    (H : e_stp loc st h bc bs K Q (e_rt k) (pc, .istore_n i, len, v, ns, ps)) : e_Wp k pc loc st h bc bs Q := by
  replace H : e_stI loc st (i : Nat) (fun lo r => K (pc + 1) lo r h bc bs) := H
  unfold e_stI at H
  split at H
  · cases hb0 : Nat.ble ((i : Nat) + 1) loc.length with
    | false => rw [hb0] at H; exact False.elim H
    | true => rw [hb0] at H; exact e_store1 hb0 (fun p l e R s m args below meth c g Hp locs cells slots ls Qs lv hx hb hr hl hi kk => lv_istore_n hx hb hd rfl hl hi rfl kk) (hK _ _ _ _ _ _ H)
  · exact False.elim H
theorem e_s_lstore {k pc len : Nat} {v : Value} {ns : List Nat} {ps : List (Nat × Nat)} {loc : List (Option Value)} {st : List Value} {h : e_H} {bc bs : Nat} {K : Nat → List (Option Value) → List Value → e_H → Nat → Nat → Prop} {Q : e_O → e_H → Prop} {i : Nat} (hd : decode (e_mb k) pc = .ok (.lstore i, 2))  (hK : ∀ pc loc st h bc bs, K pc loc st h bc bs → e_Wp k pc loc st h bc bs Q)
    (H : e_stp loc st h bc bs K Q (e_rt k) (pc, .lstore i, len, v, ns, ps)) : e_Wp k pc loc st h bc bs Q := by
  replace H : e_stL loc st i (fun lo r => K (pc + 2) lo r h bc bs) := H
  unfold e_stL at H
  split at H
  · cases hb0 : Nat.ble (i + 2) loc.length with
    | false => rw [hb0] at H; exact False.elim H
    | true => rw [hb0] at H; exact e_store2 hb0 (fun p l e R s m args below meth c g Hp locs cells slots ls Qs lv hx hb hl hi kk => lv_lstore hx hb hd hl hi rfl kk) (hK _ _ _ _ _ _ H)
  · exact False.elim H
theorem e_s_lstore_n {k pc len : Nat} {v : Value} {ns : List Nat} {ps : List (Nat × Nat)} {loc : List (Option Value)} {st : List Value} {h : e_H} {bc bs : Nat} {K : Nat → List (Option Value) → List Value → e_H → Nat → Nat → Prop} {Q : e_O → e_H → Prop} {i : Fin 4} (hd : decode (e_mb k) pc = .ok (.lstore_n i, 1))  (hK : ∀ pc loc st h bc bs, K pc loc st h bc bs → e_Wp k pc loc st h bc bs Q)
    (H : e_stp loc st h bc bs K Q (e_rt k) (pc, .lstore_n i, len, v, ns, ps)) : e_Wp k pc loc st h bc bs Q := by
  replace H : e_stL loc st (i : Nat) (fun lo r => K (pc + 1) lo r h bc bs) := H
  unfold e_stL at H
  split at H
  · cases hb0 : Nat.ble ((i : Nat) + 2) loc.length with
    | false => rw [hb0] at H; exact False.elim H
    | true => rw [hb0] at H; exact e_store2 hb0 (fun p l e R s m args below meth c g Hp locs cells slots ls Qs lv hx hb hl hi kk => lv_lstore_n hx hb hd rfl hl hi rfl kk) (hK _ _ _ _ _ _ H)
  · exact False.elim H
theorem e_s_dstore {k pc len : Nat} {v : Value} {ns : List Nat} {ps : List (Nat × Nat)} {loc : List (Option Value)} {st : List Value} {h : e_H} {bc bs : Nat} {K : Nat → List (Option Value) → List Value → e_H → Nat → Nat → Prop} {Q : e_O → e_H → Prop} {i : Nat} (hd : decode (e_mb k) pc = .ok (.dstore i, 2))  (hK : ∀ pc loc st h bc bs, K pc loc st h bc bs → e_Wp k pc loc st h bc bs Q)
    (H : e_stp loc st h bc bs K Q (e_rt k) (pc, .dstore i, len, v, ns, ps)) : e_Wp k pc loc st h bc bs Q := by
  replace H : e_stD loc st i (fun lo r => K (pc + 2) lo r h bc bs) := H
  unfold e_stD at H
  split at H
  · cases hb0 : Nat.ble (i + 2) loc.length with
    | false => rw [hb0] at H; exact False.elim H
    | true => rw [hb0] at H; exact e_store2 hb0 (fun p l e R s m args below meth c g Hp locs cells slots ls Qs lv hx hb hl hi kk => lv_dstore hx hb hd hl hi rfl kk) (hK _ _ _ _ _ _ H)
  · exact False.elim H
theorem e_s_dstore_n {k pc len : Nat} {v : Value} {ns : List Nat} {ps : List (Nat × Nat)} {loc : List (Option Value)} {st : List Value} {h : e_H} {bc bs : Nat} {K : Nat → List (Option Value) → List Value → e_H → Nat → Nat → Prop} {Q : e_O → e_H → Prop} {i : Fin 4} (hd : decode (e_mb k) pc = .ok (.dstore_n i, 1))  (hK : ∀ pc loc st h bc bs, K pc loc st h bc bs → e_Wp k pc loc st h bc bs Q)
    (H : e_stp loc st h bc bs K Q (e_rt k) (pc, .dstore_n i, len, v, ns, ps)) : e_Wp k pc loc st h bc bs Q := by
  replace H : e_stD loc st (i : Nat) (fun lo r => K (pc + 1) lo r h bc bs) := H
  unfold e_stD at H
  split at H
  · cases hb0 : Nat.ble ((i : Nat) + 2) loc.length with
    | false => rw [hb0] at H; exact False.elim H
    | true => rw [hb0] at H; exact e_store2 hb0 (fun p l e R s m args below meth c g Hp locs cells slots ls Qs lv hx hb hl hi kk => lv_dstore_n hx hb hd rfl hl hi rfl kk) (hK _ _ _ _ _ _ H)
  · exact False.elim H
theorem e_s_astore {k pc len : Nat} {v : Value} {ns : List Nat} {ps : List (Nat × Nat)} {loc : List (Option Value)} {st : List Value} {h : e_H} {bc bs : Nat} {K : Nat → List (Option Value) → List Value → e_H → Nat → Nat → Prop} {Q : e_O → e_H → Prop} {i : Nat} (hd : decode (e_mb k) pc = .ok (.astore i, 2))  (hK : ∀ pc loc st h bc bs, K pc loc st h bc bs → e_Wp k pc loc st h bc bs Q)
    (H : e_stp loc st h bc bs K Q (e_rt k) (pc, .astore i, len, v, ns, ps)) : e_Wp k pc loc st h bc bs Q := by
  replace H : e_stA loc st i (fun lo r => K (pc + 2) lo r h bc bs) := H
  unfold e_stA at H
  split at H
  · cases hb0 : Nat.ble (i + 1) loc.length with
    | false => rw [hb0] at H; exact False.elim H
    | true =>
      rw [hb0] at H
      exact e_store1 hb0 (fun p l e R s m args below meth c g Hp locs cells slots ls Qs lv hx hb hr hl hi kk => lv_astore hx hb hd hl hi rfl kk) (hK _ _ _ _ _ _ H)
  · cases hb0 : Nat.ble (i + 1) loc.length with
    | false => rw [hb0] at H; exact False.elim H
    | true =>
      rw [hb0] at H
      rename_i x r0
      refine e_store1 hb0 (fun p l e R s m args below meth c g Hp locs cells slots ls Qs lv hx hb hr hl hi kk => ?_) (hK _ _ _ _ _ _ H)
      rw [show e_rel g (.retAddr x) = g.2.1 x from rfl] at kk ⊢
      rcases hr x with hq | ⟨q, hq⟩
      · rw [hq] at kk ⊢
        exact lv_astoreN hx hb hd hl hi rfl kk
      · rw [hq] at kk ⊢
        exact lv_astore hx hb hd hl hi rfl kk
  · cases hb0 : Nat.ble (i + 1) loc.length with
    | false => rw [hb0] at H; exact False.elim H
    | true =>
      rw [hb0] at H
      exact e_store1 hb0 (fun p l e R s m args below meth c g Hp locs cells slots ls Qs lv hx hb hr hl hi kk => lv_astoreN hx hb hd hl hi rfl kk) (hK _ _ _ _ _ _ H)
  · exact False.elim H
theorem e_s_astore_n {k pc len : Nat} {v : Value} {ns : List Nat} {ps : List (Nat × Nat)} {loc : List (Option Value)} {st : List Value} {h : e_H} {bc bs : Nat} {K : Nat → List (Option Value) → List Value → e_H → Nat → Nat → Prop} {Q : e_O → e_H → Prop} {i : Fin 4} (hd : decode (e_mb k) pc = .ok (.astore_n i, 1))  (hK : ∀ pc loc st h bc bs, K pc loc st h bc bs → e_Wp k pc loc st h bc bs Q)
    (H : e_stp loc st h bc bs K Q (e_rt k) (pc, .astore_n i, len, v, ns, ps)) : e_Wp k pc loc st h bc bs Q := by
  replace H : e_stA loc st (i : Nat) (fun lo r => K (pc + 1) lo r h bc bs) := H
  unfold e_stA at H
  split at H
  · cases hb0 : Nat.ble ((i : Nat) + 1) loc.length with
    | false => rw [hb0] at H; exact False.elim H
    | true =>
      rw [hb0] at H
      exact e_store1 hb0 (fun p l e R s m args below meth c g Hp locs cells slots ls Qs lv hx hb hr hl hi kk => lv_astore_n hx hb hd rfl hl hi rfl kk) (hK _ _ _ _ _ _ H)
  · cases hb0 : Nat.ble ((i : Nat) + 1) loc.length with
    | false => rw [hb0] at H; exact False.elim H
    | true =>
      rw [hb0] at H
      rename_i x r0
      refine e_store1 hb0 (fun p l e R s m args below meth c g Hp locs cells slots ls Qs lv hx hb hr hl hi kk => ?_) (hK _ _ _ _ _ _ H)
      rw [show e_rel g (.retAddr x) = g.2.1 x from rfl] at kk ⊢
      rcases hr x with hq | ⟨q, hq⟩
      · rw [hq] at kk ⊢
        exact lv_astore_nN hx hb hd rfl hl hi rfl kk
      · rw [hq] at kk ⊢
        exact lv_astore_n hx hb hd rfl hl hi rfl kk
  · cases hb0 : Nat.ble ((i : Nat) + 1) loc.length with
    | false => rw [hb0] at H; exact False.elim H
    | true =>
      rw [hb0] at H
      exact e_store1 hb0 (fun p l e R s m args below meth c g Hp locs cells slots ls Qs lv hx hb hr hl hi kk => lv_astore_nN hx hb hd rfl hl hi rfl kk) (hK _ _ _ _ _ _ H)
  · exact False.elim H
theorem e_s_iinc {k pc len : Nat} {v : Value} {ns : List Nat} {ps : List (Nat × Nat)} {loc : List (Option Value)} {st : List Value} {h : e_H} {bc bs : Nat} {K : Nat → List (Option Value) → List Value → e_H → Nat → Nat → Prop} {Q : e_O → e_H → Prop} {i : Nat} {n : Int} (hd : decode (e_mb k) pc = .ok (.iinc i n, 3))  (hK : ∀ pc loc st h bc bs, K pc loc st h bc bs → e_Wp k pc loc st h bc bs Q)
    (H : e_stp loc st h bc bs K Q (e_rt k) (pc, .iinc i n, len, v, ns, ps)) : e_Wp k pc loc st h bc bs Q := by
  replace H : e_ldI loc i (fun w => match w with
    | .int x => bif Nat.ble (i + 1) loc.length then K (pc + 3) (e_set1 loc i (.int (x + Int32.ofInt n))) st h bc bs else False
    | _ => False) := H
  unfold e_ldI at H
  split at H
  · rename_i x hx0
    cases hb0 : Nat.ble (i + 1) loc.length with
    | false => simp only [hb0] at H; exact False.elim H
    | true =>
      simp only [hb0] at H
      intro p l e R s m args below meth c g A Hp locs cells slots mc ms ls Qc XC C hw hS hl hn hcb hsb hk
      have hx := C.2.2.2.2.2.2.2.2.2.2.2.2.2.2.2.2.1
      have hlt := Nat.le_of_ble_eq_true hb0
      have hl2 : lv_has ls (e_ml k) ((i, .int x) :: e_as g loc) := e_lmono hl (fun q hq => by
        rcases List.mem_cons.mp hq with rfl | hq
        · exact e_as_mem.mpr ⟨.int x, hx0, rfl⟩
        · exact hq)
      refine lv_iinc C.1 C.2.1 hd hl2 (k := 0) rfl rfl (by omega) rfl (fun ls' hl' => ?_)
      refine hK _ _ _ _ _ _ H p l e R s m args below meth c g A Hp locs cells slots mc ms ls' Qc XC C hw hS (e_lmono hl' (fun q hq => ?_)) ((e_set1_len _ _ _).trans hn) hcb hsb hk
      rcases List.mem_cons.mp (e_set1_sub (e_refc hx) q hq) with h1 | h1
      · rw [h1]; exact List.mem_cons_self
      · obtain ⟨h2, h3⟩ := List.mem_filter.mp h1
        exact List.mem_cons_of_mem _ (List.mem_filter.mpr ⟨List.mem_cons_of_mem _ h2, h3⟩)
  · exact False.elim H
theorem e_s_iadd {k pc len : Nat} {v : Value} {ns : List Nat} {ps : List (Nat × Nat)} {loc : List (Option Value)} {st : List Value} {h : e_H} {bc bs : Nat} {K : Nat → List (Option Value) → List Value → e_H → Nat → Nat → Prop} {Q : e_O → e_H → Prop}  (hd : decode (e_mb k) pc = .ok (.iadd, 1))  (hK : ∀ pc loc st h bc bs, K pc loc st h bc bs → e_Wp k pc loc st h bc bs Q)
    (H : e_stp loc st h bc bs K Q (e_rt k) (pc, .iadd, len, v, ns, ps)) : e_Wp k pc loc st h bc bs Q := by
  replace H : e_i2 st (fun x y => .int (x + y)) (fun r => K (pc + 1) loc r h bc bs) := H
  unfold e_i2 at H
  split at H
  · exact e_pure (fun p l e R s m args below meth c g Hp locs cells slots ls Qs hx hb hr ho ht kk => lv_iadd hx hb hd kk) (hK _ _ _ _ _ _ H)
  · exact False.elim H
theorem e_s_isub {k pc len : Nat} {v : Value} {ns : List Nat} {ps : List (Nat × Nat)} {loc : List (Option Value)} {st : List Value} {h : e_H} {bc bs : Nat} {K : Nat → List (Option Value) → List Value → e_H → Nat → Nat → Prop} {Q : e_O → e_H → Prop}  (hd : decode (e_mb k) pc = .ok (.isub, 1))  (hK : ∀ pc loc st h bc bs, K pc loc st h bc bs → e_Wp k pc loc st h bc bs Q)
    (H : e_stp loc st h bc bs K Q (e_rt k) (pc, .isub, len, v, ns, ps)) : e_Wp k pc loc st h bc bs Q := by
  replace H : e_i2 st (fun x y => .int (x - y)) (fun r => K (pc + 1) loc r h bc bs) := H
  unfold e_i2 at H
  split at H
  · exact e_pure (fun p l e R s m args below meth c g Hp locs cells slots ls Qs hx hb hr ho ht kk => lv_isub hx hb hd kk) (hK _ _ _ _ _ _ H)
  · exact False.elim H
theorem e_s_imul {k pc len : Nat} {v : Value} {ns : List Nat} {ps : List (Nat × Nat)} {loc : List (Option Value)} {st : List Value} {h : e_H} {bc bs : Nat} {K : Nat → List (Option Value) → List Value → e_H → Nat → Nat → Prop} {Q : e_O → e_H → Prop}  (hd : decode (e_mb k) pc = .ok (.imul, 1))  (hK : ∀ pc loc st h bc bs, K pc loc st h bc bs → e_Wp k pc loc st h bc bs Q)
    (H : e_stp loc st h bc bs K Q (e_rt k) (pc, .imul, len, v, ns, ps)) : e_Wp k pc loc st h bc bs Q := by
  replace H : e_i2 st (fun x y => .int (x * y)) (fun r => K (pc + 1) loc r h bc bs) := H
  unfold e_i2 at H
  split at H
  · exact e_pure (fun p l e R s m args below meth c g Hp locs cells slots ls Qs hx hb hr ho ht kk => lv_imul hx hb hd kk) (hK _ _ _ _ _ _ H)
  · exact False.elim H
theorem e_s_iand {k pc len : Nat} {v : Value} {ns : List Nat} {ps : List (Nat × Nat)} {loc : List (Option Value)} {st : List Value} {h : e_H} {bc bs : Nat} {K : Nat → List (Option Value) → List Value → e_H → Nat → Nat → Prop} {Q : e_O → e_H → Prop}  (hd : decode (e_mb k) pc = .ok (.iand, 1))  (hK : ∀ pc loc st h bc bs, K pc loc st h bc bs → e_Wp k pc loc st h bc bs Q)
    (H : e_stp loc st h bc bs K Q (e_rt k) (pc, .iand, len, v, ns, ps)) : e_Wp k pc loc st h bc bs Q := by
  replace H : e_i2 st (fun x y => .int (x &&& y)) (fun r => K (pc + 1) loc r h bc bs) := H
  unfold e_i2 at H
  split at H
  · exact e_pure (fun p l e R s m args below meth c g Hp locs cells slots ls Qs hx hb hr ho ht kk => lv_iand hx hb hd kk) (hK _ _ _ _ _ _ H)
  · exact False.elim H
theorem e_s_ior {k pc len : Nat} {v : Value} {ns : List Nat} {ps : List (Nat × Nat)} {loc : List (Option Value)} {st : List Value} {h : e_H} {bc bs : Nat} {K : Nat → List (Option Value) → List Value → e_H → Nat → Nat → Prop} {Q : e_O → e_H → Prop}  (hd : decode (e_mb k) pc = .ok (.ior, 1))  (hK : ∀ pc loc st h bc bs, K pc loc st h bc bs → e_Wp k pc loc st h bc bs Q)
    (H : e_stp loc st h bc bs K Q (e_rt k) (pc, .ior, len, v, ns, ps)) : e_Wp k pc loc st h bc bs Q := by
  replace H : e_i2 st (fun x y => .int (x ||| y)) (fun r => K (pc + 1) loc r h bc bs) := H
  unfold e_i2 at H
  split at H
  · exact e_pure (fun p l e R s m args below meth c g Hp locs cells slots ls Qs hx hb hr ho ht kk => lv_ior hx hb hd kk) (hK _ _ _ _ _ _ H)
  · exact False.elim H
theorem e_s_ixor {k pc len : Nat} {v : Value} {ns : List Nat} {ps : List (Nat × Nat)} {loc : List (Option Value)} {st : List Value} {h : e_H} {bc bs : Nat} {K : Nat → List (Option Value) → List Value → e_H → Nat → Nat → Prop} {Q : e_O → e_H → Prop}  (hd : decode (e_mb k) pc = .ok (.ixor, 1))  (hK : ∀ pc loc st h bc bs, K pc loc st h bc bs → e_Wp k pc loc st h bc bs Q)
    (H : e_stp loc st h bc bs K Q (e_rt k) (pc, .ixor, len, v, ns, ps)) : e_Wp k pc loc st h bc bs Q := by
  replace H : e_i2 st (fun x y => .int (x ^^^ y)) (fun r => K (pc + 1) loc r h bc bs) := H
  unfold e_i2 at H
  split at H
  · exact e_pure (fun p l e R s m args below meth c g Hp locs cells slots ls Qs hx hb hr ho ht kk => lv_ixor hx hb hd kk) (hK _ _ _ _ _ _ H)
  · exact False.elim H
theorem e_s_ishl {k pc len : Nat} {v : Value} {ns : List Nat} {ps : List (Nat × Nat)} {loc : List (Option Value)} {st : List Value} {h : e_H} {bc bs : Nat} {K : Nat → List (Option Value) → List Value → e_H → Nat → Nat → Prop} {Q : e_O → e_H → Prop}  (hd : decode (e_mb k) pc = .ok (.ishl, 1))  (hK : ∀ pc loc st h bc bs, K pc loc st h bc bs → e_Wp k pc loc st h bc bs Q)
    (H : e_stp loc st h bc bs K Q (e_rt k) (pc, .ishl, len, v, ns, ps)) : e_Wp k pc loc st h bc bs Q := by
  replace H : e_i2 st (fun x y => .int (x <<< (y &&& 31))) (fun r => K (pc + 1) loc r h bc bs) := H
  unfold e_i2 at H
  split at H
  · exact e_pure (fun p l e R s m args below meth c g Hp locs cells slots ls Qs hx hb hr ho ht kk => lv_ishl hx hb hd kk) (hK _ _ _ _ _ _ H)
  · exact False.elim H
theorem e_s_ishr {k pc len : Nat} {v : Value} {ns : List Nat} {ps : List (Nat × Nat)} {loc : List (Option Value)} {st : List Value} {h : e_H} {bc bs : Nat} {K : Nat → List (Option Value) → List Value → e_H → Nat → Nat → Prop} {Q : e_O → e_H → Prop}  (hd : decode (e_mb k) pc = .ok (.ishr, 1))  (hK : ∀ pc loc st h bc bs, K pc loc st h bc bs → e_Wp k pc loc st h bc bs Q)
    (H : e_stp loc st h bc bs K Q (e_rt k) (pc, .ishr, len, v, ns, ps)) : e_Wp k pc loc st h bc bs Q := by
  replace H : e_i2 st (fun x y => .int (x >>> (y &&& 31))) (fun r => K (pc + 1) loc r h bc bs) := H
  unfold e_i2 at H
  split at H
  · exact e_pure (fun p l e R s m args below meth c g Hp locs cells slots ls Qs hx hb hr ho ht kk => lv_ishr hx hb hd kk) (hK _ _ _ _ _ _ H)
  · exact False.elim H
theorem e_s_iushr {k pc len : Nat} {v : Value} {ns : List Nat} {ps : List (Nat × Nat)} {loc : List (Option Value)} {st : List Value} {h : e_H} {bc bs : Nat} {K : Nat → List (Option Value) → List Value → e_H → Nat → Nat → Prop} {Q : e_O → e_H → Prop}  (hd : decode (e_mb k) pc = .ok (.iushr, 1))  (hK : ∀ pc loc st h bc bs, K pc loc st h bc bs → e_Wp k pc loc st h bc bs Q)
    (H : e_stp loc st h bc bs K Q (e_rt k) (pc, .iushr, len, v, ns, ps)) : e_Wp k pc loc st h bc bs Q := by
  replace H : e_i2 st (fun x y => .int ((x.toUInt32 >>> (y.toUInt32 &&& Int32.toUInt32 31)).toInt32)) (fun r => K (pc + 1) loc r h bc bs) := H
  unfold e_i2 at H
  split at H
  · exact e_pure (fun p l e R s m args below meth c g Hp locs cells slots ls Qs hx hb hr ho ht kk => lv_iushr hx hb hd rfl kk) (hK _ _ _ _ _ _ H)
  · exact False.elim H
theorem e_s_idiv {k pc len : Nat} {v : Value} {ns : List Nat} {ps : List (Nat × Nat)} {loc : List (Option Value)} {st : List Value} {h : e_H} {bc bs : Nat} {K : Nat → List (Option Value) → List Value → e_H → Nat → Nat → Prop} {Q : e_O → e_H → Prop}  (hd : decode (e_mb k) pc = .ok (.idiv, 1))  (hK : ∀ pc loc st h bc bs, K pc loc st h bc bs → e_Wp k pc loc st h bc bs Q)
    (H : e_stp loc st h bc bs K Q (e_rt k) (pc, .idiv, len, v, ns, ps)) : e_Wp k pc loc st h bc bs Q := by
  replace H : e_i2d st (fun x y => .int (x / y)) (fun r => K (pc + 1) loc r h bc bs) := H
  unfold e_i2d at H
  split at H
  · rename_i y x r
    by_cases hy : y = 0
    · rw [decide_eq_true hy] at H
      exact False.elim H
    · rw [decide_eq_false hy] at H
      exact e_pure (fun p l e R s m args below meth c g Hp locs cells slots ls Qs hx hb hr ho ht kk => lv_idiv hx hb hd hy kk) (hK _ _ _ _ _ _ H)
  · exact False.elim H
theorem e_s_irem {k pc len : Nat} {v : Value} {ns : List Nat} {ps : List (Nat × Nat)} {loc : List (Option Value)} {st : List Value} {h : e_H} {bc bs : Nat} {K : Nat → List (Option Value) → List Value → e_H → Nat → Nat → Prop} {Q : e_O → e_H → Prop}  (hd : decode (e_mb k) pc = .ok (.irem, 1))  (hK : ∀ pc loc st h bc bs, K pc loc st h bc bs → e_Wp k pc loc st h bc bs Q)
    (H : e_stp loc st h bc bs K Q (e_rt k) (pc, .irem, len, v, ns, ps)) : e_Wp k pc loc st h bc bs Q := by
  replace H : e_i2d st (fun x y => .int (x - x / y * y)) (fun r => K (pc + 1) loc r h bc bs) := H
  unfold e_i2d at H
  split at H
  · rename_i y x r
    by_cases hy : y = 0
    · rw [decide_eq_true hy] at H
      exact False.elim H
    · rw [decide_eq_false hy] at H
      exact e_pure (fun p l e R s m args below meth c g Hp locs cells slots ls Qs hx hb hr ho ht kk => lv_irem hx hb hd hy kk) (hK _ _ _ _ _ _ H)
  · exact False.elim H
theorem e_s_ineg {k pc len : Nat} {v : Value} {ns : List Nat} {ps : List (Nat × Nat)} {loc : List (Option Value)} {st : List Value} {h : e_H} {bc bs : Nat} {K : Nat → List (Option Value) → List Value → e_H → Nat → Nat → Prop} {Q : e_O → e_H → Prop}  (hd : decode (e_mb k) pc = .ok (.ineg, 1))  (hK : ∀ pc loc st h bc bs, K pc loc st h bc bs → e_Wp k pc loc st h bc bs Q)
    (H : e_stp loc st h bc bs K Q (e_rt k) (pc, .ineg, len, v, ns, ps)) : e_Wp k pc loc st h bc bs Q := by
  replace H : e_i1 st (fun x => .int (-x)) (fun r => K (pc + 1) loc r h bc bs) := H
  unfold e_i1 at H
  split at H
  · exact e_pure (fun p l e R s m args below meth c g Hp locs cells slots ls Qs hx hb hr ho ht kk => lv_ineg hx hb hd kk) (hK _ _ _ _ _ _ H)
  · exact False.elim H
theorem e_s_i2l {k pc len : Nat} {v : Value} {ns : List Nat} {ps : List (Nat × Nat)} {loc : List (Option Value)} {st : List Value} {h : e_H} {bc bs : Nat} {K : Nat → List (Option Value) → List Value → e_H → Nat → Nat → Prop} {Q : e_O → e_H → Prop}  (hd : decode (e_mb k) pc = .ok (.i2l, 1))  (hK : ∀ pc loc st h bc bs, K pc loc st h bc bs → e_Wp k pc loc st h bc bs Q)
    (H : e_stp loc st h bc bs K Q (e_rt k) (pc, .i2l, len, v, ns, ps)) : e_Wp k pc loc st h bc bs Q := by
  replace H : e_i1 st (fun x => .long x.toInt64) (fun r => K (pc + 1) loc r h bc bs) := H
  unfold e_i1 at H
  split at H
  · exact e_pure (fun p l e R s m args below meth c g Hp locs cells slots ls Qs hx hb hr ho ht kk => lv_i2l hx hb hd rfl kk) (hK _ _ _ _ _ _ H)
  · exact False.elim H
theorem e_s_i2c {k pc len : Nat} {v : Value} {ns : List Nat} {ps : List (Nat × Nat)} {loc : List (Option Value)} {st : List Value} {h : e_H} {bc bs : Nat} {K : Nat → List (Option Value) → List Value → e_H → Nat → Nat → Prop} {Q : e_O → e_H → Prop}  (hd : decode (e_mb k) pc = .ok (.i2c, 1))  (hK : ∀ pc loc st h bc bs, K pc loc st h bc bs → e_Wp k pc loc st h bc bs Q)
    (H : e_stp loc st h bc bs K Q (e_rt k) (pc, .i2c, len, v, ns, ps)) : e_Wp k pc loc st h bc bs Q := by
  replace H : e_i1 st (fun x => .int (x.toUInt32 % 65536).toInt32) (fun r => K (pc + 1) loc r h bc bs) := H
  unfold e_i1 at H
  split at H
  · exact e_pure (fun p l e R s m args below meth c g Hp locs cells slots ls Qs hx hb hr ho ht kk => lv_i2c hx hb hd rfl kk) (hK _ _ _ _ _ _ H)
  · exact False.elim H
theorem e_s_i2d {k pc len : Nat} {v : Value} {ns : List Nat} {ps : List (Nat × Nat)} {loc : List (Option Value)} {st : List Value} {h : e_H} {bc bs : Nat} {K : Nat → List (Option Value) → List Value → e_H → Nat → Nat → Prop} {Q : e_O → e_H → Prop}  (hd : decode (e_mb k) pc = .ok (.i2d, 1))  (hK : ∀ pc loc st h bc bs, K pc loc st h bc bs → e_Wp k pc loc st h bc bs Q)
    (H : e_stp loc st h bc bs K Q (e_rt k) (pc, .i2d, len, v, ns, ps)) : e_Wp k pc loc st h bc bs Q := by
  replace H : e_i1 st (fun x => .double (FP.i2d x)) (fun r => K (pc + 1) loc r h bc bs) := H
  unfold e_i1 at H
  split at H
  · exact e_pure (fun p l e R s m args below meth c g Hp locs cells slots ls Qs hx hb hr ho ht kk => lv_i2d hx hb hd kk) (hK _ _ _ _ _ _ H)
  · exact False.elim H
theorem e_s_land {k pc len : Nat} {v : Value} {ns : List Nat} {ps : List (Nat × Nat)} {loc : List (Option Value)} {st : List Value} {h : e_H} {bc bs : Nat} {K : Nat → List (Option Value) → List Value → e_H → Nat → Nat → Prop} {Q : e_O → e_H → Prop}  (hd : decode (e_mb k) pc = .ok (.land, 1))  (hK : ∀ pc loc st h bc bs, K pc loc st h bc bs → e_Wp k pc loc st h bc bs Q)
    (H : e_stp loc st h bc bs K Q (e_rt k) (pc, .land, len, v, ns, ps)) : e_Wp k pc loc st h bc bs Q := by
  replace H : e_l2 st (fun x y => .long (x &&& y)) (fun r => K (pc + 1) loc r h bc bs) := H
  unfold e_l2 at H
  split at H
  · exact e_pure (fun p l e R s m args below meth c g Hp locs cells slots ls Qs hx hb hr ho ht kk => lv_land hx hb hd kk) (hK _ _ _ _ _ _ H)
  · exact False.elim H
theorem e_s_lor {k pc len : Nat} {v : Value} {ns : List Nat} {ps : List (Nat × Nat)} {loc : List (Option Value)} {st : List Value} {h : e_H} {bc bs : Nat} {K : Nat → List (Option Value) → List Value → e_H → Nat → Nat → Prop} {Q : e_O → e_H → Prop}  (hd : decode (e_mb k) pc = .ok (.lor, 1))  (hK : ∀ pc loc st h bc bs, K pc loc st h bc bs → e_Wp k pc loc st h bc bs Q)
    (H : e_stp loc st h bc bs K Q (e_rt k) (pc, .lor, len, v, ns, ps)) : e_Wp k pc loc st h bc bs Q := by
  replace H : e_l2 st (fun x y => .long (x ||| y)) (fun r => K (pc + 1) loc r h bc bs) := H
  unfold e_l2 at H
  split at H
  · exact e_pure (fun p l e R s m args below meth c g Hp locs cells slots ls Qs hx hb hr ho ht kk => lv_lor hx hb hd kk) (hK _ _ _ _ _ _ H)
  · exact False.elim H
theorem e_s_lxor {k pc len : Nat} {v : Value} {ns : List Nat} {ps : List (Nat × Nat)} {loc : List (Option Value)} {st : List Value} {h : e_H} {bc bs : Nat} {K : Nat → List (Option Value) → List Value → e_H → Nat → Nat → Prop} {Q : e_O → e_H → Prop}  (hd : decode (e_mb k) pc = .ok (.lxor, 1))  (hK : ∀ pc loc st h bc bs, K pc loc st h bc bs → e_Wp k pc loc st h bc bs Q)
    (H : e_stp loc st h bc bs K Q (e_rt k) (pc, .lxor, len, v, ns, ps)) : e_Wp k pc loc st h bc bs Q := by
  replace H : e_l2 st (fun x y => .long (x ^^^ y)) (fun r => K (pc + 1) loc r h bc bs) := H
  unfold e_l2 at H
  split at H
  · exact e_pure (fun p l e R s m args below meth c g Hp locs cells slots ls Qs hx hb hr ho ht kk => lv_lxor hx hb hd kk) (hK _ _ _ _ _ _ H)
  · exact False.elim H
theorem e_s_ladd {k pc len : Nat} {v : Value} {ns : List Nat} {ps : List (Nat × Nat)} {loc : List (Option Value)} {st : List Value} {h : e_H} {bc bs : Nat} {K : Nat → List (Option Value) → List Value → e_H → Nat → Nat → Prop} {Q : e_O → e_H → Prop}  (hd : decode (e_mb k) pc = .ok (.ladd, 1))  (hK : ∀ pc loc st h bc bs, K pc loc st h bc bs → e_Wp k pc loc st h bc bs Q)
    (H : e_stp loc st h bc bs K Q (e_rt k) (pc, .ladd, len, v, ns, ps)) : e_Wp k pc loc st h bc bs Q := by
  replace H : e_l2 st (fun x y => .long (x + y)) (fun r => K (pc + 1) loc r h bc bs) := H
  unfold e_l2 at H
  split at H
  · exact e_pure (fun p l e R s m args below meth c g Hp locs cells slots ls Qs hx hb hr ho ht kk => lv_ladd hx hb hd kk) (hK _ _ _ _ _ _ H)
  · exact False.elim H
theorem e_s_lcmp {k pc len : Nat} {v : Value} {ns : List Nat} {ps : List (Nat × Nat)} {loc : List (Option Value)} {st : List Value} {h : e_H} {bc bs : Nat} {K : Nat → List (Option Value) → List Value → e_H → Nat → Nat → Prop} {Q : e_O → e_H → Prop}  (hd : decode (e_mb k) pc = .ok (.lcmp, 1))  (hK : ∀ pc loc st h bc bs, K pc loc st h bc bs → e_Wp k pc loc st h bc bs Q)
    (H : e_stp loc st h bc bs K Q (e_rt k) (pc, .lcmp, len, v, ns, ps)) : e_Wp k pc loc st h bc bs Q := by
  replace H : e_l2 st (fun x y => .int (lg_cmp x y)) (fun r => K (pc + 1) loc r h bc bs) := H
  unfold e_l2 at H
  split at H
  · exact e_pure (fun p l e R s m args below meth c g Hp locs cells slots ls Qs hx hb hr ho ht kk => W.lcmp hx hb hd kk) (hK _ _ _ _ _ _ H)
  · exact False.elim H
theorem e_s_lshl {k pc len : Nat} {v : Value} {ns : List Nat} {ps : List (Nat × Nat)} {loc : List (Option Value)} {st : List Value} {h : e_H} {bc bs : Nat} {K : Nat → List (Option Value) → List Value → e_H → Nat → Nat → Prop} {Q : e_O → e_H → Prop}  (hd : decode (e_mb k) pc = .ok (.lshl, 1))  (hK : ∀ pc loc st h bc bs, K pc loc st h bc bs → e_Wp k pc loc st h bc bs Q)
    (H : e_stp loc st h bc bs K Q (e_rt k) (pc, .lshl, len, v, ns, ps)) : e_Wp k pc loc st h bc bs Q := by
  replace H : e_lsh st (fun x y => .long (x <<< (y.toInt64 &&& 63))) (fun r => K (pc + 1) loc r h bc bs) := H
  unfold e_lsh at H
  split at H
  · exact e_pure (fun p l e R s m args below meth c g Hp locs cells slots ls Qs hx hb hr ho ht kk => lv_lshl hx hb hd rfl kk) (hK _ _ _ _ _ _ H)
  · exact False.elim H
theorem e_s_lshr {k pc len : Nat} {v : Value} {ns : List Nat} {ps : List (Nat × Nat)} {loc : List (Option Value)} {st : List Value} {h : e_H} {bc bs : Nat} {K : Nat → List (Option Value) → List Value → e_H → Nat → Nat → Prop} {Q : e_O → e_H → Prop}  (hd : decode (e_mb k) pc = .ok (.lshr, 1))  (hK : ∀ pc loc st h bc bs, K pc loc st h bc bs → e_Wp k pc loc st h bc bs Q)
    (H : e_stp loc st h bc bs K Q (e_rt k) (pc, .lshr, len, v, ns, ps)) : e_Wp k pc loc st h bc bs Q := by
  replace H : e_lsh st (fun x y => .long (x >>> (y.toInt64 &&& 63))) (fun r => K (pc + 1) loc r h bc bs) := H
  unfold e_lsh at H
  split at H
  · exact e_pure (fun p l e R s m args below meth c g Hp locs cells slots ls Qs hx hb hr ho ht kk => lv_lshr hx hb hd rfl kk) (hK _ _ _ _ _ _ H)
  · exact False.elim H
theorem e_s_lushr {k pc len : Nat} {v : Value} {ns : List Nat} {ps : List (Nat × Nat)} {loc : List (Option Value)} {st : List Value} {h : e_H} {bc bs : Nat} {K : Nat → List (Option Value) → List Value → e_H → Nat → Nat → Prop} {Q : e_O → e_H → Prop}  (hd : decode (e_mb k) pc = .ok (.lushr, 1))  (hK : ∀ pc loc st h bc bs, K pc loc st h bc bs → e_Wp k pc loc st h bc bs Q)
    (H : e_stp loc st h bc bs K Q (e_rt k) (pc, .lushr, len, v, ns, ps)) : e_Wp k pc loc st h bc bs Q := by
  replace H : e_lsh st (fun x y => .long ((x.toUInt64 >>> (y.toInt64.toUInt64 &&& Int64.toUInt64 63)).toInt64)) (fun r => K (pc + 1) loc r h bc bs) := H
  unfold e_lsh at H
  split at H
  · exact e_pure (fun p l e R s m args below meth c g Hp locs cells slots ls Qs hx hb hr ho ht kk => lv_lushr hx hb hd rfl kk) (hK _ _ _ _ _ _ H)
  · exact False.elim H
theorem e_s_ddiv {k pc len : Nat} {v : Value} {ns : List Nat} {ps : List (Nat × Nat)} {loc : List (Option Value)} {st : List Value} {h : e_H} {bc bs : Nat} {K : Nat → List (Option Value) → List Value → e_H → Nat → Nat → Prop} {Q : e_O → e_H → Prop}  (hd : decode (e_mb k) pc = .ok (.ddiv, 1))  (hK : ∀ pc loc st h bc bs, K pc loc st h bc bs → e_Wp k pc loc st h bc bs Q)
    (H : e_stp loc st h bc bs K Q (e_rt k) (pc, .ddiv, len, v, ns, ps)) : e_Wp k pc loc st h bc bs Q := by
  replace H : e_ddv st (fun r => K (pc + 1) loc r h bc bs) := H
  unfold e_ddv at H
  split at H
  · exact e_pure (fun p l e R s m args below meth c g Hp locs cells slots ls Qs hx hb hr ho ht kk => lv_ddiv hx hb hd H.1 kk) (hK _ _ _ _ _ _ H.2)
  · exact False.elim H
theorem e_s_dcmp {k pc len : Nat} {v : Value} {ns : List Nat} {ps : List (Nat × Nat)} {loc : List (Option Value)} {st : List Value} {h : e_H} {bc bs : Nat} {K : Nat → List (Option Value) → List Value → e_H → Nat → Nat → Prop} {Q : e_O → e_H → Prop} {op : CmpOp} (hd : decode (e_mb k) pc = .ok (.dcmp op, 1))  (hK : ∀ pc loc st h bc bs, K pc loc st h bc bs → e_Wp k pc loc st h bc bs Q)
    (H : e_stp loc st h bc bs K Q (e_rt k) (pc, .dcmp op, len, v, ns, ps)) : e_Wp k pc loc st h bc bs Q := by
  replace H : e_d2 st (fun x y => .int (Op.cmpValue (FP.dcmp x y) op)) (fun r => K (pc + 1) loc r h bc bs) := H
  unfold e_d2 at H
  split at H
  · exact e_pure (fun p l e R s m args below meth c g Hp locs cells slots ls Qs hx hb hr ho ht kk => lv_dcmp hx hb hd kk) (hK _ _ _ _ _ _ H)
  · exact False.elim H
theorem e_s_dup {k pc len : Nat} {v : Value} {ns : List Nat} {ps : List (Nat × Nat)} {loc : List (Option Value)} {st : List Value} {h : e_H} {bc bs : Nat} {K : Nat → List (Option Value) → List Value → e_H → Nat → Nat → Prop} {Q : e_O → e_H → Prop}  (hd : decode (e_mb k) pc = .ok (.dup, 1))  (hK : ∀ pc loc st h bc bs, K pc loc st h bc bs → e_Wp k pc loc st h bc bs Q)
    (H : e_stp loc st h bc bs K Q (e_rt k) (pc, .dup, len, v, ns, ps)) : e_Wp k pc loc st h bc bs Q := by
  replace H : e_dup st (fun r => K (pc + 1) loc r h bc bs) := H
  unfold e_dup at H
  split at H
  · rename_i w r0
    cases hb0 : Nat.beq w.category 1 with
    | false => rw [hb0] at H; exact False.elim H
    | true =>
      rw [hb0] at H
      exact e_pure (fun p l e R s m args below meth c g Hp locs cells slots ls Qs hx hb hr ho ht kk => lv_dup hx hb hd ((e_rel_cat (e_refc hr) _).trans (Nat.eq_of_beq_eq_true hb0)) kk) (hK _ _ _ _ _ _ H)
  · exact False.elim H
theorem e_s_pop {k pc len : Nat} {v : Value} {ns : List Nat} {ps : List (Nat × Nat)} {loc : List (Option Value)} {st : List Value} {h : e_H} {bc bs : Nat} {K : Nat → List (Option Value) → List Value → e_H → Nat → Nat → Prop} {Q : e_O → e_H → Prop}  (hd : decode (e_mb k) pc = .ok (.pop, 1))  (hK : ∀ pc loc st h bc bs, K pc loc st h bc bs → e_Wp k pc loc st h bc bs Q)
    (H : e_stp loc st h bc bs K Q (e_rt k) (pc, .pop, len, v, ns, ps)) : e_Wp k pc loc st h bc bs Q := by
  replace H : e_pop st (fun r => K (pc + 1) loc r h bc bs) := H
  unfold e_pop at H
  split at H
  · rename_i w r0
    cases hb0 : Nat.beq w.category 1 with
    | false => rw [hb0] at H; exact False.elim H
    | true =>
      rw [hb0] at H
      exact e_pure (fun p l e R s m args below meth c g Hp locs cells slots ls Qs hx hb hr ho ht kk => lv_pop hx hb hd ((e_rel_cat (e_refc hr) _).trans (Nat.eq_of_beq_eq_true hb0)) kk) (hK _ _ _ _ _ _ H)
  · exact False.elim H
theorem e_s_dup2 {k pc len : Nat} {v : Value} {ns : List Nat} {ps : List (Nat × Nat)} {loc : List (Option Value)} {st : List Value} {h : e_H} {bc bs : Nat} {K : Nat → List (Option Value) → List Value → e_H → Nat → Nat → Prop} {Q : e_O → e_H → Prop}  (hd : decode (e_mb k) pc = .ok (.dup2, 1))  (hK : ∀ pc loc st h bc bs, K pc loc st h bc bs → e_Wp k pc loc st h bc bs Q)
    (H : e_stp loc st h bc bs K Q (e_rt k) (pc, .dup2, len, v, ns, ps)) : e_Wp k pc loc st h bc bs Q := by
  replace H : e_dup2 st (fun r => K (pc + 1) loc r h bc bs) := H
  unfold e_dup2 at H
  split at H
  · rename_i w1 w2 r0
    cases hb1 : Nat.beq w1.category 1 with
    | false => rw [hb1] at H; exact False.elim H
    | true =>
      cases hb2 : Nat.beq w2.category 1 with
      | false => rw [hb1, hb2] at H; exact False.elim H
      | true =>
        rw [hb1, hb2] at H
        exact e_pure (fun p l e R s m args below meth c g Hp locs cells slots ls Qs hx hb hr ho ht kk => lv_dup2_11 hx hb hd ((e_rel_cat (e_refc hr) _).trans (Nat.eq_of_beq_eq_true hb1)) ((e_rel_cat (e_refc hr) _).trans (Nat.eq_of_beq_eq_true hb2)) kk) (hK _ _ _ _ _ _ H)
  · exact False.elim H
theorem e_s_pop2 {k pc len : Nat} {v : Value} {ns : List Nat} {ps : List (Nat × Nat)} {loc : List (Option Value)} {st : List Value} {h : e_H} {bc bs : Nat} {K : Nat → List (Option Value) → List Value → e_H → Nat → Nat → Prop} {Q : e_O → e_H → Prop}  (hd : decode (e_mb k) pc = .ok (.pop2, 1))  (hK : ∀ pc loc st h bc bs, K pc loc st h bc bs → e_Wp k pc loc st h bc bs Q)
    (H : e_stp loc st h bc bs K Q (e_rt k) (pc, .pop2, len, v, ns, ps)) : e_Wp k pc loc st h bc bs Q := by
  replace H : e_pop2 st (fun r => K (pc + 1) loc r h bc bs) := H
  unfold e_pop2 at H
  split at H
  · rename_i w1 w2 r0
    cases hb1 : Nat.beq w1.category 1 with
    | false => rw [hb1] at H; exact False.elim H
    | true =>
      cases hb2 : Nat.beq w2.category 1 with
      | false => rw [hb1, hb2] at H; exact False.elim H
      | true =>
        rw [hb1, hb2] at H
        exact e_pure (fun p l e R s m args below meth c g Hp locs cells slots ls Qs hx hb hr ho ht kk => lv_pop2_11 hx hb hd ((e_rel_cat (e_refc hr) _).trans (Nat.eq_of_beq_eq_true hb1)) ((e_rel_cat (e_refc hr) _).trans (Nat.eq_of_beq_eq_true hb2)) kk) (hK _ _ _ _ _ _ H)
  · exact False.elim H
theorem e_s_goto {k pc len : Nat} {v : Value} {ns : List Nat} {ps : List (Nat × Nat)} {loc : List (Option Value)} {st : List Value} {h : e_H} {bc bs : Nat} {K : Nat → List (Option Value) → List Value → e_H → Nat → Nat → Prop} {Q : e_O → e_H → Prop} {o : Int} {t : Nat} (hd : decode (e_mb k) pc = .ok (.goto o, 3)) (hns : ns = [t]) (ht : (pc : Int) + o = (t : Int)) (hK : ∀ pc loc st h bc bs, K pc loc st h bc bs → e_Wp k pc loc st h bc bs Q)
    (H : e_stp loc st h bc bs K Q (e_rt k) (pc, .goto o, len, v, ns, ps)) : e_Wp k pc loc st h bc bs Q := by
  subst hns
  exact e_pure (fun p l e R s m args below meth c g Hp locs cells slots ls Qs hx hb hr ho _ kk => lv_goto hx hb hd ht kk) (hK _ _ _ _ _ _ H)
theorem e_s_if_eq {k pc len : Nat} {v : Value} {ns : List Nat} {ps : List (Nat × Nat)} {loc : List (Option Value)} {st : List Value} {h : e_H} {bc bs : Nat} {K : Nat → List (Option Value) → List Value → e_H → Nat → Nat → Prop} {Q : e_O → e_H → Prop} {o : Int} {t : Nat} (hd : decode (e_mb k) pc = .ok (.ifCond .eq o, 3)) (hns : ns = [t]) (ht : (pc : Int) + o = (t : Int)) (hK : ∀ pc loc st h bc bs, K pc loc st h bc bs → e_Wp k pc loc st h bc bs Q)
    (H : e_stp loc st h bc bs K Q (e_rt k) (pc, .ifCond .eq o, len, v, ns, ps)) : e_Wp k pc loc st h bc bs Q := by
  subst hns
  replace H : e_br1 st (fun x => x = 0) (fun r => K t loc r h bc bs) (fun r => K (pc + 3) loc r h bc bs) := H
  unfold e_br1 at H
  split at H
  · exact e_two (fun p l e R s m args below meth c g Hp locs cells slots ls Qs hx hb kt kf => lv_if_eq hx hb hd ht kt kf) ⟨fun hc => hK _ _ _ _ _ _ (H.1 hc), fun hc => hK _ _ _ _ _ _ (H.2 hc)⟩
  · exact False.elim H
theorem e_s_icmp_eq {k pc len : Nat} {v : Value} {ns : List Nat} {ps : List (Nat × Nat)} {loc : List (Option Value)} {st : List Value} {h : e_H} {bc bs : Nat} {K : Nat → List (Option Value) → List Value → e_H → Nat → Nat → Prop} {Q : e_O → e_H → Prop} {o : Int} {t : Nat} (hd : decode (e_mb k) pc = .ok (.if_icmp .eq o, 3)) (hns : ns = [t]) (ht : (pc : Int) + o = (t : Int)) (hK : ∀ pc loc st h bc bs, K pc loc st h bc bs → e_Wp k pc loc st h bc bs Q)
    (H : e_stp loc st h bc bs K Q (e_rt k) (pc, .if_icmp .eq o, len, v, ns, ps)) : e_Wp k pc loc st h bc bs Q := by
  subst hns
  replace H : e_br2 st (fun x y => x = y) (fun r => K t loc r h bc bs) (fun r => K (pc + 3) loc r h bc bs) := H
  unfold e_br2 at H
  split at H
  · exact e_two (fun p l e R s m args below meth c g Hp locs cells slots ls Qs hx hb kt kf => lv_icmp_eq hx hb hd ht kt kf) ⟨fun hc => hK _ _ _ _ _ _ (H.1 hc), fun hc => hK _ _ _ _ _ _ (H.2 hc)⟩
  · exact False.elim H
theorem e_s_if_ne {k pc len : Nat} {v : Value} {ns : List Nat} {ps : List (Nat × Nat)} {loc : List (Option Value)} {st : List Value} {h : e_H} {bc bs : Nat} {K : Nat → List (Option Value) → List Value → e_H → Nat → Nat → Prop} {Q : e_O → e_H → Prop} {o : Int} {t : Nat} (hd : decode (e_mb k) pc = .ok (.ifCond .ne o, 3)) (hns : ns = [t]) (ht : (pc : Int) + o = (t : Int)) (hK : ∀ pc loc st h bc bs, K pc loc st h bc bs → e_Wp k pc loc st h bc bs Q)
    (H : e_stp loc st h bc bs K Q (e_rt k) (pc, .ifCond .ne o, len, v, ns, ps)) : e_Wp k pc loc st h bc bs Q := by
  subst hns
  replace H : e_br1 st (fun x => ¬ x = 0) (fun r => K t loc r h bc bs) (fun r => K (pc + 3) loc r h bc bs) := H
  unfold e_br1 at H
  split at H
  · exact e_two (fun p l e R s m args below meth c g Hp locs cells slots ls Qs hx hb kt kf => lv_if_ne hx hb hd ht kt (fun h1 => kf (fun h2 => h2 h1))) ⟨fun hc => hK _ _ _ _ _ _ (H.1 hc), fun hc => hK _ _ _ _ _ _ (H.2 hc)⟩
  · exact False.elim H
theorem e_s_icmp_ne {k pc len : Nat} {v : Value} {ns : List Nat} {ps : List (Nat × Nat)} {loc : List (Option Value)} {st : List Value} {h : e_H} {bc bs : Nat} {K : Nat → List (Option Value) → List Value → e_H → Nat → Nat → Prop} {Q : e_O → e_H → Prop} {o : Int} {t : Nat} (hd : decode (e_mb k) pc = .ok (.if_icmp .ne o, 3)) (hns : ns = [t]) (ht : (pc : Int) + o = (t : Int)) (hK : ∀ pc loc st h bc bs, K pc loc st h bc bs → e_Wp k pc loc st h bc bs Q)
    (H : e_stp loc st h bc bs K Q (e_rt k) (pc, .if_icmp .ne o, len, v, ns, ps)) : e_Wp k pc loc st h bc bs Q := by
  subst hns
  replace H : e_br2 st (fun x y => ¬ x = y) (fun r => K t loc r h bc bs) (fun r => K (pc + 3) loc r h bc bs) := H
  unfold e_br2 at H
  split at H
  · exact e_two (fun p l e R s m args below meth c g Hp locs cells slots ls Qs hx hb kt kf => lv_icmp_ne hx hb hd ht kt (fun h1 => kf (fun h2 => h2 h1))) ⟨fun hc => hK _ _ _ _ _ _ (H.1 hc), fun hc => hK _ _ _ _ _ _ (H.2 hc)⟩
  · exact False.elim H
theorem e_s_if_lt {k pc len : Nat} {v : Value} {ns : List Nat} {ps : List (Nat × Nat)} {loc : List (Option Value)} {st : List Value} {h : e_H} {bc bs : Nat} {K : Nat → List (Option Value) → List Value → e_H → Nat → Nat → Prop} {Q : e_O → e_H → Prop} {o : Int} {t : Nat} (hd : decode (e_mb k) pc = .ok (.ifCond .lt o, 3)) (hns : ns = [t]) (ht : (pc : Int) + o = (t : Int)) (hK : ∀ pc loc st h bc bs, K pc loc st h bc bs → e_Wp k pc loc st h bc bs Q)
    (H : e_stp loc st h bc bs K Q (e_rt k) (pc, .ifCond .lt o, len, v, ns, ps)) : e_Wp k pc loc st h bc bs Q := by
  subst hns
  replace H : e_br1 st (fun x => x < 0) (fun r => K t loc r h bc bs) (fun r => K (pc + 3) loc r h bc bs) := H
  unfold e_br1 at H
  split at H
  · exact e_two (fun p l e R s m args below meth c g Hp locs cells slots ls Qs hx hb kt kf => lv_if_lt hx hb hd ht kt kf) ⟨fun hc => hK _ _ _ _ _ _ (H.1 hc), fun hc => hK _ _ _ _ _ _ (H.2 hc)⟩
  · exact False.elim H
theorem e_s_icmp_lt {k pc len : Nat} {v : Value} {ns : List Nat} {ps : List (Nat × Nat)} {loc : List (Option Value)} {st : List Value} {h : e_H} {bc bs : Nat} {K : Nat → List (Option Value) → List Value → e_H → Nat → Nat → Prop} {Q : e_O → e_H → Prop} {o : Int} {t : Nat} (hd : decode (e_mb k) pc = .ok (.if_icmp .lt o, 3)) (hns : ns = [t]) (ht : (pc : Int) + o = (t : Int)) (hK : ∀ pc loc st h bc bs, K pc loc st h bc bs → e_Wp k pc loc st h bc bs Q)
    (H : e_stp loc st h bc bs K Q (e_rt k) (pc, .if_icmp .lt o, len, v, ns, ps)) : e_Wp k pc loc st h bc bs Q := by
  subst hns
  replace H : e_br2 st (fun x y => x < y) (fun r => K t loc r h bc bs) (fun r => K (pc + 3) loc r h bc bs) := H
  unfold e_br2 at H
  split at H
  · exact e_two (fun p l e R s m args below meth c g Hp locs cells slots ls Qs hx hb kt kf => lv_icmp_lt hx hb hd ht kt kf) ⟨fun hc => hK _ _ _ _ _ _ (H.1 hc), fun hc => hK _ _ _ _ _ _ (H.2 hc)⟩
  · exact False.elim H
theorem e_s_if_ge {k pc len : Nat} {v : Value} {ns : List Nat} {ps : List (Nat × Nat)} {loc : List (Option Value)} {st : List Value} {h : e_H} {bc bs : Nat} {K : Nat → List (Option Value) → List Value → e_H → Nat → Nat → Prop} {Q : e_O → e_H → Prop} {o : Int} {t : Nat} (hd : decode (e_mb k) pc = .ok (.ifCond .ge o, 3)) (hns : ns = [t]) (ht : (pc : Int) + o = (t : Int)) (hK : ∀ pc loc st h bc bs, K pc loc st h bc bs → e_Wp k pc loc st h bc bs Q)
    (H : e_stp loc st h bc bs K Q (e_rt k) (pc, .ifCond .ge o, len, v, ns, ps)) : e_Wp k pc loc st h bc bs Q := by
  subst hns
  replace H : e_br1 st (fun x => 0 ≤ x) (fun r => K t loc r h bc bs) (fun r => K (pc + 3) loc r h bc bs) := H
  unfold e_br1 at H
  split at H
  · exact e_two (fun p l e R s m args below meth c g Hp locs cells slots ls Qs hx hb kt kf => lv_if_ge hx hb hd ht kt kf) ⟨fun hc => hK _ _ _ _ _ _ (H.1 hc), fun hc => hK _ _ _ _ _ _ (H.2 hc)⟩
  · exact False.elim H
theorem e_s_icmp_ge {k pc len : Nat} {v : Value} {ns : List Nat} {ps : List (Nat × Nat)} {loc : List (Option Value)} {st : List Value} {h : e_H} {bc bs : Nat} {K : Nat → List (Option Value) → List Value → e_H → Nat → Nat → Prop} {Q : e_O → e_H → Prop} {o : Int} {t : Nat} (hd : decode (e_mb k) pc = .ok (.if_icmp .ge o, 3)) (hns : ns = [t]) (ht : (pc : Int) + o = (t : Int)) (hK : ∀ pc loc st h bc bs, K pc loc st h bc bs → e_Wp k pc loc st h bc bs Q)
    (H : e_stp loc st h bc bs K Q (e_rt k) (pc, .if_icmp .ge o, len, v, ns, ps)) : e_Wp k pc loc st h bc bs Q := by
  subst hns
  replace H : e_br2 st (fun x y => y ≤ x) (fun r => K t loc r h bc bs) (fun r => K (pc + 3) loc r h bc bs) := H
  unfold e_br2 at H
  split at H
  · exact e_two (fun p l e R s m args below meth c g Hp locs cells slots ls Qs hx hb kt kf => lv_icmp_ge hx hb hd ht kt kf) ⟨fun hc => hK _ _ _ _ _ _ (H.1 hc), fun hc => hK _ _ _ _ _ _ (H.2 hc)⟩
  · exact False.elim H
theorem e_s_if_gt {k pc len : Nat} {v : Value} {ns : List Nat} {ps : List (Nat × Nat)} {loc : List (Option Value)} {st : List Value} {h : e_H} {bc bs : Nat} {K : Nat → List (Option Value) → List Value → e_H → Nat → Nat → Prop} {Q : e_O → e_H → Prop} {o : Int} {t : Nat} (hd : decode (e_mb k) pc = .ok (.ifCond .gt o, 3)) (hns : ns = [t]) (ht : (pc : Int) + o = (t : Int)) (hK : ∀ pc loc st h bc bs, K pc loc st h bc bs → e_Wp k pc loc st h bc bs Q)
    (H : e_stp loc st h bc bs K Q (e_rt k) (pc, .ifCond .gt o, len, v, ns, ps)) : e_Wp k pc loc st h bc bs Q := by
  subst hns
  replace H : e_br1 st (fun x => 0 < x) (fun r => K t loc r h bc bs) (fun r => K (pc + 3) loc r h bc bs) := H
  unfold e_br1 at H
  split at H
  · exact e_two (fun p l e R s m args below meth c g Hp locs cells slots ls Qs hx hb kt kf => lv_if_gt hx hb hd ht kt kf) ⟨fun hc => hK _ _ _ _ _ _ (H.1 hc), fun hc => hK _ _ _ _ _ _ (H.2 hc)⟩
  · exact False.elim H
theorem e_s_icmp_gt {k pc len : Nat} {v : Value} {ns : List Nat} {ps : List (Nat × Nat)} {loc : List (Option Value)} {st : List Value} {h : e_H} {bc bs : Nat} {K : Nat → List (Option Value) → List Value → e_H → Nat → Nat → Prop} {Q : e_O → e_H → Prop} {o : Int} {t : Nat} (hd : decode (e_mb k) pc = .ok (.if_icmp .gt o, 3)) (hns : ns = [t]) (ht : (pc : Int) + o = (t : Int)) (hK : ∀ pc loc st h bc bs, K pc loc st h bc bs → e_Wp k pc loc st h bc bs Q)
    (H : e_stp loc st h bc bs K Q (e_rt k) (pc, .if_icmp .gt o, len, v, ns, ps)) : e_Wp k pc loc st h bc bs Q := by
  subst hns
  replace H : e_br2 st (fun x y => y < x) (fun r => K t loc r h bc bs) (fun r => K (pc + 3) loc r h bc bs) := H
  unfold e_br2 at H
  split at H
  · exact e_two (fun p l e R s m args below meth c g Hp locs cells slots ls Qs hx hb kt kf => lv_icmp_gt hx hb hd ht kt kf) ⟨fun hc => hK _ _ _ _ _ _ (H.1 hc), fun hc => hK _ _ _ _ _ _ (H.2 hc)⟩
  · exact False.elim H
theorem e_s_if_le {k pc len : Nat} {v : Value} {ns : List Nat} {ps : List (Nat × Nat)} {loc : List (Option Value)} {st : List Value} {h : e_H} {bc bs : Nat} {K : Nat → List (Option Value) → List Value → e_H → Nat → Nat → Prop} {Q : e_O → e_H → Prop} {o : Int} {t : Nat} (hd : decode (e_mb k) pc = .ok (.ifCond .le o, 3)) (hns : ns = [t]) (ht : (pc : Int) + o = (t : Int)) (hK : ∀ pc loc st h bc bs, K pc loc st h bc bs → e_Wp k pc loc st h bc bs Q)
    (H : e_stp loc st h bc bs K Q (e_rt k) (pc, .ifCond .le o, len, v, ns, ps)) : e_Wp k pc loc st h bc bs Q := by
  subst hns
  replace H : e_br1 st (fun x => x ≤ 0) (fun r => K t loc r h bc bs) (fun r => K (pc + 3) loc r h bc bs) := H
  unfold e_br1 at H
  split at H
  · exact e_two (fun p l e R s m args below meth c g Hp locs cells slots ls Qs hx hb kt kf => lv_if_le hx hb hd ht kt kf) ⟨fun hc => hK _ _ _ _ _ _ (H.1 hc), fun hc => hK _ _ _ _ _ _ (H.2 hc)⟩
  · exact False.elim H
theorem e_s_icmp_le {k pc len : Nat} {v : Value} {ns : List Nat} {ps : List (Nat × Nat)} {loc : List (Option Value)} {st : List Value} {h : e_H} {bc bs : Nat} {K : Nat → List (Option Value) → List Value → e_H → Nat → Nat → Prop} {Q : e_O → e_H → Prop} {o : Int} {t : Nat} (hd : decode (e_mb k) pc = .ok (.if_icmp .le o, 3)) (hns : ns = [t]) (ht : (pc : Int) + o = (t : Int)) (hK : ∀ pc loc st h bc bs, K pc loc st h bc bs → e_Wp k pc loc st h bc bs Q)
    (H : e_stp loc st h bc bs K Q (e_rt k) (pc, .if_icmp .le o, len, v, ns, ps)) : e_Wp k pc loc st h bc bs Q := by
  subst hns
  replace H : e_br2 st (fun x y => x ≤ y) (fun r => K t loc r h bc bs) (fun r => K (pc + 3) loc r h bc bs) := H
  unfold e_br2 at H
  split at H
  · exact e_two (fun p l e R s m args below meth c g Hp locs cells slots ls Qs hx hb kt kf => lv_icmp_le hx hb hd ht kt kf) ⟨fun hc => hK _ _ _ _ _ _ (H.1 hc), fun hc => hK _ _ _ _ _ _ (H.2 hc)⟩
  · exact False.elim H
theorem e_s_ifnull {k pc len : Nat} {v : Value} {ns : List Nat} {ps : List (Nat × Nat)} {loc : List (Option Value)} {st : List Value} {h : e_H} {bc bs : Nat} {K : Nat → List (Option Value) → List Value → e_H → Nat → Nat → Prop} {Q : e_O → e_H → Prop} {o : Int} {t : Nat} (hd : decode (e_mb k) pc = .ok (.ifnull o, 3)) (hns : ns = [t]) (ht : (pc : Int) + o = (t : Int)) (hK : ∀ pc loc st h bc bs, K pc loc st h bc bs → e_Wp k pc loc st h bc bs Q)
    (H : e_stp loc st h bc bs K Q (e_rt k) (pc, .ifnull o, len, v, ns, ps)) : e_Wp k pc loc st h bc bs Q := by
  subst hns
  replace H : e_brN st (fun r => K t loc r h bc bs) (fun r => K (pc + 3) loc r h bc bs) := H
  unfold e_brN at H
  split at H
  · exact e_pure (fun p l e R s m args below meth c g Hp locs cells slots ls Qs hx hb hr ho _ kk => lv_ifnullN hx hb hd ht kk) (hK _ _ _ _ _ _ H)
  · exact e_pure (fun p l e R s m args below meth c g Hp locs cells slots ls Qs hx hb hr ho _ kk => lv_ifnull hx hb hd kk) (hK _ _ _ _ _ _ H)
  · exact False.elim H
theorem e_s_ifnonnull {k pc len : Nat} {v : Value} {ns : List Nat} {ps : List (Nat × Nat)} {loc : List (Option Value)} {st : List Value} {h : e_H} {bc bs : Nat} {K : Nat → List (Option Value) → List Value → e_H → Nat → Nat → Prop} {Q : e_O → e_H → Prop} {o : Int} {t : Nat} (hd : decode (e_mb k) pc = .ok (.ifnonnull o, 3)) (hns : ns = [t]) (ht : (pc : Int) + o = (t : Int)) (hK : ∀ pc loc st h bc bs, K pc loc st h bc bs → e_Wp k pc loc st h bc bs Q)
    (H : e_stp loc st h bc bs K Q (e_rt k) (pc, .ifnonnull o, len, v, ns, ps)) : e_Wp k pc loc st h bc bs Q := by
  subst hns
  replace H : e_brN st (fun r => K (pc + 3) loc r h bc bs) (fun r => K t loc r h bc bs) := H
  unfold e_brN at H
  split at H
  · exact e_pure (fun p l e R s m args below meth c g Hp locs cells slots ls Qs hx hb hr ho _ kk => lv_ifnonnullN hx hb hd kk) (hK _ _ _ _ _ _ H)
  · exact e_pure (fun p l e R s m args below meth c g Hp locs cells slots ls Qs hx hb hr ho _ kk => lv_ifnonnull hx hb hd ht kk) (hK _ _ _ _ _ _ H)
  · exact False.elim H
