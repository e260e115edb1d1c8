theorem e_wsS {own : String} {ix z : Nat} (hz : z < 308) (hw1 : Cond.methodLink own ix (e_nm z) ∈ e_tb) (hw2 : Cond.static (e_nm z) ∈ e_tb) (hw3 : Cond.initialized (e_nm z).cls ∈ e_tb) : GoodIn e_tb (va_wsS own ix (e_nm z) (e_wsk z)) := by
  intro w hw
  unfold va_wsS at hw
  rcases List.mem_append.mp hw with hw | hw
  · simp only [List.mem_cons, List.not_mem_nil, or_false] at hw
    rcases hw with rfl | rfl | rfl
    · exact e_tb_good _ hw1
    · exact e_tb_good _ hw2
    · exact e_tb_good _ hw3
  · exact e_wsk_good hz w hw
theorem e_s_ins0 {k pc len : Nat} {v : Value} {ns : List Nat} {ps : List (Nat × Nat)} {loc : List (Option Value)} {st : List Value} {h : e_H} {bc bs : Nat} {K : Nat → List (Option Value) → List Value → e_H → Nat → Nat → Prop} {Q : e_O → e_H → Prop} {ix z n c1 s1 : Nat} (hd : decode (e_mb k) pc = .ok (.invokestatic ix, 3)) (hns : ns = [z, n, 0, c1, s1]) (hck : e_ckc k z n c1 s1 = true) (hhk : e_hh k = []) (hhz : e_hh z = []) (hw1 : Cond.methodLink (e_nm k).cls ix (e_nm z) ∈ e_tb) (hw2 : Cond.static (e_nm z) ∈ e_tb) (hw3 : Cond.initialized (e_nm z).cls ∈ e_tb) (hK : ∀ pc loc st h bc bs, K pc loc st h bc bs → e_Wp k pc loc st h bc bs Q)
    (H : e_stp loc st h bc bs K Q (e_rt k) (pc, .invokestatic ix, len, v, ns, ps)) : e_Wp k pc loc st h bc bs Q := by
  subst hns
  replace H : e_ins loc st h bc bs K Q pc [z, n, 0, c1, s1] := H
  obtain ⟨hc1, hs1, hdd, hll, hnp, hz⟩ := e_ckcd hck
  obtain ⟨f1, f2, f3⟩ := e_fdg hz hnp
  have hwz : e_wsk z = .code (e_nm z) (e_mb z) (e_ml z) (e_rt z) :: e_tb := by unfold e_wsk; rw [if_pos hhz]
  replace H : bif (Nat.beq 0 0 || Nat.beq 0 1) && e_ok loc st h bc bs c1 s1 n (st.drop n) then e_M z (st.take n).reverse h (e_aft [] loc bc bs K Q pc c1 s1 (st.drop n)) else False := H
  obtain ⟨hok, hM⟩ := e_bif H
  simp only [Bool.and_eq_true] at hok
  obtain ⟨o1, o2, o3, o4, o5⟩ := e_okd hok.2
  intro p l e R s m args below meth c g A Hp locs cells slots mc ms ls Qc XC C hw hS hl hn hcb hsb hk
  have hts := C.2.2.2.2.1
  have hR1 : R.frames = e_dd k := C.2.2.2.2.2.2.2.2.2.1
  have hR2 : R.locals = e_ll k := C.2.2.2.2.2.2.2.2.2.2.1
  have hR3 : R.cells = mc := C.2.2.2.2.2.2.2.2.2.2.2.1
  have hR4 : R.slots = ms := C.2.2.2.2.2.2.2.2.2.2.2.2.1
  have hrun := vx_runS (p := p) (l := l) (e := e) (R := R) (s := s) (m := m) (args := args) (below := below) (meth := meth) (c := c) (H := Hp) (locs := locs) (cells := cells) (slots := slots) (As := (st.take n).reverse.map (e_rel g)) (rest := (st.drop n).map (e_rel g)) (g := F0 m pc ls (st.map (e_rel g))) (n := n)
    ⟨C.1, C.2.1, C.2.2.1, C.2.2.2.1, hts⟩ (hM l C.2.2.2.2.2.2.2.2.2.2.2.2.2.1 g Hp.size)
    ⟨callB_of n hts (e_wsk_good hz) hwz rfl rfl (hts _ hw3) (hts _ hw1) ⟨f1, f2, f3⟩ ⟨by rw [hR1]; exact hdd, by rw [hR2]; exact hll⟩, hts _ hw2⟩
    ⟨e_blind, e_pre C hw hS⟩ rfl (by rw [List.length_map, List.length_reverse, List.length_take]; omega) hl.1
    e_take_rev (by show 2 * 0 + _ ≤ 8; rw [e_cat_rel C.2.2.2.2.2.2.2.2.2.2.2.2.2.2.2.2.1]; omega) hd ⟨by rw [hR3, ← hc1]; omega, by rw [hR4, ← hs1]; omega⟩
  rw [← hc1, ← hs1] at hrun
  refine e_callW C hw hS hl hn hcb hsb hk o1 o2 o5 hrun (fun v h' hΦ => ?_) (e_behind (ph := []) hK hn hcb hsb o1 o2 (by rw [hhk]; rfl) (by rw [hhk]; intro w hw0; cases hw0))
  cases v with
  | none => exact hK _ _ _ _ _ _ hΦ
  | some v => exact hK _ _ _ _ _ _ hΦ
theorem e_s_ins1 {k pc len : Nat} {v : Value} {ns : List Nat} {ps : List (Nat × Nat)} {loc : List (Option Value)} {st : List Value} {h : e_H} {bc bs : Nat} {K : Nat → List (Option Value) → List Value → e_H → Nat → Nat → Prop} {Q : e_O → e_H → Prop} {ix z n c1 s1 : Nat} (hd : decode (e_mb k) pc = .ok (.invokestatic ix, 3)) (hns : ns = [z, n, 1, c1, s1]) (hck : e_ckc k z n c1 s1 = true) (hhk : e_hh k = []) (hhz : e_hh z ≠ []) (hw1 : Cond.methodLink (e_nm k).cls ix (e_nm z) ∈ e_tb) (hw2 : Cond.static (e_nm z) ∈ e_tb) (hw3 : Cond.initialized (e_nm z).cls ∈ e_tb) (hK : ∀ pc loc st h bc bs, K pc loc st h bc bs → e_Wp k pc loc st h bc bs Q)
    (H : e_stp loc st h bc bs K Q (e_rt k) (pc, .invokestatic ix, len, v, ns, ps)) : e_Wp k pc loc st h bc bs Q := by
  subst hns
  replace H : e_ins loc st h bc bs K Q pc [z, n, 1, c1, s1] := H
  obtain ⟨hc1, hs1, hdd, hll, hnp, hz⟩ := e_ckcd hck
  obtain ⟨f1, f2, f3⟩ := e_fdg hz hnp
  have hwz : e_wsk z = .codeWith (e_nm z) (e_mb z) (e_ml z) (e_rt z) (e_hh z) :: e_tb := by unfold e_wsk; rw [if_neg hhz]
  replace H : bif (Nat.beq 1 0 || Nat.beq 1 1) && e_ok loc st h bc bs c1 s1 n (st.drop n) then e_M z (st.take n).reverse h (e_aft [] loc bc bs K Q pc c1 s1 (st.drop n)) else False := H
  obtain ⟨hok, hM⟩ := e_bif H
  simp only [Bool.and_eq_true] at hok
  obtain ⟨o1, o2, o3, o4, o5⟩ := e_okd hok.2
  intro p l e R s m args below meth c g A Hp locs cells slots mc ms ls Qc XC C hw hS hl hn hcb hsb hk
  have hts := C.2.2.2.2.1
  have hR1 : R.frames = e_dd k := C.2.2.2.2.2.2.2.2.2.1
  have hR2 : R.locals = e_ll k := C.2.2.2.2.2.2.2.2.2.2.1
  have hR3 : R.cells = mc := C.2.2.2.2.2.2.2.2.2.2.2.1
  have hR4 : R.slots = ms := C.2.2.2.2.2.2.2.2.2.2.2.2.1
  have hrun := vx_runSX (p := p) (l := l) (e := e) (R := R) (s := s) (m := m) (args := args) (below := below) (meth := meth) (c := c) (H := Hp) (locs := locs) (cells := cells) (slots := slots) (As := (st.take n).reverse.map (e_rel g)) (rest := (st.drop n).map (e_rel g)) (g := F0 m pc ls (st.map (e_rel g))) (n := n)
    ⟨C.1, C.2.1, C.2.2.1, C.2.2.2.1, hts⟩ (hM l C.2.2.2.2.2.2.2.2.2.2.2.2.2.1 g Hp.size)
    (vx_cwSW (hh := e_hh z) n hts (e_wsS hz hw1 hw2 hw3) hwz rfl rfl ⟨f1, f2, f3⟩ ⟨by rw [hR1]; exact hdd, by rw [hR2]; exact hll⟩)
    ⟨e_blind, e_pre C hw hS⟩ rfl (by rw [List.length_map, List.length_reverse, List.length_take]; omega) hl.1
    e_take_rev (by show 2 * 0 + _ ≤ 8; rw [e_cat_rel C.2.2.2.2.2.2.2.2.2.2.2.2.2.2.2.2.1]; omega) hd ⟨by rw [hR3, ← hc1]; omega, by rw [hR4, ← hs1]; omega⟩
  rw [← hc1, ← hs1] at hrun
  refine e_callW C hw hS hl hn hcb hsb hk o1 o2 o5 hrun (fun v h' hΦ => ?_) (e_behind (ph := []) hK hn hcb hsb o1 o2 (by rw [hhk]; rfl) (by rw [hhk]; intro w hw0; cases hw0))
  cases v with
  | none => exact hK _ _ _ _ _ _ hΦ
  | some v => exact hK _ _ _ _ _ _ hΦ
theorem e_s_cpy {k pc len : Nat} {v : Value} {ns : List Nat} {ps : List (Nat × Nat)} {loc : List (Option Value)} {st : List Value} {h : e_H} {bc bs : Nat} {K : Nat → List (Option Value) → List Value → e_H → Nat → Nat → Prop} {Q : e_O → e_H → Prop} {ix z n c1 s1 : Nat} (hd : decode (e_mb k) pc = .ok (.invokestatic ix, 3)) (hns : ns = [z, n, 3, c1, s1]) (hw1 : Cond.methodLink (e_nm k).cls ix arraycopyName ∈ e_tb) (hw2 : Cond.native arraycopyName ∈ e_tb) (hw3 : Cond.static arraycopyName ∈ e_tb) (hw4 : Cond.initialized "java/lang/System" ∈ e_tb) (hf : 1 ≤ e_dd k) (hlo : 200 ≤ e_ll k) (hK : ∀ pc loc st h bc bs, K pc loc st h bc bs → e_Wp k pc loc st h bc bs Q)
    (H : e_stp loc st h bc bs K Q (e_rt k) (pc, .invokestatic ix, len, v, ns, ps)) : e_Wp k pc loc st h bc bs Q := by
  subst hns
  replace H : e_cpy st h [z, n, 3, c1, s1] (fun r h' => K (pc + 3) loc r h' bc bs) := H
  unfold e_cpy at H
  split at H
  · rename_i nn dp a0 sp b0 r
    split at H
    · rename_i na nb ha hb
      have h9 := e_bif H
      clear H
      obtain ⟨hcat, ⟨c1, c2, c3, c4, c5⟩, H⟩ := h9
      have hcat := Nat.le_of_ble_eq_true hcat
      intro p l e R s m args below meth c g A Hp locs cells slots mc ms ls Qc XC C hw hS hl hn hcb hsb hk
      have hts := C.2.2.2.2.1
      have hR1 : R.frames = e_dd k := C.2.2.2.2.2.2.2.2.2.1
      have hR2 : R.locals = e_ll k := C.2.2.2.2.2.2.2.2.2.2.1
      refine va_copyi C.1 C.2.1 (C.2.2.1.trans hl.1.symm) C.2.2.2.1 (hts _ hw1) (hts _ hw2) (hts _ hw3) (hts _ hw4) C.2.2.2.2.2.2.2.2.2.2.2.2.2.2.2.1 hw.1 hw.2 hS b0 a0 0 0 (e_ws_get (g := g) hb) (e_ws_get (g := g) ha) (e_tys_get (t := 0) rfl) (e_tys_get (t := 0) rfl) rfl c1 c2 c3 c4 c5 (fun _ _ => rfl) (by rw [hR1]; exact hf) ?_ hd (fun H1 locs1 hP1 hD1 hS1 => ?_)
      · rw [e_cat_rel C.2.2.2.2.2.2.2.2.2.2.2.2.2.2.2.2.1, hR2]
        have : nativeFrameWords "java/lang/System" "arraycopy" 5 = 7 := by decide
        omega
      · exact hK _ _ _ _ _ _ H p l e R s m args below meth c g A H1 locs1 cells slots mc ms ls Qc XC C ⟨by rw [e_ws_rowI ha]; exact hP1, by rw [e_ws_rowI ha]; exact hD1⟩ hS1 hl hn hcb hsb (hk.step (e_to.same rfl rfl rfl))
    · exact False.elim H
  · exact False.elim H
theorem e_s_oi {k pc len : Nat} {v : Value} {ns : List Nat} {ps : List (Nat × Nat)} {loc : List (Option Value)} {st : List Value} {h : e_H} {bc bs : Nat} {K : Nat → List (Option Value) → List Value → e_H → Nat → Nat → Prop} {Q : e_O → e_H → Prop} {ix z c1 s1 n : Nat} {r : List Nat} (hd : decode (e_mb k) pc = .ok (.invokespecial ix, 3)) (hns : ns = z :: n :: 2 :: c1 :: s1 :: r) (hw1 : Cond.methodLink (e_nm k).cls ix Lib.objectInit ∈ e_tb) (hw2 : Cond.instanceMethod Lib.objectInit ∈ e_tb) (hw3 : Cond.code Lib.objectInit ⟨#[0xb1]⟩ 1 none ∈ e_tb) (hf : 1 ≤ e_dd k) (hlo : 40 ≤ e_ll k) (hK : ∀ pc loc st h bc bs, K pc loc st h bc bs → e_Wp k pc loc st h bc bs Q)
    (H : e_stp loc st h bc bs K Q (e_rt k) (pc, .invokespecial ix, len, v, ns, ps)) : e_Wp k pc loc st h bc bs Q := by
  subst hns
  replace H : e_inp loc st h bc bs K pc (z :: n :: 2 :: c1 :: s1 :: r) := H
  simp only [e_inp] at H
  split at H
  · rename_i a rest hdr
    replace H : bif Nat.beq n 0 && Nat.ble (e_cat rest) 8 then K (pc + 3) loc rest h bc bs else False := H
    have h9 := e_bif H
    clear H
    obtain ⟨hb0, H⟩ := h9
    simp only [Bool.and_eq_true] at hb0
    have hn0 := Nat.eq_of_beq_eq_true hb0.1
    have hcat := Nat.le_of_ble_eq_true hb0.2
    subst hn0
    have hdr : st = .ref a :: rest := hdr
    subst hdr
    intro p l e R s m args below meth c g A Hp locs cells slots mc ms ls Qc XC C hw hS hl hn hcb hsb hk
    have hts := C.2.2.2.2.1
    have hR1 : R.frames = e_dd k := C.2.2.2.2.2.2.2.2.2.1
    have hR2 : R.locals = e_ll k := C.2.2.2.2.2.2.2.2.2.2.1
    refine W.objInit C.1 C.2.1 C.2.2.2.1 (hts _ hw1) (hts _ hw2) (hts _ hw3) rfl (hl.1.trans C.2.2.1.symm) rfl hd (by rw [hR1]; exact hf) ?_ (hK _ _ _ _ _ _ H p l e R s m args below meth c g A Hp locs cells slots mc ms ls Qc XC C hw hS hl hn hcb hsb hk)
    show 2 * 0 + ((rest.map (e_rel g)).map fun v => v.category).sum + 12 ≤ R.locals
    rw [e_cat_rel C.2.2.2.2.2.2.2.2.2.2.2.2.2.2.2.2.1, hR2]
    omega
  · exact False.elim H
/-- a contract that throws nothing is one of the kit's plain contracts -/
theorem e_met {l : Launch} {y : MethodName} {ws : List Cond} {rm : Room} {Pc : Array Value → State → Prop} {Qc : Array Value → State → Outcome → State → Prop} {XC : String → State → State → Prop} {mc ms : Nat} {free : Addr → Prop} (h : vx_Met l y ws rm Pc Qc XC mc ms free) (hx : ∀ E st t, XC E st t → False) : Met l y ws rm Pc Qc mc ms free := by
  intro p e h1 h2 h3 s m args below h4 h5 h6 h7
  obtain ⟨n, o, a1, a2, a3, a4⟩ := h p e h1 h2 h3 s m args below h4 h5 h6 h7
  refine ⟨n, o, a1, a2, a3, ?_⟩
  rcases a4 with a4 | ⟨q, -, E, ce, L, a5, -⟩
  · exact a4
  · exact False.elim (hx _ _ _ a5)
theorem e_runx {p : Program} {l : Launch} {e : Env} {R : Room} {s : State} {m : MethodId} {args : Array Value} {below : List Frame} {meth : Method} {c : Code} {H : Heap} {locs : List Loc} {cells slots mc ms : Nat} {g : JFrame} {rest : List Value} {Qa : State → Outcome → State → Prop} {XC : String → State → State → Prop} {free : Addr → Prop}
    (h : va_Run p l e R s m args below meth c H locs cells slots mc ms g rest Qa free) : vx_Run p l e R s m args below meth c H locs cells slots mc ms g rest Qa XC free := fun T hT X => Or.inl (h T hT X)
theorem e_s_spI {k pc len : Nat} {v : Value} {ns : List Nat} {ps : List (Nat × Nat)} {loc : List (Option Value)} {st : List Value} {h : e_H} {bc bs : Nat} {K : Nat → List (Option Value) → List Value → e_H → Nat → Nat → Prop} {Q : e_O → e_H → Prop} {ix z n c1 s1 : Nat} (hd : decode (e_mb k) pc = .ok (.invokespecial ix, 3)) (hns : ns = [z, n, 0, c1, s1]) (hck : e_ckc k z n c1 s1 = true) (hhz : e_hh z = []) (hname : (e_nm z).name = "<init>") (hrt : e_rt z = none) (hw1 : Cond.methodLink (e_nm k).cls ix (e_nm z) ∈ e_tb) (hw2 : Cond.instanceMethod (e_nm z) ∈ e_tb) (hw3 : Cond.initialized (e_nm z).cls ∈ e_tb) (hK : ∀ pc loc st h bc bs, K pc loc st h bc bs → e_Wp k pc loc st h bc bs Q)
    (H : e_stp loc st h bc bs K Q (e_rt k) (pc, .invokespecial ix, len, v, ns, ps)) : e_Wp k pc loc st h bc bs Q := by
  subst hns
  replace H : e_inp loc st h bc bs K pc [z, n, 0, c1, s1] := H
  obtain ⟨hc1, hs1, hdd, hll, hnp, hz⟩ := e_ckcd hck
  obtain ⟨f1, f2, f3⟩ := e_fdg hz hnp
  have hwz : e_wsk z = .code (e_nm z) (e_mb z) (e_ml z) none :: e_tb := by unfold e_wsk; rw [if_pos hhz, hrt]
  simp only [e_inp] at H
  split at H
  · rename_i a rest hdr
    replace H : bif e_ok loc st h bc bs c1 s1 n rest then e_M z (.ref a :: (st.take n).reverse) h (e_afi loc bc bs K pc c1 s1 rest) else False := H
    obtain ⟨hok, hM⟩ := e_bif H
    obtain ⟨o1, o2, o3, o4, o5⟩ := e_okd hok
    intro p l e R s m args below meth c g A Hp locs cells slots mc ms ls Qc XC C hw hS hl hn hcb hsb hk
    have hts := C.2.2.2.2.1
    have hR1 : R.frames = e_dd k := C.2.2.2.2.2.2.2.2.2.1
    have hR2 : R.locals = e_ll k := C.2.2.2.2.2.2.2.2.2.2.1
    have hR3 : R.cells = mc := C.2.2.2.2.2.2.2.2.2.2.2.1
    have hR4 : R.slots = ms := C.2.2.2.2.2.2.2.2.2.2.2.2.1
    have hrun := va_runI (p := p) (l := l) (e := e) (R := R) (s := s) (m := m) (args := args) (below := below) (meth := meth) (c := c) (H := Hp) (locs := locs) (cells := cells) (slots := slots) (b := g.1 a) (As := (st.take n).reverse.map (e_rel g)) (rest := rest.map (e_rel g)) (g := F0 m pc ls (st.map (e_rel g))) (n := n)
      ⟨C.1, C.2.1, C.2.2.1, C.2.2.2.1, hts⟩ (e_met (hM l C.2.2.2.2.2.2.2.2.2.2.2.2.2.1 g Hp.size) (fun E st t hx => by obtain ⟨g', h', hx, -⟩ := hx; exact hx))
      ⟨callB_of n hts (e_wsk_good hz) hwz rfl rfl (hts _ hw3) (hts _ hw1) ⟨f1, f2, f3⟩ ⟨by rw [hR1]; exact hdd, by rw [hR2]; exact hll⟩, hname, hts _ hw2⟩
      ⟨e_blind, e_pre (avs := .ref a :: (st.take n).reverse) C hw hS⟩ rfl (by rw [List.length_map, List.length_reverse, List.length_take]; omega) hl.1
      (by show st.map (e_rel g) = _; rw [e_take_rev (n := n), hdr, List.map_cons]; rfl) (by show 2 * 0 + _ ≤ 8; rw [e_cat_rel C.2.2.2.2.2.2.2.2.2.2.2.2.2.2.2.2.1]; omega) hd ⟨by rw [hR3, ← hc1]; omega, by rw [hR4, ← hs1]; omega⟩
    rw [← hc1, ← hs1] at hrun
    refine e_callW (Φ := e_afi loc bc bs K pc c1 s1 rest) C hw hS hl hn hcb hsb hk o1 o2 o5 (e_runx hrun) (fun v h' hΦ => ?_) (fun E g' h' H1 locs1 ce q hΦ => False.elim hΦ)
    cases v with
    | none => exact hK _ _ _ _ _ _ hΦ
    | some v => exact False.elim hΦ
  · exact False.elim H
theorem e_s_spN {k pc len : Nat} {v : Value} {ns : List Nat} {ps : List (Nat × Nat)} {loc : List (Option Value)} {st : List Value} {h : e_H} {bc bs : Nat} {K : Nat → List (Option Value) → List Value → e_H → Nat → Nat → Prop} {Q : e_O → e_H → Prop} {ix z n c1 s1 j : Nat} (hd : decode (e_mb k) pc = .ok (.invokespecial ix, 3)) (hns : ns = [z, n, 1, c1, s1, j]) (hck : e_ckc k z n c1 s1 = true) (hhz : e_hh z = []) (hname : (e_nm z).name = "<init>") (hrt : e_rt z = none) (hw1 : (e_nest[j]?).map (fun q => (q.1, q.2.1, q.2.2.1)) = some ((e_nm k).cls, ix, e_nm z)) (hw2 : Cond.instanceMethod (e_nm z) ∈ e_tb) (hw3 : Cond.initialized (e_nm z).cls ∈ e_tb) (hK : ∀ pc loc st h bc bs, K pc loc st h bc bs → e_Wp k pc loc st h bc bs Q)
    (H : e_stp loc st h bc bs K Q (e_rt k) (pc, .invokespecial ix, len, v, ns, ps)) : e_Wp k pc loc st h bc bs Q := by
  subst hns
  replace H : e_inp loc st h bc bs K pc [z, n, 1, c1, s1, j] := H
  obtain ⟨hc1, hs1, hdd, hll, hnp, hz⟩ := e_ckcd hck
  obtain ⟨f1, f2, f3⟩ := e_fdg hz hnp
  have hwz : e_wsk z = .code (e_nm z) (e_mb z) (e_ml z) none :: e_tb := by unfold e_wsk; rw [if_pos hhz, hrt]
  simp only [e_inp] at H
  split at H
  · rename_i a rest hdr
    replace H : bif e_ok loc st h bc bs c1 s1 n rest then e_M z (.ref a :: (st.take n).reverse) h (e_afi loc bc bs K pc c1 s1 rest) else False := H
    obtain ⟨hok, hM⟩ := e_bif H
    obtain ⟨o1, o2, o3, o4, o5⟩ := e_okd hok
    intro p l e R s m args below meth c g A Hp locs cells slots mc ms ls Qc XC C hw hS hl hn hcb hsb hk
    have hts := C.2.2.2.2.1
    have hR1 : R.frames = e_dd k := C.2.2.2.2.2.2.2.2.2.1
    have hR2 : R.locals = e_ll k := C.2.2.2.2.2.2.2.2.2.2.1
    have hR3 : R.cells = mc := C.2.2.2.2.2.2.2.2.2.2.2.1
    have hR4 : R.slots = ms := C.2.2.2.2.2.2.2.2.2.2.2.2.1
    obtain ⟨host, hj2⟩ : ∃ host, e_nest[j]? = some ((e_nm k).cls, ix, e_nm z, host) := by
      cases hq : e_nest[j]? with
      | none => rw [hq] at hw1; cases hw1
      | some r =>
        rw [hq] at hw1
        obtain ⟨r1, r2, r3, r4⟩ := r
        simp only [Option.map_some, Option.some.injEq, Prod.mk.injEq] at hw1
        exact ⟨r4, by rw [hw1.1, hw1.2.1, hw1.2.2]⟩
    have hnw : va_Nw (.methodLinkNest (e_nm k).cls ix (e_nm z) host) s := C.2.2.2.2.2.2.2.2.2.2.2.2.2.2.2.2.2.2.2.2.2.2.2.2.1 _ (List.mem_of_getElem? hj2)
    have hrun := va_runIN (p := p) (l := l) (e := e) (R := R) (s := s) (m := m) (args := args) (below := below) (meth := meth) (c := c) (H := Hp) (locs := locs) (cells := cells) (slots := slots) (b := g.1 a) (As := (st.take n).reverse.map (e_rel g)) (rest := rest.map (e_rel g)) (g := F0 m pc ls (st.map (e_rel g))) (n := n)
      ⟨C.1, C.2.1, C.2.2.1, C.2.2.2.1, hts⟩ (e_met (hM l C.2.2.2.2.2.2.2.2.2.2.2.2.2.1 g Hp.size) (fun E st t hx => by obtain ⟨g', h', hx, -⟩ := hx; exact hx))
      ⟨va_cnB n hts (e_wsk_good hz) hwz rfl rfl hnw (hts _ hw3) ⟨f1, f2, f3⟩ ⟨by rw [hR1]; exact hdd, by rw [hR2]; exact hll⟩, hname, hts _ hw2⟩
      ⟨e_blind, e_pre (avs := .ref a :: (st.take n).reverse) C hw hS⟩ rfl (by rw [List.length_map, List.length_reverse, List.length_take]; omega) hl.1
      (by show st.map (e_rel g) = _; rw [e_take_rev (n := n), hdr, List.map_cons]; rfl) (by show 2 * 0 + _ ≤ 8; rw [e_cat_rel C.2.2.2.2.2.2.2.2.2.2.2.2.2.2.2.2.1]; omega) hd ⟨by rw [hR3, ← hc1]; omega, by rw [hR4, ← hs1]; omega⟩
    rw [← hc1, ← hs1] at hrun
    refine e_callW (Φ := e_afi loc bc bs K pc c1 s1 rest) C hw hS hl hn hcb hsb hk o1 o2 o5 (e_runx hrun) (fun v h' hΦ => ?_) (fun E g' h' H1 locs1 ce q hΦ => False.elim hΦ)
    cases v with
    | none => exact hK _ _ _ _ _ _ hΦ
    | some v => exact False.elim hΦ
  · exact False.elim H
theorem e_s_ireturn {k pc len : Nat} {v : Value} {ns : List Nat} {ps : List (Nat × Nat)} {loc : List (Option Value)} {st : List Value} {h : e_H} {bc bs : Nat} {K : Nat → List (Option Value) → List Value → e_H → Nat → Nat → Prop} {Q : e_O → e_H → Prop}  (hd : decode (e_mb k) pc = .ok (.ireturn, 1))  (hK : ∀ pc loc st h bc bs, K pc loc st h bc bs → e_Wp k pc loc st h bc bs Q)
    (H : e_stp loc st h bc bs K Q (e_rt k) (pc, .ireturn, len, v, ns, ps)) : e_Wp k pc loc st h bc bs Q := by
  replace H : e_ret st h Q (e_rt k) := H
  unfold e_ret at H
  split at H
  · rename_i x
    split at H
    · rename_i hrt
      intro p l e R s m args below meth c g A Hp locs cells slots mc ms ls Qc XC C hw hS hl hn hcb hsb hk
      exact vx_ret (W.widen (k := mc) (n := ms) (by omega) (by omega) (W.zret C.1 C.2.1 (C.2.2.2.2.2.1.trans hrt) rfl (fun t ht _ => hk.1 (some (.int x)) g h t H e_to.rf (by rw [ht]; exact hw) (hS.F ht)) hS.2.2 hd C.2.2.2.2.2.2.1))
    · rename_i hrt
      have h9 := H
      clear H
      obtain ⟨hn0, H⟩ := h9
      intro p l e R s m args below meth c g A Hp locs cells slots mc ms ls Qc XC C hw hS hl hn hcb hsb hk
      exact vx_ret (W.widen (k := mc) (n := ms) (by omega) (by omega) (W.zret C.1 C.2.1 (C.2.2.2.2.2.1.trans hrt) (by rcases hn0 with rfl | rfl <;> rfl) (fun t ht _ => hk.1 (some (.int x)) g h t H e_to.rf (by rw [ht]; exact hw) (hS.F ht)) hS.2.2 hd C.2.2.2.2.2.2.1))
    · rename_i ty hrt
      have h9 := H
      clear H
      obtain ⟨hn0, H⟩ := h9
      intro p l e R s m args below meth c g A Hp locs cells slots mc ms ls Qc XC C hw hS hl hn hcb hsb hk
      exact vx_ret (W.widen (k := mc) (n := ms) (by omega) (by omega) (W.zret C.1 C.2.1 (C.2.2.2.2.2.1.trans hrt) hn0 (fun t ht _ => hk.1 (some (.int x)) g h t H e_to.rf (by rw [ht]; exact hw) (hS.F ht)) hS.2.2 hd C.2.2.2.2.2.2.1))
    · exact False.elim H
  · exact False.elim H
theorem e_s_lreturn {k pc len : Nat} {v : Value} {ns : List Nat} {ps : List (Nat × Nat)} {loc : List (Option Value)} {st : List Value} {h : e_H} {bc bs : Nat} {K : Nat → List (Option Value) → List Value → e_H → Nat → Nat → Prop} {Q : e_O → e_H → Prop}  (hd : decode (e_mb k) pc = .ok (.lreturn, 1))  (hK : ∀ pc loc st h bc bs, K pc loc st h bc bs → e_Wp k pc loc st h bc bs Q)
    (H : e_stp loc st h bc bs K Q (e_rt k) (pc, .lreturn, len, v, ns, ps)) : e_Wp k pc loc st h bc bs Q := by
  replace H : e_retL st h Q (e_rt k) := H
  unfold e_retL at H
  split at H
  · rename_i x hrt
    intro p l e R s m args below meth c g A Hp locs cells slots mc ms ls Qc XC C hw hS hl hn hcb hsb hk
    exact vx_ret (W.widen (k := mc) (n := ms) (by omega) (by omega) (W.lret C.1 C.2.1 (C.2.2.2.2.2.1.trans hrt) (fun t ht _ => hk.1 (some (.long x)) g h t H e_to.rf (by rw [ht]; exact hw) (hS.F ht)) hS.2.2 hd C.2.2.2.2.2.2.1))
  · exact False.elim H
theorem e_s_dreturn {k pc len : Nat} {v : Value} {ns : List Nat} {ps : List (Nat × Nat)} {loc : List (Option Value)} {st : List Value} {h : e_H} {bc bs : Nat} {K : Nat → List (Option Value) → List Value → e_H → Nat → Nat → Prop} {Q : e_O → e_H → Prop}  (hd : decode (e_mb k) pc = .ok (.dreturn, 1))  (hK : ∀ pc loc st h bc bs, K pc loc st h bc bs → e_Wp k pc loc st h bc bs Q)
    (H : e_stp loc st h bc bs K Q (e_rt k) (pc, .dreturn, len, v, ns, ps)) : e_Wp k pc loc st h bc bs Q := by
  replace H : e_retD st h Q (e_rt k) := H
  unfold e_retD at H
  split at H
  · rename_i x hrt
    intro p l e R s m args below meth c g A Hp locs cells slots mc ms ls Qc XC C hw hS hl hn hcb hsb hk
    exact vx_ret (W.widen (k := mc) (n := ms) (by omega) (by omega) (W.dret C.1 C.2.1 (C.2.2.2.2.2.1.trans hrt) (fun t ht _ => hk.1 (some (.double x)) g h t H e_to.rf (by rw [ht]; exact hw) (hS.F ht)) hS.2.2 hd C.2.2.2.2.2.2.1))
  · exact False.elim H
theorem e_s_areturn {k pc len : Nat} {v : Value} {ns : List Nat} {ps : List (Nat × Nat)} {loc : List (Option Value)} {st : List Value} {h : e_H} {bc bs : Nat} {K : Nat → List (Option Value) → List Value → e_H → Nat → Nat → Prop} {Q : e_O → e_H → Prop}  (hd : decode (e_mb k) pc = .ok (.areturn, 1))  (hK : ∀ pc loc st h bc bs, K pc loc st h bc bs → e_Wp k pc loc st h bc bs Q)
    (H : e_stp loc st h bc bs K Q (e_rt k) (pc, .areturn, len, v, ns, ps)) : e_Wp k pc loc st h bc bs Q := by
  replace H : e_retA st h Q (e_rt k) := H
  unfold e_retA at H
  split at H
  · rename_i x y hrt
    intro p l e R s m args below meth c g A Hp locs cells slots mc ms ls Qc XC C hw hS hl hn hcb hsb hk
    exact vx_ret (W.widen (k := mc) (n := ms) (by omega) (by omega) (W.aret C.1 C.2.1 (C.2.2.2.2.2.1.trans hrt) (Or.inl ⟨_, rfl⟩) (Or.inr ⟨_, rfl⟩) (fun t ht _ => hk.1 (some (.ref x)) g h t H e_to.rf (by rw [ht]; exact hw) (hS.F ht)) hS.2.2 hd C.2.2.2.2.2.2.1))
  · rename_i y hrt
    intro p l e R s m args below meth c g A Hp locs cells slots mc ms ls Qc XC C hw hS hl hn hcb hsb hk
    exact vx_ret (W.widen (k := mc) (n := ms) (by omega) (by omega) (W.aret C.1 C.2.1 (C.2.2.2.2.2.1.trans hrt) (Or.inl ⟨_, rfl⟩) (Or.inl rfl) (fun t ht _ => hk.1 (some .null) g h t H e_to.rf (by rw [ht]; exact hw) (hS.F ht)) hS.2.2 hd C.2.2.2.2.2.2.1))
  · exact False.elim H
theorem e_s_return {k pc len : Nat} {v : Value} {ns : List Nat} {ps : List (Nat × Nat)} {loc : List (Option Value)} {st : List Value} {h : e_H} {bc bs : Nat} {K : Nat → List (Option Value) → List Value → e_H → Nat → Nat → Prop} {Q : e_O → e_H → Prop}  (hd : decode (e_mb k) pc = .ok (.return_, 1))  (hK : ∀ pc loc st h bc bs, K pc loc st h bc bs → e_Wp k pc loc st h bc bs Q)
    (H : e_stp loc st h bc bs K Q (e_rt k) (pc, .return_, len, v, ns, ps)) : e_Wp k pc loc st h bc bs Q := by
  replace H : e_retV st h Q (e_rt k) := H
  unfold e_retV at H
  split at H
  · rename_i hrt
    intro p l e R s m args below meth c g A Hp locs cells slots mc ms ls Qc XC C hw hS hl hn hcb hsb hk
    exact vx_ret (W.widen (k := mc) (n := ms) (by omega) (by omega) (W.vret C.1 C.2.1 (C.2.2.2.2.2.1.trans hrt) (fun t ht _ => hk.1 (none) g h t H e_to.rf (by rw [ht]; exact hw) (hS.F ht)) hS.2.2 hd C.2.2.2.2.2.2.1))
  · exact False.elim H
/-! new things -/
theorem e_all_get {α : Type} {p : α → Bool} {l : List α} (h : l.all p = true) {i : Nat} {x : α} (hi : l[i]? = some x) : p x = true := List.all_eq_true.mp h x (List.mem_of_getElem? hi)
theorem e_cell_push {g g' : e_G} {h : e_H} {e0 : e_C} (hg : e_ag (e_lay h).length g g') {c : Nat} {e : e_C} (hc : c < (e_lay h).length) (hs : e_sc (e_lay h).length e = true) : e_cell g' (e_push h e0) c e = e_cell g h c e := by
  have hne : ¬ c = (e_lay h).length := by omega
  have hI : e_hI (e_push h e0) c = e_hI h c := by
    show e_row (e_hI h) (e_lay h).length (fun _ => 0) c = _
    unfold e_row
    rw [if_neg hne]
  have hL : e_hL (e_push h e0) c = e_hL h c := by
    show e_row (e_hL h) (e_lay h).length (fun _ => 0) c = _
    unfold e_row
    rw [if_neg hne]
  have hD : e_hD (e_push h e0) c = e_hD h c := by
    show e_row (e_hD h) (e_lay h).length (fun _ => 0) c = _
    unfold e_row
    rw [if_neg hne]
  rcases e with ⟨ci, tm⟩ | ⟨t, n⟩ | ⟨n, rs⟩
  · simp only [e_cell]
    refine congrArg (fun z => (Sum.inr (ci, z) : va_E)) ?_
    apply List.ext_getElem?
    intro j
    rw [List.getElem?_mapIdx, List.getElem?_mapIdx]
    cases hj : tm[j]? with
    | none => rfl
    | some v =>
      have hv := e_all_get hs hj
      simp only [Option.map_some]
      cases v with
      | int x => simp only [e_slot, hI]
      | long x => simp only [e_slot, hL]
      | ref q => simp only [e_slot]; rw [e_rel_ag hg hv]
      | retAddr q => simp only [e_slot]; rw [e_rel_ag hg hv]
      | null => rfl
      | float x => rfl
      | double x => rfl
  · simp only [e_cell, hI, hL, hD, hg.1]
  · simp only [e_cell, hg.1]
    refine congrArg (fun z => (Sum.inl (g.2.2.1 4, n, Sum.inr (Sum.inr (Sum.inr (Sum.inr z)))) : va_E)) (funext fun i => ?_)
    rw [List.getD_eq_getElem?_getD]
    cases hi : rs[i]? with
    | none => rfl
    | some o =>
      have ho := e_all_get hs hi
      cases o with
      | none => rfl
      | some q => exact congrArg some (hg.2 q (Nat.le_of_ble_eq_true ho))
def e_gq (g : e_G) (n q : Nat) : e_G := (fun i => if i = n then q else g.1 i, g.2)
theorem e_push_I {h : e_H} {e0 : e_C} {j : Nat} : e_hI (e_push h e0) (e_lay h).length j = 0 := by
  show e_row (e_hI h) (e_lay h).length (fun _ => 0) (e_lay h).length j = 0
  unfold e_row
  rw [if_pos rfl]
theorem e_push_L {h : e_H} {e0 : e_C} {j : Nat} : e_hL (e_push h e0) (e_lay h).length j = 0 := by
  show e_row (e_hL h) (e_lay h).length (fun _ => 0) (e_lay h).length j = 0
  unfold e_row
  rw [if_pos rfl]
theorem e_push_D {h : e_H} {e0 : e_C} {j : Nat} : e_hD (e_push h e0) (e_lay h).length j = 0 := by
  show e_row (e_hD h) (e_lay h).length (fun _ => 0) (e_lay h).length j = 0
  unfold e_row
  rw [if_pos rfl]
theorem e_gq_ag {g : e_G} {n q : Nat} : e_ag n g (e_gq g n q) := ⟨rfl, fun i hi => by simp only [e_gq]; rw [if_neg (by omega)]⟩
theorem e_ws_push {g : e_G} {h : e_H} {e0 : e_C} {q : Nat} (hs : (e_lay h).all (e_sc (e_lay h).length) = true) : e_ws (e_gq g (e_lay h).length q) (e_push h e0) = e_ws g h ++ [(q, e_cell (e_gq g (e_lay h).length q) (e_push h e0) (e_lay h).length e0)] := by
  apply List.ext_getElem?
  intro d
  have hlay : e_lay (e_push h e0) = e_lay h ++ [e0] := rfl
  have hw : (e_ws (e_gq g (e_lay h).length q) (e_push h e0))[d]? = ((e_lay h ++ [e0])[d]?).map (fun e => ((e_gq g (e_lay h).length q).1 d, e_cell (e_gq g (e_lay h).length q) (e_push h e0) d e)) := by
    unfold e_ws
    rw [List.getElem?_mapIdx, hlay]
  rw [hw]
  by_cases hd : d < (e_lay h).length
  · rw [List.getElem?_append_left hd, List.getElem?_append_left (by rw [e_ws_len]; exact hd), e_ws_get (List.getElem?_eq_getElem hd), List.getElem?_eq_getElem hd, Option.map_some, e_cell_push e_gq_ag hd (e_all_get hs (List.getElem?_eq_getElem hd)), e_gq_ag.2 d hd]
  · rw [List.getElem?_append_right (by omega), List.getElem?_append_right (by rw [e_ws_len]; omega), e_ws_len]
    by_cases hd2 : d = (e_lay h).length
    · subst hd2
      simp only [Nat.sub_self, List.getElem?_cons_zero, Option.map_some, e_gq, if_true]
    · rw [List.getElem?_eq_none (by simp; omega), List.getElem?_eq_none (by simp; omega)]
      rfl
theorem e_to_push {g : e_G} {h : e_H} {e0 : e_C} {q : Nat} (hf : e_fl h = true) : e_to g h (e_gq g (e_lay h).length q) (e_push h e0) :=
  ⟨rfl, (by show _ ≤ (e_lay h ++ [e0]).length; rw [List.length_append]; omega), e_gq_ag, (fun hf2 => (by rw [hf] at hf2; cases hf2)), rfl⟩
/-- a new cell, of whatever kind, and on -/
theorem e_pushed {k : Nat} {p : Program} {l : Launch} {e : Env} {R : Room} {s : State} {m : MethodId} {args : Array Value} {below : List Frame} {meth : Method} {c : Code} {g : e_G} {A : Nat → Prop} {H1 : Heap} {locs : List Loc} {cells slots mc ms c1 s1 bc bs : Nat} {ls : Array Slot} {Qc : Array Value → State → Outcome → State → Prop} {XC : String → State → State → Prop} {pc : Nat} {loc : List (Option Value)} {r : List Value} {h : e_H} {e0 : e_C} {Q : e_O → e_H → Prop} {q : Nat}
    (C : e_Cx k p l R s m args meth c g A (e_scr h) mc ms) (hS : va_S A s.heap H1 locs) (hl : lv_has ls (e_ml k) (e_as g loc)) (hn : loc.length = e_ml k) (hcb : cells + bc ≤ mc) (hsb : slots + bs ≤ ms) (hk : e_Hk g h A args s Q Qc XC) (hc1 : c1 ≤ bc) (hs1 : s1 ≤ bs)
    (hf : e_fl h = true) (hsc : e_scp h loc r = true) (hall : (e_lay h).all (e_sc (e_lay h).length) = true) {x : va_E} (hx : e_cell (e_gq g (e_lay h).length q) (e_push h e0) (e_lay h).length e0 = x)
    (hP : va_P g.2.2.2 e_cls (e_ws g h ++ [(q, x)]) H1) (hD : va_D A (e_ws g h ++ [(q, x)]))
    (H : e_Wp k pc loc (.ref (e_lay h).length :: r) (e_push h e0) (bc - c1) (bs - s1) Q) :
    W p l e R s m args below meth c H1 locs (cells + c1) (slots + s1) (vx_MQ below Qc XC args s mc ms A) (F0 m pc ls (.ref q :: r.map (e_rel g))) := by
  have hto : e_to g h (e_gq g (e_lay h).length q) (e_push h e0) := e_to_push hf
  obtain ⟨r1, r2⟩ := e_scp_rel hsc hto
  have hws := e_ws_push (g := g) (e0 := e0) (q := q) hall
  rw [hx] at hws
  have := H p l e R s m args below meth c (e_gq g (e_lay h).length q) A H1 locs (cells + c1) (slots + s1) mc ms ls Qc XC (C.to hto) ⟨by rw [hws]; exact hP, by rw [hws]; exact hD⟩ hS (e_lmono hl r1) hn (by omega) (by omega) (hk.step hto)
  rw [List.map_cons, r2, show e_rel (e_gq g (e_lay h).length q) (.ref (e_lay h).length) = .ref q from by simp only [e_rel, e_gq, if_true]] at this
  exact this
theorem e_df0 : e_dflt 0 = (List.range (e_cK 0)).map (fun k => defaultValue (e_ty 0 k)) := by decide +kernel
theorem e_df1 : e_dflt 1 = (List.range (e_cK 1)).map (fun k => defaultValue (e_ty 1 k)) := by decide +kernel
theorem e_df2 : e_dflt 2 = (List.range (e_cK 2)).map (fun k => defaultValue (e_ty 2 k)) := by decide +kernel
theorem e_df3 : e_dflt 3 = (List.range (e_cK 3)).map (fun k => defaultValue (e_ty 3 k)) := by decide +kernel
theorem e_df4 : e_dflt 4 = (List.range (e_cK 4)).map (fun k => defaultValue (e_ty 4 k)) := by decide +kernel
theorem e_df5 : e_dflt 5 = (List.range (e_cK 5)).map (fun k => defaultValue (e_ty 5 k)) := by decide +kernel
theorem e_df6 : e_dflt 6 = (List.range (e_cK 6)).map (fun k => defaultValue (e_ty 6 k)) := by decide +kernel
theorem e_df7 : e_dflt 7 = (List.range (e_cK 7)).map (fun k => defaultValue (e_ty 7 k)) := by decide +kernel
theorem e_df8 : e_dflt 8 = (List.range (e_cK 8)).map (fun k => defaultValue (e_ty 8 k)) := by decide +kernel
theorem e_df9 : e_dflt 9 = (List.range (e_cK 9)).map (fun k => defaultValue (e_ty 9 k)) := by decide +kernel
theorem e_df : ∀ (ci : Nat), ci < e_cls.length → e_dflt ci = (List.range (e_cK ci)).map (fun k => defaultValue (e_ty ci k))
  | 0, _ => e_df0
  | 1, _ => e_df1
  | 2, _ => e_df2
  | 3, _ => e_df3
  | 4, _ => e_df4
  | 5, _ => e_df5
  | 6, _ => e_df6
  | 7, _ => e_df7
  | 8, _ => e_df8
  | 9, _ => e_df9
  | (n + 10), h => absurd h (by simp [e_cls])
theorem e_s_new {k pc len : Nat} {v : Value} {ns : List Nat} {ps : List (Nat × Nat)} {loc : List (Option Value)} {st : List Value} {h : e_H} {bc bs : Nat} {K : Nat → List (Option Value) → List Value → e_H → Nat → Nat → Prop} {Q : e_O → e_H → Prop} {ix ci : Nat} (hd : decode (e_mb k) pc = .ok (.new ix, 3)) (hns : ns = [0, ci]) (hci : ci < e_cls.length) (hw1 : Cond.classLink (e_nm k).cls ix (e_cN ci) ∈ e_tb) (hw2 : Cond.instantiable (e_cN ci) (e_cK ci) ∈ e_tb) (hw3 : Cond.initialized (e_cN ci) ∈ e_tb) (hK : ∀ pc loc st h bc bs, K pc loc st h bc bs → e_Wp k pc loc st h bc bs Q)
    (H : e_stp loc st h bc bs K Q (e_rt k) (pc, .new ix, len, v, ns, ps)) : e_Wp k pc loc st h bc bs Q := by
  subst hns
  replace H : e_new loc st h bc bs K Q pc [0, ci] := H
  simp only [e_new] at H
  have h9 := e_bif H
  clear H
  obtain ⟨hb0, H⟩ := h9
  simp only [Bool.and_eq_true] at hb0
  obtain ⟨⟨⟨⟨hf, hsc⟩, hall⟩, hb1⟩, hb2⟩ := hb0
  have hb1 := Nat.le_of_ble_eq_true hb1
  have hb2 := Nat.le_of_ble_eq_true hb2
  have hdf := e_df ci hci
  have hlen : (e_dflt ci).length = e_cK ci := by rw [hdf, List.length_map, List.length_range]
  intro p l e R s m args below meth c g A Hp locs cells slots mc ms ls Qc XC C hw hS hl hn hcb hsb hk
  have hts := C.2.2.2.2.1
  have hR3 : R.cells = mc := C.2.2.2.2.2.2.2.2.2.2.2.1
  have hR4 : R.slots = ms := C.2.2.2.2.2.2.2.2.2.2.2.2.1
  refine va_new (c0 := c) (fs := e_dflt ci) C.1 C.2.1 hts (e_clw _ hci) (e_ty ci) (fun k hk => e_clt hci hk) C.2.2.2.1 (hts _ hw1) (hts _ hw2) (hts _ hw3) C.2.2.2.2.2.2.2.2.2.2.2.2.2.2.2.1 hw.1 hw.2 hS C.2.2.2.2.2.2.2.2.2.2.2.2.2.2.1 (e_clc hci) (fun j hj => ?_) (by rw [hR3]; omega) (by rw [hR4]; omega) hd (fun q H1 hP1 hD1 hS1 => ?_)
  · unfold vp_V
    rw [hdf, List.getD_eq_getElem?_getD, List.getElem?_map, List.getElem?_range hj]
    rfl
  · have H' := hK _ _ _ _ _ _ H
    rw [hlen] at H'
    refine e_pushed C hS1 hl hn hcb hsb hk hb1 (by omega) hf hsc hall ?_ hP1 hD1 H'
    simp only [e_cell]
    refine congrArg (fun z => (Sum.inr (ci, z) : va_E)) ?_
    apply List.ext_getElem?
    intro j
    rw [List.getElem?_mapIdx]
    cases hj : (e_dflt ci)[j]? with
    | none => rfl
    | some v =>
      refine congrArg some ?_
      rw [hdf, List.getElem?_map] at hj
      have hj3 : ∃ ty, v = defaultValue ty := by
        cases hj2 : (List.range (e_cK ci))[j]? with
        | none => rw [hj2] at hj; cases hj
        | some i => rw [hj2] at hj; cases hj; exact ⟨_, rfl⟩
      obtain ⟨ty, rfl⟩ := hj3
      cases ty <;> first | rfl | exact congrArg Value.int e_push_I | exact congrArg Value.long e_push_L
theorem e_s_newa_int {k pc len : Nat} {v : Value} {ns : List Nat} {ps : List (Nat × Nat)} {loc : List (Option Value)} {st : List Value} {h : e_H} {bc bs : Nat} {K : Nat → List (Option Value) → List Value → e_H → Nat → Nat → Prop} {Q : e_O → e_H → Prop}  (hd : decode (e_mb k) pc = .ok (.newarray .int, 2)) (hns : ns = [0]) (hw1 : Cond.arrayClass (newarray.typeOf .int) ∈ e_tb) (hK : ∀ pc loc st h bc bs, K pc loc st h bc bs → e_Wp k pc loc st h bc bs Q)
    (H : e_stp loc st h bc bs K Q (e_rt k) (pc, .newarray .int, len, v, ns, ps)) : e_Wp k pc loc st h bc bs Q := by
  subst hns
  rcases st with _ | ⟨w, r⟩
  · exact False.elim H
  cases w <;> try exact False.elim H
  case int n =>
    have h9 := e_bif (show bif e_fl h && e_scp h loc r && (e_lay h).all (e_sc (e_lay h).length) && Nat.ble 1 bc && Nat.ble n.toNatClampNeg bs && Nat.ble n.toNatClampNeg 65536 && !(decide (n < 0)) then K (pc + 2) loc (.ref (e_lay h).length :: r) (e_push h (.inr (.inl (0, n.toNatClampNeg)))) (bc - 1) (bs - n.toNatClampNeg) else False from H)
    clear H
    obtain ⟨hb0, H⟩ := h9
    simp only [Bool.and_eq_true, Bool.not_eq_true', decide_eq_false_iff_not] at hb0
    obtain ⟨⟨⟨⟨⟨⟨hf, hsc⟩, hall⟩, hb1⟩, hb2⟩, hb3⟩, hb4⟩ := hb0
    have hb1 := Nat.le_of_ble_eq_true hb1
    have hb2 := Nat.le_of_ble_eq_true hb2
    have hb3 := Nat.le_of_ble_eq_true hb3
    intro p l e R s m args below meth c g A Hp locs cells slots mc ms ls Qc XC C hw hS hl hn hcb hsb hk
    have hts := C.2.2.2.2.1
    have hR3 : R.cells = mc := C.2.2.2.2.2.2.2.2.2.2.2.1
    have hR4 : R.slots = ms := C.2.2.2.2.2.2.2.2.2.2.2.2.1
    refine va_newa (atype := .int) (ty := .int) (N' := n.toNatClampNeg) (a0 := (n.toNatClampNeg, .inl (fun _ => 0))) C.1 C.2.1 (hts _ hw1) rfl C.2.2.2.2.2.2.2.2.2.2.2.2.2.2.2.1 hw.1 hw.2 hS C.2.2.2.2.2.2.2.2.2.2.2.2.2.2.1 (fun _ => rfl) hb4 rfl (by show n.toNatClampNeg * 4 ≤ _; omega) (by rw [hR3]; omega) (by rw [hR4]; omega) hd (fun q cA H1 hK1 hP1 hD1 hS1 => ?_)
    have hcA : cA = g.2.2.1 0 := by
      have h1 : va_RA s cA .int := (hK1.2 (e_tys g).length (cA, .int) (by simp)).2
      have h2 : va_RA s (g.2.2.1 0) .int := (C.2.2.2.2.2.2.2.2.2.2.2.2.2.2.2.1.2 0 _ (e_tys_get rfl)).2
      exact Option.some.inj (Eq.trans (Eq.symm h1) h2)
    subst hcA
    refine e_pushed C hS1 hl hn hcb hsb hk hb1 hb2 hf hsc hall ?_ hP1 hD1 (hK _ _ _ _ _ _ H)
    show (Sum.inl (g.2.2.1 0, n.toNatClampNeg, .inl (e_hI (e_push h (.inr (.inl (0, n.toNatClampNeg)))) (e_lay h).length)) : va_E) = _
    refine congrArg (fun z => (Sum.inl (g.2.2.1 0, n.toNatClampNeg, Sum.inl z) : va_E)) (funext fun j => e_push_I)
theorem e_s_newa_long {k pc len : Nat} {v : Value} {ns : List Nat} {ps : List (Nat × Nat)} {loc : List (Option Value)} {st : List Value} {h : e_H} {bc bs : Nat} {K : Nat → List (Option Value) → List Value → e_H → Nat → Nat → Prop} {Q : e_O → e_H → Prop}  (hd : decode (e_mb k) pc = .ok (.newarray .long, 2)) (hns : ns = [1]) (hw1 : Cond.arrayClass (newarray.typeOf .long) ∈ e_tb) (hK : ∀ pc loc st h bc bs, K pc loc st h bc bs → e_Wp k pc loc st h bc bs Q)
    (H : e_stp loc st h bc bs K Q (e_rt k) (pc, .newarray .long, len, v, ns, ps)) : e_Wp k pc loc st h bc bs Q := by
  subst hns
  rcases st with _ | ⟨w, r⟩
  · exact False.elim H
  cases w <;> try exact False.elim H
  case int n =>
    have h9 := e_bif (show bif e_fl h && e_scp h loc r && (e_lay h).all (e_sc (e_lay h).length) && Nat.ble 1 bc && Nat.ble n.toNatClampNeg bs && Nat.ble n.toNatClampNeg 65536 && !(decide (n < 0)) then K (pc + 2) loc (.ref (e_lay h).length :: r) (e_push h (.inr (.inl (1, n.toNatClampNeg)))) (bc - 1) (bs - n.toNatClampNeg) else False from H)
    clear H
    obtain ⟨hb0, H⟩ := h9
    simp only [Bool.and_eq_true, Bool.not_eq_true', decide_eq_false_iff_not] at hb0
    obtain ⟨⟨⟨⟨⟨⟨hf, hsc⟩, hall⟩, hb1⟩, hb2⟩, hb3⟩, hb4⟩ := hb0
    have hb1 := Nat.le_of_ble_eq_true hb1
    have hb2 := Nat.le_of_ble_eq_true hb2
    have hb3 := Nat.le_of_ble_eq_true hb3
    intro p l e R s m args below meth c g A Hp locs cells slots mc ms ls Qc XC C hw hS hl hn hcb hsb hk
    have hts := C.2.2.2.2.1
    have hR3 : R.cells = mc := C.2.2.2.2.2.2.2.2.2.2.2.1
    have hR4 : R.slots = ms := C.2.2.2.2.2.2.2.2.2.2.2.2.1
    refine va_newa (atype := .long) (ty := .long) (N' := n.toNatClampNeg) (a0 := (n.toNatClampNeg, .inr (.inl (fun _ => 0)))) C.1 C.2.1 (hts _ hw1) rfl C.2.2.2.2.2.2.2.2.2.2.2.2.2.2.2.1 hw.1 hw.2 hS C.2.2.2.2.2.2.2.2.2.2.2.2.2.2.1 (fun _ => rfl) hb4 rfl (by show n.toNatClampNeg * 8 ≤ _; omega) (by rw [hR3]; omega) (by rw [hR4]; omega) hd (fun q cA H1 hK1 hP1 hD1 hS1 => ?_)
    have hcA : cA = g.2.2.1 1 := by
      have h1 : va_RA s cA .long := (hK1.2 (e_tys g).length (cA, .long) (by simp)).2
      have h2 : va_RA s (g.2.2.1 1) .long := (C.2.2.2.2.2.2.2.2.2.2.2.2.2.2.2.1.2 1 _ (e_tys_get rfl)).2
      exact Option.some.inj (Eq.trans (Eq.symm h1) h2)
    subst hcA
    refine e_pushed C hS1 hl hn hcb hsb hk hb1 hb2 hf hsc hall ?_ hP1 hD1 (hK _ _ _ _ _ _ H)
    show (Sum.inl (g.2.2.1 1, n.toNatClampNeg, .inr (.inl (e_hL (e_push h (.inr (.inl (1, n.toNatClampNeg)))) (e_lay h).length))) : va_E) = _
    refine congrArg (fun z => (Sum.inl (g.2.2.1 1, n.toNatClampNeg, Sum.inr (Sum.inl z)) : va_E)) (funext fun j => e_push_L)
theorem e_s_newa_char {k pc len : Nat} {v : Value} {ns : List Nat} {ps : List (Nat × Nat)} {loc : List (Option Value)} {st : List Value} {h : e_H} {bc bs : Nat} {K : Nat → List (Option Value) → List Value → e_H → Nat → Nat → Prop} {Q : e_O → e_H → Prop}  (hd : decode (e_mb k) pc = .ok (.newarray .char, 2)) (hns : ns = [2]) (hw1 : Cond.arrayClass (newarray.typeOf .char) ∈ e_tb) (hK : ∀ pc loc st h bc bs, K pc loc st h bc bs → e_Wp k pc loc st h bc bs Q)
    (H : e_stp loc st h bc bs K Q (e_rt k) (pc, .newarray .char, len, v, ns, ps)) : e_Wp k pc loc st h bc bs Q := by
  subst hns
  rcases st with _ | ⟨w, r⟩
  · exact False.elim H
  cases w <;> try exact False.elim H
  case int n =>
    have h9 := e_bif (show bif e_fl h && e_scp h loc r && (e_lay h).all (e_sc (e_lay h).length) && Nat.ble 1 bc && Nat.ble n.toNatClampNeg bs && Nat.ble n.toNatClampNeg 65536 && !(decide (n < 0)) then K (pc + 2) loc (.ref (e_lay h).length :: r) (e_push h (.inr (.inl (2, n.toNatClampNeg)))) (bc - 1) (bs - n.toNatClampNeg) else False from H)
    clear H
    obtain ⟨hb0, H⟩ := h9
    simp only [Bool.and_eq_true, Bool.not_eq_true', decide_eq_false_iff_not] at hb0
    obtain ⟨⟨⟨⟨⟨⟨hf, hsc⟩, hall⟩, hb1⟩, hb2⟩, hb3⟩, hb4⟩ := hb0
    have hb1 := Nat.le_of_ble_eq_true hb1
    have hb2 := Nat.le_of_ble_eq_true hb2
    have hb3 := Nat.le_of_ble_eq_true hb3
    intro p l e R s m args below meth c g A Hp locs cells slots mc ms ls Qc XC C hw hS hl hn hcb hsb hk
    have hts := C.2.2.2.2.1
    have hR3 : R.cells = mc := C.2.2.2.2.2.2.2.2.2.2.2.1
    have hR4 : R.slots = ms := C.2.2.2.2.2.2.2.2.2.2.2.2.1
    refine va_newa (atype := .char) (ty := .char) (N' := n.toNatClampNeg) (a0 := (n.toNatClampNeg, .inl (fun _ => 0))) C.1 C.2.1 (hts _ hw1) rfl C.2.2.2.2.2.2.2.2.2.2.2.2.2.2.2.1 hw.1 hw.2 hS C.2.2.2.2.2.2.2.2.2.2.2.2.2.2.1 (fun _ => rfl) hb4 rfl (by show n.toNatClampNeg * 2 ≤ _; omega) (by rw [hR3]; omega) (by rw [hR4]; omega) hd (fun q cA H1 hK1 hP1 hD1 hS1 => ?_)
    have hcA : cA = g.2.2.1 2 := by
      have h1 : va_RA s cA .char := (hK1.2 (e_tys g).length (cA, .char) (by simp)).2
      have h2 : va_RA s (g.2.2.1 2) .char := (C.2.2.2.2.2.2.2.2.2.2.2.2.2.2.2.1.2 2 _ (e_tys_get rfl)).2
      exact Option.some.inj (Eq.trans (Eq.symm h1) h2)
    subst hcA
    refine e_pushed C hS1 hl hn hcb hsb hk hb1 hb2 hf hsc hall ?_ hP1 hD1 (hK _ _ _ _ _ _ H)
    show (Sum.inl (g.2.2.1 2, n.toNatClampNeg, .inl (e_hI (e_push h (.inr (.inl (2, n.toNatClampNeg)))) (e_lay h).length)) : va_E) = _
    refine congrArg (fun z => (Sum.inl (g.2.2.1 2, n.toNatClampNeg, Sum.inl z) : va_E)) (funext fun j => e_push_I)
theorem e_s_newa_double {k pc len : Nat} {v : Value} {ns : List Nat} {ps : List (Nat × Nat)} {loc : List (Option Value)} {st : List Value} {h : e_H} {bc bs : Nat} {K : Nat → List (Option Value) → List Value → e_H → Nat → Nat → Prop} {Q : e_O → e_H → Prop}  (hd : decode (e_mb k) pc = .ok (.newarray .double, 2)) (hns : ns = [3]) (hw1 : Cond.arrayClass (newarray.typeOf .double) ∈ e_tb) (hK : ∀ pc loc st h bc bs, K pc loc st h bc bs → e_Wp k pc loc st h bc bs Q)
    (H : e_stp loc st h bc bs K Q (e_rt k) (pc, .newarray .double, len, v, ns, ps)) : e_Wp k pc loc st h bc bs Q := by
  subst hns
  rcases st with _ | ⟨w, r⟩
  · exact False.elim H
  cases w <;> try exact False.elim H
  case int n =>
    have h9 := e_bif (show bif e_fl h && e_scp h loc r && (e_lay h).all (e_sc (e_lay h).length) && Nat.ble 1 bc && Nat.ble n.toNatClampNeg bs && Nat.ble n.toNatClampNeg 65536 && !(decide (n < 0)) then K (pc + 2) loc (.ref (e_lay h).length :: r) (e_push h (.inr (.inl (3, n.toNatClampNeg)))) (bc - 1) (bs - n.toNatClampNeg) else False from H)
    clear H
    obtain ⟨hb0, H⟩ := h9
    simp only [Bool.and_eq_true, Bool.not_eq_true', decide_eq_false_iff_not] at hb0
    obtain ⟨⟨⟨⟨⟨⟨hf, hsc⟩, hall⟩, hb1⟩, hb2⟩, hb3⟩, hb4⟩ := hb0
    have hb1 := Nat.le_of_ble_eq_true hb1
    have hb2 := Nat.le_of_ble_eq_true hb2
    have hb3 := Nat.le_of_ble_eq_true hb3
    intro p l e R s m args below meth c g A Hp locs cells slots mc ms ls Qc XC C hw hS hl hn hcb hsb hk
    have hts := C.2.2.2.2.1
    have hR3 : R.cells = mc := C.2.2.2.2.2.2.2.2.2.2.2.1
    have hR4 : R.slots = ms := C.2.2.2.2.2.2.2.2.2.2.2.2.1
    refine va_newa (atype := .double) (ty := .double) (N' := n.toNatClampNeg) (a0 := (n.toNatClampNeg, .inr (.inr (.inr (.inl (fun _ => 0)))))) C.1 C.2.1 (hts _ hw1) rfl C.2.2.2.2.2.2.2.2.2.2.2.2.2.2.2.1 hw.1 hw.2 hS C.2.2.2.2.2.2.2.2.2.2.2.2.2.2.1 (fun _ => rfl) hb4 rfl (by show n.toNatClampNeg * 8 ≤ _; omega) (by rw [hR3]; omega) (by rw [hR4]; omega) hd (fun q cA H1 hK1 hP1 hD1 hS1 => ?_)
    have hcA : cA = g.2.2.1 3 := by
      have h1 : va_RA s cA .double := (hK1.2 (e_tys g).length (cA, .double) (by simp)).2
      have h2 : va_RA s (g.2.2.1 3) .double := (C.2.2.2.2.2.2.2.2.2.2.2.2.2.2.2.1.2 3 _ (e_tys_get rfl)).2
      exact Option.some.inj (Eq.trans (Eq.symm h1) h2)
    subst hcA
    refine e_pushed C hS1 hl hn hcb hsb hk hb1 hb2 hf hsc hall ?_ hP1 hD1 (hK _ _ _ _ _ _ H)
    show (Sum.inl (g.2.2.1 3, n.toNatClampNeg, .inr (.inr (.inr (.inl (e_hD (e_push h (.inr (.inl (3, n.toNatClampNeg)))) (e_lay h).length))))) : va_E) = _
    refine congrArg (fun z => (Sum.inl (g.2.2.1 3, n.toNatClampNeg, Sum.inr (Sum.inr (Sum.inr (Sum.inl z)))) : va_E)) (funext fun j => e_push_D)
theorem e_s_anewa {k pc len : Nat} {v : Value} {ns : List Nat} {ps : List (Nat × Nat)} {loc : List (Option Value)} {st : List Value} {h : e_H} {bc bs : Nat} {K : Nat → List (Option Value) → List Value → e_H → Nat → Nat → Prop} {Q : e_O → e_H → Prop} {ix : Nat} (hd : decode (e_mb k) pc = .ok (.anewarray ix, 3)) (hw1 : Cond.classLink (e_nm k).cls ix "HexCampaign$Game" ∈ e_tb) (hK : ∀ pc loc st h bc bs, K pc loc st h bc bs → e_Wp k pc loc st h bc bs Q)
    (H : e_stp loc st h bc bs K Q (e_rt k) (pc, .anewarray ix, len, v, ns, ps)) : e_Wp k pc loc st h bc bs Q := by
  replace H : e_anw loc st h bc bs K pc := H
  unfold e_anw at H
  split at H
  · rename_i n r
    have h9 := e_bif H
    clear H
    obtain ⟨hb0, H⟩ := h9
    simp only [Bool.and_eq_true, Bool.not_eq_true', decide_eq_false_iff_not] at hb0
    obtain ⟨⟨⟨⟨⟨⟨hf, hsc⟩, hall⟩, hb1⟩, hb2⟩, hb3⟩, hb4⟩ := hb0
    have hb1 := Nat.le_of_ble_eq_true hb1
    have hb2 := Nat.le_of_ble_eq_true hb2
    have hb3 := Nat.le_of_ble_eq_true hb3
    intro p l e R s m args below meth c g A Hp locs cells slots mc ms ls Qc XC C hw hS hl hn hcb hsb hk
    have hts := C.2.2.2.2.1
    have hR3 : R.cells = mc := C.2.2.2.2.2.2.2.2.2.2.2.1
    have hR4 : R.slots = ms := C.2.2.2.2.2.2.2.2.2.2.2.2.1
    refine va_newq (N' := n.toNatClampNeg) C.1 C.2.1 C.2.2.2.1 (hts _ hw1) C.2.2.2.2.2.2.2.2.2.2.2.2.2.2.2.2.2.2.2.2.2.2.2.2.2.2.2.1 C.2.2.2.2.2.2.2.2.2.2.2.2.2.2.2.1 hw.1 hw.2 hS C.2.2.2.2.2.2.2.2.2.2.2.2.2.2.1 hb4 rfl (by omega) (by rw [hR3]; omega) (by rw [hR4]; omega) hd (fun q cA H1 hK1 hP1 hD1 hS1 => ?_)
    have hcA : cA = g.2.2.1 4 := by
      have h1 : va_RA s cA (.object "HexCampaign$Game") := (hK1.2 (e_tys g).length (cA, .object "HexCampaign$Game") (by simp)).2
      have h2 : va_RA s (g.2.2.1 4) (.object "HexCampaign$Game") := (C.2.2.2.2.2.2.2.2.2.2.2.2.2.2.2.1.2 4 _ (e_tys_get rfl)).2
      obtain ⟨-, -, -, -, -, h1⟩ := h1
      obtain ⟨-, -, -, -, -, h2⟩ := h2
      exact Option.some.inj (Eq.trans (Eq.symm h1) h2)
    subst hcA
    refine e_pushed C hS1 hl hn hcb hsb hk hb1 hb2 hf hsc hall ?_ hP1 hD1 (hK _ _ _ _ _ _ H)
    simp only [e_cell]
    refine congrArg (fun z => (Sum.inl (g.2.2.1 4, n.toNatClampNeg, Sum.inr (Sum.inr (Sum.inr (Sum.inr z)))) : va_E)) (funext fun i => ?_)
    rw [List.getD_eq_getElem?_getD, List.getElem?_replicate]
    split <;> rfl
  · exact False.elim H
/-- a word of a throw: one that a call hands on, or one of those that are kept beside -/
def e_xw (E : String) (w : Cond) : Prop := w ∈ e_tb ∨ w = .castable E E ∨ ∃ y, w = .declares y ∧ y ∈ e_dcl
theorem e_at00 {own : String} {ic : Nat} (h : Cond.methodLink own ic (Bundle.init0 "java/lang/IndexOutOfBoundsException") ∈ e_tb) : ∀ w ∈ Bundle.ownAtoms0 own ic "java/lang/IndexOutOfBoundsException" e_xnm, vx_no w = true → e_xw "java/lang/IndexOutOfBoundsException" w := List.forall_mem_append.mpr ⟨List.forall_mem_append.mpr ⟨List.forall_mem_cons.mpr ⟨fun _ => Or.inl (e_memw (i := 1) (j := 13) rfl rfl), List.forall_mem_cons.mpr ⟨fun _ => Or.inl (e_memw (i := 3) (j := 86) rfl rfl), List.forall_mem_cons.mpr ⟨fun _ => Or.inl (e_memw (i := 3) (j := 37) rfl rfl), List.forall_mem_cons.mpr ⟨fun _ => Or.inl (e_memw (i := 3) (j := 46) rfl rfl), List.forall_mem_cons.mpr ⟨fun _ => Or.inl (e_memw (i := 3) (j := 49) rfl rfl), List.forall_mem_cons.mpr ⟨fun _ => Or.inl (e_memw (i := 3) (j := 51) rfl rfl), List.forall_mem_cons.mpr ⟨fun _ => Or.inl (e_memw (i := 3) (j := 87) rfl rfl), List.forall_mem_cons.mpr ⟨fun _ => Or.inl (e_memw (i := 3) (j := 88) rfl rfl), List.forall_mem_cons.mpr ⟨fun _ => Or.inl (e_memw (i := 1) (j := 37) rfl rfl), List.forall_mem_cons.mpr ⟨fun _ => Or.inl (e_memw (i := 1) (j := 38) rfl rfl), List.forall_mem_cons.mpr ⟨fun _ => Or.inl (e_memw (i := 3) (j := 31) rfl rfl), List.forall_mem_cons.mpr ⟨fun _ => Or.inl (e_memw (i := 3) (j := 36) rfl rfl), List.forall_mem_cons.mpr ⟨fun _ => Or.inl (e_memw (i := 3) (j := 47) rfl rfl), List.forall_mem_cons.mpr ⟨fun _ => Or.inl (e_memw (i := 3) (j := 54) rfl rfl), List.forall_mem_cons.mpr ⟨fun _ => Or.inl (e_memw (i := 3) (j := 80) rfl rfl), List.forall_mem_cons.mpr ⟨fun _ => Or.inl (e_memw (i := 3) (j := 55) rfl rfl), List.forall_mem_cons.mpr ⟨fun _ => Or.inl (e_memw (i := 3) (j := 81) rfl rfl), List.forall_mem_cons.mpr ⟨fun _ => Or.inl (e_memw (i := 3) (j := 56) rfl rfl), List.forall_mem_cons.mpr ⟨fun _ => Or.inl (e_memw (i := 3) (j := 82) rfl rfl), List.forall_mem_cons.mpr ⟨fun _ => Or.inl (e_memw (i := 3) (j := 32) rfl rfl), List.forall_mem_cons.mpr ⟨fun h0 => absurd h0 (by decide +kernel), List.forall_mem_cons.mpr ⟨fun _ => Or.inl (e_memw (i := 3) (j := 34) rfl rfl), List.forall_mem_cons.mpr ⟨fun h0 => absurd h0 (by decide +kernel), List.forall_mem_cons.mpr ⟨fun _ => Or.inl (e_memw (i := 3) (j := 83) rfl rfl), fun _ h1 => absurd h1 List.not_mem_nil⟩⟩⟩⟩⟩⟩⟩⟩⟩⟩⟩⟩⟩⟩⟩⟩⟩⟩⟩⟩⟩⟩⟩⟩, List.forall_mem_cons.mpr ⟨fun _ => Or.inl (e_memw (i := 3) (j := 114) rfl rfl), List.forall_mem_cons.mpr ⟨fun _ => Or.inl (e_memw (i := 3) (j := 115) rfl rfl), List.forall_mem_cons.mpr ⟨fun _ => Or.inl (e_memw (i := 3) (j := 116) rfl rfl), List.forall_mem_cons.mpr ⟨fun _ => Or.inl (e_memw (i := 3) (j := 117) rfl rfl), List.forall_mem_cons.mpr ⟨fun _ => Or.inr (Or.inr ⟨_, rfl, by decide +kernel⟩), List.forall_mem_cons.mpr ⟨fun _ => Or.inl (e_memw (i := 3) (j := 117) rfl rfl), List.forall_mem_cons.mpr ⟨fun _ => Or.inl (e_memw (i := 3) (j := 118) rfl rfl), List.forall_mem_cons.mpr ⟨fun _ => Or.inl (e_memw (i := 3) (j := 119) rfl rfl), List.forall_mem_cons.mpr ⟨fun _ => Or.inl (e_memw (i := 3) (j := 120) rfl rfl), List.forall_mem_cons.mpr ⟨fun _ => Or.inr (Or.inr ⟨_, rfl, by decide +kernel⟩), List.forall_mem_cons.mpr ⟨fun _ => Or.inl (e_memw (i := 3) (j := 120) rfl rfl), List.forall_mem_cons.mpr ⟨fun _ => Or.inl (e_memw (i := 3) (j := 121) rfl rfl), List.forall_mem_cons.mpr ⟨fun _ => Or.inl (e_memw (i := 3) (j := 122) rfl rfl), List.forall_mem_cons.mpr ⟨fun _ => Or.inl (e_memw (i := 3) (j := 87) rfl rfl), List.forall_mem_cons.mpr ⟨fun _ => Or.inr (Or.inr ⟨_, rfl, by decide +kernel⟩), fun _ h1 => absurd h1 List.not_mem_nil⟩⟩⟩⟩⟩⟩⟩⟩⟩⟩⟩⟩⟩⟩⟩⟩, List.forall_mem_cons.mpr ⟨fun _ => Or.inl h, List.forall_mem_cons.mpr ⟨fun _ => Or.inl (e_memw (i := 3) (j := 105) rfl rfl), List.forall_mem_cons.mpr ⟨fun _ => Or.inr (Or.inl rfl), List.forall_mem_cons.mpr ⟨fun _ => Or.inl (e_memw (i := 3) (j := 107) rfl rfl), List.forall_mem_cons.mpr ⟨fun _ => Or.inl (e_memw (i := 3) (j := 43) rfl rfl), List.forall_mem_cons.mpr ⟨fun _ => Or.inl (e_memw (i := 3) (j := 108) rfl rfl), List.forall_mem_cons.mpr ⟨fun _ => Or.inl (e_memw (i := 3) (j := 109) rfl rfl), List.forall_mem_cons.mpr ⟨fun _ => Or.inl (e_memw (i := 3) (j := 110) rfl rfl), List.forall_mem_cons.mpr ⟨fun _ => Or.inl (e_memw (i := 3) (j := 111) rfl rfl), List.forall_mem_cons.mpr ⟨fun h0 => absurd h0 (by decide +kernel), List.forall_mem_cons.mpr ⟨fun h0 => absurd h0 (by decide +kernel), List.forall_mem_cons.mpr ⟨fun _ => Or.inl (e_memw (i := 3) (j := 52) rfl rfl), List.forall_mem_cons.mpr ⟨fun _ => Or.inl (e_memw (i := 3) (j := 84) rfl rfl), List.forall_mem_cons.mpr ⟨fun _ => Or.inl (e_memw (i := 3) (j := 112) rfl rfl), fun _ h1 => absurd h1 List.not_mem_nil⟩⟩⟩⟩⟩⟩⟩⟩⟩⟩⟩⟩⟩⟩⟩
theorem e_at01 {own : String} {ic : Nat} (h : Cond.methodLink own ic (Bundle.init0 "java/lang/IllegalArgumentException") ∈ e_tb) : ∀ w ∈ Bundle.ownAtoms0 own ic "java/lang/IllegalArgumentException" e_xnm, vx_no w = true → e_xw "java/lang/IllegalArgumentException" w := List.forall_mem_append.mpr ⟨List.forall_mem_append.mpr ⟨List.forall_mem_cons.mpr ⟨fun _ => Or.inl (e_memw (i := 1) (j := 13) rfl rfl), List.forall_mem_cons.mpr ⟨fun _ => Or.inl (e_memw (i := 3) (j := 86) rfl rfl), List.forall_mem_cons.mpr ⟨fun _ => Or.inl (e_memw (i := 3) (j := 37) rfl rfl), List.forall_mem_cons.mpr ⟨fun _ => Or.inl (e_memw (i := 3) (j := 46) rfl rfl), List.forall_mem_cons.mpr ⟨fun _ => Or.inl (e_memw (i := 3) (j := 49) rfl rfl), List.forall_mem_cons.mpr ⟨fun _ => Or.inl (e_memw (i := 3) (j := 51) rfl rfl), List.forall_mem_cons.mpr ⟨fun _ => Or.inl (e_memw (i := 3) (j := 87) rfl rfl), List.forall_mem_cons.mpr ⟨fun _ => Or.inl (e_memw (i := 3) (j := 88) rfl rfl), List.forall_mem_cons.mpr ⟨fun _ => Or.inl (e_memw (i := 1) (j := 37) rfl rfl), List.forall_mem_cons.mpr ⟨fun _ => Or.inl (e_memw (i := 1) (j := 38) rfl rfl), List.forall_mem_cons.mpr ⟨fun _ => Or.inl (e_memw (i := 3) (j := 31) rfl rfl), List.forall_mem_cons.mpr ⟨fun _ => Or.inl (e_memw (i := 3) (j := 36) rfl rfl), List.forall_mem_cons.mpr ⟨fun _ => Or.inl (e_memw (i := 3) (j := 47) rfl rfl), List.forall_mem_cons.mpr ⟨fun _ => Or.inl (e_memw (i := 3) (j := 54) rfl rfl), List.forall_mem_cons.mpr ⟨fun _ => Or.inl (e_memw (i := 3) (j := 80) rfl rfl), List.forall_mem_cons.mpr ⟨fun _ => Or.inl (e_memw (i := 3) (j := 55) rfl rfl), List.forall_mem_cons.mpr ⟨fun _ => Or.inl (e_memw (i := 3) (j := 81) rfl rfl), List.forall_mem_cons.mpr ⟨fun _ => Or.inl (e_memw (i := 3) (j := 56) rfl rfl), List.forall_mem_cons.mpr ⟨fun _ => Or.inl (e_memw (i := 3) (j := 82) rfl rfl), List.forall_mem_cons.mpr ⟨fun _ => Or.inl (e_memw (i := 3) (j := 32) rfl rfl), List.forall_mem_cons.mpr ⟨fun h0 => absurd h0 (by decide +kernel), List.forall_mem_cons.mpr ⟨fun _ => Or.inl (e_memw (i := 3) (j := 34) rfl rfl), List.forall_mem_cons.mpr ⟨fun h0 => absurd h0 (by decide +kernel), List.forall_mem_cons.mpr ⟨fun _ => Or.inl (e_memw (i := 3) (j := 83) rfl rfl), fun _ h1 => absurd h1 List.not_mem_nil⟩⟩⟩⟩⟩⟩⟩⟩⟩⟩⟩⟩⟩⟩⟩⟩⟩⟩⟩⟩⟩⟩⟩⟩, List.forall_mem_cons.mpr ⟨fun _ => Or.inl (e_memw (i := 3) (j := 135) rfl rfl), List.forall_mem_cons.mpr ⟨fun _ => Or.inl (e_memw (i := 3) (j := 136) rfl rfl), List.forall_mem_cons.mpr ⟨fun _ => Or.inl (e_memw (i := 3) (j := 137) rfl rfl), List.forall_mem_cons.mpr ⟨fun _ => Or.inl (e_memw (i := 3) (j := 117) rfl rfl), List.forall_mem_cons.mpr ⟨fun _ => Or.inr (Or.inr ⟨_, rfl, by decide +kernel⟩), List.forall_mem_cons.mpr ⟨fun _ => Or.inl (e_memw (i := 3) (j := 117) rfl rfl), List.forall_mem_cons.mpr ⟨fun _ => Or.inl (e_memw (i := 3) (j := 118) rfl rfl), List.forall_mem_cons.mpr ⟨fun _ => Or.inl (e_memw (i := 3) (j := 119) rfl rfl), List.forall_mem_cons.mpr ⟨fun _ => Or.inl (e_memw (i := 3) (j := 120) rfl rfl), List.forall_mem_cons.mpr ⟨fun _ => Or.inr (Or.inr ⟨_, rfl, by decide +kernel⟩), List.forall_mem_cons.mpr ⟨fun _ => Or.inl (e_memw (i := 3) (j := 120) rfl rfl), List.forall_mem_cons.mpr ⟨fun _ => Or.inl (e_memw (i := 3) (j := 121) rfl rfl), List.forall_mem_cons.mpr ⟨fun _ => Or.inl (e_memw (i := 3) (j := 122) rfl rfl), List.forall_mem_cons.mpr ⟨fun _ => Or.inl (e_memw (i := 3) (j := 87) rfl rfl), List.forall_mem_cons.mpr ⟨fun _ => Or.inr (Or.inr ⟨_, rfl, by decide +kernel⟩), fun _ h1 => absurd h1 List.not_mem_nil⟩⟩⟩⟩⟩⟩⟩⟩⟩⟩⟩⟩⟩⟩⟩⟩, List.forall_mem_cons.mpr ⟨fun _ => Or.inl h, List.forall_mem_cons.mpr ⟨fun _ => Or.inl (e_memw (i := 3) (j := 126) rfl rfl), List.forall_mem_cons.mpr ⟨fun _ => Or.inr (Or.inl rfl), List.forall_mem_cons.mpr ⟨fun _ => Or.inl (e_memw (i := 3) (j := 128) rfl rfl), List.forall_mem_cons.mpr ⟨fun _ => Or.inl (e_memw (i := 3) (j := 41) rfl rfl), List.forall_mem_cons.mpr ⟨fun _ => Or.inl (e_memw (i := 3) (j := 129) rfl rfl), List.forall_mem_cons.mpr ⟨fun _ => Or.inl (e_memw (i := 3) (j := 130) rfl rfl), List.forall_mem_cons.mpr ⟨fun _ => Or.inl (e_memw (i := 3) (j := 131) rfl rfl), List.forall_mem_cons.mpr ⟨fun _ => Or.inl (e_memw (i := 3) (j := 132) rfl rfl), List.forall_mem_cons.mpr ⟨fun h0 => absurd h0 (by decide +kernel), List.forall_mem_cons.mpr ⟨fun h0 => absurd h0 (by decide +kernel), List.forall_mem_cons.mpr ⟨fun _ => Or.inl (e_memw (i := 3) (j := 52) rfl rfl), List.forall_mem_cons.mpr ⟨fun _ => Or.inl (e_memw (i := 3) (j := 84) rfl rfl), List.forall_mem_cons.mpr ⟨fun _ => Or.inl (e_memw (i := 3) (j := 133) rfl rfl), fun _ h1 => absurd h1 List.not_mem_nil⟩⟩⟩⟩⟩⟩⟩⟩⟩⟩⟩⟩⟩⟩⟩
theorem e_at02 {own : String} {ic : Nat} (h : Cond.methodLink own ic (Bundle.init0 "java/lang/IllegalStateException") ∈ e_tb) : ∀ w ∈ Bundle.ownAtoms0 own ic "java/lang/IllegalStateException" e_xnm, vx_no w = true → e_xw "java/lang/IllegalStateException" w := List.forall_mem_append.mpr ⟨List.forall_mem_append.mpr ⟨List.forall_mem_cons.mpr ⟨fun _ => Or.inl (e_memw (i := 1) (j := 13) rfl rfl), List.forall_mem_cons.mpr ⟨fun _ => Or.inl (e_memw (i := 3) (j := 86) rfl rfl), List.forall_mem_cons.mpr ⟨fun _ => Or.inl (e_memw (i := 3) (j := 37) rfl rfl), List.forall_mem_cons.mpr ⟨fun _ => Or.inl (e_memw (i := 3) (j := 46) rfl rfl), List.forall_mem_cons.mpr ⟨fun _ => Or.inl (e_memw (i := 3) (j := 49) rfl rfl), List.forall_mem_cons.mpr ⟨fun _ => Or.inl (e_memw (i := 3) (j := 51) rfl rfl), List.forall_mem_cons.mpr ⟨fun _ => Or.inl (e_memw (i := 3) (j := 87) rfl rfl), List.forall_mem_cons.mpr ⟨fun _ => Or.inl (e_memw (i := 3) (j := 88) rfl rfl), List.forall_mem_cons.mpr ⟨fun _ => Or.inl (e_memw (i := 1) (j := 37) rfl rfl), List.forall_mem_cons.mpr ⟨fun _ => Or.inl (e_memw (i := 1) (j := 38) rfl rfl), List.forall_mem_cons.mpr ⟨fun _ => Or.inl (e_memw (i := 3) (j := 31) rfl rfl), List.forall_mem_cons.mpr ⟨fun _ => Or.inl (e_memw (i := 3) (j := 36) rfl rfl), List.forall_mem_cons.mpr ⟨fun _ => Or.inl (e_memw (i := 3) (j := 47) rfl rfl), List.forall_mem_cons.mpr ⟨fun _ => Or.inl (e_memw (i := 3) (j := 54) rfl rfl), List.forall_mem_cons.mpr ⟨fun _ => Or.inl (e_memw (i := 3) (j := 80) rfl rfl), List.forall_mem_cons.mpr ⟨fun _ => Or.inl (e_memw (i := 3) (j := 55) rfl rfl), List.forall_mem_cons.mpr ⟨fun _ => Or.inl (e_memw (i := 3) (j := 81) rfl rfl), List.forall_mem_cons.mpr ⟨fun _ => Or.inl (e_memw (i := 3) (j := 56) rfl rfl), List.forall_mem_cons.mpr ⟨fun _ => Or.inl (e_memw (i := 3) (j := 82) rfl rfl), List.forall_mem_cons.mpr ⟨fun _ => Or.inl (e_memw (i := 3) (j := 32) rfl rfl), List.forall_mem_cons.mpr ⟨fun h0 => absurd h0 (by decide +kernel), List.forall_mem_cons.mpr ⟨fun _ => Or.inl (e_memw (i := 3) (j := 34) rfl rfl), List.forall_mem_cons.mpr ⟨fun h0 => absurd h0 (by decide +kernel), List.forall_mem_cons.mpr ⟨fun _ => Or.inl (e_memw (i := 3) (j := 83) rfl rfl), fun _ h1 => absurd h1 List.not_mem_nil⟩⟩⟩⟩⟩⟩⟩⟩⟩⟩⟩⟩⟩⟩⟩⟩⟩⟩⟩⟩⟩⟩⟩⟩, List.forall_mem_cons.mpr ⟨fun _ => Or.inl (e_memw (i := 3) (j := 155) rfl rfl), List.forall_mem_cons.mpr ⟨fun _ => Or.inl (e_memw (i := 3) (j := 156) rfl rfl), List.forall_mem_cons.mpr ⟨fun _ => Or.inl (e_memw (i := 3) (j := 157) rfl rfl), List.forall_mem_cons.mpr ⟨fun _ => Or.inl (e_memw (i := 3) (j := 117) rfl rfl), List.forall_mem_cons.mpr ⟨fun _ => Or.inr (Or.inr ⟨_, rfl, by decide +kernel⟩), List.forall_mem_cons.mpr ⟨fun _ => Or.inl (e_memw (i := 3) (j := 117) rfl rfl), List.forall_mem_cons.mpr ⟨fun _ => Or.inl (e_memw (i := 3) (j := 118) rfl rfl), List.forall_mem_cons.mpr ⟨fun _ => Or.inl (e_memw (i := 3) (j := 119) rfl rfl), List.forall_mem_cons.mpr ⟨fun _ => Or.inl (e_memw (i := 3) (j := 120) rfl rfl), List.forall_mem_cons.mpr ⟨fun _ => Or.inr (Or.inr ⟨_, rfl, by decide +kernel⟩), List.forall_mem_cons.mpr ⟨fun _ => Or.inl (e_memw (i := 3) (j := 120) rfl rfl), List.forall_mem_cons.mpr ⟨fun _ => Or.inl (e_memw (i := 3) (j := 121) rfl rfl), List.forall_mem_cons.mpr ⟨fun _ => Or.inl (e_memw (i := 3) (j := 122) rfl rfl), List.forall_mem_cons.mpr ⟨fun _ => Or.inl (e_memw (i := 3) (j := 87) rfl rfl), List.forall_mem_cons.mpr ⟨fun _ => Or.inr (Or.inr ⟨_, rfl, by decide +kernel⟩), fun _ h1 => absurd h1 List.not_mem_nil⟩⟩⟩⟩⟩⟩⟩⟩⟩⟩⟩⟩⟩⟩⟩⟩, List.forall_mem_cons.mpr ⟨fun _ => Or.inl h, List.forall_mem_cons.mpr ⟨fun _ => Or.inl (e_memw (i := 3) (j := 146) rfl rfl), List.forall_mem_cons.mpr ⟨fun _ => Or.inr (Or.inl rfl), List.forall_mem_cons.mpr ⟨fun _ => Or.inl (e_memw (i := 3) (j := 148) rfl rfl), List.forall_mem_cons.mpr ⟨fun _ => Or.inl (e_memw (i := 3) (j := 42) rfl rfl), List.forall_mem_cons.mpr ⟨fun _ => Or.inl (e_memw (i := 3) (j := 149) rfl rfl), List.forall_mem_cons.mpr ⟨fun _ => Or.inl (e_memw (i := 3) (j := 150) rfl rfl), List.forall_mem_cons.mpr ⟨fun _ => Or.inl (e_memw (i := 3) (j := 151) rfl rfl), List.forall_mem_cons.mpr ⟨fun _ => Or.inl (e_memw (i := 3) (j := 152) rfl rfl), List.forall_mem_cons.mpr ⟨fun h0 => absurd h0 (by decide +kernel), List.forall_mem_cons.mpr ⟨fun h0 => absurd h0 (by decide +kernel), List.forall_mem_cons.mpr ⟨fun _ => Or.inl (e_memw (i := 3) (j := 52) rfl rfl), List.forall_mem_cons.mpr ⟨fun _ => Or.inl (e_memw (i := 3) (j := 84) rfl rfl), List.forall_mem_cons.mpr ⟨fun _ => Or.inl (e_memw (i := 3) (j := 153) rfl rfl), fun _ h1 => absurd h1 List.not_mem_nil⟩⟩⟩⟩⟩⟩⟩⟩⟩⟩⟩⟩⟩⟩⟩
theorem e_at03 {own : String} {ic : Nat} (h : Cond.methodLink own ic (Bundle.init0 "java/util/NoSuchElementException") ∈ e_tb) : ∀ w ∈ Bundle.ownAtoms0 own ic "java/util/NoSuchElementException" e_xnm, vx_no w = true → e_xw "java/util/NoSuchElementException" w := List.forall_mem_append.mpr ⟨List.forall_mem_append.mpr ⟨List.forall_mem_cons.mpr ⟨fun _ => Or.inl (e_memw (i := 1) (j := 13) rfl rfl), List.forall_mem_cons.mpr ⟨fun _ => Or.inl (e_memw (i := 3) (j := 86) rfl rfl), List.forall_mem_cons.mpr ⟨fun _ => Or.inl (e_memw (i := 3) (j := 37) rfl rfl), List.forall_mem_cons.mpr ⟨fun _ => Or.inl (e_memw (i := 3) (j := 46) rfl rfl), List.forall_mem_cons.mpr ⟨fun _ => Or.inl (e_memw (i := 3) (j := 49) rfl rfl), List.forall_mem_cons.mpr ⟨fun _ => Or.inl (e_memw (i := 3) (j := 51) rfl rfl), List.forall_mem_cons.mpr ⟨fun _ => Or.inl (e_memw (i := 3) (j := 87) rfl rfl), List.forall_mem_cons.mpr ⟨fun _ => Or.inl (e_memw (i := 3) (j := 88) rfl rfl), List.forall_mem_cons.mpr ⟨fun _ => Or.inl (e_memw (i := 1) (j := 37) rfl rfl), List.forall_mem_cons.mpr ⟨fun _ => Or.inl (e_memw (i := 1) (j := 38) rfl rfl), List.forall_mem_cons.mpr ⟨fun _ => Or.inl (e_memw (i := 3) (j := 31) rfl rfl), List.forall_mem_cons.mpr ⟨fun _ => Or.inl (e_memw (i := 3) (j := 36) rfl rfl), List.forall_mem_cons.mpr ⟨fun _ => Or.inl (e_memw (i := 3) (j := 47) rfl rfl), List.forall_mem_cons.mpr ⟨fun _ => Or.inl (e_memw (i := 3) (j := 54) rfl rfl), List.forall_mem_cons.mpr ⟨fun _ => Or.inl (e_memw (i := 3) (j := 80) rfl rfl), List.forall_mem_cons.mpr ⟨fun _ => Or.inl (e_memw (i := 3) (j := 55) rfl rfl), List.forall_mem_cons.mpr ⟨fun _ => Or.inl (e_memw (i := 3) (j := 81) rfl rfl), List.forall_mem_cons.mpr ⟨fun _ => Or.inl (e_memw (i := 3) (j := 56) rfl rfl), List.forall_mem_cons.mpr ⟨fun _ => Or.inl (e_memw (i := 3) (j := 82) rfl rfl), List.forall_mem_cons.mpr ⟨fun _ => Or.inl (e_memw (i := 3) (j := 32) rfl rfl), List.forall_mem_cons.mpr ⟨fun h0 => absurd h0 (by decide +kernel), List.forall_mem_cons.mpr ⟨fun _ => Or.inl (e_memw (i := 3) (j := 34) rfl rfl), List.forall_mem_cons.mpr ⟨fun h0 => absurd h0 (by decide +kernel), List.forall_mem_cons.mpr ⟨fun _ => Or.inl (e_memw (i := 3) (j := 83) rfl rfl), fun _ h1 => absurd h1 List.not_mem_nil⟩⟩⟩⟩⟩⟩⟩⟩⟩⟩⟩⟩⟩⟩⟩⟩⟩⟩⟩⟩⟩⟩⟩⟩, List.forall_mem_cons.mpr ⟨fun _ => Or.inl (e_memw (i := 3) (j := 232) rfl rfl), List.forall_mem_cons.mpr ⟨fun _ => Or.inl (e_memw (i := 3) (j := 233) rfl rfl), List.forall_mem_cons.mpr ⟨fun _ => Or.inl (e_memw (i := 3) (j := 234) rfl rfl), List.forall_mem_cons.mpr ⟨fun _ => Or.inl (e_memw (i := 3) (j := 117) rfl rfl), List.forall_mem_cons.mpr ⟨fun _ => Or.inr (Or.inr ⟨_, rfl, by decide +kernel⟩), List.forall_mem_cons.mpr ⟨fun _ => Or.inl (e_memw (i := 3) (j := 117) rfl rfl), List.forall_mem_cons.mpr ⟨fun _ => Or.inl (e_memw (i := 3) (j := 118) rfl rfl), List.forall_mem_cons.mpr ⟨fun _ => Or.inl (e_memw (i := 3) (j := 119) rfl rfl), List.forall_mem_cons.mpr ⟨fun _ => Or.inl (e_memw (i := 3) (j := 120) rfl rfl), List.forall_mem_cons.mpr ⟨fun _ => Or.inr (Or.inr ⟨_, rfl, by decide +kernel⟩), List.forall_mem_cons.mpr ⟨fun _ => Or.inl (e_memw (i := 3) (j := 120) rfl rfl), List.forall_mem_cons.mpr ⟨fun _ => Or.inl (e_memw (i := 3) (j := 121) rfl rfl), List.forall_mem_cons.mpr ⟨fun _ => Or.inl (e_memw (i := 3) (j := 122) rfl rfl), List.forall_mem_cons.mpr ⟨fun _ => Or.inl (e_memw (i := 3) (j := 87) rfl rfl), List.forall_mem_cons.mpr ⟨fun _ => Or.inr (Or.inr ⟨_, rfl, by decide +kernel⟩), fun _ h1 => absurd h1 List.not_mem_nil⟩⟩⟩⟩⟩⟩⟩⟩⟩⟩⟩⟩⟩⟩⟩⟩, List.forall_mem_cons.mpr ⟨fun _ => Or.inl h, List.forall_mem_cons.mpr ⟨fun _ => Or.inl (e_memw (i := 3) (j := 223) rfl rfl), List.forall_mem_cons.mpr ⟨fun _ => Or.inr (Or.inl rfl), List.forall_mem_cons.mpr ⟨fun _ => Or.inl (e_memw (i := 3) (j := 225) rfl rfl), List.forall_mem_cons.mpr ⟨fun _ => Or.inl (e_memw (i := 3) (j := 45) rfl rfl), List.forall_mem_cons.mpr ⟨fun _ => Or.inl (e_memw (i := 3) (j := 226) rfl rfl), List.forall_mem_cons.mpr ⟨fun _ => Or.inl (e_memw (i := 3) (j := 227) rfl rfl), List.forall_mem_cons.mpr ⟨fun _ => Or.inl (e_memw (i := 3) (j := 228) rfl rfl), List.forall_mem_cons.mpr ⟨fun _ => Or.inl (e_memw (i := 3) (j := 229) rfl rfl), List.forall_mem_cons.mpr ⟨fun h0 => absurd h0 (by decide +kernel), List.forall_mem_cons.mpr ⟨fun h0 => absurd h0 (by decide +kernel), List.forall_mem_cons.mpr ⟨fun _ => Or.inl (e_memw (i := 3) (j := 52) rfl rfl), List.forall_mem_cons.mpr ⟨fun _ => Or.inl (e_memw (i := 3) (j := 84) rfl rfl), List.forall_mem_cons.mpr ⟨fun _ => Or.inl (e_memw (i := 3) (j := 230) rfl rfl), fun _ h1 => absurd h1 List.not_mem_nil⟩⟩⟩⟩⟩⟩⟩⟩⟩⟩⟩⟩⟩⟩⟩
theorem e_at04 {own : String} {ic : Nat} (h : Cond.methodLink own ic (Bundle.init0 "java/lang/UnsupportedOperationException") ∈ e_tb) : ∀ w ∈ Bundle.ownAtoms0 own ic "java/lang/UnsupportedOperationException" e_xnm, vx_no w = true → e_xw "java/lang/UnsupportedOperationException" w := List.forall_mem_append.mpr ⟨List.forall_mem_append.mpr ⟨List.forall_mem_cons.mpr ⟨fun _ => Or.inl (e_memw (i := 1) (j := 13) rfl rfl), List.forall_mem_cons.mpr ⟨fun _ => Or.inl (e_memw (i := 3) (j := 86) rfl rfl), List.forall_mem_cons.mpr ⟨fun _ => Or.inl (e_memw (i := 3) (j := 37) rfl rfl), List.forall_mem_cons.mpr ⟨fun _ => Or.inl (e_memw (i := 3) (j := 46) rfl rfl), List.forall_mem_cons.mpr ⟨fun _ => Or.inl (e_memw (i := 3) (j := 49) rfl rfl), List.forall_mem_cons.mpr ⟨fun _ => Or.inl (e_memw (i := 3) (j := 51) rfl rfl), List.forall_mem_cons.mpr ⟨fun _ => Or.inl (e_memw (i := 3) (j := 87) rfl rfl), List.forall_mem_cons.mpr ⟨fun _ => Or.inl (e_memw (i := 3) (j := 88) rfl rfl), List.forall_mem_cons.mpr ⟨fun _ => Or.inl (e_memw (i := 1) (j := 37) rfl rfl), List.forall_mem_cons.mpr ⟨fun _ => Or.inl (e_memw (i := 1) (j := 38) rfl rfl), List.forall_mem_cons.mpr ⟨fun _ => Or.inl (e_memw (i := 3) (j := 31) rfl rfl), List.forall_mem_cons.mpr ⟨fun _ => Or.inl (e_memw (i := 3) (j := 36) rfl rfl), List.forall_mem_cons.mpr ⟨fun _ => Or.inl (e_memw (i := 3) (j := 47) rfl rfl), List.forall_mem_cons.mpr ⟨fun _ => Or.inl (e_memw (i := 3) (j := 54) rfl rfl), List.forall_mem_cons.mpr ⟨fun _ => Or.inl (e_memw (i := 3) (j := 80) rfl rfl), List.forall_mem_cons.mpr ⟨fun _ => Or.inl (e_memw (i := 3) (j := 55) rfl rfl), List.forall_mem_cons.mpr ⟨fun _ => Or.inl (e_memw (i := 3) (j := 81) rfl rfl), List.forall_mem_cons.mpr ⟨fun _ => Or.inl (e_memw (i := 3) (j := 56) rfl rfl), List.forall_mem_cons.mpr ⟨fun _ => Or.inl (e_memw (i := 3) (j := 82) rfl rfl), List.forall_mem_cons.mpr ⟨fun _ => Or.inl (e_memw (i := 3) (j := 32) rfl rfl), List.forall_mem_cons.mpr ⟨fun h0 => absurd h0 (by decide +kernel), List.forall_mem_cons.mpr ⟨fun _ => Or.inl (e_memw (i := 3) (j := 34) rfl rfl), List.forall_mem_cons.mpr ⟨fun h0 => absurd h0 (by decide +kernel), List.forall_mem_cons.mpr ⟨fun _ => Or.inl (e_memw (i := 3) (j := 83) rfl rfl), fun _ h1 => absurd h1 List.not_mem_nil⟩⟩⟩⟩⟩⟩⟩⟩⟩⟩⟩⟩⟩⟩⟩⟩⟩⟩⟩⟩⟩⟩⟩⟩, List.forall_mem_cons.mpr ⟨fun _ => Or.inl (e_memw (i := 5) (j := 74) rfl rfl), List.forall_mem_cons.mpr ⟨fun _ => Or.inl (e_memw (i := 5) (j := 75) rfl rfl), List.forall_mem_cons.mpr ⟨fun _ => Or.inl (e_memw (i := 5) (j := 76) rfl rfl), List.forall_mem_cons.mpr ⟨fun _ => Or.inl (e_memw (i := 3) (j := 117) rfl rfl), List.forall_mem_cons.mpr ⟨fun _ => Or.inr (Or.inr ⟨_, rfl, by decide +kernel⟩), List.forall_mem_cons.mpr ⟨fun _ => Or.inl (e_memw (i := 3) (j := 117) rfl rfl), List.forall_mem_cons.mpr ⟨fun _ => Or.inl (e_memw (i := 3) (j := 118) rfl rfl), List.forall_mem_cons.mpr ⟨fun _ => Or.inl (e_memw (i := 3) (j := 119) rfl rfl), List.forall_mem_cons.mpr ⟨fun _ => Or.inl (e_memw (i := 3) (j := 120) rfl rfl), List.forall_mem_cons.mpr ⟨fun _ => Or.inr (Or.inr ⟨_, rfl, by decide +kernel⟩), List.forall_mem_cons.mpr ⟨fun _ => Or.inl (e_memw (i := 3) (j := 120) rfl rfl), List.forall_mem_cons.mpr ⟨fun _ => Or.inl (e_memw (i := 3) (j := 121) rfl rfl), List.forall_mem_cons.mpr ⟨fun _ => Or.inl (e_memw (i := 3) (j := 122) rfl rfl), List.forall_mem_cons.mpr ⟨fun _ => Or.inl (e_memw (i := 3) (j := 87) rfl rfl), List.forall_mem_cons.mpr ⟨fun _ => Or.inr (Or.inr ⟨_, rfl, by decide +kernel⟩), fun _ h1 => absurd h1 List.not_mem_nil⟩⟩⟩⟩⟩⟩⟩⟩⟩⟩⟩⟩⟩⟩⟩⟩, List.forall_mem_cons.mpr ⟨fun _ => Or.inl h, List.forall_mem_cons.mpr ⟨fun _ => Or.inl (e_memw (i := 5) (j := 65) rfl rfl), List.forall_mem_cons.mpr ⟨fun _ => Or.inr (Or.inl rfl), List.forall_mem_cons.mpr ⟨fun _ => Or.inl (e_memw (i := 5) (j := 67) rfl rfl), List.forall_mem_cons.mpr ⟨fun _ => Or.inl (e_memw (i := 3) (j := 44) rfl rfl), List.forall_mem_cons.mpr ⟨fun _ => Or.inl (e_memw (i := 5) (j := 68) rfl rfl), List.forall_mem_cons.mpr ⟨fun _ => Or.inl (e_memw (i := 5) (j := 69) rfl rfl), List.forall_mem_cons.mpr ⟨fun _ => Or.inl (e_memw (i := 5) (j := 70) rfl rfl), List.forall_mem_cons.mpr ⟨fun _ => Or.inl (e_memw (i := 5) (j := 71) rfl rfl), List.forall_mem_cons.mpr ⟨fun h0 => absurd h0 (by decide +kernel), List.forall_mem_cons.mpr ⟨fun h0 => absurd h0 (by decide +kernel), List.forall_mem_cons.mpr ⟨fun _ => Or.inl (e_memw (i := 3) (j := 52) rfl rfl), List.forall_mem_cons.mpr ⟨fun _ => Or.inl (e_memw (i := 3) (j := 84) rfl rfl), List.forall_mem_cons.mpr ⟨fun _ => Or.inl (e_memw (i := 5) (j := 72) rfl rfl), fun _ h1 => absurd h1 List.not_mem_nil⟩⟩⟩⟩⟩⟩⟩⟩⟩⟩⟩⟩⟩⟩⟩
theorem e_at05 {own : String} {ic : Nat} (h : Cond.methodLink own ic (Bundle.init0 "java/lang/ArithmeticException") ∈ e_tb) : ∀ w ∈ Bundle.ownAtoms0 own ic "java/lang/ArithmeticException" e_xnm, vx_no w = true → e_xw "java/lang/ArithmeticException" w := List.forall_mem_append.mpr ⟨List.forall_mem_append.mpr ⟨List.forall_mem_cons.mpr ⟨fun _ => Or.inl (e_memw (i := 1) (j := 13) rfl rfl), List.forall_mem_cons.mpr ⟨fun _ => Or.inl (e_memw (i := 3) (j := 86) rfl rfl), List.forall_mem_cons.mpr ⟨fun _ => Or.inl (e_memw (i := 3) (j := 37) rfl rfl), List.forall_mem_cons.mpr ⟨fun _ => Or.inl (e_memw (i := 3) (j := 46) rfl rfl), List.forall_mem_cons.mpr ⟨fun _ => Or.inl (e_memw (i := 3) (j := 49) rfl rfl), List.forall_mem_cons.mpr ⟨fun _ => Or.inl (e_memw (i := 3) (j := 51) rfl rfl), List.forall_mem_cons.mpr ⟨fun _ => Or.inl (e_memw (i := 3) (j := 87) rfl rfl), List.forall_mem_cons.mpr ⟨fun _ => Or.inl (e_memw (i := 3) (j := 88) rfl rfl), List.forall_mem_cons.mpr ⟨fun _ => Or.inl (e_memw (i := 1) (j := 37) rfl rfl), List.forall_mem_cons.mpr ⟨fun _ => Or.inl (e_memw (i := 1) (j := 38) rfl rfl), List.forall_mem_cons.mpr ⟨fun _ => Or.inl (e_memw (i := 3) (j := 31) rfl rfl), List.forall_mem_cons.mpr ⟨fun _ => Or.inl (e_memw (i := 3) (j := 36) rfl rfl), List.forall_mem_cons.mpr ⟨fun _ => Or.inl (e_memw (i := 3) (j := 47) rfl rfl), List.forall_mem_cons.mpr ⟨fun _ => Or.inl (e_memw (i := 3) (j := 54) rfl rfl), List.forall_mem_cons.mpr ⟨fun _ => Or.inl (e_memw (i := 3) (j := 80) rfl rfl), List.forall_mem_cons.mpr ⟨fun _ => Or.inl (e_memw (i := 3) (j := 55) rfl rfl), List.forall_mem_cons.mpr ⟨fun _ => Or.inl (e_memw (i := 3) (j := 81) rfl rfl), List.forall_mem_cons.mpr ⟨fun _ => Or.inl (e_memw (i := 3) (j := 56) rfl rfl), List.forall_mem_cons.mpr ⟨fun _ => Or.inl (e_memw (i := 3) (j := 82) rfl rfl), List.forall_mem_cons.mpr ⟨fun _ => Or.inl (e_memw (i := 3) (j := 32) rfl rfl), List.forall_mem_cons.mpr ⟨fun h0 => absurd h0 (by decide +kernel), List.forall_mem_cons.mpr ⟨fun _ => Or.inl (e_memw (i := 3) (j := 34) rfl rfl), List.forall_mem_cons.mpr ⟨fun h0 => absurd h0 (by decide +kernel), List.forall_mem_cons.mpr ⟨fun _ => Or.inl (e_memw (i := 3) (j := 83) rfl rfl), fun _ h1 => absurd h1 List.not_mem_nil⟩⟩⟩⟩⟩⟩⟩⟩⟩⟩⟩⟩⟩⟩⟩⟩⟩⟩⟩⟩⟩⟩⟩⟩, List.forall_mem_cons.mpr ⟨fun _ => Or.inl (e_memw (i := 6) (j := 3) rfl rfl), List.forall_mem_cons.mpr ⟨fun _ => Or.inl (e_memw (i := 6) (j := 4) rfl rfl), List.forall_mem_cons.mpr ⟨fun _ => Or.inl (e_memw (i := 6) (j := 5) rfl rfl), List.forall_mem_cons.mpr ⟨fun _ => Or.inl (e_memw (i := 3) (j := 117) rfl rfl), List.forall_mem_cons.mpr ⟨fun _ => Or.inr (Or.inr ⟨_, rfl, by decide +kernel⟩), List.forall_mem_cons.mpr ⟨fun _ => Or.inl (e_memw (i := 3) (j := 117) rfl rfl), List.forall_mem_cons.mpr ⟨fun _ => Or.inl (e_memw (i := 3) (j := 118) rfl rfl), List.forall_mem_cons.mpr ⟨fun _ => Or.inl (e_memw (i := 3) (j := 119) rfl rfl), List.forall_mem_cons.mpr ⟨fun _ => Or.inl (e_memw (i := 3) (j := 120) rfl rfl), List.forall_mem_cons.mpr ⟨fun _ => Or.inr (Or.inr ⟨_, rfl, by decide +kernel⟩), List.forall_mem_cons.mpr ⟨fun _ => Or.inl (e_memw (i := 3) (j := 120) rfl rfl), List.forall_mem_cons.mpr ⟨fun _ => Or.inl (e_memw (i := 3) (j := 121) rfl rfl), List.forall_mem_cons.mpr ⟨fun _ => Or.inl (e_memw (i := 3) (j := 122) rfl rfl), List.forall_mem_cons.mpr ⟨fun _ => Or.inl (e_memw (i := 3) (j := 87) rfl rfl), List.forall_mem_cons.mpr ⟨fun _ => Or.inr (Or.inr ⟨_, rfl, by decide +kernel⟩), fun _ h1 => absurd h1 List.not_mem_nil⟩⟩⟩⟩⟩⟩⟩⟩⟩⟩⟩⟩⟩⟩⟩⟩, List.forall_mem_cons.mpr ⟨fun _ => Or.inl h, List.forall_mem_cons.mpr ⟨fun _ => Or.inl (e_memw (i := 5) (j := 220) rfl rfl), List.forall_mem_cons.mpr ⟨fun _ => Or.inr (Or.inl rfl), List.forall_mem_cons.mpr ⟨fun _ => Or.inl (e_memw (i := 5) (j := 232) rfl rfl), List.forall_mem_cons.mpr ⟨fun _ => Or.inl (e_memw (i := 3) (j := 39) rfl rfl), List.forall_mem_cons.mpr ⟨fun _ => Or.inl (e_memw (i := 5) (j := 226) rfl rfl), List.forall_mem_cons.mpr ⟨fun _ => Or.inl (e_memw (i := 5) (j := 227) rfl rfl), List.forall_mem_cons.mpr ⟨fun _ => Or.inl (e_memw (i := 5) (j := 229) rfl rfl), List.forall_mem_cons.mpr ⟨fun _ => Or.inl (e_memw (i := 5) (j := 225) rfl rfl), List.forall_mem_cons.mpr ⟨fun h0 => absurd h0 (by decide +kernel), List.forall_mem_cons.mpr ⟨fun h0 => absurd h0 (by decide +kernel), List.forall_mem_cons.mpr ⟨fun _ => Or.inl (e_memw (i := 3) (j := 52) rfl rfl), List.forall_mem_cons.mpr ⟨fun _ => Or.inl (e_memw (i := 3) (j := 84) rfl rfl), List.forall_mem_cons.mpr ⟨fun _ => Or.inl (e_memw (i := 5) (j := 224) rfl rfl), fun _ h1 => absurd h1 List.not_mem_nil⟩⟩⟩⟩⟩⟩⟩⟩⟩⟩⟩⟩⟩⟩⟩
theorem e_at0 {own : String} {ic : Nat} {E : String} (hE : E ∈ e_exc) (h : Cond.methodLink own ic (Bundle.init0 E) ∈ e_tb) : ∀ w ∈ vx_at0 own ic E e_xnm, e_xw E w := by
  intro w hw
  obtain ⟨h1, h2⟩ := List.mem_filter.mp hw
  simp only [e_exc, List.mem_cons, List.not_mem_nil, or_false] at hE
  rcases hE with rfl | rfl | rfl | rfl | rfl | rfl
  · exact e_at00 h w h1 h2
  · exact e_at01 h w h1 h2
  · exact e_at02 h w h1 h2
  · exact e_at03 h w h1 h2
  · exact e_at04 h w h1 h2
  · exact e_at05 h w h1 h2
theorem e_fitE : ∀ E ∈ e_exc, Bundle.fit E = true := by decide +kernel
theorem e_fitN : ∀ E ∈ e_xnm, Bundle.fit E = true := by decide +kernel
theorem e_ot {w : Cond} (h : w ∈ e_tb) : vx_ot w = true := by
  unfold vx_ot
  rw [(List.mem_filter.mp h).2, Bool.or_true]
theorem e_xw_ot {E : String} {w : Cond} (h : e_xw E w) : vx_ot w = true := by
  rcases h with h | rfl | ⟨y, rfl, -⟩
  · exact e_ot h
  · rfl
  · rfl
theorem e_xw_before {E : String} {w : Cond} {args : Array Value} {s : State} (hE : E ∈ e_exc) (hts : ∀ w ∈ e_tb, w.before args s = true) (h1 : ∀ E ∈ e_exc, va_Nw (.castable E E) s) (h2 : ∀ y ∈ e_dcl, va_Nw (.declares y) s) (h : e_xw E w) : w.before args s = true := by
  rcases h with h | rfl | ⟨y, rfl, hy⟩
  · exact hts w h
  · exact va_Nw.use rfl (h1 E hE)
  · exact va_Nw.use rfl (h2 y hy)
theorem e_s_throw {k pc len : Nat} {v : Value} {ns : List Nat} {ps : List (Nat × Nat)} {loc : List (Option Value)} {st : List Value} {h : e_H} {bc bs : Nat} {K : Nat → List (Option Value) → List Value → e_H → Nat → Nat → Prop} {Q : e_O → e_H → Prop} {ix ei ic : Nat} (hd : decode (e_mb k) pc = .ok (.new ix, 3)) (hns : ns = [1, ei, ic]) (hei : ei < e_exc.length) (hhh : e_hh k = []) (hf : 6 ≤ e_dd k) (hlo : 8 + (13 * 3 + 42) ≤ e_ll k) (hd3 : decode (e_mb k) (pc + 3) = .ok (.dup, 1)) (hd4 : decode (e_mb k) (pc + 4) = .ok (.invokespecial ic, 3)) (hd7 : decode (e_mb k) (pc + 7) = .ok (.athrow, 1)) (hw1 : Cond.classLink (e_nm k).cls ix (e_exc.getD ei "") ∈ e_tb) (hw2 : Cond.initialized (e_exc.getD ei "") ∈ e_tb) (hw3 : Cond.methodLink (e_nm k).cls ic (Bundle.init0 (e_exc.getD ei "")) ∈ e_tb) (hK : ∀ pc loc st h bc bs, K pc loc st h bc bs → e_Wp k pc loc st h bc bs Q)
    (H : e_stp loc st h bc bs K Q (e_rt k) (pc, .new ix, len, v, ns, ps)) : e_Wp k pc loc st h bc bs Q := by
  subst hns
  replace H : e_new loc st h bc bs K Q pc [1, ei, ic] := H
  simp only [e_new] at H
  have h9 := e_bif H
  clear H
  obtain ⟨hb0, H⟩ := h9
  simp only [Bool.and_eq_true] at hb0
  obtain ⟨⟨hb1, hb2⟩, hb3⟩ := hb0
  have hb1 := Nat.le_of_ble_eq_true hb1
  have hb2 := Nat.le_of_ble_eq_true hb2
  have hb3 := Nat.le_of_ble_eq_true hb3
  have hE : e_exc.getD ei "" ∈ e_exc := List.mem_of_getElem? (e_getL hei)
  intro p l e R s m args below meth c g A Hp locs cells slots mc ms ls Qc XC C hw hS hl hn hcb hsb hk
  have hts := C.2.2.2.2.1
  have hR1 : R.frames = e_dd k := C.2.2.2.2.2.2.2.2.2.1
  have hR2 : R.locals = e_ll k := C.2.2.2.2.2.2.2.2.2.2.1
  have hR3 : R.cells = mc := C.2.2.2.2.2.2.2.2.2.2.2.1
  have hR4 : R.slots = ms := C.2.2.2.2.2.2.2.2.2.2.2.2.1
  have hF := C.2.2.2.2.2.2.2.2.2.2.2.2.2.2.2.2
  refine vx_throw0 (names := e_xnm) C.1 C.2.1 C.2.2.2.2.2.2.2.2.2.2.2.2.2.1 C.2.2.2.1 (e_fitE _ hE) e_fitN (hts _ hw1) (hts _ hw2) (fun w hw0 => e_xw_before hE hts hF.2.2.2.2.2.2.2.2.2.2.1.1 hF.2.2.2.2.2.2.2.2.2.2.1.2 (e_at0 hE hw3 w hw0)) (fun w hw0 => ?_) hF.2.2.2.2.2.2.1 hF.2.2.2.2.2.2.2.1 hS (hl.1.trans C.2.2.1.symm) hd hd3 hd4 hd7 ?_ ?_ ?_ (by rw [hR3]; omega) (by rw [hR4]; omega) C.2.2.2.2.2.2.1 (fun t _ hz hq => ?_) hS.2.2 (by omega) (by omega)
  · rcases List.mem_cons.mp hw0 with rfl | hw0
    · exact e_ot hw1
    · rcases List.mem_cons.mp hw0 with rfl | hw0
      · exact e_ot hw2
      · exact e_xw_ot (e_at0 hE hw3 w hw0)
  · rw [C.2.2.2.2.2.2.2.2.1, hhh]
    intro x hx
    cases hx
  · rw [hR1]
    show 5 < e_dd k
    omega
  · rw [e_cat_rel hF.1, hR2]
    show e_cat st + (13 * 3 + 42) ≤ e_ll k
    omega
  · refine hk.2 _ g h t H e_to.rf ⟨hw.1.kept (fun i q hi => hq q.1 ((hw.1 i q hi).lt)), hw.2⟩ ⟨Nat.le_trans hS.1 hz, fun q h1 h2 => (hq q (Nat.lt_of_lt_of_le h1 hS.1)).trans (hS.2.1 q h1 h2)⟩
