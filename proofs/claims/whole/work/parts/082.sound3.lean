/-! calls -/
theorem e_cat_rel {g : e_G} (hx : ∀ k, e_refv (g.2.1 k)) (st : List Value) : ((st.map (e_rel g)).map fun v => v.category).sum = e_cat st := by
  unfold e_cat
  rw [List.map_map]
  congr 1
  exact List.map_congr_left (fun v _ => e_rel_cat (e_refc hx) v)
theorem e_rel_ag {g g' : e_G} {n : Nat} (hg : e_ag n g g') {v : Value} (hv : e_sv n v = true) : e_rel g' v = e_rel g v := by
  cases v with
  | ref k => exact congrArg Value.ref (hg.2 k (Nat.le_of_ble_eq_true hv))
  | retAddr k => show g'.2.1 k = g.2.1 k; rw [hg.1]
  | int x => rfl
  | long x => rfl
  | float x => rfl
  | double x => rfl
  | null => rfl
theorem e_scp_rel {g g' : e_G} {h h' : e_H} {loc : List (Option Value)} {st : List Value} (hs : e_scp h loc st = true) (ht : e_to g h g' h') : (∀ q ∈ e_as g' loc, q ∈ e_as g loc) ∧ st.map (e_rel g') = st.map (e_rel g) := by
  unfold e_scp at hs
  cases hf : e_fl h with
  | false =>
    have hgg := ht.2.2.2.1 hf
    subst hgg
    exact ⟨fun _ h => h, rfl⟩
  | true =>
    rw [hf] at hs
    simp only [Bool.not_true, Bool.false_or, Bool.and_eq_true] at hs
    refine ⟨?_, List.map_congr_left (fun v hv => e_rel_ag ht.2.2.1 (List.all_eq_true.mp hs.2 v hv))⟩
    rintro ⟨i, w⟩ hq
    obtain ⟨v, hv, rfl⟩ := e_as_mem.mp hq
    have h1 := List.all_eq_true.mp hs.1 (some v) (List.mem_of_getElem? hv)
    exact e_as_mem.mpr ⟨v, hv, e_rel_ag ht.2.2.1 h1⟩
theorem e_Cx.to {k : Nat} {p : Program} {l : Launch} {R : Room} {s : State} {m : MethodId} {args : Array Value} {meth : Method} {c : Code} {g g' : e_G} {A : Nat → Prop} {h h' : e_H} {mc ms : Nat} (C : e_Cx k p l R s m args meth c g A (e_scr h) mc ms) (ht : e_to g h g' h') : e_Cx k p l R s m args meth c g' A (e_scr h') mc ms := by
  obtain ⟨ad', r⟩ := g'
  obtain ⟨ad, r0⟩ := g
  have h1 : r = r0 := ht.2.2.1.1
  subst h1
  rw [ht.1]
  exact C
theorem e_freeA {g : e_G} {h : e_H} {A : Nat → Prop} {H0 H : Heap} {locs : List Loc} (hw : e_wd g h A H) (hS : va_S A H0 H locs) (hA : ∀ q, H0.size ≤ q → A q) : ∀ q, va_A (e_ws g h) H.size q → A q := by
  intro q hq
  rcases hq with ⟨k, e, hk⟩ | hq
  · exact hw.2.2 k (q, e) hk
  · exact hA q (Nat.le_trans hS.1 hq)
theorem e_blind {g : e_G} {sz : Nat} {avs : List Value} {h : e_H} : FrameBlind (e_Pc g sz avs h) := by
  intro a U g0 mk q
  obtain ⟨q0, q1, q2, q3, q4⟩ := q
  exact ⟨q0, q1, q2, va_K.moved (u := U) (U := U.calling g0 mk a) (Vm.Alike.refl U.vm) q3, e_F.moved (u := U) (U := U.calling g0 mk a) (State.WarmedH.refl U) q4⟩
theorem e_pre {k : Nat} {p : Program} {l : Launch} {R : Room} {s : State} {m : MethodId} {args : Array Value} {meth : Method} {c : Code} {g : e_G} {A : Nat → Prop} {h : e_H} {mc ms : Nat} {H : Heap} {locs : List Loc} {avs : List Value} (C : e_Cx k p l R s m args meth c g A (e_scr h) mc ms) (hw : e_wd g h A H) (hS : va_S A s.heap H locs) :
    ∀ U : State, U.heap = H → s.WarmedH U.vm → e_Pc g H.size avs h (avs.map (e_rel g)).toArray U := by
  intro U hU hW
  refine ⟨rfl, by rw [hU], by rw [hU]; exact ⟨hw.1, hw.2.weaken (fun _ _ _ _ => trivial)⟩, va_K.moved hW.alike C.2.2.2.2.2.2.2.2.2.2.2.2.2.2.2.1, ?_⟩
  rw [hU]
  exact ((C.2.2.2.2.2.2.2.2.2.2.2.2.2.2.2.2.kept hS.1 hS.2.1).narrow (e_freeA hw hS C.2.2.2.2.2.2.2.2.2.2.2.2.2.2.1)).moved hW
theorem e_wsk_good {z : Nat} (hz : z < 308) : GoodIn e_tb (e_wsk z) := by
  intro w hw
  unfold e_wsk at hw
  rcases List.mem_cons.mp hw with rfl | hw
  · exact e_tb_good _ (e_code_in hz)
  · exact e_tb_good _ hw
/-- behind a call: it has returned, or thrown -/
theorem e_callW {k : Nat} {p : Program} {l : Launch} {e : Env} {R : Room} {s : State} {m : MethodId} {args : Array Value} {below : List Frame} {meth : Method} {c : Code} {g : e_G} {A : Nat → Prop} {Hp : Heap} {locs : List Loc} {cells slots mc ms : Nat} {ls : Array Slot} {Qc : Array Value → State → Outcome → State → Prop} {XC : String → State → State → Prop}
    {pc c1 s1 bc bs : Nat} {loc : List (Option Value)} {st0 : List Value} {rest : List Value} {h : e_H} {Q Φ : e_O → e_H → Prop} {av : Array Value}
    (C : e_Cx k p l R s m args meth c g A (e_scr h) mc ms) (hw : e_wd g h A Hp) (hS : va_S A s.heap Hp locs) (hl : lv_has ls (e_ml k) (e_as g loc)) (hn : loc.length = e_ml k) (hcb : cells + bc ≤ mc) (hsb : slots + bs ≤ ms) (hk : e_Hk g h A args s Q Qc XC) (hc1 : c1 ≤ bc) (hs1 : s1 ≤ bs) (hsc : e_scp h loc rest = true)
    (hr : vx_Run p l e R s m args below meth c Hp locs cells slots c1 s1 (F0 m pc ls st0) (rest.map (e_rel g)) (e_Qc g Hp.size h Φ av) (e_Xc g Hp.size h Φ) (va_A (e_ws g h) Hp.size))
    (k1 : ∀ (v : Option Value) (h' : e_H), Φ (.inl v) h' → e_Wp k (pc + 3) loc (v.toList ++ rest) h' (bc - c1) (bs - s1) Q)
    (k2 : ∀ (E : String) (g' : e_G) (h' : e_H) (H1 : Heap) (locs1 : List Loc) (ce : Cell) (q : Addr), Φ (.inr E) h' → e_Cx k p l R s m args meth c g' A (e_scr h') mc ms → e_wd g' h' A H1 → va_S A s.heap H1 locs1 → lv_has ls (e_ml k) (e_as g' loc) → e_Hk g' h' A args s Q Qc XC → H1[q]? = some ce → ce.vm = .none → s.vm.findClass E = some ce.cls →
      vx_W p l e R s m args below meth c H1 locs1 (cells + c1) (slots + s1) (vx_MQ below Qc XC args s mc ms A) (F0 m pc ls (rest.map (e_rel g))) q) :
    W p l e R s m args below meth c Hp locs cells slots (vx_MQ below Qc XC args s mc ms A) (F0 m pc ls st0) := by
  intro T hT X
  have hfA := e_freeA hw hS C.2.2.2.2.2.2.2.2.2.2.2.2.2.2.1
  rcases hr T hT X with ⟨v, st₀, t, T', L, h0, X', hL, e1, e2, ⟨v', g', h', hv, hΦ, hto, hwd, hF⟩, stp⟩ | ⟨q, st₀, t, T', L, E, ce, h0, X', hL, e1, e2, ⟨g', h', hΦ, hto, hwd, hF⟩, hce, hcv, hcl, stp⟩
  · cases hv
    obtain ⟨-, -, k3⟩ := vx_keep h0 e1 hS (fun q _ hq => hfA q hq) hfA hL hF
    obtain ⟨r1, r2⟩ := e_scp_rel hsc hto
    have hwd' : e_wd g' h' A T'.heap := by rw [e1]; exact ⟨hwd.1, hwd.2.weaken (fun _ q _ hq => hfA q.1 hq)⟩
    obtain ⟨t2, a1, b1⟩ := k1 v' h' hΦ p l e R s m args below meth c g' A T'.heap (locs ++ L) (cells + c1) (slots + s1) mc ms ls Qc XC (C.to hto) hwd' k3 (e_lmono hl r1) hn (by omega) (by omega) (hk.step hto) T' rfl X'
    refine ⟨t2, stp t2 ?_, b1⟩
    have hst : (v'.toList ++ rest).map (e_rel g') = (v'.map (e_rel g')).toList ++ rest.map (e_rel g) := by
      rw [List.map_append, r2]
      cases v' <;> rfl
    rw [hst] at a1
    exact a1
  · obtain ⟨-, -, k3⟩ := vx_keep h0 e1 hS (fun q _ hq => hfA q hq) hfA hL hF
    obtain ⟨r1, r2⟩ := e_scp_rel hsc hto
    have hwd' : e_wd g' h' A T'.heap := by rw [e1]; exact ⟨hwd.1, hwd.2.weaken (fun _ q _ hq => hfA q.1 hq)⟩
    obtain ⟨t2, a1, b1⟩ := k2 E g' h' T'.heap (locs ++ L) ce q hΦ (C.to hto) hwd' k3 (e_lmono hl r1) (hk.step hto) (by rw [e1]; exact hce) hcv hcl T' rfl X'
    exact ⟨t2, stp.trans a1, b1⟩
/-- an exception that no handler of the method takes -/
theorem e_leave {k : Nat} {p : Program} {l : Launch} {e : Env} {R : Room} {s : State} {m : MethodId} {args : Array Value} {below : List Frame} {meth : Method} {c : Code} {g : e_G} {A : Nat → Prop} {H1 : Heap} {locs1 : List Loc} {cells slots mc ms : Nat} {ls : Array Slot} {Qc : Array Value → State → Outcome → State → Prop} {XC : String → State → State → Prop} {pc : Nat} {rest : List Value} {h : e_H} {Q : e_O → e_H → Prop} {E : String} {ce : Cell} {q : Addr}
    (C : e_Cx k p l R s m args meth c g A (e_scr h) mc ms) (hhh : e_hh k = []) (hw : e_wd g h A H1) (hS : va_S A s.heap H1 locs1) (hc : cells ≤ mc) (hs : slots ≤ ms) (hk : e_Hk g h A args s Q Qc XC) (hQ : Q (.inr E) h) (hce : H1[q]? = some ce) (hcv : ce.vm = .none) (hcl : s.vm.findClass E = some ce.cls) :
    vx_W p l e R s m args below meth c H1 locs1 cells slots (vx_MQ below Qc XC args s mc ms A) (F0 m pc ls rest) q := by
  refine vx_out ?_ C.2.2.2.2.2.2.1 hce hcv hcl (fun t ht _ => hk.2 E g h t hQ e_to.rf (by rw [ht]; exact hw) (hS.F ht)) hS.2.2 hc hs
  rw [C.2.2.2.2.2.2.2.2.1, hhh]
  intro x hx
  cases hx
theorem e_setN_sub {g : e_G} (hx : ∀ k, (g.2.1 k).category = 1) {loc : List (Option Value)} {i : Nat} {w : Value} : ∀ q ∈ e_as g ((e_kill loc i).set i none), q ∈ (i, w) :: (e_as g loc).filter (fun q => !(q.1 == i) && !(q.1 + 1 == i && q.2.category == 2)) := by
  rintro ⟨j, u⟩ hq
  obtain ⟨v, hv, rfl⟩ := e_as_mem.mp hq
  rw [List.getElem?_set] at hv
  by_cases hij : i = j
  · subst hij
    rw [if_pos rfl] at hv
    split at hv <;> cases hv
  · rw [if_neg hij] at hv
    obtain ⟨h1, h2⟩ := e_kill_get hv
    refine List.mem_cons_of_mem _ (List.mem_filter.mpr ⟨e_as_mem.mpr ⟨v, h1, rfl⟩, ?_⟩)
    rw [e_rel_cat hx]
    simp only [Bool.and_eq_true, Bool.not_eq_true', beq_eq_false_iff_ne, Bool.and_eq_false_iff, ne_eq]
    refine ⟨Ne.symm hij, ?_⟩
    by_cases h3 : j + 1 = i
    · exact Or.inr (fun h => h2 ⟨h3, h⟩)
    · exact Or.inl h3
/-- the handlers of a method, one after the other -/
theorem e_hand {k : Nat} {p : Program} {l : Launch} {e : Env} {R : Room} {s : State} {m : MethodId} {args : Array Value} {below : List Frame} {meth : Method} {c : Code} {g : e_G} {A : Nat → Prop} {H1 : Heap} {locs1 : List Loc} {cells slots mc ms : Nat} {ls : Array Slot} {Qc : Array Value → State → Outcome → State → Prop} {XC : String → State → State → Prop} {pc bc bs : Nat} {loc : List (Option Value)} {rest : List Value} {h : e_H} {Q : e_O → e_H → Prop} {E : String} {ce : Cell} {q : Addr}
    (C : e_Cx k p l R s m args meth c g A (e_scr h) mc ms) (hw : e_wd g h A H1) (hS : va_S A s.heap H1 locs1) (hl : lv_has ls (e_ml k) (e_as g loc)) (hn : loc.length = e_ml k) (hcb : cells + bc ≤ mc) (hsb : slots + bs ≤ ms) (hk : e_Hk g h A args s Q Qc XC) (hE : E ∈ e_exc) (hce : H1[q]? = some ce) (hcv : ce.vm = .none) (hcl : s.vm.findClass E = some ce.cls) :
    ∀ (qs : List (Nat × Nat × Nat × Nat)) (hs : List Nat) (ps : List (Nat × Nat)) (pre : List (Nat × Nat × Nat × Nat)), e_hh k = pre ++ qs → e_ckh (e_nm k).cls (e_mb k) pc qs hs ps = true → (∀ w ∈ e_wdh (e_nm k).cls qs hs ps, w.2 ∈ e_tb) →
      (∀ z ∈ tableOf pre, covers z pc = false ∨ (z.catchType ≠ 0 ∧ ∃ nm : String, (Cond.classLink (e_nm k).cls z.catchType nm).before args s = true ∧ va_Nc E nm s)) →
      e_exn E (fun i np => bif Nat.ble (i + 1) loc.length then e_Wp k np ((e_kill loc i).set i none) [] h bc bs Q else False) (Q (.inr E) h) hs →
      vx_W p l e R s m args below meth c H1 locs1 cells slots (vx_MQ below Qc XC args s mc ms A) (F0 m pc ls rest) q
  | [], [], [], pre, hpre, _, _, hpass, hx => by
    refine vx_outP C.2.2.2.1 C.2.2.2.2.2.2.1 ?_ hce hcv hcl (fun t ht _ => hk.2 E g h t hx e_to.rf (by rw [ht]; exact hw) (hS.F ht)) hS.2.2 (by omega) (by omega)
    rw [C.2.2.2.2.2.2.2.2.1, hpre, List.append_nil]
    exact hpass
  | z :: qs, ei :: i :: np :: hs, pp :: ps, pre, hpre, hck, hwd, hpass, hx => by
    simp only [e_ckh, Bool.and_eq_true, Bool.not_eq_true'] at hck
    obtain ⟨⟨⟨⟨⟨⟨h1, h2⟩, h3⟩, h4⟩, h5⟩, h6⟩, h7⟩ := hck
    have h3' : z.2.2.2 ≠ 0 := fun hz => by rw [hz] at h3; cases h3
    have hlink : (Cond.classLink (e_nm k).cls z.2.2.2 (e_exc.getD ei "")).before args s = true := C.2.2.2.2.1 _ (hwd (pp, .classLink (e_nm k).cls z.2.2.2 (e_exc.getD ei "")) List.mem_cons_self)
    have hcov : covers ⟨z.1, z.2.1, z.2.2.1, z.2.2.2⟩ pc = true := by
      have := Nat.le_of_ble_eq_true h1
      have := Nat.le_of_ble_eq_true h2
      simp only [covers, Bool.and_eq_true, decide_eq_true_eq]
      omega
    by_cases hEe : E = e_exc.getD ei ""
    · obtain ⟨h4b, hgo⟩ := e_bif (hx.1 hEe)
      refine vx_catch C.2.2.2.1 (tableOf pre) ⟨z.1, z.2.1, z.2.2.1, z.2.2.2⟩ (tableOf qs) (by rw [C.2.2.2.2.2.2.2.2.1, hpre]; simp [tableOf]) hpass hcov h3' hlink (by rw [← hEe]; exact va_Nw.use rfl (C.2.2.2.2.2.2.2.2.2.2.2.2.2.2.2.2.2.2.2.2.2.2.2.2.2.2.1.1 E hE)) hce hcv hcl ?_
      have go : ∀ (ls' : Array Slot), lv_has ls' (e_ml k) ((i, .ref q) :: (e_as g loc).filter (fun q => !(q.1 == i) && !(q.1 + 1 == i && q.2.category == 2))) → W p l e R s m args below meth c H1 locs1 cells slots (vx_MQ below Qc XC args s mc ms A) (F0 m np ls' []) := fun ls' hl' =>
        hgo p l e R s m args below meth c g A H1 locs1 cells slots mc ms ls' Qc XC C hw hS (e_lmono hl' (e_setN_sub (e_refc C.2.2.2.2.2.2.2.2.2.2.2.2.2.2.2.2.1))) (by rw [List.length_set, e_kill_len]; exact hn) hcb hsb hk
      have hil : i < e_ml k := by
        have := Nat.le_of_ble_eq_true h4b
        omega
      simp only [Bool.or_eq_true, Bool.and_eq_true, decide_eq_true_eq] at h5
      rcases h5 with ⟨h5, h5'⟩ | ⟨⟨h5, h5'⟩, h5''⟩
      · have hnp := Nat.eq_of_beq_eq_true h5'
        refine lv_astore C.1 C.2.1 h5 hl hil rfl (fun ls' hl' => ?_)
        have := go ls' hl'
        rw [hnp] at this
        exact this
      · have hnp := Nat.eq_of_beq_eq_true h5''
        have hi4 := Nat.le_of_ble_eq_true h5
        refine lv_astore_n C.1 C.2.1 h5' (by simp [Fin.ofNat]; omega) hl hil rfl (fun ls' hl' => ?_)
        have := go ls' hl'
        rw [hnp] at this
        exact this
    · refine e_hand C hw hS hl hn hcb hsb hk hE hce hcv hcl qs hs ps (pre ++ [z]) (by rw [hpre]; simp) h7 (fun w hw0 => hwd w (List.mem_cons_of_mem _ hw0)) ?_ (hx.2 hEe)
      intro y hy
      simp only [tableOf, List.map_append, List.mem_append] at hy
      rcases hy with hy | hy
      · exact hpass y hy
      · simp at hy
        subst hy
        refine Or.inr ⟨h3', e_exc.getD ei "", hlink, ?_⟩
        have := List.all_eq_true.mp h6 E hE
        simp only [Bool.or_eq_true, beq_iff_eq, List.contains_iff_mem] at this
        rcases this with h8 | h8
        · exact absurd h8 hEe
        · exact C.2.2.2.2.2.2.2.2.2.2.2.2.2.2.2.2.2.2.2.2.2.2.2.2.2.1 _ h8
theorem e_take_rev {st : List Value} {n : Nat} {g : e_G} : st.map (e_rel g) = (((st.take n).reverse).map (e_rel g)).reverse ++ (st.drop n).map (e_rel g) := by
  rw [List.map_reverse, List.reverse_reverse, ← List.map_append, List.take_append_drop]
theorem e_okd {loc : List (Option Value)} {st : List Value} {h : e_H} {bc bs c s n : Nat} {rest : List Value} (H : e_ok loc st h bc bs c s n rest = true) : c ≤ bc ∧ s ≤ bs ∧ e_cat rest ≤ 8 ∧ n ≤ st.length ∧ e_scp h loc rest = true := by
  simp only [e_ok, Bool.and_eq_true] at H
  obtain ⟨⟨⟨⟨h1, h2⟩, h3⟩, h4⟩, h5⟩ := H
  exact ⟨Nat.le_of_ble_eq_true h1, Nat.le_of_ble_eq_true h2, Nat.le_of_ble_eq_true h3, Nat.le_of_ble_eq_true h4, h5⟩
theorem e_ckcd {k z n c s : Nat} (H : e_ckc k z n c s = true) : c = e_cc z ∧ s = e_cs z ∧ e_dd z + 1 ≤ e_dd k ∧ 8 + (e_ml z + 11) + e_ll z ≤ e_ll k ∧ n = e_npl.getD z 0 ∧ z < 308 := by
  simp only [e_ckc, Bool.and_eq_true] at H
  obtain ⟨⟨⟨⟨⟨h1, h2⟩, h3⟩, h4⟩, h5⟩, h6⟩ := H
  exact ⟨Nat.eq_of_beq_eq_true h1, Nat.eq_of_beq_eq_true h2, Nat.le_of_ble_eq_true h3, Nat.le_of_ble_eq_true h4, Nat.eq_of_beq_eq_true h5, Nat.le_of_ble_eq_true h6⟩
theorem e_fdg {z n : Nat} (hz : z < 308) (hn : n = e_npl.getD z 0) : (e_nm z).cls ≠ "java/lang/invoke/MethodHandle" ∧ (e_nm z).cls ≠ "java/lang/invoke/VarHandle" ∧ (parseMethodDescriptor (e_nm z).desc).map (fun d => d.parameters.length) = some n := by
  obtain ⟨h1, h2, h3⟩ := e_mok_at hz
  exact ⟨h2, h3, by rw [hn]; exact h1⟩
/-- where a call may end by an exception -/
theorem e_behind {k : Nat} {p : Program} {l : Launch} {e : Env} {R : Room} {s : State} {m : MethodId} {args : Array Value} {below : List Frame} {meth : Method} {c : Code} {A : Nat → Prop} {cells slots mc ms : Nat} {ls : Array Slot} {Qc : Array Value → State → Outcome → State → Prop} {XC : String → State → State → Prop} {pc c1 s1 bc bs : Nat} {loc : List (Option Value)} {rest : List Value} {rest' : List Value} {Q : e_O → e_H → Prop} {K : Nat → List (Option Value) → List Value → e_H → Nat → Nat → Prop} {hs : List Nat} {ph : List (Nat × Nat)}
    (hK : ∀ pc loc st h bc bs, K pc loc st h bc bs → e_Wp k pc loc st h bc bs Q) (hn : loc.length = e_ml k) (hcb : cells + bc ≤ mc) (hsb : slots + bs ≤ ms) (hc1 : c1 ≤ bc) (hs1 : s1 ≤ bs) (hck : e_ckh (e_nm k).cls (e_mb k) pc (e_hh k) hs ph = true) (hwd : ∀ w ∈ e_wdh (e_nm k).cls (e_hh k) hs ph, w.2 ∈ e_tb) :
    ∀ (E : String) (g' : e_G) (h' : e_H) (H1 : Heap) (locs1 : List Loc) (ce : Cell) (q : Addr), e_aft hs loc bc bs K Q pc c1 s1 rest (.inr E) h' → e_Cx k p l R s m args meth c g' A (e_scr h') mc ms → e_wd g' h' A H1 → va_S A s.heap H1 locs1 → lv_has ls (e_ml k) (e_as g' loc) → e_Hk g' h' A args s Q Qc XC → H1[q]? = some ce → ce.vm = .none → s.vm.findClass E = some ce.cls →
      vx_W p l e R s m args below meth c H1 locs1 (cells + c1) (slots + s1) (vx_MQ below Qc XC args s mc ms A) (F0 m pc ls rest') q := by
  intro E g' h' H1 locs1 ce q hΦ C hw hS hl hk hce hcv hcl
  cases hs with
  | nil =>
    have hhh : e_hh k = [] := by
      cases hq : e_hh k with
      | nil => rfl
      | cons a r => rw [hq] at hck; cases ph <;> simp [e_ckh] at hck
    exact e_leave C hhh hw hS (by omega) (by omega) hk hΦ hce hcv hcl
  | cons ei hs =>
    have hΦ' : E ∈ e_exc ∧ e_exn E (fun i np => bif Nat.ble (i + 1) loc.length then K np ((e_kill loc i).set i none) [] h' (bc - c1) (bs - s1) else False) (Q (.inr E) h') (ei :: hs) := hΦ
    refine e_hand (bc := bc - c1) (bs := bs - s1) C hw hS hl hn (by omega) (by omega) hk hΦ'.1 hce hcv hcl (e_hh k) (ei :: hs) ph [] rfl hck hwd (fun z hz => by cases hz) ?_
    have key : ∀ (l : List Nat) (X : Prop), e_exn E (fun i np => bif Nat.ble (i + 1) loc.length then K np ((e_kill loc i).set i none) [] h' (bc - c1) (bs - s1) else False) X l → e_exn E (fun i np => bif Nat.ble (i + 1) loc.length then e_Wp k np ((e_kill loc i).set i none) [] h' (bc - c1) (bs - s1) Q else False) X l := by
      intro l X
      induction l using e_exn.induct with
      | case1 ei i np r ih =>
        intro hx
        refine ⟨fun hE => ?_, fun hE => ih (hx.2 hE)⟩
        obtain ⟨h1, h2⟩ := e_bif (hx.1 hE)
        show bif Nat.ble (i + 1) loc.length then _ else False
        rw [h1]
        exact hK _ _ _ _ _ _ h2
      | case2 l hl =>
        intro hx
        unfold e_exn at hx ⊢
        split at hx
        · exact absurd rfl (hl _ _ _ _)
        · exact hx
    exact key _ _ hΦ'.2
theorem e_s_inv {k pc len : Nat} {v : Value} {ns : List Nat} {ps : List (Nat × Nat)} {loc : List (Option Value)} {st : List Value} {h : e_H} {bc bs : Nat} {K : Nat → List (Option Value) → List Value → e_H → Nat → Nat → Prop} {Q : e_O → e_H → Prop} {ix z n fl c1 s1 ci : Nat} {hs : List Nat} {ph : List (Nat × Nat)} (hd : decode (e_mb k) pc = .ok (.invokevirtual ix, 3)) (hns : ns = z :: n :: fl :: c1 :: s1 :: ci :: hs) (hck : e_ckc k z n c1 s1 = true) (hhz : e_hh z = []) (hw1 : Cond.methodLink (e_nm k).cls ix (e_nm z) ∈ e_tb) (hw2 : Cond.instanceMethod (e_nm z) ∈ e_tb) (hw3 : Cond.selects (e_nm z).cls (e_nm z) (e_nm z) ∈ e_tb) (hw4 : Cond.initialized (e_nm z).cls ∈ e_tb) (hcl : (ci = 99 ∧ (e_nm z).cls = "java/lang/String") ∨ ((e_nm z).cls = e_cN ci ∧ ci < e_cls.length)) (hckh : e_ckh (e_nm k).cls (e_mb k) pc (e_hh k) hs ph = true) (hwdh : ∀ w ∈ e_wdh (e_nm k).cls (e_hh k) hs ph, w.2 ∈ e_tb) (hK : ∀ pc loc st h bc bs, K pc loc st h bc bs → e_Wp k pc loc st h bc bs Q)
    (H : e_stp loc st h bc bs K Q (e_rt k) (pc, .invokevirtual ix, len, v, ns, ps)) : e_Wp k pc loc st h bc bs Q := by
  subst hns
  replace H : e_inv loc st h bc bs K Q pc (z :: n :: fl :: c1 :: s1 :: ci :: hs) := H
  obtain ⟨hc1, hs1, hdd, hll, hnp, hz⟩ := e_ckcd hck
  obtain ⟨f1, f2, f3⟩ := e_fdg hz hnp
  have hwz : e_wsk z = .code (e_nm z) (e_mb z) (e_ml z) (e_rt z) :: e_tb := by unfold e_wsk; rw [if_pos hhz]
  simp only [e_inv] at H
  have go : ∀ (a : Value) (rest : List Value), st.drop n = a :: rest → e_ok loc st h bc bs c1 s1 n rest = true → e_M z (a :: (st.take n).reverse) h (e_aft hs loc bc bs K Q pc c1 s1 rest) →
      (∀ (p : Program) (l : Launch) (R : Room) (s : State) (m : MethodId) (args : Array Value) (meth : Method) (c : Code) (g : e_G) (A : Nat → Prop) (Hp : Heap) (locs : List Loc) (mc ms : Nat), e_Cx k p l R s m args meth c g A (e_scr h) mc ms → e_wd g h A Hp → va_S A s.heap Hp locs → ∃ b, e_rel g a = .ref b ∧ ∃ cellB : Cell, Hp[b]? = some cellB ∧ cellB.vm.isStatics = false ∧ s.vm.findClass (e_nm z).cls = some cellB.cls) → e_Wp k pc loc st h bc bs Q := by
    intro a rest hdr hok hM hrecv
    obtain ⟨o1, o2, o3, o4, o5⟩ := e_okd hok
    intro p l e R s m args below meth c g A Hp locs cells slots mc ms ls Qc XC C hw hS hl hn hcb hsb hk
    obtain ⟨b, hb1, hb2⟩ := hrecv p l R s m args meth c g A Hp locs mc ms C hw hS
    have hts := C.2.2.2.2.1
    have hR1 : R.frames = e_dd k := C.2.2.2.2.2.2.2.2.2.1
    have hR2 : R.locals = e_ll k := C.2.2.2.2.2.2.2.2.2.2.1
    have hR3 : R.cells = mc := C.2.2.2.2.2.2.2.2.2.2.2.1
    have hR4 : R.slots = ms := C.2.2.2.2.2.2.2.2.2.2.2.2.1
    have hpre := e_pre (avs := a :: (st.take n).reverse) C hw hS
    rw [List.map_cons, hb1] at hpre
    have hrun := vx_runV (p := p) (l := l) (e := e) (R := R) (s := s) (m := m) (args := args) (below := below) (meth := meth) (c := c) (H := Hp) (locs := locs) (cells := cells) (slots := slots) (C := (e_nm z).cls) (b := b) (As := (st.take n).reverse.map (e_rel g)) (rest := rest.map (e_rel g)) (g := F0 m pc ls (st.map (e_rel g))) (n := n)
      ⟨C.1, C.2.1, C.2.2.1, C.2.2.2.1, hts⟩ (hM l C.2.2.2.2.2.2.2.2.2.2.2.2.2.1 g Hp.size)
      ⟨callB_of n hts (e_wsk_good hz) hwz rfl rfl (hts _ hw4) (hts _ hw1) ⟨f1, f2, f3⟩ ⟨by rw [hR1]; exact hdd, by rw [hR2]; exact hll⟩, hts _ hw2, hts _ hw3⟩
      ⟨e_blind, hb2, hpre⟩ rfl (by rw [List.length_map, List.length_reverse, List.length_take]; omega) hl.1
      (by show st.map (e_rel g) = _; rw [e_take_rev (n := n), hdr, List.map_cons, hb1]) (by show 2 * 0 + _ ≤ 8; rw [e_cat_rel C.2.2.2.2.2.2.2.2.2.2.2.2.2.2.2.2.1]; omega) hd ⟨by rw [hR3, ← hc1]; omega, by rw [hR4, ← hs1]; omega⟩
    rw [← hc1, ← hs1] at hrun
    refine e_callW C hw hS hl hn hcb hsb hk o1 o2 o5 hrun (fun v h' hΦ => ?_) (e_behind hK hn hcb hsb o1 o2 hckh hwdh)
    cases v with
    | none => exact hK _ _ _ _ _ _ hΦ
    | some v => exact hK _ _ _ _ _ _ hΦ
  split at H
  · rename_i a rest hdr
    split at H
    · rename_i cj tm ha
      have h9 := e_bif H
      clear H
      obtain ⟨hb0, H⟩ := h9
      simp only [Bool.and_eq_true] at hb0
      obtain rfl : cj = ci := Nat.eq_of_beq_eq_true hb0.1
      refine go _ _ hdr hb0.2 H (fun p l R s m args meth c g A Hp locs mc ms C hw hS => ⟨_, rfl, ?_⟩)
      rcases hcl with ⟨h99, -⟩ | ⟨hcl, hci⟩
      · exfalso
        subst h99
        have hat : va_at g.2.2.2 e_cls (g.1 a, e_cell g h a (.inl (99, tm))) Hp := hw.1 a _ (e_ws_get (g := g) ha)
        obtain ⟨r, hr, -⟩ := hat
        exact absurd hr (by simp [e_cls])
      · rw [hcl]
        exact va_recv C.2.2.2.2.2.2.2.2.2.2.2.2.2.2.2.1 hw.1 (e_clc hci) (e_ws_get (g := g) ha)
    · exact False.elim H
  · rename_i a rest hdr
    have h9 := e_bif H
    clear H
    obtain ⟨hb0, H⟩ := h9
    simp only [Bool.and_eq_true] at hb0
    have h99 := Nat.eq_of_beq_eq_true hb0.1.1
    have ha : a < 3 := Nat.le_of_ble_eq_true hb0.1.2
    refine go _ _ hdr hb0.2 H (fun p l R s m args meth c g A Hp locs mc ms C hw hS => ?_)
    obtain ⟨-, -, -, h3, ⟨adV, h4, h5⟩, -⟩ := C.2.2.2.2.2.2.2.2.2.2.2.2.2.2.2.2
    rcases hcl with ⟨-, hcl⟩ | ⟨-, hci⟩
    · rw [hcl]
      exact ⟨_, (h5 a ha).1, vk_recv h4 ha hS⟩
    · rw [h99] at hci
      exact absurd hci (by simp [e_cls])
  · exact False.elim H
