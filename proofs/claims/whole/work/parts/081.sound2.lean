/-! switches -/
theorem e_bif {b : Bool} {X : Prop} (H : bif b then X else False) : b = true ∧ X := by
  cases b with
  | false => exact False.elim H
  | true => exact ⟨rfl, H⟩
theorem e_swt_out {x : Int32} {lo : Int} {kk : Nat → Prop} {d : Prop} : ∀ (ts : List Nat) (n : Nat), e_swt x lo n ts kk d → (∀ i, i < ts.length → ¬ x = Int32.ofInt (lo + ((n + i : Nat) : Int))) → d
  | [], _, h, _ => h
  | t :: ts, n, h, hn => by
    refine e_swt_out ts (n + 1) (h.2 (hn 0 (Nat.zero_lt_succ _))) (fun i hi => ?_)
    have := hn (i + 1) (Nat.succ_lt_succ hi)
    rwa [show n + 1 + i = n + (i + 1) by omega]
theorem e_swt_in {x : Int32} {lo : Int} {kk : Nat → Prop} {d : Prop} : ∀ (ts : List Nat) (n i t : Nat), e_swt x lo n ts kk d → ts[i]? = some t → x = Int32.ofInt (lo + ((n + i : Nat) : Int)) → (∀ j, j < i → ¬ x = Int32.ofInt (lo + ((n + j : Nat) : Int))) → kk t
  | [], _, _, _, _, h, _, _ => by simp at h
  | u :: ts, n, 0, t, h, ht, hx, _ => by
    simp at ht
    subst ht
    exact h.1 hx
  | u :: ts, n, i + 1, t, h, ht, hx, hj => by
    simp at ht
    refine e_swt_in ts (n + 1) i t (h.2 (hj 0 (Nat.zero_lt_succ _))) ht (by rwa [show n + 1 + i = n + (i + 1) by omega]) (fun j hj2 => ?_)
    have := hj (j + 1) (Nat.succ_lt_succ hj2)
    rwa [show n + 1 + j = n + (j + 1) by omega]
theorem e_ofI {z : Int} {x : Int32} (h1 : -2147483648 ≤ z) (h2 : z ≤ 2147483647) : x = Int32.ofInt z ↔ x.toInt = z := by
  rw [← Int32.toInt_inj, Int32.toInt_ofInt_of_le (by omega) (by omega)]
theorem e_s_tsw {k pc len : Nat} {v : Value} {ns : List Nat} {ps : List (Nat × Nat)} {loc : List (Option Value)} {st : List Value} {h : e_H} {bc bs : Nat} {K : Nat → List (Option Value) → List Value → e_H → Nat → Nat → Prop} {Q : e_O → e_H → Prop} {dflt lo hi : Int} {offs : Array Int} {t : Nat} {ts : List Nat} (hd : decode (e_mb k) pc = .ok (.tableswitch dflt lo hi offs, len)) (hns : ns = t :: ts) (h1 : (pc : Int) + dflt = (t : Int)) (h2 : offs.toList.map (fun o => (pc : Int) + o) = ts.map (fun (x : Nat) => (x : Int))) (h3 : lo + ts.length = hi + 1) (h4 : -2147483648 ≤ lo) (h5 : hi ≤ 2147483647) (hK : ∀ pc loc st h bc bs, K pc loc st h bc bs → e_Wp k pc loc st h bc bs Q)
    (H : e_stp loc st h bc bs K Q (e_rt k) (pc, .tableswitch dflt lo hi offs, len, v, ns, ps)) : e_Wp k pc loc st h bc bs Q := by
  subst hns
  replace H : e_tsw st lo (t :: ts) (fun t r => K t loc r h bc bs) := H
  unfold e_tsw at H
  split at H
  · rename_i x r d ts' heq
    cases heq
    by_cases hx : x.toInt < lo ∨ hi < x.toInt
    · have hd2 := e_swt_out _ 0 H (fun i hi2 hxi => by
        rw [e_ofI (by omega) (by omega)] at hxi
        omega)
      exact e_pure (fun p l e R s m args below meth c g Hp locs cells slots ls Qs hx1 hb hr ho _ kk => lv_tableOut hx1 hb hd hx h1 kk) (hK _ _ _ _ _ _ hd2)
    · have hlt : (x.toInt - lo).toNat < ts.length := by omega
      have hti : ts[(x.toInt - lo).toNat]? = some ts[(x.toInt - lo).toNat] := List.getElem?_eq_getElem hlt
      have hd2 := e_swt_in _ 0 _ _ H hti (by rw [e_ofI (by omega) (by omega)]; omega) (fun j hj hxj => by
        rw [e_ofI (by omega) (by omega)] at hxj
        omega)
      have h7 := congrArg (fun (l : List Int) => l[(x.toInt - lo).toNat]?) h2
      simp only [List.getElem?_map, hti, Option.map_some] at h7
      cases ho : offs.toList[(x.toInt - lo).toNat]? with
      | none => rw [ho] at h7; cases h7
      | some off =>
        rw [ho] at h7
        simp only [Option.map_some, Option.some.injEq] at h7
        rw [Array.getElem?_toList] at ho
        exact e_pure (fun p l e R s m args below meth c g Hp locs cells slots ls Qs hx1 hb hr ho1 _ kk => lv_tableIn hx1 hb hd (by omega) (by omega) ho h7 kk) (hK _ _ _ _ _ _ hd2)
  · exact False.elim H
theorem e_swl_at {x : Int32} {kk : Nat → Prop} {d : Prop} {pc : Nat} {dflt : Int} {t0 : Nat} (h0 : (pc : Int) + dflt = (t0 : Int)) (hd : d → kk t0) : ∀ (qs : List (Int × Int)) (ts : List Nat), e_swl x qs ts kk d → qs.map (fun q => (pc : Int) + q.2) = ts.map (fun (x : Nat) => (x : Int)) → (∀ q ∈ qs, -2147483648 ≤ q.1 ∧ q.1 ≤ 2147483647) →
    ∃ t : Nat, (pc : Int) + Op.lookupswitch.offset qs dflt x.toInt = (t : Int) ∧ kk t
  | [], ts, h, _, _ => by
    refine ⟨t0, ?_, hd (by cases ts <;> exact h)⟩
    simpa [Op.lookupswitch.offset] using h0
  | q :: qs, [], h, _, _ => by exact False.elim h
  | q :: qs, t :: ts, h, hm, hb => by
    simp only [List.map_cons, List.cons.injEq] at hm
    have hq := hb q List.mem_cons_self
    by_cases hx : x = Int32.ofInt q.1
    · refine ⟨t, ?_, h.1 hx⟩
      rw [e_ofI hq.1 hq.2] at hx
      rw [← hm.1]
      simp [Op.lookupswitch.offset, hx]
    · obtain ⟨t', e1, e2⟩ := e_swl_at h0 hd qs ts (h.2 hx) hm.2 (fun q' hq' => hb q' (List.mem_cons_of_mem _ hq'))
      refine ⟨t', ?_, e2⟩
      rw [e_ofI hq.1 hq.2] at hx
      rw [← e1]
      simp [Op.lookupswitch.offset, List.find?, Ne.symm hx, show ¬ q.1 = x.toInt from fun e => hx e.symm]
theorem e_s_lsw {k pc len : Nat} {v : Value} {ns : List Nat} {ps : List (Nat × Nat)} {loc : List (Option Value)} {st : List Value} {h : e_H} {bc bs : Nat} {K : Nat → List (Option Value) → List Value → e_H → Nat → Nat → Prop} {Q : e_O → e_H → Prop} {dflt : Int} {qs : Array (Int × Int)} {t : Nat} {ts : List Nat} (hd : decode (e_mb k) pc = .ok (.lookupswitch dflt qs, len)) (hns : ns = t :: ts) (h1 : (pc : Int) + dflt = (t : Int)) (h2 : qs.toList.map (fun q => (pc : Int) + q.2) = ts.map (fun (x : Nat) => (x : Int))) (h3 : (qs.toList.zip (qs.toList.drop 1)).all (fun (a, next) => a.1 < next.1) = true) (h4 : ∀ q ∈ qs.toList, -2147483648 ≤ q.1 ∧ q.1 ≤ 2147483647) (hK : ∀ pc loc st h bc bs, K pc loc st h bc bs → e_Wp k pc loc st h bc bs Q)
    (H : e_stp loc st h bc bs K Q (e_rt k) (pc, .lookupswitch dflt qs, len, v, ns, ps)) : e_Wp k pc loc st h bc bs Q := by
  subst hns
  replace H : e_lsw st qs (t :: ts) (fun t r => K t loc r h bc bs) := H
  unfold e_lsw at H
  split at H
  · rename_i x r d ts' heq
    cases heq
    obtain ⟨t', e1, e2⟩ := e_swl_at h1 (fun z => z) _ _ H h2 h4
    exact e_pure (fun p l e R s m args below meth c g Hp locs cells slots ls Qs hx1 hb hr ho1 _ kk => lv_lookup hx1 hb hd h3 rfl e1 kk) (hK _ _ _ _ _ _ e2)
  · exact False.elim H
/-! rows -/
theorem e_xrow_0 {h : e_H} {a n : Nat} {f : Nat → Int32} (hx : e_xrow h a = some (0, n, f)) : ∃ (i : Nat) (r : String × String × List Int32), e_sts[i]? = some r ∧ a = 10 + i ∧ n = r.2.2.length ∧ f = fun j => r.2.2.getD j 0 := by
  unfold e_xrow at hx
  split at hx
  · cases hx
  · split at hx
    · rename_i h1 h2
      have hl : a - 10 < e_sts.length := Nat.lt_of_lt_of_le (show a - 10 < 8 by omega) (by decide)
      refine ⟨a - 10, _, e_getL (d := ("", "", [])) hl, by omega, ?_⟩
      cases hx
      exact ⟨rfl, rfl⟩
    · split at hx
      · cases hx
      · cases hx
theorem e_xrow_5 {h : e_H} {a n : Nat} {f : Nat → Int32} (hx : e_xrow h a = some (5, n, f)) : ∃ i, i < 3 ∧ a = 3 + i ∧ n = e_slen.getD i 0 ∧ f = fun j => (e_sbyt.getD i []).getD j 0 := by
  unfold e_xrow at hx
  split at hx
  · cases hx
  · split at hx
    · cases hx
    · split at hx
      · rename_i h3
        refine ⟨a - 3, by omega, by omega, ?_⟩
        cases hx
        exact ⟨rfl, rfl⟩
      · cases hx
theorem e_xrow_6 {h : e_H} {a n : Nat} {f : Nat → Int32} (hx : e_xrow h a = some (6, n, f)) : a = 20 ∧ n = (e_scr h).1 ∧ f = (e_scr h).2 := by
  unfold e_xrow at hx
  split at hx
  · rename_i h1
    cases hx
    exact ⟨h1, rfl, rfl⟩
  · split at hx
    · cases hx
    · split at hx
      · cases hx
      · cases hx
theorem e_xrow_t {h : e_H} {a t n : Nat} {f : Nat → Int32} (hx : e_xrow h a = some (t, n, f)) : t = 0 ∨ t = 5 ∨ t = 6 := by
  unfold e_xrow at hx
  split at hx
  · cases hx; exact Or.inr (Or.inr rfl)
  · split at hx
    · cases hx; exact Or.inl rfl
    · split at hx
      · cases hx; exact Or.inr (Or.inl rfl)
      · cases hx
theorem e_s_alen {k pc len : Nat} {v : Value} {ns : List Nat} {ps : List (Nat × Nat)} {loc : List (Option Value)} {st : List Value} {h : e_H} {bc bs : Nat} {K : Nat → List (Option Value) → List Value → e_H → Nat → Nat → Prop} {Q : e_O → e_H → Prop}  (hd : decode (e_mb k) pc = .ok (.arraylength, 1))  (hK : ∀ pc loc st h bc bs, K pc loc st h bc bs → e_Wp k pc loc st h bc bs Q)
    (H : e_stp loc st h bc bs K Q (e_rt k) (pc, .arraylength, len, v, ns, ps)) : e_Wp k pc loc st h bc bs Q := by
  replace H : e_alen st h (fun r => K (pc + 1) loc r h bc bs) := H
  unfold e_alen at H
  split at H
  · rename_i a r
    split at H
    · rename_i t n ha
      cases hb0 : Nat.ble (t + 1) 4 with
      | false => rw [hb0] at H; exact False.elim H
      | true =>
        rw [hb0] at H
        intro p l e R s m args below meth c g A Hp locs cells slots mc ms ls Qc XC C hw hS hl hn hcb hsb hk
        have htl : t < e_tyt.length := Nat.lt_of_lt_of_le (Nat.le_of_ble_eq_true hb0) (by decide)
        exact va_alen C.1 C.2.1 C.2.2.2.2.2.2.2.2.2.2.2.2.2.2.2.1 hw.1 a t (e_ws_get (g := g) ha) (e_tys_get (List.getElem?_eq_getElem htl)) rfl hd (hK _ _ _ _ _ _ H p l e R s m args below meth c g A Hp locs cells slots mc ms ls Qc XC C hw hS hl hn hcb hsb hk)
    · rename_i n rs ha
      intro p l e R s m args below meth c g A Hp locs cells slots mc ms ls Qc XC C hw hS hl hn hcb hsb hk
      exact va_alen C.1 C.2.1 C.2.2.2.2.2.2.2.2.2.2.2.2.2.2.2.1 hw.1 a 4 (e_ws_get (g := g) ha) (e_tys_get (t := 4) rfl) rfl hd (hK _ _ _ _ _ _ H p l e R s m args below meth c g A Hp locs cells slots mc ms ls Qc XC C hw hS hl hn hcb hsb hk)
    · exact False.elim H
  · rename_i a r
    split at H
    · rename_i t n f hx
      intro p l e R s m args below meth c g A Hp locs cells slots mc ms ls Qc XC C hw hS hl hn hcb hsb hk
      obtain ⟨-, -, -, h3, ⟨adV, h4, h5⟩, -, -, -, -, -, -, -, b, h12, h13, h14, h15⟩ := C.2.2.2.2.2.2.2.2.2.2.2.2.2.2.2.2
      have kk := hK _ _ _ _ _ _ H p l e R s m args below meth c g A Hp locs cells slots mc ms ls Qc XC C hw hS hl hn hcb hsb hk
      rcases e_xrow_t hx with rfl | rfl | rfl
      · obtain ⟨i, rr, hi, rfl, rfl, rfl⟩ := e_xrow_0 hx
        obtain ⟨-, t, e1, e2⟩ := h3 i rr hi
        rw [List.map_cons, show e_rel g (.retAddr (10 + i)) = g.2.1 (10 + i) from rfl, e1]
        exact va_tlen C.1 C.2.1 e2 hS rfl hd kk
      · obtain ⟨i, hi, rfl, rfl, rfl⟩ := e_xrow_5 hx
        have e2 := (h4.1 i hi).2.2.2
        rw [List.map_cons, show e_rel g (.retAddr (3 + i)) = g.2.1 (3 + i) from rfl, (h5 i hi).2]
        exact va_tlen C.1 C.2.1 e2 hS rfl hd kk
      · obtain ⟨rfl, rfl, rfl⟩ := e_xrow_6 hx
        rw [List.map_cons, show e_rel g (.retAddr 20) = g.2.1 20 from rfl, h12]
        exact va_slen C.1 C.2.1 h13 h15 h14 hS hd kk
    · exact False.elim H
  · exact False.elim H
theorem e_s_iaload {k pc len : Nat} {v : Value} {ns : List Nat} {ps : List (Nat × Nat)} {loc : List (Option Value)} {st : List Value} {h : e_H} {bc bs : Nat} {K : Nat → List (Option Value) → List Value → e_H → Nat → Nat → Prop} {Q : e_O → e_H → Prop}  (hd : decode (e_mb k) pc = .ok (.iaload, 1))  (hK : ∀ pc loc st h bc bs, K pc loc st h bc bs → e_Wp k pc loc st h bc bs Q)
    (H : e_stp loc st h bc bs K Q (e_rt k) (pc, .iaload, len, v, ns, ps)) : e_Wp k pc loc st h bc bs Q := by
  replace H : e_ald st h 0 0 6 (fun r => K (pc + 1) loc r h bc bs) := H
  unfold e_ald at H
  split at H
  · rename_i i a r
    split at H
    · rename_i t n ha
      cases hb0 : Nat.beq t 0 with
      | false => rw [hb0] at H; exact False.elim H
      | true =>
        rw [hb0] at H
        have htt : t = 0 := Nat.eq_of_beq_eq_true hb0
        subst htt
        have h9 := H
        clear H
        obtain ⟨hin, H⟩ : vp_in i n ∧ _ := h9
        intro p l e R s m args below meth c g A Hp locs cells slots mc ms ls Qc XC C hw hS hl hn hcb hsb hk
        exact va_iald C.1 C.2.1 C.2.2.2.2.2.2.2.2.2.2.2.2.2.2.2.1 hw.1 a 0 (e_ws_get (g := g) ha) (e_tys_get (t := 0) rfl) hin hd (hK _ _ _ _ _ _ H p l e R s m args below meth c g A Hp locs cells slots mc ms ls Qc XC C hw hS hl hn hcb hsb hk)
    · exact False.elim H
  · rename_i i a r
    split at H
    · rename_i t n f hx
      cases hb0 : Nat.beq t 0 || Nat.beq t 6 with
      | false => rw [hb0] at H; exact False.elim H
      | true =>
        rw [hb0] at H
        have h9 := H
        clear H
        obtain ⟨hin, H⟩ : vp_in i n ∧ _ := h9
        simp only [Bool.or_eq_true] at hb0
        intro p l e R s m args below meth c g A Hp locs cells slots mc ms ls Qc XC C hw hS hl hn hcb hsb hk
        obtain ⟨-, -, -, h3, ⟨adV, h4, h5⟩, -, -, -, -, -, -, -, b, h12, h13, h14, h15⟩ := C.2.2.2.2.2.2.2.2.2.2.2.2.2.2.2.2
        have kk := hK _ _ _ _ _ _ H p l e R s m args below meth c g A Hp locs cells slots mc ms ls Qc XC C hw hS hl hn hcb hsb hk
        rcases hb0 with hb0 | hb0
        · obtain rfl : t = 0 := Nat.eq_of_beq_eq_true hb0
          obtain ⟨j, rr, hi, rfl, rfl, rfl⟩ := e_xrow_0 hx
          obtain ⟨-, t, e1, e2⟩ := h3 j rr hi
          rw [List.map_cons, List.map_cons, show e_rel g (.retAddr (10 + j)) = g.2.1 (10 + j) from rfl, e1]
          exact va_ti C.1 C.2.1 e2 hS hin rfl hd kk
        · obtain rfl : t = 6 := Nat.eq_of_beq_eq_true hb0
          obtain ⟨rfl, rfl, rfl⟩ := e_xrow_6 hx
          rw [List.map_cons, List.map_cons, show e_rel g (.retAddr 20) = g.2.1 20 from rfl, h12]
          exact va_sld C.1 C.2.1 h13 h15 h14 hS hin hd kk
    · exact False.elim H
  · exact False.elim H
theorem e_s_caload {k pc len : Nat} {v : Value} {ns : List Nat} {ps : List (Nat × Nat)} {loc : List (Option Value)} {st : List Value} {h : e_H} {bc bs : Nat} {K : Nat → List (Option Value) → List Value → e_H → Nat → Nat → Prop} {Q : e_O → e_H → Prop}  (hd : decode (e_mb k) pc = .ok (.caload, 1))  (hK : ∀ pc loc st h bc bs, K pc loc st h bc bs → e_Wp k pc loc st h bc bs Q)
    (H : e_stp loc st h bc bs K Q (e_rt k) (pc, .caload, len, v, ns, ps)) : e_Wp k pc loc st h bc bs Q := by
  replace H : e_ald st h 2 7 7 (fun r => K (pc + 1) loc r h bc bs) := H
  unfold e_ald at H
  split at H
  · rename_i i a r
    split at H
    · rename_i t n ha
      cases hb0 : Nat.beq t 2 with
      | false => rw [hb0] at H; exact False.elim H
      | true =>
        rw [hb0] at H
        have htt : t = 2 := Nat.eq_of_beq_eq_true hb0
        subst htt
        have h9 := H
        clear H
        obtain ⟨hin, H⟩ : vp_in i n ∧ _ := h9
        intro p l e R s m args below meth c g A Hp locs cells slots mc ms ls Qc XC C hw hS hl hn hcb hsb hk
        exact va_cald C.1 C.2.1 C.2.2.2.2.2.2.2.2.2.2.2.2.2.2.2.1 hw.1 a 2 (e_ws_get (g := g) ha) (e_tys_get (t := 2) rfl) hin hd (hK _ _ _ _ _ _ H p l e R s m args below meth c g A Hp locs cells slots mc ms ls Qc XC C hw hS hl hn hcb hsb hk)
    · exact False.elim H
  · rename_i i a r
    split at H
    · rename_i t n f hx
      cases hb0 : Nat.beq t 7 || Nat.beq t 7 with
      | false => rw [hb0] at H; exact False.elim H
      | true =>
        rw [hb0] at H
        have h9 := H
        clear H
        obtain ⟨hin, H⟩ : vp_in i n ∧ _ := h9
        simp only [Bool.or_eq_true] at hb0
        exfalso
        have h7 : t = 7 := by rcases hb0 with hb0 | hb0 <;> exact Nat.eq_of_beq_eq_true hb0
        rcases e_xrow_t hx with h8 | h8 | h8 <;> omega
    · exact False.elim H
  · exact False.elim H
theorem e_s_baload {k pc len : Nat} {v : Value} {ns : List Nat} {ps : List (Nat × Nat)} {loc : List (Option Value)} {st : List Value} {h : e_H} {bc bs : Nat} {K : Nat → List (Option Value) → List Value → e_H → Nat → Nat → Prop} {Q : e_O → e_H → Prop}  (hd : decode (e_mb k) pc = .ok (.baload, 1))  (hK : ∀ pc loc st h bc bs, K pc loc st h bc bs → e_Wp k pc loc st h bc bs Q)
    (H : e_stp loc st h bc bs K Q (e_rt k) (pc, .baload, len, v, ns, ps)) : e_Wp k pc loc st h bc bs Q := by
  replace H : e_bald st h (fun r => K (pc + 1) loc r h bc bs) := H
  unfold e_bald at H
  split at H
  · rename_i i a r
    split at H
    · rename_i t n f hx
      have h9 := e_bif H
      clear H
      obtain ⟨hb0, hin, H⟩ := h9
      obtain rfl : t = 5 := Nat.eq_of_beq_eq_true hb0
      obtain ⟨j, hj, rfl, rfl, rfl⟩ := e_xrow_5 hx
      intro p l e R s m args below meth c g A Hp locs cells slots mc ms ls Qc XC C hw hS hl hn hcb hsb hk
      obtain ⟨-, -, -, h3, ⟨adV, h4, h5⟩, -, -, -, -, -, -, -, b, h12, h13, h14, h15⟩ := C.2.2.2.2.2.2.2.2.2.2.2.2.2.2.2.2
      have kk := hK _ _ _ _ _ _ H p l e R s m args below meth c g A Hp locs cells slots mc ms ls Qc XC C hw hS hl hn hcb hsb hk
      rw [List.map_cons, List.map_cons, show e_rel g (.retAddr (3 + j)) = g.2.1 (3 + j) from rfl, (h5 j hj).2]
      exact va_tb C.1 C.2.1 (h4.1 j hj).2.2.2 hS hin rfl hd kk
    · exact False.elim H
  · exact False.elim H
theorem e_s_laload {k pc len : Nat} {v : Value} {ns : List Nat} {ps : List (Nat × Nat)} {loc : List (Option Value)} {st : List Value} {h : e_H} {bc bs : Nat} {K : Nat → List (Option Value) → List Value → e_H → Nat → Nat → Prop} {Q : e_O → e_H → Prop}  (hd : decode (e_mb k) pc = .ok (.laload, 1))  (hK : ∀ pc loc st h bc bs, K pc loc st h bc bs → e_Wp k pc loc st h bc bs Q)
    (H : e_stp loc st h bc bs K Q (e_rt k) (pc, .laload, len, v, ns, ps)) : e_Wp k pc loc st h bc bs Q := by
  replace H : e_lald st h (fun r => K (pc + 1) loc r h bc bs) := H
  unfold e_lald at H
  split at H
  · rename_i i a r
    split at H
    · rename_i t n ha
      cases hb0 : Nat.beq t 1 with
      | false => rw [hb0] at H; exact False.elim H
      | true =>
        rw [hb0] at H
        have htt : t = 1 := Nat.eq_of_beq_eq_true hb0
        subst htt
        have h9 := H
        clear H
        obtain ⟨hin, H⟩ : vp_in i n ∧ _ := h9
        intro p l e R s m args below meth c g A Hp locs cells slots mc ms ls Qc XC C hw hS hl hn hcb hsb hk
        exact va_lald C.1 C.2.1 C.2.2.2.2.2.2.2.2.2.2.2.2.2.2.2.1 hw.1 a 1 (e_ws_get (g := g) ha) (e_tys_get (t := 1) rfl) hin hd (hK _ _ _ _ _ _ H p l e R s m args below meth c g A Hp locs cells slots mc ms ls Qc XC C hw hS hl hn hcb hsb hk)
    · exact False.elim H
  · exact False.elim H
theorem e_s_daload {k pc len : Nat} {v : Value} {ns : List Nat} {ps : List (Nat × Nat)} {loc : List (Option Value)} {st : List Value} {h : e_H} {bc bs : Nat} {K : Nat → List (Option Value) → List Value → e_H → Nat → Nat → Prop} {Q : e_O → e_H → Prop}  (hd : decode (e_mb k) pc = .ok (.daload, 1))  (hK : ∀ pc loc st h bc bs, K pc loc st h bc bs → e_Wp k pc loc st h bc bs Q)
    (H : e_stp loc st h bc bs K Q (e_rt k) (pc, .daload, len, v, ns, ps)) : e_Wp k pc loc st h bc bs Q := by
  replace H : e_dald st h (fun r => K (pc + 1) loc r h bc bs) := H
  unfold e_dald at H
  split at H
  · rename_i i a r
    split at H
    · rename_i t n ha
      cases hb0 : Nat.beq t 3 with
      | false => rw [hb0] at H; exact False.elim H
      | true =>
        rw [hb0] at H
        have htt : t = 3 := Nat.eq_of_beq_eq_true hb0
        subst htt
        have h9 := H
        clear H
        obtain ⟨hin, H⟩ : vp_in i n ∧ _ := h9
        intro p l e R s m args below meth c g A Hp locs cells slots mc ms ls Qc XC C hw hS hl hn hcb hsb hk
        exact va_dald C.1 C.2.1 C.2.2.2.2.2.2.2.2.2.2.2.2.2.2.2.1 hw.1 a 3 (e_ws_get (g := g) ha) (e_tys_get (t := 3) rfl) hin hd (hK _ _ _ _ _ _ H p l e R s m args below meth c g A Hp locs cells slots mc ms ls Qc XC C hw hS hl hn hcb hsb hk)
    · exact False.elim H
  · exact False.elim H
theorem e_s_aaload {k pc len : Nat} {v : Value} {ns : List Nat} {ps : List (Nat × Nat)} {loc : List (Option Value)} {st : List Value} {h : e_H} {bc bs : Nat} {K : Nat → List (Option Value) → List Value → e_H → Nat → Nat → Prop} {Q : e_O → e_H → Prop}  (hd : decode (e_mb k) pc = .ok (.aaload, 1))  (hK : ∀ pc loc st h bc bs, K pc loc st h bc bs → e_Wp k pc loc st h bc bs Q)
    (H : e_stp loc st h bc bs K Q (e_rt k) (pc, .aaload, len, v, ns, ps)) : e_Wp k pc loc st h bc bs Q := by
  replace H : e_aald st h (fun r => K (pc + 1) loc r h bc bs) := H
  unfold e_aald at H
  split at H
  · rename_i i a r
    split at H
    · rename_i n rs ha
      have h9 := H
      clear H
      obtain ⟨hin, H⟩ := h9
      intro p l e R s m args below meth c g A Hp locs cells slots mc ms ls Qc XC C hw hS hl hn hcb hsb hk
      refine va_aldq C.1 C.2.1 C.2.2.2.2.2.2.2.2.2.2.2.2.2.2.2.1 hw.1 a 4 (e_ws_get (g := g) ha) (e_tys_get (t := 4) rfl) hin hd ?_
      cases hq : rs.getD i.toNatClampNeg none with
      | none =>
        rw [hq] at H
        exact hK _ _ _ _ _ _ H p l e R s m args below meth c g A Hp locs cells slots mc ms ls Qc XC C hw hS hl hn hcb hsb hk
      | some q =>
        rw [hq] at H
        exact hK _ _ _ _ _ _ H p l e R s m args below meth c g A Hp locs cells slots mc ms ls Qc XC C hw hS hl hn hcb hsb hk
    · exact False.elim H
  · exact False.elim H
/-! the world behind a store -/
theorem e_up_same {α : Type} {f : Nat → Nat → α} {c k : Nat} {x : α} : e_up f c k x c = fun k' => if k' = k then x else f c k' := by
  unfold e_up
  rw [if_pos rfl]
theorem e_up_ne {α : Type} {f : Nat → Nat → α} {c k d : Nat} {x : α} (h : d ≠ c) : e_up f c k x d = f d := by
  unfold e_up
  rw [if_neg h]
theorem e_lay_set {h : e_H} {a : Nat} {e : e_C} (ha : (e_lay h)[a]? = some e) : e_lay h = (e_lay h).set a e := by
  apply List.ext_getElem?
  intro d
  rw [List.getElem?_set]
  by_cases hd : a = d
  · subst hd
    rw [if_pos rfl, if_pos (List.getElem?_eq_some_iff.mp ha).1, ha]
  · rw [if_neg hd]
theorem e_cell_I {g : e_G} {h h' : e_H} {d : Nat} (e : e_C) (hI : e_hI h' d = e_hI h d) (hL : e_hL h' d = e_hL h d) (hD : e_hD h' d = e_hD h d) : e_cell g h' d e = e_cell g h d e := by
  have hs : e_slot g h' d = e_slot g h d := by
    funext k v
    cases v <;> simp only [e_slot] <;> first | rw [hI] | rw [hL] | rfl
  rcases e with ⟨ci, tm⟩ | ⟨t, n⟩ | ⟨n, rs⟩
  · simp only [e_cell, hs]
  · simp only [e_cell, hI, hL, hD]
  · rfl
theorem e_ws_iast {g : e_G} {h : e_H} {a t n k : Nat} {x : Int32} (ha : (e_lay h)[a]? = some (.inr (.inl (t, n)))) (h1 : t ≠ 1) (h3 : t ≠ 3) :
    e_ws g (e_setI h a k x) = (e_ws g h).set a (g.1 a, .inl (g.2.2.1 t, n, .inl (upd (e_hI h a) k x))) := by
  refine e_ws_set (e' := .inr (.inl (t, n))) (e_lay_set ha) (List.getElem?_eq_some_iff.mp ha).1 ?_ (fun d e hd => e_cell_I e (e_up_ne hd) rfl rfl)
  simp only [e_cell, if_neg h1, if_neg h3]
  show (Sum.inl (g.2.2.1 t, n, Sum.inl (e_up (e_hI h) a k x a)) : va_E) = _
  rw [e_up_same]
  rfl
theorem e_ws_last {g : e_G} {h : e_H} {a n k : Nat} {x : Int64} (ha : (e_lay h)[a]? = some (.inr (.inl (1, n)))) :
    e_ws g (e_setL h a k x) = (e_ws g h).set a (g.1 a, .inl (g.2.2.1 1, n, .inr (.inl (vp_updL (e_hL h a) k x)))) := by
  refine e_ws_set (e' := .inr (.inl (1, n))) (e_lay_set ha) (List.getElem?_eq_some_iff.mp ha).1 ?_ (fun d e hd => e_cell_I e rfl (e_up_ne hd) rfl)
  show (Sum.inl (g.2.2.1 1, n, Sum.inr (Sum.inl (e_up (e_hL h) a k x a))) : va_E) = _
  rw [e_up_same]
  rfl
theorem e_ws_dast {g : e_G} {h : e_H} {a n k : Nat} {x : UInt64} (ha : (e_lay h)[a]? = some (.inr (.inl (3, n)))) :
    e_ws g (e_setD h a k x) = (e_ws g h).set a (g.1 a, .inl (g.2.2.1 3, n, .inr (.inr (.inr (.inl (vf_upd (e_hD h a) k x)))))) := by
  refine e_ws_set (e' := .inr (.inl (3, n))) (e_lay_set ha) (List.getElem?_eq_some_iff.mp ha).1 ?_ (fun d e hd => e_cell_I e rfl rfl (e_up_ne hd))
  show (Sum.inl (g.2.2.1 3, n, Sum.inr (Sum.inr (Sum.inr (Sum.inl (e_up (e_hD h) a k x a))))) : va_E) = _
  rw [e_up_same]
  rfl
theorem e_ws_rowI {g : e_G} {h : e_H} {a n : Nat} {r : Nat → Int32} (ha : (e_lay h)[a]? = some (.inr (.inl (0, n)))) :
    e_ws g (e_rowI h a r) = (e_ws g h).set a (g.1 a, .inl (g.2.2.1 0, n, .inl r)) := by
  refine e_ws_set (e' := .inr (.inl (0, n))) (e_lay_set ha) (List.getElem?_eq_some_iff.mp ha).1 ?_ (fun d e hd => e_cell_I e (show e_row (e_hI h) a r d = _ by unfold e_row; rw [if_neg hd]) rfl rfl)
  show (Sum.inl (g.2.2.1 0, n, Sum.inl (e_row (e_hI h) a r a)) : va_E) = _
  unfold e_row
  rw [if_pos rfl]
theorem e_ws_put {g : e_G} {h h' : e_H} {a ci k : Nat} {tm tm' : List Value} {w : Value} (ha : (e_lay h)[a]? = some (.inl (ci, tm))) (hl : e_lay h' = (e_lay h).set a (.inl (ci, tm')))
    (hv : tm'.mapIdx (e_slot g h' a) = (tm.mapIdx (e_slot g h a)).set k w) (ho : ∀ d, d ≠ a → e_hI h' d = e_hI h d ∧ e_hL h' d = e_hL h d ∧ e_hD h' d = e_hD h d) :
    e_ws g h' = (e_ws g h).set a (g.1 a, .inr (ci, (tm.mapIdx (e_slot g h a)).set k w)) := by
  refine e_ws_set (e' := .inl (ci, tm')) hl (List.getElem?_eq_some_iff.mp ha).1 ?_ (fun d e hd => e_cell_I e (ho d hd).1 (ho d hd).2.1 (ho d hd).2.2)
  simp only [e_cell, hv]
theorem e_map_set {g : e_G} {h h' : e_H} {a k : Nat} {tm tm' : List Value} {w : Value} (hlen : tm'.length = tm.length) (hk : k < tm.length) (hw : ∀ v, tm'[k]? = some v → e_slot g h' a k v = w) (ho : ∀ (j : Nat) (v : Value), j ≠ k → tm'[j]? = some v → tm[j]? = some v ∧ e_slot g h' a j v = e_slot g h a j v) :
    tm'.mapIdx (e_slot g h' a) = (tm.mapIdx (e_slot g h a)).set k w := by
  apply List.ext_getElem?
  intro j
  rw [List.getElem?_mapIdx, List.getElem?_set, List.length_mapIdx, List.getElem?_mapIdx]
  by_cases hj : k = j
  · subst hj
    rw [if_pos rfl, if_pos hk]
    rw [List.getElem?_eq_getElem (by omega), Option.map_some, hw _ (List.getElem?_eq_getElem (by omega))]
  · rw [if_neg hj]
    by_cases hjl : j < tm.length
    · have h1 : tm'[j]? = some tm'[j] := List.getElem?_eq_getElem (by omega)
      obtain ⟨h2, h3⟩ := ho j _ (Ne.symm hj) h1
      rw [h1, h2, Option.map_some, Option.map_some, h3]
    · rw [List.getElem?_eq_none (by omega), List.getElem?_eq_none (by omega)]
      rfl
theorem e_to.same {g : e_G} {h h' : e_H} (h1 : e_scr h' = e_scr h) (h2 : (e_lay h').length = (e_lay h).length) (h3 : e_fl h' = e_fl h) : e_to g h g h' := ⟨h1, Nat.le_of_eq h2.symm, e_ag.rf, fun _ => rfl, h3⟩
theorem e_s_iastore {k pc len : Nat} {v : Value} {ns : List Nat} {ps : List (Nat × Nat)} {loc : List (Option Value)} {st : List Value} {h : e_H} {bc bs : Nat} {K : Nat → List (Option Value) → List Value → e_H → Nat → Nat → Prop} {Q : e_O → e_H → Prop}  (hd : decode (e_mb k) pc = .ok (.iastore, 1))  (hK : ∀ pc loc st h bc bs, K pc loc st h bc bs → e_Wp k pc loc st h bc bs Q)
    (H : e_stp loc st h bc bs K Q (e_rt k) (pc, .iastore, len, v, ns, ps)) : e_Wp k pc loc st h bc bs Q := by
  replace H : e_iast st h 0 (fun x => x) (fun r h' => K (pc + 1) loc r h' bc bs) := H
  unfold e_iast at H
  split at H
  · rename_i x i a r
    split at H
    · rename_i t n ha
      cases hb0 : Nat.beq t 0 with
      | false => rw [hb0] at H; exact False.elim H
      | true =>
        rw [hb0] at H
        have htt : t = 0 := Nat.eq_of_beq_eq_true hb0
        subst htt
        have h9 := H
        clear H
        obtain ⟨hin, H⟩ : vp_in i n ∧ _ := h9
        intro p l e R s m args below meth c g A Hp locs cells slots mc ms ls Qc XC C hw hS hl hn hcb hsb hk
        refine va_iast C.1 C.2.1 C.2.2.2.2.2.2.2.2.2.2.2.2.2.2.2.1 hw.1 hw.2 hS a 0 (e_ws_get (g := g) ha) (e_tys_get (t := 0) rfl) hin hd (fun H1 locs1 hP1 hD1 hS1 => ?_)
        exact hK _ _ _ _ _ _ H p l e R s m args below meth c g A H1 locs1 cells slots mc ms ls Qc XC C ⟨by rw [e_ws_iast ha (by decide) (by decide)]; exact hP1, by rw [e_ws_iast ha (by decide) (by decide)]; exact hD1⟩ hS1 hl hn hcb hsb (hk.step (e_to.same rfl rfl rfl))
    · exact False.elim H
  · exact False.elim H
theorem e_s_castore {k pc len : Nat} {v : Value} {ns : List Nat} {ps : List (Nat × Nat)} {loc : List (Option Value)} {st : List Value} {h : e_H} {bc bs : Nat} {K : Nat → List (Option Value) → List Value → e_H → Nat → Nat → Prop} {Q : e_O → e_H → Prop}  (hd : decode (e_mb k) pc = .ok (.castore, 1))  (hK : ∀ pc loc st h bc bs, K pc loc st h bc bs → e_Wp k pc loc st h bc bs Q)
    (H : e_stp loc st h bc bs K Q (e_rt k) (pc, .castore, len, v, ns, ps)) : e_Wp k pc loc st h bc bs Q := by
  replace H : e_iast st h 2 (fun x => vp_nar .char x) (fun r h' => K (pc + 1) loc r h' bc bs) := H
  unfold e_iast at H
  split at H
  · rename_i x i a r
    split at H
    · rename_i t n ha
      cases hb0 : Nat.beq t 2 with
      | false => rw [hb0] at H; exact False.elim H
      | true =>
        rw [hb0] at H
        have htt : t = 2 := Nat.eq_of_beq_eq_true hb0
        subst htt
        have h9 := H
        clear H
        obtain ⟨hin, H⟩ : vp_in i n ∧ _ := h9
        intro p l e R s m args below meth c g A Hp locs cells slots mc ms ls Qc XC C hw hS hl hn hcb hsb hk
        refine va_cast C.1 C.2.1 C.2.2.2.2.2.2.2.2.2.2.2.2.2.2.2.1 hw.1 hw.2 hS a 2 (e_ws_get (g := g) ha) (e_tys_get (t := 2) rfl) hin hd (fun H1 locs1 hP1 hD1 hS1 => ?_)
        exact hK _ _ _ _ _ _ H p l e R s m args below meth c g A H1 locs1 cells slots mc ms ls Qc XC C ⟨by rw [e_ws_iast ha (by decide) (by decide)]; exact hP1, by rw [e_ws_iast ha (by decide) (by decide)]; exact hD1⟩ hS1 hl hn hcb hsb (hk.step (e_to.same rfl rfl rfl))
    · exact False.elim H
  · exact False.elim H
theorem e_s_lastore {k pc len : Nat} {v : Value} {ns : List Nat} {ps : List (Nat × Nat)} {loc : List (Option Value)} {st : List Value} {h : e_H} {bc bs : Nat} {K : Nat → List (Option Value) → List Value → e_H → Nat → Nat → Prop} {Q : e_O → e_H → Prop}  (hd : decode (e_mb k) pc = .ok (.lastore, 1))  (hK : ∀ pc loc st h bc bs, K pc loc st h bc bs → e_Wp k pc loc st h bc bs Q)
    (H : e_stp loc st h bc bs K Q (e_rt k) (pc, .lastore, len, v, ns, ps)) : e_Wp k pc loc st h bc bs Q := by
  replace H : e_last st h (fun r h' => K (pc + 1) loc r h' bc bs) := H
  unfold e_last at H
  split at H
  · rename_i x i a r
    split at H
    · rename_i t n ha
      cases hb0 : Nat.beq t 1 with
      | false => rw [hb0] at H; exact False.elim H
      | true =>
        rw [hb0] at H
        have htt : t = 1 := Nat.eq_of_beq_eq_true hb0
        subst htt
        have h9 := H
        clear H
        obtain ⟨hin, H⟩ : vp_in i n ∧ _ := h9
        intro p l e R s m args below meth c g A Hp locs cells slots mc ms ls Qc XC C hw hS hl hn hcb hsb hk
        refine va_last C.1 C.2.1 C.2.2.2.2.2.2.2.2.2.2.2.2.2.2.2.1 hw.1 hw.2 hS a 1 (e_ws_get (g := g) ha) (e_tys_get (t := 1) rfl) hin hd (fun H1 locs1 hP1 hD1 hS1 => ?_)
        exact hK _ _ _ _ _ _ H p l e R s m args below meth c g A H1 locs1 cells slots mc ms ls Qc XC C ⟨by rw [e_ws_last ha]; exact hP1, by rw [e_ws_last ha]; exact hD1⟩ hS1 hl hn hcb hsb (hk.step (e_to.same rfl rfl rfl))
    · exact False.elim H
  · exact False.elim H
theorem e_s_dastore {k pc len : Nat} {v : Value} {ns : List Nat} {ps : List (Nat × Nat)} {loc : List (Option Value)} {st : List Value} {h : e_H} {bc bs : Nat} {K : Nat → List (Option Value) → List Value → e_H → Nat → Nat → Prop} {Q : e_O → e_H → Prop}  (hd : decode (e_mb k) pc = .ok (.dastore, 1))  (hK : ∀ pc loc st h bc bs, K pc loc st h bc bs → e_Wp k pc loc st h bc bs Q)
    (H : e_stp loc st h bc bs K Q (e_rt k) (pc, .dastore, len, v, ns, ps)) : e_Wp k pc loc st h bc bs Q := by
  replace H : e_dast st h (fun r h' => K (pc + 1) loc r h' bc bs) := H
  unfold e_dast at H
  split at H
  · rename_i x i a r
    split at H
    · rename_i t n ha
      cases hb0 : Nat.beq t 3 with
      | false => rw [hb0] at H; exact False.elim H
      | true =>
        rw [hb0] at H
        have htt : t = 3 := Nat.eq_of_beq_eq_true hb0
        subst htt
        have h9 := H
        clear H
        obtain ⟨hin, H⟩ : vp_in i n ∧ _ := h9
        intro p l e R s m args below meth c g A Hp locs cells slots mc ms ls Qc XC C hw hS hl hn hcb hsb hk
        refine va_dast C.1 C.2.1 C.2.2.2.2.2.2.2.2.2.2.2.2.2.2.2.1 hw.1 hw.2 hS a 3 (e_ws_get (g := g) ha) (e_tys_get (t := 3) rfl) hin hd (fun H1 locs1 hP1 hD1 hS1 => ?_)
        exact hK _ _ _ _ _ _ H p l e R s m args below meth c g A H1 locs1 cells slots mc ms ls Qc XC C ⟨by rw [e_ws_dast ha]; exact hP1, by rw [e_ws_dast ha]; exact hD1⟩ hS1 hl hn hcb hsb (hk.step (e_to.same rfl rfl rfl))
    · exact False.elim H
  · exact False.elim H
theorem e_s_aastore {k pc len : Nat} {v : Value} {ns : List Nat} {ps : List (Nat × Nat)} {loc : List (Option Value)} {st : List Value} {h : e_H} {bc bs : Nat} {K : Nat → List (Option Value) → List Value → e_H → Nat → Nat → Prop} {Q : e_O → e_H → Prop}  (hd : decode (e_mb k) pc = .ok (.aastore, 1))  (hK : ∀ pc loc st h bc bs, K pc loc st h bc bs → e_Wp k pc loc st h bc bs Q)
    (H : e_stp loc st h bc bs K Q (e_rt k) (pc, .aastore, len, v, ns, ps)) : e_Wp k pc loc st h bc bs Q := by
  replace H : e_aast st h (fun r h' => K (pc + 1) loc r h' bc bs) := H
  unfold e_aast at H
  split at H
  · rename_i v i a r
    split at H
    · rename_i n rs ci tm ha hv
      cases hb0 : Nat.beq ci 2 && Nat.beq n rs.length with
      | false => rw [hb0] at H; exact False.elim H
      | true =>
        rw [hb0] at H
        simp only [Bool.and_eq_true] at hb0
        have h2 : ci = 2 := Nat.eq_of_beq_eq_true hb0.1
        have h3 : n = rs.length := Nat.eq_of_beq_eq_true hb0.2
        subst h2
        have h9 := H
        clear H
        obtain ⟨hin, H⟩ : vp_in i n ∧ _ := h9
        intro p l e R s m args below meth c g A Hp locs cells slots mc ms ls Qc XC C hw hS hl hn hcb hsb hk
        refine va_astq C.1 C.2.1 C.2.2.2.2.2.2.2.2.2.2.2.2.2.2.2.1 hw.1 hw.2 hS a 4 v 2 (e_ws_get (g := g) ha) (e_tys_get (t := 4) rfl) (e_ws_get (g := g) hv) (r := ("HexCampaign$Game", e_T e_f2, 9)) rfl hin hd (fun H1 locs1 hP1 hD1 hS1 => ?_)
        have hin2 : i.toNatClampNeg < rs.length := by
          rw [← h3]
          unfold vp_in at hin
          omega
        have hws : e_ws g (e_setC h a (.inr (.inr (n, rs.set i.toNatClampNeg (some v))))) = (e_ws g h).set a (g.1 a, .inl (g.2.2.1 4, n, .inr (.inr (.inr (.inr (va_up (fun i => (rs.getD i none).map g.1) i.toNatClampNeg (some (g.1 v)))))))) := by
          refine e_ws_set (e' := .inr (.inr (n, rs.set i.toNatClampNeg (some v)))) rfl (List.getElem?_eq_some_iff.mp ha).1 ?_ (fun d e hd => e_cell_I e rfl rfl rfl)
          show (Sum.inl (g.2.2.1 4, n, Sum.inr (Sum.inr (Sum.inr (Sum.inr _)))) : va_E) = _
          refine congrArg (fun z => (Sum.inl (g.2.2.1 4, n, Sum.inr (Sum.inr (Sum.inr (Sum.inr z)))) : va_E)) (funext fun j => ?_)
          show ((rs.set i.toNatClampNeg (some v)).getD j none).map g.1 = if j = i.toNatClampNeg then some (g.1 v) else (rs.getD j none).map g.1
          rw [List.getD_eq_getElem?_getD, List.getElem?_set, List.getD_eq_getElem?_getD]
          by_cases hj : i.toNatClampNeg = j
          · subst hj
            rw [if_pos rfl, if_pos hin2, if_pos rfl]
            rfl
          · rw [if_neg hj, if_neg (Ne.symm hj)]
        exact hK _ _ _ _ _ _ H p l e R s m args below meth c g A H1 locs1 cells slots mc ms ls Qc XC C ⟨by rw [hws]; exact hP1, by rw [hws]; exact hD1⟩ hS1 hl hn hcb hsb (hk.step (e_to.same rfl (by show ((e_lay h).set _ _).length = _; rw [List.length_set]) rfl))
    · exact False.elim H
  · exact False.elim H
/-! fields -/
theorem e_s_getO {k pc len : Nat} {v : Value} {ns : List Nat} {ps : List (Nat × Nat)} {loc : List (Option Value)} {st : List Value} {h : e_H} {bc bs : Nat} {K : Nat → List (Option Value) → List Value → e_H → Nat → Nat → Prop} {Q : e_O → e_H → Prop} {ix ci j f : Nat} (hd : decode (e_mb k) pc = .ok (.getfield ix, 3)) (hns : ns = [ci, j, f]) (hci : ci < e_cls.length) (hj : j < e_cK ci) (hdecl : (e_cT ci j).1 = e_cN ci) (hw1 : Cond.fieldLink (e_nm k).cls ix (e_cN ci) (e_cT ci j).2.1 (e_cT ci j).2.2.1 ∈ e_tb) (hK : ∀ pc loc st h bc bs, K pc loc st h bc bs → e_Wp k pc loc st h bc bs Q)
    (H : e_stp loc st h bc bs K Q (e_rt k) (pc, .getfield ix, len, v, ns, ps)) : e_Wp k pc loc st h bc bs Q := by
  subst hns
  replace H : e_get st h [ci, j, f] (fun r => K (pc + 3) loc r h bc bs) := H
  simp only [e_get] at H
  split at H
  · rename_i a r
    split at H
    · rename_i cj tm ha
      have h9 := e_bif H
      clear H
      obtain ⟨hb0, H⟩ := h9
      obtain rfl : cj = ci := Nat.eq_of_beq_eq_true hb0
      have row : ∀ (w : Value), (∀ g : e_G, (tm.mapIdx (e_slot g h a))[j]? = some (e_rel g w)) → K (pc + 3) loc (w :: r) h bc bs → e_Wp k pc loc (.ref a :: r) h bc bs Q := by
        intro w hw0 H
        intro p l e R s m args below meth c g A Hp locs cells slots mc ms ls Qc XC C hw hS hl hn hcb hsb hk
        exact va_get C.1 C.2.1 C.2.2.2.2.1 (e_clw _ hci) C.2.2.2.1 C.2.2.2.2.2.2.2.2.2.2.2.2.2.2.2.1 hw.1 a (e_ws_get (g := g) ha) (e_clc hci) j hj (C.2.2.2.2.1 _ hw1) (fun x hx => by rw [hdecl] at hx; exact hx) (hw0 g) hd (hK _ _ _ _ _ _ H p l e R s m args below meth c g A Hp locs cells slots mc ms ls Qc XC C hw hS hl hn hcb hsb hk)
      split at H
      · rename_i z hz
        exact row _ (fun g => by rw [List.getElem?_mapIdx, hz]; rfl) H
      · rename_i z hz
        exact row _ (fun g => by rw [List.getElem?_mapIdx, hz]; rfl) H
      · rename_i z hz
        exact row _ (fun g => by rw [List.getElem?_mapIdx, hz]; rfl) H
      · rename_i hz
        exact row _ (fun g => by rw [List.getElem?_mapIdx, hz]; rfl) H
      · exact False.elim H
    · exact False.elim H
  · exact False.elim H
theorem e_s_getS {k pc len : Nat} {v : Value} {ns : List Nat} {ps : List (Nat × Nat)} {loc : List (Option Value)} {st : List Value} {h : e_H} {bc bs : Nat} {K : Nat → List (Option Value) → List Value → e_H → Nat → Nat → Prop} {Q : e_O → e_H → Prop} {ix c9 j : Nat} (hd : decode (e_mb k) pc = .ok (.getfield ix, 3)) (hns : ns = [c9, j]) (hw1 : (j = 0 ∧ Cond.fieldLink (e_nm k).cls ix "java/lang/String" "coder" "B" ∈ e_tb) ∨ (j = 1 ∧ Cond.fieldLink (e_nm k).cls ix "java/lang/String" "value" "[B" ∈ e_tb)) (hK : ∀ pc loc st h bc bs, K pc loc st h bc bs → e_Wp k pc loc st h bc bs Q)
    (H : e_stp loc st h bc bs K Q (e_rt k) (pc, .getfield ix, len, v, ns, ps)) : e_Wp k pc loc st h bc bs Q := by
  subst hns
  replace H : e_get st h [c9, j] (fun r => K (pc + 3) loc r h bc bs) := H
  simp only [e_get] at H
  split at H
  · rename_i a r
    have h9 := e_bif H
    clear H
    obtain ⟨hb0, H⟩ := h9
    have ha : a < 3 := Nat.le_of_ble_eq_true hb0
    intro p l e R s m args below meth c g A Hp locs cells slots mc ms ls Qc XC C hw hS hl hn hcb hsb hk
    obtain ⟨-, -, -, h3, ⟨adV, h4, h5⟩, -, -, -, -, -, -, -, b, h12, h13, h14, h15⟩ := C.2.2.2.2.2.2.2.2.2.2.2.2.2.2.2.2
    have h6 := h4.1 a ha
    rcases hw1 with ⟨rfl, hw1⟩ | ⟨rfl, hw1⟩
    · rw [List.map_cons, show e_rel g (.retAddr a) = g.2.1 a from rfl, (h5 a ha).1]
      exact vk_getf C.1 C.2.1 h6.2.1 hS C.2.2.2.1 (C.2.2.2.2.1 _ hw1) (fun _ hh => hh) hd (hK _ _ _ _ _ _ H p l e R s m args below meth c g A Hp locs cells slots mc ms ls Qc XC C hw hS hl hn hcb hsb hk)
    · have kk := hK _ _ _ _ _ _ H p l e R s m args below meth c g A Hp locs cells slots mc ms ls Qc XC C hw hS hl hn hcb hsb hk
      rw [List.map_cons, show e_rel g (.retAddr (3 + a)) = g.2.1 (3 + a) from rfl, (h5 a ha).2] at kk
      rw [List.map_cons, show e_rel g (.retAddr a) = g.2.1 a from rfl, (h5 a ha).1]
      exact vk_getf C.1 C.2.1 h6.2.2.1 hS C.2.2.2.1 (C.2.2.2.2.1 _ hw1) (fun _ hh => hh) hd kk
  · exact False.elim H
/-- a field's store, final or not -/
theorem e_putrow {k pc ix ci j a : Nat} {loc : List (Option Value)} {r : List Value} {v : Value} {h h' : e_H} {bc bs : Nat} {Q : e_O → e_H → Prop} {tm : List Value} (hd : decode (e_mb k) pc = .ok (.putfield ix, 3)) (hci : ci < e_cls.length) (hj : j < e_cK ci) (hdecl : (e_cT ci j).1 = e_cN ci) (hw1 : Cond.fieldLink (e_nm k).cls ix (e_cN ci) (e_cT ci j).2.1 (e_cT ci j).2.2.1 ∈ e_tb)
    (hfin : (e_cT ci j).2.2.2 = false ∨ ((e_cT ci j).2.2.2 = true ∧ (e_nm k).cls = e_cN ci ∧ (e_nm k).name = "<init>")) (ha : (e_lay h)[a]? = some (.inl (ci, tm)))
    (hn0 : ∀ g : e_G, narrow (e_ty ci j) (e_rel g v) = e_rel g v) (hf0 : ∀ g : e_G, fits (e_ty ci j) (e_rel g v) = true) (hjl : j < tm.length) (hws : ∀ g : e_G, e_ws g h' = (e_ws g h).set a (g.1 a, .inr (ci, (tm.mapIdx (e_slot g h a)).set j (e_rel g v)))) (hto : ∀ g : e_G, e_to g h g h')
    (H : e_Wp k (pc + 3) loc r h' bc bs Q) : e_Wp k pc loc (v :: .ref a :: r) h bc bs Q := by
  intro p l e R s m args below meth c g A Hp locs cells slots mc ms ls Qc XC C hw hS hl hn hcb hsb hk
  have hjl2 : j < (tm.mapIdx (e_slot g h a)).length := by rw [List.length_mapIdx]; exact hjl
  have go : ∀ (H1 : Heap) (locs1 : List Loc), va_P g.2.2.2 e_cls ((e_ws g h).set a (g.1 a, .inr (ci, (tm.mapIdx (e_slot g h a)).set j (e_rel g v)))) H1 → va_D A ((e_ws g h).set a (g.1 a, .inr (ci, (tm.mapIdx (e_slot g h a)).set j (e_rel g v)))) → va_S A s.heap H1 locs1 → W p l e R s m args below meth c H1 locs1 cells slots (vx_MQ below Qc XC args s mc ms A) (F0 m (pc + 3) ls (r.map (e_rel g))) := by
    intro H1 locs1 hP1 hD1 hS1
    rw [← hws g] at hP1 hD1
    refine H p l e R s m args below meth c g A H1 locs1 cells slots mc ms ls Qc XC ?_ ⟨hP1, hD1⟩ hS1 hl hn hcb hsb (hk.step (hto g))
    rw [(hto g).1]
    exact C
  rcases hfin with hfin | ⟨hfin, hown, hinit⟩
  · exact va_put C.1 C.2.1 C.2.2.2.2.1 (e_clw _ hci) (e_ty ci) (fun k hk => e_clt hci hk) (e_cln _ hci) C.2.2.2.1 C.2.2.2.2.2.2.2.2.2.2.2.2.2.2.2.1 hw.1 hw.2 hS a (e_ws_get (g := g) ha) (e_clc hci) j hj (C.2.2.2.2.1 _ hw1) (fun x hx => by rw [hdecl] at hx; exact hx) hfin (e_clt hci hj) (hn0 g) (hf0 g) hjl2 hd go
  · exact va_putF C.1 C.2.1 C.2.2.2.2.1 (e_clw _ hci) (e_ty ci) (fun k hk => e_clt hci hk) (e_cln _ hci) C.2.2.2.1 C.2.2.2.2.2.2.2.2.2.2.2.2.2.2.2.1 hw.1 hw.2 hS a (e_ws_get (g := g) ha) (e_clc hci) j hj (C.2.2.2.2.1 _ hw1) (fun x hx => by rw [hdecl] at hx; exact hx) hfin (C.2.2.2.2.2.2.2.1.trans hinit) (hdecl.trans hown.symm) (e_clt hci hj) (hn0 g) (hf0 g) hjl2 hd go
theorem e_s_put {k pc len : Nat} {v : Value} {ns : List Nat} {ps : List (Nat × Nat)} {loc : List (Option Value)} {st : List Value} {h : e_H} {bc bs : Nat} {K : Nat → List (Option Value) → List Value → e_H → Nat → Nat → Prop} {Q : e_O → e_H → Prop} {ix ci j f tc : Nat} (hd : decode (e_mb k) pc = .ok (.putfield ix, 3)) (hns : ns = [ci, j, f, tc]) (htc : tc = e_kd (e_ty ci j)) (hci : ci < e_cls.length) (hj : j < e_cK ci) (hdecl : (e_cT ci j).1 = e_cN ci) (hw1 : Cond.fieldLink (e_nm k).cls ix (e_cN ci) (e_cT ci j).2.1 (e_cT ci j).2.2.1 ∈ e_tb) (hfin : (e_cT ci j).2.2.2 = false ∨ ((e_cT ci j).2.2.2 = true ∧ (e_nm k).cls = e_cN ci ∧ (e_nm k).name = "<init>")) (hK : ∀ pc loc st h bc bs, K pc loc st h bc bs → e_Wp k pc loc st h bc bs Q)
    (H : e_stp loc st h bc bs K Q (e_rt k) (pc, .putfield ix, len, v, ns, ps)) : e_Wp k pc loc st h bc bs Q := by
  subst hns
  replace H : e_put st h [ci, j, f, tc] (fun r h' => K (pc + 3) loc r h' bc bs) := H
  simp only [e_put] at H
  split at H
  · rename_i x a r
    split at H
    · rename_i cj tm ha
      have h9 := e_bif H
      clear H
      obtain ⟨hb0, H⟩ := h9
      obtain rfl : cj = ci := Nat.eq_of_beq_eq_true hb0
      split at H
      · rename_i z hz
        have hjl := (List.getElem?_eq_some_iff.mp hz).1
        have hws : ∀ g : e_G, e_ws g (e_setI h a j x) = (e_ws g h).set a (g.1 a, .inr (cj, (tm.mapIdx (e_slot g h a)).set j (.int x))) := fun g =>
          e_ws_put (h' := e_setI h a j x) ha (e_lay_set ha) (e_map_set rfl hjl (fun v hv => by rw [hz] at hv; cases hv; show Value.int (e_up (e_hI h) a j x a j) = _; rw [e_up_same]; exact congrArg Value.int (if_pos rfl)) (fun i v hi hv => ⟨hv, by
            cases v <;> first | rfl | (show Value.int (e_up (e_hI h) a j x a i) = Value.int _; rw [e_up_same]; exact congrArg Value.int (if_neg hi))⟩)) (fun d hd => ⟨e_up_ne hd, rfl, rfl⟩)
        cases hb1 : Nat.beq tc 0 with
        | true =>
          rw [hb1] at H
          have h0 : e_ty cj j = .int := by
            rw [Nat.eq_of_beq_eq_true hb1] at htc
            cases hq : e_ty cj j <;> rw [hq] at htc <;> first | rfl | (simp [e_kd] at htc)
          exact e_putrow hd hci hj hdecl hw1 hfin ha (fun g => by rw [h0]; rfl) (fun g => by rw [h0]; rfl) hjl hws (fun g => e_to.same rfl rfl rfl) (hK _ _ _ _ _ _ H)
        | false =>
          rw [hb1] at H
          have h9 := e_bif H
          clear H
          obtain ⟨hb2, hnar, H⟩ : Nat.beq tc 1 = true ∧ _ := h9
          have h0 : e_ty cj j = .boolean := by
            rw [Nat.eq_of_beq_eq_true hb2] at htc
            cases hq : e_ty cj j <;> rw [hq] at htc <;> first | rfl | (simp [e_kd] at htc)
          exact e_putrow hd hci hj hdecl hw1 hfin ha (fun g => by rw [h0]; rcases hnar with rfl | rfl <;> rfl) (fun g => by rw [h0]; rcases hnar with rfl | rfl <;> rfl) hjl hws (fun g => e_to.same rfl rfl rfl) (hK _ _ _ _ _ _ H)
      · exact False.elim H
    · exact False.elim H
  · rename_i x a r
    split at H
    · rename_i cj tm ha
      have h9 := e_bif H
      clear H
      obtain ⟨hb0, H⟩ := h9
      simp only [Bool.and_eq_true] at hb0
      obtain rfl : cj = ci := Nat.eq_of_beq_eq_true hb0.1
      have h0 : e_ty cj j = .long := by
        rw [Nat.eq_of_beq_eq_true hb0.2] at htc
        cases hq : e_ty cj j <;> rw [hq] at htc <;> first | rfl | (simp [e_kd] at htc)
      split at H
      · rename_i z hz
        have hjl := (List.getElem?_eq_some_iff.mp hz).1
        have hws : ∀ g : e_G, e_ws g (e_setL h a j x) = (e_ws g h).set a (g.1 a, .inr (cj, (tm.mapIdx (e_slot g h a)).set j (.long x))) := fun g =>
          e_ws_put (h' := e_setL h a j x) ha (e_lay_set ha) (e_map_set rfl hjl (fun v hv => by rw [hz] at hv; cases hv; show Value.long (e_up (e_hL h) a j x a j) = _; rw [e_up_same]; exact congrArg Value.long (if_pos rfl)) (fun i v hi hv => ⟨hv, by
            cases v <;> first | rfl | (show Value.long (e_up (e_hL h) a j x a i) = Value.long _; rw [e_up_same]; exact congrArg Value.long (if_neg hi))⟩)) (fun d hd => ⟨rfl, e_up_ne hd, rfl⟩)
        exact e_putrow hd hci hj hdecl hw1 hfin ha (fun g => by rw [h0]; rfl) (fun g => by rw [h0]; rfl) hjl hws (fun g => e_to.same rfl rfl rfl) (hK _ _ _ _ _ _ H)
      · exact False.elim H
    · exact False.elim H
  · rename_i v a r
    split at H
    · rename_i cj tm ha
      have h9 := e_bif H
      clear H
      obtain ⟨hb0, H⟩ := h9
      simp only [Bool.and_eq_true] at hb0
      obtain rfl : cj = ci := Nat.eq_of_beq_eq_true hb0.1
      have htc3 : e_kd (e_ty cj j) = 3 := by rw [← htc, Nat.eq_of_beq_eq_true hb0.2]
      split at H
      · rename_i hz
        have hjl := (List.getElem?_eq_some_iff.mp hz).1
        have hws : ∀ g : e_G, e_ws g (e_setC h a (.inl (cj, tm.set j (.ref v)))) = (e_ws g h).set a (g.1 a, .inr (cj, (tm.mapIdx (e_slot g h a)).set j (.ref (g.1 v)))) := fun g =>
          e_ws_put (h' := e_setC h a (.inl (cj, tm.set j (.ref v)))) ha rfl (e_map_set (by simp) hjl (fun w hw => by rw [List.getElem?_set, if_pos rfl, if_pos hjl] at hw; cases hw; rfl) (fun i w hi hw => ⟨by rw [List.getElem?_set, if_neg (Ne.symm hi)] at hw; exact hw, rfl⟩)) (fun d hd => ⟨rfl, rfl, rfl⟩)
        refine e_putrow hd hci hj hdecl hw1 hfin ha (fun g => ?_) (fun g => ?_) hjl hws (fun g => e_to.same rfl (by show ((e_lay h).set _ _).length = _; rw [List.length_set]) rfl) (hK _ _ _ _ _ _ H)
        · cases hq : e_ty cj j <;> rw [hq] at htc3 <;> first | rfl | (simp [e_kd] at htc3)
        · cases hq : e_ty cj j <;> rw [hq] at htc3 <;> first | rfl | (simp [e_kd] at htc3)
      · exact False.elim H
    · exact False.elim H
  · exact False.elim H
