/-! a method: its body's run, its contract -/
/-- of method k every instruction is checked, and the words are there -/
def e_chk (k : Nat) : Prop := (e_cd k).all (e_ck k) = true ∧ e_wok ((e_cd k).flatMap (e_wds k (e_nm k).cls))
theorem e_step {k : Nat} {en : e_I} {loc : List (Option Value)} {st : List Value} {h : e_H} {bc bs : Nat} {Q : e_O → e_H → Prop} (hk : e_chk k) {pc : Nat} (hf : e_find (e_cd k) pc = some en)
    (H : e_stp loc st h bc bs (fun pc loc st h bc bs => e_Wp k pc loc st h bc bs Q) Q (e_rt k) en) : e_Wp k pc loc st h bc bs Q := by
  obtain ⟨h1, h2⟩ := e_find_in hf
  subst h2
  exact e_sound (List.all_eq_true.mp hk.1 en h1) (fun q hq => e_wok_in hk.2 q (List.mem_flatMap.mpr ⟨en, h1, hq⟩)) (fun _ _ _ _ _ _ h => h) H
/-- fewer cells and slots will do; a stronger end will do -/
theorem e_Wp.mono {k pc : Nat} {loc : List (Option Value)} {st : List Value} {h : e_H} {bc bs : Nat} {Q Q' : e_O → e_H → Prop} (H : e_Wp k pc loc st h bc bs Q) (hQ : ∀ o h', Q o h' → Q' o h') : e_Wp k pc loc st h bc bs Q' := by
  intro p l e R s m args below meth c g A Hp locs cells slots mc ms ls Qc XC C hw hS hl hn hcb hsb hk
  exact H p l e R s m args below meth c g A Hp locs cells slots mc ms ls Qc XC C hw hS hl hn hcb hsb ⟨fun v g' h' t hq => hk.1 v g' h' t (hQ _ _ hq), fun E g' h' t hq => hk.2 E g' h' t (hQ _ _ hq)⟩
theorem e_Wp.less {k pc : Nat} {loc : List (Option Value)} {st : List Value} {h : e_H} {bc bs bc' bs' : Nat} {Q : e_O → e_H → Prop} (H : e_Wp k pc loc st h bc bs Q) (h1 : bc ≤ bc') (h2 : bs ≤ bs') : e_Wp k pc loc st h bc' bs' Q := by
  intro p l e R s m args below meth c g A Hp locs cells slots mc ms ls Qc XC C hw hS hl hn hcb hsb hk
  exact H p l e R s m args below meth c g A Hp locs cells slots mc ms ls Qc XC C hw hS hl hn (by omega) (by omega) hk
/-- fewer locals will do -/
theorem e_Wp.locs {k pc : Nat} {loc loc' : List (Option Value)} {st : List Value} {h : e_H} {bc bs : Nat} {Q : e_O → e_H → Prop} (H : e_Wp k pc loc' st h bc bs Q) (hl0 : loc'.length = loc.length) (hl1 : ∀ (i : Nat) (v : Value), loc'[i]? = some (some v) → loc[i]? = some (some v)) : e_Wp k pc loc st h bc bs Q := by
  intro p l e R s m args below meth c g A Hp locs cells slots mc ms ls Qc XC C hw hS hl hn hcb hsb hk
  refine H p l e R s m args below meth c g A Hp locs cells slots mc ms ls Qc XC C hw hS (e_lmono hl ?_) (hl0.trans hn) hcb hsb hk
  rintro ⟨i, w⟩ hq
  obtain ⟨v, hv, rfl⟩ := e_as_mem.mp hq
  exact e_as_mem.mpr ⟨v, hl1 i v hv, rfl⟩
/-- from here on no cells are made -/
theorem e_Wp.still {k pc : Nat} {loc : List (Option Value)} {st : List Value} {h : e_H} {bc bs : Nat} {Q Q' : e_O → e_H → Prop} (H : e_Wp k pc loc st (e_lay h, e_hI h, e_hL h, e_hD h, e_scr h, false) bc bs Q) (hQ : ∀ o h', e_fl h' = false → Q o h' → Q' o (e_lay h', e_hI h', e_hL h', e_hD h', e_scr h', e_fl h)) : e_Wp k pc loc st h bc bs Q' := by
  intro p l e R s m args below meth c g A Hp locs cells slots mc ms ls Qc XC C hw hS hl hn hcb hsb hk
  refine H p l e R s m args below meth c g A Hp locs cells slots mc ms ls Qc XC C hw hS hl hn hcb hsb ⟨fun v g' h' t hq hto hwd hF => ?_, fun E g' h' t hq hto hwd hF => ?_⟩
  · exact hk.1 v g' (e_lay h', e_hI h', e_hL h', e_hD h', e_scr h', e_fl h) t (hQ _ _ hto.2.2.2.2 hq) ⟨hto.1, hto.2.1, hto.2.2.1, fun _ => hto.2.2.2.1 rfl, rfl⟩ hwd hF
  · exact hk.2 E g' (e_lay h', e_hI h', e_hL h', e_hD h', e_scr h', e_fl h) t (hQ _ _ hto.2.2.2.2 hq) ⟨hto.1, hto.2.1, hto.2.2.1, fun _ => hto.2.2.2.1 rfl, rfl⟩ hwd hF
theorem e_M.mono {k : Nat} {avs : List Value} {h : e_H} {Φ Φ' : e_O → e_H → Prop} (H : e_M k avs h Φ) (hΦ : ∀ o h', Φ o h' → Φ' o h') : e_M k avs h Φ' := by
  intro l hl g sz p e h1 h2 h3 s m args below h4 h5 h6 h7
  obtain ⟨n, o, a1, a2, a3, a4⟩ := H l hl g sz p e h1 h2 h3 s m args below h4 h5 h6 h7
  refine ⟨n, o, a1, a2, a3, ?_⟩
  rcases a4 with ⟨⟨v, g', h', b1, b2, b3⟩, b4⟩ | ⟨q, b1, E, ce, L, ⟨g', h', b2, b3⟩, b4⟩
  · exact Or.inl ⟨⟨v, g', h', b1, hΦ _ _ b2, b3⟩, b4⟩
  · exact Or.inr ⟨q, b1, E, ce, L, ⟨g', h', hΦ _ _ b2, b3⟩, b4⟩
/-- the contract of a method out of the walk of its body -/
theorem e_M_of {k : Nat} {avs : List Value} {h : e_H} {Φ : e_O → e_H → Prop} (hpl : plainName (e_nm k).cls = true) (hav : (e_loc0 avs).length ≤ e_ml k)
    (H : e_Wp k 0 (e_entry avs (e_ml k)) [] h (e_cc k) (e_cs k) Φ) : e_M k avs h Φ := by
  intro l hl g sz
  have key : ∀ p e s m args below meth c s₁, BodyLoose p l (e_nm k) (headSpec (e_wsk k) (e_rom k)) (e_mb k) (e_ml k) (e_rt k) e s m args below meth c s₁ → c.maxLocals = e_ml k → c.exceptionTable.toList = tableOf (e_hh k) → e_Pc g sz avs h args s →
      W p l e (headSpec (e_wsk k) (e_rom k)).room s m args below meth c s.heap [] 0 0 (vx_MQ below (e_Qc g sz h Φ) (e_Xc g sz h Φ) args s (e_cc k) (e_cs k) (va_A (e_ws g h) sz)) (entryFrame m args (e_ml k)) := by
    intro p e s m args below meth c s₁ B hml htab hv
    obtain ⟨rfl, hsz, hwd, hK, hF⟩ := hv
    subst hsz
    rw [lg_entry_eq]
    have hts := atoms_spec (ws := e_wsk k) B.pre
    have hl0 := e_entry_has (e_refc hF.1) avs hav
    refine H p l e (headSpec (e_wsk k) (e_rom k)).room s m (avs.map (e_rel g)).toArray below meth c g (va_A (e_ws g h) s.heap.size) s.heap [] 0 0 (e_cc k) (e_cs k) _ _ _ ⟨B.exec, B.bytes, hml, findClass_of_methodNamed B.named, fun w hw => hts w (by unfold e_wsk; exact List.mem_cons_of_mem _ hw), B.returns, B.notSynchronized, (name_of_methodNamed B.named B.method).1, htab, rfl, rfl, rfl, rfl, hl, fun q hq => Or.inr hq, hK, hF⟩ ⟨hwd.1, hwd.2.self⟩ va_S.rf hl0 (e_entry_len avs hav) (by omega) (by omega) ⟨fun v g' h' t hq hto hwd' hF' => ⟨v, g', h', rfl, hq, hto, hwd', hF'⟩, fun E g' h' t hq hto hwd' hF' => ⟨g', h', hq, hto, hwd', hF'⟩⟩
  by_cases hhh : e_hh k = []
  · have hws : e_wsk k = .code (e_nm k) (e_mb k) (e_ml k) (e_rt k) :: e_tb := by unfold e_wsk; rw [if_pos hhh]
    refine vx_ofW hpl hws (fun p e s m args below meth c s₁ B hml hno hP => key p e s m args below meth c s₁ B hml ?_ hP)
    rw [hhh]
    cases hq : c.exceptionTable.toList with
    | nil => rfl
    | cons a r => exact False.elim (hno a (by rw [hq]; exact List.mem_cons_self))
  · have hws : e_wsk k = .codeWith (e_nm k) (e_mb k) (e_ml k) (e_rt k) (e_hh k) :: e_tb := by unfold e_wsk; rw [if_neg hhh]
    refine vx_ofWH hpl hws (fun p e s m args below meth c s₁ B hml hP => key p e s m args below meth c s₁ B hml (vx_table (x := e_nm k) B (atoms_spec (ws := e_wsk k) B.pre _ (by rw [hws]; exact List.mem_cons_self))) hP)
/-- a run of some instructions, as far as the places where it is cut -/
theorem e_run_ok {k : Nat} {cd : List e_I} {rt : Option FieldType} {cut : List Nat} {Q : e_O → e_H → Prop} (hk : e_chk k) (hcd : e_cd k = cd) (hrt : e_rt k = rt) : ∀ (n pc : Nat) (loc : List (Option Value)) (st : List Value) (h : e_H) (bc bs : Nat), e_run k cd rt cut Q n pc loc st h bc bs → e_Wp k pc loc st h bc bs Q := by
  subst hcd
  subst hrt
  intro n
  induction n with
  | zero => intro pc loc st h bc bs H; exact False.elim H
  | succ n ih =>
    intro pc loc st h bc bs H
    unfold e_run at H
    split at H
    · exact False.elim H
    · rename_i en hf
      obtain ⟨h1, h2⟩ := e_find_in hf
      subst h2
      refine e_sound (List.all_eq_true.mp hk.1 en h1) (fun q hq => e_wok_in hk.2 q (List.mem_flatMap.mpr ⟨en, h1, hq⟩)) (fun pc' loc' st' h' bc' bs' H' => ?_) H
      cases hc : cut.elem pc' with
      | true =>
        rw [hc] at H'
        exact H'
      | false =>
        rw [hc] at H'
        exact ih pc' loc' st' h' bc' bs' H'
/-- the contract of a method of a class that the machine may take for one of its own -/
theorem e_M_ofF {k : Nat} {avs : List Value} {h : e_H} {Φ : e_O → e_H → Prop} (hpl : plainFor (e_nm k) = true) (hhh : e_hh k = []) (hav : (e_loc0 avs).length ≤ e_ml k)
    (H : e_Wp k 0 (e_entry avs (e_ml k)) [] h (e_cc k) (e_cs k) Φ) : e_M k avs h Φ := by
  intro l hl g sz
  have hws : e_wsk k = .code (e_nm k) (e_mb k) (e_ml k) (e_rt k) :: e_tb := by unfold e_wsk; rw [if_pos hhh]
  refine MetFree.of_bodySF (code := e_mb k) (maxLocals := e_ml k) (ret := e_rt k) hpl ?_ ?_
  · intro args s m h hn
    obtain ⟨meth, c, h1, h2, h3, h4, h5, h6, -, -⟩ := Cond.code_spec hn (atoms_spec (ws := e_wsk k) h _ (by rw [hws]; exact List.mem_cons_self))
    exact ⟨meth, c, h1, h2, h3, h4, h5, h6⟩
  · intro p e s m args below meth c s₁ B hml hv _
    have hh0 : s₁.heap = s.heap := by rw [B.state]; rfl
    obtain ⟨rfl, hsz, hwd, hK, hF⟩ := hv
    subst hsz
    have hts := atoms_spec (ws := e_wsk k) B.pre
    have hl0 := e_entry_has (e_refc hF.1) avs hav
    have htab : c.exceptionTable.toList = tableOf (e_hh k) := by
      obtain ⟨meth9, c9, h1, h2, -, -, -, -, h7, -⟩ := Cond.code_spec B.named (hts _ (by rw [hws]; exact List.mem_cons_self))
      cases Option.some.inj (h1.symm.trans B.method)
      cases Option.some.inj (h2.symm.trans (Stand.of_body B).code)
      rw [Array.isEmpty_iff.mp h7, hhh]
      rfl
    have key := H p l e (headSpec (e_wsk k) (e_rom k)).room s m (avs.map (e_rel g)).toArray below meth c g (va_A (e_ws g h) s.heap.size) s.heap [] 0 0 (e_cc k) (e_cs k) _ (e_Qc g s.heap.size h Φ) (e_Xc g s.heap.size h Φ) ⟨B.exec, B.bytes, hml, findClass_of_methodNamed B.named, fun w hw => hts w (by unfold e_wsk; exact List.mem_cons_of_mem _ hw), B.returns, B.notSynchronized, (name_of_methodNamed B.named B.method).1, htab, rfl, rfl, rfl, rfl, hl, fun q hq => Or.inr hq, hK, hF⟩ ⟨hwd.1, hwd.2.self⟩ va_S.rf hl0 (e_entry_len avs hav) (by omega) (by omega) ⟨fun v g' h' t hq hto hwd' hF' => ⟨v, g', h', rfl, hq, hto, hwd', hF'⟩, fun E g' h' t hq hto hwd' hF' => ⟨g', h', hq, hto, hwd', hF'⟩⟩
    have key2 := key s₁ hh0 (Stand.of_body B)
    rw [List.map_nil] at key2
    rw [lg_entry_eq] at *
    obtain ⟨t, a1, o, b1, b2, b3⟩ := key2
    exact ⟨t, o, a1, b1, b2, b3⟩
