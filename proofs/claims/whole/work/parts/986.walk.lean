/-! the walk of the law from its entry -/

def x_g (adK adV ts : Nat → Nat) (b : Nat) (v : Value) (k : Nat) : Value := if k < 3 then .ref (adK k) else if k < 6 then .ref (adV (k - 3)) else if 10 ≤ k ∧ k < 18 then .ref (ts (k - 10)) else if k = 20 then .ref b else if k = 40 then v else .null
section
variable {adK adV ts : Nat → Nat} {b : Nat} {v : Value}
theorem x_g1 {j : Nat} (h : j < 3) : x_g adK adV ts b v j = .ref (adK j) := by
  unfold x_g
  rw [if_pos h]
theorem x_g2 {j : Nat} (h : j < 3) : x_g adK adV ts b v (3 + j) = .ref (adV j) := by
  unfold x_g
  rw [if_neg (by omega), if_pos (by omega), show 3 + j - 3 = j by omega]
theorem x_g3 {j : Nat} (h : j < 8) : x_g adK adV ts b v (10 + j) = .ref (ts j) := by
  unfold x_g
  rw [if_neg (by omega), if_neg (by omega), if_pos (by omega), show 10 + j - 10 = j by omega]
theorem x_g4 : x_g adK adV ts b v 20 = .ref b := rfl
theorem x_g5 : x_g adK adV ts b v 40 = v := rfl
theorem x_g6 (hv : e_refv v) (k : Nat) : e_refv (x_g adK adV ts b v k) := by
  unfold x_g
  by_cases h1 : k < 3
  · rw [if_pos h1]; exact Or.inr ⟨_, rfl⟩
  · rw [if_neg h1]
    by_cases h2 : k < 6
    · rw [if_pos h2]; exact Or.inr ⟨_, rfl⟩
    · rw [if_neg h2]
      by_cases h3 : 10 ≤ k ∧ k < 18
      · rw [if_pos h3]; exact Or.inr ⟨_, rfl⟩
      · rw [if_neg h3]
        by_cases h4 : k = 20
        · rw [if_pos h4]; exact Or.inr ⟨_, rfl⟩
        · rw [if_neg h4]
          by_cases h5 : k = 40
          · rw [if_pos h5]; exact hv
          · rw [if_neg h5]; exact Or.inl rfl
end
theorem x_F {s : State} {args : Array Value} {A : Nat → Prop} {b L : Nat} {xs : Nat → Int32} (hts : ∀ w ∈ lw_tbl, w.before args s = true) (hf : ∀ w ∈ x_fl, w.before args s = true) (hA : ∀ a : Nat, a < s.heap.size → ¬ A a) (hX : va_X b L xs s s.heap) (hbl : b < s.heap.size) : ∃ ext : Nat → Value, ext 20 = .ref b ∧ ∀ (f : Nat → Nat) (t : Nat → ClassId) (D : va_G), e_F (f, ext, t, D) (L, xs) A s s.heap := by
  obtain ⟨ts, hts8⟩ := x_sts hts hf hA
  obtain ⟨adK, adV, hS, hev⟩ := x_strs hf hA
  have ho := x_oth
  simp only [Bool.and_eq_true, decide_eq_true_eq] at ho
  obtain ⟨v, hv, hZ⟩ : ∃ v : Value, e_refv v ∧ va_Z "jdk/internal/util/Preconditions" "SIOOBE_FORMATTER" "Ljava/util/function/BiFunction;" v A s s.heap := by
    rcases va_Zqof (hts _ (x_in (i := 6) (j := 90) rfl)) (hts _ (x_in (i := 1) (j := 29) rfl)) (hf _ ho.2.1) hA with h | ⟨t, h⟩
    · exact ⟨.null, Or.inl rfl, h⟩
    · exact ⟨.ref t, Or.inr ⟨t, rfl⟩, h⟩
  refine ⟨x_g adK adV ts b v, x_g4, fun f t D => ⟨x_g6 hv, va_Zof (hts _ (x_in (i := 6) (j := 74) rfl)) (hts _ (x_in (i := 1) (j := 18) rfl)) (va_eqi (hf _ ho.1)) hA, hZ, fun i r hr => ?_, ⟨adV, ⟨fun i hi => ?_, fun i j hi hj e => ?_⟩, fun j hj => ⟨?_, x_g2 hj⟩⟩, fun j r hr => ?_, vx_Zqof (hts _ (x_in (i := 3) (j := 33) rfl)) (hts _ (x_in (i := 1) (j := 13) rfl)) (hf _ ho.2.2.1) hA, vx_Zqof (hts _ (x_in (i := 3) (j := 35) rfl)) (hts _ (x_in (i := 1) (j := 13) rfl)) (hf _ ho.2.2.2) hA, fun w hw => va_Nw.of rfl (hts _ (x_nest w hw)), fun q hq => va_Nc.of (hf _ (of_decide_eq_true (List.all_eq_true.mp x_ncs q hq))), ⟨fun E hE => va_Nw.of rfl (hts _ (x_cast E hE)), fun y hy => va_Nw.of rfl (hts _ (x_dcl y hy))⟩, va_AO.of (hts _ (x_in (i := 1) (j := 212) rfl)), b, rfl, hX, hA b hbl, hbl⟩⟩
  · have hi : i < 8 := (List.getElem?_eq_some_iff.mp hr).1
    have h := hts8 i r hr
    show va_Z _ _ _ (x_g adK adV ts b v (10 + i)) A s s.heap ∧ ∃ t, x_g adK adV ts b v (10 + i) = .ref t ∧ _
    rw [x_g3 hi]
    exact ⟨h.1, ts i, rfl, h.2⟩
  · show va_O _ (e_adr (x_g adK adV ts b v i)) A s s.heap ∧ va_OF _ _ _ _ (e_adr (x_g adK adV ts b v i)) A s s.heap ∧ va_OF _ _ _ _ (e_adr (x_g adK adV ts b v i)) A s s.heap ∧ _
    rw [x_g1 hi]
    exact hS.1 i hi
  · have e2 : e_adr (x_g adK adV ts b v i) = e_adr (x_g adK adV ts b v j) := e
    rw [x_g1 hi, x_g1 hj] at e2
    exact hS.2 i j hi hj e2
  · show x_g adK adV ts b v j = .ref (e_adr (x_g adK adV ts b v j))
    rw [x_g1 hj]
    rfl
  · have hj : j < 3 := (List.getElem?_eq_some_iff.mp hr).1
    show vk_R r.1 r.2.1 r.2.2 (e_adr (x_g adK adV ts b v j)) s
    rw [x_g1 hj]
    have h2 := hev j hj
    have e : e_srefs.getD j ("", 0, "") = r := by rw [List.getD_eq_getElem?_getD, hr]; rfl
    unfold x_tm at h2
    rw [e] at h2
    exact vk_R.of (hts _ (x_sref r (List.mem_of_getElem? hr))) h2
theorem x_walk {p : Program} {e : Env} {s : State} {m : MethodId} {below : List Frame} {meth : Method} {c : Code} (l : Launch) (hst : l.stackTraces = false) {b L : Nat} {xs : Nat → Int32} (hL : L ≤ 2560) (hx : p.tables.exec = Jvm.exec) (hb : c.code = code) (hr : meth.sig.returnType = ret) (hml : c.maxLocals = 9) (hown : s.vm.findClass "HexCampaignLaw" = some m.cls) (hts : ∀ w ∈ lw_tbl, w.before #[Value.ref b] s = true) (hX : va_X b L xs s s.heap) (hbl : b < s.heap.size) (hlocks : meth.locks = false) (hgv : (Jvm.Cond.and given_1 narrow_1).before #[Value.ref b] s = true) (hname : meth.name = "law") (htab : c.exceptionTable.toList = []) :
    W p l e room_1 s m #[Value.ref b] below meth c s.heap [] 0 0 (vx_MQ below (fun _ _ o _ => o = .returned (some (.int 1))) (fun _ _ _ => False) #[Value.ref b] s 603072 7207018 (fun q => s.heap.size ≤ q)) (entryFrame m ([Value.ref b] : List Value).toArray 9) := by
  have hf := flat_of_before _ hgv
  have hA : ∀ a : Nat, a < s.heap.size → ¬ (fun q : Nat => s.heap.size ≤ q) a := fun a h h2 => absurd h2 (Nat.not_le.mpr h)
  obtain ⟨ext, hext, hF⟩ := x_F (A := fun q : Nat => s.heap.size ≤ q) hts hf hA hX hbl
  obtain ⟨D, hD⟩ := x_cls hts
  obtain ⟨t, ht⟩ := x_tys (hts _ (x_in (i := 1) (j := 111) rfl)) (hts _ (x_in (i := 1) (j := 67) rfl)) (hts _ (x_in (i := 2) (j := 13) rfl)) (hts _ (x_in (i := 8) (j := 93) rfl)) (hts _ (x_in (i := 1) (j := 212) rfl))
  rw [lg_entry_eq]
  have hl := lv_entry ([.ref b]) (n := 9) (Nat.le_of_ble_eq_true rfl)
  generalize (lg_sl ([.ref b]) ++ List.replicate (9 - (lg_sl ([.ref b])).length) Slot.unset).toArray = ls at hl ⊢
  have hP0 : va_P D e_cls (e_ws (fun _ => 0, ext, t, D) ([], oI0, oL0, oD0, (L, xs), true)) s.heap := fun k q h => by
    have h2 : ([] : List (Nat × va_E))[k]? = some q := h
    simp at h2
  have hD0 : va_D (fun q : Nat => s.heap.size ≤ q) (e_ws (fun _ => 0, ext, t, D) ([], oI0, oL0, oD0, (L, xs), true)) := ⟨fun i j p q h => by
    have h2 : ([] : List (Nat × va_E))[i]? = some p := h
    simp at h2, fun k q h => by
    have h2 : ([] : List (Nat × va_E))[k]? = some q := h
    simp at h2⟩
  refine q_law (sc := (L, xs)) hL p l e room_1 s m #[Value.ref b] below meth c (fun _ => 0, ext, t, D) (fun q => s.heap.size ≤ q) s.heap [] 0 0 603072 7207018 ls _ _ ⟨hx, hb, hml, hown, fun w hw => hts w (List.mem_filter.mp hw).1, hr, hlocks, hname, htab, rfl, rfl, rfl, rfl, hst, fun q h => h, ⟨hD, ht⟩, hF _ _ _⟩ ⟨hP0, hD0⟩ va_S.rf (e_lmono hl ?_) rfl (Nat.le_refl _) (Nat.le_refl _) ⟨fun v g' h' t' hq _ _ _ => ?_, fun E g' h' t' hq _ _ _ => ?_⟩
  · rintro ⟨i, w⟩ hq
    obtain ⟨v, hv, rfl⟩ := e_as_mem.mp hq
    match i, hv with
    | 0, hv =>
      cases hv
      show (0, ext 20) ∈ lv_args 0 [Value.ref b]
      rw [hext]
      exact List.mem_cons_self
    | (n + 1), hv =>
      match n, hv with
      | 0, hv => cases hv
      | 1, hv => cases hv
      | 2, hv => cases hv
      | 3, hv => cases hv
      | 4, hv => cases hv
      | 5, hv => cases hv
      | 6, hv => cases hv
      | 7, hv => cases hv
      | (n + 8), hv => cases hv
  · cases hq
    rfl
  · cases hq
