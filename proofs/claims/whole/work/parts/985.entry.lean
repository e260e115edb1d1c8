/-! what the Statement gives of the start, as the abstract machine wants it; the walk of the law -/
theorem x_in {i j : Nat} {w : Cond} (h : (e_ch i)[j]? = some w) : w ∈ lw_tbl := e_ch_in _ _ (List.mem_of_getElem? h)
abbrev x_fl : List Cond := flatC (Jvm.Cond.and given_1 narrow_1)
theorem x_lays : ∀ r ∈ e_sts, Cond.laysStatic r.1 r.2.1 "[I" ∈ lw_tbl ∧ Cond.initialized r.1 ∈ lw_tbl := List.forall_mem_cons.mpr ⟨⟨x_in (i := 2) (j := 175) rfl, x_in (i := 1) (j := 4) rfl⟩, List.forall_mem_cons.mpr ⟨⟨x_in (i := 4) (j := 28) rfl, x_in (i := 1) (j := 3) rfl⟩, List.forall_mem_cons.mpr ⟨⟨x_in (i := 4) (j := 134) rfl, x_in (i := 1) (j := 4) rfl⟩, List.forall_mem_cons.mpr ⟨⟨x_in (i := 5) (j := 139) rfl, x_in (i := 1) (j := 4) rfl⟩, List.forall_mem_cons.mpr ⟨⟨x_in (i := 7) (j := 75) rfl, x_in (i := 1) (j := 11) rfl⟩, List.forall_mem_cons.mpr ⟨⟨x_in (i := 7) (j := 97) rfl, x_in (i := 1) (j := 11) rfl⟩, List.forall_mem_cons.mpr ⟨⟨x_in (i := 7) (j := 142) rfl, x_in (i := 1) (j := 11) rfl⟩, List.forall_mem_cons.mpr ⟨⟨x_in (i := 8) (j := 15) rfl, x_in (i := 1) (j := 11) rfl⟩, fun _ h => absurd h List.not_mem_nil⟩⟩⟩⟩⟩⟩⟩⟩
theorem x_nest : ∀ w ∈ e_nest, Cond.methodLinkNest w.1 w.2.1 w.2.2.1 w.2.2.2 ∈ lw_tbl := List.forall_mem_cons.mpr ⟨x_in (i := 1) (j := 47) rfl, List.forall_mem_cons.mpr ⟨x_in (i := 1) (j := 53) rfl, List.forall_mem_cons.mpr ⟨x_in (i := 1) (j := 70) rfl, List.forall_mem_cons.mpr ⟨x_in (i := 1) (j := 157) rfl, List.forall_mem_cons.mpr ⟨x_in (i := 1) (j := 204) rfl, List.forall_mem_cons.mpr ⟨x_in (i := 1) (j := 213) rfl, List.forall_mem_cons.mpr ⟨x_in (i := 1) (j := 226) rfl, List.forall_mem_cons.mpr ⟨x_in (i := 2) (j := 2) rfl, fun _ h => absurd h List.not_mem_nil⟩⟩⟩⟩⟩⟩⟩⟩
theorem x_cast : ∀ E ∈ e_exc, Cond.castable E E ∈ lw_tbl := List.forall_mem_cons.mpr ⟨x_in (i := 3) (j := 106) rfl, List.forall_mem_cons.mpr ⟨x_in (i := 3) (j := 127) rfl, List.forall_mem_cons.mpr ⟨x_in (i := 3) (j := 147) rfl, List.forall_mem_cons.mpr ⟨x_in (i := 3) (j := 224) rfl, List.forall_mem_cons.mpr ⟨x_in (i := 5) (j := 66) rfl, List.forall_mem_cons.mpr ⟨x_in (i := 5) (j := 231) rfl, fun _ h => absurd h List.not_mem_nil⟩⟩⟩⟩⟩⟩
theorem x_dcl : ∀ y ∈ e_dcl, Cond.declares y ∈ lw_tbl := List.forall_mem_cons.mpr ⟨x_in (i := 3) (j := 73) rfl, List.forall_mem_cons.mpr ⟨x_in (i := 3) (j := 75) rfl, List.forall_mem_cons.mpr ⟨x_in (i := 3) (j := 77) rfl, fun _ h => absurd h List.not_mem_nil⟩⟩⟩
theorem x_sref : ∀ r ∈ e_srefs, Cond.stringRef r.1 r.2.1 r.2.2 ∈ lw_tbl := List.forall_mem_cons.mpr ⟨x_in (i := 6) (j := 61) rfl, List.forall_mem_cons.mpr ⟨x_in (i := 6) (j := 113) rfl, List.forall_mem_cons.mpr ⟨x_in (i := 8) (j := 72) rfl, fun _ h => absurd h List.not_mem_nil⟩⟩⟩
theorem x_inst : ∀ ci, ci < 10 → Cond.instantiable (e_cN ci) (e_cK ci) ∈ lw_tbl
  | 0, _ => x_in (i := 1) (j := 52) rfl
  | 1, _ => x_in (i := 1) (j := 69) rfl
  | 2, _ => x_in (i := 1) (j := 46) rfl
  | 3, _ => x_in (i := 1) (j := 156) rfl
  | 4, _ => x_in (i := 1) (j := 40) rfl
  | 5, _ => x_in (i := 1) (j := 206) rfl
  | 6, _ => x_in (i := 1) (j := 225) rfl
  | 7, _ => x_in (i := 2) (j := 1) rfl
  | 8, _ => x_in (i := 1) (j := 32) rfl
  | 9, _ => x_in (i := 6) (j := 170) rfl
  | (n + 10), h => absurd h (by omega)
def x_stw (r : String × String × List Int32) : List Cond := Cond.arrayOf (.static r.1 r.2.1 "[I") .int :: Cond.eq (.length (.static r.1 r.2.1 "[I")) (.int (Int32.ofNat r.2.2.length)) :: (List.range r.2.2.length).map (fun j => Cond.eq (.elem (.static r.1 r.2.1 "[I") (.int (Int32.ofNat j))) (.int (r.2.2.getD j 0)))
theorem x_stin : (e_sts.all fun r => decide (r.2.2.length < 2 ^ 31) && (x_stw r).all fun w => decide (w ∈ x_fl)) = true := by decide +kernel
def x_tm (i : Nat) : Term := .string (e_srefs.getD i ("", 0, "")).1 (e_srefs.getD i ("", 0, "")).2.1
def x_sw (i : Nat) : List Cond := Cond.exactly (x_tm i) "java/lang/String" :: Cond.eq (.field (x_tm i) "java/lang/String" "coder" "B") (.int 0) :: Cond.arrayOf (.field (x_tm i) "java/lang/String" "value" "[B") .byte :: Cond.eq (.length (.field (x_tm i) "java/lang/String" "value" "[B")) (.int (Int32.ofNat (e_slen.getD i 0))) :: (List.range (e_slen.getD i 0)).map (fun j => Cond.eq (.elem (.field (x_tm i) "java/lang/String" "value" "[B") (.int (Int32.ofNat j))) (.int ((e_sbyt.getD i []).getD j 0)))
theorem x_str0 : ((List.range 3).all fun i => decide (e_slen.getD i 0 < 2 ^ 31) && (x_sw i).all fun w => decide (w ∈ x_fl)) = true := by decide +kernel
theorem x_str1 : ((List.range 3).all fun i => (List.range 3).all fun j => decide (i = j) || (decide (Cond.not (Cond.eq (x_tm i) (x_tm j)) ∈ x_fl) || decide (Cond.not (Cond.eq (x_tm j) (x_tm i)) ∈ x_fl))) = true := by decide +kernel
theorem x_ncs : (e_nc.all fun q => decide (Cond.not (Cond.castable q.1 q.2) ∈ x_fl)) = true := by decide +kernel
theorem x_oth : (decide (Cond.eq (.static "java/lang/String" "COMPACT_STRINGS" "Z") (.int 1) ∈ x_fl) && (decide (Cond.isRef (.static "jdk/internal/util/Preconditions" "SIOOBE_FORMATTER" "Ljava/util/function/BiFunction;") ∈ x_fl) && (decide (Cond.isRef (.static Bundle.tN "UNASSIGNED_STACK" Bundle.steD) ∈ x_fl) && decide (Cond.isRef (.static Bundle.tN "SUPPRESSED_SENTINEL" Bundle.listD) ∈ x_fl)))) = true := by decide +kernel
section
variable {s : State} {args : Array Value} {A : Nat → Prop}
theorem x_sts (hts : ∀ w ∈ lw_tbl, w.before args s = true) (hf : ∀ w ∈ x_fl, w.before args s = true) (hA : ∀ a : Nat, a < s.heap.size → ¬ A a) : ∃ ts : Nat → Nat, ∀ (i : Nat) (r : String × String × List Int32), e_sts[i]? = some r → va_Z r.1 r.2.1 "[I" (.ref (ts i)) A s s.heap ∧ va_T .int (ts i) r.2.2.length (fun j => .int (r.2.2.getD j 0)) A s s.heap := by
  have h0 : ∀ i : Nat, ∃ t : Nat, ∀ r : String × String × List Int32, e_sts[i]? = some r → va_Z r.1 r.2.1 "[I" (.ref t) A s s.heap ∧ va_T .int t r.2.2.length (fun j => .int (r.2.2.getD j 0)) A s s.heap := by
    intro i
    cases hr : e_sts[i]? with
    | none => exact ⟨0, fun r h => by cases h⟩
    | some r =>
      have hm : r ∈ e_sts := List.mem_of_getElem? hr
      have hin := List.all_eq_true.mp x_stin r hm
      rw [Bool.and_eq_true] at hin
      have hw : ∀ w ∈ x_stw r, w.before args s = true := fun w hw => hf w (of_decide_eq_true (List.all_eq_true.mp hin.2 w hw))
      have hlay := x_lays r hm
      obtain ⟨t, ht, hT⟩ := va_Tof (f := fun j => .int (r.2.2.getD j 0)) (A := A) (of_decide_eq_true hin.1) (hw _ List.mem_cons_self) (va_eqt (hw _ (List.mem_cons_of_mem _ List.mem_cons_self))) (fun j hj => va_eqt (hw _ (List.mem_cons_of_mem _ (List.mem_cons_of_mem _ (List.mem_map.mpr ⟨j, List.mem_range.mpr hj, rfl⟩))))) hA
      refine ⟨t, fun r' h' => ?_⟩
      cases h'
      exact ⟨va_Zof (hts _ hlay.1) (hts _ hlay.2) ht hA, hT⟩
  obtain ⟨ts, h⟩ := Classical.axiomOfChoice h0
  exact ⟨ts, h⟩
theorem x_strs (hf : ∀ w ∈ x_fl, w.before args s = true) (hA : ∀ a : Nat, a < s.heap.size → ¬ A a) : ∃ adK adV : Nat → Nat, vk_S 3 e_slen e_sbyt adK adV A s s.heap ∧ ∀ i : Nat, i < 3 → (x_tm i).eval args s none [] s = some (.ref (adK i)) := by
  have hn : ∀ i, i < 3 → e_slen.getD i 0 < 2 ^ 31 := fun i hi => by
    have h := List.all_eq_true.mp x_str0 i (List.mem_range.mpr hi)
    rw [Bool.and_eq_true] at h
    exact of_decide_eq_true h.1
  have hw : ∀ i, i < 3 → ∀ w ∈ x_sw i, w.before args s = true := fun i hi w hw => by
    have h := List.all_eq_true.mp x_str0 i (List.mem_range.mpr hi)
    rw [Bool.and_eq_true] at h
    exact hf w (of_decide_eq_true (List.all_eq_true.mp h.2 w hw))
  refine vk_Sof hn (fun i hi => hw i hi _ List.mem_cons_self) (fun i hi => hw i hi _ (List.mem_cons_of_mem _ List.mem_cons_self)) (fun i hi => hw i hi _ (List.mem_cons_of_mem _ (List.mem_cons_of_mem _ List.mem_cons_self))) (fun i hi => hw i hi _ (List.mem_cons_of_mem _ (List.mem_cons_of_mem _ (List.mem_cons_of_mem _ List.mem_cons_self)))) (fun i hi j hj => hw i hi _ (List.mem_cons_of_mem _ (List.mem_cons_of_mem _ (List.mem_cons_of_mem _ (List.mem_cons_of_mem _ (List.mem_map.mpr ⟨j, List.mem_range.mpr hj, rfl⟩)))))) (fun i j hi hj hij => ?_) hA
  have h1 := List.all_eq_true.mp (List.all_eq_true.mp x_str1 i (List.mem_range.mpr hi)) j (List.mem_range.mpr hj)
  rw [decide_eq_false hij, Bool.false_or, Bool.or_eq_true] at h1
  exact h1.imp (fun h => hf _ (of_decide_eq_true h)) (fun h => hf _ (of_decide_eq_true h))
theorem x_cls (hts : ∀ w ∈ lw_tbl, w.before args s = true) : ∃ D : va_G, ∀ (c : Nat) (q : vw_C), e_cls[c]? = some q → u_Kn s q.1 q.2.1 q.2.2 (D.1 c) (D.2 c) := by
  have h0 : ∀ ci : Nat, ∃ p : ClassId × (Nat → Nat), ci < 10 → u_Kn s (e_cN ci) (e_cT ci) (e_cK ci) p.1 p.2 := by
    intro ci
    by_cases h : ci < 10
    · obtain ⟨cC, iS, hk⟩ := u_known (ws := e_tb) (C := e_cN ci) (T := e_cT ci) (N := e_cK ci) (n := e_cK ci) (fun w hw => hts w (List.mem_filter.mp hw).1) (e_clw ci h) (hts _ (x_inst ci h))
      exact ⟨(cC, iS), fun _ => hk⟩
    · exact ⟨(0, fun _ => 0), fun h2 => absurd h2 h⟩
  obtain ⟨f, hf⟩ := Classical.axiomOfChoice h0
  refine ⟨(fun c => (f c).1, fun c => (f c).2), fun c q hq => ?_⟩
  have hc : c < 10 := (List.getElem?_eq_some_iff.mp hq).1
  have e : e_cls.getD c ("", e_T [], 0) = q := by rw [List.getD_eq_getElem?_getD, hq]; rfl
  have := hf c hc
  unfold e_cN e_cT e_cK at this
  rw [e] at this
  exact this
theorem x_prim {ty : FieldType} (h : (Cond.arrayClass ty).before args s = true) : ∃ cA : ClassId, ArrOfT s cA ty ∧ s.vm.findClass ("[" ++ ty.toString) = some cA := by
  obtain ⟨c, k, comp, h1, h2, h3⟩ := Cond.arrayClass_spec h
  exact ⟨c, fun n z => ⟨fun k h => (by cases h), k, h2, comp, h3⟩, h1⟩
theorem x_obj {C : String} (h : (Cond.arrayOver (.object C)).before args s = true) : ∃ cA : ClassId, ArrOfT s cA (.object C) ∧ va_RA s cA (.object C) := by
  obtain ⟨comp, c, k, h1, h2, h3, h4, h5⟩ := Cond.arrayOver_spec h
  exact ⟨c, fun n z => ⟨fun k h => (by cases h), k, h3, comp, h4⟩, k, comp, h3, h4, h1, h5⟩
theorem x_tys (hI : (Cond.arrayClass .int).before args s = true) (hL : (Cond.arrayClass .long).before args s = true) (hC : (Cond.arrayClass .char).before args s = true) (hD : (Cond.arrayClass .double).before args s = true) (hG : (Cond.arrayOver (.object "HexCampaign$Game")).before args s = true) : ∃ t : Nat → ClassId, ∀ (k : Nat) (q : ClassId × FieldType), (e_tyt.mapIdx (fun i ty => (t i, ty)))[k]? = some q → ArrOfT s q.1 q.2 ∧ va_RA s q.1 q.2 := by
  obtain ⟨a, a1, a2⟩ := x_prim hI
  obtain ⟨b, b1, b2⟩ := x_prim hL
  obtain ⟨c, c1, c2⟩ := x_prim hC
  obtain ⟨d, d1, d2⟩ := x_prim hD
  obtain ⟨g, g1, g2⟩ := x_obj hG
  refine ⟨fun i => if i = 0 then a else if i = 1 then b else if i = 2 then c else if i = 3 then d else g, fun k q hq => ?_⟩
  rw [List.getElem?_mapIdx] at hq
  match k, hq with
  | 0, hq => cases hq; exact ⟨a1, a2⟩
  | 1, hq => cases hq; exact ⟨b1, b2⟩
  | 2, hq => cases hq; exact ⟨c1, c2⟩
  | 3, hq => cases hq; exact ⟨d1, d2⟩
  | 4, hq => cases hq; exact ⟨g1, g2⟩
  | (k + 5), hq => cases hq
end
