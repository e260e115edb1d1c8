/-! the reference: units, cells, zones, room -/
theorem xt14 : ∀ w : Fin 3, e_xt 14 w.1 = Int32.ofNat (([4, 2, 3] : List Nat).getD w.1 0) := by decide +kernel
theorem xt15 : ∀ t : Fin 6, e_xt 15 t.1 = Int32.ofNat (gHt t.1) := by decide +kernel
theorem xt16 : ∀ t : Fin 5, ∀ w : Fin 3, e_xt 16 (5 * w.1 + t.1) = Int32.ofNat (gPrice t.1 w.1) := by decide +kernel
theorem src_sar : ∀ n : Fin 4, ∀ d : Fin 2, decide ((Int32.ofNat n.1 >>> (Int32.ofNat d.1 &&& 31)) &&& 1 = 1) = n.1.testBit d.1 := by decide +kernel
theorem andL1 (x : Int64) : x &&& (-1) = x := by
  rw [sL_neg1, sL_of x, sL_and]
  apply sL_congr
  intro i _
  exact Bool.and_true _
theorem countP_s (f : Nat → Bool) (i : Nat) : (List.range (i + 1)).countP f = (List.range i).countP f + if f i then 1 else 0 := by
  rw [List.range_succ, List.countP_append, List.countP_singleton]
theorem all_s (f : Nat → Bool) (i : Nat) : (List.range (i + 1)).all f = ((List.range i).all f && f i) := by
  simp [List.range_succ]
theorem countP_up {f : Nat → Bool} {n : Nat} (hz : ∀ u, n ≤ u → f u = false) (m : Nat) (hm : n ≤ m) : (List.range m).countP f = (List.range n).countP f := by
  rw [← countP_sum, ← countP_sum]
  exact sum_up (fun u hu => by rw [hz u hu]; rfl) m hm
theorem all_up {f : Nat → Bool} {n : Nat} (hz : ∀ u, n ≤ u → f u = true) : ∀ m, n ≤ m → (List.range m).all f = (List.range n).all f := by
  intro m hm
  induction m with
  | zero => rw [Nat.le_zero.mp hm]
  | succ m ih =>
    by_cases h : n = m + 1
    · rw [h]
    · rw [all_s, hz m (by omega), Bool.and_true, ih (by omega)]
theorem countP_le (f : Nat → Bool) (n : Nat) : (List.range n).countP f ≤ n := by
  have := List.countP_le_length (p := f) (l := List.range n)
  rwa [List.length_range] at this
section
variable {I : e_TI} {L : e_TL} {D : e_TD} {sc : e_TS} {s : Nat → Int32}
theorem gU_no (h : MR I s) {u : Nat} (hu : gMa s ≤ u) : gU s u = false := by
  unfold gU
  rw [decide_eq_false (by omega), Bool.false_and]
theorem gOwn_no (h : MR I s) {d u : Nat} (hu : gMa s ≤ u) : gOwn s d u = false := by
  unfold gOwn
  rw [gU_no h hu, Bool.false_and]
theorem gOn_no (h : MR I s) {c u : Nat} (hu : gMa s ≤ u) : gOn s c u = false := by
  unfold gOn
  rw [gU_no h hu, Bool.false_and]
theorem s_M_unitsOf {Ψ : Int32 → e_TI → e_TL → e_TD → Prop} (h : MR I s) {d : Nat} (hd : d ≤ 1) (H : Ψ (sI (gOwn s d)) I L D) : e_M 252 [.ref 139, .int (Int32.ofNat d)] (S0 I L D sc) (e_rI sc Ψ) := by
  have hm := h.ma
  refine vM_unitsOf (loop_I (G := fun y i => e_Wp 252 4 [some (.ref 139), some (.int (Int32.ofNat d)), some (.int y), some (.int i)] [] (S0 I L D sc) 0 0 (e_rI sc Ψ)) (fun u v => gOwn s d u && u == v) (gMa s) (fun i y hi K0 K1 => ?_) ?_)
  · refine vM_unitsOf_p4 (bx_f (h.go hi) (s_M_isOf h (by omega) hd (bx_b (fun h0 => ?_) (fun h1 => ?_))))
    · rw [orI0]
      exact K0 (fun v _ => by rw [h0, Bool.false_and])
    · rw [sI_only i (by omega)]
      refine K1 _ (fun v _ => ?_)
      rw [h1, Bool.true_and]
      exact BEq.comm
  · refine vM_unitsOf_p4 (bx_t h.end ?_)
    rw [gather_I (gOwn s d), sI_congr (q := gOwn s d)]
    · exact H
    · intro u _
      cases hu : gOwn s d u with
      | false => rw [Bool.and_false]
      | true => rw [decide_eq_true (gU_lt (gOwn_U hu)), Bool.true_and]
theorem s_M_cellsOf {Ψ : Int64 → e_TI → e_TL → e_TD → Prop} (h : MR I s) {q : Nat → Bool} (H : Ψ (sL (gCells s q)) I L D) : e_M 253 [.ref 139, .int (sI q)] (S0 I L D sc) (e_rL sc Ψ) := by
  have hm := h.ma
  refine vM_cellsOf (loop_L (G := fun y i => e_Wp 253 5 [some (.ref 139), some (.int (sI q)), some (.long y), none, some (.int i)] [] (S0 I L D sc) 0 0 (e_rL sc Ψ)) (fun u c => q u && gU s u && gPl s u == c) (gMa s) (fun i y hi K0 K1 => ?_) ?_)
  · refine vM_cellsOf_p5 (bx_f (h.go hi) ⟨fun hn => ?_, fun he => ?_⟩)
    · rw [sI_sar q i (by omega), Bool.not_eq_true] at hn
      rw [orL0]
      exact K0 (fun c _ => by rw [hn, Bool.false_and, Bool.false_and])
    · rw [Classical.not_not, sI_sar q i (by omega)] at he
      refine s_M_isU h (by omega) (bx_b (fun h0 => ?_) (fun h1 => s_M_pl h hi ?_))
      · rw [orL0]
        exact K0 (fun c _ => by rw [h0, Bool.and_false, Bool.false_and])
      · rw [sL_only _ (h.pl hi)]
        refine K1 _ (fun c _ => ?_)
        rw [he, h1, Bool.true_and, Bool.true_and]
        exact BEq.comm
  · refine vM_cellsOf_p5 (bx_t h.end ?_)
    rw [sL_congr (q := gCells s q)]
    · exact H
    · intro c _
      exact (any_up (n := gMa s) (fun u hu => by rw [gU_no h hu, Bool.and_false, Bool.false_and]) 16 hm).symm
theorem s_M_zone {Ψ : Int64 → e_TI → e_TL → e_TD → Prop} (h : MR I s) {q : Nat → Bool} (H : Ψ (sL (gZoneA s (gCells s q))) I L D) : e_M 254 [.ref 139, .int (sI q)] (S0 I L D sc) (e_rL sc Ψ) := by
  refine vM_zone (s_M_cellsOf h (s_M_around ?_))
  have key : ∀ i, i ≤ 63 → e_Wp 254 12 [some (.ref 139), some (.int (sI q)), some (.long (sL fun c => aro (gCells s q) c && !(decide (c < i) && (gTer s c == 5 || gTer s c == 4)))), none, some (.int (Int32.ofNat i))] [] (S0 I L D sc) 0 0 (e_rL sc Ψ) := by
    refine e_downInd 63 (fun i hi ih => ?_) ?_
    · obtain ⟨t1, t2⟩ := h.ter hi
      refine vM_zone_p12 (bx_f (b_ge hi) ⟨o_in (by omega), ?_⟩)
      rw [o_ix (by omega), t1, o_s]
      have out : (gTer s i == 5 || gTer s i == 4) = true → e_Wp 254 12 [some (.ref 139), some (.int (sI q)), some (.long ((sL fun c => aro (gCells s q) c && !(decide (c < i) && (gTer s c == 5 || gTer s c == 4))) &&& (((1 : Int64) <<< ((Int32.ofNat i).toInt64 &&& 63)) ^^^ (-1)))), none, some (.int (Int32.ofNat (i + 1)))] [] (S0 I L D sc) 0 0 (e_rL sc Ψ) := by
        intro ht
        rw [sL_only i hi, sL_not, sL_and]
        rw [sL_congr (q := fun c => aro (gCells s q) c && !(decide (c < i + 1) && (gTer s c == 5 || gTer s c == 4)))]
        · exact ih
        · intro c _
          by_cases hci : c = i
          · rw [hci, ht, decide_eq_true (show i < i + 1 by omega), beq_self_eq_true]
            simp
          · rw [beq_false_of_ne hci, show decide (c < i) = decide (c < i + 1) from by rw [decide_eq_decide]; omega]
            simp
      have inn : (gTer s i == 5 || gTer s i == 4) = false → e_Wp 254 12 [some (.ref 139), some (.int (sI q)), some (.long ((sL fun c => aro (gCells s q) c && !(decide (c < i) && (gTer s c == 5 || gTer s c == 4))) &&& (-1))), none, some (.int (Int32.ofNat (i + 1)))] [] (S0 I L D sc) 0 0 (e_rL sc Ψ) := by
        intro ht
        rw [andL1]
        rw [sL_congr (q := fun c => aro (gCells s q) c && !(decide (c < i + 1) && (gTer s c == 5 || gTer s c == 4)))]
        · exact ih
        · intro c _
          by_cases hci : c = i
          · rw [hci, ht, Bool.and_false, Bool.and_false]
          · rw [show decide (c < i) = decide (c < i + 1) from by rw [decide_eq_decide]; omega]
      refine ⟨fun h5 => out ?_, fun h5 => ⟨o_in (by omega), fun h4 => inn ?_, fun h4 => out ?_⟩⟩
      · rw [show gTer s i = 5 from (o_eq (b := 5) (by omega) (by decide)).mp h5]; rfl
      · have n5 : gTer s i ≠ 5 := fun e => h5 (by rw [e]; rfl)
        have n4 : gTer s i ≠ 4 := fun e => h4 (by rw [e]; rfl)
        rw [beq_false_of_ne n5, beq_false_of_ne n4]; rfl
      · rw [show gTer s i = 4 from (o_eq (b := 4) (by omega) (by decide)).mp (Classical.not_not.mp h4)]; rfl
    · refine vM_zone_p12 (bx_t (b_self 63) ?_)
      rw [sL_congr (q := gZoneA s (gCells s q))]
      · exact H
      · intro c _
        unfold gZoneA
        by_cases hc : c < 63
        · rw [decide_eq_true hc, Bool.true_and, Bool.not_or, Bool.and_assoc]
        · have : aro (gCells s q) c = false := by unfold aro; rw [decide_eq_false hc, Bool.false_and]
          rw [this]
          simp only [Bool.false_and]
  have k0 := key 0 (Nat.zero_le _)
  rw [sL_congr (q := aro (gCells s q)) (fun c _ => by rw [decide_eq_false (Nat.not_lt_zero c), Bool.false_and, Bool.not_false, Bool.and_true])] at k0
  exact k0
theorem s_M_sources {Ψ : Int64 → e_TI → e_TL → e_TD → Prop} (h : MR I s) {d : Nat} (hd : d ≤ 1) (H : Ψ (sL (gSrc s d)) I L D) : e_M 255 [.ref 139, .int (Int32.ofNat d)] (S0 I L D sc) (e_rL sc Ψ) := by
  refine vM_sources (loop_L (G := fun y i => e_Wp 255 5 [some (.ref 139), some (.int (Int32.ofNat d)), some (.long y), none, some (.int i)] [] (S0 I L D sc) 0 0 (e_rL sc Ψ)) (fun c b => gSrc s d c && c == b) 63 (fun i y hi K0 K1 => ?_) ?_)
  · have hg := (h.1.1 i hi).2.2.1
    have e : (126 : Int32) + Int32.ofNat i = Int32.ofNat (126 + i) := by rw [show (126 : Int32) = Int32.ofNat 126 from rfl, o_add]
    have hb : decide ((Int32.ofNat (gn s (126 + i)) >>> (Int32.ofNat d &&& 31)) &&& 1 = 1) = gSrc s d i := by
      have h2 := hg.2
      rw [src_sar ⟨gn s (126 + i), by omega⟩ ⟨d, by omega⟩]
      unfold gSrc
      rw [decide_eq_true hi, Bool.true_and]
    refine vM_sources_p5 (bx_f (b_ge hi) ?_)
    rw [e, o_ix (by omega), h.2, hg.1]
    refine ⟨o_in (by omega), fun hn => ?_, fun he => ?_⟩
    · rw [decide_eq_false hn] at hb
      rw [orL0]
      exact K0 (fun c _ => by rw [← hb, Bool.false_and])
    · rw [decide_eq_true (Classical.not_not.mp he)] at hb
      rw [sL_only i hi]
      refine K1 _ (fun c _ => ?_)
      rw [← hb, Bool.true_and]
      exact BEq.comm
  · refine vM_sources_p5 (bx_t (b_self 63) ?_)
    rw [gather_L (gSrc s d), sL_congr (q := gSrc s d)]
    · exact H
    · intro c _
      unfold gSrc
      rw [← Bool.and_assoc, Bool.and_self]
theorem s_M_closed {Ψ : Int64 → e_TI → e_TL → e_TD → Prop} (h : MR I s) {d : Nat} (hd : d ≤ 1) (H : Ψ (sL (gClosed s d)) I L D) : e_M 256 [.ref 139, .int (Int32.ofNat d)] (S0 I L D sc) (e_rL sc Ψ) := by
  refine vM_closed (loop_L (G := fun y i => e_Wp 256 5 [some (.ref 139), some (.int (Int32.ofNat d)), some (.long y), none, some (.int i)] [] (S0 I L D sc) 0 0 (e_rL sc Ψ)) (fun c b => gWat s c && c == b) 63 (fun i y hi K0 K1 => ?_) ?_)
  · obtain ⟨t1, t2⟩ := h.ter hi
    refine vM_closed_p5 (bx_f (b_ge hi) ⟨o_in (by omega), ?_⟩)
    rw [o_ix (by omega), t1]
    refine ⟨fun hn => ?_, fun he => ?_⟩
    · have n5 : gTer s i ≠ 5 := fun e => hn (by rw [e]; rfl)
      rw [orL0]
      refine K0 (fun c _ => ?_)
      unfold gWat
      rw [beq_false_of_ne n5, Bool.and_false, Bool.false_and]
    · have e5 := (o_eq (b := 5) (by omega) (by decide)).mp (Classical.not_not.mp he)
      rw [sL_only i hi]
      refine K1 _ (fun c _ => ?_)
      unfold gWat
      rw [e5, decide_eq_true hi]
      exact BEq.comm
  · refine vM_closed_p5 (bx_t (b_self 63) ?_)
    have e : (1 : Int32) - Int32.ofNat d = Int32.ofNat (1 - d) := o_sub (a := 1) hd
    rw [e]
    refine s_M_unitsOf h (by omega) (s_M_cellsOf h (s_M_zone h (s_M_unitsOf h hd (s_M_cellsOf h ?_))))
    rw [gather_L (gWat s), sL_not, sL_or, sL_and, sL_or]
    rw [sL_congr (q := gClosed s d)]
    · exact H
    · intro c _
      unfold gClosed gZone gWat
      rw [← Bool.and_assoc (decide (c < 63)), Bool.and_self]
theorem s_M_stepCost {Ψ : Int32 → e_TI → e_TL → e_TD → Prop} (h : MR I s) {a b : Nat} (ha : a < 63) (hb : b < 63) (ht : gTer s b < 5) (H : Ψ (Int32.ofNat (gStepC s a b)) I L D) : e_M 257 [.ref 139, .int (Int32.ofNat a), .int (Int32.ofNat b)] (S0 I L D sc) (e_rI sc Ψ) := by
  have rd : ∀ c, c < 63 → I 140 (63 + c) = e_b (gRd s c) := by
    intro c hc
    rw [h.2, gb_b (h.1.1 c hc).2.1]
    unfold gRd
    rw [decide_eq_true hc, Bool.true_and]
  have e63 : ∀ c, (63 : Int32) + Int32.ofNat c = Int32.ofNat (63 + c) := fun c => by rw [show (63 : Int32) = Int32.ofNat 63 from rfl, o_add]
  obtain ⟨t1, t2⟩ := h.ter hb
  obtain ⟨w1, w2⟩ := h.wx
  have ei : (5 * I 140 189) + I 140 (Int32.ofNat b).toNatClampNeg = Int32.ofNat (5 * gWx s + gTer s b) := by
    rw [o_ix (by omega), t1, w1, show (5 : Int32) = Int32.ofNat 5 from rfl, o_mul, o_add]
  have ex : e_xt 16 (5 * gWx s + gTer s b) = Int32.ofNat (gPrice (gTer s b) (gWx s)) := xt16 ⟨gTer s b, ht⟩ ⟨gWx s, by omega⟩
  have one : ∀ x : Bool, (e_b x = 1) ↔ x = true := by decide
  unfold gStepC at H
  refine vM_stepCost ?_
  rw [e63, e63, o_ix (a := 63 + a) (by omega), o_ix (a := 63 + b) (by omega), rd a ha, rd b hb, ei, o_ix (a := 5 * gWx s + gTer s b) (by omega), ex, one, one]
  refine ⟨o_in (by omega), fun hn => ⟨o_in (by omega), o_in (by omega), ?_⟩, fun he => ⟨o_in (by omega), fun hn => ⟨o_in (by omega), o_in (by omega), ?_⟩, fun he2 => ?_⟩⟩
  · rw [Bool.not_eq_true] at hn
    rw [hn, Bool.false_and, if_neg (by decide)] at H
    exact H
  · rw [Bool.not_eq_true] at hn
    rw [hn, Bool.and_false, if_neg (by decide)] at H
    exact H
  · rw [Classical.not_not.mp he, Classical.not_not.mp he2, if_pos (by rfl)] at H
    exact H
theorem s_M_strengthOn {Ψ : Int32 → e_TI → e_TL → e_TD → Prop} (h : MR I s) {c : Nat} (hc : c < 63) (H : Ψ (Int32.ofNat (gStr s (gOn s c))) I L D) : e_M 237 [.ref 139, .int (Int32.ofNat c)] (S0 I L D sc) (e_rI sc Ψ) := by
  have hm := h.ma
  refine vM_strengthOn (loop_S (G := fun y i => e_Wp 237 4 [some (.ref 139), some (.int (Int32.ofNat c)), some (.int y), some (.int i)] [] (S0 I L D sc) 0 0 (e_rI sc Ψ)) 0 (fun u => if gOn s c u && gU s u then gSt s u else 0) (gMa s) (fun i y hi K0 K1 => ?_) ?_)
  · refine vM_strengthOn_p4 (bx_f (h.go hi) (s_M_isU h (by omega) (bx_b (fun h0 => ?_) (fun h1 => s_M_pl h hi ⟨fun hn => ?_, fun he => s_M_st h hi ?_⟩))))
    · rw [addI0]
      exact K0 (by rw [h0, Bool.and_false]; rfl)
    · rw [addI0]
      refine K0 ?_
      unfold gOn
      rw [beq_false_of_ne (fun e => hn (by rw [e])), Bool.and_false]
      rfl
    · have hp := h.pl hi
      have e := (o_eq (by omega) (by omega)).mp (Classical.not_not.mp he)
      have : (gOn s c i && gU s i) = true := by
        unfold gOn
        rw [h1, e, beq_self_eq_true]
        rfl
      simp only [this, if_true] at K1
      exact K1
  · refine vM_strengthOn_p4 (bx_t h.end ?_)
    rw [Nat.zero_add, ← sum_up (n := gMa s) (fun u hu => by rw [gU_no h hu, Bool.and_false]; rfl) 16 hm]
    exact H
theorem s_M_hasRoom {Ψ : Int32 → e_TI → e_TL → e_TD → Prop} (h : MR I s) {q p : Nat → Bool} {x : Int32} {c d n : Nat} (hc : c < 63) (hd : d ≤ 1) (hn : n ≤ 9) (hp : ∀ u, u < 16 → p u = (q u && !decide (Int32.ofNat u = x))) (H : Ψ (e_b (gRoom s p c d n)) I L D) : e_M 262 [.ref 139, .int (Int32.ofNat c), .int x, .int (Int32.ofNat d), .int (Int32.ofNat n), .int (sI q)] (S0 I L D sc) (e_rI sc Ψ) := by
  have hm := h.ma
  have b9 : ∀ i, ((List.range i).map fun u => if p u && gOn s c u then gSt s u else 0).sum ≤ i * 9 := sum_le (fun u => by
    by_cases hq : (p u && gOn s c u) = true
    · rw [if_pos hq]
      exact h.st (gU_lt (gOn_U (Bool.and_eq_true _ _ ▸ hq).2))
    · rw [if_neg hq]
      exact Nat.zero_le _)
  have key : ∀ i, i ≤ gMa s → e_Wp 262 13 [some (.ref 139), some (.int (Int32.ofNat c)), some (.int x), some (.int (Int32.ofNat d)), some (.int (Int32.ofNat n)), some (.int (sI q)), some (.int (Int32.ofNat ((List.range i).countP fun u => p u && gOn s c u))), some (.int (Int32.ofNat (n + ((List.range i).map fun u => if p u && gOn s c u then gSt s u else 0).sum))), some (.int (e_b ((List.range i).all fun u => !(p u && gOn s c u) || gSd s u == d))), some (.int (Int32.ofNat i))] [] (S0 I L D sc) 0 0 (e_rI sc Ψ) := by
    refine e_downInd (gMa s) (fun i hi ih => ?_) ?_
    · rw [countP_s, sum_s, all_s] at ih
      have skip : (p i && gOn s c i) = false → e_Wp 262 13 [some (.ref 139), some (.int (Int32.ofNat c)), some (.int x), some (.int (Int32.ofNat d)), some (.int (Int32.ofNat n)), some (.int (sI q)), some (.int (Int32.ofNat ((List.range i).countP fun u => p u && gOn s c u))), some (.int (Int32.ofNat (n + ((List.range i).map fun u => if p u && gOn s c u then gSt s u else 0).sum))), some (.int (e_b ((List.range i).all fun u => !(p u && gOn s c u) || gSd s u == d))), some (.int (Int32.ofNat i + 1))] [] (S0 I L D sc) 0 0 (e_rI sc Ψ) := by
        intro h0
        rw [o_s]
        rw [h0, if_neg (by decide), if_neg (by decide), Bool.not_false, Bool.true_or, Bool.and_true, Nat.add_zero, Nat.add_zero] at ih
        exact ih
      refine vM_hasRoom_p13 (bx_f (h.go hi) ⟨fun hx => skip ?_, fun hx => ⟨fun hn => skip ?_, fun he => s_M_isU h (by omega) (bx_b (fun h0 => skip ?_) (fun h1 => s_M_pl h hi ⟨fun hn => skip ?_, fun he2 => ?_⟩))⟩⟩)
      · rw [hp i (by omega), decide_eq_true hx, Bool.not_true, Bool.and_false, Bool.false_and]
      · rw [sI_sar q i (by omega), Bool.not_eq_true] at hn
        rw [hp i (by omega), hn, Bool.false_and, Bool.false_and]
      · unfold gOn
        rw [h0, Bool.false_and, Bool.and_false]
      · unfold gOn
        rw [beq_false_of_ne (fun e => hn (by rw [e])), Bool.and_false, Bool.and_false]
      · have hpl := h.pl hi
        have hs := h.sd hi
        rw [Classical.not_not, sI_sar q i (by omega)] at he
        have e := (o_eq (by omega) (by omega)).mp (Classical.not_not.mp he2)
        have hon : (p i && gOn s c i) = true := by
          unfold gOn
          rw [hp i (by omega), he, decide_eq_false hx, h1, e, beq_self_eq_true]
          rfl
        rw [hon, if_pos rfl, if_pos rfl, Bool.not_true, Bool.false_or, ← Nat.add_assoc] at ih
        refine bx_b (fun ha => s_M_st h hi ?_) (fun ha => s_M_sd h hi ⟨fun hn => s_M_st h hi ?_, fun he3 => s_M_st h hi ?_⟩)
        · rw [ha, Bool.false_and] at ih
          rw [o_s, o_s, o_add]
          exact ih
        · rw [beq_false_of_ne (fun e => hn (by rw [e])), Bool.and_false] at ih
          rw [o_s, o_s, o_add]
          exact ih
        · have e3 := (o_eq (by omega) (by omega)).mp (Classical.not_not.mp he3)
          rw [ha, e3, beq_self_eq_true] at ih
          rw [o_s, o_s, o_add]
          exact ih
    · have e1 : (List.range 16).all (fun u => !(p u && gOn s c u) || gSd s u == d) = (List.range (gMa s)).all (fun u => !(p u && gOn s c u) || gSd s u == d) := all_up (fun u hu => by rw [gOn_no h hu, Bool.and_false]; rfl) 16 hm
      have e2 : (List.range 16).countP (fun u => p u && gOn s c u) = (List.range (gMa s)).countP (fun u => p u && gOn s c u) := countP_up (fun u hu => by rw [gOn_no h hu, Bool.and_false]) 16 hm
      have e3 : ((List.range 16).map fun u => if p u && gOn s c u then gSt s u else 0).sum = ((List.range (gMa s)).map fun u => if p u && gOn s c u then gSt s u else 0).sum := sum_up (fun u hu => by rw [gOn_no h hu, Bool.and_false]; rfl) 16 hm
      unfold gRoom at H
      rw [e1, e2, e3] at H
      have c1 := countP_le (fun u => p u && gOn s c u) (gMa s)
      have c2 := b9 (gMa s)
      have c3 : ((List.range (gMa s)).map fun u => if p u && gOn s c u then gSt s u else 0).sum ≤ 144 := Nat.le_trans c2 (by omega)
      refine vM_hasRoom_p13 (bx_t h.end (bx_b (fun h0 => ?_) (fun h1 => ?_)))
      · rw [h0, Bool.false_and, Bool.false_and] at H
        exact H
      · rw [h1, Bool.true_and] at H
        refine ⟨fun h2 => ?_, fun h2 => ⟨fun h3 => ?_, fun h3 => ?_⟩⟩
        · have := (o_lt (a := 2) (by decide) (by omega)).mp h2
          rw [decide_eq_false (by omega), Bool.false_and] at H
          exact H
        · have := (o_lt (a := 12) (by decide) (by omega)).mp h3
          rw [decide_eq_false (p := _ + n ≤ 12) (by omega), Bool.and_false] at H
          exact H
        · have k2 : ¬ 2 < (List.range (gMa s)).countP (fun u => p u && gOn s c u) := fun hh => h2 ((o_lt (a := 2) (by decide) (by omega)).mpr hh)
          have k3 : ¬ 12 < n + ((List.range (gMa s)).map fun u => if p u && gOn s c u then gSt s u else 0).sum := fun hh => h3 ((o_lt (a := 12) (by decide) (by omega)).mpr hh)
          rw [decide_eq_true (by omega), decide_eq_true (by omega)] at H
          exact H
  exact vM_hasRoom (key 0 (Nat.zero_le _))
theorem s_M_unitAt {Ψ : Int32 → e_TI → e_TL → e_TD → Prop} {u : Nat} (f : Nat) (H : Ψ (Int32.ofNat (205 + 6 * u + f)) I L D) : e_M 263 [.int (Int32.ofNat u), .int (Int32.ofNat f)] (S0 I L D sc) (e_rI sc Ψ) := by
  have e : (205 + 6 * Int32.ofNat u) + Int32.ofNat f = Int32.ofNat (205 + 6 * u + f) := by
    rw [show (205 : Int32) = Int32.ofNat 205 from rfl, show (6 : Int32) = Int32.ofNat 6 from rfl, o_mul, o_add, o_add]
  refine vM_unitAt ?_
  rw [e]
  exact H
end
