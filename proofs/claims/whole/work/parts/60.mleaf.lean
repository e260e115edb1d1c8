/-! the reference: its row of numbers, its leaves -/
def MR (I : e_TI) (s : Nat → Int32) : Prop := gok s ∧ I 140 = s
theorem sL_sar (p : Nat → Bool) (c : Nat) (hc : c < 63) : ((sL p >>> ((Int32.ofNat c).toInt64 &&& 63)) &&& 1 = 1) ↔ p c = true := by
  have h1 : (((Int32.ofNat c).toInt64 &&& 63).toBitVec.smod 64).toNat = c := by
    have h : ∀ c : Fin 63, (((Int32.ofNat c.1).toInt64 &&& 63).toBitVec.smod 64).toNat = c.1 := by decide +kernel
    exact h ⟨c, hc⟩
  have h2 : sL p >>> ((Int32.ofNat c).toInt64 &&& 63) = sL (fun i => if c + i < 64 then p (c + i) else p 63) := by
    apply Int64.toBitVec_inj.mp
    rw [Int64.toBitVec_shiftRight]
    show (gB 64 p).sshiftRight (((Int32.ofNat c).toInt64 &&& 63).toBitVec.smod 64).toNat = gB 64 _
    rw [h1]
    apply gB_ext
    intro i hi
    rw [BitVec.getLsbD_sshiftRight, BitVec.msb_eq_getLsbD_last, gB_bit, gB_bit, decide_eq_false (show ¬ 64 ≤ i by omega), decide_eq_true (show 64 - 1 < 64 by decide)]
    by_cases h3 : c + i < 64
    · rw [if_pos h3, if_pos h3, decide_eq_true h3]; rfl
    · rw [if_neg h3, if_neg h3]; rfl
  have h4 : (1 : Int64) = sL (fun i => i == 0) := by decide +kernel
  rw [h2, h4, sL_and]
  constructor
  · intro h
    have := sL_inj h 0 (by decide)
    rw [if_pos (by omega)] at this
    simpa using this
  · intro h
    apply sL_congr
    intro i hi
    by_cases h0 : i = 0
    · subst h0; rw [if_pos (by omega)]; simp [h]
    · simp [h0]
theorem sI_sar (p : Nat → Bool) (c : Nat) (hc : c < 31) : ((sI p >>> (Int32.ofNat c &&& 31)) &&& 1 = 1) ↔ p c = true := by
  have h1 : ((Int32.ofNat c &&& 31).toBitVec.smod 32).toNat = c := by
    have h : ∀ c : Fin 31, ((Int32.ofNat c.1 &&& 31).toBitVec.smod 32).toNat = c.1 := by decide +kernel
    exact h ⟨c, hc⟩
  have h2 : sI p >>> (Int32.ofNat c &&& 31) = sI (fun i => if c + i < 32 then p (c + i) else p 31) := by
    apply Int32.toBitVec_inj.mp
    rw [Int32.toBitVec_shiftRight]
    show (gB 32 p).sshiftRight ((Int32.ofNat c &&& 31).toBitVec.smod 32).toNat = gB 32 _
    rw [h1]
    apply gB_ext
    intro i hi
    rw [BitVec.getLsbD_sshiftRight, BitVec.msb_eq_getLsbD_last, gB_bit, gB_bit, decide_eq_false (show ¬ 32 ≤ i by omega), decide_eq_true (show 32 - 1 < 32 by decide)]
    by_cases h3 : c + i < 32
    · rw [if_pos h3, if_pos h3, decide_eq_true h3]; rfl
    · rw [if_neg h3, if_neg h3]; rfl
  have h4 : (1 : Int32) = sI (fun i => i == 0) := by decide +kernel
  rw [h2, h4, sI_and]
  constructor
  · intro h
    have := sI_inj h 0 (by decide)
    rw [if_pos (by omega)] at this
    simpa using this
  · intro h
    apply sI_congr
    intro i hi
    by_cases h0 : i = 0
    · subst h0; rw [if_pos (by omega)]; simp [h]
    · simp [h0]
theorem orI0 (x : Int32) : x ||| 0 = x := by
  apply Int32.toBitVec_inj.mp
  simp
theorem orL0 (x : Int64) : x ||| 0 = x := by
  apply Int64.toBitVec_inj.mp
  simp
theorem addI0 (x : Int32) : x + 0 = x := by
  apply Int32.toBitVec_inj.mp
  simp
/-- loops that end at the units made so far -/
theorem any_up {f : Nat → Bool} {n : Nat} (hz : ∀ u, n ≤ u → f u = false) : ∀ m, n ≤ m → (List.range m).any f = (List.range n).any f := by
  intro m hm
  induction m with
  | zero => rw [Nat.le_zero.mp hm]
  | succ m ih =>
    by_cases h : n = m + 1
    · rw [h]
    · rw [any_s, hz m (by omega), Bool.or_false, ih (by omega)]
theorem sum_up {f : Nat → Nat} {n : Nat} (hz : ∀ u, n ≤ u → f u = 0) : ∀ m, n ≤ m → ((List.range m).map f).sum = ((List.range n).map f).sum := by
  intro m hm
  induction m with
  | zero => rw [Nat.le_zero.mp hm]
  | succ m ih =>
    by_cases h : n = m + 1
    · rw [h]
    · rw [sum_s, hz m (by omega), Nat.add_zero, ih (by omega)]
theorem countP_sum (p : Nat → Bool) (n : Nat) : ((List.range n).map fun u => if p u then 1 else 0).sum = (List.range n).countP p := by
  induction n with
  | zero => rfl
  | succ n ih =>
    rw [sum_s, ih, List.range_succ, List.countP_append]
    congr 1
    by_cases h : p n = true
    · rw [if_pos h, List.countP_singleton, if_pos h]
    · rw [if_neg h, List.countP_singleton, if_neg h]
section
variable {I : e_TI} {L : e_TL} {D : e_TD} {sc : e_TS} {s : Nat → Int32}
theorem MR.up (h : MR I s) {c k : Nat} {x : Int32} (hc : 140 ≠ c) : MR (e_up I c k x) s := ⟨h.1, by rw [up_cell hc]; exact h.2⟩
theorem MR.ma (h : MR I s) : gMa s ≤ 16 := h.1.2.2.2.2.1.2
theorem MR.tot (h : MR I s) : I 140 196 = Int32.ofNat (gMa s) := by rw [h.2]; exact h.1.2.2.2.2.1.1
theorem MR.wx (h : MR I s) : I 140 189 = Int32.ofNat (gWx s) ∧ gWx s ≤ 2 := by rw [h.2]; exact ⟨h.1.2.1.1, h.1.2.1.2⟩
theorem MR.rg (h : MR I s) : I 140 190 = Int32.ofNat (gRg s) ∧ gRg s ≤ 30 ∧ 1 ≤ gRg s := by rw [h.2]; exact ⟨h.1.2.2.1.1.1, h.1.2.2.1.1.2, h.1.2.2.1.2⟩
theorem MR.tu (h : MR I s) : I 140 191 = Int32.ofNat (gTu s) ∧ gTu s ≤ 1 := by rw [h.2]; exact ⟨h.1.2.2.2.1.1, h.1.2.2.2.1.2⟩
theorem MR.ter (h : MR I s) {c : Nat} (hc : c < 63) : I 140 c = Int32.ofNat (gTer s c) ∧ gTer s c ≤ 5 := by rw [h.2]; exact ⟨(h.1.1 c hc).1.1, (h.1.1 c hc).1.2⟩
theorem MR.un (h : MR I s) {u : Nat} (hu : u < gMa s) : gb s (205 + 6 * u) 1 ∧ gb s (205 + 6 * u + 1) 62 ∧ gb s (205 + 6 * u + 2) 9 ∧ gb s (205 + 6 * u + 3) 12 ∧ gb s (205 + 6 * u + 4) 1 ∧ gb s (205 + 6 * u + 5) 1 := h.1.2.2.2.2.2 u hu
theorem MR.pl (h : MR I s) {u : Nat} (hu : u < gMa s) : gPl s u < 63 := Nat.lt_succ_of_le (h.un hu).2.1.2
theorem MR.sd (h : MR I s) {u : Nat} (hu : u < gMa s) : gSd s u ≤ 1 := (h.un hu).1.2
theorem MR.st (h : MR I s) {u : Nat} (hu : u < gMa s) : gSt s u ≤ 9 := (h.un hu).2.2.1.2
theorem MR.mv (h : MR I s) {u : Nat} (hu : u < gMa s) : gMv s u ≤ 12 := (h.un hu).2.2.2.1.2
theorem MR.go (h : MR I s) {i : Nat} (hi : i < gMa s) : ¬ I 140 196 ≤ Int32.ofNat i := by
  have := h.ma
  rw [h.tot, o_le (by omega) (by omega)]
  omega
theorem MR.end (h : MR I s) : I 140 196 ≤ Int32.ofNat (gMa s) := by rw [h.tot]; exact Int32.le_rfl
def inB (x y z : Int32) : Bool := decide (y ≤ x) && decide (x ≤ z)
theorem s_M_in {Ψ : Int32 → e_TI → e_TL → e_TD → Prop} {x y z : Int32} (H : Ψ (e_b (inB x y z)) I L D) : e_M 225 [.int x, .int y, .int z] (S0 I L D sc) (e_rI sc Ψ) := by
  unfold inB at H
  refine vM_in ⟨fun h => ?_, fun h => ⟨fun h2 => ?_, fun h2 => ?_⟩⟩
  · rw [decide_eq_false (Int32.not_le.mpr h), Bool.false_and] at H
    exact H
  · rw [decide_eq_false (Int32.not_le.mpr h2), Bool.and_false] at H
    exact H
  · rw [decide_eq_true (Int32.not_lt.mp h), decide_eq_true (Int32.not_lt.mp h2), Bool.true_and] at H
    exact H
theorem inB_C (x : Int32) : inB x 0 62 = iC x := by
  unfold inB iC
  congr 1
  rw [decide_eq_decide]
  constructor
  · intro h
    exact Int32.lt_of_le_of_lt h (by decide)
  · intro h
    by_cases h0 : x < 0
    · exact Int32.le_of_lt (Int32.lt_of_lt_of_le h0 (by decide))
    · obtain ⟨c, hc9, rfl⟩ := o_rng2 (n := 63) h0 h
      have hc : c < 63 := hc9
      exact (o_le (b := 62) (by omega) (by decide)).mpr (by omega)
theorem inB_S (x : Int32) : inB x 0 1 = iS x := by
  unfold inB iS
  congr 1
  rw [decide_eq_decide]
  constructor
  · intro h
    exact Int32.lt_of_le_of_lt h (by decide)
  · intro h
    by_cases h0 : x < 0
    · exact Int32.le_of_lt (Int32.lt_of_lt_of_le h0 (by decide))
    · obtain ⟨c, hc9, rfl⟩ := o_rng2 (n := 2) h0 h
      have hc : c < 2 := hc9
      exact (o_le (b := 1) (by omega) (by decide)).mpr (by omega)
theorem s_M_isCell {Ψ : Int32 → e_TI → e_TL → e_TD → Prop} {x : Int32} (H : Ψ (e_b (iC x)) I L D) : e_M 230 [.int x] (S0 I L D sc) (e_rI sc Ψ) := by
  refine vM_isCell (s_M_in ⟨e_b01 _, ?_⟩)
  rw [inB_C]
  exact H
theorem s_M_isSide {Ψ : Int32 → e_TI → e_TL → e_TD → Prop} {x : Int32} (H : Ψ (e_b (iS x)) I L D) : e_M 234 [.int x] (S0 I L D sc) (e_rI sc Ψ) := by
  refine vM_isSide (s_M_in ⟨e_b01 _, ?_⟩)
  rw [inB_S]
  exact H
theorem s_M_of {Ψ : Int32 → e_TI → e_TL → e_TD → Prop} (h : MR I s) {u : Nat} (f : Nat) (hu : u < 16) (hf : f < 6) (H : Ψ (s (205 + 6 * u + f)) I L D) : e_M 226 [.ref 139, .int (Int32.ofNat u), .int (Int32.ofNat f)] (S0 I L D sc) (e_rI sc Ψ) := by
  have e : (205 + 6 * Int32.ofNat u) + Int32.ofNat f = Int32.ofNat (205 + 6 * u + f) := by
    rw [show (205 : Int32) = Int32.ofNat 205 from rfl, show (6 : Int32) = Int32.ofNat 6 from rfl, o_mul, o_add, o_add]
  refine vM_of ?_
  rw [e, o_ix (by omega), h.2]
  exact ⟨o_in (by omega), H⟩
theorem s_M_sd {Ψ : Int32 → e_TI → e_TL → e_TD → Prop} (h : MR I s) {u : Nat} (hu : u < gMa s) (H : Ψ (Int32.ofNat (gSd s u)) I L D) : e_M 226 [.ref 139, .int (Int32.ofNat u), .int 0] (S0 I L D sc) (e_rI sc Ψ) := by
  have hm := h.ma
  refine s_M_of h 0 (by omega) (by decide) ?_
  rw [Nat.add_zero, (h.un hu).1.1]
  exact H
theorem s_M_pl {Ψ : Int32 → e_TI → e_TL → e_TD → Prop} (h : MR I s) {u : Nat} (hu : u < gMa s) (H : Ψ (Int32.ofNat (gPl s u)) I L D) : e_M 226 [.ref 139, .int (Int32.ofNat u), .int 1] (S0 I L D sc) (e_rI sc Ψ) := by
  have hm := h.ma
  refine s_M_of h 1 (by omega) (by decide) ?_
  rw [(h.un hu).2.1.1]
  exact H
theorem s_M_st {Ψ : Int32 → e_TI → e_TL → e_TD → Prop} (h : MR I s) {u : Nat} (hu : u < gMa s) (H : Ψ (Int32.ofNat (gSt s u)) I L D) : e_M 226 [.ref 139, .int (Int32.ofNat u), .int 2] (S0 I L D sc) (e_rI sc Ψ) := by
  have hm := h.ma
  refine s_M_of h 2 (by omega) (by decide) ?_
  rw [(h.un hu).2.2.1.1]
  exact H
theorem s_M_mv {Ψ : Int32 → e_TI → e_TL → e_TD → Prop} (h : MR I s) {u : Nat} (hu : u < gMa s) (H : Ψ (Int32.ofNat (gMv s u)) I L D) : e_M 226 [.ref 139, .int (Int32.ofNat u), .int 3] (S0 I L D sc) (e_rI sc Ψ) := by
  have hm := h.ma
  refine s_M_of h 3 (by omega) (by decide) ?_
  rw [(h.un hu).2.2.2.1.1]
  exact H
theorem gb_b {k : Nat} (h : gb s k 1) : s k = e_b (gn s k == 1) := by
  have h2 := h.2
  have h3 : gn s k = 0 ∨ gn s k = 1 := by omega
  rw [h.1]
  rcases h3 with e | e
  · rw [e]; rfl
  · rw [e]; rfl
theorem s_M_md {Ψ : Int32 → e_TI → e_TL → e_TD → Prop} (h : MR I s) {u : Nat} (hu : u < gMa s) (H : Ψ (e_b (gMd s u)) I L D) : e_M 226 [.ref 139, .int (Int32.ofNat u), .int 4] (S0 I L D sc) (e_rI sc Ψ) := by
  have hm := h.ma
  refine s_M_of h 4 (by omega) (by decide) ?_
  rw [gb_b (h.un hu).2.2.2.2.1]
  exact H
theorem s_M_at {Ψ : Int32 → e_TI → e_TL → e_TD → Prop} (h : MR I s) {u : Nat} (hu : u < gMa s) (H : Ψ (e_b (gAt s u)) I L D) : e_M 226 [.ref 139, .int (Int32.ofNat u), .int 5] (S0 I L D sc) (e_rI sc Ψ) := by
  have hm := h.ma
  refine s_M_of h 5 (by omega) (by decide) ?_
  rw [gb_b (h.un hu).2.2.2.2.2]
  exact H
theorem s_M_isUnit {Ψ : Int32 → e_TI → e_TL → e_TD → Prop} (h : MR I s) {x : Int32} (H : Ψ (e_b (iU s x)) I L D) : e_M 227 [.ref 139, .int x] (S0 I L D sc) (e_rI sc Ψ) := by
  have hm := h.ma
  refine vM_isUnit (s_M_in ?_)
  rw [h.tot]
  unfold inB
  by_cases hx : x < 0
  · have e : iU s x = false := by unfold iU; rw [decide_eq_false (Int32.not_le.mpr hx), Bool.false_and]
    rw [e] at H
    rw [decide_eq_false (Int32.not_le.mpr hx), Bool.false_and]
    exact bx_t rfl H
  · obtain ⟨u, hu, rfl⟩ := o_nn hx
    by_cases hlt : u < gMa s
    · rw [iU_of (by omega)] at H
      have e1 : decide (Int32.ofNat u ≤ Int32.ofNat (gMa s) - 1) = true := by
        rw [show (1 : Int32) = Int32.ofNat 1 from rfl, o_sub (by omega)]
        exact decide_eq_true ((o_le hu (by omega)).mpr (by omega))
      rw [decide_eq_true (Int32.not_lt.mp hx), e1, Bool.true_and]
      have h9 := h.st hlt
      refine bx_f (by decide) (s_M_st h hlt ?_)
      unfold gU at H
      rw [decide_eq_true hlt, Bool.true_and] at H
      refine ⟨fun h0 => ?_, fun h0 => ?_⟩
      · have := (o_le (b := 0) (by omega) (by decide)).mp h0
        rw [decide_eq_false (by omega)] at H
        exact H
      · have : ¬ gSt s u ≤ 0 := fun h1 => h0 ((o_le (b := 0) (by omega) (by decide)).mpr h1)
        rw [decide_eq_true (by omega)] at H
        exact H
    · have e : iU s (Int32.ofNat u) = false := by
        unfold iU gU
        rw [nx_of hu, decide_eq_false hlt, Bool.false_and, Bool.and_false, Bool.and_false]
      rw [e] at H
      have e1 : decide (Int32.ofNat u ≤ Int32.ofNat (gMa s) - 1) = false := by
        refine decide_eq_false (fun h1 => ?_)
        by_cases h0 : gMa s = 0
        · rw [h0] at h1
          exact absurd (Int32.lt_of_le_of_lt h1 (by decide : Int32.ofNat 0 - 1 < 0)) hx
        · rw [show (1 : Int32) = Int32.ofNat 1 from rfl, o_sub (by omega), o_le hu (by omega)] at h1
          omega
      rw [e1, Bool.and_false]
      exact bx_t rfl H
theorem s_M_isU {Ψ : Int32 → e_TI → e_TL → e_TD → Prop} (h : MR I s) {u : Nat} (hu : u < 16) (H : Ψ (e_b (gU s u)) I L D) : e_M 227 [.ref 139, .int (Int32.ofNat u)] (S0 I L D sc) (e_rI sc Ψ) := s_M_isUnit h (by rw [iU_of hu]; exact H)
theorem s_M_howMany {Ψ : Int32 → e_TI → e_TL → e_TD → Prop} (h : MR I s) (H : Ψ (aCnt s) I L D) : e_M 228 [.ref 139] (S0 I L D sc) (e_rI sc Ψ) := by
  have hm := h.ma
  refine vM_unitCount (loop_S (G := fun y i => e_Wp 228 4 [some (.ref 139), some (.int y), some (.int i)] [] (S0 I L D sc) 0 0 (e_rI sc Ψ)) 0 (fun u => if gU s u then 1 else 0) (gMa s) (fun i y hi K0 K1 => ?_) ?_)
  · refine vM_unitCount_p4 (bx_f (h.go hi) (s_M_isU h (by omega) (bx_b (fun h0 => ?_) (fun h1 => ?_))))
    · rw [addI0]
      exact K0 (by rw [h0]; rfl)
    · simp only [h1, if_true] at K1
      exact K1
  · refine vM_unitCount_p4 (bx_t h.end ?_)
    rw [Nat.zero_add, ← sum_up (n := gMa s) (fun u hu => by unfold gU; rw [decide_eq_false (by omega), Bool.false_and]; rfl) 16 hm, countP_sum]
    exact H
theorem s_M_isOf {Ψ : Int32 → e_TI → e_TL → e_TD → Prop} (h : MR I s) {u d : Nat} (hu : u < 16) (hd : d ≤ 1) (H : Ψ (e_b (gOwn s d u)) I L D) : e_M 246 [.ref 139, .int (Int32.ofNat u), .int (Int32.ofNat d)] (S0 I L D sc) (e_rI sc Ψ) := by
  unfold gOwn at H
  refine vM_isOf (s_M_isU h hu (bx_b (fun h0 => ?_) (fun h1 => ?_)))
  · rw [h0, Bool.false_and] at H
    exact H
  · have hlt := gU_lt h1
    have hs := h.sd hlt
    rw [h1, Bool.true_and] at H
    refine s_M_sd h hlt ⟨fun hn => ?_, fun he => ?_⟩
    · rw [beq_false_of_ne (fun e => hn (by rw [e]))] at H
      exact H
    · have := (o_eq (by omega) (by omega)).mp (Classical.not_not.mp he)
      rw [this, beq_self_eq_true] at H
      exact H
theorem s_M_on {Ψ : Int32 → e_TI → e_TL → e_TD → Prop} (h : MR I s) {c : Nat} (hc : c < 63) (H : Ψ (sI (gOn s c)) I L D) : e_M 231 [.ref 139, .int (Int32.ofNat c)] (S0 I L D sc) (e_rI sc Ψ) := by
  have hm := h.ma
  refine vM_unitsOn (loop_I (G := fun y i => e_Wp 231 4 [some (.ref 139), some (.int (Int32.ofNat c)), some (.int y), some (.int i)] [] (S0 I L D sc) 0 0 (e_rI sc Ψ)) (fun u v => gOn s c u && u == v) (gMa s) (fun i y hi K0 K1 => ?_) ?_)
  · have k0 : gOn s c i = false → e_Wp 231 4 [some (.ref 139), some (.int (Int32.ofNat c)), some (.int (y ||| 0)), some (.int (Int32.ofNat i + 1))] [] (S0 I L D sc) 0 0 (e_rI sc Ψ) := fun h0 => by
      rw [orI0]
      exact K0 (fun v _ => by rw [h0, Bool.false_and])
    refine vM_unitsOn_p4 (bx_f (h.go hi) (s_M_isU h (by omega) (bx_b (fun h0 => k0 ?_) (fun h1 => s_M_pl h hi ⟨fun hn => k0 ?_, fun he => ?_⟩))))
    · unfold gOn
      rw [h0, Bool.false_and]
    · unfold gOn
      rw [beq_false_of_ne (fun e => hn (by rw [e])), Bool.and_false]
    · have hp := h.pl hi
      have e := (o_eq (by omega) (by omega)).mp (Classical.not_not.mp he)
      rw [sI_only i (by omega)]
      refine K1 _ (fun v _ => ?_)
      unfold gOn
      rw [h1, e, beq_self_eq_true, Bool.true_and, Bool.true_and]
      exact BEq.comm
  · refine vM_unitsOn_p4 (bx_t h.end ?_)
    rw [gather_I (gOn s c), sI_congr (q := gOn s c)]
    · exact H
    · intro u _
      cases hu : gOn s c u with
      | false => rw [Bool.and_false]
      | true => rw [decide_eq_true (gU_lt (gOn_U hu)), Bool.true_and]
theorem s_M_has {Ψ : Int32 → e_TI → e_TL → e_TD → Prop} {p : Nat → Bool} {c : Nat} (hc : c < 63) (H : Ψ (e_b (p c)) I L D) : e_M 241 [.long (sL p), .int (Int32.ofNat c)] (S0 I L D sc) (e_rI sc Ψ) := by
  refine vM_has ⟨fun hn => ?_, fun he => ?_⟩
  · rw [sL_sar p c hc, Bool.not_eq_true] at hn
    rw [hn] at H
    exact H
  · rw [Classical.not_not, sL_sar p c hc] at he
    rw [he] at H
    exact H
end
