/-! the reference: reach, room, attacks, forces -/
theorem xt17 : ∀ t : Fin 6, e_xt 17 t.1 = Int32.ofNat (gHt t.1) := by decide +kernel
section
variable {I : e_TI} {L : e_TL} {D : e_TD} {sc : e_TS} {s : Nat → Int32} {u : Nat}
theorem dec_eq {a b : Nat} (ha : a < 2147483648) (hb : b < 2147483648) : decide (Int32.ofNat a = Int32.ofNat b) = (a == b) := by
  rw [Bool.eq_iff_iff, decide_eq_true_eq, o_eq ha hb, beq_iff_eq]
theorem s_M_canReach {Ψ : Int32 → e_TI → e_TL → e_TD → Prop} (h : MR I s) (hu : u < gMa s) (hW : WyR I L s u) (hC : WyC I s u) {c n : Nat} (hc : c < 63) (hn : n ≤ 1000) (H : Ψ (e_b (gReach s u n c)) I L D) : e_M 272 [.ref 139, .int (Int32.ofNat u), .int (Int32.ofNat c), .int (Int32.ofNat n)] (S0 I L D sc) (e_rI sc Ψ) := by
  have hma := h.ma
  have hp := h.pl hu
  have hle := mWayC_le h hu c
  unfold gReach gRoomS at H
  rw [decide_eq_true hc, Bool.true_and] at H
  refine vM_canReach (s_M_sd h hu (s_M_unitsOf h (h.sd hu) (s_M_pl h hu ⟨fun he => ?_, fun hne => ⟨o_in hc, ?_⟩⟩)))
  · have := (o_eq (by omega) (by omega)).mp he
    rw [this, beq_self_eq_true, Bool.not_true, Bool.and_false, Bool.false_and] at H
    exact H
  · have hne' : c ≠ gPl s u := fun e => hne (by rw [e])
    rw [o_ix (a := c) (by omega), hC c hc, o_lt (by omega) (by omega)]
    refine ⟨fun hlt => ?_, fun hge => s_M_sd h hu (s_M_st h hu ?_)⟩
    · rw [decide_eq_false (p := gWayC s u c ≤ n) (by omega), Bool.false_and, Bool.false_and] at H
      exact H
    · rw [decide_eq_true (p := gWayC s u c ≤ n) (by omega), beq_false_of_ne hne', Bool.not_false, Bool.true_and, Bool.true_and] at H
      rw [hW.1, sI_or]
      refine s_M_hasRoom h hc (h.sd hu) (h.st hu) (p := fun v => gInS s u v && !(v == u)) (fun v hv => ?_) (bx_b (fun h0 => ?_) (fun h1 => ?_))
      · rw [dec_eq (by omega) (by omega)]
        rfl
      · rw [h0] at H
        exact H
      · rw [h1] at H
        exact H
theorem s_M_reachLoop {Ψ : Int64 → e_TI → e_TL → e_TD → Prop} (h : MR I s) (hu : u < gMa s) (hW : WyR I L s u) (hC : WyC I s u) {n : Nat} (hn : n ≤ 1000) (H : Ψ (sL (gReach s u n)) I L D) : e_Wp 273 43 [some (.ref 139), some (.int (Int32.ofNat u)), some (.int (Int32.ofNat n)), some (.long 0), none, some (.int 0)] [] (S0 I L D sc) 0 0 (e_rL sc Ψ) := by
  refine loop_L (G := fun y i => e_Wp 273 43 [some (.ref 139), some (.int (Int32.ofNat u)), some (.int (Int32.ofNat n)), some (.long y), none, some (.int i)] [] (S0 I L D sc) 0 0 (e_rL sc Ψ)) (fun c b => gReach s u n c && c == b) 63 (fun c y hc K0 K1 => ?_) ?_
  · refine vM_reach_p43 (bx_f (b_ge hc) (s_M_canReach h hu hW hC hc hn (bx_b (fun h0 => ?_) (fun h1 => ?_))))
    · rw [orL0]
      exact K0 (fun b _ => by rw [h0, Bool.false_and])
    · rw [sL_only c hc]
      refine K1 _ (fun b _ => ?_)
      rw [h1, Bool.true_and]
      exact BEq.comm
  · refine vM_reach_p43 (bx_t (b_self 63) ?_)
    rw [gather_L (gReach s u n), sL_congr (q := gReach s u n)]
    · exact H
    · intro c _
      unfold gReach
      rw [← Bool.and_assoc, ← Bool.and_assoc, Bool.and_self]
theorem s_M_hasWay {Ψ : Int32 → e_TI → e_TL → e_TD → Prop} (h : MR I s) (hu : u < gMa s) {c : Nat} (hc : c < 63) (H0 : (gPl s u = c ∨ gWayC s u c = 1000000) → ∀ I' L', FrW I L I' L' → Ψ 0 I' L' D) (H1 : gPl s u ≠ c → gWayC s u c ≤ 372 → ∀ I' L', FrW I L I' L' → WyR I' L' s u → WyC I' s u → Ψ 1 I' L' D) : e_M 274 [.ref 139, .int (Int32.ofNat u), .int (Int32.ofNat c)] (S0 I L D sc) (e_rI sc Ψ) := by
  have hp := h.pl hu
  have hle := mWayC_le h hu c
  refine vM_hasWay (s_M_findWays h hu (fun I' L' hF hW hC => s_M_pl (h.fw hF) hu ⟨fun he => ?_, fun hne => ⟨o_in hc, ?_⟩⟩))
  · exact H0 (Or.inl ((o_eq (by omega) (by omega)).mp he).symm) I' L' hF
  · rw [o_ix (a := c) (by omega), hC c hc]
    have cmp : ((1000000 : Int32) ≤ Int32.ofNat (gWayC s u c)) ↔ 1000000 ≤ gWayC s u c := o_le (a := 1000000) (by decide) (by omega)
    rw [cmp]
    refine ⟨fun hf => H0 (Or.inr (by omega)) I' L' hF, fun hf => H1 (fun e => hne (by rw [e])) (by omega) I' L' hF hW hC⟩
theorem s_M_hasRoomFor {Ψ : Int32 → e_TI → e_TL → e_TD → Prop} (h : MR I s) (hu : u < gMa s) {c : Nat} (hc : c < 63) (H : Ψ (e_b (gRoomA s u c)) I L D) : e_M 280 [.ref 139, .int (Int32.ofNat c), .int (Int32.ofNat u)] (S0 I L D sc) (e_rI sc Ψ) := by
  have hma := h.ma
  refine vM_hasRoomFor (s_M_sd h hu (s_M_st h hu ?_))
  rw [sI_neg1]
  refine s_M_hasRoom h hc (h.sd hu) (h.st hu) (p := fun v => !(v == u)) (fun v hv => ?_) ⟨e_b01 _, ?_⟩
  · rw [dec_eq (by omega) (by omega), Bool.true_and]
  · have e : gRoom s (fun v => !(v == u)) c (gSd s u) (gSt s u) = gRoomA s u c := by
      have pw : ∀ v, (!(v == u) && gOn s c v) = (gU s v && !(v == u) && gOn s c v) := fun v => by
        cases ho : gOn s c v with
        | false => rw [Bool.and_false, Bool.and_false]
        | true => rw [gOn_U ho, Bool.true_and]
      unfold gRoomA gRoom
      simp only [pw]
    rw [e]
    exact H
theorem s_M_areNeighbors {Ψ : Int32 → e_TI → e_TL → e_TD → Prop} {a b : Nat} (ha : a < 63) (hb : b < 63) (H : Ψ (e_b (adj a b)) I L D) : e_M 282 [.int (Int32.ofNat a), .int (Int32.ofNat b)] (S0 I L D sc) (e_rI sc Ψ) := by
  have key : ∀ d, d ≤ 6 → e_Wp 282 4 [some (.int (Int32.ofNat a)), some (.int (Int32.ofNat b)), some (.int (e_b ((List.range d).any fun e => nb a e == some b))), some (.int (Int32.ofNat d))] [] (S0 I L D sc) 0 0 (e_rI sc Ψ) := by
    refine e_downInd 6 (fun d hd ih => ?_) ?_
    · rw [any_s] at ih
      refine vM_areNeighbors_p4 (bx_f (b_ge hd) (bx_n (fun h1 => ?_) (fun h0 => s_M_next ha hd ⟨fun hn => ?_, fun he => ?_⟩)))
      · rw [h1, Bool.true_or] at ih
        rw [o_s]
        exact ih
      · have : (nb a d == some b) = false := by
          refine beq_false_of_ne (fun e => hn ?_)
          rw [e]
          rfl
        rw [h0, this] at ih
        rw [o_s]
        exact ih
      · have : nb a d = some b := by
          have he' := Classical.not_not.mp he
          cases hnb : nb a d with
          | none =>
            rw [hnb] at he'
            exact absurd he'.symm (o_ne1 (by omega))
          | some r =>
            rw [hnb] at he'
            have hr := nb_lt ⟨a, ha⟩ ⟨d, hd⟩ r hnb
            rw [(o_eq (by omega) (by omega)).mp he']
        rw [h0, this, beq_self_eq_true] at ih
        rw [o_s]
        exact ih
    · exact vM_areNeighbors_p4 (bx_t (b_self 6) ⟨e_b01 _, H⟩)
  exact vM_areNeighbors (key 0 (Nat.zero_le _))
theorem s_M_attackers {Ψ : Int32 → e_TI → e_TL → e_TD → Prop} (h : MR I s) {c : Nat} (hc : c < 63) (H : Ψ (sI (gAtk s c)) I L D) : e_M 283 [.ref 139, .int (Int32.ofNat c)] (S0 I L D sc) (e_rI sc Ψ) := by
  have hm := h.ma
  obtain ⟨t1, t2⟩ := h.tu
  refine vM_attackers (loop_I (G := fun y i => e_Wp 283 4 [some (.ref 139), some (.int (Int32.ofNat c)), some (.int y), some (.int i)] [] (S0 I L D sc) 0 0 (e_rI sc Ψ)) (fun v w => gAtk s c v && v == w) (gMa s) (fun i y hi K0 K1 => ?_) ?_)
  · have hp := h.pl hi
    have k0 : gAtk s c i = false → e_Wp 283 4 [some (.ref 139), some (.int (Int32.ofNat c)), some (.int (y ||| 0)), some (.int (Int32.ofNat i + 1))] [] (S0 I L D sc) 0 0 (e_rI sc Ψ) := fun h0 => by
      rw [orI0]
      exact K0 (fun v _ => by rw [h0, Bool.false_and])
    refine vM_attackers_p4 (bx_f (h.go hi) ?_)
    rw [t1]
    refine s_M_isOf h (by omega) t2 (bx_b (fun h0 => k0 ?_) (fun h1 => s_M_canAttack h hi (bx_b (fun h2 => k0 ?_) (fun h2 => s_M_pl h hi ⟨fun hn => k0 ?_, fun he => ?_⟩))))
    · unfold gAtk
      rw [h0, Bool.false_and, Bool.false_and]
    · unfold gCanA at h2
      unfold gOwn at h1
      rw [Bool.and_eq_true] at h1
      rw [h1.2, Bool.true_and] at h2
      unfold gAtk
      rw [h2, Bool.and_false]
    · unfold gAtk
      rw [beq_false_of_ne (fun e => hn (by rw [e])), Bool.and_false, Bool.false_and]
    · have e := (o_eq (by omega) (by omega)).mp (Classical.not_not.mp he)
      unfold gCanA at h2
      rw [Bool.and_eq_true] at h2
      rw [sI_only i (by omega)]
      refine K1 _ (fun v _ => ?_)
      unfold gAtk
      rw [h1, h2.2, e, beq_self_eq_true, Bool.true_and, Bool.true_and, Bool.true_and]
      exact BEq.comm
  · refine vM_attackers_p4 (bx_t h.end ?_)
    rw [gather_I (gAtk s c), sI_congr (q := gAtk s c)]
    · exact H
    · intro v _
      cases hv : gAtk s c v with
      | false => rw [Bool.and_false]
      | true =>
        unfold gAtk at hv
        rw [Bool.and_eq_true, Bool.and_eq_true] at hv
        rw [decide_eq_true (gU_lt (gOwn_U hv.1.1)), Bool.true_and]
theorem s_M_attacked {Ψ : Int32 → e_TI → e_TL → e_TD → Prop} (h : MR I s) {c : Nat} (hc : c < 63) (H : Ψ (sI (gDef s c)) I L D) : e_M 284 [.ref 139, .int (Int32.ofNat c)] (S0 I L D sc) (e_rI sc Ψ) := by
  have hm := h.ma
  obtain ⟨t1, t2⟩ := h.tu
  have e1 : (1 : Int32) - Int32.ofNat (gTu s) = Int32.ofNat (1 - gTu s) := o_sub (a := 1) t2
  refine vM_attacked (loop_I (G := fun y i => e_Wp 284 4 [some (.ref 139), some (.int (Int32.ofNat c)), some (.int y), some (.int i)] [] (S0 I L D sc) 0 0 (e_rI sc Ψ)) (fun v w => gDef s c v && v == w) (gMa s) (fun i y hi K0 K1 => ?_) ?_)
  · have hp := h.pl hi
    have k0 : gDef s c i = false → e_Wp 284 4 [some (.ref 139), some (.int (Int32.ofNat c)), some (.int (y ||| 0)), some (.int (Int32.ofNat i + 1))] [] (S0 I L D sc) 0 0 (e_rI sc Ψ) := fun h0 => by
      rw [orI0]
      exact K0 (fun v _ => by rw [h0, Bool.false_and])
    refine vM_attacked_p4 (bx_f (h.go hi) ?_)
    rw [t1, e1]
    refine s_M_isOf h (by omega) (by omega) (bx_b (fun h0 => k0 ?_) (fun h1 => s_M_pl h hi ⟨fun hn => k0 ?_, fun he => ?_⟩))
    · unfold gDef
      rw [h0, Bool.false_and]
    · unfold gDef
      rw [beq_false_of_ne (fun e => hn (by rw [e])), Bool.and_false]
    · have e := (o_eq (by omega) (by omega)).mp (Classical.not_not.mp he)
      rw [sI_only i (by omega)]
      refine K1 _ (fun v _ => ?_)
      unfold gDef
      rw [h1, e, beq_self_eq_true, Bool.true_and, Bool.true_and]
      exact BEq.comm
  · refine vM_attacked_p4 (bx_t h.end ?_)
    rw [gather_I (gDef s c), sI_congr (q := gDef s c)]
    · exact H
    · intro v _
      cases hv : gDef s c v with
      | false => rw [Bool.and_false]
      | true =>
        unfold gDef at hv
        rw [Bool.and_eq_true] at hv
        rw [decide_eq_true (gU_lt (gOwn_U hv.1)), Bool.true_and]
theorem s_M_why {Ψ : Int32 → e_TI → e_TL → e_TD → Prop} (h : MR I s) {x y : Int32} (H : Ψ (Int32.ofNat (aWhy s x y)) I L D) : e_M 285 [.ref 139, .int x, .int y] (S0 I L D sc) (e_rI sc Ψ) := by
  have fin : ∀ n, aWhy s x y = n → Ψ (Int32.ofNat n) I L D := fun n hn => by rw [← hn]; exact H
  refine vM_whyNoAttack (s_M_isCell (bx_b (fun h0 => fin 1 (by unfold aWhy; rw [h0]; rfl)) (fun h1 => s_M_isCell (bx_n (fun h2 => ?_) (fun h2 => fin 1 (by unfold aWhy; rw [h2, Bool.and_false]; rfl))))))
  have hx := h1
  have hy := h2
  unfold iC at hx hy
  simp only [Bool.and_eq_true, decide_eq_true_eq] at hx hy
  obtain ⟨a, ha9, rfl⟩ := o_rng2 (n := 63) (Int32.not_lt.mpr hx.1) hx.2
  obtain ⟨b, hb9, rfl⟩ := o_rng2 (n := 63) (Int32.not_lt.mpr hy.1) hy.2
  have ha : a < 63 := ha9
  have hb : b < 63 := hb9
  have e : aWhy s (Int32.ofNat a) (Int32.ofNat b) = if dst a b ≠ 1 then 2 else if sI (gAtk s a) = 0 ∨ sI (gDef s b) = 0 then 3 else 0 := by
    unfold aWhy
    rw [h1, h2, nx_of (by omega), nx_of (by omega)]
    rfl
  have hadj := dst_adj ⟨a, ha⟩ ⟨b, hb⟩
  refine s_M_areNeighbors ha hb (bx_n (fun h3 => ?_) (fun h3 => fin 2 ?_))
  · have h3' : dst a b = 1 := beq_iff_eq.mp (hadj.symm.trans h3)
    rw [if_neg (fun hh => hh h3')] at e
    refine s_M_attackers h ha ⟨fun h0 => fin 3 ?_, fun h0 => s_M_attacked h hb ⟨fun h4 => fin 0 ?_, fun h4 => fin 3 ?_⟩⟩
    · rw [e, if_pos (Or.inl h0)]
    · rw [e, if_neg (fun hh => hh.elim h0 h4)]
    · rw [e, if_pos (Or.inr (Classical.not_not.mp h4))]
  · have h3' : dst a b ≠ 1 := fun hh => by
      have : adj a b = (dst a b == 1) := hadj
      rw [h3, hh] at this
      cases this
    rw [e, if_pos h3']
theorem s_M_forces {Ψ : Int32 → e_TI → e_TL → e_TD → Prop} (h : MR I s) {q : Nat → Bool} (hq : ∀ v, q v = true → gU s v = true) (H : ∀ I', Fr 143 144 I L I' L → Ψ (Int32.ofNat (gForces s q)) I' L D) : e_M 286 [.ref 139, .int (sI q)] (S0 I L D sc) (e_rI sc Ψ) := by
  have hm := h.ma
  refine vM_forces (loop_S (G := fun y i => ∀ I', Fr 143 144 I L I' L → e_Wp 286 4 [some (.ref 139), some (.int (sI q)), some (.int y), some (.int i)] [] (S0 I' L D sc) 0 0 (e_rI sc Ψ)) 0 (fun v => if q v && gU s v then gForce s v else 0) (gMa s) (fun i y hi K0 K1 I' hF => ?_) (fun I' hF => ?_) I Fr.rf)
  · have hI := h.fr hF (by decide)
    refine vM_forces_p4 (bx_f (hI.go hi) ⟨fun hn => ?_, fun he => ?_⟩)
    · rw [sI_sar q i (by omega), Bool.not_eq_true] at hn
      rw [addI0]
      exact K0 (by rw [hn, Bool.false_and]; rfl) I' hF
    · rw [Classical.not_not, sI_sar q i (by omega)] at he
      refine s_M_force hI hi (fun I2 hF2 => ?_)
      have K := K1 I2 (hF.tr hF2)
      rw [he, hq i he] at K
      exact K
  · have hI := h.fr hF (by decide)
    refine vM_forces_p4 (bx_t hI.end ?_)
    rw [Nat.zero_add, ← sum_up (n := gMa s) (fun v hv => by rw [gU_no h hv, Bool.and_false]; rfl) 16 hm]
    exact H I' hF
theorem s_M_defense {Ψ : Int32 → e_TI → e_TL → e_TD → Prop} (h : MR I s) {c : Nat} (hc : c < 63) (H : ∀ I', Fr 143 144 I L I' L → Ψ (Int32.ofNat (gDefense s c)) I' L D) : e_M 287 [.ref 139, .int (Int32.ofNat c)] (S0 I L D sc) (e_rI sc Ψ) := by
  refine vM_defenseOf (s_M_attacked h hc (s_M_forces h (fun v hv => by
    unfold gDef at hv
    exact gOwn_U (Bool.and_eq_true _ _ ▸ hv).1) (fun I' hF => ?_)))
  have hI := h.fr hF (by decide)
  obtain ⟨t1, t2⟩ := hI.ter hc
  rw [o_ix (a := c) (by omega), t1, o_ix (a := gTer s c) (by omega), show e_xt 17 (gTer s c) = Int32.ofNat (gHt (gTer s c)) from xt17 ⟨gTer s c, by omega⟩, o_add]
  exact ⟨o_in (by omega), o_in (by omega), H I' hF⟩
theorem s_M_attackFrom {Ψ : Int32 → e_TI → e_TL → e_TD → Prop} (h : MR I s) {c : Nat} (hc : c < 63) (H : ∀ I', Fr 143 144 I L I' L → Ψ (gAttack s c) I' L D) : e_M 288 [.ref 139, .int (Int32.ofNat c)] (S0 I L D sc) (e_rI sc Ψ) := by
  refine vM_attackFrom (s_M_attackers h hc (s_M_forces h (fun v hv => by
    unfold gAtk at hv
    rw [Bool.and_eq_true, Bool.and_eq_true] at hv
    exact gOwn_U hv.1.1) (fun I' hF => ?_)))
  have hI := h.fr hF (by decide)
  obtain ⟨w1, w2⟩ := hI.wx
  have H' := H I' hF
  unfold gAttack at H'
  rw [w1]
  refine ⟨fun hn => ?_, fun he => ?_⟩
  · rw [if_neg (fun e => hn (by rw [e]; rfl))] at H'
    rw [show ∀ x : Int32, x - 0 = x from fun x => Int32.sub_zero x]
    exact H'
  · rw [if_pos ((o_eq (b := 1) (by omega) (by decide)).mp (Classical.not_not.mp he))] at H'
    exact H'
end
