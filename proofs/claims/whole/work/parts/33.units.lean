/-! the class's units, read -/
section
variable {I : e_TI} {L : e_TL} {D : e_TD} {sc : e_TS} {s : Nat → Int32}
theorem s_ownedBy {Ψ : Int32 → e_TI → e_TL → e_TD → Prop} (h : GR I L s) {d : Nat} (hd : d ≤ 1) (H : Ψ (sI (gOwn s d)) I L D) : e_M 26 [.ref 6, .int (Int32.ofNat d)] (S0 I L D sc) (e_rI sc Ψ) := by
  refine vU_ownedBy ?_
  rw [h.pres, h.sec, sI_not, sI_and, sI_and]
  by_cases h0 : d = 0
  · subst h0
    refine bx_f (fun h2 => h2 rfl) ?_
    rw [sI_congr (q := gOwn s 0)]
    · exact H
    · intro u _
      cases hu : gU s u with
      | false => simp [gOwn, hu]
      | true =>
        have h1 := gU_lt hu
        have h2 := h.sd h1
        unfold gOwn
        rw [hu, decide_eq_true h1, Bool.eq_iff_iff]
        simp
        omega
  · have e : d = 1 := by omega
    subst e
    refine bx_t (by decide) ?_
    rw [sI_congr (q := gOwn s 1)]
    · exact H
    · intro u _
      cases hu : gU s u with
      | false => simp [gOwn, hu]
      | true =>
        unfold gOwn
        rw [hu, decide_eq_true (gU_lt hu)]
        rfl
theorem s_sideOf {Ψ : Int32 → e_TI → e_TL → e_TD → Prop} (h : GR I L s) {u : Nat} (hu : u < gMa s) (H : Ψ (Int32.ofNat (gSd s u)) I L D) : e_M 49 [.ref 6, .int (Int32.ofNat u)] (S0 I L D sc) (e_rI sc Ψ) := by
  have hm := h.ma
  have h2 := h.sd hu
  refine vU_sideOf ?_
  rw [h.sec]
  refine s_uhas (by omega) (bx_b (fun h0 => ?_) (fun h1 => ?_))
  · have : gSd s u = 0 := by
      have : ¬ gSd s u = 1 := by simpa [hu] using h0
      omega
    rw [this] at H
    exact H
  · have : gSd s u = 1 := by simpa [hu] using h1
    rw [this] at H
    exact H
theorem s_placeOf {Ψ : Int32 → e_TI → e_TL → e_TD → Prop} (h : GR I L s) {u : Nat} (hu : u < gMa s) (H : Ψ (Int32.ofNat (gPl s u)) I L D) : e_M 97 [.ref 6, .int (Int32.ofNat u)] (S0 I L D sc) (e_rI sc Ψ) := by
  have hm := h.ma
  refine vU_placeOf (s_read_7 (by omega) ?_)
  rw [(h.pl hu).1]
  exact H
theorem s_strengthOf {Ψ : Int32 → e_TI → e_TL → e_TD → Prop} (h : GR I L s) {u : Nat} (hu : u < gMa s) (H : Ψ (Int32.ofNat (gSt s u)) I L D) : e_M 50 [.ref 6, .int (Int32.ofNat u)] (S0 I L D sc) (e_rI sc Ψ) := by
  have hm := h.ma
  refine vU_strengthOf (s_read_8 (by omega) ?_)
  rw [(h.st hu).1]
  exact H
theorem s_movementOf {Ψ : Int32 → e_TI → e_TL → e_TD → Prop} (h : GR I L s) {u : Nat} (hu : u < gMa s) (H : Ψ (Int32.ofNat (gMv s u)) I L D) : e_M 98 [.ref 6, .int (Int32.ofNat u)] (S0 I L D sc) (e_rI sc Ψ) := by
  have hm := h.ma
  refine vU_movementOf (s_read_9 (by omega) ?_)
  rw [(h.mv hu).1]
  exact H
theorem s_hasMoved {Ψ : Int32 → e_TI → e_TL → e_TD → Prop} (h : GR I L s) {u : Nat} (hu : u < gMa s) (H : Ψ (e_b (gMd s u)) I L D) : e_M 106 [.ref 6, .int (Int32.ofNat u)] (S0 I L D sc) (e_rI sc Ψ) := by
  have hm := h.ma
  refine vU_hasMoved ?_
  rw [h.mvd]
  refine s_uhas (by omega) ⟨e_b01 _, ?_⟩
  rw [decide_eq_true hu, Bool.true_and]
  exact H
theorem s_attackedAlready {Ψ : Int32 → e_TI → e_TL → e_TD → Prop} (h : GR I L s) (H : Ψ (sI fun u => decide (u < gMa s) && gAt s u) I L D) : e_M 104 [.ref 6] (S0 I L D sc) (e_rI sc Ψ) := by
  refine vU_attackedAlready ?_
  rw [h.att]
  exact H
theorem s_all {Ψ : Int32 → e_TI → e_TL → e_TD → Prop} (h : GR I L s) (H : Ψ (sI (gU s)) I L D) : e_M 90 [.ref 6] (S0 I L D sc) (e_rI sc Ψ) := by
  refine vU_all ?_
  rw [h.pres]
  exact H
theorem s_standingIn {Ψ : Int32 → e_TI → e_TL → e_TD → Prop} (h : GR I L s) {p : Nat → Bool} (H : Ψ (sI fun u => gU s u && p (gPl s u)) I L D) : e_M 48 [.ref 6, .long (sL p)] (S0 I L D sc) (e_rI sc Ψ) := by
  refine vU_standingIn (loop_I (G := fun y i => e_Wp 48 5 [some (.ref 6), some (.long (sL p)), none, some (.int y), some (.int i)] [] (S0 I L D sc) 0 0 (e_rI sc Ψ)) (fun u c => (gU s u && p (gPl s u)) && u == c) 16 (fun i y hi K0 K1 => ?_) ?_)
  · refine vU_standingIn_p5 (bx_f (b_ge hi) ?_)
    rw [h.pres]
    refine s_uhas (by omega) (bx_b (fun h0 => K0 (fun c _ => by simp [h0])) (fun h1 => ⟨o_in hi, ?_⟩))
    obtain ⟨h2, h3⟩ := h.pl (gU_lt h1)
    rw [o_ix (by omega), h2]
    refine s_has h3 (bx_b (fun h0 => K0 (fun c _ => by simp [h0])) (fun h4 => s_uonly (by omega) (K1 _ (fun c _ => ?_))))
    simp only [h1, h4, Bool.true_and, Bool.and_self]
    exact BEq.comm
  · refine vU_standingIn_p5 (bx_t (b_self 16) ?_)
    rw [gather_I (fun u => gU s u && p (gPl s u))]
    rw [sI_congr (q := fun u => gU s u && p (gPl s u))]
    · exact H
    · intro u _
      have hm := h.ma
      cases hu : gU s u with
      | false => simp
      | true =>
        have := gU_lt hu
        rw [decide_eq_true (p := u < 16) (by omega)]
        rfl
theorem s_on {Ψ : Int32 → e_TI → e_TL → e_TD → Prop} (h : GR I L s) {c : Nat} (hc : c < 63) (H : Ψ (sI (gOn s c)) I L D) : e_M 61 [.ref 6, .int (Int32.ofNat c)] (S0 I L D sc) (e_rI sc Ψ) :=
  vU_on (s_only hc (s_standingIn h H))
theorem s_placesOf {Ψ : Int64 → e_TI → e_TL → e_TD → Prop} (h : GR I L s) {q : Nat → Bool} (hq : ∀ u, q u = true → gU s u = true) (H : Ψ (sL (gCells s q)) I L D) : e_M 29 [.ref 6, .int (sI q)] (S0 I L D sc) (e_rL sc Ψ) := by
  refine vU_placesOf (loop_L (G := fun y i => e_Wp 29 5 [some (.ref 6), some (.int (sI q)), some (.long y), none, some (.int i)] [] (S0 I L D sc) 0 0 (e_rL sc Ψ)) (fun u c => q u && gU s u && gPl s u == c) 16 (fun i y hi K0 K1 => ?_) ?_)
  · refine vU_placesOf_p5 (bx_f (b_ge hi) (s_uhas (by omega) (bx_b (fun h0 => K0 (fun c _ => by simp [h0])) (fun h1 => ⟨o_in hi, ?_⟩))))
    have hu := hq i h1
    obtain ⟨h2, h3⟩ := h.pl (gU_lt hu)
    rw [o_ix (by omega), h2]
    refine s_only h3 (K1 _ (fun c _ => ?_))
    simp only [h1, hu, Bool.true_and]
    exact BEq.comm
  · exact vU_placesOf_p5 (bx_t (b_self 16) H)
theorem s_strengthsOf {Ψ : Int32 → e_TI → e_TL → e_TD → Prop} (h : GR I L s) {q : Nat → Bool} (hq : ∀ u, q u = true → gU s u = true) (H : Ψ (Int32.ofNat (gStr s q)) I L D) : e_M 73 [.ref 6, .int (sI q)] (S0 I L D sc) (e_rI sc Ψ) := by
  refine vU_strengthsOf (loop_S (G := fun y i => e_Wp 73 4 [some (.ref 6), some (.int (sI q)), some (.int y), some (.int i)] [] (S0 I L D sc) 0 0 (e_rI sc Ψ)) 0 (fun u => if q u && gU s u then gSt s u else 0) 16 (fun i y hi K0 K1 => ?_) ?_)
  · refine vU_strengthsOf_p4 (bx_f (b_ge hi) (s_uhas (by omega) (bx_b (fun h0 => K0 (by simp [h0])) (fun h1 => ⟨o_in hi, ?_⟩))))
    have hu := hq i h1
    rw [o_ix (by omega), (h.st (gU_lt hu)).1]
    simpa [h1, hu] using K1
  · refine vU_strengthsOf_p4 (bx_t (b_self 16) ?_)
    rw [Nat.zero_add]
    exact H
theorem s_halfOf {Ψ : Int32 → e_TI → e_TL → e_TD → Prop} {n : Nat} (hn : n < 1000) (H : Ψ (Int32.ofNat (gHalf n)) I L D) : e_M 100 [.int (Int32.ofNat n)] (S0 I L D sc) (e_rI sc Ψ) := by
  refine vU_halfOf ?_
  rw [o_s, show (2 : Int32) = Int32.ofNat 2 from rfl, o_div (by omega) (by omega)]
  exact H
theorem s_forceOf {Ψ : Int32 → e_TI → e_TL → e_TD → Prop} (h : GR I L s) {u : Nat} {b : Bool} (hu : u < gMa s) (H : Ψ (Int32.ofNat (if b then gSt s u else gHalf (gSt s u))) I L D) : e_M 103 [.ref 6, .int (Int32.ofNat u), .int (e_b b)] (S0 I L D sc) (e_rI sc Ψ) := by
  have h2 := (h.st hu).2
  refine vU_forceOf (bx_b (fun h0 => ?_) (fun h1 => ?_))
  · refine s_strengthOf h hu (s_halfOf (by omega) ?_)
    rw [h0] at H
    exact H
  · refine s_strengthOf h hu ?_
    rw [h1] at H
    exact H
theorem s_allowanceOf {Ψ : Int32 → e_TI → e_TL → e_TD → Prop} (h : GR I L s) {u : Nat} {b : Bool} (hu : u < gMa s) (H : Ψ (Int32.ofNat (if b then gMv s u else gHalf (gMv s u))) I L D) : e_M 101 [.ref 6, .int (Int32.ofNat u), .int (e_b b)] (S0 I L D sc) (e_rI sc Ψ) := by
  have h2 := (h.mv hu).2
  refine vU_allowanceOf (bx_b (fun h0 => ?_) (fun h1 => ?_))
  · refine s_movementOf h hu (s_halfOf (by omega) ?_)
    rw [h0] at H
    exact H
  · refine s_movementOf h hu ?_
    rw [h1] at H
    exact H
theorem s_isFull {Ψ : Int32 → e_TI → e_TL → e_TD → Prop} (h : GR I L s) (H : Ψ (e_b (gMa s == 16)) I L D) : e_M 89 [.ref 6] (S0 I L D sc) (e_rI sc Ψ) := by
  have hm := h.ma
  refine vU_isFull ?_
  rw [h.tot]
  refine ⟨fun h1 => ?_, fun h1 => ?_⟩
  · rw [show (16 : Int32) = Int32.ofNat 16 from rfl, o_lt (by omega) (by omega)] at h1
    rw [beq_false_of_ne (by omega : gMa s ≠ 16)] at H
    exact H
  · rw [show (16 : Int32) = Int32.ofNat 16 from rfl, o_lt (by omega) (by omega)] at h1
    rw [show gMa s = 16 by omega] at H
    exact H
/-- is there such a unit -/
theorem s_exists {Ψ : Int32 → e_TI → e_TL → e_TD → Prop} (h : GR I L s) {x : Int32} (h1 : ∀ u, x = Int32.ofNat u → gU s u = true → Ψ 1 I L D) (h0 : (∀ u, u < 16 → x = Int32.ofNat u → gU s u = false) → Ψ 0 I L D) : e_M 95 [.ref 6, .int x] (S0 I L D sc) (e_rI sc Ψ) := by
  refine vU_exists ⟨fun hn => h0 (fun u hu e => absurd hn (e ▸ b_nn)), fun hn => ⟨fun hg => h0 (fun u hu e => absurd hg (e ▸ b_ge hu)), fun hg => ?_⟩⟩
  obtain ⟨u, hu9, rfl⟩ := o_rng hn hg
  have hu : u < 16 := hu9
  rw [h.pres]
  refine s_uhas (by omega) (bx_b (fun h2 => h0 (fun v hv e => ?_)) (fun h2 => h1 u rfl h2))
  rw [← (o_eq (by omega) (by omega)).mp e]
  exact h2
end
