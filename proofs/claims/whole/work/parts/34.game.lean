/-! the class's game, read -/
def gCanA (s : Nat → Int32) (u : Nat) : Bool := gSd s u == gTu s && !gAt s u
def gAtk (s : Nat → Int32) (c u : Nat) : Bool := gOwn s (gTu s) u && gPl s u == c && !gAt s u
def gDef (s : Nat → Int32) (c u : Nat) : Bool := gOwn s (1 - gTu s) u && gPl s u == c
theorem sum_le {f : Nat → Nat} {k : Nat} (h : ∀ u, f u ≤ k) : ∀ n, ((List.range n).map f).sum ≤ n * k
  | 0 => Nat.zero_le _
  | n + 1 => by
    rw [sum_s, Nat.succ_mul]
    exact Nat.add_le_add (sum_le h n) (h n)
theorem sum_congr {f g : Nat → Nat} (h : ∀ u, f u = g u) (n : Nat) : ((List.range n).map f).sum = ((List.range n).map g).sum := by
  rw [show f = g from funext h]
theorem cells63 {s : Nat → Int32} (hk : gok s) (q : Nat → Bool) {c : Nat} (hc : ¬ c < 63) : gCells s q c = false := by
  rw [Bool.eq_false_iff]
  intro h
  unfold gCells at h
  simp only [List.any_eq_true, Bool.and_eq_true, beq_iff_eq] at h
  obtain ⟨u, _, ⟨_, h1⟩, h2⟩ := h
  have := (hk.2.2.2.2.2 u (gU_lt h1)).2.1.2
  unfold gPl at h2
  omega
section
variable {I : e_TI} {L : e_TL} {D : e_TD} {sc : e_TS} {s : Nat → Int32}
theorem gStr_le (h : GR I L s) (q : Nat → Bool) : gStr s q ≤ 144 := by
  refine sum_le (k := 9) (fun u => ?_) 16
  by_cases hq : (q u && gU s u) = true
  · rw [if_pos hq]
    exact (h.st (gU_lt (Bool.and_eq_true _ _ ▸ hq).2)).2
  · rw [if_neg hq]
    exact Nat.zero_le _
theorem gU16 (h : GR I L s) {u : Nat} (hu : 16 ≤ u) : gU s u = false := by
  rw [Bool.eq_false_iff]
  intro h2
  have := gU_lt h2
  have := h.ma
  omega
theorem s_isRoomAt {Ψ : Int32 → e_TI → e_TL → e_TD → Prop} (h : GR I L s) {c d n : Nat} {q : Nat → Bool} (hc : c < 63) (hd : d ≤ 1) (hn : n < 1000) (H : Ψ (e_b (gRoom s q c d n)) I L D) : e_M 91 [.ref 6, .int (Int32.ofNat c), .int (Int32.ofNat d), .int (Int32.ofNat n), .int (sI q)] (S0 I L D sc) (e_rI sc Ψ) := by
  have hq' : ∀ u, ((gU s u && gPl s u == c) && q u) = true → gU s u = true := by
    intro u hu
    simp only [Bool.and_eq_true] at hu
    exact hu.1.1
  have e1 : (List.range 16).countP (fun u => (gU s u && gPl s u == c) && q u) = (List.range 16).countP fun u => q u && gOn s c u := by
    apply List.countP_congr
    intro u _
    unfold gOn
    rw [Bool.and_comm]
  have e2 : gStr s (fun u => (gU s u && gPl s u == c) && q u) = ((List.range 16).map fun u => if q u && gOn s c u then gSt s u else 0).sum := by
    refine sum_congr (fun u => ?_) 16
    show (if ((gU s u && gPl s u == c) && q u && gU s u) = true then gSt s u else 0) = (if (q u && (gU s u && gPl s u == c)) = true then gSt s u else 0)
    rw [show ((gU s u && gPl s u == c) && q u && gU s u) = (q u && (gU s u && gPl s u == c)) by cases gU s u <;> cases q u <;> cases gPl s u == c <;> rfl]
  have hle := gStr_le h (fun u => (gU s u && gPl s u == c) && q u)
  have hcp : (List.range 16).countP (fun u => (gU s u && gPl s u == c) && q u) ≤ 16 := by
    have := List.countP_le_length (p := fun u => (gU s u && gPl s u == c) && q u) (l := List.range 16)
    simpa using this
  refine vU_isRoomAt (s_only hc (s_standingIn h ?_))
  rw [show (1 : Int32) = Int32.ofNat 1 from rfl, o_sub hd]
  refine s_ownedBy h (by omega) ?_
  rw [sI_and, sI_and, sI_eq0]
  refine ⟨fun hne => ?_, fun he => ?_⟩
  · have : gRoom s q c d n = false := by
      rw [Bool.eq_false_iff]
      intro hr
      apply hne
      intro u hu
      unfold gRoom at hr
      simp only [Bool.and_eq_true, List.all_eq_true, List.mem_range] at hr
      rw [Bool.eq_false_iff]
      intro h2
      simp only [Bool.and_eq_true, beq_iff_eq] at h2
      obtain ⟨⟨⟨h3, h4⟩, h5⟩, h6⟩ := h2
      have hlt := gU_lt h3
      have hm := h.ma
      have h7 := hr.1.1 u (by omega)
      unfold gOn at h7
      unfold gOwn at h6
      simp only [Bool.and_eq_true, beq_iff_eq] at h6
      simp [h3, h4, h5] at h7
      omega
    rw [this] at H
    exact H
  · have he := Classical.not_not.mp he
    have hall : ((List.range 16).all fun u => !(q u && gOn s c u) || gSd s u == d) = true := by
      rw [List.all_eq_true]
      intro u hu
      rw [List.mem_range] at hu
      have h2 := he u (by omega)
      unfold gOwn at h2
      unfold gOn
      cases h3 : gU s u with
      | false => simp
      | true =>
        cases h4 : q u with
        | false => simp
        | true =>
          by_cases h5 : gPl s u = c
          · have h6 := h.sd (gU_lt h3)
            have h7 : ¬ gSd s u = 1 - d := by simpa [h3, h4, h5] using h2
            have : gSd s u = d := by omega
            simp [this]
          · simp [h5]
    refine s_bitCount (fun u h1 _ => by rw [gU16 h h1]; rfl) ⟨fun h2 => ?_, fun h2 => s_strengthsOf h hq' ?_⟩
    · rw [show (2 : Int32) = Int32.ofNat 2 from rfl, o_lt (by omega) (by omega), e1] at h2
      have : gRoom s q c d n = false := by
        unfold gRoom
        rw [decide_eq_false (p := (List.range 16).countP (fun u => q u && gOn s c u) ≤ 2) (by omega)]
        simp
      rw [this] at H
      exact H
    · rw [show (2 : Int32) = Int32.ofNat 2 from rfl, o_lt (by omega) (by omega), e1] at h2
      rw [o_add]
      refine ⟨fun h3 => ?_, fun h3 => ?_⟩
      · rw [show (12 : Int32) = Int32.ofNat 12 from rfl, o_lt (by omega) (by omega), e2] at h3
        have : gRoom s q c d n = false := by
          unfold gRoom
          rw [decide_eq_false (p := ((List.range 16).map fun u => if q u && gOn s c u then gSt s u else 0).sum + n ≤ 12) (by omega)]
          simp
        rw [this] at H
        exact H
      · rw [show (12 : Int32) = Int32.ofNat 12 from rfl, o_lt (by omega) (by omega), e2] at h3
        have : gRoom s q c d n = true := by
          unfold gRoom
          rw [hall, decide_eq_true (p := ((List.range 16).map fun u => if q u && gOn s c u then gSt s u else 0).sum + n ≤ 12) (by omega), decide_eq_true (p := (List.range 16).countP (fun u => q u && gOn s c u) ≤ 2) (by omega)]
          rfl
        rw [this] at H
        exact H
theorem s_isRoomFor {Ψ : Int32 → e_TI → e_TL → e_TD → Prop} (h : GR I L s) {u c : Nat} {q : Nat → Bool} (hu : u < gMa s) (hc : c < 63) (H : Ψ (e_b (gRoom s (fun v => q v && !(v == u)) c (gSd s u) (gSt s u))) I L D) : e_M 128 [.ref 6, .int (Int32.ofNat u), .int (Int32.ofNat c), .int (sI q)] (S0 I L D sc) (e_rI sc Ψ) := by
  have hm := h.ma
  refine vU_isRoomFor (s_sideOf h hu (s_strengthOf h hu (s_uonly (by omega) ?_)))
  rw [sI_not, sI_and]
  exact s_isRoomAt h hc (h.sd hu) (by have := (h.st hu).2; omega) ⟨e_b01 _, H⟩
theorem s_sightRange {Ψ : Int32 → e_TI → e_TL → e_TD → Prop} (h : GR I L s) (H : Ψ (Int32.ofNat (gSight s)) I L D) : e_M 86 [.ref 2] (S0 I L D sc) (e_rI sc Ψ) := by
  refine vG_sightRange ?_
  rw [h.wx.1]
  have hw := h.wx.2
  refine s_read_X11 (by omega) ?_
  rw [show e_xt 11 (gWx s) = Int32.ofNat (gSight s) from xt11 ⟨gWx s, by omega⟩]
  exact H
theorem gSight_le (h : GR I L s) : gSight s ≤ 4 := by
  have hw := h.wx.2
  have : ∀ w : Fin 3, (([4, 2, 3] : List Nat).getD w.1 0) ≤ 4 := by decide +kernel
  exact this ⟨gWx s, by omega⟩
theorem s_canAttack {Ψ : Int32 → e_TI → e_TL → e_TD → Prop} (h : GR I L s) {u : Nat} (hu : u < gMa s) (H : Ψ (e_b (gCanA s u)) I L D) : e_M 105 [.ref 2, .int (Int32.ofNat u)] (S0 I L D sc) (e_rI sc Ψ) := by
  have hm := h.ma
  have h2 := h.sd hu
  have h3 := h.tu.2
  refine vG_canAttack (s_sideOf h hu ?_)
  rw [h.tu.1]
  refine ⟨fun hne => ?_, fun he => ?_⟩
  · have : gSd s u ≠ gTu s := fun e => hne (by rw [e])
    rw [show gCanA s u = false by simp [gCanA, this]] at H
    exact H
  · have e := (o_eq (by omega) (by omega)).mp (Classical.not_not.mp he)
    refine s_attackedAlready h (s_uhas (by omega) ?_)
    rw [decide_eq_true hu, Bool.true_and]
    refine bx_n (fun h4 => ?_) (fun h4 => ?_)
    · rw [show gCanA s u = false by simp [gCanA, h4]] at H
      exact H
    · rw [show gCanA s u = true by simp [gCanA, h4, e]] at H
      exact H
theorem s_canMove {Ψ : Int32 → e_TI → e_TL → e_TD → Prop} (h : GR I L s) {u : Nat} (hu : u < gMa s) (H : Ψ (e_b (gCanA s u && !gMd s u)) I L D) : e_M 107 [.ref 2, .int (Int32.ofNat u)] (S0 I L D sc) (e_rI sc Ψ) := by
  refine vG_canMove (s_canAttack h hu (bx_b (fun h0 => ?_) (fun h1 => s_hasMoved h hu (bx_n (fun h2 => ?_) (fun h2 => ?_)))))
  · rw [h0] at H
    exact H
  · rw [h1, h2] at H
    exact H
  · rw [h1, h2] at H
    exact H
theorem s_attackersOn {Ψ : Int32 → e_TI → e_TL → e_TD → Prop} (h : GR I L s) {c : Nat} (hc : c < 63) (H : Ψ (sI (gAtk s c)) I L D) : e_M 157 [.ref 2, .int (Int32.ofNat c)] (S0 I L D sc) (e_rI sc Ψ) := by
  refine vG_attackersOn (s_on h hc ?_)
  rw [h.tu.1]
  refine s_ownedBy h h.tu.2 (s_attackedAlready h ?_)
  rw [sI_not, sI_and, sI_and, sI_congr (q := gAtk s c)]
  · exact H
  · intro u _
    unfold gAtk gOn gOwn
    cases hu : gU s u with
    | false => simp
    | true =>
      rw [decide_eq_true (gU_lt hu)]
      cases gPl s u == c <;> cases gSd s u == gTu s <;> rfl
theorem s_defendersOn {Ψ : Int32 → e_TI → e_TL → e_TD → Prop} (h : GR I L s) {c : Nat} (hc : c < 63) (H : Ψ (sI (gDef s c)) I L D) : e_M 158 [.ref 2, .int (Int32.ofNat c)] (S0 I L D sc) (e_rI sc Ψ) := by
  refine vG_defendersOn (s_on h hc ?_)
  rw [h.tu.1, show (1 : Int32) = Int32.ofNat 1 from rfl, o_sub h.tu.2]
  refine s_ownedBy h (by omega) ?_
  rw [sI_and, sI_congr (q := gDef s c)]
  · exact H
  · intro u _
    unfold gDef gOn gOwn
    cases gU s u <;> cases gPl s u == c <;> cases gSd s u == 1 - gTu s <;> rfl
theorem s_zoneOf {Ψ : Int64 → e_TI → e_TL → e_TD → Prop} (h : GR I L s) {d : Nat} (hd : d ≤ 1) (H : Ψ (sL (gZone s d)) I L D) : e_M 117 [.ref 2, .int (Int32.ofNat d)] (S0 I L D sc) (e_rL sc Ψ) :=
  vG_zoneOf (s_ownedBy h hd (s_placesOf h (fun _ => gOwn_U) (s_zoneAround h (cells63 h.1 _ (by decide)) H)))
theorem s_closedFor {Ψ : Int64 → e_TI → e_TL → e_TD → Prop} (h : GR I L s) {d : Nat} (hd : d ≤ 1) (H : Ψ (sL (gClosed s d)) I L D) : e_M 34 [.ref 2, .int (Int32.ofNat d)] (S0 I L D sc) (e_rL sc Ψ) := by
  refine vG_closedFor (s_ownedBy h hd (s_placesOf h (fun _ => gOwn_U) ?_))
  rw [show (1 : Int32) = Int32.ofNat 1 from rfl, o_sub hd]
  refine s_ownedBy h (by omega) (s_placesOf h (fun _ => gOwn_U) (s_waters h (s_zoneAround h (cells63 h.1 _ (by decide)) ?_)))
  rw [sL_not, sL_or, sL_and, sL_or]
  exact H
theorem s_seenBy {Ψ : Int64 → e_TI → e_TL → e_TD → Prop} (h : GR I L s) {d : Nat} (hd : d ≤ 1) (H : Ψ (sL (gSeen s d)) I L D) : e_M 111 [.ref 2, .int (Int32.ofNat d)] (S0 I L D sc) (e_rL sc Ψ) := by
  refine vG_seenBy (s_ownedBy h hd (s_placesOf h (fun _ => gOwn_U) ?_))
  refine loop_L (G := fun y i => e_Wp 111 22 [some (.ref 2), some (.int (Int32.ofNat d)), some (.long (sL (gCells s (gOwn s d)))), none, some (.long y), none, some (.int i)] [] (S0 I L D sc) 0 0 (e_rL sc Ψ)) (fun a b => gCells s (gOwn s d) a && (decide (b < 63) && gSeeR s (gSight s) a b)) 63 (fun i y hi K0 K1 => ?_) ?_
  · refine vG_seenBy_p22 (bx_f (b_ge hi) (s_has hi (bx_b (fun h0 => K0 (fun c _ => by simp [h0])) (fun h1 => s_sightRange h (s_seenFrom h hi (gSight_le h) (K1 _ (fun c _ => ?_)))))))
    rw [h1, Bool.true_and]
  · refine vG_seenBy_p22 (bx_t (b_self 63) ?_)
    rw [sL_congr (q := gSeen s d)]
    · exact H
    · intro b _
      unfold gSeen gCells
      rw [Bool.eq_iff_iff]
      simp only [List.any_eq_true, List.mem_range, Bool.and_eq_true, beq_iff_eq, decide_eq_true_eq]
      constructor
      · rintro ⟨a, ha, ⟨u, hu, ⟨h1, h2⟩, rfl⟩, hb, h3⟩
        exact ⟨hb, u, hu, h1, h3⟩
      · rintro ⟨hb, u, hu, h1, h3⟩
        have h2 := gOwn_U h1
        exact ⟨_, (h.pl (gU_lt h2)).2, ⟨u, hu, ⟨h1, h2⟩, rfl⟩, hb, h3⟩
theorem s_knownTo {Ψ : Int32 → e_TI → e_TL → e_TD → Prop} (h : GR I L s) {d : Nat} (hd : d ≤ 1) (H : Ψ (sI (gKnown s d)) I L D) : e_M 114 [.ref 2, .int (Int32.ofNat d)] (S0 I L D sc) (e_rI sc Ψ) := by
  refine vG_knownTo ?_
  rw [show (1 : Int32) = Int32.ofNat 1 from rfl, o_sub hd]
  refine s_ownedBy h (by omega) (s_seenBy h hd (s_standingIn h ?_))
  rw [sI_and, sI_congr (q := gKnown s d)]
  · exact H
  · intro u _
    unfold gKnown gOwn
    cases gU s u <;> cases gSd s u == 1 - d <;> rfl
end
