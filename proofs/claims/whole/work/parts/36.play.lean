/-! the class's supply, forces, ways -/
noncomputable def gAttack (s : Nat → Int32) (c : Nat) : Int32 := if gWx s = 1 then Int32.ofNat (gForces s (gAtk s c)) - 1 else Int32.ofNat (gForces s (gAtk s c))
noncomputable def gDefense (s : Nat → Int32) (c : Nat) : Nat := gForces s (gDef s c) + gHt (gTer s c)
def gInS (s : Nat → Int32) (u v : Nat) : Bool := gOwn s (gSd s u) v || gKnown s (gSd s u) v
def gRoomS (s : Nat → Int32) (u c : Nat) : Bool := gRoom s (fun v => gInS s u v && !(v == u)) c (gSd s u) (gSt s u)
noncomputable def gReach (s : Nat → Int32) (u n c : Nat) : Bool := (decide (c < 63) && (decide (gWayC s u c ≤ n) && !(c == gPl s u))) && gRoomS s u c
section
variable {I : e_TI} {L : e_TL} {D : e_TD} {sc : e_TS} {s : Nat → Int32}
theorem gSupO_nw (h : GR I L s) {d c : Nat} (ho : gSupO s d c = true) : gNw s c = true := by
  unfold gSupO at ho
  simp only [Bool.and_eq_true, decide_eq_true_eq, Bool.not_eq_true'] at ho
  have h1 := h.ter ho.1
  have h2 := ho.2
  unfold gClosed gWat at h2
  simp only [Bool.or_eq_false_iff] at h2
  have h3 := h2.1.1
  rw [decide_eq_true ho.1, Bool.true_and] at h3
  unfold gNw
  apply decide_eq_true
  have : gTer s c ≠ 5 := by simpa using h3
  omega
theorem gSupF_lt {d c : Nat} (hf : gSupF s d c = true) : c < 63 := by
  unfold gSupF gSrc at hf
  simp only [Bool.and_eq_true, decide_eq_true_eq] at hf
  exact hf.1.1
theorem s_suppliedCells {Ψ : Int64 → e_TI → e_TL → e_TD → Prop} (h : GR I L s) {d : Nat} (hd : d ≤ 1) (H : ∀ L', Fr 14 19 I L I L' → WvW 14 L' s (gSupF s d) (gSupO s d) gNo gNo → Ψ (sL (gSup s d)) I L' D) : e_M 45 [.ref 1, .int (Int32.ofNat d)] (S0 I L D sc) (e_rL sc Ψ) := by
  refine vP_suppliedCells (s_closedFor h hd ?_)
  rw [h.wx.1]
  refine s_layOut_14 h (fun L1 hF1 hE1 => ?_)
  have h1 := h.fr hF1 (by decide)
  refine s_sourcesOf h1 (by omega) ?_
  have e1 : (sL (gClosed s d) ^^^ -1) &&& 9223372036854775807 = sL (gSupO s d) := by
    rw [sL_not, sL_all]
    refine sL_congr fun c _ => ?_
    unfold gSupO
    rw [Bool.and_comm]
  have e2 : sL (gSrc s d) &&& sL (gSupO s d) = sL (gSupF s d) := by
    rw [sL_and]
    refine sL_congr fun c _ => ?_
    unfold gSupO gSupF gSrc
    cases decide (c < 63) <;> simp
  rw [e1, e2, show (0 : Int64) = sL gNo from sL_zero]
  refine s_flood_14 h1 hE1 (fun c => gSupF_lt) (fun c => gSupO_nw h) (fun L2 hF2 hW2 => ?_)
  rw [h.rg.1]
  have := h.rg.2.1
  exact s_within_14 hW2 (by omega) (H L2 (hF1.tr hF2) hW2)
theorem s_isSupplied {Ψ : Int32 → e_TI → e_TL → e_TD → Prop} (h : GR I L s) {u : Nat} (hu : u < gMa s) (H : ∀ L', Fr 14 19 I L I L' → Ψ (e_b (gIsS s u)) I L' D) : e_M 99 [.ref 1, .int (Int32.ofNat u)] (S0 I L D sc) (e_rI sc Ψ) := by
  refine vP_isSupplied (s_sideOf h hu (s_suppliedCells h (h.sd hu) (fun L1 hF1 _ => ?_)))
  exact s_placeOf (h.fr hF1 (by decide)) hu (s_has (h.pl hu).2 ⟨e_b01 _, H L1 hF1⟩)
theorem s_allowance {Ψ : Int32 → e_TI → e_TL → e_TD → Prop} (h : GR I L s) {u : Nat} (hu : u < gMa s) (H : ∀ L', Fr 14 19 I L I L' → Ψ (Int32.ofNat (gAllow s u)) I L' D) : e_M 102 [.ref 1, .int (Int32.ofNat u)] (S0 I L D sc) (e_rI sc Ψ) :=
  vP_allowanceOf (s_isSupplied h hu (fun L1 hF1 => s_allowanceOf (h.fr hF1 (by decide)) hu (H L1 hF1)))
theorem s_sumOfForces {Ψ : Int32 → e_TI → e_TL → e_TD → Prop} (h : GR I L s) {d : Nat} {q : Nat → Bool} (hq : ∀ u, q u = true → gOwn s d u = true) (H : Ψ (Int32.ofNat (gForces s q)) I L D) : e_M 160 [.ref 1, .int (sI q), .long (sL (gSup s d))] (S0 I L D sc) (e_rI sc Ψ) := by
  refine vP_sumOfForces (loop_S (G := fun y i => e_Wp 160 6 [some (.ref 1), some (.int (sI q)), some (.long (sL (gSup s d))), none, some (.int y), some (.int i)] [] (S0 I L D sc) 0 0 (e_rI sc Ψ)) 0 (fun u => if q u && gU s u then gForce s u else 0) 16 (fun i y hi K0 K1 => ?_) ?_)
  · refine vP_sumOfForces_p6 (bx_f (b_ge hi) (s_uhas (by omega) (bx_b (fun h0 => K0 (by simp [h0])) (fun h1 => ?_))))
    have ho := hq i h1
    have hu := gOwn_U ho
    refine s_placeOf h (gU_lt hu) (s_has (h.pl (gU_lt hu)).2 (s_forceOf h (gU_lt hu) ?_))
    have hd : gSd s i = d := by
      unfold gOwn at ho
      simpa [hu] using ho
    have e : gForce s i = if gSup s d (gPl s i) = true then gSt s i else gHalf (gSt s i) := by
      unfold gForce gIsS
      rw [hd]
    rw [← e]
    simpa [h1, hu] using K1
  · refine vP_sumOfForces_p6 (bx_t (b_self 16) ?_)
    rw [Nat.zero_add]
    exact H
theorem s_forcesOf {Ψ : Int32 → e_TI → e_TL → e_TD → Prop} (h : GR I L s) {d : Nat} (hd : d ≤ 1) (H : ∀ L', Fr 14 19 I L I L' → Ψ (Int32.ofNat (gForces s (gOwn s d))) I L' D) : e_M 183 [.ref 1, .int (Int32.ofNat d)] (S0 I L D sc) (e_rI sc Ψ) :=
  vP_forcesOf (s_ownedBy h hd (s_suppliedCells h hd (fun L1 hF1 _ => s_sumOfForces (h.fr hF1 (by decide)) (fun _ hu => hu) (H L1 hF1))))
theorem gAtk_own {c u : Nat} (h : gAtk s c u = true) : gOwn s (gTu s) u = true := by
  unfold gAtk at h
  simp only [Bool.and_eq_true] at h
  exact h.1.1
theorem gDef_own {c u : Nat} (h : gDef s c u = true) : gOwn s (1 - gTu s) u = true := by
  unfold gDef at h
  simp only [Bool.and_eq_true] at h
  exact h.1
theorem s_attackFrom {Ψ : Int32 → e_TI → e_TL → e_TD → Prop} (h : GR I L s) {c : Nat} (hc : c < 63) (H : ∀ L', Fr 14 19 I L I L' → Ψ (gAttack s c) I L' D) : e_M 163 [.ref 1, .int (Int32.ofNat c)] (S0 I L D sc) (e_rI sc Ψ) := by
  have hw := h.wx.2
  refine vP_attackFrom (s_attackersOn h hc ?_)
  rw [h.tu.1]
  refine s_suppliedCells h h.tu.2 (fun L1 hF1 _ => s_sumOfForces (h.fr hF1 (by decide)) (fun _ => gAtk_own) ?_)
  rw [h.wx.1]
  have H1 := H L1 hF1
  unfold gAttack at H1
  refine ⟨fun hne => ?_, fun he => ?_⟩
  · rw [if_neg (fun e => hne (by rw [e]; rfl))] at H1
    exact H1
  · rw [if_pos ((o_eq (by omega) (by decide)).mp (Classical.not_not.mp he))] at H1
    exact H1
theorem s_defenseAt {Ψ : Int32 → e_TI → e_TL → e_TD → Prop} (h : GR I L s) {c : Nat} (hc : c < 63) (H : ∀ L', Fr 14 19 I L I L' → Ψ (Int32.ofNat (gDefense s c)) I L' D) : e_M 162 [.ref 1, .int (Int32.ofNat c)] (S0 I L D sc) (e_rI sc Ψ) := by
  refine vP_defenseAt (s_defendersOn h hc ?_)
  rw [h.tu.1, show (1 : Int32) = Int32.ofNat 1 from rfl, o_sub h.tu.2]
  refine s_suppliedCells h (by omega) (fun L1 hF1 _ => ?_)
  have h1 := h.fr hF1 (by decide)
  refine s_sumOfForces h1 (fun _ => gDef_own) (s_coverAt h1 hc ?_)
  rw [o_add]
  exact H L1 hF1
theorem gKZ63 (h : GR I L s) {u c : Nat} (hc : ¬ c < 63) : gKZ s u c = false := by
  unfold gKZ gZoneA
  rw [aro64 _ hc]
  rfl
theorem gWayO_nw (h : GR I L s) {u c : Nat} (ho : gWayO s u c = true) : gNw s c = true := by
  unfold gWayO gWat at ho
  simp only [Bool.and_eq_true, decide_eq_true_eq, Bool.not_eq_true', Bool.and_eq_false_iff] at ho
  have h1 := h.ter ho.1.1
  unfold gNw
  apply decide_eq_true
  have : gTer s c ≠ 5 := by
    rcases ho.1.2 with h2 | h2
    · exact absurd ho.1.1 (of_decide_eq_false h2)
    · simpa using h2
  omega
theorem s_floodWays {Ψ : e_TI → e_TL → e_TD → Prop} (h : GR I L s) {u : Nat} (hu : u < gMa s) (H : ∀ L', Fr 19 24 I L I L' → WvW 19 L' s (fun c => c == gPl s u) (gWayO s u) (gWayS s u) (gWayB s u) → Ψ I L' D) : e_M 126 [.ref 1, .int (Int32.ofNat u)] (S0 I L D sc) (e_rV sc Ψ) := by
  have hsd := h.sd hu
  have hpl := (h.pl hu).2
  have hk63 := cells63 h.1 (gKnown s (gSd s u)) (c := 63) (by decide)
  refine vP_floodWays (s_sideOf h hu (s_knownTo h hsd (s_placeOf h hu (s_only hpl (s_placesOf h (fun _ => gKnown_U) (s_zoneAround h hk63 (s_waters h (s_placesOf h (fun _ => gKnown_U) ?_))))))))
  have eO : ((sL (gWat s) ^^^ -1) &&& (sL (gCells s (gKnown s (gSd s u))) ^^^ -1)) &&& 9223372036854775807 = sL (gWayO s u) := by
    rw [sL_not, sL_not, sL_and, sL_all]
    refine sL_congr fun c _ => ?_
    unfold gWayO
    cases decide (c < 63) <;> simp
  have eS : sL (gZoneA s (gCells s (gKnown s (gSd s u)))) &&& (sL (fun i => i == gPl s u) ^^^ -1) = sL (gWayS s u) := by
    rw [sL_not, sL_and]
    rfl
  have hz : gZoneA s (gCells s (gKnown s (gSd s u))) = gKZ s u := rfl
  rw [eO, eS, sL_and, sL_eq0]
  refine ⟨fun hem => ?_, fun hne => ?_⟩
  · rw [h.wx.1]
    refine s_layOut_19 h (fun L1 hF1 hE1 => ?_)
    have hz0 : gKZ s u (gPl s u) = false := by simpa [hz] using hem (gPl s u) (by omega)
    rw [show (0 : Int64) = sL (gWayB s u) by
      rw [sL_zero]
      refine sL_congr fun c _ => ?_
      unfold gWayB
      rw [hz0]
      rfl]
    exact s_flood_19 (h.fr hF1 (by decide)) hE1 (fun c hc => by rw [beq_iff_eq] at hc; omega) (fun c => gWayO_nw h) (fun L2 hF2 hW2 => H L2 (hF1.tr hF2) hW2)
  · refine s_ownedBy h hsd (s_placesOf h (fun _ => gOwn_U) ?_)
    rw [h.wx.1]
    refine s_layOut_19 h (fun L1 hF1 hE1 => ?_)
    have hz1 : gKZ s u (gPl s u) = true := by
      cases hq : gKZ s u (gPl s u) with
      | true => rfl
      | false =>
        refine absurd (fun i _ => ?_) hne
        by_cases e : i = gPl s u
        · subst e
          rw [hz, hq]
          rfl
        · rw [beq_false_of_ne e, Bool.and_false]
    rw [show sL (gZoneA s (gCells s (gKnown s (gSd s u)))) &&& (sL (gCells s (gOwn s (gSd s u))) ^^^ -1) = sL (gWayB s u) by
      rw [sL_not, sL_and]
      refine sL_congr fun c _ => ?_
      unfold gWayB
      rw [hz1, hz]
      rfl]
    exact s_flood_19 (h.fr hF1 (by decide)) hE1 (fun c hc => by rw [beq_iff_eq] at hc; omega) (fun c => gWayO_nw h) (fun L2 hF2 hW2 => H L2 (hF1.tr hF2) hW2)
theorem s_unitsInSight {Ψ : Int32 → e_TI → e_TL → e_TD → Prop} (h : GR I L s) {u : Nat} (hu : u < gMa s) (H : Ψ (sI (gInS s u)) I L D) : e_M 127 [.ref 1, .int (Int32.ofNat u)] (S0 I L D sc) (e_rI sc Ψ) := by
  refine vP_unitsInSight (s_sideOf h hu (s_ownedBy h (h.sd hu) (s_knownTo h (h.sd hu) ?_)))
  rw [sI_or]
  exact H
theorem s_isRoomInSight {Ψ : Int32 → e_TI → e_TL → e_TD → Prop} (h : GR I L s) {u c : Nat} (hu : u < gMa s) (hc : c < 63) (H : Ψ (e_b (gRoomS s u c)) I L D) : e_M 145 [.ref 1, .int (Int32.ofNat u), .int (Int32.ofNat c)] (S0 I L D sc) (e_rI sc Ψ) :=
  vP_isRoomInSight (s_unitsInSight h hu (s_isRoomFor h hu hc ⟨e_b01 _, H⟩))
theorem s_reachOf {Ψ : Int64 → e_TI → e_TL → e_TD → Prop} (h : GR I L s) {u n : Nat} (hu : u < gMa s) (hn : n < 372) (H : ∀ L', Fr 19 24 I L I L' → Ψ (sL (gReach s u n)) I L' D) : e_M 129 [.ref 1, .int (Int32.ofNat u), .int (Int32.ofNat n)] (S0 I L D sc) (e_rL sc Ψ) := by
  refine vP_reachOf (s_floodWays h hu (fun L1 hF1 hW1 => s_within_19 hW1 hn ?_))
  have h1 := h.fr hF1 (by decide)
  refine s_placeOf h1 hu (s_only (h.pl hu).2 (s_unitsInSight h1 hu ?_))
  rw [sL_not, sL_and]
  refine loop_L (G := fun y i => e_Wp 129 43 [some (.ref 1), some (.int (Int32.ofNat u)), some (.int (Int32.ofNat n)), some (.long (sL fun c => (decide (c < 63) && decide (gWayC s u c ≤ n)) && !(c == gPl s u))), none, some (.int (sI (gInS s u))), some (.long y), none, some (.int i)] [] (S0 I L1 D sc) 0 0 (e_rL sc Ψ)) (fun a c => gReach s u n a && c == a) 63 (fun i y hi K0 K1 => ?_) ?_
  · refine vP_reachOf_p43 (bx_f (b_ge hi) (s_has hi (bx_b (fun h0 => K0 (fun c _ => ?_)) (fun h0 => s_isRoomFor h1 hu hi (bx_b (fun h2 => K0 (fun c _ => ?_)) (fun h2 => s_only hi (K1 _ (fun c _ => ?_))))))))
    · have : gReach s u n i = false := by
        unfold gReach
        rw [← Bool.and_assoc, h0]
        rfl
      rw [this]
      rfl
    · have : gReach s u n i = false := by
        unfold gReach gRoomS
        rw [h2, Bool.and_false]
      rw [this]
      rfl
    · have : gReach s u n i = true := by
        unfold gReach gRoomS
        rw [← Bool.and_assoc, h0, h2]
        rfl
      rw [this]
      rfl
  · refine vP_reachOf_p43 (bx_t (b_self 63) ?_)
    rw [sL_congr (q := gReach s u n)]
    · exact H L1 hF1
    · intro c _
      rw [Bool.eq_iff_iff]
      simp only [List.any_eq_true, List.mem_range, Bool.and_eq_true, beq_iff_eq]
      constructor
      · rintro ⟨a, _, h3, rfl⟩; exact h3
      · intro h3
        refine ⟨c, ?_, h3, rfl⟩
        unfold gReach at h3
        simp only [Bool.and_eq_true, decide_eq_true_eq] at h3
        exact h3.1.1
end
