/-! the class's face: moves, maps, the ratio -/
noncomputable def aBalance (s : Nat → Int32) : Nat × UInt64 := if gForces s (gOwn s 1) = 0 then (1, 0) else (0, FP.ddiv (FP.i2d (Int32.ofNat (gForces s (gOwn s 0)))) (FP.i2d (Int32.ofNat (gForces s (gOwn s 1)))))
def finD (ex : List String) (χ : String → e_TI → e_TL → e_TD → Prop) (Ψ : UInt64 → e_TI → e_TL → e_TD → Prop) (a : Nat × UInt64) (I : e_TI) (L : e_TL) (D : e_TD) : Prop := if a.1 = 0 then Ψ a.2 I L D else χ (ex.getD (a.1 - 1) "") I L D
theorem finD_o {ex : List String} {χ : String → e_TI → e_TL → e_TD → Prop} {I : e_TI} {L : e_TL} {D : e_TD} {Ψ : UInt64 → e_TI → e_TL → e_TD → Prop} {a : Nat × UInt64} {v : UInt64} (h : finD ex χ Ψ a I L D) (ha : a = (0, v)) : Ψ v I L D := by
  rw [ha] at h
  exact h
theorem finD_e {ex : List String} {χ : String → e_TI → e_TL → e_TD → Prop} {I : e_TI} {L : e_TL} {D : e_TD} {Ψ : UInt64 → e_TI → e_TL → e_TD → Prop} {a : Nat × UInt64} {k : Nat} {v : UInt64} {E : String} (h : finD ex χ Ψ a I L D) (ha : a = (k + 1, v)) (hE : ex.getD k "" = E := by rfl) : χ E I L D := by
  rw [ha] at h
  rw [← hE]
  exact h
noncomputable def wMove (w : Wd) (x y : Int32) : Wd := if (aMove (wG w) x y).1 = 0 then wCh w (gMove (wG w) (nx x) (nx y)) else if (aMove (wG w) x y).1 = 4 then wRp w (gRep (wG w) (nx x) (nx y)) else w
section
variable {I : e_TI} {L : e_TL} {D : e_TD} {sc : e_TS} {w : Wd} {Ψ : Int32 → e_TI → e_TL → e_TD → Prop} {χ : String → e_TI → e_TL → e_TD → Prop}
theorem gForces_le {s : Nat → Int32} (h : GR I L s) (q : Nat → Bool) : gForces s q ≤ 144 := by
  refine sum_le (k := 9) (fun u => ?_) 16
  by_cases hq : (q u && gU s u) = true
  · rw [if_pos hq]
    have := (h.st (gU_lt (Bool.and_eq_true _ _ ▸ hq).2)).2
    unfold gForce gHalf
    split <;> omega
  · rw [if_neg hq]
    exact Nat.zero_le _
theorem sC_balance {Ψ : UInt64 → e_TI → e_TL → e_TD → Prop} (h : CW I L w) (H : ∀ L', Fr 14 19 I L I L' → finD [xM] χ Ψ (aBalance (wG w)) I L' D) : e_M 184 [.ref 0] (S0 I L D sc) (e_xD sc Ψ χ) := by
  have l0 := gForces_le h.1 (gOwn (wG w) 0)
  have l1 := gForces_le h.1 (gOwn (wG w) 1)
  have fd := @fp_div1 (gForces (wG w) (gOwn (wG w) 0)) (gForces (wG w) (gOwn (wG w) 1)) l0
  have fp := @fp_pos1 (gForces (wG w) (gOwn (wG w) 1)) l1
  have key : ∀ L2, Fr 14 19 I L I L2 → (gForces (wG w) (gOwn (wG w) 1) ≠ 0 → Ψ (FP.ddiv (FP.i2d (Int32.ofNat (gForces (wG w) (gOwn (wG w) 0)))) (FP.i2d (Int32.ofNat (gForces (wG w) (gOwn (wG w) 1))))) I L2 D) ∧ (gForces (wG w) (gOwn (wG w) 1) = 0 → χ xM I L2 D) := by
    obtain ⟨A, hA⟩ : ∃ A, aBalance (wG w) = A := ⟨_, rfl⟩
    rw [hA] at H
    intro L2 hF
    unfold aBalance at hA
    refine ⟨fun hne => finD_o (H L2 hF) ?_, fun he => finD_e (k := 0) (v := 0) (H L2 hF) ?_⟩
    · rw [← hA, if_neg hne]
    · rw [← hA, if_pos he]
  exact vC_balance (s_forcesOf (d := 0) h.1 (by decide) (fun L1 hF1 => s_forcesOf (d := 1) (h.1.fr hF1 (by decide)) (by decide) (fun L2 hF2 => ⟨fun hp => ⟨fd (Nat.pos_of_ne_zero (fp.mp hp)) l1, (key L2 (hF1.tr hF2)).1 (fp.mp hp)⟩, fun hp => (key L2 (hF1.tr hF2)).2 (Classical.byContradiction (fun hne => hp (fp.mpr hne)))⟩)))
/-- a row of the report more -/
theorem rp_app {l : Nat} {rc rd : Nat → Int32} (h : RpR I l rc rd) (hl : l < 3) {x y : Int32} : RpR (e_up (e_up (e_up I 135 l x) 136 l y) 134 2 (Int32.ofNat (l + 1))) (l + 1) (fun i => if i = l then x else rc i) (fun i => if i = l then y else rd i) := by
  refine ⟨up_same, by omega, fun i hi => ?_⟩
  have a1 : e_up (e_up (e_up I 135 l x) 136 l y) 134 2 (Int32.ofNat (l + 1)) 135 = e_up I 135 l x 135 := by rw [up_cell (by decide), up_cell (by decide)]
  have a2 : e_up (e_up (e_up I 135 l x) 136 l y) 134 2 (Int32.ofNat (l + 1)) 136 = e_up (e_up I 135 l x) 136 l y 136 := by rw [up_cell (by decide)]
  rw [a1, a2]
  show e_up I 135 l x 135 i = (if i = l then x else rc i) ∧ e_up (e_up I 135 l x) 136 l y 136 i = (if i = l then y else rd i)
  by_cases e : i = l
  · rw [e, up_same, up_same, if_pos rfl, if_pos rfl]
    exact ⟨rfl, rfl⟩
  · rw [up_slot e, up_slot e, if_neg e, if_neg e, up_cell (by decide)]
    exact h.2.2 i (by omega)
theorem RpR.congr {l : Nat} {rc rd rc' rd' : Nat → Int32} (h : RpR I l rc rd) (h1 : ∀ i, i < l → rc i = rc' i ∧ rd i = rd' i) : RpR I l rc' rd' := ⟨h.1, h.2.1, fun i hi => ⟨(h.2.2 i hi).1.trans (h1 i hi).1, (h.2.2 i hi).2.trans (h1 i hi).2⟩⟩
/-- the report's cells alone have changed -/
theorem CW.rp (h : CW I L w) {I' : e_TI} (hF : Fr 134 137 I L I' L) {r : Nat × (Nat → Int32) × (Nat → Int32)} (hr : RpR I' r.1 r.2.1 r.2.2) : CW I' L (wRp w r) := by
  obtain ⟨h1, ⟨h2, h3⟩, h4, h5, h6⟩ := h
  refine ⟨⟨h1.1, h1.2.fr hF (by decide)⟩, ⟨?_, fun hs => ⟨(h3 hs).1, (h3 hs).2.fr hF (by decide)⟩⟩, h4.fr hF (by decide), hr, ?_⟩
  · rw [(hF 0 (by decide)).1]; exact h2
  · show BfR I' (wN w) (wB w)
    unfold BfR at h6 ⊢
    rw [(hF 137 (by decide)).1, (hF 138 (by decide)).1]
    exact h6
theorem s_explain {Ψ : e_TI → e_TL → e_TD → Prop} (h : GR I L (wG w)) {u c : Nat} (hu : u < gMa (wG w)) (hc : c < 63) (htu : gSd (wG w) u = gTu (wG w)) {least : Int32} (hle : (least = -1 ∧ gWayC (wG w) u c = 1000000) ∨ (least = Int32.ofNat (gWayC (wG w) u c) ∧ gWayC (wG w) u c ≤ 372)) (hal : gAllow (wG w) u ≤ 12)
    (hr : RpR I 1 (fun _ => 1) (fun _ => Int32.ofNat u)) (H : ∀ I', Fr 134 137 I L I' L → RpR I' (gRep (wG w) u c).1 (gRep (wG w) u c).2.1 (gRep (wG w) u c).2.2 → Ψ I' L D) : e_M 148 [.ref 0, .int (Int32.ofNat c), .int least, .int (Int32.ofNat (gAllow (wG w) u)), .int (e_b (gIsS (wG w) u))] (S0 I L D sc) (e_rV sc Ψ) := by
  have hF : ∀ {l : Nat} {x y : Int32}, Fr 134 137 I L (e_up (e_up (e_up I 135 l x) 136 l y) 134 2 (Int32.ofNat (l + 1))) L := ((Fr.rf.upI (by decide)).upI (by decide)).upI (by decide)
  have two : ∀ i, i < 1 + 1 → i = 0 ∨ i = 1 := fun i hi => by omega
  unfold gRep at H
  refine vC_explainRefusal ?_
  rcases hle with ⟨rfl, hw⟩ | ⟨rfl, hw⟩
  · refine bx_f (fun e => e rfl) (s_rpAppend (l := 1) (by decide) hr.1 ?_)
    rw [if_pos hw] at H
    refine H _ hF ((rp_app hr (by decide)).congr (fun i hi => ?_))
    rcases two i hi with rfl | rfl <;> exact ⟨rfl, rfl⟩
  · rw [if_neg (by omega)] at H
    refine bx_t (o_ne1 (by omega)) ?_
    rw [o_le (by omega) (by omega)]
    refine ⟨fun hin => s_on h hc ?_, fun hout => s_rpAppend (l := 1) (by decide) hr.1 ?_⟩
    · rw [if_neg (by omega)] at H
      rw [h.tu.1, ← htu]
      refine s_ownedBy h (h.sd hu) ?_
      rw [sI_and]
      refine s_bitCount (fun v h1 _ => ?_) (s_rpAppend (l := 1) (by decide) hr.1 (H _ hF ((rp_app hr (by decide)).congr (fun i hi => ?_))))
      · have : gOn (wG w) c v = false := by
          rw [Bool.eq_false_iff]
          intro ho
          have := gU16 h h1
          rw [gOn_U ho] at this
          cases this
        rw [this]
        rfl
      · rcases two i hi with rfl | rfl <;> exact ⟨rfl, rfl⟩
    · rw [if_pos (by omega)] at H
      refine bx_n (fun hs => ?_) (fun hs => s_rpAppend (l := 2) (by decide) up_same ?_)
      · rw [hs] at H
        refine H _ hF ((rp_app hr (by decide)).congr (fun i hi => ?_))
        rcases two i hi with rfl | rfl <;> exact ⟨rfl, rfl⟩
      · rw [hs] at H
        refine H _ ((((((Fr.rf.upI (by decide)).upI (by decide)).upI (by decide)).upI (by decide)).upI (by decide)).upI (by decide)) ((rp_app (rp_app hr (by decide)) (by decide)).congr (fun i hi => ?_))
        have : i = 0 ∨ i = 1 ∨ i = 2 := by omega
        rcases this with rfl | rfl | rfl <;> exact ⟨rfl, rfl⟩
theorem sC_move (h : CW I L w) {x y : Int32} (H : ∀ I' L', Fr 0 139 I L I' L' → CW I' L' (wMove w x y) → finI [xI, xA, xS, xU] χ Ψ (aMove (wG w) x y) I' L' D) : e_M 155 [.ref 0, .int x, .int y] (S0 I L D sc) (e_xI sc Ψ χ) := by
  have hm := h.1.ma
  have er : ∀ k, k < 3 → aMove (wG w) x y = (k + 1, 0) → χ (([xI, xA, xS, xU] : List String).getD k "") I L D := fun k hk e => by
    refine finI_e (k := k) (v := 0) (H I L Fr.rf ?_) e
    unfold wMove
    rw [e, if_neg (Nat.succ_ne_zero k), if_neg (show ¬ k + 1 = 4 by omega)]
    exact h
  refine vC_move (s_checkUnit h.1 (fun u e hu => s_checkCell (fun c hc e2 => ?_) (fun hn => er 0 (by decide) (by unfold aMove; rw [hn, Bool.and_false]; rfl))) (fun hn => er 0 (by decide) (by unfold aMove; rw [hn]; rfl)))
  subst e
  subst e2
  have hlt := gU_lt hu
  have hpl := (h.1.pl hlt).2
  have hal := gAllow_le h hlt
  have e0 : aMove (wG w) (Int32.ofNat u) (Int32.ofNat c) = if gPl (wG w) u = c then (2, 0) else if (gCanA (wG w) u && !gMd (wG w) u) = false then (3, 0) else if gCanR (wG w) u c = false then (4, 0) else (0, Int32.ofNat (gEnd (wG w) u c)) := by
    unfold aMove
    rw [iU_of (by omega), hu, iC_of hc, nx_of (by omega), nx_of (by omega)]
    rfl
  have en : wMove w (Int32.ofNat u) (Int32.ofNat c) = if (aMove (wG w) (Int32.ofNat u) (Int32.ofNat c)).1 = 0 then wCh w (gMove (wG w) u c) else if (aMove (wG w) (Int32.ofNat u) (Int32.ofNat c)).1 = 4 then wRp w (gRep (wG w) u c) else w := by
    unfold wMove
    rw [nx_of (by omega), nx_of (by omega)]
  refine s_placeOf h.1 hlt ⟨fun hne => s_canMove h.1 hlt (bx_n (fun hcm => ?_) (fun hcm => ?_)), fun he => er 1 (by decide) (by rw [e0, if_pos ((o_eq (by omega) (by omega)).mp (Classical.not_not.mp he))])⟩
  · have hne' : gPl (wG w) u ≠ c := fun e => hne (by rw [e])
    rw [if_neg hne', hcm, if_neg (by decide)] at e0
    have htu : gSd (wG w) u = gTu (wG w) := by
      unfold gCanA at hcm
      simp only [Bool.and_eq_true, beq_iff_eq] at hcm
      exact hcm.1.1
    -- the refusal
    have refuse : ∀ (I1 : e_TI) (L1 : e_TL) (least : Int32), Fr 14 24 I L I1 L1 → ((least = -1 ∧ gWayC (wG w) u c = 1000000) ∨ (least = Int32.ofNat (gWayC (wG w) u c) ∧ gWayC (wG w) u c ≤ 372)) → gCanR (wG w) u c = false →
        e_M 147 [.ref 134, .int (Int32.ofNat u)] (S0 I1 L1 D sc) (e_rV sc (fun I8 L8 D8 => e_M 148 [.ref 0, .int (Int32.ofNat c), .int least, .int (Int32.ofNat (gAllow (wG w) u)), .int (e_b (gIsS (wG w) u))] (S0 I8 L8 D8 sc) (e_rV sc (fun I9 L9 D9 => χ "java/lang/UnsupportedOperationException" I9 L9 D9)))) := by
      intro I1 L1 least hF hl hcr
      have h1 := h.same hF
      rw [hcr, if_pos rfl] at e0
      have hFb : Fr 134 137 I1 L1 (e_up (e_up (e_up (e_up I1 134 2 0) 135 0 1) 136 0 (Int32.ofNat u)) 134 2 (Int32.ofNat 1)) L1 := (((Fr.rf.upI (by decide)).upI (by decide)).upI (by decide)).upI (by decide)
      refine s_rpBegin (s_explain (w := w) ⟨h1.1.1, h1.1.2.fr hFb (by decide)⟩ hlt hc htu hl hal ⟨up_same, by decide, fun i hi => ?_⟩ (fun I2 hF2 hr2 => ?_))
      · have : i = 0 := by omega
        subst this
        refine ⟨?_, ?_⟩
        · rw [up_cell (c := 134) (by decide), up_cell (c := 136) (by decide), up_same]
        · rw [up_cell (c := 134) (by decide), up_same]
      · refine finI_e (k := 3) (v := 0) (H I2 L1 ((hF.mono (by decide) (by decide)).tr ((hFb.tr hF2).mono (by decide) (by decide))) ?_) e0
        rw [en, e0, if_neg (by decide), if_pos rfl]
        exact h1.rp (hFb.tr hF2) hr2
    refine s_isSupplied h.1 hlt (fun L1 hF1 => s_allowanceOf (h.1.fr hF1 (by decide)) hlt ?_)
    have h1 := h.1.fr hF1 (by decide)
    have hF1' : Fr 14 24 I L I L1 := hF1.mono (by decide) (by decide)
    have eal : (if gIsS (wG w) u = true then gMv (wG w) u else gHalf (gMv (wG w) u)) = gAllow (wG w) u := rfl
    rw [eal]
    refine s_findWay h1 hlt hc (fun e => absurd e hne') (fun _ hw L2 hF2 => ?_) (fun _ hw I2 L2 hF2 hT => ?_)
    · refine bx_t rfl (refuse I L2 (-1) (hF1'.tr (hF2.mono (by decide) (by decide))) (Or.inl ⟨rfl, hw⟩) ?_)
      unfold gCanR
      rw [decide_eq_false (by omega)]
      rfl
    · refine bx_f (o_ne1 (by omega)) ⟨fun hlt2 => refuse I2 L2 _ (hF1'.tr (hF2.mono (by decide) (by decide))) (Or.inr ⟨rfl, hw⟩) ?_, fun hge2 => ?_⟩
      · have hlt3 : gAllow (wG w) u < gWayC (wG w) u c := (o_lt (by omega) (by omega)).mp hlt2
        unfold gCanR
        rw [decide_eq_false (by omega)]
        rfl
      · have hge3 : ¬ gAllow (wG w) u < gWayC (wG w) u c := fun hl => hge2 ((o_lt (by omega) (by omega)).mpr hl)
        have h2 := h1.fr hF2 (by decide)
        refine s_isRoomInSight h2 hlt hc (bx_n (fun hrm => ?_) (fun hrm => refuse I2 L2 _ (hF1'.tr (hF2.mono (by decide) (by decide))) (Or.inr ⟨rfl, hw⟩) ?_))
        · have hcr : gCanR (wG w) u c = true := by
            unfold gCanR
            rw [decide_eq_true (by omega), hrm]
            rfl
          rw [hcr, if_neg (by decide)] at e0
          obtain ⟨hn, _, _, hwy⟩ := gLen_ok h.1 hlt hw
          have hC2 := h.same (hF1'.tr (hF2.mono (by decide) (by decide)))
          refine s_keep h2 hC2.2.2.1 (fun I3 L3 hF3 hH3 => ?_)
          have h3 := hC2.kept hF3 hH3
          have hT3 : TrW I3 (wG w) u c := by
            unfold TrW at hT ⊢
            rw [(hF3 19 (by decide)).1, (hF3 23 (by decide)).1]
            exact hT
          refine s_march h3.1 hlt hT3 hn hwy (fun I4 hF4 hG4' => ?_)
          have hG4 : GR I4 L3 (gMove (wG w) u c) := hG4'
          have hbk := gBack_le (s := wG w) u c (gStop (wG w) u c)
          have hst := gStop_le (s := wG w) u c
          have hend : gEnd (wG w) u c < 63 := hwy _ (by omega)
          have hpl4 : gPl (gMove (wG w) u c) u = gEnd (wG w) u c := by
            unfold gMove gPl
            rw [gn_eq, o_ix (by omega)]
          have hma4 : gMa (gMove (wG w) u c) = gMa (wG w) := by
            unfold gMove
            rw [gMa_ne (by omega), gMa_ne (by omega)]
            split
            · exact gMa_ne (by decide)
            · rfl
          refine s_placeOf hG4 (by rw [hma4]; exact hlt) ?_
          rw [hpl4]
          refine finI_o (H I4 L3 ((((hF1'.tr (hF2.mono (by decide) (by decide))).mono (by decide) (by decide)).tr (hF3.mono (by decide) (by decide))).tr (hF4.mono (by decide) (by decide))) ?_) e0
          rw [en, e0, if_pos rfl]
          exact h3.then (hF4.mono (by decide) (by decide)) hG4
        · unfold gCanR
          rw [hrm, Bool.and_false]
  · have hne' : gPl (wG w) u ≠ c := fun e => hne (by rw [e])
    exact er 2 (by decide) (by rw [e0, if_neg hne', if_pos hcm])
end
