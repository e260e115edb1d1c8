/-! the reference's face: a move -/
section
variable {I : e_TI} {L : e_TL} {D : e_TD} {sc : e_TS} {w : Wd} {Ψ : Int32 → e_TI → e_TL → e_TD → Prop}
theorem MW.rp {J J' : e_TI} (h : MW J w) (hF : FrP J J') {r : Nat × (Nat → Int32) × (Nat → Int32)} (hr : RpM J' r) : MW J' (wRp w r) := by
  obtain ⟨h1, ⟨h2, h3⟩, ⟨h4, h5, h6⟩, ⟨h7, h8, h9⟩, ⟨h10, h11, h12⟩⟩ := h
  refine ⟨?_, ⟨?_, fun hs k hk => ?_⟩, ⟨?_, h5, fun i hi k hk => ?_⟩, hr, ⟨?_, h11, fun i hi => ?_⟩⟩
  · rw [hF.1 140 (by decide) (by decide) (by decide)]; exact h1
  · rw [hF.2 2 (by decide)]; exact h2
  · rw [hF.1 141 (by decide) (by decide) (by decide)]; exact h3 hs k hk
  · rw [hF.2 4 (by decide)]; exact h4
  · rw [hF.1 142 (by decide) (by decide) (by decide)]; exact h6 i hi k hk
  · rw [hF.2 17 (by decide)]; exact h10
  · rw [hF.1 147 (by decide) (by decide) (by decide)]; exact h12 i hi
theorem sM_move (h : MW I w) (hk : gok (wG w)) {x y : Int32} (H : oM I L D (wMove w x y) (aMove (wG w) x y) Ψ) : e_M 281 [.ref 139, .int x, .int y] (S0 I L D sc) (e_rI sc Ψ) := by
  have bad : ∀ n, n < 3 → aMove (wG w) x y = (n + 1, 0) → Ψ 0 (e_up I 139 5 (Int32.ofNat (n + 1))) L D := fun n hn e => by
    have ew : wMove w x y = w := by
      unfold wMove
      rw [e, if_neg (Nat.succ_ne_zero n), if_neg (show ¬ n + 1 = 4 by omega)]
    rw [ew] at H
    exact H.exc h e
  refine vM_move (s_M_isUnit (h.mr hk) (bx_b (fun h0 => bad 0 (by decide) (by unfold aMove; rw [h0]; rfl)) (fun h1 => s_M_isCell (bx_n (fun h2 => ?_) (fun h2 => bad 0 (by decide) (by unfold aMove; rw [h2, Bool.and_false]; rfl))))))
  have e : aMove (wG w) x y = if gPl (wG w) (nx x) = nx y then (2, 0) else if (gCanA (wG w) (nx x) && !gMd (wG w) (nx x)) = false then (3, 0) else if gCanR (wG w) (nx x) (nx y) = false then (4, 0) else (0, Int32.ofNat (gEnd (wG w) (nx x) (nx y))) := by
    unfold aMove
    rw [h1, h2]
    rfl
  have en : wMove w x y = if (aMove (wG w) x y).1 = 0 then wCh w (gMove (wG w) (nx x) (nx y)) else if (aMove (wG w) x y).1 = 4 then wRp w (gRep (wG w) (nx x) (nx y)) else w := rfl
  obtain ⟨u, hu16, hu, _, rfl⟩ := iU_lt h1
  obtain ⟨c, hc, rfl⟩ := iC_ex h2
  rw [nx_of (by omega), nx_of (by omega)] at e en
  have hm0 := h.mr hk
  have hp := hm0.pl hu
  refine s_M_pl hm0 hu ⟨fun hne => s_M_canMove hm0 hu (bx_n (fun hcm => ?_) (fun hcm => ?_)), fun he => bad 1 (by decide) ?_⟩
  · have hne' : gPl (wG w) u ≠ c := fun e2 => hne (by rw [e2])
    rw [if_neg hne', hcm, if_neg (by decide)] at e
    have hm := h.mrt hk (x := 0)
    have hal : gAllow (wG w) u ≤ 1000 := by
      have := hm0.mv hu
      unfold gAllow gHalf
      split <;> omega
    refine s_M_allow hm hu (fun I1 hF1 => s_M_findWays (hm.fr hF1 (by decide)) hu (fun I2 L2 hF2 hW hC => ?_))
    have hR2 := (hm.fr hF1 (by decide)).fw hF2
    have Q2 : FQ I L I2 L2 := (FQ.rf.thr.tr (FQ.sup hF1)).tr (FQ.way hF2)
    have row2 : I2 140 = I 140 := by rw [(hF2.1 140 (by decide) (by decide)).1, (hF1 140 (by decide)).1, up_cell (by decide)]
    have thr2 : I2 139 5 = 0 := by rw [hF2.2 5 (by decide), (hF1 139 (by decide)).1, up_same]
    have hM2 : MW I2 w := h.q Q2 (row2.trans h.1)
    have eR : gReach (wG w) u (gAllow (wG w) u) c = gCanR (wG w) u c := by
      unfold gReach gCanR
      rw [decide_eq_true hc, beq_false_of_ne (Ne.symm hne'), Bool.not_false, Bool.and_true, Bool.true_and]
    refine s_M_canReach hR2 hu hW hC hc hal ?_
    rw [eR]
    refine bx_n (fun hr => ?_) (fun hr => ?_)
    · rw [hr, if_neg (by decide)] at e
      have hle : gWayC (wG w) u c ≤ 372 := by
        have := mWayC_le hm0 hu c
        unfold gCanR at hr
        have := of_decide_eq_true (Bool.and_eq_true _ _ ▸ hr).1
        omega
      obtain ⟨hn, hend, hbef, h63⟩ := gLen_m hm0 hu hle
      have h1len : 1 ≤ gLen (wG w) u c := by
        rcases Nat.eq_zero_or_pos (gLen (wG w) u c) with hz | hz
        · rw [hz] at hend
          exact absurd hend hne'
        · exact hz
      refine s_M_pl hR2 hu (s_M_findWay hR2 hu hW hC hc hle (fun I3 hF3 h13 hv => ?_))
      have hM3 : MW I3 w := hM2.q (L := L2) (L' := L2) (FQ.tra hF3) ((hF3.1 140 (by decide) (by decide)).trans hM2.1)
      have thr3 : I3 139 5 = 0 := by rw [hF3.2 5 (by decide)]; exact thr2
      refine s_M_change hM3 (fun I4 hF4 hM4 => ?_)
      have hR4 : MR I4 (wG w) := ⟨hk, hM4.1⟩
      refine s_M_sd hR4 hu ?_
      rw [show (1 : Int32) - Int32.ofNat (gSd (wG w) u) = Int32.ofNat (1 - gSd (wG w) u) from o_sub (a := 1) (hR4.sd hu)]
      refine s_M_unitsOf hR4 (by omega) (s_M_cellsOf hR4 (s_M_zone hR4 ?_))
      refine s_M_march (t := c) hR4 hu (by rw [hF4.2 13 (by decide)]; exact h13) (fun i hi => by rw [hF4.1 145 (by decide) (by decide)]; exact hv i hi) hn h63 h1len (fun I5 hF5 hrow5 => ?_)
      rw [en, e, if_pos rfl] at H
      refine H _ I5 L2 (((Q2.fm).tr (FQ.tra (L := L2) hF3).fm).tr (hF4.fm.tr (FQ.row hF5).fm)) (hM4.q (L := L2) (L' := L2) (FQ.row hF5) hrow5) ?_ (fun _ => rfl)
      rw [hF5 139 (by decide), hF4.2 5 (by decide)]
      exact thr3
    · rw [hr, if_pos rfl] at e
      refine s_M_refuse hR2 hu hc hC (fun I3 hF3 hr3 => ?_)
      rw [en, e, if_neg (by decide), if_pos rfl] at H
      refine H 0 _ L2 (Q2.fm.tr ((show Fr 139 148 I2 L2 I3 L2 from fun k hk2 => ⟨hF3.1 k (by omega) (by omega) (by omega), rfl⟩).upI (by decide))) ((hM2.rp hF3 hr3).thr) up_same (fun h0 => by cases h0)
  · have hne' : gPl (wG w) u ≠ c := fun e2 => hne (by rw [e2])
    exact bad 2 (by decide) (by rw [e, if_neg hne', hcm, if_pos rfl])
  · rw [e, if_pos ((o_eq (by omega) (by omega)).mp (Classical.not_not.mp he)).symm]
end
