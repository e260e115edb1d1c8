/-! the reference's face: answers only, the second -/
section
variable {I : e_TI} {L : e_TL} {D : e_TD} {sc : e_TS} {w : Wd} {Ψ : Int32 → e_TI → e_TL → e_TD → Prop}
theorem iU_lt {s : Nat → Int32} {x : Int32} (h : iU s x = true) : ∃ u, u < 16 ∧ u < gMa s ∧ gU s u = true ∧ x = Int32.ofNat u := by
  obtain ⟨u, hu, rfl, hU⟩ := iU_ex h
  exact ⟨u, hu, gU_lt hU, hU, rfl⟩
theorem no_iR {x : Int32} {b : Nat} (hb : b < 2147483648) (h : iR x 0 b = false) : ∀ k : Nat, k ≤ b → ¬ x = Int32.ofNat k := fun k hk e => by
  rw [e, iR_of hb (Nat.zero_le _) hk] at h
  cases h
theorem sM_cells {Ψ : Int64 → e_TI → e_TL → e_TD → Prop} (h : MW I w) (hk : gok (wG w)) {x y : Int32} (H : oM I L D w (aCells (wG w) x y) Ψ) : e_M 260 [.ref 139, .int x, .int y] (S0 I L D sc) (e_rL sc Ψ) := by
  refine vM_cells (s_M_isSide (bx_n (fun h1 => s_M_inR 0 4 (bx_n (fun h2 => ?_) (fun h2 => H.exc h (n := 1) (z := 0) ?_))) (fun h0 => H.exc h (n := 0) (z := 0) (by unfold aCells; rw [h0]; rfl))))
  · have e : aCells (wG w) x y = if y = 0 then (0, sL (gZone (wG w) (nx x))) else if y = 1 then (0, sL (gSeen (wG w) (nx x))) else if y = 2 then (0, sL (gSrc (wG w) (nx x))) else if y = 3 then (0, sL (gClosed (wG w) (nx x))) else if y = 4 then (0, sL (gSup (wG w) (nx x))) else (2, 0) := by
      unfold aCells
      rw [h1]
      rfl
    have hm := h.mrt hk (x := 0)
    obtain ⟨d, hd, rfl⟩ := iS_ex h1
    obtain ⟨k, _, hk4, rfl⟩ := iR_ex (by decide) (by decide) h2
    rw [nx_of (by omega)] at e
    have cs : k = 0 ∨ k = 1 ∨ k = 2 ∨ k = 3 ∨ k = 4 := by omega
    rcases cs with rfl | rfl | rfl | rfl | rfl
    · exact bx_t (by decide) (s_M_unitsOf hm hd (s_M_zone hm (H.ok h e)))
    · exact bx_f (by decide) (bx_t (by decide) (s_M_seenBy hm hd (H.ok h e)))
    · exact bx_f (by decide) (bx_f (by decide) (bx_t (by decide) (s_M_sources hm hd (H.ok h e))))
    · exact bx_f (by decide) (bx_f (by decide) (bx_f (by decide) (bx_t (by decide) (s_M_closed hm hd (H.ok h e)))))
    · exact bx_f (by decide) (bx_f (by decide) (bx_f (by decide) (bx_f (by decide) (s_M_supplied hm hd (fun I' hF => H.sup h hF e)))))
  · have no := no_iR (by decide) h2
    unfold aCells
    rw [h1, if_neg (by decide), if_neg (show ¬ y = 0 from no 0 (by decide)), if_neg (show ¬ y = 1 from no 1 (by decide)), if_neg (show ¬ y = 2 from no 2 (by decide)), if_neg (show ¬ y = 3 from no 3 (by decide)), if_neg (show ¬ y = 4 from no 4 (by decide))]
theorem sM_reach {Ψ : Int64 → e_TI → e_TL → e_TD → Prop} (h : MW I w) (hk : gok (wG w)) {x : Int32} (H : oM I L D w (aReach (wG w) x) Ψ) : e_M 273 [.ref 139, .int x] (S0 I L D sc) (e_rL sc Ψ) := by
  refine vM_reach (s_M_isUnit (h.mr hk) (bx_b (fun h0 => H.exc h (n := 0) (z := 0) (by unfold aReach; rw [h0]; rfl)) (fun h1 => ?_)))
  have e : aReach (wG w) x = (0, sL (gReach (wG w) (nx x) (gAllow (wG w) (nx x)))) := by
    unfold aReach
    rw [h1]
    rfl
  obtain ⟨u, hu16, hu, _, rfl⟩ := iU_lt h1
  rw [nx_of (by omega)] at e
  have hm := h.mrt hk (x := 0)
  have hal : gAllow (wG w) u ≤ 1000 := by
    have := (h.mr hk).mv hu
    unfold gAllow gHalf
    split <;> omega
  refine s_M_allow hm hu (fun I1 hF1 => s_M_findWays (hm.fr hF1 (by decide)) hu (fun I2 L2 hF2 hW hC => s_M_reachLoop ((hm.fr hF1 (by decide)).fw hF2) hu hW hC hal ?_))
  refine H.fin h 0 ((FQ.rf.thr.tr (FQ.sup hF1)).tr (FQ.way hF2)) ?_ ?_ (by rw [e]) (fun _ => by rw [e])
  · rw [(hF2.1 140 (by decide) (by decide)).1, (hF1 140 (by decide)).1, up_cell (by decide)]
  · rw [hF2.2 5 (by decide), (hF1 139 (by decide)).1, up_same]; rfl
theorem sM_cost (h : MW I w) (hk : gok (wG w)) {x y : Int32} (H : oM I L D w (aCost (wG w) x y) Ψ) : e_M 275 [.ref 139, .int x, .int y] (S0 I L D sc) (e_rI sc Ψ) := by
  refine vM_cost (s_M_isUnit (h.mr hk) (bx_b (fun h0 => H.exc h (n := 0) (z := 0) (by unfold aCost; rw [h0]; rfl)) (fun h1 => s_M_isCell (bx_n (fun h2 => ?_) (fun h2 => H.exc h (n := 0) (z := 0) (by unfold aCost; rw [h2, Bool.and_false]; rfl))))))
  have e : aCost (wG w) x y = if gPl (wG w) (nx x) = nx y ∨ gWayC (wG w) (nx x) (nx y) = 1000000 then (2, 0) else (0, Int32.ofNat (gWayC (wG w) (nx x) (nx y))) := by
    unfold aCost
    rw [h1, h2]
    rfl
  obtain ⟨u, hu16, hu, _, rfl⟩ := iU_lt h1
  obtain ⟨c, hc, rfl⟩ := iC_ex h2
  rw [nx_of (by omega), nx_of (by omega)] at e
  refine s_M_hasWay (h.mr hk) hu hc (fun hno I' L' hF => bx_t rfl ?_) (fun hne hle I' L' hF hW hC => bx_f (by decide) ⟨o_in hc, ?_⟩)
  · rw [if_pos hno] at e
    exact H.fin h 2 (FQ.way hF).thr (by rw [up_cell (by decide)]; exact (hF.1 140 (by decide) (by decide)).1) up_same (by rw [e]) (fun h0 => by cases h0)
  · rw [if_neg (fun hh => hh.elim hne (fun h6 => by omega))] at e
    rw [o_ix (a := c) (by omega), hC c hc]
    exact H.fin h 0 (FQ.way hF).thr (by rw [up_cell (by decide)]; exact (hF.1 140 (by decide) (by decide)).1) up_same (by rw [e]) (fun _ => by rw [e])
theorem sM_odds (h : MW I w) (hk : gok (wG w)) {x y : Int32} {b : Bool} (H : oM I L D w (aOdds (wG w) x y b) Ψ) : e_M 289 [.ref 139, .int x, .int y, .int (e_b b)] (S0 I L D sc) (e_rI sc Ψ) := by
  have a3 : aWhy (wG w) x y ≤ 3 := by
    unfold aWhy
    split
    · decide
    · split
      · decide
      · split <;> decide
  refine vM_odds (s_M_why (h.mr hk) ⟨fun hle => ?_, fun hgt => ?_⟩)
  · have e0 : aWhy (wG w) x y = 0 := by
      have := (o_le (b := 0) (by omega) (by decide)).mp hle
      omega
    have e : aOdds (wG w) x y b = (0, if b then Int32.ofNat (gDefense (wG w) (nx y)) else gAttack (wG w) (nx x)) := by
      unfold aOdds
      rw [if_pos e0]
    have hxy : iC x = true ∧ iC y = true := by
      unfold aWhy at e0
      cases hx : iC x with
      | false => rw [hx, Bool.false_and, if_pos (by rfl)] at e0; cases e0
      | true =>
        cases hy : iC y with
        | false => rw [hx, hy, Bool.and_false, if_pos (by rfl)] at e0; cases e0
        | true => exact ⟨rfl, rfl⟩
    obtain ⟨c, hc, rfl⟩ := iC_ex hxy.1
    obtain ⟨d, hd, rfl⟩ := iC_ex hxy.2
    rw [nx_of (by omega), nx_of (by omega)] at e
    rw [e0]
    have hm := h.mrt hk (x := Int32.ofNat 0)
    refine bx_b (fun hb => s_M_attackFrom hm hc (fun I' hF => ?_)) (fun hb => s_M_defense hm hd (fun I' hF => ?_))
    · exact H.sup h hF (by rw [e, hb]; rfl)
    · exact H.sup h hF (by rw [e, hb]; rfl)
  · have hn : aWhy (wG w) x y ≠ 0 := fun e0 => hgt (by rw [e0]; exact Int32.le_rfl)
    have e : aOdds (wG w) x y b = (aWhy (wG w) x y, 0) := by
      unfold aOdds
      rw [if_neg hn]
    exact H.fin h (aWhy (wG w) x y) FQ.rf.thr (up_cell (by decide)) up_same (by rw [e]) (fun h0 => absurd h0 hn)
end
