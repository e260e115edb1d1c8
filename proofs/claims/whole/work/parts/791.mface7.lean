/-! the reference's face: unit, way, the ratio -/
section
variable {I : e_TI} {L : e_TL} {D : e_TD} {sc : e_TS} {w : Wd} {Ψ : Int32 → e_TI → e_TL → e_TD → Prop}
theorem sM_unit (h : MW I w) (hk : gok (wG w)) {x y : Int32} (H : oM I L D w (aUnit (wG w) x y) Ψ) : e_M 269 [.ref 139, .int x, .int y] (S0 I L D sc) (e_rI sc Ψ) := by
  refine vM_unit (s_M_isUnit (h.mr hk) (bx_n (fun h1 => s_M_inR 0 9 (bx_n (fun h2 => ?_) (fun h2 => H.exc h (n := 1) (z := 0) ?_))) (fun h0 => H.exc h (n := 0) (z := 0) (by unfold aUnit; rw [h0]; rfl))))
  · have e : aUnit (wG w) x y = if y = 0 then (0, Int32.ofNat (gSd (wG w) (nx x))) else if y = 1 then (0, Int32.ofNat (gPl (wG w) (nx x))) else if y = 2 then (0, Int32.ofNat (gSt (wG w) (nx x))) else if y = 3 then (0, Int32.ofNat (gMv (wG w) (nx x))) else if y = 4 then (0, Int32.ofNat (gAllow (wG w) (nx x))) else if y = 5 then (0, Int32.ofNat (gForce (wG w) (nx x))) else if y = 6 then (0, e_b (gIsS (wG w) (nx x))) else if y = 7 then (0, e_b (gCanA (wG w) (nx x) && !gMd (wG w) (nx x))) else if y = 8 then (0, e_b (gCanA (wG w) (nx x))) else if y = 9 then (0, e_b (gSeen (wG w) (1 - gSd (wG w) (nx x)) (gPl (wG w) (nx x)))) else (2, 0) := by
      unfold aUnit
      rw [h1]
      rfl
    have hm := h.mrt hk (x := 0)
    obtain ⟨u, hu16, hu, _, rfl⟩ := iU_lt h1
    obtain ⟨k, _, hk9, rfl⟩ := iR_ex (by decide) (by decide) h2
    rw [nx_of (by omega)] at e
    have truth : ∀ b : Bool, aUnit (wG w) (Int32.ofNat u) (Int32.ofNat k) = (0, e_b b) → ∀ I', Fr 143 144 (e_up I 139 5 0) L I' L → ((e_b b = 0 → Ψ 0 I' L D) ∧ (¬ e_b b = 0 → Ψ 1 I' L D)) := fun b hb I' hF => bx_b (fun h0 => H.sup h hF (by rw [hb, h0]; rfl)) (fun h3 => H.sup h hF (by rw [hb, h3]; rfl))
    have cs : k = 0 ∨ k = 1 ∨ k = 2 ∨ k = 3 ∨ k = 4 ∨ k = 5 ∨ k = 6 ∨ k = 7 ∨ k = 8 ∨ k = 9 := by omega
    rcases cs with rfl | rfl | rfl | rfl | rfl | rfl | rfl | rfl | rfl | rfl
    · exact bx_f (by decide) (bx_f (by decide) (bx_f (by decide) (bx_f (by decide) (bx_f (by decide) (bx_f (by decide) (s_M_sd hm hu (H.ok h e)))))))
    · exact bx_f (by decide) (bx_f (by decide) (bx_f (by decide) (bx_f (by decide) (bx_f (by decide) (bx_f (by decide) (s_M_pl hm hu (H.ok h e)))))))
    · exact bx_f (by decide) (bx_f (by decide) (bx_f (by decide) (bx_f (by decide) (bx_f (by decide) (bx_f (by decide) (s_M_st hm hu (H.ok h e)))))))
    · exact bx_f (by decide) (bx_f (by decide) (bx_f (by decide) (bx_f (by decide) (bx_f (by decide) (bx_f (by decide) (s_M_mv hm hu (H.ok h e)))))))
    · exact bx_t (by decide) (s_M_allow hm hu (fun I' hF => H.sup h hF e))
    · exact bx_f (by decide) (bx_t (by decide) (s_M_force hm hu (fun I' hF => H.sup h hF e)))
    · exact bx_f (by decide) (bx_f (by decide) (bx_t (by decide) (s_M_isSupplied hm hu (fun I' hF => truth _ e I' hF))))
    · exact bx_f (by decide) (bx_f (by decide) (bx_f (by decide) (bx_t (by decide) (s_M_canMove hm hu (truth _ e _ Fr.rf)))))
    · exact bx_f (by decide) (bx_f (by decide) (bx_f (by decide) (bx_f (by decide) (bx_t (by decide) (s_M_canAttack hm hu (truth _ e _ Fr.rf))))))
    · refine bx_f (by decide) (bx_f (by decide) (bx_f (by decide) (bx_f (by decide) (bx_f (by decide) (bx_t (by decide) (s_M_sd hm hu ?_))))))
      rw [show (1 : Int32) - Int32.ofNat (gSd (wG w) u) = Int32.ofNat (1 - gSd (wG w) u) from o_sub (a := 1) (hm.sd hu)]
      exact s_M_seenBy hm (by omega) (s_M_pl hm hu (s_M_has (hm.pl hu) (truth _ e _ Fr.rf)))
  · have no := no_iR (by decide) h2
    unfold aUnit
    rw [h1, if_neg (by decide), if_neg (show ¬ y = 0 from no 0 (by decide)), if_neg (show ¬ y = 1 from no 1 (by decide)), if_neg (show ¬ y = 2 from no 2 (by decide)), if_neg (show ¬ y = 3 from no 3 (by decide)), if_neg (show ¬ y = 4 from no 4 (by decide)), if_neg (show ¬ y = 5 from no 5 (by decide)), if_neg (show ¬ y = 6 from no 6 (by decide)), if_neg (show ¬ y = 7 from no 7 (by decide)), if_neg (show ¬ y = 8 from no 8 (by decide)), if_neg (show ¬ y = 9 from no 9 (by decide))]
theorem gLen_m {s : Nat → Int32} (h : MR I s) {u t : Nat} (hu : u < gMa s) (hK : gWayC s u t ≤ 372) : gLen s u t ≤ 62 ∧ gWay s u t (gLen s u t) = t ∧ (∀ i, i < gLen s u t → gWay s u t i ≠ t) ∧ ∀ i, i ≤ gLen s u t → gWay s u t i < 63 := by
  have hpr := mPr_ok h (op := gWayO s u) (fun _ hc ho => gWayO_ter hc ho)
  have hlead : fLd (fun c => c == gPl s u) (gWayO s u) (gWayS s u) (gWayB s u) (gRd s) (gPr s) t (gPl s u) = true := by
    obtain ⟨a, ha, hl⟩ := fLd_first (t := t) (fi := fun c => c == gPl s u) (op := gWayO s u) (sp := gWayS s u) (ba := gWayB s u) (rd := gRd s) (pr := gPr s) hpr (show gWayC s u t < 1000000 by omega)
    have : a = gPl s u := beq_iff_eq.mp ha
    rw [this] at hl
    exact hl
  obtain ⟨hn, hend, hbef⟩ := fLen_spec hpr (h.pl hu) hlead
  exact ⟨hn, hend, hbef, fun i hi => (fWay_ok hpr (h.pl hu) hlead i (fun j hj => hbef j (Nat.lt_of_lt_of_le hj hi))).2.1⟩
theorem WyR.th {s : Nat → Int32} {u : Nat} (h : WyR I L s u) {x : Int32} : WyR (e_up I 139 5 x) L s u := ⟨by rw [up_slot (by decide)]; exact h.1, h.2⟩
theorem WyC.th {s : Nat → Int32} {u : Nat} (h : WyC I s u) {x : Int32} : WyC (e_up I 139 5 x) s u := fun c hc => by rw [up_cell (by decide)]; exact h c hc
theorem sM_way (h : MW I w) (hk : gok (wG w)) {x y z : Int32} (H : oM I L D w (aWay (wG w) x y z) Ψ) : e_M 278 [.ref 139, .int x, .int y, .int z] (S0 I L D sc) (e_rI sc Ψ) := by
  refine vM_way (s_M_isUnit (h.mr hk) (bx_b (fun h0 => H.exc h (n := 0) (z := 0) (by unfold aWay; rw [h0]; rfl)) (fun h1 => s_M_isCell (bx_n (fun h2 => ?_) (fun h2 => H.exc h (n := 0) (z := 0) (by unfold aWay; rw [h2, Bool.and_false]; rfl))))))
  have e : aWay (wG w) x y z = if gPl (wG w) (nx x) = nx y ∨ gWayC (wG w) (nx x) (nx y) = 1000000 ∨ iR z 0 (gLen (wG w) (nx x) (nx y)) = false then (2, 0) else (0, Int32.ofNat (gWay (wG w) (nx x) (nx y) (nx z))) := by
    unfold aWay
    rw [h1, h2]
    rfl
  obtain ⟨u, hu16, hu, _, rfl⟩ := iU_lt h1
  obtain ⟨c, hc, rfl⟩ := iC_ex h2
  rw [nx_of (by omega), nx_of (by omega)] at e
  refine s_M_hasWay (h.mr hk) hu hc (fun hno I' L' hF => bx_t rfl ?_) (fun hne hle I' L' hF hW hC => bx_f (by decide) ?_)
  · rw [if_pos (hno.elim Or.inl (fun h6 => Or.inr (Or.inl h6)))] at e
    exact H.fin h 2 (FQ.way hF).thr (by rw [up_cell (by decide)]; exact (hF.1 140 (by decide) (by decide)).1) up_same (by rw [e]) (fun h0 => by cases h0)
  · have hR' : MR (e_up I' 139 5 0) (wG w) := ((h.mr hk).fw hF).up (by decide)
    obtain ⟨hn, hend, hbef, h63⟩ := gLen_m (h.mr hk) hu hle
    refine s_M_pl hR' hu (s_M_findWay hR' hu hW.th hC.th hc hle (fun I2 hF2 h13 hv => ?_))
    have Q : FQ I L I2 L' := (FQ.way hF).thr.tr (FQ.tra hF2)
    have hrow : I2 140 = I 140 := by rw [hF2.1 140 (by decide) (by decide), up_cell (by decide)]; exact (hF.1 140 (by decide) (by decide)).1
    rw [h13, show Int32.ofNat (gLen (wG w) u c + 1) - 1 = Int32.ofNat (gLen (wG w) u c) from o_sub (b := 1) (by omega)]
    refine s_M_inR 0 (gLen (wG w) u c) (bx_b (fun h0 => ?_) (fun h3 => ?_))
    · rw [if_pos (Or.inr (Or.inr h0))] at e
      exact H.fin h 2 Q.thr (by rw [up_cell (by decide)]; exact hrow) up_same (by rw [e]) (fun h0 => by cases h0)
    · rw [if_neg (fun hh => hh.elim hne (fun hh => hh.elim (fun h6 => by omega) (fun h6 => by rw [h3] at h6; cases h6)))] at e
      obtain ⟨i, _, hi, rfl⟩ := iR_ex (by omega) (Nat.zero_le _) h3
      rw [nx_of (by omega)] at e
      rw [o_ix (a := i) (by omega), hv i hi]
      exact ⟨o_in (by omega), H.fin h 0 Q.thr (by rw [up_cell (by decide)]; exact hrow) up_same (by rw [e]) (fun _ => by rw [e])⟩
end
