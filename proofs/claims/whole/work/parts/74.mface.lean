/-! the reference's face: answers only -/
/-- how a call of the reference ends: the state, the code of the exception, the answer -/
def oM {α : Type} (I : e_TI) (L : e_TL) (D : e_TD) (w : Wd) (a : Nat × α) (Ψ : α → e_TI → e_TL → e_TD → Prop) : Prop := ∀ r I' L', Fr 139 148 I L I' L' → MW I' w → I' 139 5 = Int32.ofNat a.1 → (a.1 = 0 → r = a.2) → Ψ r I' L' D
section
variable {α : Type} {I : e_TI} {L : e_TL} {D : e_TD} {sc : e_TS} {w : Wd} {a : Nat × α} {Ψ : α → e_TI → e_TL → e_TD → Prop}
theorem oM.fin (H : oM I L D w a Ψ) (h : MW I w) {I' : e_TI} {L' : e_TL} {r : α} (n : Nat) (hQ : FQ I L I' L') (hrow : I' 140 = I 140) (h5 : I' 139 5 = Int32.ofNat n) (ha : a.1 = n) (hr : n = 0 → r = a.2) : Ψ r I' L' D :=
  H r I' L' hQ.fm (h.q hQ (hrow.trans h.1)) (by rw [ha]; exact h5) (fun h0 => hr (by rw [← ha]; exact h0))
/-- an exception -/
theorem oM.exc (H : oM I L D w a Ψ) (h : MW I w) {r : α} {n : Nat} {z : α} (ha : a = (n + 1, z)) : Ψ r (e_up I 139 5 (Int32.ofNat (n + 1))) L D :=
  H.fin h (n + 1) FQ.rf.thr (up_cell (by decide)) up_same (by rw [ha]) (fun h0 => absurd h0 (Nat.succ_ne_zero n))
/-- an answer at once -/
theorem oM.ok (H : oM I L D w a Ψ) (h : MW I w) {r : α} (ha : a = (0, r)) : Ψ r (e_up I 139 5 0) L D :=
  H.fin h 0 FQ.rf.thr (up_cell (by decide)) up_same (by rw [ha]) (fun _ => by rw [ha])
/-- an answer behind the mark -/
theorem oM.sup (H : oM I L D w a Ψ) (h : MW I w) {r : α} {I' : e_TI} (hF : Fr 143 144 (e_up I 139 5 0) L I' L) (ha : a = (0, r)) : Ψ r I' L D :=
  H.fin h 0 (FQ.rf.thr.tr (FQ.sup hF)) (by rw [(hF 140 (by decide)).1, up_cell (by decide)]) (by rw [(hF 139 (by decide)).1, up_same]; rfl) (by rw [ha]) (fun _ => by rw [ha])
end
section
variable {I : e_TI} {L : e_TL} {D : e_TD} {sc : e_TS} {w : Wd} {Ψ : Int32 → e_TI → e_TL → e_TD → Prop}
theorem MW.mrt (h : MW I w) (hk : gok (wG w)) {x : Int32} : MR (e_up I 139 5 x) (wG w) := (h.mr hk).up (by decide)
theorem iC_ex {x : Int32} (h : iC x = true) : ∃ c, c < 63 ∧ x = Int32.ofNat c := by
  unfold iC at h
  simp only [Bool.and_eq_true, decide_eq_true_eq] at h
  obtain ⟨c, hc9, rfl⟩ := o_rng2 (n := 63) (Int32.not_lt.mpr h.1) h.2
  exact ⟨c, hc9, rfl⟩
theorem iS_ex {x : Int32} (h : iS x = true) : ∃ d, d ≤ 1 ∧ x = Int32.ofNat d := by
  unfold iS at h
  simp only [Bool.and_eq_true, decide_eq_true_eq] at h
  obtain ⟨d, hd9, rfl⟩ := o_rng2 (n := 2) (Int32.not_lt.mpr h.1) h.2
  have hd : d < 2 := hd9
  exact ⟨d, by omega, rfl⟩
theorem inB_R (x : Int32) (a b : Nat) : inB x (Int32.ofNat a) (Int32.ofNat b) = iR x a b := rfl
theorem s_M_inR {x : Int32} (a b : Nat) (H : Ψ (e_b (iR x a b)) I L D) : e_M 225 [.int x, .int (Int32.ofNat a), .int (Int32.ofNat b)] (S0 I L D sc) (e_rI sc Ψ) := s_M_in (by rw [inB_R]; exact H)
theorem sM_neighbor (h : MW I w) {x y : Int32} (H : oM I L D w (aNeighbor x y) Ψ) : e_M 240 [.ref 139, .int x, .int y] (S0 I L D sc) (e_rI sc Ψ) := by
  refine vM_neighbor (s_M_isCell (bx_b (fun h0 => H.exc h (n := 0) (z := 0) (by unfold aNeighbor; rw [h0]; rfl)) (fun h1 => s_M_inR 0 5 (bx_n (fun h2 => ?_) (fun h2 => H.exc h (n := 0) (z := 0) (by unfold aNeighbor; rw [h2, Bool.and_false]; rfl))))))
  have e : aNeighbor x y = match nb (nx x) (nx y) with | none => (2, 0) | some c => (0, Int32.ofNat c) := by
    unfold aNeighbor
    rw [h1, h2]
    rfl
  obtain ⟨c, hc, rfl⟩ := iC_ex h1
  obtain ⟨d, _, hd, rfl⟩ := iR_ex (by decide) (by decide) h2
  rw [nx_of (by omega), nx_of (by omega)] at e
  refine s_M_next hc (by omega) ?_
  cases hnb : nb c d with
  | none =>
    rw [hnb] at e
    exact bx_f (by decide) (H.exc h (n := 1) (z := 0) e)
  | some r =>
    have hr : r < 63 := nb_lt ⟨c, hc⟩ ⟨d, by omega⟩ r hnb
    rw [hnb] at e
    refine bx_t (Int32.not_lt.mp (b_nn (by omega))) (s_M_next hc (by omega) ?_)
    rw [hnb]
    exact H.ok h e
theorem sM_distance (h : MW I w) {x y : Int32} (H : oM I L D w (aDistance x y) Ψ) : e_M 244 [.ref 139, .int x, .int y] (S0 I L D sc) (e_rI sc Ψ) := by
  refine vM_distance (s_M_isCell (bx_b (fun h0 => H.exc h (n := 0) (z := 0) (by unfold aDistance; rw [h0]; rfl)) (fun h1 => s_M_isCell (bx_b (fun h2 => H.exc h (n := 0) (z := 0) (by unfold aDistance; rw [h2, Bool.and_false]; rfl)) (fun h2 => ?_)))))
  have e : aDistance x y = (0, Int32.ofNat (dst (nx x) (nx y))) := by
    unfold aDistance
    rw [h1, h2]
    rfl
  obtain ⟨c, hc, rfl⟩ := iC_ex h1
  obtain ⟨d, hd, rfl⟩ := iC_ex h2
  rw [nx_of (by omega), nx_of (by omega)] at e
  exact s_M_steps hc hd (H.ok h e)
theorem sM_known (h : MW I w) (hk : gok (wG w)) {x : Int32} (H : oM I L D w (aKnown (wG w) x) Ψ) : e_M 250 [.ref 139, .int x] (S0 I L D sc) (e_rI sc Ψ) := by
  refine vM_known (s_M_isSide (bx_b (fun h0 => H.exc h (n := 0) (z := 0) (by unfold aKnown; rw [h0]; rfl)) (fun h1 => ?_)))
  have e : aKnown (wG w) x = (0, sI (gKnown (wG w) (nx x))) := by
    unfold aKnown
    rw [h1]
    rfl
  obtain ⟨d, hd, rfl⟩ := iS_ex h1
  rw [nx_of (by omega)] at e
  exact s_M_knownTo (h.mrt hk) hd (H.ok h e)
theorem sM_isSeen (h : MW I w) (hk : gok (wG w)) {x y : Int32} (H : oM I L D w (aIsSeen (wG w) x y) Ψ) : e_M 251 [.ref 139, .int x, .int y] (S0 I L D sc) (e_rI sc Ψ) := by
  refine vM_isSeen (s_M_isCell (bx_b (fun h0 => H.exc h (n := 0) (z := 0) (by unfold aIsSeen; rw [h0]; rfl)) (fun h1 => s_M_isCell (bx_b (fun h2 => H.exc h (n := 0) (z := 0) (by unfold aIsSeen; rw [h2, Bool.and_false]; rfl)) (fun h2 => ?_)))))
  have e : aIsSeen (wG w) x y = (0, e_b (gSees (wG w) (nx x) (nx y))) := by
    unfold aIsSeen
    rw [h1, h2]
    rfl
  obtain ⟨c, hc, rfl⟩ := iC_ex h1
  obtain ⟨d, hd, rfl⟩ := iC_ex h2
  rw [nx_of (by omega), nx_of (by omega)] at e
  refine s_M_sees (h.mrt hk) hc hd (bx_b (fun h3 => ?_) (fun h3 => ?_))
  · rw [h3] at e
    exact H.ok h e
  · rw [h3] at e
    exact H.ok h e
theorem sM_supplyCost (h : MW I w) (hk : gok (wG w)) {x y : Int32} (H : oM I L D w (aSupplyCost (wG w) x y) Ψ) : e_M 261 [.ref 139, .int x, .int y] (S0 I L D sc) (e_rI sc Ψ) := by
  refine vM_supplyCost (s_M_isSide (bx_b (fun h0 => H.exc h (n := 0) (z := 0) (by unfold aSupplyCost; rw [h0]; rfl)) (fun h1 => s_M_isCell (bx_b (fun h2 => H.exc h (n := 0) (z := 0) (by unfold aSupplyCost; rw [h2, Bool.and_false]; rfl)) (fun h2 => ?_)))))
  have e : aSupplyCost (wG w) x y = if gSupC (wG w) (nx x) (nx y) = 1000000 then (2, 0) else (0, Int32.ofNat (gSupC (wG w) (nx x) (nx y))) := by
    unfold aSupplyCost
    rw [h1, h2]
    rfl
  obtain ⟨d, hd, rfl⟩ := iS_ex h1
  obtain ⟨c, hc, rfl⟩ := iC_ex h2
  rw [nx_of (by omega), nx_of (by omega)] at e
  have hle := mSupC_le (h.mr hk) d c
  refine s_M_findSupply (h.mrt hk) hd (fun I' hF hV => ⟨o_in hc, ?_⟩)
  rw [o_ix (a := c) (by omega), hV c hc]
  have Q : FQ I L I' L := FQ.rf.thr.tr (FQ.sup hF)
  have hrow : I' 140 = I 140 := by rw [(hF 140 (by decide)).1, up_cell (by decide)]
  refine ⟨fun hn => ⟨o_in hc, ?_⟩, fun he => ?_⟩
  · rw [if_neg (fun e2 => hn (by rw [e2]; rfl))] at e
    exact H.fin h 0 Q.thr (by rw [up_cell (by decide)]; exact hrow) up_same (by rw [e]) (fun _ => by rw [e])
  · rw [if_pos ((o_eq (b := 1000000) (by omega) (by decide)).mp (Classical.not_not.mp he))] at e
    exact H.fin h 2 Q.thr (by rw [up_cell (by decide)]; exact hrow) up_same (by rw [e]) (fun h0 => by cases h0)
theorem sM_count (h : MW I w) (hk : gok (wG w)) {x : Int32} (H : oM I L D w (aCount (wG w) x) Ψ) : e_M 245 [.ref 139, .int x] (S0 I L D sc) (e_rI sc Ψ) := by
  have row : ∀ k, I 140 k = wG w k := fun k => by rw [h.1]
  obtain ⟨w1, w2⟩ := (h.mr hk).wx
  refine vM_count (s_M_inR 0 7 (bx_b (fun h0 => H.exc h (n := 0) (z := 0) ?_) (fun h1 => ?_)))
  · have no : ∀ k : Nat, k ≤ 7 → x ≠ Int32.ofNat k := fun k hk7 e => by
      rw [e, iR_of (by decide) (Nat.zero_le _) hk7] at h0
      cases h0
    unfold aCount
    rw [if_neg (show ¬ x = 0 from no 0 (by decide)), if_neg (show ¬ x = 1 from no 1 (by decide)), if_neg (show ¬ x = 2 from no 2 (by decide)), if_neg (show ¬ x = 3 from no 3 (by decide)), if_neg (show ¬ x = 4 from no 4 (by decide)), if_neg (show ¬ x = 5 from no 5 (by decide)), if_neg (show ¬ x = 6 from no 6 (by decide)), if_neg (show ¬ x = 7 from no 7 (by decide))]
  · obtain ⟨k, _, hk7, rfl⟩ := iR_ex (by decide) (by decide) h1
    have cs : k = 0 ∨ k = 1 ∨ k = 2 ∨ k = 3 ∨ k = 4 ∨ k = 5 ∨ k = 6 ∨ k = 7 := by omega
    rcases cs with rfl | rfl | rfl | rfl | rfl | rfl | rfl | rfl
    · exact bx_t (by decide) (s_M_howMany (h.mrt hk) (H.ok h rfl))
    · exact bx_f (by decide) (bx_t (by decide) (H.ok h (by rw [row]; rfl)))
    · exact bx_f (by decide) (bx_f (by decide) (bx_t (by decide) (H.ok h (by rw [row]; rfl))))
    · exact bx_f (by decide) (bx_f (by decide) (bx_f (by decide) (bx_t (by decide) (H.ok h (by rw [row]; rfl)))))
    · exact bx_f (by decide) (bx_f (by decide) (bx_f (by decide) (bx_f (by decide) (bx_t (by decide) (H.ok h (by rw [row]; rfl))))))
    · refine bx_f (by decide) (bx_f (by decide) (bx_f (by decide) (bx_f (by decide) (bx_f (by decide) (bx_t (by decide) ?_)))))
      rw [w1, o_ix (a := gWx (wG w)) (by omega), show e_xt 14 (gWx (wG w)) = Int32.ofNat (gSight (wG w)) from xt14 ⟨gWx (wG w), by omega⟩]
      exact ⟨o_in (by omega), H.ok h rfl⟩
    · exact bx_f (by decide) (bx_f (by decide) (bx_f (by decide) (bx_f (by decide) (bx_f (by decide) (bx_f (by decide) (bx_t (by decide) (H.ok h (by rw [row]; rfl))))))))
    · exact bx_f (by decide) (bx_f (by decide) (bx_f (by decide) (bx_f (by decide) (bx_f (by decide) (bx_f (by decide) (bx_f (by decide) (H.ok h (by rw [row]; rfl))))))))
end
