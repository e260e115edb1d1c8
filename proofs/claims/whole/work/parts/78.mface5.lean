/-! the face of both: a new game; the reference's: terrain, accounts -/
/-- a new game, on the row's own 301 places -/
def wNew2 (w : Wd) (z : Int32) : Wd := (mrg (gNew z) (wG w), w.2.1, (0, wP w), w.2.2.2)
noncomputable def wSetT (w : Wd) (x y : Int32) (r : Bool) : Wd := if (aSetTerrain (wG w) x y r).1 = 0 then wCh w (gShape (wG w) (nx x) (nx y) r) else w
section
variable {I : e_TI} {L : e_TL} {D : e_TD} {sc : e_TS} {w : Wd} {Ψ : Int32 → e_TI → e_TL → e_TD → Prop}
theorem sC_start2 (h : CW I L w) {z : Int32} (H : ∀ I' L', Fr 0 139 I L I' L' → CW I' L' (wNew2 w z) → Ψ (aCnt (wG w)) I' L' D) : e_M 17 [.ref 0, .int z] (S0 I L D sc) (e_rI sc Ψ) := by
  refine sC_start h (fun I' L' hF hC => H I' L' hF ?_)
  obtain ⟨c1, c2, c3, c4, c5⟩ := hC
  exact ⟨⟨c1.1.mg, c1.2.mg c1.1⟩, c2, c3, c4, c5⟩
theorem sM_start (h : MW I w) (hk : gok (wG w)) {z : Int32} (H : oM I L D (wNew2 w z) (0, aCnt (wG w)) Ψ) : e_M 229 [.ref 139, .int z] (S0 I L D sc) (e_rI sc Ψ) := by
  obtain ⟨h1, ⟨h2, h3⟩, ⟨h4, h5, h6⟩, ⟨h7, h8, h9⟩, ⟨h10, h11, h12⟩⟩ := id h
  refine vM_start (s_M_howMany (h.mrt hk) ?_)
  have key : ∀ i, i ≤ 301 → ∀ I', FrO (e_up I 139 5 0) I' → (∀ j, I' 140 j = if j < i then 0 else wG w j) → e_Wp 229 12 [some (.ref 139), some (.int z), some (.int (aCnt (wG w))), some (.int (Int32.ofNat i))] [] (S0 I' L D sc) 0 0 (e_rI sc Ψ) := by
    refine e_downInd (G := fun i => ∀ I', FrO (e_up I 139 5 0) I' → (∀ j, I' 140 j = if j < i then 0 else wG w j) → e_Wp 229 12 [some (.ref 139), some (.int z), some (.int (aCnt (wG w))), some (.int (Int32.ofNat i))] [] (S0 I' L D sc) 0 0 (e_rI sc Ψ)) 301 (fun i hi ih I' hF hV => ?_) (fun I' hF hV => ?_)
    · refine vM_start_p12 (bx_f (b_ge (n := 301) hi) ⟨o_in hi, ?_⟩)
      rw [o_ix (a := i) (by omega), o_s]
      refine ih _ hF.up (fun j => ?_)
      by_cases e : j = i
      · rw [e, up_same, if_pos (Nat.lt_succ_self i)]
      · rw [up_slot e, hV j]
        by_cases hj : j < i
        · rw [if_pos hj, if_pos (Nat.lt_succ_of_lt hj)]
        · rw [if_neg hj, if_neg (by omega)]
    · have c : ∀ k, k ≠ 139 → k ≠ 140 → (e_up (e_up (e_up I' 140 190 10) 140 193 z) 139 4 0) k = I k := fun k k1 k2 => by
        rw [up_cell k1, up_cell k2, up_cell k2, hF k k2, up_cell k1]
      have s9 : ∀ k, k ≠ 4 → k ≠ 5 → (e_up (e_up (e_up I' 140 190 10) 140 193 z) 139 4 0) 139 k = I 139 k := fun k k1 k2 => by
        rw [up_slot k1, up_cell (by decide), up_cell (by decide), hF 139 (by decide), up_slot k2]
      refine vM_start_p12 (bx_t (b_self 301) (H _ _ L (fun k hk2 => ⟨c k (by omega) (by omega), rfl⟩) ⟨?_, ⟨?_, fun hs k hk3 => ?_⟩, ⟨up_same, Nat.zero_le _, fun i hi => absurd hi (Nat.not_lt_zero _)⟩, ⟨?_, h8, fun i hi => ?_⟩, ⟨?_, h11, fun i hi => ?_⟩⟩ ?_ (fun _ => rfl)))
      · rw [up_cell (by decide)]
        show _ = mrg (gNew z) (wG w)
        funext j
        unfold mrg gNew
        by_cases e193 : j = 193
        · rw [e193, up_same, if_pos (by decide), if_neg (by decide), if_pos rfl]
        · rw [up_slot e193]
          by_cases e190 : j = 190
          · rw [e190, up_same, if_pos (by decide), if_pos rfl]
          · rw [up_slot e190, hV j, if_neg e190, if_neg e193]
      · rw [s9 2 (by decide) (by decide)]; exact h2
      · rw [c 141 (by decide) (by decide)]; exact h3 hs k hk3
      · rw [s9 15 (by decide) (by decide)]; exact h7
      · rw [c 146 (by decide) (by decide)]; exact h9 i hi
      · rw [s9 17 (by decide) (by decide)]; exact h10
      · rw [c 147 (by decide) (by decide)]; exact h12 i hi
      · rw [up_slot (by decide), up_cell (by decide), up_cell (by decide), hF 139 (by decide), up_same]; rfl
  exact key 0 (Nat.zero_le _) _ FrO.rf (fun j => by rw [if_neg (Nat.not_lt_zero j), up_cell (by decide), h1])
theorem sM_setTerrain (h : MW I w) (hk : gok (wG w)) {x y : Int32} {r : Bool} (H : oM I L D (wSetT w x y r) (aSetTerrain (wG w) x y r) Ψ) : e_M 233 [.ref 139, .int x, .int y, .int (e_b r)] (S0 I L D sc) (e_rI sc Ψ) := by
  have bad : ∀ n, aSetTerrain (wG w) x y r = (n + 1, 0) → Ψ 0 (e_up I 139 5 (Int32.ofNat (n + 1))) L D := fun n e => by
    have ew : wSetT w x y r = w := by
      unfold wSetT
      rw [e, if_neg (Nat.succ_ne_zero n)]
    rw [ew] at H
    exact H.exc h e
  refine vM_setTerrain (s_M_isCell (bx_n (fun h1 => s_M_inR 0 5 (bx_b (fun h2 => bad 1 (by unfold aSetTerrain; rw [h1, h2]; rfl)) (fun h2 => ?_))) (fun h0 => bad 0 (by unfold aSetTerrain; rw [h0]; rfl))))
  obtain ⟨c, hc, rfl⟩ := iC_ex h1
  obtain ⟨t, _, ht, rfl⟩ := iR_ex (by decide) (by decide) h2
  have e : aSetTerrain (wG w) (Int32.ofNat c) (Int32.ofNat t) r = if (t == 5 && r) = true then (2, 0) else if t = 5 ∧ sI (gOn (wG w) c) ≠ 0 then (3, 0) else (0, Int32.ofNat (gTer (wG w) c)) := by
    unfold aSetTerrain
    rw [h1, h2, nx_of (by omega), nx_of (by omega)]
    rfl
  have e63 : (63 : Int32) + Int32.ofNat c = Int32.ofNat (63 + c) := by rw [show (63 : Int32) = Int32.ofNat 63 from rfl, o_add]
  have t1 := ((h.mr hk).ter hc).1
  have put : aSetTerrain (wG w) (Int32.ofNat c) (Int32.ofNat t) r = (0, Int32.ofNat (gTer (wG w) c)) → ∀ I1, FC (e_up I 139 5 0) I1 → MW I1 (wCh w (wG w)) → (vp_in (Int32.ofNat c) 301 ∧ (vp_in (Int32.ofNat c) 301 ∧ ((e_b r = 0 → (vp_in (63 + Int32.ofNat c) 301 ∧ Ψ (I1 140 (Int32.ofNat c).toNatClampNeg) (e_up (e_up I1 140 (Int32.ofNat c).toNatClampNeg (Int32.ofNat t)) 140 (63 + Int32.ofNat c).toNatClampNeg 0) L D)) ∧ (¬ (e_b r = 0) → (vp_in (63 + Int32.ofNat c) 301 ∧ Ψ (I1 140 (Int32.ofNat c).toNatClampNeg) (e_up (e_up I1 140 (Int32.ofNat c).toNatClampNeg (Int32.ofNat t)) 140 (63 + Int32.ofNat c).toNatClampNeg 1) L D))))) := by
    intro ea I1 hF1 h1'
    have ew : wSetT w (Int32.ofNat c) (Int32.ofNat t) r = wCh w (gShape (wG w) c t r) := by
      unfold wSetT
      rw [ea, if_pos rfl, nx_of (by omega), nx_of (by omega)]
    rw [ew, ea] at H
    have vt : I1 140 c = Int32.ofNat (gTer (wG w) c) := by
      rw [h1'.1]
      show wG w c = _
      rw [← t1, h.1]
    have thr : I1 139 5 = Int32.ofNat 0 := by rw [hF1.2 5 (by decide), up_same]; rfl
    have F0 : Fr 139 148 I L I1 L := (Fr.rf.upI (by decide)).tr hF1.fm
    rw [e63, o_ix (a := c) (by omega), o_ix (a := 63 + c) (by omega), vt]
    refine ⟨o_in (by omega), o_in (by omega), bx_b (fun hr => ⟨o_in (by omega), ?_⟩) (fun hr => ⟨o_in (by omega), ?_⟩)⟩
    · refine H _ _ L ((F0.upI (by decide)).upI (by decide)) (h1'.q (L := L) (L' := L) (FQ.row FrO.rf.up.up) ?_) (by rw [up_cell (by decide), up_cell (by decide)]; exact thr) (fun _ => rfl)
      rw [row_up (row_up h1'.1 _ _)]
      unfold gShape
      rw [hr]
      rfl
    · refine H _ _ L ((F0.upI (by decide)).upI (by decide)) (h1'.q (L := L) (L' := L) (FQ.row FrO.rf.up.up) ?_) (by rw [up_cell (by decide), up_cell (by decide)]; exact thr) (fun _ => rfl)
      rw [row_up (row_up h1'.1 _ _)]
      unfold gShape
      rw [hr]
      rfl
  by_cases t5 : t = 5
  · have h5 : ¬ ¬ Int32.ofNat t = 5 := fun hn => hn (by rw [t5]; rfl)
    refine bx_f h5 (bx_b (fun hr => bx_f h5 (s_M_on (h.mr hk) hc ⟨fun h0 => s_M_change h.thr (fun I1 hF1 hM1 => put ?_ I1 hF1 hM1), fun h0 => bad 2 ?_⟩)) (fun hr => bad 1 ?_))
    · rw [e, hr, Bool.and_false, if_neg (by decide), if_neg (fun hh => hh.2 h0)]
    · rw [e, hr, Bool.and_false, if_neg (by decide), if_pos ⟨t5, h0⟩]
    · rw [e, hr, t5, if_pos (by rfl)]
  · have h5 : ¬ Int32.ofNat t = 5 := fun hh => t5 ((o_eq (b := 5) (by omega) (by decide)).mp hh)
    refine bx_t h5 (bx_t h5 (s_M_change h.thr (fun I1 hF1 hM1 => put ?_ I1 hF1 hM1)))
    rw [e, beq_false_of_ne t5, Bool.false_and, if_neg (by decide), if_neg (fun hh => t5 hh.1)]
end
