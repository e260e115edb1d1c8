/-! the reference's face: a map read from the buffer -/
section
variable {I : e_TI} {L : e_TL} {D : e_TD} {sc : e_TS} {w : Wd} {Ψ : Int32 → e_TI → e_TL → e_TD → Prop}
theorem MW.clear (h : MW I w) {x : Int32} : MW (e_up (e_up I 139 17 0) 139 5 x) (wBf w (0, wB w)) := by
  obtain ⟨h1, ⟨h2, h3⟩, ⟨h4, h5, h6⟩, ⟨h7, h8, h9⟩, ⟨h10, h11, h12⟩⟩ := h
  refine ⟨?_, ⟨?_, fun hs k hk => ?_⟩, ⟨?_, h5, fun i hi k hk => ?_⟩, ⟨?_, h8, fun i hi => ?_⟩, ⟨?_, Nat.zero_le _, fun i hi => absurd hi (Nat.not_lt_zero _)⟩⟩
  · rw [up_cell (by decide), up_cell (by decide)]; exact h1
  · rw [up_slot (by decide), up_slot (by decide)]; exact h2
  · rw [up_cell (by decide), up_cell (by decide)]; exact h3 hs k hk
  · rw [up_slot (by decide), up_slot (by decide)]; exact h4
  · rw [up_cell (by decide), up_cell (by decide)]; exact h6 i hi k hk
  · rw [up_slot (by decide), up_slot (by decide)]; exact h7
  · rw [up_cell (by decide), up_cell (by decide)]; exact h9 i hi
  · rw [up_slot (by decide), up_same]; rfl
/-- the first i letters flood a unit's cell -/
def gFl (w : Wd) (i : Nat) : Bool := (List.range i).any fun j => match gCA j with
  | none => false
  | some c => gKd (wB w j) == 5 && gCells (wG w) (gU (wG w)) c
theorem gFl_s (w : Wd) (i : Nat) : gFl w (i + 1) = (gFl w i || match gCA i with
  | none => false
  | some c => gKd (wB w i) == 5 && gCells (wG w) (gU (wG w)) c) := by
  unfold gFl
  rw [List.range_succ, List.any_append, List.any_cons, List.any_nil, Bool.or_false]
theorem gFl_floods (ha : ∀ j, j < wN w → gGood j (wB w j) = true) : gFl w (wN w) = gFloods w := by
  unfold gFl gFloods gWatB
  rw [Bool.eq_iff_iff, List.any_eq_true, List.any_eq_true]
  constructor
  · rintro ⟨j, hj, hp⟩
    cases hc : gCA j with
    | none => rw [hc] at hp; cases hp
    | some c =>
      rw [hc] at hp
      simp only [Bool.and_eq_true] at hp
      refine ⟨c, List.mem_range.mpr (gGood_kd (ha j (List.mem_range.mp hj)) hc).2, ?_⟩
      rw [Bool.and_eq_true, List.any_eq_true]
      refine ⟨⟨j, hj, ?_⟩, hp.2⟩
      rw [hc, hp.1, beq_self_eq_true]
      rfl
  · rintro ⟨c, _, hp⟩
    rw [Bool.and_eq_true, List.any_eq_true] at hp
    obtain ⟨⟨j, hj, hq⟩, hcl⟩ := hp
    rw [Bool.and_eq_true] at hq
    refine ⟨j, hj, ?_⟩
    rw [beq_iff_eq.mp hq.1]
    dsimp only
    rw [hq.2, hcl]
    rfl
theorem gCells_on {s : Nat → Int32} (hm : gMa s ≤ 16) {c : Nat} : sI (gOn s c) = 0 ↔ gCells s (gU s) c = false := by
  rw [sI_eq0]
  unfold gCells gOn
  rw [List.any_eq_false]
  constructor
  · intro h u hu
    have := h u (by have := List.mem_range.mp hu; omega)
    rw [Bool.and_self, this]
    decide
  · intro h u _
    cases hU : gU s u with
    | false => rfl
    | true =>
      have := h u (List.mem_range.mpr (by have := gU_lt hU; omega))
      rw [hU, Bool.and_self] at this
      exact Bool.eq_false_iff.mpr this
theorem ten_s {i : Nat} : (i + 1) - (i + 1) / 10 = (i - i / 10) + if i % 10 < 9 then 1 else 0 := by
  split <;> omega
theorem sM_readMap (h : MW I w) (hk : gok (wG w)) (H : oM I L D (wReadMap w) (aReadMap w) Ψ) : e_M 303 [.ref 139] (S0 I L D sc) (e_rI sc Ψ) := by
  have h' := h
  obtain ⟨h1, _, _, _, ⟨h10, h11, h12⟩⟩ := h'
  have hF0 : ∀ {x : Int32}, Fr 139 148 I L (e_up (e_up I 139 17 0) 139 5 x) L := fun {x} => (Fr.rf.upI (by decide)).upI (by decide)
  have hC0 := h.clear (x := 0)
  refine vM_readMap (s_M_goodLength h11 h10 (fun i hi hbad hall => ?_) (fun hall => ?_))
  · have he : gErr w = some i := gErr_some hi (by rw [← h12 i hi]; exact hbad) (fun j hj => by rw [← h12 j (by omega)]; exact hall j hj)
    have ew : wReadMap w = wBf w (0, wB w) := by unfold wReadMap; rw [he]
    have ea : aReadMap w = (0, (-100) - Int32.ofNat i) := by unfold aReadMap; rw [he]
    rw [ew, ea] at H
    rw [h10, o_le (by omega) (by omega)]
    exact bx_f (by omega) (H _ _ L hF0 hC0 up_same (fun _ => rfl))
  · have hall' : ∀ j, j < wN w → gGood j (wB w j) = true := fun j hj => by rw [← h12 j hj]; exact hall j hj
    have he : gErr w = none := gErr_none hall'
    rw [h10]
    refine bx_t Int32.le_rfl ?_
    obtain ⟨J, hJ⟩ : ∃ J, e_up (e_up I 139 17 0) 139 5 0 = J := ⟨_, rfl⟩
    have hFJ : Fr 139 148 I L J L := by rw [← hJ]; exact hF0
    have hMJ : MW J (wBf w (0, wB w)) := by rw [← hJ]; exact hC0
    have h5J : J 139 5 = 0 := by rw [← hJ]; exact up_same
    have hBJ : J 147 = I 147 := by rw [← hJ, up_cell (by decide), up_cell (by decide)]
    rw [hJ]
    -- the second walk
    have two : ∀ i, i ≤ wN w → ∀ I1, MW I1 (wBf (wCh w (wG w)) (0, wB w)) → Fr 139 148 I L I1 L → I1 147 = I 147 → I1 139 5 = 0 → gFloods w = false → ∀ I2, FrO I1 I2 → I2 140 = gRead (wG w) (wB w) i → e_Wp 303 123 [some (.ref 139), some (.int (Int32.ofNat (wN w))), some (.int (Int32.ofNat (wN w))), some (.int (Int32.ofNat (wN w - wN w / 10))), some (.int (Int32.ofNat i)), none, none] [] (S0 I2 L D sc) 0 0 (e_rI sc Ψ) := by
      refine e_downInd (G := fun i => ∀ I1, MW I1 (wBf (wCh w (wG w)) (0, wB w)) → Fr 139 148 I L I1 L → I1 147 = I 147 → I1 139 5 = 0 → gFloods w = false → ∀ I2, FrO I1 I2 → I2 140 = gRead (wG w) (wB w) i → e_Wp 303 123 [some (.ref 139), some (.int (Int32.ofNat (wN w))), some (.int (Int32.ofNat (wN w))), some (.int (Int32.ofNat (wN w - wN w / 10))), some (.int (Int32.ofNat i)), none, none] [] (S0 I2 L D sc) 0 0 (e_rI sc Ψ)) (wN w) (fun i hi ih I1 hM1 hF1 hB1 h51 hfl I2 hF2 hR2 => ?_) (fun I1 hM1 hF1 hB1 h51 hfl I2 hF2 hR2 => ?_)
      · have ih' := ih I1 hM1 hF1 hB1 h51 hfl
        have vB : I2 147 i = wB w i := by rw [hF2 147 (by decide), hB1]; exact h12 i hi
        refine vM_readMap_p123 (bx_f (by rw [o_le (by omega) (by omega)]; omega) (s_M_cellAt (by omega) ⟨o_in (by omega), ?_⟩))
        rw [o_ix (a := i) (by omega), vB, o_s]
        cases hc : gCA i with
        | none =>
          have er : gRead (wG w) (wB w) (i + 1) = gRead (wG w) (wB w) i := by
            show (match gCA i with | none => _ | some c => _) = _
            rw [hc]
          have go := ih' I2 hF2 (by rw [er]; exact hR2)
          exact s_M_kindOf (fun _ => bx_t (by decide) go) (fun _ => bx_t (by decide) go)
        | some c =>
          obtain ⟨hk11, hc63⟩ := gGood_kd (hall' i hi) hc
          have er : gRead (wG w) (wB w) (i + 1) = gset (gset (gRead (wG w) (wB w) i) c (Int32.ofNat (gTk (gKd (wB w i))))) (63 + c) (e_b (gRk (gKd (wB w i)))) := by
            show (match gCA i with | none => _ | some c => _) = _
            rw [hc]
            rfl
          rw [show o_opt (some c) = Int32.ofNat c from rfl, show (63 : Int32) + Int32.ofNat c = Int32.ofNat (63 + c) from o_add 63 c, o_ix (a := 63 + c) (by omega), o_ix (a := c) (by omega)]
          have go : ∀ a b : Int32, a = Int32.ofNat (gTk (gKd (wB w i))) → b = e_b (gRk (gKd (wB w i))) → e_Wp 303 123 [some (.ref 139), some (.int (Int32.ofNat (wN w))), some (.int (Int32.ofNat (wN w))), some (.int (Int32.ofNat (wN w - wN w / 10))), some (.int (Int32.ofNat (i + 1))), none, none] [] (S0 (e_up (e_up I2 140 c a) 140 (63 + c) b) L D sc) 0 0 (e_rI sc Ψ) := by
            intro a b ha hb
            subst ha
            subst hb
            exact ih' _ hF2.up.up (by rw [er]; exact row_up (row_up hR2 _ _) _ _)
          refine s_M_kindOf (fun _ => bx_f (b_nn (by omega)) ?_) (fun h11 => by omega)
          rw [show (5 : Int32) = Int32.ofNat 5 from rfl, o_le (by omega) (by omega)]
          refine ⟨fun h5 => ⟨o_in (by omega), bx_t h5 ⟨o_in (by omega), go _ _ ?_ ?_⟩⟩, fun h5 => ⟨o_in (by omega), bx_f h5 ⟨o_in (by omega), go _ _ ?_ ?_⟩⟩⟩
          · unfold gTk
            rw [if_pos (by omega)]
          · unfold gRk
            rw [decide_eq_false (p := 6 ≤ gKd (wB w i)) (by omega)]
            rfl
          · rw [o_sub (by omega), show (1 : Int32) = Int32.ofNat 1 from rfl, o_sub (by omega)]
            unfold gTk
            rw [if_neg (by omega)]
            congr 1
          · unfold gRk
            rw [decide_eq_true (p := 6 ≤ gKd (wB w i)) (by omega), decide_eq_true hk11]
            rfl
      · have ew : wReadMap w = wBf (wCh w (gRead (wG w) (wB w) (wN w))) (0, wB w) := by unfold wReadMap; rw [he]; dsimp only; rw [hfl, if_neg (by decide)]
        have ea : aReadMap w = (0, Int32.ofNat (wN w - wN w / 10)) := by unfold aReadMap; rw [he]; dsimp only; rw [hfl, if_neg (by decide)]
        rw [ew, ea] at H
        have Q : FQ I1 L I2 L := FQ.row hF2
        refine vM_readMap_p123 (bx_t Int32.le_rfl (H _ I2 L (hF1.tr Q.fm) (hM1.q Q hR2) ?_ (fun _ => rfl)))
        rw [hF2 139 (by decide), h51]
        rfl
    -- the first walk
    have one : ∀ i, i ≤ wN w → ∀ I1, FQ J L I1 L → I1 140 = J 140 → I1 139 5 = e_b (gFl w i) → e_Wp 303 35 [some (.ref 139), some (.int (Int32.ofNat (wN w))), some (.int (Int32.ofNat (wN w))), some (.int (Int32.ofNat (i - i / 10))), some (.int (Int32.ofNat i)), none, none] [] (S0 I1 L D sc) 0 0 (e_rI sc Ψ) := by
      refine e_downInd (G := fun i => ∀ I1, FQ J L I1 L → I1 140 = J 140 → I1 139 5 = e_b (gFl w i) → e_Wp 303 35 [some (.ref 139), some (.int (Int32.ofNat (wN w))), some (.int (Int32.ofNat (wN w))), some (.int (Int32.ofNat (i - i / 10))), some (.int (Int32.ofNat i)), none, none] [] (S0 I1 L D sc) 0 0 (e_rI sc Ψ)) (wN w) (fun i hi ih I1 hQ hrow h5 => ?_) (fun I1 hQ hrow h5 => ?_)
      · have vB : I1 147 i = wB w i := by rw [(hQ.1 147 (by decide) (by decide) (by decide) (by decide) (by decide)).1, hBJ]; exact h12 i hi
        have hR : MR I1 (wG w) := ⟨hk, hrow.trans hMJ.1⟩
        have hm16 := hR.ma
        have go : ∀ (x v : Int32), x = Int32.ofNat ((i + 1) - (i + 1) / 10) → v = e_b (gFl w (i + 1)) → e_Wp 303 35 [some (.ref 139), some (.int (Int32.ofNat (wN w))), some (.int (Int32.ofNat (wN w))), some (.int x), some (.int (Int32.ofNat (i + 1))), none, none] [] (S0 (e_up I1 139 5 v) L D sc) 0 0 (e_rI sc Ψ) := by
          intro x v hx hv
          subst hx
          subst hv
          exact ih _ hQ.thr (by rw [up_cell (by decide)]; exact hrow) up_same
        refine vM_readMap_p35 (bx_f (by rw [o_le (by omega) (by omega)]; omega) (s_M_cellAt (by omega) ?_))
        have fs := gFl_s w i
        rw [o_ix (a := i) (by omega), vB, h5, o_s]
        cases hc : gCA i with
        | none =>
          have h9 : ¬ i % 10 < 9 := by
            intro h9
            unfold gCA at hc
            rw [if_pos h9] at hc
            cases hc
          rw [hc, Bool.or_false] at fs
          refine bx_t (by decide) (bx_t (by decide) (go _ _ ?_ ?_))
          · rw [addI0, ten_s, if_neg h9]
            rfl
          · rw [fs]
        | some c =>
          obtain ⟨hk11, hc63⟩ := gGood_kd (hall' i hi) hc
          have h9 : i % 10 < 9 := by
            apply Classical.byContradiction
            intro h9
            unfold gCA at hc
            rw [if_neg h9] at hc
            cases hc
          have ex : Int32.ofNat (i - i / 10) + 1 = Int32.ofNat ((i + 1) - (i + 1) / 10) := by
            rw [o_s, ten_s, if_pos h9]
          rw [hc] at fs
          dsimp only at fs
          rw [show o_opt (some c) = Int32.ofNat c from rfl]
          refine bx_f (b_nn (by omega)) (bx_f (b_nn (by omega)) ⟨o_in (by omega), s_M_kindOf (fun _ => ⟨fun hn => go _ _ ex ?_, fun hy => s_M_on hR hc63 ⟨fun h0 => ?_, fun h0 => go _ _ ex ?_⟩⟩) (fun h11 => by omega)⟩)
          · have : ¬ gKd (wB w i) = 5 := fun e => hn (by rw [e]; rfl)
            rw [fs, beq_false_of_ne this, Bool.false_and, Bool.or_false]
            exact h5
          · rw [h5]
            refine go _ _ ex ?_
            rw [fs, (gCells_on hm16).mp h0, Bool.and_false, Bool.or_false]
          · have k5 : gKd (wB w i) = 5 := (o_eq (b := 5) (by omega) (by decide)).mp (Classical.not_not.mp hy)
            have : gCells (wG w) (gU (wG w)) c = true := by
              rw [← Bool.not_eq_false]
              exact fun hh => h0 ((gCells_on hm16).mpr hh)
            rw [fs, this, k5, beq_self_eq_true, Bool.and_true, Bool.or_true]
            rfl
      · refine vM_readMap_p35 (bx_t Int32.le_rfl ?_)
        have hM1 : MW I1 (wBf w (0, wB w)) := hMJ.q hQ (hrow.trans hMJ.1)
        rw [h5, gFl_floods hall']
        cases hfl : gFloods w with
        | false =>
          rw [gFl_floods hall', hfl] at h5
          refine bx_t (by decide) (s_M_change hM1 (fun I2 hF2 hM2 => two 0 (Nat.zero_le _) I2 hM2 ((hFJ.tr hQ.fm).tr hF2.fm) ?_ ?_ hfl I2 FrO.rf hM2.1))
          · rw [hF2.1 147 (by decide) (by decide), (hQ.1 147 (by decide) (by decide) (by decide) (by decide) (by decide)).1, hBJ]
          · rw [hF2.2 5 (by decide), h5]; rfl
        | true =>
          have ew : wReadMap w = wBf w (0, wB w) := by unfold wReadMap; rw [he]; dsimp only; rw [hfl, if_pos rfl]
          have ea : aReadMap w = (1, 0) := by unfold aReadMap; rw [he]; dsimp only; rw [hfl, if_pos rfl]
          rw [gFl_floods hall', hfl] at h5
          rw [ew, ea] at H
          exact bx_f (by decide) (H _ I1 L (hFJ.tr hQ.fm) hM1 (by rw [h5]; rfl) (fun h0 => by cases h0))
    exact one 0 (Nat.zero_le _) J FQ.rf rfl (by rw [h5J]; rfl)
end
