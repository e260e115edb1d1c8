/-! the reference's face: the text of the map -/
section
variable {I : e_TI} {L : e_TL} {D : e_TD} {sc : e_TS} {w : Wd} {Ψ : Int32 → e_TI → e_TL → e_TD → Prop}
theorem s_M_cellAt {n : Nat} (hn : n < 1000) (H : Ψ (o_opt (gCA n)) I L D) : e_M 302 [.int (Int32.ofNat n)] (S0 I L D sc) (e_rI sc Ψ) := by
  refine vM_cellAt ?_
  rw [show (10 : Int32) = Int32.ofNat 10 from rfl, o_div (by omega) (by omega), o_mul, o_sub (show n / 10 ≤ n by omega), o_sub (show n / 10 * 10 ≤ n by omega)]
  unfold gCA at H
  refine ⟨fun h => ?_, fun h => ?_⟩
  · have h9 : n - n / 10 * 10 ≠ 9 := fun e => h (by rw [e]; rfl)
    rw [if_pos (by omega)] at H
    rw [show n - n / 10 = 9 * (n / 10) + n % 10 by omega]
    exact H
  · have h9 : n - n / 10 * 10 = 9 := (o_eq (b := 9) (by omega) (by decide)).mp (Classical.not_not.mp h)
    rw [if_neg (by omega)] at H
    exact H
theorem s_M_kindOf {x : Int32} (h1 : gKd x < 11 → Ψ (Int32.ofNat (gKd x)) I L D) (h0 : gKd x = 11 → Ψ (-1) I L D) : e_M 300 [.int x] (S0 I L D sc) (e_rI sc Ψ) := by
  refine vM_kindOf (loop_F (G := fun i => e_Wp 300 2 [some (.int x), some (.int i)] [] (S0 I L D sc) 0 0 (e_rI sc Ψ)) (fun k => Int32.ofNat (gL5 k) == x) 11 (fun i hi hb K => ?_) (fun hno => ?_))
  · refine vM_kindOf_p2 (bx_f (b_ge hi) (s_charAt2 hi ⟨fun hn => K (beq_false_of_ne hn), fun he => ?_⟩))
    have e : gKd x = i := by
      have : (List.range 11).find? (fun k => Int32.ofNat (gL5 k) == x) = some i := by
        rw [List.find?_range_eq_some]
        refine ⟨beq_iff_eq.mpr (Classical.not_not.mp he), List.mem_range.mpr hi, fun j hj => ?_⟩
        rw [hb j hj]
        rfl
      unfold gKd
      rw [this]
      rfl
    have := h1 (by rw [e]; exact hi)
    rw [e] at this
    exact this
  · refine vM_kindOf_p2 (bx_t (b_self 11) (h0 ?_))
    have : (List.range 11).find? (fun k => Int32.ofNat (gL5 k) == x) = none := by
      rw [List.find?_eq_none]
      intro j hj
      rw [hno j (List.mem_range.mp hj)]
      decide
    unfold gKd
    rw [this]
    rfl
theorem sM_text (h : MW I w) (hk : gok (wG w)) {x : Int32} (H : oM I L D w (aText (wG w) x) Ψ) : e_M 304 [.ref 139, .int x] (S0 I L D sc) (e_rI sc Ψ) := by
  refine vM_text (s_M_inR 0 68 (bx_b (fun h0 => H.exc h (n := 0) (z := 0) (by unfold aText; rw [h0]; rfl)) (fun h1 => ?_)))
  have e : aText (wG w) x = match gCA (nx x) with | none => (0, 47) | some c => (0, Int32.ofNat (gL5 (if gRd (wG w) c then gTer (wG w) c + 6 else gTer (wG w) c))) := by
    unfold aText
    rw [h1]
    rfl
  obtain ⟨n, _, hn, rfl⟩ := iR_ex (by decide) (by decide) h1
  rw [nx_of (by omega)] at e
  have hm := h.mrt hk (x := 0)
  refine s_M_cellAt (by omega) ?_
  cases hca : gCA n with
  | none =>
    rw [hca] at e
    exact bx_f (by decide) (H.ok h e)
  | some c =>
    rw [hca] at e
    dsimp only at e
    have hc : c < 63 := gCA_lt (by omega) hca
    obtain ⟨t1, t2⟩ := hm.ter hc
    have g := hk.1 c hc
    have vr : (e_up I 139 5 0) 140 (63 + c) = e_b (gRd (wG w) c) := by
      rw [hm.2, gb_b g.2.1]
      unfold gRd
      rw [decide_eq_true hc, Bool.true_and]
    have one : ∀ b : Bool, (e_b b = 1) ↔ b = true := by decide
    rw [show o_opt (some c) = Int32.ofNat c from rfl, show (63 : Int32) + Int32.ofNat c = Int32.ofNat (63 + c) from o_add 63 c, o_ix (a := 63 + c) (by omega), o_ix (a := c) (by omega), vr, t1, one]
    refine bx_t (Int32.not_lt.mp (b_nn (by omega))) ⟨o_in (by omega), o_in (by omega), fun hr => ?_, fun hr => ?_⟩
    · rw [Bool.not_eq_true] at hr
      have e' : aText (wG w) (Int32.ofNat n) = (0, Int32.ofNat (gL5 (gTer (wG w) c))) := by
        rw [e, hr]
        rfl
      rw [addI0]
      exact s_charAt2 (by omega) ⟨gL5_nar ⟨gTer (wG w) c, by omega⟩, H.ok h e'⟩
    · have hr' := Classical.not_not.mp hr
      have h5 := g.2.2.2 hr'
      have e' : aText (wG w) (Int32.ofNat n) = (0, Int32.ofNat (gL5 (gTer (wG w) c + 6))) := by
        rw [e, hr']
        rfl
      rw [show Int32.ofNat (gTer (wG w) c) + 6 = Int32.ofNat (gTer (wG w) c + 6) from o_add _ 6]
      exact s_charAt2 (by omega) ⟨gL5_nar ⟨gTer (wG w) c + 6, by omega⟩, H.ok h e'⟩
end
