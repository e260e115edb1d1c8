/-! the reference's face: cell, unit, account -/
section
variable {I : e_TI} {L : e_TL} {D : e_TD} {sc : e_TS} {w : Wd} {s : Nat → Int32} {Ψ : Int32 → e_TI → e_TL → e_TD → Prop}
theorem s_M_strengthOf (h : MR I s) {d : Nat} (hd : d ≤ 1) (H : Ψ (Int32.ofNat (gStr s (gOwn s d))) I L D) : e_M 295 [.ref 139, .int (Int32.ofNat d)] (S0 I L D sc) (e_rI sc Ψ) := by
  have hm := h.ma
  refine vM_strengthOf (loop_S (G := fun y i => e_Wp 295 4 [some (.ref 139), some (.int (Int32.ofNat d)), some (.int y), some (.int i)] [] (S0 I L D sc) 0 0 (e_rI sc Ψ)) 0 (fun u => if gOwn s d u && gU s u then gSt s u else 0) (gMa s) (fun i y hi K0 K1 => ?_) ?_)
  · refine vM_strengthOf_p4 (bx_f (h.go hi) (s_M_isOf h (by omega) hd (bx_b (fun h0 => ?_) (fun h1 => s_M_st h hi ?_))))
    · rw [addI0]
      exact K0 (by rw [h0, Bool.false_and]; rfl)
    · have : (gOwn s d i && gU s i) = true := by rw [h1, gOwn_U h1]; rfl
      simp only [this, if_true] at K1
      exact K1
  · refine vM_strengthOf_p4 (bx_t h.end ?_)
    rw [Nat.zero_add, ← sum_up (n := gMa s) (fun u hu => by rw [gU_no h hu, Bool.and_false]; rfl) 16 hm]
    exact H
theorem sM_account (h : MW I w) (hk : gok (wG w)) {x y : Int32} (H : oM I L D w (aAccount (wG w) x y) Ψ) : e_M 296 [.ref 139, .int x, .int y] (S0 I L D sc) (e_rI sc Ψ) := by
  refine vM_account (s_M_isSide (bx_n (fun h1 => s_M_inR 0 5 (bx_n (fun h2 => ?_) (fun h2 => H.exc h (n := 1) (z := 0) ?_))) (fun h0 => H.exc h (n := 0) (z := 0) (by unfold aAccount; rw [h0]; rfl))))
  · have e : aAccount (wG w) x y = if y = 0 then (0, wG w (197 + 4 * nx x)) else if y = 1 then (0, Int32.ofNat (gStr (wG w) (gOwn (wG w) (nx x)))) else if y = 2 then (0, wG w (197 + 4 * nx x + 1)) else if y = 3 then (0, wG w (197 + 4 * nx x + 2)) else if y = 4 then (0, Int32.ofNat ((List.range 16).countP (gOwn (wG w) (nx x)))) else if y = 5 then (0, wG w (197 + 4 * nx x + 3)) else (2, 0) := by
      unfold aAccount
      rw [h1]
      rfl
    have hm := h.mrt hk (x := 0)
    obtain ⟨d, hd, rfl⟩ := iS_ex h1
    obtain ⟨k, _, hk5, rfl⟩ := iR_ex (by decide) (by decide) h2
    rw [nx_of (by omega)] at e
    have ei : ∀ k : Nat, ((197 : Int32) + (4 * Int32.ofNat d)) + Int32.ofNat k = Int32.ofNat (197 + 4 * d + k) := fun k => by
      rw [show (197 : Int32) = Int32.ofNat 197 from rfl, show (4 : Int32) = Int32.ofNat 4 from rfl, o_mul, o_add, o_add]
    have e0 : ((197 : Int32) + (4 * Int32.ofNat d)) + 0 = Int32.ofNat (197 + 4 * d + 0) := ei 0
    have e1 : ((197 : Int32) + (4 * Int32.ofNat d)) + 1 = Int32.ofNat (197 + 4 * d + 1) := ei 1
    have e2 : ((197 : Int32) + (4 * Int32.ofNat d)) + 2 = Int32.ofNat (197 + 4 * d + 2) := ei 2
    have e3 : ((197 : Int32) + (4 * Int32.ofNat d)) + 3 = Int32.ofNat (197 + 4 * d + 3) := ei 3
    rw [e0, e1, e2, e3, o_ix (a := 197 + 4 * d + 0) (by omega), o_ix (a := 197 + 4 * d + 1) (by omega), o_ix (a := 197 + 4 * d + 2) (by omega), o_ix (a := 197 + 4 * d + 3) (by omega), h.1]
    have cs : k = 0 ∨ k = 1 ∨ k = 2 ∨ k = 3 ∨ k = 4 ∨ k = 5 := by omega
    rcases cs with rfl | rfl | rfl | rfl | rfl | rfl
    · exact bx_t (by decide) ⟨o_in (by omega), H.ok h e⟩
    · exact bx_f (by decide) (bx_t (by decide) (s_M_strengthOf hm hd (H.ok h e)))
    · exact bx_f (by decide) (bx_f (by decide) (bx_t (by decide) ⟨o_in (by omega), H.ok h e⟩))
    · exact bx_f (by decide) (bx_f (by decide) (bx_f (by decide) (bx_t (by decide) ⟨o_in (by omega), H.ok h e⟩)))
    · refine bx_f (by decide) (bx_f (by decide) (bx_f (by decide) (bx_f (by decide) (bx_t (by decide) ?_))))
      have hma := hm.ma
      refine loop_S (G := fun y i => e_Wp 296 119 [some (.ref 139), some (.int (Int32.ofNat d)), some (.int (Int32.ofNat 4)), some (.int (197 + 4 * Int32.ofNat d)), some (.int y), some (.int i)] [] (S0 (e_up I 139 5 0) L D sc) 0 0 (e_rI sc Ψ)) 0 (fun u => if gOwn (wG w) d u = true then 1 else 0) (gMa (wG w)) (fun i y hi K0 K1 => ?_) ?_
      · refine vM_account_p119 (bx_f (hm.go hi) (s_M_isOf hm (by omega) hd (bx_b (fun h0 => ?_) (fun h3 => ?_))))
        · rw [addI0]
          exact K0 (by rw [h0]; rfl)
        · simp only [h3, if_true] at K1
          exact K1
      · refine vM_account_p119 (bx_t hm.end ?_)
        rw [Nat.zero_add, ← sum_up (n := gMa (wG w)) (fun u hu => by rw [gOwn_no hm hu]; rfl) 16 hma, countP_sum]
        exact H.ok h e
    · exact bx_f (by decide) (bx_f (by decide) (bx_f (by decide) (bx_f (by decide) (bx_f (by decide) ⟨o_in (by omega), H.ok h e⟩))))
  · have no := no_iR (by decide) h2
    unfold aAccount
    rw [h1, if_neg (by decide), if_neg (show ¬ y = 0 from no 0 (by decide)), if_neg (show ¬ y = 1 from no 1 (by decide)), if_neg (show ¬ y = 2 from no 2 (by decide)), if_neg (show ¬ y = 3 from no 3 (by decide)), if_neg (show ¬ y = 4 from no 4 (by decide)), if_neg (show ¬ y = 5 from no 5 (by decide))]
theorem sM_cell (h : MW I w) (hk : gok (wG w)) {x y : Int32} (H : oM I L D w (aCell (wG w) x y) Ψ) : e_M 238 [.ref 139, .int x, .int y] (S0 I L D sc) (e_rI sc Ψ) := by
  refine vM_cell (s_M_isCell (bx_n (fun h1 => s_M_inR 0 4 (bx_n (fun h2 => ?_) (fun h2 => H.exc h (n := 1) (z := 0) ?_))) (fun h0 => H.exc h (n := 0) (z := 0) (by unfold aCell; rw [h0]; rfl))))
  · have e : aCell (wG w) x y = if y = 0 then (0, Int32.ofNat (gTer (wG w) (nx x))) else if y = 1 then (0, e_b (gRd (wG w) (nx x))) else if y = 2 then (0, wG w (126 + nx x)) else if y = 3 then (0, sI (gOn (wG w) (nx x))) else if y = 4 then (0, Int32.ofNat (gStr (wG w) (gOn (wG w) (nx x)))) else (2, 0) := by
      unfold aCell
      rw [h1]
      rfl
    have hm := h.mrt hk (x := 0)
    obtain ⟨c, hc, rfl⟩ := iC_ex h1
    obtain ⟨k, _, hk4, rfl⟩ := iR_ex (by decide) (by decide) h2
    rw [nx_of (by omega)] at e
    have ei : ∀ k : Nat, ((63 : Int32) * Int32.ofNat k) + Int32.ofNat c = Int32.ofNat (63 * k + c) := fun k => by
      rw [show (63 : Int32) = Int32.ofNat 63 from rfl, o_mul, o_add]
    rw [ei, h.1]
    have g := hk.1 c hc
    have cs : k = 0 ∨ k = 1 ∨ k = 2 ∨ k = 3 ∨ k = 4 := by omega
    rcases cs with rfl | rfl | rfl | rfl | rfl
    · refine bx_f (by decide) ?_
      rw [o_ix (a := 63 * 0 + c) (by omega)]
      refine ⟨o_in (by omega), ?_⟩
      rw [show wG w (63 * 0 + c) = Int32.ofNat (gTer (wG w) c) from by rw [show 63 * 0 + c = c by omega]; exact g.1.1]
      exact H.ok h e
    · refine bx_f (by decide) ?_
      rw [o_ix (a := 63 * 1 + c) (by omega)]
      refine ⟨o_in (by omega), ?_⟩
      have er : wG w (63 * 1 + c) = e_b (gRd (wG w) c) := by
        rw [show 63 * 1 + c = 63 + c by omega, gb_b g.2.1]
        unfold gRd
        rw [decide_eq_true hc, Bool.true_and]
      rw [er]
      exact H.ok h e
    · refine bx_f (by decide) ?_
      rw [o_ix (a := 63 * 2 + c) (by omega)]
      refine ⟨o_in (by omega), ?_⟩
      rw [show 63 * 2 + c = 126 + c by omega]
      exact H.ok h e
    · exact bx_t (by decide) (bx_f (fun hn => hn rfl) (s_M_on hm hc (H.ok h e)))
    · exact bx_t (by decide) (bx_t (by decide) (s_M_strengthOn hm hc (H.ok h e)))
  · have no := no_iR (by decide) h2
    unfold aCell
    rw [h1, if_neg (by decide), if_neg (show ¬ y = 0 from no 0 (by decide)), if_neg (show ¬ y = 1 from no 1 (by decide)), if_neg (show ¬ y = 2 from no 2 (by decide)), if_neg (show ¬ y = 3 from no 3 (by decide)), if_neg (show ¬ y = 4 from no 4 (by decide))]
end
