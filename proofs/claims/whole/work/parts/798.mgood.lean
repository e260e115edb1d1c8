/-! the reference: how far the buffer is a map -/
section
variable {I : e_TI} {L : e_TL} {D : e_TD} {sc : e_TS} {Ψ : Int32 → e_TI → e_TL → e_TD → Prop}
theorem s_M_goodLength {n : Nat} (hn : n ≤ 80) (hl : I 139 17 = Int32.ofNat n) (h1 : ∀ i, i < n → gGood i (I 147 i) = false → (∀ j, j < i → gGood j (I 147 j) = true) → Ψ (Int32.ofNat i) I L D) (h0 : (∀ j, j < n → gGood j (I 147 j) = true) → Ψ (Int32.ofNat n) I L D) : e_M 301 [.ref 139] (S0 I L D sc) (e_rI sc Ψ) := by
  have key : ∀ i, i ≤ n → (∀ j, j < i → gGood j (I 147 j) = true) → e_Wp 301 4 [some (.ref 139), some (.int (Int32.ofNat i)), some (.int 1), none] [] (S0 I L D sc) 0 0 (e_rI sc Ψ) := by
    refine e_downInd (G := fun i => (∀ j, j < i → gGood j (I 147 j) = true) → e_Wp 301 4 [some (.ref 139), some (.int (Int32.ofNat i)), some (.int 1), none] [] (S0 I L D sc) 0 0 (e_rI sc Ψ)) n (fun i hi ih hb => ?_) (fun hb => ?_)
    · have good : gGood i (I 147 i) = true → e_Wp 301 4 [some (.ref 139), some (.int (Int32.ofNat i + 1)), some (.int 1), none] [] (S0 I L D sc) 0 0 (e_rI sc Ψ) := fun hg => by
        rw [o_s]
        refine ih (fun j hj => ?_)
        by_cases e : j = i
        · rw [e]; exact hg
        · exact hb j (by omega)
      have bad : gGood i (I 147 i) = false → e_Wp 301 4 [some (.ref 139), some (.int (Int32.ofNat i + 0)), some (.int 0), none] [] (S0 I L D sc) 0 0 (e_rI sc Ψ) := fun hg => by
        rw [addI0]
        exact vM_goodLength_p4 (bx_t rfl (h1 i hi hg hb))
      have big : 69 ≤ i → gGood i (I 147 i) = false := fun h69 => by
        unfold gGood
        rw [decide_eq_false (by omega), Bool.false_and]
      refine vM_goodLength_p4 (bx_f (by decide) ?_)
      rw [hl, o_le (by omega) (by omega)]
      refine bx_f (by omega) ?_
      rw [show (10 : Int32) = Int32.ofNat 10 from rfl, o_div (by omega) (by omega), o_mul, o_sub (show i / 10 * 10 ≤ i by omega), o_ix (a := i) (by omega)]
      have c69 : ((69 : Int32) ≤ Int32.ofNat i) ↔ 69 ≤ i := o_le (a := 69) (by decide) (by omega)
      rw [c69]
      refine ⟨fun hne => ⟨fun h69 => bad (big h69), fun h69 => ⟨o_in (by omega), s_M_kindOf (fun hk => bx_f (b_nn (by omega)) (good ?_)) (fun hk => bx_t (by decide) (bad ?_))⟩⟩, fun he => ⟨fun h69 => bad (big h69), fun h69 => ⟨o_in (by omega), fun hn47 => bad ?_, fun h47 => good ?_⟩⟩⟩
      · have h9 : i - i / 10 * 10 ≠ 9 := fun e => hne (by rw [e]; rfl)
        unfold gGood
        rw [decide_eq_true (by omega), if_pos (by omega), decide_eq_true hk]
        rfl
      · have h9 : i - i / 10 * 10 ≠ 9 := fun e => hne (by rw [e]; rfl)
        unfold gGood
        rw [if_pos (by omega), decide_eq_false (p := gKd (I 147 i) < 11) (by omega), Bool.and_false]
      · have h9 : i - i / 10 * 10 = 9 := (o_eq (b := 9) (by omega) (by decide)).mp (Classical.not_not.mp he)
        unfold gGood
        rw [if_neg (by omega), beq_false_of_ne hn47, Bool.and_false]
      · have h9 : i - i / 10 * 10 = 9 := (o_eq (b := 9) (by omega) (by decide)).mp (Classical.not_not.mp he)
        unfold gGood
        rw [decide_eq_true (by omega), if_neg (by omega), Classical.not_not.mp h47]
        rfl
    · refine vM_goodLength_p4 (bx_f (by decide) ?_)
      rw [hl]
      exact bx_t Int32.le_rfl (h0 hb)
  exact vM_goodLength (key 0 (Nat.zero_le _) (fun j hj => absurd hj (Nat.not_lt_zero _)))
end
