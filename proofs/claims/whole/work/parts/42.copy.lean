/-! a game copied into another one -/
theorem cpG {a b : Nat} (hab : a + 12 ≤ b ∨ b + 12 ≤ a) {I I1 I2 I3 I4 I5 I6 I7 : e_TI} {L L1 L2 : e_TL} {g : Nat → Int32}
    (l1 : ∀ c, c ≠ a + 2 → L1 c = L c) (l1' : ∀ k, k < 6 → L1 (a + 2) k = L (b + 2) k) (l2 : ∀ c, c ≠ a + 3 → L2 c = L1 c) (l2' : ∀ k, k < 2 → L2 (a + 3) k = L1 (b + 3) k)
    (i1 : ∀ c, c ≠ a + 5 → I1 c = e_up (e_up (e_up (e_up (e_up I (a + 4) 0 (I (b + 4) 0)) (a + 4) 1 (I (b + 4) 1)) (a + 4) 2 (I (b + 4) 2)) (a + 4) 3 (I (b + 4) 3)) (a + 4) 4 (I (b + 4) 4) c)
    (i1' : ∀ k, k < 16 → I1 (a + 5) k = e_up (e_up (e_up (e_up (e_up I (a + 4) 0 (I (b + 4) 0)) (a + 4) 1 (I (b + 4) 1)) (a + 4) 2 (I (b + 4) 2)) (a + 4) 3 (I (b + 4) 3)) (a + 4) 4 (I (b + 4) 4) (b + 5) k)
    (i2 : ∀ c, c ≠ a + 6 → I2 c = I1 c) (i2' : ∀ k, k < 16 → I2 (a + 6) k = I1 (b + 6) k)
    (i3 : ∀ c, c ≠ a + 7 → I3 c = I2 c) (i3' : ∀ k, k < 16 → I3 (a + 7) k = I2 (b + 7) k)
    (i4 : ∀ c, c ≠ a + 8 → I4 c = I3 c) (i4' : ∀ k, k < 2 → I4 (a + 8) k = I3 (b + 8) k)
    (i5 : ∀ c, c ≠ a + 9 → I5 c = I4 c) (i5' : ∀ k, k < 2 → I5 (a + 9) k = I4 (b + 9) k)
    (i6 : ∀ c, c ≠ a + 10 → I6 c = I5 c) (i6' : ∀ k, k < 2 → I6 (a + 10) k = I5 (b + 10) k)
    (i7 : ∀ c, c ≠ a + 11 → I7 c = I6 c) (i7' : ∀ k, k < 2 → I7 (a + 11) k = I6 (b + 11) k)
    (hm : gMa g ≤ 16) (h : RC b I L g) :
    RC a (e_up (e_up (e_up (e_up (e_up (e_up (e_up I7 a 2 (I7 b 2)) a 3 (I7 b 3)) a 4 (I7 b 4)) a 5 (I7 b 5)) a 6 (I7 b 6)) a 7 (I7 b 7)) a 8 (I7 b 8)) (e_up L2 (a + 1) 2 (L2 (b + 1) 2)) g ∧
    Fr a (a + 12) I L (e_up (e_up (e_up (e_up (e_up (e_up (e_up I7 a 2 (I7 b 2)) a 3 (I7 b 3)) a 4 (I7 b 4)) a 5 (I7 b 5)) a 6 (I7 b 6)) a 7 (I7 b 7)) a 8 (I7 b 8)) (e_up L2 (a + 1) 2 (L2 (b + 1) 2)) := by
  have low : ∀ c, c ≠ a + 5 → c ≠ a + 6 → c ≠ a + 7 → c ≠ a + 8 → c ≠ a + 9 → c ≠ a + 10 → c ≠ a + 11 → I7 c = e_up (e_up (e_up (e_up (e_up I (a + 4) 0 (I (b + 4) 0)) (a + 4) 1 (I (b + 4) 1)) (a + 4) 2 (I (b + 4) 2)) (a + 4) 3 (I (b + 4) 3)) (a + 4) 4 (I (b + 4) 4) c := by
    intro c h5 h6 h7 h8 h9 h10 h11
    rw [i7 c h11, i6 c h10, i5 c h9, i4 c h8, i3 c h7, i2 c h6, i1 c h5]
  have old : ∀ c, (c < a ∨ a + 12 ≤ c) → I7 c = I c := by
    intro c hc
    rw [low c (by omega) (by omega) (by omega) (by omega) (by omega) (by omega) (by omega), up_cell (by omega), up_cell (by omega), up_cell (by omega), up_cell (by omega), up_cell (by omega)]
  have oldb : ∀ j, j < 12 → I7 (b + j) = I (b + j) := fun j hj => old _ (by omega)
  have e4 : ∀ k, k < 5 → I7 (a + 4) k = I (b + 4) k := by
    intro k hk
    rw [low _ (by omega) (by omega) (by omega) (by omega) (by omega) (by omega) (by omega)]
    have : k = 0 ∨ k = 1 ∨ k = 2 ∨ k = 3 ∨ k = 4 := by omega
    rcases this with rfl | rfl | rfl | rfl | rfl <;> simp [e_up]
  have oI : ∀ c, c ≠ a → (e_up (e_up (e_up (e_up (e_up (e_up (e_up I7 a 2 (I7 b 2)) a 3 (I7 b 3)) a 4 (I7 b 4)) a 5 (I7 b 5)) a 6 (I7 b 6)) a 7 (I7 b 7)) a 8 (I7 b 8)) c = I7 c := by
    intro c hc
    rw [up_cell hc, up_cell hc, up_cell hc, up_cell hc, up_cell hc, up_cell hc, up_cell hc]
  have up0 : ∀ c, c ≠ a + 4 → e_up (e_up (e_up (e_up (e_up I (a + 4) 0 (I (b + 4) 0)) (a + 4) 1 (I (b + 4) 1)) (a + 4) 2 (I (b + 4) 2)) (a + 4) 3 (I (b + 4) 3)) (a + 4) 4 (I (b + 4) 4) c = I c := by
    intro c hc
    rw [up_cell hc, up_cell hc, up_cell hc, up_cell hc, up_cell hc]
  have e5 : ∀ k, k < 16 → I7 (a + 5) k = I (b + 5) k := by
    intro k hk
    rw [i7 _ (by omega), i6 _ (by omega), i5 _ (by omega), i4 _ (by omega), i3 _ (by omega), i2 _ (by omega), i1' k hk, up0 _ (by omega)]
  have e6 : ∀ k, k < 16 → I7 (a + 6) k = I (b + 6) k := by
    intro k hk
    rw [i7 _ (by omega), i6 _ (by omega), i5 _ (by omega), i4 _ (by omega), i3 _ (by omega), i2' k hk, i1 _ (by omega), up0 _ (by omega)]
  have e7 : ∀ k, k < 16 → I7 (a + 7) k = I (b + 7) k := by
    intro k hk
    rw [i7 _ (by omega), i6 _ (by omega), i5 _ (by omega), i4 _ (by omega), i3' k hk, i2 _ (by omega), i1 _ (by omega), up0 _ (by omega)]
  have e8 : ∀ k, k < 2 → I7 (a + 8) k = I (b + 8) k := by
    intro k hk
    rw [i7 _ (by omega), i6 _ (by omega), i5 _ (by omega), i4' k hk, i3 _ (by omega), i2 _ (by omega), i1 _ (by omega), up0 _ (by omega)]
  have e9 : ∀ k, k < 2 → I7 (a + 9) k = I (b + 9) k := by
    intro k hk
    rw [i7 _ (by omega), i6 _ (by omega), i5' k hk, i4 _ (by omega), i3 _ (by omega), i2 _ (by omega), i1 _ (by omega), up0 _ (by omega)]
  have e10 : ∀ k, k < 2 → I7 (a + 10) k = I (b + 10) k := by
    intro k hk
    rw [i7 _ (by omega), i6' k hk, i5 _ (by omega), i4 _ (by omega), i3 _ (by omega), i2 _ (by omega), i1 _ (by omega), up0 _ (by omega)]
  have e11 : ∀ k, k < 2 → I7 (a + 11) k = I (b + 11) k := by
    intro k hk
    rw [i7' k hk, i6 _ (by omega), i5 _ (by omega), i4 _ (by omega), i3 _ (by omega), i2 _ (by omega), i1 _ (by omega), up0 _ (by omega)]
  have eb : I7 b = I b := old b (by omega)
  have lb : L2 (b + 1) = L (b + 1) := by rw [l2 _ (by omega), l1 _ (by omega)]
  obtain ⟨r1, r2, r3, ⟨r4, r5, r6, r7, r8⟩, r9, r10, r11, r12, r13, r14, r15, r16, r17⟩ := h
  refine ⟨⟨fun t ht => ?_, fun d hd => ?_, ?_, ⟨?_, ?_, ?_, ?_, ?_⟩, fun u hu => ?_, fun d hd => ?_, ?_, ?_, ?_, ?_, ?_, ?_, ?_⟩, fun c hc => ⟨?_, ?_⟩⟩
  · rw [up_cell (by omega), l2 _ (by omega), l1' t ht, r1 t ht]
  · rw [up_cell (by omega), l2' d hd, l1 _ (by omega), r2 d hd]
  · rw [up_same, lb, r3]
  · rw [oI _ (by omega), e4 0 (by omega), r4]
  · rw [oI _ (by omega), e4 1 (by omega), r5]
  · rw [oI _ (by omega), e4 2 (by omega), r6]
  · rw [oI _ (by omega), e4 3 (by omega), r7]
  · rw [oI _ (by omega), e4 4 (by omega), r8]
  · rw [oI _ (by omega), oI _ (by omega), oI _ (by omega), e5 u (by omega), e6 u (by omega), e7 u (by omega)]
    exact r9 u hu
  · rw [oI _ (by omega), oI _ (by omega), oI _ (by omega), oI _ (by omega), e8 d hd, e9 d hd, e10 d hd, e11 d hd]
    exact r10 d hd
  · rw [eb, ← r11]; simp [e_up]
  · rw [eb, ← r12]; simp [e_up]
  · rw [eb, ← r13]; simp [e_up]
  · rw [eb, ← r14]; simp [e_up]
  · rw [eb, ← r15]; simp [e_up]
  · rw [eb, ← r16]; simp [e_up]
  · rw [eb, ← r17]; simp [e_up]
  · rw [oI c (by omega), old c hc]
  · rw [up_cell (by omega), l2 _ (by omega), l1 _ (by omega)]
theorem cp_s {α : Type} {X X' : Nat → Nat → α} {src dst i : Nat} (h1 : ∀ c, c ≠ dst → X' c = X c) (h2 : ∀ k, k < i → X' dst k = X src k) (hne : src ≠ dst) : ∀ k, k < i + 1 → e_up X' dst i (X' src i) dst k = X src k := by
  intro k hk
  by_cases e : k = i
  · rw [e, up_same, h1 src hne]
  · rw [up_slot e]
    exact h2 k (by omega)
theorem s_copySets_4_26 {I : e_TI} {L : e_TL} {D : e_TD} {sc : e_TS} {Ψ : e_TI → e_TL → e_TD → Prop} (H : ∀ X' : e_TL, (∀ c, c ≠ 26 → X' c = L c) → (∀ k, k < 6 → X' 26 k = L 4 k) → Ψ I X' D) : e_M 19 [.ref 4, .ref 26] (S0 I L D sc) (e_rV sc Ψ) := by
  refine vR_copySets_4_26 ?_
  have key : ∀ i, i ≤ 6 → ∀ X' : e_TL, (∀ c, c ≠ 26 → X' c = L c) → (∀ k, k < i → X' 26 k = L 4 k) → e_Wp 19 2 [some (.ref 4), some (.ref 26), some (.int (Int32.ofNat i))] [] (S0 I X' D sc) 0 0 (e_rV sc Ψ) := by
    refine e_downInd 6 (fun i hi ih X' h1 h2 => ?_) (fun X' h1 h2 => vR_copySets_4_26_p2 (bx_t (b_self 6) (H X' h1 h2)))
    refine vR_copySets_4_26_p2 (bx_f (b_ge hi) (bx_f (b_ge hi) ⟨o_in hi, o_in hi, ?_⟩))
    rw [o_ix (by omega), o_s]
    exact ih _ (fun c hc => by rw [up_cell hc]; exact h1 c hc) (cp_s h1 h2 (by decide))
  exact key 0 (by omega) L (fun _ _ => rfl) (fun k hk => absurd hk (Nat.not_lt_zero _))
theorem s_copySets_5_27 {I : e_TI} {L : e_TL} {D : e_TD} {sc : e_TS} {Ψ : e_TI → e_TL → e_TD → Prop} (H : ∀ X' : e_TL, (∀ c, c ≠ 27 → X' c = L c) → (∀ k, k < 2 → X' 27 k = L 5 k) → Ψ I X' D) : e_M 19 [.ref 5, .ref 27] (S0 I L D sc) (e_rV sc Ψ) := by
  refine vR_copySets_5_27 ?_
  have key : ∀ i, i ≤ 2 → ∀ X' : e_TL, (∀ c, c ≠ 27 → X' c = L c) → (∀ k, k < i → X' 27 k = L 5 k) → e_Wp 19 2 [some (.ref 5), some (.ref 27), some (.int (Int32.ofNat i))] [] (S0 I X' D sc) 0 0 (e_rV sc Ψ) := by
    refine e_downInd 2 (fun i hi ih X' h1 h2 => ?_) (fun X' h1 h2 => vR_copySets_5_27_p2 (bx_t (b_self 2) (H X' h1 h2)))
    refine vR_copySets_5_27_p2 (bx_f (b_ge hi) (bx_f (b_ge hi) ⟨o_in hi, o_in hi, ?_⟩))
    rw [o_ix (by omega), o_s]
    exact ih _ (fun c hc => by rw [up_cell hc]; exact h1 c hc) (cp_s h1 h2 (by decide))
  exact key 0 (by omega) L (fun _ _ => rfl) (fun k hk => absurd hk (Nat.not_lt_zero _))
theorem s_copy_7_29 {I : e_TI} {L : e_TL} {D : e_TD} {sc : e_TS} {Ψ : e_TI → e_TL → e_TD → Prop} (H : ∀ X' : e_TI, (∀ c, c ≠ 29 → X' c = I c) → (∀ k, k < 16 → X' 29 k = I 7 k) → Ψ X' L D) : e_M 21 [.ref 7, .ref 29] (S0 I L D sc) (e_rV sc Ψ) := by
  refine vR_copy_7_29 ?_
  have key : ∀ i, i ≤ 16 → ∀ X' : e_TI, (∀ c, c ≠ 29 → X' c = I c) → (∀ k, k < i → X' 29 k = I 7 k) → e_Wp 21 2 [some (.ref 7), some (.ref 29), some (.int (Int32.ofNat i))] [] (S0 X' L D sc) 0 0 (e_rV sc Ψ) := by
    refine e_downInd 16 (fun i hi ih X' h1 h2 => ?_) (fun X' h1 h2 => vR_copy_7_29_p2 (bx_t (b_self 16) (H X' h1 h2)))
    refine vR_copy_7_29_p2 (bx_f (b_ge hi) (bx_f (b_ge hi) ⟨o_in hi, o_in hi, ?_⟩))
    rw [o_ix (by omega), o_s]
    exact ih _ (fun c hc => by rw [up_cell hc]; exact h1 c hc) (cp_s h1 h2 (by decide))
  exact key 0 (by omega) I (fun _ _ => rfl) (fun k hk => absurd hk (Nat.not_lt_zero _))
theorem s_copy_8_30 {I : e_TI} {L : e_TL} {D : e_TD} {sc : e_TS} {Ψ : e_TI → e_TL → e_TD → Prop} (H : ∀ X' : e_TI, (∀ c, c ≠ 30 → X' c = I c) → (∀ k, k < 16 → X' 30 k = I 8 k) → Ψ X' L D) : e_M 21 [.ref 8, .ref 30] (S0 I L D sc) (e_rV sc Ψ) := by
  refine vR_copy_8_30 ?_
  have key : ∀ i, i ≤ 16 → ∀ X' : e_TI, (∀ c, c ≠ 30 → X' c = I c) → (∀ k, k < i → X' 30 k = I 8 k) → e_Wp 21 2 [some (.ref 8), some (.ref 30), some (.int (Int32.ofNat i))] [] (S0 X' L D sc) 0 0 (e_rV sc Ψ) := by
    refine e_downInd 16 (fun i hi ih X' h1 h2 => ?_) (fun X' h1 h2 => vR_copy_8_30_p2 (bx_t (b_self 16) (H X' h1 h2)))
    refine vR_copy_8_30_p2 (bx_f (b_ge hi) (bx_f (b_ge hi) ⟨o_in hi, o_in hi, ?_⟩))
    rw [o_ix (by omega), o_s]
    exact ih _ (fun c hc => by rw [up_cell hc]; exact h1 c hc) (cp_s h1 h2 (by decide))
  exact key 0 (by omega) I (fun _ _ => rfl) (fun k hk => absurd hk (Nat.not_lt_zero _))
theorem s_copy_9_31 {I : e_TI} {L : e_TL} {D : e_TD} {sc : e_TS} {Ψ : e_TI → e_TL → e_TD → Prop} (H : ∀ X' : e_TI, (∀ c, c ≠ 31 → X' c = I c) → (∀ k, k < 16 → X' 31 k = I 9 k) → Ψ X' L D) : e_M 21 [.ref 9, .ref 31] (S0 I L D sc) (e_rV sc Ψ) := by
  refine vR_copy_9_31 ?_
  have key : ∀ i, i ≤ 16 → ∀ X' : e_TI, (∀ c, c ≠ 31 → X' c = I c) → (∀ k, k < i → X' 31 k = I 9 k) → e_Wp 21 2 [some (.ref 9), some (.ref 31), some (.int (Int32.ofNat i))] [] (S0 X' L D sc) 0 0 (e_rV sc Ψ) := by
    refine e_downInd 16 (fun i hi ih X' h1 h2 => ?_) (fun X' h1 h2 => vR_copy_9_31_p2 (bx_t (b_self 16) (H X' h1 h2)))
    refine vR_copy_9_31_p2 (bx_f (b_ge hi) (bx_f (b_ge hi) ⟨o_in hi, o_in hi, ?_⟩))
    rw [o_ix (by omega), o_s]
    exact ih _ (fun c hc => by rw [up_cell hc]; exact h1 c hc) (cp_s h1 h2 (by decide))
  exact key 0 (by omega) I (fun _ _ => rfl) (fun k hk => absurd hk (Nat.not_lt_zero _))
theorem s_copy_10_32 {I : e_TI} {L : e_TL} {D : e_TD} {sc : e_TS} {Ψ : e_TI → e_TL → e_TD → Prop} (H : ∀ X' : e_TI, (∀ c, c ≠ 32 → X' c = I c) → (∀ k, k < 2 → X' 32 k = I 10 k) → Ψ X' L D) : e_M 21 [.ref 10, .ref 32] (S0 I L D sc) (e_rV sc Ψ) := by
  refine vR_copy_10_32 ?_
  have key : ∀ i, i ≤ 2 → ∀ X' : e_TI, (∀ c, c ≠ 32 → X' c = I c) → (∀ k, k < i → X' 32 k = I 10 k) → e_Wp 21 2 [some (.ref 10), some (.ref 32), some (.int (Int32.ofNat i))] [] (S0 X' L D sc) 0 0 (e_rV sc Ψ) := by
    refine e_downInd 2 (fun i hi ih X' h1 h2 => ?_) (fun X' h1 h2 => vR_copy_10_32_p2 (bx_t (b_self 2) (H X' h1 h2)))
    refine vR_copy_10_32_p2 (bx_f (b_ge hi) (bx_f (b_ge hi) ⟨o_in hi, o_in hi, ?_⟩))
    rw [o_ix (by omega), o_s]
    exact ih _ (fun c hc => by rw [up_cell hc]; exact h1 c hc) (cp_s h1 h2 (by decide))
  exact key 0 (by omega) I (fun _ _ => rfl) (fun k hk => absurd hk (Nat.not_lt_zero _))
theorem s_copy_11_33 {I : e_TI} {L : e_TL} {D : e_TD} {sc : e_TS} {Ψ : e_TI → e_TL → e_TD → Prop} (H : ∀ X' : e_TI, (∀ c, c ≠ 33 → X' c = I c) → (∀ k, k < 2 → X' 33 k = I 11 k) → Ψ X' L D) : e_M 21 [.ref 11, .ref 33] (S0 I L D sc) (e_rV sc Ψ) := by
  refine vR_copy_11_33 ?_
  have key : ∀ i, i ≤ 2 → ∀ X' : e_TI, (∀ c, c ≠ 33 → X' c = I c) → (∀ k, k < i → X' 33 k = I 11 k) → e_Wp 21 2 [some (.ref 11), some (.ref 33), some (.int (Int32.ofNat i))] [] (S0 X' L D sc) 0 0 (e_rV sc Ψ) := by
    refine e_downInd 2 (fun i hi ih X' h1 h2 => ?_) (fun X' h1 h2 => vR_copy_11_33_p2 (bx_t (b_self 2) (H X' h1 h2)))
    refine vR_copy_11_33_p2 (bx_f (b_ge hi) (bx_f (b_ge hi) ⟨o_in hi, o_in hi, ?_⟩))
    rw [o_ix (by omega), o_s]
    exact ih _ (fun c hc => by rw [up_cell hc]; exact h1 c hc) (cp_s h1 h2 (by decide))
  exact key 0 (by omega) I (fun _ _ => rfl) (fun k hk => absurd hk (Nat.not_lt_zero _))
theorem s_copy_12_34 {I : e_TI} {L : e_TL} {D : e_TD} {sc : e_TS} {Ψ : e_TI → e_TL → e_TD → Prop} (H : ∀ X' : e_TI, (∀ c, c ≠ 34 → X' c = I c) → (∀ k, k < 2 → X' 34 k = I 12 k) → Ψ X' L D) : e_M 21 [.ref 12, .ref 34] (S0 I L D sc) (e_rV sc Ψ) := by
  refine vR_copy_12_34 ?_
  have key : ∀ i, i ≤ 2 → ∀ X' : e_TI, (∀ c, c ≠ 34 → X' c = I c) → (∀ k, k < i → X' 34 k = I 12 k) → e_Wp 21 2 [some (.ref 12), some (.ref 34), some (.int (Int32.ofNat i))] [] (S0 X' L D sc) 0 0 (e_rV sc Ψ) := by
    refine e_downInd 2 (fun i hi ih X' h1 h2 => ?_) (fun X' h1 h2 => vR_copy_12_34_p2 (bx_t (b_self 2) (H X' h1 h2)))
    refine vR_copy_12_34_p2 (bx_f (b_ge hi) (bx_f (b_ge hi) ⟨o_in hi, o_in hi, ?_⟩))
    rw [o_ix (by omega), o_s]
    exact ih _ (fun c hc => by rw [up_cell hc]; exact h1 c hc) (cp_s h1 h2 (by decide))
  exact key 0 (by omega) I (fun _ _ => rfl) (fun k hk => absurd hk (Nat.not_lt_zero _))
theorem s_copy_13_35 {I : e_TI} {L : e_TL} {D : e_TD} {sc : e_TS} {Ψ : e_TI → e_TL → e_TD → Prop} (H : ∀ X' : e_TI, (∀ c, c ≠ 35 → X' c = I c) → (∀ k, k < 2 → X' 35 k = I 13 k) → Ψ X' L D) : e_M 21 [.ref 13, .ref 35] (S0 I L D sc) (e_rV sc Ψ) := by
  refine vR_copy_13_35 ?_
  have key : ∀ i, i ≤ 2 → ∀ X' : e_TI, (∀ c, c ≠ 35 → X' c = I c) → (∀ k, k < i → X' 35 k = I 13 k) → e_Wp 21 2 [some (.ref 13), some (.ref 35), some (.int (Int32.ofNat i))] [] (S0 X' L D sc) 0 0 (e_rV sc Ψ) := by
    refine e_downInd 2 (fun i hi ih X' h1 h2 => ?_) (fun X' h1 h2 => vR_copy_13_35_p2 (bx_t (b_self 2) (H X' h1 h2)))
    refine vR_copy_13_35_p2 (bx_f (b_ge hi) (bx_f (b_ge hi) ⟨o_in hi, o_in hi, ?_⟩))
    rw [o_ix (by omega), o_s]
    exact ih _ (fun c hc => by rw [up_cell hc]; exact h1 c hc) (cp_s h1 h2 (by decide))
  exact key 0 (by omega) I (fun _ _ => rfl) (fun k hk => absurd hk (Nat.not_lt_zero _))
theorem s_copyG_24_2 {I : e_TI} {L : e_TL} {D : e_TD} {sc : e_TS} {Ψ : e_TI → e_TL → e_TD → Prop} {g : Nat → Int32} (hm : gMa g ≤ 16) (h : RC 2 I L g) (H : ∀ I' L', Fr 24 36 I L I' L' → RC 24 I' L' g → Ψ I' L' D) : e_M 23 [.ref 24, .ref 2] (S0 I L D sc) (e_rV sc Ψ) := by
  refine vG_copyFrom_24_2 (vLd_copyFrom_25_3 (s_copySets_4_26 (fun L1 l1 l1' => s_copySets_5_27 (fun L2 l2 l2' => vU_copyFrom_28_6 ?_))))
  refine s_copy_7_29 (fun I1 i1 i1' => s_copy_8_30 (fun I2 i2 i2' => s_copy_9_31 (fun I3 i3 i3' => s_copy_10_32 (fun I4 i4 i4' => s_copy_11_33 (fun I5 i5 i5' => s_copy_12_34 (fun I6 i6 i6' => s_copy_13_35 (fun I7 i7 i7' => ?_)))))))
  obtain ⟨hR, hF⟩ := cpG (a := 24) (b := 2) (by decide) l1 l1' l2 l2' i1 i1' i2 i2' i3 i3' i4 i4' i5 i5' i6 i6' i7 i7' hm h
  exact H _ _ hF hR
theorem s_copySets_26_4 {I : e_TI} {L : e_TL} {D : e_TD} {sc : e_TS} {Ψ : e_TI → e_TL → e_TD → Prop} (H : ∀ X' : e_TL, (∀ c, c ≠ 4 → X' c = L c) → (∀ k, k < 6 → X' 4 k = L 26 k) → Ψ I X' D) : e_M 19 [.ref 26, .ref 4] (S0 I L D sc) (e_rV sc Ψ) := by
  refine vR_copySets_26_4 ?_
  have key : ∀ i, i ≤ 6 → ∀ X' : e_TL, (∀ c, c ≠ 4 → X' c = L c) → (∀ k, k < i → X' 4 k = L 26 k) → e_Wp 19 2 [some (.ref 26), some (.ref 4), some (.int (Int32.ofNat i))] [] (S0 I X' D sc) 0 0 (e_rV sc Ψ) := by
    refine e_downInd 6 (fun i hi ih X' h1 h2 => ?_) (fun X' h1 h2 => vR_copySets_26_4_p2 (bx_t (b_self 6) (H X' h1 h2)))
    refine vR_copySets_26_4_p2 (bx_f (b_ge hi) (bx_f (b_ge hi) ⟨o_in hi, o_in hi, ?_⟩))
    rw [o_ix (by omega), o_s]
    exact ih _ (fun c hc => by rw [up_cell hc]; exact h1 c hc) (cp_s h1 h2 (by decide))
  exact key 0 (by omega) L (fun _ _ => rfl) (fun k hk => absurd hk (Nat.not_lt_zero _))
theorem s_copySets_27_5 {I : e_TI} {L : e_TL} {D : e_TD} {sc : e_TS} {Ψ : e_TI → e_TL → e_TD → Prop} (H : ∀ X' : e_TL, (∀ c, c ≠ 5 → X' c = L c) → (∀ k, k < 2 → X' 5 k = L 27 k) → Ψ I X' D) : e_M 19 [.ref 27, .ref 5] (S0 I L D sc) (e_rV sc Ψ) := by
  refine vR_copySets_27_5 ?_
  have key : ∀ i, i ≤ 2 → ∀ X' : e_TL, (∀ c, c ≠ 5 → X' c = L c) → (∀ k, k < i → X' 5 k = L 27 k) → e_Wp 19 2 [some (.ref 27), some (.ref 5), some (.int (Int32.ofNat i))] [] (S0 I X' D sc) 0 0 (e_rV sc Ψ) := by
    refine e_downInd 2 (fun i hi ih X' h1 h2 => ?_) (fun X' h1 h2 => vR_copySets_27_5_p2 (bx_t (b_self 2) (H X' h1 h2)))
    refine vR_copySets_27_5_p2 (bx_f (b_ge hi) (bx_f (b_ge hi) ⟨o_in hi, o_in hi, ?_⟩))
    rw [o_ix (by omega), o_s]
    exact ih _ (fun c hc => by rw [up_cell hc]; exact h1 c hc) (cp_s h1 h2 (by decide))
  exact key 0 (by omega) L (fun _ _ => rfl) (fun k hk => absurd hk (Nat.not_lt_zero _))
theorem s_copy_29_7 {I : e_TI} {L : e_TL} {D : e_TD} {sc : e_TS} {Ψ : e_TI → e_TL → e_TD → Prop} (H : ∀ X' : e_TI, (∀ c, c ≠ 7 → X' c = I c) → (∀ k, k < 16 → X' 7 k = I 29 k) → Ψ X' L D) : e_M 21 [.ref 29, .ref 7] (S0 I L D sc) (e_rV sc Ψ) := by
  refine vR_copy_29_7 ?_
  have key : ∀ i, i ≤ 16 → ∀ X' : e_TI, (∀ c, c ≠ 7 → X' c = I c) → (∀ k, k < i → X' 7 k = I 29 k) → e_Wp 21 2 [some (.ref 29), some (.ref 7), some (.int (Int32.ofNat i))] [] (S0 X' L D sc) 0 0 (e_rV sc Ψ) := by
    refine e_downInd 16 (fun i hi ih X' h1 h2 => ?_) (fun X' h1 h2 => vR_copy_29_7_p2 (bx_t (b_self 16) (H X' h1 h2)))
    refine vR_copy_29_7_p2 (bx_f (b_ge hi) (bx_f (b_ge hi) ⟨o_in hi, o_in hi, ?_⟩))
    rw [o_ix (by omega), o_s]
    exact ih _ (fun c hc => by rw [up_cell hc]; exact h1 c hc) (cp_s h1 h2 (by decide))
  exact key 0 (by omega) I (fun _ _ => rfl) (fun k hk => absurd hk (Nat.not_lt_zero _))
theorem s_copy_30_8 {I : e_TI} {L : e_TL} {D : e_TD} {sc : e_TS} {Ψ : e_TI → e_TL → e_TD → Prop} (H : ∀ X' : e_TI, (∀ c, c ≠ 8 → X' c = I c) → (∀ k, k < 16 → X' 8 k = I 30 k) → Ψ X' L D) : e_M 21 [.ref 30, .ref 8] (S0 I L D sc) (e_rV sc Ψ) := by
  refine vR_copy_30_8 ?_
  have key : ∀ i, i ≤ 16 → ∀ X' : e_TI, (∀ c, c ≠ 8 → X' c = I c) → (∀ k, k < i → X' 8 k = I 30 k) → e_Wp 21 2 [some (.ref 30), some (.ref 8), some (.int (Int32.ofNat i))] [] (S0 X' L D sc) 0 0 (e_rV sc Ψ) := by
    refine e_downInd 16 (fun i hi ih X' h1 h2 => ?_) (fun X' h1 h2 => vR_copy_30_8_p2 (bx_t (b_self 16) (H X' h1 h2)))
    refine vR_copy_30_8_p2 (bx_f (b_ge hi) (bx_f (b_ge hi) ⟨o_in hi, o_in hi, ?_⟩))
    rw [o_ix (by omega), o_s]
    exact ih _ (fun c hc => by rw [up_cell hc]; exact h1 c hc) (cp_s h1 h2 (by decide))
  exact key 0 (by omega) I (fun _ _ => rfl) (fun k hk => absurd hk (Nat.not_lt_zero _))
theorem s_copy_31_9 {I : e_TI} {L : e_TL} {D : e_TD} {sc : e_TS} {Ψ : e_TI → e_TL → e_TD → Prop} (H : ∀ X' : e_TI, (∀ c, c ≠ 9 → X' c = I c) → (∀ k, k < 16 → X' 9 k = I 31 k) → Ψ X' L D) : e_M 21 [.ref 31, .ref 9] (S0 I L D sc) (e_rV sc Ψ) := by
  refine vR_copy_31_9 ?_
  have key : ∀ i, i ≤ 16 → ∀ X' : e_TI, (∀ c, c ≠ 9 → X' c = I c) → (∀ k, k < i → X' 9 k = I 31 k) → e_Wp 21 2 [some (.ref 31), some (.ref 9), some (.int (Int32.ofNat i))] [] (S0 X' L D sc) 0 0 (e_rV sc Ψ) := by
    refine e_downInd 16 (fun i hi ih X' h1 h2 => ?_) (fun X' h1 h2 => vR_copy_31_9_p2 (bx_t (b_self 16) (H X' h1 h2)))
    refine vR_copy_31_9_p2 (bx_f (b_ge hi) (bx_f (b_ge hi) ⟨o_in hi, o_in hi, ?_⟩))
    rw [o_ix (by omega), o_s]
    exact ih _ (fun c hc => by rw [up_cell hc]; exact h1 c hc) (cp_s h1 h2 (by decide))
  exact key 0 (by omega) I (fun _ _ => rfl) (fun k hk => absurd hk (Nat.not_lt_zero _))
theorem s_copy_32_10 {I : e_TI} {L : e_TL} {D : e_TD} {sc : e_TS} {Ψ : e_TI → e_TL → e_TD → Prop} (H : ∀ X' : e_TI, (∀ c, c ≠ 10 → X' c = I c) → (∀ k, k < 2 → X' 10 k = I 32 k) → Ψ X' L D) : e_M 21 [.ref 32, .ref 10] (S0 I L D sc) (e_rV sc Ψ) := by
  refine vR_copy_32_10 ?_
  have key : ∀ i, i ≤ 2 → ∀ X' : e_TI, (∀ c, c ≠ 10 → X' c = I c) → (∀ k, k < i → X' 10 k = I 32 k) → e_Wp 21 2 [some (.ref 32), some (.ref 10), some (.int (Int32.ofNat i))] [] (S0 X' L D sc) 0 0 (e_rV sc Ψ) := by
    refine e_downInd 2 (fun i hi ih X' h1 h2 => ?_) (fun X' h1 h2 => vR_copy_32_10_p2 (bx_t (b_self 2) (H X' h1 h2)))
    refine vR_copy_32_10_p2 (bx_f (b_ge hi) (bx_f (b_ge hi) ⟨o_in hi, o_in hi, ?_⟩))
    rw [o_ix (by omega), o_s]
    exact ih _ (fun c hc => by rw [up_cell hc]; exact h1 c hc) (cp_s h1 h2 (by decide))
  exact key 0 (by omega) I (fun _ _ => rfl) (fun k hk => absurd hk (Nat.not_lt_zero _))
theorem s_copy_33_11 {I : e_TI} {L : e_TL} {D : e_TD} {sc : e_TS} {Ψ : e_TI → e_TL → e_TD → Prop} (H : ∀ X' : e_TI, (∀ c, c ≠ 11 → X' c = I c) → (∀ k, k < 2 → X' 11 k = I 33 k) → Ψ X' L D) : e_M 21 [.ref 33, .ref 11] (S0 I L D sc) (e_rV sc Ψ) := by
  refine vR_copy_33_11 ?_
  have key : ∀ i, i ≤ 2 → ∀ X' : e_TI, (∀ c, c ≠ 11 → X' c = I c) → (∀ k, k < i → X' 11 k = I 33 k) → e_Wp 21 2 [some (.ref 33), some (.ref 11), some (.int (Int32.ofNat i))] [] (S0 X' L D sc) 0 0 (e_rV sc Ψ) := by
    refine e_downInd 2 (fun i hi ih X' h1 h2 => ?_) (fun X' h1 h2 => vR_copy_33_11_p2 (bx_t (b_self 2) (H X' h1 h2)))
    refine vR_copy_33_11_p2 (bx_f (b_ge hi) (bx_f (b_ge hi) ⟨o_in hi, o_in hi, ?_⟩))
    rw [o_ix (by omega), o_s]
    exact ih _ (fun c hc => by rw [up_cell hc]; exact h1 c hc) (cp_s h1 h2 (by decide))
  exact key 0 (by omega) I (fun _ _ => rfl) (fun k hk => absurd hk (Nat.not_lt_zero _))
theorem s_copy_34_12 {I : e_TI} {L : e_TL} {D : e_TD} {sc : e_TS} {Ψ : e_TI → e_TL → e_TD → Prop} (H : ∀ X' : e_TI, (∀ c, c ≠ 12 → X' c = I c) → (∀ k, k < 2 → X' 12 k = I 34 k) → Ψ X' L D) : e_M 21 [.ref 34, .ref 12] (S0 I L D sc) (e_rV sc Ψ) := by
  refine vR_copy_34_12 ?_
  have key : ∀ i, i ≤ 2 → ∀ X' : e_TI, (∀ c, c ≠ 12 → X' c = I c) → (∀ k, k < i → X' 12 k = I 34 k) → e_Wp 21 2 [some (.ref 34), some (.ref 12), some (.int (Int32.ofNat i))] [] (S0 X' L D sc) 0 0 (e_rV sc Ψ) := by
    refine e_downInd 2 (fun i hi ih X' h1 h2 => ?_) (fun X' h1 h2 => vR_copy_34_12_p2 (bx_t (b_self 2) (H X' h1 h2)))
    refine vR_copy_34_12_p2 (bx_f (b_ge hi) (bx_f (b_ge hi) ⟨o_in hi, o_in hi, ?_⟩))
    rw [o_ix (by omega), o_s]
    exact ih _ (fun c hc => by rw [up_cell hc]; exact h1 c hc) (cp_s h1 h2 (by decide))
  exact key 0 (by omega) I (fun _ _ => rfl) (fun k hk => absurd hk (Nat.not_lt_zero _))
theorem s_copy_35_13 {I : e_TI} {L : e_TL} {D : e_TD} {sc : e_TS} {Ψ : e_TI → e_TL → e_TD → Prop} (H : ∀ X' : e_TI, (∀ c, c ≠ 13 → X' c = I c) → (∀ k, k < 2 → X' 13 k = I 35 k) → Ψ X' L D) : e_M 21 [.ref 35, .ref 13] (S0 I L D sc) (e_rV sc Ψ) := by
  refine vR_copy_35_13 ?_
  have key : ∀ i, i ≤ 2 → ∀ X' : e_TI, (∀ c, c ≠ 13 → X' c = I c) → (∀ k, k < i → X' 13 k = I 35 k) → e_Wp 21 2 [some (.ref 35), some (.ref 13), some (.int (Int32.ofNat i))] [] (S0 X' L D sc) 0 0 (e_rV sc Ψ) := by
    refine e_downInd 2 (fun i hi ih X' h1 h2 => ?_) (fun X' h1 h2 => vR_copy_35_13_p2 (bx_t (b_self 2) (H X' h1 h2)))
    refine vR_copy_35_13_p2 (bx_f (b_ge hi) (bx_f (b_ge hi) ⟨o_in hi, o_in hi, ?_⟩))
    rw [o_ix (by omega), o_s]
    exact ih _ (fun c hc => by rw [up_cell hc]; exact h1 c hc) (cp_s h1 h2 (by decide))
  exact key 0 (by omega) I (fun _ _ => rfl) (fun k hk => absurd hk (Nat.not_lt_zero _))
theorem s_copyG_2_24 {I : e_TI} {L : e_TL} {D : e_TD} {sc : e_TS} {Ψ : e_TI → e_TL → e_TD → Prop} {g : Nat → Int32} (hm : gMa g ≤ 16) (h : RC 24 I L g) (H : ∀ I' L', Fr 2 14 I L I' L' → RC 2 I' L' g → Ψ I' L' D) : e_M 23 [.ref 2, .ref 24] (S0 I L D sc) (e_rV sc Ψ) := by
  refine vG_copyFrom_2_24 (vLd_copyFrom_3_25 (s_copySets_26_4 (fun L1 l1 l1' => s_copySets_27_5 (fun L2 l2 l2' => vU_copyFrom_6_28 ?_))))
  refine s_copy_29_7 (fun I1 i1 i1' => s_copy_30_8 (fun I2 i2 i2' => s_copy_31_9 (fun I3 i3 i3' => s_copy_32_10 (fun I4 i4 i4' => s_copy_33_11 (fun I5 i5 i5' => s_copy_34_12 (fun I6 i6 i6' => s_copy_35_13 (fun I7 i7 i7' => ?_)))))))
  obtain ⟨hR, hF⟩ := cpG (a := 2) (b := 24) (by decide) l1 l1' l2 l2' i1 i1' i2 i2' i3 i3' i4 i4' i5 i5' i6 i6' i7 i7' hm h
  exact H _ _ hF hR
theorem s_copySets_4_40 {I : e_TI} {L : e_TL} {D : e_TD} {sc : e_TS} {Ψ : e_TI → e_TL → e_TD → Prop} (H : ∀ X' : e_TL, (∀ c, c ≠ 40 → X' c = L c) → (∀ k, k < 6 → X' 40 k = L 4 k) → Ψ I X' D) : e_M 19 [.ref 4, .ref 40] (S0 I L D sc) (e_rV sc Ψ) := by
  refine vR_copySets_4_40 ?_
  have key : ∀ i, i ≤ 6 → ∀ X' : e_TL, (∀ c, c ≠ 40 → X' c = L c) → (∀ k, k < i → X' 40 k = L 4 k) → e_Wp 19 2 [some (.ref 4), some (.ref 40), some (.int (Int32.ofNat i))] [] (S0 I X' D sc) 0 0 (e_rV sc Ψ) := by
    refine e_downInd 6 (fun i hi ih X' h1 h2 => ?_) (fun X' h1 h2 => vR_copySets_4_40_p2 (bx_t (b_self 6) (H X' h1 h2)))
    refine vR_copySets_4_40_p2 (bx_f (b_ge hi) (bx_f (b_ge hi) ⟨o_in hi, o_in hi, ?_⟩))
    rw [o_ix (by omega), o_s]
    exact ih _ (fun c hc => by rw [up_cell hc]; exact h1 c hc) (cp_s h1 h2 (by decide))
  exact key 0 (by omega) L (fun _ _ => rfl) (fun k hk => absurd hk (Nat.not_lt_zero _))
theorem s_copySets_5_41 {I : e_TI} {L : e_TL} {D : e_TD} {sc : e_TS} {Ψ : e_TI → e_TL → e_TD → Prop} (H : ∀ X' : e_TL, (∀ c, c ≠ 41 → X' c = L c) → (∀ k, k < 2 → X' 41 k = L 5 k) → Ψ I X' D) : e_M 19 [.ref 5, .ref 41] (S0 I L D sc) (e_rV sc Ψ) := by
  refine vR_copySets_5_41 ?_
  have key : ∀ i, i ≤ 2 → ∀ X' : e_TL, (∀ c, c ≠ 41 → X' c = L c) → (∀ k, k < i → X' 41 k = L 5 k) → e_Wp 19 2 [some (.ref 5), some (.ref 41), some (.int (Int32.ofNat i))] [] (S0 I X' D sc) 0 0 (e_rV sc Ψ) := by
    refine e_downInd 2 (fun i hi ih X' h1 h2 => ?_) (fun X' h1 h2 => vR_copySets_5_41_p2 (bx_t (b_self 2) (H X' h1 h2)))
    refine vR_copySets_5_41_p2 (bx_f (b_ge hi) (bx_f (b_ge hi) ⟨o_in hi, o_in hi, ?_⟩))
    rw [o_ix (by omega), o_s]
    exact ih _ (fun c hc => by rw [up_cell hc]; exact h1 c hc) (cp_s h1 h2 (by decide))
  exact key 0 (by omega) L (fun _ _ => rfl) (fun k hk => absurd hk (Nat.not_lt_zero _))
theorem s_copy_7_43 {I : e_TI} {L : e_TL} {D : e_TD} {sc : e_TS} {Ψ : e_TI → e_TL → e_TD → Prop} (H : ∀ X' : e_TI, (∀ c, c ≠ 43 → X' c = I c) → (∀ k, k < 16 → X' 43 k = I 7 k) → Ψ X' L D) : e_M 21 [.ref 7, .ref 43] (S0 I L D sc) (e_rV sc Ψ) := by
  refine vR_copy_7_43 ?_
  have key : ∀ i, i ≤ 16 → ∀ X' : e_TI, (∀ c, c ≠ 43 → X' c = I c) → (∀ k, k < i → X' 43 k = I 7 k) → e_Wp 21 2 [some (.ref 7), some (.ref 43), some (.int (Int32.ofNat i))] [] (S0 X' L D sc) 0 0 (e_rV sc Ψ) := by
    refine e_downInd 16 (fun i hi ih X' h1 h2 => ?_) (fun X' h1 h2 => vR_copy_7_43_p2 (bx_t (b_self 16) (H X' h1 h2)))
    refine vR_copy_7_43_p2 (bx_f (b_ge hi) (bx_f (b_ge hi) ⟨o_in hi, o_in hi, ?_⟩))
    rw [o_ix (by omega), o_s]
    exact ih _ (fun c hc => by rw [up_cell hc]; exact h1 c hc) (cp_s h1 h2 (by decide))
  exact key 0 (by omega) I (fun _ _ => rfl) (fun k hk => absurd hk (Nat.not_lt_zero _))
theorem s_copy_8_44 {I : e_TI} {L : e_TL} {D : e_TD} {sc : e_TS} {Ψ : e_TI → e_TL → e_TD → Prop} (H : ∀ X' : e_TI, (∀ c, c ≠ 44 → X' c = I c) → (∀ k, k < 16 → X' 44 k = I 8 k) → Ψ X' L D) : e_M 21 [.ref 8, .ref 44] (S0 I L D sc) (e_rV sc Ψ) := by
  refine vR_copy_8_44 ?_
  have key : ∀ i, i ≤ 16 → ∀ X' : e_TI, (∀ c, c ≠ 44 → X' c = I c) → (∀ k, k < i → X' 44 k = I 8 k) → e_Wp 21 2 [some (.ref 8), some (.ref 44), some (.int (Int32.ofNat i))] [] (S0 X' L D sc) 0 0 (e_rV sc Ψ) := by
    refine e_downInd 16 (fun i hi ih X' h1 h2 => ?_) (fun X' h1 h2 => vR_copy_8_44_p2 (bx_t (b_self 16) (H X' h1 h2)))
    refine vR_copy_8_44_p2 (bx_f (b_ge hi) (bx_f (b_ge hi) ⟨o_in hi, o_in hi, ?_⟩))
    rw [o_ix (by omega), o_s]
    exact ih _ (fun c hc => by rw [up_cell hc]; exact h1 c hc) (cp_s h1 h2 (by decide))
  exact key 0 (by omega) I (fun _ _ => rfl) (fun k hk => absurd hk (Nat.not_lt_zero _))
theorem s_copy_9_45 {I : e_TI} {L : e_TL} {D : e_TD} {sc : e_TS} {Ψ : e_TI → e_TL → e_TD → Prop} (H : ∀ X' : e_TI, (∀ c, c ≠ 45 → X' c = I c) → (∀ k, k < 16 → X' 45 k = I 9 k) → Ψ X' L D) : e_M 21 [.ref 9, .ref 45] (S0 I L D sc) (e_rV sc Ψ) := by
  refine vR_copy_9_45 ?_
  have key : ∀ i, i ≤ 16 → ∀ X' : e_TI, (∀ c, c ≠ 45 → X' c = I c) → (∀ k, k < i → X' 45 k = I 9 k) → e_Wp 21 2 [some (.ref 9), some (.ref 45), some (.int (Int32.ofNat i))] [] (S0 X' L D sc) 0 0 (e_rV sc Ψ) := by
    refine e_downInd 16 (fun i hi ih X' h1 h2 => ?_) (fun X' h1 h2 => vR_copy_9_45_p2 (bx_t (b_self 16) (H X' h1 h2)))
    refine vR_copy_9_45_p2 (bx_f (b_ge hi) (bx_f (b_ge hi) ⟨o_in hi, o_in hi, ?_⟩))
    rw [o_ix (by omega), o_s]
    exact ih _ (fun c hc => by rw [up_cell hc]; exact h1 c hc) (cp_s h1 h2 (by decide))
  exact key 0 (by omega) I (fun _ _ => rfl) (fun k hk => absurd hk (Nat.not_lt_zero _))
theorem s_copy_10_46 {I : e_TI} {L : e_TL} {D : e_TD} {sc : e_TS} {Ψ : e_TI → e_TL → e_TD → Prop} (H : ∀ X' : e_TI, (∀ c, c ≠ 46 → X' c = I c) → (∀ k, k < 2 → X' 46 k = I 10 k) → Ψ X' L D) : e_M 21 [.ref 10, .ref 46] (S0 I L D sc) (e_rV sc Ψ) := by
  refine vR_copy_10_46 ?_
  have key : ∀ i, i ≤ 2 → ∀ X' : e_TI, (∀ c, c ≠ 46 → X' c = I c) → (∀ k, k < i → X' 46 k = I 10 k) → e_Wp 21 2 [some (.ref 10), some (.ref 46), some (.int (Int32.ofNat i))] [] (S0 X' L D sc) 0 0 (e_rV sc Ψ) := by
    refine e_downInd 2 (fun i hi ih X' h1 h2 => ?_) (fun X' h1 h2 => vR_copy_10_46_p2 (bx_t (b_self 2) (H X' h1 h2)))
    refine vR_copy_10_46_p2 (bx_f (b_ge hi) (bx_f (b_ge hi) ⟨o_in hi, o_in hi, ?_⟩))
    rw [o_ix (by omega), o_s]
    exact ih _ (fun c hc => by rw [up_cell hc]; exact h1 c hc) (cp_s h1 h2 (by decide))
  exact key 0 (by omega) I (fun _ _ => rfl) (fun k hk => absurd hk (Nat.not_lt_zero _))
theorem s_copy_11_47 {I : e_TI} {L : e_TL} {D : e_TD} {sc : e_TS} {Ψ : e_TI → e_TL → e_TD → Prop} (H : ∀ X' : e_TI, (∀ c, c ≠ 47 → X' c = I c) → (∀ k, k < 2 → X' 47 k = I 11 k) → Ψ X' L D) : e_M 21 [.ref 11, .ref 47] (S0 I L D sc) (e_rV sc Ψ) := by
  refine vR_copy_11_47 ?_
  have key : ∀ i, i ≤ 2 → ∀ X' : e_TI, (∀ c, c ≠ 47 → X' c = I c) → (∀ k, k < i → X' 47 k = I 11 k) → e_Wp 21 2 [some (.ref 11), some (.ref 47), some (.int (Int32.ofNat i))] [] (S0 X' L D sc) 0 0 (e_rV sc Ψ) := by
    refine e_downInd 2 (fun i hi ih X' h1 h2 => ?_) (fun X' h1 h2 => vR_copy_11_47_p2 (bx_t (b_self 2) (H X' h1 h2)))
    refine vR_copy_11_47_p2 (bx_f (b_ge hi) (bx_f (b_ge hi) ⟨o_in hi, o_in hi, ?_⟩))
    rw [o_ix (by omega), o_s]
    exact ih _ (fun c hc => by rw [up_cell hc]; exact h1 c hc) (cp_s h1 h2 (by decide))
  exact key 0 (by omega) I (fun _ _ => rfl) (fun k hk => absurd hk (Nat.not_lt_zero _))
theorem s_copy_12_48 {I : e_TI} {L : e_TL} {D : e_TD} {sc : e_TS} {Ψ : e_TI → e_TL → e_TD → Prop} (H : ∀ X' : e_TI, (∀ c, c ≠ 48 → X' c = I c) → (∀ k, k < 2 → X' 48 k = I 12 k) → Ψ X' L D) : e_M 21 [.ref 12, .ref 48] (S0 I L D sc) (e_rV sc Ψ) := by
  refine vR_copy_12_48 ?_
  have key : ∀ i, i ≤ 2 → ∀ X' : e_TI, (∀ c, c ≠ 48 → X' c = I c) → (∀ k, k < i → X' 48 k = I 12 k) → e_Wp 21 2 [some (.ref 12), some (.ref 48), some (.int (Int32.ofNat i))] [] (S0 X' L D sc) 0 0 (e_rV sc Ψ) := by
    refine e_downInd 2 (fun i hi ih X' h1 h2 => ?_) (fun X' h1 h2 => vR_copy_12_48_p2 (bx_t (b_self 2) (H X' h1 h2)))
    refine vR_copy_12_48_p2 (bx_f (b_ge hi) (bx_f (b_ge hi) ⟨o_in hi, o_in hi, ?_⟩))
    rw [o_ix (by omega), o_s]
    exact ih _ (fun c hc => by rw [up_cell hc]; exact h1 c hc) (cp_s h1 h2 (by decide))
  exact key 0 (by omega) I (fun _ _ => rfl) (fun k hk => absurd hk (Nat.not_lt_zero _))
theorem s_copy_13_49 {I : e_TI} {L : e_TL} {D : e_TD} {sc : e_TS} {Ψ : e_TI → e_TL → e_TD → Prop} (H : ∀ X' : e_TI, (∀ c, c ≠ 49 → X' c = I c) → (∀ k, k < 2 → X' 49 k = I 13 k) → Ψ X' L D) : e_M 21 [.ref 13, .ref 49] (S0 I L D sc) (e_rV sc Ψ) := by
  refine vR_copy_13_49 ?_
  have key : ∀ i, i ≤ 2 → ∀ X' : e_TI, (∀ c, c ≠ 49 → X' c = I c) → (∀ k, k < i → X' 49 k = I 13 k) → e_Wp 21 2 [some (.ref 13), some (.ref 49), some (.int (Int32.ofNat i))] [] (S0 X' L D sc) 0 0 (e_rV sc Ψ) := by
    refine e_downInd 2 (fun i hi ih X' h1 h2 => ?_) (fun X' h1 h2 => vR_copy_13_49_p2 (bx_t (b_self 2) (H X' h1 h2)))
    refine vR_copy_13_49_p2 (bx_f (b_ge hi) (bx_f (b_ge hi) ⟨o_in hi, o_in hi, ?_⟩))
    rw [o_ix (by omega), o_s]
    exact ih _ (fun c hc => by rw [up_cell hc]; exact h1 c hc) (cp_s h1 h2 (by decide))
  exact key 0 (by omega) I (fun _ _ => rfl) (fun k hk => absurd hk (Nat.not_lt_zero _))
theorem s_copyG_38_2 {I : e_TI} {L : e_TL} {D : e_TD} {sc : e_TS} {Ψ : e_TI → e_TL → e_TD → Prop} {g : Nat → Int32} (hm : gMa g ≤ 16) (h : RC 2 I L g) (H : ∀ I' L', Fr 38 50 I L I' L' → RC 38 I' L' g → Ψ I' L' D) : e_M 23 [.ref 38, .ref 2] (S0 I L D sc) (e_rV sc Ψ) := by
  refine vG_copyFrom_38_2 (vLd_copyFrom_39_3 (s_copySets_4_40 (fun L1 l1 l1' => s_copySets_5_41 (fun L2 l2 l2' => vU_copyFrom_42_6 ?_))))
  refine s_copy_7_43 (fun I1 i1 i1' => s_copy_8_44 (fun I2 i2 i2' => s_copy_9_45 (fun I3 i3 i3' => s_copy_10_46 (fun I4 i4 i4' => s_copy_11_47 (fun I5 i5 i5' => s_copy_12_48 (fun I6 i6 i6' => s_copy_13_49 (fun I7 i7 i7' => ?_)))))))
  obtain ⟨hR, hF⟩ := cpG (a := 38) (b := 2) (by decide) l1 l1' l2 l2' i1 i1' i2 i2' i3 i3' i4 i4' i5 i5' i6 i6' i7 i7' hm h
  exact H _ _ hF hR
theorem s_copySets_4_52 {I : e_TI} {L : e_TL} {D : e_TD} {sc : e_TS} {Ψ : e_TI → e_TL → e_TD → Prop} (H : ∀ X' : e_TL, (∀ c, c ≠ 52 → X' c = L c) → (∀ k, k < 6 → X' 52 k = L 4 k) → Ψ I X' D) : e_M 19 [.ref 4, .ref 52] (S0 I L D sc) (e_rV sc Ψ) := by
  refine vR_copySets_4_52 ?_
  have key : ∀ i, i ≤ 6 → ∀ X' : e_TL, (∀ c, c ≠ 52 → X' c = L c) → (∀ k, k < i → X' 52 k = L 4 k) → e_Wp 19 2 [some (.ref 4), some (.ref 52), some (.int (Int32.ofNat i))] [] (S0 I X' D sc) 0 0 (e_rV sc Ψ) := by
    refine e_downInd 6 (fun i hi ih X' h1 h2 => ?_) (fun X' h1 h2 => vR_copySets_4_52_p2 (bx_t (b_self 6) (H X' h1 h2)))
    refine vR_copySets_4_52_p2 (bx_f (b_ge hi) (bx_f (b_ge hi) ⟨o_in hi, o_in hi, ?_⟩))
    rw [o_ix (by omega), o_s]
    exact ih _ (fun c hc => by rw [up_cell hc]; exact h1 c hc) (cp_s h1 h2 (by decide))
  exact key 0 (by omega) L (fun _ _ => rfl) (fun k hk => absurd hk (Nat.not_lt_zero _))
theorem s_copySets_5_53 {I : e_TI} {L : e_TL} {D : e_TD} {sc : e_TS} {Ψ : e_TI → e_TL → e_TD → Prop} (H : ∀ X' : e_TL, (∀ c, c ≠ 53 → X' c = L c) → (∀ k, k < 2 → X' 53 k = L 5 k) → Ψ I X' D) : e_M 19 [.ref 5, .ref 53] (S0 I L D sc) (e_rV sc Ψ) := by
  refine vR_copySets_5_53 ?_
  have key : ∀ i, i ≤ 2 → ∀ X' : e_TL, (∀ c, c ≠ 53 → X' c = L c) → (∀ k, k < i → X' 53 k = L 5 k) → e_Wp 19 2 [some (.ref 5), some (.ref 53), some (.int (Int32.ofNat i))] [] (S0 I X' D sc) 0 0 (e_rV sc Ψ) := by
    refine e_downInd 2 (fun i hi ih X' h1 h2 => ?_) (fun X' h1 h2 => vR_copySets_5_53_p2 (bx_t (b_self 2) (H X' h1 h2)))
    refine vR_copySets_5_53_p2 (bx_f (b_ge hi) (bx_f (b_ge hi) ⟨o_in hi, o_in hi, ?_⟩))
    rw [o_ix (by omega), o_s]
    exact ih _ (fun c hc => by rw [up_cell hc]; exact h1 c hc) (cp_s h1 h2 (by decide))
  exact key 0 (by omega) L (fun _ _ => rfl) (fun k hk => absurd hk (Nat.not_lt_zero _))
theorem s_copy_7_55 {I : e_TI} {L : e_TL} {D : e_TD} {sc : e_TS} {Ψ : e_TI → e_TL → e_TD → Prop} (H : ∀ X' : e_TI, (∀ c, c ≠ 55 → X' c = I c) → (∀ k, k < 16 → X' 55 k = I 7 k) → Ψ X' L D) : e_M 21 [.ref 7, .ref 55] (S0 I L D sc) (e_rV sc Ψ) := by
  refine vR_copy_7_55 ?_
  have key : ∀ i, i ≤ 16 → ∀ X' : e_TI, (∀ c, c ≠ 55 → X' c = I c) → (∀ k, k < i → X' 55 k = I 7 k) → e_Wp 21 2 [some (.ref 7), some (.ref 55), some (.int (Int32.ofNat i))] [] (S0 X' L D sc) 0 0 (e_rV sc Ψ) := by
    refine e_downInd 16 (fun i hi ih X' h1 h2 => ?_) (fun X' h1 h2 => vR_copy_7_55_p2 (bx_t (b_self 16) (H X' h1 h2)))
    refine vR_copy_7_55_p2 (bx_f (b_ge hi) (bx_f (b_ge hi) ⟨o_in hi, o_in hi, ?_⟩))
    rw [o_ix (by omega), o_s]
    exact ih _ (fun c hc => by rw [up_cell hc]; exact h1 c hc) (cp_s h1 h2 (by decide))
  exact key 0 (by omega) I (fun _ _ => rfl) (fun k hk => absurd hk (Nat.not_lt_zero _))
theorem s_copy_8_56 {I : e_TI} {L : e_TL} {D : e_TD} {sc : e_TS} {Ψ : e_TI → e_TL → e_TD → Prop} (H : ∀ X' : e_TI, (∀ c, c ≠ 56 → X' c = I c) → (∀ k, k < 16 → X' 56 k = I 8 k) → Ψ X' L D) : e_M 21 [.ref 8, .ref 56] (S0 I L D sc) (e_rV sc Ψ) := by
  refine vR_copy_8_56 ?_
  have key : ∀ i, i ≤ 16 → ∀ X' : e_TI, (∀ c, c ≠ 56 → X' c = I c) → (∀ k, k < i → X' 56 k = I 8 k) → e_Wp 21 2 [some (.ref 8), some (.ref 56), some (.int (Int32.ofNat i))] [] (S0 X' L D sc) 0 0 (e_rV sc Ψ) := by
    refine e_downInd 16 (fun i hi ih X' h1 h2 => ?_) (fun X' h1 h2 => vR_copy_8_56_p2 (bx_t (b_self 16) (H X' h1 h2)))
    refine vR_copy_8_56_p2 (bx_f (b_ge hi) (bx_f (b_ge hi) ⟨o_in hi, o_in hi, ?_⟩))
    rw [o_ix (by omega), o_s]
    exact ih _ (fun c hc => by rw [up_cell hc]; exact h1 c hc) (cp_s h1 h2 (by decide))
  exact key 0 (by omega) I (fun _ _ => rfl) (fun k hk => absurd hk (Nat.not_lt_zero _))
theorem s_copy_9_57 {I : e_TI} {L : e_TL} {D : e_TD} {sc : e_TS} {Ψ : e_TI → e_TL → e_TD → Prop} (H : ∀ X' : e_TI, (∀ c, c ≠ 57 → X' c = I c) → (∀ k, k < 16 → X' 57 k = I 9 k) → Ψ X' L D) : e_M 21 [.ref 9, .ref 57] (S0 I L D sc) (e_rV sc Ψ) := by
  refine vR_copy_9_57 ?_
  have key : ∀ i, i ≤ 16 → ∀ X' : e_TI, (∀ c, c ≠ 57 → X' c = I c) → (∀ k, k < i → X' 57 k = I 9 k) → e_Wp 21 2 [some (.ref 9), some (.ref 57), some (.int (Int32.ofNat i))] [] (S0 X' L D sc) 0 0 (e_rV sc Ψ) := by
    refine e_downInd 16 (fun i hi ih X' h1 h2 => ?_) (fun X' h1 h2 => vR_copy_9_57_p2 (bx_t (b_self 16) (H X' h1 h2)))
    refine vR_copy_9_57_p2 (bx_f (b_ge hi) (bx_f (b_ge hi) ⟨o_in hi, o_in hi, ?_⟩))
    rw [o_ix (by omega), o_s]
    exact ih _ (fun c hc => by rw [up_cell hc]; exact h1 c hc) (cp_s h1 h2 (by decide))
  exact key 0 (by omega) I (fun _ _ => rfl) (fun k hk => absurd hk (Nat.not_lt_zero _))
theorem s_copy_10_58 {I : e_TI} {L : e_TL} {D : e_TD} {sc : e_TS} {Ψ : e_TI → e_TL → e_TD → Prop} (H : ∀ X' : e_TI, (∀ c, c ≠ 58 → X' c = I c) → (∀ k, k < 2 → X' 58 k = I 10 k) → Ψ X' L D) : e_M 21 [.ref 10, .ref 58] (S0 I L D sc) (e_rV sc Ψ) := by
  refine vR_copy_10_58 ?_
  have key : ∀ i, i ≤ 2 → ∀ X' : e_TI, (∀ c, c ≠ 58 → X' c = I c) → (∀ k, k < i → X' 58 k = I 10 k) → e_Wp 21 2 [some (.ref 10), some (.ref 58), some (.int (Int32.ofNat i))] [] (S0 X' L D sc) 0 0 (e_rV sc Ψ) := by
    refine e_downInd 2 (fun i hi ih X' h1 h2 => ?_) (fun X' h1 h2 => vR_copy_10_58_p2 (bx_t (b_self 2) (H X' h1 h2)))
    refine vR_copy_10_58_p2 (bx_f (b_ge hi) (bx_f (b_ge hi) ⟨o_in hi, o_in hi, ?_⟩))
    rw [o_ix (by omega), o_s]
    exact ih _ (fun c hc => by rw [up_cell hc]; exact h1 c hc) (cp_s h1 h2 (by decide))
  exact key 0 (by omega) I (fun _ _ => rfl) (fun k hk => absurd hk (Nat.not_lt_zero _))
theorem s_copy_11_59 {I : e_TI} {L : e_TL} {D : e_TD} {sc : e_TS} {Ψ : e_TI → e_TL → e_TD → Prop} (H : ∀ X' : e_TI, (∀ c, c ≠ 59 → X' c = I c) → (∀ k, k < 2 → X' 59 k = I 11 k) → Ψ X' L D) : e_M 21 [.ref 11, .ref 59] (S0 I L D sc) (e_rV sc Ψ) := by
  refine vR_copy_11_59 ?_
  have key : ∀ i, i ≤ 2 → ∀ X' : e_TI, (∀ c, c ≠ 59 → X' c = I c) → (∀ k, k < i → X' 59 k = I 11 k) → e_Wp 21 2 [some (.ref 11), some (.ref 59), some (.int (Int32.ofNat i))] [] (S0 X' L D sc) 0 0 (e_rV sc Ψ) := by
    refine e_downInd 2 (fun i hi ih X' h1 h2 => ?_) (fun X' h1 h2 => vR_copy_11_59_p2 (bx_t (b_self 2) (H X' h1 h2)))
    refine vR_copy_11_59_p2 (bx_f (b_ge hi) (bx_f (b_ge hi) ⟨o_in hi, o_in hi, ?_⟩))
    rw [o_ix (by omega), o_s]
    exact ih _ (fun c hc => by rw [up_cell hc]; exact h1 c hc) (cp_s h1 h2 (by decide))
  exact key 0 (by omega) I (fun _ _ => rfl) (fun k hk => absurd hk (Nat.not_lt_zero _))
theorem s_copy_12_60 {I : e_TI} {L : e_TL} {D : e_TD} {sc : e_TS} {Ψ : e_TI → e_TL → e_TD → Prop} (H : ∀ X' : e_TI, (∀ c, c ≠ 60 → X' c = I c) → (∀ k, k < 2 → X' 60 k = I 12 k) → Ψ X' L D) : e_M 21 [.ref 12, .ref 60] (S0 I L D sc) (e_rV sc Ψ) := by
  refine vR_copy_12_60 ?_
  have key : ∀ i, i ≤ 2 → ∀ X' : e_TI, (∀ c, c ≠ 60 → X' c = I c) → (∀ k, k < i → X' 60 k = I 12 k) → e_Wp 21 2 [some (.ref 12), some (.ref 60), some (.int (Int32.ofNat i))] [] (S0 X' L D sc) 0 0 (e_rV sc Ψ) := by
    refine e_downInd 2 (fun i hi ih X' h1 h2 => ?_) (fun X' h1 h2 => vR_copy_12_60_p2 (bx_t (b_self 2) (H X' h1 h2)))
    refine vR_copy_12_60_p2 (bx_f (b_ge hi) (bx_f (b_ge hi) ⟨o_in hi, o_in hi, ?_⟩))
    rw [o_ix (by omega), o_s]
    exact ih _ (fun c hc => by rw [up_cell hc]; exact h1 c hc) (cp_s h1 h2 (by decide))
  exact key 0 (by omega) I (fun _ _ => rfl) (fun k hk => absurd hk (Nat.not_lt_zero _))
theorem s_copy_13_61 {I : e_TI} {L : e_TL} {D : e_TD} {sc : e_TS} {Ψ : e_TI → e_TL → e_TD → Prop} (H : ∀ X' : e_TI, (∀ c, c ≠ 61 → X' c = I c) → (∀ k, k < 2 → X' 61 k = I 13 k) → Ψ X' L D) : e_M 21 [.ref 13, .ref 61] (S0 I L D sc) (e_rV sc Ψ) := by
  refine vR_copy_13_61 ?_
  have key : ∀ i, i ≤ 2 → ∀ X' : e_TI, (∀ c, c ≠ 61 → X' c = I c) → (∀ k, k < i → X' 61 k = I 13 k) → e_Wp 21 2 [some (.ref 13), some (.ref 61), some (.int (Int32.ofNat i))] [] (S0 X' L D sc) 0 0 (e_rV sc Ψ) := by
    refine e_downInd 2 (fun i hi ih X' h1 h2 => ?_) (fun X' h1 h2 => vR_copy_13_61_p2 (bx_t (b_self 2) (H X' h1 h2)))
    refine vR_copy_13_61_p2 (bx_f (b_ge hi) (bx_f (b_ge hi) ⟨o_in hi, o_in hi, ?_⟩))
    rw [o_ix (by omega), o_s]
    exact ih _ (fun c hc => by rw [up_cell hc]; exact h1 c hc) (cp_s h1 h2 (by decide))
  exact key 0 (by omega) I (fun _ _ => rfl) (fun k hk => absurd hk (Nat.not_lt_zero _))
theorem s_copyG_50_2 {I : e_TI} {L : e_TL} {D : e_TD} {sc : e_TS} {Ψ : e_TI → e_TL → e_TD → Prop} {g : Nat → Int32} (hm : gMa g ≤ 16) (h : RC 2 I L g) (H : ∀ I' L', Fr 50 62 I L I' L' → RC 50 I' L' g → Ψ I' L' D) : e_M 23 [.ref 50, .ref 2] (S0 I L D sc) (e_rV sc Ψ) := by
  refine vG_copyFrom_50_2 (vLd_copyFrom_51_3 (s_copySets_4_52 (fun L1 l1 l1' => s_copySets_5_53 (fun L2 l2 l2' => vU_copyFrom_54_6 ?_))))
  refine s_copy_7_55 (fun I1 i1 i1' => s_copy_8_56 (fun I2 i2 i2' => s_copy_9_57 (fun I3 i3 i3' => s_copy_10_58 (fun I4 i4 i4' => s_copy_11_59 (fun I5 i5 i5' => s_copy_12_60 (fun I6 i6 i6' => s_copy_13_61 (fun I7 i7 i7' => ?_)))))))
  obtain ⟨hR, hF⟩ := cpG (a := 50) (b := 2) (by decide) l1 l1' l2 l2' i1 i1' i2 i2' i3 i3' i4 i4' i5 i5' i6 i6' i7 i7' hm h
  exact H _ _ hF hR
theorem s_copySets_4_64 {I : e_TI} {L : e_TL} {D : e_TD} {sc : e_TS} {Ψ : e_TI → e_TL → e_TD → Prop} (H : ∀ X' : e_TL, (∀ c, c ≠ 64 → X' c = L c) → (∀ k, k < 6 → X' 64 k = L 4 k) → Ψ I X' D) : e_M 19 [.ref 4, .ref 64] (S0 I L D sc) (e_rV sc Ψ) := by
  refine vR_copySets_4_64 ?_
  have key : ∀ i, i ≤ 6 → ∀ X' : e_TL, (∀ c, c ≠ 64 → X' c = L c) → (∀ k, k < i → X' 64 k = L 4 k) → e_Wp 19 2 [some (.ref 4), some (.ref 64), some (.int (Int32.ofNat i))] [] (S0 I X' D sc) 0 0 (e_rV sc Ψ) := by
    refine e_downInd 6 (fun i hi ih X' h1 h2 => ?_) (fun X' h1 h2 => vR_copySets_4_64_p2 (bx_t (b_self 6) (H X' h1 h2)))
    refine vR_copySets_4_64_p2 (bx_f (b_ge hi) (bx_f (b_ge hi) ⟨o_in hi, o_in hi, ?_⟩))
    rw [o_ix (by omega), o_s]
    exact ih _ (fun c hc => by rw [up_cell hc]; exact h1 c hc) (cp_s h1 h2 (by decide))
  exact key 0 (by omega) L (fun _ _ => rfl) (fun k hk => absurd hk (Nat.not_lt_zero _))
theorem s_copySets_5_65 {I : e_TI} {L : e_TL} {D : e_TD} {sc : e_TS} {Ψ : e_TI → e_TL → e_TD → Prop} (H : ∀ X' : e_TL, (∀ c, c ≠ 65 → X' c = L c) → (∀ k, k < 2 → X' 65 k = L 5 k) → Ψ I X' D) : e_M 19 [.ref 5, .ref 65] (S0 I L D sc) (e_rV sc Ψ) := by
  refine vR_copySets_5_65 ?_
  have key : ∀ i, i ≤ 2 → ∀ X' : e_TL, (∀ c, c ≠ 65 → X' c = L c) → (∀ k, k < i → X' 65 k = L 5 k) → e_Wp 19 2 [some (.ref 5), some (.ref 65), some (.int (Int32.ofNat i))] [] (S0 I X' D sc) 0 0 (e_rV sc Ψ) := by
    refine e_downInd 2 (fun i hi ih X' h1 h2 => ?_) (fun X' h1 h2 => vR_copySets_5_65_p2 (bx_t (b_self 2) (H X' h1 h2)))
    refine vR_copySets_5_65_p2 (bx_f (b_ge hi) (bx_f (b_ge hi) ⟨o_in hi, o_in hi, ?_⟩))
    rw [o_ix (by omega), o_s]
    exact ih _ (fun c hc => by rw [up_cell hc]; exact h1 c hc) (cp_s h1 h2 (by decide))
  exact key 0 (by omega) L (fun _ _ => rfl) (fun k hk => absurd hk (Nat.not_lt_zero _))
theorem s_copy_7_67 {I : e_TI} {L : e_TL} {D : e_TD} {sc : e_TS} {Ψ : e_TI → e_TL → e_TD → Prop} (H : ∀ X' : e_TI, (∀ c, c ≠ 67 → X' c = I c) → (∀ k, k < 16 → X' 67 k = I 7 k) → Ψ X' L D) : e_M 21 [.ref 7, .ref 67] (S0 I L D sc) (e_rV sc Ψ) := by
  refine vR_copy_7_67 ?_
  have key : ∀ i, i ≤ 16 → ∀ X' : e_TI, (∀ c, c ≠ 67 → X' c = I c) → (∀ k, k < i → X' 67 k = I 7 k) → e_Wp 21 2 [some (.ref 7), some (.ref 67), some (.int (Int32.ofNat i))] [] (S0 X' L D sc) 0 0 (e_rV sc Ψ) := by
    refine e_downInd 16 (fun i hi ih X' h1 h2 => ?_) (fun X' h1 h2 => vR_copy_7_67_p2 (bx_t (b_self 16) (H X' h1 h2)))
    refine vR_copy_7_67_p2 (bx_f (b_ge hi) (bx_f (b_ge hi) ⟨o_in hi, o_in hi, ?_⟩))
    rw [o_ix (by omega), o_s]
    exact ih _ (fun c hc => by rw [up_cell hc]; exact h1 c hc) (cp_s h1 h2 (by decide))
  exact key 0 (by omega) I (fun _ _ => rfl) (fun k hk => absurd hk (Nat.not_lt_zero _))
theorem s_copy_8_68 {I : e_TI} {L : e_TL} {D : e_TD} {sc : e_TS} {Ψ : e_TI → e_TL → e_TD → Prop} (H : ∀ X' : e_TI, (∀ c, c ≠ 68 → X' c = I c) → (∀ k, k < 16 → X' 68 k = I 8 k) → Ψ X' L D) : e_M 21 [.ref 8, .ref 68] (S0 I L D sc) (e_rV sc Ψ) := by
  refine vR_copy_8_68 ?_
  have key : ∀ i, i ≤ 16 → ∀ X' : e_TI, (∀ c, c ≠ 68 → X' c = I c) → (∀ k, k < i → X' 68 k = I 8 k) → e_Wp 21 2 [some (.ref 8), some (.ref 68), some (.int (Int32.ofNat i))] [] (S0 X' L D sc) 0 0 (e_rV sc Ψ) := by
    refine e_downInd 16 (fun i hi ih X' h1 h2 => ?_) (fun X' h1 h2 => vR_copy_8_68_p2 (bx_t (b_self 16) (H X' h1 h2)))
    refine vR_copy_8_68_p2 (bx_f (b_ge hi) (bx_f (b_ge hi) ⟨o_in hi, o_in hi, ?_⟩))
    rw [o_ix (by omega), o_s]
    exact ih _ (fun c hc => by rw [up_cell hc]; exact h1 c hc) (cp_s h1 h2 (by decide))
  exact key 0 (by omega) I (fun _ _ => rfl) (fun k hk => absurd hk (Nat.not_lt_zero _))
theorem s_copy_9_69 {I : e_TI} {L : e_TL} {D : e_TD} {sc : e_TS} {Ψ : e_TI → e_TL → e_TD → Prop} (H : ∀ X' : e_TI, (∀ c, c ≠ 69 → X' c = I c) → (∀ k, k < 16 → X' 69 k = I 9 k) → Ψ X' L D) : e_M 21 [.ref 9, .ref 69] (S0 I L D sc) (e_rV sc Ψ) := by
  refine vR_copy_9_69 ?_
  have key : ∀ i, i ≤ 16 → ∀ X' : e_TI, (∀ c, c ≠ 69 → X' c = I c) → (∀ k, k < i → X' 69 k = I 9 k) → e_Wp 21 2 [some (.ref 9), some (.ref 69), some (.int (Int32.ofNat i))] [] (S0 X' L D sc) 0 0 (e_rV sc Ψ) := by
    refine e_downInd 16 (fun i hi ih X' h1 h2 => ?_) (fun X' h1 h2 => vR_copy_9_69_p2 (bx_t (b_self 16) (H X' h1 h2)))
    refine vR_copy_9_69_p2 (bx_f (b_ge hi) (bx_f (b_ge hi) ⟨o_in hi, o_in hi, ?_⟩))
    rw [o_ix (by omega), o_s]
    exact ih _ (fun c hc => by rw [up_cell hc]; exact h1 c hc) (cp_s h1 h2 (by decide))
  exact key 0 (by omega) I (fun _ _ => rfl) (fun k hk => absurd hk (Nat.not_lt_zero _))
theorem s_copy_10_70 {I : e_TI} {L : e_TL} {D : e_TD} {sc : e_TS} {Ψ : e_TI → e_TL → e_TD → Prop} (H : ∀ X' : e_TI, (∀ c, c ≠ 70 → X' c = I c) → (∀ k, k < 2 → X' 70 k = I 10 k) → Ψ X' L D) : e_M 21 [.ref 10, .ref 70] (S0 I L D sc) (e_rV sc Ψ) := by
  refine vR_copy_10_70 ?_
  have key : ∀ i, i ≤ 2 → ∀ X' : e_TI, (∀ c, c ≠ 70 → X' c = I c) → (∀ k, k < i → X' 70 k = I 10 k) → e_Wp 21 2 [some (.ref 10), some (.ref 70), some (.int (Int32.ofNat i))] [] (S0 X' L D sc) 0 0 (e_rV sc Ψ) := by
    refine e_downInd 2 (fun i hi ih X' h1 h2 => ?_) (fun X' h1 h2 => vR_copy_10_70_p2 (bx_t (b_self 2) (H X' h1 h2)))
    refine vR_copy_10_70_p2 (bx_f (b_ge hi) (bx_f (b_ge hi) ⟨o_in hi, o_in hi, ?_⟩))
    rw [o_ix (by omega), o_s]
    exact ih _ (fun c hc => by rw [up_cell hc]; exact h1 c hc) (cp_s h1 h2 (by decide))
  exact key 0 (by omega) I (fun _ _ => rfl) (fun k hk => absurd hk (Nat.not_lt_zero _))
theorem s_copy_11_71 {I : e_TI} {L : e_TL} {D : e_TD} {sc : e_TS} {Ψ : e_TI → e_TL → e_TD → Prop} (H : ∀ X' : e_TI, (∀ c, c ≠ 71 → X' c = I c) → (∀ k, k < 2 → X' 71 k = I 11 k) → Ψ X' L D) : e_M 21 [.ref 11, .ref 71] (S0 I L D sc) (e_rV sc Ψ) := by
  refine vR_copy_11_71 ?_
  have key : ∀ i, i ≤ 2 → ∀ X' : e_TI, (∀ c, c ≠ 71 → X' c = I c) → (∀ k, k < i → X' 71 k = I 11 k) → e_Wp 21 2 [some (.ref 11), some (.ref 71), some (.int (Int32.ofNat i))] [] (S0 X' L D sc) 0 0 (e_rV sc Ψ) := by
    refine e_downInd 2 (fun i hi ih X' h1 h2 => ?_) (fun X' h1 h2 => vR_copy_11_71_p2 (bx_t (b_self 2) (H X' h1 h2)))
    refine vR_copy_11_71_p2 (bx_f (b_ge hi) (bx_f (b_ge hi) ⟨o_in hi, o_in hi, ?_⟩))
    rw [o_ix (by omega), o_s]
    exact ih _ (fun c hc => by rw [up_cell hc]; exact h1 c hc) (cp_s h1 h2 (by decide))
  exact key 0 (by omega) I (fun _ _ => rfl) (fun k hk => absurd hk (Nat.not_lt_zero _))
theorem s_copy_12_72 {I : e_TI} {L : e_TL} {D : e_TD} {sc : e_TS} {Ψ : e_TI → e_TL → e_TD → Prop} (H : ∀ X' : e_TI, (∀ c, c ≠ 72 → X' c = I c) → (∀ k, k < 2 → X' 72 k = I 12 k) → Ψ X' L D) : e_M 21 [.ref 12, .ref 72] (S0 I L D sc) (e_rV sc Ψ) := by
  refine vR_copy_12_72 ?_
  have key : ∀ i, i ≤ 2 → ∀ X' : e_TI, (∀ c, c ≠ 72 → X' c = I c) → (∀ k, k < i → X' 72 k = I 12 k) → e_Wp 21 2 [some (.ref 12), some (.ref 72), some (.int (Int32.ofNat i))] [] (S0 X' L D sc) 0 0 (e_rV sc Ψ) := by
    refine e_downInd 2 (fun i hi ih X' h1 h2 => ?_) (fun X' h1 h2 => vR_copy_12_72_p2 (bx_t (b_self 2) (H X' h1 h2)))
    refine vR_copy_12_72_p2 (bx_f (b_ge hi) (bx_f (b_ge hi) ⟨o_in hi, o_in hi, ?_⟩))
    rw [o_ix (by omega), o_s]
    exact ih _ (fun c hc => by rw [up_cell hc]; exact h1 c hc) (cp_s h1 h2 (by decide))
  exact key 0 (by omega) I (fun _ _ => rfl) (fun k hk => absurd hk (Nat.not_lt_zero _))
theorem s_copy_13_73 {I : e_TI} {L : e_TL} {D : e_TD} {sc : e_TS} {Ψ : e_TI → e_TL → e_TD → Prop} (H : ∀ X' : e_TI, (∀ c, c ≠ 73 → X' c = I c) → (∀ k, k < 2 → X' 73 k = I 13 k) → Ψ X' L D) : e_M 21 [.ref 13, .ref 73] (S0 I L D sc) (e_rV sc Ψ) := by
  refine vR_copy_13_73 ?_
  have key : ∀ i, i ≤ 2 → ∀ X' : e_TI, (∀ c, c ≠ 73 → X' c = I c) → (∀ k, k < i → X' 73 k = I 13 k) → e_Wp 21 2 [some (.ref 13), some (.ref 73), some (.int (Int32.ofNat i))] [] (S0 X' L D sc) 0 0 (e_rV sc Ψ) := by
    refine e_downInd 2 (fun i hi ih X' h1 h2 => ?_) (fun X' h1 h2 => vR_copy_13_73_p2 (bx_t (b_self 2) (H X' h1 h2)))
    refine vR_copy_13_73_p2 (bx_f (b_ge hi) (bx_f (b_ge hi) ⟨o_in hi, o_in hi, ?_⟩))
    rw [o_ix (by omega), o_s]
    exact ih _ (fun c hc => by rw [up_cell hc]; exact h1 c hc) (cp_s h1 h2 (by decide))
  exact key 0 (by omega) I (fun _ _ => rfl) (fun k hk => absurd hk (Nat.not_lt_zero _))
theorem s_copyG_62_2 {I : e_TI} {L : e_TL} {D : e_TD} {sc : e_TS} {Ψ : e_TI → e_TL → e_TD → Prop} {g : Nat → Int32} (hm : gMa g ≤ 16) (h : RC 2 I L g) (H : ∀ I' L', Fr 62 74 I L I' L' → RC 62 I' L' g → Ψ I' L' D) : e_M 23 [.ref 62, .ref 2] (S0 I L D sc) (e_rV sc Ψ) := by
  refine vG_copyFrom_62_2 (vLd_copyFrom_63_3 (s_copySets_4_64 (fun L1 l1 l1' => s_copySets_5_65 (fun L2 l2 l2' => vU_copyFrom_66_6 ?_))))
  refine s_copy_7_67 (fun I1 i1 i1' => s_copy_8_68 (fun I2 i2 i2' => s_copy_9_69 (fun I3 i3 i3' => s_copy_10_70 (fun I4 i4 i4' => s_copy_11_71 (fun I5 i5 i5' => s_copy_12_72 (fun I6 i6 i6' => s_copy_13_73 (fun I7 i7 i7' => ?_)))))))
  obtain ⟨hR, hF⟩ := cpG (a := 62) (b := 2) (by decide) l1 l1' l2 l2' i1 i1' i2 i2' i3 i3' i4 i4' i5 i5' i6 i6' i7 i7' hm h
  exact H _ _ hF hR
theorem s_copySets_4_76 {I : e_TI} {L : e_TL} {D : e_TD} {sc : e_TS} {Ψ : e_TI → e_TL → e_TD → Prop} (H : ∀ X' : e_TL, (∀ c, c ≠ 76 → X' c = L c) → (∀ k, k < 6 → X' 76 k = L 4 k) → Ψ I X' D) : e_M 19 [.ref 4, .ref 76] (S0 I L D sc) (e_rV sc Ψ) := by
  refine vR_copySets_4_76 ?_
  have key : ∀ i, i ≤ 6 → ∀ X' : e_TL, (∀ c, c ≠ 76 → X' c = L c) → (∀ k, k < i → X' 76 k = L 4 k) → e_Wp 19 2 [some (.ref 4), some (.ref 76), some (.int (Int32.ofNat i))] [] (S0 I X' D sc) 0 0 (e_rV sc Ψ) := by
    refine e_downInd 6 (fun i hi ih X' h1 h2 => ?_) (fun X' h1 h2 => vR_copySets_4_76_p2 (bx_t (b_self 6) (H X' h1 h2)))
    refine vR_copySets_4_76_p2 (bx_f (b_ge hi) (bx_f (b_ge hi) ⟨o_in hi, o_in hi, ?_⟩))
    rw [o_ix (by omega), o_s]
    exact ih _ (fun c hc => by rw [up_cell hc]; exact h1 c hc) (cp_s h1 h2 (by decide))
  exact key 0 (by omega) L (fun _ _ => rfl) (fun k hk => absurd hk (Nat.not_lt_zero _))
theorem s_copySets_5_77 {I : e_TI} {L : e_TL} {D : e_TD} {sc : e_TS} {Ψ : e_TI → e_TL → e_TD → Prop} (H : ∀ X' : e_TL, (∀ c, c ≠ 77 → X' c = L c) → (∀ k, k < 2 → X' 77 k = L 5 k) → Ψ I X' D) : e_M 19 [.ref 5, .ref 77] (S0 I L D sc) (e_rV sc Ψ) := by
  refine vR_copySets_5_77 ?_
  have key : ∀ i, i ≤ 2 → ∀ X' : e_TL, (∀ c, c ≠ 77 → X' c = L c) → (∀ k, k < i → X' 77 k = L 5 k) → e_Wp 19 2 [some (.ref 5), some (.ref 77), some (.int (Int32.ofNat i))] [] (S0 I X' D sc) 0 0 (e_rV sc Ψ) := by
    refine e_downInd 2 (fun i hi ih X' h1 h2 => ?_) (fun X' h1 h2 => vR_copySets_5_77_p2 (bx_t (b_self 2) (H X' h1 h2)))
    refine vR_copySets_5_77_p2 (bx_f (b_ge hi) (bx_f (b_ge hi) ⟨o_in hi, o_in hi, ?_⟩))
    rw [o_ix (by omega), o_s]
    exact ih _ (fun c hc => by rw [up_cell hc]; exact h1 c hc) (cp_s h1 h2 (by decide))
  exact key 0 (by omega) L (fun _ _ => rfl) (fun k hk => absurd hk (Nat.not_lt_zero _))
theorem s_copy_7_79 {I : e_TI} {L : e_TL} {D : e_TD} {sc : e_TS} {Ψ : e_TI → e_TL → e_TD → Prop} (H : ∀ X' : e_TI, (∀ c, c ≠ 79 → X' c = I c) → (∀ k, k < 16 → X' 79 k = I 7 k) → Ψ X' L D) : e_M 21 [.ref 7, .ref 79] (S0 I L D sc) (e_rV sc Ψ) := by
  refine vR_copy_7_79 ?_
  have key : ∀ i, i ≤ 16 → ∀ X' : e_TI, (∀ c, c ≠ 79 → X' c = I c) → (∀ k, k < i → X' 79 k = I 7 k) → e_Wp 21 2 [some (.ref 7), some (.ref 79), some (.int (Int32.ofNat i))] [] (S0 X' L D sc) 0 0 (e_rV sc Ψ) := by
    refine e_downInd 16 (fun i hi ih X' h1 h2 => ?_) (fun X' h1 h2 => vR_copy_7_79_p2 (bx_t (b_self 16) (H X' h1 h2)))
    refine vR_copy_7_79_p2 (bx_f (b_ge hi) (bx_f (b_ge hi) ⟨o_in hi, o_in hi, ?_⟩))
    rw [o_ix (by omega), o_s]
    exact ih _ (fun c hc => by rw [up_cell hc]; exact h1 c hc) (cp_s h1 h2 (by decide))
  exact key 0 (by omega) I (fun _ _ => rfl) (fun k hk => absurd hk (Nat.not_lt_zero _))
theorem s_copy_8_80 {I : e_TI} {L : e_TL} {D : e_TD} {sc : e_TS} {Ψ : e_TI → e_TL → e_TD → Prop} (H : ∀ X' : e_TI, (∀ c, c ≠ 80 → X' c = I c) → (∀ k, k < 16 → X' 80 k = I 8 k) → Ψ X' L D) : e_M 21 [.ref 8, .ref 80] (S0 I L D sc) (e_rV sc Ψ) := by
  refine vR_copy_8_80 ?_
  have key : ∀ i, i ≤ 16 → ∀ X' : e_TI, (∀ c, c ≠ 80 → X' c = I c) → (∀ k, k < i → X' 80 k = I 8 k) → e_Wp 21 2 [some (.ref 8), some (.ref 80), some (.int (Int32.ofNat i))] [] (S0 X' L D sc) 0 0 (e_rV sc Ψ) := by
    refine e_downInd 16 (fun i hi ih X' h1 h2 => ?_) (fun X' h1 h2 => vR_copy_8_80_p2 (bx_t (b_self 16) (H X' h1 h2)))
    refine vR_copy_8_80_p2 (bx_f (b_ge hi) (bx_f (b_ge hi) ⟨o_in hi, o_in hi, ?_⟩))
    rw [o_ix (by omega), o_s]
    exact ih _ (fun c hc => by rw [up_cell hc]; exact h1 c hc) (cp_s h1 h2 (by decide))
  exact key 0 (by omega) I (fun _ _ => rfl) (fun k hk => absurd hk (Nat.not_lt_zero _))
theorem s_copy_9_81 {I : e_TI} {L : e_TL} {D : e_TD} {sc : e_TS} {Ψ : e_TI → e_TL → e_TD → Prop} (H : ∀ X' : e_TI, (∀ c, c ≠ 81 → X' c = I c) → (∀ k, k < 16 → X' 81 k = I 9 k) → Ψ X' L D) : e_M 21 [.ref 9, .ref 81] (S0 I L D sc) (e_rV sc Ψ) := by
  refine vR_copy_9_81 ?_
  have key : ∀ i, i ≤ 16 → ∀ X' : e_TI, (∀ c, c ≠ 81 → X' c = I c) → (∀ k, k < i → X' 81 k = I 9 k) → e_Wp 21 2 [some (.ref 9), some (.ref 81), some (.int (Int32.ofNat i))] [] (S0 X' L D sc) 0 0 (e_rV sc Ψ) := by
    refine e_downInd 16 (fun i hi ih X' h1 h2 => ?_) (fun X' h1 h2 => vR_copy_9_81_p2 (bx_t (b_self 16) (H X' h1 h2)))
    refine vR_copy_9_81_p2 (bx_f (b_ge hi) (bx_f (b_ge hi) ⟨o_in hi, o_in hi, ?_⟩))
    rw [o_ix (by omega), o_s]
    exact ih _ (fun c hc => by rw [up_cell hc]; exact h1 c hc) (cp_s h1 h2 (by decide))
  exact key 0 (by omega) I (fun _ _ => rfl) (fun k hk => absurd hk (Nat.not_lt_zero _))
theorem s_copy_10_82 {I : e_TI} {L : e_TL} {D : e_TD} {sc : e_TS} {Ψ : e_TI → e_TL → e_TD → Prop} (H : ∀ X' : e_TI, (∀ c, c ≠ 82 → X' c = I c) → (∀ k, k < 2 → X' 82 k = I 10 k) → Ψ X' L D) : e_M 21 [.ref 10, .ref 82] (S0 I L D sc) (e_rV sc Ψ) := by
  refine vR_copy_10_82 ?_
  have key : ∀ i, i ≤ 2 → ∀ X' : e_TI, (∀ c, c ≠ 82 → X' c = I c) → (∀ k, k < i → X' 82 k = I 10 k) → e_Wp 21 2 [some (.ref 10), some (.ref 82), some (.int (Int32.ofNat i))] [] (S0 X' L D sc) 0 0 (e_rV sc Ψ) := by
    refine e_downInd 2 (fun i hi ih X' h1 h2 => ?_) (fun X' h1 h2 => vR_copy_10_82_p2 (bx_t (b_self 2) (H X' h1 h2)))
    refine vR_copy_10_82_p2 (bx_f (b_ge hi) (bx_f (b_ge hi) ⟨o_in hi, o_in hi, ?_⟩))
    rw [o_ix (by omega), o_s]
    exact ih _ (fun c hc => by rw [up_cell hc]; exact h1 c hc) (cp_s h1 h2 (by decide))
  exact key 0 (by omega) I (fun _ _ => rfl) (fun k hk => absurd hk (Nat.not_lt_zero _))
theorem s_copy_11_83 {I : e_TI} {L : e_TL} {D : e_TD} {sc : e_TS} {Ψ : e_TI → e_TL → e_TD → Prop} (H : ∀ X' : e_TI, (∀ c, c ≠ 83 → X' c = I c) → (∀ k, k < 2 → X' 83 k = I 11 k) → Ψ X' L D) : e_M 21 [.ref 11, .ref 83] (S0 I L D sc) (e_rV sc Ψ) := by
  refine vR_copy_11_83 ?_
  have key : ∀ i, i ≤ 2 → ∀ X' : e_TI, (∀ c, c ≠ 83 → X' c = I c) → (∀ k, k < i → X' 83 k = I 11 k) → e_Wp 21 2 [some (.ref 11), some (.ref 83), some (.int (Int32.ofNat i))] [] (S0 X' L D sc) 0 0 (e_rV sc Ψ) := by
    refine e_downInd 2 (fun i hi ih X' h1 h2 => ?_) (fun X' h1 h2 => vR_copy_11_83_p2 (bx_t (b_self 2) (H X' h1 h2)))
    refine vR_copy_11_83_p2 (bx_f (b_ge hi) (bx_f (b_ge hi) ⟨o_in hi, o_in hi, ?_⟩))
    rw [o_ix (by omega), o_s]
    exact ih _ (fun c hc => by rw [up_cell hc]; exact h1 c hc) (cp_s h1 h2 (by decide))
  exact key 0 (by omega) I (fun _ _ => rfl) (fun k hk => absurd hk (Nat.not_lt_zero _))
theorem s_copy_12_84 {I : e_TI} {L : e_TL} {D : e_TD} {sc : e_TS} {Ψ : e_TI → e_TL → e_TD → Prop} (H : ∀ X' : e_TI, (∀ c, c ≠ 84 → X' c = I c) → (∀ k, k < 2 → X' 84 k = I 12 k) → Ψ X' L D) : e_M 21 [.ref 12, .ref 84] (S0 I L D sc) (e_rV sc Ψ) := by
  refine vR_copy_12_84 ?_
  have key : ∀ i, i ≤ 2 → ∀ X' : e_TI, (∀ c, c ≠ 84 → X' c = I c) → (∀ k, k < i → X' 84 k = I 12 k) → e_Wp 21 2 [some (.ref 12), some (.ref 84), some (.int (Int32.ofNat i))] [] (S0 X' L D sc) 0 0 (e_rV sc Ψ) := by
    refine e_downInd 2 (fun i hi ih X' h1 h2 => ?_) (fun X' h1 h2 => vR_copy_12_84_p2 (bx_t (b_self 2) (H X' h1 h2)))
    refine vR_copy_12_84_p2 (bx_f (b_ge hi) (bx_f (b_ge hi) ⟨o_in hi, o_in hi, ?_⟩))
    rw [o_ix (by omega), o_s]
    exact ih _ (fun c hc => by rw [up_cell hc]; exact h1 c hc) (cp_s h1 h2 (by decide))
  exact key 0 (by omega) I (fun _ _ => rfl) (fun k hk => absurd hk (Nat.not_lt_zero _))
theorem s_copy_13_85 {I : e_TI} {L : e_TL} {D : e_TD} {sc : e_TS} {Ψ : e_TI → e_TL → e_TD → Prop} (H : ∀ X' : e_TI, (∀ c, c ≠ 85 → X' c = I c) → (∀ k, k < 2 → X' 85 k = I 13 k) → Ψ X' L D) : e_M 21 [.ref 13, .ref 85] (S0 I L D sc) (e_rV sc Ψ) := by
  refine vR_copy_13_85 ?_
  have key : ∀ i, i ≤ 2 → ∀ X' : e_TI, (∀ c, c ≠ 85 → X' c = I c) → (∀ k, k < i → X' 85 k = I 13 k) → e_Wp 21 2 [some (.ref 13), some (.ref 85), some (.int (Int32.ofNat i))] [] (S0 X' L D sc) 0 0 (e_rV sc Ψ) := by
    refine e_downInd 2 (fun i hi ih X' h1 h2 => ?_) (fun X' h1 h2 => vR_copy_13_85_p2 (bx_t (b_self 2) (H X' h1 h2)))
    refine vR_copy_13_85_p2 (bx_f (b_ge hi) (bx_f (b_ge hi) ⟨o_in hi, o_in hi, ?_⟩))
    rw [o_ix (by omega), o_s]
    exact ih _ (fun c hc => by rw [up_cell hc]; exact h1 c hc) (cp_s h1 h2 (by decide))
  exact key 0 (by omega) I (fun _ _ => rfl) (fun k hk => absurd hk (Nat.not_lt_zero _))
theorem s_copyG_74_2 {I : e_TI} {L : e_TL} {D : e_TD} {sc : e_TS} {Ψ : e_TI → e_TL → e_TD → Prop} {g : Nat → Int32} (hm : gMa g ≤ 16) (h : RC 2 I L g) (H : ∀ I' L', Fr 74 86 I L I' L' → RC 74 I' L' g → Ψ I' L' D) : e_M 23 [.ref 74, .ref 2] (S0 I L D sc) (e_rV sc Ψ) := by
  refine vG_copyFrom_74_2 (vLd_copyFrom_75_3 (s_copySets_4_76 (fun L1 l1 l1' => s_copySets_5_77 (fun L2 l2 l2' => vU_copyFrom_78_6 ?_))))
  refine s_copy_7_79 (fun I1 i1 i1' => s_copy_8_80 (fun I2 i2 i2' => s_copy_9_81 (fun I3 i3 i3' => s_copy_10_82 (fun I4 i4 i4' => s_copy_11_83 (fun I5 i5 i5' => s_copy_12_84 (fun I6 i6 i6' => s_copy_13_85 (fun I7 i7 i7' => ?_)))))))
  obtain ⟨hR, hF⟩ := cpG (a := 74) (b := 2) (by decide) l1 l1' l2 l2' i1 i1' i2 i2' i3 i3' i4 i4' i5 i5' i6 i6' i7 i7' hm h
  exact H _ _ hF hR
theorem s_copySets_4_88 {I : e_TI} {L : e_TL} {D : e_TD} {sc : e_TS} {Ψ : e_TI → e_TL → e_TD → Prop} (H : ∀ X' : e_TL, (∀ c, c ≠ 88 → X' c = L c) → (∀ k, k < 6 → X' 88 k = L 4 k) → Ψ I X' D) : e_M 19 [.ref 4, .ref 88] (S0 I L D sc) (e_rV sc Ψ) := by
  refine vR_copySets_4_88 ?_
  have key : ∀ i, i ≤ 6 → ∀ X' : e_TL, (∀ c, c ≠ 88 → X' c = L c) → (∀ k, k < i → X' 88 k = L 4 k) → e_Wp 19 2 [some (.ref 4), some (.ref 88), some (.int (Int32.ofNat i))] [] (S0 I X' D sc) 0 0 (e_rV sc Ψ) := by
    refine e_downInd 6 (fun i hi ih X' h1 h2 => ?_) (fun X' h1 h2 => vR_copySets_4_88_p2 (bx_t (b_self 6) (H X' h1 h2)))
    refine vR_copySets_4_88_p2 (bx_f (b_ge hi) (bx_f (b_ge hi) ⟨o_in hi, o_in hi, ?_⟩))
    rw [o_ix (by omega), o_s]
    exact ih _ (fun c hc => by rw [up_cell hc]; exact h1 c hc) (cp_s h1 h2 (by decide))
  exact key 0 (by omega) L (fun _ _ => rfl) (fun k hk => absurd hk (Nat.not_lt_zero _))
theorem s_copySets_5_89 {I : e_TI} {L : e_TL} {D : e_TD} {sc : e_TS} {Ψ : e_TI → e_TL → e_TD → Prop} (H : ∀ X' : e_TL, (∀ c, c ≠ 89 → X' c = L c) → (∀ k, k < 2 → X' 89 k = L 5 k) → Ψ I X' D) : e_M 19 [.ref 5, .ref 89] (S0 I L D sc) (e_rV sc Ψ) := by
  refine vR_copySets_5_89 ?_
  have key : ∀ i, i ≤ 2 → ∀ X' : e_TL, (∀ c, c ≠ 89 → X' c = L c) → (∀ k, k < i → X' 89 k = L 5 k) → e_Wp 19 2 [some (.ref 5), some (.ref 89), some (.int (Int32.ofNat i))] [] (S0 I X' D sc) 0 0 (e_rV sc Ψ) := by
    refine e_downInd 2 (fun i hi ih X' h1 h2 => ?_) (fun X' h1 h2 => vR_copySets_5_89_p2 (bx_t (b_self 2) (H X' h1 h2)))
    refine vR_copySets_5_89_p2 (bx_f (b_ge hi) (bx_f (b_ge hi) ⟨o_in hi, o_in hi, ?_⟩))
    rw [o_ix (by omega), o_s]
    exact ih _ (fun c hc => by rw [up_cell hc]; exact h1 c hc) (cp_s h1 h2 (by decide))
  exact key 0 (by omega) L (fun _ _ => rfl) (fun k hk => absurd hk (Nat.not_lt_zero _))
theorem s_copy_7_91 {I : e_TI} {L : e_TL} {D : e_TD} {sc : e_TS} {Ψ : e_TI → e_TL → e_TD → Prop} (H : ∀ X' : e_TI, (∀ c, c ≠ 91 → X' c = I c) → (∀ k, k < 16 → X' 91 k = I 7 k) → Ψ X' L D) : e_M 21 [.ref 7, .ref 91] (S0 I L D sc) (e_rV sc Ψ) := by
  refine vR_copy_7_91 ?_
  have key : ∀ i, i ≤ 16 → ∀ X' : e_TI, (∀ c, c ≠ 91 → X' c = I c) → (∀ k, k < i → X' 91 k = I 7 k) → e_Wp 21 2 [some (.ref 7), some (.ref 91), some (.int (Int32.ofNat i))] [] (S0 X' L D sc) 0 0 (e_rV sc Ψ) := by
    refine e_downInd 16 (fun i hi ih X' h1 h2 => ?_) (fun X' h1 h2 => vR_copy_7_91_p2 (bx_t (b_self 16) (H X' h1 h2)))
    refine vR_copy_7_91_p2 (bx_f (b_ge hi) (bx_f (b_ge hi) ⟨o_in hi, o_in hi, ?_⟩))
    rw [o_ix (by omega), o_s]
    exact ih _ (fun c hc => by rw [up_cell hc]; exact h1 c hc) (cp_s h1 h2 (by decide))
  exact key 0 (by omega) I (fun _ _ => rfl) (fun k hk => absurd hk (Nat.not_lt_zero _))
theorem s_copy_8_92 {I : e_TI} {L : e_TL} {D : e_TD} {sc : e_TS} {Ψ : e_TI → e_TL → e_TD → Prop} (H : ∀ X' : e_TI, (∀ c, c ≠ 92 → X' c = I c) → (∀ k, k < 16 → X' 92 k = I 8 k) → Ψ X' L D) : e_M 21 [.ref 8, .ref 92] (S0 I L D sc) (e_rV sc Ψ) := by
  refine vR_copy_8_92 ?_
  have key : ∀ i, i ≤ 16 → ∀ X' : e_TI, (∀ c, c ≠ 92 → X' c = I c) → (∀ k, k < i → X' 92 k = I 8 k) → e_Wp 21 2 [some (.ref 8), some (.ref 92), some (.int (Int32.ofNat i))] [] (S0 X' L D sc) 0 0 (e_rV sc Ψ) := by
    refine e_downInd 16 (fun i hi ih X' h1 h2 => ?_) (fun X' h1 h2 => vR_copy_8_92_p2 (bx_t (b_self 16) (H X' h1 h2)))
    refine vR_copy_8_92_p2 (bx_f (b_ge hi) (bx_f (b_ge hi) ⟨o_in hi, o_in hi, ?_⟩))
    rw [o_ix (by omega), o_s]
    exact ih _ (fun c hc => by rw [up_cell hc]; exact h1 c hc) (cp_s h1 h2 (by decide))
  exact key 0 (by omega) I (fun _ _ => rfl) (fun k hk => absurd hk (Nat.not_lt_zero _))
theorem s_copy_9_93 {I : e_TI} {L : e_TL} {D : e_TD} {sc : e_TS} {Ψ : e_TI → e_TL → e_TD → Prop} (H : ∀ X' : e_TI, (∀ c, c ≠ 93 → X' c = I c) → (∀ k, k < 16 → X' 93 k = I 9 k) → Ψ X' L D) : e_M 21 [.ref 9, .ref 93] (S0 I L D sc) (e_rV sc Ψ) := by
  refine vR_copy_9_93 ?_
  have key : ∀ i, i ≤ 16 → ∀ X' : e_TI, (∀ c, c ≠ 93 → X' c = I c) → (∀ k, k < i → X' 93 k = I 9 k) → e_Wp 21 2 [some (.ref 9), some (.ref 93), some (.int (Int32.ofNat i))] [] (S0 X' L D sc) 0 0 (e_rV sc Ψ) := by
    refine e_downInd 16 (fun i hi ih X' h1 h2 => ?_) (fun X' h1 h2 => vR_copy_9_93_p2 (bx_t (b_self 16) (H X' h1 h2)))
    refine vR_copy_9_93_p2 (bx_f (b_ge hi) (bx_f (b_ge hi) ⟨o_in hi, o_in hi, ?_⟩))
    rw [o_ix (by omega), o_s]
    exact ih _ (fun c hc => by rw [up_cell hc]; exact h1 c hc) (cp_s h1 h2 (by decide))
  exact key 0 (by omega) I (fun _ _ => rfl) (fun k hk => absurd hk (Nat.not_lt_zero _))
theorem s_copy_10_94 {I : e_TI} {L : e_TL} {D : e_TD} {sc : e_TS} {Ψ : e_TI → e_TL → e_TD → Prop} (H : ∀ X' : e_TI, (∀ c, c ≠ 94 → X' c = I c) → (∀ k, k < 2 → X' 94 k = I 10 k) → Ψ X' L D) : e_M 21 [.ref 10, .ref 94] (S0 I L D sc) (e_rV sc Ψ) := by
  refine vR_copy_10_94 ?_
  have key : ∀ i, i ≤ 2 → ∀ X' : e_TI, (∀ c, c ≠ 94 → X' c = I c) → (∀ k, k < i → X' 94 k = I 10 k) → e_Wp 21 2 [some (.ref 10), some (.ref 94), some (.int (Int32.ofNat i))] [] (S0 X' L D sc) 0 0 (e_rV sc Ψ) := by
    refine e_downInd 2 (fun i hi ih X' h1 h2 => ?_) (fun X' h1 h2 => vR_copy_10_94_p2 (bx_t (b_self 2) (H X' h1 h2)))
    refine vR_copy_10_94_p2 (bx_f (b_ge hi) (bx_f (b_ge hi) ⟨o_in hi, o_in hi, ?_⟩))
    rw [o_ix (by omega), o_s]
    exact ih _ (fun c hc => by rw [up_cell hc]; exact h1 c hc) (cp_s h1 h2 (by decide))
  exact key 0 (by omega) I (fun _ _ => rfl) (fun k hk => absurd hk (Nat.not_lt_zero _))
theorem s_copy_11_95 {I : e_TI} {L : e_TL} {D : e_TD} {sc : e_TS} {Ψ : e_TI → e_TL → e_TD → Prop} (H : ∀ X' : e_TI, (∀ c, c ≠ 95 → X' c = I c) → (∀ k, k < 2 → X' 95 k = I 11 k) → Ψ X' L D) : e_M 21 [.ref 11, .ref 95] (S0 I L D sc) (e_rV sc Ψ) := by
  refine vR_copy_11_95 ?_
  have key : ∀ i, i ≤ 2 → ∀ X' : e_TI, (∀ c, c ≠ 95 → X' c = I c) → (∀ k, k < i → X' 95 k = I 11 k) → e_Wp 21 2 [some (.ref 11), some (.ref 95), some (.int (Int32.ofNat i))] [] (S0 X' L D sc) 0 0 (e_rV sc Ψ) := by
    refine e_downInd 2 (fun i hi ih X' h1 h2 => ?_) (fun X' h1 h2 => vR_copy_11_95_p2 (bx_t (b_self 2) (H X' h1 h2)))
    refine vR_copy_11_95_p2 (bx_f (b_ge hi) (bx_f (b_ge hi) ⟨o_in hi, o_in hi, ?_⟩))
    rw [o_ix (by omega), o_s]
    exact ih _ (fun c hc => by rw [up_cell hc]; exact h1 c hc) (cp_s h1 h2 (by decide))
  exact key 0 (by omega) I (fun _ _ => rfl) (fun k hk => absurd hk (Nat.not_lt_zero _))
theorem s_copy_12_96 {I : e_TI} {L : e_TL} {D : e_TD} {sc : e_TS} {Ψ : e_TI → e_TL → e_TD → Prop} (H : ∀ X' : e_TI, (∀ c, c ≠ 96 → X' c = I c) → (∀ k, k < 2 → X' 96 k = I 12 k) → Ψ X' L D) : e_M 21 [.ref 12, .ref 96] (S0 I L D sc) (e_rV sc Ψ) := by
  refine vR_copy_12_96 ?_
  have key : ∀ i, i ≤ 2 → ∀ X' : e_TI, (∀ c, c ≠ 96 → X' c = I c) → (∀ k, k < i → X' 96 k = I 12 k) → e_Wp 21 2 [some (.ref 12), some (.ref 96), some (.int (Int32.ofNat i))] [] (S0 X' L D sc) 0 0 (e_rV sc Ψ) := by
    refine e_downInd 2 (fun i hi ih X' h1 h2 => ?_) (fun X' h1 h2 => vR_copy_12_96_p2 (bx_t (b_self 2) (H X' h1 h2)))
    refine vR_copy_12_96_p2 (bx_f (b_ge hi) (bx_f (b_ge hi) ⟨o_in hi, o_in hi, ?_⟩))
    rw [o_ix (by omega), o_s]
    exact ih _ (fun c hc => by rw [up_cell hc]; exact h1 c hc) (cp_s h1 h2 (by decide))
  exact key 0 (by omega) I (fun _ _ => rfl) (fun k hk => absurd hk (Nat.not_lt_zero _))
theorem s_copy_13_97 {I : e_TI} {L : e_TL} {D : e_TD} {sc : e_TS} {Ψ : e_TI → e_TL → e_TD → Prop} (H : ∀ X' : e_TI, (∀ c, c ≠ 97 → X' c = I c) → (∀ k, k < 2 → X' 97 k = I 13 k) → Ψ X' L D) : e_M 21 [.ref 13, .ref 97] (S0 I L D sc) (e_rV sc Ψ) := by
  refine vR_copy_13_97 ?_
  have key : ∀ i, i ≤ 2 → ∀ X' : e_TI, (∀ c, c ≠ 97 → X' c = I c) → (∀ k, k < i → X' 97 k = I 13 k) → e_Wp 21 2 [some (.ref 13), some (.ref 97), some (.int (Int32.ofNat i))] [] (S0 X' L D sc) 0 0 (e_rV sc Ψ) := by
    refine e_downInd 2 (fun i hi ih X' h1 h2 => ?_) (fun X' h1 h2 => vR_copy_13_97_p2 (bx_t (b_self 2) (H X' h1 h2)))
    refine vR_copy_13_97_p2 (bx_f (b_ge hi) (bx_f (b_ge hi) ⟨o_in hi, o_in hi, ?_⟩))
    rw [o_ix (by omega), o_s]
    exact ih _ (fun c hc => by rw [up_cell hc]; exact h1 c hc) (cp_s h1 h2 (by decide))
  exact key 0 (by omega) I (fun _ _ => rfl) (fun k hk => absurd hk (Nat.not_lt_zero _))
theorem s_copyG_86_2 {I : e_TI} {L : e_TL} {D : e_TD} {sc : e_TS} {Ψ : e_TI → e_TL → e_TD → Prop} {g : Nat → Int32} (hm : gMa g ≤ 16) (h : RC 2 I L g) (H : ∀ I' L', Fr 86 98 I L I' L' → RC 86 I' L' g → Ψ I' L' D) : e_M 23 [.ref 86, .ref 2] (S0 I L D sc) (e_rV sc Ψ) := by
  refine vG_copyFrom_86_2 (vLd_copyFrom_87_3 (s_copySets_4_88 (fun L1 l1 l1' => s_copySets_5_89 (fun L2 l2 l2' => vU_copyFrom_90_6 ?_))))
  refine s_copy_7_91 (fun I1 i1 i1' => s_copy_8_92 (fun I2 i2 i2' => s_copy_9_93 (fun I3 i3 i3' => s_copy_10_94 (fun I4 i4 i4' => s_copy_11_95 (fun I5 i5 i5' => s_copy_12_96 (fun I6 i6 i6' => s_copy_13_97 (fun I7 i7 i7' => ?_)))))))
  obtain ⟨hR, hF⟩ := cpG (a := 86) (b := 2) (by decide) l1 l1' l2 l2' i1 i1' i2 i2' i3 i3' i4 i4' i5 i5' i6 i6' i7 i7' hm h
  exact H _ _ hF hR
theorem s_copySets_4_100 {I : e_TI} {L : e_TL} {D : e_TD} {sc : e_TS} {Ψ : e_TI → e_TL → e_TD → Prop} (H : ∀ X' : e_TL, (∀ c, c ≠ 100 → X' c = L c) → (∀ k, k < 6 → X' 100 k = L 4 k) → Ψ I X' D) : e_M 19 [.ref 4, .ref 100] (S0 I L D sc) (e_rV sc Ψ) := by
  refine vR_copySets_4_100 ?_
  have key : ∀ i, i ≤ 6 → ∀ X' : e_TL, (∀ c, c ≠ 100 → X' c = L c) → (∀ k, k < i → X' 100 k = L 4 k) → e_Wp 19 2 [some (.ref 4), some (.ref 100), some (.int (Int32.ofNat i))] [] (S0 I X' D sc) 0 0 (e_rV sc Ψ) := by
    refine e_downInd 6 (fun i hi ih X' h1 h2 => ?_) (fun X' h1 h2 => vR_copySets_4_100_p2 (bx_t (b_self 6) (H X' h1 h2)))
    refine vR_copySets_4_100_p2 (bx_f (b_ge hi) (bx_f (b_ge hi) ⟨o_in hi, o_in hi, ?_⟩))
    rw [o_ix (by omega), o_s]
    exact ih _ (fun c hc => by rw [up_cell hc]; exact h1 c hc) (cp_s h1 h2 (by decide))
  exact key 0 (by omega) L (fun _ _ => rfl) (fun k hk => absurd hk (Nat.not_lt_zero _))
theorem s_copySets_5_101 {I : e_TI} {L : e_TL} {D : e_TD} {sc : e_TS} {Ψ : e_TI → e_TL → e_TD → Prop} (H : ∀ X' : e_TL, (∀ c, c ≠ 101 → X' c = L c) → (∀ k, k < 2 → X' 101 k = L 5 k) → Ψ I X' D) : e_M 19 [.ref 5, .ref 101] (S0 I L D sc) (e_rV sc Ψ) := by
  refine vR_copySets_5_101 ?_
  have key : ∀ i, i ≤ 2 → ∀ X' : e_TL, (∀ c, c ≠ 101 → X' c = L c) → (∀ k, k < i → X' 101 k = L 5 k) → e_Wp 19 2 [some (.ref 5), some (.ref 101), some (.int (Int32.ofNat i))] [] (S0 I X' D sc) 0 0 (e_rV sc Ψ) := by
    refine e_downInd 2 (fun i hi ih X' h1 h2 => ?_) (fun X' h1 h2 => vR_copySets_5_101_p2 (bx_t (b_self 2) (H X' h1 h2)))
    refine vR_copySets_5_101_p2 (bx_f (b_ge hi) (bx_f (b_ge hi) ⟨o_in hi, o_in hi, ?_⟩))
    rw [o_ix (by omega), o_s]
    exact ih _ (fun c hc => by rw [up_cell hc]; exact h1 c hc) (cp_s h1 h2 (by decide))
  exact key 0 (by omega) L (fun _ _ => rfl) (fun k hk => absurd hk (Nat.not_lt_zero _))
theorem s_copy_7_103 {I : e_TI} {L : e_TL} {D : e_TD} {sc : e_TS} {Ψ : e_TI → e_TL → e_TD → Prop} (H : ∀ X' : e_TI, (∀ c, c ≠ 103 → X' c = I c) → (∀ k, k < 16 → X' 103 k = I 7 k) → Ψ X' L D) : e_M 21 [.ref 7, .ref 103] (S0 I L D sc) (e_rV sc Ψ) := by
  refine vR_copy_7_103 ?_
  have key : ∀ i, i ≤ 16 → ∀ X' : e_TI, (∀ c, c ≠ 103 → X' c = I c) → (∀ k, k < i → X' 103 k = I 7 k) → e_Wp 21 2 [some (.ref 7), some (.ref 103), some (.int (Int32.ofNat i))] [] (S0 X' L D sc) 0 0 (e_rV sc Ψ) := by
    refine e_downInd 16 (fun i hi ih X' h1 h2 => ?_) (fun X' h1 h2 => vR_copy_7_103_p2 (bx_t (b_self 16) (H X' h1 h2)))
    refine vR_copy_7_103_p2 (bx_f (b_ge hi) (bx_f (b_ge hi) ⟨o_in hi, o_in hi, ?_⟩))
    rw [o_ix (by omega), o_s]
    exact ih _ (fun c hc => by rw [up_cell hc]; exact h1 c hc) (cp_s h1 h2 (by decide))
  exact key 0 (by omega) I (fun _ _ => rfl) (fun k hk => absurd hk (Nat.not_lt_zero _))
theorem s_copy_8_104 {I : e_TI} {L : e_TL} {D : e_TD} {sc : e_TS} {Ψ : e_TI → e_TL → e_TD → Prop} (H : ∀ X' : e_TI, (∀ c, c ≠ 104 → X' c = I c) → (∀ k, k < 16 → X' 104 k = I 8 k) → Ψ X' L D) : e_M 21 [.ref 8, .ref 104] (S0 I L D sc) (e_rV sc Ψ) := by
  refine vR_copy_8_104 ?_
  have key : ∀ i, i ≤ 16 → ∀ X' : e_TI, (∀ c, c ≠ 104 → X' c = I c) → (∀ k, k < i → X' 104 k = I 8 k) → e_Wp 21 2 [some (.ref 8), some (.ref 104), some (.int (Int32.ofNat i))] [] (S0 X' L D sc) 0 0 (e_rV sc Ψ) := by
    refine e_downInd 16 (fun i hi ih X' h1 h2 => ?_) (fun X' h1 h2 => vR_copy_8_104_p2 (bx_t (b_self 16) (H X' h1 h2)))
    refine vR_copy_8_104_p2 (bx_f (b_ge hi) (bx_f (b_ge hi) ⟨o_in hi, o_in hi, ?_⟩))
    rw [o_ix (by omega), o_s]
    exact ih _ (fun c hc => by rw [up_cell hc]; exact h1 c hc) (cp_s h1 h2 (by decide))
  exact key 0 (by omega) I (fun _ _ => rfl) (fun k hk => absurd hk (Nat.not_lt_zero _))
theorem s_copy_9_105 {I : e_TI} {L : e_TL} {D : e_TD} {sc : e_TS} {Ψ : e_TI → e_TL → e_TD → Prop} (H : ∀ X' : e_TI, (∀ c, c ≠ 105 → X' c = I c) → (∀ k, k < 16 → X' 105 k = I 9 k) → Ψ X' L D) : e_M 21 [.ref 9, .ref 105] (S0 I L D sc) (e_rV sc Ψ) := by
  refine vR_copy_9_105 ?_
  have key : ∀ i, i ≤ 16 → ∀ X' : e_TI, (∀ c, c ≠ 105 → X' c = I c) → (∀ k, k < i → X' 105 k = I 9 k) → e_Wp 21 2 [some (.ref 9), some (.ref 105), some (.int (Int32.ofNat i))] [] (S0 X' L D sc) 0 0 (e_rV sc Ψ) := by
    refine e_downInd 16 (fun i hi ih X' h1 h2 => ?_) (fun X' h1 h2 => vR_copy_9_105_p2 (bx_t (b_self 16) (H X' h1 h2)))
    refine vR_copy_9_105_p2 (bx_f (b_ge hi) (bx_f (b_ge hi) ⟨o_in hi, o_in hi, ?_⟩))
    rw [o_ix (by omega), o_s]
    exact ih _ (fun c hc => by rw [up_cell hc]; exact h1 c hc) (cp_s h1 h2 (by decide))
  exact key 0 (by omega) I (fun _ _ => rfl) (fun k hk => absurd hk (Nat.not_lt_zero _))
theorem s_copy_10_106 {I : e_TI} {L : e_TL} {D : e_TD} {sc : e_TS} {Ψ : e_TI → e_TL → e_TD → Prop} (H : ∀ X' : e_TI, (∀ c, c ≠ 106 → X' c = I c) → (∀ k, k < 2 → X' 106 k = I 10 k) → Ψ X' L D) : e_M 21 [.ref 10, .ref 106] (S0 I L D sc) (e_rV sc Ψ) := by
  refine vR_copy_10_106 ?_
  have key : ∀ i, i ≤ 2 → ∀ X' : e_TI, (∀ c, c ≠ 106 → X' c = I c) → (∀ k, k < i → X' 106 k = I 10 k) → e_Wp 21 2 [some (.ref 10), some (.ref 106), some (.int (Int32.ofNat i))] [] (S0 X' L D sc) 0 0 (e_rV sc Ψ) := by
    refine e_downInd 2 (fun i hi ih X' h1 h2 => ?_) (fun X' h1 h2 => vR_copy_10_106_p2 (bx_t (b_self 2) (H X' h1 h2)))
    refine vR_copy_10_106_p2 (bx_f (b_ge hi) (bx_f (b_ge hi) ⟨o_in hi, o_in hi, ?_⟩))
    rw [o_ix (by omega), o_s]
    exact ih _ (fun c hc => by rw [up_cell hc]; exact h1 c hc) (cp_s h1 h2 (by decide))
  exact key 0 (by omega) I (fun _ _ => rfl) (fun k hk => absurd hk (Nat.not_lt_zero _))
theorem s_copy_11_107 {I : e_TI} {L : e_TL} {D : e_TD} {sc : e_TS} {Ψ : e_TI → e_TL → e_TD → Prop} (H : ∀ X' : e_TI, (∀ c, c ≠ 107 → X' c = I c) → (∀ k, k < 2 → X' 107 k = I 11 k) → Ψ X' L D) : e_M 21 [.ref 11, .ref 107] (S0 I L D sc) (e_rV sc Ψ) := by
  refine vR_copy_11_107 ?_
  have key : ∀ i, i ≤ 2 → ∀ X' : e_TI, (∀ c, c ≠ 107 → X' c = I c) → (∀ k, k < i → X' 107 k = I 11 k) → e_Wp 21 2 [some (.ref 11), some (.ref 107), some (.int (Int32.ofNat i))] [] (S0 X' L D sc) 0 0 (e_rV sc Ψ) := by
    refine e_downInd 2 (fun i hi ih X' h1 h2 => ?_) (fun X' h1 h2 => vR_copy_11_107_p2 (bx_t (b_self 2) (H X' h1 h2)))
    refine vR_copy_11_107_p2 (bx_f (b_ge hi) (bx_f (b_ge hi) ⟨o_in hi, o_in hi, ?_⟩))
    rw [o_ix (by omega), o_s]
    exact ih _ (fun c hc => by rw [up_cell hc]; exact h1 c hc) (cp_s h1 h2 (by decide))
  exact key 0 (by omega) I (fun _ _ => rfl) (fun k hk => absurd hk (Nat.not_lt_zero _))
theorem s_copy_12_108 {I : e_TI} {L : e_TL} {D : e_TD} {sc : e_TS} {Ψ : e_TI → e_TL → e_TD → Prop} (H : ∀ X' : e_TI, (∀ c, c ≠ 108 → X' c = I c) → (∀ k, k < 2 → X' 108 k = I 12 k) → Ψ X' L D) : e_M 21 [.ref 12, .ref 108] (S0 I L D sc) (e_rV sc Ψ) := by
  refine vR_copy_12_108 ?_
  have key : ∀ i, i ≤ 2 → ∀ X' : e_TI, (∀ c, c ≠ 108 → X' c = I c) → (∀ k, k < i → X' 108 k = I 12 k) → e_Wp 21 2 [some (.ref 12), some (.ref 108), some (.int (Int32.ofNat i))] [] (S0 X' L D sc) 0 0 (e_rV sc Ψ) := by
    refine e_downInd 2 (fun i hi ih X' h1 h2 => ?_) (fun X' h1 h2 => vR_copy_12_108_p2 (bx_t (b_self 2) (H X' h1 h2)))
    refine vR_copy_12_108_p2 (bx_f (b_ge hi) (bx_f (b_ge hi) ⟨o_in hi, o_in hi, ?_⟩))
    rw [o_ix (by omega), o_s]
    exact ih _ (fun c hc => by rw [up_cell hc]; exact h1 c hc) (cp_s h1 h2 (by decide))
  exact key 0 (by omega) I (fun _ _ => rfl) (fun k hk => absurd hk (Nat.not_lt_zero _))
theorem s_copy_13_109 {I : e_TI} {L : e_TL} {D : e_TD} {sc : e_TS} {Ψ : e_TI → e_TL → e_TD → Prop} (H : ∀ X' : e_TI, (∀ c, c ≠ 109 → X' c = I c) → (∀ k, k < 2 → X' 109 k = I 13 k) → Ψ X' L D) : e_M 21 [.ref 13, .ref 109] (S0 I L D sc) (e_rV sc Ψ) := by
  refine vR_copy_13_109 ?_
  have key : ∀ i, i ≤ 2 → ∀ X' : e_TI, (∀ c, c ≠ 109 → X' c = I c) → (∀ k, k < i → X' 109 k = I 13 k) → e_Wp 21 2 [some (.ref 13), some (.ref 109), some (.int (Int32.ofNat i))] [] (S0 X' L D sc) 0 0 (e_rV sc Ψ) := by
    refine e_downInd 2 (fun i hi ih X' h1 h2 => ?_) (fun X' h1 h2 => vR_copy_13_109_p2 (bx_t (b_self 2) (H X' h1 h2)))
    refine vR_copy_13_109_p2 (bx_f (b_ge hi) (bx_f (b_ge hi) ⟨o_in hi, o_in hi, ?_⟩))
    rw [o_ix (by omega), o_s]
    exact ih _ (fun c hc => by rw [up_cell hc]; exact h1 c hc) (cp_s h1 h2 (by decide))
  exact key 0 (by omega) I (fun _ _ => rfl) (fun k hk => absurd hk (Nat.not_lt_zero _))
theorem s_copyG_98_2 {I : e_TI} {L : e_TL} {D : e_TD} {sc : e_TS} {Ψ : e_TI → e_TL → e_TD → Prop} {g : Nat → Int32} (hm : gMa g ≤ 16) (h : RC 2 I L g) (H : ∀ I' L', Fr 98 110 I L I' L' → RC 98 I' L' g → Ψ I' L' D) : e_M 23 [.ref 98, .ref 2] (S0 I L D sc) (e_rV sc Ψ) := by
  refine vG_copyFrom_98_2 (vLd_copyFrom_99_3 (s_copySets_4_100 (fun L1 l1 l1' => s_copySets_5_101 (fun L2 l2 l2' => vU_copyFrom_102_6 ?_))))
  refine s_copy_7_103 (fun I1 i1 i1' => s_copy_8_104 (fun I2 i2 i2' => s_copy_9_105 (fun I3 i3 i3' => s_copy_10_106 (fun I4 i4 i4' => s_copy_11_107 (fun I5 i5 i5' => s_copy_12_108 (fun I6 i6 i6' => s_copy_13_109 (fun I7 i7 i7' => ?_)))))))
  obtain ⟨hR, hF⟩ := cpG (a := 98) (b := 2) (by decide) l1 l1' l2 l2' i1 i1' i2 i2' i3 i3' i4 i4' i5 i5' i6 i6' i7 i7' hm h
  exact H _ _ hF hR
theorem s_copySets_4_112 {I : e_TI} {L : e_TL} {D : e_TD} {sc : e_TS} {Ψ : e_TI → e_TL → e_TD → Prop} (H : ∀ X' : e_TL, (∀ c, c ≠ 112 → X' c = L c) → (∀ k, k < 6 → X' 112 k = L 4 k) → Ψ I X' D) : e_M 19 [.ref 4, .ref 112] (S0 I L D sc) (e_rV sc Ψ) := by
  refine vR_copySets_4_112 ?_
  have key : ∀ i, i ≤ 6 → ∀ X' : e_TL, (∀ c, c ≠ 112 → X' c = L c) → (∀ k, k < i → X' 112 k = L 4 k) → e_Wp 19 2 [some (.ref 4), some (.ref 112), some (.int (Int32.ofNat i))] [] (S0 I X' D sc) 0 0 (e_rV sc Ψ) := by
    refine e_downInd 6 (fun i hi ih X' h1 h2 => ?_) (fun X' h1 h2 => vR_copySets_4_112_p2 (bx_t (b_self 6) (H X' h1 h2)))
    refine vR_copySets_4_112_p2 (bx_f (b_ge hi) (bx_f (b_ge hi) ⟨o_in hi, o_in hi, ?_⟩))
    rw [o_ix (by omega), o_s]
    exact ih _ (fun c hc => by rw [up_cell hc]; exact h1 c hc) (cp_s h1 h2 (by decide))
  exact key 0 (by omega) L (fun _ _ => rfl) (fun k hk => absurd hk (Nat.not_lt_zero _))
theorem s_copySets_5_113 {I : e_TI} {L : e_TL} {D : e_TD} {sc : e_TS} {Ψ : e_TI → e_TL → e_TD → Prop} (H : ∀ X' : e_TL, (∀ c, c ≠ 113 → X' c = L c) → (∀ k, k < 2 → X' 113 k = L 5 k) → Ψ I X' D) : e_M 19 [.ref 5, .ref 113] (S0 I L D sc) (e_rV sc Ψ) := by
  refine vR_copySets_5_113 ?_
  have key : ∀ i, i ≤ 2 → ∀ X' : e_TL, (∀ c, c ≠ 113 → X' c = L c) → (∀ k, k < i → X' 113 k = L 5 k) → e_Wp 19 2 [some (.ref 5), some (.ref 113), some (.int (Int32.ofNat i))] [] (S0 I X' D sc) 0 0 (e_rV sc Ψ) := by
    refine e_downInd 2 (fun i hi ih X' h1 h2 => ?_) (fun X' h1 h2 => vR_copySets_5_113_p2 (bx_t (b_self 2) (H X' h1 h2)))
    refine vR_copySets_5_113_p2 (bx_f (b_ge hi) (bx_f (b_ge hi) ⟨o_in hi, o_in hi, ?_⟩))
    rw [o_ix (by omega), o_s]
    exact ih _ (fun c hc => by rw [up_cell hc]; exact h1 c hc) (cp_s h1 h2 (by decide))
  exact key 0 (by omega) L (fun _ _ => rfl) (fun k hk => absurd hk (Nat.not_lt_zero _))
theorem s_copy_7_115 {I : e_TI} {L : e_TL} {D : e_TD} {sc : e_TS} {Ψ : e_TI → e_TL → e_TD → Prop} (H : ∀ X' : e_TI, (∀ c, c ≠ 115 → X' c = I c) → (∀ k, k < 16 → X' 115 k = I 7 k) → Ψ X' L D) : e_M 21 [.ref 7, .ref 115] (S0 I L D sc) (e_rV sc Ψ) := by
  refine vR_copy_7_115 ?_
  have key : ∀ i, i ≤ 16 → ∀ X' : e_TI, (∀ c, c ≠ 115 → X' c = I c) → (∀ k, k < i → X' 115 k = I 7 k) → e_Wp 21 2 [some (.ref 7), some (.ref 115), some (.int (Int32.ofNat i))] [] (S0 X' L D sc) 0 0 (e_rV sc Ψ) := by
    refine e_downInd 16 (fun i hi ih X' h1 h2 => ?_) (fun X' h1 h2 => vR_copy_7_115_p2 (bx_t (b_self 16) (H X' h1 h2)))
    refine vR_copy_7_115_p2 (bx_f (b_ge hi) (bx_f (b_ge hi) ⟨o_in hi, o_in hi, ?_⟩))
    rw [o_ix (by omega), o_s]
    exact ih _ (fun c hc => by rw [up_cell hc]; exact h1 c hc) (cp_s h1 h2 (by decide))
  exact key 0 (by omega) I (fun _ _ => rfl) (fun k hk => absurd hk (Nat.not_lt_zero _))
theorem s_copy_8_116 {I : e_TI} {L : e_TL} {D : e_TD} {sc : e_TS} {Ψ : e_TI → e_TL → e_TD → Prop} (H : ∀ X' : e_TI, (∀ c, c ≠ 116 → X' c = I c) → (∀ k, k < 16 → X' 116 k = I 8 k) → Ψ X' L D) : e_M 21 [.ref 8, .ref 116] (S0 I L D sc) (e_rV sc Ψ) := by
  refine vR_copy_8_116 ?_
  have key : ∀ i, i ≤ 16 → ∀ X' : e_TI, (∀ c, c ≠ 116 → X' c = I c) → (∀ k, k < i → X' 116 k = I 8 k) → e_Wp 21 2 [some (.ref 8), some (.ref 116), some (.int (Int32.ofNat i))] [] (S0 X' L D sc) 0 0 (e_rV sc Ψ) := by
    refine e_downInd 16 (fun i hi ih X' h1 h2 => ?_) (fun X' h1 h2 => vR_copy_8_116_p2 (bx_t (b_self 16) (H X' h1 h2)))
    refine vR_copy_8_116_p2 (bx_f (b_ge hi) (bx_f (b_ge hi) ⟨o_in hi, o_in hi, ?_⟩))
    rw [o_ix (by omega), o_s]
    exact ih _ (fun c hc => by rw [up_cell hc]; exact h1 c hc) (cp_s h1 h2 (by decide))
  exact key 0 (by omega) I (fun _ _ => rfl) (fun k hk => absurd hk (Nat.not_lt_zero _))
theorem s_copy_9_117 {I : e_TI} {L : e_TL} {D : e_TD} {sc : e_TS} {Ψ : e_TI → e_TL → e_TD → Prop} (H : ∀ X' : e_TI, (∀ c, c ≠ 117 → X' c = I c) → (∀ k, k < 16 → X' 117 k = I 9 k) → Ψ X' L D) : e_M 21 [.ref 9, .ref 117] (S0 I L D sc) (e_rV sc Ψ) := by
  refine vR_copy_9_117 ?_
  have key : ∀ i, i ≤ 16 → ∀ X' : e_TI, (∀ c, c ≠ 117 → X' c = I c) → (∀ k, k < i → X' 117 k = I 9 k) → e_Wp 21 2 [some (.ref 9), some (.ref 117), some (.int (Int32.ofNat i))] [] (S0 X' L D sc) 0 0 (e_rV sc Ψ) := by
    refine e_downInd 16 (fun i hi ih X' h1 h2 => ?_) (fun X' h1 h2 => vR_copy_9_117_p2 (bx_t (b_self 16) (H X' h1 h2)))
    refine vR_copy_9_117_p2 (bx_f (b_ge hi) (bx_f (b_ge hi) ⟨o_in hi, o_in hi, ?_⟩))
    rw [o_ix (by omega), o_s]
    exact ih _ (fun c hc => by rw [up_cell hc]; exact h1 c hc) (cp_s h1 h2 (by decide))
  exact key 0 (by omega) I (fun _ _ => rfl) (fun k hk => absurd hk (Nat.not_lt_zero _))
theorem s_copy_10_118 {I : e_TI} {L : e_TL} {D : e_TD} {sc : e_TS} {Ψ : e_TI → e_TL → e_TD → Prop} (H : ∀ X' : e_TI, (∀ c, c ≠ 118 → X' c = I c) → (∀ k, k < 2 → X' 118 k = I 10 k) → Ψ X' L D) : e_M 21 [.ref 10, .ref 118] (S0 I L D sc) (e_rV sc Ψ) := by
  refine vR_copy_10_118 ?_
  have key : ∀ i, i ≤ 2 → ∀ X' : e_TI, (∀ c, c ≠ 118 → X' c = I c) → (∀ k, k < i → X' 118 k = I 10 k) → e_Wp 21 2 [some (.ref 10), some (.ref 118), some (.int (Int32.ofNat i))] [] (S0 X' L D sc) 0 0 (e_rV sc Ψ) := by
    refine e_downInd 2 (fun i hi ih X' h1 h2 => ?_) (fun X' h1 h2 => vR_copy_10_118_p2 (bx_t (b_self 2) (H X' h1 h2)))
    refine vR_copy_10_118_p2 (bx_f (b_ge hi) (bx_f (b_ge hi) ⟨o_in hi, o_in hi, ?_⟩))
    rw [o_ix (by omega), o_s]
    exact ih _ (fun c hc => by rw [up_cell hc]; exact h1 c hc) (cp_s h1 h2 (by decide))
  exact key 0 (by omega) I (fun _ _ => rfl) (fun k hk => absurd hk (Nat.not_lt_zero _))
theorem s_copy_11_119 {I : e_TI} {L : e_TL} {D : e_TD} {sc : e_TS} {Ψ : e_TI → e_TL → e_TD → Prop} (H : ∀ X' : e_TI, (∀ c, c ≠ 119 → X' c = I c) → (∀ k, k < 2 → X' 119 k = I 11 k) → Ψ X' L D) : e_M 21 [.ref 11, .ref 119] (S0 I L D sc) (e_rV sc Ψ) := by
  refine vR_copy_11_119 ?_
  have key : ∀ i, i ≤ 2 → ∀ X' : e_TI, (∀ c, c ≠ 119 → X' c = I c) → (∀ k, k < i → X' 119 k = I 11 k) → e_Wp 21 2 [some (.ref 11), some (.ref 119), some (.int (Int32.ofNat i))] [] (S0 X' L D sc) 0 0 (e_rV sc Ψ) := by
    refine e_downInd 2 (fun i hi ih X' h1 h2 => ?_) (fun X' h1 h2 => vR_copy_11_119_p2 (bx_t (b_self 2) (H X' h1 h2)))
    refine vR_copy_11_119_p2 (bx_f (b_ge hi) (bx_f (b_ge hi) ⟨o_in hi, o_in hi, ?_⟩))
    rw [o_ix (by omega), o_s]
    exact ih _ (fun c hc => by rw [up_cell hc]; exact h1 c hc) (cp_s h1 h2 (by decide))
  exact key 0 (by omega) I (fun _ _ => rfl) (fun k hk => absurd hk (Nat.not_lt_zero _))
theorem s_copy_12_120 {I : e_TI} {L : e_TL} {D : e_TD} {sc : e_TS} {Ψ : e_TI → e_TL → e_TD → Prop} (H : ∀ X' : e_TI, (∀ c, c ≠ 120 → X' c = I c) → (∀ k, k < 2 → X' 120 k = I 12 k) → Ψ X' L D) : e_M 21 [.ref 12, .ref 120] (S0 I L D sc) (e_rV sc Ψ) := by
  refine vR_copy_12_120 ?_
  have key : ∀ i, i ≤ 2 → ∀ X' : e_TI, (∀ c, c ≠ 120 → X' c = I c) → (∀ k, k < i → X' 120 k = I 12 k) → e_Wp 21 2 [some (.ref 12), some (.ref 120), some (.int (Int32.ofNat i))] [] (S0 X' L D sc) 0 0 (e_rV sc Ψ) := by
    refine e_downInd 2 (fun i hi ih X' h1 h2 => ?_) (fun X' h1 h2 => vR_copy_12_120_p2 (bx_t (b_self 2) (H X' h1 h2)))
    refine vR_copy_12_120_p2 (bx_f (b_ge hi) (bx_f (b_ge hi) ⟨o_in hi, o_in hi, ?_⟩))
    rw [o_ix (by omega), o_s]
    exact ih _ (fun c hc => by rw [up_cell hc]; exact h1 c hc) (cp_s h1 h2 (by decide))
  exact key 0 (by omega) I (fun _ _ => rfl) (fun k hk => absurd hk (Nat.not_lt_zero _))
theorem s_copy_13_121 {I : e_TI} {L : e_TL} {D : e_TD} {sc : e_TS} {Ψ : e_TI → e_TL → e_TD → Prop} (H : ∀ X' : e_TI, (∀ c, c ≠ 121 → X' c = I c) → (∀ k, k < 2 → X' 121 k = I 13 k) → Ψ X' L D) : e_M 21 [.ref 13, .ref 121] (S0 I L D sc) (e_rV sc Ψ) := by
  refine vR_copy_13_121 ?_
  have key : ∀ i, i ≤ 2 → ∀ X' : e_TI, (∀ c, c ≠ 121 → X' c = I c) → (∀ k, k < i → X' 121 k = I 13 k) → e_Wp 21 2 [some (.ref 13), some (.ref 121), some (.int (Int32.ofNat i))] [] (S0 X' L D sc) 0 0 (e_rV sc Ψ) := by
    refine e_downInd 2 (fun i hi ih X' h1 h2 => ?_) (fun X' h1 h2 => vR_copy_13_121_p2 (bx_t (b_self 2) (H X' h1 h2)))
    refine vR_copy_13_121_p2 (bx_f (b_ge hi) (bx_f (b_ge hi) ⟨o_in hi, o_in hi, ?_⟩))
    rw [o_ix (by omega), o_s]
    exact ih _ (fun c hc => by rw [up_cell hc]; exact h1 c hc) (cp_s h1 h2 (by decide))
  exact key 0 (by omega) I (fun _ _ => rfl) (fun k hk => absurd hk (Nat.not_lt_zero _))
theorem s_copyG_110_2 {I : e_TI} {L : e_TL} {D : e_TD} {sc : e_TS} {Ψ : e_TI → e_TL → e_TD → Prop} {g : Nat → Int32} (hm : gMa g ≤ 16) (h : RC 2 I L g) (H : ∀ I' L', Fr 110 122 I L I' L' → RC 110 I' L' g → Ψ I' L' D) : e_M 23 [.ref 110, .ref 2] (S0 I L D sc) (e_rV sc Ψ) := by
  refine vG_copyFrom_110_2 (vLd_copyFrom_111_3 (s_copySets_4_112 (fun L1 l1 l1' => s_copySets_5_113 (fun L2 l2 l2' => vU_copyFrom_114_6 ?_))))
  refine s_copy_7_115 (fun I1 i1 i1' => s_copy_8_116 (fun I2 i2 i2' => s_copy_9_117 (fun I3 i3 i3' => s_copy_10_118 (fun I4 i4 i4' => s_copy_11_119 (fun I5 i5 i5' => s_copy_12_120 (fun I6 i6 i6' => s_copy_13_121 (fun I7 i7 i7' => ?_)))))))
  obtain ⟨hR, hF⟩ := cpG (a := 110) (b := 2) (by decide) l1 l1' l2 l2' i1 i1' i2 i2' i3 i3' i4 i4' i5 i5' i6 i6' i7 i7' hm h
  exact H _ _ hF hR
theorem s_copySets_4_124 {I : e_TI} {L : e_TL} {D : e_TD} {sc : e_TS} {Ψ : e_TI → e_TL → e_TD → Prop} (H : ∀ X' : e_TL, (∀ c, c ≠ 124 → X' c = L c) → (∀ k, k < 6 → X' 124 k = L 4 k) → Ψ I X' D) : e_M 19 [.ref 4, .ref 124] (S0 I L D sc) (e_rV sc Ψ) := by
  refine vR_copySets_4_124 ?_
  have key : ∀ i, i ≤ 6 → ∀ X' : e_TL, (∀ c, c ≠ 124 → X' c = L c) → (∀ k, k < i → X' 124 k = L 4 k) → e_Wp 19 2 [some (.ref 4), some (.ref 124), some (.int (Int32.ofNat i))] [] (S0 I X' D sc) 0 0 (e_rV sc Ψ) := by
    refine e_downInd 6 (fun i hi ih X' h1 h2 => ?_) (fun X' h1 h2 => vR_copySets_4_124_p2 (bx_t (b_self 6) (H X' h1 h2)))
    refine vR_copySets_4_124_p2 (bx_f (b_ge hi) (bx_f (b_ge hi) ⟨o_in hi, o_in hi, ?_⟩))
    rw [o_ix (by omega), o_s]
    exact ih _ (fun c hc => by rw [up_cell hc]; exact h1 c hc) (cp_s h1 h2 (by decide))
  exact key 0 (by omega) L (fun _ _ => rfl) (fun k hk => absurd hk (Nat.not_lt_zero _))
theorem s_copySets_5_125 {I : e_TI} {L : e_TL} {D : e_TD} {sc : e_TS} {Ψ : e_TI → e_TL → e_TD → Prop} (H : ∀ X' : e_TL, (∀ c, c ≠ 125 → X' c = L c) → (∀ k, k < 2 → X' 125 k = L 5 k) → Ψ I X' D) : e_M 19 [.ref 5, .ref 125] (S0 I L D sc) (e_rV sc Ψ) := by
  refine vR_copySets_5_125 ?_
  have key : ∀ i, i ≤ 2 → ∀ X' : e_TL, (∀ c, c ≠ 125 → X' c = L c) → (∀ k, k < i → X' 125 k = L 5 k) → e_Wp 19 2 [some (.ref 5), some (.ref 125), some (.int (Int32.ofNat i))] [] (S0 I X' D sc) 0 0 (e_rV sc Ψ) := by
    refine e_downInd 2 (fun i hi ih X' h1 h2 => ?_) (fun X' h1 h2 => vR_copySets_5_125_p2 (bx_t (b_self 2) (H X' h1 h2)))
    refine vR_copySets_5_125_p2 (bx_f (b_ge hi) (bx_f (b_ge hi) ⟨o_in hi, o_in hi, ?_⟩))
    rw [o_ix (by omega), o_s]
    exact ih _ (fun c hc => by rw [up_cell hc]; exact h1 c hc) (cp_s h1 h2 (by decide))
  exact key 0 (by omega) L (fun _ _ => rfl) (fun k hk => absurd hk (Nat.not_lt_zero _))
theorem s_copy_7_127 {I : e_TI} {L : e_TL} {D : e_TD} {sc : e_TS} {Ψ : e_TI → e_TL → e_TD → Prop} (H : ∀ X' : e_TI, (∀ c, c ≠ 127 → X' c = I c) → (∀ k, k < 16 → X' 127 k = I 7 k) → Ψ X' L D) : e_M 21 [.ref 7, .ref 127] (S0 I L D sc) (e_rV sc Ψ) := by
  refine vR_copy_7_127 ?_
  have key : ∀ i, i ≤ 16 → ∀ X' : e_TI, (∀ c, c ≠ 127 → X' c = I c) → (∀ k, k < i → X' 127 k = I 7 k) → e_Wp 21 2 [some (.ref 7), some (.ref 127), some (.int (Int32.ofNat i))] [] (S0 X' L D sc) 0 0 (e_rV sc Ψ) := by
    refine e_downInd 16 (fun i hi ih X' h1 h2 => ?_) (fun X' h1 h2 => vR_copy_7_127_p2 (bx_t (b_self 16) (H X' h1 h2)))
    refine vR_copy_7_127_p2 (bx_f (b_ge hi) (bx_f (b_ge hi) ⟨o_in hi, o_in hi, ?_⟩))
    rw [o_ix (by omega), o_s]
    exact ih _ (fun c hc => by rw [up_cell hc]; exact h1 c hc) (cp_s h1 h2 (by decide))
  exact key 0 (by omega) I (fun _ _ => rfl) (fun k hk => absurd hk (Nat.not_lt_zero _))
theorem s_copy_8_128 {I : e_TI} {L : e_TL} {D : e_TD} {sc : e_TS} {Ψ : e_TI → e_TL → e_TD → Prop} (H : ∀ X' : e_TI, (∀ c, c ≠ 128 → X' c = I c) → (∀ k, k < 16 → X' 128 k = I 8 k) → Ψ X' L D) : e_M 21 [.ref 8, .ref 128] (S0 I L D sc) (e_rV sc Ψ) := by
  refine vR_copy_8_128 ?_
  have key : ∀ i, i ≤ 16 → ∀ X' : e_TI, (∀ c, c ≠ 128 → X' c = I c) → (∀ k, k < i → X' 128 k = I 8 k) → e_Wp 21 2 [some (.ref 8), some (.ref 128), some (.int (Int32.ofNat i))] [] (S0 X' L D sc) 0 0 (e_rV sc Ψ) := by
    refine e_downInd 16 (fun i hi ih X' h1 h2 => ?_) (fun X' h1 h2 => vR_copy_8_128_p2 (bx_t (b_self 16) (H X' h1 h2)))
    refine vR_copy_8_128_p2 (bx_f (b_ge hi) (bx_f (b_ge hi) ⟨o_in hi, o_in hi, ?_⟩))
    rw [o_ix (by omega), o_s]
    exact ih _ (fun c hc => by rw [up_cell hc]; exact h1 c hc) (cp_s h1 h2 (by decide))
  exact key 0 (by omega) I (fun _ _ => rfl) (fun k hk => absurd hk (Nat.not_lt_zero _))
theorem s_copy_9_129 {I : e_TI} {L : e_TL} {D : e_TD} {sc : e_TS} {Ψ : e_TI → e_TL → e_TD → Prop} (H : ∀ X' : e_TI, (∀ c, c ≠ 129 → X' c = I c) → (∀ k, k < 16 → X' 129 k = I 9 k) → Ψ X' L D) : e_M 21 [.ref 9, .ref 129] (S0 I L D sc) (e_rV sc Ψ) := by
  refine vR_copy_9_129 ?_
  have key : ∀ i, i ≤ 16 → ∀ X' : e_TI, (∀ c, c ≠ 129 → X' c = I c) → (∀ k, k < i → X' 129 k = I 9 k) → e_Wp 21 2 [some (.ref 9), some (.ref 129), some (.int (Int32.ofNat i))] [] (S0 X' L D sc) 0 0 (e_rV sc Ψ) := by
    refine e_downInd 16 (fun i hi ih X' h1 h2 => ?_) (fun X' h1 h2 => vR_copy_9_129_p2 (bx_t (b_self 16) (H X' h1 h2)))
    refine vR_copy_9_129_p2 (bx_f (b_ge hi) (bx_f (b_ge hi) ⟨o_in hi, o_in hi, ?_⟩))
    rw [o_ix (by omega), o_s]
    exact ih _ (fun c hc => by rw [up_cell hc]; exact h1 c hc) (cp_s h1 h2 (by decide))
  exact key 0 (by omega) I (fun _ _ => rfl) (fun k hk => absurd hk (Nat.not_lt_zero _))
theorem s_copy_10_130 {I : e_TI} {L : e_TL} {D : e_TD} {sc : e_TS} {Ψ : e_TI → e_TL → e_TD → Prop} (H : ∀ X' : e_TI, (∀ c, c ≠ 130 → X' c = I c) → (∀ k, k < 2 → X' 130 k = I 10 k) → Ψ X' L D) : e_M 21 [.ref 10, .ref 130] (S0 I L D sc) (e_rV sc Ψ) := by
  refine vR_copy_10_130 ?_
  have key : ∀ i, i ≤ 2 → ∀ X' : e_TI, (∀ c, c ≠ 130 → X' c = I c) → (∀ k, k < i → X' 130 k = I 10 k) → e_Wp 21 2 [some (.ref 10), some (.ref 130), some (.int (Int32.ofNat i))] [] (S0 X' L D sc) 0 0 (e_rV sc Ψ) := by
    refine e_downInd 2 (fun i hi ih X' h1 h2 => ?_) (fun X' h1 h2 => vR_copy_10_130_p2 (bx_t (b_self 2) (H X' h1 h2)))
    refine vR_copy_10_130_p2 (bx_f (b_ge hi) (bx_f (b_ge hi) ⟨o_in hi, o_in hi, ?_⟩))
    rw [o_ix (by omega), o_s]
    exact ih _ (fun c hc => by rw [up_cell hc]; exact h1 c hc) (cp_s h1 h2 (by decide))
  exact key 0 (by omega) I (fun _ _ => rfl) (fun k hk => absurd hk (Nat.not_lt_zero _))
theorem s_copy_11_131 {I : e_TI} {L : e_TL} {D : e_TD} {sc : e_TS} {Ψ : e_TI → e_TL → e_TD → Prop} (H : ∀ X' : e_TI, (∀ c, c ≠ 131 → X' c = I c) → (∀ k, k < 2 → X' 131 k = I 11 k) → Ψ X' L D) : e_M 21 [.ref 11, .ref 131] (S0 I L D sc) (e_rV sc Ψ) := by
  refine vR_copy_11_131 ?_
  have key : ∀ i, i ≤ 2 → ∀ X' : e_TI, (∀ c, c ≠ 131 → X' c = I c) → (∀ k, k < i → X' 131 k = I 11 k) → e_Wp 21 2 [some (.ref 11), some (.ref 131), some (.int (Int32.ofNat i))] [] (S0 X' L D sc) 0 0 (e_rV sc Ψ) := by
    refine e_downInd 2 (fun i hi ih X' h1 h2 => ?_) (fun X' h1 h2 => vR_copy_11_131_p2 (bx_t (b_self 2) (H X' h1 h2)))
    refine vR_copy_11_131_p2 (bx_f (b_ge hi) (bx_f (b_ge hi) ⟨o_in hi, o_in hi, ?_⟩))
    rw [o_ix (by omega), o_s]
    exact ih _ (fun c hc => by rw [up_cell hc]; exact h1 c hc) (cp_s h1 h2 (by decide))
  exact key 0 (by omega) I (fun _ _ => rfl) (fun k hk => absurd hk (Nat.not_lt_zero _))
theorem s_copy_12_132 {I : e_TI} {L : e_TL} {D : e_TD} {sc : e_TS} {Ψ : e_TI → e_TL → e_TD → Prop} (H : ∀ X' : e_TI, (∀ c, c ≠ 132 → X' c = I c) → (∀ k, k < 2 → X' 132 k = I 12 k) → Ψ X' L D) : e_M 21 [.ref 12, .ref 132] (S0 I L D sc) (e_rV sc Ψ) := by
  refine vR_copy_12_132 ?_
  have key : ∀ i, i ≤ 2 → ∀ X' : e_TI, (∀ c, c ≠ 132 → X' c = I c) → (∀ k, k < i → X' 132 k = I 12 k) → e_Wp 21 2 [some (.ref 12), some (.ref 132), some (.int (Int32.ofNat i))] [] (S0 X' L D sc) 0 0 (e_rV sc Ψ) := by
    refine e_downInd 2 (fun i hi ih X' h1 h2 => ?_) (fun X' h1 h2 => vR_copy_12_132_p2 (bx_t (b_self 2) (H X' h1 h2)))
    refine vR_copy_12_132_p2 (bx_f (b_ge hi) (bx_f (b_ge hi) ⟨o_in hi, o_in hi, ?_⟩))
    rw [o_ix (by omega), o_s]
    exact ih _ (fun c hc => by rw [up_cell hc]; exact h1 c hc) (cp_s h1 h2 (by decide))
  exact key 0 (by omega) I (fun _ _ => rfl) (fun k hk => absurd hk (Nat.not_lt_zero _))
theorem s_copy_13_133 {I : e_TI} {L : e_TL} {D : e_TD} {sc : e_TS} {Ψ : e_TI → e_TL → e_TD → Prop} (H : ∀ X' : e_TI, (∀ c, c ≠ 133 → X' c = I c) → (∀ k, k < 2 → X' 133 k = I 13 k) → Ψ X' L D) : e_M 21 [.ref 13, .ref 133] (S0 I L D sc) (e_rV sc Ψ) := by
  refine vR_copy_13_133 ?_
  have key : ∀ i, i ≤ 2 → ∀ X' : e_TI, (∀ c, c ≠ 133 → X' c = I c) → (∀ k, k < i → X' 133 k = I 13 k) → e_Wp 21 2 [some (.ref 13), some (.ref 133), some (.int (Int32.ofNat i))] [] (S0 X' L D sc) 0 0 (e_rV sc Ψ) := by
    refine e_downInd 2 (fun i hi ih X' h1 h2 => ?_) (fun X' h1 h2 => vR_copy_13_133_p2 (bx_t (b_self 2) (H X' h1 h2)))
    refine vR_copy_13_133_p2 (bx_f (b_ge hi) (bx_f (b_ge hi) ⟨o_in hi, o_in hi, ?_⟩))
    rw [o_ix (by omega), o_s]
    exact ih _ (fun c hc => by rw [up_cell hc]; exact h1 c hc) (cp_s h1 h2 (by decide))
  exact key 0 (by omega) I (fun _ _ => rfl) (fun k hk => absurd hk (Nat.not_lt_zero _))
theorem s_copyG_122_2 {I : e_TI} {L : e_TL} {D : e_TD} {sc : e_TS} {Ψ : e_TI → e_TL → e_TD → Prop} {g : Nat → Int32} (hm : gMa g ≤ 16) (h : RC 2 I L g) (H : ∀ I' L', Fr 122 134 I L I' L' → RC 122 I' L' g → Ψ I' L' D) : e_M 23 [.ref 122, .ref 2] (S0 I L D sc) (e_rV sc Ψ) := by
  refine vG_copyFrom_122_2 (vLd_copyFrom_123_3 (s_copySets_4_124 (fun L1 l1 l1' => s_copySets_5_125 (fun L2 l2 l2' => vU_copyFrom_126_6 ?_))))
  refine s_copy_7_127 (fun I1 i1 i1' => s_copy_8_128 (fun I2 i2 i2' => s_copy_9_129 (fun I3 i3 i3' => s_copy_10_130 (fun I4 i4 i4' => s_copy_11_131 (fun I5 i5 i5' => s_copy_12_132 (fun I6 i6 i6' => s_copy_13_133 (fun I7 i7 i7' => ?_)))))))
  obtain ⟨hR, hF⟩ := cpG (a := 122) (b := 2) (by decide) l1 l1' l2 l2' i1 i1' i2 i2' i3 i3' i4 i4' i5 i5' i6 i6' i7 i7' hm h
  exact H _ _ hF hR
theorem s_copySets_40_4 {I : e_TI} {L : e_TL} {D : e_TD} {sc : e_TS} {Ψ : e_TI → e_TL → e_TD → Prop} (H : ∀ X' : e_TL, (∀ c, c ≠ 4 → X' c = L c) → (∀ k, k < 6 → X' 4 k = L 40 k) → Ψ I X' D) : e_M 19 [.ref 40, .ref 4] (S0 I L D sc) (e_rV sc Ψ) := by
  refine vR_copySets_40_4 ?_
  have key : ∀ i, i ≤ 6 → ∀ X' : e_TL, (∀ c, c ≠ 4 → X' c = L c) → (∀ k, k < i → X' 4 k = L 40 k) → e_Wp 19 2 [some (.ref 40), some (.ref 4), some (.int (Int32.ofNat i))] [] (S0 I X' D sc) 0 0 (e_rV sc Ψ) := by
    refine e_downInd 6 (fun i hi ih X' h1 h2 => ?_) (fun X' h1 h2 => vR_copySets_40_4_p2 (bx_t (b_self 6) (H X' h1 h2)))
    refine vR_copySets_40_4_p2 (bx_f (b_ge hi) (bx_f (b_ge hi) ⟨o_in hi, o_in hi, ?_⟩))
    rw [o_ix (by omega), o_s]
    exact ih _ (fun c hc => by rw [up_cell hc]; exact h1 c hc) (cp_s h1 h2 (by decide))
  exact key 0 (by omega) L (fun _ _ => rfl) (fun k hk => absurd hk (Nat.not_lt_zero _))
theorem s_copySets_41_5 {I : e_TI} {L : e_TL} {D : e_TD} {sc : e_TS} {Ψ : e_TI → e_TL → e_TD → Prop} (H : ∀ X' : e_TL, (∀ c, c ≠ 5 → X' c = L c) → (∀ k, k < 2 → X' 5 k = L 41 k) → Ψ I X' D) : e_M 19 [.ref 41, .ref 5] (S0 I L D sc) (e_rV sc Ψ) := by
  refine vR_copySets_41_5 ?_
  have key : ∀ i, i ≤ 2 → ∀ X' : e_TL, (∀ c, c ≠ 5 → X' c = L c) → (∀ k, k < i → X' 5 k = L 41 k) → e_Wp 19 2 [some (.ref 41), some (.ref 5), some (.int (Int32.ofNat i))] [] (S0 I X' D sc) 0 0 (e_rV sc Ψ) := by
    refine e_downInd 2 (fun i hi ih X' h1 h2 => ?_) (fun X' h1 h2 => vR_copySets_41_5_p2 (bx_t (b_self 2) (H X' h1 h2)))
    refine vR_copySets_41_5_p2 (bx_f (b_ge hi) (bx_f (b_ge hi) ⟨o_in hi, o_in hi, ?_⟩))
    rw [o_ix (by omega), o_s]
    exact ih _ (fun c hc => by rw [up_cell hc]; exact h1 c hc) (cp_s h1 h2 (by decide))
  exact key 0 (by omega) L (fun _ _ => rfl) (fun k hk => absurd hk (Nat.not_lt_zero _))
theorem s_copy_43_7 {I : e_TI} {L : e_TL} {D : e_TD} {sc : e_TS} {Ψ : e_TI → e_TL → e_TD → Prop} (H : ∀ X' : e_TI, (∀ c, c ≠ 7 → X' c = I c) → (∀ k, k < 16 → X' 7 k = I 43 k) → Ψ X' L D) : e_M 21 [.ref 43, .ref 7] (S0 I L D sc) (e_rV sc Ψ) := by
  refine vR_copy_43_7 ?_
  have key : ∀ i, i ≤ 16 → ∀ X' : e_TI, (∀ c, c ≠ 7 → X' c = I c) → (∀ k, k < i → X' 7 k = I 43 k) → e_Wp 21 2 [some (.ref 43), some (.ref 7), some (.int (Int32.ofNat i))] [] (S0 X' L D sc) 0 0 (e_rV sc Ψ) := by
    refine e_downInd 16 (fun i hi ih X' h1 h2 => ?_) (fun X' h1 h2 => vR_copy_43_7_p2 (bx_t (b_self 16) (H X' h1 h2)))
    refine vR_copy_43_7_p2 (bx_f (b_ge hi) (bx_f (b_ge hi) ⟨o_in hi, o_in hi, ?_⟩))
    rw [o_ix (by omega), o_s]
    exact ih _ (fun c hc => by rw [up_cell hc]; exact h1 c hc) (cp_s h1 h2 (by decide))
  exact key 0 (by omega) I (fun _ _ => rfl) (fun k hk => absurd hk (Nat.not_lt_zero _))
theorem s_copy_44_8 {I : e_TI} {L : e_TL} {D : e_TD} {sc : e_TS} {Ψ : e_TI → e_TL → e_TD → Prop} (H : ∀ X' : e_TI, (∀ c, c ≠ 8 → X' c = I c) → (∀ k, k < 16 → X' 8 k = I 44 k) → Ψ X' L D) : e_M 21 [.ref 44, .ref 8] (S0 I L D sc) (e_rV sc Ψ) := by
  refine vR_copy_44_8 ?_
  have key : ∀ i, i ≤ 16 → ∀ X' : e_TI, (∀ c, c ≠ 8 → X' c = I c) → (∀ k, k < i → X' 8 k = I 44 k) → e_Wp 21 2 [some (.ref 44), some (.ref 8), some (.int (Int32.ofNat i))] [] (S0 X' L D sc) 0 0 (e_rV sc Ψ) := by
    refine e_downInd 16 (fun i hi ih X' h1 h2 => ?_) (fun X' h1 h2 => vR_copy_44_8_p2 (bx_t (b_self 16) (H X' h1 h2)))
    refine vR_copy_44_8_p2 (bx_f (b_ge hi) (bx_f (b_ge hi) ⟨o_in hi, o_in hi, ?_⟩))
    rw [o_ix (by omega), o_s]
    exact ih _ (fun c hc => by rw [up_cell hc]; exact h1 c hc) (cp_s h1 h2 (by decide))
  exact key 0 (by omega) I (fun _ _ => rfl) (fun k hk => absurd hk (Nat.not_lt_zero _))
theorem s_copy_45_9 {I : e_TI} {L : e_TL} {D : e_TD} {sc : e_TS} {Ψ : e_TI → e_TL → e_TD → Prop} (H : ∀ X' : e_TI, (∀ c, c ≠ 9 → X' c = I c) → (∀ k, k < 16 → X' 9 k = I 45 k) → Ψ X' L D) : e_M 21 [.ref 45, .ref 9] (S0 I L D sc) (e_rV sc Ψ) := by
  refine vR_copy_45_9 ?_
  have key : ∀ i, i ≤ 16 → ∀ X' : e_TI, (∀ c, c ≠ 9 → X' c = I c) → (∀ k, k < i → X' 9 k = I 45 k) → e_Wp 21 2 [some (.ref 45), some (.ref 9), some (.int (Int32.ofNat i))] [] (S0 X' L D sc) 0 0 (e_rV sc Ψ) := by
    refine e_downInd 16 (fun i hi ih X' h1 h2 => ?_) (fun X' h1 h2 => vR_copy_45_9_p2 (bx_t (b_self 16) (H X' h1 h2)))
    refine vR_copy_45_9_p2 (bx_f (b_ge hi) (bx_f (b_ge hi) ⟨o_in hi, o_in hi, ?_⟩))
    rw [o_ix (by omega), o_s]
    exact ih _ (fun c hc => by rw [up_cell hc]; exact h1 c hc) (cp_s h1 h2 (by decide))
  exact key 0 (by omega) I (fun _ _ => rfl) (fun k hk => absurd hk (Nat.not_lt_zero _))
theorem s_copy_46_10 {I : e_TI} {L : e_TL} {D : e_TD} {sc : e_TS} {Ψ : e_TI → e_TL → e_TD → Prop} (H : ∀ X' : e_TI, (∀ c, c ≠ 10 → X' c = I c) → (∀ k, k < 2 → X' 10 k = I 46 k) → Ψ X' L D) : e_M 21 [.ref 46, .ref 10] (S0 I L D sc) (e_rV sc Ψ) := by
  refine vR_copy_46_10 ?_
  have key : ∀ i, i ≤ 2 → ∀ X' : e_TI, (∀ c, c ≠ 10 → X' c = I c) → (∀ k, k < i → X' 10 k = I 46 k) → e_Wp 21 2 [some (.ref 46), some (.ref 10), some (.int (Int32.ofNat i))] [] (S0 X' L D sc) 0 0 (e_rV sc Ψ) := by
    refine e_downInd 2 (fun i hi ih X' h1 h2 => ?_) (fun X' h1 h2 => vR_copy_46_10_p2 (bx_t (b_self 2) (H X' h1 h2)))
    refine vR_copy_46_10_p2 (bx_f (b_ge hi) (bx_f (b_ge hi) ⟨o_in hi, o_in hi, ?_⟩))
    rw [o_ix (by omega), o_s]
    exact ih _ (fun c hc => by rw [up_cell hc]; exact h1 c hc) (cp_s h1 h2 (by decide))
  exact key 0 (by omega) I (fun _ _ => rfl) (fun k hk => absurd hk (Nat.not_lt_zero _))
theorem s_copy_47_11 {I : e_TI} {L : e_TL} {D : e_TD} {sc : e_TS} {Ψ : e_TI → e_TL → e_TD → Prop} (H : ∀ X' : e_TI, (∀ c, c ≠ 11 → X' c = I c) → (∀ k, k < 2 → X' 11 k = I 47 k) → Ψ X' L D) : e_M 21 [.ref 47, .ref 11] (S0 I L D sc) (e_rV sc Ψ) := by
  refine vR_copy_47_11 ?_
  have key : ∀ i, i ≤ 2 → ∀ X' : e_TI, (∀ c, c ≠ 11 → X' c = I c) → (∀ k, k < i → X' 11 k = I 47 k) → e_Wp 21 2 [some (.ref 47), some (.ref 11), some (.int (Int32.ofNat i))] [] (S0 X' L D sc) 0 0 (e_rV sc Ψ) := by
    refine e_downInd 2 (fun i hi ih X' h1 h2 => ?_) (fun X' h1 h2 => vR_copy_47_11_p2 (bx_t (b_self 2) (H X' h1 h2)))
    refine vR_copy_47_11_p2 (bx_f (b_ge hi) (bx_f (b_ge hi) ⟨o_in hi, o_in hi, ?_⟩))
    rw [o_ix (by omega), o_s]
    exact ih _ (fun c hc => by rw [up_cell hc]; exact h1 c hc) (cp_s h1 h2 (by decide))
  exact key 0 (by omega) I (fun _ _ => rfl) (fun k hk => absurd hk (Nat.not_lt_zero _))
theorem s_copy_48_12 {I : e_TI} {L : e_TL} {D : e_TD} {sc : e_TS} {Ψ : e_TI → e_TL → e_TD → Prop} (H : ∀ X' : e_TI, (∀ c, c ≠ 12 → X' c = I c) → (∀ k, k < 2 → X' 12 k = I 48 k) → Ψ X' L D) : e_M 21 [.ref 48, .ref 12] (S0 I L D sc) (e_rV sc Ψ) := by
  refine vR_copy_48_12 ?_
  have key : ∀ i, i ≤ 2 → ∀ X' : e_TI, (∀ c, c ≠ 12 → X' c = I c) → (∀ k, k < i → X' 12 k = I 48 k) → e_Wp 21 2 [some (.ref 48), some (.ref 12), some (.int (Int32.ofNat i))] [] (S0 X' L D sc) 0 0 (e_rV sc Ψ) := by
    refine e_downInd 2 (fun i hi ih X' h1 h2 => ?_) (fun X' h1 h2 => vR_copy_48_12_p2 (bx_t (b_self 2) (H X' h1 h2)))
    refine vR_copy_48_12_p2 (bx_f (b_ge hi) (bx_f (b_ge hi) ⟨o_in hi, o_in hi, ?_⟩))
    rw [o_ix (by omega), o_s]
    exact ih _ (fun c hc => by rw [up_cell hc]; exact h1 c hc) (cp_s h1 h2 (by decide))
  exact key 0 (by omega) I (fun _ _ => rfl) (fun k hk => absurd hk (Nat.not_lt_zero _))
theorem s_copy_49_13 {I : e_TI} {L : e_TL} {D : e_TD} {sc : e_TS} {Ψ : e_TI → e_TL → e_TD → Prop} (H : ∀ X' : e_TI, (∀ c, c ≠ 13 → X' c = I c) → (∀ k, k < 2 → X' 13 k = I 49 k) → Ψ X' L D) : e_M 21 [.ref 49, .ref 13] (S0 I L D sc) (e_rV sc Ψ) := by
  refine vR_copy_49_13 ?_
  have key : ∀ i, i ≤ 2 → ∀ X' : e_TI, (∀ c, c ≠ 13 → X' c = I c) → (∀ k, k < i → X' 13 k = I 49 k) → e_Wp 21 2 [some (.ref 49), some (.ref 13), some (.int (Int32.ofNat i))] [] (S0 X' L D sc) 0 0 (e_rV sc Ψ) := by
    refine e_downInd 2 (fun i hi ih X' h1 h2 => ?_) (fun X' h1 h2 => vR_copy_49_13_p2 (bx_t (b_self 2) (H X' h1 h2)))
    refine vR_copy_49_13_p2 (bx_f (b_ge hi) (bx_f (b_ge hi) ⟨o_in hi, o_in hi, ?_⟩))
    rw [o_ix (by omega), o_s]
    exact ih _ (fun c hc => by rw [up_cell hc]; exact h1 c hc) (cp_s h1 h2 (by decide))
  exact key 0 (by omega) I (fun _ _ => rfl) (fun k hk => absurd hk (Nat.not_lt_zero _))
theorem s_copyG_2_38 {I : e_TI} {L : e_TL} {D : e_TD} {sc : e_TS} {Ψ : e_TI → e_TL → e_TD → Prop} {g : Nat → Int32} (hm : gMa g ≤ 16) (h : RC 38 I L g) (H : ∀ I' L', Fr 2 14 I L I' L' → RC 2 I' L' g → Ψ I' L' D) : e_M 23 [.ref 2, .ref 38] (S0 I L D sc) (e_rV sc Ψ) := by
  refine vG_copyFrom_2_38 (vLd_copyFrom_3_39 (s_copySets_40_4 (fun L1 l1 l1' => s_copySets_41_5 (fun L2 l2 l2' => vU_copyFrom_6_42 ?_))))
  refine s_copy_43_7 (fun I1 i1 i1' => s_copy_44_8 (fun I2 i2 i2' => s_copy_45_9 (fun I3 i3 i3' => s_copy_46_10 (fun I4 i4 i4' => s_copy_47_11 (fun I5 i5 i5' => s_copy_48_12 (fun I6 i6 i6' => s_copy_49_13 (fun I7 i7 i7' => ?_)))))))
  obtain ⟨hR, hF⟩ := cpG (a := 2) (b := 38) (by decide) l1 l1' l2 l2' i1 i1' i2 i2' i3 i3' i4 i4' i5 i5' i6 i6' i7 i7' hm h
  exact H _ _ hF hR
theorem s_copySets_52_4 {I : e_TI} {L : e_TL} {D : e_TD} {sc : e_TS} {Ψ : e_TI → e_TL → e_TD → Prop} (H : ∀ X' : e_TL, (∀ c, c ≠ 4 → X' c = L c) → (∀ k, k < 6 → X' 4 k = L 52 k) → Ψ I X' D) : e_M 19 [.ref 52, .ref 4] (S0 I L D sc) (e_rV sc Ψ) := by
  refine vR_copySets_52_4 ?_
  have key : ∀ i, i ≤ 6 → ∀ X' : e_TL, (∀ c, c ≠ 4 → X' c = L c) → (∀ k, k < i → X' 4 k = L 52 k) → e_Wp 19 2 [some (.ref 52), some (.ref 4), some (.int (Int32.ofNat i))] [] (S0 I X' D sc) 0 0 (e_rV sc Ψ) := by
    refine e_downInd 6 (fun i hi ih X' h1 h2 => ?_) (fun X' h1 h2 => vR_copySets_52_4_p2 (bx_t (b_self 6) (H X' h1 h2)))
    refine vR_copySets_52_4_p2 (bx_f (b_ge hi) (bx_f (b_ge hi) ⟨o_in hi, o_in hi, ?_⟩))
    rw [o_ix (by omega), o_s]
    exact ih _ (fun c hc => by rw [up_cell hc]; exact h1 c hc) (cp_s h1 h2 (by decide))
  exact key 0 (by omega) L (fun _ _ => rfl) (fun k hk => absurd hk (Nat.not_lt_zero _))
theorem s_copySets_53_5 {I : e_TI} {L : e_TL} {D : e_TD} {sc : e_TS} {Ψ : e_TI → e_TL → e_TD → Prop} (H : ∀ X' : e_TL, (∀ c, c ≠ 5 → X' c = L c) → (∀ k, k < 2 → X' 5 k = L 53 k) → Ψ I X' D) : e_M 19 [.ref 53, .ref 5] (S0 I L D sc) (e_rV sc Ψ) := by
  refine vR_copySets_53_5 ?_
  have key : ∀ i, i ≤ 2 → ∀ X' : e_TL, (∀ c, c ≠ 5 → X' c = L c) → (∀ k, k < i → X' 5 k = L 53 k) → e_Wp 19 2 [some (.ref 53), some (.ref 5), some (.int (Int32.ofNat i))] [] (S0 I X' D sc) 0 0 (e_rV sc Ψ) := by
    refine e_downInd 2 (fun i hi ih X' h1 h2 => ?_) (fun X' h1 h2 => vR_copySets_53_5_p2 (bx_t (b_self 2) (H X' h1 h2)))
    refine vR_copySets_53_5_p2 (bx_f (b_ge hi) (bx_f (b_ge hi) ⟨o_in hi, o_in hi, ?_⟩))
    rw [o_ix (by omega), o_s]
    exact ih _ (fun c hc => by rw [up_cell hc]; exact h1 c hc) (cp_s h1 h2 (by decide))
  exact key 0 (by omega) L (fun _ _ => rfl) (fun k hk => absurd hk (Nat.not_lt_zero _))
theorem s_copy_55_7 {I : e_TI} {L : e_TL} {D : e_TD} {sc : e_TS} {Ψ : e_TI → e_TL → e_TD → Prop} (H : ∀ X' : e_TI, (∀ c, c ≠ 7 → X' c = I c) → (∀ k, k < 16 → X' 7 k = I 55 k) → Ψ X' L D) : e_M 21 [.ref 55, .ref 7] (S0 I L D sc) (e_rV sc Ψ) := by
  refine vR_copy_55_7 ?_
  have key : ∀ i, i ≤ 16 → ∀ X' : e_TI, (∀ c, c ≠ 7 → X' c = I c) → (∀ k, k < i → X' 7 k = I 55 k) → e_Wp 21 2 [some (.ref 55), some (.ref 7), some (.int (Int32.ofNat i))] [] (S0 X' L D sc) 0 0 (e_rV sc Ψ) := by
    refine e_downInd 16 (fun i hi ih X' h1 h2 => ?_) (fun X' h1 h2 => vR_copy_55_7_p2 (bx_t (b_self 16) (H X' h1 h2)))
    refine vR_copy_55_7_p2 (bx_f (b_ge hi) (bx_f (b_ge hi) ⟨o_in hi, o_in hi, ?_⟩))
    rw [o_ix (by omega), o_s]
    exact ih _ (fun c hc => by rw [up_cell hc]; exact h1 c hc) (cp_s h1 h2 (by decide))
  exact key 0 (by omega) I (fun _ _ => rfl) (fun k hk => absurd hk (Nat.not_lt_zero _))
theorem s_copy_56_8 {I : e_TI} {L : e_TL} {D : e_TD} {sc : e_TS} {Ψ : e_TI → e_TL → e_TD → Prop} (H : ∀ X' : e_TI, (∀ c, c ≠ 8 → X' c = I c) → (∀ k, k < 16 → X' 8 k = I 56 k) → Ψ X' L D) : e_M 21 [.ref 56, .ref 8] (S0 I L D sc) (e_rV sc Ψ) := by
  refine vR_copy_56_8 ?_
  have key : ∀ i, i ≤ 16 → ∀ X' : e_TI, (∀ c, c ≠ 8 → X' c = I c) → (∀ k, k < i → X' 8 k = I 56 k) → e_Wp 21 2 [some (.ref 56), some (.ref 8), some (.int (Int32.ofNat i))] [] (S0 X' L D sc) 0 0 (e_rV sc Ψ) := by
    refine e_downInd 16 (fun i hi ih X' h1 h2 => ?_) (fun X' h1 h2 => vR_copy_56_8_p2 (bx_t (b_self 16) (H X' h1 h2)))
    refine vR_copy_56_8_p2 (bx_f (b_ge hi) (bx_f (b_ge hi) ⟨o_in hi, o_in hi, ?_⟩))
    rw [o_ix (by omega), o_s]
    exact ih _ (fun c hc => by rw [up_cell hc]; exact h1 c hc) (cp_s h1 h2 (by decide))
  exact key 0 (by omega) I (fun _ _ => rfl) (fun k hk => absurd hk (Nat.not_lt_zero _))
theorem s_copy_57_9 {I : e_TI} {L : e_TL} {D : e_TD} {sc : e_TS} {Ψ : e_TI → e_TL → e_TD → Prop} (H : ∀ X' : e_TI, (∀ c, c ≠ 9 → X' c = I c) → (∀ k, k < 16 → X' 9 k = I 57 k) → Ψ X' L D) : e_M 21 [.ref 57, .ref 9] (S0 I L D sc) (e_rV sc Ψ) := by
  refine vR_copy_57_9 ?_
  have key : ∀ i, i ≤ 16 → ∀ X' : e_TI, (∀ c, c ≠ 9 → X' c = I c) → (∀ k, k < i → X' 9 k = I 57 k) → e_Wp 21 2 [some (.ref 57), some (.ref 9), some (.int (Int32.ofNat i))] [] (S0 X' L D sc) 0 0 (e_rV sc Ψ) := by
    refine e_downInd 16 (fun i hi ih X' h1 h2 => ?_) (fun X' h1 h2 => vR_copy_57_9_p2 (bx_t (b_self 16) (H X' h1 h2)))
    refine vR_copy_57_9_p2 (bx_f (b_ge hi) (bx_f (b_ge hi) ⟨o_in hi, o_in hi, ?_⟩))
    rw [o_ix (by omega), o_s]
    exact ih _ (fun c hc => by rw [up_cell hc]; exact h1 c hc) (cp_s h1 h2 (by decide))
  exact key 0 (by omega) I (fun _ _ => rfl) (fun k hk => absurd hk (Nat.not_lt_zero _))
theorem s_copy_58_10 {I : e_TI} {L : e_TL} {D : e_TD} {sc : e_TS} {Ψ : e_TI → e_TL → e_TD → Prop} (H : ∀ X' : e_TI, (∀ c, c ≠ 10 → X' c = I c) → (∀ k, k < 2 → X' 10 k = I 58 k) → Ψ X' L D) : e_M 21 [.ref 58, .ref 10] (S0 I L D sc) (e_rV sc Ψ) := by
  refine vR_copy_58_10 ?_
  have key : ∀ i, i ≤ 2 → ∀ X' : e_TI, (∀ c, c ≠ 10 → X' c = I c) → (∀ k, k < i → X' 10 k = I 58 k) → e_Wp 21 2 [some (.ref 58), some (.ref 10), some (.int (Int32.ofNat i))] [] (S0 X' L D sc) 0 0 (e_rV sc Ψ) := by
    refine e_downInd 2 (fun i hi ih X' h1 h2 => ?_) (fun X' h1 h2 => vR_copy_58_10_p2 (bx_t (b_self 2) (H X' h1 h2)))
    refine vR_copy_58_10_p2 (bx_f (b_ge hi) (bx_f (b_ge hi) ⟨o_in hi, o_in hi, ?_⟩))
    rw [o_ix (by omega), o_s]
    exact ih _ (fun c hc => by rw [up_cell hc]; exact h1 c hc) (cp_s h1 h2 (by decide))
  exact key 0 (by omega) I (fun _ _ => rfl) (fun k hk => absurd hk (Nat.not_lt_zero _))
theorem s_copy_59_11 {I : e_TI} {L : e_TL} {D : e_TD} {sc : e_TS} {Ψ : e_TI → e_TL → e_TD → Prop} (H : ∀ X' : e_TI, (∀ c, c ≠ 11 → X' c = I c) → (∀ k, k < 2 → X' 11 k = I 59 k) → Ψ X' L D) : e_M 21 [.ref 59, .ref 11] (S0 I L D sc) (e_rV sc Ψ) := by
  refine vR_copy_59_11 ?_
  have key : ∀ i, i ≤ 2 → ∀ X' : e_TI, (∀ c, c ≠ 11 → X' c = I c) → (∀ k, k < i → X' 11 k = I 59 k) → e_Wp 21 2 [some (.ref 59), some (.ref 11), some (.int (Int32.ofNat i))] [] (S0 X' L D sc) 0 0 (e_rV sc Ψ) := by
    refine e_downInd 2 (fun i hi ih X' h1 h2 => ?_) (fun X' h1 h2 => vR_copy_59_11_p2 (bx_t (b_self 2) (H X' h1 h2)))
    refine vR_copy_59_11_p2 (bx_f (b_ge hi) (bx_f (b_ge hi) ⟨o_in hi, o_in hi, ?_⟩))
    rw [o_ix (by omega), o_s]
    exact ih _ (fun c hc => by rw [up_cell hc]; exact h1 c hc) (cp_s h1 h2 (by decide))
  exact key 0 (by omega) I (fun _ _ => rfl) (fun k hk => absurd hk (Nat.not_lt_zero _))
theorem s_copy_60_12 {I : e_TI} {L : e_TL} {D : e_TD} {sc : e_TS} {Ψ : e_TI → e_TL → e_TD → Prop} (H : ∀ X' : e_TI, (∀ c, c ≠ 12 → X' c = I c) → (∀ k, k < 2 → X' 12 k = I 60 k) → Ψ X' L D) : e_M 21 [.ref 60, .ref 12] (S0 I L D sc) (e_rV sc Ψ) := by
  refine vR_copy_60_12 ?_
  have key : ∀ i, i ≤ 2 → ∀ X' : e_TI, (∀ c, c ≠ 12 → X' c = I c) → (∀ k, k < i → X' 12 k = I 60 k) → e_Wp 21 2 [some (.ref 60), some (.ref 12), some (.int (Int32.ofNat i))] [] (S0 X' L D sc) 0 0 (e_rV sc Ψ) := by
    refine e_downInd 2 (fun i hi ih X' h1 h2 => ?_) (fun X' h1 h2 => vR_copy_60_12_p2 (bx_t (b_self 2) (H X' h1 h2)))
    refine vR_copy_60_12_p2 (bx_f (b_ge hi) (bx_f (b_ge hi) ⟨o_in hi, o_in hi, ?_⟩))
    rw [o_ix (by omega), o_s]
    exact ih _ (fun c hc => by rw [up_cell hc]; exact h1 c hc) (cp_s h1 h2 (by decide))
  exact key 0 (by omega) I (fun _ _ => rfl) (fun k hk => absurd hk (Nat.not_lt_zero _))
theorem s_copy_61_13 {I : e_TI} {L : e_TL} {D : e_TD} {sc : e_TS} {Ψ : e_TI → e_TL → e_TD → Prop} (H : ∀ X' : e_TI, (∀ c, c ≠ 13 → X' c = I c) → (∀ k, k < 2 → X' 13 k = I 61 k) → Ψ X' L D) : e_M 21 [.ref 61, .ref 13] (S0 I L D sc) (e_rV sc Ψ) := by
  refine vR_copy_61_13 ?_
  have key : ∀ i, i ≤ 2 → ∀ X' : e_TI, (∀ c, c ≠ 13 → X' c = I c) → (∀ k, k < i → X' 13 k = I 61 k) → e_Wp 21 2 [some (.ref 61), some (.ref 13), some (.int (Int32.ofNat i))] [] (S0 X' L D sc) 0 0 (e_rV sc Ψ) := by
    refine e_downInd 2 (fun i hi ih X' h1 h2 => ?_) (fun X' h1 h2 => vR_copy_61_13_p2 (bx_t (b_self 2) (H X' h1 h2)))
    refine vR_copy_61_13_p2 (bx_f (b_ge hi) (bx_f (b_ge hi) ⟨o_in hi, o_in hi, ?_⟩))
    rw [o_ix (by omega), o_s]
    exact ih _ (fun c hc => by rw [up_cell hc]; exact h1 c hc) (cp_s h1 h2 (by decide))
  exact key 0 (by omega) I (fun _ _ => rfl) (fun k hk => absurd hk (Nat.not_lt_zero _))
theorem s_copyG_2_50 {I : e_TI} {L : e_TL} {D : e_TD} {sc : e_TS} {Ψ : e_TI → e_TL → e_TD → Prop} {g : Nat → Int32} (hm : gMa g ≤ 16) (h : RC 50 I L g) (H : ∀ I' L', Fr 2 14 I L I' L' → RC 2 I' L' g → Ψ I' L' D) : e_M 23 [.ref 2, .ref 50] (S0 I L D sc) (e_rV sc Ψ) := by
  refine vG_copyFrom_2_50 (vLd_copyFrom_3_51 (s_copySets_52_4 (fun L1 l1 l1' => s_copySets_53_5 (fun L2 l2 l2' => vU_copyFrom_6_54 ?_))))
  refine s_copy_55_7 (fun I1 i1 i1' => s_copy_56_8 (fun I2 i2 i2' => s_copy_57_9 (fun I3 i3 i3' => s_copy_58_10 (fun I4 i4 i4' => s_copy_59_11 (fun I5 i5 i5' => s_copy_60_12 (fun I6 i6 i6' => s_copy_61_13 (fun I7 i7 i7' => ?_)))))))
  obtain ⟨hR, hF⟩ := cpG (a := 2) (b := 50) (by decide) l1 l1' l2 l2' i1 i1' i2 i2' i3 i3' i4 i4' i5 i5' i6 i6' i7 i7' hm h
  exact H _ _ hF hR
theorem s_copySets_64_4 {I : e_TI} {L : e_TL} {D : e_TD} {sc : e_TS} {Ψ : e_TI → e_TL → e_TD → Prop} (H : ∀ X' : e_TL, (∀ c, c ≠ 4 → X' c = L c) → (∀ k, k < 6 → X' 4 k = L 64 k) → Ψ I X' D) : e_M 19 [.ref 64, .ref 4] (S0 I L D sc) (e_rV sc Ψ) := by
  refine vR_copySets_64_4 ?_
  have key : ∀ i, i ≤ 6 → ∀ X' : e_TL, (∀ c, c ≠ 4 → X' c = L c) → (∀ k, k < i → X' 4 k = L 64 k) → e_Wp 19 2 [some (.ref 64), some (.ref 4), some (.int (Int32.ofNat i))] [] (S0 I X' D sc) 0 0 (e_rV sc Ψ) := by
    refine e_downInd 6 (fun i hi ih X' h1 h2 => ?_) (fun X' h1 h2 => vR_copySets_64_4_p2 (bx_t (b_self 6) (H X' h1 h2)))
    refine vR_copySets_64_4_p2 (bx_f (b_ge hi) (bx_f (b_ge hi) ⟨o_in hi, o_in hi, ?_⟩))
    rw [o_ix (by omega), o_s]
    exact ih _ (fun c hc => by rw [up_cell hc]; exact h1 c hc) (cp_s h1 h2 (by decide))
  exact key 0 (by omega) L (fun _ _ => rfl) (fun k hk => absurd hk (Nat.not_lt_zero _))
theorem s_copySets_65_5 {I : e_TI} {L : e_TL} {D : e_TD} {sc : e_TS} {Ψ : e_TI → e_TL → e_TD → Prop} (H : ∀ X' : e_TL, (∀ c, c ≠ 5 → X' c = L c) → (∀ k, k < 2 → X' 5 k = L 65 k) → Ψ I X' D) : e_M 19 [.ref 65, .ref 5] (S0 I L D sc) (e_rV sc Ψ) := by
  refine vR_copySets_65_5 ?_
  have key : ∀ i, i ≤ 2 → ∀ X' : e_TL, (∀ c, c ≠ 5 → X' c = L c) → (∀ k, k < i → X' 5 k = L 65 k) → e_Wp 19 2 [some (.ref 65), some (.ref 5), some (.int (Int32.ofNat i))] [] (S0 I X' D sc) 0 0 (e_rV sc Ψ) := by
    refine e_downInd 2 (fun i hi ih X' h1 h2 => ?_) (fun X' h1 h2 => vR_copySets_65_5_p2 (bx_t (b_self 2) (H X' h1 h2)))
    refine vR_copySets_65_5_p2 (bx_f (b_ge hi) (bx_f (b_ge hi) ⟨o_in hi, o_in hi, ?_⟩))
    rw [o_ix (by omega), o_s]
    exact ih _ (fun c hc => by rw [up_cell hc]; exact h1 c hc) (cp_s h1 h2 (by decide))
  exact key 0 (by omega) L (fun _ _ => rfl) (fun k hk => absurd hk (Nat.not_lt_zero _))
theorem s_copy_67_7 {I : e_TI} {L : e_TL} {D : e_TD} {sc : e_TS} {Ψ : e_TI → e_TL → e_TD → Prop} (H : ∀ X' : e_TI, (∀ c, c ≠ 7 → X' c = I c) → (∀ k, k < 16 → X' 7 k = I 67 k) → Ψ X' L D) : e_M 21 [.ref 67, .ref 7] (S0 I L D sc) (e_rV sc Ψ) := by
  refine vR_copy_67_7 ?_
  have key : ∀ i, i ≤ 16 → ∀ X' : e_TI, (∀ c, c ≠ 7 → X' c = I c) → (∀ k, k < i → X' 7 k = I 67 k) → e_Wp 21 2 [some (.ref 67), some (.ref 7), some (.int (Int32.ofNat i))] [] (S0 X' L D sc) 0 0 (e_rV sc Ψ) := by
    refine e_downInd 16 (fun i hi ih X' h1 h2 => ?_) (fun X' h1 h2 => vR_copy_67_7_p2 (bx_t (b_self 16) (H X' h1 h2)))
    refine vR_copy_67_7_p2 (bx_f (b_ge hi) (bx_f (b_ge hi) ⟨o_in hi, o_in hi, ?_⟩))
    rw [o_ix (by omega), o_s]
    exact ih _ (fun c hc => by rw [up_cell hc]; exact h1 c hc) (cp_s h1 h2 (by decide))
  exact key 0 (by omega) I (fun _ _ => rfl) (fun k hk => absurd hk (Nat.not_lt_zero _))
theorem s_copy_68_8 {I : e_TI} {L : e_TL} {D : e_TD} {sc : e_TS} {Ψ : e_TI → e_TL → e_TD → Prop} (H : ∀ X' : e_TI, (∀ c, c ≠ 8 → X' c = I c) → (∀ k, k < 16 → X' 8 k = I 68 k) → Ψ X' L D) : e_M 21 [.ref 68, .ref 8] (S0 I L D sc) (e_rV sc Ψ) := by
  refine vR_copy_68_8 ?_
  have key : ∀ i, i ≤ 16 → ∀ X' : e_TI, (∀ c, c ≠ 8 → X' c = I c) → (∀ k, k < i → X' 8 k = I 68 k) → e_Wp 21 2 [some (.ref 68), some (.ref 8), some (.int (Int32.ofNat i))] [] (S0 X' L D sc) 0 0 (e_rV sc Ψ) := by
    refine e_downInd 16 (fun i hi ih X' h1 h2 => ?_) (fun X' h1 h2 => vR_copy_68_8_p2 (bx_t (b_self 16) (H X' h1 h2)))
    refine vR_copy_68_8_p2 (bx_f (b_ge hi) (bx_f (b_ge hi) ⟨o_in hi, o_in hi, ?_⟩))
    rw [o_ix (by omega), o_s]
    exact ih _ (fun c hc => by rw [up_cell hc]; exact h1 c hc) (cp_s h1 h2 (by decide))
  exact key 0 (by omega) I (fun _ _ => rfl) (fun k hk => absurd hk (Nat.not_lt_zero _))
theorem s_copy_69_9 {I : e_TI} {L : e_TL} {D : e_TD} {sc : e_TS} {Ψ : e_TI → e_TL → e_TD → Prop} (H : ∀ X' : e_TI, (∀ c, c ≠ 9 → X' c = I c) → (∀ k, k < 16 → X' 9 k = I 69 k) → Ψ X' L D) : e_M 21 [.ref 69, .ref 9] (S0 I L D sc) (e_rV sc Ψ) := by
  refine vR_copy_69_9 ?_
  have key : ∀ i, i ≤ 16 → ∀ X' : e_TI, (∀ c, c ≠ 9 → X' c = I c) → (∀ k, k < i → X' 9 k = I 69 k) → e_Wp 21 2 [some (.ref 69), some (.ref 9), some (.int (Int32.ofNat i))] [] (S0 X' L D sc) 0 0 (e_rV sc Ψ) := by
    refine e_downInd 16 (fun i hi ih X' h1 h2 => ?_) (fun X' h1 h2 => vR_copy_69_9_p2 (bx_t (b_self 16) (H X' h1 h2)))
    refine vR_copy_69_9_p2 (bx_f (b_ge hi) (bx_f (b_ge hi) ⟨o_in hi, o_in hi, ?_⟩))
    rw [o_ix (by omega), o_s]
    exact ih _ (fun c hc => by rw [up_cell hc]; exact h1 c hc) (cp_s h1 h2 (by decide))
  exact key 0 (by omega) I (fun _ _ => rfl) (fun k hk => absurd hk (Nat.not_lt_zero _))
theorem s_copy_70_10 {I : e_TI} {L : e_TL} {D : e_TD} {sc : e_TS} {Ψ : e_TI → e_TL → e_TD → Prop} (H : ∀ X' : e_TI, (∀ c, c ≠ 10 → X' c = I c) → (∀ k, k < 2 → X' 10 k = I 70 k) → Ψ X' L D) : e_M 21 [.ref 70, .ref 10] (S0 I L D sc) (e_rV sc Ψ) := by
  refine vR_copy_70_10 ?_
  have key : ∀ i, i ≤ 2 → ∀ X' : e_TI, (∀ c, c ≠ 10 → X' c = I c) → (∀ k, k < i → X' 10 k = I 70 k) → e_Wp 21 2 [some (.ref 70), some (.ref 10), some (.int (Int32.ofNat i))] [] (S0 X' L D sc) 0 0 (e_rV sc Ψ) := by
    refine e_downInd 2 (fun i hi ih X' h1 h2 => ?_) (fun X' h1 h2 => vR_copy_70_10_p2 (bx_t (b_self 2) (H X' h1 h2)))
    refine vR_copy_70_10_p2 (bx_f (b_ge hi) (bx_f (b_ge hi) ⟨o_in hi, o_in hi, ?_⟩))
    rw [o_ix (by omega), o_s]
    exact ih _ (fun c hc => by rw [up_cell hc]; exact h1 c hc) (cp_s h1 h2 (by decide))
  exact key 0 (by omega) I (fun _ _ => rfl) (fun k hk => absurd hk (Nat.not_lt_zero _))
theorem s_copy_71_11 {I : e_TI} {L : e_TL} {D : e_TD} {sc : e_TS} {Ψ : e_TI → e_TL → e_TD → Prop} (H : ∀ X' : e_TI, (∀ c, c ≠ 11 → X' c = I c) → (∀ k, k < 2 → X' 11 k = I 71 k) → Ψ X' L D) : e_M 21 [.ref 71, .ref 11] (S0 I L D sc) (e_rV sc Ψ) := by
  refine vR_copy_71_11 ?_
  have key : ∀ i, i ≤ 2 → ∀ X' : e_TI, (∀ c, c ≠ 11 → X' c = I c) → (∀ k, k < i → X' 11 k = I 71 k) → e_Wp 21 2 [some (.ref 71), some (.ref 11), some (.int (Int32.ofNat i))] [] (S0 X' L D sc) 0 0 (e_rV sc Ψ) := by
    refine e_downInd 2 (fun i hi ih X' h1 h2 => ?_) (fun X' h1 h2 => vR_copy_71_11_p2 (bx_t (b_self 2) (H X' h1 h2)))
    refine vR_copy_71_11_p2 (bx_f (b_ge hi) (bx_f (b_ge hi) ⟨o_in hi, o_in hi, ?_⟩))
    rw [o_ix (by omega), o_s]
    exact ih _ (fun c hc => by rw [up_cell hc]; exact h1 c hc) (cp_s h1 h2 (by decide))
  exact key 0 (by omega) I (fun _ _ => rfl) (fun k hk => absurd hk (Nat.not_lt_zero _))
theorem s_copy_72_12 {I : e_TI} {L : e_TL} {D : e_TD} {sc : e_TS} {Ψ : e_TI → e_TL → e_TD → Prop} (H : ∀ X' : e_TI, (∀ c, c ≠ 12 → X' c = I c) → (∀ k, k < 2 → X' 12 k = I 72 k) → Ψ X' L D) : e_M 21 [.ref 72, .ref 12] (S0 I L D sc) (e_rV sc Ψ) := by
  refine vR_copy_72_12 ?_
  have key : ∀ i, i ≤ 2 → ∀ X' : e_TI, (∀ c, c ≠ 12 → X' c = I c) → (∀ k, k < i → X' 12 k = I 72 k) → e_Wp 21 2 [some (.ref 72), some (.ref 12), some (.int (Int32.ofNat i))] [] (S0 X' L D sc) 0 0 (e_rV sc Ψ) := by
    refine e_downInd 2 (fun i hi ih X' h1 h2 => ?_) (fun X' h1 h2 => vR_copy_72_12_p2 (bx_t (b_self 2) (H X' h1 h2)))
    refine vR_copy_72_12_p2 (bx_f (b_ge hi) (bx_f (b_ge hi) ⟨o_in hi, o_in hi, ?_⟩))
    rw [o_ix (by omega), o_s]
    exact ih _ (fun c hc => by rw [up_cell hc]; exact h1 c hc) (cp_s h1 h2 (by decide))
  exact key 0 (by omega) I (fun _ _ => rfl) (fun k hk => absurd hk (Nat.not_lt_zero _))
theorem s_copy_73_13 {I : e_TI} {L : e_TL} {D : e_TD} {sc : e_TS} {Ψ : e_TI → e_TL → e_TD → Prop} (H : ∀ X' : e_TI, (∀ c, c ≠ 13 → X' c = I c) → (∀ k, k < 2 → X' 13 k = I 73 k) → Ψ X' L D) : e_M 21 [.ref 73, .ref 13] (S0 I L D sc) (e_rV sc Ψ) := by
  refine vR_copy_73_13 ?_
  have key : ∀ i, i ≤ 2 → ∀ X' : e_TI, (∀ c, c ≠ 13 → X' c = I c) → (∀ k, k < i → X' 13 k = I 73 k) → e_Wp 21 2 [some (.ref 73), some (.ref 13), some (.int (Int32.ofNat i))] [] (S0 X' L D sc) 0 0 (e_rV sc Ψ) := by
    refine e_downInd 2 (fun i hi ih X' h1 h2 => ?_) (fun X' h1 h2 => vR_copy_73_13_p2 (bx_t (b_self 2) (H X' h1 h2)))
    refine vR_copy_73_13_p2 (bx_f (b_ge hi) (bx_f (b_ge hi) ⟨o_in hi, o_in hi, ?_⟩))
    rw [o_ix (by omega), o_s]
    exact ih _ (fun c hc => by rw [up_cell hc]; exact h1 c hc) (cp_s h1 h2 (by decide))
  exact key 0 (by omega) I (fun _ _ => rfl) (fun k hk => absurd hk (Nat.not_lt_zero _))
theorem s_copyG_2_62 {I : e_TI} {L : e_TL} {D : e_TD} {sc : e_TS} {Ψ : e_TI → e_TL → e_TD → Prop} {g : Nat → Int32} (hm : gMa g ≤ 16) (h : RC 62 I L g) (H : ∀ I' L', Fr 2 14 I L I' L' → RC 2 I' L' g → Ψ I' L' D) : e_M 23 [.ref 2, .ref 62] (S0 I L D sc) (e_rV sc Ψ) := by
  refine vG_copyFrom_2_62 (vLd_copyFrom_3_63 (s_copySets_64_4 (fun L1 l1 l1' => s_copySets_65_5 (fun L2 l2 l2' => vU_copyFrom_6_66 ?_))))
  refine s_copy_67_7 (fun I1 i1 i1' => s_copy_68_8 (fun I2 i2 i2' => s_copy_69_9 (fun I3 i3 i3' => s_copy_70_10 (fun I4 i4 i4' => s_copy_71_11 (fun I5 i5 i5' => s_copy_72_12 (fun I6 i6 i6' => s_copy_73_13 (fun I7 i7 i7' => ?_)))))))
  obtain ⟨hR, hF⟩ := cpG (a := 2) (b := 62) (by decide) l1 l1' l2 l2' i1 i1' i2 i2' i3 i3' i4 i4' i5 i5' i6 i6' i7 i7' hm h
  exact H _ _ hF hR
theorem s_copySets_76_4 {I : e_TI} {L : e_TL} {D : e_TD} {sc : e_TS} {Ψ : e_TI → e_TL → e_TD → Prop} (H : ∀ X' : e_TL, (∀ c, c ≠ 4 → X' c = L c) → (∀ k, k < 6 → X' 4 k = L 76 k) → Ψ I X' D) : e_M 19 [.ref 76, .ref 4] (S0 I L D sc) (e_rV sc Ψ) := by
  refine vR_copySets_76_4 ?_
  have key : ∀ i, i ≤ 6 → ∀ X' : e_TL, (∀ c, c ≠ 4 → X' c = L c) → (∀ k, k < i → X' 4 k = L 76 k) → e_Wp 19 2 [some (.ref 76), some (.ref 4), some (.int (Int32.ofNat i))] [] (S0 I X' D sc) 0 0 (e_rV sc Ψ) := by
    refine e_downInd 6 (fun i hi ih X' h1 h2 => ?_) (fun X' h1 h2 => vR_copySets_76_4_p2 (bx_t (b_self 6) (H X' h1 h2)))
    refine vR_copySets_76_4_p2 (bx_f (b_ge hi) (bx_f (b_ge hi) ⟨o_in hi, o_in hi, ?_⟩))
    rw [o_ix (by omega), o_s]
    exact ih _ (fun c hc => by rw [up_cell hc]; exact h1 c hc) (cp_s h1 h2 (by decide))
  exact key 0 (by omega) L (fun _ _ => rfl) (fun k hk => absurd hk (Nat.not_lt_zero _))
theorem s_copySets_77_5 {I : e_TI} {L : e_TL} {D : e_TD} {sc : e_TS} {Ψ : e_TI → e_TL → e_TD → Prop} (H : ∀ X' : e_TL, (∀ c, c ≠ 5 → X' c = L c) → (∀ k, k < 2 → X' 5 k = L 77 k) → Ψ I X' D) : e_M 19 [.ref 77, .ref 5] (S0 I L D sc) (e_rV sc Ψ) := by
  refine vR_copySets_77_5 ?_
  have key : ∀ i, i ≤ 2 → ∀ X' : e_TL, (∀ c, c ≠ 5 → X' c = L c) → (∀ k, k < i → X' 5 k = L 77 k) → e_Wp 19 2 [some (.ref 77), some (.ref 5), some (.int (Int32.ofNat i))] [] (S0 I X' D sc) 0 0 (e_rV sc Ψ) := by
    refine e_downInd 2 (fun i hi ih X' h1 h2 => ?_) (fun X' h1 h2 => vR_copySets_77_5_p2 (bx_t (b_self 2) (H X' h1 h2)))
    refine vR_copySets_77_5_p2 (bx_f (b_ge hi) (bx_f (b_ge hi) ⟨o_in hi, o_in hi, ?_⟩))
    rw [o_ix (by omega), o_s]
    exact ih _ (fun c hc => by rw [up_cell hc]; exact h1 c hc) (cp_s h1 h2 (by decide))
  exact key 0 (by omega) L (fun _ _ => rfl) (fun k hk => absurd hk (Nat.not_lt_zero _))
theorem s_copy_79_7 {I : e_TI} {L : e_TL} {D : e_TD} {sc : e_TS} {Ψ : e_TI → e_TL → e_TD → Prop} (H : ∀ X' : e_TI, (∀ c, c ≠ 7 → X' c = I c) → (∀ k, k < 16 → X' 7 k = I 79 k) → Ψ X' L D) : e_M 21 [.ref 79, .ref 7] (S0 I L D sc) (e_rV sc Ψ) := by
  refine vR_copy_79_7 ?_
  have key : ∀ i, i ≤ 16 → ∀ X' : e_TI, (∀ c, c ≠ 7 → X' c = I c) → (∀ k, k < i → X' 7 k = I 79 k) → e_Wp 21 2 [some (.ref 79), some (.ref 7), some (.int (Int32.ofNat i))] [] (S0 X' L D sc) 0 0 (e_rV sc Ψ) := by
    refine e_downInd 16 (fun i hi ih X' h1 h2 => ?_) (fun X' h1 h2 => vR_copy_79_7_p2 (bx_t (b_self 16) (H X' h1 h2)))
    refine vR_copy_79_7_p2 (bx_f (b_ge hi) (bx_f (b_ge hi) ⟨o_in hi, o_in hi, ?_⟩))
    rw [o_ix (by omega), o_s]
    exact ih _ (fun c hc => by rw [up_cell hc]; exact h1 c hc) (cp_s h1 h2 (by decide))
  exact key 0 (by omega) I (fun _ _ => rfl) (fun k hk => absurd hk (Nat.not_lt_zero _))
theorem s_copy_80_8 {I : e_TI} {L : e_TL} {D : e_TD} {sc : e_TS} {Ψ : e_TI → e_TL → e_TD → Prop} (H : ∀ X' : e_TI, (∀ c, c ≠ 8 → X' c = I c) → (∀ k, k < 16 → X' 8 k = I 80 k) → Ψ X' L D) : e_M 21 [.ref 80, .ref 8] (S0 I L D sc) (e_rV sc Ψ) := by
  refine vR_copy_80_8 ?_
  have key : ∀ i, i ≤ 16 → ∀ X' : e_TI, (∀ c, c ≠ 8 → X' c = I c) → (∀ k, k < i → X' 8 k = I 80 k) → e_Wp 21 2 [some (.ref 80), some (.ref 8), some (.int (Int32.ofNat i))] [] (S0 X' L D sc) 0 0 (e_rV sc Ψ) := by
    refine e_downInd 16 (fun i hi ih X' h1 h2 => ?_) (fun X' h1 h2 => vR_copy_80_8_p2 (bx_t (b_self 16) (H X' h1 h2)))
    refine vR_copy_80_8_p2 (bx_f (b_ge hi) (bx_f (b_ge hi) ⟨o_in hi, o_in hi, ?_⟩))
    rw [o_ix (by omega), o_s]
    exact ih _ (fun c hc => by rw [up_cell hc]; exact h1 c hc) (cp_s h1 h2 (by decide))
  exact key 0 (by omega) I (fun _ _ => rfl) (fun k hk => absurd hk (Nat.not_lt_zero _))
theorem s_copy_81_9 {I : e_TI} {L : e_TL} {D : e_TD} {sc : e_TS} {Ψ : e_TI → e_TL → e_TD → Prop} (H : ∀ X' : e_TI, (∀ c, c ≠ 9 → X' c = I c) → (∀ k, k < 16 → X' 9 k = I 81 k) → Ψ X' L D) : e_M 21 [.ref 81, .ref 9] (S0 I L D sc) (e_rV sc Ψ) := by
  refine vR_copy_81_9 ?_
  have key : ∀ i, i ≤ 16 → ∀ X' : e_TI, (∀ c, c ≠ 9 → X' c = I c) → (∀ k, k < i → X' 9 k = I 81 k) → e_Wp 21 2 [some (.ref 81), some (.ref 9), some (.int (Int32.ofNat i))] [] (S0 X' L D sc) 0 0 (e_rV sc Ψ) := by
    refine e_downInd 16 (fun i hi ih X' h1 h2 => ?_) (fun X' h1 h2 => vR_copy_81_9_p2 (bx_t (b_self 16) (H X' h1 h2)))
    refine vR_copy_81_9_p2 (bx_f (b_ge hi) (bx_f (b_ge hi) ⟨o_in hi, o_in hi, ?_⟩))
    rw [o_ix (by omega), o_s]
    exact ih _ (fun c hc => by rw [up_cell hc]; exact h1 c hc) (cp_s h1 h2 (by decide))
  exact key 0 (by omega) I (fun _ _ => rfl) (fun k hk => absurd hk (Nat.not_lt_zero _))
theorem s_copy_82_10 {I : e_TI} {L : e_TL} {D : e_TD} {sc : e_TS} {Ψ : e_TI → e_TL → e_TD → Prop} (H : ∀ X' : e_TI, (∀ c, c ≠ 10 → X' c = I c) → (∀ k, k < 2 → X' 10 k = I 82 k) → Ψ X' L D) : e_M 21 [.ref 82, .ref 10] (S0 I L D sc) (e_rV sc Ψ) := by
  refine vR_copy_82_10 ?_
  have key : ∀ i, i ≤ 2 → ∀ X' : e_TI, (∀ c, c ≠ 10 → X' c = I c) → (∀ k, k < i → X' 10 k = I 82 k) → e_Wp 21 2 [some (.ref 82), some (.ref 10), some (.int (Int32.ofNat i))] [] (S0 X' L D sc) 0 0 (e_rV sc Ψ) := by
    refine e_downInd 2 (fun i hi ih X' h1 h2 => ?_) (fun X' h1 h2 => vR_copy_82_10_p2 (bx_t (b_self 2) (H X' h1 h2)))
    refine vR_copy_82_10_p2 (bx_f (b_ge hi) (bx_f (b_ge hi) ⟨o_in hi, o_in hi, ?_⟩))
    rw [o_ix (by omega), o_s]
    exact ih _ (fun c hc => by rw [up_cell hc]; exact h1 c hc) (cp_s h1 h2 (by decide))
  exact key 0 (by omega) I (fun _ _ => rfl) (fun k hk => absurd hk (Nat.not_lt_zero _))
theorem s_copy_83_11 {I : e_TI} {L : e_TL} {D : e_TD} {sc : e_TS} {Ψ : e_TI → e_TL → e_TD → Prop} (H : ∀ X' : e_TI, (∀ c, c ≠ 11 → X' c = I c) → (∀ k, k < 2 → X' 11 k = I 83 k) → Ψ X' L D) : e_M 21 [.ref 83, .ref 11] (S0 I L D sc) (e_rV sc Ψ) := by
  refine vR_copy_83_11 ?_
  have key : ∀ i, i ≤ 2 → ∀ X' : e_TI, (∀ c, c ≠ 11 → X' c = I c) → (∀ k, k < i → X' 11 k = I 83 k) → e_Wp 21 2 [some (.ref 83), some (.ref 11), some (.int (Int32.ofNat i))] [] (S0 X' L D sc) 0 0 (e_rV sc Ψ) := by
    refine e_downInd 2 (fun i hi ih X' h1 h2 => ?_) (fun X' h1 h2 => vR_copy_83_11_p2 (bx_t (b_self 2) (H X' h1 h2)))
    refine vR_copy_83_11_p2 (bx_f (b_ge hi) (bx_f (b_ge hi) ⟨o_in hi, o_in hi, ?_⟩))
    rw [o_ix (by omega), o_s]
    exact ih _ (fun c hc => by rw [up_cell hc]; exact h1 c hc) (cp_s h1 h2 (by decide))
  exact key 0 (by omega) I (fun _ _ => rfl) (fun k hk => absurd hk (Nat.not_lt_zero _))
theorem s_copy_84_12 {I : e_TI} {L : e_TL} {D : e_TD} {sc : e_TS} {Ψ : e_TI → e_TL → e_TD → Prop} (H : ∀ X' : e_TI, (∀ c, c ≠ 12 → X' c = I c) → (∀ k, k < 2 → X' 12 k = I 84 k) → Ψ X' L D) : e_M 21 [.ref 84, .ref 12] (S0 I L D sc) (e_rV sc Ψ) := by
  refine vR_copy_84_12 ?_
  have key : ∀ i, i ≤ 2 → ∀ X' : e_TI, (∀ c, c ≠ 12 → X' c = I c) → (∀ k, k < i → X' 12 k = I 84 k) → e_Wp 21 2 [some (.ref 84), some (.ref 12), some (.int (Int32.ofNat i))] [] (S0 X' L D sc) 0 0 (e_rV sc Ψ) := by
    refine e_downInd 2 (fun i hi ih X' h1 h2 => ?_) (fun X' h1 h2 => vR_copy_84_12_p2 (bx_t (b_self 2) (H X' h1 h2)))
    refine vR_copy_84_12_p2 (bx_f (b_ge hi) (bx_f (b_ge hi) ⟨o_in hi, o_in hi, ?_⟩))
    rw [o_ix (by omega), o_s]
    exact ih _ (fun c hc => by rw [up_cell hc]; exact h1 c hc) (cp_s h1 h2 (by decide))
  exact key 0 (by omega) I (fun _ _ => rfl) (fun k hk => absurd hk (Nat.not_lt_zero _))
theorem s_copy_85_13 {I : e_TI} {L : e_TL} {D : e_TD} {sc : e_TS} {Ψ : e_TI → e_TL → e_TD → Prop} (H : ∀ X' : e_TI, (∀ c, c ≠ 13 → X' c = I c) → (∀ k, k < 2 → X' 13 k = I 85 k) → Ψ X' L D) : e_M 21 [.ref 85, .ref 13] (S0 I L D sc) (e_rV sc Ψ) := by
  refine vR_copy_85_13 ?_
  have key : ∀ i, i ≤ 2 → ∀ X' : e_TI, (∀ c, c ≠ 13 → X' c = I c) → (∀ k, k < i → X' 13 k = I 85 k) → e_Wp 21 2 [some (.ref 85), some (.ref 13), some (.int (Int32.ofNat i))] [] (S0 X' L D sc) 0 0 (e_rV sc Ψ) := by
    refine e_downInd 2 (fun i hi ih X' h1 h2 => ?_) (fun X' h1 h2 => vR_copy_85_13_p2 (bx_t (b_self 2) (H X' h1 h2)))
    refine vR_copy_85_13_p2 (bx_f (b_ge hi) (bx_f (b_ge hi) ⟨o_in hi, o_in hi, ?_⟩))
    rw [o_ix (by omega), o_s]
    exact ih _ (fun c hc => by rw [up_cell hc]; exact h1 c hc) (cp_s h1 h2 (by decide))
  exact key 0 (by omega) I (fun _ _ => rfl) (fun k hk => absurd hk (Nat.not_lt_zero _))
theorem s_copyG_2_74 {I : e_TI} {L : e_TL} {D : e_TD} {sc : e_TS} {Ψ : e_TI → e_TL → e_TD → Prop} {g : Nat → Int32} (hm : gMa g ≤ 16) (h : RC 74 I L g) (H : ∀ I' L', Fr 2 14 I L I' L' → RC 2 I' L' g → Ψ I' L' D) : e_M 23 [.ref 2, .ref 74] (S0 I L D sc) (e_rV sc Ψ) := by
  refine vG_copyFrom_2_74 (vLd_copyFrom_3_75 (s_copySets_76_4 (fun L1 l1 l1' => s_copySets_77_5 (fun L2 l2 l2' => vU_copyFrom_6_78 ?_))))
  refine s_copy_79_7 (fun I1 i1 i1' => s_copy_80_8 (fun I2 i2 i2' => s_copy_81_9 (fun I3 i3 i3' => s_copy_82_10 (fun I4 i4 i4' => s_copy_83_11 (fun I5 i5 i5' => s_copy_84_12 (fun I6 i6 i6' => s_copy_85_13 (fun I7 i7 i7' => ?_)))))))
  obtain ⟨hR, hF⟩ := cpG (a := 2) (b := 74) (by decide) l1 l1' l2 l2' i1 i1' i2 i2' i3 i3' i4 i4' i5 i5' i6 i6' i7 i7' hm h
  exact H _ _ hF hR
theorem s_copySets_88_4 {I : e_TI} {L : e_TL} {D : e_TD} {sc : e_TS} {Ψ : e_TI → e_TL → e_TD → Prop} (H : ∀ X' : e_TL, (∀ c, c ≠ 4 → X' c = L c) → (∀ k, k < 6 → X' 4 k = L 88 k) → Ψ I X' D) : e_M 19 [.ref 88, .ref 4] (S0 I L D sc) (e_rV sc Ψ) := by
  refine vR_copySets_88_4 ?_
  have key : ∀ i, i ≤ 6 → ∀ X' : e_TL, (∀ c, c ≠ 4 → X' c = L c) → (∀ k, k < i → X' 4 k = L 88 k) → e_Wp 19 2 [some (.ref 88), some (.ref 4), some (.int (Int32.ofNat i))] [] (S0 I X' D sc) 0 0 (e_rV sc Ψ) := by
    refine e_downInd 6 (fun i hi ih X' h1 h2 => ?_) (fun X' h1 h2 => vR_copySets_88_4_p2 (bx_t (b_self 6) (H X' h1 h2)))
    refine vR_copySets_88_4_p2 (bx_f (b_ge hi) (bx_f (b_ge hi) ⟨o_in hi, o_in hi, ?_⟩))
    rw [o_ix (by omega), o_s]
    exact ih _ (fun c hc => by rw [up_cell hc]; exact h1 c hc) (cp_s h1 h2 (by decide))
  exact key 0 (by omega) L (fun _ _ => rfl) (fun k hk => absurd hk (Nat.not_lt_zero _))
theorem s_copySets_89_5 {I : e_TI} {L : e_TL} {D : e_TD} {sc : e_TS} {Ψ : e_TI → e_TL → e_TD → Prop} (H : ∀ X' : e_TL, (∀ c, c ≠ 5 → X' c = L c) → (∀ k, k < 2 → X' 5 k = L 89 k) → Ψ I X' D) : e_M 19 [.ref 89, .ref 5] (S0 I L D sc) (e_rV sc Ψ) := by
  refine vR_copySets_89_5 ?_
  have key : ∀ i, i ≤ 2 → ∀ X' : e_TL, (∀ c, c ≠ 5 → X' c = L c) → (∀ k, k < i → X' 5 k = L 89 k) → e_Wp 19 2 [some (.ref 89), some (.ref 5), some (.int (Int32.ofNat i))] [] (S0 I X' D sc) 0 0 (e_rV sc Ψ) := by
    refine e_downInd 2 (fun i hi ih X' h1 h2 => ?_) (fun X' h1 h2 => vR_copySets_89_5_p2 (bx_t (b_self 2) (H X' h1 h2)))
    refine vR_copySets_89_5_p2 (bx_f (b_ge hi) (bx_f (b_ge hi) ⟨o_in hi, o_in hi, ?_⟩))
    rw [o_ix (by omega), o_s]
    exact ih _ (fun c hc => by rw [up_cell hc]; exact h1 c hc) (cp_s h1 h2 (by decide))
  exact key 0 (by omega) L (fun _ _ => rfl) (fun k hk => absurd hk (Nat.not_lt_zero _))
theorem s_copy_91_7 {I : e_TI} {L : e_TL} {D : e_TD} {sc : e_TS} {Ψ : e_TI → e_TL → e_TD → Prop} (H : ∀ X' : e_TI, (∀ c, c ≠ 7 → X' c = I c) → (∀ k, k < 16 → X' 7 k = I 91 k) → Ψ X' L D) : e_M 21 [.ref 91, .ref 7] (S0 I L D sc) (e_rV sc Ψ) := by
  refine vR_copy_91_7 ?_
  have key : ∀ i, i ≤ 16 → ∀ X' : e_TI, (∀ c, c ≠ 7 → X' c = I c) → (∀ k, k < i → X' 7 k = I 91 k) → e_Wp 21 2 [some (.ref 91), some (.ref 7), some (.int (Int32.ofNat i))] [] (S0 X' L D sc) 0 0 (e_rV sc Ψ) := by
    refine e_downInd 16 (fun i hi ih X' h1 h2 => ?_) (fun X' h1 h2 => vR_copy_91_7_p2 (bx_t (b_self 16) (H X' h1 h2)))
    refine vR_copy_91_7_p2 (bx_f (b_ge hi) (bx_f (b_ge hi) ⟨o_in hi, o_in hi, ?_⟩))
    rw [o_ix (by omega), o_s]
    exact ih _ (fun c hc => by rw [up_cell hc]; exact h1 c hc) (cp_s h1 h2 (by decide))
  exact key 0 (by omega) I (fun _ _ => rfl) (fun k hk => absurd hk (Nat.not_lt_zero _))
theorem s_copy_92_8 {I : e_TI} {L : e_TL} {D : e_TD} {sc : e_TS} {Ψ : e_TI → e_TL → e_TD → Prop} (H : ∀ X' : e_TI, (∀ c, c ≠ 8 → X' c = I c) → (∀ k, k < 16 → X' 8 k = I 92 k) → Ψ X' L D) : e_M 21 [.ref 92, .ref 8] (S0 I L D sc) (e_rV sc Ψ) := by
  refine vR_copy_92_8 ?_
  have key : ∀ i, i ≤ 16 → ∀ X' : e_TI, (∀ c, c ≠ 8 → X' c = I c) → (∀ k, k < i → X' 8 k = I 92 k) → e_Wp 21 2 [some (.ref 92), some (.ref 8), some (.int (Int32.ofNat i))] [] (S0 X' L D sc) 0 0 (e_rV sc Ψ) := by
    refine e_downInd 16 (fun i hi ih X' h1 h2 => ?_) (fun X' h1 h2 => vR_copy_92_8_p2 (bx_t (b_self 16) (H X' h1 h2)))
    refine vR_copy_92_8_p2 (bx_f (b_ge hi) (bx_f (b_ge hi) ⟨o_in hi, o_in hi, ?_⟩))
    rw [o_ix (by omega), o_s]
    exact ih _ (fun c hc => by rw [up_cell hc]; exact h1 c hc) (cp_s h1 h2 (by decide))
  exact key 0 (by omega) I (fun _ _ => rfl) (fun k hk => absurd hk (Nat.not_lt_zero _))
theorem s_copy_93_9 {I : e_TI} {L : e_TL} {D : e_TD} {sc : e_TS} {Ψ : e_TI → e_TL → e_TD → Prop} (H : ∀ X' : e_TI, (∀ c, c ≠ 9 → X' c = I c) → (∀ k, k < 16 → X' 9 k = I 93 k) → Ψ X' L D) : e_M 21 [.ref 93, .ref 9] (S0 I L D sc) (e_rV sc Ψ) := by
  refine vR_copy_93_9 ?_
  have key : ∀ i, i ≤ 16 → ∀ X' : e_TI, (∀ c, c ≠ 9 → X' c = I c) → (∀ k, k < i → X' 9 k = I 93 k) → e_Wp 21 2 [some (.ref 93), some (.ref 9), some (.int (Int32.ofNat i))] [] (S0 X' L D sc) 0 0 (e_rV sc Ψ) := by
    refine e_downInd 16 (fun i hi ih X' h1 h2 => ?_) (fun X' h1 h2 => vR_copy_93_9_p2 (bx_t (b_self 16) (H X' h1 h2)))
    refine vR_copy_93_9_p2 (bx_f (b_ge hi) (bx_f (b_ge hi) ⟨o_in hi, o_in hi, ?_⟩))
    rw [o_ix (by omega), o_s]
    exact ih _ (fun c hc => by rw [up_cell hc]; exact h1 c hc) (cp_s h1 h2 (by decide))
  exact key 0 (by omega) I (fun _ _ => rfl) (fun k hk => absurd hk (Nat.not_lt_zero _))
theorem s_copy_94_10 {I : e_TI} {L : e_TL} {D : e_TD} {sc : e_TS} {Ψ : e_TI → e_TL → e_TD → Prop} (H : ∀ X' : e_TI, (∀ c, c ≠ 10 → X' c = I c) → (∀ k, k < 2 → X' 10 k = I 94 k) → Ψ X' L D) : e_M 21 [.ref 94, .ref 10] (S0 I L D sc) (e_rV sc Ψ) := by
  refine vR_copy_94_10 ?_
  have key : ∀ i, i ≤ 2 → ∀ X' : e_TI, (∀ c, c ≠ 10 → X' c = I c) → (∀ k, k < i → X' 10 k = I 94 k) → e_Wp 21 2 [some (.ref 94), some (.ref 10), some (.int (Int32.ofNat i))] [] (S0 X' L D sc) 0 0 (e_rV sc Ψ) := by
    refine e_downInd 2 (fun i hi ih X' h1 h2 => ?_) (fun X' h1 h2 => vR_copy_94_10_p2 (bx_t (b_self 2) (H X' h1 h2)))
    refine vR_copy_94_10_p2 (bx_f (b_ge hi) (bx_f (b_ge hi) ⟨o_in hi, o_in hi, ?_⟩))
    rw [o_ix (by omega), o_s]
    exact ih _ (fun c hc => by rw [up_cell hc]; exact h1 c hc) (cp_s h1 h2 (by decide))
  exact key 0 (by omega) I (fun _ _ => rfl) (fun k hk => absurd hk (Nat.not_lt_zero _))
theorem s_copy_95_11 {I : e_TI} {L : e_TL} {D : e_TD} {sc : e_TS} {Ψ : e_TI → e_TL → e_TD → Prop} (H : ∀ X' : e_TI, (∀ c, c ≠ 11 → X' c = I c) → (∀ k, k < 2 → X' 11 k = I 95 k) → Ψ X' L D) : e_M 21 [.ref 95, .ref 11] (S0 I L D sc) (e_rV sc Ψ) := by
  refine vR_copy_95_11 ?_
  have key : ∀ i, i ≤ 2 → ∀ X' : e_TI, (∀ c, c ≠ 11 → X' c = I c) → (∀ k, k < i → X' 11 k = I 95 k) → e_Wp 21 2 [some (.ref 95), some (.ref 11), some (.int (Int32.ofNat i))] [] (S0 X' L D sc) 0 0 (e_rV sc Ψ) := by
    refine e_downInd 2 (fun i hi ih X' h1 h2 => ?_) (fun X' h1 h2 => vR_copy_95_11_p2 (bx_t (b_self 2) (H X' h1 h2)))
    refine vR_copy_95_11_p2 (bx_f (b_ge hi) (bx_f (b_ge hi) ⟨o_in hi, o_in hi, ?_⟩))
    rw [o_ix (by omega), o_s]
    exact ih _ (fun c hc => by rw [up_cell hc]; exact h1 c hc) (cp_s h1 h2 (by decide))
  exact key 0 (by omega) I (fun _ _ => rfl) (fun k hk => absurd hk (Nat.not_lt_zero _))
theorem s_copy_96_12 {I : e_TI} {L : e_TL} {D : e_TD} {sc : e_TS} {Ψ : e_TI → e_TL → e_TD → Prop} (H : ∀ X' : e_TI, (∀ c, c ≠ 12 → X' c = I c) → (∀ k, k < 2 → X' 12 k = I 96 k) → Ψ X' L D) : e_M 21 [.ref 96, .ref 12] (S0 I L D sc) (e_rV sc Ψ) := by
  refine vR_copy_96_12 ?_
  have key : ∀ i, i ≤ 2 → ∀ X' : e_TI, (∀ c, c ≠ 12 → X' c = I c) → (∀ k, k < i → X' 12 k = I 96 k) → e_Wp 21 2 [some (.ref 96), some (.ref 12), some (.int (Int32.ofNat i))] [] (S0 X' L D sc) 0 0 (e_rV sc Ψ) := by
    refine e_downInd 2 (fun i hi ih X' h1 h2 => ?_) (fun X' h1 h2 => vR_copy_96_12_p2 (bx_t (b_self 2) (H X' h1 h2)))
    refine vR_copy_96_12_p2 (bx_f (b_ge hi) (bx_f (b_ge hi) ⟨o_in hi, o_in hi, ?_⟩))
    rw [o_ix (by omega), o_s]
    exact ih _ (fun c hc => by rw [up_cell hc]; exact h1 c hc) (cp_s h1 h2 (by decide))
  exact key 0 (by omega) I (fun _ _ => rfl) (fun k hk => absurd hk (Nat.not_lt_zero _))
theorem s_copy_97_13 {I : e_TI} {L : e_TL} {D : e_TD} {sc : e_TS} {Ψ : e_TI → e_TL → e_TD → Prop} (H : ∀ X' : e_TI, (∀ c, c ≠ 13 → X' c = I c) → (∀ k, k < 2 → X' 13 k = I 97 k) → Ψ X' L D) : e_M 21 [.ref 97, .ref 13] (S0 I L D sc) (e_rV sc Ψ) := by
  refine vR_copy_97_13 ?_
  have key : ∀ i, i ≤ 2 → ∀ X' : e_TI, (∀ c, c ≠ 13 → X' c = I c) → (∀ k, k < i → X' 13 k = I 97 k) → e_Wp 21 2 [some (.ref 97), some (.ref 13), some (.int (Int32.ofNat i))] [] (S0 X' L D sc) 0 0 (e_rV sc Ψ) := by
    refine e_downInd 2 (fun i hi ih X' h1 h2 => ?_) (fun X' h1 h2 => vR_copy_97_13_p2 (bx_t (b_self 2) (H X' h1 h2)))
    refine vR_copy_97_13_p2 (bx_f (b_ge hi) (bx_f (b_ge hi) ⟨o_in hi, o_in hi, ?_⟩))
    rw [o_ix (by omega), o_s]
    exact ih _ (fun c hc => by rw [up_cell hc]; exact h1 c hc) (cp_s h1 h2 (by decide))
  exact key 0 (by omega) I (fun _ _ => rfl) (fun k hk => absurd hk (Nat.not_lt_zero _))
theorem s_copyG_2_86 {I : e_TI} {L : e_TL} {D : e_TD} {sc : e_TS} {Ψ : e_TI → e_TL → e_TD → Prop} {g : Nat → Int32} (hm : gMa g ≤ 16) (h : RC 86 I L g) (H : ∀ I' L', Fr 2 14 I L I' L' → RC 2 I' L' g → Ψ I' L' D) : e_M 23 [.ref 2, .ref 86] (S0 I L D sc) (e_rV sc Ψ) := by
  refine vG_copyFrom_2_86 (vLd_copyFrom_3_87 (s_copySets_88_4 (fun L1 l1 l1' => s_copySets_89_5 (fun L2 l2 l2' => vU_copyFrom_6_90 ?_))))
  refine s_copy_91_7 (fun I1 i1 i1' => s_copy_92_8 (fun I2 i2 i2' => s_copy_93_9 (fun I3 i3 i3' => s_copy_94_10 (fun I4 i4 i4' => s_copy_95_11 (fun I5 i5 i5' => s_copy_96_12 (fun I6 i6 i6' => s_copy_97_13 (fun I7 i7 i7' => ?_)))))))
  obtain ⟨hR, hF⟩ := cpG (a := 2) (b := 86) (by decide) l1 l1' l2 l2' i1 i1' i2 i2' i3 i3' i4 i4' i5 i5' i6 i6' i7 i7' hm h
  exact H _ _ hF hR
theorem s_copySets_100_4 {I : e_TI} {L : e_TL} {D : e_TD} {sc : e_TS} {Ψ : e_TI → e_TL → e_TD → Prop} (H : ∀ X' : e_TL, (∀ c, c ≠ 4 → X' c = L c) → (∀ k, k < 6 → X' 4 k = L 100 k) → Ψ I X' D) : e_M 19 [.ref 100, .ref 4] (S0 I L D sc) (e_rV sc Ψ) := by
  refine vR_copySets_100_4 ?_
  have key : ∀ i, i ≤ 6 → ∀ X' : e_TL, (∀ c, c ≠ 4 → X' c = L c) → (∀ k, k < i → X' 4 k = L 100 k) → e_Wp 19 2 [some (.ref 100), some (.ref 4), some (.int (Int32.ofNat i))] [] (S0 I X' D sc) 0 0 (e_rV sc Ψ) := by
    refine e_downInd 6 (fun i hi ih X' h1 h2 => ?_) (fun X' h1 h2 => vR_copySets_100_4_p2 (bx_t (b_self 6) (H X' h1 h2)))
    refine vR_copySets_100_4_p2 (bx_f (b_ge hi) (bx_f (b_ge hi) ⟨o_in hi, o_in hi, ?_⟩))
    rw [o_ix (by omega), o_s]
    exact ih _ (fun c hc => by rw [up_cell hc]; exact h1 c hc) (cp_s h1 h2 (by decide))
  exact key 0 (by omega) L (fun _ _ => rfl) (fun k hk => absurd hk (Nat.not_lt_zero _))
theorem s_copySets_101_5 {I : e_TI} {L : e_TL} {D : e_TD} {sc : e_TS} {Ψ : e_TI → e_TL → e_TD → Prop} (H : ∀ X' : e_TL, (∀ c, c ≠ 5 → X' c = L c) → (∀ k, k < 2 → X' 5 k = L 101 k) → Ψ I X' D) : e_M 19 [.ref 101, .ref 5] (S0 I L D sc) (e_rV sc Ψ) := by
  refine vR_copySets_101_5 ?_
  have key : ∀ i, i ≤ 2 → ∀ X' : e_TL, (∀ c, c ≠ 5 → X' c = L c) → (∀ k, k < i → X' 5 k = L 101 k) → e_Wp 19 2 [some (.ref 101), some (.ref 5), some (.int (Int32.ofNat i))] [] (S0 I X' D sc) 0 0 (e_rV sc Ψ) := by
    refine e_downInd 2 (fun i hi ih X' h1 h2 => ?_) (fun X' h1 h2 => vR_copySets_101_5_p2 (bx_t (b_self 2) (H X' h1 h2)))
    refine vR_copySets_101_5_p2 (bx_f (b_ge hi) (bx_f (b_ge hi) ⟨o_in hi, o_in hi, ?_⟩))
    rw [o_ix (by omega), o_s]
    exact ih _ (fun c hc => by rw [up_cell hc]; exact h1 c hc) (cp_s h1 h2 (by decide))
  exact key 0 (by omega) L (fun _ _ => rfl) (fun k hk => absurd hk (Nat.not_lt_zero _))
theorem s_copy_103_7 {I : e_TI} {L : e_TL} {D : e_TD} {sc : e_TS} {Ψ : e_TI → e_TL → e_TD → Prop} (H : ∀ X' : e_TI, (∀ c, c ≠ 7 → X' c = I c) → (∀ k, k < 16 → X' 7 k = I 103 k) → Ψ X' L D) : e_M 21 [.ref 103, .ref 7] (S0 I L D sc) (e_rV sc Ψ) := by
  refine vR_copy_103_7 ?_
  have key : ∀ i, i ≤ 16 → ∀ X' : e_TI, (∀ c, c ≠ 7 → X' c = I c) → (∀ k, k < i → X' 7 k = I 103 k) → e_Wp 21 2 [some (.ref 103), some (.ref 7), some (.int (Int32.ofNat i))] [] (S0 X' L D sc) 0 0 (e_rV sc Ψ) := by
    refine e_downInd 16 (fun i hi ih X' h1 h2 => ?_) (fun X' h1 h2 => vR_copy_103_7_p2 (bx_t (b_self 16) (H X' h1 h2)))
    refine vR_copy_103_7_p2 (bx_f (b_ge hi) (bx_f (b_ge hi) ⟨o_in hi, o_in hi, ?_⟩))
    rw [o_ix (by omega), o_s]
    exact ih _ (fun c hc => by rw [up_cell hc]; exact h1 c hc) (cp_s h1 h2 (by decide))
  exact key 0 (by omega) I (fun _ _ => rfl) (fun k hk => absurd hk (Nat.not_lt_zero _))
theorem s_copy_104_8 {I : e_TI} {L : e_TL} {D : e_TD} {sc : e_TS} {Ψ : e_TI → e_TL → e_TD → Prop} (H : ∀ X' : e_TI, (∀ c, c ≠ 8 → X' c = I c) → (∀ k, k < 16 → X' 8 k = I 104 k) → Ψ X' L D) : e_M 21 [.ref 104, .ref 8] (S0 I L D sc) (e_rV sc Ψ) := by
  refine vR_copy_104_8 ?_
  have key : ∀ i, i ≤ 16 → ∀ X' : e_TI, (∀ c, c ≠ 8 → X' c = I c) → (∀ k, k < i → X' 8 k = I 104 k) → e_Wp 21 2 [some (.ref 104), some (.ref 8), some (.int (Int32.ofNat i))] [] (S0 X' L D sc) 0 0 (e_rV sc Ψ) := by
    refine e_downInd 16 (fun i hi ih X' h1 h2 => ?_) (fun X' h1 h2 => vR_copy_104_8_p2 (bx_t (b_self 16) (H X' h1 h2)))
    refine vR_copy_104_8_p2 (bx_f (b_ge hi) (bx_f (b_ge hi) ⟨o_in hi, o_in hi, ?_⟩))
    rw [o_ix (by omega), o_s]
    exact ih _ (fun c hc => by rw [up_cell hc]; exact h1 c hc) (cp_s h1 h2 (by decide))
  exact key 0 (by omega) I (fun _ _ => rfl) (fun k hk => absurd hk (Nat.not_lt_zero _))
theorem s_copy_105_9 {I : e_TI} {L : e_TL} {D : e_TD} {sc : e_TS} {Ψ : e_TI → e_TL → e_TD → Prop} (H : ∀ X' : e_TI, (∀ c, c ≠ 9 → X' c = I c) → (∀ k, k < 16 → X' 9 k = I 105 k) → Ψ X' L D) : e_M 21 [.ref 105, .ref 9] (S0 I L D sc) (e_rV sc Ψ) := by
  refine vR_copy_105_9 ?_
  have key : ∀ i, i ≤ 16 → ∀ X' : e_TI, (∀ c, c ≠ 9 → X' c = I c) → (∀ k, k < i → X' 9 k = I 105 k) → e_Wp 21 2 [some (.ref 105), some (.ref 9), some (.int (Int32.ofNat i))] [] (S0 X' L D sc) 0 0 (e_rV sc Ψ) := by
    refine e_downInd 16 (fun i hi ih X' h1 h2 => ?_) (fun X' h1 h2 => vR_copy_105_9_p2 (bx_t (b_self 16) (H X' h1 h2)))
    refine vR_copy_105_9_p2 (bx_f (b_ge hi) (bx_f (b_ge hi) ⟨o_in hi, o_in hi, ?_⟩))
    rw [o_ix (by omega), o_s]
    exact ih _ (fun c hc => by rw [up_cell hc]; exact h1 c hc) (cp_s h1 h2 (by decide))
  exact key 0 (by omega) I (fun _ _ => rfl) (fun k hk => absurd hk (Nat.not_lt_zero _))
theorem s_copy_106_10 {I : e_TI} {L : e_TL} {D : e_TD} {sc : e_TS} {Ψ : e_TI → e_TL → e_TD → Prop} (H : ∀ X' : e_TI, (∀ c, c ≠ 10 → X' c = I c) → (∀ k, k < 2 → X' 10 k = I 106 k) → Ψ X' L D) : e_M 21 [.ref 106, .ref 10] (S0 I L D sc) (e_rV sc Ψ) := by
  refine vR_copy_106_10 ?_
  have key : ∀ i, i ≤ 2 → ∀ X' : e_TI, (∀ c, c ≠ 10 → X' c = I c) → (∀ k, k < i → X' 10 k = I 106 k) → e_Wp 21 2 [some (.ref 106), some (.ref 10), some (.int (Int32.ofNat i))] [] (S0 X' L D sc) 0 0 (e_rV sc Ψ) := by
    refine e_downInd 2 (fun i hi ih X' h1 h2 => ?_) (fun X' h1 h2 => vR_copy_106_10_p2 (bx_t (b_self 2) (H X' h1 h2)))
    refine vR_copy_106_10_p2 (bx_f (b_ge hi) (bx_f (b_ge hi) ⟨o_in hi, o_in hi, ?_⟩))
    rw [o_ix (by omega), o_s]
    exact ih _ (fun c hc => by rw [up_cell hc]; exact h1 c hc) (cp_s h1 h2 (by decide))
  exact key 0 (by omega) I (fun _ _ => rfl) (fun k hk => absurd hk (Nat.not_lt_zero _))
theorem s_copy_107_11 {I : e_TI} {L : e_TL} {D : e_TD} {sc : e_TS} {Ψ : e_TI → e_TL → e_TD → Prop} (H : ∀ X' : e_TI, (∀ c, c ≠ 11 → X' c = I c) → (∀ k, k < 2 → X' 11 k = I 107 k) → Ψ X' L D) : e_M 21 [.ref 107, .ref 11] (S0 I L D sc) (e_rV sc Ψ) := by
  refine vR_copy_107_11 ?_
  have key : ∀ i, i ≤ 2 → ∀ X' : e_TI, (∀ c, c ≠ 11 → X' c = I c) → (∀ k, k < i → X' 11 k = I 107 k) → e_Wp 21 2 [some (.ref 107), some (.ref 11), some (.int (Int32.ofNat i))] [] (S0 X' L D sc) 0 0 (e_rV sc Ψ) := by
    refine e_downInd 2 (fun i hi ih X' h1 h2 => ?_) (fun X' h1 h2 => vR_copy_107_11_p2 (bx_t (b_self 2) (H X' h1 h2)))
    refine vR_copy_107_11_p2 (bx_f (b_ge hi) (bx_f (b_ge hi) ⟨o_in hi, o_in hi, ?_⟩))
    rw [o_ix (by omega), o_s]
    exact ih _ (fun c hc => by rw [up_cell hc]; exact h1 c hc) (cp_s h1 h2 (by decide))
  exact key 0 (by omega) I (fun _ _ => rfl) (fun k hk => absurd hk (Nat.not_lt_zero _))
theorem s_copy_108_12 {I : e_TI} {L : e_TL} {D : e_TD} {sc : e_TS} {Ψ : e_TI → e_TL → e_TD → Prop} (H : ∀ X' : e_TI, (∀ c, c ≠ 12 → X' c = I c) → (∀ k, k < 2 → X' 12 k = I 108 k) → Ψ X' L D) : e_M 21 [.ref 108, .ref 12] (S0 I L D sc) (e_rV sc Ψ) := by
  refine vR_copy_108_12 ?_
  have key : ∀ i, i ≤ 2 → ∀ X' : e_TI, (∀ c, c ≠ 12 → X' c = I c) → (∀ k, k < i → X' 12 k = I 108 k) → e_Wp 21 2 [some (.ref 108), some (.ref 12), some (.int (Int32.ofNat i))] [] (S0 X' L D sc) 0 0 (e_rV sc Ψ) := by
    refine e_downInd 2 (fun i hi ih X' h1 h2 => ?_) (fun X' h1 h2 => vR_copy_108_12_p2 (bx_t (b_self 2) (H X' h1 h2)))
    refine vR_copy_108_12_p2 (bx_f (b_ge hi) (bx_f (b_ge hi) ⟨o_in hi, o_in hi, ?_⟩))
    rw [o_ix (by omega), o_s]
    exact ih _ (fun c hc => by rw [up_cell hc]; exact h1 c hc) (cp_s h1 h2 (by decide))
  exact key 0 (by omega) I (fun _ _ => rfl) (fun k hk => absurd hk (Nat.not_lt_zero _))
theorem s_copy_109_13 {I : e_TI} {L : e_TL} {D : e_TD} {sc : e_TS} {Ψ : e_TI → e_TL → e_TD → Prop} (H : ∀ X' : e_TI, (∀ c, c ≠ 13 → X' c = I c) → (∀ k, k < 2 → X' 13 k = I 109 k) → Ψ X' L D) : e_M 21 [.ref 109, .ref 13] (S0 I L D sc) (e_rV sc Ψ) := by
  refine vR_copy_109_13 ?_
  have key : ∀ i, i ≤ 2 → ∀ X' : e_TI, (∀ c, c ≠ 13 → X' c = I c) → (∀ k, k < i → X' 13 k = I 109 k) → e_Wp 21 2 [some (.ref 109), some (.ref 13), some (.int (Int32.ofNat i))] [] (S0 X' L D sc) 0 0 (e_rV sc Ψ) := by
    refine e_downInd 2 (fun i hi ih X' h1 h2 => ?_) (fun X' h1 h2 => vR_copy_109_13_p2 (bx_t (b_self 2) (H X' h1 h2)))
    refine vR_copy_109_13_p2 (bx_f (b_ge hi) (bx_f (b_ge hi) ⟨o_in hi, o_in hi, ?_⟩))
    rw [o_ix (by omega), o_s]
    exact ih _ (fun c hc => by rw [up_cell hc]; exact h1 c hc) (cp_s h1 h2 (by decide))
  exact key 0 (by omega) I (fun _ _ => rfl) (fun k hk => absurd hk (Nat.not_lt_zero _))
theorem s_copyG_2_98 {I : e_TI} {L : e_TL} {D : e_TD} {sc : e_TS} {Ψ : e_TI → e_TL → e_TD → Prop} {g : Nat → Int32} (hm : gMa g ≤ 16) (h : RC 98 I L g) (H : ∀ I' L', Fr 2 14 I L I' L' → RC 2 I' L' g → Ψ I' L' D) : e_M 23 [.ref 2, .ref 98] (S0 I L D sc) (e_rV sc Ψ) := by
  refine vG_copyFrom_2_98 (vLd_copyFrom_3_99 (s_copySets_100_4 (fun L1 l1 l1' => s_copySets_101_5 (fun L2 l2 l2' => vU_copyFrom_6_102 ?_))))
  refine s_copy_103_7 (fun I1 i1 i1' => s_copy_104_8 (fun I2 i2 i2' => s_copy_105_9 (fun I3 i3 i3' => s_copy_106_10 (fun I4 i4 i4' => s_copy_107_11 (fun I5 i5 i5' => s_copy_108_12 (fun I6 i6 i6' => s_copy_109_13 (fun I7 i7 i7' => ?_)))))))
  obtain ⟨hR, hF⟩ := cpG (a := 2) (b := 98) (by decide) l1 l1' l2 l2' i1 i1' i2 i2' i3 i3' i4 i4' i5 i5' i6 i6' i7 i7' hm h
  exact H _ _ hF hR
theorem s_copySets_112_4 {I : e_TI} {L : e_TL} {D : e_TD} {sc : e_TS} {Ψ : e_TI → e_TL → e_TD → Prop} (H : ∀ X' : e_TL, (∀ c, c ≠ 4 → X' c = L c) → (∀ k, k < 6 → X' 4 k = L 112 k) → Ψ I X' D) : e_M 19 [.ref 112, .ref 4] (S0 I L D sc) (e_rV sc Ψ) := by
  refine vR_copySets_112_4 ?_
  have key : ∀ i, i ≤ 6 → ∀ X' : e_TL, (∀ c, c ≠ 4 → X' c = L c) → (∀ k, k < i → X' 4 k = L 112 k) → e_Wp 19 2 [some (.ref 112), some (.ref 4), some (.int (Int32.ofNat i))] [] (S0 I X' D sc) 0 0 (e_rV sc Ψ) := by
    refine e_downInd 6 (fun i hi ih X' h1 h2 => ?_) (fun X' h1 h2 => vR_copySets_112_4_p2 (bx_t (b_self 6) (H X' h1 h2)))
    refine vR_copySets_112_4_p2 (bx_f (b_ge hi) (bx_f (b_ge hi) ⟨o_in hi, o_in hi, ?_⟩))
    rw [o_ix (by omega), o_s]
    exact ih _ (fun c hc => by rw [up_cell hc]; exact h1 c hc) (cp_s h1 h2 (by decide))
  exact key 0 (by omega) L (fun _ _ => rfl) (fun k hk => absurd hk (Nat.not_lt_zero _))
theorem s_copySets_113_5 {I : e_TI} {L : e_TL} {D : e_TD} {sc : e_TS} {Ψ : e_TI → e_TL → e_TD → Prop} (H : ∀ X' : e_TL, (∀ c, c ≠ 5 → X' c = L c) → (∀ k, k < 2 → X' 5 k = L 113 k) → Ψ I X' D) : e_M 19 [.ref 113, .ref 5] (S0 I L D sc) (e_rV sc Ψ) := by
  refine vR_copySets_113_5 ?_
  have key : ∀ i, i ≤ 2 → ∀ X' : e_TL, (∀ c, c ≠ 5 → X' c = L c) → (∀ k, k < i → X' 5 k = L 113 k) → e_Wp 19 2 [some (.ref 113), some (.ref 5), some (.int (Int32.ofNat i))] [] (S0 I X' D sc) 0 0 (e_rV sc Ψ) := by
    refine e_downInd 2 (fun i hi ih X' h1 h2 => ?_) (fun X' h1 h2 => vR_copySets_113_5_p2 (bx_t (b_self 2) (H X' h1 h2)))
    refine vR_copySets_113_5_p2 (bx_f (b_ge hi) (bx_f (b_ge hi) ⟨o_in hi, o_in hi, ?_⟩))
    rw [o_ix (by omega), o_s]
    exact ih _ (fun c hc => by rw [up_cell hc]; exact h1 c hc) (cp_s h1 h2 (by decide))
  exact key 0 (by omega) L (fun _ _ => rfl) (fun k hk => absurd hk (Nat.not_lt_zero _))
theorem s_copy_115_7 {I : e_TI} {L : e_TL} {D : e_TD} {sc : e_TS} {Ψ : e_TI → e_TL → e_TD → Prop} (H : ∀ X' : e_TI, (∀ c, c ≠ 7 → X' c = I c) → (∀ k, k < 16 → X' 7 k = I 115 k) → Ψ X' L D) : e_M 21 [.ref 115, .ref 7] (S0 I L D sc) (e_rV sc Ψ) := by
  refine vR_copy_115_7 ?_
  have key : ∀ i, i ≤ 16 → ∀ X' : e_TI, (∀ c, c ≠ 7 → X' c = I c) → (∀ k, k < i → X' 7 k = I 115 k) → e_Wp 21 2 [some (.ref 115), some (.ref 7), some (.int (Int32.ofNat i))] [] (S0 X' L D sc) 0 0 (e_rV sc Ψ) := by
    refine e_downInd 16 (fun i hi ih X' h1 h2 => ?_) (fun X' h1 h2 => vR_copy_115_7_p2 (bx_t (b_self 16) (H X' h1 h2)))
    refine vR_copy_115_7_p2 (bx_f (b_ge hi) (bx_f (b_ge hi) ⟨o_in hi, o_in hi, ?_⟩))
    rw [o_ix (by omega), o_s]
    exact ih _ (fun c hc => by rw [up_cell hc]; exact h1 c hc) (cp_s h1 h2 (by decide))
  exact key 0 (by omega) I (fun _ _ => rfl) (fun k hk => absurd hk (Nat.not_lt_zero _))
theorem s_copy_116_8 {I : e_TI} {L : e_TL} {D : e_TD} {sc : e_TS} {Ψ : e_TI → e_TL → e_TD → Prop} (H : ∀ X' : e_TI, (∀ c, c ≠ 8 → X' c = I c) → (∀ k, k < 16 → X' 8 k = I 116 k) → Ψ X' L D) : e_M 21 [.ref 116, .ref 8] (S0 I L D sc) (e_rV sc Ψ) := by
  refine vR_copy_116_8 ?_
  have key : ∀ i, i ≤ 16 → ∀ X' : e_TI, (∀ c, c ≠ 8 → X' c = I c) → (∀ k, k < i → X' 8 k = I 116 k) → e_Wp 21 2 [some (.ref 116), some (.ref 8), some (.int (Int32.ofNat i))] [] (S0 X' L D sc) 0 0 (e_rV sc Ψ) := by
    refine e_downInd 16 (fun i hi ih X' h1 h2 => ?_) (fun X' h1 h2 => vR_copy_116_8_p2 (bx_t (b_self 16) (H X' h1 h2)))
    refine vR_copy_116_8_p2 (bx_f (b_ge hi) (bx_f (b_ge hi) ⟨o_in hi, o_in hi, ?_⟩))
    rw [o_ix (by omega), o_s]
    exact ih _ (fun c hc => by rw [up_cell hc]; exact h1 c hc) (cp_s h1 h2 (by decide))
  exact key 0 (by omega) I (fun _ _ => rfl) (fun k hk => absurd hk (Nat.not_lt_zero _))
theorem s_copy_117_9 {I : e_TI} {L : e_TL} {D : e_TD} {sc : e_TS} {Ψ : e_TI → e_TL → e_TD → Prop} (H : ∀ X' : e_TI, (∀ c, c ≠ 9 → X' c = I c) → (∀ k, k < 16 → X' 9 k = I 117 k) → Ψ X' L D) : e_M 21 [.ref 117, .ref 9] (S0 I L D sc) (e_rV sc Ψ) := by
  refine vR_copy_117_9 ?_
  have key : ∀ i, i ≤ 16 → ∀ X' : e_TI, (∀ c, c ≠ 9 → X' c = I c) → (∀ k, k < i → X' 9 k = I 117 k) → e_Wp 21 2 [some (.ref 117), some (.ref 9), some (.int (Int32.ofNat i))] [] (S0 X' L D sc) 0 0 (e_rV sc Ψ) := by
    refine e_downInd 16 (fun i hi ih X' h1 h2 => ?_) (fun X' h1 h2 => vR_copy_117_9_p2 (bx_t (b_self 16) (H X' h1 h2)))
    refine vR_copy_117_9_p2 (bx_f (b_ge hi) (bx_f (b_ge hi) ⟨o_in hi, o_in hi, ?_⟩))
    rw [o_ix (by omega), o_s]
    exact ih _ (fun c hc => by rw [up_cell hc]; exact h1 c hc) (cp_s h1 h2 (by decide))
  exact key 0 (by omega) I (fun _ _ => rfl) (fun k hk => absurd hk (Nat.not_lt_zero _))
theorem s_copy_118_10 {I : e_TI} {L : e_TL} {D : e_TD} {sc : e_TS} {Ψ : e_TI → e_TL → e_TD → Prop} (H : ∀ X' : e_TI, (∀ c, c ≠ 10 → X' c = I c) → (∀ k, k < 2 → X' 10 k = I 118 k) → Ψ X' L D) : e_M 21 [.ref 118, .ref 10] (S0 I L D sc) (e_rV sc Ψ) := by
  refine vR_copy_118_10 ?_
  have key : ∀ i, i ≤ 2 → ∀ X' : e_TI, (∀ c, c ≠ 10 → X' c = I c) → (∀ k, k < i → X' 10 k = I 118 k) → e_Wp 21 2 [some (.ref 118), some (.ref 10), some (.int (Int32.ofNat i))] [] (S0 X' L D sc) 0 0 (e_rV sc Ψ) := by
    refine e_downInd 2 (fun i hi ih X' h1 h2 => ?_) (fun X' h1 h2 => vR_copy_118_10_p2 (bx_t (b_self 2) (H X' h1 h2)))
    refine vR_copy_118_10_p2 (bx_f (b_ge hi) (bx_f (b_ge hi) ⟨o_in hi, o_in hi, ?_⟩))
    rw [o_ix (by omega), o_s]
    exact ih _ (fun c hc => by rw [up_cell hc]; exact h1 c hc) (cp_s h1 h2 (by decide))
  exact key 0 (by omega) I (fun _ _ => rfl) (fun k hk => absurd hk (Nat.not_lt_zero _))
theorem s_copy_119_11 {I : e_TI} {L : e_TL} {D : e_TD} {sc : e_TS} {Ψ : e_TI → e_TL → e_TD → Prop} (H : ∀ X' : e_TI, (∀ c, c ≠ 11 → X' c = I c) → (∀ k, k < 2 → X' 11 k = I 119 k) → Ψ X' L D) : e_M 21 [.ref 119, .ref 11] (S0 I L D sc) (e_rV sc Ψ) := by
  refine vR_copy_119_11 ?_
  have key : ∀ i, i ≤ 2 → ∀ X' : e_TI, (∀ c, c ≠ 11 → X' c = I c) → (∀ k, k < i → X' 11 k = I 119 k) → e_Wp 21 2 [some (.ref 119), some (.ref 11), some (.int (Int32.ofNat i))] [] (S0 X' L D sc) 0 0 (e_rV sc Ψ) := by
    refine e_downInd 2 (fun i hi ih X' h1 h2 => ?_) (fun X' h1 h2 => vR_copy_119_11_p2 (bx_t (b_self 2) (H X' h1 h2)))
    refine vR_copy_119_11_p2 (bx_f (b_ge hi) (bx_f (b_ge hi) ⟨o_in hi, o_in hi, ?_⟩))
    rw [o_ix (by omega), o_s]
    exact ih _ (fun c hc => by rw [up_cell hc]; exact h1 c hc) (cp_s h1 h2 (by decide))
  exact key 0 (by omega) I (fun _ _ => rfl) (fun k hk => absurd hk (Nat.not_lt_zero _))
theorem s_copy_120_12 {I : e_TI} {L : e_TL} {D : e_TD} {sc : e_TS} {Ψ : e_TI → e_TL → e_TD → Prop} (H : ∀ X' : e_TI, (∀ c, c ≠ 12 → X' c = I c) → (∀ k, k < 2 → X' 12 k = I 120 k) → Ψ X' L D) : e_M 21 [.ref 120, .ref 12] (S0 I L D sc) (e_rV sc Ψ) := by
  refine vR_copy_120_12 ?_
  have key : ∀ i, i ≤ 2 → ∀ X' : e_TI, (∀ c, c ≠ 12 → X' c = I c) → (∀ k, k < i → X' 12 k = I 120 k) → e_Wp 21 2 [some (.ref 120), some (.ref 12), some (.int (Int32.ofNat i))] [] (S0 X' L D sc) 0 0 (e_rV sc Ψ) := by
    refine e_downInd 2 (fun i hi ih X' h1 h2 => ?_) (fun X' h1 h2 => vR_copy_120_12_p2 (bx_t (b_self 2) (H X' h1 h2)))
    refine vR_copy_120_12_p2 (bx_f (b_ge hi) (bx_f (b_ge hi) ⟨o_in hi, o_in hi, ?_⟩))
    rw [o_ix (by omega), o_s]
    exact ih _ (fun c hc => by rw [up_cell hc]; exact h1 c hc) (cp_s h1 h2 (by decide))
  exact key 0 (by omega) I (fun _ _ => rfl) (fun k hk => absurd hk (Nat.not_lt_zero _))
theorem s_copy_121_13 {I : e_TI} {L : e_TL} {D : e_TD} {sc : e_TS} {Ψ : e_TI → e_TL → e_TD → Prop} (H : ∀ X' : e_TI, (∀ c, c ≠ 13 → X' c = I c) → (∀ k, k < 2 → X' 13 k = I 121 k) → Ψ X' L D) : e_M 21 [.ref 121, .ref 13] (S0 I L D sc) (e_rV sc Ψ) := by
  refine vR_copy_121_13 ?_
  have key : ∀ i, i ≤ 2 → ∀ X' : e_TI, (∀ c, c ≠ 13 → X' c = I c) → (∀ k, k < i → X' 13 k = I 121 k) → e_Wp 21 2 [some (.ref 121), some (.ref 13), some (.int (Int32.ofNat i))] [] (S0 X' L D sc) 0 0 (e_rV sc Ψ) := by
    refine e_downInd 2 (fun i hi ih X' h1 h2 => ?_) (fun X' h1 h2 => vR_copy_121_13_p2 (bx_t (b_self 2) (H X' h1 h2)))
    refine vR_copy_121_13_p2 (bx_f (b_ge hi) (bx_f (b_ge hi) ⟨o_in hi, o_in hi, ?_⟩))
    rw [o_ix (by omega), o_s]
    exact ih _ (fun c hc => by rw [up_cell hc]; exact h1 c hc) (cp_s h1 h2 (by decide))
  exact key 0 (by omega) I (fun _ _ => rfl) (fun k hk => absurd hk (Nat.not_lt_zero _))
theorem s_copyG_2_110 {I : e_TI} {L : e_TL} {D : e_TD} {sc : e_TS} {Ψ : e_TI → e_TL → e_TD → Prop} {g : Nat → Int32} (hm : gMa g ≤ 16) (h : RC 110 I L g) (H : ∀ I' L', Fr 2 14 I L I' L' → RC 2 I' L' g → Ψ I' L' D) : e_M 23 [.ref 2, .ref 110] (S0 I L D sc) (e_rV sc Ψ) := by
  refine vG_copyFrom_2_110 (vLd_copyFrom_3_111 (s_copySets_112_4 (fun L1 l1 l1' => s_copySets_113_5 (fun L2 l2 l2' => vU_copyFrom_6_114 ?_))))
  refine s_copy_115_7 (fun I1 i1 i1' => s_copy_116_8 (fun I2 i2 i2' => s_copy_117_9 (fun I3 i3 i3' => s_copy_118_10 (fun I4 i4 i4' => s_copy_119_11 (fun I5 i5 i5' => s_copy_120_12 (fun I6 i6 i6' => s_copy_121_13 (fun I7 i7 i7' => ?_)))))))
  obtain ⟨hR, hF⟩ := cpG (a := 2) (b := 110) (by decide) l1 l1' l2 l2' i1 i1' i2 i2' i3 i3' i4 i4' i5 i5' i6 i6' i7 i7' hm h
  exact H _ _ hF hR
theorem s_copySets_124_4 {I : e_TI} {L : e_TL} {D : e_TD} {sc : e_TS} {Ψ : e_TI → e_TL → e_TD → Prop} (H : ∀ X' : e_TL, (∀ c, c ≠ 4 → X' c = L c) → (∀ k, k < 6 → X' 4 k = L 124 k) → Ψ I X' D) : e_M 19 [.ref 124, .ref 4] (S0 I L D sc) (e_rV sc Ψ) := by
  refine vR_copySets_124_4 ?_
  have key : ∀ i, i ≤ 6 → ∀ X' : e_TL, (∀ c, c ≠ 4 → X' c = L c) → (∀ k, k < i → X' 4 k = L 124 k) → e_Wp 19 2 [some (.ref 124), some (.ref 4), some (.int (Int32.ofNat i))] [] (S0 I X' D sc) 0 0 (e_rV sc Ψ) := by
    refine e_downInd 6 (fun i hi ih X' h1 h2 => ?_) (fun X' h1 h2 => vR_copySets_124_4_p2 (bx_t (b_self 6) (H X' h1 h2)))
    refine vR_copySets_124_4_p2 (bx_f (b_ge hi) (bx_f (b_ge hi) ⟨o_in hi, o_in hi, ?_⟩))
    rw [o_ix (by omega), o_s]
    exact ih _ (fun c hc => by rw [up_cell hc]; exact h1 c hc) (cp_s h1 h2 (by decide))
  exact key 0 (by omega) L (fun _ _ => rfl) (fun k hk => absurd hk (Nat.not_lt_zero _))
theorem s_copySets_125_5 {I : e_TI} {L : e_TL} {D : e_TD} {sc : e_TS} {Ψ : e_TI → e_TL → e_TD → Prop} (H : ∀ X' : e_TL, (∀ c, c ≠ 5 → X' c = L c) → (∀ k, k < 2 → X' 5 k = L 125 k) → Ψ I X' D) : e_M 19 [.ref 125, .ref 5] (S0 I L D sc) (e_rV sc Ψ) := by
  refine vR_copySets_125_5 ?_
  have key : ∀ i, i ≤ 2 → ∀ X' : e_TL, (∀ c, c ≠ 5 → X' c = L c) → (∀ k, k < i → X' 5 k = L 125 k) → e_Wp 19 2 [some (.ref 125), some (.ref 5), some (.int (Int32.ofNat i))] [] (S0 I X' D sc) 0 0 (e_rV sc Ψ) := by
    refine e_downInd 2 (fun i hi ih X' h1 h2 => ?_) (fun X' h1 h2 => vR_copySets_125_5_p2 (bx_t (b_self 2) (H X' h1 h2)))
    refine vR_copySets_125_5_p2 (bx_f (b_ge hi) (bx_f (b_ge hi) ⟨o_in hi, o_in hi, ?_⟩))
    rw [o_ix (by omega), o_s]
    exact ih _ (fun c hc => by rw [up_cell hc]; exact h1 c hc) (cp_s h1 h2 (by decide))
  exact key 0 (by omega) L (fun _ _ => rfl) (fun k hk => absurd hk (Nat.not_lt_zero _))
theorem s_copy_127_7 {I : e_TI} {L : e_TL} {D : e_TD} {sc : e_TS} {Ψ : e_TI → e_TL → e_TD → Prop} (H : ∀ X' : e_TI, (∀ c, c ≠ 7 → X' c = I c) → (∀ k, k < 16 → X' 7 k = I 127 k) → Ψ X' L D) : e_M 21 [.ref 127, .ref 7] (S0 I L D sc) (e_rV sc Ψ) := by
  refine vR_copy_127_7 ?_
  have key : ∀ i, i ≤ 16 → ∀ X' : e_TI, (∀ c, c ≠ 7 → X' c = I c) → (∀ k, k < i → X' 7 k = I 127 k) → e_Wp 21 2 [some (.ref 127), some (.ref 7), some (.int (Int32.ofNat i))] [] (S0 X' L D sc) 0 0 (e_rV sc Ψ) := by
    refine e_downInd 16 (fun i hi ih X' h1 h2 => ?_) (fun X' h1 h2 => vR_copy_127_7_p2 (bx_t (b_self 16) (H X' h1 h2)))
    refine vR_copy_127_7_p2 (bx_f (b_ge hi) (bx_f (b_ge hi) ⟨o_in hi, o_in hi, ?_⟩))
    rw [o_ix (by omega), o_s]
    exact ih _ (fun c hc => by rw [up_cell hc]; exact h1 c hc) (cp_s h1 h2 (by decide))
  exact key 0 (by omega) I (fun _ _ => rfl) (fun k hk => absurd hk (Nat.not_lt_zero _))
theorem s_copy_128_8 {I : e_TI} {L : e_TL} {D : e_TD} {sc : e_TS} {Ψ : e_TI → e_TL → e_TD → Prop} (H : ∀ X' : e_TI, (∀ c, c ≠ 8 → X' c = I c) → (∀ k, k < 16 → X' 8 k = I 128 k) → Ψ X' L D) : e_M 21 [.ref 128, .ref 8] (S0 I L D sc) (e_rV sc Ψ) := by
  refine vR_copy_128_8 ?_
  have key : ∀ i, i ≤ 16 → ∀ X' : e_TI, (∀ c, c ≠ 8 → X' c = I c) → (∀ k, k < i → X' 8 k = I 128 k) → e_Wp 21 2 [some (.ref 128), some (.ref 8), some (.int (Int32.ofNat i))] [] (S0 X' L D sc) 0 0 (e_rV sc Ψ) := by
    refine e_downInd 16 (fun i hi ih X' h1 h2 => ?_) (fun X' h1 h2 => vR_copy_128_8_p2 (bx_t (b_self 16) (H X' h1 h2)))
    refine vR_copy_128_8_p2 (bx_f (b_ge hi) (bx_f (b_ge hi) ⟨o_in hi, o_in hi, ?_⟩))
    rw [o_ix (by omega), o_s]
    exact ih _ (fun c hc => by rw [up_cell hc]; exact h1 c hc) (cp_s h1 h2 (by decide))
  exact key 0 (by omega) I (fun _ _ => rfl) (fun k hk => absurd hk (Nat.not_lt_zero _))
theorem s_copy_129_9 {I : e_TI} {L : e_TL} {D : e_TD} {sc : e_TS} {Ψ : e_TI → e_TL → e_TD → Prop} (H : ∀ X' : e_TI, (∀ c, c ≠ 9 → X' c = I c) → (∀ k, k < 16 → X' 9 k = I 129 k) → Ψ X' L D) : e_M 21 [.ref 129, .ref 9] (S0 I L D sc) (e_rV sc Ψ) := by
  refine vR_copy_129_9 ?_
  have key : ∀ i, i ≤ 16 → ∀ X' : e_TI, (∀ c, c ≠ 9 → X' c = I c) → (∀ k, k < i → X' 9 k = I 129 k) → e_Wp 21 2 [some (.ref 129), some (.ref 9), some (.int (Int32.ofNat i))] [] (S0 X' L D sc) 0 0 (e_rV sc Ψ) := by
    refine e_downInd 16 (fun i hi ih X' h1 h2 => ?_) (fun X' h1 h2 => vR_copy_129_9_p2 (bx_t (b_self 16) (H X' h1 h2)))
    refine vR_copy_129_9_p2 (bx_f (b_ge hi) (bx_f (b_ge hi) ⟨o_in hi, o_in hi, ?_⟩))
    rw [o_ix (by omega), o_s]
    exact ih _ (fun c hc => by rw [up_cell hc]; exact h1 c hc) (cp_s h1 h2 (by decide))
  exact key 0 (by omega) I (fun _ _ => rfl) (fun k hk => absurd hk (Nat.not_lt_zero _))
theorem s_copy_130_10 {I : e_TI} {L : e_TL} {D : e_TD} {sc : e_TS} {Ψ : e_TI → e_TL → e_TD → Prop} (H : ∀ X' : e_TI, (∀ c, c ≠ 10 → X' c = I c) → (∀ k, k < 2 → X' 10 k = I 130 k) → Ψ X' L D) : e_M 21 [.ref 130, .ref 10] (S0 I L D sc) (e_rV sc Ψ) := by
  refine vR_copy_130_10 ?_
  have key : ∀ i, i ≤ 2 → ∀ X' : e_TI, (∀ c, c ≠ 10 → X' c = I c) → (∀ k, k < i → X' 10 k = I 130 k) → e_Wp 21 2 [some (.ref 130), some (.ref 10), some (.int (Int32.ofNat i))] [] (S0 X' L D sc) 0 0 (e_rV sc Ψ) := by
    refine e_downInd 2 (fun i hi ih X' h1 h2 => ?_) (fun X' h1 h2 => vR_copy_130_10_p2 (bx_t (b_self 2) (H X' h1 h2)))
    refine vR_copy_130_10_p2 (bx_f (b_ge hi) (bx_f (b_ge hi) ⟨o_in hi, o_in hi, ?_⟩))
    rw [o_ix (by omega), o_s]
    exact ih _ (fun c hc => by rw [up_cell hc]; exact h1 c hc) (cp_s h1 h2 (by decide))
  exact key 0 (by omega) I (fun _ _ => rfl) (fun k hk => absurd hk (Nat.not_lt_zero _))
theorem s_copy_131_11 {I : e_TI} {L : e_TL} {D : e_TD} {sc : e_TS} {Ψ : e_TI → e_TL → e_TD → Prop} (H : ∀ X' : e_TI, (∀ c, c ≠ 11 → X' c = I c) → (∀ k, k < 2 → X' 11 k = I 131 k) → Ψ X' L D) : e_M 21 [.ref 131, .ref 11] (S0 I L D sc) (e_rV sc Ψ) := by
  refine vR_copy_131_11 ?_
  have key : ∀ i, i ≤ 2 → ∀ X' : e_TI, (∀ c, c ≠ 11 → X' c = I c) → (∀ k, k < i → X' 11 k = I 131 k) → e_Wp 21 2 [some (.ref 131), some (.ref 11), some (.int (Int32.ofNat i))] [] (S0 X' L D sc) 0 0 (e_rV sc Ψ) := by
    refine e_downInd 2 (fun i hi ih X' h1 h2 => ?_) (fun X' h1 h2 => vR_copy_131_11_p2 (bx_t (b_self 2) (H X' h1 h2)))
    refine vR_copy_131_11_p2 (bx_f (b_ge hi) (bx_f (b_ge hi) ⟨o_in hi, o_in hi, ?_⟩))
    rw [o_ix (by omega), o_s]
    exact ih _ (fun c hc => by rw [up_cell hc]; exact h1 c hc) (cp_s h1 h2 (by decide))
  exact key 0 (by omega) I (fun _ _ => rfl) (fun k hk => absurd hk (Nat.not_lt_zero _))
theorem s_copy_132_12 {I : e_TI} {L : e_TL} {D : e_TD} {sc : e_TS} {Ψ : e_TI → e_TL → e_TD → Prop} (H : ∀ X' : e_TI, (∀ c, c ≠ 12 → X' c = I c) → (∀ k, k < 2 → X' 12 k = I 132 k) → Ψ X' L D) : e_M 21 [.ref 132, .ref 12] (S0 I L D sc) (e_rV sc Ψ) := by
  refine vR_copy_132_12 ?_
  have key : ∀ i, i ≤ 2 → ∀ X' : e_TI, (∀ c, c ≠ 12 → X' c = I c) → (∀ k, k < i → X' 12 k = I 132 k) → e_Wp 21 2 [some (.ref 132), some (.ref 12), some (.int (Int32.ofNat i))] [] (S0 X' L D sc) 0 0 (e_rV sc Ψ) := by
    refine e_downInd 2 (fun i hi ih X' h1 h2 => ?_) (fun X' h1 h2 => vR_copy_132_12_p2 (bx_t (b_self 2) (H X' h1 h2)))
    refine vR_copy_132_12_p2 (bx_f (b_ge hi) (bx_f (b_ge hi) ⟨o_in hi, o_in hi, ?_⟩))
    rw [o_ix (by omega), o_s]
    exact ih _ (fun c hc => by rw [up_cell hc]; exact h1 c hc) (cp_s h1 h2 (by decide))
  exact key 0 (by omega) I (fun _ _ => rfl) (fun k hk => absurd hk (Nat.not_lt_zero _))
theorem s_copy_133_13 {I : e_TI} {L : e_TL} {D : e_TD} {sc : e_TS} {Ψ : e_TI → e_TL → e_TD → Prop} (H : ∀ X' : e_TI, (∀ c, c ≠ 13 → X' c = I c) → (∀ k, k < 2 → X' 13 k = I 133 k) → Ψ X' L D) : e_M 21 [.ref 133, .ref 13] (S0 I L D sc) (e_rV sc Ψ) := by
  refine vR_copy_133_13 ?_
  have key : ∀ i, i ≤ 2 → ∀ X' : e_TI, (∀ c, c ≠ 13 → X' c = I c) → (∀ k, k < i → X' 13 k = I 133 k) → e_Wp 21 2 [some (.ref 133), some (.ref 13), some (.int (Int32.ofNat i))] [] (S0 X' L D sc) 0 0 (e_rV sc Ψ) := by
    refine e_downInd 2 (fun i hi ih X' h1 h2 => ?_) (fun X' h1 h2 => vR_copy_133_13_p2 (bx_t (b_self 2) (H X' h1 h2)))
    refine vR_copy_133_13_p2 (bx_f (b_ge hi) (bx_f (b_ge hi) ⟨o_in hi, o_in hi, ?_⟩))
    rw [o_ix (by omega), o_s]
    exact ih _ (fun c hc => by rw [up_cell hc]; exact h1 c hc) (cp_s h1 h2 (by decide))
  exact key 0 (by omega) I (fun _ _ => rfl) (fun k hk => absurd hk (Nat.not_lt_zero _))
theorem s_copyG_2_122 {I : e_TI} {L : e_TL} {D : e_TD} {sc : e_TS} {Ψ : e_TI → e_TL → e_TD → Prop} {g : Nat → Int32} (hm : gMa g ≤ 16) (h : RC 122 I L g) (H : ∀ I' L', Fr 2 14 I L I' L' → RC 2 I' L' g → Ψ I' L' D) : e_M 23 [.ref 2, .ref 122] (S0 I L D sc) (e_rV sc Ψ) := by
  refine vG_copyFrom_2_122 (vLd_copyFrom_3_123 (s_copySets_124_4 (fun L1 l1 l1' => s_copySets_125_5 (fun L2 l2 l2' => vU_copyFrom_6_126 ?_))))
  refine s_copy_127_7 (fun I1 i1 i1' => s_copy_128_8 (fun I2 i2 i2' => s_copy_129_9 (fun I3 i3 i3' => s_copy_130_10 (fun I4 i4 i4' => s_copy_131_11 (fun I5 i5 i5' => s_copy_132_12 (fun I6 i6 i6' => s_copy_133_13 (fun I7 i7 i7' => ?_)))))))
  obtain ⟨hR, hF⟩ := cpG (a := 2) (b := 122) (by decide) l1 l1' l2 l2' i1 i1' i2 i2' i3 i3' i4 i4' i5 i5' i6 i6' i7 i7' hm h
  exact H _ _ hF hR
