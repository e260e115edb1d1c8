/-! leaves -/
theorem s_only {I : e_TI} {L : e_TL} {D : e_TD} {sc : e_TS} {Ψ : Int64 → e_TI → e_TL → e_TD → Prop} {c : Nat} (hc : c < 63) (H : Ψ (sL fun i => i == c) I L D) : e_M 28 [.int (Int32.ofNat c)] (S0 I L D sc) (e_rL sc Ψ) := by
  refine vH_only ?_
  rw [sL_only c hc]
  exact H
theorem s_uonly {I : e_TI} {L : e_TL} {D : e_TD} {sc : e_TS} {Ψ : Int32 → e_TI → e_TL → e_TD → Prop} {c : Nat} (hc : c < 32) (H : Ψ (sI fun i => i == c) I L D) : e_M 47 [.int (Int32.ofNat c)] (S0 I L D sc) (e_rI sc Ψ) := by
  refine vU_only ?_
  rw [sI_only c hc]
  exact H
theorem s_has {I : e_TI} {L : e_TL} {D : e_TD} {sc : e_TS} {Ψ : Int32 → e_TI → e_TL → e_TD → Prop} {p : Nat → Bool} {c : Nat} (hc : c < 63) (H : Ψ (e_b (p c)) I L D) : e_M 46 [.long (sL p), .int (Int32.ofNat c)] (S0 I L D sc) (e_rI sc Ψ) := by
  refine vH_has ⟨fun h => ?_, fun h => ?_⟩
  · rw [(sL_has p c hc).mp h] at H
    exact H
  · rw [show p c = true by cases hq : p c with | true => rfl | false => exact absurd ((sL_has p c hc).mpr hq) h] at H
    exact H
theorem s_uhas {I : e_TI} {L : e_TL} {D : e_TD} {sc : e_TS} {Ψ : Int32 → e_TI → e_TL → e_TD → Prop} {p : Nat → Bool} {c : Nat} (hc : c < 32) (H : Ψ (e_b (p c)) I L D) : e_M 27 [.int (sI p), .int (Int32.ofNat c)] (S0 I L D sc) (e_rI sc Ψ) := by
  refine vU_has ⟨fun h => ?_, fun h => ?_⟩
  · rw [(sI_has p c hc).mp h] at H
    exact H
  · rw [show p c = true by cases hq : p c with | true => rfl | false => exact absurd ((sI_has p c hc).mpr hq) h] at H
    exact H
theorem s_around {I : e_TI} {L : e_TL} {D : e_TD} {sc : e_TS} {Ψ : Int64 → e_TI → e_TL → e_TD → Prop} {p : Nat → Bool} (h63 : p 63 = false) (H : Ψ (sL (aro p)) I L D) : e_M 32 [.long (sL p)] (S0 I L D sc) (e_rL sc Ψ) := by
  have h := clAro_sL p h63
  unfold clAro at h
  refine vH_around ?_
  rw [h]
  exact H
/-- a place that may be none -/
def o_opt : Option Nat → Int32
  | some x => Int32.ofNat x
  | none => -1
def atI (x y : Int32) : Int32 := if x < 0 then -1 else if 7 ≤ x then -1 else if y < 0 then -1 else if 9 ≤ y then -1 else 9 * x + y
theorem s_at {I : e_TI} {L : e_TL} {D : e_TD} {sc : e_TS} {Ψ : Int32 → e_TI → e_TL → e_TD → Prop} {x y : Int32} (H : Ψ (atI x y) I L D) : e_M 76 [.int x, .int y] (S0 I L D sc) (e_rI sc Ψ) := by
  refine vH_at ⟨fun h => ?_, fun h => ⟨fun h2 => ?_, fun h2 => ⟨fun h3 => ?_, fun h3 => ⟨fun h4 => ?_, fun h4 => ?_⟩⟩⟩⟩
  · rw [atI, if_pos h] at H; exact H
  · rw [atI, if_neg h, if_pos h2] at H; exact H
  · rw [atI, if_neg h, if_neg h2, if_pos h3] at H; exact H
  · rw [atI, if_neg h, if_neg h2, if_neg h3, if_pos h4] at H; exact H
  · rw [atI, if_neg h, if_neg h2, if_neg h3, if_neg h4] at H; exact H
def bsI (x y : Int32) : Int32 :=
  if y = 0 then atI (x / 9) ((x - x / 9 * 9) + 1) else if y = 1 then atI ((x / 9) - 1) ((x - x / 9 * 9) + ((x / 9) - (x / 9) / 2 * 2)) else
  if y = 2 then atI ((x / 9) - 1) (((x - x / 9 * 9) + ((x / 9) - (x / 9) / 2 * 2)) - 1) else if y = 3 then atI (x / 9) ((x - x / 9 * 9) - 1) else
  if y = 4 then atI ((x / 9) + 1) (((x - x / 9 * 9) + ((x / 9) - (x / 9) / 2 * 2)) - 1) else if y = 5 then atI ((x / 9) + 1) ((x - x / 9 * 9) + ((x / 9) - (x / 9) / 2 * 2)) else -1
theorem bsI_nb : ∀ c : Fin 63, ∀ d : Fin 6, bsI (Int32.ofNat c) (Int32.ofNat d) = o_opt (nb c d) := by decide +kernel
theorem s_beside {I : e_TI} {L : e_TL} {D : e_TD} {sc : e_TS} {Ψ : Int32 → e_TI → e_TL → e_TD → Prop} {c d : Nat} (hc : c < 63) (hd : d < 6) (H : Ψ (o_opt (nb c d)) I L D) : e_M 77 [.int (Int32.ofNat c), .int (Int32.ofNat d)] (S0 I L D sc) (e_rI sc Ψ) := by
  rw [← bsI_nb ⟨c, hc⟩ ⟨d, hd⟩] at H
  refine vH_beside ⟨fun h => ?_, fun h => ⟨fun h1 => ?_, fun h1 => ⟨fun h2 => ?_, fun h2 => ⟨fun h3 => ?_, fun h3 => ⟨fun h4 => ?_, fun h4 => ⟨fun h5 => ?_, fun h5 => ?_⟩⟩⟩⟩⟩⟩
  · rw [bsI, if_pos h] at H; exact s_at H
  · rw [bsI, if_neg h, if_pos h1] at H; exact s_at H
  · rw [bsI, if_neg h, if_neg h1, if_pos h2] at H; exact s_at H
  · rw [bsI, if_neg h, if_neg h1, if_neg h2, if_pos h3] at H; exact s_at H
  · rw [bsI, if_neg h, if_neg h1, if_neg h2, if_neg h3, if_pos h4] at H; exact s_at H
  · rw [bsI, if_neg h, if_neg h1, if_neg h2, if_neg h3, if_neg h4, if_pos h5] at H; exact s_at H
  · rw [bsI, if_neg h, if_neg h1, if_neg h2, if_neg h3, if_neg h4, if_neg h5] at H; exact H
def absI (x : Int32) : Int32 := if 0 ≤ x then x else -x
def maxI (x y : Int32) : Int32 := if x < y then y else x
def minI (x y : Int32) : Int32 := if y < x then y else x
theorem s_abs {I : e_TI} {L : e_TL} {D : e_TD} {sc : e_TS} {Ψ : Int32 → e_TI → e_TL → e_TD → Prop} {x : Int32} (H : Ψ (absI x) I L D) : e_M 81 [.int x] (S0 I L D sc) (e_rI sc Ψ) := by
  refine vJ_Math_abs ⟨fun h => ?_, fun h => ?_⟩
  · rw [absI, if_pos h] at H; exact H
  · rw [absI, if_neg h] at H; exact H
theorem s_max {I : e_TI} {L : e_TL} {D : e_TD} {sc : e_TS} {Ψ : Int32 → e_TI → e_TL → e_TD → Prop} {x y : Int32} (H : Ψ (maxI x y) I L D) : e_M 82 [.int x, .int y] (S0 I L D sc) (e_rI sc Ψ) := by
  refine vJ_Math_max ⟨fun h => ?_, fun h => ?_⟩
  · rw [maxI, if_pos h] at H; exact H
  · rw [maxI, if_neg h] at H; exact H
theorem s_min {I : e_TI} {L : e_TL} {D : e_TD} {sc : e_TS} {Ψ : Int32 → e_TI → e_TL → e_TD → Prop} {x y : Int32} (H : Ψ (minI x y) I L D) : e_M 24 [.int x, .int y] (S0 I L D sc) (e_rI sc Ψ) := by
  refine vJ_Math_min ⟨fun h => ?_, fun h => ?_⟩
  · rw [minI, if_pos h] at H; exact H
  · rw [minI, if_neg h] at H; exact H
theorem s_minN {I : e_TI} {L : e_TL} {D : e_TD} {sc : e_TS} {Ψ : Int32 → e_TI → e_TL → e_TD → Prop} {a b : Nat} (ha : a < 2147483648) (hb : b < 2147483648) (H : Ψ (Int32.ofNat (min a b)) I L D) : e_M 24 [.int (Int32.ofNat a), .int (Int32.ofNat b)] (S0 I L D sc) (e_rI sc Ψ) := by
  refine s_min ?_
  unfold minI
  split
  · rename_i h
    rw [o_lt hb ha] at h
    rw [show min a b = b by omega] at H
    exact H
  · rename_i h
    rw [o_lt hb ha] at h
    rw [show min a b = a by omega] at H
    exact H
def slI (x : Int32) : Int32 := (x - x / 9 * 9) - ((x / 9) / 2)
def apI (x y : Int32) : Int32 := maxI (absI (((y / 9) - (x / 9)) + (slI y - slI x))) (maxI (absI ((y / 9) - (x / 9))) (absI (slI y - slI x)))
theorem apI_dst : ∀ a : Fin 63, ∀ b : Fin 63, apI (Int32.ofNat a) (Int32.ofNat b) = Int32.ofNat (dst a b) := by decide +kernel
theorem s_apart {I : e_TI} {L : e_TL} {D : e_TD} {sc : e_TS} {Ψ : Int32 → e_TI → e_TL → e_TD → Prop} {a b : Nat} (ha : a < 63) (hb : b < 63) (H : Ψ (Int32.ofNat (dst a b)) I L D) : e_M 83 [.int (Int32.ofNat a), .int (Int32.ofNat b)] (S0 I L D sc) (e_rI sc Ψ) := by
  rw [← apI_dst ⟨a, ha⟩ ⟨b, hb⟩] at H
  exact vH_apart (vH_slant (vH_slant (s_abs (s_abs (s_abs (s_max (s_max H)))))))
/-- the first of a set -/
def fst63 (p : Nat → Bool) : Option Nat := (List.range 63).find? p
theorem s_lowest {I : e_TI} {L : e_TL} {D : e_TD} {sc : e_TS} {Ψ : Int32 → e_TI → e_TL → e_TD → Prop} {p : Nat → Bool} (h1 : ∀ c, c < 63 → p c = true → (∀ j, j < c → p j = false) → Ψ (Int32.ofNat c) I L D) (h0 : (∀ c, c < 63 → p c = false) → Ψ (-1) I L D) : e_M 135 [.long (sL p)] (S0 I L D sc) (e_rI sc Ψ) := by
  refine vH_lowest (loop_F (G := fun i => e_Wp 135 2 [some (.long (sL p)), none, some (.int i)] [] (S0 I L D sc) 0 0 (e_rI sc Ψ)) p 63 (fun i hi hj K => ?_) (fun h => ?_))
  · exact vH_lowest_p2 (bx_f (b_ge hi) (s_has hi (bx_b K (fun h => h1 i hi h hj))))
  · exact vH_lowest_p2 (bx_t (b_self 63) (h0 h))
theorem s_ulowest {I : e_TI} {L : e_TL} {D : e_TD} {sc : e_TS} {Ψ : Int32 → e_TI → e_TL → e_TD → Prop} {p : Nat → Bool} (h1 : ∀ c, c < 16 → p c = true → (∀ j, j < c → p j = false) → Ψ (Int32.ofNat c) I L D) (h0 : (∀ c, c < 16 → p c = false) → Ψ (-1) I L D) : e_M 173 [.int (sI p)] (S0 I L D sc) (e_rI sc Ψ) := by
  refine vU_lowest (loop_F (G := fun i => e_Wp 173 2 [some (.int (sI p)), some (.int i)] [] (S0 I L D sc) 0 0 (e_rI sc Ψ)) p 16 (fun i hi hj K => ?_) (fun h => ?_))
  · exact vU_lowest_p2 (bx_f (b_ge hi) (s_uhas (by omega) (bx_b K (fun h => h1 i hi h hj))))
  · exact vU_lowest_p2 (bx_t (b_self 16) (h0 h))
theorem s_read_7 {I : e_TI} {L : e_TL} {D : e_TD} {sc : e_TS} {Ψ : Int32 → e_TI → e_TL → e_TD → Prop} {u : Nat} (hu : u < 16) (H : Ψ (I 7 u) I L D) : e_M 36 [.ref 7, .int (Int32.ofNat u)] (S0 I L D sc) (e_rI sc Ψ) := by
  refine vR_read_7 (bx_f (b_nn) (bx_f (b_ge hu) ⟨o_in hu, ?_⟩))
  rw [o_ix (by omega)]
  exact H
theorem s_read_8 {I : e_TI} {L : e_TL} {D : e_TD} {sc : e_TS} {Ψ : Int32 → e_TI → e_TL → e_TD → Prop} {u : Nat} (hu : u < 16) (H : Ψ (I 8 u) I L D) : e_M 36 [.ref 8, .int (Int32.ofNat u)] (S0 I L D sc) (e_rI sc Ψ) := by
  refine vR_read_8 (bx_f (b_nn) (bx_f (b_ge hu) ⟨o_in hu, ?_⟩))
  rw [o_ix (by omega)]
  exact H
theorem s_read_9 {I : e_TI} {L : e_TL} {D : e_TD} {sc : e_TS} {Ψ : Int32 → e_TI → e_TL → e_TD → Prop} {u : Nat} (hu : u < 16) (H : Ψ (I 9 u) I L D) : e_M 36 [.ref 9, .int (Int32.ofNat u)] (S0 I L D sc) (e_rI sc Ψ) := by
  refine vR_read_9 (bx_f (b_nn) (bx_f (b_ge hu) ⟨o_in hu, ?_⟩))
  rw [o_ix (by omega)]
  exact H
theorem s_read_10 {I : e_TI} {L : e_TL} {D : e_TD} {sc : e_TS} {Ψ : Int32 → e_TI → e_TL → e_TD → Prop} {u : Nat} (hu : u < 2) (H : Ψ (I 10 u) I L D) : e_M 36 [.ref 10, .int (Int32.ofNat u)] (S0 I L D sc) (e_rI sc Ψ) := by
  refine vR_read_10 (bx_f (b_nn) (bx_f (b_ge hu) ⟨o_in hu, ?_⟩))
  rw [o_ix (by omega)]
  exact H
theorem s_read_11 {I : e_TI} {L : e_TL} {D : e_TD} {sc : e_TS} {Ψ : Int32 → e_TI → e_TL → e_TD → Prop} {u : Nat} (hu : u < 2) (H : Ψ (I 11 u) I L D) : e_M 36 [.ref 11, .int (Int32.ofNat u)] (S0 I L D sc) (e_rI sc Ψ) := by
  refine vR_read_11 (bx_f (b_nn) (bx_f (b_ge hu) ⟨o_in hu, ?_⟩))
  rw [o_ix (by omega)]
  exact H
theorem s_read_12 {I : e_TI} {L : e_TL} {D : e_TD} {sc : e_TS} {Ψ : Int32 → e_TI → e_TL → e_TD → Prop} {u : Nat} (hu : u < 2) (H : Ψ (I 12 u) I L D) : e_M 36 [.ref 12, .int (Int32.ofNat u)] (S0 I L D sc) (e_rI sc Ψ) := by
  refine vR_read_12 (bx_f (b_nn) (bx_f (b_ge hu) ⟨o_in hu, ?_⟩))
  rw [o_ix (by omega)]
  exact H
theorem s_read_13 {I : e_TI} {L : e_TL} {D : e_TD} {sc : e_TS} {Ψ : Int32 → e_TI → e_TL → e_TD → Prop} {u : Nat} (hu : u < 2) (H : Ψ (I 13 u) I L D) : e_M 36 [.ref 13, .int (Int32.ofNat u)] (S0 I L D sc) (e_rI sc Ψ) := by
  refine vR_read_13 (bx_f (b_nn) (bx_f (b_ge hu) ⟨o_in hu, ?_⟩))
  rw [o_ix (by omega)]
  exact H
theorem s_read_135 {I : e_TI} {L : e_TL} {D : e_TD} {sc : e_TS} {Ψ : Int32 → e_TI → e_TL → e_TD → Prop} {u : Nat} (hu : u < 3) (H : Ψ (I 135 u) I L D) : e_M 36 [.ref 135, .int (Int32.ofNat u)] (S0 I L D sc) (e_rI sc Ψ) := by
  refine vR_read_135 (bx_f (b_nn) (bx_f (b_ge hu) ⟨o_in hu, ?_⟩))
  rw [o_ix (by omega)]
  exact H
theorem s_read_136 {I : e_TI} {L : e_TL} {D : e_TD} {sc : e_TS} {Ψ : Int32 → e_TI → e_TL → e_TD → Prop} {u : Nat} (hu : u < 3) (H : Ψ (I 136 u) I L D) : e_M 36 [.ref 136, .int (Int32.ofNat u)] (S0 I L D sc) (e_rI sc Ψ) := by
  refine vR_read_136 (bx_f (b_nn) (bx_f (b_ge hu) ⟨o_in hu, ?_⟩))
  rw [o_ix (by omega)]
  exact H
theorem s_read_23 {I : e_TI} {L : e_TL} {D : e_TD} {sc : e_TS} {Ψ : Int32 → e_TI → e_TL → e_TD → Prop} {u : Nat} (hu : u < 63) (H : Ψ (I 23 u) I L D) : e_M 36 [.ref 23, .int (Int32.ofNat u)] (S0 I L D sc) (e_rI sc Ψ) := by
  refine vR_read_23 (bx_f (b_nn) (bx_f (b_ge hu) ⟨o_in hu, ?_⟩))
  rw [o_ix (by omega)]
  exact H
theorem s_read_X10 {I : e_TI} {L : e_TL} {D : e_TD} {sc : e_TS} {Ψ : Int32 → e_TI → e_TL → e_TD → Prop} {u : Nat} (hu : u < 15) (H : Ψ (e_xt 10 u) I L D) : e_M 36 [.retAddr 10, .int (Int32.ofNat u)] (S0 I L D sc) (e_rI sc Ψ) := by
  refine vR_read_X10 (bx_f (b_nn) (bx_f (b_ge hu) ⟨o_in hu, ?_⟩))
  rw [o_ix (by omega)]
  exact H
theorem s_read_X11 {I : e_TI} {L : e_TL} {D : e_TD} {sc : e_TS} {Ψ : Int32 → e_TI → e_TL → e_TD → Prop} {u : Nat} (hu : u < 3) (H : Ψ (e_xt 11 u) I L D) : e_M 36 [.retAddr 11, .int (Int32.ofNat u)] (S0 I L D sc) (e_rI sc Ψ) := by
  refine vR_read_X11 (bx_f (b_nn) (bx_f (b_ge hu) ⟨o_in hu, ?_⟩))
  rw [o_ix (by omega)]
  exact H
theorem s_read_X12 {I : e_TI} {L : e_TL} {D : e_TD} {sc : e_TS} {Ψ : Int32 → e_TI → e_TL → e_TD → Prop} {u : Nat} (hu : u < 6) (H : Ψ (e_xt 12 u) I L D) : e_M 36 [.retAddr 12, .int (Int32.ofNat u)] (S0 I L D sc) (e_rI sc Ψ) := by
  refine vR_read_X12 (bx_f (b_nn) (bx_f (b_ge hu) ⟨o_in hu, ?_⟩))
  rw [o_ix (by omega)]
  exact H
theorem s_read_X13 {I : e_TI} {L : e_TL} {D : e_TD} {sc : e_TS} {Ψ : Int32 → e_TI → e_TL → e_TD → Prop} {u : Nat} (hu : u < 6) (H : Ψ (e_xt 13 u) I L D) : e_M 36 [.retAddr 13, .int (Int32.ofNat u)] (S0 I L D sc) (e_rI sc Ψ) := by
  refine vR_read_X13 (bx_f (b_nn) (bx_f (b_ge hu) ⟨o_in hu, ?_⟩))
  rw [o_ix (by omega)]
  exact H
theorem s_readSet_4 {I : e_TI} {L : e_TL} {D : e_TD} {sc : e_TS} {Ψ : Int64 → e_TI → e_TL → e_TD → Prop} {u : Nat} (hu : u < 6) (H : Ψ (L 4 u) I L D) : e_M 30 [.ref 4, .int (Int32.ofNat u)] (S0 I L D sc) (e_rL sc Ψ) := by
  refine vR_readSet_4 (bx_f (b_nn) (bx_f (b_ge hu) ⟨o_in hu, ?_⟩))
  rw [o_ix (by omega)]
  exact H
theorem s_readSet_5 {I : e_TI} {L : e_TL} {D : e_TD} {sc : e_TS} {Ψ : Int64 → e_TI → e_TL → e_TD → Prop} {u : Nat} (hu : u < 2) (H : Ψ (L 5 u) I L D) : e_M 30 [.ref 5, .int (Int32.ofNat u)] (S0 I L D sc) (e_rL sc Ψ) := by
  refine vR_readSet_5 (bx_f (b_nn) (bx_f (b_ge hu) ⟨o_in hu, ?_⟩))
  rw [o_ix (by omega)]
  exact H
theorem s_readSet_15 {I : e_TI} {L : e_TL} {D : e_TD} {sc : e_TS} {Ψ : Int64 → e_TI → e_TL → e_TD → Prop} {u : Nat} (hu : u < 373) (H : Ψ (L 15 u) I L D) : e_M 30 [.ref 15, .int (Int32.ofNat u)] (S0 I L D sc) (e_rL sc Ψ) := by
  refine vR_readSet_15 (bx_f (b_nn) (bx_f (b_ge hu) ⟨o_in hu, ?_⟩))
  rw [o_ix (by omega)]
  exact H
theorem s_readSet_20 {I : e_TI} {L : e_TL} {D : e_TD} {sc : e_TS} {Ψ : Int64 → e_TI → e_TL → e_TD → Prop} {u : Nat} (hu : u < 373) (H : Ψ (L 20 u) I L D) : e_M 30 [.ref 20, .int (Int32.ofNat u)] (S0 I L D sc) (e_rL sc Ψ) := by
  refine vR_readSet_20 (bx_f (b_nn) (bx_f (b_ge hu) ⟨o_in hu, ?_⟩))
  rw [o_ix (by omega)]
  exact H
theorem s_readSet_21 {I : e_TI} {L : e_TL} {D : e_TD} {sc : e_TS} {Ψ : Int64 → e_TI → e_TL → e_TD → Prop} {u : Nat} (hu : u < 373) (H : Ψ (L 21 u) I L D) : e_M 30 [.ref 21, .int (Int32.ofNat u)] (S0 I L D sc) (e_rL sc Ψ) := by
  refine vR_readSet_21 (bx_f (b_nn) (bx_f (b_ge hu) ⟨o_in hu, ?_⟩))
  rw [o_ix (by omega)]
  exact H
theorem s_readSet_21o {I : e_TI} {L : e_TL} {D : e_TD} {sc : e_TS} {Ψ : Int64 → e_TI → e_TL → e_TD → Prop} {u : Nat} (hu : 373 ≤ u) (hu2 : u < 2147483648) (H : Ψ 0 I L D) : e_M 30 [.ref 21, .int (Int32.ofNat u)] (S0 I L D sc) (e_rL sc Ψ) :=
  vR_readSet_21 (bx_f (b_nn) (bx_t (b_le hu) H))
theorem s_write_7 {I : e_TI} {L : e_TL} {D : e_TD} {sc : e_TS} {Ψ : e_TI → e_TL → e_TD → Prop} {u : Nat} {y : Int32} (hu : u < 16) (H : Ψ (e_up I 7 u y) L D) : e_M 51 [.ref 7, .int (Int32.ofNat u), .int y] (S0 I L D sc) (e_rV sc Ψ) := by
  refine vR_write_7 (bx_f (b_nn) (bx_f (b_ge hu) ⟨o_in hu, ?_⟩))
  rw [o_ix (by omega)]
  exact H
theorem s_write_8 {I : e_TI} {L : e_TL} {D : e_TD} {sc : e_TS} {Ψ : e_TI → e_TL → e_TD → Prop} {u : Nat} {y : Int32} (hu : u < 16) (H : Ψ (e_up I 8 u y) L D) : e_M 51 [.ref 8, .int (Int32.ofNat u), .int y] (S0 I L D sc) (e_rV sc Ψ) := by
  refine vR_write_8 (bx_f (b_nn) (bx_f (b_ge hu) ⟨o_in hu, ?_⟩))
  rw [o_ix (by omega)]
  exact H
theorem s_write_9 {I : e_TI} {L : e_TL} {D : e_TD} {sc : e_TS} {Ψ : e_TI → e_TL → e_TD → Prop} {u : Nat} {y : Int32} (hu : u < 16) (H : Ψ (e_up I 9 u y) L D) : e_M 51 [.ref 9, .int (Int32.ofNat u), .int y] (S0 I L D sc) (e_rV sc Ψ) := by
  refine vR_write_9 (bx_f (b_nn) (bx_f (b_ge hu) ⟨o_in hu, ?_⟩))
  rw [o_ix (by omega)]
  exact H
theorem s_write_135 {I : e_TI} {L : e_TL} {D : e_TD} {sc : e_TS} {Ψ : e_TI → e_TL → e_TD → Prop} {u : Nat} {y : Int32} (hu : u < 3) (H : Ψ (e_up I 135 u y) L D) : e_M 51 [.ref 135, .int (Int32.ofNat u), .int y] (S0 I L D sc) (e_rV sc Ψ) := by
  refine vR_write_135 (bx_f (b_nn) (bx_f (b_ge hu) ⟨o_in hu, ?_⟩))
  rw [o_ix (by omega)]
  exact H
theorem s_write_136 {I : e_TI} {L : e_TL} {D : e_TD} {sc : e_TS} {Ψ : e_TI → e_TL → e_TD → Prop} {u : Nat} {y : Int32} (hu : u < 3) (H : Ψ (e_up I 136 u y) L D) : e_M 51 [.ref 136, .int (Int32.ofNat u), .int y] (S0 I L D sc) (e_rV sc Ψ) := by
  refine vR_write_136 (bx_f (b_nn) (bx_f (b_ge hu) ⟨o_in hu, ?_⟩))
  rw [o_ix (by omega)]
  exact H
theorem s_increase_10 {I : e_TI} {L : e_TL} {D : e_TD} {sc : e_TS} {Ψ : e_TI → e_TL → e_TD → Prop} {u : Nat} {y : Int32} (hu : u < 2) (H : Ψ (e_up I 10 u (I 10 u + y)) L D) : e_M 52 [.ref 10, .int (Int32.ofNat u), .int y] (S0 I L D sc) (e_rV sc Ψ) := by
  refine vR_increase_10 (bx_f (b_nn) (bx_f (b_ge hu) ⟨o_in hu, o_in hu, ?_⟩))
  rw [o_ix (by omega)]
  exact H
theorem s_clear_10 {I : e_TI} {L : e_TL} {D : e_TD} {sc : e_TS} {Ψ : e_TI → e_TL → e_TD → Prop} (H : ∀ r : Nat → Int32, r 0 = 0 → r 1 = 0 → Ψ (e_row I 10 r) L D) : e_M 10 [.ref 10] (S0 I L D sc) (e_rV sc Ψ) := by
  refine vR_clear_10 (vR_clear_10_p2 (bx_f (b_ge (n := 2) (i := 0) (by decide)) ⟨o_in (i := 0) (n := 2) (by decide), ?_⟩))
  refine vR_clear_10_p2 (bx_f (b_ge (n := 2) (i := 1) (by decide)) ⟨o_in (i := 1) (n := 2) (by decide), ?_⟩)
  refine vR_clear_10_p2 (bx_t (b_self 2) ?_)
  have e : e_up (e_up I 10 (Int32.toNatClampNeg 0) 0) 10 (Int32.toNatClampNeg (0 + 1)) 0 = e_row I 10 (fun k => if k = 1 then 0 else if k = 0 then 0 else I 10 k) := by
    funext c k
    unfold e_up e_row
    rw [show Int32.toNatClampNeg 0 = 0 from rfl, show Int32.toNatClampNeg (0 + 1) = 1 from rfl]
    by_cases hc : c = 10
    · subst hc; simp
    · simp [hc]
  rw [e]
  exact H _ rfl rfl
theorem s_increase_11 {I : e_TI} {L : e_TL} {D : e_TD} {sc : e_TS} {Ψ : e_TI → e_TL → e_TD → Prop} {u : Nat} {y : Int32} (hu : u < 2) (H : Ψ (e_up I 11 u (I 11 u + y)) L D) : e_M 52 [.ref 11, .int (Int32.ofNat u), .int y] (S0 I L D sc) (e_rV sc Ψ) := by
  refine vR_increase_11 (bx_f (b_nn) (bx_f (b_ge hu) ⟨o_in hu, o_in hu, ?_⟩))
  rw [o_ix (by omega)]
  exact H
theorem s_clear_11 {I : e_TI} {L : e_TL} {D : e_TD} {sc : e_TS} {Ψ : e_TI → e_TL → e_TD → Prop} (H : ∀ r : Nat → Int32, r 0 = 0 → r 1 = 0 → Ψ (e_row I 11 r) L D) : e_M 10 [.ref 11] (S0 I L D sc) (e_rV sc Ψ) := by
  refine vR_clear_11 (vR_clear_11_p2 (bx_f (b_ge (n := 2) (i := 0) (by decide)) ⟨o_in (i := 0) (n := 2) (by decide), ?_⟩))
  refine vR_clear_11_p2 (bx_f (b_ge (n := 2) (i := 1) (by decide)) ⟨o_in (i := 1) (n := 2) (by decide), ?_⟩)
  refine vR_clear_11_p2 (bx_t (b_self 2) ?_)
  have e : e_up (e_up I 11 (Int32.toNatClampNeg 0) 0) 11 (Int32.toNatClampNeg (0 + 1)) 0 = e_row I 11 (fun k => if k = 1 then 0 else if k = 0 then 0 else I 11 k) := by
    funext c k
    unfold e_up e_row
    rw [show Int32.toNatClampNeg 0 = 0 from rfl, show Int32.toNatClampNeg (0 + 1) = 1 from rfl]
    by_cases hc : c = 11
    · subst hc; simp
    · simp [hc]
  rw [e]
  exact H _ rfl rfl
theorem s_increase_12 {I : e_TI} {L : e_TL} {D : e_TD} {sc : e_TS} {Ψ : e_TI → e_TL → e_TD → Prop} {u : Nat} {y : Int32} (hu : u < 2) (H : Ψ (e_up I 12 u (I 12 u + y)) L D) : e_M 52 [.ref 12, .int (Int32.ofNat u), .int y] (S0 I L D sc) (e_rV sc Ψ) := by
  refine vR_increase_12 (bx_f (b_nn) (bx_f (b_ge hu) ⟨o_in hu, o_in hu, ?_⟩))
  rw [o_ix (by omega)]
  exact H
theorem s_clear_12 {I : e_TI} {L : e_TL} {D : e_TD} {sc : e_TS} {Ψ : e_TI → e_TL → e_TD → Prop} (H : ∀ r : Nat → Int32, r 0 = 0 → r 1 = 0 → Ψ (e_row I 12 r) L D) : e_M 10 [.ref 12] (S0 I L D sc) (e_rV sc Ψ) := by
  refine vR_clear_12 (vR_clear_12_p2 (bx_f (b_ge (n := 2) (i := 0) (by decide)) ⟨o_in (i := 0) (n := 2) (by decide), ?_⟩))
  refine vR_clear_12_p2 (bx_f (b_ge (n := 2) (i := 1) (by decide)) ⟨o_in (i := 1) (n := 2) (by decide), ?_⟩)
  refine vR_clear_12_p2 (bx_t (b_self 2) ?_)
  have e : e_up (e_up I 12 (Int32.toNatClampNeg 0) 0) 12 (Int32.toNatClampNeg (0 + 1)) 0 = e_row I 12 (fun k => if k = 1 then 0 else if k = 0 then 0 else I 12 k) := by
    funext c k
    unfold e_up e_row
    rw [show Int32.toNatClampNeg 0 = 0 from rfl, show Int32.toNatClampNeg (0 + 1) = 1 from rfl]
    by_cases hc : c = 12
    · subst hc; simp
    · simp [hc]
  rw [e]
  exact H _ rfl rfl
theorem s_increase_13 {I : e_TI} {L : e_TL} {D : e_TD} {sc : e_TS} {Ψ : e_TI → e_TL → e_TD → Prop} {u : Nat} {y : Int32} (hu : u < 2) (H : Ψ (e_up I 13 u (I 13 u + y)) L D) : e_M 52 [.ref 13, .int (Int32.ofNat u), .int y] (S0 I L D sc) (e_rV sc Ψ) := by
  refine vR_increase_13 (bx_f (b_nn) (bx_f (b_ge hu) ⟨o_in hu, o_in hu, ?_⟩))
  rw [o_ix (by omega)]
  exact H
theorem s_clear_13 {I : e_TI} {L : e_TL} {D : e_TD} {sc : e_TS} {Ψ : e_TI → e_TL → e_TD → Prop} (H : ∀ r : Nat → Int32, r 0 = 0 → r 1 = 0 → Ψ (e_row I 13 r) L D) : e_M 10 [.ref 13] (S0 I L D sc) (e_rV sc Ψ) := by
  refine vR_clear_13 (vR_clear_13_p2 (bx_f (b_ge (n := 2) (i := 0) (by decide)) ⟨o_in (i := 0) (n := 2) (by decide), ?_⟩))
  refine vR_clear_13_p2 (bx_f (b_ge (n := 2) (i := 1) (by decide)) ⟨o_in (i := 1) (n := 2) (by decide), ?_⟩)
  refine vR_clear_13_p2 (bx_t (b_self 2) ?_)
  have e : e_up (e_up I 13 (Int32.toNatClampNeg 0) 0) 13 (Int32.toNatClampNeg (0 + 1)) 0 = e_row I 13 (fun k => if k = 1 then 0 else if k = 0 then 0 else I 13 k) := by
    funext c k
    unfold e_up e_row
    rw [show Int32.toNatClampNeg 0 = 0 from rfl, show Int32.toNatClampNeg (0 + 1) = 1 from rfl]
    by_cases hc : c = 13
    · subst hc; simp
    · simp [hc]
  rw [e]
  exact H _ rfl rfl
