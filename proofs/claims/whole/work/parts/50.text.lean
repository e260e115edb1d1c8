/-! letters, the input buffer, the report -/
def gL5 (k : Nat) : Nat := ([112, 119, 104, 115, 109, 126, 80, 87, 72, 83, 77] : List Nat).getD k 0
/-- the kind of a letter; 11: none -/
def gKd (x : Int32) : Nat := ((List.range 11).find? fun k => Int32.ofNat (gL5 k) == x).getD 11
def chv (a i : Nat) : Int32 := ((e_xb a i &&& 255).toUInt32 % 65536).toInt32
theorem chv3 : ∀ i : Fin 6, chv 3 i.1 = Int32.ofNat (gL5 i.1) := by decide +kernel
theorem chv4 : ∀ i : Fin 5, chv 4 i.1 = Int32.ofNat (gL5 (i.1 + 6)) := by decide +kernel
theorem chv5 : ∀ i : Fin 11, chv 5 i.1 = Int32.ofNat (gL5 i.1) := by decide +kernel
theorem gL5_inj : ∀ i : Fin 11, ∀ j : Fin 11, Int32.ofNat (gL5 i.1) = Int32.ofNat (gL5 j.1) → i.1 = j.1 := by decide +kernel
theorem gL5_nar : ∀ i : Fin 11, narrow .char (.int (Int32.ofNat (gL5 i.1))) = .int (Int32.ofNat (gL5 i.1)) := by
  intro i
  have h : i.1 = 0 ∨ i.1 = 1 ∨ i.1 = 2 ∨ i.1 = 3 ∨ i.1 = 4 ∨ i.1 = 5 ∨ i.1 = 6 ∨ i.1 = 7 ∨ i.1 = 8 ∨ i.1 = 9 ∨ i.1 = 10 := by omega
  rcases h with h | h | h | h | h | h | h | h | h | h | h <;> rw [h] <;> rfl
theorem gKd_cases (x : Int32) : (∃ k, k < 11 ∧ x = Int32.ofNat (gL5 k) ∧ gKd x = k) ∨ ((∀ k, k < 11 → x ≠ Int32.ofNat (gL5 k)) ∧ gKd x = 11) := by
  cases h : (List.range 11).find? fun k => Int32.ofNat (gL5 k) == x with
  | none =>
    right
    have h2 := h
    rw [List.find?_eq_none] at h2
    refine ⟨fun k hk e => ?_, by unfold gKd; rw [h]; rfl⟩
    exact h2 k (List.mem_range.mpr hk) (beq_iff_eq.mpr e.symm)
  | some k =>
    left
    have h2 := h
    rw [List.find?_range_eq_some] at h2
    exact ⟨k, List.mem_range.mp h2.2.1, (beq_iff_eq.mp h2.1).symm, by unfold gKd; rw [h]; rfl⟩
theorem gKd_of {k : Nat} (hk : k < 11) : gKd (Int32.ofNat (gL5 k)) = k := by
  rcases gKd_cases (Int32.ofNat (gL5 k)) with ⟨j, hj, e, h⟩ | ⟨h, _⟩
  · rw [h]
    exact (gL5_inj ⟨k, hk⟩ ⟨j, hj⟩ e).symm
  · exact absurd rfl (h k hk)
theorem gKd_le (x : Int32) : gKd x ≤ 11 := by
  rcases gKd_cases x with ⟨k, hk, _, h⟩ | ⟨_, h⟩ <;> omega
/-- the terrain of a kind -/
def gTk (k : Nat) : Nat := if k < 6 then k else k - 6
def gRk (k : Nat) : Bool := decide (6 ≤ k) && decide (k < 11)
def gTI (k : Nat) : Int32 := if k < 11 then Int32.ofNat (gTk k) else -1
/-- the cell of a place in a text -/
def gCA (n : Nat) : Option Nat := if n % 10 < 9 then some (9 * (n / 10) + n % 10) else none
def gGood (i : Nat) (x : Int32) : Bool := decide (i < 69) && (if i % 10 < 9 then decide (gKd x < 11) else x == 47)
section
variable {I : e_TI} {L : e_TL} {D : e_TD} {sc : e_TS}
theorem s_checkIndex {Ψ : e_TI → e_TL → e_TD → Prop} {i n : Nat} (hi : i < n) (hn : n < 1000) (H : Ψ I L D) : e_M 200 [.int (Int32.ofNat i), .int (Int32.ofNat n)] (S0 I L D sc) (e_rV sc Ψ) :=
  vJ_String_checkIndex (vJ_Preconditions_checkIndex (bx_f b_nn (bx_t ((o_lt (by omega) (by omega)).mpr hi) H)))
theorem s_charAt0 {Ψ : Int32 → e_TI → e_TL → e_TD → Prop} {i : Nat} (hi : i < 6) (H : Ψ (Int32.ofNat (gL5 i)) I L D) : e_M 202 [.retAddr 0, .int (Int32.ofNat i)] (S0 I L D sc) (e_rI sc Ψ) := by
  refine vJ_String_charAt_X0 (vJ_String_isLatin1_X0 (bx_f (by decide) (vJ_StringLatin1_charAt_X3 (s_checkIndex (n := 6) hi (by decide) ⟨o_in hi, ?_⟩))))
  rw [o_ix (by omega), show ((e_xb 3 i &&& 255).toUInt32 % 65536).toInt32 = Int32.ofNat (gL5 i) from chv3 ⟨i, hi⟩]
  exact ⟨gL5_nar ⟨i, by omega⟩, gL5_nar ⟨i, by omega⟩, H⟩
theorem s_charAt1 {Ψ : Int32 → e_TI → e_TL → e_TD → Prop} {i : Nat} (hi : i < 5) (H : Ψ (Int32.ofNat (gL5 (i + 6))) I L D) : e_M 202 [.retAddr 1, .int (Int32.ofNat i)] (S0 I L D sc) (e_rI sc Ψ) := by
  refine vJ_String_charAt_X1 (vJ_String_isLatin1_X1 (bx_f (by decide) (vJ_StringLatin1_charAt_X4 (s_checkIndex (n := 5) hi (by decide) ⟨o_in hi, ?_⟩))))
  rw [o_ix (by omega), show ((e_xb 4 i &&& 255).toUInt32 % 65536).toInt32 = Int32.ofNat (gL5 (i + 6)) from chv4 ⟨i, hi⟩]
  exact ⟨gL5_nar ⟨i + 6, by omega⟩, gL5_nar ⟨i + 6, by omega⟩, H⟩
theorem s_charAt2 {Ψ : Int32 → e_TI → e_TL → e_TD → Prop} {i : Nat} (hi : i < 11) (H : Ψ (Int32.ofNat (gL5 i)) I L D) : e_M 202 [.retAddr 2, .int (Int32.ofNat i)] (S0 I L D sc) (e_rI sc Ψ) := by
  refine vJ_String_charAt_X2 (vJ_String_isLatin1_X2 (bx_f (by decide) (vJ_StringLatin1_charAt_X5 (s_checkIndex (n := 11) hi (by decide) ⟨o_in hi, ?_⟩))))
  rw [o_ix (by omega), show ((e_xb 5 i &&& 255).toUInt32 % 65536).toInt32 = Int32.ofNat (gL5 i) from chv5 ⟨i, hi⟩]
  exact ⟨gL5_nar ⟨i, by omega⟩, gL5_nar ⟨i, by omega⟩, H⟩
theorem s_length0 {Ψ : Int32 → e_TI → e_TL → e_TD → Prop} (H : Ψ (Int32.ofNat 6) I L D) : e_M 197 [.retAddr 0] (S0 I L D sc) (e_rI sc Ψ) := vJ_String_length_X0 (vJ_String_coder_X0 H)
theorem s_length1 {Ψ : Int32 → e_TI → e_TL → e_TD → Prop} (H : Ψ (Int32.ofNat 5) I L D) : e_M 197 [.retAddr 1] (S0 I L D sc) (e_rI sc Ψ) := vJ_String_length_X1 (vJ_String_coder_X1 H)
theorem s_placeIn0 {Ψ : Int32 → e_TI → e_TL → e_TD → Prop} {x : Int32} (h1 : ∀ k, k < 6 → x = Int32.ofNat (gL5 k) → Ψ (Int32.ofNat k) I L D) (h0 : (∀ k, k < 6 → x ≠ Int32.ofNat (gL5 k)) → Ψ (-1) I L D) : e_M 203 [.retAddr 0, .int x] (S0 I L D sc) (e_rI sc Ψ) := by
  refine vLt_placeIn_X0 (loop_F (G := fun i => e_Wp 203 2 [some (.retAddr 0), some (.int x), some (.int i)] [] (S0 I L D sc) 0 0 (e_rI sc Ψ)) (fun k => Int32.ofNat (gL5 k) == x) 6 (fun i hi hj K => ?_) (fun hn => ?_))
  · refine vLt_placeIn_X0_p2 (s_length0 (bx_f ?_ (s_charAt0 hi ⟨fun hne => K (beq_false_of_ne hne), fun he => h1 i hi (Classical.not_not.mp he).symm⟩)))
    rw [o_le (by decide) (by omega)]
    omega
  · refine vLt_placeIn_X0_p2 (s_length0 (bx_t Int32.le_rfl (h0 (fun k hk e => ?_))))
    have := hn k hk
    rw [e] at this
    simp at this
theorem s_placeIn1 {Ψ : Int32 → e_TI → e_TL → e_TD → Prop} {x : Int32} (h1 : ∀ k, k < 5 → x = Int32.ofNat (gL5 (k + 6)) → Ψ (Int32.ofNat k) I L D) (h0 : (∀ k, k < 5 → x ≠ Int32.ofNat (gL5 (k + 6))) → Ψ (-1) I L D) : e_M 203 [.retAddr 1, .int x] (S0 I L D sc) (e_rI sc Ψ) := by
  refine vLt_placeIn_X1 (loop_F (G := fun i => e_Wp 203 2 [some (.retAddr 1), some (.int x), some (.int i)] [] (S0 I L D sc) 0 0 (e_rI sc Ψ)) (fun k => Int32.ofNat (gL5 (k + 6)) == x) 5 (fun i hi hj K => ?_) (fun hn => ?_))
  · refine vLt_placeIn_X1_p2 (s_length1 (bx_f ?_ (s_charAt1 hi ⟨fun hne => K (beq_false_of_ne hne), fun he => h1 i hi (Classical.not_not.mp he).symm⟩)))
    rw [o_le (by decide) (by omega)]
    omega
  · refine vLt_placeIn_X1_p2 (s_length1 (bx_t Int32.le_rfl (h0 (fun k hk e => ?_))))
    have := hn k hk
    rw [e] at this
    simp at this
theorem s_terrainOf {Ψ : Int32 → e_TI → e_TL → e_TD → Prop} {x : Int32} (H : Ψ (gTI (gKd x)) I L D) : e_M 204 [.int x] (S0 I L D sc) (e_rI sc Ψ) := by
  refine vLt_terrainOf (s_placeIn0 (fun k hk e => bx_f (o_ne1 (by omega)) ?_) (fun hno => bx_t rfl (s_placeIn1 (fun k hk e => ?_) (fun hno2 => ?_))))
  · rw [e, gKd_of (by omega)] at H
    unfold gTI gTk at H
    rw [if_pos (by omega), if_pos hk] at H
    exact H
  · rw [e, gKd_of (by omega)] at H
    unfold gTI gTk at H
    rw [if_pos (by omega), if_neg (by omega), Nat.add_sub_cancel] at H
    exact H
  · have : gKd x = 11 := by
      rcases gKd_cases x with ⟨k, hk, e, h⟩ | ⟨_, h⟩
      · by_cases h6 : k < 6
        · exact absurd e (hno k h6)
        · have := hno2 (k - 6) (by omega)
          rw [show k - 6 + 6 = k by omega] at this
          exact absurd e this
      · exact h
    rw [this] at H
    exact H
theorem s_hasRoad {Ψ : Int32 → e_TI → e_TL → e_TD → Prop} {x : Int32} (H : Ψ (e_b (gRk (gKd x))) I L D) : e_M 209 [.int x] (S0 I L D sc) (e_rI sc Ψ) := by
  refine vLt_hasRoad (s_placeIn1 (fun k hk e => bx_f (o_ne1 (by omega)) ?_) (fun hno => bx_t rfl ?_))
  · rw [e, gKd_of (by omega)] at H
    unfold gRk at H
    rw [decide_eq_true (by omega), decide_eq_true (by omega)] at H
    exact H
  · have : gRk (gKd x) = false := by
      rw [Bool.eq_false_iff]
      intro h
      unfold gRk at h
      simp only [Bool.and_eq_true, decide_eq_true_eq] at h
      rcases gKd_cases x with ⟨k, hk, e, h2⟩ | ⟨_, h2⟩
      · have := hno (k - 6) (by omega)
        rw [show k - 6 + 6 = k by omega] at this
        exact this e
      · omega
    rw [this] at H
    exact H
theorem s_cellAt {Ψ : Int32 → e_TI → e_TL → e_TD → Prop} {n : Nat} (hn : n < 1000000) (H : Ψ (o_opt (gCA n)) I L D) : e_M 195 [.int (Int32.ofNat n)] (S0 I L D sc) (e_rI sc Ψ) := by
  refine vLt_cellAt ?_
  rw [show (10 : Int32) = Int32.ofNat 10 from rfl, o_div (by omega) (by omega), o_mul, o_sub (by omega), show n - n / 10 * 10 = n % 10 by omega, show (9 : Int32) = Int32.ofNat 9 from rfl, o_mul, o_add, o_le (by omega) (by omega)]
  unfold gCA at H
  refine ⟨fun h => ?_, fun h => ?_⟩
  · rw [if_neg (by omega)] at H
    exact H
  · rw [if_pos (by omega)] at H
    exact H
theorem s_letterOf {Ψ : Int32 → e_TI → e_TL → e_TD → Prop} {t : Nat} {r : Bool} (ht : t ≤ 5) (hr : r = true → t < 5) (H : Ψ (Int32.ofNat (gL5 (if r then t + 6 else t))) I L D) : e_M 214 [.int (Int32.ofNat t), .int (e_b r)] (S0 I L D sc) (e_rI sc Ψ) := by
  refine vLt_letterOf (bx_b (fun h0 => bx_f b_nn (s_length0 (bx_f ?_ (s_charAt0 (by omega) ⟨gL5_nar ⟨t, by omega⟩, ?_⟩)))) (fun h0 => bx_f b_nn (s_length1 (bx_f ?_ (s_charAt1 (hr h0) ⟨gL5_nar ⟨t + 6, by have := hr h0; omega⟩, ?_⟩)))))
  · rw [o_le (by decide) (by omega)]
    omega
  · rw [h0] at H
    exact H
  · have := hr h0
    rw [o_le (by decide) (by omega)]
    omega
  · rw [h0] at H
    exact H
/-! the buffer -/
theorem s_canStandAt {Ψ : Int32 → e_TI → e_TL → e_TD → Prop} {i : Nat} {x : Int32} (hi : i < 1000000) (H : Ψ (e_b (gGood i x)) I L D) : e_M 205 [.int (Int32.ofNat i), .int x] (S0 I L D sc) (e_rI sc Ψ) := by
  refine vMi_canStandAt ?_
  rw [show (69 : Int32) = Int32.ofNat 69 from rfl, o_lt (by omega) (by omega)]
  unfold gGood at H
  refine ⟨fun h69 => s_cellAt hi ?_, fun h69 => ?_⟩
  · rw [decide_eq_true h69, Bool.true_and] at H
    unfold gCA
    by_cases h9 : i % 10 < 9
    · rw [if_pos h9] at H ⊢
      refine bx_t (o_ne1 (by omega)) (s_terrainOf ?_)
      unfold gTI
      by_cases hk : gKd x < 11
      · rw [if_pos hk]
        rw [decide_eq_true hk] at H
        exact bx_f (o_ne1 (by unfold gTk; split <;> omega)) H
      · rw [if_neg hk]
        rw [decide_eq_false hk] at H
        exact bx_t rfl H
    · rw [if_neg h9] at H ⊢
      refine bx_f (fun e => e rfl) ⟨fun hne => ?_, fun he => ?_⟩
      · rw [beq_false_of_ne hne] at H
        exact H
      · rw [Classical.not_not.mp he] at H
        exact H
  · rw [decide_eq_false h69] at H
    exact H
theorem s_errorPosition {Ψ : Int32 → e_TI → e_TL → e_TD → Prop} {n : Nat} (hn : n ≤ 80) (hl : I 137 1 = Int32.ofNat n) (h1 : ∀ i, i < n → gGood i (I 138 i) = false → (∀ j, j < i → gGood j (I 138 j) = true) → Ψ (Int32.ofNat i) I L D) (h0 : (∀ j, j < n → gGood j (I 138 j) = true) → Ψ (-1) I L D) : e_M 206 [.ref 137] (S0 I L D sc) (e_rI sc Ψ) := by
  refine vMi_errorPosition (loop_F (G := fun i => e_Wp 206 2 [some (.ref 137), some (.int i)] [] (S0 I L D sc) 0 0 (e_rI sc Ψ)) (fun i => !gGood i (I 138 i)) n (fun i hi hj K => ?_) (fun hno => ?_))
  · refine vMi_errorPosition_p2 ?_
    rw [hl, o_le (by omega) (by omega)]
    refine bx_f (by omega) (bx_f (b_ge (n := 80) (by omega)) ⟨o_in (by omega), ?_⟩)
    rw [o_ix (by omega)]
    refine s_canStandAt (by omega) (bx_n (fun hg => K (by rw [hg]; rfl)) (fun hg => h1 i hi hg (fun j hj2 => ?_)))
    have := hj j hj2
    simpa using this
  · refine vMi_errorPosition_p2 ?_
    rw [hl]
    refine bx_t Int32.le_rfl (h0 (fun j hj => ?_))
    have := hno j hj
    simpa using this
theorem s_letters {Ψ : Int32 → e_TI → e_TL → e_TD → Prop} {n : Nat} (hn : n ≤ 80) (hl : I 137 1 = Int32.ofNat n) (H : Ψ (Int32.ofNat (n - n / 10)) I L D) : e_M 207 [.ref 137] (S0 I L D sc) (e_rI sc Ψ) := by
  refine vMi_letters ?_
  rw [hl, show (10 : Int32) = Int32.ofNat 10 from rfl, o_div (by omega) (by omega), o_sub (by omega)]
  exact H
theorem s_miClear {Ψ : e_TI → e_TL → e_TD → Prop} (H : Ψ (e_up I 137 1 0) L D) : e_M 211 [.ref 137] (S0 I L D sc) (e_rV sc Ψ) := vMi_clear H
theorem gCA_lt {i c : Nat} (hi : i < 69) (h : gCA i = some c) : c < 63 := by
  unfold gCA at h
  split at h
  · cases h
    omega
  · cases h
theorem gGood_kd {i c : Nat} {x : Int32} (hg : gGood i x = true) (h : gCA i = some c) : gKd x < 11 ∧ c < 63 := by
  unfold gGood at hg
  simp only [Bool.and_eq_true, decide_eq_true_eq] at hg
  refine ⟨?_, gCA_lt hg.1 h⟩
  unfold gCA at h
  by_cases h9 : i % 10 < 9
  · rw [if_pos h9] at hg
    exact of_decide_eq_true hg.2
  · rw [if_neg h9] at h
    cases h
theorem s_miWaters {Ψ : Int64 → e_TI → e_TL → e_TD → Prop} {n : Nat} (hn : n ≤ 80) (hl : I 137 1 = Int32.ofNat n) (hg : ∀ j, j < n → gGood j (I 138 j) = true) (H : Ψ (sL fun c => (List.range n).any fun i => gCA i == some c && gKd (I 138 i) == 5) I L D) : e_M 208 [.ref 137] (S0 I L D sc) (e_rL sc Ψ) := by
  refine vMi_waters (loop_L (G := fun y i => e_Wp 208 4 [some (.ref 137), some (.long y), none, some (.int i), none] [] (S0 I L D sc) 0 0 (e_rL sc Ψ)) (fun i c => gCA i == some c && gKd (I 138 i) == 5) n (fun i y hi K0 K1 => ?_) ?_)
  · refine vMi_waters_p4 ?_
    rw [hl, o_le (by omega) (by omega)]
    refine bx_f (by omega) (bx_f (b_ge (n := 80) (by omega)) (s_cellAt (by omega) ?_))
    cases hc : gCA i with
    | none => exact bx_t rfl (K0 (fun c _ => by rw [hc]; rfl))
    | some c =>
      obtain ⟨hk, hc63⟩ := gGood_kd (hg i hi) hc
      refine bx_f (o_ne1 (by omega)) ⟨o_in (by omega), ?_⟩
      rw [o_ix (by omega)]
      refine s_terrainOf ?_
      unfold gTI
      rw [if_pos hk]
      refine ⟨fun hne => K0 (fun a _ => ?_), fun he => s_only hc63 (K1 _ (fun a _ => ?_))⟩
      · have : gKd (I 138 i) ≠ 5 := fun e => hne (by rw [e]; rfl)
        rw [beq_false_of_ne this, Bool.and_false]
      · have h5 : gTk (gKd (I 138 i)) = 5 := (o_eq (by unfold gTk; split <;> omega) (by decide)).mp (Classical.not_not.mp he)
        have : gKd (I 138 i) = 5 := by
          unfold gTk at h5
          split at h5 <;> omega
        rw [this, hc]
        simp only [beq_self_eq_true, Bool.and_true]
        rw [Bool.eq_iff_iff, beq_iff_eq, beq_iff_eq, Option.some.injEq]
        exact ⟨fun e => e.symm, fun e => e.symm⟩
  · refine vMi_waters_p4 ?_
    rw [hl]
    exact bx_t Int32.le_rfl H
/-- the map that a text tells -/
def gRead (s : Nat → Int32) (f : Nat → Int32) : Nat → (Nat → Int32)
  | 0 => s
  | i + 1 => match gCA i with
    | none => gRead s f i
    | some c => gShape (gRead s f i) c (gTk (gKd (f i))) (gRk (gKd (f i)))
theorem s_shapeAll {Ψ : e_TI → e_TL → e_TD → Prop} {s : Nat → Int32} (h : GR I L s) {n : Nat} (hn : n ≤ 80) (hl : I 137 1 = Int32.ofNat n) (hg : ∀ j, j < n → gGood j (I 138 j) = true) (H : ∀ L', Fr 2 14 I L I L' → GR I L' (gRead s (I 138) n) → Ψ I L' D) : e_M 210 [.ref 137, .ref 3] (S0 I L D sc) (e_rV sc Ψ) := by
  refine vMi_shapeAll ?_
  have key : ∀ i, i ≤ n → ∀ L', Fr 2 14 I L I L' → GR I L' (gRead s (I 138) i) → e_Wp 210 2 [some (.ref 137), some (.ref 3), some (.int (Int32.ofNat i)), none] [] (S0 I L' D sc) 0 0 (e_rV sc Ψ) := by
    refine e_downInd n (fun i hi ih L' hF hR => ?_) (fun L' hF hR => ?_)
    · refine vMi_shapeAll_p2 ?_
      rw [hl, o_le (by omega) (by omega)]
      refine bx_f (by omega) (bx_f (b_ge (n := 80) (by omega)) (s_cellAt (by omega) ?_))
      rw [o_s]
      cases hc : gCA i with
      | none =>
        refine bx_t rfl (ih L' hF ?_)
        show GR I L' (match gCA i with | none => _ | some c => _)
        rw [hc]
        exact hR
      | some c =>
        obtain ⟨hk, hc63⟩ := gGood_kd (hg i hi) hc
        refine bx_f (o_ne1 (by omega)) ⟨o_in (by omega), ?_⟩
        rw [o_ix (by omega)]
        refine s_terrainOf ⟨o_in (by omega), ?_⟩
        refine s_hasRoad ?_
        unfold gTI
        rw [if_pos hk]
        refine s_shape hR hc63 (by unfold gTk; split <;> omega) (fun hr => ?_) (fun L2 hF2 hR2 => ih L2 (hF.tr hF2) ?_)
        · unfold gRk at hr
          simp only [Bool.and_eq_true, decide_eq_true_eq] at hr
          unfold gTk
          rw [if_neg (by omega)]
          omega
        · show GR I L2 (match gCA i with | none => _ | some c => _)
          rw [hc]
          exact hR2
    · refine vMi_shapeAll_p2 ?_
      rw [hl]
      exact bx_t Int32.le_rfl (H L' hF hR)
  exact key 0 (Nat.zero_le _) L Fr.rf h
theorem s_miAppend {Ψ : Int32 → e_TI → e_TL → e_TD → Prop} {n : Nat} {x : Int32} (hn : n < 80) (hl : I 137 1 = Int32.ofNat n) (H : Ψ (Int32.ofNat (n + 1)) (e_up (e_up I 138 n (vp_nar .char x)) 137 1 (Int32.ofNat (n + 1))) L D) : e_M 192 [.ref 137, .int x] (S0 I L D sc) (e_rI sc Ψ) := by
  refine vMi_append ?_
  rw [hl, o_s, o_ix (by omega)]
  exact bx_f b_nn (bx_f (b_ge hn) ⟨o_in hn, H⟩)
theorem s_miIsFull {Ψ : Int32 → e_TI → e_TL → e_TD → Prop} {n : Nat} (hn : n ≤ 80) (hl : I 137 1 = Int32.ofNat n) (H : Ψ (e_b (n == 80)) I L D) : e_M 191 [.ref 137] (S0 I L D sc) (e_rI sc Ψ) := by
  refine vMi_isFull ?_
  rw [hl, show (80 : Int32) = Int32.ofNat 80 from rfl, o_lt (by omega) (by omega)]
  refine ⟨fun h => ?_, fun h => ?_⟩
  · rw [beq_false_of_ne (by omega : n ≠ 80)] at H
    exact H
  · rw [show n = 80 by omega] at H
    exact H
/-! the report -/
theorem s_rpAppend {Ψ : e_TI → e_TL → e_TD → Prop} {l : Nat} {x y : Int32} (hl3 : l < 3) (hl : I 134 2 = Int32.ofNat l) (H : Ψ (e_up (e_up (e_up I 135 l x) 136 l y) 134 2 (Int32.ofNat (l + 1))) L D) : e_M 146 [.ref 134, .int x, .int y] (S0 I L D sc) (e_rV sc Ψ) := by
  refine vRp_append ?_
  rw [hl]
  refine bx_f (b_ge hl3) (s_write_135 hl3 ?_)
  rw [up_cell (f := I) (c := 135) (d := 134) (by decide), hl]
  refine s_write_136 hl3 ?_
  rw [up_cell (f := e_up I 135 l x) (c := 136) (d := 134) (by decide), up_cell (f := I) (c := 135) (d := 134) (by decide), hl, o_s]
  exact H
theorem s_rpBegin {Ψ : e_TI → e_TL → e_TD → Prop} {u : Int32} (H : Ψ (e_up (e_up (e_up (e_up I 134 2 0) 135 0 1) 136 0 u) 134 2 (Int32.ofNat 1)) L D) : e_M 147 [.ref 134, .int u] (S0 I L D sc) (e_rV sc Ψ) :=
  vRp_begin (s_rpAppend (l := 0) (by decide) up_same H)
end
