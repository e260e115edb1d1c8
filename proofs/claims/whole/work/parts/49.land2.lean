/-! the class's land changed, a unit added, a new game -/
theorem RC.land {I : e_TI} {L L' : e_TL} {s s' : Nat → Int32} (h : RC 2 I L s) (hs : ∀ j, 189 ≤ j → s' j = s j) (k1 : ∀ t, t < 6 → L' 4 t = sL fun c => decide (c < 63) && gTer s' c == t) (k2 : ∀ d, d < 2 → L' 5 d = sL (gSrc s' d)) (k3 : L' 3 2 = sL (gRd s')) : RC 2 I L' s' := by
  have gs : ∀ j, 189 ≤ j → gn s' j = gn s j := fun j hj => by unfold gn; rw [hs j hj]
  have e1 : gMa s' = gMa s := gs 196 (by decide)
  have e2 : gU s' = gU s := by funext v; unfold gU gSt; rw [e1, gs _ (by omega)]
  have e3 : gSd s' = gSd s := by funext v; unfold gSd; rw [gs _ (by omega)]
  have e4 : gMd s' = gMd s := by funext v; unfold gMd; rw [gs _ (by omega)]
  have e5 : gAt s' = gAt s := by funext v; unfold gAt; rw [gs _ (by omega)]
  obtain ⟨r1, r2, r3, r4, r9, r10, r11⟩ := id h
  refine h.of k1 k2 k3 ?_ (fun v hv => ?_) (fun d hd => ?_) ?_
  · rw [e1, e2, e3, e4, e5, hs _ (by decide)]
    exact r4
  · rw [e1] at hv
    rw [hs _ (by omega), hs _ (by omega), hs _ (by omega)]
    exact r9 v hv
  · rw [hs _ (by omega), hs _ (by omega), hs _ (by omega), hs _ (by omega)]
    exact r10 d hd
  · rw [hs _ (by decide), hs _ (by decide), hs _ (by decide), hs _ (by decide), hs _ (by decide), hs _ (by decide), hs _ (by decide)]
    exact r11
theorem gok.land {s s' : Nat → Int32} (hk : gok s) (hs : ∀ j, 189 ≤ j → s' j = s j) (h : ∀ c, c < 63 → gb s' c 5 ∧ gb s' (63 + c) 1 ∧ gb s' (126 + c) 3 ∧ (gRd s' c = true → gTer s' c < 5)) : gok s' := by
  have gs : ∀ j, 189 ≤ j → gn s' j = gn s j := fun j hj => by unfold gn; rw [hs j hj]
  have bs : ∀ j b, 189 ≤ j → gb s j b → gb s' j b := fun j b hj hb => by
    unfold gb at hb ⊢
    rw [gs j hj, hs j hj]
    exact hb
  obtain ⟨h1, h2, ⟨h3, h3'⟩, h4, h5, h6⟩ := hk
  refine ⟨h, bs _ _ (by decide) h2, ⟨bs _ _ (by decide) h3, ?_⟩, bs _ _ (by decide) h4, bs _ _ (by decide) h5, fun v hv => ?_⟩
  · unfold gRg at h3' ⊢
    rw [gs _ (by decide)]
    exact h3'
  · unfold gMa at hv
    rw [gs _ (by decide)] at hv
    obtain ⟨c0, c1, c2, c3, c4, c5⟩ := h6 v hv
    exact ⟨bs _ _ (by omega) c0, bs _ _ (by omega) c1, bs _ _ (by omega) c2, bs _ _ (by omega) c3, bs _ _ (by omega) c4, bs _ _ (by omega) c5⟩
def gShape (s : Nat → Int32) (c t : Nat) (r : Bool) : Nat → Int32 := gset (gset s c (Int32.ofNat t)) (63 + c) (e_b r)
theorem e_bN (b : Bool) : e_b b = Int32.ofNat (if b then 1 else 0) := by cases b <;> rfl
section
variable {s : Nat → Int32} {c t : Nat} {r : Bool}
theorem gShape_ter (hc : c < 63) (ht : t ≤ 5) {a : Nat} (ha : a < 63) : gTer (gShape s c t r) a = if a = c then t else gTer s a := by
  unfold gShape gTer
  rw [gn_ne (by omega)]
  by_cases e : a = c
  · subst e
    rw [gn_eq, o_ix (by omega), if_pos rfl]
  · rw [gn_ne e, if_neg e]
theorem gShape_rd (hc : c < 63) {a : Nat} (ha : a < 63) : gRd (gShape s c t r) a = if a = c then r else gRd s a := by
  unfold gShape gRd
  rw [decide_eq_true ha, Bool.true_and, Bool.true_and]
  by_cases e : a = c
  · subst e
    rw [gn_eq, if_pos rfl]
    cases r <;> rfl
  · rw [gn_ne (by omega), gn_ne (by omega), if_neg e]
theorem gShape_src (d : Nat) (hc : c < 63) : gSrc (gShape s c t r) d = gSrc s d := by
  unfold gShape
  rw [gSrc_ne (by omega), gSrc_ne (by omega)]
theorem gok.shape (hk : gok s) (hc : c < 63) (ht : t ≤ 5) (hr : r = true → t < 5) : gok (gShape s c t r) := by
  refine hk.land (fun j hj => ?_) (fun a ha => ?_)
  · unfold gShape
    rw [gset_ne (by omega), gset_ne (by omega)]
  · obtain ⟨b1, b2, b3, b4⟩ := hk.1 a ha
    refine ⟨?_, ?_, ?_, ?_⟩
    · unfold gShape
      exact gb_ne (by omega) (gb_set (fun _ => ht) (by decide) b1)
    · unfold gShape
      rw [e_bN]
      refine gb_set (fun _ => ?_) (by decide) (gb_ne (by omega) b2)
      split <;> decide
    · unfold gShape
      exact gb_ne (by omega) (gb_ne (by omega) b3)
    · rw [gShape_ter hc ht ha, gShape_rd hc ha]
      by_cases e : a = c
      · rw [if_pos e, if_pos e]; exact hr
      · rw [if_neg e, if_neg e]; exact b4
end
def gSrcV (n d : Nat) (b : Bool) : Nat := (n &&& (3 - 2 ^ d)) + (if b then 2 ^ d else 0)
def gSrcS (s : Nat → Int32) (c d : Nat) (b : Bool) : Nat → Int32 := gset s (126 + c) (Int32.ofNat (gSrcV (gn s (126 + c)) d b))
theorem gSrcV_ok {n d e : Nat} (hn : n ≤ 3) (hd : d ≤ 1) (he : e ≤ 1) (b : Bool) : gSrcV n d b ≤ 3 ∧ (gSrcV n d b).testBit e = if e = d then b else n.testBit e := by
  have h1 : n = 0 ∨ n = 1 ∨ n = 2 ∨ n = 3 := by omega
  have h2 : d = 0 ∨ d = 1 := by omega
  have h3 : e = 0 ∨ e = 1 := by omega
  rcases h1 with rfl | rfl | rfl | rfl <;> rcases h2 with rfl | rfl <;> rcases h3 with rfl | rfl <;> cases b <;> decide
theorem gSrcS_src {s : Nat → Int32} {c d e : Nat} {b : Bool} (hc : c < 63) (hn : gn s (126 + c) ≤ 3) (hd : d ≤ 1) (he : e ≤ 1) (a : Nat) : gSrc (gSrcS s c d b) e a = if a = c ∧ e = d then b else gSrc s e a := by
  obtain ⟨v, hv⟩ : ∃ v, v = gSrcV (gn s (126 + c)) d b := ⟨_, rfl⟩
  have t1 := (gSrcV_ok hn hd he b).1
  have t2 := (gSrcV_ok hn hd he b).2
  rw [← hv] at t1 t2
  unfold gSrc gSrcS
  rw [← hv]
  by_cases ha : a < 63
  · rw [decide_eq_true ha, Bool.true_and, Bool.true_and]
    by_cases ea : a = c
    · subst ea
      rw [gn_eq, o_ix (by omega), t2]
      by_cases e2 : e = d
      · rw [if_pos e2, if_pos ⟨rfl, e2⟩]
      · rw [if_neg e2, if_neg (fun h => e2 h.2)]
    · rw [gn_ne (by omega), if_neg (fun h => ea h.1)]
  · rw [decide_eq_false ha, if_neg (by omega), Bool.false_and, Bool.false_and]
theorem gok.src {s : Nat → Int32} (hk : gok s) {c d : Nat} {b : Bool} (hc : c < 63) (hd : d ≤ 1) : gok (gSrcS s c d b) := by
  have hn := (hk.1 c hc).2.2.1.2
  have t1 := (gSrcV_ok hn hd hd b).1
  refine hk.land (fun j hj => ?_) (fun a ha => ?_)
  · unfold gSrcS
    rw [gset_ne (by omega)]
  · obtain ⟨b1, b2, b3, b4⟩ := hk.1 a ha
    unfold gSrcS
    refine ⟨gb_ne (by omega) b1, gb_ne (by omega) b2, gb_set (fun _ => t1) (by decide) b3, ?_⟩
    rw [gRd_ne (by omega), gTer_ne (by omega)]
    exact b4
section
variable {I : e_TI} {L : e_TL} {D : e_TD} {sc : e_TS} {s : Nat → Int32}
theorem s_shape {Ψ : e_TI → e_TL → e_TD → Prop} (h : GR I L s) {c t : Nat} {r : Bool} (hc : c < 63) (ht : t ≤ 5) (hr : r = true → t < 5) (H : ∀ L', Fr 2 14 I L I L' → GR I L' (gShape s c t r) → Ψ I L' D) : e_M 63 [.ref 3, .int (Int32.ofNat c), .int (Int32.ofNat t), .int (e_b r)] (S0 I L D sc) (e_rV sc Ψ) := by
  refine vLd_shape (s_only hc ?_)
  have hs : ∀ j, 189 ≤ j → gShape s c t r j = s j := fun j hj => by unfold gShape; rw [gset_ne (by omega), gset_ne (by omega)]
  have kn : ∀ k, k < 6 → (sL fun a => decide (a < 63) && gTer (gShape s c t r) a == k) = if k = t then L 4 k ||| sL (fun i => i == c) else L 4 k &&& (sL (fun i => i == c) ^^^ -1) := by
    intro k hk
    rw [h.kind hk, sL_not, sL_or, sL_and]
    split
    · rename_i e
      refine sL_congr fun a _ => ?_
      by_cases ha : a < 63
      · rw [gShape_ter hc ht ha, decide_eq_true ha]
        by_cases e2 : a = c
        · rw [if_pos e2, e2, e]; simp
        · rw [if_neg e2, beq_false_of_ne e2, Bool.or_false]
      · rw [decide_eq_false ha, beq_false_of_ne (by omega : a ≠ c)]
        rfl
    · rename_i e
      refine sL_congr fun a _ => ?_
      by_cases ha : a < 63
      · rw [gShape_ter hc ht ha, decide_eq_true ha]
        by_cases e2 : a = c
        · rw [if_pos e2, e2, beq_false_of_ne (by omega : t ≠ k)]; simp
        · rw [if_neg e2, beq_false_of_ne e2]; simp
      · rw [decide_eq_false ha]
        rfl
  have key : ∀ i, i ≤ 6 → ∀ L', Fr 2 14 I L I L' → (∀ k, k < i → L' 4 k = sL fun a => decide (a < 63) && gTer (gShape s c t r) a == k) → (∀ k, i ≤ k → L' 4 k = L 4 k) → L' 5 = L 5 → L' 3 = L 3 → e_Wp 63 9 [some (.ref 3), some (.int (Int32.ofNat c)), some (.int (Int32.ofNat t)), some (.int (e_b r)), some (.long (sL fun i => i == c)), none, some (.int (Int32.ofNat i))] [] (S0 I L' D sc) 0 0 (e_rV sc Ψ) := by
    refine e_downInd 6 (fun i hi ih L' hF h1 h2 h5 h3 => ?_) (fun L' hF h1 h2 h5 h3 => ?_)
    · have go : ∀ x, x = (sL fun a => decide (a < 63) && gTer (gShape s c t r) a == i) → e_Wp 63 9 [some (.ref 3), some (.int (Int32.ofNat c)), some (.int (Int32.ofNat t)), some (.int (e_b r)), some (.long (sL fun i => i == c)), none, some (.int (Int32.ofNat i + 1))] [] (S0 I (e_up L' 4 i x) D sc) 0 0 (e_rV sc Ψ) := by
        intro x e
        rw [o_s]
        refine ih _ (hF.upL (by decide)) (fun k hk => ?_) (fun k hk => ?_) (by rw [up_cell (by decide)]; exact h5) (by rw [up_cell (by decide)]; exact h3)
        · by_cases e2 : k = i
          · rw [e2, up_same, e]
          · rw [up_slot e2]
            exact h1 k (by omega)
        · rw [up_slot (by omega)]
          exact h2 k (by omega)
      refine vLd_shape_p9 (bx_f (b_ge hi) ⟨fun hne => ⟨o_in hi, o_in hi, ?_⟩, fun he => ⟨o_in hi, o_in hi, ?_⟩⟩)
      · have : ¬ i = t := fun e => hne (by rw [e])
        rw [o_ix (by omega), h2 i (Nat.le_refl _)]
        refine go _ ?_
        rw [kn i hi, if_neg this]
      · have : i = t := (o_eq (by omega) (by omega)).mp (Classical.not_not.mp he)
        rw [o_ix (by omega), h2 i (Nat.le_refl _)]
        refine go _ ?_
        rw [kn i hi, if_pos this]
    · have fin : ∀ x, x = sL (gRd (gShape s c t r)) → Ψ I (e_up L' 3 2 x) D := by
        intro x e
        refine H _ (hF.upL (by decide)) ⟨h.1.shape hc ht hr, h.2.land hs (fun k hk => ?_) (fun d hd => ?_) ?_⟩
        · rw [up_cell (by decide)]
          exact h1 k hk
        · rw [up_cell (by decide), h5, gShape_src d hc]
          exact h.src hd
        · rw [up_same, e]
      refine vLd_shape_p9 (bx_t (b_self 6) ?_)
      rw [h3, h.road, sL_not, sL_and, sL_or]
      refine bx_b (fun h0 => fin _ (sL_congr fun a _ => ?_)) (fun h0 => fin _ (sL_congr fun a _ => ?_))
      · by_cases ha : a < 63
        · rw [gShape_rd hc ha]
          by_cases e : a = c
          · rw [if_pos e, h0, e]; simp
          · rw [if_neg e, beq_false_of_ne e]; simp
        · simp [gRd, ha]
      · by_cases ha : a < 63
        · rw [gShape_rd hc ha]
          by_cases e : a = c
          · rw [if_pos e, h0, e]; simp
          · rw [if_neg e, beq_false_of_ne e]; simp
        · rw [beq_false_of_ne (by omega : a ≠ c)]
          simp [gRd, ha]
  exact key 0 (by omega) L Fr.rf (fun k hk => absurd hk (Nat.not_lt_zero _)) (fun k _ => rfl) rfl rfl
theorem s_markSource {Ψ : e_TI → e_TL → e_TD → Prop} (h : GR I L s) {c d : Nat} {b : Bool} (hc : c < 63) (hd : d ≤ 1) (H : ∀ L', Fr 2 14 I L I L' → GR I L' (gSrcS s c d b) → Ψ I L' D) : e_M 67 [.ref 3, .int (Int32.ofNat c), .int (Int32.ofNat d), .int (e_b b)] (S0 I L D sc) (e_rV sc Ψ) := by
  have hs : ∀ j, 189 ≤ j → gSrcS s c d b j = s j := fun j hj => by unfold gSrcS; rw [gset_ne (by omega)]
  have hk : gok (gSrcS s c d b) := h.1.src hc hd
  have src : ∀ e, e ≤ 1 → ∀ a, gSrc (gSrcS s c d b) e a = if a = c ∧ e = d then b else gSrc s e a := fun e he a => gSrcS_src hc (h.1.1 c hc).2.2.1.2 hd he a
  have fin : ∀ x, x = sL (gSrc (gSrcS s c d b) d) → Ψ I (e_up L 5 d x) D := by
    intro x e
    refine H _ (Fr.rf.upL (by decide)) ⟨hk, h.2.land hs (fun k hk2 => ?_) (fun e2 he2 => ?_) ?_⟩
    · rw [up_cell (by decide), h.kind hk2]
      refine sL_congr fun a _ => ?_
      by_cases ha : a < 63
      · unfold gSrcS
        rw [gTer_ne (by omega)]
      · simp [ha]
    · by_cases e3 : e2 = d
      · rw [e3, up_same, e]
      · rw [up_slot e3, h.src he2]
        refine sL_congr fun a _ => ?_
        rw [src e2 (by omega) a, if_neg (fun h => e3 h.2)]
    · rw [up_cell (by decide), h.road]
      unfold gSrcS
      rw [gRd_ne (by omega)]
  refine vLd_markSource (s_only hc (bx_f b_nn (bx_f (b_ge (n := 2) (by omega)) ?_)))
  rw [o_ix (by omega), h.src (by omega), sL_not, sL_and, sL_or]
  refine bx_b (fun h0 => ⟨o_in (by omega), o_in (by omega), fin _ (sL_congr fun a _ => ?_)⟩) (fun h0 => ⟨o_in (by omega), o_in (by omega), fin _ (sL_congr fun a _ => ?_)⟩)
  · rw [src d hd a]
    by_cases ea : a = c
    · rw [if_pos ⟨ea, rfl⟩, h0, ea]; simp
    · rw [if_neg (fun h => ea h.1), beq_false_of_ne ea]; simp
  · rw [src d hd a]
    by_cases ea : a = c
    · rw [if_pos ⟨ea, rfl⟩, h0, ea]; simp
    · rw [if_neg (fun h => ea h.1), beq_false_of_ne ea]; simp
end
