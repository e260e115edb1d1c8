/-! the reference: an attack -/
theorem and1I (x : Int32) : x &&& 1 = 0 ∨ x &&& 1 = 1 := by
  have h4 : (1 : Int32) = sI (fun i => i == 0) := by decide +kernel
  obtain ⟨p, hp⟩ : ∃ p, x = sI p := ⟨_, sI_of x⟩
  rw [hp, h4, sI_and]
  by_cases h : p 0 = true
  · right
    refine sI_congr (fun i _ => ?_)
    by_cases e : i = 0
    · rw [e, h]; rfl
    · rw [beq_false_of_ne e, Bool.and_false]
  · left
    rw [sI_eq0]
    intro i _
    by_cases e : i = 0
    · rw [e, Bool.eq_false_iff.mpr h]; rfl
    · rw [beq_false_of_ne e, Bool.and_false]
theorem sI_bit (p : Nat → Bool) (c : Nat) (hc : c < 31) : (sI p >>> (Int32.ofNat c &&& 31)) &&& 1 = e_b (p c) := by
  cases h : p c with
  | true => exact (sI_sar p c hc).mpr h
  | false =>
    rcases and1I (sI p >>> (Int32.ofNat c &&& 31)) with h0 | h1
    · exact h0
    · rw [sI_sar p c hc, h] at h1
      cases h1
def gAttI (s : Nat → Int32) (q : Nat → Bool) (i : Nat) : Nat → Int32 := fun j => if 205 ≤ j ∧ (j - 205) % 6 = 5 ∧ (j - 205) / 6 < i ∧ q ((j - 205) / 6) = true then 1 else s j
theorem gAttI_0 (s : Nat → Int32) (q : Nat → Bool) : gAttI s q 0 = s := by
  funext j
  unfold gAttI
  rw [if_neg (fun h => Nat.not_lt_zero _ h.2.2.1)]
theorem gAttI_s (s : Nat → Int32) (q : Nat → Bool) (i : Nat) (b : Bool) (hb : s (205 + 6 * i + 5) = e_b b) : gset (gAttI s q i) (205 + 6 * i + 5) (gAttI s q i (205 + 6 * i + 5) ||| e_b (q i)) = gAttI s q (i + 1) := by
  have d1 : (205 + 6 * i + 5 - 205) % 6 = 5 := by omega
  have d2 : (205 + 6 * i + 5 - 205) / 6 = i := by omega
  funext j
  by_cases e : j = 205 + 6 * i + 5
  · rw [e, gset_eq]
    unfold gAttI
    rw [d1, d2, if_neg (fun h => Nat.lt_irrefl _ h.2.2.1), hb]
    cases hq : q i with
    | true =>
      rw [if_pos ⟨by omega, rfl, Nat.lt_succ_self i, rfl⟩]
      cases b <;> decide
    | false =>
      rw [if_neg (fun h => Bool.false_ne_true h.2.2.2)]
      exact orI0 _
  · rw [gset_ne e]
    unfold gAttI
    by_cases h : 205 ≤ j ∧ (j - 205) % 6 = 5 ∧ (j - 205) / 6 < i ∧ q ((j - 205) / 6) = true
    · rw [if_pos h, if_pos ⟨h.1, h.2.1, Nat.lt_succ_of_lt h.2.2.1, h.2.2.2⟩]
    · rw [if_neg h, if_neg (fun h2 => h ⟨h2.1, h2.2.1, by omega, h2.2.2.2⟩)]
theorem gok.atts {s : Nat → Int32} (hk : gok s) (q : Nat → Bool) (i : Nat) : gok (gAttI s q i) := by
  refine hk.marks (fun j hj => ?_) (fun j h1 h2 => ?_)
  · unfold gAttI
    rw [if_neg (by omega)]
  · unfold gAttI
    by_cases h : 205 ≤ j ∧ (j - 205) % 6 = 5 ∧ (j - 205) / 6 < i ∧ q ((j - 205) / 6) = true
    · rw [if_pos h]
      exact Or.inr (Or.inr rfl)
    · rw [if_neg h]
      exact Or.inl rfl
theorem gAttI_ma (s : Nat → Int32) (q : Nat → Bool) (i : Nat) : gMa (gAttI s q i) = gMa s := by
  unfold gMa gn gAttI
  rw [if_neg (by omega)]
theorem gRetr_ma {s : Nat → Int32} (hk : gok s) {f v : Nat} (hv : v < gMa s) : gMa (gRetr f v s) = gMa s := by
  have hsd : gSd s v ≤ 1 := (hk.2.2.2.2.2 v hv).1.2
  unfold gRetr
  split
  · split
    · exact gLose_ma hsd (by decide)
    · exact gMa_ne (by omega)
  · rfl
section
variable {I : e_TI} {L : e_TL} {D : e_TD} {sc : e_TS} {s : Nat → Int32} {w : Wd}
theorem s_M_retAll {Ψ : Int32 → e_TI → e_TL → e_TD → Prop} (h : MR I s) {q : Nat → Bool} (hq : ∀ v, q v = true → v < gMa s) {f : Nat} (hf : f < 63) {x2 x3 x5 x6 : Int32} (H : ∀ I', FrO I I' → MR I' (gRetAll s q f) → Ψ 2 I' L D) : e_Wp 293 123 [some (.ref 139), some (.int (Int32.ofNat f)), some (.int x2), some (.int x3), some (.int (sI q)), some (.int x5), some (.int x6), some (.int 0)] [] (S0 I L D sc) 0 0 (e_rI sc Ψ) := by
  have hma := h.ma
  have key : ∀ i, i ≤ gMa s → ∀ I', FrO I I' → MR I' (gEach (gRetr f) q i s) → gMa (gEach (gRetr f) q i s) = gMa s → e_Wp 293 123 [some (.ref 139), some (.int (Int32.ofNat f)), some (.int x2), some (.int x3), some (.int (sI q)), some (.int x5), some (.int x6), some (.int (Int32.ofNat i))] [] (S0 I' L D sc) 0 0 (e_rI sc Ψ) := by
    refine e_downInd (G := fun i => ∀ I', FrO I I' → MR I' (gEach (gRetr f) q i s) → gMa (gEach (gRetr f) q i s) = gMa s → e_Wp 293 123 [some (.ref 139), some (.int (Int32.ofNat f)), some (.int x2), some (.int x3), some (.int (sI q)), some (.int x5), some (.int x6), some (.int (Int32.ofNat i))] [] (S0 I' L D sc) 0 0 (e_rI sc Ψ)) (gMa s) (fun i hi ih I' hF hR hM => ?_) (fun I' hF hR hM => ?_)
    · have hgo := hR.go (i := i) (by omega)
      refine vM_attack_p123 (bx_f hgo ⟨fun hn => ?_, fun he => s_M_isU hR (by omega) (bx_b (fun h0 => ?_) (fun h1 => ?_))⟩)
      · rw [sI_sar q i (by omega), Bool.not_eq_true] at hn
        rw [o_s]
        exact ih I' hF (by rw [gEach_s0 hn]; exact hR) (by rw [gEach_s0 hn]; exact hM)
      · rw [Classical.not_not, sI_sar q i (by omega)] at he
        rw [o_s]
        exact ih I' hF (by rw [gEach_s1 he, gRetr_no h0]; exact hR) (by rw [gEach_s1 he, gRetr_no h0]; exact hM)
      · rw [Classical.not_not, sI_sar q i (by omega)] at he
        refine s_M_retreat hR h1 hf (fun I2 hF2 hR2 => ?_)
        rw [o_s]
        exact ih I2 (hF.tr hF2) (by rw [gEach_s1 he]; exact hR2) (by rw [gEach_s1 he, gRetr_ma hR.1 (by omega)]; exact hM)
    · have hend : I' 140 196 ≤ Int32.ofNat (gMa s) := by
        have := hR.end
        rwa [hM] at this
      refine vM_attack_p123 (bx_t hend (H I' hF ?_))
      unfold gRetAll
      rw [gEach_up (n := gMa s) (fun v hv => by
        cases hqv : q v with
        | false => rfl
        | true => exact absurd (hq v hqv) (by omega)) 16 hma]
      exact hR
  exact key 0 (Nat.zero_le _) I FrO.rf h rfl
theorem gLoseAll_ma (hk : gok s) {q : Nat → Bool} (hq : ∀ v, q v = true → v < gMa s) : gok (gLoseAll s q) ∧ gMa (gLoseAll s q) = gMa s := by
  have key : ∀ n, gok (gEach (fun u s => gLose s u 1 1) q n s) ∧ gMa (gEach (fun u s => gLose s u 1 1) q n s) = gMa s := by
    intro n
    induction n with
    | zero => exact ⟨hk, rfl⟩
    | succ n ih =>
      cases hqn : q n with
      | false =>
        rw [gEach_s0 hqn]
        exact ih
      | true =>
        rw [gEach_s1 hqn]
        have hlt : n < gMa (gEach (fun u s => gLose s u 1 1) q n s) := by rw [ih.2]; exact hq n hqn
        have hsd := (ih.1.2.2.2.2.2 n hlt).1.2
        exact ⟨ih.1.lose hlt (by decide) (by decide), by rw [gLose_ma hsd (by decide)]; exact ih.2⟩
  exact key 16
/-- the fight, behind the change -/
theorem s_M_fight {Ψ : Int32 → e_TI → e_TL → e_TD → Prop} (h : MR I s) {f t : Nat} (hf : f < 63) (ht : t < 63) (ha : ∃ u, gAtk s f u = true) (hd : ∃ u, gDef s t u = true) (H : ∀ I', FQ I L I' L → MR I' (gFight s f t) → I' 139 5 = I 139 5 → Ψ (Int32.ofNat (gRes s f t)) I' L D) :
    e_M 283 [.ref 139, .int (Int32.ofNat f)] (S0 I L D sc) (e_rI sc (fun r3 I3 L3 D3 => e_M 284 [.ref 139, .int (Int32.ofNat t)] (S0 I3 L3 D3 sc) (e_rI sc (fun r4 I4 L4 D4 => e_M 288 [.ref 139, .int (Int32.ofNat f)] (S0 I4 L4 D4 sc) (e_rI sc (fun r5 I5 L5 D5 => e_M 287 [.ref 139, .int (Int32.ofNat t)] (S0 I5 L5 D5 sc) (e_rI sc (fun r6 I6 L6 D6 => e_Wp 293 65 [some (.ref 139), some (.int (Int32.ofNat f)), some (.int (Int32.ofNat t)), some (.int r3), some (.int r4), some (.int r5), some (.int r6), some (.int 0)] [] (S0 (e_up I6 140 195 ((I6 140 195) + 1)) L6 D6 sc) 0 0 (e_rI sc Ψ))))))))) := by
  have hma := h.ma
  refine s_M_attackers h hf (s_M_attacked h ht (s_M_attackFrom h hf (fun I1 hF1 => s_M_defense (h.fr hF1 (by decide)) ht (fun I2 hF2 => ?_))))
  have h2 := (h.fr hF1 (by decide)).fr hF2 (by decide)
  have hF12 := hF1.tr hF2
  have Q12 : FQ I L I2 L := FQ.sup hF12
  have thr2 : I2 139 5 = I 139 5 := by rw [(hF12 139 (by decide)).1]
  have e195 : I2 140 195 = s 195 := by rw [h2.2]
  rw [e195]
  obtain ⟨s1, hs1⟩ : ∃ s1, gset s 195 (s 195 + 1) = s1 := ⟨_, rfl⟩
  have hk1 : gok s1 := by rw [← hs1]; exact h.1.low (by decide)
  have hU1 : gU s1 = gU s := by rw [← hs1]; exact gU_low (by decide) (by decide)
  have hM1 : gMa s1 = gMa s := by rw [← hs1]; exact gMa_ne (by decide)
  have hat1 : ∀ v, v < gMa s → s1 (205 + 6 * v + 5) = e_b (gAt s v) := fun v hv => by
    rw [← hs1, gset_ne (by omega), gb_b (h.un hv).2.2.2.2.2]
    rfl
  have hq1 : ∀ v, gAtk s f v = true → gU s v = true := fun v hv => gAtk_U hv
  have hq2 : ∀ v, gDef s t v = true → gU s v = true := fun v hv => gDef_U hv
  have marks : ∀ i, i ≤ gMa s → ∀ I', FrO I2 I' → I' 140 = gAttI s1 (gAtk s f) i → e_Wp 293 65 [some (.ref 139), some (.int (Int32.ofNat f)), some (.int (Int32.ofNat t)), some (.int (sI (gAtk s f))), some (.int (sI (gDef s t))), some (.int (gAttack s f)), some (.int (Int32.ofNat (gDefense s t))), some (.int (Int32.ofNat i))] [] (S0 I' L D sc) 0 0 (e_rI sc Ψ) := by
    refine e_downInd (G := fun i => ∀ I', FrO I2 I' → I' 140 = gAttI s1 (gAtk s f) i → e_Wp 293 65 [some (.ref 139), some (.int (Int32.ofNat f)), some (.int (Int32.ofNat t)), some (.int (sI (gAtk s f))), some (.int (sI (gDef s t))), some (.int (gAttack s f)), some (.int (Int32.ofNat (gDefense s t))), some (.int (Int32.ofNat i))] [] (S0 I' L D sc) 0 0 (e_rI sc Ψ)) (gMa s) (fun i hi ih I' hF hrow => ?_) (fun I' hF hrow => ?_)
    · have hR : MR I' (gAttI s1 (gAtk s f) i) := ⟨hk1.atts _ _, hrow⟩
      have hgo := hR.go (i := i) (by rw [gAttI_ma, hM1]; exact hi)
      refine vM_attack_p65 (bx_f hgo (s_M_unitAt 5 ?_))
      rw [o_ix (a := 205 + 6 * i + 5) (by omega), sI_bit _ i (by omega), o_s]
      refine ⟨o_in (by omega), o_in (by omega), ih _ hF.up ?_⟩
      rw [row_up hrow, hrow]
      exact gAttI_s s1 (gAtk s f) i (gAt s i) (hat1 i hi)
    · have hR : MR I' (gAttI s1 (gAtk s f) (gMa s)) := ⟨hk1.atts _ _, hrow⟩
      have eF1 : gAttI s1 (gAtk s f) (gMa s) = gF1 s f := by
        unfold gF1
        rw [hs1, ← hM1]
        rfl
      have hend : I' 140 196 ≤ Int32.ofNat (gMa s) := by
        have := hR.end
        rwa [gAttI_ma, hM1] at this
      rw [eF1] at hR
      have hUF : gU (gF1 s f) = gU s := gF1_U f
      have hMF : gMa (gF1 s f) = gMa s := by rw [← eF1, gAttI_ma, hM1]
      have fin : ∀ I3, FrO I' I3 → FQ I L I3 L ∧ I3 139 5 = I 139 5 := fun I3 hF3 => ⟨(Q12.tr (FQ.row hF)).tr (FQ.row hF3), by rw [hF3 139 (by decide), hF 139 (by decide)]; exact thr2⟩
      have rows : ∀ g n, gFight s f t = g → gRes s f t = n → ∀ I3, FrO I' I3 → MR I3 g → Ψ (Int32.ofNat n) I3 L D := fun g n e1 e2 I3 hF3 h3 => by
        rw [← e2]
        exact H I3 (fin I3 hF3).1 (by rw [e1]; exact h3) (fin I3 hF3).2
      refine vM_attack_p65 (bx_t hend ⟨fun hlt => ⟨fun hle => ?_, fun hgt => ?_⟩, fun hge => ?_⟩)
      · refine s_M_loseAll hR (fun v hv => by rw [hUF]; exact hq1 v hv) (fun I3 hF3 h3 => rows _ 0 ?_ ?_ I3 hF3 h3)
        · unfold gFight
          rw [if_pos hlt, if_pos hle]
        · unfold gRes
          rw [if_pos hlt, if_pos hle]
      · refine s_M_loseOne hR (fun v hv => by rw [hMF]; exact gU_lt (hq1 v hv)) ha (fun I3 hF3 h3 => ?_)
        have hlow : gLow (gAtk s f) < gMa s := by
          obtain ⟨v, hv⟩ := ha
          have hv16 : v < 16 := by
            have := gU_lt (hq1 v hv)
            omega
          have hq : gAtk s f (gLow (gAtk s f)) = true := by
            cases hfd : (List.range 16).find? (gAtk s f) with
            | none =>
              rw [List.find?_eq_none] at hfd
              exact absurd hv (hfd v (List.mem_range.mpr hv16))
            | some x =>
              have : gLow (gAtk s f) = x := by unfold gLow; rw [hfd]; rfl
              rw [this]
              rw [List.find?_range_eq_some] at hfd
              exact hfd.1
          exact gU_lt (hq1 _ hq)
        have hsd := hR.sd (u := gLow (gAtk s f)) (by rw [hMF]; exact hlow)
        refine s_M_loseOne h3 (fun v hv => by rw [gLose_ma hsd (by decide), hMF]; exact gU_lt (hq2 v hv)) hd (fun I4 hF4 h4 => rows _ 1 ?_ ?_ I4 (hF3.tr hF4) h4)
        · unfold gFight
          rw [if_pos hlt, if_neg hgt]
        · unfold gRes
          rw [if_pos hlt, if_neg hgt]
      · refine s_M_loseAll hR (fun v hv => by rw [hUF]; exact hq2 v hv) (fun I3 hF3 h3 => ?_)
        have hml := gLoseAll_ma hR.1 (q := gDef s t) (fun v hv => by rw [hMF]; exact gU_lt (hq2 v hv))
        refine s_M_retAll h3 (fun v hv => by rw [hml.2, hMF]; exact gU_lt (hq2 v hv)) hf (fun I4 hF4 h4 => rows _ 2 ?_ ?_ I4 (hF3.tr hF4) h4)
        · unfold gFight
          rw [if_neg hge]
        · unfold gRes
          rw [if_neg hge]
  exact marks 0 (Nat.zero_le _) _ FrO.rf.up (by rw [gAttI_0, ← hs1]; exact row_up h2.2 _ _)
end
