/-! the class's fights and ends of turns -/
def gLow (q : Nat → Bool) : Nat := ((List.range 16).find? q).getD 16
theorem gLow_eq {q : Nat → Bool} {c : Nat} (hc : c < 16) (h1 : q c = true) (h2 : ∀ j, j < c → q j = false) : gLow q = c := by
  have : (List.range 16).find? q = some c := by
    rw [List.find?_range_eq_some]
    exact ⟨h1, List.mem_range.mpr hc, fun j hj => by rw [h2 j hj]; rfl⟩
  unfold gLow
  rw [this]
  rfl
noncomputable def gF1 (s : Nat → Int32) (f : Nat) : Nat → Int32 := gAttS (gset s 195 (s 195 + 1)) (gAtk s f)
/-- 2, 1 or 0 -/
noncomputable def gRes (s : Nat → Int32) (f t : Nat) : Nat := if gAttack s f < 2 * Int32.ofNat (gDefense s t) then (if gAttack s f ≤ Int32.ofNat (gDefense s t) then 0 else 1) else 2
noncomputable def gFight (s : Nat → Int32) (f t : Nat) : Nat → Int32 :=
  if gAttack s f < 2 * Int32.ofNat (gDefense s t) then
    (if gAttack s f ≤ Int32.ofNat (gDefense s t) then gLoseAll (gF1 s f) (gAtk s f) else gLose (gLose (gF1 s f) (gLow (gAtk s f)) 1 1) (gLow (gDef s t)) 1 1)
  else gRetAll (gLoseAll (gF1 s f) (gDef s t)) (gDef s t) f
/-- the draw of the weather -/
def dI (z : Int32) : Int32 := shI z 16 - shI z 16 / 6 * 6
def gWth (z : Int32) : Nat := if 2 < dI z then (if 4 < dI z then 2 else 1) else 0
def gPass (s : Nat → Int32) : Nat → Int32 :=
  if gTu s = 1 then gset (gset (gset (gset (gBeg s) 191 0) 192 (s 192 + 1)) 193 (s 193 * 1103515245 + 12345)) 189 (Int32.ofNat (gWth (s 193 * 1103515245 + 12345)))
  else gset (gBeg s) 191 1
noncomputable def gStv (s : Nat → Int32) (u : Nat) : Bool := gOwn s (gTu s) u && !gIsS s u
noncomputable def gStvS (s : Nat → Int32) : Nat → Int32 := gEach (fun u s => gLose s u 1 2) (gStv s) 16 s
section
variable {I : e_TI} {L : e_TL} {D : e_TD} {sc : e_TS} {s : Nat → Int32}
theorem gAtk_U {c u : Nat} (h : gAtk s c u = true) : gU s u = true := gOwn_U (gAtk_own h)
theorem gDef_U {c u : Nat} (h : gDef s c u = true) : gU s u = true := gOwn_U (gDef_own h)
theorem gAttS_U {q : Nat → Bool} : gU (gAttS s q) = gU s := by
  have gs : ∀ j, (j < 205 ∨ (j - 205) % 6 < 4) → gn (gAttS s q) j = gn s j := fun j hj => by unfold gn gAttS; rw [if_neg (by omega)]
  funext v
  unfold gU gMa gSt
  rw [gs 196 (by decide), gs _ (by omega)]
theorem gF1_U (f : Nat) : gU (gF1 s f) = gU s := by
  unfold gF1
  rw [gAttS_U, gU_low (by decide) (by decide)]
theorem s_fight {Ψ : Int32 → e_TI → e_TL → e_TD → Prop} (h : GR I L s) {f t : Nat} (hf : f < 63) (ht : t < 63) (ha : ∃ u, gAtk s f u = true) (hd : ∃ u, gDef s t u = true) (H : ∀ I' L', Fr 2 19 I L I' L' → GR I' L' (gFight s f t) → Ψ (Int32.ofNat (gRes s f t)) I' L' D) : e_M 174 [.ref 1, .int (Int32.ofNat f), .int (Int32.ofNat t)] (S0 I L D sc) (e_rI sc Ψ) := by
  refine vP_fight (s_attackersOn h hf (s_defendersOn h ht (s_attackFrom h hf (fun L1 hF1 => ?_))))
  have h1 := h.fr hF1 (by decide)
  refine s_defenseAt h1 ht (fun L2 hF2 => ?_)
  have h2 := h1.fr hF2 (by decide)
  have hF12 : Fr 2 19 I L I L2 := (hF1.tr hF2).mono (by decide) (by decide)
  rw [show I 2 7 = s 195 from h.2.2.2.2.2.2.2.2.2.2.2.2.1]
  have h3 : GR (e_up I 2 7 (s 195 + 1)) L2 (gset s 195 (s 195 + 1)) := ⟨h2.1.low (by decide), h2.2.gm (by decide)⟩
  have hF3 : Fr 2 19 I L (e_up I 2 7 (s 195 + 1)) L2 := hF12.upI (by decide)
  have hU3 : gU (gset s 195 (s 195 + 1)) = gU s := gU_low (by decide) (by decide)
  refine s_noteAttack h3 (fun u hu => by rw [hU3]; exact gAtk_U hu) (fun I4 hF4 h4 => ?_)
  have hF34 := hF3.tr (hF4.mono (Nat.le_refl 2) (show 14 ≤ 19 by decide))
  have h4' : GR I4 L2 (gF1 s f) := h4
  have hU4 := gF1_U (s := s) f
  refine ⟨fun hlt => ⟨fun hle => ?_, fun hgt => ?_⟩, fun hge => ?_⟩
  · refine s_loseEach h4' (fun u hu => by rw [hU4]; exact gAtk_U hu) (fun I5 hF5 h5 => ?_)
    have := H I5 L2 (hF34.tr (hF5.mono (Nat.le_refl 2) (show 14 ≤ 19 by decide))) (by unfold gFight; rw [if_pos hlt, if_pos hle]; exact h5)
    unfold gRes at this
    rw [if_pos hlt, if_pos hle] at this
    exact this
  · obtain ⟨ua, hua⟩ := ha
    obtain ⟨ud, hud⟩ := hd
    have lt16 : ∀ u, gU s u = true → u < 16 := fun u hu => by have := gU_lt hu; have := h.ma; omega
    refine s_ulowest (fun a ha16 ha1 ha2 => ?_) (fun hno => ?_)
    · have hla := gLow_eq ha16 ha1 ha2
      refine s_loseInAttack h4' (by rw [hU4]; exact gAtk_U ha1) (by decide) (fun I5 hF5 h5 => ?_)
      refine s_ulowest (fun b hb16 hb1 hb2 => ?_) (fun hno => ?_)
      · have hlb := gLow_eq hb16 hb1 hb2
        have hne : b ≠ a := by
          intro e
          have o1 := gAtk_own ha1
          have o2 := gDef_own hb1
          rw [e] at o2
          unfold gOwn at o1 o2
          simp only [Bool.and_eq_true, beq_iff_eq] at o1 o2
          have := h.tu.2
          omega
        have hUa : gU (gF1 s f) a = true := by rw [hU4]; exact gAtk_U ha1
        refine s_loseInAttack h5 (by rw [gLose_U hUa (h4'.sd (gU_lt hUa)) (h4'.st (gU_lt hUa)).2 (by decide) hne, hU4]; exact gDef_U hb1) (by decide) (fun I6 hF6 h6 => ?_)
        have := H I6 L2 ((hF34.tr (hF5.mono (Nat.le_refl 2) (show 14 ≤ 19 by decide))).tr (hF6.mono (Nat.le_refl 2) (show 14 ≤ 19 by decide))) (by unfold gFight; rw [if_pos hlt, if_neg hgt, hla, hlb]; exact h6)
        unfold gRes at this
        rw [if_pos hlt, if_neg hgt] at this
        exact this
      · have := hno ud (lt16 _ (gDef_U hud))
        rw [hud] at this
        cases this
    · have := hno ua (lt16 _ (gAtk_U hua))
      rw [hua] at this
      cases this
  · refine s_loseEach h4' (fun u hu => by rw [hU4]; exact gDef_U hu) (fun I5 hF5 h5 => s_retreatEach h5 hf (fun I6 hF6 h6 => ?_))
    have := H I6 L2 ((hF34.tr (hF5.mono (Nat.le_refl 2) (show 14 ≤ 19 by decide))).tr (hF6.mono (Nat.le_refl 2) (show 14 ≤ 19 by decide))) (by unfold gFight; rw [if_neg hge]; exact h6)
    unfold gRes at this
    rw [if_neg hge] at this
    exact this
theorem gok.wx {x n : Nat} (hk : gok s) (e : x = 189) (hn : n ≤ 2) : gok (gset s x (Int32.ofNat n)) := by
  subst e
  obtain ⟨h1, h2, ⟨h3, h3'⟩, h4, h5, h6⟩ := hk
  refine ⟨fun c hc => ?_, gb_eq hn (by decide), ⟨gb_ne (by decide) h3, ?_⟩, gb_ne (by decide) h4, gb_ne (by decide) h5, fun v hv => ?_⟩
  · obtain ⟨a1, a2, a3, a4⟩ := h1 c hc
    rw [gRd_ne (by decide), gTer_ne (by omega)]
    exact ⟨gb_ne (by omega) a1, gb_ne (by omega) a2, gb_ne (by omega) a3, a4⟩
  · unfold gRg
    rw [gn_ne (by decide)]
    exact h3'
  · rw [gMa_ne (by decide)] at hv
    obtain ⟨b0, b1, b2, b3, b4, b5⟩ := h6 v hv
    exact ⟨gb_ne (by omega) b0, gb_ne (by omega) b1, gb_ne (by omega) b2, gb_ne (by omega) b3, gb_ne (by omega) b4, gb_ne (by omega) b5⟩
theorem gok.tu {n : Nat} (hk : gok s) (hn : n ≤ 1) : gok (gset s 191 (Int32.ofNat n)) := by
  obtain ⟨h1, h2, ⟨h3, h3'⟩, h4, h5, h6⟩ := hk
  refine ⟨fun c hc => ?_, gb_ne (by decide) h2, ⟨gb_ne (by decide) h3, ?_⟩, gb_eq hn (by decide), gb_ne (by decide) h5, fun v hv => ?_⟩
  · obtain ⟨a1, a2, a3, a4⟩ := h1 c hc
    rw [gRd_ne (by decide), gTer_ne (by omega)]
    exact ⟨gb_ne (by omega) a1, gb_ne (by omega) a2, gb_ne (by omega) a3, a4⟩
  · unfold gRg
    rw [gn_ne (by decide)]
    exact h3'
  · rw [gMa_ne (by decide)] at hv
    obtain ⟨b0, b1, b2, b3, b4, b5⟩ := h6 v hv
    exact ⟨gb_ne (by omega) b0, gb_ne (by omega) b1, gb_ne (by omega) b2, gb_ne (by omega) b3, gb_ne (by omega) b4, gb_ne (by omega) b5⟩
theorem gok.rg {n : Nat} (hk : gok s) (hn1 : 1 ≤ n) (hn : n ≤ 30) : gok (gset s 190 (Int32.ofNat n)) := by
  obtain ⟨h1, h2, ⟨h3, h3'⟩, h4, h5, h6⟩ := hk
  refine ⟨fun c hc => ?_, gb_ne (by decide) h2, ⟨gb_eq hn (by decide), ?_⟩, gb_ne (by decide) h4, gb_ne (by decide) h5, fun v hv => ?_⟩
  · obtain ⟨a1, a2, a3, a4⟩ := h1 c hc
    rw [gRd_ne (by decide), gTer_ne (by omega)]
    exact ⟨gb_ne (by omega) a1, gb_ne (by omega) a2, gb_ne (by omega) a3, a4⟩
  · unfold gRg
    rw [gn_eq, o_ix (by omega)]
    exact hn1
  · rw [gMa_ne (by decide)] at hv
    obtain ⟨b0, b1, b2, b3, b4, b5⟩ := h6 v hv
    exact ⟨gb_ne (by omega) b0, gb_ne (by omega) b1, gb_ne (by omega) b2, gb_ne (by omega) b3, gb_ne (by omega) b4, gb_ne (by omega) b5⟩
theorem gWth_le (z : Int32) : gWth z ≤ 2 := by
  unfold gWth
  split
  · split <;> decide
  · decide
theorem s_passTurn {Ψ : e_TI → e_TL → e_TD → Prop} (h : GR I L s) (H : ∀ I', Fr 2 14 I L I' L → GR I' L (gPass s) → Ψ I' L D) : e_M 56 [.ref 2] (S0 I L D sc) (e_rV sc Ψ) := by
  refine vG_passTurn (s_beginTurn h (fun I1 hF1 h1 => ?_))
  have gs : ∀ j, j < 205 → gBeg s j = s j := fun j hj => by unfold gBeg; rw [if_neg (by omega)]
  have htu : gTu (gBeg s) = gTu s := by unfold gTu gn; rw [gs 191 (by decide)]
  have ht1 := h.tu.2
  rw [h1.tu.1, htu, show (1 : Int32) = Int32.ofNat 1 from rfl, o_sub ht1]
  refine ⟨fun hne => ?_, fun he => ?_⟩
  · have ht : gTu s = 0 := by
      have : ¬ 1 - gTu s = 0 := fun e => hne (by rw [e]; rfl)
      omega
    refine H _ (hF1.upI (by decide)) ?_
    unfold gPass
    rw [if_neg (by omega), ht]
    exact ⟨h1.1.tu (n := 1) (by decide), h1.2.gm (by decide)⟩
  · have ht : gTu s = 1 := by
      have := (o_eq (b := 0) (by omega) (by decide)).mp (Classical.not_not.mp he)
      omega
    have e3 : I1 2 3 = s 192 := h1.2.2.2.2.2.2.2.2.1.trans (gs 192 (by decide))
    rw [e3, ht]
    have h2 : GR (e_up (e_up I1 2 4 (Int32.ofNat (1 - 1))) 2 3 (s 192 + Int32.ofNat 1)) L (gset (gset (gBeg s) 191 0) 192 (s 192 + 1)) := ⟨(h1.1.tu (n := 0) (by decide)).low (by decide), (h1.2.gm (by decide)).gm (by decide)⟩
    have hF2 := (hF1.upI (a := 2) (k := 4) (x := Int32.ofNat (1 - 1)) (by decide)).upI (a := 2) (k := 3) (x := s 192 + Int32.ofNat 1) (by decide)
    have e8 : (e_up (e_up I1 2 4 (Int32.ofNat (1 - 1))) 2 3 (s 192 + Int32.ofNat 1)) 2 8 = s 193 := by
      rw [up_slot (by decide), up_slot (by decide)]
      exact h1.2.2.2.2.2.2.2.2.2.2.2.2.2.trans (gs 193 (by decide))
    refine vG_changeWeather ?_
    rw [e8]
    -- the end, with the weather n
    have fin : ∀ n : Nat, n = gWth (s 193 * 1103515245 + 12345) → Ψ (e_up (e_up (e_up (e_up I1 2 4 (Int32.ofNat (1 - 1))) 2 3 (s 192 + Int32.ofNat 1)) 2 8 (s 193 * 1103515245 + 12345)) 2 2 (Int32.ofNat n)) L D := by
      intro n hn
      refine H _ ((hF2.upI (by decide)).upI (by decide)) ?_
      unfold gPass
      rw [if_pos ht, ← hn]
      exact ⟨(h2.1.low (by decide)).wx rfl (by rw [hn]; exact gWth_le _), (h2.2.gm (by decide)).gm (by decide)⟩
    refine ⟨fun c2 => ⟨fun c4 => fin 2 ?_, fun c4 => fin 1 ?_⟩, fun c2 => fin 0 ?_⟩
    · replace c2 : 2 < dI (s 193 * 1103515245 + 12345) := c2
      replace c4 : 4 < dI (s 193 * 1103515245 + 12345) := c4
      unfold gWth
      rw [if_pos c2, if_pos c4]
    · replace c2 : 2 < dI (s 193 * 1103515245 + 12345) := c2
      replace c4 : ¬ 4 < dI (s 193 * 1103515245 + 12345) := c4
      unfold gWth
      rw [if_pos c2, if_neg c4]
    · replace c2 : ¬ 2 < dI (s 193 * 1103515245 + 12345) := c2
      unfold gWth
      rw [if_neg c2]
theorem s_howMany {Ψ : Int32 → e_TI → e_TL → e_TD → Prop} (h : GR I L s) (H : Ψ (Int32.ofNat ((List.range 16).countP (gU s))) I L D) : e_M 15 [.ref 6] (S0 I L D sc) (e_rI sc Ψ) := by
  refine vU_howMany ?_
  rw [h.pres]
  exact s_bitCount (fun u hu _ => gU16 h hu) H
theorem s_finishTurn {Ψ : Int32 → e_TI → e_TL → e_TD → Prop} (h : GR I L s) (H : ∀ I' L', Fr 2 19 I L I' L' → GR I' L' (gPass (gStvS s)) → Ψ (Int32.ofNat ((List.range 16).countP (gU s)) - Int32.ofNat ((List.range 16).countP (gU (gPass (gStvS s))))) I' L' D) : e_M 57 [.ref 1] (S0 I L D sc) (e_rI sc Ψ) := by
  refine vP_finishTurn ?_
  rw [h.tu.1]
  refine s_ownedBy h h.tu.2 (s_howMany h ?_)
  rw [h.tu.1]
  refine s_suppliedCells h h.tu.2 (fun L1 hF1 _ => ?_)
  have h1 := h.fr hF1 (by decide)
  refine s_standingIn h1 ?_
  rw [sI_not, sI_and, sI_congr (p := fun i => gOwn s (gTu s) i && !(gU s i && gSup s (gTu s) (gPl s i))) (q := gStv s) (fun u _ => by
    unfold gStv gIsS
    cases ho : gOwn s (gTu s) u with
    | false => rfl
    | true =>
      have hu := gOwn_U ho
      have hd : gSd s u = gTu s := by
        unfold gOwn at ho
        simpa [hu] using ho
      rw [hu, hd]
      rfl)]
  have key : ∀ i, i ≤ 16 → ∀ I', Fr 2 19 I L I' L1 → GR I' L1 (gEach (fun u s => gLose s u 1 2) (gStv s) i s) → (∀ v, i ≤ v → gStv s v = true → gU (gEach (fun u s => gLose s u 1 2) (gStv s) i s) v = true) → e_Wp 57 49 [some (.ref 1), some (.int (sI (gOwn s (gTu s)))), some (.int (Int32.ofNat ((List.range 16).countP (gU s)))), some (.int (sI (gStv s))), some (.int (Int32.ofNat i))] [] (S0 I' L1 D sc) 0 0 (e_rI sc Ψ) := by
    refine e_downInd 16 (fun i hi ih I' hF hR hv => ?_) (fun I' hF hR _ => ?_)
    · refine vP_finishTurn_p49 (bx_f (b_ge hi) (s_uhas (by omega) (bx_b (fun h0 => ?_) (fun h1 => ?_))))
      · rw [o_s]
        have e : gEach (fun u s => gLose s u 1 2) (gStv s) (i + 1) s = gEach (fun u s => gLose s u 1 2) (gStv s) i s := by
          show (if gStv s i then _ else _) = _
          rw [h0]
          rfl
        refine ih I' hF (by rw [e]; exact hR) (fun v h2 h3 => ?_)
        rw [e]
        exact hv v (by omega) h3
      · have e : gEach (fun u s => gLose s u 1 2) (gStv s) (i + 1) s = gLose (gEach (fun u s => gLose s u 1 2) (gStv s) i s) i 1 2 := by
          show (if gStv s i then _ else _) = _
          rw [h1]
          rfl
        have hu := hv i (Nat.le_refl _) h1
        refine s_loseUnsupplied hR hu (by decide) (fun I2 hF2 hR2 => ?_)
        rw [o_s]
        refine ih I2 (hF.tr (hF2.mono (Nat.le_refl 2) (show 14 ≤ 19 by decide))) (by rw [e]; exact hR2) (fun v h2 h3 => ?_)
        rw [e, gLose_U hu (hR.sd (gU_lt hu)) (hR.st (gU_lt hu)).2 (by decide) (by omega)]
        exact hv v (by omega) h3
    · exact vP_finishTurn_p49 (bx_t (b_self 16) (s_passTurn hR (fun I2 hF2 h2 => s_howMany h2 (H I2 L1 (hF.tr (hF2.mono (Nat.le_refl 2) (show 14 ≤ 19 by decide))) h2))))
  exact key 0 (by omega) I (hF1.mono (by decide) (by decide)) h1 (fun v _ h3 => by
    unfold gStv at h3
    simp only [Bool.and_eq_true] at h3
    exact gOwn_U h3.1)
end
