/-! the class's methods of the face that change something -/
def aSetTerrain (s : Nat → Int32) (x y : Int32) (r : Bool) : Nat × Int32 := if !iC x then (1, 0) else if !iR y 0 5 || (nx y == 5 && r) then (2, 0) else if nx y = 5 ∧ sI (gOn s (nx x)) ≠ 0 then (3, 0) else (0, Int32.ofNat (gTer s (nx x)))
def aSetSource (s : Nat → Int32) (x y : Int32) : Nat × Int32 := if !(iC x && iS y) then (1, 0) else (0, e_b (gSrc s (nx y) (nx x)))
def aSet (s : Nat → Int32) (r : Bool) (y : Int32) : Nat × Int32 := if r then (if iR y 0 2 then (0, s 189) else (1, 0)) else (if iR y 1 30 then (0, s 190) else (1, 0))
def aAdd (s : Nat → Int32) (d c n m : Int32) : Nat × Int32 := if !(iS d && iC c) then (1, 0) else if !(iR n 1 9 && iR m 1 12) then (2, 0) else if gMa s = 16 ∨ gTer s (nx c) = 5 ∨ gRoom s (gU s) (nx c) (nx d) (nx n) = false then (3, 0) else (0, Int32.ofNat (gMa s))
noncomputable def gCanR (s : Nat → Int32) (u c : Nat) : Bool := decide (gWayC s u c ≤ gAllow s u) && gRoomS s u c
noncomputable def aMove (s : Nat → Int32) (x y : Int32) : Nat × Int32 := if !(iU s x && iC y) then (1, 0) else if gPl s (nx x) = nx y then (2, 0) else if (gCanA s (nx x) && !gMd s (nx x)) = false then (3, 0) else if gCanR s (nx x) (nx y) = false then (4, 0) else (0, Int32.ofNat (gEnd s (nx x) (nx y)))
noncomputable def aAttack (s : Nat → Int32) (x y : Int32) : Nat × Int32 := if aWhy s x y = 0 then (0, Int32.ofNat (gRes s (nx x) (nx y))) else (aWhy s x y, 0)
def aEndTurn (s s' : Nat → Int32) : Int32 := Int32.ofNat ((List.range 16).countP (gU s)) - Int32.ofNat ((List.range 16).countP (gU s'))
def aFeed (w : Wd) : Nat × Int32 := if wN w = 80 then (1, 0) else (0, Int32.ofNat (wN w + 1))
/-- the report of a refusal: how many levels, codes, details -/
noncomputable def gRep (s : Nat → Int32) (u c : Nat) : Nat × (Nat → Int32) × (Nat → Int32) :=
  if gWayC s u c = 1000000 then (2, (fun i => if i = 0 then 1 else 2), fun i => if i = 0 then Int32.ofNat u else Int32.ofNat c)
  else if gAllow s u < gWayC s u c then (if gIsS s u then (2, (fun i => if i = 0 then 1 else 3), fun i => if i = 0 then Int32.ofNat u else Int32.ofNat (gWayC s u c)) else (3, (fun i => if i = 0 then 1 else if i = 1 then 3 else 5), fun i => if i = 0 then Int32.ofNat u else if i = 1 then Int32.ofNat (gWayC s u c) else Int32.ofNat (gAllow s u)))
  else (2, (fun i => if i = 0 then 1 else 4), fun i => if i = 0 then Int32.ofNat u else Int32.ofNat ((List.range 16).countP fun v => gOn s c v && gOwn s (gSd s u) v))
def wRp (w : Wd) (r : Nat × (Nat → Int32) × (Nat → Int32)) : Wd := (w.1, w.2.1, w.2.2.1, r, w.2.2.2.2)
def wBf (w : Wd) (b : Nat × (Nat → Int32)) : Wd := (w.1, w.2.1, w.2.2.1, w.2.2.2.1, b)
theorem o_big {x : Int32} {n : Nat} (hnn : ¬ x < 0) (h : ¬ x < Int32.ofNat (n + 1)) (hn : n < 1000000 := by decide) : Int32.ofNat n < x := by
  obtain ⟨i, hi, rfl⟩ := o_nn hnn
  rw [o_lt hi (by omega)] at h
  rw [o_lt (by omega) hi]
  omega
theorem o_big2 {x : Int32} {n : Nat} (hnn : ¬ x < 0) (h : Int32.ofNat (n + 1) ≤ x) (hn : n < 1000000 := by decide) : Int32.ofNat n < x := o_big hnn (Int32.not_lt.mpr h) hn
theorem iR_no {y : Int32} {a b : Nat} (h : y < Int32.ofNat a) : iR y a b = false := by
  unfold iR
  rw [decide_eq_false (Int32.not_le.mpr h)]
  rfl
theorem iR_no2 {y : Int32} {a b : Nat} (h : Int32.ofNat b < y) : iR y a b = false := by
  unfold iR
  rw [decide_eq_false (p := y ≤ Int32.ofNat b) (Int32.not_le.mpr h), Bool.and_false]
section
variable {I : e_TI} {L : e_TL} {D : e_TD} {sc : e_TS} {w : Wd} {Ψ : Int32 → e_TI → e_TL → e_TD → Prop} {χ : String → e_TI → e_TL → e_TD → Prop}
theorem s_checkAttack {Ψ : e_TI → e_TL → e_TD → Prop} (h : CW I L w) {x y : Int32} (H1 : ∀ a b, a < 63 → b < 63 → x = Int32.ofNat a → y = Int32.ofNat b → (∃ u, gAtk (wG w) a u = true) → (∃ u, gDef (wG w) b u = true) → aWhy (wG w) x y = 0 → Ψ I L D) (H0 : ∀ k, aWhy (wG w) x y = k + 1 → k < 3 → χ (([xI, xA, xN] : List String).getD k "") I L D) : e_M 159 [.ref 0, .int x, .int y] (S0 I L D sc) (e_xV sc Ψ χ) := by
  have hm := h.1.ma
  refine vC_checkAttack (s_checkCell (fun a ha e => s_checkCell (fun b hb e2 => ?_) (fun hn => H0 0 (by unfold aWhy; rw [hn, Bool.and_false]; rfl) (by decide))) (fun hn => H0 0 (by unfold aWhy; rw [hn]; rfl) (by decide)))
  subst e
  subst e2
  have e0 : aWhy (wG w) (Int32.ofNat a) (Int32.ofNat b) = if dst a b ≠ 1 then 2 else if sI (gAtk (wG w) a) = 0 ∨ sI (gDef (wG w) b) = 0 then 3 else 0 := by
    unfold aWhy
    rw [iC_of ha, iC_of hb, nx_of (by omega), nx_of (by omega)]
    rfl
  rw [e0] at H1 H0
  have hd := dst_lt ha hb
  refine s_apart ha hb ⟨fun e1 => ?_, fun n1 => ?_⟩
  · have hd1 : dst a b = 1 := (o_eq (by omega) (by decide)).mp e1
    rw [if_neg (fun hne => hne hd1)] at H1 H0
    refine s_attackersOn h.1 ha ⟨fun hz => ?_, fun hnz => s_defendersOn h.1 hb ⟨fun hnz2 => ?_, fun hz2 => ?_⟩⟩
    · exact H0 2 (by rw [if_pos (Or.inl hz)]) (by decide)
    · rw [if_neg (fun ho => ho.elim hnz hnz2)] at H1
      have ex : ∀ q : Nat → Bool, ¬ sI q = 0 → ∃ u, q u = true := by
        intro q hq
        apply Classical.byContradiction
        intro hno
        apply hq
        rw [sI_eq0]
        intro u _
        rw [Bool.eq_false_iff]
        exact fun hu => hno ⟨u, hu⟩
      exact H1 a b ha hb rfl rfl (ex _ hnz) (ex _ hnz2) rfl
    · exact H0 2 (by rw [if_pos (Or.inr (Classical.not_not.mp hz2))]) (by decide)
  · have hd1 : dst a b ≠ 1 := fun e => n1 (by rw [e]; rfl)
    exact H0 1 (by rw [if_pos hd1]) (by decide)
theorem sC_odds (h : CW I L w) {x y : Int32} {b : Bool} (H : ∀ L', Fr 14 19 I L I L' → finI [xI, xA, xN] χ Ψ (aOdds (wG w) x y b) I L' D) : e_M 164 [.ref 0, .int x, .int y, .int (e_b b)] (S0 I L D sc) (e_xI sc Ψ χ) := by
  refine vC_odds (s_checkAttack h (fun a c ha hc e1 e2 _ _ hw => ?_) (fun k hk _ => finI_e (k := k) (v := 0) (H L Fr.rf) (by unfold aOdds; rw [hk, if_neg (by omega)])))
  subst e1
  subst e2
  unfold aOdds at H
  rw [if_pos hw, nx_of (by omega), nx_of (by omega)] at H
  refine bx_b (fun h0 => ?_) (fun h1 => ?_)
  · rw [h0] at H
    exact s_attackFrom h.1 ha (fun L1 hF => finI_o (H L1 hF) rfl)
  · rw [h1] at H
    exact s_defenseAt h.1 hc (fun L1 hF => finI_o (H L1 hF) rfl)
/-- behind keep -/
theorem CW.then (h : CW I L (wCh w (wG w))) {I' : e_TI} {L' : e_TL} (hF : Fr 2 24 I L I' L') {g : Nat → Int32} (hG : GR I' L' g) : CW I' L' (wCh w g) := h.game hF hG
theorem sC_attack (h : CW I L w) {x y : Int32} (H1 : ∀ I' L', Fr 0 139 I L I' L' → (aAttack (wG w) x y).1 = 0 → CW I' L' (wCh w (gFight (wG w) (nx x) (nx y))) → finI [xI, xA, xN] χ Ψ (aAttack (wG w) x y) I' L' D) (H0 : (aAttack (wG w) x y).1 ≠ 0 → finI [xI, xA, xN] χ Ψ (aAttack (wG w) x y) I L D) : e_M 175 [.ref 0, .int x, .int y] (S0 I L D sc) (e_xI sc Ψ χ) := by
  refine vC_attack (s_checkAttack h (fun a c ha hc e1 e2 hu1 hu2 hw => ?_) (fun k hk _ => finI_e (k := k) (v := 0) (H0 (by unfold aAttack; rw [hk, if_neg (by omega)]; exact Nat.succ_ne_zero k)) (by unfold aAttack; rw [hk, if_neg (by omega)])))
  subst e1
  subst e2
  unfold aAttack at H1
  rw [if_pos hw, nx_of (by omega), nx_of (by omega)] at H1
  refine s_keep h.1 h.2.2.1 (fun I1 L1 hF1 hH1 => ?_)
  have h1 := h.kept hF1 hH1
  exact s_fight h1.1 ha hc hu1 hu2 (fun I2 L2 hF2 hG2 => finI_o (H1 I2 L2 ((hF1.mono (by decide) (by decide)).tr (hF2.mono (by decide) (by decide))) rfl (h1.then (hF2.mono (by decide) (by decide)) hG2)) rfl)
theorem sC_endTurn (h : CW I L w) (H : ∀ I' L', Fr 0 139 I L I' L' → CW I' L' (wCh w (gPass (gStvS (wG w)))) → Ψ (aEndTurn (wG w) (gPass (gStvS (wG w)))) I' L' D) : e_M 58 [.ref 0] (S0 I L D sc) (e_rI sc Ψ) := by
  refine vC_endTurn (s_keep h.1 h.2.2.1 (fun I1 L1 hF1 hH1 => ?_))
  have h1 := h.kept hF1 hH1
  exact s_finishTurn h1.1 (fun I2 L2 hF2 hG2 => H I2 L2 ((hF1.mono (by decide) (by decide)).tr (hF2.mono (by decide) (by decide))) (h1.then (hF2.mono (by decide) (by decide)) hG2))
theorem sC_account (h : CW I L w) {x y : Int32} (H : finI [xI, xA] χ Ψ (aAccount (wG w) x y) I L D) : e_M 181 [.ref 0, .int x, .int y] (S0 I L D sc) (e_xI sc Ψ χ) := by
  have hG := h.1
  refine vC_account (s_checkSide (fun d hd e => ?_) (fun hn => finI_e (k := 0) (v := 0) H (by unfold aAccount; rw [hn]; rfl)))
  subst e
  unfold aAccount at H
  rw [iS_of (by omega), nx_of (by omega)] at H
  simp only [Bool.not_true, Bool.false_eq_true, if_false] at H
  obtain ⟨b1, b2, b3, b4⟩ := hG.2.2.2.2.2.2.1 d (by omega)
  replace b1 : I 10 d = _ := b1
  replace b2 : I 11 d = _ := b2
  replace b3 : I 12 d = _ := b3
  replace b4 : I 13 d = _ := b4
  refine s_ownedBy hG hd ⟨fun e => vU_addedBy (s_read_10 (by omega) ?_), fun n0 => ⟨fun e => s_strengthsOf hG (fun _ => gOwn_U) (finI_o H (by rw [if_neg n0, if_pos e])), fun n1 => ⟨fun e => vU_lostInAttacksBy (s_read_11 (by omega) ?_), fun n2 => ⟨fun e => vU_lostUnsuppliedBy (s_read_12 (by omega) ?_), fun n3 => ⟨fun e => ?_, fun n4 => ⟨fun e => vU_removedFrom (s_read_13 (by omega) ?_), fun n5 => finI_e (k := 1) (v := 0) H (by rw [if_neg n0, if_neg n1, if_neg n2, if_neg n3, if_neg n4, if_neg n5])⟩⟩⟩⟩⟩⟩
  · rw [b1]; exact finI_o H (by rw [if_pos e])
  · rw [b2]; exact finI_o H (by rw [if_neg n0, if_neg n1, if_pos e])
  · rw [b3]; exact finI_o H (by rw [if_neg n0, if_neg n1, if_neg n2, if_pos e])
  · refine s_bitCount (fun u h1 _ => ?_) (finI_o H (by rw [if_neg n0, if_neg n1, if_neg n2, if_neg n3, if_pos e]))
    rw [Bool.eq_false_iff]
    intro ho
    have := gU16 hG h1
    rw [gOwn_U ho] at this
    cases this
  · rw [b4]; exact finI_o H (by rw [if_neg n0, if_neg n1, if_neg n2, if_neg n3, if_neg n4, if_pos e])
theorem sC_report (h : CW I L w) {x y : Int32} (H : finI [xN, xA] χ Ψ (aReport w x y) I L D) : e_M 189 [.ref 0, .int x, .int y] (S0 I L D sc) (e_xI sc Ψ χ) := by
  obtain ⟨hl, hl3, hr⟩ := h.2.2.2.1
  unfold aReport at H
  refine vC_report ⟨fun hneg => finI_e (k := 0) (v := 0) H (by rw [if_pos (Or.inl hneg)]), fun hnn => vRp_levels ?_⟩
  obtain ⟨i, hi, rfl⟩ := o_nn hnn
  rw [hl]
  rw [nx_of hi] at H
  refine ⟨fun hlt => ?_, fun hge => finI_e (k := 0) (v := 0) H (by rw [if_pos (Or.inr hge)])⟩
  have hil := (o_lt hi (by omega)).mp hlt
  rw [if_neg (fun ho => ho.elim hnn (fun h2 => h2 hlt))] at H
  refine ⟨fun e => vRp_codeOf (s_read_135 (by omega) ?_), fun n0 => ⟨fun e => vRp_detailOf (s_read_136 (by omega) ?_), fun n1 => finI_e (k := 1) (v := 0) H (by rw [if_neg n0, if_neg n1])⟩⟩
  · rw [(hr i hil).1]; exact finI_o H (by rw [if_pos e])
  · rw [(hr i hil).2]; exact finI_o H (by rw [if_neg n0, if_pos e])
theorem sC_text (h : CW I L w) {x : Int32} (H : finI [xI] χ Ψ (aText (wG w) x) I L D) : e_M 215 [.ref 0, .int x] (S0 I L D sc) (e_xI sc Ψ χ) := by
  unfold aText at H
  refine vC_text ⟨fun hneg => finI_e (k := 0) (v := 0) H (by rw [iR_no (a := 0) hneg]; rfl), fun hnn => ⟨fun hlt => ?_, fun hbig => finI_e (k := 0) (v := 0) H (by rw [iR_no2 (a := 0) (b := 68) (o_big (n := 68) hnn hbig)]; rfl)⟩⟩
  · obtain ⟨i, hi9, rfl⟩ := o_rng2 (n := 69) hnn hlt
    have hi : i < 69 := hi9
    rw [iR_of (a := 0) (b := 68) (by decide) (by omega) (by omega), nx_of (by omega)] at H
    refine s_cellAt (by omega) ?_
    cases hc : gCA i with
    | none =>
      rw [hc] at H
      exact bx_f (fun e => e rfl) (finI_o H rfl)
    | some c =>
      rw [hc] at H
      have hc63 := gCA_lt hi hc
      have hdry := (h.1.1.1 c hc63).2.2.2
      have hter := h.1.ter hc63
      refine bx_t (o_ne1 (by omega)) (s_terrainAt h.1 hc63 (s_roads h.1 (s_has hc63 (s_letterOf hter hdry ⟨gL5_nar ⟨if gRd (wG w) c = true then gTer (wG w) c + 6 else gTer (wG w) c, ?_⟩, finI_o H rfl⟩))))
      split
      · rename_i hr
        have := hdry hr
        omega
      · omega
theorem sC_feed (h : CW I L w) {x : Int32} (H1 : ∀ I', Fr 0 139 I L I' L → (aFeed w).1 = 0 → CW I' L (wBf w (wN w + 1, fun i => if i = wN w then vp_nar .char x else wB w i)) → finI [xS] χ Ψ (aFeed w) I' L D) (H0 : (aFeed w).1 ≠ 0 → finI [xS] χ Ψ (aFeed w) I L D) : e_M 193 [.ref 0, .int x] (S0 I L D sc) (e_xI sc Ψ χ) := by
  obtain ⟨hl, hn, hb⟩ := h.2.2.2.2
  refine vC_feed (s_miIsFull hn hl (bx_b (fun h0 => ?_) (fun h0 => ?_)))
  · have hne : wN w ≠ 80 := by simpa using h0
    have ea : aFeed w = (0, Int32.ofNat (wN w + 1)) := by unfold aFeed; rw [if_neg hne]
    refine s_miAppend (by omega) hl (finI_o (H1 _ ((Fr.rf.upI (by decide)).upI (by decide)) (by rw [ea]) ?_) ea)
    have hU : ∀ c, c ≠ 137 → c ≠ 138 → e_up (e_up I 138 (wN w) (vp_nar .char x)) 137 1 (Int32.ofNat (wN w + 1)) c = I c := fun c h1 h2 => by rw [up_cell h1, up_cell h2]
    obtain ⟨g1, ⟨g2, g3⟩, g4, g5, _⟩ := h
    refine ⟨⟨g1.1, g1.2.frame (fun c a b => hU c (by omega) (by omega)) (fun c a b => rfl)⟩, ⟨?_, fun hs => ⟨(g3 hs).1, (g3 hs).2.frame (fun c a b => hU c (by omega) (by omega)) (fun c a b => rfl)⟩⟩, HiR.fr g4 (lo := 137) (hi := 139) (fun c hc => ⟨hU c (by omega) (by omega), rfl⟩) (by decide), ?_, up_same, by show wN w + 1 ≤ 80; omega, fun i hi => ?_⟩
    · rw [hU 0 (by decide) (by decide)]; exact g2
    · show RpR _ (wL w) (wRc w) (wRd w)
      unfold RpR at g5 ⊢
      rw [hU 134 (by decide) (by decide), hU 135 (by decide) (by decide), hU 136 (by decide) (by decide)]
      exact g5
    · rw [up_cell (by decide)]
      show _ = if i = wN w then _ else _
      by_cases e : i = wN w
      · rw [e, up_same, if_pos rfl]
      · rw [up_slot e, if_neg e]
        have hi2 : i < wN w + 1 := hi
        exact hb i (by omega)
  · have he : wN w = 80 := by simpa using h0
    have ea : aFeed w = (1, 0) := by unfold aFeed; rw [if_pos he]
    exact finI_e (k := 0) (v := 0) (H0 (by rw [ea]; decide)) ea
theorem sC_setTerrain (h : CW I L w) {x y : Int32} {r : Bool} (H1 : ∀ I' L', Fr 0 139 I L I' L' → (aSetTerrain (wG w) x y r).1 = 0 → CW I' L' (wCh w (gShape (wG w) (nx x) (nx y) r)) → finI [xI, xA, xS] χ Ψ (aSetTerrain (wG w) x y r) I' L' D) (H0 : (aSetTerrain (wG w) x y r).1 ≠ 0 → finI [xI, xA, xS] χ Ψ (aSetTerrain (wG w) x y r) I L D) : e_M 64 [.ref 0, .int x, .int y, .int (e_b r)] (S0 I L D sc) (e_xI sc Ψ χ) := by
  have er : ∀ k, aSetTerrain (wG w) x y r = (k + 1, 0) → χ (([xI, xA, xS] : List String).getD k "") I L D := fun k e => finI_e (k := k) (v := 0) (H0 (by rw [e]; exact Nat.succ_ne_zero k)) e
  refine vC_setTerrain (s_checkCell (fun c hc e => ?_) (fun hn => er 0 (by unfold aSetTerrain; rw [hn]; rfl)))
  subst e
  have e0 : aSetTerrain (wG w) (Int32.ofNat c) y r = if !iR y 0 5 || (nx y == 5 && r) then (2, 0) else if nx y = 5 ∧ sI (gOn (wG w) c) ≠ 0 then (3, 0) else (0, Int32.ofNat (gTer (wG w) c)) := by
    unfold aSetTerrain
    rw [iC_of hc, nx_of (by omega)]
    rfl
  refine ⟨fun hneg => er 1 (by rw [e0, iR_no (a := 0) hneg]; rfl), fun hnn => ⟨fun hbig => er 1 (by rw [e0, iR_no2 (a := 0) (b := 5) (o_big2 (n := 5) hnn hbig)]; rfl), fun hsm => ?_⟩⟩
  · obtain ⟨t, ht9, rfl⟩ := o_rng hnn hsm
    have ht : t < 6 := ht9
    rw [iR_of (a := 0) (b := 5) (by decide) (by omega) (by omega), nx_of (by omega)] at e0
    rw [nx_of (by omega), nx_of (by omega)] at H1
    have go : aSetTerrain (wG w) (Int32.ofNat c) (Int32.ofNat t) r = (0, Int32.ofNat (gTer (wG w) c)) → (r = true → t < 5) → e_M 62 [.ref 3, .int (Int32.ofNat c)] (S0 I L D sc) (e_rI sc (fun r2 I2 L2 D2 => e_M 25 [.ref 36, .ref 2] (S0 I2 L2 D2 sc) (e_rV sc (fun I3 L3 D3 => e_M 63 [.ref 3, .int (Int32.ofNat c), .int (Int32.ofNat t), .int (e_b r)] (S0 I3 L3 D3 sc) (e_rV sc (fun I4 L4 D4 => Ψ r2 I4 L4 D4)))))) := by
      intro ea hr
      refine s_terrainAt h.1 hc (s_keep h.1 h.2.2.1 (fun I1 L1 hF1 hH1 => ?_))
      have h1 := h.kept hF1 hH1
      exact s_shape h1.1 hc (by omega) hr (fun L2 hF2 hG2 => finI_o (H1 I1 L2 ((hF1.mono (by decide) (by decide)).tr (hF2.mono (by decide) (by decide))) (by rw [ea]) (h1.then (hF2.mono (by decide) (by decide)) hG2)) ea)
    have dry : t ≠ 5 → aSetTerrain (wG w) (Int32.ofNat c) (Int32.ofNat t) r = (0, Int32.ofNat (gTer (wG w) c)) := fun hne => by
      rw [e0, beq_false_of_ne hne, Bool.false_and, if_neg (by decide), if_neg (fun h => hne h.1)]
    refine ⟨fun hne => ⟨fun _ => ?_, fun hne2 => absurd hne hne2⟩, fun he => ?_⟩
    · have hne' : t ≠ 5 := fun e => hne (by rw [e]; rfl)
      exact go (dry hne') (fun _ => by omega)
    · have ht5 : t = 5 := (o_eq (by omega) (by decide)).mp (Classical.not_not.mp he)
      refine bx_b (fun hr0 => ⟨fun hne => absurd hne he, fun _ => s_on h.1 hc ⟨fun hz => ?_, fun hnz => ?_⟩⟩) (fun hr1 => ?_)
      · refine go ?_ (fun hr => by rw [hr0] at hr; cases hr)
        rw [e0, hr0, Bool.and_false, if_neg (by decide), if_neg (fun h => h.2 hz)]
      · refine er 2 ?_
        rw [e0, hr0, Bool.and_false, if_neg (by decide), if_pos ⟨ht5, hnz⟩]
      · refine er 1 ?_
        rw [e0, ht5, hr1]
        rfl
theorem sC_setSource (h : CW I L w) {x y : Int32} {r : Bool} (H1 : ∀ I' L', Fr 0 139 I L I' L' → (aSetSource (wG w) x y).1 = 0 → CW I' L' (wCh w (gSrcS (wG w) (nx x) (nx y) r)) → finI [xI] χ Ψ (aSetSource (wG w) x y) I' L' D) (H0 : (aSetSource (wG w) x y).1 ≠ 0 → finI [xI] χ Ψ (aSetSource (wG w) x y) I L D) : e_M 68 [.ref 0, .int x, .int y, .int (e_b r)] (S0 I L D sc) (e_xI sc Ψ χ) := by
  have er : aSetSource (wG w) x y = (1, 0) → χ xI I L D := fun e => finI_e (k := 0) (v := 0) (H0 (by rw [e]; decide)) e
  refine vC_setSource (s_checkCell (fun c hc e => s_checkSide (fun d hd e2 => ?_) (fun hn => er (by unfold aSetSource; rw [hn, Bool.and_false]; rfl))) (fun hn => er (by unfold aSetSource; rw [hn]; rfl)))
  subst e
  subst e2
  have ea : aSetSource (wG w) (Int32.ofNat c) (Int32.ofNat d) = (0, e_b (gSrc (wG w) d c)) := by
    unfold aSetSource
    rw [iC_of hc, iS_of (by omega), nx_of (by omega), nx_of (by omega)]
    rfl
  rw [nx_of (by omega), nx_of (by omega)] at H1
  refine s_sourcesOf h.1 (by omega) (s_has hc (s_keep h.1 h.2.2.1 (fun I1 L1 hF1 hH1 => ?_)))
  have h1 := h.kept hF1 hH1
  exact s_markSource h1.1 hc hd (fun L2 hF2 hG2 => ⟨e_b01 _, finI_o (H1 I1 L2 ((hF1.mono (by decide) (by decide)).tr (hF2.mono (by decide) (by decide))) (by rw [ea]) (h1.then (hF2.mono (by decide) (by decide)) hG2)) ea⟩)
end
