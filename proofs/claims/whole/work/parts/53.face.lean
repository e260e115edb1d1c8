/-! the face's answers; the class's methods that change nothing -/
section
variable (s : Nat → Int32)
def aCell (x y : Int32) : Nat × Int32 :=
  if !iC x then (1, 0) else if y = 0 then (0, Int32.ofNat (gTer s (nx x))) else if y = 1 then (0, e_b (gRd s (nx x))) else if y = 2 then (0, s (126 + nx x)) else if y = 3 then (0, sI (gOn s (nx x))) else if y = 4 then (0, Int32.ofNat (gStr s (gOn s (nx x)))) else (2, 0)
def aNeighbor (x y : Int32) : Nat × Int32 := if !(iC x && iR y 0 5) then (1, 0) else match nb (nx x) (nx y) with
  | none => (2, 0)
  | some c => (0, Int32.ofNat c)
def aDistance (x y : Int32) : Nat × Int32 := if !(iC x && iC y) then (1, 0) else (0, Int32.ofNat (dst (nx x) (nx y)))
def aCount (x : Int32) : Nat × Int32 :=
  if x = 0 then (0, Int32.ofNat ((List.range 16).countP (gU s))) else if x = 1 then (0, s 192) else if x = 2 then (0, s 191) else if x = 3 then (0, s 189) else if x = 4 then (0, s 190) else if x = 5 then (0, Int32.ofNat (gSight s)) else if x = 6 then (0, s 194) else if x = 7 then (0, s 195) else (1, 0)
noncomputable def aUnit (x y : Int32) : Nat × Int32 :=
  if !iU s x then (1, 0) else if y = 0 then (0, Int32.ofNat (gSd s (nx x))) else if y = 1 then (0, Int32.ofNat (gPl s (nx x))) else if y = 2 then (0, Int32.ofNat (gSt s (nx x))) else if y = 3 then (0, Int32.ofNat (gMv s (nx x))) else if y = 4 then (0, Int32.ofNat (gAllow s (nx x))) else if y = 5 then (0, Int32.ofNat (gForce s (nx x))) else if y = 6 then (0, e_b (gIsS s (nx x))) else if y = 7 then (0, e_b (gCanA s (nx x) && !gMd s (nx x))) else if y = 8 then (0, e_b (gCanA s (nx x))) else if y = 9 then (0, e_b (gSeen s (1 - gSd s (nx x)) (gPl s (nx x)))) else (2, 0)
def aKnown (x : Int32) : Nat × Int32 := if !iS x then (1, 0) else (0, sI (gKnown s (nx x)))
noncomputable def aCells (x y : Int32) : Nat × Int64 :=
  if !iS x then (1, 0) else if y = 0 then (0, sL (gZone s (nx x))) else if y = 1 then (0, sL (gSeen s (nx x))) else if y = 2 then (0, sL (gSrc s (nx x))) else if y = 3 then (0, sL (gClosed s (nx x))) else if y = 4 then (0, sL (gSup s (nx x))) else (2, 0)
def aIsSeen (x y : Int32) : Nat × Int32 := if !(iC x && iC y) then (1, 0) else (0, e_b (gSees s (nx x) (nx y)))
noncomputable def aSupplyCost (x y : Int32) : Nat × Int32 := if !(iS x && iC y) then (1, 0) else if gSupC s (nx x) (nx y) = 1000000 then (2, 0) else (0, Int32.ofNat (gSupC s (nx x) (nx y)))
noncomputable def aReach (x : Int32) : Nat × Int64 := if !iU s x then (1, 0) else (0, sL (gReach s (nx x) (gAllow s (nx x))))
noncomputable def aCost (x y : Int32) : Nat × Int32 := if !(iU s x && iC y) then (1, 0) else if gPl s (nx x) = nx y ∨ gWayC s (nx x) (nx y) = 1000000 then (2, 0) else (0, Int32.ofNat (gWayC s (nx x) (nx y)))
noncomputable def aWay (x y z : Int32) : Nat × Int32 := if !(iU s x && iC y) then (1, 0) else if gPl s (nx x) = nx y ∨ gWayC s (nx x) (nx y) = 1000000 ∨ iR z 0 (gLen s (nx x) (nx y)) = false then (2, 0) else (0, Int32.ofNat (gWay s (nx x) (nx y) (nx z)))
/-- why there is no attack; 0: there is one -/
def aWhy (x y : Int32) : Nat := if !(iC x && iC y) then 1 else if dst (nx x) (nx y) ≠ 1 then 2 else if sI (gAtk s (nx x)) = 0 ∨ sI (gDef s (nx y)) = 0 then 3 else 0
noncomputable def aOdds (x y : Int32) (b : Bool) : Nat × Int32 := if aWhy s x y = 0 then (0, if b then Int32.ofNat (gDefense s (nx y)) else gAttack s (nx x)) else (aWhy s x y, 0)
def aAccount (x y : Int32) : Nat × Int32 :=
  if !iS x then (1, 0) else if y = 0 then (0, s (197 + 4 * nx x)) else if y = 1 then (0, Int32.ofNat (gStr s (gOwn s (nx x)))) else if y = 2 then (0, s (197 + 4 * nx x + 1)) else if y = 3 then (0, s (197 + 4 * nx x + 2)) else if y = 4 then (0, Int32.ofNat ((List.range 16).countP (gOwn s (nx x)))) else if y = 5 then (0, s (197 + 4 * nx x + 3)) else (2, 0)
def aText (x : Int32) : Nat × Int32 := if !iR x 0 68 then (1, 0) else match gCA (nx x) with
  | none => (0, 47)
  | some c => (0, Int32.ofNat (gL5 (if gRd s c then gTer s c + 6 else gTer s c)))
end
def aReport (w : Wd) (x y : Int32) : Nat × Int32 := if x < 0 ∨ ¬ x < Int32.ofNat (wL w) then (1, 0) else if y = 0 then (0, wRc w (nx x)) else if y = 1 then (0, wRd w (nx x)) else (2, 0)
theorem srcs_tab : ∀ n : Fin 4, e_b (n.1.testBit 0) + 2 * e_b (n.1.testBit 1) = Int32.ofNat n.1 := by decide +kernel
theorem ne_of_lit {y : Int32} {a b : Int32} (h : y = a) (hab : a ≠ b) : ¬ y = b := fun e => hab (h.symm.trans e)
section
variable {I : e_TI} {L : e_TL} {D : e_TD} {sc : e_TS} {w : Wd} {Ψ : Int32 → e_TI → e_TL → e_TD → Prop} {χ : String → e_TI → e_TL → e_TD → Prop}
theorem sC_cell (h : CW I L w) {x y : Int32} (H : finI [xI, xA] χ Ψ (aCell (wG w) x y) I L D) : e_M 74 [.ref 0, .int x, .int y] (S0 I L D sc) (e_xI sc Ψ χ) := by
  have hG := h.1
  refine vC_cell (s_checkCell (fun c hc e => ?_) (fun hn => finI_e (k := 0) (v := 0) H (by unfold aCell; rw [hn]; rfl)))
  subst e
  have ec : iC (Int32.ofNat c) = true := iC_of hc
  have en : nx (Int32.ofNat c) = c := nx_of (by omega)
  unfold aCell at H
  rw [ec, en] at H
  simp only [Bool.not_true, Bool.false_eq_true, if_false] at H
  refine ⟨fun e => s_terrainAt hG hc (finI_o H (by rw [if_pos e])), fun n0 => ⟨fun e => s_roads hG (s_has hc (s_oneIf (finI_o H (by rw [if_neg n0, if_pos e])))), fun n1 => ⟨fun e => ?_, fun n2 => ⟨fun e => s_on hG hc (finI_o H (by rw [if_neg n0, if_neg n1, if_neg n2, if_pos e])), fun n3 => ⟨fun e => s_on hG hc (s_strengthsOf hG (fun _ => gOn_U) (finI_o H (by rw [if_neg n0, if_neg n1, if_neg n2, if_neg n3, if_pos e]))), fun n4 => finI_e (k := 1) (v := 0) H (by rw [if_neg n0, if_neg n1, if_neg n2, if_neg n3, if_neg n4])⟩⟩⟩⟩⟩
  refine s_sourcesOf (d := 0) hG (by decide) (s_has hc (s_oneIf (s_sourcesOf (d := 1) hG (by decide) (s_has hc (s_oneIf (finI_o H ?_))))))
  rw [if_neg n0, if_neg n1, if_pos e]
  have hb := (hG.1.1 c hc).2.2.1
  rw [hb.1]
  have t := srcs_tab ⟨gn (wG w) (126 + c), by have := hb.2; omega⟩
  rw [← t]
  unfold gSrc
  rw [decide_eq_true hc, Bool.true_and, Bool.true_and]
theorem sC_neighbor {x y : Int32} (H : finI [xI, xN] χ Ψ (aNeighbor x y) I L D) : e_M 78 [.ref 0, .int x, .int y] (S0 I L D sc) (e_xI sc Ψ χ) := by
  refine vC_neighbor (s_checkCell (fun c hc e => ?_) (fun hn => finI_e (k := 0) (v := 0) H (by unfold aNeighbor; rw [hn]; rfl)))
  subst e
  unfold aNeighbor at H
  rw [iC_of hc, nx_of (by omega)] at H
  have bad : iR y 0 5 = false → χ xI I L D := fun hb => finI_e (k := 0) (v := 0) H (by rw [hb]; rfl)
  refine ⟨fun hneg => bad ?_, fun hnn => ⟨fun hlt => ?_, fun hbig => bad ?_⟩⟩
  · unfold iR
    rw [decide_eq_false (p := Int32.ofNat 0 ≤ y) (Int32.not_le.mpr hneg)]
    rfl
  · obtain ⟨d, hd9, rfl⟩ := o_rng2 (n := 6) hnn hlt
    have hd : d < 6 := hd9
    rw [iR_of (a := 0) (b := 5) (by decide) (by omega) (by omega), nx_of (by omega)] at H
    refine s_beside hc hd ?_
    cases hnb : nb c d with
    | none =>
      rw [hnb] at H
      exact bx_f (fun e => e rfl) (finI_e (k := 1) (v := 0) H rfl)
    | some a =>
      rw [hnb] at H
      have ha := nb_lt ⟨c, hc⟩ ⟨d, hd⟩ a hnb
      exact bx_t (o_ne1 (by omega)) (finI_o H rfl)
  · unfold iR
    rw [decide_eq_false (p := y ≤ Int32.ofNat 5) (fun hle => hbig ?_), Bool.and_false]
    obtain ⟨d, hd, rfl⟩ := o_nn hnn
    rw [o_le hd (by decide)] at hle
    exact b_lt (n := 6) (by omega)
theorem sC_distance {x y : Int32} (H : finI [xI] χ Ψ (aDistance x y) I L D) : e_M 84 [.ref 0, .int x, .int y] (S0 I L D sc) (e_xI sc Ψ χ) := by
  refine vC_distance (s_checkCell (fun c hc e => s_checkCell (fun d hd e2 => ?_) (fun hn => finI_e (k := 0) (v := 0) H (by unfold aDistance; rw [hn, Bool.and_false]; rfl))) (fun hn => finI_e (k := 0) (v := 0) H (by unfold aDistance; rw [hn]; rfl)))
  subst e
  subst e2
  refine s_apart hc hd (finI_o H ?_)
  unfold aDistance
  rw [iC_of hc, iC_of hd, nx_of (by omega), nx_of (by omega)]
  rfl
theorem sC_count (h : CW I L w) {x : Int32} (H : finI [xA] χ Ψ (aCount (wG w) x) I L D) : e_M 87 [.ref 0, .int x] (S0 I L D sc) (e_xI sc Ψ χ) := by
  have hG := h.1
  obtain ⟨r1, r2, r3, r4, r9, r10, a1, a2, a3, a4, a5, a6, a7⟩ := hG.2
  unfold aCount at H
  refine vC_count ⟨fun e => s_howMany hG (finI_o H (by rw [if_pos e])), fun n0 => ⟨fun e => ?_, fun n1 => ⟨fun e => ?_, fun n2 => ⟨fun e => ?_, fun n3 => ⟨fun e => ?_, fun n4 => ⟨fun e => ?_, fun n5 => ⟨fun e => ?_, fun n6 => ⟨fun e => ?_, fun n7 => ?_⟩⟩⟩⟩⟩⟩⟩⟩
  · rw [a2]; exact finI_o H (by rw [if_neg n0, if_pos e])
  · rw [a3]; exact finI_o H (by rw [if_neg n0, if_neg n1, if_pos e])
  · rw [a1]; exact finI_o H (by rw [if_neg n0, if_neg n1, if_neg n2, if_pos e])
  · rw [a4]; exact finI_o H (by rw [if_neg n0, if_neg n1, if_neg n2, if_neg n3, if_pos e])
  · exact s_sightRange hG (finI_o H (by rw [if_neg n0, if_neg n1, if_neg n2, if_neg n3, if_neg n4, if_pos e]))
  · rw [a5]; exact finI_o H (by rw [if_neg n0, if_neg n1, if_neg n2, if_neg n3, if_neg n4, if_neg n5, if_pos e])
  · rw [a6]; exact finI_o H (by rw [if_neg n0, if_neg n1, if_neg n2, if_neg n3, if_neg n4, if_neg n5, if_neg n6, if_pos e])
  · exact finI_e (k := 0) (v := 0) H (by rw [if_neg n0, if_neg n1, if_neg n2, if_neg n3, if_neg n4, if_neg n5, if_neg n6, if_neg n7])
theorem sC_unit (h : CW I L w) {x y : Int32} (H : ∀ L', Fr 14 19 I L I L' → finI [xI, xA] χ Ψ (aUnit (wG w) x y) I L' D) : e_M 112 [.ref 0, .int x, .int y] (S0 I L D sc) (e_xI sc Ψ χ) := by
  have hG := h.1
  refine vC_unit (s_checkUnit hG (fun u e hu => ?_) (fun hn => finI_e (k := 0) (v := 0) (H L Fr.rf) (by unfold aUnit; rw [hn]; rfl)))
  subst e
  have hlt := gU_lt hu
  have hm := hG.ma
  have hsd := hG.sd hlt
  have eu : iU (wG w) (Int32.ofNat u) = true := by rw [iU_of (by omega)]; exact hu
  have en : nx (Int32.ofNat u) = u := nx_of (by omega)
  unfold aUnit at H
  rw [eu, en] at H
  simp only [Bool.not_true, Bool.false_eq_true, if_false] at H
  have H0 := H L Fr.rf
  refine s_sideOf hG hlt ⟨fun e => finI_o H0 (by rw [if_pos e]), fun n0 => ⟨fun e => s_placeOf hG hlt (finI_o H0 (by rw [if_neg n0, if_pos e])), fun n1 => ⟨fun e => s_strengthOf hG hlt (finI_o H0 (by rw [if_neg n0, if_neg n1, if_pos e])), fun n2 => ⟨fun e => s_movementOf hG hlt (finI_o H0 (by rw [if_neg n0, if_neg n1, if_neg n2, if_pos e])), fun n3 => ⟨fun e => ?_, fun n4 => ⟨fun e => ?_, fun n5 => ⟨fun e => ?_, fun n6 => ⟨fun e => ?_, fun n7 => ⟨fun e => ?_, fun n8 => ⟨fun e => ?_, fun n9 => ?_⟩⟩⟩⟩⟩⟩⟩⟩⟩⟩
  · exact s_allowance hG hlt (fun L1 hF => finI_o (H L1 hF) (by rw [if_neg n0, if_neg n1, if_neg n2, if_neg n3, if_pos e]))
  · exact s_isSupplied hG hlt (fun L1 hF => s_forceOf (hG.fr hF (by decide)) hlt (finI_o (H L1 hF) (by rw [if_neg n0, if_neg n1, if_neg n2, if_neg n3, if_neg n4, if_pos e]; rfl)))
  · exact s_isSupplied hG hlt (fun L1 hF => s_oneIf (finI_o (H L1 hF) (by rw [if_neg n0, if_neg n1, if_neg n2, if_neg n3, if_neg n4, if_neg n5, if_pos e])))
  · exact s_canMove hG hlt (s_oneIf (finI_o H0 (by rw [if_neg n0, if_neg n1, if_neg n2, if_neg n3, if_neg n4, if_neg n5, if_neg n6, if_pos e])))
  · exact s_canAttack hG hlt (s_oneIf (finI_o H0 (by rw [if_neg n0, if_neg n1, if_neg n2, if_neg n3, if_neg n4, if_neg n5, if_neg n6, if_neg n7, if_pos e])))
  · rw [show (1 : Int32) = Int32.ofNat 1 from rfl, o_sub hsd]
    exact s_seenBy hG (by omega) (s_placeOf hG hlt (s_has (hG.pl hlt).2 (s_oneIf (finI_o H0 (by rw [if_neg n0, if_neg n1, if_neg n2, if_neg n3, if_neg n4, if_neg n5, if_neg n6, if_neg n7, if_neg n8, if_pos e])))))
  · exact finI_e (k := 1) (v := 0) H0 (by rw [if_neg n0, if_neg n1, if_neg n2, if_neg n3, if_neg n4, if_neg n5, if_neg n6, if_neg n7, if_neg n8, if_neg n9])
theorem sC_known (h : CW I L w) {x : Int32} (H : finI [xI] χ Ψ (aKnown (wG w) x) I L D) : e_M 115 [.ref 0, .int x] (S0 I L D sc) (e_xI sc Ψ χ) := by
  refine vC_known (s_checkSide (fun d hd e => ?_) (fun hn => finI_e (k := 0) (v := 0) H (by unfold aKnown; rw [hn]; rfl)))
  subst e
  refine s_knownTo h.1 hd (finI_o H ?_)
  unfold aKnown
  rw [iS_of (by omega), nx_of (by omega)]
  rfl
theorem sC_cells {Ψ : Int64 → e_TI → e_TL → e_TD → Prop} (h : CW I L w) {x y : Int32} (H : ∀ L', Fr 14 19 I L I L' → finL [xI, xA] χ Ψ (aCells (wG w) x y) I L' D) : e_M 118 [.ref 0, .int x, .int y] (S0 I L D sc) (e_xL sc Ψ χ) := by
  have hG := h.1
  refine vC_cells (s_checkSide (fun d hd e => ?_) (fun hn => finL_e (k := 0) (v := 0) (H L Fr.rf) (by unfold aCells; rw [hn]; rfl)))
  subst e
  unfold aCells at H
  rw [iS_of (by omega), nx_of (by omega)] at H
  simp only [Bool.not_true, Bool.false_eq_true, if_false] at H
  have H0 := H L Fr.rf
  refine ⟨fun e => s_zoneOf hG hd (finL_o H0 (by rw [if_pos e])), fun n0 => ⟨fun e => s_seenBy hG hd (finL_o H0 (by rw [if_neg n0, if_pos e])), fun n1 => ⟨fun e => s_sourcesOf hG (by omega) (finL_o H0 (by rw [if_neg n0, if_neg n1, if_pos e])), fun n2 => ⟨fun e => s_closedFor hG hd (finL_o H0 (by rw [if_neg n0, if_neg n1, if_neg n2, if_pos e])), fun n3 => ⟨fun e => s_suppliedCells hG hd (fun L1 hF _ => finL_o (H L1 hF) (by rw [if_neg n0, if_neg n1, if_neg n2, if_neg n3, if_pos e])), fun n4 => finL_e (k := 1) (v := 0) H0 (by rw [if_neg n0, if_neg n1, if_neg n2, if_neg n3, if_neg n4])⟩⟩⟩⟩⟩
theorem sC_isSeen (h : CW I L w) {x y : Int32} (H : finI [xI] χ Ψ (aIsSeen (wG w) x y) I L D) : e_M 120 [.ref 0, .int x, .int y] (S0 I L D sc) (e_xI sc Ψ χ) := by
  refine vC_isSeen (s_checkCell (fun c hc e => s_checkCell (fun d hd e2 => ?_) (fun hn => finI_e (k := 0) (v := 0) H (by unfold aIsSeen; rw [hn, Bool.and_false]; rfl))) (fun hn => finI_e (k := 0) (v := 0) H (by unfold aIsSeen; rw [hn]; rfl)))
  subst e
  subst e2
  refine s_sightRange h.1 (s_seenFrom h.1 hc (gSight_le h.1) (s_has hd ⟨e_b01 _, finI_o H ?_⟩))
  unfold aIsSeen
  rw [iC_of hc, iC_of hd, nx_of (by omega), nx_of (by omega), decide_eq_true hd]
  rfl
theorem gSupC_le (h : CW I L w) (d c : Nat) : gSupC (wG w) d c ≤ 372 ∨ gSupC (wG w) d c = 1000000 :=
  fC_le (gPr_ok h.1 (fun c => gSupO_nw h.1)) (fun c => gSupF_lt) c
theorem sC_supplyCost (h : CW I L w) {x y : Int32} (H : ∀ L', Fr 14 19 I L I L' → finI [xI, xN] χ Ψ (aSupplyCost (wG w) x y) I L' D) : e_M 124 [.ref 0, .int x, .int y] (S0 I L D sc) (e_xI sc Ψ χ) := by
  refine vC_supplyCost (s_checkSide (fun d hd e => s_checkCell (fun c hc e2 => ?_) (fun hn => finI_e (k := 0) (v := 0) (H L Fr.rf) (by unfold aSupplyCost; rw [hn, Bool.and_false]; rfl))) (fun hn => finI_e (k := 0) (v := 0) (H L Fr.rf) (by unfold aSupplyCost; rw [hn]; rfl)))
  subst e
  subst e2
  unfold aSupplyCost at H
  rw [iS_of (by omega), iC_of hc, nx_of (by omega), nx_of (by omega)] at H
  simp only [Bool.and_self, Bool.not_true, Bool.false_eq_true, if_false] at H
  refine vP_supplyCostAt (s_suppliedCells h.1 hd (fun L1 hF hW => s_costOf_14 hW (fun c => gSupC_le h d c) hc (fun h1 => ?_) (fun h0 => ?_)))
  · have h1' : gSupC (wG w) d c ≤ 372 := h1
    exact bx_t (o_ne1 (by omega)) (finI_o (H L1 hF) (by rw [if_neg (by omega)]; rfl))
  · have h0' : gSupC (wG w) d c = 1000000 := h0
    exact bx_f (fun e => e rfl) (finI_e (k := 1) (v := 0) (H L1 hF) (by rw [if_pos h0']))
theorem gAllow_le (h : CW I L w) {u : Nat} (hu : u < gMa (wG w)) : gAllow (wG w) u ≤ 12 := by
  have := (h.1.mv hu).2
  unfold gAllow gHalf
  split <;> omega
theorem sC_reach {Ψ : Int64 → e_TI → e_TL → e_TD → Prop} (h : CW I L w) {x : Int32} (H : ∀ L', Fr 14 24 I L I L' → finL [xI] χ Ψ (aReach (wG w) x) I L' D) : e_M 130 [.ref 0, .int x] (S0 I L D sc) (e_xL sc Ψ χ) := by
  have hm := h.1.ma
  refine vC_reach (s_checkUnit h.1 (fun u e hu => ?_) (fun hn => finL_e (k := 0) (v := 0) (H L Fr.rf) (by unfold aReach; rw [hn]; rfl)))
  subst e
  have hlt := gU_lt hu
  refine s_allowance h.1 hlt (fun L1 hF1 => s_reachOf (h.1.fr hF1 (by decide)) hlt (by have := gAllow_le h hlt; omega) (fun L2 hF2 => finL_o (H L2 ((hF1.mono (by decide) (by decide)).tr (hF2.mono (by decide) (by decide)))) ?_))
  unfold aReach
  rw [iU_of (by omega), hu, nx_of (by omega)]
  rfl
theorem sC_cost (h : CW I L w) {x y : Int32} (H : ∀ I' L', Fr 14 24 I L I' L' → finI [xI, xN] χ Ψ (aCost (wG w) x y) I' L' D) : e_M 139 [.ref 0, .int x, .int y] (S0 I L D sc) (e_xI sc Ψ χ) := by
  have hm := h.1.ma
  refine vC_cost (s_checkUnit h.1 (fun u e hu => s_checkCell (fun c hc e2 => ?_) (fun hn => finI_e (k := 0) (v := 0) (H I L Fr.rf) (by unfold aCost; rw [hn, Bool.and_false]; rfl))) (fun hn => finI_e (k := 0) (v := 0) (H I L Fr.rf) (by unfold aCost; rw [hn]; rfl)))
  subst e
  subst e2
  have hlt := gU_lt hu
  unfold aCost at H
  rw [iU_of (by omega), hu, iC_of hc, nx_of (by omega), nx_of (by omega)] at H
  simp only [Bool.and_self, Bool.not_true, Bool.false_eq_true, if_false] at H
  refine s_findWay h.1 hlt hc (fun e => ?_) (fun ne e L1 hF => ?_) (fun ne e I1 L1 hF hT => ?_)
  · exact bx_f (fun e => e rfl) (finI_e (k := 1) (v := 0) (H I L Fr.rf) (by rw [if_pos (Or.inl e)]))
  · exact bx_f (fun e => e rfl) (finI_e (k := 1) (v := 0) (H I L1 (hF.mono (by decide) (by decide))) (by rw [if_pos (Or.inr e)]))
  · exact bx_t (o_ne1 (by omega)) (finI_o (H I1 L1 (hF.mono (by decide) (by decide))) (by rw [if_neg (by omega)]))
theorem sC_way (h : CW I L w) {x y z : Int32} (H : ∀ I' L', Fr 14 24 I L I' L' → finI [xI, xN] χ Ψ (aWay (wG w) x y z) I' L' D) : e_M 143 [.ref 0, .int x, .int y, .int z] (S0 I L D sc) (e_xI sc Ψ χ) := by
  have hm := h.1.ma
  refine vC_way (s_checkUnit h.1 (fun u e hu => s_checkCell (fun c hc e2 => ?_) (fun hn => finI_e (k := 0) (v := 0) (H I L Fr.rf) (by unfold aWay; rw [hn, Bool.and_false]; rfl))) (fun hn => finI_e (k := 0) (v := 0) (H I L Fr.rf) (by unfold aWay; rw [hn]; rfl)))
  subst e
  subst e2
  have hlt := gU_lt hu
  unfold aWay at H
  rw [iU_of (by omega), hu, iC_of hc, nx_of (by omega), nx_of (by omega)] at H
  simp only [Bool.and_self, Bool.not_true, Bool.false_eq_true, if_false] at H
  refine s_findWay h.1 hlt hc (fun e => ?_) (fun ne e L1 hF => ?_) (fun ne e I1 L1 hF hT => ?_)
  · exact bx_f (fun e => e rfl) (finI_e (k := 1) (v := 0) (H I L Fr.rf) (by rw [if_pos (Or.inl e)]))
  · exact bx_f (fun e => e rfl) (finI_e (k := 1) (v := 0) (H I L1 (hF.mono (by decide) (by decide))) (by rw [if_pos (Or.inr (Or.inl e))]))
  · obtain ⟨hn, _, _, hw⟩ := gLen_ok h.1 hlt e
    have H1 := H I1 L1 (hF.mono (by decide) (by decide))
    refine bx_t (o_ne1 (by omega)) (vP_wayAt (s_trailAt hT hn (fun i hi ei => ?_) (fun hno => ?_)))
    · have hwi := hw i hi
      subst ei
      refine bx_t (o_ne1 (by omega)) (finI_o H1 ?_)
      rw [iR_of (by omega) (Nat.zero_le _) hi, nx_of (by omega), if_neg]
      rintro (h1 | h1 | h1)
      · exact ne h1
      · omega
      · cases h1
    · refine bx_f (fun e => e rfl) (finI_e (k := 1) (v := 0) H1 ?_)
      rw [if_pos (Or.inr (Or.inr ?_))]
      rw [Bool.eq_false_iff]
      intro hr
      obtain ⟨i, _, hi, ei⟩ := iR_ex (by omega) (Nat.zero_le _) hr
      exact hno i hi ei
end
