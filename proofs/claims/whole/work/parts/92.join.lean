/-! class and reference side by side: one call of each -/
def wFd (w : Wd) (x : Int32) : Wd := if (aFeed w).1 = 0 then wBf w (wN w + 1, fun i => if i = wN w then vp_nar .char x else wB w i) else w
def wUd (w : Wd) : Wd := if wM w = 0 then w else wUndo w
def wRs (w : Wd) : Wd := if wSf w = true then wRest w else w
section
variable {I I' : e_TI} {L L' : e_TL} {w : Wd}
theorem CW.out (h : CW I L w) (hF : ∀ c, c < 139 → I' c = I c ∧ L' c = L c) : CW I' L' w := by
  obtain ⟨h1, ⟨h2, h3⟩, ⟨nx, q1, q2, q3, q4, q5⟩, h5, h6⟩ := h
  have e : ∀ c, c < 139 → I' c = I c := fun c hc => (hF c hc).1
  have eL : ∀ c, c < 139 → L' c = L c := fun c hc => (hF c hc).2
  refine ⟨⟨h1.1, h1.2.frame (fun c _ hc => e c (by omega)) (fun c _ hc => eL c (by omega))⟩, ⟨?_, fun hs => ⟨(h3 hs).1, (h3 hs).2.frame (fun c _ hc => e c (by omega)) (fun c _ hc => eL c (by omega))⟩⟩, ⟨nx, q1, ?_, ?_, q4, fun i hi => ⟨(q5 i hi).1, (q5 i hi).2.frame (fun c _ hc => e c ?_) (fun c _ hc => eL c ?_)⟩⟩, ?_, ?_⟩
  · rw [e 0 (by decide)]; exact h2
  · rw [e 36 (by decide)]; exact q2
  · rw [e 36 (by decide)]; exact q3
  · have := Nat.mod_lt (nx + 8 - wM w + i) (show 0 < 8 by decide)
    omega
  · have := Nat.mod_lt (nx + 8 - wM w + i) (show 0 < 8 by decide)
    omega
  · unfold RpR at h5 ⊢
    rw [e 134 (by decide), e 135 (by decide), e 136 (by decide)]
    exact h5
  · unfold BfR at h6 ⊢
    rw [e 137 (by decide), e 138 (by decide)]
    exact h6
theorem CW.put (h : CW I L w) {k : Nat} {x : Int64} : CW I (e_up L 148 k x) w := h.out (fun c hc => ⟨rfl, up_cell (by omega)⟩)
theorem CW.far (h : CW I L w) (hF : Fr 139 148 I L I' L') : CW I' L' w := h.out (fun c hc => hF c (Or.inl hc))
theorem MW.out (h : MW I w) (hI : ∀ c, 139 ≤ c → I' c = I c) : MW I' w := by
  unfold MW at h ⊢
  rw [hI 139 (by decide), hI 140 (by decide), hI 141 (by decide), hI 142 (by decide), hI 146 (by decide), hI 147 (by decide)]
  exact h
theorem Fr.off (hF : Fr 0 139 I L I' L') : ∀ c, 139 ≤ c → I' c = I c := fun c hc => (hF c (Or.inr hc)).1
end
/-- how a wrapper of the law ends: the code, the answer in the row of one long -/
def oW (I : e_TI) (D : e_TD) (w : Wd) (n : Nat) (v : Int64) (Ψ : Int32 → e_TI → e_TL → e_TD → Prop) : Prop := ∀ I' L', (∀ c, 139 ≤ c → I' c = I c) → CW I' L' w → (n = 0 → L' 148 0 = v) → Ψ (Int32.ofNat n) I' L' D
section
variable {I I' : e_TI} {L L' : e_TL} {D : e_TD} {sc : e_TS} {w : Wd} {n : Nat} {v : Int64} {Ψ : Int32 → e_TI → e_TL → e_TD → Prop}
theorem oW.z (H : oW I D w n v Ψ) (hF : Fr 0 139 I L I' L') (hC : CW I' L' w) (e : n = 0) : Ψ 0 I' (e_up L' 148 0 v) D := by
  subst e
  exact H I' _ hF.off hC.put (fun _ => up_same)
theorem oW.k (H : oW I D w n v Ψ) (hF : Fr 0 139 I L I' L') (hC : CW I' L' w) {k : Nat} (e : n = k + 1) : Ψ (Int32.ofNat (k + 1)) I' L' D := by
  subst e
  exact H I' L' hF.off hC (fun h0 => absurd h0 (Nat.succ_ne_zero k))
end
section
variable {I : e_TI} {L : e_TL} {D : e_TD} {χ : String → e_TI → e_TL → e_TD → Prop} {Ψ : Int32 → e_TI → e_TL → e_TD → Prop} {a : Nat × Int32}
theorem finI_1 {x0 : String} (ha : a.1 ≤ 1) (h0 : a.1 = 0 → Ψ a.2 I L D) (h1 : a.1 = 1 → χ x0 I L D) : finI [x0] χ Ψ a I L D := by
  unfold finI
  have cs : a.1 = 0 ∨ a.1 = 1 := by omega
  rcases cs with e | e
  · rw [if_pos e]; exact h0 e
  · rw [if_neg (by omega), e]; exact h1 e
theorem finI_2 {x0 x1 : String} (ha : a.1 ≤ 2) (h0 : a.1 = 0 → Ψ a.2 I L D) (h1 : a.1 = 1 → χ x0 I L D) (h2 : a.1 = 2 → χ x1 I L D) : finI [x0, x1] χ Ψ a I L D := by
  unfold finI
  have cs : a.1 = 0 ∨ a.1 = 1 ∨ a.1 = 2 := by omega
  rcases cs with e | e | e
  · rw [if_pos e]; exact h0 e
  · rw [if_neg (by omega), e]; exact h1 e
  · rw [if_neg (by omega), e]; exact h2 e
theorem finI_3 {x0 x1 x2 : String} (ha : a.1 ≤ 3) (h0 : a.1 = 0 → Ψ a.2 I L D) (h1 : a.1 = 1 → χ x0 I L D) (h2 : a.1 = 2 → χ x1 I L D) (h3 : a.1 = 3 → χ x2 I L D) : finI [x0, x1, x2] χ Ψ a I L D := by
  unfold finI
  have cs : a.1 = 0 ∨ a.1 = 1 ∨ a.1 = 2 ∨ a.1 = 3 := by omega
  rcases cs with e | e | e | e
  · rw [if_pos e]; exact h0 e
  · rw [if_neg (by omega), e]; exact h1 e
  · rw [if_neg (by omega), e]; exact h2 e
  · rw [if_neg (by omega), e]; exact h3 e
theorem finI_4 {x0 x1 x2 x3 : String} (ha : a.1 ≤ 4) (h0 : a.1 = 0 → Ψ a.2 I L D) (h1 : a.1 = 1 → χ x0 I L D) (h2 : a.1 = 2 → χ x1 I L D) (h3 : a.1 = 3 → χ x2 I L D) (h4 : a.1 = 4 → χ x3 I L D) : finI [x0, x1, x2, x3] χ Ψ a I L D := by
  unfold finI
  have cs : a.1 = 0 ∨ a.1 = 1 ∨ a.1 = 2 ∨ a.1 = 3 ∨ a.1 = 4 := by omega
  rcases cs with e | e | e | e | e
  · rw [if_pos e]; exact h0 e
  · rw [if_neg (by omega), e]; exact h1 e
  · rw [if_neg (by omega), e]; exact h2 e
  · rw [if_neg (by omega), e]; exact h3 e
  · rw [if_neg (by omega), e]; exact h4 e
end
section
variable {I : e_TI} {L : e_TL} {D : e_TD} {χ : String → e_TI → e_TL → e_TD → Prop} {Ψ : Int64 → e_TI → e_TL → e_TD → Prop} {a : Nat × Int64}
theorem finL_1 {x0 : String} (ha : a.1 ≤ 1) (h0 : a.1 = 0 → Ψ a.2 I L D) (h1 : a.1 = 1 → χ x0 I L D) : finL [x0] χ Ψ a I L D := by
  unfold finL
  have cs : a.1 = 0 ∨ a.1 = 1 := by omega
  rcases cs with e | e
  · rw [if_pos e]; exact h0 e
  · rw [if_neg (by omega), e]; exact h1 e
theorem finL_2 {x0 x1 : String} (ha : a.1 ≤ 2) (h0 : a.1 = 0 → Ψ a.2 I L D) (h1 : a.1 = 1 → χ x0 I L D) (h2 : a.1 = 2 → χ x1 I L D) : finL [x0, x1] χ Ψ a I L D := by
  unfold finL
  have cs : a.1 = 0 ∨ a.1 = 1 ∨ a.1 = 2 := by omega
  rcases cs with e | e | e
  · rw [if_pos e]; exact h0 e
  · rw [if_neg (by omega), e]; exact h1 e
  · rw [if_neg (by omega), e]; exact h2 e
theorem finL_3 {x0 x1 x2 : String} (ha : a.1 ≤ 3) (h0 : a.1 = 0 → Ψ a.2 I L D) (h1 : a.1 = 1 → χ x0 I L D) (h2 : a.1 = 2 → χ x1 I L D) (h3 : a.1 = 3 → χ x2 I L D) : finL [x0, x1, x2] χ Ψ a I L D := by
  unfold finL
  have cs : a.1 = 0 ∨ a.1 = 1 ∨ a.1 = 2 ∨ a.1 = 3 := by omega
  rcases cs with e | e | e | e
  · rw [if_pos e]; exact h0 e
  · rw [if_neg (by omega), e]; exact h1 e
  · rw [if_neg (by omega), e]; exact h2 e
  · rw [if_neg (by omega), e]; exact h3 e
theorem finL_4 {x0 x1 x2 x3 : String} (ha : a.1 ≤ 4) (h0 : a.1 = 0 → Ψ a.2 I L D) (h1 : a.1 = 1 → χ x0 I L D) (h2 : a.1 = 2 → χ x1 I L D) (h3 : a.1 = 3 → χ x2 I L D) (h4 : a.1 = 4 → χ x3 I L D) : finL [x0, x1, x2, x3] χ Ψ a I L D := by
  unfold finL
  have cs : a.1 = 0 ∨ a.1 = 1 ∨ a.1 = 2 ∨ a.1 = 3 ∨ a.1 = 4 := by omega
  rcases cs with e | e | e | e | e
  · rw [if_pos e]; exact h0 e
  · rw [if_neg (by omega), e]; exact h1 e
  · rw [if_neg (by omega), e]; exact h2 e
  · rw [if_neg (by omega), e]; exact h3 e
  · rw [if_neg (by omega), e]; exact h4 e
end
section
variable {I : e_TI} {L : e_TL} {D : e_TD} {χ : String → e_TI → e_TL → e_TD → Prop} {Ψ : UInt64 → e_TI → e_TL → e_TD → Prop} {a : Nat × UInt64}
theorem finD_1 {x0 : String} (ha : a.1 ≤ 1) (h0 : a.1 = 0 → Ψ a.2 I L D) (h1 : a.1 = 1 → χ x0 I L D) : finD [x0] χ Ψ a I L D := by
  unfold finD
  have cs : a.1 = 0 ∨ a.1 = 1 := by omega
  rcases cs with e | e
  · rw [if_pos e]; exact h0 e
  · rw [if_neg (by omega), e]; exact h1 e
theorem finD_2 {x0 x1 : String} (ha : a.1 ≤ 2) (h0 : a.1 = 0 → Ψ a.2 I L D) (h1 : a.1 = 1 → χ x0 I L D) (h2 : a.1 = 2 → χ x1 I L D) : finD [x0, x1] χ Ψ a I L D := by
  unfold finD
  have cs : a.1 = 0 ∨ a.1 = 1 ∨ a.1 = 2 := by omega
  rcases cs with e | e | e
  · rw [if_pos e]; exact h0 e
  · rw [if_neg (by omega), e]; exact h1 e
  · rw [if_neg (by omega), e]; exact h2 e
theorem finD_3 {x0 x1 x2 : String} (ha : a.1 ≤ 3) (h0 : a.1 = 0 → Ψ a.2 I L D) (h1 : a.1 = 1 → χ x0 I L D) (h2 : a.1 = 2 → χ x1 I L D) (h3 : a.1 = 3 → χ x2 I L D) : finD [x0, x1, x2] χ Ψ a I L D := by
  unfold finD
  have cs : a.1 = 0 ∨ a.1 = 1 ∨ a.1 = 2 ∨ a.1 = 3 := by omega
  rcases cs with e | e | e | e
  · rw [if_pos e]; exact h0 e
  · rw [if_neg (by omega), e]; exact h1 e
  · rw [if_neg (by omega), e]; exact h2 e
  · rw [if_neg (by omega), e]; exact h3 e
theorem finD_4 {x0 x1 x2 x3 : String} (ha : a.1 ≤ 4) (h0 : a.1 = 0 → Ψ a.2 I L D) (h1 : a.1 = 1 → χ x0 I L D) (h2 : a.1 = 2 → χ x1 I L D) (h3 : a.1 = 3 → χ x2 I L D) (h4 : a.1 = 4 → χ x3 I L D) : finD [x0, x1, x2, x3] χ Ψ a I L D := by
  unfold finD
  have cs : a.1 = 0 ∨ a.1 = 1 ∨ a.1 = 2 ∨ a.1 = 3 ∨ a.1 = 4 := by omega
  rcases cs with e | e | e | e | e
  · rw [if_pos e]; exact h0 e
  · rw [if_neg (by omega), e]; exact h1 e
  · rw [if_neg (by omega), e]; exact h2 e
  · rw [if_neg (by omega), e]; exact h3 e
  · rw [if_neg (by omega), e]; exact h4 e
end
theorem le_ite {α : Type} {c : Prop} [h : Decidable c] {a b : Nat × α} {n : Nat} (h1 : a.1 ≤ n) (h2 : b.1 ≤ n) : (if c then a else b).1 ≤ n := by
  split
  · exact h1
  · exact h2

theorem aSetTerrain_le {w : Wd} {x : Int32} {y : Int32} {z : Bool} : (aSetTerrain (wG w) x y z).1 ≤ 3 := by
  unfold aSetTerrain
  repeat' split
  all_goals first | exact Nat.zero_le _ | exact Nat.le_of_ble_eq_true rfl

theorem aSetSource_le {w : Wd} {x : Int32} {y : Int32} : (aSetSource (wG w) x y).1 ≤ 1 := by
  unfold aSetSource
  repeat' split
  all_goals first | exact Nat.zero_le _ | exact Nat.le_of_ble_eq_true rfl

theorem aSet_le {w : Wd} {x : Bool} {y : Int32} : (aSet (wG w) x y).1 ≤ 1 := by
  unfold aSet
  repeat' split
  all_goals first | exact Nat.zero_le _ | exact Nat.le_of_ble_eq_true rfl

theorem aCell_le {w : Wd} {x : Int32} {y : Int32} : (aCell (wG w) x y).1 ≤ 2 := by
  unfold aCell
  repeat' split
  all_goals first | exact Nat.zero_le _ | exact Nat.le_of_ble_eq_true rfl

theorem aNeighbor_le {x : Int32} {y : Int32} : (aNeighbor x y).1 ≤ 2 := by
  unfold aNeighbor
  repeat' split
  all_goals first | exact Nat.zero_le _ | exact Nat.le_of_ble_eq_true rfl

theorem aDistance_le {x : Int32} {y : Int32} : (aDistance x y).1 ≤ 1 := by
  unfold aDistance
  repeat' split
  all_goals first | exact Nat.zero_le _ | exact Nat.le_of_ble_eq_true rfl

theorem aCount_le {w : Wd} {x : Int32} : (aCount (wG w) x).1 ≤ 1 := by
  unfold aCount
  repeat' split
  all_goals first | exact Nat.zero_le _ | exact Nat.le_of_ble_eq_true rfl

theorem aAdd_le {w : Wd} {x : Int32} {y : Int32} {z : Int32} {u : Int32} : (aAdd (wG w) x y z u).1 ≤ 3 := by
  unfold aAdd
  repeat' split
  all_goals first | exact Nat.zero_le _ | exact Nat.le_of_ble_eq_true rfl

theorem aUnit_le {w : Wd} {x : Int32} {y : Int32} : (aUnit (wG w) x y).1 ≤ 2 := by
  unfold aUnit
  repeat' split
  all_goals first | exact Nat.zero_le _ | exact Nat.le_of_ble_eq_true rfl

theorem aKnown_le {w : Wd} {x : Int32} : (aKnown (wG w) x).1 ≤ 1 := by
  unfold aKnown
  repeat' split
  all_goals first | exact Nat.zero_le _ | exact Nat.le_of_ble_eq_true rfl

theorem aCells_le {w : Wd} {x : Int32} {y : Int32} : (aCells (wG w) x y).1 ≤ 2 := by
  unfold aCells
  repeat' split
  all_goals first | exact Nat.zero_le _ | exact Nat.le_of_ble_eq_true rfl

theorem aIsSeen_le {w : Wd} {x : Int32} {y : Int32} : (aIsSeen (wG w) x y).1 ≤ 1 := by
  unfold aIsSeen
  repeat' split
  all_goals first | exact Nat.zero_le _ | exact Nat.le_of_ble_eq_true rfl

theorem aSupplyCost_le {w : Wd} {x : Int32} {y : Int32} : (aSupplyCost (wG w) x y).1 ≤ 2 := by
  unfold aSupplyCost
  repeat' split
  all_goals first | exact Nat.zero_le _ | exact Nat.le_of_ble_eq_true rfl

theorem aReach_le {w : Wd} {x : Int32} : (aReach (wG w) x).1 ≤ 1 := by
  unfold aReach
  repeat' split
  all_goals first | exact Nat.zero_le _ | exact Nat.le_of_ble_eq_true rfl

theorem aCost_le {w : Wd} {x : Int32} {y : Int32} : (aCost (wG w) x y).1 ≤ 2 := by
  unfold aCost
  repeat' split
  all_goals first | exact Nat.zero_le _ | exact Nat.le_of_ble_eq_true rfl

theorem aWay_le {w : Wd} {x : Int32} {y : Int32} {z : Int32} : (aWay (wG w) x y z).1 ≤ 2 := by
  unfold aWay
  repeat' split
  all_goals first | exact Nat.zero_le _ | exact Nat.le_of_ble_eq_true rfl

theorem aMove_le {w : Wd} {x : Int32} {y : Int32} : (aMove (wG w) x y).1 ≤ 4 := by
  unfold aMove
  repeat' split
  all_goals first | exact Nat.zero_le _ | exact Nat.le_of_ble_eq_true rfl

theorem aOdds_le {w : Wd} {x : Int32} {y : Int32} {z : Bool} : (aOdds (wG w) x y z).1 ≤ 3 := by
  unfold aOdds
  have := aWhy_le (s := wG w) (x := x) (y := y)
  split
  · exact Nat.zero_le _
  · exact this

theorem aAttack_le {w : Wd} {x : Int32} {y : Int32} : (aAttack (wG w) x y).1 ≤ 3 := by
  unfold aAttack
  have := aWhy_le (s := wG w) (x := x) (y := y)
  split
  · exact Nat.zero_le _
  · exact this

theorem aAccount_le {w : Wd} {x : Int32} {y : Int32} : (aAccount (wG w) x y).1 ≤ 2 := by
  unfold aAccount
  repeat' split
  all_goals first | exact Nat.zero_le _ | exact Nat.le_of_ble_eq_true rfl

theorem aReport_le {w : Wd} {x : Int32} {y : Int32} : (aReport w x y).1 ≤ 2 := by
  unfold aReport
  repeat' split
  all_goals first | exact Nat.zero_le _ | exact Nat.le_of_ble_eq_true rfl

theorem aFeed_le {w : Wd} : (aFeed w).1 ≤ 1 := by
  unfold aFeed
  repeat' split
  all_goals first | exact Nat.zero_le _ | exact Nat.le_of_ble_eq_true rfl

theorem aReadMap_le {w : Wd} : (aReadMap w).1 ≤ 1 := by
  unfold aReadMap
  repeat' split
  all_goals first | exact Nat.zero_le _ | exact Nat.le_of_ble_eq_true rfl

theorem aText_le {w : Wd} {x : Int32} : (aText (wG w) x).1 ≤ 1 := by
  unfold aText
  repeat' split
  all_goals first | exact Nat.zero_le _ | exact Nat.le_of_ble_eq_true rfl

theorem aUndo_le {w : Wd} : (aUndo w).1 ≤ 1 := by
  unfold aUndo
  repeat' split
  all_goals first | exact Nat.zero_le _ | exact Nat.le_of_ble_eq_true rfl

theorem aRest_le {w : Wd} : (aRest w).1 ≤ 1 := by
  unfold aRest
  repeat' split
  all_goals first | exact Nat.zero_le _ | exact Nat.le_of_ble_eq_true rfl

section
variable {I : e_TI} {L : e_TL} {D : e_TD} {sc : e_TS} {w : Wd} {Ψ : Int32 → e_TI → e_TL → e_TD → Prop}

theorem qW_setTerrain (h : CW I L w) {x : Int32} {y : Int32} {z : Bool} (H : oW I D (wSetT w x y z) (aSetTerrain (wG w) x y z).1 (aSetTerrain (wG w) x y z).2.toInt64 Ψ) : e_M 65 [.ref 0, .int x, .int y, .int (e_b z), .ref 148] (S0 I L D sc) (e_rI sc Ψ) := by
  refine vW_setTerrain ?_
  refine sC_setTerrain h (fun I' L' hF e hC => ?_) (fun e => ?_)
  · have hC' : CW I' L' (wSetT w x y z) := by unfold wSetT; rw [if_pos e]; exact hC
    exact finI_3 aSetTerrain_le (fun e => H.z hF hC' e) (fun e => ⟨by decide, ⟨fun _ => H.k hF hC' (k := 0) e, fun hn => absurd rfl hn⟩⟩) (fun e => ⟨by decide, ⟨fun hh => absurd hh (by decide), fun _ => ⟨fun _ => H.k hF hC' (k := 1) e, fun hn => absurd rfl hn⟩⟩⟩) (fun e => ⟨by decide, ⟨fun hh => absurd hh (by decide), fun _ => ⟨fun hh => absurd hh (by decide), fun _ => ⟨fun _ => H.k hF hC' (k := 2) e, fun hn => absurd rfl hn⟩⟩⟩⟩)
  · have hC' : CW I L (wSetT w x y z) := by unfold wSetT; rw [if_neg e]; exact h
    exact finI_3 aSetTerrain_le (fun e => H.z Fr.rf hC' e) (fun e => ⟨by decide, ⟨fun _ => H.k Fr.rf hC' (k := 0) e, fun hn => absurd rfl hn⟩⟩) (fun e => ⟨by decide, ⟨fun hh => absurd hh (by decide), fun _ => ⟨fun _ => H.k Fr.rf hC' (k := 1) e, fun hn => absurd rfl hn⟩⟩⟩) (fun e => ⟨by decide, ⟨fun hh => absurd hh (by decide), fun _ => ⟨fun hh => absurd hh (by decide), fun _ => ⟨fun _ => H.k Fr.rf hC' (k := 2) e, fun hn => absurd rfl hn⟩⟩⟩⟩)

theorem qW_setSource (h : CW I L w) {x : Int32} {y : Int32} {z : Bool} (H : oW I D (wSetS w x y z) (aSetSource (wG w) x y).1 (if (aSetSource (wG w) x y).2 = 0 then 0 else 1) Ψ) : e_M 69 [.ref 0, .int x, .int y, .int (e_b z), .ref 148] (S0 I L D sc) (e_rI sc Ψ) := by
  refine vW_setSource ?_
  refine sC_setSource h (fun I' L' hF e hC => ?_) (fun e => ?_)
  · have hC' : CW I' L' (wSetS w x y z) := by unfold wSetS; rw [if_pos e]; exact hC
    exact finI_1 aSetSource_le (fun e => ⟨fun h2 => by have := H.z hF hC' e; rw [if_pos h2] at this; exact this, fun h2 => by have := H.z hF hC' e; rw [if_neg h2] at this; exact this⟩) (fun e => ⟨by decide, ⟨fun _ => H.k hF hC' (k := 0) e, fun hn => absurd rfl hn⟩⟩)
  · have hC' : CW I L (wSetS w x y z) := by unfold wSetS; rw [if_neg e]; exact h
    exact finI_1 aSetSource_le (fun e => ⟨fun h2 => by have := H.z Fr.rf hC' e; rw [if_pos h2] at this; exact this, fun h2 => by have := H.z Fr.rf hC' e; rw [if_neg h2] at this; exact this⟩) (fun e => ⟨by decide, ⟨fun _ => H.k Fr.rf hC' (k := 0) e, fun hn => absurd rfl hn⟩⟩)

theorem qW_set (h : CW I L w) {x : Bool} {y : Int32} (H : oW I D (wSet w x y) (aSet (wG w) x y).1 (aSet (wG w) x y).2.toInt64 Ψ) : e_M 71 [.ref 0, .int (e_b x), .int y, .ref 148] (S0 I L D sc) (e_rI sc Ψ) := by
  refine vW_set ?_
  refine sC_set h (fun I' L' hF e hC => ?_) (fun e => ?_)
  · have hC' : CW I' L' (wSet w x y) := by unfold wSet; rw [if_pos e]; exact hC
    exact finI_1 aSet_le (fun e => H.z hF hC' e) (fun e => ⟨by decide, ⟨fun _ => H.k hF hC' (k := 0) e, fun hn => absurd rfl hn⟩⟩)
  · have hC' : CW I L (wSet w x y) := by unfold wSet; rw [if_neg e]; exact h
    exact finI_1 aSet_le (fun e => H.z Fr.rf hC' e) (fun e => ⟨by decide, ⟨fun _ => H.k Fr.rf hC' (k := 0) e, fun hn => absurd rfl hn⟩⟩)

theorem qW_cell (h : CW I L w) {x : Int32} {y : Int32} (H : oW I D (w) (aCell (wG w) x y).1 (aCell (wG w) x y).2.toInt64 Ψ) : e_M 75 [.ref 0, .int x, .int y, .ref 148] (S0 I L D sc) (e_rI sc Ψ) := by
  refine vW_cell ?_
  exact sC_cell h (finI_2 aCell_le (fun e => H.z Fr.rf h e) (fun e => ⟨by decide, ⟨fun _ => H.k Fr.rf h (k := 0) e, fun hn => absurd rfl hn⟩⟩) (fun e => ⟨by decide, ⟨fun hh => absurd hh (by decide), fun _ => ⟨fun _ => H.k Fr.rf h (k := 1) e, fun hn => absurd rfl hn⟩⟩⟩))

theorem qW_neighbor (h : CW I L w) {x : Int32} {y : Int32} (H : oW I D (w) (aNeighbor x y).1 (aNeighbor x y).2.toInt64 Ψ) : e_M 79 [.ref 0, .int x, .int y, .ref 148] (S0 I L D sc) (e_rI sc Ψ) := by
  refine vW_neighbor ?_
  exact sC_neighbor (finI_2 aNeighbor_le (fun e => H.z Fr.rf h e) (fun e => ⟨by decide, ⟨fun _ => H.k Fr.rf h (k := 0) e, fun hn => absurd rfl hn⟩⟩) (fun e => ⟨by decide, ⟨fun hh => absurd hh (by decide), fun _ => ⟨fun _ => H.k Fr.rf h (k := 1) e, fun hn => absurd rfl hn⟩⟩⟩))

theorem qW_distance (h : CW I L w) {x : Int32} {y : Int32} (H : oW I D (w) (aDistance x y).1 (aDistance x y).2.toInt64 Ψ) : e_M 85 [.ref 0, .int x, .int y, .ref 148] (S0 I L D sc) (e_rI sc Ψ) := by
  refine vW_distance ?_
  exact sC_distance (finI_1 aDistance_le (fun e => H.z Fr.rf h e) (fun e => ⟨by decide, ⟨fun _ => H.k Fr.rf h (k := 0) e, fun hn => absurd rfl hn⟩⟩))

theorem qW_count (h : CW I L w) {x : Int32} (H : oW I D (w) (aCount (wG w) x).1 (aCount (wG w) x).2.toInt64 Ψ) : e_M 88 [.ref 0, .int x, .ref 148] (S0 I L D sc) (e_rI sc Ψ) := by
  refine vW_count ?_
  exact sC_count h (finI_1 aCount_le (fun e => H.z Fr.rf h e) (fun e => ⟨by decide, ⟨fun _ => H.k Fr.rf h (k := 0) e, fun hn => absurd rfl hn⟩⟩))

theorem qW_add (h : CW I L w) {x : Int32} {y : Int32} {z : Int32} {u : Int32} (H : oW I D (wAdd w x y z u) (aAdd (wG w) x y z u).1 (aAdd (wG w) x y z u).2.toInt64 Ψ) : e_M 94 [.ref 0, .int x, .int y, .int z, .int u, .ref 148] (S0 I L D sc) (e_rI sc Ψ) := by
  refine vW_add ?_
  refine sC_add h (fun I' L' hF e hC => ?_) (fun e => ?_)
  · have hC' : CW I' L' (wAdd w x y z u) := by unfold wAdd; rw [if_pos e]; exact hC
    exact finI_3 aAdd_le (fun e => H.z hF hC' e) (fun e => ⟨by decide, ⟨fun _ => H.k hF hC' (k := 0) e, fun hn => absurd rfl hn⟩⟩) (fun e => ⟨by decide, ⟨fun hh => absurd hh (by decide), fun _ => ⟨fun _ => H.k hF hC' (k := 1) e, fun hn => absurd rfl hn⟩⟩⟩) (fun e => ⟨by decide, ⟨fun hh => absurd hh (by decide), fun _ => ⟨fun hh => absurd hh (by decide), fun _ => ⟨fun _ => H.k hF hC' (k := 2) e, fun hn => absurd rfl hn⟩⟩⟩⟩)
  · have hC' : CW I L (wAdd w x y z u) := by unfold wAdd; rw [if_neg e]; exact h
    exact finI_3 aAdd_le (fun e => H.z Fr.rf hC' e) (fun e => ⟨by decide, ⟨fun _ => H.k Fr.rf hC' (k := 0) e, fun hn => absurd rfl hn⟩⟩) (fun e => ⟨by decide, ⟨fun hh => absurd hh (by decide), fun _ => ⟨fun _ => H.k Fr.rf hC' (k := 1) e, fun hn => absurd rfl hn⟩⟩⟩) (fun e => ⟨by decide, ⟨fun hh => absurd hh (by decide), fun _ => ⟨fun hh => absurd hh (by decide), fun _ => ⟨fun _ => H.k Fr.rf hC' (k := 2) e, fun hn => absurd rfl hn⟩⟩⟩⟩)

theorem qW_unit (h : CW I L w) {x : Int32} {y : Int32} (H : oW I D (w) (aUnit (wG w) x y).1 (aUnit (wG w) x y).2.toInt64 Ψ) : e_M 113 [.ref 0, .int x, .int y, .ref 148] (S0 I L D sc) (e_rI sc Ψ) := by
  refine vW_unit ?_
  exact sC_unit h (fun L' hF => finI_2 aUnit_le (fun e => H.z (hF.mono (by decide) (by decide)) (h.same (hF.mono (by decide) (by decide))) e) (fun e => ⟨by decide, ⟨fun _ => H.k (hF.mono (by decide) (by decide)) (h.same (hF.mono (by decide) (by decide))) (k := 0) e, fun hn => absurd rfl hn⟩⟩) (fun e => ⟨by decide, ⟨fun hh => absurd hh (by decide), fun _ => ⟨fun _ => H.k (hF.mono (by decide) (by decide)) (h.same (hF.mono (by decide) (by decide))) (k := 1) e, fun hn => absurd rfl hn⟩⟩⟩))

theorem qW_known (h : CW I L w) {x : Int32} (H : oW I D (w) (aKnown (wG w) x).1 (aKnown (wG w) x).2.toInt64 Ψ) : e_M 116 [.ref 0, .int x, .ref 148] (S0 I L D sc) (e_rI sc Ψ) := by
  refine vW_known ?_
  exact sC_known h (finI_1 aKnown_le (fun e => H.z Fr.rf h e) (fun e => ⟨by decide, ⟨fun _ => H.k Fr.rf h (k := 0) e, fun hn => absurd rfl hn⟩⟩))

theorem qW_cells (h : CW I L w) {x : Int32} {y : Int32} (H : oW I D (w) (aCells (wG w) x y).1 (aCells (wG w) x y).2 Ψ) : e_M 119 [.ref 0, .int x, .int y, .ref 148] (S0 I L D sc) (e_rI sc Ψ) := by
  refine vW_cells ?_
  exact sC_cells h (fun L' hF => finL_2 aCells_le (fun e => H.z (hF.mono (by decide) (by decide)) (h.same (hF.mono (by decide) (by decide))) e) (fun e => ⟨by decide, ⟨fun _ => H.k (hF.mono (by decide) (by decide)) (h.same (hF.mono (by decide) (by decide))) (k := 0) e, fun hn => absurd rfl hn⟩⟩) (fun e => ⟨by decide, ⟨fun hh => absurd hh (by decide), fun _ => ⟨fun _ => H.k (hF.mono (by decide) (by decide)) (h.same (hF.mono (by decide) (by decide))) (k := 1) e, fun hn => absurd rfl hn⟩⟩⟩))

theorem qW_isSeen (h : CW I L w) {x : Int32} {y : Int32} (H : oW I D (w) (aIsSeen (wG w) x y).1 (if (aIsSeen (wG w) x y).2 = 0 then 0 else 1) Ψ) : e_M 121 [.ref 0, .int x, .int y, .ref 148] (S0 I L D sc) (e_rI sc Ψ) := by
  refine vW_isSeen ?_
  exact sC_isSeen h (finI_1 aIsSeen_le (fun e => ⟨fun h2 => by have := H.z Fr.rf h e; rw [if_pos h2] at this; exact this, fun h2 => by have := H.z Fr.rf h e; rw [if_neg h2] at this; exact this⟩) (fun e => ⟨by decide, ⟨fun _ => H.k Fr.rf h (k := 0) e, fun hn => absurd rfl hn⟩⟩))

theorem qW_supplyCost (h : CW I L w) {x : Int32} {y : Int32} (H : oW I D (w) (aSupplyCost (wG w) x y).1 (aSupplyCost (wG w) x y).2.toInt64 Ψ) : e_M 125 [.ref 0, .int x, .int y, .ref 148] (S0 I L D sc) (e_rI sc Ψ) := by
  refine vW_supplyCost ?_
  exact sC_supplyCost h (fun L' hF => finI_2 aSupplyCost_le (fun e => H.z (hF.mono (by decide) (by decide)) (h.same (hF.mono (by decide) (by decide))) e) (fun e => ⟨by decide, ⟨fun _ => H.k (hF.mono (by decide) (by decide)) (h.same (hF.mono (by decide) (by decide))) (k := 0) e, fun hn => absurd rfl hn⟩⟩) (fun e => ⟨by decide, ⟨fun hh => absurd hh (by decide), fun _ => ⟨fun _ => H.k (hF.mono (by decide) (by decide)) (h.same (hF.mono (by decide) (by decide))) (k := 1) e, fun hn => absurd rfl hn⟩⟩⟩))

theorem qW_reach (h : CW I L w) {x : Int32} (H : oW I D (w) (aReach (wG w) x).1 (aReach (wG w) x).2 Ψ) : e_M 131 [.ref 0, .int x, .ref 148] (S0 I L D sc) (e_rI sc Ψ) := by
  refine vW_reach ?_
  exact sC_reach h (fun L' hF => finL_1 aReach_le (fun e => H.z (hF.mono (by decide) (by decide)) (h.same hF) e) (fun e => ⟨by decide, ⟨fun _ => H.k (hF.mono (by decide) (by decide)) (h.same hF) (k := 0) e, fun hn => absurd rfl hn⟩⟩))

theorem qW_cost (h : CW I L w) {x : Int32} {y : Int32} (H : oW I D (w) (aCost (wG w) x y).1 (aCost (wG w) x y).2.toInt64 Ψ) : e_M 140 [.ref 0, .int x, .int y, .ref 148] (S0 I L D sc) (e_rI sc Ψ) := by
  refine vW_cost ?_
  exact sC_cost h (fun I' L' hF => finI_2 aCost_le (fun e => H.z (hF.mono (by decide) (by decide)) (h.same hF) e) (fun e => ⟨by decide, ⟨fun _ => H.k (hF.mono (by decide) (by decide)) (h.same hF) (k := 0) e, fun hn => absurd rfl hn⟩⟩) (fun e => ⟨by decide, ⟨fun hh => absurd hh (by decide), fun _ => ⟨fun _ => H.k (hF.mono (by decide) (by decide)) (h.same hF) (k := 1) e, fun hn => absurd rfl hn⟩⟩⟩))

theorem qW_way (h : CW I L w) {x : Int32} {y : Int32} {z : Int32} (H : oW I D (w) (aWay (wG w) x y z).1 (aWay (wG w) x y z).2.toInt64 Ψ) : e_M 144 [.ref 0, .int x, .int y, .int z, .ref 148] (S0 I L D sc) (e_rI sc Ψ) := by
  refine vW_way ?_
  exact sC_way h (fun I' L' hF => finI_2 aWay_le (fun e => H.z (hF.mono (by decide) (by decide)) (h.same hF) e) (fun e => ⟨by decide, ⟨fun _ => H.k (hF.mono (by decide) (by decide)) (h.same hF) (k := 0) e, fun hn => absurd rfl hn⟩⟩) (fun e => ⟨by decide, ⟨fun hh => absurd hh (by decide), fun _ => ⟨fun _ => H.k (hF.mono (by decide) (by decide)) (h.same hF) (k := 1) e, fun hn => absurd rfl hn⟩⟩⟩))

theorem qW_move (h : CW I L w) {x : Int32} {y : Int32} (H : oW I D (wMove w x y) (aMove (wG w) x y).1 (aMove (wG w) x y).2.toInt64 Ψ) : e_M 156 [.ref 0, .int x, .int y, .ref 148] (S0 I L D sc) (e_rI sc Ψ) := by
  refine vW_move ?_
  exact sC_move h (fun I' L' hF hC => finI_4 aMove_le (fun e => H.z hF hC e) (fun e => ⟨by decide, ⟨fun _ => H.k hF hC (k := 0) e, fun hn => absurd rfl hn⟩⟩) (fun e => ⟨by decide, ⟨fun hh => absurd hh (by decide), fun _ => ⟨fun _ => H.k hF hC (k := 1) e, fun hn => absurd rfl hn⟩⟩⟩) (fun e => ⟨by decide, ⟨fun hh => absurd hh (by decide), fun _ => ⟨fun hh => absurd hh (by decide), fun _ => ⟨fun _ => H.k hF hC (k := 2) e, fun hn => absurd rfl hn⟩⟩⟩⟩) (fun e => ⟨by decide, ⟨fun hh => absurd hh (by decide), fun _ => ⟨fun hh => absurd hh (by decide), fun _ => ⟨fun hh => absurd hh (by decide), fun _ => ⟨fun _ => H.k hF hC (k := 3) e, fun hn => absurd rfl hn⟩⟩⟩⟩⟩))

theorem qW_odds (h : CW I L w) {x : Int32} {y : Int32} {z : Bool} (H : oW I D (w) (aOdds (wG w) x y z).1 (aOdds (wG w) x y z).2.toInt64 Ψ) : e_M 165 [.ref 0, .int x, .int y, .int (e_b z), .ref 148] (S0 I L D sc) (e_rI sc Ψ) := by
  refine vW_odds ?_
  exact sC_odds h (fun L' hF => finI_3 aOdds_le (fun e => H.z (hF.mono (by decide) (by decide)) (h.same (hF.mono (by decide) (by decide))) e) (fun e => ⟨by decide, ⟨fun _ => H.k (hF.mono (by decide) (by decide)) (h.same (hF.mono (by decide) (by decide))) (k := 0) e, fun hn => absurd rfl hn⟩⟩) (fun e => ⟨by decide, ⟨fun hh => absurd hh (by decide), fun _ => ⟨fun _ => H.k (hF.mono (by decide) (by decide)) (h.same (hF.mono (by decide) (by decide))) (k := 1) e, fun hn => absurd rfl hn⟩⟩⟩) (fun e => ⟨by decide, ⟨fun hh => absurd hh (by decide), fun _ => ⟨fun hh => absurd hh (by decide), fun _ => ⟨fun _ => H.k (hF.mono (by decide) (by decide)) (h.same (hF.mono (by decide) (by decide))) (k := 2) e, fun hn => absurd rfl hn⟩⟩⟩⟩))

theorem qW_attack (h : CW I L w) {x : Int32} {y : Int32} (H : oW I D (wAtt w x y) (aAttack (wG w) x y).1 (aAttack (wG w) x y).2.toInt64 Ψ) : e_M 176 [.ref 0, .int x, .int y, .ref 148] (S0 I L D sc) (e_rI sc Ψ) := by
  refine vW_attack ?_
  refine sC_attack h (fun I' L' hF e hC => ?_) (fun e => ?_)
  · have hC' : CW I' L' (wAtt w x y) := by unfold wAtt; rw [if_pos e]; exact hC
    exact finI_3 aAttack_le (fun e => H.z hF hC' e) (fun e => ⟨by decide, ⟨fun _ => H.k hF hC' (k := 0) e, fun hn => absurd rfl hn⟩⟩) (fun e => ⟨by decide, ⟨fun hh => absurd hh (by decide), fun _ => ⟨fun _ => H.k hF hC' (k := 1) e, fun hn => absurd rfl hn⟩⟩⟩) (fun e => ⟨by decide, ⟨fun hh => absurd hh (by decide), fun _ => ⟨fun hh => absurd hh (by decide), fun _ => ⟨fun _ => H.k hF hC' (k := 2) e, fun hn => absurd rfl hn⟩⟩⟩⟩)
  · have hC' : CW I L (wAtt w x y) := by unfold wAtt; rw [if_neg e]; exact h
    exact finI_3 aAttack_le (fun e => H.z Fr.rf hC' e) (fun e => ⟨by decide, ⟨fun _ => H.k Fr.rf hC' (k := 0) e, fun hn => absurd rfl hn⟩⟩) (fun e => ⟨by decide, ⟨fun hh => absurd hh (by decide), fun _ => ⟨fun _ => H.k Fr.rf hC' (k := 1) e, fun hn => absurd rfl hn⟩⟩⟩) (fun e => ⟨by decide, ⟨fun hh => absurd hh (by decide), fun _ => ⟨fun hh => absurd hh (by decide), fun _ => ⟨fun _ => H.k Fr.rf hC' (k := 2) e, fun hn => absurd rfl hn⟩⟩⟩⟩)

theorem qW_account (h : CW I L w) {x : Int32} {y : Int32} (H : oW I D (w) (aAccount (wG w) x y).1 (aAccount (wG w) x y).2.toInt64 Ψ) : e_M 182 [.ref 0, .int x, .int y, .ref 148] (S0 I L D sc) (e_rI sc Ψ) := by
  refine vW_account ?_
  exact sC_account h (finI_2 aAccount_le (fun e => H.z Fr.rf h e) (fun e => ⟨by decide, ⟨fun _ => H.k Fr.rf h (k := 0) e, fun hn => absurd rfl hn⟩⟩) (fun e => ⟨by decide, ⟨fun hh => absurd hh (by decide), fun _ => ⟨fun _ => H.k Fr.rf h (k := 1) e, fun hn => absurd rfl hn⟩⟩⟩))

theorem qW_report (h : CW I L w) {x : Int32} {y : Int32} (H : oW I D (w) (aReport w x y).1 (aReport w x y).2.toInt64 Ψ) : e_M 190 [.ref 0, .int x, .int y, .ref 148] (S0 I L D sc) (e_rI sc Ψ) := by
  refine vW_report ?_
  exact sC_report h (finI_2 aReport_le (fun e => H.z Fr.rf h e) (fun e => ⟨by decide, ⟨fun _ => H.k Fr.rf h (k := 0) e, fun hn => absurd rfl hn⟩⟩) (fun e => ⟨by decide, ⟨fun hh => absurd hh (by decide), fun _ => ⟨fun _ => H.k Fr.rf h (k := 1) e, fun hn => absurd rfl hn⟩⟩⟩))

theorem qW_feed (h : CW I L w) {x : Int32} (H : oW I D (wFd w x) (aFeed w).1 (aFeed w).2.toInt64 Ψ) : e_M 194 [.ref 0, .int x, .ref 148] (S0 I L D sc) (e_rI sc Ψ) := by
  refine vW_feed ?_
  refine sC_feed h (fun I' hF e hC => ?_) (fun e => ?_)
  · have hC' : CW I' L (wFd w x) := by unfold wFd; rw [if_pos e]; exact hC
    exact finI_1 aFeed_le (fun e => H.z hF hC' e) (fun e => ⟨by decide, ⟨fun _ => H.k hF hC' (k := 0) e, fun hn => absurd rfl hn⟩⟩)
  · have hC' : CW I L (wFd w x) := by unfold wFd; rw [if_neg e]; exact h
    exact finI_1 aFeed_le (fun e => H.z Fr.rf hC' e) (fun e => ⟨by decide, ⟨fun _ => H.k Fr.rf hC' (k := 0) e, fun hn => absurd rfl hn⟩⟩)

theorem qW_readMap (h : CW I L w) (H : oW I D (wReadMap w) (aReadMap w).1 (aReadMap w).2.toInt64 Ψ) : e_M 213 [.ref 0, .ref 148] (S0 I L D sc) (e_rI sc Ψ) := by
  refine vW_readMap ?_
  exact sC_readMap h (fun I' L' hF hC => finI_1 aReadMap_le (fun e => H.z hF hC e) (fun e => ⟨by decide, ⟨fun _ => H.k hF hC (k := 0) e, fun hn => absurd rfl hn⟩⟩))

theorem qW_text (h : CW I L w) {x : Int32} (H : oW I D (w) (aText (wG w) x).1 (aText (wG w) x).2.toInt64 Ψ) : e_M 216 [.ref 0, .int x, .ref 148] (S0 I L D sc) (e_rI sc Ψ) := by
  refine vW_text ?_
  exact sC_text h (finI_1 aText_le (fun e => H.z Fr.rf h e) (fun e => ⟨by decide, ⟨fun _ => H.k Fr.rf h (k := 0) e, fun hn => absurd rfl hn⟩⟩))

theorem qW_undo (h : CW I L w) (H : oW I D (wUd w) (aUndo w).1 (aUndo w).2.toInt64 Ψ) : e_M 220 [.ref 0, .ref 148] (S0 I L D sc) (e_rI sc Ψ) := by
  refine vW_undo ?_
  refine sC_undo h (fun I' L' hF e hC => ?_) (fun e => ?_)
  · have hC' : CW I' L' (wUd w) := by unfold wUd; rw [if_neg (fun e2 => by unfold aUndo at e; rw [if_pos e2] at e; cases e)]; exact hC
    exact finI_1 aUndo_le (fun e => H.z hF hC' e) (fun e => ⟨by decide, ⟨fun _ => H.k hF hC' (k := 0) e, fun hn => absurd rfl hn⟩⟩)
  · have hC' : CW I L (wUd w) := by unfold wUd; rw [if_pos (Classical.not_not.mp (fun e2 => e (by unfold aUndo; rw [if_neg e2])))]; exact h
    exact finI_1 aUndo_le (fun e => H.z Fr.rf hC' e) (fun e => ⟨by decide, ⟨fun _ => H.k Fr.rf hC' (k := 0) e, fun hn => absurd rfl hn⟩⟩)

theorem qW_restore (h : CW I L w) (H : oW I D (wRs w) (aRest w).1 (aRest w).2.toInt64 Ψ) : e_M 222 [.ref 0, .ref 148] (S0 I L D sc) (e_rI sc Ψ) := by
  refine vW_restore ?_
  refine sC_restore h (fun I' L' hF e hC => ?_) (fun e => ?_)
  · have hC' : CW I' L' (wRs w) := by unfold wRs; rw [if_pos (by cases hs : wSf w with | true => rfl | false => unfold aRest at e; rw [hs] at e; cases e)]; exact hC
    exact finI_1 aRest_le (fun e => H.z hF hC' e) (fun e => ⟨by decide, ⟨fun _ => H.k hF hC' (k := 0) e, fun hn => absurd rfl hn⟩⟩)
  · have hC' : CW I L (wRs w) := by unfold wRs; rw [if_neg (fun e2 => e (by unfold aRest; rw [e2, if_pos rfl]))]; exact h
    exact finI_1 aRest_le (fun e => H.z Fr.rf hC' e) (fun e => ⟨by decide, ⟨fun _ => H.k Fr.rf hC' (k := 0) e, fun hn => absurd rfl hn⟩⟩)

end
