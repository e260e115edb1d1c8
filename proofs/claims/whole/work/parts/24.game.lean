/-! the game as mathematics, read off a row of numbers (the reference's) -/
def gn (s : Nat → Int32) (k : Nat) : Nat := (s k).toNatClampNeg
/-- the number there is one from 0 to b -/
def gb (s : Nat → Int32) (k b : Nat) : Prop := s k = Int32.ofNat (gn s k) ∧ gn s k ≤ b
section
variable (s : Nat → Int32)
def gTer (c : Nat) : Nat := gn s c
def gRd (c : Nat) : Bool := decide (c < 63) && (gn s (63 + c) == 1)
def gSrc (d c : Nat) : Bool := decide (c < 63) && (gn s (126 + c)).testBit d
def gWx : Nat := gn s 189
def gRg : Nat := gn s 190
def gTu : Nat := gn s 191
def gMa : Nat := gn s 196
def gSd (u : Nat) : Nat := gn s (205 + 6 * u)
def gPl (u : Nat) : Nat := gn s (205 + 6 * u + 1)
def gSt (u : Nat) : Nat := gn s (205 + 6 * u + 2)
def gMv (u : Nat) : Nat := gn s (205 + 6 * u + 3)
def gMd (u : Nat) : Bool := gn s (205 + 6 * u + 4) == 1
def gAt (u : Nat) : Bool := gn s (205 + 6 * u + 5) == 1
/-- what always holds -/
def gok : Prop :=
  (∀ c, c < 63 → gb s c 5 ∧ gb s (63 + c) 1 ∧ gb s (126 + c) 3 ∧ (gRd s c = true → gTer s c < 5)) ∧ gb s 189 2 ∧ (gb s 190 30 ∧ 1 ≤ gRg s) ∧ gb s 191 1 ∧ gb s 196 16 ∧
  ∀ u, u < gMa s → gb s (205 + 6 * u) 1 ∧ gb s (205 + 6 * u + 1) 62 ∧ gb s (205 + 6 * u + 2) 9 ∧ gb s (205 + 6 * u + 3) 12 ∧ gb s (205 + 6 * u + 4) 1 ∧ gb s (205 + 6 * u + 5) 1
/-- the unit is there -/
def gU (u : Nat) : Bool := decide (u < gMa s) && decide (0 < gSt s u)
def gOwn (d u : Nat) : Bool := gU s u && gSd s u == d
def gOn (c u : Nat) : Bool := gU s u && gPl s u == c
/-- the cells of a set of units -/
def gCells (p : Nat → Bool) (c : Nat) : Bool := (List.range 16).any fun u => p u && gU s u && gPl s u == c
def gWat (c : Nat) : Bool := decide (c < 63) && gTer s c == 5
/-- the zone around cells -/
def gZoneA (p : Nat → Bool) (c : Nat) : Bool := aro p c && !(gTer s c == 5) && !(gTer s c == 4)
def gZone (d : Nat) : Nat → Bool := gZoneA s (gCells s (gOwn s d))
def gClosed (d c : Nat) : Bool := gWat s c || gCells s (gOwn s (1 - d)) c || (gZone s (1 - d) c && !gCells s (gOwn s d) c)
def gPrice (t w : Nat) : Nat := ([1, 2, 2, 3, 4, 2, 3, 3, 5, 5, 2, 3, 3, 2, 6] : List Nat).getD (5 * w + t) 0
def gStepC (a b : Nat) : Nat := if gRd s a && gRd s b then 1 else gPrice (gTer s b) (gWx s)
def gHt (t : Nat) : Nat := ([0, 1, 2, 0, 3, 0] : List Nat).getD t 0
def gSight : Nat := ([4, 2, 3] : List Nat).getD (gWx s) 0
/-- the cells that k steps lead to, the inner ones in a set -/
def gFan (p : Nat → Bool) (a : Nat) : Nat → Nat → Bool
  | 0 => fun c => c == a
  | k + 1 => aro (match k with | 0 => fun c => c == a | k + 1 => fun c => gFan p a (k + 1) c && p c)
def gSees (a b : Nat) : Bool := decide (dst a b ≤ gSight s) && gFan (fun c => decide (gHt (gTer s c) ≤ max (gHt (gTer s a)) (gHt (gTer s b)))) a (dst a b) b
def gSeen (d c : Nat) : Bool := decide (c < 63) && (List.range 16).any fun u => gOwn s d u && gSees s (gPl s u) c
def gKnown (d u : Nat) : Bool := gOwn s (1 - d) u && gSeen s d (gPl s u)
/-- whether a cell has room for strength n of side d beside the units of a set -/
def gRoom (p : Nat → Bool) (c d n : Nat) : Bool :=
  ((List.range 16).all fun u => !(p u && gOn s c u) || gSd s u == d) && decide ((List.range 16).countP (fun u => p u && gOn s c u) ≤ 2) && decide (((List.range 16).map fun u => if p u && gOn s c u then gSt s u else 0).sum + n ≤ 12)
/-- the sum of the strengths of a set of units -/
def gStr (p : Nat → Bool) : Nat := ((List.range 16).map fun u => if p u && gU s u then gSt s u else 0).sum
end
/-- the least cost; 1000000: there is none -/
noncomputable def fC (fi op sp ba rd : Nat → Bool) (pr : Nat → Nat) (c : Nat) : Nat := @dite Nat (∃ k, fL fi op sp ba rd pr c k) (Classical.propDecidable _) (fun h => Classical.choose h) (fun _ => 1000000)
theorem fC_some {fi op sp ba rd : Nat → Bool} {pr : Nat → Nat} {c k : Nat} (h : fL fi op sp ba rd pr c k) : fC fi op sp ba rd pr c = k := by
  have h2 : ∃ k, fL fi op sp ba rd pr c k := ⟨k, h⟩
  unfold fC
  rw [dif_pos h2]
  exact Lst.uniq (Classical.choose_spec h2) h
theorem fC_none {fi op sp ba rd : Nat → Bool} {pr : Nat → Nat} {c : Nat} (h : ¬ ∃ k, fL fi op sp ba rd pr c k) : fC fi op sp ba rd pr c = 1000000 := by
  unfold fC
  rw [dif_neg h]
theorem fC_cases (fi op sp ba rd : Nat → Bool) (pr : Nat → Nat) (c : Nat) : fL fi op sp ba rd pr c (fC fi op sp ba rd pr c) ∨ ((¬ ∃ k, fL fi op sp ba rd pr c k) ∧ fC fi op sp ba rd pr c = 1000000) := by
  by_cases h : ∃ k, fL fi op sp ba rd pr c k
  · obtain ⟨k, hk⟩ := h
    rw [fC_some hk]
    exact Or.inl hk
  · exact Or.inr ⟨h, fC_none h⟩
section
variable (s : Nat → Int32)
/-- supply: the first cells, the open ones -/
def gSupF (d c : Nat) : Bool := gSrc s d c && !gClosed s d c
def gSupO (d c : Nat) : Bool := decide (c < 63) && !gClosed s d c
def gNo (_ : Nat) : Bool := false
def gPr (c : Nat) : Nat := gPrice (gTer s c) (gWx s)
noncomputable def gSupC (d : Nat) : Nat → Nat := fC (gSupF s d) (gSupO s d) gNo gNo (gRd s) (gPr s)
noncomputable def gSup (d c : Nat) : Bool := decide (c < 63) && decide (gSupC s d c ≤ gRg s)
noncomputable def gIsS (u : Nat) : Bool := gSup s (gSd s u) (gPl s u)
def gHalf (n : Nat) : Nat := (n + 1) / 2
noncomputable def gForce (u : Nat) : Nat := if gIsS s u then gSt s u else gHalf (gSt s u)
noncomputable def gAllow (u : Nat) : Nat := if gIsS s u then gMv s u else gHalf (gMv s u)
/-- the sum of the forces of a set of units -/
noncomputable def gForces (p : Nat → Bool) : Nat := ((List.range 16).map fun u => if p u && gU s u then gForce s u else 0).sum
/-- ways of a unit -/
def gKZ (u : Nat) : Nat → Bool := gZoneA s (gCells s (gKnown s (gSd s u)))
def gWayO (u c : Nat) : Bool := decide (c < 63) && !gWat s c && !gCells s (gKnown s (gSd s u)) c
def gWayS (u c : Nat) : Bool := gKZ s u c && !(c == gPl s u)
def gWayB (u c : Nat) : Bool := gKZ s u (gPl s u) && (gKZ s u c && !gCells s (gOwn s (gSd s u)) c)
noncomputable def gWayC (u : Nat) : Nat → Nat := fC (fun c => c == gPl s u) (gWayO s u) (gWayS s u) (gWayB s u) (gRd s) (gPr s)
end
