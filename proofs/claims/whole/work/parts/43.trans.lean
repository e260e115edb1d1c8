/-! the game's changes, as changes of the row of numbers -/
def gset (s : Nat → Int32) (k : Nat) (x : Int32) : Nat → Int32 := fun j => if j = k then x else s j
theorem gset_eq {s : Nat → Int32} {k : Nat} {x : Int32} : gset s k x k = x := by simp [gset]
theorem gset_ne {s : Nat → Int32} {k j : Nat} {x : Int32} (h : j ≠ k) : gset s k x j = s j := by simp [gset, h]
theorem gn_ne {s : Nat → Int32} {k j : Nat} {x : Int32} (h : j ≠ k) : gn (gset s k x) j = gn s j := by unfold gn; rw [gset_ne h]
theorem gn_eq {s : Nat → Int32} {k : Nat} {x : Int32} : gn (gset s k x) k = x.toNatClampNeg := by unfold gn; rw [gset_eq]
theorem gb_ne {s : Nat → Int32} {k j b : Nat} {x : Int32} (h : j ≠ k) (hb : gb s j b) : gb (gset s k x) j b := by
  unfold gb at hb ⊢
  rw [gn_ne h, gset_ne h]
  exact hb
theorem gb_eq {s : Nat → Int32} {k b n : Nat} (hn : n ≤ b) (hb : b < 2147483648) : gb (gset s k (Int32.ofNat n)) k b := by
  unfold gb
  rw [gn_eq, gset_eq, o_ix (by omega)]
  exact ⟨rfl, hn⟩
theorem gb_set {s : Nat → Int32} {k j b n : Nat} (hn : j = k → n ≤ b) (hbb : b < 2147483648) (hb : gb s j b) : gb (gset s k (Int32.ofNat n)) j b := by
  by_cases h : j = k
  · subst h
    exact gb_eq (hn rfl) hbb
  · exact gb_ne h hb
/-! what a change leaves -/
section
variable {s : Nat → Int32} {k : Nat} {x : Int32}
theorem gTer_ne {c : Nat} (h : c ≠ k) : gTer (gset s k x) c = gTer s c := gn_ne h
theorem gRd_ne (h : k < 63 ∨ 126 ≤ k) : gRd (gset s k x) = gRd s := by
  funext c
  unfold gRd
  by_cases hc : c < 63
  · rw [gn_ne (by omega)]
  · simp [hc]
theorem gSrc_ne (h : k < 126 ∨ 189 ≤ k) (d : Nat) : gSrc (gset s k x) d = gSrc s d := by
  funext c
  unfold gSrc
  by_cases hc : c < 63
  · rw [gn_ne (by omega)]
  · simp [hc]
theorem gMa_ne (h : k ≠ 196) : gMa (gset s k x) = gMa s := gn_ne (Ne.symm h)
/-- a number that isn't in the units' rows -/
theorem gU_low (h : k < 205) (h2 : k ≠ 196) : gU (gset s k x) = gU s := by
  funext u
  unfold gU gSt
  rw [gMa_ne h2, gn_ne (by omega)]
theorem gSd_low (h : k < 205) : gSd (gset s k x) = gSd s := by funext u; unfold gSd; rw [gn_ne (by omega)]
theorem gPl_low (h : k < 205) : gPl (gset s k x) = gPl s := by funext u; unfold gPl; rw [gn_ne (by omega)]
theorem gSt_low (h : k < 205) : gSt (gset s k x) = gSt s := by funext u; unfold gSt; rw [gn_ne (by omega)]
theorem gMd_low (h : k < 205) : gMd (gset s k x) = gMd s := by funext u; unfold gMd; rw [gn_ne (by omega)]
theorem gAt_low (h : k < 205) : gAt (gset s k x) = gAt s := by funext u; unfold gAt; rw [gn_ne (by omega)]
end
/-- the row's parts that the class's game is made of, all at once -/
theorem RC.of {b : Nat} {I I' : e_TI} {L L' : e_TL} {s s' : Nat → Int32} (h : RC b I L s)
    (k1 : ∀ t, t < 6 → L' (b + 2) t = sL fun c => decide (c < 63) && gTer s' c == t) (k2 : ∀ d, d < 2 → L' (b + 3) d = sL (gSrc s' d)) (k3 : L' (b + 1) 2 = sL (gRd s'))
    (k4 : I' (b + 4) 0 = s' 196 ∧ I' (b + 4) 1 = sI (gU s') ∧ I' (b + 4) 2 = sI (fun u => decide (u < gMa s') && gSd s' u == 1) ∧ I' (b + 4) 3 = sI (fun u => decide (u < gMa s') && gMd s' u) ∧ I' (b + 4) 4 = sI (fun u => decide (u < gMa s') && gAt s' u))
    (k5 : ∀ u, u < gMa s' → I' (b + 5) u = s' (205 + 6 * u + 1) ∧ I' (b + 6) u = s' (205 + 6 * u + 2) ∧ I' (b + 7) u = s' (205 + 6 * u + 3))
    (k6 : ∀ d, d < 2 → I' (b + 8) d = s' (197 + 4 * d) ∧ I' (b + 9) d = s' (197 + 4 * d + 1) ∧ I' (b + 10) d = s' (197 + 4 * d + 2) ∧ I' (b + 11) d = s' (197 + 4 * d + 3))
    (k7 : I' b 2 = s' 189 ∧ I' b 3 = s' 192 ∧ I' b 4 = s' 191 ∧ I' b 5 = s' 190 ∧ I' b 6 = s' 194 ∧ I' b 7 = s' 195 ∧ I' b 8 = s' 193) : RC b I' L' s' := ⟨k1, k2, k3, k4, k5, k6, k7⟩
/-! one number of a unit -/
section
variable {s : Nat → Int32} {u : Nat} {x : Int32}
theorem RC.place {I : e_TI} {L : e_TL} (h : RC 2 I L s) : RC 2 (e_up I 7 u x) L (gset s (205 + 6 * u + 1) x) := by
  have e1 : gMa (gset s (205 + 6 * u + 1) x) = gMa s := gMa_ne (by omega)
  have e2 : gU (gset s (205 + 6 * u + 1) x) = gU s := by funext v; unfold gU gSt; rw [e1, gn_ne (by omega)]
  have e3 : gSd (gset s (205 + 6 * u + 1) x) = gSd s := by funext v; unfold gSd; rw [gn_ne (by omega)]
  have e4 : gMd (gset s (205 + 6 * u + 1) x) = gMd s := by funext v; unfold gMd; rw [gn_ne (by omega)]
  have e5 : gAt (gset s (205 + 6 * u + 1) x) = gAt s := by funext v; unfold gAt; rw [gn_ne (by omega)]
  obtain ⟨r1, r2, r3, r4, r9, r10, r11⟩ := id h
  refine h.of (fun t ht => ?_) (fun d hd => ?_) ?_ ?_ (fun v hv => ⟨?_, ?_, ?_⟩) (fun d hd => ?_) ?_
  · rw [r1 t ht]
    exact sL_congr fun c _ => by
      by_cases hc : c < 63
      · rw [gTer_ne (by omega)]
      · simp [hc]
  · rw [gSrc_ne (by omega), r2 d hd]
  · rw [gRd_ne (by omega), r3]
  · rw [e1, e2, e3, e4, e5, up_cell (by decide), gset_ne (by omega)]
    exact r4
  · rw [e1] at hv
    by_cases e : v = u
    · subst e
      rw [gset_eq]
      exact up_same
    · rw [gset_ne (by omega)]
      show e_up I 7 u x 7 v = _
      rw [up_slot e]
      exact (r9 v hv).1
  · rw [e1] at hv
    rw [gset_ne (by omega), up_cell (by decide)]
    exact (r9 v hv).2.1
  · rw [e1] at hv
    rw [gset_ne (by omega), up_cell (by decide)]
    exact (r9 v hv).2.2
  · rw [up_cell (by decide), up_cell (by decide), up_cell (by decide), up_cell (by decide), gset_ne (by omega), gset_ne (by omega), gset_ne (by omega), gset_ne (by omega)]
    exact r10 d hd
  · rw [up_cell (by decide), gset_ne (by omega), gset_ne (by omega), gset_ne (by omega), gset_ne (by omega), gset_ne (by omega), gset_ne (by omega), gset_ne (by omega)]
    exact r11
theorem gok.unit (hk : gok s) {f n : Nat} (hf : f < 6) (hn : n ≤ ([1, 62, 9, 12, 1, 1] : List Nat).getD f 0) : gok (gset s (205 + 6 * u + f) (Int32.ofNat n)) := by
  obtain ⟨h1, h2, ⟨h3, h3'⟩, h4, h5, h6⟩ := hk
  have e1 : gMa (gset s (205 + 6 * u + f) (Int32.ofNat n)) = gMa s := gMa_ne (by omega)
  refine ⟨fun c hc => ?_, gb_ne (by omega) h2, ⟨gb_ne (by omega) h3, ?_⟩, gb_ne (by omega) h4, gb_ne (by omega) h5, fun v hv => ?_⟩
  · obtain ⟨a1, a2, a3, a4⟩ := h1 c hc
    rw [gRd_ne (by omega), gTer_ne (by omega)]
    exact ⟨gb_ne (by omega) a1, gb_ne (by omega) a2, gb_ne (by omega) a3, a4⟩
  · unfold gRg
    rw [gn_ne (by omega)]
    exact h3'
  · rw [e1] at hv
    obtain ⟨b0, b1, b2, b3, b4, b5⟩ := h6 v hv
    have hfs : f = 0 ∨ f = 1 ∨ f = 2 ∨ f = 3 ∨ f = 4 ∨ f = 5 := by omega
    refine ⟨gb_set (fun e => ?_) (by decide) b0, gb_set (fun e => ?_) (by decide) b1, gb_set (fun e => ?_) (by decide) b2, gb_set (fun e => ?_) (by decide) b3, gb_set (fun e => ?_) (by decide) b4, gb_set (fun e => ?_) (by decide) b5⟩
    · rw [show f = 0 by omega] at hn; exact hn
    · rw [show f = 1 by omega] at hn; exact hn
    · rw [show f = 2 by omega] at hn; exact hn
    · rw [show f = 3 by omega] at hn; exact hn
    · rw [show f = 4 by omega] at hn; exact hn
    · rw [show f = 5 by omega] at hn; exact hn
theorem gok.unit0 (hk : gok s) {f n : Nat} (hf : f < 6) (hn : n ≤ ([1, 62, 9, 12, 1, 1] : List Nat).getD f 0) {k : Nat} (e : k = 205 + 6 * u + f) : gok (gset s k (Int32.ofNat n)) := by
  rw [e]
  exact hk.unit hf hn
/-- a number among 192 to 195, 197 to 204: no bounds there -/
theorem gok.low (hk : gok s) {k : Nat} (h : (192 ≤ k ∧ k ≤ 195) ∨ (197 ≤ k ∧ k ≤ 204)) : gok (gset s k x) := by
  obtain ⟨h1, h2, ⟨h3, h3'⟩, h4, h5, h6⟩ := hk
  have e1 : gMa (gset s k x) = gMa s := gMa_ne (by omega)
  refine ⟨fun c hc => ?_, gb_ne (by omega) h2, ⟨gb_ne (by omega) h3, ?_⟩, gb_ne (by omega) h4, gb_ne (by omega) h5, fun v hv => ?_⟩
  · obtain ⟨a1, a2, a3, a4⟩ := h1 c hc
    rw [gRd_ne (by omega), gTer_ne (by omega)]
    exact ⟨gb_ne (by omega) a1, gb_ne (by omega) a2, gb_ne (by omega) a3, a4⟩
  · unfold gRg
    rw [gn_ne (by omega)]
    exact h3'
  · rw [e1] at hv
    obtain ⟨b0, b1, b2, b3, b4, b5⟩ := h6 v hv
    exact ⟨gb_ne (by omega) b0, gb_ne (by omega) b1, gb_ne (by omega) b2, gb_ne (by omega) b3, gb_ne (by omega) b4, gb_ne (by omega) b5⟩
/-- a low number that the class's game holds as it is -/
theorem RC.low {I I' : e_TI} {L : e_TL} (h : RC 2 I L s) {k : Nat} (hk1 : 189 ≤ k) (hk2 : k < 205) (hk3 : k ≠ 196)
    (c6 : ∀ d, d < 2 → I' 10 d = gset s k x (197 + 4 * d) ∧ I' 11 d = gset s k x (197 + 4 * d + 1) ∧ I' 12 d = gset s k x (197 + 4 * d + 2) ∧ I' 13 d = gset s k x (197 + 4 * d + 3))
    (c7 : I' 2 2 = gset s k x 189 ∧ I' 2 3 = gset s k x 192 ∧ I' 2 4 = gset s k x 191 ∧ I' 2 5 = gset s k x 190 ∧ I' 2 6 = gset s k x 194 ∧ I' 2 7 = gset s k x 195 ∧ I' 2 8 = gset s k x 193)
    (c4 : I' 6 = I 6 ∧ I' 7 = I 7 ∧ I' 8 = I 8 ∧ I' 9 = I 9) : RC 2 I' L (gset s k x) := by
  have e1 : gMa (gset s k x) = gMa s := gMa_ne hk3
  obtain ⟨r1, r2, r3, r4, r9, r10, r11⟩ := id h
  refine h.of (fun t ht => ?_) (fun d hd => ?_) ?_ ?_ (fun v hv => ?_) c6 c7
  · rw [r1 t ht]
    exact sL_congr fun c _ => by
      by_cases hc : c < 63
      · rw [gTer_ne (by omega)]
      · simp [hc]
  · rw [gSrc_ne (by omega), r2 d hd]
  · rw [gRd_ne (by omega), r3]
  · rw [e1, gU_low hk2 hk3, gSd_low hk2, gMd_low hk2, gAt_low hk2, gset_ne (Ne.symm hk3)]
    show I' 6 0 = _ ∧ I' 6 1 = _ ∧ I' 6 2 = _ ∧ I' 6 3 = _ ∧ I' 6 4 = _
    rw [c4.1]
    exact r4
  · rw [e1] at hv
    show I' 7 v = _ ∧ I' 8 v = _ ∧ I' 9 v = _
    rw [c4.2.1, c4.2.2.1, c4.2.2.2, gset_ne (by omega), gset_ne (by omega), gset_ne (by omega)]
    exact r9 v hv
end
