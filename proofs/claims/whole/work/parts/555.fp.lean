/-! the machine's own division: no answer here is no number -/
set_option maxRecDepth 100000 in
theorem fp_div : ((List.range 145).all fun a => (List.range 144).all fun b => decide (FP.ddiv (FP.i2d (Int32.ofNat a)) (FP.i2d (Int32.ofNat (b + 1))) &&& 0x7fffffffffffffff ≤ 0x7ff0000000000000)) = true := by decide +kernel
theorem fp_pos : ((List.range 145).all fun b => decide (0 < Op.cmpValue (FP.dcmp (FP.i2d (Int32.ofNat b)) FP.dconst0) .g) == !(b == 0)) = true := by decide +kernel
theorem fp_div1 {a b : Nat} (ha : a ≤ 144) (h1 : 1 ≤ b) (hb : b ≤ 144) : vf_n64 (FP.ddiv (FP.i2d (Int32.ofNat a)) (FP.i2d (Int32.ofNat b))) := by
  have hd := List.all_eq_true.mp (List.all_eq_true.mp fp_div a (List.mem_range.mpr (by omega))) (b - 1) (List.mem_range.mpr (by omega))
  obtain ⟨k, rfl⟩ : ∃ k, b = k + 1 := ⟨b - 1, by omega⟩
  rw [Nat.add_sub_cancel] at hd
  have h2 := of_decide_eq_true hd
  exact h2
theorem fp_pos1 {b : Nat} (hb : b ≤ 144) : 0 < Op.cmpValue (FP.dcmp (FP.i2d (Int32.ofNat b)) FP.dconst0) .g ↔ b ≠ 0 := by
  have hp := List.all_eq_true.mp fp_pos b (List.mem_range.mpr (by omega))
  rw [beq_iff_eq] at hp
  by_cases h : b = 0
  · constructor
    · intro hpos
      rw [decide_eq_true hpos, h] at hp
      cases hp
    · intro hne
      exact absurd h hne
  · constructor
    · intro _
      exact h
    · intro _
      apply Classical.byContradiction
      intro hno
      rw [decide_eq_false hno, beq_false_of_ne h] at hp
      cases hp
