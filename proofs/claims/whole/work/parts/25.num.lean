/-! numbers, branches, loops -/
theorem o_lit (n : Nat) : (OfNat.ofNat n : Int32) = Int32.ofNat (OfNat.ofNat n) := rfl
theorem o_le {a b : Nat} (ha : a < 2147483648) (hb : b < 2147483648) : Int32.ofNat a ≤ Int32.ofNat b ↔ a ≤ b := Int32.ofNat_le_iff_le ha hb
theorem o_lt {a b : Nat} (ha : a < 2147483648) (hb : b < 2147483648) : Int32.ofNat a < Int32.ofNat b ↔ a < b := Int32.ofNat_lt_iff_lt ha hb
theorem o_ix {a : Nat} (ha : a < 2147483648) : (Int32.ofNat a).toNatClampNeg = a := Int32.toNatClampNeg_ofNat_of_lt ha
theorem o_eq {a b : Nat} (ha : a < 2147483648) (hb : b < 2147483648) : Int32.ofNat a = Int32.ofNat b ↔ a = b := by
  constructor
  · intro h
    have := congrArg Int32.toNatClampNeg h
    rwa [o_ix ha, o_ix hb] at this
  · rintro rfl; rfl
theorem o_add (a b : Nat) : Int32.ofNat a + Int32.ofNat b = Int32.ofNat (a + b) := (Int32.ofNat_add a b).symm
theorem o_mul (a b : Nat) : Int32.ofNat a * Int32.ofNat b = Int32.ofNat (a * b) := (Int32.ofNat_mul a b).symm
theorem o_sub {a b : Nat} (h : b ≤ a) : Int32.ofNat a - Int32.ofNat b = Int32.ofNat (a - b) := (Int32.ofNat_sub a b h).symm
theorem o_div {a b : Nat} (ha : a < 2147483648) (hb : b < 2147483648) : Int32.ofNat a / Int32.ofNat b = Int32.ofNat (a / b) := (Int32.ofNat_div ha hb).symm
theorem o_s (i : Nat) : Int32.ofNat i + 1 = Int32.ofNat (i + 1) := o_add i 1
theorem o_in {i n : Nat} (h : i < n) (hi : i < 2147483648 := by omega) : vp_in (Int32.ofNat i) n := by
  rintro (h2 | h2)
  · exact absurd ((o_lt (b := 0) hi (by decide)).mp h2) (Nat.not_lt_zero _)
  · rw [o_ix hi] at h2
    omega
theorem o_nn {x : Int32} (h1 : ¬ x < 0) : ∃ c, c < 2147483648 ∧ x = Int32.ofNat c :=
  ⟨x.toNatClampNeg, Int32.toNatClampNeg_lt x, (Int32.ofNat_toNatClampNeg x (Int32.not_lt.mp h1)).symm⟩
theorem o_rng {x : Int32} {n : Nat} (h1 : ¬ x < 0) (h2 : ¬ (OfNat.ofNat n : Int32) ≤ x) (hn : n < 2147483648 := by decide) : ∃ c, c < n ∧ x = Int32.ofNat c := by
  obtain ⟨c, hc, rfl⟩ := o_nn h1
  refine ⟨c, ?_, rfl⟩
  rw [o_lit, o_le (by exact hn) hc] at h2
  exact Nat.lt_of_not_le h2
/-- comparisons with written numbers -/
theorem b_ge {n i : Nat} (h : i < n) (hn : n < 2147483648 := by decide) : ¬ (OfNat.ofNat n : Int32) ≤ Int32.ofNat i := by
  rw [o_lit, o_le (by exact hn) (by omega)]
  exact Nat.not_le.mpr h
theorem b_le {n i : Nat} (h : n ≤ i) (hi : i < 2147483648 := by omega) : (OfNat.ofNat n : Int32) ≤ Int32.ofNat i := by
  have hn : n < 2147483648 := by omega
  rw [o_lit, o_le (by exact hn) hi]
  exact h
theorem b_self (n : Nat) : (OfNat.ofNat n : Int32) ≤ Int32.ofNat n := Int32.le_refl _
theorem b_nn {i : Nat} (hi : i < 2147483648 := by omega) : ¬ Int32.ofNat i < 0 := by
  intro h
  exact absurd ((o_lt (b := 0) hi (by decide)).mp h) (Nat.not_lt_zero _)
theorem bx_t {c A B : Prop} (hc : c) (h : A) : (c → A) ∧ (¬ c → B) := ⟨fun _ => h, fun h2 => absurd hc h2⟩
theorem bx_f {c A B : Prop} (hc : ¬ c) (h : B) : (c → A) ∧ (¬ c → B) := ⟨fun h2 => absurd h2 hc, fun _ => h⟩
/-- on a truth value -/
theorem bx_b {b : Bool} {A B : Prop} (h0 : b = false → A) (h1 : b = true → B) : (e_b b = 0 → A) ∧ (¬ e_b b = 0 → B) := ⟨fun h => h0 (e_b0.mp h), fun h => h1 (e_b1.mp h)⟩
theorem bx_n {b : Bool} {A B : Prop} (h1 : b = true → A) (h0 : b = false → B) : (¬ e_b b = 0 → A) ∧ (¬ ¬ e_b b = 0 → B) := ⟨fun h => h1 (e_b1.mp h), fun h => h0 (e_b0.mp (Classical.not_not.mp h))⟩
theorem bx_iff {c : Prop} {p : Bool} {A B : Prop} (hc : c ↔ p = true) (h1 : p = true → A) (h0 : p = false → B) : (c → A) ∧ (¬ c → B) := ⟨fun h => h1 (hc.mp h), fun h => h0 (Bool.eq_false_iff.mpr (fun h2 => h (hc.mpr h2)))⟩
/-- loops -/
theorem any_s (f : Nat → Bool) (i : Nat) : (List.range (i + 1)).any f = ((List.range i).any f || f i) := by
  simp [List.range_succ]
theorem sL_or0 (p : Nat → Bool) {q : Nat → Bool} (h : ∀ c, c < 64 → q c = false) : sL p = sL (fun c => p c || q c) := by
  apply sL_congr
  intro c hc
  rw [h c hc, Bool.or_false]
theorem loop_L {G : Int64 → Int32 → Prop} (F : Nat → Nat → Bool) (N : Nat)
    (hs : ∀ i y, i < N → ((∀ c, c < 64 → F i c = false) → G y (Int32.ofNat i + 1)) → (∀ q, (∀ c, c < 64 → q c = F i c) → G (y ||| sL q) (Int32.ofNat i + 1)) → G y (Int32.ofNat i))
    (hN : G (sL fun c => (List.range N).any fun u => F u c) (Int32.ofNat N)) : G 0 0 := by
  have key : ∀ i, i ≤ N → G (sL fun c => (List.range i).any fun u => F u c) (Int32.ofNat i) := by
    refine e_downInd N (fun i hi ih => ?_) hN
    refine hs i _ hi (fun h => ?_) (fun q hq => ?_)
    · rw [o_s]
      have e : (sL fun c => (List.range i).any fun u => F u c) = sL fun c => (List.range (i + 1)).any fun u => F u c := by
        apply sL_congr
        intro c hc
        rw [any_s, h c hc, Bool.or_false]
      rw [e]
      exact ih
    · rw [o_s, sL_or]
      have e : (sL fun c => ((List.range i).any fun u => F u c) || q c) = sL fun c => (List.range (i + 1)).any fun u => F u c := by
        apply sL_congr
        intro c hc
        rw [any_s, hq c hc]
      rw [e]
      exact ih
  have h0 := key 0 (Nat.zero_le _)
  have e : (sL fun c => (List.range 0).any fun u => F u c) = 0 := by rw [sL_zero]; rfl
  rw [e] at h0
  exact h0
theorem loop_I {G : Int32 → Int32 → Prop} (F : Nat → Nat → Bool) (N : Nat)
    (hs : ∀ i y, i < N → ((∀ c, c < 32 → F i c = false) → G y (Int32.ofNat i + 1)) → (∀ q, (∀ c, c < 32 → q c = F i c) → G (y ||| sI q) (Int32.ofNat i + 1)) → G y (Int32.ofNat i))
    (hN : G (sI fun c => (List.range N).any fun u => F u c) (Int32.ofNat N)) : G 0 0 := by
  have key : ∀ i, i ≤ N → G (sI fun c => (List.range i).any fun u => F u c) (Int32.ofNat i) := by
    refine e_downInd N (fun i hi ih => ?_) hN
    refine hs i _ hi (fun h => ?_) (fun q hq => ?_)
    · rw [o_s]
      have e : (sI fun c => (List.range i).any fun u => F u c) = sI fun c => (List.range (i + 1)).any fun u => F u c := by
        apply sI_congr
        intro c hc
        rw [any_s, h c hc, Bool.or_false]
      rw [e]
      exact ih
    · rw [o_s, sI_or]
      have e : (sI fun c => ((List.range i).any fun u => F u c) || q c) = sI fun c => (List.range (i + 1)).any fun u => F u c := by
        apply sI_congr
        intro c hc
        rw [any_s, hq c hc]
      rw [e]
      exact ih
  have h0 := key 0 (Nat.zero_le _)
  have e : (sI fun c => (List.range 0).any fun u => F u c) = 0 := by rw [sI_zero]; rfl
  rw [e] at h0
  exact h0
/-- units that pass a test, gathered one by one -/
theorem gather_I (p : Nat → Bool) (N : Nat) : (sI fun c => (List.range N).any fun u => p u && u == c) = sI fun c => decide (c < N) && p c := by
  apply sI_congr
  intro c _
  rw [Bool.eq_iff_iff]
  simp only [List.any_eq_true, List.mem_range, Bool.and_eq_true, beq_iff_eq, decide_eq_true_eq]
  constructor
  · rintro ⟨u, h1, h2, rfl⟩; exact ⟨h1, h2⟩
  · rintro ⟨h1, h2⟩; exact ⟨c, h1, h2, rfl⟩
theorem gather_L (p : Nat → Bool) (N : Nat) : (sL fun c => (List.range N).any fun u => p u && u == c) = sL fun c => decide (c < N) && p c := by
  apply sL_congr
  intro c _
  rw [Bool.eq_iff_iff]
  simp only [List.any_eq_true, List.mem_range, Bool.and_eq_true, beq_iff_eq, decide_eq_true_eq]
  constructor
  · rintro ⟨u, h1, h2, rfl⟩; exact ⟨h1, h2⟩
  · rintro ⟨h1, h2⟩; exact ⟨c, h1, h2, rfl⟩
theorem sum_s (f : Nat → Nat) (i : Nat) : ((List.range (i + 1)).map f).sum = ((List.range i).map f).sum + f i := by
  simp [List.range_succ]
theorem loop_S {G : Int32 → Int32 → Prop} (z : Nat) (f : Nat → Nat) (N : Nat)
    (hs : ∀ i y, i < N → (f i = 0 → G y (Int32.ofNat i + 1)) → (G (y + Int32.ofNat (f i)) (Int32.ofNat i + 1)) → G y (Int32.ofNat i))
    (hN : G (Int32.ofNat (z + ((List.range N).map f).sum)) (Int32.ofNat N)) : G (Int32.ofNat z) 0 := by
  have key : ∀ i, i ≤ N → G (Int32.ofNat (z + ((List.range i).map f).sum)) (Int32.ofNat i) := by
    refine e_downInd N (fun i hi ih => ?_) hN
    rw [sum_s, ← Nat.add_assoc] at ih
    refine hs i _ hi (fun h => ?_) ?_
    · rw [o_s]
      rw [h, Nat.add_zero] at ih
      exact ih
    · rw [o_s, o_add]
      exact ih
  have h0 := key 0 (Nat.zero_le _)
  simpa using h0
/-- the first that passes a test -/
theorem loop_F {G : Int32 → Prop} (p : Nat → Bool) (N : Nat) (hs : ∀ i, i < N → (∀ j, j < i → p j = false) → (p i = false → G (Int32.ofNat i + 1)) → G (Int32.ofNat i)) (hN : (∀ j, j < N → p j = false) → G (Int32.ofNat N)) : G 0 := by
  have key : ∀ i, i ≤ N → (∀ j, j < i → p j = false) → G (Int32.ofNat i) := by
    refine e_downInd (G := fun i => (∀ j, j < i → p j = false) → G (Int32.ofNat i)) N (fun i hi ih hj => ?_) hN
    refine hs i hi hj (fun h => ?_)
    rw [o_s]
    refine ih (fun j h2 => ?_)
    by_cases h3 : j = i
    · subst h3; exact h
    · exact hj j (by omega)
  exact key 0 (Nat.zero_le _) (fun j h => absurd h (Nat.not_lt_zero _))
