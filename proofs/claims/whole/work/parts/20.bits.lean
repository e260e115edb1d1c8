/-! sets as numbers -/
def gB (w : Nat) (p : Nat → Bool) : BitVec w := (BitVec.ofBoolListLE ((List.range w).map p)).cast (by simp)
theorem gB_bit (w : Nat) (p : Nat → Bool) (i : Nat) : (gB w p).getLsbD i = (decide (i < w) && p i) := by
  unfold gB
  rw [BitVec.getLsbD_cast, BitVec.getLsbD_ofBoolListLE]
  by_cases h : i < w
  · simp [List.getD, h]
  · simp [List.getD, h]
theorem gB_el (w : Nat) (p : Nat → Bool) (i : Nat) (h : i < w) : (gB w p)[i] = p i := by
  rw [← BitVec.getLsbD_eq_getElem, gB_bit]
  simp [h]
theorem gB_ext {w : Nat} {x : BitVec w} {p : Nat → Bool} (h : ∀ i, i < w → x.getLsbD i = p i) : x = gB w p := by
  apply BitVec.eq_of_getLsbD_eq
  intro i hi
  rw [h i hi, gB_bit]
  simp [hi]
theorem gB_congr {w : Nat} {p q : Nat → Bool} (h : ∀ i, i < w → p i = q i) : gB w p = gB w q := by
  apply gB_ext
  intro i hi
  rw [gB_bit, h i hi]
  simp [hi]
theorem gB_inj {w : Nat} {p q : Nat → Bool} (h : gB w p = gB w q) (i : Nat) (hi : i < w) : p i = q i := by
  have := congrArg (fun x => x.getLsbD i) h
  simpa [gB_el, hi] using this
/-- a set of cells as a long -/
def sL (p : Nat → Bool) : Int64 := Int64.ofBitVec (gB 64 p)
/-- a set of units as an int -/
def sI (p : Nat → Bool) : Int32 := Int32.ofBitVec (gB 32 p)
theorem sL_congr {p q : Nat → Bool} (h : ∀ i, i < 64 → p i = q i) : sL p = sL q := by unfold sL; rw [gB_congr h]
theorem sI_congr {p q : Nat → Bool} (h : ∀ i, i < 32 → p i = q i) : sI p = sI q := by unfold sI; rw [gB_congr h]
theorem sL_inj {p q : Nat → Bool} (h : sL p = sL q) (i : Nat) (hi : i < 64) : p i = q i := by
  have := congrArg Int64.toBitVec h
  exact gB_inj (w := 64) (by simpa [sL] using this) i hi
theorem sI_inj {p q : Nat → Bool} (h : sI p = sI q) (i : Nat) (hi : i < 32) : p i = q i := by
  have := congrArg Int32.toBitVec h
  exact gB_inj (w := 32) (by simpa [sI] using this) i hi
theorem sL_of (x : Int64) : x = sL (fun i => x.toBitVec.getLsbD i) := by
  unfold sL
  rw [← gB_ext (fun i _ => rfl)]
  rfl
theorem sI_of (x : Int32) : x = sI (fun i => x.toBitVec.getLsbD i) := by
  unfold sI
  rw [← gB_ext (fun i _ => rfl)]
  rfl
theorem sL_and (p q : Nat → Bool) : sL p &&& sL q = sL (fun i => p i && q i) := by
  apply Int64.toBitVec_inj.mp
  show gB 64 p &&& gB 64 q = gB 64 _
  apply gB_ext
  intro i hi
  simp [gB_el, hi]
theorem sL_or (p q : Nat → Bool) : sL p ||| sL q = sL (fun i => p i || q i) := by
  apply Int64.toBitVec_inj.mp
  show gB 64 p ||| gB 64 q = gB 64 _
  apply gB_ext
  intro i hi
  simp [gB_el, hi]
theorem sL_xor (p q : Nat → Bool) : sL p ^^^ sL q = sL (fun i => p i ^^ q i) := by
  apply Int64.toBitVec_inj.mp
  show gB 64 p ^^^ gB 64 q = gB 64 _
  apply gB_ext
  intro i hi
  simp [gB_el, hi]
theorem sL_neg1 : (-1 : Int64) = sL (fun _ => true) := by decide +kernel
theorem sL_zero : (0 : Int64) = sL (fun _ => false) := by decide +kernel
theorem sL_not (p : Nat → Bool) : sL p ^^^ (-1) = sL (fun i => !p i) := by
  rw [sL_neg1, sL_xor]
  apply sL_congr
  intro i _
  simp
theorem sI_and (p q : Nat → Bool) : sI p &&& sI q = sI (fun i => p i && q i) := by
  apply Int32.toBitVec_inj.mp
  show gB 32 p &&& gB 32 q = gB 32 _
  apply gB_ext
  intro i hi
  simp [gB_el, hi]
theorem sI_or (p q : Nat → Bool) : sI p ||| sI q = sI (fun i => p i || q i) := by
  apply Int32.toBitVec_inj.mp
  show gB 32 p ||| gB 32 q = gB 32 _
  apply gB_ext
  intro i hi
  simp [gB_el, hi]
theorem sI_xor (p q : Nat → Bool) : sI p ^^^ sI q = sI (fun i => p i ^^ q i) := by
  apply Int32.toBitVec_inj.mp
  show gB 32 p ^^^ gB 32 q = gB 32 _
  apply gB_ext
  intro i hi
  simp [gB_el, hi]
theorem sI_neg1 : (-1 : Int32) = sI (fun _ => true) := by decide +kernel
theorem sI_zero : (0 : Int32) = sI (fun _ => false) := by decide +kernel
theorem sI_not (p : Nat → Bool) : sI p ^^^ (-1) = sI (fun i => !p i) := by
  rw [sI_neg1, sI_xor]
  apply sI_congr
  intro i _
  simp
theorem sL_eq0 (p : Nat → Bool) : sL p = 0 ↔ ∀ i, i < 64 → p i = false := by
  rw [sL_zero]
  exact ⟨fun h => sL_inj h, fun h => sL_congr h⟩
theorem sI_eq0 (p : Nat → Bool) : sI p = 0 ↔ ∀ i, i < 32 → p i = false := by
  rw [sI_zero]
  exact ⟨fun h => sI_inj h, fun h => sI_congr h⟩
/-- 1L << cell -/
theorem sL_only : ∀ c : Nat, c < 63 → (1 : Int64) <<< ((Int32.ofNat c).toInt64 &&& 63) = sL (fun i => i == c) := by
  have h : ∀ c : Fin 63, (1 : Int64) <<< ((Int32.ofNat c.1).toInt64 &&& 63) = sL (fun i => i == c.1) := by decide +kernel
  exact fun c hc => h ⟨c, hc⟩
/-- 1 << unit -/
theorem sI_only : ∀ c : Nat, c < 32 → (1 : Int32) <<< (Int32.ofNat c &&& 31) = sI (fun i => i == c) := by
  have h : ∀ c : Fin 32, (1 : Int32) <<< (Int32.ofNat c.1 &&& 31) = sI (fun i => i == c.1) := by decide +kernel
  exact fun c hc => h ⟨c, hc⟩
/-- (set >>> cell & 1) == 0 -/
theorem sL_has (p : Nat → Bool) (c : Nat) (hc : c < 63) : ((sL p).toUInt64 >>> ((Int32.ofNat c).toInt64.toUInt64 &&& Int64.toUInt64 63)).toInt64 &&& 1 = 0 ↔ p c = false := by
  have h1 : ((Int32.ofNat c).toInt64.toUInt64 &&& Int64.toUInt64 63) = UInt64.ofNat c := by
    have h : ∀ c : Fin 63, ((Int32.ofNat c.1).toInt64.toUInt64 &&& Int64.toUInt64 63) = UInt64.ofNat c.1 := by decide +kernel
    exact h ⟨c, hc⟩
  rw [h1]
  have h2 : ((sL p).toUInt64 >>> UInt64.ofNat c).toInt64 = sL (fun i => decide (c + i < 64) && p (c + i)) := by
    apply Int64.toBitVec_inj.mp
    show (gB 64 p) >>> (UInt64.ofNat c % 64).toBitVec = gB 64 _
    have h3 : (UInt64.ofNat c % 64).toBitVec.toNat = c := by
      have h : ∀ c : Fin 63, (UInt64.ofNat c.1 % 64).toBitVec.toNat = c.1 := by decide +kernel
      exact h ⟨c, hc⟩
    rw [show (gB 64 p) >>> (UInt64.ofNat c % 64).toBitVec = (gB 64 p) >>> (UInt64.ofNat c % 64).toBitVec.toNat from rfl, h3]
    apply gB_ext
    intro i hi
    rw [BitVec.getLsbD_ushiftRight, gB_bit]
  have h4 : (1 : Int64) = sL (fun i => i == 0) := by decide +kernel
  rw [h2, h4, sL_and, sL_eq0]
  constructor
  · intro h
    have := h 0 (by decide)
    simpa [show c < 64 by omega] using this
  · intro h i hi
    by_cases h0 : i = 0
    · subst h0; simp [h]
    · simp [h0]
theorem sI_has (p : Nat → Bool) (c : Nat) (hc : c < 32) : ((sI p).toUInt32 >>> ((Int32.ofNat c).toUInt32 &&& Int32.toUInt32 31)).toInt32 &&& 1 = 0 ↔ p c = false := by
  have h1 : ((Int32.ofNat c).toUInt32 &&& Int32.toUInt32 31) = UInt32.ofNat c := by
    have h : ∀ c : Fin 32, ((Int32.ofNat c.1).toUInt32 &&& Int32.toUInt32 31) = UInt32.ofNat c.1 := by decide +kernel
    exact h ⟨c, hc⟩
  rw [h1]
  have h2 : ((sI p).toUInt32 >>> UInt32.ofNat c).toInt32 = sI (fun i => decide (c + i < 32) && p (c + i)) := by
    apply Int32.toBitVec_inj.mp
    show (gB 32 p) >>> (UInt32.ofNat c % 32).toBitVec = gB 32 _
    have h3 : (UInt32.ofNat c % 32).toBitVec.toNat = c := by
      have h : ∀ c : Fin 32, (UInt32.ofNat c.1 % 32).toBitVec.toNat = c.1 := by decide +kernel
      exact h ⟨c, hc⟩
    rw [show (gB 32 p) >>> (UInt32.ofNat c % 32).toBitVec = (gB 32 p) >>> (UInt32.ofNat c % 32).toBitVec.toNat from rfl, h3]
    apply gB_ext
    intro i hi
    rw [BitVec.getLsbD_ushiftRight, gB_bit]
  have h4 : (1 : Int32) = sI (fun i => i == 0) := by decide +kernel
  rw [h2, h4, sI_and, sI_eq0]
  constructor
  · intro h
    have := h 0 (by decide)
    simpa [show c < 32 by omega] using this
  · intro h i hi
    by_cases h0 : i = 0
    · subst h0; simp [h]
    · simp [h0]
/-! the hexagons: neighbors -/
/-- the neighbor of a cell in a direction -/
def nb (c d : Nat) : Option Nat :=
  let r := c / 9; let k := c % 9; let e := r % 2
  match d with
  | 0 => if k < 8 then some (c + 1) else none
  | 1 => if r = 0 ∨ k + e > 8 then none else some (9 * (r - 1) + (k + e))
  | 2 => if r = 0 ∨ k + e = 0 then none else some (9 * (r - 1) + (k + e - 1))
  | 3 => if k = 0 then none else some (c - 1)
  | 4 => if 6 ≤ r ∨ k + e = 0 then none else some (9 * (r + 1) + (k + e - 1))
  | 5 => if 6 ≤ r ∨ k + e > 8 then none else some (9 * (r + 1) + (k + e))
  | _ => none
def adj (a b : Nat) : Bool := (List.range 6).any fun d => nb a d == some b
theorem adj_symm63 : ∀ a : Fin 63, ∀ b : Fin 63, adj a b = adj b a := by decide +kernel
theorem nb_lt : ∀ c : Fin 63, ∀ d : Fin 6, ∀ x, nb c d = some x → x < 63 := by
  have h : ∀ c : Fin 63, ∀ d : Fin 6, ((nb c d).getD 0 < 63) := by decide +kernel
  intro c d x hx
  have := h c d
  rw [hx] at this
  exact this
/-- the neighbors of the cells of a set -/
def aro (p : Nat → Bool) (c : Nat) : Bool := decide (c < 63) && (List.range 63).any fun a => p a && adj a c
theorem aro_true {p : Nat → Bool} {c : Nat} : aro p c = true ↔ c < 63 ∧ ∃ a, a < 63 ∧ p a = true ∧ adj a c = true := by
  unfold aro
  simp
/-- by directions -/
theorem aro_dir {p : Nat → Bool} {c : Nat} (hc : c < 63) : aro p c = (List.range 6).any fun d => match nb c d with | some a => p a | none => false := by
  rw [Bool.eq_iff_iff, aro_true]
  constructor
  · rintro ⟨_, a, ha, hp, h⟩
    rw [adj_symm63 ⟨a, ha⟩ ⟨c, hc⟩] at h
    unfold adj at h
    rw [List.any_eq_true] at h ⊢
    obtain ⟨d, hd, h⟩ := h
    refine ⟨d, hd, ?_⟩
    rw [beq_iff_eq.mp h]
    exact hp
  · intro h
    rw [List.any_eq_true] at h
    obtain ⟨d, hd, h⟩ := h
    rw [List.mem_range] at hd
    split at h
    · rename_i a ha
      have ha2 := nb_lt ⟨c, hc⟩ ⟨d, hd⟩ a ha
      refine ⟨hc, a, ha2, h, ?_⟩
      rw [adj_symm63 ⟨a, ha2⟩ ⟨c, hc⟩]
      unfold adj
      rw [List.any_eq_true]
      exact ⟨d, List.mem_range.mpr hd, by simp [ha]⟩
    · cases h
/-- the class's bits -/
def clAro (x : Int64) : Int64 := ((((((x &&& (-18049651735527938)).toUInt64 >>> ((1 : Int32).toInt64.toUInt64 &&& Int64.toUInt64 63)).toInt64) ||| ((x &&& (-4620710844295151873)) <<< ((1 : Int32).toInt64 &&& 63))) ||| (((x ||| ((((x &&& (-18049651735527938)).toUInt64 >>> ((1 : Int32).toInt64.toUInt64 &&& Int64.toUInt64 63)).toInt64) &&& 9205392754131862015)) ||| (((x &&& (-4620710844295151873)) <<< ((1 : Int32).toInt64 &&& 63)) &&& (-9205392754131862016))) <<< ((9 : Int32).toInt64 &&& 63))) ||| ((((x ||| ((((x &&& (-18049651735527938)).toUInt64 >>> ((1 : Int32).toInt64.toUInt64 &&& Int64.toUInt64 63)).toInt64) &&& 9205392754131862015)) ||| (((x &&& (-4620710844295151873)) <<< ((1 : Int32).toInt64 &&& 63)) &&& (-9205392754131862016))).toUInt64 >>> ((9 : Int32).toInt64.toUInt64 &&& Int64.toUInt64 63)).toInt64)) &&& 9223372036854775807
theorem sL_shr (p : Nat → Bool) (n : Nat) (s : Int32) (hs : (s.toInt64.toUInt64 &&& Int64.toUInt64 63) = UInt64.ofNat n) (hn : (UInt64.ofNat n % 64).toBitVec.toNat = n) : ((sL p).toUInt64 >>> (s.toInt64.toUInt64 &&& Int64.toUInt64 63)).toInt64 = sL (fun i => decide (n + i < 64) && p (n + i)) := by
  rw [hs]
  apply Int64.toBitVec_inj.mp
  show (gB 64 p) >>> (UInt64.ofNat n % 64).toBitVec = gB 64 _
  rw [show (gB 64 p) >>> (UInt64.ofNat n % 64).toBitVec = (gB 64 p) >>> (UInt64.ofNat n % 64).toBitVec.toNat from rfl, hn]
  apply gB_ext
  intro i hi
  rw [BitVec.getLsbD_ushiftRight, gB_bit]
theorem sL_shl (p : Nat → Bool) (n : Nat) (s : Int32) (hs : ((s.toInt64 &&& 63).toBitVec.smod 64).toNat = n) : (sL p) <<< (s.toInt64 &&& 63) = sL (fun i => decide (n ≤ i) && p (i - n)) := by
  apply Int64.toBitVec_inj.mp
  rw [Int64.toBitVec_shiftLeft]
  show (gB 64 p) <<< ((s.toInt64 &&& 63).toBitVec.smod 64) = gB 64 _
  rw [show (gB 64 p) <<< ((s.toInt64 &&& 63).toBitVec.smod 64) = (gB 64 p) <<< ((s.toInt64 &&& 63).toBitVec.smod 64).toNat from rfl, hs]
  apply gB_ext
  intro i hi
  rw [BitVec.getLsbD_shiftLeft, gB_bit]
  by_cases h : n ≤ i
  · simp [hi, h, show ¬ i < n by omega, show i - n < 64 by omega]
  · simp [h, show i < n by omega]
