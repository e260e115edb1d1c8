/-! Integer.bitCount of a set of units -/
def shI (x k : Int32) : Int32 := (x.toUInt32 >>> (k.toUInt32 &&& Int32.toUInt32 31)).toInt32
def nv_ (x : Int32) : Nat := x.toBitVec.toNat
theorem shI_nat (x k : Int32) (n : Nat) (hk : (k.toUInt32 &&& Int32.toUInt32 31) = UInt32.ofNat n) (hn : (UInt32.ofNat n % 32).toBitVec.toNat = n) : nv_ (shI x k) = nv_ x >>> n := by
  unfold nv_ shI
  rw [hk]
  show (x.toBitVec >>> (UInt32.ofNat n % 32).toBitVec).toNat = _
  rw [show x.toBitVec >>> (UInt32.ofNat n % 32).toBitVec = x.toBitVec >>> (UInt32.ofNat n % 32).toBitVec.toNat from rfl, hn, BitVec.toNat_ushiftRight]
theorem nv_add (x y : Int32) : nv_ (x + y) = (nv_ x + nv_ y) % 4294967296 := by
  unfold nv_
  rw [Int32.toBitVec_add, BitVec.toNat_add]
theorem nv_sub (x y : Int32) : nv_ (x - y) = (4294967296 - nv_ y + nv_ x) % 4294967296 := by
  unfold nv_
  rw [Int32.toBitVec_sub, BitVec.toNat_sub]
theorem nv_and (x y : Int32) : nv_ (x &&& y) = nv_ x &&& nv_ y := by
  unfold nv_
  rw [Int32.toBitVec_and, BitVec.toNat_and]
def bc1 (x : Int32) : Int32 := x - (shI x 1 &&& 1431655765)
def bc2 (x : Int32) : Int32 := (x &&& 858993459) + (shI x 2 &&& 858993459)
def bc3 (x : Int32) : Int32 := (x + shI x 4) &&& 252645135
def bc4 (x : Int32) : Int32 := x + shI x 8
def bc5 (x : Int32) : Int32 := x + shI x 16
def bcI (x : Int32) : Int32 := bc5 (bc4 (bc3 (bc2 (bc1 x)))) &&& 63
def bcN (n : Nat) : Nat :=
  let a := (4294967296 - (n >>> 1 &&& 1431655765) + n) % 4294967296
  let b := ((a &&& 858993459) + (a >>> 2 &&& 858993459)) % 4294967296
  let c := (b + b >>> 4) % 4294967296 &&& 252645135
  let d := (c + c >>> 8) % 4294967296
  let e := (d + d >>> 16) % 4294967296
  e &&& 63
theorem bcI_nat (x : Int32) : nv_ (bcI x) = bcN (nv_ x) := by
  unfold bcI bc5 bc4 bc3 bc2 bc1 bcN
  simp only [nv_and, nv_add, nv_sub, shI_nat _ 1 1 (by decide +kernel) (by decide +kernel), shI_nat _ 2 2 (by decide +kernel) (by decide +kernel), shI_nat _ 4 4 (by decide +kernel) (by decide +kernel), shI_nat _ 8 8 (by decide +kernel) (by decide +kernel), shI_nat _ 16 16 (by decide +kernel) (by decide +kernel),
    show nv_ 1431655765 = 1431655765 by decide +kernel, show nv_ 858993459 = 858993459 by decide +kernel, show nv_ 252645135 = 252645135 by decide +kernel, show nv_ 63 = 63 by decide +kernel]
/-- eight bits counted -/
def pc8 (x : Nat) : Nat :=
  let y := (x &&& 85) + (x >>> 1 &&& 85)
  let z := (y &&& 51) + (y >>> 2 &&& 51)
  (z &&& 15) + z >>> 4
theorem pc8_tab : ∀ x : Fin 256, pc8 x.1 = (List.range 8).countP fun u => x.1.testBit u := by decide +kernel
set_option maxRecDepth 100000 in
theorem bcN_tab : ((List.range 256).all fun a => (List.range 256).all fun b => Nat.beq (bcN (256 * a + b)) (pc8 a + pc8 b)) = true := by decide +kernel
theorem bcN_ok {n : Nat} (h : n < 65536) : bcN n = (List.range 16).countP fun u => n.testBit u := by
  have h1 := List.all_eq_true.mp (List.all_eq_true.mp bcN_tab (n / 256) (List.mem_range.mpr (by omega))) (n % 256) (List.mem_range.mpr (Nat.mod_lt _ (by decide)))
  have h2 := Nat.eq_of_beq_eq_true h1
  rw [Nat.div_add_mod] at h2
  rw [h2, pc8_tab ⟨n / 256, by omega⟩, pc8_tab ⟨n % 256, Nat.mod_lt _ (by decide)⟩]
  have e16 : List.range 16 = List.range 8 ++ (List.range 8).map (fun u => 8 + u) := by decide
  rw [e16, List.countP_append, List.countP_map, Nat.add_comm]
  congr 1
  · apply List.countP_congr
    intro u hu
    rw [List.mem_range] at hu
    show (n % 2 ^ 8).testBit u = true ↔ _
    rw [Nat.testBit_mod_two_pow]
    simp [hu]
  · apply List.countP_congr
    intro u hu
    show (n / 2 ^ 8).testBit u = true ↔ n.testBit (8 + u) = true
    rw [Nat.testBit_div_two_pow, Nat.add_comm]
theorem bcI_sI {q : Nat → Bool} (hq : ∀ u, 16 ≤ u → u < 32 → q u = false) : bcI (sI q) = Int32.ofNat ((List.range 16).countP q) := by
  have hb : ∀ u, u < 32 → (nv_ (sI q)).testBit u = q u := by
    intro u hu
    show (gB 32 q).toNat.testBit u = q u
    rw [← BitVec.getLsbD, gB_bit]
    simp [hu]
  have hlt : nv_ (sI q) < 65536 := by
    show nv_ (sI q) < 2 ^ 16
    apply Nat.lt_pow_two_of_testBit
    intro i hi
    by_cases h32 : i < 32
    · rw [hb i h32, hq i hi h32]
    · apply Nat.testBit_lt_two_pow
      exact Nat.lt_of_lt_of_le (gB 32 q).isLt (Nat.pow_le_pow_right (by decide) (by omega))
  have h := bcI_nat (sI q)
  rw [bcN_ok hlt] at h
  have e : (List.range 16).countP (fun u => (nv_ (sI q)).testBit u) = (List.range 16).countP q := by
    apply List.countP_congr
    intro u hu
    rw [List.mem_range] at hu
    rw [hb u (by omega)]
  rw [e] at h
  have hle : (List.range 16).countP q ≤ 16 := by
    have := List.countP_le_length (p := q) (l := List.range 16)
    simpa using this
  apply Int32.toBitVec_inj.mp
  apply BitVec.eq_of_toNat_eq
  show nv_ (bcI (sI q)) = _
  rw [h]
  show _ = (BitVec.ofNat 32 ((List.range 16).countP q)).toNat
  rw [BitVec.toNat_ofNat, Nat.mod_eq_of_lt (by omega)]
theorem s_bitCount {I : e_TI} {L : e_TL} {D : e_TD} {sc : e_TS} {Ψ : Int32 → e_TI → e_TL → e_TD → Prop} {q : Nat → Bool} (hq : ∀ u, 16 ≤ u → u < 32 → q u = false) (H : Ψ (Int32.ofNat ((List.range 16).countP q)) I L D) : e_M 14 [.int (sI q)] (S0 I L D sc) (e_rI sc Ψ) := by
  refine vJ_Integer_bitCount ?_
  rw [← bcI_sI hq] at H
  exact H
