/-! the class's game against the row of numbers -/
def RC (b : Nat) (I : e_TI) (L : e_TL) (s : Nat → Int32) : Prop :=
  (∀ t, t < 6 → L (b + 2) t = sL fun c => decide (c < 63) && gTer s c == t) ∧ (∀ d, d < 2 → L (b + 3) d = sL (gSrc s d)) ∧ L (b + 1) 2 = sL (gRd s) ∧
  (I (b + 4) 0 = s 196 ∧ I (b + 4) 1 = sI (gU s) ∧ I (b + 4) 2 = sI (fun u => decide (u < gMa s) && gSd s u == 1) ∧ I (b + 4) 3 = sI (fun u => decide (u < gMa s) && gMd s u) ∧ I (b + 4) 4 = sI (fun u => decide (u < gMa s) && gAt s u)) ∧
  (∀ u, u < gMa s → I (b + 5) u = s (205 + 6 * u + 1) ∧ I (b + 6) u = s (205 + 6 * u + 2) ∧ I (b + 7) u = s (205 + 6 * u + 3)) ∧
  (∀ d, d < 2 → I (b + 8) d = s (197 + 4 * d) ∧ I (b + 9) d = s (197 + 4 * d + 1) ∧ I (b + 10) d = s (197 + 4 * d + 2) ∧ I (b + 11) d = s (197 + 4 * d + 3)) ∧
  I b 2 = s 189 ∧ I b 3 = s 192 ∧ I b 4 = s 191 ∧ I b 5 = s 190 ∧ I b 6 = s 194 ∧ I b 7 = s 195 ∧ I b 8 = s 193
/-- the game in play -/
def GR (I : e_TI) (L : e_TL) (s : Nat → Int32) : Prop := gok s ∧ RC 2 I L s
theorem RC.frame {b : Nat} {I I' : e_TI} {L L' : e_TL} {s : Nat → Int32} (h : RC b I L s) (hI : ∀ c, b ≤ c → c < b + 12 → I' c = I c) (hL : ∀ c, b ≤ c → c < b + 12 → L' c = L c) : RC b I' L' s := by
  unfold RC at h ⊢
  rw [hL (b + 2) (by omega) (by omega), hL (b + 3) (by omega) (by omega), hL (b + 1) (by omega) (by omega), hI (b + 4) (by omega) (by omega), hI (b + 5) (by omega) (by omega), hI (b + 6) (by omega) (by omega), hI (b + 7) (by omega) (by omega), hI (b + 8) (by omega) (by omega), hI (b + 9) (by omega) (by omega), hI (b + 10) (by omega) (by omega), hI (b + 11) (by omega) (by omega), hI b (by omega) (by omega)]
  exact h
/-- outside the cells lo to hi nothing is changed -/
def Fr (lo hi : Nat) (I : e_TI) (L : e_TL) (I' : e_TI) (L' : e_TL) : Prop := ∀ c, (c < lo ∨ hi ≤ c) → I' c = I c ∧ L' c = L c
theorem Fr.rf {lo hi : Nat} {I : e_TI} {L : e_TL} : Fr lo hi I L I L := fun _ _ => ⟨rfl, rfl⟩
theorem Fr.tr {lo hi : Nat} {I I1 I2 : e_TI} {L L1 L2 : e_TL} (h : Fr lo hi I L I1 L1) (h2 : Fr lo hi I1 L1 I2 L2) : Fr lo hi I L I2 L2 := fun c hc => ⟨(h2 c hc).1.trans (h c hc).1, (h2 c hc).2.trans (h c hc).2⟩
theorem Fr.mono {lo hi lo' hi' : Nat} {I I1 : e_TI} {L L1 : e_TL} (h : Fr lo hi I L I1 L1) (h1 : lo' ≤ lo) (h2 : hi ≤ hi') : Fr lo' hi' I L I1 L1 := fun c hc => h c (by omega)
theorem Fr.upI {lo hi a k : Nat} {x : Int32} {I I1 : e_TI} {L L1 : e_TL} (h : Fr lo hi I L I1 L1) (ha : lo ≤ a ∧ a < hi) : Fr lo hi I L (e_up I1 a k x) L1 := fun c hc => ⟨by rw [← (h c hc).1]; unfold e_up; rw [if_neg (by omega)], (h c hc).2⟩
theorem Fr.upL {lo hi a k : Nat} {x : Int64} {I I1 : e_TI} {L L1 : e_TL} (h : Fr lo hi I L I1 L1) (ha : lo ≤ a ∧ a < hi) : Fr lo hi I L I1 (e_up L1 a k x) := fun c hc => ⟨(h c hc).1, by rw [← (h c hc).2]; unfold e_up; rw [if_neg (by omega)]⟩
theorem RC.fr {b lo hi : Nat} {I I' : e_TI} {L L' : e_TL} {s : Nat → Int32} (h : RC b I L s) (hf : Fr lo hi I L I' L') (hb : b + 12 ≤ lo ∨ hi ≤ b) : RC b I' L' s :=
  h.frame (fun c h1 h2 => (hf c (by omega)).1) (fun c h1 h2 => (hf c (by omega)).2)
theorem GR.fr {lo hi : Nat} {I I' : e_TI} {L L' : e_TL} {s : Nat → Int32} (h : GR I L s) (hf : Fr lo hi I L I' L') (hb : 14 ≤ lo) : GR I' L' s := ⟨h.1, h.2.fr hf (Or.inl hb)⟩
theorem up_same {α : Type} {f : Nat → Nat → α} {c k : Nat} {x : α} : e_up f c k x c k = x := by simp [e_up]
theorem up_slot {α : Type} {f : Nat → Nat → α} {c k j : Nat} {x : α} (h : j ≠ k) : e_up f c k x c j = f c j := by simp [e_up, h]
theorem up_cell {α : Type} {f : Nat → Nat → α} {c d k : Nat} {x : α} (h : d ≠ c) : e_up f c k x d = f d := by funext j; simp [e_up, h]
theorem row_same {α : Type} {f : Nat → Nat → α} {c : Nat} {r : Nat → α} : e_row f c r c = r := by simp [e_row]
theorem row_cell {α : Type} {f : Nat → Nat → α} {c d : Nat} {r : Nat → α} (h : d ≠ c) : e_row f c r d = f d := by simp [e_row, h]
section
variable {I : e_TI} {L : e_TL} {s : Nat → Int32}
theorem GR.kind (h : GR I L s) {t : Nat} (ht : t < 6) : L 4 t = sL fun c => decide (c < 63) && gTer s c == t := h.2.1 t ht
theorem GR.src (h : GR I L s) {d : Nat} (hd : d < 2) : L 5 d = sL (gSrc s d) := h.2.2.1 d hd
theorem GR.road (h : GR I L s) : L 3 2 = sL (gRd s) := h.2.2.2.1
theorem GR.ma (h : GR I L s) : gMa s ≤ 16 := h.1.2.2.2.2.1.2
theorem GR.tot (h : GR I L s) : I 6 0 = Int32.ofNat (gMa s) := h.2.2.2.2.1.1.trans h.1.2.2.2.2.1.1
theorem GR.pres (h : GR I L s) : I 6 1 = sI (gU s) := h.2.2.2.2.1.2.1
theorem GR.sec (h : GR I L s) : I 6 2 = sI (fun u => decide (u < gMa s) && gSd s u == 1) := h.2.2.2.2.1.2.2.1
theorem GR.mvd (h : GR I L s) : I 6 3 = sI (fun u => decide (u < gMa s) && gMd s u) := h.2.2.2.2.1.2.2.2.1
theorem GR.att (h : GR I L s) : I 6 4 = sI (fun u => decide (u < gMa s) && gAt s u) := h.2.2.2.2.1.2.2.2.2
theorem GR.pl (h : GR I L s) {u : Nat} (hu : u < gMa s) : I 7 u = Int32.ofNat (gPl s u) ∧ gPl s u < 63 := by
  have h1 := (h.1.2.2.2.2.2 u hu).2.1
  exact ⟨(h.2.2.2.2.2.1 u hu).1.trans h1.1, Nat.lt_succ_of_le h1.2⟩
theorem GR.st (h : GR I L s) {u : Nat} (hu : u < gMa s) : I 8 u = Int32.ofNat (gSt s u) ∧ gSt s u ≤ 9 := by
  have h1 := (h.1.2.2.2.2.2 u hu).2.2.1
  exact ⟨(h.2.2.2.2.2.1 u hu).2.1.trans h1.1, h1.2⟩
theorem GR.mv (h : GR I L s) {u : Nat} (hu : u < gMa s) : I 9 u = Int32.ofNat (gMv s u) ∧ gMv s u ≤ 12 := by
  have h1 := (h.1.2.2.2.2.2 u hu).2.2.2.1
  exact ⟨(h.2.2.2.2.2.1 u hu).2.2.trans h1.1, h1.2⟩
theorem GR.sd (h : GR I L s) {u : Nat} (hu : u < gMa s) : gSd s u ≤ 1 := (h.1.2.2.2.2.2 u hu).1.2
theorem GR.ter (h : GR I L s) {c : Nat} (hc : c < 63) : gTer s c ≤ 5 := (h.1.1 c hc).1.2
theorem GR.wx (h : GR I L s) : I 2 2 = Int32.ofNat (gWx s) ∧ gWx s ≤ 2 := ⟨h.2.2.2.2.2.2.2.1.trans h.1.2.1.1, h.1.2.1.2⟩
theorem GR.tu (h : GR I L s) : I 2 4 = Int32.ofNat (gTu s) ∧ gTu s ≤ 1 := ⟨h.2.2.2.2.2.2.2.2.2.1.trans h.1.2.2.2.1.1, h.1.2.2.2.1.2⟩
theorem GR.rg (h : GR I L s) : I 2 5 = Int32.ofNat (gRg s) ∧ gRg s ≤ 30 ∧ 1 ≤ gRg s := ⟨h.2.2.2.2.2.2.2.2.2.2.1.trans h.1.2.2.1.1.1, h.1.2.2.1.1.2, h.1.2.2.1.2⟩
theorem gU_lt {u : Nat} (h : gU s u = true) : u < gMa s := by
  unfold gU at h
  simp only [Bool.and_eq_true, decide_eq_true_eq] at h
  exact h.1
theorem gU_pos {u : Nat} (h : gU s u = true) : 0 < gSt s u := by
  unfold gU at h
  simp only [Bool.and_eq_true, decide_eq_true_eq] at h
  exact h.2
theorem gOwn_U {d u : Nat} (h : gOwn s d u = true) : gU s u = true := by
  unfold gOwn at h
  exact (Bool.and_eq_true _ _ ▸ h).1
theorem gOn_U {c u : Nat} (h : gOn s c u = true) : gU s u = true := by
  unfold gOn at h
  exact (Bool.and_eq_true _ _ ▸ h).1
theorem gKnown_U {d u : Nat} (h : gKnown s d u = true) : gU s u = true := by
  unfold gKnown at h
  exact gOwn_U (Bool.and_eq_true _ _ ▸ h).1
end
