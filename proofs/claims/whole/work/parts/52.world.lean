/-! the whole state, and the class's cells that hold it -/
/-- the game; whether one is saved, and it; how many are kept, and they; the report's levels; the buffer -/
abbrev Wd : Type := (Nat → Int32) × (Bool × (Nat → Int32)) × (Nat × (Nat → Nat → Int32)) × (Nat × (Nat → Int32) × (Nat → Int32)) × (Nat × (Nat → Int32))
abbrev wG (w : Wd) : Nat → Int32 := w.1
abbrev wSf (w : Wd) : Bool := w.2.1.1
abbrev wSv (w : Wd) : Nat → Int32 := w.2.1.2
abbrev wM (w : Wd) : Nat := w.2.2.1.1
abbrev wP (w : Wd) : Nat → Nat → Int32 := w.2.2.1.2
abbrev wL (w : Wd) : Nat := w.2.2.2.1.1
abbrev wRc (w : Wd) : Nat → Int32 := w.2.2.2.1.2.1
abbrev wRd (w : Wd) : Nat → Int32 := w.2.2.2.1.2.2
abbrev wN (w : Wd) : Nat := w.2.2.2.2.1
abbrev wB (w : Wd) : Nat → Int32 := w.2.2.2.2.2
/-- a change that can be taken back -/
def wCh (w : Wd) (g : Nat → Int32) : Wd := (g, w.2.1, (min (wM w + 1) 8, pushP (wM w) (wP w) (wG w)), w.2.2.2)
def RpR (I : e_TI) (l : Nat) (rc rd : Nat → Int32) : Prop := I 134 2 = Int32.ofNat l ∧ l ≤ 3 ∧ ∀ i, i < l → I 135 i = rc i ∧ I 136 i = rd i
def BfR (I : e_TI) (n : Nat) (bf : Nat → Int32) : Prop := I 137 1 = Int32.ofNat n ∧ n ≤ 80 ∧ ∀ i, i < n → I 138 i = bf i
def CW (I : e_TI) (L : e_TL) (w : Wd) : Prop :=
  GR I L (wG w) ∧ (I 0 3 = e_b (wSf w) ∧ (wSf w = true → gok (wSv w) ∧ RC 24 I L (wSv w))) ∧ HiR I L (wM w) (wP w) ∧ RpR I (wL w) (wRc w) (wRd w) ∧ BfR I (wN w) (wB w)
section
variable {I I' : e_TI} {L L' : e_TL} {w : Wd}
/-- the game's own cells and the waves have changed -/
theorem CW.game (h : CW I L w) (hF : Fr 2 24 I L I' L') {g : Nat → Int32} (hG : GR I' L' g) : CW I' L' (g, w.2) := by
  obtain ⟨h1, ⟨h2, h3⟩, h4, h5, h6⟩ := h
  refine ⟨hG, ⟨?_, fun hs => ⟨(h3 hs).1, (h3 hs).2.fr hF (by decide)⟩⟩, h4.fr hF (by decide), ?_, ?_⟩
  · rw [(hF 0 (by decide)).1]; exact h2
  · unfold RpR at h5 ⊢
    rw [(hF 134 (by decide)).1, (hF 135 (by decide)).1, (hF 136 (by decide)).1]
    exact h5
  · unfold BfR at h6 ⊢
    rw [(hF 137 (by decide)).1, (hF 138 (by decide)).1]
    exact h6
theorem CW.same (h : CW I L w) (hF : Fr 14 24 I L I' L') : CW I' L' w := h.game (hF.mono (by decide) (by decide)) (h.1.fr hF (by decide))
/-- a game more is kept -/
theorem CW.kept (h : CW I L w) (hF : Fr 36 134 I L I' L') (hH : HiR I' L' (min (wM w + 1) 8) (pushP (wM w) (wP w) (wG w))) : CW I' L' (wCh w (wG w)) := by
  obtain ⟨h1, ⟨h2, h3⟩, h4, h5, h6⟩ := h
  refine ⟨h1.fr hF (by decide), ⟨?_, fun hs => ⟨(h3 hs).1, (h3 hs).2.fr hF (by decide)⟩⟩, hH, ?_, ?_⟩
  · rw [(hF 0 (by decide)).1]; exact h2
  · show RpR I' (wL w) (wRc w) (wRd w)
    unfold RpR at h5 ⊢
    rw [(hF 134 (by decide)).1, (hF 135 (by decide)).1, (hF 136 (by decide)).1]
    exact h5
  · show BfR I' (wN w) (wB w)
    unfold BfR at h6 ⊢
    rw [(hF 137 (by decide)).1, (hF 138 (by decide)).1]
    exact h6
end
/-! arguments -/
def nx (x : Int32) : Nat := x.toNatClampNeg
def iC (x : Int32) : Bool := decide (0 ≤ x) && decide (x < 63)
def iS (x : Int32) : Bool := decide (0 ≤ x) && decide (x < 2)
/-- from a to b -/
def iR (x : Int32) (a b : Nat) : Bool := decide (Int32.ofNat a ≤ x) && decide (x ≤ Int32.ofNat b)
def iU (s : Nat → Int32) (x : Int32) : Bool := decide (0 ≤ x) && (decide (x < 16) && gU s (nx x))
theorem b_lt {n i : Nat} (h : i < n) (hn : n < 2147483648 := by decide) : Int32.ofNat i < (OfNat.ofNat n : Int32) := by
  rw [o_lit, o_lt (by omega) (by exact hn)]
  exact h
theorem nx_of {n : Nat} (h : n < 2147483648) : nx (Int32.ofNat n) = n := o_ix h
theorem iC_of {c : Nat} (hc : c < 63) : iC (Int32.ofNat c) = true := by
  unfold iC
  rw [decide_eq_true (Int32.not_lt.mp (b_nn (by omega))), decide_eq_true (b_lt (n := 63) hc)]
  rfl
theorem iS_of {c : Nat} (hc : c < 2) : iS (Int32.ofNat c) = true := by
  unfold iS
  rw [decide_eq_true (Int32.not_lt.mp (b_nn (by omega))), decide_eq_true (b_lt (n := 2) hc)]
  rfl
theorem iR_of {a b c : Nat} (hb : b < 2147483648) (h1 : a ≤ c) (h2 : c ≤ b) : iR (Int32.ofNat c) a b = true := by
  unfold iR
  rw [decide_eq_true ((o_le (by omega) (by omega)).mpr h1), decide_eq_true ((o_le (by omega) (by omega)).mpr h2)]
  rfl
theorem iR_ex {x : Int32} {a b : Nat} (hb : b < 2147483648) (ha : a ≤ b) (h : iR x a b = true) : ∃ c, a ≤ c ∧ c ≤ b ∧ x = Int32.ofNat c := by
  unfold iR at h
  simp only [Bool.and_eq_true, decide_eq_true_eq] at h
  obtain ⟨c, hc, rfl⟩ := o_nn (x := x) (Int32.not_lt.mpr (Int32.le_trans (Int32.not_lt.mp (b_nn (by omega))) h.1))
  rw [o_le (by omega) hc, o_le hc hb] at h
  exact ⟨c, h.1, h.2, rfl⟩
theorem iC_neg {x : Int32} (h : x < 0) : iC x = false := by
  unfold iC
  rw [decide_eq_false (Int32.not_le.mpr h)]
  rfl
theorem iC_big {x : Int32} (h : ¬ x < 63) : iC x = false := by
  unfold iC
  rw [decide_eq_false h, Bool.and_false]
theorem iS_neg {x : Int32} (h : x < 0) : iS x = false := by
  unfold iS
  rw [decide_eq_false (Int32.not_le.mpr h)]
  rfl
theorem iS_big {x : Int32} (h : ¬ x < 2) : iS x = false := by
  unfold iS
  rw [decide_eq_false h, Bool.and_false]
theorem o_rng2 {x : Int32} {n : Nat} (h1 : ¬ x < 0) (h2 : x < (OfNat.ofNat n : Int32)) (hn : n < 2147483648 := by decide) : ∃ c, c < n ∧ x = Int32.ofNat c := by
  obtain ⟨c, hc, rfl⟩ := o_nn h1
  refine ⟨c, ?_, rfl⟩
  rw [o_lit, o_lt hc (by exact hn)] at h2
  exact h2
theorem iU_of {s : Nat → Int32} {u : Nat} (h : u < 16) : iU s (Int32.ofNat u) = gU s u := by
  unfold iU
  rw [decide_eq_true (Int32.not_lt.mp (b_nn (by omega))), decide_eq_true (b_lt (n := 16) h), nx_of (by omega)]
  rfl
theorem iU_ex {s : Nat → Int32} {x : Int32} (h : iU s x = true) : ∃ u, u < 16 ∧ x = Int32.ofNat u ∧ gU s u = true := by
  unfold iU at h
  simp only [Bool.and_eq_true, decide_eq_true_eq] at h
  obtain ⟨u, hu, rfl⟩ := o_rng2 (n := 16) (Int32.not_lt.mpr h.1) h.2.1
  have hu16 : u < 16 := hu
  rw [nx_of (by omega)] at h
  exact ⟨u, hu, rfl, h.2.2⟩
/-! how a call of the face ends: an answer, or the exception of that place in the method's list -/
section
variable (ex : List String) (χ : String → e_TI → e_TL → e_TD → Prop)
def finI (Ψ : Int32 → e_TI → e_TL → e_TD → Prop) (a : Nat × Int32) (I : e_TI) (L : e_TL) (D : e_TD) : Prop := if a.1 = 0 then Ψ a.2 I L D else χ (ex.getD (a.1 - 1) "") I L D
def finL (Ψ : Int64 → e_TI → e_TL → e_TD → Prop) (a : Nat × Int64) (I : e_TI) (L : e_TL) (D : e_TD) : Prop := if a.1 = 0 then Ψ a.2 I L D else χ (ex.getD (a.1 - 1) "") I L D
end
section
variable {ex : List String} {χ : String → e_TI → e_TL → e_TD → Prop} {I : e_TI} {L : e_TL} {D : e_TD}
theorem finI_o {Ψ : Int32 → e_TI → e_TL → e_TD → Prop} {a : Nat × Int32} {v : Int32} (h : finI ex χ Ψ a I L D) (ha : a = (0, v)) : Ψ v I L D := by
  rw [ha] at h
  exact h
theorem finI_e {Ψ : Int32 → e_TI → e_TL → e_TD → Prop} {a : Nat × Int32} {k : Nat} {v : Int32} {E : String} (h : finI ex χ Ψ a I L D) (ha : a = (k + 1, v)) (hE : ex.getD k "" = E := by rfl) : χ E I L D := by
  rw [ha] at h
  rw [← hE]
  exact h
theorem finL_o {Ψ : Int64 → e_TI → e_TL → e_TD → Prop} {a : Nat × Int64} {v : Int64} (h : finL ex χ Ψ a I L D) (ha : a = (0, v)) : Ψ v I L D := by
  rw [ha] at h
  exact h
theorem finL_e {Ψ : Int64 → e_TI → e_TL → e_TD → Prop} {a : Nat × Int64} {k : Nat} {v : Int64} {E : String} (h : finL ex χ Ψ a I L D) (ha : a = (k + 1, v)) (hE : ex.getD k "" = E := by rfl) : χ E I L D := by
  rw [ha] at h
  rw [← hE]
  exact h
end
def xI : String := "java/lang/IndexOutOfBoundsException"
def xA : String := "java/lang/IllegalArgumentException"
def xS : String := "java/lang/IllegalStateException"
def xN : String := "java/util/NoSuchElementException"
def xU : String := "java/lang/UnsupportedOperationException"
def xM : String := "java/lang/ArithmeticException"
section
variable {I : e_TI} {L : e_TL} {D : e_TD} {sc : e_TS} {χ : String → e_TI → e_TL → e_TD → Prop} {Ψ : e_TI → e_TL → e_TD → Prop}
theorem s_checkCell {x : Int32} (h1 : ∀ c, c < 63 → x = Int32.ofNat c → Ψ I L D) (h0 : iC x = false → χ xI I L D) : e_M 60 [.int x] (S0 I L D sc) (e_xV sc Ψ χ) := by
  refine vC_checkCell ⟨fun h => h0 (iC_neg h), fun h => ⟨fun h2 => ?_, fun h2 => h0 (iC_big h2)⟩⟩
  obtain ⟨c, hc, e⟩ := o_rng2 (n := 63) h h2
  exact h1 c hc e
theorem s_checkSide {x : Int32} (h1 : ∀ c, c ≤ 1 → x = Int32.ofNat c → Ψ I L D) (h0 : iS x = false → χ xI I L D) : e_M 66 [.int x] (S0 I L D sc) (e_xV sc Ψ χ) := by
  refine vC_checkSide ⟨fun h => h0 (iS_neg h), fun h => ⟨fun h2 => ?_, fun h2 => h0 (iS_big h2)⟩⟩
  obtain ⟨c, hc, e⟩ := o_rng2 (n := 2) h h2
  exact h1 c (Nat.le_of_lt_succ hc) e
theorem s_checkUnit {s : Nat → Int32} (h : GR I L s) {x : Int32} (h1 : ∀ u, x = Int32.ofNat u → gU s u = true → Ψ I L D) (h0 : iU s x = false → χ xI I L D) : e_M 96 [.ref 0, .int x] (S0 I L D sc) (e_xV sc Ψ χ) := by
  refine vC_checkUnit (s_exists h (fun u e hu => bx_t (by decide) (h1 u e hu)) (fun hno => bx_f (by decide) (h0 ?_)))
  rw [Bool.eq_false_iff]
  intro hi
  obtain ⟨u, hu, e, hg⟩ := iU_ex hi
  rw [hno u hu e] at hg
  cases hg
theorem s_oneIf {Ψ : Int32 → e_TI → e_TL → e_TD → Prop} {b : Bool} (H : Ψ (e_b b) I L D) : e_M 72 [.int (e_b b)] (S0 I L D sc) (e_rI sc Ψ) := by
  refine vC_oneIf (bx_b (fun h => ?_) (fun h => ?_)) <;> (rw [h] at H; exact H)
end
