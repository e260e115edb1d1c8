/-! contracts by the kind of the answer; loops -/
abbrev e_TI : Type := Nat → Nat → Int32
abbrev e_TL : Type := Nat → Nat → Int64
abbrev e_TD : Type := Nat → Nat → UInt64
abbrev e_TS : Type := Nat × (Nat → Int32)
/-- the bytes of the texts outside -/
abbrev e_xb (a i : Nat) : Int32 := (e_sbyt.getD (a - 3) []).getD i 0
section
variable (sc : e_TS)
def e_rV (Ψ : e_TI → e_TL → e_TD → Prop) : e_O → e_H → Prop := fun o h => ∃ I L D, o = .inl none ∧ h = S0 I L D sc ∧ Ψ I L D
def e_rI (Ψ : Int32 → e_TI → e_TL → e_TD → Prop) : e_O → e_H → Prop := fun o h => ∃ x I L D, o = .inl (some (.int x)) ∧ h = S0 I L D sc ∧ Ψ x I L D
def e_rL (Ψ : Int64 → e_TI → e_TL → e_TD → Prop) : e_O → e_H → Prop := fun o h => ∃ x I L D, o = .inl (some (.long x)) ∧ h = S0 I L D sc ∧ Ψ x I L D
def e_rD (Ψ : UInt64 → e_TI → e_TL → e_TD → Prop) : e_O → e_H → Prop := fun o h => ∃ x I L D, o = .inl (some (.double x)) ∧ h = S0 I L D sc ∧ Ψ x I L D
def e_rK (Ψ : Nat → e_TI → e_TL → e_TD → Prop) : e_O → e_H → Prop := fun o h => ∃ j I L D, (j = 38 ∨ j = 50 ∨ j = 62 ∨ j = 74 ∨ j = 86 ∨ j = 98 ∨ j = 110 ∨ j = 122) ∧ o = .inl (some (.ref j)) ∧ h = S0 I L D sc ∧ Ψ j I L D
def e_rT (χ : String → e_TI → e_TL → e_TD → Prop) : e_O → e_H → Prop := fun o h => ∃ E I L D, o = .inr E ∧ h = S0 I L D sc ∧ χ E I L D
def e_xV (Ψ : e_TI → e_TL → e_TD → Prop) (χ : String → e_TI → e_TL → e_TD → Prop) : e_O → e_H → Prop := fun o h => e_rV sc Ψ o h ∨ e_rT sc χ o h
def e_xI (Ψ : Int32 → e_TI → e_TL → e_TD → Prop) (χ : String → e_TI → e_TL → e_TD → Prop) : e_O → e_H → Prop := fun o h => e_rI sc Ψ o h ∨ e_rT sc χ o h
def e_xL (Ψ : Int64 → e_TI → e_TL → e_TD → Prop) (χ : String → e_TI → e_TL → e_TD → Prop) : e_O → e_H → Prop := fun o h => e_rL sc Ψ o h ∨ e_rT sc χ o h
def e_xD (Ψ : UInt64 → e_TI → e_TL → e_TD → Prop) (χ : String → e_TI → e_TL → e_TD → Prop) : e_O → e_H → Prop := fun o h => e_rD sc Ψ o h ∨ e_rT sc χ o h
end
section
variable {sc : e_TS} {I : e_TI} {L : e_TL} {D : e_TD} {χ : String → e_TI → e_TL → e_TD → Prop} {E : String}
theorem e_rVi {Ψ : e_TI → e_TL → e_TD → Prop} (H : Ψ I L D) : e_rV sc Ψ (.inl none) (S0 I L D sc) := ⟨_, _, _, rfl, rfl, H⟩
theorem e_rIi {Ψ : Int32 → e_TI → e_TL → e_TD → Prop} {x : Int32} (H : Ψ x I L D) : e_rI sc Ψ (.inl (some (.int x))) (S0 I L D sc) := ⟨_, _, _, _, rfl, rfl, H⟩
theorem e_rLi {Ψ : Int64 → e_TI → e_TL → e_TD → Prop} {x : Int64} (H : Ψ x I L D) : e_rL sc Ψ (.inl (some (.long x))) (S0 I L D sc) := ⟨_, _, _, _, rfl, rfl, H⟩
theorem e_rDi {Ψ : UInt64 → e_TI → e_TL → e_TD → Prop} {x : UInt64} (H : Ψ x I L D) : e_rD sc Ψ (.inl (some (.double x))) (S0 I L D sc) := ⟨_, _, _, _, rfl, rfl, H⟩
theorem e_rKi {Ψ : Nat → e_TI → e_TL → e_TD → Prop} {j : Nat} (H : Ψ j I L D) (hj : (j = 38 ∨ j = 50 ∨ j = 62 ∨ j = 74 ∨ j = 86 ∨ j = 98 ∨ j = 110 ∨ j = 122) := by decide) : e_rK sc Ψ (.inl (some (.ref j))) (S0 I L D sc) := ⟨_, _, _, _, hj, rfl, rfl, H⟩
theorem e_xVi {Ψ : e_TI → e_TL → e_TD → Prop} (H : Ψ I L D) : e_xV sc Ψ χ (.inl none) (S0 I L D sc) := Or.inl (e_rVi H)
theorem e_xIi {Ψ : Int32 → e_TI → e_TL → e_TD → Prop} {x : Int32} (H : Ψ x I L D) : e_xI sc Ψ χ (.inl (some (.int x))) (S0 I L D sc) := Or.inl (e_rIi H)
theorem e_xLi {Ψ : Int64 → e_TI → e_TL → e_TD → Prop} {x : Int64} (H : Ψ x I L D) : e_xL sc Ψ χ (.inl (some (.long x))) (S0 I L D sc) := Or.inl (e_rLi H)
theorem e_xDi {Ψ : UInt64 → e_TI → e_TL → e_TD → Prop} {x : UInt64} (H : Ψ x I L D) : e_xD sc Ψ χ (.inl (some (.double x))) (S0 I L D sc) := Or.inl (e_rDi H)
theorem e_xVt {Ψ : e_TI → e_TL → e_TD → Prop} (H : χ E I L D) : e_xV sc Ψ χ (.inr E) (S0 I L D sc) := Or.inr ⟨_, _, _, _, rfl, rfl, H⟩
theorem e_xIt {Ψ : Int32 → e_TI → e_TL → e_TD → Prop} (H : χ E I L D) : e_xI sc Ψ χ (.inr E) (S0 I L D sc) := Or.inr ⟨_, _, _, _, rfl, rfl, H⟩
theorem e_xLt {Ψ : Int64 → e_TI → e_TL → e_TD → Prop} (H : χ E I L D) : e_xL sc Ψ χ (.inr E) (S0 I L D sc) := Or.inr ⟨_, _, _, _, rfl, rfl, H⟩
theorem e_xDt {Ψ : UInt64 → e_TI → e_TL → e_TD → Prop} (H : χ E I L D) : e_xD sc Ψ χ (.inr E) (S0 I L D sc) := Or.inr ⟨_, _, _, _, rfl, rfl, H⟩
end
section
variable {sc : e_TS} {Φ : e_O → e_H → Prop} {χ : String → e_TI → e_TL → e_TD → Prop}
theorem e_gV {Ψ : e_TI → e_TL → e_TD → Prop} (h : ∀ I L D, Ψ I L D → Φ (.inl none) (S0 I L D sc)) : ∀ o h', e_rV sc Ψ o h' → Φ o h' := by
  rintro _ _ ⟨I, L, D, rfl, rfl, H⟩
  exact h I L D H
theorem e_gI {Ψ : Int32 → e_TI → e_TL → e_TD → Prop} (h : ∀ x I L D, Ψ x I L D → Φ (.inl (some (.int x))) (S0 I L D sc)) : ∀ o h', e_rI sc Ψ o h' → Φ o h' := by
  rintro _ _ ⟨x, I, L, D, rfl, rfl, H⟩
  exact h x I L D H
theorem e_gL {Ψ : Int64 → e_TI → e_TL → e_TD → Prop} (h : ∀ x I L D, Ψ x I L D → Φ (.inl (some (.long x))) (S0 I L D sc)) : ∀ o h', e_rL sc Ψ o h' → Φ o h' := by
  rintro _ _ ⟨x, I, L, D, rfl, rfl, H⟩
  exact h x I L D H
theorem e_gD {Ψ : UInt64 → e_TI → e_TL → e_TD → Prop} (h : ∀ x I L D, Ψ x I L D → Φ (.inl (some (.double x))) (S0 I L D sc)) : ∀ o h', e_rD sc Ψ o h' → Φ o h' := by
  rintro _ _ ⟨x, I, L, D, rfl, rfl, H⟩
  exact h x I L D H
theorem e_gK {Ψ : Nat → e_TI → e_TL → e_TD → Prop} (h0 : ∀ I L D, Ψ 38 I L D → Φ (.inl (some (.ref 38))) (S0 I L D sc)) (h1 : ∀ I L D, Ψ 50 I L D → Φ (.inl (some (.ref 50))) (S0 I L D sc)) (h2 : ∀ I L D, Ψ 62 I L D → Φ (.inl (some (.ref 62))) (S0 I L D sc)) (h3 : ∀ I L D, Ψ 74 I L D → Φ (.inl (some (.ref 74))) (S0 I L D sc)) (h4 : ∀ I L D, Ψ 86 I L D → Φ (.inl (some (.ref 86))) (S0 I L D sc)) (h5 : ∀ I L D, Ψ 98 I L D → Φ (.inl (some (.ref 98))) (S0 I L D sc)) (h6 : ∀ I L D, Ψ 110 I L D → Φ (.inl (some (.ref 110))) (S0 I L D sc)) (h7 : ∀ I L D, Ψ 122 I L D → Φ (.inl (some (.ref 122))) (S0 I L D sc)) : ∀ o h', e_rK sc Ψ o h' → Φ o h' := by
  rintro _ _ ⟨j, I, L, D, hj, rfl, rfl, H⟩
  rcases hj with rfl | rfl | rfl | rfl | rfl | rfl | rfl | rfl
  · exact h0 I L D H
  · exact h1 I L D H
  · exact h2 I L D H
  · exact h3 I L D H
  · exact h4 I L D H
  · exact h5 I L D H
  · exact h6 I L D H
  · exact h7 I L D H
theorem e_gT (h : ∀ E I L D, χ E I L D → Φ (.inr E) (S0 I L D sc)) : ∀ o h', e_rT sc χ o h' → Φ o h' := by
  rintro _ _ ⟨x, I, L, D, rfl, rfl, H⟩
  exact h x I L D H
theorem e_yV {Ψ : e_TI → e_TL → e_TD → Prop} (h : ∀ I L D, Ψ I L D → Φ (.inl none) (S0 I L D sc)) (h2 : ∀ E I L D, χ E I L D → Φ (.inr E) (S0 I L D sc)) : ∀ o h', e_xV sc Ψ χ o h' → Φ o h' := fun o h' hq => hq.elim (e_gV h o h') (e_gT h2 o h')
theorem e_yI {Ψ : Int32 → e_TI → e_TL → e_TD → Prop} (h : ∀ x I L D, Ψ x I L D → Φ (.inl (some (.int x))) (S0 I L D sc)) (h2 : ∀ E I L D, χ E I L D → Φ (.inr E) (S0 I L D sc)) : ∀ o h', e_xI sc Ψ χ o h' → Φ o h' := fun o h' hq => hq.elim (e_gI h o h') (e_gT h2 o h')
theorem e_yL {Ψ : Int64 → e_TI → e_TL → e_TD → Prop} (h : ∀ x I L D, Ψ x I L D → Φ (.inl (some (.long x))) (S0 I L D sc)) (h2 : ∀ E I L D, χ E I L D → Φ (.inr E) (S0 I L D sc)) : ∀ o h', e_xL sc Ψ χ o h' → Φ o h' := fun o h' hq => hq.elim (e_gL h o h') (e_gT h2 o h')
theorem e_yD {Ψ : UInt64 → e_TI → e_TL → e_TD → Prop} (h : ∀ x I L D, Ψ x I L D → Φ (.inl (some (.double x))) (S0 I L D sc)) (h2 : ∀ E I L D, χ E I L D → Φ (.inr E) (S0 I L D sc)) : ∀ o h', e_xD sc Ψ χ o h' → Φ o h' := fun o h' hq => hq.elim (e_gD h o h') (e_gT h2 o h')
end
def e_Sb (l' l : List (Option Value)) : Prop := l'.length = l.length ∧ ∀ (i : Nat) (v : Value), l'[i]? = some (some v) → l[i]? = some (some v)
theorem e_Wp.sub {k pc : Nat} {loc loc' : List (Option Value)} {st : List Value} {h : e_H} {bc bs : Nat} {Q : e_O → e_H → Prop} (hs : e_Sb loc' loc) (H : e_Wp k pc loc' st h bc bs Q) : e_Wp k pc loc st h bc bs Q := H.locs hs.1 hs.2
theorem e_sn : e_Sb [] [] := ⟨rfl, fun _ _ h => h⟩
theorem e_sk {a : Option Value} {l' l : List (Option Value)} (h : e_Sb l' l) : e_Sb (a :: l') (a :: l) := by
  refine ⟨congrArg (· + 1) h.1, fun i v h2 => ?_⟩
  cases i with
  | zero => exact h2
  | succ i => exact h.2 i v h2
theorem e_sd {a : Option Value} {l' l : List (Option Value)} (h : e_Sb l' l) : e_Sb (none :: l') (a :: l) := by
  refine ⟨congrArg (· + 1) h.1, fun i v h2 => ?_⟩
  cases i with
  | zero => cases h2
  | succ i => exact h.2 i v h2
theorem e_downInd {G : Nat → Prop} (N : Nat) (hs : ∀ i, i < N → G (i + 1) → G i) (hN : G N) : ∀ i, i ≤ N → G i := by
  have h : ∀ k, k ≤ N → G (N - k) := by
    intro k
    induction k with
    | zero => intro _; exact hN
    | succ k ih =>
      intro hk
      have := ih (by omega)
      rw [show N - k = N - (k + 1) + 1 by omega] at this
      exact hs _ (by omega) this
  intro i hi
  have := h (N - i) (by omega)
  rwa [show N - (N - i) = i by omega] at this
