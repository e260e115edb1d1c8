/-! least costs -/
def WkN (f : Nat → Bool) (st : Nat → Nat → Bool) (w : Nat → Nat → Nat) : Nat → Nat → Nat → Prop
  | 0, c, k => f c = true ∧ k = 0
  | n + 1, c, k => ∃ a j, WkN f st w n a j ∧ st a c = true ∧ k = j + w a c
def Wk (f : Nat → Bool) (st : Nat → Nat → Bool) (w : Nat → Nat → Nat) (c k : Nat) : Prop := ∃ n, WkN f st w n c k
theorem Wk.base {f : Nat → Bool} {st : Nat → Nat → Bool} {w : Nat → Nat → Nat} (c : Nat) (h : f c = true) : Wk f st w c 0 := ⟨0, h, rfl⟩
theorem Wk.step {f : Nat → Bool} {st : Nat → Nat → Bool} {w : Nat → Nat → Nat} (a b k : Nat) (h : Wk f st w a k) (h2 : st a b = true) : Wk f st w b (k + w a b) := by
  obtain ⟨n, h⟩ := h
  exact ⟨n + 1, a, k, h, h2, rfl⟩
theorem Wk.inv {f : Nat → Bool} {st : Nat → Nat → Bool} {w : Nat → Nat → Nat} {c k : Nat} (h : Wk f st w c k) : (f c = true ∧ k = 0) ∨ ∃ a j, Wk f st w a j ∧ st a c = true ∧ k = j + w a c := by
  obtain ⟨n, h⟩ := h
  cases n with
  | zero => exact Or.inl h
  | succ n =>
    obtain ⟨a, j, h1, h2, h3⟩ := h
    exact Or.inr ⟨a, j, ⟨n, h1⟩, h2, h3⟩
/-- the least cost of a cell is k -/
def Lst (f : Nat → Bool) (st : Nat → Nat → Bool) (w : Nat → Nat → Nat) (c k : Nat) : Prop := Wk f st w c k ∧ ∀ j, Wk f st w c j → k ≤ j
section
variable {f : Nat → Bool} {st : Nat → Nat → Bool} {w : Nat → Nat → Nat}
theorem Wk.least {c k : Nat} (h : Wk f st w c k) : ∃ j, j ≤ k ∧ Lst f st w c j := by
  induction k using Nat.strongRecOn with
  | ind k ih =>
    by_cases h2 : ∃ j, j < k ∧ Wk f st w c j
    · obtain ⟨j, hj, h3⟩ := h2
      obtain ⟨i, hi, h4⟩ := ih j hj h3
      exact ⟨i, by omega, h4⟩
    · refine ⟨k, Nat.le_refl _, h, fun j hj => ?_⟩
      exact Nat.le_of_not_lt fun h3 => h2 ⟨j, h3, hj⟩
theorem Lst.uniq {c j k : Nat} (h : Lst f st w c j) (h2 : Lst f st w c k) : j = k := Nat.le_antisymm (h.2 k h2.1) (h2.2 j h.1)
/-- the last step of a least way -/
theorem Lst.pred {c k : Nat} (h : Lst f st w c k) (hk : k ≠ 0) : ∃ a j, Lst f st w a j ∧ st a c = true ∧ k = j + w a c := by
  obtain ⟨h1, h2⟩ := h
  rcases h1.inv with ⟨_, h0⟩ | ⟨a, j, ha, hst, rfl⟩
  · exact absurd h0 hk
  · obtain ⟨i, hi, hl⟩ := ha.least
    have := h2 _ (Wk.step a c i hl.1 hst)
    have hij : i = j := by omega
    subst hij
    exact ⟨a, i, hl, hst, rfl⟩
theorem countP_lt {p q : Nat → Bool} {l : List Nat} (h : ∀ a, p a = true → q a = true) {a : Nat} (ha : a ∈ l) (hq : q a = true) (hp : p a = false) : l.countP p + 1 ≤ l.countP q := by
  induction l with
  | nil => cases ha
  | cons b l ih =>
    have hle : l.countP p ≤ l.countP q := List.countP_mono_left (fun x _ => h x)
    rw [List.countP_cons, List.countP_cons]
    rcases List.mem_cons.mp ha with rfl | ha
    · simp [hq, hp]
      omega
    · have := ih ha
      by_cases hb : p b = true
      · simp [hb, h b hb]
        omega
      · simp [hb]
        split <;> omega
theorem lst_bound (hw : ∀ a b, st a b = true → 1 ≤ w a b ∧ w a b ≤ 6) (hf : ∀ c, f c = true → c < 63) (hst : ∀ a b, st a b = true → a < 63 ∧ b < 63) {c k : Nat} (h : Lst f st w c k) : k ≤ 372 := by
  classical
  have hc : ∀ c k, Lst f st w c k → c < 63 := by
    intro c k h
    rcases h.1.inv with ⟨h7, _⟩ | ⟨a, j, _, h7, _⟩
    · exact hf _ h7
    · exact (hst _ _ h7).2
  have key : ∀ k c, Lst f st w c k → k ≤ 6 * (List.range 63).countP fun c => decide (∃ j, j < k ∧ Lst f st w c j) := by
    intro k
    induction k using Nat.strongRecOn with
    | ind k ih =>
      intro c h
      by_cases hk : k = 0
      · omega
      · obtain ⟨a, j, ha, hs, e⟩ := h.pred hk
        have hwa := hw _ _ hs
        have h1 := ih j (by omega) a ha
        have h2 : (List.range 63).countP (fun c => decide (∃ i, i < j ∧ Lst f st w c i)) + 1 ≤ (List.range 63).countP fun c => decide (∃ i, i < k ∧ Lst f st w c i) := by
          apply countP_lt (a := a)
          · intro x hx
            obtain ⟨i, hi, h⟩ := of_decide_eq_true hx
            exact decide_eq_true ⟨i, by omega, h⟩
          · exact List.mem_range.mpr (hc a j ha)
          · exact decide_eq_true ⟨j, by omega, ha⟩
          · refine decide_eq_false ?_
            rintro ⟨i, hi, h⟩
            have := h.uniq ha
            omega
        omega
  have h1 := key k c h
  have h2 : (List.range 63).countP (fun c => decide (∃ j, j < k ∧ Lst f st w c j)) + 1 ≤ (List.range 63).countP fun _ => true := by
    apply countP_lt (a := c)
    · intro _ _; rfl
    · exact List.mem_range.mpr (hc c k h)
    · rfl
    · refine decide_eq_false ?_
      rintro ⟨i, hi, h'⟩
      have := h'.uniq h
      omega
  have h3 : (List.range 63).countP (fun _ => true) = 63 := by decide +kernel
  omega
end
/-! the waves of the class -/
section
variable (fi op sp ba rd : Nat → Bool) (pr : Nat → Nat)
def fst_ (a b : Nat) : Bool := decide (a < 63) && adj a b && decide (b < 63) && op b && !sp a && !(fi a && ba b)
def fw_ (a b : Nat) : Nat := if rd a && rd b then 1 else pr b
/-- the least cost is k -/
def fL (c k : Nat) : Prop := Lst fi (fst_ fi op sp ba) (fw_ rd pr) c k
/-- one step into a cell at a price, as the class looks at it -/
def fin_ (p a c : Nat) : Bool := adj a c && (pr c == p || (p == 1 && rd a && rd c))
variable {fi op sp ba rd : Nat → Bool} {pr : Nat → Nat}
theorem fL_next (hp : ∀ c, c < 63 → op c = true → 1 ≤ pr c ∧ pr c ≤ 6) {k c : Nat} (hk : k ≠ 0) (hc : c < 63) :
    fL fi op sp ba rd pr c k ↔ (∃ p a, 1 ≤ p ∧ p ≤ 6 ∧ p ≤ k ∧ a < 63 ∧ fL fi op sp ba rd pr a (k - p) ∧ sp a = false ∧ fin_ rd pr p a c = true ∧ (k = p → ba c = false)) ∧ op c = true ∧ ¬ ∃ j, j < k ∧ fL fi op sp ba rd pr c j := by
  have hzero : ∀ a, fL fi op sp ba rd pr a 0 ↔ fi a = true := by
    intro a
    constructor
    · intro h
      rcases h with ⟨h1, _⟩
      rcases h1.inv with ⟨h, _⟩ | ⟨b, j, hb, hs, hz⟩
      · exact h
      · unfold fst_ at hs
        simp only [Bool.and_eq_true, decide_eq_true_eq] at hs
        have := hp a hs.1.1.1.2 hs.1.1.2
        unfold fw_ at hz
        split at hz <;> omega
    · intro h
      exact ⟨Wk.base a h, fun _ _ => Nat.zero_le _⟩
  constructor
  · intro h
    obtain ⟨a, j, ha, hs, e⟩ := Lst.pred h hk
    have hs0 := hs
    unfold fst_ at hs
    simp only [Bool.and_eq_true, decide_eq_true_eq, Bool.not_eq_true', Bool.and_eq_false_iff] at hs
    obtain ⟨⟨⟨⟨⟨ha63, hadj⟩, _⟩, ho⟩, hst⟩, hbar⟩ := hs
    have hpc := hp c hc ho
    refine ⟨⟨(fw_ rd pr) a c, a, ?_, ?_, by omega, ha63, ?_, hst, ?_, ?_⟩, ho, ?_⟩
    · unfold fw_; split <;> omega
    · unfold fw_; split <;> omega
    · rw [show k - (fw_ rd pr) a c = j by omega]; exact ha
    · unfold fin_ fw_
      split
      · rename_i hr
        rw [Bool.and_eq_true] at hr
        simp [hadj, hr.1, hr.2]
      · simp [hadj]
    · intro hkp
      have : j = 0 := by omega
      subst this
      rcases hbar with h1 | h1
      · rw [(hzero a).mp ha] at h1; cases h1
      · exact h1
    · rintro ⟨i, hi, h2⟩
      have := Lst.uniq h2 h
      omega
  · rintro ⟨⟨p, a, hp1, hp6, hpk, ha63, ha, hst, hin, hbar⟩, ho, hno⟩
    unfold fin_ at hin
    simp only [Bool.and_eq_true, Bool.or_eq_true, beq_iff_eq] at hin
    have hedge : (fst_ fi op sp ba) a c = true := by
      unfold fst_
      simp only [Bool.and_eq_true, decide_eq_true_eq, Bool.not_eq_true', Bool.and_eq_false_iff]
      refine ⟨⟨⟨⟨⟨ha63, hin.1⟩, hc⟩, ho⟩, hst⟩, ?_⟩
      by_cases hfa : fi a = true
      · have h0 := Lst.uniq ha ((hzero a).mpr hfa)
        exact Or.inr (hbar (by omega))
      · exact Or.inl (by simpa using hfa)
    have hwk : Wk fi (fst_ fi op sp ba) (fw_ rd pr) c (k - p + (fw_ rd pr) a c) := Wk.step a c _ ha.1 hedge
    have hle : (fw_ rd pr) a c ≤ p := by
      unfold fw_
      split
      · omega
      · rename_i hr
        rcases hin.2 with h | h
        · omega
        · exact absurd (by rw [Bool.and_eq_true]; exact ⟨h.1.2, h.2⟩) hr
    obtain ⟨i, hi, hl⟩ := hwk.least
    have hik : ¬ i < k := fun h => hno ⟨i, h, hl⟩
    have : i = k := by omega
    subst this
    exact hl
end
