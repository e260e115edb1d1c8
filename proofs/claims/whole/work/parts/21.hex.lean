def lst1 (m1 m2 ev od m3 : Nat → Bool) (i : Nat) : List (Bool × Nat) :=
  [(decide (1 + i < 64) && m1 (1 + i) && m3 i, 1 + i), (decide (1 ≤ i) && m2 (i - 1) && m3 i, i - 1),
   (decide (9 ≤ i) && m3 i, i - 9), (decide (9 ≤ i) && decide (1 + (i - 9) < 64) && m1 (1 + (i - 9)) && ev (i - 9) && m3 i, 1 + (i - 9)),
   (decide (9 ≤ i) && decide (1 ≤ i - 9) && m2 (i - 9 - 1) && od (i - 9) && m3 i, i - 9 - 1),
   (decide (9 + i < 64) && m3 i, 9 + i), (decide (9 + i < 64) && decide (1 + (9 + i) < 64) && m1 (1 + (9 + i)) && ev (9 + i) && m3 i, 1 + (9 + i)),
   (decide (9 + i < 64) && decide (1 ≤ 9 + i) && m2 (9 + i - 1) && od (9 + i) && m3 i, 9 + i - 1)]
def mkb (x : Int64) (i : Nat) : Bool := x.toBitVec.getLsbD i
theorem lst1_ok : ∀ i : Fin 63, (((lst1 (mkb (-18049651735527938)) (mkb (-4620710844295151873)) (mkb 9205392754131862015) (mkb (-9205392754131862016)) (mkb 9223372036854775807) i).all fun q => !q.1 || q.2 == 63 || (decide (q.2 < 63) && (List.range 6).any fun d => nb i d == some q.2)))
   && (((List.range 6).all fun d => match nb i d with | none => true | some a => (lst1 (mkb (-18049651735527938)) (mkb (-4620710844295151873)) (mkb 9205392754131862015) (mkb (-9205392754131862016)) (mkb 9223372036854775807) i).any fun q => q.1 && q.2 == a)) = true := by decide +kernel
theorem clAro_sL (p : Nat → Bool) (h63 : p 63 = false) : clAro (sL p) = sL (aro p) := by
  unfold clAro
  rw [sL_of (-18049651735527938), sL_of (-4620710844295151873), sL_of 9205392754131862015, sL_of (-9205392754131862016), sL_of 9223372036854775807]
  simp only [sL_and, sL_or, sL_shr _ 1 1 (by decide +kernel) (by decide +kernel), sL_shl _ 1 1 (by decide +kernel), sL_shr _ 9 9 (by decide +kernel) (by decide +kernel), sL_shl _ 9 9 (by decide +kernel)]
  apply sL_congr
  intro i hi
  by_cases hi63 : i = 63
  · subst hi63
    have : (9223372036854775807 : Int64).toBitVec.getLsbD 63 = false := by decide +kernel
    rw [this]
    simp [aro]
  have h := lst1_ok ⟨i, by omega⟩
  have hl : ∀ m1 m2 ev od m3 : Nat → Bool, (((((decide (1 + i < 64) && (p (1 + i) && m1 (1 + i)) || decide (1 ≤ i) && (p (i - 1) && m2 (i - 1))) || decide (9 ≤ i) && ((p (i - 9) || decide (1 + (i - 9) < 64) && (p (1 + (i - 9)) && m1 (1 + (i - 9))) && ev (i - 9)) || decide (1 ≤ i - 9) && (p (i - 9 - 1) && m2 (i - 9 - 1)) && od (i - 9))) || decide (9 + i < 64) && ((p (9 + i) || decide (1 + (9 + i) < 64) && (p (1 + (9 + i)) && m1 (1 + (9 + i))) && ev (9 + i)) || decide (1 ≤ 9 + i) && (p (9 + i - 1) && m2 (9 + i - 1)) && od (9 + i)))) && m3 i) = ((lst1 m1 m2 ev od m3 i).any fun q => q.1 && p q.2) := by
    intro m1 m2 ev od m3
    unfold lst1
    simp only [List.any_cons, List.any_nil, Bool.or_false]
    cases m3 i
    · simp
    · simp only [Bool.and_true]
      simp only [Bool.and_or_distrib_left, Bool.or_assoc, Bool.and_assoc, Bool.and_comm, Bool.and_left_comm]
  refine (hl (mkb _) (mkb _) (mkb _) (mkb _) (mkb _)).trans ?_
  rw [Bool.and_eq_true] at h
  rw [aro_dir (by omega), Bool.eq_iff_iff, List.any_eq_true, List.any_eq_true]
  constructor
  · rintro ⟨q, hq, h2⟩
    rw [Bool.and_eq_true] at h2
    have := List.all_eq_true.mp h.1 q hq
    rw [h2.1] at this
    simp only [Bool.not_true, Bool.false_or, Bool.or_eq_true, Bool.and_eq_true] at this
    rcases this with h4 | this
    · rw [beq_iff_eq.mp h4, h63] at h2
      cases h2.2
    obtain ⟨d, hd, h3⟩ := List.any_eq_true.mp this.2
    refine ⟨d, hd, ?_⟩
    rw [beq_iff_eq.mp h3]
    exact h2.2
  · rintro ⟨d, hd, h2⟩
    have := List.all_eq_true.mp (of_decide_eq_true h.2) d hd
    split at h2
    · rename_i a ha
      rw [ha] at this
      obtain ⟨q, hq, h3⟩ := List.any_eq_true.mp this
      rw [Bool.and_eq_true] at h3
      refine ⟨q, hq, ?_⟩
      rw [h3.1, beq_iff_eq.mp h3.2, h2]
      rfl
    · cases h2
/-! distances -/
def slt (c : Nat) : Int := (c % 9 : Nat) - ((c / 9 / 2 : Nat) : Int)
def dst (a b : Nat) : Nat := max (((b / 9 : Nat) : Int) - (a / 9 : Nat) + (slt b - slt a)).natAbs (max (((b / 9 : Nat) : Int) - (a / 9 : Nat)).natAbs (slt b - slt a).natAbs)
theorem dst_tab : ∀ a : Fin 63, ∀ b : Fin 63, ((dst a b == 0) == (a.1 == b.1)) && ((List.range 6).all fun d => match nb b d with | none => true | some c => decide (dst a c ≤ dst a b + 1)) && (a.1 == b.1 || (List.range 6).any fun d => match nb b d with | none => false | some c => dst a c + 1 == dst a b) = true := by decide +kernel
theorem dst_le14 : ∀ a : Fin 63, ∀ b : Fin 63, dst a b ≤ 14 := by decide +kernel
theorem dst_adj : ∀ a : Fin 63, ∀ b : Fin 63, adj a b = (dst a b == 1) := by decide +kernel
theorem dst_symm : ∀ a : Fin 63, ∀ b : Fin 63, dst a b = dst b a := by decide +kernel
/-! balls around a cell -/
theorem nb_adj {a b : Nat} (d : Nat) (hd : d < 6) (h : nb a d = some b) : adj a b = true := by
  unfold adj
  rw [List.any_eq_true]
  exact ⟨d, List.mem_range.mpr hd, by simp [h]⟩
theorem adj_nb {a b : Nat} (h : adj a b = true) : ∃ d, d < 6 ∧ nb a d = some b := by
  unfold adj at h
  rw [List.any_eq_true] at h
  obtain ⟨d, hd, h⟩ := h
  exact ⟨d, List.mem_range.mp hd, beq_iff_eq.mp h⟩
theorem adj_symm {a b : Nat} (ha : a < 63) (hb : b < 63) : adj a b = adj b a := adj_symm63 ⟨a, ha⟩ ⟨b, hb⟩
theorem dst_zero {a b : Nat} (ha : a < 63) (hb : b < 63) : dst a b = 0 ↔ a = b := by
  have h := dst_tab ⟨a, ha⟩ ⟨b, hb⟩
  simp only [Bool.and_eq_true, beq_iff_eq] at h
  have h1 := h.1.1
  rw [Bool.eq_iff_iff] at h1
  simpa using h1
theorem dst_step {a b c : Nat} (ha : a < 63) (hb : b < 63) (h : adj b c = true) : dst a c ≤ dst a b + 1 := by
  have t := dst_tab ⟨a, ha⟩ ⟨b, hb⟩
  simp only [Bool.and_eq_true, beq_iff_eq] at t
  obtain ⟨d, hd, h⟩ := adj_nb h
  have := List.all_eq_true.mp t.1.2 d (List.mem_range.mpr hd)
  simp only [h] at this
  exact of_decide_eq_true this
theorem dst_back {a b : Nat} (ha : a < 63) (hb : b < 63) (hab : a ≠ b) : ∃ c, c < 63 ∧ adj c b = true ∧ dst a c + 1 = dst a b := by
  have t := dst_tab ⟨a, ha⟩ ⟨b, hb⟩
  simp only [Bool.and_eq_true, beq_iff_eq] at t
  have t := t.2
  simp only [Bool.or_eq_true, beq_iff_eq, hab, false_or] at t
  obtain ⟨d, hd, h⟩ := List.any_eq_true.mp (of_decide_eq_true t)
  rw [List.mem_range] at hd
  split at h
  · cases h
  · rename_i c hc
    have hc63 := nb_lt ⟨b, hb⟩ ⟨d, hd⟩ c hc
    exact ⟨c, hc63, by rw [adj_symm hc63 hb]; exact nb_adj d hd hc, beq_iff_eq.mp h⟩
/-- the cells at most n steps away -/
def bal (a n : Nat) (b : Nat) : Bool := decide (b < 63) && decide (dst a b ≤ n)
theorem bal_zero {a : Nat} (ha : a < 63) : ∀ b, bal a 0 b = (b == a) := by
  intro b
  unfold bal
  rw [Bool.eq_iff_iff, Bool.and_eq_true, decide_eq_true_eq, decide_eq_true_eq, beq_iff_eq]
  constructor
  · rintro ⟨hb, h⟩
    exact ((dst_zero ha hb).mp (Nat.le_zero.mp h)).symm
  · rintro rfl
    exact ⟨ha, Nat.le_of_eq ((dst_zero ha ha).mpr rfl)⟩
theorem bal_succ {a : Nat} (ha : a < 63) (n b : Nat) : bal a (n + 1) b = (bal a n b || aro (bal a n) b) := by
  rw [Bool.eq_iff_iff, Bool.or_eq_true, aro_true]
  unfold bal
  simp only [Bool.and_eq_true, decide_eq_true_eq]
  constructor
  · rintro ⟨hb, h⟩
    by_cases h2 : dst a b ≤ n
    · exact Or.inl ⟨hb, h2⟩
    · have hab : a ≠ b := fun h3 => h2 (by rw [(dst_zero ha hb).mpr h3]; exact Nat.zero_le _)
      obtain ⟨c, hc, hcb, hd⟩ := dst_back ha hb hab
      exact Or.inr ⟨hb, c, hc, ⟨hc, by omega⟩, hcb⟩
  · rintro (⟨hb, h⟩ | ⟨hb, c, hc, ⟨_, h⟩, hcb⟩)
    · exact ⟨hb, by omega⟩
    · exact ⟨hb, Nat.le_trans (dst_step ha hc hcb) (by omega)⟩
