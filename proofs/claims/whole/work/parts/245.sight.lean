/-! the class's sight is the walk of least length -/
theorem aro_congr {p q : Nat → Bool} (h : ∀ a, a < 63 → p a = q a) (c : Nat) : aro p c = aro q c := by
  rw [Bool.eq_iff_iff, aro_true, aro_true]
  constructor
  · rintro ⟨hc, a, ha, hp, h2⟩
    exact ⟨hc, a, ha, by rw [← h a ha]; exact hp, h2⟩
  · rintro ⟨hc, a, ha, hp, h2⟩
    exact ⟨hc, a, ha, by rw [h a ha]; exact hp, h2⟩
theorem fan_one (p : Nat → Bool) (a : Nat) : gFan p a 1 = aro (fun c => c == a) := rfl
theorem fan_two (p : Nat → Bool) (a k : Nat) : gFan p a (k + 2) = aro (fun c => gFan p a (k + 1) c && p c) := rfl
theorem fan_dst {p : Nat → Bool} {a : Nat} (ha : a < 63) : ∀ k b, gFan p a k b = true → b < 63 ∧ dst a b ≤ k
  | 0, b, h => by
    have : b = a := by simpa [gFan] using h
    subst this
    exact ⟨ha, Nat.le_of_eq ((dst_zero ha ha).mpr rfl)⟩
  | 1, b, h => by
    rw [fan_one, aro_true] at h
    obtain ⟨hb, c, hc, h1, h2⟩ := h
    have : c = a := beq_iff_eq.mp h1
    subst this
    have := dst_step hc hc h2
    rw [(dst_zero hc hc).mpr rfl] at this
    exact ⟨hb, this⟩
  | k + 2, b, h => by
    rw [fan_two, aro_true] at h
    obtain ⟨hb, c, hc, h1, h2⟩ := h
    rw [Bool.and_eq_true] at h1
    have h3 := fan_dst ha (k + 1) c h1.1
    exact ⟨hb, Nat.le_trans (dst_step ha hc h2) (Nat.succ_le_succ h3.2)⟩
/-- the class's front: the fresh cells of a step -/
def fro (p : Nat → Bool) (a : Nat) : Nat → Nat → Bool
  | 0 => fun c => c == a
  | k + 1 => fun b => aro (match k with | 0 => fun c => c == a | k + 1 => fun c => fro p a (k + 1) c && p c) b && !bal a k b
theorem fro_two (p : Nat → Bool) (a k b : Nat) : fro p a (k + 2) b = (aro (fun c => fro p a (k + 1) c && p c) b && !bal a (k + 1) b) := rfl
theorem fro_one (p : Nat → Bool) (a b : Nat) : fro p a 1 b = (aro (fun c => c == a) b && !bal a 0 b) := rfl
theorem fro_fan {p : Nat → Bool} {a : Nat} (ha : a < 63) : ∀ k b, fro p a (k + 1) b = (decide (dst a b = k + 1) && gFan p a (k + 1) b)
  | 0, b => by
    rw [fro_one, fan_one, Bool.eq_iff_iff]
    simp only [Bool.and_eq_true, Bool.not_eq_true', decide_eq_true_eq]
    constructor
    · rintro ⟨h1, h2⟩
      have h3 := fan_dst (p := p) ha 1 b (by rw [fan_one]; exact h1)
      refine ⟨?_, h1⟩
      have : ¬ dst a b ≤ 0 := fun h => by simp [bal, h3.1, h] at h2
      omega
    · rintro ⟨h1, h2⟩
      refine ⟨h2, ?_⟩
      unfold bal
      simp [h1]
  | k + 1, b => by
    rw [fro_two, fan_two, Bool.eq_iff_iff]
    simp only [Bool.and_eq_true, Bool.not_eq_true', decide_eq_true_eq, aro_true]
    constructor
    · rintro ⟨⟨hb, c, hc, ⟨h1, h2⟩, h3⟩, h4⟩
      rw [fro_fan ha k c, Bool.and_eq_true, decide_eq_true_eq] at h1
      have h5 := dst_step ha hc h3
      have : ¬ dst a b ≤ k + 1 := fun h => by simp [bal, hb, h] at h4
      exact ⟨by omega, hb, c, hc, ⟨h1.2, h2⟩, h3⟩
    · rintro ⟨h0, hb, c, hc, ⟨h1, h2⟩, h3⟩
      have h5 := dst_step ha hc h3
      have h6 := (fan_dst ha (k + 1) c h1).2
      refine ⟨⟨hb, c, hc, ⟨?_, h2⟩, h3⟩, ?_⟩
      · rw [fro_fan ha k c, Bool.and_eq_true, decide_eq_true_eq]
        exact ⟨by omega, h1⟩
      · unfold bal
        simp [h0]
theorem fan_congr {p q : Nat → Bool} {a : Nat} (h : ∀ c, c < 63 → p c = q c) : ∀ k b, gFan p a k b = gFan q a k b
  | 0, _ => rfl
  | 1, _ => rfl
  | k + 2, b => by
    rw [fan_two, fan_two]
    apply aro_congr
    intro c hc
    rw [fan_congr h (k + 1) c, h c hc]
