/-! costs round by round; ways -/
section
variable {fi op sp ba rd : Nat → Bool} {pr : Nat → Nat}
theorem fL_bf {FAR : Nat} (s : Nat → Nat) (h1 : ∀ c, c < 63 → s c < FAR → Wk fi (fst_ fi op sp ba) (fw_ rd pr) c (s c)) (h2 : ∀ c, fi c = true → s c = 0)
    (h3 : ∀ a b, (fst_ fi op sp ba) a b = true → s a < FAR → s b ≤ s a + (fw_ rd pr) a b) (hF : 1000 ≤ FAR)
    (hp : ∀ c, c < 63 → op c = true → 1 ≤ pr c ∧ pr c ≤ 6) (hf : ∀ c, fi c = true → c < 63) {c : Nat} (hc : c < 63) (k : Nat) : fL fi op sp ba rd pr c k ↔ s c = k ∧ k < FAR := by
  have hw : ∀ a b, (fst_ fi op sp ba) a b = true → 1 ≤ (fw_ rd pr) a b ∧ (fw_ rd pr) a b ≤ 6 := by
    intro a b h
    unfold fst_ at h
    simp only [Bool.and_eq_true, decide_eq_true_eq] at h
    have := hp b h.1.1.1.2 h.1.1.2
    unfold fw_
    split <;> omega
  have hst : ∀ a b, (fst_ fi op sp ba) a b = true → a < 63 ∧ b < 63 := by
    intro a b h
    unfold fst_ at h
    simp only [Bool.and_eq_true, decide_eq_true_eq] at h
    exact ⟨h.1.1.1.1.1, h.1.1.1.2⟩
  have hb : ∀ c k, fL fi op sp ba rd pr c k → k ≤ 372 := fun c k h => lst_bound hw hf hst h
  have key : ∀ k c, fL fi op sp ba rd pr c k → s c ≤ k := by
    intro k
    induction k using Nat.strongRecOn with
    | ind k ih =>
      intro c h
      by_cases hk : k = 0
      · subst hk
        obtain ⟨h4, _⟩ := h
        rcases h4.inv with ⟨h, _⟩ | ⟨a, j, _, hs, _⟩
        · rw [h2 c h]; exact Nat.zero_le _
        · have := hw _ _ hs; omega
      · obtain ⟨a, j, ha, hs, e⟩ := Lst.pred h hk
        have hwa := hw _ _ hs
        have h5 := ih j (by omega) a ha
        have := hb a j ha
        have := h3 a c hs (by omega)
        omega
  constructor
  · intro h
    have h4 := key k c h
    have h5 := hb c k h
    have h6 := h.2 _ (h1 c hc (by omega))
    exact ⟨by omega, by omega⟩
  · rintro ⟨rfl, hk⟩
    obtain ⟨j, hj, hl⟩ := (h1 c hc hk).least
    have := key j c hl
    have : j = s c := by omega
    rw [this] at hl
    exact hl
end
