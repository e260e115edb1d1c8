/-! the waves as the class builds them -/
theorem sL_ALL : (9223372036854775807 : Int64) = sL fun c => decide (c < 63) := by decide +kernel
section
variable (fi op sp ba rd nw : Nat → Bool) (pr : Nat → Nat)
/-- the cells whose least cost is k -/
noncomputable def fW (k c : Nat) : Bool := decide (c < 63) && decide (fC fi op sp ba rd pr c = k)
/-- cells to which a step of that price leads from a set -/
def fStp (p : Nat) (q : Nat → Bool) (c : Nat) : Bool := (aro q c && (decide (c < 63) && (nw c && pr c == p))) || (decide (p = 1) && (aro (fun a => q a && rd a) c && rd c))
noncomputable def fArr (k c : Nat) : Bool := (List.range 7).any fun p => decide (1 ≤ p) && (decide (p ≤ k) && (fStp rd nw pr p (fun a => fW fi op sp ba rd pr (k - p) a && !sp a) c && (if k = p then !ba c else decide (c < 63))))
noncomputable def fSet (k c : Nat) : Bool := (List.range k).any fun j => fW fi op sp ba rd pr j c
variable {fi op sp ba rd nw : Nat → Bool} {pr : Nat → Nat}
theorem fW63 (k : Nat) : fW fi op sp ba rd pr k 63 = false := by simp [fW]
theorem fW_iff {k c : Nat} (hk : k < 1000000) : fW fi op sp ba rd pr k c = true ↔ c < 63 ∧ fL fi op sp ba rd pr c k := by
  unfold fW
  rw [Bool.and_eq_true, decide_eq_true_eq, decide_eq_true_eq]
  constructor
  · rintro ⟨h1, h2⟩
    refine ⟨h1, ?_⟩
    rcases fC_cases fi op sp ba rd pr c with h | ⟨_, h⟩
    · rwa [h2] at h
    · omega
  · rintro ⟨h1, h2⟩
    exact ⟨h1, fC_some h2⟩
/-- the bits of a step against the mathematics -/
theorem fStp_iff {p c : Nat} {q : Nat → Bool} : fStp rd nw pr p q c = true → ∃ a, a < 63 ∧ q a = true ∧ fin_ rd pr p a c = true ∧ c < 63 := by
  intro h
  unfold fStp at h
  simp only [Bool.or_eq_true, Bool.and_eq_true, decide_eq_true_eq, beq_iff_eq] at h
  rcases h with ⟨h1, h2, h3, h4⟩ | ⟨h1, h2, h3⟩
  · obtain ⟨_, a, ha, hq, hadj⟩ := aro_true.mp h1
    exact ⟨a, ha, hq, by simp [fin_, hadj, h4], h2⟩
  · obtain ⟨hc, a, ha, hq, hadj⟩ := aro_true.mp h2
    rw [Bool.and_eq_true] at hq
    exact ⟨a, ha, hq.1, by simp [fin_, hadj, h1, hq.2, h3], hc⟩
theorem fStp_of {p c a : Nat} {q : Nat → Bool} (hc : c < 63) (hn : nw c = true) (ha : a < 63) (hq : q a = true) (hf : fin_ rd pr p a c = true) : fStp rd nw pr p q c = true := by
  unfold fin_ at hf
  simp only [Bool.and_eq_true, Bool.or_eq_true, beq_iff_eq] at hf
  unfold fStp
  simp only [Bool.or_eq_true, Bool.and_eq_true, decide_eq_true_eq, beq_iff_eq]
  rcases hf with ⟨h1, h2 | ⟨⟨h2, h3⟩, h4⟩⟩
  · exact Or.inl ⟨aro_true.mpr ⟨hc, a, ha, hq, h1⟩, hc, hn, h2⟩
  · exact Or.inr ⟨h2, aro_true.mpr ⟨hc, a, ha, by simp [hq, h3], h1⟩, h4⟩
theorem fSet_iff {k c : Nat} (hk : k ≤ 1000) : fSet fi op sp ba rd pr k c = true ↔ c < 63 ∧ ∃ j, j < k ∧ fL fi op sp ba rd pr c j := by
  unfold fSet
  rw [List.any_eq_true]
  constructor
  · rintro ⟨j, hj, h⟩
    rw [List.mem_range] at hj
    have := (fW_iff (by omega)).mp h
    exact ⟨this.1, j, hj, this.2⟩
  · rintro ⟨hc, j, hj, h⟩
    exact ⟨j, List.mem_range.mpr hj, (fW_iff (by omega)).mpr ⟨hc, h⟩⟩
theorem fW_next (hp : ∀ c, c < 63 → op c = true → 1 ≤ pr c ∧ pr c ≤ 6) (hn : ∀ c, op c = true → nw c = true) {k : Nat} (hk : 1 ≤ k) (hk2 : k ≤ 1000) (c : Nat) :
    ((fArr fi op sp ba rd nw pr k c && op c) && !fSet fi op sp ba rd pr k c) = fW fi op sp ba rd pr k c := by
  rw [Bool.eq_iff_iff]
  simp only [Bool.and_eq_true, Bool.not_eq_true', fW_iff (show k < 1000000 by omega)]
  constructor
  · rintro ⟨⟨h1, h2⟩, h3⟩
    unfold fArr at h1
    rw [List.any_eq_true] at h1
    obtain ⟨p, hp7, h1⟩ := h1
    rw [List.mem_range] at hp7
    simp only [Bool.and_eq_true, decide_eq_true_eq] at h1
    obtain ⟨h4, h5, h6, h7⟩ := h1
    obtain ⟨a, ha, hq, hf, hc⟩ := fStp_iff h6
    simp only [Bool.and_eq_true, Bool.not_eq_true'] at hq
    have h8 := (fW_iff (by omega)).mp hq.1
    refine ⟨hc, (fL_next hp (by omega) hc).mpr ⟨⟨p, a, h4, by omega, h5, ha, h8.2, hq.2, hf, fun e => ?_⟩, h2, fun hex => ?_⟩⟩
    · rw [if_pos e] at h7
      simpa using h7
    · rw [Bool.eq_false_iff] at h3
      exact h3 ((fSet_iff hk2).mpr ⟨hc, hex⟩)
  · rintro ⟨hc, h⟩
    obtain ⟨⟨p, a, h1, h2, h3, ha, h4, h5, h6, h7⟩, ho, hno⟩ := (fL_next hp (by omega) hc).mp h
    refine ⟨⟨?_, ho⟩, ?_⟩
    · unfold fArr
      rw [List.any_eq_true]
      refine ⟨p, List.mem_range.mpr (by omega), ?_⟩
      simp only [Bool.and_eq_true, decide_eq_true_eq]
      refine ⟨h1, h3, fStp_of hc (hn c ho) ha (by rw [(fW_iff (by omega)).mpr ⟨ha, h4⟩, h5]; rfl) h6, ?_⟩
      by_cases e : k = p
      · rw [if_pos e, h7 e]
        rfl
      · rw [if_neg e]
        exact decide_eq_true hc
    · rw [Bool.eq_false_iff]
      intro h8
      exact hno ((fSet_iff hk2).mp h8).2
theorem fW_zero (hp : ∀ c, c < 63 → op c = true → 1 ≤ pr c ∧ pr c ≤ 6) (hf : ∀ c, fi c = true → c < 63) (c : Nat) : fW fi op sp ba rd pr 0 c = fi c := by
  rw [Bool.eq_iff_iff, fW_iff (by omega)]
  constructor
  · rintro ⟨hc, h⟩
    rcases h.1.inv with ⟨h1, _⟩ | ⟨b, j, _, h2, h3⟩
    · exact h1
    · unfold fst_ at h2
      simp only [Bool.and_eq_true, decide_eq_true_eq] at h2
      have := hp c h2.1.1.1.2 h2.1.1.2
      unfold fw_ at h3
      split at h3 <;> omega
  · intro h
    exact ⟨hf c h, Wk.base c h, fun _ _ => Nat.zero_le _⟩
/-- a wave that isn't empty has one not far below -/
theorem fW_near (hp : ∀ c, c < 63 → op c = true → 1 ≤ pr c ∧ pr c ≤ 6) {k c : Nat} (hk : 1 ≤ k) (hk2 : k ≤ 1000) (h : fW fi op sp ba rd pr k c = true) : ∃ j a, j < k ∧ k ≤ j + 6 ∧ fW fi op sp ba rd pr j a = true := by
  obtain ⟨hc, h⟩ := (fW_iff (by omega)).mp h
  obtain ⟨⟨p, a, h1, h2, h3, ha, h4, _⟩, _⟩ := (fL_next hp (by omega) hc).mp h
  exact ⟨k - p, a, by omega, by omega, (fW_iff (by omega)).mpr ⟨ha, h4⟩⟩
theorem fC_le (hp : ∀ c, c < 63 → op c = true → 1 ≤ pr c ∧ pr c ≤ 6) (hf : ∀ c, fi c = true → c < 63) (c : Nat) : fC fi op sp ba rd pr c ≤ 372 ∨ fC fi op sp ba rd pr c = 1000000 := by
  rcases fC_cases fi op sp ba rd pr c with h | ⟨_, h⟩
  · left
    refine lst_bound (w := fw_ rd pr) (fun a b hs => ?_) hf (fun a b hs => ?_) h
    · unfold fst_ at hs
      simp only [Bool.and_eq_true, decide_eq_true_eq] at hs
      have := hp b hs.1.1.1.2 hs.1.1.2
      unfold fw_
      split <;> omega
    · unfold fst_ at hs
      simp only [Bool.and_eq_true, decide_eq_true_eq] at hs
      exact ⟨hs.1.1.1.1.1, hs.1.1.1.2⟩
  · exact Or.inr h
end
