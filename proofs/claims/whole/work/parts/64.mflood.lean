/-! the reference: costs that fall until they stay -/
/-- one number of a row set -/
def fup (f : Nat → Nat) (r x : Nat) : Nat → Nat := fun c => if c = r then x else f c
def fsum (f : Nat → Nat) : Nat := ((List.range 63).map f).sum
theorem sum_fup (f : Nat → Nat) {r x : Nat} (hx : x < f r) : ∀ n, r < n → ((List.range n).map (fup f r x)).sum < ((List.range n).map f).sum := by
  have same : ∀ n, n ≤ r → ((List.range n).map (fup f r x)).sum = ((List.range n).map f).sum := by
    intro n
    induction n with
    | zero => exact fun _ => rfl
    | succ n ih =>
      intro hn
      rw [sum_s, sum_s, ih (by omega)]
      unfold fup
      rw [if_neg (by omega)]
  intro n
  induction n with
  | zero => exact fun h => absurd h (Nat.not_lt_zero _)
  | succ n ih =>
    intro hn
    rw [sum_s, sum_s]
    by_cases h : r = n
    · subst h
      rw [same r (Nat.le_refl _)]
      have : fup f r x r = x := by unfold fup; rw [if_pos rfl]
      omega
    · have := ih (by omega)
      have e : fup f r x n = f n := by unfold fup; rw [if_neg (by omega)]
      omega
section
variable {fi op sp ba rd : Nat → Bool} {pr : Nat → Nat}
def fJ (fi op sp ba rd : Nat → Bool) (pr : Nat → Nat) (f : Nat → Nat) : Prop := (∀ c, c < 63 → f c < 1000000 → Wk fi (fst_ fi op sp ba) (fw_ rd pr) c (f c)) ∧ (∀ c, fi c = true → f c = 0) ∧ (∀ c, c < 63 → f c ≤ 1000000)
theorem fJ_up {f : Nat → Nat} (h : fJ fi op sp ba rd pr f) {a r : Nat} (ha : a < 63) (hr : r < 63) (hf : f a < 1000000) (hs : fst_ fi op sp ba a r = true) (hl : f a + fw_ rd pr a r < f r) : fJ fi op sp ba rd pr (fup f r (f a + fw_ rd pr a r)) := by
  obtain ⟨h1, h2, h3⟩ := h
  have h3r := h3 r hr
  refine ⟨fun c hc => ?_, fun c hc => ?_, fun c hc => ?_⟩
  · unfold fup
    by_cases e : c = r
    · subst e
      rw [if_pos rfl]
      intro _
      exact Wk.step a c _ (h1 a ha hf) hs
    · rw [if_neg e]
      exact h1 c hc
  · unfold fup
    by_cases e : c = r
    · subst e
      have := h2 c hc
      omega
    · rw [if_neg e]
      exact h2 c hc
  · unfold fup
    by_cases e : c = r
    · rw [if_pos e]
      omega
    · rw [if_neg e]
      exact h3 c hc
theorem fst_nb {a b : Nat} (h : fst_ fi op sp ba a b = true) : a < 63 ∧ b < 63 ∧ ∃ d, d < 6 ∧ nb a d = some b := by
  unfold fst_ at h
  simp only [Bool.and_eq_true, decide_eq_true_eq] at h
  exact ⟨h.1.1.1.1.1, h.1.1.1.2, adj_nb h.1.1.1.1.2⟩
theorem fst_op {a b : Nat} (h : fst_ fi op sp ba a b = true) : op b = true := by
  unfold fst_ at h
  simp only [Bool.and_eq_true, decide_eq_true_eq] at h
  exact h.1.1.2
theorem relax {G1 : (Nat → Nat) → Bool → Prop} {G2 : (Nat → Nat) → Bool → Nat → Prop} {G3 : (Nat → Nat) → Bool → Nat → Nat → Prop}
    (hp : ∀ c, c < 63 → op c = true → 1 ≤ pr c ∧ pr c ≤ 6) (hf : ∀ c, fi c = true → c < 63)
    (h1 : ∀ f, (∀ c, c < 63 → f c = fC fi op sp ba rd pr c) → G1 f false)
    (h2 : ∀ f, fJ fi op sp ba rd pr f → G2 f false 0 → G1 f true)
    (h3 : ∀ f b, fJ fi op sp ba rd pr f → G1 f b → G2 f b 63)
    (h4 : ∀ f b a, a < 63 → fJ fi op sp ba rd pr f → G3 f b a 0 → G2 f b a)
    (h5 : ∀ f b a, a < 63 → fJ fi op sp ba rd pr f → G2 f b (a + 1) → G3 f b a 6)
    (h6 : ∀ f b a d, a < 63 → d < 6 → fJ fi op sp ba rd pr f → (1000000 ≤ f a → G2 f b (a + 1)) → (f a < 1000000 → (∀ r, nb a d = some r → fst_ fi op sp ba a r = true → f r ≤ f a + fw_ rd pr a r) → G3 f b a (d + 1)) → (∀ r, f a < 1000000 → nb a d = some r → r < 63 → fst_ fi op sp ba a r = true → f a + fw_ rd pr a r < f r → G3 (fup f r (f a + fw_ rd pr a r)) true a (d + 1)) → G3 f b a d) :
    ∀ f, fJ fi op sp ba rd pr f → G1 f true := by
  have key : ∀ n f, fJ fi op sp ba rd pr f → fsum f = n → G1 f true := by
    intro n
    induction n using Nat.strongRecOn with
    | ind n ih =>
      intro f0 hJ0 hn
      let Cl := fun (f : Nat → Nat) (a d : Nat) => f a < 1000000 → ∀ r, nb a d = some r → fst_ fi op sp ba a r = true → f r ≤ f a + fw_ rd pr a r
      let V := fun (f : Nat → Nat) (b : Bool) (a d : Nat) => (b = true ∧ fsum f < n) ∨ (b = false ∧ fsum f = n ∧ (∀ a', a' < a → ∀ d', d' < 6 → Cl f a' d') ∧ (∀ d', d' < d → Cl f a d'))
      have outer : ∀ a, a ≤ 63 → ∀ f b, fJ fi op sp ba rd pr f → V f b a 0 → G2 f b a := by
        refine e_downInd (G := fun a => ∀ f b, fJ fi op sp ba rd pr f → V f b a 0 → G2 f b a) 63 (fun a ha iha f b hJ hV => ?_) (fun f b hJ hV => ?_)
        · refine h4 f b a ha hJ ?_
          have inner : ∀ d, d ≤ 6 → ∀ f b, fJ fi op sp ba rd pr f → V f b a d → G3 f b a d := by
            refine e_downInd (G := fun d => ∀ f b, fJ fi op sp ba rd pr f → V f b a d → G3 f b a d) 6 (fun d hd ihd f b hJ hV => ?_) (fun f b hJ hV => ?_)
            · refine h6 f b a d ha hd hJ (fun hfar => iha f b hJ ?_) (fun hlt hcl => ihd f b hJ ?_) (fun r hlt hr hr63 hs hl => ihd _ true (fJ_up hJ ha hr63 hlt hs hl) (Or.inl ⟨rfl, ?_⟩))
              · rcases hV with ⟨e, hl⟩ | ⟨e, hl, hc1, hc2⟩
                · exact Or.inl ⟨e, hl⟩
                · refine Or.inr ⟨e, hl, fun a' ha' d' hd' => ?_, fun d' hd' => absurd hd' (Nat.not_lt_zero _)⟩
                  by_cases ea : a' = a
                  · subst ea
                    exact fun h => absurd h (by omega)
                  · exact hc1 a' (by omega) d' hd'
              · rcases hV with ⟨e, hl⟩ | ⟨e, hl, hc1, hc2⟩
                · exact Or.inl ⟨e, hl⟩
                · refine Or.inr ⟨e, hl, hc1, fun d' hd' => ?_⟩
                  by_cases ed : d' = d
                  · subst ed
                    exact fun _ => hcl
                  · exact hc2 d' (by omega)
              · have := sum_fup f hl 63 hr63
                rcases hV with ⟨e, hl2⟩ | ⟨e, hl2, _⟩
                · exact Nat.lt_trans this hl2
                · rw [← hl2]
                  exact this
            · refine h5 f b a ha hJ (iha f b hJ ?_)
              rcases hV with ⟨e, hl⟩ | ⟨e, hl, hc1, hc2⟩
              · exact Or.inl ⟨e, hl⟩
              · refine Or.inr ⟨e, hl, fun a' ha' d' hd' => ?_, fun d' hd' => absurd hd' (Nat.not_lt_zero _)⟩
                by_cases ea : a' = a
                · subst ea
                  exact hc2 d' hd'
                · exact hc1 a' (by omega) d' hd'
          exact inner 0 (Nat.zero_le _) f b hJ hV
        · refine h3 f b hJ ?_
          rcases hV with ⟨e, hl⟩ | ⟨e, hl, hc1, hc2⟩
          · subst e
            exact ih _ hl f hJ rfl
          · subst e
            refine h1 f (fun c hc => ?_)
            obtain ⟨j1, j2, j3⟩ := hJ
            have bf := fun k => fL_bf (FAR := 1000000) f j1 j2 (fun a b hs hfa => by
              obtain ⟨ha, hb, d, hd, hnb⟩ := fst_nb hs
              exact hc1 a ha d hd hfa b hnb hs) (by decide) hp hf hc k
            by_cases hlt : f c < 1000000
            · exact (fC_some ((bf (f c)).mpr ⟨rfl, hlt⟩)).symm
            · have : f c = 1000000 := Nat.le_antisymm (j3 c hc) (Nat.le_of_not_lt hlt)
              rw [fC_none (fun ⟨k, hk⟩ => by
                have := (bf k).mp hk
                omega)]
              exact this
      exact h2 f0 hJ0 (outer 0 (Nat.zero_le _) f0 false hJ0 (Or.inr ⟨rfl, hn, fun a' ha' => absurd ha' (Nat.not_lt_zero _), fun d' hd' => absurd hd' (Nat.not_lt_zero _)⟩))
  exact fun f hJ => key (fsum f) f hJ rfl
end
