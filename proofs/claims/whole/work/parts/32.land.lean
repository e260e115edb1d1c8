/-! the class's land, read -/
theorem xt10 : ∀ t : Fin 5, ∀ w : Fin 3, e_xt 10 (5 * w.1 + t.1) = Int32.ofNat (gPrice t.1 w.1) := by decide +kernel
theorem xt11 : ∀ w : Fin 3, e_xt 11 w.1 = Int32.ofNat (([4, 2, 3] : List Nat).getD w.1 0) := by decide +kernel
theorem xt12 : ∀ t : Fin 6, e_xt 12 t.1 = Int32.ofNat (gHt t.1) := by decide +kernel
theorem xt13 : ∀ t : Fin 6, e_xt 13 t.1 = Int32.ofNat (gHt t.1) := by decide +kernel
theorem gHt_le : ∀ t : Nat, gHt t ≤ 3 := by
  intro t
  by_cases h : t < 6
  · have : ∀ t : Fin 6, gHt t.1 ≤ 3 := by decide +kernel
    exact this ⟨t, h⟩
  · unfold gHt
    rw [List.getD_eq_getElem?_getD, List.getElem?_eq_none (by simpa using h)]
    decide
theorem gPrice_le : ∀ t w : Nat, gPrice t w ≤ 6 := by
  intro t w
  by_cases h : 5 * w + t < 15
  · have : ∀ t : Fin 15, ([1, 2, 2, 3, 4, 2, 3, 3, 5, 5, 2, 3, 3, 2, 6] : List Nat).getD t.1 0 ≤ 6 := by decide +kernel
    exact this ⟨_, h⟩
  · unfold gPrice
    rw [List.getD_eq_getElem?_getD, List.getElem?_eq_none (by simpa using h)]
    decide
theorem gPrice_pos : ∀ t w : Nat, t < 5 → w ≤ 2 → 1 ≤ gPrice t w := by
  intro t w ht hw
  have : ∀ t : Fin 5, ∀ w : Fin 3, 1 ≤ gPrice t.1 w.1 := by decide +kernel
  exact this ⟨t, ht⟩ ⟨w, by omega⟩
/-- seen from a cell at a range -/
def gSeeR (s : Nat → Int32) (r a b : Nat) : Bool := decide (dst a b ≤ r) && gFan (fun c => decide (gHt (gTer s c) ≤ max (gHt (gTer s a)) (gHt (gTer s b)))) a (dst a b) b
section
variable {I : e_TI} {L : e_TL} {D : e_TD} {sc : e_TS} {s : Nat → Int32}
theorem s_terrainAt {Ψ : Int32 → e_TI → e_TL → e_TD → Prop} (h : GR I L s) {c : Nat} (hc : c < 63) (H : Ψ (Int32.ofNat (gTer s c)) I L D) : e_M 62 [.ref 3, .int (Int32.ofNat c)] (S0 I L D sc) (e_rI sc Ψ) := by
  refine vLd_terrainAt (loop_F (G := fun i => e_Wp 62 2 [some (.ref 3), some (.int (Int32.ofNat c)), some (.int i)] [] (S0 I L D sc) 0 0 (e_rI sc Ψ)) (fun t => gTer s c == t) 6 (fun i hi hj K => ?_) (fun hn => ?_))
  · refine vLd_terrainAt_p2 (bx_f (b_ge hi) ⟨o_in hi, ?_⟩)
    rw [o_ix (by omega), h.kind hi]
    refine s_has hc (bx_b (fun h0 => K (by simpa [hc] using h0)) (fun h1 => ?_))
    have : gTer s c = i := by simpa [hc] using h1
    rw [this] at H
    exact H
  · exact absurd (hn (gTer s c) (by have := h.ter hc; omega)) (by simp)
theorem s_coverAt {Ψ : Int32 → e_TI → e_TL → e_TD → Prop} (h : GR I L s) {c : Nat} (hc : c < 63) (H : Ψ (Int32.ofNat (gHt (gTer s c))) I L D) : e_M 161 [.ref 3, .int (Int32.ofNat c)] (S0 I L D sc) (e_rI sc Ψ) := by
  have ht := h.ter hc
  refine vLd_coverAt (s_terrainAt h hc (s_read_X13 (by omega) ?_))
  rw [xt13 ⟨gTer s c, by omega⟩]
  exact H
theorem s_priceOf {Ψ : Int32 → e_TI → e_TL → e_TD → Prop} {t w : Nat} (ht : t < 5) (hw : w ≤ 2) (H : Ψ (Int32.ofNat (gPrice t w)) I L D) : e_M 37 [.int (Int32.ofNat t), .int (Int32.ofNat w)] (S0 I L D sc) (e_rI sc Ψ) := by
  refine vLd_priceOf (bx_f (b_ge ht) ?_)
  rw [show (5 : Int32) = Int32.ofNat 5 from rfl, o_mul, o_add]
  refine s_read_X10 (by omega) ?_
  rw [xt10 ⟨t, ht⟩ ⟨w, by omega⟩]
  exact H
theorem s_enteredFor {Ψ : Int64 → e_TI → e_TL → e_TD → Prop} (h : GR I L s) {p w : Nat} (hp : p ≤ 6) (hw : w ≤ 2) (H : Ψ (sL fun c => decide (c < 63) && (decide (gTer s c < 5) && gPrice (gTer s c) w == p)) I L D) : e_M 38 [.ref 3, .int (Int32.ofNat p), .int (Int32.ofNat w)] (S0 I L D sc) (e_rL sc Ψ) := by
  refine vLd_enteredFor (loop_L (G := fun y i => e_Wp 38 5 [some (.ref 3), some (.int (Int32.ofNat p)), some (.int (Int32.ofNat w)), some (.long y), none, some (.int i)] [] (S0 I L D sc) 0 0 (e_rL sc Ψ)) (fun t c => gPrice t w == p && (decide (c < 63) && gTer s c == t)) 5 (fun i y hi K0 K1 => ?_) ?_)
  · refine vLd_enteredFor_p5 (bx_f (b_ge hi) (bx_f (b_ge (n := 6) (by omega)) (s_priceOf hi hw ⟨fun hne => ?_, fun he => ⟨o_in (by omega), ?_⟩⟩)))
    · refine K0 (fun c _ => ?_)
      have : gPrice i w ≠ p := fun e => hne (by rw [e])
      simp [this]
    · have e : gPrice i w = p := (o_eq (by have := gPrice_le i w; omega) (by omega)).mp (Classical.not_not.mp he)
      rw [o_ix (by omega), h.kind (by omega)]
      refine K1 _ (fun c _ => ?_)
      simp [e]
  · refine vLd_enteredFor_p5 (bx_t (b_self 5) ?_)
    rw [sL_congr (q := fun c => decide (c < 63) && (decide (gTer s c < 5) && gPrice (gTer s c) w == p))]
    · exact H
    · intro c _
      rw [Bool.eq_iff_iff]
      simp only [List.any_eq_true, List.mem_range, Bool.and_eq_true, beq_iff_eq, decide_eq_true_eq]
      constructor
      · rintro ⟨t, h1, h2, h3, rfl⟩; exact ⟨h3, h1, h2⟩
      · rintro ⟨h1, h2, h3⟩; exact ⟨_, h2, h3, h1, rfl⟩
theorem s_roads {Ψ : Int64 → e_TI → e_TL → e_TD → Prop} (h : GR I L s) (H : Ψ (sL (gRd s)) I L D) : e_M 35 [.ref 3] (S0 I L D sc) (e_rL sc Ψ) := by
  refine vLd_roads ?_
  rw [h.road]
  exact H
theorem s_sourcesOf {Ψ : Int64 → e_TI → e_TL → e_TD → Prop} (h : GR I L s) {d : Nat} (hd : d < 2) (H : Ψ (sL (gSrc s d)) I L D) : e_M 40 [.ref 3, .int (Int32.ofNat d)] (S0 I L D sc) (e_rL sc Ψ) := by
  refine vLd_sourcesOf (s_readSet_5 hd ?_)
  rw [h.src hd]
  exact H
theorem s_waters {Ψ : Int64 → e_TI → e_TL → e_TD → Prop} (h : GR I L s) (H : Ψ (sL (gWat s)) I L D) : e_M 31 [.ref 3] (S0 I L D sc) (e_rL sc Ψ) := by
  refine vLd_waters (s_readSet_4 (u := 5) (by decide) ?_)
  rw [h.kind (by decide)]
  exact H
theorem s_zoneAround {Ψ : Int64 → e_TI → e_TL → e_TD → Prop} (h : GR I L s) {p : Nat → Bool} (h63 : p 63 = false) (H : Ψ (sL (gZoneA s p)) I L D) : e_M 33 [.ref 3, .long (sL p)] (S0 I L D sc) (e_rL sc Ψ) := by
  refine vLd_zoneAround (s_around h63 (s_waters h (s_readSet_4 (u := 4) (by decide) ?_)))
  rw [h.kind (by decide), sL_not, sL_not, sL_and, sL_and]
  rw [sL_congr (q := gZoneA s p)]
  · exact H
  · intro c _
    unfold gZoneA gWat
    by_cases hc : c < 63
    · simp [hc]
    · simp [hc, aro]
theorem s_upToHeight {Ψ : Int64 → e_TI → e_TL → e_TD → Prop} (h : GR I L s) {n : Nat} (hn : n < 2147483648) (H : Ψ (sL fun c => decide (c < 63) && decide (gHt (gTer s c) ≤ n)) I L D) : e_M 108 [.ref 3, .int (Int32.ofNat n)] (S0 I L D sc) (e_rL sc Ψ) := by
  refine vLd_upToHeight (loop_L (G := fun y i => e_Wp 108 5 [some (.ref 3), some (.int (Int32.ofNat n)), some (.long y), none, some (.int i)] [] (S0 I L D sc) 0 0 (e_rL sc Ψ)) (fun t c => decide (gHt t ≤ n) && (decide (c < 63) && gTer s c == t)) 6 (fun i y hi K0 K1 => ?_) ?_)
  · refine vLd_upToHeight_p5 (bx_f (b_ge hi) (bx_f (b_ge hi) ⟨o_in hi, ?_⟩))
    rw [o_ix (by omega), show e_xt 12 i = Int32.ofNat (gHt i) from xt12 ⟨i, hi⟩, h.kind hi]
    refine ⟨fun hlt => ?_, fun hge => ⟨o_in hi, ?_⟩⟩
    · rw [o_lt hn (by have := gHt_le i; omega)] at hlt
      refine K0 (fun c _ => ?_)
      rw [decide_eq_false (by omega), Bool.false_and]
    · rw [o_lt hn (by have := gHt_le i; omega)] at hge
      refine K1 _ (fun c _ => ?_)
      rw [decide_eq_true (p := gHt i ≤ n) (by omega), Bool.true_and]
  · refine vLd_upToHeight_p5 (bx_t (b_self 6) ?_)
    rw [sL_congr (q := fun c => decide (c < 63) && decide (gHt (gTer s c) ≤ n))]
    · exact H
    · intro c _
      rw [Bool.eq_iff_iff]
      simp only [List.any_eq_true, List.mem_range, Bool.and_eq_true, beq_iff_eq, decide_eq_true_eq]
      constructor
      · rintro ⟨t, h1, h2, h3, rfl⟩; exact ⟨h3, h2⟩
      · rintro ⟨h1, h2⟩; exact ⟨_, by have := h.ter h1; omega, h2, h1, rfl⟩
theorem s_stepCost {Ψ : Int32 → e_TI → e_TL → e_TD → Prop} (h : GR I L s) {a b : Nat} (ha : a < 63) (hb : b < 63) (hd : gTer s b < 5) (H : Ψ (Int32.ofNat (gStepC s a b)) I L D) : e_M 169 [.ref 3, .int (Int32.ofNat a), .int (Int32.ofNat b), .int (Int32.ofNat (gWx s))] (S0 I L D sc) (e_rI sc Ψ) := by
  refine vLd_stepCost ?_
  rw [h.road]
  refine s_has ha (bx_b (fun h0 => ?_) (fun h1 => ?_))
  · refine s_terrainAt h hb (s_priceOf hd h.wx.2 ?_)
    simpa [gStepC, h0] using H
  rw [h.road]
  refine s_has hb (bx_b (fun h2 => ?_) (fun h2 => ?_))
  · refine s_terrainAt h hb (s_priceOf hd h.wx.2 ?_)
    simpa [gStepC, h2] using H
  · simpa [gStepC, h1, h2] using H
/-- the walk of sight, front by front -/
def frn (q : Nat → Bool) (a : Nat) : Nat → Nat → Bool
  | 0 => fun c => c == a
  | k + 1 => fun c => fro q a (k + 1) c && q c
theorem fro_frn (q : Nat → Bool) (a k b : Nat) : fro q a (k + 1) b = (aro (frn q a k) b && !bal a k b) := by
  cases k <;> rfl
theorem bal63 (a n : Nat) : bal a n 63 = false := by simp [bal]
theorem aro63 (p : Nat → Bool) : aro p 63 = false := by simp [aro]
theorem aro64 (p : Nat → Bool) {c : Nat} (h : ¬ c < 63) : aro p c = false := by simp [aro, h]
theorem frn63 {q : Nat → Bool} {a : Nat} (ha : a < 63) (k : Nat) : frn q a k 63 = false := by
  cases k with
  | zero => exact beq_false_of_ne (by omega)
  | succ k =>
    show (fro q a (k + 1) 63 && q 63) = false
    rw [fro_frn, aro63]
    rfl
theorem s_inSight {Ψ : Int64 → e_TI → e_TL → e_TD → Prop} {a r : Nat} {q : Nat → Bool} (ha : a < 63) (hr : r ≤ 4) (H : Ψ (sL fun b => decide (b < 63) && (decide (1 ≤ dst a b) && (decide (dst a b ≤ r) && gFan q a (dst a b) b))) I L D) : e_M 109 [.int (Int32.ofNat a), .int (Int32.ofNat r), .long (sL q)] (S0 I L D sc) (e_rL sc Ψ) := by
  refine vLd_inSight (s_only ha ?_)
  have key : ∀ k, k ≤ r → e_Wp 109 16 [some (.int (Int32.ofNat a)), some (.int (Int32.ofNat r)), some (.long (sL q)), none, some (.long (sL (bal a k))), none, some (.long (sL (frn q a k))), none, some (.long (sL fun b => (List.range k).any fun j => fro q a (j + 1) b)), none, some (.int (Int32.ofNat (k + 1))), none, none] [] (S0 I L D sc) 0 0 (e_rL sc Ψ) := by
    refine e_downInd r (fun k hk ih => ?_) ?_
    · refine vLd_inSight_p16 (bx_f (fun h => ?_) (s_around (frn63 ha k) (s_around (bal63 a k) ?_)))
      · rw [o_lt (by omega) (by omega)] at h
        omega
      · rw [sL_or, sL_not, sL_and, sL_and, sL_or, o_s]
        have e1 : (sL fun i => bal a k i || aro (bal a k) i) = sL (bal a (k + 1)) := sL_congr fun i _ => (bal_succ ha k i).symm
        have e2 : (sL fun i => (aro (frn q a k) i && !bal a k i) && q i) = sL (frn q a (k + 1)) := sL_congr fun i _ => by
          show _ = (fro q a (k + 1) i && q i)
          rw [fro_frn]
        have e3 : (sL fun i => ((List.range k).any fun j => fro q a (j + 1) i) || (aro (frn q a k) i && !bal a k i)) = sL fun b => (List.range (k + 1)).any fun j => fro q a (j + 1) b := sL_congr fun i _ => by
          rw [any_s, fro_frn]
        rw [e1, e2, e3]
        exact ih
    · refine vLd_inSight_p16 (bx_t ?_ ?_)
      · rw [o_lt (by omega) (by omega)]
        omega
      · rw [sL_congr (q := fun b => decide (b < 63) && (decide (1 ≤ dst a b) && (decide (dst a b ≤ r) && gFan q a (dst a b) b)))]
        · exact H
        · intro b _
          rw [Bool.eq_iff_iff]
          simp only [List.any_eq_true, List.mem_range, Bool.and_eq_true, decide_eq_true_eq]
          constructor
          · rintro ⟨j, h1, h2⟩
            rw [fro_fan ha, Bool.and_eq_true, decide_eq_true_eq] at h2
            have h3 := (fan_dst ha _ _ h2.2).1
            rw [h2.1]
            exact ⟨h3, by omega, by omega, h2.2⟩
          · rintro ⟨h1, h2, h3, h4⟩
            refine ⟨dst a b - 1, by omega, ?_⟩
            rw [fro_fan ha, show dst a b - 1 + 1 = dst a b by omega, h4]
            simp
  have h0 := key 0 (Nat.zero_le _)
  have e1 : sL (bal a 0) = sL (fun i => i == a) := sL_congr fun i _ => bal_zero ha i
  have e2 : sL (frn q a 0) = sL (fun i => i == a) := rfl
  have e3 : (sL fun b => (List.range 0).any fun j => fro q a (j + 1) b) = 0 := by rw [sL_zero]; rfl
  rw [e1, e2, e3] at h0
  exact h0
theorem s_seenFrom {Ψ : Int64 → e_TI → e_TL → e_TD → Prop} (h : GR I L s) {a r : Nat} (ha : a < 63) (hr : r ≤ 4) (H : Ψ (sL fun b => decide (b < 63) && gSeeR s r a b) I L D) : e_M 110 [.ref 3, .int (Int32.ofNat a), .int (Int32.ofNat r)] (S0 I L D sc) (e_rL sc Ψ) := by
  have ht := h.ter ha
  refine vLd_seenFrom (s_terrainAt h ha (s_read_X12 (by omega) ?_))
  rw [xt12 ⟨gTer s a, by omega⟩]
  refine s_only ha ?_
  have hown := gHt_le (gTer s a)
  generalize ho : gHt (gTer s a) = own at hown
  -- what is seen at heights below k
  have key : ∀ k, k ≤ 4 - own → e_Wp 110 21 [some (.ref 3), some (.int (Int32.ofNat a)), some (.int (Int32.ofNat r)), some (.int (Int32.ofNat own)), some (.long (sL fun b => b == a || (decide (b < 63) && (decide (max own (gHt (gTer s b)) < own + k) && (decide (1 ≤ dst a b) && (decide (dst a b ≤ r) && gFan (fun c => decide (c < 63) && decide (gHt (gTer s c) ≤ max own (gHt (gTer s b)))) a (dst a b) b)))))), none, some (.int (Int32.ofNat (own + k))), none, none, none, none] [] (S0 I L D sc) 0 0 (e_rL sc Ψ) := by
    refine e_downInd (4 - own) (fun k hk ih => ?_) ?_
    · refine vLd_seenFrom_p21 (bx_f (fun h2 => ?_) (s_upToHeight h (by omega) ?_))
      · rw [show (3 : Int32) = Int32.ofNat 3 from rfl, o_lt (by omega) (by omega)] at h2
        omega
      · refine ⟨fun hne => ?_, fun he => ?_⟩
        · have hk0 : k ≠ 0 := fun e => hne (by rw [e, Nat.add_zero])
          rw [show (1 : Int32) = Int32.ofNat 1 from rfl, o_sub (by omega)]
          refine s_upToHeight h (by omega) (s_inSight ha hr ?_)
          rw [sL_not, sL_and, sL_and, sL_or, ← Nat.add_assoc] at *
          rw [show Int32.ofNat (own + k) + Int32.ofNat 1 = Int32.ofNat (own + k + 1) from o_add _ _]
          refine Eq.mp ?_ ih
          congr 8
          apply sL_congr
          intro b _
          obtain ⟨m, hm⟩ : ∃ m, m = max own (gHt (gTer s b)) := ⟨_, rfl⟩
          rw [← hm]
          by_cases hb : b < 63
          · rcases Nat.lt_trichotomy m (own + k) with hlt | heq | hgt
            · simp only [hb, decide_true, Bool.true_and, show m < own + k + 1 by omega, hlt, show gHt (gTer s b) ≤ own + k - 1 by omega, Bool.not_true, Bool.and_false, Bool.false_and, Bool.or_false]
            · rw [heq]
              simp only [hb, decide_true, Bool.true_and, show own + k < own + k + 1 by omega, show ¬ (own + k < own + k) by omega, decide_false, show ¬ (gHt (gTer s b) ≤ own + k - 1) by omega, show gHt (gTer s b) ≤ own + k by omega, Bool.not_false, Bool.false_and, Bool.or_false]
            · simp only [hb, decide_true, Bool.true_and, show ¬ (m < own + k + 1) by omega, show ¬ (m < own + k) by omega, decide_false, show ¬ (gHt (gTer s b) ≤ own + k) by omega, Bool.false_and, Bool.or_false]
          · simp [hb]
        · have hk0 : k = 0 := by
            have := (o_eq (by omega) (by omega)).mp (Classical.not_not.mp he)
            omega
          subst hk0
          refine s_inSight ha hr ?_
          rw [sL_and, sL_or, show (1 : Int32) = Int32.ofNat 1 from rfl, o_add]
          refine Eq.mp ?_ ih
          congr 8
          apply sL_congr
          intro b _
          obtain ⟨m, hm⟩ : ∃ m, m = max own (gHt (gTer s b)) := ⟨_, rfl⟩
          rw [← hm]
          by_cases hb : b < 63
          · by_cases hl : m = own
            · rw [hl]
              simp only [hb, decide_true, Bool.true_and, show own < own + (0 + 1) by omega, show ¬ (own < own) by omega, decide_false, show gHt (gTer s b) ≤ own by omega, Bool.false_and, Bool.or_false, Nat.add_zero]
            · simp only [hb, decide_true, Bool.true_and, show ¬ (m < own + (0 + 1)) by omega, show ¬ (m < own + 0) by omega, decide_false, show ¬ (gHt (gTer s b) ≤ own + 0) by omega, Bool.false_and, Bool.or_false]
          · simp [hb]
    · refine vLd_seenFrom_p21 (bx_t ?_ ?_)
      · rw [show (3 : Int32) = Int32.ofNat 3 from rfl, o_lt (by omega) (by omega)]
        omega
      · rw [sL_congr (q := fun b => decide (b < 63) && gSeeR s r a b)]
        · exact H
        · intro b _
          by_cases hb : b < 63
          · have h3 := gHt_le (gTer s b)
            have e1 : max own (gHt (gTer s b)) < own + (4 - own) := by omega
            simp only [hb, e1, decide_true, Bool.true_and]
            unfold gSeeR
            rw [ho]
            by_cases hab : b = a
            · subst hab
              rw [(dst_zero hb hb).mpr rfl]
              simp [gFan]
            · have h1 : 1 ≤ dst a b := by
                rcases Nat.eq_zero_or_pos (dst a b) with h0 | h0
                · exact absurd ((dst_zero ha hb).mp h0).symm hab
                · exact h0
              rw [show (b == a) = false by simp [hab], Bool.false_or, decide_eq_true h1, Bool.true_and]
              congr 1
              apply fan_congr
              intro c hc
              simp [hc]
          · have : ¬ b = a := by omega
            simp [hb, this]
  have h0 := key 0 (Nat.zero_le _)
  have e1 : (sL fun b => b == a || (decide (b < 63) && (decide (max own (gHt (gTer s b)) < own + 0) && (decide (1 ≤ dst a b) && (decide (dst a b ≤ r) && gFan (fun c => decide (c < 63) && decide (gHt (gTer s c) ≤ max own (gHt (gTer s b)))) a (dst a b) b))))) = sL (fun i => i == a) := sL_congr fun b _ => by
    rw [decide_eq_false (p := max own (gHt (gTer s b)) < own + 0) (by omega)]
    simp
  rw [e1, Nat.add_zero] at h0
  exact h0
end
