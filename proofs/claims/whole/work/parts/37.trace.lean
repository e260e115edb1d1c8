/-! the class's way -/
theorem o_pred (m : Nat) : Int32.ofNat (m + 1) + (-1) = Int32.ofNat m := by
  rw [← o_s, Int32.add_assoc, show (1 : Int32) + -1 = 0 from rfl, Int32.add_zero]
theorem o_ne1 {c : Nat} (hc : c < 2147483648) : ¬ Int32.ofNat c = -1 := by
  intro h
  have h2 : ¬ Int32.ofNat c < 0 := b_nn hc
  rw [h] at h2
  exact h2 (by decide)
noncomputable def gWay (s : Nat → Int32) (u t : Nat) : Nat → Nat := fWay (fun c => c == gPl s u) (gWayO s u) (gWayS s u) (gWayB s u) (gRd s) (gPr s) t (gPl s u)
noncomputable def gLen (s : Nat → Int32) (u t : Nat) : Nat := fLen (fun c => c == gPl s u) (gWayO s u) (gWayS s u) (gWayB s u) (gRd s) (gPr s) t (gPl s u)
/-- the way lies in the trail -/
def TrW (I : e_TI) (s : Nat → Int32) (u t : Nat) : Prop := I 19 4 = Int32.ofNat (gLen s u t) ∧ ∀ i, i ≤ gLen s u t → I 23 i = Int32.ofNat (gWay s u t i)
section
variable {I : e_TI} {L : e_TL} {D : e_TD} {sc : e_TS} {s : Nat → Int32} {fi op sp ba : Nat → Bool}
theorem fUs_far (hle : ∀ c, fC fi op sp ba (gRd s) (gPr s) c ≤ 372 ∨ fC fi op sp ba (gRd s) (gPr s) c = 1000000) {t j : Nat} (h1 : 373 ≤ j) (h2 : j < 1000) (c : Nat) : fUs fi op sp ba (gRd s) (gPr s) t j c = false := by
  rw [Bool.eq_false_iff]
  intro h
  have := (fUs_iff.mp h).2.2
  have := hle c
  omega
theorem s_usefulAfter {Ψ : Int64 → e_TI → e_TL → e_TD → Prop} (h7 : L 19 7 = sL ba) (hle : ∀ c, fC fi op sp ba (gRd s) (gPr s) c ≤ 372 ∨ fC fi op sp ba (gRd s) (gPr s) c = 1000000) {t k p : Nat} (hk : k < 373) (hp1 : 1 ≤ p) (hp : p ≤ 6) (hU : ∀ j, k < j → j < 373 → L 21 j = sL (fUs fi op sp ba (gRd s) (gPr s) t j)) (H : Ψ (sL (fInto fi op sp ba (gRd s) (gPr s) t k p)) I L D) : e_M 132 [.ref 19, .int (Int32.ofNat k), .int (Int32.ofNat p)] (S0 I L D sc) (e_rL sc Ψ) := by
  refine vWv_usefulAfter ?_
  rw [o_add]
  have tail : (¬ Int32.ofNat k = 0 → Ψ (sL (fUs fi op sp ba (gRd s) (gPr s) t (k + p))) I L D) ∧ (¬ ¬ Int32.ofNat k = 0 → Ψ (sL (fUs fi op sp ba (gRd s) (gPr s) t (k + p)) &&& (L 19 7 ^^^ -1)) I L D) := by
    refine ⟨fun hne => ?_, fun he => ?_⟩
    · have hk0 : ¬ k = 0 := fun e => hne (by rw [e]; rfl)
      rw [sL_congr (q := fInto fi op sp ba (gRd s) (gPr s) t k p)]
      · exact H
      · intro c _
        unfold fInto fUs
        rw [if_neg hk0]
        cases decide (c < 63) <;> simp
    · have hk0 : k = 0 := (o_eq (by omega) (by decide)).mp (Classical.not_not.mp he)
      rw [h7, sL_not, sL_and, sL_congr (q := fInto fi op sp ba (gRd s) (gPr s) t k p)]
      · exact H
      · intro c _
        unfold fInto
        rw [if_pos hk0]
  by_cases hkp : k + p < 373
  · refine s_readSet_21 hkp ?_
    rw [hU (k + p) (by omega) hkp]
    exact tail
  · refine s_readSet_21o (by omega) (by omega) ?_
    have e0 : (0 : Int64) = sL (fUs fi op sp ba (gRd s) (gPr s) t (k + p)) := by
      rw [sL_zero]
      exact sL_congr fun c _ => (fUs_far hle (by omega) (by omega) c).symm
    rw [e0]
    exact tail
theorem s_departures {Ψ : Int64 → e_TI → e_TL → e_TD → Prop} (hE : WvE 19 L s) (h7 : L 19 7 = sL ba) (hle : ∀ c, fC fi op sp ba (gRd s) (gPr s) c ≤ 372 ∨ fC fi op sp ba (gRd s) (gPr s) c = 1000000) {t k : Nat} (hk : k < 373) (hU : ∀ j, k < j → j < 373 → L 21 j = sL (fUs fi op sp ba (gRd s) (gPr s) t j)) (H : Ψ (sL (fDep fi op sp ba (gRd s) (gPr s) (gNw s) t k)) I L D) : e_M 133 [.ref 19, .int (Int32.ofNat k)] (S0 I L D sc) (e_rL sc Ψ) := by
  refine vWv_departures ?_
  let F : Nat → Nat → Bool := fun p c => decide (1 ≤ p) && (aro (fun b => fInto fi op sp ba (gRd s) (gPr s) t k p b && (decide (b < 63) && (gNw s b && gPr s b == p))) c || (decide (p = 1) && (aro (fun b => fInto fi op sp ba (gRd s) (gPr s) t k p b && gRd s b) c && gRd s c)))
  have i63 : ∀ p, fInto fi op sp ba (gRd s) (gPr s) t k p 63 = false := fun p => by simp [fInto, fUs]
  have key : ∀ i, i ≤ 7 → 1 ≤ i → e_Wp 133 5 [some (.ref 19), some (.int (Int32.ofNat k)), some (.long (sL fun c => (List.range i).any fun p => F p c)), none, some (.int (Int32.ofNat i)), none, none] [] (S0 I L D sc) 0 0 (e_rL sc Ψ) := by
    refine e_downInd 7 (fun i hi ih h1 => ?_) (fun _ => ?_)
    · replace ih := ih (by omega)
      have hany : ∀ c, ((List.range (i + 1)).any fun p => F p c) = (((List.range i).any fun p => F p c) || F i c) := fun c => any_s _ _
      refine vWv_departures_p5 (bx_f (b_ge hi) (s_usefulAfter h7 hle hk h1 (by omega) hU ?_))
      rw [sL_eq0, o_s]
      refine ⟨fun hem => ?_, fun _ => ⟨o_in hi, ?_⟩⟩
      · rw [sL_congr (q := fun c => (List.range (i + 1)).any fun p => F p c)]
        · exact ih
        · intro c _
          rw [hany]
          have : F i c = false := by
            rw [Bool.eq_false_iff]
            intro h
            simp only [F, Bool.and_eq_true, Bool.or_eq_true] at h
            rcases h.2 with h2 | ⟨_, h2, _⟩
            · obtain ⟨_, b, hb, hq, _⟩ := aro_true.mp h2
              rw [Bool.and_eq_true] at hq
              exact absurd hq.1 (by rw [hem b (by omega)]; decide)
            · obtain ⟨_, b, hb, hq, _⟩ := aro_true.mp h2
              rw [Bool.and_eq_true] at hq
              exact absurd hq.1 (by rw [hem b (by omega)]; decide)
          rw [this, Bool.or_false]
      · rw [o_ix (by omega), hE.2 i (by omega), sL_and]
        refine s_around (by simp [i63]) ⟨fun hne => ?_, fun heq => ?_⟩
        · have hi1 : ¬ i = 1 := fun e => hne (by rw [e]; rfl)
          rw [sL_or, sL_congr (q := fun c => (List.range (i + 1)).any fun p => F p c)]
          · exact ih
          · intro c _
            rw [hany]
            simp only [F, decide_eq_true h1, decide_eq_false hi1, Bool.true_and, Bool.false_and, Bool.or_false]
            rfl
        · have hi1 : i = 1 := (o_eq (by omega) (by decide)).mp (Classical.not_not.mp heq)
          rw [hE.1, sL_and]
          refine s_around (by simp [i63]) ?_
          rw [hE.1, sL_and, sL_or, sL_or, sL_congr (q := fun c => (List.range (i + 1)).any fun p => F p c)]
          · exact ih
          · intro c _
            rw [hany]
            simp only [F, decide_eq_true h1, decide_eq_true hi1, Bool.true_and, Bool.or_assoc]
            rfl
    · exact vWv_departures_p5 (bx_t (b_self 7) H)
  have h0 := key 1 (by omega) (Nat.le_refl _)
  have e1 : (sL fun c => (List.range 1).any fun p => F p c) = 0 := by rw [sL_zero]; rfl
  rw [e1] at h0
  exact h0
theorem fC0 {c : Nat} (h : fC fi op sp ba (gRd s) (gPr s) c = 0) (hp : ∀ c, c < 63 → op c = true → 1 ≤ gPr s c ∧ gPr s c ≤ 6) : fi c = true := by
  have hL := fC_L (show fC fi op sp ba (gRd s) (gPr s) c < 1000000 by omega)
  rw [h] at hL
  rcases hL.1.inv with ⟨h1, _⟩ | ⟨a, j, _, hs, e⟩
  · exact h1
  · have := (fw_pos (rd := gRd s) hp hs).1
    omega
theorem s_markUseful {Ψ : e_TI → e_TL → e_TD → Prop} (h : GR I L s) (hW : WvW 19 L s fi op sp ba) (ho : ∀ c, op c = true → gNw s c = true) (hf : ∀ c, fi c = true → c < 63) {t : Nat} (ht : t < 63) (hK : fC fi op sp ba (gRd s) (gPr s) t ≤ 372) (H : ∀ L', Fr 19 24 I L I L' → WvW 19 L' s fi op sp ba → (∀ j, j < 373 → L' 21 j = sL (fUs fi op sp ba (gRd s) (gPr s) t j)) → Ψ I L' D) : e_M 134 [.ref 19, .int (Int32.ofNat t), .int (Int32.ofNat (fC fi op sp ba (gRd s) (gPr s) t))] (S0 I L D sc) (e_rV sc Ψ) := by
  have hp := gPr_ok h ho
  have hle := fC_le (fi := fi) (op := op) (sp := sp) (ba := ba) (rd := gRd s) hp hf
  refine vWv_markUseful ?_
  have key : ∀ m, m ≤ 373 → ∀ L', Fr 19 24 I L I L' → WvW 19 L' s fi op sp ba → (∀ j, m ≤ j → j < 373 → L' 21 j = sL (fUs fi op sp ba (gRd s) (gPr s) t j)) → e_Wp 134 8 [some (.ref 19), some (.int (Int32.ofNat t)), some (.int (Int32.ofNat (fC fi op sp ba (gRd s) (gPr s) t))), some (.int (Int32.ofNat m + (-1)))] [] (S0 I L' D sc) 0 0 (e_rV sc Ψ) := by
    intro m
    induction m with
    | zero =>
      intro _ L' hF hW' hU
      exact vWv_markUseful_p8 (bx_t (by decide) (H L' hF hW' (fun j hj => hU j (Nat.zero_le _) hj)))
    | succ m ih =>
      intro hm L' hF hW' hU
      rw [o_pred]
      have go : ∀ x : Int64, x = sL (fUs fi op sp ba (gRd s) (gPr s) t m) → e_Wp 134 8 [some (.ref 19), some (.int (Int32.ofNat t)), some (.int (Int32.ofNat (fC fi op sp ba (gRd s) (gPr s) t))), some (.int (Int32.ofNat m + (-1)))] [] (S0 I (e_up L' 21 m x) D sc) 0 0 (e_rV sc Ψ) := by
        intro x e
        refine ih (by omega) _ (hF.upL (by decide)) ⟨⟨by rw [up_cell (by decide)]; exact hW'.1.1, fun p hp7 => by rw [up_cell (by decide)]; exact hW'.1.2 p hp7⟩, by rw [up_cell (by decide)]; exact hW'.2.1, by rw [up_cell (by decide)]; exact hW'.2.2.1, fun k hk => by rw [up_cell (by decide)]; exact hW'.2.2.2 k hk⟩ (fun j hj1 hj2 => ?_)
        by_cases ej : j = m
        · rw [ej, up_same, e]
        · rw [up_slot ej]
          exact hU j (by omega) hj2
      refine vWv_markUseful_p8 (bx_f (b_nn) ?_)
      rw [o_lt (by omega) (by omega)]
      refine ⟨fun hlt => ?_, fun hge => ⟨fun hne => ⟨o_in (by omega), ?_⟩, fun heq => ?_⟩⟩
      · refine s_departures hW'.1 hW'.2.2.1 hle (by omega) (fun j hj1 hj2 => hU j (by omega) hj2) (s_readSet_20 (by omega) ⟨o_in (by omega), ?_⟩)
        rw [o_ix (by omega), hW'.2.2.2 m (by omega), hW'.2.1, sL_not, sL_and, sL_and]
        exact go _ (sL_congr fun c _ => fUs_next hp ho (fun c _ h0 => fC0 h0 hp) (by omega) hlt c)
      · rw [o_ix (by omega)]
        refine go _ ?_
        rw [sL_zero]
        refine sL_congr fun c _ => ?_
        symm
        rw [Bool.eq_false_iff]
        intro hu
        obtain ⟨_, h2, h3⟩ := fUs_iff.mp hu
        by_cases e : c = t
        · rw [e] at h3
          exact hne (by rw [h3])
        · have := fLd_lt hp h2 e
          omega
      · have hm2 : m = fC fi op sp ba (gRd s) (gPr s) t := (o_eq (by omega) (by omega)).mp (Classical.not_not.mp heq)
        refine s_only ht ⟨o_in (by omega), ?_⟩
        rw [o_ix (by omega)]
        refine go _ (sL_congr fun c _ => ?_)
        rw [Bool.eq_iff_iff, fUs_iff, beq_iff_eq]
        constructor
        · rintro rfl
          exact ⟨ht, fLd_self _, hm2.symm⟩
        · rintro ⟨_, h2, h3⟩
          apply Classical.byContradiction
          intro e
          have := fLd_lt hp h2 e
          omega
  have h0 := key 373 (Nat.le_refl _) L Fr.rf hW (fun j h1 h2 => by omega)
  exact h0
theorem s_nextOnWay {Ψ : Int32 → e_TI → e_TL → e_TD → Prop} (h : GR I L s) (hW : WvW 19 L s fi op sp ba) (ho : ∀ c, op c = true → gNw s c = true) (hf : ∀ c, fi c = true → c < 63) {t c : Nat} (hc : c < 63) (hne : c ≠ t) (hl : fLd fi op sp ba (gRd s) (gPr s) t c = true) (hck : fC fi op sp ba (gRd s) (gPr s) c ≤ 372) (hU : ∀ j, j < 373 → L 21 j = sL (fUs fi op sp ba (gRd s) (gPr s) t j)) (H : Ψ (Int32.ofNat (fNx fi op sp ba (gRd s) (gPr s) t c)) I L D) : e_M 136 [.ref 19, .int (Int32.ofNat c), .int (Int32.ofNat (fC fi op sp ba (gRd s) (gPr s) c))] (S0 I L D sc) (e_rI sc Ψ) := by
  have hp := gPr_ok h ho
  have hle := fC_le (fi := fi) (op := op) (sp := sp) (ba := ba) (rd := gRd s) hp hf
  obtain ⟨b0, hb0, hb1⟩ := (fLd_inv hl).resolve_left hne
  have hsp := (fst_lt (tgt_iff.mp hb0).1).2.2.2.2.1
  obtain ⟨k, hk⟩ : ∃ k, k = fC fi op sp ba (gRd s) (gPr s) c := ⟨_, rfl⟩
  rw [← hk] at hck ⊢
  refine vWv_nextOnWay ?_
  let F : Nat → Nat → Bool := fun p b => decide (1 ≤ p) && (fInto fi op sp ba (gRd s) (gPr s) t k p b && fStp (gRd s) (gNw s) (gPr s) p (fun i => i == c) b)
  have key : ∀ i, i ≤ 7 → 1 ≤ i → e_Wp 136 5 [some (.ref 19), some (.int (Int32.ofNat c)), some (.int (Int32.ofNat k)), some (.long (sL fun b => (List.range i).any fun p => F p b)), none, some (.int (Int32.ofNat i)), none, none] [] (S0 I L D sc) 0 0 (e_rI sc Ψ) := by
    refine e_downInd 7 (fun i hi ih h1 => ?_) (fun _ => ?_)
    · replace ih := ih (by omega)
      have hany : ∀ b, ((List.range (i + 1)).any fun p => F p b) = (((List.range i).any fun p => F p b) || F i b) := fun b => any_s _ _
      refine vWv_nextOnWay_p5 (bx_f (b_ge hi) (s_usefulAfter hW.2.2.1 hle (by omega) h1 (by omega) (fun j _ hj => hU j hj) ?_))
      rw [sL_eq0, o_s]
      refine ⟨fun hem => ?_, fun _ => s_only hc ⟨o_in hi, ?_⟩⟩
      · rw [sL_congr (q := fun b => (List.range (i + 1)).any fun p => F p b)]
        · exact ih
        · intro b hb
          rw [hany]
          simp only [F, hem b hb, Bool.false_and, Bool.and_false, Bool.or_false]
      · rw [o_ix (by omega), hW.1.2 i (by omega)]
        refine s_stepsFrom_19 hW.1.1 (by omega) (beq_false_of_ne (by omega)) ?_
        rw [sL_and, sL_or, sL_congr (q := fun b => (List.range (i + 1)).any fun p => F p b)]
        · exact ih
        · intro b _
          rw [hany]
          simp only [F, decide_eq_true h1, Bool.true_and]
          rfl
    · refine vWv_nextOnWay_p5 (bx_t (b_self 7) ?_)
      have e : (fun b => (List.range 7).any fun p => F p b) = fun b => tgt fi op sp ba (gRd s) (gPr s) c b && fLd fi op sp ba (gRd s) (gPr s) t b := funext fun b => fNx_set hp ho (fun c _ h0 => fC0 h0 hp) (by omega) hc hk.symm hsp b
      rw [e]
      refine s_lowest (fun x hx h2 h3 => ?_) (fun h2 => ?_)
      · rw [Bool.and_eq_true] at h2
        rw [fNx_uniq h2.1 h2.2 h3] at H
        exact H
      · have := h2 b0 (fst_lt (tgt_iff.mp hb0).1).2.2.1
        rw [hb0, hb1] at this
        cases this
  have h0 := key 1 (by omega) (Nat.le_refl _)
  have e1 : (sL fun b => (List.range 1).any fun p => F p b) = 0 := by rw [sL_zero]; rfl
  rw [e1] at h0
  exact h0
theorem s_trace {Ψ : e_TI → e_TL → e_TD → Prop} (h : GR I L s) {u t : Nat} (hu : u < gMa s) (hW : WvW 19 L s (fun c => c == gPl s u) (gWayO s u) (gWayS s u) (gWayB s u)) (ht : t < 63) (hK : gWayC s u t ≤ 372) (H : ∀ I' L', Fr 19 24 I L I' L' → TrW I' s u t → Ψ I' L' D) : e_M 137 [.ref 19, .int (Int32.ofNat (gPl s u)), .int (Int32.ofNat t)] (S0 I L D sc) (e_rV sc Ψ) := by
  have hpl := (h.pl hu).2
  have ho : ∀ c, gWayO s u c = true → gNw s c = true := fun c => gWayO_nw h
  have hf : ∀ c, (c == gPl s u) = true → c < 63 := fun c hc => by rw [beq_iff_eq] at hc; omega
  have hp := gPr_ok h ho
  have hle := fC_le (fi := fun c => c == gPl s u) (op := gWayO s u) (sp := gWayS s u) (ba := gWayB s u) (rd := gRd s) hp hf
  have hK2 : fC (fun c => c == gPl s u) (gWayO s u) (gWayS s u) (gWayB s u) (gRd s) (gPr s) t ≤ 372 := hK
  obtain ⟨a0, ha0, hl⟩ := fLd_first hp (show fC (fun c => c == gPl s u) (gWayO s u) (gWayS s u) (gWayB s u) (gRd s) (gPr s) t < 1000000 by omega)
  rw [beq_iff_eq] at ha0
  subst ha0
  obtain ⟨hn, he, hi0⟩ := fLen_spec hp hpl hl
  refine vWv_trace (s_costOf_19 hW hle ht (fun _ => ?_) (fun h0 => by omega))
  refine s_markUseful h hW ho hf ht hK2 (fun L1 hF1 hW1 hU1 => ?_)
  have key : ∀ i, i ≤ gLen s u t → ∀ I', Fr 19 24 I L I' L1 → (∀ j, j < i → I' 23 j = Int32.ofNat (gWay s u t j)) → e_Wp 137 20 [some (.ref 19), some (.int (Int32.ofNat (gPl s u))), some (.int (Int32.ofNat t)), some (.int (Int32.ofNat (gWay s u t i))), some (.int (Int32.ofNat i))] [] (S0 I' L1 D sc) 0 0 (e_rV sc Ψ) := by
    refine e_downInd (gLen s u t) (fun i hi ih I' hF hj => ?_) (fun I' hF hj => ?_)
    · have hi62 : i < 62 := Nat.lt_of_lt_of_le hi hn
      obtain ⟨h1, h2, h3⟩ := fWay_ok hp hpl hl i (fun j hj => hi0 j (Nat.lt_trans hj hi))
      have hwi : gWay s u t i < 63 := h2
      have hne : gWay s u t i ≠ t := hi0 i hi
      refine vWv_trace_p20 (bx_f (b_ge (n := 63) (by omega)) (bx_f (o_ne1 (by omega)) ⟨o_in (by omega), bx_t (fun e => hne ((o_eq (by omega) (by omega)).mp e)) ?_⟩))
      rw [o_ix (by omega)]
      have hF2 : Fr 19 24 I L (e_up (e_up I' 23 i (Int32.ofNat (gWay s u t i))) 19 4 (Int32.ofNat i)) L1 := (hF.upI (by decide)).upI (by decide)
      have hlt := fLd_lt hp h1 hne
      refine s_costOf_19 hW1 hle hwi (fun hc1 => ?_) (fun hc1 => ?_)
      · refine s_nextOnWay (h.fr hF2 (by decide)) hW1 ho hf hwi hne h1 hc1 hU1 ?_
        rw [o_s]
        refine ih _ hF2 (fun j hj2 => ?_)
        rw [up_cell (by decide)]
        by_cases e : j = i
        · rw [e, up_same]
        · rw [up_slot e]
          exact hj j (by omega)
      · have : fC (fun c => c == gPl s u) (gWayO s u) (gWayS s u) (gWayB s u) (gRd s) (gPr s) (gWay s u t i) = 1000000 := hc1
        have h9 : fC (fun c => c == gPl s u) (gWayO s u) (gWayS s u) (gWayB s u) (gRd s) (gPr s) (gWay s u t i) < fC (fun c => c == gPl s u) (gWayO s u) (gWayS s u) (gWayB s u) (gRd s) (gPr s) t := hlt
        omega
    · have hn2 : gLen s u t ≤ 62 := hn
      have het : gWay s u t (gLen s u t) = t := he
      rw [het]
      refine vWv_trace_p20 (bx_f (b_ge (n := 63) (by omega)) (bx_f (o_ne1 (by omega)) ⟨o_in (by omega), bx_f (fun e => e rfl) ?_⟩))
      rw [o_ix (by omega)]
      have hF2 : Fr 19 24 I L (e_up (e_up I' 23 (gLen s u t) (Int32.ofNat t)) 19 4 (Int32.ofNat (gLen s u t))) L1 := (hF.upI (by decide)).upI (by decide)
      have fin : Ψ (e_up (e_up I' 23 (gLen s u t) (Int32.ofNat t)) 19 4 (Int32.ofNat (gLen s u t))) L1 D := by
        refine H _ _ hF2 ⟨up_same, fun i hi => ?_⟩
        rw [up_cell (by decide)]
        by_cases e : i = gLen s u t
        · rw [e, up_same, het]
        · rw [up_slot e]
          exact hj i (by omega)
      exact vWv_trace_p20 ⟨fun _ => fin, fun _ => bx_t rfl fin⟩
  exact key 0 (Nat.zero_le _) _ (hF1.upI (by decide)) (fun j hj => absurd hj (Nat.not_lt_zero _))
end
