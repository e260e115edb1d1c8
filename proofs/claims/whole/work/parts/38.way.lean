/-! the class's findWay and what is read of a way -/
section
variable {I : e_TI} {L : e_TL} {D : e_TD} {sc : e_TS} {s : Nat → Int32}
theorem gWayC_le (h : GR I L s) {u : Nat} (hu : u < gMa s) (c : Nat) : gWayC s u c ≤ 372 ∨ gWayC s u c = 1000000 := by
  have hpl := (h.pl hu).2
  exact fC_le (gPr_ok h (fun c => gWayO_nw h)) (fun c hc => by rw [beq_iff_eq] at hc; omega) c
theorem gLen_ok (h : GR I L s) {u t : Nat} (hu : u < gMa s) (hK : gWayC s u t ≤ 372) : gLen s u t ≤ 62 ∧ gWay s u t (gLen s u t) = t ∧ (∀ i, i < gLen s u t → gWay s u t i ≠ t) ∧ ∀ i, i ≤ gLen s u t → gWay s u t i < 63 := by
  have hpl := (h.pl hu).2
  have hp := gPr_ok h (fun c => gWayO_nw (u := u) (c := c) h)
  have hK2 : fC (fun c => c == gPl s u) (gWayO s u) (gWayS s u) (gWayB s u) (gRd s) (gPr s) t ≤ 372 := hK
  obtain ⟨a0, ha0, hl⟩ := fLd_first hp (show fC (fun c => c == gPl s u) (gWayO s u) (gWayS s u) (gWayB s u) (gRd s) (gPr s) t < 1000000 by omega)
  rw [beq_iff_eq] at ha0
  subst ha0
  obtain ⟨hn, he, hi0⟩ := fLen_spec hp hpl hl
  refine ⟨hn, he, hi0, fun i hi => ?_⟩
  exact (fWay_ok hp hpl hl i (fun j hj => hi0 j (Nat.lt_of_lt_of_le hj hi))).2.1
theorem s_findWay {Ψ : Int32 → e_TI → e_TL → e_TD → Prop} (h : GR I L s) {u t : Nat} (hu : u < gMa s) (ht : t < 63) (h0 : gPl s u = t → Ψ (-1) I L D) (h1 : gPl s u ≠ t → gWayC s u t = 1000000 → ∀ L', Fr 19 24 I L I L' → Ψ (-1) I L' D) (h2 : gPl s u ≠ t → gWayC s u t ≤ 372 → ∀ I' L', Fr 19 24 I L I' L' → TrW I' s u t → Ψ (Int32.ofNat (gWayC s u t)) I' L' D) : e_M 138 [.ref 1, .int (Int32.ofNat u), .int (Int32.ofNat t)] (S0 I L D sc) (e_rI sc Ψ) := by
  have hpl := (h.pl hu).2
  refine vP_findWay (s_placeOf h hu ⟨fun hne => ?_, fun he => h0 ((o_eq (by omega) (by omega)).mp (Classical.not_not.mp he))⟩)
  have hne2 : gPl s u ≠ t := fun e => hne (by rw [e])
  refine s_floodWays h hu (fun L1 hF1 hW1 => ?_)
  refine s_costOf_19 hW1 (gWayC_le h hu) ht (fun hc => ?_) (fun hc => ?_)
  · refine bx_f (o_ne1 (by omega)) ?_
    exact s_trace (h.fr hF1 (by decide)) hu hW1 ht hc (fun I2 L2 hF2 hT => h2 hne2 hc I2 L2 (hF1.tr hF2) hT)
  · exact bx_t rfl (h1 hne2 hc L1 hF1)
theorem s_trailAt {Ψ : Int32 → e_TI → e_TL → e_TD → Prop} {u t : Nat} (hT : TrW I s u t) (hn : gLen s u t ≤ 62) {x : Int32} (h1 : ∀ i, i ≤ gLen s u t → x = Int32.ofNat i → Ψ (Int32.ofNat (gWay s u t i)) I L D) (h0 : (∀ i, i ≤ gLen s u t → x ≠ Int32.ofNat i) → Ψ (-1) I L D) : e_M 141 [.ref 19, .int x] (S0 I L D sc) (e_rI sc Ψ) := by
  refine vWv_trailAt ⟨fun hneg => h0 (fun i hi e => ?_), fun hnn => ?_⟩
  · rw [e] at hneg
    exact b_nn (by omega) hneg
  · obtain ⟨i, hi, rfl⟩ := o_nn hnn
    rw [hT.1, o_lt (by omega) hi]
    refine ⟨fun hlt => h0 (fun j hj e => ?_), fun hge => ?_⟩
    · have := (o_eq hi (by omega)).mp e
      omega
    · refine s_read_23 (by omega) ?_
      rw [hT.2 i (by omega)]
      exact h1 i (by omega) rfl
theorem s_trailAtN {Ψ : Int32 → e_TI → e_TL → e_TD → Prop} {u t i : Nat} (hT : TrW I s u t) (hn : gLen s u t ≤ 62) (hi : i ≤ gLen s u t) (H : Ψ (Int32.ofNat (gWay s u t i)) I L D) : e_M 141 [.ref 19, .int (Int32.ofNat i)] (S0 I L D sc) (e_rI sc Ψ) := by
  refine s_trailAt hT hn (fun j hj e => ?_) (fun h => absurd rfl (h i hi))
  rw [← (o_eq (by omega) (by omega)).mp e]
  exact H
theorem s_steps {Ψ : Int32 → e_TI → e_TL → e_TD → Prop} {u t : Nat} (hT : TrW I s u t) (H : Ψ (Int32.ofNat (gLen s u t)) I L D) : e_M 149 [.ref 19] (S0 I L D sc) (e_rI sc Ψ) := by
  refine vWv_steps ?_
  rw [hT.1]
  exact H
end
