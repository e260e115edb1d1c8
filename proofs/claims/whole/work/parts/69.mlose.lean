/-! the reference: losses, retreats, fights -/
/-- nothing but the row has changed -/
def FrO (I I' : e_TI) : Prop := ∀ c, c ≠ 140 → I' c = I c
theorem FrO.rf {I : e_TI} : FrO I I := fun _ _ => rfl
theorem FrO.tr {I I1 I2 : e_TI} (h : FrO I I1) (h2 : FrO I1 I2) : FrO I I2 := fun c hc => (h2 c hc).trans (h c hc)
theorem FrO.up {I I' : e_TI} (h : FrO I I') {k : Nat} {x : Int32} : FrO I (e_up I' 140 k x) := fun c hc => by rw [up_cell hc]; exact h c hc
theorem row_up {I : e_TI} {s : Nat → Int32} (h : I 140 = s) (k : Nat) (x : Int32) : (e_up I 140 k x) 140 = gset s k x := by
  funext j
  by_cases e : j = k
  · rw [e, up_same, gset_eq]
  · rw [up_slot e, gset_ne e, h]
section
variable {I : e_TI} {L : e_TL} {D : e_TD} {sc : e_TS} {s : Nat → Int32} {u : Nat}
theorem gLose_ma {m a : Nat} (hsd : gSd s u ≤ 1) (ha : a < 3) : gMa (gLose s u m a) = gMa s := by
  unfold gLose
  rw [gMa_ne (by omega), gMa_ne (by omega), gMa_ne (by omega)]
theorem gok.lose (hk : gok s) (hu : u < gMa s) {m a : Nat} (ha : a < 3) (ha0 : 1 ≤ a) : gok (gLose s u m a) := by
  have hsd := (hk.2.2.2.2.2 u hu).1.2
  have hst := (hk.2.2.2.2.2 u hu).2.2.1.2
  have h9 : gSt s u ≤ 9 := hst
  have h1 : gSd s u ≤ 1 := hsd
  unfold gLose
  exact ((hk.unit (f := 2) (by decide) (show gSt s u - min m (gSt s u) ≤ 9 by omega)).low (by omega)).low (by omega)
theorem s_M_lose {Ψ : e_TI → e_TL → e_TD → Prop} (h : MR I s) (hu : u < gMa s) {m a : Nat} (hm : m < 1000) (ha : a < 3) (ha0 : 1 ≤ a) (H : ∀ I', FrO I I' → MR I' (gLose s u m a) → Ψ I' L D) : e_M 290 [.ref 139, .int (Int32.ofNat u), .int (Int32.ofNat m), .int (Int32.ofNat a)] (S0 I L D sc) (e_rV sc Ψ) := by
  have hma := h.ma
  have hst := h.st hu
  have hsd := h.sd hu
  have ei : ∀ k, k < 10 → ((197 : Int32) + (4 * Int32.ofNat (gSd s u))) + Int32.ofNat k = Int32.ofNat (197 + 4 * gSd s u + k) := fun k _ => by
    rw [show (197 : Int32) = Int32.ofNat 197 from rfl, show (4 : Int32) = Int32.ofNat 4 from rfl, o_mul, o_add, o_add]
  have e3 : ((197 : Int32) + (4 * Int32.ofNat (gSd s u))) + 3 = Int32.ofNat (197 + 4 * gSd s u + 3) := ei 3 (by decide)
  refine vM_lose (s_M_st h hu (s_minN (by omega) (by omega) (s_M_sd h hu (s_M_unitAt 2 ?_))))
  rw [ei a (by omega), e3, o_ix (a := 205 + 6 * u + 2) (by omega), o_ix (a := 197 + 4 * gSd s u + a) (by omega), o_ix (a := 197 + 4 * gSd s u + 3) (by omega)]
  have v2 : I 140 (205 + 6 * u + 2) = Int32.ofNat (gSt s u) := by rw [h.2]; exact (h.un hu).2.2.1.1
  rw [v2, o_sub (show min m (gSt s u) ≤ gSt s u from Nat.min_le_right _ _)]
  have r1 := row_up h.2 (205 + 6 * u + 2) (Int32.ofNat (gSt s u - min m (gSt s u)))
  have va : (e_up I 140 (205 + 6 * u + 2) (Int32.ofNat (gSt s u - min m (gSt s u)))) 140 (197 + 4 * gSd s u + a) = s (197 + 4 * gSd s u + a) := by rw [r1, gset_ne (by omega)]
  rw [va]
  have r2 := row_up r1 (197 + 4 * gSd s u + a) (s (197 + 4 * gSd s u + a) + Int32.ofNat (min m (gSt s u)))
  obtain ⟨J, hJ⟩ : ∃ J, e_up (e_up I 140 (205 + 6 * u + 2) (Int32.ofNat (gSt s u - min m (gSt s u)))) 140 (197 + 4 * gSd s u + a) (s (197 + 4 * gSd s u + a) + Int32.ofNat (min m (gSt s u))) = J := ⟨_, rfl⟩
  have hF : FrO I J := by rw [← hJ]; exact FrO.rf.up.up
  rw [hJ] at r2
  rw [hJ]
  have hk2 : gok (gset (gset s (205 + 6 * u + 2) (Int32.ofNat (gSt s u - min m (gSt s u)))) (197 + 4 * gSd s u + a) (s (197 + 4 * gSd s u + a) + Int32.ofNat (min m (gSt s u)))) := (h.1.unit (f := 2) (by decide) (show gSt s u - min m (gSt s u) ≤ 9 by omega)).low (by omega)
  have hJR : MR J (gset (gset s (205 + 6 * u + 2) (Int32.ofNat (gSt s u - min m (gSt s u)))) (197 + 4 * gSd s u + a) (s (197 + 4 * gSd s u + a) + Int32.ofNat (min m (gSt s u)))) := ⟨hk2, r2⟩
  have v3 : J 140 (197 + 4 * gSd s u + 3) = s (197 + 4 * gSd s u + 3) := by rw [r2, gset_ne (by omega), gset_ne (by omega)]
  refine ⟨o_in (by omega), o_in (by omega), o_in (by omega), o_in (by omega), o_in (by omega), s_M_st hJR (by rw [gMa_ne (by omega), gMa_ne (by omega)]; exact hu) ?_⟩
  rw [gSt_low (by omega), gSt_up (by omega), if_pos rfl, v3]
  have r3 := fun x => row_up r2 (197 + 4 * gSd s u + 3) x
  refine ⟨fun hne => ⟨o_in (by omega), H _ hF.up ?_⟩, fun he => ⟨o_in (by omega), H _ hF.up ?_⟩⟩
  · have h0 : ¬ gSt s u - min m (gSt s u) = 0 := fun e => hne (by rw [e]; rfl)
    have e : gLose s u m a = gset (gset (gset s (205 + 6 * u + 2) (Int32.ofNat (gSt s u - min m (gSt s u)))) (197 + 4 * gSd s u + a) (s (197 + 4 * gSd s u + a) + Int32.ofNat (min m (gSt s u)))) (197 + 4 * gSd s u + 3) (s (197 + 4 * gSd s u + 3) + 0) := by
      unfold gLose
      rw [if_neg (show ¬ gSt s u ≤ m by omega)]
      rfl
    exact ⟨h.1.lose hu ha ha0, by rw [e]; exact r3 _⟩
  · have h0 : gSt s u - min m (gSt s u) = 0 := (o_eq (b := 0) (by omega) (by decide)).mp (Classical.not_not.mp he)
    have e : gLose s u m a = gset (gset (gset s (205 + 6 * u + 2) (Int32.ofNat (gSt s u - min m (gSt s u)))) (197 + 4 * gSd s u + a) (s (197 + 4 * gSd s u + a) + Int32.ofNat (min m (gSt s u)))) (197 + 4 * gSd s u + 3) (s (197 + 4 * gSd s u + 3) + 1) := by
      unfold gLose
      rw [if_pos (show gSt s u ≤ m by omega)]
      rfl
    exact ⟨h.1.lose hu ha ha0, by rw [e]; exact r3 _⟩
theorem gEach_up {f : Nat → (Nat → Int32) → (Nat → Int32)} {q : Nat → Bool} {n : Nat} (hz : ∀ v, n ≤ v → q v = false) : ∀ m, n ≤ m → gEach f q m s = gEach f q n s := by
  intro m hm
  induction m with
  | zero => rw [Nat.le_zero.mp hm]
  | succ m ih =>
    by_cases h : n = m + 1
    · rw [h]
    · show (if q m then f m (gEach f q m s) else gEach f q m s) = _
      rw [hz m (by omega), if_neg (by decide), ih (by omega)]
theorem gEach_s0 {f : Nat → (Nat → Int32) → (Nat → Int32)} {q : Nat → Bool} {i : Nat} (h : q i = false) : gEach f q (i + 1) s = gEach f q i s := by
  show (if q i then _ else _) = _
  rw [h]
  rfl
theorem gEach_s1 {f : Nat → (Nat → Int32) → (Nat → Int32)} {q : Nat → Bool} {i : Nat} (h : q i = true) : gEach f q (i + 1) s = f i (gEach f q i s) := by
  show (if q i then _ else _) = _
  rw [h]
  rfl
theorem s_M_loseAll {Ψ : e_TI → e_TL → e_TD → Prop} (h : MR I s) {q : Nat → Bool} (hq : ∀ v, q v = true → gU s v = true) (H : ∀ I', FrO I I' → MR I' (gLoseAll s q) → Ψ I' L D) : e_M 291 [.ref 139, .int (sI q), .int 0] (S0 I L D sc) (e_rV sc Ψ) := by
  have hma := h.ma
  have key : ∀ i, i ≤ gMa s → ∀ I', FrO I I' → MR I' (gEach (fun u s => gLose s u 1 1) q i s) → gMa (gEach (fun u s => gLose s u 1 1) q i s) = gMa s → e_Wp 291 5 [some (.ref 139), some (.int (sI q)), some (.int 0), some (.int 1), some (.int (Int32.ofNat i))] [] (S0 I' L D sc) 0 0 (e_rV sc Ψ) := by
    refine e_downInd (G := fun i => ∀ I', FrO I I' → MR I' (gEach (fun u s => gLose s u 1 1) q i s) → gMa (gEach (fun u s => gLose s u 1 1) q i s) = gMa s → e_Wp 291 5 [some (.ref 139), some (.int (sI q)), some (.int 0), some (.int 1), some (.int (Int32.ofNat i))] [] (S0 I' L D sc) 0 0 (e_rV sc Ψ)) (gMa s) (fun i hi ih I' hF hR hM => ?_) (fun I' hF hR hM => ?_)
    · have hgo := hR.go (i := i) (by omega)
      refine vM_loseAll_p5 (bx_f hgo (bx_f (by decide) ⟨fun hn => ?_, fun he => ?_⟩))
      · rw [sI_sar q i (by omega), Bool.not_eq_true] at hn
        rw [o_s]
        exact ih I' hF (by rw [gEach_s0 hn]; exact hR) (by rw [gEach_s0 hn]; exact hM)
      · rw [Classical.not_not, sI_sar q i (by omega)] at he
        have hsd := hR.sd (u := i) (by omega)
        refine s_M_lose hR (u := i) (m := 1) (a := 1) (by omega) (by decide) (by decide) (by decide) (fun I2 hF2 hR2 => bx_f (fun h0 => h0 rfl) ?_)
        rw [o_s]
        refine ih I2 (hF.tr hF2) (by rw [gEach_s1 he]; exact hR2) ?_
        rw [gEach_s1 he, gLose_ma hsd (by decide)]
        exact hM
    · have hend : I' 140 196 ≤ Int32.ofNat (gMa s) := by
        have := hR.end
        rwa [hM] at this
      refine vM_loseAll_p5 (bx_t hend (H I' hF ?_))
      unfold gLoseAll
      rw [gEach_up (n := gMa s) (fun v hv => by
        cases hqv : q v with
        | false => rfl
        | true => exact absurd (gU_lt (hq v hqv)) (by omega)) 16 hma]
      exact hR
  exact vM_loseAll (key 0 (Nat.zero_le _) I FrO.rf h rfl)
theorem s_M_loseOne {Ψ : e_TI → e_TL → e_TD → Prop} (h : MR I s) {q : Nat → Bool} (hq : ∀ v, q v = true → v < gMa s) (hex : ∃ v, q v = true) (H : ∀ I', FrO I I' → MR I' (gLose s (gLow q) 1 1) → Ψ I' L D) : e_M 291 [.ref 139, .int (sI q), .int 1] (S0 I L D sc) (e_rV sc Ψ) := by
  have hma := h.ma
  refine vM_loseAll (loop_F (G := fun i => e_Wp 291 5 [some (.ref 139), some (.int (sI q)), some (.int 1), some (.int 1), some (.int i)] [] (S0 I L D sc) 0 0 (e_rV sc Ψ)) q (gMa s) (fun i hi hb K => ?_) (fun hno => ?_))
  · refine vM_loseAll_p5 (bx_f (h.go hi) (bx_f (by decide) ⟨fun hn => ?_, fun he => ?_⟩))
    · rw [sI_sar q i (by omega), Bool.not_eq_true] at hn
      exact K hn
    · rw [Classical.not_not, sI_sar q i (by omega)] at he
      have el := gLow_eq (by omega) he hb
      rw [el] at H
      refine s_M_lose h (u := i) (m := 1) (a := 1) hi (by decide) (by decide) (by decide) (fun I2 hF2 hR2 => bx_t (by decide) ?_)
      by_cases hlast : I2 140 196 ≤ Int32.ofNat i + 1
      · exact vM_loseAll_p5 (bx_t hlast (H I2 hF2 hR2))
      · exact vM_loseAll_p5 (bx_f hlast (bx_t rfl (H I2 hF2 hR2)))
  · obtain ⟨v, hv⟩ := hex
    have := hno v (hq v hv)
    rw [hv] at this
    cases this
end
