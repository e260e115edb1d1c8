/-! the reference: supply, costs of ways -/
section
variable {I : e_TI} {L : e_TL} {D : e_TD} {sc : e_TS} {s : Nat → Int32}
theorem MR.fr (h : MR I s) {lo hi : Nat} {I' : e_TI} {L' : e_TL} (hF : Fr lo hi I L I' L') (hb : 140 < lo ∨ hi ≤ 140) : MR I' s := ⟨h.1, by rw [(hF 140 (by omega)).1]; exact h.2⟩
theorem mPr_ok (h : MR I s) {op : Nat → Bool} (ho : ∀ c, c < 63 → op c = true → gTer s c ≠ 5) : ∀ c, c < 63 → op c = true → 1 ≤ gPr s c ∧ gPr s c ≤ 6 := by
  intro c hc hop
  have := ho c hc hop
  have h2 := (h.ter hc).2
  exact ⟨gPrice_pos _ _ (by omega) h.wx.2, gPrice_le _ _⟩
theorem gSupO_ter {d c : Nat} (hc : c < 63) (h : gSupO s d c = true) : gTer s c ≠ 5 := by
  intro e
  unfold gSupO gClosed gWat at h
  rw [e, decide_eq_true hc] at h
  simp at h
theorem mSupC_le (h : MR I s) (d c : Nat) : gSupC s d c ≤ 372 ∨ gSupC s d c = 1000000 := fC_le (mPr_ok h (fun _ hc ho => gSupO_ter hc ho)) (fun c hc => by
  unfold gSupF gSrc at hc
  simp only [Bool.and_eq_true, decide_eq_true_eq] at hc
  exact hc.1.1) c
theorem s_M_findSupply {Ψ : e_TI → e_TL → e_TD → Prop} (h : MR I s) {d : Nat} (hd : d ≤ 1) (H : ∀ I', Fr 143 144 I L I' L → (∀ c, c < 63 → I' 143 c = Int32.ofNat (gSupC s d c)) → Ψ I' L D) : e_M 258 [.ref 139, .int (Int32.ofNat d)] (S0 I L D sc) (e_rV sc Ψ) := by
  refine vM_findSupply (s_M_closed h hd (s_M_sources h hd ?_))
  rw [sL_not, sL_and]
  have hfi : ∀ c, gSupF s d c = true → c < 63 := fun c hc => by
    unfold gSupF gSrc at hc
    simp only [Bool.and_eq_true, decide_eq_true_eq] at hc
    exact hc.1.1
  have main := relax (fi := gSupF s d) (op := gSupO s d) (sp := gNo) (ba := gNo) (rd := gRd s) (pr := gPr s)
    (G1 := fun f b => ∀ I', Fr 143 144 I L I' L → (∀ c, c < 63 → I' 143 c = Int32.ofNat (f c)) → e_Wp 258 61 [some (.ref 139), some (.int (Int32.ofNat d)), some (.long (sL fun c => !gClosed s d c)), none, some (.long (sL fun i => gSrc s d i && !gClosed s d i)), none, some (.int (e_b b)), none, none, none] [] (S0 I' L D sc) 0 0 (e_rV sc Ψ))
    (G2 := fun f b a => ∀ I', Fr 143 144 I L I' L → (∀ c, c < 63 → I' 143 c = Int32.ofNat (f c)) → e_Wp 258 72 [some (.ref 139), some (.int (Int32.ofNat d)), some (.long (sL fun c => !gClosed s d c)), none, some (.long (sL fun i => gSrc s d i && !gClosed s d i)), none, some (.int (e_b b)), some (.int (Int32.ofNat a)), none, none] [] (S0 I' L D sc) 0 0 (e_rV sc Ψ))
    (G3 := fun f b a k => ∀ I', Fr 143 144 I L I' L → (∀ c, c < 63 → I' 143 c = Int32.ofNat (f c)) → e_Wp 258 82 [some (.ref 139), some (.int (Int32.ofNat d)), some (.long (sL fun c => !gClosed s d c)), none, some (.long (sL fun i => gSrc s d i && !gClosed s d i)), none, some (.int (e_b b)), some (.int (Int32.ofNat a)), some (.int (Int32.ofNat k)), none] [] (S0 I' L D sc) 0 0 (e_rV sc Ψ))
    (mPr_ok h (fun _ hc ho => gSupO_ter hc ho)) hfi
    (fun f hf I' hF hV => vM_findSupply_p61 (bx_t rfl (H I' hF (fun c hc => by rw [hV c hc, hf c hc]; rfl))))
    (fun f hJ hG I' hF hV => vM_findSupply_p61 (bx_f (by decide) (hG I' hF hV)))
    (fun f b hJ hG I' hF hV => vM_findSupply_p72 (bx_t (b_self 63) (hG I' hF hV)))
    (fun f b a ha hJ hG I' hF hV => vM_findSupply_p72 (bx_f (b_ge ha) (hG I' hF hV)))
    (fun f b a ha hJ hG I' hF hV => vM_findSupply_p82 (bx_t (b_self 6) (by rw [o_s]; exact hG I' hF hV)))
    (fun f b a k ha hk hJ k1 k2 k3 I' hF hV => by
      have hI := h.fr hF (by decide)
      have hJa := hJ.2.2 a ha
      refine vM_findSupply_p82 (bx_f (b_ge hk) ⟨o_in ha, ?_⟩)
      rw [o_ix (a := a) (by omega), hV a ha, o_s, o_s]
      have cmp : ((1000000 : Int32) ≤ Int32.ofNat (f a)) ↔ 1000000 ≤ f a := o_le (a := 1000000) (by decide) (by omega)
      rw [cmp]
      refine ⟨fun hfar => k1 hfar I' hF hV, fun hlt => s_M_next ha hk ?_⟩
      have hlt' : f a < 1000000 := Nat.lt_of_not_le hlt
      cases hn : nb a k with
      | none => exact bx_t (by decide) (k2 hlt' (fun r hr _ => by rw [hn] at hr; cases hr) I' hF hV)
      | some r =>
        have hr : r < 63 := nb_lt ⟨a, ha⟩ ⟨k, hk⟩ r hn
        have hJr := hJ.2.2 r hr
        have est : fst_ (gSupF s d) (gSupO s d) gNo gNo a r = !gClosed s d r := by
          unfold fst_ gSupO gNo
          rw [decide_eq_true ha, nb_adj k hk hn, decide_eq_true hr]
          simp
        rw [show o_opt (some r) = Int32.ofNat r from rfl]
        refine bx_f (b_nn (by omega)) (s_M_has hr (bx_b (fun h0 => k2 hlt' (fun r' hr' hs => ?_) I' hF hV) (fun h1 => ⟨o_in ha, ?_⟩)))
        · rw [hn] at hr'
          cases hr'
          rw [est, h0] at hs
          cases hs
        · have hs : fst_ (gSupF s d) (gSupO s d) gNo gNo a r = true := est.trans h1
          have ht : gTer s r < 5 := by
            have := gSupO_ter hr (fst_op hs)
            have := (h.ter hr).2
            omega
          have hw : gStepC s a r = fw_ (gRd s) (gPr s) a r := rfl
          have hw6 : fw_ (gRd s) (gPr s) a r ≤ 6 := by
            unfold fw_
            split
            · decide
            · exact gPrice_le _ _
          refine s_M_stepCost hI ha hr ht ⟨o_in hr, ?_⟩
          rw [o_ix (a := r) (by omega), hV a ha, hV r hr, hw, o_add, o_le (by omega) (by omega)]
          refine ⟨fun hle => k2 hlt' (fun r' hr' _ => ?_) I' hF hV, fun hgt => ⟨o_in ha, s_M_stepCost hI ha hr ht ⟨o_in hr, ?_⟩⟩⟩
          · rw [hn] at hr'
            cases hr'
            exact hle
          · rw [hw, o_add]
            refine k3 r hlt' hn hr hs (by omega) _ (hF.upI (by decide)) (fun c hc => ?_)
            unfold fup
            by_cases e : c = r
            · rw [e, up_same, if_pos rfl]
            · rw [up_slot e, if_neg e]
              exact hV c hc)
  have init : ∀ i, i ≤ 63 → ∀ I', Fr 143 144 I L I' L → (∀ c, c < i → I' 143 c = Int32.ofNat (if gSupF s d c = true then 0 else 1000000)) → e_Wp 258 22 [some (.ref 139), some (.int (Int32.ofNat d)), some (.long (sL fun c => !gClosed s d c)), none, some (.long (sL fun i => gSrc s d i && !gClosed s d i)), none, some (.int (Int32.ofNat i)), none, none, none] [] (S0 I' L D sc) 0 0 (e_rV sc Ψ) := by
    refine e_downInd (G := fun i => ∀ I', Fr 143 144 I L I' L → (∀ c, c < i → I' 143 c = Int32.ofNat (if gSupF s d c = true then 0 else 1000000)) → e_Wp 258 22 [some (.ref 139), some (.int (Int32.ofNat d)), some (.long (sL fun c => !gClosed s d c)), none, some (.long (sL fun i => gSrc s d i && !gClosed s d i)), none, some (.int (Int32.ofNat i)), none, none, none] [] (S0 I' L D sc) 0 0 (e_rV sc Ψ)) 63 (fun i hi ih I' hF hV => ?_) (fun I' hF hV => ?_)
    · refine vM_findSupply_p22 (bx_f (b_ge hi) (s_M_has hi (bx_b (fun h0 => ⟨o_in hi, ?_⟩) (fun h1 => ⟨o_in hi, ?_⟩))))
      · rw [o_ix (a := i) (by omega), o_s]
        refine ih _ (hF.upI (by decide)) (fun c hc => ?_)
        by_cases e : c = i
        · have : gSupF s d i = false := h0
          rw [e, up_same, this, if_neg (by decide)]
          rfl
        · rw [up_slot e]
          exact hV c (by omega)
      · rw [o_ix (a := i) (by omega), o_s]
        refine ih _ (hF.upI (by decide)) (fun c hc => ?_)
        by_cases e : c = i
        · have : gSupF s d i = true := h1
          rw [e, up_same, this, if_pos rfl]
          rfl
        · rw [up_slot e]
          exact hV c (by omega)
    · refine vM_findSupply_p22 (bx_t (b_self 63) (main (fun c => if gSupF s d c = true then 0 else 1000000) ⟨fun c hc hlt => ?_, fun c hc => ?_, fun c hc => ?_⟩ I' hF hV))
      · by_cases e : gSupF s d c = true
        · show Wk _ _ _ c (if gSupF s d c = true then 0 else 1000000)
          rw [if_pos e]
          exact Wk.base c e
        · exfalso
          have : (if gSupF s d c = true then 0 else 1000000) < 1000000 := hlt
          rw [if_neg e] at this
          exact absurd this (by decide)
      · show (if gSupF s d c = true then 0 else 1000000) = 0
        rw [if_pos hc]
      · show (if gSupF s d c = true then 0 else 1000000) ≤ 1000000
        split <;> decide
  exact init 0 (Nat.zero_le _) I Fr.rf (fun c hc => absurd hc (Nat.not_lt_zero _))
theorem s_M_supplied {Ψ : Int64 → e_TI → e_TL → e_TD → Prop} (h : MR I s) {d : Nat} (hd : d ≤ 1) (H : ∀ I', Fr 143 144 I L I' L → Ψ (sL (gSup s d)) I' L D) : e_M 259 [.ref 139, .int (Int32.ofNat d)] (S0 I L D sc) (e_rL sc Ψ) := by
  refine vM_suppliedCells (s_M_findSupply h hd (fun I' hF hV => loop_L (G := fun y i => e_Wp 259 10 [some (.ref 139), some (.int (Int32.ofNat d)), some (.long y), none, some (.int i)] [] (S0 I' L D sc) 0 0 (e_rL sc Ψ)) (fun c b => gSup s d c && c == b) 63 (fun i y hi K0 K1 => ?_) ?_))
  · have hI := h.fr hF (by decide)
    obtain ⟨r1, r2, r3⟩ := hI.rg
    have hle := mSupC_le h d i
    refine vM_suppliedCells_p10 (bx_f (b_ge hi) ⟨o_in hi, ?_⟩)
    rw [o_ix (a := i) (by omega), hV i hi, r1, o_lt (by omega) (by omega)]
    refine ⟨fun hlt => ?_, fun hge => ?_⟩
    · rw [orL0]
      refine K0 (fun b _ => ?_)
      unfold gSup
      rw [decide_eq_false (p := gSupC s d i ≤ gRg s) (by omega), Bool.and_false, Bool.false_and]
    · rw [sL_only i hi]
      refine K1 _ (fun b _ => ?_)
      unfold gSup
      rw [decide_eq_true hi, decide_eq_true (p := gSupC s d i ≤ gRg s) (by omega)]
      exact BEq.comm
  · refine vM_suppliedCells_p10 (bx_t (b_self 63) ?_)
    rw [gather_L (gSup s d), sL_congr (q := gSup s d)]
    · exact H I' hF
    · intro c _
      unfold gSup
      rw [← Bool.and_assoc, Bool.and_self]
theorem s_M_isSupplied {Ψ : Int32 → e_TI → e_TL → e_TD → Prop} (h : MR I s) {u : Nat} (hu : u < gMa s) (H : ∀ I', Fr 143 144 I L I' L → Ψ (e_b (gIsS s u)) I' L D) : e_M 265 [.ref 139, .int (Int32.ofNat u)] (S0 I L D sc) (e_rI sc Ψ) := by
  refine vM_isSupplied (s_M_sd h hu (s_M_findSupply h (h.sd hu) (fun I' hF hV => s_M_pl (h.fr hF (by decide)) hu ?_)))
  have hI := h.fr hF (by decide)
  have hp := h.pl hu
  obtain ⟨r1, r2, r3⟩ := hI.rg
  have hle := mSupC_le h (gSd s u) (gPl s u)
  have H' := H I' hF
  unfold gIsS gSup at H'
  rw [o_ix (a := gPl s u) (by omega), hV _ hp, r1, o_lt (by omega) (by omega)]
  rw [decide_eq_true hp, Bool.true_and] at H'
  refine ⟨o_in hp, fun hlt => ?_, fun hge => ?_⟩
  · rw [decide_eq_false (by omega)] at H'
    exact H'
  · rw [decide_eq_true (by omega)] at H'
    exact H'
theorem s_M_force {Ψ : Int32 → e_TI → e_TL → e_TD → Prop} (h : MR I s) {u : Nat} (hu : u < gMa s) (H : ∀ I', Fr 143 144 I L I' L → Ψ (Int32.ofNat (gForce s u)) I' L D) : e_M 266 [.ref 139, .int (Int32.ofNat u), .int 2] (S0 I L D sc) (e_rI sc Ψ) := by
  have h9 := h.st hu
  refine vM_reduced (s_M_isSupplied h hu (fun I' hF => bx_b (fun h0 => s_M_st (h.fr hF (by decide)) hu ?_) (fun h1 => s_M_st (h.fr hF (by decide)) hu ?_)))
  · have H' := H I' hF
    unfold gForce gHalf at H'
    rw [h0, if_neg (by decide)] at H'
    rw [o_s, show (2 : Int32) = Int32.ofNat 2 from rfl, o_div (by omega) (by decide)]
    exact H'
  · have H' := H I' hF
    unfold gForce at H'
    rw [h1, if_pos rfl] at H'
    exact H'
theorem s_M_allow {Ψ : Int32 → e_TI → e_TL → e_TD → Prop} (h : MR I s) {u : Nat} (hu : u < gMa s) (H : ∀ I', Fr 143 144 I L I' L → Ψ (Int32.ofNat (gAllow s u)) I' L D) : e_M 266 [.ref 139, .int (Int32.ofNat u), .int 3] (S0 I L D sc) (e_rI sc Ψ) := by
  have h9 := h.mv hu
  refine vM_reduced (s_M_isSupplied h hu (fun I' hF => bx_b (fun h0 => s_M_mv (h.fr hF (by decide)) hu ?_) (fun h1 => s_M_mv (h.fr hF (by decide)) hu ?_)))
  · have H' := H I' hF
    unfold gAllow gHalf at H'
    rw [h0, if_neg (by decide)] at H'
    rw [o_s, show (2 : Int32) = Int32.ofNat 2 from rfl, o_div (by omega) (by decide)]
    exact H'
  · have H' := H I' hF
    unfold gAllow at H'
    rw [h1, if_pos rfl] at H'
    exact H'
theorem s_M_canAttack {Ψ : Int32 → e_TI → e_TL → e_TD → Prop} (h : MR I s) {u : Nat} (hu : u < gMa s) (H : Ψ (e_b (gCanA s u)) I L D) : e_M 267 [.ref 139, .int (Int32.ofNat u)] (S0 I L D sc) (e_rI sc Ψ) := by
  obtain ⟨t1, t2⟩ := h.tu
  have hs := h.sd hu
  unfold gCanA at H
  refine vM_canAttack (s_M_sd h hu ?_)
  rw [t1]
  refine ⟨fun hn => ?_, fun he => s_M_at h hu (bx_n (fun h1 => ?_) (fun h0 => ?_))⟩
  · rw [beq_false_of_ne (fun e => hn (by rw [e])), Bool.false_and] at H
    exact H
  · rw [h1, Bool.not_true, Bool.and_false] at H
    exact H
  · have e := (o_eq (by omega) (by omega)).mp (Classical.not_not.mp he)
    rw [h0, e, beq_self_eq_true] at H
    exact H
theorem s_M_canMove {Ψ : Int32 → e_TI → e_TL → e_TD → Prop} (h : MR I s) {u : Nat} (hu : u < gMa s) (H : Ψ (e_b (gCanA s u && !gMd s u)) I L D) : e_M 268 [.ref 139, .int (Int32.ofNat u)] (S0 I L D sc) (e_rI sc Ψ) := by
  refine vM_canMove (s_M_canAttack h hu (bx_b (fun h0 => ?_) (fun h1 => s_M_md h hu (bx_n (fun h2 => ?_) (fun h2 => ?_)))))
  · rw [h0, Bool.false_and] at H
    exact H
  · rw [h2, Bool.not_true, Bool.and_false] at H
    exact H
  · rw [h1, h2] at H
    exact H
end
