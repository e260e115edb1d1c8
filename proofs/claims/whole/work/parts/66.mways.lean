/-! the reference: a unit's ways -/
def FrW (I : e_TI) (L : e_TL) (I' : e_TI) (L' : e_TL) : Prop := (∀ c, c ≠ 139 → c ≠ 144 → I' c = I c ∧ L' c = L c) ∧ ∀ k, k ≠ 11 → I' 139 k = I 139 k
theorem FrW.rf {I : e_TI} {L : e_TL} : FrW I L I L := ⟨fun _ _ _ => ⟨rfl, rfl⟩, fun _ _ => rfl⟩
theorem FrW.up4 {I I' : e_TI} {L L' : e_TL} (h : FrW I L I' L') {k : Nat} {x : Int32} : FrW I L (e_up I' 144 k x) L' := ⟨fun c h1 h2 => ⟨by rw [up_cell h2]; exact (h.1 c h1 h2).1, (h.1 c h1 h2).2⟩, fun j hj => by rw [up_cell (by decide)]; exact h.2 j hj⟩
theorem FrW.up9 {I I' : e_TI} {L L' : e_TL} (h : FrW I L I' L') {x : Int32} : FrW I L (e_up I' 139 11 x) L' := ⟨fun c h1 h2 => ⟨by rw [up_cell h1]; exact (h.1 c h1 h2).1, (h.1 c h1 h2).2⟩, fun j hj => by rw [up_slot hj]; exact h.2 j hj⟩
theorem FrW.upL {I I' : e_TI} {L L' : e_TL} (h : FrW I L I' L') {k : Nat} {x : Int64} : FrW I L I' (e_up L' 139 k x) := ⟨fun c h1 h2 => ⟨(h.1 c h1 h2).1, by rw [up_cell h1]; exact (h.1 c h1 h2).2⟩, h.2⟩
theorem MR.fw {I I' : e_TI} {L L' : e_TL} {s : Nat → Int32} (h : MR I s) (hF : FrW I L I' L') : MR I' s := ⟨h.1, by rw [(hF.1 140 (by decide) (by decide)).1]; exact h.2⟩
def WyR (I : e_TI) (L : e_TL) (s : Nat → Int32) (u : Nat) : Prop := I 139 11 = sI (gKnown s (gSd s u)) ∧ L 139 8 = sL (gCells s (gKnown s (gSd s u))) ∧ L 139 9 = sL (gKZ s u) ∧ L 139 10 = sL (gCells s (fun v => gOwn s (gSd s u) v && !(v == u)))
def WyC (I : e_TI) (s : Nat → Int32) (u : Nat) : Prop := ∀ c, c < 63 → I 144 c = Int32.ofNat (gWayC s u c)
/-- a step of the unit's ways -/
def gStp (s : Nat → Int32) (u a b : Nat) : Bool := fst_ (fun c => c == gPl s u) (gWayO s u) (gWayS s u) (gWayB s u) a b
noncomputable def gTgt (s : Nat → Int32) (u a b : Nat) : Bool := tgt (fun c => c == gPl s u) (gWayO s u) (gWayS s u) (gWayB s u) (gRd s) (gPr s) a b
section
variable {I : e_TI} {L : e_TL} {D : e_TD} {sc : e_TS} {s : Nat → Int32} {u : Nat}
theorem gCells_but (b : Nat) (q : Nat → Bool) (hb : b ≠ gPl s u) : gCells s (fun v => q v && !(v == u)) b = gCells s q b := by
  unfold gCells
  rw [Bool.eq_iff_iff, List.any_eq_true, List.any_eq_true]
  constructor
  · rintro ⟨v, hv, h⟩
    simp only [Bool.and_eq_true, beq_iff_eq] at h
    exact ⟨v, hv, by simp only [Bool.and_eq_true, beq_iff_eq]; exact ⟨⟨h.1.1.1, h.1.2⟩, h.2⟩⟩
  · rintro ⟨v, hv, h⟩
    simp only [Bool.and_eq_true, beq_iff_eq] at h
    refine ⟨v, hv, ?_⟩
    have : v ≠ u := fun e => hb (by rw [← h.2, e])
    show (q v && !(v == u) && gU s v && gPl s v == b) = true
    rw [beq_false_of_ne this]
    simp only [Bool.and_eq_true, beq_iff_eq, Bool.not_false]
    exact ⟨⟨⟨h.1.1, trivial⟩, h.1.2⟩, h.2⟩
theorem gStp_eq {a b : Nat} (ha : a < 63) (hb : b < 63) (hab : adj a b = true) : gStp s u a b = (!(gTer s b == 5) && !gCells s (gKnown s (gSd s u)) b && !(gKZ s u a && !(a == gPl s u)) && !((a == gPl s u) && (gKZ s u a && (gKZ s u b && !gCells s (fun v => gOwn s (gSd s u) v && !(v == u)) b)))) := by
  unfold gStp fst_ gWayO gWayS gWayB gWat
  rw [decide_eq_true ha, decide_eq_true hb, hab]
  by_cases hp : a = gPl s u
  · have hne : b ≠ gPl s u := fun e => by
      have h0 := dst_adj ⟨a, ha⟩ ⟨b, hb⟩
      rw [hab] at h0
      have h1 : dst a b = 1 := (beq_iff_eq.mp h0.symm)
      rw [(dst_zero ha hb).mpr (by rw [hp, e])] at h1
      cases h1
    rw [gCells_but b _ hne, ← hp]
    simp only [Bool.true_and]
  · have e := beq_false_of_ne hp
    simp only [e, Bool.true_and, Bool.false_and]
theorem gStp_nw (h : MR I s) {a b : Nat} (hs : gStp s u a b = true) : b < 63 ∧ gTer s b < 5 := by
  obtain ⟨_, hb, _⟩ := fst_nb hs
  have ho := fst_op hs
  have := (h.ter hb).2
  have h5 : gTer s b ≠ 5 := by
    intro e
    unfold gWayO gWat at ho
    rw [e, decide_eq_true hb] at ho
    simp at ho
  exact ⟨hb, by omega⟩
theorem s_M_hasX {Ψ : Int32 → e_TI → e_TL → e_TD → Prop} {p : Nat → Bool} {c : Nat} {x : Int64} (hx : x = sL p) (hc : c < 63) (H : Ψ (e_b (p c)) I L D) : e_M 241 [.long x, .int (Int32.ofNat c)] (S0 I L D sc) (e_rI sc Ψ) := by
  rw [hx]
  exact s_M_has hc H
theorem s_M_isStep {Ψ : Int32 → e_TI → e_TL → e_TD → Prop} (h : MR I s) (hu : u < gMa s) (hW : WyR I L s u) {a b : Nat} (ha : a < 63) (hb : b < 63) (hab : adj a b = true) (H : Ψ (e_b (gStp s u a b)) I L D) : e_M 270 [.ref 139, .int (Int32.ofNat (gPl s u)), .int (Int32.ofNat a), .int (Int32.ofNat b)] (S0 I L D sc) (e_rI sc Ψ) := by
  obtain ⟨w1, w2, w3, w4⟩ := hW
  obtain ⟨t1, t2⟩ := h.ter hb
  have hp := h.pl hu
  have e := gStp_eq (s := s) (u := u) ha hb hab
  have fin : ∀ v : Bool, gStp s u a b = v → Ψ (e_b v) I L D := fun v hv => by rw [← hv]; exact H
  refine vM_isStep (bx_f (b_nn (by omega)) ?_)
  rw [o_ix (a := b) (by omega), t1]
  refine ⟨o_in (by omega), fun h5 => fin false ?_, fun h5 => s_M_hasX w2 hb (bx_b (fun hk => s_M_hasX w3 ha (bx_n (fun hz => ⟨fun hn => fin false ?_, fun he => s_M_hasX w3 hb (bx_b (fun hzb => fin true ?_) (fun hzb => s_M_hasX w4 hb (bx_b (fun ho => fin false ?_) (fun ho => fin true ?_))))⟩) (fun hz => fin true ?_))) (fun hk => fin false ?_))⟩
  · have := (o_eq (b := 5) (by omega) (by decide)).mp h5
    rw [e, this]
    simp
  · have : a ≠ gPl s u := fun e => hn (by rw [e])
    rw [e, hz, beq_false_of_ne this]
    simp
  · have n5 : gTer s b ≠ 5 := fun e => h5 (by rw [e]; rfl)
    have := (o_eq (by omega) (by omega)).mp (Classical.not_not.mp he)
    rw [e, hk, hz, hzb, this, beq_self_eq_true, beq_false_of_ne n5]
    simp
  · have n5 : gTer s b ≠ 5 := fun e => h5 (by rw [e]; rfl)
    have := (o_eq (by omega) (by omega)).mp (Classical.not_not.mp he)
    rw [e, hk, hz, hzb, ho, this, beq_self_eq_true, beq_false_of_ne n5]
    simp
  · have n5 : gTer s b ≠ 5 := fun e => h5 (by rw [e]; rfl)
    have := (o_eq (by omega) (by omega)).mp (Classical.not_not.mp he)
    rw [e, hk, hz, hzb, ho, this, beq_self_eq_true, beq_false_of_ne n5]
    simp
  · have n5 : gTer s b ≠ 5 := fun e => h5 (by rw [e]; rfl)
    rw [e, hk, hz, beq_false_of_ne n5]
    simp
  · rw [e, hk]
    simp
theorem s_M_noStep {Ψ : Int32 → e_TI → e_TL → e_TD → Prop} {x y : Int32} (H : Ψ 0 I L D) : e_M 270 [.ref 139, .int x, .int y, .int (-1)] (S0 I L D sc) (e_rI sc Ψ) := vM_isStep (bx_t (by decide) H)
theorem gWayO_ter {c : Nat} (hc : c < 63) (h : gWayO s u c = true) : gTer s c ≠ 5 := by
  intro e
  unfold gWayO gWat at h
  rw [e, decide_eq_true hc] at h
  simp at h
theorem mWayC_le (h : MR I s) (hu : u < gMa s) (c : Nat) : gWayC s u c ≤ 372 ∨ gWayC s u c = 1000000 := fC_le (mPr_ok h (fun _ hc ho => gWayO_ter hc ho)) (fun c hc => by
  have : c = gPl s u := beq_iff_eq.mp hc
  rw [this]
  exact h.pl hu) c
theorem s_M_findWays {Ψ : e_TI → e_TL → e_TD → Prop} (h : MR I s) (hu : u < gMa s) (H : ∀ I' L', FrW I L I' L' → WyR I' L' s u → WyC I' s u → Ψ I' L' D) : e_M 271 [.ref 139, .int (Int32.ofNat u)] (S0 I L D sc) (e_rV sc Ψ) := by
  have hma := h.ma
  have hp := h.pl hu
  have hsd := h.sd hu
  refine vM_findWays (s_M_sd h hu (s_M_knownTo h hsd ?_))
  have F1 : FrW I L (e_up I 139 11 (sI (gKnown s (gSd s u)))) L := FrW.rf.up9
  have h1 := h.fw F1
  refine s_M_cellsOf h1 ?_
  rw [up_same]
  refine s_M_zone h1 (s_M_unitsOf h1 hsd ?_)
  rw [sI_only u (by omega), sI_not, sI_and]
  refine s_M_cellsOf h1 (s_M_pl h1 hu ?_)
  have F2 := ((F1.upL (k := 8) (x := sL (gCells s (gKnown s (gSd s u))))).upL (k := 9) (x := sL (gZoneA s (gCells s (gKnown s (gSd s u)))))).upL (k := 10) (x := sL (gCells s fun i => gOwn s (gSd s u) i && !(i == u)))
  have W2 : WyR (e_up I 139 11 (sI (gKnown s (gSd s u)))) (e_up (e_up (e_up L 139 8 (sL (gCells s (gKnown s (gSd s u))))) 139 9 (sL (gZoneA s (gCells s (gKnown s (gSd s u)))))) 139 10 (sL (gCells s fun i => gOwn s (gSd s u) i && !(i == u)))) s u :=
    ⟨up_same, by rw [up_slot (by decide), up_slot (by decide), up_same], by rw [up_slot (by decide), up_same]; rfl, up_same⟩
  obtain ⟨I0, hI0⟩ : ∃ I0, e_up I 139 11 (sI (gKnown s (gSd s u))) = I0 := ⟨_, rfl⟩
  obtain ⟨L0, hL0⟩ : ∃ L0, (e_up (e_up (e_up L 139 8 (sL (gCells s (gKnown s (gSd s u))))) 139 9 (sL (gZoneA s (gCells s (gKnown s (gSd s u)))))) 139 10 (sL (gCells s fun i => gOwn s (gSd s u) i && !(i == u)))) = L0 := ⟨_, rfl⟩
  rw [hI0, hL0] at F2 W2
  rw [hI0, hL0]
  have keep : ∀ {I' : e_TI} {k : Nat} {x : Int32}, WyR I' L0 s u → WyR (e_up I' 144 k x) L0 s u := fun hh => ⟨by rw [up_cell (by decide)]; exact hh.1, hh.2⟩
  have main := relax (fi := fun c => c == gPl s u) (op := gWayO s u) (sp := gWayS s u) (ba := gWayB s u) (rd := gRd s) (pr := gPr s)
    (G1 := fun f b => ∀ I', FrW I L I' L0 → WyR I' L0 s u → (∀ c, c < 63 → I' 144 c = Int32.ofNat (f c)) → e_Wp 271 104 [some (.ref 139), some (.int (Int32.ofNat u)), some (.int (Int32.ofNat (gSd s u))), some (.int (Int32.ofNat (gPl s u))), some (.int (e_b b)), none, none, none] [] (S0 I' L0 D sc) 0 0 (e_rV sc Ψ))
    (G2 := fun f b a => ∀ I', FrW I L I' L0 → WyR I' L0 s u → (∀ c, c < 63 → I' 144 c = Int32.ofNat (f c)) → e_Wp 271 115 [some (.ref 139), some (.int (Int32.ofNat u)), some (.int (Int32.ofNat (gSd s u))), some (.int (Int32.ofNat (gPl s u))), some (.int (e_b b)), some (.int (Int32.ofNat a)), none, none] [] (S0 I' L0 D sc) 0 0 (e_rV sc Ψ))
    (G3 := fun f b a k => ∀ I', FrW I L I' L0 → WyR I' L0 s u → (∀ c, c < 63 → I' 144 c = Int32.ofNat (f c)) → e_Wp 271 125 [some (.ref 139), some (.int (Int32.ofNat u)), some (.int (Int32.ofNat (gSd s u))), some (.int (Int32.ofNat (gPl s u))), some (.int (e_b b)), some (.int (Int32.ofNat a)), some (.int (Int32.ofNat k)), none] [] (S0 I' L0 D sc) 0 0 (e_rV sc Ψ))
    (mPr_ok h (fun _ hc ho => gWayO_ter hc ho)) (fun c hc => by
      have : c = gPl s u := beq_iff_eq.mp hc
      rw [this]
      exact hp)
    (fun f hf I' hF hR hV => vM_findWays_p104 (bx_t rfl (H I' L0 hF hR (fun c hc => by rw [hV c hc, hf c hc]; rfl))))
    (fun f hJ hG I' hF hR hV => vM_findWays_p104 (bx_f (by decide) (hG I' hF hR hV)))
    (fun f b hJ hG I' hF hR hV => vM_findWays_p115 (bx_t (b_self 63) (hG I' hF hR hV)))
    (fun f b a ha hJ hG I' hF hR hV => vM_findWays_p115 (bx_f (b_ge ha) (hG I' hF hR hV)))
    (fun f b a ha hJ hG I' hF hR hV => vM_findWays_p125 (bx_t (b_self 6) (by rw [o_s]; exact hG I' hF hR hV)))
    (fun f b a k ha hk hJ k1 k2 k3 I' hF hR hV => by
      have hI := h.fw hF
      have hJa := hJ.2.2 a ha
      refine vM_findWays_p125 (bx_f (b_ge hk) ⟨o_in ha, ?_⟩)
      rw [o_ix (a := a) (by omega), hV a ha, o_s, o_s]
      have cmp : ((1000000 : Int32) ≤ Int32.ofNat (f a)) ↔ 1000000 ≤ f a := o_le (a := 1000000) (by decide) (by omega)
      rw [cmp]
      refine ⟨fun hfar => k1 hfar I' hF hR hV, fun hlt => s_M_next ha hk ?_⟩
      have hlt' : f a < 1000000 := Nat.lt_of_not_le hlt
      cases hn : nb a k with
      | none => exact s_M_noStep (bx_t rfl (k2 hlt' (fun r hr _ => by rw [hn] at hr; cases hr) I' hF hR hV))
      | some r =>
        have hr : r < 63 := nb_lt ⟨a, ha⟩ ⟨k, hk⟩ r hn
        have hJr := hJ.2.2 r hr
        rw [show o_opt (some r) = Int32.ofNat r from rfl]
        refine s_M_isStep hI hu hR ha hr (nb_adj k hk hn) (bx_b (fun h0 => k2 hlt' (fun r' hr' hs => ?_) I' hF hR hV) (fun h1 => ⟨o_in ha, ?_⟩))
        · rw [hn] at hr'
          cases hr'
          have : gStp s u a r = true := hs
          rw [h0] at this
          cases this
        · have ht : gTer s r < 5 := (gStp_nw h h1).2
          have hw : gStepC s a r = fw_ (gRd s) (gPr s) a r := rfl
          have hw6 : fw_ (gRd s) (gPr s) a r ≤ 6 := by
            unfold fw_
            split
            · decide
            · exact gPrice_le _ _
          refine s_M_stepCost hI ha hr ht ⟨o_in hr, ?_⟩
          rw [o_ix (a := r) (by omega), hV a ha, hV r hr, hw, o_add, o_le (by omega) (by omega)]
          refine ⟨fun hle => k2 hlt' (fun r' hr' _ => ?_) I' hF hR hV, fun hgt => ⟨o_in ha, s_M_stepCost hI ha hr ht ⟨o_in hr, ?_⟩⟩⟩
          · rw [hn] at hr'
            cases hr'
            exact hle
          · rw [hw, o_add]
            refine k3 r hlt' hn hr h1 (by omega) _ hF.up4 (keep hR) (fun c hc => ?_)
            unfold fup
            by_cases e : c = r
            · rw [e, up_same, if_pos rfl]
            · rw [up_slot e, if_neg e]
              exact hV c hc)
  have init : ∀ i, i ≤ 63 → ∀ I', FrW I L I' L0 → WyR I' L0 s u → (∀ c, c < i → I' 144 c = Int32.ofNat (if c = gPl s u then 0 else 1000000)) → e_Wp 271 69 [some (.ref 139), some (.int (Int32.ofNat u)), some (.int (Int32.ofNat (gSd s u))), some (.int (Int32.ofNat (gPl s u))), some (.int (Int32.ofNat i)), none, none, none] [] (S0 I' L0 D sc) 0 0 (e_rV sc Ψ) := by
    refine e_downInd (G := fun i => ∀ I', FrW I L I' L0 → WyR I' L0 s u → (∀ c, c < i → I' 144 c = Int32.ofNat (if c = gPl s u then 0 else 1000000)) → e_Wp 271 69 [some (.ref 139), some (.int (Int32.ofNat u)), some (.int (Int32.ofNat (gSd s u))), some (.int (Int32.ofNat (gPl s u))), some (.int (Int32.ofNat i)), none, none, none] [] (S0 I' L0 D sc) 0 0 (e_rV sc Ψ)) 63 (fun i hi ih I' hF hR hV => ?_) (fun I' hF hR hV => ?_)
    · refine vM_findWays_p69 (bx_f (b_ge hi) ⟨fun hn => ⟨o_in hi, ?_⟩, fun he => ⟨o_in hi, ?_⟩⟩)
      · rw [o_ix (a := i) (by omega), o_s]
        refine ih _ hF.up4 (keep hR) (fun c hc => ?_)
        by_cases e : c = i
        · rw [e, up_same, if_neg (fun e2 => hn (by rw [e2]))]
          rfl
        · rw [up_slot e]
          exact hV c (by omega)
      · rw [o_ix (a := i) (by omega), o_s]
        refine ih _ hF.up4 (keep hR) (fun c hc => ?_)
        by_cases e : c = i
        · rw [e, up_same, if_pos ((o_eq (by omega) (by omega)).mp (Classical.not_not.mp he))]
          rfl
        · rw [up_slot e]
          exact hV c (by omega)
    · refine vM_findWays_p69 (bx_t (b_self 63) (main (fun c => if c = gPl s u then 0 else 1000000) ⟨fun c hc hlt => ?_, fun c hc => ?_, fun c hc => ?_⟩ I' hF hR hV))
      · by_cases e : c = gPl s u
        · show Wk _ _ _ c (if c = gPl s u then 0 else 1000000)
          rw [if_pos e]
          exact Wk.base c (beq_iff_eq.mpr e)
        · exfalso
          have : (if c = gPl s u then 0 else 1000000) < 1000000 := hlt
          rw [if_neg e] at this
          exact absurd this (by decide)
      · show (if c = gPl s u then 0 else 1000000) = 0
        rw [if_pos (beq_iff_eq.mp hc)]
      · show (if c = gPl s u then 0 else 1000000) ≤ 1000000
        split <;> decide
  exact init 0 (Nat.zero_le _) I0 F2 W2 (fun c hc => absurd hc (Nat.not_lt_zero _))
end
