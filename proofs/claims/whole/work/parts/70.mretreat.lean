/-! the reference: the whole state; a game more is kept; retreats -/
def MW (I : e_TI) (w : Wd) : Prop :=
  I 140 = wG w ∧ (I 139 2 = e_b (wSf w) ∧ (wSf w = true → ∀ k, k < 301 → I 141 k = wSv w k)) ∧ (I 139 4 = Int32.ofNat (wM w) ∧ wM w ≤ 8 ∧ ∀ i, i < wM w → ∀ k, k < 301 → I 142 (301 * i + k) = wP w i k) ∧ (I 139 15 = Int32.ofNat (wL w) ∧ wL w ≤ 3 ∧ ∀ i, i < wL w → I 146 (2 * i) = wRc w i ∧ I 146 (2 * i + 1) = wRd w i) ∧ (I 139 17 = Int32.ofNat (wN w) ∧ wN w ≤ 80 ∧ ∀ i, i < wN w → I 147 i = wB w i)
/-- nothing but the row and what is reckoned anew each time has changed -/
def FQ (I : e_TI) (L : e_TL) (I' : e_TI) (L' : e_TL) : Prop := (∀ c, c ≠ 139 → c ≠ 140 → c ≠ 143 → c ≠ 144 → c ≠ 145 → I' c = I c ∧ L' c = L c) ∧ ∀ k, k ≠ 5 → k ≠ 11 → k ≠ 13 → I' 139 k = I 139 k
section
variable {I I1 I' : e_TI} {L L1 L' : e_TL} {w : Wd}
theorem FQ.rf : FQ I L I L := ⟨fun _ _ _ _ _ _ => ⟨rfl, rfl⟩, fun _ _ _ _ => rfl⟩
theorem FQ.tr (h : FQ I L I1 L1) (h2 : FQ I1 L1 I' L') : FQ I L I' L' := ⟨fun c a b d e f => ⟨(h2.1 c a b d e f).1.trans (h.1 c a b d e f).1, (h2.1 c a b d e f).2.trans (h.1 c a b d e f).2⟩, fun k a b c => (h2.2 k a b c).trans (h.2 k a b c)⟩
theorem FQ.sup (h : Fr 143 144 I L I' L') : FQ I L I' L' := ⟨fun c a b d e f => h c (by omega), fun k a b c => by rw [(h 139 (by decide)).1]⟩
theorem FQ.way (h : FrW I L I' L') : FQ I L I' L' := ⟨fun c a b d e f => h.1 c a e, fun k a b c => h.2 k b⟩
theorem FQ.tra (h : FrT I I') : FQ I L I' L := ⟨fun c a b d e f => ⟨h.1 c a f, rfl⟩, fun k a b c => h.2 k c⟩
theorem FQ.row (h : FrO I I') : FQ I L I' L := ⟨fun c a b d e f => ⟨h c b, rfl⟩, fun k a b c => by rw [h 139 (by decide)]⟩
theorem FQ.thr (h : FQ I L I' L') {x : Int32} : FQ I L (e_up I' 139 5 x) L' := ⟨fun c a b d e f => ⟨by rw [up_cell a]; exact (h.1 c a b d e f).1, (h.1 c a b d e f).2⟩, fun k a b c => by rw [up_slot a]; exact h.2 k a b c⟩
theorem MW.q (h : MW I w) (hF : FQ I L I' L') {g : Nat → Int32} (hg : I' 140 = g) : MW I' (g, w.2) := by
  obtain ⟨h1, ⟨h2, h3⟩, ⟨h4, h5, h6⟩, ⟨h7, h8, h9⟩, ⟨h10, h11, h12⟩⟩ := h
  have c : ∀ c, c = 141 ∨ c = 142 ∨ c = 146 ∨ c = 147 → I' c = I c := fun c hc => (hF.1 c (by omega) (by omega) (by omega) (by omega) (by omega)).1
  refine ⟨hg, ⟨?_, fun hs k hk => ?_⟩, ⟨?_, h5, fun i hi k hk => ?_⟩, ⟨?_, h8, fun i hi => ?_⟩, ⟨?_, h11, fun i hi => ?_⟩⟩
  · rw [hF.2 2 (by decide) (by decide) (by decide)]; exact h2
  · rw [c 141 (by decide)]; exact h3 hs k hk
  · rw [hF.2 4 (by decide) (by decide) (by decide)]; exact h4
  · rw [c 142 (by decide)]; exact h6 i hi k hk
  · rw [hF.2 15 (by decide) (by decide) (by decide)]; exact h7
  · rw [c 146 (by decide)]; exact h9 i hi
  · rw [hF.2 17 (by decide) (by decide) (by decide)]; exact h10
  · rw [c 147 (by decide)]; exact h12 i hi
theorem MW.mr (h : MW I w) (hk : gok (wG w)) : MR I (wG w) := ⟨hk, h.1⟩
end
section
variable {I : e_TI} {L : e_TL} {D : e_TD} {sc : e_TS} {s : Nat → Int32} {u : Nat} {w : Wd}
/-- the other cells behind a change -/
def FC (I I' : e_TI) : Prop := (∀ c, c ≠ 139 → c ≠ 142 → I' c = I c) ∧ ∀ k, k ≠ 4 → I' 139 k = I 139 k
theorem s_M_change {Ψ : e_TI → e_TL → e_TD → Prop} (h : MW I w) (H : ∀ I', FC I I' → MW I' (wCh w (wG w)) → Ψ I' L D) : e_M 232 [.ref 139] (S0 I L D sc) (e_rV sc Ψ) := by
  obtain ⟨h1, ⟨h2, h3⟩, ⟨h4, h5, h6⟩, ⟨h7, h8, h9⟩, ⟨h10, h11, h12⟩⟩ := h
  have n0 : ¬ ((0 : Int32) < 0) := by decide
  have n301 : ¬ ((301 : Int32) < 0) := by decide
  have em : ∀ m : Nat, (301 : Int32) * Int32.ofNat m = Int32.ofNat (301 * m) := fun m => o_mul 301 m
  refine vM_change ?_
  rw [h4]
  refine ⟨fun hne => ?_, fun he => ?_⟩
  · have hm : wM w ≠ 8 := fun e => hne (by rw [e]; rfl)
    rw [em, o_ix (a := 301 * wM w) (by omega), o_s]
    refine ⟨⟨n0, b_nn (by omega), n301, by decide, by show 301 * wM w + 301 ≤ 2408; omega⟩, H _ ⟨fun c hc1 hc2 => by rw [up_cell hc1, row_cell hc2], fun k hk => by rw [up_slot hk, row_cell (by decide)]⟩ ⟨?_, ⟨?_, fun hs k hk => ?_⟩, ⟨?_, ?_, fun i hi k hk => ?_⟩, ⟨?_, h8, fun i hi => ?_⟩, ⟨?_, h11, fun i hi => ?_⟩⟩⟩
    · rw [up_cell (by decide), row_cell (by decide)]; exact h1
    · rw [up_slot (by decide), row_cell (by decide)]; exact h2
    · rw [up_cell (by decide), row_cell (by decide)]; exact h3 hs k hk
    · rw [up_same]
      show _ = Int32.ofNat (min (wM w + 1) 8)
      rw [Nat.min_eq_left (by omega)]
    · exact Nat.min_le_right _ _
    · have hi' : i < wM w + 1 := Nat.lt_of_lt_of_le hi (Nat.min_le_left _ _)
      rw [up_cell (by decide), row_same]
      show va_cpy (I 140) (I 142) 0 (301 * wM w) 301 (301 * i + k) = pushP (wM w) (wP w) (wG w) i k
      unfold va_cpy pushP
      rw [if_pos (show wM w < 8 by omega)]
      by_cases e : i = wM w
      · rw [if_pos (by omega), if_neg (by omega), h1, show 0 + (301 * i + k - 301 * wM w) = k by omega]
      · rw [if_neg (by omega), if_pos (by omega)]
        exact h6 i (by omega) k hk
    · rw [up_slot (by decide), row_cell (by decide)]; exact h7
    · rw [up_cell (by decide), row_cell (by decide)]; exact h9 i hi
    · rw [up_slot (by decide), row_cell (by decide)]; exact h10
    · rw [up_cell (by decide), row_cell (by decide)]; exact h12 i hi
  · have hm : wM w = 8 := (o_eq (b := 8) (by omega) (by decide)).mp (Classical.not_not.mp he)
    have e7 : Int32.ofNat (wM w) - 1 = Int32.ofNat 7 := by rw [hm]; rfl
    rw [e7, em, o_ix (a := 301 * 7) (by decide), o_s]
    refine ⟨⟨n0, by decide, n301, by decide, by decide⟩, H _ ⟨fun c hc1 hc2 => by rw [up_cell hc1, row_cell hc2, up_cell hc1, row_cell hc2], fun k hk => by rw [up_slot hk, row_cell (by decide), up_slot hk, row_cell (by decide)]⟩ ⟨?_, ⟨?_, fun hs k hk => ?_⟩, ⟨?_, ?_, fun i hi k hk => ?_⟩, ⟨?_, h8, fun i hi => ?_⟩, ⟨?_, h11, fun i hi => ?_⟩⟩⟩
    · rw [up_cell (by decide), row_cell (by decide), up_cell (by decide), row_cell (by decide)]; exact h1
    · rw [up_slot (by decide), row_cell (by decide), up_slot (by decide), row_cell (by decide)]; exact h2
    · rw [up_cell (by decide), row_cell (by decide), up_cell (by decide), row_cell (by decide)]; exact h3 hs k hk
    · rw [up_same]
      show _ = Int32.ofNat (min (wM w + 1) 8)
      rw [hm]
      rfl
    · exact Nat.min_le_right _ _
    · have hi' : i < 8 := Nat.lt_of_lt_of_le hi (Nat.min_le_right _ _)
      rw [up_cell (by decide), row_same, up_cell (by decide), row_cell (by decide), up_cell (by decide), row_same]
      show va_cpy (I 140) (va_cpy (I 142) (I 142) 301 0 2107) 0 (301 * 7) 301 (301 * i + k) = pushP (wM w) (wP w) (wG w) i k
      unfold va_cpy pushP
      rw [if_neg (show ¬ wM w < 8 by omega)]
      by_cases e : i = 7
      · rw [if_pos (by omega), if_neg (by omega), h1, show 0 + (301 * i + k - 301 * 7) = k by omega]
      · rw [if_neg (by omega), if_pos (by omega), if_pos (by omega), ← h6 (i + 1) (by omega) k hk, show 301 + (301 * i + k - 0) = 301 * (i + 1) + k by omega]
    · rw [up_slot (by decide), row_cell (by decide), up_slot (by decide), row_cell (by decide)]; exact h7
    · rw [up_cell (by decide), row_cell (by decide), up_cell (by decide), row_cell (by decide)]; exact h9 i hi
    · rw [up_slot (by decide), row_cell (by decide), up_slot (by decide), row_cell (by decide)]; exact h10
    · rw [up_cell (by decide), row_cell (by decide), up_cell (by decide), row_cell (by decide)]; exact h12 i hi
/-- what a refuge is worth -/
def gVal (s : Nat → Int32) (u f c : Nat) : Int32 := (100 * Int32.ofNat (dst f c)) - Int32.ofNat (gStepC s (gPl s u) c)
theorem gVal_le {f a b : Nat} (hf : f < 63) (ha : a < 63) (hb : b < 63) (hab : b < a) : gVal s u f a ≤ gVal s u f b ↔ ¬ gBetter s u f a b = true := by
  have da := dst_lt hf ha
  have db := dst_lt hf hb
  have ka := gStepC_le (s := s) (gPl s u) a
  have kb := gStepC_le (s := s) (gPl s u) b
  unfold gVal
  rw [show (100 : Int32) = Int32.ofNat 100 from rfl, o_mul, o_mul, Int32.le_iff_toInt_le, o_subInt (by omega) (by omega), o_subInt (by omega) (by omega), gBetter_iff]
  omega
/-- the best among the cells below i -/
def gBsc (s : Nat → Int32) (u f i : Nat) : Option Nat → Prop
  | none => ∀ c, c < i → gCand s u c = false
  | some r => gCand s u r = true ∧ r < i ∧ ∀ c, c < i → gCand s u c = true → c = r ∨ gBetter s u f r c = true
def gVlo (s : Nat → Int32) (u f : Nat) : Option Nat → Int32
  | none => 0
  | some r => gVal s u f r
theorem s_M_retreat {Ψ : e_TI → e_TL → e_TD → Prop} (h : MR I s) (hU : gU s u = true) {f : Nat} (hf : f < 63) (H : ∀ I', FrO I I' → MR I' (gRetr f u s) → Ψ I' L D) : e_M 292 [.ref 139, .int (Int32.ofNat u), .int (Int32.ofNat f)] (S0 I L D sc) (e_rV sc Ψ) := by
  have hu := gU_lt hU
  have hma := h.ma
  have hpl := h.pl hu
  have hsd := h.sd hu
  have e1 : (1 : Int32) - Int32.ofNat (gSd s u) = Int32.ofNat (1 - gSd s u) := o_sub (a := 1) hsd
  refine vM_retreat (s_M_sd h hu (s_M_pl h hu ?_))
  rw [e1]
  refine s_M_unitsOf h (by omega) (s_M_zone h (s_M_unitsOf h hsd ?_))
  rw [sI_only u (by omega), sI_not, sI_and]
  refine s_M_cellsOf h ?_
  have key : ∀ i, i ≤ 63 → ∀ b : Option Nat, gBsc s u f i b → e_Wp 292 54 [some (.ref 139), some (.int (Int32.ofNat u)), some (.int (Int32.ofNat f)), some (.int (Int32.ofNat (gSd s u))), some (.int (Int32.ofNat (gPl s u))), some (.long (sL (gZoneA s (gCells s (gOwn s (1 - gSd s u)))))), none, some (.long (sL (gCells s fun i => gOwn s (gSd s u) i && !(i == u)))), none, some (.int (o_opt b)), some (.int (gVlo s u f b)), some (.int (Int32.ofNat i)), none, none] [] (S0 I L D sc) 0 0 (e_rV sc Ψ) := by
    refine e_downInd (G := fun i => ∀ b : Option Nat, gBsc s u f i b → e_Wp 292 54 [some (.ref 139), some (.int (Int32.ofNat u)), some (.int (Int32.ofNat f)), some (.int (Int32.ofNat (gSd s u))), some (.int (Int32.ofNat (gPl s u))), some (.long (sL (gZoneA s (gCells s (gOwn s (1 - gSd s u)))))), none, some (.long (sL (gCells s fun i => gOwn s (gSd s u) i && !(i == u)))), none, some (.int (o_opt b)), some (.int (gVlo s u f b)), some (.int (Int32.ofNat i)), none, none] [] (S0 I L D sc) 0 0 (e_rV sc Ψ)) 63 (fun i hi ih b hb => ?_) (fun b hb => ?_)
    · have skip : gCand s u i = false → gBsc s u f (i + 1) b := by
        intro h0
        cases b with
        | none =>
          intro c hc
          by_cases e : c = i
          · rw [e]; exact h0
          · exact hb c (by omega)
        | some r =>
          obtain ⟨b1, b2, b3⟩ := hb
          refine ⟨b1, by omega, fun c hc hcc => ?_⟩
          by_cases e : c = i
          · rw [e, h0] at hcc
            cases hcc
          · exact b3 c (by omega) hcc
      obtain ⟨t1, t2⟩ := h.ter hi
      have hcand : ∀ v, adj (gPl s u) i = v → gCand s u i = (v && (!(gTer s i == 5) && ((!gZone s (1 - gSd s u) i || gCells s (gOwn s (gSd s u)) i) && gRoomA s u i))) := fun v hv => by
        unfold gCand gWat
        rw [decide_eq_true hi, hv, Bool.true_and, Bool.true_and]
      -- the candidate weighed
      have weigh : gCand s u i = true → gTer s i < 5 → e_M 243 [.int (Int32.ofNat f), .int (Int32.ofNat i)] (S0 I L D sc) (e_rI sc (fun r7 I7 L7 D7 => e_M 257 [.ref 139, .int (Int32.ofNat (gPl s u)), .int (Int32.ofNat i)] (S0 I7 L7 D7 sc) (e_rI sc (fun r8 I8 L8 D8 => ((o_opt b < 0 → e_Wp 292 54 [some (.ref 139), some (.int (Int32.ofNat u)), some (.int (Int32.ofNat f)), some (.int (Int32.ofNat (gSd s u))), some (.int (Int32.ofNat (gPl s u))), some (.long (sL (gZoneA s (gCells s (gOwn s (1 - gSd s u)))))), none, some (.long (sL (gCells s fun i => gOwn s (gSd s u) i && !(i == u)))), none, some (.int (Int32.ofNat i)), some (.int ((100 * r7) - r8)), some (.int (Int32.ofNat i + 1)), none, none] [] (S0 I8 L8 D8 sc) 0 0 (e_rV sc Ψ)) ∧ (¬ (o_opt b < 0) → ((((100 * r7) - r8) ≤ gVlo s u f b → e_Wp 292 54 [some (.ref 139), some (.int (Int32.ofNat u)), some (.int (Int32.ofNat f)), some (.int (Int32.ofNat (gSd s u))), some (.int (Int32.ofNat (gPl s u))), some (.long (sL (gZoneA s (gCells s (gOwn s (1 - gSd s u)))))), none, some (.long (sL (gCells s fun i => gOwn s (gSd s u) i && !(i == u)))), none, some (.int (o_opt b)), some (.int (gVlo s u f b)), some (.int (Int32.ofNat i + 1)), none, none] [] (S0 I8 L8 D8 sc) 0 0 (e_rV sc Ψ)) ∧ (¬ ((100 * r7) - r8) ≤ gVlo s u f b → e_Wp 292 54 [some (.ref 139), some (.int (Int32.ofNat u)), some (.int (Int32.ofNat f)), some (.int (Int32.ofNat (gSd s u))), some (.int (Int32.ofNat (gPl s u))), some (.long (sL (gZoneA s (gCells s (gOwn s (1 - gSd s u)))))), none, some (.long (sL (gCells s fun i => gOwn s (gSd s u) i && !(i == u)))), none, some (.int (Int32.ofNat i)), some (.int ((100 * r7) - r8)), some (.int (Int32.ofNat i + 1)), none, none] [] (S0 I8 L8 D8 sc) 0 0 (e_rV sc Ψ))))))))) := by
        intro hc ht
        refine s_M_steps hf hi (s_M_stepCost h hpl hi ht ?_)
        rw [o_s]
        cases b with
        | none =>
          refine bx_t (by decide) (ih (some i) ⟨hc, by omega, fun c hcl hcc => ?_⟩)
          by_cases e : c = i
          · exact Or.inl e
          · have := hb c (by omega)
            rw [hcc] at this
            cases this
        | some r =>
          obtain ⟨b1, b2, b3⟩ := hb
          have hr63 := gCand_lt b1
          have cmp := gVal_le (s := s) (u := u) hf hi hr63 b2
          refine bx_f (b_nn (by omega)) ⟨fun hle => ?_, fun hgt => ?_⟩
          · have hnb := cmp.mp hle
            refine ih (some r) ⟨b1, by omega, fun c hcl hcc => ?_⟩
            by_cases e : c = i
            · rw [e]
              exact Or.inr (gBetter_tot (by omega) hnb)
            · exact b3 c (by omega) hcc
          · have hb' : gBetter s u f i r = true := Classical.byContradiction (fun hn => hgt (cmp.mpr hn))
            refine ih (some i) ⟨hc, by omega, fun c hcl hcc => ?_⟩
            by_cases e : c = i
            · exact Or.inl e
            · rcases b3 c (by omega) hcc with e2 | e2
              · rw [e2]
                exact Or.inr hb'
              · exact Or.inr (gBetter_tr hb' e2)
      refine vM_retreat_p54 (bx_f (b_ge hi) (s_M_areNeighbors hpl hi (bx_b (fun h0 => ?_) (fun h1 => ⟨o_in (by omega), ?_⟩))))
      · rw [o_s]
        exact ih b (skip (by rw [hcand _ h0, Bool.false_and]))
      · rw [o_ix (a := i) (by omega), t1]
        refine ⟨fun h5 => ?_, fun h5 => s_M_hasRoomFor h hu hi (bx_b (fun h2 => ?_) (fun h2 => s_M_has hi (bx_b (fun h3 => ?_) (fun h3 => s_M_has hi (bx_b (fun h4 => ?_) (fun h4 => ?_))))))⟩
        · have := (o_eq (b := 5) (by omega) (by decide)).mp h5
          rw [o_s]
          exact ih b (skip (by rw [hcand _ h1, this]; rfl))
        · rw [o_s]
          exact ih b (skip (by rw [hcand _ h1, h2, Bool.and_false, Bool.and_false, Bool.and_false]))
        · have n5 : gTer s i ≠ 5 := fun e => h5 (by rw [e]; rfl)
          have hz : gZone s (1 - gSd s u) i = false := h3
          exact weigh (by rw [hcand _ h1, h2, hz, beq_false_of_ne n5]; rfl) (by omega)
        · have hne : i ≠ gPl s u := fun e => by
            have h0 := dst_adj ⟨gPl s u, hpl⟩ ⟨i, hi⟩
            have h1' : adj (gPl s u) i = true := h1
            rw [h1'] at h0
            have h2' : dst (gPl s u) i = 1 := (beq_iff_eq.mp h0.symm)
            rw [(dst_zero hpl hi).mpr e.symm] at h2'
            cases h2'
          have hz : gZone s (1 - gSd s u) i = true := h3
          have ho : gCells s (gOwn s (gSd s u)) i = false := by rw [← gCells_but i _ hne]; exact h4
          rw [o_s]
          exact ih b (skip (by rw [hcand _ h1, hz, ho, Bool.not_true, Bool.false_or, Bool.false_and, Bool.and_false, Bool.and_false]))
        · have n5 : gTer s i ≠ 5 := fun e => h5 (by rw [e]; rfl)
          have hne : i ≠ gPl s u := fun e => by
            have h0 := dst_adj ⟨gPl s u, hpl⟩ ⟨i, hi⟩
            have h1' : adj (gPl s u) i = true := h1
            rw [h1'] at h0
            have h2' : dst (gPl s u) i = 1 := (beq_iff_eq.mp h0.symm)
            rw [(dst_zero hpl hi).mpr e.symm] at h2'
            cases h2'
          have ho : gCells s (gOwn s (gSd s u)) i = true := by rw [← gCells_but i _ hne]; exact h4
          exact weigh (by rw [hcand _ h1, h2, ho, beq_false_of_ne n5, Bool.or_true]; rfl) (by omega)
    · refine vM_retreat_p54 (bx_t (b_self 63) ?_)
      cases b with
      | none =>
        have hr := gRfg_none (s := s) (u := u) (f := f) (fun c => by
          cases hc : gCand s u c with
          | false => rfl
          | true => exact (hb c (gCand_lt hc)).symm.trans hc |>.symm)
        refine bx_f (by decide) (s_M_lose h (m := 2) (a := 1) hu (by decide) (by decide) (by decide) (fun I2 hF2 hR2 => H I2 hF2 ?_))
        rw [gRetr_lose hU hr]
        exact hR2
      | some r =>
        obtain ⟨b1, b2, b3⟩ := hb
        have hr := gRfg_some (s := s) (u := u) (f := f) ⟨b1, fun c hcc => b3 c (gCand_lt hcc) hcc⟩
        refine bx_t (Int32.not_lt.mp (b_nn (by omega))) (s_M_unitAt 1 ?_)
        rw [o_ix (a := 205 + 6 * u + 1) (by omega)]
        refine ⟨o_in (by omega), H _ FrO.rf.up ?_⟩
        rw [gRetr_go hU (by omega), hr]
        exact ⟨h.1.unit (f := 1) (by decide) (show r ≤ 62 by omega), row_up h.2 _ _⟩
  exact key 0 (Nat.zero_le _) none (fun c hc => absurd hc (Nat.not_lt_zero _))
end
