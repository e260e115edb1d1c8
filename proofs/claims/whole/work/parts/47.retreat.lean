/-! the class's retreats -/
theorem o_subInt {a b : Nat} (ha : a < 1000000) (hb : b < 1000000) : (Int32.ofNat a - Int32.ofNat b).toInt = (a : Int) - b := by
  rw [Int32.toInt_sub, Int32.toInt_ofNat_of_lt (by omega), Int32.toInt_ofNat_of_lt (by omega)]
  exact Int.bmod_eq_of_le (by omega) (by omega)
theorem o_sub0 {a b : Nat} (ha : a < 1000000) (hb : b < 1000000) : Int32.ofNat a - Int32.ofNat b = 0 ↔ a = b := by
  rw [← Int32.toInt_inj, o_subInt ha hb]
  show (a : Int) - b = 0 ↔ _
  omega
theorem o_subLe {a b : Nat} (ha : a < 1000000) (hb : b < 1000000) : Int32.ofNat a - Int32.ofNat b ≤ 0 ↔ a ≤ b := by
  rw [Int32.le_iff_toInt_le, o_subInt ha hb]
  show (a : Int) - b ≤ 0 ↔ _
  omega
theorem o_subGe {a b : Nat} (ha : a < 1000000) (hb : b < 1000000) : 0 ≤ Int32.ofNat a - Int32.ofNat b ↔ b ≤ a := by
  rw [Int32.le_iff_toInt_le, o_subInt ha hb]
  show (0 : Int) ≤ a - b ↔ _
  omega
/-- a better refuge -/
def gBetter (s : Nat → Int32) (u f a b : Nat) : Bool := decide (dst f b < dst f a) || (dst f a == dst f b && (decide (gStepC s (gPl s u) a < gStepC s (gPl s u) b) || (gStepC s (gPl s u) a == gStepC s (gPl s u) b && decide (a < b))))
def gCand (s : Nat → Int32) (u c : Nat) : Bool := decide (c < 63) && (adj (gPl s u) c && (!gWat s c && ((!gZone s (1 - gSd s u) c || gCells s (gOwn s (gSd s u)) c) && gRoomA s u c)))
def gBest (s : Nat → Int32) (u f r : Nat) : Prop := gCand s u r = true ∧ ∀ c, gCand s u c = true → c = r ∨ gBetter s u f r c = true
noncomputable def gRfg (s : Nat → Int32) (u f : Nat) : Nat := @dite Nat (∃ r, gBest s u f r) (Classical.propDecidable _) (fun h => Classical.choose h) (fun _ => 63)
section
variable {s : Nat → Int32} {u f : Nat}
theorem gBetter_iff {a b : Nat} : gBetter s u f a b = true ↔ dst f b < dst f a ∨ (dst f a = dst f b ∧ (gStepC s (gPl s u) a < gStepC s (gPl s u) b ∨ (gStepC s (gPl s u) a = gStepC s (gPl s u) b ∧ a < b))) := by
  unfold gBetter
  simp only [Bool.or_eq_true, Bool.and_eq_true, decide_eq_true_eq, beq_iff_eq]
theorem gBetter_tr {a b c : Nat} (h1 : gBetter s u f a b = true) (h2 : gBetter s u f b c = true) : gBetter s u f a c = true := by
  rw [gBetter_iff] at h1 h2 ⊢
  omega
theorem gBetter_tot {a b : Nat} (hne : a ≠ b) (h : ¬ gBetter s u f a b = true) : gBetter s u f b a = true := by
  rw [gBetter_iff] at h ⊢
  omega
theorem gBest_uniq {a b : Nat} (h1 : gBest s u f a) (h2 : gBest s u f b) : a = b := by
  rcases h1.2 b h2.1 with h | h
  · exact h.symm
  · rcases h2.2 a h1.1 with h3 | h3
    · exact h3
    · rw [gBetter_iff] at h h3
      omega
theorem gRfg_some {r : Nat} (h : gBest s u f r) : gRfg s u f = r := by
  have hex : ∃ r, gBest s u f r := ⟨r, h⟩
  unfold gRfg
  rw [dif_pos hex]
  exact gBest_uniq (Classical.choose_spec hex) h
theorem gCand_lt {c : Nat} (h : gCand s u c = true) : c < 63 := by
  unfold gCand at h
  rw [Bool.and_eq_true] at h
  exact of_decide_eq_true h.1
theorem gRfg_none (h : ∀ c, gCand s u c = false) : gRfg s u f = 63 := by
  have hex : ¬ ∃ r, gBest s u f r := by
    rintro ⟨r, h1, _⟩
    rw [h r] at h1
    cases h1
  unfold gRfg
  rw [dif_neg hex]
end
noncomputable def gRetr (f u : Nat) (s : Nat → Int32) : Nat → Int32 := if gU s u then (if gRfg s u f = 63 then gLose s u 2 1 else gset s (205 + 6 * u + 1) (Int32.ofNat (gRfg s u f))) else s
theorem gRetr_no {s : Nat → Int32} {f u : Nat} (h : gU s u = false) : gRetr f u s = s := by
  unfold gRetr
  rw [h]
  rfl
theorem gRetr_lose {s : Nat → Int32} {f u : Nat} (h : gU s u = true) (hr : gRfg s u f = 63) : gRetr f u s = gLose s u 2 1 := by
  unfold gRetr
  rw [if_pos h, if_pos hr]
theorem gRetr_go {s : Nat → Int32} {f u : Nat} (h : gU s u = true) (hr : gRfg s u f < 63) : gRetr f u s = gset s (205 + 6 * u + 1) (Int32.ofNat (gRfg s u f)) := by
  unfold gRetr
  rw [if_pos h, if_neg (by omega)]
noncomputable def gRetAll (s : Nat → Int32) (q : Nat → Bool) (f : Nat) : Nat → Int32 := gEach (gRetr f) q 16 s
section
variable {I : e_TI} {L : e_TL} {D : e_TD} {sc : e_TS} {s : Nat → Int32}
theorem dst_lt {a b : Nat} (ha : a < 63) (hb : b < 63) : dst a b ≤ 14 := dst_le14 ⟨a, ha⟩ ⟨b, hb⟩
theorem gStepC_le (a b : Nat) : gStepC s a b ≤ 6 := by
  unfold gStepC
  split
  · decide
  · exact gPrice_le _ _
theorem s_isBetterRefuge {Ψ : Int32 → e_TI → e_TL → e_TD → Prop} (h : GR I L s) {u f a b : Nat} (hu : u < gMa s) (hf : f < 63) (ha : a < 63) (hb : b < 63) (hta : gTer s a < 5) (htb : gTer s b < 5) (H : Ψ (e_b (gBetter s u f a b)) I L D) : e_M 170 [.ref 1, .int (Int32.ofNat u), .int (Int32.ofNat f), .int (Int32.ofNat a), .int (Int32.ofNat b)] (S0 I L D sc) (e_rI sc Ψ) := by
  have hpl := (h.pl hu).2
  have d1 := dst_lt hf ha
  have d2 := dst_lt hf hb
  have c1 := gStepC_le (s := s) (gPl s u) a
  have c2 := gStepC_le (s := s) (gPl s u) b
  refine vP_isBetterRefuge (s_apart hf ha (s_apart hf hb ?_))
  rw [o_sub0 (by omega) (by omega), o_subLe (by omega) (by omega)]
  refine ⟨fun hd => ?_, fun hd => ⟨fun hle => ?_, fun hgt => ?_⟩⟩
  · refine s_placeOf h hu ?_
    rw [h.wx.1]
    refine s_stepCost h hpl ha hta ?_
    rw [h.wx.1]
    refine s_stepCost h hpl hb htb ?_
    rw [o_sub0 (by omega) (by omega), o_subGe (by omega) (by omega), o_le (by omega) (by omega)]
    refine ⟨fun hc => ⟨fun hab => ?_, fun hab => ?_⟩, fun hc => ⟨fun hge => ?_, fun hlt => ?_⟩⟩
    · have : gBetter s u f a b = false := by
        rw [Bool.eq_false_iff]
        intro hbt
        rw [gBetter_iff] at hbt
        omega
      rw [this] at H; exact H
    · have : gBetter s u f a b = true := by
        rw [gBetter_iff]
        omega
      rw [this] at H; exact H
    · have : gBetter s u f a b = false := by
        rw [Bool.eq_false_iff]
        intro hbt
        rw [gBetter_iff] at hbt
        omega
      rw [this] at H; exact H
    · have : gBetter s u f a b = true := by
        rw [gBetter_iff]
        omega
      rw [this] at H; exact H
  · have : gBetter s u f a b = false := by
      rw [Bool.eq_false_iff]
      intro hbt
      rw [gBetter_iff] at hbt
      omega
    rw [this] at H; exact H
  · have : gBetter s u f a b = true := by
      rw [gBetter_iff]
      omega
    rw [this] at H; exact H
theorem gCand_dry (h : GR I L s) {u c : Nat} (hc : gCand s u c = true) : gTer s c < 5 := by
  have h63 := gCand_lt hc
  have ht := h.ter h63
  unfold gCand gWat at hc
  simp only [Bool.and_eq_true, decide_eq_true_eq, Bool.not_eq_true', Bool.and_eq_false_iff] at hc
  rcases hc.2.2.1 with h2 | h2
  · exact absurd h63 (of_decide_eq_false h2)
  · have : gTer s c ≠ 5 := by simpa using h2
    omega
/-- the best among those that were looked at -/
def gBst (s : Nat → Int32) (u f i : Nat) : Option Nat → Prop
  | none => ∀ d, d < i → ∀ c, nb (gPl s u) d = some c → gCand s u c = false
  | some r => gCand s u r = true ∧ ∀ d, d < i → ∀ c, nb (gPl s u) d = some c → gCand s u c = true → c = r ∨ gBetter s u f r c = true
theorem s_refugeOf {Ψ : Int32 → e_TI → e_TL → e_TD → Prop} (h : GR I L s) {u f : Nat} (hu : u < gMa s) (hf : f < 63) (h0 : gRfg s u f = 63 → Ψ (-1) I L D) (h1 : gRfg s u f < 63 → Ψ (Int32.ofNat (gRfg s u f)) I L D) : e_M 171 [.ref 1, .int (Int32.ofNat u), .int (Int32.ofNat f)] (S0 I L D sc) (e_rI sc Ψ) := by
  have hsd := h.sd hu
  have hpl := (h.pl hu).2
  refine vP_refugeOf (s_sideOf h hu (s_ownedBy h hsd (s_placesOf h (fun _ => gOwn_U) (s_waters h ?_))))
  rw [show (1 : Int32) = Int32.ofNat 1 from rfl, o_sub hsd]
  refine s_zoneOf h (by omega) ?_
  rw [sL_not, sL_not, sL_or, sL_and]
  have key : ∀ i, i ≤ 6 → ∀ b : Option Nat, gBst s u f i b → e_Wp 171 63 [some (.ref 1), some (.int (Int32.ofNat u)), some (.int (Int32.ofNat f)), some (.int (Int32.ofNat (gSd s u))), some (.long (sL (gCells s (gOwn s (gSd s u))))), none, some (.long (sL fun i => !gWat s i && (!gZone s (1 - gSd s u) i || gCells s (gOwn s (gSd s u)) i))), none, some (.int (o_opt b)), some (.int (Int32.ofNat i)), none, none] [] (S0 I L D sc) 0 0 (e_rI sc Ψ) := by
    refine e_downInd 6 (fun i hi ih b hb => ?_) (fun b hb => ?_)
    · -- a direction without a candidate
      have skip : (∀ c, nb (gPl s u) i = some c → gCand s u c = false) → gBst s u f (i + 1) b := by
        intro hno
        cases b with
        | none =>
          intro d hd c hc
          by_cases e : d = i
          · rw [e] at hc; exact hno c hc
          · exact hb d (by omega) c hc
        | some r =>
          refine ⟨hb.1, fun d hd c hc hcc => ?_⟩
          by_cases e : d = i
          · rw [e] at hc
            rw [hno c hc] at hcc
            cases hcc
          · exact hb.2 d (by omega) c hc hcc
      refine vP_refugeOf_p63 (bx_f (b_ge hi) (s_placeOf h hu (s_beside hpl hi ?_)))
      rw [o_s]
      cases hnb : nb (gPl s u) i with
      | none => exact bx_t rfl (ih b (skip (fun c hc => by rw [hnb] at hc; cases hc)))
      | some c =>
        have hc63 : c < 63 := nb_lt ⟨_, hpl⟩ ⟨i, hi⟩ c hnb
        have hadj : adj (gPl s u) c = true := nb_adj i hi hnb
        have hcd : gCand s u c = ((!gWat s c && (!gZone s (1 - gSd s u) c || gCells s (gOwn s (gSd s u)) c)) && gRoomA s u c) := by
          unfold gCand
          rw [decide_eq_true hc63, hadj, Bool.true_and, Bool.true_and, Bool.and_assoc]
        refine bx_f (o_ne1 (by omega)) (s_has hc63 (bx_b (fun hs0 => ?_) (fun hs1 => s_all h (s_isRoomFor h hu hc63 (bx_b (fun hr0 => ?_) (fun hr1 => ?_))))))
        · refine ih b (skip (fun c2 hc2 => ?_))
          rw [hnb] at hc2
          cases hc2
          rw [hcd, hs0]
          rfl
        · refine ih b (skip (fun c2 hc2 => ?_))
          rw [hnb] at hc2
          cases hc2
          rw [hcd, show gRoomA s u c = false from hr0, Bool.and_false]
        · have hcc : gCand s u c = true := by
            rw [hcd, hs1, show gRoomA s u c = true from hr1]
            rfl
          cases b with
          | none =>
            refine bx_t rfl (ih (some c) ⟨hcc, fun d hd c2 hc2 hcc2 => ?_⟩)
            by_cases e : d = i
            · rw [e, hnb] at hc2
              cases hc2
              exact Or.inl rfl
            · rw [hb d (by omega) c2 hc2] at hcc2
              cases hcc2
          | some r =>
            have hr63 := gCand_lt hb.1
            refine bx_f (o_ne1 (by omega)) (s_isBetterRefuge h hu hf hc63 hr63 (gCand_dry h hcc) (gCand_dry h hb.1) (bx_b (fun hb0 => ?_) (fun hb1 => ?_)))
            · refine ih (some r) ⟨hb.1, fun d hd c2 hc2 hcc2 => ?_⟩
              by_cases e : d = i
              · rw [e, hnb] at hc2
                cases hc2
                by_cases e2 : c = r
                · exact Or.inl e2
                · exact Or.inr (gBetter_tot e2 (by rw [hb0]; decide))
              · exact hb.2 d (by omega) c2 hc2 hcc2
            · refine ih (some c) ⟨hcc, fun d hd c2 hc2 hcc2 => ?_⟩
              by_cases e : d = i
              · rw [e, hnb] at hc2
                cases hc2
                exact Or.inl rfl
              · rcases hb.2 d (by omega) c2 hc2 hcc2 with e2 | e2
                · rw [e2]
                  exact Or.inr hb1
                · exact Or.inr (gBetter_tr hb1 e2)
    · refine vP_refugeOf_p63 (bx_t (b_self 6) ?_)
      have dir : ∀ c, gCand s u c = true → ∃ d, d < 6 ∧ nb (gPl s u) d = some c := by
        intro c hc
        have := hc
        unfold gCand at this
        simp only [Bool.and_eq_true] at this
        exact adj_nb this.2.1
      cases b with
      | none =>
        refine h0 (gRfg_none (fun c => ?_))
        rw [Bool.eq_false_iff]
        intro hc
        obtain ⟨d, hd, hn⟩ := dir c hc
        rw [hb d hd c hn] at hc
        cases hc
      | some r =>
        have e : gRfg s u f = r := gRfg_some ⟨hb.1, fun c hc => by
          obtain ⟨d, hd, hn⟩ := dir c hc
          exact hb.2 d hd c hn hc⟩
        rw [e] at h1
        exact h1 (gCand_lt hb.1)
  exact key 0 (by omega) none (fun d hd => absurd hd (Nat.not_lt_zero _))
theorem s_retreatEach {Ψ : e_TI → e_TL → e_TD → Prop} (h : GR I L s) {q : Nat → Bool} {f : Nat} (hf : f < 63) (H : ∀ I', Fr 2 14 I L I' L → GR I' L (gRetAll s q f) → Ψ I' L D) : e_M 172 [.ref 1, .int (sI q), .int (Int32.ofNat f)] (S0 I L D sc) (e_rV sc Ψ) := by
  refine vP_retreatEach ?_
  have key : ∀ i, i ≤ 16 → ∀ I', Fr 2 14 I L I' L → GR I' L (gEach (gRetr f) q i s) → e_Wp 172 2 [some (.ref 1), some (.int (sI q)), some (.int (Int32.ofNat f)), some (.int (Int32.ofNat i)), none] [] (S0 I' L D sc) 0 0 (e_rV sc Ψ) := by
    refine e_downInd 16 (fun i hi ih I' hF hR => ?_) (fun I' hF hR => vP_retreatEach_p2 (bx_t (b_self 16) (H I' hF hR)))
    refine vP_retreatEach_p2 (bx_f (b_ge hi) (s_uhas (by omega) (bx_b (fun h0 => ?_) (fun h1 => ?_))))
    · rw [o_s]
      refine ih I' hF ?_
      show GR I' L (if q i then _ else _)
      rw [h0]
      exact hR
    · have e : gEach (gRetr f) q (i + 1) s = gRetr f i (gEach (gRetr f) q i s) := by
        show (if q i then _ else _) = _
        rw [h1]
        rfl
      refine s_exists hR (fun u eu hu => ?_) (fun hno => ?_)
      · have hu16 := hR.ma
        have hlt := gU_lt hu
        have eui : u = i := ((o_eq (by omega) (by omega)).mp eu).symm
        subst eui
        refine bx_f (by decide) (s_refugeOf hR hlt hf (fun hr => ?_) (fun hr => ?_))
        · refine bx_f (fun e9 => e9 rfl) (s_loseInAttack hR hu (by decide) (fun I2 hF2 hR2 => ?_))
          rw [o_s]
          refine ih I2 (hF.tr hF2) ?_
          rw [e, gRetr_lose hu hr]
          exact hR2
        · refine bx_t (o_ne1 (by omega)) (s_placeAt hR hlt hr (fun I2 hF2 hR2 => ?_))
          rw [o_s]
          refine ih I2 (hF.tr hF2) ?_
          rw [e, gRetr_go hu hr]
          exact hR2
      · refine bx_t rfl ?_
        rw [o_s]
        refine ih I' hF ?_
        rw [e, gRetr_no (hno i hi rfl)]
        exact hR
  exact key 0 (by omega) I Fr.rf h
end
