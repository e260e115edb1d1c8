/-! the class's waves: supplies (14 to 18), ways (19 to 23) -/
section
variable (w : Nat) (I : e_TI) (L : e_TL) (s : Nat → Int32)
/-- roads and prices are laid out -/
def WvE : Prop := L w 5 = sL (gRd s) ∧ ∀ p, p ≤ 6 → L (w + 3) p = sL fun c => decide (c < 63) && (decide (gTer s c < 5) && gPr s c == p)
/-- the waves are those of these cells -/
def WvW (fi op sp ba : Nat → Bool) : Prop := WvE w L s ∧ L w 6 = sL sp ∧ L w 7 = sL ba ∧ ∀ k, k < 373 → L (w + 1) k = sL (fW fi op sp ba (gRd s) (gPr s) k)
end
def gNw (s : Nat → Int32) (c : Nat) : Bool := decide (gTer s c < 5)
theorem gPr_ok {I : e_TI} {L : e_TL} {s : Nat → Int32} (h : GR I L s) {op : Nat → Bool} (ho : ∀ c, op c = true → gNw s c = true) : ∀ c, c < 63 → op c = true → 1 ≤ gPr s c ∧ gPr s c ≤ 6 := by
  intro c _ hop
  have := ho c hop
  unfold gNw at this
  exact ⟨gPrice_pos _ _ (of_decide_eq_true this) h.wx.2, gPrice_le _ _⟩
theorem sL_all (p : Nat → Bool) : sL p &&& 9223372036854775807 = sL fun c => p c && decide (c < 63) := by
  rw [sL_ALL, sL_and]
section
variable {I : e_TI} {L : e_TL} {D : e_TD} {sc : e_TS} {s : Nat → Int32}
theorem s_layOut_14 {Ψ : e_TI → e_TL → e_TD → Prop} (h : GR I L s) (H : ∀ L', Fr 14 19 I L I L' → WvE 14 L' s → Ψ I L' D) : e_M 39 [.ref 14, .ref 3, .int (Int32.ofNat (gWx s))] (S0 I L D sc) (e_rV sc Ψ) := by
  refine vWv_layOut_14_3 (s_roads h ?_)
  have key : ∀ i, i ≤ 7 → ∀ L', Fr 14 19 I L I L' → L' 14 5 = sL (gRd s) → (∀ p, p < i → L' 17 p = sL fun c => decide (c < 63) && (decide (gTer s c < 5) && gPr s c == p)) → e_Wp 39 10 [some (.ref 14), some (.ref 3), some (.int (Int32.ofNat (gWx s))), some (.int (Int32.ofNat i))] [] (S0 I L' D sc) 0 0 (e_rV sc Ψ) := by
    refine e_downInd 7 (fun i hi ih L' hF h5 hE => ?_) (fun L' hF h5 hE => ?_)
    · refine vWv_layOut_14_3_p10 (bx_f (b_ge hi) (s_enteredFor (h.fr hF (by decide)) (by omega) h.wx.2 ⟨o_in hi, ?_⟩))
      rw [o_ix (by omega), o_s]
      refine ih _ (hF.upL (by decide)) (by rw [up_cell (by decide)]; exact h5) (fun p hp => ?_)
      by_cases e : p = i
      · subst e
        rw [up_same]
        rfl
      · rw [up_slot e]
        exact hE p (by omega)
    · exact vWv_layOut_14_3_p10 (bx_t (b_self 7) (H L' hF ⟨h5, fun p hp => hE p (by omega)⟩))
  exact key 0 (by omega) _ (Fr.rf.upL (by decide)) up_same (fun p hp => absurd hp (Nat.not_lt_zero _))
theorem s_stepsFrom_14 {Ψ : Int64 → e_TI → e_TL → e_TD → Prop} (h5 : L 14 5 = sL (gRd s)) {q e : Nat → Bool} {p : Nat} (hp : p < 2147483648) (h63 : q 63 = false) (H : Ψ (sL fun c => (aro q c && e c) || (decide (p = 1) && (aro (fun a => q a && gRd s a) c && gRd s c))) I L D) : e_M 41 [.ref 14, .long (sL q), .int (Int32.ofNat p), .long (sL e)] (S0 I L D sc) (e_rL sc Ψ) := by
  refine vWv_stepsFrom_14 (s_around h63 ⟨fun hne => ?_, fun he => ?_⟩)
  · have : p ≠ 1 := fun e => hne (by rw [e]; rfl)
    rw [sL_and]
    simpa [this] using H
  · have e1 : p = 1 := (o_eq hp (by decide)).mp (Classical.not_not.mp he)
    subst e1
    rw [h5, sL_and]
    refine s_around (by simp [h63]) ?_
    rw [h5, sL_and, sL_and, sL_or]
    simpa using H
theorem s_arrivals_14 {Ψ : Int64 → e_TI → e_TL → e_TD → Prop} {fi op sp ba : Nat → Bool} {k : Nat} (hE : WvE 14 L s) (h6 : L 14 6 = sL sp) (h7 : L 14 7 = sL ba) (hk1 : 1 ≤ k) (hk : k < 373) (hW : ∀ j, j < k → L 15 j = sL (fW fi op sp ba (gRd s) (gPr s) j)) (H : Ψ (sL (fArr fi op sp ba (gRd s) (gNw s) (gPr s) k)) I L D) : e_M 42 [.ref 14, .int (Int32.ofNat k)] (S0 I L D sc) (e_rL sc Ψ) := by
  refine vWv_arrivals_14 ?_
  let F : Nat → Nat → Bool := fun p c => decide (1 ≤ p) && (decide (p ≤ k) && (fStp (gRd s) (gNw s) (gPr s) p (fun a => fW fi op sp ba (gRd s) (gPr s) (k - p) a && !sp a) c && (if k = p then !ba c else decide (c < 63))))
  have key : ∀ i, i ≤ 7 → 1 ≤ i → e_Wp 42 5 [some (.ref 14), some (.int (Int32.ofNat k)), some (.long (sL fun c => (List.range i).any fun p => F p c)), none, some (.int (Int32.ofNat i)), none, none, none, none] [] (S0 I L D sc) 0 0 (e_rL sc Ψ) := by
    refine e_downInd 7 (fun i hi ih h1 => ?_) (fun _ => ?_)
    · replace ih := ih (by omega)
      refine vWv_arrivals_14_p5 (bx_f (b_ge hi) ?_)
      rw [o_lt (by omega) (by omega)]
      refine ⟨fun hlt => ?_, fun hge => ?_⟩
      · -- the price is above the cost: nothing more comes
        rw [sL_congr (q := fArr fi op sp ba (gRd s) (gNw s) (gPr s) k)]
        · exact H
        · intro c _
          unfold fArr
          rw [Bool.eq_iff_iff, List.any_eq_true, List.any_eq_true]
          constructor
          · rintro ⟨p, hp, h⟩
            exact ⟨p, by rw [List.mem_range] at hp ⊢; omega, h⟩
          · rintro ⟨p, hp, h⟩
            have h2 := h
            simp only [Bool.and_eq_true, decide_eq_true_eq] at h2
            exact ⟨p, by rw [List.mem_range]; omega, h⟩
      · rw [o_sub (by omega)]
        refine s_readSet_15 (by omega) ?_
        rw [hW (k - i) (by omega), h6, sL_not, sL_and, sL_eq0, o_s]
        have hany : ∀ c, ((List.range (i + 1)).any fun p => F p c) = (((List.range i).any fun p => F p c) || F i c) := fun c => any_s _ _
        refine ⟨fun hem => ?_, fun _ => ?_⟩
        · rw [sL_congr (q := fun c => (List.range (i + 1)).any fun p => F p c)]
          · exact ih
          · intro c _
            rw [hany]
            have : F i c = false := by
              rw [Bool.eq_false_iff]
              intro h
              simp only [F, Bool.and_eq_true] at h
              obtain ⟨a, ha, hq, _⟩ := fStp_iff h.2.2.1
              exact absurd hq (by rw [hem a (by omega)]; decide)
            rw [this, Bool.or_false]
        · have h63 : (fW fi op sp ba (gRd s) (gPr s) (k - i) 63 && !sp 63) = false := by rw [fW63]; rfl
          refine ⟨fun hne => ⟨o_in hi, ?_⟩, fun heq => ⟨o_in hi, ?_⟩⟩
          · have hki : ¬ k = i := fun e => hne (by rw [e])
            rw [o_ix (by omega), hE.2 i (by omega)]
            refine s_stepsFrom_14 hE.1 (by omega) h63 ?_
            rw [sL_all, sL_or]
            rw [sL_congr (q := fun c => (List.range (i + 1)).any fun p => F p c)]
            · exact ih
            · intro c _
              rw [hany]
              simp only [F, if_neg hki, decide_eq_true h1, decide_eq_true (show i ≤ k by omega), Bool.true_and]
              rfl
          · have hki : k = i := (o_eq (by omega) (by omega)).mp (Classical.not_not.mp heq)
            rw [o_ix (by omega), hE.2 i (by omega)]
            refine s_stepsFrom_14 hE.1 (by omega) h63 ?_
            rw [h7, sL_not, sL_and, sL_or]
            rw [sL_congr (q := fun c => (List.range (i + 1)).any fun p => F p c)]
            · exact ih
            · intro c _
              rw [hany]
              simp only [F, if_pos hki, decide_eq_true h1, decide_eq_true (show i ≤ k by omega), Bool.true_and]
              rfl
    · exact vWv_arrivals_14_p5 (bx_t (b_self 7) H)
  have h0 := key 1 (by omega) (Nat.le_refl _)
  have e1 : (sL fun c => (List.range 1).any fun p => F p c) = 0 := by rw [sL_zero]; rfl
  rw [e1] at h0
  exact h0
theorem s_flood_14 {Ψ : e_TI → e_TL → e_TD → Prop} (h : GR I L s) {fi op sp ba : Nat → Bool} (hE : WvE 14 L s) (hf : ∀ c, fi c = true → c < 63) (ho : ∀ c, op c = true → gNw s c = true) (H : ∀ L', Fr 14 19 I L I L' → WvW 14 L' s fi op sp ba → Ψ I L' D) : e_M 43 [.ref 14, .long (sL fi), .long (sL op), .long (sL sp), .long (sL ba)] (S0 I L D sc) (e_rV sc Ψ) := by
  have hp := gPr_ok h ho
  refine vWv_flood_14 ?_
  have key : ∀ k, k ≤ 373 → ∀ (L' : e_TL) (last : Nat), Fr 14 19 I L I L' → WvE 14 L' s → L' 14 6 = sL sp → L' 14 7 = sL ba → (∀ j, j < k → L' 15 j = sL (fW fi op sp ba (gRd s) (gPr s) j)) → last ≤ k → (∀ j c, j < k → fW fi op sp ba (gRd s) (gPr s) j c = true → j ≤ last) →
      e_Wp 43 21 [some (.ref 14), some (.long (sL fi)), none, some (.long (sL op)), none, some (.long (sL sp)), none, some (.long (sL ba)), none, some (.long (sL (fSet fi op sp ba (gRd s) (gPr s) k))), none, some (.int (Int32.ofNat last)), some (.int (Int32.ofNat k)), none, none] [] (S0 I L' D sc) 0 0 (e_rV sc Ψ) := by
    refine e_downInd 373 (fun k hk ih L' last hF hE' h6 h7 hW hl hlast => ?_) (fun L' last hF hE' h6 h7 hW hl hlast => ?_)
    · -- what is left to do once the wave is known
      have go : ∀ (L2 : e_TL) (last2 : Nat), L2 = e_up L' 15 k (sL (fW fi op sp ba (gRd s) (gPr s) k)) → last2 ≤ k + 1 → (∀ j c, j < k + 1 → fW fi op sp ba (gRd s) (gPr s) j c = true → j ≤ last2) →
          e_Wp 43 21 [some (.ref 14), some (.long (sL fi)), none, some (.long (sL op)), none, some (.long (sL sp)), none, some (.long (sL ba)), none, some (.long (sL (fSet fi op sp ba (gRd s) (gPr s) k) ||| sL (fW fi op sp ba (gRd s) (gPr s) k))), none, some (.int (Int32.ofNat last2)), some (.int (Int32.ofNat k + 1)), none, none] [] (S0 I L2 D sc) 0 0 (e_rV sc Ψ) := by
        intro L2 last2 e hl2 hlast2
        subst e
        rw [o_s, sL_or]
        rw [sL_congr (p := fun i => fSet fi op sp ba (gRd s) (gPr s) k i || fW fi op sp ba (gRd s) (gPr s) k i) (q := fSet fi op sp ba (gRd s) (gPr s) (k + 1)) (fun c _ => (any_s _ _).symm)]
        refine ih _ last2 (hF.upL (by decide)) ⟨by rw [up_cell (by decide)]; exact hE'.1, fun p hp7 => by rw [up_cell (by decide)]; exact hE'.2 p hp7⟩ (by rw [up_cell (by decide)]; exact h6) (by rw [up_cell (by decide)]; exact h7) (fun j hj => ?_) hl2 hlast2
        by_cases e : j = k
        · subst e
          exact up_same
        · rw [up_slot e]
          exact hW j (by omega)
      have last_new : ∀ j c, j < k + 1 → fW fi op sp ba (gRd s) (gPr s) j c = true → j ≤ k := fun j c hj _ => by omega
      have last_old : (∀ c, c < 64 → fW fi op sp ba (gRd s) (gPr s) k c = false) → ∀ j c, j < k + 1 → fW fi op sp ba (gRd s) (gPr s) j c = true → j ≤ last := by
        intro hem j c hj hw
        by_cases e : j = k
        · subst e
          have hc : c < 63 := ((fW_iff (by omega)).mp hw).1
          rw [hem c (by omega)] at hw
          cases hw
        · exact hlast j c (by omega) hw
      refine vWv_flood_14_p21 (bx_f (b_ge hk) ⟨fun hne => ?_, fun he => ?_⟩)
      · have hk1 : 1 ≤ k := by
          rcases Nat.eq_zero_or_pos k with e | e
          · exact absurd (by rw [e]; rfl) hne
          · exact e
        rw [show (6 : Int32) = Int32.ofNat 6 from rfl, o_add, o_lt (by omega) (by omega)]
        refine ⟨fun hfar => ⟨o_in hk, ?_⟩, fun hnear => ?_⟩
        · -- too far from the last wave
          have hem : ∀ c, c < 64 → fW fi op sp ba (gRd s) (gPr s) k c = false := by
            intro c _
            rw [Bool.eq_false_iff]
            intro hw
            obtain ⟨j, a, hj, hj6, hwj⟩ := fW_near hp hk1 (by omega) hw
            have := hlast j a hj hwj
            omega
          have e0 : (0 : Int64) = sL (fW fi op sp ba (gRd s) (gPr s) k) := by
            rw [sL_zero]
            exact sL_congr fun c hc => (hem c hc).symm
          rw [o_ix (by omega)]
          refine bx_t rfl ?_
          rw [e0]
          exact go _ last rfl (by omega) (last_old hem)
        · refine s_arrivals_14 hE' h6 h7 hk1 hk hW ⟨o_in hk, ?_⟩
          rw [o_ix (by omega), sL_not, sL_and, sL_and]
          have e2 : (sL fun i => (fArr fi op sp ba (gRd s) (gNw s) (gPr s) k i && op i) && !fSet fi op sp ba (gRd s) (gPr s) k i) = sL (fW fi op sp ba (gRd s) (gPr s) k) := sL_congr fun c _ => fW_next hp ho hk1 (by omega) c
          rw [e2, sL_eq0]
          exact ⟨fun hem => go _ last rfl (by omega) (last_old hem), fun _ => go _ k rfl (by omega) last_new⟩
      · have hk0 : k = 0 := (o_eq (by omega) (by decide)).mp (Classical.not_not.mp he)
        have e1 : sL fi = sL (fW fi op sp ba (gRd s) (gPr s) k) := by
          rw [hk0]
          exact sL_congr fun c _ => (fW_zero hp hf c).symm
        refine ⟨o_in hk, ?_⟩
        rw [o_ix (by omega)]
        have h9 := go (e_up L' 15 k (sL fi)) 
        rw [← e1] at h9
        refine ⟨fun hem => ?_, fun _ => ?_⟩
        · refine h9 last rfl (by omega) (last_old ?_)
          rw [e1, sL_eq0] at hem
          exact hem
        · exact h9 k rfl (by omega) last_new
    · exact vWv_flood_14_p21 (bx_t (b_self 373) (H L' hF ⟨hE', h6, h7, hW⟩))
  have h0 := key 0 (by omega) (e_up (e_up L 14 6 (sL sp)) 14 7 (sL ba)) 0 ((Fr.rf.upL (by decide)).upL (by decide)) ⟨by rw [up_slot (by decide), up_slot (by decide)]; exact hE.1, fun p hp7 => by rw [up_cell (by decide), up_cell (by decide)]; exact hE.2 p hp7⟩ (by rw [up_slot (by decide), up_same]) up_same (fun j hj => absurd hj (Nat.not_lt_zero _)) (Nat.le_refl _) (fun j c hj => absurd hj (Nat.not_lt_zero _))
  have e0 : sL (fSet fi op sp ba (gRd s) (gPr s) 0) = 0 := by rw [sL_zero]; rfl
  rw [e0] at h0
  exact h0
theorem s_within_14 {Ψ : Int64 → e_TI → e_TL → e_TD → Prop} {fi op sp ba : Nat → Bool} (hW : WvW 14 L s fi op sp ba) {n : Nat} (hn : n < 372) (H : Ψ (sL fun c => decide (c < 63) && decide (fC fi op sp ba (gRd s) (gPr s) c ≤ n)) I L D) : e_M 44 [.ref 14, .int (Int32.ofNat n)] (S0 I L D sc) (e_rL sc Ψ) := by
  refine vWv_within_14 (loop_L (G := fun y i => e_Wp 44 5 [some (.ref 14), some (.int (Int32.ofNat n)), some (.long y), none, some (.int i)] [] (S0 I L D sc) 0 0 (e_rL sc Ψ)) (fun j c => fW fi op sp ba (gRd s) (gPr s) j c) (n + 1) (fun i y hi K0 K1 => ?_) ?_)
  · refine vWv_within_14_p5 (bx_f (b_ge (n := 373) (by omega)) (bx_f ?_ ⟨o_in (by omega), ?_⟩))
    · rw [o_lt (by omega) (by omega)]
      omega
    · rw [o_ix (by omega), hW.2.2.2 i (by omega)]
      exact K1 _ (fun _ _ => rfl)
  · refine vWv_within_14_p5 (bx_f (b_ge (n := 373) (by omega)) (bx_t ?_ ?_))
    · rw [o_lt (by omega) (by omega)]
      omega
    · rw [sL_congr (q := fun c => decide (c < 63) && decide (fC fi op sp ba (gRd s) (gPr s) c ≤ n))]
      · exact H
      · intro c _
        rw [Bool.eq_iff_iff]
        unfold fW
        simp only [List.any_eq_true, List.mem_range, Bool.and_eq_true, decide_eq_true_eq]
        constructor
        · rintro ⟨j, h1, h2, h3⟩; exact ⟨h2, by omega⟩
        · rintro ⟨h1, h2⟩; exact ⟨_, by omega, h1, rfl⟩
theorem s_costOf_14 {Ψ : Int32 → e_TI → e_TL → e_TD → Prop} {fi op sp ba : Nat → Bool} (hW : WvW 14 L s fi op sp ba) (hle : ∀ c, fC fi op sp ba (gRd s) (gPr s) c ≤ 372 ∨ fC fi op sp ba (gRd s) (gPr s) c = 1000000) {c : Nat} (hc : c < 63) (h1 : fC fi op sp ba (gRd s) (gPr s) c ≤ 372 → Ψ (Int32.ofNat (fC fi op sp ba (gRd s) (gPr s) c)) I L D) (h0 : fC fi op sp ba (gRd s) (gPr s) c = 1000000 → Ψ (-1) I L D) : e_M 122 [.ref 14, .int (Int32.ofNat c)] (S0 I L D sc) (e_rI sc Ψ) := by
  refine vWv_costOf_14 (loop_F (G := fun i => e_Wp 122 2 [some (.ref 14), some (.int (Int32.ofNat c)), some (.int i)] [] (S0 I L D sc) 0 0 (e_rI sc Ψ)) (fun k => fW fi op sp ba (gRd s) (gPr s) k c) 373 (fun i hi hj K => ?_) (fun hn => ?_))
  · refine vWv_costOf_14_p2 (bx_f (b_ge hi) ⟨o_in hi, ?_⟩)
    rw [o_ix (by omega), hW.2.2.2 i hi]
    refine s_has hc (bx_b K (fun hq => ?_))
    have e : fC fi op sp ba (gRd s) (gPr s) c = i := by
      unfold fW at hq
      simp only [Bool.and_eq_true, decide_eq_true_eq] at hq
      exact hq.2
    have := h1 (by omega)
    rw [e] at this
    exact this
  · refine vWv_costOf_14_p2 (bx_t (b_self 373) (h0 ?_))
    rcases hle c with h | h
    · have := hn _ (show fC fi op sp ba (gRd s) (gPr s) c < 373 by omega)
      unfold fW at this
      simp [hc] at this
    · exact h
end
section
variable {I : e_TI} {L : e_TL} {D : e_TD} {sc : e_TS} {s : Nat → Int32}
theorem s_layOut_19 {Ψ : e_TI → e_TL → e_TD → Prop} (h : GR I L s) (H : ∀ L', Fr 19 24 I L I L' → WvE 19 L' s → Ψ I L' D) : e_M 39 [.ref 19, .ref 3, .int (Int32.ofNat (gWx s))] (S0 I L D sc) (e_rV sc Ψ) := by
  refine vWv_layOut_19_3 (s_roads h ?_)
  have key : ∀ i, i ≤ 7 → ∀ L', Fr 19 24 I L I L' → L' 19 5 = sL (gRd s) → (∀ p, p < i → L' 22 p = sL fun c => decide (c < 63) && (decide (gTer s c < 5) && gPr s c == p)) → e_Wp 39 10 [some (.ref 19), some (.ref 3), some (.int (Int32.ofNat (gWx s))), some (.int (Int32.ofNat i))] [] (S0 I L' D sc) 0 0 (e_rV sc Ψ) := by
    refine e_downInd 7 (fun i hi ih L' hF h5 hE => ?_) (fun L' hF h5 hE => ?_)
    · refine vWv_layOut_19_3_p10 (bx_f (b_ge hi) (s_enteredFor (h.fr hF (by decide)) (by omega) h.wx.2 ⟨o_in hi, ?_⟩))
      rw [o_ix (by omega), o_s]
      refine ih _ (hF.upL (by decide)) (by rw [up_cell (by decide)]; exact h5) (fun p hp => ?_)
      by_cases e : p = i
      · subst e
        rw [up_same]
        rfl
      · rw [up_slot e]
        exact hE p (by omega)
    · exact vWv_layOut_19_3_p10 (bx_t (b_self 7) (H L' hF ⟨h5, fun p hp => hE p (by omega)⟩))
  exact key 0 (by omega) _ (Fr.rf.upL (by decide)) up_same (fun p hp => absurd hp (Nat.not_lt_zero _))
theorem s_stepsFrom_19 {Ψ : Int64 → e_TI → e_TL → e_TD → Prop} (h5 : L 19 5 = sL (gRd s)) {q e : Nat → Bool} {p : Nat} (hp : p < 2147483648) (h63 : q 63 = false) (H : Ψ (sL fun c => (aro q c && e c) || (decide (p = 1) && (aro (fun a => q a && gRd s a) c && gRd s c))) I L D) : e_M 41 [.ref 19, .long (sL q), .int (Int32.ofNat p), .long (sL e)] (S0 I L D sc) (e_rL sc Ψ) := by
  refine vWv_stepsFrom_19 (s_around h63 ⟨fun hne => ?_, fun he => ?_⟩)
  · have : p ≠ 1 := fun e => hne (by rw [e]; rfl)
    rw [sL_and]
    simpa [this] using H
  · have e1 : p = 1 := (o_eq hp (by decide)).mp (Classical.not_not.mp he)
    subst e1
    rw [h5, sL_and]
    refine s_around (by simp [h63]) ?_
    rw [h5, sL_and, sL_and, sL_or]
    simpa using H
theorem s_arrivals_19 {Ψ : Int64 → e_TI → e_TL → e_TD → Prop} {fi op sp ba : Nat → Bool} {k : Nat} (hE : WvE 19 L s) (h6 : L 19 6 = sL sp) (h7 : L 19 7 = sL ba) (hk1 : 1 ≤ k) (hk : k < 373) (hW : ∀ j, j < k → L 20 j = sL (fW fi op sp ba (gRd s) (gPr s) j)) (H : Ψ (sL (fArr fi op sp ba (gRd s) (gNw s) (gPr s) k)) I L D) : e_M 42 [.ref 19, .int (Int32.ofNat k)] (S0 I L D sc) (e_rL sc Ψ) := by
  refine vWv_arrivals_19 ?_
  let F : Nat → Nat → Bool := fun p c => decide (1 ≤ p) && (decide (p ≤ k) && (fStp (gRd s) (gNw s) (gPr s) p (fun a => fW fi op sp ba (gRd s) (gPr s) (k - p) a && !sp a) c && (if k = p then !ba c else decide (c < 63))))
  have key : ∀ i, i ≤ 7 → 1 ≤ i → e_Wp 42 5 [some (.ref 19), some (.int (Int32.ofNat k)), some (.long (sL fun c => (List.range i).any fun p => F p c)), none, some (.int (Int32.ofNat i)), none, none, none, none] [] (S0 I L D sc) 0 0 (e_rL sc Ψ) := by
    refine e_downInd 7 (fun i hi ih h1 => ?_) (fun _ => ?_)
    · replace ih := ih (by omega)
      refine vWv_arrivals_19_p5 (bx_f (b_ge hi) ?_)
      rw [o_lt (by omega) (by omega)]
      refine ⟨fun hlt => ?_, fun hge => ?_⟩
      · -- the price is above the cost: nothing more comes
        rw [sL_congr (q := fArr fi op sp ba (gRd s) (gNw s) (gPr s) k)]
        · exact H
        · intro c _
          unfold fArr
          rw [Bool.eq_iff_iff, List.any_eq_true, List.any_eq_true]
          constructor
          · rintro ⟨p, hp, h⟩
            exact ⟨p, by rw [List.mem_range] at hp ⊢; omega, h⟩
          · rintro ⟨p, hp, h⟩
            have h2 := h
            simp only [Bool.and_eq_true, decide_eq_true_eq] at h2
            exact ⟨p, by rw [List.mem_range]; omega, h⟩
      · rw [o_sub (by omega)]
        refine s_readSet_20 (by omega) ?_
        rw [hW (k - i) (by omega), h6, sL_not, sL_and, sL_eq0, o_s]
        have hany : ∀ c, ((List.range (i + 1)).any fun p => F p c) = (((List.range i).any fun p => F p c) || F i c) := fun c => any_s _ _
        refine ⟨fun hem => ?_, fun _ => ?_⟩
        · rw [sL_congr (q := fun c => (List.range (i + 1)).any fun p => F p c)]
          · exact ih
          · intro c _
            rw [hany]
            have : F i c = false := by
              rw [Bool.eq_false_iff]
              intro h
              simp only [F, Bool.and_eq_true] at h
              obtain ⟨a, ha, hq, _⟩ := fStp_iff h.2.2.1
              exact absurd hq (by rw [hem a (by omega)]; decide)
            rw [this, Bool.or_false]
        · have h63 : (fW fi op sp ba (gRd s) (gPr s) (k - i) 63 && !sp 63) = false := by rw [fW63]; rfl
          refine ⟨fun hne => ⟨o_in hi, ?_⟩, fun heq => ⟨o_in hi, ?_⟩⟩
          · have hki : ¬ k = i := fun e => hne (by rw [e])
            rw [o_ix (by omega), hE.2 i (by omega)]
            refine s_stepsFrom_19 hE.1 (by omega) h63 ?_
            rw [sL_all, sL_or]
            rw [sL_congr (q := fun c => (List.range (i + 1)).any fun p => F p c)]
            · exact ih
            · intro c _
              rw [hany]
              simp only [F, if_neg hki, decide_eq_true h1, decide_eq_true (show i ≤ k by omega), Bool.true_and]
              rfl
          · have hki : k = i := (o_eq (by omega) (by omega)).mp (Classical.not_not.mp heq)
            rw [o_ix (by omega), hE.2 i (by omega)]
            refine s_stepsFrom_19 hE.1 (by omega) h63 ?_
            rw [h7, sL_not, sL_and, sL_or]
            rw [sL_congr (q := fun c => (List.range (i + 1)).any fun p => F p c)]
            · exact ih
            · intro c _
              rw [hany]
              simp only [F, if_pos hki, decide_eq_true h1, decide_eq_true (show i ≤ k by omega), Bool.true_and]
              rfl
    · exact vWv_arrivals_19_p5 (bx_t (b_self 7) H)
  have h0 := key 1 (by omega) (Nat.le_refl _)
  have e1 : (sL fun c => (List.range 1).any fun p => F p c) = 0 := by rw [sL_zero]; rfl
  rw [e1] at h0
  exact h0
theorem s_flood_19 {Ψ : e_TI → e_TL → e_TD → Prop} (h : GR I L s) {fi op sp ba : Nat → Bool} (hE : WvE 19 L s) (hf : ∀ c, fi c = true → c < 63) (ho : ∀ c, op c = true → gNw s c = true) (H : ∀ L', Fr 19 24 I L I L' → WvW 19 L' s fi op sp ba → Ψ I L' D) : e_M 43 [.ref 19, .long (sL fi), .long (sL op), .long (sL sp), .long (sL ba)] (S0 I L D sc) (e_rV sc Ψ) := by
  have hp := gPr_ok h ho
  refine vWv_flood_19 ?_
  have key : ∀ k, k ≤ 373 → ∀ (L' : e_TL) (last : Nat), Fr 19 24 I L I L' → WvE 19 L' s → L' 19 6 = sL sp → L' 19 7 = sL ba → (∀ j, j < k → L' 20 j = sL (fW fi op sp ba (gRd s) (gPr s) j)) → last ≤ k → (∀ j c, j < k → fW fi op sp ba (gRd s) (gPr s) j c = true → j ≤ last) →
      e_Wp 43 21 [some (.ref 19), some (.long (sL fi)), none, some (.long (sL op)), none, some (.long (sL sp)), none, some (.long (sL ba)), none, some (.long (sL (fSet fi op sp ba (gRd s) (gPr s) k))), none, some (.int (Int32.ofNat last)), some (.int (Int32.ofNat k)), none, none] [] (S0 I L' D sc) 0 0 (e_rV sc Ψ) := by
    refine e_downInd 373 (fun k hk ih L' last hF hE' h6 h7 hW hl hlast => ?_) (fun L' last hF hE' h6 h7 hW hl hlast => ?_)
    · -- what is left to do once the wave is known
      have go : ∀ (L2 : e_TL) (last2 : Nat), L2 = e_up L' 20 k (sL (fW fi op sp ba (gRd s) (gPr s) k)) → last2 ≤ k + 1 → (∀ j c, j < k + 1 → fW fi op sp ba (gRd s) (gPr s) j c = true → j ≤ last2) →
          e_Wp 43 21 [some (.ref 19), some (.long (sL fi)), none, some (.long (sL op)), none, some (.long (sL sp)), none, some (.long (sL ba)), none, some (.long (sL (fSet fi op sp ba (gRd s) (gPr s) k) ||| sL (fW fi op sp ba (gRd s) (gPr s) k))), none, some (.int (Int32.ofNat last2)), some (.int (Int32.ofNat k + 1)), none, none] [] (S0 I L2 D sc) 0 0 (e_rV sc Ψ) := by
        intro L2 last2 e hl2 hlast2
        subst e
        rw [o_s, sL_or]
        rw [sL_congr (p := fun i => fSet fi op sp ba (gRd s) (gPr s) k i || fW fi op sp ba (gRd s) (gPr s) k i) (q := fSet fi op sp ba (gRd s) (gPr s) (k + 1)) (fun c _ => (any_s _ _).symm)]
        refine ih _ last2 (hF.upL (by decide)) ⟨by rw [up_cell (by decide)]; exact hE'.1, fun p hp7 => by rw [up_cell (by decide)]; exact hE'.2 p hp7⟩ (by rw [up_cell (by decide)]; exact h6) (by rw [up_cell (by decide)]; exact h7) (fun j hj => ?_) hl2 hlast2
        by_cases e : j = k
        · subst e
          exact up_same
        · rw [up_slot e]
          exact hW j (by omega)
      have last_new : ∀ j c, j < k + 1 → fW fi op sp ba (gRd s) (gPr s) j c = true → j ≤ k := fun j c hj _ => by omega
      have last_old : (∀ c, c < 64 → fW fi op sp ba (gRd s) (gPr s) k c = false) → ∀ j c, j < k + 1 → fW fi op sp ba (gRd s) (gPr s) j c = true → j ≤ last := by
        intro hem j c hj hw
        by_cases e : j = k
        · subst e
          have hc : c < 63 := ((fW_iff (by omega)).mp hw).1
          rw [hem c (by omega)] at hw
          cases hw
        · exact hlast j c (by omega) hw
      refine vWv_flood_19_p21 (bx_f (b_ge hk) ⟨fun hne => ?_, fun he => ?_⟩)
      · have hk1 : 1 ≤ k := by
          rcases Nat.eq_zero_or_pos k with e | e
          · exact absurd (by rw [e]; rfl) hne
          · exact e
        rw [show (6 : Int32) = Int32.ofNat 6 from rfl, o_add, o_lt (by omega) (by omega)]
        refine ⟨fun hfar => ⟨o_in hk, ?_⟩, fun hnear => ?_⟩
        · -- too far from the last wave
          have hem : ∀ c, c < 64 → fW fi op sp ba (gRd s) (gPr s) k c = false := by
            intro c _
            rw [Bool.eq_false_iff]
            intro hw
            obtain ⟨j, a, hj, hj6, hwj⟩ := fW_near hp hk1 (by omega) hw
            have := hlast j a hj hwj
            omega
          have e0 : (0 : Int64) = sL (fW fi op sp ba (gRd s) (gPr s) k) := by
            rw [sL_zero]
            exact sL_congr fun c hc => (hem c hc).symm
          rw [o_ix (by omega)]
          refine bx_t rfl ?_
          rw [e0]
          exact go _ last rfl (by omega) (last_old hem)
        · refine s_arrivals_19 hE' h6 h7 hk1 hk hW ⟨o_in hk, ?_⟩
          rw [o_ix (by omega), sL_not, sL_and, sL_and]
          have e2 : (sL fun i => (fArr fi op sp ba (gRd s) (gNw s) (gPr s) k i && op i) && !fSet fi op sp ba (gRd s) (gPr s) k i) = sL (fW fi op sp ba (gRd s) (gPr s) k) := sL_congr fun c _ => fW_next hp ho hk1 (by omega) c
          rw [e2, sL_eq0]
          exact ⟨fun hem => go _ last rfl (by omega) (last_old hem), fun _ => go _ k rfl (by omega) last_new⟩
      · have hk0 : k = 0 := (o_eq (by omega) (by decide)).mp (Classical.not_not.mp he)
        have e1 : sL fi = sL (fW fi op sp ba (gRd s) (gPr s) k) := by
          rw [hk0]
          exact sL_congr fun c _ => (fW_zero hp hf c).symm
        refine ⟨o_in hk, ?_⟩
        rw [o_ix (by omega)]
        have h9 := go (e_up L' 20 k (sL fi)) 
        rw [← e1] at h9
        refine ⟨fun hem => ?_, fun _ => ?_⟩
        · refine h9 last rfl (by omega) (last_old ?_)
          rw [e1, sL_eq0] at hem
          exact hem
        · exact h9 k rfl (by omega) last_new
    · exact vWv_flood_19_p21 (bx_t (b_self 373) (H L' hF ⟨hE', h6, h7, hW⟩))
  have h0 := key 0 (by omega) (e_up (e_up L 19 6 (sL sp)) 19 7 (sL ba)) 0 ((Fr.rf.upL (by decide)).upL (by decide)) ⟨by rw [up_slot (by decide), up_slot (by decide)]; exact hE.1, fun p hp7 => by rw [up_cell (by decide), up_cell (by decide)]; exact hE.2 p hp7⟩ (by rw [up_slot (by decide), up_same]) up_same (fun j hj => absurd hj (Nat.not_lt_zero _)) (Nat.le_refl _) (fun j c hj => absurd hj (Nat.not_lt_zero _))
  have e0 : sL (fSet fi op sp ba (gRd s) (gPr s) 0) = 0 := by rw [sL_zero]; rfl
  rw [e0] at h0
  exact h0
theorem s_within_19 {Ψ : Int64 → e_TI → e_TL → e_TD → Prop} {fi op sp ba : Nat → Bool} (hW : WvW 19 L s fi op sp ba) {n : Nat} (hn : n < 372) (H : Ψ (sL fun c => decide (c < 63) && decide (fC fi op sp ba (gRd s) (gPr s) c ≤ n)) I L D) : e_M 44 [.ref 19, .int (Int32.ofNat n)] (S0 I L D sc) (e_rL sc Ψ) := by
  refine vWv_within_19 (loop_L (G := fun y i => e_Wp 44 5 [some (.ref 19), some (.int (Int32.ofNat n)), some (.long y), none, some (.int i)] [] (S0 I L D sc) 0 0 (e_rL sc Ψ)) (fun j c => fW fi op sp ba (gRd s) (gPr s) j c) (n + 1) (fun i y hi K0 K1 => ?_) ?_)
  · refine vWv_within_19_p5 (bx_f (b_ge (n := 373) (by omega)) (bx_f ?_ ⟨o_in (by omega), ?_⟩))
    · rw [o_lt (by omega) (by omega)]
      omega
    · rw [o_ix (by omega), hW.2.2.2 i (by omega)]
      exact K1 _ (fun _ _ => rfl)
  · refine vWv_within_19_p5 (bx_f (b_ge (n := 373) (by omega)) (bx_t ?_ ?_))
    · rw [o_lt (by omega) (by omega)]
      omega
    · rw [sL_congr (q := fun c => decide (c < 63) && decide (fC fi op sp ba (gRd s) (gPr s) c ≤ n))]
      · exact H
      · intro c _
        rw [Bool.eq_iff_iff]
        unfold fW
        simp only [List.any_eq_true, List.mem_range, Bool.and_eq_true, decide_eq_true_eq]
        constructor
        · rintro ⟨j, h1, h2, h3⟩; exact ⟨h2, by omega⟩
        · rintro ⟨h1, h2⟩; exact ⟨_, by omega, h1, rfl⟩
theorem s_costOf_19 {Ψ : Int32 → e_TI → e_TL → e_TD → Prop} {fi op sp ba : Nat → Bool} (hW : WvW 19 L s fi op sp ba) (hle : ∀ c, fC fi op sp ba (gRd s) (gPr s) c ≤ 372 ∨ fC fi op sp ba (gRd s) (gPr s) c = 1000000) {c : Nat} (hc : c < 63) (h1 : fC fi op sp ba (gRd s) (gPr s) c ≤ 372 → Ψ (Int32.ofNat (fC fi op sp ba (gRd s) (gPr s) c)) I L D) (h0 : fC fi op sp ba (gRd s) (gPr s) c = 1000000 → Ψ (-1) I L D) : e_M 122 [.ref 19, .int (Int32.ofNat c)] (S0 I L D sc) (e_rI sc Ψ) := by
  refine vWv_costOf_19 (loop_F (G := fun i => e_Wp 122 2 [some (.ref 19), some (.int (Int32.ofNat c)), some (.int i)] [] (S0 I L D sc) 0 0 (e_rI sc Ψ)) (fun k => fW fi op sp ba (gRd s) (gPr s) k c) 373 (fun i hi hj K => ?_) (fun hn => ?_))
  · refine vWv_costOf_19_p2 (bx_f (b_ge hi) ⟨o_in hi, ?_⟩)
    rw [o_ix (by omega), hW.2.2.2 i hi]
    refine s_has hc (bx_b K (fun hq => ?_))
    have e : fC fi op sp ba (gRd s) (gPr s) c = i := by
      unfold fW at hq
      simp only [Bool.and_eq_true, decide_eq_true_eq] at hq
      exact hq.2
    have := h1 (by omega)
    rw [e] at this
    exact this
  · refine vWv_costOf_19_p2 (bx_t (b_self 373) (h0 ?_))
    rcases hle c with h | h
    · have := hn _ (show fC fi op sp ba (gRd s) (gPr s) c < 373 by omega)
      unfold fW at this
      simp [hc] at this
    · exact h
end
