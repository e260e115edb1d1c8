/-! the reference: a way of least cost -/
section
variable {fi op sp ba rd : Nat → Bool} {pr : Nat → Nat}
def cnt63 (X : Nat → Bool) : Nat := (List.range 63).countP X
theorem grow {t : Nat} (ht : t < 63) {G1 : (Nat → Bool) → (Nat → Bool) → Prop} {G2 : (Nat → Bool) → (Nat → Bool) → Nat → Prop} {G3 : (Nat → Bool) → (Nat → Bool) → Nat → Nat → Prop}
    (hE : ∀ X P, (∀ c, c < 63 → X c = fLd fi op sp ba rd pr t c) → (∀ c, X c = true → c < 63) → sL P = sL X → G1 X P)
    (hR : ∀ X P, (∀ c, X c = true → c < 63) → ¬ sL P = sL X → G2 X X 0 → G1 X P)
    (h3 : ∀ X P, G1 X P → G2 X P 63)
    (h4 : ∀ X P c, c < 63 → G3 X P c 0 → G2 X P c)
    (h5 : ∀ X P c, c < 63 → G2 X P (c + 1) → G3 X P c 6)
    (h6 : ∀ X P c d, c < 63 → d < 6 → (∀ i, X i = true → i < 63) → ((∀ r, nb c d = some r → X r = true → tgt fi op sp ba rd pr c r = true → False) → G3 X P c (d + 1)) → (∀ r, nb c d = some r → X r = true → tgt fi op sp ba rd pr c r = true → G3 (fun i => X i || i == c) P c (d + 1)) → G3 X P c d) :
    ∀ X P, X t = true → (∀ c, X c = true → fLd fi op sp ba rd pr t c = true) → (∀ c, X c = true → c < 63) → ¬ sL P = sL X → G1 X P := by
  have key : ∀ n X P, 63 - cnt63 X = n → X t = true → (∀ c, X c = true → fLd fi op sp ba rd pr t c = true) → (∀ c, X c = true → c < 63) → ¬ sL P = sL X → G1 X P := by
    intro n
    induction n using Nat.strongRecOn with
    | ind n ih =>
      intro X0 P0 hn hX0 hL0 hB0 hne
      let Cl := fun (X : Nat → Bool) (c d : Nat) => ∀ r, nb c d = some r → X r = true → tgt fi op sp ba rd pr c r = true → X c = true
      let V := fun (X : Nat → Bool) (c d : Nat) => (∀ i, X0 i = true → X i = true) ∧ (∀ i, X i = true → fLd fi op sp ba rd pr t i = true) ∧ (∀ i, X i = true → i < 63) ∧ ((∃ i, X i = true ∧ X0 i = false) ∨ ((∀ i, X i = X0 i) ∧ (∀ c', c' < c → ∀ d', d' < 6 → Cl X c' d') ∧ (∀ d', d' < d → Cl X c d')))
      have outer : ∀ c, c ≤ 63 → ∀ X, V X c 0 → G2 X X0 c := by
        refine e_downInd (G := fun c => ∀ X, V X c 0 → G2 X X0 c) 63 (fun c hc ihc X hV => ?_) (fun X hV => ?_)
        · refine h4 X X0 c hc ?_
          have inner : ∀ d, d ≤ 6 → ∀ X, V X c d → G3 X X0 c d := by
            refine e_downInd (G := fun d => ∀ X, V X c d → G3 X X0 c d) 6 (fun d hd ihd X hV => ?_) (fun X hV => ?_)
            · obtain ⟨v1, v2, v3, v4⟩ := hV
              refine h6 X X0 c d hc hd v3 (fun hno => ihd X ⟨v1, v2, v3, ?_⟩) (fun r hr hXr htg => ihd _ ⟨fun i hi => ?_, fun i hi => ?_, fun i hi => ?_, ?_⟩)
              · rcases v4 with hg | ⟨e, hc1, hc2⟩
                · exact Or.inl hg
                · refine Or.inr ⟨e, hc1, fun d' hd' => ?_⟩
                  by_cases ed : d' = d
                  · subst ed
                    exact fun r hr hXr htg => absurd (hno r hr hXr htg) id
                  · exact hc2 d' (by omega)
              · show (X i || i == c) = true
                rw [v1 i hi, Bool.true_or]
              · by_cases e : i = c
                · rw [e]
                  exact fLd_step htg (v2 r hXr)
                · refine v2 i ?_
                  have : (X i || i == c) = true := hi
                  rw [beq_false_of_ne e, Bool.or_false] at this
                  exact this
              · by_cases e : i = c
                · rw [e]
                  exact hc
                · refine v3 i ?_
                  have : (X i || i == c) = true := hi
                  rw [beq_false_of_ne e, Bool.or_false] at this
                  exact this
              · by_cases hXc : X c = true
                · have same : ∀ i, (X i || i == c) = X i := fun i => by
                    by_cases e : i = c
                    · rw [e, hXc, Bool.true_or]
                    · rw [beq_false_of_ne e, Bool.or_false]
                  have sameF : (fun i => X i || i == c) = X := funext same
                  rw [sameF]
                  rcases v4 with hg | ⟨e, hc1, hc2⟩
                  · exact Or.inl hg
                  · refine Or.inr ⟨e, hc1, fun d' hd' => ?_⟩
                    by_cases ed : d' = d
                    · exact fun _ _ _ _ => hXc
                    · exact hc2 d' (by omega)
                · refine Or.inl ⟨c, ?_, ?_⟩
                  · show (X c || c == c) = true
                    rw [beq_self_eq_true, Bool.or_true]
                  · rw [Bool.eq_false_iff]
                    exact fun h => hXc (v1 c h)
            · refine h5 X X0 c hc (ihc X ?_)
              obtain ⟨v1, v2, v3, v4⟩ := hV
              refine ⟨v1, v2, v3, ?_⟩
              rcases v4 with hg | ⟨e, hc1, hc2⟩
              · exact Or.inl hg
              · refine Or.inr ⟨e, fun c' hc' d' hd' => ?_, fun d' hd' => absurd hd' (Nat.not_lt_zero _)⟩
                by_cases ec : c' = c
                · subst ec
                  exact hc2 d' hd'
                · exact hc1 c' (by omega) d' hd'
          exact inner 0 (Nat.zero_le _) X hV
        · refine h3 X X0 ?_
          obtain ⟨v1, v2, v3, v4⟩ := hV
          rcases v4 with ⟨i, hi, hi0⟩ | ⟨e, hc1, hc2⟩
          · have hi63 := v3 i hi
            have hlt : cnt63 X0 + 1 ≤ cnt63 X := countP_lt v1 (List.mem_range.mpr hi63) hi hi0
            have hle : cnt63 X ≤ 63 := countP_le X 63
            refine ih (63 - cnt63 X) (by omega) X X0 rfl (v1 t hX0) v2 v3 (fun hs => ?_)
            have := sL_inj hs i (by omega)
            rw [hi, hi0] at this
            cases this
          · have hX : X = X0 := funext e
            subst hX
            refine hE X X (fun c hc => ?_) v3 rfl
            cases hl : fLd fi op sp ba rd pr t c with
            | false =>
              rw [Bool.eq_false_iff]
              intro h
              rw [v2 c h] at hl
              cases hl
            | true =>
              have lead : ∀ n c, LdN fi op sp ba rd pr t n c → X c = true := by
                intro n
                induction n with
                | zero =>
                  intro c hc
                  have : c = t := hc
                  rw [this]
                  exact hX0
                | succ n ihn =>
                  rintro c ⟨b, hb, hbn⟩
                  obtain ⟨f1, f2, _⟩ := fst_lt (tgt_iff.mp hb).1
                  obtain ⟨d, hd, hnb⟩ := adj_nb f2
                  exact hc1 c f1 d hd b hnb (ihn b hbn) hb
              obtain ⟨n, hn⟩ := fLd_iff.mp hl
              exact lead n c hn
      exact hR X0 P0 hB0 hne (outer 0 (Nat.zero_le _) X0 ⟨fun _ h => h, hL0, hB0, Or.inr ⟨fun _ => rfl, fun c' hc' => absurd hc' (Nat.not_lt_zero _), fun d' hd' => absurd hd' (Nat.not_lt_zero _)⟩⟩)
  exact fun X P => key (63 - cnt63 X) X P rfl
end
/-- nothing but the way and its length has changed -/
def FrT (I I' : e_TI) : Prop := (∀ c, c ≠ 139 → c ≠ 145 → I' c = I c) ∧ ∀ k, k ≠ 13 → I' 139 k = I 139 k
theorem FrT.rf {I : e_TI} : FrT I I := ⟨fun _ _ _ => rfl, fun _ _ => rfl⟩
theorem FrT.up5 {I I' : e_TI} (h : FrT I I') {k : Nat} {x : Int32} : FrT I (e_up I' 145 k x) := ⟨fun c h1 h2 => by rw [up_cell h2]; exact h.1 c h1 h2, fun j hj => by rw [up_cell (by decide)]; exact h.2 j hj⟩
theorem FrT.up9 {I I' : e_TI} (h : FrT I I') {x : Int32} : FrT I (e_up I' 139 13 x) := ⟨fun c h1 h2 => by rw [up_cell h1]; exact h.1 c h1 h2, fun j hj => by rw [up_slot hj]; exact h.2 j hj⟩
theorem MR.ft {I I' : e_TI} {s : Nat → Int32} (h : MR I s) (hF : FrT I I') : MR I' s := ⟨h.1, by rw [hF.1 140 (by decide) (by decide)]; exact h.2⟩
theorem WyR.ft {I I' : e_TI} {L : e_TL} {s : Nat → Int32} {u : Nat} (h : WyR I L s u) (hF : FrT I I') : WyR I' L s u := ⟨by rw [hF.2 11 (by decide)]; exact h.1, h.2⟩
theorem WyC.ft {I I' : e_TI} {s : Nat → Int32} {u : Nat} (h : WyC I s u) (hF : FrT I I') : WyC I' s u := fun c hc => by rw [hF.1 144 (by decide) (by decide)]; exact h c hc
section
variable {I : e_TI} {L : e_TL} {D : e_TD} {sc : e_TS} {s : Nat → Int32} {u : Nat}
theorem s_M_isTight {Ψ : Int32 → e_TI → e_TL → e_TD → Prop} (h : MR I s) (hu : u < gMa s) (hW : WyR I L s u) (hC : WyC I s u) {a b : Nat} (ha : a < 63) (hb : b < 63) (hab : adj a b = true) (H : Ψ (e_b (gTgt s u a b)) I L D) : e_M 276 [.ref 139, .int (Int32.ofNat (gPl s u)), .int (Int32.ofNat a), .int (Int32.ofNat b)] (S0 I L D sc) (e_rI sc Ψ) := by
  have la := mWayC_le h hu a
  have lb := mWayC_le h hu b
  have e : gTgt s u a b = (gStp s u a b && (decide (gWayC s u a < 1000000) && decide (gWayC s u a + fw_ (gRd s) (gPr s) a b = gWayC s u b))) := rfl
  have fin : ∀ v : Bool, gTgt s u a b = v → Ψ (e_b v) I L D := fun v hv => by rw [← hv]; exact H
  refine vM_isTight (s_M_isStep h hu hW ha hb hab (bx_b (fun h0 => fin false ?_) (fun h1 => ⟨o_in ha, ?_⟩)))
  · rw [e, h0, Bool.false_and]
  · have hw6 : fw_ (gRd s) (gPr s) a b ≤ 6 := by
      unfold fw_
      split
      · decide
      · exact gPrice_le _ _
    rw [o_ix (a := a) (by omega), hC a ha]
    have cmp : ((1000000 : Int32) ≤ Int32.ofNat (gWayC s u a)) ↔ 1000000 ≤ gWayC s u a := o_le (a := 1000000) (by decide) (by omega)
    rw [cmp]
    refine ⟨fun hf => fin false ?_, fun hf => ⟨o_in ha, s_M_stepCost h ha hb (gStp_nw h h1).2 ⟨o_in hb, ?_⟩⟩⟩
    · rw [e, decide_eq_false (p := gWayC s u a < 1000000) (by omega), Bool.false_and, Bool.and_false]
    · rw [o_ix (a := b) (by omega), hC b hb, show gStepC s a b = fw_ (gRd s) (gPr s) a b from rfl, o_add, o_eq (by omega) (by omega)]
      refine ⟨fun hn => fin false ?_, fun he => fin true ?_⟩
      · rw [e, decide_eq_false hn, Bool.and_false, Bool.and_false]
      · rw [e, h1, decide_eq_true (p := gWayC s u a < 1000000) (by omega), decide_eq_true (Classical.not_not.mp he)]
        rfl
theorem s_M_findWay {Ψ : e_TI → e_TL → e_TD → Prop} (h : MR I s) (hu : u < gMa s) (hW : WyR I L s u) (hC : WyC I s u) {t : Nat} (ht : t < 63) (hK : gWayC s u t ≤ 372) (H : ∀ I', FrT I I' → I' 139 13 = Int32.ofNat (gLen s u t + 1) → (∀ i, i ≤ gLen s u t → I' 145 i = Int32.ofNat (gWay s u t i)) → Ψ I' L D) : e_M 277 [.ref 139, .int (Int32.ofNat (gPl s u)), .int (Int32.ofNat t)] (S0 I L D sc) (e_rV sc Ψ) := by
  have hp := h.pl hu
  have hpr := mPr_ok h (op := gWayO s u) (fun _ hc ho => gWayO_ter hc ho)
  have hlead : fLd (fun c => c == gPl s u) (gWayO s u) (gWayS s u) (gWayB s u) (gRd s) (gPr s) t (gPl s u) = true := by
    obtain ⟨a, ha, hl⟩ := fLd_first (t := t) (fi := fun c => c == gPl s u) (op := gWayO s u) (sp := gWayS s u) (ba := gWayB s u) (rd := gRd s) (pr := gPr s) hpr (show gWayC s u t < 1000000 by omega)
    have : a = gPl s u := beq_iff_eq.mp ha
    rw [this] at hl
    exact hl
  obtain ⟨hn, hend, hbef⟩ := fLen_spec hpr hp hlead
  -- the walk
  have walk : ∀ (X : Nat → Bool), (∀ c, c < 63 → X c = fLd (fun c => c == gPl s u) (gWayO s u) (gWayS s u) (gWayB s u) (gRd s) (gPr s) t c) → ∀ (y5 : Int64), ∀ n, n ≤ gLen s u t → ∀ I', FrT I I' → I' 139 13 = Int32.ofNat n → (∀ i, i < n → I' 145 i = Int32.ofNat (gWay s u t i)) → e_Wp 277 106 [some (.ref 139), some (.int (Int32.ofNat (gPl s u))), some (.int (Int32.ofNat t)), some (.long (sL X)), none, some (.long y5), none, some (.int (Int32.ofNat (gWay s u t n))), none, none, none] [] (S0 I' L D sc) 0 0 (e_rV sc Ψ) := by
    intro X hX y5
    refine e_downInd (G := fun n => ∀ I', FrT I I' → I' 139 13 = Int32.ofNat n → (∀ i, i < n → I' 145 i = Int32.ofNat (gWay s u t i)) → e_Wp 277 106 [some (.ref 139), some (.int (Int32.ofNat (gPl s u))), some (.int (Int32.ofNat t)), some (.long (sL X)), none, some (.long y5), none, some (.int (Int32.ofNat (gWay s u t n))), none, none, none] [] (S0 I' L D sc) 0 0 (e_rV sc Ψ)) (gLen s u t) (fun n hlt ih I' hF h13 hV => ?_) (fun I' hF h13 hV => ?_)
    · have hw := fWay_ok hpr hp hlead n (fun i hi => hbef i (Nat.lt_trans hi hlt))
      have hw63 : gWay s u t n < 63 := hw.2.1
      have hne : gWay s u t n ≠ t := hbef n hlt
      have hn62 : n < 62 := Nat.lt_of_lt_of_le hlt hn
      have hnx := fNx_spec ((fLd_inv hw.1).resolve_left hne)
      refine vM_findWay_p106 (bx_f (fun e => hne ((o_eq (by omega) (by omega)).mp e)) ?_)
      rw [h13, o_ix (a := n) (by omega), o_s]
      refine ⟨o_in (by omega), ?_⟩
      obtain ⟨I2, hI2⟩ : ∃ I2, e_up (e_up I' 145 n (Int32.ofNat (gWay s u t n))) 139 13 (Int32.ofNat (n + 1)) = I2 := ⟨_, rfl⟩
      have F2 : FrT I I2 := by rw [← hI2]; exact hF.up5.up9
      have h2 := h.ft F2
      have v13 : I2 139 13 = Int32.ofNat (n + 1) := by rw [← hI2]; exact up_same
      have vw : ∀ i, i < n + 1 → I2 145 i = Int32.ofNat (gWay s u t i) := by
        intro i hi
        rw [← hI2, up_cell (by decide)]
        by_cases e : i = n
        · rw [e, up_same]
        · rw [up_slot e]
          exact hV i (by omega)
      rw [hI2]
      -- the least of the tight neighbors that lead
      have least : ∀ d, d ≤ 6 → ∀ m, m ≤ 63 → (m = 63 ∨ (tgt (fun c => c == gPl s u) (gWayO s u) (gWayS s u) (gWayB s u) (gRd s) (gPr s) (gWay s u t n) m = true ∧ fLd (fun c => c == gPl s u) (gWayO s u) (gWayS s u) (gWayB s u) (gRd s) (gPr s) t m = true)) → (∀ d', d' < d → ∀ r, nb (gWay s u t n) d' = some r → gTgt s u (gWay s u t n) r = true → X r = true → m ≤ r) → e_Wp 277 140 [some (.ref 139), some (.int (Int32.ofNat (gPl s u))), some (.int (Int32.ofNat t)), some (.long (sL X)), none, some (.long y5), none, some (.int (Int32.ofNat (gWay s u t n))), some (.int (Int32.ofNat m)), some (.int (Int32.ofNat d)), none] [] (S0 I2 L D sc) 0 0 (e_rV sc Ψ) := by
        refine e_downInd (G := fun d => ∀ m, m ≤ 63 → (m = 63 ∨ (tgt (fun c => c == gPl s u) (gWayO s u) (gWayS s u) (gWayB s u) (gRd s) (gPr s) (gWay s u t n) m = true ∧ fLd (fun c => c == gPl s u) (gWayO s u) (gWayS s u) (gWayB s u) (gRd s) (gPr s) t m = true)) → (∀ d', d' < d → ∀ r, nb (gWay s u t n) d' = some r → gTgt s u (gWay s u t n) r = true → X r = true → m ≤ r) → e_Wp 277 140 [some (.ref 139), some (.int (Int32.ofNat (gPl s u))), some (.int (Int32.ofNat t)), some (.long (sL X)), none, some (.long y5), none, some (.int (Int32.ofNat (gWay s u t n))), some (.int (Int32.ofNat m)), some (.int (Int32.ofNat d)), none] [] (S0 I2 L D sc) 0 0 (e_rV sc Ψ)) 6 (fun d hd ihd m hm hm1 hm2 => ?_) (fun m hm hm1 hm2 => ?_)
        · have skip : (∀ r, nb (gWay s u t n) d = some r → gTgt s u (gWay s u t n) r = true → X r = true → False) → e_Wp 277 140 [some (.ref 139), some (.int (Int32.ofNat (gPl s u))), some (.int (Int32.ofNat t)), some (.long (sL X)), none, some (.long y5), none, some (.int (Int32.ofNat (gWay s u t n))), some (.int (Int32.ofNat m)), some (.int (Int32.ofNat d + 1)), none] [] (S0 I2 L D sc) 0 0 (e_rV sc Ψ) := by
            intro hno
            rw [o_s]
            refine ihd m hm hm1 (fun d' hd' r hr htg hXr => ?_)
            by_cases ed : d' = d
            · subst ed
              exact absurd (hno r hr htg hXr) id
            · exact hm2 d' (by omega) r hr htg hXr
          refine vM_findWay_p140 (bx_f (b_ge hd) (s_M_next hw63 hd ?_))
          cases hnb : nb (gWay s u t n) d with
          | none => exact bx_t (by decide) (skip (fun r hr => by rw [hnb] at hr; cases hr))
          | some r =>
            have hr : r < 63 := nb_lt ⟨_, hw63⟩ ⟨d, hd⟩ r hnb
            rw [show o_opt (some r) = Int32.ofNat r from rfl]
            refine bx_f (b_nn (by omega)) (s_M_has hr (bx_b (fun hx => skip ?_) (fun hx => s_M_isTight h2 hu (hW.ft F2) (hC.ft F2) hw63 hr (nb_adj d hd hnb) (bx_b (fun hg => skip ?_) (fun hg => ?_)))))
            · intro r' hr' _ hx'
              rw [hnb] at hr'
              cases hr'
              rw [hx] at hx'
              cases hx'
            · intro r' hr' hg' _
              rw [hnb] at hr'
              cases hr'
              rw [hg] at hg'
              cases hg'
            · refine s_minN (by omega) (by omega) ?_
              rw [o_s]
              refine ihd (min m r) (by omega) ?_ (fun d' hd' r' hr' htg hXr => ?_)
              · rcases Nat.le_total m r with hle | hle
                · rw [Nat.min_eq_left hle]
                  exact hm1
                · rw [Nat.min_eq_right hle]
                  exact Or.inr ⟨hg, by rw [← hX r hr]; exact hx⟩
              · by_cases ed : d' = d
                · subst ed
                  rw [hnb] at hr'
                  cases hr'
                  exact Nat.min_le_right _ _
                · exact Nat.le_trans (Nat.min_le_left _ _) (hm2 d' (by omega) r' hr' htg hXr)
        · have em : m = gWay s u t (n + 1) := by
            obtain ⟨x1, x2, x3, x4⟩ := hnx
            obtain ⟨f1, f2, _⟩ := fst_lt (tgt_iff.mp x1).1
            obtain ⟨d, hd, hnb⟩ := adj_nb f2
            have hle := hm2 d hd _ hnb x1 (by rw [hX _ x3]; exact x2)
            rcases hm1 with e | ⟨m1, m2⟩
            · exfalso
              have : m ≤ _ := hle
              omega
            · rcases Nat.lt_or_ge m (fNx (fun c => c == gPl s u) (gWayO s u) (gWayS s u) (gWayB s u) (gRd s) (gPr s) t (gWay s u t n)) with hlt2 | hge
              · rcases Bool.and_eq_false_iff.mp (x4 m hlt2) with hq | hq
                · exact absurd (m1.symm.trans hq) (by decide)
                · exact absurd (m2.symm.trans hq) (by decide)
              · exact Nat.le_antisymm hle hge
          refine vM_findWay_p140 (bx_t (b_self 6) ?_)
          rw [em]
          exact ih I2 F2 v13 vw
      exact least 0 (Nat.zero_le _) 63 (Nat.le_refl _) (Or.inl rfl) (fun d' hd' => absurd hd' (Nat.not_lt_zero _))
    · have e : gWay s u t (gLen s u t) = t := hend
      have hn62 : gLen s u t ≤ 62 := hn
      rw [e]
      refine vM_findWay_p106 (bx_t rfl ?_)
      rw [h13, o_ix (a := gLen s u t) (by omega), o_s]
      refine ⟨o_in (by omega), H _ hF.up5.up9 up_same (fun i hi => ?_)⟩
      rw [up_cell (by decide)]
      by_cases ei : i = gLen s u t
      · rw [ei, up_same, e]
      · rw [up_slot ei]
        exact hV i (by omega)
  -- the cells that lead
  have main := grow (fi := fun c => c == gPl s u) (op := gWayO s u) (sp := gWayS s u) (ba := gWayB s u) (rd := gRd s) (pr := gPr s) ht
    (G1 := fun X P => e_Wp 277 7 [some (.ref 139), some (.int (Int32.ofNat (gPl s u))), some (.int (Int32.ofNat t)), some (.long (sL X)), none, some (.long (sL P)), none, none, none, none, none] [] (S0 I L D sc) 0 0 (e_rV sc Ψ))
    (G2 := fun X P c => e_Wp 277 20 [some (.ref 139), some (.int (Int32.ofNat (gPl s u))), some (.int (Int32.ofNat t)), some (.long (sL X)), none, some (.long (sL P)), none, some (.int (Int32.ofNat c)), none, none, none] [] (S0 I L D sc) 0 0 (e_rV sc Ψ))
    (G3 := fun X P c d => e_Wp 277 30 [some (.ref 139), some (.int (Int32.ofNat (gPl s u))), some (.int (Int32.ofNat t)), some (.long (sL X)), none, some (.long (sL P)), none, some (.int (Int32.ofNat c)), some (.int (Int32.ofNat d)), none, none] [] (S0 I L D sc) 0 0 (e_rV sc Ψ))
    (fun X P hX hB he => vM_findWay_p7 (bx_t he (walk X hX (sL P) 0 (Nat.zero_le _) _ FrT.rf.up9 up_same (fun i hi => absurd hi (Nat.not_lt_zero _)))))
    (fun X P hB hne hG => vM_findWay_p7 (bx_f hne hG))
    (fun X P hG => vM_findWay_p20 (bx_t (b_self 63) hG))
    (fun X P c hc hG => vM_findWay_p20 (bx_f (b_ge hc) hG))
    (fun X P c hc hG => vM_findWay_p30 (bx_t (b_self 6) (by rw [o_s]; exact hG)))
    (fun X P c d hc hd hB k1 k2 => by
      refine vM_findWay_p30 (bx_f (b_ge hd) (s_M_next hc hd ?_))
      rw [orL0, o_s]
      cases hnb : nb c d with
      | none => exact bx_t (by decide) (k1 (fun r hr => by rw [hnb] at hr; cases hr))
      | some r =>
        have hr : r < 63 := nb_lt ⟨c, hc⟩ ⟨d, hd⟩ r hnb
        rw [show o_opt (some r) = Int32.ofNat r from rfl]
        refine bx_f (b_nn (by omega)) (s_M_has hr (bx_b (fun hx => k1 ?_) (fun hx => s_M_isTight h hu hW hC hc hr (nb_adj d hd hnb) (bx_b (fun hg => k1 ?_) (fun hg => ?_)))))
        · intro r' hr' hx' _
          rw [hnb] at hr'
          cases hr'
          rw [hx] at hx'
          cases hx'
        · intro r' hr' _ hg'
          rw [hnb] at hr'
          cases hr'
          have : gTgt s u c r = true := hg'
          rw [hg] at this
          cases this
        · rw [sL_only c hc, sL_or]
          exact k2 r hnb hx hg)
  refine vM_findWay ?_
  have e0 : (0 : Int64) = sL (fun _ => false) := sL_zero
  rw [sL_only t ht, e0]
  refine main (fun i => i == t) (fun _ => false) (beq_self_eq_true t) (fun c hc => ?_) (fun c hc => ?_) (fun hs => ?_)
  · rw [beq_iff_eq.mp hc]
    exact fLd_self t
  · rw [beq_iff_eq.mp hc]
    exact ht
  · have := sL_inj hs t (by omega)
    rw [beq_self_eq_true] at this
    cases this
end
