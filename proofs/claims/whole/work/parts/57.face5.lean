/-! the class's face: a map read from its text -/
theorem gRead_congr {s f g : Nat → Int32} : ∀ n, (∀ i, i < n → f i = g i) → gRead s f n = gRead s g n := by
  intro n
  induction n with
  | zero => exact fun _ => rfl
  | succ n ih =>
    intro h
    show (match gCA n with | none => gRead s f n | some c => gShape (gRead s f n) c (gTk (gKd (f n))) (gRk (gKd (f n)))) = (match gCA n with | none => gRead s g n | some c => gShape (gRead s g n) c (gTk (gKd (g n))) (gRk (gKd (g n))))
    rw [ih (fun i hi => h i (by omega)), h n (by omega)]
section
variable {I : e_TI} {L : e_TL} {D : e_TD} {sc : e_TS} {w : Wd} {Ψ : Int32 → e_TI → e_TL → e_TD → Prop} {χ : String → e_TI → e_TL → e_TD → Prop}
theorem CW.clear (h : CW I L w) : CW (e_up I 137 1 0) L (wBf w (0, wB w)) := by
  have hU : ∀ c, c ≠ 137 → e_up I 137 1 0 c = I c := fun c hc => up_cell hc
  obtain ⟨h1, ⟨h2, h3⟩, h4, h5, h6⟩ := h
  have hF : Fr 137 139 I L (e_up I 137 1 0) L := Fr.rf.upI (by decide)
  refine ⟨h1.fr hF (by decide), ⟨?_, fun hs => ⟨(h3 hs).1, (h3 hs).2.fr hF (by decide)⟩⟩, h4.fr hF (by decide), ?_, ?_⟩
  · rw [hU 0 (by decide)]; exact h2
  · show RpR _ (wL w) (wRc w) (wRd w)
    unfold RpR at h5 ⊢
    rw [hU 134 (by decide), hU 135 (by decide), hU 136 (by decide)]
    exact h5
  · exact ⟨up_same, Nat.zero_le _, fun i hi => absurd hi (Nat.not_lt_zero _)⟩
theorem gErr_some {i : Nat} (hi : i < wN w) (hb : gGood i (wB w i) = false) (ha : ∀ j, j < i → gGood j (wB w j) = true) : gErr w = some i := by
  unfold gErr
  rw [List.find?_range_eq_some]
  refine ⟨by rw [hb]; rfl, List.mem_range.mpr hi, fun j hj => ?_⟩
  rw [ha j hj]
  rfl
theorem gErr_none (ha : ∀ j, j < wN w → gGood j (wB w j) = true) : gErr w = none := by
  unfold gErr
  rw [List.find?_eq_none]
  intro j hj
  rw [ha j (List.mem_range.mp hj)]
  decide
theorem gFloods_iff (ha : ∀ j, j < wN w → gGood j (wB w j) = true) : (∀ i, i < 64 → (gWatB w i && gCells (wG w) (gU (wG w)) i) = false) ↔ gFloods w = false := by
  unfold gFloods
  rw [List.any_eq_false]
  constructor
  · intro h c hc
    rw [h c (by have := List.mem_range.mp hc; omega)]
    decide
  · intro h c hc
    by_cases h63 : c = 63
    · have : gWatB w c = false := by
        rw [Bool.eq_false_iff]
        intro hw
        unfold gWatB at hw
        obtain ⟨j, hj, hp⟩ := List.any_eq_true.mp hw
        simp only [Bool.and_eq_true, beq_iff_eq] at hp
        have := (gGood_kd (ha j (List.mem_range.mp hj)) hp.1).2
        omega
      rw [this]
      rfl
    · exact Bool.eq_false_iff.mpr (h c (List.mem_range.mpr (by omega)))
theorem sC_readMap (h : CW I L w) (H : ∀ I' L', Fr 0 139 I L I' L' → CW I' L' (wReadMap w) → finI [xS] χ Ψ (aReadMap w) I' L' D) : e_M 212 [.ref 0] (S0 I L D sc) (e_xI sc Ψ χ) := by
  have h' := h
  obtain ⟨g1, g2, g3, g4, hl, hn, hb⟩ := h'
  have one : ∀ {a b : Int32}, a = -1 → b = -1 → ¬ ¬ a = -1 := fun e _ hh => hh e
  refine vC_readMap (s_errorPosition hn hl (fun i hi hbad hall => s_letters hn hl ?_) (fun hall => s_letters hn hl ?_))
  · have he : gErr w = some i := gErr_some hi (by rw [← hb i hi]; exact hbad) (fun j hj => by rw [← hb j (by omega)]; exact hall j hj)
    have ew : wReadMap w = wBf w (0, wB w) := by unfold wReadMap; rw [he]
    have ea : aReadMap w = (0, (-100) - Int32.ofNat i) := by unfold aReadMap; rw [he]
    have hne := o_ne1 (c := i) (by omega)
    refine bx_t hne (bx_t hne (s_miClear (bx_t hne ?_)))
    exact finI_o (H _ L (Fr.rf.upI (by decide)) (by rw [ew]; exact h.clear)) ea
  · have hall' : ∀ j, j < wN w → gGood j (wB w j) = true := fun j hj => by rw [← hb j hj]; exact hall j hj
    have he : gErr w = none := gErr_none hall'
    have hw : (fun c => (List.range (wN w)).any fun i => gCA i == some c && gKd (I 138 i) == 5) = gWatB w := by
      funext c
      unfold gWatB
      rw [Bool.eq_iff_iff, List.any_eq_true, List.any_eq_true]
      constructor
      · rintro ⟨i, hi, hp⟩
        exact ⟨i, hi, by rw [← hb i (List.mem_range.mp hi)]; exact hp⟩
      · rintro ⟨i, hi, hp⟩
        exact ⟨i, hi, by rw [hb i (List.mem_range.mp hi)]; exact hp⟩
    have hno : ¬ ¬ (-1 : Int32) = -1 := fun hh => hh rfl
    refine bx_f hno (s_miWaters hn hl hall (s_all g1 (s_placesOf g1 (fun _ hh => hh) ?_)))
    rw [hw, sL_and, sL_eq0, gFloods_iff hall']
    refine ⟨fun hf => bx_f hno (s_keep g1 g3 (fun I1 L1 hF1 hH1 => ?_)), fun hf => bx_f hno (s_miClear ?_)⟩
    · have ew : wReadMap w = wBf (wCh w (gRead (wG w) (wB w) (wN w))) (0, wB w) := by unfold wReadMap; rw [he]; dsimp only; rw [hf, if_neg (by decide)]
      have ea : aReadMap w = (0, Int32.ofNat (wN w - wN w / 10)) := by unfold aReadMap; rw [he]; dsimp only; rw [hf, if_neg (by decide)]
      have h1 := h.kept hF1 hH1
      have e137 : I1 137 = I 137 := (hF1 137 (by decide)).1
      have e138 : I1 138 = I 138 := (hF1 138 (by decide)).1
      refine s_shapeAll h1.1 hn (by rw [e137]; exact hl) (fun j hj => by rw [e138]; exact hall j hj) (fun L2 hF2 hG2 => s_miClear (bx_f hno ?_))
      rw [e138, gRead_congr (wN w) (fun i hi => hb i hi)] at hG2
      refine finI_o (H _ L2 (((hF1.mono (by decide) (by decide)).tr (hF2.mono (by decide) (by decide))).upI (by decide)) ?_) ea
      rw [ew]
      exact (h1.then (hF2.mono (by decide) (by decide)) hG2).clear
    · have hf' : gFloods w = true := by
        cases hq : gFloods w with
        | true => rfl
        | false => exact absurd hq hf
      have ew : wReadMap w = wBf w (0, wB w) := by unfold wReadMap; rw [he]; dsimp only; rw [hf', if_pos rfl]
      have ea : aReadMap w = (1, 0) := by unfold aReadMap; rw [he]; dsimp only; rw [hf', if_pos rfl]
      exact finI_e (k := 0) (v := 0) (H _ L (Fr.rf.upI (by decide)) (by rw [ew]; exact h.clear)) ea
end
