/-! the class's march -/
noncomputable def gHos (s : Nat → Int32) (u : Nat) : Nat → Bool := gCells s (gOwn s (1 - gSd s u))
noncomputable def gHoz (s : Nat → Int32) (u : Nat) : Nat → Bool := gZone s (1 - gSd s u)
def gRoomA (s : Nat → Int32) (u c : Nat) : Bool := gRoom s (fun v => gU s v && !(v == u)) c (gSd s u) (gSt s u)
/-- the first step that is stopped -/
noncomputable def gEv (s : Nat → Int32) (u t : Nat) : Option Nat := (List.range (gLen s u t)).find? fun k => gHos s u (gWay s u t (k + 1)) || gHoz s u (gWay s u t (k + 1))
noncomputable def gAmb (s : Nat → Int32) (u t : Nat) : Bool := match gEv s u t with
  | none => false
  | some k => gHos s u (gWay s u t (k + 1))
noncomputable def gStop (s : Nat → Int32) (u t : Nat) : Nat := match gEv s u t with
  | none => gLen s u t
  | some k => if gHos s u (gWay s u t (k + 1)) then k else k + 1
noncomputable def gBack (s : Nat → Int32) (u t : Nat) : Nat → Nat
  | 0 => 0
  | n + 1 => if gRoomA s u (gWay s u t (n + 1)) then n + 1 else gBack s u t n
noncomputable def gEnd (s : Nat → Int32) (u t : Nat) : Nat := gWay s u t (gBack s u t (gStop s u t))
noncomputable def gMove (s : Nat → Int32) (u t : Nat) : Nat → Int32 :=
  gset (gset (if gAmb s u t then gset s 194 (s 194 + 1) else s) (205 + 6 * u + 4) 1) (205 + 6 * u + 1) (Int32.ofNat (gEnd s u t))
theorem TrW.fr {I I' : e_TI} {L L' : e_TL} {s : Nat → Int32} {u t : Nat} (h : TrW I s u t) (hF : Fr 2 14 I L I' L') : TrW I' s u t := by
  unfold TrW at h ⊢
  rw [(hF 19 (by decide)).1, (hF 23 (by decide)).1]
  exact h
theorem gRoom_low {s : Nat → Int32} {k : Nat} {x : Int32} (hk : k < 205) (hk2 : k ≠ 196) (p : Nat → Bool) (c d n : Nat) : gRoom (gset s k x) p c d n = gRoom s p c d n := by
  have e : gOn (gset s k x) = gOn s := by
    funext c u
    unfold gOn
    rw [gU_low hk hk2, gPl_low hk]
  unfold gRoom
  rw [e, gSd_low hk, gSt_low hk]
section
variable {I : e_TI} {L : e_TL} {D : e_TD} {sc : e_TS} {s : Nat → Int32}
theorem gStop_le (u t : Nat) : gStop s u t ≤ gLen s u t := by
  unfold gStop
  cases h : gEv s u t with
  | none => exact Nat.le_refl _
  | some k =>
    unfold gEv at h
    rw [List.find?_range_eq_some] at h
    have := List.mem_range.mp h.2.1
    show (if gHos s u (gWay s u t (k + 1)) then k else k + 1) ≤ gLen s u t
    split
    · exact Nat.le_of_lt this
    · exact this
theorem gBack_le (u t : Nat) : ∀ n, gBack s u t n ≤ n
  | 0 => Nat.le_refl _
  | n + 1 => by
    unfold gBack
    split
    · exact Nat.le_refl _
    · exact Nat.le_succ_of_le (gBack_le u t n)
theorem gHos63 (h : GR I L s) {u c : Nat} (hc : ¬ c < 63) : gHos s u c = false := cells63 h.1 _ hc
theorem s_stopOf {Ψ : Int32 → e_TI → e_TL → e_TD → Prop} (h : GR I L s) {u t : Nat} (hu : u < gMa s) (hT : TrW I s u t) (hn : gLen s u t ≤ 62) (hw : ∀ i, i ≤ gLen s u t → gWay s u t i < 63) (H : ∀ I', Fr 2 14 I L I' L → GR I' L (if gAmb s u t then gset s 194 (s 194 + 1) else s) → Ψ (Int32.ofNat (gStop s u t)) I' L D) : e_M 150 [.ref 1, .int (Int32.ofNat u)] (S0 I L D sc) (e_rI sc Ψ) := by
  have hsd := h.sd hu
  refine vP_stopOf (s_sideOf h hu ?_)
  rw [show (1 : Int32) = Int32.ofNat 1 from rfl, o_sub hsd]
  refine s_ownedBy h (by omega) (s_placesOf h (fun _ => gOwn_U) (s_zoneAround h (cells63 h.1 _ (by decide)) ?_))
  have key : ∀ i, i ≤ gLen s u t → (∀ j, j < i → (gHos s u (gWay s u t (j + 1)) || gHoz s u (gWay s u t (j + 1))) = false) → e_Wp 150 40 [some (.ref 1), some (.int (Int32.ofNat u)), some (.int (Int32.ofNat (1 - gSd s u))), some (.long (sL (gCells s (gOwn s (1 - gSd s u))))), none, some (.long (sL (gZoneA s (gCells s (gOwn s (1 - gSd s u)))))), none, some (.int (Int32.ofNat (i + 1))), none] [] (S0 I L D sc) 0 0 (e_rI sc Ψ) := by
    refine e_downInd (gLen s u t) (fun i hi ih hj => ?_) (fun hj => ?_)
    · have hw1 := hw (i + 1) hi
      refine vP_stopOf_p40 (s_steps hT (bx_f ?_ (s_trailAtN hT hn hi (s_has hw1 (bx_b (fun h0 => s_has hw1 (bx_b (fun h1 => ?_) (fun h1 => ?_))) (fun h1 => ?_))))))
      · rw [o_lt (by omega) (by omega)]
        omega
      · rw [o_s]
        refine ih (fun j hj2 => ?_)
        by_cases e : j = i
        · rw [e]
          show (gCells s (gOwn s (1 - gSd s u)) _ || gZoneA s (gCells s (gOwn s (1 - gSd s u))) _) = false
          rw [h0, h1]
          rfl
        · exact hj j (by omega)
      · have e : gEv s u t = some i := by
          unfold gEv
          rw [List.find?_range_eq_some]
          refine ⟨?_, List.mem_range.mpr hi, fun j hj2 => by rw [hj j hj2]; rfl⟩
          show (gCells s (gOwn s (1 - gSd s u)) _ || gZoneA s (gCells s (gOwn s (1 - gSd s u))) _) = true
          rw [h1, Bool.or_true]
        have h0' : gHos s u (gWay s u t (i + 1)) = false := h0
        have ea : gAmb s u t = false := by unfold gAmb; rw [e]; exact h0'
        have es : gStop s u t = i + 1 := by unfold gStop; rw [e]; show (if _ then _ else _) = _; rw [h0']; rfl
        have := H I Fr.rf (by rw [ea]; exact h)
        rw [es] at this
        exact this
      · have e : gEv s u t = some i := by
          unfold gEv
          rw [List.find?_range_eq_some]
          refine ⟨?_, List.mem_range.mpr hi, fun j hj2 => by rw [hj j hj2]; rfl⟩
          show (gCells s (gOwn s (1 - gSd s u)) _ || gZoneA s (gCells s (gOwn s (1 - gSd s u))) _) = true
          rw [h1, Bool.true_or]
        have h1' : gHos s u (gWay s u t (i + 1)) = true := h1
        have ea : gAmb s u t = true := by unfold gAmb; rw [e]; exact h1'
        have es : gStop s u t = i := by unfold gStop; rw [e]; show (if _ then _ else _) = _; rw [h1']; rfl
        rw [show (1 : Int32) = Int32.ofNat 1 from rfl, o_sub (by omega), show I 2 6 = s 194 from h.2.2.2.2.2.2.2.2.2.2.2.1]
        have := H _ (Fr.rf.upI (a := 2) (k := 6) (x := s 194 + 1) (by decide)) (by
          rw [ea]
          exact ⟨h.1.low (by decide), h.2.gm (by decide)⟩)
        rw [es] at this
        exact this
    · refine vP_stopOf_p40 (s_steps hT (bx_t ?_ (s_steps hT ?_)))
      · rw [o_lt (by omega) (by omega)]
        omega
      · have e : gEv s u t = none := by
          unfold gEv
          rw [List.find?_eq_none]
          intro j hj2
          rw [hj j (List.mem_range.mp hj2)]
          decide
        have ea : gAmb s u t = false := by unfold gAmb; rw [e]
        have es : gStop s u t = gLen s u t := by unfold gStop; rw [e]
        have := H I Fr.rf (by rw [ea]; exact h)
        rw [es] at this
        exact this
  exact key 0 (Nat.zero_le _) (fun j hj => absurd hj (Nat.not_lt_zero _))
theorem s_backToRoom {Ψ : Int32 → e_TI → e_TL → e_TD → Prop} {s1 : Nat → Int32} (h : GR I L s1) {u t : Nat} (hs : s1 = s ∨ ∃ x, s1 = gset s 194 x) (hu : u < gMa s) (hT : TrW I s u t) (hn : gLen s u t ≤ 62) (hw : ∀ i, i ≤ gLen s u t → gWay s u t i < 63) {n : Nat} (hn2 : n ≤ gLen s u t) (H : Ψ (Int32.ofNat (gBack s u t n)) I L D) : e_M 151 [.ref 1, .int (Int32.ofNat u), .int (Int32.ofNat n)] (S0 I L D sc) (e_rI sc Ψ) := by
  have e1 : gMa s1 = gMa s := by rcases hs with rfl | ⟨x, rfl⟩; · rfl
                                 · exact gMa_ne (by decide)
  have e2 : gU s1 = gU s := by rcases hs with rfl | ⟨x, rfl⟩; · rfl
                               · exact gU_low (by decide) (by decide)
  have e3 : ∀ c, gRoom s1 (fun v => gU s1 v && !(v == u)) c (gSd s1 u) (gSt s1 u) = gRoomA s u c := by
    intro c
    unfold gRoomA
    rw [e2]
    rcases hs with rfl | ⟨x, rfl⟩
    · rfl
    · rw [gRoom_low (by decide) (by decide), gSd_low (by decide), gSt_low (by decide)]
  refine vP_backToRoom ?_
  have key : ∀ m, m ≤ n → (gBack s u t m = gBack s u t n) → e_Wp 151 2 [some (.ref 1), some (.int (Int32.ofNat u)), some (.int (Int32.ofNat n)), some (.int (Int32.ofNat m))] [] (S0 I L D sc) 0 0 (e_rI sc Ψ) := by
    intro m
    induction m with
    | zero =>
      intro _ e
      refine vP_backToRoom_p2 (bx_t (by decide) ?_)
      rw [← e] at H
      exact H
    | succ m ih =>
      intro hm e
      refine vP_backToRoom_p2 (bx_f ?_ (s_trailAtN hT hn (by omega) (s_all h (s_isRoomFor h (by rw [e1]; exact hu) (hw _ (by omega)) (bx_n (fun h1 => ?_) (fun h0 => ?_))))))
      · rw [show (0 : Int32) = Int32.ofNat 0 from rfl, o_le (by omega) (by decide)]
        omega
      · rw [e3] at h1
        have : gBack s u t (m + 1) = m + 1 := by unfold gBack; rw [h1]; rfl
        rw [← e, this] at H
        exact H
      · rw [e3] at h0
        rw [o_pred]
        refine ih (by omega) ?_
        rw [← e]
        show _ = (if _ then _ else _)
        rw [h0]
        rfl
  exact key n (Nat.le_refl _) rfl
theorem s_march {Ψ : e_TI → e_TL → e_TD → Prop} (h : GR I L s) {u t : Nat} (hu : u < gMa s) (hT : TrW I s u t) (hn : gLen s u t ≤ 62) (hw : ∀ i, i ≤ gLen s u t → gWay s u t i < 63) (H : ∀ I', Fr 2 14 I L I' L → GR I' L (gMove s u t) → Ψ I' L D) : e_M 154 [.ref 1, .int (Int32.ofNat u)] (S0 I L D sc) (e_rV sc Ψ) := by
  have hst := gStop_le (s := s) u t
  have hbk := gBack_le (s := s) u t (gStop s u t)
  refine vP_march (s_stopOf h hu hT hn hw (fun I1 hF1 h1 => ?_))
  have e1 : gMa (if gAmb s u t then gset s 194 (s 194 + 1) else s) = gMa s := by
    split
    · exact gMa_ne (by decide)
    · rfl
  refine s_backToRoom h1 ?_ hu (hT.fr hF1) hn hw hst ?_
  · cases gAmb s u t
    · exact Or.inl rfl
    · exact Or.inr ⟨_, rfl⟩
  · refine s_noteMove h1 (by rw [e1]; exact hu) (fun I2 hF2 h2 => s_trailAtN ((hT.fr hF1).fr hF2) hn (by omega) (s_placeAt h2 ?_ (hw _ (by omega)) (fun I3 hF3 h3 => H I3 ((hF1.tr hF2).tr hF3) h3)))
    rw [gMa_ne (by omega), e1]
    exact hu
end
