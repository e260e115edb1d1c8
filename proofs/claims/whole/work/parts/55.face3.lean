/-! the class's face, third -/
def mrg (a b : Nat → Int32) : Nat → Int32 := fun k => if k < 301 then a k else b k
theorem mrg_lt {a b : Nat → Int32} {k : Nat} (h : k < 301) : mrg a b k = a k := if_pos h
theorem mrg_n {a b : Nat → Int32} {k : Nat} (h : k < 301) : gn (mrg a b) k = gn a k := by unfold gn; rw [mrg_lt h]
theorem gok.mg {a b : Nat → Int32} (hk : gok a) : gok (mrg a b) := by
  have bs : ∀ j c, j < 301 → gb a j c → gb (mrg a b) j c := fun j c hj hb => by
    unfold gb at hb ⊢
    rw [mrg_n hj, mrg_lt hj]
    exact hb
  obtain ⟨h1, h2, ⟨h3, h3'⟩, h4, h5, h6⟩ := hk
  have em : gMa (mrg a b) = gMa a := mrg_n (by decide)
  refine ⟨fun c hc => ?_, bs _ _ (by decide) h2, ⟨bs _ _ (by decide) h3, ?_⟩, bs _ _ (by decide) h4, bs _ _ (by decide) h5, fun v hv => ?_⟩
  · obtain ⟨a1, a2, a3, a4⟩ := h1 c hc
    refine ⟨bs _ _ (by omega) a1, bs _ _ (by omega) a2, bs _ _ (by omega) a3, ?_⟩
    unfold gRd gTer at a4 ⊢
    rw [mrg_n (by omega), mrg_n (by omega)]
    exact a4
  · unfold gRg at h3' ⊢
    rw [mrg_n (by decide)]
    exact h3'
  · rw [em] at hv
    have : gMa a ≤ 16 := h5.2
    obtain ⟨c0, c1, c2, c3, c4, c5⟩ := h6 v hv
    exact ⟨bs _ _ (by omega) c0, bs _ _ (by omega) c1, bs _ _ (by omega) c2, bs _ _ (by omega) c3, bs _ _ (by omega) c4, bs _ _ (by omega) c5⟩
theorem mrg_U {a b : Nat → Int32} (hk : gok a) : gU (mrg a b) = gU a := by
  have em : gMa (mrg a b) = gMa a := mrg_n (by decide)
  have : gMa a ≤ 16 := hk.2.2.2.2.1.2
  funext v
  unfold gU
  rw [em]
  by_cases hv : v < gMa a
  · unfold gSt
    rw [mrg_n (by omega)]
  · rw [decide_eq_false hv, Bool.false_and, Bool.false_and]
theorem RC.mg {p : Nat} {I : e_TI} {L : e_TL} {a b : Nat → Int32} (hk : gok a) (h : RC p I L a) : RC p I L (mrg a b) := by
  have em : gMa (mrg a b) = gMa a := mrg_n (by decide)
  have hm : gMa a ≤ 16 := hk.2.2.2.2.1.2
  obtain ⟨r1, r2, r3, r4, r9, r10, r11⟩ := id h
  have bl : ∀ (q q' : Nat → Nat), (∀ v, v < gMa a → q v = q' v) → ∀ k, (sI fun u => decide (u < gMa a) && q u == k) = sI fun u => decide (u < gMa a) && q' u == k := fun q q' hq k => sI_congr fun u _ => by
    by_cases hu : u < gMa a
    · rw [hq u hu]
    · rw [decide_eq_false hu, Bool.false_and, Bool.false_and]
  refine ⟨fun t ht => ?_, fun d hd => ?_, ?_, ⟨?_, ?_, ?_, ?_, ?_⟩, fun u hu => ?_, fun d hd => ?_, ?_⟩
  · rw [r1 t ht]
    refine sL_congr fun c _ => ?_
    by_cases hc : c < 63
    · unfold gTer; rw [mrg_n (by omega)]
    · simp [hc]
  · rw [r2 d hd]
    refine sL_congr fun c _ => ?_
    unfold gSrc
    by_cases hc : c < 63
    · rw [mrg_n (by omega)]
    · simp [hc]
  · rw [r3]
    refine sL_congr fun c _ => ?_
    unfold gRd
    by_cases hc : c < 63
    · rw [mrg_n (by omega)]
    · simp [hc]
  · rw [r4.1, mrg_lt (by decide)]
  · rw [r4.2.1, mrg_U hk]
  · rw [r4.2.2.1, em]
    exact bl _ _ (fun v hv => (mrg_n (show 205 + 6 * v < 301 by omega)).symm) 1
  · rw [r4.2.2.2.1, em]
    exact bl _ _ (fun v hv => (mrg_n (show 205 + 6 * v + 4 < 301 by omega)).symm) 1
  · rw [r4.2.2.2.2, em]
    exact bl _ _ (fun v hv => (mrg_n (show 205 + 6 * v + 5 < 301 by omega)).symm) 1
  · rw [em] at hu
    rw [mrg_lt (by omega), mrg_lt (by omega), mrg_lt (by omega)]
    exact r9 u hu
  · rw [mrg_lt (by omega), mrg_lt (by omega), mrg_lt (by omega), mrg_lt (by omega)]
    exact r10 d hd
  · rw [mrg_lt (by decide), mrg_lt (by decide), mrg_lt (by decide), mrg_lt (by decide), mrg_lt (by decide), mrg_lt (by decide), mrg_lt (by decide)]
    exact r11
/-! the other changes -/
def wNew (w : Wd) (z : Int32) : Wd := (gNew z, w.2.1, (0, wP w), w.2.2.2)
def wUndo (w : Wd) : Wd := (mrg (wP w (wM w - 1)) (wG w), w.2.1, (wM w - 1, wP w), w.2.2.2)
def wSave (w : Wd) : Wd := (w.1, (true, wG w), w.2.2)
def wRest (w : Wd) : Wd := (mrg (wSv w) (wG w), w.2.1, (0, wP w), w.2.2.2)
def aCnt (s : Nat → Int32) : Int32 := Int32.ofNat ((List.range 16).countP (gU s))
def aUndo (w : Wd) : Nat × Int32 := if wM w = 0 then (1, 0) else (0, Int32.ofNat (wM w - 1))
def aRest (w : Wd) : Nat × Int32 := if wSf w then (0, aCnt (wSv w)) else (1, 0)
/-- the buffer as a map: how far it is good -/
def gErr (w : Wd) : Option Nat := (List.range (wN w)).find? fun i => !gGood i (wB w i)
def gWatB (w : Wd) (c : Nat) : Bool := (List.range (wN w)).any fun i => gCA i == some c && gKd (wB w i) == 5
def gFloods (w : Wd) : Bool := (List.range 63).any fun c => gWatB w c && gCells (wG w) (gU (wG w)) c
def aReadMap (w : Wd) : Nat × Int32 := match gErr w with
  | some i => (0, (-100) - Int32.ofNat i)
  | none => if gFloods w then (1, 0) else (0, Int32.ofNat (wN w - wN w / 10))
def wReadMap (w : Wd) : Wd := match gErr w with
  | some _ => wBf w (0, wB w)
  | none => if gFloods w then wBf w (0, wB w) else wBf (wCh w (gRead (wG w) (wB w) (wN w))) (0, wB w)
section
variable {I : e_TI} {L : e_TL} {D : e_TD} {sc : e_TS} {w : Wd} {Ψ : Int32 → e_TI → e_TL → e_TD → Prop} {χ : String → e_TI → e_TL → e_TD → Prop}
theorem sC_start (h : CW I L w) {z : Int32} (H : ∀ I' L', Fr 0 139 I L I' L' → CW I' L' (wNew w z) → Ψ (aCnt (wG w)) I' L' D) : e_M 17 [.ref 0, .int z] (S0 I L D sc) (e_rI sc Ψ) := by
  refine vC_start (s_howMany h.1 (s_begin (fun I1 L1 hF1 hG1 => s_forget ?_)))
  obtain ⟨g1, ⟨g2, g3⟩, ⟨nx0, q1, q2, q3, q4, q5⟩, g5, g6⟩ := h
  have hU : ∀ c, c ≠ 36 → e_up I1 36 2 0 c = I1 c := fun c hc => up_cell hc
  refine H _ L1 ((hF1.mono (by decide) (by decide)).upI (by decide)) ⟨⟨hG1.1, hG1.2.frame (fun c a b => hU c (by omega)) (fun c a b => rfl)⟩, ⟨?_, fun hs => ⟨(g3 hs).1, ((g3 hs).2.fr hF1 (by decide)).frame (fun c a b => hU c (by omega)) (fun c a b => rfl)⟩⟩, ⟨nx0, q1, ?_, up_same, by show (0 : Nat) ≤ 8; decide, fun i hi => absurd hi (Nat.not_lt_zero _)⟩, ?_, ?_⟩
  · rw [hU 0 (by decide), (hF1 0 (by decide)).1]; exact g2
  · rw [up_slot (by decide), (hF1 36 (by decide)).1]; exact q2
  · show RpR _ (wL w) (wRc w) (wRd w)
    unfold RpR at g5 ⊢
    rw [hU 134 (by decide), hU 135 (by decide), hU 136 (by decide), (hF1 134 (by decide)).1, (hF1 135 (by decide)).1, (hF1 136 (by decide)).1]
    exact g5
  · show BfR _ (wN w) (wB w)
    unfold BfR at g6 ⊢
    rw [hU 137 (by decide), hU 138 (by decide), (hF1 137 (by decide)).1, (hF1 138 (by decide)).1]
    exact g6
theorem sC_set (h : CW I L w) {y : Int32} {r : Bool} (H1 : ∀ I', ∀ L', Fr 0 139 I L I' L' → (aSet (wG w) r y).1 = 0 → CW I' L' (wCh w (gset (wG w) (if r then 189 else 190) y)) → finI [xA] χ Ψ (aSet (wG w) r y) I' L' D) (H0 : (aSet (wG w) r y).1 ≠ 0 → finI [xA] χ Ψ (aSet (wG w) r y) I L D) : e_M 70 [.ref 0, .int (e_b r), .int y] (S0 I L D sc) (e_xI sc Ψ χ) := by
  have er : aSet (wG w) r y = (1, 0) → χ xA I L D := fun e => finI_e (k := 0) (v := 0) (H0 (by rw [e]; decide)) e
  obtain ⟨r1, r2, r3, r4, r9, r10, a1, a2, a3, a4, a5, a6, a7⟩ := h.1.2
  replace a1 : I 2 2 = _ := a1
  replace a4 : I 2 5 = _ := a4
  cases r with
  | false =>
    have ea : aSet (wG w) false y = if iR y 1 30 then (0, wG w 190) else (1, 0) := rfl
    refine vC_set (bx_t rfl ⟨fun hlt => er (by rw [ea, iR_no (a := 1) hlt]; rfl), fun hge => ⟨fun hbig => er (by rw [ea, iR_no2 (a := 1) (b := 30) hbig]; rfl), fun hsm => bx_t rfl (s_keep h.1 h.2.2.1 (fun I1 L1 hF1 hH1 => bx_t rfl ?_))⟩⟩)
    have h1 := h.kept hF1 hH1
    have hr : iR y 1 30 = true := by
      unfold iR
      rw [decide_eq_true (p := Int32.ofNat 1 ≤ y) (Int32.not_lt.mp hge), decide_eq_true (p := y ≤ Int32.ofNat 30) (Int32.not_lt.mp hsm)]
      rfl
    rw [hr] at ea
    obtain ⟨n, n1, n2, rfl⟩ := iR_ex (by decide) (by decide) hr
    rw [a4]
    refine finI_o (H1 _ L1 ((hF1.mono (by decide) (by decide)).upI (by decide)) (by rw [ea]; rfl) (h1.then (Fr.rf.upI (by decide)) ⟨h1.1.1.rg n1 n2, h1.1.2.gm (by decide)⟩)) ea
  | true =>
    have ea : aSet (wG w) true y = if iR y 0 2 then (0, wG w 189) else (1, 0) := rfl
    refine vC_set (bx_f (by decide) ⟨fun hlt => er (by rw [ea, iR_no (a := 0) hlt]; rfl), fun hge => ⟨fun hbig => er (by rw [ea, iR_no2 (a := 0) (b := 2) (o_big2 (n := 2) hge hbig)]; rfl), fun hsm => bx_f (by decide) (s_keep h.1 h.2.2.1 (fun I1 L1 hF1 hH1 => bx_f (by decide) ?_))⟩⟩)
    have h1 := h.kept hF1 hH1
    obtain ⟨n, n9, rfl⟩ := o_rng hge hsm
    have n2 : n < 3 := n9
    have hr : iR (Int32.ofNat n) 0 2 = true := iR_of (by decide) (by omega) (by omega)
    rw [hr] at ea
    rw [a1]
    refine finI_o (H1 _ L1 ((hF1.mono (by decide) (by decide)).upI (by decide)) (by rw [ea]; rfl) (h1.then (Fr.rf.upI (by decide)) ⟨h1.1.1.wx rfl (by omega), h1.1.2.gm (by decide)⟩)) ea
theorem gRoom_old {s : Nat → Int32} (p : Nat → Bool) (c d n : Nat) : gRoom s p c d n = gRoom s p c d n := rfl
theorem sC_add (h : CW I L w) {d c n m : Int32} (H1 : ∀ I' L', Fr 0 139 I L I' L' → (aAdd (wG w) d c n m).1 = 0 → CW I' L' (wCh w (gAdd (wG w) (nx d) (nx c) (nx n) (nx m))) → finI [xI, xA, xS] χ Ψ (aAdd (wG w) d c n m) I' L' D) (H0 : (aAdd (wG w) d c n m).1 ≠ 0 → finI [xI, xA, xS] χ Ψ (aAdd (wG w) d c n m) I L D) : e_M 93 [.ref 0, .int d, .int c, .int n, .int m] (S0 I L D sc) (e_xI sc Ψ χ) := by
  have er : ∀ k, aAdd (wG w) d c n m = (k + 1, 0) → χ (([xI, xA, xS] : List String).getD k "") I L D := fun k e => finI_e (k := k) (v := 0) (H0 (by rw [e]; exact Nat.succ_ne_zero k)) e
  refine vC_add (s_checkSide (fun d' hd e => s_checkCell (fun c' hc e2 => ?_) (fun hn => er 0 (by unfold aAdd; rw [hn, Bool.and_false]; rfl))) (fun hn => er 0 (by unfold aAdd; rw [hn]; rfl)))
  subst e
  subst e2
  have e0 : aAdd (wG w) (Int32.ofNat d') (Int32.ofNat c') n m = if !(iR n 1 9 && iR m 1 12) then (2, 0) else if gMa (wG w) = 16 ∨ gTer (wG w) c' = 5 ∨ gRoom (wG w) (gU (wG w)) c' d' (nx n) = false then (3, 0) else (0, Int32.ofNat (gMa (wG w))) := by
    unfold aAdd
    rw [iC_of hc, iS_of (by omega), nx_of (by omega), nx_of (by omega)]
    rfl
  refine ⟨fun hlt => er 1 (by rw [e0, iR_no (a := 1) hlt]; rfl), fun hge => ⟨fun hbig => er 1 (by rw [e0, iR_no2 (a := 1) (b := 9) hbig]; rfl), fun hsm => ⟨fun hlt2 => er 1 (by rw [e0, iR_no (y := m) (a := 1) hlt2, Bool.and_false]; rfl), fun hge2 => ⟨fun hle2 => ?_, fun hbig2 => er 1 (by rw [e0, iR_no2 (y := m) (a := 1) (b := 12) (Int32.not_le.mp hbig2), Bool.and_false]; rfl)⟩⟩⟩⟩
  have hr : iR n 1 9 = true := by
    unfold iR
    rw [decide_eq_true (p := Int32.ofNat 1 ≤ n) (Int32.not_lt.mp hge), decide_eq_true (p := n ≤ Int32.ofNat 9) (Int32.not_lt.mp hsm)]
    rfl
  have hr2 : iR m 1 12 = true := by
    unfold iR
    rw [decide_eq_true (p := Int32.ofNat 1 ≤ m) (Int32.not_lt.mp hge2), decide_eq_true (p := m ≤ Int32.ofNat 12) hle2]
    rfl
  obtain ⟨n', n1, n2, rfl⟩ := iR_ex (by decide) (by decide) hr
  obtain ⟨m', m1, m2, rfl⟩ := iR_ex (by decide) (by decide) hr2
  rw [hr, hr2, nx_of (by omega)] at e0
  rw [nx_of (by omega), nx_of (by omega), nx_of (by omega), nx_of (by omega)] at H1
  have hm := h.1.ma
  have ht := h.1.ter hc
  refine s_isFull h.1 (bx_n (fun hf => ?_) (fun hf => s_terrainAt h.1 hc ⟨fun h5 => ?_, fun h5 => s_all h.1 (s_isRoomAt h.1 hc hd (by omega) (bx_n (fun hrm => ?_) (fun hrm => ?_)))⟩))
  · refine er 2 ?_
    rw [e0, if_neg (by decide), if_pos (Or.inl (by simpa using hf))]
  · refine er 2 ?_
    rw [e0, if_neg (by decide), if_pos (Or.inr (Or.inl ((o_eq (by omega) (by decide)).mp h5)))]
  · have hf' : gMa (wG w) ≠ 16 := by simpa using hf
    have h5' : gTer (wG w) c' ≠ 5 := fun e => h5 (by rw [e]; rfl)
    have ea : aAdd (wG w) (Int32.ofNat d') (Int32.ofNat c') (Int32.ofNat n') (Int32.ofNat m') = (0, Int32.ofNat (gMa (wG w))) := by
      rw [e0, if_neg (by decide), if_neg]
      rintro (h1 | h1 | h1)
      · exact hf' h1
      · exact h5' h1
      · rw [hrm] at h1
        cases h1
    refine s_keep h.1 h.2.2.1 (fun I1 L1 hF1 hH1 => ?_)
    have h1 := h.kept hF1 hH1
    exact s_enlist h1.1 hd hc n1 n2 m2 (by show gMa (wG w) < 16; omega) (fun I2 hF2 hG2 => finI_o (H1 I2 L1 ((hF1.mono (by decide) (by decide)).tr (hF2.mono (by decide) (by decide))) (by rw [ea]) (h1.then (hF2.mono (by decide) (by decide)) hG2)) ea)
  · refine er 2 ?_
    rw [e0, if_neg (by decide), if_pos (Or.inr (Or.inr hrm))]
theorem sC_undo (h : CW I L w) (H1 : ∀ I' L', Fr 0 139 I L I' L' → (aUndo w).1 = 0 → CW I' L' (wUndo w) → finI [xS] χ Ψ (aUndo w) I' L' D) (H0 : (aUndo w).1 ≠ 0 → finI [xS] χ Ψ (aUndo w) I L D) : e_M 219 [.ref 0] (S0 I L D sc) (e_xI sc Ψ χ) := by
  obtain ⟨g1, ⟨g2, g3⟩, g4, g5, g6⟩ := id h
  have hm : I 36 2 = Int32.ofNat (wM w) ∧ wM w ≤ 8 := by
    obtain ⟨nx0, q1, q2, q3, q4, q5⟩ := g4
    exact ⟨q3, q4⟩
  refine vC_undo (vHi_held ?_)
  rw [hm.1]
  refine ⟨fun hne => ?_, fun he => ?_⟩
  · have hm0 : wM w ≠ 0 := fun e => hne (by rw [e]; rfl)
    have ea : aUndo w = (0, Int32.ofNat (wM w - 1)) := by unfold aUndo; rw [if_neg hm0]
    obtain ⟨k, hk⟩ : ∃ k, wM w = k + 1 := ⟨wM w - 1, by omega⟩
    rw [hk] at g4
    refine s_takeBack g4 (fun I1 L1 hF hG hH => vHi_held ?_)
    have hh : I1 36 2 = Int32.ofNat k := by
      obtain ⟨nx0, q1, q2, q3, q4, q5⟩ := hH
      exact q3
    rw [hh]
    have ek : wM w - 1 = k := by omega
    rw [ek] at ea
    refine finI_o (H1 I1 L1 (fun c hc => ?_) (by rw [ea]) ⟨⟨?_, ?_⟩, ⟨?_, fun hs => ⟨(g3 hs).1, (g3 hs).2.frame (fun c a b => (hF c (by omega) (by omega)).1) (fun c a b => (hF c (by omega) (by omega)).2)⟩⟩, ?_, ?_, ?_⟩) ea
    · exact hF c (by omega) (by omega)
    · show gok (mrg (wP w (wM w - 1)) (wG w))
      rw [ek]
      exact hG.1.mg
    · show RC 2 I1 L1 (mrg (wP w (wM w - 1)) (wG w))
      rw [ek]
      exact hG.2.mg hG.1
    · rw [(hF 0 (by decide) (by decide)).1]; exact g2
    · show HiR I1 L1 (wM w - 1) (wP w)
      rw [ek]
      exact hH
    · show RpR I1 (wL w) (wRc w) (wRd w)
      unfold RpR at g5 ⊢
      rw [(hF 134 (by decide) (by decide)).1, (hF 135 (by decide) (by decide)).1, (hF 136 (by decide) (by decide)).1]
      exact g5
    · show BfR I1 (wN w) (wB w)
      unfold BfR at g6 ⊢
      rw [(hF 137 (by decide) (by decide)).1, (hF 138 (by decide) (by decide)).1]
      exact g6
  · have hm0 : wM w = 0 := (o_eq (by omega) (by decide)).mp (Classical.not_not.mp he)
    have ea : aUndo w = (1, 0) := by unfold aUndo; rw [if_pos hm0]
    exact finI_e (k := 0) (v := 0) (H0 (by rw [ea]; decide)) ea
theorem sC_save (h : CW I L w) (H : ∀ I' L', Fr 0 139 I L I' L' → CW I' L' (wSave w) → Ψ (aCnt (wG w)) I' L' D) : e_M 59 [.ref 0] (S0 I L D sc) (e_rI sc Ψ) := by
  obtain ⟨g1, ⟨g2, g3⟩, g4, g5, g6⟩ := id h
  refine vC_save (s_copyG_24_2 g1.ma g1.2 (fun I1 L1 hF1 hR1 => ?_))
  have hU : ∀ c, c ≠ 0 → e_up I1 0 3 1 c = I1 c := fun c hc => up_cell hc
  have hG : GR (e_up I1 0 3 1) L1 (wG w) := ⟨g1.1, (g1.2.fr hF1 (by decide)).frame (fun c a b => hU c (by omega)) (fun c a b => rfl)⟩
  refine s_howMany hG (H _ L1 ((hF1.mono (by decide) (by decide)).upI (by decide)) ⟨hG, ⟨up_same, fun _ => ⟨g1.1, hR1.frame (fun c a b => hU c (by omega)) (fun c a b => rfl)⟩⟩, ?_, ?_, ?_⟩)
  · exact HiR.fr (HiR.fr g4 hF1 (by decide)) (lo := 0) (hi := 2) (fun c hc => ⟨hU c (by omega), rfl⟩) (by decide)
  · show RpR _ (wL w) (wRc w) (wRd w)
    unfold RpR at g5 ⊢
    rw [hU 134 (by decide), hU 135 (by decide), hU 136 (by decide), (hF1 134 (by decide)).1, (hF1 135 (by decide)).1, (hF1 136 (by decide)).1]
    exact g5
  · show BfR _ (wN w) (wB w)
    unfold BfR at g6 ⊢
    rw [hU 137 (by decide), hU 138 (by decide), (hF1 137 (by decide)).1, (hF1 138 (by decide)).1]
    exact g6
theorem sC_restore (h : CW I L w) (H1 : ∀ I' L', Fr 0 139 I L I' L' → (aRest w).1 = 0 → CW I' L' (wRest w) → finI [xS] χ Ψ (aRest w) I' L' D) (H0 : (aRest w).1 ≠ 0 → finI [xS] χ Ψ (aRest w) I L D) : e_M 221 [.ref 0] (S0 I L D sc) (e_xI sc Ψ χ) := by
  obtain ⟨g1, ⟨g2, g3⟩, ⟨nx0, q1, q2, q3, q4, q5⟩, g5, g6⟩ := id h
  refine vC_restore ?_
  rw [g2]
  refine bx_n (fun hs => ?_) (fun hs => ?_)
  · have ea : aRest w = (0, aCnt (wSv w)) := by unfold aRest; rw [if_pos hs]
    obtain ⟨hk, hR⟩ := g3 hs
    refine s_copyG_2_24 hk.2.2.2.2.1.2 hR (fun I1 L1 hF1 hR1 => s_forget ?_)
    have hU : ∀ c, c ≠ 36 → e_up I1 36 2 0 c = I1 c := fun c hc => up_cell hc
    have hG : GR (e_up I1 36 2 0) L1 (mrg (wSv w) (wG w)) := ⟨hk.mg, (hR1.mg hk).frame (fun c a b => hU c (by omega)) (fun c a b => rfl)⟩
    refine s_howMany hG ?_
    rw [mrg_U hk]
    refine finI_o (H1 _ L1 ((hF1.mono (by decide) (by decide)).upI (by decide)) (by rw [ea]) ⟨hG, ⟨?_, fun _ => ⟨hk, (hR.fr hF1 (by decide)).frame (fun c a b => hU c (by omega)) (fun c a b => rfl)⟩⟩, ⟨nx0, q1, ?_, up_same, by show (0 : Nat) ≤ 8; decide, fun i hi => absurd hi (Nat.not_lt_zero _)⟩, ?_, ?_⟩) ea
    · rw [hU 0 (by decide), (hF1 0 (by decide)).1]; exact g2
    · rw [up_slot (by decide), (hF1 36 (by decide)).1]; exact q2
    · show RpR _ (wL w) (wRc w) (wRd w)
      unfold RpR at g5 ⊢
      rw [hU 134 (by decide), hU 135 (by decide), hU 136 (by decide), (hF1 134 (by decide)).1, (hF1 135 (by decide)).1, (hF1 136 (by decide)).1]
      exact g5
    · show BfR _ (wN w) (wB w)
      unfold BfR at g6 ⊢
      rw [hU 137 (by decide), hU 138 (by decide), (hF1 137 (by decide)).1, (hF1 138 (by decide)).1]
      exact g6
  · have ea : aRest w = (1, 0) := by unfold aRest; rw [hs]; rfl
    exact finI_e (k := 0) (v := 0) (H0 (by rw [ea]; decide)) ea
end
