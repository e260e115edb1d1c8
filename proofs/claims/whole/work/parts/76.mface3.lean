/-! the reference's face: changes -/
noncomputable def wAtt (w : Wd) (x y : Int32) : Wd := if (aAttack (wG w) x y).1 = 0 then wCh w (gFight (wG w) (nx x) (nx y)) else w
section
variable {I : e_TI} {L : e_TL} {D : e_TD} {sc : e_TS} {w : Wd} {Ψ : Int32 → e_TI → e_TL → e_TD → Prop}
theorem aWhy_le {s : Nat → Int32} {x y : Int32} : aWhy s x y ≤ 3 := by
  unfold aWhy
  split
  · decide
  · split
    · decide
    · split <;> decide
theorem aWhy_cells {s : Nat → Int32} {x y : Int32} (e0 : aWhy s x y = 0) : ∃ c d, c < 63 ∧ d < 63 ∧ x = Int32.ofNat c ∧ y = Int32.ofNat d ∧ (∃ u, gAtk s c u = true) ∧ ∃ u, gDef s d u = true := by
  have hxy : iC x = true ∧ iC y = true := by
    unfold aWhy at e0
    cases hx : iC x with
    | false => rw [hx, Bool.false_and, if_pos (by rfl)] at e0; cases e0
    | true =>
      cases hy : iC y with
      | false => rw [hx, hy, Bool.and_false, if_pos (by rfl)] at e0; cases e0
      | true => exact ⟨rfl, rfl⟩
  obtain ⟨c, hc, rfl⟩ := iC_ex hxy.1
  obtain ⟨d, hd, rfl⟩ := iC_ex hxy.2
  have ex : ∀ p : Nat → Bool, ¬ sI p = 0 → ∃ u, p u = true := fun p hp => Classical.byContradiction (fun hno => hp ((sI_eq0 p).mpr (fun i _ => Bool.eq_false_iff.mpr (fun h => hno ⟨i, h⟩))))
  have h3 : ¬ (sI (gAtk s c) = 0 ∨ sI (gDef s d) = 0) := by
    intro h3
    unfold aWhy at e0
    rw [hxy.1, hxy.2, nx_of (by omega), nx_of (by omega), if_neg (by decide)] at e0
    by_cases h2 : dst c d ≠ 1
    · rw [if_pos h2] at e0
      cases e0
    · rw [if_neg h2, if_pos h3] at e0
      cases e0
  exact ⟨c, d, hc, hd, rfl, rfl, ex _ (fun h => h3 (Or.inl h)), ex _ (fun h => h3 (Or.inr h))⟩
theorem sM_attack (h : MW I w) (hk : gok (wG w)) {x y : Int32} (H : oM I L D (wAtt w x y) (aAttack (wG w) x y) Ψ) : e_M 293 [.ref 139, .int x, .int y] (S0 I L D sc) (e_rI sc Ψ) := by
  have a3 := aWhy_le (s := wG w) (x := x) (y := y)
  refine vM_attack (s_M_why (h.mr hk) ⟨fun hle => ?_, fun hgt => ?_⟩)
  · have e0 : aWhy (wG w) x y = 0 := by
      have := (o_le (b := 0) (by omega) (by decide)).mp hle
      omega
    obtain ⟨c, d, hc, hd, rfl, rfl, ua, ud⟩ := aWhy_cells e0
    have e : aAttack (wG w) (Int32.ofNat c) (Int32.ofNat d) = (0, Int32.ofNat (gRes (wG w) c d)) := by
      unfold aAttack
      rw [if_pos e0, nx_of (by omega), nx_of (by omega)]
    have ew : wAtt w (Int32.ofNat c) (Int32.ofNat d) = wCh w (gFight (wG w) c d) := by
      unfold wAtt
      rw [e, if_pos rfl, nx_of (by omega), nx_of (by omega)]
    rw [e0]
    refine s_M_change h.thr (fun I1 hF1 h1 => s_M_fight (s := wG w) ⟨hk, h1.1⟩ hc hd ua ud (fun I2 hQ2 hR2 h5 => ?_))
    refine H _ I2 L (((Fr.rf.upI (by decide)).tr hF1.fm).tr hQ2.fm) ?_ ?_ (fun _ => by rw [e])
    · rw [ew]
      exact h1.q hQ2 hR2.2
    · rw [h5, hF1.2 5 (by decide), up_same, e]
  · have hn : aWhy (wG w) x y ≠ 0 := fun e0 => hgt (by rw [e0]; exact Int32.le_rfl)
    have e : aAttack (wG w) x y = (aWhy (wG w) x y, 0) := by
      unfold aAttack
      rw [if_neg hn]
    have ew : wAtt w x y = w := by
      unfold wAtt
      rw [e, if_neg hn]
    rw [ew] at H
    exact H.fin h (aWhy (wG w) x y) FQ.rf.thr (up_cell (by decide)) up_same (by rw [e]) (fun h0 => absurd h0 hn)
theorem aCnt_mrg (a b : Nat → Int32) : aCnt (mrg a b) = aCnt a := by
  have e : ∀ u, u < 16 → gU (mrg a b) u = gU a u := fun u hu => by
    unfold gU gMa gSt
    rw [mrg_n (by decide), mrg_n (by omega)]
  have key : ∀ n, n ≤ 16 → (List.range n).countP (gU (mrg a b)) = (List.range n).countP (gU a) := by
    intro n
    induction n with
    | zero =>
      intro _
      rw [List.range_zero, List.countP_nil, List.countP_nil]
    | succ n ih =>
      intro hn
      rw [countP_s, countP_s, ih (by omega), e n (by omega)]
  exact congrArg Int32.ofNat (key 16 (Nat.le_refl _))
theorem sM_save (h : MW I w) (hk : gok (wG w)) (H : oM I L D (wSave w) (0, aCnt (wG w)) Ψ) : e_M 306 [.ref 139] (S0 I L D sc) (e_rI sc Ψ) := by
  obtain ⟨h1, ⟨h2, h3⟩, ⟨h4, h5, h6⟩, ⟨h7, h8, h9⟩, ⟨h10, h11, h12⟩⟩ := h
  refine vM_save (s_M_howMany (s := wG w) ⟨hk, ?_⟩ (H _ _ L ?_ ⟨?_, ⟨?_, fun _ k hk3 => ?_⟩, ⟨?_, h5, fun i hi k hk3 => ?_⟩, ⟨?_, h8, fun i hi => ?_⟩, ⟨?_, h11, fun i hi => ?_⟩⟩ ?_ (fun _ => rfl)))
  · rw [up_cell (by decide), row_cell (by decide), up_cell (by decide)]; exact h1
  · intro c hc
    exact ⟨by rw [up_cell (by omega), row_cell (by omega), up_cell (by omega)], rfl⟩
  · rw [up_cell (by decide), row_cell (by decide), up_cell (by decide)]; exact h1
  · rw [up_same]; rfl
  · rw [up_cell (by decide), row_same, up_cell (by decide), up_cell (by decide)]
    unfold va_cpy
    rw [if_pos (by omega), h1]
    congr 1
    omega
  · rw [up_slot (by decide), row_cell (by decide), up_slot (by decide)]; exact h4
  · rw [up_cell (by decide), row_cell (by decide), up_cell (by decide)]; exact h6 i hi k hk3
  · rw [up_slot (by decide), row_cell (by decide), up_slot (by decide)]; exact h7
  · rw [up_cell (by decide), row_cell (by decide), up_cell (by decide)]; exact h9 i hi
  · rw [up_slot (by decide), row_cell (by decide), up_slot (by decide)]; exact h10
  · rw [up_cell (by decide), row_cell (by decide), up_cell (by decide)]; exact h12 i hi
  · rw [up_slot (by decide), row_cell (by decide), up_same]; rfl
theorem sM_feed (h : MW I w) {x : Int32} (H : oM I L D (if (aFeed w).1 = 0 then wBf w (wN w + 1, fun i => if i = wN w then vp_nar .char x else wB w i) else w) (aFeed w) Ψ) : e_M 299 [.ref 139, .int x] (S0 I L D sc) (e_rI sc Ψ) := by
  have h' := h
  obtain ⟨h1, ⟨h2, h3⟩, ⟨h4, h5, h6⟩, ⟨h7, h8, h9⟩, ⟨h10, h11, h12⟩⟩ := h'
  refine vM_feed ?_
  rw [h10]
  refine ⟨fun hn => ?_, fun he => ?_⟩
  · have hn' : wN w ≠ 80 := fun e => hn (by rw [e]; rfl)
    have e : aFeed w = (0, Int32.ofNat (wN w + 1)) := by
      unfold aFeed
      rw [if_neg hn']
    rw [e, if_pos rfl] at H
    rw [o_ix (a := wN w) (by omega), o_s]
    refine ⟨o_in (by omega), H _ _ L ?_ ⟨?_, ⟨?_, fun hs k hk3 => ?_⟩, ⟨?_, h5, fun i hi k hk3 => ?_⟩, ⟨?_, h8, fun i hi => ?_⟩, ⟨up_same, by show wN w + 1 ≤ 80; omega, fun i hi => ?_⟩⟩ ?_ (fun _ => rfl)⟩
    · exact ((Fr.rf.upI (by decide)).upI (by decide)).upI (by decide)
    · rw [up_cell (by decide), up_cell (by decide), up_cell (by decide)]; exact h1
    · rw [up_slot (by decide), up_cell (by decide), up_slot (by decide)]; exact h2
    · rw [up_cell (by decide), up_cell (by decide), up_cell (by decide)]; exact h3 hs k hk3
    · rw [up_slot (by decide), up_cell (by decide), up_slot (by decide)]; exact h4
    · rw [up_cell (by decide), up_cell (by decide), up_cell (by decide)]; exact h6 i hi k hk3
    · rw [up_slot (by decide), up_cell (by decide), up_slot (by decide)]; exact h7
    · rw [up_cell (by decide), up_cell (by decide), up_cell (by decide)]; exact h9 i hi
    · rw [up_cell (by decide)]
      show e_up (e_up I 139 5 0) 147 (wN w) (vp_nar .char x) 147 i = if i = wN w then vp_nar .char x else wB w i
      by_cases ei : i = wN w
      · rw [ei, up_same, if_pos rfl]
      · have hi' : i < wN w + 1 := hi
        rw [up_slot ei, if_neg ei, up_cell (by decide)]
        exact h12 i (by omega)
    · rw [up_slot (by decide), up_cell (by decide), up_same]; rfl
  · have e80 : wN w = 80 := (o_eq (b := 80) (by omega) (by decide)).mp (Classical.not_not.mp he)
    have e : aFeed w = (1, 0) := by
      unfold aFeed
      rw [if_pos e80]
    rw [e, if_neg (by decide)] at H
    exact H.exc h (n := 0) (z := 0) rfl
end
