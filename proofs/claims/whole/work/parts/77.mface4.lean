/-! the reference's face: taking back, restoring, setting -/
noncomputable def wSet (w : Wd) (r : Bool) (y : Int32) : Wd := if (aSet (wG w) r y).1 = 0 then wCh w (gset (wG w) (if r then 189 else 190) y) else w
theorem va_mrg {a b c : Nat → Int32} (h : ∀ k, k < 301 → a k = c k) : va_cpy a b 0 0 301 = mrg c b := by
  funext k
  unfold va_cpy mrg
  by_cases hk : k < 301
  · rw [if_pos (by omega), if_pos hk, show 0 + (k - 0) = k by omega]
    exact h k hk
  · rw [if_neg (by omega), if_neg hk]
section
variable {I : e_TI} {L : e_TL} {D : e_TD} {sc : e_TS} {w : Wd} {Ψ : Int32 → e_TI → e_TL → e_TD → Prop}
theorem sM_restore (h : MW I w) (hsv : wSf w = true → gok (wSv w)) (H : oM I L D (if wSf w = true then wRest w else w) (aRest w) Ψ) : e_M 307 [.ref 139] (S0 I L D sc) (e_rI sc Ψ) := by
  have h' := h
  obtain ⟨h1, ⟨h2, h3⟩, ⟨h4, h5, h6⟩, ⟨h7, h8, h9⟩, ⟨h10, h11, h12⟩⟩ := h'
  refine vM_restore ?_
  rw [h2]
  refine bx_b (fun h0 => ?_) (fun hs => ?_)
  · have e : aRest w = (1, 0) := by
      unfold aRest
      rw [h0, if_neg (by decide)]
    rw [h0, if_neg (by decide)] at H
    exact H.exc h (n := 0) (z := 0) e
  · have e : aRest w = (0, aCnt (wSv w)) := by
      unfold aRest
      rw [hs, if_pos rfl]
    rw [hs, if_pos rfl] at H
    have hrow : ((e_up I 139 5 0) 141) = I 141 := up_cell (by decide)
    have hrow0 : ((e_up I 139 5 0) 140) = wG w := by rw [up_cell (by decide)]; exact h1
    rw [hrow, hrow0, va_mrg (h3 hs)]
    refine s_M_howMany (s := mrg (wSv w) (wG w)) ⟨(hsv hs).mg, by rw [up_cell (by decide), row_same]⟩ (H _ _ L ?_ ⟨?_, ⟨?_, fun _ k hk3 => ?_⟩, ⟨up_same, Nat.zero_le _, fun i hi => absurd hi (Nat.not_lt_zero _)⟩, ⟨?_, h8, fun i hi => ?_⟩, ⟨?_, h11, fun i hi => ?_⟩⟩ ?_ (fun _ => by rw [e, aCnt_mrg]))
    · intro c hc
      exact ⟨by rw [up_cell (by omega), row_cell (by omega), up_cell (by omega)], rfl⟩
    · rw [up_cell (by decide), row_same]; rfl
    · rw [up_slot (by decide), row_cell (by decide), up_slot (by decide)]; exact h2
    · rw [up_cell (by decide), row_cell (by decide), up_cell (by decide)]; exact h3 hs k hk3
    · rw [up_slot (by decide), row_cell (by decide), up_slot (by decide)]; exact h7
    · rw [up_cell (by decide), row_cell (by decide), up_cell (by decide)]; exact h9 i hi
    · rw [up_slot (by decide), row_cell (by decide), up_slot (by decide)]; exact h10
    · rw [up_cell (by decide), row_cell (by decide), up_cell (by decide)]; exact h12 i hi
    · rw [up_slot (by decide), row_cell (by decide), up_same, e]; rfl
theorem va_mrgAt {a b c : Nat → Int32} {p : Nat} (h : ∀ k, k < 301 → a (p + k) = c k) : va_cpy a b p 0 301 = mrg c b := by
  funext k
  unfold va_cpy mrg
  by_cases hk : k < 301
  · rw [if_pos (by omega), if_pos hk, show p + (k - 0) = p + k by omega]
    exact h k hk
  · rw [if_neg (by omega), if_neg hk]
theorem sM_undo (h : MW I w) (H : oM I L D (if wM w = 0 then w else wUndo w) (aUndo w) Ψ) : e_M 305 [.ref 139] (S0 I L D sc) (e_rI sc Ψ) := by
  have h' := h
  obtain ⟨h1, ⟨h2, h3⟩, ⟨h4, h5, h6⟩, ⟨h7, h8, h9⟩, ⟨h10, h11, h12⟩⟩ := h'
  have n0 : ¬ ((0 : Int32) < 0) := by decide
  have n301 : ¬ ((301 : Int32) < 0) := by decide
  refine vM_undo ?_
  rw [h4]
  refine ⟨fun hn => ?_, fun he => ?_⟩
  · have hm : wM w ≠ 0 := fun e => hn (by rw [e]; rfl)
    have e : aUndo w = (0, Int32.ofNat (wM w - 1)) := by
      unfold aUndo
      rw [if_neg hm]
    rw [if_neg hm] at H
    rw [show Int32.ofNat (wM w) - 1 = Int32.ofNat (wM w - 1) from o_sub (b := 1) (by omega), show (301 : Int32) * Int32.ofNat (wM w - 1) = Int32.ofNat (301 * (wM w - 1)) from o_mul 301 _, o_ix (a := 301 * (wM w - 1)) (by omega)]
    have r142 : (e_up (e_up I 139 5 0) 139 4 (Int32.ofNat (wM w - 1))) 142 = I 142 := by rw [up_cell (by decide), up_cell (by decide)]
    have r140 : (e_up (e_up I 139 5 0) 139 4 (Int32.ofNat (wM w - 1))) 140 = wG w := by rw [up_cell (by decide), up_cell (by decide)]; exact h1
    rw [r142, r140, va_mrgAt (c := wP w (wM w - 1)) (h6 (wM w - 1) (by omega))]
    refine ⟨⟨b_nn (by omega), n0, n301, by omega, by decide⟩, H _ _ L ?_ ⟨?_, ⟨?_, fun hs k hk3 => ?_⟩, ⟨?_, by show wM w - 1 ≤ 8; omega, fun i hi k hk3 => ?_⟩, ⟨?_, h8, fun i hi => ?_⟩, ⟨?_, h11, fun i hi => ?_⟩⟩ ?_ (fun _ => by rw [e])⟩
    · intro c hc
      exact ⟨by rw [row_cell (by omega), up_cell (by omega), up_cell (by omega)], rfl⟩
    · rw [row_same]; rfl
    · rw [row_cell (by decide), up_slot (by decide), up_slot (by decide)]; exact h2
    · rw [row_cell (by decide), up_cell (by decide), up_cell (by decide)]; exact h3 hs k hk3
    · rw [row_cell (by decide), up_same]; rfl
    · have hi' : i < wM w - 1 := hi
      rw [row_cell (by decide), up_cell (by decide), up_cell (by decide)]; exact h6 i (by omega) k hk3
    · rw [row_cell (by decide), up_slot (by decide), up_slot (by decide)]; exact h7
    · rw [row_cell (by decide), up_cell (by decide), up_cell (by decide)]; exact h9 i hi
    · rw [row_cell (by decide), up_slot (by decide), up_slot (by decide)]; exact h10
    · rw [row_cell (by decide), up_cell (by decide), up_cell (by decide)]; exact h12 i hi
    · rw [row_cell (by decide), up_slot (by decide), up_same, e]; rfl
  · have hm : wM w = 0 := (o_eq (b := 0) (by omega) (by decide)).mp (Classical.not_not.mp he)
    have e : aUndo w = (1, 0) := by
      unfold aUndo
      rw [if_pos hm]
    rw [if_pos hm] at H
    exact H.exc h (n := 0) (z := 0) e
theorem sM_set (h : MW I w) {r : Bool} {y : Int32} (H : oM I L D (wSet w r y) (aSet (wG w) r y) Ψ) : e_M 236 [.ref 139, .int (e_b r), .int y] (S0 I L D sc) (e_rI sc Ψ) := by
  have put : ∀ (k : Nat), (aSet (wG w) r y) = (0, wG w k) → (if r then 189 else 190) = k → ∀ I1, FC (e_up I 139 5 0) I1 → MW I1 (wCh w (wG w)) → Ψ (I1 140 k) (e_up I1 140 k y) L D := by
    intro k e ek I1 hF1 h1
    have ew : wSet w r y = wCh w (gset (wG w) k y) := by
      unfold wSet
      rw [e, if_pos rfl, ek]
    rw [ew, e] at H
    refine H _ _ L (((Fr.rf.upI (by decide)).tr hF1.fm).upI (by decide)) (h1.q (L := L) (L' := L) (FQ.row FrO.rf.up) (row_up h1.1 _ _)) ?_ (fun _ => by rw [h1.1]; rfl)
    rw [up_cell (by decide), hF1.2 5 (by decide), up_same]
    rfl
  have bad : aSet (wG w) r y = (1, 0) → Ψ 0 (e_up I 139 5 1) L D := fun e => by
    have ew : wSet w r y = w := by
      unfold wSet
      rw [e, if_neg (by decide)]
    rw [ew] at H
    exact H.exc h (n := 0) (z := 0) e
  cases r with
  | false =>
    have ea : aSet (wG w) false y = if iR y 1 30 then (0, wG w 190) else (1, 0) := rfl
    refine vM_set (bx_t rfl (s_M_inR 1 30 (bx_b (fun h0 => bad (by rw [ea, h0]; rfl)) (fun h1 => s_M_change h.thr (fun I1 hF1 hM1 => bx_t rfl (put 190 (by rw [ea, h1]; rfl) rfl I1 hF1 hM1))))))
  | true =>
    have ea : aSet (wG w) true y = if iR y 0 2 then (0, wG w 189) else (1, 0) := rfl
    refine vM_set (bx_f (by decide) (s_M_inR 0 2 (bx_b (fun h0 => bad (by rw [ea, h0]; rfl)) (fun h1 => s_M_change h.thr (fun I1 hF1 hM1 => bx_f (by decide) (put 189 (by rw [ea, h1]; rfl) rfl I1 hF1 hM1))))))
end
