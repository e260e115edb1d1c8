/-! the reference's face: sources -/
theorem srcv0 : ∀ n : Fin 4, ∀ d : Fin 2, ((Int32.ofNat n.1 &&& (((1 : Int32) <<< (Int32.ofNat d.1 &&& 31)) ^^^ (-1))) ||| 0) = Int32.ofNat (gSrcV n.1 d.1 false) := by decide +kernel
theorem srcv1 : ∀ n : Fin 4, ∀ d : Fin 2, ((Int32.ofNat n.1 &&& (((1 : Int32) <<< (Int32.ofNat d.1 &&& 31)) ^^^ (-1))) ||| ((1 : Int32) <<< (Int32.ofNat d.1 &&& 31))) = Int32.ofNat (gSrcV n.1 d.1 true) := by decide +kernel
noncomputable def wSetS (w : Wd) (x y : Int32) (b : Bool) : Wd := if (aSetSource (wG w) x y).1 = 0 then wCh w (gSrcS (wG w) (nx x) (nx y) b) else w
section
variable {I : e_TI} {L : e_TL} {D : e_TD} {sc : e_TS} {w : Wd} {Ψ : Int32 → e_TI → e_TL → e_TD → Prop}
theorem sM_setSource (h : MW I w) (hk : gok (wG w)) {x y : Int32} {b : Bool} (H : oM I L D (wSetS w x y b) (aSetSource (wG w) x y) Ψ) : e_M 235 [.ref 139, .int x, .int y, .int (e_b b)] (S0 I L D sc) (e_rI sc Ψ) := by
  have bad : aSetSource (wG w) x y = (1, 0) → Ψ 0 (e_up I 139 5 1) L D := fun e => by
    have ew : wSetS w x y b = w := by
      unfold wSetS
      rw [e, if_neg (by decide)]
    rw [ew] at H
    exact H.exc h (n := 0) (z := 0) e
  refine vM_setSource (s_M_isCell (bx_b (fun h0 => bad (by unfold aSetSource; rw [h0]; rfl)) (fun h1 => s_M_isSide (bx_b (fun h2 => bad (by unfold aSetSource; rw [h2, Bool.and_false]; rfl)) (fun h2 => s_M_change h.thr (fun I1 hF1 hM1 => ?_))))))
  have e : aSetSource (wG w) x y = (0, e_b (gSrc (wG w) (nx y) (nx x))) := by
    unfold aSetSource
    rw [h1, h2]
    rfl
  have ew : wSetS w x y b = wCh w (gSrcS (wG w) (nx x) (nx y) b) := by
    unfold wSetS
    rw [e, if_pos rfl]
  obtain ⟨c, hc, rfl⟩ := iC_ex h1
  obtain ⟨d, hd, rfl⟩ := iS_ex h2
  rw [nx_of (by omega), nx_of (by omega)] at e ew
  rw [ew, e] at H
  have ei : (126 : Int32) + Int32.ofNat c = Int32.ofNat (126 + c) := by rw [show (126 : Int32) = Int32.ofNat 126 from rfl, o_add]
  have hg := (hk.1 c hc).2.2.1
  have hg2 := hg.2
  have v : I1 140 (126 + c) = Int32.ofNat (gn (wG w) (126 + c)) := by
    rw [hM1.1]
    exact hg.1
  have hbit : decide ((Int32.ofNat (gn (wG w) (126 + c)) >>> (Int32.ofNat d &&& 31)) &&& 1 = 1) = gSrc (wG w) d c := by
    rw [src_sar ⟨gn (wG w) (126 + c), by omega⟩ ⟨d, by omega⟩]
    unfold gSrc
    rw [decide_eq_true hc, Bool.true_and]
  have v0 := srcv0 ⟨gn (wG w) (126 + c), by omega⟩ ⟨d, by omega⟩
  have v1 := srcv1 ⟨gn (wG w) (126 + c), by omega⟩ ⟨d, by omega⟩
  have thr : I1 139 5 = Int32.ofNat 0 := by rw [hF1.2 5 (by decide), up_same]; rfl
  have F0 : Fr 139 148 I L I1 L := (Fr.rf.upI (by decide)).tr hF1.fm
  have fin : ∀ r, r = e_b (gSrc (wG w) d c) → Ψ r (e_up I1 140 (126 + c) (Int32.ofNat (gSrcV (gn (wG w) (126 + c)) d b))) L D := fun r hr => by
    refine H _ _ L (F0.upI (by decide)) (hM1.q (L := L) (L' := L) (FQ.row FrO.rf.up) (row_up hM1.1 _ _)) (by rw [up_cell (by decide)]; exact thr) (fun _ => hr)
  rw [ei, o_ix (a := 126 + c) (by omega), v]
  refine ⟨o_in (by omega), fun hn => ⟨o_in (by omega), bx_b (fun hb => ⟨o_in (by omega), ?_⟩) (fun hb => ⟨o_in (by omega), ?_⟩)⟩, fun he => ⟨o_in (by omega), bx_b (fun hb => ⟨o_in (by omega), ?_⟩) (fun hb => ⟨o_in (by omega), ?_⟩)⟩⟩
  · rw [decide_eq_false hn] at hbit
    rw [hb] at fin
    rw [v0]
    exact fin 0 (by rw [← hbit]; rfl)
  · rw [decide_eq_false hn] at hbit
    rw [hb] at fin
    rw [v1]
    exact fin 0 (by rw [← hbit]; rfl)
  · rw [decide_eq_true (Classical.not_not.mp he)] at hbit
    rw [hb] at fin
    rw [v0]
    exact fin 1 (by rw [← hbit]; rfl)
  · rw [decide_eq_true (Classical.not_not.mp he)] at hbit
    rw [hb] at fin
    rw [v1]
    exact fin 1 (by rw [← hbit]; rfl)
end
