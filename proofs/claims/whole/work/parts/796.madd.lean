/-! the reference's face: a unit more -/
noncomputable def wAdd (w : Wd) (d c n m : Int32) : Wd := if (aAdd (wG w) d c n m).1 = 0 then wCh w (gAdd (wG w) (nx d) (nx c) (nx n) (nx m)) else w
section
variable {I : e_TI} {L : e_TL} {D : e_TD} {sc : e_TS} {w : Wd} {Ψ : Int32 → e_TI → e_TL → e_TD → Prop}
theorem sM_add (h : MW I w) (hk : gok (wG w)) {x y z v : Int32} (H : oM I L D (wAdd w x y z v) (aAdd (wG w) x y z v) Ψ) : e_M 264 [.ref 139, .int x, .int y, .int z, .int v] (S0 I L D sc) (e_rI sc Ψ) := by
  have bad : ∀ n, aAdd (wG w) x y z v = (n + 1, 0) → Ψ 0 (e_up I 139 5 (Int32.ofNat (n + 1))) L D := fun n e => by
    have ew : wAdd w x y z v = w := by
      unfold wAdd
      rw [e, if_neg (Nat.succ_ne_zero n)]
    rw [ew] at H
    exact H.exc h e
  have bad2 : ∀ n, aAdd (wG w) x y z v = (n + 1, 0) → Ψ 0 (e_up (e_up I 139 5 0) 139 5 (Int32.ofNat (n + 1))) L D := fun n e => by
    have ew : wAdd w x y z v = w := by
      unfold wAdd
      rw [e, if_neg (Nat.succ_ne_zero n)]
    rw [ew] at H
    exact H.fin h (n + 1) FQ.rf.thr.thr (by rw [up_cell (by decide), up_cell (by decide)]) up_same (by rw [e]) (fun h0 => absurd h0 (Nat.succ_ne_zero n))
  refine vM_add (s_M_isSide (bx_b (fun h0 => bad 0 (by unfold aAdd; rw [h0]; rfl)) (fun h1 => s_M_isCell (bx_n (fun h2 => s_M_inR 1 9 (bx_b (fun h3 => bad 1 (by unfold aAdd; rw [h1, h2, h3]; rfl)) (fun h3 => s_M_inR 1 12 (bx_n (fun h4 => ?_) (fun h4 => bad 1 (by unfold aAdd; rw [h1, h2, h3, h4]; rfl)))))) (fun h2 => bad 0 (by unfold aAdd; rw [h2, Bool.and_false]; rfl))))))
  have e : aAdd (wG w) x y z v = if gMa (wG w) = 16 ∨ gTer (wG w) (nx y) = 5 ∨ gRoom (wG w) (gU (wG w)) (nx y) (nx x) (nx z) = false then (3, 0) else (0, Int32.ofNat (gMa (wG w))) := by
    unfold aAdd
    rw [h1, h2, h3, h4]
    rfl
  have en : wAdd w x y z v = if (aAdd (wG w) x y z v).1 = 0 then wCh w (gAdd (wG w) (nx x) (nx y) (nx z) (nx v)) else w := rfl
  obtain ⟨d, hd, rfl⟩ := iS_ex h1
  obtain ⟨c, hc, rfl⟩ := iC_ex h2
  obtain ⟨n, hn1, hn9, rfl⟩ := iR_ex (by decide) (by decide) h3
  obtain ⟨m, hm1, hm12, rfl⟩ := iR_ex (by decide) (by decide) h4
  rw [nx_of (by omega), nx_of (by omega), nx_of (by omega)] at e
  rw [nx_of (by omega), nx_of (by omega), nx_of (by omega), nx_of (by omega)] at en
  have hm0 := h.mr hk
  have hm := h.mrt hk (x := 0)
  have hma := hm0.ma
  obtain ⟨t1, t2⟩ := hm0.ter hc
  rw [hm0.tot, o_ix (a := c) (by omega), t1]
  refine ⟨fun h16 => bad2 2 ?_, fun h16 => ⟨o_in (by omega), fun h5 => bad2 2 ?_, fun h5 => ?_⟩⟩
  · rw [e, if_pos (Or.inl ((o_eq (b := 16) (by omega) (by decide)).mp h16))]
  · rw [e, if_pos (Or.inr (Or.inl ((o_eq (b := 5) (by omega) (by decide)).mp h5)))]
  have n16 : gMa (wG w) ≠ 16 := fun e2 => h16 (by rw [e2]; rfl)
  have n5 : gTer (wG w) c ≠ 5 := fun e2 => h5 (by rw [e2]; rfl)
  have room : ∀ {Φ : Int32 → e_TI → e_TL → e_TD → Prop}, Φ (e_b (gRoom (wG w) (gU (wG w)) c d n)) (e_up I 139 5 0) L D → e_M 262 [.ref 139, .int (Int32.ofNat c), .int (-1), .int (Int32.ofNat d), .int (Int32.ofNat n), .int (-1)] (S0 (e_up I 139 5 0) L D sc) (e_rI sc Φ) := by
    intro Φ hΦ
    have er : gRoom (wG w) (fun _ => true) c d n = gRoom (wG w) (gU (wG w)) c d n := by
      have pw : ∀ u, (true && gOn (wG w) c u) = (gU (wG w) u && gOn (wG w) c u) := fun u => by
        cases ho : gOn (wG w) c u with
        | false => rw [Bool.and_false, Bool.and_false]
        | true => rw [gOn_U ho]
      unfold gRoom
      simp only [pw]
    have k := s_M_hasRoom (sc := sc) (L := L) (D := D) (Ψ := Φ) hm (q := fun _ => true) (p := fun _ => true) (x := -1) hc hd hn9 (fun u hu => by rw [decide_eq_false (o_ne1 (by omega))]; rfl) (by rw [er]; exact hΦ)
    rw [← sI_neg1] at k
    exact k
  refine room (bx_n (fun hr => ?_) (fun hr => ?_))
  · rw [if_neg (fun hh => hh.elim n16 (fun hh => hh.elim n5 (fun hh => by rw [hr] at hh; cases hh)))] at e
    rw [up_same]
    refine bx_t Int32.le_rfl (s_M_change h.thr (fun I1 hF1 hM1 => ?_))
    have r0 : I1 140 = wG w := hM1.1
    have tot : I1 140 196 = Int32.ofNat (gMa (wG w)) := by rw [r0]; exact hk.2.2.2.2.1.1
    have e0 : ((197 : Int32) + (4 * Int32.ofNat d)) + 0 = Int32.ofNat (197 + 4 * d + 0) := by
      rw [show (197 : Int32) = Int32.ofNat 197 from rfl, show (4 : Int32) = Int32.ofNat 4 from rfl, show (0 : Int32) = Int32.ofNat 0 from rfl, o_mul, o_add, o_add]
    rw [tot, e0, o_ix (a := 197 + 4 * d + 0) (by omega)]
    refine s_M_unitAt 0 ?_
    rw [o_ix (a := 205 + 6 * gMa (wG w) + 0) (by omega)]
    refine ⟨o_in (by omega), s_M_unitAt 1 ?_⟩
    rw [o_ix (a := 205 + 6 * gMa (wG w) + 1) (by omega)]
    refine ⟨o_in (by omega), s_M_unitAt 2 ?_⟩
    rw [o_ix (a := 205 + 6 * gMa (wG w) + 2) (by omega)]
    refine ⟨o_in (by omega), s_M_unitAt 3 ?_⟩
    rw [o_ix (a := 205 + 6 * gMa (wG w) + 3) (by omega)]
    refine ⟨o_in (by omega), s_M_unitAt 4 ?_⟩
    rw [o_ix (a := 205 + 6 * gMa (wG w) + 4) (by omega)]
    refine ⟨o_in (by omega), s_M_unitAt 5 ?_⟩
    rw [o_ix (a := 205 + 6 * gMa (wG w) + 5) (by omega)]
    refine ⟨o_in (by omega), o_in (by omega), o_in (by omega), ?_⟩
    have r6 := row_up (row_up (row_up (row_up (row_up (row_up r0 (205 + 6 * gMa (wG w) + 0) (Int32.ofNat d)) (205 + 6 * gMa (wG w) + 1) (Int32.ofNat c)) (205 + 6 * gMa (wG w) + 2) (Int32.ofNat n)) (205 + 6 * gMa (wG w) + 3) (Int32.ofNat m)) (205 + 6 * gMa (wG w) + 4) 0) (205 + 6 * gMa (wG w) + 5) 0
    obtain ⟨J, hJ⟩ : ∃ J, (e_up (e_up (e_up (e_up (e_up (e_up I1 140 (205 + 6 * gMa (wG w) + 0) (Int32.ofNat d)) 140 (205 + 6 * gMa (wG w) + 1) (Int32.ofNat c)) 140 (205 + 6 * gMa (wG w) + 2) (Int32.ofNat n)) 140 (205 + 6 * gMa (wG w) + 3) (Int32.ofNat m)) 140 (205 + 6 * gMa (wG w) + 4) 0) 140 (205 + 6 * gMa (wG w) + 5) 0) = J := ⟨_, rfl⟩
    have hFJ : FrO I1 J := by rw [← hJ]; exact FrO.rf.up.up.up.up.up.up
    rw [hJ] at r6
    rw [hJ]
    have vt : J 140 196 = Int32.ofNat (gMa (wG w)) := by
      rw [r6, gset_ne (by omega), gset_ne (by omega), gset_ne (by omega), gset_ne (by omega), gset_ne (by omega), gset_ne (by omega)]
      exact hk.2.2.2.2.1.1
    rw [vt, o_s]
    have r7 := row_up r6 196 (Int32.ofNat (gMa (wG w) + 1))
    have va : (e_up J 140 196 (Int32.ofNat (gMa (wG w) + 1))) 140 (197 + 4 * d + 0) = wG w (197 + 4 * d) := by
      rw [r7, gset_ne (by omega), gset_ne (by omega), gset_ne (by omega), gset_ne (by omega), gset_ne (by omega), gset_ne (by omega), gset_ne (by omega)]
      rfl
    rw [va]
    rw [en, e, if_pos rfl] at H
    refine H _ _ L (((Fr.rf.upI (by decide)).tr hF1.fm).tr (FQ.row (L := L) hFJ.up.up).fm) (hM1.q (L := L) (L' := L) (FQ.row hFJ.up.up) ?_) ?_ (fun _ => rfl)
    · rw [row_up r7]
      rfl
    · rw [up_cell (by decide), up_cell (by decide), hFJ 139 (by decide), hF1.2 5 (by decide), up_same]
      rfl
  · exact bad2 2 (by rw [e, if_pos (Or.inr (Or.inr hr))])
end
