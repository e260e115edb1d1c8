/-! the class's units weakened -/
section
variable {I : e_TI} {L : e_TL} {D : e_TD} {sc : e_TS} {s : Nat → Int32}
theorem gSt_up {u n v : Nat} (hn : n < 2147483648) : gSt (gset s (205 + 6 * u + 2) (Int32.ofNat n)) v = if v = u then n else gSt s v := by
  unfold gSt
  by_cases e : v = u
  · subst e
    rw [gn_eq, o_ix hn, if_pos rfl]
  · rw [gn_ne (by omega), if_neg e]
theorem gU_up {u n : Nat} (hn : n < 2147483648) (hu : u < gMa s) (v : Nat) : gU (gset s (205 + 6 * u + 2) (Int32.ofNat n)) v = if v = u then decide (0 < n) else gU s v := by
  unfold gU
  rw [gMa_ne (by omega), gSt_up hn]
  by_cases e : v = u
  · subst e
    rw [if_pos rfl, if_pos rfl, decide_eq_true hu, Bool.true_and]
  · rw [if_neg e, if_neg e]
/-- weaken, on the row: strength and removal, not yet the account -/
def gWeak (s : Nat → Int32) (u m : Nat) : Nat → Int32 :=
  gset (gset s (205 + 6 * u + 2) (Int32.ofNat (gSt s u - min m (gSt s u)))) (197 + 4 * gSd s u + 3) (s (197 + 4 * gSd s u + 3) + Int32.ofNat (if gSt s u ≤ m then 1 else 0))
theorem gWeak_sd (u m v : Nat) : gSd (gWeak s u m) v = gSd s v ∨ 2 ≤ gSd s u := by
  by_cases h : gSd s u < 2
  · left
    unfold gWeak
    rw [gSd_low (by omega)]
    unfold gSd
    rw [gn_ne (by omega)]
  · right
    omega
theorem s_weaken {Ψ : Int32 → e_TI → e_TL → e_TD → Prop} (h : GR I L s) {u m : Nat} (hu : gU s u = true) (hm9 : m < 1000) (H : ∀ I', Fr 2 14 I L I' L → GR I' L (gWeak s u m) → Ψ (Int32.ofNat (min m (gSt s u))) I' L D) : e_M 53 [.ref 6, .int (Int32.ofNat u), .int (Int32.ofNat m)] (S0 I L D sc) (e_rI sc Ψ) := by
  have hlt := gU_lt hu
  have hpos := gU_pos hu
  have hm := h.ma
  have hst := h.st hlt
  have hsd := h.sd hlt
  refine vU_weaken (s_strengthOf h hlt ?_)
  rw [o_le (by omega) (by omega)]
  refine ⟨fun hle => ?_, fun hgt => ?_⟩
  · have hz : gSt s u - min m (gSt s u) = 0 := by omega
    refine s_write_8 (by omega) (s_uonly (by omega) ?_)
    have e61 : (e_up I 8 u 0) 6 1 = sI (gU s) := by rw [up_cell (by decide)]; exact h.pres
    rw [e61, sI_not, sI_and]
    -- the row after the strength is gone
    have hR : GR (e_up (e_up I 8 u 0) 6 1 (sI fun i => gU s i && !(i == u))) L (gset s (205 + 6 * u + 2) (Int32.ofNat 0)) := by
      refine ⟨h.1.unit (f := 2) (by decide) (by decide), h.2.str (fun c h6 h8 => by rw [up_cell h6, up_cell h8]) (fun v hv => ?_) ?_ (fun k hk => ?_) ?_⟩
      · rw [up_cell (by decide), up_slot hv]
      · rw [up_cell (by decide), up_same]
        rfl
      · rw [up_slot hk, up_cell (by decide)]
      · rw [up_same]
        refine sI_congr fun v _ => ?_
        rw [gU_up (by decide) hlt]
        by_cases e : v = u
        · subst e
          simp
        · rw [if_neg e, beq_false_of_ne e]
          simp
    have hsd2 : gSd (gset s (205 + 6 * u + 2) (Int32.ofNat 0)) u = gSd s u := by unfold gSd; rw [gn_ne (by omega)]
    refine s_sideOf hR (by rw [gMa_ne (by omega)]; exact hlt) ?_
    rw [hsd2]
    refine s_increase_13 (by omega) ?_
    have hF : Fr 2 14 I L (e_up (e_up I 8 u 0) 6 1 (sI fun i => gU s i && !(i == u))) L := (Fr.rf.upI (by decide)).upI (by decide)
    have e13 : (e_up (e_up I 8 u 0) 6 1 (sI fun i => gU s i && !(i == u))) 13 (gSd s u) = s (197 + 4 * gSd s u + 3) := by
      rw [up_cell (by decide), up_cell (by decide)]
      exact (h.2.2.2.2.2.2.1 (gSd s u) (by omega)).2.2.2
    rw [e13]
    have key := H _ (hF.upI (a := 13) (k := gSd s u) (x := s (197 + 4 * gSd s u + 3) + 1) (by decide)) (by
      unfold gWeak
      rw [hz, if_pos hle]
      exact ⟨hR.1.low (by omega), hR.2.acc (j := 3) (by decide) (by omega)⟩)
    rw [show min m (gSt s u) = gSt s u by omega] at key
    exact key
  · rw [o_sub (by omega)]
    have hmin : min m (gSt s u) = m := by omega
    refine s_write_8 (by omega) ?_
    have hR : GR (e_up I 8 u (Int32.ofNat (gSt s u - m))) L (gset s (205 + 6 * u + 2) (Int32.ofNat (gSt s u - m))) := by
      refine ⟨h.1.unit (f := 2) (by decide) (by show gSt s u - m ≤ 9; omega), h.2.str (fun c h6 h8 => up_cell h8) (fun v hv => up_slot hv) up_same (fun k hk => by rw [up_cell (by decide)]) ?_⟩
      rw [up_cell (by decide), h.pres]
      refine sI_congr fun v _ => ?_
      rw [gU_up (by omega) hlt]
      by_cases e : v = u
      · subst e
        rw [if_pos rfl, hu, decide_eq_true (by omega)]
      · rw [if_neg e]
    have key := H _ (Fr.rf.upI (a := 8) (k := u) (x := Int32.ofNat (gSt s u - m)) (by decide)) (by
      unfold gWeak
      rw [hmin, if_neg hgt, show s (197 + 4 * gSd s u + 3) + Int32.ofNat 0 = s (197 + 4 * gSd s u + 3) from Int32.add_zero _]
      refine ⟨hR.1.low (by omega), ?_⟩
      have := hR.2.acc (j := 3) (d := gSd s u) (x := s (197 + 4 * gSd s u + 3)) (by decide) (by omega)
      have e13 : e_up I 8 u (Int32.ofNat (gSt s u - m)) (10 + 3) (gSd s u) = s (197 + 4 * gSd s u + 3) := by
        rw [up_cell (by decide)]
        exact (h.2.2.2.2.2.2.1 (gSd s u) (by omega)).2.2.2
      rw [up_id e13] at this
      exact this)
    rw [hmin] at key
    exact key
theorem gLose_weak {u m a : Nat} (hsd : gSd s u ≤ 1) (ha : a < 3) : gLose s u m a = gset (gWeak s u m) (197 + 4 * gSd s u + a) (s (197 + 4 * gSd s u + a) + Int32.ofNat (min m (gSt s u))) := by
  unfold gLose gWeak
  funext j
  unfold gset
  by_cases h1 : j = 197 + 4 * gSd s u + 3
  · rw [if_pos h1, if_neg (show ¬ j = 197 + 4 * gSd s u + a by omega), if_pos h1]
  · rw [if_neg h1, if_neg h1]
theorem s_loseInAttack {Ψ : e_TI → e_TL → e_TD → Prop} (h : GR I L s) {u m : Nat} (hu : gU s u = true) (hm9 : m < 1000) (H : ∀ I', Fr 2 14 I L I' L → GR I' L (gLose s u m 1) → Ψ I' L D) : e_M 167 [.ref 6, .int (Int32.ofNat u), .int (Int32.ofNat m)] (S0 I L D sc) (e_rV sc Ψ) := by
  have hlt := gU_lt hu
  have hsd := h.sd hlt
  refine vU_loseInAttack (s_sideOf h hlt (s_weaken h hu hm9 (fun I1 hF1 h1 => s_increase_11 (by omega) ?_)))
  have e11 : I1 11 (gSd s u) = s (197 + 4 * gSd s u + 1) := by
    have := (h1.2.2.2.2.2.2.1 (gSd s u) (by omega)).2.1
    rw [show I1 (2 + 9) = I1 11 from rfl] at this
    rw [this]
    unfold gWeak
    rw [gset_ne (by omega), gset_ne (by omega)]
  rw [e11]
  refine H _ (hF1.upI (by decide)) ?_
  rw [gLose_weak hsd (by decide)]
  exact ⟨h1.1.low (by omega), h1.2.acc (j := 1) (by decide) (by omega)⟩
theorem s_loseUnsupplied {Ψ : e_TI → e_TL → e_TD → Prop} (h : GR I L s) {u m : Nat} (hu : gU s u = true) (hm9 : m < 1000) (H : ∀ I', Fr 2 14 I L I' L → GR I' L (gLose s u m 2) → Ψ I' L D) : e_M 54 [.ref 6, .int (Int32.ofNat u), .int (Int32.ofNat m)] (S0 I L D sc) (e_rV sc Ψ) := by
  have hlt := gU_lt hu
  have hsd := h.sd hlt
  refine vU_loseUnsupplied (s_sideOf h hlt (s_weaken h hu hm9 (fun I1 hF1 h1 => s_increase_12 (by omega) ?_)))
  have e12 : I1 12 (gSd s u) = s (197 + 4 * gSd s u + 2) := by
    have := (h1.2.2.2.2.2.2.1 (gSd s u) (by omega)).2.2.1
    rw [show I1 (2 + 10) = I1 12 from rfl] at this
    rw [this]
    unfold gWeak
    rw [gset_ne (by omega), gset_ne (by omega)]
  rw [e12]
  refine H _ (hF1.upI (by decide)) ?_
  rw [gLose_weak hsd (by decide)]
  exact ⟨h1.1.low (by omega), h1.2.acc (j := 2) (by decide) (by omega)⟩
/-- who is there behind a loss -/
theorem gLose_U {u m a v : Nat} (hu : gU s u = true) (hsd : gSd s u ≤ 1) (h9 : gSt s u ≤ 9) (ha : a < 3) (hv : v ≠ u) : gU (gLose s u m a) v = gU s v := by
  unfold gLose
  rw [gU_low (by omega) (by omega), gU_low (by omega) (by omega), gU_up (by omega) (gU_lt hu), if_neg hv]
end
/-- the units below n of a set, one after the other -/
def gEach (f : Nat → (Nat → Int32) → (Nat → Int32)) (q : Nat → Bool) : Nat → (Nat → Int32) → (Nat → Int32)
  | 0, s => s
  | n + 1, s => if q n then f n (gEach f q n s) else gEach f q n s
def gLoseAll (s : Nat → Int32) (q : Nat → Bool) : Nat → Int32 := gEach (fun u s => gLose s u 1 1) q 16 s
section
variable {I : e_TI} {L : e_TL} {D : e_TD} {sc : e_TS} {s : Nat → Int32}
theorem s_loseEach {Ψ : e_TI → e_TL → e_TD → Prop} (h : GR I L s) {q : Nat → Bool} (hq : ∀ u, q u = true → gU s u = true) (H : ∀ I', Fr 2 14 I L I' L → GR I' L (gLoseAll s q) → Ψ I' L D) : e_M 168 [.ref 1, .int (sI q)] (S0 I L D sc) (e_rV sc Ψ) := by
  refine vP_loseEach ?_
  have key : ∀ i, i ≤ 16 → ∀ I', Fr 2 14 I L I' L → GR I' L (gEach (fun u s => gLose s u 1 1) q i s) → (∀ v, i ≤ v → q v = true → gU (gEach (fun u s => gLose s u 1 1) q i s) v = true) → e_Wp 168 2 [some (.ref 1), some (.int (sI q)), some (.int (Int32.ofNat i))] [] (S0 I' L D sc) 0 0 (e_rV sc Ψ) := by
    refine e_downInd 16 (fun i hi ih I' hF hR hv => ?_) (fun I' hF hR _ => vP_loseEach_p2 (bx_t (b_self 16) (H I' hF hR)))
    refine vP_loseEach_p2 (bx_f (b_ge hi) (s_uhas (by omega) (bx_b (fun h0 => ?_) (fun h1 => ?_))))
    · rw [o_s]
      have e : gEach (fun u s => gLose s u 1 1) q (i + 1) s = gEach (fun u s => gLose s u 1 1) q i s := by
        show (if q i then _ else _) = _
        rw [h0]
        rfl
      refine ih I' hF (by rw [e]; exact hR) (fun v h2 h3 => ?_)
      rw [e]
      exact hv v (by omega) h3
    · have e : gEach (fun u s => gLose s u 1 1) q (i + 1) s = gLose (gEach (fun u s => gLose s u 1 1) q i s) i 1 1 := by
        show (if q i then _ else _) = _
        rw [h1]
        rfl
      have hu := hv i (Nat.le_refl _) h1
      refine s_loseInAttack hR hu (by decide) (fun I2 hF2 hR2 => ?_)
      rw [o_s]
      refine ih I2 (hF.tr hF2) (by rw [e]; exact hR2) (fun v h2 h3 => ?_)
      rw [e, gLose_U hu (hR.sd (gU_lt hu)) (hR.st (gU_lt hu)).2 (by decide) (by omega)]
      exact hv v (by omega) h3
  exact key 0 (by omega) I Fr.rf h (fun v _ h3 => hq v h3)
end
