/-! the reference: an end of a turn -/
theorem addSubI (a b : Int32) : (a + b) - a = b := by rw [Int32.add_comm, Int32.add_sub_cancel]
theorem ge3 (x : Int32) : (3 ≤ x ↔ 2 < x) ∧ (5 ≤ x ↔ 4 < x) := by
  rw [Int32.le_iff_toInt_le, Int32.lt_iff_toInt_lt, Int32.le_iff_toInt_le, Int32.lt_iff_toInt_lt]
  have e2 : (2 : Int32).toInt = 2 := by decide
  have e3 : (3 : Int32).toInt = 3 := by decide
  have e4 : (4 : Int32).toInt = 4 := by decide
  have e5 : (5 : Int32).toInt = 5 := by decide
  rw [e2, e3, e4, e5]
  omega
def gClr (s : Nat → Int32) (i : Nat) : Nat → Int32 := fun j => if 205 ≤ j ∧ 4 ≤ (j - 205) % 6 ∧ (j - 205) / 6 < i then 0 else s j
theorem gClr_0 (s : Nat → Int32) : gClr s 0 = s := by
  funext j
  unfold gClr
  rw [if_neg (fun h => Nat.not_lt_zero _ h.2.2)]
theorem gClr_ok {s : Nat → Int32} {i j : Nat} (h : j < 205 ∨ (j - 205) % 6 < 4) : gClr s i j = s j := by
  unfold gClr
  rw [if_neg (by omega)]
theorem gClr_set {s : Nat → Int32} {i k : Nat} {x : Int32} (h : k < 205 ∨ (k - 205) % 6 < 4) : gClr (gset s k x) i = gset (gClr s i) k x := by
  funext j
  by_cases e : j = k
  · rw [e, gset_eq, gClr_ok h, gset_eq]
  · rw [gset_ne e]
    unfold gClr
    rw [gset_ne e]
theorem gClr_gn {s : Nat → Int32} {i j : Nat} (h : j < 205 ∨ (j - 205) % 6 < 4) : gn (gClr s i) j = gn s j := by
  unfold gn
  rw [gClr_ok h]
theorem gClr_ma (s : Nat → Int32) (i : Nat) : gMa (gClr s i) = gMa s := gClr_gn (by decide)
theorem gClr_sd (s : Nat → Int32) (i v : Nat) : gSd (gClr s i) v = gSd s v := gClr_gn (by omega)
theorem gClr_st (s : Nat → Int32) (i v : Nat) : gSt (gClr s i) v = gSt s v := gClr_gn (by omega)
theorem gClr_lose {s : Nat → Int32} {i v m a : Nat} (hsd : gSd s v ≤ 1) (ha : a < 3) : gLose (gClr s i) v m a = gClr (gLose s v m a) i := by
  unfold gLose
  rw [gClr_set (by omega), gClr_set (by omega), gClr_set (by omega), gClr_sd, gClr_st, gClr_ok (by omega), gClr_ok (by omega)]
theorem gClr_s (s : Nat → Int32) (i : Nat) : gset (gset (gClr s i) (205 + 6 * i + 4) 0) (205 + 6 * i + 5) 0 = gClr s (i + 1) := by
  funext j
  by_cases e5 : j = 205 + 6 * i + 5
  · rw [e5, gset_eq]
    unfold gClr
    rw [if_pos (by omega)]
  · by_cases e4 : j = 205 + 6 * i + 4
    · rw [e4, gset_ne (by omega), gset_eq]
      unfold gClr
      rw [if_pos (by omega)]
    · rw [gset_ne e5, gset_ne e4]
      unfold gClr
      by_cases h : 205 ≤ j ∧ 4 ≤ (j - 205) % 6 ∧ (j - 205) / 6 < i
      · rw [if_pos h, if_pos (by omega)]
      · rw [if_neg h, if_neg (by omega)]
theorem gok.clr {s : Nat → Int32} (hk : gok s) (i : Nat) : gok (gClr s i) := by
  refine hk.marks (fun j hj => gClr_ok hj) (fun j h1 h2 => ?_)
  unfold gClr
  by_cases h : 205 ≤ j ∧ 4 ≤ (j - 205) % 6 ∧ (j - 205) / 6 < i
  · rw [if_pos h]
    exact Or.inr (Or.inl rfl)
  · rw [if_neg h]
    exact Or.inl rfl
theorem countP_one {p q : Nat → Bool} {n : Nat} (hp : p n = true) (hq : ∀ v, v ≠ n → q v = p v) : ∀ m, n < m → (List.range m).countP q + (if q n = true then 0 else 1) = (List.range m).countP p := by
  have same : ∀ m, m ≤ n → (List.range m).countP q = (List.range m).countP p := by
    intro m
    induction m with
    | zero => exact fun _ => rfl
    | succ m ih =>
      intro hm
      rw [countP_s, countP_s, ih (by omega), hq m (by omega)]
  intro m
  induction m with
  | zero => exact fun h => absurd h (Nat.not_lt_zero _)
  | succ m ih =>
    intro hm
    rw [countP_s, countP_s]
    by_cases e : n = m
    · subst e
      rw [same n (Nat.le_refl _), hp, if_pos rfl]
      split <;> omega
    · rw [hq m (Ne.symm e)]
      have := ih (by omega)
      omega
/-- losses of supply, one after the other -/
theorem gEach_stv {s : Nat → Int32} (hk : gok s) {d : Nat} (hd : d ≤ 1) {q : Nat → Bool} (hq : ∀ v, q v = true → gOwn s d v = true) : ∀ n, gok (gEach (fun u s => gLose s u 1 2) q n s) ∧ gMa (gEach (fun u s => gLose s u 1 2) q n s) = gMa s ∧ (∀ v, n ≤ v → gU (gEach (fun u s => gLose s u 1 2) q n s) v = gU s v) ∧ (∀ v, gSd (gEach (fun u s => gLose s u 1 2) q n s) v = gSd s v) ∧ (∀ j, j = 189 ∨ j = 191 ∨ j = 192 ∨ j = 193 → gEach (fun u s => gLose s u 1 2) q n s j = s j) ∧ ∃ r, gEach (fun u s => gLose s u 1 2) q n s (197 + 4 * d + 3) = s (197 + 4 * d + 3) + Int32.ofNat r ∧ (List.range 16).countP (gU (gEach (fun u s => gLose s u 1 2) q n s)) + r = (List.range 16).countP (gU s) := by
  intro n
  induction n with
  | zero => exact ⟨hk, rfl, fun _ _ => rfl, fun _ => rfl, fun _ _ => rfl, 0, (addI0 _).symm, rfl⟩
  | succ n ih =>
    cases hqn : q n with
    | false =>
      rw [gEach_s0 hqn]
      obtain ⟨a1, a2, a3, a4, a5, a6⟩ := ih
      exact ⟨a1, a2, fun v hv => a3 v (by omega), a4, a5, a6⟩
    | true =>
      rw [gEach_s1 hqn]
      obtain ⟨a1, a2, a3, a4, a5, r, a6, a7⟩ := ih
      obtain ⟨E, hE⟩ : ∃ E, gEach (fun u s => gLose s u 1 2) q n s = E := ⟨_, rfl⟩
      rw [hE] at a1 a2 a3 a4 a5 a6 a7 ⊢
      have hown := hq n hqn
      have hU : gU E n = true := by rw [a3 n (Nat.le_refl _)]; exact gOwn_U hown
      have hsd : gSd E n = d := by
        rw [a4]
        unfold gOwn at hown
        exact beq_iff_eq.mp (Bool.and_eq_true _ _ ▸ hown).2
      have hlt := gU_lt hU
      have hst : gSt E n ≤ 9 := (a1.2.2.2.2.2 n hlt).2.2.1.2
      have hn16 : n < 16 := by
        have : gMa E ≤ 16 := a1.2.2.2.2.1.2
        omega
      have hUn : gU (gLose E n 1 2) n = decide (0 < gSt E n - min 1 (gSt E n)) := by
        unfold gLose
        rw [gU_low (by omega) (by omega), gU_low (by omega) (by omega), gU_up (by omega) hlt, if_pos rfl]
      have hpos := gU_pos hU
      refine ⟨a1.lose hlt (by decide) (by decide), by rw [gLose_ma (by omega) (by decide)]; exact a2, fun v hv => ?_, fun v => ?_, fun j hj => ?_, r + (if gSt E n ≤ 1 then 1 else 0), ?_, ?_⟩
      · rw [gLose_U hU (by omega) hst (by decide) (by omega)]
        exact a3 v (by omega)
      · rw [← a4 v]
        unfold gLose
        rw [gSd_low (by omega), gSd_low (by omega)]
        unfold gSd
        exact gn_ne (by omega)
      · rw [← a5 j hj]
        unfold gLose
        rw [gset_ne (by omega), gset_ne (by omega), gset_ne (by omega)]
      · unfold gLose
        rw [hsd, gset_eq, a6, Int32.add_assoc, o_add]
      · rw [← a7]
        have c1 := countP_one (p := gU E) (q := gU (gLose E n 1 2)) hU (fun v hv => gLose_U hU (by omega) hst (by decide) hv) 16 hn16
        rw [hUn] at c1
        by_cases h1 : gSt E n ≤ 1
        · rw [decide_eq_false (show ¬ 0 < gSt E n - min 1 (gSt E n) by omega), if_neg (by decide)] at c1
          rw [if_pos h1]
          omega
        · rw [decide_eq_true (show 0 < gSt E n - min 1 (gSt E n) by omega), if_pos rfl] at c1
          rw [if_neg h1]
          omega
section
variable {I I' : e_TI} {L L' : e_TL} {D : e_TD} {sc : e_TS} {s : Nat → Int32} {w : Wd}
theorem FQ.fm (h : FQ I L I' L') : Fr 139 148 I L I' L' := fun c hc => h.1 c (by omega) (by omega) (by omega) (by omega) (by omega)
theorem FC.fm (h : FC I I') : Fr 139 148 I L I' L := fun c hc => ⟨h.1 c (by omega) (by omega), rfl⟩
theorem MW.thr (h : MW I w) {x : Int32} : MW (e_up I 139 5 x) w := h.q (L := fun _ _ => 0) (L' := fun _ _ => 0) (FQ.rf.thr) (by rw [up_cell (by decide)]; exact h.1)
theorem gPass_cnt (X : Nat → Int32) : gU (gPass X) = gU X := by
  have gs : ∀ j, j = 196 ∨ (205 ≤ j ∧ (j - 205) % 6 < 4) → gn (gPass X) j = gn X j := by
    intro j hj
    unfold gn gPass gBeg
    split
    · rw [gset_ne (by omega), gset_ne (by omega), gset_ne (by omega), gset_ne (by omega), if_neg (by omega)]
    · rw [gset_ne (by omega), if_neg (by omega)]
  funext v
  unfold gU gMa gSt
  rw [gs 196 (Or.inl rfl), gs _ (Or.inr (by omega))]
theorem s_M_endTurn {Ψ : Int32 → e_TI → e_TL → e_TD → Prop} (h : MW I w) (hk : gok (wG w)) (H : ∀ I' L', Fr 139 148 I L I' L' → MW I' (wCh w (gPass (gStvS (wG w)))) → I' 139 5 = 0 → Ψ (aEndTurn (wG w) (gPass (gStvS (wG w)))) I' L' D) : e_M 294 [.ref 139] (S0 I L D sc) (e_rI sc Ψ) := by
  refine vM_endTurn (s_M_change h.thr (fun I1 hF1 h1 => ?_))
  have hR1 : MR I1 (wG w) := ⟨hk, h1.1⟩
  have hma := hR1.ma
  obtain ⟨t1, t2⟩ := hR1.tu
  have thr1 : I1 139 5 = 0 := by rw [hF1.2 5 (by decide), up_same]
  have Q0 : Fr 139 148 I L I1 L := (Fr.rf.upI (by decide)).tr hF1.fm
  have ei : ((197 : Int32) + (4 * Int32.ofNat (gTu (wG w)))) + 3 = Int32.ofNat (197 + 4 * gTu (wG w) + 3) := by
    rw [show (197 : Int32) = Int32.ofNat 197 from rfl, show (4 : Int32) = Int32.ofNat 4 from rfl, show (3 : Int32) = Int32.ofNat 3 from rfl, o_mul, o_add, o_add]
  obtain ⟨s, hs⟩ : ∃ s, wG w = s := ⟨_, rfl⟩
  have hw1 : ∀ {I' L' g}, FQ I1 L I' L' → I' 140 = g → MW I' (wCh w g) := fun hQ hg => h1.q hQ hg
  rw [hs] at hR1 hma t1 t2 ei H hk
  rw [t1, ei, o_ix (a := 197 + 4 * gTu s + 3) (by omega), show I1 140 = s from hR1.2]
  refine ⟨o_in (by omega), ?_⟩
  -- who starves
  have main : ∀ I2, Fr 143 144 I1 L I2 L → e_Wp 294 90 [some (.ref 139), some (.int (Int32.ofNat (gTu s))), some (.int (s (197 + 4 * gTu s + 3))), some (.int (sI (gStv s))), some (.int 0)] [] (S0 I2 L D sc) 0 0 (e_rI sc Ψ) := by
    intro I2 hF2
    have hR2 := hR1.fr hF2 (by decide)
    have hq : ∀ v, gStv s v = true → gOwn s (gTu s) v = true := fun v hv => by
      unfold gStv at hv
      exact (Bool.and_eq_true _ _ ▸ hv).1
    have each := gEach_stv hk t2 hq
    have loop : ∀ i, i ≤ gMa s → ∀ I3, FrO I2 I3 → I3 140 = gClr (gEach (fun u s => gLose s u 1 2) (gStv s) i s) i → e_Wp 294 90 [some (.ref 139), some (.int (Int32.ofNat (gTu s))), some (.int (s (197 + 4 * gTu s + 3))), some (.int (sI (gStv s))), some (.int (Int32.ofNat i))] [] (S0 I3 L D sc) 0 0 (e_rI sc Ψ) := by
      refine e_downInd (G := fun i => ∀ I3, FrO I2 I3 → I3 140 = gClr (gEach (fun u s => gLose s u 1 2) (gStv s) i s) i → e_Wp 294 90 [some (.ref 139), some (.int (Int32.ofNat (gTu s))), some (.int (s (197 + 4 * gTu s + 3))), some (.int (sI (gStv s))), some (.int (Int32.ofNat i))] [] (S0 I3 L D sc) 0 0 (e_rI sc Ψ)) (gMa s) (fun i hi ih I3 hF3 hrow => ?_) (fun I3 hF3 hrow => ?_)
      · obtain ⟨a1, a2, a3, a4, a5, a6⟩ := each i
        have hR3 : MR I3 (gClr (gEach (fun u s => gLose s u 1 2) (gStv s) i s) i) := ⟨a1.clr i, hrow⟩
        have hm3 : gMa (gClr (gEach (fun u s => gLose s u 1 2) (gStv s) i s) i) = gMa s := by rw [gClr_ma, a2]
        have hgo := hR3.go (i := i) (by rw [hm3]; exact hi)
        refine vM_endTurn_p90 (bx_f hgo ⟨fun hn => s_M_unitAt 4 ?_, fun he => ?_⟩)
        · rw [sI_sar _ i (by omega), Bool.not_eq_true] at hn
          rw [o_ix (a := 205 + 6 * i + 4) (by omega)]
          refine ⟨o_in (by omega), s_M_unitAt 5 ?_⟩
          rw [o_ix (a := 205 + 6 * i + 5) (by omega), o_s]
          refine ⟨o_in (by omega), ih _ hF3.up.up ?_⟩
          rw [row_up (row_up hrow _ _), gClr_s, gEach_s0 hn]
        · rw [Classical.not_not, sI_sar _ i (by omega)] at he
          have hsd : gSd (gEach (fun u s => gLose s u 1 2) (gStv s) i s) i ≤ 1 := by
            rw [a4]
            exact hR1.sd hi
          refine s_M_lose hR3 (u := i) (m := 1) (a := 2) (by rw [hm3]; exact hi) (by decide) (by decide) (by decide) (fun I4 hF4 h4 => s_M_unitAt 4 ?_)
          rw [o_ix (a := 205 + 6 * i + 4) (by omega)]
          refine ⟨o_in (by omega), s_M_unitAt 5 ?_⟩
          rw [o_ix (a := 205 + 6 * i + 5) (by omega), o_s]
          refine ⟨o_in (by omega), ih _ (hF3.tr hF4).up.up ?_⟩
          have hrow4 := h4.2
          rw [gClr_lose hsd (by decide)] at hrow4
          rw [row_up (row_up hrow4 _ _), gClr_s, gEach_s1 he]
      · obtain ⟨a1, a2, a3, a4, a5, r, a6, a7⟩ := each (gMa s)
        have hend : I3 140 196 ≤ Int32.ofNat (gMa s) := by
          have hR3 : MR I3 (gClr (gEach (fun u s => gLose s u 1 2) (gStv s) (gMa s) s) (gMa s)) := ⟨a1.clr _, hrow⟩
          have := hR3.end
          rwa [gClr_ma, a2] at this
        have eS : gEach (fun u s => gLose s u 1 2) (gStv s) (gMa s) s = gStvS s := by
          unfold gStvS
          rw [gEach_up (n := gMa s) (fun v hv => by
            cases hqv : gStv s v with
            | false => rfl
            | true => exact absurd (gU_lt (gOwn_U (hq v hqv))) (by omega)) 16 hma]
        rw [eS] at a1 a2 a5 a6 a7 hrow
        have eB : gClr (gStvS s) (gMa s) = gBeg (gStvS s) := by
          rw [← a2]
          rfl
        rw [eB] at hrow
        have eT : gTu (gStvS s) = gTu s := by
          unfold gTu gn
          rw [a5 191 (by decide)]
        have lo : ∀ j, j < 205 → gBeg (gStvS s) j = gStvS s j := fun j hj => by
          unfold gBeg
          rw [if_neg (by omega)]
        have eA : aEndTurn s (gPass (gStvS s)) = Int32.ofNat r := by
          unfold aEndTurn
          rw [gPass_cnt, o_sub (by omega)]
          congr 1
          omega
        rw [eA] at H
        have Q3 : FQ I1 L I3 L := (FQ.sup hF2).tr (FQ.row hF3)
        have thr3 : I3 139 5 = 0 := by rw [hF3 139 (by decide), (hF2 139 (by decide)).1]; exact thr1
        have fin : ∀ I4, FrO I3 I4 → I4 140 = gPass (gStvS s) → Ψ (Int32.ofNat r) I4 L D := fun I4 hF4 hr4 => by
          have Q4 := Q3.tr (FQ.row (L := L) hF4)
          exact H I4 L (Q0.tr Q4.fm) (hw1 Q4 hr4) (by rw [hF4 139 (by decide)]; exact thr3)
        refine vM_endTurn_p90 (bx_t hend ?_)
        rw [ei, o_ix (a := 197 + 4 * gTu s + 3) (by omega)]
        have acc : ∀ J : e_TI, J 140 (197 + 4 * gTu s + 3) = gStvS s (197 + 4 * gTu s + 3) → J 140 (197 + 4 * gTu s + 3) - s (197 + 4 * gTu s + 3) = Int32.ofNat r := fun J hJ => by rw [hJ, a6, addSubI]
        have v192 : I3 140 192 = gStvS s 192 := by rw [hrow, lo 192 (by decide)]
        have v193 : I3 140 193 = gStvS s 193 := by rw [hrow, lo 193 (by decide)]
        refine ⟨fun hn => ⟨o_in (by omega), ?_⟩, fun he => ?_⟩
        · have hT0 : gTu s = 0 := by
            have : gTu s ≠ 1 := fun e => hn (by rw [e]; rfl)
            omega
          rw [acc _ (by rw [up_slot (by omega), hrow, lo _ (by omega)])]
          refine fin _ FrO.rf.up ?_
          rw [row_up hrow]
          unfold gPass
          rw [eT, hT0, if_neg (by decide)]
          rfl
        · have hT1 : gTu s = 1 := (o_eq (b := 1) (by omega) (by decide)).mp (Classical.not_not.mp he)
          have row4 : ∀ x, (e_up (e_up (e_up (e_up I3 140 191 (1 - Int32.ofNat (gTu s))) 140 192 ((I3 140 192) + 1)) 140 193 (((I3 140 193) * 1103515245) + 12345)) 140 189 x) 140 = gset (gset (gset (gset (gBeg (gStvS s)) 191 0) 192 (gStvS s 192 + 1)) 193 (gStvS s 193 * 1103515245 + 12345)) 189 x := fun x => by
            rw [row_up (row_up (row_up (row_up hrow _ _) _ _) _ _), v192, v193, hT1]
            rfl
          have eP : gPass (gStvS s) = gset (gset (gset (gset (gBeg (gStvS s)) 191 0) 192 (gStvS s 192 + 1)) 193 (gStvS s 193 * 1103515245 + 12345)) 189 (Int32.ofNat (gWth (gStvS s 193 * 1103515245 + 12345))) := by
            unfold gPass
            rw [eT, hT1, if_pos rfl]
          have g3 := ge3 (dI (I3 140 193 * 1103515245 + 12345))
          refine ⟨fun h3 => ⟨fun h5 => ⟨o_in (by omega), ?_⟩, fun h5 => ⟨o_in (by omega), ?_⟩⟩, fun h3 => ⟨o_in (by omega), ?_⟩⟩
          · rw [acc _ (by rw [row4, gset_ne (by omega), gset_ne (by omega), gset_ne (by omega), gset_ne (by omega), lo _ (by omega)])]
            refine fin _ FrO.rf.up.up.up.up ?_
            rw [row4, eP, ← v193]
            unfold gWth
            rw [if_pos (g3.1.mp h3), if_pos (g3.2.mp h5)]
            rfl
          · rw [acc _ (by rw [row4, gset_ne (by omega), gset_ne (by omega), gset_ne (by omega), gset_ne (by omega), lo _ (by omega)])]
            refine fin _ FrO.rf.up.up.up.up ?_
            rw [row4, eP, ← v193]
            unfold gWth
            rw [if_pos (g3.1.mp h3), if_neg (fun hh => h5 (g3.2.mpr hh))]
            rfl
          · rw [acc _ (by rw [row4, gset_ne (by omega), gset_ne (by omega), gset_ne (by omega), gset_ne (by omega), lo _ (by omega)])]
            refine fin _ FrO.rf.up.up.up.up ?_
            rw [row4, eP, ← v193]
            unfold gWth
            rw [if_neg (fun hh => h3 (g3.1.mpr hh))]
            rfl
    exact loop 0 (Nat.zero_le _) I2 FrO.rf (by rw [gClr_0]; exact hR2.2)
  refine loop_I (G := fun y i => ∀ I2, Fr 143 144 I1 L I2 L → e_Wp 294 38 [some (.ref 139), some (.int (Int32.ofNat (gTu s))), some (.int (s (197 + 4 * gTu s + 3))), some (.int y), some (.int i)] [] (S0 I2 L D sc) 0 0 (e_rI sc Ψ)) (fun v x => gStv s v && v == x) (gMa s) (fun i y hi K0 K1 I2 hF2 => ?_) (fun I2 hF2 => ?_) I1 Fr.rf
  · have hR2 := hR1.fr hF2 (by decide)
    have k0 : gStv s i = false → ∀ I3, Fr 143 144 I1 L I3 L → e_Wp 294 38 [some (.ref 139), some (.int (Int32.ofNat (gTu s))), some (.int (s (197 + 4 * gTu s + 3))), some (.int (y ||| 0)), some (.int (Int32.ofNat i + 1))] [] (S0 I3 L D sc) 0 0 (e_rI sc Ψ) := fun h0 I3 hF3 => by
      rw [orI0]
      exact K0 (fun v _ => by rw [h0, Bool.false_and]) I3 hF3
    refine vM_endTurn_p38 (bx_f (hR2.go hi) (s_M_isOf hR2 (by omega) t2 (bx_b (fun h0 => k0 ?_ I2 hF2) (fun h1 => s_M_isSupplied hR2 hi (fun I3 hF3 => bx_n (fun h2 => k0 ?_ I3 (hF2.tr hF3)) (fun h2 => ?_))))))
    · unfold gStv
      rw [h0, Bool.false_and]
    · unfold gStv
      rw [h2, Bool.not_true, Bool.and_false]
    · rw [sI_only i (by omega)]
      refine K1 _ (fun v _ => ?_) I3 (hF2.tr hF3)
      unfold gStv
      rw [h1, h2, Bool.not_false, Bool.true_and, Bool.true_and]
      exact BEq.comm
  · have hR2 := hR1.fr hF2 (by decide)
    refine vM_endTurn_p38 (bx_t hR2.end ?_)
    rw [gather_I (gStv s), sI_congr (q := gStv s)]
    · exact main I2 hF2
    · intro v _
      cases hv : gStv s v with
      | false => rw [Bool.and_false]
      | true =>
        have : gOwn s (gTu s) v = true := by
          unfold gStv at hv
          exact (Bool.and_eq_true _ _ ▸ hv).1
        rw [decide_eq_true (gU_lt (gOwn_U this)), Bool.true_and]
end
