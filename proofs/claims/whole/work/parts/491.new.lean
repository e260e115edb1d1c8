/-! a unit added, a new game -/
def gAdd (s : Nat → Int32) (d c n m : Nat) : Nat → Int32 :=
  gset (gset (gset (gset (gset (gset (gset (gset s (205 + 6 * gMa s) (Int32.ofNat d)) (205 + 6 * gMa s + 1) (Int32.ofNat c)) (205 + 6 * gMa s + 2) (Int32.ofNat n)) (205 + 6 * gMa s + 3) (Int32.ofNat m)) (205 + 6 * gMa s + 4) 0) (205 + 6 * gMa s + 5) 0) 196 (Int32.ofNat (gMa s + 1))) (197 + 4 * d) (s (197 + 4 * d) + Int32.ofNat n)
def gNew (z : Int32) : Nat → Int32 := fun j => if j = 190 then 10 else if j = 193 then z else 0
section
variable {s : Nat → Int32} {d c n m : Nat}
theorem gAdd_at (hd : d ≤ 1) (j : Nat) : gAdd s d c n m j = if j = 196 then Int32.ofNat (gMa s + 1) else if j = 197 + 4 * d then s j + Int32.ofNat n else if j = 205 + 6 * gMa s then Int32.ofNat d else if j = 205 + 6 * gMa s + 1 then Int32.ofNat c else if j = 205 + 6 * gMa s + 2 then Int32.ofNat n else if j = 205 + 6 * gMa s + 3 then Int32.ofNat m else if j = 205 + 6 * gMa s + 4 then 0 else if j = 205 + 6 * gMa s + 5 then 0 else s j := by
  unfold gAdd
  by_cases h1 : j = 196
  · subst h1; rw [if_pos rfl, gset_ne (by omega), gset_eq]
  by_cases h2 : j = 197 + 4 * d
  · subst h2; rw [if_neg h1, if_pos rfl, gset_eq]
  by_cases k0 : j = 205 + 6 * gMa s
  · subst k0; rw [if_neg (by omega), if_neg (by omega), if_pos rfl, gset_ne (by omega), gset_ne (by omega), gset_ne (by omega), gset_ne (by omega), gset_ne (by omega), gset_ne (by omega), gset_ne (by omega), gset_eq]
  by_cases k1 : j = 205 + 6 * gMa s + 1
  · subst k1; rw [if_neg (by omega), if_neg (by omega), if_neg (by omega), if_pos rfl, gset_ne (by omega), gset_ne (by omega), gset_ne (by omega), gset_ne (by omega), gset_ne (by omega), gset_ne (by omega), gset_eq]
  by_cases k2 : j = 205 + 6 * gMa s + 2
  · subst k2; rw [if_neg (by omega), if_neg (by omega), if_neg (by omega), if_neg (by omega), if_pos rfl, gset_ne (by omega), gset_ne (by omega), gset_ne (by omega), gset_ne (by omega), gset_ne (by omega), gset_eq]
  by_cases k3 : j = 205 + 6 * gMa s + 3
  · subst k3; rw [if_neg (by omega), if_neg (by omega), if_neg (by omega), if_neg (by omega), if_neg (by omega), if_pos rfl, gset_ne (by omega), gset_ne (by omega), gset_ne (by omega), gset_ne (by omega), gset_eq]
  by_cases k4 : j = 205 + 6 * gMa s + 4
  · subst k4; rw [if_neg (by omega), if_neg (by omega), if_neg (by omega), if_neg (by omega), if_neg (by omega), if_neg (by omega), if_pos rfl, gset_ne (by omega), gset_ne (by omega), gset_ne (by omega), gset_eq]
  by_cases k5 : j = 205 + 6 * gMa s + 5
  · subst k5; rw [if_neg (by omega), if_neg (by omega), if_neg (by omega), if_neg (by omega), if_neg (by omega), if_neg (by omega), if_neg (by omega), if_pos rfl, gset_ne (by omega), gset_ne (by omega), gset_eq]
  rw [if_neg h1, if_neg h2, if_neg k0, if_neg k1, if_neg k2, if_neg k3, if_neg k4, if_neg k5, gset_ne (by omega), gset_ne (by omega), gset_ne (by omega), gset_ne (by omega), gset_ne (by omega), gset_ne (by omega), gset_ne (by omega), gset_ne (by omega)]
theorem gAdd_old (hd : d ≤ 1) {j : Nat} (h : j < 205 + 6 * gMa s) (h1 : j ≠ 196) (h2 : j ≠ 197 + 4 * d) : gAdd s d c n m j = s j := by
  rw [gAdd_at hd, if_neg h1, if_neg h2, if_neg (by omega), if_neg (by omega), if_neg (by omega), if_neg (by omega), if_neg (by omega), if_neg (by omega)]
theorem gAdd_oldn (hd : d ≤ 1) {j : Nat} (h : j < 205 + 6 * gMa s) (h1 : j ≠ 196) (h2 : j ≠ 197 + 4 * d) : gn (gAdd s d c n m) j = gn s j := by
  unfold gn
  rw [gAdd_old hd h h1 h2]
theorem gAdd_new (hd : d ≤ 1) (f : Nat) (hf : f < 6) : gAdd s d c n m (205 + 6 * gMa s + f) = Int32.ofNat (([d, c, n, m, 0, 0] : List Nat).getD f 0) := by
  rw [gAdd_at hd, if_neg (by omega), if_neg (by omega)]
  have h : f = 0 ∨ f = 1 ∨ f = 2 ∨ f = 3 ∨ f = 4 ∨ f = 5 := by omega
  rcases h with rfl | rfl | rfl | rfl | rfl | rfl
  · rw [if_pos (by omega)]; rfl
  · rw [if_neg (by omega), if_pos (by omega)]; rfl
  · rw [if_neg (by omega), if_neg (by omega), if_pos (by omega)]; rfl
  · rw [if_neg (by omega), if_neg (by omega), if_neg (by omega), if_pos (by omega)]; rfl
  · rw [if_neg (by omega), if_neg (by omega), if_neg (by omega), if_neg (by omega), if_pos (by omega)]; rfl
  · rw [if_neg (by omega), if_neg (by omega), if_neg (by omega), if_neg (by omega), if_neg (by omega), if_pos (by omega)]; rfl
theorem gAdd_newn (hd : d ≤ 1) {f : Nat} (hf : f < 6) (hb : ([d, c, n, m, 0, 0] : List Nat).getD f 0 < 1000) : gn (gAdd s d c n m) (205 + 6 * gMa s + f) = ([d, c, n, m, 0, 0] : List Nat).getD f 0 := by
  unfold gn
  rw [gAdd_new hd f hf, o_ix (by omega)]
theorem gAdd_ma (hd : d ≤ 1) (hm : gMa s < 16) : gMa (gAdd s d c n m) = gMa s + 1 := by
  unfold gMa gn
  rw [gAdd_at hd, if_pos rfl, o_ix (by omega)]
  rfl
theorem gok.add (hk : gok s) (hd : d ≤ 1) (hc : c < 63) (hn : n ≤ 9) (hm : m ≤ 12) (hma : gMa s < 16) : gok (gAdd s d c n m) := by
  have bs : ∀ j b, j < 205 + 6 * gMa s → j ≠ 196 → j ≠ 197 + 4 * d → gb s j b → gb (gAdd s d c n m) j b := fun j b h1 h2 h3 hb => by
    unfold gb at hb ⊢
    rw [gAdd_oldn hd h1 h2 h3, gAdd_old hd h1 h2 h3]
    exact hb
  obtain ⟨h1, h2, ⟨h3, h3'⟩, h4, h5, h6⟩ := hk
  refine ⟨fun a ha => ?_, bs _ _ (by omega) (by omega) (by omega) h2, ⟨bs _ _ (by omega) (by omega) (by omega) h3, ?_⟩, bs _ _ (by omega) (by omega) (by omega) h4, ?_, fun v hv => ?_⟩
  · obtain ⟨a1, a2, a3, a4⟩ := h1 a ha
    refine ⟨bs _ _ (by omega) (by omega) (by omega) a1, bs _ _ (by omega) (by omega) (by omega) a2, bs _ _ (by omega) (by omega) (by omega) a3, ?_⟩
    unfold gRd gTer at a4 ⊢
    rw [gAdd_oldn hd (by omega) (by omega) (by omega), gAdd_oldn hd (by omega) (by omega) (by omega)]
    exact a4
  · unfold gRg at h3' ⊢
    rw [gAdd_oldn hd (by omega) (by omega) (by omega)]
    exact h3'
  · have e := gAdd_ma (c := c) (n := n) (m := m) hd hma
    unfold gb
    unfold gMa at e
    rw [e]
    have hma' : gn s 196 < 16 := hma
    refine ⟨?_, by omega⟩
    rw [gAdd_at hd, if_pos rfl]
    rfl
  · rw [gAdd_ma hd hma] at hv
    by_cases e : v = gMa s
    · subst e
      have nb : ∀ f b, f < 6 → ([d, c, n, m, 0, 0] : List Nat).getD f 0 ≤ b → b < 1000 → gb (gAdd s d c n m) (205 + 6 * gMa s + f) b := fun f b hf hb hbb => by
        unfold gb
        rw [gAdd_newn hd hf (by omega), gAdd_new hd f hf]
        exact ⟨rfl, hb⟩
      exact ⟨nb 0 1 (by decide) hd (by decide), nb 1 62 (by decide) (by show c ≤ 62; omega) (by decide), nb 2 9 (by decide) hn (by decide), nb 3 12 (by decide) hm (by decide), nb 4 1 (by decide) (by show (0 : Nat) ≤ 1; decide) (by decide), nb 5 1 (by decide) (by show (0 : Nat) ≤ 1; decide) (by decide)⟩
    · obtain ⟨c0, c1, c2, c3, c4, c5⟩ := h6 v (by omega)
      exact ⟨bs _ _ (by omega) (by omega) (by omega) c0, bs _ _ (by omega) (by omega) (by omega) c1, bs _ _ (by omega) (by omega) (by omega) c2, bs _ _ (by omega) (by omega) (by omega) c3, bs _ _ (by omega) (by omega) (by omega) c4, bs _ _ (by omega) (by omega) (by omega) c5⟩
end
section
variable {I : e_TI} {L : e_TL} {D : e_TD} {sc : e_TS} {s : Nat → Int32}
theorem RC.add {I' : e_TI} (h : GR I L s) {d c n m : Nat} (hd : d ≤ 1) (hc : c < 63) (hn : 1 ≤ n) (hn9 : n ≤ 9) (hm : m ≤ 12) (hma : gMa s < 16)
    (h60 : I' 6 0 = Int32.ofNat (gMa s + 1)) (h61 : I' 6 1 = sI fun v => gU s v || v == gMa s) (h62 : I' 6 2 = if d = 1 then sI (fun v => (decide (v < gMa s) && gSd s v == 1) || v == gMa s) else I 6 2) (h63 : I' 6 3 = I 6 3) (h64 : I' 6 4 = I 6 4)
    (h7 : ∀ v, I' 7 v = if v = gMa s then Int32.ofNat c else I 7 v) (h8 : ∀ v, I' 8 v = if v = gMa s then Int32.ofNat n else I 8 v) (h9 : ∀ v, I' 9 v = if v = gMa s then Int32.ofNat m else I 9 v)
    (h10 : ∀ e, I' 10 e = if e = d then I 10 e + Int32.ofNat n else I 10 e) (hI : ∀ a, a = 2 ∨ a = 11 ∨ a = 12 ∨ a = 13 → I' a = I a) : RC 2 I' L (gAdd s d c n m) := by
  have e1 := gAdd_ma (c := c) (n := n) (m := m) hd hma
  have old : ∀ {j : Nat}, j < 205 + 6 * gMa s → j ≠ 196 → j ≠ 197 + 4 * d → gn (gAdd s d c n m) j = gn s j := fun h1 h2 h3 => gAdd_oldn hd h1 h2 h3
  obtain ⟨r1, r2, r3, r4, r9, r10, r11⟩ := id h.2
  have sdv : ∀ v, gSd (gAdd s d c n m) v = if v = gMa s then d else gSd (gAdd s d c n m) v := by
    intro v
    by_cases e : v = gMa s
    · rw [if_pos e]
      subst e
      exact gAdd_newn (f := 0) hd (by decide) (by show d < 1000; omega)
    · rw [if_neg e]
  refine h.2.of (fun t ht => ?_) (fun e he => ?_) ?_ ⟨?_, ?_, ?_, ?_, ?_⟩ (fun v hv => ?_) (fun e he => ?_) ?_
  · rw [r1 t ht]
    refine sL_congr fun a _ => ?_
    by_cases ha : a < 63
    · unfold gTer; rw [old (by omega) (by omega) (by omega)]
    · simp [ha]
  · rw [r2 e he]
    refine sL_congr fun a _ => ?_
    unfold gSrc
    by_cases ha : a < 63
    · rw [old (by omega) (by omega) (by omega)]
    · simp [ha]
  · rw [r3]
    refine sL_congr fun a _ => ?_
    unfold gRd
    by_cases ha : a < 63
    · rw [old (by omega) (by omega) (by omega)]
    · simp [ha]
  · show I' 6 0 = _
    rw [h60, gAdd_at hd, if_pos rfl]
  · show I' 6 1 = _
    rw [h61]
    refine sI_congr fun v _ => ?_
    unfold gU
    rw [e1]
    by_cases e : v = gMa s
    · subst e
      unfold gSt
      rw [gAdd_newn (f := 2) hd (by decide) (by show n < 1000; omega)]
      simp
      exact hn
    · by_cases hv : v < gMa s
      · unfold gSt
        rw [old (by omega) (by omega) (by omega), decide_eq_true hv, decide_eq_true (show v < gMa s + 1 by omega), beq_false_of_ne e, Bool.or_false]
      · rw [decide_eq_false hv, decide_eq_false (show ¬ v < gMa s + 1 by omega), beq_false_of_ne e, Bool.false_and, Bool.false_and, Bool.or_false]
  · show I' 6 2 = _
    rw [h62, e1]
    by_cases hd1 : d = 1
    · rw [if_pos hd1]
      refine sI_congr fun v _ => ?_
      by_cases e : v = gMa s
      · rw [sdv, if_pos e, hd1, e]
        simp
      · by_cases hv : v < gMa s
        · unfold gSd
          rw [old (by omega) (by omega) (by omega), decide_eq_true hv, decide_eq_true (show v < gMa s + 1 by omega), beq_false_of_ne e, Bool.or_false]
        · rw [decide_eq_false hv, decide_eq_false (show ¬ v < gMa s + 1 by omega), beq_false_of_ne e, Bool.false_and, Bool.false_and, Bool.or_false]
    · rw [if_neg hd1, h.sec]
      refine sI_congr fun v _ => ?_
      by_cases e : v = gMa s
      · rw [sdv, if_pos e, e, show d = 0 by omega]
        simp
      · by_cases hv : v < gMa s
        · unfold gSd
          rw [old (by omega) (by omega) (by omega), decide_eq_true hv, decide_eq_true (show v < gMa s + 1 by omega)]
        · rw [decide_eq_false hv, decide_eq_false (show ¬ v < gMa s + 1 by omega), Bool.false_and, Bool.false_and]
  · show I' 6 3 = _
    rw [h63, h.mvd, e1]
    refine sI_congr fun v _ => ?_
    unfold gMd
    by_cases e : v = gMa s
    · subst e
      rw [gAdd_newn (f := 4) hd (by decide) (by show (0 : Nat) < 1000; decide)]
      simp
    · by_cases hv : v < gMa s
      · rw [old (by omega) (by omega) (by omega), decide_eq_true hv, decide_eq_true (show v < gMa s + 1 by omega)]
      · rw [decide_eq_false hv, decide_eq_false (show ¬ v < gMa s + 1 by omega), Bool.false_and, Bool.false_and]
  · show I' 6 4 = _
    rw [h64, h.att, e1]
    refine sI_congr fun v _ => ?_
    unfold gAt
    by_cases e : v = gMa s
    · subst e
      rw [gAdd_newn (f := 5) hd (by decide) (by show (0 : Nat) < 1000; decide)]
      simp
    · by_cases hv : v < gMa s
      · rw [old (by omega) (by omega) (by omega), decide_eq_true hv, decide_eq_true (show v < gMa s + 1 by omega)]
      · rw [decide_eq_false hv, decide_eq_false (show ¬ v < gMa s + 1 by omega), Bool.false_and, Bool.false_and]
  · show I' 7 v = _ ∧ I' 8 v = _ ∧ I' 9 v = _
    rw [e1] at hv
    rw [h7, h8, h9]
    by_cases e : v = gMa s
    · subst e
      rw [if_pos rfl, if_pos rfl, if_pos rfl]
      exact ⟨(gAdd_new (f := 1) hd (by decide)).symm, (gAdd_new (f := 2) hd (by decide)).symm, (gAdd_new (f := 3) hd (by decide)).symm⟩
    · rw [if_neg e, if_neg e, if_neg e, gAdd_old hd (by omega) (by omega) (by omega), gAdd_old hd (by omega) (by omega) (by omega), gAdd_old hd (by omega) (by omega) (by omega)]
      exact r9 v (by omega)
  · show I' 10 e = _ ∧ I' 11 e = _ ∧ I' 12 e = _ ∧ I' 13 e = _
    obtain ⟨q1, q2, q3, q4⟩ := r10 e he
    rw [h10, hI 11 (by decide), hI 12 (by decide), hI 13 (by decide), gAdd_old hd (j := 197 + 4 * e + 1) (by omega) (by omega) (by omega), gAdd_old hd (j := 197 + 4 * e + 2) (by omega) (by omega) (by omega), gAdd_old hd (j := 197 + 4 * e + 3) (by omega) (by omega) (by omega)]
    refine ⟨?_, q2, q3, q4⟩
    rw [gAdd_at hd, if_neg (show ¬ 197 + 4 * e = 196 by omega)]
    by_cases e2 : e = d
    · rw [if_pos e2, if_pos (show 197 + 4 * e = 197 + 4 * d by omega)]
      exact congrArg (· + _) q1
    · rw [if_neg e2, if_neg (show ¬ 197 + 4 * e = 197 + 4 * d by omega), if_neg (show ¬ 197 + 4 * e = 205 + 6 * gMa s by omega), if_neg (show ¬ 197 + 4 * e = 205 + 6 * gMa s + 1 by omega), if_neg (show ¬ 197 + 4 * e = 205 + 6 * gMa s + 2 by omega), if_neg (show ¬ 197 + 4 * e = 205 + 6 * gMa s + 3 by omega), if_neg (show ¬ 197 + 4 * e = 205 + 6 * gMa s + 4 by omega), if_neg (show ¬ 197 + 4 * e = 205 + 6 * gMa s + 5 by omega)]
      exact q1
  · rw [hI 2 (by decide), gAdd_old hd (j := 189) (by omega) (by omega) (by omega), gAdd_old hd (j := 192) (by omega) (by omega) (by omega), gAdd_old hd (j := 191) (by omega) (by omega) (by omega), gAdd_old hd (j := 190) (by omega) (by omega) (by omega), gAdd_old hd (j := 194) (by omega) (by omega) (by omega), gAdd_old hd (j := 195) (by omega) (by omega) (by omega), gAdd_old hd (j := 193) (by omega) (by omega) (by omega)]
    exact r11
theorem s_enlist {Ψ : Int32 → e_TI → e_TL → e_TD → Prop} (h : GR I L s) {d c n m : Nat} (hd : d ≤ 1) (hc : c < 63) (hn : 1 ≤ n) (hn9 : n ≤ 9) (hm : m ≤ 12) (hma : gMa s < 16) (H : ∀ I', Fr 2 14 I L I' L → GR I' L (gAdd s d c n m) → Ψ (Int32.ofNat (gMa s)) I' L D) : e_M 92 [.ref 6, .int (Int32.ofNat d), .int (Int32.ofNat c), .int (Int32.ofNat n), .int (Int32.ofNat m)] (S0 I L D sc) (e_rI sc Ψ) := by
  refine vU_enlist ?_
  rw [h.tot, h.pres, o_s]
  refine s_uonly (by omega) ?_
  rw [sI_or]
  have hk := h.1.add hd hc hn9 hm hma
  refine ⟨fun hne => ?_, fun he => ?_⟩
  · have hd0 : ¬ d = 1 := fun e => hne (by rw [e]; rfl)
    refine s_write_7 (by omega) (s_write_8 (by omega) (s_write_9 (by omega) (s_increase_10 (by omega) ?_)))
    refine H _ (((((Fr.rf.upI (by decide)).upI (by decide)).upI (by decide)).upI (by decide)).upI (by decide) |>.upI (by decide)) ⟨hk, RC.add h hd hc hn hn9 hm hma ?_ ?_ ?_ ?_ ?_ (fun v => ?_) (fun v => ?_) (fun v => ?_) (fun e => ?_) (fun a ha => ?_)⟩
    · simp [e_up]
    · simp [e_up]
    · rw [if_neg hd0]; simp [e_up]
    · simp [e_up]
    · simp [e_up]
    · simp [e_up]
    · simp [e_up]
    · simp [e_up]
    · by_cases e2 : e = d
      · subst e2; simp [e_up]
      · simp [e_up, e2]
    · rcases ha with rfl | rfl | rfl | rfl <;> (funext k; simp [e_up])
  · have hd1 : d = 1 := (o_eq (by omega) (by decide)).mp (Classical.not_not.mp he)
    refine s_uonly (by omega) ?_
    rw [up_slot (f := I) (c := 6) (k := 0) (j := 2) (by decide), h.sec, sI_or]
    refine s_write_7 (by omega) (s_write_8 (by omega) (s_write_9 (by omega) (s_increase_10 (by omega) ?_)))
    refine H _ ((((((Fr.rf.upI (by decide)).upI (by decide)).upI (by decide)).upI (by decide)).upI (by decide)).upI (by decide) |>.upI (by decide)) ⟨hk, RC.add h hd hc hn hn9 hm hma ?_ ?_ ?_ ?_ ?_ (fun v => ?_) (fun v => ?_) (fun v => ?_) (fun e => ?_) (fun a ha => ?_)⟩
    · simp [e_up]
    · simp [e_up]
    · rw [if_pos hd1]; simp [e_up]
    · simp [e_up]
    · simp [e_up]
    · simp [e_up]
    · simp [e_up]
    · simp [e_up]
    · by_cases e2 : e = d
      · subst e2; simp [e_up]
      · simp [e_up, e2]
    · rcases ha with rfl | rfl | rfl | rfl <;> (funext k; simp [e_up])
/-! a new game -/
theorem gok_new (z : Int32) : gok (gNew z) := by
  have b0 : ∀ j b, j ≠ 190 → j ≠ 193 → gb (gNew z) j b := fun j b h1 h2 => by
    unfold gb gn gNew
    rw [if_neg h1, if_neg h2]
    exact ⟨rfl, Nat.zero_le _⟩
  refine ⟨fun c hc => ⟨b0 _ _ (by omega) (by omega), b0 _ _ (by omega) (by omega), b0 _ _ (by omega) (by omega), fun _ => ?_⟩, b0 _ _ (by decide) (by decide), ⟨⟨rfl, by show (10 : Nat) ≤ 30; decide⟩, by show (1 : Nat) ≤ 10; decide⟩, b0 _ _ (by decide) (by decide), b0 _ _ (by decide) (by decide), fun v hv => ?_⟩
  · unfold gTer gn gNew
    rw [if_neg (by omega), if_neg (by omega)]
    decide
  · have : gMa (gNew z) = 0 := by
      unfold gMa gn gNew
      rfl
    omega
theorem s_clearU {Ψ : e_TI → e_TL → e_TD → Prop} (H : ∀ I', (∀ c, c ≠ 6 → c ≠ 10 → c ≠ 11 → c ≠ 12 → c ≠ 13 → I' c = I c) → (∀ k, k < 5 → I' 6 k = 0) → (∀ a d, (a = 10 ∨ a = 11 ∨ a = 12 ∨ a = 13) → d < 2 → I' a d = 0) → Ψ I' L D) : e_M 11 [.ref 6] (S0 I L D sc) (e_rV sc Ψ) := by
  refine vU_clear (vU_beginTurn (s_clear_10 (fun r10 a0 a1 => s_clear_11 (fun r11 b0 b1 => s_clear_12 (fun r12 c0 c1 => s_clear_13 (fun r13 d0 d1 => ?_))))))
  refine H _ (fun c h6 h10 h11 h12 h13 => ?_) (fun k hk => ?_) (fun a d ha hd => ?_)
  · rw [row_cell h13, row_cell h12, row_cell h11, row_cell h10, up_cell h6, up_cell h6, up_cell h6, up_cell h6, up_cell h6]
  · rw [row_cell (by decide), row_cell (by decide), row_cell (by decide), row_cell (by decide)]
    have : k = 0 ∨ k = 1 ∨ k = 2 ∨ k = 3 ∨ k = 4 := by omega
    rcases this with rfl | rfl | rfl | rfl | rfl <;> simp [e_up]
  · have : d = 0 ∨ d = 1 := by omega
    rcases ha with rfl | rfl | rfl | rfl <;> rcases this with rfl | rfl <;> simp [e_row, a0, a1, b0, b1, c0, c1, d0, d1]
theorem s_clearL {Ψ : e_TI → e_TL → e_TD → Prop} (H : ∀ L', Fr 2 14 I L I L' → (∀ t, t < 6 → L' 4 t = if t = 0 then 9223372036854775807 else 0) → (∀ d, d < 2 → L' 5 d = 0) → L' 3 2 = 0 → Ψ I L' D) : e_M 8 [.ref 3] (S0 I L D sc) (e_rV sc Ψ) := by
  refine vLd_clear ?_
  have key2 : ∀ i, i ≤ 2 → ∀ L', Fr 2 14 I L I L' → (∀ t, t < 6 → L' 4 t = if t = 0 then 9223372036854775807 else 0) → (∀ d, d < i → L' 5 d = 0) → e_Wp 8 36 [some (.ref 3), some (.int (Int32.ofNat i))] [] (S0 I L' D sc) 0 0 (e_rV sc Ψ) := by
    refine e_downInd 2 (fun i hi ih L' hF h4 h5 => ?_) (fun L' hF h4 h5 => ?_)
    · refine vLd_clear_p36 (bx_f (b_ge hi) ⟨o_in hi, ?_⟩)
      rw [o_ix (by omega), o_s]
      refine ih _ (hF.upL (by decide)) (fun t ht => by rw [up_cell (by decide)]; exact h4 t ht) (fun d hd => ?_)
      by_cases e : d = i
      · rw [e, up_same]
      · rw [up_slot e]; exact h5 d (by omega)
    · exact vLd_clear_p36 (bx_t (b_self 2) (H _ (hF.upL (by decide)) (fun t ht => by rw [up_cell (by decide)]; exact h4 t ht) (fun d hd => by rw [up_cell (by decide)]; exact h5 d hd) up_same))
  have key : ∀ i, i ≤ 6 → ∀ L', Fr 2 14 I L I L' → (∀ t, t < i → L' 4 t = if t = 0 then 9223372036854775807 else 0) → e_Wp 8 2 [some (.ref 3), some (.int (Int32.ofNat i))] [] (S0 I L' D sc) 0 0 (e_rV sc Ψ) := by
    refine e_downInd 6 (fun i hi ih L' hF h4 => ?_) (fun L' hF h4 => vLd_clear_p2 (bx_t (b_self 6) (key2 0 (by decide) L' hF h4 (fun d hd => absurd hd (Nat.not_lt_zero _)))))
    refine vLd_clear_p2 (bx_f (b_ge hi) ⟨fun hne => ⟨o_in hi, ?_⟩, fun he => ⟨o_in hi, ?_⟩⟩)
    · have : ¬ i = 0 := fun e => hne (by rw [e]; rfl)
      rw [o_ix (by omega), o_s]
      refine ih _ (hF.upL (by decide)) (fun t ht => ?_)
      by_cases e : t = i
      · rw [e, up_same, if_neg this]
      · rw [up_slot e]; exact h4 t (by omega)
    · have : i = 0 := (o_eq (by omega) (by decide)).mp (Classical.not_not.mp he)
      rw [o_ix (by omega), o_s]
      refine ih _ (hF.upL (by decide)) (fun t ht => ?_)
      by_cases e : t = i
      · rw [e, up_same, if_pos this]
      · rw [up_slot e]; exact h4 t (by omega)
  exact key 0 (by decide) L Fr.rf (fun t ht => absurd ht (Nat.not_lt_zero _))
theorem s_begin {Ψ : e_TI → e_TL → e_TD → Prop} {z : Int32} (H : ∀ I' L', Fr 2 14 I L I' L' → GR I' L' (gNew z) → Ψ I' L' D) : e_M 12 [.ref 2, .int z] (S0 I L D sc) (e_rV sc Ψ) := by
  refine vG_begin (s_clearL (fun L1 hF1 h4 h5 h3 => s_clearU (fun I2 hI h6 h10 => ?_)))
  have z0 : ∀ j, j ≠ 190 → j ≠ 193 → gNew z j = 0 := fun j h1 h2 => by unfold gNew; rw [if_neg h1, if_neg h2]
  have zn : ∀ j, j ≠ 190 → j ≠ 193 → gn (gNew z) j = 0 := fun j h1 h2 => by unfold gn; rw [z0 j h1 h2]; rfl
  have ma : gMa (gNew z) = 0 := zn 196 (by decide) (by decide)
  have e0 : ∀ p : Nat → Bool, (∀ u, p u = false) → (0 : Int32) = sI p := fun p hp => by
    rw [sI_zero]
    exact sI_congr fun u _ => (hp u).symm
  refine H _ L1 (((((((((Fr.tr hF1 (fun c hc => ⟨hI c (by omega) (by omega) (by omega) (by omega) (by omega), rfl⟩)).upI (by decide)).upI (by decide)).upI (by decide)).upI (by decide)).upI (by decide)).upI (by decide)).upI (by decide))) ⟨gok_new z, ⟨fun t ht => ?_, fun d hd => ?_, ?_, ⟨?_, ?_, ?_, ?_, ?_⟩, fun u hu => ?_, fun d hd => ?_, ?_, ?_, ?_, ?_, ?_, ?_, ?_⟩⟩
  · show L1 4 t = _
    rw [h4 t ht]
    by_cases e : t = 0
    · rw [if_pos e, sL_ALL]
      refine sL_congr fun c _ => ?_
      by_cases hc : c < 63
      · unfold gTer
        rw [zn c (by omega) (by omega), e]
        simp
      · simp [hc]
    · rw [if_neg e, sL_zero]
      refine sL_congr fun c _ => ?_
      by_cases hc : c < 63
      · unfold gTer
        rw [zn c (by omega) (by omega), beq_false_of_ne (Ne.symm e), Bool.and_false]
      · simp [hc]
  · show L1 5 d = _
    rw [h5 d hd, sL_zero]
    refine sL_congr fun c _ => ?_
    unfold gSrc
    by_cases hc : c < 63
    · rw [zn _ (by omega) (by omega)]
      simp
    · simp [hc]
  · show L1 3 2 = _
    rw [h3, sL_zero]
    refine sL_congr fun c _ => ?_
    unfold gRd
    by_cases hc : c < 63
    · rw [zn _ (by omega) (by omega)]
      simp
    · simp [hc]
  · rw [up_cell (by decide), up_cell (by decide), up_cell (by decide), up_cell (by decide), up_cell (by decide), up_cell (by decide), up_cell (by decide)]
    exact h6 0 (by decide)
  · rw [up_cell (by decide), up_cell (by decide), up_cell (by decide), up_cell (by decide), up_cell (by decide), up_cell (by decide), up_cell (by decide)]
    refine (h6 1 (by decide)).trans (e0 _ fun u => ?_)
    unfold gU
    rw [ma]
    rfl
  · rw [up_cell (by decide), up_cell (by decide), up_cell (by decide), up_cell (by decide), up_cell (by decide), up_cell (by decide), up_cell (by decide)]
    refine (h6 2 (by decide)).trans (e0 _ fun u => ?_)
    rw [ma]
    rfl
  · rw [up_cell (by decide), up_cell (by decide), up_cell (by decide), up_cell (by decide), up_cell (by decide), up_cell (by decide), up_cell (by decide)]
    refine (h6 3 (by decide)).trans (e0 _ fun u => ?_)
    rw [ma]
    rfl
  · rw [up_cell (by decide), up_cell (by decide), up_cell (by decide), up_cell (by decide), up_cell (by decide), up_cell (by decide), up_cell (by decide)]
    refine (h6 4 (by decide)).trans (e0 _ fun u => ?_)
    rw [ma]
    rfl
  · rw [ma] at hu
    exact absurd hu (Nat.not_lt_zero _)
  · have U : ∀ a, a ≠ 2 → (e_up (e_up (e_up (e_up (e_up (e_up (e_up I2 2 2 0) 2 3 0) 2 4 0) 2 5 10) 2 6 0) 2 7 0) 2 8 z) a = I2 a := fun a ha => by
      rw [up_cell ha, up_cell ha, up_cell ha, up_cell ha, up_cell ha, up_cell ha, up_cell ha]
    rw [U _ (by decide), U _ (by decide), U _ (by decide), U _ (by decide), z0 _ (by omega) (by omega), z0 _ (by omega) (by omega), z0 _ (by omega) (by omega), z0 _ (by omega) (by omega)]
    exact ⟨h10 10 d (by decide) hd, h10 11 d (by decide) hd, h10 12 d (by decide) hd, h10 13 d (by decide) hd⟩
  · simp [e_up, gNew]
  · simp [e_up, gNew]
  · simp [e_up, gNew]
  · simp [e_up, gNew]
  · simp [e_up, gNew]
  · simp [e_up, gNew]
  · simp [e_up, gNew]
end
