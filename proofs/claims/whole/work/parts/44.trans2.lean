/-! the class's cells after a change -/
theorem up_id {α : Type} {f : Nat → Nat → α} {c k : Nat} {x : α} (h : f c k = x) : e_up f c k x = f := by
  funext c' k'
  unfold e_up
  by_cases hc : c' = c
  · subst hc
    rw [if_pos rfl]
    by_cases hk : k' = k
    · subst hk
      rw [if_pos rfl, h]
    · rw [if_neg hk]
  · rw [if_neg hc]
section
variable {I I' : e_TI} {L : e_TL} {s s' : Nat → Int32} {x : Int32}
theorem RC.gm (h : RC 2 I L s) {sl k : Nat} (hq : (sl = 2 ∧ k = 189) ∨ (sl = 3 ∧ k = 192) ∨ (sl = 4 ∧ k = 191) ∨ (sl = 5 ∧ k = 190) ∨ (sl = 6 ∧ k = 194) ∨ (sl = 7 ∧ k = 195) ∨ (sl = 8 ∧ k = 193)) : RC 2 (e_up I 2 sl x) L (gset s k x) := by
  obtain ⟨r1, r2, r3, r4, r9, r10, a1, a2, a3, a4, a5, a6, a7⟩ := id h
  refine h.low (by omega) (by omega) (by omega) (fun d hd => ?_) ?_ ⟨up_cell (by decide), up_cell (by decide), up_cell (by decide), up_cell (by decide)⟩
  · rw [up_cell (by decide), up_cell (by decide), up_cell (by decide), up_cell (by decide), gset_ne (by omega), gset_ne (by omega), gset_ne (by omega), gset_ne (by omega)]
    exact r10 d hd
  · rcases hq with ⟨rfl, rfl⟩ | ⟨rfl, rfl⟩ | ⟨rfl, rfl⟩ | ⟨rfl, rfl⟩ | ⟨rfl, rfl⟩ | ⟨rfl, rfl⟩ | ⟨rfl, rfl⟩ <;> simp [e_up, gset, a1, a2, a3, a4, a5, a6, a7]
theorem RC.acc (h : RC 2 I L s) {j d : Nat} (hj : j < 4) (hd : d < 2) : RC 2 (e_up I (10 + j) d x) L (gset s (197 + 4 * d + j) x) := by
  obtain ⟨r1, r2, r3, r4, r9, r10, r11⟩ := id h
  refine h.low (by omega) (by omega) (by omega) (fun e he => ?_) ?_ ⟨up_cell (by omega), up_cell (by omega), up_cell (by omega), up_cell (by omega)⟩
  · obtain ⟨b1, b2, b3, b4⟩ := r10 e he
    have hj4 : j = 0 ∨ j = 1 ∨ j = 2 ∨ j = 3 := by omega
    have hd2 : d = 0 ∨ d = 1 := by omega
    have he2 : e = 0 ∨ e = 1 := by omega
    have b1 : I 10 e = s (197 + 4 * e) := b1
    have b2 : I 11 e = s (197 + 4 * e + 1) := b2
    have b3 : I 12 e = s (197 + 4 * e + 2) := b3
    have b4 : I 13 e = s (197 + 4 * e + 3) := b4
    rcases hj4 with rfl | rfl | rfl | rfl <;> rcases hd2 with rfl | rfl <;> rcases he2 with rfl | rfl <;> simp [e_up, gset, b1, b2, b3, b4]
  · rw [up_cell (by omega), gset_ne (by omega), gset_ne (by omega), gset_ne (by omega), gset_ne (by omega), gset_ne (by omega), gset_ne (by omega), gset_ne (by omega)]
    exact r11
/-- marks of units alone -/
theorem RC.marks (h : RC 2 I L s) (hs : ∀ j, (j < 205 ∨ (j - 205) % 6 < 4) → s' j = s j) (c3 : I' 6 3 = sI (fun u => decide (u < gMa s) && gMd s' u)) (c4 : I' 6 4 = sI (fun u => decide (u < gMa s) && gAt s' u)) (hI : ∀ c, c ≠ 6 → I' c = I c) (h6 : ∀ k, k < 3 → I' 6 k = I 6 k) : RC 2 I' L s' := by
  have gs : ∀ j, (j < 205 ∨ (j - 205) % 6 < 4) → gn s' j = gn s j := fun j hj => by unfold gn; rw [hs j hj]
  have e1 : gMa s' = gMa s := gs 196 (by decide)
  have e2 : gU s' = gU s := by funext v; unfold gU gSt; rw [e1, gs _ (by omega)]
  have e3 : gSd s' = gSd s := by funext v; unfold gSd; rw [gs _ (by omega)]
  have e4 : gRd s' = gRd s := by
    funext c
    unfold gRd
    by_cases hc : c < 63
    · rw [gs _ (by omega)]
    · simp [hc]
  have e5 : ∀ d, gSrc s' d = gSrc s d := fun d => by
    funext c
    unfold gSrc
    by_cases hc : c < 63
    · rw [gs _ (by omega)]
    · simp [hc]
  obtain ⟨r1, r2, r3, r4, r9, r10, r11⟩ := id h
  refine h.of (fun t ht => ?_) (fun d hd => ?_) ?_ ?_ (fun v hv => ?_) (fun d hd => ?_) ?_
  · rw [r1 t ht]
    exact sL_congr fun c _ => by
      by_cases hc : c < 63
      · unfold gTer; rw [gs _ (by omega)]
      · simp [hc]
  · rw [e5, r2 d hd]
  · rw [e4, r3]
  · rw [e1, e2, e3]
    refine ⟨?_, ?_, ?_, c3, c4⟩
    · show I' 6 0 = _
      rw [h6 0 (by decide), hs 196 (by decide)]
      exact r4.1
    · show I' 6 1 = _
      rw [h6 1 (by decide)]
      exact r4.2.1
    · show I' 6 2 = _
      rw [h6 2 (by decide)]
      exact r4.2.2.1
  · rw [e1] at hv
    rw [hI _ (by decide), hI _ (by decide), hI _ (by decide), hs _ (by omega), hs _ (by omega), hs _ (by omega)]
    exact r9 v hv
  · rw [hI _ (by decide), hI _ (by decide), hI _ (by decide), hI _ (by decide), hs _ (by omega), hs _ (by omega), hs _ (by omega), hs _ (by omega)]
    exact r10 d hd
  · rw [hI _ (by decide), hs _ (by decide), hs _ (by decide), hs _ (by decide), hs _ (by decide), hs _ (by decide), hs _ (by decide), hs _ (by decide)]
    exact r11
theorem gok.marks (hk : gok s) (hs : ∀ j, (j < 205 ∨ (j - 205) % 6 < 4) → s' j = s j) (hm : ∀ j, 205 ≤ j → 4 ≤ (j - 205) % 6 → s' j = s j ∨ s' j = 0 ∨ s' j = 1) : gok s' := by
  have gs : ∀ j, (j < 205 ∨ (j - 205) % 6 < 4) → gn s' j = gn s j := fun j hj => by unfold gn; rw [hs j hj]
  have bs : ∀ j b, (j < 205 ∨ (j - 205) % 6 < 4) → gb s j b → gb s' j b := fun j b hj hb => by
    unfold gb at hb ⊢
    rw [gs j hj, hs j hj]
    exact hb
  have b1 : ∀ j, 205 ≤ j → 4 ≤ (j - 205) % 6 → gb s j 1 → gb s' j 1 := fun j h1 h2 hb => by
    unfold gb gn at hb ⊢
    rcases hm j h1 h2 with e | e | e <;> rw [e]
    · exact hb
    · exact ⟨rfl, by decide⟩
    · exact ⟨rfl, by decide⟩
  obtain ⟨h1, h2, ⟨h3, h3'⟩, h4, h5, h6⟩ := hk
  refine ⟨fun c hc => ?_, bs _ _ (by decide) h2, ⟨bs _ _ (by decide) h3, ?_⟩, bs _ _ (by decide) h4, bs _ _ (by decide) h5, fun v hv => ?_⟩
  · obtain ⟨a1, a2, a3, a4⟩ := h1 c hc
    refine ⟨bs _ _ (by omega) a1, bs _ _ (by omega) a2, bs _ _ (by omega) a3, ?_⟩
    unfold gRd gTer at a4 ⊢
    rw [gs _ (by omega), gs _ (by omega)]
    exact a4
  · unfold gRg at h3' ⊢
    rw [gs _ (by decide)]
    exact h3'
  · unfold gMa at hv
    rw [gs _ (by decide)] at hv
    obtain ⟨c0, c1, c2, c3, c4, c5⟩ := h6 v hv
    exact ⟨bs _ _ (by omega) c0, bs _ _ (by omega) c1, bs _ _ (by omega) c2, bs _ _ (by omega) c3, b1 _ (by omega) (by omega) c4, b1 _ (by omega) (by omega) c5⟩
/-- a unit's strength, with who is there -/
theorem RC.str (h : RC 2 I L s) {u n : Nat} (hI : ∀ c, c ≠ 6 → c ≠ 8 → I' c = I c) (h8 : ∀ v, v ≠ u → I' 8 v = I 8 v) (h8u : I' 8 u = Int32.ofNat n) (h6 : ∀ k, k ≠ 1 → I' 6 k = I 6 k) (h61 : I' 6 1 = sI (gU (gset s (205 + 6 * u + 2) (Int32.ofNat n)))) : RC 2 I' L (gset s (205 + 6 * u + 2) (Int32.ofNat n)) := by
  have e1 : gMa (gset s (205 + 6 * u + 2) (Int32.ofNat n)) = gMa s := gMa_ne (by omega)
  have e3 : gSd (gset s (205 + 6 * u + 2) (Int32.ofNat n)) = gSd s := by funext v; unfold gSd; rw [gn_ne (by omega)]
  have e4 : gMd (gset s (205 + 6 * u + 2) (Int32.ofNat n)) = gMd s := by funext v; unfold gMd; rw [gn_ne (by omega)]
  have e5 : gAt (gset s (205 + 6 * u + 2) (Int32.ofNat n)) = gAt s := by funext v; unfold gAt; rw [gn_ne (by omega)]
  obtain ⟨r1, r2, r3, r4, r9, r10, r11⟩ := id h
  refine h.of (fun t ht => ?_) (fun d hd => ?_) ?_ ?_ (fun v hv => ⟨?_, ?_, ?_⟩) (fun d hd => ?_) ?_
  · rw [r1 t ht]
    exact sL_congr fun c _ => by
      by_cases hc : c < 63
      · rw [gTer_ne (by omega)]
      · simp [hc]
  · rw [gSrc_ne (by omega), r2 d hd]
  · rw [gRd_ne (by omega), r3]
  · rw [e1, e3, e4, e5, gset_ne (by omega)]
    refine ⟨?_, h61, ?_, ?_, ?_⟩
    · show I' 6 0 = _
      rw [h6 0 (by decide)]
      exact r4.1
    · show I' 6 2 = _
      rw [h6 2 (by decide)]
      exact r4.2.2.1
    · show I' 6 3 = _
      rw [h6 3 (by decide)]
      exact r4.2.2.2.1
    · show I' 6 4 = _
      rw [h6 4 (by decide)]
      exact r4.2.2.2.2
  · rw [e1] at hv
    rw [gset_ne (by omega), hI _ (by decide) (by decide)]
    exact (r9 v hv).1
  · rw [e1] at hv
    by_cases e : v = u
    · subst e
      rw [gset_eq]
      exact h8u
    · rw [gset_ne (by omega)]
      show I' 8 v = _
      rw [h8 v e]
      exact (r9 v hv).2.1
  · rw [e1] at hv
    rw [gset_ne (by omega), hI _ (by decide) (by decide)]
    exact (r9 v hv).2.2
  · rw [hI _ (by decide) (by decide), hI _ (by decide) (by decide), hI _ (by decide) (by decide), hI _ (by decide) (by decide), gset_ne (by omega), gset_ne (by omega), gset_ne (by omega), gset_ne (by omega)]
    exact r10 d hd
  · rw [hI _ (by decide) (by decide), gset_ne (by omega), gset_ne (by omega), gset_ne (by omega), gset_ne (by omega), gset_ne (by omega), gset_ne (by omega), gset_ne (by omega)]
    exact r11
end
/-- a unit loses strength m, on that account -/
def gLose (s : Nat → Int32) (u m a : Nat) : Nat → Int32 :=
  gset (gset (gset s (205 + 6 * u + 2) (Int32.ofNat (gSt s u - min m (gSt s u)))) (197 + 4 * gSd s u + a) (s (197 + 4 * gSd s u + a) + Int32.ofNat (min m (gSt s u)))) (197 + 4 * gSd s u + 3) (s (197 + 4 * gSd s u + 3) + Int32.ofNat (if gSt s u ≤ m then 1 else 0))
/-- units of a set have attacked -/
def gAttS (s : Nat → Int32) (q : Nat → Bool) : Nat → Int32 := fun j => if 205 ≤ j ∧ (j - 205) % 6 = 5 ∧ (j - 205) / 6 < gMa s ∧ q ((j - 205) / 6) = true then 1 else s j
/-- a turn begins -/
def gBeg (s : Nat → Int32) : Nat → Int32 := fun j => if 205 ≤ j ∧ 4 ≤ (j - 205) % 6 ∧ (j - 205) / 6 < gMa s then 0 else s j
section
variable {I : e_TI} {L : e_TL} {D : e_TD} {sc : e_TS} {s : Nat → Int32}
theorem s_placeAt {Ψ : e_TI → e_TL → e_TD → Prop} (h : GR I L s) {u c : Nat} (hu : u < gMa s) (hc : c < 63) (H : ∀ I', Fr 2 14 I L I' L → GR I' L (gset s (205 + 6 * u + 1) (Int32.ofNat c)) → Ψ I' L D) : e_M 153 [.ref 6, .int (Int32.ofNat u), .int (Int32.ofNat c)] (S0 I L D sc) (e_rV sc Ψ) := by
  have hm := h.ma
  exact vU_placeAt (s_write_7 (by omega) (H _ (Fr.rf.upI (by decide)) ⟨h.1.unit (f := 1) (by decide) (by show c ≤ 62; omega), h.2.place⟩))
theorem s_noteMove {Ψ : e_TI → e_TL → e_TD → Prop} (h : GR I L s) {u : Nat} (hu : u < gMa s) (H : ∀ I', Fr 2 14 I L I' L → GR I' L (gset s (205 + 6 * u + 4) 1) → Ψ I' L D) : e_M 152 [.ref 6, .int (Int32.ofNat u)] (S0 I L D sc) (e_rV sc Ψ) := by
  have hm := h.ma
  refine vU_noteMove (s_uonly (by omega) ?_)
  rw [h.mvd, sI_or]
  have hs : ∀ j, (j < 205 ∨ (j - 205) % 6 < 4) → gset s (205 + 6 * u + 4) 1 j = s j := fun j hj => gset_ne (by omega)
  refine H _ (Fr.rf.upI (by decide)) ⟨h.1.unit (f := 4) (n := 1) (by decide) (by decide), h.2.marks hs ?_ ?_ (fun c hc => up_cell hc) (fun k hk => up_slot (by omega))⟩
  · rw [up_same]
    refine sI_congr fun v _ => ?_
    unfold gMd
    by_cases e : v = u
    · subst e
      rw [gn_eq, decide_eq_true hu]
      simp
    · rw [gn_ne (by omega), beq_false_of_ne e, Bool.or_false]
  · rw [up_slot (by decide), h.att]
    refine sI_congr fun v _ => ?_
    unfold gAt
    rw [gn_ne (by omega)]
theorem s_noteAttack {Ψ : e_TI → e_TL → e_TD → Prop} (h : GR I L s) {q : Nat → Bool} (hq : ∀ u, q u = true → gU s u = true) (H : ∀ I', Fr 2 14 I L I' L → GR I' L (gAttS s q) → Ψ I' L D) : e_M 166 [.ref 6, .int (sI q)] (S0 I L D sc) (e_rV sc Ψ) := by
  refine vU_noteAttack ?_
  rw [h.att, sI_or]
  have hs : ∀ j, (j < 205 ∨ (j - 205) % 6 < 4) → gAttS s q j = s j := fun j hj => by unfold gAttS; rw [if_neg (by omega)]
  refine H _ (Fr.rf.upI (by decide)) ⟨h.1.marks hs (fun j h1 h2 => ?_), h.2.marks hs ?_ ?_ (fun c hc => up_cell hc) (fun k hk => up_slot (by omega))⟩
  · unfold gAttS
    split
    · exact Or.inr (Or.inr rfl)
    · exact Or.inl rfl
  · rw [up_slot (by decide), h.mvd]
    refine sI_congr fun v _ => ?_
    unfold gMd gn gAttS
    rw [if_neg (by omega)]
  · rw [up_same]
    refine sI_congr fun v _ => ?_
    unfold gAt gn gAttS
    by_cases hv : v < gMa s
    · cases hqv : q v with
      | true =>
        rw [if_pos ⟨by omega, by omega, by omega, by rw [show (205 + 6 * v + 5 - 205) / 6 = v by omega]; exact hqv⟩]
        simp [hv]
      | false =>
        rw [if_neg (by rw [show (205 + 6 * v + 5 - 205) / 6 = v by omega, hqv]; simp), Bool.or_false]
    · have : q v = false := by
        rw [Bool.eq_false_iff]
        intro hqv
        exact hv (gU_lt (hq v hqv))
      simp [hv, this]
theorem s_beginTurn {Ψ : e_TI → e_TL → e_TD → Prop} (h : GR I L s) (H : ∀ I', Fr 2 14 I L I' L → GR I' L (gBeg s) → Ψ I' L D) : e_M 9 [.ref 6] (S0 I L D sc) (e_rV sc Ψ) := by
  refine vU_beginTurn ?_
  have hs : ∀ j, (j < 205 ∨ (j - 205) % 6 < 4) → gBeg s j = s j := fun j hj => by unfold gBeg; rw [if_neg (by omega)]
  refine H _ ((Fr.rf.upI (by decide)).upI (by decide)) ⟨h.1.marks hs (fun j h1 h2 => ?_), h.2.marks hs ?_ ?_ (fun c hc => by rw [up_cell hc, up_cell hc]) (fun k hk => by rw [up_slot (by omega), up_slot (by omega)])⟩
  · unfold gBeg
    split
    · exact Or.inr (Or.inl rfl)
    · exact Or.inl rfl
  · rw [up_slot (by decide), up_same, sI_zero]
    refine sI_congr fun v _ => ?_
    unfold gMd gn gBeg
    by_cases hv : v < gMa s
    · rw [if_pos (by omega)]
      simp
    · simp [hv]
  · rw [up_same, sI_zero]
    refine sI_congr fun v _ => ?_
    unfold gAt gn gBeg
    by_cases hv : v < gMa s
    · rw [if_pos (by omega)]
      simp
    · simp [hv]
end
