/-! the reference: why a move is refused -/
def RpM (I : e_TI) (r : Nat × (Nat → Int32) × (Nat → Int32)) : Prop := I 139 15 = Int32.ofNat r.1 ∧ r.1 ≤ 3 ∧ ∀ i, i < r.1 → I 146 (2 * i) = r.2.1 i ∧ I 146 (2 * i + 1) = r.2.2 i
/-- nothing but the report and the supply's costs has changed -/
def FrP (I I' : e_TI) : Prop := (∀ c, c ≠ 139 → c ≠ 143 → c ≠ 146 → I' c = I c) ∧ ∀ k, k ≠ 15 → I' 139 k = I 139 k
theorem FrP.rf {I : e_TI} : FrP I I := ⟨fun _ _ _ _ => rfl, fun _ _ => rfl⟩
theorem FrP.up6 {I I' : e_TI} (h : FrP I I') {k : Nat} {x : Int32} : FrP I (e_up I' 146 k x) := ⟨fun c a b d => by rw [up_cell d]; exact h.1 c a b d, fun k a => by rw [up_cell (by decide)]; exact h.2 k a⟩
theorem FrP.up9 {I I' : e_TI} (h : FrP I I') {x : Int32} : FrP I (e_up I' 139 15 x) := ⟨fun c a b d => by rw [up_cell a]; exact h.1 c a b d, fun k a => by rw [up_slot a]; exact h.2 k a⟩
theorem FrP.sup {I I1 I' : e_TI} {L L' : e_TL} (h : FrP I I1) (hF : Fr 143 144 I1 L I' L') : FrP I I' := ⟨fun c a b d => ((hF c (by omega)).1).trans (h.1 c a b d), fun k a => by rw [(hF 139 (by decide)).1]; exact h.2 k a⟩
theorem rp_two {J : e_TI} {a b c d : Int32} : RpM (e_up (e_up (e_up (e_up (e_up J 146 0 a) 146 1 b) 139 15 2) 146 2 c) 146 3 d) (2, (fun i => if i = 0 then a else c), fun i => if i = 0 then b else d) := by
  refine ⟨?_, (show (2 : Nat) ≤ 3 by decide), fun i hi => ?_⟩
  · rw [up_cell (by decide), up_cell (by decide), up_same]; rfl
  · have hi' : i < 2 := hi
    have cs : i = 0 ∨ i = 1 := by omega
    rcases cs with rfl | rfl
    · refine ⟨?_, ?_⟩
      · rw [up_slot (by decide), up_slot (by decide), up_cell (by decide), up_slot (by decide), up_same]; rfl
      · rw [up_slot (by decide), up_slot (by decide), up_cell (by decide), up_same]; rfl
    · refine ⟨?_, ?_⟩
      · rw [up_slot (by decide), up_same]; rfl
      · rw [up_same]; rfl
section
variable {I : e_TI} {L : e_TL} {D : e_TD} {sc : e_TS} {s : Nat → Int32} {u : Nat}
theorem s_M_refuse {Ψ : e_TI → e_TL → e_TD → Prop} (h : MR I s) (hu : u < gMa s) {c : Nat} (hc : c < 63) (hC : WyC I s u) (H : ∀ I', FrP I I' → RpM I' (gRep s u c) → Ψ I' L D) : e_M 279 [.ref 139, .int (Int32.ofNat u), .int (Int32.ofNat c), .int (Int32.ofNat (gAllow s u))] (S0 I L D sc) (e_rV sc Ψ) := by
  have hma := h.ma
  have hle := mWayC_le h hu c
  have hal : gAllow s u ≤ 12 := by
    have := h.mv hu
    unfold gAllow gHalf
    split <;> omega
  refine vM_refuse ⟨o_in hc, ?_⟩
  rw [o_ix (a := c) (by omega), hC c hc]
  refine ⟨fun hn => ⟨o_in hc, ?_⟩, fun he => ?_⟩
  · have hne : gWayC s u c ≠ 1000000 := fun e => hn (by rw [e]; rfl)
    rw [o_le (by omega) (by omega)]
    refine ⟨fun hle2 => ?_, fun hgt => ⟨o_in hc, ?_⟩⟩
    · -- no room
      have e : gRep s u c = (2, (fun i => if i = 0 then 1 else 4), fun i => if i = 0 then Int32.ofNat u else Int32.ofNat ((List.range 16).countP fun v => gOn s c v && gOwn s (gSd s u) v)) := by
        unfold gRep
        rw [if_neg hne, if_neg (by omega)]
      rw [e] at H
      obtain ⟨J, hJ⟩ : ∃ J, e_up (e_up (e_up (e_up I 146 0 1) 146 1 (Int32.ofNat u)) 139 15 2) 146 2 4 = J := ⟨_, rfl⟩
      have hJR : MR J s := by rw [← hJ]; exact (((h.up (by decide)).up (by decide)).up (by decide)).up (by decide)
      rw [hJ]
      refine loop_S (G := fun y i => e_Wp 279 119 [some (.ref 139), some (.int (Int32.ofNat u)), some (.int (Int32.ofNat c)), some (.int (Int32.ofNat (gAllow s u))), some (.int y), some (.int i)] [] (S0 J L D sc) 0 0 (e_rV sc Ψ)) 0 (fun v => if (gOn s c v && gOwn s (gSd s u) v) = true then 1 else 0) (gMa s) (fun i y hi K0 K1 => ?_) ?_
      · have k0 : (gOn s c i && gOwn s (gSd s u) i) = false → e_Wp 279 119 [some (.ref 139), some (.int (Int32.ofNat u)), some (.int (Int32.ofNat c)), some (.int (Int32.ofNat (gAllow s u))), some (.int (y + 0)), some (.int (Int32.ofNat i + 1))] [] (S0 J L D sc) 0 0 (e_rV sc Ψ) := fun h0 => by
          rw [addI0]
          exact K0 (by rw [h0]; rfl)
        have hp := h.pl hi
        refine vM_refuse_p119 (bx_f (hJR.go hi) (s_M_sd hJR hu (s_M_isOf hJR (by omega) (h.sd hu) (bx_b (fun h0 => k0 ?_) (fun h1 => s_M_pl hJR hi ⟨fun hn2 => k0 ?_, fun he2 => ?_⟩)))))
        · rw [h0, Bool.and_false]
        · unfold gOn
          rw [beq_false_of_ne (fun e2 => hn2 (by rw [e2])), Bool.and_false, Bool.false_and]
        · have e2 := (o_eq (by omega) (by omega)).mp (Classical.not_not.mp he2)
          have hon : (gOn s c i && gOwn s (gSd s u) i) = true := by
            unfold gOn
            rw [h1, gOwn_U h1, e2, beq_self_eq_true]
            rfl
          simp only [hon, if_true] at K1
          exact K1
      · refine vM_refuse_p119 (bx_t hJR.end ?_)
        rw [Nat.zero_add, ← sum_up (n := gMa s) (fun v hv => by rw [gOn_no h hv, Bool.false_and]; rfl) 16 hma, countP_sum, ← hJ]
        exact H _ FrP.rf.up6.up6.up9.up6.up6 rp_two
    · -- too far
      obtain ⟨J, hJ⟩ : ∃ J, e_up (e_up (e_up (e_up (e_up I 146 0 1) 146 1 (Int32.ofNat u)) 139 15 2) 146 2 3) 146 3 (Int32.ofNat (gWayC s u c)) = J := ⟨_, rfl⟩
      have hJR : MR J s := by rw [← hJ]; exact ((((h.up (by decide)).up (by decide)).up (by decide)).up (by decide)).up (by decide)
      have hJF : FrP I J := by rw [← hJ]; exact FrP.rf.up6.up6.up9.up6.up6
      have hJP : RpM J (2, (fun i => if i = 0 then 1 else 3), fun i => if i = 0 then Int32.ofNat u else Int32.ofNat (gWayC s u c)) := by rw [← hJ]; exact rp_two
      rw [hJ]
      refine s_M_isSupplied hJR hu (fun I1 hF1 => bx_n (fun hs => ?_) (fun hs => ?_))
      · have e : gRep s u c = (2, (fun i => if i = 0 then 1 else 3), fun i => if i = 0 then Int32.ofNat u else Int32.ofNat (gWayC s u c)) := by
          unfold gRep
          rw [if_neg hne, if_pos (by omega), hs, if_pos rfl]
        rw [e] at H
        refine H I1 (hJF.sup hF1) ?_
        unfold RpM at hJP ⊢
        rw [(hF1 139 (by decide)).1, (hF1 146 (by decide)).1]
        exact hJP
      · have e : gRep s u c = (3, (fun i => if i = 0 then 1 else if i = 1 then 3 else 5), fun i => if i = 0 then Int32.ofNat u else if i = 1 then Int32.ofNat (gWayC s u c) else Int32.ofNat (gAllow s u)) := by
          unfold gRep
          rw [if_neg hne, if_pos (by omega), hs, if_neg (by decide)]
        rw [e] at H
        refine H _ (hJF.sup hF1).up6.up6.up9 ⟨up_same, (show (3 : Nat) ≤ 3 by decide), fun i hi => ?_⟩
        have hi' : i < 3 := hi
        have r0 := hJP.2.2 0 (show (0 : Nat) < 2 by decide)
        have r1 := hJP.2.2 1 (show (1 : Nat) < 2 by decide)
        have c146 : I1 146 = J 146 := (hF1 146 (by decide)).1
        rw [up_cell (show (146 : Nat) ≠ 139 by decide)]
        have cs : i = 0 ∨ i = 1 ∨ i = 2 := by omega
        rcases cs with rfl | rfl | rfl
        · rw [up_slot (by decide), up_slot (by decide), up_slot (by decide), up_slot (by decide), c146]
          exact r0
        · rw [up_slot (by decide), up_slot (by decide), up_slot (by decide), up_slot (by decide), c146]
          exact r1
        · rw [up_slot (by decide), up_same, up_same]
          exact ⟨rfl, rfl⟩
  · have hf : gWayC s u c = 1000000 := (o_eq (b := 1000000) (by omega) (by decide)).mp (Classical.not_not.mp he)
    have e : gRep s u c = (2, (fun i => if i = 0 then 1 else 2), fun i => if i = 0 then Int32.ofNat u else Int32.ofNat c) := by
      unfold gRep
      rw [if_pos hf]
    rw [e] at H
    exact H _ FrP.rf.up6.up6.up9.up6.up6 rp_two
end
