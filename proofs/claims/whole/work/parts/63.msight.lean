/-! the reference: sight -/
section
variable {I : e_TI} {L : e_TL} {D : e_TD} {sc : e_TS} {s : Nat → Int32}
/-- the cells that the walk of k steps towards b has reached -/
def gWalk (p : Nat → Bool) (a n : Nat) : Nat → Nat → Bool
  | 0 => fun c => c == a
  | k + 1 => fun c => gFan p a (k + 1) c && (decide (n ≤ k + 1) || p c)
theorem gWalk_s {p : Nat → Bool} {a n k : Nat} (hk : k < n) (c : Nat) : gWalk p a n (k + 1) c = (aro (gWalk p a n k) c && (decide (n ≤ k + 1) || p c)) := by
  have e : gFan p a (k + 1) c = aro (gWalk p a n k) c := by
    cases k with
    | zero => rfl
    | succ k =>
      rw [fan_two]
      refine aro_congr (fun b _ => ?_) c
      show (gFan p a (k + 1) b && p b) = (gFan p a (k + 1) b && (decide (n ≤ k + 1) || p b))
      rw [decide_eq_false (by omega), Bool.false_or]
  show (gFan p a (k + 1) c && (decide (n ≤ k + 1) || p c)) = _
  rw [e]
theorem gFan_end {p : Nat → Bool} {a n : Nat} (c : Nat) : gWalk p a n n c = gFan p a n c := by
  cases n with
  | zero => rfl
  | succ n =>
    show (gFan p a (n + 1) c && (decide (n + 1 ≤ n + 1) || p c)) = _
    rw [decide_eq_true (Nat.le_refl _), Bool.true_or, Bool.and_true]
theorem s_M_sees {Ψ : Int32 → e_TI → e_TL → e_TD → Prop} (h : MR I s) {a b : Nat} (ha : a < 63) (hb : b < 63) (H : Ψ (e_b (gSees s a b)) I L D) : e_M 247 [.ref 139, .int (Int32.ofNat a), .int (Int32.ofNat b)] (S0 I L D sc) (e_rI sc Ψ) := by
  obtain ⟨w1, w2⟩ := h.wx
  obtain ⟨ta1, ta2⟩ := h.ter ha
  obtain ⟨tb1, tb2⟩ := h.ter hb
  have h14 : dst a b ≤ 14 := dst_le14 ⟨a, ha⟩ ⟨b, hb⟩
  have hs : gSight s ≤ 4 := by
    have : ∀ w : Fin 3, ([4, 2, 3] : List Nat).getD w.1 0 ≤ 4 := by decide
    exact this ⟨gWx s, by omega⟩
  have hht : ∀ t, t < 6 → gHt t ≤ 3 := by
    have : ∀ t : Fin 6, gHt t.1 ≤ 3 := by decide
    exact fun t ht => this ⟨t, ht⟩
  have ma : ∀ m n : Nat, m ≤ 3 → n ≤ 3 → maxI (Int32.ofNat m) (Int32.ofNat n) = Int32.ofNat (max m n) := by
    have : ∀ m : Fin 4, ∀ n : Fin 4, maxI (Int32.ofNat m.1) (Int32.ofNat n.1) = Int32.ofNat (max m.1 n.1) := by decide +kernel
    exact fun m n hm hn => this ⟨m, by omega⟩ ⟨n, by omega⟩
  refine vM_sees (s_M_steps ha hb ?_)
  rw [w1, o_ix (a := gWx s) (by omega), show e_xt 14 (gWx s) = Int32.ofNat (gSight s) from xt14 ⟨gWx s, by omega⟩, o_le (by omega) (by omega)]
  unfold gSees at H
  refine ⟨o_in (by omega), fun hle => ⟨o_in (by omega), ?_⟩, fun hgt => ?_⟩
  · rw [decide_eq_true hle, Bool.true_and] at H
    rw [o_ix (a := a) (by omega), o_ix (a := b) (by omega), ta1, tb1, o_ix (a := gTer s a) (by omega), o_ix (a := gTer s b) (by omega), show e_xt 15 (gTer s a) = Int32.ofNat (gHt (gTer s a)) from xt15 ⟨gTer s a, by omega⟩, show e_xt 15 (gTer s b) = Int32.ofNat (gHt (gTer s b)) from xt15 ⟨gTer s b, by omega⟩]
    refine ⟨o_in (by omega), o_in (by omega), o_in (by omega), s_max ?_⟩
    rw [ma _ _ (hht _ (by omega)) (hht _ (by omega))]
    obtain ⟨M, hM⟩ : ∃ M, max (gHt (gTer s a)) (gHt (gTer s b)) = M := ⟨_, rfl⟩
    have hM3 : M ≤ 3 := by
      rw [← hM]
      exact Nat.max_le.mpr ⟨hht _ (by omega), hht _ (by omega)⟩
    rw [hM] at H ⊢
    -- the inner cells
    refine loop_L (G := fun y i => e_Wp 247 55 [some (.ref 139), some (.int (Int32.ofNat a)), some (.int (Int32.ofNat b)), some (.int (Int32.ofNat (dst a b))), some (.int (Int32.ofNat M)), some (.long y), none, some (.int i), none, none] [] (S0 I L D sc) 0 0 (e_rI sc Ψ)) (fun c v => decide (gHt (gTer s c) ≤ M) && c == v) 63 (fun c y hc K0 K1 => ?_) ?_
    · obtain ⟨tc1, tc2⟩ := h.ter hc
      refine vM_sees_p55 (bx_f (b_ge hc) ⟨o_in (by omega), ?_⟩)
      rw [o_ix (a := c) (by omega), tc1, o_ix (a := gTer s c) (by omega), show e_xt 15 (gTer s c) = Int32.ofNat (gHt (gTer s c)) from xt15 ⟨gTer s c, by omega⟩]
      have h3 := hht (gTer s c) (by omega)
      rw [o_lt (by omega) (by omega)]
      refine ⟨o_in (by omega), fun hlt => ?_, fun hge => ?_⟩
      · rw [orL0]
        exact K0 (fun v _ => by rw [decide_eq_false (by omega), Bool.false_and])
      · rw [sL_only c hc]
        refine K1 _ (fun v _ => ?_)
        rw [decide_eq_true (by omega), Bool.true_and]
        exact BEq.comm
    · refine vM_sees_p55 (bx_t (b_self 63) ?_)
      rw [gather_L (fun c => decide (gHt (gTer s c) ≤ M)), sL_only a ha]
      -- the walk
      obtain ⟨p, hp⟩ : ∃ p : Nat → Bool, (fun c => decide (gHt (gTer s c) ≤ M)) = p := ⟨_, rfl⟩
      rw [show (fun c => decide (c < 63) && decide (gHt (gTer s c) ≤ M)) = fun c => decide (c < 63) && p c from by rw [← hp]]
      rw [hp] at H
      have key : ∀ k, k ≤ dst a b → e_Wp 247 105 [some (.ref 139), some (.int (Int32.ofNat a)), some (.int (Int32.ofNat b)), some (.int (Int32.ofNat (dst a b))), some (.int (Int32.ofNat M)), some (.long (sL fun c => decide (c < 63) && p c)), none, some (.long (sL (gWalk p a (dst a b) k))), none, some (.int (Int32.ofNat (k + 1)))] [] (S0 I L D sc) 0 0 (e_rI sc Ψ) := by
        refine e_downInd (dst a b) (fun k hk ih => ?_) ?_
        · refine vM_sees_p105 ?_
          rw [o_lt (by omega) (by omega), o_le (by omega) (by omega), o_s]
          refine bx_f (by omega) (s_M_around ⟨fun hle => ?_, fun hgt => ?_⟩)
          · rw [andL1, sL_congr (p := aro (gWalk p a (dst a b) k)) (q := gWalk p a (dst a b) (k + 1))]
            · exact ih
            · intro c _
              rw [gWalk_s hk, decide_eq_true hle, Bool.true_or, Bool.and_true]
          · rw [sL_and, sL_congr (p := fun i => aro (gWalk p a (dst a b) k) i && (decide (i < 63) && p i)) (q := gWalk p a (dst a b) (k + 1))]
            · exact ih
            · intro c _
              rw [gWalk_s hk, decide_eq_false hgt, Bool.false_or]
              by_cases hc : c < 63
              · rw [decide_eq_true hc, Bool.true_and]
              · have : aro (gWalk p a (dst a b) k) c = false := by unfold aro; rw [decide_eq_false hc, Bool.false_and]
                rw [this, Bool.false_and, Bool.false_and]
        · refine vM_sees_p105 ?_
          rw [o_lt (by omega) (by omega)]
          refine bx_t (by omega) (s_M_has hb ?_)
          rw [gFan_end]
          refine bx_n (fun h1 => ?_) (fun h0 => ⟨fun hn => ?_, fun he => ?_⟩)
          · rw [h1] at H
            exact H
          · rw [h0] at H
            exact H
          · have e0 := (o_eq (b := 0) (by omega) (by decide)).mp (Classical.not_not.mp he)
            have eab := (dst_zero ha hb).mp e0
            rw [e0] at h0
            have : (b == a) = false := h0
            rw [eab, beq_self_eq_true] at this
            cases this
      exact key 0 (Nat.zero_le _)
  · rw [decide_eq_false hgt, Bool.false_and] at H
    exact H
theorem s_M_seenBy {Ψ : Int64 → e_TI → e_TL → e_TD → Prop} (h : MR I s) {d : Nat} (hd : d ≤ 1) (H : Ψ (sL (gSeen s d)) I L D) : e_M 248 [.ref 139, .int (Int32.ofNat d)] (S0 I L D sc) (e_rL sc Ψ) := by
  have hm := h.ma
  refine vM_seenBy ?_
  have key : ∀ i, i ≤ gMa s → e_Wp 248 5 [some (.ref 139), some (.int (Int32.ofNat d)), some (.long (sL fun c => decide (c < 63) && (List.range i).any fun u => gOwn s d u && gSees s (gPl s u) c)), none, some (.int (Int32.ofNat i)), none] [] (S0 I L D sc) 0 0 (e_rL sc Ψ) := by
    refine e_downInd (gMa s) (fun i hi ih => ?_) ?_
    · refine vM_seenBy_p5 (bx_f (h.go hi) ?_)
      have inner : ∀ j, j ≤ 63 → e_Wp 248 21 [some (.ref 139), some (.int (Int32.ofNat d)), some (.long (sL fun c => decide (c < 63) && (((List.range i).any fun u => gOwn s d u && gSees s (gPl s u) c) || (decide (c < j) && (gOwn s d i && gSees s (gPl s i) c))))), none, some (.int (Int32.ofNat i)), some (.int (Int32.ofNat j))] [] (S0 I L D sc) 0 0 (e_rL sc Ψ) := by
        refine e_downInd 63 (fun j hj ih2 => ?_) ?_
        · refine vM_seenBy_p21 (bx_f (b_ge hj) (s_M_isOf h (by omega) hd (bx_b (fun h0 => ?_) (fun h1 => s_M_has hj (bx_n (fun h2 => ?_) (fun h2 => s_M_pl h hi (s_M_sees h (h.pl hi) hj (bx_b (fun h3 => ?_) (fun h3 => ?_)))))))))
          · rw [o_s, sL_congr (q := fun c => decide (c < 63) && (List.range (i + 1)).any fun u => gOwn s d u && gSees s (gPl s u) c)]
            · exact ih
            · intro c _
              rw [any_s, h0, Bool.false_and, Bool.and_false]
          · rw [orL0, o_s, sL_congr (q := fun c => decide (c < 63) && (((List.range i).any fun u => gOwn s d u && gSees s (gPl s u) c) || (decide (c < j + 1) && (gOwn s d i && gSees s (gPl s i) c))))]
            · exact ih2
            · intro c _
              by_cases hcj : c = j
              · rw [decide_eq_true (p := j < 63) hj, Bool.true_and, decide_eq_false (Nat.lt_irrefl j), Bool.false_and, Bool.or_false] at h2
                rw [hcj, h2, Bool.true_or, Bool.true_or]
              · rw [show decide (c < j) = decide (c < j + 1) from by rw [decide_eq_decide]; omega]
          · rw [orL0, o_s, sL_congr (q := fun c => decide (c < 63) && (((List.range i).any fun u => gOwn s d u && gSees s (gPl s u) c) || (decide (c < j + 1) && (gOwn s d i && gSees s (gPl s i) c))))]
            · exact ih2
            · intro c _
              by_cases hcj : c = j
              · rw [hcj, h3, Bool.and_false, Bool.and_false, Bool.and_false]
              · rw [show decide (c < j) = decide (c < j + 1) from by rw [decide_eq_decide]; omega]
          · rw [o_s, sL_only j hj, sL_or, sL_congr (q := fun c => decide (c < 63) && (((List.range i).any fun u => gOwn s d u && gSees s (gPl s u) c) || (decide (c < j + 1) && (gOwn s d i && gSees s (gPl s i) c))))]
            · exact ih2
            · intro c _
              by_cases hcj : c = j
              · rw [hcj, h3, h1, beq_self_eq_true, Bool.or_true, decide_eq_true hj, decide_eq_true (Nat.lt_succ_self j), Bool.true_and, Bool.true_and, Bool.true_and, Bool.or_true]
              · rw [beq_false_of_ne hcj, Bool.or_false, show decide (c < j) = decide (c < j + 1) from by rw [decide_eq_decide]; omega]
        · refine vM_seenBy_p21 (bx_t (b_self 63) ?_)
          rw [o_s, sL_congr (q := fun c => decide (c < 63) && (List.range (i + 1)).any fun u => gOwn s d u && gSees s (gPl s u) c)]
          · exact ih
          · intro c _
            rw [any_s]
            by_cases hc : c < 63
            · rw [decide_eq_true hc, Bool.true_and, Bool.true_and, Bool.true_and]
            · rw [decide_eq_false hc, Bool.false_and, Bool.false_and]
      have k0 := inner 0 (Nat.zero_le _)
      rw [sL_congr (q := fun c => decide (c < 63) && (List.range i).any fun u => gOwn s d u && gSees s (gPl s u) c)] at k0
      · exact k0
      · intro c _
        rw [decide_eq_false (Nat.not_lt_zero c), Bool.false_and, Bool.or_false]
    · refine vM_seenBy_p5 (bx_t h.end ?_)
      rw [sL_congr (q := gSeen s d)]
      · exact H
      · intro c _
        unfold gSeen
        rw [any_up (n := gMa s) (fun u hu => by rw [gOwn_no h hu, Bool.false_and]) 16 hm]
  have k0 := key 0 (Nat.zero_le _)
  have e0 : (sL fun c => decide (c < 63) && (List.range 0).any fun u => gOwn s d u && gSees s (gPl s u) c) = 0 := by
    rw [sL_eq0]
    intro c _
    exact Bool.and_false _
  rw [e0] at k0
  exact k0
theorem s_M_knownTo {Ψ : Int32 → e_TI → e_TL → e_TD → Prop} (h : MR I s) {d : Nat} (hd : d ≤ 1) (H : Ψ (sI (gKnown s d)) I L D) : e_M 249 [.ref 139, .int (Int32.ofNat d)] (S0 I L D sc) (e_rI sc Ψ) := by
  have hm := h.ma
  have e1 : (1 : Int32) - Int32.ofNat d = Int32.ofNat (1 - d) := o_sub (a := 1) hd
  refine vM_knownTo (s_M_seenBy h hd (loop_I (G := fun y i => e_Wp 249 12 [some (.ref 139), some (.int (Int32.ofNat d)), some (.long (sL (gSeen s d))), none, some (.int y), some (.int i)] [] (S0 I L D sc) 0 0 (e_rI sc Ψ)) (fun u v => gKnown s d u && u == v) (gMa s) (fun i y hi K0 K1 => ?_) ?_))
  · refine vM_knownTo_p12 ?_
    rw [e1]
    refine bx_f (h.go hi) (s_M_isOf h (by omega) (by omega) (bx_b (fun h0 => ?_) (fun h1 => s_M_pl h hi (s_M_has (h.pl hi) (bx_b (fun h2 => ?_) (fun h2 => ?_))))))
    · rw [orI0]
      exact K0 (fun v _ => by unfold gKnown; rw [h0, Bool.false_and, Bool.false_and])
    · rw [orI0]
      exact K0 (fun v _ => by unfold gKnown; rw [h2, Bool.and_false, Bool.false_and])
    · rw [sI_only i (by omega)]
      refine K1 _ (fun v _ => ?_)
      unfold gKnown
      rw [h1, h2, Bool.true_and, Bool.true_and]
      exact BEq.comm
  · refine vM_knownTo_p12 (bx_t h.end ?_)
    rw [gather_I (gKnown s d), sI_congr (q := gKnown s d)]
    · exact H
    · intro u _
      cases hu : gKnown s d u with
      | false => rw [Bool.and_false]
      | true => rw [decide_eq_true (gU_lt (gKnown_U hu)), Bool.true_and]
end
