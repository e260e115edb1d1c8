/-! the reference: a march -/
theorem gset_comm {s : Nat → Int32} {a b : Nat} {x y : Int32} (h : a ≠ b) : gset (gset s a x) b y = gset (gset s b y) a x := by
  funext j
  by_cases ea : j = a
  · rw [ea, gset_ne h, gset_eq, gset_eq]
  · by_cases eb : j = b
    · rw [eb, gset_eq, gset_ne (Ne.symm h), gset_eq]
    · rw [gset_ne eb, gset_ne ea, gset_ne ea, gset_ne eb]
section
variable {I : e_TI} {L : e_TL} {D : e_TD} {sc : e_TS} {s : Nat → Int32} {u t : Nat}
theorem gEv_some {k : Nat} (hk : k < gLen s u t) (h1 : (gHos s u (gWay s u t (k + 1)) || gHoz s u (gWay s u t (k + 1))) = true) (h2 : ∀ j, j < k → (gHos s u (gWay s u t (j + 1)) || gHoz s u (gWay s u t (j + 1))) = false) : gEv s u t = some k := by
  unfold gEv
  rw [List.find?_range_eq_some]
  exact ⟨h1, List.mem_range.mpr hk, fun j hj => by rw [h2 j hj]; rfl⟩
theorem gEv_none (h2 : ∀ j, j < gLen s u t → (gHos s u (gWay s u t (j + 1)) || gHoz s u (gWay s u t (j + 1))) = false) : gEv s u t = none := by
  unfold gEv
  rw [List.find?_eq_none]
  intro j hj
  rw [h2 j (List.mem_range.mp hj)]
  decide
theorem gRoomA_low {k : Nat} {x : Int32} (hk : k < 205) (hk2 : k ≠ 196) (c : Nat) : gRoomA (gset s k x) u c = gRoomA s u c := by
  unfold gRoomA
  rw [gRoom_low hk hk2, gU_low hk hk2, gSd_low hk, gSt_low hk]
theorem s_M_march {Ψ : Int32 → e_TI → e_TL → e_TD → Prop} (h : MR I s) (hu : u < gMa s) {x2 x3 x4 : Int32} (h13 : I 139 13 = Int32.ofNat (gLen s u t + 1)) (hv : ∀ i, i ≤ gLen s u t → I 145 i = Int32.ofNat (gWay s u t i)) (hn : gLen s u t ≤ 62) (hw : ∀ i, i ≤ gLen s u t → gWay s u t i < 63) (h1 : 1 ≤ gLen s u t) (H : ∀ I', FrO I I' → I' 140 = gMove s u t → Ψ (Int32.ofNat (gEnd s u t)) I' L D) :
    e_Wp 281 146 [some (.ref 139), some (.int (Int32.ofNat u)), some (.int x2), some (.int x3), some (.int x4), some (.long (sL (gHos s u))), none, some (.long (sL (gHoz s u))), none, some (.int 0), some (.int 1)] [] (S0 I L D sc) 0 0 (e_rI sc Ψ) := by
  have hma := h.ma
  -- the end: back to a cell with room
  have back : ∀ n, n ≤ gLen s u t → gBack s u t n = gBack s u t (gStop s u t) → ∀ I1, FrO I I1 → I1 140 = (if gAmb s u t then gset s 194 (s 194 + 1) else s) → e_Wp 281 225 [some (.ref 139), some (.int (Int32.ofNat u)), some (.int x2), some (.int x3), some (.int x4), some (.long (sL (gHos s u))), none, some (.long (sL (gHoz s u))), none, some (.int (Int32.ofNat n)), some (.int 0)] [] (S0 I1 L D sc) 0 0 (e_rI sc Ψ) := by
    have put : ∀ n, n ≤ gLen s u t → gBack s u t (gStop s u t) = n → ∀ I1, FrO I I1 → I1 140 = (if gAmb s u t then gset s 194 (s 194 + 1) else s) → Ψ (Int32.ofNat (gWay s u t n)) (e_up (e_up I1 140 (205 + 6 * u + 1) (Int32.ofNat (gWay s u t n))) 140 (205 + 6 * u + 4) 1) L D := by
      intro n hle hb I1 hF hrow
      have := H (e_up (e_up I1 140 (205 + 6 * u + 1) (Int32.ofNat (gWay s u t n))) 140 (205 + 6 * u + 4) 1) hF.up.up (by
        rw [row_up (row_up hrow _ _), gset_comm (by omega)]
        unfold gMove gEnd
        rw [hb])
      unfold gEnd at this
      rw [hb] at this
      exact this
    intro n
    induction n with
    | zero =>
      intro _ hb I1 hF hrow
      have v0 : I1 145 0 = Int32.ofNat (gWay s u t 0) := by rw [hF 145 (by decide)]; exact hv 0 (Nat.zero_le _)
      refine vM_move_p225 (bx_t Int32.le_rfl (s_M_unitAt 1 ⟨o_in (i := 0) (by decide), ?_⟩))
      rw [o_ix (a := 205 + 6 * u + 1) (by omega), o_ix (a := 0) (by decide), v0]
      refine ⟨o_in (by omega), s_M_unitAt 4 ?_⟩
      rw [o_ix (a := 205 + 6 * u + 4) (by omega)]
      refine ⟨o_in (by omega), o_in (i := 0) (by decide), ?_⟩
      rw [up_cell (show (145 : Nat) ≠ 140 by decide), v0]
      exact put 0 (Nat.zero_le _) hb.symm I1 hF hrow
    | succ n ih =>
      intro hle hb I1 hF hrow
      have vn : I1 145 (n + 1) = Int32.ofNat (gWay s u t (n + 1)) := by rw [hF 145 (by decide)]; exact hv (n + 1) hle
      have hR : MR I1 (if gAmb s u t then gset s 194 (s 194 + 1) else s) := ⟨by split; exact h.1.low (by decide); exact h.1, hrow⟩
      have hM : gMa (if gAmb s u t then gset s 194 (s 194 + 1) else s) = gMa s := by
        split
        · exact gMa_ne (by decide)
        · rfl
      have hRm : gRoomA (if gAmb s u t then gset s 194 (s 194 + 1) else s) u (gWay s u t (n + 1)) = gRoomA s u (gWay s u t (n + 1)) := by
        split
        · exact gRoomA_low (by decide) (by decide) _
        · rfl
      have hbs : gBack s u t (n + 1) = if gRoomA s u (gWay s u t (n + 1)) then n + 1 else gBack s u t n := rfl
      have nle : ¬ Int32.ofNat (n + 1) ≤ 0 := fun hh => by
        have := (o_le (a := n + 1) (b := 0) (by omega) (by decide)).mp hh
        omega
      have em : Int32.ofNat (n + 1) + (-1) = Int32.ofNat n := by
        have : Int32.ofNat (n + 1) - Int32.ofNat 1 = Int32.ofNat n := o_sub (by omega)
        rw [← this, Int32.sub_eq_add_neg]
        rfl
      refine vM_move_p225 (bx_f nle ⟨o_in (by omega), ?_⟩)
      rw [o_ix (a := n + 1) (by omega), vn]
      refine s_M_hasRoomFor hR (by rw [hM]; exact hu) (hw (n + 1) hle) ?_
      rw [hRm]
      refine bx_n (fun hr => s_M_unitAt 1 ⟨o_in (by omega), ?_⟩) (fun hr => ?_)
      · rw [hr, if_pos rfl] at hbs
        rw [o_ix (a := 205 + 6 * u + 1) (by omega), vn]
        refine ⟨o_in (by omega), s_M_unitAt 4 ?_⟩
        rw [o_ix (a := 205 + 6 * u + 4) (by omega)]
        refine ⟨o_in (by omega), o_in (by omega), ?_⟩
        rw [up_cell (show (145 : Nat) ≠ 140 by decide), vn]
        exact put (n + 1) hle (by rw [← hb, hbs]) I1 hF hrow
      · rw [hr, if_neg (by decide)] at hbs
        rw [em]
        exact ih (by omega) (by rw [← hb, hbs]) I1 hF hrow
  have key : ∀ k, k < gLen s u t → (∀ j, j < k → (gHos s u (gWay s u t (j + 1)) || gHoz s u (gWay s u t (j + 1))) = false) → e_Wp 281 146 [some (.ref 139), some (.int (Int32.ofNat u)), some (.int x2), some (.int x3), some (.int x4), some (.long (sL (gHos s u))), none, some (.long (sL (gHoz s u))), none, some (.int (Int32.ofNat k)), some (.int 1)] [] (S0 I L D sc) 0 0 (e_rI sc Ψ) := by
    -- stopped without an ambush
    have stop : ∀ k, k < gLen s u t → gStop s u t = k + 1 → gAmb s u t = false → e_Wp 281 146 [some (.ref 139), some (.int (Int32.ofNat u)), some (.int x2), some (.int x3), some (.int x4), some (.long (sL (gHos s u))), none, some (.long (sL (gHoz s u))), none, some (.int (Int32.ofNat (k + 1))), some (.int 0)] [] (S0 I L D sc) 0 0 (e_rI sc Ψ) := fun k hk hst ham =>
      vM_move_p146 (bx_t rfl (back (k + 1) hk (by rw [hst]) I FrO.rf (by rw [ham]; exact h.2)))
    have walkOn : ∀ m k, gLen s u t = k + 1 + m → (∀ j, j < k → (gHos s u (gWay s u t (j + 1)) || gHoz s u (gWay s u t (j + 1))) = false) → e_Wp 281 146 [some (.ref 139), some (.int (Int32.ofNat u)), some (.int x2), some (.int x3), some (.int x4), some (.long (sL (gHos s u))), none, some (.long (sL (gHoz s u))), none, some (.int (Int32.ofNat k)), some (.int 1)] [] (S0 I L D sc) 0 0 (e_rI sc Ψ) := by
      intro m
      induction m with
      | zero =>
        intro k hlen hbef
        refine vM_move_p146 (bx_f (by decide) ?_)
        rw [o_s, o_ix (a := k + 1) (by omega), hv (k + 1) (by omega)]
        refine ⟨o_in (by omega), s_M_has (hw (k + 1) (by omega)) (bx_b (fun h0 => ?_) (fun ha => ?_))⟩
        · rw [h13, show Int32.ofNat (gLen s u t + 1) - 1 = Int32.ofNat (gLen s u t) from o_sub (b := 1) (by omega), o_le (by omega) (by omega)]
          refine bx_t (by omega) (stop k (by omega) ?_ ?_)
          · cases hz : gHoz s u (gWay s u t (k + 1)) with
            | true =>
              have := gEv_some (k := k) (by omega) (by rw [hz, Bool.or_true]) hbef
              unfold gStop
              rw [this]
              dsimp only
              rw [h0, if_neg (by decide)]
            | false =>
              have := gEv_none (s := s) (u := u) (t := t) (fun j hj => by
                by_cases e : j = k
                · rw [e, h0, hz]; rfl
                · exact hbef j (by omega))
              unfold gStop
              rw [this]
              dsimp only
              omega
          · cases hz : gHoz s u (gWay s u t (k + 1)) with
            | true =>
              have := gEv_some (k := k) (by omega) (by rw [hz, Bool.or_true]) hbef
              unfold gAmb
              rw [this]
              exact h0
            | false =>
              have := gEv_none (s := s) (u := u) (t := t) (fun j hj => by
                by_cases e : j = k
                · rw [e, h0, hz]; rfl
                · exact hbef j (by omega))
              unfold gAmb
              rw [this]
        · have ev := gEv_some (k := k) (by omega) (by rw [ha, Bool.true_or]) hbef
          have hst : gStop s u t = k := by
            unfold gStop
            rw [ev]
            dsimp only
            rw [ha, if_pos rfl]
          have ham : gAmb s u t = true := by
            unfold gAmb
            rw [ev]
            exact ha
          refine vM_move_p146 (bx_t rfl (back k (by omega) (by rw [hst]) _ FrO.rf.up ?_))
          rw [ham, if_pos rfl, row_up h.2, h.2]
      | succ m ihm =>
        intro k hlen hbef
        refine vM_move_p146 (bx_f (by decide) ?_)
        rw [o_s, o_ix (a := k + 1) (by omega), hv (k + 1) (by omega)]
        refine ⟨o_in (by omega), s_M_has (hw (k + 1) (by omega)) (bx_b (fun h0 => ?_) (fun ha => ?_))⟩
        · rw [h13, show Int32.ofNat (gLen s u t + 1) - 1 = Int32.ofNat (gLen s u t) from o_sub (b := 1) (by omega), o_le (by omega) (by omega)]
          refine bx_f (by omega) ⟨o_in (by omega), ?_⟩
          rw [hv (k + 1) (by omega)]
          refine s_M_has (hw (k + 1) (by omega)) (bx_n (fun hz => stop k (by omega) ?_ ?_) (fun hz => ihm (k + 1) (by omega) (fun j hj => ?_)))
          · have := gEv_some (k := k) (by omega) (by rw [hz, Bool.or_true]) hbef
            unfold gStop
            rw [this]
            dsimp only
            rw [h0, if_neg (by decide)]
          · have := gEv_some (k := k) (by omega) (by rw [hz, Bool.or_true]) hbef
            unfold gAmb
            rw [this]
            exact h0
          · by_cases e : j = k
            · rw [e, h0, hz]; rfl
            · exact hbef j (by omega)
        · have ev := gEv_some (k := k) (by omega) (by rw [ha, Bool.true_or]) hbef
          have hst : gStop s u t = k := by
            unfold gStop
            rw [ev]
            dsimp only
            rw [ha, if_pos rfl]
          have ham : gAmb s u t = true := by
            unfold gAmb
            rw [ev]
            exact ha
          refine vM_move_p146 (bx_t rfl (back k (by omega) (by rw [hst]) _ FrO.rf.up ?_))
          rw [ham, if_pos rfl, row_up h.2, h.2]
    intro k hk hbef
    exact walkOn (gLen s u t - (k + 1)) k (by omega) hbef
  exact key 0 (by omega) (fun j hj => absurd hj (Nat.not_lt_zero _))
end
