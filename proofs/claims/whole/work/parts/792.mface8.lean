/-! the reference's face: report, the ratio -/
section
variable {I : e_TI} {L : e_TL} {D : e_TD} {sc : e_TS} {w : Wd} {Ψ : Int32 → e_TI → e_TL → e_TD → Prop}
theorem sM_report (h : MW I w) {x y : Int32} (H : oM I L D w (aReport w x y) Ψ) : e_M 298 [.ref 139, .int x, .int y] (S0 I L D sc) (e_rI sc Ψ) := by
  obtain ⟨h1, ⟨h2, h3⟩, ⟨h4, h5, h6⟩, ⟨h7, h8, h9⟩, ⟨h10, h11, h12⟩⟩ := id h
  refine vM_report ?_
  rw [h7]
  by_cases hx : x < 0 ∨ ¬ x < Int32.ofNat (wL w)
  · have e : aReport w x y = (1, 0) := by
      unfold aReport
      rw [if_pos hx]
    have hb : inB x 0 (Int32.ofNat (wL w) - 1) = false := by
      unfold inB
      by_cases h0 : x < 0
      · rw [decide_eq_false (Int32.not_le.mpr h0), Bool.false_and]
      · obtain ⟨k, hk, rfl⟩ := o_nn h0
        have hge : ¬ k < wL w := fun hlt => (hx.resolve_left h0) ((o_lt hk (by omega)).mpr hlt)
        have : decide (Int32.ofNat k ≤ Int32.ofNat (wL w) - 1) = false := by
          refine decide_eq_false (fun hle => ?_)
          by_cases hz : wL w = 0
          · rw [hz] at hle
            exact absurd (Int32.lt_of_le_of_lt hle (by decide : Int32.ofNat 0 - 1 < 0)) h0
          · rw [show (1 : Int32) = Int32.ofNat 1 from rfl, o_sub (by omega), o_le hk (by omega)] at hle
            omega
        rw [this, Bool.and_false]
    refine s_M_in ?_
    rw [hb]
    exact bx_f (fun hn => hn rfl) (H.exc h (n := 0) (z := 0) e)
  · have hx0 : ¬ x < 0 := fun hh => hx (Or.inl hh)
    have hxl : x < Int32.ofNat (wL w) := Classical.byContradiction (fun hh => hx (Or.inr hh))
    obtain ⟨k, hk, rfl⟩ := o_nn hx0
    have hkl : k < wL w := (o_lt hk (by omega)).mp hxl
    have e : aReport w (Int32.ofNat k) y = if y = 0 then (0, wRc w k) else if y = 1 then (0, wRd w k) else (2, 0) := by
      unfold aReport
      rw [if_neg hx, nx_of hk]
    rw [show Int32.ofNat (wL w) - 1 = Int32.ofNat (wL w - 1) from o_sub (b := 1) (by omega)]
    refine s_M_inR 0 (wL w - 1) ?_
    rw [iR_of (by omega) (Nat.zero_le _) (by omega)]
    refine bx_t (by decide) (s_M_inR 0 1 (bx_n (fun h2' => ?_) (fun h2' => H.exc h (n := 1) (z := 0) ?_)))
    · obtain ⟨j, _, hj1, rfl⟩ := iR_ex (by decide) (by decide) h2'
      have ei : (2 : Int32) * Int32.ofNat k + Int32.ofNat j = Int32.ofNat (2 * k + j) := by
        rw [show (2 : Int32) = Int32.ofNat 2 from rfl, o_mul, o_add]
      have hr := h9 k hkl
      rw [ei, o_ix (a := 2 * k + j) (by omega)]
      refine ⟨o_in (by omega), ?_⟩
      have cs : j = 0 ∨ j = 1 := by omega
      rcases cs with rfl | rfl
      · rw [show 2 * k + 0 = 2 * k from rfl, hr.1]
        exact H.ok h e
      · rw [hr.2]
        exact H.ok h e
    · have no := no_iR (by decide) h2'
      rw [e, if_neg (show ¬ y = 0 from no 0 (by decide)), if_neg (show ¬ y = 1 from no 1 (by decide))]
theorem sum_zero (f : Nat → Nat) : ∀ n, ((List.range n).map f).sum = 0 → ∀ u, u < n → f u = 0 := by
  intro n
  induction n with
  | zero => exact fun _ u hu => absurd hu (Nat.not_lt_zero _)
  | succ n ih =>
    intro hs u hu
    rw [sum_s] at hs
    by_cases e : u = n
    · rw [e]; omega
    · exact ih (by omega) u (by omega)
theorem gForces_none {s : Nat → Int32} (h : MR I s) {d : Nat} : sI (gOwn s d) = 0 ↔ gForces s (gOwn s d) = 0 := by
  have hm := h.ma
  rw [sI_eq0]
  constructor
  · intro hno
    unfold gForces
    have z : ∀ n, n ≤ 16 → ((List.range n).map fun u => if gOwn s d u && gU s u then gForce s u else 0).sum = 0 := by
      intro n
      induction n with
      | zero => exact fun _ => rfl
      | succ n ih =>
        intro hn
        rw [sum_s, ih (by omega), hno n (by omega), Bool.false_and, if_neg (by decide)]
    exact z 16 (Nat.le_refl _)
  · intro hz u hu
    unfold gForces at hz
    cases ho : gOwn s d u with
    | false => rfl
    | true =>
      exfalso
      have hU := gOwn_U ho
      have hlt := gU_lt hU
      have h0 := sum_zero _ 16 hz u (by omega)
      rw [ho, hU, if_pos (by rfl)] at h0
      have hpos := gU_pos hU
      unfold gForce gHalf at h0
      split at h0 <;> omega
theorem mForces_le {s : Nat → Int32} (h : MR I s) (q : Nat → Bool) : gForces s q ≤ 144 := by
  refine sum_le (k := 9) (fun u => ?_) 16
  by_cases hq : (q u && gU s u) = true
  · rw [if_pos hq]
    have := h.st (gU_lt (Bool.and_eq_true _ _ ▸ hq).2)
    unfold gForce gHalf
    split <;> omega
  · rw [if_neg hq]
    exact Nat.zero_le _
theorem sM_balance {Ψ : UInt64 → e_TI → e_TL → e_TD → Prop} (h : MW I w) (hk : gok (wG w)) {A : Nat × UInt64} (hA : aBalance (wG w) = A) (H : oM I L D w A Ψ) : e_M 297 [.ref 139] (S0 I L D sc) (e_rD sc Ψ) := by
  have hm := h.mrt hk (x := 0)
  have l0 := mForces_le hm (gOwn (wG w) 0)
  have l1 := mForces_le hm (gOwn (wG w) 1)
  have fd := @fp_div1 (gForces (wG w) (gOwn (wG w) 0)) (gForces (wG w) (gOwn (wG w) 1)) l0
  unfold aBalance at hA
  refine vM_balance (s_M_unitsOf (d := 1) (h.mr hk) (by decide) ⟨fun hne => ?_, fun he => ?_⟩)
  · have hf : ¬ gForces (wG w) (gOwn (wG w) 1) = 0 := fun hz => hne ((gForces_none hm).mpr hz)
    rw [if_neg hf] at hA
    refine s_M_unitsOf (d := 0) hm (by decide) (s_M_forces hm (fun v hv => gOwn_U hv) (fun I1 hF1 => s_M_unitsOf (d := 1) (hm.fr hF1 (by decide)) (by decide) (s_M_forces (hm.fr hF1 (by decide)) (fun v hv => gOwn_U hv) (fun I2 hF2 => ?_))))
    exact ⟨fd (Nat.pos_of_ne_zero hf) l1, H.sup h (hF1.tr hF2) hA.symm⟩
  · rw [if_pos ((gForces_none hm).mp (Classical.not_not.mp he))] at hA
    exact H.exc h (n := 0) (z := 0) hA.symm
end
