/-! the law: the ratio; the loop -/
section
variable {B R : Nat} {x5 : Int32} {I : e_TI} {L : e_TL} {D : e_TD} {sc : e_TS} {w : Wd} {Ψ : Int32 → e_TI → e_TL → e_TD → Prop}
theorem q_balance (hC : CW I L w) (hM : MW I w) (K : ∀ I' L' D' w', CW I' L' w' → MW I' w' → e_Wp 308 2082 [some (.retAddr 20), some (.ref 0), some (.ref 139), some (.ref 148), some (.ref 149), some (.int x5), none, none, none] [] (S0 I' L' D' sc) B R (e_rI sc Ψ)) : e_Wp 308 1690 [some (.retAddr 20), some (.ref 0), some (.ref 139), some (.ref 148), some (.ref 149), some (.int x5), none, none, none] [] (S0 I L D sc) (B + 1) (R + 6) (e_rI sc Ψ) := by
  obtain ⟨A, hA⟩ : ∃ A, aBalance (wG w) = A := ⟨_, rfl⟩
  have hb : A.1 ≤ 1 := by
    rw [← hA]
    exact le_ite (by decide) (Nat.zero_le _)
  refine vL_balance (vW_balance (sC_balance hC (fun L' hF => ?_)))
  rw [hA]
  have hC1 := hC.same (hF.mono (lo' := 14) (hi' := 24) (by decide) (by decide))
  refine finD_1 hb (fun e => ?_) (fun e => ⟨by decide, fun _ => ?_, fun hn => absurd rfl hn⟩)
  · refine sM_balance hM hC.1.1 hA (fun r I2 L2 hF2 hM2 h5 hr => vM_thrown ?_)
    have go := K I2 L2 (e_up D 149 0 A.2) _ (hC1.far hF2) hM2
    rw [hr e, up_same, h5, e]
    exact ⟨fun _ => ⟨fun _ => go, fun _ => ⟨fun _ => go, fun hne => ⟨fun h0 => absurd h0 hne, fun _ => ⟨fun _ => go, fun hnn => absurd hne hnn⟩⟩⟩⟩, fun hne => absurd rfl hne⟩
  · refine sM_balance hM hC.1.1 hA (fun r I2 L2 hF2 hM2 h5 hr => vM_thrown ?_)
    have go := K I2 L2 D _ (hC1.far hF2) hM2
    rw [h5, e]
    exact ⟨fun _ => ⟨fun _ => go, fun hnn => absurd (by decide) hnn⟩, fun hne => absurd rfl hne⟩
end
theorem q_head {n j : Nat} (hn : n ≤ 2560) (h : ¬ Int32.ofNat n - 5 < Int32.ofNat (5 * j)) (hj : j < 513) : 5 * j + 5 ≤ n := by
  by_cases h5 : 5 ≤ n
  · rw [show (5 : Int32) = Int32.ofNat 5 from rfl, o_sub h5, o_lt (by omega) (by omega)] at h
    omega
  · exfalso
    apply h
    have k : ∀ m : Fin 5, Int32.ofNat m.1 - 5 < 0 := by decide
    exact Int32.lt_of_lt_of_le (k ⟨n, by omega⟩) (Int32.not_lt.mp (b_nn (by omega)))
theorem q_loop {sc : e_TS} (hn : sc.1 ≤ 2560) : ∀ j, j ≤ 513 → ∀ I L D w, CW I L w → MW I w → e_Wp 308 28 [some (.retAddr 20), some (.ref 0), some (.ref 139), some (.ref 148), some (.ref 149), some (.int (Int32.ofNat (5 * j))), none, none, none] [] (S0 I L D sc) ((513 - j) * 5) ((513 - j) * 30) (e_rI sc (fun x _ _ _ => x = 1)) := by
  refine e_downInd (G := fun j => ∀ I L D w, CW I L w → MW I w → e_Wp 308 28 [some (.retAddr 20), some (.ref 0), some (.ref 139), some (.ref 148), some (.ref 149), some (.int (Int32.ofNat (5 * j))), none, none, none] [] (S0 I L D sc) ((513 - j) * 5) ((513 - j) * 30) (e_rI sc (fun x _ _ _ => x = 1))) 513 (fun j hj ih I L D w hC hM => ?_) (fun I L D w hC hM => ?_)
  · refine vL_head ⟨fun _ => rfl, fun hge => ?_⟩
    have h5 := q_head hn hge hj
    have e5 : Int32.ofNat (5 * j) + 5 = Int32.ofNat (5 * (j + 1)) := o_add (5 * j) 5
    have hv : ∀ k, k < 5 → vp_in (Int32.ofNat (5 * j) + Int32.ofNat k) sc.1 := fun k hk => by
      rw [o_add]
      exact o_in (by omega)
    have K : ∀ I' L' D' w', CW I' L' w' → MW I' w' → e_Wp 308 2082 [some (.retAddr 20), some (.ref 0), some (.ref 139), some (.ref 148), some (.ref 149), some (.int (Int32.ofNat (5 * j))), none, none, none] [] (S0 I' L' D' sc) ((513 - (j + 1)) * 5) ((513 - (j + 1)) * 30) (e_rI sc (fun x _ _ _ => x = 1)) := fun I' L' D' w' c1 c2 => vL_end (by rw [e5]; exact ih I' L' D' w' c1 c2)
    have b1 : (513 - (j + 1)) * 5 + 5 ≤ (513 - j) * 5 := by omega
    have b2 : (513 - (j + 1)) * 30 + 30 ≤ (513 - j) * 30 := by omega
    refine ⟨o_in (by omega), ?_⟩
    refine ⟨fun _ => (q_start hC hM hv K).less (by omega) (by omega), fun _ => ?_⟩
    refine ⟨fun _ => (q_setTerrain hC hM hv K).less (by omega) (by omega), fun _ => ?_⟩
    refine ⟨fun _ => (q_setSource hC hM hv K).less (by omega) (by omega), fun _ => ?_⟩
    refine ⟨fun _ => (q_set hC hM hv K).less (by omega) (by omega), fun _ => ?_⟩
    refine ⟨fun _ => (q_cell hC hM hv K).less (by omega) (by omega), fun _ => ?_⟩
    refine ⟨fun _ => (q_neighbor hC hM hv K).less (by omega) (by omega), fun _ => ?_⟩
    refine ⟨fun _ => (q_distance hC hM hv K).less (by omega) (by omega), fun _ => ?_⟩
    refine ⟨fun _ => (q_count hC hM hv K).less (by omega) (by omega), fun _ => ?_⟩
    refine ⟨fun _ => (q_add hC hM hv K).less (by omega) (by omega), fun _ => ?_⟩
    refine ⟨fun _ => (q_unit hC hM hv K).less (by omega) (by omega), fun _ => ?_⟩
    refine ⟨fun _ => (q_known hC hM hv K).less (by omega) (by omega), fun _ => ?_⟩
    refine ⟨fun _ => (q_cells hC hM hv K).less (by omega) (by omega), fun _ => ?_⟩
    refine ⟨fun _ => (q_isSeen hC hM hv K).less (by omega) (by omega), fun _ => ?_⟩
    refine ⟨fun _ => (q_supplyCost hC hM hv K).less (by omega) (by omega), fun _ => ?_⟩
    refine ⟨fun _ => (q_reach hC hM hv K).less (by omega) (by omega), fun _ => ?_⟩
    refine ⟨fun _ => (q_cost hC hM hv K).less (by omega) (by omega), fun _ => ?_⟩
    refine ⟨fun _ => (q_way hC hM hv K).less (by omega) (by omega), fun _ => ?_⟩
    refine ⟨fun _ => (q_move hC hM hv K).less (by omega) (by omega), fun _ => ?_⟩
    refine ⟨fun _ => (q_odds hC hM hv K).less (by omega) (by omega), fun _ => ?_⟩
    refine ⟨fun _ => (q_attack hC hM hv K).less (by omega) (by omega), fun _ => ?_⟩
    refine ⟨fun _ => (q_endTurn hC hM K).less (by omega) (by omega), fun _ => ?_⟩
    refine ⟨fun _ => (q_account hC hM hv K).less (by omega) (by omega), fun _ => ?_⟩
    refine ⟨fun _ => (q_balance hC hM K).less (by omega) (by omega), fun _ => ?_⟩
    refine ⟨fun _ => (q_report hC hM hv K).less (by omega) (by omega), fun _ => ?_⟩
    refine ⟨fun _ => (q_feed hC hM hv K).less (by omega) (by omega), fun _ => ?_⟩
    refine ⟨fun _ => (q_readMap hC hM hv K).less (by omega) (by omega), fun _ => ?_⟩
    refine ⟨fun _ => (q_text hC hM hv K).less (by omega) (by omega), fun _ => ?_⟩
    refine ⟨fun _ => (q_undo hC hM hv K).less (by omega) (by omega), fun _ => ?_⟩
    refine ⟨fun _ => (q_save hC hM K).less (by omega) (by omega), fun _ => ?_⟩
    refine ⟨fun _ => (q_restore hC hM hv K).less (by omega) (by omega), fun _ => ?_⟩
    exact (K I L D w hC hM).less (by omega) (by omega)
  · refine vL_head ⟨fun _ => rfl, fun hge => ?_⟩
    exfalso
    have : 5 * 512 + 5 ≤ sc.1 := q_head hn (fun hlt => hge (Int32.lt_of_lt_of_le hlt (by decide))) (by decide)
    omega
