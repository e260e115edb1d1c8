/-! the first state; the law, whole, on the abstract machine -/
def w0 : Wd := (gNew 0, (false, fun _ => 0), (0, fun _ _ => 0), (0, fun _ => 0, fun _ => 0), (0, fun _ => 0))
theorem z_new {j : Nat} (h : j ≠ 190) : gNew 0 j = 0 := by
  unfold gNew
  rw [if_neg h]
  split <;> rfl
theorem gn_new {j : Nat} (h : j ≠ 190) : gn (gNew 0) j = 0 := by
  unfold gn
  rw [z_new h]
  rfl
theorem ma_new : gMa (gNew 0) = 0 := gn_new (by decide)
theorem RC_first : RC 2 yI0 yL0 (gNew 0) := by
  have e0 : ∀ p : Nat → Bool, (∀ u, p u = false) → (0 : Int32) = sI p := fun p hp => by
    rw [sI_zero]
    exact sI_congr fun u _ => (hp u).symm
  have zz : ∀ c, c ≠ 2 → c ≠ 140 → ∀ k, yI0 c k = 0 := fun c h h2 k => congrFun (yI0_z h h2) k
  refine ⟨fun t ht => ?_, fun d hd => ?_, ?_, ⟨?_, ?_, ?_, ?_, ?_⟩, fun u hu => ?_, fun d hd => ?_, ?_⟩
  · by_cases e : t = 0
    · rw [show yL0 (2 + 2) t = 9223372036854775807 by rw [e]; exact up_same, sL_ALL]
      refine sL_congr fun c _ => ?_
      by_cases hc : c < 63
      · unfold gTer
        rw [gn_new (by omega), e]
        simp
      · simp [hc]
    · rw [show yL0 (2 + 2) t = 0 from (up_slot e).trans rfl, sL_zero]
      refine sL_congr fun c _ => ?_
      by_cases hc : c < 63
      · unfold gTer
        rw [gn_new (by omega), beq_false_of_ne (Ne.symm e), Bool.and_false]
      · simp [hc]
  · rw [show yL0 (2 + 3) d = 0 from congrFun (yL0_z (by decide)) d, sL_zero]
    refine sL_congr fun c _ => ?_
    unfold gSrc
    by_cases hc : c < 63
    · rw [gn_new (by omega)]
      simp
    · simp [hc]
  · rw [show yL0 (2 + 1) 2 = 0 from congrFun (yL0_z (by decide)) 2, sL_zero]
    refine sL_congr fun c _ => ?_
    unfold gRd
    by_cases hc : c < 63
    · rw [gn_new (by omega)]
      simp
    · simp [hc]
  · rw [zz (2 + 4) (by decide) (by decide), z_new (by decide)]
  · refine (zz (2 + 4) (by decide) (by decide) 1).trans (e0 _ fun u => ?_)
    unfold gU
    rw [ma_new]
    rfl
  · refine (zz (2 + 4) (by decide) (by decide) 2).trans (e0 _ fun u => ?_)
    rw [ma_new]
    rfl
  · refine (zz (2 + 4) (by decide) (by decide) 3).trans (e0 _ fun u => ?_)
    rw [ma_new]
    rfl
  · refine (zz (2 + 4) (by decide) (by decide) 4).trans (e0 _ fun u => ?_)
    rw [ma_new]
    rfl
  · rw [ma_new] at hu
    exact absurd hu (Nat.not_lt_zero _)
  · rw [zz (2 + 8) (by decide) (by decide), zz (2 + 9) (by decide) (by decide), zz (2 + 10) (by decide) (by decide), zz (2 + 11) (by decide) (by decide), z_new (by omega), z_new (by omega), z_new (by omega), z_new (by omega)]
    exact ⟨rfl, rfl, rfl, rfl⟩
  · have u2 : ∀ k, k ≠ 5 → yI0 2 k = 0 := fun k hk => by
      unfold yI0
      rw [up_cell (by decide), up_slot hk]
      rfl
    have u5 : yI0 2 5 = 10 := by
      unfold yI0
      rw [up_cell (by decide), up_same]
    rw [u2 2 (by decide), u2 3 (by decide), u2 4 (by decide), u5, u2 6 (by decide), u2 7 (by decide), u2 8 (by decide)]
    exact ⟨rfl, rfl, rfl, rfl, rfl, rfl, rfl⟩
theorem CW_first : CW yI0 yL0 w0 := by
  have zz : ∀ c, c ≠ 2 → c ≠ 140 → ∀ k, yI0 c k = 0 := fun c h h2 k => congrFun (yI0_z h h2) k
  exact ⟨⟨gok_new 0, RC_first⟩, ⟨zz 0 (by decide) (by decide) 3, fun h => absurd h (by decide)⟩, ⟨0, by decide, zz 36 (by decide) (by decide) 1, zz 36 (by decide) (by decide) 2, by decide, fun i hi => absurd hi (Nat.not_lt_zero _)⟩, ⟨zz 134 (by decide) (by decide) 2, by decide, fun i hi => absurd hi (Nat.not_lt_zero _)⟩, ⟨zz 137 (by decide) (by decide) 1, by decide, fun i hi => absurd hi (Nat.not_lt_zero _)⟩⟩
theorem MW_first : MW yI0 w0 := by
  have zz : ∀ c, c ≠ 2 → c ≠ 140 → ∀ k, yI0 c k = 0 := fun c h h2 k => congrFun (yI0_z h h2) k
  refine ⟨?_, ⟨zz 139 (by decide) (by decide) 2, fun h => absurd h (by decide)⟩, ⟨zz 139 (by decide) (by decide) 4, by decide, fun i hi => absurd hi (Nat.not_lt_zero _)⟩, ⟨zz 139 (by decide) (by decide) 15, by decide, fun i hi => absurd hi (Nat.not_lt_zero _)⟩, ⟨zz 139 (by decide) (by decide) 17, by decide, fun i hi => absurd hi (Nat.not_lt_zero _)⟩⟩
  show yI0 140 = gNew 0
  funext j
  by_cases e : j = 190
  · rw [e]
    exact up_same
  · rw [z_new e]
    exact (up_slot e).trans rfl
/-- the law answers true on every script of at most 2560 ints -/
theorem q_law {sc : e_TS} (hn : sc.1 ≤ 2560) : e_Wp 308 0 [some (.retAddr 20), none, none, none, none, none, none, none, none] [] ([], oI0, oL0, oD0, sc, true) 603072 7207018 (fun o _ => o = .inl (some (.int 1))) := by
  refine q_begin (e_Wp.still (Q := e_rI sc (fun x _ _ _ => x = 1)) ?_ (fun o h' _ hq => ?_))
  · exact (q_loop hn 0 (by decide) yI0 yL0 oD0 w0 CW_first MW_first).less (by decide) (by decide)
  · obtain ⟨x, I, L, D, ho, _, hx⟩ := hq
    rw [ho, hx]
