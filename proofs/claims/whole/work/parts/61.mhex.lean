/-! the reference: hexagons -/
def nxF (r c : Int32) : Int32 := if inB r 0 6 && inB c 0 8 then (9 * r) + c else -1
theorem nxT_e0 : ∀ c : Fin 63,  ((Int32.ofNat c.1 / 9) - (Int32.ofNat c.1 / 9) / 2 * 2) = 0 → nxF (Int32.ofNat c.1 / 9) ((Int32.ofNat c.1 - Int32.ofNat c.1 / 9 * 9) + 1) = o_opt (nb c.1 0) := by decide +kernel
theorem nxT_e1 : ∀ c : Fin 63,  ((Int32.ofNat c.1 / 9) - (Int32.ofNat c.1 / 9) / 2 * 2) = 0 → nxF ((Int32.ofNat c.1 / 9) + (-1)) ((Int32.ofNat c.1 - Int32.ofNat c.1 / 9 * 9) + 0) = o_opt (nb c.1 1) := by decide +kernel
theorem nxT_e2 : ∀ c : Fin 63,  ((Int32.ofNat c.1 / 9) - (Int32.ofNat c.1 / 9) / 2 * 2) = 0 → nxF ((Int32.ofNat c.1 / 9) + (-1)) ((Int32.ofNat c.1 - Int32.ofNat c.1 / 9 * 9) + (-1)) = o_opt (nb c.1 2) := by decide +kernel
theorem nxT_e3 : ∀ c : Fin 63,  ((Int32.ofNat c.1 / 9) - (Int32.ofNat c.1 / 9) / 2 * 2) = 0 → nxF (Int32.ofNat c.1 / 9) ((Int32.ofNat c.1 - Int32.ofNat c.1 / 9 * 9) + (-1)) = o_opt (nb c.1 3) := by decide +kernel
theorem nxT_e4 : ∀ c : Fin 63,  ((Int32.ofNat c.1 / 9) - (Int32.ofNat c.1 / 9) / 2 * 2) = 0 → nxF ((Int32.ofNat c.1 / 9) + 1) ((Int32.ofNat c.1 - Int32.ofNat c.1 / 9 * 9) + (-1)) = o_opt (nb c.1 4) := by decide +kernel
theorem nxT_e5 : ∀ c : Fin 63,  ((Int32.ofNat c.1 / 9) - (Int32.ofNat c.1 / 9) / 2 * 2) = 0 → nxF ((Int32.ofNat c.1 / 9) + 1) ((Int32.ofNat c.1 - Int32.ofNat c.1 / 9 * 9) + 0) = o_opt (nb c.1 5) := by decide +kernel
theorem nxT_o0 : ∀ c : Fin 63, ¬ ((Int32.ofNat c.1 / 9) - (Int32.ofNat c.1 / 9) / 2 * 2) = 0 → nxF (Int32.ofNat c.1 / 9) ((Int32.ofNat c.1 - Int32.ofNat c.1 / 9 * 9) + 1) = o_opt (nb c.1 0) := by decide +kernel
theorem nxT_o1 : ∀ c : Fin 63, ¬ ((Int32.ofNat c.1 / 9) - (Int32.ofNat c.1 / 9) / 2 * 2) = 0 → nxF ((Int32.ofNat c.1 / 9) + (-1)) ((Int32.ofNat c.1 - Int32.ofNat c.1 / 9 * 9) + 1) = o_opt (nb c.1 1) := by decide +kernel
theorem nxT_o2 : ∀ c : Fin 63, ¬ ((Int32.ofNat c.1 / 9) - (Int32.ofNat c.1 / 9) / 2 * 2) = 0 → nxF ((Int32.ofNat c.1 / 9) + (-1)) ((Int32.ofNat c.1 - Int32.ofNat c.1 / 9 * 9) + 0) = o_opt (nb c.1 2) := by decide +kernel
theorem nxT_o3 : ∀ c : Fin 63, ¬ ((Int32.ofNat c.1 / 9) - (Int32.ofNat c.1 / 9) / 2 * 2) = 0 → nxF (Int32.ofNat c.1 / 9) ((Int32.ofNat c.1 - Int32.ofNat c.1 / 9 * 9) + (-1)) = o_opt (nb c.1 3) := by decide +kernel
theorem nxT_o4 : ∀ c : Fin 63, ¬ ((Int32.ofNat c.1 / 9) - (Int32.ofNat c.1 / 9) / 2 * 2) = 0 → nxF ((Int32.ofNat c.1 / 9) + 1) ((Int32.ofNat c.1 - Int32.ofNat c.1 / 9 * 9) + 0) = o_opt (nb c.1 4) := by decide +kernel
theorem nxT_o5 : ∀ c : Fin 63, ¬ ((Int32.ofNat c.1 / 9) - (Int32.ofNat c.1 / 9) / 2 * 2) = 0 → nxF ((Int32.ofNat c.1 / 9) + 1) ((Int32.ofNat c.1 - Int32.ofNat c.1 / 9 * 9) + 1) = o_opt (nb c.1 5) := by decide +kernel
section
variable {I : e_TI} {L : e_TL} {D : e_TD} {sc : e_TS} {s : Nat → Int32}
theorem nx_fin {Ψ : Int32 → e_TI → e_TL → e_TD → Prop} {r c : Int32} (H : Ψ (nxF r c) I L D) : e_M 225 [.int r, .int 0, .int 6] (S0 I L D sc) (e_rI sc (fun r1 I1 L1 D1 => ((r1 = 0 → Ψ (-1) I1 L1 D1) ∧ (¬ (r1 = 0) → e_M 225 [.int c, .int 0, .int 8] (S0 I1 L1 D1 sc) (e_rI sc (fun r2 I2 L2 D2 => ((r2 = 0 → Ψ (-1) I2 L2 D2) ∧ (¬ (r2 = 0) → Ψ ((9 * r) + c) I2 L2 D2)))))))) := by
  unfold nxF at H
  refine s_M_in (bx_b (fun h0 => ?_) (fun h1 => s_M_in (bx_b (fun h0 => ?_) (fun h2 => ?_))))
  · rw [h0, Bool.false_and, if_neg (by decide)] at H
    exact H
  · rw [h0, Bool.and_false, if_neg (by decide)] at H
    exact H
  · rw [h1, h2, if_pos (by rfl)] at H
    exact H
theorem s_M_next {Ψ : Int32 → e_TI → e_TL → e_TD → Prop} {c d : Nat} (hc : c < 63) (hd : d < 6) (H : Ψ (o_opt (nb c d)) I L D) : e_M 239 [.int (Int32.ofNat c), .int (Int32.ofNat d)] (S0 I L D sc) (e_rI sc Ψ) := by
  have h6 : d = 0 ∨ d = 1 ∨ d = 2 ∨ d = 3 ∨ d = 4 ∨ d = 5 := by omega
  by_cases hp : ((Int32.ofNat c / 9) - (Int32.ofNat c / 9) / 2 * 2) = 0
  · rcases h6 with rfl | rfl | rfl | rfl | rfl | rfl
    · exact vM_next (bx_f (fun h => h hp) (bx_t (by decide) (bx_t (by decide) (nx_fin (by rw [nxT_e0 ⟨c, hc⟩ hp]; exact H)))))
    · exact vM_next (bx_f (fun h => h hp) (bx_f (by decide) (bx_t (by decide) (bx_f (by decide) (bx_t (by decide) (bx_f (by decide) (nx_fin (by rw [nxT_e1 ⟨c, hc⟩ hp]; exact H))))))))
    · exact vM_next (bx_f (fun h => h hp) (bx_f (by decide) (bx_f (by decide) (bx_t (by decide) (bx_f (by decide) (bx_t (by decide) (bx_f (by decide) (nx_fin (by rw [nxT_e2 ⟨c, hc⟩ hp]; exact H)))))))))
    · exact vM_next (bx_f (fun h => h hp) (bx_f (by decide) (bx_f (by decide) (bx_t (by decide) (bx_f (by decide) (bx_f (by decide) (nx_fin (by rw [nxT_e3 ⟨c, hc⟩ hp]; exact H))))))))
    · exact vM_next (bx_f (fun h => h hp) (bx_f (by decide) (bx_f (by decide) (bx_t (by decide) (bx_f (by decide) (bx_t (by decide) (bx_t (by decide) (nx_fin (by rw [nxT_e4 ⟨c, hc⟩ hp]; exact H)))))))))
    · exact vM_next (bx_f (fun h => h hp) (bx_f (by decide) (bx_f (by decide) (bx_f (by decide) (bx_f (by decide) (bx_t (by decide) (bx_t (by decide) (nx_fin (by rw [nxT_e5 ⟨c, hc⟩ hp]; exact H)))))))))
  · rcases h6 with rfl | rfl | rfl | rfl | rfl | rfl
    · exact vM_next (bx_t hp (bx_t (by decide) (bx_t (by decide) (nx_fin (by rw [nxT_o0 ⟨c, hc⟩ hp]; exact H)))))
    · exact vM_next (bx_t hp (bx_f (by decide) (bx_t (by decide) (bx_f (by decide) (bx_t (by decide) (bx_f (by decide) (nx_fin (by rw [nxT_o1 ⟨c, hc⟩ hp]; exact H))))))))
    · exact vM_next (bx_t hp (bx_f (by decide) (bx_f (by decide) (bx_t (by decide) (bx_f (by decide) (bx_t (by decide) (bx_f (by decide) (nx_fin (by rw [nxT_o2 ⟨c, hc⟩ hp]; exact H)))))))))
    · exact vM_next (bx_t hp (bx_f (by decide) (bx_f (by decide) (bx_t (by decide) (bx_f (by decide) (bx_f (by decide) (nx_fin (by rw [nxT_o3 ⟨c, hc⟩ hp]; exact H))))))))
    · exact vM_next (bx_t hp (bx_f (by decide) (bx_f (by decide) (bx_t (by decide) (bx_f (by decide) (bx_t (by decide) (bx_t (by decide) (nx_fin (by rw [nxT_o4 ⟨c, hc⟩ hp]; exact H)))))))))
    · exact vM_next (bx_t hp (bx_f (by decide) (bx_f (by decide) (bx_f (by decide) (bx_f (by decide) (bx_t (by decide) (bx_t (by decide) (nx_fin (by rw [nxT_o5 ⟨c, hc⟩ hp]; exact H)))))))))
theorem orL_assoc (x y z : Int64) : (x ||| y) ||| z = x ||| (y ||| z) := by
  apply Int64.toBitVec_inj.mp
  simp [BitVec.or_assoc]
theorem s_M_around {Ψ : Int64 → e_TI → e_TL → e_TD → Prop} {p : Nat → Bool} (H : Ψ (sL (aro p)) I L D) : e_M 242 [.long (sL p)] (S0 I L D sc) (e_rL sc Ψ) := by
  refine vM_around (loop_L (G := fun y i => e_Wp 242 5 [some (.long (sL p)), none, some (.long y), none, some (.int i), none] [] (S0 I L D sc) 0 0 (e_rL sc Ψ)) (fun a b => p a && adj a b) 63 (fun a y ha K0 K1 => ?_) ?_)
  · refine vM_around_p5 (bx_f (b_ge ha) ?_)
    have key : ∀ d, d ≤ 6 → e_Wp 242 15 [some (.long (sL p)), none, some (.long (y ||| sL (fun b => p a && (List.range d).any fun e => nb a e == some b))), none, some (.int (Int32.ofNat a)), some (.int (Int32.ofNat d))] [] (S0 I L D sc) 0 0 (e_rL sc Ψ) := by
      refine e_downInd 6 (fun d hd ih => ?_) ?_
      · refine vM_around_p15 (bx_f (b_ge hd) (s_M_has ha (bx_b (fun h0 => ?_) (fun h1 => s_M_next ha hd ?_))))
        · have : sL (fun b => p a && (List.range d).any fun e => nb a e == some b) = 0 := by
            rw [sL_eq0]
            intro i _
            rw [h0, Bool.false_and]
          rw [this, orL0]
          exact K0 (fun b _ => by rw [h0, Bool.false_and])
        · rw [o_s]
          cases hn : nb a d with
          | none =>
            refine bx_t (by decide) ?_
            have e : (sL fun b => p a && (List.range (d + 1)).any fun e => nb a e == some b) = sL fun b => p a && (List.range d).any fun e => nb a e == some b := by
              apply sL_congr
              intro b _
              rw [any_s, hn]
              rw [show ((none : Option Nat) == some b) = false from rfl, Bool.or_false]
            rw [e] at ih
            rw [orL0]
            exact ih
          | some q =>
            have hq := nb_lt ⟨a, ha⟩ ⟨d, hd⟩ q hn
            refine bx_f (b_nn (by omega)) (s_M_next ha hd ?_)
            rw [hn]
            show e_Wp 242 15 [some (.long (sL p)), none, some (.long ((y ||| sL (fun b => p a && (List.range d).any fun e => nb a e == some b)) ||| ((1 : Int64) <<< ((Int32.ofNat q).toInt64 &&& 63)))), none, some (.int (Int32.ofNat a)), some (.int (Int32.ofNat (d + 1)))] [] (S0 I L D sc) 0 0 (e_rL sc Ψ)
            rw [sL_only q hq, orL_assoc, sL_or]
            have e : (sL fun b => p a && (List.range (d + 1)).any fun e => nb a e == some b) = sL fun b => (p a && (List.range d).any fun e => nb a e == some b) || (b == q) := by
              apply sL_congr
              intro b _
              rw [any_s, hn, h1, Bool.true_and, Bool.true_and]
              congr 1
              show (some q == some b) = (b == q)
              rw [Bool.eq_iff_iff]
              simp only [beq_iff_eq, Option.some.injEq]
              exact eq_comm
            rw [e] at ih
            exact ih
      · exact vM_around_p15 (bx_t (b_self 6) (K1 _ (fun b _ => rfl)))
    have k0 := key 0 (Nat.zero_le _)
    have e0 : sL (fun b => p a && (List.range 0).any fun e => nb a e == some b) = 0 := by
      rw [sL_eq0]
      intro i _
      exact Bool.and_false _
    rw [e0, orL0] at k0
    exact k0
  · refine vM_around_p5 (bx_t (b_self 63) ?_)
    rw [sL_congr (q := aro p)]
    · exact H
    · intro c hc
      unfold aro
      by_cases h : c = 63
      · rw [decide_eq_false (by omega), Bool.false_and, List.any_eq_false]
        intro a ha hh
        have ha63 := List.mem_range.mp ha
        obtain ⟨d, hd, hn⟩ := adj_nb (Bool.and_eq_true _ _ ▸ hh).2
        have := nb_lt ⟨a, ha63⟩ ⟨d, hd⟩ c hn
        omega
      · rw [decide_eq_true (by omega), Bool.true_and]
theorem s_M_steps {Ψ : Int32 → e_TI → e_TL → e_TD → Prop} {a b : Nat} (ha : a < 63) (hb : b < 63) (H : Ψ (Int32.ofNat (dst a b)) I L D) : e_M 243 [.int (Int32.ofNat a), .int (Int32.ofNat b)] (S0 I L D sc) (e_rI sc Ψ) := by
  have key : ∀ n, n ≤ dst a b → e_Wp 243 6 [some (.int (Int32.ofNat a)), some (.int (Int32.ofNat b)), some (.int (Int32.ofNat n)), some (.long (sL (bal a n))), none] [] (S0 I L D sc) 0 0 (e_rI sc Ψ) := by
    refine e_downInd (dst a b) (fun n hn ih => ?_) ?_
    · refine vM_steps_p6 (s_M_has hb ?_)
      have : bal a n b = false := by
        unfold bal
        rw [decide_eq_false (p := dst a b ≤ n) (by omega), Bool.and_false]
      rw [this]
      refine bx_f (by decide) (s_M_around ?_)
      rw [sL_or, o_s, sL_congr (fun i _ => (bal_succ ha n i).symm)]
      exact ih
    · refine vM_steps_p6 (s_M_has hb ?_)
      have : bal a (dst a b) b = true := by
        unfold bal
        rw [decide_eq_true hb, decide_eq_true (Nat.le_refl _)]
        rfl
      rw [this]
      exact bx_t (by decide) H
  have k0 := key 0 (Nat.zero_le _)
  rw [sL_congr (fun i _ => bal_zero ha i)] at k0
  refine vM_steps ?_
  rw [sL_only a ha]
  exact k0
end
