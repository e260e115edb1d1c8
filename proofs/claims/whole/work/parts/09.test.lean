theorem e_k36 : e_chk 36 := ⟨e_ok36, e_wk36⟩
def zz_lay : List e_C := [.inr (.inl (0, 16)), .inr (.inl (0, 16)), .inr (.inl (0, 16)), .inr (.inl (0, 16))]
/-- Row.read -/
theorem zz_read {i : Int32} {I : Nat → Nat → Int32} {L D sc fl} {Φ : e_O → e_H → Prop}
    (H : (i < 0 → Φ (.inl (some (.int 0))) (zz_lay, I, L, D, sc, fl)) ∧ (¬ i < 0 → (Int32.ofNat 16 ≤ i → Φ (.inl (some (.int 0))) (zz_lay, I, L, D, sc, fl)) ∧ (¬ Int32.ofNat 16 ≤ i → vp_in i 16 ∧ Φ (.inl (some (.int (I 2 i.toNatClampNeg)))) (zz_lay, I, L, D, sc, fl)))) : e_Wp 36 0 [some (.ref 2), some (.int i)] [] (zz_lay, I, L, D, sc, fl) 0 0 Φ := by
  refine e_run_ok (cut := []) e_k36 rfl rfl 20 0 _ _ _ _ _ ?_
  exact H
