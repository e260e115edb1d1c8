def e_rd (f : Nat → Int32) (n x : Int32) : Int32 := if x < 0 then 0 else if n ≤ x then 0 else f x.toNatClampNeg
def e_rdL (f : Nat → Int64) (n x : Int32) : Int64 := if x < 0 then 0 else if n ≤ x then 0 else f x.toNatClampNeg
theorem e_vin2 {x n : Int32} {m : Nat} (h1 : ¬ x < 0) (h2 : ¬ n ≤ x) (h3 : n.toInt = m) : vp_in x m := by
  intro h
  rcases h with h | h
  · exact h1 h
  · apply h2
    rw [Int32.le_iff_toInt_le, h3]
    rw [Int32.toNatClampNeg] at h
    omega
theorem v_read7 {x : Int32} {I : Nat → Nat → Int32} {L : Nat → Nat → Int64} {D : Nat → Nat → UInt64} {sc : Nat × (Nat → Int32)} {Φ : e_O → e_H → Prop}
    (H : ((x < 0 → Φ (.inl (some (.int 0))) (S0 I L D sc)) ∧ (¬ (x < 0) → ((16 ≤ x → Φ (.inl (some (.int 0))) (S0 I L D sc)) ∧ (¬ (16 ≤ x) → (vp_in x 16 ∧ Φ (.inl (some (.int (I 7 x.toNatClampNeg)))) (S0 I L D sc))))))) : e_M 36 [.ref 7, .int x] (S0 I L D sc) Φ :=
  e_M_of (by decide +kernel) (e_ln0 rfl) (e_run_ok (cut := []) e_k36 rfl rfl 14 0 _ _ _ _ _ (And.intro (fun c2 => ((H).1 c2)) (fun c2 => And.intro (fun c1 => ((((H).2 c2)).1 c1)) (fun c1 => And.intro (((((H).2 c2)).2 c1)).1 ((((((H).2 c2)).2 c1)).2)))))
theorem s_read7 {x : Int32} {I : Nat → Nat → Int32} {L : Nat → Nat → Int64} {D : Nat → Nat → UInt64} {sc : Nat × (Nat → Int32)} {Φ : e_O → e_H → Prop} (H : Φ (.inl (some (.int (e_rd (I 7) 16 x)))) (S0 I L D sc)) : e_M 36 [.ref 7, .int x] (S0 I L D sc) Φ := by
  refine v_read7 ⟨fun c => ?_, fun c => ⟨fun c2 => ?_, fun c2 => ⟨e_vin2 c c2 (by decide), ?_⟩⟩⟩
  · simpa only [e_rd, if_pos c] using H
  · simpa only [e_rd, if_neg c, if_pos c2] using H
  · simpa only [e_rd, if_neg c, if_neg c2] using H
theorem v_read8 {x : Int32} {I : Nat → Nat → Int32} {L : Nat → Nat → Int64} {D : Nat → Nat → UInt64} {sc : Nat × (Nat → Int32)} {Φ : e_O → e_H → Prop}
    (H : ((x < 0 → Φ (.inl (some (.int 0))) (S0 I L D sc)) ∧ (¬ (x < 0) → ((16 ≤ x → Φ (.inl (some (.int 0))) (S0 I L D sc)) ∧ (¬ (16 ≤ x) → (vp_in x 16 ∧ Φ (.inl (some (.int (I 8 x.toNatClampNeg)))) (S0 I L D sc))))))) : e_M 36 [.ref 8, .int x] (S0 I L D sc) Φ :=
  e_M_of (by decide +kernel) (e_ln0 rfl) (e_run_ok (cut := []) e_k36 rfl rfl 14 0 _ _ _ _ _ (And.intro (fun c2 => ((H).1 c2)) (fun c2 => And.intro (fun c1 => ((((H).2 c2)).1 c1)) (fun c1 => And.intro (((((H).2 c2)).2 c1)).1 ((((((H).2 c2)).2 c1)).2)))))
theorem s_read8 {x : Int32} {I : Nat → Nat → Int32} {L : Nat → Nat → Int64} {D : Nat → Nat → UInt64} {sc : Nat × (Nat → Int32)} {Φ : e_O → e_H → Prop} (H : Φ (.inl (some (.int (e_rd (I 8) 16 x)))) (S0 I L D sc)) : e_M 36 [.ref 8, .int x] (S0 I L D sc) Φ := by
  refine v_read8 ⟨fun c => ?_, fun c => ⟨fun c2 => ?_, fun c2 => ⟨e_vin2 c c2 (by decide), ?_⟩⟩⟩
  · simpa only [e_rd, if_pos c] using H
  · simpa only [e_rd, if_neg c, if_pos c2] using H
  · simpa only [e_rd, if_neg c, if_neg c2] using H
theorem v_read9 {x : Int32} {I : Nat → Nat → Int32} {L : Nat → Nat → Int64} {D : Nat → Nat → UInt64} {sc : Nat × (Nat → Int32)} {Φ : e_O → e_H → Prop}
    (H : ((x < 0 → Φ (.inl (some (.int 0))) (S0 I L D sc)) ∧ (¬ (x < 0) → ((16 ≤ x → Φ (.inl (some (.int 0))) (S0 I L D sc)) ∧ (¬ (16 ≤ x) → (vp_in x 16 ∧ Φ (.inl (some (.int (I 9 x.toNatClampNeg)))) (S0 I L D sc))))))) : e_M 36 [.ref 9, .int x] (S0 I L D sc) Φ :=
  e_M_of (by decide +kernel) (e_ln0 rfl) (e_run_ok (cut := []) e_k36 rfl rfl 14 0 _ _ _ _ _ (And.intro (fun c2 => ((H).1 c2)) (fun c2 => And.intro (fun c1 => ((((H).2 c2)).1 c1)) (fun c1 => And.intro (((((H).2 c2)).2 c1)).1 ((((((H).2 c2)).2 c1)).2)))))
theorem s_read9 {x : Int32} {I : Nat → Nat → Int32} {L : Nat → Nat → Int64} {D : Nat → Nat → UInt64} {sc : Nat × (Nat → Int32)} {Φ : e_O → e_H → Prop} (H : Φ (.inl (some (.int (e_rd (I 9) 16 x)))) (S0 I L D sc)) : e_M 36 [.ref 9, .int x] (S0 I L D sc) Φ := by
  refine v_read9 ⟨fun c => ?_, fun c => ⟨fun c2 => ?_, fun c2 => ⟨e_vin2 c c2 (by decide), ?_⟩⟩⟩
  · simpa only [e_rd, if_pos c] using H
  · simpa only [e_rd, if_neg c, if_pos c2] using H
  · simpa only [e_rd, if_neg c, if_neg c2] using H
theorem v_read10 {x : Int32} {I : Nat → Nat → Int32} {L : Nat → Nat → Int64} {D : Nat → Nat → UInt64} {sc : Nat × (Nat → Int32)} {Φ : e_O → e_H → Prop}
    (H : ((x < 0 → Φ (.inl (some (.int 0))) (S0 I L D sc)) ∧ (¬ (x < 0) → ((2 ≤ x → Φ (.inl (some (.int 0))) (S0 I L D sc)) ∧ (¬ (2 ≤ x) → (vp_in x 2 ∧ Φ (.inl (some (.int (I 10 x.toNatClampNeg)))) (S0 I L D sc))))))) : e_M 36 [.ref 10, .int x] (S0 I L D sc) Φ :=
  e_M_of (by decide +kernel) (e_ln0 rfl) (e_run_ok (cut := []) e_k36 rfl rfl 14 0 _ _ _ _ _ (And.intro (fun c2 => ((H).1 c2)) (fun c2 => And.intro (fun c1 => ((((H).2 c2)).1 c1)) (fun c1 => And.intro (((((H).2 c2)).2 c1)).1 ((((((H).2 c2)).2 c1)).2)))))
theorem s_read10 {x : Int32} {I : Nat → Nat → Int32} {L : Nat → Nat → Int64} {D : Nat → Nat → UInt64} {sc : Nat × (Nat → Int32)} {Φ : e_O → e_H → Prop} (H : Φ (.inl (some (.int (e_rd (I 10) 2 x)))) (S0 I L D sc)) : e_M 36 [.ref 10, .int x] (S0 I L D sc) Φ := by
  refine v_read10 ⟨fun c => ?_, fun c => ⟨fun c2 => ?_, fun c2 => ⟨e_vin2 c c2 (by decide), ?_⟩⟩⟩
  · simpa only [e_rd, if_pos c] using H
  · simpa only [e_rd, if_neg c, if_pos c2] using H
  · simpa only [e_rd, if_neg c, if_neg c2] using H
theorem v_read11 {x : Int32} {I : Nat → Nat → Int32} {L : Nat → Nat → Int64} {D : Nat → Nat → UInt64} {sc : Nat × (Nat → Int32)} {Φ : e_O → e_H → Prop}
    (H : ((x < 0 → Φ (.inl (some (.int 0))) (S0 I L D sc)) ∧ (¬ (x < 0) → ((2 ≤ x → Φ (.inl (some (.int 0))) (S0 I L D sc)) ∧ (¬ (2 ≤ x) → (vp_in x 2 ∧ Φ (.inl (some (.int (I 11 x.toNatClampNeg)))) (S0 I L D sc))))))) : e_M 36 [.ref 11, .int x] (S0 I L D sc) Φ :=
  e_M_of (by decide +kernel) (e_ln0 rfl) (e_run_ok (cut := []) e_k36 rfl rfl 14 0 _ _ _ _ _ (And.intro (fun c2 => ((H).1 c2)) (fun c2 => And.intro (fun c1 => ((((H).2 c2)).1 c1)) (fun c1 => And.intro (((((H).2 c2)).2 c1)).1 ((((((H).2 c2)).2 c1)).2)))))
theorem s_read11 {x : Int32} {I : Nat → Nat → Int32} {L : Nat → Nat → Int64} {D : Nat → Nat → UInt64} {sc : Nat × (Nat → Int32)} {Φ : e_O → e_H → Prop} (H : Φ (.inl (some (.int (e_rd (I 11) 2 x)))) (S0 I L D sc)) : e_M 36 [.ref 11, .int x] (S0 I L D sc) Φ := by
  refine v_read11 ⟨fun c => ?_, fun c => ⟨fun c2 => ?_, fun c2 => ⟨e_vin2 c c2 (by decide), ?_⟩⟩⟩
  · simpa only [e_rd, if_pos c] using H
  · simpa only [e_rd, if_neg c, if_pos c2] using H
  · simpa only [e_rd, if_neg c, if_neg c2] using H
theorem v_read12 {x : Int32} {I : Nat → Nat → Int32} {L : Nat → Nat → Int64} {D : Nat → Nat → UInt64} {sc : Nat × (Nat → Int32)} {Φ : e_O → e_H → Prop}
    (H : ((x < 0 → Φ (.inl (some (.int 0))) (S0 I L D sc)) ∧ (¬ (x < 0) → ((2 ≤ x → Φ (.inl (some (.int 0))) (S0 I L D sc)) ∧ (¬ (2 ≤ x) → (vp_in x 2 ∧ Φ (.inl (some (.int (I 12 x.toNatClampNeg)))) (S0 I L D sc))))))) : e_M 36 [.ref 12, .int x] (S0 I L D sc) Φ :=
  e_M_of (by decide +kernel) (e_ln0 rfl) (e_run_ok (cut := []) e_k36 rfl rfl 14 0 _ _ _ _ _ (And.intro (fun c2 => ((H).1 c2)) (fun c2 => And.intro (fun c1 => ((((H).2 c2)).1 c1)) (fun c1 => And.intro (((((H).2 c2)).2 c1)).1 ((((((H).2 c2)).2 c1)).2)))))
theorem s_read12 {x : Int32} {I : Nat → Nat → Int32} {L : Nat → Nat → Int64} {D : Nat → Nat → UInt64} {sc : Nat × (Nat → Int32)} {Φ : e_O → e_H → Prop} (H : Φ (.inl (some (.int (e_rd (I 12) 2 x)))) (S0 I L D sc)) : e_M 36 [.ref 12, .int x] (S0 I L D sc) Φ := by
  refine v_read12 ⟨fun c => ?_, fun c => ⟨fun c2 => ?_, fun c2 => ⟨e_vin2 c c2 (by decide), ?_⟩⟩⟩
  · simpa only [e_rd, if_pos c] using H
  · simpa only [e_rd, if_neg c, if_pos c2] using H
  · simpa only [e_rd, if_neg c, if_neg c2] using H
theorem v_read13 {x : Int32} {I : Nat → Nat → Int32} {L : Nat → Nat → Int64} {D : Nat → Nat → UInt64} {sc : Nat × (Nat → Int32)} {Φ : e_O → e_H → Prop}
    (H : ((x < 0 → Φ (.inl (some (.int 0))) (S0 I L D sc)) ∧ (¬ (x < 0) → ((2 ≤ x → Φ (.inl (some (.int 0))) (S0 I L D sc)) ∧ (¬ (2 ≤ x) → (vp_in x 2 ∧ Φ (.inl (some (.int (I 13 x.toNatClampNeg)))) (S0 I L D sc))))))) : e_M 36 [.ref 13, .int x] (S0 I L D sc) Φ :=
  e_M_of (by decide +kernel) (e_ln0 rfl) (e_run_ok (cut := []) e_k36 rfl rfl 14 0 _ _ _ _ _ (And.intro (fun c2 => ((H).1 c2)) (fun c2 => And.intro (fun c1 => ((((H).2 c2)).1 c1)) (fun c1 => And.intro (((((H).2 c2)).2 c1)).1 ((((((H).2 c2)).2 c1)).2)))))
theorem s_read13 {x : Int32} {I : Nat → Nat → Int32} {L : Nat → Nat → Int64} {D : Nat → Nat → UInt64} {sc : Nat × (Nat → Int32)} {Φ : e_O → e_H → Prop} (H : Φ (.inl (some (.int (e_rd (I 13) 2 x)))) (S0 I L D sc)) : e_M 36 [.ref 13, .int x] (S0 I L D sc) Φ := by
  refine v_read13 ⟨fun c => ?_, fun c => ⟨fun c2 => ?_, fun c2 => ⟨e_vin2 c c2 (by decide), ?_⟩⟩⟩
  · simpa only [e_rd, if_pos c] using H
  · simpa only [e_rd, if_neg c, if_pos c2] using H
  · simpa only [e_rd, if_neg c, if_neg c2] using H
theorem v_read135 {x : Int32} {I : Nat → Nat → Int32} {L : Nat → Nat → Int64} {D : Nat → Nat → UInt64} {sc : Nat × (Nat → Int32)} {Φ : e_O → e_H → Prop}
    (H : ((x < 0 → Φ (.inl (some (.int 0))) (S0 I L D sc)) ∧ (¬ (x < 0) → ((3 ≤ x → Φ (.inl (some (.int 0))) (S0 I L D sc)) ∧ (¬ (3 ≤ x) → (vp_in x 3 ∧ Φ (.inl (some (.int (I 135 x.toNatClampNeg)))) (S0 I L D sc))))))) : e_M 36 [.ref 135, .int x] (S0 I L D sc) Φ :=
  e_M_of (by decide +kernel) (e_ln0 rfl) (e_run_ok (cut := []) e_k36 rfl rfl 14 0 _ _ _ _ _ (And.intro (fun c2 => ((H).1 c2)) (fun c2 => And.intro (fun c1 => ((((H).2 c2)).1 c1)) (fun c1 => And.intro (((((H).2 c2)).2 c1)).1 ((((((H).2 c2)).2 c1)).2)))))
theorem s_read135 {x : Int32} {I : Nat → Nat → Int32} {L : Nat → Nat → Int64} {D : Nat → Nat → UInt64} {sc : Nat × (Nat → Int32)} {Φ : e_O → e_H → Prop} (H : Φ (.inl (some (.int (e_rd (I 135) 3 x)))) (S0 I L D sc)) : e_M 36 [.ref 135, .int x] (S0 I L D sc) Φ := by
  refine v_read135 ⟨fun c => ?_, fun c => ⟨fun c2 => ?_, fun c2 => ⟨e_vin2 c c2 (by decide), ?_⟩⟩⟩
  · simpa only [e_rd, if_pos c] using H
  · simpa only [e_rd, if_neg c, if_pos c2] using H
  · simpa only [e_rd, if_neg c, if_neg c2] using H
theorem v_read136 {x : Int32} {I : Nat → Nat → Int32} {L : Nat → Nat → Int64} {D : Nat → Nat → UInt64} {sc : Nat × (Nat → Int32)} {Φ : e_O → e_H → Prop}
    (H : ((x < 0 → Φ (.inl (some (.int 0))) (S0 I L D sc)) ∧ (¬ (x < 0) → ((3 ≤ x → Φ (.inl (some (.int 0))) (S0 I L D sc)) ∧ (¬ (3 ≤ x) → (vp_in x 3 ∧ Φ (.inl (some (.int (I 136 x.toNatClampNeg)))) (S0 I L D sc))))))) : e_M 36 [.ref 136, .int x] (S0 I L D sc) Φ :=
  e_M_of (by decide +kernel) (e_ln0 rfl) (e_run_ok (cut := []) e_k36 rfl rfl 14 0 _ _ _ _ _ (And.intro (fun c2 => ((H).1 c2)) (fun c2 => And.intro (fun c1 => ((((H).2 c2)).1 c1)) (fun c1 => And.intro (((((H).2 c2)).2 c1)).1 ((((((H).2 c2)).2 c1)).2)))))
theorem s_read136 {x : Int32} {I : Nat → Nat → Int32} {L : Nat → Nat → Int64} {D : Nat → Nat → UInt64} {sc : Nat × (Nat → Int32)} {Φ : e_O → e_H → Prop} (H : Φ (.inl (some (.int (e_rd (I 136) 3 x)))) (S0 I L D sc)) : e_M 36 [.ref 136, .int x] (S0 I L D sc) Φ := by
  refine v_read136 ⟨fun c => ?_, fun c => ⟨fun c2 => ?_, fun c2 => ⟨e_vin2 c c2 (by decide), ?_⟩⟩⟩
  · simpa only [e_rd, if_pos c] using H
  · simpa only [e_rd, if_neg c, if_pos c2] using H
  · simpa only [e_rd, if_neg c, if_neg c2] using H
