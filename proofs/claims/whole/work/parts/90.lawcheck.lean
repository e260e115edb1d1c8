/-! the law: every instruction is checked -/
theorem e_ok308_0 : ((e_c308.drop 0).take 100).all (e_ck 308) = true := by decide +kernel
theorem e_ok308_1 : ((e_c308.drop 100).take 100).all (e_ck 308) = true := by decide +kernel
theorem e_ok308_2 : ((e_c308.drop 200).take 100).all (e_ck 308) = true := by decide +kernel
theorem e_ok308_3 : ((e_c308.drop 300).take 100).all (e_ck 308) = true := by decide +kernel
theorem e_ok308_4 : ((e_c308.drop 400).take 100).all (e_ck 308) = true := by decide +kernel
theorem e_ok308_5 : ((e_c308.drop 500).take 100).all (e_ck 308) = true := by decide +kernel
theorem e_ok308_6 : ((e_c308.drop 600).take 100).all (e_ck 308) = true := by decide +kernel
theorem e_ok308_7 : ((e_c308.drop 700).take 100).all (e_ck 308) = true := by decide +kernel
theorem e_ok308_8 : ((e_c308.drop 800).take 100).all (e_ck 308) = true := by decide +kernel
theorem e_ok308_9 : ((e_c308.drop 900).take 100).all (e_ck 308) = true := by decide +kernel
theorem e_ok308_10 : ((e_c308.drop 1000).take 100).all (e_ck 308) = true := by decide +kernel
theorem e_ok308_11 : ((e_c308.drop 1100).take 100).all (e_ck 308) = true := by decide +kernel
theorem e_ok308_12 : ((e_c308.drop 1200).take 100).all (e_ck 308) = true := by decide +kernel
theorem e_split2 {α : Type} {p : α → Prop} (l : List α) (n : Nat) (h1 : ∀ w ∈ (l.drop n).take 100, p w) (h2 : ∀ w ∈ l.drop (n + 100), p w) : ∀ w ∈ l.drop n, p w := e_split _ 100 h1 (by rw [List.drop_drop]; exact h2)
theorem e_ok308 : e_c308.all (e_ck 308) = true := by
  refine List.all_eq_true.mpr ?_
  refine e_split2 (p := fun w => e_ck 308 w = true) e_c308 0 (List.all_eq_true.mp e_ok308_0) ?_
  refine e_split2 (p := fun w => e_ck 308 w = true) e_c308 100 (List.all_eq_true.mp e_ok308_1) ?_
  refine e_split2 (p := fun w => e_ck 308 w = true) e_c308 200 (List.all_eq_true.mp e_ok308_2) ?_
  refine e_split2 (p := fun w => e_ck 308 w = true) e_c308 300 (List.all_eq_true.mp e_ok308_3) ?_
  refine e_split2 (p := fun w => e_ck 308 w = true) e_c308 400 (List.all_eq_true.mp e_ok308_4) ?_
  refine e_split2 (p := fun w => e_ck 308 w = true) e_c308 500 (List.all_eq_true.mp e_ok308_5) ?_
  refine e_split2 (p := fun w => e_ck 308 w = true) e_c308 600 (List.all_eq_true.mp e_ok308_6) ?_
  refine e_split2 (p := fun w => e_ck 308 w = true) e_c308 700 (List.all_eq_true.mp e_ok308_7) ?_
  refine e_split2 (p := fun w => e_ck 308 w = true) e_c308 800 (List.all_eq_true.mp e_ok308_8) ?_
  refine e_split2 (p := fun w => e_ck 308 w = true) e_c308 900 (List.all_eq_true.mp e_ok308_9) ?_
  refine e_split2 (p := fun w => e_ck 308 w = true) e_c308 1000 (List.all_eq_true.mp e_ok308_10) ?_
  refine e_split2 (p := fun w => e_ck 308 w = true) e_c308 1100 (List.all_eq_true.mp e_ok308_11) ?_
  exact fun w hw => List.all_eq_true.mp e_ok308_12 w (by rw [List.take_of_length_le (by decide +kernel)]; exact hw)
set_option maxRecDepth 100000 in
theorem e_wk308 : e_wok (e_c308.flatMap (e_wds 308 (e_nm 308).cls)) := ⟨rfl, rfl⟩
