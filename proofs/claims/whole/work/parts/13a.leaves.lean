/-! what each method does, its calls left as contracts: leaves -/
set_option maxRecDepth 20000 in
theorem vH_apart {x : Int32} {y : Int32} {I : e_TI} {L : e_TL} {D : e_TD} {sc : e_TS} {Ψ : Int32 → e_TI → e_TL → e_TD → Prop}
    (H : e_M 80 [.int y] (S0 I L D sc) (e_rI sc (fun r1 I1 L1 D1 => e_M 80 [.int x] (S0 I1 L1 D1 sc) (e_rI sc (fun r2 I2 L2 D2 => e_M 81 [.int (((y / 9) - (x / 9)) + (r1 - r2))] (S0 I2 L2 D2 sc) (e_rI sc (fun r3 I3 L3 D3 => e_M 81 [.int ((y / 9) - (x / 9))] (S0 I3 L3 D3 sc) (e_rI sc (fun r4 I4 L4 D4 => e_M 81 [.int (r1 - r2)] (S0 I4 L4 D4 sc) (e_rI sc (fun r5 I5 L5 D5 => e_M 82 [.int r4, .int r5] (S0 I5 L5 D5 sc) (e_rI sc (fun r6 I6 L6 D6 => e_M 82 [.int r3, .int r6] (S0 I6 L6 D6 sc) (e_rI sc (fun r7 I7 L7 D7 => Ψ r7 I7 L7 D7))))))))))))))) : e_M 83 [.int x, .int y] (S0 I L D sc) (e_rI sc Ψ) :=
  e_M_go e_q83 e_k83 [] 27 (by decide +kernel) rfl rfl (e_M.mono (H) (e_gI (fun r1 I1 L1 D1 H1 => e_M.mono (H1) (e_gI (fun r2 I2 L2 D2 H2 => e_M.mono (H2) (e_gI (fun r3 I3 L3 D3 H3 => e_M.mono (H3) (e_gI (fun r4 I4 L4 D4 H4 => e_M.mono (H4) (e_gI (fun r5 I5 L5 D5 H5 => e_M.mono (H5) (e_gI (fun r6 I6 L6 D6 H6 => e_M.mono (H6) (e_gI (fun r7 I7 L7 D7 H7 => e_rIi H7))))))))))))))) (e_h0 rfl)
set_option maxRecDepth 20000 in
theorem vH_around {x : Int64} {I : e_TI} {L : e_TL} {D : e_TD} {sc : e_TS} {Ψ : Int64 → e_TI → e_TL → e_TD → Prop}
    (H : Ψ (((((((x &&& (-18049651735527938)).toUInt64 >>> ((1 : Int32).toInt64.toUInt64 &&& Int64.toUInt64 63)).toInt64) ||| ((x &&& (-4620710844295151873)) <<< ((1 : Int32).toInt64 &&& 63))) ||| (((x ||| ((((x &&& (-18049651735527938)).toUInt64 >>> ((1 : Int32).toInt64.toUInt64 &&& Int64.toUInt64 63)).toInt64) &&& 9205392754131862015)) ||| (((x &&& (-4620710844295151873)) <<< ((1 : Int32).toInt64 &&& 63)) &&& (-9205392754131862016))) <<< ((9 : Int32).toInt64 &&& 63))) ||| ((((x ||| ((((x &&& (-18049651735527938)).toUInt64 >>> ((1 : Int32).toInt64.toUInt64 &&& Int64.toUInt64 63)).toInt64) &&& 9205392754131862015)) ||| (((x &&& (-4620710844295151873)) <<< ((1 : Int32).toInt64 &&& 63)) &&& (-9205392754131862016))).toUInt64 >>> ((9 : Int32).toInt64.toUInt64 &&& Int64.toUInt64 63)).toInt64)) &&& 9223372036854775807) I L D) : e_M 32 [.long x] (S0 I L D sc) (e_rL sc Ψ) :=
  e_M_go e_q32 e_k32 [] 38 (by decide +kernel) rfl rfl (e_rLi H) (e_h0 rfl)
set_option maxRecDepth 20000 in
theorem vH_at {x : Int32} {y : Int32} {I : e_TI} {L : e_TL} {D : e_TD} {sc : e_TS} {Ψ : Int32 → e_TI → e_TL → e_TD → Prop}
    (H : ((x < 0 → Ψ (-1) I L D) ∧ (¬ (x < 0) → ((7 ≤ x → Ψ (-1) I L D) ∧ (¬ (7 ≤ x) → ((y < 0 → Ψ (-1) I L D) ∧ (¬ (y < 0) → ((9 ≤ y → Ψ (-1) I L D) ∧ (¬ (9 ≤ y) → Ψ ((9 * x) + y) I L D))))))))) : e_M 76 [.int x, .int y] (S0 I L D sc) (e_rI sc Ψ) :=
  e_M_go e_q76 e_k76 [] 26 (by decide +kernel) rfl rfl (And.intro (fun c4 => And.intro (fun _ => e_rIi ((H).1 c4)) (fun (h : ¬ ((0 : Int32) = 0)) => absurd (by decide) h)) (fun c4 => And.intro (fun c3 => And.intro (fun _ => e_rIi ((((H).2 c4)).1 c3)) (fun (h : ¬ ((0 : Int32) = 0)) => absurd (by decide) h)) (fun c3 => And.intro (fun c2 => And.intro (fun _ => e_rIi ((((((H).2 c4)).2 c3)).1 c2)) (fun (h : ¬ ((0 : Int32) = 0)) => absurd (by decide) h)) (fun c2 => And.intro (fun c1 => And.intro (fun _ => e_rIi ((((((((H).2 c4)).2 c3)).2 c2)).1 c1)) (fun (h : ¬ ((0 : Int32) = 0)) => absurd (by decide) h)) (fun c1 => And.intro (fun (h : (1 : Int32) = 0) => absurd h (by decide)) (fun _ => e_rIi ((((((((H).2 c4)).2 c3)).2 c2)).2 c1))))))) (e_h0 rfl)
set_option maxRecDepth 20000 in
theorem vH_beside {x : Int32} {y : Int32} {I : e_TI} {L : e_TL} {D : e_TD} {sc : e_TS} {Ψ : Int32 → e_TI → e_TL → e_TD → Prop}
    (H : ((y = 0 → e_M 76 [.int (x / 9), .int ((x - x / 9 * 9) + 1)] (S0 I L D sc) (e_rI sc (fun r1 I1 L1 D1 => Ψ r1 I1 L1 D1))) ∧ (¬ (y = 0) → ((y = 1 → e_M 76 [.int ((x / 9) - 1), .int ((x - x / 9 * 9) + ((x / 9) - (x / 9) / 2 * 2))] (S0 I L D sc) (e_rI sc (fun r2 I2 L2 D2 => Ψ r2 I2 L2 D2))) ∧ (¬ (y = 1) → ((y = 2 → e_M 76 [.int ((x / 9) - 1), .int (((x - x / 9 * 9) + ((x / 9) - (x / 9) / 2 * 2)) - 1)] (S0 I L D sc) (e_rI sc (fun r3 I3 L3 D3 => Ψ r3 I3 L3 D3))) ∧ (¬ (y = 2) → ((y = 3 → e_M 76 [.int (x / 9), .int ((x - x / 9 * 9) - 1)] (S0 I L D sc) (e_rI sc (fun r4 I4 L4 D4 => Ψ r4 I4 L4 D4))) ∧ (¬ (y = 3) → ((y = 4 → e_M 76 [.int ((x / 9) + 1), .int (((x - x / 9 * 9) + ((x / 9) - (x / 9) / 2 * 2)) - 1)] (S0 I L D sc) (e_rI sc (fun r5 I5 L5 D5 => Ψ r5 I5 L5 D5))) ∧ (¬ (y = 4) → ((y = 5 → e_M 76 [.int ((x / 9) + 1), .int ((x - x / 9 * 9) + ((x / 9) - (x / 9) / 2 * 2))] (S0 I L D sc) (e_rI sc (fun r6 I6 L6 D6 => Ψ r6 I6 L6 D6))) ∧ (¬ (y = 5) → Ψ (-1) I L D))))))))))))) : e_M 77 [.int x, .int y] (S0 I L D sc) (e_rI sc Ψ) :=
  e_M_go e_q77 e_k77 [] 66 (by decide +kernel) rfl rfl (And.intro (fun c12 => e_M.mono (((H).1 c12)) (e_gI (fun r1 I1 L1 D1 H1 => e_rIi H1))) (fun c12 => And.intro (fun c11 => e_M.mono (((((H).2 c12)).1 c11)) (e_gI (fun r2 I2 L2 D2 H2 => e_rIi H2))) (fun c11 => And.intro (fun c10 => e_M.mono (((((((H).2 c12)).2 c11)).1 c10)) (e_gI (fun r3 I3 L3 D3 H3 => e_rIi H3))) (fun c10 => And.intro (fun c9 => e_M.mono (((((((((H).2 c12)).2 c11)).2 c10)).1 c9)) (e_gI (fun r4 I4 L4 D4 H4 => e_rIi H4))) (fun c9 => And.intro (fun c8 => e_M.mono (((((((((((H).2 c12)).2 c11)).2 c10)).2 c9)).1 c8)) (e_gI (fun r5 I5 L5 D5 H5 => e_rIi H5))) (fun c8 => And.intro (fun c7 => e_M.mono (((((((((((((H).2 c12)).2 c11)).2 c10)).2 c9)).2 c8)).1 c7)) (e_gI (fun r6 I6 L6 D6 H6 => e_rIi H6))) (fun c7 => e_rIi ((((((((((((H).2 c12)).2 c11)).2 c10)).2 c9)).2 c8)).2 c7)))))))) (e_h0 rfl)
set_option maxRecDepth 20000 in
theorem vH_has {x : Int64} {y : Int32} {I : e_TI} {L : e_TL} {D : e_TD} {sc : e_TS} {Ψ : Int32 → e_TI → e_TL → e_TD → Prop}
    (H : (((((x.toUInt64 >>> (y.toInt64.toUInt64 &&& Int64.toUInt64 63)).toInt64) &&& 1) = 0 → Ψ 0 I L D) ∧ (¬ (((x.toUInt64 >>> (y.toInt64.toUInt64 &&& Int64.toUInt64 63)).toInt64) &&& 1) = 0 → Ψ 1 I L D))) : e_M 46 [.long x, .int y] (S0 I L D sc) (e_rI sc Ψ) :=
  e_M_go e_q46 e_k46 [] 14 (by decide +kernel) rfl rfl (And.intro (fun c1 => And.intro (Or.inl rfl) (e_rIi ((H).1 ((lg_cmp_eq _ _).mp c1)))) (fun c1 => And.intro (Or.inr rfl) (e_rIi ((H).2 (mt (lg_cmp_eq _ _).mpr c1))))) (e_h0 rfl)
set_option maxRecDepth 20000 in
theorem vH_lowest {x : Int64} {I : e_TI} {L : e_TL} {D : e_TD} {sc : e_TS} {Ψ : Int32 → e_TI → e_TL → e_TD → Prop}
    (H : e_Wp 135 2 [some (.long x), none, some (.int 0)] [] (S0 I L D sc) 0 0 (e_rI sc Ψ)) : e_M 135 [.long x] (S0 I L D sc) (e_rI sc Ψ) :=
  e_M_go e_q135 e_k135 [2] 17 (by decide +kernel) rfl rfl (H) (e_h0 rfl)
set_option maxRecDepth 20000 in
theorem vH_lowest_p2 {y0 : Int64} {x2 : Int32} {I : e_TI} {L : e_TL} {D : e_TD} {sc : e_TS} {Ψ : Int32 → e_TI → e_TL → e_TD → Prop}
    (H : ((63 ≤ x2 → Ψ (-1) I L D) ∧ (¬ (63 ≤ x2) → e_M 46 [.long y0, .int x2] (S0 I L D sc) (e_rI sc (fun r1 I1 L1 D1 => ((r1 = 0 → e_Wp 135 2 [some (.long y0), none, some (.int (x2 + 1))] [] (S0 I1 L1 D1 sc) 0 0 (e_rI sc Ψ)) ∧ (¬ (r1 = 0) → Ψ x2 I1 L1 D1))))))) : e_Wp 135 2 [some (.long y0), none, some (.int x2)] [] (S0 I L D sc) 0 0 (e_rI sc Ψ) :=
  e_W_go e_q135 e_k135 [2] 17 2 (And.intro (fun c3 => e_rIi ((H).1 c3)) (fun c3 => e_M.mono (((H).2 c3)) (e_gI (fun r1 I1 L1 D1 H1 => And.intro (fun c2 => ((H1).1 c2)) (fun c2 => e_rIi ((H1).2 c2))))))
set_option maxRecDepth 20000 in
theorem vH_only {x : Int32} {I : e_TI} {L : e_TL} {D : e_TD} {sc : e_TS} {Ψ : Int64 → e_TI → e_TL → e_TD → Prop}
    (H : Ψ ((1 : Int64) <<< (x.toInt64 &&& 63)) I L D) : e_M 28 [.int x] (S0 I L D sc) (e_rL sc Ψ) :=
  e_M_go e_q28 e_k28 [] 6 (by decide +kernel) rfl rfl (e_rLi H) (e_h0 rfl)
set_option maxRecDepth 20000 in
theorem vH_slant {x : Int32} {I : e_TI} {L : e_TL} {D : e_TD} {sc : e_TS} {Ψ : Int32 → e_TI → e_TL → e_TD → Prop}
    (H : Ψ ((x - x / 9 * 9) - ((x / 9) / 2)) I L D) : e_M 80 [.int x] (S0 I L D sc) (e_rI sc Ψ) :=
  e_M_go e_q80 e_k80 [] 12 (by decide +kernel) rfl rfl (e_rIi H) (e_h0 rfl)
set_option maxRecDepth 20000 in
theorem vJ_Integer_bitCount {x : Int32} {I : e_TI} {L : e_TL} {D : e_TD} {sc : e_TS} {Ψ : Int32 → e_TI → e_TL → e_TD → Prop}
    (H : Ψ ((((((((x - (((x.toUInt32 >>> ((1 : Int32).toUInt32 &&& Int32.toUInt32 31)).toInt32) &&& 1431655765)) &&& 858993459) + ((((x - (((x.toUInt32 >>> ((1 : Int32).toUInt32 &&& Int32.toUInt32 31)).toInt32) &&& 1431655765)).toUInt32 >>> ((2 : Int32).toUInt32 &&& Int32.toUInt32 31)).toInt32) &&& 858993459)) + (((((x - (((x.toUInt32 >>> ((1 : Int32).toUInt32 &&& Int32.toUInt32 31)).toInt32) &&& 1431655765)) &&& 858993459) + ((((x - (((x.toUInt32 >>> ((1 : Int32).toUInt32 &&& Int32.toUInt32 31)).toInt32) &&& 1431655765)).toUInt32 >>> ((2 : Int32).toUInt32 &&& Int32.toUInt32 31)).toInt32) &&& 858993459)).toUInt32 >>> ((4 : Int32).toUInt32 &&& Int32.toUInt32 31)).toInt32)) &&& 252645135) + (((((((x - (((x.toUInt32 >>> ((1 : Int32).toUInt32 &&& Int32.toUInt32 31)).toInt32) &&& 1431655765)) &&& 858993459) + ((((x - (((x.toUInt32 >>> ((1 : Int32).toUInt32 &&& Int32.toUInt32 31)).toInt32) &&& 1431655765)).toUInt32 >>> ((2 : Int32).toUInt32 &&& Int32.toUInt32 31)).toInt32) &&& 858993459)) + (((((x - (((x.toUInt32 >>> ((1 : Int32).toUInt32 &&& Int32.toUInt32 31)).toInt32) &&& 1431655765)) &&& 858993459) + ((((x - (((x.toUInt32 >>> ((1 : Int32).toUInt32 &&& Int32.toUInt32 31)).toInt32) &&& 1431655765)).toUInt32 >>> ((2 : Int32).toUInt32 &&& Int32.toUInt32 31)).toInt32) &&& 858993459)).toUInt32 >>> ((4 : Int32).toUInt32 &&& Int32.toUInt32 31)).toInt32)) &&& 252645135).toUInt32 >>> ((8 : Int32).toUInt32 &&& Int32.toUInt32 31)).toInt32)) + ((((((((x - (((x.toUInt32 >>> ((1 : Int32).toUInt32 &&& Int32.toUInt32 31)).toInt32) &&& 1431655765)) &&& 858993459) + ((((x - (((x.toUInt32 >>> ((1 : Int32).toUInt32 &&& Int32.toUInt32 31)).toInt32) &&& 1431655765)).toUInt32 >>> ((2 : Int32).toUInt32 &&& Int32.toUInt32 31)).toInt32) &&& 858993459)) + (((((x - (((x.toUInt32 >>> ((1 : Int32).toUInt32 &&& Int32.toUInt32 31)).toInt32) &&& 1431655765)) &&& 858993459) + ((((x - (((x.toUInt32 >>> ((1 : Int32).toUInt32 &&& Int32.toUInt32 31)).toInt32) &&& 1431655765)).toUInt32 >>> ((2 : Int32).toUInt32 &&& Int32.toUInt32 31)).toInt32) &&& 858993459)).toUInt32 >>> ((4 : Int32).toUInt32 &&& Int32.toUInt32 31)).toInt32)) &&& 252645135) + (((((((x - (((x.toUInt32 >>> ((1 : Int32).toUInt32 &&& Int32.toUInt32 31)).toInt32) &&& 1431655765)) &&& 858993459) + ((((x - (((x.toUInt32 >>> ((1 : Int32).toUInt32 &&& Int32.toUInt32 31)).toInt32) &&& 1431655765)).toUInt32 >>> ((2 : Int32).toUInt32 &&& Int32.toUInt32 31)).toInt32) &&& 858993459)) + (((((x - (((x.toUInt32 >>> ((1 : Int32).toUInt32 &&& Int32.toUInt32 31)).toInt32) &&& 1431655765)) &&& 858993459) + ((((x - (((x.toUInt32 >>> ((1 : Int32).toUInt32 &&& Int32.toUInt32 31)).toInt32) &&& 1431655765)).toUInt32 >>> ((2 : Int32).toUInt32 &&& Int32.toUInt32 31)).toInt32) &&& 858993459)).toUInt32 >>> ((4 : Int32).toUInt32 &&& Int32.toUInt32 31)).toInt32)) &&& 252645135).toUInt32 >>> ((8 : Int32).toUInt32 &&& Int32.toUInt32 31)).toInt32)).toUInt32 >>> ((16 : Int32).toUInt32 &&& Int32.toUInt32 31)).toInt32)) &&& 63) I L D) : e_M 14 [.int x] (S0 I L D sc) (e_rI sc Ψ) :=
  e_M_goF e_q14 e_k14 [] 44 (by decide +kernel) rfl rfl rfl (e_rIi H) (e_h0 rfl)
set_option maxRecDepth 20000 in
theorem vJ_Math_abs {x : Int32} {I : e_TI} {L : e_TL} {D : e_TD} {sc : e_TS} {Ψ : Int32 → e_TI → e_TL → e_TD → Prop}
    (H : ((0 ≤ x → Ψ x I L D) ∧ (¬ (0 ≤ x) → Ψ (-x) I L D))) : e_M 81 [.int x] (S0 I L D sc) (e_rI sc Ψ) :=
  e_M_goF e_q81 e_k81 [] 9 (by decide +kernel) rfl rfl rfl (And.intro (fun c1 => e_rIi ((H).1 c1)) (fun c1 => e_rIi ((H).2 c1))) (e_h0 rfl)
set_option maxRecDepth 20000 in
theorem vJ_Math_max {x : Int32} {y : Int32} {I : e_TI} {L : e_TL} {D : e_TD} {sc : e_TS} {Ψ : Int32 → e_TI → e_TL → e_TD → Prop}
    (H : ((x < y → Ψ y I L D) ∧ (¬ (x < y) → Ψ x I L D))) : e_M 82 [.int x, .int y] (S0 I L D sc) (e_rI sc Ψ) :=
  e_M_goF e_q82 e_k82 [] 9 (by decide +kernel) rfl rfl rfl (And.intro (fun c1 => e_rIi ((H).1 c1)) (fun c1 => e_rIi ((H).2 c1))) (e_h0 rfl)
set_option maxRecDepth 20000 in
theorem vJ_Math_min {x : Int32} {y : Int32} {I : e_TI} {L : e_TL} {D : e_TD} {sc : e_TS} {Ψ : Int32 → e_TI → e_TL → e_TD → Prop}
    (H : ((y < x → Ψ y I L D) ∧ (¬ (y < x) → Ψ x I L D))) : e_M 24 [.int x, .int y] (S0 I L D sc) (e_rI sc Ψ) :=
  e_M_goF e_q24 e_k24 [] 9 (by decide +kernel) rfl rfl rfl (And.intro (fun c1 => e_rIi ((H).1 c1)) (fun c1 => e_rIi ((H).2 c1))) (e_h0 rfl)
set_option maxRecDepth 20000 in
theorem vJ_Preconditions_checkIndex {x : Int32} {y : Int32} {I : e_TI} {L : e_TL} {D : e_TD} {sc : e_TS} {Ψ : Int32 → e_TI → e_TL → e_TD → Prop}
    (H : ((x < 0 → False) ∧ (¬ (x < 0) → ((x < y → Ψ x I L D) ∧ (¬ (x < y) → False))))) : e_M 199 [.int x, .int y, .retAddr 40] (S0 I L D sc) (e_rI sc Ψ) :=
  e_M_goF e_q199 e_k199 [] 14 (by decide +kernel) rfl rfl rfl (And.intro (fun c2 => ((H).1 c2)) (fun c2 => And.intro (fun c1 => e_rIi ((((H).2 c2)).1 c1)) (fun c1 => ((((H).2 c2)).2 c1)))) (e_h0 rfl)
set_option maxRecDepth 20000 in
theorem vJ_StringLatin1_charAt_X3 {x : Int32} {I : e_TI} {L : e_TL} {D : e_TD} {sc : e_TS} {Ψ : Int32 → e_TI → e_TL → e_TD → Prop}
    (H : e_M 200 [.int x, .int 6] (S0 I L D sc) (e_rV sc (fun I1 L1 D1 => (vp_in x 6 ∧ (narrow .char (.int ((((e_xb 3 x.toNatClampNeg) &&& 255).toUInt32 % 65536).toInt32)) = .int ((((e_xb 3 x.toNatClampNeg) &&& 255).toUInt32 % 65536).toInt32) ∧ Ψ ((((e_xb 3 x.toNatClampNeg) &&& 255).toUInt32 % 65536).toInt32) I1 L1 D1))))) : e_M 201 [.retAddr 3, .int x] (S0 I L D sc) (e_rI sc Ψ) :=
  e_M_goF e_q201 e_k201 [] 13 (by decide +kernel) rfl rfl rfl (e_M.mono (H) (e_gV (fun I1 L1 D1 H1 => And.intro (H1).1 (And.intro ((H1).2).1 (e_rIi (((H1).2).2)))))) (e_h0 rfl)
set_option maxRecDepth 20000 in
theorem vJ_StringLatin1_charAt_X4 {x : Int32} {I : e_TI} {L : e_TL} {D : e_TD} {sc : e_TS} {Ψ : Int32 → e_TI → e_TL → e_TD → Prop}
    (H : e_M 200 [.int x, .int 5] (S0 I L D sc) (e_rV sc (fun I1 L1 D1 => (vp_in x 5 ∧ (narrow .char (.int ((((e_xb 4 x.toNatClampNeg) &&& 255).toUInt32 % 65536).toInt32)) = .int ((((e_xb 4 x.toNatClampNeg) &&& 255).toUInt32 % 65536).toInt32) ∧ Ψ ((((e_xb 4 x.toNatClampNeg) &&& 255).toUInt32 % 65536).toInt32) I1 L1 D1))))) : e_M 201 [.retAddr 4, .int x] (S0 I L D sc) (e_rI sc Ψ) :=
  e_M_goF e_q201 e_k201 [] 13 (by decide +kernel) rfl rfl rfl (e_M.mono (H) (e_gV (fun I1 L1 D1 H1 => And.intro (H1).1 (And.intro ((H1).2).1 (e_rIi (((H1).2).2)))))) (e_h0 rfl)
set_option maxRecDepth 20000 in
theorem vJ_StringLatin1_charAt_X5 {x : Int32} {I : e_TI} {L : e_TL} {D : e_TD} {sc : e_TS} {Ψ : Int32 → e_TI → e_TL → e_TD → Prop}
    (H : e_M 200 [.int x, .int 11] (S0 I L D sc) (e_rV sc (fun I1 L1 D1 => (vp_in x 11 ∧ (narrow .char (.int ((((e_xb 5 x.toNatClampNeg) &&& 255).toUInt32 % 65536).toInt32)) = .int ((((e_xb 5 x.toNatClampNeg) &&& 255).toUInt32 % 65536).toInt32) ∧ Ψ ((((e_xb 5 x.toNatClampNeg) &&& 255).toUInt32 % 65536).toInt32) I1 L1 D1))))) : e_M 201 [.retAddr 5, .int x] (S0 I L D sc) (e_rI sc Ψ) :=
  e_M_goF e_q201 e_k201 [] 13 (by decide +kernel) rfl rfl rfl (e_M.mono (H) (e_gV (fun I1 L1 D1 H1 => And.intro (H1).1 (And.intro ((H1).2).1 (e_rIi (((H1).2).2)))))) (e_h0 rfl)
set_option maxRecDepth 20000 in
theorem vJ_String_charAt_X0 {x : Int32} {I : e_TI} {L : e_TL} {D : e_TD} {sc : e_TS} {Ψ : Int32 → e_TI → e_TL → e_TD → Prop}
    (H : e_M 198 [.retAddr 0] (S0 I L D sc) (e_rI sc (fun r1 I1 L1 D1 => ((r1 = 0 → False) ∧ (¬ (r1 = 0) → e_M 201 [.retAddr 3, .int x] (S0 I1 L1 D1 sc) (e_rI sc (fun r2 I2 L2 D2 => (narrow .char (.int r2) = .int r2 ∧ Ψ r2 I2 L2 D2)))))))) : e_M 202 [.retAddr 0, .int x] (S0 I L D sc) (e_rI sc Ψ) :=
  e_M_goF e_q202 e_k202 [] 15 (by decide +kernel) rfl rfl rfl (e_M.mono (H) (e_gI (fun r1 I1 L1 D1 H1 => And.intro (fun c3 => ((H1).1 c3)) (fun c3 => e_M.mono (((H1).2 c3)) (e_gI (fun r2 I2 L2 D2 H2 => And.intro (H2).1 (e_rIi ((H2).2)))))))) (e_h0 rfl)
set_option maxRecDepth 20000 in
theorem vJ_String_charAt_X1 {x : Int32} {I : e_TI} {L : e_TL} {D : e_TD} {sc : e_TS} {Ψ : Int32 → e_TI → e_TL → e_TD → Prop}
    (H : e_M 198 [.retAddr 1] (S0 I L D sc) (e_rI sc (fun r1 I1 L1 D1 => ((r1 = 0 → False) ∧ (¬ (r1 = 0) → e_M 201 [.retAddr 4, .int x] (S0 I1 L1 D1 sc) (e_rI sc (fun r2 I2 L2 D2 => (narrow .char (.int r2) = .int r2 ∧ Ψ r2 I2 L2 D2)))))))) : e_M 202 [.retAddr 1, .int x] (S0 I L D sc) (e_rI sc Ψ) :=
  e_M_goF e_q202 e_k202 [] 15 (by decide +kernel) rfl rfl rfl (e_M.mono (H) (e_gI (fun r1 I1 L1 D1 H1 => And.intro (fun c3 => ((H1).1 c3)) (fun c3 => e_M.mono (((H1).2 c3)) (e_gI (fun r2 I2 L2 D2 H2 => And.intro (H2).1 (e_rIi ((H2).2)))))))) (e_h0 rfl)
set_option maxRecDepth 20000 in
theorem vJ_String_charAt_X2 {x : Int32} {I : e_TI} {L : e_TL} {D : e_TD} {sc : e_TS} {Ψ : Int32 → e_TI → e_TL → e_TD → Prop}
    (H : e_M 198 [.retAddr 2] (S0 I L D sc) (e_rI sc (fun r1 I1 L1 D1 => ((r1 = 0 → False) ∧ (¬ (r1 = 0) → e_M 201 [.retAddr 5, .int x] (S0 I1 L1 D1 sc) (e_rI sc (fun r2 I2 L2 D2 => (narrow .char (.int r2) = .int r2 ∧ Ψ r2 I2 L2 D2)))))))) : e_M 202 [.retAddr 2, .int x] (S0 I L D sc) (e_rI sc Ψ) :=
  e_M_goF e_q202 e_k202 [] 15 (by decide +kernel) rfl rfl rfl (e_M.mono (H) (e_gI (fun r1 I1 L1 D1 H1 => And.intro (fun c3 => ((H1).1 c3)) (fun c3 => e_M.mono (((H1).2 c3)) (e_gI (fun r2 I2 L2 D2 H2 => And.intro (H2).1 (e_rIi ((H2).2)))))))) (e_h0 rfl)
set_option maxRecDepth 20000 in
theorem vJ_String_checkIndex {x : Int32} {y : Int32} {I : e_TI} {L : e_TL} {D : e_TD} {sc : e_TS} {Ψ : e_TI → e_TL → e_TD → Prop}
    (H : e_M 199 [.int x, .int y, .retAddr 40] (S0 I L D sc) (e_rI sc (fun r1 I1 L1 D1 => Ψ I1 L1 D1))) : e_M 200 [.int x, .int y] (S0 I L D sc) (e_rV sc Ψ) :=
  e_M_goF e_q200 e_k200 [] 8 (by decide +kernel) rfl rfl rfl (e_M.mono (H) (e_gI (fun r1 I1 L1 D1 H1 => e_rVi H1))) (e_h0 rfl)
set_option maxRecDepth 20000 in
theorem vJ_String_coder_X0 {I : e_TI} {L : e_TL} {D : e_TD} {sc : e_TS} {Ψ : Int32 → e_TI → e_TL → e_TD → Prop}
    (H : Ψ 0 I L D) : e_M 196 [.retAddr 0] (S0 I L D sc) (e_rI sc Ψ) :=
  e_M_goF e_q196 e_k196 [] 9 (by decide +kernel) rfl rfl rfl (And.intro (fun (h : (1 : Int32) = 0) => absurd h (by decide)) (fun _ => And.intro rfl (e_rIi H))) (e_h0 rfl)
set_option maxRecDepth 20000 in
theorem vJ_String_coder_X1 {I : e_TI} {L : e_TL} {D : e_TD} {sc : e_TS} {Ψ : Int32 → e_TI → e_TL → e_TD → Prop}
    (H : Ψ 0 I L D) : e_M 196 [.retAddr 1] (S0 I L D sc) (e_rI sc Ψ) :=
  e_M_goF e_q196 e_k196 [] 9 (by decide +kernel) rfl rfl rfl (And.intro (fun (h : (1 : Int32) = 0) => absurd h (by decide)) (fun _ => And.intro rfl (e_rIi H))) (e_h0 rfl)
set_option maxRecDepth 20000 in
theorem vJ_String_isLatin1_X0 {I : e_TI} {L : e_TL} {D : e_TD} {sc : e_TS} {Ψ : Int32 → e_TI → e_TL → e_TD → Prop}
    (H : Ψ 1 I L D) : e_M 198 [.retAddr 0] (S0 I L D sc) (e_rI sc Ψ) :=
  e_M_goF e_q198 e_k198 [] 11 (by decide +kernel) rfl rfl rfl (And.intro (fun (h : (1 : Int32) = 0) => absurd h (by decide)) (fun _ => And.intro (fun (h : ¬ (0 : Int32) = 0) => absurd h (by decide)) (fun _ => And.intro (Or.inr rfl) (e_rIi H)))) (e_h0 rfl)
set_option maxRecDepth 20000 in
theorem vJ_String_isLatin1_X1 {I : e_TI} {L : e_TL} {D : e_TD} {sc : e_TS} {Ψ : Int32 → e_TI → e_TL → e_TD → Prop}
    (H : Ψ 1 I L D) : e_M 198 [.retAddr 1] (S0 I L D sc) (e_rI sc Ψ) :=
  e_M_goF e_q198 e_k198 [] 11 (by decide +kernel) rfl rfl rfl (And.intro (fun (h : (1 : Int32) = 0) => absurd h (by decide)) (fun _ => And.intro (fun (h : ¬ (0 : Int32) = 0) => absurd h (by decide)) (fun _ => And.intro (Or.inr rfl) (e_rIi H)))) (e_h0 rfl)
set_option maxRecDepth 20000 in
theorem vJ_String_isLatin1_X2 {I : e_TI} {L : e_TL} {D : e_TD} {sc : e_TS} {Ψ : Int32 → e_TI → e_TL → e_TD → Prop}
    (H : Ψ 1 I L D) : e_M 198 [.retAddr 2] (S0 I L D sc) (e_rI sc Ψ) :=
  e_M_goF e_q198 e_k198 [] 11 (by decide +kernel) rfl rfl rfl (And.intro (fun (h : (1 : Int32) = 0) => absurd h (by decide)) (fun _ => And.intro (fun (h : ¬ (0 : Int32) = 0) => absurd h (by decide)) (fun _ => And.intro (Or.inr rfl) (e_rIi H)))) (e_h0 rfl)
set_option maxRecDepth 20000 in
theorem vJ_String_length_X0 {I : e_TI} {L : e_TL} {D : e_TD} {sc : e_TS} {Ψ : Int32 → e_TI → e_TL → e_TD → Prop}
    (H : e_M 196 [.retAddr 0] (S0 I L D sc) (e_rI sc (fun r1 I1 L1 D1 => Ψ ((6 : Int32) >>> (r1 &&& 31)) I1 L1 D1))) : e_M 197 [.retAddr 0] (S0 I L D sc) (e_rI sc Ψ) :=
  e_M_goF e_q197 e_k197 [] 9 (by decide +kernel) rfl rfl rfl (e_M.mono (H) (e_gI (fun r1 I1 L1 D1 H1 => e_rIi H1))) (e_h0 rfl)
set_option maxRecDepth 20000 in
theorem vJ_String_length_X1 {I : e_TI} {L : e_TL} {D : e_TD} {sc : e_TS} {Ψ : Int32 → e_TI → e_TL → e_TD → Prop}
    (H : e_M 196 [.retAddr 1] (S0 I L D sc) (e_rI sc (fun r1 I1 L1 D1 => Ψ ((5 : Int32) >>> (r1 &&& 31)) I1 L1 D1))) : e_M 197 [.retAddr 1] (S0 I L D sc) (e_rI sc Ψ) :=
  e_M_goF e_q197 e_k197 [] 9 (by decide +kernel) rfl rfl rfl (e_M.mono (H) (e_gI (fun r1 I1 L1 D1 H1 => e_rIi H1))) (e_h0 rfl)
set_option maxRecDepth 20000 in
theorem vLt_cellAt {x : Int32} {I : e_TI} {L : e_TL} {D : e_TD} {sc : e_TS} {Ψ : Int32 → e_TI → e_TL → e_TD → Prop}
    (H : ((9 ≤ (x - x / 10 * 10) → Ψ (-1) I L D) ∧ (¬ (9 ≤ (x - x / 10 * 10)) → Ψ ((9 * (x / 10)) + (x - x / 10 * 10)) I L D))) : e_M 195 [.int x] (S0 I L D sc) (e_rI sc Ψ) :=
  e_M_go e_q195 e_k195 [] 19 (by decide +kernel) rfl rfl (And.intro (fun c1 => e_rIi ((H).1 c1)) (fun c1 => e_rIi ((H).2 c1))) (e_h0 rfl)
set_option maxRecDepth 20000 in
theorem vLt_hasRoad {x : Int32} {I : e_TI} {L : e_TL} {D : e_TD} {sc : e_TS} {Ψ : Int32 → e_TI → e_TL → e_TD → Prop}
    (H : e_M 203 [.retAddr 1, .int x] (S0 I L D sc) (e_rI sc (fun r1 I1 L1 D1 => ((r1 = (-1) → Ψ 0 I1 L1 D1) ∧ (¬ (r1 = (-1)) → Ψ 1 I1 L1 D1))))) : e_M 209 [.int x] (S0 I L D sc) (e_rI sc Ψ) :=
  e_M_go e_q209 e_k209 [] 11 (by decide +kernel) rfl rfl (e_M.mono (H) (e_gI (fun r1 I1 L1 D1 H1 => And.intro (fun c2 => And.intro (Or.inl rfl) (e_rIi ((H1).1 c2))) (fun c2 => And.intro (Or.inr rfl) (e_rIi ((H1).2 c2)))))) (e_h0 rfl)
set_option maxRecDepth 20000 in
theorem vLt_letterOf {x : Int32} {y : Int32} {I : e_TI} {L : e_TL} {D : e_TD} {sc : e_TS} {Ψ : Int32 → e_TI → e_TL → e_TD → Prop}
    (H : ((y = 0 → ((x < 0 → Ψ 47 I L D) ∧ (¬ (x < 0) → e_M 197 [.retAddr 0] (S0 I L D sc) (e_rI sc (fun r1 I1 L1 D1 => ((r1 ≤ x → Ψ 47 I1 L1 D1) ∧ (¬ (r1 ≤ x) → e_M 202 [.retAddr 0, .int x] (S0 I1 L1 D1 sc) (e_rI sc (fun r2 I2 L2 D2 => (narrow .char (.int r2) = .int r2 ∧ Ψ r2 I2 L2 D2)))))))))) ∧ (¬ (y = 0) → ((x < 0 → Ψ 47 I L D) ∧ (¬ (x < 0) → e_M 197 [.retAddr 1] (S0 I L D sc) (e_rI sc (fun r5 I5 L5 D5 => ((r5 ≤ x → Ψ 47 I5 L5 D5) ∧ (¬ (r5 ≤ x) → e_M 202 [.retAddr 1, .int x] (S0 I5 L5 D5 sc) (e_rI sc (fun r6 I6 L6 D6 => (narrow .char (.int r6) = .int r6 ∧ Ψ r6 I6 L6 D6)))))))))))) : e_M 214 [.int x, .int y] (S0 I L D sc) (e_rI sc Ψ) :=
  e_M_go e_q214 e_k214 [] 20 (by decide +kernel) rfl rfl (And.intro (fun c9 => And.intro (fun c4 => And.intro rfl (e_rIi ((((H).1 c9)).1 c4))) (fun c4 => e_M.mono (((((H).1 c9)).2 c4)) (e_gI (fun r1 I1 L1 D1 H1 => And.intro (fun c3 => And.intro rfl (e_rIi ((H1).1 c3))) (fun c3 => e_M.mono (((H1).2 c3)) (e_gI (fun r2 I2 L2 D2 H2 => And.intro (H2).1 (e_rIi ((H2).2))))))))) (fun c9 => And.intro (fun c8 => And.intro rfl (e_rIi ((((H).2 c9)).1 c8))) (fun c8 => e_M.mono (((((H).2 c9)).2 c8)) (e_gI (fun r5 I5 L5 D5 H5 => And.intro (fun c7 => And.intro rfl (e_rIi ((H5).1 c7))) (fun c7 => e_M.mono (((H5).2 c7)) (e_gI (fun r6 I6 L6 D6 H6 => And.intro (H6).1 (e_rIi ((H6).2)))))))))) (e_h0 rfl)
set_option maxRecDepth 20000 in
theorem vLt_placeIn_X0 {x : Int32} {I : e_TI} {L : e_TL} {D : e_TD} {sc : e_TS} {Ψ : Int32 → e_TI → e_TL → e_TD → Prop}
    (H : e_Wp 203 2 [some (.retAddr 0), some (.int x), some (.int 0)] [] (S0 I L D sc) 0 0 (e_rI sc Ψ)) : e_M 203 [.retAddr 0, .int x] (S0 I L D sc) (e_rI sc Ψ) :=
  e_M_go e_q203 e_k203 [2] 19 (by decide +kernel) rfl rfl (H) (e_h0 rfl)
set_option maxRecDepth 20000 in
theorem vLt_placeIn_X0_p2 {x1 : Int32} {x2 : Int32} {I : e_TI} {L : e_TL} {D : e_TD} {sc : e_TS} {Ψ : Int32 → e_TI → e_TL → e_TD → Prop}
    (H : e_M 197 [.retAddr 0] (S0 I L D sc) (e_rI sc (fun r1 I1 L1 D1 => ((r1 ≤ x2 → Ψ (-1) I1 L1 D1) ∧ (¬ (r1 ≤ x2) → e_M 202 [.retAddr 0, .int x2] (S0 I1 L1 D1 sc) (e_rI sc (fun r2 I2 L2 D2 => ((¬ r2 = x1 → e_Wp 203 2 [some (.retAddr 0), some (.int x1), some (.int (x2 + 1))] [] (S0 I2 L2 D2 sc) 0 0 (e_rI sc Ψ)) ∧ (¬ (¬ r2 = x1) → Ψ x2 I2 L2 D2))))))))) : e_Wp 203 2 [some (.retAddr 0), some (.int x1), some (.int x2)] [] (S0 I L D sc) 0 0 (e_rI sc Ψ) :=
  e_W_go e_q203 e_k203 [2] 19 2 (e_M.mono (H) (e_gI (fun r1 I1 L1 D1 H1 => And.intro (fun c4 => e_rIi ((H1).1 c4)) (fun c4 => e_M.mono (((H1).2 c4)) (e_gI (fun r2 I2 L2 D2 H2 => And.intro (fun c3 => ((H2).1 c3)) (fun c3 => e_rIi ((H2).2 c3))))))))
set_option maxRecDepth 20000 in
theorem vLt_placeIn_X1 {x : Int32} {I : e_TI} {L : e_TL} {D : e_TD} {sc : e_TS} {Ψ : Int32 → e_TI → e_TL → e_TD → Prop}
    (H : e_Wp 203 2 [some (.retAddr 1), some (.int x), some (.int 0)] [] (S0 I L D sc) 0 0 (e_rI sc Ψ)) : e_M 203 [.retAddr 1, .int x] (S0 I L D sc) (e_rI sc Ψ) :=
  e_M_go e_q203 e_k203 [2] 19 (by decide +kernel) rfl rfl (H) (e_h0 rfl)
set_option maxRecDepth 20000 in
theorem vLt_placeIn_X1_p2 {x1 : Int32} {x2 : Int32} {I : e_TI} {L : e_TL} {D : e_TD} {sc : e_TS} {Ψ : Int32 → e_TI → e_TL → e_TD → Prop}
    (H : e_M 197 [.retAddr 1] (S0 I L D sc) (e_rI sc (fun r1 I1 L1 D1 => ((r1 ≤ x2 → Ψ (-1) I1 L1 D1) ∧ (¬ (r1 ≤ x2) → e_M 202 [.retAddr 1, .int x2] (S0 I1 L1 D1 sc) (e_rI sc (fun r2 I2 L2 D2 => ((¬ r2 = x1 → e_Wp 203 2 [some (.retAddr 1), some (.int x1), some (.int (x2 + 1))] [] (S0 I2 L2 D2 sc) 0 0 (e_rI sc Ψ)) ∧ (¬ (¬ r2 = x1) → Ψ x2 I2 L2 D2))))))))) : e_Wp 203 2 [some (.retAddr 1), some (.int x1), some (.int x2)] [] (S0 I L D sc) 0 0 (e_rI sc Ψ) :=
  e_W_go e_q203 e_k203 [2] 19 2 (e_M.mono (H) (e_gI (fun r1 I1 L1 D1 H1 => And.intro (fun c4 => e_rIi ((H1).1 c4)) (fun c4 => e_M.mono (((H1).2 c4)) (e_gI (fun r2 I2 L2 D2 H2 => And.intro (fun c3 => ((H2).1 c3)) (fun c3 => e_rIi ((H2).2 c3))))))))
set_option maxRecDepth 20000 in
theorem vLt_terrainOf {x : Int32} {I : e_TI} {L : e_TL} {D : e_TD} {sc : e_TS} {Ψ : Int32 → e_TI → e_TL → e_TD → Prop}
    (H : e_M 203 [.retAddr 0, .int x] (S0 I L D sc) (e_rI sc (fun r1 I1 L1 D1 => ((r1 = (-1) → e_M 203 [.retAddr 1, .int x] (S0 I1 L1 D1 sc) (e_rI sc (fun r2 I2 L2 D2 => Ψ r2 I2 L2 D2))) ∧ (¬ (r1 = (-1)) → Ψ r1 I1 L1 D1))))) : e_M 204 [.int x] (S0 I L D sc) (e_rI sc Ψ) :=
  e_M_go e_q204 e_k204 [] 15 (by decide +kernel) rfl rfl (e_M.mono (H) (e_gI (fun r1 I1 L1 D1 H1 => And.intro (fun c3 => e_M.mono (((H1).1 c3)) (e_gI (fun r2 I2 L2 D2 H2 => e_rIi H2))) (fun c3 => e_rIi ((H1).2 c3))))) (e_h0 rfl)
set_option maxRecDepth 20000 in
theorem vR_clear_10 {I : e_TI} {L : e_TL} {D : e_TD} {sc : e_TS} {Ψ : e_TI → e_TL → e_TD → Prop}
    (H : e_Wp 10 2 [some (.ref 10), some (.int 0)] [] (S0 I L D sc) 0 0 (e_rV sc Ψ)) : e_M 10 [.ref 10] (S0 I L D sc) (e_rV sc Ψ) :=
  e_M_go e_q10 e_k10 [2] 15 (by decide +kernel) rfl rfl (H) (e_h0 rfl)
set_option maxRecDepth 20000 in
theorem vR_clear_10_p2 {x1 : Int32} {I : e_TI} {L : e_TL} {D : e_TD} {sc : e_TS} {Ψ : e_TI → e_TL → e_TD → Prop}
    (H : ((2 ≤ x1 → Ψ I L D) ∧ (¬ (2 ≤ x1) → (vp_in x1 2 ∧ e_Wp 10 2 [some (.ref 10), some (.int (x1 + 1))] [] (S0 (e_up I 10 x1.toNatClampNeg 0) L D sc) 0 0 (e_rV sc Ψ))))) : e_Wp 10 2 [some (.ref 10), some (.int x1)] [] (S0 I L D sc) 0 0 (e_rV sc Ψ) :=
  e_W_go e_q10 e_k10 [2] 15 2 (And.intro (fun c1 => e_rVi ((H).1 c1)) (fun c1 => And.intro (((H).2 c1)).1 ((((H).2 c1)).2)))
set_option maxRecDepth 20000 in
theorem vR_clear_11 {I : e_TI} {L : e_TL} {D : e_TD} {sc : e_TS} {Ψ : e_TI → e_TL → e_TD → Prop}
    (H : e_Wp 10 2 [some (.ref 11), some (.int 0)] [] (S0 I L D sc) 0 0 (e_rV sc Ψ)) : e_M 10 [.ref 11] (S0 I L D sc) (e_rV sc Ψ) :=
  e_M_go e_q10 e_k10 [2] 15 (by decide +kernel) rfl rfl (H) (e_h0 rfl)
set_option maxRecDepth 20000 in
theorem vR_clear_11_p2 {x1 : Int32} {I : e_TI} {L : e_TL} {D : e_TD} {sc : e_TS} {Ψ : e_TI → e_TL → e_TD → Prop}
    (H : ((2 ≤ x1 → Ψ I L D) ∧ (¬ (2 ≤ x1) → (vp_in x1 2 ∧ e_Wp 10 2 [some (.ref 11), some (.int (x1 + 1))] [] (S0 (e_up I 11 x1.toNatClampNeg 0) L D sc) 0 0 (e_rV sc Ψ))))) : e_Wp 10 2 [some (.ref 11), some (.int x1)] [] (S0 I L D sc) 0 0 (e_rV sc Ψ) :=
  e_W_go e_q10 e_k10 [2] 15 2 (And.intro (fun c1 => e_rVi ((H).1 c1)) (fun c1 => And.intro (((H).2 c1)).1 ((((H).2 c1)).2)))
set_option maxRecDepth 20000 in
theorem vR_clear_12 {I : e_TI} {L : e_TL} {D : e_TD} {sc : e_TS} {Ψ : e_TI → e_TL → e_TD → Prop}
    (H : e_Wp 10 2 [some (.ref 12), some (.int 0)] [] (S0 I L D sc) 0 0 (e_rV sc Ψ)) : e_M 10 [.ref 12] (S0 I L D sc) (e_rV sc Ψ) :=
  e_M_go e_q10 e_k10 [2] 15 (by decide +kernel) rfl rfl (H) (e_h0 rfl)
set_option maxRecDepth 20000 in
theorem vR_clear_12_p2 {x1 : Int32} {I : e_TI} {L : e_TL} {D : e_TD} {sc : e_TS} {Ψ : e_TI → e_TL → e_TD → Prop}
    (H : ((2 ≤ x1 → Ψ I L D) ∧ (¬ (2 ≤ x1) → (vp_in x1 2 ∧ e_Wp 10 2 [some (.ref 12), some (.int (x1 + 1))] [] (S0 (e_up I 12 x1.toNatClampNeg 0) L D sc) 0 0 (e_rV sc Ψ))))) : e_Wp 10 2 [some (.ref 12), some (.int x1)] [] (S0 I L D sc) 0 0 (e_rV sc Ψ) :=
  e_W_go e_q10 e_k10 [2] 15 2 (And.intro (fun c1 => e_rVi ((H).1 c1)) (fun c1 => And.intro (((H).2 c1)).1 ((((H).2 c1)).2)))
set_option maxRecDepth 20000 in
theorem vR_clear_13 {I : e_TI} {L : e_TL} {D : e_TD} {sc : e_TS} {Ψ : e_TI → e_TL → e_TD → Prop}
    (H : e_Wp 10 2 [some (.ref 13), some (.int 0)] [] (S0 I L D sc) 0 0 (e_rV sc Ψ)) : e_M 10 [.ref 13] (S0 I L D sc) (e_rV sc Ψ) :=
  e_M_go e_q10 e_k10 [2] 15 (by decide +kernel) rfl rfl (H) (e_h0 rfl)
set_option maxRecDepth 20000 in
theorem vR_clear_13_p2 {x1 : Int32} {I : e_TI} {L : e_TL} {D : e_TD} {sc : e_TS} {Ψ : e_TI → e_TL → e_TD → Prop}
    (H : ((2 ≤ x1 → Ψ I L D) ∧ (¬ (2 ≤ x1) → (vp_in x1 2 ∧ e_Wp 10 2 [some (.ref 13), some (.int (x1 + 1))] [] (S0 (e_up I 13 x1.toNatClampNeg 0) L D sc) 0 0 (e_rV sc Ψ))))) : e_Wp 10 2 [some (.ref 13), some (.int x1)] [] (S0 I L D sc) 0 0 (e_rV sc Ψ) :=
  e_W_go e_q10 e_k10 [2] 15 2 (And.intro (fun c1 => e_rVi ((H).1 c1)) (fun c1 => And.intro (((H).2 c1)).1 ((((H).2 c1)).2)))
set_option maxRecDepth 20000 in
theorem vR_increase_10 {x : Int32} {y : Int32} {I : e_TI} {L : e_TL} {D : e_TD} {sc : e_TS} {Ψ : e_TI → e_TL → e_TD → Prop}
    (H : ((x < 0 → Ψ I L D) ∧ (¬ (x < 0) → ((2 ≤ x → Ψ I L D) ∧ (¬ (2 ≤ x) → (vp_in x 2 ∧ (vp_in x 2 ∧ Ψ (e_up I 10 x.toNatClampNeg ((I 10 x.toNatClampNeg) + y)) L D))))))) : e_M 52 [.ref 10, .int x, .int y] (S0 I L D sc) (e_rV sc Ψ) :=
  e_M_go e_q52 e_k52 [] 16 (by decide +kernel) rfl rfl (And.intro (fun c2 => e_rVi ((H).1 c2)) (fun c2 => And.intro (fun c1 => e_rVi ((((H).2 c2)).1 c1)) (fun c1 => And.intro (((((H).2 c2)).2 c1)).1 (And.intro ((((((H).2 c2)).2 c1)).2).1 (e_rVi (((((((H).2 c2)).2 c1)).2).2)))))) (e_h0 rfl)
set_option maxRecDepth 20000 in
theorem vR_increase_11 {x : Int32} {y : Int32} {I : e_TI} {L : e_TL} {D : e_TD} {sc : e_TS} {Ψ : e_TI → e_TL → e_TD → Prop}
    (H : ((x < 0 → Ψ I L D) ∧ (¬ (x < 0) → ((2 ≤ x → Ψ I L D) ∧ (¬ (2 ≤ x) → (vp_in x 2 ∧ (vp_in x 2 ∧ Ψ (e_up I 11 x.toNatClampNeg ((I 11 x.toNatClampNeg) + y)) L D))))))) : e_M 52 [.ref 11, .int x, .int y] (S0 I L D sc) (e_rV sc Ψ) :=
  e_M_go e_q52 e_k52 [] 16 (by decide +kernel) rfl rfl (And.intro (fun c2 => e_rVi ((H).1 c2)) (fun c2 => And.intro (fun c1 => e_rVi ((((H).2 c2)).1 c1)) (fun c1 => And.intro (((((H).2 c2)).2 c1)).1 (And.intro ((((((H).2 c2)).2 c1)).2).1 (e_rVi (((((((H).2 c2)).2 c1)).2).2)))))) (e_h0 rfl)
set_option maxRecDepth 20000 in
theorem vR_increase_12 {x : Int32} {y : Int32} {I : e_TI} {L : e_TL} {D : e_TD} {sc : e_TS} {Ψ : e_TI → e_TL → e_TD → Prop}
    (H : ((x < 0 → Ψ I L D) ∧ (¬ (x < 0) → ((2 ≤ x → Ψ I L D) ∧ (¬ (2 ≤ x) → (vp_in x 2 ∧ (vp_in x 2 ∧ Ψ (e_up I 12 x.toNatClampNeg ((I 12 x.toNatClampNeg) + y)) L D))))))) : e_M 52 [.ref 12, .int x, .int y] (S0 I L D sc) (e_rV sc Ψ) :=
  e_M_go e_q52 e_k52 [] 16 (by decide +kernel) rfl rfl (And.intro (fun c2 => e_rVi ((H).1 c2)) (fun c2 => And.intro (fun c1 => e_rVi ((((H).2 c2)).1 c1)) (fun c1 => And.intro (((((H).2 c2)).2 c1)).1 (And.intro ((((((H).2 c2)).2 c1)).2).1 (e_rVi (((((((H).2 c2)).2 c1)).2).2)))))) (e_h0 rfl)
set_option maxRecDepth 20000 in
theorem vR_increase_13 {x : Int32} {y : Int32} {I : e_TI} {L : e_TL} {D : e_TD} {sc : e_TS} {Ψ : e_TI → e_TL → e_TD → Prop}
    (H : ((x < 0 → Ψ I L D) ∧ (¬ (x < 0) → ((2 ≤ x → Ψ I L D) ∧ (¬ (2 ≤ x) → (vp_in x 2 ∧ (vp_in x 2 ∧ Ψ (e_up I 13 x.toNatClampNeg ((I 13 x.toNatClampNeg) + y)) L D))))))) : e_M 52 [.ref 13, .int x, .int y] (S0 I L D sc) (e_rV sc Ψ) :=
  e_M_go e_q52 e_k52 [] 16 (by decide +kernel) rfl rfl (And.intro (fun c2 => e_rVi ((H).1 c2)) (fun c2 => And.intro (fun c1 => e_rVi ((((H).2 c2)).1 c1)) (fun c1 => And.intro (((((H).2 c2)).2 c1)).1 (And.intro ((((((H).2 c2)).2 c1)).2).1 (e_rVi (((((((H).2 c2)).2 c1)).2).2)))))) (e_h0 rfl)
set_option maxRecDepth 20000 in
theorem vR_readSet_15 {x : Int32} {I : e_TI} {L : e_TL} {D : e_TD} {sc : e_TS} {Ψ : Int64 → e_TI → e_TL → e_TD → Prop}
    (H : ((x < 0 → Ψ 0 I L D) ∧ (¬ (x < 0) → ((373 ≤ x → Ψ 0 I L D) ∧ (¬ (373 ≤ x) → (vp_in x 373 ∧ Ψ (L 15 x.toNatClampNeg) I L D)))))) : e_M 30 [.ref 15, .int x] (S0 I L D sc) (e_rL sc Ψ) :=
  e_M_go e_q30 e_k30 [] 14 (by decide +kernel) rfl rfl (And.intro (fun c2 => e_rLi ((H).1 c2)) (fun c2 => And.intro (fun c1 => e_rLi ((((H).2 c2)).1 c1)) (fun c1 => And.intro (((((H).2 c2)).2 c1)).1 (e_rLi ((((((H).2 c2)).2 c1)).2))))) (e_h0 rfl)
set_option maxRecDepth 20000 in
theorem vR_readSet_20 {x : Int32} {I : e_TI} {L : e_TL} {D : e_TD} {sc : e_TS} {Ψ : Int64 → e_TI → e_TL → e_TD → Prop}
    (H : ((x < 0 → Ψ 0 I L D) ∧ (¬ (x < 0) → ((373 ≤ x → Ψ 0 I L D) ∧ (¬ (373 ≤ x) → (vp_in x 373 ∧ Ψ (L 20 x.toNatClampNeg) I L D)))))) : e_M 30 [.ref 20, .int x] (S0 I L D sc) (e_rL sc Ψ) :=
  e_M_go e_q30 e_k30 [] 14 (by decide +kernel) rfl rfl (And.intro (fun c2 => e_rLi ((H).1 c2)) (fun c2 => And.intro (fun c1 => e_rLi ((((H).2 c2)).1 c1)) (fun c1 => And.intro (((((H).2 c2)).2 c1)).1 (e_rLi ((((((H).2 c2)).2 c1)).2))))) (e_h0 rfl)
set_option maxRecDepth 20000 in
theorem vR_readSet_21 {x : Int32} {I : e_TI} {L : e_TL} {D : e_TD} {sc : e_TS} {Ψ : Int64 → e_TI → e_TL → e_TD → Prop}
    (H : ((x < 0 → Ψ 0 I L D) ∧ (¬ (x < 0) → ((373 ≤ x → Ψ 0 I L D) ∧ (¬ (373 ≤ x) → (vp_in x 373 ∧ Ψ (L 21 x.toNatClampNeg) I L D)))))) : e_M 30 [.ref 21, .int x] (S0 I L D sc) (e_rL sc Ψ) :=
  e_M_go e_q30 e_k30 [] 14 (by decide +kernel) rfl rfl (And.intro (fun c2 => e_rLi ((H).1 c2)) (fun c2 => And.intro (fun c1 => e_rLi ((((H).2 c2)).1 c1)) (fun c1 => And.intro (((((H).2 c2)).2 c1)).1 (e_rLi ((((((H).2 c2)).2 c1)).2))))) (e_h0 rfl)
set_option maxRecDepth 20000 in
theorem vR_readSet_4 {x : Int32} {I : e_TI} {L : e_TL} {D : e_TD} {sc : e_TS} {Ψ : Int64 → e_TI → e_TL → e_TD → Prop}
    (H : ((x < 0 → Ψ 0 I L D) ∧ (¬ (x < 0) → ((6 ≤ x → Ψ 0 I L D) ∧ (¬ (6 ≤ x) → (vp_in x 6 ∧ Ψ (L 4 x.toNatClampNeg) I L D)))))) : e_M 30 [.ref 4, .int x] (S0 I L D sc) (e_rL sc Ψ) :=
  e_M_go e_q30 e_k30 [] 14 (by decide +kernel) rfl rfl (And.intro (fun c2 => e_rLi ((H).1 c2)) (fun c2 => And.intro (fun c1 => e_rLi ((((H).2 c2)).1 c1)) (fun c1 => And.intro (((((H).2 c2)).2 c1)).1 (e_rLi ((((((H).2 c2)).2 c1)).2))))) (e_h0 rfl)
set_option maxRecDepth 20000 in
theorem vR_readSet_5 {x : Int32} {I : e_TI} {L : e_TL} {D : e_TD} {sc : e_TS} {Ψ : Int64 → e_TI → e_TL → e_TD → Prop}
    (H : ((x < 0 → Ψ 0 I L D) ∧ (¬ (x < 0) → ((2 ≤ x → Ψ 0 I L D) ∧ (¬ (2 ≤ x) → (vp_in x 2 ∧ Ψ (L 5 x.toNatClampNeg) I L D)))))) : e_M 30 [.ref 5, .int x] (S0 I L D sc) (e_rL sc Ψ) :=
  e_M_go e_q30 e_k30 [] 14 (by decide +kernel) rfl rfl (And.intro (fun c2 => e_rLi ((H).1 c2)) (fun c2 => And.intro (fun c1 => e_rLi ((((H).2 c2)).1 c1)) (fun c1 => And.intro (((((H).2 c2)).2 c1)).1 (e_rLi ((((((H).2 c2)).2 c1)).2))))) (e_h0 rfl)
set_option maxRecDepth 20000 in
theorem vR_read_10 {x : Int32} {I : e_TI} {L : e_TL} {D : e_TD} {sc : e_TS} {Ψ : Int32 → e_TI → e_TL → e_TD → Prop}
    (H : ((x < 0 → Ψ 0 I L D) ∧ (¬ (x < 0) → ((2 ≤ x → Ψ 0 I L D) ∧ (¬ (2 ≤ x) → (vp_in x 2 ∧ Ψ (I 10 x.toNatClampNeg) I L D)))))) : e_M 36 [.ref 10, .int x] (S0 I L D sc) (e_rI sc Ψ) :=
  e_M_go e_q36 e_k36 [] 14 (by decide +kernel) rfl rfl (And.intro (fun c2 => e_rIi ((H).1 c2)) (fun c2 => And.intro (fun c1 => e_rIi ((((H).2 c2)).1 c1)) (fun c1 => And.intro (((((H).2 c2)).2 c1)).1 (e_rIi ((((((H).2 c2)).2 c1)).2))))) (e_h0 rfl)
set_option maxRecDepth 20000 in
theorem vR_read_11 {x : Int32} {I : e_TI} {L : e_TL} {D : e_TD} {sc : e_TS} {Ψ : Int32 → e_TI → e_TL → e_TD → Prop}
    (H : ((x < 0 → Ψ 0 I L D) ∧ (¬ (x < 0) → ((2 ≤ x → Ψ 0 I L D) ∧ (¬ (2 ≤ x) → (vp_in x 2 ∧ Ψ (I 11 x.toNatClampNeg) I L D)))))) : e_M 36 [.ref 11, .int x] (S0 I L D sc) (e_rI sc Ψ) :=
  e_M_go e_q36 e_k36 [] 14 (by decide +kernel) rfl rfl (And.intro (fun c2 => e_rIi ((H).1 c2)) (fun c2 => And.intro (fun c1 => e_rIi ((((H).2 c2)).1 c1)) (fun c1 => And.intro (((((H).2 c2)).2 c1)).1 (e_rIi ((((((H).2 c2)).2 c1)).2))))) (e_h0 rfl)
set_option maxRecDepth 20000 in
theorem vR_read_12 {x : Int32} {I : e_TI} {L : e_TL} {D : e_TD} {sc : e_TS} {Ψ : Int32 → e_TI → e_TL → e_TD → Prop}
    (H : ((x < 0 → Ψ 0 I L D) ∧ (¬ (x < 0) → ((2 ≤ x → Ψ 0 I L D) ∧ (¬ (2 ≤ x) → (vp_in x 2 ∧ Ψ (I 12 x.toNatClampNeg) I L D)))))) : e_M 36 [.ref 12, .int x] (S0 I L D sc) (e_rI sc Ψ) :=
  e_M_go e_q36 e_k36 [] 14 (by decide +kernel) rfl rfl (And.intro (fun c2 => e_rIi ((H).1 c2)) (fun c2 => And.intro (fun c1 => e_rIi ((((H).2 c2)).1 c1)) (fun c1 => And.intro (((((H).2 c2)).2 c1)).1 (e_rIi ((((((H).2 c2)).2 c1)).2))))) (e_h0 rfl)
set_option maxRecDepth 20000 in
theorem vR_read_13 {x : Int32} {I : e_TI} {L : e_TL} {D : e_TD} {sc : e_TS} {Ψ : Int32 → e_TI → e_TL → e_TD → Prop}
    (H : ((x < 0 → Ψ 0 I L D) ∧ (¬ (x < 0) → ((2 ≤ x → Ψ 0 I L D) ∧ (¬ (2 ≤ x) → (vp_in x 2 ∧ Ψ (I 13 x.toNatClampNeg) I L D)))))) : e_M 36 [.ref 13, .int x] (S0 I L D sc) (e_rI sc Ψ) :=
  e_M_go e_q36 e_k36 [] 14 (by decide +kernel) rfl rfl (And.intro (fun c2 => e_rIi ((H).1 c2)) (fun c2 => And.intro (fun c1 => e_rIi ((((H).2 c2)).1 c1)) (fun c1 => And.intro (((((H).2 c2)).2 c1)).1 (e_rIi ((((((H).2 c2)).2 c1)).2))))) (e_h0 rfl)
set_option maxRecDepth 20000 in
theorem vR_read_135 {x : Int32} {I : e_TI} {L : e_TL} {D : e_TD} {sc : e_TS} {Ψ : Int32 → e_TI → e_TL → e_TD → Prop}
    (H : ((x < 0 → Ψ 0 I L D) ∧ (¬ (x < 0) → ((3 ≤ x → Ψ 0 I L D) ∧ (¬ (3 ≤ x) → (vp_in x 3 ∧ Ψ (I 135 x.toNatClampNeg) I L D)))))) : e_M 36 [.ref 135, .int x] (S0 I L D sc) (e_rI sc Ψ) :=
  e_M_go e_q36 e_k36 [] 14 (by decide +kernel) rfl rfl (And.intro (fun c2 => e_rIi ((H).1 c2)) (fun c2 => And.intro (fun c1 => e_rIi ((((H).2 c2)).1 c1)) (fun c1 => And.intro (((((H).2 c2)).2 c1)).1 (e_rIi ((((((H).2 c2)).2 c1)).2))))) (e_h0 rfl)
set_option maxRecDepth 20000 in
theorem vR_read_136 {x : Int32} {I : e_TI} {L : e_TL} {D : e_TD} {sc : e_TS} {Ψ : Int32 → e_TI → e_TL → e_TD → Prop}
    (H : ((x < 0 → Ψ 0 I L D) ∧ (¬ (x < 0) → ((3 ≤ x → Ψ 0 I L D) ∧ (¬ (3 ≤ x) → (vp_in x 3 ∧ Ψ (I 136 x.toNatClampNeg) I L D)))))) : e_M 36 [.ref 136, .int x] (S0 I L D sc) (e_rI sc Ψ) :=
  e_M_go e_q36 e_k36 [] 14 (by decide +kernel) rfl rfl (And.intro (fun c2 => e_rIi ((H).1 c2)) (fun c2 => And.intro (fun c1 => e_rIi ((((H).2 c2)).1 c1)) (fun c1 => And.intro (((((H).2 c2)).2 c1)).1 (e_rIi ((((((H).2 c2)).2 c1)).2))))) (e_h0 rfl)
set_option maxRecDepth 20000 in
theorem vR_read_23 {x : Int32} {I : e_TI} {L : e_TL} {D : e_TD} {sc : e_TS} {Ψ : Int32 → e_TI → e_TL → e_TD → Prop}
    (H : ((x < 0 → Ψ 0 I L D) ∧ (¬ (x < 0) → ((63 ≤ x → Ψ 0 I L D) ∧ (¬ (63 ≤ x) → (vp_in x 63 ∧ Ψ (I 23 x.toNatClampNeg) I L D)))))) : e_M 36 [.ref 23, .int x] (S0 I L D sc) (e_rI sc Ψ) :=
  e_M_go e_q36 e_k36 [] 14 (by decide +kernel) rfl rfl (And.intro (fun c2 => e_rIi ((H).1 c2)) (fun c2 => And.intro (fun c1 => e_rIi ((((H).2 c2)).1 c1)) (fun c1 => And.intro (((((H).2 c2)).2 c1)).1 (e_rIi ((((((H).2 c2)).2 c1)).2))))) (e_h0 rfl)
set_option maxRecDepth 20000 in
theorem vR_read_7 {x : Int32} {I : e_TI} {L : e_TL} {D : e_TD} {sc : e_TS} {Ψ : Int32 → e_TI → e_TL → e_TD → Prop}
    (H : ((x < 0 → Ψ 0 I L D) ∧ (¬ (x < 0) → ((16 ≤ x → Ψ 0 I L D) ∧ (¬ (16 ≤ x) → (vp_in x 16 ∧ Ψ (I 7 x.toNatClampNeg) I L D)))))) : e_M 36 [.ref 7, .int x] (S0 I L D sc) (e_rI sc Ψ) :=
  e_M_go e_q36 e_k36 [] 14 (by decide +kernel) rfl rfl (And.intro (fun c2 => e_rIi ((H).1 c2)) (fun c2 => And.intro (fun c1 => e_rIi ((((H).2 c2)).1 c1)) (fun c1 => And.intro (((((H).2 c2)).2 c1)).1 (e_rIi ((((((H).2 c2)).2 c1)).2))))) (e_h0 rfl)
set_option maxRecDepth 20000 in
theorem vR_read_8 {x : Int32} {I : e_TI} {L : e_TL} {D : e_TD} {sc : e_TS} {Ψ : Int32 → e_TI → e_TL → e_TD → Prop}
    (H : ((x < 0 → Ψ 0 I L D) ∧ (¬ (x < 0) → ((16 ≤ x → Ψ 0 I L D) ∧ (¬ (16 ≤ x) → (vp_in x 16 ∧ Ψ (I 8 x.toNatClampNeg) I L D)))))) : e_M 36 [.ref 8, .int x] (S0 I L D sc) (e_rI sc Ψ) :=
  e_M_go e_q36 e_k36 [] 14 (by decide +kernel) rfl rfl (And.intro (fun c2 => e_rIi ((H).1 c2)) (fun c2 => And.intro (fun c1 => e_rIi ((((H).2 c2)).1 c1)) (fun c1 => And.intro (((((H).2 c2)).2 c1)).1 (e_rIi ((((((H).2 c2)).2 c1)).2))))) (e_h0 rfl)
set_option maxRecDepth 20000 in
theorem vR_read_9 {x : Int32} {I : e_TI} {L : e_TL} {D : e_TD} {sc : e_TS} {Ψ : Int32 → e_TI → e_TL → e_TD → Prop}
    (H : ((x < 0 → Ψ 0 I L D) ∧ (¬ (x < 0) → ((16 ≤ x → Ψ 0 I L D) ∧ (¬ (16 ≤ x) → (vp_in x 16 ∧ Ψ (I 9 x.toNatClampNeg) I L D)))))) : e_M 36 [.ref 9, .int x] (S0 I L D sc) (e_rI sc Ψ) :=
  e_M_go e_q36 e_k36 [] 14 (by decide +kernel) rfl rfl (And.intro (fun c2 => e_rIi ((H).1 c2)) (fun c2 => And.intro (fun c1 => e_rIi ((((H).2 c2)).1 c1)) (fun c1 => And.intro (((((H).2 c2)).2 c1)).1 (e_rIi ((((((H).2 c2)).2 c1)).2))))) (e_h0 rfl)
set_option maxRecDepth 20000 in
theorem vR_read_X10 {x : Int32} {I : e_TI} {L : e_TL} {D : e_TD} {sc : e_TS} {Ψ : Int32 → e_TI → e_TL → e_TD → Prop}
    (H : ((x < 0 → Ψ 0 I L D) ∧ (¬ (x < 0) → ((15 ≤ x → Ψ 0 I L D) ∧ (¬ (15 ≤ x) → (vp_in x 15 ∧ Ψ (e_xt 10 x.toNatClampNeg) I L D)))))) : e_M 36 [.retAddr 10, .int x] (S0 I L D sc) (e_rI sc Ψ) :=
  e_M_go e_q36 e_k36 [] 14 (by decide +kernel) rfl rfl (And.intro (fun c2 => e_rIi ((H).1 c2)) (fun c2 => And.intro (fun c1 => e_rIi ((((H).2 c2)).1 c1)) (fun c1 => And.intro (((((H).2 c2)).2 c1)).1 (e_rIi ((((((H).2 c2)).2 c1)).2))))) (e_h0 rfl)
set_option maxRecDepth 20000 in
theorem vR_read_X11 {x : Int32} {I : e_TI} {L : e_TL} {D : e_TD} {sc : e_TS} {Ψ : Int32 → e_TI → e_TL → e_TD → Prop}
    (H : ((x < 0 → Ψ 0 I L D) ∧ (¬ (x < 0) → ((3 ≤ x → Ψ 0 I L D) ∧ (¬ (3 ≤ x) → (vp_in x 3 ∧ Ψ (e_xt 11 x.toNatClampNeg) I L D)))))) : e_M 36 [.retAddr 11, .int x] (S0 I L D sc) (e_rI sc Ψ) :=
  e_M_go e_q36 e_k36 [] 14 (by decide +kernel) rfl rfl (And.intro (fun c2 => e_rIi ((H).1 c2)) (fun c2 => And.intro (fun c1 => e_rIi ((((H).2 c2)).1 c1)) (fun c1 => And.intro (((((H).2 c2)).2 c1)).1 (e_rIi ((((((H).2 c2)).2 c1)).2))))) (e_h0 rfl)
set_option maxRecDepth 20000 in
theorem vR_read_X12 {x : Int32} {I : e_TI} {L : e_TL} {D : e_TD} {sc : e_TS} {Ψ : Int32 → e_TI → e_TL → e_TD → Prop}
    (H : ((x < 0 → Ψ 0 I L D) ∧ (¬ (x < 0) → ((6 ≤ x → Ψ 0 I L D) ∧ (¬ (6 ≤ x) → (vp_in x 6 ∧ Ψ (e_xt 12 x.toNatClampNeg) I L D)))))) : e_M 36 [.retAddr 12, .int x] (S0 I L D sc) (e_rI sc Ψ) :=
  e_M_go e_q36 e_k36 [] 14 (by decide +kernel) rfl rfl (And.intro (fun c2 => e_rIi ((H).1 c2)) (fun c2 => And.intro (fun c1 => e_rIi ((((H).2 c2)).1 c1)) (fun c1 => And.intro (((((H).2 c2)).2 c1)).1 (e_rIi ((((((H).2 c2)).2 c1)).2))))) (e_h0 rfl)
set_option maxRecDepth 20000 in
theorem vR_read_X13 {x : Int32} {I : e_TI} {L : e_TL} {D : e_TD} {sc : e_TS} {Ψ : Int32 → e_TI → e_TL → e_TD → Prop}
    (H : ((x < 0 → Ψ 0 I L D) ∧ (¬ (x < 0) → ((6 ≤ x → Ψ 0 I L D) ∧ (¬ (6 ≤ x) → (vp_in x 6 ∧ Ψ (e_xt 13 x.toNatClampNeg) I L D)))))) : e_M 36 [.retAddr 13, .int x] (S0 I L D sc) (e_rI sc Ψ) :=
  e_M_go e_q36 e_k36 [] 14 (by decide +kernel) rfl rfl (And.intro (fun c2 => e_rIi ((H).1 c2)) (fun c2 => And.intro (fun c1 => e_rIi ((((H).2 c2)).1 c1)) (fun c1 => And.intro (((((H).2 c2)).2 c1)).1 (e_rIi ((((((H).2 c2)).2 c1)).2))))) (e_h0 rfl)
set_option maxRecDepth 20000 in
theorem vR_write_135 {x : Int32} {y : Int32} {I : e_TI} {L : e_TL} {D : e_TD} {sc : e_TS} {Ψ : e_TI → e_TL → e_TD → Prop}
    (H : ((x < 0 → Ψ I L D) ∧ (¬ (x < 0) → ((3 ≤ x → Ψ I L D) ∧ (¬ (3 ≤ x) → (vp_in x 3 ∧ Ψ (e_up I 135 x.toNatClampNeg y) L D)))))) : e_M 51 [.ref 135, .int x, .int y] (S0 I L D sc) (e_rV sc Ψ) :=
  e_M_go e_q51 e_k51 [] 13 (by decide +kernel) rfl rfl (And.intro (fun c2 => e_rVi ((H).1 c2)) (fun c2 => And.intro (fun c1 => e_rVi ((((H).2 c2)).1 c1)) (fun c1 => And.intro (((((H).2 c2)).2 c1)).1 (e_rVi ((((((H).2 c2)).2 c1)).2))))) (e_h0 rfl)
set_option maxRecDepth 20000 in
theorem vR_write_136 {x : Int32} {y : Int32} {I : e_TI} {L : e_TL} {D : e_TD} {sc : e_TS} {Ψ : e_TI → e_TL → e_TD → Prop}
    (H : ((x < 0 → Ψ I L D) ∧ (¬ (x < 0) → ((3 ≤ x → Ψ I L D) ∧ (¬ (3 ≤ x) → (vp_in x 3 ∧ Ψ (e_up I 136 x.toNatClampNeg y) L D)))))) : e_M 51 [.ref 136, .int x, .int y] (S0 I L D sc) (e_rV sc Ψ) :=
  e_M_go e_q51 e_k51 [] 13 (by decide +kernel) rfl rfl (And.intro (fun c2 => e_rVi ((H).1 c2)) (fun c2 => And.intro (fun c1 => e_rVi ((((H).2 c2)).1 c1)) (fun c1 => And.intro (((((H).2 c2)).2 c1)).1 (e_rVi ((((((H).2 c2)).2 c1)).2))))) (e_h0 rfl)
set_option maxRecDepth 20000 in
theorem vR_write_7 {x : Int32} {y : Int32} {I : e_TI} {L : e_TL} {D : e_TD} {sc : e_TS} {Ψ : e_TI → e_TL → e_TD → Prop}
    (H : ((x < 0 → Ψ I L D) ∧ (¬ (x < 0) → ((16 ≤ x → Ψ I L D) ∧ (¬ (16 ≤ x) → (vp_in x 16 ∧ Ψ (e_up I 7 x.toNatClampNeg y) L D)))))) : e_M 51 [.ref 7, .int x, .int y] (S0 I L D sc) (e_rV sc Ψ) :=
  e_M_go e_q51 e_k51 [] 13 (by decide +kernel) rfl rfl (And.intro (fun c2 => e_rVi ((H).1 c2)) (fun c2 => And.intro (fun c1 => e_rVi ((((H).2 c2)).1 c1)) (fun c1 => And.intro (((((H).2 c2)).2 c1)).1 (e_rVi ((((((H).2 c2)).2 c1)).2))))) (e_h0 rfl)
set_option maxRecDepth 20000 in
theorem vR_write_8 {x : Int32} {y : Int32} {I : e_TI} {L : e_TL} {D : e_TD} {sc : e_TS} {Ψ : e_TI → e_TL → e_TD → Prop}
    (H : ((x < 0 → Ψ I L D) ∧ (¬ (x < 0) → ((16 ≤ x → Ψ I L D) ∧ (¬ (16 ≤ x) → (vp_in x 16 ∧ Ψ (e_up I 8 x.toNatClampNeg y) L D)))))) : e_M 51 [.ref 8, .int x, .int y] (S0 I L D sc) (e_rV sc Ψ) :=
  e_M_go e_q51 e_k51 [] 13 (by decide +kernel) rfl rfl (And.intro (fun c2 => e_rVi ((H).1 c2)) (fun c2 => And.intro (fun c1 => e_rVi ((((H).2 c2)).1 c1)) (fun c1 => And.intro (((((H).2 c2)).2 c1)).1 (e_rVi ((((((H).2 c2)).2 c1)).2))))) (e_h0 rfl)
set_option maxRecDepth 20000 in
theorem vR_write_9 {x : Int32} {y : Int32} {I : e_TI} {L : e_TL} {D : e_TD} {sc : e_TS} {Ψ : e_TI → e_TL → e_TD → Prop}
    (H : ((x < 0 → Ψ I L D) ∧ (¬ (x < 0) → ((16 ≤ x → Ψ I L D) ∧ (¬ (16 ≤ x) → (vp_in x 16 ∧ Ψ (e_up I 9 x.toNatClampNeg y) L D)))))) : e_M 51 [.ref 9, .int x, .int y] (S0 I L D sc) (e_rV sc Ψ) :=
  e_M_go e_q51 e_k51 [] 13 (by decide +kernel) rfl rfl (And.intro (fun c2 => e_rVi ((H).1 c2)) (fun c2 => And.intro (fun c1 => e_rVi ((((H).2 c2)).1 c1)) (fun c1 => And.intro (((((H).2 c2)).2 c1)).1 (e_rVi ((((((H).2 c2)).2 c1)).2))))) (e_h0 rfl)
