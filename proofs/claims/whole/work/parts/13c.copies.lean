/-! what each method does, its calls left as contracts: copies -/
set_option maxRecDepth 20000 in
theorem vG_copyFrom_110_2 {I : e_TI} {L : e_TL} {D : e_TD} {sc : e_TS} {Ψ : e_TI → e_TL → e_TD → Prop}
    (H : e_M 20 [.ref 111, .ref 3] (S0 I L D sc) (e_rV sc (fun I1 L1 D1 => e_M 22 [.ref 114, .ref 6] (S0 I1 L1 D1 sc) (e_rV sc (fun I2 L2 D2 => Ψ (e_up (e_up (e_up (e_up (e_up (e_up (e_up I2 110 2 (I2 2 2)) 110 3 (I2 2 3)) 110 4 (I2 2 4)) 110 5 (I2 2 5)) 110 6 (I2 2 6)) 110 7 (I2 2 7)) 110 8 (I2 2 8)) L2 D2))))) : e_M 23 [.ref 110, .ref 2] (S0 I L D sc) (e_rV sc Ψ) :=
  e_M_go e_q23 e_k23 [] 41 (by decide +kernel) rfl rfl (e_M.mono (H) (e_gV (fun I1 L1 D1 H1 => e_M.mono (H1) (e_gV (fun I2 L2 D2 H2 => e_rVi H2))))) (e_h0 rfl)
set_option maxRecDepth 20000 in
theorem vG_copyFrom_122_2 {I : e_TI} {L : e_TL} {D : e_TD} {sc : e_TS} {Ψ : e_TI → e_TL → e_TD → Prop}
    (H : e_M 20 [.ref 123, .ref 3] (S0 I L D sc) (e_rV sc (fun I1 L1 D1 => e_M 22 [.ref 126, .ref 6] (S0 I1 L1 D1 sc) (e_rV sc (fun I2 L2 D2 => Ψ (e_up (e_up (e_up (e_up (e_up (e_up (e_up I2 122 2 (I2 2 2)) 122 3 (I2 2 3)) 122 4 (I2 2 4)) 122 5 (I2 2 5)) 122 6 (I2 2 6)) 122 7 (I2 2 7)) 122 8 (I2 2 8)) L2 D2))))) : e_M 23 [.ref 122, .ref 2] (S0 I L D sc) (e_rV sc Ψ) :=
  e_M_go e_q23 e_k23 [] 41 (by decide +kernel) rfl rfl (e_M.mono (H) (e_gV (fun I1 L1 D1 H1 => e_M.mono (H1) (e_gV (fun I2 L2 D2 H2 => e_rVi H2))))) (e_h0 rfl)
set_option maxRecDepth 20000 in
theorem vG_copyFrom_24_2 {I : e_TI} {L : e_TL} {D : e_TD} {sc : e_TS} {Ψ : e_TI → e_TL → e_TD → Prop}
    (H : e_M 20 [.ref 25, .ref 3] (S0 I L D sc) (e_rV sc (fun I1 L1 D1 => e_M 22 [.ref 28, .ref 6] (S0 I1 L1 D1 sc) (e_rV sc (fun I2 L2 D2 => Ψ (e_up (e_up (e_up (e_up (e_up (e_up (e_up I2 24 2 (I2 2 2)) 24 3 (I2 2 3)) 24 4 (I2 2 4)) 24 5 (I2 2 5)) 24 6 (I2 2 6)) 24 7 (I2 2 7)) 24 8 (I2 2 8)) L2 D2))))) : e_M 23 [.ref 24, .ref 2] (S0 I L D sc) (e_rV sc Ψ) :=
  e_M_go e_q23 e_k23 [] 41 (by decide +kernel) rfl rfl (e_M.mono (H) (e_gV (fun I1 L1 D1 H1 => e_M.mono (H1) (e_gV (fun I2 L2 D2 H2 => e_rVi H2))))) (e_h0 rfl)
set_option maxRecDepth 20000 in
theorem vG_copyFrom_2_110 {I : e_TI} {L : e_TL} {D : e_TD} {sc : e_TS} {Ψ : e_TI → e_TL → e_TD → Prop}
    (H : e_M 20 [.ref 3, .ref 111] (S0 I L D sc) (e_rV sc (fun I1 L1 D1 => e_M 22 [.ref 6, .ref 114] (S0 I1 L1 D1 sc) (e_rV sc (fun I2 L2 D2 => Ψ (e_up (e_up (e_up (e_up (e_up (e_up (e_up I2 2 2 (I2 110 2)) 2 3 (I2 110 3)) 2 4 (I2 110 4)) 2 5 (I2 110 5)) 2 6 (I2 110 6)) 2 7 (I2 110 7)) 2 8 (I2 110 8)) L2 D2))))) : e_M 23 [.ref 2, .ref 110] (S0 I L D sc) (e_rV sc Ψ) :=
  e_M_go e_q23 e_k23 [] 41 (by decide +kernel) rfl rfl (e_M.mono (H) (e_gV (fun I1 L1 D1 H1 => e_M.mono (H1) (e_gV (fun I2 L2 D2 H2 => e_rVi H2))))) (e_h0 rfl)
set_option maxRecDepth 20000 in
theorem vG_copyFrom_2_122 {I : e_TI} {L : e_TL} {D : e_TD} {sc : e_TS} {Ψ : e_TI → e_TL → e_TD → Prop}
    (H : e_M 20 [.ref 3, .ref 123] (S0 I L D sc) (e_rV sc (fun I1 L1 D1 => e_M 22 [.ref 6, .ref 126] (S0 I1 L1 D1 sc) (e_rV sc (fun I2 L2 D2 => Ψ (e_up (e_up (e_up (e_up (e_up (e_up (e_up I2 2 2 (I2 122 2)) 2 3 (I2 122 3)) 2 4 (I2 122 4)) 2 5 (I2 122 5)) 2 6 (I2 122 6)) 2 7 (I2 122 7)) 2 8 (I2 122 8)) L2 D2))))) : e_M 23 [.ref 2, .ref 122] (S0 I L D sc) (e_rV sc Ψ) :=
  e_M_go e_q23 e_k23 [] 41 (by decide +kernel) rfl rfl (e_M.mono (H) (e_gV (fun I1 L1 D1 H1 => e_M.mono (H1) (e_gV (fun I2 L2 D2 H2 => e_rVi H2))))) (e_h0 rfl)
set_option maxRecDepth 20000 in
theorem vG_copyFrom_2_24 {I : e_TI} {L : e_TL} {D : e_TD} {sc : e_TS} {Ψ : e_TI → e_TL → e_TD → Prop}
    (H : e_M 20 [.ref 3, .ref 25] (S0 I L D sc) (e_rV sc (fun I1 L1 D1 => e_M 22 [.ref 6, .ref 28] (S0 I1 L1 D1 sc) (e_rV sc (fun I2 L2 D2 => Ψ (e_up (e_up (e_up (e_up (e_up (e_up (e_up I2 2 2 (I2 24 2)) 2 3 (I2 24 3)) 2 4 (I2 24 4)) 2 5 (I2 24 5)) 2 6 (I2 24 6)) 2 7 (I2 24 7)) 2 8 (I2 24 8)) L2 D2))))) : e_M 23 [.ref 2, .ref 24] (S0 I L D sc) (e_rV sc Ψ) :=
  e_M_go e_q23 e_k23 [] 41 (by decide +kernel) rfl rfl (e_M.mono (H) (e_gV (fun I1 L1 D1 H1 => e_M.mono (H1) (e_gV (fun I2 L2 D2 H2 => e_rVi H2))))) (e_h0 rfl)
set_option maxRecDepth 20000 in
theorem vG_copyFrom_2_38 {I : e_TI} {L : e_TL} {D : e_TD} {sc : e_TS} {Ψ : e_TI → e_TL → e_TD → Prop}
    (H : e_M 20 [.ref 3, .ref 39] (S0 I L D sc) (e_rV sc (fun I1 L1 D1 => e_M 22 [.ref 6, .ref 42] (S0 I1 L1 D1 sc) (e_rV sc (fun I2 L2 D2 => Ψ (e_up (e_up (e_up (e_up (e_up (e_up (e_up I2 2 2 (I2 38 2)) 2 3 (I2 38 3)) 2 4 (I2 38 4)) 2 5 (I2 38 5)) 2 6 (I2 38 6)) 2 7 (I2 38 7)) 2 8 (I2 38 8)) L2 D2))))) : e_M 23 [.ref 2, .ref 38] (S0 I L D sc) (e_rV sc Ψ) :=
  e_M_go e_q23 e_k23 [] 41 (by decide +kernel) rfl rfl (e_M.mono (H) (e_gV (fun I1 L1 D1 H1 => e_M.mono (H1) (e_gV (fun I2 L2 D2 H2 => e_rVi H2))))) (e_h0 rfl)
set_option maxRecDepth 20000 in
theorem vG_copyFrom_2_50 {I : e_TI} {L : e_TL} {D : e_TD} {sc : e_TS} {Ψ : e_TI → e_TL → e_TD → Prop}
    (H : e_M 20 [.ref 3, .ref 51] (S0 I L D sc) (e_rV sc (fun I1 L1 D1 => e_M 22 [.ref 6, .ref 54] (S0 I1 L1 D1 sc) (e_rV sc (fun I2 L2 D2 => Ψ (e_up (e_up (e_up (e_up (e_up (e_up (e_up I2 2 2 (I2 50 2)) 2 3 (I2 50 3)) 2 4 (I2 50 4)) 2 5 (I2 50 5)) 2 6 (I2 50 6)) 2 7 (I2 50 7)) 2 8 (I2 50 8)) L2 D2))))) : e_M 23 [.ref 2, .ref 50] (S0 I L D sc) (e_rV sc Ψ) :=
  e_M_go e_q23 e_k23 [] 41 (by decide +kernel) rfl rfl (e_M.mono (H) (e_gV (fun I1 L1 D1 H1 => e_M.mono (H1) (e_gV (fun I2 L2 D2 H2 => e_rVi H2))))) (e_h0 rfl)
set_option maxRecDepth 20000 in
theorem vG_copyFrom_2_62 {I : e_TI} {L : e_TL} {D : e_TD} {sc : e_TS} {Ψ : e_TI → e_TL → e_TD → Prop}
    (H : e_M 20 [.ref 3, .ref 63] (S0 I L D sc) (e_rV sc (fun I1 L1 D1 => e_M 22 [.ref 6, .ref 66] (S0 I1 L1 D1 sc) (e_rV sc (fun I2 L2 D2 => Ψ (e_up (e_up (e_up (e_up (e_up (e_up (e_up I2 2 2 (I2 62 2)) 2 3 (I2 62 3)) 2 4 (I2 62 4)) 2 5 (I2 62 5)) 2 6 (I2 62 6)) 2 7 (I2 62 7)) 2 8 (I2 62 8)) L2 D2))))) : e_M 23 [.ref 2, .ref 62] (S0 I L D sc) (e_rV sc Ψ) :=
  e_M_go e_q23 e_k23 [] 41 (by decide +kernel) rfl rfl (e_M.mono (H) (e_gV (fun I1 L1 D1 H1 => e_M.mono (H1) (e_gV (fun I2 L2 D2 H2 => e_rVi H2))))) (e_h0 rfl)
set_option maxRecDepth 20000 in
theorem vG_copyFrom_2_74 {I : e_TI} {L : e_TL} {D : e_TD} {sc : e_TS} {Ψ : e_TI → e_TL → e_TD → Prop}
    (H : e_M 20 [.ref 3, .ref 75] (S0 I L D sc) (e_rV sc (fun I1 L1 D1 => e_M 22 [.ref 6, .ref 78] (S0 I1 L1 D1 sc) (e_rV sc (fun I2 L2 D2 => Ψ (e_up (e_up (e_up (e_up (e_up (e_up (e_up I2 2 2 (I2 74 2)) 2 3 (I2 74 3)) 2 4 (I2 74 4)) 2 5 (I2 74 5)) 2 6 (I2 74 6)) 2 7 (I2 74 7)) 2 8 (I2 74 8)) L2 D2))))) : e_M 23 [.ref 2, .ref 74] (S0 I L D sc) (e_rV sc Ψ) :=
  e_M_go e_q23 e_k23 [] 41 (by decide +kernel) rfl rfl (e_M.mono (H) (e_gV (fun I1 L1 D1 H1 => e_M.mono (H1) (e_gV (fun I2 L2 D2 H2 => e_rVi H2))))) (e_h0 rfl)
set_option maxRecDepth 20000 in
theorem vG_copyFrom_2_86 {I : e_TI} {L : e_TL} {D : e_TD} {sc : e_TS} {Ψ : e_TI → e_TL → e_TD → Prop}
    (H : e_M 20 [.ref 3, .ref 87] (S0 I L D sc) (e_rV sc (fun I1 L1 D1 => e_M 22 [.ref 6, .ref 90] (S0 I1 L1 D1 sc) (e_rV sc (fun I2 L2 D2 => Ψ (e_up (e_up (e_up (e_up (e_up (e_up (e_up I2 2 2 (I2 86 2)) 2 3 (I2 86 3)) 2 4 (I2 86 4)) 2 5 (I2 86 5)) 2 6 (I2 86 6)) 2 7 (I2 86 7)) 2 8 (I2 86 8)) L2 D2))))) : e_M 23 [.ref 2, .ref 86] (S0 I L D sc) (e_rV sc Ψ) :=
  e_M_go e_q23 e_k23 [] 41 (by decide +kernel) rfl rfl (e_M.mono (H) (e_gV (fun I1 L1 D1 H1 => e_M.mono (H1) (e_gV (fun I2 L2 D2 H2 => e_rVi H2))))) (e_h0 rfl)
set_option maxRecDepth 20000 in
theorem vG_copyFrom_2_98 {I : e_TI} {L : e_TL} {D : e_TD} {sc : e_TS} {Ψ : e_TI → e_TL → e_TD → Prop}
    (H : e_M 20 [.ref 3, .ref 99] (S0 I L D sc) (e_rV sc (fun I1 L1 D1 => e_M 22 [.ref 6, .ref 102] (S0 I1 L1 D1 sc) (e_rV sc (fun I2 L2 D2 => Ψ (e_up (e_up (e_up (e_up (e_up (e_up (e_up I2 2 2 (I2 98 2)) 2 3 (I2 98 3)) 2 4 (I2 98 4)) 2 5 (I2 98 5)) 2 6 (I2 98 6)) 2 7 (I2 98 7)) 2 8 (I2 98 8)) L2 D2))))) : e_M 23 [.ref 2, .ref 98] (S0 I L D sc) (e_rV sc Ψ) :=
  e_M_go e_q23 e_k23 [] 41 (by decide +kernel) rfl rfl (e_M.mono (H) (e_gV (fun I1 L1 D1 H1 => e_M.mono (H1) (e_gV (fun I2 L2 D2 H2 => e_rVi H2))))) (e_h0 rfl)
set_option maxRecDepth 20000 in
theorem vG_copyFrom_38_2 {I : e_TI} {L : e_TL} {D : e_TD} {sc : e_TS} {Ψ : e_TI → e_TL → e_TD → Prop}
    (H : e_M 20 [.ref 39, .ref 3] (S0 I L D sc) (e_rV sc (fun I1 L1 D1 => e_M 22 [.ref 42, .ref 6] (S0 I1 L1 D1 sc) (e_rV sc (fun I2 L2 D2 => Ψ (e_up (e_up (e_up (e_up (e_up (e_up (e_up I2 38 2 (I2 2 2)) 38 3 (I2 2 3)) 38 4 (I2 2 4)) 38 5 (I2 2 5)) 38 6 (I2 2 6)) 38 7 (I2 2 7)) 38 8 (I2 2 8)) L2 D2))))) : e_M 23 [.ref 38, .ref 2] (S0 I L D sc) (e_rV sc Ψ) :=
  e_M_go e_q23 e_k23 [] 41 (by decide +kernel) rfl rfl (e_M.mono (H) (e_gV (fun I1 L1 D1 H1 => e_M.mono (H1) (e_gV (fun I2 L2 D2 H2 => e_rVi H2))))) (e_h0 rfl)
set_option maxRecDepth 20000 in
theorem vG_copyFrom_50_2 {I : e_TI} {L : e_TL} {D : e_TD} {sc : e_TS} {Ψ : e_TI → e_TL → e_TD → Prop}
    (H : e_M 20 [.ref 51, .ref 3] (S0 I L D sc) (e_rV sc (fun I1 L1 D1 => e_M 22 [.ref 54, .ref 6] (S0 I1 L1 D1 sc) (e_rV sc (fun I2 L2 D2 => Ψ (e_up (e_up (e_up (e_up (e_up (e_up (e_up I2 50 2 (I2 2 2)) 50 3 (I2 2 3)) 50 4 (I2 2 4)) 50 5 (I2 2 5)) 50 6 (I2 2 6)) 50 7 (I2 2 7)) 50 8 (I2 2 8)) L2 D2))))) : e_M 23 [.ref 50, .ref 2] (S0 I L D sc) (e_rV sc Ψ) :=
  e_M_go e_q23 e_k23 [] 41 (by decide +kernel) rfl rfl (e_M.mono (H) (e_gV (fun I1 L1 D1 H1 => e_M.mono (H1) (e_gV (fun I2 L2 D2 H2 => e_rVi H2))))) (e_h0 rfl)
set_option maxRecDepth 20000 in
theorem vG_copyFrom_62_2 {I : e_TI} {L : e_TL} {D : e_TD} {sc : e_TS} {Ψ : e_TI → e_TL → e_TD → Prop}
    (H : e_M 20 [.ref 63, .ref 3] (S0 I L D sc) (e_rV sc (fun I1 L1 D1 => e_M 22 [.ref 66, .ref 6] (S0 I1 L1 D1 sc) (e_rV sc (fun I2 L2 D2 => Ψ (e_up (e_up (e_up (e_up (e_up (e_up (e_up I2 62 2 (I2 2 2)) 62 3 (I2 2 3)) 62 4 (I2 2 4)) 62 5 (I2 2 5)) 62 6 (I2 2 6)) 62 7 (I2 2 7)) 62 8 (I2 2 8)) L2 D2))))) : e_M 23 [.ref 62, .ref 2] (S0 I L D sc) (e_rV sc Ψ) :=
  e_M_go e_q23 e_k23 [] 41 (by decide +kernel) rfl rfl (e_M.mono (H) (e_gV (fun I1 L1 D1 H1 => e_M.mono (H1) (e_gV (fun I2 L2 D2 H2 => e_rVi H2))))) (e_h0 rfl)
set_option maxRecDepth 20000 in
theorem vG_copyFrom_74_2 {I : e_TI} {L : e_TL} {D : e_TD} {sc : e_TS} {Ψ : e_TI → e_TL → e_TD → Prop}
    (H : e_M 20 [.ref 75, .ref 3] (S0 I L D sc) (e_rV sc (fun I1 L1 D1 => e_M 22 [.ref 78, .ref 6] (S0 I1 L1 D1 sc) (e_rV sc (fun I2 L2 D2 => Ψ (e_up (e_up (e_up (e_up (e_up (e_up (e_up I2 74 2 (I2 2 2)) 74 3 (I2 2 3)) 74 4 (I2 2 4)) 74 5 (I2 2 5)) 74 6 (I2 2 6)) 74 7 (I2 2 7)) 74 8 (I2 2 8)) L2 D2))))) : e_M 23 [.ref 74, .ref 2] (S0 I L D sc) (e_rV sc Ψ) :=
  e_M_go e_q23 e_k23 [] 41 (by decide +kernel) rfl rfl (e_M.mono (H) (e_gV (fun I1 L1 D1 H1 => e_M.mono (H1) (e_gV (fun I2 L2 D2 H2 => e_rVi H2))))) (e_h0 rfl)
set_option maxRecDepth 20000 in
theorem vG_copyFrom_86_2 {I : e_TI} {L : e_TL} {D : e_TD} {sc : e_TS} {Ψ : e_TI → e_TL → e_TD → Prop}
    (H : e_M 20 [.ref 87, .ref 3] (S0 I L D sc) (e_rV sc (fun I1 L1 D1 => e_M 22 [.ref 90, .ref 6] (S0 I1 L1 D1 sc) (e_rV sc (fun I2 L2 D2 => Ψ (e_up (e_up (e_up (e_up (e_up (e_up (e_up I2 86 2 (I2 2 2)) 86 3 (I2 2 3)) 86 4 (I2 2 4)) 86 5 (I2 2 5)) 86 6 (I2 2 6)) 86 7 (I2 2 7)) 86 8 (I2 2 8)) L2 D2))))) : e_M 23 [.ref 86, .ref 2] (S0 I L D sc) (e_rV sc Ψ) :=
  e_M_go e_q23 e_k23 [] 41 (by decide +kernel) rfl rfl (e_M.mono (H) (e_gV (fun I1 L1 D1 H1 => e_M.mono (H1) (e_gV (fun I2 L2 D2 H2 => e_rVi H2))))) (e_h0 rfl)
set_option maxRecDepth 20000 in
theorem vG_copyFrom_98_2 {I : e_TI} {L : e_TL} {D : e_TD} {sc : e_TS} {Ψ : e_TI → e_TL → e_TD → Prop}
    (H : e_M 20 [.ref 99, .ref 3] (S0 I L D sc) (e_rV sc (fun I1 L1 D1 => e_M 22 [.ref 102, .ref 6] (S0 I1 L1 D1 sc) (e_rV sc (fun I2 L2 D2 => Ψ (e_up (e_up (e_up (e_up (e_up (e_up (e_up I2 98 2 (I2 2 2)) 98 3 (I2 2 3)) 98 4 (I2 2 4)) 98 5 (I2 2 5)) 98 6 (I2 2 6)) 98 7 (I2 2 7)) 98 8 (I2 2 8)) L2 D2))))) : e_M 23 [.ref 98, .ref 2] (S0 I L D sc) (e_rV sc Ψ) :=
  e_M_go e_q23 e_k23 [] 41 (by decide +kernel) rfl rfl (e_M.mono (H) (e_gV (fun I1 L1 D1 H1 => e_M.mono (H1) (e_gV (fun I2 L2 D2 H2 => e_rVi H2))))) (e_h0 rfl)
set_option maxRecDepth 20000 in
theorem vHi_keep {I : e_TI} {L : e_TL} {D : e_TD} {sc : e_TS} {Ψ : e_TI → e_TL → e_TD → Prop}
    (H : e_M 18 [.ref 36, .int (I 36 1)] (S0 I L D sc) (e_rK sc (fun r1 I1 L1 D1 => (r1 = 38 → e_M 23 [.ref 38, .ref 2] (S0 I1 L1 D1 sc) (e_rV sc (fun I2 L2 D2 => ((8 ≤ ((I2 36 1) + 1) → e_M 24 [.int ((I2 36 2) + 1), .int 8] (S0 (e_up I2 36 1 0) L2 D2 sc) (e_rI sc (fun r3 I3 L3 D3 => Ψ (e_up I3 36 2 r3) L3 D3))) ∧ (¬ (8 ≤ ((I2 36 1) + 1)) → e_M 24 [.int ((I2 36 2) + 1), .int 8] (S0 (e_up I2 36 1 ((I2 36 1) + 1)) L2 D2 sc) (e_rI sc (fun r4 I4 L4 D4 => Ψ (e_up I4 36 2 r4) L4 D4))))))) ∧ (r1 = 50 → e_M 23 [.ref 50, .ref 2] (S0 I1 L1 D1 sc) (e_rV sc (fun I6 L6 D6 => ((8 ≤ ((I6 36 1) + 1) → e_M 24 [.int ((I6 36 2) + 1), .int 8] (S0 (e_up I6 36 1 0) L6 D6 sc) (e_rI sc (fun r7 I7 L7 D7 => Ψ (e_up I7 36 2 r7) L7 D7))) ∧ (¬ (8 ≤ ((I6 36 1) + 1)) → e_M 24 [.int ((I6 36 2) + 1), .int 8] (S0 (e_up I6 36 1 ((I6 36 1) + 1)) L6 D6 sc) (e_rI sc (fun r8 I8 L8 D8 => Ψ (e_up I8 36 2 r8) L8 D8))))))) ∧ (r1 = 62 → e_M 23 [.ref 62, .ref 2] (S0 I1 L1 D1 sc) (e_rV sc (fun I10 L10 D10 => ((8 ≤ ((I10 36 1) + 1) → e_M 24 [.int ((I10 36 2) + 1), .int 8] (S0 (e_up I10 36 1 0) L10 D10 sc) (e_rI sc (fun r11 I11 L11 D11 => Ψ (e_up I11 36 2 r11) L11 D11))) ∧ (¬ (8 ≤ ((I10 36 1) + 1)) → e_M 24 [.int ((I10 36 2) + 1), .int 8] (S0 (e_up I10 36 1 ((I10 36 1) + 1)) L10 D10 sc) (e_rI sc (fun r12 I12 L12 D12 => Ψ (e_up I12 36 2 r12) L12 D12))))))) ∧ (r1 = 74 → e_M 23 [.ref 74, .ref 2] (S0 I1 L1 D1 sc) (e_rV sc (fun I14 L14 D14 => ((8 ≤ ((I14 36 1) + 1) → e_M 24 [.int ((I14 36 2) + 1), .int 8] (S0 (e_up I14 36 1 0) L14 D14 sc) (e_rI sc (fun r15 I15 L15 D15 => Ψ (e_up I15 36 2 r15) L15 D15))) ∧ (¬ (8 ≤ ((I14 36 1) + 1)) → e_M 24 [.int ((I14 36 2) + 1), .int 8] (S0 (e_up I14 36 1 ((I14 36 1) + 1)) L14 D14 sc) (e_rI sc (fun r16 I16 L16 D16 => Ψ (e_up I16 36 2 r16) L16 D16))))))) ∧ (r1 = 86 → e_M 23 [.ref 86, .ref 2] (S0 I1 L1 D1 sc) (e_rV sc (fun I18 L18 D18 => ((8 ≤ ((I18 36 1) + 1) → e_M 24 [.int ((I18 36 2) + 1), .int 8] (S0 (e_up I18 36 1 0) L18 D18 sc) (e_rI sc (fun r19 I19 L19 D19 => Ψ (e_up I19 36 2 r19) L19 D19))) ∧ (¬ (8 ≤ ((I18 36 1) + 1)) → e_M 24 [.int ((I18 36 2) + 1), .int 8] (S0 (e_up I18 36 1 ((I18 36 1) + 1)) L18 D18 sc) (e_rI sc (fun r20 I20 L20 D20 => Ψ (e_up I20 36 2 r20) L20 D20))))))) ∧ (r1 = 98 → e_M 23 [.ref 98, .ref 2] (S0 I1 L1 D1 sc) (e_rV sc (fun I22 L22 D22 => ((8 ≤ ((I22 36 1) + 1) → e_M 24 [.int ((I22 36 2) + 1), .int 8] (S0 (e_up I22 36 1 0) L22 D22 sc) (e_rI sc (fun r23 I23 L23 D23 => Ψ (e_up I23 36 2 r23) L23 D23))) ∧ (¬ (8 ≤ ((I22 36 1) + 1)) → e_M 24 [.int ((I22 36 2) + 1), .int 8] (S0 (e_up I22 36 1 ((I22 36 1) + 1)) L22 D22 sc) (e_rI sc (fun r24 I24 L24 D24 => Ψ (e_up I24 36 2 r24) L24 D24))))))) ∧ (r1 = 110 → e_M 23 [.ref 110, .ref 2] (S0 I1 L1 D1 sc) (e_rV sc (fun I26 L26 D26 => ((8 ≤ ((I26 36 1) + 1) → e_M 24 [.int ((I26 36 2) + 1), .int 8] (S0 (e_up I26 36 1 0) L26 D26 sc) (e_rI sc (fun r27 I27 L27 D27 => Ψ (e_up I27 36 2 r27) L27 D27))) ∧ (¬ (8 ≤ ((I26 36 1) + 1)) → e_M 24 [.int ((I26 36 2) + 1), .int 8] (S0 (e_up I26 36 1 ((I26 36 1) + 1)) L26 D26 sc) (e_rI sc (fun r28 I28 L28 D28 => Ψ (e_up I28 36 2 r28) L28 D28))))))) ∧ (r1 = 122 → e_M 23 [.ref 122, .ref 2] (S0 I1 L1 D1 sc) (e_rV sc (fun I30 L30 D30 => ((8 ≤ ((I30 36 1) + 1) → e_M 24 [.int ((I30 36 2) + 1), .int 8] (S0 (e_up I30 36 1 0) L30 D30 sc) (e_rI sc (fun r31 I31 L31 D31 => Ψ (e_up I31 36 2 r31) L31 D31))) ∧ (¬ (8 ≤ ((I30 36 1) + 1)) → e_M 24 [.int ((I30 36 2) + 1), .int 8] (S0 (e_up I30 36 1 ((I30 36 1) + 1)) L30 D30 sc) (e_rI sc (fun r32 I32 L32 D32 => Ψ (e_up I32 36 2 r32) L32 D32)))))))))) : e_M 25 [.ref 36, .ref 2] (S0 I L D sc) (e_rV sc Ψ) :=
  e_M_go e_q25 e_k25 [] 35 (by decide +kernel) rfl rfl (e_M.mono (H) (e_gK (fun I1 L1 D1 H1 => e_M.mono ((H1.1 rfl)) (e_gV (fun I2 L2 D2 H2 => And.intro (fun c5 => e_M.mono (((H2).1 c5)) (e_gI (fun r3 I3 L3 D3 H3 => e_rVi H3))) (fun c5 => e_M.mono (((H2).2 c5)) (e_gI (fun r4 I4 L4 D4 H4 => e_rVi H4)))))) (fun I1 L1 D1 H1 => e_M.mono ((H1.2.1 rfl)) (e_gV (fun I6 L6 D6 H6 => And.intro (fun c9 => e_M.mono (((H6).1 c9)) (e_gI (fun r7 I7 L7 D7 H7 => e_rVi H7))) (fun c9 => e_M.mono (((H6).2 c9)) (e_gI (fun r8 I8 L8 D8 H8 => e_rVi H8)))))) (fun I1 L1 D1 H1 => e_M.mono ((H1.2.2.1 rfl)) (e_gV (fun I10 L10 D10 H10 => And.intro (fun c13 => e_M.mono (((H10).1 c13)) (e_gI (fun r11 I11 L11 D11 H11 => e_rVi H11))) (fun c13 => e_M.mono (((H10).2 c13)) (e_gI (fun r12 I12 L12 D12 H12 => e_rVi H12)))))) (fun I1 L1 D1 H1 => e_M.mono ((H1.2.2.2.1 rfl)) (e_gV (fun I14 L14 D14 H14 => And.intro (fun c17 => e_M.mono (((H14).1 c17)) (e_gI (fun r15 I15 L15 D15 H15 => e_rVi H15))) (fun c17 => e_M.mono (((H14).2 c17)) (e_gI (fun r16 I16 L16 D16 H16 => e_rVi H16)))))) (fun I1 L1 D1 H1 => e_M.mono ((H1.2.2.2.2.1 rfl)) (e_gV (fun I18 L18 D18 H18 => And.intro (fun c21 => e_M.mono (((H18).1 c21)) (e_gI (fun r19 I19 L19 D19 H19 => e_rVi H19))) (fun c21 => e_M.mono (((H18).2 c21)) (e_gI (fun r20 I20 L20 D20 H20 => e_rVi H20)))))) (fun I1 L1 D1 H1 => e_M.mono ((H1.2.2.2.2.2.1 rfl)) (e_gV (fun I22 L22 D22 H22 => And.intro (fun c25 => e_M.mono (((H22).1 c25)) (e_gI (fun r23 I23 L23 D23 H23 => e_rVi H23))) (fun c25 => e_M.mono (((H22).2 c25)) (e_gI (fun r24 I24 L24 D24 H24 => e_rVi H24)))))) (fun I1 L1 D1 H1 => e_M.mono ((H1.2.2.2.2.2.2.1 rfl)) (e_gV (fun I26 L26 D26 H26 => And.intro (fun c29 => e_M.mono (((H26).1 c29)) (e_gI (fun r27 I27 L27 D27 H27 => e_rVi H27))) (fun c29 => e_M.mono (((H26).2 c29)) (e_gI (fun r28 I28 L28 D28 H28 => e_rVi H28)))))) (fun I1 L1 D1 H1 => e_M.mono ((H1.2.2.2.2.2.2.2 rfl)) (e_gV (fun I30 L30 D30 H30 => And.intro (fun c33 => e_M.mono (((H30).1 c33)) (e_gI (fun r31 I31 L31 D31 H31 => e_rVi H31))) (fun c33 => e_M.mono (((H30).2 c33)) (e_gI (fun r32 I32 L32 D32 H32 => e_rVi H32)))))))) (e_h0 rfl)
set_option maxRecDepth 20000 in
theorem vHi_takeBack {I : e_TI} {L : e_TL} {D : e_TD} {sc : e_TS} {Ψ : e_TI → e_TL → e_TD → Prop}
    (H : (((I 36 1) ≤ 0 → e_M 18 [.ref 36, .int 7] (S0 I L D sc) (e_rK sc (fun r1 I1 L1 D1 => (r1 = 38 → (((I1 36 2) ≤ 0 → Ψ I1 L1 D1) ∧ (¬ (I1 36 2) ≤ 0 → e_M 23 [.ref 2, .ref 38] (S0 I1 L1 D1 sc) (e_rV sc (fun I2 L2 D2 => Ψ (e_up (e_up I2 36 1 7) 36 2 ((I2 36 2) - 1)) L2 D2))))) ∧ (r1 = 50 → (((I1 36 2) ≤ 0 → Ψ I1 L1 D1) ∧ (¬ (I1 36 2) ≤ 0 → e_M 23 [.ref 2, .ref 50] (S0 I1 L1 D1 sc) (e_rV sc (fun I4 L4 D4 => Ψ (e_up (e_up I4 36 1 7) 36 2 ((I4 36 2) - 1)) L4 D4))))) ∧ (r1 = 62 → (((I1 36 2) ≤ 0 → Ψ I1 L1 D1) ∧ (¬ (I1 36 2) ≤ 0 → e_M 23 [.ref 2, .ref 62] (S0 I1 L1 D1 sc) (e_rV sc (fun I6 L6 D6 => Ψ (e_up (e_up I6 36 1 7) 36 2 ((I6 36 2) - 1)) L6 D6))))) ∧ (r1 = 74 → (((I1 36 2) ≤ 0 → Ψ I1 L1 D1) ∧ (¬ (I1 36 2) ≤ 0 → e_M 23 [.ref 2, .ref 74] (S0 I1 L1 D1 sc) (e_rV sc (fun I8 L8 D8 => Ψ (e_up (e_up I8 36 1 7) 36 2 ((I8 36 2) - 1)) L8 D8))))) ∧ (r1 = 86 → (((I1 36 2) ≤ 0 → Ψ I1 L1 D1) ∧ (¬ (I1 36 2) ≤ 0 → e_M 23 [.ref 2, .ref 86] (S0 I1 L1 D1 sc) (e_rV sc (fun I10 L10 D10 => Ψ (e_up (e_up I10 36 1 7) 36 2 ((I10 36 2) - 1)) L10 D10))))) ∧ (r1 = 98 → (((I1 36 2) ≤ 0 → Ψ I1 L1 D1) ∧ (¬ (I1 36 2) ≤ 0 → e_M 23 [.ref 2, .ref 98] (S0 I1 L1 D1 sc) (e_rV sc (fun I12 L12 D12 => Ψ (e_up (e_up I12 36 1 7) 36 2 ((I12 36 2) - 1)) L12 D12))))) ∧ (r1 = 110 → (((I1 36 2) ≤ 0 → Ψ I1 L1 D1) ∧ (¬ (I1 36 2) ≤ 0 → e_M 23 [.ref 2, .ref 110] (S0 I1 L1 D1 sc) (e_rV sc (fun I14 L14 D14 => Ψ (e_up (e_up I14 36 1 7) 36 2 ((I14 36 2) - 1)) L14 D14))))) ∧ (r1 = 122 → (((I1 36 2) ≤ 0 → Ψ I1 L1 D1) ∧ (¬ (I1 36 2) ≤ 0 → e_M 23 [.ref 2, .ref 122] (S0 I1 L1 D1 sc) (e_rV sc (fun I16 L16 D16 => Ψ (e_up (e_up I16 36 1 7) 36 2 ((I16 36 2) - 1)) L16 D16)))))))) ∧ (¬ (I 36 1) ≤ 0 → e_M 18 [.ref 36, .int ((I 36 1) - 1)] (S0 I L D sc) (e_rK sc (fun r18 I18 L18 D18 => (r18 = 38 → (((I18 36 2) ≤ 0 → Ψ I18 L18 D18) ∧ (¬ (I18 36 2) ≤ 0 → e_M 23 [.ref 2, .ref 38] (S0 I18 L18 D18 sc) (e_rV sc (fun I19 L19 D19 => Ψ (e_up (e_up I19 36 1 ((I 36 1) - 1)) 36 2 ((I19 36 2) - 1)) L19 D19))))) ∧ (r18 = 50 → (((I18 36 2) ≤ 0 → Ψ I18 L18 D18) ∧ (¬ (I18 36 2) ≤ 0 → e_M 23 [.ref 2, .ref 50] (S0 I18 L18 D18 sc) (e_rV sc (fun I21 L21 D21 => Ψ (e_up (e_up I21 36 1 ((I 36 1) - 1)) 36 2 ((I21 36 2) - 1)) L21 D21))))) ∧ (r18 = 62 → (((I18 36 2) ≤ 0 → Ψ I18 L18 D18) ∧ (¬ (I18 36 2) ≤ 0 → e_M 23 [.ref 2, .ref 62] (S0 I18 L18 D18 sc) (e_rV sc (fun I23 L23 D23 => Ψ (e_up (e_up I23 36 1 ((I 36 1) - 1)) 36 2 ((I23 36 2) - 1)) L23 D23))))) ∧ (r18 = 74 → (((I18 36 2) ≤ 0 → Ψ I18 L18 D18) ∧ (¬ (I18 36 2) ≤ 0 → e_M 23 [.ref 2, .ref 74] (S0 I18 L18 D18 sc) (e_rV sc (fun I25 L25 D25 => Ψ (e_up (e_up I25 36 1 ((I 36 1) - 1)) 36 2 ((I25 36 2) - 1)) L25 D25))))) ∧ (r18 = 86 → (((I18 36 2) ≤ 0 → Ψ I18 L18 D18) ∧ (¬ (I18 36 2) ≤ 0 → e_M 23 [.ref 2, .ref 86] (S0 I18 L18 D18 sc) (e_rV sc (fun I27 L27 D27 => Ψ (e_up (e_up I27 36 1 ((I 36 1) - 1)) 36 2 ((I27 36 2) - 1)) L27 D27))))) ∧ (r18 = 98 → (((I18 36 2) ≤ 0 → Ψ I18 L18 D18) ∧ (¬ (I18 36 2) ≤ 0 → e_M 23 [.ref 2, .ref 98] (S0 I18 L18 D18 sc) (e_rV sc (fun I29 L29 D29 => Ψ (e_up (e_up I29 36 1 ((I 36 1) - 1)) 36 2 ((I29 36 2) - 1)) L29 D29))))) ∧ (r18 = 110 → (((I18 36 2) ≤ 0 → Ψ I18 L18 D18) ∧ (¬ (I18 36 2) ≤ 0 → e_M 23 [.ref 2, .ref 110] (S0 I18 L18 D18 sc) (e_rV sc (fun I31 L31 D31 => Ψ (e_up (e_up I31 36 1 ((I 36 1) - 1)) 36 2 ((I31 36 2) - 1)) L31 D31))))) ∧ (r18 = 122 → (((I18 36 2) ≤ 0 → Ψ I18 L18 D18) ∧ (¬ (I18 36 2) ≤ 0 → e_M 23 [.ref 2, .ref 122] (S0 I18 L18 D18 sc) (e_rV sc (fun I33 L33 D33 => Ψ (e_up (e_up I33 36 1 ((I 36 1) - 1)) 36 2 ((I33 36 2) - 1)) L33 D33)))))))))) : e_M 218 [.ref 36, .ref 2] (S0 I L D sc) (e_rV sc Ψ) :=
  e_M_go e_q218 e_k218 [] 34 (by decide +kernel) rfl rfl (And.intro (fun c35 => e_M.mono (((H).1 c35)) (e_gK (fun I1 L1 D1 H1 => And.intro (fun c3 => e_rVi (((H1.1 rfl)).1 c3)) (fun c3 => e_M.mono ((((H1.1 rfl)).2 c3)) (e_gV (fun I2 L2 D2 H2 => e_rVi H2)))) (fun I1 L1 D1 H1 => And.intro (fun c5 => e_rVi (((H1.2.1 rfl)).1 c5)) (fun c5 => e_M.mono ((((H1.2.1 rfl)).2 c5)) (e_gV (fun I4 L4 D4 H4 => e_rVi H4)))) (fun I1 L1 D1 H1 => And.intro (fun c7 => e_rVi (((H1.2.2.1 rfl)).1 c7)) (fun c7 => e_M.mono ((((H1.2.2.1 rfl)).2 c7)) (e_gV (fun I6 L6 D6 H6 => e_rVi H6)))) (fun I1 L1 D1 H1 => And.intro (fun c9 => e_rVi (((H1.2.2.2.1 rfl)).1 c9)) (fun c9 => e_M.mono ((((H1.2.2.2.1 rfl)).2 c9)) (e_gV (fun I8 L8 D8 H8 => e_rVi H8)))) (fun I1 L1 D1 H1 => And.intro (fun c11 => e_rVi (((H1.2.2.2.2.1 rfl)).1 c11)) (fun c11 => e_M.mono ((((H1.2.2.2.2.1 rfl)).2 c11)) (e_gV (fun I10 L10 D10 H10 => e_rVi H10)))) (fun I1 L1 D1 H1 => And.intro (fun c13 => e_rVi (((H1.2.2.2.2.2.1 rfl)).1 c13)) (fun c13 => e_M.mono ((((H1.2.2.2.2.2.1 rfl)).2 c13)) (e_gV (fun I12 L12 D12 H12 => e_rVi H12)))) (fun I1 L1 D1 H1 => And.intro (fun c15 => e_rVi (((H1.2.2.2.2.2.2.1 rfl)).1 c15)) (fun c15 => e_M.mono ((((H1.2.2.2.2.2.2.1 rfl)).2 c15)) (e_gV (fun I14 L14 D14 H14 => e_rVi H14)))) (fun I1 L1 D1 H1 => And.intro (fun c17 => e_rVi (((H1.2.2.2.2.2.2.2 rfl)).1 c17)) (fun c17 => e_M.mono ((((H1.2.2.2.2.2.2.2 rfl)).2 c17)) (e_gV (fun I16 L16 D16 H16 => e_rVi H16)))))) (fun c35 => e_M.mono (((H).2 c35)) (e_gK (fun I18 L18 D18 H18 => And.intro (fun c20 => e_rVi (((H18.1 rfl)).1 c20)) (fun c20 => e_M.mono ((((H18.1 rfl)).2 c20)) (e_gV (fun I19 L19 D19 H19 => e_rVi H19)))) (fun I18 L18 D18 H18 => And.intro (fun c22 => e_rVi (((H18.2.1 rfl)).1 c22)) (fun c22 => e_M.mono ((((H18.2.1 rfl)).2 c22)) (e_gV (fun I21 L21 D21 H21 => e_rVi H21)))) (fun I18 L18 D18 H18 => And.intro (fun c24 => e_rVi (((H18.2.2.1 rfl)).1 c24)) (fun c24 => e_M.mono ((((H18.2.2.1 rfl)).2 c24)) (e_gV (fun I23 L23 D23 H23 => e_rVi H23)))) (fun I18 L18 D18 H18 => And.intro (fun c26 => e_rVi (((H18.2.2.2.1 rfl)).1 c26)) (fun c26 => e_M.mono ((((H18.2.2.2.1 rfl)).2 c26)) (e_gV (fun I25 L25 D25 H25 => e_rVi H25)))) (fun I18 L18 D18 H18 => And.intro (fun c28 => e_rVi (((H18.2.2.2.2.1 rfl)).1 c28)) (fun c28 => e_M.mono ((((H18.2.2.2.2.1 rfl)).2 c28)) (e_gV (fun I27 L27 D27 H27 => e_rVi H27)))) (fun I18 L18 D18 H18 => And.intro (fun c30 => e_rVi (((H18.2.2.2.2.2.1 rfl)).1 c30)) (fun c30 => e_M.mono ((((H18.2.2.2.2.2.1 rfl)).2 c30)) (e_gV (fun I29 L29 D29 H29 => e_rVi H29)))) (fun I18 L18 D18 H18 => And.intro (fun c32 => e_rVi (((H18.2.2.2.2.2.2.1 rfl)).1 c32)) (fun c32 => e_M.mono ((((H18.2.2.2.2.2.2.1 rfl)).2 c32)) (e_gV (fun I31 L31 D31 H31 => e_rVi H31)))) (fun I18 L18 D18 H18 => And.intro (fun c34 => e_rVi (((H18.2.2.2.2.2.2.2 rfl)).1 c34)) (fun c34 => e_M.mono ((((H18.2.2.2.2.2.2.2 rfl)).2 c34)) (e_gV (fun I33 L33 D33 H33 => e_rVi H33))))))) (e_h0 rfl)
set_option maxRecDepth 20000 in
theorem vLd_copyFrom_111_3 {I : e_TI} {L : e_TL} {D : e_TD} {sc : e_TS} {Ψ : e_TI → e_TL → e_TD → Prop}
    (H : e_M 19 [.ref 4, .ref 112] (S0 I L D sc) (e_rV sc (fun I1 L1 D1 => e_M 19 [.ref 5, .ref 113] (S0 I1 L1 D1 sc) (e_rV sc (fun I2 L2 D2 => Ψ I2 (e_up L2 111 2 (L2 3 2)) D2))))) : e_M 20 [.ref 111, .ref 3] (S0 I L D sc) (e_rV sc Ψ) :=
  e_M_go e_q20 e_k20 [] 17 (by decide +kernel) rfl rfl (e_M.mono (H) (e_gV (fun I1 L1 D1 H1 => e_M.mono (H1) (e_gV (fun I2 L2 D2 H2 => e_rVi H2))))) (e_h0 rfl)
set_option maxRecDepth 20000 in
theorem vLd_copyFrom_123_3 {I : e_TI} {L : e_TL} {D : e_TD} {sc : e_TS} {Ψ : e_TI → e_TL → e_TD → Prop}
    (H : e_M 19 [.ref 4, .ref 124] (S0 I L D sc) (e_rV sc (fun I1 L1 D1 => e_M 19 [.ref 5, .ref 125] (S0 I1 L1 D1 sc) (e_rV sc (fun I2 L2 D2 => Ψ I2 (e_up L2 123 2 (L2 3 2)) D2))))) : e_M 20 [.ref 123, .ref 3] (S0 I L D sc) (e_rV sc Ψ) :=
  e_M_go e_q20 e_k20 [] 17 (by decide +kernel) rfl rfl (e_M.mono (H) (e_gV (fun I1 L1 D1 H1 => e_M.mono (H1) (e_gV (fun I2 L2 D2 H2 => e_rVi H2))))) (e_h0 rfl)
set_option maxRecDepth 20000 in
theorem vLd_copyFrom_25_3 {I : e_TI} {L : e_TL} {D : e_TD} {sc : e_TS} {Ψ : e_TI → e_TL → e_TD → Prop}
    (H : e_M 19 [.ref 4, .ref 26] (S0 I L D sc) (e_rV sc (fun I1 L1 D1 => e_M 19 [.ref 5, .ref 27] (S0 I1 L1 D1 sc) (e_rV sc (fun I2 L2 D2 => Ψ I2 (e_up L2 25 2 (L2 3 2)) D2))))) : e_M 20 [.ref 25, .ref 3] (S0 I L D sc) (e_rV sc Ψ) :=
  e_M_go e_q20 e_k20 [] 17 (by decide +kernel) rfl rfl (e_M.mono (H) (e_gV (fun I1 L1 D1 H1 => e_M.mono (H1) (e_gV (fun I2 L2 D2 H2 => e_rVi H2))))) (e_h0 rfl)
set_option maxRecDepth 20000 in
theorem vLd_copyFrom_39_3 {I : e_TI} {L : e_TL} {D : e_TD} {sc : e_TS} {Ψ : e_TI → e_TL → e_TD → Prop}
    (H : e_M 19 [.ref 4, .ref 40] (S0 I L D sc) (e_rV sc (fun I1 L1 D1 => e_M 19 [.ref 5, .ref 41] (S0 I1 L1 D1 sc) (e_rV sc (fun I2 L2 D2 => Ψ I2 (e_up L2 39 2 (L2 3 2)) D2))))) : e_M 20 [.ref 39, .ref 3] (S0 I L D sc) (e_rV sc Ψ) :=
  e_M_go e_q20 e_k20 [] 17 (by decide +kernel) rfl rfl (e_M.mono (H) (e_gV (fun I1 L1 D1 H1 => e_M.mono (H1) (e_gV (fun I2 L2 D2 H2 => e_rVi H2))))) (e_h0 rfl)
set_option maxRecDepth 20000 in
theorem vLd_copyFrom_3_111 {I : e_TI} {L : e_TL} {D : e_TD} {sc : e_TS} {Ψ : e_TI → e_TL → e_TD → Prop}
    (H : e_M 19 [.ref 112, .ref 4] (S0 I L D sc) (e_rV sc (fun I1 L1 D1 => e_M 19 [.ref 113, .ref 5] (S0 I1 L1 D1 sc) (e_rV sc (fun I2 L2 D2 => Ψ I2 (e_up L2 3 2 (L2 111 2)) D2))))) : e_M 20 [.ref 3, .ref 111] (S0 I L D sc) (e_rV sc Ψ) :=
  e_M_go e_q20 e_k20 [] 17 (by decide +kernel) rfl rfl (e_M.mono (H) (e_gV (fun I1 L1 D1 H1 => e_M.mono (H1) (e_gV (fun I2 L2 D2 H2 => e_rVi H2))))) (e_h0 rfl)
set_option maxRecDepth 20000 in
theorem vLd_copyFrom_3_123 {I : e_TI} {L : e_TL} {D : e_TD} {sc : e_TS} {Ψ : e_TI → e_TL → e_TD → Prop}
    (H : e_M 19 [.ref 124, .ref 4] (S0 I L D sc) (e_rV sc (fun I1 L1 D1 => e_M 19 [.ref 125, .ref 5] (S0 I1 L1 D1 sc) (e_rV sc (fun I2 L2 D2 => Ψ I2 (e_up L2 3 2 (L2 123 2)) D2))))) : e_M 20 [.ref 3, .ref 123] (S0 I L D sc) (e_rV sc Ψ) :=
  e_M_go e_q20 e_k20 [] 17 (by decide +kernel) rfl rfl (e_M.mono (H) (e_gV (fun I1 L1 D1 H1 => e_M.mono (H1) (e_gV (fun I2 L2 D2 H2 => e_rVi H2))))) (e_h0 rfl)
set_option maxRecDepth 20000 in
theorem vLd_copyFrom_3_25 {I : e_TI} {L : e_TL} {D : e_TD} {sc : e_TS} {Ψ : e_TI → e_TL → e_TD → Prop}
    (H : e_M 19 [.ref 26, .ref 4] (S0 I L D sc) (e_rV sc (fun I1 L1 D1 => e_M 19 [.ref 27, .ref 5] (S0 I1 L1 D1 sc) (e_rV sc (fun I2 L2 D2 => Ψ I2 (e_up L2 3 2 (L2 25 2)) D2))))) : e_M 20 [.ref 3, .ref 25] (S0 I L D sc) (e_rV sc Ψ) :=
  e_M_go e_q20 e_k20 [] 17 (by decide +kernel) rfl rfl (e_M.mono (H) (e_gV (fun I1 L1 D1 H1 => e_M.mono (H1) (e_gV (fun I2 L2 D2 H2 => e_rVi H2))))) (e_h0 rfl)
set_option maxRecDepth 20000 in
theorem vLd_copyFrom_3_39 {I : e_TI} {L : e_TL} {D : e_TD} {sc : e_TS} {Ψ : e_TI → e_TL → e_TD → Prop}
    (H : e_M 19 [.ref 40, .ref 4] (S0 I L D sc) (e_rV sc (fun I1 L1 D1 => e_M 19 [.ref 41, .ref 5] (S0 I1 L1 D1 sc) (e_rV sc (fun I2 L2 D2 => Ψ I2 (e_up L2 3 2 (L2 39 2)) D2))))) : e_M 20 [.ref 3, .ref 39] (S0 I L D sc) (e_rV sc Ψ) :=
  e_M_go e_q20 e_k20 [] 17 (by decide +kernel) rfl rfl (e_M.mono (H) (e_gV (fun I1 L1 D1 H1 => e_M.mono (H1) (e_gV (fun I2 L2 D2 H2 => e_rVi H2))))) (e_h0 rfl)
set_option maxRecDepth 20000 in
theorem vLd_copyFrom_3_51 {I : e_TI} {L : e_TL} {D : e_TD} {sc : e_TS} {Ψ : e_TI → e_TL → e_TD → Prop}
    (H : e_M 19 [.ref 52, .ref 4] (S0 I L D sc) (e_rV sc (fun I1 L1 D1 => e_M 19 [.ref 53, .ref 5] (S0 I1 L1 D1 sc) (e_rV sc (fun I2 L2 D2 => Ψ I2 (e_up L2 3 2 (L2 51 2)) D2))))) : e_M 20 [.ref 3, .ref 51] (S0 I L D sc) (e_rV sc Ψ) :=
  e_M_go e_q20 e_k20 [] 17 (by decide +kernel) rfl rfl (e_M.mono (H) (e_gV (fun I1 L1 D1 H1 => e_M.mono (H1) (e_gV (fun I2 L2 D2 H2 => e_rVi H2))))) (e_h0 rfl)
set_option maxRecDepth 20000 in
theorem vLd_copyFrom_3_63 {I : e_TI} {L : e_TL} {D : e_TD} {sc : e_TS} {Ψ : e_TI → e_TL → e_TD → Prop}
    (H : e_M 19 [.ref 64, .ref 4] (S0 I L D sc) (e_rV sc (fun I1 L1 D1 => e_M 19 [.ref 65, .ref 5] (S0 I1 L1 D1 sc) (e_rV sc (fun I2 L2 D2 => Ψ I2 (e_up L2 3 2 (L2 63 2)) D2))))) : e_M 20 [.ref 3, .ref 63] (S0 I L D sc) (e_rV sc Ψ) :=
  e_M_go e_q20 e_k20 [] 17 (by decide +kernel) rfl rfl (e_M.mono (H) (e_gV (fun I1 L1 D1 H1 => e_M.mono (H1) (e_gV (fun I2 L2 D2 H2 => e_rVi H2))))) (e_h0 rfl)
set_option maxRecDepth 20000 in
theorem vLd_copyFrom_3_75 {I : e_TI} {L : e_TL} {D : e_TD} {sc : e_TS} {Ψ : e_TI → e_TL → e_TD → Prop}
    (H : e_M 19 [.ref 76, .ref 4] (S0 I L D sc) (e_rV sc (fun I1 L1 D1 => e_M 19 [.ref 77, .ref 5] (S0 I1 L1 D1 sc) (e_rV sc (fun I2 L2 D2 => Ψ I2 (e_up L2 3 2 (L2 75 2)) D2))))) : e_M 20 [.ref 3, .ref 75] (S0 I L D sc) (e_rV sc Ψ) :=
  e_M_go e_q20 e_k20 [] 17 (by decide +kernel) rfl rfl (e_M.mono (H) (e_gV (fun I1 L1 D1 H1 => e_M.mono (H1) (e_gV (fun I2 L2 D2 H2 => e_rVi H2))))) (e_h0 rfl)
set_option maxRecDepth 20000 in
theorem vLd_copyFrom_3_87 {I : e_TI} {L : e_TL} {D : e_TD} {sc : e_TS} {Ψ : e_TI → e_TL → e_TD → Prop}
    (H : e_M 19 [.ref 88, .ref 4] (S0 I L D sc) (e_rV sc (fun I1 L1 D1 => e_M 19 [.ref 89, .ref 5] (S0 I1 L1 D1 sc) (e_rV sc (fun I2 L2 D2 => Ψ I2 (e_up L2 3 2 (L2 87 2)) D2))))) : e_M 20 [.ref 3, .ref 87] (S0 I L D sc) (e_rV sc Ψ) :=
  e_M_go e_q20 e_k20 [] 17 (by decide +kernel) rfl rfl (e_M.mono (H) (e_gV (fun I1 L1 D1 H1 => e_M.mono (H1) (e_gV (fun I2 L2 D2 H2 => e_rVi H2))))) (e_h0 rfl)
set_option maxRecDepth 20000 in
theorem vLd_copyFrom_3_99 {I : e_TI} {L : e_TL} {D : e_TD} {sc : e_TS} {Ψ : e_TI → e_TL → e_TD → Prop}
    (H : e_M 19 [.ref 100, .ref 4] (S0 I L D sc) (e_rV sc (fun I1 L1 D1 => e_M 19 [.ref 101, .ref 5] (S0 I1 L1 D1 sc) (e_rV sc (fun I2 L2 D2 => Ψ I2 (e_up L2 3 2 (L2 99 2)) D2))))) : e_M 20 [.ref 3, .ref 99] (S0 I L D sc) (e_rV sc Ψ) :=
  e_M_go e_q20 e_k20 [] 17 (by decide +kernel) rfl rfl (e_M.mono (H) (e_gV (fun I1 L1 D1 H1 => e_M.mono (H1) (e_gV (fun I2 L2 D2 H2 => e_rVi H2))))) (e_h0 rfl)
set_option maxRecDepth 20000 in
theorem vLd_copyFrom_51_3 {I : e_TI} {L : e_TL} {D : e_TD} {sc : e_TS} {Ψ : e_TI → e_TL → e_TD → Prop}
    (H : e_M 19 [.ref 4, .ref 52] (S0 I L D sc) (e_rV sc (fun I1 L1 D1 => e_M 19 [.ref 5, .ref 53] (S0 I1 L1 D1 sc) (e_rV sc (fun I2 L2 D2 => Ψ I2 (e_up L2 51 2 (L2 3 2)) D2))))) : e_M 20 [.ref 51, .ref 3] (S0 I L D sc) (e_rV sc Ψ) :=
  e_M_go e_q20 e_k20 [] 17 (by decide +kernel) rfl rfl (e_M.mono (H) (e_gV (fun I1 L1 D1 H1 => e_M.mono (H1) (e_gV (fun I2 L2 D2 H2 => e_rVi H2))))) (e_h0 rfl)
set_option maxRecDepth 20000 in
theorem vLd_copyFrom_63_3 {I : e_TI} {L : e_TL} {D : e_TD} {sc : e_TS} {Ψ : e_TI → e_TL → e_TD → Prop}
    (H : e_M 19 [.ref 4, .ref 64] (S0 I L D sc) (e_rV sc (fun I1 L1 D1 => e_M 19 [.ref 5, .ref 65] (S0 I1 L1 D1 sc) (e_rV sc (fun I2 L2 D2 => Ψ I2 (e_up L2 63 2 (L2 3 2)) D2))))) : e_M 20 [.ref 63, .ref 3] (S0 I L D sc) (e_rV sc Ψ) :=
  e_M_go e_q20 e_k20 [] 17 (by decide +kernel) rfl rfl (e_M.mono (H) (e_gV (fun I1 L1 D1 H1 => e_M.mono (H1) (e_gV (fun I2 L2 D2 H2 => e_rVi H2))))) (e_h0 rfl)
set_option maxRecDepth 20000 in
theorem vLd_copyFrom_75_3 {I : e_TI} {L : e_TL} {D : e_TD} {sc : e_TS} {Ψ : e_TI → e_TL → e_TD → Prop}
    (H : e_M 19 [.ref 4, .ref 76] (S0 I L D sc) (e_rV sc (fun I1 L1 D1 => e_M 19 [.ref 5, .ref 77] (S0 I1 L1 D1 sc) (e_rV sc (fun I2 L2 D2 => Ψ I2 (e_up L2 75 2 (L2 3 2)) D2))))) : e_M 20 [.ref 75, .ref 3] (S0 I L D sc) (e_rV sc Ψ) :=
  e_M_go e_q20 e_k20 [] 17 (by decide +kernel) rfl rfl (e_M.mono (H) (e_gV (fun I1 L1 D1 H1 => e_M.mono (H1) (e_gV (fun I2 L2 D2 H2 => e_rVi H2))))) (e_h0 rfl)
set_option maxRecDepth 20000 in
theorem vLd_copyFrom_87_3 {I : e_TI} {L : e_TL} {D : e_TD} {sc : e_TS} {Ψ : e_TI → e_TL → e_TD → Prop}
    (H : e_M 19 [.ref 4, .ref 88] (S0 I L D sc) (e_rV sc (fun I1 L1 D1 => e_M 19 [.ref 5, .ref 89] (S0 I1 L1 D1 sc) (e_rV sc (fun I2 L2 D2 => Ψ I2 (e_up L2 87 2 (L2 3 2)) D2))))) : e_M 20 [.ref 87, .ref 3] (S0 I L D sc) (e_rV sc Ψ) :=
  e_M_go e_q20 e_k20 [] 17 (by decide +kernel) rfl rfl (e_M.mono (H) (e_gV (fun I1 L1 D1 H1 => e_M.mono (H1) (e_gV (fun I2 L2 D2 H2 => e_rVi H2))))) (e_h0 rfl)
set_option maxRecDepth 20000 in
theorem vLd_copyFrom_99_3 {I : e_TI} {L : e_TL} {D : e_TD} {sc : e_TS} {Ψ : e_TI → e_TL → e_TD → Prop}
    (H : e_M 19 [.ref 4, .ref 100] (S0 I L D sc) (e_rV sc (fun I1 L1 D1 => e_M 19 [.ref 5, .ref 101] (S0 I1 L1 D1 sc) (e_rV sc (fun I2 L2 D2 => Ψ I2 (e_up L2 99 2 (L2 3 2)) D2))))) : e_M 20 [.ref 99, .ref 3] (S0 I L D sc) (e_rV sc Ψ) :=
  e_M_go e_q20 e_k20 [] 17 (by decide +kernel) rfl rfl (e_M.mono (H) (e_gV (fun I1 L1 D1 H1 => e_M.mono (H1) (e_gV (fun I2 L2 D2 H2 => e_rVi H2))))) (e_h0 rfl)
set_option maxRecDepth 20000 in
theorem vR_copySets_100_4 {I : e_TI} {L : e_TL} {D : e_TD} {sc : e_TS} {Ψ : e_TI → e_TL → e_TD → Prop}
    (H : e_Wp 19 2 [some (.ref 100), some (.ref 4), some (.int 0)] [] (S0 I L D sc) 0 0 (e_rV sc Ψ)) : e_M 19 [.ref 100, .ref 4] (S0 I L D sc) (e_rV sc Ψ) :=
  e_M_go e_q19 e_k19 [2] 21 (by decide +kernel) rfl rfl (H) (e_h0 rfl)
set_option maxRecDepth 20000 in
theorem vR_copySets_100_4_p2 {x2 : Int32} {I : e_TI} {L : e_TL} {D : e_TD} {sc : e_TS} {Ψ : e_TI → e_TL → e_TD → Prop}
    (H : ((6 ≤ x2 → Ψ I L D) ∧ (¬ (6 ≤ x2) → ((6 ≤ x2 → Ψ I L D) ∧ (¬ (6 ≤ x2) → (vp_in x2 6 ∧ (vp_in x2 6 ∧ e_Wp 19 2 [some (.ref 100), some (.ref 4), some (.int (x2 + 1))] [] (S0 I (e_up L 4 x2.toNatClampNeg (L 100 x2.toNatClampNeg)) D sc) 0 0 (e_rV sc Ψ)))))))) : e_Wp 19 2 [some (.ref 100), some (.ref 4), some (.int x2)] [] (S0 I L D sc) 0 0 (e_rV sc Ψ) :=
  e_W_go e_q19 e_k19 [2] 21 2 (And.intro (fun c2 => e_rVi ((H).1 c2)) (fun c2 => And.intro (fun c1 => e_rVi ((((H).2 c2)).1 c1)) (fun c1 => And.intro (((((H).2 c2)).2 c1)).1 (And.intro ((((((H).2 c2)).2 c1)).2).1 (((((((H).2 c2)).2 c1)).2).2)))))
set_option maxRecDepth 20000 in
theorem vR_copySets_101_5 {I : e_TI} {L : e_TL} {D : e_TD} {sc : e_TS} {Ψ : e_TI → e_TL → e_TD → Prop}
    (H : e_Wp 19 2 [some (.ref 101), some (.ref 5), some (.int 0)] [] (S0 I L D sc) 0 0 (e_rV sc Ψ)) : e_M 19 [.ref 101, .ref 5] (S0 I L D sc) (e_rV sc Ψ) :=
  e_M_go e_q19 e_k19 [2] 21 (by decide +kernel) rfl rfl (H) (e_h0 rfl)
set_option maxRecDepth 20000 in
theorem vR_copySets_101_5_p2 {x2 : Int32} {I : e_TI} {L : e_TL} {D : e_TD} {sc : e_TS} {Ψ : e_TI → e_TL → e_TD → Prop}
    (H : ((2 ≤ x2 → Ψ I L D) ∧ (¬ (2 ≤ x2) → ((2 ≤ x2 → Ψ I L D) ∧ (¬ (2 ≤ x2) → (vp_in x2 2 ∧ (vp_in x2 2 ∧ e_Wp 19 2 [some (.ref 101), some (.ref 5), some (.int (x2 + 1))] [] (S0 I (e_up L 5 x2.toNatClampNeg (L 101 x2.toNatClampNeg)) D sc) 0 0 (e_rV sc Ψ)))))))) : e_Wp 19 2 [some (.ref 101), some (.ref 5), some (.int x2)] [] (S0 I L D sc) 0 0 (e_rV sc Ψ) :=
  e_W_go e_q19 e_k19 [2] 21 2 (And.intro (fun c2 => e_rVi ((H).1 c2)) (fun c2 => And.intro (fun c1 => e_rVi ((((H).2 c2)).1 c1)) (fun c1 => And.intro (((((H).2 c2)).2 c1)).1 (And.intro ((((((H).2 c2)).2 c1)).2).1 (((((((H).2 c2)).2 c1)).2).2)))))
set_option maxRecDepth 20000 in
theorem vR_copySets_112_4 {I : e_TI} {L : e_TL} {D : e_TD} {sc : e_TS} {Ψ : e_TI → e_TL → e_TD → Prop}
    (H : e_Wp 19 2 [some (.ref 112), some (.ref 4), some (.int 0)] [] (S0 I L D sc) 0 0 (e_rV sc Ψ)) : e_M 19 [.ref 112, .ref 4] (S0 I L D sc) (e_rV sc Ψ) :=
  e_M_go e_q19 e_k19 [2] 21 (by decide +kernel) rfl rfl (H) (e_h0 rfl)
set_option maxRecDepth 20000 in
theorem vR_copySets_112_4_p2 {x2 : Int32} {I : e_TI} {L : e_TL} {D : e_TD} {sc : e_TS} {Ψ : e_TI → e_TL → e_TD → Prop}
    (H : ((6 ≤ x2 → Ψ I L D) ∧ (¬ (6 ≤ x2) → ((6 ≤ x2 → Ψ I L D) ∧ (¬ (6 ≤ x2) → (vp_in x2 6 ∧ (vp_in x2 6 ∧ e_Wp 19 2 [some (.ref 112), some (.ref 4), some (.int (x2 + 1))] [] (S0 I (e_up L 4 x2.toNatClampNeg (L 112 x2.toNatClampNeg)) D sc) 0 0 (e_rV sc Ψ)))))))) : e_Wp 19 2 [some (.ref 112), some (.ref 4), some (.int x2)] [] (S0 I L D sc) 0 0 (e_rV sc Ψ) :=
  e_W_go e_q19 e_k19 [2] 21 2 (And.intro (fun c2 => e_rVi ((H).1 c2)) (fun c2 => And.intro (fun c1 => e_rVi ((((H).2 c2)).1 c1)) (fun c1 => And.intro (((((H).2 c2)).2 c1)).1 (And.intro ((((((H).2 c2)).2 c1)).2).1 (((((((H).2 c2)).2 c1)).2).2)))))
set_option maxRecDepth 20000 in
theorem vR_copySets_113_5 {I : e_TI} {L : e_TL} {D : e_TD} {sc : e_TS} {Ψ : e_TI → e_TL → e_TD → Prop}
    (H : e_Wp 19 2 [some (.ref 113), some (.ref 5), some (.int 0)] [] (S0 I L D sc) 0 0 (e_rV sc Ψ)) : e_M 19 [.ref 113, .ref 5] (S0 I L D sc) (e_rV sc Ψ) :=
  e_M_go e_q19 e_k19 [2] 21 (by decide +kernel) rfl rfl (H) (e_h0 rfl)
set_option maxRecDepth 20000 in
theorem vR_copySets_113_5_p2 {x2 : Int32} {I : e_TI} {L : e_TL} {D : e_TD} {sc : e_TS} {Ψ : e_TI → e_TL → e_TD → Prop}
    (H : ((2 ≤ x2 → Ψ I L D) ∧ (¬ (2 ≤ x2) → ((2 ≤ x2 → Ψ I L D) ∧ (¬ (2 ≤ x2) → (vp_in x2 2 ∧ (vp_in x2 2 ∧ e_Wp 19 2 [some (.ref 113), some (.ref 5), some (.int (x2 + 1))] [] (S0 I (e_up L 5 x2.toNatClampNeg (L 113 x2.toNatClampNeg)) D sc) 0 0 (e_rV sc Ψ)))))))) : e_Wp 19 2 [some (.ref 113), some (.ref 5), some (.int x2)] [] (S0 I L D sc) 0 0 (e_rV sc Ψ) :=
  e_W_go e_q19 e_k19 [2] 21 2 (And.intro (fun c2 => e_rVi ((H).1 c2)) (fun c2 => And.intro (fun c1 => e_rVi ((((H).2 c2)).1 c1)) (fun c1 => And.intro (((((H).2 c2)).2 c1)).1 (And.intro ((((((H).2 c2)).2 c1)).2).1 (((((((H).2 c2)).2 c1)).2).2)))))
set_option maxRecDepth 20000 in
theorem vR_copySets_124_4 {I : e_TI} {L : e_TL} {D : e_TD} {sc : e_TS} {Ψ : e_TI → e_TL → e_TD → Prop}
    (H : e_Wp 19 2 [some (.ref 124), some (.ref 4), some (.int 0)] [] (S0 I L D sc) 0 0 (e_rV sc Ψ)) : e_M 19 [.ref 124, .ref 4] (S0 I L D sc) (e_rV sc Ψ) :=
  e_M_go e_q19 e_k19 [2] 21 (by decide +kernel) rfl rfl (H) (e_h0 rfl)
set_option maxRecDepth 20000 in
theorem vR_copySets_124_4_p2 {x2 : Int32} {I : e_TI} {L : e_TL} {D : e_TD} {sc : e_TS} {Ψ : e_TI → e_TL → e_TD → Prop}
    (H : ((6 ≤ x2 → Ψ I L D) ∧ (¬ (6 ≤ x2) → ((6 ≤ x2 → Ψ I L D) ∧ (¬ (6 ≤ x2) → (vp_in x2 6 ∧ (vp_in x2 6 ∧ e_Wp 19 2 [some (.ref 124), some (.ref 4), some (.int (x2 + 1))] [] (S0 I (e_up L 4 x2.toNatClampNeg (L 124 x2.toNatClampNeg)) D sc) 0 0 (e_rV sc Ψ)))))))) : e_Wp 19 2 [some (.ref 124), some (.ref 4), some (.int x2)] [] (S0 I L D sc) 0 0 (e_rV sc Ψ) :=
  e_W_go e_q19 e_k19 [2] 21 2 (And.intro (fun c2 => e_rVi ((H).1 c2)) (fun c2 => And.intro (fun c1 => e_rVi ((((H).2 c2)).1 c1)) (fun c1 => And.intro (((((H).2 c2)).2 c1)).1 (And.intro ((((((H).2 c2)).2 c1)).2).1 (((((((H).2 c2)).2 c1)).2).2)))))
set_option maxRecDepth 20000 in
theorem vR_copySets_125_5 {I : e_TI} {L : e_TL} {D : e_TD} {sc : e_TS} {Ψ : e_TI → e_TL → e_TD → Prop}
    (H : e_Wp 19 2 [some (.ref 125), some (.ref 5), some (.int 0)] [] (S0 I L D sc) 0 0 (e_rV sc Ψ)) : e_M 19 [.ref 125, .ref 5] (S0 I L D sc) (e_rV sc Ψ) :=
  e_M_go e_q19 e_k19 [2] 21 (by decide +kernel) rfl rfl (H) (e_h0 rfl)
set_option maxRecDepth 20000 in
theorem vR_copySets_125_5_p2 {x2 : Int32} {I : e_TI} {L : e_TL} {D : e_TD} {sc : e_TS} {Ψ : e_TI → e_TL → e_TD → Prop}
    (H : ((2 ≤ x2 → Ψ I L D) ∧ (¬ (2 ≤ x2) → ((2 ≤ x2 → Ψ I L D) ∧ (¬ (2 ≤ x2) → (vp_in x2 2 ∧ (vp_in x2 2 ∧ e_Wp 19 2 [some (.ref 125), some (.ref 5), some (.int (x2 + 1))] [] (S0 I (e_up L 5 x2.toNatClampNeg (L 125 x2.toNatClampNeg)) D sc) 0 0 (e_rV sc Ψ)))))))) : e_Wp 19 2 [some (.ref 125), some (.ref 5), some (.int x2)] [] (S0 I L D sc) 0 0 (e_rV sc Ψ) :=
  e_W_go e_q19 e_k19 [2] 21 2 (And.intro (fun c2 => e_rVi ((H).1 c2)) (fun c2 => And.intro (fun c1 => e_rVi ((((H).2 c2)).1 c1)) (fun c1 => And.intro (((((H).2 c2)).2 c1)).1 (And.intro ((((((H).2 c2)).2 c1)).2).1 (((((((H).2 c2)).2 c1)).2).2)))))
set_option maxRecDepth 20000 in
theorem vR_copySets_26_4 {I : e_TI} {L : e_TL} {D : e_TD} {sc : e_TS} {Ψ : e_TI → e_TL → e_TD → Prop}
    (H : e_Wp 19 2 [some (.ref 26), some (.ref 4), some (.int 0)] [] (S0 I L D sc) 0 0 (e_rV sc Ψ)) : e_M 19 [.ref 26, .ref 4] (S0 I L D sc) (e_rV sc Ψ) :=
  e_M_go e_q19 e_k19 [2] 21 (by decide +kernel) rfl rfl (H) (e_h0 rfl)
set_option maxRecDepth 20000 in
theorem vR_copySets_26_4_p2 {x2 : Int32} {I : e_TI} {L : e_TL} {D : e_TD} {sc : e_TS} {Ψ : e_TI → e_TL → e_TD → Prop}
    (H : ((6 ≤ x2 → Ψ I L D) ∧ (¬ (6 ≤ x2) → ((6 ≤ x2 → Ψ I L D) ∧ (¬ (6 ≤ x2) → (vp_in x2 6 ∧ (vp_in x2 6 ∧ e_Wp 19 2 [some (.ref 26), some (.ref 4), some (.int (x2 + 1))] [] (S0 I (e_up L 4 x2.toNatClampNeg (L 26 x2.toNatClampNeg)) D sc) 0 0 (e_rV sc Ψ)))))))) : e_Wp 19 2 [some (.ref 26), some (.ref 4), some (.int x2)] [] (S0 I L D sc) 0 0 (e_rV sc Ψ) :=
  e_W_go e_q19 e_k19 [2] 21 2 (And.intro (fun c2 => e_rVi ((H).1 c2)) (fun c2 => And.intro (fun c1 => e_rVi ((((H).2 c2)).1 c1)) (fun c1 => And.intro (((((H).2 c2)).2 c1)).1 (And.intro ((((((H).2 c2)).2 c1)).2).1 (((((((H).2 c2)).2 c1)).2).2)))))
set_option maxRecDepth 20000 in
theorem vR_copySets_27_5 {I : e_TI} {L : e_TL} {D : e_TD} {sc : e_TS} {Ψ : e_TI → e_TL → e_TD → Prop}
    (H : e_Wp 19 2 [some (.ref 27), some (.ref 5), some (.int 0)] [] (S0 I L D sc) 0 0 (e_rV sc Ψ)) : e_M 19 [.ref 27, .ref 5] (S0 I L D sc) (e_rV sc Ψ) :=
  e_M_go e_q19 e_k19 [2] 21 (by decide +kernel) rfl rfl (H) (e_h0 rfl)
set_option maxRecDepth 20000 in
theorem vR_copySets_27_5_p2 {x2 : Int32} {I : e_TI} {L : e_TL} {D : e_TD} {sc : e_TS} {Ψ : e_TI → e_TL → e_TD → Prop}
    (H : ((2 ≤ x2 → Ψ I L D) ∧ (¬ (2 ≤ x2) → ((2 ≤ x2 → Ψ I L D) ∧ (¬ (2 ≤ x2) → (vp_in x2 2 ∧ (vp_in x2 2 ∧ e_Wp 19 2 [some (.ref 27), some (.ref 5), some (.int (x2 + 1))] [] (S0 I (e_up L 5 x2.toNatClampNeg (L 27 x2.toNatClampNeg)) D sc) 0 0 (e_rV sc Ψ)))))))) : e_Wp 19 2 [some (.ref 27), some (.ref 5), some (.int x2)] [] (S0 I L D sc) 0 0 (e_rV sc Ψ) :=
  e_W_go e_q19 e_k19 [2] 21 2 (And.intro (fun c2 => e_rVi ((H).1 c2)) (fun c2 => And.intro (fun c1 => e_rVi ((((H).2 c2)).1 c1)) (fun c1 => And.intro (((((H).2 c2)).2 c1)).1 (And.intro ((((((H).2 c2)).2 c1)).2).1 (((((((H).2 c2)).2 c1)).2).2)))))
set_option maxRecDepth 20000 in
theorem vR_copySets_40_4 {I : e_TI} {L : e_TL} {D : e_TD} {sc : e_TS} {Ψ : e_TI → e_TL → e_TD → Prop}
    (H : e_Wp 19 2 [some (.ref 40), some (.ref 4), some (.int 0)] [] (S0 I L D sc) 0 0 (e_rV sc Ψ)) : e_M 19 [.ref 40, .ref 4] (S0 I L D sc) (e_rV sc Ψ) :=
  e_M_go e_q19 e_k19 [2] 21 (by decide +kernel) rfl rfl (H) (e_h0 rfl)
set_option maxRecDepth 20000 in
theorem vR_copySets_40_4_p2 {x2 : Int32} {I : e_TI} {L : e_TL} {D : e_TD} {sc : e_TS} {Ψ : e_TI → e_TL → e_TD → Prop}
    (H : ((6 ≤ x2 → Ψ I L D) ∧ (¬ (6 ≤ x2) → ((6 ≤ x2 → Ψ I L D) ∧ (¬ (6 ≤ x2) → (vp_in x2 6 ∧ (vp_in x2 6 ∧ e_Wp 19 2 [some (.ref 40), some (.ref 4), some (.int (x2 + 1))] [] (S0 I (e_up L 4 x2.toNatClampNeg (L 40 x2.toNatClampNeg)) D sc) 0 0 (e_rV sc Ψ)))))))) : e_Wp 19 2 [some (.ref 40), some (.ref 4), some (.int x2)] [] (S0 I L D sc) 0 0 (e_rV sc Ψ) :=
  e_W_go e_q19 e_k19 [2] 21 2 (And.intro (fun c2 => e_rVi ((H).1 c2)) (fun c2 => And.intro (fun c1 => e_rVi ((((H).2 c2)).1 c1)) (fun c1 => And.intro (((((H).2 c2)).2 c1)).1 (And.intro ((((((H).2 c2)).2 c1)).2).1 (((((((H).2 c2)).2 c1)).2).2)))))
set_option maxRecDepth 20000 in
theorem vR_copySets_41_5 {I : e_TI} {L : e_TL} {D : e_TD} {sc : e_TS} {Ψ : e_TI → e_TL → e_TD → Prop}
    (H : e_Wp 19 2 [some (.ref 41), some (.ref 5), some (.int 0)] [] (S0 I L D sc) 0 0 (e_rV sc Ψ)) : e_M 19 [.ref 41, .ref 5] (S0 I L D sc) (e_rV sc Ψ) :=
  e_M_go e_q19 e_k19 [2] 21 (by decide +kernel) rfl rfl (H) (e_h0 rfl)
set_option maxRecDepth 20000 in
theorem vR_copySets_41_5_p2 {x2 : Int32} {I : e_TI} {L : e_TL} {D : e_TD} {sc : e_TS} {Ψ : e_TI → e_TL → e_TD → Prop}
    (H : ((2 ≤ x2 → Ψ I L D) ∧ (¬ (2 ≤ x2) → ((2 ≤ x2 → Ψ I L D) ∧ (¬ (2 ≤ x2) → (vp_in x2 2 ∧ (vp_in x2 2 ∧ e_Wp 19 2 [some (.ref 41), some (.ref 5), some (.int (x2 + 1))] [] (S0 I (e_up L 5 x2.toNatClampNeg (L 41 x2.toNatClampNeg)) D sc) 0 0 (e_rV sc Ψ)))))))) : e_Wp 19 2 [some (.ref 41), some (.ref 5), some (.int x2)] [] (S0 I L D sc) 0 0 (e_rV sc Ψ) :=
  e_W_go e_q19 e_k19 [2] 21 2 (And.intro (fun c2 => e_rVi ((H).1 c2)) (fun c2 => And.intro (fun c1 => e_rVi ((((H).2 c2)).1 c1)) (fun c1 => And.intro (((((H).2 c2)).2 c1)).1 (And.intro ((((((H).2 c2)).2 c1)).2).1 (((((((H).2 c2)).2 c1)).2).2)))))
set_option maxRecDepth 20000 in
theorem vR_copySets_4_100 {I : e_TI} {L : e_TL} {D : e_TD} {sc : e_TS} {Ψ : e_TI → e_TL → e_TD → Prop}
    (H : e_Wp 19 2 [some (.ref 4), some (.ref 100), some (.int 0)] [] (S0 I L D sc) 0 0 (e_rV sc Ψ)) : e_M 19 [.ref 4, .ref 100] (S0 I L D sc) (e_rV sc Ψ) :=
  e_M_go e_q19 e_k19 [2] 21 (by decide +kernel) rfl rfl (H) (e_h0 rfl)
set_option maxRecDepth 20000 in
theorem vR_copySets_4_100_p2 {x2 : Int32} {I : e_TI} {L : e_TL} {D : e_TD} {sc : e_TS} {Ψ : e_TI → e_TL → e_TD → Prop}
    (H : ((6 ≤ x2 → Ψ I L D) ∧ (¬ (6 ≤ x2) → ((6 ≤ x2 → Ψ I L D) ∧ (¬ (6 ≤ x2) → (vp_in x2 6 ∧ (vp_in x2 6 ∧ e_Wp 19 2 [some (.ref 4), some (.ref 100), some (.int (x2 + 1))] [] (S0 I (e_up L 100 x2.toNatClampNeg (L 4 x2.toNatClampNeg)) D sc) 0 0 (e_rV sc Ψ)))))))) : e_Wp 19 2 [some (.ref 4), some (.ref 100), some (.int x2)] [] (S0 I L D sc) 0 0 (e_rV sc Ψ) :=
  e_W_go e_q19 e_k19 [2] 21 2 (And.intro (fun c2 => e_rVi ((H).1 c2)) (fun c2 => And.intro (fun c1 => e_rVi ((((H).2 c2)).1 c1)) (fun c1 => And.intro (((((H).2 c2)).2 c1)).1 (And.intro ((((((H).2 c2)).2 c1)).2).1 (((((((H).2 c2)).2 c1)).2).2)))))
set_option maxRecDepth 20000 in
theorem vR_copySets_4_112 {I : e_TI} {L : e_TL} {D : e_TD} {sc : e_TS} {Ψ : e_TI → e_TL → e_TD → Prop}
    (H : e_Wp 19 2 [some (.ref 4), some (.ref 112), some (.int 0)] [] (S0 I L D sc) 0 0 (e_rV sc Ψ)) : e_M 19 [.ref 4, .ref 112] (S0 I L D sc) (e_rV sc Ψ) :=
  e_M_go e_q19 e_k19 [2] 21 (by decide +kernel) rfl rfl (H) (e_h0 rfl)
set_option maxRecDepth 20000 in
theorem vR_copySets_4_112_p2 {x2 : Int32} {I : e_TI} {L : e_TL} {D : e_TD} {sc : e_TS} {Ψ : e_TI → e_TL → e_TD → Prop}
    (H : ((6 ≤ x2 → Ψ I L D) ∧ (¬ (6 ≤ x2) → ((6 ≤ x2 → Ψ I L D) ∧ (¬ (6 ≤ x2) → (vp_in x2 6 ∧ (vp_in x2 6 ∧ e_Wp 19 2 [some (.ref 4), some (.ref 112), some (.int (x2 + 1))] [] (S0 I (e_up L 112 x2.toNatClampNeg (L 4 x2.toNatClampNeg)) D sc) 0 0 (e_rV sc Ψ)))))))) : e_Wp 19 2 [some (.ref 4), some (.ref 112), some (.int x2)] [] (S0 I L D sc) 0 0 (e_rV sc Ψ) :=
  e_W_go e_q19 e_k19 [2] 21 2 (And.intro (fun c2 => e_rVi ((H).1 c2)) (fun c2 => And.intro (fun c1 => e_rVi ((((H).2 c2)).1 c1)) (fun c1 => And.intro (((((H).2 c2)).2 c1)).1 (And.intro ((((((H).2 c2)).2 c1)).2).1 (((((((H).2 c2)).2 c1)).2).2)))))
set_option maxRecDepth 20000 in
theorem vR_copySets_4_124 {I : e_TI} {L : e_TL} {D : e_TD} {sc : e_TS} {Ψ : e_TI → e_TL → e_TD → Prop}
    (H : e_Wp 19 2 [some (.ref 4), some (.ref 124), some (.int 0)] [] (S0 I L D sc) 0 0 (e_rV sc Ψ)) : e_M 19 [.ref 4, .ref 124] (S0 I L D sc) (e_rV sc Ψ) :=
  e_M_go e_q19 e_k19 [2] 21 (by decide +kernel) rfl rfl (H) (e_h0 rfl)
set_option maxRecDepth 20000 in
theorem vR_copySets_4_124_p2 {x2 : Int32} {I : e_TI} {L : e_TL} {D : e_TD} {sc : e_TS} {Ψ : e_TI → e_TL → e_TD → Prop}
    (H : ((6 ≤ x2 → Ψ I L D) ∧ (¬ (6 ≤ x2) → ((6 ≤ x2 → Ψ I L D) ∧ (¬ (6 ≤ x2) → (vp_in x2 6 ∧ (vp_in x2 6 ∧ e_Wp 19 2 [some (.ref 4), some (.ref 124), some (.int (x2 + 1))] [] (S0 I (e_up L 124 x2.toNatClampNeg (L 4 x2.toNatClampNeg)) D sc) 0 0 (e_rV sc Ψ)))))))) : e_Wp 19 2 [some (.ref 4), some (.ref 124), some (.int x2)] [] (S0 I L D sc) 0 0 (e_rV sc Ψ) :=
  e_W_go e_q19 e_k19 [2] 21 2 (And.intro (fun c2 => e_rVi ((H).1 c2)) (fun c2 => And.intro (fun c1 => e_rVi ((((H).2 c2)).1 c1)) (fun c1 => And.intro (((((H).2 c2)).2 c1)).1 (And.intro ((((((H).2 c2)).2 c1)).2).1 (((((((H).2 c2)).2 c1)).2).2)))))
set_option maxRecDepth 20000 in
theorem vR_copySets_4_26 {I : e_TI} {L : e_TL} {D : e_TD} {sc : e_TS} {Ψ : e_TI → e_TL → e_TD → Prop}
    (H : e_Wp 19 2 [some (.ref 4), some (.ref 26), some (.int 0)] [] (S0 I L D sc) 0 0 (e_rV sc Ψ)) : e_M 19 [.ref 4, .ref 26] (S0 I L D sc) (e_rV sc Ψ) :=
  e_M_go e_q19 e_k19 [2] 21 (by decide +kernel) rfl rfl (H) (e_h0 rfl)
set_option maxRecDepth 20000 in
theorem vR_copySets_4_26_p2 {x2 : Int32} {I : e_TI} {L : e_TL} {D : e_TD} {sc : e_TS} {Ψ : e_TI → e_TL → e_TD → Prop}
    (H : ((6 ≤ x2 → Ψ I L D) ∧ (¬ (6 ≤ x2) → ((6 ≤ x2 → Ψ I L D) ∧ (¬ (6 ≤ x2) → (vp_in x2 6 ∧ (vp_in x2 6 ∧ e_Wp 19 2 [some (.ref 4), some (.ref 26), some (.int (x2 + 1))] [] (S0 I (e_up L 26 x2.toNatClampNeg (L 4 x2.toNatClampNeg)) D sc) 0 0 (e_rV sc Ψ)))))))) : e_Wp 19 2 [some (.ref 4), some (.ref 26), some (.int x2)] [] (S0 I L D sc) 0 0 (e_rV sc Ψ) :=
  e_W_go e_q19 e_k19 [2] 21 2 (And.intro (fun c2 => e_rVi ((H).1 c2)) (fun c2 => And.intro (fun c1 => e_rVi ((((H).2 c2)).1 c1)) (fun c1 => And.intro (((((H).2 c2)).2 c1)).1 (And.intro ((((((H).2 c2)).2 c1)).2).1 (((((((H).2 c2)).2 c1)).2).2)))))
set_option maxRecDepth 20000 in
theorem vR_copySets_4_40 {I : e_TI} {L : e_TL} {D : e_TD} {sc : e_TS} {Ψ : e_TI → e_TL → e_TD → Prop}
    (H : e_Wp 19 2 [some (.ref 4), some (.ref 40), some (.int 0)] [] (S0 I L D sc) 0 0 (e_rV sc Ψ)) : e_M 19 [.ref 4, .ref 40] (S0 I L D sc) (e_rV sc Ψ) :=
  e_M_go e_q19 e_k19 [2] 21 (by decide +kernel) rfl rfl (H) (e_h0 rfl)
set_option maxRecDepth 20000 in
theorem vR_copySets_4_40_p2 {x2 : Int32} {I : e_TI} {L : e_TL} {D : e_TD} {sc : e_TS} {Ψ : e_TI → e_TL → e_TD → Prop}
    (H : ((6 ≤ x2 → Ψ I L D) ∧ (¬ (6 ≤ x2) → ((6 ≤ x2 → Ψ I L D) ∧ (¬ (6 ≤ x2) → (vp_in x2 6 ∧ (vp_in x2 6 ∧ e_Wp 19 2 [some (.ref 4), some (.ref 40), some (.int (x2 + 1))] [] (S0 I (e_up L 40 x2.toNatClampNeg (L 4 x2.toNatClampNeg)) D sc) 0 0 (e_rV sc Ψ)))))))) : e_Wp 19 2 [some (.ref 4), some (.ref 40), some (.int x2)] [] (S0 I L D sc) 0 0 (e_rV sc Ψ) :=
  e_W_go e_q19 e_k19 [2] 21 2 (And.intro (fun c2 => e_rVi ((H).1 c2)) (fun c2 => And.intro (fun c1 => e_rVi ((((H).2 c2)).1 c1)) (fun c1 => And.intro (((((H).2 c2)).2 c1)).1 (And.intro ((((((H).2 c2)).2 c1)).2).1 (((((((H).2 c2)).2 c1)).2).2)))))
set_option maxRecDepth 20000 in
theorem vR_copySets_4_52 {I : e_TI} {L : e_TL} {D : e_TD} {sc : e_TS} {Ψ : e_TI → e_TL → e_TD → Prop}
    (H : e_Wp 19 2 [some (.ref 4), some (.ref 52), some (.int 0)] [] (S0 I L D sc) 0 0 (e_rV sc Ψ)) : e_M 19 [.ref 4, .ref 52] (S0 I L D sc) (e_rV sc Ψ) :=
  e_M_go e_q19 e_k19 [2] 21 (by decide +kernel) rfl rfl (H) (e_h0 rfl)
set_option maxRecDepth 20000 in
theorem vR_copySets_4_52_p2 {x2 : Int32} {I : e_TI} {L : e_TL} {D : e_TD} {sc : e_TS} {Ψ : e_TI → e_TL → e_TD → Prop}
    (H : ((6 ≤ x2 → Ψ I L D) ∧ (¬ (6 ≤ x2) → ((6 ≤ x2 → Ψ I L D) ∧ (¬ (6 ≤ x2) → (vp_in x2 6 ∧ (vp_in x2 6 ∧ e_Wp 19 2 [some (.ref 4), some (.ref 52), some (.int (x2 + 1))] [] (S0 I (e_up L 52 x2.toNatClampNeg (L 4 x2.toNatClampNeg)) D sc) 0 0 (e_rV sc Ψ)))))))) : e_Wp 19 2 [some (.ref 4), some (.ref 52), some (.int x2)] [] (S0 I L D sc) 0 0 (e_rV sc Ψ) :=
  e_W_go e_q19 e_k19 [2] 21 2 (And.intro (fun c2 => e_rVi ((H).1 c2)) (fun c2 => And.intro (fun c1 => e_rVi ((((H).2 c2)).1 c1)) (fun c1 => And.intro (((((H).2 c2)).2 c1)).1 (And.intro ((((((H).2 c2)).2 c1)).2).1 (((((((H).2 c2)).2 c1)).2).2)))))
set_option maxRecDepth 20000 in
theorem vR_copySets_4_64 {I : e_TI} {L : e_TL} {D : e_TD} {sc : e_TS} {Ψ : e_TI → e_TL → e_TD → Prop}
    (H : e_Wp 19 2 [some (.ref 4), some (.ref 64), some (.int 0)] [] (S0 I L D sc) 0 0 (e_rV sc Ψ)) : e_M 19 [.ref 4, .ref 64] (S0 I L D sc) (e_rV sc Ψ) :=
  e_M_go e_q19 e_k19 [2] 21 (by decide +kernel) rfl rfl (H) (e_h0 rfl)
set_option maxRecDepth 20000 in
theorem vR_copySets_4_64_p2 {x2 : Int32} {I : e_TI} {L : e_TL} {D : e_TD} {sc : e_TS} {Ψ : e_TI → e_TL → e_TD → Prop}
    (H : ((6 ≤ x2 → Ψ I L D) ∧ (¬ (6 ≤ x2) → ((6 ≤ x2 → Ψ I L D) ∧ (¬ (6 ≤ x2) → (vp_in x2 6 ∧ (vp_in x2 6 ∧ e_Wp 19 2 [some (.ref 4), some (.ref 64), some (.int (x2 + 1))] [] (S0 I (e_up L 64 x2.toNatClampNeg (L 4 x2.toNatClampNeg)) D sc) 0 0 (e_rV sc Ψ)))))))) : e_Wp 19 2 [some (.ref 4), some (.ref 64), some (.int x2)] [] (S0 I L D sc) 0 0 (e_rV sc Ψ) :=
  e_W_go e_q19 e_k19 [2] 21 2 (And.intro (fun c2 => e_rVi ((H).1 c2)) (fun c2 => And.intro (fun c1 => e_rVi ((((H).2 c2)).1 c1)) (fun c1 => And.intro (((((H).2 c2)).2 c1)).1 (And.intro ((((((H).2 c2)).2 c1)).2).1 (((((((H).2 c2)).2 c1)).2).2)))))
set_option maxRecDepth 20000 in
theorem vR_copySets_4_76 {I : e_TI} {L : e_TL} {D : e_TD} {sc : e_TS} {Ψ : e_TI → e_TL → e_TD → Prop}
    (H : e_Wp 19 2 [some (.ref 4), some (.ref 76), some (.int 0)] [] (S0 I L D sc) 0 0 (e_rV sc Ψ)) : e_M 19 [.ref 4, .ref 76] (S0 I L D sc) (e_rV sc Ψ) :=
  e_M_go e_q19 e_k19 [2] 21 (by decide +kernel) rfl rfl (H) (e_h0 rfl)
set_option maxRecDepth 20000 in
theorem vR_copySets_4_76_p2 {x2 : Int32} {I : e_TI} {L : e_TL} {D : e_TD} {sc : e_TS} {Ψ : e_TI → e_TL → e_TD → Prop}
    (H : ((6 ≤ x2 → Ψ I L D) ∧ (¬ (6 ≤ x2) → ((6 ≤ x2 → Ψ I L D) ∧ (¬ (6 ≤ x2) → (vp_in x2 6 ∧ (vp_in x2 6 ∧ e_Wp 19 2 [some (.ref 4), some (.ref 76), some (.int (x2 + 1))] [] (S0 I (e_up L 76 x2.toNatClampNeg (L 4 x2.toNatClampNeg)) D sc) 0 0 (e_rV sc Ψ)))))))) : e_Wp 19 2 [some (.ref 4), some (.ref 76), some (.int x2)] [] (S0 I L D sc) 0 0 (e_rV sc Ψ) :=
  e_W_go e_q19 e_k19 [2] 21 2 (And.intro (fun c2 => e_rVi ((H).1 c2)) (fun c2 => And.intro (fun c1 => e_rVi ((((H).2 c2)).1 c1)) (fun c1 => And.intro (((((H).2 c2)).2 c1)).1 (And.intro ((((((H).2 c2)).2 c1)).2).1 (((((((H).2 c2)).2 c1)).2).2)))))
set_option maxRecDepth 20000 in
theorem vR_copySets_4_88 {I : e_TI} {L : e_TL} {D : e_TD} {sc : e_TS} {Ψ : e_TI → e_TL → e_TD → Prop}
    (H : e_Wp 19 2 [some (.ref 4), some (.ref 88), some (.int 0)] [] (S0 I L D sc) 0 0 (e_rV sc Ψ)) : e_M 19 [.ref 4, .ref 88] (S0 I L D sc) (e_rV sc Ψ) :=
  e_M_go e_q19 e_k19 [2] 21 (by decide +kernel) rfl rfl (H) (e_h0 rfl)
set_option maxRecDepth 20000 in
theorem vR_copySets_4_88_p2 {x2 : Int32} {I : e_TI} {L : e_TL} {D : e_TD} {sc : e_TS} {Ψ : e_TI → e_TL → e_TD → Prop}
    (H : ((6 ≤ x2 → Ψ I L D) ∧ (¬ (6 ≤ x2) → ((6 ≤ x2 → Ψ I L D) ∧ (¬ (6 ≤ x2) → (vp_in x2 6 ∧ (vp_in x2 6 ∧ e_Wp 19 2 [some (.ref 4), some (.ref 88), some (.int (x2 + 1))] [] (S0 I (e_up L 88 x2.toNatClampNeg (L 4 x2.toNatClampNeg)) D sc) 0 0 (e_rV sc Ψ)))))))) : e_Wp 19 2 [some (.ref 4), some (.ref 88), some (.int x2)] [] (S0 I L D sc) 0 0 (e_rV sc Ψ) :=
  e_W_go e_q19 e_k19 [2] 21 2 (And.intro (fun c2 => e_rVi ((H).1 c2)) (fun c2 => And.intro (fun c1 => e_rVi ((((H).2 c2)).1 c1)) (fun c1 => And.intro (((((H).2 c2)).2 c1)).1 (And.intro ((((((H).2 c2)).2 c1)).2).1 (((((((H).2 c2)).2 c1)).2).2)))))
set_option maxRecDepth 20000 in
theorem vR_copySets_52_4 {I : e_TI} {L : e_TL} {D : e_TD} {sc : e_TS} {Ψ : e_TI → e_TL → e_TD → Prop}
    (H : e_Wp 19 2 [some (.ref 52), some (.ref 4), some (.int 0)] [] (S0 I L D sc) 0 0 (e_rV sc Ψ)) : e_M 19 [.ref 52, .ref 4] (S0 I L D sc) (e_rV sc Ψ) :=
  e_M_go e_q19 e_k19 [2] 21 (by decide +kernel) rfl rfl (H) (e_h0 rfl)
set_option maxRecDepth 20000 in
theorem vR_copySets_52_4_p2 {x2 : Int32} {I : e_TI} {L : e_TL} {D : e_TD} {sc : e_TS} {Ψ : e_TI → e_TL → e_TD → Prop}
    (H : ((6 ≤ x2 → Ψ I L D) ∧ (¬ (6 ≤ x2) → ((6 ≤ x2 → Ψ I L D) ∧ (¬ (6 ≤ x2) → (vp_in x2 6 ∧ (vp_in x2 6 ∧ e_Wp 19 2 [some (.ref 52), some (.ref 4), some (.int (x2 + 1))] [] (S0 I (e_up L 4 x2.toNatClampNeg (L 52 x2.toNatClampNeg)) D sc) 0 0 (e_rV sc Ψ)))))))) : e_Wp 19 2 [some (.ref 52), some (.ref 4), some (.int x2)] [] (S0 I L D sc) 0 0 (e_rV sc Ψ) :=
  e_W_go e_q19 e_k19 [2] 21 2 (And.intro (fun c2 => e_rVi ((H).1 c2)) (fun c2 => And.intro (fun c1 => e_rVi ((((H).2 c2)).1 c1)) (fun c1 => And.intro (((((H).2 c2)).2 c1)).1 (And.intro ((((((H).2 c2)).2 c1)).2).1 (((((((H).2 c2)).2 c1)).2).2)))))
set_option maxRecDepth 20000 in
theorem vR_copySets_53_5 {I : e_TI} {L : e_TL} {D : e_TD} {sc : e_TS} {Ψ : e_TI → e_TL → e_TD → Prop}
    (H : e_Wp 19 2 [some (.ref 53), some (.ref 5), some (.int 0)] [] (S0 I L D sc) 0 0 (e_rV sc Ψ)) : e_M 19 [.ref 53, .ref 5] (S0 I L D sc) (e_rV sc Ψ) :=
  e_M_go e_q19 e_k19 [2] 21 (by decide +kernel) rfl rfl (H) (e_h0 rfl)
set_option maxRecDepth 20000 in
theorem vR_copySets_53_5_p2 {x2 : Int32} {I : e_TI} {L : e_TL} {D : e_TD} {sc : e_TS} {Ψ : e_TI → e_TL → e_TD → Prop}
    (H : ((2 ≤ x2 → Ψ I L D) ∧ (¬ (2 ≤ x2) → ((2 ≤ x2 → Ψ I L D) ∧ (¬ (2 ≤ x2) → (vp_in x2 2 ∧ (vp_in x2 2 ∧ e_Wp 19 2 [some (.ref 53), some (.ref 5), some (.int (x2 + 1))] [] (S0 I (e_up L 5 x2.toNatClampNeg (L 53 x2.toNatClampNeg)) D sc) 0 0 (e_rV sc Ψ)))))))) : e_Wp 19 2 [some (.ref 53), some (.ref 5), some (.int x2)] [] (S0 I L D sc) 0 0 (e_rV sc Ψ) :=
  e_W_go e_q19 e_k19 [2] 21 2 (And.intro (fun c2 => e_rVi ((H).1 c2)) (fun c2 => And.intro (fun c1 => e_rVi ((((H).2 c2)).1 c1)) (fun c1 => And.intro (((((H).2 c2)).2 c1)).1 (And.intro ((((((H).2 c2)).2 c1)).2).1 (((((((H).2 c2)).2 c1)).2).2)))))
set_option maxRecDepth 20000 in
theorem vR_copySets_5_101 {I : e_TI} {L : e_TL} {D : e_TD} {sc : e_TS} {Ψ : e_TI → e_TL → e_TD → Prop}
    (H : e_Wp 19 2 [some (.ref 5), some (.ref 101), some (.int 0)] [] (S0 I L D sc) 0 0 (e_rV sc Ψ)) : e_M 19 [.ref 5, .ref 101] (S0 I L D sc) (e_rV sc Ψ) :=
  e_M_go e_q19 e_k19 [2] 21 (by decide +kernel) rfl rfl (H) (e_h0 rfl)
set_option maxRecDepth 20000 in
theorem vR_copySets_5_101_p2 {x2 : Int32} {I : e_TI} {L : e_TL} {D : e_TD} {sc : e_TS} {Ψ : e_TI → e_TL → e_TD → Prop}
    (H : ((2 ≤ x2 → Ψ I L D) ∧ (¬ (2 ≤ x2) → ((2 ≤ x2 → Ψ I L D) ∧ (¬ (2 ≤ x2) → (vp_in x2 2 ∧ (vp_in x2 2 ∧ e_Wp 19 2 [some (.ref 5), some (.ref 101), some (.int (x2 + 1))] [] (S0 I (e_up L 101 x2.toNatClampNeg (L 5 x2.toNatClampNeg)) D sc) 0 0 (e_rV sc Ψ)))))))) : e_Wp 19 2 [some (.ref 5), some (.ref 101), some (.int x2)] [] (S0 I L D sc) 0 0 (e_rV sc Ψ) :=
  e_W_go e_q19 e_k19 [2] 21 2 (And.intro (fun c2 => e_rVi ((H).1 c2)) (fun c2 => And.intro (fun c1 => e_rVi ((((H).2 c2)).1 c1)) (fun c1 => And.intro (((((H).2 c2)).2 c1)).1 (And.intro ((((((H).2 c2)).2 c1)).2).1 (((((((H).2 c2)).2 c1)).2).2)))))
set_option maxRecDepth 20000 in
theorem vR_copySets_5_113 {I : e_TI} {L : e_TL} {D : e_TD} {sc : e_TS} {Ψ : e_TI → e_TL → e_TD → Prop}
    (H : e_Wp 19 2 [some (.ref 5), some (.ref 113), some (.int 0)] [] (S0 I L D sc) 0 0 (e_rV sc Ψ)) : e_M 19 [.ref 5, .ref 113] (S0 I L D sc) (e_rV sc Ψ) :=
  e_M_go e_q19 e_k19 [2] 21 (by decide +kernel) rfl rfl (H) (e_h0 rfl)
set_option maxRecDepth 20000 in
theorem vR_copySets_5_113_p2 {x2 : Int32} {I : e_TI} {L : e_TL} {D : e_TD} {sc : e_TS} {Ψ : e_TI → e_TL → e_TD → Prop}
    (H : ((2 ≤ x2 → Ψ I L D) ∧ (¬ (2 ≤ x2) → ((2 ≤ x2 → Ψ I L D) ∧ (¬ (2 ≤ x2) → (vp_in x2 2 ∧ (vp_in x2 2 ∧ e_Wp 19 2 [some (.ref 5), some (.ref 113), some (.int (x2 + 1))] [] (S0 I (e_up L 113 x2.toNatClampNeg (L 5 x2.toNatClampNeg)) D sc) 0 0 (e_rV sc Ψ)))))))) : e_Wp 19 2 [some (.ref 5), some (.ref 113), some (.int x2)] [] (S0 I L D sc) 0 0 (e_rV sc Ψ) :=
  e_W_go e_q19 e_k19 [2] 21 2 (And.intro (fun c2 => e_rVi ((H).1 c2)) (fun c2 => And.intro (fun c1 => e_rVi ((((H).2 c2)).1 c1)) (fun c1 => And.intro (((((H).2 c2)).2 c1)).1 (And.intro ((((((H).2 c2)).2 c1)).2).1 (((((((H).2 c2)).2 c1)).2).2)))))
set_option maxRecDepth 20000 in
theorem vR_copySets_5_125 {I : e_TI} {L : e_TL} {D : e_TD} {sc : e_TS} {Ψ : e_TI → e_TL → e_TD → Prop}
    (H : e_Wp 19 2 [some (.ref 5), some (.ref 125), some (.int 0)] [] (S0 I L D sc) 0 0 (e_rV sc Ψ)) : e_M 19 [.ref 5, .ref 125] (S0 I L D sc) (e_rV sc Ψ) :=
  e_M_go e_q19 e_k19 [2] 21 (by decide +kernel) rfl rfl (H) (e_h0 rfl)
set_option maxRecDepth 20000 in
theorem vR_copySets_5_125_p2 {x2 : Int32} {I : e_TI} {L : e_TL} {D : e_TD} {sc : e_TS} {Ψ : e_TI → e_TL → e_TD → Prop}
    (H : ((2 ≤ x2 → Ψ I L D) ∧ (¬ (2 ≤ x2) → ((2 ≤ x2 → Ψ I L D) ∧ (¬ (2 ≤ x2) → (vp_in x2 2 ∧ (vp_in x2 2 ∧ e_Wp 19 2 [some (.ref 5), some (.ref 125), some (.int (x2 + 1))] [] (S0 I (e_up L 125 x2.toNatClampNeg (L 5 x2.toNatClampNeg)) D sc) 0 0 (e_rV sc Ψ)))))))) : e_Wp 19 2 [some (.ref 5), some (.ref 125), some (.int x2)] [] (S0 I L D sc) 0 0 (e_rV sc Ψ) :=
  e_W_go e_q19 e_k19 [2] 21 2 (And.intro (fun c2 => e_rVi ((H).1 c2)) (fun c2 => And.intro (fun c1 => e_rVi ((((H).2 c2)).1 c1)) (fun c1 => And.intro (((((H).2 c2)).2 c1)).1 (And.intro ((((((H).2 c2)).2 c1)).2).1 (((((((H).2 c2)).2 c1)).2).2)))))
set_option maxRecDepth 20000 in
theorem vR_copySets_5_27 {I : e_TI} {L : e_TL} {D : e_TD} {sc : e_TS} {Ψ : e_TI → e_TL → e_TD → Prop}
    (H : e_Wp 19 2 [some (.ref 5), some (.ref 27), some (.int 0)] [] (S0 I L D sc) 0 0 (e_rV sc Ψ)) : e_M 19 [.ref 5, .ref 27] (S0 I L D sc) (e_rV sc Ψ) :=
  e_M_go e_q19 e_k19 [2] 21 (by decide +kernel) rfl rfl (H) (e_h0 rfl)
set_option maxRecDepth 20000 in
theorem vR_copySets_5_27_p2 {x2 : Int32} {I : e_TI} {L : e_TL} {D : e_TD} {sc : e_TS} {Ψ : e_TI → e_TL → e_TD → Prop}
    (H : ((2 ≤ x2 → Ψ I L D) ∧ (¬ (2 ≤ x2) → ((2 ≤ x2 → Ψ I L D) ∧ (¬ (2 ≤ x2) → (vp_in x2 2 ∧ (vp_in x2 2 ∧ e_Wp 19 2 [some (.ref 5), some (.ref 27), some (.int (x2 + 1))] [] (S0 I (e_up L 27 x2.toNatClampNeg (L 5 x2.toNatClampNeg)) D sc) 0 0 (e_rV sc Ψ)))))))) : e_Wp 19 2 [some (.ref 5), some (.ref 27), some (.int x2)] [] (S0 I L D sc) 0 0 (e_rV sc Ψ) :=
  e_W_go e_q19 e_k19 [2] 21 2 (And.intro (fun c2 => e_rVi ((H).1 c2)) (fun c2 => And.intro (fun c1 => e_rVi ((((H).2 c2)).1 c1)) (fun c1 => And.intro (((((H).2 c2)).2 c1)).1 (And.intro ((((((H).2 c2)).2 c1)).2).1 (((((((H).2 c2)).2 c1)).2).2)))))
set_option maxRecDepth 20000 in
theorem vR_copySets_5_41 {I : e_TI} {L : e_TL} {D : e_TD} {sc : e_TS} {Ψ : e_TI → e_TL → e_TD → Prop}
    (H : e_Wp 19 2 [some (.ref 5), some (.ref 41), some (.int 0)] [] (S0 I L D sc) 0 0 (e_rV sc Ψ)) : e_M 19 [.ref 5, .ref 41] (S0 I L D sc) (e_rV sc Ψ) :=
  e_M_go e_q19 e_k19 [2] 21 (by decide +kernel) rfl rfl (H) (e_h0 rfl)
set_option maxRecDepth 20000 in
theorem vR_copySets_5_41_p2 {x2 : Int32} {I : e_TI} {L : e_TL} {D : e_TD} {sc : e_TS} {Ψ : e_TI → e_TL → e_TD → Prop}
    (H : ((2 ≤ x2 → Ψ I L D) ∧ (¬ (2 ≤ x2) → ((2 ≤ x2 → Ψ I L D) ∧ (¬ (2 ≤ x2) → (vp_in x2 2 ∧ (vp_in x2 2 ∧ e_Wp 19 2 [some (.ref 5), some (.ref 41), some (.int (x2 + 1))] [] (S0 I (e_up L 41 x2.toNatClampNeg (L 5 x2.toNatClampNeg)) D sc) 0 0 (e_rV sc Ψ)))))))) : e_Wp 19 2 [some (.ref 5), some (.ref 41), some (.int x2)] [] (S0 I L D sc) 0 0 (e_rV sc Ψ) :=
  e_W_go e_q19 e_k19 [2] 21 2 (And.intro (fun c2 => e_rVi ((H).1 c2)) (fun c2 => And.intro (fun c1 => e_rVi ((((H).2 c2)).1 c1)) (fun c1 => And.intro (((((H).2 c2)).2 c1)).1 (And.intro ((((((H).2 c2)).2 c1)).2).1 (((((((H).2 c2)).2 c1)).2).2)))))
set_option maxRecDepth 20000 in
theorem vR_copySets_5_53 {I : e_TI} {L : e_TL} {D : e_TD} {sc : e_TS} {Ψ : e_TI → e_TL → e_TD → Prop}
    (H : e_Wp 19 2 [some (.ref 5), some (.ref 53), some (.int 0)] [] (S0 I L D sc) 0 0 (e_rV sc Ψ)) : e_M 19 [.ref 5, .ref 53] (S0 I L D sc) (e_rV sc Ψ) :=
  e_M_go e_q19 e_k19 [2] 21 (by decide +kernel) rfl rfl (H) (e_h0 rfl)
set_option maxRecDepth 20000 in
theorem vR_copySets_5_53_p2 {x2 : Int32} {I : e_TI} {L : e_TL} {D : e_TD} {sc : e_TS} {Ψ : e_TI → e_TL → e_TD → Prop}
    (H : ((2 ≤ x2 → Ψ I L D) ∧ (¬ (2 ≤ x2) → ((2 ≤ x2 → Ψ I L D) ∧ (¬ (2 ≤ x2) → (vp_in x2 2 ∧ (vp_in x2 2 ∧ e_Wp 19 2 [some (.ref 5), some (.ref 53), some (.int (x2 + 1))] [] (S0 I (e_up L 53 x2.toNatClampNeg (L 5 x2.toNatClampNeg)) D sc) 0 0 (e_rV sc Ψ)))))))) : e_Wp 19 2 [some (.ref 5), some (.ref 53), some (.int x2)] [] (S0 I L D sc) 0 0 (e_rV sc Ψ) :=
  e_W_go e_q19 e_k19 [2] 21 2 (And.intro (fun c2 => e_rVi ((H).1 c2)) (fun c2 => And.intro (fun c1 => e_rVi ((((H).2 c2)).1 c1)) (fun c1 => And.intro (((((H).2 c2)).2 c1)).1 (And.intro ((((((H).2 c2)).2 c1)).2).1 (((((((H).2 c2)).2 c1)).2).2)))))
set_option maxRecDepth 20000 in
theorem vR_copySets_5_65 {I : e_TI} {L : e_TL} {D : e_TD} {sc : e_TS} {Ψ : e_TI → e_TL → e_TD → Prop}
    (H : e_Wp 19 2 [some (.ref 5), some (.ref 65), some (.int 0)] [] (S0 I L D sc) 0 0 (e_rV sc Ψ)) : e_M 19 [.ref 5, .ref 65] (S0 I L D sc) (e_rV sc Ψ) :=
  e_M_go e_q19 e_k19 [2] 21 (by decide +kernel) rfl rfl (H) (e_h0 rfl)
set_option maxRecDepth 20000 in
theorem vR_copySets_5_65_p2 {x2 : Int32} {I : e_TI} {L : e_TL} {D : e_TD} {sc : e_TS} {Ψ : e_TI → e_TL → e_TD → Prop}
    (H : ((2 ≤ x2 → Ψ I L D) ∧ (¬ (2 ≤ x2) → ((2 ≤ x2 → Ψ I L D) ∧ (¬ (2 ≤ x2) → (vp_in x2 2 ∧ (vp_in x2 2 ∧ e_Wp 19 2 [some (.ref 5), some (.ref 65), some (.int (x2 + 1))] [] (S0 I (e_up L 65 x2.toNatClampNeg (L 5 x2.toNatClampNeg)) D sc) 0 0 (e_rV sc Ψ)))))))) : e_Wp 19 2 [some (.ref 5), some (.ref 65), some (.int x2)] [] (S0 I L D sc) 0 0 (e_rV sc Ψ) :=
  e_W_go e_q19 e_k19 [2] 21 2 (And.intro (fun c2 => e_rVi ((H).1 c2)) (fun c2 => And.intro (fun c1 => e_rVi ((((H).2 c2)).1 c1)) (fun c1 => And.intro (((((H).2 c2)).2 c1)).1 (And.intro ((((((H).2 c2)).2 c1)).2).1 (((((((H).2 c2)).2 c1)).2).2)))))
set_option maxRecDepth 20000 in
theorem vR_copySets_5_77 {I : e_TI} {L : e_TL} {D : e_TD} {sc : e_TS} {Ψ : e_TI → e_TL → e_TD → Prop}
    (H : e_Wp 19 2 [some (.ref 5), some (.ref 77), some (.int 0)] [] (S0 I L D sc) 0 0 (e_rV sc Ψ)) : e_M 19 [.ref 5, .ref 77] (S0 I L D sc) (e_rV sc Ψ) :=
  e_M_go e_q19 e_k19 [2] 21 (by decide +kernel) rfl rfl (H) (e_h0 rfl)
set_option maxRecDepth 20000 in
theorem vR_copySets_5_77_p2 {x2 : Int32} {I : e_TI} {L : e_TL} {D : e_TD} {sc : e_TS} {Ψ : e_TI → e_TL → e_TD → Prop}
    (H : ((2 ≤ x2 → Ψ I L D) ∧ (¬ (2 ≤ x2) → ((2 ≤ x2 → Ψ I L D) ∧ (¬ (2 ≤ x2) → (vp_in x2 2 ∧ (vp_in x2 2 ∧ e_Wp 19 2 [some (.ref 5), some (.ref 77), some (.int (x2 + 1))] [] (S0 I (e_up L 77 x2.toNatClampNeg (L 5 x2.toNatClampNeg)) D sc) 0 0 (e_rV sc Ψ)))))))) : e_Wp 19 2 [some (.ref 5), some (.ref 77), some (.int x2)] [] (S0 I L D sc) 0 0 (e_rV sc Ψ) :=
  e_W_go e_q19 e_k19 [2] 21 2 (And.intro (fun c2 => e_rVi ((H).1 c2)) (fun c2 => And.intro (fun c1 => e_rVi ((((H).2 c2)).1 c1)) (fun c1 => And.intro (((((H).2 c2)).2 c1)).1 (And.intro ((((((H).2 c2)).2 c1)).2).1 (((((((H).2 c2)).2 c1)).2).2)))))
set_option maxRecDepth 20000 in
theorem vR_copySets_5_89 {I : e_TI} {L : e_TL} {D : e_TD} {sc : e_TS} {Ψ : e_TI → e_TL → e_TD → Prop}
    (H : e_Wp 19 2 [some (.ref 5), some (.ref 89), some (.int 0)] [] (S0 I L D sc) 0 0 (e_rV sc Ψ)) : e_M 19 [.ref 5, .ref 89] (S0 I L D sc) (e_rV sc Ψ) :=
  e_M_go e_q19 e_k19 [2] 21 (by decide +kernel) rfl rfl (H) (e_h0 rfl)
set_option maxRecDepth 20000 in
theorem vR_copySets_5_89_p2 {x2 : Int32} {I : e_TI} {L : e_TL} {D : e_TD} {sc : e_TS} {Ψ : e_TI → e_TL → e_TD → Prop}
    (H : ((2 ≤ x2 → Ψ I L D) ∧ (¬ (2 ≤ x2) → ((2 ≤ x2 → Ψ I L D) ∧ (¬ (2 ≤ x2) → (vp_in x2 2 ∧ (vp_in x2 2 ∧ e_Wp 19 2 [some (.ref 5), some (.ref 89), some (.int (x2 + 1))] [] (S0 I (e_up L 89 x2.toNatClampNeg (L 5 x2.toNatClampNeg)) D sc) 0 0 (e_rV sc Ψ)))))))) : e_Wp 19 2 [some (.ref 5), some (.ref 89), some (.int x2)] [] (S0 I L D sc) 0 0 (e_rV sc Ψ) :=
  e_W_go e_q19 e_k19 [2] 21 2 (And.intro (fun c2 => e_rVi ((H).1 c2)) (fun c2 => And.intro (fun c1 => e_rVi ((((H).2 c2)).1 c1)) (fun c1 => And.intro (((((H).2 c2)).2 c1)).1 (And.intro ((((((H).2 c2)).2 c1)).2).1 (((((((H).2 c2)).2 c1)).2).2)))))
set_option maxRecDepth 20000 in
theorem vR_copySets_64_4 {I : e_TI} {L : e_TL} {D : e_TD} {sc : e_TS} {Ψ : e_TI → e_TL → e_TD → Prop}
    (H : e_Wp 19 2 [some (.ref 64), some (.ref 4), some (.int 0)] [] (S0 I L D sc) 0 0 (e_rV sc Ψ)) : e_M 19 [.ref 64, .ref 4] (S0 I L D sc) (e_rV sc Ψ) :=
  e_M_go e_q19 e_k19 [2] 21 (by decide +kernel) rfl rfl (H) (e_h0 rfl)
set_option maxRecDepth 20000 in
theorem vR_copySets_64_4_p2 {x2 : Int32} {I : e_TI} {L : e_TL} {D : e_TD} {sc : e_TS} {Ψ : e_TI → e_TL → e_TD → Prop}
    (H : ((6 ≤ x2 → Ψ I L D) ∧ (¬ (6 ≤ x2) → ((6 ≤ x2 → Ψ I L D) ∧ (¬ (6 ≤ x2) → (vp_in x2 6 ∧ (vp_in x2 6 ∧ e_Wp 19 2 [some (.ref 64), some (.ref 4), some (.int (x2 + 1))] [] (S0 I (e_up L 4 x2.toNatClampNeg (L 64 x2.toNatClampNeg)) D sc) 0 0 (e_rV sc Ψ)))))))) : e_Wp 19 2 [some (.ref 64), some (.ref 4), some (.int x2)] [] (S0 I L D sc) 0 0 (e_rV sc Ψ) :=
  e_W_go e_q19 e_k19 [2] 21 2 (And.intro (fun c2 => e_rVi ((H).1 c2)) (fun c2 => And.intro (fun c1 => e_rVi ((((H).2 c2)).1 c1)) (fun c1 => And.intro (((((H).2 c2)).2 c1)).1 (And.intro ((((((H).2 c2)).2 c1)).2).1 (((((((H).2 c2)).2 c1)).2).2)))))
set_option maxRecDepth 20000 in
theorem vR_copySets_65_5 {I : e_TI} {L : e_TL} {D : e_TD} {sc : e_TS} {Ψ : e_TI → e_TL → e_TD → Prop}
    (H : e_Wp 19 2 [some (.ref 65), some (.ref 5), some (.int 0)] [] (S0 I L D sc) 0 0 (e_rV sc Ψ)) : e_M 19 [.ref 65, .ref 5] (S0 I L D sc) (e_rV sc Ψ) :=
  e_M_go e_q19 e_k19 [2] 21 (by decide +kernel) rfl rfl (H) (e_h0 rfl)
set_option maxRecDepth 20000 in
theorem vR_copySets_65_5_p2 {x2 : Int32} {I : e_TI} {L : e_TL} {D : e_TD} {sc : e_TS} {Ψ : e_TI → e_TL → e_TD → Prop}
    (H : ((2 ≤ x2 → Ψ I L D) ∧ (¬ (2 ≤ x2) → ((2 ≤ x2 → Ψ I L D) ∧ (¬ (2 ≤ x2) → (vp_in x2 2 ∧ (vp_in x2 2 ∧ e_Wp 19 2 [some (.ref 65), some (.ref 5), some (.int (x2 + 1))] [] (S0 I (e_up L 5 x2.toNatClampNeg (L 65 x2.toNatClampNeg)) D sc) 0 0 (e_rV sc Ψ)))))))) : e_Wp 19 2 [some (.ref 65), some (.ref 5), some (.int x2)] [] (S0 I L D sc) 0 0 (e_rV sc Ψ) :=
  e_W_go e_q19 e_k19 [2] 21 2 (And.intro (fun c2 => e_rVi ((H).1 c2)) (fun c2 => And.intro (fun c1 => e_rVi ((((H).2 c2)).1 c1)) (fun c1 => And.intro (((((H).2 c2)).2 c1)).1 (And.intro ((((((H).2 c2)).2 c1)).2).1 (((((((H).2 c2)).2 c1)).2).2)))))
set_option maxRecDepth 20000 in
theorem vR_copySets_76_4 {I : e_TI} {L : e_TL} {D : e_TD} {sc : e_TS} {Ψ : e_TI → e_TL → e_TD → Prop}
    (H : e_Wp 19 2 [some (.ref 76), some (.ref 4), some (.int 0)] [] (S0 I L D sc) 0 0 (e_rV sc Ψ)) : e_M 19 [.ref 76, .ref 4] (S0 I L D sc) (e_rV sc Ψ) :=
  e_M_go e_q19 e_k19 [2] 21 (by decide +kernel) rfl rfl (H) (e_h0 rfl)
set_option maxRecDepth 20000 in
theorem vR_copySets_76_4_p2 {x2 : Int32} {I : e_TI} {L : e_TL} {D : e_TD} {sc : e_TS} {Ψ : e_TI → e_TL → e_TD → Prop}
    (H : ((6 ≤ x2 → Ψ I L D) ∧ (¬ (6 ≤ x2) → ((6 ≤ x2 → Ψ I L D) ∧ (¬ (6 ≤ x2) → (vp_in x2 6 ∧ (vp_in x2 6 ∧ e_Wp 19 2 [some (.ref 76), some (.ref 4), some (.int (x2 + 1))] [] (S0 I (e_up L 4 x2.toNatClampNeg (L 76 x2.toNatClampNeg)) D sc) 0 0 (e_rV sc Ψ)))))))) : e_Wp 19 2 [some (.ref 76), some (.ref 4), some (.int x2)] [] (S0 I L D sc) 0 0 (e_rV sc Ψ) :=
  e_W_go e_q19 e_k19 [2] 21 2 (And.intro (fun c2 => e_rVi ((H).1 c2)) (fun c2 => And.intro (fun c1 => e_rVi ((((H).2 c2)).1 c1)) (fun c1 => And.intro (((((H).2 c2)).2 c1)).1 (And.intro ((((((H).2 c2)).2 c1)).2).1 (((((((H).2 c2)).2 c1)).2).2)))))
set_option maxRecDepth 20000 in
theorem vR_copySets_77_5 {I : e_TI} {L : e_TL} {D : e_TD} {sc : e_TS} {Ψ : e_TI → e_TL → e_TD → Prop}
    (H : e_Wp 19 2 [some (.ref 77), some (.ref 5), some (.int 0)] [] (S0 I L D sc) 0 0 (e_rV sc Ψ)) : e_M 19 [.ref 77, .ref 5] (S0 I L D sc) (e_rV sc Ψ) :=
  e_M_go e_q19 e_k19 [2] 21 (by decide +kernel) rfl rfl (H) (e_h0 rfl)
set_option maxRecDepth 20000 in
theorem vR_copySets_77_5_p2 {x2 : Int32} {I : e_TI} {L : e_TL} {D : e_TD} {sc : e_TS} {Ψ : e_TI → e_TL → e_TD → Prop}
    (H : ((2 ≤ x2 → Ψ I L D) ∧ (¬ (2 ≤ x2) → ((2 ≤ x2 → Ψ I L D) ∧ (¬ (2 ≤ x2) → (vp_in x2 2 ∧ (vp_in x2 2 ∧ e_Wp 19 2 [some (.ref 77), some (.ref 5), some (.int (x2 + 1))] [] (S0 I (e_up L 5 x2.toNatClampNeg (L 77 x2.toNatClampNeg)) D sc) 0 0 (e_rV sc Ψ)))))))) : e_Wp 19 2 [some (.ref 77), some (.ref 5), some (.int x2)] [] (S0 I L D sc) 0 0 (e_rV sc Ψ) :=
  e_W_go e_q19 e_k19 [2] 21 2 (And.intro (fun c2 => e_rVi ((H).1 c2)) (fun c2 => And.intro (fun c1 => e_rVi ((((H).2 c2)).1 c1)) (fun c1 => And.intro (((((H).2 c2)).2 c1)).1 (And.intro ((((((H).2 c2)).2 c1)).2).1 (((((((H).2 c2)).2 c1)).2).2)))))
set_option maxRecDepth 20000 in
theorem vR_copySets_88_4 {I : e_TI} {L : e_TL} {D : e_TD} {sc : e_TS} {Ψ : e_TI → e_TL → e_TD → Prop}
    (H : e_Wp 19 2 [some (.ref 88), some (.ref 4), some (.int 0)] [] (S0 I L D sc) 0 0 (e_rV sc Ψ)) : e_M 19 [.ref 88, .ref 4] (S0 I L D sc) (e_rV sc Ψ) :=
  e_M_go e_q19 e_k19 [2] 21 (by decide +kernel) rfl rfl (H) (e_h0 rfl)
set_option maxRecDepth 20000 in
theorem vR_copySets_88_4_p2 {x2 : Int32} {I : e_TI} {L : e_TL} {D : e_TD} {sc : e_TS} {Ψ : e_TI → e_TL → e_TD → Prop}
    (H : ((6 ≤ x2 → Ψ I L D) ∧ (¬ (6 ≤ x2) → ((6 ≤ x2 → Ψ I L D) ∧ (¬ (6 ≤ x2) → (vp_in x2 6 ∧ (vp_in x2 6 ∧ e_Wp 19 2 [some (.ref 88), some (.ref 4), some (.int (x2 + 1))] [] (S0 I (e_up L 4 x2.toNatClampNeg (L 88 x2.toNatClampNeg)) D sc) 0 0 (e_rV sc Ψ)))))))) : e_Wp 19 2 [some (.ref 88), some (.ref 4), some (.int x2)] [] (S0 I L D sc) 0 0 (e_rV sc Ψ) :=
  e_W_go e_q19 e_k19 [2] 21 2 (And.intro (fun c2 => e_rVi ((H).1 c2)) (fun c2 => And.intro (fun c1 => e_rVi ((((H).2 c2)).1 c1)) (fun c1 => And.intro (((((H).2 c2)).2 c1)).1 (And.intro ((((((H).2 c2)).2 c1)).2).1 (((((((H).2 c2)).2 c1)).2).2)))))
set_option maxRecDepth 20000 in
theorem vR_copySets_89_5 {I : e_TI} {L : e_TL} {D : e_TD} {sc : e_TS} {Ψ : e_TI → e_TL → e_TD → Prop}
    (H : e_Wp 19 2 [some (.ref 89), some (.ref 5), some (.int 0)] [] (S0 I L D sc) 0 0 (e_rV sc Ψ)) : e_M 19 [.ref 89, .ref 5] (S0 I L D sc) (e_rV sc Ψ) :=
  e_M_go e_q19 e_k19 [2] 21 (by decide +kernel) rfl rfl (H) (e_h0 rfl)
set_option maxRecDepth 20000 in
theorem vR_copySets_89_5_p2 {x2 : Int32} {I : e_TI} {L : e_TL} {D : e_TD} {sc : e_TS} {Ψ : e_TI → e_TL → e_TD → Prop}
    (H : ((2 ≤ x2 → Ψ I L D) ∧ (¬ (2 ≤ x2) → ((2 ≤ x2 → Ψ I L D) ∧ (¬ (2 ≤ x2) → (vp_in x2 2 ∧ (vp_in x2 2 ∧ e_Wp 19 2 [some (.ref 89), some (.ref 5), some (.int (x2 + 1))] [] (S0 I (e_up L 5 x2.toNatClampNeg (L 89 x2.toNatClampNeg)) D sc) 0 0 (e_rV sc Ψ)))))))) : e_Wp 19 2 [some (.ref 89), some (.ref 5), some (.int x2)] [] (S0 I L D sc) 0 0 (e_rV sc Ψ) :=
  e_W_go e_q19 e_k19 [2] 21 2 (And.intro (fun c2 => e_rVi ((H).1 c2)) (fun c2 => And.intro (fun c1 => e_rVi ((((H).2 c2)).1 c1)) (fun c1 => And.intro (((((H).2 c2)).2 c1)).1 (And.intro ((((((H).2 c2)).2 c1)).2).1 (((((((H).2 c2)).2 c1)).2).2)))))
set_option maxRecDepth 20000 in
theorem vR_copy_103_7 {I : e_TI} {L : e_TL} {D : e_TD} {sc : e_TS} {Ψ : e_TI → e_TL → e_TD → Prop}
    (H : e_Wp 21 2 [some (.ref 103), some (.ref 7), some (.int 0)] [] (S0 I L D sc) 0 0 (e_rV sc Ψ)) : e_M 21 [.ref 103, .ref 7] (S0 I L D sc) (e_rV sc Ψ) :=
  e_M_go e_q21 e_k21 [2] 21 (by decide +kernel) rfl rfl (H) (e_h0 rfl)
set_option maxRecDepth 20000 in
theorem vR_copy_103_7_p2 {x2 : Int32} {I : e_TI} {L : e_TL} {D : e_TD} {sc : e_TS} {Ψ : e_TI → e_TL → e_TD → Prop}
    (H : ((16 ≤ x2 → Ψ I L D) ∧ (¬ (16 ≤ x2) → ((16 ≤ x2 → Ψ I L D) ∧ (¬ (16 ≤ x2) → (vp_in x2 16 ∧ (vp_in x2 16 ∧ e_Wp 21 2 [some (.ref 103), some (.ref 7), some (.int (x2 + 1))] [] (S0 (e_up I 7 x2.toNatClampNeg (I 103 x2.toNatClampNeg)) L D sc) 0 0 (e_rV sc Ψ)))))))) : e_Wp 21 2 [some (.ref 103), some (.ref 7), some (.int x2)] [] (S0 I L D sc) 0 0 (e_rV sc Ψ) :=
  e_W_go e_q21 e_k21 [2] 21 2 (And.intro (fun c2 => e_rVi ((H).1 c2)) (fun c2 => And.intro (fun c1 => e_rVi ((((H).2 c2)).1 c1)) (fun c1 => And.intro (((((H).2 c2)).2 c1)).1 (And.intro ((((((H).2 c2)).2 c1)).2).1 (((((((H).2 c2)).2 c1)).2).2)))))
set_option maxRecDepth 20000 in
theorem vR_copy_104_8 {I : e_TI} {L : e_TL} {D : e_TD} {sc : e_TS} {Ψ : e_TI → e_TL → e_TD → Prop}
    (H : e_Wp 21 2 [some (.ref 104), some (.ref 8), some (.int 0)] [] (S0 I L D sc) 0 0 (e_rV sc Ψ)) : e_M 21 [.ref 104, .ref 8] (S0 I L D sc) (e_rV sc Ψ) :=
  e_M_go e_q21 e_k21 [2] 21 (by decide +kernel) rfl rfl (H) (e_h0 rfl)
set_option maxRecDepth 20000 in
theorem vR_copy_104_8_p2 {x2 : Int32} {I : e_TI} {L : e_TL} {D : e_TD} {sc : e_TS} {Ψ : e_TI → e_TL → e_TD → Prop}
    (H : ((16 ≤ x2 → Ψ I L D) ∧ (¬ (16 ≤ x2) → ((16 ≤ x2 → Ψ I L D) ∧ (¬ (16 ≤ x2) → (vp_in x2 16 ∧ (vp_in x2 16 ∧ e_Wp 21 2 [some (.ref 104), some (.ref 8), some (.int (x2 + 1))] [] (S0 (e_up I 8 x2.toNatClampNeg (I 104 x2.toNatClampNeg)) L D sc) 0 0 (e_rV sc Ψ)))))))) : e_Wp 21 2 [some (.ref 104), some (.ref 8), some (.int x2)] [] (S0 I L D sc) 0 0 (e_rV sc Ψ) :=
  e_W_go e_q21 e_k21 [2] 21 2 (And.intro (fun c2 => e_rVi ((H).1 c2)) (fun c2 => And.intro (fun c1 => e_rVi ((((H).2 c2)).1 c1)) (fun c1 => And.intro (((((H).2 c2)).2 c1)).1 (And.intro ((((((H).2 c2)).2 c1)).2).1 (((((((H).2 c2)).2 c1)).2).2)))))
set_option maxRecDepth 20000 in
theorem vR_copy_105_9 {I : e_TI} {L : e_TL} {D : e_TD} {sc : e_TS} {Ψ : e_TI → e_TL → e_TD → Prop}
    (H : e_Wp 21 2 [some (.ref 105), some (.ref 9), some (.int 0)] [] (S0 I L D sc) 0 0 (e_rV sc Ψ)) : e_M 21 [.ref 105, .ref 9] (S0 I L D sc) (e_rV sc Ψ) :=
  e_M_go e_q21 e_k21 [2] 21 (by decide +kernel) rfl rfl (H) (e_h0 rfl)
set_option maxRecDepth 20000 in
theorem vR_copy_105_9_p2 {x2 : Int32} {I : e_TI} {L : e_TL} {D : e_TD} {sc : e_TS} {Ψ : e_TI → e_TL → e_TD → Prop}
    (H : ((16 ≤ x2 → Ψ I L D) ∧ (¬ (16 ≤ x2) → ((16 ≤ x2 → Ψ I L D) ∧ (¬ (16 ≤ x2) → (vp_in x2 16 ∧ (vp_in x2 16 ∧ e_Wp 21 2 [some (.ref 105), some (.ref 9), some (.int (x2 + 1))] [] (S0 (e_up I 9 x2.toNatClampNeg (I 105 x2.toNatClampNeg)) L D sc) 0 0 (e_rV sc Ψ)))))))) : e_Wp 21 2 [some (.ref 105), some (.ref 9), some (.int x2)] [] (S0 I L D sc) 0 0 (e_rV sc Ψ) :=
  e_W_go e_q21 e_k21 [2] 21 2 (And.intro (fun c2 => e_rVi ((H).1 c2)) (fun c2 => And.intro (fun c1 => e_rVi ((((H).2 c2)).1 c1)) (fun c1 => And.intro (((((H).2 c2)).2 c1)).1 (And.intro ((((((H).2 c2)).2 c1)).2).1 (((((((H).2 c2)).2 c1)).2).2)))))
set_option maxRecDepth 20000 in
theorem vR_copy_106_10 {I : e_TI} {L : e_TL} {D : e_TD} {sc : e_TS} {Ψ : e_TI → e_TL → e_TD → Prop}
    (H : e_Wp 21 2 [some (.ref 106), some (.ref 10), some (.int 0)] [] (S0 I L D sc) 0 0 (e_rV sc Ψ)) : e_M 21 [.ref 106, .ref 10] (S0 I L D sc) (e_rV sc Ψ) :=
  e_M_go e_q21 e_k21 [2] 21 (by decide +kernel) rfl rfl (H) (e_h0 rfl)
set_option maxRecDepth 20000 in
theorem vR_copy_106_10_p2 {x2 : Int32} {I : e_TI} {L : e_TL} {D : e_TD} {sc : e_TS} {Ψ : e_TI → e_TL → e_TD → Prop}
    (H : ((2 ≤ x2 → Ψ I L D) ∧ (¬ (2 ≤ x2) → ((2 ≤ x2 → Ψ I L D) ∧ (¬ (2 ≤ x2) → (vp_in x2 2 ∧ (vp_in x2 2 ∧ e_Wp 21 2 [some (.ref 106), some (.ref 10), some (.int (x2 + 1))] [] (S0 (e_up I 10 x2.toNatClampNeg (I 106 x2.toNatClampNeg)) L D sc) 0 0 (e_rV sc Ψ)))))))) : e_Wp 21 2 [some (.ref 106), some (.ref 10), some (.int x2)] [] (S0 I L D sc) 0 0 (e_rV sc Ψ) :=
  e_W_go e_q21 e_k21 [2] 21 2 (And.intro (fun c2 => e_rVi ((H).1 c2)) (fun c2 => And.intro (fun c1 => e_rVi ((((H).2 c2)).1 c1)) (fun c1 => And.intro (((((H).2 c2)).2 c1)).1 (And.intro ((((((H).2 c2)).2 c1)).2).1 (((((((H).2 c2)).2 c1)).2).2)))))
set_option maxRecDepth 20000 in
theorem vR_copy_107_11 {I : e_TI} {L : e_TL} {D : e_TD} {sc : e_TS} {Ψ : e_TI → e_TL → e_TD → Prop}
    (H : e_Wp 21 2 [some (.ref 107), some (.ref 11), some (.int 0)] [] (S0 I L D sc) 0 0 (e_rV sc Ψ)) : e_M 21 [.ref 107, .ref 11] (S0 I L D sc) (e_rV sc Ψ) :=
  e_M_go e_q21 e_k21 [2] 21 (by decide +kernel) rfl rfl (H) (e_h0 rfl)
set_option maxRecDepth 20000 in
theorem vR_copy_107_11_p2 {x2 : Int32} {I : e_TI} {L : e_TL} {D : e_TD} {sc : e_TS} {Ψ : e_TI → e_TL → e_TD → Prop}
    (H : ((2 ≤ x2 → Ψ I L D) ∧ (¬ (2 ≤ x2) → ((2 ≤ x2 → Ψ I L D) ∧ (¬ (2 ≤ x2) → (vp_in x2 2 ∧ (vp_in x2 2 ∧ e_Wp 21 2 [some (.ref 107), some (.ref 11), some (.int (x2 + 1))] [] (S0 (e_up I 11 x2.toNatClampNeg (I 107 x2.toNatClampNeg)) L D sc) 0 0 (e_rV sc Ψ)))))))) : e_Wp 21 2 [some (.ref 107), some (.ref 11), some (.int x2)] [] (S0 I L D sc) 0 0 (e_rV sc Ψ) :=
  e_W_go e_q21 e_k21 [2] 21 2 (And.intro (fun c2 => e_rVi ((H).1 c2)) (fun c2 => And.intro (fun c1 => e_rVi ((((H).2 c2)).1 c1)) (fun c1 => And.intro (((((H).2 c2)).2 c1)).1 (And.intro ((((((H).2 c2)).2 c1)).2).1 (((((((H).2 c2)).2 c1)).2).2)))))
set_option maxRecDepth 20000 in
theorem vR_copy_108_12 {I : e_TI} {L : e_TL} {D : e_TD} {sc : e_TS} {Ψ : e_TI → e_TL → e_TD → Prop}
    (H : e_Wp 21 2 [some (.ref 108), some (.ref 12), some (.int 0)] [] (S0 I L D sc) 0 0 (e_rV sc Ψ)) : e_M 21 [.ref 108, .ref 12] (S0 I L D sc) (e_rV sc Ψ) :=
  e_M_go e_q21 e_k21 [2] 21 (by decide +kernel) rfl rfl (H) (e_h0 rfl)
set_option maxRecDepth 20000 in
theorem vR_copy_108_12_p2 {x2 : Int32} {I : e_TI} {L : e_TL} {D : e_TD} {sc : e_TS} {Ψ : e_TI → e_TL → e_TD → Prop}
    (H : ((2 ≤ x2 → Ψ I L D) ∧ (¬ (2 ≤ x2) → ((2 ≤ x2 → Ψ I L D) ∧ (¬ (2 ≤ x2) → (vp_in x2 2 ∧ (vp_in x2 2 ∧ e_Wp 21 2 [some (.ref 108), some (.ref 12), some (.int (x2 + 1))] [] (S0 (e_up I 12 x2.toNatClampNeg (I 108 x2.toNatClampNeg)) L D sc) 0 0 (e_rV sc Ψ)))))))) : e_Wp 21 2 [some (.ref 108), some (.ref 12), some (.int x2)] [] (S0 I L D sc) 0 0 (e_rV sc Ψ) :=
  e_W_go e_q21 e_k21 [2] 21 2 (And.intro (fun c2 => e_rVi ((H).1 c2)) (fun c2 => And.intro (fun c1 => e_rVi ((((H).2 c2)).1 c1)) (fun c1 => And.intro (((((H).2 c2)).2 c1)).1 (And.intro ((((((H).2 c2)).2 c1)).2).1 (((((((H).2 c2)).2 c1)).2).2)))))
set_option maxRecDepth 20000 in
theorem vR_copy_109_13 {I : e_TI} {L : e_TL} {D : e_TD} {sc : e_TS} {Ψ : e_TI → e_TL → e_TD → Prop}
    (H : e_Wp 21 2 [some (.ref 109), some (.ref 13), some (.int 0)] [] (S0 I L D sc) 0 0 (e_rV sc Ψ)) : e_M 21 [.ref 109, .ref 13] (S0 I L D sc) (e_rV sc Ψ) :=
  e_M_go e_q21 e_k21 [2] 21 (by decide +kernel) rfl rfl (H) (e_h0 rfl)
set_option maxRecDepth 20000 in
theorem vR_copy_109_13_p2 {x2 : Int32} {I : e_TI} {L : e_TL} {D : e_TD} {sc : e_TS} {Ψ : e_TI → e_TL → e_TD → Prop}
    (H : ((2 ≤ x2 → Ψ I L D) ∧ (¬ (2 ≤ x2) → ((2 ≤ x2 → Ψ I L D) ∧ (¬ (2 ≤ x2) → (vp_in x2 2 ∧ (vp_in x2 2 ∧ e_Wp 21 2 [some (.ref 109), some (.ref 13), some (.int (x2 + 1))] [] (S0 (e_up I 13 x2.toNatClampNeg (I 109 x2.toNatClampNeg)) L D sc) 0 0 (e_rV sc Ψ)))))))) : e_Wp 21 2 [some (.ref 109), some (.ref 13), some (.int x2)] [] (S0 I L D sc) 0 0 (e_rV sc Ψ) :=
  e_W_go e_q21 e_k21 [2] 21 2 (And.intro (fun c2 => e_rVi ((H).1 c2)) (fun c2 => And.intro (fun c1 => e_rVi ((((H).2 c2)).1 c1)) (fun c1 => And.intro (((((H).2 c2)).2 c1)).1 (And.intro ((((((H).2 c2)).2 c1)).2).1 (((((((H).2 c2)).2 c1)).2).2)))))
set_option maxRecDepth 20000 in
theorem vR_copy_10_106 {I : e_TI} {L : e_TL} {D : e_TD} {sc : e_TS} {Ψ : e_TI → e_TL → e_TD → Prop}
    (H : e_Wp 21 2 [some (.ref 10), some (.ref 106), some (.int 0)] [] (S0 I L D sc) 0 0 (e_rV sc Ψ)) : e_M 21 [.ref 10, .ref 106] (S0 I L D sc) (e_rV sc Ψ) :=
  e_M_go e_q21 e_k21 [2] 21 (by decide +kernel) rfl rfl (H) (e_h0 rfl)
set_option maxRecDepth 20000 in
theorem vR_copy_10_106_p2 {x2 : Int32} {I : e_TI} {L : e_TL} {D : e_TD} {sc : e_TS} {Ψ : e_TI → e_TL → e_TD → Prop}
    (H : ((2 ≤ x2 → Ψ I L D) ∧ (¬ (2 ≤ x2) → ((2 ≤ x2 → Ψ I L D) ∧ (¬ (2 ≤ x2) → (vp_in x2 2 ∧ (vp_in x2 2 ∧ e_Wp 21 2 [some (.ref 10), some (.ref 106), some (.int (x2 + 1))] [] (S0 (e_up I 106 x2.toNatClampNeg (I 10 x2.toNatClampNeg)) L D sc) 0 0 (e_rV sc Ψ)))))))) : e_Wp 21 2 [some (.ref 10), some (.ref 106), some (.int x2)] [] (S0 I L D sc) 0 0 (e_rV sc Ψ) :=
  e_W_go e_q21 e_k21 [2] 21 2 (And.intro (fun c2 => e_rVi ((H).1 c2)) (fun c2 => And.intro (fun c1 => e_rVi ((((H).2 c2)).1 c1)) (fun c1 => And.intro (((((H).2 c2)).2 c1)).1 (And.intro ((((((H).2 c2)).2 c1)).2).1 (((((((H).2 c2)).2 c1)).2).2)))))
set_option maxRecDepth 20000 in
theorem vR_copy_10_118 {I : e_TI} {L : e_TL} {D : e_TD} {sc : e_TS} {Ψ : e_TI → e_TL → e_TD → Prop}
    (H : e_Wp 21 2 [some (.ref 10), some (.ref 118), some (.int 0)] [] (S0 I L D sc) 0 0 (e_rV sc Ψ)) : e_M 21 [.ref 10, .ref 118] (S0 I L D sc) (e_rV sc Ψ) :=
  e_M_go e_q21 e_k21 [2] 21 (by decide +kernel) rfl rfl (H) (e_h0 rfl)
set_option maxRecDepth 20000 in
theorem vR_copy_10_118_p2 {x2 : Int32} {I : e_TI} {L : e_TL} {D : e_TD} {sc : e_TS} {Ψ : e_TI → e_TL → e_TD → Prop}
    (H : ((2 ≤ x2 → Ψ I L D) ∧ (¬ (2 ≤ x2) → ((2 ≤ x2 → Ψ I L D) ∧ (¬ (2 ≤ x2) → (vp_in x2 2 ∧ (vp_in x2 2 ∧ e_Wp 21 2 [some (.ref 10), some (.ref 118), some (.int (x2 + 1))] [] (S0 (e_up I 118 x2.toNatClampNeg (I 10 x2.toNatClampNeg)) L D sc) 0 0 (e_rV sc Ψ)))))))) : e_Wp 21 2 [some (.ref 10), some (.ref 118), some (.int x2)] [] (S0 I L D sc) 0 0 (e_rV sc Ψ) :=
  e_W_go e_q21 e_k21 [2] 21 2 (And.intro (fun c2 => e_rVi ((H).1 c2)) (fun c2 => And.intro (fun c1 => e_rVi ((((H).2 c2)).1 c1)) (fun c1 => And.intro (((((H).2 c2)).2 c1)).1 (And.intro ((((((H).2 c2)).2 c1)).2).1 (((((((H).2 c2)).2 c1)).2).2)))))
set_option maxRecDepth 20000 in
theorem vR_copy_10_130 {I : e_TI} {L : e_TL} {D : e_TD} {sc : e_TS} {Ψ : e_TI → e_TL → e_TD → Prop}
    (H : e_Wp 21 2 [some (.ref 10), some (.ref 130), some (.int 0)] [] (S0 I L D sc) 0 0 (e_rV sc Ψ)) : e_M 21 [.ref 10, .ref 130] (S0 I L D sc) (e_rV sc Ψ) :=
  e_M_go e_q21 e_k21 [2] 21 (by decide +kernel) rfl rfl (H) (e_h0 rfl)
set_option maxRecDepth 20000 in
theorem vR_copy_10_130_p2 {x2 : Int32} {I : e_TI} {L : e_TL} {D : e_TD} {sc : e_TS} {Ψ : e_TI → e_TL → e_TD → Prop}
    (H : ((2 ≤ x2 → Ψ I L D) ∧ (¬ (2 ≤ x2) → ((2 ≤ x2 → Ψ I L D) ∧ (¬ (2 ≤ x2) → (vp_in x2 2 ∧ (vp_in x2 2 ∧ e_Wp 21 2 [some (.ref 10), some (.ref 130), some (.int (x2 + 1))] [] (S0 (e_up I 130 x2.toNatClampNeg (I 10 x2.toNatClampNeg)) L D sc) 0 0 (e_rV sc Ψ)))))))) : e_Wp 21 2 [some (.ref 10), some (.ref 130), some (.int x2)] [] (S0 I L D sc) 0 0 (e_rV sc Ψ) :=
  e_W_go e_q21 e_k21 [2] 21 2 (And.intro (fun c2 => e_rVi ((H).1 c2)) (fun c2 => And.intro (fun c1 => e_rVi ((((H).2 c2)).1 c1)) (fun c1 => And.intro (((((H).2 c2)).2 c1)).1 (And.intro ((((((H).2 c2)).2 c1)).2).1 (((((((H).2 c2)).2 c1)).2).2)))))
set_option maxRecDepth 20000 in
theorem vR_copy_10_32 {I : e_TI} {L : e_TL} {D : e_TD} {sc : e_TS} {Ψ : e_TI → e_TL → e_TD → Prop}
    (H : e_Wp 21 2 [some (.ref 10), some (.ref 32), some (.int 0)] [] (S0 I L D sc) 0 0 (e_rV sc Ψ)) : e_M 21 [.ref 10, .ref 32] (S0 I L D sc) (e_rV sc Ψ) :=
  e_M_go e_q21 e_k21 [2] 21 (by decide +kernel) rfl rfl (H) (e_h0 rfl)
set_option maxRecDepth 20000 in
theorem vR_copy_10_32_p2 {x2 : Int32} {I : e_TI} {L : e_TL} {D : e_TD} {sc : e_TS} {Ψ : e_TI → e_TL → e_TD → Prop}
    (H : ((2 ≤ x2 → Ψ I L D) ∧ (¬ (2 ≤ x2) → ((2 ≤ x2 → Ψ I L D) ∧ (¬ (2 ≤ x2) → (vp_in x2 2 ∧ (vp_in x2 2 ∧ e_Wp 21 2 [some (.ref 10), some (.ref 32), some (.int (x2 + 1))] [] (S0 (e_up I 32 x2.toNatClampNeg (I 10 x2.toNatClampNeg)) L D sc) 0 0 (e_rV sc Ψ)))))))) : e_Wp 21 2 [some (.ref 10), some (.ref 32), some (.int x2)] [] (S0 I L D sc) 0 0 (e_rV sc Ψ) :=
  e_W_go e_q21 e_k21 [2] 21 2 (And.intro (fun c2 => e_rVi ((H).1 c2)) (fun c2 => And.intro (fun c1 => e_rVi ((((H).2 c2)).1 c1)) (fun c1 => And.intro (((((H).2 c2)).2 c1)).1 (And.intro ((((((H).2 c2)).2 c1)).2).1 (((((((H).2 c2)).2 c1)).2).2)))))
set_option maxRecDepth 20000 in
theorem vR_copy_10_46 {I : e_TI} {L : e_TL} {D : e_TD} {sc : e_TS} {Ψ : e_TI → e_TL → e_TD → Prop}
    (H : e_Wp 21 2 [some (.ref 10), some (.ref 46), some (.int 0)] [] (S0 I L D sc) 0 0 (e_rV sc Ψ)) : e_M 21 [.ref 10, .ref 46] (S0 I L D sc) (e_rV sc Ψ) :=
  e_M_go e_q21 e_k21 [2] 21 (by decide +kernel) rfl rfl (H) (e_h0 rfl)
set_option maxRecDepth 20000 in
theorem vR_copy_10_46_p2 {x2 : Int32} {I : e_TI} {L : e_TL} {D : e_TD} {sc : e_TS} {Ψ : e_TI → e_TL → e_TD → Prop}
    (H : ((2 ≤ x2 → Ψ I L D) ∧ (¬ (2 ≤ x2) → ((2 ≤ x2 → Ψ I L D) ∧ (¬ (2 ≤ x2) → (vp_in x2 2 ∧ (vp_in x2 2 ∧ e_Wp 21 2 [some (.ref 10), some (.ref 46), some (.int (x2 + 1))] [] (S0 (e_up I 46 x2.toNatClampNeg (I 10 x2.toNatClampNeg)) L D sc) 0 0 (e_rV sc Ψ)))))))) : e_Wp 21 2 [some (.ref 10), some (.ref 46), some (.int x2)] [] (S0 I L D sc) 0 0 (e_rV sc Ψ) :=
  e_W_go e_q21 e_k21 [2] 21 2 (And.intro (fun c2 => e_rVi ((H).1 c2)) (fun c2 => And.intro (fun c1 => e_rVi ((((H).2 c2)).1 c1)) (fun c1 => And.intro (((((H).2 c2)).2 c1)).1 (And.intro ((((((H).2 c2)).2 c1)).2).1 (((((((H).2 c2)).2 c1)).2).2)))))
set_option maxRecDepth 20000 in
theorem vR_copy_10_58 {I : e_TI} {L : e_TL} {D : e_TD} {sc : e_TS} {Ψ : e_TI → e_TL → e_TD → Prop}
    (H : e_Wp 21 2 [some (.ref 10), some (.ref 58), some (.int 0)] [] (S0 I L D sc) 0 0 (e_rV sc Ψ)) : e_M 21 [.ref 10, .ref 58] (S0 I L D sc) (e_rV sc Ψ) :=
  e_M_go e_q21 e_k21 [2] 21 (by decide +kernel) rfl rfl (H) (e_h0 rfl)
set_option maxRecDepth 20000 in
theorem vR_copy_10_58_p2 {x2 : Int32} {I : e_TI} {L : e_TL} {D : e_TD} {sc : e_TS} {Ψ : e_TI → e_TL → e_TD → Prop}
    (H : ((2 ≤ x2 → Ψ I L D) ∧ (¬ (2 ≤ x2) → ((2 ≤ x2 → Ψ I L D) ∧ (¬ (2 ≤ x2) → (vp_in x2 2 ∧ (vp_in x2 2 ∧ e_Wp 21 2 [some (.ref 10), some (.ref 58), some (.int (x2 + 1))] [] (S0 (e_up I 58 x2.toNatClampNeg (I 10 x2.toNatClampNeg)) L D sc) 0 0 (e_rV sc Ψ)))))))) : e_Wp 21 2 [some (.ref 10), some (.ref 58), some (.int x2)] [] (S0 I L D sc) 0 0 (e_rV sc Ψ) :=
  e_W_go e_q21 e_k21 [2] 21 2 (And.intro (fun c2 => e_rVi ((H).1 c2)) (fun c2 => And.intro (fun c1 => e_rVi ((((H).2 c2)).1 c1)) (fun c1 => And.intro (((((H).2 c2)).2 c1)).1 (And.intro ((((((H).2 c2)).2 c1)).2).1 (((((((H).2 c2)).2 c1)).2).2)))))
set_option maxRecDepth 20000 in
theorem vR_copy_10_70 {I : e_TI} {L : e_TL} {D : e_TD} {sc : e_TS} {Ψ : e_TI → e_TL → e_TD → Prop}
    (H : e_Wp 21 2 [some (.ref 10), some (.ref 70), some (.int 0)] [] (S0 I L D sc) 0 0 (e_rV sc Ψ)) : e_M 21 [.ref 10, .ref 70] (S0 I L D sc) (e_rV sc Ψ) :=
  e_M_go e_q21 e_k21 [2] 21 (by decide +kernel) rfl rfl (H) (e_h0 rfl)
set_option maxRecDepth 20000 in
theorem vR_copy_10_70_p2 {x2 : Int32} {I : e_TI} {L : e_TL} {D : e_TD} {sc : e_TS} {Ψ : e_TI → e_TL → e_TD → Prop}
    (H : ((2 ≤ x2 → Ψ I L D) ∧ (¬ (2 ≤ x2) → ((2 ≤ x2 → Ψ I L D) ∧ (¬ (2 ≤ x2) → (vp_in x2 2 ∧ (vp_in x2 2 ∧ e_Wp 21 2 [some (.ref 10), some (.ref 70), some (.int (x2 + 1))] [] (S0 (e_up I 70 x2.toNatClampNeg (I 10 x2.toNatClampNeg)) L D sc) 0 0 (e_rV sc Ψ)))))))) : e_Wp 21 2 [some (.ref 10), some (.ref 70), some (.int x2)] [] (S0 I L D sc) 0 0 (e_rV sc Ψ) :=
  e_W_go e_q21 e_k21 [2] 21 2 (And.intro (fun c2 => e_rVi ((H).1 c2)) (fun c2 => And.intro (fun c1 => e_rVi ((((H).2 c2)).1 c1)) (fun c1 => And.intro (((((H).2 c2)).2 c1)).1 (And.intro ((((((H).2 c2)).2 c1)).2).1 (((((((H).2 c2)).2 c1)).2).2)))))
set_option maxRecDepth 20000 in
theorem vR_copy_10_82 {I : e_TI} {L : e_TL} {D : e_TD} {sc : e_TS} {Ψ : e_TI → e_TL → e_TD → Prop}
    (H : e_Wp 21 2 [some (.ref 10), some (.ref 82), some (.int 0)] [] (S0 I L D sc) 0 0 (e_rV sc Ψ)) : e_M 21 [.ref 10, .ref 82] (S0 I L D sc) (e_rV sc Ψ) :=
  e_M_go e_q21 e_k21 [2] 21 (by decide +kernel) rfl rfl (H) (e_h0 rfl)
set_option maxRecDepth 20000 in
theorem vR_copy_10_82_p2 {x2 : Int32} {I : e_TI} {L : e_TL} {D : e_TD} {sc : e_TS} {Ψ : e_TI → e_TL → e_TD → Prop}
    (H : ((2 ≤ x2 → Ψ I L D) ∧ (¬ (2 ≤ x2) → ((2 ≤ x2 → Ψ I L D) ∧ (¬ (2 ≤ x2) → (vp_in x2 2 ∧ (vp_in x2 2 ∧ e_Wp 21 2 [some (.ref 10), some (.ref 82), some (.int (x2 + 1))] [] (S0 (e_up I 82 x2.toNatClampNeg (I 10 x2.toNatClampNeg)) L D sc) 0 0 (e_rV sc Ψ)))))))) : e_Wp 21 2 [some (.ref 10), some (.ref 82), some (.int x2)] [] (S0 I L D sc) 0 0 (e_rV sc Ψ) :=
  e_W_go e_q21 e_k21 [2] 21 2 (And.intro (fun c2 => e_rVi ((H).1 c2)) (fun c2 => And.intro (fun c1 => e_rVi ((((H).2 c2)).1 c1)) (fun c1 => And.intro (((((H).2 c2)).2 c1)).1 (And.intro ((((((H).2 c2)).2 c1)).2).1 (((((((H).2 c2)).2 c1)).2).2)))))
set_option maxRecDepth 20000 in
theorem vR_copy_10_94 {I : e_TI} {L : e_TL} {D : e_TD} {sc : e_TS} {Ψ : e_TI → e_TL → e_TD → Prop}
    (H : e_Wp 21 2 [some (.ref 10), some (.ref 94), some (.int 0)] [] (S0 I L D sc) 0 0 (e_rV sc Ψ)) : e_M 21 [.ref 10, .ref 94] (S0 I L D sc) (e_rV sc Ψ) :=
  e_M_go e_q21 e_k21 [2] 21 (by decide +kernel) rfl rfl (H) (e_h0 rfl)
set_option maxRecDepth 20000 in
theorem vR_copy_10_94_p2 {x2 : Int32} {I : e_TI} {L : e_TL} {D : e_TD} {sc : e_TS} {Ψ : e_TI → e_TL → e_TD → Prop}
    (H : ((2 ≤ x2 → Ψ I L D) ∧ (¬ (2 ≤ x2) → ((2 ≤ x2 → Ψ I L D) ∧ (¬ (2 ≤ x2) → (vp_in x2 2 ∧ (vp_in x2 2 ∧ e_Wp 21 2 [some (.ref 10), some (.ref 94), some (.int (x2 + 1))] [] (S0 (e_up I 94 x2.toNatClampNeg (I 10 x2.toNatClampNeg)) L D sc) 0 0 (e_rV sc Ψ)))))))) : e_Wp 21 2 [some (.ref 10), some (.ref 94), some (.int x2)] [] (S0 I L D sc) 0 0 (e_rV sc Ψ) :=
  e_W_go e_q21 e_k21 [2] 21 2 (And.intro (fun c2 => e_rVi ((H).1 c2)) (fun c2 => And.intro (fun c1 => e_rVi ((((H).2 c2)).1 c1)) (fun c1 => And.intro (((((H).2 c2)).2 c1)).1 (And.intro ((((((H).2 c2)).2 c1)).2).1 (((((((H).2 c2)).2 c1)).2).2)))))
set_option maxRecDepth 20000 in
theorem vR_copy_115_7 {I : e_TI} {L : e_TL} {D : e_TD} {sc : e_TS} {Ψ : e_TI → e_TL → e_TD → Prop}
    (H : e_Wp 21 2 [some (.ref 115), some (.ref 7), some (.int 0)] [] (S0 I L D sc) 0 0 (e_rV sc Ψ)) : e_M 21 [.ref 115, .ref 7] (S0 I L D sc) (e_rV sc Ψ) :=
  e_M_go e_q21 e_k21 [2] 21 (by decide +kernel) rfl rfl (H) (e_h0 rfl)
set_option maxRecDepth 20000 in
theorem vR_copy_115_7_p2 {x2 : Int32} {I : e_TI} {L : e_TL} {D : e_TD} {sc : e_TS} {Ψ : e_TI → e_TL → e_TD → Prop}
    (H : ((16 ≤ x2 → Ψ I L D) ∧ (¬ (16 ≤ x2) → ((16 ≤ x2 → Ψ I L D) ∧ (¬ (16 ≤ x2) → (vp_in x2 16 ∧ (vp_in x2 16 ∧ e_Wp 21 2 [some (.ref 115), some (.ref 7), some (.int (x2 + 1))] [] (S0 (e_up I 7 x2.toNatClampNeg (I 115 x2.toNatClampNeg)) L D sc) 0 0 (e_rV sc Ψ)))))))) : e_Wp 21 2 [some (.ref 115), some (.ref 7), some (.int x2)] [] (S0 I L D sc) 0 0 (e_rV sc Ψ) :=
  e_W_go e_q21 e_k21 [2] 21 2 (And.intro (fun c2 => e_rVi ((H).1 c2)) (fun c2 => And.intro (fun c1 => e_rVi ((((H).2 c2)).1 c1)) (fun c1 => And.intro (((((H).2 c2)).2 c1)).1 (And.intro ((((((H).2 c2)).2 c1)).2).1 (((((((H).2 c2)).2 c1)).2).2)))))
set_option maxRecDepth 20000 in
theorem vR_copy_116_8 {I : e_TI} {L : e_TL} {D : e_TD} {sc : e_TS} {Ψ : e_TI → e_TL → e_TD → Prop}
    (H : e_Wp 21 2 [some (.ref 116), some (.ref 8), some (.int 0)] [] (S0 I L D sc) 0 0 (e_rV sc Ψ)) : e_M 21 [.ref 116, .ref 8] (S0 I L D sc) (e_rV sc Ψ) :=
  e_M_go e_q21 e_k21 [2] 21 (by decide +kernel) rfl rfl (H) (e_h0 rfl)
set_option maxRecDepth 20000 in
theorem vR_copy_116_8_p2 {x2 : Int32} {I : e_TI} {L : e_TL} {D : e_TD} {sc : e_TS} {Ψ : e_TI → e_TL → e_TD → Prop}
    (H : ((16 ≤ x2 → Ψ I L D) ∧ (¬ (16 ≤ x2) → ((16 ≤ x2 → Ψ I L D) ∧ (¬ (16 ≤ x2) → (vp_in x2 16 ∧ (vp_in x2 16 ∧ e_Wp 21 2 [some (.ref 116), some (.ref 8), some (.int (x2 + 1))] [] (S0 (e_up I 8 x2.toNatClampNeg (I 116 x2.toNatClampNeg)) L D sc) 0 0 (e_rV sc Ψ)))))))) : e_Wp 21 2 [some (.ref 116), some (.ref 8), some (.int x2)] [] (S0 I L D sc) 0 0 (e_rV sc Ψ) :=
  e_W_go e_q21 e_k21 [2] 21 2 (And.intro (fun c2 => e_rVi ((H).1 c2)) (fun c2 => And.intro (fun c1 => e_rVi ((((H).2 c2)).1 c1)) (fun c1 => And.intro (((((H).2 c2)).2 c1)).1 (And.intro ((((((H).2 c2)).2 c1)).2).1 (((((((H).2 c2)).2 c1)).2).2)))))
set_option maxRecDepth 20000 in
theorem vR_copy_117_9 {I : e_TI} {L : e_TL} {D : e_TD} {sc : e_TS} {Ψ : e_TI → e_TL → e_TD → Prop}
    (H : e_Wp 21 2 [some (.ref 117), some (.ref 9), some (.int 0)] [] (S0 I L D sc) 0 0 (e_rV sc Ψ)) : e_M 21 [.ref 117, .ref 9] (S0 I L D sc) (e_rV sc Ψ) :=
  e_M_go e_q21 e_k21 [2] 21 (by decide +kernel) rfl rfl (H) (e_h0 rfl)
set_option maxRecDepth 20000 in
theorem vR_copy_117_9_p2 {x2 : Int32} {I : e_TI} {L : e_TL} {D : e_TD} {sc : e_TS} {Ψ : e_TI → e_TL → e_TD → Prop}
    (H : ((16 ≤ x2 → Ψ I L D) ∧ (¬ (16 ≤ x2) → ((16 ≤ x2 → Ψ I L D) ∧ (¬ (16 ≤ x2) → (vp_in x2 16 ∧ (vp_in x2 16 ∧ e_Wp 21 2 [some (.ref 117), some (.ref 9), some (.int (x2 + 1))] [] (S0 (e_up I 9 x2.toNatClampNeg (I 117 x2.toNatClampNeg)) L D sc) 0 0 (e_rV sc Ψ)))))))) : e_Wp 21 2 [some (.ref 117), some (.ref 9), some (.int x2)] [] (S0 I L D sc) 0 0 (e_rV sc Ψ) :=
  e_W_go e_q21 e_k21 [2] 21 2 (And.intro (fun c2 => e_rVi ((H).1 c2)) (fun c2 => And.intro (fun c1 => e_rVi ((((H).2 c2)).1 c1)) (fun c1 => And.intro (((((H).2 c2)).2 c1)).1 (And.intro ((((((H).2 c2)).2 c1)).2).1 (((((((H).2 c2)).2 c1)).2).2)))))
set_option maxRecDepth 20000 in
theorem vR_copy_118_10 {I : e_TI} {L : e_TL} {D : e_TD} {sc : e_TS} {Ψ : e_TI → e_TL → e_TD → Prop}
    (H : e_Wp 21 2 [some (.ref 118), some (.ref 10), some (.int 0)] [] (S0 I L D sc) 0 0 (e_rV sc Ψ)) : e_M 21 [.ref 118, .ref 10] (S0 I L D sc) (e_rV sc Ψ) :=
  e_M_go e_q21 e_k21 [2] 21 (by decide +kernel) rfl rfl (H) (e_h0 rfl)
set_option maxRecDepth 20000 in
theorem vR_copy_118_10_p2 {x2 : Int32} {I : e_TI} {L : e_TL} {D : e_TD} {sc : e_TS} {Ψ : e_TI → e_TL → e_TD → Prop}
    (H : ((2 ≤ x2 → Ψ I L D) ∧ (¬ (2 ≤ x2) → ((2 ≤ x2 → Ψ I L D) ∧ (¬ (2 ≤ x2) → (vp_in x2 2 ∧ (vp_in x2 2 ∧ e_Wp 21 2 [some (.ref 118), some (.ref 10), some (.int (x2 + 1))] [] (S0 (e_up I 10 x2.toNatClampNeg (I 118 x2.toNatClampNeg)) L D sc) 0 0 (e_rV sc Ψ)))))))) : e_Wp 21 2 [some (.ref 118), some (.ref 10), some (.int x2)] [] (S0 I L D sc) 0 0 (e_rV sc Ψ) :=
  e_W_go e_q21 e_k21 [2] 21 2 (And.intro (fun c2 => e_rVi ((H).1 c2)) (fun c2 => And.intro (fun c1 => e_rVi ((((H).2 c2)).1 c1)) (fun c1 => And.intro (((((H).2 c2)).2 c1)).1 (And.intro ((((((H).2 c2)).2 c1)).2).1 (((((((H).2 c2)).2 c1)).2).2)))))
set_option maxRecDepth 20000 in
theorem vR_copy_119_11 {I : e_TI} {L : e_TL} {D : e_TD} {sc : e_TS} {Ψ : e_TI → e_TL → e_TD → Prop}
    (H : e_Wp 21 2 [some (.ref 119), some (.ref 11), some (.int 0)] [] (S0 I L D sc) 0 0 (e_rV sc Ψ)) : e_M 21 [.ref 119, .ref 11] (S0 I L D sc) (e_rV sc Ψ) :=
  e_M_go e_q21 e_k21 [2] 21 (by decide +kernel) rfl rfl (H) (e_h0 rfl)
set_option maxRecDepth 20000 in
theorem vR_copy_119_11_p2 {x2 : Int32} {I : e_TI} {L : e_TL} {D : e_TD} {sc : e_TS} {Ψ : e_TI → e_TL → e_TD → Prop}
    (H : ((2 ≤ x2 → Ψ I L D) ∧ (¬ (2 ≤ x2) → ((2 ≤ x2 → Ψ I L D) ∧ (¬ (2 ≤ x2) → (vp_in x2 2 ∧ (vp_in x2 2 ∧ e_Wp 21 2 [some (.ref 119), some (.ref 11), some (.int (x2 + 1))] [] (S0 (e_up I 11 x2.toNatClampNeg (I 119 x2.toNatClampNeg)) L D sc) 0 0 (e_rV sc Ψ)))))))) : e_Wp 21 2 [some (.ref 119), some (.ref 11), some (.int x2)] [] (S0 I L D sc) 0 0 (e_rV sc Ψ) :=
  e_W_go e_q21 e_k21 [2] 21 2 (And.intro (fun c2 => e_rVi ((H).1 c2)) (fun c2 => And.intro (fun c1 => e_rVi ((((H).2 c2)).1 c1)) (fun c1 => And.intro (((((H).2 c2)).2 c1)).1 (And.intro ((((((H).2 c2)).2 c1)).2).1 (((((((H).2 c2)).2 c1)).2).2)))))
set_option maxRecDepth 20000 in
theorem vR_copy_11_107 {I : e_TI} {L : e_TL} {D : e_TD} {sc : e_TS} {Ψ : e_TI → e_TL → e_TD → Prop}
    (H : e_Wp 21 2 [some (.ref 11), some (.ref 107), some (.int 0)] [] (S0 I L D sc) 0 0 (e_rV sc Ψ)) : e_M 21 [.ref 11, .ref 107] (S0 I L D sc) (e_rV sc Ψ) :=
  e_M_go e_q21 e_k21 [2] 21 (by decide +kernel) rfl rfl (H) (e_h0 rfl)
set_option maxRecDepth 20000 in
theorem vR_copy_11_107_p2 {x2 : Int32} {I : e_TI} {L : e_TL} {D : e_TD} {sc : e_TS} {Ψ : e_TI → e_TL → e_TD → Prop}
    (H : ((2 ≤ x2 → Ψ I L D) ∧ (¬ (2 ≤ x2) → ((2 ≤ x2 → Ψ I L D) ∧ (¬ (2 ≤ x2) → (vp_in x2 2 ∧ (vp_in x2 2 ∧ e_Wp 21 2 [some (.ref 11), some (.ref 107), some (.int (x2 + 1))] [] (S0 (e_up I 107 x2.toNatClampNeg (I 11 x2.toNatClampNeg)) L D sc) 0 0 (e_rV sc Ψ)))))))) : e_Wp 21 2 [some (.ref 11), some (.ref 107), some (.int x2)] [] (S0 I L D sc) 0 0 (e_rV sc Ψ) :=
  e_W_go e_q21 e_k21 [2] 21 2 (And.intro (fun c2 => e_rVi ((H).1 c2)) (fun c2 => And.intro (fun c1 => e_rVi ((((H).2 c2)).1 c1)) (fun c1 => And.intro (((((H).2 c2)).2 c1)).1 (And.intro ((((((H).2 c2)).2 c1)).2).1 (((((((H).2 c2)).2 c1)).2).2)))))
set_option maxRecDepth 20000 in
theorem vR_copy_11_119 {I : e_TI} {L : e_TL} {D : e_TD} {sc : e_TS} {Ψ : e_TI → e_TL → e_TD → Prop}
    (H : e_Wp 21 2 [some (.ref 11), some (.ref 119), some (.int 0)] [] (S0 I L D sc) 0 0 (e_rV sc Ψ)) : e_M 21 [.ref 11, .ref 119] (S0 I L D sc) (e_rV sc Ψ) :=
  e_M_go e_q21 e_k21 [2] 21 (by decide +kernel) rfl rfl (H) (e_h0 rfl)
set_option maxRecDepth 20000 in
theorem vR_copy_11_119_p2 {x2 : Int32} {I : e_TI} {L : e_TL} {D : e_TD} {sc : e_TS} {Ψ : e_TI → e_TL → e_TD → Prop}
    (H : ((2 ≤ x2 → Ψ I L D) ∧ (¬ (2 ≤ x2) → ((2 ≤ x2 → Ψ I L D) ∧ (¬ (2 ≤ x2) → (vp_in x2 2 ∧ (vp_in x2 2 ∧ e_Wp 21 2 [some (.ref 11), some (.ref 119), some (.int (x2 + 1))] [] (S0 (e_up I 119 x2.toNatClampNeg (I 11 x2.toNatClampNeg)) L D sc) 0 0 (e_rV sc Ψ)))))))) : e_Wp 21 2 [some (.ref 11), some (.ref 119), some (.int x2)] [] (S0 I L D sc) 0 0 (e_rV sc Ψ) :=
  e_W_go e_q21 e_k21 [2] 21 2 (And.intro (fun c2 => e_rVi ((H).1 c2)) (fun c2 => And.intro (fun c1 => e_rVi ((((H).2 c2)).1 c1)) (fun c1 => And.intro (((((H).2 c2)).2 c1)).1 (And.intro ((((((H).2 c2)).2 c1)).2).1 (((((((H).2 c2)).2 c1)).2).2)))))
set_option maxRecDepth 20000 in
theorem vR_copy_11_131 {I : e_TI} {L : e_TL} {D : e_TD} {sc : e_TS} {Ψ : e_TI → e_TL → e_TD → Prop}
    (H : e_Wp 21 2 [some (.ref 11), some (.ref 131), some (.int 0)] [] (S0 I L D sc) 0 0 (e_rV sc Ψ)) : e_M 21 [.ref 11, .ref 131] (S0 I L D sc) (e_rV sc Ψ) :=
  e_M_go e_q21 e_k21 [2] 21 (by decide +kernel) rfl rfl (H) (e_h0 rfl)
set_option maxRecDepth 20000 in
theorem vR_copy_11_131_p2 {x2 : Int32} {I : e_TI} {L : e_TL} {D : e_TD} {sc : e_TS} {Ψ : e_TI → e_TL → e_TD → Prop}
    (H : ((2 ≤ x2 → Ψ I L D) ∧ (¬ (2 ≤ x2) → ((2 ≤ x2 → Ψ I L D) ∧ (¬ (2 ≤ x2) → (vp_in x2 2 ∧ (vp_in x2 2 ∧ e_Wp 21 2 [some (.ref 11), some (.ref 131), some (.int (x2 + 1))] [] (S0 (e_up I 131 x2.toNatClampNeg (I 11 x2.toNatClampNeg)) L D sc) 0 0 (e_rV sc Ψ)))))))) : e_Wp 21 2 [some (.ref 11), some (.ref 131), some (.int x2)] [] (S0 I L D sc) 0 0 (e_rV sc Ψ) :=
  e_W_go e_q21 e_k21 [2] 21 2 (And.intro (fun c2 => e_rVi ((H).1 c2)) (fun c2 => And.intro (fun c1 => e_rVi ((((H).2 c2)).1 c1)) (fun c1 => And.intro (((((H).2 c2)).2 c1)).1 (And.intro ((((((H).2 c2)).2 c1)).2).1 (((((((H).2 c2)).2 c1)).2).2)))))
set_option maxRecDepth 20000 in
theorem vR_copy_11_33 {I : e_TI} {L : e_TL} {D : e_TD} {sc : e_TS} {Ψ : e_TI → e_TL → e_TD → Prop}
    (H : e_Wp 21 2 [some (.ref 11), some (.ref 33), some (.int 0)] [] (S0 I L D sc) 0 0 (e_rV sc Ψ)) : e_M 21 [.ref 11, .ref 33] (S0 I L D sc) (e_rV sc Ψ) :=
  e_M_go e_q21 e_k21 [2] 21 (by decide +kernel) rfl rfl (H) (e_h0 rfl)
set_option maxRecDepth 20000 in
theorem vR_copy_11_33_p2 {x2 : Int32} {I : e_TI} {L : e_TL} {D : e_TD} {sc : e_TS} {Ψ : e_TI → e_TL → e_TD → Prop}
    (H : ((2 ≤ x2 → Ψ I L D) ∧ (¬ (2 ≤ x2) → ((2 ≤ x2 → Ψ I L D) ∧ (¬ (2 ≤ x2) → (vp_in x2 2 ∧ (vp_in x2 2 ∧ e_Wp 21 2 [some (.ref 11), some (.ref 33), some (.int (x2 + 1))] [] (S0 (e_up I 33 x2.toNatClampNeg (I 11 x2.toNatClampNeg)) L D sc) 0 0 (e_rV sc Ψ)))))))) : e_Wp 21 2 [some (.ref 11), some (.ref 33), some (.int x2)] [] (S0 I L D sc) 0 0 (e_rV sc Ψ) :=
  e_W_go e_q21 e_k21 [2] 21 2 (And.intro (fun c2 => e_rVi ((H).1 c2)) (fun c2 => And.intro (fun c1 => e_rVi ((((H).2 c2)).1 c1)) (fun c1 => And.intro (((((H).2 c2)).2 c1)).1 (And.intro ((((((H).2 c2)).2 c1)).2).1 (((((((H).2 c2)).2 c1)).2).2)))))
set_option maxRecDepth 20000 in
theorem vR_copy_11_47 {I : e_TI} {L : e_TL} {D : e_TD} {sc : e_TS} {Ψ : e_TI → e_TL → e_TD → Prop}
    (H : e_Wp 21 2 [some (.ref 11), some (.ref 47), some (.int 0)] [] (S0 I L D sc) 0 0 (e_rV sc Ψ)) : e_M 21 [.ref 11, .ref 47] (S0 I L D sc) (e_rV sc Ψ) :=
  e_M_go e_q21 e_k21 [2] 21 (by decide +kernel) rfl rfl (H) (e_h0 rfl)
set_option maxRecDepth 20000 in
theorem vR_copy_11_47_p2 {x2 : Int32} {I : e_TI} {L : e_TL} {D : e_TD} {sc : e_TS} {Ψ : e_TI → e_TL → e_TD → Prop}
    (H : ((2 ≤ x2 → Ψ I L D) ∧ (¬ (2 ≤ x2) → ((2 ≤ x2 → Ψ I L D) ∧ (¬ (2 ≤ x2) → (vp_in x2 2 ∧ (vp_in x2 2 ∧ e_Wp 21 2 [some (.ref 11), some (.ref 47), some (.int (x2 + 1))] [] (S0 (e_up I 47 x2.toNatClampNeg (I 11 x2.toNatClampNeg)) L D sc) 0 0 (e_rV sc Ψ)))))))) : e_Wp 21 2 [some (.ref 11), some (.ref 47), some (.int x2)] [] (S0 I L D sc) 0 0 (e_rV sc Ψ) :=
  e_W_go e_q21 e_k21 [2] 21 2 (And.intro (fun c2 => e_rVi ((H).1 c2)) (fun c2 => And.intro (fun c1 => e_rVi ((((H).2 c2)).1 c1)) (fun c1 => And.intro (((((H).2 c2)).2 c1)).1 (And.intro ((((((H).2 c2)).2 c1)).2).1 (((((((H).2 c2)).2 c1)).2).2)))))
set_option maxRecDepth 20000 in
theorem vR_copy_11_59 {I : e_TI} {L : e_TL} {D : e_TD} {sc : e_TS} {Ψ : e_TI → e_TL → e_TD → Prop}
    (H : e_Wp 21 2 [some (.ref 11), some (.ref 59), some (.int 0)] [] (S0 I L D sc) 0 0 (e_rV sc Ψ)) : e_M 21 [.ref 11, .ref 59] (S0 I L D sc) (e_rV sc Ψ) :=
  e_M_go e_q21 e_k21 [2] 21 (by decide +kernel) rfl rfl (H) (e_h0 rfl)
set_option maxRecDepth 20000 in
theorem vR_copy_11_59_p2 {x2 : Int32} {I : e_TI} {L : e_TL} {D : e_TD} {sc : e_TS} {Ψ : e_TI → e_TL → e_TD → Prop}
    (H : ((2 ≤ x2 → Ψ I L D) ∧ (¬ (2 ≤ x2) → ((2 ≤ x2 → Ψ I L D) ∧ (¬ (2 ≤ x2) → (vp_in x2 2 ∧ (vp_in x2 2 ∧ e_Wp 21 2 [some (.ref 11), some (.ref 59), some (.int (x2 + 1))] [] (S0 (e_up I 59 x2.toNatClampNeg (I 11 x2.toNatClampNeg)) L D sc) 0 0 (e_rV sc Ψ)))))))) : e_Wp 21 2 [some (.ref 11), some (.ref 59), some (.int x2)] [] (S0 I L D sc) 0 0 (e_rV sc Ψ) :=
  e_W_go e_q21 e_k21 [2] 21 2 (And.intro (fun c2 => e_rVi ((H).1 c2)) (fun c2 => And.intro (fun c1 => e_rVi ((((H).2 c2)).1 c1)) (fun c1 => And.intro (((((H).2 c2)).2 c1)).1 (And.intro ((((((H).2 c2)).2 c1)).2).1 (((((((H).2 c2)).2 c1)).2).2)))))
set_option maxRecDepth 20000 in
theorem vR_copy_11_71 {I : e_TI} {L : e_TL} {D : e_TD} {sc : e_TS} {Ψ : e_TI → e_TL → e_TD → Prop}
    (H : e_Wp 21 2 [some (.ref 11), some (.ref 71), some (.int 0)] [] (S0 I L D sc) 0 0 (e_rV sc Ψ)) : e_M 21 [.ref 11, .ref 71] (S0 I L D sc) (e_rV sc Ψ) :=
  e_M_go e_q21 e_k21 [2] 21 (by decide +kernel) rfl rfl (H) (e_h0 rfl)
set_option maxRecDepth 20000 in
theorem vR_copy_11_71_p2 {x2 : Int32} {I : e_TI} {L : e_TL} {D : e_TD} {sc : e_TS} {Ψ : e_TI → e_TL → e_TD → Prop}
    (H : ((2 ≤ x2 → Ψ I L D) ∧ (¬ (2 ≤ x2) → ((2 ≤ x2 → Ψ I L D) ∧ (¬ (2 ≤ x2) → (vp_in x2 2 ∧ (vp_in x2 2 ∧ e_Wp 21 2 [some (.ref 11), some (.ref 71), some (.int (x2 + 1))] [] (S0 (e_up I 71 x2.toNatClampNeg (I 11 x2.toNatClampNeg)) L D sc) 0 0 (e_rV sc Ψ)))))))) : e_Wp 21 2 [some (.ref 11), some (.ref 71), some (.int x2)] [] (S0 I L D sc) 0 0 (e_rV sc Ψ) :=
  e_W_go e_q21 e_k21 [2] 21 2 (And.intro (fun c2 => e_rVi ((H).1 c2)) (fun c2 => And.intro (fun c1 => e_rVi ((((H).2 c2)).1 c1)) (fun c1 => And.intro (((((H).2 c2)).2 c1)).1 (And.intro ((((((H).2 c2)).2 c1)).2).1 (((((((H).2 c2)).2 c1)).2).2)))))
set_option maxRecDepth 20000 in
theorem vR_copy_11_83 {I : e_TI} {L : e_TL} {D : e_TD} {sc : e_TS} {Ψ : e_TI → e_TL → e_TD → Prop}
    (H : e_Wp 21 2 [some (.ref 11), some (.ref 83), some (.int 0)] [] (S0 I L D sc) 0 0 (e_rV sc Ψ)) : e_M 21 [.ref 11, .ref 83] (S0 I L D sc) (e_rV sc Ψ) :=
  e_M_go e_q21 e_k21 [2] 21 (by decide +kernel) rfl rfl (H) (e_h0 rfl)
set_option maxRecDepth 20000 in
theorem vR_copy_11_83_p2 {x2 : Int32} {I : e_TI} {L : e_TL} {D : e_TD} {sc : e_TS} {Ψ : e_TI → e_TL → e_TD → Prop}
    (H : ((2 ≤ x2 → Ψ I L D) ∧ (¬ (2 ≤ x2) → ((2 ≤ x2 → Ψ I L D) ∧ (¬ (2 ≤ x2) → (vp_in x2 2 ∧ (vp_in x2 2 ∧ e_Wp 21 2 [some (.ref 11), some (.ref 83), some (.int (x2 + 1))] [] (S0 (e_up I 83 x2.toNatClampNeg (I 11 x2.toNatClampNeg)) L D sc) 0 0 (e_rV sc Ψ)))))))) : e_Wp 21 2 [some (.ref 11), some (.ref 83), some (.int x2)] [] (S0 I L D sc) 0 0 (e_rV sc Ψ) :=
  e_W_go e_q21 e_k21 [2] 21 2 (And.intro (fun c2 => e_rVi ((H).1 c2)) (fun c2 => And.intro (fun c1 => e_rVi ((((H).2 c2)).1 c1)) (fun c1 => And.intro (((((H).2 c2)).2 c1)).1 (And.intro ((((((H).2 c2)).2 c1)).2).1 (((((((H).2 c2)).2 c1)).2).2)))))
set_option maxRecDepth 20000 in
theorem vR_copy_11_95 {I : e_TI} {L : e_TL} {D : e_TD} {sc : e_TS} {Ψ : e_TI → e_TL → e_TD → Prop}
    (H : e_Wp 21 2 [some (.ref 11), some (.ref 95), some (.int 0)] [] (S0 I L D sc) 0 0 (e_rV sc Ψ)) : e_M 21 [.ref 11, .ref 95] (S0 I L D sc) (e_rV sc Ψ) :=
  e_M_go e_q21 e_k21 [2] 21 (by decide +kernel) rfl rfl (H) (e_h0 rfl)
set_option maxRecDepth 20000 in
theorem vR_copy_11_95_p2 {x2 : Int32} {I : e_TI} {L : e_TL} {D : e_TD} {sc : e_TS} {Ψ : e_TI → e_TL → e_TD → Prop}
    (H : ((2 ≤ x2 → Ψ I L D) ∧ (¬ (2 ≤ x2) → ((2 ≤ x2 → Ψ I L D) ∧ (¬ (2 ≤ x2) → (vp_in x2 2 ∧ (vp_in x2 2 ∧ e_Wp 21 2 [some (.ref 11), some (.ref 95), some (.int (x2 + 1))] [] (S0 (e_up I 95 x2.toNatClampNeg (I 11 x2.toNatClampNeg)) L D sc) 0 0 (e_rV sc Ψ)))))))) : e_Wp 21 2 [some (.ref 11), some (.ref 95), some (.int x2)] [] (S0 I L D sc) 0 0 (e_rV sc Ψ) :=
  e_W_go e_q21 e_k21 [2] 21 2 (And.intro (fun c2 => e_rVi ((H).1 c2)) (fun c2 => And.intro (fun c1 => e_rVi ((((H).2 c2)).1 c1)) (fun c1 => And.intro (((((H).2 c2)).2 c1)).1 (And.intro ((((((H).2 c2)).2 c1)).2).1 (((((((H).2 c2)).2 c1)).2).2)))))
set_option maxRecDepth 20000 in
theorem vR_copy_120_12 {I : e_TI} {L : e_TL} {D : e_TD} {sc : e_TS} {Ψ : e_TI → e_TL → e_TD → Prop}
    (H : e_Wp 21 2 [some (.ref 120), some (.ref 12), some (.int 0)] [] (S0 I L D sc) 0 0 (e_rV sc Ψ)) : e_M 21 [.ref 120, .ref 12] (S0 I L D sc) (e_rV sc Ψ) :=
  e_M_go e_q21 e_k21 [2] 21 (by decide +kernel) rfl rfl (H) (e_h0 rfl)
set_option maxRecDepth 20000 in
theorem vR_copy_120_12_p2 {x2 : Int32} {I : e_TI} {L : e_TL} {D : e_TD} {sc : e_TS} {Ψ : e_TI → e_TL → e_TD → Prop}
    (H : ((2 ≤ x2 → Ψ I L D) ∧ (¬ (2 ≤ x2) → ((2 ≤ x2 → Ψ I L D) ∧ (¬ (2 ≤ x2) → (vp_in x2 2 ∧ (vp_in x2 2 ∧ e_Wp 21 2 [some (.ref 120), some (.ref 12), some (.int (x2 + 1))] [] (S0 (e_up I 12 x2.toNatClampNeg (I 120 x2.toNatClampNeg)) L D sc) 0 0 (e_rV sc Ψ)))))))) : e_Wp 21 2 [some (.ref 120), some (.ref 12), some (.int x2)] [] (S0 I L D sc) 0 0 (e_rV sc Ψ) :=
  e_W_go e_q21 e_k21 [2] 21 2 (And.intro (fun c2 => e_rVi ((H).1 c2)) (fun c2 => And.intro (fun c1 => e_rVi ((((H).2 c2)).1 c1)) (fun c1 => And.intro (((((H).2 c2)).2 c1)).1 (And.intro ((((((H).2 c2)).2 c1)).2).1 (((((((H).2 c2)).2 c1)).2).2)))))
set_option maxRecDepth 20000 in
theorem vR_copy_121_13 {I : e_TI} {L : e_TL} {D : e_TD} {sc : e_TS} {Ψ : e_TI → e_TL → e_TD → Prop}
    (H : e_Wp 21 2 [some (.ref 121), some (.ref 13), some (.int 0)] [] (S0 I L D sc) 0 0 (e_rV sc Ψ)) : e_M 21 [.ref 121, .ref 13] (S0 I L D sc) (e_rV sc Ψ) :=
  e_M_go e_q21 e_k21 [2] 21 (by decide +kernel) rfl rfl (H) (e_h0 rfl)
set_option maxRecDepth 20000 in
theorem vR_copy_121_13_p2 {x2 : Int32} {I : e_TI} {L : e_TL} {D : e_TD} {sc : e_TS} {Ψ : e_TI → e_TL → e_TD → Prop}
    (H : ((2 ≤ x2 → Ψ I L D) ∧ (¬ (2 ≤ x2) → ((2 ≤ x2 → Ψ I L D) ∧ (¬ (2 ≤ x2) → (vp_in x2 2 ∧ (vp_in x2 2 ∧ e_Wp 21 2 [some (.ref 121), some (.ref 13), some (.int (x2 + 1))] [] (S0 (e_up I 13 x2.toNatClampNeg (I 121 x2.toNatClampNeg)) L D sc) 0 0 (e_rV sc Ψ)))))))) : e_Wp 21 2 [some (.ref 121), some (.ref 13), some (.int x2)] [] (S0 I L D sc) 0 0 (e_rV sc Ψ) :=
  e_W_go e_q21 e_k21 [2] 21 2 (And.intro (fun c2 => e_rVi ((H).1 c2)) (fun c2 => And.intro (fun c1 => e_rVi ((((H).2 c2)).1 c1)) (fun c1 => And.intro (((((H).2 c2)).2 c1)).1 (And.intro ((((((H).2 c2)).2 c1)).2).1 (((((((H).2 c2)).2 c1)).2).2)))))
set_option maxRecDepth 20000 in
theorem vR_copy_127_7 {I : e_TI} {L : e_TL} {D : e_TD} {sc : e_TS} {Ψ : e_TI → e_TL → e_TD → Prop}
    (H : e_Wp 21 2 [some (.ref 127), some (.ref 7), some (.int 0)] [] (S0 I L D sc) 0 0 (e_rV sc Ψ)) : e_M 21 [.ref 127, .ref 7] (S0 I L D sc) (e_rV sc Ψ) :=
  e_M_go e_q21 e_k21 [2] 21 (by decide +kernel) rfl rfl (H) (e_h0 rfl)
set_option maxRecDepth 20000 in
theorem vR_copy_127_7_p2 {x2 : Int32} {I : e_TI} {L : e_TL} {D : e_TD} {sc : e_TS} {Ψ : e_TI → e_TL → e_TD → Prop}
    (H : ((16 ≤ x2 → Ψ I L D) ∧ (¬ (16 ≤ x2) → ((16 ≤ x2 → Ψ I L D) ∧ (¬ (16 ≤ x2) → (vp_in x2 16 ∧ (vp_in x2 16 ∧ e_Wp 21 2 [some (.ref 127), some (.ref 7), some (.int (x2 + 1))] [] (S0 (e_up I 7 x2.toNatClampNeg (I 127 x2.toNatClampNeg)) L D sc) 0 0 (e_rV sc Ψ)))))))) : e_Wp 21 2 [some (.ref 127), some (.ref 7), some (.int x2)] [] (S0 I L D sc) 0 0 (e_rV sc Ψ) :=
  e_W_go e_q21 e_k21 [2] 21 2 (And.intro (fun c2 => e_rVi ((H).1 c2)) (fun c2 => And.intro (fun c1 => e_rVi ((((H).2 c2)).1 c1)) (fun c1 => And.intro (((((H).2 c2)).2 c1)).1 (And.intro ((((((H).2 c2)).2 c1)).2).1 (((((((H).2 c2)).2 c1)).2).2)))))
set_option maxRecDepth 20000 in
theorem vR_copy_128_8 {I : e_TI} {L : e_TL} {D : e_TD} {sc : e_TS} {Ψ : e_TI → e_TL → e_TD → Prop}
    (H : e_Wp 21 2 [some (.ref 128), some (.ref 8), some (.int 0)] [] (S0 I L D sc) 0 0 (e_rV sc Ψ)) : e_M 21 [.ref 128, .ref 8] (S0 I L D sc) (e_rV sc Ψ) :=
  e_M_go e_q21 e_k21 [2] 21 (by decide +kernel) rfl rfl (H) (e_h0 rfl)
set_option maxRecDepth 20000 in
theorem vR_copy_128_8_p2 {x2 : Int32} {I : e_TI} {L : e_TL} {D : e_TD} {sc : e_TS} {Ψ : e_TI → e_TL → e_TD → Prop}
    (H : ((16 ≤ x2 → Ψ I L D) ∧ (¬ (16 ≤ x2) → ((16 ≤ x2 → Ψ I L D) ∧ (¬ (16 ≤ x2) → (vp_in x2 16 ∧ (vp_in x2 16 ∧ e_Wp 21 2 [some (.ref 128), some (.ref 8), some (.int (x2 + 1))] [] (S0 (e_up I 8 x2.toNatClampNeg (I 128 x2.toNatClampNeg)) L D sc) 0 0 (e_rV sc Ψ)))))))) : e_Wp 21 2 [some (.ref 128), some (.ref 8), some (.int x2)] [] (S0 I L D sc) 0 0 (e_rV sc Ψ) :=
  e_W_go e_q21 e_k21 [2] 21 2 (And.intro (fun c2 => e_rVi ((H).1 c2)) (fun c2 => And.intro (fun c1 => e_rVi ((((H).2 c2)).1 c1)) (fun c1 => And.intro (((((H).2 c2)).2 c1)).1 (And.intro ((((((H).2 c2)).2 c1)).2).1 (((((((H).2 c2)).2 c1)).2).2)))))
set_option maxRecDepth 20000 in
theorem vR_copy_129_9 {I : e_TI} {L : e_TL} {D : e_TD} {sc : e_TS} {Ψ : e_TI → e_TL → e_TD → Prop}
    (H : e_Wp 21 2 [some (.ref 129), some (.ref 9), some (.int 0)] [] (S0 I L D sc) 0 0 (e_rV sc Ψ)) : e_M 21 [.ref 129, .ref 9] (S0 I L D sc) (e_rV sc Ψ) :=
  e_M_go e_q21 e_k21 [2] 21 (by decide +kernel) rfl rfl (H) (e_h0 rfl)
set_option maxRecDepth 20000 in
theorem vR_copy_129_9_p2 {x2 : Int32} {I : e_TI} {L : e_TL} {D : e_TD} {sc : e_TS} {Ψ : e_TI → e_TL → e_TD → Prop}
    (H : ((16 ≤ x2 → Ψ I L D) ∧ (¬ (16 ≤ x2) → ((16 ≤ x2 → Ψ I L D) ∧ (¬ (16 ≤ x2) → (vp_in x2 16 ∧ (vp_in x2 16 ∧ e_Wp 21 2 [some (.ref 129), some (.ref 9), some (.int (x2 + 1))] [] (S0 (e_up I 9 x2.toNatClampNeg (I 129 x2.toNatClampNeg)) L D sc) 0 0 (e_rV sc Ψ)))))))) : e_Wp 21 2 [some (.ref 129), some (.ref 9), some (.int x2)] [] (S0 I L D sc) 0 0 (e_rV sc Ψ) :=
  e_W_go e_q21 e_k21 [2] 21 2 (And.intro (fun c2 => e_rVi ((H).1 c2)) (fun c2 => And.intro (fun c1 => e_rVi ((((H).2 c2)).1 c1)) (fun c1 => And.intro (((((H).2 c2)).2 c1)).1 (And.intro ((((((H).2 c2)).2 c1)).2).1 (((((((H).2 c2)).2 c1)).2).2)))))
set_option maxRecDepth 20000 in
theorem vR_copy_12_108 {I : e_TI} {L : e_TL} {D : e_TD} {sc : e_TS} {Ψ : e_TI → e_TL → e_TD → Prop}
    (H : e_Wp 21 2 [some (.ref 12), some (.ref 108), some (.int 0)] [] (S0 I L D sc) 0 0 (e_rV sc Ψ)) : e_M 21 [.ref 12, .ref 108] (S0 I L D sc) (e_rV sc Ψ) :=
  e_M_go e_q21 e_k21 [2] 21 (by decide +kernel) rfl rfl (H) (e_h0 rfl)
set_option maxRecDepth 20000 in
theorem vR_copy_12_108_p2 {x2 : Int32} {I : e_TI} {L : e_TL} {D : e_TD} {sc : e_TS} {Ψ : e_TI → e_TL → e_TD → Prop}
    (H : ((2 ≤ x2 → Ψ I L D) ∧ (¬ (2 ≤ x2) → ((2 ≤ x2 → Ψ I L D) ∧ (¬ (2 ≤ x2) → (vp_in x2 2 ∧ (vp_in x2 2 ∧ e_Wp 21 2 [some (.ref 12), some (.ref 108), some (.int (x2 + 1))] [] (S0 (e_up I 108 x2.toNatClampNeg (I 12 x2.toNatClampNeg)) L D sc) 0 0 (e_rV sc Ψ)))))))) : e_Wp 21 2 [some (.ref 12), some (.ref 108), some (.int x2)] [] (S0 I L D sc) 0 0 (e_rV sc Ψ) :=
  e_W_go e_q21 e_k21 [2] 21 2 (And.intro (fun c2 => e_rVi ((H).1 c2)) (fun c2 => And.intro (fun c1 => e_rVi ((((H).2 c2)).1 c1)) (fun c1 => And.intro (((((H).2 c2)).2 c1)).1 (And.intro ((((((H).2 c2)).2 c1)).2).1 (((((((H).2 c2)).2 c1)).2).2)))))
set_option maxRecDepth 20000 in
theorem vR_copy_12_120 {I : e_TI} {L : e_TL} {D : e_TD} {sc : e_TS} {Ψ : e_TI → e_TL → e_TD → Prop}
    (H : e_Wp 21 2 [some (.ref 12), some (.ref 120), some (.int 0)] [] (S0 I L D sc) 0 0 (e_rV sc Ψ)) : e_M 21 [.ref 12, .ref 120] (S0 I L D sc) (e_rV sc Ψ) :=
  e_M_go e_q21 e_k21 [2] 21 (by decide +kernel) rfl rfl (H) (e_h0 rfl)
set_option maxRecDepth 20000 in
theorem vR_copy_12_120_p2 {x2 : Int32} {I : e_TI} {L : e_TL} {D : e_TD} {sc : e_TS} {Ψ : e_TI → e_TL → e_TD → Prop}
    (H : ((2 ≤ x2 → Ψ I L D) ∧ (¬ (2 ≤ x2) → ((2 ≤ x2 → Ψ I L D) ∧ (¬ (2 ≤ x2) → (vp_in x2 2 ∧ (vp_in x2 2 ∧ e_Wp 21 2 [some (.ref 12), some (.ref 120), some (.int (x2 + 1))] [] (S0 (e_up I 120 x2.toNatClampNeg (I 12 x2.toNatClampNeg)) L D sc) 0 0 (e_rV sc Ψ)))))))) : e_Wp 21 2 [some (.ref 12), some (.ref 120), some (.int x2)] [] (S0 I L D sc) 0 0 (e_rV sc Ψ) :=
  e_W_go e_q21 e_k21 [2] 21 2 (And.intro (fun c2 => e_rVi ((H).1 c2)) (fun c2 => And.intro (fun c1 => e_rVi ((((H).2 c2)).1 c1)) (fun c1 => And.intro (((((H).2 c2)).2 c1)).1 (And.intro ((((((H).2 c2)).2 c1)).2).1 (((((((H).2 c2)).2 c1)).2).2)))))
set_option maxRecDepth 20000 in
theorem vR_copy_12_132 {I : e_TI} {L : e_TL} {D : e_TD} {sc : e_TS} {Ψ : e_TI → e_TL → e_TD → Prop}
    (H : e_Wp 21 2 [some (.ref 12), some (.ref 132), some (.int 0)] [] (S0 I L D sc) 0 0 (e_rV sc Ψ)) : e_M 21 [.ref 12, .ref 132] (S0 I L D sc) (e_rV sc Ψ) :=
  e_M_go e_q21 e_k21 [2] 21 (by decide +kernel) rfl rfl (H) (e_h0 rfl)
set_option maxRecDepth 20000 in
theorem vR_copy_12_132_p2 {x2 : Int32} {I : e_TI} {L : e_TL} {D : e_TD} {sc : e_TS} {Ψ : e_TI → e_TL → e_TD → Prop}
    (H : ((2 ≤ x2 → Ψ I L D) ∧ (¬ (2 ≤ x2) → ((2 ≤ x2 → Ψ I L D) ∧ (¬ (2 ≤ x2) → (vp_in x2 2 ∧ (vp_in x2 2 ∧ e_Wp 21 2 [some (.ref 12), some (.ref 132), some (.int (x2 + 1))] [] (S0 (e_up I 132 x2.toNatClampNeg (I 12 x2.toNatClampNeg)) L D sc) 0 0 (e_rV sc Ψ)))))))) : e_Wp 21 2 [some (.ref 12), some (.ref 132), some (.int x2)] [] (S0 I L D sc) 0 0 (e_rV sc Ψ) :=
  e_W_go e_q21 e_k21 [2] 21 2 (And.intro (fun c2 => e_rVi ((H).1 c2)) (fun c2 => And.intro (fun c1 => e_rVi ((((H).2 c2)).1 c1)) (fun c1 => And.intro (((((H).2 c2)).2 c1)).1 (And.intro ((((((H).2 c2)).2 c1)).2).1 (((((((H).2 c2)).2 c1)).2).2)))))
set_option maxRecDepth 20000 in
theorem vR_copy_12_34 {I : e_TI} {L : e_TL} {D : e_TD} {sc : e_TS} {Ψ : e_TI → e_TL → e_TD → Prop}
    (H : e_Wp 21 2 [some (.ref 12), some (.ref 34), some (.int 0)] [] (S0 I L D sc) 0 0 (e_rV sc Ψ)) : e_M 21 [.ref 12, .ref 34] (S0 I L D sc) (e_rV sc Ψ) :=
  e_M_go e_q21 e_k21 [2] 21 (by decide +kernel) rfl rfl (H) (e_h0 rfl)
set_option maxRecDepth 20000 in
theorem vR_copy_12_34_p2 {x2 : Int32} {I : e_TI} {L : e_TL} {D : e_TD} {sc : e_TS} {Ψ : e_TI → e_TL → e_TD → Prop}
    (H : ((2 ≤ x2 → Ψ I L D) ∧ (¬ (2 ≤ x2) → ((2 ≤ x2 → Ψ I L D) ∧ (¬ (2 ≤ x2) → (vp_in x2 2 ∧ (vp_in x2 2 ∧ e_Wp 21 2 [some (.ref 12), some (.ref 34), some (.int (x2 + 1))] [] (S0 (e_up I 34 x2.toNatClampNeg (I 12 x2.toNatClampNeg)) L D sc) 0 0 (e_rV sc Ψ)))))))) : e_Wp 21 2 [some (.ref 12), some (.ref 34), some (.int x2)] [] (S0 I L D sc) 0 0 (e_rV sc Ψ) :=
  e_W_go e_q21 e_k21 [2] 21 2 (And.intro (fun c2 => e_rVi ((H).1 c2)) (fun c2 => And.intro (fun c1 => e_rVi ((((H).2 c2)).1 c1)) (fun c1 => And.intro (((((H).2 c2)).2 c1)).1 (And.intro ((((((H).2 c2)).2 c1)).2).1 (((((((H).2 c2)).2 c1)).2).2)))))
set_option maxRecDepth 20000 in
theorem vR_copy_12_48 {I : e_TI} {L : e_TL} {D : e_TD} {sc : e_TS} {Ψ : e_TI → e_TL → e_TD → Prop}
    (H : e_Wp 21 2 [some (.ref 12), some (.ref 48), some (.int 0)] [] (S0 I L D sc) 0 0 (e_rV sc Ψ)) : e_M 21 [.ref 12, .ref 48] (S0 I L D sc) (e_rV sc Ψ) :=
  e_M_go e_q21 e_k21 [2] 21 (by decide +kernel) rfl rfl (H) (e_h0 rfl)
set_option maxRecDepth 20000 in
theorem vR_copy_12_48_p2 {x2 : Int32} {I : e_TI} {L : e_TL} {D : e_TD} {sc : e_TS} {Ψ : e_TI → e_TL → e_TD → Prop}
    (H : ((2 ≤ x2 → Ψ I L D) ∧ (¬ (2 ≤ x2) → ((2 ≤ x2 → Ψ I L D) ∧ (¬ (2 ≤ x2) → (vp_in x2 2 ∧ (vp_in x2 2 ∧ e_Wp 21 2 [some (.ref 12), some (.ref 48), some (.int (x2 + 1))] [] (S0 (e_up I 48 x2.toNatClampNeg (I 12 x2.toNatClampNeg)) L D sc) 0 0 (e_rV sc Ψ)))))))) : e_Wp 21 2 [some (.ref 12), some (.ref 48), some (.int x2)] [] (S0 I L D sc) 0 0 (e_rV sc Ψ) :=
  e_W_go e_q21 e_k21 [2] 21 2 (And.intro (fun c2 => e_rVi ((H).1 c2)) (fun c2 => And.intro (fun c1 => e_rVi ((((H).2 c2)).1 c1)) (fun c1 => And.intro (((((H).2 c2)).2 c1)).1 (And.intro ((((((H).2 c2)).2 c1)).2).1 (((((((H).2 c2)).2 c1)).2).2)))))
set_option maxRecDepth 20000 in
theorem vR_copy_12_60 {I : e_TI} {L : e_TL} {D : e_TD} {sc : e_TS} {Ψ : e_TI → e_TL → e_TD → Prop}
    (H : e_Wp 21 2 [some (.ref 12), some (.ref 60), some (.int 0)] [] (S0 I L D sc) 0 0 (e_rV sc Ψ)) : e_M 21 [.ref 12, .ref 60] (S0 I L D sc) (e_rV sc Ψ) :=
  e_M_go e_q21 e_k21 [2] 21 (by decide +kernel) rfl rfl (H) (e_h0 rfl)
set_option maxRecDepth 20000 in
theorem vR_copy_12_60_p2 {x2 : Int32} {I : e_TI} {L : e_TL} {D : e_TD} {sc : e_TS} {Ψ : e_TI → e_TL → e_TD → Prop}
    (H : ((2 ≤ x2 → Ψ I L D) ∧ (¬ (2 ≤ x2) → ((2 ≤ x2 → Ψ I L D) ∧ (¬ (2 ≤ x2) → (vp_in x2 2 ∧ (vp_in x2 2 ∧ e_Wp 21 2 [some (.ref 12), some (.ref 60), some (.int (x2 + 1))] [] (S0 (e_up I 60 x2.toNatClampNeg (I 12 x2.toNatClampNeg)) L D sc) 0 0 (e_rV sc Ψ)))))))) : e_Wp 21 2 [some (.ref 12), some (.ref 60), some (.int x2)] [] (S0 I L D sc) 0 0 (e_rV sc Ψ) :=
  e_W_go e_q21 e_k21 [2] 21 2 (And.intro (fun c2 => e_rVi ((H).1 c2)) (fun c2 => And.intro (fun c1 => e_rVi ((((H).2 c2)).1 c1)) (fun c1 => And.intro (((((H).2 c2)).2 c1)).1 (And.intro ((((((H).2 c2)).2 c1)).2).1 (((((((H).2 c2)).2 c1)).2).2)))))
set_option maxRecDepth 20000 in
theorem vR_copy_12_72 {I : e_TI} {L : e_TL} {D : e_TD} {sc : e_TS} {Ψ : e_TI → e_TL → e_TD → Prop}
    (H : e_Wp 21 2 [some (.ref 12), some (.ref 72), some (.int 0)] [] (S0 I L D sc) 0 0 (e_rV sc Ψ)) : e_M 21 [.ref 12, .ref 72] (S0 I L D sc) (e_rV sc Ψ) :=
  e_M_go e_q21 e_k21 [2] 21 (by decide +kernel) rfl rfl (H) (e_h0 rfl)
set_option maxRecDepth 20000 in
theorem vR_copy_12_72_p2 {x2 : Int32} {I : e_TI} {L : e_TL} {D : e_TD} {sc : e_TS} {Ψ : e_TI → e_TL → e_TD → Prop}
    (H : ((2 ≤ x2 → Ψ I L D) ∧ (¬ (2 ≤ x2) → ((2 ≤ x2 → Ψ I L D) ∧ (¬ (2 ≤ x2) → (vp_in x2 2 ∧ (vp_in x2 2 ∧ e_Wp 21 2 [some (.ref 12), some (.ref 72), some (.int (x2 + 1))] [] (S0 (e_up I 72 x2.toNatClampNeg (I 12 x2.toNatClampNeg)) L D sc) 0 0 (e_rV sc Ψ)))))))) : e_Wp 21 2 [some (.ref 12), some (.ref 72), some (.int x2)] [] (S0 I L D sc) 0 0 (e_rV sc Ψ) :=
  e_W_go e_q21 e_k21 [2] 21 2 (And.intro (fun c2 => e_rVi ((H).1 c2)) (fun c2 => And.intro (fun c1 => e_rVi ((((H).2 c2)).1 c1)) (fun c1 => And.intro (((((H).2 c2)).2 c1)).1 (And.intro ((((((H).2 c2)).2 c1)).2).1 (((((((H).2 c2)).2 c1)).2).2)))))
set_option maxRecDepth 20000 in
theorem vR_copy_12_84 {I : e_TI} {L : e_TL} {D : e_TD} {sc : e_TS} {Ψ : e_TI → e_TL → e_TD → Prop}
    (H : e_Wp 21 2 [some (.ref 12), some (.ref 84), some (.int 0)] [] (S0 I L D sc) 0 0 (e_rV sc Ψ)) : e_M 21 [.ref 12, .ref 84] (S0 I L D sc) (e_rV sc Ψ) :=
  e_M_go e_q21 e_k21 [2] 21 (by decide +kernel) rfl rfl (H) (e_h0 rfl)
set_option maxRecDepth 20000 in
theorem vR_copy_12_84_p2 {x2 : Int32} {I : e_TI} {L : e_TL} {D : e_TD} {sc : e_TS} {Ψ : e_TI → e_TL → e_TD → Prop}
    (H : ((2 ≤ x2 → Ψ I L D) ∧ (¬ (2 ≤ x2) → ((2 ≤ x2 → Ψ I L D) ∧ (¬ (2 ≤ x2) → (vp_in x2 2 ∧ (vp_in x2 2 ∧ e_Wp 21 2 [some (.ref 12), some (.ref 84), some (.int (x2 + 1))] [] (S0 (e_up I 84 x2.toNatClampNeg (I 12 x2.toNatClampNeg)) L D sc) 0 0 (e_rV sc Ψ)))))))) : e_Wp 21 2 [some (.ref 12), some (.ref 84), some (.int x2)] [] (S0 I L D sc) 0 0 (e_rV sc Ψ) :=
  e_W_go e_q21 e_k21 [2] 21 2 (And.intro (fun c2 => e_rVi ((H).1 c2)) (fun c2 => And.intro (fun c1 => e_rVi ((((H).2 c2)).1 c1)) (fun c1 => And.intro (((((H).2 c2)).2 c1)).1 (And.intro ((((((H).2 c2)).2 c1)).2).1 (((((((H).2 c2)).2 c1)).2).2)))))
set_option maxRecDepth 20000 in
theorem vR_copy_12_96 {I : e_TI} {L : e_TL} {D : e_TD} {sc : e_TS} {Ψ : e_TI → e_TL → e_TD → Prop}
    (H : e_Wp 21 2 [some (.ref 12), some (.ref 96), some (.int 0)] [] (S0 I L D sc) 0 0 (e_rV sc Ψ)) : e_M 21 [.ref 12, .ref 96] (S0 I L D sc) (e_rV sc Ψ) :=
  e_M_go e_q21 e_k21 [2] 21 (by decide +kernel) rfl rfl (H) (e_h0 rfl)
set_option maxRecDepth 20000 in
theorem vR_copy_12_96_p2 {x2 : Int32} {I : e_TI} {L : e_TL} {D : e_TD} {sc : e_TS} {Ψ : e_TI → e_TL → e_TD → Prop}
    (H : ((2 ≤ x2 → Ψ I L D) ∧ (¬ (2 ≤ x2) → ((2 ≤ x2 → Ψ I L D) ∧ (¬ (2 ≤ x2) → (vp_in x2 2 ∧ (vp_in x2 2 ∧ e_Wp 21 2 [some (.ref 12), some (.ref 96), some (.int (x2 + 1))] [] (S0 (e_up I 96 x2.toNatClampNeg (I 12 x2.toNatClampNeg)) L D sc) 0 0 (e_rV sc Ψ)))))))) : e_Wp 21 2 [some (.ref 12), some (.ref 96), some (.int x2)] [] (S0 I L D sc) 0 0 (e_rV sc Ψ) :=
  e_W_go e_q21 e_k21 [2] 21 2 (And.intro (fun c2 => e_rVi ((H).1 c2)) (fun c2 => And.intro (fun c1 => e_rVi ((((H).2 c2)).1 c1)) (fun c1 => And.intro (((((H).2 c2)).2 c1)).1 (And.intro ((((((H).2 c2)).2 c1)).2).1 (((((((H).2 c2)).2 c1)).2).2)))))
set_option maxRecDepth 20000 in
theorem vR_copy_130_10 {I : e_TI} {L : e_TL} {D : e_TD} {sc : e_TS} {Ψ : e_TI → e_TL → e_TD → Prop}
    (H : e_Wp 21 2 [some (.ref 130), some (.ref 10), some (.int 0)] [] (S0 I L D sc) 0 0 (e_rV sc Ψ)) : e_M 21 [.ref 130, .ref 10] (S0 I L D sc) (e_rV sc Ψ) :=
  e_M_go e_q21 e_k21 [2] 21 (by decide +kernel) rfl rfl (H) (e_h0 rfl)
set_option maxRecDepth 20000 in
theorem vR_copy_130_10_p2 {x2 : Int32} {I : e_TI} {L : e_TL} {D : e_TD} {sc : e_TS} {Ψ : e_TI → e_TL → e_TD → Prop}
    (H : ((2 ≤ x2 → Ψ I L D) ∧ (¬ (2 ≤ x2) → ((2 ≤ x2 → Ψ I L D) ∧ (¬ (2 ≤ x2) → (vp_in x2 2 ∧ (vp_in x2 2 ∧ e_Wp 21 2 [some (.ref 130), some (.ref 10), some (.int (x2 + 1))] [] (S0 (e_up I 10 x2.toNatClampNeg (I 130 x2.toNatClampNeg)) L D sc) 0 0 (e_rV sc Ψ)))))))) : e_Wp 21 2 [some (.ref 130), some (.ref 10), some (.int x2)] [] (S0 I L D sc) 0 0 (e_rV sc Ψ) :=
  e_W_go e_q21 e_k21 [2] 21 2 (And.intro (fun c2 => e_rVi ((H).1 c2)) (fun c2 => And.intro (fun c1 => e_rVi ((((H).2 c2)).1 c1)) (fun c1 => And.intro (((((H).2 c2)).2 c1)).1 (And.intro ((((((H).2 c2)).2 c1)).2).1 (((((((H).2 c2)).2 c1)).2).2)))))
set_option maxRecDepth 20000 in
theorem vR_copy_131_11 {I : e_TI} {L : e_TL} {D : e_TD} {sc : e_TS} {Ψ : e_TI → e_TL → e_TD → Prop}
    (H : e_Wp 21 2 [some (.ref 131), some (.ref 11), some (.int 0)] [] (S0 I L D sc) 0 0 (e_rV sc Ψ)) : e_M 21 [.ref 131, .ref 11] (S0 I L D sc) (e_rV sc Ψ) :=
  e_M_go e_q21 e_k21 [2] 21 (by decide +kernel) rfl rfl (H) (e_h0 rfl)
set_option maxRecDepth 20000 in
theorem vR_copy_131_11_p2 {x2 : Int32} {I : e_TI} {L : e_TL} {D : e_TD} {sc : e_TS} {Ψ : e_TI → e_TL → e_TD → Prop}
    (H : ((2 ≤ x2 → Ψ I L D) ∧ (¬ (2 ≤ x2) → ((2 ≤ x2 → Ψ I L D) ∧ (¬ (2 ≤ x2) → (vp_in x2 2 ∧ (vp_in x2 2 ∧ e_Wp 21 2 [some (.ref 131), some (.ref 11), some (.int (x2 + 1))] [] (S0 (e_up I 11 x2.toNatClampNeg (I 131 x2.toNatClampNeg)) L D sc) 0 0 (e_rV sc Ψ)))))))) : e_Wp 21 2 [some (.ref 131), some (.ref 11), some (.int x2)] [] (S0 I L D sc) 0 0 (e_rV sc Ψ) :=
  e_W_go e_q21 e_k21 [2] 21 2 (And.intro (fun c2 => e_rVi ((H).1 c2)) (fun c2 => And.intro (fun c1 => e_rVi ((((H).2 c2)).1 c1)) (fun c1 => And.intro (((((H).2 c2)).2 c1)).1 (And.intro ((((((H).2 c2)).2 c1)).2).1 (((((((H).2 c2)).2 c1)).2).2)))))
set_option maxRecDepth 20000 in
theorem vR_copy_132_12 {I : e_TI} {L : e_TL} {D : e_TD} {sc : e_TS} {Ψ : e_TI → e_TL → e_TD → Prop}
    (H : e_Wp 21 2 [some (.ref 132), some (.ref 12), some (.int 0)] [] (S0 I L D sc) 0 0 (e_rV sc Ψ)) : e_M 21 [.ref 132, .ref 12] (S0 I L D sc) (e_rV sc Ψ) :=
  e_M_go e_q21 e_k21 [2] 21 (by decide +kernel) rfl rfl (H) (e_h0 rfl)
set_option maxRecDepth 20000 in
theorem vR_copy_132_12_p2 {x2 : Int32} {I : e_TI} {L : e_TL} {D : e_TD} {sc : e_TS} {Ψ : e_TI → e_TL → e_TD → Prop}
    (H : ((2 ≤ x2 → Ψ I L D) ∧ (¬ (2 ≤ x2) → ((2 ≤ x2 → Ψ I L D) ∧ (¬ (2 ≤ x2) → (vp_in x2 2 ∧ (vp_in x2 2 ∧ e_Wp 21 2 [some (.ref 132), some (.ref 12), some (.int (x2 + 1))] [] (S0 (e_up I 12 x2.toNatClampNeg (I 132 x2.toNatClampNeg)) L D sc) 0 0 (e_rV sc Ψ)))))))) : e_Wp 21 2 [some (.ref 132), some (.ref 12), some (.int x2)] [] (S0 I L D sc) 0 0 (e_rV sc Ψ) :=
  e_W_go e_q21 e_k21 [2] 21 2 (And.intro (fun c2 => e_rVi ((H).1 c2)) (fun c2 => And.intro (fun c1 => e_rVi ((((H).2 c2)).1 c1)) (fun c1 => And.intro (((((H).2 c2)).2 c1)).1 (And.intro ((((((H).2 c2)).2 c1)).2).1 (((((((H).2 c2)).2 c1)).2).2)))))
set_option maxRecDepth 20000 in
theorem vR_copy_133_13 {I : e_TI} {L : e_TL} {D : e_TD} {sc : e_TS} {Ψ : e_TI → e_TL → e_TD → Prop}
    (H : e_Wp 21 2 [some (.ref 133), some (.ref 13), some (.int 0)] [] (S0 I L D sc) 0 0 (e_rV sc Ψ)) : e_M 21 [.ref 133, .ref 13] (S0 I L D sc) (e_rV sc Ψ) :=
  e_M_go e_q21 e_k21 [2] 21 (by decide +kernel) rfl rfl (H) (e_h0 rfl)
set_option maxRecDepth 20000 in
theorem vR_copy_133_13_p2 {x2 : Int32} {I : e_TI} {L : e_TL} {D : e_TD} {sc : e_TS} {Ψ : e_TI → e_TL → e_TD → Prop}
    (H : ((2 ≤ x2 → Ψ I L D) ∧ (¬ (2 ≤ x2) → ((2 ≤ x2 → Ψ I L D) ∧ (¬ (2 ≤ x2) → (vp_in x2 2 ∧ (vp_in x2 2 ∧ e_Wp 21 2 [some (.ref 133), some (.ref 13), some (.int (x2 + 1))] [] (S0 (e_up I 13 x2.toNatClampNeg (I 133 x2.toNatClampNeg)) L D sc) 0 0 (e_rV sc Ψ)))))))) : e_Wp 21 2 [some (.ref 133), some (.ref 13), some (.int x2)] [] (S0 I L D sc) 0 0 (e_rV sc Ψ) :=
  e_W_go e_q21 e_k21 [2] 21 2 (And.intro (fun c2 => e_rVi ((H).1 c2)) (fun c2 => And.intro (fun c1 => e_rVi ((((H).2 c2)).1 c1)) (fun c1 => And.intro (((((H).2 c2)).2 c1)).1 (And.intro ((((((H).2 c2)).2 c1)).2).1 (((((((H).2 c2)).2 c1)).2).2)))))
set_option maxRecDepth 20000 in
theorem vR_copy_13_109 {I : e_TI} {L : e_TL} {D : e_TD} {sc : e_TS} {Ψ : e_TI → e_TL → e_TD → Prop}
    (H : e_Wp 21 2 [some (.ref 13), some (.ref 109), some (.int 0)] [] (S0 I L D sc) 0 0 (e_rV sc Ψ)) : e_M 21 [.ref 13, .ref 109] (S0 I L D sc) (e_rV sc Ψ) :=
  e_M_go e_q21 e_k21 [2] 21 (by decide +kernel) rfl rfl (H) (e_h0 rfl)
set_option maxRecDepth 20000 in
theorem vR_copy_13_109_p2 {x2 : Int32} {I : e_TI} {L : e_TL} {D : e_TD} {sc : e_TS} {Ψ : e_TI → e_TL → e_TD → Prop}
    (H : ((2 ≤ x2 → Ψ I L D) ∧ (¬ (2 ≤ x2) → ((2 ≤ x2 → Ψ I L D) ∧ (¬ (2 ≤ x2) → (vp_in x2 2 ∧ (vp_in x2 2 ∧ e_Wp 21 2 [some (.ref 13), some (.ref 109), some (.int (x2 + 1))] [] (S0 (e_up I 109 x2.toNatClampNeg (I 13 x2.toNatClampNeg)) L D sc) 0 0 (e_rV sc Ψ)))))))) : e_Wp 21 2 [some (.ref 13), some (.ref 109), some (.int x2)] [] (S0 I L D sc) 0 0 (e_rV sc Ψ) :=
  e_W_go e_q21 e_k21 [2] 21 2 (And.intro (fun c2 => e_rVi ((H).1 c2)) (fun c2 => And.intro (fun c1 => e_rVi ((((H).2 c2)).1 c1)) (fun c1 => And.intro (((((H).2 c2)).2 c1)).1 (And.intro ((((((H).2 c2)).2 c1)).2).1 (((((((H).2 c2)).2 c1)).2).2)))))
set_option maxRecDepth 20000 in
theorem vR_copy_13_121 {I : e_TI} {L : e_TL} {D : e_TD} {sc : e_TS} {Ψ : e_TI → e_TL → e_TD → Prop}
    (H : e_Wp 21 2 [some (.ref 13), some (.ref 121), some (.int 0)] [] (S0 I L D sc) 0 0 (e_rV sc Ψ)) : e_M 21 [.ref 13, .ref 121] (S0 I L D sc) (e_rV sc Ψ) :=
  e_M_go e_q21 e_k21 [2] 21 (by decide +kernel) rfl rfl (H) (e_h0 rfl)
set_option maxRecDepth 20000 in
theorem vR_copy_13_121_p2 {x2 : Int32} {I : e_TI} {L : e_TL} {D : e_TD} {sc : e_TS} {Ψ : e_TI → e_TL → e_TD → Prop}
    (H : ((2 ≤ x2 → Ψ I L D) ∧ (¬ (2 ≤ x2) → ((2 ≤ x2 → Ψ I L D) ∧ (¬ (2 ≤ x2) → (vp_in x2 2 ∧ (vp_in x2 2 ∧ e_Wp 21 2 [some (.ref 13), some (.ref 121), some (.int (x2 + 1))] [] (S0 (e_up I 121 x2.toNatClampNeg (I 13 x2.toNatClampNeg)) L D sc) 0 0 (e_rV sc Ψ)))))))) : e_Wp 21 2 [some (.ref 13), some (.ref 121), some (.int x2)] [] (S0 I L D sc) 0 0 (e_rV sc Ψ) :=
  e_W_go e_q21 e_k21 [2] 21 2 (And.intro (fun c2 => e_rVi ((H).1 c2)) (fun c2 => And.intro (fun c1 => e_rVi ((((H).2 c2)).1 c1)) (fun c1 => And.intro (((((H).2 c2)).2 c1)).1 (And.intro ((((((H).2 c2)).2 c1)).2).1 (((((((H).2 c2)).2 c1)).2).2)))))
set_option maxRecDepth 20000 in
theorem vR_copy_13_133 {I : e_TI} {L : e_TL} {D : e_TD} {sc : e_TS} {Ψ : e_TI → e_TL → e_TD → Prop}
    (H : e_Wp 21 2 [some (.ref 13), some (.ref 133), some (.int 0)] [] (S0 I L D sc) 0 0 (e_rV sc Ψ)) : e_M 21 [.ref 13, .ref 133] (S0 I L D sc) (e_rV sc Ψ) :=
  e_M_go e_q21 e_k21 [2] 21 (by decide +kernel) rfl rfl (H) (e_h0 rfl)
set_option maxRecDepth 20000 in
theorem vR_copy_13_133_p2 {x2 : Int32} {I : e_TI} {L : e_TL} {D : e_TD} {sc : e_TS} {Ψ : e_TI → e_TL → e_TD → Prop}
    (H : ((2 ≤ x2 → Ψ I L D) ∧ (¬ (2 ≤ x2) → ((2 ≤ x2 → Ψ I L D) ∧ (¬ (2 ≤ x2) → (vp_in x2 2 ∧ (vp_in x2 2 ∧ e_Wp 21 2 [some (.ref 13), some (.ref 133), some (.int (x2 + 1))] [] (S0 (e_up I 133 x2.toNatClampNeg (I 13 x2.toNatClampNeg)) L D sc) 0 0 (e_rV sc Ψ)))))))) : e_Wp 21 2 [some (.ref 13), some (.ref 133), some (.int x2)] [] (S0 I L D sc) 0 0 (e_rV sc Ψ) :=
  e_W_go e_q21 e_k21 [2] 21 2 (And.intro (fun c2 => e_rVi ((H).1 c2)) (fun c2 => And.intro (fun c1 => e_rVi ((((H).2 c2)).1 c1)) (fun c1 => And.intro (((((H).2 c2)).2 c1)).1 (And.intro ((((((H).2 c2)).2 c1)).2).1 (((((((H).2 c2)).2 c1)).2).2)))))
set_option maxRecDepth 20000 in
theorem vR_copy_13_35 {I : e_TI} {L : e_TL} {D : e_TD} {sc : e_TS} {Ψ : e_TI → e_TL → e_TD → Prop}
    (H : e_Wp 21 2 [some (.ref 13), some (.ref 35), some (.int 0)] [] (S0 I L D sc) 0 0 (e_rV sc Ψ)) : e_M 21 [.ref 13, .ref 35] (S0 I L D sc) (e_rV sc Ψ) :=
  e_M_go e_q21 e_k21 [2] 21 (by decide +kernel) rfl rfl (H) (e_h0 rfl)
set_option maxRecDepth 20000 in
theorem vR_copy_13_35_p2 {x2 : Int32} {I : e_TI} {L : e_TL} {D : e_TD} {sc : e_TS} {Ψ : e_TI → e_TL → e_TD → Prop}
    (H : ((2 ≤ x2 → Ψ I L D) ∧ (¬ (2 ≤ x2) → ((2 ≤ x2 → Ψ I L D) ∧ (¬ (2 ≤ x2) → (vp_in x2 2 ∧ (vp_in x2 2 ∧ e_Wp 21 2 [some (.ref 13), some (.ref 35), some (.int (x2 + 1))] [] (S0 (e_up I 35 x2.toNatClampNeg (I 13 x2.toNatClampNeg)) L D sc) 0 0 (e_rV sc Ψ)))))))) : e_Wp 21 2 [some (.ref 13), some (.ref 35), some (.int x2)] [] (S0 I L D sc) 0 0 (e_rV sc Ψ) :=
  e_W_go e_q21 e_k21 [2] 21 2 (And.intro (fun c2 => e_rVi ((H).1 c2)) (fun c2 => And.intro (fun c1 => e_rVi ((((H).2 c2)).1 c1)) (fun c1 => And.intro (((((H).2 c2)).2 c1)).1 (And.intro ((((((H).2 c2)).2 c1)).2).1 (((((((H).2 c2)).2 c1)).2).2)))))
set_option maxRecDepth 20000 in
theorem vR_copy_13_49 {I : e_TI} {L : e_TL} {D : e_TD} {sc : e_TS} {Ψ : e_TI → e_TL → e_TD → Prop}
    (H : e_Wp 21 2 [some (.ref 13), some (.ref 49), some (.int 0)] [] (S0 I L D sc) 0 0 (e_rV sc Ψ)) : e_M 21 [.ref 13, .ref 49] (S0 I L D sc) (e_rV sc Ψ) :=
  e_M_go e_q21 e_k21 [2] 21 (by decide +kernel) rfl rfl (H) (e_h0 rfl)
set_option maxRecDepth 20000 in
theorem vR_copy_13_49_p2 {x2 : Int32} {I : e_TI} {L : e_TL} {D : e_TD} {sc : e_TS} {Ψ : e_TI → e_TL → e_TD → Prop}
    (H : ((2 ≤ x2 → Ψ I L D) ∧ (¬ (2 ≤ x2) → ((2 ≤ x2 → Ψ I L D) ∧ (¬ (2 ≤ x2) → (vp_in x2 2 ∧ (vp_in x2 2 ∧ e_Wp 21 2 [some (.ref 13), some (.ref 49), some (.int (x2 + 1))] [] (S0 (e_up I 49 x2.toNatClampNeg (I 13 x2.toNatClampNeg)) L D sc) 0 0 (e_rV sc Ψ)))))))) : e_Wp 21 2 [some (.ref 13), some (.ref 49), some (.int x2)] [] (S0 I L D sc) 0 0 (e_rV sc Ψ) :=
  e_W_go e_q21 e_k21 [2] 21 2 (And.intro (fun c2 => e_rVi ((H).1 c2)) (fun c2 => And.intro (fun c1 => e_rVi ((((H).2 c2)).1 c1)) (fun c1 => And.intro (((((H).2 c2)).2 c1)).1 (And.intro ((((((H).2 c2)).2 c1)).2).1 (((((((H).2 c2)).2 c1)).2).2)))))
set_option maxRecDepth 20000 in
theorem vR_copy_13_61 {I : e_TI} {L : e_TL} {D : e_TD} {sc : e_TS} {Ψ : e_TI → e_TL → e_TD → Prop}
    (H : e_Wp 21 2 [some (.ref 13), some (.ref 61), some (.int 0)] [] (S0 I L D sc) 0 0 (e_rV sc Ψ)) : e_M 21 [.ref 13, .ref 61] (S0 I L D sc) (e_rV sc Ψ) :=
  e_M_go e_q21 e_k21 [2] 21 (by decide +kernel) rfl rfl (H) (e_h0 rfl)
set_option maxRecDepth 20000 in
theorem vR_copy_13_61_p2 {x2 : Int32} {I : e_TI} {L : e_TL} {D : e_TD} {sc : e_TS} {Ψ : e_TI → e_TL → e_TD → Prop}
    (H : ((2 ≤ x2 → Ψ I L D) ∧ (¬ (2 ≤ x2) → ((2 ≤ x2 → Ψ I L D) ∧ (¬ (2 ≤ x2) → (vp_in x2 2 ∧ (vp_in x2 2 ∧ e_Wp 21 2 [some (.ref 13), some (.ref 61), some (.int (x2 + 1))] [] (S0 (e_up I 61 x2.toNatClampNeg (I 13 x2.toNatClampNeg)) L D sc) 0 0 (e_rV sc Ψ)))))))) : e_Wp 21 2 [some (.ref 13), some (.ref 61), some (.int x2)] [] (S0 I L D sc) 0 0 (e_rV sc Ψ) :=
  e_W_go e_q21 e_k21 [2] 21 2 (And.intro (fun c2 => e_rVi ((H).1 c2)) (fun c2 => And.intro (fun c1 => e_rVi ((((H).2 c2)).1 c1)) (fun c1 => And.intro (((((H).2 c2)).2 c1)).1 (And.intro ((((((H).2 c2)).2 c1)).2).1 (((((((H).2 c2)).2 c1)).2).2)))))
set_option maxRecDepth 20000 in
theorem vR_copy_13_73 {I : e_TI} {L : e_TL} {D : e_TD} {sc : e_TS} {Ψ : e_TI → e_TL → e_TD → Prop}
    (H : e_Wp 21 2 [some (.ref 13), some (.ref 73), some (.int 0)] [] (S0 I L D sc) 0 0 (e_rV sc Ψ)) : e_M 21 [.ref 13, .ref 73] (S0 I L D sc) (e_rV sc Ψ) :=
  e_M_go e_q21 e_k21 [2] 21 (by decide +kernel) rfl rfl (H) (e_h0 rfl)
set_option maxRecDepth 20000 in
theorem vR_copy_13_73_p2 {x2 : Int32} {I : e_TI} {L : e_TL} {D : e_TD} {sc : e_TS} {Ψ : e_TI → e_TL → e_TD → Prop}
    (H : ((2 ≤ x2 → Ψ I L D) ∧ (¬ (2 ≤ x2) → ((2 ≤ x2 → Ψ I L D) ∧ (¬ (2 ≤ x2) → (vp_in x2 2 ∧ (vp_in x2 2 ∧ e_Wp 21 2 [some (.ref 13), some (.ref 73), some (.int (x2 + 1))] [] (S0 (e_up I 73 x2.toNatClampNeg (I 13 x2.toNatClampNeg)) L D sc) 0 0 (e_rV sc Ψ)))))))) : e_Wp 21 2 [some (.ref 13), some (.ref 73), some (.int x2)] [] (S0 I L D sc) 0 0 (e_rV sc Ψ) :=
  e_W_go e_q21 e_k21 [2] 21 2 (And.intro (fun c2 => e_rVi ((H).1 c2)) (fun c2 => And.intro (fun c1 => e_rVi ((((H).2 c2)).1 c1)) (fun c1 => And.intro (((((H).2 c2)).2 c1)).1 (And.intro ((((((H).2 c2)).2 c1)).2).1 (((((((H).2 c2)).2 c1)).2).2)))))
set_option maxRecDepth 20000 in
theorem vR_copy_13_85 {I : e_TI} {L : e_TL} {D : e_TD} {sc : e_TS} {Ψ : e_TI → e_TL → e_TD → Prop}
    (H : e_Wp 21 2 [some (.ref 13), some (.ref 85), some (.int 0)] [] (S0 I L D sc) 0 0 (e_rV sc Ψ)) : e_M 21 [.ref 13, .ref 85] (S0 I L D sc) (e_rV sc Ψ) :=
  e_M_go e_q21 e_k21 [2] 21 (by decide +kernel) rfl rfl (H) (e_h0 rfl)
set_option maxRecDepth 20000 in
theorem vR_copy_13_85_p2 {x2 : Int32} {I : e_TI} {L : e_TL} {D : e_TD} {sc : e_TS} {Ψ : e_TI → e_TL → e_TD → Prop}
    (H : ((2 ≤ x2 → Ψ I L D) ∧ (¬ (2 ≤ x2) → ((2 ≤ x2 → Ψ I L D) ∧ (¬ (2 ≤ x2) → (vp_in x2 2 ∧ (vp_in x2 2 ∧ e_Wp 21 2 [some (.ref 13), some (.ref 85), some (.int (x2 + 1))] [] (S0 (e_up I 85 x2.toNatClampNeg (I 13 x2.toNatClampNeg)) L D sc) 0 0 (e_rV sc Ψ)))))))) : e_Wp 21 2 [some (.ref 13), some (.ref 85), some (.int x2)] [] (S0 I L D sc) 0 0 (e_rV sc Ψ) :=
  e_W_go e_q21 e_k21 [2] 21 2 (And.intro (fun c2 => e_rVi ((H).1 c2)) (fun c2 => And.intro (fun c1 => e_rVi ((((H).2 c2)).1 c1)) (fun c1 => And.intro (((((H).2 c2)).2 c1)).1 (And.intro ((((((H).2 c2)).2 c1)).2).1 (((((((H).2 c2)).2 c1)).2).2)))))
set_option maxRecDepth 20000 in
theorem vR_copy_13_97 {I : e_TI} {L : e_TL} {D : e_TD} {sc : e_TS} {Ψ : e_TI → e_TL → e_TD → Prop}
    (H : e_Wp 21 2 [some (.ref 13), some (.ref 97), some (.int 0)] [] (S0 I L D sc) 0 0 (e_rV sc Ψ)) : e_M 21 [.ref 13, .ref 97] (S0 I L D sc) (e_rV sc Ψ) :=
  e_M_go e_q21 e_k21 [2] 21 (by decide +kernel) rfl rfl (H) (e_h0 rfl)
set_option maxRecDepth 20000 in
theorem vR_copy_13_97_p2 {x2 : Int32} {I : e_TI} {L : e_TL} {D : e_TD} {sc : e_TS} {Ψ : e_TI → e_TL → e_TD → Prop}
    (H : ((2 ≤ x2 → Ψ I L D) ∧ (¬ (2 ≤ x2) → ((2 ≤ x2 → Ψ I L D) ∧ (¬ (2 ≤ x2) → (vp_in x2 2 ∧ (vp_in x2 2 ∧ e_Wp 21 2 [some (.ref 13), some (.ref 97), some (.int (x2 + 1))] [] (S0 (e_up I 97 x2.toNatClampNeg (I 13 x2.toNatClampNeg)) L D sc) 0 0 (e_rV sc Ψ)))))))) : e_Wp 21 2 [some (.ref 13), some (.ref 97), some (.int x2)] [] (S0 I L D sc) 0 0 (e_rV sc Ψ) :=
  e_W_go e_q21 e_k21 [2] 21 2 (And.intro (fun c2 => e_rVi ((H).1 c2)) (fun c2 => And.intro (fun c1 => e_rVi ((((H).2 c2)).1 c1)) (fun c1 => And.intro (((((H).2 c2)).2 c1)).1 (And.intro ((((((H).2 c2)).2 c1)).2).1 (((((((H).2 c2)).2 c1)).2).2)))))
set_option maxRecDepth 20000 in
theorem vR_copy_29_7 {I : e_TI} {L : e_TL} {D : e_TD} {sc : e_TS} {Ψ : e_TI → e_TL → e_TD → Prop}
    (H : e_Wp 21 2 [some (.ref 29), some (.ref 7), some (.int 0)] [] (S0 I L D sc) 0 0 (e_rV sc Ψ)) : e_M 21 [.ref 29, .ref 7] (S0 I L D sc) (e_rV sc Ψ) :=
  e_M_go e_q21 e_k21 [2] 21 (by decide +kernel) rfl rfl (H) (e_h0 rfl)
set_option maxRecDepth 20000 in
theorem vR_copy_29_7_p2 {x2 : Int32} {I : e_TI} {L : e_TL} {D : e_TD} {sc : e_TS} {Ψ : e_TI → e_TL → e_TD → Prop}
    (H : ((16 ≤ x2 → Ψ I L D) ∧ (¬ (16 ≤ x2) → ((16 ≤ x2 → Ψ I L D) ∧ (¬ (16 ≤ x2) → (vp_in x2 16 ∧ (vp_in x2 16 ∧ e_Wp 21 2 [some (.ref 29), some (.ref 7), some (.int (x2 + 1))] [] (S0 (e_up I 7 x2.toNatClampNeg (I 29 x2.toNatClampNeg)) L D sc) 0 0 (e_rV sc Ψ)))))))) : e_Wp 21 2 [some (.ref 29), some (.ref 7), some (.int x2)] [] (S0 I L D sc) 0 0 (e_rV sc Ψ) :=
  e_W_go e_q21 e_k21 [2] 21 2 (And.intro (fun c2 => e_rVi ((H).1 c2)) (fun c2 => And.intro (fun c1 => e_rVi ((((H).2 c2)).1 c1)) (fun c1 => And.intro (((((H).2 c2)).2 c1)).1 (And.intro ((((((H).2 c2)).2 c1)).2).1 (((((((H).2 c2)).2 c1)).2).2)))))
set_option maxRecDepth 20000 in
theorem vR_copy_30_8 {I : e_TI} {L : e_TL} {D : e_TD} {sc : e_TS} {Ψ : e_TI → e_TL → e_TD → Prop}
    (H : e_Wp 21 2 [some (.ref 30), some (.ref 8), some (.int 0)] [] (S0 I L D sc) 0 0 (e_rV sc Ψ)) : e_M 21 [.ref 30, .ref 8] (S0 I L D sc) (e_rV sc Ψ) :=
  e_M_go e_q21 e_k21 [2] 21 (by decide +kernel) rfl rfl (H) (e_h0 rfl)
set_option maxRecDepth 20000 in
theorem vR_copy_30_8_p2 {x2 : Int32} {I : e_TI} {L : e_TL} {D : e_TD} {sc : e_TS} {Ψ : e_TI → e_TL → e_TD → Prop}
    (H : ((16 ≤ x2 → Ψ I L D) ∧ (¬ (16 ≤ x2) → ((16 ≤ x2 → Ψ I L D) ∧ (¬ (16 ≤ x2) → (vp_in x2 16 ∧ (vp_in x2 16 ∧ e_Wp 21 2 [some (.ref 30), some (.ref 8), some (.int (x2 + 1))] [] (S0 (e_up I 8 x2.toNatClampNeg (I 30 x2.toNatClampNeg)) L D sc) 0 0 (e_rV sc Ψ)))))))) : e_Wp 21 2 [some (.ref 30), some (.ref 8), some (.int x2)] [] (S0 I L D sc) 0 0 (e_rV sc Ψ) :=
  e_W_go e_q21 e_k21 [2] 21 2 (And.intro (fun c2 => e_rVi ((H).1 c2)) (fun c2 => And.intro (fun c1 => e_rVi ((((H).2 c2)).1 c1)) (fun c1 => And.intro (((((H).2 c2)).2 c1)).1 (And.intro ((((((H).2 c2)).2 c1)).2).1 (((((((H).2 c2)).2 c1)).2).2)))))
set_option maxRecDepth 20000 in
theorem vR_copy_31_9 {I : e_TI} {L : e_TL} {D : e_TD} {sc : e_TS} {Ψ : e_TI → e_TL → e_TD → Prop}
    (H : e_Wp 21 2 [some (.ref 31), some (.ref 9), some (.int 0)] [] (S0 I L D sc) 0 0 (e_rV sc Ψ)) : e_M 21 [.ref 31, .ref 9] (S0 I L D sc) (e_rV sc Ψ) :=
  e_M_go e_q21 e_k21 [2] 21 (by decide +kernel) rfl rfl (H) (e_h0 rfl)
set_option maxRecDepth 20000 in
theorem vR_copy_31_9_p2 {x2 : Int32} {I : e_TI} {L : e_TL} {D : e_TD} {sc : e_TS} {Ψ : e_TI → e_TL → e_TD → Prop}
    (H : ((16 ≤ x2 → Ψ I L D) ∧ (¬ (16 ≤ x2) → ((16 ≤ x2 → Ψ I L D) ∧ (¬ (16 ≤ x2) → (vp_in x2 16 ∧ (vp_in x2 16 ∧ e_Wp 21 2 [some (.ref 31), some (.ref 9), some (.int (x2 + 1))] [] (S0 (e_up I 9 x2.toNatClampNeg (I 31 x2.toNatClampNeg)) L D sc) 0 0 (e_rV sc Ψ)))))))) : e_Wp 21 2 [some (.ref 31), some (.ref 9), some (.int x2)] [] (S0 I L D sc) 0 0 (e_rV sc Ψ) :=
  e_W_go e_q21 e_k21 [2] 21 2 (And.intro (fun c2 => e_rVi ((H).1 c2)) (fun c2 => And.intro (fun c1 => e_rVi ((((H).2 c2)).1 c1)) (fun c1 => And.intro (((((H).2 c2)).2 c1)).1 (And.intro ((((((H).2 c2)).2 c1)).2).1 (((((((H).2 c2)).2 c1)).2).2)))))
set_option maxRecDepth 20000 in
theorem vR_copy_32_10 {I : e_TI} {L : e_TL} {D : e_TD} {sc : e_TS} {Ψ : e_TI → e_TL → e_TD → Prop}
    (H : e_Wp 21 2 [some (.ref 32), some (.ref 10), some (.int 0)] [] (S0 I L D sc) 0 0 (e_rV sc Ψ)) : e_M 21 [.ref 32, .ref 10] (S0 I L D sc) (e_rV sc Ψ) :=
  e_M_go e_q21 e_k21 [2] 21 (by decide +kernel) rfl rfl (H) (e_h0 rfl)
set_option maxRecDepth 20000 in
theorem vR_copy_32_10_p2 {x2 : Int32} {I : e_TI} {L : e_TL} {D : e_TD} {sc : e_TS} {Ψ : e_TI → e_TL → e_TD → Prop}
    (H : ((2 ≤ x2 → Ψ I L D) ∧ (¬ (2 ≤ x2) → ((2 ≤ x2 → Ψ I L D) ∧ (¬ (2 ≤ x2) → (vp_in x2 2 ∧ (vp_in x2 2 ∧ e_Wp 21 2 [some (.ref 32), some (.ref 10), some (.int (x2 + 1))] [] (S0 (e_up I 10 x2.toNatClampNeg (I 32 x2.toNatClampNeg)) L D sc) 0 0 (e_rV sc Ψ)))))))) : e_Wp 21 2 [some (.ref 32), some (.ref 10), some (.int x2)] [] (S0 I L D sc) 0 0 (e_rV sc Ψ) :=
  e_W_go e_q21 e_k21 [2] 21 2 (And.intro (fun c2 => e_rVi ((H).1 c2)) (fun c2 => And.intro (fun c1 => e_rVi ((((H).2 c2)).1 c1)) (fun c1 => And.intro (((((H).2 c2)).2 c1)).1 (And.intro ((((((H).2 c2)).2 c1)).2).1 (((((((H).2 c2)).2 c1)).2).2)))))
set_option maxRecDepth 20000 in
theorem vR_copy_33_11 {I : e_TI} {L : e_TL} {D : e_TD} {sc : e_TS} {Ψ : e_TI → e_TL → e_TD → Prop}
    (H : e_Wp 21 2 [some (.ref 33), some (.ref 11), some (.int 0)] [] (S0 I L D sc) 0 0 (e_rV sc Ψ)) : e_M 21 [.ref 33, .ref 11] (S0 I L D sc) (e_rV sc Ψ) :=
  e_M_go e_q21 e_k21 [2] 21 (by decide +kernel) rfl rfl (H) (e_h0 rfl)
set_option maxRecDepth 20000 in
theorem vR_copy_33_11_p2 {x2 : Int32} {I : e_TI} {L : e_TL} {D : e_TD} {sc : e_TS} {Ψ : e_TI → e_TL → e_TD → Prop}
    (H : ((2 ≤ x2 → Ψ I L D) ∧ (¬ (2 ≤ x2) → ((2 ≤ x2 → Ψ I L D) ∧ (¬ (2 ≤ x2) → (vp_in x2 2 ∧ (vp_in x2 2 ∧ e_Wp 21 2 [some (.ref 33), some (.ref 11), some (.int (x2 + 1))] [] (S0 (e_up I 11 x2.toNatClampNeg (I 33 x2.toNatClampNeg)) L D sc) 0 0 (e_rV sc Ψ)))))))) : e_Wp 21 2 [some (.ref 33), some (.ref 11), some (.int x2)] [] (S0 I L D sc) 0 0 (e_rV sc Ψ) :=
  e_W_go e_q21 e_k21 [2] 21 2 (And.intro (fun c2 => e_rVi ((H).1 c2)) (fun c2 => And.intro (fun c1 => e_rVi ((((H).2 c2)).1 c1)) (fun c1 => And.intro (((((H).2 c2)).2 c1)).1 (And.intro ((((((H).2 c2)).2 c1)).2).1 (((((((H).2 c2)).2 c1)).2).2)))))
set_option maxRecDepth 20000 in
theorem vR_copy_34_12 {I : e_TI} {L : e_TL} {D : e_TD} {sc : e_TS} {Ψ : e_TI → e_TL → e_TD → Prop}
    (H : e_Wp 21 2 [some (.ref 34), some (.ref 12), some (.int 0)] [] (S0 I L D sc) 0 0 (e_rV sc Ψ)) : e_M 21 [.ref 34, .ref 12] (S0 I L D sc) (e_rV sc Ψ) :=
  e_M_go e_q21 e_k21 [2] 21 (by decide +kernel) rfl rfl (H) (e_h0 rfl)
set_option maxRecDepth 20000 in
theorem vR_copy_34_12_p2 {x2 : Int32} {I : e_TI} {L : e_TL} {D : e_TD} {sc : e_TS} {Ψ : e_TI → e_TL → e_TD → Prop}
    (H : ((2 ≤ x2 → Ψ I L D) ∧ (¬ (2 ≤ x2) → ((2 ≤ x2 → Ψ I L D) ∧ (¬ (2 ≤ x2) → (vp_in x2 2 ∧ (vp_in x2 2 ∧ e_Wp 21 2 [some (.ref 34), some (.ref 12), some (.int (x2 + 1))] [] (S0 (e_up I 12 x2.toNatClampNeg (I 34 x2.toNatClampNeg)) L D sc) 0 0 (e_rV sc Ψ)))))))) : e_Wp 21 2 [some (.ref 34), some (.ref 12), some (.int x2)] [] (S0 I L D sc) 0 0 (e_rV sc Ψ) :=
  e_W_go e_q21 e_k21 [2] 21 2 (And.intro (fun c2 => e_rVi ((H).1 c2)) (fun c2 => And.intro (fun c1 => e_rVi ((((H).2 c2)).1 c1)) (fun c1 => And.intro (((((H).2 c2)).2 c1)).1 (And.intro ((((((H).2 c2)).2 c1)).2).1 (((((((H).2 c2)).2 c1)).2).2)))))
set_option maxRecDepth 20000 in
theorem vR_copy_35_13 {I : e_TI} {L : e_TL} {D : e_TD} {sc : e_TS} {Ψ : e_TI → e_TL → e_TD → Prop}
    (H : e_Wp 21 2 [some (.ref 35), some (.ref 13), some (.int 0)] [] (S0 I L D sc) 0 0 (e_rV sc Ψ)) : e_M 21 [.ref 35, .ref 13] (S0 I L D sc) (e_rV sc Ψ) :=
  e_M_go e_q21 e_k21 [2] 21 (by decide +kernel) rfl rfl (H) (e_h0 rfl)
set_option maxRecDepth 20000 in
theorem vR_copy_35_13_p2 {x2 : Int32} {I : e_TI} {L : e_TL} {D : e_TD} {sc : e_TS} {Ψ : e_TI → e_TL → e_TD → Prop}
    (H : ((2 ≤ x2 → Ψ I L D) ∧ (¬ (2 ≤ x2) → ((2 ≤ x2 → Ψ I L D) ∧ (¬ (2 ≤ x2) → (vp_in x2 2 ∧ (vp_in x2 2 ∧ e_Wp 21 2 [some (.ref 35), some (.ref 13), some (.int (x2 + 1))] [] (S0 (e_up I 13 x2.toNatClampNeg (I 35 x2.toNatClampNeg)) L D sc) 0 0 (e_rV sc Ψ)))))))) : e_Wp 21 2 [some (.ref 35), some (.ref 13), some (.int x2)] [] (S0 I L D sc) 0 0 (e_rV sc Ψ) :=
  e_W_go e_q21 e_k21 [2] 21 2 (And.intro (fun c2 => e_rVi ((H).1 c2)) (fun c2 => And.intro (fun c1 => e_rVi ((((H).2 c2)).1 c1)) (fun c1 => And.intro (((((H).2 c2)).2 c1)).1 (And.intro ((((((H).2 c2)).2 c1)).2).1 (((((((H).2 c2)).2 c1)).2).2)))))
set_option maxRecDepth 20000 in
theorem vR_copy_43_7 {I : e_TI} {L : e_TL} {D : e_TD} {sc : e_TS} {Ψ : e_TI → e_TL → e_TD → Prop}
    (H : e_Wp 21 2 [some (.ref 43), some (.ref 7), some (.int 0)] [] (S0 I L D sc) 0 0 (e_rV sc Ψ)) : e_M 21 [.ref 43, .ref 7] (S0 I L D sc) (e_rV sc Ψ) :=
  e_M_go e_q21 e_k21 [2] 21 (by decide +kernel) rfl rfl (H) (e_h0 rfl)
set_option maxRecDepth 20000 in
theorem vR_copy_43_7_p2 {x2 : Int32} {I : e_TI} {L : e_TL} {D : e_TD} {sc : e_TS} {Ψ : e_TI → e_TL → e_TD → Prop}
    (H : ((16 ≤ x2 → Ψ I L D) ∧ (¬ (16 ≤ x2) → ((16 ≤ x2 → Ψ I L D) ∧ (¬ (16 ≤ x2) → (vp_in x2 16 ∧ (vp_in x2 16 ∧ e_Wp 21 2 [some (.ref 43), some (.ref 7), some (.int (x2 + 1))] [] (S0 (e_up I 7 x2.toNatClampNeg (I 43 x2.toNatClampNeg)) L D sc) 0 0 (e_rV sc Ψ)))))))) : e_Wp 21 2 [some (.ref 43), some (.ref 7), some (.int x2)] [] (S0 I L D sc) 0 0 (e_rV sc Ψ) :=
  e_W_go e_q21 e_k21 [2] 21 2 (And.intro (fun c2 => e_rVi ((H).1 c2)) (fun c2 => And.intro (fun c1 => e_rVi ((((H).2 c2)).1 c1)) (fun c1 => And.intro (((((H).2 c2)).2 c1)).1 (And.intro ((((((H).2 c2)).2 c1)).2).1 (((((((H).2 c2)).2 c1)).2).2)))))
set_option maxRecDepth 20000 in
theorem vR_copy_44_8 {I : e_TI} {L : e_TL} {D : e_TD} {sc : e_TS} {Ψ : e_TI → e_TL → e_TD → Prop}
    (H : e_Wp 21 2 [some (.ref 44), some (.ref 8), some (.int 0)] [] (S0 I L D sc) 0 0 (e_rV sc Ψ)) : e_M 21 [.ref 44, .ref 8] (S0 I L D sc) (e_rV sc Ψ) :=
  e_M_go e_q21 e_k21 [2] 21 (by decide +kernel) rfl rfl (H) (e_h0 rfl)
set_option maxRecDepth 20000 in
theorem vR_copy_44_8_p2 {x2 : Int32} {I : e_TI} {L : e_TL} {D : e_TD} {sc : e_TS} {Ψ : e_TI → e_TL → e_TD → Prop}
    (H : ((16 ≤ x2 → Ψ I L D) ∧ (¬ (16 ≤ x2) → ((16 ≤ x2 → Ψ I L D) ∧ (¬ (16 ≤ x2) → (vp_in x2 16 ∧ (vp_in x2 16 ∧ e_Wp 21 2 [some (.ref 44), some (.ref 8), some (.int (x2 + 1))] [] (S0 (e_up I 8 x2.toNatClampNeg (I 44 x2.toNatClampNeg)) L D sc) 0 0 (e_rV sc Ψ)))))))) : e_Wp 21 2 [some (.ref 44), some (.ref 8), some (.int x2)] [] (S0 I L D sc) 0 0 (e_rV sc Ψ) :=
  e_W_go e_q21 e_k21 [2] 21 2 (And.intro (fun c2 => e_rVi ((H).1 c2)) (fun c2 => And.intro (fun c1 => e_rVi ((((H).2 c2)).1 c1)) (fun c1 => And.intro (((((H).2 c2)).2 c1)).1 (And.intro ((((((H).2 c2)).2 c1)).2).1 (((((((H).2 c2)).2 c1)).2).2)))))
set_option maxRecDepth 20000 in
theorem vR_copy_45_9 {I : e_TI} {L : e_TL} {D : e_TD} {sc : e_TS} {Ψ : e_TI → e_TL → e_TD → Prop}
    (H : e_Wp 21 2 [some (.ref 45), some (.ref 9), some (.int 0)] [] (S0 I L D sc) 0 0 (e_rV sc Ψ)) : e_M 21 [.ref 45, .ref 9] (S0 I L D sc) (e_rV sc Ψ) :=
  e_M_go e_q21 e_k21 [2] 21 (by decide +kernel) rfl rfl (H) (e_h0 rfl)
set_option maxRecDepth 20000 in
theorem vR_copy_45_9_p2 {x2 : Int32} {I : e_TI} {L : e_TL} {D : e_TD} {sc : e_TS} {Ψ : e_TI → e_TL → e_TD → Prop}
    (H : ((16 ≤ x2 → Ψ I L D) ∧ (¬ (16 ≤ x2) → ((16 ≤ x2 → Ψ I L D) ∧ (¬ (16 ≤ x2) → (vp_in x2 16 ∧ (vp_in x2 16 ∧ e_Wp 21 2 [some (.ref 45), some (.ref 9), some (.int (x2 + 1))] [] (S0 (e_up I 9 x2.toNatClampNeg (I 45 x2.toNatClampNeg)) L D sc) 0 0 (e_rV sc Ψ)))))))) : e_Wp 21 2 [some (.ref 45), some (.ref 9), some (.int x2)] [] (S0 I L D sc) 0 0 (e_rV sc Ψ) :=
  e_W_go e_q21 e_k21 [2] 21 2 (And.intro (fun c2 => e_rVi ((H).1 c2)) (fun c2 => And.intro (fun c1 => e_rVi ((((H).2 c2)).1 c1)) (fun c1 => And.intro (((((H).2 c2)).2 c1)).1 (And.intro ((((((H).2 c2)).2 c1)).2).1 (((((((H).2 c2)).2 c1)).2).2)))))
set_option maxRecDepth 20000 in
theorem vR_copy_46_10 {I : e_TI} {L : e_TL} {D : e_TD} {sc : e_TS} {Ψ : e_TI → e_TL → e_TD → Prop}
    (H : e_Wp 21 2 [some (.ref 46), some (.ref 10), some (.int 0)] [] (S0 I L D sc) 0 0 (e_rV sc Ψ)) : e_M 21 [.ref 46, .ref 10] (S0 I L D sc) (e_rV sc Ψ) :=
  e_M_go e_q21 e_k21 [2] 21 (by decide +kernel) rfl rfl (H) (e_h0 rfl)
set_option maxRecDepth 20000 in
theorem vR_copy_46_10_p2 {x2 : Int32} {I : e_TI} {L : e_TL} {D : e_TD} {sc : e_TS} {Ψ : e_TI → e_TL → e_TD → Prop}
    (H : ((2 ≤ x2 → Ψ I L D) ∧ (¬ (2 ≤ x2) → ((2 ≤ x2 → Ψ I L D) ∧ (¬ (2 ≤ x2) → (vp_in x2 2 ∧ (vp_in x2 2 ∧ e_Wp 21 2 [some (.ref 46), some (.ref 10), some (.int (x2 + 1))] [] (S0 (e_up I 10 x2.toNatClampNeg (I 46 x2.toNatClampNeg)) L D sc) 0 0 (e_rV sc Ψ)))))))) : e_Wp 21 2 [some (.ref 46), some (.ref 10), some (.int x2)] [] (S0 I L D sc) 0 0 (e_rV sc Ψ) :=
  e_W_go e_q21 e_k21 [2] 21 2 (And.intro (fun c2 => e_rVi ((H).1 c2)) (fun c2 => And.intro (fun c1 => e_rVi ((((H).2 c2)).1 c1)) (fun c1 => And.intro (((((H).2 c2)).2 c1)).1 (And.intro ((((((H).2 c2)).2 c1)).2).1 (((((((H).2 c2)).2 c1)).2).2)))))
set_option maxRecDepth 20000 in
theorem vR_copy_47_11 {I : e_TI} {L : e_TL} {D : e_TD} {sc : e_TS} {Ψ : e_TI → e_TL → e_TD → Prop}
    (H : e_Wp 21 2 [some (.ref 47), some (.ref 11), some (.int 0)] [] (S0 I L D sc) 0 0 (e_rV sc Ψ)) : e_M 21 [.ref 47, .ref 11] (S0 I L D sc) (e_rV sc Ψ) :=
  e_M_go e_q21 e_k21 [2] 21 (by decide +kernel) rfl rfl (H) (e_h0 rfl)
set_option maxRecDepth 20000 in
theorem vR_copy_47_11_p2 {x2 : Int32} {I : e_TI} {L : e_TL} {D : e_TD} {sc : e_TS} {Ψ : e_TI → e_TL → e_TD → Prop}
    (H : ((2 ≤ x2 → Ψ I L D) ∧ (¬ (2 ≤ x2) → ((2 ≤ x2 → Ψ I L D) ∧ (¬ (2 ≤ x2) → (vp_in x2 2 ∧ (vp_in x2 2 ∧ e_Wp 21 2 [some (.ref 47), some (.ref 11), some (.int (x2 + 1))] [] (S0 (e_up I 11 x2.toNatClampNeg (I 47 x2.toNatClampNeg)) L D sc) 0 0 (e_rV sc Ψ)))))))) : e_Wp 21 2 [some (.ref 47), some (.ref 11), some (.int x2)] [] (S0 I L D sc) 0 0 (e_rV sc Ψ) :=
  e_W_go e_q21 e_k21 [2] 21 2 (And.intro (fun c2 => e_rVi ((H).1 c2)) (fun c2 => And.intro (fun c1 => e_rVi ((((H).2 c2)).1 c1)) (fun c1 => And.intro (((((H).2 c2)).2 c1)).1 (And.intro ((((((H).2 c2)).2 c1)).2).1 (((((((H).2 c2)).2 c1)).2).2)))))
set_option maxRecDepth 20000 in
theorem vR_copy_48_12 {I : e_TI} {L : e_TL} {D : e_TD} {sc : e_TS} {Ψ : e_TI → e_TL → e_TD → Prop}
    (H : e_Wp 21 2 [some (.ref 48), some (.ref 12), some (.int 0)] [] (S0 I L D sc) 0 0 (e_rV sc Ψ)) : e_M 21 [.ref 48, .ref 12] (S0 I L D sc) (e_rV sc Ψ) :=
  e_M_go e_q21 e_k21 [2] 21 (by decide +kernel) rfl rfl (H) (e_h0 rfl)
set_option maxRecDepth 20000 in
theorem vR_copy_48_12_p2 {x2 : Int32} {I : e_TI} {L : e_TL} {D : e_TD} {sc : e_TS} {Ψ : e_TI → e_TL → e_TD → Prop}
    (H : ((2 ≤ x2 → Ψ I L D) ∧ (¬ (2 ≤ x2) → ((2 ≤ x2 → Ψ I L D) ∧ (¬ (2 ≤ x2) → (vp_in x2 2 ∧ (vp_in x2 2 ∧ e_Wp 21 2 [some (.ref 48), some (.ref 12), some (.int (x2 + 1))] [] (S0 (e_up I 12 x2.toNatClampNeg (I 48 x2.toNatClampNeg)) L D sc) 0 0 (e_rV sc Ψ)))))))) : e_Wp 21 2 [some (.ref 48), some (.ref 12), some (.int x2)] [] (S0 I L D sc) 0 0 (e_rV sc Ψ) :=
  e_W_go e_q21 e_k21 [2] 21 2 (And.intro (fun c2 => e_rVi ((H).1 c2)) (fun c2 => And.intro (fun c1 => e_rVi ((((H).2 c2)).1 c1)) (fun c1 => And.intro (((((H).2 c2)).2 c1)).1 (And.intro ((((((H).2 c2)).2 c1)).2).1 (((((((H).2 c2)).2 c1)).2).2)))))
set_option maxRecDepth 20000 in
theorem vR_copy_49_13 {I : e_TI} {L : e_TL} {D : e_TD} {sc : e_TS} {Ψ : e_TI → e_TL → e_TD → Prop}
    (H : e_Wp 21 2 [some (.ref 49), some (.ref 13), some (.int 0)] [] (S0 I L D sc) 0 0 (e_rV sc Ψ)) : e_M 21 [.ref 49, .ref 13] (S0 I L D sc) (e_rV sc Ψ) :=
  e_M_go e_q21 e_k21 [2] 21 (by decide +kernel) rfl rfl (H) (e_h0 rfl)
set_option maxRecDepth 20000 in
theorem vR_copy_49_13_p2 {x2 : Int32} {I : e_TI} {L : e_TL} {D : e_TD} {sc : e_TS} {Ψ : e_TI → e_TL → e_TD → Prop}
    (H : ((2 ≤ x2 → Ψ I L D) ∧ (¬ (2 ≤ x2) → ((2 ≤ x2 → Ψ I L D) ∧ (¬ (2 ≤ x2) → (vp_in x2 2 ∧ (vp_in x2 2 ∧ e_Wp 21 2 [some (.ref 49), some (.ref 13), some (.int (x2 + 1))] [] (S0 (e_up I 13 x2.toNatClampNeg (I 49 x2.toNatClampNeg)) L D sc) 0 0 (e_rV sc Ψ)))))))) : e_Wp 21 2 [some (.ref 49), some (.ref 13), some (.int x2)] [] (S0 I L D sc) 0 0 (e_rV sc Ψ) :=
  e_W_go e_q21 e_k21 [2] 21 2 (And.intro (fun c2 => e_rVi ((H).1 c2)) (fun c2 => And.intro (fun c1 => e_rVi ((((H).2 c2)).1 c1)) (fun c1 => And.intro (((((H).2 c2)).2 c1)).1 (And.intro ((((((H).2 c2)).2 c1)).2).1 (((((((H).2 c2)).2 c1)).2).2)))))
set_option maxRecDepth 20000 in
theorem vR_copy_55_7 {I : e_TI} {L : e_TL} {D : e_TD} {sc : e_TS} {Ψ : e_TI → e_TL → e_TD → Prop}
    (H : e_Wp 21 2 [some (.ref 55), some (.ref 7), some (.int 0)] [] (S0 I L D sc) 0 0 (e_rV sc Ψ)) : e_M 21 [.ref 55, .ref 7] (S0 I L D sc) (e_rV sc Ψ) :=
  e_M_go e_q21 e_k21 [2] 21 (by decide +kernel) rfl rfl (H) (e_h0 rfl)
set_option maxRecDepth 20000 in
theorem vR_copy_55_7_p2 {x2 : Int32} {I : e_TI} {L : e_TL} {D : e_TD} {sc : e_TS} {Ψ : e_TI → e_TL → e_TD → Prop}
    (H : ((16 ≤ x2 → Ψ I L D) ∧ (¬ (16 ≤ x2) → ((16 ≤ x2 → Ψ I L D) ∧ (¬ (16 ≤ x2) → (vp_in x2 16 ∧ (vp_in x2 16 ∧ e_Wp 21 2 [some (.ref 55), some (.ref 7), some (.int (x2 + 1))] [] (S0 (e_up I 7 x2.toNatClampNeg (I 55 x2.toNatClampNeg)) L D sc) 0 0 (e_rV sc Ψ)))))))) : e_Wp 21 2 [some (.ref 55), some (.ref 7), some (.int x2)] [] (S0 I L D sc) 0 0 (e_rV sc Ψ) :=
  e_W_go e_q21 e_k21 [2] 21 2 (And.intro (fun c2 => e_rVi ((H).1 c2)) (fun c2 => And.intro (fun c1 => e_rVi ((((H).2 c2)).1 c1)) (fun c1 => And.intro (((((H).2 c2)).2 c1)).1 (And.intro ((((((H).2 c2)).2 c1)).2).1 (((((((H).2 c2)).2 c1)).2).2)))))
set_option maxRecDepth 20000 in
theorem vR_copy_56_8 {I : e_TI} {L : e_TL} {D : e_TD} {sc : e_TS} {Ψ : e_TI → e_TL → e_TD → Prop}
    (H : e_Wp 21 2 [some (.ref 56), some (.ref 8), some (.int 0)] [] (S0 I L D sc) 0 0 (e_rV sc Ψ)) : e_M 21 [.ref 56, .ref 8] (S0 I L D sc) (e_rV sc Ψ) :=
  e_M_go e_q21 e_k21 [2] 21 (by decide +kernel) rfl rfl (H) (e_h0 rfl)
set_option maxRecDepth 20000 in
theorem vR_copy_56_8_p2 {x2 : Int32} {I : e_TI} {L : e_TL} {D : e_TD} {sc : e_TS} {Ψ : e_TI → e_TL → e_TD → Prop}
    (H : ((16 ≤ x2 → Ψ I L D) ∧ (¬ (16 ≤ x2) → ((16 ≤ x2 → Ψ I L D) ∧ (¬ (16 ≤ x2) → (vp_in x2 16 ∧ (vp_in x2 16 ∧ e_Wp 21 2 [some (.ref 56), some (.ref 8), some (.int (x2 + 1))] [] (S0 (e_up I 8 x2.toNatClampNeg (I 56 x2.toNatClampNeg)) L D sc) 0 0 (e_rV sc Ψ)))))))) : e_Wp 21 2 [some (.ref 56), some (.ref 8), some (.int x2)] [] (S0 I L D sc) 0 0 (e_rV sc Ψ) :=
  e_W_go e_q21 e_k21 [2] 21 2 (And.intro (fun c2 => e_rVi ((H).1 c2)) (fun c2 => And.intro (fun c1 => e_rVi ((((H).2 c2)).1 c1)) (fun c1 => And.intro (((((H).2 c2)).2 c1)).1 (And.intro ((((((H).2 c2)).2 c1)).2).1 (((((((H).2 c2)).2 c1)).2).2)))))
set_option maxRecDepth 20000 in
theorem vR_copy_57_9 {I : e_TI} {L : e_TL} {D : e_TD} {sc : e_TS} {Ψ : e_TI → e_TL → e_TD → Prop}
    (H : e_Wp 21 2 [some (.ref 57), some (.ref 9), some (.int 0)] [] (S0 I L D sc) 0 0 (e_rV sc Ψ)) : e_M 21 [.ref 57, .ref 9] (S0 I L D sc) (e_rV sc Ψ) :=
  e_M_go e_q21 e_k21 [2] 21 (by decide +kernel) rfl rfl (H) (e_h0 rfl)
set_option maxRecDepth 20000 in
theorem vR_copy_57_9_p2 {x2 : Int32} {I : e_TI} {L : e_TL} {D : e_TD} {sc : e_TS} {Ψ : e_TI → e_TL → e_TD → Prop}
    (H : ((16 ≤ x2 → Ψ I L D) ∧ (¬ (16 ≤ x2) → ((16 ≤ x2 → Ψ I L D) ∧ (¬ (16 ≤ x2) → (vp_in x2 16 ∧ (vp_in x2 16 ∧ e_Wp 21 2 [some (.ref 57), some (.ref 9), some (.int (x2 + 1))] [] (S0 (e_up I 9 x2.toNatClampNeg (I 57 x2.toNatClampNeg)) L D sc) 0 0 (e_rV sc Ψ)))))))) : e_Wp 21 2 [some (.ref 57), some (.ref 9), some (.int x2)] [] (S0 I L D sc) 0 0 (e_rV sc Ψ) :=
  e_W_go e_q21 e_k21 [2] 21 2 (And.intro (fun c2 => e_rVi ((H).1 c2)) (fun c2 => And.intro (fun c1 => e_rVi ((((H).2 c2)).1 c1)) (fun c1 => And.intro (((((H).2 c2)).2 c1)).1 (And.intro ((((((H).2 c2)).2 c1)).2).1 (((((((H).2 c2)).2 c1)).2).2)))))
set_option maxRecDepth 20000 in
theorem vR_copy_58_10 {I : e_TI} {L : e_TL} {D : e_TD} {sc : e_TS} {Ψ : e_TI → e_TL → e_TD → Prop}
    (H : e_Wp 21 2 [some (.ref 58), some (.ref 10), some (.int 0)] [] (S0 I L D sc) 0 0 (e_rV sc Ψ)) : e_M 21 [.ref 58, .ref 10] (S0 I L D sc) (e_rV sc Ψ) :=
  e_M_go e_q21 e_k21 [2] 21 (by decide +kernel) rfl rfl (H) (e_h0 rfl)
set_option maxRecDepth 20000 in
theorem vR_copy_58_10_p2 {x2 : Int32} {I : e_TI} {L : e_TL} {D : e_TD} {sc : e_TS} {Ψ : e_TI → e_TL → e_TD → Prop}
    (H : ((2 ≤ x2 → Ψ I L D) ∧ (¬ (2 ≤ x2) → ((2 ≤ x2 → Ψ I L D) ∧ (¬ (2 ≤ x2) → (vp_in x2 2 ∧ (vp_in x2 2 ∧ e_Wp 21 2 [some (.ref 58), some (.ref 10), some (.int (x2 + 1))] [] (S0 (e_up I 10 x2.toNatClampNeg (I 58 x2.toNatClampNeg)) L D sc) 0 0 (e_rV sc Ψ)))))))) : e_Wp 21 2 [some (.ref 58), some (.ref 10), some (.int x2)] [] (S0 I L D sc) 0 0 (e_rV sc Ψ) :=
  e_W_go e_q21 e_k21 [2] 21 2 (And.intro (fun c2 => e_rVi ((H).1 c2)) (fun c2 => And.intro (fun c1 => e_rVi ((((H).2 c2)).1 c1)) (fun c1 => And.intro (((((H).2 c2)).2 c1)).1 (And.intro ((((((H).2 c2)).2 c1)).2).1 (((((((H).2 c2)).2 c1)).2).2)))))
set_option maxRecDepth 20000 in
theorem vR_copy_59_11 {I : e_TI} {L : e_TL} {D : e_TD} {sc : e_TS} {Ψ : e_TI → e_TL → e_TD → Prop}
    (H : e_Wp 21 2 [some (.ref 59), some (.ref 11), some (.int 0)] [] (S0 I L D sc) 0 0 (e_rV sc Ψ)) : e_M 21 [.ref 59, .ref 11] (S0 I L D sc) (e_rV sc Ψ) :=
  e_M_go e_q21 e_k21 [2] 21 (by decide +kernel) rfl rfl (H) (e_h0 rfl)
set_option maxRecDepth 20000 in
theorem vR_copy_59_11_p2 {x2 : Int32} {I : e_TI} {L : e_TL} {D : e_TD} {sc : e_TS} {Ψ : e_TI → e_TL → e_TD → Prop}
    (H : ((2 ≤ x2 → Ψ I L D) ∧ (¬ (2 ≤ x2) → ((2 ≤ x2 → Ψ I L D) ∧ (¬ (2 ≤ x2) → (vp_in x2 2 ∧ (vp_in x2 2 ∧ e_Wp 21 2 [some (.ref 59), some (.ref 11), some (.int (x2 + 1))] [] (S0 (e_up I 11 x2.toNatClampNeg (I 59 x2.toNatClampNeg)) L D sc) 0 0 (e_rV sc Ψ)))))))) : e_Wp 21 2 [some (.ref 59), some (.ref 11), some (.int x2)] [] (S0 I L D sc) 0 0 (e_rV sc Ψ) :=
  e_W_go e_q21 e_k21 [2] 21 2 (And.intro (fun c2 => e_rVi ((H).1 c2)) (fun c2 => And.intro (fun c1 => e_rVi ((((H).2 c2)).1 c1)) (fun c1 => And.intro (((((H).2 c2)).2 c1)).1 (And.intro ((((((H).2 c2)).2 c1)).2).1 (((((((H).2 c2)).2 c1)).2).2)))))
set_option maxRecDepth 20000 in
theorem vR_copy_60_12 {I : e_TI} {L : e_TL} {D : e_TD} {sc : e_TS} {Ψ : e_TI → e_TL → e_TD → Prop}
    (H : e_Wp 21 2 [some (.ref 60), some (.ref 12), some (.int 0)] [] (S0 I L D sc) 0 0 (e_rV sc Ψ)) : e_M 21 [.ref 60, .ref 12] (S0 I L D sc) (e_rV sc Ψ) :=
  e_M_go e_q21 e_k21 [2] 21 (by decide +kernel) rfl rfl (H) (e_h0 rfl)
set_option maxRecDepth 20000 in
theorem vR_copy_60_12_p2 {x2 : Int32} {I : e_TI} {L : e_TL} {D : e_TD} {sc : e_TS} {Ψ : e_TI → e_TL → e_TD → Prop}
    (H : ((2 ≤ x2 → Ψ I L D) ∧ (¬ (2 ≤ x2) → ((2 ≤ x2 → Ψ I L D) ∧ (¬ (2 ≤ x2) → (vp_in x2 2 ∧ (vp_in x2 2 ∧ e_Wp 21 2 [some (.ref 60), some (.ref 12), some (.int (x2 + 1))] [] (S0 (e_up I 12 x2.toNatClampNeg (I 60 x2.toNatClampNeg)) L D sc) 0 0 (e_rV sc Ψ)))))))) : e_Wp 21 2 [some (.ref 60), some (.ref 12), some (.int x2)] [] (S0 I L D sc) 0 0 (e_rV sc Ψ) :=
  e_W_go e_q21 e_k21 [2] 21 2 (And.intro (fun c2 => e_rVi ((H).1 c2)) (fun c2 => And.intro (fun c1 => e_rVi ((((H).2 c2)).1 c1)) (fun c1 => And.intro (((((H).2 c2)).2 c1)).1 (And.intro ((((((H).2 c2)).2 c1)).2).1 (((((((H).2 c2)).2 c1)).2).2)))))
set_option maxRecDepth 20000 in
theorem vR_copy_61_13 {I : e_TI} {L : e_TL} {D : e_TD} {sc : e_TS} {Ψ : e_TI → e_TL → e_TD → Prop}
    (H : e_Wp 21 2 [some (.ref 61), some (.ref 13), some (.int 0)] [] (S0 I L D sc) 0 0 (e_rV sc Ψ)) : e_M 21 [.ref 61, .ref 13] (S0 I L D sc) (e_rV sc Ψ) :=
  e_M_go e_q21 e_k21 [2] 21 (by decide +kernel) rfl rfl (H) (e_h0 rfl)
set_option maxRecDepth 20000 in
theorem vR_copy_61_13_p2 {x2 : Int32} {I : e_TI} {L : e_TL} {D : e_TD} {sc : e_TS} {Ψ : e_TI → e_TL → e_TD → Prop}
    (H : ((2 ≤ x2 → Ψ I L D) ∧ (¬ (2 ≤ x2) → ((2 ≤ x2 → Ψ I L D) ∧ (¬ (2 ≤ x2) → (vp_in x2 2 ∧ (vp_in x2 2 ∧ e_Wp 21 2 [some (.ref 61), some (.ref 13), some (.int (x2 + 1))] [] (S0 (e_up I 13 x2.toNatClampNeg (I 61 x2.toNatClampNeg)) L D sc) 0 0 (e_rV sc Ψ)))))))) : e_Wp 21 2 [some (.ref 61), some (.ref 13), some (.int x2)] [] (S0 I L D sc) 0 0 (e_rV sc Ψ) :=
  e_W_go e_q21 e_k21 [2] 21 2 (And.intro (fun c2 => e_rVi ((H).1 c2)) (fun c2 => And.intro (fun c1 => e_rVi ((((H).2 c2)).1 c1)) (fun c1 => And.intro (((((H).2 c2)).2 c1)).1 (And.intro ((((((H).2 c2)).2 c1)).2).1 (((((((H).2 c2)).2 c1)).2).2)))))
set_option maxRecDepth 20000 in
theorem vR_copy_67_7 {I : e_TI} {L : e_TL} {D : e_TD} {sc : e_TS} {Ψ : e_TI → e_TL → e_TD → Prop}
    (H : e_Wp 21 2 [some (.ref 67), some (.ref 7), some (.int 0)] [] (S0 I L D sc) 0 0 (e_rV sc Ψ)) : e_M 21 [.ref 67, .ref 7] (S0 I L D sc) (e_rV sc Ψ) :=
  e_M_go e_q21 e_k21 [2] 21 (by decide +kernel) rfl rfl (H) (e_h0 rfl)
set_option maxRecDepth 20000 in
theorem vR_copy_67_7_p2 {x2 : Int32} {I : e_TI} {L : e_TL} {D : e_TD} {sc : e_TS} {Ψ : e_TI → e_TL → e_TD → Prop}
    (H : ((16 ≤ x2 → Ψ I L D) ∧ (¬ (16 ≤ x2) → ((16 ≤ x2 → Ψ I L D) ∧ (¬ (16 ≤ x2) → (vp_in x2 16 ∧ (vp_in x2 16 ∧ e_Wp 21 2 [some (.ref 67), some (.ref 7), some (.int (x2 + 1))] [] (S0 (e_up I 7 x2.toNatClampNeg (I 67 x2.toNatClampNeg)) L D sc) 0 0 (e_rV sc Ψ)))))))) : e_Wp 21 2 [some (.ref 67), some (.ref 7), some (.int x2)] [] (S0 I L D sc) 0 0 (e_rV sc Ψ) :=
  e_W_go e_q21 e_k21 [2] 21 2 (And.intro (fun c2 => e_rVi ((H).1 c2)) (fun c2 => And.intro (fun c1 => e_rVi ((((H).2 c2)).1 c1)) (fun c1 => And.intro (((((H).2 c2)).2 c1)).1 (And.intro ((((((H).2 c2)).2 c1)).2).1 (((((((H).2 c2)).2 c1)).2).2)))))
set_option maxRecDepth 20000 in
theorem vR_copy_68_8 {I : e_TI} {L : e_TL} {D : e_TD} {sc : e_TS} {Ψ : e_TI → e_TL → e_TD → Prop}
    (H : e_Wp 21 2 [some (.ref 68), some (.ref 8), some (.int 0)] [] (S0 I L D sc) 0 0 (e_rV sc Ψ)) : e_M 21 [.ref 68, .ref 8] (S0 I L D sc) (e_rV sc Ψ) :=
  e_M_go e_q21 e_k21 [2] 21 (by decide +kernel) rfl rfl (H) (e_h0 rfl)
set_option maxRecDepth 20000 in
theorem vR_copy_68_8_p2 {x2 : Int32} {I : e_TI} {L : e_TL} {D : e_TD} {sc : e_TS} {Ψ : e_TI → e_TL → e_TD → Prop}
    (H : ((16 ≤ x2 → Ψ I L D) ∧ (¬ (16 ≤ x2) → ((16 ≤ x2 → Ψ I L D) ∧ (¬ (16 ≤ x2) → (vp_in x2 16 ∧ (vp_in x2 16 ∧ e_Wp 21 2 [some (.ref 68), some (.ref 8), some (.int (x2 + 1))] [] (S0 (e_up I 8 x2.toNatClampNeg (I 68 x2.toNatClampNeg)) L D sc) 0 0 (e_rV sc Ψ)))))))) : e_Wp 21 2 [some (.ref 68), some (.ref 8), some (.int x2)] [] (S0 I L D sc) 0 0 (e_rV sc Ψ) :=
  e_W_go e_q21 e_k21 [2] 21 2 (And.intro (fun c2 => e_rVi ((H).1 c2)) (fun c2 => And.intro (fun c1 => e_rVi ((((H).2 c2)).1 c1)) (fun c1 => And.intro (((((H).2 c2)).2 c1)).1 (And.intro ((((((H).2 c2)).2 c1)).2).1 (((((((H).2 c2)).2 c1)).2).2)))))
set_option maxRecDepth 20000 in
theorem vR_copy_69_9 {I : e_TI} {L : e_TL} {D : e_TD} {sc : e_TS} {Ψ : e_TI → e_TL → e_TD → Prop}
    (H : e_Wp 21 2 [some (.ref 69), some (.ref 9), some (.int 0)] [] (S0 I L D sc) 0 0 (e_rV sc Ψ)) : e_M 21 [.ref 69, .ref 9] (S0 I L D sc) (e_rV sc Ψ) :=
  e_M_go e_q21 e_k21 [2] 21 (by decide +kernel) rfl rfl (H) (e_h0 rfl)
set_option maxRecDepth 20000 in
theorem vR_copy_69_9_p2 {x2 : Int32} {I : e_TI} {L : e_TL} {D : e_TD} {sc : e_TS} {Ψ : e_TI → e_TL → e_TD → Prop}
    (H : ((16 ≤ x2 → Ψ I L D) ∧ (¬ (16 ≤ x2) → ((16 ≤ x2 → Ψ I L D) ∧ (¬ (16 ≤ x2) → (vp_in x2 16 ∧ (vp_in x2 16 ∧ e_Wp 21 2 [some (.ref 69), some (.ref 9), some (.int (x2 + 1))] [] (S0 (e_up I 9 x2.toNatClampNeg (I 69 x2.toNatClampNeg)) L D sc) 0 0 (e_rV sc Ψ)))))))) : e_Wp 21 2 [some (.ref 69), some (.ref 9), some (.int x2)] [] (S0 I L D sc) 0 0 (e_rV sc Ψ) :=
  e_W_go e_q21 e_k21 [2] 21 2 (And.intro (fun c2 => e_rVi ((H).1 c2)) (fun c2 => And.intro (fun c1 => e_rVi ((((H).2 c2)).1 c1)) (fun c1 => And.intro (((((H).2 c2)).2 c1)).1 (And.intro ((((((H).2 c2)).2 c1)).2).1 (((((((H).2 c2)).2 c1)).2).2)))))
set_option maxRecDepth 20000 in
theorem vR_copy_70_10 {I : e_TI} {L : e_TL} {D : e_TD} {sc : e_TS} {Ψ : e_TI → e_TL → e_TD → Prop}
    (H : e_Wp 21 2 [some (.ref 70), some (.ref 10), some (.int 0)] [] (S0 I L D sc) 0 0 (e_rV sc Ψ)) : e_M 21 [.ref 70, .ref 10] (S0 I L D sc) (e_rV sc Ψ) :=
  e_M_go e_q21 e_k21 [2] 21 (by decide +kernel) rfl rfl (H) (e_h0 rfl)
set_option maxRecDepth 20000 in
theorem vR_copy_70_10_p2 {x2 : Int32} {I : e_TI} {L : e_TL} {D : e_TD} {sc : e_TS} {Ψ : e_TI → e_TL → e_TD → Prop}
    (H : ((2 ≤ x2 → Ψ I L D) ∧ (¬ (2 ≤ x2) → ((2 ≤ x2 → Ψ I L D) ∧ (¬ (2 ≤ x2) → (vp_in x2 2 ∧ (vp_in x2 2 ∧ e_Wp 21 2 [some (.ref 70), some (.ref 10), some (.int (x2 + 1))] [] (S0 (e_up I 10 x2.toNatClampNeg (I 70 x2.toNatClampNeg)) L D sc) 0 0 (e_rV sc Ψ)))))))) : e_Wp 21 2 [some (.ref 70), some (.ref 10), some (.int x2)] [] (S0 I L D sc) 0 0 (e_rV sc Ψ) :=
  e_W_go e_q21 e_k21 [2] 21 2 (And.intro (fun c2 => e_rVi ((H).1 c2)) (fun c2 => And.intro (fun c1 => e_rVi ((((H).2 c2)).1 c1)) (fun c1 => And.intro (((((H).2 c2)).2 c1)).1 (And.intro ((((((H).2 c2)).2 c1)).2).1 (((((((H).2 c2)).2 c1)).2).2)))))
set_option maxRecDepth 20000 in
theorem vR_copy_71_11 {I : e_TI} {L : e_TL} {D : e_TD} {sc : e_TS} {Ψ : e_TI → e_TL → e_TD → Prop}
    (H : e_Wp 21 2 [some (.ref 71), some (.ref 11), some (.int 0)] [] (S0 I L D sc) 0 0 (e_rV sc Ψ)) : e_M 21 [.ref 71, .ref 11] (S0 I L D sc) (e_rV sc Ψ) :=
  e_M_go e_q21 e_k21 [2] 21 (by decide +kernel) rfl rfl (H) (e_h0 rfl)
set_option maxRecDepth 20000 in
theorem vR_copy_71_11_p2 {x2 : Int32} {I : e_TI} {L : e_TL} {D : e_TD} {sc : e_TS} {Ψ : e_TI → e_TL → e_TD → Prop}
    (H : ((2 ≤ x2 → Ψ I L D) ∧ (¬ (2 ≤ x2) → ((2 ≤ x2 → Ψ I L D) ∧ (¬ (2 ≤ x2) → (vp_in x2 2 ∧ (vp_in x2 2 ∧ e_Wp 21 2 [some (.ref 71), some (.ref 11), some (.int (x2 + 1))] [] (S0 (e_up I 11 x2.toNatClampNeg (I 71 x2.toNatClampNeg)) L D sc) 0 0 (e_rV sc Ψ)))))))) : e_Wp 21 2 [some (.ref 71), some (.ref 11), some (.int x2)] [] (S0 I L D sc) 0 0 (e_rV sc Ψ) :=
  e_W_go e_q21 e_k21 [2] 21 2 (And.intro (fun c2 => e_rVi ((H).1 c2)) (fun c2 => And.intro (fun c1 => e_rVi ((((H).2 c2)).1 c1)) (fun c1 => And.intro (((((H).2 c2)).2 c1)).1 (And.intro ((((((H).2 c2)).2 c1)).2).1 (((((((H).2 c2)).2 c1)).2).2)))))
set_option maxRecDepth 20000 in
theorem vR_copy_72_12 {I : e_TI} {L : e_TL} {D : e_TD} {sc : e_TS} {Ψ : e_TI → e_TL → e_TD → Prop}
    (H : e_Wp 21 2 [some (.ref 72), some (.ref 12), some (.int 0)] [] (S0 I L D sc) 0 0 (e_rV sc Ψ)) : e_M 21 [.ref 72, .ref 12] (S0 I L D sc) (e_rV sc Ψ) :=
  e_M_go e_q21 e_k21 [2] 21 (by decide +kernel) rfl rfl (H) (e_h0 rfl)
set_option maxRecDepth 20000 in
theorem vR_copy_72_12_p2 {x2 : Int32} {I : e_TI} {L : e_TL} {D : e_TD} {sc : e_TS} {Ψ : e_TI → e_TL → e_TD → Prop}
    (H : ((2 ≤ x2 → Ψ I L D) ∧ (¬ (2 ≤ x2) → ((2 ≤ x2 → Ψ I L D) ∧ (¬ (2 ≤ x2) → (vp_in x2 2 ∧ (vp_in x2 2 ∧ e_Wp 21 2 [some (.ref 72), some (.ref 12), some (.int (x2 + 1))] [] (S0 (e_up I 12 x2.toNatClampNeg (I 72 x2.toNatClampNeg)) L D sc) 0 0 (e_rV sc Ψ)))))))) : e_Wp 21 2 [some (.ref 72), some (.ref 12), some (.int x2)] [] (S0 I L D sc) 0 0 (e_rV sc Ψ) :=
  e_W_go e_q21 e_k21 [2] 21 2 (And.intro (fun c2 => e_rVi ((H).1 c2)) (fun c2 => And.intro (fun c1 => e_rVi ((((H).2 c2)).1 c1)) (fun c1 => And.intro (((((H).2 c2)).2 c1)).1 (And.intro ((((((H).2 c2)).2 c1)).2).1 (((((((H).2 c2)).2 c1)).2).2)))))
set_option maxRecDepth 20000 in
theorem vR_copy_73_13 {I : e_TI} {L : e_TL} {D : e_TD} {sc : e_TS} {Ψ : e_TI → e_TL → e_TD → Prop}
    (H : e_Wp 21 2 [some (.ref 73), some (.ref 13), some (.int 0)] [] (S0 I L D sc) 0 0 (e_rV sc Ψ)) : e_M 21 [.ref 73, .ref 13] (S0 I L D sc) (e_rV sc Ψ) :=
  e_M_go e_q21 e_k21 [2] 21 (by decide +kernel) rfl rfl (H) (e_h0 rfl)
set_option maxRecDepth 20000 in
theorem vR_copy_73_13_p2 {x2 : Int32} {I : e_TI} {L : e_TL} {D : e_TD} {sc : e_TS} {Ψ : e_TI → e_TL → e_TD → Prop}
    (H : ((2 ≤ x2 → Ψ I L D) ∧ (¬ (2 ≤ x2) → ((2 ≤ x2 → Ψ I L D) ∧ (¬ (2 ≤ x2) → (vp_in x2 2 ∧ (vp_in x2 2 ∧ e_Wp 21 2 [some (.ref 73), some (.ref 13), some (.int (x2 + 1))] [] (S0 (e_up I 13 x2.toNatClampNeg (I 73 x2.toNatClampNeg)) L D sc) 0 0 (e_rV sc Ψ)))))))) : e_Wp 21 2 [some (.ref 73), some (.ref 13), some (.int x2)] [] (S0 I L D sc) 0 0 (e_rV sc Ψ) :=
  e_W_go e_q21 e_k21 [2] 21 2 (And.intro (fun c2 => e_rVi ((H).1 c2)) (fun c2 => And.intro (fun c1 => e_rVi ((((H).2 c2)).1 c1)) (fun c1 => And.intro (((((H).2 c2)).2 c1)).1 (And.intro ((((((H).2 c2)).2 c1)).2).1 (((((((H).2 c2)).2 c1)).2).2)))))
set_option maxRecDepth 20000 in
theorem vR_copy_79_7 {I : e_TI} {L : e_TL} {D : e_TD} {sc : e_TS} {Ψ : e_TI → e_TL → e_TD → Prop}
    (H : e_Wp 21 2 [some (.ref 79), some (.ref 7), some (.int 0)] [] (S0 I L D sc) 0 0 (e_rV sc Ψ)) : e_M 21 [.ref 79, .ref 7] (S0 I L D sc) (e_rV sc Ψ) :=
  e_M_go e_q21 e_k21 [2] 21 (by decide +kernel) rfl rfl (H) (e_h0 rfl)
set_option maxRecDepth 20000 in
theorem vR_copy_79_7_p2 {x2 : Int32} {I : e_TI} {L : e_TL} {D : e_TD} {sc : e_TS} {Ψ : e_TI → e_TL → e_TD → Prop}
    (H : ((16 ≤ x2 → Ψ I L D) ∧ (¬ (16 ≤ x2) → ((16 ≤ x2 → Ψ I L D) ∧ (¬ (16 ≤ x2) → (vp_in x2 16 ∧ (vp_in x2 16 ∧ e_Wp 21 2 [some (.ref 79), some (.ref 7), some (.int (x2 + 1))] [] (S0 (e_up I 7 x2.toNatClampNeg (I 79 x2.toNatClampNeg)) L D sc) 0 0 (e_rV sc Ψ)))))))) : e_Wp 21 2 [some (.ref 79), some (.ref 7), some (.int x2)] [] (S0 I L D sc) 0 0 (e_rV sc Ψ) :=
  e_W_go e_q21 e_k21 [2] 21 2 (And.intro (fun c2 => e_rVi ((H).1 c2)) (fun c2 => And.intro (fun c1 => e_rVi ((((H).2 c2)).1 c1)) (fun c1 => And.intro (((((H).2 c2)).2 c1)).1 (And.intro ((((((H).2 c2)).2 c1)).2).1 (((((((H).2 c2)).2 c1)).2).2)))))
set_option maxRecDepth 20000 in
theorem vR_copy_7_103 {I : e_TI} {L : e_TL} {D : e_TD} {sc : e_TS} {Ψ : e_TI → e_TL → e_TD → Prop}
    (H : e_Wp 21 2 [some (.ref 7), some (.ref 103), some (.int 0)] [] (S0 I L D sc) 0 0 (e_rV sc Ψ)) : e_M 21 [.ref 7, .ref 103] (S0 I L D sc) (e_rV sc Ψ) :=
  e_M_go e_q21 e_k21 [2] 21 (by decide +kernel) rfl rfl (H) (e_h0 rfl)
set_option maxRecDepth 20000 in
theorem vR_copy_7_103_p2 {x2 : Int32} {I : e_TI} {L : e_TL} {D : e_TD} {sc : e_TS} {Ψ : e_TI → e_TL → e_TD → Prop}
    (H : ((16 ≤ x2 → Ψ I L D) ∧ (¬ (16 ≤ x2) → ((16 ≤ x2 → Ψ I L D) ∧ (¬ (16 ≤ x2) → (vp_in x2 16 ∧ (vp_in x2 16 ∧ e_Wp 21 2 [some (.ref 7), some (.ref 103), some (.int (x2 + 1))] [] (S0 (e_up I 103 x2.toNatClampNeg (I 7 x2.toNatClampNeg)) L D sc) 0 0 (e_rV sc Ψ)))))))) : e_Wp 21 2 [some (.ref 7), some (.ref 103), some (.int x2)] [] (S0 I L D sc) 0 0 (e_rV sc Ψ) :=
  e_W_go e_q21 e_k21 [2] 21 2 (And.intro (fun c2 => e_rVi ((H).1 c2)) (fun c2 => And.intro (fun c1 => e_rVi ((((H).2 c2)).1 c1)) (fun c1 => And.intro (((((H).2 c2)).2 c1)).1 (And.intro ((((((H).2 c2)).2 c1)).2).1 (((((((H).2 c2)).2 c1)).2).2)))))
set_option maxRecDepth 20000 in
theorem vR_copy_7_115 {I : e_TI} {L : e_TL} {D : e_TD} {sc : e_TS} {Ψ : e_TI → e_TL → e_TD → Prop}
    (H : e_Wp 21 2 [some (.ref 7), some (.ref 115), some (.int 0)] [] (S0 I L D sc) 0 0 (e_rV sc Ψ)) : e_M 21 [.ref 7, .ref 115] (S0 I L D sc) (e_rV sc Ψ) :=
  e_M_go e_q21 e_k21 [2] 21 (by decide +kernel) rfl rfl (H) (e_h0 rfl)
set_option maxRecDepth 20000 in
theorem vR_copy_7_115_p2 {x2 : Int32} {I : e_TI} {L : e_TL} {D : e_TD} {sc : e_TS} {Ψ : e_TI → e_TL → e_TD → Prop}
    (H : ((16 ≤ x2 → Ψ I L D) ∧ (¬ (16 ≤ x2) → ((16 ≤ x2 → Ψ I L D) ∧ (¬ (16 ≤ x2) → (vp_in x2 16 ∧ (vp_in x2 16 ∧ e_Wp 21 2 [some (.ref 7), some (.ref 115), some (.int (x2 + 1))] [] (S0 (e_up I 115 x2.toNatClampNeg (I 7 x2.toNatClampNeg)) L D sc) 0 0 (e_rV sc Ψ)))))))) : e_Wp 21 2 [some (.ref 7), some (.ref 115), some (.int x2)] [] (S0 I L D sc) 0 0 (e_rV sc Ψ) :=
  e_W_go e_q21 e_k21 [2] 21 2 (And.intro (fun c2 => e_rVi ((H).1 c2)) (fun c2 => And.intro (fun c1 => e_rVi ((((H).2 c2)).1 c1)) (fun c1 => And.intro (((((H).2 c2)).2 c1)).1 (And.intro ((((((H).2 c2)).2 c1)).2).1 (((((((H).2 c2)).2 c1)).2).2)))))
set_option maxRecDepth 20000 in
theorem vR_copy_7_127 {I : e_TI} {L : e_TL} {D : e_TD} {sc : e_TS} {Ψ : e_TI → e_TL → e_TD → Prop}
    (H : e_Wp 21 2 [some (.ref 7), some (.ref 127), some (.int 0)] [] (S0 I L D sc) 0 0 (e_rV sc Ψ)) : e_M 21 [.ref 7, .ref 127] (S0 I L D sc) (e_rV sc Ψ) :=
  e_M_go e_q21 e_k21 [2] 21 (by decide +kernel) rfl rfl (H) (e_h0 rfl)
set_option maxRecDepth 20000 in
theorem vR_copy_7_127_p2 {x2 : Int32} {I : e_TI} {L : e_TL} {D : e_TD} {sc : e_TS} {Ψ : e_TI → e_TL → e_TD → Prop}
    (H : ((16 ≤ x2 → Ψ I L D) ∧ (¬ (16 ≤ x2) → ((16 ≤ x2 → Ψ I L D) ∧ (¬ (16 ≤ x2) → (vp_in x2 16 ∧ (vp_in x2 16 ∧ e_Wp 21 2 [some (.ref 7), some (.ref 127), some (.int (x2 + 1))] [] (S0 (e_up I 127 x2.toNatClampNeg (I 7 x2.toNatClampNeg)) L D sc) 0 0 (e_rV sc Ψ)))))))) : e_Wp 21 2 [some (.ref 7), some (.ref 127), some (.int x2)] [] (S0 I L D sc) 0 0 (e_rV sc Ψ) :=
  e_W_go e_q21 e_k21 [2] 21 2 (And.intro (fun c2 => e_rVi ((H).1 c2)) (fun c2 => And.intro (fun c1 => e_rVi ((((H).2 c2)).1 c1)) (fun c1 => And.intro (((((H).2 c2)).2 c1)).1 (And.intro ((((((H).2 c2)).2 c1)).2).1 (((((((H).2 c2)).2 c1)).2).2)))))
set_option maxRecDepth 20000 in
theorem vR_copy_7_29 {I : e_TI} {L : e_TL} {D : e_TD} {sc : e_TS} {Ψ : e_TI → e_TL → e_TD → Prop}
    (H : e_Wp 21 2 [some (.ref 7), some (.ref 29), some (.int 0)] [] (S0 I L D sc) 0 0 (e_rV sc Ψ)) : e_M 21 [.ref 7, .ref 29] (S0 I L D sc) (e_rV sc Ψ) :=
  e_M_go e_q21 e_k21 [2] 21 (by decide +kernel) rfl rfl (H) (e_h0 rfl)
set_option maxRecDepth 20000 in
theorem vR_copy_7_29_p2 {x2 : Int32} {I : e_TI} {L : e_TL} {D : e_TD} {sc : e_TS} {Ψ : e_TI → e_TL → e_TD → Prop}
    (H : ((16 ≤ x2 → Ψ I L D) ∧ (¬ (16 ≤ x2) → ((16 ≤ x2 → Ψ I L D) ∧ (¬ (16 ≤ x2) → (vp_in x2 16 ∧ (vp_in x2 16 ∧ e_Wp 21 2 [some (.ref 7), some (.ref 29), some (.int (x2 + 1))] [] (S0 (e_up I 29 x2.toNatClampNeg (I 7 x2.toNatClampNeg)) L D sc) 0 0 (e_rV sc Ψ)))))))) : e_Wp 21 2 [some (.ref 7), some (.ref 29), some (.int x2)] [] (S0 I L D sc) 0 0 (e_rV sc Ψ) :=
  e_W_go e_q21 e_k21 [2] 21 2 (And.intro (fun c2 => e_rVi ((H).1 c2)) (fun c2 => And.intro (fun c1 => e_rVi ((((H).2 c2)).1 c1)) (fun c1 => And.intro (((((H).2 c2)).2 c1)).1 (And.intro ((((((H).2 c2)).2 c1)).2).1 (((((((H).2 c2)).2 c1)).2).2)))))
set_option maxRecDepth 20000 in
theorem vR_copy_7_43 {I : e_TI} {L : e_TL} {D : e_TD} {sc : e_TS} {Ψ : e_TI → e_TL → e_TD → Prop}
    (H : e_Wp 21 2 [some (.ref 7), some (.ref 43), some (.int 0)] [] (S0 I L D sc) 0 0 (e_rV sc Ψ)) : e_M 21 [.ref 7, .ref 43] (S0 I L D sc) (e_rV sc Ψ) :=
  e_M_go e_q21 e_k21 [2] 21 (by decide +kernel) rfl rfl (H) (e_h0 rfl)
set_option maxRecDepth 20000 in
theorem vR_copy_7_43_p2 {x2 : Int32} {I : e_TI} {L : e_TL} {D : e_TD} {sc : e_TS} {Ψ : e_TI → e_TL → e_TD → Prop}
    (H : ((16 ≤ x2 → Ψ I L D) ∧ (¬ (16 ≤ x2) → ((16 ≤ x2 → Ψ I L D) ∧ (¬ (16 ≤ x2) → (vp_in x2 16 ∧ (vp_in x2 16 ∧ e_Wp 21 2 [some (.ref 7), some (.ref 43), some (.int (x2 + 1))] [] (S0 (e_up I 43 x2.toNatClampNeg (I 7 x2.toNatClampNeg)) L D sc) 0 0 (e_rV sc Ψ)))))))) : e_Wp 21 2 [some (.ref 7), some (.ref 43), some (.int x2)] [] (S0 I L D sc) 0 0 (e_rV sc Ψ) :=
  e_W_go e_q21 e_k21 [2] 21 2 (And.intro (fun c2 => e_rVi ((H).1 c2)) (fun c2 => And.intro (fun c1 => e_rVi ((((H).2 c2)).1 c1)) (fun c1 => And.intro (((((H).2 c2)).2 c1)).1 (And.intro ((((((H).2 c2)).2 c1)).2).1 (((((((H).2 c2)).2 c1)).2).2)))))
set_option maxRecDepth 20000 in
theorem vR_copy_7_55 {I : e_TI} {L : e_TL} {D : e_TD} {sc : e_TS} {Ψ : e_TI → e_TL → e_TD → Prop}
    (H : e_Wp 21 2 [some (.ref 7), some (.ref 55), some (.int 0)] [] (S0 I L D sc) 0 0 (e_rV sc Ψ)) : e_M 21 [.ref 7, .ref 55] (S0 I L D sc) (e_rV sc Ψ) :=
  e_M_go e_q21 e_k21 [2] 21 (by decide +kernel) rfl rfl (H) (e_h0 rfl)
set_option maxRecDepth 20000 in
theorem vR_copy_7_55_p2 {x2 : Int32} {I : e_TI} {L : e_TL} {D : e_TD} {sc : e_TS} {Ψ : e_TI → e_TL → e_TD → Prop}
    (H : ((16 ≤ x2 → Ψ I L D) ∧ (¬ (16 ≤ x2) → ((16 ≤ x2 → Ψ I L D) ∧ (¬ (16 ≤ x2) → (vp_in x2 16 ∧ (vp_in x2 16 ∧ e_Wp 21 2 [some (.ref 7), some (.ref 55), some (.int (x2 + 1))] [] (S0 (e_up I 55 x2.toNatClampNeg (I 7 x2.toNatClampNeg)) L D sc) 0 0 (e_rV sc Ψ)))))))) : e_Wp 21 2 [some (.ref 7), some (.ref 55), some (.int x2)] [] (S0 I L D sc) 0 0 (e_rV sc Ψ) :=
  e_W_go e_q21 e_k21 [2] 21 2 (And.intro (fun c2 => e_rVi ((H).1 c2)) (fun c2 => And.intro (fun c1 => e_rVi ((((H).2 c2)).1 c1)) (fun c1 => And.intro (((((H).2 c2)).2 c1)).1 (And.intro ((((((H).2 c2)).2 c1)).2).1 (((((((H).2 c2)).2 c1)).2).2)))))
set_option maxRecDepth 20000 in
theorem vR_copy_7_67 {I : e_TI} {L : e_TL} {D : e_TD} {sc : e_TS} {Ψ : e_TI → e_TL → e_TD → Prop}
    (H : e_Wp 21 2 [some (.ref 7), some (.ref 67), some (.int 0)] [] (S0 I L D sc) 0 0 (e_rV sc Ψ)) : e_M 21 [.ref 7, .ref 67] (S0 I L D sc) (e_rV sc Ψ) :=
  e_M_go e_q21 e_k21 [2] 21 (by decide +kernel) rfl rfl (H) (e_h0 rfl)
set_option maxRecDepth 20000 in
theorem vR_copy_7_67_p2 {x2 : Int32} {I : e_TI} {L : e_TL} {D : e_TD} {sc : e_TS} {Ψ : e_TI → e_TL → e_TD → Prop}
    (H : ((16 ≤ x2 → Ψ I L D) ∧ (¬ (16 ≤ x2) → ((16 ≤ x2 → Ψ I L D) ∧ (¬ (16 ≤ x2) → (vp_in x2 16 ∧ (vp_in x2 16 ∧ e_Wp 21 2 [some (.ref 7), some (.ref 67), some (.int (x2 + 1))] [] (S0 (e_up I 67 x2.toNatClampNeg (I 7 x2.toNatClampNeg)) L D sc) 0 0 (e_rV sc Ψ)))))))) : e_Wp 21 2 [some (.ref 7), some (.ref 67), some (.int x2)] [] (S0 I L D sc) 0 0 (e_rV sc Ψ) :=
  e_W_go e_q21 e_k21 [2] 21 2 (And.intro (fun c2 => e_rVi ((H).1 c2)) (fun c2 => And.intro (fun c1 => e_rVi ((((H).2 c2)).1 c1)) (fun c1 => And.intro (((((H).2 c2)).2 c1)).1 (And.intro ((((((H).2 c2)).2 c1)).2).1 (((((((H).2 c2)).2 c1)).2).2)))))
set_option maxRecDepth 20000 in
theorem vR_copy_7_79 {I : e_TI} {L : e_TL} {D : e_TD} {sc : e_TS} {Ψ : e_TI → e_TL → e_TD → Prop}
    (H : e_Wp 21 2 [some (.ref 7), some (.ref 79), some (.int 0)] [] (S0 I L D sc) 0 0 (e_rV sc Ψ)) : e_M 21 [.ref 7, .ref 79] (S0 I L D sc) (e_rV sc Ψ) :=
  e_M_go e_q21 e_k21 [2] 21 (by decide +kernel) rfl rfl (H) (e_h0 rfl)
set_option maxRecDepth 20000 in
theorem vR_copy_7_79_p2 {x2 : Int32} {I : e_TI} {L : e_TL} {D : e_TD} {sc : e_TS} {Ψ : e_TI → e_TL → e_TD → Prop}
    (H : ((16 ≤ x2 → Ψ I L D) ∧ (¬ (16 ≤ x2) → ((16 ≤ x2 → Ψ I L D) ∧ (¬ (16 ≤ x2) → (vp_in x2 16 ∧ (vp_in x2 16 ∧ e_Wp 21 2 [some (.ref 7), some (.ref 79), some (.int (x2 + 1))] [] (S0 (e_up I 79 x2.toNatClampNeg (I 7 x2.toNatClampNeg)) L D sc) 0 0 (e_rV sc Ψ)))))))) : e_Wp 21 2 [some (.ref 7), some (.ref 79), some (.int x2)] [] (S0 I L D sc) 0 0 (e_rV sc Ψ) :=
  e_W_go e_q21 e_k21 [2] 21 2 (And.intro (fun c2 => e_rVi ((H).1 c2)) (fun c2 => And.intro (fun c1 => e_rVi ((((H).2 c2)).1 c1)) (fun c1 => And.intro (((((H).2 c2)).2 c1)).1 (And.intro ((((((H).2 c2)).2 c1)).2).1 (((((((H).2 c2)).2 c1)).2).2)))))
set_option maxRecDepth 20000 in
theorem vR_copy_7_91 {I : e_TI} {L : e_TL} {D : e_TD} {sc : e_TS} {Ψ : e_TI → e_TL → e_TD → Prop}
    (H : e_Wp 21 2 [some (.ref 7), some (.ref 91), some (.int 0)] [] (S0 I L D sc) 0 0 (e_rV sc Ψ)) : e_M 21 [.ref 7, .ref 91] (S0 I L D sc) (e_rV sc Ψ) :=
  e_M_go e_q21 e_k21 [2] 21 (by decide +kernel) rfl rfl (H) (e_h0 rfl)
set_option maxRecDepth 20000 in
theorem vR_copy_7_91_p2 {x2 : Int32} {I : e_TI} {L : e_TL} {D : e_TD} {sc : e_TS} {Ψ : e_TI → e_TL → e_TD → Prop}
    (H : ((16 ≤ x2 → Ψ I L D) ∧ (¬ (16 ≤ x2) → ((16 ≤ x2 → Ψ I L D) ∧ (¬ (16 ≤ x2) → (vp_in x2 16 ∧ (vp_in x2 16 ∧ e_Wp 21 2 [some (.ref 7), some (.ref 91), some (.int (x2 + 1))] [] (S0 (e_up I 91 x2.toNatClampNeg (I 7 x2.toNatClampNeg)) L D sc) 0 0 (e_rV sc Ψ)))))))) : e_Wp 21 2 [some (.ref 7), some (.ref 91), some (.int x2)] [] (S0 I L D sc) 0 0 (e_rV sc Ψ) :=
  e_W_go e_q21 e_k21 [2] 21 2 (And.intro (fun c2 => e_rVi ((H).1 c2)) (fun c2 => And.intro (fun c1 => e_rVi ((((H).2 c2)).1 c1)) (fun c1 => And.intro (((((H).2 c2)).2 c1)).1 (And.intro ((((((H).2 c2)).2 c1)).2).1 (((((((H).2 c2)).2 c1)).2).2)))))
set_option maxRecDepth 20000 in
theorem vR_copy_80_8 {I : e_TI} {L : e_TL} {D : e_TD} {sc : e_TS} {Ψ : e_TI → e_TL → e_TD → Prop}
    (H : e_Wp 21 2 [some (.ref 80), some (.ref 8), some (.int 0)] [] (S0 I L D sc) 0 0 (e_rV sc Ψ)) : e_M 21 [.ref 80, .ref 8] (S0 I L D sc) (e_rV sc Ψ) :=
  e_M_go e_q21 e_k21 [2] 21 (by decide +kernel) rfl rfl (H) (e_h0 rfl)
set_option maxRecDepth 20000 in
theorem vR_copy_80_8_p2 {x2 : Int32} {I : e_TI} {L : e_TL} {D : e_TD} {sc : e_TS} {Ψ : e_TI → e_TL → e_TD → Prop}
    (H : ((16 ≤ x2 → Ψ I L D) ∧ (¬ (16 ≤ x2) → ((16 ≤ x2 → Ψ I L D) ∧ (¬ (16 ≤ x2) → (vp_in x2 16 ∧ (vp_in x2 16 ∧ e_Wp 21 2 [some (.ref 80), some (.ref 8), some (.int (x2 + 1))] [] (S0 (e_up I 8 x2.toNatClampNeg (I 80 x2.toNatClampNeg)) L D sc) 0 0 (e_rV sc Ψ)))))))) : e_Wp 21 2 [some (.ref 80), some (.ref 8), some (.int x2)] [] (S0 I L D sc) 0 0 (e_rV sc Ψ) :=
  e_W_go e_q21 e_k21 [2] 21 2 (And.intro (fun c2 => e_rVi ((H).1 c2)) (fun c2 => And.intro (fun c1 => e_rVi ((((H).2 c2)).1 c1)) (fun c1 => And.intro (((((H).2 c2)).2 c1)).1 (And.intro ((((((H).2 c2)).2 c1)).2).1 (((((((H).2 c2)).2 c1)).2).2)))))
set_option maxRecDepth 20000 in
theorem vR_copy_81_9 {I : e_TI} {L : e_TL} {D : e_TD} {sc : e_TS} {Ψ : e_TI → e_TL → e_TD → Prop}
    (H : e_Wp 21 2 [some (.ref 81), some (.ref 9), some (.int 0)] [] (S0 I L D sc) 0 0 (e_rV sc Ψ)) : e_M 21 [.ref 81, .ref 9] (S0 I L D sc) (e_rV sc Ψ) :=
  e_M_go e_q21 e_k21 [2] 21 (by decide +kernel) rfl rfl (H) (e_h0 rfl)
set_option maxRecDepth 20000 in
theorem vR_copy_81_9_p2 {x2 : Int32} {I : e_TI} {L : e_TL} {D : e_TD} {sc : e_TS} {Ψ : e_TI → e_TL → e_TD → Prop}
    (H : ((16 ≤ x2 → Ψ I L D) ∧ (¬ (16 ≤ x2) → ((16 ≤ x2 → Ψ I L D) ∧ (¬ (16 ≤ x2) → (vp_in x2 16 ∧ (vp_in x2 16 ∧ e_Wp 21 2 [some (.ref 81), some (.ref 9), some (.int (x2 + 1))] [] (S0 (e_up I 9 x2.toNatClampNeg (I 81 x2.toNatClampNeg)) L D sc) 0 0 (e_rV sc Ψ)))))))) : e_Wp 21 2 [some (.ref 81), some (.ref 9), some (.int x2)] [] (S0 I L D sc) 0 0 (e_rV sc Ψ) :=
  e_W_go e_q21 e_k21 [2] 21 2 (And.intro (fun c2 => e_rVi ((H).1 c2)) (fun c2 => And.intro (fun c1 => e_rVi ((((H).2 c2)).1 c1)) (fun c1 => And.intro (((((H).2 c2)).2 c1)).1 (And.intro ((((((H).2 c2)).2 c1)).2).1 (((((((H).2 c2)).2 c1)).2).2)))))
set_option maxRecDepth 20000 in
theorem vR_copy_82_10 {I : e_TI} {L : e_TL} {D : e_TD} {sc : e_TS} {Ψ : e_TI → e_TL → e_TD → Prop}
    (H : e_Wp 21 2 [some (.ref 82), some (.ref 10), some (.int 0)] [] (S0 I L D sc) 0 0 (e_rV sc Ψ)) : e_M 21 [.ref 82, .ref 10] (S0 I L D sc) (e_rV sc Ψ) :=
  e_M_go e_q21 e_k21 [2] 21 (by decide +kernel) rfl rfl (H) (e_h0 rfl)
set_option maxRecDepth 20000 in
theorem vR_copy_82_10_p2 {x2 : Int32} {I : e_TI} {L : e_TL} {D : e_TD} {sc : e_TS} {Ψ : e_TI → e_TL → e_TD → Prop}
    (H : ((2 ≤ x2 → Ψ I L D) ∧ (¬ (2 ≤ x2) → ((2 ≤ x2 → Ψ I L D) ∧ (¬ (2 ≤ x2) → (vp_in x2 2 ∧ (vp_in x2 2 ∧ e_Wp 21 2 [some (.ref 82), some (.ref 10), some (.int (x2 + 1))] [] (S0 (e_up I 10 x2.toNatClampNeg (I 82 x2.toNatClampNeg)) L D sc) 0 0 (e_rV sc Ψ)))))))) : e_Wp 21 2 [some (.ref 82), some (.ref 10), some (.int x2)] [] (S0 I L D sc) 0 0 (e_rV sc Ψ) :=
  e_W_go e_q21 e_k21 [2] 21 2 (And.intro (fun c2 => e_rVi ((H).1 c2)) (fun c2 => And.intro (fun c1 => e_rVi ((((H).2 c2)).1 c1)) (fun c1 => And.intro (((((H).2 c2)).2 c1)).1 (And.intro ((((((H).2 c2)).2 c1)).2).1 (((((((H).2 c2)).2 c1)).2).2)))))
set_option maxRecDepth 20000 in
theorem vR_copy_83_11 {I : e_TI} {L : e_TL} {D : e_TD} {sc : e_TS} {Ψ : e_TI → e_TL → e_TD → Prop}
    (H : e_Wp 21 2 [some (.ref 83), some (.ref 11), some (.int 0)] [] (S0 I L D sc) 0 0 (e_rV sc Ψ)) : e_M 21 [.ref 83, .ref 11] (S0 I L D sc) (e_rV sc Ψ) :=
  e_M_go e_q21 e_k21 [2] 21 (by decide +kernel) rfl rfl (H) (e_h0 rfl)
set_option maxRecDepth 20000 in
theorem vR_copy_83_11_p2 {x2 : Int32} {I : e_TI} {L : e_TL} {D : e_TD} {sc : e_TS} {Ψ : e_TI → e_TL → e_TD → Prop}
    (H : ((2 ≤ x2 → Ψ I L D) ∧ (¬ (2 ≤ x2) → ((2 ≤ x2 → Ψ I L D) ∧ (¬ (2 ≤ x2) → (vp_in x2 2 ∧ (vp_in x2 2 ∧ e_Wp 21 2 [some (.ref 83), some (.ref 11), some (.int (x2 + 1))] [] (S0 (e_up I 11 x2.toNatClampNeg (I 83 x2.toNatClampNeg)) L D sc) 0 0 (e_rV sc Ψ)))))))) : e_Wp 21 2 [some (.ref 83), some (.ref 11), some (.int x2)] [] (S0 I L D sc) 0 0 (e_rV sc Ψ) :=
  e_W_go e_q21 e_k21 [2] 21 2 (And.intro (fun c2 => e_rVi ((H).1 c2)) (fun c2 => And.intro (fun c1 => e_rVi ((((H).2 c2)).1 c1)) (fun c1 => And.intro (((((H).2 c2)).2 c1)).1 (And.intro ((((((H).2 c2)).2 c1)).2).1 (((((((H).2 c2)).2 c1)).2).2)))))
set_option maxRecDepth 20000 in
theorem vR_copy_84_12 {I : e_TI} {L : e_TL} {D : e_TD} {sc : e_TS} {Ψ : e_TI → e_TL → e_TD → Prop}
    (H : e_Wp 21 2 [some (.ref 84), some (.ref 12), some (.int 0)] [] (S0 I L D sc) 0 0 (e_rV sc Ψ)) : e_M 21 [.ref 84, .ref 12] (S0 I L D sc) (e_rV sc Ψ) :=
  e_M_go e_q21 e_k21 [2] 21 (by decide +kernel) rfl rfl (H) (e_h0 rfl)
set_option maxRecDepth 20000 in
theorem vR_copy_84_12_p2 {x2 : Int32} {I : e_TI} {L : e_TL} {D : e_TD} {sc : e_TS} {Ψ : e_TI → e_TL → e_TD → Prop}
    (H : ((2 ≤ x2 → Ψ I L D) ∧ (¬ (2 ≤ x2) → ((2 ≤ x2 → Ψ I L D) ∧ (¬ (2 ≤ x2) → (vp_in x2 2 ∧ (vp_in x2 2 ∧ e_Wp 21 2 [some (.ref 84), some (.ref 12), some (.int (x2 + 1))] [] (S0 (e_up I 12 x2.toNatClampNeg (I 84 x2.toNatClampNeg)) L D sc) 0 0 (e_rV sc Ψ)))))))) : e_Wp 21 2 [some (.ref 84), some (.ref 12), some (.int x2)] [] (S0 I L D sc) 0 0 (e_rV sc Ψ) :=
  e_W_go e_q21 e_k21 [2] 21 2 (And.intro (fun c2 => e_rVi ((H).1 c2)) (fun c2 => And.intro (fun c1 => e_rVi ((((H).2 c2)).1 c1)) (fun c1 => And.intro (((((H).2 c2)).2 c1)).1 (And.intro ((((((H).2 c2)).2 c1)).2).1 (((((((H).2 c2)).2 c1)).2).2)))))
set_option maxRecDepth 20000 in
theorem vR_copy_85_13 {I : e_TI} {L : e_TL} {D : e_TD} {sc : e_TS} {Ψ : e_TI → e_TL → e_TD → Prop}
    (H : e_Wp 21 2 [some (.ref 85), some (.ref 13), some (.int 0)] [] (S0 I L D sc) 0 0 (e_rV sc Ψ)) : e_M 21 [.ref 85, .ref 13] (S0 I L D sc) (e_rV sc Ψ) :=
  e_M_go e_q21 e_k21 [2] 21 (by decide +kernel) rfl rfl (H) (e_h0 rfl)
set_option maxRecDepth 20000 in
theorem vR_copy_85_13_p2 {x2 : Int32} {I : e_TI} {L : e_TL} {D : e_TD} {sc : e_TS} {Ψ : e_TI → e_TL → e_TD → Prop}
    (H : ((2 ≤ x2 → Ψ I L D) ∧ (¬ (2 ≤ x2) → ((2 ≤ x2 → Ψ I L D) ∧ (¬ (2 ≤ x2) → (vp_in x2 2 ∧ (vp_in x2 2 ∧ e_Wp 21 2 [some (.ref 85), some (.ref 13), some (.int (x2 + 1))] [] (S0 (e_up I 13 x2.toNatClampNeg (I 85 x2.toNatClampNeg)) L D sc) 0 0 (e_rV sc Ψ)))))))) : e_Wp 21 2 [some (.ref 85), some (.ref 13), some (.int x2)] [] (S0 I L D sc) 0 0 (e_rV sc Ψ) :=
  e_W_go e_q21 e_k21 [2] 21 2 (And.intro (fun c2 => e_rVi ((H).1 c2)) (fun c2 => And.intro (fun c1 => e_rVi ((((H).2 c2)).1 c1)) (fun c1 => And.intro (((((H).2 c2)).2 c1)).1 (And.intro ((((((H).2 c2)).2 c1)).2).1 (((((((H).2 c2)).2 c1)).2).2)))))
set_option maxRecDepth 20000 in
theorem vR_copy_8_104 {I : e_TI} {L : e_TL} {D : e_TD} {sc : e_TS} {Ψ : e_TI → e_TL → e_TD → Prop}
    (H : e_Wp 21 2 [some (.ref 8), some (.ref 104), some (.int 0)] [] (S0 I L D sc) 0 0 (e_rV sc Ψ)) : e_M 21 [.ref 8, .ref 104] (S0 I L D sc) (e_rV sc Ψ) :=
  e_M_go e_q21 e_k21 [2] 21 (by decide +kernel) rfl rfl (H) (e_h0 rfl)
set_option maxRecDepth 20000 in
theorem vR_copy_8_104_p2 {x2 : Int32} {I : e_TI} {L : e_TL} {D : e_TD} {sc : e_TS} {Ψ : e_TI → e_TL → e_TD → Prop}
    (H : ((16 ≤ x2 → Ψ I L D) ∧ (¬ (16 ≤ x2) → ((16 ≤ x2 → Ψ I L D) ∧ (¬ (16 ≤ x2) → (vp_in x2 16 ∧ (vp_in x2 16 ∧ e_Wp 21 2 [some (.ref 8), some (.ref 104), some (.int (x2 + 1))] [] (S0 (e_up I 104 x2.toNatClampNeg (I 8 x2.toNatClampNeg)) L D sc) 0 0 (e_rV sc Ψ)))))))) : e_Wp 21 2 [some (.ref 8), some (.ref 104), some (.int x2)] [] (S0 I L D sc) 0 0 (e_rV sc Ψ) :=
  e_W_go e_q21 e_k21 [2] 21 2 (And.intro (fun c2 => e_rVi ((H).1 c2)) (fun c2 => And.intro (fun c1 => e_rVi ((((H).2 c2)).1 c1)) (fun c1 => And.intro (((((H).2 c2)).2 c1)).1 (And.intro ((((((H).2 c2)).2 c1)).2).1 (((((((H).2 c2)).2 c1)).2).2)))))
set_option maxRecDepth 20000 in
theorem vR_copy_8_116 {I : e_TI} {L : e_TL} {D : e_TD} {sc : e_TS} {Ψ : e_TI → e_TL → e_TD → Prop}
    (H : e_Wp 21 2 [some (.ref 8), some (.ref 116), some (.int 0)] [] (S0 I L D sc) 0 0 (e_rV sc Ψ)) : e_M 21 [.ref 8, .ref 116] (S0 I L D sc) (e_rV sc Ψ) :=
  e_M_go e_q21 e_k21 [2] 21 (by decide +kernel) rfl rfl (H) (e_h0 rfl)
set_option maxRecDepth 20000 in
theorem vR_copy_8_116_p2 {x2 : Int32} {I : e_TI} {L : e_TL} {D : e_TD} {sc : e_TS} {Ψ : e_TI → e_TL → e_TD → Prop}
    (H : ((16 ≤ x2 → Ψ I L D) ∧ (¬ (16 ≤ x2) → ((16 ≤ x2 → Ψ I L D) ∧ (¬ (16 ≤ x2) → (vp_in x2 16 ∧ (vp_in x2 16 ∧ e_Wp 21 2 [some (.ref 8), some (.ref 116), some (.int (x2 + 1))] [] (S0 (e_up I 116 x2.toNatClampNeg (I 8 x2.toNatClampNeg)) L D sc) 0 0 (e_rV sc Ψ)))))))) : e_Wp 21 2 [some (.ref 8), some (.ref 116), some (.int x2)] [] (S0 I L D sc) 0 0 (e_rV sc Ψ) :=
  e_W_go e_q21 e_k21 [2] 21 2 (And.intro (fun c2 => e_rVi ((H).1 c2)) (fun c2 => And.intro (fun c1 => e_rVi ((((H).2 c2)).1 c1)) (fun c1 => And.intro (((((H).2 c2)).2 c1)).1 (And.intro ((((((H).2 c2)).2 c1)).2).1 (((((((H).2 c2)).2 c1)).2).2)))))
set_option maxRecDepth 20000 in
theorem vR_copy_8_128 {I : e_TI} {L : e_TL} {D : e_TD} {sc : e_TS} {Ψ : e_TI → e_TL → e_TD → Prop}
    (H : e_Wp 21 2 [some (.ref 8), some (.ref 128), some (.int 0)] [] (S0 I L D sc) 0 0 (e_rV sc Ψ)) : e_M 21 [.ref 8, .ref 128] (S0 I L D sc) (e_rV sc Ψ) :=
  e_M_go e_q21 e_k21 [2] 21 (by decide +kernel) rfl rfl (H) (e_h0 rfl)
set_option maxRecDepth 20000 in
theorem vR_copy_8_128_p2 {x2 : Int32} {I : e_TI} {L : e_TL} {D : e_TD} {sc : e_TS} {Ψ : e_TI → e_TL → e_TD → Prop}
    (H : ((16 ≤ x2 → Ψ I L D) ∧ (¬ (16 ≤ x2) → ((16 ≤ x2 → Ψ I L D) ∧ (¬ (16 ≤ x2) → (vp_in x2 16 ∧ (vp_in x2 16 ∧ e_Wp 21 2 [some (.ref 8), some (.ref 128), some (.int (x2 + 1))] [] (S0 (e_up I 128 x2.toNatClampNeg (I 8 x2.toNatClampNeg)) L D sc) 0 0 (e_rV sc Ψ)))))))) : e_Wp 21 2 [some (.ref 8), some (.ref 128), some (.int x2)] [] (S0 I L D sc) 0 0 (e_rV sc Ψ) :=
  e_W_go e_q21 e_k21 [2] 21 2 (And.intro (fun c2 => e_rVi ((H).1 c2)) (fun c2 => And.intro (fun c1 => e_rVi ((((H).2 c2)).1 c1)) (fun c1 => And.intro (((((H).2 c2)).2 c1)).1 (And.intro ((((((H).2 c2)).2 c1)).2).1 (((((((H).2 c2)).2 c1)).2).2)))))
set_option maxRecDepth 20000 in
theorem vR_copy_8_30 {I : e_TI} {L : e_TL} {D : e_TD} {sc : e_TS} {Ψ : e_TI → e_TL → e_TD → Prop}
    (H : e_Wp 21 2 [some (.ref 8), some (.ref 30), some (.int 0)] [] (S0 I L D sc) 0 0 (e_rV sc Ψ)) : e_M 21 [.ref 8, .ref 30] (S0 I L D sc) (e_rV sc Ψ) :=
  e_M_go e_q21 e_k21 [2] 21 (by decide +kernel) rfl rfl (H) (e_h0 rfl)
set_option maxRecDepth 20000 in
theorem vR_copy_8_30_p2 {x2 : Int32} {I : e_TI} {L : e_TL} {D : e_TD} {sc : e_TS} {Ψ : e_TI → e_TL → e_TD → Prop}
    (H : ((16 ≤ x2 → Ψ I L D) ∧ (¬ (16 ≤ x2) → ((16 ≤ x2 → Ψ I L D) ∧ (¬ (16 ≤ x2) → (vp_in x2 16 ∧ (vp_in x2 16 ∧ e_Wp 21 2 [some (.ref 8), some (.ref 30), some (.int (x2 + 1))] [] (S0 (e_up I 30 x2.toNatClampNeg (I 8 x2.toNatClampNeg)) L D sc) 0 0 (e_rV sc Ψ)))))))) : e_Wp 21 2 [some (.ref 8), some (.ref 30), some (.int x2)] [] (S0 I L D sc) 0 0 (e_rV sc Ψ) :=
  e_W_go e_q21 e_k21 [2] 21 2 (And.intro (fun c2 => e_rVi ((H).1 c2)) (fun c2 => And.intro (fun c1 => e_rVi ((((H).2 c2)).1 c1)) (fun c1 => And.intro (((((H).2 c2)).2 c1)).1 (And.intro ((((((H).2 c2)).2 c1)).2).1 (((((((H).2 c2)).2 c1)).2).2)))))
set_option maxRecDepth 20000 in
theorem vR_copy_8_44 {I : e_TI} {L : e_TL} {D : e_TD} {sc : e_TS} {Ψ : e_TI → e_TL → e_TD → Prop}
    (H : e_Wp 21 2 [some (.ref 8), some (.ref 44), some (.int 0)] [] (S0 I L D sc) 0 0 (e_rV sc Ψ)) : e_M 21 [.ref 8, .ref 44] (S0 I L D sc) (e_rV sc Ψ) :=
  e_M_go e_q21 e_k21 [2] 21 (by decide +kernel) rfl rfl (H) (e_h0 rfl)
set_option maxRecDepth 20000 in
theorem vR_copy_8_44_p2 {x2 : Int32} {I : e_TI} {L : e_TL} {D : e_TD} {sc : e_TS} {Ψ : e_TI → e_TL → e_TD → Prop}
    (H : ((16 ≤ x2 → Ψ I L D) ∧ (¬ (16 ≤ x2) → ((16 ≤ x2 → Ψ I L D) ∧ (¬ (16 ≤ x2) → (vp_in x2 16 ∧ (vp_in x2 16 ∧ e_Wp 21 2 [some (.ref 8), some (.ref 44), some (.int (x2 + 1))] [] (S0 (e_up I 44 x2.toNatClampNeg (I 8 x2.toNatClampNeg)) L D sc) 0 0 (e_rV sc Ψ)))))))) : e_Wp 21 2 [some (.ref 8), some (.ref 44), some (.int x2)] [] (S0 I L D sc) 0 0 (e_rV sc Ψ) :=
  e_W_go e_q21 e_k21 [2] 21 2 (And.intro (fun c2 => e_rVi ((H).1 c2)) (fun c2 => And.intro (fun c1 => e_rVi ((((H).2 c2)).1 c1)) (fun c1 => And.intro (((((H).2 c2)).2 c1)).1 (And.intro ((((((H).2 c2)).2 c1)).2).1 (((((((H).2 c2)).2 c1)).2).2)))))
set_option maxRecDepth 20000 in
theorem vR_copy_8_56 {I : e_TI} {L : e_TL} {D : e_TD} {sc : e_TS} {Ψ : e_TI → e_TL → e_TD → Prop}
    (H : e_Wp 21 2 [some (.ref 8), some (.ref 56), some (.int 0)] [] (S0 I L D sc) 0 0 (e_rV sc Ψ)) : e_M 21 [.ref 8, .ref 56] (S0 I L D sc) (e_rV sc Ψ) :=
  e_M_go e_q21 e_k21 [2] 21 (by decide +kernel) rfl rfl (H) (e_h0 rfl)
set_option maxRecDepth 20000 in
theorem vR_copy_8_56_p2 {x2 : Int32} {I : e_TI} {L : e_TL} {D : e_TD} {sc : e_TS} {Ψ : e_TI → e_TL → e_TD → Prop}
    (H : ((16 ≤ x2 → Ψ I L D) ∧ (¬ (16 ≤ x2) → ((16 ≤ x2 → Ψ I L D) ∧ (¬ (16 ≤ x2) → (vp_in x2 16 ∧ (vp_in x2 16 ∧ e_Wp 21 2 [some (.ref 8), some (.ref 56), some (.int (x2 + 1))] [] (S0 (e_up I 56 x2.toNatClampNeg (I 8 x2.toNatClampNeg)) L D sc) 0 0 (e_rV sc Ψ)))))))) : e_Wp 21 2 [some (.ref 8), some (.ref 56), some (.int x2)] [] (S0 I L D sc) 0 0 (e_rV sc Ψ) :=
  e_W_go e_q21 e_k21 [2] 21 2 (And.intro (fun c2 => e_rVi ((H).1 c2)) (fun c2 => And.intro (fun c1 => e_rVi ((((H).2 c2)).1 c1)) (fun c1 => And.intro (((((H).2 c2)).2 c1)).1 (And.intro ((((((H).2 c2)).2 c1)).2).1 (((((((H).2 c2)).2 c1)).2).2)))))
set_option maxRecDepth 20000 in
theorem vR_copy_8_68 {I : e_TI} {L : e_TL} {D : e_TD} {sc : e_TS} {Ψ : e_TI → e_TL → e_TD → Prop}
    (H : e_Wp 21 2 [some (.ref 8), some (.ref 68), some (.int 0)] [] (S0 I L D sc) 0 0 (e_rV sc Ψ)) : e_M 21 [.ref 8, .ref 68] (S0 I L D sc) (e_rV sc Ψ) :=
  e_M_go e_q21 e_k21 [2] 21 (by decide +kernel) rfl rfl (H) (e_h0 rfl)
set_option maxRecDepth 20000 in
theorem vR_copy_8_68_p2 {x2 : Int32} {I : e_TI} {L : e_TL} {D : e_TD} {sc : e_TS} {Ψ : e_TI → e_TL → e_TD → Prop}
    (H : ((16 ≤ x2 → Ψ I L D) ∧ (¬ (16 ≤ x2) → ((16 ≤ x2 → Ψ I L D) ∧ (¬ (16 ≤ x2) → (vp_in x2 16 ∧ (vp_in x2 16 ∧ e_Wp 21 2 [some (.ref 8), some (.ref 68), some (.int (x2 + 1))] [] (S0 (e_up I 68 x2.toNatClampNeg (I 8 x2.toNatClampNeg)) L D sc) 0 0 (e_rV sc Ψ)))))))) : e_Wp 21 2 [some (.ref 8), some (.ref 68), some (.int x2)] [] (S0 I L D sc) 0 0 (e_rV sc Ψ) :=
  e_W_go e_q21 e_k21 [2] 21 2 (And.intro (fun c2 => e_rVi ((H).1 c2)) (fun c2 => And.intro (fun c1 => e_rVi ((((H).2 c2)).1 c1)) (fun c1 => And.intro (((((H).2 c2)).2 c1)).1 (And.intro ((((((H).2 c2)).2 c1)).2).1 (((((((H).2 c2)).2 c1)).2).2)))))
set_option maxRecDepth 20000 in
theorem vR_copy_8_80 {I : e_TI} {L : e_TL} {D : e_TD} {sc : e_TS} {Ψ : e_TI → e_TL → e_TD → Prop}
    (H : e_Wp 21 2 [some (.ref 8), some (.ref 80), some (.int 0)] [] (S0 I L D sc) 0 0 (e_rV sc Ψ)) : e_M 21 [.ref 8, .ref 80] (S0 I L D sc) (e_rV sc Ψ) :=
  e_M_go e_q21 e_k21 [2] 21 (by decide +kernel) rfl rfl (H) (e_h0 rfl)
set_option maxRecDepth 20000 in
theorem vR_copy_8_80_p2 {x2 : Int32} {I : e_TI} {L : e_TL} {D : e_TD} {sc : e_TS} {Ψ : e_TI → e_TL → e_TD → Prop}
    (H : ((16 ≤ x2 → Ψ I L D) ∧ (¬ (16 ≤ x2) → ((16 ≤ x2 → Ψ I L D) ∧ (¬ (16 ≤ x2) → (vp_in x2 16 ∧ (vp_in x2 16 ∧ e_Wp 21 2 [some (.ref 8), some (.ref 80), some (.int (x2 + 1))] [] (S0 (e_up I 80 x2.toNatClampNeg (I 8 x2.toNatClampNeg)) L D sc) 0 0 (e_rV sc Ψ)))))))) : e_Wp 21 2 [some (.ref 8), some (.ref 80), some (.int x2)] [] (S0 I L D sc) 0 0 (e_rV sc Ψ) :=
  e_W_go e_q21 e_k21 [2] 21 2 (And.intro (fun c2 => e_rVi ((H).1 c2)) (fun c2 => And.intro (fun c1 => e_rVi ((((H).2 c2)).1 c1)) (fun c1 => And.intro (((((H).2 c2)).2 c1)).1 (And.intro ((((((H).2 c2)).2 c1)).2).1 (((((((H).2 c2)).2 c1)).2).2)))))
set_option maxRecDepth 20000 in
theorem vR_copy_8_92 {I : e_TI} {L : e_TL} {D : e_TD} {sc : e_TS} {Ψ : e_TI → e_TL → e_TD → Prop}
    (H : e_Wp 21 2 [some (.ref 8), some (.ref 92), some (.int 0)] [] (S0 I L D sc) 0 0 (e_rV sc Ψ)) : e_M 21 [.ref 8, .ref 92] (S0 I L D sc) (e_rV sc Ψ) :=
  e_M_go e_q21 e_k21 [2] 21 (by decide +kernel) rfl rfl (H) (e_h0 rfl)
set_option maxRecDepth 20000 in
theorem vR_copy_8_92_p2 {x2 : Int32} {I : e_TI} {L : e_TL} {D : e_TD} {sc : e_TS} {Ψ : e_TI → e_TL → e_TD → Prop}
    (H : ((16 ≤ x2 → Ψ I L D) ∧ (¬ (16 ≤ x2) → ((16 ≤ x2 → Ψ I L D) ∧ (¬ (16 ≤ x2) → (vp_in x2 16 ∧ (vp_in x2 16 ∧ e_Wp 21 2 [some (.ref 8), some (.ref 92), some (.int (x2 + 1))] [] (S0 (e_up I 92 x2.toNatClampNeg (I 8 x2.toNatClampNeg)) L D sc) 0 0 (e_rV sc Ψ)))))))) : e_Wp 21 2 [some (.ref 8), some (.ref 92), some (.int x2)] [] (S0 I L D sc) 0 0 (e_rV sc Ψ) :=
  e_W_go e_q21 e_k21 [2] 21 2 (And.intro (fun c2 => e_rVi ((H).1 c2)) (fun c2 => And.intro (fun c1 => e_rVi ((((H).2 c2)).1 c1)) (fun c1 => And.intro (((((H).2 c2)).2 c1)).1 (And.intro ((((((H).2 c2)).2 c1)).2).1 (((((((H).2 c2)).2 c1)).2).2)))))
set_option maxRecDepth 20000 in
theorem vR_copy_91_7 {I : e_TI} {L : e_TL} {D : e_TD} {sc : e_TS} {Ψ : e_TI → e_TL → e_TD → Prop}
    (H : e_Wp 21 2 [some (.ref 91), some (.ref 7), some (.int 0)] [] (S0 I L D sc) 0 0 (e_rV sc Ψ)) : e_M 21 [.ref 91, .ref 7] (S0 I L D sc) (e_rV sc Ψ) :=
  e_M_go e_q21 e_k21 [2] 21 (by decide +kernel) rfl rfl (H) (e_h0 rfl)
set_option maxRecDepth 20000 in
theorem vR_copy_91_7_p2 {x2 : Int32} {I : e_TI} {L : e_TL} {D : e_TD} {sc : e_TS} {Ψ : e_TI → e_TL → e_TD → Prop}
    (H : ((16 ≤ x2 → Ψ I L D) ∧ (¬ (16 ≤ x2) → ((16 ≤ x2 → Ψ I L D) ∧ (¬ (16 ≤ x2) → (vp_in x2 16 ∧ (vp_in x2 16 ∧ e_Wp 21 2 [some (.ref 91), some (.ref 7), some (.int (x2 + 1))] [] (S0 (e_up I 7 x2.toNatClampNeg (I 91 x2.toNatClampNeg)) L D sc) 0 0 (e_rV sc Ψ)))))))) : e_Wp 21 2 [some (.ref 91), some (.ref 7), some (.int x2)] [] (S0 I L D sc) 0 0 (e_rV sc Ψ) :=
  e_W_go e_q21 e_k21 [2] 21 2 (And.intro (fun c2 => e_rVi ((H).1 c2)) (fun c2 => And.intro (fun c1 => e_rVi ((((H).2 c2)).1 c1)) (fun c1 => And.intro (((((H).2 c2)).2 c1)).1 (And.intro ((((((H).2 c2)).2 c1)).2).1 (((((((H).2 c2)).2 c1)).2).2)))))
set_option maxRecDepth 20000 in
theorem vR_copy_92_8 {I : e_TI} {L : e_TL} {D : e_TD} {sc : e_TS} {Ψ : e_TI → e_TL → e_TD → Prop}
    (H : e_Wp 21 2 [some (.ref 92), some (.ref 8), some (.int 0)] [] (S0 I L D sc) 0 0 (e_rV sc Ψ)) : e_M 21 [.ref 92, .ref 8] (S0 I L D sc) (e_rV sc Ψ) :=
  e_M_go e_q21 e_k21 [2] 21 (by decide +kernel) rfl rfl (H) (e_h0 rfl)
set_option maxRecDepth 20000 in
theorem vR_copy_92_8_p2 {x2 : Int32} {I : e_TI} {L : e_TL} {D : e_TD} {sc : e_TS} {Ψ : e_TI → e_TL → e_TD → Prop}
    (H : ((16 ≤ x2 → Ψ I L D) ∧ (¬ (16 ≤ x2) → ((16 ≤ x2 → Ψ I L D) ∧ (¬ (16 ≤ x2) → (vp_in x2 16 ∧ (vp_in x2 16 ∧ e_Wp 21 2 [some (.ref 92), some (.ref 8), some (.int (x2 + 1))] [] (S0 (e_up I 8 x2.toNatClampNeg (I 92 x2.toNatClampNeg)) L D sc) 0 0 (e_rV sc Ψ)))))))) : e_Wp 21 2 [some (.ref 92), some (.ref 8), some (.int x2)] [] (S0 I L D sc) 0 0 (e_rV sc Ψ) :=
  e_W_go e_q21 e_k21 [2] 21 2 (And.intro (fun c2 => e_rVi ((H).1 c2)) (fun c2 => And.intro (fun c1 => e_rVi ((((H).2 c2)).1 c1)) (fun c1 => And.intro (((((H).2 c2)).2 c1)).1 (And.intro ((((((H).2 c2)).2 c1)).2).1 (((((((H).2 c2)).2 c1)).2).2)))))
set_option maxRecDepth 20000 in
theorem vR_copy_93_9 {I : e_TI} {L : e_TL} {D : e_TD} {sc : e_TS} {Ψ : e_TI → e_TL → e_TD → Prop}
    (H : e_Wp 21 2 [some (.ref 93), some (.ref 9), some (.int 0)] [] (S0 I L D sc) 0 0 (e_rV sc Ψ)) : e_M 21 [.ref 93, .ref 9] (S0 I L D sc) (e_rV sc Ψ) :=
  e_M_go e_q21 e_k21 [2] 21 (by decide +kernel) rfl rfl (H) (e_h0 rfl)
set_option maxRecDepth 20000 in
theorem vR_copy_93_9_p2 {x2 : Int32} {I : e_TI} {L : e_TL} {D : e_TD} {sc : e_TS} {Ψ : e_TI → e_TL → e_TD → Prop}
    (H : ((16 ≤ x2 → Ψ I L D) ∧ (¬ (16 ≤ x2) → ((16 ≤ x2 → Ψ I L D) ∧ (¬ (16 ≤ x2) → (vp_in x2 16 ∧ (vp_in x2 16 ∧ e_Wp 21 2 [some (.ref 93), some (.ref 9), some (.int (x2 + 1))] [] (S0 (e_up I 9 x2.toNatClampNeg (I 93 x2.toNatClampNeg)) L D sc) 0 0 (e_rV sc Ψ)))))))) : e_Wp 21 2 [some (.ref 93), some (.ref 9), some (.int x2)] [] (S0 I L D sc) 0 0 (e_rV sc Ψ) :=
  e_W_go e_q21 e_k21 [2] 21 2 (And.intro (fun c2 => e_rVi ((H).1 c2)) (fun c2 => And.intro (fun c1 => e_rVi ((((H).2 c2)).1 c1)) (fun c1 => And.intro (((((H).2 c2)).2 c1)).1 (And.intro ((((((H).2 c2)).2 c1)).2).1 (((((((H).2 c2)).2 c1)).2).2)))))
set_option maxRecDepth 20000 in
theorem vR_copy_94_10 {I : e_TI} {L : e_TL} {D : e_TD} {sc : e_TS} {Ψ : e_TI → e_TL → e_TD → Prop}
    (H : e_Wp 21 2 [some (.ref 94), some (.ref 10), some (.int 0)] [] (S0 I L D sc) 0 0 (e_rV sc Ψ)) : e_M 21 [.ref 94, .ref 10] (S0 I L D sc) (e_rV sc Ψ) :=
  e_M_go e_q21 e_k21 [2] 21 (by decide +kernel) rfl rfl (H) (e_h0 rfl)
set_option maxRecDepth 20000 in
theorem vR_copy_94_10_p2 {x2 : Int32} {I : e_TI} {L : e_TL} {D : e_TD} {sc : e_TS} {Ψ : e_TI → e_TL → e_TD → Prop}
    (H : ((2 ≤ x2 → Ψ I L D) ∧ (¬ (2 ≤ x2) → ((2 ≤ x2 → Ψ I L D) ∧ (¬ (2 ≤ x2) → (vp_in x2 2 ∧ (vp_in x2 2 ∧ e_Wp 21 2 [some (.ref 94), some (.ref 10), some (.int (x2 + 1))] [] (S0 (e_up I 10 x2.toNatClampNeg (I 94 x2.toNatClampNeg)) L D sc) 0 0 (e_rV sc Ψ)))))))) : e_Wp 21 2 [some (.ref 94), some (.ref 10), some (.int x2)] [] (S0 I L D sc) 0 0 (e_rV sc Ψ) :=
  e_W_go e_q21 e_k21 [2] 21 2 (And.intro (fun c2 => e_rVi ((H).1 c2)) (fun c2 => And.intro (fun c1 => e_rVi ((((H).2 c2)).1 c1)) (fun c1 => And.intro (((((H).2 c2)).2 c1)).1 (And.intro ((((((H).2 c2)).2 c1)).2).1 (((((((H).2 c2)).2 c1)).2).2)))))
set_option maxRecDepth 20000 in
theorem vR_copy_95_11 {I : e_TI} {L : e_TL} {D : e_TD} {sc : e_TS} {Ψ : e_TI → e_TL → e_TD → Prop}
    (H : e_Wp 21 2 [some (.ref 95), some (.ref 11), some (.int 0)] [] (S0 I L D sc) 0 0 (e_rV sc Ψ)) : e_M 21 [.ref 95, .ref 11] (S0 I L D sc) (e_rV sc Ψ) :=
  e_M_go e_q21 e_k21 [2] 21 (by decide +kernel) rfl rfl (H) (e_h0 rfl)
set_option maxRecDepth 20000 in
theorem vR_copy_95_11_p2 {x2 : Int32} {I : e_TI} {L : e_TL} {D : e_TD} {sc : e_TS} {Ψ : e_TI → e_TL → e_TD → Prop}
    (H : ((2 ≤ x2 → Ψ I L D) ∧ (¬ (2 ≤ x2) → ((2 ≤ x2 → Ψ I L D) ∧ (¬ (2 ≤ x2) → (vp_in x2 2 ∧ (vp_in x2 2 ∧ e_Wp 21 2 [some (.ref 95), some (.ref 11), some (.int (x2 + 1))] [] (S0 (e_up I 11 x2.toNatClampNeg (I 95 x2.toNatClampNeg)) L D sc) 0 0 (e_rV sc Ψ)))))))) : e_Wp 21 2 [some (.ref 95), some (.ref 11), some (.int x2)] [] (S0 I L D sc) 0 0 (e_rV sc Ψ) :=
  e_W_go e_q21 e_k21 [2] 21 2 (And.intro (fun c2 => e_rVi ((H).1 c2)) (fun c2 => And.intro (fun c1 => e_rVi ((((H).2 c2)).1 c1)) (fun c1 => And.intro (((((H).2 c2)).2 c1)).1 (And.intro ((((((H).2 c2)).2 c1)).2).1 (((((((H).2 c2)).2 c1)).2).2)))))
set_option maxRecDepth 20000 in
theorem vR_copy_96_12 {I : e_TI} {L : e_TL} {D : e_TD} {sc : e_TS} {Ψ : e_TI → e_TL → e_TD → Prop}
    (H : e_Wp 21 2 [some (.ref 96), some (.ref 12), some (.int 0)] [] (S0 I L D sc) 0 0 (e_rV sc Ψ)) : e_M 21 [.ref 96, .ref 12] (S0 I L D sc) (e_rV sc Ψ) :=
  e_M_go e_q21 e_k21 [2] 21 (by decide +kernel) rfl rfl (H) (e_h0 rfl)
set_option maxRecDepth 20000 in
theorem vR_copy_96_12_p2 {x2 : Int32} {I : e_TI} {L : e_TL} {D : e_TD} {sc : e_TS} {Ψ : e_TI → e_TL → e_TD → Prop}
    (H : ((2 ≤ x2 → Ψ I L D) ∧ (¬ (2 ≤ x2) → ((2 ≤ x2 → Ψ I L D) ∧ (¬ (2 ≤ x2) → (vp_in x2 2 ∧ (vp_in x2 2 ∧ e_Wp 21 2 [some (.ref 96), some (.ref 12), some (.int (x2 + 1))] [] (S0 (e_up I 12 x2.toNatClampNeg (I 96 x2.toNatClampNeg)) L D sc) 0 0 (e_rV sc Ψ)))))))) : e_Wp 21 2 [some (.ref 96), some (.ref 12), some (.int x2)] [] (S0 I L D sc) 0 0 (e_rV sc Ψ) :=
  e_W_go e_q21 e_k21 [2] 21 2 (And.intro (fun c2 => e_rVi ((H).1 c2)) (fun c2 => And.intro (fun c1 => e_rVi ((((H).2 c2)).1 c1)) (fun c1 => And.intro (((((H).2 c2)).2 c1)).1 (And.intro ((((((H).2 c2)).2 c1)).2).1 (((((((H).2 c2)).2 c1)).2).2)))))
set_option maxRecDepth 20000 in
theorem vR_copy_97_13 {I : e_TI} {L : e_TL} {D : e_TD} {sc : e_TS} {Ψ : e_TI → e_TL → e_TD → Prop}
    (H : e_Wp 21 2 [some (.ref 97), some (.ref 13), some (.int 0)] [] (S0 I L D sc) 0 0 (e_rV sc Ψ)) : e_M 21 [.ref 97, .ref 13] (S0 I L D sc) (e_rV sc Ψ) :=
  e_M_go e_q21 e_k21 [2] 21 (by decide +kernel) rfl rfl (H) (e_h0 rfl)
set_option maxRecDepth 20000 in
theorem vR_copy_97_13_p2 {x2 : Int32} {I : e_TI} {L : e_TL} {D : e_TD} {sc : e_TS} {Ψ : e_TI → e_TL → e_TD → Prop}
    (H : ((2 ≤ x2 → Ψ I L D) ∧ (¬ (2 ≤ x2) → ((2 ≤ x2 → Ψ I L D) ∧ (¬ (2 ≤ x2) → (vp_in x2 2 ∧ (vp_in x2 2 ∧ e_Wp 21 2 [some (.ref 97), some (.ref 13), some (.int (x2 + 1))] [] (S0 (e_up I 13 x2.toNatClampNeg (I 97 x2.toNatClampNeg)) L D sc) 0 0 (e_rV sc Ψ)))))))) : e_Wp 21 2 [some (.ref 97), some (.ref 13), some (.int x2)] [] (S0 I L D sc) 0 0 (e_rV sc Ψ) :=
  e_W_go e_q21 e_k21 [2] 21 2 (And.intro (fun c2 => e_rVi ((H).1 c2)) (fun c2 => And.intro (fun c1 => e_rVi ((((H).2 c2)).1 c1)) (fun c1 => And.intro (((((H).2 c2)).2 c1)).1 (And.intro ((((((H).2 c2)).2 c1)).2).1 (((((((H).2 c2)).2 c1)).2).2)))))
set_option maxRecDepth 20000 in
theorem vR_copy_9_105 {I : e_TI} {L : e_TL} {D : e_TD} {sc : e_TS} {Ψ : e_TI → e_TL → e_TD → Prop}
    (H : e_Wp 21 2 [some (.ref 9), some (.ref 105), some (.int 0)] [] (S0 I L D sc) 0 0 (e_rV sc Ψ)) : e_M 21 [.ref 9, .ref 105] (S0 I L D sc) (e_rV sc Ψ) :=
  e_M_go e_q21 e_k21 [2] 21 (by decide +kernel) rfl rfl (H) (e_h0 rfl)
set_option maxRecDepth 20000 in
theorem vR_copy_9_105_p2 {x2 : Int32} {I : e_TI} {L : e_TL} {D : e_TD} {sc : e_TS} {Ψ : e_TI → e_TL → e_TD → Prop}
    (H : ((16 ≤ x2 → Ψ I L D) ∧ (¬ (16 ≤ x2) → ((16 ≤ x2 → Ψ I L D) ∧ (¬ (16 ≤ x2) → (vp_in x2 16 ∧ (vp_in x2 16 ∧ e_Wp 21 2 [some (.ref 9), some (.ref 105), some (.int (x2 + 1))] [] (S0 (e_up I 105 x2.toNatClampNeg (I 9 x2.toNatClampNeg)) L D sc) 0 0 (e_rV sc Ψ)))))))) : e_Wp 21 2 [some (.ref 9), some (.ref 105), some (.int x2)] [] (S0 I L D sc) 0 0 (e_rV sc Ψ) :=
  e_W_go e_q21 e_k21 [2] 21 2 (And.intro (fun c2 => e_rVi ((H).1 c2)) (fun c2 => And.intro (fun c1 => e_rVi ((((H).2 c2)).1 c1)) (fun c1 => And.intro (((((H).2 c2)).2 c1)).1 (And.intro ((((((H).2 c2)).2 c1)).2).1 (((((((H).2 c2)).2 c1)).2).2)))))
set_option maxRecDepth 20000 in
theorem vR_copy_9_117 {I : e_TI} {L : e_TL} {D : e_TD} {sc : e_TS} {Ψ : e_TI → e_TL → e_TD → Prop}
    (H : e_Wp 21 2 [some (.ref 9), some (.ref 117), some (.int 0)] [] (S0 I L D sc) 0 0 (e_rV sc Ψ)) : e_M 21 [.ref 9, .ref 117] (S0 I L D sc) (e_rV sc Ψ) :=
  e_M_go e_q21 e_k21 [2] 21 (by decide +kernel) rfl rfl (H) (e_h0 rfl)
set_option maxRecDepth 20000 in
theorem vR_copy_9_117_p2 {x2 : Int32} {I : e_TI} {L : e_TL} {D : e_TD} {sc : e_TS} {Ψ : e_TI → e_TL → e_TD → Prop}
    (H : ((16 ≤ x2 → Ψ I L D) ∧ (¬ (16 ≤ x2) → ((16 ≤ x2 → Ψ I L D) ∧ (¬ (16 ≤ x2) → (vp_in x2 16 ∧ (vp_in x2 16 ∧ e_Wp 21 2 [some (.ref 9), some (.ref 117), some (.int (x2 + 1))] [] (S0 (e_up I 117 x2.toNatClampNeg (I 9 x2.toNatClampNeg)) L D sc) 0 0 (e_rV sc Ψ)))))))) : e_Wp 21 2 [some (.ref 9), some (.ref 117), some (.int x2)] [] (S0 I L D sc) 0 0 (e_rV sc Ψ) :=
  e_W_go e_q21 e_k21 [2] 21 2 (And.intro (fun c2 => e_rVi ((H).1 c2)) (fun c2 => And.intro (fun c1 => e_rVi ((((H).2 c2)).1 c1)) (fun c1 => And.intro (((((H).2 c2)).2 c1)).1 (And.intro ((((((H).2 c2)).2 c1)).2).1 (((((((H).2 c2)).2 c1)).2).2)))))
set_option maxRecDepth 20000 in
theorem vR_copy_9_129 {I : e_TI} {L : e_TL} {D : e_TD} {sc : e_TS} {Ψ : e_TI → e_TL → e_TD → Prop}
    (H : e_Wp 21 2 [some (.ref 9), some (.ref 129), some (.int 0)] [] (S0 I L D sc) 0 0 (e_rV sc Ψ)) : e_M 21 [.ref 9, .ref 129] (S0 I L D sc) (e_rV sc Ψ) :=
  e_M_go e_q21 e_k21 [2] 21 (by decide +kernel) rfl rfl (H) (e_h0 rfl)
set_option maxRecDepth 20000 in
theorem vR_copy_9_129_p2 {x2 : Int32} {I : e_TI} {L : e_TL} {D : e_TD} {sc : e_TS} {Ψ : e_TI → e_TL → e_TD → Prop}
    (H : ((16 ≤ x2 → Ψ I L D) ∧ (¬ (16 ≤ x2) → ((16 ≤ x2 → Ψ I L D) ∧ (¬ (16 ≤ x2) → (vp_in x2 16 ∧ (vp_in x2 16 ∧ e_Wp 21 2 [some (.ref 9), some (.ref 129), some (.int (x2 + 1))] [] (S0 (e_up I 129 x2.toNatClampNeg (I 9 x2.toNatClampNeg)) L D sc) 0 0 (e_rV sc Ψ)))))))) : e_Wp 21 2 [some (.ref 9), some (.ref 129), some (.int x2)] [] (S0 I L D sc) 0 0 (e_rV sc Ψ) :=
  e_W_go e_q21 e_k21 [2] 21 2 (And.intro (fun c2 => e_rVi ((H).1 c2)) (fun c2 => And.intro (fun c1 => e_rVi ((((H).2 c2)).1 c1)) (fun c1 => And.intro (((((H).2 c2)).2 c1)).1 (And.intro ((((((H).2 c2)).2 c1)).2).1 (((((((H).2 c2)).2 c1)).2).2)))))
set_option maxRecDepth 20000 in
theorem vR_copy_9_31 {I : e_TI} {L : e_TL} {D : e_TD} {sc : e_TS} {Ψ : e_TI → e_TL → e_TD → Prop}
    (H : e_Wp 21 2 [some (.ref 9), some (.ref 31), some (.int 0)] [] (S0 I L D sc) 0 0 (e_rV sc Ψ)) : e_M 21 [.ref 9, .ref 31] (S0 I L D sc) (e_rV sc Ψ) :=
  e_M_go e_q21 e_k21 [2] 21 (by decide +kernel) rfl rfl (H) (e_h0 rfl)
set_option maxRecDepth 20000 in
theorem vR_copy_9_31_p2 {x2 : Int32} {I : e_TI} {L : e_TL} {D : e_TD} {sc : e_TS} {Ψ : e_TI → e_TL → e_TD → Prop}
    (H : ((16 ≤ x2 → Ψ I L D) ∧ (¬ (16 ≤ x2) → ((16 ≤ x2 → Ψ I L D) ∧ (¬ (16 ≤ x2) → (vp_in x2 16 ∧ (vp_in x2 16 ∧ e_Wp 21 2 [some (.ref 9), some (.ref 31), some (.int (x2 + 1))] [] (S0 (e_up I 31 x2.toNatClampNeg (I 9 x2.toNatClampNeg)) L D sc) 0 0 (e_rV sc Ψ)))))))) : e_Wp 21 2 [some (.ref 9), some (.ref 31), some (.int x2)] [] (S0 I L D sc) 0 0 (e_rV sc Ψ) :=
  e_W_go e_q21 e_k21 [2] 21 2 (And.intro (fun c2 => e_rVi ((H).1 c2)) (fun c2 => And.intro (fun c1 => e_rVi ((((H).2 c2)).1 c1)) (fun c1 => And.intro (((((H).2 c2)).2 c1)).1 (And.intro ((((((H).2 c2)).2 c1)).2).1 (((((((H).2 c2)).2 c1)).2).2)))))
set_option maxRecDepth 20000 in
theorem vR_copy_9_45 {I : e_TI} {L : e_TL} {D : e_TD} {sc : e_TS} {Ψ : e_TI → e_TL → e_TD → Prop}
    (H : e_Wp 21 2 [some (.ref 9), some (.ref 45), some (.int 0)] [] (S0 I L D sc) 0 0 (e_rV sc Ψ)) : e_M 21 [.ref 9, .ref 45] (S0 I L D sc) (e_rV sc Ψ) :=
  e_M_go e_q21 e_k21 [2] 21 (by decide +kernel) rfl rfl (H) (e_h0 rfl)
set_option maxRecDepth 20000 in
theorem vR_copy_9_45_p2 {x2 : Int32} {I : e_TI} {L : e_TL} {D : e_TD} {sc : e_TS} {Ψ : e_TI → e_TL → e_TD → Prop}
    (H : ((16 ≤ x2 → Ψ I L D) ∧ (¬ (16 ≤ x2) → ((16 ≤ x2 → Ψ I L D) ∧ (¬ (16 ≤ x2) → (vp_in x2 16 ∧ (vp_in x2 16 ∧ e_Wp 21 2 [some (.ref 9), some (.ref 45), some (.int (x2 + 1))] [] (S0 (e_up I 45 x2.toNatClampNeg (I 9 x2.toNatClampNeg)) L D sc) 0 0 (e_rV sc Ψ)))))))) : e_Wp 21 2 [some (.ref 9), some (.ref 45), some (.int x2)] [] (S0 I L D sc) 0 0 (e_rV sc Ψ) :=
  e_W_go e_q21 e_k21 [2] 21 2 (And.intro (fun c2 => e_rVi ((H).1 c2)) (fun c2 => And.intro (fun c1 => e_rVi ((((H).2 c2)).1 c1)) (fun c1 => And.intro (((((H).2 c2)).2 c1)).1 (And.intro ((((((H).2 c2)).2 c1)).2).1 (((((((H).2 c2)).2 c1)).2).2)))))
set_option maxRecDepth 20000 in
theorem vR_copy_9_57 {I : e_TI} {L : e_TL} {D : e_TD} {sc : e_TS} {Ψ : e_TI → e_TL → e_TD → Prop}
    (H : e_Wp 21 2 [some (.ref 9), some (.ref 57), some (.int 0)] [] (S0 I L D sc) 0 0 (e_rV sc Ψ)) : e_M 21 [.ref 9, .ref 57] (S0 I L D sc) (e_rV sc Ψ) :=
  e_M_go e_q21 e_k21 [2] 21 (by decide +kernel) rfl rfl (H) (e_h0 rfl)
set_option maxRecDepth 20000 in
theorem vR_copy_9_57_p2 {x2 : Int32} {I : e_TI} {L : e_TL} {D : e_TD} {sc : e_TS} {Ψ : e_TI → e_TL → e_TD → Prop}
    (H : ((16 ≤ x2 → Ψ I L D) ∧ (¬ (16 ≤ x2) → ((16 ≤ x2 → Ψ I L D) ∧ (¬ (16 ≤ x2) → (vp_in x2 16 ∧ (vp_in x2 16 ∧ e_Wp 21 2 [some (.ref 9), some (.ref 57), some (.int (x2 + 1))] [] (S0 (e_up I 57 x2.toNatClampNeg (I 9 x2.toNatClampNeg)) L D sc) 0 0 (e_rV sc Ψ)))))))) : e_Wp 21 2 [some (.ref 9), some (.ref 57), some (.int x2)] [] (S0 I L D sc) 0 0 (e_rV sc Ψ) :=
  e_W_go e_q21 e_k21 [2] 21 2 (And.intro (fun c2 => e_rVi ((H).1 c2)) (fun c2 => And.intro (fun c1 => e_rVi ((((H).2 c2)).1 c1)) (fun c1 => And.intro (((((H).2 c2)).2 c1)).1 (And.intro ((((((H).2 c2)).2 c1)).2).1 (((((((H).2 c2)).2 c1)).2).2)))))
set_option maxRecDepth 20000 in
theorem vR_copy_9_69 {I : e_TI} {L : e_TL} {D : e_TD} {sc : e_TS} {Ψ : e_TI → e_TL → e_TD → Prop}
    (H : e_Wp 21 2 [some (.ref 9), some (.ref 69), some (.int 0)] [] (S0 I L D sc) 0 0 (e_rV sc Ψ)) : e_M 21 [.ref 9, .ref 69] (S0 I L D sc) (e_rV sc Ψ) :=
  e_M_go e_q21 e_k21 [2] 21 (by decide +kernel) rfl rfl (H) (e_h0 rfl)
set_option maxRecDepth 20000 in
theorem vR_copy_9_69_p2 {x2 : Int32} {I : e_TI} {L : e_TL} {D : e_TD} {sc : e_TS} {Ψ : e_TI → e_TL → e_TD → Prop}
    (H : ((16 ≤ x2 → Ψ I L D) ∧ (¬ (16 ≤ x2) → ((16 ≤ x2 → Ψ I L D) ∧ (¬ (16 ≤ x2) → (vp_in x2 16 ∧ (vp_in x2 16 ∧ e_Wp 21 2 [some (.ref 9), some (.ref 69), some (.int (x2 + 1))] [] (S0 (e_up I 69 x2.toNatClampNeg (I 9 x2.toNatClampNeg)) L D sc) 0 0 (e_rV sc Ψ)))))))) : e_Wp 21 2 [some (.ref 9), some (.ref 69), some (.int x2)] [] (S0 I L D sc) 0 0 (e_rV sc Ψ) :=
  e_W_go e_q21 e_k21 [2] 21 2 (And.intro (fun c2 => e_rVi ((H).1 c2)) (fun c2 => And.intro (fun c1 => e_rVi ((((H).2 c2)).1 c1)) (fun c1 => And.intro (((((H).2 c2)).2 c1)).1 (And.intro ((((((H).2 c2)).2 c1)).2).1 (((((((H).2 c2)).2 c1)).2).2)))))
set_option maxRecDepth 20000 in
theorem vR_copy_9_81 {I : e_TI} {L : e_TL} {D : e_TD} {sc : e_TS} {Ψ : e_TI → e_TL → e_TD → Prop}
    (H : e_Wp 21 2 [some (.ref 9), some (.ref 81), some (.int 0)] [] (S0 I L D sc) 0 0 (e_rV sc Ψ)) : e_M 21 [.ref 9, .ref 81] (S0 I L D sc) (e_rV sc Ψ) :=
  e_M_go e_q21 e_k21 [2] 21 (by decide +kernel) rfl rfl (H) (e_h0 rfl)
set_option maxRecDepth 20000 in
theorem vR_copy_9_81_p2 {x2 : Int32} {I : e_TI} {L : e_TL} {D : e_TD} {sc : e_TS} {Ψ : e_TI → e_TL → e_TD → Prop}
    (H : ((16 ≤ x2 → Ψ I L D) ∧ (¬ (16 ≤ x2) → ((16 ≤ x2 → Ψ I L D) ∧ (¬ (16 ≤ x2) → (vp_in x2 16 ∧ (vp_in x2 16 ∧ e_Wp 21 2 [some (.ref 9), some (.ref 81), some (.int (x2 + 1))] [] (S0 (e_up I 81 x2.toNatClampNeg (I 9 x2.toNatClampNeg)) L D sc) 0 0 (e_rV sc Ψ)))))))) : e_Wp 21 2 [some (.ref 9), some (.ref 81), some (.int x2)] [] (S0 I L D sc) 0 0 (e_rV sc Ψ) :=
  e_W_go e_q21 e_k21 [2] 21 2 (And.intro (fun c2 => e_rVi ((H).1 c2)) (fun c2 => And.intro (fun c1 => e_rVi ((((H).2 c2)).1 c1)) (fun c1 => And.intro (((((H).2 c2)).2 c1)).1 (And.intro ((((((H).2 c2)).2 c1)).2).1 (((((((H).2 c2)).2 c1)).2).2)))))
set_option maxRecDepth 20000 in
theorem vR_copy_9_93 {I : e_TI} {L : e_TL} {D : e_TD} {sc : e_TS} {Ψ : e_TI → e_TL → e_TD → Prop}
    (H : e_Wp 21 2 [some (.ref 9), some (.ref 93), some (.int 0)] [] (S0 I L D sc) 0 0 (e_rV sc Ψ)) : e_M 21 [.ref 9, .ref 93] (S0 I L D sc) (e_rV sc Ψ) :=
  e_M_go e_q21 e_k21 [2] 21 (by decide +kernel) rfl rfl (H) (e_h0 rfl)
set_option maxRecDepth 20000 in
theorem vR_copy_9_93_p2 {x2 : Int32} {I : e_TI} {L : e_TL} {D : e_TD} {sc : e_TS} {Ψ : e_TI → e_TL → e_TD → Prop}
    (H : ((16 ≤ x2 → Ψ I L D) ∧ (¬ (16 ≤ x2) → ((16 ≤ x2 → Ψ I L D) ∧ (¬ (16 ≤ x2) → (vp_in x2 16 ∧ (vp_in x2 16 ∧ e_Wp 21 2 [some (.ref 9), some (.ref 93), some (.int (x2 + 1))] [] (S0 (e_up I 93 x2.toNatClampNeg (I 9 x2.toNatClampNeg)) L D sc) 0 0 (e_rV sc Ψ)))))))) : e_Wp 21 2 [some (.ref 9), some (.ref 93), some (.int x2)] [] (S0 I L D sc) 0 0 (e_rV sc Ψ) :=
  e_W_go e_q21 e_k21 [2] 21 2 (And.intro (fun c2 => e_rVi ((H).1 c2)) (fun c2 => And.intro (fun c1 => e_rVi ((((H).2 c2)).1 c1)) (fun c1 => And.intro (((((H).2 c2)).2 c1)).1 (And.intro ((((((H).2 c2)).2 c1)).2).1 (((((((H).2 c2)).2 c1)).2).2)))))
set_option maxRecDepth 20000 in
theorem vU_copyFrom_102_6 {I : e_TI} {L : e_TL} {D : e_TD} {sc : e_TS} {Ψ : e_TI → e_TL → e_TD → Prop}
    (H : e_M 21 [.ref 7, .ref 103] (S0 (e_up (e_up (e_up (e_up (e_up I 102 0 (I 6 0)) 102 1 (I 6 1)) 102 2 (I 6 2)) 102 3 (I 6 3)) 102 4 (I 6 4)) L D sc) (e_rV sc (fun I1 L1 D1 => e_M 21 [.ref 8, .ref 104] (S0 I1 L1 D1 sc) (e_rV sc (fun I2 L2 D2 => e_M 21 [.ref 9, .ref 105] (S0 I2 L2 D2 sc) (e_rV sc (fun I3 L3 D3 => e_M 21 [.ref 10, .ref 106] (S0 I3 L3 D3 sc) (e_rV sc (fun I4 L4 D4 => e_M 21 [.ref 11, .ref 107] (S0 I4 L4 D4 sc) (e_rV sc (fun I5 L5 D5 => e_M 21 [.ref 12, .ref 108] (S0 I5 L5 D5 sc) (e_rV sc (fun I6 L6 D6 => e_M 21 [.ref 13, .ref 109] (S0 I6 L6 D6 sc) (e_rV sc (fun I7 L7 D7 => Ψ I7 L7 D7))))))))))))))) : e_M 22 [.ref 102, .ref 6] (S0 I L D sc) (e_rV sc Ψ) :=
  e_M_go e_q22 e_k22 [] 58 (by decide +kernel) rfl rfl (e_M.mono (H) (e_gV (fun I1 L1 D1 H1 => e_M.mono (H1) (e_gV (fun I2 L2 D2 H2 => e_M.mono (H2) (e_gV (fun I3 L3 D3 H3 => e_M.mono (H3) (e_gV (fun I4 L4 D4 H4 => e_M.mono (H4) (e_gV (fun I5 L5 D5 H5 => e_M.mono (H5) (e_gV (fun I6 L6 D6 H6 => e_M.mono (H6) (e_gV (fun I7 L7 D7 H7 => e_rVi H7))))))))))))))) (e_h0 rfl)
set_option maxRecDepth 20000 in
theorem vU_copyFrom_114_6 {I : e_TI} {L : e_TL} {D : e_TD} {sc : e_TS} {Ψ : e_TI → e_TL → e_TD → Prop}
    (H : e_M 21 [.ref 7, .ref 115] (S0 (e_up (e_up (e_up (e_up (e_up I 114 0 (I 6 0)) 114 1 (I 6 1)) 114 2 (I 6 2)) 114 3 (I 6 3)) 114 4 (I 6 4)) L D sc) (e_rV sc (fun I1 L1 D1 => e_M 21 [.ref 8, .ref 116] (S0 I1 L1 D1 sc) (e_rV sc (fun I2 L2 D2 => e_M 21 [.ref 9, .ref 117] (S0 I2 L2 D2 sc) (e_rV sc (fun I3 L3 D3 => e_M 21 [.ref 10, .ref 118] (S0 I3 L3 D3 sc) (e_rV sc (fun I4 L4 D4 => e_M 21 [.ref 11, .ref 119] (S0 I4 L4 D4 sc) (e_rV sc (fun I5 L5 D5 => e_M 21 [.ref 12, .ref 120] (S0 I5 L5 D5 sc) (e_rV sc (fun I6 L6 D6 => e_M 21 [.ref 13, .ref 121] (S0 I6 L6 D6 sc) (e_rV sc (fun I7 L7 D7 => Ψ I7 L7 D7))))))))))))))) : e_M 22 [.ref 114, .ref 6] (S0 I L D sc) (e_rV sc Ψ) :=
  e_M_go e_q22 e_k22 [] 58 (by decide +kernel) rfl rfl (e_M.mono (H) (e_gV (fun I1 L1 D1 H1 => e_M.mono (H1) (e_gV (fun I2 L2 D2 H2 => e_M.mono (H2) (e_gV (fun I3 L3 D3 H3 => e_M.mono (H3) (e_gV (fun I4 L4 D4 H4 => e_M.mono (H4) (e_gV (fun I5 L5 D5 H5 => e_M.mono (H5) (e_gV (fun I6 L6 D6 H6 => e_M.mono (H6) (e_gV (fun I7 L7 D7 H7 => e_rVi H7))))))))))))))) (e_h0 rfl)
set_option maxRecDepth 20000 in
theorem vU_copyFrom_126_6 {I : e_TI} {L : e_TL} {D : e_TD} {sc : e_TS} {Ψ : e_TI → e_TL → e_TD → Prop}
    (H : e_M 21 [.ref 7, .ref 127] (S0 (e_up (e_up (e_up (e_up (e_up I 126 0 (I 6 0)) 126 1 (I 6 1)) 126 2 (I 6 2)) 126 3 (I 6 3)) 126 4 (I 6 4)) L D sc) (e_rV sc (fun I1 L1 D1 => e_M 21 [.ref 8, .ref 128] (S0 I1 L1 D1 sc) (e_rV sc (fun I2 L2 D2 => e_M 21 [.ref 9, .ref 129] (S0 I2 L2 D2 sc) (e_rV sc (fun I3 L3 D3 => e_M 21 [.ref 10, .ref 130] (S0 I3 L3 D3 sc) (e_rV sc (fun I4 L4 D4 => e_M 21 [.ref 11, .ref 131] (S0 I4 L4 D4 sc) (e_rV sc (fun I5 L5 D5 => e_M 21 [.ref 12, .ref 132] (S0 I5 L5 D5 sc) (e_rV sc (fun I6 L6 D6 => e_M 21 [.ref 13, .ref 133] (S0 I6 L6 D6 sc) (e_rV sc (fun I7 L7 D7 => Ψ I7 L7 D7))))))))))))))) : e_M 22 [.ref 126, .ref 6] (S0 I L D sc) (e_rV sc Ψ) :=
  e_M_go e_q22 e_k22 [] 58 (by decide +kernel) rfl rfl (e_M.mono (H) (e_gV (fun I1 L1 D1 H1 => e_M.mono (H1) (e_gV (fun I2 L2 D2 H2 => e_M.mono (H2) (e_gV (fun I3 L3 D3 H3 => e_M.mono (H3) (e_gV (fun I4 L4 D4 H4 => e_M.mono (H4) (e_gV (fun I5 L5 D5 H5 => e_M.mono (H5) (e_gV (fun I6 L6 D6 H6 => e_M.mono (H6) (e_gV (fun I7 L7 D7 H7 => e_rVi H7))))))))))))))) (e_h0 rfl)
set_option maxRecDepth 20000 in
theorem vU_copyFrom_28_6 {I : e_TI} {L : e_TL} {D : e_TD} {sc : e_TS} {Ψ : e_TI → e_TL → e_TD → Prop}
    (H : e_M 21 [.ref 7, .ref 29] (S0 (e_up (e_up (e_up (e_up (e_up I 28 0 (I 6 0)) 28 1 (I 6 1)) 28 2 (I 6 2)) 28 3 (I 6 3)) 28 4 (I 6 4)) L D sc) (e_rV sc (fun I1 L1 D1 => e_M 21 [.ref 8, .ref 30] (S0 I1 L1 D1 sc) (e_rV sc (fun I2 L2 D2 => e_M 21 [.ref 9, .ref 31] (S0 I2 L2 D2 sc) (e_rV sc (fun I3 L3 D3 => e_M 21 [.ref 10, .ref 32] (S0 I3 L3 D3 sc) (e_rV sc (fun I4 L4 D4 => e_M 21 [.ref 11, .ref 33] (S0 I4 L4 D4 sc) (e_rV sc (fun I5 L5 D5 => e_M 21 [.ref 12, .ref 34] (S0 I5 L5 D5 sc) (e_rV sc (fun I6 L6 D6 => e_M 21 [.ref 13, .ref 35] (S0 I6 L6 D6 sc) (e_rV sc (fun I7 L7 D7 => Ψ I7 L7 D7))))))))))))))) : e_M 22 [.ref 28, .ref 6] (S0 I L D sc) (e_rV sc Ψ) :=
  e_M_go e_q22 e_k22 [] 58 (by decide +kernel) rfl rfl (e_M.mono (H) (e_gV (fun I1 L1 D1 H1 => e_M.mono (H1) (e_gV (fun I2 L2 D2 H2 => e_M.mono (H2) (e_gV (fun I3 L3 D3 H3 => e_M.mono (H3) (e_gV (fun I4 L4 D4 H4 => e_M.mono (H4) (e_gV (fun I5 L5 D5 H5 => e_M.mono (H5) (e_gV (fun I6 L6 D6 H6 => e_M.mono (H6) (e_gV (fun I7 L7 D7 H7 => e_rVi H7))))))))))))))) (e_h0 rfl)
set_option maxRecDepth 20000 in
theorem vU_copyFrom_42_6 {I : e_TI} {L : e_TL} {D : e_TD} {sc : e_TS} {Ψ : e_TI → e_TL → e_TD → Prop}
    (H : e_M 21 [.ref 7, .ref 43] (S0 (e_up (e_up (e_up (e_up (e_up I 42 0 (I 6 0)) 42 1 (I 6 1)) 42 2 (I 6 2)) 42 3 (I 6 3)) 42 4 (I 6 4)) L D sc) (e_rV sc (fun I1 L1 D1 => e_M 21 [.ref 8, .ref 44] (S0 I1 L1 D1 sc) (e_rV sc (fun I2 L2 D2 => e_M 21 [.ref 9, .ref 45] (S0 I2 L2 D2 sc) (e_rV sc (fun I3 L3 D3 => e_M 21 [.ref 10, .ref 46] (S0 I3 L3 D3 sc) (e_rV sc (fun I4 L4 D4 => e_M 21 [.ref 11, .ref 47] (S0 I4 L4 D4 sc) (e_rV sc (fun I5 L5 D5 => e_M 21 [.ref 12, .ref 48] (S0 I5 L5 D5 sc) (e_rV sc (fun I6 L6 D6 => e_M 21 [.ref 13, .ref 49] (S0 I6 L6 D6 sc) (e_rV sc (fun I7 L7 D7 => Ψ I7 L7 D7))))))))))))))) : e_M 22 [.ref 42, .ref 6] (S0 I L D sc) (e_rV sc Ψ) :=
  e_M_go e_q22 e_k22 [] 58 (by decide +kernel) rfl rfl (e_M.mono (H) (e_gV (fun I1 L1 D1 H1 => e_M.mono (H1) (e_gV (fun I2 L2 D2 H2 => e_M.mono (H2) (e_gV (fun I3 L3 D3 H3 => e_M.mono (H3) (e_gV (fun I4 L4 D4 H4 => e_M.mono (H4) (e_gV (fun I5 L5 D5 H5 => e_M.mono (H5) (e_gV (fun I6 L6 D6 H6 => e_M.mono (H6) (e_gV (fun I7 L7 D7 H7 => e_rVi H7))))))))))))))) (e_h0 rfl)
set_option maxRecDepth 20000 in
theorem vU_copyFrom_54_6 {I : e_TI} {L : e_TL} {D : e_TD} {sc : e_TS} {Ψ : e_TI → e_TL → e_TD → Prop}
    (H : e_M 21 [.ref 7, .ref 55] (S0 (e_up (e_up (e_up (e_up (e_up I 54 0 (I 6 0)) 54 1 (I 6 1)) 54 2 (I 6 2)) 54 3 (I 6 3)) 54 4 (I 6 4)) L D sc) (e_rV sc (fun I1 L1 D1 => e_M 21 [.ref 8, .ref 56] (S0 I1 L1 D1 sc) (e_rV sc (fun I2 L2 D2 => e_M 21 [.ref 9, .ref 57] (S0 I2 L2 D2 sc) (e_rV sc (fun I3 L3 D3 => e_M 21 [.ref 10, .ref 58] (S0 I3 L3 D3 sc) (e_rV sc (fun I4 L4 D4 => e_M 21 [.ref 11, .ref 59] (S0 I4 L4 D4 sc) (e_rV sc (fun I5 L5 D5 => e_M 21 [.ref 12, .ref 60] (S0 I5 L5 D5 sc) (e_rV sc (fun I6 L6 D6 => e_M 21 [.ref 13, .ref 61] (S0 I6 L6 D6 sc) (e_rV sc (fun I7 L7 D7 => Ψ I7 L7 D7))))))))))))))) : e_M 22 [.ref 54, .ref 6] (S0 I L D sc) (e_rV sc Ψ) :=
  e_M_go e_q22 e_k22 [] 58 (by decide +kernel) rfl rfl (e_M.mono (H) (e_gV (fun I1 L1 D1 H1 => e_M.mono (H1) (e_gV (fun I2 L2 D2 H2 => e_M.mono (H2) (e_gV (fun I3 L3 D3 H3 => e_M.mono (H3) (e_gV (fun I4 L4 D4 H4 => e_M.mono (H4) (e_gV (fun I5 L5 D5 H5 => e_M.mono (H5) (e_gV (fun I6 L6 D6 H6 => e_M.mono (H6) (e_gV (fun I7 L7 D7 H7 => e_rVi H7))))))))))))))) (e_h0 rfl)
set_option maxRecDepth 20000 in
theorem vU_copyFrom_66_6 {I : e_TI} {L : e_TL} {D : e_TD} {sc : e_TS} {Ψ : e_TI → e_TL → e_TD → Prop}
    (H : e_M 21 [.ref 7, .ref 67] (S0 (e_up (e_up (e_up (e_up (e_up I 66 0 (I 6 0)) 66 1 (I 6 1)) 66 2 (I 6 2)) 66 3 (I 6 3)) 66 4 (I 6 4)) L D sc) (e_rV sc (fun I1 L1 D1 => e_M 21 [.ref 8, .ref 68] (S0 I1 L1 D1 sc) (e_rV sc (fun I2 L2 D2 => e_M 21 [.ref 9, .ref 69] (S0 I2 L2 D2 sc) (e_rV sc (fun I3 L3 D3 => e_M 21 [.ref 10, .ref 70] (S0 I3 L3 D3 sc) (e_rV sc (fun I4 L4 D4 => e_M 21 [.ref 11, .ref 71] (S0 I4 L4 D4 sc) (e_rV sc (fun I5 L5 D5 => e_M 21 [.ref 12, .ref 72] (S0 I5 L5 D5 sc) (e_rV sc (fun I6 L6 D6 => e_M 21 [.ref 13, .ref 73] (S0 I6 L6 D6 sc) (e_rV sc (fun I7 L7 D7 => Ψ I7 L7 D7))))))))))))))) : e_M 22 [.ref 66, .ref 6] (S0 I L D sc) (e_rV sc Ψ) :=
  e_M_go e_q22 e_k22 [] 58 (by decide +kernel) rfl rfl (e_M.mono (H) (e_gV (fun I1 L1 D1 H1 => e_M.mono (H1) (e_gV (fun I2 L2 D2 H2 => e_M.mono (H2) (e_gV (fun I3 L3 D3 H3 => e_M.mono (H3) (e_gV (fun I4 L4 D4 H4 => e_M.mono (H4) (e_gV (fun I5 L5 D5 H5 => e_M.mono (H5) (e_gV (fun I6 L6 D6 H6 => e_M.mono (H6) (e_gV (fun I7 L7 D7 H7 => e_rVi H7))))))))))))))) (e_h0 rfl)
set_option maxRecDepth 20000 in
theorem vU_copyFrom_6_102 {I : e_TI} {L : e_TL} {D : e_TD} {sc : e_TS} {Ψ : e_TI → e_TL → e_TD → Prop}
    (H : e_M 21 [.ref 103, .ref 7] (S0 (e_up (e_up (e_up (e_up (e_up I 6 0 (I 102 0)) 6 1 (I 102 1)) 6 2 (I 102 2)) 6 3 (I 102 3)) 6 4 (I 102 4)) L D sc) (e_rV sc (fun I1 L1 D1 => e_M 21 [.ref 104, .ref 8] (S0 I1 L1 D1 sc) (e_rV sc (fun I2 L2 D2 => e_M 21 [.ref 105, .ref 9] (S0 I2 L2 D2 sc) (e_rV sc (fun I3 L3 D3 => e_M 21 [.ref 106, .ref 10] (S0 I3 L3 D3 sc) (e_rV sc (fun I4 L4 D4 => e_M 21 [.ref 107, .ref 11] (S0 I4 L4 D4 sc) (e_rV sc (fun I5 L5 D5 => e_M 21 [.ref 108, .ref 12] (S0 I5 L5 D5 sc) (e_rV sc (fun I6 L6 D6 => e_M 21 [.ref 109, .ref 13] (S0 I6 L6 D6 sc) (e_rV sc (fun I7 L7 D7 => Ψ I7 L7 D7))))))))))))))) : e_M 22 [.ref 6, .ref 102] (S0 I L D sc) (e_rV sc Ψ) :=
  e_M_go e_q22 e_k22 [] 58 (by decide +kernel) rfl rfl (e_M.mono (H) (e_gV (fun I1 L1 D1 H1 => e_M.mono (H1) (e_gV (fun I2 L2 D2 H2 => e_M.mono (H2) (e_gV (fun I3 L3 D3 H3 => e_M.mono (H3) (e_gV (fun I4 L4 D4 H4 => e_M.mono (H4) (e_gV (fun I5 L5 D5 H5 => e_M.mono (H5) (e_gV (fun I6 L6 D6 H6 => e_M.mono (H6) (e_gV (fun I7 L7 D7 H7 => e_rVi H7))))))))))))))) (e_h0 rfl)
set_option maxRecDepth 20000 in
theorem vU_copyFrom_6_114 {I : e_TI} {L : e_TL} {D : e_TD} {sc : e_TS} {Ψ : e_TI → e_TL → e_TD → Prop}
    (H : e_M 21 [.ref 115, .ref 7] (S0 (e_up (e_up (e_up (e_up (e_up I 6 0 (I 114 0)) 6 1 (I 114 1)) 6 2 (I 114 2)) 6 3 (I 114 3)) 6 4 (I 114 4)) L D sc) (e_rV sc (fun I1 L1 D1 => e_M 21 [.ref 116, .ref 8] (S0 I1 L1 D1 sc) (e_rV sc (fun I2 L2 D2 => e_M 21 [.ref 117, .ref 9] (S0 I2 L2 D2 sc) (e_rV sc (fun I3 L3 D3 => e_M 21 [.ref 118, .ref 10] (S0 I3 L3 D3 sc) (e_rV sc (fun I4 L4 D4 => e_M 21 [.ref 119, .ref 11] (S0 I4 L4 D4 sc) (e_rV sc (fun I5 L5 D5 => e_M 21 [.ref 120, .ref 12] (S0 I5 L5 D5 sc) (e_rV sc (fun I6 L6 D6 => e_M 21 [.ref 121, .ref 13] (S0 I6 L6 D6 sc) (e_rV sc (fun I7 L7 D7 => Ψ I7 L7 D7))))))))))))))) : e_M 22 [.ref 6, .ref 114] (S0 I L D sc) (e_rV sc Ψ) :=
  e_M_go e_q22 e_k22 [] 58 (by decide +kernel) rfl rfl (e_M.mono (H) (e_gV (fun I1 L1 D1 H1 => e_M.mono (H1) (e_gV (fun I2 L2 D2 H2 => e_M.mono (H2) (e_gV (fun I3 L3 D3 H3 => e_M.mono (H3) (e_gV (fun I4 L4 D4 H4 => e_M.mono (H4) (e_gV (fun I5 L5 D5 H5 => e_M.mono (H5) (e_gV (fun I6 L6 D6 H6 => e_M.mono (H6) (e_gV (fun I7 L7 D7 H7 => e_rVi H7))))))))))))))) (e_h0 rfl)
set_option maxRecDepth 20000 in
theorem vU_copyFrom_6_126 {I : e_TI} {L : e_TL} {D : e_TD} {sc : e_TS} {Ψ : e_TI → e_TL → e_TD → Prop}
    (H : e_M 21 [.ref 127, .ref 7] (S0 (e_up (e_up (e_up (e_up (e_up I 6 0 (I 126 0)) 6 1 (I 126 1)) 6 2 (I 126 2)) 6 3 (I 126 3)) 6 4 (I 126 4)) L D sc) (e_rV sc (fun I1 L1 D1 => e_M 21 [.ref 128, .ref 8] (S0 I1 L1 D1 sc) (e_rV sc (fun I2 L2 D2 => e_M 21 [.ref 129, .ref 9] (S0 I2 L2 D2 sc) (e_rV sc (fun I3 L3 D3 => e_M 21 [.ref 130, .ref 10] (S0 I3 L3 D3 sc) (e_rV sc (fun I4 L4 D4 => e_M 21 [.ref 131, .ref 11] (S0 I4 L4 D4 sc) (e_rV sc (fun I5 L5 D5 => e_M 21 [.ref 132, .ref 12] (S0 I5 L5 D5 sc) (e_rV sc (fun I6 L6 D6 => e_M 21 [.ref 133, .ref 13] (S0 I6 L6 D6 sc) (e_rV sc (fun I7 L7 D7 => Ψ I7 L7 D7))))))))))))))) : e_M 22 [.ref 6, .ref 126] (S0 I L D sc) (e_rV sc Ψ) :=
  e_M_go e_q22 e_k22 [] 58 (by decide +kernel) rfl rfl (e_M.mono (H) (e_gV (fun I1 L1 D1 H1 => e_M.mono (H1) (e_gV (fun I2 L2 D2 H2 => e_M.mono (H2) (e_gV (fun I3 L3 D3 H3 => e_M.mono (H3) (e_gV (fun I4 L4 D4 H4 => e_M.mono (H4) (e_gV (fun I5 L5 D5 H5 => e_M.mono (H5) (e_gV (fun I6 L6 D6 H6 => e_M.mono (H6) (e_gV (fun I7 L7 D7 H7 => e_rVi H7))))))))))))))) (e_h0 rfl)
set_option maxRecDepth 20000 in
theorem vU_copyFrom_6_28 {I : e_TI} {L : e_TL} {D : e_TD} {sc : e_TS} {Ψ : e_TI → e_TL → e_TD → Prop}
    (H : e_M 21 [.ref 29, .ref 7] (S0 (e_up (e_up (e_up (e_up (e_up I 6 0 (I 28 0)) 6 1 (I 28 1)) 6 2 (I 28 2)) 6 3 (I 28 3)) 6 4 (I 28 4)) L D sc) (e_rV sc (fun I1 L1 D1 => e_M 21 [.ref 30, .ref 8] (S0 I1 L1 D1 sc) (e_rV sc (fun I2 L2 D2 => e_M 21 [.ref 31, .ref 9] (S0 I2 L2 D2 sc) (e_rV sc (fun I3 L3 D3 => e_M 21 [.ref 32, .ref 10] (S0 I3 L3 D3 sc) (e_rV sc (fun I4 L4 D4 => e_M 21 [.ref 33, .ref 11] (S0 I4 L4 D4 sc) (e_rV sc (fun I5 L5 D5 => e_M 21 [.ref 34, .ref 12] (S0 I5 L5 D5 sc) (e_rV sc (fun I6 L6 D6 => e_M 21 [.ref 35, .ref 13] (S0 I6 L6 D6 sc) (e_rV sc (fun I7 L7 D7 => Ψ I7 L7 D7))))))))))))))) : e_M 22 [.ref 6, .ref 28] (S0 I L D sc) (e_rV sc Ψ) :=
  e_M_go e_q22 e_k22 [] 58 (by decide +kernel) rfl rfl (e_M.mono (H) (e_gV (fun I1 L1 D1 H1 => e_M.mono (H1) (e_gV (fun I2 L2 D2 H2 => e_M.mono (H2) (e_gV (fun I3 L3 D3 H3 => e_M.mono (H3) (e_gV (fun I4 L4 D4 H4 => e_M.mono (H4) (e_gV (fun I5 L5 D5 H5 => e_M.mono (H5) (e_gV (fun I6 L6 D6 H6 => e_M.mono (H6) (e_gV (fun I7 L7 D7 H7 => e_rVi H7))))))))))))))) (e_h0 rfl)
set_option maxRecDepth 20000 in
theorem vU_copyFrom_6_42 {I : e_TI} {L : e_TL} {D : e_TD} {sc : e_TS} {Ψ : e_TI → e_TL → e_TD → Prop}
    (H : e_M 21 [.ref 43, .ref 7] (S0 (e_up (e_up (e_up (e_up (e_up I 6 0 (I 42 0)) 6 1 (I 42 1)) 6 2 (I 42 2)) 6 3 (I 42 3)) 6 4 (I 42 4)) L D sc) (e_rV sc (fun I1 L1 D1 => e_M 21 [.ref 44, .ref 8] (S0 I1 L1 D1 sc) (e_rV sc (fun I2 L2 D2 => e_M 21 [.ref 45, .ref 9] (S0 I2 L2 D2 sc) (e_rV sc (fun I3 L3 D3 => e_M 21 [.ref 46, .ref 10] (S0 I3 L3 D3 sc) (e_rV sc (fun I4 L4 D4 => e_M 21 [.ref 47, .ref 11] (S0 I4 L4 D4 sc) (e_rV sc (fun I5 L5 D5 => e_M 21 [.ref 48, .ref 12] (S0 I5 L5 D5 sc) (e_rV sc (fun I6 L6 D6 => e_M 21 [.ref 49, .ref 13] (S0 I6 L6 D6 sc) (e_rV sc (fun I7 L7 D7 => Ψ I7 L7 D7))))))))))))))) : e_M 22 [.ref 6, .ref 42] (S0 I L D sc) (e_rV sc Ψ) :=
  e_M_go e_q22 e_k22 [] 58 (by decide +kernel) rfl rfl (e_M.mono (H) (e_gV (fun I1 L1 D1 H1 => e_M.mono (H1) (e_gV (fun I2 L2 D2 H2 => e_M.mono (H2) (e_gV (fun I3 L3 D3 H3 => e_M.mono (H3) (e_gV (fun I4 L4 D4 H4 => e_M.mono (H4) (e_gV (fun I5 L5 D5 H5 => e_M.mono (H5) (e_gV (fun I6 L6 D6 H6 => e_M.mono (H6) (e_gV (fun I7 L7 D7 H7 => e_rVi H7))))))))))))))) (e_h0 rfl)
set_option maxRecDepth 20000 in
theorem vU_copyFrom_6_54 {I : e_TI} {L : e_TL} {D : e_TD} {sc : e_TS} {Ψ : e_TI → e_TL → e_TD → Prop}
    (H : e_M 21 [.ref 55, .ref 7] (S0 (e_up (e_up (e_up (e_up (e_up I 6 0 (I 54 0)) 6 1 (I 54 1)) 6 2 (I 54 2)) 6 3 (I 54 3)) 6 4 (I 54 4)) L D sc) (e_rV sc (fun I1 L1 D1 => e_M 21 [.ref 56, .ref 8] (S0 I1 L1 D1 sc) (e_rV sc (fun I2 L2 D2 => e_M 21 [.ref 57, .ref 9] (S0 I2 L2 D2 sc) (e_rV sc (fun I3 L3 D3 => e_M 21 [.ref 58, .ref 10] (S0 I3 L3 D3 sc) (e_rV sc (fun I4 L4 D4 => e_M 21 [.ref 59, .ref 11] (S0 I4 L4 D4 sc) (e_rV sc (fun I5 L5 D5 => e_M 21 [.ref 60, .ref 12] (S0 I5 L5 D5 sc) (e_rV sc (fun I6 L6 D6 => e_M 21 [.ref 61, .ref 13] (S0 I6 L6 D6 sc) (e_rV sc (fun I7 L7 D7 => Ψ I7 L7 D7))))))))))))))) : e_M 22 [.ref 6, .ref 54] (S0 I L D sc) (e_rV sc Ψ) :=
  e_M_go e_q22 e_k22 [] 58 (by decide +kernel) rfl rfl (e_M.mono (H) (e_gV (fun I1 L1 D1 H1 => e_M.mono (H1) (e_gV (fun I2 L2 D2 H2 => e_M.mono (H2) (e_gV (fun I3 L3 D3 H3 => e_M.mono (H3) (e_gV (fun I4 L4 D4 H4 => e_M.mono (H4) (e_gV (fun I5 L5 D5 H5 => e_M.mono (H5) (e_gV (fun I6 L6 D6 H6 => e_M.mono (H6) (e_gV (fun I7 L7 D7 H7 => e_rVi H7))))))))))))))) (e_h0 rfl)
set_option maxRecDepth 20000 in
theorem vU_copyFrom_6_66 {I : e_TI} {L : e_TL} {D : e_TD} {sc : e_TS} {Ψ : e_TI → e_TL → e_TD → Prop}
    (H : e_M 21 [.ref 67, .ref 7] (S0 (e_up (e_up (e_up (e_up (e_up I 6 0 (I 66 0)) 6 1 (I 66 1)) 6 2 (I 66 2)) 6 3 (I 66 3)) 6 4 (I 66 4)) L D sc) (e_rV sc (fun I1 L1 D1 => e_M 21 [.ref 68, .ref 8] (S0 I1 L1 D1 sc) (e_rV sc (fun I2 L2 D2 => e_M 21 [.ref 69, .ref 9] (S0 I2 L2 D2 sc) (e_rV sc (fun I3 L3 D3 => e_M 21 [.ref 70, .ref 10] (S0 I3 L3 D3 sc) (e_rV sc (fun I4 L4 D4 => e_M 21 [.ref 71, .ref 11] (S0 I4 L4 D4 sc) (e_rV sc (fun I5 L5 D5 => e_M 21 [.ref 72, .ref 12] (S0 I5 L5 D5 sc) (e_rV sc (fun I6 L6 D6 => e_M 21 [.ref 73, .ref 13] (S0 I6 L6 D6 sc) (e_rV sc (fun I7 L7 D7 => Ψ I7 L7 D7))))))))))))))) : e_M 22 [.ref 6, .ref 66] (S0 I L D sc) (e_rV sc Ψ) :=
  e_M_go e_q22 e_k22 [] 58 (by decide +kernel) rfl rfl (e_M.mono (H) (e_gV (fun I1 L1 D1 H1 => e_M.mono (H1) (e_gV (fun I2 L2 D2 H2 => e_M.mono (H2) (e_gV (fun I3 L3 D3 H3 => e_M.mono (H3) (e_gV (fun I4 L4 D4 H4 => e_M.mono (H4) (e_gV (fun I5 L5 D5 H5 => e_M.mono (H5) (e_gV (fun I6 L6 D6 H6 => e_M.mono (H6) (e_gV (fun I7 L7 D7 H7 => e_rVi H7))))))))))))))) (e_h0 rfl)
set_option maxRecDepth 20000 in
theorem vU_copyFrom_6_78 {I : e_TI} {L : e_TL} {D : e_TD} {sc : e_TS} {Ψ : e_TI → e_TL → e_TD → Prop}
    (H : e_M 21 [.ref 79, .ref 7] (S0 (e_up (e_up (e_up (e_up (e_up I 6 0 (I 78 0)) 6 1 (I 78 1)) 6 2 (I 78 2)) 6 3 (I 78 3)) 6 4 (I 78 4)) L D sc) (e_rV sc (fun I1 L1 D1 => e_M 21 [.ref 80, .ref 8] (S0 I1 L1 D1 sc) (e_rV sc (fun I2 L2 D2 => e_M 21 [.ref 81, .ref 9] (S0 I2 L2 D2 sc) (e_rV sc (fun I3 L3 D3 => e_M 21 [.ref 82, .ref 10] (S0 I3 L3 D3 sc) (e_rV sc (fun I4 L4 D4 => e_M 21 [.ref 83, .ref 11] (S0 I4 L4 D4 sc) (e_rV sc (fun I5 L5 D5 => e_M 21 [.ref 84, .ref 12] (S0 I5 L5 D5 sc) (e_rV sc (fun I6 L6 D6 => e_M 21 [.ref 85, .ref 13] (S0 I6 L6 D6 sc) (e_rV sc (fun I7 L7 D7 => Ψ I7 L7 D7))))))))))))))) : e_M 22 [.ref 6, .ref 78] (S0 I L D sc) (e_rV sc Ψ) :=
  e_M_go e_q22 e_k22 [] 58 (by decide +kernel) rfl rfl (e_M.mono (H) (e_gV (fun I1 L1 D1 H1 => e_M.mono (H1) (e_gV (fun I2 L2 D2 H2 => e_M.mono (H2) (e_gV (fun I3 L3 D3 H3 => e_M.mono (H3) (e_gV (fun I4 L4 D4 H4 => e_M.mono (H4) (e_gV (fun I5 L5 D5 H5 => e_M.mono (H5) (e_gV (fun I6 L6 D6 H6 => e_M.mono (H6) (e_gV (fun I7 L7 D7 H7 => e_rVi H7))))))))))))))) (e_h0 rfl)
set_option maxRecDepth 20000 in
theorem vU_copyFrom_6_90 {I : e_TI} {L : e_TL} {D : e_TD} {sc : e_TS} {Ψ : e_TI → e_TL → e_TD → Prop}
    (H : e_M 21 [.ref 91, .ref 7] (S0 (e_up (e_up (e_up (e_up (e_up I 6 0 (I 90 0)) 6 1 (I 90 1)) 6 2 (I 90 2)) 6 3 (I 90 3)) 6 4 (I 90 4)) L D sc) (e_rV sc (fun I1 L1 D1 => e_M 21 [.ref 92, .ref 8] (S0 I1 L1 D1 sc) (e_rV sc (fun I2 L2 D2 => e_M 21 [.ref 93, .ref 9] (S0 I2 L2 D2 sc) (e_rV sc (fun I3 L3 D3 => e_M 21 [.ref 94, .ref 10] (S0 I3 L3 D3 sc) (e_rV sc (fun I4 L4 D4 => e_M 21 [.ref 95, .ref 11] (S0 I4 L4 D4 sc) (e_rV sc (fun I5 L5 D5 => e_M 21 [.ref 96, .ref 12] (S0 I5 L5 D5 sc) (e_rV sc (fun I6 L6 D6 => e_M 21 [.ref 97, .ref 13] (S0 I6 L6 D6 sc) (e_rV sc (fun I7 L7 D7 => Ψ I7 L7 D7))))))))))))))) : e_M 22 [.ref 6, .ref 90] (S0 I L D sc) (e_rV sc Ψ) :=
  e_M_go e_q22 e_k22 [] 58 (by decide +kernel) rfl rfl (e_M.mono (H) (e_gV (fun I1 L1 D1 H1 => e_M.mono (H1) (e_gV (fun I2 L2 D2 H2 => e_M.mono (H2) (e_gV (fun I3 L3 D3 H3 => e_M.mono (H3) (e_gV (fun I4 L4 D4 H4 => e_M.mono (H4) (e_gV (fun I5 L5 D5 H5 => e_M.mono (H5) (e_gV (fun I6 L6 D6 H6 => e_M.mono (H6) (e_gV (fun I7 L7 D7 H7 => e_rVi H7))))))))))))))) (e_h0 rfl)
set_option maxRecDepth 20000 in
theorem vU_copyFrom_78_6 {I : e_TI} {L : e_TL} {D : e_TD} {sc : e_TS} {Ψ : e_TI → e_TL → e_TD → Prop}
    (H : e_M 21 [.ref 7, .ref 79] (S0 (e_up (e_up (e_up (e_up (e_up I 78 0 (I 6 0)) 78 1 (I 6 1)) 78 2 (I 6 2)) 78 3 (I 6 3)) 78 4 (I 6 4)) L D sc) (e_rV sc (fun I1 L1 D1 => e_M 21 [.ref 8, .ref 80] (S0 I1 L1 D1 sc) (e_rV sc (fun I2 L2 D2 => e_M 21 [.ref 9, .ref 81] (S0 I2 L2 D2 sc) (e_rV sc (fun I3 L3 D3 => e_M 21 [.ref 10, .ref 82] (S0 I3 L3 D3 sc) (e_rV sc (fun I4 L4 D4 => e_M 21 [.ref 11, .ref 83] (S0 I4 L4 D4 sc) (e_rV sc (fun I5 L5 D5 => e_M 21 [.ref 12, .ref 84] (S0 I5 L5 D5 sc) (e_rV sc (fun I6 L6 D6 => e_M 21 [.ref 13, .ref 85] (S0 I6 L6 D6 sc) (e_rV sc (fun I7 L7 D7 => Ψ I7 L7 D7))))))))))))))) : e_M 22 [.ref 78, .ref 6] (S0 I L D sc) (e_rV sc Ψ) :=
  e_M_go e_q22 e_k22 [] 58 (by decide +kernel) rfl rfl (e_M.mono (H) (e_gV (fun I1 L1 D1 H1 => e_M.mono (H1) (e_gV (fun I2 L2 D2 H2 => e_M.mono (H2) (e_gV (fun I3 L3 D3 H3 => e_M.mono (H3) (e_gV (fun I4 L4 D4 H4 => e_M.mono (H4) (e_gV (fun I5 L5 D5 H5 => e_M.mono (H5) (e_gV (fun I6 L6 D6 H6 => e_M.mono (H6) (e_gV (fun I7 L7 D7 H7 => e_rVi H7))))))))))))))) (e_h0 rfl)
set_option maxRecDepth 20000 in
theorem vU_copyFrom_90_6 {I : e_TI} {L : e_TL} {D : e_TD} {sc : e_TS} {Ψ : e_TI → e_TL → e_TD → Prop}
    (H : e_M 21 [.ref 7, .ref 91] (S0 (e_up (e_up (e_up (e_up (e_up I 90 0 (I 6 0)) 90 1 (I 6 1)) 90 2 (I 6 2)) 90 3 (I 6 3)) 90 4 (I 6 4)) L D sc) (e_rV sc (fun I1 L1 D1 => e_M 21 [.ref 8, .ref 92] (S0 I1 L1 D1 sc) (e_rV sc (fun I2 L2 D2 => e_M 21 [.ref 9, .ref 93] (S0 I2 L2 D2 sc) (e_rV sc (fun I3 L3 D3 => e_M 21 [.ref 10, .ref 94] (S0 I3 L3 D3 sc) (e_rV sc (fun I4 L4 D4 => e_M 21 [.ref 11, .ref 95] (S0 I4 L4 D4 sc) (e_rV sc (fun I5 L5 D5 => e_M 21 [.ref 12, .ref 96] (S0 I5 L5 D5 sc) (e_rV sc (fun I6 L6 D6 => e_M 21 [.ref 13, .ref 97] (S0 I6 L6 D6 sc) (e_rV sc (fun I7 L7 D7 => Ψ I7 L7 D7))))))))))))))) : e_M 22 [.ref 90, .ref 6] (S0 I L D sc) (e_rV sc Ψ) :=
  e_M_go e_q22 e_k22 [] 58 (by decide +kernel) rfl rfl (e_M.mono (H) (e_gV (fun I1 L1 D1 H1 => e_M.mono (H1) (e_gV (fun I2 L2 D2 H2 => e_M.mono (H2) (e_gV (fun I3 L3 D3 H3 => e_M.mono (H3) (e_gV (fun I4 L4 D4 H4 => e_M.mono (H4) (e_gV (fun I5 L5 D5 H5 => e_M.mono (H5) (e_gV (fun I6 L6 D6 H6 => e_M.mono (H6) (e_gV (fun I7 L7 D7 H7 => e_rVi H7))))))))))))))) (e_h0 rfl)
