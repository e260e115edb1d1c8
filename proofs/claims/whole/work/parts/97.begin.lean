/-! the first game's begin: every loop run out -/
set_option maxRecDepth 20000 in
theorem B_8_3 {I I' : e_TI} {L L' : e_TL} {D : e_TD} {sc : e_TS} {Φ : e_O → e_H → Prop} (eI : I' = I) (eL : L' = L) (hI : ∀ c, I c = fun _ => 0) (hL : ∀ c, L c = fun _ => 0) (H : Φ (.inl none) (kL276, I, (e_up L 4 0 9223372036854775807), D, sc, false)) : e_M 8 [.ref 3] (kL276, I', L', D, sc, false) Φ := by
  subst eI
  subst eL
  exact e_M_go e_q8 e_k8 [] 400 (by decide +kernel) rfl rfl (And.intro (fun (h : (6 : Int32) ≤ (0 : Int32)) => absurd h (by decide)) (fun _ => And.intro (fun (h : ¬ (0 : Int32) = 0) => absurd h (by decide)) (fun _ => And.intro (e_vin rfl) (And.intro (fun (h : (6 : Int32) ≤ (1 : Int32)) => absurd h (by decide)) (fun _ => And.intro (fun _ => And.intro (e_vin rfl) (And.intro (fun (h : (6 : Int32) ≤ (2 : Int32)) => absurd h (by decide)) (fun _ => And.intro (fun _ => And.intro (e_vin rfl) (And.intro (fun (h : (6 : Int32) ≤ (3 : Int32)) => absurd h (by decide)) (fun _ => And.intro (fun _ => And.intro (e_vin rfl) (And.intro (fun (h : (6 : Int32) ≤ (4 : Int32)) => absurd h (by decide)) (fun _ => And.intro (fun _ => And.intro (e_vin rfl) (And.intro (fun (h : (6 : Int32) ≤ (5 : Int32)) => absurd h (by decide)) (fun _ => And.intro (fun _ => And.intro (e_vin rfl) (And.intro (fun _ => And.intro (fun (h : (2 : Int32) ≤ (0 : Int32)) => absurd h (by decide)) (fun _ => And.intro (e_vin rfl) (And.intro (fun (h : (2 : Int32) ≤ (1 : Int32)) => absurd h (by decide)) (fun _ => And.intro (e_vin rfl) (And.intro (fun _ => e_heq (Φ := Φ) rfl (e_uz (e_uz (e_uz (e_uz (e_uz (e_uz (e_uz (e_uz (e_uc rfl) ((up_slot (by decide)).trans (congrFun (hL 4) _))) ((up_slot (by decide)).trans (congrFun (hL 4) _))) ((up_slot (by decide)).trans (congrFun (hL 4) _))) ((up_slot (by decide)).trans (congrFun (hL 4) _))) ((up_slot (by decide)).trans (congrFun (hL 4) _))) ((congrFun (up_cell (by decide)) _).trans (congrFun (hL 5) _))) ((congrFun (up_cell (by decide)) _).trans (congrFun (hL 5) _))) ((congrFun (up_cell (by decide)) _).trans (congrFun (hL 3) _))) rfl H) (fun (h : ¬ ((2 : Int32) ≤ (2 : Int32))) => absurd (by decide) h)))))) (fun (h : ¬ ((6 : Int32) ≤ (6 : Int32))) => absurd (by decide) h))) (fun (h : ¬ (¬ (5 : Int32) = 0)) => absurd (by decide) h)))) (fun (h : ¬ (¬ (4 : Int32) = 0)) => absurd (by decide) h)))) (fun (h : ¬ (¬ (3 : Int32) = 0)) => absurd (by decide) h)))) (fun (h : ¬ (¬ (2 : Int32) = 0)) => absurd (by decide) h)))) (fun (h : ¬ (¬ (1 : Int32) = 0)) => absurd (by decide) h)))))) (e_h0 rfl)
set_option maxRecDepth 20000 in
theorem B_9_6 {I I' : e_TI} {L L' : e_TL} {D : e_TD} {sc : e_TS} {Φ : e_O → e_H → Prop} (eI : I' = I) (eL : L' = L) (hI : ∀ c, I c = fun _ => 0) (H : Φ (.inl none) (kL276, I, L, D, sc, false)) : e_M 9 [.ref 6] (kL276, I', L', D, sc, false) Φ := by
  subst eI
  subst eL
  exact e_M_go e_q9 e_k9 [] 400 (by decide +kernel) rfl rfl (e_heq (Φ := Φ) (e_uz (e_uz rfl (congrFun (hI 6) _)) (congrFun (hI 6) _)) rfl rfl H) (e_h0 rfl)
set_option maxRecDepth 20000 in
theorem B_10_10 {I I' : e_TI} {L L' : e_TL} {D : e_TD} {sc : e_TS} {Φ : e_O → e_H → Prop} (eI : I' = I) (eL : L' = L) (hI : ∀ c, I c = fun _ => 0) (H : Φ (.inl none) (kL276, I, L, D, sc, false)) : e_M 10 [.ref 10] (kL276, I', L', D, sc, false) Φ := by
  subst eI
  subst eL
  exact e_M_go e_q10 e_k10 [] 400 (by decide +kernel) rfl rfl (And.intro (fun (h : (2 : Int32) ≤ (0 : Int32)) => absurd h (by decide)) (fun _ => And.intro (e_vin rfl) (And.intro (fun (h : (2 : Int32) ≤ (1 : Int32)) => absurd h (by decide)) (fun _ => And.intro (e_vin rfl) (And.intro (fun _ => e_heq (Φ := Φ) (e_uz (e_uz rfl (congrFun (hI 10) _)) (congrFun (hI 10) _)) rfl rfl H) (fun (h : ¬ ((2 : Int32) ≤ (2 : Int32))) => absurd (by decide) h)))))) (e_h0 rfl)
set_option maxRecDepth 20000 in
theorem B_10_11 {I I' : e_TI} {L L' : e_TL} {D : e_TD} {sc : e_TS} {Φ : e_O → e_H → Prop} (eI : I' = I) (eL : L' = L) (hI : ∀ c, I c = fun _ => 0) (H : Φ (.inl none) (kL276, I, L, D, sc, false)) : e_M 10 [.ref 11] (kL276, I', L', D, sc, false) Φ := by
  subst eI
  subst eL
  exact e_M_go e_q10 e_k10 [] 400 (by decide +kernel) rfl rfl (And.intro (fun (h : (2 : Int32) ≤ (0 : Int32)) => absurd h (by decide)) (fun _ => And.intro (e_vin rfl) (And.intro (fun (h : (2 : Int32) ≤ (1 : Int32)) => absurd h (by decide)) (fun _ => And.intro (e_vin rfl) (And.intro (fun _ => e_heq (Φ := Φ) (e_uz (e_uz rfl (congrFun (hI 11) _)) (congrFun (hI 11) _)) rfl rfl H) (fun (h : ¬ ((2 : Int32) ≤ (2 : Int32))) => absurd (by decide) h)))))) (e_h0 rfl)
set_option maxRecDepth 20000 in
theorem B_10_12 {I I' : e_TI} {L L' : e_TL} {D : e_TD} {sc : e_TS} {Φ : e_O → e_H → Prop} (eI : I' = I) (eL : L' = L) (hI : ∀ c, I c = fun _ => 0) (H : Φ (.inl none) (kL276, I, L, D, sc, false)) : e_M 10 [.ref 12] (kL276, I', L', D, sc, false) Φ := by
  subst eI
  subst eL
  exact e_M_go e_q10 e_k10 [] 400 (by decide +kernel) rfl rfl (And.intro (fun (h : (2 : Int32) ≤ (0 : Int32)) => absurd h (by decide)) (fun _ => And.intro (e_vin rfl) (And.intro (fun (h : (2 : Int32) ≤ (1 : Int32)) => absurd h (by decide)) (fun _ => And.intro (e_vin rfl) (And.intro (fun _ => e_heq (Φ := Φ) (e_uz (e_uz rfl (congrFun (hI 12) _)) (congrFun (hI 12) _)) rfl rfl H) (fun (h : ¬ ((2 : Int32) ≤ (2 : Int32))) => absurd (by decide) h)))))) (e_h0 rfl)
set_option maxRecDepth 20000 in
theorem B_10_13 {I I' : e_TI} {L L' : e_TL} {D : e_TD} {sc : e_TS} {Φ : e_O → e_H → Prop} (eI : I' = I) (eL : L' = L) (hI : ∀ c, I c = fun _ => 0) (H : Φ (.inl none) (kL276, I, L, D, sc, false)) : e_M 10 [.ref 13] (kL276, I', L', D, sc, false) Φ := by
  subst eI
  subst eL
  exact e_M_go e_q10 e_k10 [] 400 (by decide +kernel) rfl rfl (And.intro (fun (h : (2 : Int32) ≤ (0 : Int32)) => absurd h (by decide)) (fun _ => And.intro (e_vin rfl) (And.intro (fun (h : (2 : Int32) ≤ (1 : Int32)) => absurd h (by decide)) (fun _ => And.intro (e_vin rfl) (And.intro (fun _ => e_heq (Φ := Φ) (e_uz (e_uz rfl (congrFun (hI 13) _)) (congrFun (hI 13) _)) rfl rfl H) (fun (h : ¬ ((2 : Int32) ≤ (2 : Int32))) => absurd (by decide) h)))))) (e_h0 rfl)
set_option maxRecDepth 20000 in
theorem B_11_6 {I I' : e_TI} {L L' : e_TL} {D : e_TD} {sc : e_TS} {Φ : e_O → e_H → Prop} (eI : I' = I) (eL : L' = L) (hI : ∀ c, I c = fun _ => 0) (H : Φ (.inl none) (kL276, I, L, D, sc, false)) : e_M 11 [.ref 6] (kL276, I', L', D, sc, false) Φ := by
  subst eI
  subst eL
  exact e_M_go e_q11 e_k11 [] 400 (by decide +kernel) rfl rfl (B_9_6 (e_uz (e_uz (e_uz rfl (congrFun (hI 6) _)) (congrFun (hI 6) _)) (congrFun (hI 6) _)) rfl hI (B_10_10 rfl rfl hI (B_10_11 rfl rfl hI (B_10_12 rfl rfl hI (B_10_13 rfl rfl hI (e_heq (Φ := Φ) rfl rfl rfl H)))))) (e_h0 rfl)
set_option maxRecDepth 20000 in
theorem B_12_2 {I I' : e_TI} {L L' : e_TL} {D : e_TD} {sc : e_TS} {Φ : e_O → e_H → Prop} (eI : I' = I) (eL : L' = L) (hI : ∀ c, I c = fun _ => 0) (hL : ∀ c, L c = fun _ => 0) (H : Φ (.inl none) (kL276, (e_up I 2 5 10), (e_up L 4 0 9223372036854775807), D, sc, false)) : e_M 12 [.ref 2, .int 0] (kL276, I', L', D, sc, false) Φ := by
  subst eI
  subst eL
  exact e_M_go e_q12 e_k12 [] 400 (by decide +kernel) rfl rfl (B_8_3 rfl rfl hI hL (B_11_6 rfl rfl hI (e_heq (Φ := Φ) (e_uz (e_uz (e_uz (e_uc (e_uz (e_uz (e_uz rfl (congrFun (hI 2) _)) (congrFun (hI 2) _)) (congrFun (hI 2) _))) ((up_slot (by decide)).trans (congrFun (hI 2) _))) ((up_slot (by decide)).trans (congrFun (hI 2) _))) ((up_slot (by decide)).trans (congrFun (hI 2) _))) rfl rfl H))) (e_h0 rfl)
