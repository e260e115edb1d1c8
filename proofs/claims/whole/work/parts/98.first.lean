/-! the law from its beginning to its loop's head; the first state -/
section
variable {I : e_TI} {L : e_TL} {D : e_TD} {sc : e_TS} {Φ : e_O → e_H → Prop}
theorem K_HexCampaign (hI : ∀ c, I c = fun _ => 0) (hL : ∀ c, L c = fun _ => 0) (hD : ∀ c, D c = fun _ => 0) (H : Φ (.inl none) (kL276, e_up I 2 5 10, e_up L 4 0 9223372036854775807, D, sc, true)) : e_M 13 [.ref 0] (kL0, I, L, D, sc, true) Φ := by
  refine e_M_in e_q13 (by decide +kernel) rfl rfl (K_class (fun c _ => hI c) (fun c _ => hL c) (fun c _ => hD c) ?_)
  refine e_Wp.still (Q := fun o h' => o = .inl none ∧ h' = (kL276, e_up I 2 5 10, e_up L 4 0 9223372036854775807, D, sc, false)) ?_ (fun o h' _ hq => ?_)
  · exact e_W_goS e_q13 e_k13 [] 20 75 (B_12_2 rfl rfl hI hL ⟨rfl, rfl⟩)
  · obtain ⟨rfl, rfl⟩ := hq
    exact H
end
def oI0 : e_TI := fun _ _ => 0
def oL0 : e_TL := fun _ _ => 0
def oD0 : e_TD := fun _ _ => 0
def yI0 : e_TI := e_up (e_up oI0 2 5 10) 140 190 10
def yL0 : e_TL := e_up oL0 4 0 9223372036854775807
theorem yI0_z {c : Nat} (h : c ≠ 2) (h2 : c ≠ 140) : yI0 c = fun _ => 0 := by
  unfold yI0
  rw [up_cell h2, up_cell h]
  rfl
theorem yL0_z {c : Nat} (h : c ≠ 4) : yL0 c = fun _ => 0 := by
  unfold yL0
  rw [up_cell h]
  rfl
theorem kI_z {c : Nat} (h : c ≠ 2) : (e_up oI0 2 5 10) c = fun _ => 0 := by
  rw [up_cell h]
  rfl
theorem kL_lay0 : kL295 = lay0 := rfl
/-- the law's beginning -/
theorem q_begin {sc : e_TS} {Q : e_O → e_H → Prop} (H : e_Wp 308 28 [some (.retAddr 20), some (.ref 0), some (.ref 139), some (.ref 148), some (.ref 149), some (.int (Int32.ofNat (5 * 0))), none, none, none] [] (lay0, yI0, yL0, oD0, sc, true) 602922 7201071 Q) : e_Wp 308 0 [some (.retAddr 20), none, none, none, none, none, none, none, none] [] ([], oI0, oL0, oD0, sc, true) 603072 7207018 Q := by
  refine k_new (la := []) (la' := kL0) (bc' := 603071) (bs' := 7207011) (m := 0) e_q308 e_k308 rfl rfl (by decide +kernel) rfl rfl rfl rfl rfl rfl rfl rfl rfl rfl ?_
  refine e_W_goS e_q308 e_k308 [4] 400 3 ?_
  refine k_call (la := kL0) (la' := kL276) (I' := e_up oI0 2 5 10) (L' := yL0) (D' := oD0) (bc' := 602933) (bs' := 7204376) (m := 1) e_q308 e_k308 rfl rfl rfl rfl rfl rfl rfl (fun Φ hΦ => K_HexCampaign (fun _ => rfl) (fun _ => rfl) (fun _ => rfl) hΦ) rfl rfl ?_
  refine e_W_goS e_q308 e_k308 [8] 400 7 ?_
  refine k_new (la := kL276) (la' := kL277) (bc' := 602932) (bs' := 7204358) (m := 139) e_q308 e_k308 rfl rfl (by decide +kernel) rfl rfl rfl rfl (kI_z (by decide)) (yL0_z (by decide)) rfl rfl rfl rfl ?_
  refine e_W_goS e_q308 e_k308 [12] 400 11 ?_
  refine k_call (la := kL277) (la' := kL293) (I' := yI0) (L' := yL0) (D' := oD0) (bc' := 602924) (bs' := 7201073) (m := 140) e_q308 e_k308 rfl rfl rfl rfl rfl rfl rfl (fun Φ hΦ => K_HexCampaignModel_139 (fun c hc => kI_z (by omega)) (fun c hc => yL0_z (by omega)) (fun _ _ => rfl) hΦ) rfl rfl ?_
  refine e_W_goS e_q308 e_k308 [17] 400 15 ?_
  refine k_nwa (la := kL293) (la' := kL294) (bc' := 602923) (bs' := 7201072) (m := 148) (n := 1) e_q308 e_k308 rfl (by decide +kernel) (by decide +kernel) rfl (by decide +kernel) rfl rfl rfl rfl rfl (yI0_z (by decide) (by decide)) (yL0_z (by decide)) rfl rfl rfl rfl ?_
  refine e_W_goS e_q308 e_k308 [21] 400 19 ?_
  refine k_nwa (la := kL294) (la' := kL295) (bc' := 602922) (bs' := 7201071) (m := 149) (n := 1) e_q308 e_k308 rfl (by decide +kernel) (by decide +kernel) rfl (by decide +kernel) rfl rfl rfl rfl rfl (yI0_z (by decide) (by decide)) (yL0_z (by decide)) rfl rfl rfl rfl ?_
  refine e_W_goS e_q308 e_k308 [28] 400 23 ?_
  rw [kL_lay0]
  exact H
