/-! the class's kept games -/
def HiR (I : e_TI) (L : e_TL) (m : Nat) (P : Nat → Nat → Int32) : Prop :=
  ∃ nx, nx < 8 ∧ I 36 1 = Int32.ofNat nx ∧ I 36 2 = Int32.ofNat m ∧ m ≤ 8 ∧ ∀ i, i < m → gok (P i) ∧ RC (38 + 12 * ((nx + 8 - m + i) % 8)) I L (P i)
/-- one game more is kept -/
def pushP (m : Nat) (P : Nat → Nat → Int32) (g : Nat → Int32) (i : Nat) : Nat → Int32 := if m < 8 then (if i < m then P i else g) else (if i < 7 then P (i + 1) else g)
theorem HiR.fr {I I' : e_TI} {L L' : e_TL} {m : Nat} {P : Nat → Nat → Int32} (h : HiR I L m P) {lo hi : Nat} (hF : Fr lo hi I L I' L') (hb : hi ≤ 36 ∨ 134 ≤ lo) : HiR I' L' m P := by
  obtain ⟨nx, h1, h2, h3, h4, h5⟩ := h
  refine ⟨nx, h1, ?_, ?_, h4, fun i hi2 => ⟨(h5 i hi2).1, (h5 i hi2).2.fr hF ?_⟩⟩
  · rw [(hF 36 (by omega)).1]; exact h2
  · rw [(hF 36 (by omega)).1]; exact h3
  · have := Nat.mod_lt (nx + 8 - m + i) (show 0 < 8 by decide)
    omega
/-- behind a copy into the next place -/
theorem HiR.push {I I1 : e_TI} {L L1 : e_TL} {m nx : Nat} {P : Nat → Nat → Int32} {g : Nat → Int32} (hnx : nx < 8) (hm : m ≤ 8) (h5 : ∀ i, i < m → gok (P i) ∧ RC (38 + 12 * ((nx + 8 - m + i) % 8)) I L (P i)) (hg : gok g) (hF : Fr (38 + 12 * nx) (38 + 12 * nx + 12) I L I1 L1) (hR : RC (38 + 12 * nx) I1 L1 g) {x y : Int32} (hx : x = Int32.ofNat ((nx + 1) % 8)) (hy : y = Int32.ofNat (min (m + 1) 8)) : HiR (e_up (e_up I1 36 1 x) 36 2 y) L1 (min (m + 1) 8) (pushP m P g) := by
  have hU : ∀ c, c ≠ 36 → e_up (e_up I1 36 1 x) 36 2 y c = I1 c := fun c hc => by rw [up_cell hc, up_cell hc]
  refine ⟨(nx + 1) % 8, Nat.mod_lt _ (by decide), ?_, ?_, by omega, fun i hi => ?_⟩
  · rw [up_slot (by decide), up_same, hx]
  · rw [up_same, hy]
  · have fr : ∀ j, j < 8 → RC (38 + 12 * j) I1 L1 (pushP m P g i) → RC (38 + 12 * j) (e_up (e_up I1 36 1 x) 36 2 y) L1 (pushP m P g i) := fun j hj h => h.frame (fun c h1 h2 => hU c (by omega)) (fun c h1 h2 => rfl)
    have old : ∀ j k, k < m → (nx + 8 - m + k) % 8 = j → j ≠ nx → RC (38 + 12 * j) I1 L1 (P k) := fun j k hk hj hne => by
      have h6 := (h5 k hk).2
      rw [hj] at h6
      have := Nat.mod_lt (nx + 8 - m + k) (show 0 < 8 by decide)
      exact h6.fr hF (by omega)
    by_cases hm8 : m < 8
    · by_cases him : i < m
      · have e : pushP m P g i = P i := by unfold pushP; rw [if_pos hm8, if_pos him]
        refine ⟨by rw [e]; exact (h5 i him).1, fr _ (Nat.mod_lt _ (by decide)) ?_⟩
        rw [e]
        exact old _ i him (by omega) (by omega)
      · have e : pushP m P g i = g := by unfold pushP; rw [if_pos hm8, if_neg him]
        refine ⟨by rw [e]; exact hg, fr _ (Nat.mod_lt _ (by decide)) ?_⟩
        rw [e, show ((nx + 1) % 8 + 8 - min (m + 1) 8 + i) % 8 = nx by omega]
        exact hR
    · by_cases hi7 : i < 7
      · have e : pushP m P g i = P (i + 1) := by unfold pushP; rw [if_neg hm8, if_pos hi7]
        refine ⟨by rw [e]; exact (h5 (i + 1) (by omega)).1, fr _ (Nat.mod_lt _ (by decide)) ?_⟩
        rw [e]
        exact old _ (i + 1) (by omega) (by omega) (by omega)
      · have e : pushP m P g i = g := by unfold pushP; rw [if_neg hm8, if_neg hi7]
        refine ⟨by rw [e]; exact hg, fr _ (Nat.mod_lt _ (by decide)) ?_⟩
        rw [e, show ((nx + 1) % 8 + 8 - min (m + 1) 8 + i) % 8 = nx by omega]
        exact hR
section
variable {I : e_TI} {L : e_TL} {D : e_TD} {sc : e_TS}
theorem s_forget {Ψ : e_TI → e_TL → e_TD → Prop} (H : Ψ (e_up I 36 2 0) L D) : e_M 16 [.ref 36] (S0 I L D sc) (e_rV sc Ψ) := vHi_forget H
theorem s_keptAt {Ψ : Nat → e_TI → e_TL → e_TD → Prop} {j : Nat} (hj : j < 8) (H : Ψ (38 + 12 * j) I L D) : e_M 18 [.ref 36, .int (Int32.ofNat j)] (S0 I L D sc) (e_rK sc Ψ) := by
  have h : j = 0 ∨ j = 1 ∨ j = 2 ∨ j = 3 ∨ j = 4 ∨ j = 5 ∨ j = 6 ∨ j = 7 := by omega
  rcases h with rfl | rfl | rfl | rfl | rfl | rfl | rfl | rfl
  · exact vHi_keptAt_0 H
  · exact vHi_keptAt_1 H
  · exact vHi_keptAt_2 H
  · exact vHi_keptAt_3 H
  · exact vHi_keptAt_4 H
  · exact vHi_keptAt_5 H
  · exact vHi_keptAt_6 H
  · exact vHi_keptAt_7 H
theorem s_keep {Ψ : e_TI → e_TL → e_TD → Prop} {g : Nat → Int32} {m : Nat} {P : Nat → Nat → Int32} (h : GR I L g) (hH : HiR I L m P) (H : ∀ I' L', Fr 36 134 I L I' L' → HiR I' L' (min (m + 1) 8) (pushP m P g) → Ψ I' L' D) : e_M 25 [.ref 36, .ref 2] (S0 I L D sc) (e_rV sc Ψ) := by
  obtain ⟨nx, hnx, h1, h2, hm, h5⟩ := hH
  have hma := h.ma
  refine vHi_keep ?_
  rw [h1]
  refine s_keptAt hnx ?_
  have fin : ∀ (I1 : e_TI) (L1 : e_TL), Fr (38 + 12 * nx) (38 + 12 * nx + 12) I L I1 L1 → RC (38 + 12 * nx) I1 L1 g → ((8 ≤ I1 36 1 + 1 → e_M 24 [.int (I1 36 2 + 1), .int 8] (S0 (e_up I1 36 1 0) L1 D sc) (e_rI sc (fun r3 I3 L3 D3 => Ψ (e_up I3 36 2 r3) L3 D3))) ∧ (¬ (8 ≤ I1 36 1 + 1) → e_M 24 [.int (I1 36 2 + 1), .int 8] (S0 (e_up I1 36 1 (I1 36 1 + 1)) L1 D sc) (e_rI sc (fun r4 I4 L4 D4 => Ψ (e_up I4 36 2 r4) L4 D4)))) := by
    intro I1 L1 hF hR
    rw [(hF 36 (by omega)).1, h1, h2, o_s, o_s, show (8 : Int32) = Int32.ofNat 8 from rfl, o_le (by decide) (by omega)]
    have hF' : Fr 36 134 I L I1 L1 := hF.mono (by omega) (by omega)
    refine ⟨fun h8 => s_minN (by omega) (by decide) ?_, fun h8 => s_minN (by omega) (by decide) ?_⟩
    · exact H _ _ ((hF'.upI (by decide)).upI (by decide)) (HiR.push hnx hm h5 h.1 hF hR (show (0 : Int32) = _ by rw [show (nx + 1) % 8 = 0 by omega]; rfl) rfl)
    · exact H _ _ ((hF'.upI (by decide)).upI (by decide)) (HiR.push hnx hm h5 h.1 hF hR (by rw [show (nx + 1) % 8 = nx + 1 by omega]) rfl)
  have hc : nx = 0 ∨ nx = 1 ∨ nx = 2 ∨ nx = 3 ∨ nx = 4 ∨ nx = 5 ∨ nx = 6 ∨ nx = 7 := by omega
  refine ⟨fun e => ?_, fun e => ?_, fun e => ?_, fun e => ?_, fun e => ?_, fun e => ?_, fun e => ?_, fun e => ?_⟩
  · have e2 : nx = 0 := by omega
    subst e2
    exact s_copyG_38_2 hma h.2 (fun I1 L1 hF hR => fin I1 L1 hF hR)
  · have e2 : nx = 1 := by omega
    subst e2
    exact s_copyG_50_2 hma h.2 (fun I1 L1 hF hR => fin I1 L1 hF hR)
  · have e2 : nx = 2 := by omega
    subst e2
    exact s_copyG_62_2 hma h.2 (fun I1 L1 hF hR => fin I1 L1 hF hR)
  · have e2 : nx = 3 := by omega
    subst e2
    exact s_copyG_74_2 hma h.2 (fun I1 L1 hF hR => fin I1 L1 hF hR)
  · have e2 : nx = 4 := by omega
    subst e2
    exact s_copyG_86_2 hma h.2 (fun I1 L1 hF hR => fin I1 L1 hF hR)
  · have e2 : nx = 5 := by omega
    subst e2
    exact s_copyG_98_2 hma h.2 (fun I1 L1 hF hR => fin I1 L1 hF hR)
  · have e2 : nx = 6 := by omega
    subst e2
    exact s_copyG_110_2 hma h.2 (fun I1 L1 hF hR => fin I1 L1 hF hR)
  · have e2 : nx = 7 := by omega
    subst e2
    exact s_copyG_122_2 hma h.2 (fun I1 L1 hF hR => fin I1 L1 hF hR)
theorem s_takeBack {Ψ : e_TI → e_TL → e_TD → Prop} {m : Nat} {P : Nat → Nat → Int32} (hH : HiR I L (m + 1) P) (H : ∀ I' L', (∀ c, (c < 2 ∨ 14 ≤ c) → c ≠ 36 → I' c = I c ∧ L' c = L c) → GR I' L' (P m) → HiR I' L' m P → Ψ I' L' D) : e_M 218 [.ref 36, .ref 2] (S0 I L D sc) (e_rV sc Ψ) := by
  obtain ⟨nx, hnx, h1, h2, hm, h5⟩ := hH
  obtain ⟨hk, hR0⟩ := h5 m (by omega)
  have hma : gMa (P m) ≤ 16 := hk.2.2.2.2.1.2
  -- the place of the latest
  have go : ∀ j, j < 8 → j = (nx + 7) % 8 → ∀ (I1 : e_TI) (L1 : e_TL) (x : Int32), x = Int32.ofNat j → Fr 2 14 I L I1 L1 → RC 2 I1 L1 (P m) → Ψ (e_up (e_up I1 36 1 x) 36 2 (I1 36 2 - 1)) L1 D := by
    intro j hj hjn I1 L1 x hx hF hR
    have hU : ∀ c, c ≠ 36 → e_up (e_up I1 36 1 x) 36 2 (I1 36 2 - 1) c = I1 c := fun c hc => by rw [up_cell hc, up_cell hc]
    refine H _ _ (fun c hc hne => ⟨by rw [hU c hne]; exact (hF c hc).1, (hF c hc).2⟩) ⟨hk, hR.frame (fun c a b => hU c (by omega)) (fun c a b => rfl)⟩ ⟨j, hj, by rw [up_slot (by decide), up_same, hx], ?_, by omega, fun i hi => ?_⟩
    · rw [up_same, (hF 36 (by decide)).1, h2, show (1 : Int32) = Int32.ofNat 1 from rfl, o_sub (by omega), Nat.add_sub_cancel]
    · obtain ⟨a, b⟩ := h5 i (by omega)
      have hlt := Nat.mod_lt (nx + 8 - (m + 1) + i) (show 0 < 8 by decide)
      have hlt2 := Nat.mod_lt (j + 8 - m + i) (show 0 < 8 by decide)
      rw [show (nx + 8 - (m + 1) + i) % 8 = (j + 8 - m + i) % 8 by omega] at b
      exact ⟨a, (b.fr hF (by omega)).frame (fun c a b => hU c (by omega)) (fun c a b => rfl)⟩
  have hpos : ¬ (Int32.ofNat (m + 1) ≤ 0) := by
    rw [show (0 : Int32) = Int32.ofNat 0 from rfl, o_le (by omega) (by decide)]
    omega
  rw [show (nx + 8 - (m + 1) + m) % 8 = (nx + 7) % 8 by omega] at hR0
  refine vHi_takeBack ?_
  rw [h1]
  refine ⟨fun hle => ?_, fun hgt => ?_⟩
  · have e : nx = 0 := by
      rw [show (0 : Int32) = Int32.ofNat 0 from rfl, o_le (by omega) (by decide)] at hle
      omega
    subst e
    refine s_keptAt (j := 7) (by decide) ⟨fun e => absurd e (by decide), fun e => absurd e (by decide), fun e => absurd e (by decide), fun e => absurd e (by decide), fun e => absurd e (by decide), fun e => absurd e (by decide), fun e => absurd e (by decide), fun _ => ?_⟩
    rw [h2]
    exact bx_f hpos (s_copyG_2_122 hma hR0 (fun I1 L1 hF hR => go 7 (by decide) (by decide) I1 L1 7 rfl hF hR))
  · have hn0 : 1 ≤ nx := by
      rw [show (0 : Int32) = Int32.ofNat 0 from rfl, o_le (by omega) (by decide)] at hgt
      omega
    rw [show (1 : Int32) = Int32.ofNat 1 from rfl, o_sub hn0]
    refine s_keptAt (by omega) ⟨fun e => ?_, fun e => ?_, fun e => ?_, fun e => ?_, fun e => ?_, fun e => ?_, fun e => ?_, fun e => ?_⟩
    · have e2 : nx = 1 := by omega
      subst e2
      rw [h2]
      exact bx_f hpos (s_copyG_2_38 hma hR0 (fun I1 L1 hF hR => go 0 (by decide) (by decide) I1 L1 _ rfl hF hR))
    · have e2 : nx = 2 := by omega
      subst e2
      rw [h2]
      exact bx_f hpos (s_copyG_2_50 hma hR0 (fun I1 L1 hF hR => go 1 (by decide) (by decide) I1 L1 _ rfl hF hR))
    · have e2 : nx = 3 := by omega
      subst e2
      rw [h2]
      exact bx_f hpos (s_copyG_2_62 hma hR0 (fun I1 L1 hF hR => go 2 (by decide) (by decide) I1 L1 _ rfl hF hR))
    · have e2 : nx = 4 := by omega
      subst e2
      rw [h2]
      exact bx_f hpos (s_copyG_2_74 hma hR0 (fun I1 L1 hF hR => go 3 (by decide) (by decide) I1 L1 _ rfl hF hR))
    · have e2 : nx = 5 := by omega
      subst e2
      rw [h2]
      exact bx_f hpos (s_copyG_2_86 hma hR0 (fun I1 L1 hF hR => go 4 (by decide) (by decide) I1 L1 _ rfl hF hR))
    · have e2 : nx = 6 := by omega
      subst e2
      rw [h2]
      exact bx_f hpos (s_copyG_2_98 hma hR0 (fun I1 L1 hF hR => go 5 (by decide) (by decide) I1 L1 _ rfl hF hR))
    · have e2 : nx = 7 := by omega
      subst e2
      rw [h2]
      exact bx_f hpos (s_copyG_2_110 hma hR0 (fun I1 L1 hF hR => go 6 (by decide) (by decide) I1 L1 _ rfl hF hR))
    · omega
end
