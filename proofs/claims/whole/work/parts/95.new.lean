/-! the constructors: rows for what makes new cells -/
theorem e_rz {α : Type} {f g : Nat → Nat → α} {n : Nat} {z : α} (h : f = g) (hz : g n = fun _ => z) : e_row f n (fun _ => z) = g := by
  subst h
  funext c k
  unfold e_row
  by_cases e : c = n
  · rw [if_pos e, e, hz]
  · rw [if_neg e]
theorem e_uz {α : Type} {f g : Nat → Nat → α} {c k : Nat} {x : α} (h : f = g) (hx : g c k = x) : e_up f c k x = g := by
  subst h
  funext c' k'
  unfold e_up
  by_cases e : c' = c
  · rw [if_pos e, e]
    by_cases e2 : k' = k
    · rw [if_pos e2, e2, hx]
    · rw [if_neg e2]
  · rw [if_neg e]
theorem e_uc {α : Type} {f g : Nat → Nat → α} {c k : Nat} {x : α} (h : f = g) : e_up f c k x = e_up g c k x := by rw [h]
theorem e_heq {Φ : e_O → e_H → Prop} {o : e_O} {la : List e_C} {I I' : e_TI} {L L' : e_TL} {D D' : e_TD} {sc : e_TS} {b : Bool} (eI : I' = I) (eL : L' = L) (eD : D' = D) (H : Φ o (la, I, L, D, sc, b)) : Φ o (la, I', L', D', sc, b) := by
  subst eI
  subst eL
  subst eD
  exact H
theorem e_M_in {k : Nat} {cd : List e_I} {rt : Option FieldType} {ml bc bs : Nat} {avs : List Value} {loc : List (Option Value)} {h : e_H} {Φ : e_O → e_H → Prop} (hq : e_eqs k cd rt ml bc bs) (hpl : plainName (e_nm k).cls = true) (hl : e_entry avs ml = loc) (hav : Nat.ble (e_loc0 avs).length ml = true)
    (H : e_Wp k 0 loc [] h bc bs Φ) : e_M k avs h Φ := by
  obtain ⟨q1, q2, q3, q4, q5⟩ := hq
  refine e_M_of hpl (by rw [q3]; exact Nat.le_of_ble_eq_true hav) ?_
  rw [q3, q4, q5, hl]
  exact H
theorem e_W_goS {k : Nat} {cd : List e_I} {rt : Option FieldType} {ml bc0 bs0 : Nat} {loc : List (Option Value)} {st : List Value} {h : e_H} {bc bs : Nat} {Φ : e_O → e_H → Prop} (hq : e_eqs k cd rt ml bc0 bs0) (hk : e_chk k) (cut : List Nat) (n pc : Nat)
    (H : e_run2 k cd rt cut Φ n (e_from cd pc) loc st h bc bs) : e_Wp k pc loc st h bc bs Φ := by
  obtain ⟨q1, q2, q3, q4, q5⟩ := hq
  cases hf : e_from cd pc with
  | nil =>
    rw [hf] at H
    cases n with
    | zero => exact False.elim H
    | succ n => unfold e_run2 at H; exact False.elim H
  | cons en r =>
    obtain ⟨h4, h5⟩ := e_from_in hf
    rw [hf] at H
    exact e_run2_ok hk q1 q2 n (en :: r) pc loc st h bc bs h4 (fun en2 r2 h6 => by cases h6; exact h5) H
section
variable {k : Nat} {cd : List e_I} {rt : Option FieldType} {ml bc0 bs0 : Nat} {pc m bc bs bc' bs' : Nat} {loc : List (Option Value)} {st : List Value} {la la' : List e_C} {I I' : e_TI} {L L' : e_TL} {D D' : e_TD} {sc : e_TS} {Q : e_O → e_H → Prop} {v : Value} {ws : List (Nat × Nat)}
theorem k_push {e : e_C} (hm : la.length = m) (zI : I m = fun _ => 0) (zL : L m = fun _ => 0) (zD : D m = fun _ => 0) (hla : la ++ [e] = la') : e_push (la, I, L, D, sc, true) e = (la', I, L, D, sc, true) := by
  subst hm
  subst hla
  show (la ++ [e], e_row I la.length (fun _ => 0), e_row L la.length (fun _ => 0), e_row D la.length (fun _ => 0), sc, true) = _
  rw [e_rz rfl zI, e_rz rfl zL, e_rz rfl zD]
theorem k_new {ix ci : Nat} (hq : e_eqs k cd rt ml bc0 bs0) (hk : e_chk k) (hf : e_find cd pc = some (pc, .new ix, 3, v, [0, ci], ws)) (hm : la.length = m) (hcl : la.all (e_sc m) = true) (hl : loc.all (e_so m) = true) (hs : st.all (e_sv m) = true) (hb : Nat.ble 1 bc = true) (hb2 : Nat.ble (e_dflt ci).length bs = true)
    (zI : I m = fun _ => 0) (zL : L m = fun _ => 0) (zD : D m = fun _ => 0) (hla : la ++ [.inl (ci, e_dflt ci)] = la') (e1 : bc - 1 = bc') (e2 : bs - (e_dflt ci).length = bs') (H : e_Wp k (pc + 3) loc (.ref m :: st) (la', I, L, D, sc, true) bc' bs' Q) : e_Wp k pc loc st (la, I, L, D, sc, true) bc bs Q := by
  refine e_step hk (by rw [hq.1]; exact hf) ?_
  show (bif true && (!true || (loc.all (e_so la.length) && st.all (e_sv la.length))) && la.all (e_sc la.length) && Nat.ble 1 bc && Nat.ble (e_dflt ci).length bs then e_Wp k (pc + 3) loc (.ref la.length :: st) (e_push (la, I, L, D, sc, true) (.inl (ci, e_dflt ci))) (bc - 1) (bs - (e_dflt ci).length) Q else False)
  rw [hm, hcl, hl, hs, hb, hb2, k_push hm zI zL zD hla, e1, e2]
  exact H
theorem k_nwa {ty : ArrayType} {tag n : Nat} {x : Int32} (hq : e_eqs k cd rt ml bc0 bs0) (hk : e_chk k) (hf : e_find cd pc = some (pc, .newarray ty, 2, v, [tag], ws)) (hn : x.toNatClampNeg = n) (hx : decide (x < 0) = false) (hm : la.length = m) (hcl : la.all (e_sc m) = true) (hl : loc.all (e_so m) = true) (hs : st.all (e_sv m) = true) (hb : Nat.ble 1 bc = true) (hb2 : Nat.ble n bs = true) (hb3 : Nat.ble n 65536 = true)
    (zI : I m = fun _ => 0) (zL : L m = fun _ => 0) (zD : D m = fun _ => 0) (hla : la ++ [.inr (.inl (tag, n))] = la') (e1 : bc - 1 = bc') (e2 : bs - n = bs') (H : e_Wp k (pc + 2) loc (.ref m :: st) (la', I, L, D, sc, true) bc' bs' Q) : e_Wp k pc loc (.int x :: st) (la, I, L, D, sc, true) bc bs Q := by
  refine e_step hk (by rw [hq.1]; exact hf) ?_
  show (bif true && (!true || (loc.all (e_so la.length) && st.all (e_sv la.length))) && la.all (e_sc la.length) && Nat.ble 1 bc && Nat.ble x.toNatClampNeg bs && Nat.ble x.toNatClampNeg 65536 && !(decide (x < 0)) then e_Wp k (pc + 2) loc (.ref la.length :: st) (e_push (la, I, L, D, sc, true) (.inr (.inl (tag, x.toNatClampNeg)))) (bc - 1) (bs - x.toNatClampNeg) Q else False)
  rw [hn, hx, hm, hcl, hl, hs, hb, hb2, hb3, k_push hm zI zL zD hla, e1, e2]
  exact H
theorem k_anw {ix n : Nat} {x : Int32} {ns : List Nat} (hq : e_eqs k cd rt ml bc0 bs0) (hk : e_chk k) (hf : e_find cd pc = some (pc, .anewarray ix, 3, v, ns, ws)) (hn : x.toNatClampNeg = n) (hx : decide (x < 0) = false) (hm : la.length = m) (hcl : la.all (e_sc m) = true) (hl : loc.all (e_so m) = true) (hs : st.all (e_sv m) = true) (hb : Nat.ble 1 bc = true) (hb2 : Nat.ble n bs = true) (hb3 : Nat.ble n 65536 = true)
    (zI : I m = fun _ => 0) (zL : L m = fun _ => 0) (zD : D m = fun _ => 0) (hla : la ++ [.inr (.inr (n, List.replicate n none))] = la') (e1 : bc - 1 = bc') (e2 : bs - n = bs') (H : e_Wp k (pc + 3) loc (.ref m :: st) (la', I, L, D, sc, true) bc' bs' Q) : e_Wp k pc loc (.int x :: st) (la, I, L, D, sc, true) bc bs Q := by
  refine e_step hk (by rw [hq.1]; exact hf) ?_
  show (bif true && (!true || (loc.all (e_so la.length) && st.all (e_sv la.length))) && la.all (e_sc la.length) && Nat.ble 1 bc && Nat.ble x.toNatClampNeg bs && Nat.ble x.toNatClampNeg 65536 && !(decide (x < 0)) then e_Wp k (pc + 3) loc (.ref la.length :: st) (e_push (la, I, L, D, sc, true) (.inr (.inr (x.toNatClampNeg, List.replicate x.toNatClampNeg none)))) (bc - 1) (bs - x.toNatClampNeg) Q else False)
  rw [hn, hx, hm, hcl, hl, hs, hb, hb2, hb3, k_push hm zI zL zD hla, e1, e2]
  exact H
theorem k_call {ix k' n fl c s a : Nat} {tl : List Nat} {rest : List Value} (hq : e_eqs k cd rt ml bc0 bs0) (hk : e_chk k) (hf : e_find cd pc = some (pc, .invokespecial ix, 3, v, k' :: n :: fl :: c :: s :: tl, ws)) (hfl : Nat.beq fl 2 = false) (hst : st.drop n = .ref a :: rest) (hm : la.length = m) (hl : loc.all (e_so m) = true) (hs : rest.all (e_sv m) = true) (hb : (Nat.ble c bc && Nat.ble s bs && Nat.ble (e_cat rest) 8 && Nat.ble n st.length) = true)
    (Hc : ∀ Φ : e_O → e_H → Prop, Φ (.inl none) (la', I', L', D', sc, true) → e_M k' (.ref a :: (st.take n).reverse) (la, I, L, D, sc, true) Φ) (e1 : bc - c = bc') (e2 : bs - s = bs') (H : e_Wp k (pc + 3) loc rest (la', I', L', D', sc, true) bc' bs' Q) : e_Wp k pc loc st (la, I, L, D, sc, true) bc bs Q := by
  subst e1
  subst e2
  refine e_step hk (by rw [hq.1]; exact hf) ?_
  show e_inp loc st (la, I, L, D, sc, true) bc bs (fun pc loc st h bc bs => e_Wp k pc loc st h bc bs Q) pc (k' :: n :: fl :: c :: s :: tl)
  unfold e_inp
  simp only [hst, hfl, cond_false]
  have hok : e_ok loc st (la, I, L, D, sc, true) bc bs c s n rest = true := by
    show (Nat.ble c bc && Nat.ble s bs && Nat.ble (e_cat rest) 8 && Nat.ble n st.length && (!true || (loc.all (e_so la.length) && rest.all (e_sv la.length)))) = true
    rw [hb, hm, hl, hs]
    rfl
  rw [hok, cond_true]
  exact Hc _ H
end
