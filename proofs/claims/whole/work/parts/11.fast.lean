/-! the run of a body, quicker to reduce: the code is walked along, the method's numbers are written out -/
def e_from : List e_I → Nat → List e_I
  | [], _ => []
  | e :: r, pc => bif Nat.beq e.1 pc then e :: r else e_from r pc
def e_seek (cd rest : List e_I) (pc : Nat) : List e_I := match rest with
  | e :: r => bif Nat.beq e.1 pc then e :: r else e_from cd pc
  | [] => e_from cd pc
/-- the list's spine first -/
def e_force : List (Option Value) → (List (Option Value) → Prop) → Prop
  | [], k => k []
  | a :: r, k => e_force r (fun r' => k (a :: r'))
theorem e_force_eq {l : List (Option Value)} : ∀ {k : List (Option Value) → Prop}, e_force l k → k l := by
  induction l with
  | nil => intro k h; exact h
  | cons a r ih => intro k h; exact ih (k := fun r' => k (a :: r')) h
def e_run2 (k : Nat) (cd : List e_I) (rt : Option FieldType) (cut : List Nat) (Q : e_O → e_H → Prop) : Nat → List e_I → List (Option Value) → List Value → e_H → Nat → Nat → Prop
  | 0, _, _, _, _, _, _ => False
  | n + 1, cur, loc, st, h, bc, bs => match cur with
    | [] => False
    | en :: rest => e_stp loc st h bc bs (fun pc' loc' st' h' bc' bs' => bif cut.elem pc' then e_Wp k pc' loc' st' h' bc' bs' Q else e_force loc' (fun l => e_run2 k cd rt cut Q n (e_seek cd rest pc') l st' h' bc' bs')) Q rt en
theorem e_from_in {cd : List e_I} {pc : Nat} {en : e_I} {r : List e_I} (h : e_from cd pc = en :: r) : (∀ x ∈ en :: r, x ∈ cd) ∧ en.1 = pc := by
  induction cd with
  | nil => simp [e_from] at h
  | cons e cd ih =>
    unfold e_from at h
    cases hb : Nat.beq e.1 pc with
    | true =>
      rw [hb] at h
      simp only [cond_true, List.cons.injEq] at h
      obtain ⟨rfl, rfl⟩ := h
      exact ⟨fun x hx => hx, Nat.eq_of_beq_eq_true hb⟩
    | false =>
      rw [hb] at h
      simp only [cond_false] at h
      exact ⟨fun x hx => List.mem_cons_of_mem _ ((ih h).1 x hx), (ih h).2⟩
theorem e_seek_in {cd rest : List e_I} {pc : Nat} {en : e_I} {r : List e_I} (hr : ∀ x ∈ rest, x ∈ cd) (h : e_seek cd rest pc = en :: r) : (∀ x ∈ en :: r, x ∈ cd) ∧ en.1 = pc := by
  unfold e_seek at h
  split at h
  · rename_i e r2
    cases hb : Nat.beq e.1 pc with
    | true =>
      rw [hb] at h
      simp only [cond_true, List.cons.injEq] at h
      obtain ⟨rfl, rfl⟩ := h
      exact ⟨hr, Nat.eq_of_beq_eq_true hb⟩
    | false =>
      rw [hb] at h
      simp only [cond_false] at h
      exact e_from_in h
  · exact e_from_in h
theorem e_run2_ok {k : Nat} {cd : List e_I} {rt : Option FieldType} {cut : List Nat} {Q : e_O → e_H → Prop} (hk : e_chk k) (hcd : e_cd k = cd) (hrt : e_rt k = rt) : ∀ (n : Nat) (cur : List e_I) (pc : Nat) (loc : List (Option Value)) (st : List Value) (h : e_H) (bc bs : Nat), (∀ x ∈ cur, x ∈ cd) → (∀ en r, cur = en :: r → en.1 = pc) → e_run2 k cd rt cut Q n cur loc st h bc bs → e_Wp k pc loc st h bc bs Q := by
  subst hcd
  subst hrt
  intro n
  induction n with
  | zero => intro cur pc loc st h bc bs _ _ H; exact False.elim H
  | succ n ih =>
    intro cur pc loc st h bc bs hs hp H
    unfold e_run2 at H
    split at H
    · exact False.elim H
    · rename_i en rest
      have h1 : en ∈ e_cd k := hs en List.mem_cons_self
      have h2 := hp en rest rfl
      subst h2
      refine e_sound (List.all_eq_true.mp hk.1 en h1) (fun q hq => e_wok_in hk.2 q (List.mem_flatMap.mpr ⟨en, h1, hq⟩)) (fun pc' loc' st' h' bc' bs' H' => ?_) H
      cases hc : cut.elem pc' with
      | true =>
        rw [hc] at H'
        exact H'
      | false =>
        rw [hc] at H'
        replace H' := e_force_eq (l := loc') H'
        have hs2 : ∀ x ∈ rest, x ∈ e_cd k := fun x hx => hs x (List.mem_cons_of_mem _ hx)
        cases hq : e_seek (e_cd k) rest pc' with
        | nil =>
          rw [hq] at H'
          exact ih _ pc' loc' st' h' bc' bs' (fun x hx => by cases hx) (fun _ _ h3 => by cases h3) H'
        | cons e r =>
          rw [hq] at H'
          obtain ⟨h4, h5⟩ := e_seek_in hs2 hq
          exact ih _ pc' loc' st' h' bc' bs' h4 (fun en2 r2 h6 => by cases h6; exact h5) H'
/-- a method's numbers -/
def e_eqs (k : Nat) (cd : List e_I) (rt : Option FieldType) (ml bc bs : Nat) : Prop := e_cd k = cd ∧ e_rt k = rt ∧ e_ml k = ml ∧ e_cc k = bc ∧ e_cs k = bs
theorem e_M_go {k : Nat} {cd : List e_I} {rt : Option FieldType} {ml bc bs : Nat} {avs : List Value} {loc : List (Option Value)} {h : e_H} {Φ : e_O → e_H → Prop} (hq : e_eqs k cd rt ml bc bs) (hk : e_chk k) (cut : List Nat) (n : Nat) (hpl : plainName (e_nm k).cls = true) (hl : e_entry avs ml = loc) (hav : Nat.ble (e_loc0 avs).length ml = true)
    (H : e_run2 k cd rt cut Φ n cd loc [] h bc bs) (h0 : ∀ en r, cd = en :: r → en.1 = 0) : e_M k avs h Φ := by
  obtain ⟨q1, q2, q3, q4, q5⟩ := hq
  refine e_M_of hpl (by rw [q3]; exact Nat.le_of_ble_eq_true hav) ?_
  rw [q3, q4, q5, hl]
  exact e_run2_ok hk q1 q2 n cd 0 loc [] h bc bs (fun x hx => hx) h0 H
theorem e_M_goF {k : Nat} {cd : List e_I} {rt : Option FieldType} {ml bc bs : Nat} {avs : List Value} {loc : List (Option Value)} {h : e_H} {Φ : e_O → e_H → Prop} (hq : e_eqs k cd rt ml bc bs) (hk : e_chk k) (cut : List Nat) (n : Nat) (hpl : plainFor (e_nm k) = true) (hhh : e_hh k = []) (hl : e_entry avs ml = loc) (hav : Nat.ble (e_loc0 avs).length ml = true)
    (H : e_run2 k cd rt cut Φ n cd loc [] h bc bs) (h0 : ∀ en r, cd = en :: r → en.1 = 0) : e_M k avs h Φ := by
  obtain ⟨q1, q2, q3, q4, q5⟩ := hq
  refine e_M_ofF hpl hhh (by rw [q3]; exact Nat.le_of_ble_eq_true hav) ?_
  rw [q3, q4, q5, hl]
  exact e_run2_ok hk q1 q2 n cd 0 loc [] h bc bs (fun x hx => hx) h0 H
theorem e_W_go {k : Nat} {cd : List e_I} {rt : Option FieldType} {ml bc0 bs0 : Nat} {loc : List (Option Value)} {h : e_H} {bc bs : Nat} {Φ : e_O → e_H → Prop} (hq : e_eqs k cd rt ml bc0 bs0) (hk : e_chk k) (cut : List Nat) (n pc : Nat)
    (H : e_run2 k cd rt cut Φ n (e_from cd pc) loc [] h bc bs) : e_Wp k pc loc [] h bc bs Φ := by
  obtain ⟨q1, q2, q3, q4, q5⟩ := hq
  cases hf : e_from cd pc with
  | nil =>
    rw [hf] at H
    cases n with
    | zero => exact False.elim H
    | succ n => unfold e_run2 at H; exact False.elim H
  | cons en r =>
    obtain ⟨h4, h5⟩ := e_from_in hf
    rw [hf] at H
    exact e_run2_ok hk q1 q2 n (en :: r) pc loc [] h bc bs h4 (fun en2 r2 h6 => by cases h6; exact h5) H
theorem e_h0 {cd : List e_I} (h : (match cd with | [] => true | e :: _ => Nat.beq e.1 0) = true) : ∀ en r, cd = en :: r → en.1 = 0 := by
  rintro en r rfl
  exact Nat.eq_of_beq_eq_true h
theorem e_q0 : e_eqs 0 e_c0 none 1 2 8 := ⟨rfl, rfl, rfl, rfl, rfl⟩
theorem e_q1 : e_eqs 1 e_c1 none 1 7 56 := ⟨rfl, rfl, rfl, rfl, rfl⟩
theorem e_q2 : e_eqs 2 e_c2 none 1 11 79 := ⟨rfl, rfl, rfl, rfl, rfl⟩
theorem e_q3 : e_eqs 3 e_c3 none 1 4 816 := ⟨rfl, rfl, rfl, rfl, rfl⟩
theorem e_q4 : e_eqs 4 e_c4 none 1 22 1736 := ⟨rfl, rfl, rfl, rfl, rfl⟩
theorem e_q5 : e_eqs 5 e_c5 none 2 97 712 := ⟨rfl, rfl, rfl, rfl, rfl⟩
theorem e_q6 : e_eqs 6 e_c6 none 1 2 6 := ⟨rfl, rfl, rfl, rfl, rfl⟩
theorem e_q7 : e_eqs 7 e_c7 none 1 1 80 := ⟨rfl, rfl, rfl, rfl, rfl⟩
theorem e_q8 : e_eqs 8 e_c8 none 2 0 0 := ⟨rfl, rfl, rfl, rfl, rfl⟩
theorem e_q9 : e_eqs 9 e_c9 none 1 0 0 := ⟨rfl, rfl, rfl, rfl, rfl⟩
theorem e_q10 : e_eqs 10 e_c10 none 2 0 0 := ⟨rfl, rfl, rfl, rfl, rfl⟩
theorem e_q11 : e_eqs 11 e_c11 none 1 0 0 := ⟨rfl, rfl, rfl, rfl, rfl⟩
theorem e_q12 : e_eqs 12 e_c12 none 2 0 0 := ⟨rfl, rfl, rfl, rfl, rfl⟩
theorem e_q13 : e_eqs 13 e_c13 none 1 138 2635 := ⟨rfl, rfl, rfl, rfl, rfl⟩
theorem e_q14 : e_eqs 14 e_c14 (some .int) 1 0 0 := ⟨rfl, rfl, rfl, rfl, rfl⟩
theorem e_q15 : e_eqs 15 e_c15 (some .int) 1 0 0 := ⟨rfl, rfl, rfl, rfl, rfl⟩
theorem e_q16 : e_eqs 16 e_c16 none 1 0 0 := ⟨rfl, rfl, rfl, rfl, rfl⟩
theorem e_q17 : e_eqs 17 e_c17 (some .int) 3 0 0 := ⟨rfl, rfl, rfl, rfl, rfl⟩
theorem e_q18 : e_eqs 18 e_c18 (some (.object "HexCampaign$Game")) 2 0 0 := ⟨rfl, rfl, rfl, rfl, rfl⟩
theorem e_q19 : e_eqs 19 e_c19 none 3 0 0 := ⟨rfl, rfl, rfl, rfl, rfl⟩
theorem e_q20 : e_eqs 20 e_c20 none 2 0 0 := ⟨rfl, rfl, rfl, rfl, rfl⟩
theorem e_q21 : e_eqs 21 e_c21 none 3 0 0 := ⟨rfl, rfl, rfl, rfl, rfl⟩
theorem e_q22 : e_eqs 22 e_c22 none 2 0 0 := ⟨rfl, rfl, rfl, rfl, rfl⟩
theorem e_q23 : e_eqs 23 e_c23 none 2 0 0 := ⟨rfl, rfl, rfl, rfl, rfl⟩
theorem e_q24 : e_eqs 24 e_c24 (some .int) 2 0 0 := ⟨rfl, rfl, rfl, rfl, rfl⟩
theorem e_q25 : e_eqs 25 e_c25 none 3 0 0 := ⟨rfl, rfl, rfl, rfl, rfl⟩
theorem e_q26 : e_eqs 26 e_c26 (some .int) 2 0 0 := ⟨rfl, rfl, rfl, rfl, rfl⟩
theorem e_q27 : e_eqs 27 e_c27 (some .boolean) 2 0 0 := ⟨rfl, rfl, rfl, rfl, rfl⟩
theorem e_q28 : e_eqs 28 e_c28 (some .long) 1 0 0 := ⟨rfl, rfl, rfl, rfl, rfl⟩
theorem e_q29 : e_eqs 29 e_c29 (some .long) 5 0 0 := ⟨rfl, rfl, rfl, rfl, rfl⟩
theorem e_q30 : e_eqs 30 e_c30 (some .long) 2 0 0 := ⟨rfl, rfl, rfl, rfl, rfl⟩
theorem e_q31 : e_eqs 31 e_c31 (some .long) 1 0 0 := ⟨rfl, rfl, rfl, rfl, rfl⟩
theorem e_q32 : e_eqs 32 e_c32 (some .long) 8 0 0 := ⟨rfl, rfl, rfl, rfl, rfl⟩
theorem e_q33 : e_eqs 33 e_c33 (some .long) 3 0 0 := ⟨rfl, rfl, rfl, rfl, rfl⟩
theorem e_q34 : e_eqs 34 e_c34 (some .long) 6 0 0 := ⟨rfl, rfl, rfl, rfl, rfl⟩
theorem e_q35 : e_eqs 35 e_c35 (some .long) 1 0 0 := ⟨rfl, rfl, rfl, rfl, rfl⟩
theorem e_q36 : e_eqs 36 e_c36 (some .int) 2 0 0 := ⟨rfl, rfl, rfl, rfl, rfl⟩
theorem e_q37 : e_eqs 37 e_c37 (some .int) 2 0 0 := ⟨rfl, rfl, rfl, rfl, rfl⟩
theorem e_q38 : e_eqs 38 e_c38 (some .long) 6 0 0 := ⟨rfl, rfl, rfl, rfl, rfl⟩
theorem e_q39 : e_eqs 39 e_c39 none 4 0 0 := ⟨rfl, rfl, rfl, rfl, rfl⟩
theorem e_q40 : e_eqs 40 e_c40 (some .long) 2 0 0 := ⟨rfl, rfl, rfl, rfl, rfl⟩
theorem e_q41 : e_eqs 41 e_c41 (some .long) 8 0 0 := ⟨rfl, rfl, rfl, rfl, rfl⟩
theorem e_q42 : e_eqs 42 e_c42 (some .long) 9 0 0 := ⟨rfl, rfl, rfl, rfl, rfl⟩
theorem e_q43 : e_eqs 43 e_c43 none 15 0 0 := ⟨rfl, rfl, rfl, rfl, rfl⟩
theorem e_q44 : e_eqs 44 e_c44 (some .long) 5 0 0 := ⟨rfl, rfl, rfl, rfl, rfl⟩
theorem e_q45 : e_eqs 45 e_c45 (some .long) 4 0 0 := ⟨rfl, rfl, rfl, rfl, rfl⟩
theorem e_q46 : e_eqs 46 e_c46 (some .boolean) 3 0 0 := ⟨rfl, rfl, rfl, rfl, rfl⟩
theorem e_q47 : e_eqs 47 e_c47 (some .int) 1 0 0 := ⟨rfl, rfl, rfl, rfl, rfl⟩
theorem e_q48 : e_eqs 48 e_c48 (some .int) 5 0 0 := ⟨rfl, rfl, rfl, rfl, rfl⟩
theorem e_q49 : e_eqs 49 e_c49 (some .int) 2 0 0 := ⟨rfl, rfl, rfl, rfl, rfl⟩
theorem e_q50 : e_eqs 50 e_c50 (some .int) 2 0 0 := ⟨rfl, rfl, rfl, rfl, rfl⟩
theorem e_q51 : e_eqs 51 e_c51 none 3 0 0 := ⟨rfl, rfl, rfl, rfl, rfl⟩
theorem e_q52 : e_eqs 52 e_c52 none 3 0 0 := ⟨rfl, rfl, rfl, rfl, rfl⟩
theorem e_q53 : e_eqs 53 e_c53 (some .int) 4 0 0 := ⟨rfl, rfl, rfl, rfl, rfl⟩
theorem e_q54 : e_eqs 54 e_c54 none 3 0 0 := ⟨rfl, rfl, rfl, rfl, rfl⟩
theorem e_q55 : e_eqs 55 e_c55 none 2 0 0 := ⟨rfl, rfl, rfl, rfl, rfl⟩
theorem e_q56 : e_eqs 56 e_c56 none 1 0 0 := ⟨rfl, rfl, rfl, rfl, rfl⟩
theorem e_q57 : e_eqs 57 e_c57 (some .int) 5 0 0 := ⟨rfl, rfl, rfl, rfl, rfl⟩
theorem e_q58 : e_eqs 58 e_c58 (some .int) 1 0 0 := ⟨rfl, rfl, rfl, rfl, rfl⟩
theorem e_q59 : e_eqs 59 e_c59 (some .int) 1 0 0 := ⟨rfl, rfl, rfl, rfl, rfl⟩
theorem e_q60 : e_eqs 60 e_c60 none 1 1 6 := ⟨rfl, rfl, rfl, rfl, rfl⟩
theorem e_q61 : e_eqs 61 e_c61 (some .int) 2 0 0 := ⟨rfl, rfl, rfl, rfl, rfl⟩
theorem e_q62 : e_eqs 62 e_c62 (some .int) 3 0 0 := ⟨rfl, rfl, rfl, rfl, rfl⟩
theorem e_q63 : e_eqs 63 e_c63 none 7 0 0 := ⟨rfl, rfl, rfl, rfl, rfl⟩
theorem e_q64 : e_eqs 64 e_c64 (some .int) 5 3 18 := ⟨rfl, rfl, rfl, rfl, rfl⟩
theorem e_q65 : e_eqs 65 e_c65 (some .int) 6 3 18 := ⟨rfl, rfl, rfl, rfl, rfl⟩
theorem e_q66 : e_eqs 66 e_c66 none 1 1 6 := ⟨rfl, rfl, rfl, rfl, rfl⟩
theorem e_q67 : e_eqs 67 e_c67 none 6 0 0 := ⟨rfl, rfl, rfl, rfl, rfl⟩
theorem e_q68 : e_eqs 68 e_c68 (some .boolean) 5 2 12 := ⟨rfl, rfl, rfl, rfl, rfl⟩
theorem e_q69 : e_eqs 69 e_c69 (some .int) 6 2 12 := ⟨rfl, rfl, rfl, rfl, rfl⟩
theorem e_q70 : e_eqs 70 e_c70 (some .int) 5 1 6 := ⟨rfl, rfl, rfl, rfl, rfl⟩
theorem e_q71 : e_eqs 71 e_c71 (some .int) 5 1 6 := ⟨rfl, rfl, rfl, rfl, rfl⟩
theorem e_q72 : e_eqs 72 e_c72 (some .int) 1 0 0 := ⟨rfl, rfl, rfl, rfl, rfl⟩
theorem e_q73 : e_eqs 73 e_c73 (some .int) 4 0 0 := ⟨rfl, rfl, rfl, rfl, rfl⟩
theorem e_q74 : e_eqs 74 e_c74 (some .int) 3 2 12 := ⟨rfl, rfl, rfl, rfl, rfl⟩
theorem e_q75 : e_eqs 75 e_c75 (some .int) 5 2 12 := ⟨rfl, rfl, rfl, rfl, rfl⟩
theorem e_q76 : e_eqs 76 e_c76 (some .int) 3 0 0 := ⟨rfl, rfl, rfl, rfl, rfl⟩
theorem e_q77 : e_eqs 77 e_c77 (some .int) 5 0 0 := ⟨rfl, rfl, rfl, rfl, rfl⟩
theorem e_q78 : e_eqs 78 e_c78 (some .int) 4 3 18 := ⟨rfl, rfl, rfl, rfl, rfl⟩
theorem e_q79 : e_eqs 79 e_c79 (some .int) 5 3 18 := ⟨rfl, rfl, rfl, rfl, rfl⟩
theorem e_q80 : e_eqs 80 e_c80 (some .int) 1 0 0 := ⟨rfl, rfl, rfl, rfl, rfl⟩
theorem e_q81 : e_eqs 81 e_c81 (some .int) 1 0 0 := ⟨rfl, rfl, rfl, rfl, rfl⟩
theorem e_q82 : e_eqs 82 e_c82 (some .int) 2 0 0 := ⟨rfl, rfl, rfl, rfl, rfl⟩
theorem e_q83 : e_eqs 83 e_c83 (some .int) 4 0 0 := ⟨rfl, rfl, rfl, rfl, rfl⟩
theorem e_q84 : e_eqs 84 e_c84 (some .int) 3 2 12 := ⟨rfl, rfl, rfl, rfl, rfl⟩
theorem e_q85 : e_eqs 85 e_c85 (some .int) 5 2 12 := ⟨rfl, rfl, rfl, rfl, rfl⟩
theorem e_q86 : e_eqs 86 e_c86 (some .int) 1 0 0 := ⟨rfl, rfl, rfl, rfl, rfl⟩
theorem e_q87 : e_eqs 87 e_c87 (some .int) 2 1 6 := ⟨rfl, rfl, rfl, rfl, rfl⟩
theorem e_q88 : e_eqs 88 e_c88 (some .int) 4 1 6 := ⟨rfl, rfl, rfl, rfl, rfl⟩
theorem e_q89 : e_eqs 89 e_c89 (some .boolean) 1 0 0 := ⟨rfl, rfl, rfl, rfl, rfl⟩
theorem e_q90 : e_eqs 90 e_c90 (some .int) 1 0 0 := ⟨rfl, rfl, rfl, rfl, rfl⟩
theorem e_q91 : e_eqs 91 e_c91 (some .boolean) 6 0 0 := ⟨rfl, rfl, rfl, rfl, rfl⟩
theorem e_q92 : e_eqs 92 e_c92 (some .int) 6 0 0 := ⟨rfl, rfl, rfl, rfl, rfl⟩
theorem e_q93 : e_eqs 93 e_c93 (some .int) 5 4 24 := ⟨rfl, rfl, rfl, rfl, rfl⟩
theorem e_q94 : e_eqs 94 e_c94 (some .int) 7 4 24 := ⟨rfl, rfl, rfl, rfl, rfl⟩
theorem e_q95 : e_eqs 95 e_c95 (some .boolean) 2 0 0 := ⟨rfl, rfl, rfl, rfl, rfl⟩
theorem e_q96 : e_eqs 96 e_c96 none 2 1 6 := ⟨rfl, rfl, rfl, rfl, rfl⟩
theorem e_q97 : e_eqs 97 e_c97 (some .int) 2 0 0 := ⟨rfl, rfl, rfl, rfl, rfl⟩
theorem e_q98 : e_eqs 98 e_c98 (some .int) 2 0 0 := ⟨rfl, rfl, rfl, rfl, rfl⟩
theorem e_q99 : e_eqs 99 e_c99 (some .boolean) 2 0 0 := ⟨rfl, rfl, rfl, rfl, rfl⟩
theorem e_q100 : e_eqs 100 e_c100 (some .int) 1 0 0 := ⟨rfl, rfl, rfl, rfl, rfl⟩
theorem e_q101 : e_eqs 101 e_c101 (some .int) 3 0 0 := ⟨rfl, rfl, rfl, rfl, rfl⟩
theorem e_q102 : e_eqs 102 e_c102 (some .int) 2 0 0 := ⟨rfl, rfl, rfl, rfl, rfl⟩
theorem e_q103 : e_eqs 103 e_c103 (some .int) 3 0 0 := ⟨rfl, rfl, rfl, rfl, rfl⟩
theorem e_q104 : e_eqs 104 e_c104 (some .int) 1 0 0 := ⟨rfl, rfl, rfl, rfl, rfl⟩
theorem e_q105 : e_eqs 105 e_c105 (some .boolean) 2 0 0 := ⟨rfl, rfl, rfl, rfl, rfl⟩
theorem e_q106 : e_eqs 106 e_c106 (some .boolean) 2 0 0 := ⟨rfl, rfl, rfl, rfl, rfl⟩
theorem e_q107 : e_eqs 107 e_c107 (some .boolean) 2 0 0 := ⟨rfl, rfl, rfl, rfl, rfl⟩
theorem e_q108 : e_eqs 108 e_c108 (some .long) 5 0 0 := ⟨rfl, rfl, rfl, rfl, rfl⟩
theorem e_q109 : e_eqs 109 e_c109 (some .long) 13 0 0 := ⟨rfl, rfl, rfl, rfl, rfl⟩
theorem e_q110 : e_eqs 110 e_c110 (some .long) 11 0 0 := ⟨rfl, rfl, rfl, rfl, rfl⟩
theorem e_q111 : e_eqs 111 e_c111 (some .long) 7 0 0 := ⟨rfl, rfl, rfl, rfl, rfl⟩
theorem e_q112 : e_eqs 112 e_c112 (some .int) 4 2 12 := ⟨rfl, rfl, rfl, rfl, rfl⟩
theorem e_q113 : e_eqs 113 e_c113 (some .int) 5 2 12 := ⟨rfl, rfl, rfl, rfl, rfl⟩
theorem e_q114 : e_eqs 114 e_c114 (some .int) 2 0 0 := ⟨rfl, rfl, rfl, rfl, rfl⟩
theorem e_q115 : e_eqs 115 e_c115 (some .int) 2 1 6 := ⟨rfl, rfl, rfl, rfl, rfl⟩
theorem e_q116 : e_eqs 116 e_c116 (some .int) 4 1 6 := ⟨rfl, rfl, rfl, rfl, rfl⟩
theorem e_q117 : e_eqs 117 e_c117 (some .long) 2 0 0 := ⟨rfl, rfl, rfl, rfl, rfl⟩
theorem e_q118 : e_eqs 118 e_c118 (some .long) 3 2 12 := ⟨rfl, rfl, rfl, rfl, rfl⟩
theorem e_q119 : e_eqs 119 e_c119 (some .int) 5 2 12 := ⟨rfl, rfl, rfl, rfl, rfl⟩
theorem e_q120 : e_eqs 120 e_c120 (some .boolean) 3 2 12 := ⟨rfl, rfl, rfl, rfl, rfl⟩
theorem e_q121 : e_eqs 121 e_c121 (some .int) 5 2 12 := ⟨rfl, rfl, rfl, rfl, rfl⟩
theorem e_q122 : e_eqs 122 e_c122 (some .int) 3 0 0 := ⟨rfl, rfl, rfl, rfl, rfl⟩
theorem e_q123 : e_eqs 123 e_c123 (some .int) 3 0 0 := ⟨rfl, rfl, rfl, rfl, rfl⟩
theorem e_q124 : e_eqs 124 e_c124 (some .int) 4 3 18 := ⟨rfl, rfl, rfl, rfl, rfl⟩
theorem e_q125 : e_eqs 125 e_c125 (some .int) 5 3 18 := ⟨rfl, rfl, rfl, rfl, rfl⟩
theorem e_q126 : e_eqs 126 e_c126 none 12 0 0 := ⟨rfl, rfl, rfl, rfl, rfl⟩
theorem e_q127 : e_eqs 127 e_c127 (some .int) 3 0 0 := ⟨rfl, rfl, rfl, rfl, rfl⟩
theorem e_q128 : e_eqs 128 e_c128 (some .boolean) 4 0 0 := ⟨rfl, rfl, rfl, rfl, rfl⟩
theorem e_q129 : e_eqs 129 e_c129 (some .long) 9 0 0 := ⟨rfl, rfl, rfl, rfl, rfl⟩
theorem e_q130 : e_eqs 130 e_c130 (some .long) 2 1 6 := ⟨rfl, rfl, rfl, rfl, rfl⟩
theorem e_q131 : e_eqs 131 e_c131 (some .int) 4 1 6 := ⟨rfl, rfl, rfl, rfl, rfl⟩
theorem e_q132 : e_eqs 132 e_c132 (some .long) 5 0 0 := ⟨rfl, rfl, rfl, rfl, rfl⟩
theorem e_q133 : e_eqs 133 e_c133 (some .long) 7 0 0 := ⟨rfl, rfl, rfl, rfl, rfl⟩
theorem e_q134 : e_eqs 134 e_c134 none 4 0 0 := ⟨rfl, rfl, rfl, rfl, rfl⟩
theorem e_q135 : e_eqs 135 e_c135 (some .int) 3 0 0 := ⟨rfl, rfl, rfl, rfl, rfl⟩
theorem e_q136 : e_eqs 136 e_c136 (some .int) 8 0 0 := ⟨rfl, rfl, rfl, rfl, rfl⟩
theorem e_q137 : e_eqs 137 e_c137 none 5 0 0 := ⟨rfl, rfl, rfl, rfl, rfl⟩
theorem e_q138 : e_eqs 138 e_c138 (some .int) 5 0 0 := ⟨rfl, rfl, rfl, rfl, rfl⟩
theorem e_q139 : e_eqs 139 e_c139 (some .int) 4 3 18 := ⟨rfl, rfl, rfl, rfl, rfl⟩
theorem e_q140 : e_eqs 140 e_c140 (some .int) 5 3 18 := ⟨rfl, rfl, rfl, rfl, rfl⟩
theorem e_q141 : e_eqs 141 e_c141 (some .int) 2 0 0 := ⟨rfl, rfl, rfl, rfl, rfl⟩
theorem e_q142 : e_eqs 142 e_c142 (some .int) 2 0 0 := ⟨rfl, rfl, rfl, rfl, rfl⟩
theorem e_q143 : e_eqs 143 e_c143 (some .int) 5 3 18 := ⟨rfl, rfl, rfl, rfl, rfl⟩
theorem e_q144 : e_eqs 144 e_c144 (some .int) 6 3 18 := ⟨rfl, rfl, rfl, rfl, rfl⟩
theorem e_q145 : e_eqs 145 e_c145 (some .boolean) 3 0 0 := ⟨rfl, rfl, rfl, rfl, rfl⟩
theorem e_q146 : e_eqs 146 e_c146 none 3 0 0 := ⟨rfl, rfl, rfl, rfl, rfl⟩
theorem e_q147 : e_eqs 147 e_c147 none 2 0 0 := ⟨rfl, rfl, rfl, rfl, rfl⟩
theorem e_q148 : e_eqs 148 e_c148 none 6 0 0 := ⟨rfl, rfl, rfl, rfl, rfl⟩
theorem e_q149 : e_eqs 149 e_c149 (some .int) 1 0 0 := ⟨rfl, rfl, rfl, rfl, rfl⟩
theorem e_q150 : e_eqs 150 e_c150 (some .int) 9 0 0 := ⟨rfl, rfl, rfl, rfl, rfl⟩
theorem e_q151 : e_eqs 151 e_c151 (some .int) 4 0 0 := ⟨rfl, rfl, rfl, rfl, rfl⟩
theorem e_q152 : e_eqs 152 e_c152 none 2 0 0 := ⟨rfl, rfl, rfl, rfl, rfl⟩
theorem e_q153 : e_eqs 153 e_c153 none 3 0 0 := ⟨rfl, rfl, rfl, rfl, rfl⟩
theorem e_q154 : e_eqs 154 e_c154 none 3 0 0 := ⟨rfl, rfl, rfl, rfl, rfl⟩
theorem e_q155 : e_eqs 155 e_c155 (some .int) 6 5 30 := ⟨rfl, rfl, rfl, rfl, rfl⟩
theorem e_q156 : e_eqs 156 e_c156 (some .int) 5 5 30 := ⟨rfl, rfl, rfl, rfl, rfl⟩
theorem e_q157 : e_eqs 157 e_c157 (some .int) 2 0 0 := ⟨rfl, rfl, rfl, rfl, rfl⟩
theorem e_q158 : e_eqs 158 e_c158 (some .int) 2 0 0 := ⟨rfl, rfl, rfl, rfl, rfl⟩
theorem e_q159 : e_eqs 159 e_c159 none 3 4 24 := ⟨rfl, rfl, rfl, rfl, rfl⟩
theorem e_q160 : e_eqs 160 e_c160 (some .int) 6 0 0 := ⟨rfl, rfl, rfl, rfl, rfl⟩
theorem e_q161 : e_eqs 161 e_c161 (some .int) 2 0 0 := ⟨rfl, rfl, rfl, rfl, rfl⟩
theorem e_q162 : e_eqs 162 e_c162 (some .int) 3 0 0 := ⟨rfl, rfl, rfl, rfl, rfl⟩
theorem e_q163 : e_eqs 163 e_c163 (some .int) 3 0 0 := ⟨rfl, rfl, rfl, rfl, rfl⟩
theorem e_q164 : e_eqs 164 e_c164 (some .int) 4 4 24 := ⟨rfl, rfl, rfl, rfl, rfl⟩
theorem e_q165 : e_eqs 165 e_c165 (some .int) 6 4 24 := ⟨rfl, rfl, rfl, rfl, rfl⟩
theorem e_q166 : e_eqs 166 e_c166 none 2 0 0 := ⟨rfl, rfl, rfl, rfl, rfl⟩
theorem e_q167 : e_eqs 167 e_c167 none 3 0 0 := ⟨rfl, rfl, rfl, rfl, rfl⟩
theorem e_q168 : e_eqs 168 e_c168 none 3 0 0 := ⟨rfl, rfl, rfl, rfl, rfl⟩
theorem e_q169 : e_eqs 169 e_c169 (some .int) 5 0 0 := ⟨rfl, rfl, rfl, rfl, rfl⟩
theorem e_q170 : e_eqs 170 e_c170 (some .boolean) 8 0 0 := ⟨rfl, rfl, rfl, rfl, rfl⟩
theorem e_q171 : e_eqs 171 e_c171 (some .int) 12 0 0 := ⟨rfl, rfl, rfl, rfl, rfl⟩
theorem e_q172 : e_eqs 172 e_c172 none 5 0 0 := ⟨rfl, rfl, rfl, rfl, rfl⟩
theorem e_q173 : e_eqs 173 e_c173 (some .int) 2 0 0 := ⟨rfl, rfl, rfl, rfl, rfl⟩
theorem e_q174 : e_eqs 174 e_c174 (some .int) 7 0 0 := ⟨rfl, rfl, rfl, rfl, rfl⟩
theorem e_q175 : e_eqs 175 e_c175 (some .int) 3 4 24 := ⟨rfl, rfl, rfl, rfl, rfl⟩
theorem e_q176 : e_eqs 176 e_c176 (some .int) 5 4 24 := ⟨rfl, rfl, rfl, rfl, rfl⟩
theorem e_q177 : e_eqs 177 e_c177 (some .int) 2 0 0 := ⟨rfl, rfl, rfl, rfl, rfl⟩
theorem e_q178 : e_eqs 178 e_c178 (some .int) 2 0 0 := ⟨rfl, rfl, rfl, rfl, rfl⟩
theorem e_q179 : e_eqs 179 e_c179 (some .int) 2 0 0 := ⟨rfl, rfl, rfl, rfl, rfl⟩
theorem e_q180 : e_eqs 180 e_c180 (some .int) 2 0 0 := ⟨rfl, rfl, rfl, rfl, rfl⟩
theorem e_q181 : e_eqs 181 e_c181 (some .int) 4 2 12 := ⟨rfl, rfl, rfl, rfl, rfl⟩
theorem e_q182 : e_eqs 182 e_c182 (some .int) 5 2 12 := ⟨rfl, rfl, rfl, rfl, rfl⟩
theorem e_q183 : e_eqs 183 e_c183 (some .int) 2 0 0 := ⟨rfl, rfl, rfl, rfl, rfl⟩
theorem e_q184 : e_eqs 184 e_c184 (some .double) 5 1 6 := ⟨rfl, rfl, rfl, rfl, rfl⟩
theorem e_q185 : e_eqs 185 e_c185 (some .int) 3 1 6 := ⟨rfl, rfl, rfl, rfl, rfl⟩
theorem e_q186 : e_eqs 186 e_c186 (some .int) 1 0 0 := ⟨rfl, rfl, rfl, rfl, rfl⟩
theorem e_q187 : e_eqs 187 e_c187 (some .int) 2 0 0 := ⟨rfl, rfl, rfl, rfl, rfl⟩
theorem e_q188 : e_eqs 188 e_c188 (some .int) 2 0 0 := ⟨rfl, rfl, rfl, rfl, rfl⟩
theorem e_q189 : e_eqs 189 e_c189 (some .int) 3 2 12 := ⟨rfl, rfl, rfl, rfl, rfl⟩
theorem e_q190 : e_eqs 190 e_c190 (some .int) 5 2 12 := ⟨rfl, rfl, rfl, rfl, rfl⟩
theorem e_q191 : e_eqs 191 e_c191 (some .boolean) 1 0 0 := ⟨rfl, rfl, rfl, rfl, rfl⟩
theorem e_q192 : e_eqs 192 e_c192 (some .int) 2 0 0 := ⟨rfl, rfl, rfl, rfl, rfl⟩
theorem e_q193 : e_eqs 193 e_c193 (some .int) 2 1 6 := ⟨rfl, rfl, rfl, rfl, rfl⟩
theorem e_q194 : e_eqs 194 e_c194 (some .int) 4 1 6 := ⟨rfl, rfl, rfl, rfl, rfl⟩
theorem e_q195 : e_eqs 195 e_c195 (some .int) 2 0 0 := ⟨rfl, rfl, rfl, rfl, rfl⟩
theorem e_q196 : e_eqs 196 e_c196 (some .byte) 1 0 0 := ⟨rfl, rfl, rfl, rfl, rfl⟩
theorem e_q197 : e_eqs 197 e_c197 (some .int) 1 0 0 := ⟨rfl, rfl, rfl, rfl, rfl⟩
theorem e_q198 : e_eqs 198 e_c198 (some .boolean) 1 0 0 := ⟨rfl, rfl, rfl, rfl, rfl⟩
theorem e_q199 : e_eqs 199 e_c199 (some .int) 3 0 0 := ⟨rfl, rfl, rfl, rfl, rfl⟩
theorem e_q200 : e_eqs 200 e_c200 none 2 0 0 := ⟨rfl, rfl, rfl, rfl, rfl⟩
theorem e_q201 : e_eqs 201 e_c201 (some .char) 2 0 0 := ⟨rfl, rfl, rfl, rfl, rfl⟩
theorem e_q202 : e_eqs 202 e_c202 (some .char) 2 0 0 := ⟨rfl, rfl, rfl, rfl, rfl⟩
theorem e_q203 : e_eqs 203 e_c203 (some .int) 3 0 0 := ⟨rfl, rfl, rfl, rfl, rfl⟩
theorem e_q204 : e_eqs 204 e_c204 (some .int) 2 0 0 := ⟨rfl, rfl, rfl, rfl, rfl⟩
theorem e_q205 : e_eqs 205 e_c205 (some .boolean) 2 0 0 := ⟨rfl, rfl, rfl, rfl, rfl⟩
theorem e_q206 : e_eqs 206 e_c206 (some .int) 2 0 0 := ⟨rfl, rfl, rfl, rfl, rfl⟩
theorem e_q207 : e_eqs 207 e_c207 (some .int) 1 0 0 := ⟨rfl, rfl, rfl, rfl, rfl⟩
theorem e_q208 : e_eqs 208 e_c208 (some .long) 5 0 0 := ⟨rfl, rfl, rfl, rfl, rfl⟩
theorem e_q209 : e_eqs 209 e_c209 (some .boolean) 1 0 0 := ⟨rfl, rfl, rfl, rfl, rfl⟩
theorem e_q210 : e_eqs 210 e_c210 none 4 0 0 := ⟨rfl, rfl, rfl, rfl, rfl⟩
theorem e_q211 : e_eqs 211 e_c211 none 1 0 0 := ⟨rfl, rfl, rfl, rfl, rfl⟩
theorem e_q212 : e_eqs 212 e_c212 (some .int) 4 1 6 := ⟨rfl, rfl, rfl, rfl, rfl⟩
theorem e_q213 : e_eqs 213 e_c213 (some .int) 3 1 6 := ⟨rfl, rfl, rfl, rfl, rfl⟩
theorem e_q214 : e_eqs 214 e_c214 (some .char) 3 0 0 := ⟨rfl, rfl, rfl, rfl, rfl⟩
theorem e_q215 : e_eqs 215 e_c215 (some .char) 3 1 6 := ⟨rfl, rfl, rfl, rfl, rfl⟩
theorem e_q216 : e_eqs 216 e_c216 (some .int) 4 1 6 := ⟨rfl, rfl, rfl, rfl, rfl⟩
theorem e_q217 : e_eqs 217 e_c217 (some .int) 1 0 0 := ⟨rfl, rfl, rfl, rfl, rfl⟩
theorem e_q218 : e_eqs 218 e_c218 none 4 0 0 := ⟨rfl, rfl, rfl, rfl, rfl⟩
theorem e_q219 : e_eqs 219 e_c219 (some .int) 1 1 6 := ⟨rfl, rfl, rfl, rfl, rfl⟩
theorem e_q220 : e_eqs 220 e_c220 (some .int) 3 1 6 := ⟨rfl, rfl, rfl, rfl, rfl⟩
theorem e_q221 : e_eqs 221 e_c221 (some .int) 1 1 6 := ⟨rfl, rfl, rfl, rfl, rfl⟩
theorem e_q222 : e_eqs 222 e_c222 (some .int) 3 1 6 := ⟨rfl, rfl, rfl, rfl, rfl⟩
theorem e_q223 : e_eqs 223 e_c223 none 1 8 3285 := ⟨rfl, rfl, rfl, rfl, rfl⟩
theorem e_q224 : e_eqs 224 e_c224 (some .int) 1 0 0 := ⟨rfl, rfl, rfl, rfl, rfl⟩
theorem e_q225 : e_eqs 225 e_c225 (some .boolean) 3 0 0 := ⟨rfl, rfl, rfl, rfl, rfl⟩
theorem e_q226 : e_eqs 226 e_c226 (some .int) 3 0 0 := ⟨rfl, rfl, rfl, rfl, rfl⟩
theorem e_q227 : e_eqs 227 e_c227 (some .boolean) 2 0 0 := ⟨rfl, rfl, rfl, rfl, rfl⟩
theorem e_q228 : e_eqs 228 e_c228 (some .int) 3 0 0 := ⟨rfl, rfl, rfl, rfl, rfl⟩
theorem e_q229 : e_eqs 229 e_c229 (some .int) 4 0 0 := ⟨rfl, rfl, rfl, rfl, rfl⟩
theorem e_q230 : e_eqs 230 e_c230 (some .boolean) 1 0 0 := ⟨rfl, rfl, rfl, rfl, rfl⟩
theorem e_q231 : e_eqs 231 e_c231 (some .int) 4 0 0 := ⟨rfl, rfl, rfl, rfl, rfl⟩
theorem e_q232 : e_eqs 232 e_c232 none 1 0 0 := ⟨rfl, rfl, rfl, rfl, rfl⟩
theorem e_q233 : e_eqs 233 e_c233 (some .int) 5 0 0 := ⟨rfl, rfl, rfl, rfl, rfl⟩
theorem e_q234 : e_eqs 234 e_c234 (some .boolean) 1 0 0 := ⟨rfl, rfl, rfl, rfl, rfl⟩
theorem e_q235 : e_eqs 235 e_c235 (some .boolean) 5 0 0 := ⟨rfl, rfl, rfl, rfl, rfl⟩
theorem e_q236 : e_eqs 236 e_c236 (some .int) 5 0 0 := ⟨rfl, rfl, rfl, rfl, rfl⟩
theorem e_q237 : e_eqs 237 e_c237 (some .int) 4 0 0 := ⟨rfl, rfl, rfl, rfl, rfl⟩
theorem e_q238 : e_eqs 238 e_c238 (some .int) 3 0 0 := ⟨rfl, rfl, rfl, rfl, rfl⟩
theorem e_q239 : e_eqs 239 e_c239 (some .int) 6 0 0 := ⟨rfl, rfl, rfl, rfl, rfl⟩
theorem e_q240 : e_eqs 240 e_c240 (some .int) 3 0 0 := ⟨rfl, rfl, rfl, rfl, rfl⟩
theorem e_q241 : e_eqs 241 e_c241 (some .boolean) 3 0 0 := ⟨rfl, rfl, rfl, rfl, rfl⟩
theorem e_q242 : e_eqs 242 e_c242 (some .long) 6 0 0 := ⟨rfl, rfl, rfl, rfl, rfl⟩
theorem e_q243 : e_eqs 243 e_c243 (some .int) 5 0 0 := ⟨rfl, rfl, rfl, rfl, rfl⟩
theorem e_q244 : e_eqs 244 e_c244 (some .int) 3 0 0 := ⟨rfl, rfl, rfl, rfl, rfl⟩
theorem e_q245 : e_eqs 245 e_c245 (some .int) 2 0 0 := ⟨rfl, rfl, rfl, rfl, rfl⟩
theorem e_q246 : e_eqs 246 e_c246 (some .boolean) 3 0 0 := ⟨rfl, rfl, rfl, rfl, rfl⟩
theorem e_q247 : e_eqs 247 e_c247 (some .boolean) 10 0 0 := ⟨rfl, rfl, rfl, rfl, rfl⟩
theorem e_q248 : e_eqs 248 e_c248 (some .long) 6 0 0 := ⟨rfl, rfl, rfl, rfl, rfl⟩
theorem e_q249 : e_eqs 249 e_c249 (some .int) 6 0 0 := ⟨rfl, rfl, rfl, rfl, rfl⟩
theorem e_q250 : e_eqs 250 e_c250 (some .int) 2 0 0 := ⟨rfl, rfl, rfl, rfl, rfl⟩
theorem e_q251 : e_eqs 251 e_c251 (some .boolean) 3 0 0 := ⟨rfl, rfl, rfl, rfl, rfl⟩
theorem e_q252 : e_eqs 252 e_c252 (some .int) 4 0 0 := ⟨rfl, rfl, rfl, rfl, rfl⟩
theorem e_q253 : e_eqs 253 e_c253 (some .long) 5 0 0 := ⟨rfl, rfl, rfl, rfl, rfl⟩
theorem e_q254 : e_eqs 254 e_c254 (some .long) 5 0 0 := ⟨rfl, rfl, rfl, rfl, rfl⟩
theorem e_q255 : e_eqs 255 e_c255 (some .long) 5 0 0 := ⟨rfl, rfl, rfl, rfl, rfl⟩
theorem e_q256 : e_eqs 256 e_c256 (some .long) 5 0 0 := ⟨rfl, rfl, rfl, rfl, rfl⟩
theorem e_q257 : e_eqs 257 e_c257 (some .int) 3 0 0 := ⟨rfl, rfl, rfl, rfl, rfl⟩
theorem e_q258 : e_eqs 258 e_c258 none 10 0 0 := ⟨rfl, rfl, rfl, rfl, rfl⟩
theorem e_q259 : e_eqs 259 e_c259 (some .long) 5 0 0 := ⟨rfl, rfl, rfl, rfl, rfl⟩
theorem e_q260 : e_eqs 260 e_c260 (some .long) 3 0 0 := ⟨rfl, rfl, rfl, rfl, rfl⟩
theorem e_q261 : e_eqs 261 e_c261 (some .int) 3 0 0 := ⟨rfl, rfl, rfl, rfl, rfl⟩
theorem e_q262 : e_eqs 262 e_c262 (some .boolean) 10 0 0 := ⟨rfl, rfl, rfl, rfl, rfl⟩
theorem e_q263 : e_eqs 263 e_c263 (some .int) 2 0 0 := ⟨rfl, rfl, rfl, rfl, rfl⟩
theorem e_q264 : e_eqs 264 e_c264 (some .int) 6 0 0 := ⟨rfl, rfl, rfl, rfl, rfl⟩
theorem e_q265 : e_eqs 265 e_c265 (some .boolean) 2 0 0 := ⟨rfl, rfl, rfl, rfl, rfl⟩
theorem e_q266 : e_eqs 266 e_c266 (some .int) 3 0 0 := ⟨rfl, rfl, rfl, rfl, rfl⟩
theorem e_q267 : e_eqs 267 e_c267 (some .boolean) 2 0 0 := ⟨rfl, rfl, rfl, rfl, rfl⟩
theorem e_q268 : e_eqs 268 e_c268 (some .boolean) 2 0 0 := ⟨rfl, rfl, rfl, rfl, rfl⟩
theorem e_q269 : e_eqs 269 e_c269 (some .int) 3 0 0 := ⟨rfl, rfl, rfl, rfl, rfl⟩
theorem e_q270 : e_eqs 270 e_c270 (some .boolean) 5 0 0 := ⟨rfl, rfl, rfl, rfl, rfl⟩
theorem e_q271 : e_eqs 271 e_c271 none 8 0 0 := ⟨rfl, rfl, rfl, rfl, rfl⟩
theorem e_q272 : e_eqs 272 e_c272 (some .boolean) 5 0 0 := ⟨rfl, rfl, rfl, rfl, rfl⟩
theorem e_q273 : e_eqs 273 e_c273 (some .long) 6 0 0 := ⟨rfl, rfl, rfl, rfl, rfl⟩
theorem e_q274 : e_eqs 274 e_c274 (some .boolean) 3 0 0 := ⟨rfl, rfl, rfl, rfl, rfl⟩
theorem e_q275 : e_eqs 275 e_c275 (some .int) 3 0 0 := ⟨rfl, rfl, rfl, rfl, rfl⟩
theorem e_q276 : e_eqs 276 e_c276 (some .boolean) 4 0 0 := ⟨rfl, rfl, rfl, rfl, rfl⟩
theorem e_q277 : e_eqs 277 e_c277 none 11 0 0 := ⟨rfl, rfl, rfl, rfl, rfl⟩
theorem e_q278 : e_eqs 278 e_c278 (some .int) 4 0 0 := ⟨rfl, rfl, rfl, rfl, rfl⟩
theorem e_q279 : e_eqs 279 e_c279 none 6 0 0 := ⟨rfl, rfl, rfl, rfl, rfl⟩
theorem e_q280 : e_eqs 280 e_c280 (some .boolean) 3 0 0 := ⟨rfl, rfl, rfl, rfl, rfl⟩
theorem e_q281 : e_eqs 281 e_c281 (some .int) 11 0 0 := ⟨rfl, rfl, rfl, rfl, rfl⟩
theorem e_q282 : e_eqs 282 e_c282 (some .boolean) 4 0 0 := ⟨rfl, rfl, rfl, rfl, rfl⟩
theorem e_q283 : e_eqs 283 e_c283 (some .int) 4 0 0 := ⟨rfl, rfl, rfl, rfl, rfl⟩
theorem e_q284 : e_eqs 284 e_c284 (some .int) 4 0 0 := ⟨rfl, rfl, rfl, rfl, rfl⟩
theorem e_q285 : e_eqs 285 e_c285 (some .int) 3 0 0 := ⟨rfl, rfl, rfl, rfl, rfl⟩
theorem e_q286 : e_eqs 286 e_c286 (some .int) 4 0 0 := ⟨rfl, rfl, rfl, rfl, rfl⟩
theorem e_q287 : e_eqs 287 e_c287 (some .int) 2 0 0 := ⟨rfl, rfl, rfl, rfl, rfl⟩
theorem e_q288 : e_eqs 288 e_c288 (some .int) 2 0 0 := ⟨rfl, rfl, rfl, rfl, rfl⟩
theorem e_q289 : e_eqs 289 e_c289 (some .int) 4 0 0 := ⟨rfl, rfl, rfl, rfl, rfl⟩
theorem e_q290 : e_eqs 290 e_c290 none 6 0 0 := ⟨rfl, rfl, rfl, rfl, rfl⟩
theorem e_q291 : e_eqs 291 e_c291 none 5 0 0 := ⟨rfl, rfl, rfl, rfl, rfl⟩
theorem e_q292 : e_eqs 292 e_c292 none 14 0 0 := ⟨rfl, rfl, rfl, rfl, rfl⟩
theorem e_q293 : e_eqs 293 e_c293 (some .int) 8 0 0 := ⟨rfl, rfl, rfl, rfl, rfl⟩
theorem e_q294 : e_eqs 294 e_c294 (some .int) 5 0 0 := ⟨rfl, rfl, rfl, rfl, rfl⟩
theorem e_q295 : e_eqs 295 e_c295 (some .int) 4 0 0 := ⟨rfl, rfl, rfl, rfl, rfl⟩
theorem e_q296 : e_eqs 296 e_c296 (some .int) 6 0 0 := ⟨rfl, rfl, rfl, rfl, rfl⟩
theorem e_q297 : e_eqs 297 e_c297 (some .double) 1 0 0 := ⟨rfl, rfl, rfl, rfl, rfl⟩
theorem e_q298 : e_eqs 298 e_c298 (some .int) 3 0 0 := ⟨rfl, rfl, rfl, rfl, rfl⟩
theorem e_q299 : e_eqs 299 e_c299 (some .int) 2 0 0 := ⟨rfl, rfl, rfl, rfl, rfl⟩
theorem e_q300 : e_eqs 300 e_c300 (some .int) 2 0 0 := ⟨rfl, rfl, rfl, rfl, rfl⟩
theorem e_q301 : e_eqs 301 e_c301 (some .int) 4 0 0 := ⟨rfl, rfl, rfl, rfl, rfl⟩
theorem e_q302 : e_eqs 302 e_c302 (some .int) 1 0 0 := ⟨rfl, rfl, rfl, rfl, rfl⟩
theorem e_q303 : e_eqs 303 e_c303 (some .int) 7 0 0 := ⟨rfl, rfl, rfl, rfl, rfl⟩
theorem e_q304 : e_eqs 304 e_c304 (some .char) 3 0 0 := ⟨rfl, rfl, rfl, rfl, rfl⟩
theorem e_q305 : e_eqs 305 e_c305 (some .int) 1 0 0 := ⟨rfl, rfl, rfl, rfl, rfl⟩
theorem e_q306 : e_eqs 306 e_c306 (some .int) 1 0 0 := ⟨rfl, rfl, rfl, rfl, rfl⟩
theorem e_q307 : e_eqs 307 e_c307 (some .int) 1 0 0 := ⟨rfl, rfl, rfl, rfl, rfl⟩
/-- pop2 of a long -/
theorem e_W_pop2L {k pc : Nat} {loc : List (Option Value)} {r : List Value} {x : Int64} {h : e_H} {bc bs : Nat} {Q : e_O → e_H → Prop} (hd : decode (e_mb k) pc = .ok (.pop2, 1)) (H : e_Wp k (pc + 1) loc r h bc bs Q) : e_Wp k pc loc (.long x :: r) h bc bs Q :=
  e_pure (fun p l e R s m args below meth c g Hp locs cells slots ls Qs hx hb hr ho ht kk => lv_pop2_2 hx hb hd rfl kk) H
