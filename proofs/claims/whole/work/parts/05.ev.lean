/-! what the abstract machine does at an instruction: the goal there out of the goal behind it -/
def e_setI (h : e_H) (c k : Nat) (x : Int32) : e_H := (e_lay h, e_up (e_hI h) c k x, e_hL h, e_hD h, e_scr h, e_fl h)
def e_setL (h : e_H) (c k : Nat) (x : Int64) : e_H := (e_lay h, e_hI h, e_up (e_hL h) c k x, e_hD h, e_scr h, e_fl h)
def e_setD (h : e_H) (c k : Nat) (x : UInt64) : e_H := (e_lay h, e_hI h, e_hL h, e_up (e_hD h) c k x, e_scr h, e_fl h)
def e_rowI (h : e_H) (c : Nat) (r : Nat → Int32) : e_H := (e_lay h, e_row (e_hI h) c r, e_hL h, e_hD h, e_scr h, e_fl h)
def e_setC (h : e_H) (c : Nat) (e : e_C) : e_H := ((e_lay h).set c e, e_hI h, e_hL h, e_hD h, e_scr h, e_fl h)
/-- a new cell, all its numbers 0 -/
def e_push (h : e_H) (e : e_C) : e_H := (e_lay h ++ [e], e_row (e_hI h) (e_lay h).length (fun _ => 0), e_row (e_hL h) (e_lay h).length (fun _ => 0), e_row (e_hD h) (e_lay h).length (fun _ => 0), e_scr h, e_fl h)
def e_cat (st : List Value) : Nat := (st.map fun v => v.category).sum
/-- rows outside: static rows of ints (kind 0), the bytes of texts (kind 5), the script (kind 6) -/
def e_xrow (h : e_H) (a : Nat) : Option (Nat × Nat × (Nat → Int32)) :=
  if a = 20 then some (6, (e_scr h).1, (e_scr h).2)
  else if 10 ≤ a ∧ a < 18 then some (0, (e_sts.getD (a - 10) ("", "", [])).2.2.length, fun j => (e_sts.getD (a - 10) ("", "", [])).2.2.getD j 0)
  else if 3 ≤ a ∧ a < 6 then some (5, e_slen.getD (a - 3) 0, fun j => (e_sbyt.getD (a - 3) []).getD j 0)
  else none
/-- what the fields of a new object hold, by class -/
def e_dfts : List (List Value) := [[.null, .null, .long 0], [.int 0, .int 0, .int 0, .int 0, .int 0, .null, .null, .null, .null, .null, .null, .null], [.null, .null, .int 0, .int 0, .int 0, .int 0, .int 0, .int 0, .int 0], [.null, .null, .null, .null, .int 0, .long 0, .long 0, .long 0], [.null, .null, .null, .null, .null], [.null, .int 0, .int 0], [.null, .null, .int 0], [.null, .int 0], [.null, .null, .null, .int 0, .null, .null, .null], [.null, .null, .int 0, .null, .int 0, .int 0, .null, .null, .long 0, .long 0, .long 0, .int 0, .null, .int 0, .null, .int 0, .null, .int 0]]
def e_dflt (ci : Nat) : List Value := e_dfts.getD ci []
section EV
variable (loc : List (Option Value)) (st : List Value)
def e_ldI (i : Nat) (kk : Value → Prop) : Prop := match loc[i]? with
  | some (some (.int x)) => kk (.int x)
  | _ => False
def e_ldL (i : Nat) (kk : Value → Prop) : Prop := match loc[i]? with
  | some (some (.long x)) => kk (.long x)
  | _ => False
def e_ldD (i : Nat) (kk : Value → Prop) : Prop := match loc[i]? with
  | some (some (.double x)) => kk (.double x)
  | _ => False
def e_ldA (i : Nat) (kk : Value → Prop) : Prop := match loc[i]? with
  | some (some (.ref x)) => kk (.ref x)
  | some (some (.retAddr x)) => kk (.retAddr x)
  | some (some .null) => kk .null
  | _ => False
def e_stI (i : Nat) (kk : List (Option Value) → List Value → Prop) : Prop := match st with
  | .int x :: r => bif Nat.ble (i + 1) loc.length then kk (e_set1 loc i (.int x)) r else False
  | _ => False
def e_stL (i : Nat) (kk : List (Option Value) → List Value → Prop) : Prop := match st with
  | .long x :: r => bif Nat.ble (i + 2) loc.length then kk (e_set2 loc i (.long x)) r else False
  | _ => False
def e_stD (i : Nat) (kk : List (Option Value) → List Value → Prop) : Prop := match st with
  | .double x :: r => bif Nat.ble (i + 2) loc.length then kk (e_set2 loc i (.double x)) r else False
  | _ => False
def e_stA (i : Nat) (kk : List (Option Value) → List Value → Prop) : Prop := match st with
  | .ref x :: r => bif Nat.ble (i + 1) loc.length then kk (e_set1 loc i (.ref x)) r else False
  | .retAddr x :: r => bif Nat.ble (i + 1) loc.length then kk (e_set1 loc i (.retAddr x)) r else False
  | .null :: r => bif Nat.ble (i + 1) loc.length then kk (e_set1 loc i .null) r else False
  | _ => False
def e_i1 (f : Int32 → Value) (kk : List Value → Prop) : Prop := match st with
  | .int x :: r => kk (f x :: r)
  | _ => False
def e_i2 (f : Int32 → Int32 → Value) (kk : List Value → Prop) : Prop := match st with
  | .int y :: .int x :: r => kk (f x y :: r)
  | _ => False
def e_i2d (f : Int32 → Int32 → Value) (kk : List Value → Prop) : Prop := match st with
  | .int y :: .int x :: r => bif decide (y = 0) then False else kk (f x y :: r)
  | _ => False
def e_l2 (f : Int64 → Int64 → Value) (kk : List Value → Prop) : Prop := match st with
  | .long y :: .long x :: r => kk (f x y :: r)
  | _ => False
def e_lsh (f : Int64 → Int32 → Value) (kk : List Value → Prop) : Prop := match st with
  | .int y :: .long x :: r => kk (f x y :: r)
  | _ => False
def e_d2 (f : UInt64 → UInt64 → Value) (kk : List Value → Prop) : Prop := match st with
  | .double y :: .double x :: r => kk (f x y :: r)
  | _ => False
def e_ddv (kk : List Value → Prop) : Prop := match st with
  | .double y :: .double x :: r => vf_n64 (FP.ddiv x y) ∧ kk (.double (FP.ddiv x y) :: r)
  | _ => False
def e_br1 (c : Int32 → Prop) (kt kf : List Value → Prop) : Prop := match st with
  | .int x :: r => (c x → kt r) ∧ (¬ c x → kf r)
  | _ => False
def e_br2 (c : Int32 → Int32 → Prop) (kt kf : List Value → Prop) : Prop := match st with
  | .int y :: .int x :: r => (c x y → kt r) ∧ (¬ c x y → kf r)
  | _ => False
def e_brN (kn kr : List Value → Prop) : Prop := match st with
  | .null :: r => kn r
  | .ref _ :: r => kr r
  | _ => False
def e_dup (kk : List Value → Prop) : Prop := match st with
  | v :: r => bif Nat.beq v.category 1 then kk (v :: v :: r) else False
  | _ => False
def e_dup2 (kk : List Value → Prop) : Prop := match st with
  | v :: w :: r => bif Nat.beq v.category 1 && Nat.beq w.category 1 then kk (v :: w :: v :: w :: r) else False
  | _ => False
def e_pop (kk : List Value → Prop) : Prop := match st with
  | v :: r => bif Nat.beq v.category 1 then kk r else False
  | _ => False
def e_pop2 (kk : List Value → Prop) : Prop := match st with
  | v :: w :: r => bif Nat.beq v.category 1 && Nat.beq w.category 1 then kk r else False
  | _ => False
def e_alen (h : e_H) (kk : List Value → Prop) : Prop := match st with
  | .ref a :: r => match (e_lay h)[a]? with
    | some (.inr (.inl (t, n))) => bif Nat.ble (t + 1) 4 then kk (.int (Int32.ofNat n) :: r) else False
    | some (.inr (.inr (n, _))) => kk (.int (Int32.ofNat n) :: r)
    | _ => False
  | .retAddr a :: r => match e_xrow h a with
    | some (_, n, _) => kk (.int (Int32.ofNat n) :: r)
    | none => False
  | _ => False
/-- a row of ints, bytes, chars: which kind, which kind outside -/
def e_ald (h : e_H) (tag xt yt : Nat) (kk : List Value → Prop) : Prop := match st with
  | .int i :: .ref a :: r => match (e_lay h)[a]? with
    | some (.inr (.inl (t, n))) => bif Nat.beq t tag then vp_in i n ∧ kk (.int (e_hI h a i.toNatClampNeg) :: r) else False
    | _ => False
  | .int i :: .retAddr a :: r => match e_xrow h a with
    | some (t, n, f) => bif Nat.beq t xt || Nat.beq t yt then vp_in i n ∧ kk (.int (f i.toNatClampNeg) :: r) else False
    | none => False
  | _ => False
/-- a row of bytes: those outside alone -/
def e_bald (h : e_H) (kk : List Value → Prop) : Prop := match st with
  | .int i :: .retAddr a :: r => match e_xrow h a with
    | some (t, n, f) => bif Nat.beq t 5 then vp_in i n ∧ kk (.int (f i.toNatClampNeg) :: r) else False
    | none => False
  | _ => False
def e_lald (h : e_H) (kk : List Value → Prop) : Prop := match st with
  | .int i :: .ref a :: r => match (e_lay h)[a]? with
    | some (.inr (.inl (t, n))) => bif Nat.beq t 1 then vp_in i n ∧ kk (.long (e_hL h a i.toNatClampNeg) :: r) else False
    | _ => False
  | _ => False
def e_dald (h : e_H) (kk : List Value → Prop) : Prop := match st with
  | .int i :: .ref a :: r => match (e_lay h)[a]? with
    | some (.inr (.inl (t, n))) => bif Nat.beq t 3 then vp_in i n ∧ kk (.double (e_hD h a i.toNatClampNeg) :: r) else False
    | _ => False
  | _ => False
def e_aald (h : e_H) (kk : List Value → Prop) : Prop := match st with
  | .int i :: .ref a :: r => match (e_lay h)[a]? with
    | some (.inr (.inr (n, rs))) => vp_in i n ∧ match rs.getD i.toNatClampNeg none with
      | some q => kk (.ref q :: r)
      | none => kk (.null :: r)
    | _ => False
  | _ => False
def e_iast (h : e_H) (tag : Nat) (f : Int32 → Int32) (kk : List Value → e_H → Prop) : Prop := match st with
  | .int x :: .int i :: .ref a :: r => match (e_lay h)[a]? with
    | some (.inr (.inl (t, n))) => bif Nat.beq t tag then vp_in i n ∧ kk r (e_setI h a i.toNatClampNeg (f x)) else False
    | _ => False
  | _ => False
def e_last (h : e_H) (kk : List Value → e_H → Prop) : Prop := match st with
  | .long x :: .int i :: .ref a :: r => match (e_lay h)[a]? with
    | some (.inr (.inl (t, n))) => bif Nat.beq t 1 then vp_in i n ∧ kk r (e_setL h a i.toNatClampNeg x) else False
    | _ => False
  | _ => False
def e_dast (h : e_H) (kk : List Value → e_H → Prop) : Prop := match st with
  | .double x :: .int i :: .ref a :: r => match (e_lay h)[a]? with
    | some (.inr (.inl (t, n))) => bif Nat.beq t 3 then vp_in i n ∧ kk r (e_setD h a i.toNatClampNeg x) else False
    | _ => False
  | _ => False
def e_aast (h : e_H) (kk : List Value → e_H → Prop) : Prop := match st with
  | .ref v :: .int i :: .ref a :: r => match (e_lay h)[a]?, (e_lay h)[v]? with
    | some (.inr (.inr (n, rs))), some (.inl (ci, _)) => bif Nat.beq ci 2 && Nat.beq n rs.length then vp_in i n ∧ kk r (e_setC h a (.inr (.inr (n, rs.set i.toNatClampNeg (some v))))) else False
    | _, _ => False
  | _ => False
def e_get (h : e_H) (ns : List Nat) (kk : List Value → Prop) : Prop := match ns with
  | [ci, k, _] => match st with
    | .ref a :: r => match (e_lay h)[a]? with
      | some (.inl (cj, tm)) => bif Nat.beq cj ci then match tm[k]? with
        | some (.int _) => kk (.int (e_hI h a k) :: r)
        | some (.long _) => kk (.long (e_hL h a k) :: r)
        | some (.ref q) => kk (.ref q :: r)
        | some .null => kk (.null :: r)
        | _ => False
        else False
      | _ => False
    | _ => False
  | [_, j] => match st with
    | .retAddr a :: r => bif Nat.ble (a + 1) 3 then (bif Nat.beq j 0 then kk (.int 0 :: r) else kk (.retAddr (3 + a) :: r)) else False
    | _ => False
  | _ => False
def e_put (h : e_H) (ns : List Nat) (kk : List Value → e_H → Prop) : Prop := match ns with
  | [ci, k, _, tc] => match st with
    | .int x :: .ref a :: r => match (e_lay h)[a]? with
      | some (.inl (cj, tm)) => bif Nat.beq cj ci then match tm[k]? with
        | some (.int _) => bif Nat.beq tc 0 then kk r (e_setI h a k x) else bif Nat.beq tc 1 then (x = 0 ∨ x = 1) ∧ kk r (e_setI h a k x) else False
        | _ => False
        else False
      | _ => False
    | .long x :: .ref a :: r => match (e_lay h)[a]? with
      | some (.inl (cj, tm)) => bif Nat.beq cj ci && Nat.beq tc 2 then match tm[k]? with
        | some (.long _) => kk r (e_setL h a k x)
        | _ => False
        else False
      | _ => False
    | .ref v :: .ref a :: r => match (e_lay h)[a]? with
      | some (.inl (cj, tm)) => bif Nat.beq cj ci && Nat.beq tc 3 then match tm[k]? with
        | some .null => kk r (e_setC h a (.inl (cj, tm.set k (.ref v))))
        | _ => False
        else False
      | _ => False
    | _ => False
  | _ => False
/-- a switch: place n of the targets is for the number lo + n -/
def e_swt (x : Int32) (lo : Int) : Nat → List Nat → (Nat → Prop) → Prop → Prop
  | _, [], _, d => d
  | n, t :: ts, kk, d => (x = Int32.ofInt (lo + n) → kk t) ∧ (¬ x = Int32.ofInt (lo + n) → e_swt x lo (n + 1) ts kk d)
def e_tsw (lo : Int) (ns : List Nat) (kk : Nat → List Value → Prop) : Prop := match st, ns with
  | .int x :: r, d :: ts => e_swt x lo 0 ts (fun t => kk t r) (kk d r)
  | _, _ => False
def e_swl (x : Int32) : List (Int × Int) → List Nat → (Nat → Prop) → Prop → Prop
  | [], _, _, d => d
  | _, [], _, _ => False
  | q :: qs, t :: ts, kk, d => (x = Int32.ofInt q.1 → kk t) ∧ (¬ x = Int32.ofInt q.1 → e_swl x qs ts kk d)
def e_lsw (ps : Array (Int × Int)) (ns : List Nat) (kk : Nat → List Value → Prop) : Prop := match st, ns with
  | .int x :: r, d :: ts => e_swl x ps.toList ts (fun t => kk t r) (kk d r)
  | _, _ => False
end EV
/-- the law's own handlers: exception's place in e_exc, place behind the store, local, so on -/
def e_exn (E : String) (np : Nat → Nat → Prop) (out : Prop) : List Nat → Prop
  | ei :: i :: pc :: r => (E = e_exc.getD ei "" → np i pc) ∧ (¬ E = e_exc.getD ei "" → e_exn E np out r)
  | _ => out
/-! what is known of the things outside, in a heap, A being what may be changed -/
def e_refv (v : Value) : Prop := v = .null ∨ ∃ a, v = .ref a
theorem e_refv_cat {v : Value} (h : e_refv v) : v.category = 1 := by
  rcases h with rfl | ⟨a, rfl⟩ <;> rfl
def e_adr (v : Value) : Nat := match v with
  | .ref a => a
  | _ => 0
/-- the constructors that exceptions' constructors call -/
def e_dcl : List MethodName := [⟨"java/lang/RuntimeException", "<init>", "()V"⟩, ⟨"java/lang/Exception", "<init>", "()V"⟩, ⟨"java/lang/Throwable", "<init>", "()V"⟩]
def e_F (g : e_G) (sc : Nat × (Nat → Int32)) (A : Nat → Prop) (U : State) (H : Heap) : Prop :=
  (∀ k, e_refv (g.2.1 k)) ∧
  va_Z "java/lang/String" "COMPACT_STRINGS" "Z" (.int 1) A U H ∧
  va_Z "jdk/internal/util/Preconditions" "SIOOBE_FORMATTER" "Ljava/util/function/BiFunction;" (g.2.1 40) A U H ∧
  (∀ (i : Nat) (r : String × String × List Int32), e_sts[i]? = some r → va_Z r.1 r.2.1 "[I" (g.2.1 (10 + i)) A U H ∧ ∃ t, g.2.1 (10 + i) = .ref t ∧ va_T .int t r.2.2.length (fun j => .int (r.2.2.getD j 0)) A U H) ∧
  (∃ adV : Nat → Nat, vk_S 3 e_slen e_sbyt (fun j => e_adr (g.2.1 j)) adV A U H ∧ ∀ j, j < 3 → g.2.1 j = .ref (e_adr (g.2.1 j)) ∧ g.2.1 (3 + j) = .ref (adV j)) ∧
  (∀ (j : Nat) (r : String × Nat × String), e_srefs[j]? = some r → vk_R r.1 r.2.1 r.2.2 (e_adr (g.2.1 j)) U) ∧
  vx_Zq Bundle.tN "UNASSIGNED_STACK" Bundle.steD A U H ∧ vx_Zq Bundle.tN "SUPPRESSED_SENTINEL" Bundle.listD A U H ∧
  (∀ w ∈ e_nest, va_Nw (.methodLinkNest w.1 w.2.1 w.2.2.1 w.2.2.2) U) ∧ (∀ q ∈ e_nc, va_Nc q.1 q.2 U) ∧ ((∀ E ∈ e_exc, va_Nw (.castable E E) U) ∧ ∀ y ∈ e_dcl, va_Nw (.declares y) U) ∧ va_AO "HexCampaign$Game" U ∧
  (∃ b, g.2.1 20 = .ref b ∧ va_X b sc.1 sc.2 U H ∧ ¬ A b ∧ b < H.size)
theorem e_F.moved {g : e_G} {sc : Nat × (Nat → Int32)} {A : Nat → Prop} {u U : State} {H : Heap} (hW : u.WarmedH U.vm) (h : e_F g sc A u H) : e_F g sc A U H := by
  have hvm := hW.alike
  obtain ⟨h0, h1, h2, h3, ⟨adV, h4, h5⟩, h6, h7, h8, h9, h10, ⟨h16, h17⟩, h11, b, h12, h13, h14⟩ := h
  exact ⟨h0, h1.moved hvm, h2.moved hvm, fun i r hr => ⟨(h3 i r hr).1.moved hvm, by obtain ⟨t, e1, e2⟩ := (h3 i r hr).2; exact ⟨t, e1, e2.moved hvm⟩⟩, ⟨adV, h4.moved hvm, h5⟩, fun j r hr => vk_R.warm hW (h6 j r hr), h7.moved hvm, h8.moved hvm, fun w hw => va_Nw.warmM hW (h9 w hw), fun q hq => va_Nc.moved hvm (h10 q hq), ⟨fun E hE => va_Nw.warmC hW (h16 E hE), fun y hy => va_Nw.warmD hW (h17 y hy)⟩, h11.moved hvm, b, h12, h13.moved hvm, h14⟩
theorem e_F.kept {g : e_G} {sc : Nat × (Nat → Int32)} {A : Nat → Prop} {U : State} {H H1 : Heap} (h : e_F g sc A U H) (hz : H.size ≤ H1.size) (hq : ∀ a : Nat, a < H.size → ¬ A a → H1[a]? = H[a]?) : e_F g sc A U H1 := by
  obtain ⟨h0, h1, h2, h3, ⟨adV, h4, h5⟩, h6, h7, h8, h9, h10, h16, h11, b, h12, h13, h14, h15⟩ := h
  exact ⟨h0, h1.kept hq, h2.kept hq, fun i r hr => ⟨(h3 i r hr).1.kept hq, by obtain ⟨t, e1, e2⟩ := (h3 i r hr).2; exact ⟨t, e1, e2.kept hq⟩⟩, ⟨adV, h4.kept hq, h5⟩, h6, h7.kept hq, h8.kept hq, h9, h10, h16, h11, b, h12, h13.kept (hq b h15 h14), h14, Nat.lt_of_lt_of_le h15 hz⟩
theorem e_F.narrow {g : e_G} {sc : Nat × (Nat → Int32)} {A B : Nat → Prop} {U : State} {H : Heap} (h : e_F g sc A U H) (hAB : ∀ q, B q → A q) : e_F g sc B U H := by
  obtain ⟨h0, h1, h2, h3, ⟨adV, h4, h5⟩, h6, h7, h8, h9, h10, h16, h11, b, h12, h13, h14, h15⟩ := h
  exact ⟨h0, h1.narrow hAB, h2.narrow hAB, fun i r hr => ⟨(h3 i r hr).1.narrow hAB, by obtain ⟨t, e1, e2⟩ := (h3 i r hr).2; exact ⟨t, e1, e2.narrow hAB⟩⟩, ⟨adV, h4.narrow hAB, h5⟩, h6, h7.narrow hAB, h8.narrow hAB, h9, h10, h16, h11, b, h12, h13, fun hb => h14 (hAB b hb), h15⟩
/-- the abstract heap as it lies in the machine's -/
def e_wd (g : e_G) (h : e_H) (A : Nat → Prop) (H : Heap) : Prop := va_P g.2.2.2 e_cls (e_ws g h) H ∧ va_D A (e_ws g h)
/-- new cells may have come: the first n lie where they lay -/
def e_ag (n : Nat) (g g' : e_G) : Prop := g'.2 = g.2 ∧ ∀ i, i < n → g'.1 i = g.1 i
theorem e_ag.rf {n : Nat} {g : e_G} : e_ag n g g := ⟨rfl, fun _ _ => rfl⟩
theorem e_ag.tr {n n' : Nat} {g g' g2 : e_G} (h : e_ag n g g') (h2 : e_ag n' g' g2) (hn : n ≤ n') : e_ag n g g2 := ⟨h2.1.trans h.1, fun i hi => (h2.2 i (Nat.lt_of_lt_of_le hi hn)).trans (h.2 i hi)⟩
/-- a method's words, room, start, ends -/
def e_wsk (k : Nat) : List Cond := (if e_hh k = [] then .code (e_nm k) (e_mb k) (e_ml k) (e_rt k) else .codeWith (e_nm k) (e_mb k) (e_ml k) (e_rt k) (e_hh k)) :: e_tb
def e_rom (k : Nat) : Room := { frames := e_dd k, cells := e_cc k, slots := e_cs k, locals := e_ll k }
def e_Pc (g : e_G) (sz : Nat) (avs : List Value) (h : e_H) : Array Value → State → Prop := va_Pc (avs.map (e_rel g)) (fun U => U.heap.size = sz ∧ e_wd g h (fun _ => True) U.heap ∧ va_K g.2.2.2 e_cls (e_tys g) U ∧ e_F g (e_scr h) (va_A (e_ws g h) sz) U U.heap)
/-- where a walk that began at g, h has come: the script the same, no fewer cells, the old ones where they lay -/
def e_to (g : e_G) (h : e_H) (g' : e_G) (h' : e_H) : Prop := e_scr h' = e_scr h ∧ (e_lay h).length ≤ (e_lay h').length ∧ e_ag (e_lay h).length g g' ∧ (e_fl h = false → g' = g) ∧ e_fl h' = e_fl h
def e_Qc (g : e_G) (sz : Nat) (h : e_H) (Φ : e_O → e_H → Prop) : Array Value → State → Outcome → State → Prop := fun _ st oc t =>
  ∃ (v : Option Value) (g' : e_G) (h' : e_H), oc = .returned (v.map (e_rel g')) ∧ Φ (.inl v) h' ∧ e_to g h g' h' ∧ e_wd g' h' (va_A (e_ws g h) sz) t.heap ∧ va_F (va_A (e_ws g h) sz) st t
def e_Xc (g : e_G) (sz : Nat) (h : e_H) (Φ : e_O → e_H → Prop) : String → State → State → Prop := fun E st t =>
  ∃ (g' : e_G) (h' : e_H), Φ (.inr E) h' ∧ e_to g h g' h' ∧ e_wd g' h' (va_A (e_ws g h) sz) t.heap ∧ va_F (va_A (e_ws g h) sz) st t
/-- THE CONTRACT of method k: called with these values in this heap it ends as Φ says -/
def e_M (k : Nat) (avs : List Value) (h : e_H) (Φ : e_O → e_H → Prop) : Prop :=
  ∀ (l : Launch), l.stackTraces = false → ∀ (g : e_G) (sz : Nat), vx_Met l (e_nm k) (e_wsk k) (e_rom k) (e_Pc g sz avs h) (e_Qc g sz h Φ) (e_Xc g sz h Φ) (e_cc k) (e_cs k) (va_A (e_ws g h) sz)
/-- what stays fixed while a method's body runs -/
def e_Cx (k : Nat) (p : Program) (l : Launch) (R : Room) (s : State) (m : MethodId) (args : Array Value) (meth : Method) (c : Code) (g : e_G) (A : Nat → Prop) (sc : Nat × (Nat → Int32)) (mc ms : Nat) : Prop :=
  p.tables.exec = Jvm.exec ∧ c.code = e_mb k ∧ c.maxLocals = e_ml k ∧ s.vm.findClass (e_nm k).cls = some m.cls ∧ (∀ w ∈ e_tb, w.before args s = true) ∧ meth.sig.returnType = e_rt k ∧ meth.locks = false ∧ meth.name = (e_nm k).name ∧
  c.exceptionTable.toList = tableOf (e_hh k) ∧ R.frames = e_dd k ∧ R.locals = e_ll k ∧ R.cells = mc ∧ R.slots = ms ∧ l.stackTraces = false ∧ (∀ q, s.heap.size ≤ q → A q) ∧ va_K g.2.2.2 e_cls (e_tys g) s ∧ e_F g sc A s s.heap
/-- what the ends of the walk must give -/
def e_Hk (g : e_G) (h : e_H) (A : Nat → Prop) (args : Array Value) (s : State) (Q : e_O → e_H → Prop) (Qc : Array Value → State → Outcome → State → Prop) (XC : String → State → State → Prop) : Prop :=
  (∀ (v : Option Value) (g' : e_G) (h' : e_H) (t : State), Q (.inl v) h' → e_to g h g' h' → e_wd g' h' A t.heap → va_F A s t → Qc args s (.returned (v.map (e_rel g'))) t) ∧
  ∀ (E : String) (g' : e_G) (h' : e_H) (t : State), Q (.inr E) h' → e_to g h g' h' → e_wd g' h' A t.heap → va_F A s t → XC E s t
theorem e_to.rf {g : e_G} {h : e_H} : e_to g h g h := ⟨rfl, Nat.le_refl _, e_ag.rf, fun _ => rfl, rfl⟩
theorem e_to.tr {g g' g2 : e_G} {h h' h2 : e_H} (a : e_to g h g' h') (b : e_to g' h' g2 h2) : e_to g h g2 h2 :=
  ⟨b.1.trans a.1, Nat.le_trans a.2.1 b.2.1, a.2.2.1.tr b.2.2.1 a.2.1, fun hf => (b.2.2.2.1 (a.2.2.2.2.trans hf)).trans (a.2.2.2.1 hf), b.2.2.2.2.trans a.2.2.2.2⟩
theorem e_Hk.step {g g' : e_G} {h h' : e_H} {A : Nat → Prop} {args : Array Value} {s : State} {Q : e_O → e_H → Prop} {Qc : Array Value → State → Outcome → State → Prop} {XC : String → State → State → Prop} (hk : e_Hk g h A args s Q Qc XC) (a : e_to g h g' h') : e_Hk g' h' A args s Q Qc XC :=
  ⟨fun v g2 h2 t hq b => hk.1 v g2 h2 t hq (a.tr b), fun E g2 h2 t hq b => hk.2 E g2 h2 t hq (a.tr b)⟩
/-- at a place of method k's body, with these locals, this stack, this heap, and room for so many cells and slots: it ends as Q says -/
def e_Wp (k pc : Nat) (loc : List (Option Value)) (st : List Value) (h : e_H) (bc bs : Nat) (Q : e_O → e_H → Prop) : Prop :=
  ∀ (p : Program) (l : Launch) (e : Env) (R : Room) (s : State) (m : MethodId) (args : Array Value) (below : List Frame) (meth : Method) (c : Code) (g : e_G) (A : Nat → Prop) (H : Heap) (locs : List Loc) (cells slots mc ms : Nat) (ls : Array Slot) (Qc : Array Value → State → Outcome → State → Prop) (XC : String → State → State → Prop),
    e_Cx k p l R s m args meth c g A (e_scr h) mc ms → e_wd g h A H → va_S A s.heap H locs → lv_has ls (e_ml k) (e_as g loc) → loc.length = e_ml k → cells + bc ≤ mc → slots + bs ≤ ms → e_Hk g h A args s Q Qc XC →
    W p l e R s m args below meth c H locs cells slots (vx_MQ below Qc XC args s mc ms A) (F0 m pc ls (st.map (e_rel g)))
/-- every reference is to one of the first n cells -/
def e_sv (n : Nat) (v : Value) : Bool := match v with
  | .ref k => Nat.ble (k + 1) n
  | _ => true
def e_so (n : Nat) (v : Option Value) : Bool := match v with
  | some w => e_sv n w
  | none => true
def e_sc (n : Nat) (e : e_C) : Bool := match e with
  | .inl (_, tm) => tm.all (e_sv n)
  | .inr (.inl _) => true
  | .inr (.inr (_, rs)) => rs.all (fun o => match o with
    | some k => Nat.ble (k + 1) n
    | none => true)
/-- where cells may be made: all that is held refers to cells that are there -/
def e_scp (h : e_H) (loc : List (Option Value)) (st : List Value) : Bool := !(e_fl h) || (loc.all (e_so (e_lay h).length) && st.all (e_sv (e_lay h).length))
section EV2
variable (hs : List Nat) (loc : List (Option Value)) (st : List Value) (h : e_H) (bc bs : Nat) (K : Nat → List (Option Value) → List Value → e_H → Nat → Nat → Prop) (Q : e_O → e_H → Prop)
/-- behind a call -/
def e_aft (pc c s : Nat) (rest : List Value) (o : e_O) (h' : e_H) : Prop := match o with
  | .inl none => K (pc + 3) loc rest h' (bc - c) (bs - s)
  | .inl (some v) => K (pc + 3) loc (v :: rest) h' (bc - c) (bs - s)
  | .inr E => match hs with
    | [] => Q (.inr E) h'
    | _ => E ∈ e_exc ∧ e_exn E (fun i np => bif Nat.ble (i + 1) loc.length then K np ((e_kill loc i).set i none) [] h' (bc - c) (bs - s) else False) (Q (.inr E) h') hs
/-- behind a constructor -/
def e_afi (pc c s : Nat) (rest : List Value) (o : e_O) (h' : e_H) : Prop := match o with
  | .inl none => K (pc + 3) loc rest h' (bc - c) (bs - s)
  | _ => False
def e_ok (c s n : Nat) (rest : List Value) : Bool := Nat.ble c bc && Nat.ble s bs && Nat.ble (e_cat rest) 8 && Nat.ble n st.length && e_scp h loc rest
def e_inv (pc : Nat) (ns : List Nat) : Prop := match ns with
  | k :: n :: _ :: c :: s :: ci :: hs => match st.drop n with
    | .ref a :: rest => match (e_lay h)[a]? with
      | some (.inl (cj, _)) => bif Nat.beq cj ci && e_ok loc st h bc bs c s n rest then e_M k (.ref a :: (st.take n).reverse) h (e_aft hs loc bc bs K Q pc c s rest) else False
      | _ => False
    | .retAddr a :: rest => bif Nat.beq ci 99 && Nat.ble (a + 1) 3 && e_ok loc st h bc bs c s n rest then e_M k (.retAddr a :: (st.take n).reverse) h (e_aft hs loc bc bs K Q pc c s rest) else False
    | _ => False
  | _ => False
def e_cpy (ns : List Nat) (kk : List Value → e_H → Prop) : Prop := match st with
  | .int n :: .int dp :: .ref a :: .int sp :: .ref b :: r => match (e_lay h)[a]?, (e_lay h)[b]? with
    | some (.inr (.inl (0, na))), some (.inr (.inl (0, nb))) => bif Nat.ble (e_cat r) 8 then (¬ sp < 0 ∧ ¬ dp < 0 ∧ ¬ n < 0 ∧ sp.toNatClampNeg + n.toNatClampNeg ≤ nb ∧ dp.toNatClampNeg + n.toNatClampNeg ≤ na) ∧ kk r (e_rowI h a (va_cpy (e_hI h b) (e_hI h a) sp.toNatClampNeg dp.toNatClampNeg n.toNatClampNeg)) else False
    | _, _ => False
  | _ => False
def e_ins (pc : Nat) (ns : List Nat) : Prop := match ns with
  | [k, n, fl, c, s] => bif Nat.beq fl 3 then e_cpy st h ns (fun r h' => K (pc + 3) loc r h' bc bs) else
    bif (Nat.beq fl 0 || Nat.beq fl 1) && e_ok loc st h bc bs c s n (st.drop n) then e_M k (st.take n).reverse h (e_aft [] loc bc bs K Q pc c s (st.drop n)) else False
  | _ => False
def e_inp (pc : Nat) (ns : List Nat) : Prop := match ns with
  | k :: n :: fl :: c :: s :: _ => match st.drop n with
    | .ref a :: rest => bif Nat.beq fl 2 then (bif Nat.beq n 0 && Nat.ble (e_cat rest) 8 then K (pc + 3) loc rest h bc bs else False) else
      bif e_ok loc st h bc bs c s n rest then e_M k (.ref a :: (st.take n).reverse) h (e_afi loc bc bs K pc c s rest) else False
    | _ => False
  | _ => False
def e_new (pc : Nat) (ns : List Nat) : Prop := match ns with
  | [0, ci] => bif e_fl h && e_scp h loc st && (e_lay h).all (e_sc (e_lay h).length) && Nat.ble 1 bc && Nat.ble (e_dflt ci).length bs then K (pc + 3) loc (.ref (e_lay h).length :: st) (e_push h (.inl (ci, e_dflt ci))) (bc - 1) (bs - (e_dflt ci).length) else False
  | [1, ei, _] => bif Nat.ble 1 bc && Nat.ble 6 bs && Nat.ble (e_cat st) 8 then Q (.inr (e_exc.getD ei "")) h else False
  | _ => False
def e_nwa (pc : Nat) (ns : List Nat) : Prop := match st, ns with
  | .int n :: r, [tag] => bif e_fl h && e_scp h loc r && (e_lay h).all (e_sc (e_lay h).length) && Nat.ble 1 bc && Nat.ble n.toNatClampNeg bs && Nat.ble n.toNatClampNeg 65536 && !(decide (n < 0)) then K (pc + 2) loc (.ref (e_lay h).length :: r) (e_push h (.inr (.inl (tag, n.toNatClampNeg)))) (bc - 1) (bs - n.toNatClampNeg) else False
  | _, _ => False
def e_anw (pc : Nat) : Prop := match st with
  | .int n :: r => bif e_fl h && e_scp h loc r && (e_lay h).all (e_sc (e_lay h).length) && Nat.ble 1 bc && Nat.ble n.toNatClampNeg bs && Nat.ble n.toNatClampNeg 65536 && !(decide (n < 0)) then K (pc + 3) loc (.ref (e_lay h).length :: r) (e_push h (.inr (.inr (n.toNatClampNeg, List.replicate n.toNatClampNeg none)))) (bc - 1) (bs - n.toNatClampNeg) else False
  | _ => False
def e_ret (rt : Option FieldType) : Prop := match st with
  | [.int x] => match rt with
    | some .int => Q (.inl (some (.int x))) h
    | some .boolean => (x = 0 ∨ x = 1) ∧ Q (.inl (some (.int x))) h
    | some ty => narrow ty (.int x) = .int x ∧ Q (.inl (some (.int x))) h
    | none => False
  | _ => False
def e_retL (rt : Option FieldType) : Prop := match st, rt with
  | [.long x], some .long => Q (.inl (some (.long x))) h
  | _, _ => False
def e_retD (rt : Option FieldType) : Prop := match st, rt with
  | [.double x], some .double => Q (.inl (some (.double x))) h
  | _, _ => False
def e_retA (rt : Option FieldType) : Prop := match st, rt with
  | [.ref x], some (.object _) => Q (.inl (some (.ref x))) h
  | [.null], some (.object _) => Q (.inl (some .null)) h
  | _, _ => False
def e_retV (rt : Option FieldType) : Prop := match st, rt with
  | [], none => Q (.inl none) h
  | _, _ => False
def e_jmp (ns : List Nat) (kk : Nat → Prop) : Prop := match ns with
  | [t] => kk t
  | _ => False
def e_stp (rt : Option FieldType) (en : e_I) : Prop :=
  let pc := en.1
  let v := en.2.2.2.1
  let ns := en.2.2.2.2.1
  let kk := fun (n : Nat) (r : List Value) => K (pc + n) loc r h bc bs
  let kl := fun (n : Nat) (lo : List (Option Value)) (r : List Value) => K (pc + n) lo r h bc bs
  let kt := fun (t : Nat) (r : List Value) => K t loc r h bc bs
  let kh := fun (n : Nat) (r : List Value) (h' : e_H) => K (pc + n) loc r h' bc bs
  match en.2.1 with
  | .aconst_null => kk 1 (.null :: st)
  | .iconst n => kk 1 (.int (Int32.ofInt n) :: st)
  | .bipush n => kk 2 (.int (Int8.ofInt n).toInt32 :: st)
  | .sipush n => kk 3 (.int (Int16.ofInt n).toInt32 :: st)
  | .lconst n => kk 1 (.long (Int64.ofNat (n : Nat)) :: st)
  | .dconst n => bif Nat.beq (n : Nat) 0 then kk 1 (.double FP.dconst0 :: st) else False
  | .ldc _ => kk 2 (v :: st)
  | .ldc_w _ => kk 3 (v :: st)
  | .ldc2_w _ => kk 3 (v :: st)
  | .getstatic _ => kk 3 (v :: st)
  | .iload i => e_ldI loc i (fun w => kk 2 (w :: st))
  | .iload_n i => e_ldI loc (i : Nat) (fun w => kk 1 (w :: st))
  | .lload i => e_ldL loc i (fun w => kk 2 (w :: st))
  | .lload_n i => e_ldL loc (i : Nat) (fun w => kk 1 (w :: st))
  | .dload i => e_ldD loc i (fun w => kk 2 (w :: st))
  | .dload_n i => e_ldD loc (i : Nat) (fun w => kk 1 (w :: st))
  | .aload i => e_ldA loc i (fun w => kk 2 (w :: st))
  | .aload_n i => e_ldA loc (i : Nat) (fun w => kk 1 (w :: st))
  | .istore i => e_stI loc st i (kl 2)
  | .istore_n i => e_stI loc st (i : Nat) (kl 1)
  | .lstore i => e_stL loc st i (kl 2)
  | .lstore_n i => e_stL loc st (i : Nat) (kl 1)
  | .dstore i => e_stD loc st i (kl 2)
  | .dstore_n i => e_stD loc st (i : Nat) (kl 1)
  | .astore i => e_stA loc st i (kl 2)
  | .astore_n i => e_stA loc st (i : Nat) (kl 1)
  | .iinc i n => e_ldI loc i (fun w => match w with
    | .int x => bif Nat.ble (i + 1) loc.length then kl 3 (e_set1 loc i (.int (x + Int32.ofInt n))) st else False
    | _ => False)
  | .iadd => e_i2 st (fun x y => .int (x + y)) (kk 1)
  | .isub => e_i2 st (fun x y => .int (x - y)) (kk 1)
  | .imul => e_i2 st (fun x y => .int (x * y)) (kk 1)
  | .iand => e_i2 st (fun x y => .int (x &&& y)) (kk 1)
  | .ior => e_i2 st (fun x y => .int (x ||| y)) (kk 1)
  | .ixor => e_i2 st (fun x y => .int (x ^^^ y)) (kk 1)
  | .ishl => e_i2 st (fun x y => .int (x <<< (y &&& 31))) (kk 1)
  | .ishr => e_i2 st (fun x y => .int (x >>> (y &&& 31))) (kk 1)
  | .iushr => e_i2 st (fun x y => .int (x.toUInt32 >>> (y.toUInt32 &&& Int32.toUInt32 31)).toInt32) (kk 1)
  | .idiv => e_i2d st (fun x y => .int (x / y)) (kk 1)
  | .irem => e_i2d st (fun x y => .int (x - x / y * y)) (kk 1)
  | .ineg => e_i1 st (fun x => .int (-x)) (kk 1)
  | .i2l => e_i1 st (fun x => .long x.toInt64) (kk 1)
  | .i2c => e_i1 st (fun x => .int (x.toUInt32 % 65536).toInt32) (kk 1)
  | .i2d => e_i1 st (fun x => .double (FP.i2d x)) (kk 1)
  | .land => e_l2 st (fun x y => .long (x &&& y)) (kk 1)
  | .lor => e_l2 st (fun x y => .long (x ||| y)) (kk 1)
  | .lxor => e_l2 st (fun x y => .long (x ^^^ y)) (kk 1)
  | .ladd => e_l2 st (fun x y => .long (x + y)) (kk 1)
  | .lcmp => e_l2 st (fun x y => .int (lg_cmp x y)) (kk 1)
  | .lshl => e_lsh st (fun x y => .long (x <<< (y.toInt64 &&& 63))) (kk 1)
  | .lshr => e_lsh st (fun x y => .long (x >>> (y.toInt64 &&& 63))) (kk 1)
  | .lushr => e_lsh st (fun x y => .long (x.toUInt64 >>> (y.toInt64.toUInt64 &&& Int64.toUInt64 63)).toInt64) (kk 1)
  | .ddiv => e_ddv st (kk 1)
  | .dcmp op => e_d2 st (fun x y => .int (Op.cmpValue (FP.dcmp x y) op)) (kk 1)
  | .dup => e_dup st (kk 1)
  | .dup2 => e_dup2 st (kk 1)
  | .pop => e_pop st (kk 1)
  | .pop2 => e_pop2 st (kk 1)
  | .goto _ => e_jmp ns (fun t => kt t st)
  | .ifCond .eq _ => e_jmp ns (fun t => e_br1 st (fun x => x = 0) (kt t) (kk 3))
  | .ifCond .ne _ => e_jmp ns (fun t => e_br1 st (fun x => ¬ x = 0) (kt t) (kk 3))
  | .ifCond .lt _ => e_jmp ns (fun t => e_br1 st (fun x => x < 0) (kt t) (kk 3))
  | .ifCond .ge _ => e_jmp ns (fun t => e_br1 st (fun x => 0 ≤ x) (kt t) (kk 3))
  | .ifCond .gt _ => e_jmp ns (fun t => e_br1 st (fun x => 0 < x) (kt t) (kk 3))
  | .ifCond .le _ => e_jmp ns (fun t => e_br1 st (fun x => x ≤ 0) (kt t) (kk 3))
  | .if_icmp .eq _ => e_jmp ns (fun t => e_br2 st (fun x y => x = y) (kt t) (kk 3))
  | .if_icmp .ne _ => e_jmp ns (fun t => e_br2 st (fun x y => ¬ x = y) (kt t) (kk 3))
  | .if_icmp .lt _ => e_jmp ns (fun t => e_br2 st (fun x y => x < y) (kt t) (kk 3))
  | .if_icmp .ge _ => e_jmp ns (fun t => e_br2 st (fun x y => y ≤ x) (kt t) (kk 3))
  | .if_icmp .gt _ => e_jmp ns (fun t => e_br2 st (fun x y => y < x) (kt t) (kk 3))
  | .if_icmp .le _ => e_jmp ns (fun t => e_br2 st (fun x y => x ≤ y) (kt t) (kk 3))
  | .ifnull _ => e_jmp ns (fun t => e_brN st (kt t) (kk 3))
  | .ifnonnull _ => e_jmp ns (fun t => e_brN st (kk 3) (kt t))
  | .tableswitch _ lo _ _ => e_tsw st lo ns kt
  | .lookupswitch _ ps => e_lsw st ps ns kt
  | .arraylength => e_alen st h (kk 1)
  | .iaload => e_ald st h 0 0 6 (kk 1)
  | .caload => e_ald st h 2 7 7 (kk 1)
  | .baload => e_bald st h (kk 1)
  | .laload => e_lald st h (kk 1)
  | .daload => e_dald st h (kk 1)
  | .aaload => e_aald st h (kk 1)
  | .iastore => e_iast st h 0 (fun x => x) (kh 1)
  | .castore => e_iast st h 2 (fun x => vp_nar .char x) (kh 1)
  | .lastore => e_last st h (kh 1)
  | .dastore => e_dast st h (kh 1)
  | .aastore => e_aast st h (kh 1)
  | .getfield _ => e_get st h ns (kk 3)
  | .putfield _ => e_put st h ns (kh 3)
  | .invokevirtual _ => e_inv loc st h bc bs K Q pc ns
  | .invokestatic _ => e_ins loc st h bc bs K Q pc ns
  | .invokespecial _ => e_inp loc st h bc bs K pc ns
  | .new _ => e_new loc st h bc bs K Q pc ns
  | .newarray _ => e_nwa loc st h bc bs K pc ns
  | .anewarray _ => e_anw loc st h bc bs K pc
  | .ireturn => e_ret st h Q rt
  | .lreturn => e_retL st h Q rt
  | .dreturn => e_retD st h Q rt
  | .areturn => e_retA st h Q rt
  | .return_ => e_retV st h Q rt
  | _ => False
end EV2
/-- n instructions at the most, up to the places 'cut', where the goal is left -/
def e_run (k : Nat) (cd : List e_I) (rt : Option FieldType) (cut : List Nat) (Q : e_O → e_H → Prop) : Nat → Nat → List (Option Value) → List Value → e_H → Nat → Nat → Prop
  | 0, _, _, _, _, _, _ => False
  | n + 1, pc, loc, st, h, bc, bs => match e_find cd pc with
    | none => False
    | some en => e_stp loc st h bc bs (fun pc' loc' st' h' bc' bs' => bif cut.elem pc' then e_Wp k pc' loc' st' h' bc' bs' Q else e_run k cd rt cut Q n pc' loc' st' h' bc' bs') Q rt en
