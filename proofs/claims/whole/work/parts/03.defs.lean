/-! the abstract machine: values, heap, and how they lie in the machine's heap -/
/-- where the cells lie, what the external things are, the array classes, the classes and their slots -/
abbrev e_G : Type := (Nat → Nat) × (Nat → Value) × (Nat → ClassId) × va_G
/-- a cell: an object (class, what its fields hold), a row of numbers (kind, length), a row of references -/
abbrev e_C : Type := (Nat × List Value) ⊕ ((Nat × Nat) ⊕ (Nat × List (Option Nat)))
/-- the structure; the ints, the longs, the doubles of each cell; the script; whether no other cell came between -/
abbrev e_H : Type := List e_C × (Nat → Nat → Int32) × (Nat → Nat → Int64) × (Nat → Nat → UInt64) × (Nat × (Nat → Int32)) × Bool
abbrev e_lay (h : e_H) : List e_C := h.1
abbrev e_hI (h : e_H) : Nat → Nat → Int32 := h.2.1
abbrev e_hL (h : e_H) : Nat → Nat → Int64 := h.2.2.1
abbrev e_hD (h : e_H) : Nat → Nat → UInt64 := h.2.2.2.1
abbrev e_scr (h : e_H) : Nat × (Nat → Int32) := h.2.2.2.2.1
abbrev e_fl (h : e_H) : Bool := h.2.2.2.2.2
/-- how a call ends: it returns (with a value or without), or throws an exception of that class -/
abbrev e_O : Type := Option Value ⊕ String
/-- an instruction: its place, itself, its length; a value, numbers, places of words -/
abbrev e_I : Type := Nat × Instr × Nat × Value × List Nat × List (Nat × Nat)
def e_up {α : Type} (f : Nat → Nat → α) (c k : Nat) (x : α) : Nat → Nat → α := fun c' => if c' = c then (fun k' => if k' = k then x else f c k') else f c'
def e_row {α : Type} (f : Nat → Nat → α) (c : Nat) (r : Nat → α) : Nat → Nat → α := fun c' => if c' = c then r else f c'
def e_rel (g : e_G) : Value → Value
  | .ref k => .ref (g.1 k)
  | .retAddr k => g.2.1 k
  | v => v
def e_slot (g : e_G) (h : e_H) (c k : Nat) : Value → Value
  | .int _ => .int (e_hI h c k)
  | .long _ => .long (e_hL h c k)
  | v => e_rel g v
def e_cell (g : e_G) (h : e_H) (c : Nat) : e_C → va_E
  | .inl (ci, tm) => .inr (ci, tm.mapIdx (e_slot g h c))
  | .inr (.inl (tag, n)) => .inl (g.2.2.1 tag, n, if tag = 1 then .inr (.inl (e_hL h c)) else if tag = 3 then .inr (.inr (.inr (.inl (e_hD h c)))) else .inl (e_hI h c))
  | .inr (.inr (n, rs)) => .inl (g.2.2.1 4, n, .inr (.inr (.inr (.inr (fun i => (rs.getD i none).map g.1)))))
def e_ws (g : e_G) (h : e_H) : va_W := (e_lay h).mapIdx (fun c e => (g.1 c, e_cell g h c e))
def e_tyt : List FieldType := [.int, .long, .char, .double, .object "HexCampaign$Game"]
def e_tys (g : e_G) : List (ClassId × FieldType) := e_tyt.mapIdx (fun t ty => (g.2.2.1 t, ty))
theorem e_ws_get {g : e_G} {h : e_H} {c : Nat} {e : e_C} (hc : (e_lay h)[c]? = some e) : (e_ws g h)[c]? = some (g.1 c, e_cell g h c e) := by
  unfold e_ws
  rw [List.getElem?_mapIdx, hc]
  rfl
theorem e_ws_len {g : e_G} {h : e_H} : (e_ws g h).length = (e_lay h).length := by
  unfold e_ws
  rw [List.length_mapIdx]
theorem e_tys_get {g : e_G} {t : Nat} {ty : FieldType} (ht : e_tyt[t]? = some ty) : (e_tys g)[t]? = some (g.2.2.1 t, ty) := by
  unfold e_tys
  rw [List.getElem?_mapIdx, ht]
  rfl
/-- two heaps that agree but in one cell: the one world is the other with that cell set -/
theorem e_ws_set {g : e_G} {h h' : e_H} {c : Nat} {e' : e_C} {x : va_E} (hl : e_lay h' = (e_lay h).set c e') (hc : c < (e_lay h).length) (hx : e_cell g h' c e' = x)
    (ho : ∀ (d : Nat) (e : e_C), d ≠ c → e_cell g h' d e = e_cell g h d e) : e_ws g h' = (e_ws g h).set c (g.1 c, x) := by
  apply List.ext_getElem?
  intro d
  unfold e_ws
  rw [List.getElem?_mapIdx, hl, List.getElem?_set, List.getElem?_set, List.length_mapIdx, List.getElem?_mapIdx]
  by_cases hd : c = d
  · subst hd
    simp [hc, hx]
  · simp only [if_neg hd]
    cases hq : (e_lay h)[d]? with
    | none => rfl
    | some e => simp [ho d e (Ne.symm hd)]
theorem e_rel_cat {g : e_G} (hx : ∀ k, (g.2.1 k).category = 1) (v : Value) : (e_rel g v).category = v.category := by
  cases v <;> first | rfl | exact hx _
/-! locals -/
def e_as (g : e_G) (loc : List (Option Value)) : List (Nat × Value) := (List.range loc.length).filterMap (fun i => match loc[i]? with | some (some v) => some (i, e_rel g v) | _ => none)
theorem e_as_mem {g : e_G} {loc : List (Option Value)} {i : Nat} {w : Value} : (i, w) ∈ e_as g loc ↔ ∃ v, loc[i]? = some (some v) ∧ w = e_rel g v := by
  unfold e_as
  rw [List.mem_filterMap]
  constructor
  · rintro ⟨j, -, h⟩
    split at h
    · cases h
      exact ⟨_, by assumption, rfl⟩
    · cases h
  · rintro ⟨v, hv, rfl⟩
    refine ⟨i, ?_, by simp [hv]⟩
    rw [List.mem_range]
    exact (List.getElem?_eq_some_iff.mp hv).1
theorem e_lmono {ls : Array Slot} {n : Nat} {l l' : List (Nat × Value)} (h : lv_has ls n l) (hs : ∀ q ∈ l', q ∈ l) : lv_has ls n l' := ⟨h.1, h.2.1, fun q hq => h.2.2 q (hs q hq)⟩
theorem e_lget {g : e_G} {ls : Array Slot} {n : Nat} {loc : List (Option Value)} (h : lv_has ls n (e_as g loc)) {i : Nat} {v : Value} (hv : loc[i]? = some (some v)) : ls[i]? = some (.val (e_rel g v)) :=
  h.2.2 (i, e_rel g v) (e_as_mem.mpr ⟨v, hv, rfl⟩)
/-- what stands one place ahead goes, if it is a long or a double -/
def e_kill (loc : List (Option Value)) (i : Nat) : List (Option Value) := match i with
  | 0 => loc
  | j + 1 => match loc[j]? with
    | some (some w) => if w.category = 2 then loc.set j none else loc
    | _ => loc
def e_set1 (loc : List (Option Value)) (i : Nat) (v : Value) : List (Option Value) := (e_kill loc i).set i (some v)
def e_set2 (loc : List (Option Value)) (i : Nat) (v : Value) : List (Option Value) := ((e_kill loc i).set i (some v)).set (i + 1) none
theorem e_kill_len (loc : List (Option Value)) (i : Nat) : (e_kill loc i).length = loc.length := by
  unfold e_kill
  repeat' split
  all_goals first | rfl | simp
theorem e_set1_len (loc : List (Option Value)) (i : Nat) (v : Value) : (e_set1 loc i v).length = loc.length := by
  unfold e_set1
  rw [List.length_set, e_kill_len]
theorem e_set2_len (loc : List (Option Value)) (i : Nat) (v : Value) : (e_set2 loc i v).length = loc.length := by
  unfold e_set2
  rw [List.length_set, List.length_set, e_kill_len]
theorem e_kill_get {loc : List (Option Value)} {i j : Nat} {w : Value} (hj : (e_kill loc i)[j]? = some (some w)) : loc[j]? = some (some w) ∧ ¬ (j + 1 = i ∧ w.category = 2) := by
  cases i with
  | zero => exact ⟨hj, fun h => by omega⟩
  | succ i =>
    simp only [e_kill] at hj
    split at hj
    · rename_i u hu
      split at hj
      · rw [List.getElem?_set] at hj
        by_cases hij : i = j
        · subst hij
          simp at hj
        · rw [if_neg hij] at hj
          exact ⟨hj, fun h => by omega⟩
      · rename_i hc
        refine ⟨hj, fun h => ?_⟩
        have : j = i := by omega
        subst this
        rw [hu] at hj
        cases hj
        exact hc h.2
    · rename_i hn
      refine ⟨hj, fun h => ?_⟩
      have : j = i := by omega
      subst this
      exact hn w hj
theorem e_set1_sub {g : e_G} (hx : ∀ k, (g.2.1 k).category = 1) {loc : List (Option Value)} {i : Nat} {v : Value} : ∀ q ∈ e_as g (e_set1 loc i v), q ∈ (i, e_rel g v) :: (e_as g loc).filter (fun q => !(q.1 == i) && !(q.1 + 1 == i && q.2.category == 2)) := by
  rintro ⟨j, w⟩ hq
  obtain ⟨u, hu, rfl⟩ := e_as_mem.mp hq
  unfold e_set1 at hu
  rw [List.getElem?_set] at hu
  by_cases hij : i = j
  · subst hij
    rw [if_pos rfl] at hu
    split at hu
    · cases hu
      exact List.mem_cons_self
    · cases hu
  · rw [if_neg hij] at hu
    obtain ⟨h1, h2⟩ := e_kill_get hu
    refine List.mem_cons_of_mem _ (List.mem_filter.mpr ⟨e_as_mem.mpr ⟨u, h1, rfl⟩, ?_⟩)
    rw [e_rel_cat hx]
    simp only [Bool.and_eq_true, Bool.not_eq_true', beq_eq_false_iff_ne, Bool.and_eq_false_iff, ne_eq]
    refine ⟨Ne.symm hij, ?_⟩
    by_cases h3 : j + 1 = i
    · exact Or.inr (fun h => h2 ⟨h3, h⟩)
    · exact Or.inl h3
theorem e_set2_sub {g : e_G} (hx : ∀ k, (g.2.1 k).category = 1) {loc : List (Option Value)} {i : Nat} {v : Value} (hi : i + 1 < loc.length) : ∀ q ∈ e_as g (e_set2 loc i v), q ∈ (i, e_rel g v) :: (e_as g loc).filter (fun q => !(q.1 == i) && (!(q.1 == i + 1) && !(q.1 + 1 == i && q.2.category == 2))) := by
  rintro ⟨j, w⟩ hq
  obtain ⟨u, hu, rfl⟩ := e_as_mem.mp hq
  unfold e_set2 at hu
  rw [List.getElem?_set] at hu
  by_cases h5 : i + 1 = j
  · subst h5
    rw [if_pos rfl, List.length_set, e_kill_len, if_pos hi] at hu
    cases hu
  · rw [if_neg h5, List.getElem?_set] at hu
    by_cases hij : i = j
    · subst hij
      rw [if_pos rfl] at hu
      split at hu
      · cases hu
        exact List.mem_cons_self
      · cases hu
    · rw [if_neg hij] at hu
      obtain ⟨h1, h2⟩ := e_kill_get hu
      refine List.mem_cons_of_mem _ (List.mem_filter.mpr ⟨e_as_mem.mpr ⟨u, h1, rfl⟩, ?_⟩)
      rw [e_rel_cat hx]
      simp only [Bool.and_eq_true, Bool.not_eq_true', beq_eq_false_iff_ne, Bool.and_eq_false_iff, ne_eq]
      refine ⟨Ne.symm hij, Ne.symm h5, ?_⟩
      by_cases h3 : j + 1 = i
      · exact Or.inr (fun h => h2 ⟨h3, h⟩)
      · exact Or.inl h3
/-- the locals at the entry: the arguments, in order -/
def e_loc0 : List Value → List (Option Value)
  | [] => []
  | v :: vs => if v.category = 2 then some v :: none :: e_loc0 vs else some v :: e_loc0 vs
theorem e_loc0_sub {g : e_G} (hx : ∀ k, (g.2.1 k).category = 1) : ∀ (vs : List Value) (o : Nat) (i : Nat) (v : Value), (e_loc0 vs)[i]? = some (some v) → (o + i, e_rel g v) ∈ lv_args o (vs.map (e_rel g)) := by
  intro vs
  induction vs with
  | nil => intro o i v h; simp [e_loc0] at h
  | cons u vs ih =>
    intro o i v h
    simp only [List.map_cons, lv_args, e_rel_cat hx]
    unfold e_loc0 at h
    by_cases hc : u.category = 2
    · rw [if_pos hc] at h
      rw [if_pos hc]
      match i, h with
      | 0, h => simp at h; subst h; exact List.mem_cons_self
      | 1, h => simp at h
      | i + 2, h =>
        simp at h
        have := ih (o + 2) i v h
        rw [show o + 2 + i = o + (i + 2) by omega] at this
        exact List.mem_cons_of_mem _ this
    · rw [if_neg hc] at h
      rw [if_neg hc]
      match i, h with
      | 0, h => simp at h; subst h; exact List.mem_cons_self
      | i + 1, h =>
        simp at h
        have := ih (o + 1) i v h
        rw [show o + 1 + i = o + (i + 1) by omega] at this
        exact List.mem_cons_of_mem _ this
def e_entry (vs : List Value) (n : Nat) : List (Option Value) := e_loc0 vs ++ List.replicate (n - (e_loc0 vs).length) none
theorem e_loc0_len {g : e_G} (hx : ∀ k, (g.2.1 k).category = 1) (vs : List Value) : (lg_sl (vs.map (e_rel g))).length = (e_loc0 vs).length := by
  induction vs with
  | nil => rfl
  | cons u vs ih =>
    simp only [List.map_cons, lg_sl, List.flatMap_cons, e_rel_cat hx, e_loc0, List.length_append] at ih ⊢
    by_cases hc : u.category = 2
    · rw [if_pos hc, if_pos hc]
      simp only [List.length_cons, List.length_nil]
      have : (List.flatMap (fun v => if v.category = 2 then [Slot.val v, Slot.second] else [Slot.val v]) (List.map (e_rel g) vs)).length = (e_loc0 vs).length := ih
      omega
    · rw [if_neg hc, if_neg hc]
      simp only [List.length_cons, List.length_nil]
      have : (List.flatMap (fun v => if v.category = 2 then [Slot.val v, Slot.second] else [Slot.val v]) (List.map (e_rel g) vs)).length = (e_loc0 vs).length := ih
      omega
theorem e_entry_has {g : e_G} (hx : ∀ k, (g.2.1 k).category = 1) (vs : List Value) {n : Nat} (h : (e_loc0 vs).length ≤ n) : lv_has ((lg_sl (vs.map (e_rel g)) ++ List.replicate (n - (lg_sl (vs.map (e_rel g))).length) Slot.unset).toArray) n (e_as g (e_entry vs n)) := by
  refine e_lmono (lv_entry (vs.map (e_rel g)) (n := n) (by rw [e_loc0_len hx]; exact h)) ?_
  rintro ⟨i, w⟩ hq
  obtain ⟨v, hv, rfl⟩ := e_as_mem.mp hq
  unfold e_entry at hv
  by_cases hi : i < (e_loc0 vs).length
  · rw [List.getElem?_append_left hi] at hv
    have := e_loc0_sub hx vs 0 i v hv
    rwa [Nat.zero_add] at this
  · rw [List.getElem?_append_right (by omega), List.getElem?_replicate] at hv
    split at hv <;> simp at hv
theorem e_entry_len (vs : List Value) {n : Nat} (h : (e_loc0 vs).length ≤ n) : (e_entry vs n).length = n := by
  unfold e_entry
  rw [List.length_append, List.length_replicate]
  omega
