/-! a method by its number -/
def e_md (k : Nat) : e_MD := e_prog.getD k e_m0
abbrev e_nm (k : Nat) : MethodName := (e_md k).1
abbrev e_mb (k : Nat) : ByteArray := (e_md k).2.1
abbrev e_ml (k : Nat) : Nat := (e_md k).2.2.1
abbrev e_rt (k : Nat) : Option FieldType := (e_md k).2.2.2.1
abbrev e_hh (k : Nat) : List (Nat × Nat × Nat × Nat) := (e_md k).2.2.2.2.1
abbrev e_cd (k : Nat) : List e_I := (e_md k).2.2.2.2.2
def e_rm (k : Nat) : Nat × Nat × Nat × Nat := e_room.getD k (0, 0, 0, 0)
abbrev e_dd (k : Nat) : Nat := (e_rm k).1
abbrev e_ll (k : Nat) : Nat := (e_rm k).2.1
abbrev e_cc (k : Nat) : Nat := (e_rm k).2.2.1
abbrev e_cs (k : Nat) : Nat := (e_rm k).2.2.2
def e_find : List e_I → Nat → Option e_I
  | [], _ => none
  | e :: r, pc => bif Nat.beq e.1 pc then some e else e_find r pc
