/-! the heap after the constructors; small rows that the printed trees use -/
def lay0 : List e_C := [.inl (8, [.ref 1, .ref 2, .ref 24, .int 0, .ref 36, .ref 134, .ref 137]),
  .inl (4, [.ref 2, .ref 3, .ref 6, .ref 14, .ref 19]),
  .inl (2, [.ref 3, .ref 6, .int 0, .int 0, .int 0, .int 0, .int 0, .int 0, .int 0]),
  .inl (0, [.ref 4, .ref 5, .long 0]),
  .inr (.inl (1, 6)),
  .inr (.inl (1, 2)),
  .inl (1, [.int 0, .int 0, .int 0, .int 0, .int 0, .ref 7, .ref 8, .ref 9, .ref 10, .ref 11, .ref 12, .ref 13]),
  .inr (.inl (0, 16)),
  .inr (.inl (0, 16)),
  .inr (.inl (0, 16)),
  .inr (.inl (0, 2)),
  .inr (.inl (0, 2)),
  .inr (.inl (0, 2)),
  .inr (.inl (0, 2)),
  .inl (3, [.ref 15, .ref 16, .ref 17, .ref 18, .int 0, .long 0, .long 0, .long 0]),
  .inr (.inl (1, 373)),
  .inr (.inl (1, 373)),
  .inr (.inl (1, 7)),
  .inr (.inl (0, 63)),
  .inl (3, [.ref 20, .ref 21, .ref 22, .ref 23, .int 0, .long 0, .long 0, .long 0]),
  .inr (.inl (1, 373)),
  .inr (.inl (1, 373)),
  .inr (.inl (1, 7)),
  .inr (.inl (0, 63)),
  .inl (2, [.ref 25, .ref 28, .int 0, .int 0, .int 0, .int 0, .int 0, .int 0, .int 0]),
  .inl (0, [.ref 26, .ref 27, .long 0]),
  .inr (.inl (1, 6)),
  .inr (.inl (1, 2)),
  .inl (1, [.int 0, .int 0, .int 0, .int 0, .int 0, .ref 29, .ref 30, .ref 31, .ref 32, .ref 33, .ref 34, .ref 35]),
  .inr (.inl (0, 16)),
  .inr (.inl (0, 16)),
  .inr (.inl (0, 16)),
  .inr (.inl (0, 2)),
  .inr (.inl (0, 2)),
  .inr (.inl (0, 2)),
  .inr (.inl (0, 2)),
  .inl (5, [.ref 37, .int 0, .int 0]),
  .inr (.inr (8, [some 38, some 50, some 62, some 74, some 86, some 98, some 110, some 122])),
  .inl (2, [.ref 39, .ref 42, .int 0, .int 0, .int 0, .int 0, .int 0, .int 0, .int 0]),
  .inl (0, [.ref 40, .ref 41, .long 0]),
  .inr (.inl (1, 6)),
  .inr (.inl (1, 2)),
  .inl (1, [.int 0, .int 0, .int 0, .int 0, .int 0, .ref 43, .ref 44, .ref 45, .ref 46, .ref 47, .ref 48, .ref 49]),
  .inr (.inl (0, 16)),
  .inr (.inl (0, 16)),
  .inr (.inl (0, 16)),
  .inr (.inl (0, 2)),
  .inr (.inl (0, 2)),
  .inr (.inl (0, 2)),
  .inr (.inl (0, 2)),
  .inl (2, [.ref 51, .ref 54, .int 0, .int 0, .int 0, .int 0, .int 0, .int 0, .int 0]),
  .inl (0, [.ref 52, .ref 53, .long 0]),
  .inr (.inl (1, 6)),
  .inr (.inl (1, 2)),
  .inl (1, [.int 0, .int 0, .int 0, .int 0, .int 0, .ref 55, .ref 56, .ref 57, .ref 58, .ref 59, .ref 60, .ref 61]),
  .inr (.inl (0, 16)),
  .inr (.inl (0, 16)),
  .inr (.inl (0, 16)),
  .inr (.inl (0, 2)),
  .inr (.inl (0, 2)),
  .inr (.inl (0, 2)),
  .inr (.inl (0, 2)),
  .inl (2, [.ref 63, .ref 66, .int 0, .int 0, .int 0, .int 0, .int 0, .int 0, .int 0]),
  .inl (0, [.ref 64, .ref 65, .long 0]),
  .inr (.inl (1, 6)),
  .inr (.inl (1, 2)),
  .inl (1, [.int 0, .int 0, .int 0, .int 0, .int 0, .ref 67, .ref 68, .ref 69, .ref 70, .ref 71, .ref 72, .ref 73]),
  .inr (.inl (0, 16)),
  .inr (.inl (0, 16)),
  .inr (.inl (0, 16)),
  .inr (.inl (0, 2)),
  .inr (.inl (0, 2)),
  .inr (.inl (0, 2)),
  .inr (.inl (0, 2)),
  .inl (2, [.ref 75, .ref 78, .int 0, .int 0, .int 0, .int 0, .int 0, .int 0, .int 0]),
  .inl (0, [.ref 76, .ref 77, .long 0]),
  .inr (.inl (1, 6)),
  .inr (.inl (1, 2)),
  .inl (1, [.int 0, .int 0, .int 0, .int 0, .int 0, .ref 79, .ref 80, .ref 81, .ref 82, .ref 83, .ref 84, .ref 85]),
  .inr (.inl (0, 16)),
  .inr (.inl (0, 16)),
  .inr (.inl (0, 16)),
  .inr (.inl (0, 2)),
  .inr (.inl (0, 2)),
  .inr (.inl (0, 2)),
  .inr (.inl (0, 2)),
  .inl (2, [.ref 87, .ref 90, .int 0, .int 0, .int 0, .int 0, .int 0, .int 0, .int 0]),
  .inl (0, [.ref 88, .ref 89, .long 0]),
  .inr (.inl (1, 6)),
  .inr (.inl (1, 2)),
  .inl (1, [.int 0, .int 0, .int 0, .int 0, .int 0, .ref 91, .ref 92, .ref 93, .ref 94, .ref 95, .ref 96, .ref 97]),
  .inr (.inl (0, 16)),
  .inr (.inl (0, 16)),
  .inr (.inl (0, 16)),
  .inr (.inl (0, 2)),
  .inr (.inl (0, 2)),
  .inr (.inl (0, 2)),
  .inr (.inl (0, 2)),
  .inl (2, [.ref 99, .ref 102, .int 0, .int 0, .int 0, .int 0, .int 0, .int 0, .int 0]),
  .inl (0, [.ref 100, .ref 101, .long 0]),
  .inr (.inl (1, 6)),
  .inr (.inl (1, 2)),
  .inl (1, [.int 0, .int 0, .int 0, .int 0, .int 0, .ref 103, .ref 104, .ref 105, .ref 106, .ref 107, .ref 108, .ref 109]),
  .inr (.inl (0, 16)),
  .inr (.inl (0, 16)),
  .inr (.inl (0, 16)),
  .inr (.inl (0, 2)),
  .inr (.inl (0, 2)),
  .inr (.inl (0, 2)),
  .inr (.inl (0, 2)),
  .inl (2, [.ref 111, .ref 114, .int 0, .int 0, .int 0, .int 0, .int 0, .int 0, .int 0]),
  .inl (0, [.ref 112, .ref 113, .long 0]),
  .inr (.inl (1, 6)),
  .inr (.inl (1, 2)),
  .inl (1, [.int 0, .int 0, .int 0, .int 0, .int 0, .ref 115, .ref 116, .ref 117, .ref 118, .ref 119, .ref 120, .ref 121]),
  .inr (.inl (0, 16)),
  .inr (.inl (0, 16)),
  .inr (.inl (0, 16)),
  .inr (.inl (0, 2)),
  .inr (.inl (0, 2)),
  .inr (.inl (0, 2)),
  .inr (.inl (0, 2)),
  .inl (2, [.ref 123, .ref 126, .int 0, .int 0, .int 0, .int 0, .int 0, .int 0, .int 0]),
  .inl (0, [.ref 124, .ref 125, .long 0]),
  .inr (.inl (1, 6)),
  .inr (.inl (1, 2)),
  .inl (1, [.int 0, .int 0, .int 0, .int 0, .int 0, .ref 127, .ref 128, .ref 129, .ref 130, .ref 131, .ref 132, .ref 133]),
  .inr (.inl (0, 16)),
  .inr (.inl (0, 16)),
  .inr (.inl (0, 16)),
  .inr (.inl (0, 2)),
  .inr (.inl (0, 2)),
  .inr (.inl (0, 2)),
  .inr (.inl (0, 2)),
  .inl (6, [.ref 135, .ref 136, .int 0]),
  .inr (.inl (0, 3)),
  .inr (.inl (0, 3)),
  .inl (7, [.ref 138, .int 0]),
  .inr (.inl (2, 80)),
  .inl (9, [.ref 140, .ref 141, .int 0, .ref 142, .int 0, .int 0, .ref 143, .ref 144, .long 0, .long 0, .long 0, .int 0, .ref 145, .int 0, .ref 146, .int 0, .ref 147, .int 0]),
  .inr (.inl (0, 301)),
  .inr (.inl (0, 301)),
  .inr (.inl (0, 2408)),
  .inr (.inl (0, 63)),
  .inr (.inl (0, 63)),
  .inr (.inl (0, 63)),
  .inr (.inl (0, 6)),
  .inr (.inl (2, 80)),
  .inr (.inl (1, 1)),
  .inr (.inl (3, 1))]
/-- the heap of the class and of the reference, once both stand: its numbers -/
abbrev S0 (I : Nat → Nat → Int32) (L : Nat → Nat → Int64) (D : Nat → Nat → UInt64) (sc : Nat × (Nat → Int32)) : e_H := (lay0, I, L, D, sc, false)
/-- the static rows -/
def e_xt (a i : Nat) : Int32 := (e_sts.getD (a - 10) ("", "", [])).2.2.getD i 0
theorem e_vin {i : Int32} {n : Nat} (h : (!(decide (i < 0)) && Nat.ble (i.toNatClampNeg + 1) n) = true) : vp_in i n := by
  simp only [Bool.and_eq_true, Bool.not_eq_true', decide_eq_false_iff_not] at h
  exact fun h2 => h2.elim h.1 (fun h3 => Nat.not_succ_le_self _ (Nat.le_trans (Nat.le_of_ble_eq_true h.2) h3))
/-- a truth value as the machine has it -/
def e_b (b : Bool) : Int32 := if b then 1 else 0
theorem e_b0 {b : Bool} : e_b b = 0 ↔ b = false := by cases b <;> decide
theorem e_b0n {b : Bool} (h : ¬ e_b b = 0) : ¬ b = false := mt e_b0.mpr h
theorem e_b1 {b : Bool} : ¬ e_b b = 0 ↔ b = true := by cases b <;> decide
theorem e_b1n {b : Bool} (h : ¬ ¬ e_b b = 0) : ¬ b = true := mt e_b1.mpr h
theorem e_b01 (b : Bool) : e_b b = 0 ∨ e_b b = 1 := by cases b <;> decide
theorem e_cne {x y : Int64} (h : ¬ ¬ lg_cmp x y = 0) : ¬ ¬ x = y := fun h2 => h (mt (lg_cmp_eq _ _).mp h2)
theorem e_ln0 {vs : List Value} {n m : Nat} (h : (e_loc0 vs).length = m := by rfl) (h2 : Nat.ble m n = true := by rfl) : (e_loc0 vs).length ≤ n := by
  rw [h]
  exact Nat.le_of_ble_eq_true h2
theorem e_k0 : e_chk 0 := ⟨e_ok0, e_wk0⟩
theorem e_k1 : e_chk 1 := ⟨e_ok1, e_wk1⟩
theorem e_k2 : e_chk 2 := ⟨e_ok2, e_wk2⟩
theorem e_k3 : e_chk 3 := ⟨e_ok3, e_wk3⟩
theorem e_k4 : e_chk 4 := ⟨e_ok4, e_wk4⟩
theorem e_k5 : e_chk 5 := ⟨e_ok5, e_wk5⟩
theorem e_k6 : e_chk 6 := ⟨e_ok6, e_wk6⟩
theorem e_k7 : e_chk 7 := ⟨e_ok7, e_wk7⟩
theorem e_k8 : e_chk 8 := ⟨e_ok8, e_wk8⟩
theorem e_k9 : e_chk 9 := ⟨e_ok9, e_wk9⟩
theorem e_k10 : e_chk 10 := ⟨e_ok10, e_wk10⟩
theorem e_k11 : e_chk 11 := ⟨e_ok11, e_wk11⟩
theorem e_k12 : e_chk 12 := ⟨e_ok12, e_wk12⟩
theorem e_k13 : e_chk 13 := ⟨e_ok13, e_wk13⟩
theorem e_k14 : e_chk 14 := ⟨e_ok14, e_wk14⟩
theorem e_k15 : e_chk 15 := ⟨e_ok15, e_wk15⟩
theorem e_k16 : e_chk 16 := ⟨e_ok16, e_wk16⟩
theorem e_k17 : e_chk 17 := ⟨e_ok17, e_wk17⟩
theorem e_k18 : e_chk 18 := ⟨e_ok18, e_wk18⟩
theorem e_k19 : e_chk 19 := ⟨e_ok19, e_wk19⟩
theorem e_k20 : e_chk 20 := ⟨e_ok20, e_wk20⟩
theorem e_k21 : e_chk 21 := ⟨e_ok21, e_wk21⟩
theorem e_k22 : e_chk 22 := ⟨e_ok22, e_wk22⟩
theorem e_k23 : e_chk 23 := ⟨e_ok23, e_wk23⟩
theorem e_k24 : e_chk 24 := ⟨e_ok24, e_wk24⟩
theorem e_k25 : e_chk 25 := ⟨e_ok25, e_wk25⟩
theorem e_k26 : e_chk 26 := ⟨e_ok26, e_wk26⟩
theorem e_k27 : e_chk 27 := ⟨e_ok27, e_wk27⟩
theorem e_k28 : e_chk 28 := ⟨e_ok28, e_wk28⟩
theorem e_k29 : e_chk 29 := ⟨e_ok29, e_wk29⟩
theorem e_k30 : e_chk 30 := ⟨e_ok30, e_wk30⟩
theorem e_k31 : e_chk 31 := ⟨e_ok31, e_wk31⟩
theorem e_k32 : e_chk 32 := ⟨e_ok32, e_wk32⟩
theorem e_k33 : e_chk 33 := ⟨e_ok33, e_wk33⟩
theorem e_k34 : e_chk 34 := ⟨e_ok34, e_wk34⟩
theorem e_k35 : e_chk 35 := ⟨e_ok35, e_wk35⟩
theorem e_k36 : e_chk 36 := ⟨e_ok36, e_wk36⟩
theorem e_k37 : e_chk 37 := ⟨e_ok37, e_wk37⟩
theorem e_k38 : e_chk 38 := ⟨e_ok38, e_wk38⟩
theorem e_k39 : e_chk 39 := ⟨e_ok39, e_wk39⟩
theorem e_k40 : e_chk 40 := ⟨e_ok40, e_wk40⟩
theorem e_k41 : e_chk 41 := ⟨e_ok41, e_wk41⟩
theorem e_k42 : e_chk 42 := ⟨e_ok42, e_wk42⟩
theorem e_k43 : e_chk 43 := ⟨e_ok43, e_wk43⟩
theorem e_k44 : e_chk 44 := ⟨e_ok44, e_wk44⟩
theorem e_k45 : e_chk 45 := ⟨e_ok45, e_wk45⟩
theorem e_k46 : e_chk 46 := ⟨e_ok46, e_wk46⟩
theorem e_k47 : e_chk 47 := ⟨e_ok47, e_wk47⟩
theorem e_k48 : e_chk 48 := ⟨e_ok48, e_wk48⟩
theorem e_k49 : e_chk 49 := ⟨e_ok49, e_wk49⟩
theorem e_k50 : e_chk 50 := ⟨e_ok50, e_wk50⟩
theorem e_k51 : e_chk 51 := ⟨e_ok51, e_wk51⟩
theorem e_k52 : e_chk 52 := ⟨e_ok52, e_wk52⟩
theorem e_k53 : e_chk 53 := ⟨e_ok53, e_wk53⟩
theorem e_k54 : e_chk 54 := ⟨e_ok54, e_wk54⟩
theorem e_k55 : e_chk 55 := ⟨e_ok55, e_wk55⟩
theorem e_k56 : e_chk 56 := ⟨e_ok56, e_wk56⟩
theorem e_k57 : e_chk 57 := ⟨e_ok57, e_wk57⟩
theorem e_k58 : e_chk 58 := ⟨e_ok58, e_wk58⟩
theorem e_k59 : e_chk 59 := ⟨e_ok59, e_wk59⟩
theorem e_k60 : e_chk 60 := ⟨e_ok60, e_wk60⟩
theorem e_k61 : e_chk 61 := ⟨e_ok61, e_wk61⟩
theorem e_k62 : e_chk 62 := ⟨e_ok62, e_wk62⟩
theorem e_k63 : e_chk 63 := ⟨e_ok63, e_wk63⟩
theorem e_k64 : e_chk 64 := ⟨e_ok64, e_wk64⟩
theorem e_k65 : e_chk 65 := ⟨e_ok65, e_wk65⟩
theorem e_k66 : e_chk 66 := ⟨e_ok66, e_wk66⟩
theorem e_k67 : e_chk 67 := ⟨e_ok67, e_wk67⟩
theorem e_k68 : e_chk 68 := ⟨e_ok68, e_wk68⟩
theorem e_k69 : e_chk 69 := ⟨e_ok69, e_wk69⟩
theorem e_k70 : e_chk 70 := ⟨e_ok70, e_wk70⟩
theorem e_k71 : e_chk 71 := ⟨e_ok71, e_wk71⟩
theorem e_k72 : e_chk 72 := ⟨e_ok72, e_wk72⟩
theorem e_k73 : e_chk 73 := ⟨e_ok73, e_wk73⟩
theorem e_k74 : e_chk 74 := ⟨e_ok74, e_wk74⟩
theorem e_k75 : e_chk 75 := ⟨e_ok75, e_wk75⟩
theorem e_k76 : e_chk 76 := ⟨e_ok76, e_wk76⟩
theorem e_k77 : e_chk 77 := ⟨e_ok77, e_wk77⟩
theorem e_k78 : e_chk 78 := ⟨e_ok78, e_wk78⟩
theorem e_k79 : e_chk 79 := ⟨e_ok79, e_wk79⟩
theorem e_k80 : e_chk 80 := ⟨e_ok80, e_wk80⟩
theorem e_k81 : e_chk 81 := ⟨e_ok81, e_wk81⟩
theorem e_k82 : e_chk 82 := ⟨e_ok82, e_wk82⟩
theorem e_k83 : e_chk 83 := ⟨e_ok83, e_wk83⟩
theorem e_k84 : e_chk 84 := ⟨e_ok84, e_wk84⟩
theorem e_k85 : e_chk 85 := ⟨e_ok85, e_wk85⟩
theorem e_k86 : e_chk 86 := ⟨e_ok86, e_wk86⟩
theorem e_k87 : e_chk 87 := ⟨e_ok87, e_wk87⟩
theorem e_k88 : e_chk 88 := ⟨e_ok88, e_wk88⟩
theorem e_k89 : e_chk 89 := ⟨e_ok89, e_wk89⟩
theorem e_k90 : e_chk 90 := ⟨e_ok90, e_wk90⟩
theorem e_k91 : e_chk 91 := ⟨e_ok91, e_wk91⟩
theorem e_k92 : e_chk 92 := ⟨e_ok92, e_wk92⟩
theorem e_k93 : e_chk 93 := ⟨e_ok93, e_wk93⟩
theorem e_k94 : e_chk 94 := ⟨e_ok94, e_wk94⟩
theorem e_k95 : e_chk 95 := ⟨e_ok95, e_wk95⟩
theorem e_k96 : e_chk 96 := ⟨e_ok96, e_wk96⟩
theorem e_k97 : e_chk 97 := ⟨e_ok97, e_wk97⟩
theorem e_k98 : e_chk 98 := ⟨e_ok98, e_wk98⟩
theorem e_k99 : e_chk 99 := ⟨e_ok99, e_wk99⟩
theorem e_k100 : e_chk 100 := ⟨e_ok100, e_wk100⟩
theorem e_k101 : e_chk 101 := ⟨e_ok101, e_wk101⟩
theorem e_k102 : e_chk 102 := ⟨e_ok102, e_wk102⟩
theorem e_k103 : e_chk 103 := ⟨e_ok103, e_wk103⟩
theorem e_k104 : e_chk 104 := ⟨e_ok104, e_wk104⟩
theorem e_k105 : e_chk 105 := ⟨e_ok105, e_wk105⟩
theorem e_k106 : e_chk 106 := ⟨e_ok106, e_wk106⟩
theorem e_k107 : e_chk 107 := ⟨e_ok107, e_wk107⟩
theorem e_k108 : e_chk 108 := ⟨e_ok108, e_wk108⟩
theorem e_k109 : e_chk 109 := ⟨e_ok109, e_wk109⟩
theorem e_k110 : e_chk 110 := ⟨e_ok110, e_wk110⟩
theorem e_k111 : e_chk 111 := ⟨e_ok111, e_wk111⟩
theorem e_k112 : e_chk 112 := ⟨e_ok112, e_wk112⟩
theorem e_k113 : e_chk 113 := ⟨e_ok113, e_wk113⟩
theorem e_k114 : e_chk 114 := ⟨e_ok114, e_wk114⟩
theorem e_k115 : e_chk 115 := ⟨e_ok115, e_wk115⟩
theorem e_k116 : e_chk 116 := ⟨e_ok116, e_wk116⟩
theorem e_k117 : e_chk 117 := ⟨e_ok117, e_wk117⟩
theorem e_k118 : e_chk 118 := ⟨e_ok118, e_wk118⟩
theorem e_k119 : e_chk 119 := ⟨e_ok119, e_wk119⟩
theorem e_k120 : e_chk 120 := ⟨e_ok120, e_wk120⟩
theorem e_k121 : e_chk 121 := ⟨e_ok121, e_wk121⟩
theorem e_k122 : e_chk 122 := ⟨e_ok122, e_wk122⟩
theorem e_k123 : e_chk 123 := ⟨e_ok123, e_wk123⟩
theorem e_k124 : e_chk 124 := ⟨e_ok124, e_wk124⟩
theorem e_k125 : e_chk 125 := ⟨e_ok125, e_wk125⟩
theorem e_k126 : e_chk 126 := ⟨e_ok126, e_wk126⟩
theorem e_k127 : e_chk 127 := ⟨e_ok127, e_wk127⟩
theorem e_k128 : e_chk 128 := ⟨e_ok128, e_wk128⟩
theorem e_k129 : e_chk 129 := ⟨e_ok129, e_wk129⟩
theorem e_k130 : e_chk 130 := ⟨e_ok130, e_wk130⟩
theorem e_k131 : e_chk 131 := ⟨e_ok131, e_wk131⟩
theorem e_k132 : e_chk 132 := ⟨e_ok132, e_wk132⟩
theorem e_k133 : e_chk 133 := ⟨e_ok133, e_wk133⟩
theorem e_k134 : e_chk 134 := ⟨e_ok134, e_wk134⟩
theorem e_k135 : e_chk 135 := ⟨e_ok135, e_wk135⟩
theorem e_k136 : e_chk 136 := ⟨e_ok136, e_wk136⟩
theorem e_k137 : e_chk 137 := ⟨e_ok137, e_wk137⟩
theorem e_k138 : e_chk 138 := ⟨e_ok138, e_wk138⟩
theorem e_k139 : e_chk 139 := ⟨e_ok139, e_wk139⟩
theorem e_k140 : e_chk 140 := ⟨e_ok140, e_wk140⟩
theorem e_k141 : e_chk 141 := ⟨e_ok141, e_wk141⟩
theorem e_k142 : e_chk 142 := ⟨e_ok142, e_wk142⟩
theorem e_k143 : e_chk 143 := ⟨e_ok143, e_wk143⟩
theorem e_k144 : e_chk 144 := ⟨e_ok144, e_wk144⟩
theorem e_k145 : e_chk 145 := ⟨e_ok145, e_wk145⟩
theorem e_k146 : e_chk 146 := ⟨e_ok146, e_wk146⟩
theorem e_k147 : e_chk 147 := ⟨e_ok147, e_wk147⟩
theorem e_k148 : e_chk 148 := ⟨e_ok148, e_wk148⟩
theorem e_k149 : e_chk 149 := ⟨e_ok149, e_wk149⟩
theorem e_k150 : e_chk 150 := ⟨e_ok150, e_wk150⟩
theorem e_k151 : e_chk 151 := ⟨e_ok151, e_wk151⟩
theorem e_k152 : e_chk 152 := ⟨e_ok152, e_wk152⟩
theorem e_k153 : e_chk 153 := ⟨e_ok153, e_wk153⟩
theorem e_k154 : e_chk 154 := ⟨e_ok154, e_wk154⟩
theorem e_k155 : e_chk 155 := ⟨e_ok155, e_wk155⟩
theorem e_k156 : e_chk 156 := ⟨e_ok156, e_wk156⟩
theorem e_k157 : e_chk 157 := ⟨e_ok157, e_wk157⟩
theorem e_k158 : e_chk 158 := ⟨e_ok158, e_wk158⟩
theorem e_k159 : e_chk 159 := ⟨e_ok159, e_wk159⟩
theorem e_k160 : e_chk 160 := ⟨e_ok160, e_wk160⟩
theorem e_k161 : e_chk 161 := ⟨e_ok161, e_wk161⟩
theorem e_k162 : e_chk 162 := ⟨e_ok162, e_wk162⟩
theorem e_k163 : e_chk 163 := ⟨e_ok163, e_wk163⟩
theorem e_k164 : e_chk 164 := ⟨e_ok164, e_wk164⟩
theorem e_k165 : e_chk 165 := ⟨e_ok165, e_wk165⟩
theorem e_k166 : e_chk 166 := ⟨e_ok166, e_wk166⟩
theorem e_k167 : e_chk 167 := ⟨e_ok167, e_wk167⟩
theorem e_k168 : e_chk 168 := ⟨e_ok168, e_wk168⟩
theorem e_k169 : e_chk 169 := ⟨e_ok169, e_wk169⟩
theorem e_k170 : e_chk 170 := ⟨e_ok170, e_wk170⟩
theorem e_k171 : e_chk 171 := ⟨e_ok171, e_wk171⟩
theorem e_k172 : e_chk 172 := ⟨e_ok172, e_wk172⟩
theorem e_k173 : e_chk 173 := ⟨e_ok173, e_wk173⟩
theorem e_k174 : e_chk 174 := ⟨e_ok174, e_wk174⟩
theorem e_k175 : e_chk 175 := ⟨e_ok175, e_wk175⟩
theorem e_k176 : e_chk 176 := ⟨e_ok176, e_wk176⟩
theorem e_k177 : e_chk 177 := ⟨e_ok177, e_wk177⟩
theorem e_k178 : e_chk 178 := ⟨e_ok178, e_wk178⟩
theorem e_k179 : e_chk 179 := ⟨e_ok179, e_wk179⟩
theorem e_k180 : e_chk 180 := ⟨e_ok180, e_wk180⟩
theorem e_k181 : e_chk 181 := ⟨e_ok181, e_wk181⟩
theorem e_k182 : e_chk 182 := ⟨e_ok182, e_wk182⟩
theorem e_k183 : e_chk 183 := ⟨e_ok183, e_wk183⟩
theorem e_k184 : e_chk 184 := ⟨e_ok184, e_wk184⟩
theorem e_k185 : e_chk 185 := ⟨e_ok185, e_wk185⟩
theorem e_k186 : e_chk 186 := ⟨e_ok186, e_wk186⟩
theorem e_k187 : e_chk 187 := ⟨e_ok187, e_wk187⟩
theorem e_k188 : e_chk 188 := ⟨e_ok188, e_wk188⟩
theorem e_k189 : e_chk 189 := ⟨e_ok189, e_wk189⟩
theorem e_k190 : e_chk 190 := ⟨e_ok190, e_wk190⟩
theorem e_k191 : e_chk 191 := ⟨e_ok191, e_wk191⟩
theorem e_k192 : e_chk 192 := ⟨e_ok192, e_wk192⟩
theorem e_k193 : e_chk 193 := ⟨e_ok193, e_wk193⟩
theorem e_k194 : e_chk 194 := ⟨e_ok194, e_wk194⟩
theorem e_k195 : e_chk 195 := ⟨e_ok195, e_wk195⟩
theorem e_k196 : e_chk 196 := ⟨e_ok196, e_wk196⟩
theorem e_k197 : e_chk 197 := ⟨e_ok197, e_wk197⟩
theorem e_k198 : e_chk 198 := ⟨e_ok198, e_wk198⟩
theorem e_k199 : e_chk 199 := ⟨e_ok199, e_wk199⟩
theorem e_k200 : e_chk 200 := ⟨e_ok200, e_wk200⟩
theorem e_k201 : e_chk 201 := ⟨e_ok201, e_wk201⟩
theorem e_k202 : e_chk 202 := ⟨e_ok202, e_wk202⟩
theorem e_k203 : e_chk 203 := ⟨e_ok203, e_wk203⟩
theorem e_k204 : e_chk 204 := ⟨e_ok204, e_wk204⟩
theorem e_k205 : e_chk 205 := ⟨e_ok205, e_wk205⟩
theorem e_k206 : e_chk 206 := ⟨e_ok206, e_wk206⟩
theorem e_k207 : e_chk 207 := ⟨e_ok207, e_wk207⟩
theorem e_k208 : e_chk 208 := ⟨e_ok208, e_wk208⟩
theorem e_k209 : e_chk 209 := ⟨e_ok209, e_wk209⟩
theorem e_k210 : e_chk 210 := ⟨e_ok210, e_wk210⟩
theorem e_k211 : e_chk 211 := ⟨e_ok211, e_wk211⟩
theorem e_k212 : e_chk 212 := ⟨e_ok212, e_wk212⟩
theorem e_k213 : e_chk 213 := ⟨e_ok213, e_wk213⟩
theorem e_k214 : e_chk 214 := ⟨e_ok214, e_wk214⟩
theorem e_k215 : e_chk 215 := ⟨e_ok215, e_wk215⟩
theorem e_k216 : e_chk 216 := ⟨e_ok216, e_wk216⟩
theorem e_k217 : e_chk 217 := ⟨e_ok217, e_wk217⟩
theorem e_k218 : e_chk 218 := ⟨e_ok218, e_wk218⟩
theorem e_k219 : e_chk 219 := ⟨e_ok219, e_wk219⟩
theorem e_k220 : e_chk 220 := ⟨e_ok220, e_wk220⟩
theorem e_k221 : e_chk 221 := ⟨e_ok221, e_wk221⟩
theorem e_k222 : e_chk 222 := ⟨e_ok222, e_wk222⟩
theorem e_k223 : e_chk 223 := ⟨e_ok223, e_wk223⟩
theorem e_k224 : e_chk 224 := ⟨e_ok224, e_wk224⟩
theorem e_k225 : e_chk 225 := ⟨e_ok225, e_wk225⟩
theorem e_k226 : e_chk 226 := ⟨e_ok226, e_wk226⟩
theorem e_k227 : e_chk 227 := ⟨e_ok227, e_wk227⟩
theorem e_k228 : e_chk 228 := ⟨e_ok228, e_wk228⟩
theorem e_k229 : e_chk 229 := ⟨e_ok229, e_wk229⟩
theorem e_k230 : e_chk 230 := ⟨e_ok230, e_wk230⟩
theorem e_k231 : e_chk 231 := ⟨e_ok231, e_wk231⟩
theorem e_k232 : e_chk 232 := ⟨e_ok232, e_wk232⟩
theorem e_k233 : e_chk 233 := ⟨e_ok233, e_wk233⟩
theorem e_k234 : e_chk 234 := ⟨e_ok234, e_wk234⟩
theorem e_k235 : e_chk 235 := ⟨e_ok235, e_wk235⟩
theorem e_k236 : e_chk 236 := ⟨e_ok236, e_wk236⟩
theorem e_k237 : e_chk 237 := ⟨e_ok237, e_wk237⟩
theorem e_k238 : e_chk 238 := ⟨e_ok238, e_wk238⟩
theorem e_k239 : e_chk 239 := ⟨e_ok239, e_wk239⟩
theorem e_k240 : e_chk 240 := ⟨e_ok240, e_wk240⟩
theorem e_k241 : e_chk 241 := ⟨e_ok241, e_wk241⟩
theorem e_k242 : e_chk 242 := ⟨e_ok242, e_wk242⟩
theorem e_k243 : e_chk 243 := ⟨e_ok243, e_wk243⟩
theorem e_k244 : e_chk 244 := ⟨e_ok244, e_wk244⟩
theorem e_k245 : e_chk 245 := ⟨e_ok245, e_wk245⟩
theorem e_k246 : e_chk 246 := ⟨e_ok246, e_wk246⟩
theorem e_k247 : e_chk 247 := ⟨e_ok247, e_wk247⟩
theorem e_k248 : e_chk 248 := ⟨e_ok248, e_wk248⟩
theorem e_k249 : e_chk 249 := ⟨e_ok249, e_wk249⟩
theorem e_k250 : e_chk 250 := ⟨e_ok250, e_wk250⟩
theorem e_k251 : e_chk 251 := ⟨e_ok251, e_wk251⟩
theorem e_k252 : e_chk 252 := ⟨e_ok252, e_wk252⟩
theorem e_k253 : e_chk 253 := ⟨e_ok253, e_wk253⟩
theorem e_k254 : e_chk 254 := ⟨e_ok254, e_wk254⟩
theorem e_k255 : e_chk 255 := ⟨e_ok255, e_wk255⟩
theorem e_k256 : e_chk 256 := ⟨e_ok256, e_wk256⟩
theorem e_k257 : e_chk 257 := ⟨e_ok257, e_wk257⟩
theorem e_k258 : e_chk 258 := ⟨e_ok258, e_wk258⟩
theorem e_k259 : e_chk 259 := ⟨e_ok259, e_wk259⟩
theorem e_k260 : e_chk 260 := ⟨e_ok260, e_wk260⟩
theorem e_k261 : e_chk 261 := ⟨e_ok261, e_wk261⟩
theorem e_k262 : e_chk 262 := ⟨e_ok262, e_wk262⟩
theorem e_k263 : e_chk 263 := ⟨e_ok263, e_wk263⟩
theorem e_k264 : e_chk 264 := ⟨e_ok264, e_wk264⟩
theorem e_k265 : e_chk 265 := ⟨e_ok265, e_wk265⟩
theorem e_k266 : e_chk 266 := ⟨e_ok266, e_wk266⟩
theorem e_k267 : e_chk 267 := ⟨e_ok267, e_wk267⟩
theorem e_k268 : e_chk 268 := ⟨e_ok268, e_wk268⟩
theorem e_k269 : e_chk 269 := ⟨e_ok269, e_wk269⟩
theorem e_k270 : e_chk 270 := ⟨e_ok270, e_wk270⟩
theorem e_k271 : e_chk 271 := ⟨e_ok271, e_wk271⟩
theorem e_k272 : e_chk 272 := ⟨e_ok272, e_wk272⟩
theorem e_k273 : e_chk 273 := ⟨e_ok273, e_wk273⟩
theorem e_k274 : e_chk 274 := ⟨e_ok274, e_wk274⟩
theorem e_k275 : e_chk 275 := ⟨e_ok275, e_wk275⟩
theorem e_k276 : e_chk 276 := ⟨e_ok276, e_wk276⟩
theorem e_k277 : e_chk 277 := ⟨e_ok277, e_wk277⟩
theorem e_k278 : e_chk 278 := ⟨e_ok278, e_wk278⟩
theorem e_k279 : e_chk 279 := ⟨e_ok279, e_wk279⟩
theorem e_k280 : e_chk 280 := ⟨e_ok280, e_wk280⟩
theorem e_k281 : e_chk 281 := ⟨e_ok281, e_wk281⟩
theorem e_k282 : e_chk 282 := ⟨e_ok282, e_wk282⟩
theorem e_k283 : e_chk 283 := ⟨e_ok283, e_wk283⟩
theorem e_k284 : e_chk 284 := ⟨e_ok284, e_wk284⟩
theorem e_k285 : e_chk 285 := ⟨e_ok285, e_wk285⟩
theorem e_k286 : e_chk 286 := ⟨e_ok286, e_wk286⟩
theorem e_k287 : e_chk 287 := ⟨e_ok287, e_wk287⟩
theorem e_k288 : e_chk 288 := ⟨e_ok288, e_wk288⟩
theorem e_k289 : e_chk 289 := ⟨e_ok289, e_wk289⟩
theorem e_k290 : e_chk 290 := ⟨e_ok290, e_wk290⟩
theorem e_k291 : e_chk 291 := ⟨e_ok291, e_wk291⟩
theorem e_k292 : e_chk 292 := ⟨e_ok292, e_wk292⟩
theorem e_k293 : e_chk 293 := ⟨e_ok293, e_wk293⟩
theorem e_k294 : e_chk 294 := ⟨e_ok294, e_wk294⟩
theorem e_k295 : e_chk 295 := ⟨e_ok295, e_wk295⟩
theorem e_k296 : e_chk 296 := ⟨e_ok296, e_wk296⟩
theorem e_k297 : e_chk 297 := ⟨e_ok297, e_wk297⟩
theorem e_k298 : e_chk 298 := ⟨e_ok298, e_wk298⟩
theorem e_k299 : e_chk 299 := ⟨e_ok299, e_wk299⟩
theorem e_k300 : e_chk 300 := ⟨e_ok300, e_wk300⟩
theorem e_k301 : e_chk 301 := ⟨e_ok301, e_wk301⟩
theorem e_k302 : e_chk 302 := ⟨e_ok302, e_wk302⟩
theorem e_k303 : e_chk 303 := ⟨e_ok303, e_wk303⟩
theorem e_k304 : e_chk 304 := ⟨e_ok304, e_wk304⟩
theorem e_k305 : e_chk 305 := ⟨e_ok305, e_wk305⟩
theorem e_k306 : e_chk 306 := ⟨e_ok306, e_wk306⟩
theorem e_k307 : e_chk 307 := ⟨e_ok307, e_wk307⟩
