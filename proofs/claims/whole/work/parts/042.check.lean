/-! what is checked of the program's data, once for each instruction -/
def e_ch : Nat → List Cond
  | 0 => k2_sels lw_privs
  | 1 => tables_1_1
  | 2 => tables_1_2
  | 3 => tables_1_3
  | 4 => tables_1_4
  | 5 => tables_1_5
  | 6 => tables_1_6
  | 7 => tables_1_7
  | 8 => tables_1_8
  | _ => []
theorem e_ch_in (i : Nat) : ∀ w ∈ e_ch i, w ∈ lw_tbl := by
  intro w hw
  show w ∈ k2_sels lw_privs ++ (tables_1_1 ++ (tables_1_2 ++ (tables_1_3 ++ (tables_1_4 ++ (tables_1_5 ++ (tables_1_6 ++ (tables_1_7 ++ tables_1_8)))))))
  simp only [List.mem_append]
  match i, hw with
  | 0, hw => exact Or.inl hw
  | 1, hw => exact Or.inr (Or.inl hw)
  | 2, hw => exact Or.inr (Or.inr (Or.inl hw))
  | 3, hw => exact Or.inr (Or.inr (Or.inr (Or.inl hw)))
  | 4, hw => exact Or.inr (Or.inr (Or.inr (Or.inr (Or.inl hw))))
  | 5, hw => exact Or.inr (Or.inr (Or.inr (Or.inr (Or.inr (Or.inl hw)))))
  | 6, hw => exact Or.inr (Or.inr (Or.inr (Or.inr (Or.inr (Or.inr (Or.inl hw))))))
  | 7, hw => exact Or.inr (Or.inr (Or.inr (Or.inr (Or.inr (Or.inr (Or.inr (Or.inl hw)))))))
  | 8, hw => exact Or.inr (Or.inr (Or.inr (Or.inr (Or.inr (Or.inr (Or.inr (Or.inr hw)))))))
  | (n + 9), hw => exact absurd hw List.not_mem_nil
/-- the word stands at that place, and is one that a call can hand on -/
def e_hw (p : Nat × Nat) (w : Cond) : Bool := decide ((e_ch p.1)[p.2]? = some w) && goodWord w
theorem e_hw_in {p : Nat × Nat} {w : Cond} (h : e_hw p w = true) : w ∈ e_tb := by
  simp only [e_hw, Bool.and_eq_true, decide_eq_true_eq] at h
  exact List.mem_filter.mpr ⟨e_ch_in _ _ (List.mem_of_getElem? h.1), h.2⟩
theorem e_tb_good : GoodIn e_tb e_tb := fun w hw => ⟨hw, good_of_word (List.mem_filter.mp hw).2⟩
/-- how long an instruction is; 0: a switch -/
def e_ln : Instr → Nat
  | .iload _ => 2
  | .lload _ => 2
  | .dload _ => 2
  | .aload _ => 2
  | .istore _ => 2
  | .lstore _ => 2
  | .dstore _ => 2
  | .astore _ => 2
  | .bipush _ => 2
  | .ldc _ => 2
  | .newarray _ => 2
  | .sipush _ => 3
  | .ldc_w _ => 3
  | .ldc2_w _ => 3
  | .getstatic _ => 3
  | .getfield _ => 3
  | .putfield _ => 3
  | .invokevirtual _ => 3
  | .invokestatic _ => 3
  | .invokespecial _ => 3
  | .new _ => 3
  | .anewarray _ => 3
  | .goto _ => 3
  | .ifCond _ _ => 3
  | .if_icmp _ _ => 3
  | .ifnull _ => 3
  | .ifnonnull _ => 3
  | .iinc _ _ => 3
  | .tableswitch _ _ _ _ => 0
  | .lookupswitch _ _ => 0
  | _ => 1
def e_cN (ci : Nat) : String := (e_cls.getD ci ("", e_T [], 0)).1
def e_cT (ci : Nat) : u_T := (e_cls.getD ci ("", e_T [], 0)).2.1
def e_cK (ci : Nat) : Nat := (e_cls.getD ci ("", e_T [], 0)).2.2
def e_ty (ci k : Nat) : FieldType := (parseFieldDescriptor (e_cT ci k).2.2.1).getD .int
/-- a field's kind: 0 int, 1 boolean, 2 long, 3 a reference -/
def e_kd : FieldType → Nat
  | .int => 0
  | .boolean => 1
  | .long => 2
  | .object _ => 3
  | .array _ => 3
  | _ => 9
def e_bad : List String := ["java/lang/invoke/MethodHandle", "java/lang/invoke/VarHandle"]
def e_xnm : List String := ["java/lang/RuntimeException", "java/lang/Exception"]
/-- of a callee z, called in k: room, costs, arguments -/
def e_ckc (k z n c s : Nat) : Bool := Nat.beq c (e_cc z) && Nat.beq s (e_cs z) && Nat.ble (e_dd z + 1) (e_dd k) && Nat.ble (8 + (e_ml z + 11) + e_ll z) (e_ll k) && Nat.beq n (e_npl.getD z 0) && Nat.ble (z + 1) 308
/-- the handlers: each covers the place, its class by the words, behind it a store; none of the names can be cast to another -/
def e_ckh (own : String) (bytes : ByteArray) (pc : Nat) : List (Nat × Nat × Nat × Nat) → List Nat → List (Nat × Nat) → Bool
  | [], [], [] => true
  | q :: qs, ei :: i :: np :: hs, p :: ps => Nat.ble q.1 pc && Nat.ble (pc + 1) q.2.1 && !(Nat.beq q.2.2.2 0) && Nat.ble (ei + 1) e_exc.length &&
      (decide (decode bytes q.2.2.1 = .ok (.astore i, 2)) && Nat.beq np (q.2.2.1 + 2) || Nat.ble i 3 && decide (decode bytes q.2.2.1 = .ok (.astore_n (Fin.ofNat 4 i), 1)) && Nat.beq np (q.2.2.1 + 1)) &&
      e_exc.all (fun E => E == e_exc.getD ei "" || e_nc.contains (E, e_exc.getD ei "")) && e_ckh own bytes pc qs hs ps
  | _, _, _ => false
def e_ckw (k : Nat) (own : String) (en : e_I) : Bool := match en with
  | (_, .ldc ix, _, .int x, _, [p]) => true
  | (_, .ldc ix, _, .retAddr j, _, _) => decide ((e_srefs[j]?).map (fun r => (r.1, r.2.1)) = some (own, ix))
  | (_, .ldc_w ix, _, .int x, _, [p]) => true
  | (_, .ldc_w ix, _, .retAddr j, _, _) => decide ((e_srefs[j]?).map (fun r => (r.1, r.2.1)) = some (own, ix))
  | (_, .ldc2_w ix, _, .long x, _, [p]) => true
  | (_, .getstatic ix, _, .int x, _, [p]) => decide (x = 1)
  | (_, .getstatic ix, _, .retAddr a, [j], [p]) => if a = 40 then true else Nat.beq a (10 + j) && Nat.ble (j + 1) e_sts.length
  | (_, .getfield ix, _, _, [ci, j], [p]) => Nat.beq ci 99 && (Nat.beq j 0 || Nat.beq j 1)
  | (_, .getfield ix, _, _, [ci, j, _], [p]) => Nat.ble (j + 1) (e_cK ci) && Nat.ble (ci + 1) e_cls.length && decide ((e_cT ci j).1 = e_cN ci)
  | (_, .putfield ix, _, _, [ci, j, f, tc], [p]) => Nat.beq tc (e_kd (e_ty ci j)) && Nat.ble (j + 1) (e_cK ci) && Nat.ble (ci + 1) e_cls.length && decide ((e_cT ci j).1 = e_cN ci) &&
      (Nat.beq f 0 && !((e_cT ci j).2.2.2) || Nat.beq f 1 && (e_cT ci j).2.2.2 && decide (own = e_cN ci) && decide ((e_nm k).name = "<init>"))
  | (pc, .goto o, _, _, [t], _) => decide ((pc : Int) + o = (t : Int))
  | (pc, .ifCond _ o, _, _, [t], _) => decide ((pc : Int) + o = (t : Int))
  | (pc, .if_icmp _ o, _, _, [t], _) => decide ((pc : Int) + o = (t : Int))
  | (pc, .ifnull o, _, _, [t], _) => decide ((pc : Int) + o = (t : Int))
  | (pc, .ifnonnull o, _, _, [t], _) => decide ((pc : Int) + o = (t : Int))
  | (pc, .tableswitch d lo hi offs, _, _, t :: ts, _) => decide ((pc : Int) + d = (t : Int)) && decide (offs.toList.map (fun o => (pc : Int) + o) = ts.map (fun (x : Nat) => (x : Int))) && decide (lo + ts.length = hi + 1) && decide (-2147483648 ≤ lo) && decide (hi ≤ 2147483647)
  | (pc, .lookupswitch d qs, _, _, t :: ts, _) => decide ((pc : Int) + d = (t : Int)) && decide (qs.toList.map (fun q => (pc : Int) + q.2) = ts.map (fun (x : Nat) => (x : Int))) && (qs.toList.zip (qs.toList.drop 1)).all (fun (a, next) => a.1 < next.1) && qs.toList.all (fun q => decide (-2147483648 ≤ q.1) && decide (q.1 ≤ 2147483647))
  | (pc, .invokevirtual ix, _, _, z :: n :: _ :: c :: s :: ci :: hs, p1 :: p2 :: p3 :: p4 :: p5 :: ph) => e_ckc k z n c s && decide (e_hh z = []) &&
      (if ci = 99 then decide ((e_nm z).cls = "java/lang/String") else decide ((e_nm z).cls = e_cN ci) && Nat.ble (ci + 1) e_cls.length) && e_ckh own (e_mb k) pc (e_hh k) hs ph
  | (_, .invokestatic ix, _, _, [z, n, fl, c, s], [p1, p2, p3, p4]) => if fl = 3 then true && Nat.ble 200 (e_ll k) && Nat.ble 1 (e_dd k)
      else e_ckc k z n c s && decide (e_hh k = []) && (if fl = 0 then decide (e_hh z = []) else decide (e_hh z ≠ []))
  | (_, .invokespecial ix, _, _, z :: n :: fl :: c :: s :: r, p1 :: p2 :: p3 :: ps) => if fl = 2 then true && Nat.ble 1 (e_dd k) && Nat.ble 40 (e_ll k)
      else e_ckc k z n c s && decide (e_hh z = []) && decide ((e_nm z).name = "<init>") && decide (e_rt z = none) && (match fl, r, ps with
        | 0, [], [p4] => true
        | 1, [j], [] => decide ((e_nest[j]?).map (fun q => (q.1, q.2.1, q.2.2.1)) = some (own, ix, e_nm z))
        | _, _, _ => false)
  | (_, .new ix, _, _, [_, ci], [p1, p2, p3]) => true && Nat.ble (ci + 1) e_cls.length
  | (pc, .new ix, _, _, [_, ei, ic], [p1, p2, p3]) => true && Nat.ble (ei + 1) e_exc.length && decide (e_hh k = []) && Nat.ble 6 (e_dd k) && Nat.ble (8 + (13 * 3 + 42)) (e_ll k) &&
      decide (decode (e_mb k) (pc + 3) = .ok (.dup, 1)) && decide (decode (e_mb k) (pc + 4) = .ok (.invokespecial ic, 3)) && decide (decode (e_mb k) (pc + 7) = .ok (.athrow, 1))
  | (_, .newarray t, _, _, [tag], [p]) => (match t, tag with
      | .int, 0 => true
      | .long, 1 => true
      | .char, 2 => true
      | .double, 3 => true
      | _, _ => false)
  | (_, .anewarray ix, _, _, _, [p]) => true
  | (_, .ldc _, _, _, _, _) => false
  | (_, .ldc_w _, _, _, _, _) => false
  | (_, .ldc2_w _, _, _, _, _) => false
  | (_, .getstatic _, _, _, _, _) => false
  | (_, .getfield _, _, _, _, _) => false
  | (_, .putfield _, _, _, _, _) => false
  | (_, .goto _, _, _, _, _) => false
  | (_, .ifCond _ _, _, _, _, _) => false
  | (_, .if_icmp _ _, _, _, _, _) => false
  | (_, .ifnull _, _, _, _, _) => false
  | (_, .ifnonnull _, _, _, _, _) => false
  | (_, .tableswitch _ _ _ _, _, _, _, _) => false
  | (_, .lookupswitch _ _, _, _, _, _) => false
  | (_, .invokevirtual _, _, _, _, _) => false
  | (_, .invokestatic _, _, _, _, _) => false
  | (_, .invokespecial _, _, _, _, _) => false
  | (_, .new _, _, _, _, _) => false
  | (_, .newarray _, _, _, _, _) => false
  | (_, .anewarray _, _, _, _, _) => false
  | _ => true
def e_ck (k : Nat) (en : e_I) : Bool := decide (decode (e_mb k) en.1 = .ok (en.2.1, en.2.2.1)) && (Nat.beq (e_ln en.2.1) 0 || Nat.beq en.2.2.1 (e_ln en.2.1)) && e_ckw k (e_nm k).cls en
/-- the words that an instruction wants, with their places -/
def e_wdh (own : String) : List (Nat × Nat × Nat × Nat) → List Nat → List (Nat × Nat) → List ((Nat × Nat) × Cond)
  | q :: qs, ei :: _ :: _ :: hs, p :: ps => (p, .classLink own q.2.2.2 (e_exc.getD ei "")) :: e_wdh own qs hs ps
  | _, _, _ => []
def e_wds (k : Nat) (own : String) (en : e_I) : List ((Nat × Nat) × Cond) := match en with
  | (_, .ldc ix, _, .int x, _, [p]) => [(p, .constant own ix x)]
  | (_, .ldc_w ix, _, .int x, _, [p]) => [(p, .constant own ix x)]
  | (_, .ldc2_w ix, _, .long x, _, [p]) => [(p, .constantLong own ix x)]
  | (_, .getstatic ix, _, .int _, _, [p]) => [(p, .fieldLink own ix "java/lang/String" "COMPACT_STRINGS" "Z")]
  | (_, .getstatic ix, _, .retAddr a, [j], [p]) => if a = 40 then [(p, .fieldLink own ix "jdk/internal/util/Preconditions" "SIOOBE_FORMATTER" "Ljava/util/function/BiFunction;")] else [(p, .fieldLink own ix (e_sts.getD j ("", "", [])).1 (e_sts.getD j ("", "", [])).2.1 "[I")]
  | (_, .getfield ix, _, _, [_, j], [p]) => if j = 0 then [(p, .fieldLink own ix "java/lang/String" "coder" "B")] else [(p, .fieldLink own ix "java/lang/String" "value" "[B")]
  | (_, .getfield ix, _, _, [ci, j, _], [p]) => [(p, .fieldLink own ix (e_cN ci) (e_cT ci j).2.1 (e_cT ci j).2.2.1)]
  | (_, .putfield ix, _, _, [ci, j, _, _], [p]) => [(p, .fieldLink own ix (e_cN ci) (e_cT ci j).2.1 (e_cT ci j).2.2.1)]
  | (_, .invokevirtual ix, _, _, z :: _ :: _ :: _ :: _ :: _ :: hs, p1 :: p2 :: p3 :: _ :: p5 :: ph) => (p1, .methodLink own ix (e_nm z)) :: (p2, .instanceMethod (e_nm z)) :: (p3, .selects (e_nm z).cls (e_nm z) (e_nm z)) :: (p5, .initialized (e_nm z).cls) :: e_wdh own (e_hh k) hs ph
  | (_, .invokestatic ix, _, _, [z, _, fl, _, _], [p1, p2, p3, p4]) => if fl = 3 then [(p1, .methodLink own ix arraycopyName), (p2, .native arraycopyName), (p3, .static arraycopyName), (p4, .initialized "java/lang/System")]
      else [(p1, .methodLink own ix (e_nm z)), (p2, .static (e_nm z)), (p3, .initialized (e_nm z).cls)]
  | (_, .invokespecial ix, _, _, z :: _ :: fl :: _ :: _ :: r, p1 :: p2 :: p3 :: ps) => if fl = 2 then [(p1, .methodLink own ix Lib.objectInit), (p2, .instanceMethod Lib.objectInit), (p3, .code Lib.objectInit ⟨#[0xb1]⟩ 1 none)]
      else match r, ps with
        | [], [p4] => [(p1, .methodLink own ix (e_nm z)), (p2, .instanceMethod (e_nm z)), (p4, .initialized (e_nm z).cls)]
        | [_], [] => [(p1, .instanceMethod (e_nm z)), (p3, .initialized (e_nm z).cls)]
        | _, _ => []
  | (_, .new ix, _, _, [_, ci], [p1, p2, p3]) => [(p1, .classLink own ix (e_cN ci)), (p2, .instantiable (e_cN ci) (e_cK ci)), (p3, .initialized (e_cN ci))]
  | (_, .new ix, _, _, [_, ei, ic], [p1, p2, p3]) => [(p1, .classLink own ix (e_exc.getD ei "")), (p2, .initialized (e_exc.getD ei "")), (p3, .methodLink own ic (Bundle.init0 (e_exc.getD ei "")))]
  | (_, .newarray t, _, _, _, [p]) => [(p, .arrayClass (newarray.typeOf t))]
  | (_, .anewarray ix, _, _, _, [p]) => [(p, .classLink own ix "HexCampaign$Game")]
  | _ => []
/-- each of these words stands at its place -/
def e_wok (l : List ((Nat × Nat) × Cond)) : Prop := l.map (fun q => (e_ch q.1.1)[q.1.2]?) = l.map (fun q => some q.2) ∧ l.all (fun q => goodWord q.2) = true
theorem e_wok_in {l : List ((Nat × Nat) × Cond)} (h : e_wok l) : ∀ q ∈ l, q.2 ∈ e_tb := by
  intro q hq
  have h1 : (e_ch q.1.1)[q.1.2]? = some q.2 := (List.map_inj_left.mp h.1) q hq
  exact List.mem_filter.mpr ⟨e_ch_in _ _ (List.mem_of_getElem? h1), List.all_eq_true.mp h.2 q hq⟩
theorem e_find_in {cd : List e_I} {pc : Nat} {en : e_I} (h : e_find cd pc = some en) : en ∈ cd ∧ en.1 = pc := by
  induction cd with
  | nil => cases h
  | cons a r ih =>
    unfold e_find at h
    by_cases ha : Nat.beq a.1 pc = true
    · rw [ha] at h
      cases h
      exact ⟨List.mem_cons_self, Nat.eq_of_beq_eq_true ha⟩
    · have hf : Nat.beq a.1 pc = false := Bool.eq_false_iff.mpr ha
      rw [hf] at h
      exact ⟨List.mem_cons_of_mem _ (ih h).1, (ih h).2⟩
