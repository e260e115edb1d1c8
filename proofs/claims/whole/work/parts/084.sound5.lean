/-! all instructions together -/
theorem e_lenOf {ins : Instr} {len n : Nat} (h : Nat.beq (e_ln ins) 0 = true ∨ Nat.beq len (e_ln ins) = true) (hn : e_ln ins = n) (h0 : n ≠ 0) : len = n := by
  rcases h with h | h
  · exact absurd ((hn.symm.trans (Nat.eq_of_beq_eq_true h))) h0
  · rw [← hn]; exact Nat.eq_of_beq_eq_true h
theorem e_t_ldc {k pc len : Nat} {v : Value} {ns : List Nat} {ps : List (Nat × Nat)} {loc : List (Option Value)} {st : List Value} {h : e_H} {bc bs : Nat} {K : Nat → List (Option Value) → List Value → e_H → Nat → Nat → Prop} {Q : e_O → e_H → Prop} {ix : Nat} (hd : decode (e_mb k) pc = .ok (.ldc ix, 2)) (hwd : ∀ q ∈ e_wds k (e_nm k).cls (pc, .ldc ix, len, v, ns, ps), q.2 ∈ e_tb) (hck : e_ckw k (e_nm k).cls (pc, .ldc ix, len, v, ns, ps) = true) (hK : ∀ pc loc st h bc bs, K pc loc st h bc bs → e_Wp k pc loc st h bc bs Q)
    (H : e_stp loc st h bc bs K Q (e_rt k) (pc, .ldc ix, len, v, ns, ps)) : e_Wp k pc loc st h bc bs Q := by
  cases v <;> try exact Bool.noConfusion (show false = true from hck)
  case int x =>
    rcases ps with _ | ⟨p0, _ | ⟨p1, pr⟩⟩
    · exact Bool.noConfusion (show false = true from hck)
    · exact e_s_ldcI hd rfl ((show ∀ q ∈ [(p0, Cond.constant (e_nm k).cls ix x)], q.2 ∈ e_tb from hwd) _ List.mem_cons_self) hK H
    · exact Bool.noConfusion (show false = true from hck)
  case retAddr j =>
    exact e_s_ldcS hd rfl (of_decide_eq_true (show decide ((e_srefs[j]?).map (fun r => (r.1, r.2.1)) = some ((e_nm k).cls, ix)) = true from hck)) hK H
theorem e_t_ldc_w {k pc len : Nat} {v : Value} {ns : List Nat} {ps : List (Nat × Nat)} {loc : List (Option Value)} {st : List Value} {h : e_H} {bc bs : Nat} {K : Nat → List (Option Value) → List Value → e_H → Nat → Nat → Prop} {Q : e_O → e_H → Prop} {ix : Nat} (hd : decode (e_mb k) pc = .ok (.ldc_w ix, 3)) (hwd : ∀ q ∈ e_wds k (e_nm k).cls (pc, .ldc_w ix, len, v, ns, ps), q.2 ∈ e_tb) (hck : e_ckw k (e_nm k).cls (pc, .ldc_w ix, len, v, ns, ps) = true) (hK : ∀ pc loc st h bc bs, K pc loc st h bc bs → e_Wp k pc loc st h bc bs Q)
    (H : e_stp loc st h bc bs K Q (e_rt k) (pc, .ldc_w ix, len, v, ns, ps)) : e_Wp k pc loc st h bc bs Q := by
  cases v <;> try exact Bool.noConfusion (show false = true from hck)
  case int x =>
    rcases ps with _ | ⟨p0, _ | ⟨p1, pr⟩⟩
    · exact Bool.noConfusion (show false = true from hck)
    · exact e_s_ldcwI hd rfl ((show ∀ q ∈ [(p0, Cond.constant (e_nm k).cls ix x)], q.2 ∈ e_tb from hwd) _ List.mem_cons_self) hK H
    · exact Bool.noConfusion (show false = true from hck)
  case retAddr j =>
    exact e_s_ldcwS hd rfl (of_decide_eq_true (show decide ((e_srefs[j]?).map (fun r => (r.1, r.2.1)) = some ((e_nm k).cls, ix)) = true from hck)) hK H
theorem e_t_ldc2 {k pc len : Nat} {v : Value} {ns : List Nat} {ps : List (Nat × Nat)} {loc : List (Option Value)} {st : List Value} {h : e_H} {bc bs : Nat} {K : Nat → List (Option Value) → List Value → e_H → Nat → Nat → Prop} {Q : e_O → e_H → Prop} {ix : Nat} (hd : decode (e_mb k) pc = .ok (.ldc2_w ix, 3)) (hwd : ∀ q ∈ e_wds k (e_nm k).cls (pc, .ldc2_w ix, len, v, ns, ps), q.2 ∈ e_tb) (hck : e_ckw k (e_nm k).cls (pc, .ldc2_w ix, len, v, ns, ps) = true) (hK : ∀ pc loc st h bc bs, K pc loc st h bc bs → e_Wp k pc loc st h bc bs Q)
    (H : e_stp loc st h bc bs K Q (e_rt k) (pc, .ldc2_w ix, len, v, ns, ps)) : e_Wp k pc loc st h bc bs Q := by
  cases v <;> try exact Bool.noConfusion (show false = true from hck)
  case long x =>
    rcases ps with _ | ⟨p0, _ | ⟨p1, pr⟩⟩
    · exact Bool.noConfusion (show false = true from hck)
    · exact e_s_ldc2 hd rfl ((show ∀ q ∈ [(p0, Cond.constantLong (e_nm k).cls ix x)], q.2 ∈ e_tb from hwd) _ List.mem_cons_self) hK H
    · exact Bool.noConfusion (show false = true from hck)
theorem e_t_getstatic {k pc len : Nat} {v : Value} {ns : List Nat} {ps : List (Nat × Nat)} {loc : List (Option Value)} {st : List Value} {h : e_H} {bc bs : Nat} {K : Nat → List (Option Value) → List Value → e_H → Nat → Nat → Prop} {Q : e_O → e_H → Prop} {ix : Nat} (hd : decode (e_mb k) pc = .ok (.getstatic ix, 3)) (hwd : ∀ q ∈ e_wds k (e_nm k).cls (pc, .getstatic ix, len, v, ns, ps), q.2 ∈ e_tb) (hck : e_ckw k (e_nm k).cls (pc, .getstatic ix, len, v, ns, ps) = true) (hK : ∀ pc loc st h bc bs, K pc loc st h bc bs → e_Wp k pc loc st h bc bs Q)
    (H : e_stp loc st h bc bs K Q (e_rt k) (pc, .getstatic ix, len, v, ns, ps)) : e_Wp k pc loc st h bc bs Q := by
  cases v <;> try exact Bool.noConfusion (show false = true from hck)
  case int x =>
    rcases ps with _ | ⟨p0, _ | ⟨p1, pr⟩⟩
    · exact Bool.noConfusion (show false = true from hck)
    · have hx : x = 1 := of_decide_eq_true (show decide (x = 1) = true from hck)
      exact e_s_gsC hd (by rw [hx]) ((show ∀ q ∈ [(p0, Cond.fieldLink (e_nm k).cls ix "java/lang/String" "COMPACT_STRINGS" "Z")], q.2 ∈ e_tb from hwd) _ List.mem_cons_self) hK H
    · exact Bool.noConfusion (show false = true from hck)
  case retAddr r =>
    rcases ns with _ | ⟨j, _ | ⟨j2, nr⟩⟩
    · exact Bool.noConfusion (show false = true from hck)
    · rcases ps with _ | ⟨p0, _ | ⟨p1, pr⟩⟩
      · exact Bool.noConfusion (show false = true from hck)
      · have h1 : (if r = 40 then true else Nat.beq r (10 + j) && Nat.ble (j + 1) e_sts.length) = true := hck
        have h2 : ∀ q ∈ (if r = 40 then [(p0, Cond.fieldLink (e_nm k).cls ix "jdk/internal/util/Preconditions" "SIOOBE_FORMATTER" "Ljava/util/function/BiFunction;")] else [(p0, Cond.fieldLink (e_nm k).cls ix (e_sts.getD j ("", "", [])).1 (e_sts.getD j ("", "", [])).2.1 "[I")]), q.2 ∈ e_tb := hwd
        by_cases hr : r = 40
        · rw [if_pos hr] at h2
          exact e_s_gsF hd (by rw [hr]) (h2 _ List.mem_cons_self) hK H
        · rw [if_neg hr] at h1 h2
          simp only [Bool.and_eq_true] at h1
          exact e_s_gsA hd (by rw [Nat.eq_of_beq_eq_true h1.1]) (Nat.le_of_ble_eq_true h1.2) (h2 _ List.mem_cons_self) hK H
      · exact Bool.noConfusion (show false = true from hck)
    · exact Bool.noConfusion (show false = true from hck)
theorem e_t_getfield {k pc len : Nat} {v : Value} {ns : List Nat} {ps : List (Nat × Nat)} {loc : List (Option Value)} {st : List Value} {h : e_H} {bc bs : Nat} {K : Nat → List (Option Value) → List Value → e_H → Nat → Nat → Prop} {Q : e_O → e_H → Prop} {ix : Nat} (hd : decode (e_mb k) pc = .ok (.getfield ix, 3)) (hwd : ∀ q ∈ e_wds k (e_nm k).cls (pc, .getfield ix, len, v, ns, ps), q.2 ∈ e_tb) (hck : e_ckw k (e_nm k).cls (pc, .getfield ix, len, v, ns, ps) = true) (hK : ∀ pc loc st h bc bs, K pc loc st h bc bs → e_Wp k pc loc st h bc bs Q)
    (H : e_stp loc st h bc bs K Q (e_rt k) (pc, .getfield ix, len, v, ns, ps)) : e_Wp k pc loc st h bc bs Q := by
  rcases ns with _ | ⟨ci, _ | ⟨j, _ | ⟨f, _ | ⟨g0, nr⟩⟩⟩⟩
  · exact Bool.noConfusion (show false = true from hck)
  · exact Bool.noConfusion (show false = true from hck)
  · rcases ps with _ | ⟨p0, _ | ⟨p1, pr⟩⟩
    · exact Bool.noConfusion (show false = true from hck)
    · have h1 : (Nat.beq ci 99 && (Nat.beq j 0 || Nat.beq j 1)) = true := hck
      have h2 : ∀ q ∈ (if j = 0 then [(p0, Cond.fieldLink (e_nm k).cls ix "java/lang/String" "coder" "B")] else [(p0, Cond.fieldLink (e_nm k).cls ix "java/lang/String" "value" "[B")]), q.2 ∈ e_tb := hwd
      simp only [Bool.and_eq_true, Bool.or_eq_true] at h1
      refine e_s_getS hd rfl ?_ hK H
      by_cases hj : j = 0
      · rw [if_pos hj] at h2
        exact Or.inl ⟨hj, h2 _ List.mem_cons_self⟩
      · rw [if_neg hj] at h2
        exact Or.inr ⟨by rcases h1.2 with h3 | h3; exact absurd (Nat.eq_of_beq_eq_true h3) hj; exact Nat.eq_of_beq_eq_true h3, h2 _ List.mem_cons_self⟩
    · exact Bool.noConfusion (show false = true from hck)
  · rcases ps with _ | ⟨p0, _ | ⟨p1, pr⟩⟩
    · exact Bool.noConfusion (show false = true from hck)
    · have h1 : (Nat.ble (j + 1) (e_cK ci) && Nat.ble (ci + 1) e_cls.length && decide ((e_cT ci j).1 = e_cN ci)) = true := hck
      simp only [Bool.and_eq_true, decide_eq_true_eq] at h1
      exact e_s_getO hd rfl (Nat.le_of_ble_eq_true h1.1.2) (Nat.le_of_ble_eq_true h1.1.1) h1.2 ((show ∀ q ∈ [(p0, Cond.fieldLink (e_nm k).cls ix (e_cN ci) (e_cT ci j).2.1 (e_cT ci j).2.2.1)], q.2 ∈ e_tb from hwd) _ List.mem_cons_self) hK H
    · exact Bool.noConfusion (show false = true from hck)
  · exact Bool.noConfusion (show false = true from hck)
theorem e_t_putfield {k pc len : Nat} {v : Value} {ns : List Nat} {ps : List (Nat × Nat)} {loc : List (Option Value)} {st : List Value} {h : e_H} {bc bs : Nat} {K : Nat → List (Option Value) → List Value → e_H → Nat → Nat → Prop} {Q : e_O → e_H → Prop} {ix : Nat} (hd : decode (e_mb k) pc = .ok (.putfield ix, 3)) (hwd : ∀ q ∈ e_wds k (e_nm k).cls (pc, .putfield ix, len, v, ns, ps), q.2 ∈ e_tb) (hck : e_ckw k (e_nm k).cls (pc, .putfield ix, len, v, ns, ps) = true) (hK : ∀ pc loc st h bc bs, K pc loc st h bc bs → e_Wp k pc loc st h bc bs Q)
    (H : e_stp loc st h bc bs K Q (e_rt k) (pc, .putfield ix, len, v, ns, ps)) : e_Wp k pc loc st h bc bs Q := by
  rcases ns with _ | ⟨ci, _ | ⟨j, _ | ⟨f, _ | ⟨tc, _ | ⟨g0, nr⟩⟩⟩⟩⟩
  · exact Bool.noConfusion (show false = true from hck)
  · exact Bool.noConfusion (show false = true from hck)
  · exact Bool.noConfusion (show false = true from hck)
  · exact Bool.noConfusion (show false = true from hck)
  · rcases ps with _ | ⟨p0, _ | ⟨p1, pr⟩⟩
    · exact Bool.noConfusion (show false = true from hck)
    · have h1 : (Nat.beq tc (e_kd (e_ty ci j)) && Nat.ble (j + 1) (e_cK ci) && Nat.ble (ci + 1) e_cls.length && decide ((e_cT ci j).1 = e_cN ci) && (Nat.beq f 0 && !((e_cT ci j).2.2.2) || Nat.beq f 1 && (e_cT ci j).2.2.2 && decide ((e_nm k).cls = e_cN ci) && decide ((e_nm k).name = "<init>"))) = true := hck
      simp only [Bool.and_eq_true, Bool.or_eq_true, decide_eq_true_eq, Bool.not_eq_true'] at h1
      refine e_s_put hd rfl (Nat.eq_of_beq_eq_true h1.1.1.1.1) (Nat.le_of_ble_eq_true h1.1.1.2) (Nat.le_of_ble_eq_true h1.1.1.1.2) h1.1.2 ((show ∀ q ∈ [(p0, Cond.fieldLink (e_nm k).cls ix (e_cN ci) (e_cT ci j).2.1 (e_cT ci j).2.2.1)], q.2 ∈ e_tb from hwd) _ List.mem_cons_self) ?_ hK H
      rcases h1.2 with h3 | h3
      · exact Or.inl h3.2
      · exact Or.inr ⟨h3.1.1.2, h3.1.2, h3.2⟩
    · exact Bool.noConfusion (show false = true from hck)
  · exact Bool.noConfusion (show false = true from hck)
theorem e_t_goto {k pc len : Nat} {v : Value} {ns : List Nat} {ps : List (Nat × Nat)} {loc : List (Option Value)} {st : List Value} {h : e_H} {bc bs : Nat} {K : Nat → List (Option Value) → List Value → e_H → Nat → Nat → Prop} {Q : e_O → e_H → Prop} {o : Int} (hd : decode (e_mb k) pc = .ok (.goto o, 3)) (hwd : ∀ q ∈ e_wds k (e_nm k).cls (pc, .goto o, len, v, ns, ps), q.2 ∈ e_tb) (hck : e_ckw k (e_nm k).cls (pc, .goto o, len, v, ns, ps) = true) (hK : ∀ pc loc st h bc bs, K pc loc st h bc bs → e_Wp k pc loc st h bc bs Q)
    (H : e_stp loc st h bc bs K Q (e_rt k) (pc, .goto o, len, v, ns, ps)) : e_Wp k pc loc st h bc bs Q := by
  rcases ns with _ | ⟨t, _ | ⟨t2, nr⟩⟩
  · exact Bool.noConfusion (show false = true from hck)
  · exact e_s_goto hd rfl (of_decide_eq_true (show decide ((pc : Int) + o = (t : Int)) = true from hck)) hK H
  · exact Bool.noConfusion (show false = true from hck)
theorem e_t_ifnull {k pc len : Nat} {v : Value} {ns : List Nat} {ps : List (Nat × Nat)} {loc : List (Option Value)} {st : List Value} {h : e_H} {bc bs : Nat} {K : Nat → List (Option Value) → List Value → e_H → Nat → Nat → Prop} {Q : e_O → e_H → Prop} {o : Int} (hd : decode (e_mb k) pc = .ok (.ifnull o, 3)) (hwd : ∀ q ∈ e_wds k (e_nm k).cls (pc, .ifnull o, len, v, ns, ps), q.2 ∈ e_tb) (hck : e_ckw k (e_nm k).cls (pc, .ifnull o, len, v, ns, ps) = true) (hK : ∀ pc loc st h bc bs, K pc loc st h bc bs → e_Wp k pc loc st h bc bs Q)
    (H : e_stp loc st h bc bs K Q (e_rt k) (pc, .ifnull o, len, v, ns, ps)) : e_Wp k pc loc st h bc bs Q := by
  rcases ns with _ | ⟨t, _ | ⟨t2, nr⟩⟩
  · exact Bool.noConfusion (show false = true from hck)
  · exact e_s_ifnull hd rfl (of_decide_eq_true (show decide ((pc : Int) + o = (t : Int)) = true from hck)) hK H
  · exact Bool.noConfusion (show false = true from hck)
theorem e_t_ifnonnull {k pc len : Nat} {v : Value} {ns : List Nat} {ps : List (Nat × Nat)} {loc : List (Option Value)} {st : List Value} {h : e_H} {bc bs : Nat} {K : Nat → List (Option Value) → List Value → e_H → Nat → Nat → Prop} {Q : e_O → e_H → Prop} {o : Int} (hd : decode (e_mb k) pc = .ok (.ifnonnull o, 3)) (hwd : ∀ q ∈ e_wds k (e_nm k).cls (pc, .ifnonnull o, len, v, ns, ps), q.2 ∈ e_tb) (hck : e_ckw k (e_nm k).cls (pc, .ifnonnull o, len, v, ns, ps) = true) (hK : ∀ pc loc st h bc bs, K pc loc st h bc bs → e_Wp k pc loc st h bc bs Q)
    (H : e_stp loc st h bc bs K Q (e_rt k) (pc, .ifnonnull o, len, v, ns, ps)) : e_Wp k pc loc st h bc bs Q := by
  rcases ns with _ | ⟨t, _ | ⟨t2, nr⟩⟩
  · exact Bool.noConfusion (show false = true from hck)
  · exact e_s_ifnonnull hd rfl (of_decide_eq_true (show decide ((pc : Int) + o = (t : Int)) = true from hck)) hK H
  · exact Bool.noConfusion (show false = true from hck)
theorem e_t_if_eq {k pc len : Nat} {v : Value} {ns : List Nat} {ps : List (Nat × Nat)} {loc : List (Option Value)} {st : List Value} {h : e_H} {bc bs : Nat} {K : Nat → List (Option Value) → List Value → e_H → Nat → Nat → Prop} {Q : e_O → e_H → Prop} {o : Int} (hd : decode (e_mb k) pc = .ok (.ifCond .eq o, 3)) (hwd : ∀ q ∈ e_wds k (e_nm k).cls (pc, .ifCond .eq o, len, v, ns, ps), q.2 ∈ e_tb) (hck : e_ckw k (e_nm k).cls (pc, .ifCond .eq o, len, v, ns, ps) = true) (hK : ∀ pc loc st h bc bs, K pc loc st h bc bs → e_Wp k pc loc st h bc bs Q)
    (H : e_stp loc st h bc bs K Q (e_rt k) (pc, .ifCond .eq o, len, v, ns, ps)) : e_Wp k pc loc st h bc bs Q := by
  rcases ns with _ | ⟨t, _ | ⟨t2, nr⟩⟩
  · exact Bool.noConfusion (show false = true from hck)
  · exact e_s_if_eq hd rfl (of_decide_eq_true (show decide ((pc : Int) + o = (t : Int)) = true from hck)) hK H
  · exact Bool.noConfusion (show false = true from hck)
theorem e_t_icmp_eq {k pc len : Nat} {v : Value} {ns : List Nat} {ps : List (Nat × Nat)} {loc : List (Option Value)} {st : List Value} {h : e_H} {bc bs : Nat} {K : Nat → List (Option Value) → List Value → e_H → Nat → Nat → Prop} {Q : e_O → e_H → Prop} {o : Int} (hd : decode (e_mb k) pc = .ok (.if_icmp .eq o, 3)) (hwd : ∀ q ∈ e_wds k (e_nm k).cls (pc, .if_icmp .eq o, len, v, ns, ps), q.2 ∈ e_tb) (hck : e_ckw k (e_nm k).cls (pc, .if_icmp .eq o, len, v, ns, ps) = true) (hK : ∀ pc loc st h bc bs, K pc loc st h bc bs → e_Wp k pc loc st h bc bs Q)
    (H : e_stp loc st h bc bs K Q (e_rt k) (pc, .if_icmp .eq o, len, v, ns, ps)) : e_Wp k pc loc st h bc bs Q := by
  rcases ns with _ | ⟨t, _ | ⟨t2, nr⟩⟩
  · exact Bool.noConfusion (show false = true from hck)
  · exact e_s_icmp_eq hd rfl (of_decide_eq_true (show decide ((pc : Int) + o = (t : Int)) = true from hck)) hK H
  · exact Bool.noConfusion (show false = true from hck)
theorem e_t_if_ne {k pc len : Nat} {v : Value} {ns : List Nat} {ps : List (Nat × Nat)} {loc : List (Option Value)} {st : List Value} {h : e_H} {bc bs : Nat} {K : Nat → List (Option Value) → List Value → e_H → Nat → Nat → Prop} {Q : e_O → e_H → Prop} {o : Int} (hd : decode (e_mb k) pc = .ok (.ifCond .ne o, 3)) (hwd : ∀ q ∈ e_wds k (e_nm k).cls (pc, .ifCond .ne o, len, v, ns, ps), q.2 ∈ e_tb) (hck : e_ckw k (e_nm k).cls (pc, .ifCond .ne o, len, v, ns, ps) = true) (hK : ∀ pc loc st h bc bs, K pc loc st h bc bs → e_Wp k pc loc st h bc bs Q)
    (H : e_stp loc st h bc bs K Q (e_rt k) (pc, .ifCond .ne o, len, v, ns, ps)) : e_Wp k pc loc st h bc bs Q := by
  rcases ns with _ | ⟨t, _ | ⟨t2, nr⟩⟩
  · exact Bool.noConfusion (show false = true from hck)
  · exact e_s_if_ne hd rfl (of_decide_eq_true (show decide ((pc : Int) + o = (t : Int)) = true from hck)) hK H
  · exact Bool.noConfusion (show false = true from hck)
theorem e_t_icmp_ne {k pc len : Nat} {v : Value} {ns : List Nat} {ps : List (Nat × Nat)} {loc : List (Option Value)} {st : List Value} {h : e_H} {bc bs : Nat} {K : Nat → List (Option Value) → List Value → e_H → Nat → Nat → Prop} {Q : e_O → e_H → Prop} {o : Int} (hd : decode (e_mb k) pc = .ok (.if_icmp .ne o, 3)) (hwd : ∀ q ∈ e_wds k (e_nm k).cls (pc, .if_icmp .ne o, len, v, ns, ps), q.2 ∈ e_tb) (hck : e_ckw k (e_nm k).cls (pc, .if_icmp .ne o, len, v, ns, ps) = true) (hK : ∀ pc loc st h bc bs, K pc loc st h bc bs → e_Wp k pc loc st h bc bs Q)
    (H : e_stp loc st h bc bs K Q (e_rt k) (pc, .if_icmp .ne o, len, v, ns, ps)) : e_Wp k pc loc st h bc bs Q := by
  rcases ns with _ | ⟨t, _ | ⟨t2, nr⟩⟩
  · exact Bool.noConfusion (show false = true from hck)
  · exact e_s_icmp_ne hd rfl (of_decide_eq_true (show decide ((pc : Int) + o = (t : Int)) = true from hck)) hK H
  · exact Bool.noConfusion (show false = true from hck)
theorem e_t_if_lt {k pc len : Nat} {v : Value} {ns : List Nat} {ps : List (Nat × Nat)} {loc : List (Option Value)} {st : List Value} {h : e_H} {bc bs : Nat} {K : Nat → List (Option Value) → List Value → e_H → Nat → Nat → Prop} {Q : e_O → e_H → Prop} {o : Int} (hd : decode (e_mb k) pc = .ok (.ifCond .lt o, 3)) (hwd : ∀ q ∈ e_wds k (e_nm k).cls (pc, .ifCond .lt o, len, v, ns, ps), q.2 ∈ e_tb) (hck : e_ckw k (e_nm k).cls (pc, .ifCond .lt o, len, v, ns, ps) = true) (hK : ∀ pc loc st h bc bs, K pc loc st h bc bs → e_Wp k pc loc st h bc bs Q)
    (H : e_stp loc st h bc bs K Q (e_rt k) (pc, .ifCond .lt o, len, v, ns, ps)) : e_Wp k pc loc st h bc bs Q := by
  rcases ns with _ | ⟨t, _ | ⟨t2, nr⟩⟩
  · exact Bool.noConfusion (show false = true from hck)
  · exact e_s_if_lt hd rfl (of_decide_eq_true (show decide ((pc : Int) + o = (t : Int)) = true from hck)) hK H
  · exact Bool.noConfusion (show false = true from hck)
theorem e_t_icmp_lt {k pc len : Nat} {v : Value} {ns : List Nat} {ps : List (Nat × Nat)} {loc : List (Option Value)} {st : List Value} {h : e_H} {bc bs : Nat} {K : Nat → List (Option Value) → List Value → e_H → Nat → Nat → Prop} {Q : e_O → e_H → Prop} {o : Int} (hd : decode (e_mb k) pc = .ok (.if_icmp .lt o, 3)) (hwd : ∀ q ∈ e_wds k (e_nm k).cls (pc, .if_icmp .lt o, len, v, ns, ps), q.2 ∈ e_tb) (hck : e_ckw k (e_nm k).cls (pc, .if_icmp .lt o, len, v, ns, ps) = true) (hK : ∀ pc loc st h bc bs, K pc loc st h bc bs → e_Wp k pc loc st h bc bs Q)
    (H : e_stp loc st h bc bs K Q (e_rt k) (pc, .if_icmp .lt o, len, v, ns, ps)) : e_Wp k pc loc st h bc bs Q := by
  rcases ns with _ | ⟨t, _ | ⟨t2, nr⟩⟩
  · exact Bool.noConfusion (show false = true from hck)
  · exact e_s_icmp_lt hd rfl (of_decide_eq_true (show decide ((pc : Int) + o = (t : Int)) = true from hck)) hK H
  · exact Bool.noConfusion (show false = true from hck)
theorem e_t_if_ge {k pc len : Nat} {v : Value} {ns : List Nat} {ps : List (Nat × Nat)} {loc : List (Option Value)} {st : List Value} {h : e_H} {bc bs : Nat} {K : Nat → List (Option Value) → List Value → e_H → Nat → Nat → Prop} {Q : e_O → e_H → Prop} {o : Int} (hd : decode (e_mb k) pc = .ok (.ifCond .ge o, 3)) (hwd : ∀ q ∈ e_wds k (e_nm k).cls (pc, .ifCond .ge o, len, v, ns, ps), q.2 ∈ e_tb) (hck : e_ckw k (e_nm k).cls (pc, .ifCond .ge o, len, v, ns, ps) = true) (hK : ∀ pc loc st h bc bs, K pc loc st h bc bs → e_Wp k pc loc st h bc bs Q)
    (H : e_stp loc st h bc bs K Q (e_rt k) (pc, .ifCond .ge o, len, v, ns, ps)) : e_Wp k pc loc st h bc bs Q := by
  rcases ns with _ | ⟨t, _ | ⟨t2, nr⟩⟩
  · exact Bool.noConfusion (show false = true from hck)
  · exact e_s_if_ge hd rfl (of_decide_eq_true (show decide ((pc : Int) + o = (t : Int)) = true from hck)) hK H
  · exact Bool.noConfusion (show false = true from hck)
theorem e_t_icmp_ge {k pc len : Nat} {v : Value} {ns : List Nat} {ps : List (Nat × Nat)} {loc : List (Option Value)} {st : List Value} {h : e_H} {bc bs : Nat} {K : Nat → List (Option Value) → List Value → e_H → Nat → Nat → Prop} {Q : e_O → e_H → Prop} {o : Int} (hd : decode (e_mb k) pc = .ok (.if_icmp .ge o, 3)) (hwd : ∀ q ∈ e_wds k (e_nm k).cls (pc, .if_icmp .ge o, len, v, ns, ps), q.2 ∈ e_tb) (hck : e_ckw k (e_nm k).cls (pc, .if_icmp .ge o, len, v, ns, ps) = true) (hK : ∀ pc loc st h bc bs, K pc loc st h bc bs → e_Wp k pc loc st h bc bs Q)
    (H : e_stp loc st h bc bs K Q (e_rt k) (pc, .if_icmp .ge o, len, v, ns, ps)) : e_Wp k pc loc st h bc bs Q := by
  rcases ns with _ | ⟨t, _ | ⟨t2, nr⟩⟩
  · exact Bool.noConfusion (show false = true from hck)
  · exact e_s_icmp_ge hd rfl (of_decide_eq_true (show decide ((pc : Int) + o = (t : Int)) = true from hck)) hK H
  · exact Bool.noConfusion (show false = true from hck)
theorem e_t_if_gt {k pc len : Nat} {v : Value} {ns : List Nat} {ps : List (Nat × Nat)} {loc : List (Option Value)} {st : List Value} {h : e_H} {bc bs : Nat} {K : Nat → List (Option Value) → List Value → e_H → Nat → Nat → Prop} {Q : e_O → e_H → Prop} {o : Int} (hd : decode (e_mb k) pc = .ok (.ifCond .gt o, 3)) (hwd : ∀ q ∈ e_wds k (e_nm k).cls (pc, .ifCond .gt o, len, v, ns, ps), q.2 ∈ e_tb) (hck : e_ckw k (e_nm k).cls (pc, .ifCond .gt o, len, v, ns, ps) = true) (hK : ∀ pc loc st h bc bs, K pc loc st h bc bs → e_Wp k pc loc st h bc bs Q)
    (H : e_stp loc st h bc bs K Q (e_rt k) (pc, .ifCond .gt o, len, v, ns, ps)) : e_Wp k pc loc st h bc bs Q := by
  rcases ns with _ | ⟨t, _ | ⟨t2, nr⟩⟩
  · exact Bool.noConfusion (show false = true from hck)
  · exact e_s_if_gt hd rfl (of_decide_eq_true (show decide ((pc : Int) + o = (t : Int)) = true from hck)) hK H
  · exact Bool.noConfusion (show false = true from hck)
theorem e_t_icmp_gt {k pc len : Nat} {v : Value} {ns : List Nat} {ps : List (Nat × Nat)} {loc : List (Option Value)} {st : List Value} {h : e_H} {bc bs : Nat} {K : Nat → List (Option Value) → List Value → e_H → Nat → Nat → Prop} {Q : e_O → e_H → Prop} {o : Int} (hd : decode (e_mb k) pc = .ok (.if_icmp .gt o, 3)) (hwd : ∀ q ∈ e_wds k (e_nm k).cls (pc, .if_icmp .gt o, len, v, ns, ps), q.2 ∈ e_tb) (hck : e_ckw k (e_nm k).cls (pc, .if_icmp .gt o, len, v, ns, ps) = true) (hK : ∀ pc loc st h bc bs, K pc loc st h bc bs → e_Wp k pc loc st h bc bs Q)
    (H : e_stp loc st h bc bs K Q (e_rt k) (pc, .if_icmp .gt o, len, v, ns, ps)) : e_Wp k pc loc st h bc bs Q := by
  rcases ns with _ | ⟨t, _ | ⟨t2, nr⟩⟩
  · exact Bool.noConfusion (show false = true from hck)
  · exact e_s_icmp_gt hd rfl (of_decide_eq_true (show decide ((pc : Int) + o = (t : Int)) = true from hck)) hK H
  · exact Bool.noConfusion (show false = true from hck)
theorem e_t_if_le {k pc len : Nat} {v : Value} {ns : List Nat} {ps : List (Nat × Nat)} {loc : List (Option Value)} {st : List Value} {h : e_H} {bc bs : Nat} {K : Nat → List (Option Value) → List Value → e_H → Nat → Nat → Prop} {Q : e_O → e_H → Prop} {o : Int} (hd : decode (e_mb k) pc = .ok (.ifCond .le o, 3)) (hwd : ∀ q ∈ e_wds k (e_nm k).cls (pc, .ifCond .le o, len, v, ns, ps), q.2 ∈ e_tb) (hck : e_ckw k (e_nm k).cls (pc, .ifCond .le o, len, v, ns, ps) = true) (hK : ∀ pc loc st h bc bs, K pc loc st h bc bs → e_Wp k pc loc st h bc bs Q)
    (H : e_stp loc st h bc bs K Q (e_rt k) (pc, .ifCond .le o, len, v, ns, ps)) : e_Wp k pc loc st h bc bs Q := by
  rcases ns with _ | ⟨t, _ | ⟨t2, nr⟩⟩
  · exact Bool.noConfusion (show false = true from hck)
  · exact e_s_if_le hd rfl (of_decide_eq_true (show decide ((pc : Int) + o = (t : Int)) = true from hck)) hK H
  · exact Bool.noConfusion (show false = true from hck)
theorem e_t_icmp_le {k pc len : Nat} {v : Value} {ns : List Nat} {ps : List (Nat × Nat)} {loc : List (Option Value)} {st : List Value} {h : e_H} {bc bs : Nat} {K : Nat → List (Option Value) → List Value → e_H → Nat → Nat → Prop} {Q : e_O → e_H → Prop} {o : Int} (hd : decode (e_mb k) pc = .ok (.if_icmp .le o, 3)) (hwd : ∀ q ∈ e_wds k (e_nm k).cls (pc, .if_icmp .le o, len, v, ns, ps), q.2 ∈ e_tb) (hck : e_ckw k (e_nm k).cls (pc, .if_icmp .le o, len, v, ns, ps) = true) (hK : ∀ pc loc st h bc bs, K pc loc st h bc bs → e_Wp k pc loc st h bc bs Q)
    (H : e_stp loc st h bc bs K Q (e_rt k) (pc, .if_icmp .le o, len, v, ns, ps)) : e_Wp k pc loc st h bc bs Q := by
  rcases ns with _ | ⟨t, _ | ⟨t2, nr⟩⟩
  · exact Bool.noConfusion (show false = true from hck)
  · exact e_s_icmp_le hd rfl (of_decide_eq_true (show decide ((pc : Int) + o = (t : Int)) = true from hck)) hK H
  · exact Bool.noConfusion (show false = true from hck)
theorem e_t_tsw {k pc len : Nat} {v : Value} {ns : List Nat} {ps : List (Nat × Nat)} {loc : List (Option Value)} {st : List Value} {h : e_H} {bc bs : Nat} {K : Nat → List (Option Value) → List Value → e_H → Nat → Nat → Prop} {Q : e_O → e_H → Prop} {d lo hi : Int} {offs : Array Int} (hd : decode (e_mb k) pc = .ok (.tableswitch d lo hi offs, len)) (hwd : ∀ q ∈ e_wds k (e_nm k).cls (pc, .tableswitch d lo hi offs, len, v, ns, ps), q.2 ∈ e_tb) (hck : e_ckw k (e_nm k).cls (pc, .tableswitch d lo hi offs, len, v, ns, ps) = true) (hK : ∀ pc loc st h bc bs, K pc loc st h bc bs → e_Wp k pc loc st h bc bs Q)
    (H : e_stp loc st h bc bs K Q (e_rt k) (pc, .tableswitch d lo hi offs, len, v, ns, ps)) : e_Wp k pc loc st h bc bs Q := by
  rcases ns with _ | ⟨t, ts⟩
  · exact Bool.noConfusion (show false = true from hck)
  · have h1 : (decide ((pc : Int) + d = (t : Int)) && decide (offs.toList.map (fun o => (pc : Int) + o) = ts.map (fun (x : Nat) => (x : Int))) && decide (lo + ts.length = hi + 1) && decide (-2147483648 ≤ lo) && decide (hi ≤ 2147483647)) = true := hck
    simp only [Bool.and_eq_true, decide_eq_true_eq] at h1
    exact e_s_tsw hd rfl h1.1.1.1.1 h1.1.1.1.2 h1.1.1.2 h1.1.2 h1.2 hK H
theorem e_t_lsw {k pc len : Nat} {v : Value} {ns : List Nat} {ps : List (Nat × Nat)} {loc : List (Option Value)} {st : List Value} {h : e_H} {bc bs : Nat} {K : Nat → List (Option Value) → List Value → e_H → Nat → Nat → Prop} {Q : e_O → e_H → Prop} {d : Int} {qs : Array (Int × Int)} (hd : decode (e_mb k) pc = .ok (.lookupswitch d qs, len)) (hwd : ∀ q ∈ e_wds k (e_nm k).cls (pc, .lookupswitch d qs, len, v, ns, ps), q.2 ∈ e_tb) (hck : e_ckw k (e_nm k).cls (pc, .lookupswitch d qs, len, v, ns, ps) = true) (hK : ∀ pc loc st h bc bs, K pc loc st h bc bs → e_Wp k pc loc st h bc bs Q)
    (H : e_stp loc st h bc bs K Q (e_rt k) (pc, .lookupswitch d qs, len, v, ns, ps)) : e_Wp k pc loc st h bc bs Q := by
  rcases ns with _ | ⟨t, ts⟩
  · exact Bool.noConfusion (show false = true from hck)
  · have h1 : (decide ((pc : Int) + d = (t : Int)) && decide (qs.toList.map (fun q => (pc : Int) + q.2) = ts.map (fun (x : Nat) => (x : Int))) && (qs.toList.zip (qs.toList.drop 1)).all (fun (a, next) => a.1 < next.1) && qs.toList.all (fun q => decide (-2147483648 ≤ q.1) && decide (q.1 ≤ 2147483647))) = true := hck
    rw [Bool.and_eq_true, Bool.and_eq_true, Bool.and_eq_true, decide_eq_true_eq, decide_eq_true_eq] at h1
    refine e_s_lsw hd rfl h1.1.1.1 h1.1.1.2 h1.1.2 (fun q hq => ?_) hK H
    have := List.all_eq_true.mp h1.2 q hq
    simpa using this
theorem e_t_inv {k pc len : Nat} {v : Value} {ns : List Nat} {ps : List (Nat × Nat)} {loc : List (Option Value)} {st : List Value} {h : e_H} {bc bs : Nat} {K : Nat → List (Option Value) → List Value → e_H → Nat → Nat → Prop} {Q : e_O → e_H → Prop} {ix : Nat} (hd : decode (e_mb k) pc = .ok (.invokevirtual ix, 3)) (hwd : ∀ q ∈ e_wds k (e_nm k).cls (pc, .invokevirtual ix, len, v, ns, ps), q.2 ∈ e_tb) (hck : e_ckw k (e_nm k).cls (pc, .invokevirtual ix, len, v, ns, ps) = true) (hK : ∀ pc loc st h bc bs, K pc loc st h bc bs → e_Wp k pc loc st h bc bs Q)
    (H : e_stp loc st h bc bs K Q (e_rt k) (pc, .invokevirtual ix, len, v, ns, ps)) : e_Wp k pc loc st h bc bs Q := by
  rcases ns with _ | ⟨z, _ | ⟨n, _ | ⟨fl, _ | ⟨c1, _ | ⟨s1, _ | ⟨ci, hs⟩⟩⟩⟩⟩⟩
  · exact Bool.noConfusion (show false = true from hck)
  · exact Bool.noConfusion (show false = true from hck)
  · exact Bool.noConfusion (show false = true from hck)
  · exact Bool.noConfusion (show false = true from hck)
  · exact Bool.noConfusion (show false = true from hck)
  · exact Bool.noConfusion (show false = true from hck)
  · rcases ps with _ | ⟨p1, _ | ⟨p2, _ | ⟨p3, _ | ⟨p4, _ | ⟨p5, ph⟩⟩⟩⟩⟩
    · exact Bool.noConfusion (show false = true from hck)
    · exact Bool.noConfusion (show false = true from hck)
    · exact Bool.noConfusion (show false = true from hck)
    · exact Bool.noConfusion (show false = true from hck)
    · exact Bool.noConfusion (show false = true from hck)
    · have h1 : (e_ckc k z n c1 s1 && decide (e_hh z = []) && (if ci = 99 then decide ((e_nm z).cls = "java/lang/String") else decide ((e_nm z).cls = e_cN ci) && Nat.ble (ci + 1) e_cls.length) && e_ckh (e_nm k).cls (e_mb k) pc (e_hh k) hs ph) = true := hck
      simp only [Bool.and_eq_true, decide_eq_true_eq] at h1
      have h2 : ∀ q ∈ ((p1, Cond.methodLink (e_nm k).cls ix (e_nm z)) :: (p2, Cond.instanceMethod (e_nm z)) :: (p3, Cond.selects (e_nm z).cls (e_nm z) (e_nm z)) :: (p5, Cond.initialized (e_nm z).cls) :: e_wdh (e_nm k).cls (e_hh k) hs ph), q.2 ∈ e_tb := hwd
      obtain ⟨w1, h2⟩ := List.forall_mem_cons.mp h2
      obtain ⟨w2, h2⟩ := List.forall_mem_cons.mp h2
      obtain ⟨w3, h2⟩ := List.forall_mem_cons.mp h2
      obtain ⟨w4, h2⟩ := List.forall_mem_cons.mp h2
      refine e_s_inv hd rfl h1.1.1.1 h1.1.1.2 w1 w2 w3 w4 ?_ h1.2 h2 hK H
      have h3 := h1.1.2
      by_cases hc : ci = 99
      · rw [if_pos hc] at h3
        exact Or.inl ⟨hc, of_decide_eq_true h3⟩
      · rw [if_neg hc] at h3
        simp only [Bool.and_eq_true, decide_eq_true_eq] at h3
        exact Or.inr ⟨h3.1, Nat.le_of_ble_eq_true h3.2⟩
theorem e_t_ins {k pc len : Nat} {v : Value} {ns : List Nat} {ps : List (Nat × Nat)} {loc : List (Option Value)} {st : List Value} {h : e_H} {bc bs : Nat} {K : Nat → List (Option Value) → List Value → e_H → Nat → Nat → Prop} {Q : e_O → e_H → Prop} {ix : Nat} (hd : decode (e_mb k) pc = .ok (.invokestatic ix, 3)) (hwd : ∀ q ∈ e_wds k (e_nm k).cls (pc, .invokestatic ix, len, v, ns, ps), q.2 ∈ e_tb) (hck : e_ckw k (e_nm k).cls (pc, .invokestatic ix, len, v, ns, ps) = true) (hK : ∀ pc loc st h bc bs, K pc loc st h bc bs → e_Wp k pc loc st h bc bs Q)
    (H : e_stp loc st h bc bs K Q (e_rt k) (pc, .invokestatic ix, len, v, ns, ps)) : e_Wp k pc loc st h bc bs Q := by
  rcases ns with _ | ⟨z, _ | ⟨n, _ | ⟨fl, _ | ⟨c1, _ | ⟨s1, _ | ⟨s2, nr⟩⟩⟩⟩⟩⟩
  · exact Bool.noConfusion (show false = true from hck)
  · exact Bool.noConfusion (show false = true from hck)
  · exact Bool.noConfusion (show false = true from hck)
  · exact Bool.noConfusion (show false = true from hck)
  · exact Bool.noConfusion (show false = true from hck)
  · rcases ps with _ | ⟨p1, _ | ⟨p2, _ | ⟨p3, _ | ⟨p4, _ | ⟨p5, pr⟩⟩⟩⟩⟩
    · exact Bool.noConfusion (show false = true from hck)
    · exact Bool.noConfusion (show false = true from hck)
    · exact Bool.noConfusion (show false = true from hck)
    · exact Bool.noConfusion (show false = true from hck)
    · have h1 : (if fl = 3 then true && Nat.ble 200 (e_ll k) && Nat.ble 1 (e_dd k) else e_ckc k z n c1 s1 && decide (e_hh k = []) && (if fl = 0 then decide (e_hh z = []) else decide (e_hh z ≠ []))) = true := hck
      have h2 : ∀ q ∈ (if fl = 3 then [(p1, Cond.methodLink (e_nm k).cls ix arraycopyName), (p2, Cond.native arraycopyName), (p3, Cond.static arraycopyName), (p4, Cond.initialized "java/lang/System")] else [(p1, Cond.methodLink (e_nm k).cls ix (e_nm z)), (p2, Cond.static (e_nm z)), (p3, Cond.initialized (e_nm z).cls)]), q.2 ∈ e_tb := hwd
      by_cases hf : fl = 3
      · subst hf
        rw [if_pos rfl] at h1 h2
        simp only [Bool.and_eq_true] at h1
        obtain ⟨w1, h2⟩ := List.forall_mem_cons.mp h2
        obtain ⟨w2, h2⟩ := List.forall_mem_cons.mp h2
        obtain ⟨w3, h2⟩ := List.forall_mem_cons.mp h2
        obtain ⟨w4, h2⟩ := List.forall_mem_cons.mp h2
        exact e_s_cpy hd rfl w1 w2 w3 w4 (Nat.le_of_ble_eq_true h1.2) (Nat.le_of_ble_eq_true h1.1.2) hK H
      · rw [if_neg hf] at h1 h2
        simp only [Bool.and_eq_true, decide_eq_true_eq] at h1
        obtain ⟨w1, h2⟩ := List.forall_mem_cons.mp h2
        obtain ⟨w2, h2⟩ := List.forall_mem_cons.mp h2
        obtain ⟨w3, h2⟩ := List.forall_mem_cons.mp h2
        have h3 := h1.2
        by_cases hf0 : fl = 0
        · subst hf0
          rw [if_pos rfl] at h3
          exact e_s_ins0 hd rfl h1.1.1 h1.1.2 (of_decide_eq_true h3) w1 w2 w3 hK H
        · rw [if_neg hf0] at h3
          by_cases hf1 : fl = 1
          · subst hf1
            exact e_s_ins1 hd rfl h1.1.1 h1.1.2 (of_decide_eq_true h3) w1 w2 w3 hK H
          · exfalso
            have e3 : Nat.beq fl 3 = false := Bool.eq_false_iff.mpr (fun hh => hf (Nat.eq_of_beq_eq_true hh))
            have e0 : Nat.beq fl 0 = false := Bool.eq_false_iff.mpr (fun hh => hf0 (Nat.eq_of_beq_eq_true hh))
            have e1 : Nat.beq fl 1 = false := Bool.eq_false_iff.mpr (fun hh => hf1 (Nat.eq_of_beq_eq_true hh))
            replace H : e_ins loc st h bc bs K Q pc [z, n, fl, c1, s1] := H
            simp only [e_ins, e3, e0, e1] at H
            exact H
    · exact Bool.noConfusion (show false = true from hck)
  · exact Bool.noConfusion (show false = true from hck)
theorem e_t_inp {k pc len : Nat} {v : Value} {ns : List Nat} {ps : List (Nat × Nat)} {loc : List (Option Value)} {st : List Value} {h : e_H} {bc bs : Nat} {K : Nat → List (Option Value) → List Value → e_H → Nat → Nat → Prop} {Q : e_O → e_H → Prop} {ix : Nat} (hd : decode (e_mb k) pc = .ok (.invokespecial ix, 3)) (hwd : ∀ q ∈ e_wds k (e_nm k).cls (pc, .invokespecial ix, len, v, ns, ps), q.2 ∈ e_tb) (hck : e_ckw k (e_nm k).cls (pc, .invokespecial ix, len, v, ns, ps) = true) (hK : ∀ pc loc st h bc bs, K pc loc st h bc bs → e_Wp k pc loc st h bc bs Q)
    (H : e_stp loc st h bc bs K Q (e_rt k) (pc, .invokespecial ix, len, v, ns, ps)) : e_Wp k pc loc st h bc bs Q := by
  rcases ns with _ | ⟨z, _ | ⟨n, _ | ⟨fl, _ | ⟨c1, _ | ⟨s1, nr⟩⟩⟩⟩⟩
  · exact Bool.noConfusion (show false = true from hck)
  · exact Bool.noConfusion (show false = true from hck)
  · exact Bool.noConfusion (show false = true from hck)
  · exact Bool.noConfusion (show false = true from hck)
  · exact Bool.noConfusion (show false = true from hck)
  · rcases ps with _ | ⟨p1, _ | ⟨p2, _ | ⟨p3, pr⟩⟩⟩
    · exact Bool.noConfusion (show false = true from hck)
    · exact Bool.noConfusion (show false = true from hck)
    · exact Bool.noConfusion (show false = true from hck)
    · by_cases hf : fl = 2
      · subst hf
        have h1 : (true && Nat.ble 1 (e_dd k) && Nat.ble 40 (e_ll k)) = true := hck
        have h2 : ∀ q ∈ [(p1, Cond.methodLink (e_nm k).cls ix Lib.objectInit), (p2, Cond.instanceMethod Lib.objectInit), (p3, Cond.code Lib.objectInit ⟨#[0xb1]⟩ 1 none)], q.2 ∈ e_tb := hwd
        simp only [Bool.and_eq_true] at h1
        obtain ⟨w1, h2⟩ := List.forall_mem_cons.mp h2
        obtain ⟨w2, h2⟩ := List.forall_mem_cons.mp h2
        obtain ⟨w3, h2⟩ := List.forall_mem_cons.mp h2
        exact e_s_oi hd rfl w1 w2 w3 (Nat.le_of_ble_eq_true h1.1.2) (Nat.le_of_ble_eq_true h1.2) hK H
      · have key : ∀ X : Bool, e_ckw k (e_nm k).cls (pc, .invokespecial ix, len, v, z :: n :: fl :: c1 :: s1 :: nr, p1 :: p2 :: p3 :: pr) = (if fl = 2 then true && Nat.ble 1 (e_dd k) && Nat.ble 40 (e_ll k) else e_ckc k z n c1 s1 && decide (e_hh z = []) && decide ((e_nm z).name = "<init>") && decide (e_rt z = none) && X) → X = true ∧ e_ckc k z n c1 s1 = true ∧ e_hh z = [] ∧ (e_nm z).name = "<init>" ∧ e_rt z = none := by
          intro X hX
          rw [hX, if_neg hf] at hck
          simp only [Bool.and_eq_true, decide_eq_true_eq] at hck
          exact ⟨hck.2, hck.1.1.1.1, hck.1.1.1.2, hck.1.1.2, hck.1.2⟩
        rcases nr with _ | ⟨j, _ | ⟨j2, nr⟩⟩
        · rcases pr with _ | ⟨p4, _ | ⟨p5, pr⟩⟩
          · rcases fl with _ | _ | fl <;> exact Bool.noConfusion (key false rfl).1
          · rcases fl with _ | _ | fl
            · obtain ⟨-, k1, k2, k3, k4⟩ := key true rfl
              have h2 : ∀ q ∈ [(p1, Cond.methodLink (e_nm k).cls ix (e_nm z)), (p2, Cond.instanceMethod (e_nm z)), (p4, Cond.initialized (e_nm z).cls)], q.2 ∈ e_tb := hwd
              obtain ⟨w1, h2⟩ := List.forall_mem_cons.mp h2
              obtain ⟨w2, h2⟩ := List.forall_mem_cons.mp h2
              obtain ⟨w3, h2⟩ := List.forall_mem_cons.mp h2
              exact e_s_spI hd rfl k1 k2 k3 k4 w1 w2 w3 hK H
            · exact Bool.noConfusion (key false rfl).1
            · exact Bool.noConfusion (key false rfl).1
          · rcases fl with _ | _ | fl <;> exact Bool.noConfusion (key false rfl).1
        · rcases pr with _ | ⟨p4, pr⟩
          · rcases fl with _ | _ | fl
            · exact Bool.noConfusion (key false rfl).1
            · obtain ⟨k0, k1, k2, k3, k4⟩ := key (decide ((e_nest[j]?).map (fun q => (q.1, q.2.1, q.2.2.1)) = some ((e_nm k).cls, ix, e_nm z))) rfl
              have h2 : ∀ q ∈ [(p1, Cond.instanceMethod (e_nm z)), (p3, Cond.initialized (e_nm z).cls)], q.2 ∈ e_tb := hwd
              obtain ⟨w1, h2⟩ := List.forall_mem_cons.mp h2
              obtain ⟨w2, h2⟩ := List.forall_mem_cons.mp h2
              exact e_s_spN hd rfl k1 k2 k3 k4 (of_decide_eq_true k0) w1 w2 hK H
            · exact Bool.noConfusion (key false rfl).1
          · rcases fl with _ | _ | fl <;> exact Bool.noConfusion (key false rfl).1
        · rcases fl with _ | _ | fl <;> exact Bool.noConfusion (key false rfl).1
theorem e_t_new {k pc len : Nat} {v : Value} {ns : List Nat} {ps : List (Nat × Nat)} {loc : List (Option Value)} {st : List Value} {h : e_H} {bc bs : Nat} {K : Nat → List (Option Value) → List Value → e_H → Nat → Nat → Prop} {Q : e_O → e_H → Prop} {ix : Nat} (hd : decode (e_mb k) pc = .ok (.new ix, 3)) (hwd : ∀ q ∈ e_wds k (e_nm k).cls (pc, .new ix, len, v, ns, ps), q.2 ∈ e_tb) (hck : e_ckw k (e_nm k).cls (pc, .new ix, len, v, ns, ps) = true) (hK : ∀ pc loc st h bc bs, K pc loc st h bc bs → e_Wp k pc loc st h bc bs Q)
    (H : e_stp loc st h bc bs K Q (e_rt k) (pc, .new ix, len, v, ns, ps)) : e_Wp k pc loc st h bc bs Q := by
  rcases ns with _ | ⟨n0, _ | ⟨n1, _ | ⟨n2, _ | ⟨n3, nr⟩⟩⟩⟩
  · exact Bool.noConfusion (show false = true from hck)
  · exact Bool.noConfusion (show false = true from hck)
  · rcases ps with _ | ⟨p1, _ | ⟨p2, _ | ⟨p3, _ | ⟨p4, pr⟩⟩⟩⟩
    · exact Bool.noConfusion (show false = true from hck)
    · exact Bool.noConfusion (show false = true from hck)
    · exact Bool.noConfusion (show false = true from hck)
    · have h1 : (true && Nat.ble (n1 + 1) e_cls.length) = true := hck
      have h2 : ∀ q ∈ [(p1, Cond.classLink (e_nm k).cls ix (e_cN n1)), (p2, Cond.instantiable (e_cN n1) (e_cK n1)), (p3, Cond.initialized (e_cN n1))], q.2 ∈ e_tb := hwd
      obtain ⟨w1, h2⟩ := List.forall_mem_cons.mp h2
      obtain ⟨w2, h2⟩ := List.forall_mem_cons.mp h2
      obtain ⟨w3, h2⟩ := List.forall_mem_cons.mp h2
      rcases n0 with _ | _ | n0
      · exact e_s_new hd rfl (Nat.le_of_ble_eq_true h1) w1 w2 w3 hK H
      · exact False.elim H
      · exact False.elim H
    · exact Bool.noConfusion (show false = true from hck)
  · rcases ps with _ | ⟨p1, _ | ⟨p2, _ | ⟨p3, _ | ⟨p4, pr⟩⟩⟩⟩
    · exact Bool.noConfusion (show false = true from hck)
    · exact Bool.noConfusion (show false = true from hck)
    · exact Bool.noConfusion (show false = true from hck)
    · have h1 : (true && Nat.ble (n1 + 1) e_exc.length && decide (e_hh k = []) && Nat.ble 6 (e_dd k) && Nat.ble (8 + (13 * 3 + 42)) (e_ll k) && decide (decode (e_mb k) (pc + 3) = .ok (.dup, 1)) && decide (decode (e_mb k) (pc + 4) = .ok (.invokespecial n2, 3)) && decide (decode (e_mb k) (pc + 7) = .ok (.athrow, 1))) = true := hck
      have h2 : ∀ q ∈ [(p1, Cond.classLink (e_nm k).cls ix (e_exc.getD n1 "")), (p2, Cond.initialized (e_exc.getD n1 "")), (p3, Cond.methodLink (e_nm k).cls n2 (Bundle.init0 (e_exc.getD n1 "")))], q.2 ∈ e_tb := hwd
      simp only [Bool.and_eq_true, decide_eq_true_eq, Bool.true_and] at h1
      obtain ⟨w1, h2⟩ := List.forall_mem_cons.mp h2
      obtain ⟨w2, h2⟩ := List.forall_mem_cons.mp h2
      obtain ⟨w3, h2⟩ := List.forall_mem_cons.mp h2
      rcases n0 with _ | _ | n0
      · exact False.elim H
      · exact e_s_throw hd rfl (Nat.le_of_ble_eq_true h1.1.1.1.1.1.1) h1.1.1.1.1.1.2 (Nat.le_of_ble_eq_true h1.1.1.1.1.2) (Nat.le_of_ble_eq_true h1.1.1.1.2) h1.1.1.2 h1.1.2 h1.2 w1 w2 w3 hK H
      · exact False.elim H
    · exact Bool.noConfusion (show false = true from hck)
  · exact Bool.noConfusion (show false = true from hck)
theorem e_t_newa {k pc len : Nat} {v : Value} {ns : List Nat} {ps : List (Nat × Nat)} {loc : List (Option Value)} {st : List Value} {h : e_H} {bc bs : Nat} {K : Nat → List (Option Value) → List Value → e_H → Nat → Nat → Prop} {Q : e_O → e_H → Prop} {t : ArrayType} (hd : decode (e_mb k) pc = .ok (.newarray t, 2)) (hwd : ∀ q ∈ e_wds k (e_nm k).cls (pc, .newarray t, len, v, ns, ps), q.2 ∈ e_tb) (hck : e_ckw k (e_nm k).cls (pc, .newarray t, len, v, ns, ps) = true) (hK : ∀ pc loc st h bc bs, K pc loc st h bc bs → e_Wp k pc loc st h bc bs Q)
    (H : e_stp loc st h bc bs K Q (e_rt k) (pc, .newarray t, len, v, ns, ps)) : e_Wp k pc loc st h bc bs Q := by
  rcases ns with _ | ⟨n0, _ | ⟨n1, nr⟩⟩
  · exact Bool.noConfusion (show false = true from hck)
  · rcases ps with _ | ⟨p1, _ | ⟨p2, pr⟩⟩
    · exact Bool.noConfusion (show false = true from hck)
    · have h2 : ∀ q ∈ [(p1, Cond.arrayClass (newarray.typeOf t))], q.2 ∈ e_tb := hwd
      have w1 := h2 _ List.mem_cons_self
      cases t <;> try exact Bool.noConfusion (show false = true from hck)
      case int =>
        rcases n0 with _ | n0
        · exact e_s_newa_int hd rfl w1 hK H
        · exact Bool.noConfusion (show false = true from hck)
      case long =>
        rcases n0 with _ | _ | n0
        · exact Bool.noConfusion (show false = true from hck)
        · exact e_s_newa_long hd rfl w1 hK H
        · exact Bool.noConfusion (show false = true from hck)
      case char =>
        rcases n0 with _ | _ | _ | n0
        · exact Bool.noConfusion (show false = true from hck)
        · exact Bool.noConfusion (show false = true from hck)
        · exact e_s_newa_char hd rfl w1 hK H
        · exact Bool.noConfusion (show false = true from hck)
      case double =>
        rcases n0 with _ | _ | _ | _ | n0
        · exact Bool.noConfusion (show false = true from hck)
        · exact Bool.noConfusion (show false = true from hck)
        · exact Bool.noConfusion (show false = true from hck)
        · exact e_s_newa_double hd rfl w1 hK H
        · exact Bool.noConfusion (show false = true from hck)
    · exact Bool.noConfusion (show false = true from hck)
  · exact Bool.noConfusion (show false = true from hck)
theorem e_t_anewa {k pc len : Nat} {v : Value} {ns : List Nat} {ps : List (Nat × Nat)} {loc : List (Option Value)} {st : List Value} {h : e_H} {bc bs : Nat} {K : Nat → List (Option Value) → List Value → e_H → Nat → Nat → Prop} {Q : e_O → e_H → Prop} {ix : Nat} (hd : decode (e_mb k) pc = .ok (.anewarray ix, 3)) (hwd : ∀ q ∈ e_wds k (e_nm k).cls (pc, .anewarray ix, len, v, ns, ps), q.2 ∈ e_tb) (hck : e_ckw k (e_nm k).cls (pc, .anewarray ix, len, v, ns, ps) = true) (hK : ∀ pc loc st h bc bs, K pc loc st h bc bs → e_Wp k pc loc st h bc bs Q)
    (H : e_stp loc st h bc bs K Q (e_rt k) (pc, .anewarray ix, len, v, ns, ps)) : e_Wp k pc loc st h bc bs Q := by
  rcases ps with _ | ⟨p1, _ | ⟨p2, pr⟩⟩
  · exact Bool.noConfusion (show false = true from hck)
  · exact e_s_anewa hd ((show ∀ q ∈ [(p1, Cond.classLink (e_nm k).cls ix "HexCampaign$Game")], q.2 ∈ e_tb from hwd) _ List.mem_cons_self) hK H
  · exact Bool.noConfusion (show false = true from hck)
set_option maxHeartbeats 4000000 in
theorem e_sound {k : Nat} {en : e_I} {loc : List (Option Value)} {st : List Value} {h : e_H} {bc bs : Nat} {K : Nat → List (Option Value) → List Value → e_H → Nat → Nat → Prop} {Q : e_O → e_H → Prop} (hck : e_ck k en = true) (hwd : ∀ q ∈ e_wds k (e_nm k).cls en, q.2 ∈ e_tb)
    (hK : ∀ pc loc st h bc bs, K pc loc st h bc bs → e_Wp k pc loc st h bc bs Q) (H : e_stp loc st h bc bs K Q (e_rt k) en) : e_Wp k en.1 loc st h bc bs Q := by
  obtain ⟨pc, ins, len, v, ns, ps⟩ := en
  simp only [e_ck, Bool.and_eq_true, decide_eq_true_eq, Bool.or_eq_true] at hck
  obtain ⟨⟨hd, hln⟩, hck⟩ := hck
  cases ins <;> try exact False.elim H
  case aconst_null =>
    obtain rfl := e_lenOf hln (n := 1) rfl (by decide)
    exact e_s_null hd hK H
  case iconst n =>
    obtain rfl := e_lenOf hln (n := 1) rfl (by decide)
    exact e_s_iconst hd hK H
  case bipush n =>
    obtain rfl := e_lenOf hln (n := 2) rfl (by decide)
    exact e_s_bipush hd hK H
  case sipush n =>
    obtain rfl := e_lenOf hln (n := 3) rfl (by decide)
    exact e_s_sipush hd hK H
  case lconst n =>
    obtain rfl := e_lenOf hln (n := 1) rfl (by decide)
    exact e_s_lconst hd hK H
  case dconst n =>
    obtain rfl := e_lenOf hln (n := 1) rfl (by decide)
    exact e_s_dconst hd hK H
  case iload i =>
    obtain rfl := e_lenOf hln (n := 2) rfl (by decide)
    exact e_s_iload hd hK H
  case iload_n i =>
    obtain rfl := e_lenOf hln (n := 1) rfl (by decide)
    exact e_s_iload_n hd hK H
  case lload i =>
    obtain rfl := e_lenOf hln (n := 2) rfl (by decide)
    exact e_s_lload hd hK H
  case lload_n i =>
    obtain rfl := e_lenOf hln (n := 1) rfl (by decide)
    exact e_s_lload_n hd hK H
  case dload i =>
    obtain rfl := e_lenOf hln (n := 2) rfl (by decide)
    exact e_s_dload hd hK H
  case dload_n i =>
    obtain rfl := e_lenOf hln (n := 1) rfl (by decide)
    exact e_s_dload_n hd hK H
  case aload i =>
    obtain rfl := e_lenOf hln (n := 2) rfl (by decide)
    exact e_s_aload hd hK H
  case aload_n i =>
    obtain rfl := e_lenOf hln (n := 1) rfl (by decide)
    exact e_s_aload_n hd hK H
  case istore i =>
    obtain rfl := e_lenOf hln (n := 2) rfl (by decide)
    exact e_s_istore hd hK H
  case istore_n i =>
    obtain rfl := e_lenOf hln (n := 1) rfl (by decide)
    exact e_s_istore_n hd hK H
  case lstore i =>
    obtain rfl := e_lenOf hln (n := 2) rfl (by decide)
    exact e_s_lstore hd hK H
  case lstore_n i =>
    obtain rfl := e_lenOf hln (n := 1) rfl (by decide)
    exact e_s_lstore_n hd hK H
  case dstore i =>
    obtain rfl := e_lenOf hln (n := 2) rfl (by decide)
    exact e_s_dstore hd hK H
  case dstore_n i =>
    obtain rfl := e_lenOf hln (n := 1) rfl (by decide)
    exact e_s_dstore_n hd hK H
  case astore i =>
    obtain rfl := e_lenOf hln (n := 2) rfl (by decide)
    exact e_s_astore hd hK H
  case astore_n i =>
    obtain rfl := e_lenOf hln (n := 1) rfl (by decide)
    exact e_s_astore_n hd hK H
  case iinc i n =>
    obtain rfl := e_lenOf hln (n := 3) rfl (by decide)
    exact e_s_iinc hd hK H
  case iadd =>
    obtain rfl := e_lenOf hln (n := 1) rfl (by decide)
    exact e_s_iadd hd hK H
  case isub =>
    obtain rfl := e_lenOf hln (n := 1) rfl (by decide)
    exact e_s_isub hd hK H
  case imul =>
    obtain rfl := e_lenOf hln (n := 1) rfl (by decide)
    exact e_s_imul hd hK H
  case iand =>
    obtain rfl := e_lenOf hln (n := 1) rfl (by decide)
    exact e_s_iand hd hK H
  case ior =>
    obtain rfl := e_lenOf hln (n := 1) rfl (by decide)
    exact e_s_ior hd hK H
  case ixor =>
    obtain rfl := e_lenOf hln (n := 1) rfl (by decide)
    exact e_s_ixor hd hK H
  case ishl =>
    obtain rfl := e_lenOf hln (n := 1) rfl (by decide)
    exact e_s_ishl hd hK H
  case ishr =>
    obtain rfl := e_lenOf hln (n := 1) rfl (by decide)
    exact e_s_ishr hd hK H
  case iushr =>
    obtain rfl := e_lenOf hln (n := 1) rfl (by decide)
    exact e_s_iushr hd hK H
  case idiv =>
    obtain rfl := e_lenOf hln (n := 1) rfl (by decide)
    exact e_s_idiv hd hK H
  case irem =>
    obtain rfl := e_lenOf hln (n := 1) rfl (by decide)
    exact e_s_irem hd hK H
  case ineg =>
    obtain rfl := e_lenOf hln (n := 1) rfl (by decide)
    exact e_s_ineg hd hK H
  case i2l =>
    obtain rfl := e_lenOf hln (n := 1) rfl (by decide)
    exact e_s_i2l hd hK H
  case i2c =>
    obtain rfl := e_lenOf hln (n := 1) rfl (by decide)
    exact e_s_i2c hd hK H
  case i2d =>
    obtain rfl := e_lenOf hln (n := 1) rfl (by decide)
    exact e_s_i2d hd hK H
  case land =>
    obtain rfl := e_lenOf hln (n := 1) rfl (by decide)
    exact e_s_land hd hK H
  case lor =>
    obtain rfl := e_lenOf hln (n := 1) rfl (by decide)
    exact e_s_lor hd hK H
  case lxor =>
    obtain rfl := e_lenOf hln (n := 1) rfl (by decide)
    exact e_s_lxor hd hK H
  case ladd =>
    obtain rfl := e_lenOf hln (n := 1) rfl (by decide)
    exact e_s_ladd hd hK H
  case lcmp =>
    obtain rfl := e_lenOf hln (n := 1) rfl (by decide)
    exact e_s_lcmp hd hK H
  case lshl =>
    obtain rfl := e_lenOf hln (n := 1) rfl (by decide)
    exact e_s_lshl hd hK H
  case lshr =>
    obtain rfl := e_lenOf hln (n := 1) rfl (by decide)
    exact e_s_lshr hd hK H
  case lushr =>
    obtain rfl := e_lenOf hln (n := 1) rfl (by decide)
    exact e_s_lushr hd hK H
  case ddiv =>
    obtain rfl := e_lenOf hln (n := 1) rfl (by decide)
    exact e_s_ddiv hd hK H
  case dup =>
    obtain rfl := e_lenOf hln (n := 1) rfl (by decide)
    exact e_s_dup hd hK H
  case dup2 =>
    obtain rfl := e_lenOf hln (n := 1) rfl (by decide)
    exact e_s_dup2 hd hK H
  case pop =>
    obtain rfl := e_lenOf hln (n := 1) rfl (by decide)
    exact e_s_pop hd hK H
  case pop2 =>
    obtain rfl := e_lenOf hln (n := 1) rfl (by decide)
    exact e_s_pop2 hd hK H
  case arraylength =>
    obtain rfl := e_lenOf hln (n := 1) rfl (by decide)
    exact e_s_alen hd hK H
  case iaload =>
    obtain rfl := e_lenOf hln (n := 1) rfl (by decide)
    exact e_s_iaload hd hK H
  case caload =>
    obtain rfl := e_lenOf hln (n := 1) rfl (by decide)
    exact e_s_caload hd hK H
  case baload =>
    obtain rfl := e_lenOf hln (n := 1) rfl (by decide)
    exact e_s_baload hd hK H
  case laload =>
    obtain rfl := e_lenOf hln (n := 1) rfl (by decide)
    exact e_s_laload hd hK H
  case daload =>
    obtain rfl := e_lenOf hln (n := 1) rfl (by decide)
    exact e_s_daload hd hK H
  case aaload =>
    obtain rfl := e_lenOf hln (n := 1) rfl (by decide)
    exact e_s_aaload hd hK H
  case iastore =>
    obtain rfl := e_lenOf hln (n := 1) rfl (by decide)
    exact e_s_iastore hd hK H
  case castore =>
    obtain rfl := e_lenOf hln (n := 1) rfl (by decide)
    exact e_s_castore hd hK H
  case lastore =>
    obtain rfl := e_lenOf hln (n := 1) rfl (by decide)
    exact e_s_lastore hd hK H
  case dastore =>
    obtain rfl := e_lenOf hln (n := 1) rfl (by decide)
    exact e_s_dastore hd hK H
  case aastore =>
    obtain rfl := e_lenOf hln (n := 1) rfl (by decide)
    exact e_s_aastore hd hK H
  case ireturn =>
    obtain rfl := e_lenOf hln (n := 1) rfl (by decide)
    exact e_s_ireturn hd hK H
  case lreturn =>
    obtain rfl := e_lenOf hln (n := 1) rfl (by decide)
    exact e_s_lreturn hd hK H
  case dreturn =>
    obtain rfl := e_lenOf hln (n := 1) rfl (by decide)
    exact e_s_dreturn hd hK H
  case areturn =>
    obtain rfl := e_lenOf hln (n := 1) rfl (by decide)
    exact e_s_areturn hd hK H
  case return_ =>
    obtain rfl := e_lenOf hln (n := 1) rfl (by decide)
    exact e_s_return hd hK H
  case dcmp op =>
    obtain rfl := e_lenOf hln (n := 1) rfl (by decide)
    exact e_s_dcmp hd hK H
  case ldc ix =>
    obtain rfl := e_lenOf hln (n := 2) rfl (by decide)
    exact e_t_ldc hd hwd hck hK H
  case ldc_w ix =>
    obtain rfl := e_lenOf hln (n := 3) rfl (by decide)
    exact e_t_ldc_w hd hwd hck hK H
  case ldc2_w ix =>
    obtain rfl := e_lenOf hln (n := 3) rfl (by decide)
    exact e_t_ldc2 hd hwd hck hK H
  case getstatic ix =>
    obtain rfl := e_lenOf hln (n := 3) rfl (by decide)
    exact e_t_getstatic hd hwd hck hK H
  case getfield ix =>
    obtain rfl := e_lenOf hln (n := 3) rfl (by decide)
    exact e_t_getfield hd hwd hck hK H
  case putfield ix =>
    obtain rfl := e_lenOf hln (n := 3) rfl (by decide)
    exact e_t_putfield hd hwd hck hK H
  case goto o =>
    obtain rfl := e_lenOf hln (n := 3) rfl (by decide)
    exact e_t_goto hd hwd hck hK H
  case ifnull o =>
    obtain rfl := e_lenOf hln (n := 3) rfl (by decide)
    exact e_t_ifnull hd hwd hck hK H
  case ifnonnull o =>
    obtain rfl := e_lenOf hln (n := 3) rfl (by decide)
    exact e_t_ifnonnull hd hwd hck hK H
  case invokevirtual ix =>
    obtain rfl := e_lenOf hln (n := 3) rfl (by decide)
    exact e_t_inv hd hwd hck hK H
  case invokestatic ix =>
    obtain rfl := e_lenOf hln (n := 3) rfl (by decide)
    exact e_t_ins hd hwd hck hK H
  case invokespecial ix =>
    obtain rfl := e_lenOf hln (n := 3) rfl (by decide)
    exact e_t_inp hd hwd hck hK H
  case new ix =>
    obtain rfl := e_lenOf hln (n := 3) rfl (by decide)
    exact e_t_new hd hwd hck hK H
  case newarray t =>
    obtain rfl := e_lenOf hln (n := 2) rfl (by decide)
    exact e_t_newa hd hwd hck hK H
  case anewarray ix =>
    obtain rfl := e_lenOf hln (n := 3) rfl (by decide)
    exact e_t_anewa hd hwd hck hK H
  case ifCond c o =>
    obtain rfl := e_lenOf hln (n := 3) rfl (by decide)
    cases c
    · exact e_t_if_eq hd hwd hck hK H
    · exact e_t_if_ne hd hwd hck hK H
    · exact e_t_if_lt hd hwd hck hK H
    · exact e_t_if_ge hd hwd hck hK H
    · exact e_t_if_gt hd hwd hck hK H
    · exact e_t_if_le hd hwd hck hK H
  case if_icmp c o =>
    obtain rfl := e_lenOf hln (n := 3) rfl (by decide)
    cases c
    · exact e_t_icmp_eq hd hwd hck hK H
    · exact e_t_icmp_ne hd hwd hck hK H
    · exact e_t_icmp_lt hd hwd hck hK H
    · exact e_t_icmp_ge hd hwd hck hK H
    · exact e_t_icmp_gt hd hwd hck hK H
    · exact e_t_icmp_le hd hwd hck hK H
  case tableswitch d lo hi offs =>
    exact e_t_tsw hd hwd hck hK H
  case lookupswitch d qs =>
    exact e_t_lsw hd hwd hck hK H
