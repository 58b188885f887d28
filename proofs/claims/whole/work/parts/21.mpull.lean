/-! ===== how the model's seams pull, wear, stand ===== -/
theorem dm_r {M M' : MM} {s : Nat} (f : Nat) (h0 : 0 < f) (h7 : f < 7) (hs : s < dn (dm M)) (h : Sm (fun a _ => a = 89) M M') : M' (77 + f) s = dm M f s := by
  rw [dm_s f h0 h7 hs]; exact h _ _ (by show ¬ 77 + f = 89; omega)
theorem lt4 (x : Int32) : x ≤ 3 ↔ x < 4 := by
  rw [i_le, i_lt]
  have a : (3 : Int32).toInt = 3 := rfl
  have b : (4 : Int32).toInt = 4 := rfl
  rw [a, b]; omega
def T_X6_pulls (g : WG) (as : List Value) (M : MM) (Q : Option Value → MM → Prop) : Prop := ∃ s hh, as = [.ref 76, .int (nI s), .int (nI hh)] ∧ okM M ∧ s < dn (dm M) ∧ hh < 16 ∧ ∀ M', Sm (fun a _ => a = 89) M M' → Q (some (.int (pul (xm M) (dm M) s hh))) M'
set_option maxRecDepth 100000 in
set_option maxHeartbeats 1000000 in
theorem t_X6_pulls {l : Launch} {g : WG} (hg : Full g) : Ct l g yX6_pulls cX6_pulls 4 ((Option.some FieldType.int)) 4 (T_X6_pulls g) := by
  refine Ct.of (by decide) (fun as M Q h => ?_) (fun p e s m args below meth c as M Q h C => ?_)
  · obtain ⟨s0, hh, rfl, ho, hs0, hh16, h⟩ := h; exact ⟨by simp, by simp [Value.category]⟩
  · obtain ⟨s0, hh, rfl, ho, hs0, hh16, h⟩ := h
    have hn := ho.n
    refine s_of (fun lv st M0 hs => ?_) (WX6_pulls_0 C (t_X6_ruled hg) (by decide) (t_X6_bound hg) (by decide) (t_X6_lengthOf hg) (by decide))
    obtain ⟨rfl, rfl, rfl⟩ := hs
    unfold BX6_pulls_0
    generalize hB12 : BX6_pulls_12 g Q (T_X6_ruled g) (T_X6_bound g) (T_X6_lengthOf g) = B12
    simp only [T_X6_ruled, T_X6_bound, T_X6_lengthOf, i_const, i_lconst, i_iload, i_aload, i_lload, i_istore, i_astore, i_lstore, i_iinc, i_bin, i_div, i_un, i_i2l, i_l2i, i_lbin, i_lcmp, i_if, i_icmp, i_dup, i_dup_x1, i_dup2, i_pop, i_geti, i_getr, i_getd, i_puti, i_putz, i_putd, i_iald, i_bald, i_aald, i_iast, i_bast, i_alen, i_keep, i_ret, i_retz, i_reta, i_retl, i_retv, i_callv, i_callk, i_calls, i_mm, i_copy, i_under, i_undld, i_ldcs, i_sw, q_swc0, q_swc1, q_lg0, q_lg1, q_lent0, q_lent1, lset, lset2, q_lins0, q_lins1, q_ldel0, q_ldel1, q_ldel20, q_ldel21, q_lkeep0, q_lkeep1, q_memb0, q_memb1, cat2, Nat.reduceBEq, decide_true, decide_false, decide_eq_true_eq, cond_true, cond_false, Bool.and_true, Bool.and_false, Bool.true_and, Bool.false_and, f_iadd, f_isub, f_imul, f_ishl, f_ishr, f_iushr, f_iand, f_ior, f_idiv, f_irem, f_ineg, f_i2b, f_i2s, f_ladd, f_lmul, c_eq, c_ne, c_lt, c_ge, c_gt, c_le, cc_eq, cc_ne, cc_lt, cc_ge, cc_gt, cc_le, rfo, aof, csum, Value.category, List.take, List.drop, List.reverse, List.reverseAux, List.map, List.sum_cons, List.sum_nil, List.cons_append, List.nil_append, Option.toList, List.mem_cons, List.not_mem_nil, List.length_cons, List.length_nil, reduceIte, Nat.reduceEqDiff, Nat.reduceAdd, Nat.reduceLeDiff, Nat.reduceLT, a_day, Nat.zero_ne_one, Nat.one_ne_zero, false_and, and_false, true_and, and_true, or_false, false_or, or_true, true_or, not_true_eq_false, not_false_eq_true, Nat.zero_add, Nat.add_zero, Nat.le_refl, Nat.lt_irrefl, Nat.zero_lt_succ, Nat.zero_le, forall_const, List.cons.injEq, Value.int.injEq, Value.ref.injEq, Value.long.injEq, and_assoc, exists_and_left, exists_eq_left']
    try simp only [forall_eq]
    have e77 : M0 77 hh = dm M0 0 hh := (dm_0 M0 hh16).symm
    rw [nI_clamp (by omega), e77]
    refine ⟨m_76 hg, m_77 hg, vm l_77 hh16 (by decide), (m_76 hg).1, (m_76 hg).2.1, 0, rfl, s0, rfl, by decide, ho, hs0, fun M1 hs1 => ?_⟩
    rw [if_neg (by decide : ¬ (0 : Nat) = 2)]
    have h' := h M1 hs1
    unfold pul at h'
    generalize bnd (rul (xm M0) (dm M0) 0 s0 (dm M0 0 hh)) 99 = v at h' ⊢
    have k1 : M1 78 s0 = dm M0 1 s0 := dm_r 1 (by omega) (by omega) hs0 hs1
    have k2 : M1 79 s0 = dm M0 2 s0 := dm_r 2 (by omega) (by omega) hs0 hs1
    have k3 : M1 80 s0 = dm M0 3 s0 := dm_r 3 (by omega) (by omega) hs0 hs1
    have k4 : M1 81 s0 = dm M0 4 s0 := dm_r 4 (by omega) (by omega) hs0 hs1
    subst hB12
    unfold BX6_pulls_12
    generalize hB70 : BX6_pulls_70 g Q (T_X6_ruled g) (T_X6_bound g) (T_X6_lengthOf g) = B70
    simp only [T_X6_ruled, T_X6_bound, T_X6_lengthOf, i_const, i_lconst, i_iload, i_aload, i_lload, i_istore, i_astore, i_lstore, i_iinc, i_bin, i_div, i_un, i_i2l, i_l2i, i_lbin, i_lcmp, i_if, i_icmp, i_dup, i_dup_x1, i_dup2, i_pop, i_geti, i_getr, i_getd, i_puti, i_putz, i_putd, i_iald, i_bald, i_aald, i_iast, i_bast, i_alen, i_keep, i_ret, i_retz, i_reta, i_retl, i_retv, i_callv, i_callk, i_calls, i_mm, i_copy, i_under, i_undld, i_ldcs, i_sw, q_swc0, q_swc1, q_lg0, q_lg1, q_lent0, q_lent1, lset, lset2, q_lins0, q_lins1, q_ldel0, q_ldel1, q_ldel20, q_ldel21, q_lkeep0, q_lkeep1, q_memb0, q_memb1, cat2, Nat.reduceBEq, decide_true, decide_false, decide_eq_true_eq, cond_true, cond_false, Bool.and_true, Bool.and_false, Bool.true_and, Bool.false_and, f_iadd, f_isub, f_imul, f_ishl, f_ishr, f_iushr, f_iand, f_ior, f_idiv, f_irem, f_ineg, f_i2b, f_i2s, f_ladd, f_lmul, c_eq, c_ne, c_lt, c_ge, c_gt, c_le, cc_eq, cc_ne, cc_lt, cc_ge, cc_gt, cc_le, rfo, aof, csum, Value.category, List.take, List.drop, List.reverse, List.reverseAux, List.map, List.sum_cons, List.sum_nil, List.cons_append, List.nil_append, Option.toList, List.mem_cons, List.not_mem_nil, List.length_cons, List.length_nil, reduceIte, Nat.reduceEqDiff, Nat.reduceAdd, Nat.reduceLeDiff, Nat.reduceLT, a_day, Nat.zero_ne_one, Nat.one_ne_zero, false_and, and_false, true_and, and_true, or_false, false_or, or_true, true_or, not_true_eq_false, not_false_eq_true, Nat.zero_add, Nat.add_zero, Nat.le_refl, Nat.lt_irrefl, Nat.zero_lt_succ, Nat.zero_le, forall_const, List.cons.injEq, Value.int.injEq, Value.ref.injEq, Value.long.injEq, and_assoc, exists_and_left, exists_eq_left']
    try simp only [forall_eq]
    rw [nI_clamp (by omega), k1, k2]
    rw [lenS', ← k3, ← k4] at h'
    refine ⟨m_76 hg, m_78 hg, vm l_78 (by omega) (by decide), fun e1 => ?_, fun e1 => ⟨fun e2 => ?_, fun e2 => ⟨fun e3 => ?_, fun e3 => ⟨fun e4 => ?_, fun e4 => ⟨fun e5 => ?_, fun e5 => ?_⟩⟩⟩⟩⟩
    · simp only [kindP, if_pos e1] at h'; exact ⟨by decide, h'⟩
    · simp only [kindP, if_neg e1, if_pos e2] at h'; exact h'
    · simp only [kindP, if_neg e1, if_neg e2, if_pos e3] at h'
      refine ⟨(m_76 hg).1, (m_76 hg).2.1, s0, rfl, by omega, ?_⟩
      generalize M1 81 s0 - M1 80 s0 + 1 = ll at h' ⊢
      subst hB70
      unfold BX6_pulls_70
      simp only [T_X6_ruled, T_X6_bound, T_X6_lengthOf, i_const, i_lconst, i_iload, i_aload, i_lload, i_istore, i_astore, i_lstore, i_iinc, i_bin, i_div, i_un, i_i2l, i_l2i, i_lbin, i_lcmp, i_if, i_icmp, i_dup, i_dup_x1, i_dup2, i_pop, i_geti, i_getr, i_getd, i_puti, i_putz, i_putd, i_iald, i_bald, i_aald, i_iast, i_bast, i_alen, i_keep, i_ret, i_retz, i_reta, i_retl, i_retv, i_callv, i_callk, i_calls, i_mm, i_copy, i_under, i_undld, i_ldcs, i_sw, q_swc0, q_swc1, q_lg0, q_lg1, q_lent0, q_lent1, lset, lset2, q_lins0, q_lins1, q_ldel0, q_ldel1, q_ldel20, q_ldel21, q_lkeep0, q_lkeep1, q_memb0, q_memb1, cat2, Nat.reduceBEq, decide_true, decide_false, decide_eq_true_eq, cond_true, cond_false, Bool.and_true, Bool.and_false, Bool.true_and, Bool.false_and, f_iadd, f_isub, f_imul, f_ishl, f_ishr, f_iushr, f_iand, f_ior, f_idiv, f_irem, f_ineg, f_i2b, f_i2s, f_ladd, f_lmul, c_eq, c_ne, c_lt, c_ge, c_gt, c_le, cc_eq, cc_ne, cc_lt, cc_ge, cc_gt, cc_le, rfo, aof, csum, Value.category, List.take, List.drop, List.reverse, List.reverseAux, List.map, List.sum_cons, List.sum_nil, List.cons_append, List.nil_append, Option.toList, List.mem_cons, List.not_mem_nil, List.length_cons, List.length_nil, reduceIte, Nat.reduceEqDiff, Nat.reduceAdd, Nat.reduceLeDiff, Nat.reduceLT, a_day, Nat.zero_ne_one, Nat.one_ne_zero, false_and, and_false, true_and, and_true, or_false, false_or, or_true, true_or, not_true_eq_false, not_false_eq_true, Nat.zero_add, Nat.add_zero, Nat.le_refl, Nat.lt_irrefl, Nat.zero_lt_succ, Nat.zero_le, forall_const, List.cons.injEq, Value.int.injEq, Value.ref.injEq, Value.long.injEq, and_assoc, exists_and_left, exists_eq_left']
      try simp only [forall_eq]
      refine ⟨fun z => ⟨by decide, ?_⟩, fun z => ?_⟩
      · rwa [if_neg (fun q => i_not_lt.mpr z ((lt4 ll).mp q))] at h'
      · rwa [if_pos ((lt4 ll).mpr (i_not_le.mp z))] at h'
    · simp only [kindP, if_neg e1, if_neg e2, if_neg e3, if_pos e4] at h'
      exact ⟨m_76 hg, m_79 hg, vm l_79 (by omega) (by decide), h'⟩
    · simp only [kindP, if_neg e1, if_neg e2, if_neg e3, if_neg e4, if_pos e5] at h'; exact ⟨(m_76 hg).1, (m_76 hg).2.1, s0, rfl, by omega, h'⟩
    · simp only [kindP, if_neg e1, if_neg e2, if_neg e3, if_neg e4, if_neg e5] at h'; exact h'
def T_X6_wears (g : WG) (as : List Value) (M : MM) (Q : Option Value → MM → Prop) : Prop := ∃ s, as = [.ref 76, .int (nI s)] ∧ okM M ∧ s < dn (dm M) ∧ ∀ M', Sm (fun a _ => a = 89) M M' → Q (some (.int (wea (xm M) (dm M) s))) M'
set_option maxRecDepth 100000 in
set_option maxHeartbeats 1000000 in
theorem t_X6_wears {l : Launch} {g : WG} (hg : Full g) : Ct l g yX6_wears cX6_wears 3 ((Option.some FieldType.int)) 4 (T_X6_wears g) := by
  refine Ct.of (by decide) (fun as M Q h => ?_) (fun p e s m args below meth c as M Q h C => ?_)
  · obtain ⟨s0, rfl, ho, hs0, h⟩ := h; exact ⟨by simp, by simp [Value.category]⟩
  · obtain ⟨s0, rfl, ho, hs0, h⟩ := h
    have hn := ho.n
    refine s_of (fun lv st M0 hs => ?_) (WX6_wears_0 C (t_X6_ruled hg) (by decide) (t_X6_bound hg) (by decide))
    obtain ⟨rfl, rfl, rfl⟩ := hs
    unfold BX6_wears_0
    generalize hB7 : BX6_wears_7 g Q (T_X6_ruled g) (T_X6_bound g) = B7
    simp only [T_X6_ruled, T_X6_bound, i_const, i_lconst, i_iload, i_aload, i_lload, i_istore, i_astore, i_lstore, i_iinc, i_bin, i_div, i_un, i_i2l, i_l2i, i_lbin, i_lcmp, i_if, i_icmp, i_dup, i_dup_x1, i_dup2, i_pop, i_geti, i_getr, i_getd, i_puti, i_putz, i_putd, i_iald, i_bald, i_aald, i_iast, i_bast, i_alen, i_keep, i_ret, i_retz, i_reta, i_retl, i_retv, i_callv, i_callk, i_calls, i_mm, i_copy, i_under, i_undld, i_ldcs, i_sw, q_swc0, q_swc1, q_lg0, q_lg1, q_lent0, q_lent1, lset, lset2, q_lins0, q_lins1, q_ldel0, q_ldel1, q_ldel20, q_ldel21, q_lkeep0, q_lkeep1, q_memb0, q_memb1, cat2, Nat.reduceBEq, decide_true, decide_false, decide_eq_true_eq, cond_true, cond_false, Bool.and_true, Bool.and_false, Bool.true_and, Bool.false_and, f_iadd, f_isub, f_imul, f_ishl, f_ishr, f_iushr, f_iand, f_ior, f_idiv, f_irem, f_ineg, f_i2b, f_i2s, f_ladd, f_lmul, c_eq, c_ne, c_lt, c_ge, c_gt, c_le, cc_eq, cc_ne, cc_lt, cc_ge, cc_gt, cc_le, rfo, aof, csum, Value.category, List.take, List.drop, List.reverse, List.reverseAux, List.map, List.sum_cons, List.sum_nil, List.cons_append, List.nil_append, Option.toList, List.mem_cons, List.not_mem_nil, List.length_cons, List.length_nil, reduceIte, Nat.reduceEqDiff, Nat.reduceAdd, Nat.reduceLeDiff, Nat.reduceLT, a_day, Nat.zero_ne_one, Nat.one_ne_zero, false_and, and_false, true_and, and_true, or_false, false_or, or_true, true_or, not_true_eq_false, not_false_eq_true, Nat.zero_add, Nat.add_zero, Nat.le_refl, Nat.lt_irrefl, Nat.zero_lt_succ, Nat.zero_le, forall_const, List.cons.injEq, Value.int.injEq, Value.ref.injEq, Value.long.injEq, and_assoc, exists_and_left, exists_eq_left']
    try simp only [forall_eq]
    refine ⟨(m_76 hg).1, (m_76 hg).2.1, 1, rfl, s0, rfl, by decide, ho, hs0, fun M1 hs1 => ?_⟩
    rw [if_neg (by decide : ¬ (1 : Nat) = 2)]
    have h' := h M1 hs1
    unfold wea at h'
    generalize bnd (rul (xm M0) (dm M0) 1 s0 0) 99 = v at h' ⊢
    have k1 : M1 78 s0 = dm M0 1 s0 := dm_r 1 (by omega) (by omega) hs0 hs1
    have k2 : M1 79 s0 = dm M0 2 s0 := dm_r 2 (by omega) (by omega) hs0 hs1
    have k7 : M1 76 0 = dm M0 7 1 := hs1 _ _ (by decide)
    subst hB7
    unfold BX6_wears_7
    simp only [T_X6_ruled, T_X6_bound, i_const, i_lconst, i_iload, i_aload, i_lload, i_istore, i_astore, i_lstore, i_iinc, i_bin, i_div, i_un, i_i2l, i_l2i, i_lbin, i_lcmp, i_if, i_icmp, i_dup, i_dup_x1, i_dup2, i_pop, i_geti, i_getr, i_getd, i_puti, i_putz, i_putd, i_iald, i_bald, i_aald, i_iast, i_bast, i_alen, i_keep, i_ret, i_retz, i_reta, i_retl, i_retv, i_callv, i_callk, i_calls, i_mm, i_copy, i_under, i_undld, i_ldcs, i_sw, q_swc0, q_swc1, q_lg0, q_lg1, q_lent0, q_lent1, lset, lset2, q_lins0, q_lins1, q_ldel0, q_ldel1, q_ldel20, q_ldel21, q_lkeep0, q_lkeep1, q_memb0, q_memb1, cat2, Nat.reduceBEq, decide_true, decide_false, decide_eq_true_eq, cond_true, cond_false, Bool.and_true, Bool.and_false, Bool.true_and, Bool.false_and, f_iadd, f_isub, f_imul, f_ishl, f_ishr, f_iushr, f_iand, f_ior, f_idiv, f_irem, f_ineg, f_i2b, f_i2s, f_ladd, f_lmul, c_eq, c_ne, c_lt, c_ge, c_gt, c_le, cc_eq, cc_ne, cc_lt, cc_ge, cc_gt, cc_le, rfo, aof, csum, Value.category, List.take, List.drop, List.reverse, List.reverseAux, List.map, List.sum_cons, List.sum_nil, List.cons_append, List.nil_append, Option.toList, List.mem_cons, List.not_mem_nil, List.length_cons, List.length_nil, reduceIte, Nat.reduceEqDiff, Nat.reduceAdd, Nat.reduceLeDiff, Nat.reduceLT, a_day, Nat.zero_ne_one, Nat.one_ne_zero, false_and, and_false, true_and, and_true, or_false, false_or, or_true, true_or, not_true_eq_false, not_false_eq_true, Nat.zero_add, Nat.add_zero, Nat.le_refl, Nat.lt_irrefl, Nat.zero_lt_succ, Nat.zero_le, forall_const, List.cons.injEq, Value.int.injEq, Value.ref.injEq, Value.long.injEq, and_assoc, exists_and_left, exists_eq_left']
    try simp only [forall_eq]
    rw [nI_clamp (by omega), k1, k2, k7]
    refine ⟨m_76 hg, m_78 hg, vm l_78 (by omega) (by decide), fun e1 => ?_, fun e1 => ⟨fun e3 => ?_, fun e3 => ⟨fun e4 => ?_, fun e4 => ⟨fun e5 => ?_, fun e5 => ?_⟩⟩⟩⟩
    · simp only [kindW, if_pos e1] at h'; exact h'
    · simp only [kindW, if_neg e1, if_pos e3] at h'; exact ⟨m_76 hg, m_79 hg, vm l_79 (by omega) (by decide), h'⟩
    · simp only [kindW, if_neg e1, if_neg e3, if_pos e4] at h'
      refine ⟨m_76 hg, by decide, fun z => ?_, fun z => ⟨by decide, ?_⟩⟩
      · rwa [if_neg z] at h'
      · rwa [if_pos (Decidable.not_not.mp z)] at h'
    · simp only [kindW, if_neg e1, if_neg e3, if_neg e4, if_pos e5] at h'; exact h'
    · simp only [kindW, if_neg e1, if_neg e3, if_neg e4, if_neg e5] at h'; exact h'
def T_X6_stands (g : WG) (as : List Value) (M : MM) (Q : Option Value → MM → Prop) : Prop := ∃ s, as = [.ref 76, .int (nI s)] ∧ okM M ∧ s < dn (dm M) ∧ ∀ M', Sm (fun a _ => a = 89) M M' → Q (some (.int (sta (xm M) (dm M) s))) M'
set_option maxRecDepth 100000 in
set_option maxHeartbeats 1000000 in
theorem t_X6_stands {l : Launch} {g : WG} (hg : Full g) : Ct l g yX6_stands cX6_stands 3 ((Option.some FieldType.int)) 4 (T_X6_stands g) := by
  refine Ct.of (by decide) (fun as M Q h => ?_) (fun p e s m args below meth c as M Q h C => ?_)
  · obtain ⟨s0, rfl, ho, hs0, h⟩ := h; exact ⟨by simp, by simp [Value.category]⟩
  · obtain ⟨s0, rfl, ho, hs0, h⟩ := h
    have hn := ho.n
    refine s_of (fun lv st M0 hs => ?_) (WX6_stands_0 C (t_X6_ruled hg) (by decide) (t_X6_lengthOf hg) (by decide) (t_X6_bound hg) (by decide))
    obtain ⟨rfl, rfl, rfl⟩ := hs
    unfold BX6_stands_0
    generalize hB7 : BX6_stands_7 g Q (T_X6_ruled g) (T_X6_lengthOf g) (T_X6_bound g) = B7
    simp only [T_X6_ruled, T_X6_lengthOf, T_X6_bound, i_const, i_lconst, i_iload, i_aload, i_lload, i_istore, i_astore, i_lstore, i_iinc, i_bin, i_div, i_un, i_i2l, i_l2i, i_lbin, i_lcmp, i_if, i_icmp, i_dup, i_dup_x1, i_dup2, i_pop, i_geti, i_getr, i_getd, i_puti, i_putz, i_putd, i_iald, i_bald, i_aald, i_iast, i_bast, i_alen, i_keep, i_ret, i_retz, i_reta, i_retl, i_retv, i_callv, i_callk, i_calls, i_mm, i_copy, i_under, i_undld, i_ldcs, i_sw, q_swc0, q_swc1, q_lg0, q_lg1, q_lent0, q_lent1, lset, lset2, q_lins0, q_lins1, q_ldel0, q_ldel1, q_ldel20, q_ldel21, q_lkeep0, q_lkeep1, q_memb0, q_memb1, cat2, Nat.reduceBEq, decide_true, decide_false, decide_eq_true_eq, cond_true, cond_false, Bool.and_true, Bool.and_false, Bool.true_and, Bool.false_and, f_iadd, f_isub, f_imul, f_ishl, f_ishr, f_iushr, f_iand, f_ior, f_idiv, f_irem, f_ineg, f_i2b, f_i2s, f_ladd, f_lmul, c_eq, c_ne, c_lt, c_ge, c_gt, c_le, cc_eq, cc_ne, cc_lt, cc_ge, cc_gt, cc_le, rfo, aof, csum, Value.category, List.take, List.drop, List.reverse, List.reverseAux, List.map, List.sum_cons, List.sum_nil, List.cons_append, List.nil_append, Option.toList, List.mem_cons, List.not_mem_nil, List.length_cons, List.length_nil, reduceIte, Nat.reduceEqDiff, Nat.reduceAdd, Nat.reduceLeDiff, Nat.reduceLT, a_day, Nat.zero_ne_one, Nat.one_ne_zero, false_and, and_false, true_and, and_true, or_false, false_or, or_true, true_or, not_true_eq_false, not_false_eq_true, Nat.zero_add, Nat.add_zero, Nat.le_refl, Nat.lt_irrefl, Nat.zero_lt_succ, Nat.zero_le, forall_const, List.cons.injEq, Value.int.injEq, Value.ref.injEq, Value.long.injEq, and_assoc, exists_and_left, exists_eq_left']
    try simp only [forall_eq]
    refine ⟨(m_76 hg).1, (m_76 hg).2.1, 2, rfl, s0, rfl, by decide, ho, hs0, fun M1 hs1 => ?_⟩
    rw [if_pos rfl]
    have h' := h M1 hs1
    unfold sta at h'
    generalize bnd (rul (xm M0) (dm M0) 2 s0 0) 999 = v at h' ⊢
    have k1 : M1 78 s0 = dm M0 1 s0 := dm_r 1 (by omega) (by omega) hs0 hs1
    have k2 : M1 79 s0 = dm M0 2 s0 := dm_r 2 (by omega) (by omega) hs0 hs1
    have k3 : M1 80 s0 = dm M0 3 s0 := dm_r 3 (by omega) (by omega) hs0 hs1
    have k4 : M1 81 s0 = dm M0 4 s0 := dm_r 4 (by omega) (by omega) hs0 hs1
    subst hB7
    unfold BX6_stands_7
    generalize hB50 : BX6_stands_50 g Q (T_X6_ruled g) (T_X6_lengthOf g) (T_X6_bound g) = B50
    generalize hB69 : BX6_stands_69 g Q (T_X6_ruled g) (T_X6_lengthOf g) (T_X6_bound g) = B69
    simp only [T_X6_ruled, T_X6_lengthOf, T_X6_bound, i_const, i_lconst, i_iload, i_aload, i_lload, i_istore, i_astore, i_lstore, i_iinc, i_bin, i_div, i_un, i_i2l, i_l2i, i_lbin, i_lcmp, i_if, i_icmp, i_dup, i_dup_x1, i_dup2, i_pop, i_geti, i_getr, i_getd, i_puti, i_putz, i_putd, i_iald, i_bald, i_aald, i_iast, i_bast, i_alen, i_keep, i_ret, i_retz, i_reta, i_retl, i_retv, i_callv, i_callk, i_calls, i_mm, i_copy, i_under, i_undld, i_ldcs, i_sw, q_swc0, q_swc1, q_lg0, q_lg1, q_lent0, q_lent1, lset, lset2, q_lins0, q_lins1, q_ldel0, q_ldel1, q_ldel20, q_ldel21, q_lkeep0, q_lkeep1, q_memb0, q_memb1, cat2, Nat.reduceBEq, decide_true, decide_false, decide_eq_true_eq, cond_true, cond_false, Bool.and_true, Bool.and_false, Bool.true_and, Bool.false_and, f_iadd, f_isub, f_imul, f_ishl, f_ishr, f_iushr, f_iand, f_ior, f_idiv, f_irem, f_ineg, f_i2b, f_i2s, f_ladd, f_lmul, c_eq, c_ne, c_lt, c_ge, c_gt, c_le, cc_eq, cc_ne, cc_lt, cc_ge, cc_gt, cc_le, rfo, aof, csum, Value.category, List.take, List.drop, List.reverse, List.reverseAux, List.map, List.sum_cons, List.sum_nil, List.cons_append, List.nil_append, Option.toList, List.mem_cons, List.not_mem_nil, List.length_cons, List.length_nil, reduceIte, Nat.reduceEqDiff, Nat.reduceAdd, Nat.reduceLeDiff, Nat.reduceLT, a_day, Nat.zero_ne_one, Nat.one_ne_zero, false_and, and_false, true_and, and_true, or_false, false_or, or_true, true_or, not_true_eq_false, not_false_eq_true, Nat.zero_add, Nat.add_zero, Nat.le_refl, Nat.lt_irrefl, Nat.zero_lt_succ, Nat.zero_le, forall_const, List.cons.injEq, Value.int.injEq, Value.ref.injEq, Value.long.injEq, and_assoc, exists_and_left, exists_eq_left']
    try simp only [forall_eq]
    rw [nI_clamp (by omega), k1, k2]
    rw [lenS', ← k3, ← k4] at h'
    refine ⟨m_76 hg, m_78 hg, vm l_78 (by omega) (by decide), fun e2 => ?_, fun e2 => ⟨fun e3 => ?_, fun e3 => ⟨fun e4 => ?_, fun e4 => ⟨fun e5 => ?_, fun e5 => ?_⟩⟩⟩⟩
    · simp only [kindS, if_pos e2] at h'
      refine ⟨(m_76 hg).1, (m_76 hg).2.1, s0, rfl, by omega, ?_⟩
      subst hB50
      unfold BX6_stands_50
      simp only [T_X6_ruled, T_X6_lengthOf, T_X6_bound, i_const, i_lconst, i_iload, i_aload, i_lload, i_istore, i_astore, i_lstore, i_iinc, i_bin, i_div, i_un, i_i2l, i_l2i, i_lbin, i_lcmp, i_if, i_icmp, i_dup, i_dup_x1, i_dup2, i_pop, i_geti, i_getr, i_getd, i_puti, i_putz, i_putd, i_iald, i_bald, i_aald, i_iast, i_bast, i_alen, i_keep, i_ret, i_retz, i_reta, i_retl, i_retv, i_callv, i_callk, i_calls, i_mm, i_copy, i_under, i_undld, i_ldcs, i_sw, q_swc0, q_swc1, q_lg0, q_lg1, q_lent0, q_lent1, lset, lset2, q_lins0, q_lins1, q_ldel0, q_ldel1, q_ldel20, q_ldel21, q_lkeep0, q_lkeep1, q_memb0, q_memb1, cat2, Nat.reduceBEq, decide_true, decide_false, decide_eq_true_eq, cond_true, cond_false, Bool.and_true, Bool.and_false, Bool.true_and, Bool.false_and, f_iadd, f_isub, f_imul, f_ishl, f_ishr, f_iushr, f_iand, f_ior, f_idiv, f_irem, f_ineg, f_i2b, f_i2s, f_ladd, f_lmul, c_eq, c_ne, c_lt, c_ge, c_gt, c_le, cc_eq, cc_ne, cc_lt, cc_ge, cc_gt, cc_le, rfo, aof, csum, Value.category, List.take, List.drop, List.reverse, List.reverseAux, List.map, List.sum_cons, List.sum_nil, List.cons_append, List.nil_append, Option.toList, List.mem_cons, List.not_mem_nil, List.length_cons, List.length_nil, reduceIte, Nat.reduceEqDiff, Nat.reduceAdd, Nat.reduceLeDiff, Nat.reduceLT, a_day, Nat.zero_ne_one, Nat.one_ne_zero, false_and, and_false, true_and, and_true, or_false, false_or, or_true, true_or, not_true_eq_false, not_false_eq_true, Nat.zero_add, Nat.add_zero, Nat.le_refl, Nat.lt_irrefl, Nat.zero_lt_succ, Nat.zero_le, forall_const, List.cons.injEq, Value.int.injEq, Value.ref.injEq, Value.long.injEq, and_assoc, exists_and_left, exists_eq_left']
      try simp only [forall_eq]
      exact h'
    · simp only [kindS, if_neg e2, if_pos e3] at h'; exact ⟨by decide, h'⟩
    · simp only [kindS, if_neg e2, if_neg e3, if_pos e4] at h'
      refine ⟨(m_76 hg).1, (m_76 hg).2.1, s0, rfl, by omega, ?_⟩
      subst hB69
      unfold BX6_stands_69
      simp only [T_X6_ruled, T_X6_lengthOf, T_X6_bound, i_const, i_lconst, i_iload, i_aload, i_lload, i_istore, i_astore, i_lstore, i_iinc, i_bin, i_div, i_un, i_i2l, i_l2i, i_lbin, i_lcmp, i_if, i_icmp, i_dup, i_dup_x1, i_dup2, i_pop, i_geti, i_getr, i_getd, i_puti, i_putz, i_putd, i_iald, i_bald, i_aald, i_iast, i_bast, i_alen, i_keep, i_ret, i_retz, i_reta, i_retl, i_retv, i_callv, i_callk, i_calls, i_mm, i_copy, i_under, i_undld, i_ldcs, i_sw, q_swc0, q_swc1, q_lg0, q_lg1, q_lent0, q_lent1, lset, lset2, q_lins0, q_lins1, q_ldel0, q_ldel1, q_ldel20, q_ldel21, q_lkeep0, q_lkeep1, q_memb0, q_memb1, cat2, Nat.reduceBEq, decide_true, decide_false, decide_eq_true_eq, cond_true, cond_false, Bool.and_true, Bool.and_false, Bool.true_and, Bool.false_and, f_iadd, f_isub, f_imul, f_ishl, f_ishr, f_iushr, f_iand, f_ior, f_idiv, f_irem, f_ineg, f_i2b, f_i2s, f_ladd, f_lmul, c_eq, c_ne, c_lt, c_ge, c_gt, c_le, cc_eq, cc_ne, cc_lt, cc_ge, cc_gt, cc_le, rfo, aof, csum, Value.category, List.take, List.drop, List.reverse, List.reverseAux, List.map, List.sum_cons, List.sum_nil, List.cons_append, List.nil_append, Option.toList, List.mem_cons, List.not_mem_nil, List.length_cons, List.length_nil, reduceIte, Nat.reduceEqDiff, Nat.reduceAdd, Nat.reduceLeDiff, Nat.reduceLT, a_day, Nat.zero_ne_one, Nat.one_ne_zero, false_and, and_false, true_and, and_true, or_false, false_or, or_true, true_or, not_true_eq_false, not_false_eq_true, Nat.zero_add, Nat.add_zero, Nat.le_refl, Nat.lt_irrefl, Nat.zero_lt_succ, Nat.zero_le, forall_const, List.cons.injEq, Value.int.injEq, Value.ref.injEq, Value.long.injEq, and_assoc, exists_and_left, exists_eq_left']
      try simp only [forall_eq]
      exact h'
    · simp only [kindS, if_neg e2, if_neg e3, if_neg e4, if_pos e5] at h'; exact ⟨m_76 hg, m_79 hg, vm l_79 (by omega) (by decide), h'⟩
    · simp only [kindS, if_neg e2, if_neg e3, if_neg e4, if_neg e5] at h'; exact h'
    theorem keepM {Y : Nat → Nat → Prop} {M M' : MM} (h : Sm Y M M') (hY : ∀ a j, Y a j → 88 ≤ a) (ho : okM M) : okM M' ∧ dm M' = dm M ∧ xm M' = xm M := by
      have hn := ho.n
      have f : ∀ a j, a < 88 → M' a j = M a j := fun a j ha => h a j (fun q => by have := hY a j q; omega)
      have hd : dm M' = dm M := dm_sm h (fun j q => by have := hY _ _ q; omega) (fun j _ q => by have := hY _ _ q; omega) (fun f s _ _ _ q => by have := hY _ _ q; omega) hn
      have e5 : M' 85 = M 85 := funext fun j => f _ _ (by decide)
      have e6 : M' 86 = M 86 := funext fun j => f _ _ (by decide)
      have e7 : M' 87 = M 87 := funext fun j => f _ _ (by decide)
      exact ⟨ho.keep hd (f _ _ (by decide)) e5 e6 e7, hd, xm_eq e5 e6 e7⟩
def T_X6_pullsAt (g : WG) (as : List Value) (M : MM) (Q : Option Value → MM → Prop) : Prop := ∃ (s : Nat) (x : Int32), as = [.ref 76, .int (nI s), .int x] ∧ okM M ∧ s < dn (dm M) ∧ (x = -1 ∨ ∃ hh, hh < 17 ∧ x = nI hh) ∧ (¬ (0 ≤ x ∧ x ≤ 15) → Q none M) ∧ (∀ hh M', hh < 16 → x = nI hh → Sm (fun a b => a = 89 ∨ (a = 91 ∧ b = hh) ∨ (a = 92 ∧ b = hh)) M M' → M' 91 hh = 1 → M' 92 hh = M 92 hh + pul (xm M) (dm M) s hh → Q none M')
set_option maxRecDepth 100000 in
set_option maxHeartbeats 1000000 in
theorem t_X6_pullsAt {l : Launch} {g : WG} (hg : Full g) : Ct l g yX6_pullsAt cX6_pullsAt 3 ((Option.none : Option FieldType)) 5 (T_X6_pullsAt g) := by
  refine Ct.of (by decide) (fun as M Q h => ?_) (fun p e s m args below meth c as M Q h C => ?_)
  · obtain ⟨s0, x, rfl, ho, hs0, hx, h1, h2⟩ := h; exact ⟨by simp, by simp [Value.category]⟩
  · obtain ⟨s0, x, rfl, ho, hs0, hx, h1, h2⟩ := h
    have hn := ho.n
    refine s_of (fun lv st M0 hs => ?_) (WX6_pullsAt_0 C (t_X6_isHour hg) (by decide) (t_X6_pulls hg) (by decide))
    obtain ⟨rfl, rfl, rfl⟩ := hs
    unfold BX6_pullsAt_0
    generalize hB4 : BX6_pullsAt_4 g Q (T_X6_isHour g) (T_X6_pulls g) = B4
    simp only [T_X6_isHour, T_X6_pulls, i_const, i_lconst, i_iload, i_aload, i_lload, i_istore, i_astore, i_lstore, i_iinc, i_bin, i_div, i_un, i_i2l, i_l2i, i_lbin, i_lcmp, i_if, i_icmp, i_dup, i_dup_x1, i_dup2, i_pop, i_geti, i_getr, i_getd, i_puti, i_putz, i_putd, i_iald, i_bald, i_aald, i_iast, i_bast, i_alen, i_keep, i_ret, i_retz, i_reta, i_retl, i_retv, i_callv, i_callk, i_calls, i_mm, i_copy, i_under, i_undld, i_ldcs, i_sw, q_swc0, q_swc1, q_lg0, q_lg1, q_lent0, q_lent1, lset, lset2, q_lins0, q_lins1, q_ldel0, q_ldel1, q_ldel20, q_ldel21, q_lkeep0, q_lkeep1, q_memb0, q_memb1, cat2, Nat.reduceBEq, decide_true, decide_false, decide_eq_true_eq, cond_true, cond_false, Bool.and_true, Bool.and_false, Bool.true_and, Bool.false_and, f_iadd, f_isub, f_imul, f_ishl, f_ishr, f_iushr, f_iand, f_ior, f_idiv, f_irem, f_ineg, f_i2b, f_i2s, f_ladd, f_lmul, c_eq, c_ne, c_lt, c_ge, c_gt, c_le, cc_eq, cc_ne, cc_lt, cc_ge, cc_gt, cc_le, rfo, aof, csum, Value.category, List.take, List.drop, List.reverse, List.reverseAux, List.map, List.sum_cons, List.sum_nil, List.cons_append, List.nil_append, Option.toList, List.mem_cons, List.not_mem_nil, List.length_cons, List.length_nil, reduceIte, Nat.reduceEqDiff, Nat.reduceAdd, Nat.reduceLeDiff, Nat.reduceLT, a_day, Nat.zero_ne_one, Nat.one_ne_zero, false_and, and_false, true_and, and_true, or_false, false_or, or_true, true_or, not_true_eq_false, not_false_eq_true, Nat.zero_add, Nat.add_zero, Nat.le_refl, Nat.lt_irrefl, Nat.zero_lt_succ, Nat.zero_le, forall_const, List.cons.injEq, Value.int.injEq, Value.ref.injEq, Value.long.injEq, and_assoc, exists_and_left, exists_eq_left']
    try simp only [forall_eq]
    subst hB4
    unfold BX6_pullsAt_4
    generalize hB28 : BX6_pullsAt_28 g Q (T_X6_isHour g) (T_X6_pulls g) = B28
    simp only [T_X6_isHour, T_X6_pulls, i_const, i_lconst, i_iload, i_aload, i_lload, i_istore, i_astore, i_lstore, i_iinc, i_bin, i_div, i_un, i_i2l, i_l2i, i_lbin, i_lcmp, i_if, i_icmp, i_dup, i_dup_x1, i_dup2, i_pop, i_geti, i_getr, i_getd, i_puti, i_putz, i_putd, i_iald, i_bald, i_aald, i_iast, i_bast, i_alen, i_keep, i_ret, i_retz, i_reta, i_retl, i_retv, i_callv, i_callk, i_calls, i_mm, i_copy, i_under, i_undld, i_ldcs, i_sw, q_swc0, q_swc1, q_lg0, q_lg1, q_lent0, q_lent1, lset, lset2, q_lins0, q_lins1, q_ldel0, q_ldel1, q_ldel20, q_ldel21, q_lkeep0, q_lkeep1, q_memb0, q_memb1, cat2, Nat.reduceBEq, decide_true, decide_false, decide_eq_true_eq, cond_true, cond_false, Bool.and_true, Bool.and_false, Bool.true_and, Bool.false_and, f_iadd, f_isub, f_imul, f_ishl, f_ishr, f_iushr, f_iand, f_ior, f_idiv, f_irem, f_ineg, f_i2b, f_i2s, f_ladd, f_lmul, c_eq, c_ne, c_lt, c_ge, c_gt, c_le, cc_eq, cc_ne, cc_lt, cc_ge, cc_gt, cc_le, rfo, aof, csum, Value.category, List.take, List.drop, List.reverse, List.reverseAux, List.map, List.sum_cons, List.sum_nil, List.cons_append, List.nil_append, Option.toList, List.mem_cons, List.not_mem_nil, List.length_cons, List.length_nil, reduceIte, Nat.reduceEqDiff, Nat.reduceAdd, Nat.reduceLeDiff, Nat.reduceLT, a_day, Nat.zero_ne_one, Nat.one_ne_zero, false_and, and_false, true_and, and_true, or_false, false_or, or_true, true_or, not_true_eq_false, not_false_eq_true, Nat.zero_add, Nat.add_zero, Nat.le_refl, Nat.lt_irrefl, Nat.zero_lt_succ, Nat.zero_le, forall_const, List.cons.injEq, Value.int.injEq, Value.ref.injEq, Value.long.injEq, and_assoc, exists_and_left, exists_eq_left']
    try simp only [forall_eq]
    refine ⟨fun z => ?_, fun z => ?_⟩
    · have hr : 0 ≤ x ∧ x ≤ 15 := Decidable.byContradiction fun q => z (b2i_f q)
      obtain ⟨hh, hh17, rfl⟩ : ∃ hh, hh < 17 ∧ x = nI hh := by
        rcases hx with rfl | q
        · exact absurd hr.1 (by decide)
        · exact q
      have hh16 : hh < 16 := by
        have := hr.2
        rw [show (15 : Int32) = nI 15 from rfl, nI_leI (by omega) (by decide)] at this
        omega
      rw [nI_clamp (by omega)]
      have s1 : Sm (fun a b => a = 91 ∧ b = hh) M0 (mset M0 91 hh 1) := Sm.rf.set _ ⟨rfl, rfl⟩
      obtain ⟨ko, kd', kx⟩ := keepM s1 (fun a j q => by omega) ho
      refine ⟨m_76 hg, m_91 hg, vm l_91 hh16 (by decide), m_76 hg, m_92 hg, vm l_92 hh16 (by decide), (m_76 hg).1, (m_76 hg).2.1, s0, rfl, hh, rfl, ko, by rw [kd']; exact hs0, hh16, fun M1 hs1 => ?_⟩
      subst hB28
      unfold BX6_pullsAt_28
      simp only [T_X6_isHour, T_X6_pulls, i_const, i_lconst, i_iload, i_aload, i_lload, i_istore, i_astore, i_lstore, i_iinc, i_bin, i_div, i_un, i_i2l, i_l2i, i_lbin, i_lcmp, i_if, i_icmp, i_dup, i_dup_x1, i_dup2, i_pop, i_geti, i_getr, i_getd, i_puti, i_putz, i_putd, i_iald, i_bald, i_aald, i_iast, i_bast, i_alen, i_keep, i_ret, i_retz, i_reta, i_retl, i_retv, i_callv, i_callk, i_calls, i_mm, i_copy, i_under, i_undld, i_ldcs, i_sw, q_swc0, q_swc1, q_lg0, q_lg1, q_lent0, q_lent1, lset, lset2, q_lins0, q_lins1, q_ldel0, q_ldel1, q_ldel20, q_ldel21, q_lkeep0, q_lkeep1, q_memb0, q_memb1, cat2, Nat.reduceBEq, decide_true, decide_false, decide_eq_true_eq, cond_true, cond_false, Bool.and_true, Bool.and_false, Bool.true_and, Bool.false_and, f_iadd, f_isub, f_imul, f_ishl, f_ishr, f_iushr, f_iand, f_ior, f_idiv, f_irem, f_ineg, f_i2b, f_i2s, f_ladd, f_lmul, c_eq, c_ne, c_lt, c_ge, c_gt, c_le, cc_eq, cc_ne, cc_lt, cc_ge, cc_gt, cc_le, rfo, aof, csum, Value.category, List.take, List.drop, List.reverse, List.reverseAux, List.map, List.sum_cons, List.sum_nil, List.cons_append, List.nil_append, Option.toList, List.mem_cons, List.not_mem_nil, List.length_cons, List.length_nil, reduceIte, Nat.reduceEqDiff, Nat.reduceAdd, Nat.reduceLeDiff, Nat.reduceLT, a_day, Nat.zero_ne_one, Nat.one_ne_zero, false_and, and_false, true_and, and_true, or_false, false_or, or_true, true_or, not_true_eq_false, not_false_eq_true, Nat.zero_add, Nat.add_zero, Nat.le_refl, Nat.lt_irrefl, Nat.zero_lt_succ, Nat.zero_le, forall_const, List.cons.injEq, Value.int.injEq, Value.ref.injEq, Value.long.injEq, and_assoc, exists_and_left, exists_eq_left']
      try simp only [forall_eq]
      rw [kd', kx, nI_clamp (by omega)]
      refine ⟨m_92 hg, vm l_92 hh16 (by decide), h2 hh _ hh16 rfl ?_ ?_ ?_⟩
      · exact ((s1.mono fun a b q => Or.inr (Or.inl q)).tr (hs1.mono fun a b q => Or.inl q)).set _ (Or.inr (Or.inr ⟨rfl, rfl⟩))
      · rw [ms_q (by decide), hs1 91 hh (by show ¬ 91 = 89; decide), ms_s]
      · rw [ms_s, ms_q (by decide)]
    · exact h1 (fun q => z (by rw [b2i_t q]; decide))
    
