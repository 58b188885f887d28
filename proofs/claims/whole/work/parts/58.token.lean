/-! ===== the class's tokenizer ===== -/
def T_X3_token (g : WG) (as : List Value) (M : MM) (Q : Option Value → MM → Prop) : Prop := ∃ i n t, as = [.ref 3, .int (nI i)] ∧ M 3 4 = nI n ∧ i < n ∧ n ≤ 160 ∧ M 3 5 = nI t ∧ t < 160 ∧ Q (some (.int (nI (tkE (M 4) n i)))) (mset (mset (mset (mset M 7 t (nI i)) 5 t (tkS (M 4) n i)) 6 t (tkV (M 4) n i)) 3 5 (nI (t + 1)))
set_option maxRecDepth 100000 in
set_option maxHeartbeats 2000000 in
theorem t_X3_token {l : Launch} {g : WG} (hr : Reg g 3 32) : Ct l g yX3_token cX3_token 3 ((Option.some FieldType.int)) 8 (T_X3_token g) := by
  refine Ct.of (by decide) (fun as M Q h => ?_) (fun p e s m args below meth c as M Q h C => ?_)
  · obtain ⟨i, n, t, rfl, h4, hi, hn, h5, ht, h⟩ := h; exact ⟨by simp, by simp [Value.category]⟩
  · obtain ⟨i, n, t, rfl, h4, hi, hn, h5, ht, h⟩ := h
    refine s_of (fun lv st M0 hs => ?_) (WX3_token_0 C (by decide) (t_X3_isLetter hr) (by decide) (t_X3_isDigit hr) (by decide) (t_X3_runEnd hr) (by decide) (t_X3_putWord hr) (by decide) (t_X3_isSign hr) (by decide) (t_X3_valueOf hr) (by decide) (t_X3_put hr) (by decide))
    obtain ⟨rfl, rfl, rfl⟩ := hs
    unfold BX3_token_0
    generalize hB13 : BX3_token_13 g Q (T_X3_isLetter g) (T_X3_isDigit g) (T_X3_runEnd g) (T_X3_putWord g) (T_X3_isSign g) (T_X3_valueOf g) (T_X3_put g) = B13
    simp only [T_X3_isLetter, T_X3_isDigit, T_X3_runEnd, T_X3_putWord, T_X3_isSign, T_X3_valueOf, T_X3_put, i_const, i_lconst, i_iload, i_aload, i_lload, i_istore, i_astore, i_lstore, i_iinc, i_bin, i_div, i_un, i_i2l, i_l2i, i_lbin, i_lcmp, i_if, i_icmp, i_dup, i_dup_x1, i_dup2, i_pop, i_geti, i_getr, i_getd, i_puti, i_putz, i_putd, i_iald, i_bald, i_aald, i_iast, i_bast, i_alen, i_keep, i_ret, i_retz, i_reta, i_retl, i_retv, i_callv, i_callk, i_calls, i_mm, i_copy, i_under, i_undld, i_ldcs, i_sw, q_swc0, q_swc1, q_lg0, q_lg1, q_lent0, q_lent1, lset, lset2, q_lins0, q_lins1, q_ldel0, q_ldel1, q_ldel20, q_ldel21, q_lkeep0, q_lkeep1, q_memb0, q_memb1, cat2, Nat.reduceBEq, decide_true, decide_false, decide_eq_true_eq, cond_true, cond_false, Bool.and_true, Bool.and_false, Bool.true_and, Bool.false_and, f_iadd, f_isub, f_imul, f_ishl, f_ishr, f_iushr, f_iand, f_ior, f_idiv, f_irem, f_ineg, f_i2b, f_i2s, f_ladd, f_lmul, c_eq, c_ne, c_lt, c_ge, c_gt, c_le, cc_eq, cc_ne, cc_lt, cc_ge, cc_gt, cc_le, rfo, aof, csum, Value.category, List.take, List.drop, List.reverse, List.reverseAux, List.map, List.sum_cons, List.sum_nil, List.cons_append, List.nil_append, Option.toList, List.mem_cons, List.not_mem_nil, List.length_cons, List.length_nil, reduceIte, Nat.reduceEqDiff, Nat.reduceAdd, Nat.reduceLeDiff, Nat.reduceLT, a_day, Nat.zero_ne_one, Nat.one_ne_zero, false_and, and_false, true_and, and_true, or_false, false_or, or_true, true_or, not_true_eq_false, not_false_eq_true, Nat.zero_add, Nat.add_zero, Nat.le_refl, Nat.lt_irrefl, Nat.zero_lt_succ, Nat.zero_le, forall_const, List.cons.injEq, Value.int.injEq, Value.ref.injEq, Value.long.injEq, and_assoc, exists_and_left, exists_eq_left']
    try simp only [forall_eq]
    have hte := tkE_le (B := M0 4) hi
    have go : ∀ s v, s = tkS (M0 4) n i → v = tkV (M0 4) n i → BX3_token_117 g Q (T_X3_isLetter g) (T_X3_isDigit g) (T_X3_runEnd g) (T_X3_putWord g) (T_X3_isSign g) (T_X3_valueOf g) (T_X3_put g) [(0, .ref 3), (1, .int (nI i)), (2, .int (nI (tkE (M0 4) n i)))] [] (mset (mset (mset M0 7 t (nI i)) 5 t s) 6 t v) := by
      intro s v hs hv
      subst hs
      subst hv
      unfold BX3_token_117
      simp only [i_const, i_lconst, i_iload, i_aload, i_lload, i_istore, i_astore, i_lstore, i_iinc, i_bin, i_div, i_un, i_i2l, i_l2i, i_lbin, i_lcmp, i_if, i_icmp, i_dup, i_dup_x1, i_dup2, i_pop, i_geti, i_getr, i_getd, i_puti, i_putz, i_putd, i_iald, i_bald, i_aald, i_iast, i_bast, i_alen, i_keep, i_ret, i_retz, i_reta, i_retl, i_retv, i_callv, i_callk, i_calls, i_mm, i_copy, i_under, i_undld, i_ldcs, i_sw, q_swc0, q_swc1, q_lg0, q_lg1, q_lent0, q_lent1, lset, lset2, q_lins0, q_lins1, q_ldel0, q_ldel1, q_ldel20, q_ldel21, q_lkeep0, q_lkeep1, q_memb0, q_memb1, cat2, Nat.reduceBEq, decide_true, decide_false, decide_eq_true_eq, cond_true, cond_false, Bool.and_true, Bool.and_false, Bool.true_and, Bool.false_and, f_iadd, f_isub, f_imul, f_ishl, f_ishr, f_iushr, f_iand, f_ior, f_idiv, f_irem, f_ineg, f_i2b, f_i2s, f_ladd, f_lmul, c_eq, c_ne, c_lt, c_ge, c_gt, c_le, cc_eq, cc_ne, cc_lt, cc_ge, cc_gt, cc_le, rfo, aof, csum, Value.category, List.take, List.drop, List.reverse, List.reverseAux, List.map, List.sum_cons, List.sum_nil, List.cons_append, List.nil_append, Option.toList, List.mem_cons, List.not_mem_nil, List.length_cons, List.length_nil, reduceIte, Nat.reduceEqDiff, Nat.reduceAdd, Nat.reduceLeDiff, Nat.reduceLT, a_day, Nat.zero_ne_one, Nat.one_ne_zero, false_and, and_false, true_and, and_true, or_false, false_or, or_true, true_or, not_true_eq_false, not_false_eq_true, Nat.zero_add, Nat.add_zero, Nat.le_refl, Nat.lt_irrefl, Nat.zero_lt_succ, Nat.zero_le, forall_const, List.cons.injEq, Value.int.injEq, Value.ref.injEq, Value.long.injEq, and_assoc, exists_and_left, exists_eq_left', forall_eq]
      have e : mset (mset (mset M0 7 t (nI i)) 5 t (tkS (M0 4) n i)) 6 t (tkV (M0 4) n i) 3 5 = nI t := by rw [ms_q (by decide), ms_q (by decide), ms_q (by decide)]; exact h5
      rw [e, show (160 : Int32) = nI 160 from rfl, nI_leI (by decide) (by omega), nI_1]
      exact ⟨r_3 hr, fun q => by omega, fun _ => ⟨r_3 hr, r_3 hr, h⟩⟩
    rw [nI_clamp (by omega)]
    refine ⟨r_3 hr, r_4 hr, v_4 (by omega), ?_⟩
    subst hB13
    unfold BX3_token_13
    generalize hB25 : BX3_token_25 g Q (T_X3_isLetter g) (T_X3_isDigit g) (T_X3_runEnd g) (T_X3_putWord g) (T_X3_isSign g) (T_X3_valueOf g) (T_X3_put g) = B25
    generalize hB44 : BX3_token_44 g Q (T_X3_isLetter g) (T_X3_isDigit g) (T_X3_runEnd g) (T_X3_putWord g) (T_X3_isSign g) (T_X3_valueOf g) (T_X3_put g) = B44
    simp only [T_X3_isLetter, T_X3_isDigit, T_X3_runEnd, T_X3_putWord, T_X3_isSign, T_X3_valueOf, T_X3_put, i_const, i_lconst, i_iload, i_aload, i_lload, i_istore, i_astore, i_lstore, i_iinc, i_bin, i_div, i_un, i_i2l, i_l2i, i_lbin, i_lcmp, i_if, i_icmp, i_dup, i_dup_x1, i_dup2, i_pop, i_geti, i_getr, i_getd, i_puti, i_putz, i_putd, i_iald, i_bald, i_aald, i_iast, i_bast, i_alen, i_keep, i_ret, i_retz, i_reta, i_retl, i_retv, i_callv, i_callk, i_calls, i_mm, i_copy, i_under, i_undld, i_ldcs, i_sw, q_swc0, q_swc1, q_lg0, q_lg1, q_lent0, q_lent1, lset, lset2, q_lins0, q_lins1, q_ldel0, q_ldel1, q_ldel20, q_ldel21, q_lkeep0, q_lkeep1, q_memb0, q_memb1, cat2, Nat.reduceBEq, decide_true, decide_false, decide_eq_true_eq, cond_true, cond_false, Bool.and_true, Bool.and_false, Bool.true_and, Bool.false_and, f_iadd, f_isub, f_imul, f_ishl, f_ishr, f_iushr, f_iand, f_ior, f_idiv, f_irem, f_ineg, f_i2b, f_i2s, f_ladd, f_lmul, c_eq, c_ne, c_lt, c_ge, c_gt, c_le, cc_eq, cc_ne, cc_lt, cc_ge, cc_gt, cc_le, rfo, aof, csum, Value.category, List.take, List.drop, List.reverse, List.reverseAux, List.map, List.sum_cons, List.sum_nil, List.cons_append, List.nil_append, Option.toList, List.mem_cons, List.not_mem_nil, List.length_cons, List.length_nil, reduceIte, Nat.reduceEqDiff, Nat.reduceAdd, Nat.reduceLeDiff, Nat.reduceLT, a_day, Nat.zero_ne_one, Nat.one_ne_zero, false_and, and_false, true_and, and_true, or_false, false_or, or_true, true_or, not_true_eq_false, not_false_eq_true, Nat.zero_add, Nat.add_zero, Nat.le_refl, Nat.lt_irrefl, Nat.zero_lt_succ, Nat.zero_le, forall_const, List.cons.injEq, Value.int.injEq, Value.ref.injEq, Value.long.injEq, and_assoc, exists_and_left, exists_eq_left']
    try simp only [forall_eq]
    refine ⟨fun y => ?_, fun y => ?_⟩
    · have y := b2n y
      rw [nI_clamp (by omega)]
      refine ⟨r_3 hr, r_4 hr, v_4 (by omega), ?_⟩
      subst hB44
      unfold BX3_token_44
      generalize hB56 : BX3_token_56 g Q (T_X3_isLetter g) (T_X3_isDigit g) (T_X3_runEnd g) (T_X3_putWord g) (T_X3_isSign g) (T_X3_valueOf g) (T_X3_put g) = B56
      generalize hB100 : BX3_token_100 g Q (T_X3_isLetter g) (T_X3_isDigit g) (T_X3_runEnd g) (T_X3_putWord g) (T_X3_isSign g) (T_X3_valueOf g) (T_X3_put g) = B100
      simp only [T_X3_isLetter, T_X3_isDigit, T_X3_runEnd, T_X3_putWord, T_X3_isSign, T_X3_valueOf, T_X3_put, i_const, i_lconst, i_iload, i_aload, i_lload, i_istore, i_astore, i_lstore, i_iinc, i_bin, i_div, i_un, i_i2l, i_l2i, i_lbin, i_lcmp, i_if, i_icmp, i_dup, i_dup_x1, i_dup2, i_pop, i_geti, i_getr, i_getd, i_puti, i_putz, i_putd, i_iald, i_bald, i_aald, i_iast, i_bast, i_alen, i_keep, i_ret, i_retz, i_reta, i_retl, i_retv, i_callv, i_callk, i_calls, i_mm, i_copy, i_under, i_undld, i_ldcs, i_sw, q_swc0, q_swc1, q_lg0, q_lg1, q_lent0, q_lent1, lset, lset2, q_lins0, q_lins1, q_ldel0, q_ldel1, q_ldel20, q_ldel21, q_lkeep0, q_lkeep1, q_memb0, q_memb1, cat2, Nat.reduceBEq, decide_true, decide_false, decide_eq_true_eq, cond_true, cond_false, Bool.and_true, Bool.and_false, Bool.true_and, Bool.false_and, f_iadd, f_isub, f_imul, f_ishl, f_ishr, f_iushr, f_iand, f_ior, f_idiv, f_irem, f_ineg, f_i2b, f_i2s, f_ladd, f_lmul, c_eq, c_ne, c_lt, c_ge, c_gt, c_le, cc_eq, cc_ne, cc_lt, cc_ge, cc_gt, cc_le, rfo, aof, csum, Value.category, List.take, List.drop, List.reverse, List.reverseAux, List.map, List.sum_cons, List.sum_nil, List.cons_append, List.nil_append, Option.toList, List.mem_cons, List.not_mem_nil, List.length_cons, List.length_nil, reduceIte, Nat.reduceEqDiff, Nat.reduceAdd, Nat.reduceLeDiff, Nat.reduceLT, a_day, Nat.zero_ne_one, Nat.one_ne_zero, false_and, and_false, true_and, and_true, or_false, false_or, or_true, true_or, not_true_eq_false, not_false_eq_true, Nat.zero_add, Nat.add_zero, Nat.le_refl, Nat.lt_irrefl, Nat.zero_lt_succ, Nat.zero_le, forall_const, List.cons.injEq, Value.int.injEq, Value.ref.injEq, Value.long.injEq, and_assoc, exists_and_left, exists_eq_left']
      try simp only [forall_eq]
      refine ⟨fun u => ?_, fun u => ?_⟩
      · have u := b2n u
        rw [nI_clamp (by omega)]
        refine ⟨r_3 hr, r_4 hr, v_4 (by omega), ?_⟩
        subst hB100
        unfold BX3_token_100
        generalize hB113 : BX3_token_113 g Q (T_X3_isLetter g) (T_X3_isDigit g) (T_X3_runEnd g) (T_X3_putWord g) (T_X3_isSign g) (T_X3_valueOf g) (T_X3_put g) = B113
        simp only [T_X3_isLetter, T_X3_isDigit, T_X3_runEnd, T_X3_putWord, T_X3_isSign, T_X3_valueOf, T_X3_put, i_const, i_lconst, i_iload, i_aload, i_lload, i_istore, i_astore, i_lstore, i_iinc, i_bin, i_div, i_un, i_i2l, i_l2i, i_lbin, i_lcmp, i_if, i_icmp, i_dup, i_dup_x1, i_dup2, i_pop, i_geti, i_getr, i_getd, i_puti, i_putz, i_putd, i_iald, i_bald, i_aald, i_iast, i_bast, i_alen, i_keep, i_ret, i_retz, i_reta, i_retl, i_retv, i_callv, i_callk, i_calls, i_mm, i_copy, i_under, i_undld, i_ldcs, i_sw, q_swc0, q_swc1, q_lg0, q_lg1, q_lent0, q_lent1, lset, lset2, q_lins0, q_lins1, q_ldel0, q_ldel1, q_ldel20, q_ldel21, q_lkeep0, q_lkeep1, q_memb0, q_memb1, cat2, Nat.reduceBEq, decide_true, decide_false, decide_eq_true_eq, cond_true, cond_false, Bool.and_true, Bool.and_false, Bool.true_and, Bool.false_and, f_iadd, f_isub, f_imul, f_ishl, f_ishr, f_iushr, f_iand, f_ior, f_idiv, f_irem, f_ineg, f_i2b, f_i2s, f_ladd, f_lmul, c_eq, c_ne, c_lt, c_ge, c_gt, c_le, cc_eq, cc_ne, cc_lt, cc_ge, cc_gt, cc_le, rfo, aof, csum, Value.category, List.take, List.drop, List.reverse, List.reverseAux, List.map, List.sum_cons, List.sum_nil, List.cons_append, List.nil_append, Option.toList, List.mem_cons, List.not_mem_nil, List.length_cons, List.length_nil, reduceIte, Nat.reduceEqDiff, Nat.reduceAdd, Nat.reduceLeDiff, Nat.reduceLT, a_day, Nat.zero_ne_one, Nat.one_ne_zero, false_and, and_false, true_and, and_true, or_false, false_or, or_true, true_or, not_true_eq_false, not_false_eq_true, Nat.zero_add, Nat.add_zero, Nat.le_refl, Nat.lt_irrefl, Nat.zero_lt_succ, Nat.zero_le, forall_const, List.cons.injEq, Value.int.injEq, Value.ref.injEq, Value.long.injEq, and_assoc, exists_and_left, exists_eq_left']
        try simp only [forall_eq]
        have ee : tkE (M0 4) n i = i + 1 := by unfold tkE; rw [if_neg y, if_neg u]
        have go2 : ∀ x, x = tkS (M0 4) n i → BX3_token_113 g Q (T_X3_isLetter g) (T_X3_isDigit g) (T_X3_runEnd g) (T_X3_putWord g) (T_X3_isSign g) (T_X3_valueOf g) (T_X3_put g) [(0, .ref 3), (1, .int (nI i)), (2, .int (nI i + 1))] [.int x, .int (nI i), .ref 3] M0 := by
          intro x hx
          unfold BX3_token_113
          simp only [T_X3_put, i_const, i_lconst, i_iload, i_aload, i_lload, i_istore, i_astore, i_lstore, i_iinc, i_bin, i_div, i_un, i_i2l, i_l2i, i_lbin, i_lcmp, i_if, i_icmp, i_dup, i_dup_x1, i_dup2, i_pop, i_geti, i_getr, i_getd, i_puti, i_putz, i_putd, i_iald, i_bald, i_aald, i_iast, i_bast, i_alen, i_keep, i_ret, i_retz, i_reta, i_retl, i_retv, i_callv, i_callk, i_calls, i_mm, i_copy, i_under, i_undld, i_ldcs, i_sw, q_swc0, q_swc1, q_lg0, q_lg1, q_lent0, q_lent1, lset, lset2, q_lins0, q_lins1, q_ldel0, q_ldel1, q_ldel20, q_ldel21, q_lkeep0, q_lkeep1, q_memb0, q_memb1, cat2, Nat.reduceBEq, decide_true, decide_false, decide_eq_true_eq, cond_true, cond_false, Bool.and_true, Bool.and_false, Bool.true_and, Bool.false_and, f_iadd, f_isub, f_imul, f_ishl, f_ishr, f_iushr, f_iand, f_ior, f_idiv, f_irem, f_ineg, f_i2b, f_i2s, f_ladd, f_lmul, c_eq, c_ne, c_lt, c_ge, c_gt, c_le, cc_eq, cc_ne, cc_lt, cc_ge, cc_gt, cc_le, rfo, aof, csum, Value.category, List.take, List.drop, List.reverse, List.reverseAux, List.map, List.sum_cons, List.sum_nil, List.cons_append, List.nil_append, Option.toList, List.mem_cons, List.not_mem_nil, List.length_cons, List.length_nil, reduceIte, Nat.reduceEqDiff, Nat.reduceAdd, Nat.reduceLeDiff, Nat.reduceLT, a_day, Nat.zero_ne_one, Nat.one_ne_zero, false_and, and_false, true_and, and_true, or_false, false_or, or_true, true_or, not_true_eq_false, not_false_eq_true, Nat.zero_add, Nat.add_zero, Nat.le_refl, Nat.lt_irrefl, Nat.zero_lt_succ, Nat.zero_le, forall_const, List.cons.injEq, Value.int.injEq, Value.ref.injEq, Value.long.injEq, and_assoc, exists_and_left, exists_eq_left', forall_eq]
          refine ⟨(r_3 hr).1, (r_3 hr).2.1, t, h5, by omega, ?_⟩
          have := go x 0 hx (by unfold tkV; rw [if_neg y, if_neg u])
          rw [ee] at this
          rw [nI_1]
          exact this
        refine ⟨fun z => ?_, fun z => ⟨r_3 hr, r_4 hr, v_4 (by omega), ?_⟩⟩
        · subst hB113; exact go2 1 (by unfold tkS; rw [if_neg y, if_neg u, if_neg (b2n z)])
        · rw [nI_clamp (by omega)]
          subst hB113; exact go2 _ (by unfold tkS; rw [if_neg y, if_neg u, if_pos (b2t z)])
      · have u := b2t u
        have ee : tkE (M0 4) n i = rnE dig (M0 4) (n - i) i := by unfold tkE; rw [if_neg y, if_pos u]
        refine ⟨(r_3 hr).1, (r_3 hr).2.1, i, rfl, n, h4, by omega, hn, ?_⟩
        rw [show (fun c : Int32 => decide (48 ≤ c ∧ c ≤ 57)) = dig from rfl, ← ee]
        subst hB56
        unfold BX3_token_56
        generalize hB71 : BX3_token_71 g Q (T_X3_isLetter g) (T_X3_isDigit g) (T_X3_runEnd g) (T_X3_putWord g) (T_X3_isSign g) (T_X3_valueOf g) (T_X3_put g) = B71
        simp only [T_X3_isLetter, T_X3_isDigit, T_X3_runEnd, T_X3_putWord, T_X3_isSign, T_X3_valueOf, T_X3_put, i_const, i_lconst, i_iload, i_aload, i_lload, i_istore, i_astore, i_lstore, i_iinc, i_bin, i_div, i_un, i_i2l, i_l2i, i_lbin, i_lcmp, i_if, i_icmp, i_dup, i_dup_x1, i_dup2, i_pop, i_geti, i_getr, i_getd, i_puti, i_putz, i_putd, i_iald, i_bald, i_aald, i_iast, i_bast, i_alen, i_keep, i_ret, i_retz, i_reta, i_retl, i_retv, i_callv, i_callk, i_calls, i_mm, i_copy, i_under, i_undld, i_ldcs, i_sw, q_swc0, q_swc1, q_lg0, q_lg1, q_lent0, q_lent1, lset, lset2, q_lins0, q_lins1, q_ldel0, q_ldel1, q_ldel20, q_ldel21, q_lkeep0, q_lkeep1, q_memb0, q_memb1, cat2, Nat.reduceBEq, decide_true, decide_false, decide_eq_true_eq, cond_true, cond_false, Bool.and_true, Bool.and_false, Bool.true_and, Bool.false_and, f_iadd, f_isub, f_imul, f_ishl, f_ishr, f_iushr, f_iand, f_ior, f_idiv, f_irem, f_ineg, f_i2b, f_i2s, f_ladd, f_lmul, c_eq, c_ne, c_lt, c_ge, c_gt, c_le, cc_eq, cc_ne, cc_lt, cc_ge, cc_gt, cc_le, rfo, aof, csum, Value.category, List.take, List.drop, List.reverse, List.reverseAux, List.map, List.sum_cons, List.sum_nil, List.cons_append, List.nil_append, Option.toList, List.mem_cons, List.not_mem_nil, List.length_cons, List.length_nil, reduceIte, Nat.reduceEqDiff, Nat.reduceAdd, Nat.reduceLeDiff, Nat.reduceLT, a_day, Nat.zero_ne_one, Nat.one_ne_zero, false_and, and_false, true_and, and_true, or_false, false_or, or_true, true_or, not_true_eq_false, not_false_eq_true, Nat.zero_add, Nat.add_zero, Nat.le_refl, Nat.lt_irrefl, Nat.zero_lt_succ, Nat.zero_le, forall_const, List.cons.injEq, Value.int.injEq, Value.ref.injEq, Value.long.injEq, and_assoc, exists_and_left, exists_eq_left']
        try simp only [forall_eq]
        have go7 : ∀ x, x = tkS (M0 4) n i → BX3_token_71 g Q (T_X3_isLetter g) (T_X3_isDigit g) (T_X3_runEnd g) (T_X3_putWord g) (T_X3_isSign g) (T_X3_valueOf g) (T_X3_put g) [(0, .ref 3), (1, .int (nI i)), (2, .int (nI (tkE (M0 4) n i)))] [.int x, .int (nI i), .ref 3] M0 := by
          intro x hx
          unfold BX3_token_71
          simp only [T_X3_valueOf, i_const, i_lconst, i_iload, i_aload, i_lload, i_istore, i_astore, i_lstore, i_iinc, i_bin, i_div, i_un, i_i2l, i_l2i, i_lbin, i_lcmp, i_if, i_icmp, i_dup, i_dup_x1, i_dup2, i_pop, i_geti, i_getr, i_getd, i_puti, i_putz, i_putd, i_iald, i_bald, i_aald, i_iast, i_bast, i_alen, i_keep, i_ret, i_retz, i_reta, i_retl, i_retv, i_callv, i_callk, i_calls, i_mm, i_copy, i_under, i_undld, i_ldcs, i_sw, q_swc0, q_swc1, q_lg0, q_lg1, q_lent0, q_lent1, lset, lset2, q_lins0, q_lins1, q_ldel0, q_ldel1, q_ldel20, q_ldel21, q_lkeep0, q_lkeep1, q_memb0, q_memb1, cat2, Nat.reduceBEq, decide_true, decide_false, decide_eq_true_eq, cond_true, cond_false, Bool.and_true, Bool.and_false, Bool.true_and, Bool.false_and, f_iadd, f_isub, f_imul, f_ishl, f_ishr, f_iushr, f_iand, f_ior, f_idiv, f_irem, f_ineg, f_i2b, f_i2s, f_ladd, f_lmul, c_eq, c_ne, c_lt, c_ge, c_gt, c_le, cc_eq, cc_ne, cc_lt, cc_ge, cc_gt, cc_le, rfo, aof, csum, Value.category, List.take, List.drop, List.reverse, List.reverseAux, List.map, List.sum_cons, List.sum_nil, List.cons_append, List.nil_append, Option.toList, List.mem_cons, List.not_mem_nil, List.length_cons, List.length_nil, reduceIte, Nat.reduceEqDiff, Nat.reduceAdd, Nat.reduceLeDiff, Nat.reduceLT, a_day, Nat.zero_ne_one, Nat.one_ne_zero, false_and, and_false, true_and, and_true, or_false, false_or, or_true, true_or, not_true_eq_false, not_false_eq_true, Nat.zero_add, Nat.add_zero, Nat.le_refl, Nat.lt_irrefl, Nat.zero_lt_succ, Nat.zero_le, forall_const, List.cons.injEq, Value.int.injEq, Value.ref.injEq, Value.long.injEq, and_assoc, exists_and_left, exists_eq_left', forall_eq]
          refine ⟨(r_3 hr).1, (r_3 hr).2.1, i, rfl, min (tkE (M0 4) n i) (i + 4), ?_, by omega, by omega, ?_⟩
          · rw [show (4 : Int32) = nI 4 from rfl, nI_add]
            rw [min_app]
            have := nI_ltI (a := i + 4) (b := tkE (M0 4) n i) (by omega) (by omega)
            split
            · next q => rw [Nat.min_eq_right (Nat.le_of_lt (this.mp q))]
            · next q => rw [Nat.min_eq_left (Nat.le_of_not_lt fun w => q (this.mpr w))]
          unfold BX3_token_83
          simp only [T_X3_put, i_const, i_lconst, i_iload, i_aload, i_lload, i_istore, i_astore, i_lstore, i_iinc, i_bin, i_div, i_un, i_i2l, i_l2i, i_lbin, i_lcmp, i_if, i_icmp, i_dup, i_dup_x1, i_dup2, i_pop, i_geti, i_getr, i_getd, i_puti, i_putz, i_putd, i_iald, i_bald, i_aald, i_iast, i_bast, i_alen, i_keep, i_ret, i_retz, i_reta, i_retl, i_retv, i_callv, i_callk, i_calls, i_mm, i_copy, i_under, i_undld, i_ldcs, i_sw, q_swc0, q_swc1, q_lg0, q_lg1, q_lent0, q_lent1, lset, lset2, q_lins0, q_lins1, q_ldel0, q_ldel1, q_ldel20, q_ldel21, q_lkeep0, q_lkeep1, q_memb0, q_memb1, cat2, Nat.reduceBEq, decide_true, decide_false, decide_eq_true_eq, cond_true, cond_false, Bool.and_true, Bool.and_false, Bool.true_and, Bool.false_and, f_iadd, f_isub, f_imul, f_ishl, f_ishr, f_iushr, f_iand, f_ior, f_idiv, f_irem, f_ineg, f_i2b, f_i2s, f_ladd, f_lmul, c_eq, c_ne, c_lt, c_ge, c_gt, c_le, cc_eq, cc_ne, cc_lt, cc_ge, cc_gt, cc_le, rfo, aof, csum, Value.category, List.take, List.drop, List.reverse, List.reverseAux, List.map, List.sum_cons, List.sum_nil, List.cons_append, List.nil_append, Option.toList, List.mem_cons, List.not_mem_nil, List.length_cons, List.length_nil, reduceIte, Nat.reduceEqDiff, Nat.reduceAdd, Nat.reduceLeDiff, Nat.reduceLT, a_day, Nat.zero_ne_one, Nat.one_ne_zero, false_and, and_false, true_and, and_true, or_false, false_or, or_true, true_or, not_true_eq_false, not_false_eq_true, Nat.zero_add, Nat.add_zero, Nat.le_refl, Nat.lt_irrefl, Nat.zero_lt_succ, Nat.zero_le, forall_const, List.cons.injEq, Value.int.injEq, Value.ref.injEq, Value.long.injEq, and_assoc, exists_and_left, exists_eq_left', forall_eq]
          refine ⟨(r_3 hr).1, (r_3 hr).2.1, t, h5, by omega, ?_⟩
          unfold BX3_token_86
          exact go x _ hx (by unfold tkV; rw [if_neg y, if_pos u])
        rw [pk_sub (by omega), show (4 : Int32) = nI 4 from rfl, nI_leI (by omega) (by decide)]
        refine ⟨fun z => ?_, fun z => ?_⟩
        · subst hB71; exact go7 2 (by unfold tkS; rw [if_neg y, if_pos u, if_neg (by omega)])
        · subst hB71; exact go7 1 (by unfold tkS; rw [if_neg y, if_pos u, if_pos (by omega)])
    · have y := b2t y
      have ee : tkE (M0 4) n i = rnE ltr (M0 4) (n - i) i := by unfold tkE; rw [if_pos y]
      refine ⟨(r_3 hr).1, (r_3 hr).2.1, i, rfl, n, h4, by omega, hn, ?_⟩
      rw [show (fun c : Int32 => decide (97 ≤ c ∧ c ≤ 122)) = ltr from rfl, ← ee]
      subst hB25
      unfold BX3_token_25
      generalize hB32 : BX3_token_32 g Q (T_X3_isLetter g) (T_X3_isDigit g) (T_X3_runEnd g) (T_X3_putWord g) (T_X3_isSign g) (T_X3_valueOf g) (T_X3_put g) = B32
      simp only [T_X3_isLetter, T_X3_isDigit, T_X3_runEnd, T_X3_putWord, T_X3_isSign, T_X3_valueOf, T_X3_put, i_const, i_lconst, i_iload, i_aload, i_lload, i_istore, i_astore, i_lstore, i_iinc, i_bin, i_div, i_un, i_i2l, i_l2i, i_lbin, i_lcmp, i_if, i_icmp, i_dup, i_dup_x1, i_dup2, i_pop, i_geti, i_getr, i_getd, i_puti, i_putz, i_putd, i_iald, i_bald, i_aald, i_iast, i_bast, i_alen, i_keep, i_ret, i_retz, i_reta, i_retl, i_retv, i_callv, i_callk, i_calls, i_mm, i_copy, i_under, i_undld, i_ldcs, i_sw, q_swc0, q_swc1, q_lg0, q_lg1, q_lent0, q_lent1, lset, lset2, q_lins0, q_lins1, q_ldel0, q_ldel1, q_ldel20, q_ldel21, q_lkeep0, q_lkeep1, q_memb0, q_memb1, cat2, Nat.reduceBEq, decide_true, decide_false, decide_eq_true_eq, cond_true, cond_false, Bool.and_true, Bool.and_false, Bool.true_and, Bool.false_and, f_iadd, f_isub, f_imul, f_ishl, f_ishr, f_iushr, f_iand, f_ior, f_idiv, f_irem, f_ineg, f_i2b, f_i2s, f_ladd, f_lmul, c_eq, c_ne, c_lt, c_ge, c_gt, c_le, cc_eq, cc_ne, cc_lt, cc_ge, cc_gt, cc_le, rfo, aof, csum, Value.category, List.take, List.drop, List.reverse, List.reverseAux, List.map, List.sum_cons, List.sum_nil, List.cons_append, List.nil_append, Option.toList, List.mem_cons, List.not_mem_nil, List.length_cons, List.length_nil, reduceIte, Nat.reduceEqDiff, Nat.reduceAdd, Nat.reduceLeDiff, Nat.reduceLT, a_day, Nat.zero_ne_one, Nat.one_ne_zero, false_and, and_false, true_and, and_true, or_false, false_or, or_true, true_or, not_true_eq_false, not_false_eq_true, Nat.zero_add, Nat.add_zero, Nat.le_refl, Nat.lt_irrefl, Nat.zero_lt_succ, Nat.zero_le, forall_const, List.cons.injEq, Value.int.injEq, Value.ref.injEq, Value.long.injEq, and_assoc, exists_and_left, exists_eq_left']
      try simp only [forall_eq]
      refine ⟨(r_3 hr).1, (r_3 hr).2.1, i, rfl, _, rfl, by omega, by omega, t, h5, by omega, ?_⟩
      subst hB32
      unfold BX3_token_32
      exact go _ _ (by unfold tkS; rw [if_pos y]) (by unfold tkV; rw [if_pos y])
theorem skp_le {B : Nat → Int32} {n p : Nat} (h : p ≤ n) : p ≤ skp B n p ∧ skp B n p ≤ n := by
  unfold skp
  have := rnE_le blk B (n - p) p
  omega
theorem skp_n {B : Nat → Int32} {n p : Nat} (h : n ≤ p) : skp B n p = p := rnE_stop (Or.inl h)
theorem skp_b {B : Nat → Int32} {n p : Nat} (h : p < n) (hb : blk (B p) = true) : skp B n p = skp B n (p + 1) := rnE_step h hb
theorem skp_t {B : Nat → Int32} {n p : Nat} (hb : ¬ blk (B p) = true) : skp B n p = p := rnE_stop (Or.inr hb)
theorem pl_le (B : Nat → Int32) (n : Nat) : ∀ k, pl B n k ≤ n
  | 0 => (skp_le (Nat.zero_le _)).2
  | k + 1 => by
    simp only [pl]
    split
    · next h => exact (skp_le (tkE_le h).2).2
    · exact Nat.le_refl _
/-- the first t tokens stand in the rows -/
def TF (B : Nat → Int32) (n t : Nat) (M : MM) : Prop := ∀ k, k < t → pl B n k < n ∧ M 7 k = nI (pl B n k) ∧ M 5 k = tkS B n (pl B n k) ∧ M 6 k = tkV B n (pl B n k)
theorem TF.add {B : Nat → Int32} {n t : Nat} {M : MM} (h : TF B n t M) (hp : pl B n t < n) (x : Int32) : TF B n (t + 1) (mset (mset (mset (mset M 7 t (nI (pl B n t))) 5 t (tkS B n (pl B n t))) 6 t (tkV B n (pl B n t))) 3 5 x) := by
  intro k hk
  simp only [mset_app]
  by_cases e : k = t
  · subst e
    exact ⟨hp, by simp, by simp, by simp⟩
  · have := h k (by omega)
    simp [e]
    exact this
def YT (a b : Nat) : Prop := a = 5 ∨ a = 6 ∨ a = 7 ∨ (a = 3 ∧ b = 5)
def T_X3_tokenize (g : WG) (as : List Value) (M : MM) (Q : Option Value → MM → Prop) : Prop := ∃ n, as = [.ref 3] ∧ M 3 4 = nI n ∧ n ≤ 160 ∧ ∀ m M', m ≤ n → pl (M 4) n m = n → M' 3 5 = nI m → TF (M 4) n m M' → M' 5 m = 0 → M' 6 m = 0 → M' 7 m = nI n → Sm YT M M' → Q none M'
set_option maxRecDepth 100000 in
set_option maxHeartbeats 2000000 in
theorem t_X3_tokenize {l : Launch} {g : WG} (hr : Reg g 3 32) : Ct l g yX3_tokenize cX3_tokenize 4 ((Option.none : Option FieldType)) 9 (T_X3_tokenize g) := by
  refine Ct.of (by decide) (fun as M Q h => ?_) (fun p e s m args below meth c as M Q h C => ?_)
  · obtain ⟨nn, rfl, h4, hnn, h⟩ := h; exact ⟨by simp, by simp [Value.category]⟩
  · obtain ⟨nn, rfl, h4, hnn, h⟩ := h
    obtain ⟨I9, hI9⟩ : ∃ I : Nat → PP, I = (fun n lv st M' => ∃ i nx t, lv = [(0, .ref 3), (1, .int (nI nx)), (2, .int (nI i))] ∧ st = [] ∧ i ≤ nn ∧ nx ≤ nn ∧ t ≤ i ∧ n = nn - i ∧ Sm YT M M' ∧ M' 3 5 = nI t ∧ TF (M 4) nn t M' ∧ pl (M 4) nn t = skp (M 4) nn (max i nx)) := ⟨_, rfl⟩
    obtain ⟨E9, hE9⟩ : ∃ E : PP, E = (fun lv st M => ∃ n, I9 n lv st M) := ⟨_, rfl⟩
    have iE9 : ∀ n lv st M, I9 n lv st M → E9 lv st M := fun n lv st M h => by rw [hE9]; exact ⟨n, h⟩
    have L9 : Sj p l e 9 s m args below meth c 4 g (MQ below (cQc g Q) args s 0 0 (gA g)) 9 E9 := by
      rw [hE9]
      refine s_ex (s_loop I9 (fun K9 k9 => WX3_tokenize_9 C (t_X3_token hr) (by decide) (t_X3_put hr) (by decide) k9) ?_)
      intro n lv st M1 K9 hK9 hI; rw [hI9] at hI; obtain ⟨i, nx, t, rfl, rfl, hi, hx, ht, rfl, hs, h5, hT, hp⟩ := hI
      unfold BX3_tokenize_9
      generalize hB39 : BX3_tokenize_39 g Q (T_X3_token g) (T_X3_put g) K9 = B39
      generalize hB44 : BX3_tokenize_44 g Q (T_X3_token g) (T_X3_put g) K9 = B44
      generalize hB66 : BX3_tokenize_66 g Q (T_X3_token g) (T_X3_put g) K9 = B66
      simp only [T_X3_token, T_X3_put, i_const, i_lconst, i_iload, i_aload, i_lload, i_istore, i_astore, i_lstore, i_iinc, i_bin, i_div, i_un, i_i2l, i_l2i, i_lbin, i_lcmp, i_if, i_icmp, i_dup, i_dup_x1, i_dup2, i_pop, i_geti, i_getr, i_getd, i_puti, i_putz, i_putd, i_iald, i_bald, i_aald, i_iast, i_bast, i_alen, i_keep, i_ret, i_retz, i_reta, i_retl, i_retv, i_callv, i_callk, i_calls, i_mm, i_copy, i_under, i_undld, i_ldcs, i_sw, q_swc0, q_swc1, q_lg0, q_lg1, q_lent0, q_lent1, lset, lset2, q_lins0, q_lins1, q_ldel0, q_ldel1, q_ldel20, q_ldel21, q_lkeep0, q_lkeep1, q_memb0, q_memb1, cat2, Nat.reduceBEq, decide_true, decide_false, decide_eq_true_eq, cond_true, cond_false, Bool.and_true, Bool.and_false, Bool.true_and, Bool.false_and, f_iadd, f_isub, f_imul, f_ishl, f_ishr, f_iushr, f_iand, f_ior, f_idiv, f_irem, f_ineg, f_i2b, f_i2s, f_ladd, f_lmul, c_eq, c_ne, c_lt, c_ge, c_gt, c_le, cc_eq, cc_ne, cc_lt, cc_ge, cc_gt, cc_le, rfo, aof, csum, Value.category, List.take, List.drop, List.reverse, List.reverseAux, List.map, List.sum_cons, List.sum_nil, List.cons_append, List.nil_append, Option.toList, List.mem_cons, List.not_mem_nil, List.length_cons, List.length_nil, reduceIte, Nat.reduceEqDiff, Nat.reduceAdd, Nat.reduceLeDiff, Nat.reduceLT, a_day, Nat.zero_ne_one, Nat.one_ne_zero, false_and, and_false, true_and, and_true, or_false, false_or, or_true, true_or, not_true_eq_false, not_false_eq_true, Nat.zero_add, Nat.add_zero, Nat.le_refl, Nat.lt_irrefl, Nat.zero_lt_succ, Nat.zero_le, forall_const, List.cons.injEq, Value.int.injEq, Value.ref.injEq, Value.long.injEq, and_assoc, exists_and_left, exists_eq_left']
      try simp only [forall_eq]
      have e4 : M1 3 4 = nI nn := by rw [hs 3 4 (by unfold YT; omega)]; exact h4
      have eB : M1 4 = M 4 := funext fun j => hs _ _ (by unfold YT; omega)
      have go44 : ∀ x : Int32, (x = 1 ∧ blk (M 4 i) = true) ∨ (x = 0 ∧ ¬ blk (M 4 i) = true) → i < nn → BX3_tokenize_44 g Q (T_X3_token g) (T_X3_put g) K9 [(0, .ref 3), (1, .int (nI nx)), (2, .int (nI i))] [.int x] M1 := by
        intro x hb hil
        unfold BX3_tokenize_44
        simp only [T_X3_token, i_const, i_lconst, i_iload, i_aload, i_lload, i_istore, i_astore, i_lstore, i_iinc, i_bin, i_div, i_un, i_i2l, i_l2i, i_lbin, i_lcmp, i_if, i_icmp, i_dup, i_dup_x1, i_dup2, i_pop, i_geti, i_getr, i_getd, i_puti, i_putz, i_putd, i_iald, i_bald, i_aald, i_iast, i_bast, i_alen, i_keep, i_ret, i_retz, i_reta, i_retl, i_retv, i_callv, i_callk, i_calls, i_mm, i_copy, i_under, i_undld, i_ldcs, i_sw, q_swc0, q_swc1, q_lg0, q_lg1, q_lent0, q_lent1, lset, lset2, q_lins0, q_lins1, q_ldel0, q_ldel1, q_ldel20, q_ldel21, q_lkeep0, q_lkeep1, q_memb0, q_memb1, cat2, Nat.reduceBEq, decide_true, decide_false, decide_eq_true_eq, cond_true, cond_false, Bool.and_true, Bool.and_false, Bool.true_and, Bool.false_and, f_iadd, f_isub, f_imul, f_ishl, f_ishr, f_iushr, f_iand, f_ior, f_idiv, f_irem, f_ineg, f_i2b, f_i2s, f_ladd, f_lmul, c_eq, c_ne, c_lt, c_ge, c_gt, c_le, cc_eq, cc_ne, cc_lt, cc_ge, cc_gt, cc_le, rfo, aof, csum, Value.category, List.take, List.drop, List.reverse, List.reverseAux, List.map, List.sum_cons, List.sum_nil, List.cons_append, List.nil_append, Option.toList, List.mem_cons, List.not_mem_nil, List.length_cons, List.length_nil, reduceIte, Nat.reduceEqDiff, Nat.reduceAdd, Nat.reduceLeDiff, Nat.reduceLT, a_day, Nat.zero_ne_one, Nat.one_ne_zero, false_and, and_false, true_and, and_true, or_false, false_or, or_true, true_or, not_true_eq_false, not_false_eq_true, Nat.zero_add, Nat.add_zero, Nat.le_refl, Nat.lt_irrefl, Nat.zero_lt_succ, Nat.zero_le, forall_const, List.cons.injEq, Value.int.injEq, Value.ref.injEq, Value.long.injEq, and_assoc, exists_and_left, exists_eq_left', forall_eq]
        rw [nI_ltI (by omega) (by omega), nI_1]
        have nxt : skp (M 4) nn (max i nx) = skp (M 4) nn (max (i + 1) nx) → K9 [(0, .ref 3), (1, .int (nI nx)), (2, .int (nI (i + 1)))] [] M1 := by
          intro e
          refine hK9 (nn - (i + 1)) _ _ _ (by omega) ?_
          rw [hI9]
          exact ⟨i + 1, nx, t, rfl, rfl, by omega, by omega, by omega, rfl, hs, h5, hT, by rw [hp, e]⟩
        refine ⟨fun z => nxt ?_, fun z => ⟨fun y => nxt ?_, fun y => ?_⟩⟩
        · rw [show max i nx = nx by omega, show max (i + 1) nx = nx by omega]
        · rw [show max i nx = i by omega, show max (i + 1) nx = i + 1 by omega]
          rcases hb with ⟨-, hb⟩ | ⟨rfl, -⟩
          · exact skp_b hil hb
          · exact absurd rfl y
        · have hx0 : ¬ blk (M 4 i) = true := by
            rcases hb with ⟨rfl, -⟩ | ⟨-, hb⟩
            · exact absurd y (by decide)
            · exact hb
          have hpi : pl (M 4) nn t = i := by rw [hp, show max i nx = i by omega]; exact skp_t hx0
          refine ⟨(r_3 hr).1, (r_3 hr).2.1, i, rfl, nn, e4, hil, hnn, t, h5, by omega, ?_⟩
          unfold BX3_tokenize_59
          simp only [i_const, i_lconst, i_iload, i_aload, i_lload, i_istore, i_astore, i_lstore, i_iinc, i_bin, i_div, i_un, i_i2l, i_l2i, i_lbin, i_lcmp, i_if, i_icmp, i_dup, i_dup_x1, i_dup2, i_pop, i_geti, i_getr, i_getd, i_puti, i_putz, i_putd, i_iald, i_bald, i_aald, i_iast, i_bast, i_alen, i_keep, i_ret, i_retz, i_reta, i_retl, i_retv, i_callv, i_callk, i_calls, i_mm, i_copy, i_under, i_undld, i_ldcs, i_sw, q_swc0, q_swc1, q_lg0, q_lg1, q_lent0, q_lent1, lset, lset2, q_lins0, q_lins1, q_ldel0, q_ldel1, q_ldel20, q_ldel21, q_lkeep0, q_lkeep1, q_memb0, q_memb1, cat2, Nat.reduceBEq, decide_true, decide_false, decide_eq_true_eq, cond_true, cond_false, Bool.and_true, Bool.and_false, Bool.true_and, Bool.false_and, f_iadd, f_isub, f_imul, f_ishl, f_ishr, f_iushr, f_iand, f_ior, f_idiv, f_irem, f_ineg, f_i2b, f_i2s, f_ladd, f_lmul, c_eq, c_ne, c_lt, c_ge, c_gt, c_le, cc_eq, cc_ne, cc_lt, cc_ge, cc_gt, cc_le, rfo, aof, csum, Value.category, List.take, List.drop, List.reverse, List.reverseAux, List.map, List.sum_cons, List.sum_nil, List.cons_append, List.nil_append, Option.toList, List.mem_cons, List.not_mem_nil, List.length_cons, List.length_nil, reduceIte, Nat.reduceEqDiff, Nat.reduceAdd, Nat.reduceLeDiff, Nat.reduceLT, a_day, Nat.zero_ne_one, Nat.one_ne_zero, false_and, and_false, true_and, and_true, or_false, false_or, or_true, true_or, not_true_eq_false, not_false_eq_true, Nat.zero_add, Nat.add_zero, Nat.le_refl, Nat.lt_irrefl, Nat.zero_lt_succ, Nat.zero_le, forall_const, List.cons.injEq, Value.int.injEq, Value.ref.injEq, Value.long.injEq, and_assoc, exists_and_left, exists_eq_left', forall_eq]
          rw [eB, nI_1]
          have hte := tkE_le (B := M 4) hil
          refine hK9 (nn - (i + 1)) _ _ _ (by omega) ?_
          rw [hI9]
          have hadd := hT.add (by omega) (nI (t + 1))
          rw [hpi] at hadd
          refine ⟨i + 1, tkE (M 4) nn i, t + 1, rfl, rfl, by omega, hte.2, by omega, rfl, (((hs.set _ (Or.inr (Or.inr (Or.inl rfl)))).set _ (Or.inl rfl)).set _ (Or.inr (Or.inl rfl))).set _ (Or.inr (Or.inr (Or.inr ⟨rfl, rfl⟩))), ms_s _ _ _ _, hadd, ?_⟩
          simp only [pl]
          rw [hpi, if_pos hil, show max (i + 1) (tkE (M 4) nn i) = tkE (M 4) nn i by omega]
      rw [e4, nI_leI (by omega) (by omega), nI_clamp (by omega), eB]
      refine ⟨r_3 hr, fun z => ?_, fun z => ⟨r_3 hr, r_4 hr, v_4 (by omega), fun y => ?_, fun y => ⟨r_3 hr, r_4 hr, v_4 (by omega), fun u => ?_, fun u => ?_⟩⟩⟩
      · have hin : i = nn := by omega
        subst hin
        subst hB66
        unfold BX3_tokenize_66
        simp only [T_X3_token, T_X3_put, i_const, i_lconst, i_iload, i_aload, i_lload, i_istore, i_astore, i_lstore, i_iinc, i_bin, i_div, i_un, i_i2l, i_l2i, i_lbin, i_lcmp, i_if, i_icmp, i_dup, i_dup_x1, i_dup2, i_pop, i_geti, i_getr, i_getd, i_puti, i_putz, i_putd, i_iald, i_bald, i_aald, i_iast, i_bast, i_alen, i_keep, i_ret, i_retz, i_reta, i_retl, i_retv, i_callv, i_callk, i_calls, i_mm, i_copy, i_under, i_undld, i_ldcs, i_sw, q_swc0, q_swc1, q_lg0, q_lg1, q_lent0, q_lent1, lset, lset2, q_lins0, q_lins1, q_ldel0, q_ldel1, q_ldel20, q_ldel21, q_lkeep0, q_lkeep1, q_memb0, q_memb1, cat2, Nat.reduceBEq, decide_true, decide_false, decide_eq_true_eq, cond_true, cond_false, Bool.and_true, Bool.and_false, Bool.true_and, Bool.false_and, f_iadd, f_isub, f_imul, f_ishl, f_ishr, f_iushr, f_iand, f_ior, f_idiv, f_irem, f_ineg, f_i2b, f_i2s, f_ladd, f_lmul, c_eq, c_ne, c_lt, c_ge, c_gt, c_le, cc_eq, cc_ne, cc_lt, cc_ge, cc_gt, cc_le, rfo, aof, csum, Value.category, List.take, List.drop, List.reverse, List.reverseAux, List.map, List.sum_cons, List.sum_nil, List.cons_append, List.nil_append, Option.toList, List.mem_cons, List.not_mem_nil, List.length_cons, List.length_nil, reduceIte, Nat.reduceEqDiff, Nat.reduceAdd, Nat.reduceLeDiff, Nat.reduceLT, a_day, Nat.zero_ne_one, Nat.one_ne_zero, false_and, and_false, true_and, and_true, or_false, false_or, or_true, true_or, not_true_eq_false, not_false_eq_true, Nat.zero_add, Nat.add_zero, Nat.le_refl, Nat.lt_irrefl, Nat.zero_lt_succ, Nat.zero_le, forall_const, List.cons.injEq, Value.int.injEq, Value.ref.injEq, Value.long.injEq, and_assoc, exists_and_left, exists_eq_left']
        try simp only [forall_eq]
        refine ⟨r_3 hr, (r_3 hr).1, (r_3 hr).2.1, t, h5, by omega, ?_⟩
        have hpn : pl (M 4) i t = i := by rw [hp, show max i nx = i by omega]; exact skp_n (Nat.le_refl _)
        refine h t _ ht hpn ?_ ?_ ?_ ?_ ?_ (((hs.set _ (Or.inr (Or.inr (Or.inl rfl)))).set _ (Or.inl rfl)).set _ (Or.inr (Or.inl rfl)))
        · rw [ms_q (by decide), ms_q (by decide), ms_q (by decide)]; exact h5
        · intro k hk
          rw [ms_q (by decide), ms_q (by decide), ms_j (by omega), ms_q (by decide), ms_j (by omega), ms_q (by decide), ms_j (by omega), ms_q (by decide), ms_q (by decide)]
          exact hT k hk
        · rw [ms_q (by decide), ms_s]
        · rw [ms_s]
        · rw [ms_q (by decide), ms_q (by decide), ms_s]; exact e4
      · subst hB39
        unfold BX3_tokenize_39
        simp only [i_const, i_lconst, i_iload, i_aload, i_lload, i_istore, i_astore, i_lstore, i_iinc, i_bin, i_div, i_un, i_i2l, i_l2i, i_lbin, i_lcmp, i_if, i_icmp, i_dup, i_dup_x1, i_dup2, i_pop, i_geti, i_getr, i_getd, i_puti, i_putz, i_putd, i_iald, i_bald, i_aald, i_iast, i_bast, i_alen, i_keep, i_ret, i_retz, i_reta, i_retl, i_retv, i_callv, i_callk, i_calls, i_mm, i_copy, i_under, i_undld, i_ldcs, i_sw, q_swc0, q_swc1, q_lg0, q_lg1, q_lent0, q_lent1, lset, lset2, q_lins0, q_lins1, q_ldel0, q_ldel1, q_ldel20, q_ldel21, q_lkeep0, q_lkeep1, q_memb0, q_memb1, cat2, Nat.reduceBEq, decide_true, decide_false, decide_eq_true_eq, cond_true, cond_false, Bool.and_true, Bool.and_false, Bool.true_and, Bool.false_and, f_iadd, f_isub, f_imul, f_ishl, f_ishr, f_iushr, f_iand, f_ior, f_idiv, f_irem, f_ineg, f_i2b, f_i2s, f_ladd, f_lmul, c_eq, c_ne, c_lt, c_ge, c_gt, c_le, cc_eq, cc_ne, cc_lt, cc_ge, cc_gt, cc_le, rfo, aof, csum, Value.category, List.take, List.drop, List.reverse, List.reverseAux, List.map, List.sum_cons, List.sum_nil, List.cons_append, List.nil_append, Option.toList, List.mem_cons, List.not_mem_nil, List.length_cons, List.length_nil, reduceIte, Nat.reduceEqDiff, Nat.reduceAdd, Nat.reduceLeDiff, Nat.reduceLT, a_day, Nat.zero_ne_one, Nat.one_ne_zero, false_and, and_false, true_and, and_true, or_false, false_or, or_true, true_or, not_true_eq_false, not_false_eq_true, Nat.zero_add, Nat.add_zero, Nat.le_refl, Nat.lt_irrefl, Nat.zero_lt_succ, Nat.zero_le, forall_const, List.cons.injEq, Value.int.injEq, Value.ref.injEq, Value.long.injEq, and_assoc, exists_and_left, exists_eq_left']
        exact go44 1 (Or.inl ⟨rfl, decide_eq_true (Or.inl y)⟩) (by omega)
      · subst hB44
        exact go44 0 (Or.inr ⟨rfl, fun q => (of_decide_eq_true q).elim y u⟩) (by omega)
      · subst hB39
        unfold BX3_tokenize_39
        simp only [i_const, i_lconst, i_iload, i_aload, i_lload, i_istore, i_astore, i_lstore, i_iinc, i_bin, i_div, i_un, i_i2l, i_l2i, i_lbin, i_lcmp, i_if, i_icmp, i_dup, i_dup_x1, i_dup2, i_pop, i_geti, i_getr, i_getd, i_puti, i_putz, i_putd, i_iald, i_bald, i_aald, i_iast, i_bast, i_alen, i_keep, i_ret, i_retz, i_reta, i_retl, i_retv, i_callv, i_callk, i_calls, i_mm, i_copy, i_under, i_undld, i_ldcs, i_sw, q_swc0, q_swc1, q_lg0, q_lg1, q_lent0, q_lent1, lset, lset2, q_lins0, q_lins1, q_ldel0, q_ldel1, q_ldel20, q_ldel21, q_lkeep0, q_lkeep1, q_memb0, q_memb1, cat2, Nat.reduceBEq, decide_true, decide_false, decide_eq_true_eq, cond_true, cond_false, Bool.and_true, Bool.and_false, Bool.true_and, Bool.false_and, f_iadd, f_isub, f_imul, f_ishl, f_ishr, f_iushr, f_iand, f_ior, f_idiv, f_irem, f_ineg, f_i2b, f_i2s, f_ladd, f_lmul, c_eq, c_ne, c_lt, c_ge, c_gt, c_le, cc_eq, cc_ne, cc_lt, cc_ge, cc_gt, cc_le, rfo, aof, csum, Value.category, List.take, List.drop, List.reverse, List.reverseAux, List.map, List.sum_cons, List.sum_nil, List.cons_append, List.nil_append, Option.toList, List.mem_cons, List.not_mem_nil, List.length_cons, List.length_nil, reduceIte, Nat.reduceEqDiff, Nat.reduceAdd, Nat.reduceLeDiff, Nat.reduceLT, a_day, Nat.zero_ne_one, Nat.one_ne_zero, false_and, and_false, true_and, and_true, or_false, false_or, or_true, true_or, not_true_eq_false, not_false_eq_true, Nat.zero_add, Nat.add_zero, Nat.le_refl, Nat.lt_irrefl, Nat.zero_lt_succ, Nat.zero_le, forall_const, List.cons.injEq, Value.int.injEq, Value.ref.injEq, Value.long.injEq, and_assoc, exists_and_left, exists_eq_left']
        exact go44 1 (Or.inl ⟨rfl, decide_eq_true (Or.inr (Decidable.not_not.mp u))⟩) (by omega)
      
    refine s_of (fun lv st M0 hs => ?_) (WX3_tokenize_0 C (t_X3_token hr) (by decide) (t_X3_put hr) (by decide) L9)
    obtain ⟨rfl, rfl, rfl⟩ := hs
    unfold BX3_tokenize_0
    simp only [T_X3_token, T_X3_put, i_const, i_lconst, i_iload, i_aload, i_lload, i_istore, i_astore, i_lstore, i_iinc, i_bin, i_div, i_un, i_i2l, i_l2i, i_lbin, i_lcmp, i_if, i_icmp, i_dup, i_dup_x1, i_dup2, i_pop, i_geti, i_getr, i_getd, i_puti, i_putz, i_putd, i_iald, i_bald, i_aald, i_iast, i_bast, i_alen, i_keep, i_ret, i_retz, i_reta, i_retl, i_retv, i_callv, i_callk, i_calls, i_mm, i_copy, i_under, i_undld, i_ldcs, i_sw, q_swc0, q_swc1, q_lg0, q_lg1, q_lent0, q_lent1, lset, lset2, q_lins0, q_lins1, q_ldel0, q_ldel1, q_ldel20, q_ldel21, q_lkeep0, q_lkeep1, q_memb0, q_memb1, cat2, Nat.reduceBEq, decide_true, decide_false, decide_eq_true_eq, cond_true, cond_false, Bool.and_true, Bool.and_false, Bool.true_and, Bool.false_and, f_iadd, f_isub, f_imul, f_ishl, f_ishr, f_iushr, f_iand, f_ior, f_idiv, f_irem, f_ineg, f_i2b, f_i2s, f_ladd, f_lmul, c_eq, c_ne, c_lt, c_ge, c_gt, c_le, cc_eq, cc_ne, cc_lt, cc_ge, cc_gt, cc_le, rfo, aof, csum, Value.category, List.take, List.drop, List.reverse, List.reverseAux, List.map, List.sum_cons, List.sum_nil, List.cons_append, List.nil_append, Option.toList, List.mem_cons, List.not_mem_nil, List.length_cons, List.length_nil, reduceIte, Nat.reduceEqDiff, Nat.reduceAdd, Nat.reduceLeDiff, Nat.reduceLT, a_day, Nat.zero_ne_one, Nat.one_ne_zero, false_and, and_false, true_and, and_true, or_false, false_or, or_true, true_or, not_true_eq_false, not_false_eq_true, Nat.zero_add, Nat.add_zero, Nat.le_refl, Nat.lt_irrefl, Nat.zero_lt_succ, Nat.zero_le, forall_const, List.cons.injEq, Value.int.injEq, Value.ref.injEq, Value.long.injEq, and_assoc, exists_and_left, exists_eq_left']
    try simp only [forall_eq]
    refine ⟨r_3 hr, iE9 (nn - 0) _ _ _ ?_⟩
    rw [hI9]
    exact ⟨0, 0, 0, rfl, rfl, by omega, by omega, by omega, rfl, Sm.rf.set _ (Or.inr (Or.inr (Or.inr ⟨rfl, rfl⟩))), ms_s _ _ _ _, fun k hk => absurd hk (by omega), rfl⟩
