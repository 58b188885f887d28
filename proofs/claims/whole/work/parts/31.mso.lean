/-! ===== by kinds, numbers, wear, firsts: the model ===== -/
def T_X6_kindsSo (g : WG) (as : List Value) (M : MM) (Q : Option Value → MM → Prop) : Prop := ∃ i n sx, as = [.ref 76, .int (nI i), .int (nI sx)] ∧ i < 4 ∧ sx < dn (dm M) ∧ okM M ∧ zM M ∧ M 100 i = nI n ∧ n ≤ 40 ∧ ∀ M', Sm YS M M' → Q (some (.int (nI (bsum (soB (xm M) (telF (dm M) 1 sx) (fun j => M 101 (40 * i + j)) n) 6)))) M'
set_option maxRecDepth 100000 in
set_option maxHeartbeats 2000000 in
theorem t_X6_kindsSo {l : Launch} {g : WG} (hg : Full g) : Ct l g yX6_kindsSo cX6_kindsSo 6 ((Option.some FieldType.int)) 9 (T_X6_kindsSo g) := by
  refine Ct.of (by decide) (fun as M Q h => ?_) (fun p e s m args below meth c as M Q h C => ?_)
  · obtain ⟨i, nn, sx, rfl, hi, hs, ho, hz, hsz, h40, h⟩ := h; exact ⟨by simp, by simp [Value.category]⟩
  · obtain ⟨i, nn, sx, rfl, hi, hs, ho, hz, hsz, h40, h⟩ := h
    have hn := ho.n
    obtain ⟨p', hp⟩ : ∃ p', soB (xm M) (telF (dm M) 1 sx) (fun j => M 101 (40 * i + j)) nn = p' := ⟨_, rfl⟩
    rw [hp] at h
    obtain ⟨I13, hI13⟩ : ∃ I : Nat → PP, I = (fun n lv st M' => ∃ k, lv = [(0, .ref 76), (1, .int (nI i)), (2, .int (nI sx)), (3, .int (M 78 sx)), (4, .int (nI (bsum p' k))), (5, .int (nI k))] ∧ st = [] ∧ k ≤ 6 ∧ n = 6 - k ∧ Sm (fun a b => YS a b ∨ (a = 78 ∧ b = sx)) M M') := ⟨_, rfl⟩
    obtain ⟨E13, hE13⟩ : ∃ E : PP, E = (fun lv st M => ∃ n, I13 n lv st M) := ⟨_, rfl⟩
    have iE13 : ∀ n lv st M, I13 n lv st M → E13 lv st M := fun n lv st M h => by rw [hE13]; exact ⟨n, h⟩
    have L13 : Sj p l e 9 s m args below meth c 6 g (MQ below (cQc g Q) args s 0 0 (gA g)) 13 E13 := by
      rw [hE13]
      refine s_ex (s_loop I13 (fun K13 k13 => WX6_kindsSo_13 C (t_X6_wrong hg) (by decide) k13) ?_)
      intro n lv st M1 K13 hK13 hI; rw [hI13] at hI; obtain ⟨k, rfl, rfl, hk, rfl, hsm⟩ := hI
      unfold BX6_kindsSo_13
      generalize hB33 : BX6_kindsSo_33 g Q (T_X6_wrong g) K13 = B33
      generalize hB52 : BX6_kindsSo_52 g Q (T_X6_wrong g) K13 = B52
      simp only [T_X6_wrong, i_const, i_lconst, i_iload, i_aload, i_lload, i_istore, i_astore, i_lstore, i_iinc, i_bin, i_div, i_un, i_i2l, i_l2i, i_lbin, i_lcmp, i_if, i_icmp, i_dup, i_dup_x1, i_dup2, i_pop, i_geti, i_getr, i_getd, i_puti, i_putz, i_putd, i_iald, i_bald, i_aald, i_iast, i_bast, i_alen, i_keep, i_ret, i_retz, i_reta, i_retl, i_retv, i_callv, i_callk, i_calls, i_mm, i_copy, i_under, i_undld, i_ldcs, i_sw, q_swc0, q_swc1, q_lg0, q_lg1, q_lent0, q_lent1, lset, lset2, q_lins0, q_lins1, q_ldel0, q_ldel1, q_ldel20, q_ldel21, q_lkeep0, q_lkeep1, q_memb0, q_memb1, cat2, Nat.reduceBEq, decide_true, decide_false, decide_eq_true_eq, cond_true, cond_false, Bool.and_true, Bool.and_false, Bool.true_and, Bool.false_and, f_iadd, f_isub, f_imul, f_ishl, f_ishr, f_iushr, f_iand, f_ior, f_idiv, f_irem, f_ineg, f_i2b, f_i2s, f_ladd, f_lmul, c_eq, c_ne, c_lt, c_ge, c_gt, c_le, cc_eq, cc_ne, cc_lt, cc_ge, cc_gt, cc_le, rfo, aof, csum, Value.category, List.take, List.drop, List.reverse, List.reverseAux, List.map, List.sum_cons, List.sum_nil, List.cons_append, List.nil_append, Option.toList, List.mem_cons, List.not_mem_nil, List.length_cons, List.length_nil, reduceIte, Nat.reduceEqDiff, Nat.reduceAdd, Nat.reduceLeDiff, Nat.reduceLT, a_day, Nat.zero_ne_one, Nat.one_ne_zero, false_and, and_false, true_and, and_true, or_false, false_or, or_true, true_or, not_true_eq_false, not_false_eq_true, Nat.zero_add, Nat.add_zero, Nat.le_refl, Nat.lt_irrefl, Nat.zero_lt_succ, Nat.zero_le, forall_const, List.cons.injEq, Value.int.injEq, Value.ref.injEq, Value.long.injEq, and_assoc, exists_and_left, exists_eq_left']
      try simp only [forall_eq]
      have hs7 : sx < 7 := by omega
      rw [show (6 : Int32) = nI 6 from rfl, nI_leI (by decide) (by omega), nI_clamp (by omega)]
      refine ⟨fun z => ?_, fun z => ?_⟩
      · have : k = 6 := by omega
        subst this
        subst hB52
        unfold BX6_kindsSo_52
        simp only [T_X6_wrong, i_const, i_lconst, i_iload, i_aload, i_lload, i_istore, i_astore, i_lstore, i_iinc, i_bin, i_div, i_un, i_i2l, i_l2i, i_lbin, i_lcmp, i_if, i_icmp, i_dup, i_dup_x1, i_dup2, i_pop, i_geti, i_getr, i_getd, i_puti, i_putz, i_putd, i_iald, i_bald, i_aald, i_iast, i_bast, i_alen, i_keep, i_ret, i_retz, i_reta, i_retl, i_retv, i_callv, i_callk, i_calls, i_mm, i_copy, i_under, i_undld, i_ldcs, i_sw, q_swc0, q_swc1, q_lg0, q_lg1, q_lent0, q_lent1, lset, lset2, q_lins0, q_lins1, q_ldel0, q_ldel1, q_ldel20, q_ldel21, q_lkeep0, q_lkeep1, q_memb0, q_memb1, cat2, Nat.reduceBEq, decide_true, decide_false, decide_eq_true_eq, cond_true, cond_false, Bool.and_true, Bool.and_false, Bool.true_and, Bool.false_and, f_iadd, f_isub, f_imul, f_ishl, f_ishr, f_iushr, f_iand, f_ior, f_idiv, f_irem, f_ineg, f_i2b, f_i2s, f_ladd, f_lmul, c_eq, c_ne, c_lt, c_ge, c_gt, c_le, cc_eq, cc_ne, cc_lt, cc_ge, cc_gt, cc_le, rfo, aof, csum, Value.category, List.take, List.drop, List.reverse, List.reverseAux, List.map, List.sum_cons, List.sum_nil, List.cons_append, List.nil_append, Option.toList, List.mem_cons, List.not_mem_nil, List.length_cons, List.length_nil, reduceIte, Nat.reduceEqDiff, Nat.reduceAdd, Nat.reduceLeDiff, Nat.reduceLT, a_day, Nat.zero_ne_one, Nat.one_ne_zero, false_and, and_false, true_and, and_true, or_false, false_or, or_true, true_or, not_true_eq_false, not_false_eq_true, Nat.zero_add, Nat.add_zero, Nat.le_refl, Nat.lt_irrefl, Nat.zero_lt_succ, Nat.zero_le, forall_const, List.cons.injEq, Value.int.injEq, Value.ref.injEq, Value.long.injEq, and_assoc, exists_and_left, exists_eq_left']
        try simp only [forall_eq]
        rw [nI_clamp (by omega)]
        exact ⟨m_76 hg, m_78 hg, vm l_78 (by omega) (by decide), h _ hsm.back⟩
      · have hk6 : k < 6 := by omega
        obtain ⟨a1, a2, a3, a4⟩ := okM_f (f := 1) (x := nI k) (by decide) (by decide) hs ho (fun T hT => wfD_f hT (by decide) (by decide) ⟨by decide, by decide⟩ (fun _ => ⟨k, hk6, rfl⟩) (fun q => absurd q (by decide)) (fun q => absurd q (by decide)))
        have s1 : Sm YS (mset M (77 + 1) sx (nI k)) (mset M1 78 sx (nI k)) := hsm.m2 _
        obtain ⟨b1, b2, b3⟩ := keepS s1 a1
        have bz := zM_S s1 (a4 hz)
        have b100 : mset M1 78 sx (nI k) 100 i = nI nn := by rw [s1 _ _ (by unfold YS; omega), ms_q (by decide)]; exact hsz
        refine ⟨m_76 hg, m_78 hg, vm l_78 (by omega) (by decide), (m_76 hg).1, (m_76 hg).2.1, i, rfl, hi, b1, bz, nn, b100, h40, fun M3 hs3 => ?_⟩
        have hcs : (fun j => mset M1 78 sx (nI k) 101 (40 * i + j)) = (fun j => M 101 (40 * i + j)) := by rw [cells_S s1]; funext j; exact ms_q (by decide)
        rw [hcs, b2, b3, a2, a3]
        have hsm3 : Sm (fun a b => YS a b ∨ (a = 78 ∧ b = sx)) M M3 := (hsm.set _ (Or.inr ⟨rfl, rfl⟩)).tr (hs3.mono fun a b q => Or.inl q)
        have hpk : p' k = decide (wrg (xm M) (upF (dm M) 1 sx (nI k)) (fun j => M 101 (40 * i + j)) nn 0 = -1) := by rw [← hp]; rfl
        subst hB33
        unfold BX6_kindsSo_33
        simp only [T_X6_wrong, i_const, i_lconst, i_iload, i_aload, i_lload, i_istore, i_astore, i_lstore, i_iinc, i_bin, i_div, i_un, i_i2l, i_l2i, i_lbin, i_lcmp, i_if, i_icmp, i_dup, i_dup_x1, i_dup2, i_pop, i_geti, i_getr, i_getd, i_puti, i_putz, i_putd, i_iald, i_bald, i_aald, i_iast, i_bast, i_alen, i_keep, i_ret, i_retz, i_reta, i_retl, i_retv, i_callv, i_callk, i_calls, i_mm, i_copy, i_under, i_undld, i_ldcs, i_sw, q_swc0, q_swc1, q_lg0, q_lg1, q_lent0, q_lent1, lset, lset2, q_lins0, q_lins1, q_ldel0, q_ldel1, q_ldel20, q_ldel21, q_lkeep0, q_lkeep1, q_memb0, q_memb1, cat2, Nat.reduceBEq, decide_true, decide_false, decide_eq_true_eq, cond_true, cond_false, Bool.and_true, Bool.and_false, Bool.true_and, Bool.false_and, f_iadd, f_isub, f_imul, f_ishl, f_ishr, f_iushr, f_iand, f_ior, f_idiv, f_irem, f_ineg, f_i2b, f_i2s, f_ladd, f_lmul, c_eq, c_ne, c_lt, c_ge, c_gt, c_le, cc_eq, cc_ne, cc_lt, cc_ge, cc_gt, cc_le, rfo, aof, csum, Value.category, List.take, List.drop, List.reverse, List.reverseAux, List.map, List.sum_cons, List.sum_nil, List.cons_append, List.nil_append, Option.toList, List.mem_cons, List.not_mem_nil, List.length_cons, List.length_nil, reduceIte, Nat.reduceEqDiff, Nat.reduceAdd, Nat.reduceLeDiff, Nat.reduceLT, a_day, Nat.zero_ne_one, Nat.one_ne_zero, false_and, and_false, true_and, and_true, or_false, false_or, or_true, true_or, not_true_eq_false, not_false_eq_true, Nat.zero_add, Nat.add_zero, Nat.le_refl, Nat.lt_irrefl, Nat.zero_lt_succ, Nat.zero_le, forall_const, List.cons.injEq, Value.int.injEq, Value.ref.injEq, Value.long.injEq, and_assoc, exists_and_left, exists_eq_left']
        try simp only [forall_eq]
        rw [nI_1]
        have fin : ∀ x, x = nI (bsum p' (k + 1)) → K13 [(0, .ref 76), (1, .int (nI i)), (2, .int (nI sx)), (3, .int (M 78 sx)), (4, .int x), (5, .int (nI (k + 1)))] [] M3 := by
          intro x hx
          subst hx
          refine hK13 (6 - (k + 1)) _ _ _ (by omega) ?_
          rw [hI13]
          exact ⟨k + 1, rfl, rfl, by omega, rfl, hsm3⟩
        refine ⟨fun y => fin _ ?_, fun y => fin _ ?_⟩
        · rw [bsum_n]; rw [hpk]; simpa using y
        · exact bsum_or (by omega) (by rw [hpk]; simpa using y)
    refine s_of (fun lv st M0 hs => ?_) (WX6_kindsSo_0 C (t_X6_wrong hg) (by decide) L13)
    obtain ⟨rfl, rfl, rfl⟩ := hs
    unfold BX6_kindsSo_0
    simp only [T_X6_wrong, i_const, i_lconst, i_iload, i_aload, i_lload, i_istore, i_astore, i_lstore, i_iinc, i_bin, i_div, i_un, i_i2l, i_l2i, i_lbin, i_lcmp, i_if, i_icmp, i_dup, i_dup_x1, i_dup2, i_pop, i_geti, i_getr, i_getd, i_puti, i_putz, i_putd, i_iald, i_bald, i_aald, i_iast, i_bast, i_alen, i_keep, i_ret, i_retz, i_reta, i_retl, i_retv, i_callv, i_callk, i_calls, i_mm, i_copy, i_under, i_undld, i_ldcs, i_sw, q_swc0, q_swc1, q_lg0, q_lg1, q_lent0, q_lent1, lset, lset2, q_lins0, q_lins1, q_ldel0, q_ldel1, q_ldel20, q_ldel21, q_lkeep0, q_lkeep1, q_memb0, q_memb1, cat2, Nat.reduceBEq, decide_true, decide_false, decide_eq_true_eq, cond_true, cond_false, Bool.and_true, Bool.and_false, Bool.true_and, Bool.false_and, f_iadd, f_isub, f_imul, f_ishl, f_ishr, f_iushr, f_iand, f_ior, f_idiv, f_irem, f_ineg, f_i2b, f_i2s, f_ladd, f_lmul, c_eq, c_ne, c_lt, c_ge, c_gt, c_le, cc_eq, cc_ne, cc_lt, cc_ge, cc_gt, cc_le, rfo, aof, csum, Value.category, List.take, List.drop, List.reverse, List.reverseAux, List.map, List.sum_cons, List.sum_nil, List.cons_append, List.nil_append, Option.toList, List.mem_cons, List.not_mem_nil, List.length_cons, List.length_nil, reduceIte, Nat.reduceEqDiff, Nat.reduceAdd, Nat.reduceLeDiff, Nat.reduceLT, a_day, Nat.zero_ne_one, Nat.one_ne_zero, false_and, and_false, true_and, and_true, or_false, false_or, or_true, true_or, not_true_eq_false, not_false_eq_true, Nat.zero_add, Nat.add_zero, Nat.le_refl, Nat.lt_irrefl, Nat.zero_lt_succ, Nat.zero_le, forall_const, List.cons.injEq, Value.int.injEq, Value.ref.injEq, Value.long.injEq, and_assoc, exists_and_left, exists_eq_left']
    try simp only [forall_eq]
    rw [nI_clamp (by omega)]
    refine ⟨m_76 hg, m_78 hg, vm l_78 (by omega) (by decide), iE13 (6 - 0) _ _ _ ?_⟩
    rw [hI13]
    exact ⟨0, rfl, rfl, by omega, rfl, Sm.rf⟩
def T_X6_numbersSo (g : WG) (as : List Value) (M : MM) (Q : Option Value → MM → Prop) : Prop := ∃ i n sx, as = [.ref 76, .int (nI i), .int (nI sx)] ∧ i < 4 ∧ sx < dn (dm M) ∧ okM M ∧ zM M ∧ M 100 i = nI n ∧ n ≤ 40 ∧ ∀ M', Sm YS M M' → Q (some (.int (nI (bsum (soB (xm M) (telF (dm M) 2 sx) (fun j => M 101 (40 * i + j)) n) 10)))) M'
set_option maxRecDepth 100000 in
set_option maxHeartbeats 2000000 in
theorem t_X6_numbersSo {l : Launch} {g : WG} (hg : Full g) : Ct l g yX6_numbersSo cX6_numbersSo 6 ((Option.some FieldType.int)) 9 (T_X6_numbersSo g) := by
  refine Ct.of (by decide) (fun as M Q h => ?_) (fun p e s m args below meth c as M Q h C => ?_)
  · obtain ⟨i, nn, sx, rfl, hi, hs, ho, hz, hsz, h40, h⟩ := h; exact ⟨by simp, by simp [Value.category]⟩
  · obtain ⟨i, nn, sx, rfl, hi, hs, ho, hz, hsz, h40, h⟩ := h
    have hn := ho.n
    obtain ⟨p', hp⟩ : ∃ p', soB (xm M) (telF (dm M) 2 sx) (fun j => M 101 (40 * i + j)) nn = p' := ⟨_, rfl⟩
    rw [hp] at h
    obtain ⟨I13, hI13⟩ : ∃ I : Nat → PP, I = (fun n lv st M' => ∃ k, lv = [(0, .ref 76), (1, .int (nI i)), (2, .int (nI sx)), (3, .int (M 79 sx)), (4, .int (nI (bsum p' k))), (5, .int (nI k))] ∧ st = [] ∧ k ≤ 10 ∧ n = 10 - k ∧ Sm (fun a b => YS a b ∨ (a = 79 ∧ b = sx)) M M') := ⟨_, rfl⟩
    obtain ⟨E13, hE13⟩ : ∃ E : PP, E = (fun lv st M => ∃ n, I13 n lv st M) := ⟨_, rfl⟩
    have iE13 : ∀ n lv st M, I13 n lv st M → E13 lv st M := fun n lv st M h => by rw [hE13]; exact ⟨n, h⟩
    have L13 : Sj p l e 9 s m args below meth c 6 g (MQ below (cQc g Q) args s 0 0 (gA g)) 13 E13 := by
      rw [hE13]
      refine s_ex (s_loop I13 (fun K13 k13 => WX6_numbersSo_13 C (t_X6_wrong hg) (by decide) k13) ?_)
      intro n lv st M1 K13 hK13 hI; rw [hI13] at hI; obtain ⟨k, rfl, rfl, hk, rfl, hsm⟩ := hI
      unfold BX6_numbersSo_13
      generalize hB33 : BX6_numbersSo_33 g Q (T_X6_wrong g) K13 = B33
      generalize hB52 : BX6_numbersSo_52 g Q (T_X6_wrong g) K13 = B52
      simp only [T_X6_wrong, i_const, i_lconst, i_iload, i_aload, i_lload, i_istore, i_astore, i_lstore, i_iinc, i_bin, i_div, i_un, i_i2l, i_l2i, i_lbin, i_lcmp, i_if, i_icmp, i_dup, i_dup_x1, i_dup2, i_pop, i_geti, i_getr, i_getd, i_puti, i_putz, i_putd, i_iald, i_bald, i_aald, i_iast, i_bast, i_alen, i_keep, i_ret, i_retz, i_reta, i_retl, i_retv, i_callv, i_callk, i_calls, i_mm, i_copy, i_under, i_undld, i_ldcs, i_sw, q_swc0, q_swc1, q_lg0, q_lg1, q_lent0, q_lent1, lset, lset2, q_lins0, q_lins1, q_ldel0, q_ldel1, q_ldel20, q_ldel21, q_lkeep0, q_lkeep1, q_memb0, q_memb1, cat2, Nat.reduceBEq, decide_true, decide_false, decide_eq_true_eq, cond_true, cond_false, Bool.and_true, Bool.and_false, Bool.true_and, Bool.false_and, f_iadd, f_isub, f_imul, f_ishl, f_ishr, f_iushr, f_iand, f_ior, f_idiv, f_irem, f_ineg, f_i2b, f_i2s, f_ladd, f_lmul, c_eq, c_ne, c_lt, c_ge, c_gt, c_le, cc_eq, cc_ne, cc_lt, cc_ge, cc_gt, cc_le, rfo, aof, csum, Value.category, List.take, List.drop, List.reverse, List.reverseAux, List.map, List.sum_cons, List.sum_nil, List.cons_append, List.nil_append, Option.toList, List.mem_cons, List.not_mem_nil, List.length_cons, List.length_nil, reduceIte, Nat.reduceEqDiff, Nat.reduceAdd, Nat.reduceLeDiff, Nat.reduceLT, a_day, Nat.zero_ne_one, Nat.one_ne_zero, false_and, and_false, true_and, and_true, or_false, false_or, or_true, true_or, not_true_eq_false, not_false_eq_true, Nat.zero_add, Nat.add_zero, Nat.le_refl, Nat.lt_irrefl, Nat.zero_lt_succ, Nat.zero_le, forall_const, List.cons.injEq, Value.int.injEq, Value.ref.injEq, Value.long.injEq, and_assoc, exists_and_left, exists_eq_left']
      try simp only [forall_eq]
      have hs7 : sx < 7 := by omega
      rw [show (10 : Int32) = nI 10 from rfl, nI_leI (by decide) (by omega), nI_clamp (by omega)]
      refine ⟨fun z => ?_, fun z => ?_⟩
      · have : k = 10 := by omega
        subst this
        subst hB52
        unfold BX6_numbersSo_52
        simp only [T_X6_wrong, i_const, i_lconst, i_iload, i_aload, i_lload, i_istore, i_astore, i_lstore, i_iinc, i_bin, i_div, i_un, i_i2l, i_l2i, i_lbin, i_lcmp, i_if, i_icmp, i_dup, i_dup_x1, i_dup2, i_pop, i_geti, i_getr, i_getd, i_puti, i_putz, i_putd, i_iald, i_bald, i_aald, i_iast, i_bast, i_alen, i_keep, i_ret, i_retz, i_reta, i_retl, i_retv, i_callv, i_callk, i_calls, i_mm, i_copy, i_under, i_undld, i_ldcs, i_sw, q_swc0, q_swc1, q_lg0, q_lg1, q_lent0, q_lent1, lset, lset2, q_lins0, q_lins1, q_ldel0, q_ldel1, q_ldel20, q_ldel21, q_lkeep0, q_lkeep1, q_memb0, q_memb1, cat2, Nat.reduceBEq, decide_true, decide_false, decide_eq_true_eq, cond_true, cond_false, Bool.and_true, Bool.and_false, Bool.true_and, Bool.false_and, f_iadd, f_isub, f_imul, f_ishl, f_ishr, f_iushr, f_iand, f_ior, f_idiv, f_irem, f_ineg, f_i2b, f_i2s, f_ladd, f_lmul, c_eq, c_ne, c_lt, c_ge, c_gt, c_le, cc_eq, cc_ne, cc_lt, cc_ge, cc_gt, cc_le, rfo, aof, csum, Value.category, List.take, List.drop, List.reverse, List.reverseAux, List.map, List.sum_cons, List.sum_nil, List.cons_append, List.nil_append, Option.toList, List.mem_cons, List.not_mem_nil, List.length_cons, List.length_nil, reduceIte, Nat.reduceEqDiff, Nat.reduceAdd, Nat.reduceLeDiff, Nat.reduceLT, a_day, Nat.zero_ne_one, Nat.one_ne_zero, false_and, and_false, true_and, and_true, or_false, false_or, or_true, true_or, not_true_eq_false, not_false_eq_true, Nat.zero_add, Nat.add_zero, Nat.le_refl, Nat.lt_irrefl, Nat.zero_lt_succ, Nat.zero_le, forall_const, List.cons.injEq, Value.int.injEq, Value.ref.injEq, Value.long.injEq, and_assoc, exists_and_left, exists_eq_left']
        try simp only [forall_eq]
        rw [nI_clamp (by omega)]
        exact ⟨m_76 hg, m_79 hg, vm l_79 (by omega) (by decide), h _ hsm.back⟩
      · have hk6 : k < 10 := by omega
        obtain ⟨a1, a2, a3, a4⟩ := okM_f (f := 2) (x := nI k) (by decide) (by decide) hs ho (fun T hT => wfD_f hT (by decide) (by decide) ⟨by decide, by decide⟩ (fun q => absurd q (by decide)) (fun _ => ⟨k, hk6, rfl⟩) (fun q => absurd q (by decide)))
        have s1 : Sm YS (mset M (77 + 2) sx (nI k)) (mset M1 79 sx (nI k)) := hsm.m2 _
        obtain ⟨b1, b2, b3⟩ := keepS s1 a1
        have bz := zM_S s1 (a4 hz)
        have b100 : mset M1 79 sx (nI k) 100 i = nI nn := by rw [s1 _ _ (by unfold YS; omega), ms_q (by decide)]; exact hsz
        refine ⟨m_76 hg, m_79 hg, vm l_79 (by omega) (by decide), (m_76 hg).1, (m_76 hg).2.1, i, rfl, hi, b1, bz, nn, b100, h40, fun M3 hs3 => ?_⟩
        have hcs : (fun j => mset M1 79 sx (nI k) 101 (40 * i + j)) = (fun j => M 101 (40 * i + j)) := by rw [cells_S s1]; funext j; exact ms_q (by decide)
        rw [hcs, b2, b3, a2, a3]
        have hsm3 : Sm (fun a b => YS a b ∨ (a = 79 ∧ b = sx)) M M3 := (hsm.set _ (Or.inr ⟨rfl, rfl⟩)).tr (hs3.mono fun a b q => Or.inl q)
        have hpk : p' k = decide (wrg (xm M) (upF (dm M) 2 sx (nI k)) (fun j => M 101 (40 * i + j)) nn 0 = -1) := by rw [← hp]; rfl
        subst hB33
        unfold BX6_numbersSo_33
        simp only [T_X6_wrong, i_const, i_lconst, i_iload, i_aload, i_lload, i_istore, i_astore, i_lstore, i_iinc, i_bin, i_div, i_un, i_i2l, i_l2i, i_lbin, i_lcmp, i_if, i_icmp, i_dup, i_dup_x1, i_dup2, i_pop, i_geti, i_getr, i_getd, i_puti, i_putz, i_putd, i_iald, i_bald, i_aald, i_iast, i_bast, i_alen, i_keep, i_ret, i_retz, i_reta, i_retl, i_retv, i_callv, i_callk, i_calls, i_mm, i_copy, i_under, i_undld, i_ldcs, i_sw, q_swc0, q_swc1, q_lg0, q_lg1, q_lent0, q_lent1, lset, lset2, q_lins0, q_lins1, q_ldel0, q_ldel1, q_ldel20, q_ldel21, q_lkeep0, q_lkeep1, q_memb0, q_memb1, cat2, Nat.reduceBEq, decide_true, decide_false, decide_eq_true_eq, cond_true, cond_false, Bool.and_true, Bool.and_false, Bool.true_and, Bool.false_and, f_iadd, f_isub, f_imul, f_ishl, f_ishr, f_iushr, f_iand, f_ior, f_idiv, f_irem, f_ineg, f_i2b, f_i2s, f_ladd, f_lmul, c_eq, c_ne, c_lt, c_ge, c_gt, c_le, cc_eq, cc_ne, cc_lt, cc_ge, cc_gt, cc_le, rfo, aof, csum, Value.category, List.take, List.drop, List.reverse, List.reverseAux, List.map, List.sum_cons, List.sum_nil, List.cons_append, List.nil_append, Option.toList, List.mem_cons, List.not_mem_nil, List.length_cons, List.length_nil, reduceIte, Nat.reduceEqDiff, Nat.reduceAdd, Nat.reduceLeDiff, Nat.reduceLT, a_day, Nat.zero_ne_one, Nat.one_ne_zero, false_and, and_false, true_and, and_true, or_false, false_or, or_true, true_or, not_true_eq_false, not_false_eq_true, Nat.zero_add, Nat.add_zero, Nat.le_refl, Nat.lt_irrefl, Nat.zero_lt_succ, Nat.zero_le, forall_const, List.cons.injEq, Value.int.injEq, Value.ref.injEq, Value.long.injEq, and_assoc, exists_and_left, exists_eq_left']
        try simp only [forall_eq]
        rw [nI_1]
        have fin : ∀ x, x = nI (bsum p' (k + 1)) → K13 [(0, .ref 76), (1, .int (nI i)), (2, .int (nI sx)), (3, .int (M 79 sx)), (4, .int x), (5, .int (nI (k + 1)))] [] M3 := by
          intro x hx
          subst hx
          refine hK13 (10 - (k + 1)) _ _ _ (by omega) ?_
          rw [hI13]
          exact ⟨k + 1, rfl, rfl, by omega, rfl, hsm3⟩
        refine ⟨fun y => fin _ ?_, fun y => fin _ ?_⟩
        · rw [bsum_n]; rw [hpk]; simpa using y
        · exact bsum_or (by omega) (by rw [hpk]; simpa using y)
    refine s_of (fun lv st M0 hs => ?_) (WX6_numbersSo_0 C (t_X6_wrong hg) (by decide) L13)
    obtain ⟨rfl, rfl, rfl⟩ := hs
    unfold BX6_numbersSo_0
    simp only [T_X6_wrong, i_const, i_lconst, i_iload, i_aload, i_lload, i_istore, i_astore, i_lstore, i_iinc, i_bin, i_div, i_un, i_i2l, i_l2i, i_lbin, i_lcmp, i_if, i_icmp, i_dup, i_dup_x1, i_dup2, i_pop, i_geti, i_getr, i_getd, i_puti, i_putz, i_putd, i_iald, i_bald, i_aald, i_iast, i_bast, i_alen, i_keep, i_ret, i_retz, i_reta, i_retl, i_retv, i_callv, i_callk, i_calls, i_mm, i_copy, i_under, i_undld, i_ldcs, i_sw, q_swc0, q_swc1, q_lg0, q_lg1, q_lent0, q_lent1, lset, lset2, q_lins0, q_lins1, q_ldel0, q_ldel1, q_ldel20, q_ldel21, q_lkeep0, q_lkeep1, q_memb0, q_memb1, cat2, Nat.reduceBEq, decide_true, decide_false, decide_eq_true_eq, cond_true, cond_false, Bool.and_true, Bool.and_false, Bool.true_and, Bool.false_and, f_iadd, f_isub, f_imul, f_ishl, f_ishr, f_iushr, f_iand, f_ior, f_idiv, f_irem, f_ineg, f_i2b, f_i2s, f_ladd, f_lmul, c_eq, c_ne, c_lt, c_ge, c_gt, c_le, cc_eq, cc_ne, cc_lt, cc_ge, cc_gt, cc_le, rfo, aof, csum, Value.category, List.take, List.drop, List.reverse, List.reverseAux, List.map, List.sum_cons, List.sum_nil, List.cons_append, List.nil_append, Option.toList, List.mem_cons, List.not_mem_nil, List.length_cons, List.length_nil, reduceIte, Nat.reduceEqDiff, Nat.reduceAdd, Nat.reduceLeDiff, Nat.reduceLT, a_day, Nat.zero_ne_one, Nat.one_ne_zero, false_and, and_false, true_and, and_true, or_false, false_or, or_true, true_or, not_true_eq_false, not_false_eq_true, Nat.zero_add, Nat.add_zero, Nat.le_refl, Nat.lt_irrefl, Nat.zero_lt_succ, Nat.zero_le, forall_const, List.cons.injEq, Value.int.injEq, Value.ref.injEq, Value.long.injEq, and_assoc, exists_and_left, exists_eq_left']
    try simp only [forall_eq]
    rw [nI_clamp (by omega)]
    refine ⟨m_76 hg, m_79 hg, vm l_79 (by omega) (by decide), iE13 (10 - 0) _ _ _ ?_⟩
    rw [hI13]
    exact ⟨0, rfl, rfl, by omega, rfl, Sm.rf⟩
def T_X6_wornSo (g : WG) (as : List Value) (M : MM) (Q : Option Value → MM → Prop) : Prop := ∃ i n sx w, as = [.ref 76, .int (nI i), .int (nI sx), .int w] ∧ i < 4 ∧ sx < dn (dm M) ∧ okM M ∧ zM M ∧ M 100 i = nI n ∧ n ≤ 40 ∧ ∀ M', Sm YS M M' → Q (some (.int (if w = 0 then nI (cnt (soB (xm M) (telF (dm M) 3 sx) (fun j => M 101 (40 * i + j)) n) 100 0) else lea (soB (xm M) (telF (dm M) 3 sx) (fun j => M 101 (40 * i + j)) n) 100 0))) M'
set_option maxRecDepth 100000 in
set_option maxHeartbeats 2000000 in
theorem t_X6_wornSo {l : Launch} {g : WG} (hg : Full g) : Ct l g yX6_wornSo cX6_wornSo 8 ((Option.some FieldType.int)) 9 (T_X6_wornSo g) := by
  refine Ct.of (by decide) (fun as M Q h => ?_) (fun p e s m args below meth c as M Q h C => ?_)
  · obtain ⟨i, nn, sx, w, rfl, hi, hs, ho, hz, hsz, h40, h⟩ := h; exact ⟨by simp, by simp [Value.category]⟩
  · obtain ⟨i, nn, sx, w, rfl, hi, hs, ho, hz, hsz, h40, h⟩ := h
    have hn := ho.n
    obtain ⟨p', hp⟩ : ∃ p', soB (xm M) (telF (dm M) 3 sx) (fun j => M 101 (40 * i + j)) nn = p' := ⟨_, rfl⟩
    rw [hp] at h
    obtain ⟨I18, hI18⟩ : ∃ I : Nat → PP, I = (fun n lv st M' => lv = [(0, .ref 76), (1, .int (nI i)), (2, .int (nI sx)), (3, .int w), (4, .int (M 82 sx)), (5, .int (nI (cnt p' (100 - n) n))), (6, .int (lea p' (100 - n) n)), (7, .int (nI n - 1))] ∧ st = [] ∧ n ≤ 100 ∧ Sm (fun a b => YS a b ∨ (a = 82 ∧ b = sx)) M M') := ⟨_, rfl⟩
    obtain ⟨E18, hE18⟩ : ∃ E : PP, E = (fun lv st M => ∃ n, I18 n lv st M) := ⟨_, rfl⟩
    have iE18 : ∀ n lv st M, I18 n lv st M → E18 lv st M := fun n lv st M h => by rw [hE18]; exact ⟨n, h⟩
    have L18 : Sj p l e 9 s m args below meth c 8 g (MQ below (cQc g Q) args s 0 0 (gA g)) 18 E18 := by
      rw [hE18]
      refine s_ex (s_loop I18 (fun K18 k18 => WX6_wornSo_18 C (t_X6_wrong hg) (by decide) k18) ?_)
      intro n lv st M1 K18 hK18 hI; rw [hI18] at hI; obtain ⟨rfl, rfl, hk, hsm⟩ := hI
      unfold BX6_wornSo_18
      generalize hB36 : BX6_wornSo_36 g Q (T_X6_wrong g) K18 = B36
      generalize hB56 : BX6_wornSo_56 g Q (T_X6_wrong g) K18 = B56
      simp only [T_X6_wrong, i_const, i_lconst, i_iload, i_aload, i_lload, i_istore, i_astore, i_lstore, i_iinc, i_bin, i_div, i_un, i_i2l, i_l2i, i_lbin, i_lcmp, i_if, i_icmp, i_dup, i_dup_x1, i_dup2, i_pop, i_geti, i_getr, i_getd, i_puti, i_putz, i_putd, i_iald, i_bald, i_aald, i_iast, i_bast, i_alen, i_keep, i_ret, i_retz, i_reta, i_retl, i_retv, i_callv, i_callk, i_calls, i_mm, i_copy, i_under, i_undld, i_ldcs, i_sw, q_swc0, q_swc1, q_lg0, q_lg1, q_lent0, q_lent1, lset, lset2, q_lins0, q_lins1, q_ldel0, q_ldel1, q_ldel20, q_ldel21, q_lkeep0, q_lkeep1, q_memb0, q_memb1, cat2, Nat.reduceBEq, decide_true, decide_false, decide_eq_true_eq, cond_true, cond_false, Bool.and_true, Bool.and_false, Bool.true_and, Bool.false_and, f_iadd, f_isub, f_imul, f_ishl, f_ishr, f_iushr, f_iand, f_ior, f_idiv, f_irem, f_ineg, f_i2b, f_i2s, f_ladd, f_lmul, c_eq, c_ne, c_lt, c_ge, c_gt, c_le, cc_eq, cc_ne, cc_lt, cc_ge, cc_gt, cc_le, rfo, aof, csum, Value.category, List.take, List.drop, List.reverse, List.reverseAux, List.map, List.sum_cons, List.sum_nil, List.cons_append, List.nil_append, Option.toList, List.mem_cons, List.not_mem_nil, List.length_cons, List.length_nil, reduceIte, Nat.reduceEqDiff, Nat.reduceAdd, Nat.reduceLeDiff, Nat.reduceLT, a_day, Nat.zero_ne_one, Nat.one_ne_zero, false_and, and_false, true_and, and_true, or_false, false_or, or_true, true_or, not_true_eq_false, not_false_eq_true, Nat.zero_add, Nat.add_zero, Nat.le_refl, Nat.lt_irrefl, Nat.zero_lt_succ, Nat.zero_le, forall_const, List.cons.injEq, Value.int.injEq, Value.ref.injEq, Value.long.injEq, and_assoc, exists_and_left, exists_eq_left']
      try simp only [forall_eq]
      have hs7 : sx < 7 := by omega
      match n, hK18, hk with
      | 0, hK18, hk =>
        refine ⟨fun _ => ?_, fun z => absurd (by decide) z⟩
        subst hB56
        unfold BX6_wornSo_56
        simp only [T_X6_wrong, i_const, i_lconst, i_iload, i_aload, i_lload, i_istore, i_astore, i_lstore, i_iinc, i_bin, i_div, i_un, i_i2l, i_l2i, i_lbin, i_lcmp, i_if, i_icmp, i_dup, i_dup_x1, i_dup2, i_pop, i_geti, i_getr, i_getd, i_puti, i_putz, i_putd, i_iald, i_bald, i_aald, i_iast, i_bast, i_alen, i_keep, i_ret, i_retz, i_reta, i_retl, i_retv, i_callv, i_callk, i_calls, i_mm, i_copy, i_under, i_undld, i_ldcs, i_sw, q_swc0, q_swc1, q_lg0, q_lg1, q_lent0, q_lent1, lset, lset2, q_lins0, q_lins1, q_ldel0, q_ldel1, q_ldel20, q_ldel21, q_lkeep0, q_lkeep1, q_memb0, q_memb1, cat2, Nat.reduceBEq, decide_true, decide_false, decide_eq_true_eq, cond_true, cond_false, Bool.and_true, Bool.and_false, Bool.true_and, Bool.false_and, f_iadd, f_isub, f_imul, f_ishl, f_ishr, f_iushr, f_iand, f_ior, f_idiv, f_irem, f_ineg, f_i2b, f_i2s, f_ladd, f_lmul, c_eq, c_ne, c_lt, c_ge, c_gt, c_le, cc_eq, cc_ne, cc_lt, cc_ge, cc_gt, cc_le, rfo, aof, csum, Value.category, List.take, List.drop, List.reverse, List.reverseAux, List.map, List.sum_cons, List.sum_nil, List.cons_append, List.nil_append, Option.toList, List.mem_cons, List.not_mem_nil, List.length_cons, List.length_nil, reduceIte, Nat.reduceEqDiff, Nat.reduceAdd, Nat.reduceLeDiff, Nat.reduceLT, a_day, Nat.zero_ne_one, Nat.one_ne_zero, false_and, and_false, true_and, and_true, or_false, false_or, or_true, true_or, not_true_eq_false, not_false_eq_true, Nat.zero_add, Nat.add_zero, Nat.le_refl, Nat.lt_irrefl, Nat.zero_lt_succ, Nat.zero_le, forall_const, List.cons.injEq, Value.int.injEq, Value.ref.injEq, Value.long.injEq, and_assoc, exists_and_left, exists_eq_left']
        try simp only [forall_eq]
        rw [nI_clamp (by omega)]
        have hfin := h _ hsm.back
        refine ⟨m_76 hg, m_82 hg, vm l_82 (by omega) (by decide), fun y => ?_, fun y => ?_⟩
        · rwa [if_neg y] at hfin
        · rwa [if_pos (Decidable.not_not.mp y)] at hfin
      | k + 1, hK18, hk =>
        rw [nI_pred, nI_clamp (show sx < 2 ^ 31 by omega)]
        have hk6 : k < 100 := by omega
        obtain ⟨a1, a2, a3, a4⟩ := okM_f (f := 5) (x := nI k) (by decide) (by decide) hs ho (fun T hT => wfD_f hT (by decide) (by decide) ⟨by decide, by decide⟩ (fun q => absurd q (by decide)) (fun q => absurd q (by decide)) (fun _ => ⟨k, by omega, rfl⟩))
        have s1 : Sm YS (mset M (77 + 5) sx (nI k)) (mset M1 82 sx (nI k)) := hsm.m2 _
        obtain ⟨b1, b2, b3⟩ := keepS s1 a1
        have bz := zM_S s1 (a4 hz)
        have b100 : mset M1 82 sx (nI k) 100 i = nI nn := by rw [s1 _ _ (by unfold YS; omega), ms_q (by decide)]; exact hsz
        refine ⟨fun z => absurd z (nI_pos (by omega)), fun _ => ⟨m_76 hg, m_82 hg, vm l_82 (by omega) (by decide), (m_76 hg).1, (m_76 hg).2.1, i, rfl, hi, b1, bz, nn, b100, h40, fun M3 hs3 => ?_⟩⟩
        have hcs : (fun j => mset M1 82 sx (nI k) 101 (40 * i + j)) = (fun j => M 101 (40 * i + j)) := by rw [cells_S s1]; funext j; exact ms_q (by decide)
        rw [hcs, b2, b3, a2, a3]
        have hsm3 : Sm (fun a b => YS a b ∨ (a = 82 ∧ b = sx)) M M3 := (hsm.set _ (Or.inr ⟨rfl, rfl⟩)).tr (hs3.mono fun a b q => Or.inl q)
        have hpk : p' k = decide (wrg (xm M) (upF (dm M) 5 sx (nI k)) (fun j => M 101 (40 * i + j)) nn 0 = -1) := by rw [← hp]; rfl
        subst hB36
        unfold BX6_wornSo_36
        simp only [T_X6_wrong, i_const, i_lconst, i_iload, i_aload, i_lload, i_istore, i_astore, i_lstore, i_iinc, i_bin, i_div, i_un, i_i2l, i_l2i, i_lbin, i_lcmp, i_if, i_icmp, i_dup, i_dup_x1, i_dup2, i_pop, i_geti, i_getr, i_getd, i_puti, i_putz, i_putd, i_iald, i_bald, i_aald, i_iast, i_bast, i_alen, i_keep, i_ret, i_retz, i_reta, i_retl, i_retv, i_callv, i_callk, i_calls, i_mm, i_copy, i_under, i_undld, i_ldcs, i_sw, q_swc0, q_swc1, q_lg0, q_lg1, q_lent0, q_lent1, lset, lset2, q_lins0, q_lins1, q_ldel0, q_ldel1, q_ldel20, q_ldel21, q_lkeep0, q_lkeep1, q_memb0, q_memb1, cat2, Nat.reduceBEq, decide_true, decide_false, decide_eq_true_eq, cond_true, cond_false, Bool.and_true, Bool.and_false, Bool.true_and, Bool.false_and, f_iadd, f_isub, f_imul, f_ishl, f_ishr, f_iushr, f_iand, f_ior, f_idiv, f_irem, f_ineg, f_i2b, f_i2s, f_ladd, f_lmul, c_eq, c_ne, c_lt, c_ge, c_gt, c_le, cc_eq, cc_ne, cc_lt, cc_ge, cc_gt, cc_le, rfo, aof, csum, Value.category, List.take, List.drop, List.reverse, List.reverseAux, List.map, List.sum_cons, List.sum_nil, List.cons_append, List.nil_append, Option.toList, List.mem_cons, List.not_mem_nil, List.length_cons, List.length_nil, reduceIte, Nat.reduceEqDiff, Nat.reduceAdd, Nat.reduceLeDiff, Nat.reduceLT, a_day, Nat.zero_ne_one, Nat.one_ne_zero, false_and, and_false, true_and, and_true, or_false, false_or, or_true, true_or, not_true_eq_false, not_false_eq_true, Nat.zero_add, Nat.add_zero, Nat.le_refl, Nat.lt_irrefl, Nat.zero_lt_succ, Nat.zero_le, forall_const, List.cons.injEq, Value.int.injEq, Value.ref.injEq, Value.long.injEq, and_assoc, exists_and_left, exists_eq_left']
        try simp only [forall_eq]
        have ec : cnt p' (100 - k) k = (if p' k then 1 else 0) + cnt p' (100 - (k + 1)) (k + 1) := by rw [show 100 - k = (100 - (k + 1)) + 1 by omega]; rfl
        have el : lea p' (100 - k) k = if p' k then nI k else lea p' (100 - (k + 1)) (k + 1) := by rw [show 100 - k = (100 - (k + 1)) + 1 by omega]; rfl
        have fin : ∀ x y, x = nI (cnt p' (100 - k) k) → y = lea p' (100 - k) k → K18 [(0, .ref 76), (1, .int (nI i)), (2, .int (nI sx)), (3, .int w), (4, .int (M 82 sx)), (5, .int x), (6, .int y), (7, .int (nI k + -1))] [] M3 := by
          intro x y hx hy
          subst hx
          subst hy
          refine hK18 k _ _ _ (by omega) ?_
          rw [hI18]
          exact ⟨by rw [Int32.sub_eq_add_neg], rfl, by omega, hsm3⟩
        refine ⟨fun y => fin _ _ ?_ ?_, fun y => fin _ _ ?_ ?_⟩
        · have : p' k = true := by rw [hpk]; simpa using y
          rw [ec, if_pos this, nI_1, Nat.add_comm]
        · have : p' k = true := by rw [hpk]; simpa using y
          rw [el, if_pos this]
        · have : ¬ p' k = true := by rw [hpk]; simpa using y
          rw [ec, if_neg this, Nat.zero_add]
        · have : ¬ p' k = true := by rw [hpk]; simpa using y
          rw [el, if_neg this]
    refine s_of (fun lv st M0 hs => ?_) (WX6_wornSo_0 C (t_X6_wrong hg) (by decide) L18)
    obtain ⟨rfl, rfl, rfl⟩ := hs
    unfold BX6_wornSo_0
    simp only [T_X6_wrong, i_const, i_lconst, i_iload, i_aload, i_lload, i_istore, i_astore, i_lstore, i_iinc, i_bin, i_div, i_un, i_i2l, i_l2i, i_lbin, i_lcmp, i_if, i_icmp, i_dup, i_dup_x1, i_dup2, i_pop, i_geti, i_getr, i_getd, i_puti, i_putz, i_putd, i_iald, i_bald, i_aald, i_iast, i_bast, i_alen, i_keep, i_ret, i_retz, i_reta, i_retl, i_retv, i_callv, i_callk, i_calls, i_mm, i_copy, i_under, i_undld, i_ldcs, i_sw, q_swc0, q_swc1, q_lg0, q_lg1, q_lent0, q_lent1, lset, lset2, q_lins0, q_lins1, q_ldel0, q_ldel1, q_ldel20, q_ldel21, q_lkeep0, q_lkeep1, q_memb0, q_memb1, cat2, Nat.reduceBEq, decide_true, decide_false, decide_eq_true_eq, cond_true, cond_false, Bool.and_true, Bool.and_false, Bool.true_and, Bool.false_and, f_iadd, f_isub, f_imul, f_ishl, f_ishr, f_iushr, f_iand, f_ior, f_idiv, f_irem, f_ineg, f_i2b, f_i2s, f_ladd, f_lmul, c_eq, c_ne, c_lt, c_ge, c_gt, c_le, cc_eq, cc_ne, cc_lt, cc_ge, cc_gt, cc_le, rfo, aof, csum, Value.category, List.take, List.drop, List.reverse, List.reverseAux, List.map, List.sum_cons, List.sum_nil, List.cons_append, List.nil_append, Option.toList, List.mem_cons, List.not_mem_nil, List.length_cons, List.length_nil, reduceIte, Nat.reduceEqDiff, Nat.reduceAdd, Nat.reduceLeDiff, Nat.reduceLT, a_day, Nat.zero_ne_one, Nat.one_ne_zero, false_and, and_false, true_and, and_true, or_false, false_or, or_true, true_or, not_true_eq_false, not_false_eq_true, Nat.zero_add, Nat.add_zero, Nat.le_refl, Nat.lt_irrefl, Nat.zero_lt_succ, Nat.zero_le, forall_const, List.cons.injEq, Value.int.injEq, Value.ref.injEq, Value.long.injEq, and_assoc, exists_and_left, exists_eq_left']
    try simp only [forall_eq]
    rw [nI_clamp (by omega)]
    refine ⟨m_76 hg, m_82 hg, vm l_82 (by omega) (by decide), iE18 100 _ _ _ ?_⟩
    rw [hI18]
    exact ⟨rfl, rfl, by omega, Sm.rf⟩
def T_X6_firstsSo (g : WG) (as : List Value) (M : MM) (Q : Option Value → MM → Prop) : Prop := ∃ i n sx, as = [.ref 76, .int (nI i), .int (nI sx)] ∧ i < 4 ∧ sx < dn (dm M) ∧ okM M ∧ zM M ∧ M 100 i = nI n ∧ n ≤ 40 ∧ ∀ M', Sm YS M M' → Q (some (.int (nI (bsum (soB (xm M) (telF (dm M) 5 sx) (fun j => M 101 (40 * i + j)) n) 16)))) M'
set_option maxRecDepth 100000 in
set_option maxHeartbeats 2000000 in
theorem t_X6_firstsSo {l : Launch} {g : WG} (hg : Full g) : Ct l g yX6_firstsSo cX6_firstsSo 7 ((Option.some FieldType.int)) 9 (T_X6_firstsSo g) := by
  refine Ct.of (by decide) (fun as M Q h => ?_) (fun p e s m args below meth c as M Q h C => ?_)
  · obtain ⟨i, nn, sx, rfl, hi, hs, ho, hz, hsz, h40, h⟩ := h; exact ⟨by simp, by simp [Value.category]⟩
  · obtain ⟨i, nn, sx, rfl, hi, hs, ho, hz, hsz, h40, h⟩ := h
    have hn := ho.n
    obtain ⟨w1, w2, k3, k4, -⟩ := ho.seam hs
    have k1 : M 80 sx = nI (fi (dm M) sx) := by rw [← w1, ← dm_s 3 (by decide) (by decide) hs]
    have k2 : M 81 sx = nI (la (dm M) sx) := by rw [← w2, ← dm_s 4 (by decide) (by decide) hs]
    obtain ⟨p', hp⟩ : ∃ p', soB (xm M) (telF (dm M) 5 sx) (fun j => M 101 (40 * i + j)) nn = p' := ⟨_, rfl⟩
    rw [hp] at h
    obtain ⟨I20, hI20⟩ : ∃ I : Nat → PP, I = (fun n lv st M' => ∃ k, lv = [(0, .ref 76), (1, .int (nI i)), (2, .int (nI sx)), (3, .int (nI (fi (dm M) sx))), (4, .int (nI (la (dm M) sx - fi (dm M) sx + 1))), (5, .int (nI (bsum p' k))), (6, .int (nI k))] ∧ st = [] ∧ k ≤ 16 ∧ n = 16 - k ∧ Sm (fun a b => YS a b ∨ ((a = 80 ∨ a = 81) ∧ b = sx)) M M') := ⟨_, rfl⟩
    obtain ⟨E20, hE20⟩ : ∃ E : PP, E = (fun lv st M => ∃ n, I20 n lv st M) := ⟨_, rfl⟩
    have iE20 : ∀ n lv st M, I20 n lv st M → E20 lv st M := fun n lv st M h => by rw [hE20]; exact ⟨n, h⟩
    have L20 : Sj p l e 9 s m args below meth c 7 g (MQ below (cQc g Q) args s 0 0 (gA g)) 20 E20 := by
      rw [hE20]
      refine s_ex (s_loop I20 (fun K20 k20 => WX6_firstsSo_20 C (t_X6_lengthOf hg) (by decide) (t_X6_shifts hg) (by decide) (t_X6_wrong hg) (by decide) k20) ?_)
      intro n lv st M1 K20 hK20 hI; rw [hI20] at hI; obtain ⟨k, rfl, rfl, hk, rfl, hsm⟩ := hI
      unfold BX6_firstsSo_20
      generalize hB36 : BX6_firstsSo_36 g Q (T_X6_lengthOf g) (T_X6_shifts g) (T_X6_wrong g) K20 = B36
      generalize hB60 : BX6_firstsSo_60 g Q (T_X6_lengthOf g) (T_X6_shifts g) (T_X6_wrong g) K20 = B60
      simp only [T_X6_lengthOf, T_X6_shifts, T_X6_wrong, i_const, i_lconst, i_iload, i_aload, i_lload, i_istore, i_astore, i_lstore, i_iinc, i_bin, i_div, i_un, i_i2l, i_l2i, i_lbin, i_lcmp, i_if, i_icmp, i_dup, i_dup_x1, i_dup2, i_pop, i_geti, i_getr, i_getd, i_puti, i_putz, i_putd, i_iald, i_bald, i_aald, i_iast, i_bast, i_alen, i_keep, i_ret, i_retz, i_reta, i_retl, i_retv, i_callv, i_callk, i_calls, i_mm, i_copy, i_under, i_undld, i_ldcs, i_sw, q_swc0, q_swc1, q_lg0, q_lg1, q_lent0, q_lent1, lset, lset2, q_lins0, q_lins1, q_ldel0, q_ldel1, q_ldel20, q_ldel21, q_lkeep0, q_lkeep1, q_memb0, q_memb1, cat2, Nat.reduceBEq, decide_true, decide_false, decide_eq_true_eq, cond_true, cond_false, Bool.and_true, Bool.and_false, Bool.true_and, Bool.false_and, f_iadd, f_isub, f_imul, f_ishl, f_ishr, f_iushr, f_iand, f_ior, f_idiv, f_irem, f_ineg, f_i2b, f_i2s, f_ladd, f_lmul, c_eq, c_ne, c_lt, c_ge, c_gt, c_le, cc_eq, cc_ne, cc_lt, cc_ge, cc_gt, cc_le, rfo, aof, csum, Value.category, List.take, List.drop, List.reverse, List.reverseAux, List.map, List.sum_cons, List.sum_nil, List.cons_append, List.nil_append, Option.toList, List.mem_cons, List.not_mem_nil, List.length_cons, List.length_nil, reduceIte, Nat.reduceEqDiff, Nat.reduceAdd, Nat.reduceLeDiff, Nat.reduceLT, a_day, Nat.zero_ne_one, Nat.one_ne_zero, false_and, and_false, true_and, and_true, or_false, false_or, or_true, true_or, not_true_eq_false, not_false_eq_true, Nat.zero_add, Nat.add_zero, Nat.le_refl, Nat.lt_irrefl, Nat.zero_lt_succ, Nat.zero_le, forall_const, List.cons.injEq, Value.int.injEq, Value.ref.injEq, Value.long.injEq, and_assoc, exists_and_left, exists_eq_left']
      try simp only [forall_eq]
      have hs7 : sx < 7 := by omega
      rw [show (16 : Int32) = nI 16 from rfl, nI_leI (by decide) (by omega)]
      refine ⟨fun z => ?_, fun z => ?_⟩
      · have : k = 16 := by omega
        subst this
        subst hB60
        unfold BX6_firstsSo_60
        simp only [T_X6_lengthOf, T_X6_shifts, T_X6_wrong, i_const, i_lconst, i_iload, i_aload, i_lload, i_istore, i_astore, i_lstore, i_iinc, i_bin, i_div, i_un, i_i2l, i_l2i, i_lbin, i_lcmp, i_if, i_icmp, i_dup, i_dup_x1, i_dup2, i_pop, i_geti, i_getr, i_getd, i_puti, i_putz, i_putd, i_iald, i_bald, i_aald, i_iast, i_bast, i_alen, i_keep, i_ret, i_retz, i_reta, i_retl, i_retv, i_callv, i_callk, i_calls, i_mm, i_copy, i_under, i_undld, i_ldcs, i_sw, q_swc0, q_swc1, q_lg0, q_lg1, q_lent0, q_lent1, lset, lset2, q_lins0, q_lins1, q_ldel0, q_ldel1, q_ldel20, q_ldel21, q_lkeep0, q_lkeep1, q_memb0, q_memb1, cat2, Nat.reduceBEq, decide_true, decide_false, decide_eq_true_eq, cond_true, cond_false, Bool.and_true, Bool.and_false, Bool.true_and, Bool.false_and, f_iadd, f_isub, f_imul, f_ishl, f_ishr, f_iushr, f_iand, f_ior, f_idiv, f_irem, f_ineg, f_i2b, f_i2s, f_ladd, f_lmul, c_eq, c_ne, c_lt, c_ge, c_gt, c_le, cc_eq, cc_ne, cc_lt, cc_ge, cc_gt, cc_le, rfo, aof, csum, Value.category, List.take, List.drop, List.reverse, List.reverseAux, List.map, List.sum_cons, List.sum_nil, List.cons_append, List.nil_append, Option.toList, List.mem_cons, List.not_mem_nil, List.length_cons, List.length_nil, reduceIte, Nat.reduceEqDiff, Nat.reduceAdd, Nat.reduceLeDiff, Nat.reduceLT, a_day, Nat.zero_ne_one, Nat.one_ne_zero, false_and, and_false, true_and, and_true, or_false, false_or, or_true, true_or, not_true_eq_false, not_false_eq_true, Nat.zero_add, Nat.add_zero, Nat.le_refl, Nat.lt_irrefl, Nat.zero_lt_succ, Nat.zero_le, forall_const, List.cons.injEq, Value.int.injEq, Value.ref.injEq, Value.long.injEq, and_assoc, exists_and_left, exists_eq_left']
        try simp only [forall_eq]
        refine ⟨(m_76 hg).1, (m_76 hg).2.1, sx, rfl, fi (dm M) sx, rfl, la (dm M) sx - fi (dm M) sx + 1, rfl, by omega, by omega, by omega, by omega, ?_⟩
        have hmin : min 15 (fi (dm M) sx + (la (dm M) sx - fi (dm M) sx + 1 - 1)) = la (dm M) sx := by omega
        rw [hmin]
        exact h _ (hsm.e2b k1 k2)
      · have hk16 : k < 16 := by omega
        obtain ⟨a1, a2, a3, a4⟩ := okM_shf hs hk16 ho
        have hL : shfL (dm M) sx k = min 15 (k + (la (dm M) sx - fi (dm M) sx + 1 - 1)) := by unfold shfL; omega
        refine ⟨(m_76 hg).1, (m_76 hg).2.1, sx, rfl, k, rfl, la (dm M) sx - fi (dm M) sx + 1, rfl, by omega, by omega, by omega, by omega, ?_⟩
        rw [← hL]
        have s1 := hsm.e2 (nI k) (nI (shfL (dm M) sx k))
        obtain ⟨b1, b2, b3⟩ := keepS s1 a1
        have bz := zM_S s1 (a4 hz)
        have b100 : mset (mset M1 80 sx (nI k)) 81 sx (nI (shfL (dm M) sx k)) 100 i = nI nn := by rw [s1 _ _ (by unfold YS; omega), ms_q (by decide), ms_q (by decide)]; exact hsz
        subst hB36
        unfold BX6_firstsSo_36
        generalize hB41 : BX6_firstsSo_41 g Q (T_X6_lengthOf g) (T_X6_shifts g) (T_X6_wrong g) K20 = B41
        simp only [T_X6_lengthOf, T_X6_shifts, T_X6_wrong, i_const, i_lconst, i_iload, i_aload, i_lload, i_istore, i_astore, i_lstore, i_iinc, i_bin, i_div, i_un, i_i2l, i_l2i, i_lbin, i_lcmp, i_if, i_icmp, i_dup, i_dup_x1, i_dup2, i_pop, i_geti, i_getr, i_getd, i_puti, i_putz, i_putd, i_iald, i_bald, i_aald, i_iast, i_bast, i_alen, i_keep, i_ret, i_retz, i_reta, i_retl, i_retv, i_callv, i_callk, i_calls, i_mm, i_copy, i_under, i_undld, i_ldcs, i_sw, q_swc0, q_swc1, q_lg0, q_lg1, q_lent0, q_lent1, lset, lset2, q_lins0, q_lins1, q_ldel0, q_ldel1, q_ldel20, q_ldel21, q_lkeep0, q_lkeep1, q_memb0, q_memb1, cat2, Nat.reduceBEq, decide_true, decide_false, decide_eq_true_eq, cond_true, cond_false, Bool.and_true, Bool.and_false, Bool.true_and, Bool.false_and, f_iadd, f_isub, f_imul, f_ishl, f_ishr, f_iushr, f_iand, f_ior, f_idiv, f_irem, f_ineg, f_i2b, f_i2s, f_ladd, f_lmul, c_eq, c_ne, c_lt, c_ge, c_gt, c_le, cc_eq, cc_ne, cc_lt, cc_ge, cc_gt, cc_le, rfo, aof, csum, Value.category, List.take, List.drop, List.reverse, List.reverseAux, List.map, List.sum_cons, List.sum_nil, List.cons_append, List.nil_append, Option.toList, List.mem_cons, List.not_mem_nil, List.length_cons, List.length_nil, reduceIte, Nat.reduceEqDiff, Nat.reduceAdd, Nat.reduceLeDiff, Nat.reduceLT, a_day, Nat.zero_ne_one, Nat.one_ne_zero, false_and, and_false, true_and, and_true, or_false, false_or, or_true, true_or, not_true_eq_false, not_false_eq_true, Nat.zero_add, Nat.add_zero, Nat.le_refl, Nat.lt_irrefl, Nat.zero_lt_succ, Nat.zero_le, forall_const, List.cons.injEq, Value.int.injEq, Value.ref.injEq, Value.long.injEq, and_assoc, exists_and_left, exists_eq_left']
        try simp only [forall_eq]
        refine ⟨(m_76 hg).1, (m_76 hg).2.1, i, rfl, hi, b1, bz, nn, b100, h40, fun M3 hs3 => ?_⟩
        have hcs : (fun j => mset (mset M1 80 sx (nI k)) 81 sx (nI (shfL (dm M) sx k)) 101 (40 * i + j)) = (fun j => M 101 (40 * i + j)) := by rw [cells_S s1]; funext j; rw [ms_q (by decide), ms_q (by decide)]
        rw [hcs, b2, b3, a2, a3]
        have hsm3 : Sm (fun a b => YS a b ∨ ((a = 80 ∨ a = 81) ∧ b = sx)) M M3 := ((hsm.set _ (Or.inr ⟨Or.inl rfl, rfl⟩)).set _ (Or.inr ⟨Or.inr rfl, rfl⟩)).tr (hs3.mono fun a b q => Or.inl q)
        have hpk : p' k = decide (wrg (xm M) (shfD (dm M) sx k) (fun j => M 101 (40 * i + j)) nn 0 = -1) := by rw [← hp]; rfl
        subst hB41
        unfold BX6_firstsSo_41
        simp only [T_X6_lengthOf, T_X6_shifts, T_X6_wrong, i_const, i_lconst, i_iload, i_aload, i_lload, i_istore, i_astore, i_lstore, i_iinc, i_bin, i_div, i_un, i_i2l, i_l2i, i_lbin, i_lcmp, i_if, i_icmp, i_dup, i_dup_x1, i_dup2, i_pop, i_geti, i_getr, i_getd, i_puti, i_putz, i_putd, i_iald, i_bald, i_aald, i_iast, i_bast, i_alen, i_keep, i_ret, i_retz, i_reta, i_retl, i_retv, i_callv, i_callk, i_calls, i_mm, i_copy, i_under, i_undld, i_ldcs, i_sw, q_swc0, q_swc1, q_lg0, q_lg1, q_lent0, q_lent1, lset, lset2, q_lins0, q_lins1, q_ldel0, q_ldel1, q_ldel20, q_ldel21, q_lkeep0, q_lkeep1, q_memb0, q_memb1, cat2, Nat.reduceBEq, decide_true, decide_false, decide_eq_true_eq, cond_true, cond_false, Bool.and_true, Bool.and_false, Bool.true_and, Bool.false_and, f_iadd, f_isub, f_imul, f_ishl, f_ishr, f_iushr, f_iand, f_ior, f_idiv, f_irem, f_ineg, f_i2b, f_i2s, f_ladd, f_lmul, c_eq, c_ne, c_lt, c_ge, c_gt, c_le, cc_eq, cc_ne, cc_lt, cc_ge, cc_gt, cc_le, rfo, aof, csum, Value.category, List.take, List.drop, List.reverse, List.reverseAux, List.map, List.sum_cons, List.sum_nil, List.cons_append, List.nil_append, Option.toList, List.mem_cons, List.not_mem_nil, List.length_cons, List.length_nil, reduceIte, Nat.reduceEqDiff, Nat.reduceAdd, Nat.reduceLeDiff, Nat.reduceLT, a_day, Nat.zero_ne_one, Nat.one_ne_zero, false_and, and_false, true_and, and_true, or_false, false_or, or_true, true_or, not_true_eq_false, not_false_eq_true, Nat.zero_add, Nat.add_zero, Nat.le_refl, Nat.lt_irrefl, Nat.zero_lt_succ, Nat.zero_le, forall_const, List.cons.injEq, Value.int.injEq, Value.ref.injEq, Value.long.injEq, and_assoc, exists_and_left, exists_eq_left']
        try simp only [forall_eq]
        rw [nI_1]
        have fin : ∀ x, x = nI (bsum p' (k + 1)) → K20 [(0, .ref 76), (1, .int (nI i)), (2, .int (nI sx)), (3, .int (nI (fi (dm M) sx))), (4, .int (nI (la (dm M) sx - fi (dm M) sx + 1))), (5, .int x), (6, .int (nI (k + 1)))] [] M3 := by
          intro x hx
          subst hx
          refine hK20 (16 - (k + 1)) _ _ _ (by omega) ?_
          rw [hI20]
          exact ⟨k + 1, rfl, rfl, by omega, rfl, hsm3⟩
        refine ⟨fun y => fin _ ?_, fun y => fin _ ?_⟩
        · rw [bsum_n]; rw [hpk]; simpa using y
        · exact bsum_or (by omega) (by rw [hpk]; simpa using y)
      
    refine s_of (fun lv st M0 hs => ?_) (WX6_firstsSo_0 C (t_X6_lengthOf hg) (by decide) (t_X6_shifts hg) (by decide) (t_X6_wrong hg) (by decide) L20)
    obtain ⟨rfl, rfl, rfl⟩ := hs
    unfold BX6_firstsSo_0
    generalize hB12 : BX6_firstsSo_12 g Q (T_X6_lengthOf g) (T_X6_shifts g) (T_X6_wrong g) E20 = B12
    simp only [T_X6_lengthOf, T_X6_shifts, T_X6_wrong, i_const, i_lconst, i_iload, i_aload, i_lload, i_istore, i_astore, i_lstore, i_iinc, i_bin, i_div, i_un, i_i2l, i_l2i, i_lbin, i_lcmp, i_if, i_icmp, i_dup, i_dup_x1, i_dup2, i_pop, i_geti, i_getr, i_getd, i_puti, i_putz, i_putd, i_iald, i_bald, i_aald, i_iast, i_bast, i_alen, i_keep, i_ret, i_retz, i_reta, i_retl, i_retv, i_callv, i_callk, i_calls, i_mm, i_copy, i_under, i_undld, i_ldcs, i_sw, q_swc0, q_swc1, q_lg0, q_lg1, q_lent0, q_lent1, lset, lset2, q_lins0, q_lins1, q_ldel0, q_ldel1, q_ldel20, q_ldel21, q_lkeep0, q_lkeep1, q_memb0, q_memb1, cat2, Nat.reduceBEq, decide_true, decide_false, decide_eq_true_eq, cond_true, cond_false, Bool.and_true, Bool.and_false, Bool.true_and, Bool.false_and, f_iadd, f_isub, f_imul, f_ishl, f_ishr, f_iushr, f_iand, f_ior, f_idiv, f_irem, f_ineg, f_i2b, f_i2s, f_ladd, f_lmul, c_eq, c_ne, c_lt, c_ge, c_gt, c_le, cc_eq, cc_ne, cc_lt, cc_ge, cc_gt, cc_le, rfo, aof, csum, Value.category, List.take, List.drop, List.reverse, List.reverseAux, List.map, List.sum_cons, List.sum_nil, List.cons_append, List.nil_append, Option.toList, List.mem_cons, List.not_mem_nil, List.length_cons, List.length_nil, reduceIte, Nat.reduceEqDiff, Nat.reduceAdd, Nat.reduceLeDiff, Nat.reduceLT, a_day, Nat.zero_ne_one, Nat.one_ne_zero, false_and, and_false, true_and, and_true, or_false, false_or, or_true, true_or, not_true_eq_false, not_false_eq_true, Nat.zero_add, Nat.add_zero, Nat.le_refl, Nat.lt_irrefl, Nat.zero_lt_succ, Nat.zero_le, forall_const, List.cons.injEq, Value.int.injEq, Value.ref.injEq, Value.long.injEq, and_assoc, exists_and_left, exists_eq_left']
    try simp only [forall_eq]
    rw [nI_clamp (by omega), k1]
    refine ⟨m_76 hg, m_80 hg, vm l_80 (by omega) (by decide), (m_76 hg).1, (m_76 hg).2.1, sx, rfl, by omega, ?_⟩
    subst hB12
    unfold BX6_firstsSo_12
    simp only [T_X6_lengthOf, T_X6_shifts, T_X6_wrong, i_const, i_lconst, i_iload, i_aload, i_lload, i_istore, i_astore, i_lstore, i_iinc, i_bin, i_div, i_un, i_i2l, i_l2i, i_lbin, i_lcmp, i_if, i_icmp, i_dup, i_dup_x1, i_dup2, i_pop, i_geti, i_getr, i_getd, i_puti, i_putz, i_putd, i_iald, i_bald, i_aald, i_iast, i_bast, i_alen, i_keep, i_ret, i_retz, i_reta, i_retl, i_retv, i_callv, i_callk, i_calls, i_mm, i_copy, i_under, i_undld, i_ldcs, i_sw, q_swc0, q_swc1, q_lg0, q_lg1, q_lent0, q_lent1, lset, lset2, q_lins0, q_lins1, q_ldel0, q_ldel1, q_ldel20, q_ldel21, q_lkeep0, q_lkeep1, q_memb0, q_memb1, cat2, Nat.reduceBEq, decide_true, decide_false, decide_eq_true_eq, cond_true, cond_false, Bool.and_true, Bool.and_false, Bool.true_and, Bool.false_and, f_iadd, f_isub, f_imul, f_ishl, f_ishr, f_iushr, f_iand, f_ior, f_idiv, f_irem, f_ineg, f_i2b, f_i2s, f_ladd, f_lmul, c_eq, c_ne, c_lt, c_ge, c_gt, c_le, cc_eq, cc_ne, cc_lt, cc_ge, cc_gt, cc_le, rfo, aof, csum, Value.category, List.take, List.drop, List.reverse, List.reverseAux, List.map, List.sum_cons, List.sum_nil, List.cons_append, List.nil_append, Option.toList, List.mem_cons, List.not_mem_nil, List.length_cons, List.length_nil, reduceIte, Nat.reduceEqDiff, Nat.reduceAdd, Nat.reduceLeDiff, Nat.reduceLT, a_day, Nat.zero_ne_one, Nat.one_ne_zero, false_and, and_false, true_and, and_true, or_false, false_or, or_true, true_or, not_true_eq_false, not_false_eq_true, Nat.zero_add, Nat.add_zero, Nat.le_refl, Nat.lt_irrefl, Nat.zero_lt_succ, Nat.zero_le, forall_const, List.cons.injEq, Value.int.injEq, Value.ref.injEq, Value.long.injEq, and_assoc, exists_and_left, exists_eq_left']
    try simp only [forall_eq]
    rw [k1, k2, pk_sub k3, nI_1]
    refine iE20 (16 - 0) _ _ _ ?_
    rw [hI20]
    exact ⟨0, rfl, rfl, by omega, rfl, Sm.rf⟩
