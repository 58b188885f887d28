/-! ===== the model's sums ===== -/
def LKD (M : MM) (X : XV) (D : DV) : Prop := LK M (gon D) (edg D (dn D)) (strn X D (dn D))
def T_X6_glad (g : WG) (as : List Value) (M : MM) (Q : Option Value → MM → Prop) : Prop := ∃ (h : Nat) (X : XV), as = [.ref 76, .int (nI h)] ∧ h < 16 ∧ LKD M X (dm M) ∧ Q (some (.int (gld X (dm M) h))) M
set_option maxRecDepth 100000 in
set_option maxHeartbeats 1000000 in
theorem t_X6_glad {l : Launch} {g : WG} (hg : Full g) : Ct l g yX6_glad cX6_glad 3 ((Option.some FieldType.int)) 1 (T_X6_glad g) := by
  refine Ct.of (by decide) (fun as M Q h => ?_) (fun p e s m args below meth c as M Q h C => ?_)
  · obtain ⟨h0, X, rfl, hh, hl, h⟩ := h; exact ⟨by simp, by simp [Value.category]⟩
  · obtain ⟨h0, X, rfl, hh, hl, h⟩ := h
    refine s_of (fun lv st M0 hs => ?_) (WX6_glad_0 C)
    obtain ⟨rfl, rfl, rfl⟩ := hs
    unfold BX6_glad_0
    simp only [i_const, i_lconst, i_iload, i_aload, i_lload, i_istore, i_astore, i_lstore, i_iinc, i_bin, i_div, i_un, i_i2l, i_l2i, i_lbin, i_lcmp, i_if, i_icmp, i_dup, i_dup_x1, i_dup2, i_pop, i_geti, i_getr, i_getd, i_puti, i_putz, i_putd, i_iald, i_bald, i_aald, i_iast, i_bast, i_alen, i_keep, i_ret, i_retz, i_reta, i_retl, i_retv, i_callv, i_callk, i_calls, i_mm, i_copy, i_under, i_undld, i_ldcs, i_sw, q_swc0, q_swc1, q_lg0, q_lg1, q_lent0, q_lent1, lset, lset2, q_lins0, q_lins1, q_ldel0, q_ldel1, q_ldel20, q_ldel21, q_lkeep0, q_lkeep1, q_memb0, q_memb1, cat2, Nat.reduceBEq, decide_true, decide_false, decide_eq_true_eq, cond_true, cond_false, Bool.and_true, Bool.and_false, Bool.true_and, Bool.false_and, f_iadd, f_isub, f_imul, f_ishl, f_ishr, f_iushr, f_iand, f_ior, f_idiv, f_irem, f_ineg, f_i2b, f_i2s, f_ladd, f_lmul, c_eq, c_ne, c_lt, c_ge, c_gt, c_le, cc_eq, cc_ne, cc_lt, cc_ge, cc_gt, cc_le, rfo, aof, csum, Value.category, List.take, List.drop, List.reverse, List.reverseAux, List.map, List.sum_cons, List.sum_nil, List.cons_append, List.nil_append, Option.toList, List.mem_cons, List.not_mem_nil, List.length_cons, List.length_nil, reduceIte, Nat.reduceEqDiff, Nat.reduceAdd, Nat.reduceLeDiff, Nat.reduceLT, a_day, Nat.zero_ne_one, Nat.one_ne_zero, false_and, and_false, true_and, and_true, or_false, false_or, or_true, true_or, not_true_eq_false, not_false_eq_true, Nat.zero_add, Nat.add_zero, Nat.le_refl, Nat.lt_irrefl, Nat.zero_lt_succ, Nat.zero_le, forall_const, List.cons.injEq, Value.int.injEq, Value.ref.injEq, Value.long.injEq, and_assoc, exists_and_left, exists_eq_left']
    try simp only [forall_eq]
    obtain ⟨a, b, c⟩ := hl h0 hh
    rw [nI_clamp (by omega), a, c, ← dm_0 M0 hh]
    unfold gld at h
    refine ⟨m_76 hg, m_90 hg, vm l_90 hh (by decide), fun y => ⟨m_76 hg, m_77 hg, vm l_77 hh (by decide), m_76 hg, m_92 hg, vm l_92 hh (by decide), ?_⟩, fun y => ?_⟩
    · rw [if_neg (b2i_0.mp y)] at h
      refine ⟨fun z => ?_, fun z => ?_⟩
      · rwa [if_neg (i_not_lt.mpr z)] at h
      · rwa [if_pos (i_not_le.mp z)] at h
    · rw [if_pos (Decidable.not_not.mp (fun q => y (b2i_f q)))] at h
      exact h
def T_X6_worth (g : WG) (as : List Value) (M : MM) (Q : Option Value → MM → Prop) : Prop := as = [.ref 76] ∧ okM M ∧ ∀ M', Sm YL M M' → LKD M' (xm M) (dm M) → Q (some (.int (wor (xm M) (dm M)))) M'
set_option maxRecDepth 100000 in
set_option maxHeartbeats 1000000 in
theorem t_X6_worth {l : Launch} {g : WG} (hg : Full g) : Ct l g yX6_worth cX6_worth 3 ((Option.some FieldType.int)) 7 (T_X6_worth g) := by
  refine Ct.of (by decide) (fun as M Q h => ?_) (fun p e s m args below meth c as M Q h C => ?_)
  · obtain ⟨rfl, ho, h⟩ := h; exact ⟨by simp, by simp [Value.category]⟩
  · obtain ⟨rfl, ho, h⟩ := h
    obtain ⟨I8, hI8⟩ : ∃ I : Nat → PP, I = (fun n lv st M' => ∃ k, lv = [(0, .ref 76), (1, .int (sumI (gld (xm M) (dm M)) k)), (2, .int (nI k))] ∧ st = [] ∧ k ≤ 16 ∧ n = 16 - k ∧ Sm YL M M' ∧ LKD M' (xm M) (dm M)) := ⟨_, rfl⟩
    obtain ⟨E8, hE8⟩ : ∃ E : PP, E = (fun lv st M => ∃ n, I8 n lv st M) := ⟨_, rfl⟩
    have iE8 : ∀ n lv st M, I8 n lv st M → E8 lv st M := fun n lv st M h => by rw [hE8]; exact ⟨n, h⟩
    have L8 : Sj p l e 7 s m args below meth c 3 g (MQ below (cQc g Q) args s 0 0 (gA g)) 8 E8 := by
      rw [hE8]
      refine s_ex (s_loop I8 (fun K8 k8 => WX6_worth_8 C (t_X6_looks hg) (by decide) (t_X6_glad hg) (by decide) k8) ?_)
      intro n lv st M1 K8 hK8 hI; rw [hI8] at hI; obtain ⟨k, rfl, rfl, hk, rfl, hs, hl⟩ := hI
      unfold BX6_worth_8
      generalize hB20 : BX6_worth_20 g Q (T_X6_looks g) (T_X6_glad g) K8 = B20
      simp only [T_X6_looks, T_X6_glad, i_const, i_lconst, i_iload, i_aload, i_lload, i_istore, i_astore, i_lstore, i_iinc, i_bin, i_div, i_un, i_i2l, i_l2i, i_lbin, i_lcmp, i_if, i_icmp, i_dup, i_dup_x1, i_dup2, i_pop, i_geti, i_getr, i_getd, i_puti, i_putz, i_putd, i_iald, i_bald, i_aald, i_iast, i_bast, i_alen, i_keep, i_ret, i_retz, i_reta, i_retl, i_retv, i_callv, i_callk, i_calls, i_mm, i_copy, i_under, i_undld, i_ldcs, i_sw, q_swc0, q_swc1, q_lg0, q_lg1, q_lent0, q_lent1, lset, lset2, q_lins0, q_lins1, q_ldel0, q_ldel1, q_ldel20, q_ldel21, q_lkeep0, q_lkeep1, q_memb0, q_memb1, cat2, Nat.reduceBEq, decide_true, decide_false, decide_eq_true_eq, cond_true, cond_false, Bool.and_true, Bool.and_false, Bool.true_and, Bool.false_and, f_iadd, f_isub, f_imul, f_ishl, f_ishr, f_iushr, f_iand, f_ior, f_idiv, f_irem, f_ineg, f_i2b, f_i2s, f_ladd, f_lmul, c_eq, c_ne, c_lt, c_ge, c_gt, c_le, cc_eq, cc_ne, cc_lt, cc_ge, cc_gt, cc_le, rfo, aof, csum, Value.category, List.take, List.drop, List.reverse, List.reverseAux, List.map, List.sum_cons, List.sum_nil, List.cons_append, List.nil_append, Option.toList, List.mem_cons, List.not_mem_nil, List.length_cons, List.length_nil, reduceIte, Nat.reduceEqDiff, Nat.reduceAdd, Nat.reduceLeDiff, Nat.reduceLT, a_day, Nat.zero_ne_one, Nat.one_ne_zero, false_and, and_false, true_and, and_true, or_false, false_or, or_true, true_or, not_true_eq_false, not_false_eq_true, Nat.zero_add, Nat.add_zero, Nat.le_refl, Nat.lt_irrefl, Nat.zero_lt_succ, Nat.zero_le, forall_const, List.cons.injEq, Value.int.injEq, Value.ref.injEq, Value.long.injEq, and_assoc, exists_and_left, exists_eq_left']
      try simp only [forall_eq]
      rw [show (16 : Int32) = nI 16 from rfl, nI_leI (by decide) (by omega)]
      obtain ⟨ko, kd', kx⟩ := keepM hs YL88 ho
      refine ⟨fun z => ?_, fun z => ?_⟩
      · have hkk : k = 16 := by omega
        subst hkk
        exact h M1 hs hl
      · refine ⟨(m_76 hg).1, (m_76 hg).2.1, k, rfl, by omega, xm M, by rw [kd']; exact hl, ?_⟩
        rw [kd']
        subst hB20
        unfold BX6_worth_20
        simp only [T_X6_looks, T_X6_glad, i_const, i_lconst, i_iload, i_aload, i_lload, i_istore, i_astore, i_lstore, i_iinc, i_bin, i_div, i_un, i_i2l, i_l2i, i_lbin, i_lcmp, i_if, i_icmp, i_dup, i_dup_x1, i_dup2, i_pop, i_geti, i_getr, i_getd, i_puti, i_putz, i_putd, i_iald, i_bald, i_aald, i_iast, i_bast, i_alen, i_keep, i_ret, i_retz, i_reta, i_retl, i_retv, i_callv, i_callk, i_calls, i_mm, i_copy, i_under, i_undld, i_ldcs, i_sw, q_swc0, q_swc1, q_lg0, q_lg1, q_lent0, q_lent1, lset, lset2, q_lins0, q_lins1, q_ldel0, q_ldel1, q_ldel20, q_ldel21, q_lkeep0, q_lkeep1, q_memb0, q_memb1, cat2, Nat.reduceBEq, decide_true, decide_false, decide_eq_true_eq, cond_true, cond_false, Bool.and_true, Bool.and_false, Bool.true_and, Bool.false_and, f_iadd, f_isub, f_imul, f_ishl, f_ishr, f_iushr, f_iand, f_ior, f_idiv, f_irem, f_ineg, f_i2b, f_i2s, f_ladd, f_lmul, c_eq, c_ne, c_lt, c_ge, c_gt, c_le, cc_eq, cc_ne, cc_lt, cc_ge, cc_gt, cc_le, rfo, aof, csum, Value.category, List.take, List.drop, List.reverse, List.reverseAux, List.map, List.sum_cons, List.sum_nil, List.cons_append, List.nil_append, Option.toList, List.mem_cons, List.not_mem_nil, List.length_cons, List.length_nil, reduceIte, Nat.reduceEqDiff, Nat.reduceAdd, Nat.reduceLeDiff, Nat.reduceLT, a_day, Nat.zero_ne_one, Nat.one_ne_zero, false_and, and_false, true_and, and_true, or_false, false_or, or_true, true_or, not_true_eq_false, not_false_eq_true, Nat.zero_add, Nat.add_zero, Nat.le_refl, Nat.lt_irrefl, Nat.zero_lt_succ, Nat.zero_le, forall_const, List.cons.injEq, Value.int.injEq, Value.ref.injEq, Value.long.injEq, and_assoc, exists_and_left, exists_eq_left']
        try simp only [forall_eq]
        refine hK8 (16 - (k + 1)) _ _ _ (by omega) ?_
        rw [hI8]
        exact ⟨k + 1, by rw [nI_1]; rfl, rfl, by omega, rfl, hs, hl⟩
    refine s_of (fun lv st M0 hs => ?_) (WX6_worth_0 C (t_X6_looks hg) (by decide) (t_X6_glad hg) (by decide) L8)
    obtain ⟨rfl, rfl, rfl⟩ := hs
    unfold BX6_worth_0
    generalize hB4 : BX6_worth_4 g Q (T_X6_looks g) (T_X6_glad g) E8 = B4
    simp only [T_X6_looks, T_X6_glad, i_const, i_lconst, i_iload, i_aload, i_lload, i_istore, i_astore, i_lstore, i_iinc, i_bin, i_div, i_un, i_i2l, i_l2i, i_lbin, i_lcmp, i_if, i_icmp, i_dup, i_dup_x1, i_dup2, i_pop, i_geti, i_getr, i_getd, i_puti, i_putz, i_putd, i_iald, i_bald, i_aald, i_iast, i_bast, i_alen, i_keep, i_ret, i_retz, i_reta, i_retl, i_retv, i_callv, i_callk, i_calls, i_mm, i_copy, i_under, i_undld, i_ldcs, i_sw, q_swc0, q_swc1, q_lg0, q_lg1, q_lent0, q_lent1, lset, lset2, q_lins0, q_lins1, q_ldel0, q_ldel1, q_ldel20, q_ldel21, q_lkeep0, q_lkeep1, q_memb0, q_memb1, cat2, Nat.reduceBEq, decide_true, decide_false, decide_eq_true_eq, cond_true, cond_false, Bool.and_true, Bool.and_false, Bool.true_and, Bool.false_and, f_iadd, f_isub, f_imul, f_ishl, f_ishr, f_iushr, f_iand, f_ior, f_idiv, f_irem, f_ineg, f_i2b, f_i2s, f_ladd, f_lmul, c_eq, c_ne, c_lt, c_ge, c_gt, c_le, cc_eq, cc_ne, cc_lt, cc_ge, cc_gt, cc_le, rfo, aof, csum, Value.category, List.take, List.drop, List.reverse, List.reverseAux, List.map, List.sum_cons, List.sum_nil, List.cons_append, List.nil_append, Option.toList, List.mem_cons, List.not_mem_nil, List.length_cons, List.length_nil, reduceIte, Nat.reduceEqDiff, Nat.reduceAdd, Nat.reduceLeDiff, Nat.reduceLT, a_day, Nat.zero_ne_one, Nat.one_ne_zero, false_and, and_false, true_and, and_true, or_false, false_or, or_true, true_or, not_true_eq_false, not_false_eq_true, Nat.zero_add, Nat.add_zero, Nat.le_refl, Nat.lt_irrefl, Nat.zero_lt_succ, Nat.zero_le, forall_const, List.cons.injEq, Value.int.injEq, Value.ref.injEq, Value.long.injEq, and_assoc, exists_and_left, exists_eq_left']
    try simp only [forall_eq]
    refine ⟨(m_76 hg).1, (m_76 hg).2.1, ho, fun M1 hs1 hl1 => ?_⟩
    subst hB4
    unfold BX6_worth_4
    simp only [T_X6_looks, T_X6_glad, i_const, i_lconst, i_iload, i_aload, i_lload, i_istore, i_astore, i_lstore, i_iinc, i_bin, i_div, i_un, i_i2l, i_l2i, i_lbin, i_lcmp, i_if, i_icmp, i_dup, i_dup_x1, i_dup2, i_pop, i_geti, i_getr, i_getd, i_puti, i_putz, i_putd, i_iald, i_bald, i_aald, i_iast, i_bast, i_alen, i_keep, i_ret, i_retz, i_reta, i_retl, i_retv, i_callv, i_callk, i_calls, i_mm, i_copy, i_under, i_undld, i_ldcs, i_sw, q_swc0, q_swc1, q_lg0, q_lg1, q_lent0, q_lent1, lset, lset2, q_lins0, q_lins1, q_ldel0, q_ldel1, q_ldel20, q_ldel21, q_lkeep0, q_lkeep1, q_memb0, q_memb1, cat2, Nat.reduceBEq, decide_true, decide_false, decide_eq_true_eq, cond_true, cond_false, Bool.and_true, Bool.and_false, Bool.true_and, Bool.false_and, f_iadd, f_isub, f_imul, f_ishl, f_ishr, f_iushr, f_iand, f_ior, f_idiv, f_irem, f_ineg, f_i2b, f_i2s, f_ladd, f_lmul, c_eq, c_ne, c_lt, c_ge, c_gt, c_le, cc_eq, cc_ne, cc_lt, cc_ge, cc_gt, cc_le, rfo, aof, csum, Value.category, List.take, List.drop, List.reverse, List.reverseAux, List.map, List.sum_cons, List.sum_nil, List.cons_append, List.nil_append, Option.toList, List.mem_cons, List.not_mem_nil, List.length_cons, List.length_nil, reduceIte, Nat.reduceEqDiff, Nat.reduceAdd, Nat.reduceLeDiff, Nat.reduceLT, a_day, Nat.zero_ne_one, Nat.one_ne_zero, false_and, and_false, true_and, and_true, or_false, false_or, or_true, true_or, not_true_eq_false, not_false_eq_true, Nat.zero_add, Nat.add_zero, Nat.le_refl, Nat.lt_irrefl, Nat.zero_lt_succ, Nat.zero_le, forall_const, List.cons.injEq, Value.int.injEq, Value.ref.injEq, Value.long.injEq, and_assoc, exists_and_left, exists_eq_left']
    try simp only [forall_eq]
    refine iE8 (16 - 0) _ _ _ ?_
    rw [hI8]
    exact ⟨0, rfl, rfl, by omega, rfl, hs1, hl1⟩
def T_X6_stretch (g : WG) (as : List Value) (M : MM) (Q : Option Value → MM → Prop) : Prop := ∃ X D, as = [.ref 76] ∧ LKD M X D ∧ Q (some (.int (stm (gon D) 16))) M
set_option maxRecDepth 100000 in
set_option maxHeartbeats 1000000 in
theorem t_X6_stretch {l : Launch} {g : WG} (hg : Full g) : Ct l g yX6_stretch cX6_stretch 4 ((Option.some FieldType.int)) 1 (T_X6_stretch g) := by
  refine Ct.of (by decide) (fun as M Q h => ?_) (fun p e s m args below meth c as M Q h C => ?_)
  · obtain ⟨X, D, rfl, hl, h⟩ := h; exact ⟨by simp, by simp [Value.category]⟩
  · obtain ⟨X, D, rfl, hl, h⟩ := h
    obtain ⟨I6, hI6⟩ : ∃ I : Nat → PP, I = (fun n lv st M' => M' = M ∧ ∃ k, lv = [(0, .ref 76), (1, .int (stm (gon D) k)), (2, .int (stn (gon D) k)), (3, .int (nI k))] ∧ st = [] ∧ k ≤ 16 ∧ n = 16 - k) := ⟨_, rfl⟩
    obtain ⟨E6, hE6⟩ : ∃ E : PP, E = (fun lv st M => ∃ n, I6 n lv st M) := ⟨_, rfl⟩
    have iE6 : ∀ n lv st M, I6 n lv st M → E6 lv st M := fun n lv st M h => by rw [hE6]; exact ⟨n, h⟩
    have L6 : Sj p l e 1 s m args below meth c 4 g (MQ below (cQc g Q) args s 0 0 (gA g)) 6 E6 := by
      rw [hE6]
      refine s_ex (s_loop I6 (fun K6 k6 => WX6_stretch_6 C k6) ?_)
      intro n lv st M1 K6 hK6 hI; rw [hI6] at hI; obtain ⟨rfl, k, rfl, rfl, hk, rfl⟩ := hI
      unfold BX6_stretch_6
      generalize hB28 : BX6_stretch_28 g Q  K6 = B28
      simp only [i_const, i_lconst, i_iload, i_aload, i_lload, i_istore, i_astore, i_lstore, i_iinc, i_bin, i_div, i_un, i_i2l, i_l2i, i_lbin, i_lcmp, i_if, i_icmp, i_dup, i_dup_x1, i_dup2, i_pop, i_geti, i_getr, i_getd, i_puti, i_putz, i_putd, i_iald, i_bald, i_aald, i_iast, i_bast, i_alen, i_keep, i_ret, i_retz, i_reta, i_retl, i_retv, i_callv, i_callk, i_calls, i_mm, i_copy, i_under, i_undld, i_ldcs, i_sw, q_swc0, q_swc1, q_lg0, q_lg1, q_lent0, q_lent1, lset, lset2, q_lins0, q_lins1, q_ldel0, q_ldel1, q_ldel20, q_ldel21, q_lkeep0, q_lkeep1, q_memb0, q_memb1, cat2, Nat.reduceBEq, decide_true, decide_false, decide_eq_true_eq, cond_true, cond_false, Bool.and_true, Bool.and_false, Bool.true_and, Bool.false_and, f_iadd, f_isub, f_imul, f_ishl, f_ishr, f_iushr, f_iand, f_ior, f_idiv, f_irem, f_ineg, f_i2b, f_i2s, f_ladd, f_lmul, c_eq, c_ne, c_lt, c_ge, c_gt, c_le, cc_eq, cc_ne, cc_lt, cc_ge, cc_gt, cc_le, rfo, aof, csum, Value.category, List.take, List.drop, List.reverse, List.reverseAux, List.map, List.sum_cons, List.sum_nil, List.cons_append, List.nil_append, Option.toList, List.mem_cons, List.not_mem_nil, List.length_cons, List.length_nil, reduceIte, Nat.reduceEqDiff, Nat.reduceAdd, Nat.reduceLeDiff, Nat.reduceLT, a_day, Nat.zero_ne_one, Nat.one_ne_zero, false_and, and_false, true_and, and_true, or_false, false_or, or_true, true_or, not_true_eq_false, not_false_eq_true, Nat.zero_add, Nat.add_zero, Nat.le_refl, Nat.lt_irrefl, Nat.zero_lt_succ, Nat.zero_le, forall_const, List.cons.injEq, Value.int.injEq, Value.ref.injEq, Value.long.injEq, and_assoc, exists_and_left, exists_eq_left']
      try simp only [forall_eq]
      rw [show (16 : Int32) = nI 16 from rfl, nI_leI (by decide) (by omega)]
      refine ⟨fun z => ?_, fun z => ?_⟩
      · have hkk : k = 16 := by omega
        subst hkk
        exact h
      · have hlt : k < 16 := by omega
        have fin : ∀ x, x = stn (gon D) (k + 1) → B28 [(0, .ref 76), (1, .int (stm (gon D) k)), (2, .int (stn (gon D) k)), (3, .int (nI k))] [.int x] M1 := by
          intro x hx
          subst hx
          subst hB28
          unfold BX6_stretch_28
          simp only [i_const, i_lconst, i_iload, i_aload, i_lload, i_istore, i_astore, i_lstore, i_iinc, i_bin, i_div, i_un, i_i2l, i_l2i, i_lbin, i_lcmp, i_if, i_icmp, i_dup, i_dup_x1, i_dup2, i_pop, i_geti, i_getr, i_getd, i_puti, i_putz, i_putd, i_iald, i_bald, i_aald, i_iast, i_bast, i_alen, i_keep, i_ret, i_retz, i_reta, i_retl, i_retv, i_callv, i_callk, i_calls, i_mm, i_copy, i_under, i_undld, i_ldcs, i_sw, q_swc0, q_swc1, q_lg0, q_lg1, q_lent0, q_lent1, lset, lset2, q_lins0, q_lins1, q_ldel0, q_ldel1, q_ldel20, q_ldel21, q_lkeep0, q_lkeep1, q_memb0, q_memb1, cat2, Nat.reduceBEq, decide_true, decide_false, decide_eq_true_eq, cond_true, cond_false, Bool.and_true, Bool.and_false, Bool.true_and, Bool.false_and, f_iadd, f_isub, f_imul, f_ishl, f_ishr, f_iushr, f_iand, f_ior, f_idiv, f_irem, f_ineg, f_i2b, f_i2s, f_ladd, f_lmul, c_eq, c_ne, c_lt, c_ge, c_gt, c_le, cc_eq, cc_ne, cc_lt, cc_ge, cc_gt, cc_le, rfo, aof, csum, Value.category, List.take, List.drop, List.reverse, List.reverseAux, List.map, List.sum_cons, List.sum_nil, List.cons_append, List.nil_append, Option.toList, List.mem_cons, List.not_mem_nil, List.length_cons, List.length_nil, reduceIte, Nat.reduceEqDiff, Nat.reduceAdd, Nat.reduceLeDiff, Nat.reduceLT, a_day, Nat.zero_ne_one, Nat.one_ne_zero, false_and, and_false, true_and, and_true, or_false, false_or, or_true, true_or, not_true_eq_false, not_false_eq_true, Nat.zero_add, Nat.add_zero, Nat.le_refl, Nat.lt_irrefl, Nat.zero_lt_succ, Nat.zero_le, forall_const, List.cons.injEq, Value.int.injEq, Value.ref.injEq, Value.long.injEq, and_assoc, exists_and_left, exists_eq_left']
          try simp only [forall_eq]
          rw [nI_1]
          refine ⟨fun w => ?_, fun w => ?_⟩ <;> refine hK6 (16 - (k + 1)) _ _ _ (by omega) ?_ <;> rw [hI6]
          · exact ⟨rfl, k + 1, by simp only [stm, if_neg (i_not_lt.mpr w)], rfl, by omega, rfl⟩
          · exact ⟨rfl, k + 1, by simp only [stm, if_pos (i_not_le.mp w)], rfl, by omega, rfl⟩
        rw [nI_clamp (by omega), (hl k hlt).1]
        refine ⟨m_76 hg, m_90 hg, vm l_90 hlt (by decide), fun y => fin _ ?_, fun y => fin _ ?_⟩
        · simp only [stn, if_neg (b2i_0.mp y)]
        · simp only [stn, if_pos (Decidable.not_not.mp (fun q => y (b2i_f q)))]
    refine s_of (fun lv st M0 hs => ?_) (WX6_stretch_0 C L6)
    obtain ⟨rfl, rfl, rfl⟩ := hs
    unfold BX6_stretch_0
    simp only [i_const, i_lconst, i_iload, i_aload, i_lload, i_istore, i_astore, i_lstore, i_iinc, i_bin, i_div, i_un, i_i2l, i_l2i, i_lbin, i_lcmp, i_if, i_icmp, i_dup, i_dup_x1, i_dup2, i_pop, i_geti, i_getr, i_getd, i_puti, i_putz, i_putd, i_iald, i_bald, i_aald, i_iast, i_bast, i_alen, i_keep, i_ret, i_retz, i_reta, i_retl, i_retv, i_callv, i_callk, i_calls, i_mm, i_copy, i_under, i_undld, i_ldcs, i_sw, q_swc0, q_swc1, q_lg0, q_lg1, q_lent0, q_lent1, lset, lset2, q_lins0, q_lins1, q_ldel0, q_ldel1, q_ldel20, q_ldel21, q_lkeep0, q_lkeep1, q_memb0, q_memb1, cat2, Nat.reduceBEq, decide_true, decide_false, decide_eq_true_eq, cond_true, cond_false, Bool.and_true, Bool.and_false, Bool.true_and, Bool.false_and, f_iadd, f_isub, f_imul, f_ishl, f_ishr, f_iushr, f_iand, f_ior, f_idiv, f_irem, f_ineg, f_i2b, f_i2s, f_ladd, f_lmul, c_eq, c_ne, c_lt, c_ge, c_gt, c_le, cc_eq, cc_ne, cc_lt, cc_ge, cc_gt, cc_le, rfo, aof, csum, Value.category, List.take, List.drop, List.reverse, List.reverseAux, List.map, List.sum_cons, List.sum_nil, List.cons_append, List.nil_append, Option.toList, List.mem_cons, List.not_mem_nil, List.length_cons, List.length_nil, reduceIte, Nat.reduceEqDiff, Nat.reduceAdd, Nat.reduceLeDiff, Nat.reduceLT, a_day, Nat.zero_ne_one, Nat.one_ne_zero, false_and, and_false, true_and, and_true, or_false, false_or, or_true, true_or, not_true_eq_false, not_false_eq_true, Nat.zero_add, Nat.add_zero, Nat.le_refl, Nat.lt_irrefl, Nat.zero_lt_succ, Nat.zero_le, forall_const, List.cons.injEq, Value.int.injEq, Value.ref.injEq, Value.long.injEq, and_assoc, exists_and_left, exists_eq_left']
    try simp only [forall_eq]
    refine iE6 (16 - 0) _ _ _ ?_
    rw [hI6]
    exact ⟨rfl, 0, rfl, rfl, by omega, rfl⟩
def T_X6_tightest (g : WG) (as : List Value) (M : MM) (Q : Option Value → MM → Prop) : Prop := ∃ X D, as = [.ref 76] ∧ LKD M X D ∧ Q (some (.int (tgt X D 16))) M
set_option maxRecDepth 100000 in
set_option maxHeartbeats 1000000 in
theorem t_X6_tightest {l : Launch} {g : WG} (hg : Full g) : Ct l g yX6_tightest cX6_tightest 3 ((Option.some FieldType.int)) 1 (T_X6_tightest g) := by
  refine Ct.of (by decide) (fun as M Q h => ?_) (fun p e s m args below meth c as M Q h C => ?_)
  · obtain ⟨X, D, rfl, hl, h⟩ := h; exact ⟨by simp, by simp [Value.category]⟩
  · obtain ⟨X, D, rfl, hl, h⟩ := h
    obtain ⟨I4, hI4⟩ : ∃ I : Nat → PP, I = (fun n lv st M' => M' = M ∧ ∃ k, lv = [(0, .ref 76), (1, .int (tgt X D k)), (2, .int (nI k))] ∧ st = [] ∧ k ≤ 16 ∧ n = 16 - k) := ⟨_, rfl⟩
    obtain ⟨E4, hE4⟩ : ∃ E : PP, E = (fun lv st M => ∃ n, I4 n lv st M) := ⟨_, rfl⟩
    have iE4 : ∀ n lv st M, I4 n lv st M → E4 lv st M := fun n lv st M h => by rw [hE4]; exact ⟨n, h⟩
    have L4 : Sj p l e 1 s m args below meth c 3 g (MQ below (cQc g Q) args s 0 0 (gA g)) 4 E4 := by
      rw [hE4]
      refine s_ex (s_loop I4 (fun K4 k4 => WX6_tightest_4 C k4) ?_)
      intro n lv st M1 K4 hK4 hI; rw [hI4] at hI; obtain ⟨rfl, k, rfl, rfl, hk, rfl⟩ := hI
      unfold BX6_tightest_4
      simp only [i_const, i_lconst, i_iload, i_aload, i_lload, i_istore, i_astore, i_lstore, i_iinc, i_bin, i_div, i_un, i_i2l, i_l2i, i_lbin, i_lcmp, i_if, i_icmp, i_dup, i_dup_x1, i_dup2, i_pop, i_geti, i_getr, i_getd, i_puti, i_putz, i_putd, i_iald, i_bald, i_aald, i_iast, i_bast, i_alen, i_keep, i_ret, i_retz, i_reta, i_retl, i_retv, i_callv, i_callk, i_calls, i_mm, i_copy, i_under, i_undld, i_ldcs, i_sw, q_swc0, q_swc1, q_lg0, q_lg1, q_lent0, q_lent1, lset, lset2, q_lins0, q_lins1, q_ldel0, q_ldel1, q_ldel20, q_ldel21, q_lkeep0, q_lkeep1, q_memb0, q_memb1, cat2, Nat.reduceBEq, decide_true, decide_false, decide_eq_true_eq, cond_true, cond_false, Bool.and_true, Bool.and_false, Bool.true_and, Bool.false_and, f_iadd, f_isub, f_imul, f_ishl, f_ishr, f_iushr, f_iand, f_ior, f_idiv, f_irem, f_ineg, f_i2b, f_i2s, f_ladd, f_lmul, c_eq, c_ne, c_lt, c_ge, c_gt, c_le, cc_eq, cc_ne, cc_lt, cc_ge, cc_gt, cc_le, rfo, aof, csum, Value.category, List.take, List.drop, List.reverse, List.reverseAux, List.map, List.sum_cons, List.sum_nil, List.cons_append, List.nil_append, Option.toList, List.mem_cons, List.not_mem_nil, List.length_cons, List.length_nil, reduceIte, Nat.reduceEqDiff, Nat.reduceAdd, Nat.reduceLeDiff, Nat.reduceLT, a_day, Nat.zero_ne_one, Nat.one_ne_zero, false_and, and_false, true_and, and_true, or_false, false_or, or_true, true_or, not_true_eq_false, not_false_eq_true, Nat.zero_add, Nat.add_zero, Nat.le_refl, Nat.lt_irrefl, Nat.zero_lt_succ, Nat.zero_le, forall_const, List.cons.injEq, Value.int.injEq, Value.ref.injEq, Value.long.injEq, and_assoc, exists_and_left, exists_eq_left']
      try simp only [forall_eq]
      rw [show (16 : Int32) = nI 16 from rfl, nI_leI (by decide) (by omega)]
      refine ⟨fun z => ?_, fun z => ?_⟩
      · have hkk : k = 16 := by omega
        subst hkk
        exact h
      · have hlt : k < 16 := by omega
        have fin : ∀ x, x = tgt X D (k + 1) → K4 [(0, .ref 76), (1, .int x), (2, .int (nI (k + 1)))] [] M1 := by
          intro x hx
          subst hx
          refine hK4 (16 - (k + 1)) _ _ _ (by omega) ?_
          rw [hI4]
          exact ⟨rfl, k + 1, rfl, rfl, by omega, rfl⟩
        obtain ⟨-, b, c⟩ := hl k hlt
        rw [nI_clamp (by omega), b, nI_1]
        refine ⟨m_76 hg, m_91 hg, vm l_91 hlt (by decide), fun y => fin _ ?_, fun y => ?_⟩
        · simp [tgt, b2i_0.mp y]
        · have hb := Decidable.not_not.mp (fun q => y (b2i_f q))
          refine ⟨fun e => fin _ ?_, fun e => ?_⟩
          · simp only [tgt, hb, e, true_or, and_self, if_true]
          · rcases tgt_ok X D k with e2 | ⟨b', hb2, e2⟩
            · exact absurd e2 e
            · have hcl : (tgt X D k).toNatClampNeg = b' := by rw [e2, nI_clamp (by omega)]
              obtain ⟨-, -, c2⟩ := hl b' (by omega)
              refine ⟨m_76 hg, m_92 hg, vm l_92 hlt (by decide), m_76 hg, m_92 hg, by rw [e2]; exact vm l_92 (by omega) (by decide), ?_⟩
              rw [hcl, c, c2]
              refine ⟨fun z => fin _ ?_, fun z => fin _ ?_⟩
              · simp only [tgt, hb, true_and]
                rw [if_neg]
                rw [hcl]
                exact fun w => w.elim e (fun w => i_not_lt.mpr z w)
              · simp only [tgt, hb, true_and]
                rw [if_pos]
                rw [hcl]
                exact Or.inr (i_not_le.mp z)
    refine s_of (fun lv st M0 hs => ?_) (WX6_tightest_0 C L4)
    obtain ⟨rfl, rfl, rfl⟩ := hs
    unfold BX6_tightest_0
    simp only [i_const, i_lconst, i_iload, i_aload, i_lload, i_istore, i_astore, i_lstore, i_iinc, i_bin, i_div, i_un, i_i2l, i_l2i, i_lbin, i_lcmp, i_if, i_icmp, i_dup, i_dup_x1, i_dup2, i_pop, i_geti, i_getr, i_getd, i_puti, i_putz, i_putd, i_iald, i_bald, i_aald, i_iast, i_bast, i_alen, i_keep, i_ret, i_retz, i_reta, i_retl, i_retv, i_callv, i_callk, i_calls, i_mm, i_copy, i_under, i_undld, i_ldcs, i_sw, q_swc0, q_swc1, q_lg0, q_lg1, q_lent0, q_lent1, lset, lset2, q_lins0, q_lins1, q_ldel0, q_ldel1, q_ldel20, q_ldel21, q_lkeep0, q_lkeep1, q_memb0, q_memb1, cat2, Nat.reduceBEq, decide_true, decide_false, decide_eq_true_eq, cond_true, cond_false, Bool.and_true, Bool.and_false, Bool.true_and, Bool.false_and, f_iadd, f_isub, f_imul, f_ishl, f_ishr, f_iushr, f_iand, f_ior, f_idiv, f_irem, f_ineg, f_i2b, f_i2s, f_ladd, f_lmul, c_eq, c_ne, c_lt, c_ge, c_gt, c_le, cc_eq, cc_ne, cc_lt, cc_ge, cc_gt, cc_le, rfo, aof, csum, Value.category, List.take, List.drop, List.reverse, List.reverseAux, List.map, List.sum_cons, List.sum_nil, List.cons_append, List.nil_append, Option.toList, List.mem_cons, List.not_mem_nil, List.length_cons, List.length_nil, reduceIte, Nat.reduceEqDiff, Nat.reduceAdd, Nat.reduceLeDiff, Nat.reduceLT, a_day, Nat.zero_ne_one, Nat.one_ne_zero, false_and, and_false, true_and, and_true, or_false, false_or, or_true, true_or, not_true_eq_false, not_false_eq_true, Nat.zero_add, Nat.add_zero, Nat.le_refl, Nat.lt_irrefl, Nat.zero_lt_succ, Nat.zero_le, forall_const, List.cons.injEq, Value.int.injEq, Value.ref.injEq, Value.long.injEq, and_assoc, exists_and_left, exists_eq_left']
    try simp only [forall_eq]
    refine iE4 (16 - 0) _ _ _ ?_
    rw [hI4]
    exact ⟨rfl, 0, rfl, rfl, by omega, rfl⟩
def bsum (p : Nat → Bool) : Nat → Nat
  | 0 => 0
  | h + 1 => if p h then bsum p h ||| 2 ^ h else bsum p h
theorem bsum_bit (p : Nat → Bool) (j : Nat) : ∀ n, (bsum p n).testBit j = (decide (j < n) && p j)
  | 0 => by simp [bsum]
  | n + 1 => by
    simp only [bsum]
    by_cases e : j = n
    · subst e
      cases h : p j <;> simp [bsum_bit p j j, Nat.testBit_or, Nat.testBit_two_pow, h]
    · have : j < n + 1 ↔ j < n := by omega
      have e2 : ¬ n = j := fun q => e q.symm
      split <;> simp [bsum_bit p j n, Nat.testBit_or, Nat.testBit_two_pow, this, e2]
theorem bsum_eq {p : Nat → Bool} {m : Nat} (hm : m < 65536) (h : ∀ j, j < 16 → m.testBit j = p j) : bsum p 16 = m := by
  apply Nat.eq_of_testBit_eq
  intro j
  rw [bsum_bit]
  by_cases hj : j < 16
  · simp [hj, h j hj]
  · simp only [hj, decide_false, Bool.false_and]
    symm
    exact Nat.testBit_lt_two_pow (Nat.lt_of_lt_of_le hm (Nat.pow_le_pow_right (n := 2) (i := 16) (by decide) (by omega)))
theorem bsum_or {p : Nat → Bool} {h : Nat} (hh : h < 16) (hp : p h = true) : nI (bsum p h) ||| (1 <<< (nI h &&& 31)) = nI (bsum p (h + 1)) := by
  rw [one_shl h hh, or_nI]; simp only [bsum, hp, if_true]
def hrs (X : XV) (D : DV) (w : Int32) : Int32 := if w = 0 then wor X D else if w = 1 then nI (gmk D (dn D)) else if w = 2 then nI (emk D (dn D)) else if w = 3 then stm (gon D) 16 else if w = 4 then tgt X D 16 else -100000
def T_X6_hours (g : WG) (as : List Value) (M : MM) (Q : Option Value → MM → Prop) : Prop := ∃ w, as = [.ref 76, .int w] ∧ okM M ∧ ∀ M', Sm YL M M' → Q (some (.int (hrs (xm M) (dm M) w))) M'
set_option maxRecDepth 100000 in
set_option maxHeartbeats 1000000 in
theorem t_X6_hours {l : Launch} {g : WG} (hg : Full g) : Ct l g yX6_hours cX6_hours 5 ((Option.some FieldType.int)) 8 (T_X6_hours g) := by
  refine Ct.of (by decide) (fun as M Q h => ?_) (fun p e s m args below meth c as M Q h C => ?_)
  · obtain ⟨w, rfl, ho, h⟩ := h; exact ⟨by simp, by simp [Value.category]⟩
  · obtain ⟨w, rfl, ho, h⟩ := h
    obtain ⟨Tn, hwf, -⟩ := id ho
    have hE := emk_lt (n := dn (dm M)) (fun s hs => ⟨(hwf.2.2.1 s hs).2.2.1, (hwf.2.2.1 s hs).2.2.2.1⟩)
    have hEb := fun j hj => emk_bit (j := j) hj (n := dn (dm M)) (fun s hs => ⟨(hwf.2.2.1 s hs).2.2.1, (hwf.2.2.1 s hs).2.2.2.1⟩)
    have hG := gmk_16 hwf
    have hGb := fun j hj => gon_bit hwf (j := j) hj
    obtain ⟨I10, hI10⟩ : ∃ I : Nat → PP, I = (fun n lv st M' => ∃ k, lv = [(0, .ref 76), (1, .int w), (2, .int (wor (xm M) (dm M))), (3, .int (nI (bsum (fun j => if w = 1 then gon (dm M) j else edg (dm M) (dn (dm M)) j) k))), (4, .int (nI k))] ∧ st = [] ∧ k ≤ 16 ∧ n = 16 - k ∧ Sm YL M M' ∧ LKD M' (xm M) (dm M)) := ⟨_, rfl⟩
    obtain ⟨E10, hE10⟩ : ∃ E : PP, E = (fun lv st M => ∃ n, I10 n lv st M) := ⟨_, rfl⟩
    have iE10 : ∀ n lv st M, I10 n lv st M → E10 lv st M := fun n lv st M h => by rw [hE10]; exact ⟨n, h⟩
    have L10 : Sj p l e 8 s m args below meth c 5 g (MQ below (cQc g Q) args s 0 0 (gA g)) 10 E10 := by
      rw [hE10]
      refine s_ex (s_loop I10 (fun K10 k10 => WX6_hours_10 C (t_X6_worth hg) (by decide) (t_X6_stretch hg) (by decide) (t_X6_tightest hg) (by decide) k10) ?_)
      intro n lv st M1 K10 hK10 hI; rw [hI10] at hI; obtain ⟨k, rfl, rfl, hk, rfl, hs, hl⟩ := hI
      unfold BX6_hours_10
      generalize hB45 : BX6_hours_45 g Q (T_X6_worth g) (T_X6_stretch g) (T_X6_tightest g) K10 = B45
      generalize hB58 : BX6_hours_58 g Q (T_X6_worth g) (T_X6_stretch g) (T_X6_tightest g) K10 = B58
      simp only [T_X6_worth, T_X6_stretch, T_X6_tightest, i_const, i_lconst, i_iload, i_aload, i_lload, i_istore, i_astore, i_lstore, i_iinc, i_bin, i_div, i_un, i_i2l, i_l2i, i_lbin, i_lcmp, i_if, i_icmp, i_dup, i_dup_x1, i_dup2, i_pop, i_geti, i_getr, i_getd, i_puti, i_putz, i_putd, i_iald, i_bald, i_aald, i_iast, i_bast, i_alen, i_keep, i_ret, i_retz, i_reta, i_retl, i_retv, i_callv, i_callk, i_calls, i_mm, i_copy, i_under, i_undld, i_ldcs, i_sw, q_swc0, q_swc1, q_lg0, q_lg1, q_lent0, q_lent1, lset, lset2, q_lins0, q_lins1, q_ldel0, q_ldel1, q_ldel20, q_ldel21, q_lkeep0, q_lkeep1, q_memb0, q_memb1, cat2, Nat.reduceBEq, decide_true, decide_false, decide_eq_true_eq, cond_true, cond_false, Bool.and_true, Bool.and_false, Bool.true_and, Bool.false_and, f_iadd, f_isub, f_imul, f_ishl, f_ishr, f_iushr, f_iand, f_ior, f_idiv, f_irem, f_ineg, f_i2b, f_i2s, f_ladd, f_lmul, c_eq, c_ne, c_lt, c_ge, c_gt, c_le, cc_eq, cc_ne, cc_lt, cc_ge, cc_gt, cc_le, rfo, aof, csum, Value.category, List.take, List.drop, List.reverse, List.reverseAux, List.map, List.sum_cons, List.sum_nil, List.cons_append, List.nil_append, Option.toList, List.mem_cons, List.not_mem_nil, List.length_cons, List.length_nil, reduceIte, Nat.reduceEqDiff, Nat.reduceAdd, Nat.reduceLeDiff, Nat.reduceLT, a_day, Nat.zero_ne_one, Nat.one_ne_zero, false_and, and_false, true_and, and_true, or_false, false_or, or_true, true_or, not_true_eq_false, not_false_eq_true, Nat.zero_add, Nat.add_zero, Nat.le_refl, Nat.lt_irrefl, Nat.zero_lt_succ, Nat.zero_le, forall_const, List.cons.injEq, Value.int.injEq, Value.ref.injEq, Value.long.injEq, and_assoc, exists_and_left, exists_eq_left']
      try simp only [forall_eq]
      rw [show (16 : Int32) = nI 16 from rfl, nI_leI (by decide) (by omega)]
      generalize hp : (fun j => if w = 1 then gon (dm M) j else edg (dm M) (dn (dm M)) j) = p' at hI10 ⊢
      refine ⟨fun z => ?_, fun z => ?_⟩
      · have hkk : k = 16 := by omega
        subst hkk
        have hh := h M1 hs
        subst hB58
        unfold BX6_hours_58
        simp only [T_X6_worth, T_X6_stretch, T_X6_tightest, i_const, i_lconst, i_iload, i_aload, i_lload, i_istore, i_astore, i_lstore, i_iinc, i_bin, i_div, i_un, i_i2l, i_l2i, i_lbin, i_lcmp, i_if, i_icmp, i_dup, i_dup_x1, i_dup2, i_pop, i_geti, i_getr, i_getd, i_puti, i_putz, i_putd, i_iald, i_bald, i_aald, i_iast, i_bast, i_alen, i_keep, i_ret, i_retz, i_reta, i_retl, i_retv, i_callv, i_callk, i_calls, i_mm, i_copy, i_under, i_undld, i_ldcs, i_sw, q_swc0, q_swc1, q_lg0, q_lg1, q_lent0, q_lent1, lset, lset2, q_lins0, q_lins1, q_ldel0, q_ldel1, q_ldel20, q_ldel21, q_lkeep0, q_lkeep1, q_memb0, q_memb1, cat2, Nat.reduceBEq, decide_true, decide_false, decide_eq_true_eq, cond_true, cond_false, Bool.and_true, Bool.and_false, Bool.true_and, Bool.false_and, f_iadd, f_isub, f_imul, f_ishl, f_ishr, f_iushr, f_iand, f_ior, f_idiv, f_irem, f_ineg, f_i2b, f_i2s, f_ladd, f_lmul, c_eq, c_ne, c_lt, c_ge, c_gt, c_le, cc_eq, cc_ne, cc_lt, cc_ge, cc_gt, cc_le, rfo, aof, csum, Value.category, List.take, List.drop, List.reverse, List.reverseAux, List.map, List.sum_cons, List.sum_nil, List.cons_append, List.nil_append, Option.toList, List.mem_cons, List.not_mem_nil, List.length_cons, List.length_nil, reduceIte, Nat.reduceEqDiff, Nat.reduceAdd, Nat.reduceLeDiff, Nat.reduceLT, a_day, Nat.zero_ne_one, Nat.one_ne_zero, false_and, and_false, true_and, and_true, or_false, false_or, or_true, true_or, not_true_eq_false, not_false_eq_true, Nat.zero_add, Nat.add_zero, Nat.le_refl, Nat.lt_irrefl, Nat.zero_lt_succ, Nat.zero_le, forall_const, List.cons.injEq, Value.int.injEq, Value.ref.injEq, Value.long.injEq, and_assoc, exists_and_left, exists_eq_left']
        try simp only [forall_eq]
        unfold hrs at hh
        refine ⟨fun e => ?_, fun e0 => ⟨fun e => ?_, fun e1 => ⟨fun e => ?_, fun e2 => ⟨fun e => ?_, fun e3 => ⟨fun e => ?_, fun e4 => ?_⟩⟩⟩⟩⟩
        · rwa [if_pos e] at hh
        · rw [if_neg e0, if_pos e] at hh
          rw [bsum_eq hG (fun j hj => by rw [← hp, hGb j hj]; simp [e])]
          exact hh
        · rw [if_neg e0, if_neg e1, if_pos e] at hh
          rw [bsum_eq hE (fun j hj => by rw [← hp, hEb j hj]; simp [e1])]
          exact hh
        · rw [if_neg e0, if_neg e1, if_neg e2, if_pos e] at hh
          exact ⟨(m_76 hg).1, (m_76 hg).2.1, xm M, dm M, hl, hh⟩
        · rw [if_neg e0, if_neg e1, if_neg e2, if_neg e3, if_pos e] at hh
          exact ⟨(m_76 hg).1, (m_76 hg).2.1, xm M, dm M, hl, hh⟩
        · rw [if_neg e0, if_neg e1, if_neg e2, if_neg e3, if_neg e4] at hh
          exact hh
      · have hlt : k < 16 := by omega
        obtain ⟨a, b, -⟩ := hl k hlt
        have fin : ∀ x, x = nI (bsum p' (k + 1)) → K10 [(0, .ref 76), (1, .int w), (2, .int (wor (xm M) (dm M))), (3, .int x), (4, .int (nI (k + 1)))] [] M1 := by
          intro x hx
          subst hx
          refine hK10 (16 - (k + 1)) _ _ _ (by omega) ?_
          rw [hI10]
          exact ⟨k + 1, rfl, rfl, by omega, rfl, hs, hl⟩
        have fin2 : p' k = true → B45 [(0, .ref 76), (1, .int w), (2, .int (wor (xm M) (dm M))), (3, .int (nI (bsum p' k))), (4, .int (nI k))] [] M1 := by
          intro hx
          subst hB45
          unfold BX6_hours_45
          simp only [T_X6_worth, T_X6_stretch, T_X6_tightest, i_const, i_lconst, i_iload, i_aload, i_lload, i_istore, i_astore, i_lstore, i_iinc, i_bin, i_div, i_un, i_i2l, i_l2i, i_lbin, i_lcmp, i_if, i_icmp, i_dup, i_dup_x1, i_dup2, i_pop, i_geti, i_getr, i_getd, i_puti, i_putz, i_putd, i_iald, i_bald, i_aald, i_iast, i_bast, i_alen, i_keep, i_ret, i_retz, i_reta, i_retl, i_retv, i_callv, i_callk, i_calls, i_mm, i_copy, i_under, i_undld, i_ldcs, i_sw, q_swc0, q_swc1, q_lg0, q_lg1, q_lent0, q_lent1, lset, lset2, q_lins0, q_lins1, q_ldel0, q_ldel1, q_ldel20, q_ldel21, q_lkeep0, q_lkeep1, q_memb0, q_memb1, cat2, Nat.reduceBEq, decide_true, decide_false, decide_eq_true_eq, cond_true, cond_false, Bool.and_true, Bool.and_false, Bool.true_and, Bool.false_and, f_iadd, f_isub, f_imul, f_ishl, f_ishr, f_iushr, f_iand, f_ior, f_idiv, f_irem, f_ineg, f_i2b, f_i2s, f_ladd, f_lmul, c_eq, c_ne, c_lt, c_ge, c_gt, c_le, cc_eq, cc_ne, cc_lt, cc_ge, cc_gt, cc_le, rfo, aof, csum, Value.category, List.take, List.drop, List.reverse, List.reverseAux, List.map, List.sum_cons, List.sum_nil, List.cons_append, List.nil_append, Option.toList, List.mem_cons, List.not_mem_nil, List.length_cons, List.length_nil, reduceIte, Nat.reduceEqDiff, Nat.reduceAdd, Nat.reduceLeDiff, Nat.reduceLT, a_day, Nat.zero_ne_one, Nat.one_ne_zero, false_and, and_false, true_and, and_true, or_false, false_or, or_true, true_or, not_true_eq_false, not_false_eq_true, Nat.zero_add, Nat.add_zero, Nat.le_refl, Nat.lt_irrefl, Nat.zero_lt_succ, Nat.zero_le, forall_const, List.cons.injEq, Value.int.injEq, Value.ref.injEq, Value.long.injEq, and_assoc, exists_and_left, exists_eq_left']
          try simp only [forall_eq]
          rw [nI_1]
          exact fin _ (bsum_or hlt hx)
        have f0 : ¬ p' k = true → nI (bsum p' k) = nI (bsum p' (k + 1)) := fun q => by simp only [bsum, if_neg q]
        rw [nI_clamp (by omega), a, b, nI_1]
        refine ⟨fun e => ⟨m_76 hg, m_91 hg, vm l_91 hlt (by decide), fun y => fin _ (f0 ?_), fun y => fin2 ?_⟩, fun e => ⟨m_76 hg, m_90 hg, vm l_90 hlt (by decide), fun y => fin _ (f0 ?_), fun y => fin2 ?_⟩⟩
        · rw [← hp]; simp only [if_neg e]; exact b2i_0.mp y
        · rw [← hp]; simp only [if_neg e]; exact Decidable.not_not.mp (fun q => y (b2i_f q))
        · rw [← hp]; simp only [if_pos (Decidable.not_not.mp e)]; exact b2i_0.mp y
        · rw [← hp]; simp only [if_pos (Decidable.not_not.mp e)]; exact Decidable.not_not.mp (fun q => y (b2i_f q))
      
    refine s_of (fun lv st M0 hs => ?_) (WX6_hours_0 C (t_X6_worth hg) (by decide) (t_X6_stretch hg) (by decide) (t_X6_tightest hg) (by decide) L10)
    obtain ⟨rfl, rfl, rfl⟩ := hs
    unfold BX6_hours_0
    generalize hB4 : BX6_hours_4 g Q (T_X6_worth g) (T_X6_stretch g) (T_X6_tightest g) E10 = B4
    simp only [T_X6_worth, T_X6_stretch, T_X6_tightest, i_const, i_lconst, i_iload, i_aload, i_lload, i_istore, i_astore, i_lstore, i_iinc, i_bin, i_div, i_un, i_i2l, i_l2i, i_lbin, i_lcmp, i_if, i_icmp, i_dup, i_dup_x1, i_dup2, i_pop, i_geti, i_getr, i_getd, i_puti, i_putz, i_putd, i_iald, i_bald, i_aald, i_iast, i_bast, i_alen, i_keep, i_ret, i_retz, i_reta, i_retl, i_retv, i_callv, i_callk, i_calls, i_mm, i_copy, i_under, i_undld, i_ldcs, i_sw, q_swc0, q_swc1, q_lg0, q_lg1, q_lent0, q_lent1, lset, lset2, q_lins0, q_lins1, q_ldel0, q_ldel1, q_ldel20, q_ldel21, q_lkeep0, q_lkeep1, q_memb0, q_memb1, cat2, Nat.reduceBEq, decide_true, decide_false, decide_eq_true_eq, cond_true, cond_false, Bool.and_true, Bool.and_false, Bool.true_and, Bool.false_and, f_iadd, f_isub, f_imul, f_ishl, f_ishr, f_iushr, f_iand, f_ior, f_idiv, f_irem, f_ineg, f_i2b, f_i2s, f_ladd, f_lmul, c_eq, c_ne, c_lt, c_ge, c_gt, c_le, cc_eq, cc_ne, cc_lt, cc_ge, cc_gt, cc_le, rfo, aof, csum, Value.category, List.take, List.drop, List.reverse, List.reverseAux, List.map, List.sum_cons, List.sum_nil, List.cons_append, List.nil_append, Option.toList, List.mem_cons, List.not_mem_nil, List.length_cons, List.length_nil, reduceIte, Nat.reduceEqDiff, Nat.reduceAdd, Nat.reduceLeDiff, Nat.reduceLT, a_day, Nat.zero_ne_one, Nat.one_ne_zero, false_and, and_false, true_and, and_true, or_false, false_or, or_true, true_or, not_true_eq_false, not_false_eq_true, Nat.zero_add, Nat.add_zero, Nat.le_refl, Nat.lt_irrefl, Nat.zero_lt_succ, Nat.zero_le, forall_const, List.cons.injEq, Value.int.injEq, Value.ref.injEq, Value.long.injEq, and_assoc, exists_and_left, exists_eq_left']
    try simp only [forall_eq]
    refine ⟨(m_76 hg).1, (m_76 hg).2.1, ho, fun M1 hs1 hl1 => ?_⟩
    subst hB4
    unfold BX6_hours_4
    simp only [T_X6_worth, T_X6_stretch, T_X6_tightest, i_const, i_lconst, i_iload, i_aload, i_lload, i_istore, i_astore, i_lstore, i_iinc, i_bin, i_div, i_un, i_i2l, i_l2i, i_lbin, i_lcmp, i_if, i_icmp, i_dup, i_dup_x1, i_dup2, i_pop, i_geti, i_getr, i_getd, i_puti, i_putz, i_putd, i_iald, i_bald, i_aald, i_iast, i_bast, i_alen, i_keep, i_ret, i_retz, i_reta, i_retl, i_retv, i_callv, i_callk, i_calls, i_mm, i_copy, i_under, i_undld, i_ldcs, i_sw, q_swc0, q_swc1, q_lg0, q_lg1, q_lent0, q_lent1, lset, lset2, q_lins0, q_lins1, q_ldel0, q_ldel1, q_ldel20, q_ldel21, q_lkeep0, q_lkeep1, q_memb0, q_memb1, cat2, Nat.reduceBEq, decide_true, decide_false, decide_eq_true_eq, cond_true, cond_false, Bool.and_true, Bool.and_false, Bool.true_and, Bool.false_and, f_iadd, f_isub, f_imul, f_ishl, f_ishr, f_iushr, f_iand, f_ior, f_idiv, f_irem, f_ineg, f_i2b, f_i2s, f_ladd, f_lmul, c_eq, c_ne, c_lt, c_ge, c_gt, c_le, cc_eq, cc_ne, cc_lt, cc_ge, cc_gt, cc_le, rfo, aof, csum, Value.category, List.take, List.drop, List.reverse, List.reverseAux, List.map, List.sum_cons, List.sum_nil, List.cons_append, List.nil_append, Option.toList, List.mem_cons, List.not_mem_nil, List.length_cons, List.length_nil, reduceIte, Nat.reduceEqDiff, Nat.reduceAdd, Nat.reduceLeDiff, Nat.reduceLT, a_day, Nat.zero_ne_one, Nat.one_ne_zero, false_and, and_false, true_and, and_true, or_false, false_or, or_true, true_or, not_true_eq_false, not_false_eq_true, Nat.zero_add, Nat.add_zero, Nat.le_refl, Nat.lt_irrefl, Nat.zero_lt_succ, Nat.zero_le, forall_const, List.cons.injEq, Value.int.injEq, Value.ref.injEq, Value.long.injEq, and_assoc, exists_and_left, exists_eq_left']
    try simp only [forall_eq]
    refine iE10 (16 - 0) _ _ _ ?_
    rw [hI10]
    exact ⟨0, rfl, rfl, by omega, rfl, hs1, hl1⟩
