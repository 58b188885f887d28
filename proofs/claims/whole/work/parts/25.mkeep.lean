/-! ===== the model keeps a day and lays it back ===== -/
def T_X6_pass (g : WG) (as : List Value) (M : MM) (Q : Option Value → MM → Prop) : Prop := as = [.ref 76] ∧ okM M ∧ (M 76 0 = 999 → Q (some (.int (-3))) M) ∧ (¬ M 76 0 = 999 → ∀ M', Sm (YWn (dn (dm M))) M M' → dm M' = pasD (xm M) (dm M) → Q (some (.int (pasB (xm M) (dm M)))) M')
set_option maxRecDepth 100000 in
set_option maxHeartbeats 1000000 in
theorem t_X6_pass {l : Launch} {g : WG} (hg : Full g) : Ct l g yX6_pass cX6_pass 1 ((Option.some FieldType.int)) 6 (T_X6_pass g) := by
  refine Ct.of (by decide) (fun as M Q h => ?_) (fun p e s m args below meth c as M Q h C => ?_)
  · obtain ⟨rfl, ho, h1, h2⟩ := h; exact ⟨by simp, by simp [Value.category]⟩
  · obtain ⟨rfl, ho, h1, h2⟩ := h
    refine s_of (fun lv st M0 hs => ?_) (WX6_pass_0 C (t_X6_passes hg) (by decide))
    obtain ⟨rfl, rfl, rfl⟩ := hs
    unfold BX6_pass_0
    simp only [T_X6_passes, i_const, i_lconst, i_iload, i_aload, i_lload, i_istore, i_astore, i_lstore, i_iinc, i_bin, i_div, i_un, i_i2l, i_l2i, i_lbin, i_lcmp, i_if, i_icmp, i_dup, i_dup_x1, i_dup2, i_pop, i_geti, i_getr, i_getd, i_puti, i_putz, i_putd, i_iald, i_bald, i_aald, i_iast, i_bast, i_alen, i_keep, i_ret, i_retz, i_reta, i_retl, i_retv, i_callv, i_callk, i_calls, i_mm, i_copy, i_under, i_undld, i_ldcs, i_sw, q_swc0, q_swc1, q_lg0, q_lg1, q_lent0, q_lent1, lset, lset2, q_lins0, q_lins1, q_ldel0, q_ldel1, q_ldel20, q_ldel21, q_lkeep0, q_lkeep1, q_memb0, q_memb1, cat2, Nat.reduceBEq, decide_true, decide_false, decide_eq_true_eq, cond_true, cond_false, Bool.and_true, Bool.and_false, Bool.true_and, Bool.false_and, f_iadd, f_isub, f_imul, f_ishl, f_ishr, f_iushr, f_iand, f_ior, f_idiv, f_irem, f_ineg, f_i2b, f_i2s, f_ladd, f_lmul, c_eq, c_ne, c_lt, c_ge, c_gt, c_le, cc_eq, cc_ne, cc_lt, cc_ge, cc_gt, cc_le, rfo, aof, csum, Value.category, List.take, List.drop, List.reverse, List.reverseAux, List.map, List.sum_cons, List.sum_nil, List.cons_append, List.nil_append, Option.toList, List.mem_cons, List.not_mem_nil, List.length_cons, List.length_nil, reduceIte, Nat.reduceEqDiff, Nat.reduceAdd, Nat.reduceLeDiff, Nat.reduceLT, a_day, Nat.zero_ne_one, Nat.one_ne_zero, false_and, and_false, true_and, and_true, or_false, false_or, or_true, true_or, not_true_eq_false, not_false_eq_true, Nat.zero_add, Nat.add_zero, Nat.le_refl, Nat.lt_irrefl, Nat.zero_lt_succ, Nat.zero_le, forall_const, List.cons.injEq, Value.int.injEq, Value.ref.injEq, Value.long.injEq, and_assoc, exists_and_left, exists_eq_left']
    try simp only [forall_eq]
    exact ⟨m_76 hg, fun z => ⟨(m_76 hg).1, (m_76 hg).2.1, ho, h2 z⟩, fun z => h1 (Decidable.not_not.mp z)⟩
def YK (a b : Nat) : Prop := a = 93 ∨ a = 94 ∨ (a = 76 ∧ b = 32)
def YA (a b : Nat) : Prop := a = 82 ∨ a = 83 ∨ (a = 76 ∧ b = 0)
def T_X6_keeps (g : WG) (as : List Value) (M : MM) (Q : Option Value → MM → Prop) : Prop := as = [.ref 76] ∧ (∀ s, s < 7 → M 83 s = 0 ∨ M 83 s = 1) ∧ ∀ M', Sm YK M M' → M' 76 32 = M 76 0 → (∀ s, s < 7 → M' 93 s = M 82 s ∧ M' 94 s = M 83 s) → Q none M'
set_option maxRecDepth 100000 in
set_option maxHeartbeats 1000000 in
theorem t_X6_keeps {l : Launch} {g : WG} (hg : Full g) : Ct l g yX6_keeps cX6_keeps 2 ((Option.none : Option FieldType)) 1 (T_X6_keeps g) := by
  refine Ct.of (by decide) (fun as M Q h => ?_) (fun p e s m args below meth c as M Q h C => ?_)
  · obtain ⟨rfl, hz, h⟩ := h; exact ⟨by simp, by simp [Value.category]⟩
  · obtain ⟨rfl, hz, h⟩ := h
    obtain ⟨I10, hI10⟩ : ∃ I : Nat → PP, I = (fun n lv st M' => ∃ k, lv = [(0, .ref 76), (1, .int (nI k))] ∧ st = [] ∧ k ≤ 7 ∧ n = 7 - k ∧ Sm YK M M' ∧ M' 76 32 = M 76 0 ∧ ∀ s, s < k → M' 93 s = M 82 s ∧ M' 94 s = M 83 s) := ⟨_, rfl⟩
    obtain ⟨E10, hE10⟩ : ∃ E : PP, E = (fun lv st M => ∃ n, I10 n lv st M) := ⟨_, rfl⟩
    have iE10 : ∀ n lv st M, I10 n lv st M → E10 lv st M := fun n lv st M h => by rw [hE10]; exact ⟨n, h⟩
    have L10 : Sj p l e 1 s m args below meth c 2 g (MQ below (cQc g Q) args s 0 0 (gA g)) 10 E10 := by
      rw [hE10]
      refine s_ex (s_loop I10 (fun K10 k10 => WX6_keeps_10 C k10) ?_)
      intro n lv st M1 K10 hK10 hI; rw [hI10] at hI; obtain ⟨k, rfl, rfl, hk, rfl, hs, h32, hv⟩ := hI
      unfold BX6_keeps_10
      simp only [i_const, i_lconst, i_iload, i_aload, i_lload, i_istore, i_astore, i_lstore, i_iinc, i_bin, i_div, i_un, i_i2l, i_l2i, i_lbin, i_lcmp, i_if, i_icmp, i_dup, i_dup_x1, i_dup2, i_pop, i_geti, i_getr, i_getd, i_puti, i_putz, i_putd, i_iald, i_bald, i_aald, i_iast, i_bast, i_alen, i_keep, i_ret, i_retz, i_reta, i_retl, i_retv, i_callv, i_callk, i_calls, i_mm, i_copy, i_under, i_undld, i_ldcs, i_sw, q_swc0, q_swc1, q_lg0, q_lg1, q_lent0, q_lent1, lset, lset2, q_lins0, q_lins1, q_ldel0, q_ldel1, q_ldel20, q_ldel21, q_lkeep0, q_lkeep1, q_memb0, q_memb1, cat2, Nat.reduceBEq, decide_true, decide_false, decide_eq_true_eq, cond_true, cond_false, Bool.and_true, Bool.and_false, Bool.true_and, Bool.false_and, f_iadd, f_isub, f_imul, f_ishl, f_ishr, f_iushr, f_iand, f_ior, f_idiv, f_irem, f_ineg, f_i2b, f_i2s, f_ladd, f_lmul, c_eq, c_ne, c_lt, c_ge, c_gt, c_le, cc_eq, cc_ne, cc_lt, cc_ge, cc_gt, cc_le, rfo, aof, csum, Value.category, List.take, List.drop, List.reverse, List.reverseAux, List.map, List.sum_cons, List.sum_nil, List.cons_append, List.nil_append, Option.toList, List.mem_cons, List.not_mem_nil, List.length_cons, List.length_nil, reduceIte, Nat.reduceEqDiff, Nat.reduceAdd, Nat.reduceLeDiff, Nat.reduceLT, a_day, Nat.zero_ne_one, Nat.one_ne_zero, false_and, and_false, true_and, and_true, or_false, false_or, or_true, true_or, not_true_eq_false, not_false_eq_true, Nat.zero_add, Nat.add_zero, Nat.le_refl, Nat.lt_irrefl, Nat.zero_lt_succ, Nat.zero_le, forall_const, List.cons.injEq, Value.int.injEq, Value.ref.injEq, Value.long.injEq, and_assoc, exists_and_left, exists_eq_left']
      try simp only [forall_eq]
      rw [show (7 : Int32) = nI 7 from rfl, nI_leI (by decide) (by omega)]
      refine ⟨fun z => ?_, fun z => ?_⟩
      · have hkk : k = 7 := by omega
        subst hkk
        exact h M1 hs h32 hv
      · have hlt : k < 7 := by omega
        rw [nI_clamp (by omega), nI_1]
        have e82 : M1 82 k = M 82 k := hs _ _ (by unfold YK; omega)
        have e83 : M1 83 k = M 83 k := hs _ _ (by unfold YK; omega)
        rw [ms_q (by decide), e82, e83]
        refine ⟨m_76 hg, m_76 hg, m_82 hg, vm l_82 hlt (by decide), m_93 hg, vm l_93 hlt (by decide), m_76 hg, m_76 hg, m_83 hg, vm l_83 hlt (by decide), m_94 hg, hz k hlt, vm l_94 hlt (by decide), hK10 (7 - (k + 1)) _ _ _ (by omega) ?_⟩
        rw [hI10]
        refine ⟨k + 1, rfl, rfl, by omega, rfl, (hs.set _ (by unfold YK; omega)).set _ (by unfold YK; omega), ?_, fun s h1 => ?_⟩
        · rw [ms_q (by decide), ms_q (by decide)]; exact h32
        · simp only [mset_app]
          by_cases e : s = k
          · subst e; simp
          · obtain ⟨a, b⟩ := hv s (by omega)
            simp [e, a, b]
    refine s_of (fun lv st M0 hs => ?_) (WX6_keeps_0 C L10)
    obtain ⟨rfl, rfl, rfl⟩ := hs
    unfold BX6_keeps_0
    simp only [i_const, i_lconst, i_iload, i_aload, i_lload, i_istore, i_astore, i_lstore, i_iinc, i_bin, i_div, i_un, i_i2l, i_l2i, i_lbin, i_lcmp, i_if, i_icmp, i_dup, i_dup_x1, i_dup2, i_pop, i_geti, i_getr, i_getd, i_puti, i_putz, i_putd, i_iald, i_bald, i_aald, i_iast, i_bast, i_alen, i_keep, i_ret, i_retz, i_reta, i_retl, i_retv, i_callv, i_callk, i_calls, i_mm, i_copy, i_under, i_undld, i_ldcs, i_sw, q_swc0, q_swc1, q_lg0, q_lg1, q_lent0, q_lent1, lset, lset2, q_lins0, q_lins1, q_ldel0, q_ldel1, q_ldel20, q_ldel21, q_lkeep0, q_lkeep1, q_memb0, q_memb1, cat2, Nat.reduceBEq, decide_true, decide_false, decide_eq_true_eq, cond_true, cond_false, Bool.and_true, Bool.and_false, Bool.true_and, Bool.false_and, f_iadd, f_isub, f_imul, f_ishl, f_ishr, f_iushr, f_iand, f_ior, f_idiv, f_irem, f_ineg, f_i2b, f_i2s, f_ladd, f_lmul, c_eq, c_ne, c_lt, c_ge, c_gt, c_le, cc_eq, cc_ne, cc_lt, cc_ge, cc_gt, cc_le, rfo, aof, csum, Value.category, List.take, List.drop, List.reverse, List.reverseAux, List.map, List.sum_cons, List.sum_nil, List.cons_append, List.nil_append, Option.toList, List.mem_cons, List.not_mem_nil, List.length_cons, List.length_nil, reduceIte, Nat.reduceEqDiff, Nat.reduceAdd, Nat.reduceLeDiff, Nat.reduceLT, a_day, Nat.zero_ne_one, Nat.one_ne_zero, false_and, and_false, true_and, and_true, or_false, false_or, or_true, true_or, not_true_eq_false, not_false_eq_true, Nat.zero_add, Nat.add_zero, Nat.le_refl, Nat.lt_irrefl, Nat.zero_lt_succ, Nat.zero_le, forall_const, List.cons.injEq, Value.int.injEq, Value.ref.injEq, Value.long.injEq, and_assoc, exists_and_left, exists_eq_left']
    try simp only [forall_eq]
    refine ⟨m_76 hg, m_76 hg, ?_⟩
    refine iE10 (7 - 0) _ _ _ ?_
    rw [hI10]
    exact ⟨0, rfl, rfl, by omega, rfl, Sm.rf.set _ (by unfold YK; omega), ms_s _ _ _ _, fun s hs => absurd hs (by omega)⟩
def T_X6_again (g : WG) (as : List Value) (M : MM) (Q : Option Value → MM → Prop) : Prop := as = [.ref 76] ∧ (∀ s, s < 7 → M 94 s = 0 ∨ M 94 s = 1) ∧ ∀ M', Sm YA M M' → M' 76 0 = M 76 32 → (∀ s, s < 7 → M' 82 s = M 93 s ∧ M' 83 s = M 94 s) → Q none M'
set_option maxRecDepth 100000 in
set_option maxHeartbeats 1000000 in
theorem t_X6_again {l : Launch} {g : WG} (hg : Full g) : Ct l g yX6_again cX6_again 2 ((Option.none : Option FieldType)) 1 (T_X6_again g) := by
  refine Ct.of (by decide) (fun as M Q h => ?_) (fun p e s m args below meth c as M Q h C => ?_)
  · obtain ⟨rfl, hz, h⟩ := h; exact ⟨by simp, by simp [Value.category]⟩
  · obtain ⟨rfl, hz, h⟩ := h
    obtain ⟨I10, hI10⟩ : ∃ I : Nat → PP, I = (fun n lv st M' => ∃ k, lv = [(0, .ref 76), (1, .int (nI k))] ∧ st = [] ∧ k ≤ 7 ∧ n = 7 - k ∧ Sm YA M M' ∧ M' 76 0 = M 76 32 ∧ ∀ s, s < k → M' 82 s = M 93 s ∧ M' 83 s = M 94 s) := ⟨_, rfl⟩
    obtain ⟨E10, hE10⟩ : ∃ E : PP, E = (fun lv st M => ∃ n, I10 n lv st M) := ⟨_, rfl⟩
    have iE10 : ∀ n lv st M, I10 n lv st M → E10 lv st M := fun n lv st M h => by rw [hE10]; exact ⟨n, h⟩
    have L10 : Sj p l e 1 s m args below meth c 2 g (MQ below (cQc g Q) args s 0 0 (gA g)) 10 E10 := by
      rw [hE10]
      refine s_ex (s_loop I10 (fun K10 k10 => WX6_again_10 C k10) ?_)
      intro n lv st M1 K10 hK10 hI; rw [hI10] at hI; obtain ⟨k, rfl, rfl, hk, rfl, hs, h32, hv⟩ := hI
      unfold BX6_again_10
      simp only [i_const, i_lconst, i_iload, i_aload, i_lload, i_istore, i_astore, i_lstore, i_iinc, i_bin, i_div, i_un, i_i2l, i_l2i, i_lbin, i_lcmp, i_if, i_icmp, i_dup, i_dup_x1, i_dup2, i_pop, i_geti, i_getr, i_getd, i_puti, i_putz, i_putd, i_iald, i_bald, i_aald, i_iast, i_bast, i_alen, i_keep, i_ret, i_retz, i_reta, i_retl, i_retv, i_callv, i_callk, i_calls, i_mm, i_copy, i_under, i_undld, i_ldcs, i_sw, q_swc0, q_swc1, q_lg0, q_lg1, q_lent0, q_lent1, lset, lset2, q_lins0, q_lins1, q_ldel0, q_ldel1, q_ldel20, q_ldel21, q_lkeep0, q_lkeep1, q_memb0, q_memb1, cat2, Nat.reduceBEq, decide_true, decide_false, decide_eq_true_eq, cond_true, cond_false, Bool.and_true, Bool.and_false, Bool.true_and, Bool.false_and, f_iadd, f_isub, f_imul, f_ishl, f_ishr, f_iushr, f_iand, f_ior, f_idiv, f_irem, f_ineg, f_i2b, f_i2s, f_ladd, f_lmul, c_eq, c_ne, c_lt, c_ge, c_gt, c_le, cc_eq, cc_ne, cc_lt, cc_ge, cc_gt, cc_le, rfo, aof, csum, Value.category, List.take, List.drop, List.reverse, List.reverseAux, List.map, List.sum_cons, List.sum_nil, List.cons_append, List.nil_append, Option.toList, List.mem_cons, List.not_mem_nil, List.length_cons, List.length_nil, reduceIte, Nat.reduceEqDiff, Nat.reduceAdd, Nat.reduceLeDiff, Nat.reduceLT, a_day, Nat.zero_ne_one, Nat.one_ne_zero, false_and, and_false, true_and, and_true, or_false, false_or, or_true, true_or, not_true_eq_false, not_false_eq_true, Nat.zero_add, Nat.add_zero, Nat.le_refl, Nat.lt_irrefl, Nat.zero_lt_succ, Nat.zero_le, forall_const, List.cons.injEq, Value.int.injEq, Value.ref.injEq, Value.long.injEq, and_assoc, exists_and_left, exists_eq_left']
      try simp only [forall_eq]
      rw [show (7 : Int32) = nI 7 from rfl, nI_leI (by decide) (by omega)]
      refine ⟨fun z => ?_, fun z => ?_⟩
      · have hkk : k = 7 := by omega
        subst hkk
        exact h M1 hs h32 hv
      · have hlt : k < 7 := by omega
        rw [nI_clamp (by omega), nI_1]
        have e93 : M1 93 k = M 93 k := hs _ _ (by unfold YA; omega)
        have e94 : M1 94 k = M 94 k := hs _ _ (by unfold YA; omega)
        rw [ms_q (by decide), e93, e94]
        refine ⟨m_76 hg, m_76 hg, m_93 hg, vm l_93 hlt (by decide), m_82 hg, vm l_82 hlt (by decide), m_76 hg, m_76 hg, m_94 hg, vm l_94 hlt (by decide), m_83 hg, hz k hlt, vm l_83 hlt (by decide), hK10 (7 - (k + 1)) _ _ _ (by omega) ?_⟩
        rw [hI10]
        refine ⟨k + 1, rfl, rfl, by omega, rfl, (hs.set _ (by unfold YA; omega)).set _ (by unfold YA; omega), ?_, fun s h1 => ?_⟩
        · rw [ms_q (by decide), ms_q (by decide)]; exact h32
        · simp only [mset_app]
          by_cases e : s = k
          · subst e; simp
          · obtain ⟨a, b⟩ := hv s (by omega)
            simp [e, a, b]
    refine s_of (fun lv st M0 hs => ?_) (WX6_again_0 C L10)
    obtain ⟨rfl, rfl, rfl⟩ := hs
    unfold BX6_again_0
    simp only [i_const, i_lconst, i_iload, i_aload, i_lload, i_istore, i_astore, i_lstore, i_iinc, i_bin, i_div, i_un, i_i2l, i_l2i, i_lbin, i_lcmp, i_if, i_icmp, i_dup, i_dup_x1, i_dup2, i_pop, i_geti, i_getr, i_getd, i_puti, i_putz, i_putd, i_iald, i_bald, i_aald, i_iast, i_bast, i_alen, i_keep, i_ret, i_retz, i_reta, i_retl, i_retv, i_callv, i_callk, i_calls, i_mm, i_copy, i_under, i_undld, i_ldcs, i_sw, q_swc0, q_swc1, q_lg0, q_lg1, q_lent0, q_lent1, lset, lset2, q_lins0, q_lins1, q_ldel0, q_ldel1, q_ldel20, q_ldel21, q_lkeep0, q_lkeep1, q_memb0, q_memb1, cat2, Nat.reduceBEq, decide_true, decide_false, decide_eq_true_eq, cond_true, cond_false, Bool.and_true, Bool.and_false, Bool.true_and, Bool.false_and, f_iadd, f_isub, f_imul, f_ishl, f_ishr, f_iushr, f_iand, f_ior, f_idiv, f_irem, f_ineg, f_i2b, f_i2s, f_ladd, f_lmul, c_eq, c_ne, c_lt, c_ge, c_gt, c_le, cc_eq, cc_ne, cc_lt, cc_ge, cc_gt, cc_le, rfo, aof, csum, Value.category, List.take, List.drop, List.reverse, List.reverseAux, List.map, List.sum_cons, List.sum_nil, List.cons_append, List.nil_append, Option.toList, List.mem_cons, List.not_mem_nil, List.length_cons, List.length_nil, reduceIte, Nat.reduceEqDiff, Nat.reduceAdd, Nat.reduceLeDiff, Nat.reduceLT, a_day, Nat.zero_ne_one, Nat.one_ne_zero, false_and, and_false, true_and, and_true, or_false, false_or, or_true, true_or, not_true_eq_false, not_false_eq_true, Nat.zero_add, Nat.add_zero, Nat.le_refl, Nat.lt_irrefl, Nat.zero_lt_succ, Nat.zero_le, forall_const, List.cons.injEq, Value.int.injEq, Value.ref.injEq, Value.long.injEq, and_assoc, exists_and_left, exists_eq_left']
    try simp only [forall_eq]
    refine ⟨m_76 hg, m_76 hg, ?_⟩
    refine iE10 (7 - 0) _ _ _ ?_
    rw [hI10]
    exact ⟨0, rfl, rfl, by omega, rfl, Sm.rf.set _ (by unfold YA; omega), ms_s _ _ _ _, fun s hs => absurd hs (by omega)⟩
def T_X6_newSeam (g : WG) (as : List Value) (M : MM) (Q : Option Value → MM → Prop) : Prop := ∃ a b c d s, as = [.ref 76, .int a, .int b, .int c, .int d] ∧ M 76 2 = nI s ∧ s < 7 ∧ Q (some (.int (nI s))) (mset (mset (mset (mset (mset (mset (mset M 78 s a) 79 s b) 80 s c) 81 s d) 82 s 0) 83 s 0) 76 2 (nI s + 1))
set_option maxRecDepth 100000 in
set_option maxHeartbeats 1000000 in
theorem t_X6_newSeam {l : Launch} {g : WG} (hg : Full g) : Ct l g yX6_newSeam cX6_newSeam 5 ((Option.some FieldType.int)) 1 (T_X6_newSeam g) := by
  refine Ct.of (by decide) (fun as M Q h => ?_) (fun p e s m args below meth c as M Q h C => ?_)
  · obtain ⟨a, b, c', d, s0, rfl, h2, hs, h⟩ := h; exact ⟨by simp, by simp [Value.category]⟩
  · obtain ⟨a, b, c', d, s0, rfl, h2, hs, h⟩ := h
    refine s_of (fun lv st M0 hs => ?_) (WX6_newSeam_0 C)
    obtain ⟨rfl, rfl, rfl⟩ := hs
    unfold BX6_newSeam_0
    simp only [i_const, i_lconst, i_iload, i_aload, i_lload, i_istore, i_astore, i_lstore, i_iinc, i_bin, i_div, i_un, i_i2l, i_l2i, i_lbin, i_lcmp, i_if, i_icmp, i_dup, i_dup_x1, i_dup2, i_pop, i_geti, i_getr, i_getd, i_puti, i_putz, i_putd, i_iald, i_bald, i_aald, i_iast, i_bast, i_alen, i_keep, i_ret, i_retz, i_reta, i_retl, i_retv, i_callv, i_callk, i_calls, i_mm, i_copy, i_under, i_undld, i_ldcs, i_sw, q_swc0, q_swc1, q_lg0, q_lg1, q_lent0, q_lent1, lset, lset2, q_lins0, q_lins1, q_ldel0, q_ldel1, q_ldel20, q_ldel21, q_lkeep0, q_lkeep1, q_memb0, q_memb1, cat2, Nat.reduceBEq, decide_true, decide_false, decide_eq_true_eq, cond_true, cond_false, Bool.and_true, Bool.and_false, Bool.true_and, Bool.false_and, f_iadd, f_isub, f_imul, f_ishl, f_ishr, f_iushr, f_iand, f_ior, f_idiv, f_irem, f_ineg, f_i2b, f_i2s, f_ladd, f_lmul, c_eq, c_ne, c_lt, c_ge, c_gt, c_le, cc_eq, cc_ne, cc_lt, cc_ge, cc_gt, cc_le, rfo, aof, csum, Value.category, List.take, List.drop, List.reverse, List.reverseAux, List.map, List.sum_cons, List.sum_nil, List.cons_append, List.nil_append, Option.toList, List.mem_cons, List.not_mem_nil, List.length_cons, List.length_nil, reduceIte, Nat.reduceEqDiff, Nat.reduceAdd, Nat.reduceLeDiff, Nat.reduceLT, a_day, Nat.zero_ne_one, Nat.one_ne_zero, false_and, and_false, true_and, and_true, or_false, false_or, or_true, true_or, not_true_eq_false, not_false_eq_true, Nat.zero_add, Nat.add_zero, Nat.le_refl, Nat.lt_irrefl, Nat.zero_lt_succ, Nat.zero_le, forall_const, List.cons.injEq, Value.int.injEq, Value.ref.injEq, Value.long.injEq, and_assoc, exists_and_left, exists_eq_left']
    try simp only [forall_eq]
    have q78 : ∀ {M : MM} {j : Nat} {x : Int32}, mset M 78 j x 76 2 = M 76 2 := ms_q (by decide)
    have q79 : ∀ {M : MM} {j : Nat} {x : Int32}, mset M 79 j x 76 2 = M 76 2 := ms_q (by decide)
    have q80 : ∀ {M : MM} {j : Nat} {x : Int32}, mset M 80 j x 76 2 = M 76 2 := ms_q (by decide)
    have q81 : ∀ {M : MM} {j : Nat} {x : Int32}, mset M 81 j x 76 2 = M 76 2 := ms_q (by decide)
    have q82 : ∀ {M : MM} {j : Nat} {x : Int32}, mset M 82 j x 76 2 = M 76 2 := ms_q (by decide)
    have q83 : ∀ {M : MM} {j : Nat} {x : Int32}, mset M 83 j x 76 2 = M 76 2 := ms_q (by decide)
    simp only [q78, q79, q80, q81, q82, q83, h2, nI_clamp (show s0 < 2 ^ 31 by omega)]
    exact ⟨m_76 hg, m_76 hg, m_78 hg, vm l_78 hs (by decide), m_76 hg, m_76 hg, m_79 hg, vm l_79 hs (by decide), m_76 hg, m_76 hg, m_80 hg, vm l_80 hs (by decide), m_76 hg, m_76 hg, m_81 hg, vm l_81 hs (by decide), m_76 hg, m_76 hg, m_82 hg, vm l_82 hs (by decide), m_76 hg, m_76 hg, m_83 hg, vm l_83 hs (by decide), m_76 hg, m_76 hg, h⟩
    
