/-! ===== set, seam, told, feed, force: the model ===== -/
def isOfN (n : Nat) (w o : Int32) : Prop := w = 0 ∨ (w = 1 ∧ 0 ≤ o ∧ o ≤ 15) ∨ ((2 ≤ w ∧ w ≤ 4) ∧ 0 ≤ o ∧ o < nI n)
def isFitA (w v : Int32) : Prop := (w = 0 ∧ 0 ≤ v ∧ v ≤ 999) ∨ (w = 1 ∧ -99 ≤ v ∧ v ≤ 99) ∨ (w = 2 ∧ 0 ≤ v ∧ v ≤ 9) ∨ (w = 3 ∧ 0 ≤ v ∧ v ≤ 9999) ∨ (¬ w = 0 ∧ ¬ w = 1 ∧ ¬ w = 2 ∧ ¬ w = 3 ∧ 0 ≤ v ∧ v ≤ 1)
/-- what is told of 0 .. 4 -/
def getA (D : DV) (w o : Int32) : Int32 := if w = 0 then D 7 1 else if w = 1 then D 0 o.toNatClampNeg else if w = 2 then D 2 o.toNatClampNeg else if w = 3 then D 5 o.toNatClampNeg else D 6 o.toNatClampNeg
def setD (D : DV) (w o v : Int32) : DV := if w = 0 then upF D 7 1 v else if w = 1 then upF D 0 o.toNatClampNeg v else if w = 2 then upF D 2 o.toNatClampNeg v else if w = 3 then upF D 5 o.toNatClampNeg v else upF D 6 o.toNatClampNeg v
def T_X6_isOf (g : WG) (as : List Value) (M : MM) (Q : Option Value → MM → Prop) : Prop := ∃ w o n, as = [.ref 76, .int w, .int o] ∧ n < 100 ∧ M 76 2 = nI n ∧ ((isOfN n w o → Q (some (.int 1)) M) ∧ (¬ isOfN n w o → Q (some (.int 0)) M))
set_option maxRecDepth 100000 in
set_option maxHeartbeats 1000000 in
theorem t_X6_isOf {l : Launch} {g : WG} (hg : Full g) : Ct l g yX6_isOf cX6_isOf 3 ((Option.some FieldType.boolean)) 3 (T_X6_isOf g) := by
  refine Ct.of (by decide) (fun as M Q h => ?_) (fun p e s m args below meth c as M Q h C => ?_)
  · obtain ⟨w, o, n, rfl, hn, h2, h1, h0⟩ := h; exact ⟨by simp, by simp [Value.category]⟩
  · obtain ⟨w, o, n, rfl, hn, h2, h1, h0⟩ := h
    refine s_of (fun lv st M0 hs => ?_) (WX6_isOf_0 C (t_X6_within hg) (by decide) (t_X6_isHour hg) (by decide) (t_X6_isSeam hg) (by decide))
    obtain ⟨rfl, rfl, rfl⟩ := hs
    unfold BX6_isOf_0
    generalize hB13 : BX6_isOf_13 g Q (T_X6_within g) (T_X6_isHour g) (T_X6_isSeam g) = B13
    generalize hB25 : BX6_isOf_25 g Q (T_X6_within g) (T_X6_isHour g) (T_X6_isSeam g) = B25
    simp only [T_X6_within, T_X6_isHour, T_X6_isSeam, i_const, i_lconst, i_iload, i_aload, i_lload, i_istore, i_astore, i_lstore, i_iinc, i_bin, i_div, i_un, i_i2l, i_l2i, i_lbin, i_lcmp, i_if, i_icmp, i_dup, i_dup_x1, i_dup2, i_pop, i_geti, i_getr, i_getd, i_puti, i_putz, i_putd, i_iald, i_bald, i_aald, i_iast, i_bast, i_alen, i_keep, i_ret, i_retz, i_reta, i_retl, i_retv, i_callv, i_callk, i_calls, i_mm, i_copy, i_under, i_undld, i_ldcs, i_sw, q_swc0, q_swc1, q_lg0, q_lg1, q_lent0, q_lent1, lset, lset2, q_lins0, q_lins1, q_ldel0, q_ldel1, q_ldel20, q_ldel21, q_lkeep0, q_lkeep1, q_memb0, q_memb1, cat2, Nat.reduceBEq, decide_true, decide_false, decide_eq_true_eq, cond_true, cond_false, Bool.and_true, Bool.and_false, Bool.true_and, Bool.false_and, f_iadd, f_isub, f_imul, f_ishl, f_ishr, f_iushr, f_iand, f_ior, f_idiv, f_irem, f_ineg, f_i2b, f_i2s, f_ladd, f_lmul, c_eq, c_ne, c_lt, c_ge, c_gt, c_le, cc_eq, cc_ne, cc_lt, cc_ge, cc_gt, cc_le, rfo, aof, csum, Value.category, List.take, List.drop, List.reverse, List.reverseAux, List.map, List.sum_cons, List.sum_nil, List.cons_append, List.nil_append, Option.toList, List.mem_cons, List.not_mem_nil, List.length_cons, List.length_nil, reduceIte, Nat.reduceEqDiff, Nat.reduceAdd, Nat.reduceLeDiff, Nat.reduceLT, a_day, Nat.zero_ne_one, Nat.one_ne_zero, false_and, and_false, true_and, and_true, or_false, false_or, or_true, true_or, not_true_eq_false, not_false_eq_true, Nat.zero_add, Nat.add_zero, Nat.le_refl, Nat.lt_irrefl, Nat.zero_lt_succ, Nat.zero_le, forall_const, List.cons.injEq, Value.int.injEq, Value.ref.injEq, Value.long.injEq, and_assoc, exists_and_left, exists_eq_left']
    try simp only [forall_eq]
    refine ⟨fun e0 => h1 (Or.inl e0), fun e0 => ⟨fun e1 => ?_, fun e1 => ?_⟩⟩
    · subst hB25
      unfold BX6_isOf_25
      generalize hB33 : BX6_isOf_33 g Q (T_X6_within g) (T_X6_isHour g) (T_X6_isSeam g) = B33
      simp only [T_X6_within, T_X6_isHour, T_X6_isSeam, i_const, i_lconst, i_iload, i_aload, i_lload, i_istore, i_astore, i_lstore, i_iinc, i_bin, i_div, i_un, i_i2l, i_l2i, i_lbin, i_lcmp, i_if, i_icmp, i_dup, i_dup_x1, i_dup2, i_pop, i_geti, i_getr, i_getd, i_puti, i_putz, i_putd, i_iald, i_bald, i_aald, i_iast, i_bast, i_alen, i_keep, i_ret, i_retz, i_reta, i_retl, i_retv, i_callv, i_callk, i_calls, i_mm, i_copy, i_under, i_undld, i_ldcs, i_sw, q_swc0, q_swc1, q_lg0, q_lg1, q_lent0, q_lent1, lset, lset2, q_lins0, q_lins1, q_ldel0, q_ldel1, q_ldel20, q_ldel21, q_lkeep0, q_lkeep1, q_memb0, q_memb1, cat2, Nat.reduceBEq, decide_true, decide_false, decide_eq_true_eq, cond_true, cond_false, Bool.and_true, Bool.and_false, Bool.true_and, Bool.false_and, f_iadd, f_isub, f_imul, f_ishl, f_ishr, f_iushr, f_iand, f_ior, f_idiv, f_irem, f_ineg, f_i2b, f_i2s, f_ladd, f_lmul, c_eq, c_ne, c_lt, c_ge, c_gt, c_le, cc_eq, cc_ne, cc_lt, cc_ge, cc_gt, cc_le, rfo, aof, csum, Value.category, List.take, List.drop, List.reverse, List.reverseAux, List.map, List.sum_cons, List.sum_nil, List.cons_append, List.nil_append, Option.toList, List.mem_cons, List.not_mem_nil, List.length_cons, List.length_nil, reduceIte, Nat.reduceEqDiff, Nat.reduceAdd, Nat.reduceLeDiff, Nat.reduceLT, a_day, Nat.zero_ne_one, Nat.one_ne_zero, false_and, and_false, true_and, and_true, or_false, false_or, or_true, true_or, not_true_eq_false, not_false_eq_true, Nat.zero_add, Nat.add_zero, Nat.le_refl, Nat.lt_irrefl, Nat.zero_lt_succ, Nat.zero_le, forall_const, List.cons.injEq, Value.int.injEq, Value.ref.injEq, Value.long.injEq, and_assoc, exists_and_left, exists_eq_left']
      try simp only [forall_eq]
      refine ⟨fun z => h0 (fun q => q.elim e0 (fun q => q.elim (fun q => e1 q.1) (fun q => b2n z q.1))), fun z => ⟨(m_76 hg).1, (m_76 hg).2.1, n, hn, h2, ?_⟩⟩
      subst hB33
      unfold BX6_isOf_33
      simp only [T_X6_within, T_X6_isHour, T_X6_isSeam, i_const, i_lconst, i_iload, i_aload, i_lload, i_istore, i_astore, i_lstore, i_iinc, i_bin, i_div, i_un, i_i2l, i_l2i, i_lbin, i_lcmp, i_if, i_icmp, i_dup, i_dup_x1, i_dup2, i_pop, i_geti, i_getr, i_getd, i_puti, i_putz, i_putd, i_iald, i_bald, i_aald, i_iast, i_bast, i_alen, i_keep, i_ret, i_retz, i_reta, i_retl, i_retv, i_callv, i_callk, i_calls, i_mm, i_copy, i_under, i_undld, i_ldcs, i_sw, q_swc0, q_swc1, q_lg0, q_lg1, q_lent0, q_lent1, lset, lset2, q_lins0, q_lins1, q_ldel0, q_ldel1, q_ldel20, q_ldel21, q_lkeep0, q_lkeep1, q_memb0, q_memb1, cat2, Nat.reduceBEq, decide_true, decide_false, decide_eq_true_eq, cond_true, cond_false, Bool.and_true, Bool.and_false, Bool.true_and, Bool.false_and, f_iadd, f_isub, f_imul, f_ishl, f_ishr, f_iushr, f_iand, f_ior, f_idiv, f_irem, f_ineg, f_i2b, f_i2s, f_ladd, f_lmul, c_eq, c_ne, c_lt, c_ge, c_gt, c_le, cc_eq, cc_ne, cc_lt, cc_ge, cc_gt, cc_le, rfo, aof, csum, Value.category, List.take, List.drop, List.reverse, List.reverseAux, List.map, List.sum_cons, List.sum_nil, List.cons_append, List.nil_append, Option.toList, List.mem_cons, List.not_mem_nil, List.length_cons, List.length_nil, reduceIte, Nat.reduceEqDiff, Nat.reduceAdd, Nat.reduceLeDiff, Nat.reduceLT, a_day, Nat.zero_ne_one, Nat.one_ne_zero, false_and, and_false, true_and, and_true, or_false, false_or, or_true, true_or, not_true_eq_false, not_false_eq_true, Nat.zero_add, Nat.add_zero, Nat.le_refl, Nat.lt_irrefl, Nat.zero_lt_succ, Nat.zero_le, forall_const, List.cons.injEq, Value.int.injEq, Value.ref.injEq, Value.long.injEq, and_assoc, exists_and_left, exists_eq_left']
      try simp only [forall_eq]
      exact ⟨fun y => h0 (fun q => q.elim e0 (fun q => q.elim (fun q => e1 q.1) (fun q => b2n y q.2))), fun y => h1 (Or.inr (Or.inr ⟨b2t z, b2t y⟩))⟩
    · have e1 := Decidable.not_not.mp e1
      subst hB13
      unfold BX6_isOf_13
      simp only [T_X6_within, T_X6_isHour, T_X6_isSeam, i_const, i_lconst, i_iload, i_aload, i_lload, i_istore, i_astore, i_lstore, i_iinc, i_bin, i_div, i_un, i_i2l, i_l2i, i_lbin, i_lcmp, i_if, i_icmp, i_dup, i_dup_x1, i_dup2, i_pop, i_geti, i_getr, i_getd, i_puti, i_putz, i_putd, i_iald, i_bald, i_aald, i_iast, i_bast, i_alen, i_keep, i_ret, i_retz, i_reta, i_retl, i_retv, i_callv, i_callk, i_calls, i_mm, i_copy, i_under, i_undld, i_ldcs, i_sw, q_swc0, q_swc1, q_lg0, q_lg1, q_lent0, q_lent1, lset, lset2, q_lins0, q_lins1, q_ldel0, q_ldel1, q_ldel20, q_ldel21, q_lkeep0, q_lkeep1, q_memb0, q_memb1, cat2, Nat.reduceBEq, decide_true, decide_false, decide_eq_true_eq, cond_true, cond_false, Bool.and_true, Bool.and_false, Bool.true_and, Bool.false_and, f_iadd, f_isub, f_imul, f_ishl, f_ishr, f_iushr, f_iand, f_ior, f_idiv, f_irem, f_ineg, f_i2b, f_i2s, f_ladd, f_lmul, c_eq, c_ne, c_lt, c_ge, c_gt, c_le, cc_eq, cc_ne, cc_lt, cc_ge, cc_gt, cc_le, rfo, aof, csum, Value.category, List.take, List.drop, List.reverse, List.reverseAux, List.map, List.sum_cons, List.sum_nil, List.cons_append, List.nil_append, Option.toList, List.mem_cons, List.not_mem_nil, List.length_cons, List.length_nil, reduceIte, Nat.reduceEqDiff, Nat.reduceAdd, Nat.reduceLeDiff, Nat.reduceLT, a_day, Nat.zero_ne_one, Nat.one_ne_zero, false_and, and_false, true_and, and_true, or_false, false_or, or_true, true_or, not_true_eq_false, not_false_eq_true, Nat.zero_add, Nat.add_zero, Nat.le_refl, Nat.lt_irrefl, Nat.zero_lt_succ, Nat.zero_le, forall_const, List.cons.injEq, Value.int.injEq, Value.ref.injEq, Value.long.injEq, and_assoc, exists_and_left, exists_eq_left']
      try simp only [forall_eq]
      refine ⟨fun y => h0 (fun q => q.elim e0 (fun q => q.elim (fun q => b2n y q.2) (fun q => ?_))), fun y => h1 (Or.inr (Or.inl ⟨e1, b2t y⟩))⟩
      rw [e1] at q
      exact absurd q.1.1 (by decide)
def T_X6_isFit (g : WG) (as : List Value) (M : MM) (Q : Option Value → MM → Prop) : Prop := ∃ w v, as = [.int w, .int v] ∧ (isFitA w v → Q (some (.int 1)) M) ∧ (¬ isFitA w v → Q (some (.int 0)) M)
set_option maxRecDepth 100000 in
set_option maxHeartbeats 1000000 in
theorem t_X6_isFit {l : Launch} {g : WG} (hg : Full g) : Ct l g yX6_isFit cX6_isFit 2 ((Option.some FieldType.boolean)) 2 (T_X6_isFit g) := by
  refine Ct.of (by decide) (fun as M Q h => ?_) (fun p e s m args below meth c as M Q h C => ?_)
  · obtain ⟨w, v, rfl, h1, h0⟩ := h; exact ⟨by simp, by simp [Value.category]⟩
  · obtain ⟨w, v, rfl, h1, h0⟩ := h
    refine s_of (fun lv st M0 hs => ?_) (WX6_isFit_0 C (t_X6_within hg) (by decide))
    obtain ⟨rfl, rfl, rfl⟩ := hs
    unfold BX6_isFit_0
    simp only [T_X6_within, i_const, i_lconst, i_iload, i_aload, i_lload, i_istore, i_astore, i_lstore, i_iinc, i_bin, i_div, i_un, i_i2l, i_l2i, i_lbin, i_lcmp, i_if, i_icmp, i_dup, i_dup_x1, i_dup2, i_pop, i_geti, i_getr, i_getd, i_puti, i_putz, i_putd, i_iald, i_bald, i_aald, i_iast, i_bast, i_alen, i_keep, i_ret, i_retz, i_reta, i_retl, i_retv, i_callv, i_callk, i_calls, i_mm, i_copy, i_under, i_undld, i_ldcs, i_sw, q_swc0, q_swc1, q_lg0, q_lg1, q_lent0, q_lent1, lset, lset2, q_lins0, q_lins1, q_ldel0, q_ldel1, q_ldel20, q_ldel21, q_lkeep0, q_lkeep1, q_memb0, q_memb1, cat2, Nat.reduceBEq, decide_true, decide_false, decide_eq_true_eq, cond_true, cond_false, Bool.and_true, Bool.and_false, Bool.true_and, Bool.false_and, f_iadd, f_isub, f_imul, f_ishl, f_ishr, f_iushr, f_iand, f_ior, f_idiv, f_irem, f_ineg, f_i2b, f_i2s, f_ladd, f_lmul, c_eq, c_ne, c_lt, c_ge, c_gt, c_le, cc_eq, cc_ne, cc_lt, cc_ge, cc_gt, cc_le, rfo, aof, csum, Value.category, List.take, List.drop, List.reverse, List.reverseAux, List.map, List.sum_cons, List.sum_nil, List.cons_append, List.nil_append, Option.toList, List.mem_cons, List.not_mem_nil, List.length_cons, List.length_nil, reduceIte, Nat.reduceEqDiff, Nat.reduceAdd, Nat.reduceLeDiff, Nat.reduceLT, a_day, Nat.zero_ne_one, Nat.one_ne_zero, false_and, and_false, true_and, and_true, or_false, false_or, or_true, true_or, not_true_eq_false, not_false_eq_true, Nat.zero_add, Nat.add_zero, Nat.le_refl, Nat.lt_irrefl, Nat.zero_lt_succ, Nat.zero_le, forall_const, List.cons.injEq, Value.int.injEq, Value.ref.injEq, Value.long.injEq, and_assoc, exists_and_left, exists_eq_left']
    try simp only [forall_eq]
    have fin : ∀ (p : Prop) [Decidable p], (p ↔ isFitA w v) → Q (some (.int (b2i p))) M0 := by
      intro p _ hp
      by_cases c : p
      · rw [b2i_t c]; exact h1 (hp.mp c)
      · rw [b2i_f c]; exact h0 (fun q => c (hp.mpr q))
    refine ⟨fun e => ⟨b2i_z _, fin _ ?_⟩, fun e0 => ⟨fun e => ⟨b2i_z _, fin _ ?_⟩, fun e1 => ⟨fun e => ⟨b2i_z _, fin _ ?_⟩, fun e2 => ⟨fun e => ⟨b2i_z _, fin _ ?_⟩, fun e3 => ⟨b2i_z _, fin _ ?_⟩⟩⟩⟩⟩
    · subst e; simp [isFitA]
    · subst e; simp [isFitA]
    · subst e; simp [isFitA]
    · subst e; simp [isFitA]
    · simp [isFitA, e0, e1, e2, e3]
def T_X6_get (g : WG) (as : List Value) (M : MM) (Q : Option Value → MM → Prop) : Prop := ∃ w o, as = [.ref 76, .int w, .int o] ∧ okM M ∧ isOfN (dn (dm M)) w o ∧ Q (some (.int (getA (dm M) w o))) M
set_option maxRecDepth 100000 in
set_option maxHeartbeats 1000000 in
theorem t_X6_get {l : Launch} {g : WG} (hg : Full g) : Ct l g yX6_get cX6_get 3 ((Option.some FieldType.int)) 1 (T_X6_get g) := by
  refine Ct.of (by decide) (fun as M Q h => ?_) (fun p e s m args below meth c as M Q h C => ?_)
  · obtain ⟨w, o, rfl, ho, hof, h⟩ := h; exact ⟨by simp, by simp [Value.category]⟩
  · obtain ⟨w, o, rfl, ho, hof, h⟩ := h
    have hn := ho.n
    have ix : ∀ N, N < 100 → 0 ≤ o → o < nI N → ∃ k, k < N ∧ o = nI k := fun N hN h1 h2 => by
      obtain ⟨k, hk, e⟩ := nI_of (i_not_lt.mpr h1)
      rw [e] at h2
      exact ⟨k, (nI_ltI hk (by omega)).mp h2, e⟩
    have ix2 : 0 ≤ o → o ≤ 15 → ∃ k, k < 16 ∧ o = nI k := fun h1 h2 => by
      obtain ⟨k, hk, e⟩ := nI_of (i_not_lt.mpr h1)
      rw [e] at h2
      exact ⟨k, by have := (nI_leI (b := 15) hk (by decide)).mp h2; omega, e⟩
    refine s_of (fun lv st M0 hs => ?_) (WX6_get_0 C)
    obtain ⟨rfl, rfl, rfl⟩ := hs
    unfold BX6_get_0
    simp only [i_const, i_lconst, i_iload, i_aload, i_lload, i_istore, i_astore, i_lstore, i_iinc, i_bin, i_div, i_un, i_i2l, i_l2i, i_lbin, i_lcmp, i_if, i_icmp, i_dup, i_dup_x1, i_dup2, i_pop, i_geti, i_getr, i_getd, i_puti, i_putz, i_putd, i_iald, i_bald, i_aald, i_iast, i_bast, i_alen, i_keep, i_ret, i_retz, i_reta, i_retl, i_retv, i_callv, i_callk, i_calls, i_mm, i_copy, i_under, i_undld, i_ldcs, i_sw, q_swc0, q_swc1, q_lg0, q_lg1, q_lent0, q_lent1, lset, lset2, q_lins0, q_lins1, q_ldel0, q_ldel1, q_ldel20, q_ldel21, q_lkeep0, q_lkeep1, q_memb0, q_memb1, cat2, Nat.reduceBEq, decide_true, decide_false, decide_eq_true_eq, cond_true, cond_false, Bool.and_true, Bool.and_false, Bool.true_and, Bool.false_and, f_iadd, f_isub, f_imul, f_ishl, f_ishr, f_iushr, f_iand, f_ior, f_idiv, f_irem, f_ineg, f_i2b, f_i2s, f_ladd, f_lmul, c_eq, c_ne, c_lt, c_ge, c_gt, c_le, cc_eq, cc_ne, cc_lt, cc_ge, cc_gt, cc_le, rfo, aof, csum, Value.category, List.take, List.drop, List.reverse, List.reverseAux, List.map, List.sum_cons, List.sum_nil, List.cons_append, List.nil_append, Option.toList, List.mem_cons, List.not_mem_nil, List.length_cons, List.length_nil, reduceIte, Nat.reduceEqDiff, Nat.reduceAdd, Nat.reduceLeDiff, Nat.reduceLT, a_day, Nat.zero_ne_one, Nat.one_ne_zero, false_and, and_false, true_and, and_true, or_false, false_or, or_true, true_or, not_true_eq_false, not_false_eq_true, Nat.zero_add, Nat.add_zero, Nat.le_refl, Nat.lt_irrefl, Nat.zero_lt_succ, Nat.zero_le, forall_const, List.cons.injEq, Value.int.injEq, Value.ref.injEq, Value.long.injEq, and_assoc, exists_and_left, exists_eq_left']
    try simp only [forall_eq]
    unfold getA at h
    refine ⟨fun e => ?_, fun e0 => ⟨fun e => ?_, fun e1 => ⟨fun e => ?_, fun e2 => ⟨fun e => ?_, fun e3 => ?_⟩⟩⟩⟩
    · rw [if_pos e] at h
      exact ⟨m_76 hg, h⟩
    · rw [if_neg e0, if_pos e] at h
      have : 0 ≤ o ∧ o ≤ 15 := by
        rcases hof with q | q | q
        · exact absurd q e0
        · exact q.2
        · rw [e] at q; exact absurd q.1.1 (by decide)
      obtain ⟨k, hk, rfl⟩ := ix2 this.1 this.2
      rw [nI_clamp (by omega)] at h ⊢
      rw [dm_0 M0 hk] at h
      exact ⟨m_76 hg, m_77 hg, vm l_77 hk (by decide), h⟩
    · rw [if_neg e0, if_neg e1, if_pos e] at h
      have : 0 ≤ o ∧ o < nI (dn (dm M0)) := by
        rcases hof with q | q | q
        · exact absurd q e0
        · exact absurd q.1 e1
        · exact q.2
      obtain ⟨k, hk, rfl⟩ := ix _ (by omega) this.1 this.2
      rw [nI_clamp (by omega)] at h ⊢
      rw [dm_s 2 (by decide) (by decide) hk] at h
      exact ⟨m_76 hg, m_79 hg, vm l_79 (by omega) (by decide), h⟩
    · rw [if_neg e0, if_neg e1, if_neg e2, if_pos e] at h
      have : 0 ≤ o ∧ o < nI (dn (dm M0)) := by
        rcases hof with q | q | q
        · exact absurd q e0
        · exact absurd q.1 e1
        · exact q.2
      obtain ⟨k, hk, rfl⟩ := ix _ (by omega) this.1 this.2
      rw [nI_clamp (by omega)] at h ⊢
      rw [dm_s 5 (by decide) (by decide) hk] at h
      exact ⟨m_76 hg, m_82 hg, vm l_82 (by omega) (by decide), h⟩
    · rw [if_neg e0, if_neg e1, if_neg e2, if_neg e3] at h
      have : 0 ≤ o ∧ o < nI (dn (dm M0)) := by
        rcases hof with q | q | q
        · exact absurd q e0
        · exact absurd q.1 e1
        · exact q.2
      obtain ⟨k, hk, rfl⟩ := ix _ (by omega) this.1 this.2
      obtain ⟨-, -, -, -, -, w6, -⟩ := ho.seam hk
      rw [nI_clamp (by omega)] at h ⊢
      rw [dm_s 6 (by decide) (by decide) hk] at h w6
      refine ⟨m_76 hg, m_83 hg, vm l_83 (by omega) (by decide), fun y => ?_, fun y => ?_⟩
      · rw [y] at h; exact h
      · rcases w6 with q | q
        · exact absurd q y
        · rw [q] at h; exact h
def T_X6_set (g : WG) (as : List Value) (M : MM) (Q : Option Value → MM → Prop) : Prop := ∃ w o v, as = [.ref 76, .int w, .int o, .int v] ∧ okM M ∧ zM M ∧ (¬ (isOfN (dn (dm M)) w o ∧ isFitA w v) → Q (some (.int (-1000))) M) ∧ (isOfN (dn (dm M)) w o → isFitA w v → ∀ M', Sm (fun a b => a = 77 ∨ a = 79 ∨ a = 82 ∨ a = 83 ∨ (a = 76 ∧ b = 0)) M M' → dm M' = setD (dm M) w o v → zM M' → Q (some (.int (getA (dm M) w o))) M')
set_option maxRecDepth 100000 in
set_option maxHeartbeats 1000000 in
theorem t_X6_set {l : Launch} {g : WG} (hg : Full g) : Ct l g yX6_set cX6_set 5 ((Option.some FieldType.int)) 4 (T_X6_set g) := by
  refine Ct.of (by decide) (fun as M Q h => ?_) (fun p e s m args below meth c as M Q h C => ?_)
  · obtain ⟨w, o, v, rfl, ho, hz, hb, h⟩ := h; exact ⟨by simp, by simp [Value.category]⟩
  · obtain ⟨w, o, v, rfl, ho, hz, hb, h⟩ := h
    have hn := ho.n
    have hmany := ho.many
    have ix : ∀ N, N < 100 → 0 ≤ o → o < nI N → ∃ k, k < N ∧ o = nI k := fun N hN h1 h2 => by
      obtain ⟨k, hk, e⟩ := nI_of (i_not_lt.mpr h1)
      rw [e] at h2
      exact ⟨k, (nI_ltI hk (by omega)).mp h2, e⟩
    have ix2 : 0 ≤ o → o ≤ 15 → ∃ k, k < 16 ∧ o = nI k := fun h1 h2 => by
      obtain ⟨k, hk, e⟩ := nI_of (i_not_lt.mpr h1)
      rw [e] at h2
      exact ⟨k, by have := (nI_leI (b := 15) hk (by decide)).mp h2; omega, e⟩
    refine s_of (fun lv st M0 hs => ?_) (WX6_set_0 C (t_X6_isOf hg) (by decide) (t_X6_isFit hg) (by decide) (t_X6_get hg) (by decide))
    obtain ⟨rfl, rfl, rfl⟩ := hs
    unfold BX6_set_0
    generalize hB6 : BX6_set_6 g Q (T_X6_isOf g) (T_X6_isFit g) (T_X6_get g) = B6
    simp only [T_X6_isOf, T_X6_isFit, T_X6_get, i_const, i_lconst, i_iload, i_aload, i_lload, i_istore, i_astore, i_lstore, i_iinc, i_bin, i_div, i_un, i_i2l, i_l2i, i_lbin, i_lcmp, i_if, i_icmp, i_dup, i_dup_x1, i_dup2, i_pop, i_geti, i_getr, i_getd, i_puti, i_putz, i_putd, i_iald, i_bald, i_aald, i_iast, i_bast, i_alen, i_keep, i_ret, i_retz, i_reta, i_retl, i_retv, i_callv, i_callk, i_calls, i_mm, i_copy, i_under, i_undld, i_ldcs, i_sw, q_swc0, q_swc1, q_lg0, q_lg1, q_lent0, q_lent1, lset, lset2, q_lins0, q_lins1, q_ldel0, q_ldel1, q_ldel20, q_ldel21, q_lkeep0, q_lkeep1, q_memb0, q_memb1, cat2, Nat.reduceBEq, decide_true, decide_false, decide_eq_true_eq, cond_true, cond_false, Bool.and_true, Bool.and_false, Bool.true_and, Bool.false_and, f_iadd, f_isub, f_imul, f_ishl, f_ishr, f_iushr, f_iand, f_ior, f_idiv, f_irem, f_ineg, f_i2b, f_i2s, f_ladd, f_lmul, c_eq, c_ne, c_lt, c_ge, c_gt, c_le, cc_eq, cc_ne, cc_lt, cc_ge, cc_gt, cc_le, rfo, aof, csum, Value.category, List.take, List.drop, List.reverse, List.reverseAux, List.map, List.sum_cons, List.sum_nil, List.cons_append, List.nil_append, Option.toList, List.mem_cons, List.not_mem_nil, List.length_cons, List.length_nil, reduceIte, Nat.reduceEqDiff, Nat.reduceAdd, Nat.reduceLeDiff, Nat.reduceLT, a_day, Nat.zero_ne_one, Nat.one_ne_zero, false_and, and_false, true_and, and_true, or_false, false_or, or_true, true_or, not_true_eq_false, not_false_eq_true, Nat.zero_add, Nat.add_zero, Nat.le_refl, Nat.lt_irrefl, Nat.zero_lt_succ, Nat.zero_le, forall_const, List.cons.injEq, Value.int.injEq, Value.ref.injEq, Value.long.injEq, and_assoc, exists_and_left, exists_eq_left']
    try simp only [forall_eq]
    refine ⟨(m_76 hg).1, (m_76 hg).2.1, dn (dm M0), by omega, hmany, fun c1 => ?_, fun c1 => ?_⟩
    · subst hB6
      unfold BX6_set_6
      generalize hB14 : BX6_set_14 g Q (T_X6_isOf g) (T_X6_isFit g) (T_X6_get g) = B14
      simp only [T_X6_isOf, T_X6_isFit, T_X6_get, i_const, i_lconst, i_iload, i_aload, i_lload, i_istore, i_astore, i_lstore, i_iinc, i_bin, i_div, i_un, i_i2l, i_l2i, i_lbin, i_lcmp, i_if, i_icmp, i_dup, i_dup_x1, i_dup2, i_pop, i_geti, i_getr, i_getd, i_puti, i_putz, i_putd, i_iald, i_bald, i_aald, i_iast, i_bast, i_alen, i_keep, i_ret, i_retz, i_reta, i_retl, i_retv, i_callv, i_callk, i_calls, i_mm, i_copy, i_under, i_undld, i_ldcs, i_sw, q_swc0, q_swc1, q_lg0, q_lg1, q_lent0, q_lent1, lset, lset2, q_lins0, q_lins1, q_ldel0, q_ldel1, q_ldel20, q_ldel21, q_lkeep0, q_lkeep1, q_memb0, q_memb1, cat2, Nat.reduceBEq, decide_true, decide_false, decide_eq_true_eq, cond_true, cond_false, Bool.and_true, Bool.and_false, Bool.true_and, Bool.false_and, f_iadd, f_isub, f_imul, f_ishl, f_ishr, f_iushr, f_iand, f_ior, f_idiv, f_irem, f_ineg, f_i2b, f_i2s, f_ladd, f_lmul, c_eq, c_ne, c_lt, c_ge, c_gt, c_le, cc_eq, cc_ne, cc_lt, cc_ge, cc_gt, cc_le, rfo, aof, csum, Value.category, List.take, List.drop, List.reverse, List.reverseAux, List.map, List.sum_cons, List.sum_nil, List.cons_append, List.nil_append, Option.toList, List.mem_cons, List.not_mem_nil, List.length_cons, List.length_nil, reduceIte, Nat.reduceEqDiff, Nat.reduceAdd, Nat.reduceLeDiff, Nat.reduceLT, a_day, Nat.zero_ne_one, Nat.one_ne_zero, false_and, and_false, true_and, and_true, or_false, false_or, or_true, true_or, not_true_eq_false, not_false_eq_true, Nat.zero_add, Nat.add_zero, Nat.le_refl, Nat.lt_irrefl, Nat.zero_lt_succ, Nat.zero_le, forall_const, List.cons.injEq, Value.int.injEq, Value.ref.injEq, Value.long.injEq, and_assoc, exists_and_left, exists_eq_left']
      try simp only [forall_eq]
      refine ⟨fun z => absurd z (by decide), fun _ => ⟨fun c2 => ?_, fun c2 => ?_⟩⟩
      · subst hB14
        unfold BX6_set_14
        generalize hB27 : BX6_set_27 g Q (T_X6_isOf g) (T_X6_isFit g) (T_X6_get g) = B27
        simp only [T_X6_isOf, T_X6_isFit, T_X6_get, i_const, i_lconst, i_iload, i_aload, i_lload, i_istore, i_astore, i_lstore, i_iinc, i_bin, i_div, i_un, i_i2l, i_l2i, i_lbin, i_lcmp, i_if, i_icmp, i_dup, i_dup_x1, i_dup2, i_pop, i_geti, i_getr, i_getd, i_puti, i_putz, i_putd, i_iald, i_bald, i_aald, i_iast, i_bast, i_alen, i_keep, i_ret, i_retz, i_reta, i_retl, i_retv, i_callv, i_callk, i_calls, i_mm, i_copy, i_under, i_undld, i_ldcs, i_sw, q_swc0, q_swc1, q_lg0, q_lg1, q_lent0, q_lent1, lset, lset2, q_lins0, q_lins1, q_ldel0, q_ldel1, q_ldel20, q_ldel21, q_lkeep0, q_lkeep1, q_memb0, q_memb1, cat2, Nat.reduceBEq, decide_true, decide_false, decide_eq_true_eq, cond_true, cond_false, Bool.and_true, Bool.and_false, Bool.true_and, Bool.false_and, f_iadd, f_isub, f_imul, f_ishl, f_ishr, f_iushr, f_iand, f_ior, f_idiv, f_irem, f_ineg, f_i2b, f_i2s, f_ladd, f_lmul, c_eq, c_ne, c_lt, c_ge, c_gt, c_le, cc_eq, cc_ne, cc_lt, cc_ge, cc_gt, cc_le, rfo, aof, csum, Value.category, List.take, List.drop, List.reverse, List.reverseAux, List.map, List.sum_cons, List.sum_nil, List.cons_append, List.nil_append, Option.toList, List.mem_cons, List.not_mem_nil, List.length_cons, List.length_nil, reduceIte, Nat.reduceEqDiff, Nat.reduceAdd, Nat.reduceLeDiff, Nat.reduceLT, a_day, Nat.zero_ne_one, Nat.one_ne_zero, false_and, and_false, true_and, and_true, or_false, false_or, or_true, true_or, not_true_eq_false, not_false_eq_true, Nat.zero_add, Nat.add_zero, Nat.le_refl, Nat.lt_irrefl, Nat.zero_lt_succ, Nat.zero_le, forall_const, List.cons.injEq, Value.int.injEq, Value.ref.injEq, Value.long.injEq, and_assoc, exists_and_left, exists_eq_left']
        try simp only [forall_eq]
        refine ⟨fun _ => ⟨(m_76 hg).1, (m_76 hg).2.1, ho, c1, ?_⟩, fun z => absurd (by decide) z⟩
        have h := h c1 c2
        unfold setD at h
        subst hB27
        unfold BX6_set_27
        simp only [T_X6_isOf, T_X6_isFit, T_X6_get, i_const, i_lconst, i_iload, i_aload, i_lload, i_istore, i_astore, i_lstore, i_iinc, i_bin, i_div, i_un, i_i2l, i_l2i, i_lbin, i_lcmp, i_if, i_icmp, i_dup, i_dup_x1, i_dup2, i_pop, i_geti, i_getr, i_getd, i_puti, i_putz, i_putd, i_iald, i_bald, i_aald, i_iast, i_bast, i_alen, i_keep, i_ret, i_retz, i_reta, i_retl, i_retv, i_callv, i_callk, i_calls, i_mm, i_copy, i_under, i_undld, i_ldcs, i_sw, q_swc0, q_swc1, q_lg0, q_lg1, q_lent0, q_lent1, lset, lset2, q_lins0, q_lins1, q_ldel0, q_ldel1, q_ldel20, q_ldel21, q_lkeep0, q_lkeep1, q_memb0, q_memb1, cat2, Nat.reduceBEq, decide_true, decide_false, decide_eq_true_eq, cond_true, cond_false, Bool.and_true, Bool.and_false, Bool.true_and, Bool.false_and, f_iadd, f_isub, f_imul, f_ishl, f_ishr, f_iushr, f_iand, f_ior, f_idiv, f_irem, f_ineg, f_i2b, f_i2s, f_ladd, f_lmul, c_eq, c_ne, c_lt, c_ge, c_gt, c_le, cc_eq, cc_ne, cc_lt, cc_ge, cc_gt, cc_le, rfo, aof, csum, Value.category, List.take, List.drop, List.reverse, List.reverseAux, List.map, List.sum_cons, List.sum_nil, List.cons_append, List.nil_append, Option.toList, List.mem_cons, List.not_mem_nil, List.length_cons, List.length_nil, reduceIte, Nat.reduceEqDiff, Nat.reduceAdd, Nat.reduceLeDiff, Nat.reduceLT, a_day, Nat.zero_ne_one, Nat.one_ne_zero, false_and, and_false, true_and, and_true, or_false, false_or, or_true, true_or, not_true_eq_false, not_false_eq_true, Nat.zero_add, Nat.add_zero, Nat.le_refl, Nat.lt_irrefl, Nat.zero_lt_succ, Nat.zero_le, forall_const, List.cons.injEq, Value.int.injEq, Value.ref.injEq, Value.long.injEq, and_assoc, exists_and_left, exists_eq_left']
        try simp only [forall_eq]
        refine ⟨fun e0 => ⟨fun e1 => ⟨fun e2 => ⟨fun e3 => ?_, fun e3 => ?_⟩, fun e2 => ?_⟩, fun e1 => ?_⟩, fun e0 => ?_⟩
        · have : 0 ≤ o ∧ o < nI (dn (dm M0)) := by
            rcases c1 with q | q | q
            · exact absurd q e0
            · exact absurd q.1 e1
            · exact q.2
          obtain ⟨k, hk, rfl⟩ := ix _ (by omega) this.1 this.2
          rw [nI_clamp (by omega)] at h ⊢
          rw [if_neg e0, if_neg e1, if_neg e2, if_neg e3] at h
          have zz : ∀ x : Int32, (x = 0 ∨ x = 1) → zM (mset M0 83 k x) := fun x hx s hs => by
            rw [mset_app, if_pos rfl]; split
            · exact hx
            · exact hz s hs
          have hv : v = 0 ∨ v = 1 := by
            rcases c2 with q | q | q | q | q
            · exact absurd q.1 e0
            · exact absurd q.1 e1
            · exact absurd q.1 e2
            · exact absurd q.1 e3
            · obtain ⟨j, hj, ej⟩ := nI_of (i_not_lt.mpr q.2.2.2.2.1)
              have q2 := q.2.2.2.2.2
              rw [ej] at q2
              have := (nI_leI (b := 1) hj (by decide)).mp q2
              have : j = 0 ∨ j = 1 := by omega
              rcases this with rfl | rfl
              · exact Or.inl ej
              · exact Or.inr ej
          refine ⟨m_76 hg, fun y => ⟨m_83 hg, vm l_83 (by omega) (by decide), ?_⟩, fun y => ⟨m_83 hg, vm l_83 (by omega) (by decide), ?_⟩⟩
          · have : v = 0 := hv.elim id (fun q => absurd q y)
            subst this
            exact h _ (Sm.rf.set _ (by omega)) (dm_set (f := 6) (by decide) (by decide) hk) (zz 0 (Or.inl rfl))
          · have : v = 1 := Decidable.not_not.mp y
            subst this
            exact h _ (Sm.rf.set _ (by omega)) (dm_set (f := 6) (by decide) (by decide) hk) (zz 1 (Or.inr rfl))
        · have e3 := Decidable.not_not.mp e3
          have : 0 ≤ o ∧ o < nI (dn (dm M0)) := by
            rcases c1 with q | q | q
            · exact absurd q e0
            · exact absurd q.1 e1
            · exact q.2
          obtain ⟨k, hk, rfl⟩ := ix _ (by omega) this.1 this.2
          rw [nI_clamp (by omega)] at h ⊢
          rw [if_neg e0, if_neg e1, if_neg e2, if_pos e3] at h
          exact ⟨m_76 hg, m_82 hg, vm l_82 (by omega) (by decide), h _ (Sm.rf.set _ (by omega)) (dm_set (f := 5) (by decide) (by decide) hk) (fun s hs => by rw [ms_q (by decide)]; exact hz s hs)⟩
        · have e2 := Decidable.not_not.mp e2
          have : 0 ≤ o ∧ o < nI (dn (dm M0)) := by
            rcases c1 with q | q | q
            · exact absurd q e0
            · exact absurd q.1 e1
            · exact q.2
          obtain ⟨k, hk, rfl⟩ := ix _ (by omega) this.1 this.2
          rw [nI_clamp (by omega)] at h ⊢
          rw [if_neg e0, if_neg e1, if_pos e2] at h
          exact ⟨m_76 hg, m_79 hg, vm l_79 (by omega) (by decide), h _ (Sm.rf.set _ (by omega)) (dm_set (f := 2) (by decide) (by decide) hk) (fun s hs => by rw [ms_q (by decide)]; exact hz s hs)⟩
        · have e1 := Decidable.not_not.mp e1
          have : 0 ≤ o ∧ o ≤ 15 := by
            rcases c1 with q | q | q
            · exact absurd q e0
            · exact q.2
            · rw [e1] at q; exact absurd q.1.1 (by decide)
          obtain ⟨k, hk, rfl⟩ := ix2 this.1 this.2
          rw [nI_clamp (by omega)] at h ⊢
          rw [if_neg e0, if_pos e1] at h
          exact ⟨m_76 hg, m_77 hg, vm l_77 (by omega) (by decide), h _ (Sm.rf.set _ (by omega)) (dm_setj hk) (fun s hs => by rw [ms_q (by decide)]; exact hz s hs)⟩
        · have e0 := Decidable.not_not.mp e0
          rw [if_pos e0] at h
          exact ⟨m_76 hg, h _ (Sm.rf.set _ (by omega)) dm_set0 (fun s hs => by rw [ms_q (by decide)]; exact hz s hs)⟩
      · subst hB14
        unfold BX6_set_14
        generalize hB27 : BX6_set_27 g Q (T_X6_isOf g) (T_X6_isFit g) (T_X6_get g) = B27
        simp only [T_X6_isOf, T_X6_isFit, T_X6_get, i_const, i_lconst, i_iload, i_aload, i_lload, i_istore, i_astore, i_lstore, i_iinc, i_bin, i_div, i_un, i_i2l, i_l2i, i_lbin, i_lcmp, i_if, i_icmp, i_dup, i_dup_x1, i_dup2, i_pop, i_geti, i_getr, i_getd, i_puti, i_putz, i_putd, i_iald, i_bald, i_aald, i_iast, i_bast, i_alen, i_keep, i_ret, i_retz, i_reta, i_retl, i_retv, i_callv, i_callk, i_calls, i_mm, i_copy, i_under, i_undld, i_ldcs, i_sw, q_swc0, q_swc1, q_lg0, q_lg1, q_lent0, q_lent1, lset, lset2, q_lins0, q_lins1, q_ldel0, q_ldel1, q_ldel20, q_ldel21, q_lkeep0, q_lkeep1, q_memb0, q_memb1, cat2, Nat.reduceBEq, decide_true, decide_false, decide_eq_true_eq, cond_true, cond_false, Bool.and_true, Bool.and_false, Bool.true_and, Bool.false_and, f_iadd, f_isub, f_imul, f_ishl, f_ishr, f_iushr, f_iand, f_ior, f_idiv, f_irem, f_ineg, f_i2b, f_i2s, f_ladd, f_lmul, c_eq, c_ne, c_lt, c_ge, c_gt, c_le, cc_eq, cc_ne, cc_lt, cc_ge, cc_gt, cc_le, rfo, aof, csum, Value.category, List.take, List.drop, List.reverse, List.reverseAux, List.map, List.sum_cons, List.sum_nil, List.cons_append, List.nil_append, Option.toList, List.mem_cons, List.not_mem_nil, List.length_cons, List.length_nil, reduceIte, Nat.reduceEqDiff, Nat.reduceAdd, Nat.reduceLeDiff, Nat.reduceLT, a_day, Nat.zero_ne_one, Nat.one_ne_zero, false_and, and_false, true_and, and_true, or_false, false_or, or_true, true_or, not_true_eq_false, not_false_eq_true, Nat.zero_add, Nat.add_zero, Nat.le_refl, Nat.lt_irrefl, Nat.zero_lt_succ, Nat.zero_le, forall_const, List.cons.injEq, Value.int.injEq, Value.ref.injEq, Value.long.injEq, and_assoc, exists_and_left, exists_eq_left']
        try simp only [forall_eq]
        exact ⟨fun z => z.elim, hb (fun q => c2 q.2)⟩
    · subst hB6
      unfold BX6_set_6
      generalize hB14 : BX6_set_14 g Q (T_X6_isOf g) (T_X6_isFit g) (T_X6_get g) = B14
      simp only [T_X6_isOf, T_X6_isFit, T_X6_get, i_const, i_lconst, i_iload, i_aload, i_lload, i_istore, i_astore, i_lstore, i_iinc, i_bin, i_div, i_un, i_i2l, i_l2i, i_lbin, i_lcmp, i_if, i_icmp, i_dup, i_dup_x1, i_dup2, i_pop, i_geti, i_getr, i_getd, i_puti, i_putz, i_putd, i_iald, i_bald, i_aald, i_iast, i_bast, i_alen, i_keep, i_ret, i_retz, i_reta, i_retl, i_retv, i_callv, i_callk, i_calls, i_mm, i_copy, i_under, i_undld, i_ldcs, i_sw, q_swc0, q_swc1, q_lg0, q_lg1, q_lent0, q_lent1, lset, lset2, q_lins0, q_lins1, q_ldel0, q_ldel1, q_ldel20, q_ldel21, q_lkeep0, q_lkeep1, q_memb0, q_memb1, cat2, Nat.reduceBEq, decide_true, decide_false, decide_eq_true_eq, cond_true, cond_false, Bool.and_true, Bool.and_false, Bool.true_and, Bool.false_and, f_iadd, f_isub, f_imul, f_ishl, f_ishr, f_iushr, f_iand, f_ior, f_idiv, f_irem, f_ineg, f_i2b, f_i2s, f_ladd, f_lmul, c_eq, c_ne, c_lt, c_ge, c_gt, c_le, cc_eq, cc_ne, cc_lt, cc_ge, cc_gt, cc_le, rfo, aof, csum, Value.category, List.take, List.drop, List.reverse, List.reverseAux, List.map, List.sum_cons, List.sum_nil, List.cons_append, List.nil_append, Option.toList, List.mem_cons, List.not_mem_nil, List.length_cons, List.length_nil, reduceIte, Nat.reduceEqDiff, Nat.reduceAdd, Nat.reduceLeDiff, Nat.reduceLT, a_day, Nat.zero_ne_one, Nat.one_ne_zero, false_and, and_false, true_and, and_true, or_false, false_or, or_true, true_or, not_true_eq_false, not_false_eq_true, Nat.zero_add, Nat.add_zero, Nat.le_refl, Nat.lt_irrefl, Nat.zero_lt_succ, Nat.zero_le, forall_const, List.cons.injEq, Value.int.injEq, Value.ref.injEq, Value.long.injEq, and_assoc, exists_and_left, exists_eq_left']
      try simp only [forall_eq]
      exact ⟨hb (fun q => c1 q.1), fun z => z.elim⟩
def seamOK (k n e : Int32) : Prop := ((0 ≤ k ∧ k ≤ 5) ∧ (0 ≤ n ∧ n ≤ 9)) ∧ 0 ≤ e ∧ e / 100 ≤ e - e / 100 * 100 ∧ e - e / 100 * 100 ≤ 15
theorem seam_e {e : Int32} (h0 : 0 ≤ e) : ∃ j, j < 2 ^ 31 ∧ e = nI j ∧ e / 100 = nI (j / 100) ∧ e - e / 100 * 100 = nI (j % 100) := by
  obtain ⟨j, hj, rfl⟩ := nI_of (i_not_lt.mpr h0)
  exact ⟨j, hj, rfl, pk_div (d := 100) hj (by decide) (by decide), pk_rem (d := 100) hj (by decide) (by decide)⟩
def T_X6_seam (g : WG) (as : List Value) (M : MM) (Q : Option Value → MM → Prop) : Prop := ∃ k n e, as = [.ref 76, .int k, .int n, .int e] ∧ okM M ∧ zM M ∧ dn (dm M) ≤ 6 ∧ (¬ seamOK k n e → Q (some (.int (-2))) M) ∧ (seamOK k n e → dn (dm M) = 6 → Q (some (.int (-4))) M) ∧ (seamOK k n e → dn (dm M) < 6 → ∀ M', Sm (fun a b => (78 ≤ a ∧ a ≤ 83 ∧ b = dn (dm M)) ∨ (a = 76 ∧ b = 2)) M M' → dm M' = addD (dm M) k n (e / 100) (e - e / 100 * 100) → zM M' → Q (some (.int (nI (dn (dm M))))) M')
set_option maxRecDepth 100000 in
set_option maxHeartbeats 2000000 in
theorem t_X6_seam {l : Launch} {g : WG} (hg : Full g) : Ct l g yX6_seam cX6_seam 4 ((Option.some FieldType.int)) 3 (T_X6_seam g) := by
  refine Ct.of (by decide) (fun as M Q h => ?_) (fun p e s m args below meth c as M Q h C => ?_)
  · obtain ⟨k, nu, ee, rfl, ho, hz, hn6, hb, hf, h⟩ := h; exact ⟨by simp, by simp [Value.category]⟩
  · obtain ⟨k, nu, ee, rfl, ho, hz, hn6, hb, hf, h⟩ := h
    have hmany := ho.many
    refine s_of (fun lv st M0 hs => ?_) (WX6_seam_0 C (t_X6_within hg) (by decide) (t_X6_isHour hg) (by decide) (t_X6_newSeam hg) (by decide))
    obtain ⟨rfl, rfl, rfl⟩ := hs
    unfold BX6_seam_0
    generalize hB6 : BX6_seam_6 g Q (T_X6_within g) (T_X6_isHour g) (T_X6_newSeam g) = B6
    simp only [T_X6_within, T_X6_isHour, T_X6_newSeam, i_const, i_lconst, i_iload, i_aload, i_lload, i_istore, i_astore, i_lstore, i_iinc, i_bin, i_div, i_un, i_i2l, i_l2i, i_lbin, i_lcmp, i_if, i_icmp, i_dup, i_dup_x1, i_dup2, i_pop, i_geti, i_getr, i_getd, i_puti, i_putz, i_putd, i_iald, i_bald, i_aald, i_iast, i_bast, i_alen, i_keep, i_ret, i_retz, i_reta, i_retl, i_retv, i_callv, i_callk, i_calls, i_mm, i_copy, i_under, i_undld, i_ldcs, i_sw, q_swc0, q_swc1, q_lg0, q_lg1, q_lent0, q_lent1, lset, lset2, q_lins0, q_lins1, q_ldel0, q_ldel1, q_ldel20, q_ldel21, q_lkeep0, q_lkeep1, q_memb0, q_memb1, cat2, Nat.reduceBEq, decide_true, decide_false, decide_eq_true_eq, cond_true, cond_false, Bool.and_true, Bool.and_false, Bool.true_and, Bool.false_and, f_iadd, f_isub, f_imul, f_ishl, f_ishr, f_iushr, f_iand, f_ior, f_idiv, f_irem, f_ineg, f_i2b, f_i2s, f_ladd, f_lmul, c_eq, c_ne, c_lt, c_ge, c_gt, c_le, cc_eq, cc_ne, cc_lt, cc_ge, cc_gt, cc_le, rfo, aof, csum, Value.category, List.take, List.drop, List.reverse, List.reverseAux, List.map, List.sum_cons, List.sum_nil, List.cons_append, List.nil_append, Option.toList, List.mem_cons, List.not_mem_nil, List.length_cons, List.length_nil, reduceIte, Nat.reduceEqDiff, Nat.reduceAdd, Nat.reduceLeDiff, Nat.reduceLT, a_day, Nat.zero_ne_one, Nat.one_ne_zero, false_and, and_false, true_and, and_true, or_false, false_or, or_true, true_or, not_true_eq_false, not_false_eq_true, Nat.zero_add, Nat.add_zero, Nat.le_refl, Nat.lt_irrefl, Nat.zero_lt_succ, Nat.zero_le, forall_const, List.cons.injEq, Value.int.injEq, Value.ref.injEq, Value.long.injEq, and_assoc, exists_and_left, exists_eq_left']
    try simp only [forall_eq]
    subst hB6
    unfold BX6_seam_6
    generalize hB16 : BX6_seam_16 g Q (T_X6_within g) (T_X6_isHour g) (T_X6_newSeam g) = B16
    simp only [T_X6_within, T_X6_isHour, T_X6_newSeam, i_const, i_lconst, i_iload, i_aload, i_lload, i_istore, i_astore, i_lstore, i_iinc, i_bin, i_div, i_un, i_i2l, i_l2i, i_lbin, i_lcmp, i_if, i_icmp, i_dup, i_dup_x1, i_dup2, i_pop, i_geti, i_getr, i_getd, i_puti, i_putz, i_putd, i_iald, i_bald, i_aald, i_iast, i_bast, i_alen, i_keep, i_ret, i_retz, i_reta, i_retl, i_retv, i_callv, i_callk, i_calls, i_mm, i_copy, i_under, i_undld, i_ldcs, i_sw, q_swc0, q_swc1, q_lg0, q_lg1, q_lent0, q_lent1, lset, lset2, q_lins0, q_lins1, q_ldel0, q_ldel1, q_ldel20, q_ldel21, q_lkeep0, q_lkeep1, q_memb0, q_memb1, cat2, Nat.reduceBEq, decide_true, decide_false, decide_eq_true_eq, cond_true, cond_false, Bool.and_true, Bool.and_false, Bool.true_and, Bool.false_and, f_iadd, f_isub, f_imul, f_ishl, f_ishr, f_iushr, f_iand, f_ior, f_idiv, f_irem, f_ineg, f_i2b, f_i2s, f_ladd, f_lmul, c_eq, c_ne, c_lt, c_ge, c_gt, c_le, cc_eq, cc_ne, cc_lt, cc_ge, cc_gt, cc_le, rfo, aof, csum, Value.category, List.take, List.drop, List.reverse, List.reverseAux, List.map, List.sum_cons, List.sum_nil, List.cons_append, List.nil_append, Option.toList, List.mem_cons, List.not_mem_nil, List.length_cons, List.length_nil, reduceIte, Nat.reduceEqDiff, Nat.reduceAdd, Nat.reduceLeDiff, Nat.reduceLT, a_day, Nat.zero_ne_one, Nat.one_ne_zero, false_and, and_false, true_and, and_true, or_false, false_or, or_true, true_or, not_true_eq_false, not_false_eq_true, Nat.zero_add, Nat.add_zero, Nat.le_refl, Nat.lt_irrefl, Nat.zero_lt_succ, Nat.zero_le, forall_const, List.cons.injEq, Value.int.injEq, Value.ref.injEq, Value.long.injEq, and_assoc, exists_and_left, exists_eq_left']
    try simp only [forall_eq]
    refine ⟨fun z => hb (fun q => b2n z q.1.1), fun z1 => ?_⟩
    subst hB16
    unfold BX6_seam_16
    generalize hB30 : BX6_seam_30 g Q (T_X6_within g) (T_X6_isHour g) (T_X6_newSeam g) = B30
    simp only [T_X6_within, T_X6_isHour, T_X6_newSeam, i_const, i_lconst, i_iload, i_aload, i_lload, i_istore, i_astore, i_lstore, i_iinc, i_bin, i_div, i_un, i_i2l, i_l2i, i_lbin, i_lcmp, i_if, i_icmp, i_dup, i_dup_x1, i_dup2, i_pop, i_geti, i_getr, i_getd, i_puti, i_putz, i_putd, i_iald, i_bald, i_aald, i_iast, i_bast, i_alen, i_keep, i_ret, i_retz, i_reta, i_retl, i_retv, i_callv, i_callk, i_calls, i_mm, i_copy, i_under, i_undld, i_ldcs, i_sw, q_swc0, q_swc1, q_lg0, q_lg1, q_lent0, q_lent1, lset, lset2, q_lins0, q_lins1, q_ldel0, q_ldel1, q_ldel20, q_ldel21, q_lkeep0, q_lkeep1, q_memb0, q_memb1, cat2, Nat.reduceBEq, decide_true, decide_false, decide_eq_true_eq, cond_true, cond_false, Bool.and_true, Bool.and_false, Bool.true_and, Bool.false_and, f_iadd, f_isub, f_imul, f_ishl, f_ishr, f_iushr, f_iand, f_ior, f_idiv, f_irem, f_ineg, f_i2b, f_i2s, f_ladd, f_lmul, c_eq, c_ne, c_lt, c_ge, c_gt, c_le, cc_eq, cc_ne, cc_lt, cc_ge, cc_gt, cc_le, rfo, aof, csum, Value.category, List.take, List.drop, List.reverse, List.reverseAux, List.map, List.sum_cons, List.sum_nil, List.cons_append, List.nil_append, Option.toList, List.mem_cons, List.not_mem_nil, List.length_cons, List.length_nil, reduceIte, Nat.reduceEqDiff, Nat.reduceAdd, Nat.reduceLeDiff, Nat.reduceLT, a_day, Nat.zero_ne_one, Nat.one_ne_zero, false_and, and_false, true_and, and_true, or_false, false_or, or_true, true_or, not_true_eq_false, not_false_eq_true, Nat.zero_add, Nat.add_zero, Nat.le_refl, Nat.lt_irrefl, Nat.zero_lt_succ, Nat.zero_le, forall_const, List.cons.injEq, Value.int.injEq, Value.ref.injEq, Value.long.injEq, and_assoc, exists_and_left, exists_eq_left']
    try simp only [forall_eq]
    refine ⟨fun z => hb (fun q => b2n z q.1.2), fun z2 => ⟨fun z => hb (fun q => i_not_lt.mpr q.2.1 z), fun z3 => ⟨by decide, ?_⟩⟩⟩
    obtain ⟨j, hj, ej, e1, e2⟩ := seam_e (i_not_lt.mp z3)
    have okI : seamOK k nu ee → nI (j / 100) ≤ nI (j % 100) ∧ nI (j % 100) ≤ 15 := fun q => by
      have q2 := q.2.2
      rw [e1] at e2
      rw [e1, e2] at q2
      exact q2
    have okR' : nI (j / 100) ≤ nI (j % 100) ∧ nI (j % 100) ≤ 15 → seamOK k nu ee := fun q => by
      refine ⟨⟨b2t z1, b2t z2⟩, i_not_lt.mp z3, ?_⟩
      rw [e1] at e2
      rw [e1, e2]
      exact q
    rw [e2] at h
    rw [e1] at e2 h ⊢
    subst hB30
    unfold BX6_seam_30
    generalize hB46 : BX6_seam_46 g Q (T_X6_within g) (T_X6_isHour g) (T_X6_newSeam g) = B46
    simp only [T_X6_within, T_X6_isHour, T_X6_newSeam, i_const, i_lconst, i_iload, i_aload, i_lload, i_istore, i_astore, i_lstore, i_iinc, i_bin, i_div, i_un, i_i2l, i_l2i, i_lbin, i_lcmp, i_if, i_icmp, i_dup, i_dup_x1, i_dup2, i_pop, i_geti, i_getr, i_getd, i_puti, i_putz, i_putd, i_iald, i_bald, i_aald, i_iast, i_bast, i_alen, i_keep, i_ret, i_retz, i_reta, i_retl, i_retv, i_callv, i_callk, i_calls, i_mm, i_copy, i_under, i_undld, i_ldcs, i_sw, q_swc0, q_swc1, q_lg0, q_lg1, q_lent0, q_lent1, lset, lset2, q_lins0, q_lins1, q_ldel0, q_ldel1, q_ldel20, q_ldel21, q_lkeep0, q_lkeep1, q_memb0, q_memb1, cat2, Nat.reduceBEq, decide_true, decide_false, decide_eq_true_eq, cond_true, cond_false, Bool.and_true, Bool.and_false, Bool.true_and, Bool.false_and, f_iadd, f_isub, f_imul, f_ishl, f_ishr, f_iushr, f_iand, f_ior, f_idiv, f_irem, f_ineg, f_i2b, f_i2s, f_ladd, f_lmul, c_eq, c_ne, c_lt, c_ge, c_gt, c_le, cc_eq, cc_ne, cc_lt, cc_ge, cc_gt, cc_le, rfo, aof, csum, Value.category, List.take, List.drop, List.reverse, List.reverseAux, List.map, List.sum_cons, List.sum_nil, List.cons_append, List.nil_append, Option.toList, List.mem_cons, List.not_mem_nil, List.length_cons, List.length_nil, reduceIte, Nat.reduceEqDiff, Nat.reduceAdd, Nat.reduceLeDiff, Nat.reduceLT, a_day, Nat.zero_ne_one, Nat.one_ne_zero, false_and, and_false, true_and, and_true, or_false, false_or, or_true, true_or, not_true_eq_false, not_false_eq_true, Nat.zero_add, Nat.add_zero, Nat.le_refl, Nat.lt_irrefl, Nat.zero_lt_succ, Nat.zero_le, forall_const, List.cons.injEq, Value.int.injEq, Value.ref.injEq, Value.long.injEq, and_assoc, exists_and_left, exists_eq_left']
    try simp only [forall_eq]
    refine ⟨fun z => hb (fun q => ?_), fun z4 => ⟨by decide, by decide, ?_⟩⟩
    · have q0 := okI q
      have q1 := (nI_leI (by omega) (by omega)).mp q0.1
      have q2 := (nI_leI (b := 15) (by omega) (by decide)).mp q0.2
      exact b2n z ⟨nI_pos' (by omega), nI_le (b := 15) (by omega) (by decide)⟩
    rw [e1, e2]
    subst hB46
    unfold BX6_seam_46
    simp only [T_X6_within, T_X6_isHour, T_X6_newSeam, i_const, i_lconst, i_iload, i_aload, i_lload, i_istore, i_astore, i_lstore, i_iinc, i_bin, i_div, i_un, i_i2l, i_l2i, i_lbin, i_lcmp, i_if, i_icmp, i_dup, i_dup_x1, i_dup2, i_pop, i_geti, i_getr, i_getd, i_puti, i_putz, i_putd, i_iald, i_bald, i_aald, i_iast, i_bast, i_alen, i_keep, i_ret, i_retz, i_reta, i_retl, i_retv, i_callv, i_callk, i_calls, i_mm, i_copy, i_under, i_undld, i_ldcs, i_sw, q_swc0, q_swc1, q_lg0, q_lg1, q_lent0, q_lent1, lset, lset2, q_lins0, q_lins1, q_ldel0, q_ldel1, q_ldel20, q_ldel21, q_lkeep0, q_lkeep1, q_memb0, q_memb1, cat2, Nat.reduceBEq, decide_true, decide_false, decide_eq_true_eq, cond_true, cond_false, Bool.and_true, Bool.and_false, Bool.true_and, Bool.false_and, f_iadd, f_isub, f_imul, f_ishl, f_ishr, f_iushr, f_iand, f_ior, f_idiv, f_irem, f_ineg, f_i2b, f_i2s, f_ladd, f_lmul, c_eq, c_ne, c_lt, c_ge, c_gt, c_le, cc_eq, cc_ne, cc_lt, cc_ge, cc_gt, cc_le, rfo, aof, csum, Value.category, List.take, List.drop, List.reverse, List.reverseAux, List.map, List.sum_cons, List.sum_nil, List.cons_append, List.nil_append, Option.toList, List.mem_cons, List.not_mem_nil, List.length_cons, List.length_nil, reduceIte, Nat.reduceEqDiff, Nat.reduceAdd, Nat.reduceLeDiff, Nat.reduceLT, a_day, Nat.zero_ne_one, Nat.one_ne_zero, false_and, and_false, true_and, and_true, or_false, false_or, or_true, true_or, not_true_eq_false, not_false_eq_true, Nat.zero_add, Nat.add_zero, Nat.le_refl, Nat.lt_irrefl, Nat.zero_lt_succ, Nat.zero_le, forall_const, List.cons.injEq, Value.int.injEq, Value.ref.injEq, Value.long.injEq, and_assoc, exists_and_left, exists_eq_left']
    try simp only [forall_eq]
    refine ⟨fun z5 => ?_, fun z5 => hb (fun q => b2n (Decidable.not_not.mp z5) (okI q))⟩
    have ok : seamOK k nu ee := okR' (b2t z5)
    rw [hmany, e1, e2]
    refine ⟨m_76 hg, fun y => ⟨by decide, by decide, (m_76 hg).1, (m_76 hg).2.1, dn (dm M0), rfl, by omega, ?_⟩, fun y => ?_⟩
    · have hlt : dn (dm M0) < 6 := by
        rcases Nat.lt_or_ge (dn (dm M0)) 6 with q | q
        · exact q
        · exact absurd (by rw [show dn (dm M0) = 6 by omega]; rfl) y
      refine h ok hlt _ ?_ (dm_addD hn6 ?_ ?_ ?_ ?_ ?_ ?_ ?_ ?_ ?_ ?_ ?_) ?_
      · exact ((((((Sm.rf.set _ (by omega)).set _ (by omega)).set _ (by omega)).set _ (by omega)).set _ (by omega)).set _ (by omega)).set _ (by omega)
      · intro i; simp [mset_app]
      · rw [ms_s, nI_1]
      · simp [mset_app]
      · simp [mset_app]
      · intro f s h0 h7 hs
        have : ¬ s = dn (dm M0) := by omega
        have h76 : ¬ 77 + f = 76 := by omega
        simp [mset_app, this, h76]
      · simp [mset_app]
      · simp [mset_app]
      · simp [mset_app]
      · simp [mset_app]
      · simp [mset_app]
      · simp [mset_app]
      · intro s hs
        rw [ms_q (by decide), mset_app, if_pos rfl]
        split
        · exact Or.inl rfl
        · simp only [mset_app]; exact hz s hs
    · have y := Decidable.not_not.mp y
      exact hf ok ((nI_eq (b := 6) (by omega) (by decide)).mp y)
    
